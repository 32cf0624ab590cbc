/-! METHODS: who they are by the tables; links (by program) -/
def m_X0_init : zY := (zR0, ⟨zR0, "<init>", "()V"⟩, prog_2_method_1_code, 1, none, [])
theorem ck_X0_init : zCk m_X0_init 0 := ⟨z_in0 (zc_1 _ (List.mem_of_getElem? (i := 64) rfl)) rfl, z_in0 (zc_1 _ (List.mem_of_getElem? (i := 3) rfl)) rfl, by decide +kernel, by decide +kernel, by decide +kernel, by decide +kernel⟩
theorem ci_X0_init : Cond.instanceMethod (yN m_X0_init) ∈ z_T := z_in0 (zc_1 _ (List.mem_of_getElem? (i := 63) rfl)) rfl
def m_X0_clear : zY := (zR0, ⟨zR0, "clear", "()V"⟩, prog_2_method_2_code, 1, none, [])
theorem ck_X0_clear : zCk m_X0_clear 0 := ⟨z_in0 (zc_4 _ (List.mem_of_getElem? (i := 90) rfl)) rfl, z_in0 (zc_1 _ (List.mem_of_getElem? (i := 3) rfl)) rfl, by decide +kernel, by decide +kernel, by decide +kernel, by decide +kernel⟩
theorem ci_X0_clear : Cond.instanceMethod (yN m_X0_clear) ∈ z_T := z_in0 (zc_4 _ (List.mem_of_getElem? (i := 88) rfl)) rfl
theorem cv_X0_clear : Cond.selects (yN m_X0_clear).cls (yN m_X0_clear) (yN m_X0_clear) ∈ z_T := z_in0 (zc_4 _ (List.mem_of_getElem? (i := 89) rfl)) rfl
def m_X0_copyFrom : zY := (zR0, ⟨zR0, "copyFrom", "(LCoveredSigns$Alphabet;)V"⟩, prog_2_method_3_code, 2, none, [])
theorem ck_X0_copyFrom : zCk m_X0_copyFrom 1 := ⟨z_in0 (zc_5 _ (List.mem_of_getElem? (i := 29) rfl)) rfl, z_in0 (zc_1 _ (List.mem_of_getElem? (i := 3) rfl)) rfl, by decide +kernel, by decide +kernel, by decide +kernel, by decide +kernel⟩
theorem ci_X0_copyFrom : Cond.instanceMethod (yN m_X0_copyFrom) ∈ z_T := z_in0 (zc_5 _ (List.mem_of_getElem? (i := 27) rfl)) rfl
theorem cv_X0_copyFrom : Cond.selects (yN m_X0_copyFrom).cls (yN m_X0_copyFrom) (yN m_X0_copyFrom) ∈ z_T := z_in0 (zc_5 _ (List.mem_of_getElem? (i := 28) rfl)) rfl
def m_X0_cells : zY := (zR0, ⟨zR0, "cells", "()I"⟩, prog_2_method_4_code, 1, some .int, [])
theorem ck_X0_cells : zCk m_X0_cells 0 := ⟨z_in0 (zc_2 _ (List.mem_of_getElem? (i := 191) rfl)) rfl, z_in0 (zc_1 _ (List.mem_of_getElem? (i := 3) rfl)) rfl, by decide +kernel, by decide +kernel, by decide +kernel, by decide +kernel⟩
theorem ci_X0_cells : Cond.instanceMethod (yN m_X0_cells) ∈ z_T := z_in0 (zc_2 _ (List.mem_of_getElem? (i := 189) rfl)) rfl
theorem cv_X0_cells : Cond.selects (yN m_X0_cells).cls (yN m_X0_cells) (yN m_X0_cells) ∈ z_T := z_in0 (zc_2 _ (List.mem_of_getElem? (i := 190) rfl)) rfl
def m_X0_board : zY := (zR0, ⟨zR0, "board", "()I"⟩, prog_2_method_5_code, 1, some .int, [])
theorem ck_X0_board : zCk m_X0_board 0 := ⟨z_in0 (zc_3 _ (List.mem_of_getElem? (i := 180) rfl)) rfl, z_in0 (zc_1 _ (List.mem_of_getElem? (i := 3) rfl)) rfl, by decide +kernel, by decide +kernel, by decide +kernel, by decide +kernel⟩
theorem ci_X0_board : Cond.instanceMethod (yN m_X0_board) ∈ z_T := z_in0 (zc_3 _ (List.mem_of_getElem? (i := 178) rfl)) rfl
theorem cv_X0_board : Cond.selects (yN m_X0_board).cls (yN m_X0_board) (yN m_X0_board) ∈ z_T := z_in0 (zc_3 _ (List.mem_of_getElem? (i := 179) rfl)) rfl
def m_X0_has : zY := (zR0, ⟨zR0, "has", "(I)Z"⟩, prog_2_method_6_code, 2, some .boolean, [])
theorem ck_X0_has : zCk m_X0_has 1 := ⟨z_in0 (zc_2 _ (List.mem_of_getElem? (i := 199) rfl)) rfl, z_in0 (zc_1 _ (List.mem_of_getElem? (i := 3) rfl)) rfl, by decide +kernel, by decide +kernel, by decide +kernel, by decide +kernel⟩
theorem ci_X0_has : Cond.instanceMethod (yN m_X0_has) ∈ z_T := z_in0 (zc_2 _ (List.mem_of_getElem? (i := 197) rfl)) rfl
theorem cv_X0_has : Cond.selects (yN m_X0_has).cls (yN m_X0_has) (yN m_X0_has) ∈ z_T := z_in0 (zc_2 _ (List.mem_of_getElem? (i := 198) rfl)) rfl
def m_X0_paintOf : zY := (zR0, ⟨zR0, "paintOf", "(I)I"⟩, prog_2_method_7_code, 2, some .int, [])
theorem ck_X0_paintOf : zCk m_X0_paintOf 1 := ⟨z_in0 (zc_2 _ (List.mem_of_getElem? (i := 195) rfl)) rfl, z_in0 (zc_1 _ (List.mem_of_getElem? (i := 3) rfl)) rfl, by decide +kernel, by decide +kernel, by decide +kernel, by decide +kernel⟩
theorem ci_X0_paintOf : Cond.instanceMethod (yN m_X0_paintOf) ∈ z_T := z_in0 (zc_2 _ (List.mem_of_getElem? (i := 193) rfl)) rfl
theorem cv_X0_paintOf : Cond.selects (yN m_X0_paintOf).cls (yN m_X0_paintOf) (yN m_X0_paintOf) ∈ z_T := z_in0 (zc_2 _ (List.mem_of_getElem? (i := 194) rfl)) rfl
def m_X0_familyOf : zY := (zR0, ⟨zR0, "familyOf", "(I)I"⟩, prog_2_method_8_code, 2, some .int, [])
theorem ck_X0_familyOf : zCk m_X0_familyOf 1 := ⟨z_in0 (zc_3 _ (List.mem_of_getElem? (i := 37) rfl)) rfl, z_in0 (zc_1 _ (List.mem_of_getElem? (i := 3) rfl)) rfl, by decide +kernel, by decide +kernel, by decide +kernel, by decide +kernel⟩
theorem ci_X0_familyOf : Cond.instanceMethod (yN m_X0_familyOf) ∈ z_T := z_in0 (zc_3 _ (List.mem_of_getElem? (i := 35) rfl)) rfl
theorem cv_X0_familyOf : Cond.selects (yN m_X0_familyOf).cls (yN m_X0_familyOf) (yN m_X0_familyOf) ∈ z_T := z_in0 (zc_3 _ (List.mem_of_getElem? (i := 36) rfl)) rfl
def m_X0_lengthOf : zY := (zR0, ⟨zR0, "lengthOf", "(I)I"⟩, prog_2_method_9_code, 2, some .int, [])
theorem ck_X0_lengthOf : zCk m_X0_lengthOf 1 := ⟨z_in0 (zc_2 _ (List.mem_of_getElem? (i := 237) rfl)) rfl, z_in0 (zc_1 _ (List.mem_of_getElem? (i := 3) rfl)) rfl, by decide +kernel, by decide +kernel, by decide +kernel, by decide +kernel⟩
theorem ci_X0_lengthOf : Cond.instanceMethod (yN m_X0_lengthOf) ∈ z_T := z_in0 (zc_2 _ (List.mem_of_getElem? (i := 235) rfl)) rfl
theorem cv_X0_lengthOf : Cond.selects (yN m_X0_lengthOf).cls (yN m_X0_lengthOf) (yN m_X0_lengthOf) ∈ z_T := z_in0 (zc_2 _ (List.mem_of_getElem? (i := 236) rfl)) rfl
def m_X0_letterOf : zY := (zR0, ⟨zR0, "letterOf", "(II)I"⟩, prog_2_method_10_code, 3, some .int, [])
theorem ck_X0_letterOf : zCk m_X0_letterOf 2 := ⟨z_in0 (zc_3 _ (List.mem_of_getElem? (i := 19) rfl)) rfl, z_in0 (zc_1 _ (List.mem_of_getElem? (i := 3) rfl)) rfl, by decide +kernel, by decide +kernel, by decide +kernel, by decide +kernel⟩
theorem ci_X0_letterOf : Cond.instanceMethod (yN m_X0_letterOf) ∈ z_T := z_in0 (zc_3 _ (List.mem_of_getElem? (i := 17) rfl)) rfl
theorem cv_X0_letterOf : Cond.selects (yN m_X0_letterOf).cls (yN m_X0_letterOf) (yN m_X0_letterOf) ∈ z_T := z_in0 (zc_3 _ (List.mem_of_getElem? (i := 18) rfl)) rfl
def m_X0_addSign : zY := (zR0, ⟨zR0, "addSign", "(I)Z"⟩, prog_2_method_11_code, 2, some .boolean, [])
theorem ck_X0_addSign : zCk m_X0_addSign 1 := ⟨z_in0 (zc_4 _ (List.mem_of_getElem? (i := 186) rfl)) rfl, z_in0 (zc_1 _ (List.mem_of_getElem? (i := 3) rfl)) rfl, by decide +kernel, by decide +kernel, by decide +kernel, by decide +kernel⟩
theorem ci_X0_addSign : Cond.instanceMethod (yN m_X0_addSign) ∈ z_T := z_in0 (zc_4 _ (List.mem_of_getElem? (i := 184) rfl)) rfl
theorem cv_X0_addSign : Cond.selects (yN m_X0_addSign).cls (yN m_X0_addSign) (yN m_X0_addSign) ∈ z_T := z_in0 (zc_4 _ (List.mem_of_getElem? (i := 185) rfl)) rfl
def m_X0_setFamily : zY := (zR0, ⟨zR0, "setFamily", "(II)V"⟩, prog_2_method_12_code, 3, none, [])
theorem ck_X0_setFamily : zCk m_X0_setFamily 2 := ⟨z_in0 (zc_4 _ (List.mem_of_getElem? (i := 229) rfl)) rfl, z_in0 (zc_1 _ (List.mem_of_getElem? (i := 3) rfl)) rfl, by decide +kernel, by decide +kernel, by decide +kernel, by decide +kernel⟩
theorem ci_X0_setFamily : Cond.instanceMethod (yN m_X0_setFamily) ∈ z_T := z_in0 (zc_4 _ (List.mem_of_getElem? (i := 227) rfl)) rfl
theorem cv_X0_setFamily : Cond.selects (yN m_X0_setFamily).cls (yN m_X0_setFamily) (yN m_X0_setFamily) ∈ z_T := z_in0 (zc_4 _ (List.mem_of_getElem? (i := 228) rfl)) rfl
def m_X0_setLatest : zY := (zR0, ⟨zR0, "setLatest", "(I)V"⟩, prog_2_method_13_code, 2, none, [])
theorem ck_X0_setLatest : zCk m_X0_setLatest 1 := ⟨z_in0 (zc_4 _ (List.mem_of_getElem? (i := 200) rfl)) rfl, z_in0 (zc_1 _ (List.mem_of_getElem? (i := 3) rfl)) rfl, by decide +kernel, by decide +kernel, by decide +kernel, by decide +kernel⟩
theorem ci_X0_setLatest : Cond.instanceMethod (yN m_X0_setLatest) ∈ z_T := z_in0 (zc_4 _ (List.mem_of_getElem? (i := 198) rfl)) rfl
theorem cv_X0_setLatest : Cond.selects (yN m_X0_setLatest).cls (yN m_X0_setLatest) (yN m_X0_setLatest) ∈ z_T := z_in0 (zc_4 _ (List.mem_of_getElem? (i := 199) rfl)) rfl
def m_X0_addLetter : zY := (zR0, ⟨zR0, "addLetter", "(II)Z"⟩, prog_2_method_14_code, 3, some .boolean, [])
theorem ck_X0_addLetter : zCk m_X0_addLetter 2 := ⟨z_in0 (zc_5 _ (List.mem_of_getElem? (i := 1) rfl)) rfl, z_in0 (zc_1 _ (List.mem_of_getElem? (i := 3) rfl)) rfl, by decide +kernel, by decide +kernel, by decide +kernel, by decide +kernel⟩
theorem ci_X0_addLetter : Cond.instanceMethod (yN m_X0_addLetter) ∈ z_T := z_in0 (zc_4 _ (List.mem_of_getElem? (i := 239) rfl)) rfl
theorem cv_X0_addLetter : Cond.selects (yN m_X0_addLetter).cls (yN m_X0_addLetter) (yN m_X0_addLetter) ∈ z_T := z_in0 (zc_5 _ (List.mem_of_getElem? (i := 0) rfl)) rfl
def m_X0_endWord : zY := (zR0, ⟨zR0, "endWord", "(I)Z"⟩, prog_2_method_15_code, 2, some .boolean, [])
theorem ck_X0_endWord : zCk m_X0_endWord 1 := ⟨z_in0 (zc_5 _ (List.mem_of_getElem? (i := 9) rfl)) rfl, z_in0 (zc_1 _ (List.mem_of_getElem? (i := 3) rfl)) rfl, by decide +kernel, by decide +kernel, by decide +kernel, by decide +kernel⟩
theorem ci_X0_endWord : Cond.instanceMethod (yN m_X0_endWord) ∈ z_T := z_in0 (zc_5 _ (List.mem_of_getElem? (i := 7) rfl)) rfl
theorem cv_X0_endWord : Cond.selects (yN m_X0_endWord).cls (yN m_X0_endWord) (yN m_X0_endWord) ∈ z_T := z_in0 (zc_5 _ (List.mem_of_getElem? (i := 8) rfl)) rfl
def m_X0_halfTurned : zY := (zR0, ⟨zR0, "halfTurned", "(I)I"⟩, prog_2_method_16_code, 5, some .int, [])
theorem ck_X0_halfTurned : zCk m_X0_halfTurned 1 := ⟨z_in0 (zc_4 _ (List.mem_of_getElem? (i := 215) rfl)) rfl, z_in0 (zc_1 _ (List.mem_of_getElem? (i := 3) rfl)) rfl, by decide +kernel, by decide +kernel, by decide +kernel, by decide +kernel⟩
theorem ci_X0_halfTurned : Cond.instanceMethod (yN m_X0_halfTurned) ∈ z_T := z_in0 (zc_4 _ (List.mem_of_getElem? (i := 213) rfl)) rfl
theorem cv_X0_halfTurned : Cond.selects (yN m_X0_halfTurned).cls (yN m_X0_halfTurned) (yN m_X0_halfTurned) ∈ z_T := z_in0 (zc_4 _ (List.mem_of_getElem? (i := 214) rfl)) rfl
def m_X0_mirrored : zY := (zR0, ⟨zR0, "mirrored", "(I)I"⟩, prog_2_method_17_code, 5, some .int, [])
theorem ck_X0_mirrored : zCk m_X0_mirrored 1 := ⟨z_in0 (zc_4 _ (List.mem_of_getElem? (i := 219) rfl)) rfl, z_in0 (zc_1 _ (List.mem_of_getElem? (i := 3) rfl)) rfl, by decide +kernel, by decide +kernel, by decide +kernel, by decide +kernel⟩
theorem ci_X0_mirrored : Cond.instanceMethod (yN m_X0_mirrored) ∈ z_T := z_in0 (zc_4 _ (List.mem_of_getElem? (i := 217) rfl)) rfl
theorem cv_X0_mirrored : Cond.selects (yN m_X0_mirrored).cls (yN m_X0_mirrored) (yN m_X0_mirrored) ∈ z_T := z_in0 (zc_4 _ (List.mem_of_getElem? (i := 218) rfl)) rfl
def m_X0_columnCells : zY := (zR0, ⟨zR0, "columnCells", "(I)I"⟩, prog_2_method_18_code, 4, some .int, [])
theorem ck_X0_columnCells : zCk m_X0_columnCells 1 := ⟨z_in0 (zc_3 _ (List.mem_of_getElem? (i := 185) rfl)) rfl, z_in0 (zc_1 _ (List.mem_of_getElem? (i := 3) rfl)) rfl, by decide +kernel, by decide +kernel, by decide +kernel, by decide +kernel⟩
theorem ci_X0_columnCells : Cond.instanceMethod (yN m_X0_columnCells) ∈ z_T := z_in0 (zc_3 _ (List.mem_of_getElem? (i := 183) rfl)) rfl
theorem cv_X0_columnCells : Cond.selects (yN m_X0_columnCells).cls (yN m_X0_columnCells) (yN m_X0_columnCells) ∈ z_T := z_in0 (zc_3 _ (List.mem_of_getElem? (i := 184) rfl)) rfl
def m_X0_within : zY := (zR0, ⟨zR0, "within", "(III)I"⟩, prog_2_method_19_code, 6, some .int, [])
theorem ck_X0_within : zCk m_X0_within 3 := ⟨z_in0 (zc_3 _ (List.mem_of_getElem? (i := 13) rfl)) rfl, z_in0 (zc_1 _ (List.mem_of_getElem? (i := 3) rfl)) rfl, by decide +kernel, by decide +kernel, by decide +kernel, by decide +kernel⟩
theorem ci_X0_within : Cond.instanceMethod (yN m_X0_within) ∈ z_T := z_in0 (zc_3 _ (List.mem_of_getElem? (i := 11) rfl)) rfl
theorem cv_X0_within : Cond.selects (yN m_X0_within).cls (yN m_X0_within) (yN m_X0_within) ∈ z_T := z_in0 (zc_3 _ (List.mem_of_getElem? (i := 12) rfl)) rfl
def m_X0_likest : zY := (zR0, ⟨zR0, "likest", "(II)I"⟩, prog_2_method_20_code, 7, some .int, [])
theorem ck_X0_likest : zCk m_X0_likest 2 := ⟨z_in0 (zc_6 _ (List.mem_of_getElem? (i := 73) rfl)) rfl, z_in0 (zc_1 _ (List.mem_of_getElem? (i := 3) rfl)) rfl, by decide +kernel, by decide +kernel, by decide +kernel, by decide +kernel⟩
theorem ci_X0_likest : Cond.instanceMethod (yN m_X0_likest) ∈ z_T := z_in0 (zc_6 _ (List.mem_of_getElem? (i := 71) rfl)) rfl
theorem cv_X0_likest : Cond.selects (yN m_X0_likest).cls (yN m_X0_likest) (yN m_X0_likest) ∈ z_T := z_in0 (zc_6 _ (List.mem_of_getElem? (i := 72) rfl)) rfl
def m_X0_unlikeCells : zY := (zR0, ⟨zR0, "unlikeCells", "(II)I"⟩, prog_2_method_21_code, 3, some .int, [])
theorem ck_X0_unlikeCells : zCk m_X0_unlikeCells 2 := ⟨z_in0 (zc_3 _ (List.mem_of_getElem? (i := 41) rfl)) rfl, z_in0 (zc_1 _ (List.mem_of_getElem? (i := 3) rfl)) rfl, by decide +kernel, by decide +kernel, by decide +kernel, by decide +kernel⟩
theorem ci_X0_unlikeCells : Cond.instanceMethod (yN m_X0_unlikeCells) ∈ z_T := z_in0 (zc_3 _ (List.mem_of_getElem? (i := 39) rfl)) rfl
theorem cv_X0_unlikeCells : Cond.selects (yN m_X0_unlikeCells).cls (yN m_X0_unlikeCells) (yN m_X0_unlikeCells) ∈ z_T := z_in0 (zc_3 _ (List.mem_of_getElem? (i := 40) rfl)) rfl
def m_X0_unlikestPair : zY := (zR0, ⟨zR0, "unlikestPair", "(I)I"⟩, prog_2_method_22_code, 6, some .int, [])
theorem ck_X0_unlikestPair : zCk m_X0_unlikestPair 1 := ⟨z_in0 (zc_6 _ (List.mem_of_getElem? (i := 138) rfl)) rfl, z_in0 (zc_1 _ (List.mem_of_getElem? (i := 3) rfl)) rfl, by decide +kernel, by decide +kernel, by decide +kernel, by decide +kernel⟩
theorem ci_X0_unlikestPair : Cond.instanceMethod (yN m_X0_unlikestPair) ∈ z_T := z_in0 (zc_6 _ (List.mem_of_getElem? (i := 136) rfl)) rfl
theorem cv_X0_unlikestPair : Cond.selects (yN m_X0_unlikestPair).cls (yN m_X0_unlikestPair) (yN m_X0_unlikestPair) ∈ z_T := z_in0 (zc_6 _ (List.mem_of_getElem? (i := 137) rfl)) rfl
def m_X0_isStranger : zY := (zR0, ⟨zR0, "isStranger", "(I)Z"⟩, prog_2_method_23_code, 5, some .boolean, [])
theorem ck_X0_isStranger : zCk m_X0_isStranger 1 := ⟨z_in0 (zc_3 _ (List.mem_of_getElem? (i := 33) rfl)) rfl, z_in0 (zc_1 _ (List.mem_of_getElem? (i := 3) rfl)) rfl, by decide +kernel, by decide +kernel, by decide +kernel, by decide +kernel⟩
theorem ci_X0_isStranger : Cond.instanceMethod (yN m_X0_isStranger) ∈ z_T := z_in0 (zc_3 _ (List.mem_of_getElem? (i := 31) rfl)) rfl
theorem cv_X0_isStranger : Cond.selects (yN m_X0_isStranger).cls (yN m_X0_isStranger) (yN m_X0_isStranger) ∈ z_T := z_in0 (zc_3 _ (List.mem_of_getElem? (i := 32) rfl)) rfl
def m_X0_fewestRows : zY := (zR0, ⟨zR0, "fewestRows", "(I)I"⟩, prog_2_method_24_code, 4, some .int, [])
theorem ck_X0_fewestRows : zCk m_X0_fewestRows 1 := ⟨z_in0 (zc_6 _ (List.mem_of_getElem? (i := 117) rfl)) rfl, z_in0 (zc_1 _ (List.mem_of_getElem? (i := 3) rfl)) rfl, by decide +kernel, by decide +kernel, by decide +kernel, by decide +kernel⟩
theorem ci_X0_fewestRows : Cond.instanceMethod (yN m_X0_fewestRows) ∈ z_T := z_in0 (zc_6 _ (List.mem_of_getElem? (i := 115) rfl)) rfl
theorem cv_X0_fewestRows : Cond.selects (yN m_X0_fewestRows).cls (yN m_X0_fewestRows) (yN m_X0_fewestRows) ∈ z_T := z_in0 (zc_6 _ (List.mem_of_getElem? (i := 116) rfl)) rfl
def m_X0_numberRows : zY := (zR0, ⟨zR0, "numberRows", "(I)V"⟩, prog_2_method_25_code, 10, none, [])
theorem ck_X0_numberRows : zCk m_X0_numberRows 1 := ⟨z_in0 (zc_6 _ (List.mem_of_getElem? (i := 121) rfl)) rfl, z_in0 (zc_1 _ (List.mem_of_getElem? (i := 3) rfl)) rfl, by decide +kernel, by decide +kernel, by decide +kernel, by decide +kernel⟩
theorem ci_X0_numberRows : Cond.instanceMethod (yN m_X0_numberRows) ∈ z_T := z_in0 (zc_6 _ (List.mem_of_getElem? (i := 120) rfl)) rfl
theorem cv_X0_numberRows : Cond.selects (yN m_X0_numberRows).cls (yN m_X0_numberRows) (yN m_X0_numberRows) ∈ z_T := z_in0 (zp_4 _ (List.mem_of_getElem? (i := 8) rfl)) rfl
def m_X0_findsPartner : zY := (zR0, ⟨zR0, "findsPartner", "(III)Z"⟩, prog_2_method_26_code, 6, some .boolean, [])
theorem ck_X0_findsPartner : zCk m_X0_findsPartner 3 := ⟨z_in0 (zc_6 _ (List.mem_of_getElem? (i := 126) rfl)) rfl, z_in0 (zc_1 _ (List.mem_of_getElem? (i := 3) rfl)) rfl, by decide +kernel, by decide +kernel, by decide +kernel, by decide +kernel⟩
theorem ci_X0_findsPartner : Cond.instanceMethod (yN m_X0_findsPartner) ∈ z_T := z_in0 (zc_6 _ (List.mem_of_getElem? (i := 125) rfl)) rfl
theorem cv_X0_findsPartner : Cond.selects (yN m_X0_findsPartner).cls (yN m_X0_findsPartner) (yN m_X0_findsPartner) ∈ z_T := z_in0 (zp_4 _ (List.mem_of_getElem? (i := 9) rfl)) rfl
def m_X1_init : zY := (zR1, ⟨zR1, "<init>", "(LCoveredSigns$Scan;)V"⟩, prog_3_method_1_code, 2, none, [])
theorem ck_X1_init : zCk m_X1_init 1 := ⟨z_in0 (zc_1 _ (List.mem_of_getElem? (i := 119) rfl)) rfl, z_in0 (zc_1 _ (List.mem_of_getElem? (i := 4) rfl)) rfl, by decide +kernel, by decide +kernel, by decide +kernel, by decide +kernel⟩
theorem ci_X1_init : Cond.instanceMethod (yN m_X1_init) ∈ z_T := z_in0 (zc_1 _ (List.mem_of_getElem? (i := 118) rfl)) rfl
def m_X1_result : zY := (zR1, ⟨zR1, "result", "()LCoveredSigns$Alphabet;"⟩, prog_3_method_2_code, 1, some (.object "CoveredSigns$Alphabet"), [])
theorem ck_X1_result : zCk m_X1_result 0 := ⟨z_in0 (zc_5 _ (List.mem_of_getElem? (i := 25) rfl)) rfl, z_in0 (zc_1 _ (List.mem_of_getElem? (i := 4) rfl)) rfl, by decide +kernel, by decide +kernel, by decide +kernel, by decide +kernel⟩
theorem ci_X1_result : Cond.instanceMethod (yN m_X1_result) ∈ z_T := z_in0 (zc_5 _ (List.mem_of_getElem? (i := 23) rfl)) rfl
theorem cv_X1_result : Cond.selects (yN m_X1_result).cls (yN m_X1_result) (yN m_X1_result) ∈ z_T := z_in0 (zc_5 _ (List.mem_of_getElem? (i := 24) rfl)) rfl
def m_X1_parse : zY := (zR1, ⟨zR1, "parse", "()Z"⟩, prog_3_method_3_code, 2, some .boolean, [])
theorem ck_X1_parse : zCk m_X1_parse 0 := ⟨z_in0 (zc_4 _ (List.mem_of_getElem? (i := 86) rfl)) rfl, z_in0 (zc_1 _ (List.mem_of_getElem? (i := 4) rfl)) rfl, by decide +kernel, by decide +kernel, by decide +kernel, by decide +kernel⟩
theorem ci_X1_parse : Cond.instanceMethod (yN m_X1_parse) ∈ z_T := z_in0 (zc_4 _ (List.mem_of_getElem? (i := 84) rfl)) rfl
theorem cv_X1_parse : Cond.selects (yN m_X1_parse).cls (yN m_X1_parse) (yN m_X1_parse) ∈ z_T := z_in0 (zc_4 _ (List.mem_of_getElem? (i := 85) rfl)) rfl
def m_X1_clause : zY := (zR1, ⟨zR1, "clause", "(I)Z"⟩, prog_3_method_4_code, 3, some .boolean, [])
theorem ck_X1_clause : zCk m_X1_clause 1 := ⟨z_in0 (zc_4 _ (List.mem_of_getElem? (i := 102) rfl)) rfl, z_in0 (zc_1 _ (List.mem_of_getElem? (i := 4) rfl)) rfl, by decide +kernel, by decide +kernel, by decide +kernel, by decide +kernel⟩
theorem ci_X1_clause : Cond.instanceMethod (yN m_X1_clause) ∈ z_T := z_in0 (zc_4 _ (List.mem_of_getElem? (i := 101) rfl)) rfl
theorem cv_X1_clause : Cond.selects (yN m_X1_clause).cls (yN m_X1_clause) (yN m_X1_clause) ∈ z_T := z_in0 (zp_2 _ (List.mem_of_getElem? (i := 10) rfl)) rfl
def m_X1_hasRoom : zY := (zR1, ⟨zR1, "hasRoom", "(II)Z"⟩, prog_3_method_5_code, 3, some .boolean, [])
theorem ck_X1_hasRoom : zCk m_X1_hasRoom 2 := ⟨z_in0 (zc_4 _ (List.mem_of_getElem? (i := 168) rfl)) rfl, z_in0 (zc_1 _ (List.mem_of_getElem? (i := 4) rfl)) rfl, by decide +kernel, by decide +kernel, by decide +kernel, by decide +kernel⟩
theorem ci_X1_hasRoom : Cond.instanceMethod (yN m_X1_hasRoom) ∈ z_T := z_in0 (zc_4 _ (List.mem_of_getElem? (i := 167) rfl)) rfl
theorem cv_X1_hasRoom : Cond.selects (yN m_X1_hasRoom).cls (yN m_X1_hasRoom) (yN m_X1_hasRoom) ∈ z_T := z_in0 (zp_2 _ (List.mem_of_getElem? (i := 11) rfl)) rfl
def m_X1_hasLatest : zY := (zR1, ⟨zR1, "hasLatest", "(I)Z"⟩, prog_3_method_6_code, 2, some .boolean, [])
theorem ck_X1_hasLatest : zCk m_X1_hasLatest 1 := ⟨z_in0 (zc_4 _ (List.mem_of_getElem? (i := 191) rfl)) rfl, z_in0 (zc_1 _ (List.mem_of_getElem? (i := 4) rfl)) rfl, by decide +kernel, by decide +kernel, by decide +kernel, by decide +kernel⟩
theorem ci_X1_hasLatest : Cond.instanceMethod (yN m_X1_hasLatest) ∈ z_T := z_in0 (zc_4 _ (List.mem_of_getElem? (i := 190) rfl)) rfl
theorem cv_X1_hasLatest : Cond.selects (yN m_X1_hasLatest).cls (yN m_X1_hasLatest) (yN m_X1_hasLatest) ∈ z_T := z_in0 (zp_2 _ (List.mem_of_getElem? (i := 13) rfl)) rfl
def m_X1_size : zY := (zR1, ⟨zR1, "size", "(II)Z"⟩, prog_3_method_7_code, 5, some .boolean, [])
theorem ck_X1_size : zCk m_X1_size 2 := ⟨z_in0 (zc_4 _ (List.mem_of_getElem? (i := 176) rfl)) rfl, z_in0 (zc_1 _ (List.mem_of_getElem? (i := 4) rfl)) rfl, by decide +kernel, by decide +kernel, by decide +kernel, by decide +kernel⟩
theorem ci_X1_size : Cond.instanceMethod (yN m_X1_size) ∈ z_T := z_in0 (zc_4 _ (List.mem_of_getElem? (i := 175) rfl)) rfl
theorem cv_X1_size : Cond.selects (yN m_X1_size).cls (yN m_X1_size) (yN m_X1_size) ∈ z_T := z_in0 (zp_2 _ (List.mem_of_getElem? (i := 12) rfl)) rfl
def m_X1_stroke : zY := (zR1, ⟨zR1, "stroke", "(Z)Z"⟩, prog_3_method_8_code, 7, some .boolean, [])
theorem ck_X1_stroke : zCk m_X1_stroke 1 := ⟨z_in0 (zc_4 _ (List.mem_of_getElem? (i := 195) rfl)) rfl, z_in0 (zc_1 _ (List.mem_of_getElem? (i := 4) rfl)) rfl, by decide +kernel, by decide +kernel, by decide +kernel, by decide +kernel⟩
theorem ci_X1_stroke : Cond.instanceMethod (yN m_X1_stroke) ∈ z_T := z_in0 (zc_4 _ (List.mem_of_getElem? (i := 194) rfl)) rfl
theorem cv_X1_stroke : Cond.selects (yN m_X1_stroke).cls (yN m_X1_stroke) (yN m_X1_stroke) ∈ z_T := z_in0 (zp_2 _ (List.mem_of_getElem? (i := 14) rfl)) rfl
def m_X1_clean : zY := (zR1, ⟨zR1, "clean", "()Z"⟩, prog_3_method_9_code, 3, some .boolean, [])
theorem ck_X1_clean : zCk m_X1_clean 0 := ⟨z_in0 (zc_4 _ (List.mem_of_getElem? (i := 206) rfl)) rfl, z_in0 (zc_1 _ (List.mem_of_getElem? (i := 4) rfl)) rfl, by decide +kernel, by decide +kernel, by decide +kernel, by decide +kernel⟩
theorem ci_X1_clean : Cond.instanceMethod (yN m_X1_clean) ∈ z_T := z_in0 (zc_4 _ (List.mem_of_getElem? (i := 205) rfl)) rfl
theorem cv_X1_clean : Cond.selects (yN m_X1_clean).cls (yN m_X1_clean) (yN m_X1_clean) ∈ z_T := z_in0 (zp_2 _ (List.mem_of_getElem? (i := 15) rfl)) rfl
def m_X1_oneMore : zY := (zR1, ⟨zR1, "oneMore", "(IZ)Z"⟩, prog_3_method_10_code, 5, some .boolean, [])
theorem ck_X1_oneMore : zCk m_X1_oneMore 2 := ⟨z_in0 (zc_4 _ (List.mem_of_getElem? (i := 211) rfl)) rfl, z_in0 (zc_1 _ (List.mem_of_getElem? (i := 4) rfl)) rfl, by decide +kernel, by decide +kernel, by decide +kernel, by decide +kernel⟩
theorem ci_X1_oneMore : Cond.instanceMethod (yN m_X1_oneMore) ∈ z_T := z_in0 (zc_4 _ (List.mem_of_getElem? (i := 210) rfl)) rfl
theorem cv_X1_oneMore : Cond.selects (yN m_X1_oneMore).cls (yN m_X1_oneMore) (yN m_X1_oneMore) ∈ z_T := z_in0 (zp_3 _ (List.mem_of_getElem? (i := 0) rfl)) rfl
def m_X1_kin : zY := (zR1, ⟨zR1, "kin", "()Z"⟩, prog_3_method_11_code, 3, some .boolean, [])
theorem ck_X1_kin : zCk m_X1_kin 0 := ⟨z_in0 (zc_4 _ (List.mem_of_getElem? (i := 225) rfl)) rfl, z_in0 (zc_1 _ (List.mem_of_getElem? (i := 4) rfl)) rfl, by decide +kernel, by decide +kernel, by decide +kernel, by decide +kernel⟩
theorem ci_X1_kin : Cond.instanceMethod (yN m_X1_kin) ∈ z_T := z_in0 (zc_4 _ (List.mem_of_getElem? (i := 224) rfl)) rfl
theorem cv_X1_kin : Cond.selects (yN m_X1_kin).cls (yN m_X1_kin) (yN m_X1_kin) ∈ z_T := z_in0 (zp_3 _ (List.mem_of_getElem? (i := 1) rfl)) rfl
def m_X1_spelling : zY := (zR1, ⟨zR1, "spelling", "(I)Z"⟩, prog_3_method_12_code, 6, some .boolean, [])
theorem ck_X1_spelling : zCk m_X1_spelling 1 := ⟨z_in0 (zc_4 _ (List.mem_of_getElem? (i := 234) rfl)) rfl, z_in0 (zc_1 _ (List.mem_of_getElem? (i := 4) rfl)) rfl, by decide +kernel, by decide +kernel, by decide +kernel, by decide +kernel⟩
theorem ci_X1_spelling : Cond.instanceMethod (yN m_X1_spelling) ∈ z_T := z_in0 (zc_4 _ (List.mem_of_getElem? (i := 233) rfl)) rfl
theorem cv_X1_spelling : Cond.selects (yN m_X1_spelling).cls (yN m_X1_spelling) (yN m_X1_spelling) ∈ z_T := z_in0 (zp_3 _ (List.mem_of_getElem? (i := 2) rfl)) rfl
def m_X2_init : zY := (zR2, ⟨zR2, "<init>", "()V"⟩, prog_4_method_1_code, 1, none, [])
theorem ck_X2_init : zCk m_X2_init 0 := ⟨z_in0 (zc_2 _ (List.mem_of_getElem? (i := 53) rfl)) rfl, z_in0 (zc_1 _ (List.mem_of_getElem? (i := 11) rfl)) rfl, by decide +kernel, by decide +kernel, by decide +kernel, by decide +kernel⟩
theorem ci_X2_init : Cond.instanceMethod (yN m_X2_init) ∈ z_T := z_in0 (zc_2 _ (List.mem_of_getElem? (i := 52) rfl)) rfl
def m_X2_has : zY := (zR2, ⟨zR2, "has", "([JI)Z"⟩, prog_4_method_2_code, 3, some .boolean, [])
theorem ck_X2_has : zCk m_X2_has 2 := ⟨z_in0 (zc_3 _ (List.mem_of_getElem? (i := 93) rfl)) rfl, z_in0 (zc_1 _ (List.mem_of_getElem? (i := 11) rfl)) rfl, by decide +kernel, by decide +kernel, by decide +kernel, by decide +kernel⟩
theorem cs_X2_has : Cond.static (yN m_X2_has) ∈ z_T := z_in0 (zc_3 _ (List.mem_of_getElem? (i := 92) rfl)) rfl
def m_X2_put : zY := (zR2, ⟨zR2, "put", "([JI)V"⟩, prog_4_method_3_code, 3, none, [])
theorem ck_X2_put : zCk m_X2_put 2 := ⟨z_in0 (zc_3 _ (List.mem_of_getElem? (i := 97) rfl)) rfl, z_in0 (zc_1 _ (List.mem_of_getElem? (i := 11) rfl)) rfl, by decide +kernel, by decide +kernel, by decide +kernel, by decide +kernel⟩
theorem cs_X2_put : Cond.static (yN m_X2_put) ∈ z_T := z_in0 (zc_3 _ (List.mem_of_getElem? (i := 96) rfl)) rfl
def m_X2_gather : zY := (zR2, ⟨zR2, "gather", "(LCoveredSigns$Covers;II)V"⟩, prog_4_method_4_code, 5, none, [])
theorem ck_X2_gather : zCk m_X2_gather 3 := ⟨z_in0 (zc_3 _ (List.mem_of_getElem? (i := 83) rfl)) rfl, z_in0 (zc_1 _ (List.mem_of_getElem? (i := 11) rfl)) rfl, by decide +kernel, by decide +kernel, by decide +kernel, by decide +kernel⟩
theorem ci_X2_gather : Cond.instanceMethod (yN m_X2_gather) ∈ z_T := z_in0 (zc_3 _ (List.mem_of_getElem? (i := 82) rfl)) rfl
theorem cv_X2_gather : Cond.selects (yN m_X2_gather).cls (yN m_X2_gather) (yN m_X2_gather) ∈ z_T := z_in0 (zp_1 _ (List.mem_of_getElem? (i := 8) rfl)) rfl
def m_X2_allBelowAreMixed : zY := (zR2, ⟨zR2, "allBelowAreMixed", "(II)Z"⟩, prog_4_method_5_code, 5, some .boolean, [])
theorem ck_X2_allBelowAreMixed : zCk m_X2_allBelowAreMixed 2 := ⟨z_in0 (zc_3 _ (List.mem_of_getElem? (i := 90) rfl)) rfl, z_in0 (zc_1 _ (List.mem_of_getElem? (i := 11) rfl)) rfl, by decide +kernel, by decide +kernel, by decide +kernel, by decide +kernel⟩
theorem ci_X2_allBelowAreMixed : Cond.instanceMethod (yN m_X2_allBelowAreMixed) ∈ z_T := z_in0 (zc_3 _ (List.mem_of_getElem? (i := 89) rfl)) rfl
theorem cv_X2_allBelowAreMixed : Cond.selects (yN m_X2_allBelowAreMixed).cls (yN m_X2_allBelowAreMixed) (yN m_X2_allBelowAreMixed) ∈ z_T := z_in0 (zp_1 _ (List.mem_of_getElem? (i := 9) rfl)) rfl
def m_X2_rowByRow : zY := (zR2, ⟨zR2, "rowByRow", "(LCoveredSigns$Covers;II)I"⟩, prog_4_method_6_code, 6, some .int, [])
theorem ck_X2_rowByRow : zCk m_X2_rowByRow 3 := ⟨z_in0 (zc_3 _ (List.mem_of_getElem? (i := 131) rfl)) rfl, z_in0 (zc_1 _ (List.mem_of_getElem? (i := 11) rfl)) rfl, by decide +kernel, by decide +kernel, by decide +kernel, by decide +kernel⟩
theorem ci_X2_rowByRow : Cond.instanceMethod (yN m_X2_rowByRow) ∈ z_T := z_in0 (zc_3 _ (List.mem_of_getElem? (i := 129) rfl)) rfl
theorem cv_X2_rowByRow : Cond.selects (yN m_X2_rowByRow).cls (yN m_X2_rowByRow) (yN m_X2_rowByRow) ∈ z_T := z_in0 (zc_3 _ (List.mem_of_getElem? (i := 130) rfl)) rfl
def m_X2_blockFrom : zY := (zR2, ⟨zR2, "blockFrom", "(I)V"⟩, prog_4_method_7_code, 4, none, [])
theorem ck_X2_blockFrom : zCk m_X2_blockFrom 1 := ⟨z_in0 (zc_3 _ (List.mem_of_getElem? (i := 135) rfl)) rfl, z_in0 (zc_1 _ (List.mem_of_getElem? (i := 11) rfl)) rfl, by decide +kernel, by decide +kernel, by decide +kernel, by decide +kernel⟩
theorem ci_X2_blockFrom : Cond.instanceMethod (yN m_X2_blockFrom) ∈ z_T := z_in0 (zc_3 _ (List.mem_of_getElem? (i := 134) rfl)) rfl
theorem cv_X2_blockFrom : Cond.selects (yN m_X2_blockFrom).cls (yN m_X2_blockFrom) (yN m_X2_blockFrom) ∈ z_T := z_in0 (zp_1 _ (List.mem_of_getElem? (i := 13) rfl)) rfl
def m_X2_largest : zY := (zR2, ⟨zR2, "largest", "(LCoveredSigns$Covers;II)I"⟩, prog_4_method_8_code, 7, some .int, [])
theorem ck_X2_largest : zCk m_X2_largest 3 := ⟨z_in0 (zc_3 _ (List.mem_of_getElem? (i := 79) rfl)) rfl, z_in0 (zc_1 _ (List.mem_of_getElem? (i := 11) rfl)) rfl, by decide +kernel, by decide +kernel, by decide +kernel, by decide +kernel⟩
theorem ci_X2_largest : Cond.instanceMethod (yN m_X2_largest) ∈ z_T := z_in0 (zc_3 _ (List.mem_of_getElem? (i := 77) rfl)) rfl
theorem cv_X2_largest : Cond.selects (yN m_X2_largest).cls (yN m_X2_largest) (yN m_X2_largest) ∈ z_T := z_in0 (zc_3 _ (List.mem_of_getElem? (i := 78) rfl)) rfl
def m_X2_ball : zY := (zR2, ⟨zR2, "ball", "(III)I"⟩, prog_4_method_9_code, 8, some .int, [])
theorem ck_X2_ball : zCk m_X2_ball 3 := ⟨z_in0 (zc_3 _ (List.mem_of_getElem? (i := 106) rfl)) rfl, z_in0 (zc_1 _ (List.mem_of_getElem? (i := 11) rfl)) rfl, by decide +kernel, by decide +kernel, by decide +kernel, by decide +kernel⟩
theorem ci_X2_ball : Cond.instanceMethod (yN m_X2_ball) ∈ z_T := z_in0 (zc_3 _ (List.mem_of_getElem? (i := 105) rfl)) rfl
theorem cv_X2_ball : Cond.selects (yN m_X2_ball).cls (yN m_X2_ball) (yN m_X2_ball) ∈ z_T := z_in0 (zp_1 _ (List.mem_of_getElem? (i := 10) rfl)) rfl
def m_X2_grow : zY := (zR2, ⟨zR2, "grow", "(JI)V"⟩, prog_4_method_10_code, 10, none, [])
theorem ck_X2_grow : zCk m_X2_grow 2 := ⟨z_in0 (zc_3 _ (List.mem_of_getElem? (i := 112) rfl)) rfl, z_in0 (zc_1 _ (List.mem_of_getElem? (i := 11) rfl)) rfl, by decide +kernel, by decide +kernel, by decide +kernel, by decide +kernel⟩
theorem ci_X2_grow : Cond.instanceMethod (yN m_X2_grow) ∈ z_T := z_in0 (zc_3 _ (List.mem_of_getElem? (i := 111) rfl)) rfl
theorem cv_X2_grow : Cond.selects (yN m_X2_grow).cls (yN m_X2_grow) (yN m_X2_grow) ∈ z_T := z_in0 (zp_1 _ (List.mem_of_getElem? (i := 11) rfl)) rfl
def m_X2_arrange : zY := (zR2, ⟨zR2, "arrange", "(JI)I"⟩, prog_4_method_11_code, 13, some .int, [])
theorem ck_X2_arrange : zCk m_X2_arrange 2 := ⟨z_in0 (zc_3 _ (List.mem_of_getElem? (i := 116) rfl)) rfl, z_in0 (zc_1 _ (List.mem_of_getElem? (i := 11) rfl)) rfl, by decide +kernel, by decide +kernel, by decide +kernel, by decide +kernel⟩
theorem ci_X2_arrange : Cond.instanceMethod (yN m_X2_arrange) ∈ z_T := z_in0 (zc_3 _ (List.mem_of_getElem? (i := 115) rfl)) rfl
theorem cv_X2_arrange : Cond.selects (yN m_X2_arrange).cls (yN m_X2_arrange) (yN m_X2_arrange) ∈ z_T := z_in0 (zp_1 _ (List.mem_of_getElem? (i := 12) rfl)) rfl
def m_X3_init : zY := (zR3, ⟨zR3, "<init>", "()V"⟩, prog_5_method_1_code, 1, none, [])
theorem ck_X3_init : zCk m_X3_init 0 := ⟨z_in0 (zc_1 _ (List.mem_of_getElem? (i := 134) rfl)) rfl, z_in0 (zc_1 _ (List.mem_of_getElem? (i := 5) rfl)) rfl, by decide +kernel, by decide +kernel, by decide +kernel, by decide +kernel⟩
theorem ci_X3_init : Cond.instanceMethod (yN m_X3_init) ∈ z_T := z_in0 (zc_1 _ (List.mem_of_getElem? (i := 133) rfl)) rfl
def m_X3_at : zY := (zR3, ⟨zR3, "at", "(I)I"⟩, prog_5_method_2_code, 2, some .int, [])
theorem ck_X3_at : zCk m_X3_at 1 := ⟨z_in0 (zc_5 _ (List.mem_of_getElem? (i := 121) rfl)) rfl, z_in0 (zc_1 _ (List.mem_of_getElem? (i := 5) rfl)) rfl, by decide +kernel, by decide +kernel, by decide +kernel, by decide +kernel⟩
theorem ci_X3_at : Cond.instanceMethod (yN m_X3_at) ∈ z_T := z_in0 (zc_5 _ (List.mem_of_getElem? (i := 119) rfl)) rfl
theorem cv_X3_at : Cond.selects (yN m_X3_at).cls (yN m_X3_at) (yN m_X3_at) ∈ z_T := z_in0 (zc_5 _ (List.mem_of_getElem? (i := 120) rfl)) rfl
def m_X3_beOne : zY := (zR3, ⟨zR3, "beOne", "(I)V"⟩, prog_5_method_3_code, 2, none, [])
theorem ck_X3_beOne : zCk m_X3_beOne 1 := ⟨z_in0 (zc_2 _ (List.mem_of_getElem? (i := 94) rfl)) rfl, z_in0 (zc_1 _ (List.mem_of_getElem? (i := 5) rfl)) rfl, by decide +kernel, by decide +kernel, by decide +kernel, by decide +kernel⟩
theorem ci_X3_beOne : Cond.instanceMethod (yN m_X3_beOne) ∈ z_T := z_in0 (zc_2 _ (List.mem_of_getElem? (i := 92) rfl)) rfl
theorem cv_X3_beOne : Cond.selects (yN m_X3_beOne).cls (yN m_X3_beOne) (yN m_X3_beOne) ∈ z_T := z_in0 (zc_2 _ (List.mem_of_getElem? (i := 93) rfl)) rfl
def m_X3_add : zY := (zR3, ⟨zR3, "add", "(I)Z"⟩, prog_5_method_4_code, 2, some .boolean, [])
theorem ck_X3_add : zCk m_X3_add 1 := ⟨z_in0 (zc_5 _ (List.mem_of_getElem? (i := 97) rfl)) rfl, z_in0 (zc_1 _ (List.mem_of_getElem? (i := 5) rfl)) rfl, by decide +kernel, by decide +kernel, by decide +kernel, by decide +kernel⟩
theorem ci_X3_add : Cond.instanceMethod (yN m_X3_add) ∈ z_T := z_in0 (zc_5 _ (List.mem_of_getElem? (i := 95) rfl)) rfl
theorem cv_X3_add : Cond.selects (yN m_X3_add).cls (yN m_X3_add) (yN m_X3_add) ∈ z_T := z_in0 (zc_5 _ (List.mem_of_getElem? (i := 96) rfl)) rfl
def m_X3_copyFrom : zY := (zR3, ⟨zR3, "copyFrom", "(LCoveredSigns$Covers;)V"⟩, prog_5_method_5_code, 2, none, [])
theorem ck_X3_copyFrom : zCk m_X3_copyFrom 1 := ⟨z_in0 (zc_5 _ (List.mem_of_getElem? (i := 130) rfl)) rfl, z_in0 (zc_1 _ (List.mem_of_getElem? (i := 5) rfl)) rfl, by decide +kernel, by decide +kernel, by decide +kernel, by decide +kernel⟩
theorem ci_X3_copyFrom : Cond.instanceMethod (yN m_X3_copyFrom) ∈ z_T := z_in0 (zc_5 _ (List.mem_of_getElem? (i := 128) rfl)) rfl
theorem cv_X3_copyFrom : Cond.selects (yN m_X3_copyFrom).cls (yN m_X3_copyFrom) (yN m_X3_copyFrom) ∈ z_T := z_in0 (zc_5 _ (List.mem_of_getElem? (i := 129) rfl)) rfl
def m_X3_isBefore : zY := (zR3, ⟨zR3, "isBefore", "(II)Z"⟩, prog_5_method_6_code, 3, some .boolean, [])
theorem ck_X3_isBefore : zCk m_X3_isBefore 2 := ⟨z_in0 (zc_5 _ (List.mem_of_getElem? (i := 154) rfl)) rfl, z_in0 (zc_1 _ (List.mem_of_getElem? (i := 5) rfl)) rfl, by decide +kernel, by decide +kernel, by decide +kernel, by decide +kernel⟩
theorem cs_X3_isBefore : Cond.static (yN m_X3_isBefore) ∈ z_T := z_in0 (zc_5 _ (List.mem_of_getElem? (i := 153) rfl)) rfl
def m_X3_sort : zY := (zR3, ⟨zR3, "sort", "()V"⟩, prog_5_method_7_code, 5, none, [])
theorem ck_X3_sort : zCk m_X3_sort 0 := ⟨z_in0 (zc_5 _ (List.mem_of_getElem? (i := 151) rfl)) rfl, z_in0 (zc_1 _ (List.mem_of_getElem? (i := 5) rfl)) rfl, by decide +kernel, by decide +kernel, by decide +kernel, by decide +kernel⟩
theorem ci_X3_sort : Cond.instanceMethod (yN m_X3_sort) ∈ z_T := z_in0 (zc_5 _ (List.mem_of_getElem? (i := 149) rfl)) rfl
theorem cv_X3_sort : Cond.selects (yN m_X3_sort).cls (yN m_X3_sort) (yN m_X3_sort) ∈ z_T := z_in0 (zc_5 _ (List.mem_of_getElem? (i := 150) rfl)) rfl
def m_X3_firstMixing : zY := (zR3, ⟨zR3, "firstMixing", "(II)I"⟩, prog_5_method_8_code, 4, some .int, [])
theorem ck_X3_firstMixing : zCk m_X3_firstMixing 2 := ⟨z_in0 (zc_2 _ (List.mem_of_getElem? (i := 211) rfl)) rfl, z_in0 (zc_1 _ (List.mem_of_getElem? (i := 5) rfl)) rfl, by decide +kernel, by decide +kernel, by decide +kernel, by decide +kernel⟩
theorem ci_X3_firstMixing : Cond.instanceMethod (yN m_X3_firstMixing) ∈ z_T := z_in0 (zc_2 _ (List.mem_of_getElem? (i := 209) rfl)) rfl
theorem cv_X3_firstMixing : Cond.selects (yN m_X3_firstMixing).cls (yN m_X3_firstMixing) (yN m_X3_firstMixing) ∈ z_T := z_in0 (zc_2 _ (List.mem_of_getElem? (i := 210) rfl)) rfl
def m_X3_mixingCells : zY := (zR3, ⟨zR3, "mixingCells", "(III)I"⟩, prog_5_method_9_code, 7, some .int, [])
theorem ck_X3_mixingCells : zCk m_X3_mixingCells 3 := ⟨z_in0 (zc_2 _ (List.mem_of_getElem? (i := 225) rfl)) rfl, z_in0 (zc_1 _ (List.mem_of_getElem? (i := 5) rfl)) rfl, by decide +kernel, by decide +kernel, by decide +kernel, by decide +kernel⟩
theorem ci_X3_mixingCells : Cond.instanceMethod (yN m_X3_mixingCells) ∈ z_T := z_in0 (zc_2 _ (List.mem_of_getElem? (i := 223) rfl)) rfl
theorem cv_X3_mixingCells : Cond.selects (yN m_X3_mixingCells).cls (yN m_X3_mixingCells) (yN m_X3_mixingCells) ∈ z_T := z_in0 (zc_2 _ (List.mem_of_getElem? (i := 224) rfl)) rfl
def m_X3_pairsMixedBy : zY := (zR3, ⟨zR3, "pairsMixedBy", "(ILCoveredSigns$Alphabet;I)I"⟩, prog_5_method_10_code, 9, some .int, [])
theorem ck_X3_pairsMixedBy : zCk m_X3_pairsMixedBy 3 := ⟨z_in0 (zc_6 _ (List.mem_of_getElem? (i := 33) rfl)) rfl, z_in0 (zc_1 _ (List.mem_of_getElem? (i := 5) rfl)) rfl, by decide +kernel, by decide +kernel, by decide +kernel, by decide +kernel⟩
theorem ci_X3_pairsMixedBy : Cond.instanceMethod (yN m_X3_pairsMixedBy) ∈ z_T := z_in0 (zc_6 _ (List.mem_of_getElem? (i := 31) rfl)) rfl
theorem cv_X3_pairsMixedBy : Cond.selects (yN m_X3_pairsMixedBy).cls (yN m_X3_pairsMixedBy) (yN m_X3_pairsMixedBy) ∈ z_T := z_in0 (zc_6 _ (List.mem_of_getElem? (i := 32) rfl)) rfl
def m_X3_blindest : zY := (zR3, ⟨zR3, "blindest", "(LCoveredSigns$Alphabet;I)I"⟩, prog_5_method_11_code, 7, some .int, [])
theorem ck_X3_blindest : zCk m_X3_blindest 2 := ⟨z_in0 (zc_6 _ (List.mem_of_getElem? (i := 29) rfl)) rfl, z_in0 (zc_1 _ (List.mem_of_getElem? (i := 5) rfl)) rfl, by decide +kernel, by decide +kernel, by decide +kernel, by decide +kernel⟩
theorem ci_X3_blindest : Cond.instanceMethod (yN m_X3_blindest) ∈ z_T := z_in0 (zc_6 _ (List.mem_of_getElem? (i := 27) rfl)) rfl
theorem cv_X3_blindest : Cond.selects (yN m_X3_blindest).cls (yN m_X3_blindest) (yN m_X3_blindest) ∈ z_T := z_in0 (zc_6 _ (List.mem_of_getElem? (i := 28) rfl)) rfl
def m_X3_largest : zY := (zR3, ⟨zR3, "largest", "()I"⟩, prog_5_method_12_code, 3, some .int, [])
theorem ck_X3_largest : zCk m_X3_largest 0 := ⟨z_in0 (zc_3 _ (List.mem_of_getElem? (i := 101) rfl)) rfl, z_in0 (zc_1 _ (List.mem_of_getElem? (i := 5) rfl)) rfl, by decide +kernel, by decide +kernel, by decide +kernel, by decide +kernel⟩
theorem ci_X3_largest : Cond.instanceMethod (yN m_X3_largest) ∈ z_T := z_in0 (zc_3 _ (List.mem_of_getElem? (i := 99) rfl)) rfl
theorem cv_X3_largest : Cond.selects (yN m_X3_largest).cls (yN m_X3_largest) (yN m_X3_largest) ∈ z_T := z_in0 (zc_3 _ (List.mem_of_getElem? (i := 100) rfl)) rfl
def m_X4_init : zY := (zR4, ⟨zR4, "<init>", "()V"⟩, prog_6_method_1_code, 1, none, [])
theorem ck_X4_init : zCk m_X4_init 0 := ⟨z_in0 (zc_2 _ (List.mem_of_getElem? (i := 33) rfl)) rfl, z_in0 (zc_1 _ (List.mem_of_getElem? (i := 10) rfl)) rfl, by decide +kernel, by decide +kernel, by decide +kernel, by decide +kernel⟩
theorem ci_X4_init : Cond.instanceMethod (yN m_X4_init) ∈ z_T := z_in0 (zc_2 _ (List.mem_of_getElem? (i := 32) rfl)) rfl
def m_X4_find : zY := (zR4, ⟨zR4, "find", "(LCoveredSigns$Alphabet;II)Z"⟩, prog_6_method_2_code, 5, some .boolean, [])
theorem ck_X4_find : zCk m_X4_find 3 := ⟨z_in0 (zc_6 _ (List.mem_of_getElem? (i := 95) rfl)) rfl, z_in0 (zc_1 _ (List.mem_of_getElem? (i := 10) rfl)) rfl, by decide +kernel, by decide +kernel, by decide +kernel, by decide +kernel⟩
theorem ci_X4_find : Cond.instanceMethod (yN m_X4_find) ∈ z_T := z_in0 (zc_6 _ (List.mem_of_getElem? (i := 93) rfl)) rfl
theorem cv_X4_find : Cond.selects (yN m_X4_find).cls (yN m_X4_find) (yN m_X4_find) ∈ z_T := z_in0 (zc_6 _ (List.mem_of_getElem? (i := 94) rfl)) rfl
def m_X4_grows : zY := (zR4, ⟨zR4, "grows", "(III)Z"⟩, prog_6_method_3_code, 5, some .boolean, [])
theorem ck_X4_grows : zCk m_X4_grows 3 := ⟨z_in0 (zc_6 _ (List.mem_of_getElem? (i := 101) rfl)) rfl, z_in0 (zc_1 _ (List.mem_of_getElem? (i := 10) rfl)) rfl, by decide +kernel, by decide +kernel, by decide +kernel, by decide +kernel⟩
theorem ci_X4_grows : Cond.instanceMethod (yN m_X4_grows) ∈ z_T := z_in0 (zc_6 _ (List.mem_of_getElem? (i := 100) rfl)) rfl
theorem cv_X4_grows : Cond.selects (yN m_X4_grows).cls (yN m_X4_grows) (yN m_X4_grows) ∈ z_T := z_in0 (zp_4 _ (List.mem_of_getElem? (i := 6) rfl)) rfl
def m_X4_isHopeless : zY := (zR4, ⟨zR4, "isHopeless", "(III)Z"⟩, prog_6_method_4_code, 10, some .boolean, [])
theorem ck_X4_isHopeless : zCk m_X4_isHopeless 3 := ⟨z_in0 (zc_6 _ (List.mem_of_getElem? (i := 105) rfl)) rfl, z_in0 (zc_1 _ (List.mem_of_getElem? (i := 10) rfl)) rfl, by decide +kernel, by decide +kernel, by decide +kernel, by decide +kernel⟩
theorem ci_X4_isHopeless : Cond.instanceMethod (yN m_X4_isHopeless) ∈ z_T := z_in0 (zc_6 _ (List.mem_of_getElem? (i := 104) rfl)) rfl
theorem cv_X4_isHopeless : Cond.selects (yN m_X4_isHopeless).cls (yN m_X4_isHopeless) (yN m_X4_isHopeless) ∈ z_T := z_in0 (zp_4 _ (List.mem_of_getElem? (i := 7) rfl)) rfl
def m_X5_init : zY := (zR5, ⟨zR5, "<init>", "()V"⟩, prog_7_method_1_code, 1, none, [])
theorem ck_X5_init : zCk m_X5_init 0 := ⟨z_in0 (zc_2 _ (List.mem_of_getElem? (i := 79) rfl)) rfl, z_in0 (zc_1 _ (List.mem_of_getElem? (i := 12) rfl)) rfl, by decide +kernel, by decide +kernel, by decide +kernel, by decide +kernel⟩
theorem ci_X5_init : Cond.instanceMethod (yN m_X5_init) ∈ z_T := z_in0 (zc_2 _ (List.mem_of_getElem? (i := 78) rfl)) rfl
def m_X5_spoil : zY := (zR5, ⟨zR5, "spoil", "()V"⟩, prog_7_method_2_code, 1, none, [])
theorem ck_X5_spoil : zCk m_X5_spoil 0 := ⟨z_in0 (zc_3 _ (List.mem_of_getElem? (i := 143) rfl)) rfl, z_in0 (zc_1 _ (List.mem_of_getElem? (i := 12) rfl)) rfl, by decide +kernel, by decide +kernel, by decide +kernel, by decide +kernel⟩
theorem ci_X5_spoil : Cond.instanceMethod (yN m_X5_spoil) ∈ z_T := z_in0 (zc_3 _ (List.mem_of_getElem? (i := 141) rfl)) rfl
theorem cv_X5_spoil : Cond.selects (yN m_X5_spoil).cls (yN m_X5_spoil) (yN m_X5_spoil) ∈ z_T := z_in0 (zc_3 _ (List.mem_of_getElem? (i := 142) rfl)) rfl
def m_X5_columns : zY := (zR5, ⟨zR5, "columns", "(LCoveredSigns$Scene;IIIZ)I"⟩, prog_7_method_3_code, 8, some .int, [])
theorem ck_X5_columns : zCk m_X5_columns 5 := ⟨z_in0 (zc_3 _ (List.mem_of_getElem? (i := 160) rfl)) rfl, z_in0 (zc_1 _ (List.mem_of_getElem? (i := 12) rfl)) rfl, by decide +kernel, by decide +kernel, by decide +kernel, by decide +kernel⟩
theorem ci_X5_columns : Cond.instanceMethod (yN m_X5_columns) ∈ z_T := z_in0 (zc_3 _ (List.mem_of_getElem? (i := 158) rfl)) rfl
theorem cv_X5_columns : Cond.selects (yN m_X5_columns).cls (yN m_X5_columns) (yN m_X5_columns) ∈ z_T := z_in0 (zc_3 _ (List.mem_of_getElem? (i := 159) rfl)) rfl
def m_X5_openColumns : zY := (zR5, ⟨zR5, "openColumns", "(LCoveredSigns$Scene;III)I"⟩, prog_7_method_4_code, 7, some .int, [])
theorem ck_X5_openColumns : zCk m_X5_openColumns 4 := ⟨z_in0 (zc_3 _ (List.mem_of_getElem? (i := 164) rfl)) rfl, z_in0 (zc_1 _ (List.mem_of_getElem? (i := 12) rfl)) rfl, by decide +kernel, by decide +kernel, by decide +kernel, by decide +kernel⟩
theorem ci_X5_openColumns : Cond.instanceMethod (yN m_X5_openColumns) ∈ z_T := z_in0 (zc_3 _ (List.mem_of_getElem? (i := 163) rfl)) rfl
theorem cv_X5_openColumns : Cond.selects (yN m_X5_openColumns).cls (yN m_X5_openColumns) (yN m_X5_openColumns) ∈ z_T := z_in0 (zp_2 _ (List.mem_of_getElem? (i := 0) rfl)) rfl
def m_X5_isHidden : zY := (zR5, ⟨zR5, "isHidden", "(LCoveredSigns$Scene;IIII)Z"⟩, prog_7_method_5_code, 12, some .boolean, [])
theorem ck_X5_isHidden : zCk m_X5_isHidden 5 := ⟨z_in0 (zc_3 _ (List.mem_of_getElem? (i := 168) rfl)) rfl, z_in0 (zc_1 _ (List.mem_of_getElem? (i := 12) rfl)) rfl, by decide +kernel, by decide +kernel, by decide +kernel, by decide +kernel⟩
theorem ci_X5_isHidden : Cond.instanceMethod (yN m_X5_isHidden) ∈ z_T := z_in0 (zc_3 _ (List.mem_of_getElem? (i := 167) rfl)) rfl
theorem cv_X5_isHidden : Cond.selects (yN m_X5_isHidden).cls (yN m_X5_isHidden) (yN m_X5_isHidden) ∈ z_T := z_in0 (zp_2 _ (List.mem_of_getElem? (i := 1) rfl)) rfl
def m_X6_init : zY := (zR6, ⟨zR6, "<init>", "(LCoveredSigns$Tangle;)V"⟩, prog_8_method_1_code, 2, none, [])
theorem ck_X6_init : zCk m_X6_init 1 := ⟨z_in0 (zc_2 _ (List.mem_of_getElem? (i := 11) rfl)) rfl, z_in0 (zc_1 _ (List.mem_of_getElem? (i := 9) rfl)) rfl, by decide +kernel, by decide +kernel, by decide +kernel, by decide +kernel⟩
theorem ci_X6_init : Cond.instanceMethod (yN m_X6_init) ∈ z_T := z_in0 (zc_2 _ (List.mem_of_getElem? (i := 10) rfl)) rfl
def m_X6_find : zY := (zR6, ⟨zR6, "find", "(LCoveredSigns$Tangle;)V"⟩, prog_8_method_2_code, 2, none, [])
theorem ck_X6_find : zCk m_X6_find 1 := ⟨z_in0 (zc_6 _ (List.mem_of_getElem? (i := 150) rfl)) rfl, z_in0 (zc_1 _ (List.mem_of_getElem? (i := 9) rfl)) rfl, by decide +kernel, by decide +kernel, by decide +kernel, by decide +kernel⟩
theorem ci_X6_find : Cond.instanceMethod (yN m_X6_find) ∈ z_T := z_in0 (zc_6 _ (List.mem_of_getElem? (i := 148) rfl)) rfl
theorem cv_X6_find : Cond.selects (yN m_X6_find).cls (yN m_X6_find) (yN m_X6_find) ∈ z_T := z_in0 (zc_6 _ (List.mem_of_getElem? (i := 149) rfl)) rfl
def m_X6_byOne : zY := (zR6, ⟨zR6, "byOne", "(LCoveredSigns$Tangle;)Z"⟩, prog_8_method_3_code, 4, some .boolean, [])
theorem ck_X6_byOne : zCk m_X6_byOne 1 := ⟨z_in0 (zc_6 _ (List.mem_of_getElem? (i := 154) rfl)) rfl, z_in0 (zc_1 _ (List.mem_of_getElem? (i := 9) rfl)) rfl, by decide +kernel, by decide +kernel, by decide +kernel, by decide +kernel⟩
theorem ci_X6_byOne : Cond.instanceMethod (yN m_X6_byOne) ∈ z_T := z_in0 (zc_6 _ (List.mem_of_getElem? (i := 153) rfl)) rfl
theorem cv_X6_byOne : Cond.selects (yN m_X6_byOne).cls (yN m_X6_byOne) (yN m_X6_byOne) ∈ z_T := z_in0 (zp_4 _ (List.mem_of_getElem? (i := 10) rfl)) rfl
def m_X6_byTwo : zY := (zR6, ⟨zR6, "byTwo", "(LCoveredSigns$Tangle;)V"⟩, prog_8_method_4_code, 4, none, [])
theorem ck_X6_byTwo : zCk m_X6_byTwo 1 := ⟨z_in0 (zc_6 _ (List.mem_of_getElem? (i := 163) rfl)) rfl, z_in0 (zc_1 _ (List.mem_of_getElem? (i := 9) rfl)) rfl, by decide +kernel, by decide +kernel, by decide +kernel, by decide +kernel⟩
theorem ci_X6_byTwo : Cond.instanceMethod (yN m_X6_byTwo) ∈ z_T := z_in0 (zc_6 _ (List.mem_of_getElem? (i := 162) rfl)) rfl
theorem cv_X6_byTwo : Cond.selects (yN m_X6_byTwo).cls (yN m_X6_byTwo) (yN m_X6_byTwo) ∈ z_T := z_in0 (zp_4 _ (List.mem_of_getElem? (i := 11) rfl)) rfl
def m_X6_endsBehind : zY := (zR6, ⟨zR6, "endsBehind", "(II)Z"⟩, prog_8_method_5_code, 5, some .boolean, [])
theorem ck_X6_endsBehind : zCk m_X6_endsBehind 2 := ⟨z_in0 (zc_6 _ (List.mem_of_getElem? (i := 180) rfl)) rfl, z_in0 (zc_1 _ (List.mem_of_getElem? (i := 9) rfl)) rfl, by decide +kernel, by decide +kernel, by decide +kernel, by decide +kernel⟩
theorem ci_X6_endsBehind : Cond.instanceMethod (yN m_X6_endsBehind) ∈ z_T := z_in0 (zc_6 _ (List.mem_of_getElem? (i := 179) rfl)) rfl
theorem cv_X6_endsBehind : Cond.selects (yN m_X6_endsBehind).cls (yN m_X6_endsBehind) (yN m_X6_endsBehind) ∈ z_T := z_in0 (zp_4 _ (List.mem_of_getElem? (i := 12) rfl)) rfl
def m_X6_walk : zY := (zR6, ⟨zR6, "walk", "(LCoveredSigns$Tangle;)I"⟩, prog_8_method_6_code, 3, some .int, [])
theorem ck_X6_walk : zCk m_X6_walk 1 := ⟨z_in0 (zc_6 _ (List.mem_of_getElem? (i := 191) rfl)) rfl, z_in0 (zc_1 _ (List.mem_of_getElem? (i := 9) rfl)) rfl, by decide +kernel, by decide +kernel, by decide +kernel, by decide +kernel⟩
theorem ci_X6_walk : Cond.instanceMethod (yN m_X6_walk) ∈ z_T := z_in0 (zc_6 _ (List.mem_of_getElem? (i := 189) rfl)) rfl
theorem cv_X6_walk : Cond.selects (yN m_X6_walk).cls (yN m_X6_walk) (yN m_X6_walk) ∈ z_T := z_in0 (zc_6 _ (List.mem_of_getElem? (i := 190) rfl)) rfl
def m_X6_pairsLeft : zY := (zR6, ⟨zR6, "pairsLeft", "()I"⟩, prog_8_method_7_code, 1, some .int, [])
theorem ck_X6_pairsLeft : zCk m_X6_pairsLeft 0 := ⟨z_in0 (zc_6 _ (List.mem_of_getElem? (i := 203) rfl)) rfl, z_in0 (zc_1 _ (List.mem_of_getElem? (i := 9) rfl)) rfl, by decide +kernel, by decide +kernel, by decide +kernel, by decide +kernel⟩
theorem ci_X6_pairsLeft : Cond.instanceMethod (yN m_X6_pairsLeft) ∈ z_T := z_in0 (zc_6 _ (List.mem_of_getElem? (i := 201) rfl)) rfl
theorem cv_X6_pairsLeft : Cond.selects (yN m_X6_pairsLeft).cls (yN m_X6_pairsLeft) (yN m_X6_pairsLeft) ∈ z_T := z_in0 (zc_6 _ (List.mem_of_getElem? (i := 202) rfl)) rfl
def m_X6_stepIsDone : zY := (zR6, ⟨zR6, "stepIsDone", "()Z"⟩, prog_8_method_8_code, 7, some .boolean, [])
theorem ck_X6_stepIsDone : zCk m_X6_stepIsDone 0 := ⟨z_in0 (zc_6 _ (List.mem_of_getElem? (i := 195) rfl)) rfl, z_in0 (zc_1 _ (List.mem_of_getElem? (i := 9) rfl)) rfl, by decide +kernel, by decide +kernel, by decide +kernel, by decide +kernel⟩
theorem ci_X6_stepIsDone : Cond.instanceMethod (yN m_X6_stepIsDone) ∈ z_T := z_in0 (zc_6 _ (List.mem_of_getElem? (i := 194) rfl)) rfl
theorem cv_X6_stepIsDone : Cond.selects (yN m_X6_stepIsDone).cls (yN m_X6_stepIsDone) (yN m_X6_stepIsDone) ∈ z_T := z_in0 (zp_4 _ (List.mem_of_getElem? (i := 13) rfl)) rfl
def m_X7_init : zY := (zR7, ⟨zR7, "<init>", "(LCoveredSigns$Scan;)V"⟩, prog_9_method_1_code, 3, none, [])
theorem ck_X7_init : zCk m_X7_init 1 := ⟨z_in0 (zc_1 _ (List.mem_of_getElem? (i := 150) rfl)) rfl, z_in0 (zc_1 _ (List.mem_of_getElem? (i := 6) rfl)) rfl, by decide +kernel, by decide +kernel, by decide +kernel, by decide +kernel⟩
theorem ci_X7_init : Cond.instanceMethod (yN m_X7_init) ∈ z_T := z_in0 (zc_1 _ (List.mem_of_getElem? (i := 149) rfl)) rfl
def m_X7_at : zY := (zR7, ⟨zR7, "at", "(I)LCoveredSigns$Covers;"⟩, prog_9_method_2_code, 2, some (.object "CoveredSigns$Covers"), [])
theorem ck_X7_at : zCk m_X7_at 1 := ⟨z_in0 (zc_5 _ (List.mem_of_getElem? (i := 67) rfl)) rfl, z_in0 (zc_1 _ (List.mem_of_getElem? (i := 6) rfl)) rfl, by decide +kernel, by decide +kernel, by decide +kernel, by decide +kernel⟩
theorem ci_X7_at : Cond.instanceMethod (yN m_X7_at) ∈ z_T := z_in0 (zc_5 _ (List.mem_of_getElem? (i := 66) rfl)) rfl
theorem cv_X7_at : Cond.selects (yN m_X7_at).cls (yN m_X7_at) (yN m_X7_at) ∈ z_T := z_in0 (zp_3 _ (List.mem_of_getElem? (i := 6) rfl)) rfl
def m_X7_result : zY := (zR7, ⟨zR7, "result", "()LCoveredSigns$Covers;"⟩, prog_9_method_3_code, 1, some (.object "CoveredSigns$Covers"), [])
theorem ck_X7_result : zCk m_X7_result 0 := ⟨z_in0 (zc_5 _ (List.mem_of_getElem? (i := 146) rfl)) rfl, z_in0 (zc_1 _ (List.mem_of_getElem? (i := 6) rfl)) rfl, by decide +kernel, by decide +kernel, by decide +kernel, by decide +kernel⟩
theorem ci_X7_result : Cond.instanceMethod (yN m_X7_result) ∈ z_T := z_in0 (zc_5 _ (List.mem_of_getElem? (i := 144) rfl)) rfl
theorem cv_X7_result : Cond.selects (yN m_X7_result).cls (yN m_X7_result) (yN m_X7_result) ∈ z_T := z_in0 (zc_5 _ (List.mem_of_getElem? (i := 145) rfl)) rfl
def m_X7_parse : zY := (zR7, ⟨zR7, "parse", "(II)Z"⟩, prog_9_method_4_code, 3, some .boolean, [])
theorem ck_X7_parse : zCk m_X7_parse 2 := ⟨z_in0 (zc_5 _ (List.mem_of_getElem? (i := 45) rfl)) rfl, z_in0 (zc_1 _ (List.mem_of_getElem? (i := 6) rfl)) rfl, by decide +kernel, by decide +kernel, by decide +kernel, by decide +kernel⟩
theorem ci_X7_parse : Cond.instanceMethod (yN m_X7_parse) ∈ z_T := z_in0 (zc_5 _ (List.mem_of_getElem? (i := 43) rfl)) rfl
theorem cv_X7_parse : Cond.selects (yN m_X7_parse).cls (yN m_X7_parse) (yN m_X7_parse) ∈ z_T := z_in0 (zc_5 _ (List.mem_of_getElem? (i := 44) rfl)) rfl
def m_X7_choice : zY := (zR7, ⟨zR7, "choice", "(II)Z"⟩, prog_9_method_5_code, 4, some .boolean, [])
theorem ck_X7_choice : zCk m_X7_choice 2 := ⟨z_in0 (zc_5 _ (List.mem_of_getElem? (i := 49) rfl)) rfl, z_in0 (zc_1 _ (List.mem_of_getElem? (i := 6) rfl)) rfl, by decide +kernel, by decide +kernel, by decide +kernel, by decide +kernel⟩
theorem ci_X7_choice : Cond.instanceMethod (yN m_X7_choice) ∈ z_T := z_in0 (zc_5 _ (List.mem_of_getElem? (i := 48) rfl)) rfl
theorem cv_X7_choice : Cond.selects (yN m_X7_choice).cls (yN m_X7_choice) (yN m_X7_choice) ∈ z_T := z_in0 (zp_3 _ (List.mem_of_getElem? (i := 3) rfl)) rfl
def m_X7_both : zY := (zR7, ⟨zR7, "both", "(II)Z"⟩, prog_9_method_6_code, 4, some .boolean, [])
theorem ck_X7_both : zCk m_X7_both 2 := ⟨z_in0 (zc_5 _ (List.mem_of_getElem? (i := 53) rfl)) rfl, z_in0 (zc_1 _ (List.mem_of_getElem? (i := 6) rfl)) rfl, by decide +kernel, by decide +kernel, by decide +kernel, by decide +kernel⟩
theorem ci_X7_both : Cond.instanceMethod (yN m_X7_both) ∈ z_T := z_in0 (zc_5 _ (List.mem_of_getElem? (i := 52) rfl)) rfl
theorem cv_X7_both : Cond.selects (yN m_X7_both).cls (yN m_X7_both) (yN m_X7_both) ∈ z_T := z_in0 (zp_3 _ (List.mem_of_getElem? (i := 4) rfl)) rfl
def m_X7_single : zY := (zR7, ⟨zR7, "single", "(II)Z"⟩, prog_9_method_7_code, 4, some .boolean, [])
theorem ck_X7_single : zCk m_X7_single 2 := ⟨z_in0 (zc_5 _ (List.mem_of_getElem? (i := 57) rfl)) rfl, z_in0 (zc_1 _ (List.mem_of_getElem? (i := 6) rfl)) rfl, by decide +kernel, by decide +kernel, by decide +kernel, by decide +kernel⟩
theorem ci_X7_single : Cond.instanceMethod (yN m_X7_single) ∈ z_T := z_in0 (zc_5 _ (List.mem_of_getElem? (i := 56) rfl)) rfl
theorem cv_X7_single : Cond.selects (yN m_X7_single).cls (yN m_X7_single) (yN m_X7_single) ∈ z_T := z_in0 (zp_3 _ (List.mem_of_getElem? (i := 5) rfl)) rfl
def m_X7_side : zY := (zR7, ⟨zR7, "side", "(LCoveredSigns$Covers;)Z"⟩, prog_9_method_8_code, 4, some .boolean, [])
theorem ck_X7_side : zCk m_X7_side 1 := ⟨z_in0 (zc_5 _ (List.mem_of_getElem? (i := 76) rfl)) rfl, z_in0 (zc_1 _ (List.mem_of_getElem? (i := 6) rfl)) rfl, by decide +kernel, by decide +kernel, by decide +kernel, by decide +kernel⟩
theorem ci_X7_side : Cond.instanceMethod (yN m_X7_side) ∈ z_T := z_in0 (zc_5 _ (List.mem_of_getElem? (i := 75) rfl)) rfl
theorem cv_X7_side : Cond.selects (yN m_X7_side).cls (yN m_X7_side) (yN m_X7_side) ∈ z_T := z_in0 (zp_3 _ (List.mem_of_getElem? (i := 8) rfl)) rfl
def m_X7_corner : zY := (zR7, ⟨zR7, "corner", "(LCoveredSigns$Covers;)Z"⟩, prog_9_method_9_code, 4, some .boolean, [])
theorem ck_X7_corner : zCk m_X7_corner 1 := ⟨z_in0 (zc_5 _ (List.mem_of_getElem? (i := 87) rfl)) rfl, z_in0 (zc_1 _ (List.mem_of_getElem? (i := 6) rfl)) rfl, by decide +kernel, by decide +kernel, by decide +kernel, by decide +kernel⟩
theorem ci_X7_corner : Cond.instanceMethod (yN m_X7_corner) ∈ z_T := z_in0 (zc_5 _ (List.mem_of_getElem? (i := 86) rfl)) rfl
theorem cv_X7_corner : Cond.selects (yN m_X7_corner).cls (yN m_X7_corner) (yN m_X7_corner) ∈ z_T := z_in0 (zp_3 _ (List.mem_of_getElem? (i := 10) rfl)) rfl
def m_X7_front : zY := (zR7, ⟨zR7, "front", "(LCoveredSigns$Covers;)Z"⟩, prog_9_method_10_code, 6, some .boolean, [])
theorem ck_X7_front : zCk m_X7_front 1 := ⟨z_in0 (zc_5 _ (List.mem_of_getElem? (i := 102) rfl)) rfl, z_in0 (zc_1 _ (List.mem_of_getElem? (i := 6) rfl)) rfl, by decide +kernel, by decide +kernel, by decide +kernel, by decide +kernel⟩
theorem ci_X7_front : Cond.instanceMethod (yN m_X7_front) ∈ z_T := z_in0 (zc_5 _ (List.mem_of_getElem? (i := 101) rfl)) rfl
theorem cv_X7_front : Cond.selects (yN m_X7_front).cls (yN m_X7_front) (yN m_X7_front) ∈ z_T := z_in0 (zp_3 _ (List.mem_of_getElem? (i := 12) rfl)) rfl
def m_X7_fog : zY := (zR7, ⟨zR7, "fog", "(LCoveredSigns$Covers;)Z"⟩, prog_9_method_11_code, 6, some .boolean, [])
theorem ck_X7_fog : zCk m_X7_fog 1 := ⟨z_in0 (zc_5 _ (List.mem_of_getElem? (i := 107) rfl)) rfl, z_in0 (zc_1 _ (List.mem_of_getElem? (i := 6) rfl)) rfl, by decide +kernel, by decide +kernel, by decide +kernel, by decide +kernel⟩
theorem ci_X7_fog : Cond.instanceMethod (yN m_X7_fog) ∈ z_T := z_in0 (zc_5 _ (List.mem_of_getElem? (i := 106) rfl)) rfl
theorem cv_X7_fog : Cond.selects (yN m_X7_fog).cls (yN m_X7_fog) (yN m_X7_fog) ∈ z_T := z_in0 (zp_3 _ (List.mem_of_getElem? (i := 13) rfl)) rfl
def m_X7_any : zY := (zR7, ⟨zR7, "any", "(LCoveredSigns$Covers;)Z"⟩, prog_9_method_12_code, 8, some .boolean, [])
theorem ck_X7_any : zCk m_X7_any 1 := ⟨z_in0 (zc_5 _ (List.mem_of_getElem? (i := 93) rfl)) rfl, z_in0 (zc_1 _ (List.mem_of_getElem? (i := 6) rfl)) rfl, by decide +kernel, by decide +kernel, by decide +kernel, by decide +kernel⟩
theorem ci_X7_any : Cond.instanceMethod (yN m_X7_any) ∈ z_T := z_in0 (zc_5 _ (List.mem_of_getElem? (i := 92) rfl)) rfl
theorem cv_X7_any : Cond.selects (yN m_X7_any).cls (yN m_X7_any) (yN m_X7_any) ∈ z_T := z_in0 (zp_3 _ (List.mem_of_getElem? (i := 11) rfl)) rfl
def m_X7_block : zY := (zR7, ⟨zR7, "block", "(IIII)I"⟩, prog_9_method_13_code, 7, some .int, [])
theorem ck_X7_block : zCk m_X7_block 4 := ⟨z_in0 (zc_5 _ (List.mem_of_getElem? (i := 81) rfl)) rfl, z_in0 (zc_1 _ (List.mem_of_getElem? (i := 6) rfl)) rfl, by decide +kernel, by decide +kernel, by decide +kernel, by decide +kernel⟩
theorem ci_X7_block : Cond.instanceMethod (yN m_X7_block) ∈ z_T := z_in0 (zc_5 _ (List.mem_of_getElem? (i := 80) rfl)) rfl
theorem cv_X7_block : Cond.selects (yN m_X7_block).cls (yN m_X7_block) (yN m_X7_block) ∈ z_T := z_in0 (zp_3 _ (List.mem_of_getElem? (i := 9) rfl)) rfl
def m_X7_complement : zY := (zR7, ⟨zR7, "complement", "(LCoveredSigns$Covers;)Z"⟩, prog_9_method_14_code, 4, some .boolean, [])
theorem ck_X7_complement : zCk m_X7_complement 1 := ⟨z_in0 (zc_5 _ (List.mem_of_getElem? (i := 71) rfl)) rfl, z_in0 (zc_1 _ (List.mem_of_getElem? (i := 6) rfl)) rfl, by decide +kernel, by decide +kernel, by decide +kernel, by decide +kernel⟩
theorem ci_X7_complement : Cond.instanceMethod (yN m_X7_complement) ∈ z_T := z_in0 (zc_5 _ (List.mem_of_getElem? (i := 70) rfl)) rfl
theorem cv_X7_complement : Cond.selects (yN m_X7_complement).cls (yN m_X7_complement) (yN m_X7_complement) ∈ z_T := z_in0 (zp_3 _ (List.mem_of_getElem? (i := 7) rfl)) rfl
def m_X7_unite : zY := (zR7, ⟨zR7, "unite", "(LCoveredSigns$Covers;LCoveredSigns$Covers;)V"⟩, prog_9_method_15_code, 4, none, [])
theorem ck_X7_unite : zCk m_X7_unite 2 := ⟨z_in0 (zc_5 _ (List.mem_of_getElem? (i := 137) rfl)) rfl, z_in0 (zc_1 _ (List.mem_of_getElem? (i := 6) rfl)) rfl, by decide +kernel, by decide +kernel, by decide +kernel, by decide +kernel⟩
theorem ci_X7_unite : Cond.instanceMethod (yN m_X7_unite) ∈ z_T := z_in0 (zc_5 _ (List.mem_of_getElem? (i := 136) rfl)) rfl
theorem cv_X7_unite : Cond.selects (yN m_X7_unite).cls (yN m_X7_unite) (yN m_X7_unite) ∈ z_T := z_in0 (zp_4 _ (List.mem_of_getElem? (i := 1) rfl)) rfl
def m_X7_overlay : zY := (zR7, ⟨zR7, "overlay", "(LCoveredSigns$Covers;LCoveredSigns$Covers;)V"⟩, prog_9_method_16_code, 8, none, [])
theorem ck_X7_overlay : zCk m_X7_overlay 2 := ⟨z_in0 (zc_5 _ (List.mem_of_getElem? (i := 112) rfl)) rfl, z_in0 (zc_1 _ (List.mem_of_getElem? (i := 6) rfl)) rfl, by decide +kernel, by decide +kernel, by decide +kernel, by decide +kernel⟩
theorem ci_X7_overlay : Cond.instanceMethod (yN m_X7_overlay) ∈ z_T := z_in0 (zc_5 _ (List.mem_of_getElem? (i := 111) rfl)) rfl
theorem cv_X7_overlay : Cond.selects (yN m_X7_overlay).cls (yN m_X7_overlay) (yN m_X7_overlay) ∈ z_T := z_in0 (zp_3 _ (List.mem_of_getElem? (i := 14) rfl)) rfl
def m_X7_beginSpare : zY := (zR7, ⟨zR7, "beginSpare", "()V"⟩, prog_9_method_17_code, 1, none, [])
theorem ck_X7_beginSpare : zCk m_X7_beginSpare 0 := ⟨z_in0 (zc_5 _ (List.mem_of_getElem? (i := 116) rfl)) rfl, z_in0 (zc_1 _ (List.mem_of_getElem? (i := 6) rfl)) rfl, by decide +kernel, by decide +kernel, by decide +kernel, by decide +kernel⟩
theorem ci_X7_beginSpare : Cond.instanceMethod (yN m_X7_beginSpare) ∈ z_T := z_in0 (zc_5 _ (List.mem_of_getElem? (i := 115) rfl)) rfl
theorem cv_X7_beginSpare : Cond.selects (yN m_X7_beginSpare).cls (yN m_X7_beginSpare) (yN m_X7_beginSpare) ∈ z_T := z_in0 (zp_3 _ (List.mem_of_getElem? (i := 15) rfl)) rfl
def m_X7_addOnce : zY := (zR7, ⟨zR7, "addOnce", "(I)V"⟩, prog_9_method_18_code, 4, none, [])
theorem ck_X7_addOnce : zCk m_X7_addOnce 1 := ⟨z_in0 (zc_5 _ (List.mem_of_getElem? (i := 125) rfl)) rfl, z_in0 (zc_1 _ (List.mem_of_getElem? (i := 6) rfl)) rfl, by decide +kernel, by decide +kernel, by decide +kernel, by decide +kernel⟩
theorem ci_X7_addOnce : Cond.instanceMethod (yN m_X7_addOnce) ∈ z_T := z_in0 (zc_5 _ (List.mem_of_getElem? (i := 124) rfl)) rfl
theorem cv_X7_addOnce : Cond.selects (yN m_X7_addOnce).cls (yN m_X7_addOnce) (yN m_X7_addOnce) ∈ z_T := z_in0 (zp_4 _ (List.mem_of_getElem? (i := 0) rfl)) rfl
def m_X8_init : zY := (zR8, ⟨zR8, "<init>", "([B)V"⟩, prog_10_method_1_code, 2, none, [])
theorem ck_X8_init : zCk m_X8_init 1 := ⟨z_in0 (zc_1 _ (List.mem_of_getElem? (i := 41) rfl)) rfl, z_in0 (zc_1 _ (List.mem_of_getElem? (i := 2) rfl)) rfl, by decide +kernel, by decide +kernel, by decide +kernel, by decide +kernel⟩
theorem ci_X8_init : Cond.instanceMethod (yN m_X8_init) ∈ z_T := z_in0 (zc_1 _ (List.mem_of_getElem? (i := 40) rfl)) rfl
def m_X8_begin : zY := (zR8, ⟨zR8, "begin", "(I)V"⟩, prog_10_method_2_code, 2, none, [])
theorem ck_X8_begin : zCk m_X8_begin 1 := ⟨z_in0 (zc_4 _ (List.mem_of_getElem? (i := 80) rfl)) rfl, z_in0 (zc_1 _ (List.mem_of_getElem? (i := 2) rfl)) rfl, by decide +kernel, by decide +kernel, by decide +kernel, by decide +kernel⟩
theorem ci_X8_begin : Cond.instanceMethod (yN m_X8_begin) ∈ z_T := z_in0 (zc_4 _ (List.mem_of_getElem? (i := 78) rfl)) rfl
theorem cv_X8_begin : Cond.selects (yN m_X8_begin).cls (yN m_X8_begin) (yN m_X8_begin) ∈ z_T := z_in0 (zc_4 _ (List.mem_of_getElem? (i := 79) rfl)) rfl
def m_X8_kind : zY := (zR8, ⟨zR8, "kind", "()I"⟩, prog_10_method_3_code, 1, some .int, [])
theorem ck_X8_kind : zCk m_X8_kind 0 := ⟨z_in0 (zc_5 _ (List.mem_of_getElem? (i := 21) rfl)) rfl, z_in0 (zc_1 _ (List.mem_of_getElem? (i := 2) rfl)) rfl, by decide +kernel, by decide +kernel, by decide +kernel, by decide +kernel⟩
theorem ci_X8_kind : Cond.instanceMethod (yN m_X8_kind) ∈ z_T := z_in0 (zc_5 _ (List.mem_of_getElem? (i := 19) rfl)) rfl
theorem cv_X8_kind : Cond.selects (yN m_X8_kind).cls (yN m_X8_kind) (yN m_X8_kind) ∈ z_T := z_in0 (zc_5 _ (List.mem_of_getElem? (i := 20) rfl)) rfl
def m_X8_place : zY := (zR8, ⟨zR8, "place", "()I"⟩, prog_10_method_4_code, 1, some .int, [])
theorem ck_X8_place : zCk m_X8_place 0 := ⟨z_in0 (zc_2 _ (List.mem_of_getElem? (i := 172) rfl)) rfl, z_in0 (zc_1 _ (List.mem_of_getElem? (i := 2) rfl)) rfl, by decide +kernel, by decide +kernel, by decide +kernel, by decide +kernel⟩
theorem ci_X8_place : Cond.instanceMethod (yN m_X8_place) ∈ z_T := z_in0 (zc_2 _ (List.mem_of_getElem? (i := 170) rfl)) rfl
theorem cv_X8_place : Cond.selects (yN m_X8_place).cls (yN m_X8_place) (yN m_X8_place) ∈ z_T := z_in0 (zc_2 _ (List.mem_of_getElem? (i := 171) rfl)) rfl
def m_X8_length : zY := (zR8, ⟨zR8, "length", "()I"⟩, prog_10_method_5_code, 1, some .int, [])
theorem ck_X8_length : zCk m_X8_length 0 := ⟨z_in0 (zc_5 _ (List.mem_of_getElem? (i := 142) rfl)) rfl, z_in0 (zc_1 _ (List.mem_of_getElem? (i := 2) rfl)) rfl, by decide +kernel, by decide +kernel, by decide +kernel, by decide +kernel⟩
theorem ci_X8_length : Cond.instanceMethod (yN m_X8_length) ∈ z_T := z_in0 (zc_5 _ (List.mem_of_getElem? (i := 140) rfl)) rfl
theorem cv_X8_length : Cond.selects (yN m_X8_length).cls (yN m_X8_length) (yN m_X8_length) ∈ z_T := z_in0 (zc_5 _ (List.mem_of_getElem? (i := 141) rfl)) rfl
def m_X8_blame : zY := (zR8, ⟨zR8, "blame", "(II)Z"⟩, prog_10_method_6_code, 3, some .boolean, [])
theorem ck_X8_blame : zCk m_X8_blame 2 := ⟨z_in0 (zc_4 _ (List.mem_of_getElem? (i := 172) rfl)) rfl, z_in0 (zc_1 _ (List.mem_of_getElem? (i := 2) rfl)) rfl, by decide +kernel, by decide +kernel, by decide +kernel, by decide +kernel⟩
theorem ci_X8_blame : Cond.instanceMethod (yN m_X8_blame) ∈ z_T := z_in0 (zc_4 _ (List.mem_of_getElem? (i := 170) rfl)) rfl
theorem cv_X8_blame : Cond.selects (yN m_X8_blame).cls (yN m_X8_blame) (yN m_X8_blame) ∈ z_T := z_in0 (zc_4 _ (List.mem_of_getElem? (i := 171) rfl)) rfl
def m_X8_next : zY := (zR8, ⟨zR8, "next", "()I"⟩, prog_10_method_7_code, 1, some .int, [])
theorem ck_X8_next : zCk m_X8_next 0 := ⟨z_in0 (zc_4 _ (List.mem_of_getElem? (i := 98) rfl)) rfl, z_in0 (zc_1 _ (List.mem_of_getElem? (i := 2) rfl)) rfl, by decide +kernel, by decide +kernel, by decide +kernel, by decide +kernel⟩
theorem ci_X8_next : Cond.instanceMethod (yN m_X8_next) ∈ z_T := z_in0 (zc_4 _ (List.mem_of_getElem? (i := 96) rfl)) rfl
theorem cv_X8_next : Cond.selects (yN m_X8_next).cls (yN m_X8_next) (yN m_X8_next) ∈ z_T := z_in0 (zc_4 _ (List.mem_of_getElem? (i := 97) rfl)) rfl
def m_X8_ended : zY := (zR8, ⟨zR8, "ended", "()Z"⟩, prog_10_method_8_code, 1, some .boolean, [])
theorem ck_X8_ended : zCk m_X8_ended 0 := ⟨z_in0 (zc_4 _ (List.mem_of_getElem? (i := 94) rfl)) rfl, z_in0 (zc_1 _ (List.mem_of_getElem? (i := 2) rfl)) rfl, by decide +kernel, by decide +kernel, by decide +kernel, by decide +kernel⟩
theorem ci_X8_ended : Cond.instanceMethod (yN m_X8_ended) ∈ z_T := z_in0 (zc_4 _ (List.mem_of_getElem? (i := 92) rfl)) rfl
theorem cv_X8_ended : Cond.selects (yN m_X8_ended).cls (yN m_X8_ended) (yN m_X8_ended) ∈ z_T := z_in0 (zc_4 _ (List.mem_of_getElem? (i := 93) rfl)) rfl
def m_X8_takesMark : zY := (zR8, ⟨zR8, "takesMark", "(C)Z"⟩, prog_10_method_9_code, 2, some .boolean, [])
theorem ck_X8_takesMark : zCk m_X8_takesMark 1 := ⟨z_in0 (zc_5 _ (List.mem_of_getElem? (i := 17) rfl)) rfl, z_in0 (zc_1 _ (List.mem_of_getElem? (i := 2) rfl)) rfl, by decide +kernel, by decide +kernel, by decide +kernel, by decide +kernel⟩
theorem ci_X8_takesMark : Cond.instanceMethod (yN m_X8_takesMark) ∈ z_T := z_in0 (zc_5 _ (List.mem_of_getElem? (i := 15) rfl)) rfl
theorem cv_X8_takesMark : Cond.selects (yN m_X8_takesMark).cls (yN m_X8_takesMark) (yN m_X8_takesMark) ∈ z_T := z_in0 (zc_5 _ (List.mem_of_getElem? (i := 16) rfl)) rfl
def m_X8_needsMark : zY := (zR8, ⟨zR8, "needsMark", "(C)Z"⟩, prog_10_method_10_code, 2, some .boolean, [])
theorem ck_X8_needsMark : zCk m_X8_needsMark 1 := ⟨z_in0 (zc_5 _ (List.mem_of_getElem? (i := 13) rfl)) rfl, z_in0 (zc_1 _ (List.mem_of_getElem? (i := 2) rfl)) rfl, by decide +kernel, by decide +kernel, by decide +kernel, by decide +kernel⟩
theorem ci_X8_needsMark : Cond.instanceMethod (yN m_X8_needsMark) ∈ z_T := z_in0 (zc_5 _ (List.mem_of_getElem? (i := 11) rfl)) rfl
theorem cv_X8_needsMark : Cond.selects (yN m_X8_needsMark).cls (yN m_X8_needsMark) (yN m_X8_needsMark) ∈ z_T := z_in0 (zc_5 _ (List.mem_of_getElem? (i := 12) rfl)) rfl
def m_X8_takesWord : zY := (zR8, ⟨zR8, "takesWord", "(Ljava/lang/String;)Z"⟩, prog_10_method_11_code, 4, some .boolean, [])
theorem ck_X8_takesWord : zCk m_X8_takesWord 1 := ⟨z_in0 (zc_4 _ (List.mem_of_getElem? (i := 108) rfl)) rfl, z_in0 (zc_1 _ (List.mem_of_getElem? (i := 2) rfl)) rfl, by decide +kernel, by decide +kernel, by decide +kernel, by decide +kernel⟩
theorem ci_X8_takesWord : Cond.instanceMethod (yN m_X8_takesWord) ∈ z_T := z_in0 (zc_4 _ (List.mem_of_getElem? (i := 106) rfl)) rfl
theorem cv_X8_takesWord : Cond.selects (yN m_X8_takesWord).cls (yN m_X8_takesWord) (yN m_X8_takesWord) ∈ z_T := z_in0 (zc_4 _ (List.mem_of_getElem? (i := 107) rfl)) rfl
def m_X8_lettersFrom : zY := (zR8, ⟨zR8, "lettersFrom", "(I)I"⟩, prog_10_method_12_code, 3, some .int, [])
theorem ck_X8_lettersFrom : zCk m_X8_lettersFrom 1 := ⟨z_in0 (zc_4 _ (List.mem_of_getElem? (i := 112) rfl)) rfl, z_in0 (zc_1 _ (List.mem_of_getElem? (i := 2) rfl)) rfl, by decide +kernel, by decide +kernel, by decide +kernel, by decide +kernel⟩
theorem ci_X8_lettersFrom : Cond.instanceMethod (yN m_X8_lettersFrom) ∈ z_T := z_in0 (zc_4 _ (List.mem_of_getElem? (i := 110) rfl)) rfl
theorem cv_X8_lettersFrom : Cond.selects (yN m_X8_lettersFrom).cls (yN m_X8_lettersFrom) (yN m_X8_lettersFrom) ∈ z_T := z_in0 (zc_4 _ (List.mem_of_getElem? (i := 111) rfl)) rfl
def m_X8_jump : zY := (zR8, ⟨zR8, "jump", "(I)V"⟩, prog_10_method_13_code, 2, none, [])
theorem ck_X8_jump : zCk m_X8_jump 1 := ⟨z_in0 (zc_5 _ (List.mem_of_getElem? (i := 5) rfl)) rfl, z_in0 (zc_1 _ (List.mem_of_getElem? (i := 2) rfl)) rfl, by decide +kernel, by decide +kernel, by decide +kernel, by decide +kernel⟩
theorem ci_X8_jump : Cond.instanceMethod (yN m_X8_jump) ∈ z_T := z_in0 (zc_5 _ (List.mem_of_getElem? (i := 3) rfl)) rfl
theorem cv_X8_jump : Cond.selects (yN m_X8_jump).cls (yN m_X8_jump) (yN m_X8_jump) ∈ z_T := z_in0 (zc_5 _ (List.mem_of_getElem? (i := 4) rfl)) rfl
def m_X8_byteAt : zY := (zR8, ⟨zR8, "byteAt", "(I)I"⟩, prog_10_method_14_code, 2, some .int, [])
theorem ck_X8_byteAt : zCk m_X8_byteAt 1 := ⟨z_in0 (zc_4 _ (List.mem_of_getElem? (i := 116) rfl)) rfl, z_in0 (zc_1 _ (List.mem_of_getElem? (i := 2) rfl)) rfl, by decide +kernel, by decide +kernel, by decide +kernel, by decide +kernel⟩
theorem ci_X8_byteAt : Cond.instanceMethod (yN m_X8_byteAt) ∈ z_T := z_in0 (zc_4 _ (List.mem_of_getElem? (i := 114) rfl)) rfl
theorem cv_X8_byteAt : Cond.selects (yN m_X8_byteAt).cls (yN m_X8_byteAt) (yN m_X8_byteAt) ∈ z_T := z_in0 (zc_4 _ (List.mem_of_getElem? (i := 115) rfl)) rfl
def m_X8_number : zY := (zR8, ⟨zR8, "number", "(II)I"⟩, prog_10_method_15_code, 5, some .int, [])
theorem ck_X8_number : zCk m_X8_number 2 := ⟨z_in0 (zc_4 _ (List.mem_of_getElem? (i := 180) rfl)) rfl, z_in0 (zc_1 _ (List.mem_of_getElem? (i := 2) rfl)) rfl, by decide +kernel, by decide +kernel, by decide +kernel, by decide +kernel⟩
theorem ci_X8_number : Cond.instanceMethod (yN m_X8_number) ∈ z_T := z_in0 (zc_4 _ (List.mem_of_getElem? (i := 178) rfl)) rfl
theorem cv_X8_number : Cond.selects (yN m_X8_number).cls (yN m_X8_number) (yN m_X8_number) ∈ z_T := z_in0 (zc_4 _ (List.mem_of_getElem? (i := 179) rfl)) rfl
def m_X9_init : zY := (zR9, ⟨zR9, "<init>", "()V"⟩, prog_11_method_1_code, 1, none, [])
theorem ck_X9_init : zCk m_X9_init 0 := ⟨z_in0 (zc_1 _ (List.mem_of_getElem? (i := 181) rfl)) rfl, z_in0 (zc_1 _ (List.mem_of_getElem? (i := 7) rfl)) rfl, by decide +kernel, by decide +kernel, by decide +kernel, by decide +kernel⟩
theorem ci_X9_init : Cond.instanceMethod (yN m_X9_init) ∈ z_T := z_in0 (zc_1 _ (List.mem_of_getElem? (i := 180) rfl)) rfl
def m_X9_clear : zY := (zR9, ⟨zR9, "clear", "()V"⟩, prog_11_method_2_code, 1, none, [])
theorem ck_X9_clear : zCk m_X9_clear 0 := ⟨z_in0 (zc_5 _ (List.mem_of_getElem? (i := 34) rfl)) rfl, z_in0 (zc_1 _ (List.mem_of_getElem? (i := 7) rfl)) rfl, by decide +kernel, by decide +kernel, by decide +kernel, by decide +kernel⟩
theorem ci_X9_clear : Cond.instanceMethod (yN m_X9_clear) ∈ z_T := z_in0 (zc_5 _ (List.mem_of_getElem? (i := 32) rfl)) rfl
theorem cv_X9_clear : Cond.selects (yN m_X9_clear).cls (yN m_X9_clear) (yN m_X9_clear) ∈ z_T := z_in0 (zc_5 _ (List.mem_of_getElem? (i := 33) rfl)) rfl
def m_X9_copyFrom : zY := (zR9, ⟨zR9, "copyFrom", "(LCoveredSigns$Scene;)V"⟩, prog_11_method_3_code, 2, none, [])
theorem ck_X9_copyFrom : zCk m_X9_copyFrom 1 := ⟨z_in0 (zc_3 _ (List.mem_of_getElem? (i := 222) rfl)) rfl, z_in0 (zc_1 _ (List.mem_of_getElem? (i := 7) rfl)) rfl, by decide +kernel, by decide +kernel, by decide +kernel, by decide +kernel⟩
theorem ci_X9_copyFrom : Cond.instanceMethod (yN m_X9_copyFrom) ∈ z_T := z_in0 (zc_3 _ (List.mem_of_getElem? (i := 220) rfl)) rfl
theorem cv_X9_copyFrom : Cond.selects (yN m_X9_copyFrom).cls (yN m_X9_copyFrom) (yN m_X9_copyFrom) ∈ z_T := z_in0 (zc_3 _ (List.mem_of_getElem? (i := 221) rfl)) rfl
def m_X9_addPart : zY := (zR9, ⟨zR9, "addPart", "(II)I"⟩, prog_11_method_4_code, 3, some .int, [])
theorem ck_X9_addPart : zCk m_X9_addPart 2 := ⟨z_in0 (zc_6 _ (List.mem_of_getElem? (i := 84) rfl)) rfl, z_in0 (zc_1 _ (List.mem_of_getElem? (i := 7) rfl)) rfl, by decide +kernel, by decide +kernel, by decide +kernel, by decide +kernel⟩
theorem ci_X9_addPart : Cond.instanceMethod (yN m_X9_addPart) ∈ z_T := z_in0 (zc_6 _ (List.mem_of_getElem? (i := 82) rfl)) rfl
theorem cv_X9_addPart : Cond.selects (yN m_X9_addPart).cls (yN m_X9_addPart) (yN m_X9_addPart) ∈ z_T := z_in0 (zc_6 _ (List.mem_of_getElem? (i := 83) rfl)) rfl
def m_X9_addStanding : zY := (zR9, ⟨zR9, "addStanding", "(III)I"⟩, prog_11_method_5_code, 4, some .int, [])
theorem ck_X9_addStanding : zCk m_X9_addStanding 3 := ⟨z_in0 (zc_6 _ (List.mem_of_getElem? (i := 215) rfl)) rfl, z_in0 (zc_1 _ (List.mem_of_getElem? (i := 7) rfl)) rfl, by decide +kernel, by decide +kernel, by decide +kernel, by decide +kernel⟩
theorem ci_X9_addStanding : Cond.instanceMethod (yN m_X9_addStanding) ∈ z_T := z_in0 (zc_6 _ (List.mem_of_getElem? (i := 213) rfl)) rfl
theorem cv_X9_addStanding : Cond.selects (yN m_X9_addStanding).cls (yN m_X9_addStanding) (yN m_X9_addStanding) ∈ z_T := z_in0 (zc_6 _ (List.mem_of_getElem? (i := 214) rfl)) rfl
def m_X9_hiddenOf : zY := (zR9, ⟨zR9, "hiddenOf", "(I)I"⟩, prog_11_method_6_code, 2, some .int, [])
theorem ck_X9_hiddenOf : zCk m_X9_hiddenOf 1 := ⟨z_in0 (zc_3 _ (List.mem_of_getElem? (i := 5) rfl)) rfl, z_in0 (zc_1 _ (List.mem_of_getElem? (i := 7) rfl)) rfl, by decide +kernel, by decide +kernel, by decide +kernel, by decide +kernel⟩
theorem ci_X9_hiddenOf : Cond.instanceMethod (yN m_X9_hiddenOf) ∈ z_T := z_in0 (zc_3 _ (List.mem_of_getElem? (i := 3) rfl)) rfl
theorem cv_X9_hiddenOf : Cond.selects (yN m_X9_hiddenOf).cls (yN m_X9_hiddenOf) (yN m_X9_hiddenOf) ∈ z_T := z_in0 (zc_3 _ (List.mem_of_getElem? (i := 4) rfl)) rfl
def m_X9_paintOf : zY := (zR9, ⟨zR9, "paintOf", "(I)I"⟩, prog_11_method_7_code, 2, some .int, [])
theorem ck_X9_paintOf : zCk m_X9_paintOf 1 := ⟨z_in0 (zc_3 _ (List.mem_of_getElem? (i := 9) rfl)) rfl, z_in0 (zc_1 _ (List.mem_of_getElem? (i := 7) rfl)) rfl, by decide +kernel, by decide +kernel, by decide +kernel, by decide +kernel⟩
theorem ci_X9_paintOf : Cond.instanceMethod (yN m_X9_paintOf) ∈ z_T := z_in0 (zc_3 _ (List.mem_of_getElem? (i := 7) rfl)) rfl
theorem cv_X9_paintOf : Cond.selects (yN m_X9_paintOf).cls (yN m_X9_paintOf) (yN m_X9_paintOf) ∈ z_T := z_in0 (zc_3 _ (List.mem_of_getElem? (i := 8) rfl)) rfl
def m_X9_signOf : zY := (zR9, ⟨zR9, "signOf", "(I)I"⟩, prog_11_method_8_code, 2, some .int, [])
theorem ck_X9_signOf : zCk m_X9_signOf 1 := ⟨z_in0 (zc_3 _ (List.mem_of_getElem? (i := 189) rfl)) rfl, z_in0 (zc_1 _ (List.mem_of_getElem? (i := 7) rfl)) rfl, by decide +kernel, by decide +kernel, by decide +kernel, by decide +kernel⟩
theorem ci_X9_signOf : Cond.instanceMethod (yN m_X9_signOf) ∈ z_T := z_in0 (zc_3 _ (List.mem_of_getElem? (i := 187) rfl)) rfl
theorem cv_X9_signOf : Cond.selects (yN m_X9_signOf).cls (yN m_X9_signOf) (yN m_X9_signOf) ∈ z_T := z_in0 (zc_3 _ (List.mem_of_getElem? (i := 188) rfl)) rfl
def m_X9_leftOf : zY := (zR9, ⟨zR9, "leftOf", "(I)I"⟩, prog_11_method_9_code, 2, some .int, [])
theorem ck_X9_leftOf : zCk m_X9_leftOf 1 := ⟨z_in0 (zc_3 _ (List.mem_of_getElem? (i := 176) rfl)) rfl, z_in0 (zc_1 _ (List.mem_of_getElem? (i := 7) rfl)) rfl, by decide +kernel, by decide +kernel, by decide +kernel, by decide +kernel⟩
theorem ci_X9_leftOf : Cond.instanceMethod (yN m_X9_leftOf) ∈ z_T := z_in0 (zc_3 _ (List.mem_of_getElem? (i := 174) rfl)) rfl
theorem cv_X9_leftOf : Cond.selects (yN m_X9_leftOf).cls (yN m_X9_leftOf) (yN m_X9_leftOf) ∈ z_T := z_in0 (zc_3 _ (List.mem_of_getElem? (i := 175) rfl)) rfl
def m_X9_farOf : zY := (zR9, ⟨zR9, "farOf", "(I)I"⟩, prog_11_method_10_code, 2, some .int, [])
theorem ck_X9_farOf : zCk m_X9_farOf 1 := ⟨z_in0 (zc_3 _ (List.mem_of_getElem? (i := 172) rfl)) rfl, z_in0 (zc_1 _ (List.mem_of_getElem? (i := 7) rfl)) rfl, by decide +kernel, by decide +kernel, by decide +kernel, by decide +kernel⟩
theorem ci_X9_farOf : Cond.instanceMethod (yN m_X9_farOf) ∈ z_T := z_in0 (zc_3 _ (List.mem_of_getElem? (i := 170) rfl)) rfl
theorem cv_X9_farOf : Cond.selects (yN m_X9_farOf).cls (yN m_X9_farOf) (yN m_X9_farOf) ∈ z_T := z_in0 (zc_3 _ (List.mem_of_getElem? (i := 171) rfl)) rfl
def m_X10_init : zY := (zR10, ⟨zR10, "<init>", "(LCoveredSigns$Covers;)V"⟩, prog_12_method_1_code, 2, none, [])
theorem ck_X10_init : zCk m_X10_init 1 := ⟨z_in0 (zc_1 _ (List.mem_of_getElem? (i := 216) rfl)) rfl, z_in0 (zc_1 _ (List.mem_of_getElem? (i := 8) rfl)) rfl, by decide +kernel, by decide +kernel, by decide +kernel, by decide +kernel⟩
theorem ci_X10_init : Cond.instanceMethod (yN m_X10_init) ∈ z_T := z_in0 (zc_1 _ (List.mem_of_getElem? (i := 215) rfl)) rfl
def m_X10_weave : zY := (zR10, ⟨zR10, "weave", "(LCoveredSigns$Alphabet;I)V"⟩, prog_12_method_2_code, 5, none, [])
theorem ck_X10_weave : zCk m_X10_weave 2 := ⟨z_in0 (zc_2 _ (List.mem_of_getElem? (i := 184) rfl)) rfl, z_in0 (zc_1 _ (List.mem_of_getElem? (i := 8) rfl)) rfl, by decide +kernel, by decide +kernel, by decide +kernel, by decide +kernel⟩
theorem ci_X10_weave : Cond.instanceMethod (yN m_X10_weave) ∈ z_T := z_in0 (zc_2 _ (List.mem_of_getElem? (i := 182) rfl)) rfl
theorem cv_X10_weave : Cond.selects (yN m_X10_weave).cls (yN m_X10_weave) (yN m_X10_weave) ∈ z_T := z_in0 (zc_2 _ (List.mem_of_getElem? (i := 183) rfl)) rfl
def m_X10_copyFrom : zY := (zR10, ⟨zR10, "copyFrom", "(LCoveredSigns$Tangle;)V"⟩, prog_12_method_3_code, 2, none, [])
theorem ck_X10_copyFrom : zCk m_X10_copyFrom 1 := ⟨z_in0 (zc_6 _ (List.mem_of_getElem? (i := 171) rfl)) rfl, z_in0 (zc_1 _ (List.mem_of_getElem? (i := 8) rfl)) rfl, by decide +kernel, by decide +kernel, by decide +kernel, by decide +kernel⟩
theorem ci_X10_copyFrom : Cond.instanceMethod (yN m_X10_copyFrom) ∈ z_T := z_in0 (zc_6 _ (List.mem_of_getElem? (i := 169) rfl)) rfl
theorem cv_X10_copyFrom : Cond.selects (yN m_X10_copyFrom).cls (yN m_X10_copyFrom) (yN m_X10_copyFrom) ∈ z_T := z_in0 (zc_6 _ (List.mem_of_getElem? (i := 170) rfl)) rfl
def m_X10_isSign : zY := (zR10, ⟨zR10, "isSign", "(I)Z"⟩, prog_12_method_4_code, 2, some .boolean, [])
theorem ck_X10_isSign : zCk m_X10_isSign 1 := ⟨z_in0 (zc_2 _ (List.mem_of_getElem? (i := 207) rfl)) rfl, z_in0 (zc_1 _ (List.mem_of_getElem? (i := 8) rfl)) rfl, by decide +kernel, by decide +kernel, by decide +kernel, by decide +kernel⟩
theorem ci_X10_isSign : Cond.instanceMethod (yN m_X10_isSign) ∈ z_T := z_in0 (zc_2 _ (List.mem_of_getElem? (i := 206) rfl)) rfl
theorem cv_X10_isSign : Cond.selects (yN m_X10_isSign).cls (yN m_X10_isSign) (yN m_X10_isSign) ∈ z_T := z_in0 (zp_1 _ (List.mem_of_getElem? (i := 3) rfl)) rfl
def m_X10_settle : zY := (zR10, ⟨zR10, "settle", "(II)V"⟩, prog_12_method_5_code, 7, none, [])
theorem ck_X10_settle : zCk m_X10_settle 2 := ⟨z_in0 (zc_2 _ (List.mem_of_getElem? (i := 203) rfl)) rfl, z_in0 (zc_1 _ (List.mem_of_getElem? (i := 8) rfl)) rfl, by decide +kernel, by decide +kernel, by decide +kernel, by decide +kernel⟩
theorem ci_X10_settle : Cond.instanceMethod (yN m_X10_settle) ∈ z_T := z_in0 (zc_2 _ (List.mem_of_getElem? (i := 202) rfl)) rfl
theorem cv_X10_settle : Cond.selects (yN m_X10_settle).cls (yN m_X10_settle) (yN m_X10_settle) ∈ z_T := z_in0 (zp_1 _ (List.mem_of_getElem? (i := 2) rfl)) rfl
def m_X10_flip : zY := (zR10, ⟨zR10, "flip", "(II)V"⟩, prog_12_method_6_code, 4, none, [])
theorem ck_X10_flip : zCk m_X10_flip 2 := ⟨z_in0 (zc_6 _ (List.mem_of_getElem? (i := 176) rfl)) rfl, z_in0 (zc_1 _ (List.mem_of_getElem? (i := 8) rfl)) rfl, by decide +kernel, by decide +kernel, by decide +kernel, by decide +kernel⟩
theorem ci_X10_flip : Cond.instanceMethod (yN m_X10_flip) ∈ z_T := z_in0 (zc_6 _ (List.mem_of_getElem? (i := 174) rfl)) rfl
theorem cv_X10_flip : Cond.selects (yN m_X10_flip).cls (yN m_X10_flip) (yN m_X10_flip) ∈ z_T := z_in0 (zc_6 _ (List.mem_of_getElem? (i := 175) rfl)) rfl
def m_X10_board : zY := (zR10, ⟨zR10, "board", "()I"⟩, prog_12_method_7_code, 1, some .int, [])
theorem ck_X10_board : zCk m_X10_board 0 := ⟨z_in0 (zc_2 _ (List.mem_of_getElem? (i := 221) rfl)) rfl, z_in0 (zc_1 _ (List.mem_of_getElem? (i := 8) rfl)) rfl, by decide +kernel, by decide +kernel, by decide +kernel, by decide +kernel⟩
theorem ci_X10_board : Cond.instanceMethod (yN m_X10_board) ∈ z_T := z_in0 (zc_2 _ (List.mem_of_getElem? (i := 219) rfl)) rfl
theorem cv_X10_board : Cond.selects (yN m_X10_board).cls (yN m_X10_board) (yN m_X10_board) ∈ z_T := z_in0 (zc_2 _ (List.mem_of_getElem? (i := 220) rfl)) rfl
def m_X10_degree : zY := (zR10, ⟨zR10, "degree", "(I)I"⟩, prog_12_method_8_code, 2, some .int, [])
theorem ck_X10_degree : zCk m_X10_degree 1 := ⟨z_in0 (zc_3 _ (List.mem_of_getElem? (i := 58) rfl)) rfl, z_in0 (zc_1 _ (List.mem_of_getElem? (i := 8) rfl)) rfl, by decide +kernel, by decide +kernel, by decide +kernel, by decide +kernel⟩
theorem ci_X10_degree : Cond.instanceMethod (yN m_X10_degree) ∈ z_T := z_in0 (zc_3 _ (List.mem_of_getElem? (i := 56) rfl)) rfl
theorem cv_X10_degree : Cond.selects (yN m_X10_degree).cls (yN m_X10_degree) (yN m_X10_degree) ∈ z_T := z_in0 (zc_3 _ (List.mem_of_getElem? (i := 57) rfl)) rfl
def m_X10_curesOf : zY := (zR10, ⟨zR10, "curesOf", "(I)I"⟩, prog_12_method_9_code, 4, some .int, [])
theorem ck_X10_curesOf : zCk m_X10_curesOf 1 := ⟨z_in0 (zc_6 _ (List.mem_of_getElem? (i := 158) rfl)) rfl, z_in0 (zc_1 _ (List.mem_of_getElem? (i := 8) rfl)) rfl, by decide +kernel, by decide +kernel, by decide +kernel, by decide +kernel⟩
theorem ci_X10_curesOf : Cond.instanceMethod (yN m_X10_curesOf) ∈ z_T := z_in0 (zc_6 _ (List.mem_of_getElem? (i := 156) rfl)) rfl
theorem cv_X10_curesOf : Cond.selects (yN m_X10_curesOf).cls (yN m_X10_curesOf) (yN m_X10_curesOf) ∈ z_T := z_in0 (zc_6 _ (List.mem_of_getElem? (i := 157) rfl)) rfl
def m_X10_hangsOn : zY := (zR10, ⟨zR10, "hangsOn", "(I)Z"⟩, prog_12_method_10_code, 4, some .boolean, [])
theorem ck_X10_hangsOn : zCk m_X10_hangsOn 1 := ⟨z_in0 (zc_6 _ (List.mem_of_getElem? (i := 167) rfl)) rfl, z_in0 (zc_1 _ (List.mem_of_getElem? (i := 8) rfl)) rfl, by decide +kernel, by decide +kernel, by decide +kernel, by decide +kernel⟩
theorem ci_X10_hangsOn : Cond.instanceMethod (yN m_X10_hangsOn) ∈ z_T := z_in0 (zc_6 _ (List.mem_of_getElem? (i := 165) rfl)) rfl
theorem cv_X10_hangsOn : Cond.selects (yN m_X10_hangsOn).cls (yN m_X10_hangsOn) (yN m_X10_hangsOn) ∈ z_T := z_in0 (zc_6 _ (List.mem_of_getElem? (i := 166) rfl)) rfl
def m_X10_pairsWith : zY := (zR10, ⟨zR10, "pairsWith", "(II)I"⟩, prog_12_method_11_code, 5, some .int, [])
theorem ck_X10_pairsWith : zCk m_X10_pairsWith 2 := ⟨z_in0 (zc_6 _ (List.mem_of_getElem? (i := 199) rfl)) rfl, z_in0 (zc_1 _ (List.mem_of_getElem? (i := 8) rfl)) rfl, by decide +kernel, by decide +kernel, by decide +kernel, by decide +kernel⟩
theorem ci_X10_pairsWith : Cond.instanceMethod (yN m_X10_pairsWith) ∈ z_T := z_in0 (zc_6 _ (List.mem_of_getElem? (i := 197) rfl)) rfl
theorem cv_X10_pairsWith : Cond.selects (yN m_X10_pairsWith).cls (yN m_X10_pairsWith) (yN m_X10_pairsWith) ∈ z_T := z_in0 (zc_6 _ (List.mem_of_getElem? (i := 198) rfl)) rfl
def m_X10_mostApartPairs : zY := (zR10, ⟨zR10, "mostApartPairs", "()I"⟩, prog_12_method_12_code, 3, some .int, [])
theorem ck_X10_mostApartPairs : zCk m_X10_mostApartPairs 0 := ⟨z_in0 (zc_3 _ (List.mem_of_getElem? (i := 54) rfl)) rfl, z_in0 (zc_1 _ (List.mem_of_getElem? (i := 8) rfl)) rfl, by decide +kernel, by decide +kernel, by decide +kernel, by decide +kernel⟩
theorem ci_X10_mostApartPairs : Cond.instanceMethod (yN m_X10_mostApartPairs) ∈ z_T := z_in0 (zc_3 _ (List.mem_of_getElem? (i := 52) rfl)) rfl
theorem cv_X10_mostApartPairs : Cond.selects (yN m_X10_mostApartPairs).cls (yN m_X10_mostApartPairs) (yN m_X10_mostApartPairs) ∈ z_T := z_in0 (zc_3 _ (List.mem_of_getElem? (i := 53) rfl)) rfl
def m_X10_pairUp : zY := (zR10, ⟨zR10, "pairUp", "(IIII)I"⟩, prog_12_method_13_code, 9, some .int, [])
theorem ck_X10_pairUp : zCk m_X10_pairUp 4 := ⟨z_in0 (zc_3 _ (List.mem_of_getElem? (i := 63) rfl)) rfl, z_in0 (zc_1 _ (List.mem_of_getElem? (i := 8) rfl)) rfl, by decide +kernel, by decide +kernel, by decide +kernel, by decide +kernel⟩
theorem ci_X10_pairUp : Cond.instanceMethod (yN m_X10_pairUp) ∈ z_T := z_in0 (zc_3 _ (List.mem_of_getElem? (i := 62) rfl)) rfl
theorem cv_X10_pairUp : Cond.selects (yN m_X10_pairUp).cls (yN m_X10_pairUp) (yN m_X10_pairUp) ∈ z_T := z_in0 (zp_1 _ (List.mem_of_getElem? (i := 6) rfl)) rfl
def m_X11_init : zY := (zR11, ⟨zR11, "<init>", "()V"⟩, prog_1_method_1_code, 1, none, [])
theorem ck_X11_init : zCk m_X11_init 0 := ⟨z_in0 (zc_1 _ (List.mem_of_getElem? (i := 33) rfl)) rfl, z_in0 (zc_1 _ (List.mem_of_getElem? (i := 1) rfl)) rfl, by decide +kernel, by decide +kernel, by decide +kernel, by decide +kernel⟩
theorem ci_X11_init : Cond.instanceMethod (yN m_X11_init) ∈ z_T := z_in0 (zc_1 _ (List.mem_of_getElem? (i := 32) rfl)) rfl
def m_X11_feed : zY := (zR11, ⟨zR11, "feed", "(IIIII)I"⟩, prog_1_method_2_code, 6, some .int, [])
theorem ck_X11_feed : zCk m_X11_feed 5 := ⟨z_in0 (zc_2 _ (List.mem_of_getElem? (i := 160) rfl)) rfl, z_in0 (zc_1 _ (List.mem_of_getElem? (i := 1) rfl)) rfl, by decide +kernel, by decide +kernel, by decide +kernel, by decide +kernel⟩
theorem ci_X11_feed : Cond.instanceMethod (yN m_X11_feed) ∈ z_T := z_in0 (zc_2 _ (List.mem_of_getElem? (i := 158) rfl)) rfl
theorem cv_X11_feed : Cond.selects (yN m_X11_feed).cls (yN m_X11_feed) (yN m_X11_feed) ∈ z_T := z_in0 (zc_2 _ (List.mem_of_getElem? (i := 159) rfl)) rfl
def m_X11_putNumber : zY := (zR11, ⟨zR11, "putNumber", "(I)V"⟩, prog_1_method_3_code, 3, none, [])
theorem ck_X11_putNumber : zCk m_X11_putNumber 1 := ⟨z_in0 (zc_2 _ (List.mem_of_getElem? (i := 164) rfl)) rfl, z_in0 (zc_1 _ (List.mem_of_getElem? (i := 1) rfl)) rfl, by decide +kernel, by decide +kernel, by decide +kernel, by decide +kernel⟩
theorem ci_X11_putNumber : Cond.instanceMethod (yN m_X11_putNumber) ∈ z_T := z_in0 (zc_2 _ (List.mem_of_getElem? (i := 163) rfl)) rfl
theorem cv_X11_putNumber : Cond.selects (yN m_X11_putNumber).cls (yN m_X11_putNumber) (yN m_X11_putNumber) ∈ z_T := z_in0 (zp_1 _ (List.mem_of_getElem? (i := 0) rfl)) rfl
def m_X11_alphabet : zY := (zR11, ⟨zR11, "alphabet", "(I)I"⟩, prog_1_method_4_code, 2, some .int, [])
theorem ck_X11_alphabet : zCk m_X11_alphabet 1 := ⟨z_in0 (zc_4 _ (List.mem_of_getElem? (i := 5) rfl)) rfl, z_in0 (zc_1 _ (List.mem_of_getElem? (i := 1) rfl)) rfl, by decide +kernel, by decide +kernel, by decide +kernel, by decide +kernel⟩
theorem ci_X11_alphabet : Cond.instanceMethod (yN m_X11_alphabet) ∈ z_T := z_in0 (zc_4 _ (List.mem_of_getElem? (i := 3) rfl)) rfl
theorem cv_X11_alphabet : Cond.selects (yN m_X11_alphabet).cls (yN m_X11_alphabet) (yN m_X11_alphabet) ∈ z_T := z_in0 (zc_4 _ (List.mem_of_getElem? (i := 4) rfl)) rfl
def m_X11_rule : zY := (zR11, ⟨zR11, "rule", "(I)I"⟩, prog_1_method_5_code, 2, some .int, [])
theorem ck_X11_rule : zCk m_X11_rule 1 := ⟨z_in0 (zc_5 _ (List.mem_of_getElem? (i := 41) rfl)) rfl, z_in0 (zc_1 _ (List.mem_of_getElem? (i := 1) rfl)) rfl, by decide +kernel, by decide +kernel, by decide +kernel, by decide +kernel⟩
theorem ci_X11_rule : Cond.instanceMethod (yN m_X11_rule) ∈ z_T := z_in0 (zc_5 _ (List.mem_of_getElem? (i := 39) rfl)) rfl
theorem cv_X11_rule : Cond.selects (yN m_X11_rule).cls (yN m_X11_rule) (yN m_X11_rule) ∈ z_T := z_in0 (zc_5 _ (List.mem_of_getElem? (i := 40) rfl)) rfl
def m_X11_fault : zY := (zR11, ⟨zR11, "fault", "()I"⟩, prog_1_method_6_code, 1, some .int, [])
theorem ck_X11_fault : zCk m_X11_fault 0 := ⟨z_in0 (zc_2 _ (List.mem_of_getElem? (i := 168) rfl)) rfl, z_in0 (zc_1 _ (List.mem_of_getElem? (i := 1) rfl)) rfl, by decide +kernel, by decide +kernel, by decide +kernel, by decide +kernel⟩
theorem ci_X11_fault : Cond.instanceMethod (yN m_X11_fault) ∈ z_T := z_in0 (zc_2 _ (List.mem_of_getElem? (i := 166) rfl)) rfl
theorem cv_X11_fault : Cond.selects (yN m_X11_fault).cls (yN m_X11_fault) (yN m_X11_fault) ∈ z_T := z_in0 (zc_2 _ (List.mem_of_getElem? (i := 167) rfl)) rfl
def m_X11_told : zY := (zR11, ⟨zR11, "told", "(I)I"⟩, prog_1_method_7_code, 2, some .int, [])
theorem ck_X11_told : zCk m_X11_told 1 := ⟨z_in0 (zc_5 _ (List.mem_of_getElem? (i := 161) rfl)) rfl, z_in0 (zc_1 _ (List.mem_of_getElem? (i := 1) rfl)) rfl, by decide +kernel, by decide +kernel, by decide +kernel, by decide +kernel⟩
theorem ci_X11_told : Cond.instanceMethod (yN m_X11_told) ∈ z_T := z_in0 (zc_5 _ (List.mem_of_getElem? (i := 159) rfl)) rfl
theorem cv_X11_told : Cond.selects (yN m_X11_told).cls (yN m_X11_told) (yN m_X11_told) ∈ z_T := z_in0 (zc_5 _ (List.mem_of_getElem? (i := 160) rfl)) rfl
def m_X11_sign : zY := (zR11, ⟨zR11, "sign", "(I)I"⟩, prog_1_method_8_code, 2, some .int, [])
theorem ck_X11_sign : zCk m_X11_sign 1 := ⟨z_in0 (zc_5 _ (List.mem_of_getElem? (i := 170) rfl)) rfl, z_in0 (zc_1 _ (List.mem_of_getElem? (i := 1) rfl)) rfl, by decide +kernel, by decide +kernel, by decide +kernel, by decide +kernel⟩
theorem ci_X11_sign : Cond.instanceMethod (yN m_X11_sign) ∈ z_T := z_in0 (zc_5 _ (List.mem_of_getElem? (i := 168) rfl)) rfl
theorem cv_X11_sign : Cond.selects (yN m_X11_sign).cls (yN m_X11_sign) (yN m_X11_sign) ∈ z_T := z_in0 (zc_5 _ (List.mem_of_getElem? (i := 169) rfl)) rfl
def m_X11_family : zY := (zR11, ⟨zR11, "family", "(I)I"⟩, prog_1_method_9_code, 2, some .int, [])
theorem ck_X11_family : zCk m_X11_family 1 := ⟨z_in0 (zc_5 _ (List.mem_of_getElem? (i := 197) rfl)) rfl, z_in0 (zc_1 _ (List.mem_of_getElem? (i := 1) rfl)) rfl, by decide +kernel, by decide +kernel, by decide +kernel, by decide +kernel⟩
theorem ci_X11_family : Cond.instanceMethod (yN m_X11_family) ∈ z_T := z_in0 (zc_5 _ (List.mem_of_getElem? (i := 195) rfl)) rfl
theorem cv_X11_family : Cond.selects (yN m_X11_family).cls (yN m_X11_family) (yN m_X11_family) ∈ z_T := z_in0 (zc_5 _ (List.mem_of_getElem? (i := 196) rfl)) rfl
def m_X11_word : zY := (zR11, ⟨zR11, "word", "(II)I"⟩, prog_1_method_10_code, 3, some .int, [])
theorem ck_X11_word : zCk m_X11_word 2 := ⟨z_in0 (zc_5 _ (List.mem_of_getElem? (i := 206) rfl)) rfl, z_in0 (zc_1 _ (List.mem_of_getElem? (i := 1) rfl)) rfl, by decide +kernel, by decide +kernel, by decide +kernel, by decide +kernel⟩
theorem ci_X11_word : Cond.instanceMethod (yN m_X11_word) ∈ z_T := z_in0 (zc_5 _ (List.mem_of_getElem? (i := 204) rfl)) rfl
theorem cv_X11_word : Cond.selects (yN m_X11_word).cls (yN m_X11_word) (yN m_X11_word) ∈ z_T := z_in0 (zc_5 _ (List.mem_of_getElem? (i := 205) rfl)) rfl
def m_X11_cover : zY := (zR11, ⟨zR11, "cover", "(I)I"⟩, prog_1_method_11_code, 2, some .int, [])
theorem ck_X11_cover : zCk m_X11_cover 1 := ⟨z_in0 (zc_5 _ (List.mem_of_getElem? (i := 230) rfl)) rfl, z_in0 (zc_1 _ (List.mem_of_getElem? (i := 1) rfl)) rfl, by decide +kernel, by decide +kernel, by decide +kernel, by decide +kernel⟩
theorem ci_X11_cover : Cond.instanceMethod (yN m_X11_cover) ∈ z_T := z_in0 (zc_5 _ (List.mem_of_getElem? (i := 228) rfl)) rfl
theorem cv_X11_cover : Cond.selects (yN m_X11_cover).cls (yN m_X11_cover) (yN m_X11_cover) ∈ z_T := z_in0 (zc_5 _ (List.mem_of_getElem? (i := 229) rfl)) rfl
def m_X11_dirt : zY := (zR11, ⟨zR11, "dirt", "(I)I"⟩, prog_1_method_12_code, 3, some .int, [])
theorem ck_X11_dirt : zCk m_X11_dirt 1 := ⟨z_in0 (zc_6 _ (List.mem_of_getElem? (i := 3) rfl)) rfl, z_in0 (zc_1 _ (List.mem_of_getElem? (i := 1) rfl)) rfl, by decide +kernel, by decide +kernel, by decide +kernel, by decide +kernel⟩
theorem ci_X11_dirt : Cond.instanceMethod (yN m_X11_dirt) ∈ z_T := z_in0 (zc_6 _ (List.mem_of_getElem? (i := 1) rfl)) rfl
theorem cv_X11_dirt : Cond.selects (yN m_X11_dirt).cls (yN m_X11_dirt) (yN m_X11_dirt) ∈ z_T := z_in0 (zc_6 _ (List.mem_of_getElem? (i := 2) rfl)) rfl
def m_X11_confused : zY := (zR11, ⟨zR11, "confused", "(II)I"⟩, prog_1_method_13_code, 3, some .int, [])
theorem ck_X11_confused : zCk m_X11_confused 2 := ⟨z_in0 (zc_6 _ (List.mem_of_getElem? (i := 11) rfl)) rfl, z_in0 (zc_1 _ (List.mem_of_getElem? (i := 1) rfl)) rfl, by decide +kernel, by decide +kernel, by decide +kernel, by decide +kernel⟩
theorem ci_X11_confused : Cond.instanceMethod (yN m_X11_confused) ∈ z_T := z_in0 (zc_6 _ (List.mem_of_getElem? (i := 9) rfl)) rfl
theorem cv_X11_confused : Cond.selects (yN m_X11_confused).cls (yN m_X11_confused) (yN m_X11_confused) ∈ z_T := z_in0 (zc_6 _ (List.mem_of_getElem? (i := 10) rfl)) rfl
def m_X11_confusions : zY := (zR11, ⟨zR11, "confusions", "()I"⟩, prog_1_method_14_code, 1, some .int, [])
theorem ck_X11_confusions : zCk m_X11_confusions 0 := ⟨z_in0 (zc_2 _ (List.mem_of_getElem? (i := 176) rfl)) rfl, z_in0 (zc_1 _ (List.mem_of_getElem? (i := 1) rfl)) rfl, by decide +kernel, by decide +kernel, by decide +kernel, by decide +kernel⟩
theorem ci_X11_confusions : Cond.instanceMethod (yN m_X11_confusions) ∈ z_T := z_in0 (zc_2 _ (List.mem_of_getElem? (i := 174) rfl)) rfl
theorem cv_X11_confusions : Cond.selects (yN m_X11_confusions).cls (yN m_X11_confusions) (yN m_X11_confusions) ∈ z_T := z_in0 (zc_2 _ (List.mem_of_getElem? (i := 175) rfl)) rfl
def m_X11_blind : zY := (zR11, ⟨zR11, "blind", "(I)I"⟩, prog_1_method_15_code, 3, some .int, [])
theorem ck_X11_blind : zCk m_X11_blind 1 := ⟨z_in0 (zc_6 _ (List.mem_of_getElem? (i := 20) rfl)) rfl, z_in0 (zc_1 _ (List.mem_of_getElem? (i := 1) rfl)) rfl, by decide +kernel, by decide +kernel, by decide +kernel, by decide +kernel⟩
theorem ci_X11_blind : Cond.instanceMethod (yN m_X11_blind) ∈ z_T := z_in0 (zc_6 _ (List.mem_of_getElem? (i := 18) rfl)) rfl
theorem cv_X11_blind : Cond.selects (yN m_X11_blind).cls (yN m_X11_blind) (yN m_X11_blind) ∈ z_T := z_in0 (zc_6 _ (List.mem_of_getElem? (i := 19) rfl)) rfl
def m_X11_may : zY := (zR11, ⟨zR11, "may", "(II)I"⟩, prog_1_method_16_code, 3, some .int, [])
theorem ck_X11_may : zCk m_X11_may 2 := ⟨z_in0 (zc_6 _ (List.mem_of_getElem? (i := 43) rfl)) rfl, z_in0 (zc_1 _ (List.mem_of_getElem? (i := 1) rfl)) rfl, by decide +kernel, by decide +kernel, by decide +kernel, by decide +kernel⟩
theorem ci_X11_may : Cond.instanceMethod (yN m_X11_may) ∈ z_T := z_in0 (zc_6 _ (List.mem_of_getElem? (i := 41) rfl)) rfl
theorem cv_X11_may : Cond.selects (yN m_X11_may).cls (yN m_X11_may) (yN m_X11_may) ∈ z_T := z_in0 (zc_6 _ (List.mem_of_getElem? (i := 42) rfl)) rfl
def m_X11_read : zY := (zR11, ⟨zR11, "read", "(II)I"⟩, prog_1_method_17_code, 3, some .int, [])
theorem ck_X11_read : zCk m_X11_read 2 := ⟨z_in0 (zc_6 _ (List.mem_of_getElem? (i := 55) rfl)) rfl, z_in0 (zc_1 _ (List.mem_of_getElem? (i := 1) rfl)) rfl, by decide +kernel, by decide +kernel, by decide +kernel, by decide +kernel⟩
theorem ci_X11_read : Cond.instanceMethod (yN m_X11_read) ∈ z_T := z_in0 (zc_6 _ (List.mem_of_getElem? (i := 53) rfl)) rfl
theorem cv_X11_read : Cond.selects (yN m_X11_read).cls (yN m_X11_read) (yN m_X11_read) ∈ z_T := z_in0 (zc_6 _ (List.mem_of_getElem? (i := 54) rfl)) rfl
def m_X11_nearest : zY := (zR11, ⟨zR11, "nearest", "(II)I"⟩, prog_1_method_18_code, 3, some .int, [])
theorem ck_X11_nearest : zCk m_X11_nearest 2 := ⟨z_in0 (zc_6 _ (List.mem_of_getElem? (i := 69) rfl)) rfl, z_in0 (zc_1 _ (List.mem_of_getElem? (i := 1) rfl)) rfl, by decide +kernel, by decide +kernel, by decide +kernel, by decide +kernel⟩
theorem ci_X11_nearest : Cond.instanceMethod (yN m_X11_nearest) ∈ z_T := z_in0 (zc_6 _ (List.mem_of_getElem? (i := 67) rfl)) rfl
theorem cv_X11_nearest : Cond.selects (yN m_X11_nearest).cls (yN m_X11_nearest) (yN m_X11_nearest) ∈ z_T := z_in0 (zc_6 _ (List.mem_of_getElem? (i := 68) rfl)) rfl
def m_X11_part : zY := (zR11, ⟨zR11, "part", "(II)I"⟩, prog_1_method_19_code, 3, some .int, [])
theorem ck_X11_part : zCk m_X11_part 2 := ⟨z_in0 (zc_6 _ (List.mem_of_getElem? (i := 80) rfl)) rfl, z_in0 (zc_1 _ (List.mem_of_getElem? (i := 1) rfl)) rfl, by decide +kernel, by decide +kernel, by decide +kernel, by decide +kernel⟩
theorem ci_X11_part : Cond.instanceMethod (yN m_X11_part) ∈ z_T := z_in0 (zc_6 _ (List.mem_of_getElem? (i := 78) rfl)) rfl
theorem cv_X11_part : Cond.selects (yN m_X11_part).cls (yN m_X11_part) (yN m_X11_part) ∈ z_T := z_in0 (zc_6 _ (List.mem_of_getElem? (i := 79) rfl)) rfl
def m_X11_forget : zY := (zR11, ⟨zR11, "forget", "()I"⟩, prog_1_method_20_code, 2, some .int, [])
theorem ck_X11_forget : zCk m_X11_forget 0 := ⟨z_in0 (zc_2 _ (List.mem_of_getElem? (i := 229) rfl)) rfl, z_in0 (zc_1 _ (List.mem_of_getElem? (i := 1) rfl)) rfl, by decide +kernel, by decide +kernel, by decide +kernel, by decide +kernel⟩
theorem ci_X11_forget : Cond.instanceMethod (yN m_X11_forget) ∈ z_T := z_in0 (zc_2 _ (List.mem_of_getElem? (i := 227) rfl)) rfl
theorem cv_X11_forget : Cond.selects (yN m_X11_forget).cls (yN m_X11_forget) (yN m_X11_forget) ∈ z_T := z_in0 (zc_2 _ (List.mem_of_getElem? (i := 228) rfl)) rfl
def m_X11_words : zY := (zR11, ⟨zR11, "words", "()I"⟩, prog_1_method_21_code, 3, some .int, [])
theorem ck_X11_words : zCk m_X11_words 0 := ⟨z_in0 (zc_2 _ (List.mem_of_getElem? (i := 233) rfl)) rfl, z_in0 (zc_1 _ (List.mem_of_getElem? (i := 1) rfl)) rfl, by decide +kernel, by decide +kernel, by decide +kernel, by decide +kernel⟩
theorem ci_X11_words : Cond.instanceMethod (yN m_X11_words) ∈ z_T := z_in0 (zc_2 _ (List.mem_of_getElem? (i := 231) rfl)) rfl
theorem cv_X11_words : Cond.selects (yN m_X11_words).cls (yN m_X11_words) (yN m_X11_words) ∈ z_T := z_in0 (zc_2 _ (List.mem_of_getElem? (i := 232) rfl)) rfl
def m_X11_sure : zY := (zR11, ⟨zR11, "sure", "(I)I"⟩, prog_1_method_22_code, 6, some .int, [])
theorem ck_X11_sure : zCk m_X11_sure 1 := ⟨z_in0 (zc_3 _ (List.mem_of_getElem? (i := 24) rfl)) rfl, z_in0 (zc_1 _ (List.mem_of_getElem? (i := 1) rfl)) rfl, by decide +kernel, by decide +kernel, by decide +kernel, by decide +kernel⟩
theorem ci_X11_sure : Cond.instanceMethod (yN m_X11_sure) ∈ z_T := z_in0 (zc_3 _ (List.mem_of_getElem? (i := 22) rfl)) rfl
theorem cv_X11_sure : Cond.selects (yN m_X11_sure).cls (yN m_X11_sure) (yN m_X11_sure) ∈ z_T := z_in0 (zc_3 _ (List.mem_of_getElem? (i := 23) rfl)) rfl
def m_X11_least : zY := (zR11, ⟨zR11, "least", "(II)I"⟩, prog_1_method_23_code, 5, some .int, [])
theorem ck_X11_least : zCk m_X11_least 2 := ⟨z_in0 (zc_6 _ (List.mem_of_getElem? (i := 91) rfl)) rfl, z_in0 (zc_1 _ (List.mem_of_getElem? (i := 1) rfl)) rfl, by decide +kernel, by decide +kernel, by decide +kernel, by decide +kernel⟩
theorem ci_X11_least : Cond.instanceMethod (yN m_X11_least) ∈ z_T := z_in0 (zc_6 _ (List.mem_of_getElem? (i := 89) rfl)) rfl
theorem cv_X11_least : Cond.selects (yN m_X11_least).cls (yN m_X11_least) (yN m_X11_least) ∈ z_T := z_in0 (zc_6 _ (List.mem_of_getElem? (i := 90) rfl)) rfl
def m_X11_strokes : zY := (zR11, ⟨zR11, "strokes", "(I)I"⟩, prog_1_method_24_code, 2, some .int, [])
theorem ck_X11_strokes : zCk m_X11_strokes 1 := ⟨z_in0 (zc_6 _ (List.mem_of_getElem? (i := 113) rfl)) rfl, z_in0 (zc_1 _ (List.mem_of_getElem? (i := 1) rfl)) rfl, by decide +kernel, by decide +kernel, by decide +kernel, by decide +kernel⟩
theorem ci_X11_strokes : Cond.instanceMethod (yN m_X11_strokes) ∈ z_T := z_in0 (zc_6 _ (List.mem_of_getElem? (i := 111) rfl)) rfl
theorem cv_X11_strokes : Cond.selects (yN m_X11_strokes).cls (yN m_X11_strokes) (yN m_X11_strokes) ∈ z_T := z_in0 (zc_6 _ (List.mem_of_getElem? (i := 112) rfl)) rfl
def m_X11_akin : zY := (zR11, ⟨zR11, "akin", "(II)I"⟩, prog_1_method_25_code, 4, some .int, [])
theorem ck_X11_akin : zCk m_X11_akin 2 := ⟨z_in0 (zc_6 _ (List.mem_of_getElem? (i := 133) rfl)) rfl, z_in0 (zc_1 _ (List.mem_of_getElem? (i := 1) rfl)) rfl, by decide +kernel, by decide +kernel, by decide +kernel, by decide +kernel⟩
theorem ci_X11_akin : Cond.instanceMethod (yN m_X11_akin) ∈ z_T := z_in0 (zc_6 _ (List.mem_of_getElem? (i := 131) rfl)) rfl
theorem cv_X11_akin : Cond.selects (yN m_X11_akin).cls (yN m_X11_akin) (yN m_X11_akin) ∈ z_T := z_in0 (zc_6 _ (List.mem_of_getElem? (i := 132) rfl)) rfl
def m_X11_strangers : zY := (zR11, ⟨zR11, "strangers", "()I"⟩, prog_1_method_26_code, 3, some .int, [])
theorem ck_X11_strangers : zCk m_X11_strangers 0 := ⟨z_in0 (zc_3 _ (List.mem_of_getElem? (i := 29) rfl)) rfl, z_in0 (zc_1 _ (List.mem_of_getElem? (i := 1) rfl)) rfl, by decide +kernel, by decide +kernel, by decide +kernel, by decide +kernel⟩
theorem ci_X11_strangers : Cond.instanceMethod (yN m_X11_strangers) ∈ z_T := z_in0 (zc_3 _ (List.mem_of_getElem? (i := 27) rfl)) rfl
theorem cv_X11_strangers : Cond.selects (yN m_X11_strangers).cls (yN m_X11_strangers) (yN m_X11_strangers) ∈ z_T := z_in0 (zc_3 _ (List.mem_of_getElem? (i := 28) rfl)) rfl
def m_X11_changed : zY := (zR11, ⟨zR11, "changed", "(I)I"⟩, prog_1_method_27_code, 2, some .int, [])
theorem ck_X11_changed : zCk m_X11_changed 1 := ⟨z_in0 (zc_6 _ (List.mem_of_getElem? (i := 146) rfl)) rfl, z_in0 (zc_1 _ (List.mem_of_getElem? (i := 1) rfl)) rfl, by decide +kernel, by decide +kernel, by decide +kernel, by decide +kernel⟩
theorem ci_X11_changed : Cond.instanceMethod (yN m_X11_changed) ∈ z_T := z_in0 (zc_6 _ (List.mem_of_getElem? (i := 144) rfl)) rfl
theorem cv_X11_changed : Cond.selects (yN m_X11_changed).cls (yN m_X11_changed) (yN m_X11_changed) ∈ z_T := z_in0 (zc_6 _ (List.mem_of_getElem? (i := 145) rfl)) rfl
def m_X11_bound : zY := (zR11, ⟨zR11, "bound", "()I"⟩, prog_1_method_28_code, 1, some .int, [])
theorem ck_X11_bound : zCk m_X11_bound 0 := ⟨z_in0 (zc_3 _ (List.mem_of_getElem? (i := 46) rfl)) rfl, z_in0 (zc_1 _ (List.mem_of_getElem? (i := 1) rfl)) rfl, by decide +kernel, by decide +kernel, by decide +kernel, by decide +kernel⟩
theorem ci_X11_bound : Cond.instanceMethod (yN m_X11_bound) ∈ z_T := z_in0 (zc_3 _ (List.mem_of_getElem? (i := 44) rfl)) rfl
theorem cv_X11_bound : Cond.selects (yN m_X11_bound).cls (yN m_X11_bound) (yN m_X11_bound) ∈ z_T := z_in0 (zc_3 _ (List.mem_of_getElem? (i := 45) rfl)) rfl
def m_X11_steps : zY := (zR11, ⟨zR11, "steps", "(I)I"⟩, prog_1_method_29_code, 2, some .int, [])
theorem ck_X11_steps : zCk m_X11_steps 1 := ⟨z_in0 (zc_6 _ (List.mem_of_getElem? (i := 187) rfl)) rfl, z_in0 (zc_1 _ (List.mem_of_getElem? (i := 1) rfl)) rfl, by decide +kernel, by decide +kernel, by decide +kernel, by decide +kernel⟩
theorem ci_X11_steps : Cond.instanceMethod (yN m_X11_steps) ∈ z_T := z_in0 (zc_6 _ (List.mem_of_getElem? (i := 185) rfl)) rfl
theorem cv_X11_steps : Cond.selects (yN m_X11_steps).cls (yN m_X11_steps) (yN m_X11_steps) ∈ z_T := z_in0 (zc_6 _ (List.mem_of_getElem? (i := 186) rfl)) rfl
def m_X11_most : zY := (zR11, ⟨zR11, "most", "()I"⟩, prog_1_method_30_code, 1, some .int, [])
theorem ck_X11_most : zCk m_X11_most 0 := ⟨z_in0 (zc_3 _ (List.mem_of_getElem? (i := 74) rfl)) rfl, z_in0 (zc_1 _ (List.mem_of_getElem? (i := 1) rfl)) rfl, by decide +kernel, by decide +kernel, by decide +kernel, by decide +kernel⟩
theorem ci_X11_most : Cond.instanceMethod (yN m_X11_most) ∈ z_T := z_in0 (zc_3 _ (List.mem_of_getElem? (i := 72) rfl)) rfl
theorem cv_X11_most : Cond.selects (yN m_X11_most).cls (yN m_X11_most) (yN m_X11_most) ∈ z_T := z_in0 (zc_3 _ (List.mem_of_getElem? (i := 73) rfl)) rfl
def m_X11_taken : zY := (zR11, ⟨zR11, "taken", "()I"⟩, prog_1_method_31_code, 1, some .int, [])
theorem ck_X11_taken : zCk m_X11_taken 0 := ⟨z_in0 (zc_3 _ (List.mem_of_getElem? (i := 127) rfl)) rfl, z_in0 (zc_1 _ (List.mem_of_getElem? (i := 1) rfl)) rfl, by decide +kernel, by decide +kernel, by decide +kernel, by decide +kernel⟩
theorem ci_X11_taken : Cond.instanceMethod (yN m_X11_taken) ∈ z_T := z_in0 (zc_3 _ (List.mem_of_getElem? (i := 125) rfl)) rfl
theorem cv_X11_taken : Cond.selects (yN m_X11_taken).cls (yN m_X11_taken) (yN m_X11_taken) ∈ z_T := z_in0 (zc_3 _ (List.mem_of_getElem? (i := 126) rfl)) rfl
def m_X11_stand : zY := (zR11, ⟨zR11, "stand", "(III)I"⟩, prog_1_method_32_code, 4, some .int, [])
theorem ck_X11_stand : zCk m_X11_stand 3 := ⟨z_in0 (zc_6 _ (List.mem_of_getElem? (i := 210) rfl)) rfl, z_in0 (zc_1 _ (List.mem_of_getElem? (i := 1) rfl)) rfl, by decide +kernel, by decide +kernel, by decide +kernel, by decide +kernel⟩
theorem ci_X11_stand : Cond.instanceMethod (yN m_X11_stand) ∈ z_T := z_in0 (zc_6 _ (List.mem_of_getElem? (i := 208) rfl)) rfl
theorem cv_X11_stand : Cond.selects (yN m_X11_stand).cls (yN m_X11_stand) (yN m_X11_stand) ∈ z_T := z_in0 (zc_6 _ (List.mem_of_getElem? (i := 209) rfl)) rfl
def m_X11_leave : zY := (zR11, ⟨zR11, "leave", "()I"⟩, prog_1_method_33_code, 2, some .int, [])
theorem ck_X11_leave : zCk m_X11_leave 0 := ⟨z_in0 (zc_3 _ (List.mem_of_getElem? (i := 139) rfl)) rfl, z_in0 (zc_1 _ (List.mem_of_getElem? (i := 1) rfl)) rfl, by decide +kernel, by decide +kernel, by decide +kernel, by decide +kernel⟩
theorem ci_X11_leave : Cond.instanceMethod (yN m_X11_leave) ∈ z_T := z_in0 (zc_3 _ (List.mem_of_getElem? (i := 137) rfl)) rfl
theorem cv_X11_leave : Cond.selects (yN m_X11_leave).cls (yN m_X11_leave) (yN m_X11_leave) ∈ z_T := z_in0 (zc_3 _ (List.mem_of_getElem? (i := 138) rfl)) rfl
def m_X11_seen : zY := (zR11, ⟨zR11, "seen", "(IIZ)I"⟩, prog_1_method_34_code, 4, some .int, [])
theorem ck_X11_seen : zCk m_X11_seen 3 := ⟨z_in0 (zc_6 _ (List.mem_of_getElem? (i := 222) rfl)) rfl, z_in0 (zc_1 _ (List.mem_of_getElem? (i := 1) rfl)) rfl, by decide +kernel, by decide +kernel, by decide +kernel, by decide +kernel⟩
theorem ci_X11_seen : Cond.instanceMethod (yN m_X11_seen) ∈ z_T := z_in0 (zc_6 _ (List.mem_of_getElem? (i := 220) rfl)) rfl
theorem cv_X11_seen : Cond.selects (yN m_X11_seen).cls (yN m_X11_seen) (yN m_X11_seen) ∈ z_T := z_in0 (zc_6 _ (List.mem_of_getElem? (i := 221) rfl)) rfl
def m_X11_guess : zY := (zR11, ⟨zR11, "guess", "(IIZ)I"⟩, prog_1_method_35_code, 4, some .int, [])
theorem ck_X11_guess : zCk m_X11_guess 3 := ⟨z_in0 (zc_6 _ (List.mem_of_getElem? (i := 239) rfl)) rfl, z_in0 (zc_1 _ (List.mem_of_getElem? (i := 1) rfl)) rfl, by decide +kernel, by decide +kernel, by decide +kernel, by decide +kernel⟩
theorem ci_X11_guess : Cond.instanceMethod (yN m_X11_guess) ∈ z_T := z_in0 (zc_6 _ (List.mem_of_getElem? (i := 237) rfl)) rfl
theorem cv_X11_guess : Cond.selects (yN m_X11_guess).cls (yN m_X11_guess) (yN m_X11_guess) ∈ z_T := z_in0 (zc_6 _ (List.mem_of_getElem? (i := 238) rfl)) rfl
def m_X11_known : zY := (zR11, ⟨zR11, "known", "(IZ)I"⟩, prog_1_method_36_code, 4, some .int, [])
theorem ck_X11_known : zCk m_X11_known 2 := ⟨z_in0 (zc_7 _ (List.mem_of_getElem? (i := 6) rfl)) rfl, z_in0 (zc_1 _ (List.mem_of_getElem? (i := 1) rfl)) rfl, by decide +kernel, by decide +kernel, by decide +kernel, by decide +kernel⟩
theorem ci_X11_known : Cond.instanceMethod (yN m_X11_known) ∈ z_T := z_in0 (zc_7 _ (List.mem_of_getElem? (i := 4) rfl)) rfl
theorem cv_X11_known : Cond.selects (yN m_X11_known).cls (yN m_X11_known) (yN m_X11_known) ∈ z_T := z_in0 (zc_7 _ (List.mem_of_getElem? (i := 5) rfl)) rfl
def m_X11_all : zY := (zR11, ⟨zR11, "all", "(Z)I"⟩, prog_1_method_37_code, 4, some .int, [])
theorem ck_X11_all : zCk m_X11_all 1 := ⟨z_in0 (zc_3 _ (List.mem_of_getElem? (i := 148) rfl)) rfl, z_in0 (zc_1 _ (List.mem_of_getElem? (i := 1) rfl)) rfl, by decide +kernel, by decide +kernel, by decide +kernel, by decide +kernel⟩
theorem ci_X11_all : Cond.instanceMethod (yN m_X11_all) ∈ z_T := z_in0 (zc_3 _ (List.mem_of_getElem? (i := 146) rfl)) rfl
theorem cv_X11_all : Cond.selects (yN m_X11_all).cls (yN m_X11_all) (yN m_X11_all) ∈ z_T := z_in0 (zc_3 _ (List.mem_of_getElem? (i := 147) rfl)) rfl
def m_X11_voyage : zY := (zR11, ⟨zR11, "voyage", "(Z)I"⟩, prog_1_method_38_code, 3, some .int, [])
theorem ck_X11_voyage : zCk m_X11_voyage 1 := ⟨z_in0 (zc_3 _ (List.mem_of_getElem? (i := 194) rfl)) rfl, z_in0 (zc_1 _ (List.mem_of_getElem? (i := 1) rfl)) rfl, by decide +kernel, by decide +kernel, by decide +kernel, by decide +kernel⟩
theorem ci_X11_voyage : Cond.instanceMethod (yN m_X11_voyage) ∈ z_T := z_in0 (zc_3 _ (List.mem_of_getElem? (i := 192) rfl)) rfl
theorem cv_X11_voyage : Cond.selects (yN m_X11_voyage).cls (yN m_X11_voyage) (yN m_X11_voyage) ∈ z_T := z_in0 (zc_3 _ (List.mem_of_getElem? (i := 193) rfl)) rfl
def m_X11_image : zY := (zR11, ⟨zR11, "image", "()I"⟩, prog_1_method_39_code, 1, some .int, [])
theorem ck_X11_image : zCk m_X11_image 0 := ⟨z_in0 (zc_3 _ (List.mem_of_getElem? (i := 214) rfl)) rfl, z_in0 (zc_1 _ (List.mem_of_getElem? (i := 1) rfl)) rfl, by decide +kernel, by decide +kernel, by decide +kernel, by decide +kernel⟩
theorem ci_X11_image : Cond.instanceMethod (yN m_X11_image) ∈ z_T := z_in0 (zc_3 _ (List.mem_of_getElem? (i := 212) rfl)) rfl
theorem cv_X11_image : Cond.selects (yN m_X11_image).cls (yN m_X11_image) (yN m_X11_image) ∈ z_T := z_in0 (zc_3 _ (List.mem_of_getElem? (i := 213) rfl)) rfl
def m_X11_restore : zY := (zR11, ⟨zR11, "restore", "()I"⟩, prog_1_method_40_code, 1, some .int, [])
theorem ck_X11_restore : zCk m_X11_restore 0 := ⟨z_in0 (zc_3 _ (List.mem_of_getElem? (i := 229) rfl)) rfl, z_in0 (zc_1 _ (List.mem_of_getElem? (i := 1) rfl)) rfl, by decide +kernel, by decide +kernel, by decide +kernel, by decide +kernel⟩
theorem ci_X11_restore : Cond.instanceMethod (yN m_X11_restore) ∈ z_T := z_in0 (zc_3 _ (List.mem_of_getElem? (i := 227) rfl)) rfl
theorem cv_X11_restore : Cond.selects (yN m_X11_restore).cls (yN m_X11_restore) (yN m_X11_restore) ∈ z_T := z_in0 (zc_3 _ (List.mem_of_getElem? (i := 228) rfl)) rfl
def m_X11_count : zY := (zR11, ⟨zR11, "count", "(I)I"⟩, prog_1_method_41_code, 2, some .int, [])
theorem ck_X11_count : zCk m_X11_count 1 := ⟨z_in0 (zc_3 _ (List.mem_of_getElem? (i := 237) rfl)) rfl, z_in0 (zc_1 _ (List.mem_of_getElem? (i := 1) rfl)) rfl, by decide +kernel, by decide +kernel, by decide +kernel, by decide +kernel⟩
theorem ci_X11_count : Cond.instanceMethod (yN m_X11_count) ∈ z_T := z_in0 (zc_3 _ (List.mem_of_getElem? (i := 235) rfl)) rfl
theorem cv_X11_count : Cond.selects (yN m_X11_count).cls (yN m_X11_count) (yN m_X11_count) ∈ z_T := z_in0 (zc_3 _ (List.mem_of_getElem? (i := 236) rfl)) rfl
def m_X11_needBytes : zY := (zR11, ⟨zR11, "needBytes", "(I)V"⟩, prog_1_method_42_code, 2, none, [])
theorem ck_X11_needBytes : zCk m_X11_needBytes 1 := ⟨z_in0 (zc_4 _ (List.mem_of_getElem? (i := 9) rfl)) rfl, z_in0 (zc_1 _ (List.mem_of_getElem? (i := 1) rfl)) rfl, by decide +kernel, by decide +kernel, by decide +kernel, by decide +kernel⟩
theorem ci_X11_needBytes : Cond.instanceMethod (yN m_X11_needBytes) ∈ z_T := z_in0 (zc_4 _ (List.mem_of_getElem? (i := 8) rfl)) rfl
theorem cv_X11_needBytes : Cond.selects (yN m_X11_needBytes).cls (yN m_X11_needBytes) (yN m_X11_needBytes) ∈ z_T := z_in0 (zp_2 _ (List.mem_of_getElem? (i := 8) rfl)) rfl
def m_X11_needSign : zY := (zR11, ⟨zR11, "needSign", "(I)V"⟩, prog_1_method_43_code, 2, none, [])
theorem ck_X11_needSign : zCk m_X11_needSign 1 := ⟨z_in0 (zc_5 _ (List.mem_of_getElem? (i := 174) rfl)) rfl, z_in0 (zc_1 _ (List.mem_of_getElem? (i := 1) rfl)) rfl, by decide +kernel, by decide +kernel, by decide +kernel, by decide +kernel⟩
theorem ci_X11_needSign : Cond.instanceMethod (yN m_X11_needSign) ∈ z_T := z_in0 (zc_5 _ (List.mem_of_getElem? (i := 173) rfl)) rfl
theorem cv_X11_needSign : Cond.selects (yN m_X11_needSign).cls (yN m_X11_needSign) (yN m_X11_needSign) ∈ z_T := z_in0 (zp_4 _ (List.mem_of_getElem? (i := 2) rfl)) rfl
def m_X11_needCover : zY := (zR11, ⟨zR11, "needCover", "(I)V"⟩, prog_1_method_44_code, 2, none, [])
theorem ck_X11_needCover : zCk m_X11_needCover 1 := ⟨z_in0 (zc_5 _ (List.mem_of_getElem? (i := 234) rfl)) rfl, z_in0 (zc_1 _ (List.mem_of_getElem? (i := 1) rfl)) rfl, by decide +kernel, by decide +kernel, by decide +kernel, by decide +kernel⟩
theorem ci_X11_needCover : Cond.instanceMethod (yN m_X11_needCover) ∈ z_T := z_in0 (zc_5 _ (List.mem_of_getElem? (i := 233) rfl)) rfl
theorem cv_X11_needCover : Cond.selects (yN m_X11_needCover).cls (yN m_X11_needCover) (yN m_X11_needCover) ∈ z_T := z_in0 (zp_4 _ (List.mem_of_getElem? (i := 3) rfl)) rfl
def m_X11_needPart : zY := (zR11, ⟨zR11, "needPart", "(II)V"⟩, prog_1_method_45_code, 3, none, [])
theorem ck_X11_needPart : zCk m_X11_needPart 2 := ⟨z_in0 (zc_6 _ (List.mem_of_getElem? (i := 47) rfl)) rfl, z_in0 (zc_1 _ (List.mem_of_getElem? (i := 1) rfl)) rfl, by decide +kernel, by decide +kernel, by decide +kernel, by decide +kernel⟩
theorem ci_X11_needPart : Cond.instanceMethod (yN m_X11_needPart) ∈ z_T := z_in0 (zc_6 _ (List.mem_of_getElem? (i := 46) rfl)) rfl
theorem cv_X11_needPart : Cond.selects (yN m_X11_needPart).cls (yN m_X11_needPart) (yN m_X11_needPart) ∈ z_T := z_in0 (zp_4 _ (List.mem_of_getElem? (i := 5) rfl)) rfl
def m_X11_needStanding : zY := (zR11, ⟨zR11, "needStanding", "(I)V"⟩, prog_1_method_46_code, 2, none, [])
theorem ck_X11_needStanding : zCk m_X11_needStanding 1 := ⟨z_in0 (zc_6 _ (List.mem_of_getElem? (i := 230) rfl)) rfl, z_in0 (zc_1 _ (List.mem_of_getElem? (i := 1) rfl)) rfl, by decide +kernel, by decide +kernel, by decide +kernel, by decide +kernel⟩
theorem ci_X11_needStanding : Cond.instanceMethod (yN m_X11_needStanding) ∈ z_T := z_in0 (zc_6 _ (List.mem_of_getElem? (i := 229) rfl)) rfl
theorem cv_X11_needStanding : Cond.selects (yN m_X11_needStanding).cls (yN m_X11_needStanding) (yN m_X11_needStanding) ∈ z_T := z_in0 (zp_4 _ (List.mem_of_getElem? (i := 15) rfl)) rfl
def m_X11_needView : zY := (zR11, ⟨zR11, "needView", "(II)V"⟩, prog_1_method_47_code, 3, none, [])
theorem ck_X11_needView : zCk m_X11_needView 2 := ⟨z_in0 (zc_6 _ (List.mem_of_getElem? (i := 226) rfl)) rfl, z_in0 (zc_1 _ (List.mem_of_getElem? (i := 1) rfl)) rfl, by decide +kernel, by decide +kernel, by decide +kernel, by decide +kernel⟩
theorem ci_X11_needView : Cond.instanceMethod (yN m_X11_needView) ∈ z_T := z_in0 (zc_6 _ (List.mem_of_getElem? (i := 225) rfl)) rfl
theorem cv_X11_needView : Cond.selects (yN m_X11_needView).cls (yN m_X11_needView) (yN m_X11_needView) ∈ z_T := z_in0 (zp_4 _ (List.mem_of_getElem? (i := 14) rfl)) rfl
def m_X11_needWhat : zY := (zR11, ⟨zR11, "needWhat", "(II)V"⟩, prog_1_method_48_code, 3, none, [])
theorem ck_X11_needWhat : zCk m_X11_needWhat 2 := ⟨z_in0 (zc_6 _ (List.mem_of_getElem? (i := 24) rfl)) rfl, z_in0 (zc_1 _ (List.mem_of_getElem? (i := 1) rfl)) rfl, by decide +kernel, by decide +kernel, by decide +kernel, by decide +kernel⟩
theorem ci_X11_needWhat : Cond.instanceMethod (yN m_X11_needWhat) ∈ z_T := z_in0 (zc_6 _ (List.mem_of_getElem? (i := 23) rfl)) rfl
theorem cv_X11_needWhat : Cond.selects (yN m_X11_needWhat).cls (yN m_X11_needWhat) (yN m_X11_needWhat) ∈ z_T := z_in0 (zp_4 _ (List.mem_of_getElem? (i := 4) rfl)) rfl
def m_X11_renew : zY := (zR11, ⟨zR11, "renew", "()V"⟩, prog_1_method_49_code, 1, none, [])
theorem ck_X11_renew : zCk m_X11_renew 0 := ⟨z_in0 (zc_3 _ (List.mem_of_getElem? (i := 233) rfl)) rfl, z_in0 (zc_1 _ (List.mem_of_getElem? (i := 1) rfl)) rfl, by decide +kernel, by decide +kernel, by decide +kernel, by decide +kernel⟩
theorem ci_X11_renew : Cond.instanceMethod (yN m_X11_renew) ∈ z_T := z_in0 (zc_3 _ (List.mem_of_getElem? (i := 232) rfl)) rfl
theorem cv_X11_renew : Cond.selects (yN m_X11_renew).cls (yN m_X11_renew) (yN m_X11_renew) ∈ z_T := z_in0 (zp_2 _ (List.mem_of_getElem? (i := 7) rfl)) rfl
def m_X11_weave : zY := (zR11, ⟨zR11, "weave", "()V"⟩, prog_1_method_50_code, 1, none, [])
theorem ck_X11_weave : zCk m_X11_weave 0 := ⟨z_in0 (zc_2 _ (List.mem_of_getElem? (i := 180) rfl)) rfl, z_in0 (zc_1 _ (List.mem_of_getElem? (i := 1) rfl)) rfl, by decide +kernel, by decide +kernel, by decide +kernel, by decide +kernel⟩
theorem ci_X11_weave : Cond.instanceMethod (yN m_X11_weave) ∈ z_T := z_in0 (zc_2 _ (List.mem_of_getElem? (i := 179) rfl)) rfl
theorem cv_X11_weave : Cond.selects (yN m_X11_weave).cls (yN m_X11_weave) (yN m_X11_weave) ∈ z_T := z_in0 (zp_1 _ (List.mem_of_getElem? (i := 1) rfl)) rfl
def m_X11_keptAt : zY := (zR11, ⟨zR11, "keptAt", "(I)I"⟩, prog_1_method_51_code, 2, some .int, [])
theorem ck_X11_keptAt : zCk m_X11_keptAt 1 := ⟨z_in0 (zc_3 _ (List.mem_of_getElem? (i := 50) rfl)) rfl, z_in0 (zc_1 _ (List.mem_of_getElem? (i := 1) rfl)) rfl, by decide +kernel, by decide +kernel, by decide +kernel, by decide +kernel⟩
theorem ci_X11_keptAt : Cond.instanceMethod (yN m_X11_keptAt) ∈ z_T := z_in0 (zc_3 _ (List.mem_of_getElem? (i := 49) rfl)) rfl
theorem cv_X11_keptAt : Cond.selects (yN m_X11_keptAt).cls (yN m_X11_keptAt) (yN m_X11_keptAt) ∈ z_T := z_in0 (zp_1 _ (List.mem_of_getElem? (i := 5) rfl)) rfl
def m_X11_keep : zY := (zR11, ⟨zR11, "keep", "(II)V"⟩, prog_1_method_52_code, 3, none, [])
theorem ck_X11_keep : zCk m_X11_keep 2 := ⟨z_in0 (zc_3 _ (List.mem_of_getElem? (i := 70) rfl)) rfl, z_in0 (zc_1 _ (List.mem_of_getElem? (i := 1) rfl)) rfl, by decide +kernel, by decide +kernel, by decide +kernel, by decide +kernel⟩
theorem ci_X11_keep : Cond.instanceMethod (yN m_X11_keep) ∈ z_T := z_in0 (zc_3 _ (List.mem_of_getElem? (i := 69) rfl)) rfl
theorem cv_X11_keep : Cond.selects (yN m_X11_keep).cls (yN m_X11_keep) (yN m_X11_keep) ∈ z_T := z_in0 (zp_1 _ (List.mem_of_getElem? (i := 7) rfl)) rfl
def m_X11_imageAt : zY := (zR11, ⟨zR11, "imageAt", "(I)LCoveredSigns$Scene;"⟩, prog_1_method_53_code, 2, some (.object "CoveredSigns$Scene"), [])
theorem ck_X11_imageAt : zCk m_X11_imageAt 1 := ⟨z_in0 (zc_3 _ (List.mem_of_getElem? (i := 218) rfl)) rfl, z_in0 (zc_1 _ (List.mem_of_getElem? (i := 1) rfl)) rfl, by decide +kernel, by decide +kernel, by decide +kernel, by decide +kernel⟩
theorem ci_X11_imageAt : Cond.instanceMethod (yN m_X11_imageAt) ∈ z_T := z_in0 (zc_3 _ (List.mem_of_getElem? (i := 217) rfl)) rfl
theorem cv_X11_imageAt : Cond.selects (yN m_X11_imageAt).cls (yN m_X11_imageAt) (yN m_X11_imageAt) ∈ z_T := z_in0 (zp_2 _ (List.mem_of_getElem? (i := 6) rfl)) rfl
def m_X11_onlyOne : zY := (zR11, ⟨zR11, "onlyOne", "(I)I"⟩, prog_1_method_54_code, 1, some .int, [])
theorem ck_X11_onlyOne : zCk m_X11_onlyOne 1 := ⟨z_in0 (zc_6 _ (List.mem_of_getElem? (i := 58) rfl)) rfl, z_in0 (zc_1 _ (List.mem_of_getElem? (i := 1) rfl)) rfl, by decide +kernel, by decide +kernel, by decide +kernel, by decide +kernel⟩
theorem cs_X11_onlyOne : Cond.static (yN m_X11_onlyOne) ∈ z_T := z_in0 (zc_6 _ (List.mem_of_getElem? (i := 57) rfl)) rfl
def m_X11_lowestOf : zY := (zR11, ⟨zR11, "lowestOf", "(I)I"⟩, prog_1_method_55_code, 1, some .int, [])
theorem ck_X11_lowestOf : zCk m_X11_lowestOf 1 := ⟨z_in0 (zc_6 _ (List.mem_of_getElem? (i := 62) rfl)) rfl, z_in0 (zc_1 _ (List.mem_of_getElem? (i := 1) rfl)) rfl, by decide +kernel, by decide +kernel, by decide +kernel, by decide +kernel⟩
theorem cs_X11_lowestOf : Cond.static (yN m_X11_lowestOf) ∈ z_T := z_in0 (zc_6 _ (List.mem_of_getElem? (i := 61) rfl)) rfl
def m_X11_rowMayBe : zY := (zR11, ⟨zR11, "rowMayBe", "(I)Z"⟩, prog_1_method_56_code, 4, some .boolean, [])
theorem ck_X11_rowMayBe : zCk m_X11_rowMayBe 1 := ⟨z_in0 (zc_3 _ (List.mem_of_getElem? (i := 1) rfl)) rfl, z_in0 (zc_1 _ (List.mem_of_getElem? (i := 1) rfl)) rfl, by decide +kernel, by decide +kernel, by decide +kernel, by decide +kernel⟩
theorem ci_X11_rowMayBe : Cond.instanceMethod (yN m_X11_rowMayBe) ∈ z_T := z_in0 (zc_3 _ (List.mem_of_getElem? (i := 0) rfl)) rfl
theorem cv_X11_rowMayBe : Cond.selects (yN m_X11_rowMayBe).cls (yN m_X11_rowMayBe) (yN m_X11_rowMayBe) ∈ z_T := z_in0 (zp_1 _ (List.mem_of_getElem? (i := 4) rfl)) rfl
def m_X11_guessBits : zY := (zR11, ⟨zR11, "guessBits", "(IIZ)I"⟩, prog_1_method_57_code, 6, some .int, [])
theorem ck_X11_guessBits : zCk m_X11_guessBits 3 := ⟨z_in0 (zc_3 _ (List.mem_of_getElem? (i := 156) rfl)) rfl, z_in0 (zc_1 _ (List.mem_of_getElem? (i := 1) rfl)) rfl, by decide +kernel, by decide +kernel, by decide +kernel, by decide +kernel⟩
theorem ci_X11_guessBits : Cond.instanceMethod (yN m_X11_guessBits) ∈ z_T := z_in0 (zc_3 _ (List.mem_of_getElem? (i := 155) rfl)) rfl
theorem cv_X11_guessBits : Cond.selects (yN m_X11_guessBits).cls (yN m_X11_guessBits) (yN m_X11_guessBits) ∈ z_T := z_in0 (zp_1 _ (List.mem_of_getElem? (i := 15) rfl)) rfl
def m_X11_isKnown : zY := (zR11, ⟨zR11, "isKnown", "(IIZ)Z"⟩, prog_1_method_58_code, 4, some .boolean, [])
theorem ck_X11_isKnown : zCk m_X11_isKnown 3 := ⟨z_in0 (zc_3 _ (List.mem_of_getElem? (i := 152) rfl)) rfl, z_in0 (zc_1 _ (List.mem_of_getElem? (i := 1) rfl)) rfl, by decide +kernel, by decide +kernel, by decide +kernel, by decide +kernel⟩
theorem ci_X11_isKnown : Cond.instanceMethod (yN m_X11_isKnown) ∈ z_T := z_in0 (zc_3 _ (List.mem_of_getElem? (i := 151) rfl)) rfl
theorem cv_X11_isKnown : Cond.selects (yN m_X11_isKnown).cls (yN m_X11_isKnown) (yN m_X11_isKnown) ∈ z_T := z_in0 (zp_1 _ (List.mem_of_getElem? (i := 14) rfl)) rfl
def m_X11_standingIsTold : zY := (zR11, ⟨zR11, "standingIsTold", "()Z"⟩, prog_1_method_59_code, 2, some .boolean, [])
theorem ck_X11_standingIsTold : zCk m_X11_standingIsTold 0 := ⟨z_in0 (zc_3 _ (List.mem_of_getElem? (i := 198) rfl)) rfl, z_in0 (zc_1 _ (List.mem_of_getElem? (i := 1) rfl)) rfl, by decide +kernel, by decide +kernel, by decide +kernel, by decide +kernel⟩
theorem ci_X11_standingIsTold : Cond.instanceMethod (yN m_X11_standingIsTold) ∈ z_T := z_in0 (zc_3 _ (List.mem_of_getElem? (i := 197) rfl)) rfl
theorem cv_X11_standingIsTold : Cond.selects (yN m_X11_standingIsTold).cls (yN m_X11_standingIsTold) (yN m_X11_standingIsTold) ∈ z_T := z_in0 (zp_2 _ (List.mem_of_getElem? (i := 2) rfl)) rfl
def m_X11_standingSpells : zY := (zR11, ⟨zR11, "standingSpells", "(I)Z"⟩, prog_1_method_60_code, 3, some .boolean, [])
theorem ck_X11_standingSpells : zCk m_X11_standingSpells 1 := ⟨z_in0 (zc_3 _ (List.mem_of_getElem? (i := 202) rfl)) rfl, z_in0 (zc_1 _ (List.mem_of_getElem? (i := 1) rfl)) rfl, by decide +kernel, by decide +kernel, by decide +kernel, by decide +kernel⟩
theorem ci_X11_standingSpells : Cond.instanceMethod (yN m_X11_standingSpells) ∈ z_T := z_in0 (zc_3 _ (List.mem_of_getElem? (i := 201) rfl)) rfl
theorem cv_X11_standingSpells : Cond.selects (yN m_X11_standingSpells).cls (yN m_X11_standingSpells) (yN m_X11_standingSpells) ∈ z_T := z_in0 (zp_2 _ (List.mem_of_getElem? (i := 3) rfl)) rfl
def m_X11_wordIsKnown : zY := (zR11, ⟨zR11, "wordIsKnown", "(IZ)Z"⟩, prog_1_method_61_code, 4, some .boolean, [])
theorem ck_X11_wordIsKnown : zCk m_X11_wordIsKnown 2 := ⟨z_in0 (zc_3 _ (List.mem_of_getElem? (i := 206) rfl)) rfl, z_in0 (zc_1 _ (List.mem_of_getElem? (i := 1) rfl)) rfl, by decide +kernel, by decide +kernel, by decide +kernel, by decide +kernel⟩
theorem ci_X11_wordIsKnown : Cond.instanceMethod (yN m_X11_wordIsKnown) ∈ z_T := z_in0 (zc_3 _ (List.mem_of_getElem? (i := 205) rfl)) rfl
theorem cv_X11_wordIsKnown : Cond.selects (yN m_X11_wordIsKnown).cls (yN m_X11_wordIsKnown) (yN m_X11_wordIsKnown) ∈ z_T := z_in0 (zp_2 _ (List.mem_of_getElem? (i := 4) rfl)) rfl
def m_X11_standingMayBe : zY := (zR11, ⟨zR11, "standingMayBe", "(IIZ)Z"⟩, prog_1_method_62_code, 5, some .boolean, [])
theorem ck_X11_standingMayBe : zCk m_X11_standingMayBe 3 := ⟨z_in0 (zc_3 _ (List.mem_of_getElem? (i := 210) rfl)) rfl, z_in0 (zc_1 _ (List.mem_of_getElem? (i := 1) rfl)) rfl, by decide +kernel, by decide +kernel, by decide +kernel, by decide +kernel⟩
theorem ci_X11_standingMayBe : Cond.instanceMethod (yN m_X11_standingMayBe) ∈ z_T := z_in0 (zc_3 _ (List.mem_of_getElem? (i := 209) rfl)) rfl
theorem cv_X11_standingMayBe : Cond.selects (yN m_X11_standingMayBe).cls (yN m_X11_standingMayBe) (yN m_X11_standingMayBe) ∈ z_T := z_in0 (zp_2 _ (List.mem_of_getElem? (i := 5) rfl)) rfl
def m_X12_init : zY := (zR12, ⟨zR12, "<init>", "()V"⟩, prog_14_method_1_code, 1, none, [])
theorem ck_X12_init : zCk m_X12_init 0 := ⟨z_in0 (zc_7 _ (List.mem_of_getElem? (i := 11) rfl)) rfl, z_in0 (zc_1 _ (List.mem_of_getElem? (i := 14) rfl)) rfl, by decide +kernel, by decide +kernel, by decide +kernel, by decide +kernel⟩
theorem ci_X12_init : Cond.instanceMethod (yN m_X12_init) ∈ z_T := z_in0 (zc_7 _ (List.mem_of_getElem? (i := 10) rfl)) rfl
def m_X12_thrown : zY := (zR12, ⟨zR12, "thrown", "()I"⟩, prog_14_method_2_code, 1, some .int, [])
theorem ck_X12_thrown : zCk m_X12_thrown 0 := ⟨z_in0 (zc_7 _ (List.mem_of_getElem? (i := 193) rfl)) rfl, z_in0 (zc_1 _ (List.mem_of_getElem? (i := 14) rfl)) rfl, by decide +kernel, by decide +kernel, by decide +kernel, by decide +kernel⟩
theorem ci_X12_thrown : Cond.instanceMethod (yN m_X12_thrown) ∈ z_T := z_in0 (zc_7 _ (List.mem_of_getElem? (i := 191) rfl)) rfl
theorem cv_X12_thrown : Cond.selects (yN m_X12_thrown).cls (yN m_X12_thrown) (yN m_X12_thrown) ∈ z_T := z_in0 (zc_7 _ (List.mem_of_getElem? (i := 192) rfl)) rfl
def m_X12_bad : zY := (zR12, ⟨zR12, "bad", "(ZI)Z"⟩, prog_14_method_3_code, 3, some .boolean, [])
theorem ck_X12_bad : zCk m_X12_bad 2 := ⟨z_in0 (zc_7 _ (List.mem_of_getElem? (i := 208) rfl)) rfl, z_in0 (zc_1 _ (List.mem_of_getElem? (i := 14) rfl)) rfl, by decide +kernel, by decide +kernel, by decide +kernel, by decide +kernel⟩
theorem ci_X12_bad : Cond.instanceMethod (yN m_X12_bad) ∈ z_T := z_in0 (zc_7 _ (List.mem_of_getElem? (i := 207) rfl)) rfl
theorem cv_X12_bad : Cond.selects (yN m_X12_bad).cls (yN m_X12_bad) (yN m_X12_bad) ∈ z_T := z_in0 (zp_5 _ (List.mem_of_getElem? (i := 0) rfl)) rfl
def m_X12_in : zY := (zR12, ⟨zR12, "in", "(III)Z"⟩, prog_14_method_4_code, 3, some .boolean, [])
theorem ck_X12_in : zCk m_X12_in 3 := ⟨z_in0 (zc_7 _ (List.mem_of_getElem? (i := 204) rfl)) rfl, z_in0 (zc_1 _ (List.mem_of_getElem? (i := 14) rfl)) rfl, by decide +kernel, by decide +kernel, by decide +kernel, by decide +kernel⟩
theorem cs_X12_in : Cond.static (yN m_X12_in) ∈ z_T := z_in0 (zc_7 _ (List.mem_of_getElem? (i := 203) rfl)) rfl
def m_X12_feed : zY := (zR12, ⟨zR12, "feed", "(IIIII)I"⟩, prog_14_method_5_code, 8, some .int, [])
theorem ck_X12_feed : zCk m_X12_feed 5 := ⟨z_in0 (zc_7 _ (List.mem_of_getElem? (i := 197) rfl)) rfl, z_in0 (zc_1 _ (List.mem_of_getElem? (i := 14) rfl)) rfl, by decide +kernel, by decide +kernel, by decide +kernel, by decide +kernel⟩
theorem ci_X12_feed : Cond.instanceMethod (yN m_X12_feed) ∈ z_T := z_in0 (zc_7 _ (List.mem_of_getElem? (i := 195) rfl)) rfl
theorem cv_X12_feed : Cond.selects (yN m_X12_feed).cls (yN m_X12_feed) (yN m_X12_feed) ∈ z_T := z_in0 (zc_7 _ (List.mem_of_getElem? (i := 196) rfl)) rfl
def m_X12_byteAt : zY := (zR12, ⟨zR12, "byteAt", "(I)I"⟩, prog_14_method_6_code, 2, some .int, [])
theorem ck_X12_byteAt : zCk m_X12_byteAt 1 := ⟨z_in0 (zc_7 _ (List.mem_of_getElem? (i := 220) rfl)) rfl, z_in0 (zc_1 _ (List.mem_of_getElem? (i := 14) rfl)) rfl, by decide +kernel, by decide +kernel, by decide +kernel, by decide +kernel⟩
theorem ci_X12_byteAt : Cond.instanceMethod (yN m_X12_byteAt) ∈ z_T := z_in0 (zc_7 _ (List.mem_of_getElem? (i := 219) rfl)) rfl
theorem cv_X12_byteAt : Cond.selects (yN m_X12_byteAt).cls (yN m_X12_byteAt) (yN m_X12_byteAt) ∈ z_T := z_in0 (zp_5 _ (List.mem_of_getElem? (i := 3) rfl)) rfl
def m_X12_blanks : zY := (zR12, ⟨zR12, "blanks", "()V"⟩, prog_14_method_7_code, 1, none, [])
theorem ck_X12_blanks : zCk m_X12_blanks 0 := ⟨z_in0 (zc_7 _ (List.mem_of_getElem? (i := 216) rfl)) rfl, z_in0 (zc_1 _ (List.mem_of_getElem? (i := 14) rfl)) rfl, by decide +kernel, by decide +kernel, by decide +kernel, by decide +kernel⟩
theorem ci_X12_blanks : Cond.instanceMethod (yN m_X12_blanks) ∈ z_T := z_in0 (zc_7 _ (List.mem_of_getElem? (i := 215) rfl)) rfl
theorem cv_X12_blanks : Cond.selects (yN m_X12_blanks).cls (yN m_X12_blanks) (yN m_X12_blanks) ∈ z_T := z_in0 (zp_5 _ (List.mem_of_getElem? (i := 2) rfl)) rfl
def m_X12_wrong : zY := (zR12, ⟨zR12, "wrong", "(II)V"⟩, prog_14_method_8_code, 3, none, [])
theorem ck_X12_wrong : zCk m_X12_wrong 2 := ⟨z_in0 (zc_8 _ (List.mem_of_getElem? (i := 6) rfl)) rfl, z_in0 (zc_1 _ (List.mem_of_getElem? (i := 14) rfl)) rfl, by decide +kernel, by decide +kernel, by decide +kernel, by decide +kernel⟩
theorem ci_X12_wrong : Cond.instanceMethod (yN m_X12_wrong) ∈ z_T := z_in0 (zc_8 _ (List.mem_of_getElem? (i := 5) rfl)) rfl
theorem cv_X12_wrong : Cond.selects (yN m_X12_wrong).cls (yN m_X12_wrong) (yN m_X12_wrong) ∈ z_T := z_in0 (zp_5 _ (List.mem_of_getElem? (i := 8) rfl)) rfl
def m_X12_isDigit : zY := (zR12, ⟨zR12, "isDigit", "(I)Z"⟩, prog_14_method_9_code, 1, some .boolean, [])
theorem ck_X12_isDigit : zCk m_X12_isDigit 1 := ⟨z_in0 (zc_8 _ (List.mem_of_getElem? (i := 17) rfl)) rfl, z_in0 (zc_1 _ (List.mem_of_getElem? (i := 14) rfl)) rfl, by decide +kernel, by decide +kernel, by decide +kernel, by decide +kernel⟩
theorem cs_X12_isDigit : Cond.static (yN m_X12_isDigit) ∈ z_T := z_in0 (zc_8 _ (List.mem_of_getElem? (i := 16) rfl)) rfl
def m_X12_isSmall : zY := (zR12, ⟨zR12, "isSmall", "(I)Z"⟩, prog_14_method_10_code, 1, some .boolean, [])
theorem ck_X12_isSmall : zCk m_X12_isSmall 1 := ⟨z_in0 (zc_7 _ (List.mem_of_getElem? (i := 239) rfl)) rfl, z_in0 (zc_1 _ (List.mem_of_getElem? (i := 14) rfl)) rfl, by decide +kernel, by decide +kernel, by decide +kernel, by decide +kernel⟩
theorem cs_X12_isSmall : Cond.static (yN m_X12_isSmall) ∈ z_T := z_in0 (zc_7 _ (List.mem_of_getElem? (i := 238) rfl)) rfl
def m_X12_number : zY := (zR12, ⟨zR12, "number", "(II)I"⟩, prog_14_method_11_code, 5, some .int, [])
theorem ck_X12_number : zCk m_X12_number 2 := ⟨z_in0 (zc_8 _ (List.mem_of_getElem? (i := 14) rfl)) rfl, z_in0 (zc_1 _ (List.mem_of_getElem? (i := 14) rfl)) rfl, by decide +kernel, by decide +kernel, by decide +kernel, by decide +kernel⟩
theorem ci_X12_number : Cond.instanceMethod (yN m_X12_number) ∈ z_T := z_in0 (zc_8 _ (List.mem_of_getElem? (i := 13) rfl)) rfl
theorem cv_X12_number : Cond.selects (yN m_X12_number).cls (yN m_X12_number) (yN m_X12_number) ∈ z_T := z_in0 (zp_5 _ (List.mem_of_getElem? (i := 10) rfl)) rfl
def m_X12_wordHere : zY := (zR12, ⟨zR12, "wordHere", "()I"⟩, prog_14_method_12_code, 3, some .int, [])
theorem ck_X12_wordHere : zCk m_X12_wordHere 0 := ⟨z_in0 (zc_7 _ (List.mem_of_getElem? (i := 236) rfl)) rfl, z_in0 (zc_1 _ (List.mem_of_getElem? (i := 14) rfl)) rfl, by decide +kernel, by decide +kernel, by decide +kernel, by decide +kernel⟩
theorem ci_X12_wordHere : Cond.instanceMethod (yN m_X12_wordHere) ∈ z_T := z_in0 (zc_7 _ (List.mem_of_getElem? (i := 235) rfl)) rfl
theorem cv_X12_wordHere : Cond.selects (yN m_X12_wordHere).cls (yN m_X12_wordHere) (yN m_X12_wordHere) ∈ z_T := z_in0 (zp_5 _ (List.mem_of_getElem? (i := 7) rfl)) rfl
def m_X12_six : zY := (zR12, ⟨zR12, "six", "(IIIIII)I"⟩, prog_14_method_13_code, 7, some .int, [])
theorem ck_X12_six : zCk m_X12_six 6 := ⟨z_in0 (zc_8 _ (List.mem_of_getElem? (i := 2) rfl)) rfl, z_in0 (zc_1 _ (List.mem_of_getElem? (i := 14) rfl)) rfl, by decide +kernel, by decide +kernel, by decide +kernel, by decide +kernel⟩
theorem cs_X12_six : Cond.static (yN m_X12_six) ∈ z_T := z_in0 (zc_8 _ (List.mem_of_getElem? (i := 1) rfl)) rfl
def m_X12_isWord : zY := (zR12, ⟨zR12, "isWord", "(IIIIII)Z"⟩, prog_14_method_14_code, 7, some .boolean, [])
theorem ck_X12_isWord : zCk m_X12_isWord 6 := ⟨z_in0 (zc_7 _ (List.mem_of_getElem? (i := 232) rfl)) rfl, z_in0 (zc_1 _ (List.mem_of_getElem? (i := 14) rfl)) rfl, by decide +kernel, by decide +kernel, by decide +kernel, by decide +kernel⟩
theorem ci_X12_isWord : Cond.instanceMethod (yN m_X12_isWord) ∈ z_T := z_in0 (zc_7 _ (List.mem_of_getElem? (i := 231) rfl)) rfl
theorem cv_X12_isWord : Cond.selects (yN m_X12_isWord).cls (yN m_X12_isWord) (yN m_X12_isWord) ∈ z_T := z_in0 (zp_5 _ (List.mem_of_getElem? (i := 6) rfl)) rfl
def m_X12_skipWord : zY := (zR12, ⟨zR12, "skipWord", "()V"⟩, prog_14_method_15_code, 1, none, [])
theorem ck_X12_skipWord : zCk m_X12_skipWord 0 := ⟨z_in0 (zc_8 _ (List.mem_of_getElem? (i := 10) rfl)) rfl, z_in0 (zc_1 _ (List.mem_of_getElem? (i := 14) rfl)) rfl, by decide +kernel, by decide +kernel, by decide +kernel, by decide +kernel⟩
theorem ci_X12_skipWord : Cond.instanceMethod (yN m_X12_skipWord) ∈ z_T := z_in0 (zc_8 _ (List.mem_of_getElem? (i := 9) rfl)) rfl
theorem cv_X12_skipWord : Cond.selects (yN m_X12_skipWord).cls (yN m_X12_skipWord) (yN m_X12_skipWord) ∈ z_T := z_in0 (zp_5 _ (List.mem_of_getElem? (i := 9) rfl)) rfl
def m_X12_eats : zY := (zR12, ⟨zR12, "eats", "(III)Z"⟩, prog_14_method_16_code, 4, some .boolean, [])
theorem ck_X12_eats : zCk m_X12_eats 3 := ⟨z_in0 (zc_8 _ (List.mem_of_getElem? (i := 90) rfl)) rfl, z_in0 (zc_1 _ (List.mem_of_getElem? (i := 14) rfl)) rfl, by decide +kernel, by decide +kernel, by decide +kernel, by decide +kernel⟩
theorem ci_X12_eats : Cond.instanceMethod (yN m_X12_eats) ∈ z_T := z_in0 (zc_8 _ (List.mem_of_getElem? (i := 89) rfl)) rfl
theorem cv_X12_eats : Cond.selects (yN m_X12_eats).cls (yN m_X12_eats) (yN m_X12_eats) ∈ z_T := z_in0 (zp_6 _ (List.mem_of_getElem? (i := 11) rfl)) rfl
def m_X12_closes : zY := (zR12, ⟨zR12, "closes", "(I)V"⟩, prog_14_method_17_code, 2, none, [])
theorem ck_X12_closes : zCk m_X12_closes 1 := ⟨z_in0 (zc_8 _ (List.mem_of_getElem? (i := 34) rfl)) rfl, z_in0 (zc_1 _ (List.mem_of_getElem? (i := 14) rfl)) rfl, by decide +kernel, by decide +kernel, by decide +kernel, by decide +kernel⟩
theorem ci_X12_closes : Cond.instanceMethod (yN m_X12_closes) ∈ z_T := z_in0 (zc_8 _ (List.mem_of_getElem? (i := 33) rfl)) rfl
theorem cv_X12_closes : Cond.selects (yN m_X12_closes).cls (yN m_X12_closes) (yN m_X12_closes) ∈ z_T := z_in0 (zp_5 _ (List.mem_of_getElem? (i := 14) rfl)) rfl
def m_X12_starts : zY := (zR12, ⟨zR12, "starts", "(I)V"⟩, prog_14_method_18_code, 2, none, [])
theorem ck_X12_starts : zCk m_X12_starts 1 := ⟨z_in0 (zc_7 _ (List.mem_of_getElem? (i := 212) rfl)) rfl, z_in0 (zc_1 _ (List.mem_of_getElem? (i := 14) rfl)) rfl, by decide +kernel, by decide +kernel, by decide +kernel, by decide +kernel⟩
theorem ci_X12_starts : Cond.instanceMethod (yN m_X12_starts) ∈ z_T := z_in0 (zc_7 _ (List.mem_of_getElem? (i := 211) rfl)) rfl
theorem cv_X12_starts : Cond.selects (yN m_X12_starts).cls (yN m_X12_starts) (yN m_X12_starts) ∈ z_T := z_in0 (zp_5 _ (List.mem_of_getElem? (i := 1) rfl)) rfl
def m_X12_kindHere : zY := (zR12, ⟨zR12, "kindHere", "()I"⟩, prog_14_method_19_code, 1, some .int, [])
theorem ck_X12_kindHere : zCk m_X12_kindHere 0 := ⟨z_in0 (zc_7 _ (List.mem_of_getElem? (i := 228) rfl)) rfl, z_in0 (zc_1 _ (List.mem_of_getElem? (i := 14) rfl)) rfl, by decide +kernel, by decide +kernel, by decide +kernel, by decide +kernel⟩
theorem ci_X12_kindHere : Cond.instanceMethod (yN m_X12_kindHere) ∈ z_T := z_in0 (zc_7 _ (List.mem_of_getElem? (i := 227) rfl)) rfl
theorem cv_X12_kindHere : Cond.selects (yN m_X12_kindHere).cls (yN m_X12_kindHere) (yN m_X12_kindHere) ∈ z_T := z_in0 (zp_5 _ (List.mem_of_getElem? (i := 5) rfl)) rfl
def m_X12_clause : zY := (zR12, ⟨zR12, "clause", "()V"⟩, prog_14_method_20_code, 5, none, [])
theorem ck_X12_clause : zCk m_X12_clause 0 := ⟨z_in0 (zc_7 _ (List.mem_of_getElem? (i := 224) rfl)) rfl, z_in0 (zc_1 _ (List.mem_of_getElem? (i := 14) rfl)) rfl, by decide +kernel, by decide +kernel, by decide +kernel, by decide +kernel⟩
theorem ci_X12_clause : Cond.instanceMethod (yN m_X12_clause) ∈ z_T := z_in0 (zc_7 _ (List.mem_of_getElem? (i := 223) rfl)) rfl
theorem cv_X12_clause : Cond.selects (yN m_X12_clause).cls (yN m_X12_clause) (yN m_X12_clause) ∈ z_T := z_in0 (zp_5 _ (List.mem_of_getElem? (i := 4) rfl)) rfl
def m_X12_readsSign : zY := (zR12, ⟨zR12, "readsSign", "(I)V"⟩, prog_14_method_21_code, 7, none, [])
theorem ck_X12_readsSign : zCk m_X12_readsSign 1 := ⟨z_in0 (zc_8 _ (List.mem_of_getElem? (i := 22) rfl)) rfl, z_in0 (zc_1 _ (List.mem_of_getElem? (i := 14) rfl)) rfl, by decide +kernel, by decide +kernel, by decide +kernel, by decide +kernel⟩
theorem ci_X12_readsSign : Cond.instanceMethod (yN m_X12_readsSign) ∈ z_T := z_in0 (zc_8 _ (List.mem_of_getElem? (i := 21) rfl)) rfl
theorem cv_X12_readsSign : Cond.selects (yN m_X12_readsSign).cls (yN m_X12_readsSign) (yN m_X12_readsSign) ∈ z_T := z_in0 (zp_5 _ (List.mem_of_getElem? (i := 11) rfl)) rfl
def m_X12_readsStroke : zY := (zR12, ⟨zR12, "readsStroke", "(I)V"⟩, prog_14_method_22_code, 7, none, [])
theorem ck_X12_readsStroke : zCk m_X12_readsStroke 1 := ⟨z_in0 (zc_8 _ (List.mem_of_getElem? (i := 26) rfl)) rfl, z_in0 (zc_1 _ (List.mem_of_getElem? (i := 14) rfl)) rfl, by decide +kernel, by decide +kernel, by decide +kernel, by decide +kernel⟩
theorem ci_X12_readsStroke : Cond.instanceMethod (yN m_X12_readsStroke) ∈ z_T := z_in0 (zc_8 _ (List.mem_of_getElem? (i := 25) rfl)) rfl
theorem cv_X12_readsStroke : Cond.selects (yN m_X12_readsStroke).cls (yN m_X12_readsStroke) (yN m_X12_readsStroke) ∈ z_T := z_in0 (zp_5 _ (List.mem_of_getElem? (i := 12) rfl)) rfl
def m_X12_readsWord : zY := (zR12, ⟨zR12, "readsWord", "()V"⟩, prog_14_method_23_code, 5, none, [])
theorem ck_X12_readsWord : zCk m_X12_readsWord 0 := ⟨z_in0 (zc_8 _ (List.mem_of_getElem? (i := 30) rfl)) rfl, z_in0 (zc_1 _ (List.mem_of_getElem? (i := 14) rfl)) rfl, by decide +kernel, by decide +kernel, by decide +kernel, by decide +kernel⟩
theorem ci_X12_readsWord : Cond.instanceMethod (yN m_X12_readsWord) ∈ z_T := z_in0 (zc_8 _ (List.mem_of_getElem? (i := 29) rfl)) rfl
theorem cv_X12_readsWord : Cond.selects (yN m_X12_readsWord).cls (yN m_X12_readsWord) (yN m_X12_readsWord) ∈ z_T := z_in0 (zp_5 _ (List.mem_of_getElem? (i := 13) rfl)) rfl
def m_X12_alphabet : zY := (zR12, ⟨zR12, "alphabet", "(I)I"⟩, prog_14_method_24_code, 4, some .int, [])
theorem ck_X12_alphabet : zCk m_X12_alphabet 1 := ⟨z_in0 (zc_7 _ (List.mem_of_getElem? (i := 201) rfl)) rfl, z_in0 (zc_1 _ (List.mem_of_getElem? (i := 14) rfl)) rfl, by decide +kernel, by decide +kernel, by decide +kernel, by decide +kernel⟩
theorem ci_X12_alphabet : Cond.instanceMethod (yN m_X12_alphabet) ∈ z_T := z_in0 (zc_7 _ (List.mem_of_getElem? (i := 199) rfl)) rfl
theorem cv_X12_alphabet : Cond.selects (yN m_X12_alphabet).cls (yN m_X12_alphabet) (yN m_X12_alphabet) ∈ z_T := z_in0 (zc_7 _ (List.mem_of_getElem? (i := 200) rfl)) rfl
def m_X12_cells : zY := (zR12, ⟨zR12, "cells", "()I"⟩, prog_14_method_25_code, 1, some .int, [])
theorem ck_X12_cells : zCk m_X12_cells 0 := ⟨z_in0 (zc_8 _ (List.mem_of_getElem? (i := 62) rfl)) rfl, z_in0 (zc_1 _ (List.mem_of_getElem? (i := 14) rfl)) rfl, by decide +kernel, by decide +kernel, by decide +kernel, by decide +kernel⟩
theorem ci_X12_cells : Cond.instanceMethod (yN m_X12_cells) ∈ z_T := z_in0 (zc_8 _ (List.mem_of_getElem? (i := 61) rfl)) rfl
theorem cv_X12_cells : Cond.selects (yN m_X12_cells).cls (yN m_X12_cells) (yN m_X12_cells) ∈ z_T := z_in0 (zp_6 _ (List.mem_of_getElem? (i := 4) rfl)) rfl
def m_X12_allCells : zY := (zR12, ⟨zR12, "allCells", "()I"⟩, prog_14_method_26_code, 1, some .int, [])
theorem ck_X12_allCells : zCk m_X12_allCells 0 := ⟨z_in0 (zc_8 _ (List.mem_of_getElem? (i := 58) rfl)) rfl, z_in0 (zc_1 _ (List.mem_of_getElem? (i := 14) rfl)) rfl, by decide +kernel, by decide +kernel, by decide +kernel, by decide +kernel⟩
theorem ci_X12_allCells : Cond.instanceMethod (yN m_X12_allCells) ∈ z_T := z_in0 (zc_8 _ (List.mem_of_getElem? (i := 57) rfl)) rfl
theorem cv_X12_allCells : Cond.selects (yN m_X12_allCells).cls (yN m_X12_allCells) (yN m_X12_allCells) ∈ z_T := z_in0 (zp_6 _ (List.mem_of_getElem? (i := 3) rfl)) rfl
def m_X12_clearMade : zY := (zR12, ⟨zR12, "clearMade", "()V"⟩, prog_14_method_27_code, 1, none, [])
theorem ck_X12_clearMade : zCk m_X12_clearMade 0 := ⟨z_in0 (zc_8 _ (List.mem_of_getElem? (i := 66) rfl)) rfl, z_in0 (zc_1 _ (List.mem_of_getElem? (i := 14) rfl)) rfl, by decide +kernel, by decide +kernel, by decide +kernel, by decide +kernel⟩
theorem ci_X12_clearMade : Cond.instanceMethod (yN m_X12_clearMade) ∈ z_T := z_in0 (zc_8 _ (List.mem_of_getElem? (i := 65) rfl)) rfl
theorem cv_X12_clearMade : Cond.selects (yN m_X12_clearMade).cls (yN m_X12_clearMade) (yN m_X12_clearMade) ∈ z_T := z_in0 (zp_6 _ (List.mem_of_getElem? (i := 5) rfl)) rfl
def m_X12_makes : zY := (zR12, ⟨zR12, "makes", "(I)V"⟩, prog_14_method_28_code, 3, none, [])
theorem ck_X12_makes : zCk m_X12_makes 1 := ⟨z_in0 (zc_8 _ (List.mem_of_getElem? (i := 78) rfl)) rfl, z_in0 (zc_1 _ (List.mem_of_getElem? (i := 14) rfl)) rfl, by decide +kernel, by decide +kernel, by decide +kernel, by decide +kernel⟩
theorem ci_X12_makes : Cond.instanceMethod (yN m_X12_makes) ∈ z_T := z_in0 (zc_8 _ (List.mem_of_getElem? (i := 77) rfl)) rfl
theorem cv_X12_makes : Cond.selects (yN m_X12_makes).cls (yN m_X12_makes) (yN m_X12_makes) ∈ z_T := z_in0 (zp_6 _ (List.mem_of_getElem? (i := 8) rfl)) rfl
def m_X12_lays : zY := (zR12, ⟨zR12, "lays", "()V"⟩, prog_14_method_29_code, 2, none, [])
theorem ck_X12_lays : zCk m_X12_lays 0 := ⟨z_in0 (zc_8 _ (List.mem_of_getElem? (i := 86) rfl)) rfl, z_in0 (zc_1 _ (List.mem_of_getElem? (i := 14) rfl)) rfl, by decide +kernel, by decide +kernel, by decide +kernel, by decide +kernel⟩
theorem ci_X12_lays : Cond.instanceMethod (yN m_X12_lays) ∈ z_T := z_in0 (zc_8 _ (List.mem_of_getElem? (i := 85) rfl)) rfl
theorem cv_X12_lays : Cond.selects (yN m_X12_lays).cls (yN m_X12_lays) (yN m_X12_lays) ∈ z_T := z_in0 (zp_6 _ (List.mem_of_getElem? (i := 10) rfl)) rfl
def m_X12_ors : zY := (zR12, ⟨zR12, "ors", "()V"⟩, prog_14_method_30_code, 3, none, [])
theorem ck_X12_ors : zCk m_X12_ors 0 := ⟨z_in0 (zc_8 _ (List.mem_of_getElem? (i := 42) rfl)) rfl, z_in0 (zc_1 _ (List.mem_of_getElem? (i := 14) rfl)) rfl, by decide +kernel, by decide +kernel, by decide +kernel, by decide +kernel⟩
theorem ci_X12_ors : Cond.instanceMethod (yN m_X12_ors) ∈ z_T := z_in0 (zc_8 _ (List.mem_of_getElem? (i := 41) rfl)) rfl
theorem cv_X12_ors : Cond.selects (yN m_X12_ors).cls (yN m_X12_ors) (yN m_X12_ors) ∈ z_T := z_in0 (zp_5 _ (List.mem_of_getElem? (i := 15) rfl)) rfl
def m_X12_ands : zY := (zR12, ⟨zR12, "ands", "()V"⟩, prog_14_method_31_code, 3, none, [])
theorem ck_X12_ands : zCk m_X12_ands 0 := ⟨z_in0 (zc_8 _ (List.mem_of_getElem? (i := 46) rfl)) rfl, z_in0 (zc_1 _ (List.mem_of_getElem? (i := 14) rfl)) rfl, by decide +kernel, by decide +kernel, by decide +kernel, by decide +kernel⟩
theorem ci_X12_ands : Cond.instanceMethod (yN m_X12_ands) ∈ z_T := z_in0 (zc_8 _ (List.mem_of_getElem? (i := 45) rfl)) rfl
theorem cv_X12_ands : Cond.selects (yN m_X12_ands).cls (yN m_X12_ands) (yN m_X12_ands) ∈ z_T := z_in0 (zp_6 _ (List.mem_of_getElem? (i := 0) rfl)) rfl
def m_X12_opens : zY := (zR12, ⟨zR12, "opens", "(I)V"⟩, prog_14_method_32_code, 2, none, [])
theorem ck_X12_opens : zCk m_X12_opens 1 := ⟨z_in0 (zc_8 _ (List.mem_of_getElem? (i := 54) rfl)) rfl, z_in0 (zc_1 _ (List.mem_of_getElem? (i := 14) rfl)) rfl, by decide +kernel, by decide +kernel, by decide +kernel, by decide +kernel⟩
theorem ci_X12_opens : Cond.instanceMethod (yN m_X12_opens) ∈ z_T := z_in0 (zc_8 _ (List.mem_of_getElem? (i := 53) rfl)) rfl
theorem cv_X12_opens : Cond.selects (yN m_X12_opens).cls (yN m_X12_opens) (yN m_X12_opens) ∈ z_T := z_in0 (zp_6 _ (List.mem_of_getElem? (i := 2) rfl)) rfl
def m_X12_asked : zY := (zR12, ⟨zR12, "asked", "()V"⟩, prog_14_method_33_code, 2, none, [])
theorem ck_X12_asked : zCk m_X12_asked 0 := ⟨z_in0 (zc_8 _ (List.mem_of_getElem? (i := 50) rfl)) rfl, z_in0 (zc_1 _ (List.mem_of_getElem? (i := 14) rfl)) rfl, by decide +kernel, by decide +kernel, by decide +kernel, by decide +kernel⟩
theorem ci_X12_asked : Cond.instanceMethod (yN m_X12_asked) ∈ z_T := z_in0 (zc_8 _ (List.mem_of_getElem? (i := 49) rfl)) rfl
theorem cv_X12_asked : Cond.selects (yN m_X12_asked).cls (yN m_X12_asked) (yN m_X12_asked) ∈ z_T := z_in0 (zp_6 _ (List.mem_of_getElem? (i := 1) rfl)) rfl
def m_X12_plain : zY := (zR12, ⟨zR12, "plain", "()V"⟩, prog_14_method_34_code, 5, none, [])
theorem ck_X12_plain : zCk m_X12_plain 0 := ⟨z_in0 (zc_8 _ (List.mem_of_getElem? (i := 70) rfl)) rfl, z_in0 (zc_1 _ (List.mem_of_getElem? (i := 14) rfl)) rfl, by decide +kernel, by decide +kernel, by decide +kernel, by decide +kernel⟩
theorem ci_X12_plain : Cond.instanceMethod (yN m_X12_plain) ∈ z_T := z_in0 (zc_8 _ (List.mem_of_getElem? (i := 69) rfl)) rfl
theorem cv_X12_plain : Cond.selects (yN m_X12_plain).cls (yN m_X12_plain) (yN m_X12_plain) ∈ z_T := z_in0 (zp_6 _ (List.mem_of_getElem? (i := 6) rfl)) rfl
def m_X12_block : zY := (zR12, ⟨zR12, "block", "(IIII)I"⟩, prog_14_method_35_code, 8, some .int, [])
theorem ck_X12_block : zCk m_X12_block 4 := ⟨z_in0 (zc_8 _ (List.mem_of_getElem? (i := 74) rfl)) rfl, z_in0 (zc_1 _ (List.mem_of_getElem? (i := 14) rfl)) rfl, by decide +kernel, by decide +kernel, by decide +kernel, by decide +kernel⟩
theorem ci_X12_block : Cond.instanceMethod (yN m_X12_block) ∈ z_T := z_in0 (zc_8 _ (List.mem_of_getElem? (i := 73) rfl)) rfl
theorem cv_X12_block : Cond.selects (yN m_X12_block).cls (yN m_X12_block) (yN m_X12_block) ∈ z_T := z_in0 (zp_6 _ (List.mem_of_getElem? (i := 7) rfl)) rfl
def m_X12_anyOf : zY := (zR12, ⟨zR12, "anyOf", "(III)V"⟩, prog_14_method_36_code, 5, none, [])
theorem ck_X12_anyOf : zCk m_X12_anyOf 3 := ⟨z_in0 (zc_8 _ (List.mem_of_getElem? (i := 82) rfl)) rfl, z_in0 (zc_1 _ (List.mem_of_getElem? (i := 14) rfl)) rfl, by decide +kernel, by decide +kernel, by decide +kernel, by decide +kernel⟩
theorem ci_X12_anyOf : Cond.instanceMethod (yN m_X12_anyOf) ∈ z_T := z_in0 (zc_8 _ (List.mem_of_getElem? (i := 81) rfl)) rfl
theorem cv_X12_anyOf : Cond.selects (yN m_X12_anyOf).cls (yN m_X12_anyOf) (yN m_X12_anyOf) ∈ z_T := z_in0 (zp_6 _ (List.mem_of_getElem? (i := 9) rfl)) rfl
def m_X12_rule : zY := (zR12, ⟨zR12, "rule", "(I)I"⟩, prog_14_method_37_code, 4, some .int, [])
theorem ck_X12_rule : zCk m_X12_rule 1 := ⟨z_in0 (zc_8 _ (List.mem_of_getElem? (i := 38) rfl)) rfl, z_in0 (zc_1 _ (List.mem_of_getElem? (i := 14) rfl)) rfl, by decide +kernel, by decide +kernel, by decide +kernel, by decide +kernel⟩
theorem ci_X12_rule : Cond.instanceMethod (yN m_X12_rule) ∈ z_T := z_in0 (zc_8 _ (List.mem_of_getElem? (i := 36) rfl)) rfl
theorem cv_X12_rule : Cond.selects (yN m_X12_rule).cls (yN m_X12_rule) (yN m_X12_rule) ∈ z_T := z_in0 (zc_8 _ (List.mem_of_getElem? (i := 37) rfl)) rfl
def m_X12_ones : zY := (zR12, ⟨zR12, "ones", "(I)I"⟩, prog_14_method_38_code, 3, some .int, [])
theorem ck_X12_ones : zCk m_X12_ones 1 := ⟨z_in0 (zc_8 _ (List.mem_of_getElem? (i := 96) rfl)) rfl, z_in0 (zc_1 _ (List.mem_of_getElem? (i := 14) rfl)) rfl, by decide +kernel, by decide +kernel, by decide +kernel, by decide +kernel⟩
theorem cs_X12_ones : Cond.static (yN m_X12_ones) ∈ z_T := z_in0 (zc_8 _ (List.mem_of_getElem? (i := 95) rfl)) rfl
def m_X12_isBehind : zY := (zR12, ⟨zR12, "isBehind", "(II)Z"⟩, prog_14_method_39_code, 2, some .boolean, [])
theorem ck_X12_isBehind : zCk m_X12_isBehind 2 := ⟨z_in0 (zc_8 _ (List.mem_of_getElem? (i := 93) rfl)) rfl, z_in0 (zc_1 _ (List.mem_of_getElem? (i := 14) rfl)) rfl, by decide +kernel, by decide +kernel, by decide +kernel, by decide +kernel⟩
theorem cs_X12_isBehind : Cond.static (yN m_X12_isBehind) ∈ z_T := z_in0 (zc_8 _ (List.mem_of_getElem? (i := 92) rfl)) rfl
def m_X12_swapsCovers : zY := (zR12, ⟨zR12, "swapsCovers", "(I)V"⟩, prog_14_method_40_code, 3, none, [])
theorem ck_X12_swapsCovers : zCk m_X12_swapsCovers 1 := ⟨z_in0 (zc_8 _ (List.mem_of_getElem? (i := 100) rfl)) rfl, z_in0 (zc_1 _ (List.mem_of_getElem? (i := 14) rfl)) rfl, by decide +kernel, by decide +kernel, by decide +kernel, by decide +kernel⟩
theorem ci_X12_swapsCovers : Cond.instanceMethod (yN m_X12_swapsCovers) ∈ z_T := z_in0 (zc_8 _ (List.mem_of_getElem? (i := 99) rfl)) rfl
theorem cv_X12_swapsCovers : Cond.selects (yN m_X12_swapsCovers).cls (yN m_X12_swapsCovers) (yN m_X12_swapsCovers) ∈ z_T := z_in0 (zp_6 _ (List.mem_of_getElem? (i := 12) rfl)) rfl
def m_X12_fault : zY := (zR12, ⟨zR12, "fault", "()I"⟩, prog_14_method_41_code, 1, some .int, [])
theorem ck_X12_fault : zCk m_X12_fault 0 := ⟨z_in0 (zc_8 _ (List.mem_of_getElem? (i := 104) rfl)) rfl, z_in0 (zc_1 _ (List.mem_of_getElem? (i := 14) rfl)) rfl, by decide +kernel, by decide +kernel, by decide +kernel, by decide +kernel⟩
theorem ci_X12_fault : Cond.instanceMethod (yN m_X12_fault) ∈ z_T := z_in0 (zc_8 _ (List.mem_of_getElem? (i := 102) rfl)) rfl
theorem cv_X12_fault : Cond.selects (yN m_X12_fault).cls (yN m_X12_fault) (yN m_X12_fault) ∈ z_T := z_in0 (zc_8 _ (List.mem_of_getElem? (i := 103) rfl)) rfl
def m_X12_told : zY := (zR12, ⟨zR12, "told", "(I)I"⟩, prog_14_method_42_code, 2, some .int, [])
theorem ck_X12_told : zCk m_X12_told 1 := ⟨z_in0 (zc_8 _ (List.mem_of_getElem? (i := 108) rfl)) rfl, z_in0 (zc_1 _ (List.mem_of_getElem? (i := 14) rfl)) rfl, by decide +kernel, by decide +kernel, by decide +kernel, by decide +kernel⟩
theorem ci_X12_told : Cond.instanceMethod (yN m_X12_told) ∈ z_T := z_in0 (zc_8 _ (List.mem_of_getElem? (i := 106) rfl)) rfl
theorem cv_X12_told : Cond.selects (yN m_X12_told).cls (yN m_X12_told) (yN m_X12_told) ∈ z_T := z_in0 (zc_8 _ (List.mem_of_getElem? (i := 107) rfl)) rfl
def m_X12_isSign : zY := (zR12, ⟨zR12, "isSign", "(I)Z"⟩, prog_14_method_43_code, 2, some .boolean, [])
theorem ck_X12_isSign : zCk m_X12_isSign 1 := ⟨z_in0 (zc_8 _ (List.mem_of_getElem? (i := 116) rfl)) rfl, z_in0 (zc_1 _ (List.mem_of_getElem? (i := 14) rfl)) rfl, by decide +kernel, by decide +kernel, by decide +kernel, by decide +kernel⟩
theorem ci_X12_isSign : Cond.instanceMethod (yN m_X12_isSign) ∈ z_T := z_in0 (zc_8 _ (List.mem_of_getElem? (i := 115) rfl)) rfl
theorem cv_X12_isSign : Cond.selects (yN m_X12_isSign).cls (yN m_X12_isSign) (yN m_X12_isSign) ∈ z_T := z_in0 (zp_6 _ (List.mem_of_getElem? (i := 13) rfl)) rfl
def m_X12_sign : zY := (zR12, ⟨zR12, "sign", "(I)I"⟩, prog_14_method_44_code, 2, some .int, [])
theorem ck_X12_sign : zCk m_X12_sign 1 := ⟨z_in0 (zc_8 _ (List.mem_of_getElem? (i := 112) rfl)) rfl, z_in0 (zc_1 _ (List.mem_of_getElem? (i := 14) rfl)) rfl, by decide +kernel, by decide +kernel, by decide +kernel, by decide +kernel⟩
theorem ci_X12_sign : Cond.instanceMethod (yN m_X12_sign) ∈ z_T := z_in0 (zc_8 _ (List.mem_of_getElem? (i := 110) rfl)) rfl
theorem cv_X12_sign : Cond.selects (yN m_X12_sign).cls (yN m_X12_sign) (yN m_X12_sign) ∈ z_T := z_in0 (zc_8 _ (List.mem_of_getElem? (i := 111) rfl)) rfl
def m_X12_family : zY := (zR12, ⟨zR12, "family", "(I)I"⟩, prog_14_method_45_code, 2, some .int, [])
theorem ck_X12_family : zCk m_X12_family 1 := ⟨z_in0 (zc_8 _ (List.mem_of_getElem? (i := 120) rfl)) rfl, z_in0 (zc_1 _ (List.mem_of_getElem? (i := 14) rfl)) rfl, by decide +kernel, by decide +kernel, by decide +kernel, by decide +kernel⟩
theorem ci_X12_family : Cond.instanceMethod (yN m_X12_family) ∈ z_T := z_in0 (zc_8 _ (List.mem_of_getElem? (i := 118) rfl)) rfl
theorem cv_X12_family : Cond.selects (yN m_X12_family).cls (yN m_X12_family) (yN m_X12_family) ∈ z_T := z_in0 (zc_8 _ (List.mem_of_getElem? (i := 119) rfl)) rfl
def m_X12_word : zY := (zR12, ⟨zR12, "word", "(II)I"⟩, prog_14_method_46_code, 3, some .int, [])
theorem ck_X12_word : zCk m_X12_word 2 := ⟨z_in0 (zc_8 _ (List.mem_of_getElem? (i := 124) rfl)) rfl, z_in0 (zc_1 _ (List.mem_of_getElem? (i := 14) rfl)) rfl, by decide +kernel, by decide +kernel, by decide +kernel, by decide +kernel⟩
theorem ci_X12_word : Cond.instanceMethod (yN m_X12_word) ∈ z_T := z_in0 (zc_8 _ (List.mem_of_getElem? (i := 122) rfl)) rfl
theorem cv_X12_word : Cond.selects (yN m_X12_word).cls (yN m_X12_word) (yN m_X12_word) ∈ z_T := z_in0 (zc_8 _ (List.mem_of_getElem? (i := 123) rfl)) rfl
def m_X12_isCover : zY := (zR12, ⟨zR12, "isCover", "(I)Z"⟩, prog_14_method_47_code, 2, some .boolean, [])
theorem ck_X12_isCover : zCk m_X12_isCover 1 := ⟨z_in0 (zc_8 _ (List.mem_of_getElem? (i := 132) rfl)) rfl, z_in0 (zc_1 _ (List.mem_of_getElem? (i := 14) rfl)) rfl, by decide +kernel, by decide +kernel, by decide +kernel, by decide +kernel⟩
theorem ci_X12_isCover : Cond.instanceMethod (yN m_X12_isCover) ∈ z_T := z_in0 (zc_8 _ (List.mem_of_getElem? (i := 131) rfl)) rfl
theorem cv_X12_isCover : Cond.selects (yN m_X12_isCover).cls (yN m_X12_isCover) (yN m_X12_isCover) ∈ z_T := z_in0 (zp_6 _ (List.mem_of_getElem? (i := 14) rfl)) rfl
def m_X12_cover : zY := (zR12, ⟨zR12, "cover", "(I)I"⟩, prog_14_method_48_code, 2, some .int, [])
theorem ck_X12_cover : zCk m_X12_cover 1 := ⟨z_in0 (zc_8 _ (List.mem_of_getElem? (i := 128) rfl)) rfl, z_in0 (zc_1 _ (List.mem_of_getElem? (i := 14) rfl)) rfl, by decide +kernel, by decide +kernel, by decide +kernel, by decide +kernel⟩
theorem ci_X12_cover : Cond.instanceMethod (yN m_X12_cover) ∈ z_T := z_in0 (zc_8 _ (List.mem_of_getElem? (i := 126) rfl)) rfl
theorem cv_X12_cover : Cond.selects (yN m_X12_cover).cls (yN m_X12_cover) (yN m_X12_cover) ∈ z_T := z_in0 (zc_8 _ (List.mem_of_getElem? (i := 127) rfl)) rfl
def m_X12_dirt : zY := (zR12, ⟨zR12, "dirt", "(I)I"⟩, prog_14_method_49_code, 3, some .int, [])
theorem ck_X12_dirt : zCk m_X12_dirt 1 := ⟨z_in0 (zc_8 _ (List.mem_of_getElem? (i := 136) rfl)) rfl, z_in0 (zc_1 _ (List.mem_of_getElem? (i := 14) rfl)) rfl, by decide +kernel, by decide +kernel, by decide +kernel, by decide +kernel⟩
theorem ci_X12_dirt : Cond.instanceMethod (yN m_X12_dirt) ∈ z_T := z_in0 (zc_8 _ (List.mem_of_getElem? (i := 134) rfl)) rfl
theorem cv_X12_dirt : Cond.selects (yN m_X12_dirt).cls (yN m_X12_dirt) (yN m_X12_dirt) ∈ z_T := z_in0 (zc_8 _ (List.mem_of_getElem? (i := 135) rfl)) rfl
def m_X12_firstCover : zY := (zR12, ⟨zR12, "firstCover", "(II)I"⟩, prog_14_method_50_code, 4, some .int, [])
theorem ck_X12_firstCover : zCk m_X12_firstCover 2 := ⟨z_in0 (zc_8 _ (List.mem_of_getElem? (i := 144) rfl)) rfl, z_in0 (zc_1 _ (List.mem_of_getElem? (i := 14) rfl)) rfl, by decide +kernel, by decide +kernel, by decide +kernel, by decide +kernel⟩
theorem ci_X12_firstCover : Cond.instanceMethod (yN m_X12_firstCover) ∈ z_T := z_in0 (zc_8 _ (List.mem_of_getElem? (i := 143) rfl)) rfl
theorem cv_X12_firstCover : Cond.selects (yN m_X12_firstCover).cls (yN m_X12_firstCover) (yN m_X12_firstCover) ∈ z_T := z_in0 (zp_6 _ (List.mem_of_getElem? (i := 15) rfl)) rfl
def m_X12_confused : zY := (zR12, ⟨zR12, "confused", "(II)I"⟩, prog_14_method_51_code, 3, some .int, [])
theorem ck_X12_confused : zCk m_X12_confused 2 := ⟨z_in0 (zc_8 _ (List.mem_of_getElem? (i := 140) rfl)) rfl, z_in0 (zc_1 _ (List.mem_of_getElem? (i := 14) rfl)) rfl, by decide +kernel, by decide +kernel, by decide +kernel, by decide +kernel⟩
theorem ci_X12_confused : Cond.instanceMethod (yN m_X12_confused) ∈ z_T := z_in0 (zc_8 _ (List.mem_of_getElem? (i := 138) rfl)) rfl
theorem cv_X12_confused : Cond.selects (yN m_X12_confused).cls (yN m_X12_confused) (yN m_X12_confused) ∈ z_T := z_in0 (zc_8 _ (List.mem_of_getElem? (i := 139) rfl)) rfl
def m_X12_layNow : zY := (zR12, ⟨zR12, "layNow", "()V"⟩, prog_14_method_52_code, 2, none, [])
theorem ck_X12_layNow : zCk m_X12_layNow 0 := ⟨z_in0 (zc_8 _ (List.mem_of_getElem? (i := 152) rfl)) rfl, z_in0 (zc_1 _ (List.mem_of_getElem? (i := 14) rfl)) rfl, by decide +kernel, by decide +kernel, by decide +kernel, by decide +kernel⟩
theorem ci_X12_layNow : Cond.instanceMethod (yN m_X12_layNow) ∈ z_T := z_in0 (zc_8 _ (List.mem_of_getElem? (i := 151) rfl)) rfl
theorem cv_X12_layNow : Cond.selects (yN m_X12_layNow).cls (yN m_X12_layNow) (yN m_X12_layNow) ∈ z_T := z_in0 (zp_7 _ (List.mem_of_getElem? (i := 0) rfl)) rfl
def m_X12_layPairsOf : zY := (zR12, ⟨zR12, "layPairsOf", "(I)V"⟩, prog_14_method_53_code, 4, none, [])
theorem ck_X12_layPairsOf : zCk m_X12_layPairsOf 1 := ⟨z_in0 (zc_8 _ (List.mem_of_getElem? (i := 160) rfl)) rfl, z_in0 (zc_1 _ (List.mem_of_getElem? (i := 14) rfl)) rfl, by decide +kernel, by decide +kernel, by decide +kernel, by decide +kernel⟩
theorem ci_X12_layPairsOf : Cond.instanceMethod (yN m_X12_layPairsOf) ∈ z_T := z_in0 (zc_8 _ (List.mem_of_getElem? (i := 159) rfl)) rfl
theorem cv_X12_layPairsOf : Cond.selects (yN m_X12_layPairsOf).cls (yN m_X12_layPairsOf) (yN m_X12_layPairsOf) ∈ z_T := z_in0 (zp_7 _ (List.mem_of_getElem? (i := 2) rfl)) rfl
def m_X12_layPairs : zY := (zR12, ⟨zR12, "layPairs", "()I"⟩, prog_14_method_54_code, 2, some .int, [])
theorem ck_X12_layPairs : zCk m_X12_layPairs 0 := ⟨z_in0 (zc_8 _ (List.mem_of_getElem? (i := 156) rfl)) rfl, z_in0 (zc_1 _ (List.mem_of_getElem? (i := 14) rfl)) rfl, by decide +kernel, by decide +kernel, by decide +kernel, by decide +kernel⟩
theorem ci_X12_layPairs : Cond.instanceMethod (yN m_X12_layPairs) ∈ z_T := z_in0 (zc_8 _ (List.mem_of_getElem? (i := 155) rfl)) rfl
theorem cv_X12_layPairs : Cond.selects (yN m_X12_layPairs).cls (yN m_X12_layPairs) (yN m_X12_layPairs) ∈ z_T := z_in0 (zp_7 _ (List.mem_of_getElem? (i := 1) rfl)) rfl
def m_X12_pairs : zY := (zR12, ⟨zR12, "pairs", "()I"⟩, prog_14_method_55_code, 4, some .int, [])
theorem ck_X12_pairs : zCk m_X12_pairs 0 := ⟨z_in0 (zc_8 _ (List.mem_of_getElem? (i := 164) rfl)) rfl, z_in0 (zc_1 _ (List.mem_of_getElem? (i := 14) rfl)) rfl, by decide +kernel, by decide +kernel, by decide +kernel, by decide +kernel⟩
theorem ci_X12_pairs : Cond.instanceMethod (yN m_X12_pairs) ∈ z_T := z_in0 (zc_8 _ (List.mem_of_getElem? (i := 163) rfl)) rfl
theorem cv_X12_pairs : Cond.selects (yN m_X12_pairs).cls (yN m_X12_pairs) (yN m_X12_pairs) ∈ z_T := z_in0 (zp_7 _ (List.mem_of_getElem? (i := 3) rfl)) rfl
def m_X12_confusions : zY := (zR12, ⟨zR12, "confusions", "()I"⟩, prog_14_method_56_code, 1, some .int, [])
theorem ck_X12_confusions : zCk m_X12_confusions 0 := ⟨z_in0 (zc_8 _ (List.mem_of_getElem? (i := 148) rfl)) rfl, z_in0 (zc_1 _ (List.mem_of_getElem? (i := 14) rfl)) rfl, by decide +kernel, by decide +kernel, by decide +kernel, by decide +kernel⟩
theorem ci_X12_confusions : Cond.instanceMethod (yN m_X12_confusions) ∈ z_T := z_in0 (zc_8 _ (List.mem_of_getElem? (i := 146) rfl)) rfl
theorem cv_X12_confusions : Cond.selects (yN m_X12_confusions).cls (yN m_X12_confusions) (yN m_X12_confusions) ∈ z_T := z_in0 (zc_8 _ (List.mem_of_getElem? (i := 147) rfl)) rfl
def m_X12_pairsBy : zY := (zR12, ⟨zR12, "pairsBy", "(I)I"⟩, prog_14_method_57_code, 5, some .int, [])
theorem ck_X12_pairsBy : zCk m_X12_pairsBy 1 := ⟨z_in0 (zc_8 _ (List.mem_of_getElem? (i := 172) rfl)) rfl, z_in0 (zc_1 _ (List.mem_of_getElem? (i := 14) rfl)) rfl, by decide +kernel, by decide +kernel, by decide +kernel, by decide +kernel⟩
theorem ci_X12_pairsBy : Cond.instanceMethod (yN m_X12_pairsBy) ∈ z_T := z_in0 (zc_8 _ (List.mem_of_getElem? (i := 171) rfl)) rfl
theorem cv_X12_pairsBy : Cond.selects (yN m_X12_pairsBy).cls (yN m_X12_pairsBy) (yN m_X12_pairsBy) ∈ z_T := z_in0 (zp_7 _ (List.mem_of_getElem? (i := 4) rfl)) rfl
def m_X12_blind : zY := (zR12, ⟨zR12, "blind", "(I)I"⟩, prog_14_method_58_code, 4, some .int, [])
theorem ck_X12_blind : zCk m_X12_blind 1 := ⟨z_in0 (zc_8 _ (List.mem_of_getElem? (i := 168) rfl)) rfl, z_in0 (zc_1 _ (List.mem_of_getElem? (i := 14) rfl)) rfl, by decide +kernel, by decide +kernel, by decide +kernel, by decide +kernel⟩
theorem ci_X12_blind : Cond.instanceMethod (yN m_X12_blind) ∈ z_T := z_in0 (zc_8 _ (List.mem_of_getElem? (i := 166) rfl)) rfl
theorem cv_X12_blind : Cond.selects (yN m_X12_blind).cls (yN m_X12_blind) (yN m_X12_blind) ∈ z_T := z_in0 (zc_8 _ (List.mem_of_getElem? (i := 167) rfl)) rfl
def m_X12_mayBe : zY := (zR12, ⟨zR12, "mayBe", "(II)I"⟩, prog_14_method_59_code, 5, some .int, [])
theorem ck_X12_mayBe : zCk m_X12_mayBe 2 := ⟨z_in0 (zc_8 _ (List.mem_of_getElem? (i := 184) rfl)) rfl, z_in0 (zc_1 _ (List.mem_of_getElem? (i := 14) rfl)) rfl, by decide +kernel, by decide +kernel, by decide +kernel, by decide +kernel⟩
theorem ci_X12_mayBe : Cond.instanceMethod (yN m_X12_mayBe) ∈ z_T := z_in0 (zc_8 _ (List.mem_of_getElem? (i := 183) rfl)) rfl
theorem cv_X12_mayBe : Cond.selects (yN m_X12_mayBe).cls (yN m_X12_mayBe) (yN m_X12_mayBe) ∈ z_T := z_in0 (zp_7 _ (List.mem_of_getElem? (i := 6) rfl)) rfl
def m_X12_isPaint : zY := (zR12, ⟨zR12, "isPaint", "(I)Z"⟩, prog_14_method_60_code, 2, some .boolean, [])
theorem ck_X12_isPaint : zCk m_X12_isPaint 1 := ⟨z_in0 (zc_8 _ (List.mem_of_getElem? (i := 180) rfl)) rfl, z_in0 (zc_1 _ (List.mem_of_getElem? (i := 14) rfl)) rfl, by decide +kernel, by decide +kernel, by decide +kernel, by decide +kernel⟩
theorem ci_X12_isPaint : Cond.instanceMethod (yN m_X12_isPaint) ∈ z_T := z_in0 (zc_8 _ (List.mem_of_getElem? (i := 179) rfl)) rfl
theorem cv_X12_isPaint : Cond.selects (yN m_X12_isPaint).cls (yN m_X12_isPaint) (yN m_X12_isPaint) ∈ z_T := z_in0 (zp_7 _ (List.mem_of_getElem? (i := 5) rfl)) rfl
def m_X12_may : zY := (zR12, ⟨zR12, "may", "(II)I"⟩, prog_14_method_61_code, 3, some .int, [])
theorem ck_X12_may : zCk m_X12_may 2 := ⟨z_in0 (zc_8 _ (List.mem_of_getElem? (i := 176) rfl)) rfl, z_in0 (zc_1 _ (List.mem_of_getElem? (i := 14) rfl)) rfl, by decide +kernel, by decide +kernel, by decide +kernel, by decide +kernel⟩
theorem ci_X12_may : Cond.instanceMethod (yN m_X12_may) ∈ z_T := z_in0 (zc_8 _ (List.mem_of_getElem? (i := 174) rfl)) rfl
theorem cv_X12_may : Cond.selects (yN m_X12_may).cls (yN m_X12_may) (yN m_X12_may) ∈ z_T := z_in0 (zc_8 _ (List.mem_of_getElem? (i := 175) rfl)) rfl
def m_X12_only : zY := (zR12, ⟨zR12, "only", "(I)I"⟩, prog_14_method_62_code, 3, some .int, [])
theorem ck_X12_only : zCk m_X12_only 1 := ⟨z_in0 (zc_8 _ (List.mem_of_getElem? (i := 192) rfl)) rfl, z_in0 (zc_1 _ (List.mem_of_getElem? (i := 14) rfl)) rfl, by decide +kernel, by decide +kernel, by decide +kernel, by decide +kernel⟩
theorem ci_X12_only : Cond.instanceMethod (yN m_X12_only) ∈ z_T := z_in0 (zc_8 _ (List.mem_of_getElem? (i := 191) rfl)) rfl
theorem cv_X12_only : Cond.selects (yN m_X12_only).cls (yN m_X12_only) (yN m_X12_only) ∈ z_T := z_in0 (zp_7 _ (List.mem_of_getElem? (i := 7) rfl)) rfl
def m_X12_read : zY := (zR12, ⟨zR12, "read", "(II)I"⟩, prog_14_method_63_code, 3, some .int, [])
theorem ck_X12_read : zCk m_X12_read 2 := ⟨z_in0 (zc_8 _ (List.mem_of_getElem? (i := 188) rfl)) rfl, z_in0 (zc_1 _ (List.mem_of_getElem? (i := 14) rfl)) rfl, by decide +kernel, by decide +kernel, by decide +kernel, by decide +kernel⟩
theorem ci_X12_read : Cond.instanceMethod (yN m_X12_read) ∈ z_T := z_in0 (zc_8 _ (List.mem_of_getElem? (i := 186) rfl)) rfl
theorem cv_X12_read : Cond.selects (yN m_X12_read).cls (yN m_X12_read) (yN m_X12_read) ∈ z_T := z_in0 (zc_8 _ (List.mem_of_getElem? (i := 187) rfl)) rfl
def m_X12_nearest : zY := (zR12, ⟨zR12, "nearest", "(II)I"⟩, prog_14_method_64_code, 7, some .int, [])
theorem ck_X12_nearest : zCk m_X12_nearest 2 := ⟨z_in0 (zc_8 _ (List.mem_of_getElem? (i := 196) rfl)) rfl, z_in0 (zc_1 _ (List.mem_of_getElem? (i := 14) rfl)) rfl, by decide +kernel, by decide +kernel, by decide +kernel, by decide +kernel⟩
theorem ci_X12_nearest : Cond.instanceMethod (yN m_X12_nearest) ∈ z_T := z_in0 (zc_8 _ (List.mem_of_getElem? (i := 194) rfl)) rfl
theorem cv_X12_nearest : Cond.selects (yN m_X12_nearest).cls (yN m_X12_nearest) (yN m_X12_nearest) ∈ z_T := z_in0 (zc_8 _ (List.mem_of_getElem? (i := 195) rfl)) rfl
def m_X12_part : zY := (zR12, ⟨zR12, "part", "(II)I"⟩, prog_14_method_65_code, 3, some .int, [])
theorem ck_X12_part : zCk m_X12_part 2 := ⟨z_in0 (zc_8 _ (List.mem_of_getElem? (i := 200) rfl)) rfl, z_in0 (zc_1 _ (List.mem_of_getElem? (i := 14) rfl)) rfl, by decide +kernel, by decide +kernel, by decide +kernel, by decide +kernel⟩
theorem ci_X12_part : Cond.instanceMethod (yN m_X12_part) ∈ z_T := z_in0 (zc_8 _ (List.mem_of_getElem? (i := 198) rfl)) rfl
theorem cv_X12_part : Cond.selects (yN m_X12_part).cls (yN m_X12_part) (yN m_X12_part) ∈ z_T := z_in0 (zc_8 _ (List.mem_of_getElem? (i := 199) rfl)) rfl
def m_X12_forget : zY := (zR12, ⟨zR12, "forget", "()I"⟩, prog_14_method_66_code, 2, some .int, [])
theorem ck_X12_forget : zCk m_X12_forget 0 := ⟨z_in0 (zc_8 _ (List.mem_of_getElem? (i := 204) rfl)) rfl, z_in0 (zc_1 _ (List.mem_of_getElem? (i := 14) rfl)) rfl, by decide +kernel, by decide +kernel, by decide +kernel, by decide +kernel⟩
theorem ci_X12_forget : Cond.instanceMethod (yN m_X12_forget) ∈ z_T := z_in0 (zc_8 _ (List.mem_of_getElem? (i := 202) rfl)) rfl
theorem cv_X12_forget : Cond.selects (yN m_X12_forget).cls (yN m_X12_forget) (yN m_X12_forget) ∈ z_T := z_in0 (zc_8 _ (List.mem_of_getElem? (i := 203) rfl)) rfl
def m_X12_wordsOf : zY := (zR12, ⟨zR12, "wordsOf", "()I"⟩, prog_14_method_67_code, 5, some .int, [])
theorem ck_X12_wordsOf : zCk m_X12_wordsOf 0 := ⟨z_in0 (zc_8 _ (List.mem_of_getElem? (i := 212) rfl)) rfl, z_in0 (zc_1 _ (List.mem_of_getElem? (i := 14) rfl)) rfl, by decide +kernel, by decide +kernel, by decide +kernel, by decide +kernel⟩
theorem ci_X12_wordsOf : Cond.instanceMethod (yN m_X12_wordsOf) ∈ z_T := z_in0 (zc_8 _ (List.mem_of_getElem? (i := 211) rfl)) rfl
theorem cv_X12_wordsOf : Cond.selects (yN m_X12_wordsOf).cls (yN m_X12_wordsOf) (yN m_X12_wordsOf) ∈ z_T := z_in0 (zp_7 _ (List.mem_of_getElem? (i := 8) rfl)) rfl
def m_X12_words : zY := (zR12, ⟨zR12, "words", "()I"⟩, prog_14_method_68_code, 1, some .int, [])
theorem ck_X12_words : zCk m_X12_words 0 := ⟨z_in0 (zc_8 _ (List.mem_of_getElem? (i := 208) rfl)) rfl, z_in0 (zc_1 _ (List.mem_of_getElem? (i := 14) rfl)) rfl, by decide +kernel, by decide +kernel, by decide +kernel, by decide +kernel⟩
theorem ci_X12_words : Cond.instanceMethod (yN m_X12_words) ∈ z_T := z_in0 (zc_8 _ (List.mem_of_getElem? (i := 206) rfl)) rfl
theorem cv_X12_words : Cond.selects (yN m_X12_words).cls (yN m_X12_words) (yN m_X12_words) ∈ z_T := z_in0 (zc_8 _ (List.mem_of_getElem? (i := 207) rfl)) rfl
def m_X12_sure : zY := (zR12, ⟨zR12, "sure", "(I)I"⟩, prog_14_method_69_code, 5, some .int, [])
theorem ck_X12_sure : zCk m_X12_sure 1 := ⟨z_in0 (zc_8 _ (List.mem_of_getElem? (i := 216) rfl)) rfl, z_in0 (zc_1 _ (List.mem_of_getElem? (i := 14) rfl)) rfl, by decide +kernel, by decide +kernel, by decide +kernel, by decide +kernel⟩
theorem ci_X12_sure : Cond.instanceMethod (yN m_X12_sure) ∈ z_T := z_in0 (zc_8 _ (List.mem_of_getElem? (i := 214) rfl)) rfl
theorem cv_X12_sure : Cond.selects (yN m_X12_sure).cls (yN m_X12_sure) (yN m_X12_sure) ∈ z_T := z_in0 (zc_8 _ (List.mem_of_getElem? (i := 215) rfl)) rfl
def m_X12_least : zY := (zR12, ⟨zR12, "least", "(II)I"⟩, prog_14_method_70_code, 5, some .int, [])
theorem ck_X12_least : zCk m_X12_least 2 := ⟨z_in0 (zc_8 _ (List.mem_of_getElem? (i := 220) rfl)) rfl, z_in0 (zc_1 _ (List.mem_of_getElem? (i := 14) rfl)) rfl, by decide +kernel, by decide +kernel, by decide +kernel, by decide +kernel⟩
theorem ci_X12_least : Cond.instanceMethod (yN m_X12_least) ∈ z_T := z_in0 (zc_8 _ (List.mem_of_getElem? (i := 218) rfl)) rfl
theorem cv_X12_least : Cond.selects (yN m_X12_least).cls (yN m_X12_least) (yN m_X12_least) ∈ z_T := z_in0 (zc_8 _ (List.mem_of_getElem? (i := 219) rfl)) rfl
def m_X12_firstPart : zY := (zR12, ⟨zR12, "firstPart", "(II)I"⟩, prog_14_method_71_code, 6, some .int, [])
theorem ck_X12_firstPart : zCk m_X12_firstPart 2 := ⟨z_in0 (zc_8 _ (List.mem_of_getElem? (i := 224) rfl)) rfl, z_in0 (zc_1 _ (List.mem_of_getElem? (i := 14) rfl)) rfl, by decide +kernel, by decide +kernel, by decide +kernel, by decide +kernel⟩
theorem ci_X12_firstPart : Cond.instanceMethod (yN m_X12_firstPart) ∈ z_T := z_in0 (zc_8 _ (List.mem_of_getElem? (i := 223) rfl)) rfl
theorem cv_X12_firstPart : Cond.selects (yN m_X12_firstPart).cls (yN m_X12_firstPart) (yN m_X12_firstPart) ∈ z_T := z_in0 (zp_7 _ (List.mem_of_getElem? (i := 9) rfl)) rfl
def m_X12_tells : zY := (zR12, ⟨zR12, "tells", "(II)Z"⟩, prog_14_method_72_code, 4, some .boolean, [])
theorem ck_X12_tells : zCk m_X12_tells 2 := ⟨z_in0 (zc_8 _ (List.mem_of_getElem? (i := 228) rfl)) rfl, z_in0 (zc_1 _ (List.mem_of_getElem? (i := 14) rfl)) rfl, by decide +kernel, by decide +kernel, by decide +kernel, by decide +kernel⟩
theorem ci_X12_tells : Cond.instanceMethod (yN m_X12_tells) ∈ z_T := z_in0 (zc_8 _ (List.mem_of_getElem? (i := 227) rfl)) rfl
theorem cv_X12_tells : Cond.selects (yN m_X12_tells).cls (yN m_X12_tells) (yN m_X12_tells) ∈ z_T := z_in0 (zp_7 _ (List.mem_of_getElem? (i := 10) rfl)) rfl
def m_X12_strokes : zY := (zR12, ⟨zR12, "strokes", "(I)I"⟩, prog_14_method_73_code, 5, some .int, [])
theorem ck_X12_strokes : zCk m_X12_strokes 1 := ⟨z_in0 (zc_8 _ (List.mem_of_getElem? (i := 232) rfl)) rfl, z_in0 (zc_1 _ (List.mem_of_getElem? (i := 14) rfl)) rfl, by decide +kernel, by decide +kernel, by decide +kernel, by decide +kernel⟩
theorem ci_X12_strokes : Cond.instanceMethod (yN m_X12_strokes) ∈ z_T := z_in0 (zc_8 _ (List.mem_of_getElem? (i := 230) rfl)) rfl
theorem cv_X12_strokes : Cond.selects (yN m_X12_strokes).cls (yN m_X12_strokes) (yN m_X12_strokes) ∈ z_T := z_in0 (zc_8 _ (List.mem_of_getElem? (i := 231) rfl)) rfl
def m_X12_finds : zY := (zR12, ⟨zR12, "finds", "(I)Z"⟩, prog_14_method_74_code, 3, some .boolean, [])
theorem ck_X12_finds : zCk m_X12_finds 1 := ⟨z_in0 (zc_8 _ (List.mem_of_getElem? (i := 236) rfl)) rfl, z_in0 (zc_1 _ (List.mem_of_getElem? (i := 14) rfl)) rfl, by decide +kernel, by decide +kernel, by decide +kernel, by decide +kernel⟩
theorem ci_X12_finds : Cond.instanceMethod (yN m_X12_finds) ∈ z_T := z_in0 (zc_8 _ (List.mem_of_getElem? (i := 235) rfl)) rfl
theorem cv_X12_finds : Cond.selects (yN m_X12_finds).cls (yN m_X12_finds) (yN m_X12_finds) ∈ z_T := z_in0 (zp_7 _ (List.mem_of_getElem? (i := 11) rfl)) rfl
def m_X12_akin : zY := (zR12, ⟨zR12, "akin", "(II)I"⟩, prog_14_method_75_code, 7, some .int, [])
theorem ck_X12_akin : zCk m_X12_akin 2 := ⟨z_in0 (zc_9 _ (List.mem_of_getElem? (i := 0) rfl)) rfl, z_in0 (zc_1 _ (List.mem_of_getElem? (i := 14) rfl)) rfl, by decide +kernel, by decide +kernel, by decide +kernel, by decide +kernel⟩
theorem ci_X12_akin : Cond.instanceMethod (yN m_X12_akin) ∈ z_T := z_in0 (zc_8 _ (List.mem_of_getElem? (i := 238) rfl)) rfl
theorem cv_X12_akin : Cond.selects (yN m_X12_akin).cls (yN m_X12_akin) (yN m_X12_akin) ∈ z_T := z_in0 (zc_8 _ (List.mem_of_getElem? (i := 239) rfl)) rfl
def m_X12_strangers : zY := (zR12, ⟨zR12, "strangers", "()I"⟩, prog_14_method_76_code, 7, some .int, [])
theorem ck_X12_strangers : zCk m_X12_strangers 0 := ⟨z_in0 (zc_9 _ (List.mem_of_getElem? (i := 4) rfl)) rfl, z_in0 (zc_1 _ (List.mem_of_getElem? (i := 14) rfl)) rfl, by decide +kernel, by decide +kernel, by decide +kernel, by decide +kernel⟩
theorem ci_X12_strangers : Cond.instanceMethod (yN m_X12_strangers) ∈ z_T := z_in0 (zc_9 _ (List.mem_of_getElem? (i := 2) rfl)) rfl
theorem cv_X12_strangers : Cond.selects (yN m_X12_strangers).cls (yN m_X12_strangers) (yN m_X12_strangers) ∈ z_T := z_in0 (zc_9 _ (List.mem_of_getElem? (i := 3) rfl)) rfl
def m_X12_findChanges : zY := (zR12, ⟨zR12, "findChanges", "()I"⟩, prog_14_method_77_code, 5, some .int, [])
theorem ck_X12_findChanges : zCk m_X12_findChanges 0 := ⟨z_in0 (zc_9 _ (List.mem_of_getElem? (i := 12) rfl)) rfl, z_in0 (zc_1 _ (List.mem_of_getElem? (i := 14) rfl)) rfl, by decide +kernel, by decide +kernel, by decide +kernel, by decide +kernel⟩
theorem ci_X12_findChanges : Cond.instanceMethod (yN m_X12_findChanges) ∈ z_T := z_in0 (zc_9 _ (List.mem_of_getElem? (i := 11) rfl)) rfl
theorem cv_X12_findChanges : Cond.selects (yN m_X12_findChanges).cls (yN m_X12_findChanges) (yN m_X12_findChanges) ∈ z_T := z_in0 (zp_7 _ (List.mem_of_getElem? (i := 12) rfl)) rfl
def m_X12_couldBe : zY := (zR12, ⟨zR12, "couldBe", "(II)Z"⟩, prog_14_method_78_code, 5, some .boolean, [])
theorem ck_X12_couldBe : zCk m_X12_couldBe 2 := ⟨z_in0 (zc_9 _ (List.mem_of_getElem? (i := 16) rfl)) rfl, z_in0 (zc_1 _ (List.mem_of_getElem? (i := 14) rfl)) rfl, by decide +kernel, by decide +kernel, by decide +kernel, by decide +kernel⟩
theorem ci_X12_couldBe : Cond.instanceMethod (yN m_X12_couldBe) ∈ z_T := z_in0 (zc_9 _ (List.mem_of_getElem? (i := 15) rfl)) rfl
theorem cv_X12_couldBe : Cond.selects (yN m_X12_couldBe).cls (yN m_X12_couldBe) (yN m_X12_couldBe) ∈ z_T := z_in0 (zp_7 _ (List.mem_of_getElem? (i := 13) rfl)) rfl
def m_X12_flips : zY := (zR12, ⟨zR12, "flips", "(I)V"⟩, prog_14_method_79_code, 2, none, [])
theorem ck_X12_flips : zCk m_X12_flips 1 := ⟨z_in0 (zc_9 _ (List.mem_of_getElem? (i := 20) rfl)) rfl, z_in0 (zc_1 _ (List.mem_of_getElem? (i := 14) rfl)) rfl, by decide +kernel, by decide +kernel, by decide +kernel, by decide +kernel⟩
theorem ci_X12_flips : Cond.instanceMethod (yN m_X12_flips) ∈ z_T := z_in0 (zc_9 _ (List.mem_of_getElem? (i := 19) rfl)) rfl
theorem cv_X12_flips : Cond.selects (yN m_X12_flips).cls (yN m_X12_flips) (yN m_X12_flips) ∈ z_T := z_in0 (zp_7 _ (List.mem_of_getElem? (i := 14) rfl)) rfl
def m_X12_isClear : zY := (zR12, ⟨zR12, "isClear", "()Z"⟩, prog_14_method_80_code, 3, some .boolean, [])
theorem ck_X12_isClear : zCk m_X12_isClear 0 := ⟨z_in0 (zc_9 _ (List.mem_of_getElem? (i := 24) rfl)) rfl, z_in0 (zc_1 _ (List.mem_of_getElem? (i := 14) rfl)) rfl, by decide +kernel, by decide +kernel, by decide +kernel, by decide +kernel⟩
theorem ci_X12_isClear : Cond.instanceMethod (yN m_X12_isClear) ∈ z_T := z_in0 (zc_9 _ (List.mem_of_getElem? (i := 23) rfl)) rfl
theorem cv_X12_isClear : Cond.selects (yN m_X12_isClear).cls (yN m_X12_isClear) (yN m_X12_isClear) ∈ z_T := z_in0 (zp_7 _ (List.mem_of_getElem? (i := 15) rfl)) rfl
def m_X12_changed : zY := (zR12, ⟨zR12, "changed", "(I)I"⟩, prog_14_method_81_code, 4, some .int, [])
theorem ck_X12_changed : zCk m_X12_changed 1 := ⟨z_in0 (zc_9 _ (List.mem_of_getElem? (i := 8) rfl)) rfl, z_in0 (zc_1 _ (List.mem_of_getElem? (i := 14) rfl)) rfl, by decide +kernel, by decide +kernel, by decide +kernel, by decide +kernel⟩
theorem ci_X12_changed : Cond.instanceMethod (yN m_X12_changed) ∈ z_T := z_in0 (zc_9 _ (List.mem_of_getElem? (i := 6) rfl)) rfl
theorem cv_X12_changed : Cond.selects (yN m_X12_changed).cls (yN m_X12_changed) (yN m_X12_changed) ∈ z_T := z_in0 (zc_9 _ (List.mem_of_getElem? (i := 7) rfl)) rfl
def m_X12_bound : zY := (zR12, ⟨zR12, "bound", "()I"⟩, prog_14_method_82_code, 6, some .int, [])
theorem ck_X12_bound : zCk m_X12_bound 0 := ⟨z_in0 (zc_9 _ (List.mem_of_getElem? (i := 28) rfl)) rfl, z_in0 (zc_1 _ (List.mem_of_getElem? (i := 14) rfl)) rfl, by decide +kernel, by decide +kernel, by decide +kernel, by decide +kernel⟩
theorem ci_X12_bound : Cond.instanceMethod (yN m_X12_bound) ∈ z_T := z_in0 (zc_9 _ (List.mem_of_getElem? (i := 26) rfl)) rfl
theorem cv_X12_bound : Cond.selects (yN m_X12_bound).cls (yN m_X12_bound) (yN m_X12_bound) ∈ z_T := z_in0 (zc_9 _ (List.mem_of_getElem? (i := 27) rfl)) rfl
def m_X12_steps : zY := (zR12, ⟨zR12, "steps", "(I)I"⟩, prog_14_method_83_code, 9, some .int, [])
theorem ck_X12_steps : zCk m_X12_steps 1 := ⟨z_in0 (zc_9 _ (List.mem_of_getElem? (i := 32) rfl)) rfl, z_in0 (zc_1 _ (List.mem_of_getElem? (i := 14) rfl)) rfl, by decide +kernel, by decide +kernel, by decide +kernel, by decide +kernel⟩
theorem ci_X12_steps : Cond.instanceMethod (yN m_X12_steps) ∈ z_T := z_in0 (zc_9 _ (List.mem_of_getElem? (i := 30) rfl)) rfl
theorem cv_X12_steps : Cond.selects (yN m_X12_steps).cls (yN m_X12_steps) (yN m_X12_steps) ∈ z_T := z_in0 (zc_9 _ (List.mem_of_getElem? (i := 31) rfl)) rfl
def m_X12_layAlike : zY := (zR12, ⟨zR12, "layAlike", "()V"⟩, prog_14_method_84_code, 2, none, [])
theorem ck_X12_layAlike : zCk m_X12_layAlike 0 := ⟨z_in0 (zc_9 _ (List.mem_of_getElem? (i := 40) rfl)) rfl, z_in0 (zc_1 _ (List.mem_of_getElem? (i := 14) rfl)) rfl, by decide +kernel, by decide +kernel, by decide +kernel, by decide +kernel⟩
theorem ci_X12_layAlike : Cond.instanceMethod (yN m_X12_layAlike) ∈ z_T := z_in0 (zc_9 _ (List.mem_of_getElem? (i := 39) rfl)) rfl
theorem cv_X12_layAlike : Cond.selects (yN m_X12_layAlike).cls (yN m_X12_layAlike) (yN m_X12_layAlike) ∈ z_T := z_in0 (zp_8 _ (List.mem_of_getElem? (i := 0) rfl)) rfl
def m_X12_most : zY := (zR12, ⟨zR12, "most", "()I"⟩, prog_14_method_85_code, 3, some .int, [])
theorem ck_X12_most : zCk m_X12_most 0 := ⟨z_in0 (zc_9 _ (List.mem_of_getElem? (i := 36) rfl)) rfl, z_in0 (zc_1 _ (List.mem_of_getElem? (i := 14) rfl)) rfl, by decide +kernel, by decide +kernel, by decide +kernel, by decide +kernel⟩
theorem ci_X12_most : Cond.instanceMethod (yN m_X12_most) ∈ z_T := z_in0 (zc_9 _ (List.mem_of_getElem? (i := 34) rfl)) rfl
theorem cv_X12_most : Cond.selects (yN m_X12_most).cls (yN m_X12_most) (yN m_X12_most) ∈ z_T := z_in0 (zc_9 _ (List.mem_of_getElem? (i := 35) rfl)) rfl
def m_X12_onesOf : zY := (zR12, ⟨zR12, "onesOf", "(J)I"⟩, prog_14_method_86_code, 2, some .int, [])
theorem ck_X12_onesOf : zCk m_X12_onesOf 1 := ⟨z_in0 (zc_9 _ (List.mem_of_getElem? (i := 51) rfl)) rfl, z_in0 (zc_1 _ (List.mem_of_getElem? (i := 14) rfl)) rfl, by decide +kernel, by decide +kernel, by decide +kernel, by decide +kernel⟩
theorem cs_X12_onesOf : Cond.static (yN m_X12_onesOf) ∈ z_T := z_in0 (zc_9 _ (List.mem_of_getElem? (i := 50) rfl)) rfl
def m_X12_lowest : zY := (zR12, ⟨zR12, "lowest", "(J)I"⟩, prog_14_method_87_code, 3, some .int, [])
theorem ck_X12_lowest : zCk m_X12_lowest 1 := ⟨z_in0 (zc_9 _ (List.mem_of_getElem? (i := 47) rfl)) rfl, z_in0 (zc_1 _ (List.mem_of_getElem? (i := 14) rfl)) rfl, by decide +kernel, by decide +kernel, by decide +kernel, by decide +kernel⟩
theorem cs_X12_lowest : Cond.static (yN m_X12_lowest) ∈ z_T := z_in0 (zc_9 _ (List.mem_of_getElem? (i := 46) rfl)) rfl
def m_X12_grows : zY := (zR12, ⟨zR12, "grows", "(JI)V"⟩, prog_14_method_88_code, 12, none, [])
theorem ck_X12_grows : zCk m_X12_grows 2 := ⟨z_in0 (zc_9 _ (List.mem_of_getElem? (i := 44) rfl)) rfl, z_in0 (zc_1 _ (List.mem_of_getElem? (i := 14) rfl)) rfl, by decide +kernel, by decide +kernel, by decide +kernel, by decide +kernel⟩
theorem ci_X12_grows : Cond.instanceMethod (yN m_X12_grows) ∈ z_T := z_in0 (zc_9 _ (List.mem_of_getElem? (i := 43) rfl)) rfl
theorem cv_X12_grows : Cond.selects (yN m_X12_grows).cls (yN m_X12_grows) (yN m_X12_grows) ∈ z_T := z_in0 (zp_8 _ (List.mem_of_getElem? (i := 1) rfl)) rfl
def m_X12_taken : zY := (zR12, ⟨zR12, "taken", "()I"⟩, prog_14_method_89_code, 5, some .int, [])
theorem ck_X12_taken : zCk m_X12_taken 0 := ⟨z_in0 (zc_9 _ (List.mem_of_getElem? (i := 55) rfl)) rfl, z_in0 (zc_1 _ (List.mem_of_getElem? (i := 14) rfl)) rfl, by decide +kernel, by decide +kernel, by decide +kernel, by decide +kernel⟩
theorem ci_X12_taken : Cond.instanceMethod (yN m_X12_taken) ∈ z_T := z_in0 (zc_9 _ (List.mem_of_getElem? (i := 53) rfl)) rfl
theorem cv_X12_taken : Cond.selects (yN m_X12_taken).cls (yN m_X12_taken) (yN m_X12_taken) ∈ z_T := z_in0 (zc_9 _ (List.mem_of_getElem? (i := 54) rfl)) rfl
def m_X12_stand : zY := (zR12, ⟨zR12, "stand", "(III)I"⟩, prog_14_method_90_code, 4, some .int, [])
theorem ck_X12_stand : zCk m_X12_stand 3 := ⟨z_in0 (zc_9 _ (List.mem_of_getElem? (i := 59) rfl)) rfl, z_in0 (zc_1 _ (List.mem_of_getElem? (i := 14) rfl)) rfl, by decide +kernel, by decide +kernel, by decide +kernel, by decide +kernel⟩
theorem ci_X12_stand : Cond.instanceMethod (yN m_X12_stand) ∈ z_T := z_in0 (zc_9 _ (List.mem_of_getElem? (i := 57) rfl)) rfl
theorem cv_X12_stand : Cond.selects (yN m_X12_stand).cls (yN m_X12_stand) (yN m_X12_stand) ∈ z_T := z_in0 (zc_9 _ (List.mem_of_getElem? (i := 58) rfl)) rfl
def m_X12_leave : zY := (zR12, ⟨zR12, "leave", "()I"⟩, prog_14_method_91_code, 2, some .int, [])
theorem ck_X12_leave : zCk m_X12_leave 0 := ⟨z_in0 (zc_9 _ (List.mem_of_getElem? (i := 63) rfl)) rfl, z_in0 (zc_1 _ (List.mem_of_getElem? (i := 14) rfl)) rfl, by decide +kernel, by decide +kernel, by decide +kernel, by decide +kernel⟩
theorem ci_X12_leave : Cond.instanceMethod (yN m_X12_leave) ∈ z_T := z_in0 (zc_9 _ (List.mem_of_getElem? (i := 61) rfl)) rfl
theorem cv_X12_leave : Cond.selects (yN m_X12_leave).cls (yN m_X12_leave) (yN m_X12_leave) ∈ z_T := z_in0 (zc_9 _ (List.mem_of_getElem? (i := 62) rfl)) rfl
def m_X12_isSeen : zY := (zR12, ⟨zR12, "isSeen", "(III)Z"⟩, prog_14_method_92_code, 9, some .boolean, [])
theorem ck_X12_isSeen : zCk m_X12_isSeen 3 := ⟨z_in0 (zc_9 _ (List.mem_of_getElem? (i := 83) rfl)) rfl, z_in0 (zc_1 _ (List.mem_of_getElem? (i := 14) rfl)) rfl, by decide +kernel, by decide +kernel, by decide +kernel, by decide +kernel⟩
theorem ci_X12_isSeen : Cond.instanceMethod (yN m_X12_isSeen) ∈ z_T := z_in0 (zc_9 _ (List.mem_of_getElem? (i := 82) rfl)) rfl
theorem cv_X12_isSeen : Cond.selects (yN m_X12_isSeen).cls (yN m_X12_isSeen) (yN m_X12_isSeen) ∈ z_T := z_in0 (zp_8 _ (List.mem_of_getElem? (i := 5) rfl)) rfl
def m_X12_seenFrom : zY := (zR12, ⟨zR12, "seenFrom", "(II)I"⟩, prog_14_method_93_code, 5, some .int, [])
theorem ck_X12_seenFrom : zCk m_X12_seenFrom 2 := ⟨z_in0 (zc_9 _ (List.mem_of_getElem? (i := 79) rfl)) rfl, z_in0 (zc_1 _ (List.mem_of_getElem? (i := 14) rfl)) rfl, by decide +kernel, by decide +kernel, by decide +kernel, by decide +kernel⟩
theorem ci_X12_seenFrom : Cond.instanceMethod (yN m_X12_seenFrom) ∈ z_T := z_in0 (zc_9 _ (List.mem_of_getElem? (i := 78) rfl)) rfl
theorem cv_X12_seenFrom : Cond.selects (yN m_X12_seenFrom).cls (yN m_X12_seenFrom) (yN m_X12_seenFrom) ∈ z_T := z_in0 (zp_8 _ (List.mem_of_getElem? (i := 4) rfl)) rfl
def m_X12_seenOf : zY := (zR12, ⟨zR12, "seenOf", "(IIZ)I"⟩, prog_14_method_94_code, 6, some .int, [])
theorem ck_X12_seenOf : zCk m_X12_seenOf 3 := ⟨z_in0 (zc_9 _ (List.mem_of_getElem? (i := 75) rfl)) rfl, z_in0 (zc_1 _ (List.mem_of_getElem? (i := 14) rfl)) rfl, by decide +kernel, by decide +kernel, by decide +kernel, by decide +kernel⟩
theorem ci_X12_seenOf : Cond.instanceMethod (yN m_X12_seenOf) ∈ z_T := z_in0 (zc_9 _ (List.mem_of_getElem? (i := 74) rfl)) rfl
theorem cv_X12_seenOf : Cond.selects (yN m_X12_seenOf).cls (yN m_X12_seenOf) (yN m_X12_seenOf) ∈ z_T := z_in0 (zp_8 _ (List.mem_of_getElem? (i := 3) rfl)) rfl
def m_X12_isStanding : zY := (zR12, ⟨zR12, "isStanding", "(I)Z"⟩, prog_14_method_95_code, 2, some .boolean, [])
theorem ck_X12_isStanding : zCk m_X12_isStanding 1 := ⟨z_in0 (zc_9 _ (List.mem_of_getElem? (i := 71) rfl)) rfl, z_in0 (zc_1 _ (List.mem_of_getElem? (i := 14) rfl)) rfl, by decide +kernel, by decide +kernel, by decide +kernel, by decide +kernel⟩
theorem ci_X12_isStanding : Cond.instanceMethod (yN m_X12_isStanding) ∈ z_T := z_in0 (zc_9 _ (List.mem_of_getElem? (i := 70) rfl)) rfl
theorem cv_X12_isStanding : Cond.selects (yN m_X12_isStanding).cls (yN m_X12_isStanding) (yN m_X12_isStanding) ∈ z_T := z_in0 (zp_8 _ (List.mem_of_getElem? (i := 2) rfl)) rfl
def m_X12_seen : zY := (zR12, ⟨zR12, "seen", "(IIZ)I"⟩, prog_14_method_96_code, 4, some .int, [])
theorem ck_X12_seen : zCk m_X12_seen 3 := ⟨z_in0 (zc_9 _ (List.mem_of_getElem? (i := 67) rfl)) rfl, z_in0 (zc_1 _ (List.mem_of_getElem? (i := 14) rfl)) rfl, by decide +kernel, by decide +kernel, by decide +kernel, by decide +kernel⟩
theorem ci_X12_seen : Cond.instanceMethod (yN m_X12_seen) ∈ z_T := z_in0 (zc_9 _ (List.mem_of_getElem? (i := 65) rfl)) rfl
theorem cv_X12_seen : Cond.selects (yN m_X12_seen).cls (yN m_X12_seen) (yN m_X12_seen) ∈ z_T := z_in0 (zc_9 _ (List.mem_of_getElem? (i := 66) rfl)) rfl
def m_X12_guessBy : zY := (zR12, ⟨zR12, "guessBy", "(II)I"⟩, prog_14_method_97_code, 5, some .int, [])
theorem ck_X12_guessBy : zCk m_X12_guessBy 2 := ⟨z_in0 (zc_9 _ (List.mem_of_getElem? (i := 91) rfl)) rfl, z_in0 (zc_1 _ (List.mem_of_getElem? (i := 14) rfl)) rfl, by decide +kernel, by decide +kernel, by decide +kernel, by decide +kernel⟩
theorem ci_X12_guessBy : Cond.instanceMethod (yN m_X12_guessBy) ∈ z_T := z_in0 (zc_9 _ (List.mem_of_getElem? (i := 90) rfl)) rfl
theorem cv_X12_guessBy : Cond.selects (yN m_X12_guessBy).cls (yN m_X12_guessBy) (yN m_X12_guessBy) ∈ z_T := z_in0 (zp_8 _ (List.mem_of_getElem? (i := 6) rfl)) rfl
def m_X12_guess : zY := (zR12, ⟨zR12, "guess", "(IIZ)I"⟩, prog_14_method_98_code, 4, some .int, [])
theorem ck_X12_guess : zCk m_X12_guess 3 := ⟨z_in0 (zc_9 _ (List.mem_of_getElem? (i := 87) rfl)) rfl, z_in0 (zc_1 _ (List.mem_of_getElem? (i := 14) rfl)) rfl, by decide +kernel, by decide +kernel, by decide +kernel, by decide +kernel⟩
theorem ci_X12_guess : Cond.instanceMethod (yN m_X12_guess) ∈ z_T := z_in0 (zc_9 _ (List.mem_of_getElem? (i := 85) rfl)) rfl
theorem cv_X12_guess : Cond.selects (yN m_X12_guess).cls (yN m_X12_guess) (yN m_X12_guess) ∈ z_T := z_in0 (zc_9 _ (List.mem_of_getElem? (i := 86) rfl)) rfl
def m_X12_layNone : zY := (zR12, ⟨zR12, "layNone", "()V"⟩, prog_14_method_99_code, 2, none, [])
theorem ck_X12_layNone : zCk m_X12_layNone 0 := ⟨z_in0 (zc_9 _ (List.mem_of_getElem? (i := 99) rfl)) rfl, z_in0 (zc_1 _ (List.mem_of_getElem? (i := 14) rfl)) rfl, by decide +kernel, by decide +kernel, by decide +kernel, by decide +kernel⟩
theorem ci_X12_layNone : Cond.instanceMethod (yN m_X12_layNone) ∈ z_T := z_in0 (zc_9 _ (List.mem_of_getElem? (i := 98) rfl)) rfl
theorem cv_X12_layNone : Cond.selects (yN m_X12_layNone).cls (yN m_X12_layNone) (yN m_X12_layNone) ∈ z_T := z_in0 (zp_8 _ (List.mem_of_getElem? (i := 7) rfl)) rfl
def m_X12_guessNow : zY := (zR12, ⟨zR12, "guessNow", "(IIZ)I"⟩, prog_14_method_100_code, 4, some .int, [])
theorem ck_X12_guessNow : zCk m_X12_guessNow 3 := ⟨z_in0 (zc_9 _ (List.mem_of_getElem? (i := 103) rfl)) rfl, z_in0 (zc_1 _ (List.mem_of_getElem? (i := 14) rfl)) rfl, by decide +kernel, by decide +kernel, by decide +kernel, by decide +kernel⟩
theorem ci_X12_guessNow : Cond.instanceMethod (yN m_X12_guessNow) ∈ z_T := z_in0 (zc_9 _ (List.mem_of_getElem? (i := 102) rfl)) rfl
theorem cv_X12_guessNow : Cond.selects (yN m_X12_guessNow).cls (yN m_X12_guessNow) (yN m_X12_guessNow) ∈ z_T := z_in0 (zp_8 _ (List.mem_of_getElem? (i := 8) rfl)) rfl
def m_X12_known : zY := (zR12, ⟨zR12, "known", "(IZ)I"⟩, prog_14_method_101_code, 4, some .int, [])
theorem ck_X12_known : zCk m_X12_known 2 := ⟨z_in0 (zc_9 _ (List.mem_of_getElem? (i := 95) rfl)) rfl, z_in0 (zc_1 _ (List.mem_of_getElem? (i := 14) rfl)) rfl, by decide +kernel, by decide +kernel, by decide +kernel, by decide +kernel⟩
theorem ci_X12_known : Cond.instanceMethod (yN m_X12_known) ∈ z_T := z_in0 (zc_9 _ (List.mem_of_getElem? (i := 93) rfl)) rfl
theorem cv_X12_known : Cond.selects (yN m_X12_known).cls (yN m_X12_known) (yN m_X12_known) ∈ z_T := z_in0 (zc_9 _ (List.mem_of_getElem? (i := 94) rfl)) rfl
def m_X12_all : zY := (zR12, ⟨zR12, "all", "(Z)I"⟩, prog_14_method_102_code, 5, some .int, [])
theorem ck_X12_all : zCk m_X12_all 1 := ⟨z_in0 (zc_9 _ (List.mem_of_getElem? (i := 107) rfl)) rfl, z_in0 (zc_1 _ (List.mem_of_getElem? (i := 14) rfl)) rfl, by decide +kernel, by decide +kernel, by decide +kernel, by decide +kernel⟩
theorem ci_X12_all : Cond.instanceMethod (yN m_X12_all) ∈ z_T := z_in0 (zc_9 _ (List.mem_of_getElem? (i := 105) rfl)) rfl
theorem cv_X12_all : Cond.selects (yN m_X12_all).cls (yN m_X12_all) (yN m_X12_all) ∈ z_T := z_in0 (zc_9 _ (List.mem_of_getElem? (i := 106) rfl)) rfl
def m_X12_isTold : zY := (zR12, ⟨zR12, "isTold", "(I)Z"⟩, prog_14_method_103_code, 4, some .boolean, [])
theorem ck_X12_isTold : zCk m_X12_isTold 1 := ⟨z_in0 (zc_9 _ (List.mem_of_getElem? (i := 115) rfl)) rfl, z_in0 (zc_1 _ (List.mem_of_getElem? (i := 14) rfl)) rfl, by decide +kernel, by decide +kernel, by decide +kernel, by decide +kernel⟩
theorem ci_X12_isTold : Cond.instanceMethod (yN m_X12_isTold) ∈ z_T := z_in0 (zc_9 _ (List.mem_of_getElem? (i := 114) rfl)) rfl
theorem cv_X12_isTold : Cond.selects (yN m_X12_isTold).cls (yN m_X12_isTold) (yN m_X12_isTold) ∈ z_T := z_in0 (zp_8 _ (List.mem_of_getElem? (i := 9) rfl)) rfl
def m_X12_voyage : zY := (zR12, ⟨zR12, "voyage", "(Z)I"⟩, prog_14_method_104_code, 8, some .int, [])
theorem ck_X12_voyage : zCk m_X12_voyage 1 := ⟨z_in0 (zc_9 _ (List.mem_of_getElem? (i := 111) rfl)) rfl, z_in0 (zc_1 _ (List.mem_of_getElem? (i := 14) rfl)) rfl, by decide +kernel, by decide +kernel, by decide +kernel, by decide +kernel⟩
theorem ci_X12_voyage : Cond.instanceMethod (yN m_X12_voyage) ∈ z_T := z_in0 (zc_9 _ (List.mem_of_getElem? (i := 109) rfl)) rfl
theorem cv_X12_voyage : Cond.selects (yN m_X12_voyage).cls (yN m_X12_voyage) (yN m_X12_voyage) ∈ z_T := z_in0 (zc_9 _ (List.mem_of_getElem? (i := 110) rfl)) rfl
def m_X12_moves : zY := (zR12, ⟨zR12, "moves", "([IIZ)I"⟩, prog_14_method_105_code, 4, some .int, [])
theorem ck_X12_moves : zCk m_X12_moves 3 := ⟨z_in0 (zc_9 _ (List.mem_of_getElem? (i := 127) rfl)) rfl, z_in0 (zc_1 _ (List.mem_of_getElem? (i := 14) rfl)) rfl, by decide +kernel, by decide +kernel, by decide +kernel, by decide +kernel⟩
theorem ci_X12_moves : Cond.instanceMethod (yN m_X12_moves) ∈ z_T := z_in0 (zc_9 _ (List.mem_of_getElem? (i := 126) rfl)) rfl
theorem cv_X12_moves : Cond.selects (yN m_X12_moves).cls (yN m_X12_moves) (yN m_X12_moves) ∈ z_T := z_in0 (zp_8 _ (List.mem_of_getElem? (i := 11) rfl)) rfl
def m_X12_movesAll : zY := (zR12, ⟨zR12, "movesAll", "([IZ)V"⟩, prog_14_method_106_code, 5, none, [])
theorem ck_X12_movesAll : zCk m_X12_movesAll 2 := ⟨z_in0 (zc_9 _ (List.mem_of_getElem? (i := 123) rfl)) rfl, z_in0 (zc_1 _ (List.mem_of_getElem? (i := 14) rfl)) rfl, by decide +kernel, by decide +kernel, by decide +kernel, by decide +kernel⟩
theorem ci_X12_movesAll : Cond.instanceMethod (yN m_X12_movesAll) ∈ z_T := z_in0 (zc_9 _ (List.mem_of_getElem? (i := 122) rfl)) rfl
theorem cv_X12_movesAll : Cond.selects (yN m_X12_movesAll).cls (yN m_X12_movesAll) (yN m_X12_movesAll) ∈ z_T := z_in0 (zp_8 _ (List.mem_of_getElem? (i := 10) rfl)) rfl
def m_X12_image : zY := (zR12, ⟨zR12, "image", "()I"⟩, prog_14_method_107_code, 1, some .int, [])
theorem ck_X12_image : zCk m_X12_image 0 := ⟨z_in0 (zc_9 _ (List.mem_of_getElem? (i := 119) rfl)) rfl, z_in0 (zc_1 _ (List.mem_of_getElem? (i := 14) rfl)) rfl, by decide +kernel, by decide +kernel, by decide +kernel, by decide +kernel⟩
theorem ci_X12_image : Cond.instanceMethod (yN m_X12_image) ∈ z_T := z_in0 (zc_9 _ (List.mem_of_getElem? (i := 117) rfl)) rfl
theorem cv_X12_image : Cond.selects (yN m_X12_image).cls (yN m_X12_image) (yN m_X12_image) ∈ z_T := z_in0 (zc_9 _ (List.mem_of_getElem? (i := 118) rfl)) rfl
def m_X12_restore : zY := (zR12, ⟨zR12, "restore", "()I"⟩, prog_14_method_108_code, 1, some .int, [])
theorem ck_X12_restore : zCk m_X12_restore 0 := ⟨z_in0 (zc_9 _ (List.mem_of_getElem? (i := 131) rfl)) rfl, z_in0 (zc_1 _ (List.mem_of_getElem? (i := 14) rfl)) rfl, by decide +kernel, by decide +kernel, by decide +kernel, by decide +kernel⟩
theorem ci_X12_restore : Cond.instanceMethod (yN m_X12_restore) ∈ z_T := z_in0 (zc_9 _ (List.mem_of_getElem? (i := 129) rfl)) rfl
theorem cv_X12_restore : Cond.selects (yN m_X12_restore).cls (yN m_X12_restore) (yN m_X12_restore) ∈ z_T := z_in0 (zc_9 _ (List.mem_of_getElem? (i := 130) rfl)) rfl
def m_X12_count : zY := (zR12, ⟨zR12, "count", "(I)I"⟩, prog_14_method_109_code, 2, some .int, [])
theorem ck_X12_count : zCk m_X12_count 1 := ⟨z_in0 (zc_9 _ (List.mem_of_getElem? (i := 135) rfl)) rfl, z_in0 (zc_1 _ (List.mem_of_getElem? (i := 14) rfl)) rfl, by decide +kernel, by decide +kernel, by decide +kernel, by decide +kernel⟩
theorem ci_X12_count : Cond.instanceMethod (yN m_X12_count) ∈ z_T := z_in0 (zc_9 _ (List.mem_of_getElem? (i := 133) rfl)) rfl
theorem cv_X12_count : Cond.selects (yN m_X12_count).cls (yN m_X12_count) (yN m_X12_count) ∈ z_T := z_in0 (zc_9 _ (List.mem_of_getElem? (i := 134) rfl)) rfl
def m_JI_bitCount : zY := ("java/lang/Integer", ⟨"java/lang/Integer", "bitCount", "(I)I"⟩, prog_21_method_49_code, 1, some .int, [])
theorem ck_JI_bitCount : zCk m_JI_bitCount 1 := ⟨z_in0 (zc_2 _ (List.mem_of_getElem? (i := 214) rfl)) rfl, z_in0 (zc_1 _ (List.mem_of_getElem? (i := 25) rfl)) rfl, by decide +kernel, by decide +kernel, by decide +kernel, by decide +kernel⟩
theorem cs_JI_bitCount : Cond.static (yN m_JI_bitCount) ∈ z_T := z_in0 (zc_2 _ (List.mem_of_getElem? (i := 213) rfl)) rfl
def m_JJ_bitCount : zY := ("java/lang/Long", ⟨"java/lang/Long", "bitCount", "(J)I"⟩, prog_22_method_50_code, 2, some .int, [])
theorem ck_JJ_bitCount : zCk m_JJ_bitCount 1 := ⟨z_in0 (zc_3 _ (List.mem_of_getElem? (i := 119) rfl)) rfl, z_in0 (zc_1 _ (List.mem_of_getElem? (i := 28) rfl)) rfl, by decide +kernel, by decide +kernel, by decide +kernel, by decide +kernel⟩
theorem cs_JJ_bitCount : Cond.static (yN m_JJ_bitCount) ∈ z_T := z_in0 (zc_3 _ (List.mem_of_getElem? (i := 118) rfl)) rfl
def m_JS_length : zY := ("java/lang/String", ⟨"java/lang/String", "length", "()I"⟩, prog_25_method_54_code, 1, some .int, [])
theorem ck_JS_length : zCk m_JS_length 0 := ⟨z_in0 (zc_4 _ (List.mem_of_getElem? (i := 120) rfl)) rfl, z_in0 (zc_1 _ (List.mem_of_getElem? (i := 20) rfl)) rfl, by decide +kernel, by decide +kernel, by decide +kernel, by decide +kernel⟩
theorem ci_JS_length : Cond.instanceMethod (yN m_JS_length) ∈ z_T := z_in0 (zc_4 _ (List.mem_of_getElem? (i := 118) rfl)) rfl
theorem cv_JS_length : Cond.selects (yN m_JS_length).cls (yN m_JS_length) (yN m_JS_length) ∈ z_T := z_in0 (zc_4 _ (List.mem_of_getElem? (i := 119) rfl)) rfl
def m_JS_charAt : zY := ("java/lang/String", ⟨"java/lang/String", "charAt", "(I)C"⟩, prog_25_method_56_code, 2, some .char, [])
theorem ck_JS_charAt : zCk m_JS_charAt 1 := ⟨z_in0 (zc_4 _ (List.mem_of_getElem? (i := 130) rfl)) rfl, z_in0 (zc_1 _ (List.mem_of_getElem? (i := 20) rfl)) rfl, by decide +kernel, by decide +kernel, by decide +kernel, by decide +kernel⟩
theorem ci_JS_charAt : Cond.instanceMethod (yN m_JS_charAt) ∈ z_T := z_in0 (zc_4 _ (List.mem_of_getElem? (i := 128) rfl)) rfl
theorem cv_JS_charAt : Cond.selects (yN m_JS_charAt).cls (yN m_JS_charAt) (yN m_JS_charAt) ∈ z_T := z_in0 (zc_4 _ (List.mem_of_getElem? (i := 129) rfl)) rfl
def m_JS_coder : zY := ("java/lang/String", ⟨"java/lang/String", "coder", "()B"⟩, prog_25_method_152_code, 1, some .byte, [])
theorem ck_JS_coder : zCk m_JS_coder 0 := ⟨z_in0 (zc_4 _ (List.mem_of_getElem? (i := 124) rfl)) rfl, z_in0 (zc_1 _ (List.mem_of_getElem? (i := 20) rfl)) rfl, by decide +kernel, by decide +kernel, by decide +kernel, by decide +kernel⟩
theorem ci_JS_coder : Cond.instanceMethod (yN m_JS_coder) ∈ z_T := z_in0 (zc_4 _ (List.mem_of_getElem? (i := 122) rfl)) rfl
theorem cv_JS_coder : Cond.selects (yN m_JS_coder).cls (yN m_JS_coder) (yN m_JS_coder) ∈ z_T := z_in0 (zc_4 _ (List.mem_of_getElem? (i := 123) rfl)) rfl
def m_JS_isLatin1 : zY := ("java/lang/String", ⟨"java/lang/String", "isLatin1", "()Z"⟩, prog_25_method_154_code, 1, some .boolean, [])
theorem ck_JS_isLatin1 : zCk m_JS_isLatin1 0 := ⟨z_in0 (zc_4 _ (List.mem_of_getElem? (i := 134) rfl)) rfl, z_in0 (zc_1 _ (List.mem_of_getElem? (i := 20) rfl)) rfl, by decide +kernel, by decide +kernel, by decide +kernel, by decide +kernel⟩
theorem ci_JS_isLatin1 : Cond.instanceMethod (yN m_JS_isLatin1) ∈ z_T := z_in0 (zc_4 _ (List.mem_of_getElem? (i := 132) rfl)) rfl
theorem cv_JS_isLatin1 : Cond.selects (yN m_JS_isLatin1).cls (yN m_JS_isLatin1) (yN m_JS_isLatin1) ∈ z_T := z_in0 (zc_4 _ (List.mem_of_getElem? (i := 133) rfl)) rfl
def m_JS_checkIndex : zY := ("java/lang/String", ⟨"java/lang/String", "checkIndex", "(II)V"⟩, prog_25_method_155_code, 2, none, [])
theorem ck_JS_checkIndex : zCk m_JS_checkIndex 2 := ⟨z_in0 (zc_4 _ (List.mem_of_getElem? (i := 140) rfl)) rfl, z_in0 (zc_1 _ (List.mem_of_getElem? (i := 20) rfl)) rfl, by decide +kernel, by decide +kernel, by decide +kernel, by decide +kernel⟩
theorem cs_JS_checkIndex : Cond.static (yN m_JS_checkIndex) ∈ z_T := z_in0 (zc_4 _ (List.mem_of_getElem? (i := 139) rfl)) rfl
def m_JL_charAt : zY := ("java/lang/StringLatin1", ⟨"java/lang/StringLatin1", "charAt", "([BI)C"⟩, prog_26_method_2_code, 2, some .char, [])
theorem ck_JL_charAt : zCk m_JL_charAt 2 := ⟨z_in0 (zc_4 _ (List.mem_of_getElem? (i := 137) rfl)) rfl, z_in0 (zc_1 _ (List.mem_of_getElem? (i := 21) rfl)) rfl, by decide +kernel, by decide +kernel, by decide +kernel, by decide +kernel⟩
theorem cs_JL_charAt : Cond.static (yN m_JL_charAt) ∈ z_T := z_in0 (zc_4 _ (List.mem_of_getElem? (i := 136) rfl)) rfl
def m_JA_fill : zY := ("java/util/Arrays", ⟨"java/util/Arrays", "fill", "([JJ)V"⟩, prog_32_method_101_code, 5, none, [])
theorem ck_JA_fill : zCk m_JA_fill 2 := ⟨z_in0 (zc_3 _ (List.mem_of_getElem? (i := 86) rfl)) rfl, z_in0 (zc_1 _ (List.mem_of_getElem? (i := 13) rfl)) rfl, by decide +kernel, by decide +kernel, by decide +kernel, by decide +kernel⟩
theorem cs_JA_fill : Cond.static (yN m_JA_fill) ∈ z_T := z_in0 (zc_3 _ (List.mem_of_getElem? (i := 85) rfl)) rfl
def m_JA_fill2 : zY := ("java/util/Arrays", ⟨"java/util/Arrays", "fill", "([II)V"⟩, prog_32_method_103_code, 4, none, [])
theorem ck_JA_fill2 : zCk m_JA_fill2 2 := ⟨z_in0 (zc_2 _ (List.mem_of_getElem? (i := 98) rfl)) rfl, z_in0 (zc_1 _ (List.mem_of_getElem? (i := 13) rfl)) rfl, by decide +kernel, by decide +kernel, by decide +kernel, by decide +kernel⟩
theorem cs_JA_fill2 : Cond.static (yN m_JA_fill2) ∈ z_T := z_in0 (zc_2 _ (List.mem_of_getElem? (i := 97) rfl)) rfl
def m_JP_checkIndex : zY := ("jdk/internal/util/Preconditions", ⟨"jdk/internal/util/Preconditions", "checkIndex", "(IILjava/util/function/BiFunction;)I"⟩, prog_34_method_11_code, 3, some .int, [])
theorem ck_JP_checkIndex : zCk m_JP_checkIndex 3 := ⟨z_in0 (zc_4 _ (List.mem_of_getElem? (i := 145) rfl)) rfl, z_in0 (zc_1 _ (List.mem_of_getElem? (i := 22) rfl)) rfl, by decide +kernel, by decide +kernel, by decide +kernel, by decide +kernel⟩
theorem cs_JP_checkIndex : Cond.static (yN m_JP_checkIndex) ∈ z_T := z_in0 (zc_4 _ (List.mem_of_getElem? (i := 144) rfl)) rfl
def m_L_alphabet : zY := (zRL, ⟨zRL, "alphabet", "(LCoveredSigns;I[J)I"⟩, method_3_code, 4, some .int, [(0, 9, 12, 13)])
theorem ck_L_alphabet : zCk m_L_alphabet 3 := ⟨z_in0 (zc_4 _ (List.mem_of_getElem? (i := 0) rfl)) rfl, z_in0 (zc_1 _ (List.mem_of_getElem? (i := 0) rfl)) rfl, by decide +kernel, by decide +kernel, by decide +kernel, by decide +kernel⟩
theorem cs_L_alphabet : Cond.static (yN m_L_alphabet) ∈ z_T := z_in0 (zc_3 _ (List.mem_of_getElem? (i := 239) rfl)) rfl
def m_L_rule : zY := (zRL, ⟨zRL, "rule", "(LCoveredSigns;I[J)I"⟩, method_4_code, 4, some .int, [(0, 9, 12, 13)])
theorem ck_L_rule : zCk m_L_rule 3 := ⟨z_in0 (zc_5 _ (List.mem_of_getElem? (i := 37) rfl)) rfl, z_in0 (zc_1 _ (List.mem_of_getElem? (i := 0) rfl)) rfl, by decide +kernel, by decide +kernel, by decide +kernel, by decide +kernel⟩
theorem cs_L_rule : Cond.static (yN m_L_rule) ∈ z_T := z_in0 (zc_5 _ (List.mem_of_getElem? (i := 36) rfl)) rfl
def m_L_told : zY := (zRL, ⟨zRL, "told", "(LCoveredSigns;I[J)I"⟩, method_5_code, 4, some .int, [(0, 9, 12, 13)])
theorem ck_L_told : zCk m_L_told 3 := ⟨z_in0 (zc_5 _ (List.mem_of_getElem? (i := 157) rfl)) rfl, z_in0 (zc_1 _ (List.mem_of_getElem? (i := 0) rfl)) rfl, by decide +kernel, by decide +kernel, by decide +kernel, by decide +kernel⟩
theorem cs_L_told : Cond.static (yN m_L_told) ∈ z_T := z_in0 (zc_5 _ (List.mem_of_getElem? (i := 156) rfl)) rfl
def m_L_sign : zY := (zRL, ⟨zRL, "sign", "(LCoveredSigns;I[J)I"⟩, method_6_code, 4, some .int, [(0, 9, 12, 24)])
theorem ck_L_sign : zCk m_L_sign 3 := ⟨z_in0 (zc_5 _ (List.mem_of_getElem? (i := 165) rfl)) rfl, z_in0 (zc_1 _ (List.mem_of_getElem? (i := 0) rfl)) rfl, by decide +kernel, by decide +kernel, by decide +kernel, by decide +kernel⟩
theorem cs_L_sign : Cond.static (yN m_L_sign) ∈ z_T := z_in0 (zc_5 _ (List.mem_of_getElem? (i := 164) rfl)) rfl
def m_L_family : zY := (zRL, ⟨zRL, "family", "(LCoveredSigns;I[J)I"⟩, method_7_code, 4, some .int, [(0, 9, 12, 24)])
theorem ck_L_family : zCk m_L_family 3 := ⟨z_in0 (zc_5 _ (List.mem_of_getElem? (i := 193) rfl)) rfl, z_in0 (zc_1 _ (List.mem_of_getElem? (i := 0) rfl)) rfl, by decide +kernel, by decide +kernel, by decide +kernel, by decide +kernel⟩
theorem cs_L_family : Cond.static (yN m_L_family) ∈ z_T := z_in0 (zc_5 _ (List.mem_of_getElem? (i := 192) rfl)) rfl
def m_L_word : zY := (zRL, ⟨zRL, "word", "(LCoveredSigns;II[J)I"⟩, method_8_code, 5, some .int, [(0, 10, 13, 33), (0, 10, 17, 13)])
theorem ck_L_word : zCk m_L_word 4 := ⟨z_in0 (zc_5 _ (List.mem_of_getElem? (i := 201) rfl)) rfl, z_in0 (zc_1 _ (List.mem_of_getElem? (i := 0) rfl)) rfl, by decide +kernel, by decide +kernel, by decide +kernel, by decide +kernel⟩
theorem cs_L_word : Cond.static (yN m_L_word) ∈ z_T := z_in0 (zc_5 _ (List.mem_of_getElem? (i := 200) rfl)) rfl
def m_L_cover : zY := (zRL, ⟨zRL, "cover", "(LCoveredSigns;I[J)I"⟩, method_9_code, 4, some .int, [(0, 9, 12, 33)])
theorem ck_L_cover : zCk m_L_cover 3 := ⟨z_in0 (zc_5 _ (List.mem_of_getElem? (i := 226) rfl)) rfl, z_in0 (zc_1 _ (List.mem_of_getElem? (i := 0) rfl)) rfl, by decide +kernel, by decide +kernel, by decide +kernel, by decide +kernel⟩
theorem cs_L_cover : Cond.static (yN m_L_cover) ∈ z_T := z_in0 (zc_5 _ (List.mem_of_getElem? (i := 225) rfl)) rfl
def m_L_dirt : zY := (zRL, ⟨zRL, "dirt", "(LCoveredSigns;I[J)I"⟩, method_10_code, 4, some .int, [(0, 9, 12, 13)])
theorem ck_L_dirt : zCk m_L_dirt 3 := ⟨z_in0 (zc_5 _ (List.mem_of_getElem? (i := 239) rfl)) rfl, z_in0 (zc_1 _ (List.mem_of_getElem? (i := 0) rfl)) rfl, by decide +kernel, by decide +kernel, by decide +kernel, by decide +kernel⟩
theorem cs_L_dirt : Cond.static (yN m_L_dirt) ∈ z_T := z_in0 (zc_5 _ (List.mem_of_getElem? (i := 238) rfl)) rfl
def m_L_confused : zY := (zRL, ⟨zRL, "confused", "(LCoveredSigns;II[J)I"⟩, method_11_code, 5, some .int, [(0, 10, 13, 24), (0, 10, 17, 13)])
theorem ck_L_confused : zCk m_L_confused 4 := ⟨z_in0 (zc_6 _ (List.mem_of_getElem? (i := 7) rfl)) rfl, z_in0 (zc_1 _ (List.mem_of_getElem? (i := 0) rfl)) rfl, by decide +kernel, by decide +kernel, by decide +kernel, by decide +kernel⟩
theorem cs_L_confused : Cond.static (yN m_L_confused) ∈ z_T := z_in0 (zc_6 _ (List.mem_of_getElem? (i := 6) rfl)) rfl
def m_L_blind : zY := (zRL, ⟨zRL, "blind", "(LCoveredSigns;I[J)I"⟩, method_12_code, 4, some .int, [(0, 9, 12, 13)])
theorem ck_L_blind : zCk m_L_blind 3 := ⟨z_in0 (zc_6 _ (List.mem_of_getElem? (i := 16) rfl)) rfl, z_in0 (zc_1 _ (List.mem_of_getElem? (i := 0) rfl)) rfl, by decide +kernel, by decide +kernel, by decide +kernel, by decide +kernel⟩
theorem cs_L_blind : Cond.static (yN m_L_blind) ∈ z_T := z_in0 (zc_6 _ (List.mem_of_getElem? (i := 15) rfl)) rfl
def m_L_may : zY := (zRL, ⟨zRL, "may", "(LCoveredSigns;II[J)I"⟩, method_13_code, 5, some .int, [(0, 10, 13, 33), (0, 10, 17, 13)])
theorem ck_L_may : zCk m_L_may 4 := ⟨z_in0 (zc_6 _ (List.mem_of_getElem? (i := 39) rfl)) rfl, z_in0 (zc_1 _ (List.mem_of_getElem? (i := 0) rfl)) rfl, by decide +kernel, by decide +kernel, by decide +kernel, by decide +kernel⟩
theorem cs_L_may : Cond.static (yN m_L_may) ∈ z_T := z_in0 (zc_6 _ (List.mem_of_getElem? (i := 38) rfl)) rfl
def m_L_read : zY := (zRL, ⟨zRL, "read", "(LCoveredSigns;II[J)I"⟩, method_14_code, 5, some .int, [(0, 10, 13, 33), (0, 10, 17, 13)])
theorem ck_L_read : zCk m_L_read 4 := ⟨z_in0 (zc_6 _ (List.mem_of_getElem? (i := 51) rfl)) rfl, z_in0 (zc_1 _ (List.mem_of_getElem? (i := 0) rfl)) rfl, by decide +kernel, by decide +kernel, by decide +kernel, by decide +kernel⟩
theorem cs_L_read : Cond.static (yN m_L_read) ∈ z_T := z_in0 (zc_6 _ (List.mem_of_getElem? (i := 50) rfl)) rfl
def m_L_nearest : zY := (zRL, ⟨zRL, "nearest", "(LCoveredSigns;II[J)I"⟩, method_15_code, 5, some .int, [(0, 10, 13, 33), (0, 10, 17, 13)])
theorem ck_L_nearest : zCk m_L_nearest 4 := ⟨z_in0 (zc_6 _ (List.mem_of_getElem? (i := 65) rfl)) rfl, z_in0 (zc_1 _ (List.mem_of_getElem? (i := 0) rfl)) rfl, by decide +kernel, by decide +kernel, by decide +kernel, by decide +kernel⟩
theorem cs_L_nearest : Cond.static (yN m_L_nearest) ∈ z_T := z_in0 (zc_6 _ (List.mem_of_getElem? (i := 64) rfl)) rfl
def m_L_part : zY := (zRL, ⟨zRL, "part", "(LCoveredSigns;II[J)I"⟩, method_16_code, 5, some .int, [(0, 10, 13, 33), (0, 10, 17, 13)])
theorem ck_L_part : zCk m_L_part 4 := ⟨z_in0 (zc_6 _ (List.mem_of_getElem? (i := 76) rfl)) rfl, z_in0 (zc_1 _ (List.mem_of_getElem? (i := 0) rfl)) rfl, by decide +kernel, by decide +kernel, by decide +kernel, by decide +kernel⟩
theorem cs_L_part : Cond.static (yN m_L_part) ∈ z_T := z_in0 (zc_6 _ (List.mem_of_getElem? (i := 75) rfl)) rfl
def m_L_least : zY := (zRL, ⟨zRL, "least", "(LCoveredSigns;II[J)I"⟩, method_17_code, 5, some .int, [(0, 10, 13, 24), (0, 10, 17, 13)])
theorem ck_L_least : zCk m_L_least 4 := ⟨z_in0 (zc_6 _ (List.mem_of_getElem? (i := 87) rfl)) rfl, z_in0 (zc_1 _ (List.mem_of_getElem? (i := 0) rfl)) rfl, by decide +kernel, by decide +kernel, by decide +kernel, by decide +kernel⟩
theorem cs_L_least : Cond.static (yN m_L_least) ∈ z_T := z_in0 (zc_6 _ (List.mem_of_getElem? (i := 86) rfl)) rfl
def m_L_strokes : zY := (zRL, ⟨zRL, "strokes", "(LCoveredSigns;I[J)I"⟩, method_18_code, 4, some .int, [(0, 9, 12, 24)])
theorem ck_L_strokes : zCk m_L_strokes 3 := ⟨z_in0 (zc_6 _ (List.mem_of_getElem? (i := 109) rfl)) rfl, z_in0 (zc_1 _ (List.mem_of_getElem? (i := 0) rfl)) rfl, by decide +kernel, by decide +kernel, by decide +kernel, by decide +kernel⟩
theorem cs_L_strokes : Cond.static (yN m_L_strokes) ∈ z_T := z_in0 (zc_6 _ (List.mem_of_getElem? (i := 108) rfl)) rfl
def m_L_akin : zY := (zRL, ⟨zRL, "akin", "(LCoveredSigns;II[J)I"⟩, method_19_code, 5, some .int, [(0, 10, 13, 13)])
theorem ck_L_akin : zCk m_L_akin 4 := ⟨z_in0 (zc_6 _ (List.mem_of_getElem? (i := 129) rfl)) rfl, z_in0 (zc_1 _ (List.mem_of_getElem? (i := 0) rfl)) rfl, by decide +kernel, by decide +kernel, by decide +kernel, by decide +kernel⟩
theorem cs_L_akin : Cond.static (yN m_L_akin) ∈ z_T := z_in0 (zc_6 _ (List.mem_of_getElem? (i := 128) rfl)) rfl
def m_L_changed : zY := (zRL, ⟨zRL, "changed", "(LCoveredSigns;I[J)I"⟩, method_20_code, 4, some .int, [(0, 9, 12, 13)])
theorem ck_L_changed : zCk m_L_changed 3 := ⟨z_in0 (zc_6 _ (List.mem_of_getElem? (i := 142) rfl)) rfl, z_in0 (zc_1 _ (List.mem_of_getElem? (i := 0) rfl)) rfl, by decide +kernel, by decide +kernel, by decide +kernel, by decide +kernel⟩
theorem cs_L_changed : Cond.static (yN m_L_changed) ∈ z_T := z_in0 (zc_6 _ (List.mem_of_getElem? (i := 141) rfl)) rfl
def m_L_steps : zY := (zRL, ⟨zRL, "steps", "(LCoveredSigns;I[J)I"⟩, method_21_code, 4, some .int, [(0, 9, 12, 13)])
theorem ck_L_steps : zCk m_L_steps 3 := ⟨z_in0 (zc_6 _ (List.mem_of_getElem? (i := 183) rfl)) rfl, z_in0 (zc_1 _ (List.mem_of_getElem? (i := 0) rfl)) rfl, by decide +kernel, by decide +kernel, by decide +kernel, by decide +kernel⟩
theorem cs_L_steps : Cond.static (yN m_L_steps) ∈ z_T := z_in0 (zc_6 _ (List.mem_of_getElem? (i := 182) rfl)) rfl
def m_L_stand : zY := (zRL, ⟨zRL, "stand", "(LCoveredSigns;III[J)I"⟩, method_22_code, 6, some .int, [(0, 12, 15, 24), (0, 12, 19, 13)])
theorem ck_L_stand : zCk m_L_stand 5 := ⟨z_in0 (zc_6 _ (List.mem_of_getElem? (i := 206) rfl)) rfl, z_in0 (zc_1 _ (List.mem_of_getElem? (i := 0) rfl)) rfl, by decide +kernel, by decide +kernel, by decide +kernel, by decide +kernel⟩
theorem cs_L_stand : Cond.static (yN m_L_stand) ∈ z_T := z_in0 (zc_6 _ (List.mem_of_getElem? (i := 205) rfl)) rfl
def m_L_seen : zY := (zRL, ⟨zRL, "seen", "(LCoveredSigns;IIZ[J)I"⟩, method_23_code, 6, some .int, [(0, 12, 15, 33), (0, 12, 19, 13)])
theorem ck_L_seen : zCk m_L_seen 5 := ⟨z_in0 (zc_6 _ (List.mem_of_getElem? (i := 218) rfl)) rfl, z_in0 (zc_1 _ (List.mem_of_getElem? (i := 0) rfl)) rfl, by decide +kernel, by decide +kernel, by decide +kernel, by decide +kernel⟩
theorem cs_L_seen : Cond.static (yN m_L_seen) ∈ z_T := z_in0 (zc_6 _ (List.mem_of_getElem? (i := 217) rfl)) rfl
def m_L_guess : zY := (zRL, ⟨zRL, "guess", "(LCoveredSigns;IIZ[J)I"⟩, method_24_code, 6, some .int, [(0, 12, 15, 33), (0, 12, 19, 13)])
theorem ck_L_guess : zCk m_L_guess 5 := ⟨z_in0 (zc_6 _ (List.mem_of_getElem? (i := 235) rfl)) rfl, z_in0 (zc_1 _ (List.mem_of_getElem? (i := 0) rfl)) rfl, by decide +kernel, by decide +kernel, by decide +kernel, by decide +kernel⟩
theorem cs_L_guess : Cond.static (yN m_L_guess) ∈ z_T := z_in0 (zc_6 _ (List.mem_of_getElem? (i := 234) rfl)) rfl
def m_L_known : zY := (zRL, ⟨zRL, "known", "(LCoveredSigns;IZ[J)I"⟩, method_25_code, 5, some .int, [(0, 10, 13, 33)])
theorem ck_L_known : zCk m_L_known 4 := ⟨z_in0 (zc_7 _ (List.mem_of_getElem? (i := 2) rfl)) rfl, z_in0 (zc_1 _ (List.mem_of_getElem? (i := 0) rfl)) rfl, by decide +kernel, by decide +kernel, by decide +kernel, by decide +kernel⟩
theorem cs_L_known : Cond.static (yN m_L_known) ∈ z_T := z_in0 (zc_7 _ (List.mem_of_getElem? (i := 1) rfl)) rfl
theorem iz_X11 : Cond.initialized zR11 ∈ z_T := z_in0 (zc_1 _ (List.mem_of_getElem? (i := 1) rfl)) rfl
theorem iz_X8 : Cond.initialized zR8 ∈ z_T := z_in0 (zc_1 _ (List.mem_of_getElem? (i := 2) rfl)) rfl
theorem iz_X0 : Cond.initialized zR0 ∈ z_T := z_in0 (zc_1 _ (List.mem_of_getElem? (i := 3) rfl)) rfl
theorem iz_X1 : Cond.initialized zR1 ∈ z_T := z_in0 (zc_1 _ (List.mem_of_getElem? (i := 4) rfl)) rfl
theorem iz_X3 : Cond.initialized zR3 ∈ z_T := z_in0 (zc_1 _ (List.mem_of_getElem? (i := 5) rfl)) rfl
theorem iz_X7 : Cond.initialized zR7 ∈ z_T := z_in0 (zc_1 _ (List.mem_of_getElem? (i := 6) rfl)) rfl
theorem iz_X9 : Cond.initialized zR9 ∈ z_T := z_in0 (zc_1 _ (List.mem_of_getElem? (i := 7) rfl)) rfl
theorem iz_X10 : Cond.initialized zR10 ∈ z_T := z_in0 (zc_1 _ (List.mem_of_getElem? (i := 8) rfl)) rfl
theorem iz_X6 : Cond.initialized zR6 ∈ z_T := z_in0 (zc_1 _ (List.mem_of_getElem? (i := 9) rfl)) rfl
theorem iz_X4 : Cond.initialized zR4 ∈ z_T := z_in0 (zc_1 _ (List.mem_of_getElem? (i := 10) rfl)) rfl
theorem iz_X2 : Cond.initialized zR2 ∈ z_T := z_in0 (zc_1 _ (List.mem_of_getElem? (i := 11) rfl)) rfl
theorem iz_X5 : Cond.initialized zR5 ∈ z_T := z_in0 (zc_1 _ (List.mem_of_getElem? (i := 12) rfl)) rfl
theorem iz_X12 : Cond.initialized zR12 ∈ z_T := z_in0 (zc_1 _ (List.mem_of_getElem? (i := 14) rfl)) rfl
theorem cl_L_8 : Cond.classLink zRL 8 zR11 ∈ z_T := z_in0 (zc_1 _ (List.mem_of_getElem? (i := 29) rfl)) rfl
theorem it_X11 : Cond.instantiable zR11 19 ∈ z_T := z_in0 (zc_1 _ (List.mem_of_getElem? (i := 30) rfl)) rfl
theorem ml_L_89 : Cond.methodLink zRL 89 (yN m_X11_init) ∈ z_T := z_in0 (zc_1 _ (List.mem_of_getElem? (i := 31) rfl)) rfl
theorem ml_X11_3 : Cond.methodLink zR11 3 objectInit ∈ z_T := z_in0 (zc_1 _ (List.mem_of_getElem? (i := 34) rfl)) rfl
theorem cl_X11_13 : Cond.classLink zR11 13 zR8 ∈ z_T := z_in0 (zc_1 _ (List.mem_of_getElem? (i := 37) rfl)) rfl
theorem it_X8 : Cond.instantiable zR8 5 ∈ z_T := z_in0 (zc_1 _ (List.mem_of_getElem? (i := 38) rfl)) rfl
theorem ml_X11_15 : Cond.methodLink zR11 15 (yN m_X8_init) ∈ z_T := z_in0 (zc_1 _ (List.mem_of_getElem? (i := 39) rfl)) rfl
theorem ml_X8_3 : Cond.methodLink zR8 3 objectInit ∈ z_T := z_in0 (zc_1 _ (List.mem_of_getElem? (i := 42) rfl)) rfl
theorem fl_X8_15 : Cond.fieldLink zR8 15 (zT8 0).1 (zT8 0).2.1 (zT8 0).2.2.1 ∈ z_T := z_in0 (zc_1 _ (List.mem_of_getElem? (i := 43) rfl)) rfl
theorem g_X8_15 : zGf zR8 15 8 0 5 := ⟨zR8, zT8, rfl, zi8, by decide, fl_X8_15⟩
theorem p_X8_15 : zPF zR8 15 8 0 5 (.array .byte) := ⟨zR8, zT8, zt8, ⟨rfl, zi8, zt8_ok, zn8⟩, by decide, fl_X8_15, rfl, rfl, by decide +kernel⟩
theorem fl_X8_28 : Cond.fieldLink zR8 28 (zT8 1).1 (zT8 1).2.1 (zT8 1).2.2.1 ∈ z_T := z_in0 (zc_1 _ (List.mem_of_getElem? (i := 44) rfl)) rfl
theorem g_X8_28 : zGf zR8 28 8 1 5 := ⟨zR8, zT8, rfl, zi8, by decide, fl_X8_28⟩
theorem p_X8_28 : zPf zR8 28 8 1 5 .int := ⟨zR8, zT8, zt8, ⟨rfl, zi8, zt8_ok, zn8⟩, by decide, fl_X8_28, rfl, by decide +kernel⟩
theorem fl_X8_31 : Cond.fieldLink zR8 31 (zT8 2).1 (zT8 2).2.1 (zT8 2).2.2.1 ∈ z_T := z_in0 (zc_1 _ (List.mem_of_getElem? (i := 45) rfl)) rfl
theorem g_X8_31 : zGf zR8 31 8 2 5 := ⟨zR8, zT8, rfl, zi8, by decide, fl_X8_31⟩
theorem p_X8_31 : zPf zR8 31 8 2 5 .int := ⟨zR8, zT8, zt8, ⟨rfl, zi8, zt8_ok, zn8⟩, by decide, fl_X8_31, rfl, by decide +kernel⟩
theorem fl_X8_34 : Cond.fieldLink zR8 34 (zT8 3).1 (zT8 3).2.1 (zT8 3).2.2.1 ∈ z_T := z_in0 (zc_1 _ (List.mem_of_getElem? (i := 46) rfl)) rfl
theorem g_X8_34 : zGf zR8 34 8 3 5 := ⟨zR8, zT8, rfl, zi8, by decide, fl_X8_34⟩
theorem p_X8_34 : zPf zR8 34 8 3 5 .int := ⟨zR8, zT8, zt8, ⟨rfl, zi8, zt8_ok, zn8⟩, by decide, fl_X8_34, rfl, by decide +kernel⟩
theorem fl_X8_9 : Cond.fieldLink zR8 9 (zT8 4).1 (zT8 4).2.1 (zT8 4).2.2.1 ∈ z_T := z_in0 (zc_1 _ (List.mem_of_getElem? (i := 47) rfl)) rfl
theorem g_X8_9 : zGf zR8 9 8 4 5 := ⟨zR8, zT8, rfl, zi8, by decide, fl_X8_9⟩
theorem p_X8_9 : zPf zR8 9 8 4 5 .int := ⟨zR8, zT8, zt8, ⟨rfl, zi8, zt8_ok, zn8⟩, by decide, fl_X8_9, rfl, by decide +kernel⟩
theorem cl_X11_22 : Cond.classLink zR11 22 zR0 ∈ z_T := z_in0 (zc_1 _ (List.mem_of_getElem? (i := 60) rfl)) rfl
theorem it_X0 : Cond.instantiable zR0 12 ∈ z_T := z_in0 (zc_1 _ (List.mem_of_getElem? (i := 61) rfl)) rfl
theorem mn_X11_24 : Cond.methodLinkNest zR11 24 (yN m_X0_init) zR11 ∈ z_N := z_inN0 (zc_1 _ (List.mem_of_getElem? (i := 62) rfl)) rfl
theorem ml_X0_3 : Cond.methodLink zR0 3 objectInit ∈ z_T := z_in0 (zc_1 _ (List.mem_of_getElem? (i := 65) rfl)) rfl
theorem fl_X0_9 : Cond.fieldLink zR0 9 (zT0 0).1 (zT0 0).2.1 (zT0 0).2.2.1 ∈ z_T := z_in0 (zc_1 _ (List.mem_of_getElem? (i := 66) rfl)) rfl
theorem g_X0_9 : zGf zR0 9 0 0 12 := ⟨zR0, zT0, rfl, zi0, by decide, fl_X0_9⟩
theorem p_X0_9 : zPf zR0 9 0 0 12 .int := ⟨zR0, zT0, zt0, ⟨rfl, zi0, zt0_ok, zn0⟩, by decide, fl_X0_9, rfl, by decide +kernel⟩
theorem fn_X11_166 : Cond.fieldLinkNest zR11 166 (zT0 0).1 (zT0 0).2.1 (zT0 0).2.2.1 zR11 ∈ z_N := z_inN0 (zc_1 _ (List.mem_of_getElem? (i := 67) rfl)) rfl
theorem g_X11_166 : zGn zR11 166 0 0 12 := ⟨zR0, zR11, zT0, rfl, zi0, by decide, fn_X11_166⟩
theorem p_X11_166 : zPn zR11 166 0 0 12 .int := ⟨zR0, zR11, zT0, zt0, ⟨rfl, zi0, zt0_ok, zn0⟩, by decide, fn_X11_166, rfl, by decide +kernel⟩
theorem fn_X1_105 : Cond.fieldLinkNest zR1 105 (zT0 0).1 (zT0 0).2.1 (zT0 0).2.2.1 zR11 ∈ z_N := z_inN0 (zc_1 _ (List.mem_of_getElem? (i := 68) rfl)) rfl
theorem g_X1_105 : zGn zR1 105 0 0 12 := ⟨zR0, zR11, zT0, rfl, zi0, by decide, fn_X1_105⟩
theorem p_X1_105 : zPn zR1 105 0 0 12 .int := ⟨zR0, zR11, zT0, zt0, ⟨rfl, zi0, zt0_ok, zn0⟩, by decide, fn_X1_105, rfl, by decide +kernel⟩
theorem fl_X0_15 : Cond.fieldLink zR0 15 (zT0 1).1 (zT0 1).2.1 (zT0 1).2.2.1 ∈ z_T := z_in0 (zc_1 _ (List.mem_of_getElem? (i := 69) rfl)) rfl
theorem g_X0_15 : zGf zR0 15 0 1 12 := ⟨zR0, zT0, rfl, zi0, by decide, fl_X0_15⟩
theorem p_X0_15 : zPf zR0 15 0 1 12 .int := ⟨zR0, zT0, zt0, ⟨rfl, zi0, zt0_ok, zn0⟩, by decide, fl_X0_15, rfl, by decide +kernel⟩
theorem fn_X11_169 : Cond.fieldLinkNest zR11 169 (zT0 1).1 (zT0 1).2.1 (zT0 1).2.2.1 zR11 ∈ z_N := z_inN0 (zc_1 _ (List.mem_of_getElem? (i := 70) rfl)) rfl
theorem g_X11_169 : zGn zR11 169 0 1 12 := ⟨zR0, zR11, zT0, rfl, zi0, by decide, fn_X11_169⟩
theorem p_X11_169 : zPn zR11 169 0 1 12 .int := ⟨zR0, zR11, zT0, zt0, ⟨rfl, zi0, zt0_ok, zn0⟩, by decide, fn_X11_169, rfl, by decide +kernel⟩
theorem fn_X1_108 : Cond.fieldLinkNest zR1 108 (zT0 1).1 (zT0 1).2.1 (zT0 1).2.2.1 zR11 ∈ z_N := z_inN0 (zc_1 _ (List.mem_of_getElem? (i := 71) rfl)) rfl
theorem g_X1_108 : zGn zR1 108 0 1 12 := ⟨zR0, zR11, zT0, rfl, zi0, by decide, fn_X1_108⟩
theorem p_X1_108 : zPn zR1 108 0 1 12 .int := ⟨zR0, zR11, zT0, zt0, ⟨rfl, zi0, zt0_ok, zn0⟩, by decide, fn_X1_108, rfl, by decide +kernel⟩
theorem fn_X10_25 : Cond.fieldLinkNest zR10 25 (zT0 2).1 (zT0 2).2.1 (zT0 2).2.2.1 zR11 ∈ z_N := z_inN0 (zc_1 _ (List.mem_of_getElem? (i := 72) rfl)) rfl
theorem g_X10_25 : zGn zR10 25 0 2 12 := ⟨zR0, zR11, zT0, rfl, zi0, by decide, fn_X10_25⟩
theorem p_X10_25 : zPn zR10 25 0 2 12 .int := ⟨zR0, zR11, zT0, zt0, ⟨rfl, zi0, zt0_ok, zn0⟩, by decide, fn_X10_25, rfl, by decide +kernel⟩
theorem fl_X0_40 : Cond.fieldLink zR0 40 (zT0 2).1 (zT0 2).2.1 (zT0 2).2.2.1 ∈ z_T := z_in0 (zc_1 _ (List.mem_of_getElem? (i := 73) rfl)) rfl
theorem g_X0_40 : zGf zR0 40 0 2 12 := ⟨zR0, zT0, rfl, zi0, by decide, fl_X0_40⟩
theorem p_X0_40 : zPf zR0 40 0 2 12 .int := ⟨zR0, zT0, zt0, ⟨rfl, zi0, zt0_ok, zn0⟩, by decide, fl_X0_40, rfl, by decide +kernel⟩
theorem fn_X4_22 : Cond.fieldLinkNest zR4 22 (zT0 2).1 (zT0 2).2.1 (zT0 2).2.2.1 zR11 ∈ z_N := z_inN0 (zc_1 _ (List.mem_of_getElem? (i := 74) rfl)) rfl
theorem g_X4_22 : zGn zR4 22 0 2 12 := ⟨zR0, zR11, zT0, rfl, zi0, by decide, fn_X4_22⟩
theorem p_X4_22 : zPn zR4 22 0 2 12 .int := ⟨zR0, zR11, zT0, zt0, ⟨rfl, zi0, zt0_ok, zn0⟩, by decide, fn_X4_22, rfl, by decide +kernel⟩
theorem fn_X11_163 : Cond.fieldLinkNest zR11 163 (zT0 2).1 (zT0 2).2.1 (zT0 2).2.2.1 zR11 ∈ z_N := z_inN0 (zc_1 _ (List.mem_of_getElem? (i := 75) rfl)) rfl
theorem g_X11_163 : zGn zR11 163 0 2 12 := ⟨zR0, zR11, zT0, rfl, zi0, by decide, fn_X11_163⟩
theorem p_X11_163 : zPn zR11 163 0 2 12 .int := ⟨zR0, zR11, zT0, zt0, ⟨rfl, zi0, zt0_ok, zn0⟩, by decide, fn_X11_163, rfl, by decide +kernel⟩
theorem fn_X1_97 : Cond.fieldLinkNest zR1 97 (zT0 2).1 (zT0 2).2.1 (zT0 2).2.2.1 zR11 ∈ z_N := z_inN0 (zc_1 _ (List.mem_of_getElem? (i := 76) rfl)) rfl
theorem g_X1_97 : zGn zR1 97 0 2 12 := ⟨zR0, zR11, zT0, rfl, zi0, by decide, fn_X1_97⟩
theorem p_X1_97 : zPn zR1 97 0 2 12 .int := ⟨zR0, zR11, zT0, zt0, ⟨rfl, zi0, zt0_ok, zn0⟩, by decide, fn_X1_97, rfl, by decide +kernel⟩
theorem fn_X3_47 : Cond.fieldLinkNest zR3 47 (zT0 2).1 (zT0 2).2.1 (zT0 2).2.2.1 zR11 ∈ z_N := z_inN0 (zc_1 _ (List.mem_of_getElem? (i := 77) rfl)) rfl
theorem g_X3_47 : zGn zR3 47 0 2 12 := ⟨zR0, zR11, zT0, rfl, zi0, by decide, fn_X3_47⟩
theorem p_X3_47 : zPn zR3 47 0 2 12 .int := ⟨zR0, zR11, zT0, zt0, ⟨rfl, zi0, zt0_ok, zn0⟩, by decide, fn_X3_47, rfl, by decide +kernel⟩
theorem fl_X0_43 : Cond.fieldLink zR0 43 (zT0 3).1 (zT0 3).2.1 (zT0 3).2.2.1 ∈ z_T := z_in0 (zc_1 _ (List.mem_of_getElem? (i := 78) rfl)) rfl
theorem g_X0_43 : zGf zR0 43 0 3 12 := ⟨zR0, zT0, rfl, zi0, by decide, fl_X0_43⟩
theorem p_X0_43 : zPf zR0 43 0 3 12 .int := ⟨zR0, zT0, zt0, ⟨rfl, zi0, zt0_ok, zn0⟩, by decide, fl_X0_43, rfl, by decide +kernel⟩
theorem fn_X11_192 : Cond.fieldLinkNest zR11 192 (zT0 3).1 (zT0 3).2.1 (zT0 3).2.2.1 zR11 ∈ z_N := z_inN0 (zc_1 _ (List.mem_of_getElem? (i := 79) rfl)) rfl
theorem g_X11_192 : zGn zR11 192 0 3 12 := ⟨zR0, zR11, zT0, rfl, zi0, by decide, fn_X11_192⟩
theorem p_X11_192 : zPn zR11 192 0 3 12 .int := ⟨zR0, zR11, zT0, zt0, ⟨rfl, zi0, zt0_ok, zn0⟩, by decide, fn_X11_192, rfl, by decide +kernel⟩
theorem fn_X1_129 : Cond.fieldLinkNest zR1 129 (zT0 3).1 (zT0 3).2.1 (zT0 3).2.2.1 zR11 ∈ z_N := z_inN0 (zc_1 _ (List.mem_of_getElem? (i := 80) rfl)) rfl
theorem g_X1_129 : zGn zR1 129 0 3 12 := ⟨zR0, zR11, zT0, rfl, zi0, by decide, fn_X1_129⟩
theorem p_X1_129 : zPn zR1 129 0 3 12 .int := ⟨zR0, zR11, zT0, zt0, ⟨rfl, zi0, zt0_ok, zn0⟩, by decide, fn_X1_129, rfl, by decide +kernel⟩
theorem fl_X0_18 : Cond.fieldLink zR0 18 (zT0 4).1 (zT0 4).2.1 (zT0 4).2.2.1 ∈ z_T := z_in0 (zc_1 _ (List.mem_of_getElem? (i := 81) rfl)) rfl
theorem g_X0_18 : zGf zR0 18 0 4 12 := ⟨zR0, zT0, rfl, zi0, by decide, fl_X0_18⟩
theorem p_X0_18 : zPF zR0 18 0 4 12 (.array .int) := ⟨zR0, zT0, zt0, ⟨rfl, zi0, zt0_ok, zn0⟩, by decide, fl_X0_18, rfl, rfl, by decide +kernel⟩
theorem fl_X0_22 : Cond.fieldLink zR0 22 (zT0 5).1 (zT0 5).2.1 (zT0 5).2.2.1 ∈ z_T := z_in0 (zc_1 _ (List.mem_of_getElem? (i := 82) rfl)) rfl
theorem g_X0_22 : zGf zR0 22 0 5 12 := ⟨zR0, zT0, rfl, zi0, by decide, fl_X0_22⟩
theorem p_X0_22 : zPF zR0 22 0 5 12 (.array .int) := ⟨zR0, zT0, zt0, ⟨rfl, zi0, zt0_ok, zn0⟩, by decide, fl_X0_22, rfl, rfl, by decide +kernel⟩
theorem fl_X0_25 : Cond.fieldLink zR0 25 (zT0 6).1 (zT0 6).2.1 (zT0 6).2.2.1 ∈ z_T := z_in0 (zc_1 _ (List.mem_of_getElem? (i := 83) rfl)) rfl
theorem g_X0_25 : zGf zR0 25 0 6 12 := ⟨zR0, zT0, rfl, zi0, by decide, fl_X0_25⟩
theorem p_X0_25 : zPF zR0 25 0 6 12 (.array .int) := ⟨zR0, zT0, zt0, ⟨rfl, zi0, zt0_ok, zn0⟩, by decide, fl_X0_25, rfl, rfl, by decide +kernel⟩
theorem fl_X0_28 : Cond.fieldLink zR0 28 (zT0 7).1 (zT0 7).2.1 (zT0 7).2.2.1 ∈ z_T := z_in0 (zc_1 _ (List.mem_of_getElem? (i := 84) rfl)) rfl
theorem g_X0_28 : zGf zR0 28 0 7 12 := ⟨zR0, zT0, rfl, zi0, by decide, fl_X0_28⟩
theorem p_X0_28 : zPF zR0 28 0 7 12 (.array .int) := ⟨zR0, zT0, zt0, ⟨rfl, zi0, zt0_ok, zn0⟩, by decide, fl_X0_28, rfl, rfl, by decide +kernel⟩
theorem fl_X0_31 : Cond.fieldLink zR0 31 (zT0 8).1 (zT0 8).2.1 (zT0 8).2.2.1 ∈ z_T := z_in0 (zc_1 _ (List.mem_of_getElem? (i := 85) rfl)) rfl
theorem g_X0_31 : zGf zR0 31 0 8 12 := ⟨zR0, zT0, rfl, zi0, by decide, fl_X0_31⟩
theorem p_X0_31 : zPF zR0 31 0 8 12 (.array .int) := ⟨zR0, zT0, zt0, ⟨rfl, zi0, zt0_ok, zn0⟩, by decide, fl_X0_31, rfl, rfl, by decide +kernel⟩
theorem fl_X0_34 : Cond.fieldLink zR0 34 (zT0 9).1 (zT0 9).2.1 (zT0 9).2.2.1 ∈ z_T := z_in0 (zc_1 _ (List.mem_of_getElem? (i := 86) rfl)) rfl
theorem g_X0_34 : zGf zR0 34 0 9 12 := ⟨zR0, zT0, rfl, zi0, by decide, fl_X0_34⟩
theorem p_X0_34 : zPF zR0 34 0 9 12 (.array .int) := ⟨zR0, zT0, zt0, ⟨rfl, zi0, zt0_ok, zn0⟩, by decide, fl_X0_34, rfl, rfl, by decide +kernel⟩
theorem fl_X0_37 : Cond.fieldLink zR0 37 (zT0 10).1 (zT0 10).2.1 (zT0 10).2.2.1 ∈ z_T := z_in0 (zc_1 _ (List.mem_of_getElem? (i := 87) rfl)) rfl
theorem g_X0_37 : zGf zR0 37 0 10 12 := ⟨zR0, zT0, rfl, zi0, by decide, fl_X0_37⟩
theorem p_X0_37 : zPF zR0 37 0 10 12 (.array .int) := ⟨zR0, zT0, zt0, ⟨rfl, zi0, zt0_ok, zn0⟩, by decide, fl_X0_37, rfl, rfl, by decide +kernel⟩
theorem fl_X0_94 : Cond.fieldLink zR0 94 (zT0 11).1 (zT0 11).2.1 (zT0 11).2.2.1 ∈ z_T := z_in0 (zc_1 _ (List.mem_of_getElem? (i := 88) rfl)) rfl
theorem g_X0_94 : zGf zR0 94 0 11 12 := ⟨zR0, zT0, rfl, zi0, by decide, fl_X0_94⟩
theorem p_X0_94 : zPf zR0 94 0 11 12 .int := ⟨zR0, zT0, zt0, ⟨rfl, zi0, zt0_ok, zn0⟩, by decide, fl_X0_94, rfl, by decide +kernel⟩
theorem cl_X11_29 : Cond.classLink zR11 29 zR1 ∈ z_T := z_in0 (zc_1 _ (List.mem_of_getElem? (i := 115) rfl)) rfl
theorem it_X1 : Cond.instantiable zR1 2 ∈ z_T := z_in0 (zc_1 _ (List.mem_of_getElem? (i := 116) rfl)) rfl
theorem ml_X11_31 : Cond.methodLink zR11 31 (yN m_X1_init) ∈ z_T := z_in0 (zc_1 _ (List.mem_of_getElem? (i := 117) rfl)) rfl
theorem ml_X1_3 : Cond.methodLink zR1 3 objectInit ∈ z_T := z_in0 (zc_1 _ (List.mem_of_getElem? (i := 120) rfl)) rfl
theorem cl_X1_9 : Cond.classLink zR1 9 zR0 ∈ z_T := z_in0 (zc_1 _ (List.mem_of_getElem? (i := 121) rfl)) rfl
theorem mn_X1_11 : Cond.methodLinkNest zR1 11 (yN m_X0_init) zR11 ∈ z_N := z_inN0 (zc_1 _ (List.mem_of_getElem? (i := 122) rfl)) rfl
theorem fl_X1_18 : Cond.fieldLink zR1 18 (zT1 0).1 (zT1 0).2.1 (zT1 0).2.2.1 ∈ z_T := z_in0 (zc_1 _ (List.mem_of_getElem? (i := 123) rfl)) rfl
theorem g_X1_18 : zGf zR1 18 1 0 2 := ⟨zR1, zT1, rfl, zi1, by decide, fl_X1_18⟩
theorem p_X1_18 : zPF zR1 18 1 0 2 (.object "CoveredSigns$Scan") := ⟨zR1, zT1, zt1, ⟨rfl, zi1, zt1_ok, zn1⟩, by decide, fl_X1_18, rfl, rfl, by decide +kernel⟩
theorem fl_X1_12 : Cond.fieldLink zR1 12 (zT1 1).1 (zT1 1).2.1 (zT1 1).2.2.1 ∈ z_T := z_in0 (zc_1 _ (List.mem_of_getElem? (i := 124) rfl)) rfl
theorem g_X1_12 : zGf zR1 12 1 1 2 := ⟨zR1, zT1, rfl, zi1, by decide, fl_X1_12⟩
theorem p_X1_12 : zPF zR1 12 1 1 2 (.object "CoveredSigns$Alphabet") := ⟨zR1, zT1, zt1, ⟨rfl, zi1, zt1_ok, zn1⟩, by decide, fl_X1_12, rfl, rfl, by decide +kernel⟩
theorem cl_X11_38 : Cond.classLink zR11 38 zR3 ∈ z_T := z_in0 (zc_1 _ (List.mem_of_getElem? (i := 130) rfl)) rfl
theorem it_X3 : Cond.instantiable zR3 2 ∈ z_T := z_in0 (zc_1 _ (List.mem_of_getElem? (i := 131) rfl)) rfl
theorem mn_X11_40 : Cond.methodLinkNest zR11 40 (yN m_X3_init) zR11 ∈ z_N := z_inN0 (zc_1 _ (List.mem_of_getElem? (i := 132) rfl)) rfl
theorem ml_X3_3 : Cond.methodLink zR3 3 objectInit ∈ z_T := z_in0 (zc_1 _ (List.mem_of_getElem? (i := 135) rfl)) rfl
theorem fl_X3_9 : Cond.fieldLink zR3 9 (zT3 0).1 (zT3 0).2.1 (zT3 0).2.2.1 ∈ z_T := z_in0 (zc_1 _ (List.mem_of_getElem? (i := 136) rfl)) rfl
theorem g_X3_9 : zGf zR3 9 3 0 2 := ⟨zR3, zT3, rfl, zi3, by decide, fl_X3_9⟩
theorem p_X3_9 : zPF zR3 9 3 0 2 (.array .int) := ⟨zR3, zT3, zt3, ⟨rfl, zi3, zt3_ok, zn3⟩, by decide, fl_X3_9, rfl, rfl, by decide +kernel⟩
theorem fn_X7_143 : Cond.fieldLinkNest zR7 143 (zT3 0).1 (zT3 0).2.1 (zT3 0).2.2.1 zR11 ∈ z_N := z_inN0 (zc_1 _ (List.mem_of_getElem? (i := 137) rfl)) rfl
theorem g_X7_143 : zGn zR7 143 3 0 2 := ⟨zR3, zR11, zT3, rfl, zi3, by decide, fn_X7_143⟩
theorem fl_X3_15 : Cond.fieldLink zR3 15 (zT3 1).1 (zT3 1).2.1 (zT3 1).2.2.1 ∈ z_T := z_in0 (zc_1 _ (List.mem_of_getElem? (i := 138) rfl)) rfl
theorem g_X3_15 : zGf zR3 15 3 1 2 := ⟨zR3, zT3, rfl, zi3, by decide, fl_X3_15⟩
theorem p_X3_15 : zPf zR3 15 3 1 2 .int := ⟨zR3, zT3, zt3, ⟨rfl, zi3, zt3_ok, zn3⟩, by decide, fl_X3_15, rfl, by decide +kernel⟩
theorem fn_X11_186 : Cond.fieldLinkNest zR11 186 (zT3 1).1 (zT3 1).2.1 (zT3 1).2.2.1 zR11 ∈ z_N := z_inN0 (zc_1 _ (List.mem_of_getElem? (i := 139) rfl)) rfl
theorem g_X11_186 : zGn zR11 186 3 1 2 := ⟨zR3, zR11, zT3, rfl, zi3, by decide, fn_X11_186⟩
theorem p_X11_186 : zPn zR11 186 3 1 2 .int := ⟨zR3, zR11, zT3, zt3, ⟨rfl, zi3, zt3_ok, zn3⟩, by decide, fn_X11_186, rfl, by decide +kernel⟩
theorem fn_X7_136 : Cond.fieldLinkNest zR7 136 (zT3 1).1 (zT3 1).2.1 (zT3 1).2.2.1 zR11 ∈ z_N := z_inN0 (zc_1 _ (List.mem_of_getElem? (i := 140) rfl)) rfl
theorem g_X7_136 : zGn zR7 136 3 1 2 := ⟨zR3, zR11, zT3, rfl, zi3, by decide, fn_X7_136⟩
theorem p_X7_136 : zPn zR7 136 3 1 2 .int := ⟨zR3, zR11, zT3, zt3, ⟨rfl, zi3, zt3_ok, zn3⟩, by decide, fn_X7_136, rfl, by decide +kernel⟩
theorem cl_X11_45 : Cond.classLink zR11 45 zR7 ∈ z_T := z_in0 (zc_1 _ (List.mem_of_getElem? (i := 146) rfl)) rfl
theorem it_X7 : Cond.instantiable zR7 7 ∈ z_T := z_in0 (zc_1 _ (List.mem_of_getElem? (i := 147) rfl)) rfl
theorem ml_X11_47 : Cond.methodLink zR11 47 (yN m_X7_init) ∈ z_T := z_in0 (zc_1 _ (List.mem_of_getElem? (i := 148) rfl)) rfl
theorem ml_X7_5 : Cond.methodLink zR7 5 objectInit ∈ z_T := z_in0 (zc_1 _ (List.mem_of_getElem? (i := 151) rfl)) rfl
theorem cl_X7_11 : Cond.classLink zR7 11 zR3 ∈ z_T := z_in0 (zc_1 _ (List.mem_of_getElem? (i := 152) rfl)) rfl
theorem mn_X7_17 : Cond.methodLinkNest zR7 17 (yN m_X3_init) zR11 ∈ z_N := z_inN0 (zc_1 _ (List.mem_of_getElem? (i := 154) rfl)) rfl
theorem fl_X7_26 : Cond.fieldLink zR7 26 (zT7 0).1 (zT7 0).2.1 (zT7 0).2.2.1 ∈ z_T := z_in0 (zc_1 _ (List.mem_of_getElem? (i := 155) rfl)) rfl
theorem g_X7_26 : zGf zR7 26 7 0 7 := ⟨zR7, zT7, rfl, zi7, by decide, fl_X7_26⟩
theorem p_X7_26 : zPF zR7 26 7 0 7 (.object "CoveredSigns$Scan") := ⟨zR7, zT7, zt7, ⟨rfl, zi7, zt7_ok, zn7⟩, by decide, fl_X7_26, rfl, rfl, by decide +kernel⟩
theorem fl_X7_13 : Cond.fieldLink zR7 13 (zT7 1).1 (zT7 1).2.1 (zT7 1).2.2.1 ∈ z_T := z_in0 (zc_1 _ (List.mem_of_getElem? (i := 156) rfl)) rfl
theorem g_X7_13 : zGf zR7 13 7 1 7 := ⟨zR7, zT7, rfl, zi7, by decide, fl_X7_13⟩
theorem p_X7_13 : zPF zR7 13 7 1 7 (.array (.object "CoveredSigns$Covers")) := ⟨zR7, zT7, zt7, ⟨rfl, zi7, zt7_ok, zn7⟩, by decide, fl_X7_13, rfl, rfl, by decide +kernel⟩
theorem fl_X7_18 : Cond.fieldLink zR7 18 (zT7 2).1 (zT7 2).2.1 (zT7 2).2.2.1 ∈ z_T := z_in0 (zc_1 _ (List.mem_of_getElem? (i := 157) rfl)) rfl
theorem g_X7_18 : zGf zR7 18 7 2 7 := ⟨zR7, zT7, rfl, zi7, by decide, fl_X7_18⟩
theorem p_X7_18 : zPF zR7 18 7 2 7 (.object "CoveredSigns$Covers") := ⟨zR7, zT7, zt7, ⟨rfl, zi7, zt7_ok, zn7⟩, by decide, fl_X7_18, rfl, rfl, by decide +kernel⟩
theorem fl_X7_22 : Cond.fieldLink zR7 22 (zT7 3).1 (zT7 3).2.1 (zT7 3).2.2.1 ∈ z_T := z_in0 (zc_1 _ (List.mem_of_getElem? (i := 158) rfl)) rfl
theorem g_X7_22 : zGf zR7 22 7 3 7 := ⟨zR7, zT7, rfl, zi7, by decide, fl_X7_22⟩
theorem p_X7_22 : zPF zR7 22 7 3 7 (.array .int) := ⟨zR7, zT7, zt7, ⟨rfl, zi7, zt7_ok, zn7⟩, by decide, fl_X7_22, rfl, rfl, by decide +kernel⟩
theorem fl_X7_34 : Cond.fieldLink zR7 34 (zT7 4).1 (zT7 4).2.1 (zT7 4).2.2.1 ∈ z_T := z_in0 (zc_1 _ (List.mem_of_getElem? (i := 159) rfl)) rfl
theorem g_X7_34 : zGf zR7 34 7 4 7 := ⟨zR7, zT7, rfl, zi7, by decide, fl_X7_34⟩
theorem p_X7_34 : zPf zR7 34 7 4 7 .int := ⟨zR7, zT7, zt7, ⟨rfl, zi7, zt7_ok, zn7⟩, by decide, fl_X7_34, rfl, by decide +kernel⟩
theorem fl_X7_38 : Cond.fieldLink zR7 38 (zT7 5).1 (zT7 5).2.1 (zT7 5).2.2.1 ∈ z_T := z_in0 (zc_1 _ (List.mem_of_getElem? (i := 160) rfl)) rfl
theorem g_X7_38 : zGf zR7 38 7 5 7 := ⟨zR7, zT7, rfl, zi7, by decide, fl_X7_38⟩
theorem p_X7_38 : zPf zR7 38 7 5 7 .int := ⟨zR7, zT7, zt7, ⟨rfl, zi7, zt7_ok, zn7⟩, by decide, fl_X7_38, rfl, by decide +kernel⟩
theorem fl_X7_41 : Cond.fieldLink zR7 41 (zT7 6).1 (zT7 6).2.1 (zT7 6).2.2.1 ∈ z_T := z_in0 (zc_1 _ (List.mem_of_getElem? (i := 161) rfl)) rfl
theorem g_X7_41 : zGf zR7 41 7 6 7 := ⟨zR7, zT7, rfl, zi7, by decide, fl_X7_41⟩
theorem p_X7_41 : zPf zR7 41 7 6 7 .boolean := ⟨zR7, zT7, zt7, ⟨rfl, zi7, zt7_ok, zn7⟩, by decide, fl_X7_41, rfl, by decide +kernel⟩
theorem cl_X11_52 : Cond.classLink zR11 52 zR9 ∈ z_T := z_in0 (zc_1 _ (List.mem_of_getElem? (i := 177) rfl)) rfl
theorem it_X9 : Cond.instantiable zR9 8 ∈ z_T := z_in0 (zc_1 _ (List.mem_of_getElem? (i := 178) rfl)) rfl
theorem mn_X11_54 : Cond.methodLinkNest zR11 54 (yN m_X9_init) zR11 ∈ z_N := z_inN0 (zc_1 _ (List.mem_of_getElem? (i := 179) rfl)) rfl
theorem ml_X9_3 : Cond.methodLink zR9 3 objectInit ∈ z_T := z_in0 (zc_1 _ (List.mem_of_getElem? (i := 182) rfl)) rfl
theorem fl_X9_27 : Cond.fieldLink zR9 27 (zT9 0).1 (zT9 0).2.1 (zT9 0).2.2.1 ∈ z_T := z_in0 (zc_1 _ (List.mem_of_getElem? (i := 183) rfl)) rfl
theorem g_X9_27 : zGf zR9 27 9 0 8 := ⟨zR9, zT9, rfl, zi9, by decide, fl_X9_27⟩
theorem p_X9_27 : zPf zR9 27 9 0 8 .int := ⟨zR9, zT9, zt9, ⟨rfl, zi9, zt9_ok, zn9⟩, by decide, fl_X9_27, rfl, by decide +kernel⟩
theorem fn_X11_195 : Cond.fieldLinkNest zR11 195 (zT9 0).1 (zT9 0).2.1 (zT9 0).2.2.1 zR11 ∈ z_N := z_inN0 (zc_1 _ (List.mem_of_getElem? (i := 184) rfl)) rfl
theorem g_X11_195 : zGn zR11 195 9 0 8 := ⟨zR9, zR11, zT9, rfl, zi9, by decide, fn_X11_195⟩
theorem p_X11_195 : zPn zR11 195 9 0 8 .int := ⟨zR9, zR11, zT9, zt9, ⟨rfl, zi9, zt9_ok, zn9⟩, by decide, fn_X11_195, rfl, by decide +kernel⟩
theorem fl_X9_31 : Cond.fieldLink zR9 31 (zT9 1).1 (zT9 1).2.1 (zT9 1).2.2.1 ∈ z_T := z_in0 (zc_1 _ (List.mem_of_getElem? (i := 185) rfl)) rfl
theorem g_X9_31 : zGf zR9 31 9 1 8 := ⟨zR9, zT9, rfl, zi9, by decide, fl_X9_31⟩
theorem p_X9_31 : zPf zR9 31 9 1 8 .int := ⟨zR9, zT9, zt9, ⟨rfl, zi9, zt9_ok, zn9⟩, by decide, fl_X9_31, rfl, by decide +kernel⟩
theorem fn_X11_183 : Cond.fieldLinkNest zR11 183 (zT9 1).1 (zT9 1).2.1 (zT9 1).2.2.1 zR11 ∈ z_N := z_inN0 (zc_1 _ (List.mem_of_getElem? (i := 186) rfl)) rfl
theorem g_X11_183 : zGn zR11 183 9 1 8 := ⟨zR9, zR11, zT9, rfl, zi9, by decide, fn_X11_183⟩
theorem p_X11_183 : zPn zR11 183 9 1 8 .int := ⟨zR9, zR11, zT9, zt9, ⟨rfl, zi9, zt9_ok, zn9⟩, by decide, fn_X11_183, rfl, by decide +kernel⟩
theorem fl_X9_34 : Cond.fieldLink zR9 34 (zT9 2).1 (zT9 2).2.1 (zT9 2).2.2.1 ∈ z_T := z_in0 (zc_1 _ (List.mem_of_getElem? (i := 187) rfl)) rfl
theorem g_X9_34 : zGf zR9 34 9 2 8 := ⟨zR9, zT9, rfl, zi9, by decide, fl_X9_34⟩
theorem p_X9_34 : zPf zR9 34 9 2 8 .int := ⟨zR9, zT9, zt9, ⟨rfl, zi9, zt9_ok, zn9⟩, by decide, fl_X9_34, rfl, by decide +kernel⟩
theorem fn_X5_44 : Cond.fieldLinkNest zR5 44 (zT9 2).1 (zT9 2).2.1 (zT9 2).2.2.1 zR11 ∈ z_N := z_inN0 (zc_1 _ (List.mem_of_getElem? (i := 188) rfl)) rfl
theorem g_X5_44 : zGn zR5 44 9 2 8 := ⟨zR9, zR11, zT9, rfl, zi9, by decide, fn_X5_44⟩
theorem p_X5_44 : zPn zR5 44 9 2 8 .int := ⟨zR9, zR11, zT9, zt9, ⟨rfl, zi9, zt9_ok, zn9⟩, by decide, fn_X5_44, rfl, by decide +kernel⟩
theorem fn_X11_349 : Cond.fieldLinkNest zR11 349 (zT9 2).1 (zT9 2).2.1 (zT9 2).2.2.1 zR11 ∈ z_N := z_inN0 (zc_1 _ (List.mem_of_getElem? (i := 189) rfl)) rfl
theorem g_X11_349 : zGn zR11 349 9 2 8 := ⟨zR9, zR11, zT9, rfl, zi9, by decide, fn_X11_349⟩
theorem p_X11_349 : zPn zR11 349 9 2 8 .int := ⟨zR9, zR11, zT9, zt9, ⟨rfl, zi9, zt9_ok, zn9⟩, by decide, fn_X11_349, rfl, by decide +kernel⟩
theorem fl_X9_9 : Cond.fieldLink zR9 9 (zT9 3).1 (zT9 3).2.1 (zT9 3).2.2.1 ∈ z_T := z_in0 (zc_1 _ (List.mem_of_getElem? (i := 190) rfl)) rfl
theorem g_X9_9 : zGf zR9 9 9 3 8 := ⟨zR9, zT9, rfl, zi9, by decide, fl_X9_9⟩
theorem p_X9_9 : zPF zR9 9 9 3 8 (.array .int) := ⟨zR9, zT9, zt9, ⟨rfl, zi9, zt9_ok, zn9⟩, by decide, fl_X9_9, rfl, rfl, by decide +kernel⟩
theorem fl_X9_15 : Cond.fieldLink zR9 15 (zT9 4).1 (zT9 4).2.1 (zT9 4).2.2.1 ∈ z_T := z_in0 (zc_1 _ (List.mem_of_getElem? (i := 191) rfl)) rfl
theorem g_X9_15 : zGf zR9 15 9 4 8 := ⟨zR9, zT9, rfl, zi9, by decide, fl_X9_15⟩
theorem p_X9_15 : zPF zR9 15 9 4 8 (.array .int) := ⟨zR9, zT9, zt9, ⟨rfl, zi9, zt9_ok, zn9⟩, by decide, fl_X9_15, rfl, rfl, by decide +kernel⟩
theorem fl_X9_18 : Cond.fieldLink zR9 18 (zT9 5).1 (zT9 5).2.1 (zT9 5).2.2.1 ∈ z_T := z_in0 (zc_1 _ (List.mem_of_getElem? (i := 192) rfl)) rfl
theorem g_X9_18 : zGf zR9 18 9 5 8 := ⟨zR9, zT9, rfl, zi9, by decide, fl_X9_18⟩
theorem p_X9_18 : zPF zR9 18 9 5 8 (.array .int) := ⟨zR9, zT9, zt9, ⟨rfl, zi9, zt9_ok, zn9⟩, by decide, fl_X9_18, rfl, rfl, by decide +kernel⟩
theorem fl_X9_21 : Cond.fieldLink zR9 21 (zT9 6).1 (zT9 6).2.1 (zT9 6).2.2.1 ∈ z_T := z_in0 (zc_1 _ (List.mem_of_getElem? (i := 193) rfl)) rfl
theorem g_X9_21 : zGf zR9 21 9 6 8 := ⟨zR9, zT9, rfl, zi9, by decide, fl_X9_21⟩
theorem p_X9_21 : zPF zR9 21 9 6 8 (.array .int) := ⟨zR9, zT9, zt9, ⟨rfl, zi9, zt9_ok, zn9⟩, by decide, fl_X9_21, rfl, rfl, by decide +kernel⟩
theorem fl_X9_24 : Cond.fieldLink zR9 24 (zT9 7).1 (zT9 7).2.1 (zT9 7).2.2.1 ∈ z_T := z_in0 (zc_1 _ (List.mem_of_getElem? (i := 194) rfl)) rfl
theorem g_X9_24 : zGf zR9 24 9 7 8 := ⟨zR9, zT9, rfl, zi9, by decide, fl_X9_24⟩
theorem p_X9_24 : zPF zR9 24 9 7 8 (.array .int) := ⟨zR9, zT9, zt9, ⟨rfl, zi9, zt9_ok, zn9⟩, by decide, fl_X9_24, rfl, rfl, by decide +kernel⟩
theorem cl_X11_68 : Cond.classLink zR11 68 zR10 ∈ z_T := z_in0 (zc_1 _ (List.mem_of_getElem? (i := 212) rfl)) rfl
theorem it_X10 : Cond.instantiable zR10 8 ∈ z_T := z_in0 (zc_1 _ (List.mem_of_getElem? (i := 213) rfl)) rfl
theorem ml_X11_70 : Cond.methodLink zR11 70 (yN m_X10_init) ∈ z_T := z_in0 (zc_1 _ (List.mem_of_getElem? (i := 214) rfl)) rfl
theorem ml_X10_3 : Cond.methodLink zR10 3 objectInit ∈ z_T := z_in0 (zc_1 _ (List.mem_of_getElem? (i := 217) rfl)) rfl
theorem fl_X10_21 : Cond.fieldLink zR10 21 (zT10 0).1 (zT10 0).2.1 (zT10 0).2.2.1 ∈ z_T := z_in0 (zc_1 _ (List.mem_of_getElem? (i := 218) rfl)) rfl
theorem g_X10_21 : zGf zR10 21 10 0 8 := ⟨zR10, zT10, rfl, zi10, by decide, fl_X10_21⟩
theorem p_X10_21 : zPF zR10 21 10 0 8 (.object "CoveredSigns$Covers") := ⟨zR10, zT10, zt10, ⟨rfl, zi10, zt10_ok, zn10⟩, by decide, fl_X10_21, rfl, rfl, by decide +kernel⟩
theorem fl_X10_9 : Cond.fieldLink zR10 9 (zT10 1).1 (zT10 1).2.1 (zT10 1).2.2.1 ∈ z_T := z_in0 (zc_1 _ (List.mem_of_getElem? (i := 219) rfl)) rfl
theorem g_X10_9 : zGf zR10 9 10 1 8 := ⟨zR10, zT10, rfl, zi10, by decide, fl_X10_9⟩
theorem p_X10_9 : zPF zR10 9 10 1 8 (.array .int) := ⟨zR10, zT10, zt10, ⟨rfl, zi10, zt10_ok, zn10⟩, by decide, fl_X10_9, rfl, rfl, by decide +kernel⟩
theorem fl_X10_15 : Cond.fieldLink zR10 15 (zT10 2).1 (zT10 2).2.1 (zT10 2).2.2.1 ∈ z_T := z_in0 (zc_1 _ (List.mem_of_getElem? (i := 220) rfl)) rfl
theorem g_X10_15 : zGf zR10 15 10 2 8 := ⟨zR10, zT10, rfl, zi10, by decide, fl_X10_15⟩
theorem p_X10_15 : zPF zR10 15 10 2 8 (.array .int) := ⟨zR10, zT10, zt10, ⟨rfl, zi10, zt10_ok, zn10⟩, by decide, fl_X10_15, rfl, rfl, by decide +kernel⟩
theorem fl_X10_18 : Cond.fieldLink zR10 18 (zT10 3).1 (zT10 3).2.1 (zT10 3).2.2.1 ∈ z_T := z_in0 (zc_1 _ (List.mem_of_getElem? (i := 221) rfl)) rfl
theorem g_X10_18 : zGf zR10 18 10 3 8 := ⟨zR10, zT10, rfl, zi10, by decide, fl_X10_18⟩
theorem p_X10_18 : zPF zR10 18 10 3 8 (.array .int) := ⟨zR10, zT10, zt10, ⟨rfl, zi10, zt10_ok, zn10⟩, by decide, fl_X10_18, rfl, rfl, by decide +kernel⟩
theorem fl_X10_37 : Cond.fieldLink zR10 37 (zT10 4).1 (zT10 4).2.1 (zT10 4).2.2.1 ∈ z_T := z_in0 (zc_1 _ (List.mem_of_getElem? (i := 222) rfl)) rfl
theorem g_X10_37 : zGf zR10 37 10 4 8 := ⟨zR10, zT10, rfl, zi10, by decide, fl_X10_37⟩
theorem p_X10_37 : zPf zR10 37 10 4 8 .int := ⟨zR10, zT10, zt10, ⟨rfl, zi10, zt10_ok, zn10⟩, by decide, fl_X10_37, rfl, by decide +kernel⟩
theorem fn_X6_38 : Cond.fieldLinkNest zR6 38 (zT10 4).1 (zT10 4).2.1 (zT10 4).2.2.1 zR11 ∈ z_N := z_inN0 (zc_1 _ (List.mem_of_getElem? (i := 223) rfl)) rfl
theorem g_X6_38 : zGn zR6 38 10 4 8 := ⟨zR10, zR11, zT10, rfl, zi10, by decide, fn_X6_38⟩
theorem p_X6_38 : zPn zR6 38 10 4 8 .int := ⟨zR10, zR11, zT10, zt10, ⟨rfl, zi10, zt10_ok, zn10⟩, by decide, fn_X6_38, rfl, by decide +kernel⟩
theorem fl_X10_42 : Cond.fieldLink zR10 42 (zT10 5).1 (zT10 5).2.1 (zT10 5).2.2.1 ∈ z_T := z_in0 (zc_1 _ (List.mem_of_getElem? (i := 224) rfl)) rfl
theorem g_X10_42 : zGf zR10 42 10 5 8 := ⟨zR10, zT10, rfl, zi10, by decide, fl_X10_42⟩
theorem p_X10_42 : zPf zR10 42 10 5 8 .int := ⟨zR10, zT10, zt10, ⟨rfl, zi10, zt10_ok, zn10⟩, by decide, fl_X10_42, rfl, by decide +kernel⟩
theorem fn_X6_48 : Cond.fieldLinkNest zR6 48 (zT10 5).1 (zT10 5).2.1 (zT10 5).2.2.1 zR11 ∈ z_N := z_inN0 (zc_1 _ (List.mem_of_getElem? (i := 225) rfl)) rfl
theorem g_X6_48 : zGn zR6 48 10 5 8 := ⟨zR10, zR11, zT10, rfl, zi10, by decide, fn_X6_48⟩
theorem p_X6_48 : zPn zR6 48 10 5 8 .int := ⟨zR10, zR11, zT10, zt10, ⟨rfl, zi10, zt10_ok, zn10⟩, by decide, fn_X6_48, rfl, by decide +kernel⟩
theorem fl_X10_44 : Cond.fieldLink zR10 44 (zT10 6).1 (zT10 6).2.1 (zT10 6).2.2.1 ∈ z_T := z_in0 (zc_1 _ (List.mem_of_getElem? (i := 226) rfl)) rfl
theorem g_X10_44 : zGf zR10 44 10 6 8 := ⟨zR10, zT10, rfl, zi10, by decide, fl_X10_44⟩
theorem p_X10_44 : zPf zR10 44 10 6 8 .int := ⟨zR10, zT10, zt10, ⟨rfl, zi10, zt10_ok, zn10⟩, by decide, fl_X10_44, rfl, by decide +kernel⟩
theorem fn_X6_25 : Cond.fieldLinkNest zR6 25 (zT10 7).1 (zT10 7).2.1 (zT10 7).2.2.1 zR11 ∈ z_N := z_inN0 (zc_1 _ (List.mem_of_getElem? (i := 227) rfl)) rfl
theorem g_X6_25 : zGn zR6 25 10 7 8 := ⟨zR10, zR11, zT10, rfl, zi10, by decide, fn_X6_25⟩
theorem p_X6_25 : zPn zR6 25 10 7 8 .int := ⟨zR10, zR11, zT10, zt10, ⟨rfl, zi10, zt10_ok, zn10⟩, by decide, fn_X6_25, rfl, by decide +kernel⟩
theorem fl_X10_47 : Cond.fieldLink zR10 47 (zT10 7).1 (zT10 7).2.1 (zT10 7).2.2.1 ∈ z_T := z_in0 (zc_1 _ (List.mem_of_getElem? (i := 228) rfl)) rfl
theorem g_X10_47 : zGf zR10 47 10 7 8 := ⟨zR10, zT10, rfl, zi10, by decide, fl_X10_47⟩
theorem p_X10_47 : zPf zR10 47 10 7 8 .int := ⟨zR10, zT10, zt10, ⟨rfl, zi10, zt10_ok, zn10⟩, by decide, fl_X10_47, rfl, by decide +kernel⟩
theorem fn_X11_242 : Cond.fieldLinkNest zR11 242 (zT10 7).1 (zT10 7).2.1 (zT10 7).2.2.1 zR11 ∈ z_N := z_inN0 (zc_1 _ (List.mem_of_getElem? (i := 229) rfl)) rfl
theorem g_X11_242 : zGn zR11 242 10 7 8 := ⟨zR10, zR11, zT10, rfl, zi10, by decide, fn_X11_242⟩
theorem p_X11_242 : zPn zR11 242 10 7 8 .int := ⟨zR10, zR11, zT10, zt10, ⟨rfl, zi10, zt10_ok, zn10⟩, by decide, fn_X11_242, rfl, by decide +kernel⟩
theorem cl_X11_77 : Cond.classLink zR11 77 zR6 ∈ z_T := z_in0 (zc_2 _ (List.mem_of_getElem? (i := 7) rfl)) rfl
theorem it_X6 : Cond.instantiable zR6 4 ∈ z_T := z_in0 (zc_2 _ (List.mem_of_getElem? (i := 8) rfl)) rfl
theorem ml_X11_79 : Cond.methodLink zR11 79 (yN m_X6_init) ∈ z_T := z_in0 (zc_2 _ (List.mem_of_getElem? (i := 9) rfl)) rfl
theorem ml_X6_3 : Cond.methodLink zR6 3 objectInit ∈ z_T := z_in0 (zc_2 _ (List.mem_of_getElem? (i := 12) rfl)) rfl
theorem fl_X6_9 : Cond.fieldLink zR6 9 (zT6 0).1 (zT6 0).2.1 (zT6 0).2.2.1 ∈ z_T := z_in0 (zc_2 _ (List.mem_of_getElem? (i := 13) rfl)) rfl
theorem g_X6_9 : zGf zR6 9 6 0 4 := ⟨zR6, zT6, rfl, zi6, by decide, fl_X6_9⟩
theorem p_X6_9 : zPF zR6 9 6 0 4 (.object "CoveredSigns$Tangle") := ⟨zR6, zT6, zt6, ⟨rfl, zi6, zt6_ok, zn6⟩, by decide, fl_X6_9, rfl, rfl, by decide +kernel⟩
theorem fl_X6_15 : Cond.fieldLink zR6 15 (zT6 1).1 (zT6 1).2.1 (zT6 1).2.2.1 ∈ z_T := z_in0 (zc_2 _ (List.mem_of_getElem? (i := 14) rfl)) rfl
theorem g_X6_15 : zGf zR6 15 6 1 4 := ⟨zR6, zT6, rfl, zi6, by decide, fl_X6_15⟩
theorem p_X6_15 : zPf zR6 15 6 1 4 .int := ⟨zR6, zT6, zt6, ⟨rfl, zi6, zt6_ok, zn6⟩, by decide, fl_X6_15, rfl, by decide +kernel⟩
theorem fn_X11_316 : Cond.fieldLinkNest zR11 316 (zT6 1).1 (zT6 1).2.1 (zT6 1).2.2.1 zR11 ∈ z_N := z_inN0 (zc_2 _ (List.mem_of_getElem? (i := 15) rfl)) rfl
theorem g_X11_316 : zGn zR11 316 6 1 4 := ⟨zR6, zR11, zT6, rfl, zi6, by decide, fn_X11_316⟩
theorem p_X11_316 : zPn zR11 316 6 1 4 .int := ⟨zR6, zR11, zT6, zt6, ⟨rfl, zi6, zt6_ok, zn6⟩, by decide, fn_X11_316, rfl, by decide +kernel⟩
theorem fl_X6_19 : Cond.fieldLink zR6 19 (zT6 2).1 (zT6 2).2.1 (zT6 2).2.2.1 ∈ z_T := z_in0 (zc_2 _ (List.mem_of_getElem? (i := 16) rfl)) rfl
theorem g_X6_19 : zGf zR6 19 6 2 4 := ⟨zR6, zT6, rfl, zi6, by decide, fl_X6_19⟩
theorem p_X6_19 : zPf zR6 19 6 2 4 .int := ⟨zR6, zT6, zt6, ⟨rfl, zi6, zt6_ok, zn6⟩, by decide, fl_X6_19, rfl, by decide +kernel⟩
theorem fn_X11_319 : Cond.fieldLinkNest zR11 319 (zT6 2).1 (zT6 2).2.1 (zT6 2).2.2.1 zR11 ∈ z_N := z_inN0 (zc_2 _ (List.mem_of_getElem? (i := 17) rfl)) rfl
theorem g_X11_319 : zGn zR11 319 6 2 4 := ⟨zR6, zR11, zT6, rfl, zi6, by decide, fn_X11_319⟩
theorem p_X11_319 : zPn zR11 319 6 2 4 .int := ⟨zR6, zR11, zT6, zt6, ⟨rfl, zi6, zt6_ok, zn6⟩, by decide, fn_X11_319, rfl, by decide +kernel⟩
theorem fl_X6_22 : Cond.fieldLink zR6 22 (zT6 3).1 (zT6 3).2.1 (zT6 3).2.2.1 ∈ z_T := z_in0 (zc_2 _ (List.mem_of_getElem? (i := 18) rfl)) rfl
theorem g_X6_22 : zGf zR6 22 6 3 4 := ⟨zR6, zT6, rfl, zi6, by decide, fl_X6_22⟩
theorem p_X6_22 : zPf zR6 22 6 3 4 .int := ⟨zR6, zT6, zt6, ⟨rfl, zi6, zt6_ok, zn6⟩, by decide, fl_X6_22, rfl, by decide +kernel⟩
theorem fn_X11_322 : Cond.fieldLinkNest zR11 322 (zT6 3).1 (zT6 3).2.1 (zT6 3).2.2.1 zR11 ∈ z_N := z_inN0 (zc_2 _ (List.mem_of_getElem? (i := 19) rfl)) rfl
theorem g_X11_322 : zGn zR11 322 6 3 4 := ⟨zR6, zR11, zT6, rfl, zi6, by decide, fn_X11_322⟩
theorem p_X11_322 : zPn zR11 322 6 3 4 .int := ⟨zR6, zR11, zT6, zt6, ⟨rfl, zi6, zt6_ok, zn6⟩, by decide, fn_X11_322, rfl, by decide +kernel⟩
theorem cl_X11_86 : Cond.classLink zR11 86 zR4 ∈ z_T := z_in0 (zc_2 _ (List.mem_of_getElem? (i := 29) rfl)) rfl
theorem it_X4 : Cond.instantiable zR4 4 ∈ z_T := z_in0 (zc_2 _ (List.mem_of_getElem? (i := 30) rfl)) rfl
theorem mn_X11_88 : Cond.methodLinkNest zR11 88 (yN m_X4_init) zR11 ∈ z_N := z_inN0 (zc_2 _ (List.mem_of_getElem? (i := 31) rfl)) rfl
theorem ml_X4_3 : Cond.methodLink zR4 3 objectInit ∈ z_T := z_in0 (zc_2 _ (List.mem_of_getElem? (i := 34) rfl)) rfl
theorem fl_X4_9 : Cond.fieldLink zR4 9 (zT4 0).1 (zT4 0).2.1 (zT4 0).2.2.1 ∈ z_T := z_in0 (zc_2 _ (List.mem_of_getElem? (i := 35) rfl)) rfl
theorem g_X4_9 : zGf zR4 9 4 0 4 := ⟨zR4, zT4, rfl, zi4, by decide, fl_X4_9⟩
theorem p_X4_9 : zPF zR4 9 4 0 4 (.array .int) := ⟨zR4, zT4, zt4, ⟨rfl, zi4, zt4_ok, zn4⟩, by decide, fl_X4_9, rfl, rfl, by decide +kernel⟩
theorem fl_X4_15 : Cond.fieldLink zR4 15 (zT4 1).1 (zT4 1).2.1 (zT4 1).2.2.1 ∈ z_T := z_in0 (zc_2 _ (List.mem_of_getElem? (i := 36) rfl)) rfl
theorem g_X4_15 : zGf zR4 15 4 1 4 := ⟨zR4, zT4, rfl, zi4, by decide, fl_X4_15⟩
theorem p_X4_15 : zPf zR4 15 4 1 4 .int := ⟨zR4, zT4, zt4, ⟨rfl, zi4, zt4_ok, zn4⟩, by decide, fl_X4_15, rfl, by decide +kernel⟩
theorem fl_X4_19 : Cond.fieldLink zR4 19 (zT4 2).1 (zT4 2).2.1 (zT4 2).2.2.1 ∈ z_T := z_in0 (zc_2 _ (List.mem_of_getElem? (i := 37) rfl)) rfl
theorem g_X4_19 : zGf zR4 19 4 2 4 := ⟨zR4, zT4, rfl, zi4, by decide, fl_X4_19⟩
theorem p_X4_19 : zPf zR4 19 4 2 4 .int := ⟨zR4, zT4, zt4, ⟨rfl, zi4, zt4_ok, zn4⟩, by decide, fl_X4_19, rfl, by decide +kernel⟩
theorem fl_X4_42 : Cond.fieldLink zR4 42 (zT4 3).1 (zT4 3).2.1 (zT4 3).2.2.1 ∈ z_T := z_in0 (zc_2 _ (List.mem_of_getElem? (i := 38) rfl)) rfl
theorem g_X4_42 : zGf zR4 42 4 3 4 := ⟨zR4, zT4, rfl, zi4, by decide, fl_X4_42⟩
theorem p_X4_42 : zPf zR4 42 4 3 4 .int := ⟨zR4, zT4, zt4, ⟨rfl, zi4, zt4_ok, zn4⟩, by decide, fl_X4_42, rfl, by decide +kernel⟩
theorem fn_X11_292 : Cond.fieldLinkNest zR11 292 (zT4 3).1 (zT4 3).2.1 (zT4 3).2.2.1 zR11 ∈ z_N := z_inN0 (zc_2 _ (List.mem_of_getElem? (i := 39) rfl)) rfl
theorem g_X11_292 : zGn zR11 292 4 3 4 := ⟨zR4, zR11, zT4, rfl, zi4, by decide, fn_X11_292⟩
theorem p_X11_292 : zPn zR11 292 4 3 4 .int := ⟨zR4, zR11, zT4, zt4, ⟨rfl, zi4, zt4_ok, zn4⟩, by decide, fn_X11_292, rfl, by decide +kernel⟩
theorem cl_X11_93 : Cond.classLink zR11 93 zR2 ∈ z_T := z_in0 (zc_2 _ (List.mem_of_getElem? (i := 49) rfl)) rfl
theorem it_X2 : Cond.instantiable zR2 6 ∈ z_T := z_in0 (zc_2 _ (List.mem_of_getElem? (i := 50) rfl)) rfl
theorem mn_X11_95 : Cond.methodLinkNest zR11 95 (yN m_X2_init) zR11 ∈ z_N := z_inN0 (zc_2 _ (List.mem_of_getElem? (i := 51) rfl)) rfl
theorem ml_X2_3 : Cond.methodLink zR2 3 objectInit ∈ z_T := z_in0 (zc_2 _ (List.mem_of_getElem? (i := 54) rfl)) rfl
theorem fl_X2_11 : Cond.fieldLink zR2 11 (zT2 0).1 (zT2 0).2.1 (zT2 0).2.2.1 ∈ z_T := z_in0 (zc_2 _ (List.mem_of_getElem? (i := 55) rfl)) rfl
theorem g_X2_11 : zGf zR2 11 2 0 6 := ⟨zR2, zT2, rfl, zi2, by decide, fl_X2_11⟩
theorem p_X2_11 : zPF zR2 11 2 0 6 (.array .long) := ⟨zR2, zT2, zt2, ⟨rfl, zi2, zt2_ok, zn2⟩, by decide, fl_X2_11, rfl, rfl, by decide +kernel⟩
theorem fl_X2_15 : Cond.fieldLink zR2 15 (zT2 1).1 (zT2 1).2.1 (zT2 1).2.2.1 ∈ z_T := z_in0 (zc_2 _ (List.mem_of_getElem? (i := 56) rfl)) rfl
theorem g_X2_15 : zGf zR2 15 2 1 6 := ⟨zR2, zT2, rfl, zi2, by decide, fl_X2_15⟩
theorem p_X2_15 : zPF zR2 15 2 1 6 (.array .long) := ⟨zR2, zT2, zt2, ⟨rfl, zi2, zt2_ok, zn2⟩, by decide, fl_X2_15, rfl, rfl, by decide +kernel⟩
theorem fl_X2_18 : Cond.fieldLink zR2 18 (zT2 2).1 (zT2 2).2.1 (zT2 2).2.2.1 ∈ z_T := z_in0 (zc_2 _ (List.mem_of_getElem? (i := 57) rfl)) rfl
theorem g_X2_18 : zGf zR2 18 2 2 6 := ⟨zR2, zT2, rfl, zi2, by decide, fl_X2_18⟩
theorem p_X2_18 : zPF zR2 18 2 2 6 (.array .long) := ⟨zR2, zT2, zt2, ⟨rfl, zi2, zt2_ok, zn2⟩, by decide, fl_X2_18, rfl, rfl, by decide +kernel⟩
theorem fl_X2_21 : Cond.fieldLink zR2 21 (zT2 3).1 (zT2 3).2.1 (zT2 3).2.2.1 ∈ z_T := z_in0 (zc_2 _ (List.mem_of_getElem? (i := 58) rfl)) rfl
theorem g_X2_21 : zGf zR2 21 2 3 6 := ⟨zR2, zT2, rfl, zi2, by decide, fl_X2_21⟩
theorem p_X2_21 : zPF zR2 21 2 3 6 (.array .int) := ⟨zR2, zT2, zt2, ⟨rfl, zi2, zt2_ok, zn2⟩, by decide, fl_X2_21, rfl, rfl, by decide +kernel⟩
theorem fl_X2_57 : Cond.fieldLink zR2 57 (zT2 4).1 (zT2 4).2.1 (zT2 4).2.2.1 ∈ z_T := z_in0 (zc_2 _ (List.mem_of_getElem? (i := 59) rfl)) rfl
theorem g_X2_57 : zGf zR2 57 2 4 6 := ⟨zR2, zT2, rfl, zi2, by decide, fl_X2_57⟩
theorem p_X2_57 : zPf zR2 57 2 4 6 .int := ⟨zR2, zT2, zt2, ⟨rfl, zi2, zt2_ok, zn2⟩, by decide, fl_X2_57, rfl, by decide +kernel⟩
theorem fl_X2_69 : Cond.fieldLink zR2 69 (zT2 5).1 (zT2 5).2.1 (zT2 5).2.2.1 ∈ z_T := z_in0 (zc_2 _ (List.mem_of_getElem? (i := 60) rfl)) rfl
theorem g_X2_69 : zGf zR2 69 2 5 6 := ⟨zR2, zT2, rfl, zi2, by decide, fl_X2_69⟩
theorem p_X2_69 : zPf zR2 69 2 5 6 .int := ⟨zR2, zT2, zt2, ⟨rfl, zi2, zt2_ok, zn2⟩, by decide, fl_X2_69, rfl, by decide +kernel⟩
theorem cl_X11_100 : Cond.classLink zR11 100 zR5 ∈ z_T := z_in0 (zc_2 _ (List.mem_of_getElem? (i := 75) rfl)) rfl
theorem it_X5 : Cond.instantiable zR5 3 ∈ z_T := z_in0 (zc_2 _ (List.mem_of_getElem? (i := 76) rfl)) rfl
theorem mn_X11_102 : Cond.methodLinkNest zR11 102 (yN m_X5_init) zR11 ∈ z_N := z_inN0 (zc_2 _ (List.mem_of_getElem? (i := 77) rfl)) rfl
theorem ml_X5_3 : Cond.methodLink zR5 3 objectInit ∈ z_T := z_in0 (zc_2 _ (List.mem_of_getElem? (i := 80) rfl)) rfl
theorem fl_X5_9 : Cond.fieldLink zR5 9 (zT5 0).1 (zT5 0).2.1 (zT5 0).2.2.1 ∈ z_T := z_in0 (zc_2 _ (List.mem_of_getElem? (i := 81) rfl)) rfl
theorem g_X5_9 : zGf zR5 9 5 0 3 := ⟨zR5, zT5, rfl, zi5, by decide, fl_X5_9⟩
theorem p_X5_9 : zPF zR5 9 5 0 3 (.array .int) := ⟨zR5, zT5, zt5, ⟨rfl, zi5, zt5_ok, zn5⟩, by decide, fl_X5_9, rfl, rfl, by decide +kernel⟩
theorem fl_X5_15 : Cond.fieldLink zR5 15 (zT5 1).1 (zT5 1).2.1 (zT5 1).2.2.1 ∈ z_T := z_in0 (zc_2 _ (List.mem_of_getElem? (i := 82) rfl)) rfl
theorem g_X5_15 : zGf zR5 15 5 1 3 := ⟨zR5, zT5, rfl, zi5, by decide, fl_X5_15⟩
theorem p_X5_15 : zPF zR5 15 5 1 3 (.array .int) := ⟨zR5, zT5, zt5, ⟨rfl, zi5, zt5_ok, zn5⟩, by decide, fl_X5_15, rfl, rfl, by decide +kernel⟩
theorem fl_X5_18 : Cond.fieldLink zR5 18 (zT5 2).1 (zT5 2).2.1 (zT5 2).2.2.1 ∈ z_T := z_in0 (zc_2 _ (List.mem_of_getElem? (i := 83) rfl)) rfl
theorem g_X5_18 : zGf zR5 18 5 2 3 := ⟨zR5, zT5, rfl, zi5, by decide, fl_X5_18⟩
theorem p_X5_18 : zPF zR5 18 5 2 3 (.array .int) := ⟨zR5, zT5, zt5, ⟨rfl, zi5, zt5_ok, zn5⟩, by decide, fl_X5_18, rfl, rfl, by decide +kernel⟩
theorem ml_X11_111 : Cond.methodLink zR11 111 (yN m_X3_beOne) ∈ z_T := z_in0 (zc_2 _ (List.mem_of_getElem? (i := 91) rfl)) rfl
theorem cc_X11_115 : Cond.constant zR11 115 (-1000000) ∈ z_T := z_in0 (zc_2 _ (List.mem_of_getElem? (i := 95) rfl)) rfl
theorem ml_X11_116 : Cond.methodLink zR11 116 (yN m_JA_fill2) ∈ z_T := z_in0 (zc_2 _ (List.mem_of_getElem? (i := 96) rfl)) rfl
theorem fl_X11_9 : Cond.fieldLink zR11 9 (zT11 0).1 (zT11 0).2.1 (zT11 0).2.2.1 ∈ z_T := z_in0 (zc_2 _ (List.mem_of_getElem? (i := 99) rfl)) rfl
theorem g_X11_9 : zGf zR11 9 11 0 19 := ⟨zR11, zT11, rfl, zi11, by decide, fl_X11_9⟩
theorem p_X11_9 : zPF zR11 9 11 0 19 (.array .byte) := ⟨zR11, zT11, zt11, ⟨rfl, zi11, zt11_ok, zn11⟩, by decide, fl_X11_9, rfl, rfl, by decide +kernel⟩
theorem fl_X11_18 : Cond.fieldLink zR11 18 (zT11 1).1 (zT11 1).2.1 (zT11 1).2.2.1 ∈ z_T := z_in0 (zc_2 _ (List.mem_of_getElem? (i := 100) rfl)) rfl
theorem g_X11_18 : zGf zR11 18 11 1 19 := ⟨zR11, zT11, rfl, zi11, by decide, fl_X11_18⟩
theorem p_X11_18 : zPF zR11 18 11 1 19 (.object "CoveredSigns$Scan") := ⟨zR11, zT11, zt11, ⟨rfl, zi11, zt11_ok, zn11⟩, by decide, fl_X11_18, rfl, rfl, by decide +kernel⟩
theorem fl_X11_25 : Cond.fieldLink zR11 25 (zT11 2).1 (zT11 2).2.1 (zT11 2).2.2.1 ∈ z_T := z_in0 (zc_2 _ (List.mem_of_getElem? (i := 101) rfl)) rfl
theorem g_X11_25 : zGf zR11 25 11 2 19 := ⟨zR11, zT11, rfl, zi11, by decide, fl_X11_25⟩
theorem p_X11_25 : zPF zR11 25 11 2 19 (.object "CoveredSigns$Alphabet") := ⟨zR11, zT11, zt11, ⟨rfl, zi11, zt11_ok, zn11⟩, by decide, fl_X11_25, rfl, rfl, by decide +kernel⟩
theorem fl_X11_34 : Cond.fieldLink zR11 34 (zT11 3).1 (zT11 3).2.1 (zT11 3).2.2.1 ∈ z_T := z_in0 (zc_2 _ (List.mem_of_getElem? (i := 102) rfl)) rfl
theorem g_X11_34 : zGf zR11 34 11 3 19 := ⟨zR11, zT11, rfl, zi11, by decide, fl_X11_34⟩
theorem p_X11_34 : zPF zR11 34 11 3 19 (.object "CoveredSigns$AlphabetText") := ⟨zR11, zT11, zt11, ⟨rfl, zi11, zt11_ok, zn11⟩, by decide, fl_X11_34, rfl, rfl, by decide +kernel⟩
theorem fl_X11_41 : Cond.fieldLink zR11 41 (zT11 4).1 (zT11 4).2.1 (zT11 4).2.2.1 ∈ z_T := z_in0 (zc_2 _ (List.mem_of_getElem? (i := 103) rfl)) rfl
theorem g_X11_41 : zGf zR11 41 11 4 19 := ⟨zR11, zT11, rfl, zi11, by decide, fl_X11_41⟩
theorem p_X11_41 : zPF zR11 41 11 4 19 (.object "CoveredSigns$Covers") := ⟨zR11, zT11, zt11, ⟨rfl, zi11, zt11_ok, zn11⟩, by decide, fl_X11_41, rfl, rfl, by decide +kernel⟩
theorem fl_X11_48 : Cond.fieldLink zR11 48 (zT11 5).1 (zT11 5).2.1 (zT11 5).2.2.1 ∈ z_T := z_in0 (zc_2 _ (List.mem_of_getElem? (i := 104) rfl)) rfl
theorem g_X11_48 : zGf zR11 48 11 5 19 := ⟨zR11, zT11, rfl, zi11, by decide, fl_X11_48⟩
theorem p_X11_48 : zPF zR11 48 11 5 19 (.object "CoveredSigns$RuleText") := ⟨zR11, zT11, zt11, ⟨rfl, zi11, zt11_ok, zn11⟩, by decide, fl_X11_48, rfl, rfl, by decide +kernel⟩
theorem fl_X11_55 : Cond.fieldLink zR11 55 (zT11 6).1 (zT11 6).2.1 (zT11 6).2.2.1 ∈ z_T := z_in0 (zc_2 _ (List.mem_of_getElem? (i := 105) rfl)) rfl
theorem g_X11_55 : zGf zR11 55 11 6 19 := ⟨zR11, zT11, rfl, zi11, by decide, fl_X11_55⟩
theorem p_X11_55 : zPF zR11 55 11 6 19 (.object "CoveredSigns$Scene") := ⟨zR11, zT11, zt11, ⟨rfl, zi11, zt11_ok, zn11⟩, by decide, fl_X11_55, rfl, rfl, by decide +kernel⟩
theorem fl_X11_59 : Cond.fieldLink zR11 59 (zT11 7).1 (zT11 7).2.1 (zT11 7).2.2.1 ∈ z_T := z_in0 (zc_2 _ (List.mem_of_getElem? (i := 106) rfl)) rfl
theorem g_X11_59 : zGf zR11 59 11 7 19 := ⟨zR11, zT11, rfl, zi11, by decide, fl_X11_59⟩
theorem p_X11_59 : zPF zR11 59 11 7 19 (.object "CoveredSigns$Scene") := ⟨zR11, zT11, zt11, ⟨rfl, zi11, zt11_ok, zn11⟩, by decide, fl_X11_59, rfl, rfl, by decide +kernel⟩
theorem fl_X11_62 : Cond.fieldLink zR11 62 (zT11 8).1 (zT11 8).2.1 (zT11 8).2.2.1 ∈ z_T := z_in0 (zc_2 _ (List.mem_of_getElem? (i := 107) rfl)) rfl
theorem g_X11_62 : zGf zR11 62 11 8 19 := ⟨zR11, zT11, rfl, zi11, by decide, fl_X11_62⟩
theorem p_X11_62 : zPF zR11 62 11 8 19 (.object "CoveredSigns$Scene") := ⟨zR11, zT11, zt11, ⟨rfl, zi11, zt11_ok, zn11⟩, by decide, fl_X11_62, rfl, rfl, by decide +kernel⟩
theorem fl_X11_65 : Cond.fieldLink zR11 65 (zT11 9).1 (zT11 9).2.1 (zT11 9).2.2.1 ∈ z_T := z_in0 (zc_2 _ (List.mem_of_getElem? (i := 108) rfl)) rfl
theorem g_X11_65 : zGf zR11 65 11 9 19 := ⟨zR11, zT11, rfl, zi11, by decide, fl_X11_65⟩
theorem p_X11_65 : zPF zR11 65 11 9 19 (.object "CoveredSigns$Scene") := ⟨zR11, zT11, zt11, ⟨rfl, zi11, zt11_ok, zn11⟩, by decide, fl_X11_65, rfl, rfl, by decide +kernel⟩
theorem fl_X11_73 : Cond.fieldLink zR11 73 (zT11 10).1 (zT11 10).2.1 (zT11 10).2.2.1 ∈ z_T := z_in0 (zc_2 _ (List.mem_of_getElem? (i := 109) rfl)) rfl
theorem g_X11_73 : zGf zR11 73 11 10 19 := ⟨zR11, zT11, rfl, zi11, by decide, fl_X11_73⟩
theorem p_X11_73 : zPF zR11 73 11 10 19 (.object "CoveredSigns$Tangle") := ⟨zR11, zT11, zt11, ⟨rfl, zi11, zt11_ok, zn11⟩, by decide, fl_X11_73, rfl, rfl, by decide +kernel⟩
theorem fl_X11_82 : Cond.fieldLink zR11 82 (zT11 11).1 (zT11 11).2.1 (zT11 11).2.2.1 ∈ z_T := z_in0 (zc_2 _ (List.mem_of_getElem? (i := 110) rfl)) rfl
theorem g_X11_82 : zGf zR11 82 11 11 19 := ⟨zR11, zT11, rfl, zi11, by decide, fl_X11_82⟩
theorem p_X11_82 : zPF zR11 82 11 11 19 (.object "CoveredSigns$Repair") := ⟨zR11, zT11, zt11, ⟨rfl, zi11, zt11_ok, zn11⟩, by decide, fl_X11_82, rfl, rfl, by decide +kernel⟩
theorem fl_X11_89 : Cond.fieldLink zR11 89 (zT11 12).1 (zT11 12).2.1 (zT11 12).2.2.1 ∈ z_T := z_in0 (zc_2 _ (List.mem_of_getElem? (i := 111) rfl)) rfl
theorem g_X11_89 : zGf zR11 89 11 12 19 := ⟨zR11, zT11, rfl, zi11, by decide, fl_X11_89⟩
theorem p_X11_89 : zPF zR11 89 11 12 19 (.object "CoveredSigns$LeastPart") := ⟨zR11, zT11, zt11, ⟨rfl, zi11, zt11_ok, zn11⟩, by decide, fl_X11_89, rfl, rfl, by decide +kernel⟩
theorem fl_X11_96 : Cond.fieldLink zR11 96 (zT11 13).1 (zT11 13).2.1 (zT11 13).2.2.1 ∈ z_T := z_in0 (zc_2 _ (List.mem_of_getElem? (i := 112) rfl)) rfl
theorem g_X11_96 : zGf zR11 96 11 13 19 := ⟨zR11, zT11, rfl, zi11, by decide, fl_X11_96⟩
theorem p_X11_96 : zPF zR11 96 11 13 19 (.object "CoveredSigns$Codes") := ⟨zR11, zT11, zt11, ⟨rfl, zi11, zt11_ok, zn11⟩, by decide, fl_X11_96, rfl, rfl, by decide +kernel⟩
theorem fl_X11_103 : Cond.fieldLink zR11 103 (zT11 14).1 (zT11 14).2.1 (zT11 14).2.2.1 ∈ z_T := z_in0 (zc_2 _ (List.mem_of_getElem? (i := 113) rfl)) rfl
theorem g_X11_103 : zGf zR11 103 11 14 19 := ⟨zR11, zT11, rfl, zi11, by decide, fl_X11_103⟩
theorem p_X11_103 : zPF zR11 103 11 14 19 (.object "CoveredSigns$Outlook") := ⟨zR11, zT11, zt11, ⟨rfl, zi11, zt11_ok, zn11⟩, by decide, fl_X11_103, rfl, rfl, by decide +kernel⟩
theorem fl_X11_107 : Cond.fieldLink zR11 107 (zT11 15).1 (zT11 15).2.1 (zT11 15).2.2.1 ∈ z_T := z_in0 (zc_2 _ (List.mem_of_getElem? (i := 114) rfl)) rfl
theorem g_X11_107 : zGf zR11 107 11 15 19 := ⟨zR11, zT11, rfl, zi11, by decide, fl_X11_107⟩
theorem p_X11_107 : zPF zR11 107 11 15 19 (.array .int) := ⟨zR11, zT11, zt11, ⟨rfl, zi11, zt11_ok, zn11⟩, by decide, fl_X11_107, rfl, rfl, by decide +kernel⟩
theorem fl_X11_404 : Cond.fieldLink zR11 404 (zT11 16).1 (zT11 16).2.1 (zT11 16).2.2.1 ∈ z_T := z_in0 (zc_2 _ (List.mem_of_getElem? (i := 115) rfl)) rfl
theorem g_X11_404 : zGf zR11 404 11 16 19 := ⟨zR11, zT11, rfl, zi11, by decide, fl_X11_404⟩
theorem p_X11_404 : zPf zR11 404 11 16 19 .boolean := ⟨zR11, zT11, zt11, ⟨rfl, zi11, zt11_ok, zn11⟩, by decide, fl_X11_404, rfl, by decide +kernel⟩
theorem fl_X11_122 : Cond.fieldLink zR11 122 (zT11 17).1 (zT11 17).2.1 (zT11 17).2.2.1 ∈ z_T := z_in0 (zc_2 _ (List.mem_of_getElem? (i := 116) rfl)) rfl
theorem g_X11_122 : zGf zR11 122 11 17 19 := ⟨zR11, zT11, rfl, zi11, by decide, fl_X11_122⟩
theorem p_X11_122 : zPf zR11 122 11 17 19 .int := ⟨zR11, zT11, zt11, ⟨rfl, zi11, zt11_ok, zn11⟩, by decide, fl_X11_122, rfl, by decide +kernel⟩
theorem fl_X11_154 : Cond.fieldLink zR11 154 (zT11 18).1 (zT11 18).2.1 (zT11 18).2.2.1 ∈ z_T := z_in0 (zc_2 _ (List.mem_of_getElem? (i := 117) rfl)) rfl
theorem g_X11_154 : zGf zR11 154 11 18 19 := ⟨zR11, zT11, rfl, zi11, by decide, fl_X11_154⟩
theorem p_X11_154 : zPf zR11 154 11 18 19 .int := ⟨zR11, zT11, zt11, ⟨rfl, zi11, zt11_ok, zn11⟩, by decide, fl_X11_154, rfl, by decide +kernel⟩
theorem ml_L_93 : Cond.methodLink zRL 93 (yN m_X11_feed) ∈ z_T := z_in0 (zc_2 _ (List.mem_of_getElem? (i := 157) rfl)) rfl
theorem ml_X11_126 : Cond.methodLink zR11 126 (yN m_X11_putNumber) ∈ z_T := z_in0 (zc_2 _ (List.mem_of_getElem? (i := 161) rfl)) rfl
theorem ml_L_111 : Cond.methodLink zRL 111 (yN m_X11_fault) ∈ z_T := z_in0 (zc_2 _ (List.mem_of_getElem? (i := 165) rfl)) rfl
theorem ml_X11_189 : Cond.methodLink zR11 189 (yN m_X8_place) ∈ z_T := z_in0 (zc_2 _ (List.mem_of_getElem? (i := 169) rfl)) rfl
theorem ml_L_137 : Cond.methodLink zRL 137 (yN m_X11_confusions) ∈ z_T := z_in0 (zc_2 _ (List.mem_of_getElem? (i := 173) rfl)) rfl
theorem ml_X11_239 : Cond.methodLink zR11 239 (yN m_X11_weave) ∈ z_T := z_in0 (zc_2 _ (List.mem_of_getElem? (i := 177) rfl)) rfl
theorem ml_X11_408 : Cond.methodLink zR11 408 (yN m_X10_weave) ∈ z_T := z_in0 (zc_2 _ (List.mem_of_getElem? (i := 181) rfl)) rfl
theorem ml_X10_31 : Cond.methodLink zR10 31 Lib.Math.min.name ∈ z_T := z_in0 (zc_2 _ (List.mem_of_getElem? (i := 185) rfl)) rfl
theorem ml_X10_38 : Cond.methodLink zR10 38 (yN m_X0_cells) ∈ z_T := z_in0 (zc_2 _ (List.mem_of_getElem? (i := 188) rfl)) rfl
theorem ml_X10_50 : Cond.methodLink zR10 50 (yN m_X0_paintOf) ∈ z_T := z_in0 (zc_2 _ (List.mem_of_getElem? (i := 192) rfl)) rfl
theorem ml_X0_56 : Cond.methodLink zR0 56 (yN m_X0_has) ∈ z_T := z_in0 (zc_2 _ (List.mem_of_getElem? (i := 196) rfl)) rfl
theorem ml_X10_54 : Cond.methodLink zR10 54 (yN m_X10_settle) ∈ z_T := z_in0 (zc_2 _ (List.mem_of_getElem? (i := 200) rfl)) rfl
theorem ml_X10_64 : Cond.methodLink zR10 64 (yN m_X10_isSign) ∈ z_T := z_in0 (zc_2 _ (List.mem_of_getElem? (i := 204) rfl)) rfl
theorem ml_X10_68 : Cond.methodLink zR10 68 (yN m_X3_firstMixing) ∈ z_T := z_in0 (zc_2 _ (List.mem_of_getElem? (i := 208) rfl)) rfl
theorem ml_X3_34 : Cond.methodLink zR3 34 (yN m_JI_bitCount) ∈ z_T := z_in0 (zc_2 _ (List.mem_of_getElem? (i := 212) rfl)) rfl
theorem cc_JI_265 : Cond.constant "java/lang/Integer" 265 (1431655765) ∈ z_T := z_in0 (zc_2 _ (List.mem_of_getElem? (i := 215) rfl)) rfl
theorem cc_JI_266 : Cond.constant "java/lang/Integer" 266 (858993459) ∈ z_T := z_in0 (zc_2 _ (List.mem_of_getElem? (i := 216) rfl)) rfl
theorem cc_JI_267 : Cond.constant "java/lang/Integer" 267 (252645135) ∈ z_T := z_in0 (zc_2 _ (List.mem_of_getElem? (i := 217) rfl)) rfl
theorem ml_X10_73 : Cond.methodLink zR10 73 (yN m_X10_board) ∈ z_T := z_in0 (zc_2 _ (List.mem_of_getElem? (i := 218) rfl)) rfl
theorem ml_X10_76 : Cond.methodLink zR10 76 (yN m_X3_mixingCells) ∈ z_T := z_in0 (zc_2 _ (List.mem_of_getElem? (i := 222) rfl)) rfl
theorem ml_L_156 : Cond.methodLink zRL 156 (yN m_X11_forget) ∈ z_T := z_in0 (zc_2 _ (List.mem_of_getElem? (i := 226) rfl)) rfl
theorem ml_L_160 : Cond.methodLink zRL 160 (yN m_X11_words) ∈ z_T := z_in0 (zc_2 _ (List.mem_of_getElem? (i := 230) rfl)) rfl
theorem ml_X11_279 : Cond.methodLink zR11 279 (yN m_X0_lengthOf) ∈ z_T := z_in0 (zc_2 _ (List.mem_of_getElem? (i := 234) rfl)) rfl
theorem ml_X11_282 : Cond.methodLink zR11 282 (yN m_X11_rowMayBe) ∈ z_T := z_in0 (zc_2 _ (List.mem_of_getElem? (i := 238) rfl)) rfl
theorem ml_X11_414 : Cond.methodLink zR11 414 (yN m_X9_hiddenOf) ∈ z_T := z_in0 (zc_3 _ (List.mem_of_getElem? (i := 2) rfl)) rfl
theorem ml_X11_417 : Cond.methodLink zR11 417 (yN m_X9_paintOf) ∈ z_T := z_in0 (zc_3 _ (List.mem_of_getElem? (i := 6) rfl)) rfl
theorem ml_X11_266 : Cond.methodLink zR11 266 (yN m_X0_within) ∈ z_T := z_in0 (zc_3 _ (List.mem_of_getElem? (i := 10) rfl)) rfl
theorem ml_X0_64 : Cond.methodLink zR0 64 (yN m_X0_paintOf) ∈ z_T := z_in0 (zc_3 _ (List.mem_of_getElem? (i := 14) rfl)) rfl
theorem ml_X0_67 : Cond.methodLink zR0 67 (yN m_JI_bitCount) ∈ z_T := z_in0 (zc_3 _ (List.mem_of_getElem? (i := 15) rfl)) rfl
theorem ml_X11_222 : Cond.methodLink zR11 222 (yN m_X0_letterOf) ∈ z_T := z_in0 (zc_3 _ (List.mem_of_getElem? (i := 16) rfl)) rfl
theorem ml_X0_60 : Cond.methodLink zR0 60 (yN m_X0_lengthOf) ∈ z_T := z_in0 (zc_3 _ (List.mem_of_getElem? (i := 20) rfl)) rfl
theorem ml_L_164 : Cond.methodLink zRL 164 (yN m_X11_sure) ∈ z_T := z_in0 (zc_3 _ (List.mem_of_getElem? (i := 21) rfl)) rfl
theorem ml_X11_286 : Cond.methodLink zR11 286 (yN m_X11_words) ∈ z_T := z_in0 (zc_3 _ (List.mem_of_getElem? (i := 25) rfl)) rfl
theorem ml_L_177 : Cond.methodLink zRL 177 (yN m_X11_strangers) ∈ z_T := z_in0 (zc_3 _ (List.mem_of_getElem? (i := 26) rfl)) rfl
theorem ml_X11_311 : Cond.methodLink zR11 311 (yN m_X0_isStranger) ∈ z_T := z_in0 (zc_3 _ (List.mem_of_getElem? (i := 30) rfl)) rfl
theorem ml_X0_72 : Cond.methodLink zR0 72 (yN m_X0_familyOf) ∈ z_T := z_in0 (zc_3 _ (List.mem_of_getElem? (i := 34) rfl)) rfl
theorem ml_X0_75 : Cond.methodLink zR0 75 (yN m_X0_unlikeCells) ∈ z_T := z_in0 (zc_3 _ (List.mem_of_getElem? (i := 38) rfl)) rfl
theorem ml_X0_79 : Cond.methodLink zR0 79 Lib.Math.min.name ∈ z_T := z_in0 (zc_3 _ (List.mem_of_getElem? (i := 42) rfl)) rfl
theorem ml_L_184 : Cond.methodLink zRL 184 (yN m_X11_bound) ∈ z_T := z_in0 (zc_3 _ (List.mem_of_getElem? (i := 43) rfl)) rfl
theorem ml_X11_249 : Cond.methodLink zR11 249 (yN m_X11_keptAt) ∈ z_T := z_in0 (zc_3 _ (List.mem_of_getElem? (i := 47) rfl)) rfl
theorem ml_X11_325 : Cond.methodLink zR11 325 (yN m_X10_mostApartPairs) ∈ z_T := z_in0 (zc_3 _ (List.mem_of_getElem? (i := 51) rfl)) rfl
theorem ml_X10_85 : Cond.methodLink zR10 85 (yN m_X10_degree) ∈ z_T := z_in0 (zc_3 _ (List.mem_of_getElem? (i := 55) rfl)) rfl
theorem ml_X10_80 : Cond.methodLink zR10 80 (yN m_JI_bitCount) ∈ z_T := z_in0 (zc_3 _ (List.mem_of_getElem? (i := 59) rfl)) rfl
theorem ml_X10_88 : Cond.methodLink zR10 88 (yN m_X10_pairUp) ∈ z_T := z_in0 (zc_3 _ (List.mem_of_getElem? (i := 60) rfl)) rfl
theorem ml_X10_92 : Cond.methodLink zR10 92 Lib.Math.max.name ∈ z_T := z_in0 (zc_3 _ (List.mem_of_getElem? (i := 64) rfl)) rfl
theorem ml_X11_256 : Cond.methodLink zR11 256 (yN m_X11_keep) ∈ z_T := z_in0 (zc_3 _ (List.mem_of_getElem? (i := 67) rfl)) rfl
theorem ml_L_191 : Cond.methodLink zRL 191 (yN m_X11_most) ∈ z_T := z_in0 (zc_3 _ (List.mem_of_getElem? (i := 71) rfl)) rfl
theorem ml_X11_335 : Cond.methodLink zR11 335 (yN m_X0_cells) ∈ z_T := z_in0 (zc_3 _ (List.mem_of_getElem? (i := 75) rfl)) rfl
theorem ml_X11_337 : Cond.methodLink zR11 337 (yN m_X2_largest) ∈ z_T := z_in0 (zc_3 _ (List.mem_of_getElem? (i := 76) rfl)) rfl
theorem ml_X2_49 : Cond.methodLink zR2 49 (yN m_X2_gather) ∈ z_T := z_in0 (zc_3 _ (List.mem_of_getElem? (i := 80) rfl)) rfl
theorem ml_X2_25 : Cond.methodLink zR2 25 (yN m_JA_fill) ∈ z_T := z_in0 (zc_3 _ (List.mem_of_getElem? (i := 84) rfl)) rfl
theorem ml_X2_31 : Cond.methodLink zR2 31 (yN m_X2_allBelowAreMixed) ∈ z_T := z_in0 (zc_3 _ (List.mem_of_getElem? (i := 87) rfl)) rfl
theorem ml_X2_45 : Cond.methodLink zR2 45 (yN m_X2_has) ∈ z_T := z_in0 (zc_3 _ (List.mem_of_getElem? (i := 91) rfl)) rfl
theorem ml_X2_35 : Cond.methodLink zR2 35 (yN m_X3_firstMixing) ∈ z_T := z_in0 (zc_3 _ (List.mem_of_getElem? (i := 94) rfl)) rfl
theorem ml_X2_41 : Cond.methodLink zR2 41 (yN m_X2_put) ∈ z_T := z_in0 (zc_3 _ (List.mem_of_getElem? (i := 95) rfl)) rfl
theorem ml_X2_61 : Cond.methodLink zR2 61 (yN m_X3_largest) ∈ z_T := z_in0 (zc_3 _ (List.mem_of_getElem? (i := 98) rfl)) rfl
theorem ml_X3_25 : Cond.methodLink zR3 25 Lib.Math.max.name ∈ z_T := z_in0 (zc_3 _ (List.mem_of_getElem? (i := 102) rfl)) rfl
theorem ml_X2_65 : Cond.methodLink zR2 65 (yN m_X2_ball) ∈ z_T := z_in0 (zc_3 _ (List.mem_of_getElem? (i := 103) rfl)) rfl
theorem ml_X2_76 : Cond.methodLink zR2 76 Lib.Math.max.name ∈ z_T := z_in0 (zc_3 _ (List.mem_of_getElem? (i := 107) rfl)) rfl
theorem ml_X2_81 : Cond.methodLink zR2 81 Lib.Math.min.name ∈ z_T := z_in0 (zc_3 _ (List.mem_of_getElem? (i := 108) rfl)) rfl
theorem ml_X2_72 : Cond.methodLink zR2 72 (yN m_X2_grow) ∈ z_T := z_in0 (zc_3 _ (List.mem_of_getElem? (i := 109) rfl)) rfl
theorem ml_X2_84 : Cond.methodLink zR2 84 (yN m_X2_arrange) ∈ z_T := z_in0 (zc_3 _ (List.mem_of_getElem? (i := 113) rfl)) rfl
theorem ml_X2_90 : Cond.methodLink zR2 90 (yN m_JJ_bitCount) ∈ z_T := z_in0 (zc_3 _ (List.mem_of_getElem? (i := 117) rfl)) rfl
theorem cc_JJ_314 : Cond.constantLong "java/lang/Long" 314 (6148914691236517205) ∈ z_T := z_in0 (zc_3 _ (List.mem_of_getElem? (i := 120) rfl)) rfl
theorem cc_JJ_316 : Cond.constantLong "java/lang/Long" 316 (3689348814741910323) ∈ z_T := z_in0 (zc_3 _ (List.mem_of_getElem? (i := 121) rfl)) rfl
theorem cc_JJ_318 : Cond.constantLong "java/lang/Long" 318 (1085102592571150095) ∈ z_T := z_in0 (zc_3 _ (List.mem_of_getElem? (i := 122) rfl)) rfl
theorem cc_X2_88 : Cond.constantLong zR2 88 (-1) ∈ z_T := z_in0 (zc_3 _ (List.mem_of_getElem? (i := 123) rfl)) rfl
theorem ml_L_195 : Cond.methodLink zRL 195 (yN m_X11_taken) ∈ z_T := z_in0 (zc_3 _ (List.mem_of_getElem? (i := 124) rfl)) rfl
theorem ml_X11_341 : Cond.methodLink zR11 341 (yN m_X2_rowByRow) ∈ z_T := z_in0 (zc_3 _ (List.mem_of_getElem? (i := 128) rfl)) rfl
theorem ml_X2_53 : Cond.methodLink zR2 53 (yN m_X2_blockFrom) ∈ z_T := z_in0 (zc_3 _ (List.mem_of_getElem? (i := 132) rfl)) rfl
theorem ml_L_203 : Cond.methodLink zRL 203 (yN m_X11_leave) ∈ z_T := z_in0 (zc_3 _ (List.mem_of_getElem? (i := 136) rfl)) rfl
theorem ml_X11_157 : Cond.methodLink zR11 157 (yN m_X5_spoil) ∈ z_T := z_in0 (zc_3 _ (List.mem_of_getElem? (i := 140) rfl)) rfl
theorem ml_X5_21 : Cond.methodLink zR5 21 (yN m_JA_fill2) ∈ z_T := z_in0 (zc_3 _ (List.mem_of_getElem? (i := 144) rfl)) rfl
theorem ml_L_218 : Cond.methodLink zRL 218 (yN m_X11_all) ∈ z_T := z_in0 (zc_3 _ (List.mem_of_getElem? (i := 145) rfl)) rfl
theorem ml_X11_366 : Cond.methodLink zR11 366 (yN m_X11_isKnown) ∈ z_T := z_in0 (zc_3 _ (List.mem_of_getElem? (i := 149) rfl)) rfl
theorem ml_X11_359 : Cond.methodLink zR11 359 (yN m_X11_guessBits) ∈ z_T := z_in0 (zc_3 _ (List.mem_of_getElem? (i := 153) rfl)) rfl
theorem ml_X11_355 : Cond.methodLink zR11 355 (yN m_X5_columns) ∈ z_T := z_in0 (zc_3 _ (List.mem_of_getElem? (i := 157) rfl)) rfl
theorem ml_X5_27 : Cond.methodLink zR5 27 (yN m_X5_openColumns) ∈ z_T := z_in0 (zc_3 _ (List.mem_of_getElem? (i := 161) rfl)) rfl
theorem ml_X5_31 : Cond.methodLink zR5 31 (yN m_X5_isHidden) ∈ z_T := z_in0 (zc_3 _ (List.mem_of_getElem? (i := 165) rfl)) rfl
theorem ml_X5_35 : Cond.methodLink zR5 35 (yN m_X9_farOf) ∈ z_T := z_in0 (zc_3 _ (List.mem_of_getElem? (i := 169) rfl)) rfl
theorem ml_X5_41 : Cond.methodLink zR5 41 (yN m_X9_leftOf) ∈ z_T := z_in0 (zc_3 _ (List.mem_of_getElem? (i := 173) rfl)) rfl
theorem ml_X11_393 : Cond.methodLink zR11 393 (yN m_X0_board) ∈ z_T := z_in0 (zc_3 _ (List.mem_of_getElem? (i := 177) rfl)) rfl
theorem ml_X0_52 : Cond.methodLink zR0 52 (yN m_X0_cells) ∈ z_T := z_in0 (zc_3 _ (List.mem_of_getElem? (i := 181) rfl)) rfl
theorem ml_X11_418 : Cond.methodLink zR11 418 (yN m_X0_columnCells) ∈ z_T := z_in0 (zc_3 _ (List.mem_of_getElem? (i := 182) rfl)) rfl
theorem ml_X11_421 : Cond.methodLink zR11 421 (yN m_X9_signOf) ∈ z_T := z_in0 (zc_3 _ (List.mem_of_getElem? (i := 186) rfl)) rfl
theorem ml_X11_208 : Cond.methodLink zR11 208 (yN m_X0_paintOf) ∈ z_T := z_in0 (zc_3 _ (List.mem_of_getElem? (i := 190) rfl)) rfl
theorem ml_L_223 : Cond.methodLink zRL 223 (yN m_X11_voyage) ∈ z_T := z_in0 (zc_3 _ (List.mem_of_getElem? (i := 191) rfl)) rfl
theorem ml_X11_370 : Cond.methodLink zR11 370 (yN m_X11_standingIsTold) ∈ z_T := z_in0 (zc_3 _ (List.mem_of_getElem? (i := 195) rfl)) rfl
theorem ml_X11_424 : Cond.methodLink zR11 424 (yN m_X11_standingSpells) ∈ z_T := z_in0 (zc_3 _ (List.mem_of_getElem? (i := 199) rfl)) rfl
theorem ml_X11_373 : Cond.methodLink zR11 373 (yN m_X11_wordIsKnown) ∈ z_T := z_in0 (zc_3 _ (List.mem_of_getElem? (i := 203) rfl)) rfl
theorem ml_X11_427 : Cond.methodLink zR11 427 (yN m_X11_standingMayBe) ∈ z_T := z_in0 (zc_3 _ (List.mem_of_getElem? (i := 207) rfl)) rfl
theorem ml_L_227 : Cond.methodLink zRL 227 (yN m_X11_image) ∈ z_T := z_in0 (zc_3 _ (List.mem_of_getElem? (i := 211) rfl)) rfl
theorem ml_X11_377 : Cond.methodLink zR11 377 (yN m_X11_imageAt) ∈ z_T := z_in0 (zc_3 _ (List.mem_of_getElem? (i := 215) rfl)) rfl
theorem ml_X11_381 : Cond.methodLink zR11 381 (yN m_X9_copyFrom) ∈ z_T := z_in0 (zc_3 _ (List.mem_of_getElem? (i := 219) rfl)) rfl
theorem ml_X9_37 : Cond.methodLink zR9 37 arraycopyName ∈ z_T := z_in0 (zc_3 _ (List.mem_of_getElem? (i := 223) rfl)) rfl
theorem ml_L_231 : Cond.methodLink zRL 231 (yN m_X11_restore) ∈ z_T := z_in0 (zc_3 _ (List.mem_of_getElem? (i := 226) rfl)) rfl
theorem ml_X11_160 : Cond.methodLink zR11 160 (yN m_X11_renew) ∈ z_T := z_in0 (zc_3 _ (List.mem_of_getElem? (i := 230) rfl)) rfl
theorem ml_L_235 : Cond.methodLink zRL 235 (yN m_X11_count) ∈ z_T := z_in0 (zc_3 _ (List.mem_of_getElem? (i := 234) rfl)) rfl
theorem ml_L_98 : Cond.methodLink zRL 98 (yN m_L_alphabet) ∈ z_T := z_in0 (zc_3 _ (List.mem_of_getElem? (i := 238) rfl)) rfl
theorem cl_L_13 : Cond.classLink zRL 13 "java/lang/IllegalArgumentException" ∈ z_T := z_in0 (zc_4 _ (List.mem_of_getElem? (i := 1) rfl)) rfl
theorem ml_L_7 : Cond.methodLink zRL 7 (yN m_X11_alphabet) ∈ z_T := z_in0 (zc_4 _ (List.mem_of_getElem? (i := 2) rfl)) rfl
theorem ml_X11_129 : Cond.methodLink zR11 129 (yN m_X11_needBytes) ∈ z_T := z_in0 (zc_4 _ (List.mem_of_getElem? (i := 6) rfl)) rfl
theorem cl_X11_198 : Cond.classLink zR11 198 "java/lang/IllegalArgumentException" ∈ z_T := z_in0 (zc_4 _ (List.mem_of_getElem? (i := 10) rfl)) rfl
theorem ca_856 : Cond.castable "java/lang/IllegalArgumentException" "java/lang/IllegalArgumentException" ∈ z_N := z_inN0 (zc_4 _ (List.mem_of_getElem? (i := 12) rfl)) rfl
theorem ml_X11_132 : Cond.methodLink zR11 132 (yN m_X8_begin) ∈ z_T := z_in0 (zc_4 _ (List.mem_of_getElem? (i := 77) rfl)) rfl
theorem ml_X8_19 : Cond.methodLink zR8 19 Lib.Math.min.name ∈ z_T := z_in0 (zc_4 _ (List.mem_of_getElem? (i := 81) rfl)) rfl
theorem ml_X8_25 : Cond.methodLink zR8 25 Lib.Math.max.name ∈ z_T := z_in0 (zc_4 _ (List.mem_of_getElem? (i := 82) rfl)) rfl
theorem ml_X11_135 : Cond.methodLink zR11 135 (yN m_X1_parse) ∈ z_T := z_in0 (zc_4 _ (List.mem_of_getElem? (i := 83) rfl)) rfl
theorem ml_X1_22 : Cond.methodLink zR1 22 (yN m_X0_clear) ∈ z_T := z_in0 (zc_4 _ (List.mem_of_getElem? (i := 87) rfl)) rfl
theorem ml_X1_25 : Cond.methodLink zR1 25 (yN m_X8_ended) ∈ z_T := z_in0 (zc_4 _ (List.mem_of_getElem? (i := 91) rfl)) rfl
theorem ml_X8_37 : Cond.methodLink zR8 37 (yN m_X8_next) ∈ z_T := z_in0 (zc_4 _ (List.mem_of_getElem? (i := 95) rfl)) rfl
theorem ml_X1_31 : Cond.methodLink zR1 31 (yN m_X1_clause) ∈ z_T := z_in0 (zc_4 _ (List.mem_of_getElem? (i := 99) rfl)) rfl
theorem ml_X1_39 : Cond.methodLink zR1 39 (yN m_X8_next) ∈ z_T := z_in0 (zc_4 _ (List.mem_of_getElem? (i := 103) rfl)) rfl
theorem ml_X1_45 : Cond.methodLink zR1 45 (yN m_X8_takesWord) ∈ z_T := z_in0 (zc_4 _ (List.mem_of_getElem? (i := 105) rfl)) rfl
theorem ml_X8_53 : Cond.methodLink zR8 53 (yN m_X8_lettersFrom) ∈ z_T := z_in0 (zc_4 _ (List.mem_of_getElem? (i := 109) rfl)) rfl
theorem ml_X8_41 : Cond.methodLink zR8 41 (yN m_X8_byteAt) ∈ z_T := z_in0 (zc_4 _ (List.mem_of_getElem? (i := 113) rfl)) rfl
theorem ml_X8_56 : Cond.methodLink zR8 56 (yN m_JS_length) ∈ z_T := z_in0 (zc_4 _ (List.mem_of_getElem? (i := 117) rfl)) rfl
theorem ml_JS_335 : Cond.methodLink "java/lang/String" 335 (yN m_JS_coder) ∈ z_T := z_in0 (zc_4 _ (List.mem_of_getElem? (i := 121) rfl)) rfl
theorem ml_X8_60 : Cond.methodLink zR8 60 (yN m_JS_charAt) ∈ z_T := z_in0 (zc_4 _ (List.mem_of_getElem? (i := 127) rfl)) rfl
theorem ml_JS_492 : Cond.methodLink "java/lang/String" 492 (yN m_JS_isLatin1) ∈ z_T := z_in0 (zc_4 _ (List.mem_of_getElem? (i := 131) rfl)) rfl
theorem ml_JS_495 : Cond.methodLink "java/lang/String" 495 (yN m_JL_charAt) ∈ z_T := z_in0 (zc_4 _ (List.mem_of_getElem? (i := 135) rfl)) rfl
theorem ml_JL_9 : Cond.methodLink "java/lang/StringLatin1" 9 (yN m_JS_checkIndex) ∈ z_T := z_in0 (zc_4 _ (List.mem_of_getElem? (i := 138) rfl)) rfl
theorem ml_JS_1059 : Cond.methodLink "java/lang/String" 1059 (yN m_JP_checkIndex) ∈ z_T := z_in0 (zc_4 _ (List.mem_of_getElem? (i := 143) rfl)) rfl
theorem ml_X1_49 : Cond.methodLink zR1 49 (yN m_X1_hasRoom) ∈ z_T := z_in0 (zc_4 _ (List.mem_of_getElem? (i := 165) rfl)) rfl
theorem ml_X1_61 : Cond.methodLink zR1 61 (yN m_X8_blame) ∈ z_T := z_in0 (zc_4 _ (List.mem_of_getElem? (i := 169) rfl)) rfl
theorem ml_X1_53 : Cond.methodLink zR1 53 (yN m_X1_size) ∈ z_T := z_in0 (zc_4 _ (List.mem_of_getElem? (i := 173) rfl)) rfl
theorem ml_X1_101 : Cond.methodLink zR1 101 (yN m_X8_number) ∈ z_T := z_in0 (zc_4 _ (List.mem_of_getElem? (i := 177) rfl)) rfl
theorem ml_X8_49 : Cond.methodLink zR8 49 (yN m_X8_blame) ∈ z_T := z_in0 (zc_4 _ (List.mem_of_getElem? (i := 181) rfl)) rfl
theorem ml_X1_58 : Cond.methodLink zR1 58 (yN m_X0_addSign) ∈ z_T := z_in0 (zc_4 _ (List.mem_of_getElem? (i := 183) rfl)) rfl
theorem ml_X1_66 : Cond.methodLink zR1 66 (yN m_X1_hasLatest) ∈ z_T := z_in0 (zc_4 _ (List.mem_of_getElem? (i := 188) rfl)) rfl
theorem ml_X1_69 : Cond.methodLink zR1 69 (yN m_X1_stroke) ∈ z_T := z_in0 (zc_4 _ (List.mem_of_getElem? (i := 192) rfl)) rfl
theorem ml_X1_111 : Cond.methodLink zR1 111 (yN m_X0_paintOf) ∈ z_T := z_in0 (zc_4 _ (List.mem_of_getElem? (i := 196) rfl)) rfl
theorem ml_X1_115 : Cond.methodLink zR1 115 (yN m_X0_setLatest) ∈ z_T := z_in0 (zc_4 _ (List.mem_of_getElem? (i := 197) rfl)) rfl
theorem ml_X1_77 : Cond.methodLink zR1 77 (yN m_X1_clean) ∈ z_T := z_in0 (zc_4 _ (List.mem_of_getElem? (i := 203) rfl)) rfl
theorem ml_X1_81 : Cond.methodLink zR1 81 (yN m_X1_oneMore) ∈ z_T := z_in0 (zc_4 _ (List.mem_of_getElem? (i := 208) rfl)) rfl
theorem ml_X1_119 : Cond.methodLink zR1 119 (yN m_X0_halfTurned) ∈ z_T := z_in0 (zc_4 _ (List.mem_of_getElem? (i := 212) rfl)) rfl
theorem ml_X1_122 : Cond.methodLink zR1 122 (yN m_X0_mirrored) ∈ z_T := z_in0 (zc_4 _ (List.mem_of_getElem? (i := 216) rfl)) rfl
theorem ml_X1_89 : Cond.methodLink zR1 89 (yN m_X1_kin) ∈ z_T := z_in0 (zc_4 _ (List.mem_of_getElem? (i := 222) rfl)) rfl
theorem ml_X1_125 : Cond.methodLink zR1 125 (yN m_X0_setFamily) ∈ z_T := z_in0 (zc_4 _ (List.mem_of_getElem? (i := 226) rfl)) rfl
theorem ml_X1_94 : Cond.methodLink zR1 94 (yN m_X1_spelling) ∈ z_T := z_in0 (zc_4 _ (List.mem_of_getElem? (i := 231) rfl)) rfl
theorem ml_X1_132 : Cond.methodLink zR1 132 (yN m_X8_lettersFrom) ∈ z_T := z_in0 (zc_4 _ (List.mem_of_getElem? (i := 235) rfl)) rfl
theorem ml_X1_135 : Cond.methodLink zR1 135 (yN m_X8_byteAt) ∈ z_T := z_in0 (zc_4 _ (List.mem_of_getElem? (i := 236) rfl)) rfl
theorem ml_X1_138 : Cond.methodLink zR1 138 (yN m_X0_has) ∈ z_T := z_in0 (zc_4 _ (List.mem_of_getElem? (i := 237) rfl)) rfl
theorem ml_X1_141 : Cond.methodLink zR1 141 (yN m_X0_addLetter) ∈ z_T := z_in0 (zc_4 _ (List.mem_of_getElem? (i := 238) rfl)) rfl
theorem ml_X1_144 : Cond.methodLink zR1 144 (yN m_X8_jump) ∈ z_T := z_in0 (zc_5 _ (List.mem_of_getElem? (i := 2) rfl)) rfl
theorem ml_X1_147 : Cond.methodLink zR1 147 (yN m_X0_endWord) ∈ z_T := z_in0 (zc_5 _ (List.mem_of_getElem? (i := 6) rfl)) rfl
theorem ml_X1_35 : Cond.methodLink zR1 35 (yN m_X8_needsMark) ∈ z_T := z_in0 (zc_5 _ (List.mem_of_getElem? (i := 10) rfl)) rfl
theorem ml_X8_45 : Cond.methodLink zR8 45 (yN m_X8_takesMark) ∈ z_T := z_in0 (zc_5 _ (List.mem_of_getElem? (i := 14) rfl)) rfl
theorem ml_X11_139 : Cond.methodLink zR11 139 (yN m_X8_kind) ∈ z_T := z_in0 (zc_5 _ (List.mem_of_getElem? (i := 18) rfl)) rfl
theorem ml_X11_143 : Cond.methodLink zR11 143 (yN m_X1_result) ∈ z_T := z_in0 (zc_5 _ (List.mem_of_getElem? (i := 22) rfl)) rfl
theorem ml_X11_147 : Cond.methodLink zR11 147 (yN m_X0_copyFrom) ∈ z_T := z_in0 (zc_5 _ (List.mem_of_getElem? (i := 26) rfl)) rfl
theorem ml_X0_46 : Cond.methodLink zR0 46 arraycopyName ∈ z_T := z_in0 (zc_5 _ (List.mem_of_getElem? (i := 30) rfl)) rfl
theorem ml_X11_151 : Cond.methodLink zR11 151 (yN m_X9_clear) ∈ z_T := z_in0 (zc_5 _ (List.mem_of_getElem? (i := 31) rfl)) rfl
theorem ml_L_108 : Cond.methodLink zRL 108 (yN m_L_rule) ∈ z_T := z_in0 (zc_5 _ (List.mem_of_getElem? (i := 35) rfl)) rfl
theorem ml_L_15 : Cond.methodLink zRL 15 (yN m_X11_rule) ∈ z_T := z_in0 (zc_5 _ (List.mem_of_getElem? (i := 38) rfl)) rfl
theorem ml_X11_172 : Cond.methodLink zR11 172 (yN m_X7_parse) ∈ z_T := z_in0 (zc_5 _ (List.mem_of_getElem? (i := 42) rfl)) rfl
theorem ml_X7_45 : Cond.methodLink zR7 45 (yN m_X7_choice) ∈ z_T := z_in0 (zc_5 _ (List.mem_of_getElem? (i := 46) rfl)) rfl
theorem ml_X7_65 : Cond.methodLink zR7 65 (yN m_X7_both) ∈ z_T := z_in0 (zc_5 _ (List.mem_of_getElem? (i := 50) rfl)) rfl
theorem ml_X7_78 : Cond.methodLink zR7 78 (yN m_X7_single) ∈ z_T := z_in0 (zc_5 _ (List.mem_of_getElem? (i := 54) rfl)) rfl
theorem ml_X7_55 : Cond.methodLink zR7 55 (yN m_X8_next) ∈ z_T := z_in0 (zc_5 _ (List.mem_of_getElem? (i := 58) rfl)) rfl
theorem ml_X7_86 : Cond.methodLink zR7 86 (yN m_X8_takesMark) ∈ z_T := z_in0 (zc_5 _ (List.mem_of_getElem? (i := 59) rfl)) rfl
theorem ml_X7_59 : Cond.methodLink zR7 59 (yN m_X8_blame) ∈ z_T := z_in0 (zc_5 _ (List.mem_of_getElem? (i := 60) rfl)) rfl
theorem ml_X7_90 : Cond.methodLink zR7 90 (yN m_X8_needsMark) ∈ z_T := z_in0 (zc_5 _ (List.mem_of_getElem? (i := 61) rfl)) rfl
theorem ml_X7_70 : Cond.methodLink zR7 70 (yN m_X8_takesWord) ∈ z_T := z_in0 (zc_5 _ (List.mem_of_getElem? (i := 63) rfl)) rfl
theorem ml_X7_30 : Cond.methodLink zR7 30 (yN m_X7_at) ∈ z_T := z_in0 (zc_5 _ (List.mem_of_getElem? (i := 64) rfl)) rfl
theorem ml_X7_95 : Cond.methodLink zR7 95 (yN m_X7_complement) ∈ z_T := z_in0 (zc_5 _ (List.mem_of_getElem? (i := 68) rfl)) rfl
theorem ml_X7_101 : Cond.methodLink zR7 101 (yN m_X7_side) ∈ z_T := z_in0 (zc_5 _ (List.mem_of_getElem? (i := 73) rfl)) rfl
theorem ml_X7_119 : Cond.methodLink zR7 119 (yN m_X8_number) ∈ z_T := z_in0 (zc_5 _ (List.mem_of_getElem? (i := 77) rfl)) rfl
theorem ml_X7_123 : Cond.methodLink zR7 123 (yN m_X7_block) ∈ z_T := z_in0 (zc_5 _ (List.mem_of_getElem? (i := 78) rfl)) rfl
theorem ml_X7_127 : Cond.methodLink zR7 127 (yN m_X3_beOne) ∈ z_T := z_in0 (zc_5 _ (List.mem_of_getElem? (i := 82) rfl)) rfl
theorem ml_X7_105 : Cond.methodLink zR7 105 (yN m_X7_corner) ∈ z_T := z_in0 (zc_5 _ (List.mem_of_getElem? (i := 84) rfl)) rfl
theorem ml_X7_131 : Cond.methodLink zR7 131 Lib.Math.min.name ∈ z_T := z_in0 (zc_5 _ (List.mem_of_getElem? (i := 88) rfl)) rfl
theorem ml_X7_109 : Cond.methodLink zR7 109 (yN m_X7_any) ∈ z_T := z_in0 (zc_5 _ (List.mem_of_getElem? (i := 90) rfl)) rfl
theorem ml_X7_139 : Cond.methodLink zR7 139 (yN m_X3_add) ∈ z_T := z_in0 (zc_5 _ (List.mem_of_getElem? (i := 94) rfl)) rfl
theorem ml_X7_113 : Cond.methodLink zR7 113 (yN m_X7_front) ∈ z_T := z_in0 (zc_5 _ (List.mem_of_getElem? (i := 99) rfl)) rfl
theorem ml_X7_117 : Cond.methodLink zR7 117 (yN m_X7_fog) ∈ z_T := z_in0 (zc_5 _ (List.mem_of_getElem? (i := 104) rfl)) rfl
theorem ml_X7_83 : Cond.methodLink zR7 83 (yN m_X7_overlay) ∈ z_T := z_in0 (zc_5 _ (List.mem_of_getElem? (i := 109) rfl)) rfl
theorem ml_X7_146 : Cond.methodLink zR7 146 (yN m_X7_beginSpare) ∈ z_T := z_in0 (zc_5 _ (List.mem_of_getElem? (i := 113) rfl)) rfl
theorem ml_X7_159 : Cond.methodLink zR7 159 (yN m_JA_fill2) ∈ z_T := z_in0 (zc_5 _ (List.mem_of_getElem? (i := 117) rfl)) rfl
theorem ml_X7_149 : Cond.methodLink zR7 149 (yN m_X3_at) ∈ z_T := z_in0 (zc_5 _ (List.mem_of_getElem? (i := 118) rfl)) rfl
theorem ml_X7_152 : Cond.methodLink zR7 152 (yN m_X7_addOnce) ∈ z_T := z_in0 (zc_5 _ (List.mem_of_getElem? (i := 122) rfl)) rfl
theorem cc_X7_165 : Cond.constant zR7 165 (-1640531535) ∈ z_T := z_in0 (zc_5 _ (List.mem_of_getElem? (i := 126) rfl)) rfl
theorem ml_X7_155 : Cond.methodLink zR7 155 (yN m_X3_copyFrom) ∈ z_T := z_in0 (zc_5 _ (List.mem_of_getElem? (i := 127) rfl)) rfl
theorem ml_X3_19 : Cond.methodLink zR3 19 Lib.Math.min.name ∈ z_T := z_in0 (zc_5 _ (List.mem_of_getElem? (i := 131) rfl)) rfl
theorem ml_X3_28 : Cond.methodLink zR3 28 arraycopyName ∈ z_T := z_in0 (zc_5 _ (List.mem_of_getElem? (i := 132) rfl)) rfl
theorem ml_X7_74 : Cond.methodLink zR7 74 (yN m_X7_unite) ∈ z_T := z_in0 (zc_5 _ (List.mem_of_getElem? (i := 134) rfl)) rfl
theorem ml_X7_49 : Cond.methodLink zR7 49 (yN m_X8_ended) ∈ z_T := z_in0 (zc_5 _ (List.mem_of_getElem? (i := 138) rfl)) rfl
theorem ml_X7_62 : Cond.methodLink zR7 62 (yN m_X8_length) ∈ z_T := z_in0 (zc_5 _ (List.mem_of_getElem? (i := 139) rfl)) rfl
theorem ml_X11_175 : Cond.methodLink zR11 175 (yN m_X7_result) ∈ z_T := z_in0 (zc_5 _ (List.mem_of_getElem? (i := 143) rfl)) rfl
theorem ml_X11_178 : Cond.methodLink zR11 178 (yN m_X3_copyFrom) ∈ z_T := z_in0 (zc_5 _ (List.mem_of_getElem? (i := 147) rfl)) rfl
theorem ml_X11_180 : Cond.methodLink zR11 180 (yN m_X3_sort) ∈ z_T := z_in0 (zc_5 _ (List.mem_of_getElem? (i := 148) rfl)) rfl
theorem ml_X3_40 : Cond.methodLink zR3 40 (yN m_X3_isBefore) ∈ z_T := z_in0 (zc_5 _ (List.mem_of_getElem? (i := 152) rfl)) rfl
theorem ml_L_115 : Cond.methodLink zRL 115 (yN m_L_told) ∈ z_T := z_in0 (zc_5 _ (List.mem_of_getElem? (i := 155) rfl)) rfl
theorem ml_L_18 : Cond.methodLink zRL 18 (yN m_X11_told) ∈ z_T := z_in0 (zc_5 _ (List.mem_of_getElem? (i := 158) rfl)) rfl
theorem ml_L_118 : Cond.methodLink zRL 118 (yN m_L_sign) ∈ z_T := z_in0 (zc_5 _ (List.mem_of_getElem? (i := 163) rfl)) rfl
theorem cl_L_24 : Cond.classLink zRL 24 "java/util/NoSuchElementException" ∈ z_T := z_in0 (zc_5 _ (List.mem_of_getElem? (i := 166) rfl)) rfl
theorem ml_L_21 : Cond.methodLink zRL 21 (yN m_X11_sign) ∈ z_T := z_in0 (zc_5 _ (List.mem_of_getElem? (i := 167) rfl)) rfl
theorem ml_X11_205 : Cond.methodLink zR11 205 (yN m_X11_needSign) ∈ z_T := z_in0 (zc_5 _ (List.mem_of_getElem? (i := 171) rfl)) rfl
theorem cl_X11_386 : Cond.classLink zR11 386 "java/util/NoSuchElementException" ∈ z_T := z_in0 (zc_5 _ (List.mem_of_getElem? (i := 175) rfl)) rfl
theorem ca_1261 : Cond.castable "java/util/NoSuchElementException" "java/util/NoSuchElementException" ∈ z_N := z_inN0 (zc_5 _ (List.mem_of_getElem? (i := 177) rfl)) rfl
theorem ml_L_121 : Cond.methodLink zRL 121 (yN m_L_family) ∈ z_T := z_in0 (zc_5 _ (List.mem_of_getElem? (i := 191) rfl)) rfl
theorem ml_L_26 : Cond.methodLink zRL 26 (yN m_X11_family) ∈ z_T := z_in0 (zc_5 _ (List.mem_of_getElem? (i := 194) rfl)) rfl
theorem ml_X11_212 : Cond.methodLink zR11 212 (yN m_X0_familyOf) ∈ z_T := z_in0 (zc_5 _ (List.mem_of_getElem? (i := 198) rfl)) rfl
theorem ml_L_124 : Cond.methodLink zRL 124 (yN m_L_word) ∈ z_T := z_in0 (zc_5 _ (List.mem_of_getElem? (i := 199) rfl)) rfl
theorem cl_L_33 : Cond.classLink zRL 33 "java/lang/IndexOutOfBoundsException" ∈ z_T := z_in0 (zc_5 _ (List.mem_of_getElem? (i := 202) rfl)) rfl
theorem ml_L_29 : Cond.methodLink zRL 29 (yN m_X11_word) ∈ z_T := z_in0 (zc_5 _ (List.mem_of_getElem? (i := 203) rfl)) rfl
theorem cl_X11_215 : Cond.classLink zR11 215 "java/lang/IndexOutOfBoundsException" ∈ z_T := z_in0 (zc_5 _ (List.mem_of_getElem? (i := 207) rfl)) rfl
theorem ca_1293 : Cond.castable "java/lang/IndexOutOfBoundsException" "java/lang/IndexOutOfBoundsException" ∈ z_N := z_inN0 (zc_5 _ (List.mem_of_getElem? (i := 209) rfl)) rfl
theorem ml_L_128 : Cond.methodLink zRL 128 (yN m_L_cover) ∈ z_T := z_in0 (zc_5 _ (List.mem_of_getElem? (i := 224) rfl)) rfl
theorem ml_L_35 : Cond.methodLink zRL 35 (yN m_X11_cover) ∈ z_T := z_in0 (zc_5 _ (List.mem_of_getElem? (i := 227) rfl)) rfl
theorem ml_X11_226 : Cond.methodLink zR11 226 (yN m_X11_needCover) ∈ z_T := z_in0 (zc_5 _ (List.mem_of_getElem? (i := 231) rfl)) rfl
theorem ml_X11_229 : Cond.methodLink zR11 229 (yN m_X3_at) ∈ z_T := z_in0 (zc_5 _ (List.mem_of_getElem? (i := 236) rfl)) rfl
theorem ml_L_131 : Cond.methodLink zRL 131 (yN m_L_dirt) ∈ z_T := z_in0 (zc_5 _ (List.mem_of_getElem? (i := 237) rfl)) rfl
theorem ml_L_38 : Cond.methodLink zRL 38 (yN m_X11_dirt) ∈ z_T := z_in0 (zc_6 _ (List.mem_of_getElem? (i := 0) rfl)) rfl
theorem ml_L_134 : Cond.methodLink zRL 134 (yN m_L_confused) ∈ z_T := z_in0 (zc_6 _ (List.mem_of_getElem? (i := 5) rfl)) rfl
theorem ml_L_41 : Cond.methodLink zRL 41 (yN m_X11_confused) ∈ z_T := z_in0 (zc_6 _ (List.mem_of_getElem? (i := 8) rfl)) rfl
theorem ml_X11_236 : Cond.methodLink zR11 236 (yN m_X3_firstMixing) ∈ z_T := z_in0 (zc_6 _ (List.mem_of_getElem? (i := 13) rfl)) rfl
theorem ml_L_141 : Cond.methodLink zRL 141 (yN m_L_blind) ∈ z_T := z_in0 (zc_6 _ (List.mem_of_getElem? (i := 14) rfl)) rfl
theorem ml_L_44 : Cond.methodLink zRL 44 (yN m_X11_blind) ∈ z_T := z_in0 (zc_6 _ (List.mem_of_getElem? (i := 17) rfl)) rfl
theorem ml_X11_245 : Cond.methodLink zR11 245 (yN m_X11_needWhat) ∈ z_T := z_in0 (zc_6 _ (List.mem_of_getElem? (i := 21) rfl)) rfl
theorem ml_X11_252 : Cond.methodLink zR11 252 (yN m_X3_blindest) ∈ z_T := z_in0 (zc_6 _ (List.mem_of_getElem? (i := 26) rfl)) rfl
theorem ml_X3_55 : Cond.methodLink zR3 55 (yN m_X3_pairsMixedBy) ∈ z_T := z_in0 (zc_6 _ (List.mem_of_getElem? (i := 30) rfl)) rfl
theorem ml_X3_44 : Cond.methodLink zR3 44 (yN m_X3_at) ∈ z_T := z_in0 (zc_6 _ (List.mem_of_getElem? (i := 34) rfl)) rfl
theorem ml_X3_52 : Cond.methodLink zR3 52 (yN m_X0_paintOf) ∈ z_T := z_in0 (zc_6 _ (List.mem_of_getElem? (i := 35) rfl)) rfl
theorem ml_X11_259 : Cond.methodLink zR11 259 (yN m_X3_pairsMixedBy) ∈ z_T := z_in0 (zc_6 _ (List.mem_of_getElem? (i := 36) rfl)) rfl
theorem ml_L_144 : Cond.methodLink zRL 144 (yN m_L_may) ∈ z_T := z_in0 (zc_6 _ (List.mem_of_getElem? (i := 37) rfl)) rfl
theorem ml_L_47 : Cond.methodLink zRL 47 (yN m_X11_may) ∈ z_T := z_in0 (zc_6 _ (List.mem_of_getElem? (i := 40) rfl)) rfl
theorem ml_X11_263 : Cond.methodLink zR11 263 (yN m_X11_needPart) ∈ z_T := z_in0 (zc_6 _ (List.mem_of_getElem? (i := 44) rfl)) rfl
theorem ml_L_147 : Cond.methodLink zRL 147 (yN m_L_read) ∈ z_T := z_in0 (zc_6 _ (List.mem_of_getElem? (i := 49) rfl)) rfl
theorem ml_L_50 : Cond.methodLink zRL 50 (yN m_X11_read) ∈ z_T := z_in0 (zc_6 _ (List.mem_of_getElem? (i := 52) rfl)) rfl
theorem ml_X11_270 : Cond.methodLink zR11 270 (yN m_X11_onlyOne) ∈ z_T := z_in0 (zc_6 _ (List.mem_of_getElem? (i := 56) rfl)) rfl
theorem ml_X11_295 : Cond.methodLink zR11 295 (yN m_JI_bitCount) ∈ z_T := z_in0 (zc_6 _ (List.mem_of_getElem? (i := 59) rfl)) rfl
theorem ml_X11_411 : Cond.methodLink zR11 411 (yN m_X11_lowestOf) ∈ z_T := z_in0 (zc_6 _ (List.mem_of_getElem? (i := 60) rfl)) rfl
theorem ml_L_150 : Cond.methodLink zRL 150 (yN m_L_nearest) ∈ z_T := z_in0 (zc_6 _ (List.mem_of_getElem? (i := 63) rfl)) rfl
theorem ml_L_53 : Cond.methodLink zRL 53 (yN m_X11_nearest) ∈ z_T := z_in0 (zc_6 _ (List.mem_of_getElem? (i := 66) rfl)) rfl
theorem ml_X11_273 : Cond.methodLink zR11 273 (yN m_X0_likest) ∈ z_T := z_in0 (zc_6 _ (List.mem_of_getElem? (i := 70) rfl)) rfl
theorem ml_L_153 : Cond.methodLink zRL 153 (yN m_L_part) ∈ z_T := z_in0 (zc_6 _ (List.mem_of_getElem? (i := 74) rfl)) rfl
theorem ml_L_56 : Cond.methodLink zRL 56 (yN m_X11_part) ∈ z_T := z_in0 (zc_6 _ (List.mem_of_getElem? (i := 77) rfl)) rfl
theorem ml_X11_276 : Cond.methodLink zR11 276 (yN m_X9_addPart) ∈ z_T := z_in0 (zc_6 _ (List.mem_of_getElem? (i := 81) rfl)) rfl
theorem ml_L_168 : Cond.methodLink zRL 168 (yN m_L_least) ∈ z_T := z_in0 (zc_6 _ (List.mem_of_getElem? (i := 85) rfl)) rfl
theorem ml_L_59 : Cond.methodLink zRL 59 (yN m_X11_least) ∈ z_T := z_in0 (zc_6 _ (List.mem_of_getElem? (i := 88) rfl)) rfl
theorem ml_X11_288 : Cond.methodLink zR11 288 (yN m_X4_find) ∈ z_T := z_in0 (zc_6 _ (List.mem_of_getElem? (i := 92) rfl)) rfl
theorem ml_X4_27 : Cond.methodLink zR4 27 (yN m_X0_paintOf) ∈ z_T := z_in0 (zc_6 _ (List.mem_of_getElem? (i := 96) rfl)) rfl
theorem ml_X4_31 : Cond.methodLink zR4 31 (yN m_X0_cells) ∈ z_T := z_in0 (zc_6 _ (List.mem_of_getElem? (i := 97) rfl)) rfl
theorem ml_X4_35 : Cond.methodLink zR4 35 (yN m_X4_grows) ∈ z_T := z_in0 (zc_6 _ (List.mem_of_getElem? (i := 98) rfl)) rfl
theorem ml_X4_39 : Cond.methodLink zR4 39 (yN m_X4_isHopeless) ∈ z_T := z_in0 (zc_6 _ (List.mem_of_getElem? (i := 102) rfl)) rfl
theorem ml_X4_44 : Cond.methodLink zR4 44 (yN m_JI_bitCount) ∈ z_T := z_in0 (zc_6 _ (List.mem_of_getElem? (i := 106) rfl)) rfl
theorem ml_L_171 : Cond.methodLink zRL 171 (yN m_L_strokes) ∈ z_T := z_in0 (zc_6 _ (List.mem_of_getElem? (i := 107) rfl)) rfl
theorem ml_L_62 : Cond.methodLink zRL 62 (yN m_X11_strokes) ∈ z_T := z_in0 (zc_6 _ (List.mem_of_getElem? (i := 110) rfl)) rfl
theorem ml_X11_300 : Cond.methodLink zR11 300 (yN m_X0_fewestRows) ∈ z_T := z_in0 (zc_6 _ (List.mem_of_getElem? (i := 114) rfl)) rfl
theorem ml_X0_84 : Cond.methodLink zR0 84 (yN m_X0_numberRows) ∈ z_T := z_in0 (zc_6 _ (List.mem_of_getElem? (i := 118) rfl)) rfl
theorem ml_X0_88 : Cond.methodLink zR0 88 (yN m_JA_fill2) ∈ z_T := z_in0 (zc_6 _ (List.mem_of_getElem? (i := 122) rfl)) rfl
theorem ml_X0_97 : Cond.methodLink zR0 97 (yN m_X0_findsPartner) ∈ z_T := z_in0 (zc_6 _ (List.mem_of_getElem? (i := 123) rfl)) rfl
theorem ml_L_174 : Cond.methodLink zRL 174 (yN m_L_akin) ∈ z_T := z_in0 (zc_6 _ (List.mem_of_getElem? (i := 127) rfl)) rfl
theorem ml_L_65 : Cond.methodLink zRL 65 (yN m_X11_akin) ∈ z_T := z_in0 (zc_6 _ (List.mem_of_getElem? (i := 130) rfl)) rfl
theorem ml_X11_305 : Cond.methodLink zR11 305 (yN m_X0_unlikestPair) ∈ z_T := z_in0 (zc_6 _ (List.mem_of_getElem? (i := 135) rfl)) rfl
theorem ml_X11_308 : Cond.methodLink zR11 308 (yN m_X0_unlikeCells) ∈ z_T := z_in0 (zc_6 _ (List.mem_of_getElem? (i := 139) rfl)) rfl
theorem ml_L_181 : Cond.methodLink zRL 181 (yN m_L_changed) ∈ z_T := z_in0 (zc_6 _ (List.mem_of_getElem? (i := 140) rfl)) rfl
theorem ml_L_68 : Cond.methodLink zRL 68 (yN m_X11_changed) ∈ z_T := z_in0 (zc_6 _ (List.mem_of_getElem? (i := 143) rfl)) rfl
theorem ml_X11_314 : Cond.methodLink zR11 314 (yN m_X6_find) ∈ z_T := z_in0 (zc_6 _ (List.mem_of_getElem? (i := 147) rfl)) rfl
theorem ml_X6_30 : Cond.methodLink zR6 30 (yN m_X6_byOne) ∈ z_T := z_in0 (zc_6 _ (List.mem_of_getElem? (i := 151) rfl)) rfl
theorem ml_X6_41 : Cond.methodLink zR6 41 (yN m_X10_curesOf) ∈ z_T := z_in0 (zc_6 _ (List.mem_of_getElem? (i := 155) rfl)) rfl
theorem mn_X6_45 : Cond.methodLinkNest zR6 45 (yN m_X11_lowestOf) zR11 ∈ z_N := z_inN0 (zc_6 _ (List.mem_of_getElem? (i := 159) rfl)) rfl
theorem ml_X6_34 : Cond.methodLink zR6 34 (yN m_X6_byTwo) ∈ z_T := z_in0 (zc_6 _ (List.mem_of_getElem? (i := 160) rfl)) rfl
theorem ml_X6_51 : Cond.methodLink zR6 51 (yN m_X10_hangsOn) ∈ z_T := z_in0 (zc_6 _ (List.mem_of_getElem? (i := 164) rfl)) rfl
theorem ml_X6_55 : Cond.methodLink zR6 55 (yN m_X10_copyFrom) ∈ z_T := z_in0 (zc_6 _ (List.mem_of_getElem? (i := 168) rfl)) rfl
theorem ml_X10_58 : Cond.methodLink zR10 58 arraycopyName ∈ z_T := z_in0 (zc_6 _ (List.mem_of_getElem? (i := 172) rfl)) rfl
theorem ml_X6_58 : Cond.methodLink zR6 58 (yN m_X10_flip) ∈ z_T := z_in0 (zc_6 _ (List.mem_of_getElem? (i := 173) rfl)) rfl
theorem ml_X6_62 : Cond.methodLink zR6 62 (yN m_X6_endsBehind) ∈ z_T := z_in0 (zc_6 _ (List.mem_of_getElem? (i := 177) rfl)) rfl
theorem ml_L_188 : Cond.methodLink zRL 188 (yN m_L_steps) ∈ z_T := z_in0 (zc_6 _ (List.mem_of_getElem? (i := 181) rfl)) rfl
theorem ml_L_71 : Cond.methodLink zRL 71 (yN m_X11_steps) ∈ z_T := z_in0 (zc_6 _ (List.mem_of_getElem? (i := 184) rfl)) rfl
theorem ml_X11_328 : Cond.methodLink zR11 328 (yN m_X6_walk) ∈ z_T := z_in0 (zc_6 _ (List.mem_of_getElem? (i := 188) rfl)) rfl
theorem ml_X6_66 : Cond.methodLink zR6 66 (yN m_X6_stepIsDone) ∈ z_T := z_in0 (zc_6 _ (List.mem_of_getElem? (i := 192) rfl)) rfl
theorem ml_X6_70 : Cond.methodLink zR6 70 (yN m_X10_pairsWith) ∈ z_T := z_in0 (zc_6 _ (List.mem_of_getElem? (i := 196) rfl)) rfl
theorem ml_X11_332 : Cond.methodLink zR11 332 (yN m_X6_pairsLeft) ∈ z_T := z_in0 (zc_6 _ (List.mem_of_getElem? (i := 200) rfl)) rfl
theorem ml_L_199 : Cond.methodLink zRL 199 (yN m_L_stand) ∈ z_T := z_in0 (zc_6 _ (List.mem_of_getElem? (i := 204) rfl)) rfl
theorem ml_L_74 : Cond.methodLink zRL 74 (yN m_X11_stand) ∈ z_T := z_in0 (zc_6 _ (List.mem_of_getElem? (i := 207) rfl)) rfl
theorem ml_X11_346 : Cond.methodLink zR11 346 (yN m_X9_addStanding) ∈ z_T := z_in0 (zc_6 _ (List.mem_of_getElem? (i := 212) rfl)) rfl
theorem ml_L_207 : Cond.methodLink zRL 207 (yN m_L_seen) ∈ z_T := z_in0 (zc_6 _ (List.mem_of_getElem? (i := 216) rfl)) rfl
theorem ml_L_78 : Cond.methodLink zRL 78 (yN m_X11_seen) ∈ z_T := z_in0 (zc_6 _ (List.mem_of_getElem? (i := 219) rfl)) rfl
theorem ml_X11_352 : Cond.methodLink zR11 352 (yN m_X11_needView) ∈ z_T := z_in0 (zc_6 _ (List.mem_of_getElem? (i := 223) rfl)) rfl
theorem ml_X11_363 : Cond.methodLink zR11 363 (yN m_X11_needStanding) ∈ z_T := z_in0 (zc_6 _ (List.mem_of_getElem? (i := 227) rfl)) rfl
theorem ml_L_211 : Cond.methodLink zRL 211 (yN m_L_guess) ∈ z_T := z_in0 (zc_6 _ (List.mem_of_getElem? (i := 233) rfl)) rfl
theorem ml_L_82 : Cond.methodLink zRL 82 (yN m_X11_guess) ∈ z_T := z_in0 (zc_6 _ (List.mem_of_getElem? (i := 236) rfl)) rfl
theorem ml_L_214 : Cond.methodLink zRL 214 (yN m_L_known) ∈ z_T := z_in0 (zc_7 _ (List.mem_of_getElem? (i := 0) rfl)) rfl
theorem ml_L_85 : Cond.methodLink zRL 85 (yN m_X11_known) ∈ z_T := z_in0 (zc_7 _ (List.mem_of_getElem? (i := 3) rfl)) rfl
theorem cl_L_90 : Cond.classLink zRL 90 zR12 ∈ z_T := z_in0 (zc_7 _ (List.mem_of_getElem? (i := 7) rfl)) rfl
theorem it_X12 : Cond.instantiable zR12 57 ∈ z_T := z_in0 (zc_7 _ (List.mem_of_getElem? (i := 8) rfl)) rfl
theorem ml_L_92 : Cond.methodLink zRL 92 (yN m_X12_init) ∈ z_T := z_in0 (zc_7 _ (List.mem_of_getElem? (i := 9) rfl)) rfl
theorem ml_X12_1 : Cond.methodLink zR12 1 objectInit ∈ z_T := z_in0 (zc_7 _ (List.mem_of_getElem? (i := 12) rfl)) rfl
theorem cl_X12_41 : Cond.classLink zR12 41 "[[I" ∈ z_T := z_in0 (zc_7 _ (List.mem_of_getElem? (i := 13) rfl)) rfl
theorem cl_X12_73 : Cond.classLink zR12 73 "[[Z" ∈ z_T := z_in0 (zc_7 _ (List.mem_of_getElem? (i := 15) rfl)) rfl
theorem fl_X12_113 : Cond.fieldLink zR12 113 (zT12 0).1 (zT12 0).2.1 (zT12 0).2.2.1 ∈ z_T := z_in0 (zc_7 _ (List.mem_of_getElem? (i := 17) rfl)) rfl
theorem g_X12_113 : zGf zR12 113 12 0 57 := ⟨zR12, zT12, rfl, zi12, by decide, fl_X12_113⟩
theorem p_X12_113 : zPf zR12 113 12 0 57 .int := ⟨zR12, zT12, zt12, ⟨rfl, zi12, zt12_ok, zn12⟩, by decide, fl_X12_113, rfl, by decide +kernel⟩
theorem fl_X12_116 : Cond.fieldLink zR12 116 (zT12 1).1 (zT12 1).2.1 (zT12 1).2.2.1 ∈ z_T := z_in0 (zc_7 _ (List.mem_of_getElem? (i := 18) rfl)) rfl
theorem g_X12_116 : zGf zR12 116 12 1 57 := ⟨zR12, zT12, rfl, zi12, by decide, fl_X12_116⟩
theorem p_X12_116 : zPf zR12 116 12 1 57 .int := ⟨zR12, zT12, zt12, ⟨rfl, zi12, zt12_ok, zn12⟩, by decide, fl_X12_116, rfl, by decide +kernel⟩
theorem fl_X12_119 : Cond.fieldLink zR12 119 (zT12 2).1 (zT12 2).2.1 (zT12 2).2.2.1 ∈ z_T := z_in0 (zc_7 _ (List.mem_of_getElem? (i := 19) rfl)) rfl
theorem g_X12_119 : zGf zR12 119 12 2 57 := ⟨zR12, zT12, rfl, zi12, by decide, fl_X12_119⟩
theorem p_X12_119 : zPf zR12 119 12 2 57 .int := ⟨zR12, zT12, zt12, ⟨rfl, zi12, zt12_ok, zn12⟩, by decide, fl_X12_119, rfl, by decide +kernel⟩
theorem fl_X12_9 : Cond.fieldLink zR12 9 (zT12 3).1 (zT12 3).2.1 (zT12 3).2.2.1 ∈ z_T := z_in0 (zc_7 _ (List.mem_of_getElem? (i := 20) rfl)) rfl
theorem g_X12_9 : zGf zR12 9 12 3 57 := ⟨zR12, zT12, rfl, zi12, by decide, fl_X12_9⟩
theorem p_X12_9 : zPf zR12 9 12 3 57 .int := ⟨zR12, zT12, zt12, ⟨rfl, zi12, zt12_ok, zn12⟩, by decide, fl_X12_9, rfl, by decide +kernel⟩
theorem fl_X12_122 : Cond.fieldLink zR12 122 (zT12 4).1 (zT12 4).2.1 (zT12 4).2.2.1 ∈ z_T := z_in0 (zc_7 _ (List.mem_of_getElem? (i := 21) rfl)) rfl
theorem g_X12_122 : zGf zR12 122 12 4 57 := ⟨zR12, zT12, rfl, zi12, by decide, fl_X12_122⟩
theorem p_X12_122 : zPf zR12 122 12 4 57 .int := ⟨zR12, zT12, zt12, ⟨rfl, zi12, zt12_ok, zn12⟩, by decide, fl_X12_122, rfl, by decide +kernel⟩
theorem fl_X12_129 : Cond.fieldLink zR12 129 (zT12 5).1 (zT12 5).2.1 (zT12 5).2.2.1 ∈ z_T := z_in0 (zc_7 _ (List.mem_of_getElem? (i := 22) rfl)) rfl
theorem g_X12_129 : zGf zR12 129 12 5 57 := ⟨zR12, zT12, rfl, zi12, by decide, fl_X12_129⟩
theorem p_X12_129 : zPf zR12 129 12 5 57 .int := ⟨zR12, zT12, zt12, ⟨rfl, zi12, zt12_ok, zn12⟩, by decide, fl_X12_129, rfl, by decide +kernel⟩
theorem fl_X12_132 : Cond.fieldLink zR12 132 (zT12 6).1 (zT12 6).2.1 (zT12 6).2.2.1 ∈ z_T := z_in0 (zc_7 _ (List.mem_of_getElem? (i := 23) rfl)) rfl
theorem g_X12_132 : zGf zR12 132 12 6 57 := ⟨zR12, zT12, rfl, zi12, by decide, fl_X12_132⟩
theorem p_X12_132 : zPf zR12 132 12 6 57 .int := ⟨zR12, zT12, zt12, ⟨rfl, zi12, zt12_ok, zn12⟩, by decide, fl_X12_132, rfl, by decide +kernel⟩
theorem fl_X12_169 : Cond.fieldLink zR12 169 (zT12 7).1 (zT12 7).2.1 (zT12 7).2.2.1 ∈ z_T := z_in0 (zc_7 _ (List.mem_of_getElem? (i := 24) rfl)) rfl
theorem g_X12_169 : zGf zR12 169 12 7 57 := ⟨zR12, zT12, rfl, zi12, by decide, fl_X12_169⟩
theorem p_X12_169 : zPf zR12 169 12 7 57 .int := ⟨zR12, zT12, zt12, ⟨rfl, zi12, zt12_ok, zn12⟩, by decide, fl_X12_169, rfl, by decide +kernel⟩
theorem fl_X12_172 : Cond.fieldLink zR12 172 (zT12 8).1 (zT12 8).2.1 (zT12 8).2.2.1 ∈ z_T := z_in0 (zc_7 _ (List.mem_of_getElem? (i := 25) rfl)) rfl
theorem g_X12_172 : zGf zR12 172 12 8 57 := ⟨zR12, zT12, rfl, zi12, by decide, fl_X12_172⟩
theorem p_X12_172 : zPf zR12 172 12 8 57 .int := ⟨zR12, zT12, zt12, ⟨rfl, zi12, zt12_ok, zn12⟩, by decide, fl_X12_172, rfl, by decide +kernel⟩
theorem fl_X12_13 : Cond.fieldLink zR12 13 (zT12 9).1 (zT12 9).2.1 (zT12 9).2.2.1 ∈ z_T := z_in0 (zc_7 _ (List.mem_of_getElem? (i := 26) rfl)) rfl
theorem g_X12_13 : zGf zR12 13 12 9 57 := ⟨zR12, zT12, rfl, zi12, by decide, fl_X12_13⟩
theorem p_X12_13 : zPF zR12 13 12 9 57 (.array .int) := ⟨zR12, zT12, zt12, ⟨rfl, zi12, zt12_ok, zn12⟩, by decide, fl_X12_13, rfl, rfl, by decide +kernel⟩
theorem fl_X12_195 : Cond.fieldLink zR12 195 (zT12 10).1 (zT12 10).2.1 (zT12 10).2.2.1 ∈ z_T := z_in0 (zc_7 _ (List.mem_of_getElem? (i := 27) rfl)) rfl
theorem g_X12_195 : zGf zR12 195 12 10 57 := ⟨zR12, zT12, rfl, zi12, by decide, fl_X12_195⟩
theorem p_X12_195 : zPf zR12 195 12 10 57 .int := ⟨zR12, zT12, zt12, ⟨rfl, zi12, zt12_ok, zn12⟩, by decide, fl_X12_195, rfl, by decide +kernel⟩
theorem fl_X12_198 : Cond.fieldLink zR12 198 (zT12 11).1 (zT12 11).2.1 (zT12 11).2.2.1 ∈ z_T := z_in0 (zc_7 _ (List.mem_of_getElem? (i := 28) rfl)) rfl
theorem g_X12_198 : zGf zR12 198 12 11 57 := ⟨zR12, zT12, rfl, zi12, by decide, fl_X12_198⟩
theorem p_X12_198 : zPf zR12 198 12 11 57 .int := ⟨zR12, zT12, zt12, ⟨rfl, zi12, zt12_ok, zn12⟩, by decide, fl_X12_198, rfl, by decide +kernel⟩
theorem fl_X12_185 : Cond.fieldLink zR12 185 (zT12 12).1 (zT12 12).2.1 (zT12 12).2.2.1 ∈ z_T := z_in0 (zc_7 _ (List.mem_of_getElem? (i := 29) rfl)) rfl
theorem g_X12_185 : zGf zR12 185 12 12 57 := ⟨zR12, zT12, rfl, zi12, by decide, fl_X12_185⟩
theorem p_X12_185 : zPf zR12 185 12 12 57 .int := ⟨zR12, zT12, zt12, ⟨rfl, zi12, zt12_ok, zn12⟩, by decide, fl_X12_185, rfl, by decide +kernel⟩
theorem fl_X12_188 : Cond.fieldLink zR12 188 (zT12 13).1 (zT12 13).2.1 (zT12 13).2.2.1 ∈ z_T := z_in0 (zc_7 _ (List.mem_of_getElem? (i := 30) rfl)) rfl
theorem g_X12_188 : zGf zR12 188 12 13 57 := ⟨zR12, zT12, rfl, zi12, by decide, fl_X12_188⟩
theorem p_X12_188 : zPf zR12 188 12 13 57 .int := ⟨zR12, zT12, zt12, ⟨rfl, zi12, zt12_ok, zn12⟩, by decide, fl_X12_188, rfl, by decide +kernel⟩
theorem fl_X12_17 : Cond.fieldLink zR12 17 (zT12 14).1 (zT12 14).2.1 (zT12 14).2.2.1 ∈ z_T := z_in0 (zc_7 _ (List.mem_of_getElem? (i := 31) rfl)) rfl
theorem g_X12_17 : zGf zR12 17 12 14 57 := ⟨zR12, zT12, rfl, zi12, by decide, fl_X12_17⟩
theorem p_X12_17 : zPf zR12 17 12 14 57 .int := ⟨zR12, zT12, zt12, ⟨rfl, zi12, zt12_ok, zn12⟩, by decide, fl_X12_17, rfl, by decide +kernel⟩
theorem fl_X12_20 : Cond.fieldLink zR12 20 (zT12 15).1 (zT12 15).2.1 (zT12 15).2.2.1 ∈ z_T := z_in0 (zc_7 _ (List.mem_of_getElem? (i := 32) rfl)) rfl
theorem g_X12_20 : zGf zR12 20 12 15 57 := ⟨zR12, zT12, rfl, zi12, by decide, fl_X12_20⟩
theorem p_X12_20 : zPf zR12 20 12 15 57 .int := ⟨zR12, zT12, zt12, ⟨rfl, zi12, zt12_ok, zn12⟩, by decide, fl_X12_20, rfl, by decide +kernel⟩
theorem fl_X12_224 : Cond.fieldLink zR12 224 (zT12 16).1 (zT12 16).2.1 (zT12 16).2.2.1 ∈ z_T := z_in0 (zc_7 _ (List.mem_of_getElem? (i := 33) rfl)) rfl
theorem g_X12_224 : zGf zR12 224 12 16 57 := ⟨zR12, zT12, rfl, zi12, by decide, fl_X12_224⟩
theorem p_X12_224 : zPf zR12 224 12 16 57 .int := ⟨zR12, zT12, zt12, ⟨rfl, zi12, zt12_ok, zn12⟩, by decide, fl_X12_224, rfl, by decide +kernel⟩
theorem fl_X12_227 : Cond.fieldLink zR12 227 (zT12 17).1 (zT12 17).2.1 (zT12 17).2.2.1 ∈ z_T := z_in0 (zc_7 _ (List.mem_of_getElem? (i := 34) rfl)) rfl
theorem g_X12_227 : zGf zR12 227 12 17 57 := ⟨zR12, zT12, rfl, zi12, by decide, fl_X12_227⟩
theorem p_X12_227 : zPf zR12 227 12 17 57 .int := ⟨zR12, zT12, zt12, ⟨rfl, zi12, zt12_ok, zn12⟩, by decide, fl_X12_227, rfl, by decide +kernel⟩
theorem fl_X12_23 : Cond.fieldLink zR12 23 (zT12 18).1 (zT12 18).2.1 (zT12 18).2.2.1 ∈ z_T := z_in0 (zc_7 _ (List.mem_of_getElem? (i := 35) rfl)) rfl
theorem g_X12_23 : zGf zR12 23 12 18 57 := ⟨zR12, zT12, rfl, zi12, by decide, fl_X12_23⟩
theorem p_X12_23 : zPF zR12 23 12 18 57 (.array .int) := ⟨zR12, zT12, zt12, ⟨rfl, zi12, zt12_ok, zn12⟩, by decide, fl_X12_23, rfl, rfl, by decide +kernel⟩
theorem fl_X12_26 : Cond.fieldLink zR12 26 (zT12 19).1 (zT12 19).2.1 (zT12 19).2.2.1 ∈ z_T := z_in0 (zc_7 _ (List.mem_of_getElem? (i := 36) rfl)) rfl
theorem g_X12_26 : zGf zR12 26 12 19 57 := ⟨zR12, zT12, rfl, zi12, by decide, fl_X12_26⟩
theorem p_X12_26 : zPF zR12 26 12 19 57 (.array .int) := ⟨zR12, zT12, zt12, ⟨rfl, zi12, zt12_ok, zn12⟩, by decide, fl_X12_26, rfl, rfl, by decide +kernel⟩
theorem fl_X12_29 : Cond.fieldLink zR12 29 (zT12 20).1 (zT12 20).2.1 (zT12 20).2.2.1 ∈ z_T := z_in0 (zc_7 _ (List.mem_of_getElem? (i := 37) rfl)) rfl
theorem g_X12_29 : zGf zR12 29 12 20 57 := ⟨zR12, zT12, rfl, zi12, by decide, fl_X12_29⟩
theorem p_X12_29 : zPF zR12 29 12 20 57 (.array .int) := ⟨zR12, zT12, zt12, ⟨rfl, zi12, zt12_ok, zn12⟩, by decide, fl_X12_29, rfl, rfl, by decide +kernel⟩
theorem fl_X12_32 : Cond.fieldLink zR12 32 (zT12 21).1 (zT12 21).2.1 (zT12 21).2.2.1 ∈ z_T := z_in0 (zc_7 _ (List.mem_of_getElem? (i := 38) rfl)) rfl
theorem g_X12_32 : zGf zR12 32 12 21 57 := ⟨zR12, zT12, rfl, zi12, by decide, fl_X12_32⟩
theorem p_X12_32 : zPF zR12 32 12 21 57 (.array .int) := ⟨zR12, zT12, zt12, ⟨rfl, zi12, zt12_ok, zn12⟩, by decide, fl_X12_32, rfl, rfl, by decide +kernel⟩
theorem fl_X12_35 : Cond.fieldLink zR12 35 (zT12 22).1 (zT12 22).2.1 (zT12 22).2.2.1 ∈ z_T := z_in0 (zc_7 _ (List.mem_of_getElem? (i := 39) rfl)) rfl
theorem g_X12_35 : zGf zR12 35 12 22 57 := ⟨zR12, zT12, rfl, zi12, by decide, fl_X12_35⟩
theorem p_X12_35 : zPF zR12 35 12 22 57 (.array .int) := ⟨zR12, zT12, zt12, ⟨rfl, zi12, zt12_ok, zn12⟩, by decide, fl_X12_35, rfl, rfl, by decide +kernel⟩
theorem fl_X12_38 : Cond.fieldLink zR12 38 (zT12 23).1 (zT12 23).2.1 (zT12 23).2.2.1 ∈ z_T := z_in0 (zc_7 _ (List.mem_of_getElem? (i := 40) rfl)) rfl
theorem g_X12_38 : zGf zR12 38 12 23 57 := ⟨zR12, zT12, rfl, zi12, by decide, fl_X12_38⟩
theorem p_X12_38 : zPF zR12 38 12 23 57 (.array .int) := ⟨zR12, zT12, zt12, ⟨rfl, zi12, zt12_ok, zn12⟩, by decide, fl_X12_38, rfl, rfl, by decide +kernel⟩
theorem fl_X12_43 : Cond.fieldLink zR12 43 (zT12 24).1 (zT12 24).2.1 (zT12 24).2.2.1 ∈ z_T := z_in0 (zc_7 _ (List.mem_of_getElem? (i := 41) rfl)) rfl
theorem g_X12_43 : zGf zR12 43 12 24 57 := ⟨zR12, zT12, rfl, zi12, by decide, fl_X12_43⟩
theorem p_X12_43 : zPF zR12 43 12 24 57 (.array (.array .int)) := ⟨zR12, zT12, zt12, ⟨rfl, zi12, zt12_ok, zn12⟩, by decide, fl_X12_43, rfl, rfl, by decide +kernel⟩
theorem fl_X12_46 : Cond.fieldLink zR12 46 (zT12 25).1 (zT12 25).2.1 (zT12 25).2.2.1 ∈ z_T := z_in0 (zc_7 _ (List.mem_of_getElem? (i := 42) rfl)) rfl
theorem g_X12_46 : zGf zR12 46 12 25 57 := ⟨zR12, zT12, rfl, zi12, by decide, fl_X12_46⟩
theorem p_X12_46 : zPF zR12 46 12 25 57 (.array (.array .int)) := ⟨zR12, zT12, zt12, ⟨rfl, zi12, zt12_ok, zn12⟩, by decide, fl_X12_46, rfl, rfl, by decide +kernel⟩
theorem fl_X12_49 : Cond.fieldLink zR12 49 (zT12 26).1 (zT12 26).2.1 (zT12 26).2.2.1 ∈ z_T := z_in0 (zc_7 _ (List.mem_of_getElem? (i := 43) rfl)) rfl
theorem g_X12_49 : zGf zR12 49 12 26 57 := ⟨zR12, zT12, rfl, zi12, by decide, fl_X12_49⟩
theorem p_X12_49 : zPf zR12 49 12 26 57 .int := ⟨zR12, zT12, zt12, ⟨rfl, zi12, zt12_ok, zn12⟩, by decide, fl_X12_49, rfl, by decide +kernel⟩
theorem fl_X12_179 : Cond.fieldLink zR12 179 (zT12 27).1 (zT12 27).2.1 (zT12 27).2.2.1 ∈ z_T := z_in0 (zc_7 _ (List.mem_of_getElem? (i := 44) rfl)) rfl
theorem g_X12_179 : zGf zR12 179 12 27 57 := ⟨zR12, zT12, rfl, zi12, by decide, fl_X12_179⟩
theorem p_X12_179 : zPf zR12 179 12 27 57 .int := ⟨zR12, zT12, zt12, ⟨rfl, zi12, zt12_ok, zn12⟩, by decide, fl_X12_179, rfl, by decide +kernel⟩
theorem fl_X12_52 : Cond.fieldLink zR12 52 (zT12 28).1 (zT12 28).2.1 (zT12 28).2.2.1 ∈ z_T := z_in0 (zc_7 _ (List.mem_of_getElem? (i := 45) rfl)) rfl
theorem g_X12_52 : zGf zR12 52 12 28 57 := ⟨zR12, zT12, rfl, zi12, by decide, fl_X12_52⟩
theorem p_X12_52 : zPF zR12 52 12 28 57 (.array .int) := ⟨zR12, zT12, zt12, ⟨rfl, zi12, zt12_ok, zn12⟩, by decide, fl_X12_52, rfl, rfl, by decide +kernel⟩
theorem fl_X12_55 : Cond.fieldLink zR12 55 (zT12 29).1 (zT12 29).2.1 (zT12 29).2.2.1 ∈ z_T := z_in0 (zc_7 _ (List.mem_of_getElem? (i := 46) rfl)) rfl
theorem g_X12_55 : zGf zR12 55 12 29 57 := ⟨zR12, zT12, rfl, zi12, by decide, fl_X12_55⟩
theorem p_X12_55 : zPF zR12 55 12 29 57 (.array (.array .int)) := ⟨zR12, zT12, zt12, ⟨rfl, zi12, zt12_ok, zn12⟩, by decide, fl_X12_55, rfl, rfl, by decide +kernel⟩
theorem fl_X12_58 : Cond.fieldLink zR12 58 (zT12 30).1 (zT12 30).2.1 (zT12 30).2.2.1 ∈ z_T := z_in0 (zc_7 _ (List.mem_of_getElem? (i := 47) rfl)) rfl
theorem g_X12_58 : zGf zR12 58 12 30 57 := ⟨zR12, zT12, rfl, zi12, by decide, fl_X12_58⟩
theorem p_X12_58 : zPF zR12 58 12 30 57 (.array .int) := ⟨zR12, zT12, zt12, ⟨rfl, zi12, zt12_ok, zn12⟩, by decide, fl_X12_58, rfl, rfl, by decide +kernel⟩
theorem fl_X12_61 : Cond.fieldLink zR12 61 (zT12 31).1 (zT12 31).2.1 (zT12 31).2.2.1 ∈ z_T := z_in0 (zc_7 _ (List.mem_of_getElem? (i := 48) rfl)) rfl
theorem g_X12_61 : zGf zR12 61 12 31 57 := ⟨zR12, zT12, rfl, zi12, by decide, fl_X12_61⟩
theorem p_X12_61 : zPF zR12 61 12 31 57 (.array .int) := ⟨zR12, zT12, zt12, ⟨rfl, zi12, zt12_ok, zn12⟩, by decide, fl_X12_61, rfl, rfl, by decide +kernel⟩
theorem fl_X12_245 : Cond.fieldLink zR12 245 (zT12 32).1 (zT12 32).2.1 (zT12 32).2.2.1 ∈ z_T := z_in0 (zc_7 _ (List.mem_of_getElem? (i := 49) rfl)) rfl
theorem g_X12_245 : zGf zR12 245 12 32 57 := ⟨zR12, zT12, rfl, zi12, by decide, fl_X12_245⟩
theorem p_X12_245 : zPf zR12 245 12 32 57 .int := ⟨zR12, zT12, zt12, ⟨rfl, zi12, zt12_ok, zn12⟩, by decide, fl_X12_245, rfl, by decide +kernel⟩
theorem fl_X12_175 : Cond.fieldLink zR12 175 (zT12 33).1 (zT12 33).2.1 (zT12 33).2.2.1 ∈ z_T := z_in0 (zc_7 _ (List.mem_of_getElem? (i := 50) rfl)) rfl
theorem g_X12_175 : zGf zR12 175 12 33 57 := ⟨zR12, zT12, rfl, zi12, by decide, fl_X12_175⟩
theorem p_X12_175 : zPf zR12 175 12 33 57 .boolean := ⟨zR12, zT12, zt12, ⟨rfl, zi12, zt12_ok, zn12⟩, by decide, fl_X12_175, rfl, by decide +kernel⟩
theorem fl_X12_230 : Cond.fieldLink zR12 230 (zT12 34).1 (zT12 34).2.1 (zT12 34).2.2.1 ∈ z_T := z_in0 (zc_7 _ (List.mem_of_getElem? (i := 51) rfl)) rfl
theorem g_X12_230 : zGf zR12 230 12 34 57 := ⟨zR12, zT12, rfl, zi12, by decide, fl_X12_230⟩
theorem p_X12_230 : zPf zR12 230 12 34 57 .int := ⟨zR12, zT12, zt12, ⟨rfl, zi12, zt12_ok, zn12⟩, by decide, fl_X12_230, rfl, by decide +kernel⟩
theorem fl_X12_233 : Cond.fieldLink zR12 233 (zT12 35).1 (zT12 35).2.1 (zT12 35).2.2.1 ∈ z_T := z_in0 (zc_7 _ (List.mem_of_getElem? (i := 52) rfl)) rfl
theorem g_X12_233 : zGf zR12 233 12 35 57 := ⟨zR12, zT12, rfl, zi12, by decide, fl_X12_233⟩
theorem p_X12_233 : zPf zR12 233 12 35 57 .int := ⟨zR12, zT12, zt12, ⟨rfl, zi12, zt12_ok, zn12⟩, by decide, fl_X12_233, rfl, by decide +kernel⟩
theorem fl_X12_236 : Cond.fieldLink zR12 236 (zT12 36).1 (zT12 36).2.1 (zT12 36).2.2.1 ∈ z_T := z_in0 (zc_7 _ (List.mem_of_getElem? (i := 53) rfl)) rfl
theorem g_X12_236 : zGf zR12 236 12 36 57 := ⟨zR12, zT12, rfl, zi12, by decide, fl_X12_236⟩
theorem p_X12_236 : zPf zR12 236 12 36 57 .int := ⟨zR12, zT12, zt12, ⟨rfl, zi12, zt12_ok, zn12⟩, by decide, fl_X12_236, rfl, by decide +kernel⟩
theorem fl_X12_239 : Cond.fieldLink zR12 239 (zT12 37).1 (zT12 37).2.1 (zT12 37).2.2.1 ∈ z_T := z_in0 (zc_7 _ (List.mem_of_getElem? (i := 54) rfl)) rfl
theorem g_X12_239 : zGf zR12 239 12 37 57 := ⟨zR12, zT12, rfl, zi12, by decide, fl_X12_239⟩
theorem p_X12_239 : zPf zR12 239 12 37 57 .int := ⟨zR12, zT12, zt12, ⟨rfl, zi12, zt12_ok, zn12⟩, by decide, fl_X12_239, rfl, by decide +kernel⟩
theorem fl_X12_404 : Cond.fieldLink zR12 404 (zT12 38).1 (zT12 38).2.1 (zT12 38).2.2.1 ∈ z_T := z_in0 (zc_7 _ (List.mem_of_getElem? (i := 55) rfl)) rfl
theorem g_X12_404 : zGf zR12 404 12 38 57 := ⟨zR12, zT12, rfl, zi12, by decide, fl_X12_404⟩
theorem p_X12_404 : zPf zR12 404 12 38 57 .int := ⟨zR12, zT12, zt12, ⟨rfl, zi12, zt12_ok, zn12⟩, by decide, fl_X12_404, rfl, by decide +kernel⟩
theorem fl_X12_64 : Cond.fieldLink zR12 64 (zT12 39).1 (zT12 39).2.1 (zT12 39).2.2.1 ∈ z_T := z_in0 (zc_7 _ (List.mem_of_getElem? (i := 56) rfl)) rfl
theorem g_X12_64 : zGf zR12 64 12 39 57 := ⟨zR12, zT12, rfl, zi12, by decide, fl_X12_64⟩
theorem p_X12_64 : zPF zR12 64 12 39 57 (.array (.array .int)) := ⟨zR12, zT12, zt12, ⟨rfl, zi12, zt12_ok, zn12⟩, by decide, fl_X12_64, rfl, rfl, by decide +kernel⟩
theorem fl_X12_67 : Cond.fieldLink zR12 67 (zT12 40).1 (zT12 40).2.1 (zT12 40).2.2.1 ∈ z_T := z_in0 (zc_7 _ (List.mem_of_getElem? (i := 57) rfl)) rfl
theorem g_X12_67 : zGf zR12 67 12 40 57 := ⟨zR12, zT12, rfl, zi12, by decide, fl_X12_67⟩
theorem p_X12_67 : zPF zR12 67 12 40 57 (.array (.array .int)) := ⟨zR12, zT12, zt12, ⟨rfl, zi12, zt12_ok, zn12⟩, by decide, fl_X12_67, rfl, rfl, by decide +kernel⟩
theorem fl_X12_70 : Cond.fieldLink zR12 70 (zT12 41).1 (zT12 41).2.1 (zT12 41).2.2.1 ∈ z_T := z_in0 (zc_7 _ (List.mem_of_getElem? (i := 58) rfl)) rfl
theorem g_X12_70 : zGf zR12 70 12 41 57 := ⟨zR12, zT12, rfl, zi12, by decide, fl_X12_70⟩
theorem p_X12_70 : zPF zR12 70 12 41 57 (.array (.array .int)) := ⟨zR12, zT12, zt12, ⟨rfl, zi12, zt12_ok, zn12⟩, by decide, fl_X12_70, rfl, rfl, by decide +kernel⟩
theorem fl_X12_75 : Cond.fieldLink zR12 75 (zT12 42).1 (zT12 42).2.1 (zT12 42).2.2.1 ∈ z_T := z_in0 (zc_7 _ (List.mem_of_getElem? (i := 59) rfl)) rfl
theorem g_X12_75 : zGf zR12 75 12 42 57 := ⟨zR12, zT12, rfl, zi12, by decide, fl_X12_75⟩
theorem p_X12_75 : zPF zR12 75 12 42 57 (.array (.array .boolean)) := ⟨zR12, zT12, zt12, ⟨rfl, zi12, zt12_ok, zn12⟩, by decide, fl_X12_75, rfl, rfl, by decide +kernel⟩
theorem fl_X12_78 : Cond.fieldLink zR12 78 (zT12 43).1 (zT12 43).2.1 (zT12 43).2.2.1 ∈ z_T := z_in0 (zc_7 _ (List.mem_of_getElem? (i := 60) rfl)) rfl
theorem g_X12_78 : zGf zR12 78 12 43 57 := ⟨zR12, zT12, rfl, zi12, by decide, fl_X12_78⟩
theorem p_X12_78 : zPF zR12 78 12 43 57 (.array .int) := ⟨zR12, zT12, zt12, ⟨rfl, zi12, zt12_ok, zn12⟩, by decide, fl_X12_78, rfl, rfl, by decide +kernel⟩
theorem fl_X12_81 : Cond.fieldLink zR12 81 (zT12 44).1 (zT12 44).2.1 (zT12 44).2.2.1 ∈ z_T := z_in0 (zc_7 _ (List.mem_of_getElem? (i := 61) rfl)) rfl
theorem g_X12_81 : zGf zR12 81 12 44 57 := ⟨zR12, zT12, rfl, zi12, by decide, fl_X12_81⟩
theorem p_X12_81 : zPF zR12 81 12 44 57 (.array .int) := ⟨zR12, zT12, zt12, ⟨rfl, zi12, zt12_ok, zn12⟩, by decide, fl_X12_81, rfl, rfl, by decide +kernel⟩
theorem fl_X12_84 : Cond.fieldLink zR12 84 (zT12 45).1 (zT12 45).2.1 (zT12 45).2.2.1 ∈ z_T := z_in0 (zc_7 _ (List.mem_of_getElem? (i := 62) rfl)) rfl
theorem g_X12_84 : zGf zR12 84 12 45 57 := ⟨zR12, zT12, rfl, zi12, by decide, fl_X12_84⟩
theorem p_X12_84 : zPF zR12 84 12 45 57 (.array .int) := ⟨zR12, zT12, zt12, ⟨rfl, zi12, zt12_ok, zn12⟩, by decide, fl_X12_84, rfl, rfl, by decide +kernel⟩
theorem fl_X12_87 : Cond.fieldLink zR12 87 (zT12 46).1 (zT12 46).2.1 (zT12 46).2.2.1 ∈ z_T := z_in0 (zc_7 _ (List.mem_of_getElem? (i := 63) rfl)) rfl
theorem g_X12_87 : zGf zR12 87 12 46 57 := ⟨zR12, zT12, rfl, zi12, by decide, fl_X12_87⟩
theorem p_X12_87 : zPF zR12 87 12 46 57 (.array .int) := ⟨zR12, zT12, zt12, ⟨rfl, zi12, zt12_ok, zn12⟩, by decide, fl_X12_87, rfl, rfl, by decide +kernel⟩
theorem fl_X12_90 : Cond.fieldLink zR12 90 (zT12 47).1 (zT12 47).2.1 (zT12 47).2.2.1 ∈ z_T := z_in0 (zc_7 _ (List.mem_of_getElem? (i := 64) rfl)) rfl
theorem g_X12_90 : zGf zR12 90 12 47 57 := ⟨zR12, zT12, rfl, zi12, by decide, fl_X12_90⟩
theorem p_X12_90 : zPF zR12 90 12 47 57 (.array .boolean) := ⟨zR12, zT12, zt12, ⟨rfl, zi12, zt12_ok, zn12⟩, by decide, fl_X12_90, rfl, rfl, by decide +kernel⟩
theorem fl_X12_341 : Cond.fieldLink zR12 341 (zT12 48).1 (zT12 48).2.1 (zT12 48).2.2.1 ∈ z_T := z_in0 (zc_7 _ (List.mem_of_getElem? (i := 65) rfl)) rfl
theorem g_X12_341 : zGf zR12 341 12 48 57 := ⟨zR12, zT12, rfl, zi12, by decide, fl_X12_341⟩
theorem p_X12_341 : zPf zR12 341 12 48 57 .int := ⟨zR12, zT12, zt12, ⟨rfl, zi12, zt12_ok, zn12⟩, by decide, fl_X12_341, rfl, by decide +kernel⟩
theorem fl_X12_344 : Cond.fieldLink zR12 344 (zT12 49).1 (zT12 49).2.1 (zT12 49).2.2.1 ∈ z_T := z_in0 (zc_7 _ (List.mem_of_getElem? (i := 66) rfl)) rfl
theorem g_X12_344 : zGf zR12 344 12 49 57 := ⟨zR12, zT12, rfl, zi12, by decide, fl_X12_344⟩
theorem p_X12_344 : zPf zR12 344 12 49 57 .int := ⟨zR12, zT12, zt12, ⟨rfl, zi12, zt12_ok, zn12⟩, by decide, fl_X12_344, rfl, by decide +kernel⟩
theorem fl_X12_94 : Cond.fieldLink zR12 94 (zT12 50).1 (zT12 50).2.1 (zT12 50).2.2.1 ∈ z_T := z_in0 (zc_7 _ (List.mem_of_getElem? (i := 67) rfl)) rfl
theorem g_X12_94 : zGf zR12 94 12 50 57 := ⟨zR12, zT12, rfl, zi12, by decide, fl_X12_94⟩
theorem p_X12_94 : zPF zR12 94 12 50 57 (.array .int) := ⟨zR12, zT12, zt12, ⟨rfl, zi12, zt12_ok, zn12⟩, by decide, fl_X12_94, rfl, rfl, by decide +kernel⟩
theorem fl_X12_97 : Cond.fieldLink zR12 97 (zT12 51).1 (zT12 51).2.1 (zT12 51).2.2.1 ∈ z_T := z_in0 (zc_7 _ (List.mem_of_getElem? (i := 68) rfl)) rfl
theorem g_X12_97 : zGf zR12 97 12 51 57 := ⟨zR12, zT12, rfl, zi12, by decide, fl_X12_97⟩
theorem p_X12_97 : zPF zR12 97 12 51 57 (.array .boolean) := ⟨zR12, zT12, zt12, ⟨rfl, zi12, zt12_ok, zn12⟩, by decide, fl_X12_97, rfl, rfl, by decide +kernel⟩
theorem fl_X12_100 : Cond.fieldLink zR12 100 (zT12 52).1 (zT12 52).2.1 (zT12 52).2.2.1 ∈ z_T := z_in0 (zc_7 _ (List.mem_of_getElem? (i := 69) rfl)) rfl
theorem g_X12_100 : zGf zR12 100 12 52 57 := ⟨zR12, zT12, rfl, zi12, by decide, fl_X12_100⟩
theorem p_X12_100 : zPF zR12 100 12 52 57 (.array .long) := ⟨zR12, zT12, zt12, ⟨rfl, zi12, zt12_ok, zn12⟩, by decide, fl_X12_100, rfl, rfl, by decide +kernel⟩
theorem fl_X12_363 : Cond.fieldLink zR12 363 (zT12 53).1 (zT12 53).2.1 (zT12 53).2.2.1 ∈ z_T := z_in0 (zc_7 _ (List.mem_of_getElem? (i := 70) rfl)) rfl
theorem g_X12_363 : zGf zR12 363 12 53 57 := ⟨zR12, zT12, rfl, zi12, by decide, fl_X12_363⟩
theorem p_X12_363 : zPf zR12 363 12 53 57 .int := ⟨zR12, zT12, zt12, ⟨rfl, zi12, zt12_ok, zn12⟩, by decide, fl_X12_363, rfl, by decide +kernel⟩
theorem fl_X12_104 : Cond.fieldLink zR12 104 (zT12 54).1 (zT12 54).2.1 (zT12 54).2.2.1 ∈ z_T := z_in0 (zc_7 _ (List.mem_of_getElem? (i := 71) rfl)) rfl
theorem g_X12_104 : zGf zR12 104 12 54 57 := ⟨zR12, zT12, rfl, zi12, by decide, fl_X12_104⟩
theorem p_X12_104 : zPF zR12 104 12 54 57 (.array .int) := ⟨zR12, zT12, zt12, ⟨rfl, zi12, zt12_ok, zn12⟩, by decide, fl_X12_104, rfl, rfl, by decide +kernel⟩
theorem fl_X12_107 : Cond.fieldLink zR12 107 (zT12 55).1 (zT12 55).2.1 (zT12 55).2.2.1 ∈ z_T := z_in0 (zc_7 _ (List.mem_of_getElem? (i := 72) rfl)) rfl
theorem g_X12_107 : zGf zR12 107 12 55 57 := ⟨zR12, zT12, rfl, zi12, by decide, fl_X12_107⟩
theorem p_X12_107 : zPF zR12 107 12 55 57 (.array .int) := ⟨zR12, zT12, zt12, ⟨rfl, zi12, zt12_ok, zn12⟩, by decide, fl_X12_107, rfl, rfl, by decide +kernel⟩
theorem fl_X12_110 : Cond.fieldLink zR12 110 (zT12 56).1 (zT12 56).2.1 (zT12 56).2.2.1 ∈ z_T := z_in0 (zc_7 _ (List.mem_of_getElem? (i := 73) rfl)) rfl
theorem g_X12_110 : zGf zR12 110 12 56 57 := ⟨zR12, zT12, rfl, zi12, by decide, fl_X12_110⟩
theorem p_X12_110 : zPF zR12 110 12 56 57 (.array .int) := ⟨zR12, zT12, zt12, ⟨rfl, zi12, zt12_ok, zn12⟩, by decide, fl_X12_110, rfl, rfl, by decide +kernel⟩
theorem ml_L_104 : Cond.methodLink zRL 104 (yN m_X12_thrown) ∈ z_T := z_in0 (zc_7 _ (List.mem_of_getElem? (i := 190) rfl)) rfl
theorem ml_L_97 : Cond.methodLink zRL 97 (yN m_X12_feed) ∈ z_T := z_in0 (zc_7 _ (List.mem_of_getElem? (i := 194) rfl)) rfl
theorem ml_L_103 : Cond.methodLink zRL 103 (yN m_X12_alphabet) ∈ z_T := z_in0 (zc_7 _ (List.mem_of_getElem? (i := 198) rfl)) rfl
theorem ml_X12_147 : Cond.methodLink zR12 147 (yN m_X12_in) ∈ z_T := z_in0 (zc_7 _ (List.mem_of_getElem? (i := 202) rfl)) rfl
theorem ml_X12_214 : Cond.methodLink zR12 214 (yN m_X12_bad) ∈ z_T := z_in0 (zc_7 _ (List.mem_of_getElem? (i := 205) rfl)) rfl
theorem ml_X12_218 : Cond.methodLink zR12 218 (yN m_X12_starts) ∈ z_T := z_in0 (zc_7 _ (List.mem_of_getElem? (i := 209) rfl)) rfl
theorem ml_X12_135 : Cond.methodLink zR12 135 (yN m_X12_blanks) ∈ z_T := z_in0 (zc_7 _ (List.mem_of_getElem? (i := 213) rfl)) rfl
theorem ml_X12_125 : Cond.methodLink zR12 125 (yN m_X12_byteAt) ∈ z_T := z_in0 (zc_7 _ (List.mem_of_getElem? (i := 217) rfl)) rfl
theorem ml_X12_221 : Cond.methodLink zR12 221 (yN m_X12_clause) ∈ z_T := z_in0 (zc_7 _ (List.mem_of_getElem? (i := 221) rfl)) rfl
theorem ml_X12_182 : Cond.methodLink zR12 182 (yN m_X12_kindHere) ∈ z_T := z_in0 (zc_7 _ (List.mem_of_getElem? (i := 225) rfl)) rfl
theorem ml_X12_162 : Cond.methodLink zR12 162 (yN m_X12_isWord) ∈ z_T := z_in0 (zc_7 _ (List.mem_of_getElem? (i := 229) rfl)) rfl
theorem ml_X12_154 : Cond.methodLink zR12 154 (yN m_X12_wordHere) ∈ z_T := z_in0 (zc_7 _ (List.mem_of_getElem? (i := 233) rfl)) rfl
theorem ml_X12_151 : Cond.methodLink zR12 151 (yN m_X12_isSmall) ∈ z_T := z_in0 (zc_7 _ (List.mem_of_getElem? (i := 237) rfl)) rfl
theorem ml_X12_158 : Cond.methodLink zR12 158 (yN m_X12_six) ∈ z_T := z_in0 (zc_8 _ (List.mem_of_getElem? (i := 0) rfl)) rfl
theorem ml_X12_142 : Cond.methodLink zR12 142 (yN m_X12_wrong) ∈ z_T := z_in0 (zc_8 _ (List.mem_of_getElem? (i := 3) rfl)) rfl
theorem ml_X12_166 : Cond.methodLink zR12 166 (yN m_X12_skipWord) ∈ z_T := z_in0 (zc_8 _ (List.mem_of_getElem? (i := 7) rfl)) rfl
theorem ml_X12_191 : Cond.methodLink zR12 191 (yN m_X12_number) ∈ z_T := z_in0 (zc_8 _ (List.mem_of_getElem? (i := 11) rfl)) rfl
theorem ml_X12_138 : Cond.methodLink zR12 138 (yN m_X12_isDigit) ∈ z_T := z_in0 (zc_8 _ (List.mem_of_getElem? (i := 15) rfl)) rfl
theorem cc_X12_146 : Cond.constant zR12 146 (100000) ∈ z_T := z_in0 (zc_8 _ (List.mem_of_getElem? (i := 18) rfl)) rfl
theorem ml_X12_201 : Cond.methodLink zR12 201 (yN m_X12_readsSign) ∈ z_T := z_in0 (zc_8 _ (List.mem_of_getElem? (i := 19) rfl)) rfl
theorem ml_X12_205 : Cond.methodLink zR12 205 (yN m_X12_readsStroke) ∈ z_T := z_in0 (zc_8 _ (List.mem_of_getElem? (i := 23) rfl)) rfl
theorem ml_X12_208 : Cond.methodLink zR12 208 (yN m_X12_readsWord) ∈ z_T := z_in0 (zc_8 _ (List.mem_of_getElem? (i := 27) rfl)) rfl
theorem ml_X12_211 : Cond.methodLink zR12 211 (yN m_X12_closes) ∈ z_T := z_in0 (zc_8 _ (List.mem_of_getElem? (i := 31) rfl)) rfl
theorem ml_L_110 : Cond.methodLink zRL 110 (yN m_X12_rule) ∈ z_T := z_in0 (zc_8 _ (List.mem_of_getElem? (i := 35) rfl)) rfl
theorem ml_X12_272 : Cond.methodLink zR12 272 (yN m_X12_ors) ∈ z_T := z_in0 (zc_8 _ (List.mem_of_getElem? (i := 39) rfl)) rfl
theorem ml_X12_248 : Cond.methodLink zR12 248 (yN m_X12_ands) ∈ z_T := z_in0 (zc_8 _ (List.mem_of_getElem? (i := 43) rfl)) rfl
theorem ml_X12_263 : Cond.methodLink zR12 263 (yN m_X12_asked) ∈ z_T := z_in0 (zc_8 _ (List.mem_of_getElem? (i := 47) rfl)) rfl
theorem ml_X12_266 : Cond.methodLink zR12 266 (yN m_X12_opens) ∈ z_T := z_in0 (zc_8 _ (List.mem_of_getElem? (i := 51) rfl)) rfl
theorem ml_X12_269 : Cond.methodLink zR12 269 (yN m_X12_allCells) ∈ z_T := z_in0 (zc_8 _ (List.mem_of_getElem? (i := 55) rfl)) rfl
theorem ml_X12_242 : Cond.methodLink zR12 242 (yN m_X12_cells) ∈ z_T := z_in0 (zc_8 _ (List.mem_of_getElem? (i := 59) rfl)) rfl
theorem ml_X12_254 : Cond.methodLink zR12 254 (yN m_X12_clearMade) ∈ z_T := z_in0 (zc_8 _ (List.mem_of_getElem? (i := 63) rfl)) rfl
theorem ml_X12_275 : Cond.methodLink zR12 275 (yN m_X12_plain) ∈ z_T := z_in0 (zc_8 _ (List.mem_of_getElem? (i := 67) rfl)) rfl
theorem ml_X12_278 : Cond.methodLink zR12 278 (yN m_X12_block) ∈ z_T := z_in0 (zc_8 _ (List.mem_of_getElem? (i := 71) rfl)) rfl
theorem ml_X12_257 : Cond.methodLink zR12 257 (yN m_X12_makes) ∈ z_T := z_in0 (zc_8 _ (List.mem_of_getElem? (i := 75) rfl)) rfl
theorem ml_X12_282 : Cond.methodLink zR12 282 (yN m_X12_anyOf) ∈ z_T := z_in0 (zc_8 _ (List.mem_of_getElem? (i := 79) rfl)) rfl
theorem ml_X12_260 : Cond.methodLink zR12 260 (yN m_X12_lays) ∈ z_T := z_in0 (zc_8 _ (List.mem_of_getElem? (i := 83) rfl)) rfl
theorem ml_X12_251 : Cond.methodLink zR12 251 (yN m_X12_eats) ∈ z_T := z_in0 (zc_8 _ (List.mem_of_getElem? (i := 87) rfl)) rfl
theorem ml_X12_286 : Cond.methodLink zR12 286 (yN m_X12_isBehind) ∈ z_T := z_in0 (zc_8 _ (List.mem_of_getElem? (i := 91) rfl)) rfl
theorem ml_X12_293 : Cond.methodLink zR12 293 (yN m_X12_ones) ∈ z_T := z_in0 (zc_8 _ (List.mem_of_getElem? (i := 94) rfl)) rfl
theorem ml_X12_290 : Cond.methodLink zR12 290 (yN m_X12_swapsCovers) ∈ z_T := z_in0 (zc_8 _ (List.mem_of_getElem? (i := 97) rfl)) rfl
theorem ml_L_114 : Cond.methodLink zRL 114 (yN m_X12_fault) ∈ z_T := z_in0 (zc_8 _ (List.mem_of_getElem? (i := 101) rfl)) rfl
theorem ml_L_117 : Cond.methodLink zRL 117 (yN m_X12_told) ∈ z_T := z_in0 (zc_8 _ (List.mem_of_getElem? (i := 105) rfl)) rfl
theorem ml_L_120 : Cond.methodLink zRL 120 (yN m_X12_sign) ∈ z_T := z_in0 (zc_8 _ (List.mem_of_getElem? (i := 109) rfl)) rfl
theorem ml_X12_296 : Cond.methodLink zR12 296 (yN m_X12_isSign) ∈ z_T := z_in0 (zc_8 _ (List.mem_of_getElem? (i := 113) rfl)) rfl
theorem ml_L_123 : Cond.methodLink zRL 123 (yN m_X12_family) ∈ z_T := z_in0 (zc_8 _ (List.mem_of_getElem? (i := 117) rfl)) rfl
theorem ml_L_127 : Cond.methodLink zRL 127 (yN m_X12_word) ∈ z_T := z_in0 (zc_8 _ (List.mem_of_getElem? (i := 121) rfl)) rfl
theorem ml_L_130 : Cond.methodLink zRL 130 (yN m_X12_cover) ∈ z_T := z_in0 (zc_8 _ (List.mem_of_getElem? (i := 125) rfl)) rfl
theorem ml_X12_299 : Cond.methodLink zR12 299 (yN m_X12_isCover) ∈ z_T := z_in0 (zc_8 _ (List.mem_of_getElem? (i := 129) rfl)) rfl
theorem ml_L_133 : Cond.methodLink zRL 133 (yN m_X12_dirt) ∈ z_T := z_in0 (zc_8 _ (List.mem_of_getElem? (i := 133) rfl)) rfl
theorem ml_L_136 : Cond.methodLink zRL 136 (yN m_X12_confused) ∈ z_T := z_in0 (zc_8 _ (List.mem_of_getElem? (i := 137) rfl)) rfl
theorem ml_X12_302 : Cond.methodLink zR12 302 (yN m_X12_firstCover) ∈ z_T := z_in0 (zc_8 _ (List.mem_of_getElem? (i := 141) rfl)) rfl
theorem ml_L_140 : Cond.methodLink zRL 140 (yN m_X12_confusions) ∈ z_T := z_in0 (zc_8 _ (List.mem_of_getElem? (i := 145) rfl)) rfl
theorem ml_X12_311 : Cond.methodLink zR12 311 (yN m_X12_layNow) ∈ z_T := z_in0 (zc_8 _ (List.mem_of_getElem? (i := 149) rfl)) rfl
theorem ml_X12_314 : Cond.methodLink zR12 314 (yN m_X12_layPairs) ∈ z_T := z_in0 (zc_8 _ (List.mem_of_getElem? (i := 153) rfl)) rfl
theorem ml_X12_305 : Cond.methodLink zR12 305 (yN m_X12_layPairsOf) ∈ z_T := z_in0 (zc_8 _ (List.mem_of_getElem? (i := 157) rfl)) rfl
theorem ml_X12_308 : Cond.methodLink zR12 308 (yN m_X12_pairs) ∈ z_T := z_in0 (zc_8 _ (List.mem_of_getElem? (i := 161) rfl)) rfl
theorem ml_L_143 : Cond.methodLink zRL 143 (yN m_X12_blind) ∈ z_T := z_in0 (zc_8 _ (List.mem_of_getElem? (i := 165) rfl)) rfl
theorem ml_X12_317 : Cond.methodLink zR12 317 (yN m_X12_pairsBy) ∈ z_T := z_in0 (zc_8 _ (List.mem_of_getElem? (i := 169) rfl)) rfl
theorem ml_L_146 : Cond.methodLink zRL 146 (yN m_X12_may) ∈ z_T := z_in0 (zc_8 _ (List.mem_of_getElem? (i := 173) rfl)) rfl
theorem ml_X12_320 : Cond.methodLink zR12 320 (yN m_X12_isPaint) ∈ z_T := z_in0 (zc_8 _ (List.mem_of_getElem? (i := 177) rfl)) rfl
theorem ml_X12_323 : Cond.methodLink zR12 323 (yN m_X12_mayBe) ∈ z_T := z_in0 (zc_8 _ (List.mem_of_getElem? (i := 181) rfl)) rfl
theorem ml_L_149 : Cond.methodLink zRL 149 (yN m_X12_read) ∈ z_T := z_in0 (zc_8 _ (List.mem_of_getElem? (i := 185) rfl)) rfl
theorem ml_X12_326 : Cond.methodLink zR12 326 (yN m_X12_only) ∈ z_T := z_in0 (zc_8 _ (List.mem_of_getElem? (i := 189) rfl)) rfl
theorem ml_L_152 : Cond.methodLink zRL 152 (yN m_X12_nearest) ∈ z_T := z_in0 (zc_8 _ (List.mem_of_getElem? (i := 193) rfl)) rfl
theorem ml_L_155 : Cond.methodLink zRL 155 (yN m_X12_part) ∈ z_T := z_in0 (zc_8 _ (List.mem_of_getElem? (i := 197) rfl)) rfl
theorem ml_L_159 : Cond.methodLink zRL 159 (yN m_X12_forget) ∈ z_T := z_in0 (zc_8 _ (List.mem_of_getElem? (i := 201) rfl)) rfl
theorem ml_L_163 : Cond.methodLink zRL 163 (yN m_X12_words) ∈ z_T := z_in0 (zc_8 _ (List.mem_of_getElem? (i := 205) rfl)) rfl
theorem ml_X12_329 : Cond.methodLink zR12 329 (yN m_X12_wordsOf) ∈ z_T := z_in0 (zc_8 _ (List.mem_of_getElem? (i := 209) rfl)) rfl
theorem ml_L_167 : Cond.methodLink zRL 167 (yN m_X12_sure) ∈ z_T := z_in0 (zc_8 _ (List.mem_of_getElem? (i := 213) rfl)) rfl
theorem ml_L_170 : Cond.methodLink zRL 170 (yN m_X12_least) ∈ z_T := z_in0 (zc_8 _ (List.mem_of_getElem? (i := 217) rfl)) rfl
theorem ml_X12_332 : Cond.methodLink zR12 332 (yN m_X12_firstPart) ∈ z_T := z_in0 (zc_8 _ (List.mem_of_getElem? (i := 221) rfl)) rfl
theorem ml_X12_335 : Cond.methodLink zR12 335 (yN m_X12_tells) ∈ z_T := z_in0 (zc_8 _ (List.mem_of_getElem? (i := 225) rfl)) rfl
theorem ml_L_173 : Cond.methodLink zRL 173 (yN m_X12_strokes) ∈ z_T := z_in0 (zc_8 _ (List.mem_of_getElem? (i := 229) rfl)) rfl
theorem ml_X12_338 : Cond.methodLink zR12 338 (yN m_X12_finds) ∈ z_T := z_in0 (zc_8 _ (List.mem_of_getElem? (i := 233) rfl)) rfl
theorem ml_L_176 : Cond.methodLink zRL 176 (yN m_X12_akin) ∈ z_T := z_in0 (zc_8 _ (List.mem_of_getElem? (i := 237) rfl)) rfl
theorem ml_L_180 : Cond.methodLink zRL 180 (yN m_X12_strangers) ∈ z_T := z_in0 (zc_9 _ (List.mem_of_getElem? (i := 1) rfl)) rfl
theorem ml_L_183 : Cond.methodLink zRL 183 (yN m_X12_changed) ∈ z_T := z_in0 (zc_9 _ (List.mem_of_getElem? (i := 5) rfl)) rfl
theorem ml_X12_357 : Cond.methodLink zR12 357 (yN m_X12_findChanges) ∈ z_T := z_in0 (zc_9 _ (List.mem_of_getElem? (i := 9) rfl)) rfl
theorem ml_X12_347 : Cond.methodLink zR12 347 (yN m_X12_couldBe) ∈ z_T := z_in0 (zc_9 _ (List.mem_of_getElem? (i := 13) rfl)) rfl
theorem ml_X12_350 : Cond.methodLink zR12 350 (yN m_X12_flips) ∈ z_T := z_in0 (zc_9 _ (List.mem_of_getElem? (i := 17) rfl)) rfl
theorem ml_X12_353 : Cond.methodLink zR12 353 (yN m_X12_isClear) ∈ z_T := z_in0 (zc_9 _ (List.mem_of_getElem? (i := 21) rfl)) rfl
theorem ml_L_187 : Cond.methodLink zRL 187 (yN m_X12_bound) ∈ z_T := z_in0 (zc_9 _ (List.mem_of_getElem? (i := 25) rfl)) rfl
theorem ml_L_190 : Cond.methodLink zRL 190 (yN m_X12_steps) ∈ z_T := z_in0 (zc_9 _ (List.mem_of_getElem? (i := 29) rfl)) rfl
theorem ml_L_194 : Cond.methodLink zRL 194 (yN m_X12_most) ∈ z_T := z_in0 (zc_9 _ (List.mem_of_getElem? (i := 33) rfl)) rfl
theorem ml_X12_360 : Cond.methodLink zR12 360 (yN m_X12_layAlike) ∈ z_T := z_in0 (zc_9 _ (List.mem_of_getElem? (i := 37) rfl)) rfl
theorem ml_X12_366 : Cond.methodLink zR12 366 (yN m_X12_grows) ∈ z_T := z_in0 (zc_9 _ (List.mem_of_getElem? (i := 41) rfl)) rfl
theorem ml_X12_370 : Cond.methodLink zR12 370 (yN m_X12_lowest) ∈ z_T := z_in0 (zc_9 _ (List.mem_of_getElem? (i := 45) rfl)) rfl
theorem cc_X12_374 : Cond.constantLong zR12 374 (-1) ∈ z_T := z_in0 (zc_9 _ (List.mem_of_getElem? (i := 48) rfl)) rfl
theorem ml_X12_376 : Cond.methodLink zR12 376 (yN m_X12_onesOf) ∈ z_T := z_in0 (zc_9 _ (List.mem_of_getElem? (i := 49) rfl)) rfl
theorem ml_L_198 : Cond.methodLink zRL 198 (yN m_X12_taken) ∈ z_T := z_in0 (zc_9 _ (List.mem_of_getElem? (i := 52) rfl)) rfl
theorem ml_L_202 : Cond.methodLink zRL 202 (yN m_X12_stand) ∈ z_T := z_in0 (zc_9 _ (List.mem_of_getElem? (i := 56) rfl)) rfl
theorem ml_L_206 : Cond.methodLink zRL 206 (yN m_X12_leave) ∈ z_T := z_in0 (zc_9 _ (List.mem_of_getElem? (i := 60) rfl)) rfl
theorem ml_L_210 : Cond.methodLink zRL 210 (yN m_X12_seen) ∈ z_T := z_in0 (zc_9 _ (List.mem_of_getElem? (i := 64) rfl)) rfl
theorem ml_X12_385 : Cond.methodLink zR12 385 (yN m_X12_isStanding) ∈ z_T := z_in0 (zc_9 _ (List.mem_of_getElem? (i := 68) rfl)) rfl
theorem ml_X12_388 : Cond.methodLink zR12 388 (yN m_X12_seenOf) ∈ z_T := z_in0 (zc_9 _ (List.mem_of_getElem? (i := 72) rfl)) rfl
theorem ml_X12_382 : Cond.methodLink zR12 382 (yN m_X12_seenFrom) ∈ z_T := z_in0 (zc_9 _ (List.mem_of_getElem? (i := 76) rfl)) rfl
theorem ml_X12_379 : Cond.methodLink zR12 379 (yN m_X12_isSeen) ∈ z_T := z_in0 (zc_9 _ (List.mem_of_getElem? (i := 80) rfl)) rfl
theorem ml_L_213 : Cond.methodLink zRL 213 (yN m_X12_guess) ∈ z_T := z_in0 (zc_9 _ (List.mem_of_getElem? (i := 84) rfl)) rfl
theorem ml_X12_392 : Cond.methodLink zR12 392 (yN m_X12_guessBy) ∈ z_T := z_in0 (zc_9 _ (List.mem_of_getElem? (i := 88) rfl)) rfl
theorem ml_L_217 : Cond.methodLink zRL 217 (yN m_X12_known) ∈ z_T := z_in0 (zc_9 _ (List.mem_of_getElem? (i := 92) rfl)) rfl
theorem ml_X12_395 : Cond.methodLink zR12 395 (yN m_X12_layNone) ∈ z_T := z_in0 (zc_9 _ (List.mem_of_getElem? (i := 96) rfl)) rfl
theorem ml_X12_398 : Cond.methodLink zR12 398 (yN m_X12_guessNow) ∈ z_T := z_in0 (zc_9 _ (List.mem_of_getElem? (i := 100) rfl)) rfl
theorem ml_L_222 : Cond.methodLink zRL 222 (yN m_X12_all) ∈ z_T := z_in0 (zc_9 _ (List.mem_of_getElem? (i := 104) rfl)) rfl
theorem ml_L_226 : Cond.methodLink zRL 226 (yN m_X12_voyage) ∈ z_T := z_in0 (zc_9 _ (List.mem_of_getElem? (i := 108) rfl)) rfl
theorem ml_X12_401 : Cond.methodLink zR12 401 (yN m_X12_isTold) ∈ z_T := z_in0 (zc_9 _ (List.mem_of_getElem? (i := 112) rfl)) rfl
theorem ml_L_230 : Cond.methodLink zRL 230 (yN m_X12_image) ∈ z_T := z_in0 (zc_9 _ (List.mem_of_getElem? (i := 116) rfl)) rfl
theorem ml_X12_411 : Cond.methodLink zR12 411 (yN m_X12_movesAll) ∈ z_T := z_in0 (zc_9 _ (List.mem_of_getElem? (i := 120) rfl)) rfl
theorem ml_X12_407 : Cond.methodLink zR12 407 (yN m_X12_moves) ∈ z_T := z_in0 (zc_9 _ (List.mem_of_getElem? (i := 124) rfl)) rfl
theorem ml_L_234 : Cond.methodLink zRL 234 (yN m_X12_restore) ∈ z_T := z_in0 (zc_9 _ (List.mem_of_getElem? (i := 128) rfl)) rfl
theorem ml_L_238 : Cond.methodLink zRL 238 (yN m_X12_count) ∈ z_T := z_in0 (zc_9 _ (List.mem_of_getElem? (i := 132) rfl)) rfl
theorem ca_2194 : Cond.castable "java/lang/IllegalArgumentException" "java/lang/Object" ∈ z_N := z_inN0 (zc_9 _ (List.mem_of_getElem? (i := 150) rfl)) rfl
theorem ca_2195 : Cond.castable "java/util/NoSuchElementException" "java/lang/Object" ∈ z_N := z_inN0 (zc_9 _ (List.mem_of_getElem? (i := 151) rfl)) rfl
theorem ca_2196 : Cond.castable "java/lang/IndexOutOfBoundsException" "java/lang/Object" ∈ z_N := z_inN0 (zc_9 _ (List.mem_of_getElem? (i := 152) rfl)) rfl
theorem ca_2197 : Cond.castable "java/lang/Throwable" "java/lang/Object" ∈ z_N := z_inN0 (zc_9 _ (List.mem_of_getElem? (i := 153) rfl)) rfl
theorem ca_2198 : Cond.castable "java/lang/String" "java/lang/Object" ∈ z_N := z_inN0 (zc_9 _ (List.mem_of_getElem? (i := 154) rfl)) rfl
theorem ac_int : Cond.arrayClass .int ∈ z_T := z_in0 (zc_1 _ (List.mem_of_getElem? (i := 114) rfl)) rfl
theorem ac_long : Cond.arrayClass .long ∈ z_T := z_in0 (zc_2 _ (List.mem_of_getElem? (i := 74) rfl)) rfl
theorem ac_byte : Cond.arrayClass .byte ∈ z_T := z_in0 (zc_1 _ (List.mem_of_getElem? (i := 59) rfl)) rfl
theorem ac_boolean : Cond.arrayClass .boolean ∈ z_T := z_in0 (zc_7 _ (List.mem_of_getElem? (i := 189) rfl)) rfl
theorem oi_i : Cond.instanceMethod objectInit ∈ z_T := z_in0 (zc_1 _ (List.mem_of_getElem? (i := 35) rfl)) rfl
theorem oi_c : Cond.code objectInit ⟨#[0xb1]⟩ 1 none ∈ z_T := z_in0 (zc_1 _ (List.mem_of_getElem? (i := 36) rfl)) rfl
theorem ay_n : Cond.native arraycopyName ∈ z_T := z_in0 (zc_3 _ (List.mem_of_getElem? (i := 225) rfl)) rfl
theorem ay_s : Cond.static arraycopyName ∈ z_T := z_in0 (zc_3 _ (List.mem_of_getElem? (i := 224) rfl)) rfl
theorem ay_i : Cond.initialized "java/lang/System" ∈ z_T := z_in0 (zc_1 _ (List.mem_of_getElem? (i := 24) rfl)) rfl
theorem fs_JS_9 : Cond.fieldLink "java/lang/String" 9 "java/lang/String" "value" "[B" ∈ z_T := z_in0 (zc_9 _ (List.mem_of_getElem? (i := 155) rfl)) rfl
theorem fs_JS_15 : Cond.fieldLink "java/lang/String" 15 "java/lang/String" "coder" "B" ∈ z_T := z_in0 (zc_9 _ (List.mem_of_getElem? (i := 156) rfl)) rfl
theorem fs_JS_38 : Cond.fieldLink "java/lang/String" 38 "java/lang/String" "COMPACT_STRINGS" "Z" ∈ z_T := z_in0 (zc_4 _ (List.mem_of_getElem? (i := 125) rfl)) rfl
theorem fs_JS_1053 : Cond.fieldLink "java/lang/String" 1053 "jdk/internal/util/Preconditions" "SIOOBE_FORMATTER" "Ljava/util/function/BiFunction;" ∈ z_T := z_in0 (zc_4 _ (List.mem_of_getElem? (i := 141) rfl)) rfl
theorem ms_max : Cond.static Lib.Math.max.name ∈ z_T := z_in0 (zc_3 _ (List.mem_of_getElem? (i := 65) rfl)) rfl
theorem mc_max : Cond.code Lib.Math.max.name Lib.Math.max.code 2 (some .int) ∈ z_T := z_in0 (zc_3 _ (List.mem_of_getElem? (i := 66) rfl)) rfl
theorem ms_min : Cond.static Lib.Math.min.name ∈ z_T := z_in0 (zc_2 _ (List.mem_of_getElem? (i := 186) rfl)) rfl
theorem mc_min : Cond.code Lib.Math.min.name Lib.Math.min.code 2 (some .int) ∈ z_T := z_in0 (zc_2 _ (List.mem_of_getElem? (i := 187) rfl)) rfl
theorem ms_i : Cond.initialized "java/lang/Math" ∈ z_T := z_in0 (zc_1 _ (List.mem_of_getElem? (i := 19) rfl)) rfl

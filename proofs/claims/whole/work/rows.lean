section
-- ===== PART A: goes FIRST, ahead of the names: the tables' words, and 'selects' of the private methods out of them =====
/-- a private method of a class that the tables say can be made, by its rows of tables_1 -/
def lw_okq (q : MethodName × Nat) : Prop := (q.1.cls ≠ "java/lang/invoke/MethodHandle" ∧ q.1.cls ≠ "java/lang/invoke/VarHandle") ∧ Cond.instantiable q.1.cls q.2 ∈ tables_1 ∧ Cond.privateMethod q.1 ∈ tables_1 ∧ Cond.instanceMethod q.1 ∈ tables_1
theorem lw_p0 : lw_okq (⟨"CutFiles", "sizeOf", "(I)I"⟩, 16) := ⟨⟨by decide +kernel, by decide +kernel⟩, List.mem_of_getElem? (i := 5) (by decide +kernel), List.mem_of_getElem? (i := 70) (by decide +kernel), List.mem_of_getElem? (i := 71) (by decide +kernel)⟩
theorem lw_p1 : lw_okq (⟨"CutFiles", "blockAt", "(II)I"⟩, 16) := ⟨⟨by decide +kernel, by decide +kernel⟩, List.mem_of_getElem? (i := 5) (by decide +kernel), List.mem_of_getElem? (i := 74) (by decide +kernel), List.mem_of_getElem? (i := 75) (by decide +kernel)⟩
theorem lw_p2 : lw_okq (⟨"CutFiles", "cellOf", "(II)I"⟩, 16) := ⟨⟨by decide +kernel, by decide +kernel⟩, List.mem_of_getElem? (i := 5) (by decide +kernel), List.mem_of_getElem? (i := 81) (by decide +kernel), List.mem_of_getElem? (i := 82) (by decide +kernel)⟩
theorem lw_p3 : lw_okq (⟨"CutFiles", "chooseNeedy", "(IIIZ)V"⟩, 16) := ⟨⟨by decide +kernel, by decide +kernel⟩, List.mem_of_getElem? (i := 5) (by decide +kernel), List.mem_of_getElem? (i := 95) (by decide +kernel), List.mem_of_getElem? (i := 96) (by decide +kernel)⟩
theorem lw_p4 : lw_okq (⟨"CutFiles", "addIfNeedy", "(IIZ)V"⟩, 16) := ⟨⟨by decide +kernel, by decide +kernel⟩, List.mem_of_getElem? (i := 5) (by decide +kernel), List.mem_of_getElem? (i := 99) (by decide +kernel), List.mem_of_getElem? (i := 100) (by decide +kernel)⟩
theorem lw_p5 : lw_okq (⟨"CutFiles", "countOf", "(I)I"⟩, 16) := ⟨⟨by decide +kernel, by decide +kernel⟩, List.mem_of_getElem? (i := 5) (by decide +kernel), List.mem_of_getElem? (i := 103) (by decide +kernel), List.mem_of_getElem? (i := 104) (by decide +kernel)⟩
theorem lw_p6 : lw_okq (⟨"CutFiles", "isSpent", "()Z"⟩, 16) := ⟨⟨by decide +kernel, by decide +kernel⟩, List.mem_of_getElem? (i := 5) (by decide +kernel), List.mem_of_getElem? (i := 107) (by decide +kernel), List.mem_of_getElem? (i := 108) (by decide +kernel)⟩
theorem lw_p7 : lw_okq (⟨"CutFiles", "freeMany", "()I"⟩, 16) := ⟨⟨by decide +kernel, by decide +kernel⟩, List.mem_of_getElem? (i := 5) (by decide +kernel), List.mem_of_getElem? (i := 111) (by decide +kernel), List.mem_of_getElem? (i := 112) (by decide +kernel)⟩
theorem lw_p8 : lw_okq (⟨"CutFiles", "ownNeedy", "(I)V"⟩, 16) := ⟨⟨by decide +kernel, by decide +kernel⟩, List.mem_of_getElem? (i := 5) (by decide +kernel), List.mem_of_getElem? (i := 115) (by decide +kernel), List.mem_of_getElem? (i := 116) (by decide +kernel)⟩
theorem lw_p9 : lw_okq (⟨"CutFiles", "getBlocks", "(I)V"⟩, 16) := ⟨⟨by decide +kernel, by decide +kernel⟩, List.mem_of_getElem? (i := 5) (by decide +kernel), List.mem_of_getElem? (i := 119) (by decide +kernel), List.mem_of_getElem? (i := 120) (by decide +kernel)⟩
theorem lw_p10 : lw_okq (⟨"CutFiles", "bestRun", "(I)I"⟩, 16) := ⟨⟨by decide +kernel, by decide +kernel⟩, List.mem_of_getElem? (i := 5) (by decide +kernel), List.mem_of_getElem? (i := 123) (by decide +kernel), List.mem_of_getElem? (i := 124) (by decide +kernel)⟩
theorem lw_p11 : lw_okq (⟨"CutFiles", "startsStretch", "(IZ)Z"⟩, 16) := ⟨⟨by decide +kernel, by decide +kernel⟩, List.mem_of_getElem? (i := 5) (by decide +kernel), List.mem_of_getElem? (i := 127) (by decide +kernel), List.mem_of_getElem? (i := 128) (by decide +kernel)⟩
theorem lw_p12 : lw_okq (⟨"CutFiles", "stretchLength", "(I)I"⟩, 16) := ⟨⟨by decide +kernel, by decide +kernel⟩, List.mem_of_getElem? (i := 5) (by decide +kernel), List.mem_of_getElem? (i := 131) (by decide +kernel), List.mem_of_getElem? (i := 132) (by decide +kernel)⟩
theorem lw_p13 : lw_okq (⟨"CutFiles", "takeFromRun", "(II)V"⟩, 16) := ⟨⟨by decide +kernel, by decide +kernel⟩, List.mem_of_getElem? (i := 5) (by decide +kernel), List.mem_of_getElem? (i := 138) (by decide +kernel), List.mem_of_getElem? (i := 139) (by decide +kernel)⟩
theorem lw_p14 : lw_okq (⟨"CutFiles", "addToCount", "(II)V"⟩, 16) := ⟨⟨by decide +kernel, by decide +kernel⟩, List.mem_of_getElem? (i := 5) (by decide +kernel), List.mem_of_getElem? (i := 145) (by decide +kernel), List.mem_of_getElem? (i := 146) (by decide +kernel)⟩
theorem lw_p15 : lw_okq (⟨"CutFiles", "giveBlock", "(III)V"⟩, 16) := ⟨⟨by decide +kernel, by decide +kernel⟩, List.mem_of_getElem? (i := 5) (by decide +kernel), List.mem_of_getElem? (i := 149) (by decide +kernel), List.mem_of_getElem? (i := 150) (by decide +kernel)⟩
def lw_privs_1 : List (MethodName × Nat) := [(⟨"CutFiles", "sizeOf", "(I)I"⟩, 16), (⟨"CutFiles", "blockAt", "(II)I"⟩, 16), (⟨"CutFiles", "cellOf", "(II)I"⟩, 16), (⟨"CutFiles", "chooseNeedy", "(IIIZ)V"⟩, 16), (⟨"CutFiles", "addIfNeedy", "(IIZ)V"⟩, 16), (⟨"CutFiles", "countOf", "(I)I"⟩, 16), (⟨"CutFiles", "isSpent", "()Z"⟩, 16), (⟨"CutFiles", "freeMany", "()I"⟩, 16), (⟨"CutFiles", "ownNeedy", "(I)V"⟩, 16), (⟨"CutFiles", "getBlocks", "(I)V"⟩, 16), (⟨"CutFiles", "bestRun", "(I)I"⟩, 16), (⟨"CutFiles", "startsStretch", "(IZ)Z"⟩, 16), (⟨"CutFiles", "stretchLength", "(I)I"⟩, 16), (⟨"CutFiles", "takeFromRun", "(II)V"⟩, 16), (⟨"CutFiles", "addToCount", "(II)V"⟩, 16), (⟨"CutFiles", "giveBlock", "(III)V"⟩, 16)]
theorem lw_r1 : ∀ q ∈ lw_privs_1, lw_okq q := List.forall_mem_cons.mpr ⟨lw_p0, List.forall_mem_cons.mpr ⟨lw_p1, List.forall_mem_cons.mpr ⟨lw_p2, List.forall_mem_cons.mpr ⟨lw_p3, List.forall_mem_cons.mpr ⟨lw_p4, List.forall_mem_cons.mpr ⟨lw_p5, List.forall_mem_cons.mpr ⟨lw_p6, List.forall_mem_cons.mpr ⟨lw_p7, List.forall_mem_cons.mpr ⟨lw_p8, List.forall_mem_cons.mpr ⟨lw_p9, List.forall_mem_cons.mpr ⟨lw_p10, List.forall_mem_cons.mpr ⟨lw_p11, List.forall_mem_cons.mpr ⟨lw_p12, List.forall_mem_cons.mpr ⟨lw_p13, List.forall_mem_cons.mpr ⟨lw_p14, List.forall_mem_cons.mpr ⟨lw_p15, fun _ h => absurd h List.not_mem_nil⟩⟩⟩⟩⟩⟩⟩⟩⟩⟩⟩⟩⟩⟩⟩⟩
theorem lw_p16 : lw_okq (⟨"CutFiles", "setCell", "(III)V"⟩, 16) := ⟨⟨by decide +kernel, by decide +kernel⟩, List.mem_of_getElem? (i := 5) (by decide +kernel), List.mem_of_getElem? (i := 153) (by decide +kernel), List.mem_of_getElem? (i := 154) (by decide +kernel)⟩
theorem lw_p17 : lw_okq (⟨"CutFiles", "putBlock", "(III)V"⟩, 16) := ⟨⟨by decide +kernel, by decide +kernel⟩, List.mem_of_getElem? (i := 5) (by decide +kernel), List.mem_of_getElem? (i := 157) (by decide +kernel), List.mem_of_getElem? (i := 158) (by decide +kernel)⟩
theorem lw_p18 : lw_okq (⟨"CutFiles", "setCells", "(IIII)V"⟩, 16) := ⟨⟨by decide +kernel, by decide +kernel⟩, List.mem_of_getElem? (i := 5) (by decide +kernel), List.mem_of_getElem? (i := 161) (by decide +kernel), List.mem_of_getElem? (i := 162) (by decide +kernel)⟩
theorem lw_p19 : lw_okq (⟨"CutFiles", "growTo", "(II)V"⟩, 16) := ⟨⟨by decide +kernel, by decide +kernel⟩, List.mem_of_getElem? (i := 5) (by decide +kernel), List.mem_of_getElem? (i := 165) (by decide +kernel), List.mem_of_getElem? (i := 166) (by decide +kernel)⟩
theorem lw_p20 : lw_okq (⟨"CutFiles", "setSize", "(II)V"⟩, 16) := ⟨⟨by decide +kernel, by decide +kernel⟩, List.mem_of_getElem? (i := 5) (by decide +kernel), List.mem_of_getElem? (i := 172) (by decide +kernel), List.mem_of_getElem? (i := 173) (by decide +kernel)⟩
theorem lw_p21 : lw_okq (⟨"CutFiles", "chooseCutThrough", "(III)V"⟩, 16) := ⟨⟨by decide +kernel, by decide +kernel⟩, List.mem_of_getElem? (i := 5) (by decide +kernel), List.mem_of_getElem? (i := 180) (by decide +kernel), List.mem_of_getElem? (i := 181) (by decide +kernel)⟩
theorem lw_p22 : lw_okq (⟨"CutFiles", "isAllIn", "(IIII)Z"⟩, 16) := ⟨⟨by decide +kernel, by decide +kernel⟩, List.mem_of_getElem? (i := 5) (by decide +kernel), List.mem_of_getElem? (i := 184) (by decide +kernel), List.mem_of_getElem? (i := 185) (by decide +kernel)⟩
theorem lw_p23 : lw_okq (⟨"CutFiles", "clearCells", "(III)I"⟩, 16) := ⟨⟨by decide +kernel, by decide +kernel⟩, List.mem_of_getElem? (i := 5) (by decide +kernel), List.mem_of_getElem? (i := 188) (by decide +kernel), List.mem_of_getElem? (i := 189) (by decide +kernel)⟩
theorem lw_p24 : lw_okq (⟨"CutFiles", "isBelowSize", "(III)Z"⟩, 16) := ⟨⟨by decide +kernel, by decide +kernel⟩, List.mem_of_getElem? (i := 5) (by decide +kernel), List.mem_of_getElem? (i := 211) (by decide +kernel), List.mem_of_getElem? (i := 212) (by decide +kernel)⟩
theorem lw_p25 : lw_okq (⟨"CutFiles", "openLog", "(IIIII)V"⟩, 16) := ⟨⟨by decide +kernel, by decide +kernel⟩, List.mem_of_getElem? (i := 5) (by decide +kernel), List.mem_of_getElem? (i := 230) (by decide +kernel), List.mem_of_getElem? (i := 231) (by decide +kernel)⟩
theorem lw_p26 : lw_okq (⟨"CutFiles", "doSteps", "(II)V"⟩, 16) := ⟨⟨by decide +kernel, by decide +kernel⟩, List.mem_of_getElem? (i := 5) (by decide +kernel), List.mem_of_getElem? (i := 234) (by decide +kernel), List.mem_of_getElem? (i := 235) (by decide +kernel)⟩
theorem lw_p27 : lw_okq (⟨"CutFiles", "placesCountedFrom", "(II)I"⟩, 16) := ⟨⟨by decide +kernel, by decide +kernel⟩, List.mem_of_getElem? (i := 5) (by decide +kernel), List.mem_of_getElem? (i := 246) (by decide +kernel), List.mem_of_getElem? (i := 247) (by decide +kernel)⟩
theorem lw_p28 : lw_okq (⟨"CutFiles", "piecesOf", "(I)I"⟩, 16) := ⟨⟨by decide +kernel, by decide +kernel⟩, List.mem_of_getElem? (i := 5) (by decide +kernel), List.mem_of_getElem? (i := 250) (by decide +kernel), List.mem_of_getElem? (i := 251) (by decide +kernel)⟩
theorem lw_p29 : lw_okq (⟨"CutFiles", "startsPiece", "(II)Z"⟩, 16) := ⟨⟨by decide +kernel, by decide +kernel⟩, List.mem_of_getElem? (i := 5) (by decide +kernel), List.mem_of_getElem? (i := 254) (by decide +kernel), List.mem_of_getElem? (i := 255) (by decide +kernel)⟩
theorem lw_p30 : lw_okq (⟨"CutFiles", "goesOn", "(II)Z"⟩, 16) := ⟨⟨by decide +kernel, by decide +kernel⟩, List.mem_of_getElem? (i := 5) (by decide +kernel), List.mem_of_getElem? (i := 258) (by decide +kernel), List.mem_of_getElem? (i := 259) (by decide +kernel)⟩
theorem lw_p31 : lw_okq (⟨"CutFiles", "pieceStart", "(II)I"⟩, 16) := ⟨⟨by decide +kernel, by decide +kernel⟩, List.mem_of_getElem? (i := 5) (by decide +kernel), List.mem_of_getElem? (i := 270) (by decide +kernel), List.mem_of_getElem? (i := 271) (by decide +kernel)⟩
def lw_privs_2 : List (MethodName × Nat) := [(⟨"CutFiles", "setCell", "(III)V"⟩, 16), (⟨"CutFiles", "putBlock", "(III)V"⟩, 16), (⟨"CutFiles", "setCells", "(IIII)V"⟩, 16), (⟨"CutFiles", "growTo", "(II)V"⟩, 16), (⟨"CutFiles", "setSize", "(II)V"⟩, 16), (⟨"CutFiles", "chooseCutThrough", "(III)V"⟩, 16), (⟨"CutFiles", "isAllIn", "(IIII)Z"⟩, 16), (⟨"CutFiles", "clearCells", "(III)I"⟩, 16), (⟨"CutFiles", "isBelowSize", "(III)Z"⟩, 16), (⟨"CutFiles", "openLog", "(IIIII)V"⟩, 16), (⟨"CutFiles", "doSteps", "(II)V"⟩, 16), (⟨"CutFiles", "placesCountedFrom", "(II)I"⟩, 16), (⟨"CutFiles", "piecesOf", "(I)I"⟩, 16), (⟨"CutFiles", "startsPiece", "(II)Z"⟩, 16), (⟨"CutFiles", "goesOn", "(II)Z"⟩, 16), (⟨"CutFiles", "pieceStart", "(II)I"⟩, 16)]
theorem lw_r2 : ∀ q ∈ lw_privs_2, lw_okq q := List.forall_mem_cons.mpr ⟨lw_p16, List.forall_mem_cons.mpr ⟨lw_p17, List.forall_mem_cons.mpr ⟨lw_p18, List.forall_mem_cons.mpr ⟨lw_p19, List.forall_mem_cons.mpr ⟨lw_p20, List.forall_mem_cons.mpr ⟨lw_p21, List.forall_mem_cons.mpr ⟨lw_p22, List.forall_mem_cons.mpr ⟨lw_p23, List.forall_mem_cons.mpr ⟨lw_p24, List.forall_mem_cons.mpr ⟨lw_p25, List.forall_mem_cons.mpr ⟨lw_p26, List.forall_mem_cons.mpr ⟨lw_p27, List.forall_mem_cons.mpr ⟨lw_p28, List.forall_mem_cons.mpr ⟨lw_p29, List.forall_mem_cons.mpr ⟨lw_p30, List.forall_mem_cons.mpr ⟨lw_p31, fun _ h => absurd h List.not_mem_nil⟩⟩⟩⟩⟩⟩⟩⟩⟩⟩⟩⟩⟩⟩⟩⟩
theorem lw_p32 : lw_okq (⟨"CutFiles", "pieceLength", "(II)I"⟩, 16) := ⟨⟨by decide +kernel, by decide +kernel⟩, List.mem_of_getElem? (i := 5) (by decide +kernel), List.mem_of_getElem? (i := 274) (by decide +kernel), List.mem_of_getElem? (i := 275) (by decide +kernel)⟩
theorem lw_p33 : lw_okq (⟨"CutFiles", "stretchStart", "(IZ)I"⟩, 16) := ⟨⟨by decide +kernel, by decide +kernel⟩, List.mem_of_getElem? (i := 5) (by decide +kernel), List.mem_of_getElem? (i := 290) (by decide +kernel), List.mem_of_getElem? (i := 291) (by decide +kernel)⟩
theorem lw_p34 : lw_okq (⟨"CutFiles", "sharedMany", "()I"⟩, 16) := ⟨⟨by decide +kernel, by decide +kernel⟩, List.mem_of_getElem? (i := 5) (by decide +kernel), List.mem_of_getElem? (i := 298) (by decide +kernel), List.mem_of_getElem? (i := 299) (by decide +kernel)⟩
theorem lw_p35 : lw_okq (⟨"CutFiles", "stretchesMany", "(Z)I"⟩, 16) := ⟨⟨by decide +kernel, by decide +kernel⟩, List.mem_of_getElem? (i := 5) (by decide +kernel), List.mem_of_getElem? (i := 302) (by decide +kernel), List.mem_of_getElem? (i := 303) (by decide +kernel)⟩
theorem lw_p36 : lw_okq (⟨"CutFilesModel", "wants", "(IIZ)V"⟩, 17) := ⟨⟨by decide +kernel, by decide +kernel⟩, List.mem_of_getElem? (i := 306) (by decide +kernel), List.mem_of_getElem? (i := 379) (by decide +kernel), List.mem_of_getElem? (i := 380) (by decide +kernel)⟩
theorem lw_p37 : lw_okq (⟨"CutFilesModel", "isShared", "(II)Z"⟩, 17) := ⟨⟨by decide +kernel, by decide +kernel⟩, List.mem_of_getElem? (i := 306) (by decide +kernel), List.mem_of_getElem? (i := 383) (by decide +kernel), List.mem_of_getElem? (i := 384) (by decide +kernel)⟩
theorem lw_p38 : lw_okq (⟨"CutFilesModel", "countOf", "(I)I"⟩, 17) := ⟨⟨by decide +kernel, by decide +kernel⟩, List.mem_of_getElem? (i := 306) (by decide +kernel), List.mem_of_getElem? (i := 387) (by decide +kernel), List.mem_of_getElem? (i := 388) (by decide +kernel)⟩
theorem lw_p39 : lw_okq (⟨"CutFilesModel", "owns", "(I)Z"⟩, 17) := ⟨⟨by decide +kernel, by decide +kernel⟩, List.mem_of_getElem? (i := 306) (by decide +kernel), List.mem_of_getElem? (i := 391) (by decide +kernel), List.mem_of_getElem? (i := 392) (by decide +kernel)⟩
theorem lw_p40 : lw_okq (⟨"CutFilesModel", "gets", "(I)Z"⟩, 17) := ⟨⟨by decide +kernel, by decide +kernel⟩, List.mem_of_getElem? (i := 306) (by decide +kernel), List.mem_of_getElem? (i := 395) (by decide +kernel), List.mem_of_getElem? (i := 396) (by decide +kernel)⟩
theorem lw_p41 : lw_okq (⟨"CutFilesModel", "findTaken", "()V"⟩, 17) := ⟨⟨by decide +kernel, by decide +kernel⟩, List.mem_of_getElem? (i := 306) (by decide +kernel), List.mem_of_getElem? (i := 399) (by decide +kernel), List.mem_of_getElem? (i := 400) (by decide +kernel)⟩
theorem lw_p42 : lw_okq (⟨"CutFilesModel", "runFor", "(I)I"⟩, 17) := ⟨⟨by decide +kernel, by decide +kernel⟩, List.mem_of_getElem? (i := 306) (by decide +kernel), List.mem_of_getElem? (i := 403) (by decide +kernel), List.mem_of_getElem? (i := 404) (by decide +kernel)⟩
theorem lw_p43 : lw_okq (⟨"CutFilesModel", "beginsRun", "(I)Z"⟩, 17) := ⟨⟨by decide +kernel, by decide +kernel⟩, List.mem_of_getElem? (i := 306) (by decide +kernel), List.mem_of_getElem? (i := 407) (by decide +kernel), List.mem_of_getElem? (i := 408) (by decide +kernel)⟩
theorem lw_p44 : lw_okq (⟨"CutFilesModel", "freeFrom", "(I)I"⟩, 17) := ⟨⟨by decide +kernel, by decide +kernel⟩, List.mem_of_getElem? (i := 306) (by decide +kernel), List.mem_of_getElem? (i := 411) (by decide +kernel), List.mem_of_getElem? (i := 412) (by decide +kernel)⟩
theorem lw_p45 : lw_okq (⟨"CutFilesModel", "copies", "(II)V"⟩, 17) := ⟨⟨by decide +kernel, by decide +kernel⟩, List.mem_of_getElem? (i := 306) (by decide +kernel), List.mem_of_getElem? (i := 415) (by decide +kernel), List.mem_of_getElem? (i := 416) (by decide +kernel)⟩
theorem lw_p46 : lw_okq (⟨"CutFilesModel", "punches", "(III)Z"⟩, 17) := ⟨⟨by decide +kernel, by decide +kernel⟩, List.mem_of_getElem? (i := 306) (by decide +kernel), List.mem_of_getElem? (i := 423) (by decide +kernel), List.mem_of_getElem? (i := 424) (by decide +kernel)⟩
theorem lw_p47 : lw_okq (⟨"CutFilesModel", "isWhole", "(IIII)Z"⟩, 17) := ⟨⟨by decide +kernel, by decide +kernel⟩, List.mem_of_getElem? (i := 306) (by decide +kernel), List.mem_of_getElem? (i := 427) (by decide +kernel), List.mem_of_getElem? (i := 428) (by decide +kernel)⟩
def lw_privs_3 : List (MethodName × Nat) := [(⟨"CutFiles", "pieceLength", "(II)I"⟩, 16), (⟨"CutFiles", "stretchStart", "(IZ)I"⟩, 16), (⟨"CutFiles", "sharedMany", "()I"⟩, 16), (⟨"CutFiles", "stretchesMany", "(Z)I"⟩, 16), (⟨"CutFilesModel", "wants", "(IIZ)V"⟩, 17), (⟨"CutFilesModel", "isShared", "(II)Z"⟩, 17), (⟨"CutFilesModel", "countOf", "(I)I"⟩, 17), (⟨"CutFilesModel", "owns", "(I)Z"⟩, 17), (⟨"CutFilesModel", "gets", "(I)Z"⟩, 17), (⟨"CutFilesModel", "findTaken", "()V"⟩, 17), (⟨"CutFilesModel", "runFor", "(I)I"⟩, 17), (⟨"CutFilesModel", "beginsRun", "(I)Z"⟩, 17), (⟨"CutFilesModel", "freeFrom", "(I)I"⟩, 17), (⟨"CutFilesModel", "copies", "(II)V"⟩, 17), (⟨"CutFilesModel", "punches", "(III)Z"⟩, 17), (⟨"CutFilesModel", "isWhole", "(IIII)Z"⟩, 17)]
theorem lw_r3 : ∀ q ∈ lw_privs_3, lw_okq q := List.forall_mem_cons.mpr ⟨lw_p32, List.forall_mem_cons.mpr ⟨lw_p33, List.forall_mem_cons.mpr ⟨lw_p34, List.forall_mem_cons.mpr ⟨lw_p35, List.forall_mem_cons.mpr ⟨lw_p36, List.forall_mem_cons.mpr ⟨lw_p37, List.forall_mem_cons.mpr ⟨lw_p38, List.forall_mem_cons.mpr ⟨lw_p39, List.forall_mem_cons.mpr ⟨lw_p40, List.forall_mem_cons.mpr ⟨lw_p41, List.forall_mem_cons.mpr ⟨lw_p42, List.forall_mem_cons.mpr ⟨lw_p43, List.forall_mem_cons.mpr ⟨lw_p44, List.forall_mem_cons.mpr ⟨lw_p45, List.forall_mem_cons.mpr ⟨lw_p46, List.forall_mem_cons.mpr ⟨lw_p47, fun _ h => absurd h List.not_mem_nil⟩⟩⟩⟩⟩⟩⟩⟩⟩⟩⟩⟩⟩⟩⟩⟩
theorem lw_p48 : lw_okq (⟨"CutFilesModel", "clears", "(IIII)V"⟩, 17) := ⟨⟨by decide +kernel, by decide +kernel⟩, List.mem_of_getElem? (i := 306) (by decide +kernel), List.mem_of_getElem? (i := 431) (by decide +kernel), List.mem_of_getElem? (i := 432) (by decide +kernel)⟩
theorem lw_p49 : lw_okq (⟨"CutFilesModel", "steps", "(I)V"⟩, 17) := ⟨⟨by decide +kernel, by decide +kernel⟩, List.mem_of_getElem? (i := 306) (by decide +kernel), List.mem_of_getElem? (i := 472) (by decide +kernel), List.mem_of_getElem? (i := 473) (by decide +kernel)⟩
theorem lw_p50 : lw_okq (⟨"CutFilesModel", "placesIn", "(I)I"⟩, 17) := ⟨⟨by decide +kernel, by decide +kernel⟩, List.mem_of_getElem? (i := 306) (by decide +kernel), List.mem_of_getElem? (i := 484) (by decide +kernel), List.mem_of_getElem? (i := 485) (by decide +kernel)⟩
theorem lw_p51 : lw_okq (⟨"CutFilesModel", "sharedIn", "(I)I"⟩, 17) := ⟨⟨by decide +kernel, by decide +kernel⟩, List.mem_of_getElem? (i := 306) (by decide +kernel), List.mem_of_getElem? (i := 488) (by decide +kernel), List.mem_of_getElem? (i := 489) (by decide +kernel)⟩
theorem lw_p52 : lw_okq (⟨"CutFilesModel", "pieces", "(I)I"⟩, 17) := ⟨⟨by decide +kernel, by decide +kernel⟩, List.mem_of_getElem? (i := 306) (by decide +kernel), List.mem_of_getElem? (i := 492) (by decide +kernel), List.mem_of_getElem? (i := 493) (by decide +kernel)⟩
theorem lw_p53 : lw_okq (⟨"CutFilesModel", "beginsPiece", "(II)Z"⟩, 17) := ⟨⟨by decide +kernel, by decide +kernel⟩, List.mem_of_getElem? (i := 306) (by decide +kernel), List.mem_of_getElem? (i := 496) (by decide +kernel), List.mem_of_getElem? (i := 497) (by decide +kernel)⟩
theorem lw_p54 : lw_okq (⟨"CutFilesModel", "lengthOfPiece", "(II)I"⟩, 17) := ⟨⟨by decide +kernel, by decide +kernel⟩, List.mem_of_getElem? (i := 306) (by decide +kernel), List.mem_of_getElem? (i := 508) (by decide +kernel), List.mem_of_getElem? (i := 509) (by decide +kernel)⟩
theorem lw_p55 : lw_okq (⟨"CutFilesModel", "beginsRange", "(IZ)Z"⟩, 17) := ⟨⟨by decide +kernel, by decide +kernel⟩, List.mem_of_getElem? (i := 306) (by decide +kernel), List.mem_of_getElem? (i := 524) (by decide +kernel), List.mem_of_getElem? (i := 525) (by decide +kernel)⟩
theorem lw_p56 : lw_okq (⟨"CutFilesModel", "lengthOfRange", "(I)I"⟩, 17) := ⟨⟨by decide +kernel, by decide +kernel⟩, List.mem_of_getElem? (i := 306) (by decide +kernel), List.mem_of_getElem? (i := 528) (by decide +kernel), List.mem_of_getElem? (i := 529) (by decide +kernel)⟩
theorem lw_p57 : lw_okq (⟨"CutFilesModel", "manyWith", "(II)I"⟩, 17) := ⟨⟨by decide +kernel, by decide +kernel⟩, List.mem_of_getElem? (i := 306) (by decide +kernel), List.mem_of_getElem? (i := 536) (by decide +kernel), List.mem_of_getElem? (i := 537) (by decide +kernel)⟩
theorem lw_p58 : lw_okq (⟨"CutFilesModel", "ranges", "(Z)I"⟩, 17) := ⟨⟨by decide +kernel, by decide +kernel⟩, List.mem_of_getElem? (i := 306) (by decide +kernel), List.mem_of_getElem? (i := 540) (by decide +kernel), List.mem_of_getElem? (i := 541) (by decide +kernel)⟩
def lw_privs_4 : List (MethodName × Nat) := [(⟨"CutFilesModel", "clears", "(IIII)V"⟩, 17), (⟨"CutFilesModel", "steps", "(I)V"⟩, 17), (⟨"CutFilesModel", "placesIn", "(I)I"⟩, 17), (⟨"CutFilesModel", "sharedIn", "(I)I"⟩, 17), (⟨"CutFilesModel", "pieces", "(I)I"⟩, 17), (⟨"CutFilesModel", "beginsPiece", "(II)Z"⟩, 17), (⟨"CutFilesModel", "lengthOfPiece", "(II)I"⟩, 17), (⟨"CutFilesModel", "beginsRange", "(IZ)Z"⟩, 17), (⟨"CutFilesModel", "lengthOfRange", "(I)I"⟩, 17), (⟨"CutFilesModel", "manyWith", "(II)I"⟩, 17), (⟨"CutFilesModel", "ranges", "(Z)I"⟩, 17)]
theorem lw_r4 : ∀ q ∈ lw_privs_4, lw_okq q := List.forall_mem_cons.mpr ⟨lw_p48, List.forall_mem_cons.mpr ⟨lw_p49, List.forall_mem_cons.mpr ⟨lw_p50, List.forall_mem_cons.mpr ⟨lw_p51, List.forall_mem_cons.mpr ⟨lw_p52, List.forall_mem_cons.mpr ⟨lw_p53, List.forall_mem_cons.mpr ⟨lw_p54, List.forall_mem_cons.mpr ⟨lw_p55, List.forall_mem_cons.mpr ⟨lw_p56, List.forall_mem_cons.mpr ⟨lw_p57, List.forall_mem_cons.mpr ⟨lw_p58, fun _ h => absurd h List.not_mem_nil⟩⟩⟩⟩⟩⟩⟩⟩⟩⟩⟩
def lw_privs : List (MethodName × Nat) := lw_privs_1 ++ (lw_privs_2 ++ (lw_privs_3 ++ (lw_privs_4)))
def lw_tbl : List Cond := k2_sels lw_privs ++ tables_1
theorem lw_privs_ok : ∀ q ∈ lw_privs, lw_okq q := by
  show ∀ q ∈ lw_privs_1 ++ (lw_privs_2 ++ (lw_privs_3 ++ (lw_privs_4))), lw_okq q
  exact List.forall_mem_append.mpr ⟨lw_r1, List.forall_mem_append.mpr ⟨lw_r2, List.forall_mem_append.mpr ⟨lw_r3, lw_r4⟩⟩⟩
end
section
/-! ===== BEGIN words of one list among another's, by their places ===== -/
theorem goodIn_r {big : List Cond} (ws : List Cond) (ps : List Nat) (hp : ws = ps.filterMap (fun i => big[i]?)) (h : ws.all goodWord = true) : GoodIn big ws := by
  intro w hw
  have h1 := List.all_eq_true.mp h w hw
  rw [hp] at hw
  obtain ⟨i, -, hi⟩ := List.mem_filterMap.mp hw
  have hm : w ∈ big := by first | exact List.mem_of_getElem? hi | exact List.getElem?_mem hi
  exact ⟨hm, good_of_word h1⟩
theorem goodIn_app {big a b : List Cond} (ha : GoodIn big a) (hb : GoodIn big b) : GoodIn big (a ++ b) := fun w h => (List.mem_append.mp h).elim (ha w) (hb w)
theorem goodIn_ca {big a b : List Cond} {c : Cond} (ha : GoodIn big (c :: a)) (hb : GoodIn big b) : GoodIn big (c :: (a ++ b)) := fun w h => (List.mem_cons.mp h).elim (fun e => ha w (List.mem_cons.mpr (Or.inl e))) (fun h => (List.mem_append.mp h).elim (fun h => ha w (List.mem_cons.mpr (Or.inr h))) (hb w))
theorem goodIn_sub {big ws : List Cond} (hm : ∀ w ∈ ws, w ∈ big) (h : ws.all goodWord = true) : GoodIn big ws := fun w hw => ⟨hm w hw, good_of_word (List.all_eq_true.mp h w hw)⟩
/-! ===== END ===== -/

/-! ===== BEGIN printed: names, fields, word lists, decode rows ===== -/
def RX0 : String := "CutFiles"
def TX0 : u_T := fun k => match k with
  | 0 => ("CutFiles", "cells", "[I", true)
  | 1 => ("CutFiles", "counts", "[I", true)
  | 2 => ("CutFiles", "blocks", "[I", true)
  | 3 => ("CutFiles", "sizes", "[I", true)
  | 4 => ("CutFiles", "needy", "[I", true)
  | 5 => ("CutFiles", "needyMany", "I", false)
  | 6 => ("CutFiles", "got", "[I", true)
  | 7 => ("CutFiles", "gotMany", "I", false)
  | 8 => ("CutFiles", "failAt", "I", false)
  | 9 => ("CutFiles", "down", "Z", false)
  | 10 => ("CutFiles", "logF", "I", false)
  | 11 => ("CutFiles", "logP", "I", false)
  | 12 => ("CutFiles", "logG", "I", false)
  | 13 => ("CutFiles", "logQ", "I", false)
  | 14 => ("CutFiles", "logSteps", "I", false)
  | _ => ("CutFiles", "logDone", "I", false)
def tyX0 : Nat → FieldType := fun k => match k with
  | 0 => .array .int
  | 1 => .array .int
  | 2 => .array .int
  | 3 => .array .int
  | 4 => .array .int
  | 5 => .int
  | 6 => .array .int
  | 7 => .int
  | 8 => .int
  | 9 => .boolean
  | 10 => .int
  | 11 => .int
  | 12 => .int
  | 13 => .int
  | 14 => .int
  | _ => .int
abbrev wsX00 : List Cond := u_ws RX0 TX0 16
theorem nmX0 : ∀ a, a < 16 → ∀ b, b < 16 → a ≠ b → (TX0 a).2.1 ≠ (TX0 b).2.1 := by decide +kernel
theorem tyX0_ok : ∀ k, k < 16 → parseFieldDescriptor (TX0 k).2.2.1 = some (tyX0 k) := by decide +kernel
abbrev cX0_init : ByteArray := prog_1_method_1_code
def yX0_init : MethodName := ⟨RX0, "<init>", "()V"⟩
abbrev cX0_read : ByteArray := prog_1_method_2_code
def yX0_read : MethodName := ⟨RX0, "read", "(II)I"⟩
abbrev cX0_write : ByteArray := prog_1_method_3_code
def yX0_write : MethodName := ⟨RX0, "write", "(IIII)I"⟩
abbrev cX0_cut : ByteArray := prog_1_method_4_code
def yX0_cut : MethodName := ⟨RX0, "cut", "(II)I"⟩
abbrev cX0_punch : ByteArray := prog_1_method_5_code
def yX0_punch : MethodName := ⟨RX0, "punch", "(III)I"⟩
abbrev cX0_collapse : ByteArray := prog_1_method_6_code
def yX0_collapse : MethodName := ⟨RX0, "collapse", "(III)I"⟩
abbrev cX0_insert : ByteArray := prog_1_method_7_code
def yX0_insert : MethodName := ⟨RX0, "insert", "(III)I"⟩
abbrev cX0_share : ByteArray := prog_1_method_8_code
def yX0_share : MethodName := ⟨RX0, "share", "(IIIII)I"⟩
abbrev cX0_unshare : ByteArray := prog_1_method_9_code
def yX0_unshare : MethodName := ⟨RX0, "unshare", "(III)I"⟩
abbrev cX0_failure : ByteArray := prog_1_method_10_code
def yX0_failure : MethodName := ⟨RX0, "failure", "(I)I"⟩
abbrev cX0_exchange : ByteArray := prog_1_method_11_code
def yX0_exchange : MethodName := ⟨RX0, "exchange", "(IIIII)I"⟩
abbrev cX0_mount : ByteArray := prog_1_method_12_code
def yX0_mount : MethodName := ⟨RX0, "mount", "(Z)I"⟩
abbrev cX0_ofFile : ByteArray := prog_1_method_13_code
def yX0_ofFile : MethodName := ⟨RX0, "ofFile", "(II)I"⟩
abbrev cX0_block : ByteArray := prog_1_method_14_code
def yX0_block : MethodName := ⟨RX0, "block", "(II)I"⟩
abbrev cX0_piece : ByteArray := prog_1_method_15_code
def yX0_piece : MethodName := ⟨RX0, "piece", "(III)I"⟩
abbrev cX0_seek : ByteArray := prog_1_method_16_code
def yX0_seek : MethodName := ⟨RX0, "seek", "(IIZ)I"⟩
abbrev cX0_count : ByteArray := prog_1_method_17_code
def yX0_count : MethodName := ⟨RX0, "count", "(I)I"⟩
abbrev cX0_range : ByteArray := prog_1_method_18_code
def yX0_range : MethodName := ⟨RX0, "range", "(II)I"⟩
abbrev cX0_many : ByteArray := prog_1_method_19_code
def yX0_many : MethodName := ⟨RX0, "many", "(I)I"⟩
abbrev cX0_isFile : ByteArray := prog_1_method_20_code
def yX0_isFile : MethodName := ⟨RX0, "isFile", "(I)Z"⟩
abbrev cX0_isPlace : ByteArray := prog_1_method_21_code
def yX0_isPlace : MethodName := ⟨RX0, "isPlace", "(I)Z"⟩
abbrev cX0_isBlock : ByteArray := prog_1_method_22_code
def yX0_isBlock : MethodName := ⟨RX0, "isBlock", "(I)Z"⟩
abbrev cX0_isCellRange : ByteArray := prog_1_method_23_code
def yX0_isCellRange : MethodName := ⟨RX0, "isCellRange", "(II)Z"⟩
abbrev cX0_isPlaceRange : ByteArray := prog_1_method_24_code
def yX0_isPlaceRange : MethodName := ⟨RX0, "isPlaceRange", "(II)Z"⟩
abbrev cX0_meet : ByteArray := prog_1_method_25_code
def yX0_meet : MethodName := ⟨RX0, "meet", "(IIIII)Z"⟩
abbrev cX0_isBelowSize : ByteArray := prog_1_method_26_code
def yX0_isBelowSize : MethodName := ⟨RX0, "isBelowSize", "(III)Z"⟩
abbrev cX0_sizeOf : ByteArray := prog_1_method_27_code
def yX0_sizeOf : MethodName := ⟨RX0, "sizeOf", "(I)I"⟩
abbrev cX0_setSize : ByteArray := prog_1_method_28_code
def yX0_setSize : MethodName := ⟨RX0, "setSize", "(II)V"⟩
abbrev cX0_growTo : ByteArray := prog_1_method_29_code
def yX0_growTo : MethodName := ⟨RX0, "growTo", "(II)V"⟩
abbrev cX0_blockAt : ByteArray := prog_1_method_30_code
def yX0_blockAt : MethodName := ⟨RX0, "blockAt", "(II)I"⟩
abbrev cX0_putBlock : ByteArray := prog_1_method_31_code
def yX0_putBlock : MethodName := ⟨RX0, "putBlock", "(III)V"⟩
abbrev cX0_placesCountedFrom : ByteArray := prog_1_method_32_code
def yX0_placesCountedFrom : MethodName := ⟨RX0, "placesCountedFrom", "(II)I"⟩
abbrev cX0_startsPiece : ByteArray := prog_1_method_33_code
def yX0_startsPiece : MethodName := ⟨RX0, "startsPiece", "(II)Z"⟩
abbrev cX0_goesOn : ByteArray := prog_1_method_34_code
def yX0_goesOn : MethodName := ⟨RX0, "goesOn", "(II)Z"⟩
abbrev cX0_pieceStart : ByteArray := prog_1_method_35_code
def yX0_pieceStart : MethodName := ⟨RX0, "pieceStart", "(II)I"⟩
abbrev cX0_pieceLength : ByteArray := prog_1_method_36_code
def yX0_pieceLength : MethodName := ⟨RX0, "pieceLength", "(II)I"⟩
abbrev cX0_piecesOf : ByteArray := prog_1_method_37_code
def yX0_piecesOf : MethodName := ⟨RX0, "piecesOf", "(I)I"⟩
abbrev cX0_cellOf : ByteArray := prog_1_method_38_code
def yX0_cellOf : MethodName := ⟨RX0, "cellOf", "(II)I"⟩
abbrev cX0_setCell : ByteArray := prog_1_method_39_code
def yX0_setCell : MethodName := ⟨RX0, "setCell", "(III)V"⟩
abbrev cX0_countOf : ByteArray := prog_1_method_40_code
def yX0_countOf : MethodName := ⟨RX0, "countOf", "(I)I"⟩
abbrev cX0_addToCount : ByteArray := prog_1_method_41_code
def yX0_addToCount : MethodName := ⟨RX0, "addToCount", "(II)V"⟩
abbrev cX0_freeMany : ByteArray := prog_1_method_42_code
def yX0_freeMany : MethodName := ⟨RX0, "freeMany", "()I"⟩
abbrev cX0_sharedMany : ByteArray := prog_1_method_43_code
def yX0_sharedMany : MethodName := ⟨RX0, "sharedMany", "()I"⟩
abbrev cX0_startsStretch : ByteArray := prog_1_method_44_code
def yX0_startsStretch : MethodName := ⟨RX0, "startsStretch", "(IZ)Z"⟩
abbrev cX0_stretchStart : ByteArray := prog_1_method_45_code
def yX0_stretchStart : MethodName := ⟨RX0, "stretchStart", "(IZ)I"⟩
abbrev cX0_stretchLength : ByteArray := prog_1_method_46_code
def yX0_stretchLength : MethodName := ⟨RX0, "stretchLength", "(I)I"⟩
abbrev cX0_stretchesMany : ByteArray := prog_1_method_47_code
def yX0_stretchesMany : MethodName := ⟨RX0, "stretchesMany", "(Z)I"⟩
abbrev cX0_getBlocks : ByteArray := prog_1_method_48_code
def yX0_getBlocks : MethodName := ⟨RX0, "getBlocks", "(I)V"⟩
abbrev cX0_bestRun : ByteArray := prog_1_method_49_code
def yX0_bestRun : MethodName := ⟨RX0, "bestRun", "(I)I"⟩
abbrev cX0_fitsBetter : ByteArray := prog_1_method_50_code
def yX0_fitsBetter : MethodName := ⟨RX0, "fitsBetter", "(III)Z"⟩
abbrev cX0_takeFromRun : ByteArray := prog_1_method_51_code
def yX0_takeFromRun : MethodName := ⟨RX0, "takeFromRun", "(II)V"⟩
abbrev cX0_chooseNeedy : ByteArray := prog_1_method_52_code
def yX0_chooseNeedy : MethodName := ⟨RX0, "chooseNeedy", "(IIIZ)V"⟩
abbrev cX0_chooseCutThrough : ByteArray := prog_1_method_53_code
def yX0_chooseCutThrough : MethodName := ⟨RX0, "chooseCutThrough", "(III)V"⟩
abbrev cX0_addIfNeedy : ByteArray := prog_1_method_54_code
def yX0_addIfNeedy : MethodName := ⟨RX0, "addIfNeedy", "(IIZ)V"⟩
abbrev cX0_isSpent : ByteArray := prog_1_method_55_code
def yX0_isSpent : MethodName := ⟨RX0, "isSpent", "()Z"⟩
abbrev cX0_ownNeedy : ByteArray := prog_1_method_56_code
def yX0_ownNeedy : MethodName := ⟨RX0, "ownNeedy", "(I)V"⟩
abbrev cX0_giveBlock : ByteArray := prog_1_method_57_code
def yX0_giveBlock : MethodName := ⟨RX0, "giveBlock", "(III)V"⟩
abbrev cX0_setCells : ByteArray := prog_1_method_58_code
def yX0_setCells : MethodName := ⟨RX0, "setCells", "(IIII)V"⟩
abbrev cX0_isAllIn : ByteArray := prog_1_method_59_code
def yX0_isAllIn : MethodName := ⟨RX0, "isAllIn", "(IIII)Z"⟩
abbrev cX0_clearCells : ByteArray := prog_1_method_60_code
def yX0_clearCells : MethodName := ⟨RX0, "clearCells", "(III)I"⟩
abbrev cX0_openLog : ByteArray := prog_1_method_61_code
def yX0_openLog : MethodName := ⟨RX0, "openLog", "(IIIII)V"⟩
abbrev cX0_doSteps : ByteArray := prog_1_method_62_code
def yX0_doSteps : MethodName := ⟨RX0, "doSteps", "(II)V"⟩
def RX1 : String := "CutFilesModel"
def TX1 : u_T := fun k => match k with
  | 0 => ("CutFilesModel", "cellOf", "[I", true)
  | 1 => ("CutFilesModel", "sizeOf", "[I", true)
  | 2 => ("CutFilesModel", "blockAt", "[I", true)
  | 3 => ("CutFilesModel", "isDown", "Z", false)
  | 4 => ("CutFilesModel", "gotMany", "I", false)
  | 5 => ("CutFilesModel", "got", "[I", true)
  | 6 => ("CutFilesModel", "isTaken", "[Z", true)
  | 7 => ("CutFilesModel", "wantsMany", "I", false)
  | 8 => ("CutFilesModel", "wants", "[I", true)
  | 9 => ("CutFilesModel", "punched", "I", false)
  | 10 => ("CutFilesModel", "failureAt", "I", false)
  | 11 => ("CutFilesModel", "oneFile", "I", false)
  | 12 => ("CutFilesModel", "onePlace", "I", false)
  | 13 => ("CutFilesModel", "otherFile", "I", false)
  | 14 => ("CutFilesModel", "otherPlace", "I", false)
  | 15 => ("CutFilesModel", "stepsAll", "I", false)
  | _ => ("CutFilesModel", "stepsDone", "I", false)
def tyX1 : Nat → FieldType := fun k => match k with
  | 0 => .array .int
  | 1 => .array .int
  | 2 => .array .int
  | 3 => .boolean
  | 4 => .int
  | 5 => .array .int
  | 6 => .array .boolean
  | 7 => .int
  | 8 => .array .int
  | 9 => .int
  | 10 => .int
  | 11 => .int
  | 12 => .int
  | 13 => .int
  | 14 => .int
  | 15 => .int
  | _ => .int
abbrev wsX10 : List Cond := u_ws RX1 TX1 17
theorem nmX1 : ∀ a, a < 17 → ∀ b, b < 17 → a ≠ b → (TX1 a).2.1 ≠ (TX1 b).2.1 := by decide +kernel
theorem tyX1_ok : ∀ k, k < 17 → parseFieldDescriptor (TX1 k).2.2.1 = some (tyX1 k) := by decide +kernel
abbrev cX1_init : ByteArray := prog_3_method_1_code
def yX1_init : MethodName := ⟨RX1, "<init>", "()V"⟩
abbrev cX1_within : ByteArray := prog_3_method_2_code
def yX1_within : MethodName := ⟨RX1, "within", "(III)Z"⟩
abbrev cX1_isFile : ByteArray := prog_3_method_3_code
def yX1_isFile : MethodName := ⟨RX1, "isFile", "(I)Z"⟩
abbrev cX1_countOf : ByteArray := prog_3_method_4_code
def yX1_countOf : MethodName := ⟨RX1, "countOf", "(I)I"⟩
abbrev cX1_isShared : ByteArray := prog_3_method_5_code
def yX1_isShared : MethodName := ⟨RX1, "isShared", "(II)Z"⟩
abbrev cX1_findTaken : ByteArray := prog_3_method_6_code
def yX1_findTaken : MethodName := ⟨RX1, "findTaken", "()V"⟩
abbrev cX1_freeFrom : ByteArray := prog_3_method_7_code
def yX1_freeFrom : MethodName := ⟨RX1, "freeFrom", "(I)I"⟩
abbrev cX1_beginsRun : ByteArray := prog_3_method_8_code
def yX1_beginsRun : MethodName := ⟨RX1, "beginsRun", "(I)Z"⟩
abbrev cX1_runFor : ByteArray := prog_3_method_9_code
def yX1_runFor : MethodName := ⟨RX1, "runFor", "(I)I"⟩
abbrev cX1_gets : ByteArray := prog_3_method_10_code
def yX1_gets : MethodName := ⟨RX1, "gets", "(I)Z"⟩
abbrev cX1_wants : ByteArray := prog_3_method_11_code
def yX1_wants : MethodName := ⟨RX1, "wants", "(IIZ)V"⟩
abbrev cX1_copies : ByteArray := prog_3_method_12_code
def yX1_copies : MethodName := ⟨RX1, "copies", "(II)V"⟩
abbrev cX1_owns : ByteArray := prog_3_method_13_code
def yX1_owns : MethodName := ⟨RX1, "owns", "(I)Z"⟩
abbrev cX1_read : ByteArray := prog_3_method_14_code
def yX1_read : MethodName := ⟨RX1, "read", "(II)I"⟩
abbrev cX1_write : ByteArray := prog_3_method_15_code
def yX1_write : MethodName := ⟨RX1, "write", "(IIII)I"⟩
abbrev cX1_isWhole : ByteArray := prog_3_method_16_code
def yX1_isWhole : MethodName := ⟨RX1, "isWhole", "(IIII)Z"⟩
abbrev cX1_punches : ByteArray := prog_3_method_17_code
def yX1_punches : MethodName := ⟨RX1, "punches", "(III)Z"⟩
abbrev cX1_clears : ByteArray := prog_3_method_18_code
def yX1_clears : MethodName := ⟨RX1, "clears", "(IIII)V"⟩
abbrev cX1_cut : ByteArray := prog_3_method_19_code
def yX1_cut : MethodName := ⟨RX1, "cut", "(II)I"⟩
abbrev cX1_punch : ByteArray := prog_3_method_20_code
def yX1_punch : MethodName := ⟨RX1, "punch", "(III)I"⟩
abbrev cX1_isPlace : ByteArray := prog_3_method_21_code
def yX1_isPlace : MethodName := ⟨RX1, "isPlace", "(I)Z"⟩
abbrev cX1_collapse : ByteArray := prog_3_method_22_code
def yX1_collapse : MethodName := ⟨RX1, "collapse", "(III)I"⟩
abbrev cX1_insert : ByteArray := prog_3_method_23_code
def yX1_insert : MethodName := ⟨RX1, "insert", "(III)I"⟩
abbrev cX1_areRanges : ByteArray := prog_3_method_24_code
def yX1_areRanges : MethodName := ⟨RX1, "areRanges", "(III)Z"⟩
abbrev cX1_doMeet : ByteArray := prog_3_method_25_code
def yX1_doMeet : MethodName := ⟨RX1, "doMeet", "(IIIII)Z"⟩
abbrev cX1_share : ByteArray := prog_3_method_26_code
def yX1_share : MethodName := ⟨RX1, "share", "(IIIII)I"⟩
abbrev cX1_unshare : ByteArray := prog_3_method_27_code
def yX1_unshare : MethodName := ⟨RX1, "unshare", "(III)I"⟩
abbrev cX1_failure : ByteArray := prog_3_method_28_code
def yX1_failure : MethodName := ⟨RX1, "failure", "(I)I"⟩
abbrev cX1_steps : ByteArray := prog_3_method_29_code
def yX1_steps : MethodName := ⟨RX1, "steps", "(I)V"⟩
abbrev cX1_exchange : ByteArray := prog_3_method_30_code
def yX1_exchange : MethodName := ⟨RX1, "exchange", "(IIIII)I"⟩
abbrev cX1_mount : ByteArray := prog_3_method_31_code
def yX1_mount : MethodName := ⟨RX1, "mount", "(Z)I"⟩
abbrev cX1_beginsPiece : ByteArray := prog_3_method_32_code
def yX1_beginsPiece : MethodName := ⟨RX1, "beginsPiece", "(II)Z"⟩
abbrev cX1_pieces : ByteArray := prog_3_method_33_code
def yX1_pieces : MethodName := ⟨RX1, "pieces", "(I)I"⟩
abbrev cX1_sharedIn : ByteArray := prog_3_method_34_code
def yX1_sharedIn : MethodName := ⟨RX1, "sharedIn", "(I)I"⟩
abbrev cX1_placesIn : ByteArray := prog_3_method_35_code
def yX1_placesIn : MethodName := ⟨RX1, "placesIn", "(I)I"⟩
abbrev cX1_ofFile : ByteArray := prog_3_method_36_code
def yX1_ofFile : MethodName := ⟨RX1, "ofFile", "(II)I"⟩
abbrev cX1_block : ByteArray := prog_3_method_37_code
def yX1_block : MethodName := ⟨RX1, "block", "(II)I"⟩
abbrev cX1_lengthOfPiece : ByteArray := prog_3_method_38_code
def yX1_lengthOfPiece : MethodName := ⟨RX1, "lengthOfPiece", "(II)I"⟩
abbrev cX1_piece : ByteArray := prog_3_method_39_code
def yX1_piece : MethodName := ⟨RX1, "piece", "(III)I"⟩
abbrev cX1_seek : ByteArray := prog_3_method_40_code
def yX1_seek : MethodName := ⟨RX1, "seek", "(IIZ)I"⟩
abbrev cX1_count : ByteArray := prog_3_method_41_code
def yX1_count : MethodName := ⟨RX1, "count", "(I)I"⟩
abbrev cX1_beginsRange : ByteArray := prog_3_method_42_code
def yX1_beginsRange : MethodName := ⟨RX1, "beginsRange", "(IZ)Z"⟩
abbrev cX1_ranges : ByteArray := prog_3_method_43_code
def yX1_ranges : MethodName := ⟨RX1, "ranges", "(Z)I"⟩
abbrev cX1_lengthOfRange : ByteArray := prog_3_method_44_code
def yX1_lengthOfRange : MethodName := ⟨RX1, "lengthOfRange", "(I)I"⟩
abbrev cX1_range : ByteArray := prog_3_method_45_code
def yX1_range : MethodName := ⟨RX1, "range", "(II)I"⟩
abbrev cX1_manyWith : ByteArray := prog_3_method_46_code
def yX1_manyWith : MethodName := ⟨RX1, "manyWith", "(II)I"⟩
abbrev cX1_many : ByteArray := prog_3_method_47_code
def yX1_many : MethodName := ⟨RX1, "many", "(I)I"⟩
def RJ9 : String := "java/lang/Math"
def TJ9 : u_T := fun k => match k with
  | _ => ("", "", "", false)
def tyJ9 : Nat → FieldType := fun k => match k with
  | _ => .int
abbrev wsJ90 : List Cond := u_ws RJ9 TJ9 0
theorem nmJ9 : ∀ a, a < 0 → ∀ b, b < 0 → a ≠ b → (TJ9 a).2.1 ≠ (TJ9 b).2.1 := by decide +kernel
theorem tyJ9_ok : ∀ k, k < 0 → parseFieldDescriptor (TJ9 k).2.2.1 = some (tyJ9 k) := by decide +kernel
abbrev cJ9_max_7cf53 : ByteArray := prog_4_method_65_code
def yJ9_max_7cf53 : MethodName := ⟨RJ9, "max", "(II)I"⟩
abbrev cJ9_min_7cf53 : ByteArray := prog_4_method_69_code
def yJ9_min_7cf53 : MethodName := ⟨RJ9, "min", "(II)I"⟩
def RL : String := "CutFilesLaw"
abbrev cL_law : ByteArray := code
def yL_law : MethodName := ⟨RL, "law", "([I)Z"⟩
def wsJ9_max_7cf53 : List Cond := .code yJ9_max_7cf53 cJ9_max_7cf53 2 (some .int) :: ([])
def wsJ9_min_7cf53 : List Cond := .code yJ9_min_7cf53 cJ9_min_7cf53 2 (some .int) :: ([])
abbrev vwCl : List vw_C := [(RX0, TX0, 16), (RX1, TX1, 17)]
end
section
theorem mw_71 : Cond.fieldLink RX0 9 "CutFiles" "cells" "[I" ∈ lw_tbl := List.mem_of_getElem? (i := 71) (by decide +kernel)
theorem mw_72 : Cond.fieldLink RX0 13 "CutFiles" "counts" "[I" ∈ lw_tbl := List.mem_of_getElem? (i := 72) (by decide +kernel)
theorem mw_73 : Cond.fieldLink RX0 16 "CutFiles" "blocks" "[I" ∈ lw_tbl := List.mem_of_getElem? (i := 73) (by decide +kernel)
theorem mw_74 : Cond.fieldLink RX0 19 "CutFiles" "sizes" "[I" ∈ lw_tbl := List.mem_of_getElem? (i := 74) (by decide +kernel)
theorem mw_75 : Cond.fieldLink RX0 22 "CutFiles" "needy" "[I" ∈ lw_tbl := List.mem_of_getElem? (i := 75) (by decide +kernel)
theorem mw_77 : Cond.fieldLink RX0 25 "CutFiles" "got" "[I" ∈ lw_tbl := List.mem_of_getElem? (i := 77) (by decide +kernel)
theorem mw_79 : Cond.fieldLink RX0 28 "CutFiles" "failAt" "I" ∈ lw_tbl := List.mem_of_getElem? (i := 79) (by decide +kernel)
theorem mw_80 : Cond.fieldLink RX0 51 "CutFiles" "down" "Z" ∈ lw_tbl := List.mem_of_getElem? (i := 80) (by decide +kernel)
theorem mw_76 : Cond.fieldLink RX0 108 "CutFiles" "needyMany" "I" ∈ lw_tbl := List.mem_of_getElem? (i := 76) (by decide +kernel)
theorem mw_86 : Cond.fieldLink RX0 115 "CutFiles" "logDone" "I" ∈ lw_tbl := List.mem_of_getElem? (i := 86) (by decide +kernel)
theorem mw_85 : Cond.fieldLink RX0 121 "CutFiles" "logSteps" "I" ∈ lw_tbl := List.mem_of_getElem? (i := 85) (by decide +kernel)
theorem mw_78 : Cond.fieldLink RX0 176 "CutFiles" "gotMany" "I" ∈ lw_tbl := List.mem_of_getElem? (i := 78) (by decide +kernel)
theorem mw_81 : Cond.fieldLink RX0 205 "CutFiles" "logF" "I" ∈ lw_tbl := List.mem_of_getElem? (i := 81) (by decide +kernel)
theorem mw_82 : Cond.fieldLink RX0 208 "CutFiles" "logP" "I" ∈ lw_tbl := List.mem_of_getElem? (i := 82) (by decide +kernel)
theorem mw_83 : Cond.fieldLink RX0 211 "CutFiles" "logG" "I" ∈ lw_tbl := List.mem_of_getElem? (i := 83) (by decide +kernel)
theorem mw_84 : Cond.fieldLink RX0 214 "CutFiles" "logQ" "I" ∈ lw_tbl := List.mem_of_getElem? (i := 84) (by decide +kernel)
theorem mw_370 : Cond.fieldLink RX1 7 "CutFilesModel" "cellOf" "[I" ∈ lw_tbl := List.mem_of_getElem? (i := 370) (by decide +kernel)
theorem mw_371 : Cond.fieldLink RX1 13 "CutFilesModel" "sizeOf" "[I" ∈ lw_tbl := List.mem_of_getElem? (i := 371) (by decide +kernel)
theorem mw_372 : Cond.fieldLink RX1 16 "CutFilesModel" "blockAt" "[I" ∈ lw_tbl := List.mem_of_getElem? (i := 372) (by decide +kernel)
theorem mw_375 : Cond.fieldLink RX1 19 "CutFilesModel" "got" "[I" ∈ lw_tbl := List.mem_of_getElem? (i := 375) (by decide +kernel)
theorem mw_376 : Cond.fieldLink RX1 22 "CutFilesModel" "isTaken" "[Z" ∈ lw_tbl := List.mem_of_getElem? (i := 376) (by decide +kernel)
theorem mw_378 : Cond.fieldLink RX1 26 "CutFilesModel" "wants" "[I" ∈ lw_tbl := List.mem_of_getElem? (i := 378) (by decide +kernel)
theorem mw_380 : Cond.fieldLink RX1 29 "CutFilesModel" "failureAt" "I" ∈ lw_tbl := List.mem_of_getElem? (i := 380) (by decide +kernel)
theorem mw_374 : Cond.fieldLink RX1 51 "CutFilesModel" "gotMany" "I" ∈ lw_tbl := List.mem_of_getElem? (i := 374) (by decide +kernel)
theorem mw_377 : Cond.fieldLink RX1 61 "CutFilesModel" "wantsMany" "I" ∈ lw_tbl := List.mem_of_getElem? (i := 377) (by decide +kernel)
theorem mw_373 : Cond.fieldLink RX1 74 "CutFilesModel" "isDown" "Z" ∈ lw_tbl := List.mem_of_getElem? (i := 373) (by decide +kernel)
theorem mw_379 : Cond.fieldLink RX1 84 "CutFilesModel" "punched" "I" ∈ lw_tbl := List.mem_of_getElem? (i := 379) (by decide +kernel)
theorem mw_381 : Cond.fieldLink RX1 108 "CutFilesModel" "oneFile" "I" ∈ lw_tbl := List.mem_of_getElem? (i := 381) (by decide +kernel)
theorem mw_382 : Cond.fieldLink RX1 111 "CutFilesModel" "onePlace" "I" ∈ lw_tbl := List.mem_of_getElem? (i := 382) (by decide +kernel)
theorem mw_383 : Cond.fieldLink RX1 114 "CutFilesModel" "otherFile" "I" ∈ lw_tbl := List.mem_of_getElem? (i := 383) (by decide +kernel)
theorem mw_384 : Cond.fieldLink RX1 117 "CutFilesModel" "otherPlace" "I" ∈ lw_tbl := List.mem_of_getElem? (i := 384) (by decide +kernel)
theorem mw_385 : Cond.fieldLink RX1 120 "CutFilesModel" "stepsAll" "I" ∈ lw_tbl := List.mem_of_getElem? (i := 385) (by decide +kernel)
theorem mw_386 : Cond.fieldLink RX1 123 "CutFilesModel" "stepsDone" "I" ∈ lw_tbl := List.mem_of_getElem? (i := 386) (by decide +kernel)
theorem mw_200 : Cond.methodLink RX0 86 Lib.Math.min.name ∈ lw_tbl := List.mem_of_getElem? (i := 200) (by decide +kernel)
theorem mw_201 : Cond.static Lib.Math.min.name ∈ lw_tbl := List.mem_of_getElem? (i := 201) (by decide +kernel)
theorem mw_62 : Cond.initialized "java/lang/Math" ∈ lw_tbl := List.mem_of_getElem? (i := 62) (by decide +kernel)
theorem mw_202 : Cond.code Lib.Math.min.name Lib.Math.min.code 2 (some .int) ∈ lw_tbl := List.mem_of_getElem? (i := 202) (by decide +kernel)
theorem mw_227 : Cond.methodLink RX0 139 Lib.Math.max.name ∈ lw_tbl := List.mem_of_getElem? (i := 227) (by decide +kernel)
theorem mw_228 : Cond.static Lib.Math.max.name ∈ lw_tbl := List.mem_of_getElem? (i := 228) (by decide +kernel)
theorem mw_229 : Cond.code Lib.Math.max.name Lib.Math.max.code 2 (some .int) ∈ lw_tbl := List.mem_of_getElem? (i := 229) (by decide +kernel)
theorem mw_125 : Cond.methodLink RX0 32 yX0_isFile ∈ lw_tbl := List.mem_of_getElem? (i := 125) (by decide +kernel)
theorem mw_126 : Cond.static yX0_isFile ∈ lw_tbl := List.mem_of_getElem? (i := 126) (by decide +kernel)
theorem mw_60 : Cond.initialized RX0 ∈ lw_tbl := List.mem_of_getElem? (i := 60) (by decide +kernel)
theorem mw_127 : Cond.code yX0_isFile cX0_isFile 1 (some .boolean) ∈ lw_tbl := List.mem_of_getElem? (i := 127) (by decide +kernel)
theorem mw_128 : Cond.methodLink RX0 36 yX0_sizeOf ∈ lw_tbl := List.mem_of_getElem? (i := 128) (by decide +kernel)
theorem mw_130 : Cond.instanceMethod yX0_sizeOf ∈ lw_tbl := List.mem_of_getElem? (i := 130) (by decide +kernel)
theorem mw_0 : Cond.selects RX0 yX0_sizeOf yX0_sizeOf ∈ lw_tbl := List.mem_of_getElem? (i := 0) (by decide +kernel)
theorem mw_131 : Cond.code yX0_sizeOf cX0_sizeOf 2 (some .int) ∈ lw_tbl := List.mem_of_getElem? (i := 131) (by decide +kernel)
theorem mw_136 : Cond.methodLink RX0 97 yX0_isPlace ∈ lw_tbl := List.mem_of_getElem? (i := 136) (by decide +kernel)
theorem mw_137 : Cond.static yX0_isPlace ∈ lw_tbl := List.mem_of_getElem? (i := 137) (by decide +kernel)
theorem mw_138 : Cond.code yX0_isPlace cX0_isPlace 1 (some .boolean) ∈ lw_tbl := List.mem_of_getElem? (i := 138) (by decide +kernel)
theorem mw_132 : Cond.methodLink RX0 40 yX0_blockAt ∈ lw_tbl := List.mem_of_getElem? (i := 132) (by decide +kernel)
theorem mw_134 : Cond.instanceMethod yX0_blockAt ∈ lw_tbl := List.mem_of_getElem? (i := 134) (by decide +kernel)
theorem mw_1 : Cond.selects RX0 yX0_blockAt yX0_blockAt ∈ lw_tbl := List.mem_of_getElem? (i := 1) (by decide +kernel)
theorem mw_135 : Cond.code yX0_blockAt cX0_blockAt 3 (some .int) ∈ lw_tbl := List.mem_of_getElem? (i := 135) (by decide +kernel)
theorem mw_143 : Cond.methodLink RX0 136 yX0_isBlock ∈ lw_tbl := List.mem_of_getElem? (i := 143) (by decide +kernel)
theorem mw_144 : Cond.static yX0_isBlock ∈ lw_tbl := List.mem_of_getElem? (i := 144) (by decide +kernel)
theorem mw_145 : Cond.code yX0_isBlock cX0_isBlock 1 (some .boolean) ∈ lw_tbl := List.mem_of_getElem? (i := 145) (by decide +kernel)
theorem mw_139 : Cond.methodLink RX0 44 yX0_cellOf ∈ lw_tbl := List.mem_of_getElem? (i := 139) (by decide +kernel)
theorem mw_141 : Cond.instanceMethod yX0_cellOf ∈ lw_tbl := List.mem_of_getElem? (i := 141) (by decide +kernel)
theorem mw_2 : Cond.selects RX0 yX0_cellOf yX0_cellOf ∈ lw_tbl := List.mem_of_getElem? (i := 2) (by decide +kernel)
theorem mw_142 : Cond.code yX0_cellOf cX0_cellOf 3 (some .int) ∈ lw_tbl := List.mem_of_getElem? (i := 142) (by decide +kernel)
theorem mw_150 : Cond.methodLink RX0 47 yX0_isCellRange ∈ lw_tbl := List.mem_of_getElem? (i := 150) (by decide +kernel)
theorem mw_151 : Cond.static yX0_isCellRange ∈ lw_tbl := List.mem_of_getElem? (i := 151) (by decide +kernel)
theorem mw_152 : Cond.code yX0_isCellRange cX0_isCellRange 2 (some .boolean) ∈ lw_tbl := List.mem_of_getElem? (i := 152) (by decide +kernel)
theorem mw_161 : Cond.methodLink RX0 142 yX0_countOf ∈ lw_tbl := List.mem_of_getElem? (i := 161) (by decide +kernel)
theorem mw_163 : Cond.instanceMethod yX0_countOf ∈ lw_tbl := List.mem_of_getElem? (i := 163) (by decide +kernel)
theorem mw_5 : Cond.selects RX0 yX0_countOf yX0_countOf ∈ lw_tbl := List.mem_of_getElem? (i := 5) (by decide +kernel)
theorem mw_164 : Cond.code yX0_countOf cX0_countOf 2 (some .int) ∈ lw_tbl := List.mem_of_getElem? (i := 164) (by decide +kernel)
theorem mw_157 : Cond.methodLink RX0 188 yX0_addIfNeedy ∈ lw_tbl := List.mem_of_getElem? (i := 157) (by decide +kernel)
theorem mw_159 : Cond.instanceMethod yX0_addIfNeedy ∈ lw_tbl := List.mem_of_getElem? (i := 159) (by decide +kernel)
theorem mw_4 : Cond.selects RX0 yX0_addIfNeedy yX0_addIfNeedy ∈ lw_tbl := List.mem_of_getElem? (i := 4) (by decide +kernel)
theorem mw_160 : Cond.code yX0_addIfNeedy cX0_addIfNeedy 6 none ∈ lw_tbl := List.mem_of_getElem? (i := 160) (by decide +kernel)
theorem mw_153 : Cond.methodLink RX0 55 yX0_chooseNeedy ∈ lw_tbl := List.mem_of_getElem? (i := 153) (by decide +kernel)
theorem mw_155 : Cond.instanceMethod yX0_chooseNeedy ∈ lw_tbl := List.mem_of_getElem? (i := 155) (by decide +kernel)
theorem mw_3 : Cond.selects RX0 yX0_chooseNeedy yX0_chooseNeedy ∈ lw_tbl := List.mem_of_getElem? (i := 3) (by decide +kernel)
theorem mw_156 : Cond.code yX0_chooseNeedy cX0_chooseNeedy 6 none ∈ lw_tbl := List.mem_of_getElem? (i := 156) (by decide +kernel)
theorem mw_169 : Cond.methodLink RX0 152 yX0_freeMany ∈ lw_tbl := List.mem_of_getElem? (i := 169) (by decide +kernel)
theorem mw_171 : Cond.instanceMethod yX0_freeMany ∈ lw_tbl := List.mem_of_getElem? (i := 171) (by decide +kernel)
theorem mw_7 : Cond.selects RX0 yX0_freeMany yX0_freeMany ∈ lw_tbl := List.mem_of_getElem? (i := 7) (by decide +kernel)
theorem mw_172 : Cond.code yX0_freeMany cX0_freeMany 3 (some .int) ∈ lw_tbl := List.mem_of_getElem? (i := 172) (by decide +kernel)
theorem mw_165 : Cond.methodLink RX0 59 yX0_isSpent ∈ lw_tbl := List.mem_of_getElem? (i := 165) (by decide +kernel)
theorem mw_167 : Cond.instanceMethod yX0_isSpent ∈ lw_tbl := List.mem_of_getElem? (i := 167) (by decide +kernel)
theorem mw_6 : Cond.selects RX0 yX0_isSpent yX0_isSpent ∈ lw_tbl := List.mem_of_getElem? (i := 6) (by decide +kernel)
theorem mw_168 : Cond.code yX0_isSpent cX0_isSpent 1 (some .boolean) ∈ lw_tbl := List.mem_of_getElem? (i := 168) (by decide +kernel)
theorem mw_185 : Cond.methodLink RX0 172 yX0_startsStretch ∈ lw_tbl := List.mem_of_getElem? (i := 185) (by decide +kernel)
theorem mw_187 : Cond.instanceMethod yX0_startsStretch ∈ lw_tbl := List.mem_of_getElem? (i := 187) (by decide +kernel)
theorem mw_11 : Cond.selects RX0 yX0_startsStretch yX0_startsStretch ∈ lw_tbl := List.mem_of_getElem? (i := 11) (by decide +kernel)
theorem mw_188 : Cond.code yX0_startsStretch cX0_startsStretch 3 (some .boolean) ∈ lw_tbl := List.mem_of_getElem? (i := 188) (by decide +kernel)
theorem mw_189 : Cond.methodLink RX0 149 yX0_stretchLength ∈ lw_tbl := List.mem_of_getElem? (i := 189) (by decide +kernel)
theorem mw_191 : Cond.instanceMethod yX0_stretchLength ∈ lw_tbl := List.mem_of_getElem? (i := 191) (by decide +kernel)
theorem mw_12 : Cond.selects RX0 yX0_stretchLength yX0_stretchLength ∈ lw_tbl := List.mem_of_getElem? (i := 12) (by decide +kernel)
theorem mw_192 : Cond.code yX0_stretchLength cX0_stretchLength 4 (some .int) ∈ lw_tbl := List.mem_of_getElem? (i := 192) (by decide +kernel)
theorem mw_193 : Cond.methodLink RX0 185 yX0_fitsBetter ∈ lw_tbl := List.mem_of_getElem? (i := 193) (by decide +kernel)
theorem mw_194 : Cond.static yX0_fitsBetter ∈ lw_tbl := List.mem_of_getElem? (i := 194) (by decide +kernel)
theorem mw_195 : Cond.code yX0_fitsBetter cX0_fitsBetter 3 (some .boolean) ∈ lw_tbl := List.mem_of_getElem? (i := 195) (by decide +kernel)
theorem mw_181 : Cond.methodLink RX0 179 yX0_bestRun ∈ lw_tbl := List.mem_of_getElem? (i := 181) (by decide +kernel)
theorem mw_183 : Cond.instanceMethod yX0_bestRun ∈ lw_tbl := List.mem_of_getElem? (i := 183) (by decide +kernel)
theorem mw_10 : Cond.selects RX0 yX0_bestRun yX0_bestRun ∈ lw_tbl := List.mem_of_getElem? (i := 10) (by decide +kernel)
theorem mw_184 : Cond.code yX0_bestRun cX0_bestRun 5 (some .int) ∈ lw_tbl := List.mem_of_getElem? (i := 184) (by decide +kernel)
theorem mw_203 : Cond.methodLink RX0 163 yX0_addToCount ∈ lw_tbl := List.mem_of_getElem? (i := 203) (by decide +kernel)
theorem mw_205 : Cond.instanceMethod yX0_addToCount ∈ lw_tbl := List.mem_of_getElem? (i := 205) (by decide +kernel)
theorem mw_14 : Cond.selects RX0 yX0_addToCount yX0_addToCount ∈ lw_tbl := List.mem_of_getElem? (i := 14) (by decide +kernel)
theorem mw_206 : Cond.code yX0_addToCount cX0_addToCount 3 none ∈ lw_tbl := List.mem_of_getElem? (i := 206) (by decide +kernel)
theorem mw_196 : Cond.methodLink RX0 182 yX0_takeFromRun ∈ lw_tbl := List.mem_of_getElem? (i := 196) (by decide +kernel)
theorem mw_198 : Cond.instanceMethod yX0_takeFromRun ∈ lw_tbl := List.mem_of_getElem? (i := 198) (by decide +kernel)
theorem mw_13 : Cond.selects RX0 yX0_takeFromRun yX0_takeFromRun ∈ lw_tbl := List.mem_of_getElem? (i := 13) (by decide +kernel)
theorem mw_199 : Cond.code yX0_takeFromRun cX0_takeFromRun 5 none ∈ lw_tbl := List.mem_of_getElem? (i := 199) (by decide +kernel)
theorem mw_177 : Cond.methodLink RX0 196 yX0_getBlocks ∈ lw_tbl := List.mem_of_getElem? (i := 177) (by decide +kernel)
theorem mw_179 : Cond.instanceMethod yX0_getBlocks ∈ lw_tbl := List.mem_of_getElem? (i := 179) (by decide +kernel)
theorem mw_9 : Cond.selects RX0 yX0_getBlocks yX0_getBlocks ∈ lw_tbl := List.mem_of_getElem? (i := 9) (by decide +kernel)
theorem mw_180 : Cond.code yX0_getBlocks cX0_getBlocks 3 none ∈ lw_tbl := List.mem_of_getElem? (i := 180) (by decide +kernel)
theorem mw_211 : Cond.methodLink RX0 202 yX0_setCell ∈ lw_tbl := List.mem_of_getElem? (i := 211) (by decide +kernel)
theorem mw_213 : Cond.instanceMethod yX0_setCell ∈ lw_tbl := List.mem_of_getElem? (i := 213) (by decide +kernel)
theorem mw_16 : Cond.selects RX0 yX0_setCell yX0_setCell ∈ lw_tbl := List.mem_of_getElem? (i := 16) (by decide +kernel)
theorem mw_214 : Cond.code yX0_setCell cX0_setCell 4 none ∈ lw_tbl := List.mem_of_getElem? (i := 214) (by decide +kernel)
theorem mw_215 : Cond.methodLink RX0 94 yX0_putBlock ∈ lw_tbl := List.mem_of_getElem? (i := 215) (by decide +kernel)
theorem mw_217 : Cond.instanceMethod yX0_putBlock ∈ lw_tbl := List.mem_of_getElem? (i := 217) (by decide +kernel)
theorem mw_17 : Cond.selects RX0 yX0_putBlock yX0_putBlock ∈ lw_tbl := List.mem_of_getElem? (i := 17) (by decide +kernel)
theorem mw_218 : Cond.code yX0_putBlock cX0_putBlock 4 none ∈ lw_tbl := List.mem_of_getElem? (i := 218) (by decide +kernel)
theorem mw_207 : Cond.methodLink RX0 199 yX0_giveBlock ∈ lw_tbl := List.mem_of_getElem? (i := 207) (by decide +kernel)
theorem mw_209 : Cond.instanceMethod yX0_giveBlock ∈ lw_tbl := List.mem_of_getElem? (i := 209) (by decide +kernel)
theorem mw_15 : Cond.selects RX0 yX0_giveBlock yX0_giveBlock ∈ lw_tbl := List.mem_of_getElem? (i := 15) (by decide +kernel)
theorem mw_210 : Cond.code yX0_giveBlock cX0_giveBlock 6 none ∈ lw_tbl := List.mem_of_getElem? (i := 210) (by decide +kernel)
theorem mw_173 : Cond.methodLink RX0 63 yX0_ownNeedy ∈ lw_tbl := List.mem_of_getElem? (i := 173) (by decide +kernel)
theorem mw_175 : Cond.instanceMethod yX0_ownNeedy ∈ lw_tbl := List.mem_of_getElem? (i := 175) (by decide +kernel)
theorem mw_8 : Cond.selects RX0 yX0_ownNeedy yX0_ownNeedy ∈ lw_tbl := List.mem_of_getElem? (i := 8) (by decide +kernel)
theorem mw_176 : Cond.code yX0_ownNeedy cX0_ownNeedy 3 none ∈ lw_tbl := List.mem_of_getElem? (i := 176) (by decide +kernel)
theorem mw_219 : Cond.methodLink RX0 67 yX0_setCells ∈ lw_tbl := List.mem_of_getElem? (i := 219) (by decide +kernel)
theorem mw_221 : Cond.instanceMethod yX0_setCells ∈ lw_tbl := List.mem_of_getElem? (i := 221) (by decide +kernel)
theorem mw_18 : Cond.selects RX0 yX0_setCells yX0_setCells ∈ lw_tbl := List.mem_of_getElem? (i := 18) (by decide +kernel)
theorem mw_222 : Cond.code yX0_setCells cX0_setCells 6 none ∈ lw_tbl := List.mem_of_getElem? (i := 222) (by decide +kernel)
theorem mw_230 : Cond.methodLink RX0 83 yX0_setSize ∈ lw_tbl := List.mem_of_getElem? (i := 230) (by decide +kernel)
theorem mw_232 : Cond.instanceMethod yX0_setSize ∈ lw_tbl := List.mem_of_getElem? (i := 232) (by decide +kernel)
theorem mw_20 : Cond.selects RX0 yX0_setSize yX0_setSize ∈ lw_tbl := List.mem_of_getElem? (i := 20) (by decide +kernel)
theorem mw_233 : Cond.code yX0_setSize cX0_setSize 3 none ∈ lw_tbl := List.mem_of_getElem? (i := 233) (by decide +kernel)
theorem mw_223 : Cond.methodLink RX0 71 yX0_growTo ∈ lw_tbl := List.mem_of_getElem? (i := 223) (by decide +kernel)
theorem mw_225 : Cond.instanceMethod yX0_growTo ∈ lw_tbl := List.mem_of_getElem? (i := 225) (by decide +kernel)
theorem mw_19 : Cond.selects RX0 yX0_growTo yX0_growTo ∈ lw_tbl := List.mem_of_getElem? (i := 19) (by decide +kernel)
theorem mw_226 : Cond.code yX0_growTo cX0_growTo 3 none ∈ lw_tbl := List.mem_of_getElem? (i := 226) (by decide +kernel)
theorem mw_242 : Cond.methodLink RX0 192 yX0_isAllIn ∈ lw_tbl := List.mem_of_getElem? (i := 242) (by decide +kernel)
theorem mw_244 : Cond.instanceMethod yX0_isAllIn ∈ lw_tbl := List.mem_of_getElem? (i := 244) (by decide +kernel)
theorem mw_22 : Cond.selects RX0 yX0_isAllIn yX0_isAllIn ∈ lw_tbl := List.mem_of_getElem? (i := 22) (by decide +kernel)
theorem mw_245 : Cond.code yX0_isAllIn cX0_isAllIn 5 (some .boolean) ∈ lw_tbl := List.mem_of_getElem? (i := 245) (by decide +kernel)
theorem mw_238 : Cond.methodLink RX0 75 yX0_chooseCutThrough ∈ lw_tbl := List.mem_of_getElem? (i := 238) (by decide +kernel)
theorem mw_240 : Cond.instanceMethod yX0_chooseCutThrough ∈ lw_tbl := List.mem_of_getElem? (i := 240) (by decide +kernel)
theorem mw_21 : Cond.selects RX0 yX0_chooseCutThrough yX0_chooseCutThrough ∈ lw_tbl := List.mem_of_getElem? (i := 21) (by decide +kernel)
theorem mw_241 : Cond.code yX0_chooseCutThrough cX0_chooseCutThrough 5 none ∈ lw_tbl := List.mem_of_getElem? (i := 241) (by decide +kernel)
theorem mw_246 : Cond.methodLink RX0 79 yX0_clearCells ∈ lw_tbl := List.mem_of_getElem? (i := 246) (by decide +kernel)
theorem mw_248 : Cond.instanceMethod yX0_clearCells ∈ lw_tbl := List.mem_of_getElem? (i := 248) (by decide +kernel)
theorem mw_23 : Cond.selects RX0 yX0_clearCells yX0_clearCells ∈ lw_tbl := List.mem_of_getElem? (i := 23) (by decide +kernel)
theorem mw_249 : Cond.code yX0_clearCells cX0_clearCells 6 (some .int) ∈ lw_tbl := List.mem_of_getElem? (i := 249) (by decide +kernel)
theorem mw_258 : Cond.methodLink RX0 91 yX0_isPlaceRange ∈ lw_tbl := List.mem_of_getElem? (i := 258) (by decide +kernel)
theorem mw_259 : Cond.static yX0_isPlaceRange ∈ lw_tbl := List.mem_of_getElem? (i := 259) (by decide +kernel)
theorem mw_260 : Cond.code yX0_isPlaceRange cX0_isPlaceRange 2 (some .boolean) ∈ lw_tbl := List.mem_of_getElem? (i := 260) (by decide +kernel)
theorem mw_269 : Cond.methodLink RX0 100 yX0_isBelowSize ∈ lw_tbl := List.mem_of_getElem? (i := 269) (by decide +kernel)
theorem mw_271 : Cond.instanceMethod yX0_isBelowSize ∈ lw_tbl := List.mem_of_getElem? (i := 271) (by decide +kernel)
theorem mw_24 : Cond.selects RX0 yX0_isBelowSize yX0_isBelowSize ∈ lw_tbl := List.mem_of_getElem? (i := 24) (by decide +kernel)
theorem mw_272 : Cond.code yX0_isBelowSize cX0_isBelowSize 4 (some .boolean) ∈ lw_tbl := List.mem_of_getElem? (i := 272) (by decide +kernel)
theorem mw_273 : Cond.methodLink RX0 104 yX0_meet ∈ lw_tbl := List.mem_of_getElem? (i := 273) (by decide +kernel)
theorem mw_274 : Cond.static yX0_meet ∈ lw_tbl := List.mem_of_getElem? (i := 274) (by decide +kernel)
theorem mw_275 : Cond.code yX0_meet cX0_meet 5 (some .boolean) ∈ lw_tbl := List.mem_of_getElem? (i := 275) (by decide +kernel)
theorem mw_288 : Cond.methodLink RX0 111 yX0_openLog ∈ lw_tbl := List.mem_of_getElem? (i := 288) (by decide +kernel)
theorem mw_290 : Cond.instanceMethod yX0_openLog ∈ lw_tbl := List.mem_of_getElem? (i := 290) (by decide +kernel)
theorem mw_25 : Cond.selects RX0 yX0_openLog yX0_openLog ∈ lw_tbl := List.mem_of_getElem? (i := 25) (by decide +kernel)
theorem mw_291 : Cond.code yX0_openLog cX0_openLog 6 none ∈ lw_tbl := List.mem_of_getElem? (i := 291) (by decide +kernel)
theorem mw_292 : Cond.methodLink RX0 118 yX0_doSteps ∈ lw_tbl := List.mem_of_getElem? (i := 292) (by decide +kernel)
theorem mw_294 : Cond.instanceMethod yX0_doSteps ∈ lw_tbl := List.mem_of_getElem? (i := 294) (by decide +kernel)
theorem mw_26 : Cond.selects RX0 yX0_doSteps yX0_doSteps ∈ lw_tbl := List.mem_of_getElem? (i := 26) (by decide +kernel)
theorem mw_295 : Cond.code yX0_doSteps cX0_doSteps 6 none ∈ lw_tbl := List.mem_of_getElem? (i := 295) (by decide +kernel)
theorem mw_304 : Cond.methodLink RX0 124 yX0_placesCountedFrom ∈ lw_tbl := List.mem_of_getElem? (i := 304) (by decide +kernel)
theorem mw_306 : Cond.instanceMethod yX0_placesCountedFrom ∈ lw_tbl := List.mem_of_getElem? (i := 306) (by decide +kernel)
theorem mw_27 : Cond.selects RX0 yX0_placesCountedFrom yX0_placesCountedFrom ∈ lw_tbl := List.mem_of_getElem? (i := 27) (by decide +kernel)
theorem mw_307 : Cond.code yX0_placesCountedFrom cX0_placesCountedFrom 5 (some .int) ∈ lw_tbl := List.mem_of_getElem? (i := 307) (by decide +kernel)
theorem mw_316 : Cond.methodLink RX0 166 yX0_goesOn ∈ lw_tbl := List.mem_of_getElem? (i := 316) (by decide +kernel)
theorem mw_318 : Cond.instanceMethod yX0_goesOn ∈ lw_tbl := List.mem_of_getElem? (i := 318) (by decide +kernel)
theorem mw_30 : Cond.selects RX0 yX0_goesOn yX0_goesOn ∈ lw_tbl := List.mem_of_getElem? (i := 30) (by decide +kernel)
theorem mw_319 : Cond.code yX0_goesOn cX0_goesOn 3 (some .boolean) ∈ lw_tbl := List.mem_of_getElem? (i := 319) (by decide +kernel)
theorem mw_312 : Cond.methodLink RX0 169 yX0_startsPiece ∈ lw_tbl := List.mem_of_getElem? (i := 312) (by decide +kernel)
theorem mw_314 : Cond.instanceMethod yX0_startsPiece ∈ lw_tbl := List.mem_of_getElem? (i := 314) (by decide +kernel)
theorem mw_29 : Cond.selects RX0 yX0_startsPiece yX0_startsPiece ∈ lw_tbl := List.mem_of_getElem? (i := 29) (by decide +kernel)
theorem mw_315 : Cond.code yX0_startsPiece cX0_startsPiece 3 (some .boolean) ∈ lw_tbl := List.mem_of_getElem? (i := 315) (by decide +kernel)
theorem mw_308 : Cond.methodLink RX0 127 yX0_piecesOf ∈ lw_tbl := List.mem_of_getElem? (i := 308) (by decide +kernel)
theorem mw_310 : Cond.instanceMethod yX0_piecesOf ∈ lw_tbl := List.mem_of_getElem? (i := 310) (by decide +kernel)
theorem mw_28 : Cond.selects RX0 yX0_piecesOf yX0_piecesOf ∈ lw_tbl := List.mem_of_getElem? (i := 28) (by decide +kernel)
theorem mw_311 : Cond.code yX0_piecesOf cX0_piecesOf 4 (some .int) ∈ lw_tbl := List.mem_of_getElem? (i := 311) (by decide +kernel)
theorem mw_328 : Cond.methodLink RX0 130 yX0_pieceStart ∈ lw_tbl := List.mem_of_getElem? (i := 328) (by decide +kernel)
theorem mw_330 : Cond.instanceMethod yX0_pieceStart ∈ lw_tbl := List.mem_of_getElem? (i := 330) (by decide +kernel)
theorem mw_31 : Cond.selects RX0 yX0_pieceStart yX0_pieceStart ∈ lw_tbl := List.mem_of_getElem? (i := 31) (by decide +kernel)
theorem mw_331 : Cond.code yX0_pieceStart cX0_pieceStart 5 (some .int) ∈ lw_tbl := List.mem_of_getElem? (i := 331) (by decide +kernel)
theorem mw_332 : Cond.methodLink RX0 133 yX0_pieceLength ∈ lw_tbl := List.mem_of_getElem? (i := 332) (by decide +kernel)
theorem mw_334 : Cond.instanceMethod yX0_pieceLength ∈ lw_tbl := List.mem_of_getElem? (i := 334) (by decide +kernel)
theorem mw_32 : Cond.selects RX0 yX0_pieceLength yX0_pieceLength ∈ lw_tbl := List.mem_of_getElem? (i := 32) (by decide +kernel)
theorem mw_335 : Cond.code yX0_pieceLength cX0_pieceLength 5 (some .int) ∈ lw_tbl := List.mem_of_getElem? (i := 335) (by decide +kernel)
theorem mw_348 : Cond.methodLink RX0 145 yX0_stretchStart ∈ lw_tbl := List.mem_of_getElem? (i := 348) (by decide +kernel)
theorem mw_350 : Cond.instanceMethod yX0_stretchStart ∈ lw_tbl := List.mem_of_getElem? (i := 350) (by decide +kernel)
theorem mw_33 : Cond.selects RX0 yX0_stretchStart yX0_stretchStart ∈ lw_tbl := List.mem_of_getElem? (i := 33) (by decide +kernel)
theorem mw_351 : Cond.code yX0_stretchStart cX0_stretchStart 5 (some .int) ∈ lw_tbl := List.mem_of_getElem? (i := 351) (by decide +kernel)
theorem mw_356 : Cond.methodLink RX0 156 yX0_sharedMany ∈ lw_tbl := List.mem_of_getElem? (i := 356) (by decide +kernel)
theorem mw_358 : Cond.instanceMethod yX0_sharedMany ∈ lw_tbl := List.mem_of_getElem? (i := 358) (by decide +kernel)
theorem mw_34 : Cond.selects RX0 yX0_sharedMany yX0_sharedMany ∈ lw_tbl := List.mem_of_getElem? (i := 34) (by decide +kernel)
theorem mw_359 : Cond.code yX0_sharedMany cX0_sharedMany 3 (some .int) ∈ lw_tbl := List.mem_of_getElem? (i := 359) (by decide +kernel)
theorem mw_360 : Cond.methodLink RX0 159 yX0_stretchesMany ∈ lw_tbl := List.mem_of_getElem? (i := 360) (by decide +kernel)
theorem mw_362 : Cond.instanceMethod yX0_stretchesMany ∈ lw_tbl := List.mem_of_getElem? (i := 362) (by decide +kernel)
theorem mw_35 : Cond.selects RX0 yX0_stretchesMany yX0_stretchesMany ∈ lw_tbl := List.mem_of_getElem? (i := 35) (by decide +kernel)
theorem mw_363 : Cond.code yX0_stretchesMany cX0_stretchesMany 4 (some .int) ∈ lw_tbl := List.mem_of_getElem? (i := 363) (by decide +kernel)
theorem mw_430 : Cond.methodLink RX1 33 yX1_within ∈ lw_tbl := List.mem_of_getElem? (i := 430) (by decide +kernel)
theorem mw_431 : Cond.static yX1_within ∈ lw_tbl := List.mem_of_getElem? (i := 431) (by decide +kernel)
theorem mw_61 : Cond.initialized RX1 ∈ lw_tbl := List.mem_of_getElem? (i := 61) (by decide +kernel)
theorem mw_432 : Cond.code yX1_within cX1_within 3 (some .boolean) ∈ lw_tbl := List.mem_of_getElem? (i := 432) (by decide +kernel)
theorem mw_427 : Cond.methodLink RX1 71 yX1_isFile ∈ lw_tbl := List.mem_of_getElem? (i := 427) (by decide +kernel)
theorem mw_428 : Cond.static yX1_isFile ∈ lw_tbl := List.mem_of_getElem? (i := 428) (by decide +kernel)
theorem mw_429 : Cond.code yX1_isFile cX1_isFile 1 (some .boolean) ∈ lw_tbl := List.mem_of_getElem? (i := 429) (by decide +kernel)
theorem mw_445 : Cond.methodLink RX1 37 yX1_countOf ∈ lw_tbl := List.mem_of_getElem? (i := 445) (by decide +kernel)
theorem mw_447 : Cond.instanceMethod yX1_countOf ∈ lw_tbl := List.mem_of_getElem? (i := 447) (by decide +kernel)
theorem mw_38 : Cond.selects RX1 yX1_countOf yX1_countOf ∈ lw_tbl := List.mem_of_getElem? (i := 38) (by decide +kernel)
theorem mw_448 : Cond.code yX1_countOf cX1_countOf 4 (some .int) ∈ lw_tbl := List.mem_of_getElem? (i := 448) (by decide +kernel)
theorem mw_441 : Cond.methodLink RX1 57 yX1_isShared ∈ lw_tbl := List.mem_of_getElem? (i := 441) (by decide +kernel)
theorem mw_443 : Cond.instanceMethod yX1_isShared ∈ lw_tbl := List.mem_of_getElem? (i := 443) (by decide +kernel)
theorem mw_37 : Cond.selects RX1 yX1_isShared yX1_isShared ∈ lw_tbl := List.mem_of_getElem? (i := 37) (by decide +kernel)
theorem mw_444 : Cond.code yX1_isShared cX1_isShared 4 (some .boolean) ∈ lw_tbl := List.mem_of_getElem? (i := 444) (by decide +kernel)
theorem mw_457 : Cond.methodLink RX1 48 yX1_findTaken ∈ lw_tbl := List.mem_of_getElem? (i := 457) (by decide +kernel)
theorem mw_459 : Cond.instanceMethod yX1_findTaken ∈ lw_tbl := List.mem_of_getElem? (i := 459) (by decide +kernel)
theorem mw_41 : Cond.selects RX1 yX1_findTaken yX1_findTaken ∈ lw_tbl := List.mem_of_getElem? (i := 41) (by decide +kernel)
theorem mw_460 : Cond.code yX1_findTaken cX1_findTaken 2 none ∈ lw_tbl := List.mem_of_getElem? (i := 460) (by decide +kernel)
theorem mw_469 : Cond.methodLink RX1 45 yX1_freeFrom ∈ lw_tbl := List.mem_of_getElem? (i := 469) (by decide +kernel)
theorem mw_471 : Cond.instanceMethod yX1_freeFrom ∈ lw_tbl := List.mem_of_getElem? (i := 471) (by decide +kernel)
theorem mw_44 : Cond.selects RX1 yX1_freeFrom yX1_freeFrom ∈ lw_tbl := List.mem_of_getElem? (i := 44) (by decide +kernel)
theorem mw_472 : Cond.code yX1_freeFrom cX1_freeFrom 3 (some .int) ∈ lw_tbl := List.mem_of_getElem? (i := 472) (by decide +kernel)
theorem mw_465 : Cond.methodLink RX1 41 yX1_beginsRun ∈ lw_tbl := List.mem_of_getElem? (i := 465) (by decide +kernel)
theorem mw_467 : Cond.instanceMethod yX1_beginsRun ∈ lw_tbl := List.mem_of_getElem? (i := 467) (by decide +kernel)
theorem mw_43 : Cond.selects RX1 yX1_beginsRun yX1_beginsRun ∈ lw_tbl := List.mem_of_getElem? (i := 43) (by decide +kernel)
theorem mw_468 : Cond.code yX1_beginsRun cX1_beginsRun 2 (some .boolean) ∈ lw_tbl := List.mem_of_getElem? (i := 468) (by decide +kernel)
theorem mw_461 : Cond.methodLink RX1 54 yX1_runFor ∈ lw_tbl := List.mem_of_getElem? (i := 461) (by decide +kernel)
theorem mw_463 : Cond.instanceMethod yX1_runFor ∈ lw_tbl := List.mem_of_getElem? (i := 463) (by decide +kernel)
theorem mw_42 : Cond.selects RX1 yX1_runFor yX1_runFor ∈ lw_tbl := List.mem_of_getElem? (i := 42) (by decide +kernel)
theorem mw_464 : Cond.code yX1_runFor cX1_runFor 6 (some .int) ∈ lw_tbl := List.mem_of_getElem? (i := 464) (by decide +kernel)
theorem mw_453 : Cond.methodLink RX1 64 yX1_gets ∈ lw_tbl := List.mem_of_getElem? (i := 453) (by decide +kernel)
theorem mw_455 : Cond.instanceMethod yX1_gets ∈ lw_tbl := List.mem_of_getElem? (i := 455) (by decide +kernel)
theorem mw_40 : Cond.selects RX1 yX1_gets yX1_gets ∈ lw_tbl := List.mem_of_getElem? (i := 40) (by decide +kernel)
theorem mw_456 : Cond.code yX1_gets cX1_gets 5 (some .boolean) ∈ lw_tbl := List.mem_of_getElem? (i := 456) (by decide +kernel)
theorem mw_437 : Cond.methodLink RX1 78 yX1_wants ∈ lw_tbl := List.mem_of_getElem? (i := 437) (by decide +kernel)
theorem mw_439 : Cond.instanceMethod yX1_wants ∈ lw_tbl := List.mem_of_getElem? (i := 439) (by decide +kernel)
theorem mw_36 : Cond.selects RX1 yX1_wants yX1_wants ∈ lw_tbl := List.mem_of_getElem? (i := 36) (by decide +kernel)
theorem mw_440 : Cond.code yX1_wants cX1_wants 4 none ∈ lw_tbl := List.mem_of_getElem? (i := 440) (by decide +kernel)
theorem mw_473 : Cond.methodLink RX1 67 yX1_copies ∈ lw_tbl := List.mem_of_getElem? (i := 473) (by decide +kernel)
theorem mw_475 : Cond.instanceMethod yX1_copies ∈ lw_tbl := List.mem_of_getElem? (i := 475) (by decide +kernel)
theorem mw_45 : Cond.selects RX1 yX1_copies yX1_copies ∈ lw_tbl := List.mem_of_getElem? (i := 45) (by decide +kernel)
theorem mw_476 : Cond.code yX1_copies cX1_copies 4 none ∈ lw_tbl := List.mem_of_getElem? (i := 476) (by decide +kernel)
theorem mw_449 : Cond.methodLink RX1 81 yX1_owns ∈ lw_tbl := List.mem_of_getElem? (i := 449) (by decide +kernel)
theorem mw_451 : Cond.instanceMethod yX1_owns ∈ lw_tbl := List.mem_of_getElem? (i := 451) (by decide +kernel)
theorem mw_39 : Cond.selects RX1 yX1_owns yX1_owns ∈ lw_tbl := List.mem_of_getElem? (i := 39) (by decide +kernel)
theorem mw_452 : Cond.code yX1_owns cX1_owns 4 (some .boolean) ∈ lw_tbl := List.mem_of_getElem? (i := 452) (by decide +kernel)
theorem mw_485 : Cond.methodLink RX1 87 yX1_isWhole ∈ lw_tbl := List.mem_of_getElem? (i := 485) (by decide +kernel)
theorem mw_487 : Cond.instanceMethod yX1_isWhole ∈ lw_tbl := List.mem_of_getElem? (i := 487) (by decide +kernel)
theorem mw_47 : Cond.selects RX1 yX1_isWhole yX1_isWhole ∈ lw_tbl := List.mem_of_getElem? (i := 47) (by decide +kernel)
theorem mw_488 : Cond.code yX1_isWhole cX1_isWhole 7 (some .boolean) ∈ lw_tbl := List.mem_of_getElem? (i := 488) (by decide +kernel)
theorem mw_489 : Cond.methodLink RX1 91 yX1_clears ∈ lw_tbl := List.mem_of_getElem? (i := 489) (by decide +kernel)
theorem mw_491 : Cond.instanceMethod yX1_clears ∈ lw_tbl := List.mem_of_getElem? (i := 491) (by decide +kernel)
theorem mw_48 : Cond.selects RX1 yX1_clears yX1_clears ∈ lw_tbl := List.mem_of_getElem? (i := 48) (by decide +kernel)
theorem mw_492 : Cond.code yX1_clears cX1_clears 8 none ∈ lw_tbl := List.mem_of_getElem? (i := 492) (by decide +kernel)
theorem mw_481 : Cond.methodLink RX1 95 yX1_punches ∈ lw_tbl := List.mem_of_getElem? (i := 481) (by decide +kernel)
theorem mw_483 : Cond.instanceMethod yX1_punches ∈ lw_tbl := List.mem_of_getElem? (i := 483) (by decide +kernel)
theorem mw_46 : Cond.selects RX1 yX1_punches yX1_punches ∈ lw_tbl := List.mem_of_getElem? (i := 46) (by decide +kernel)
theorem mw_484 : Cond.code yX1_punches cX1_punches 5 (some .boolean) ∈ lw_tbl := List.mem_of_getElem? (i := 484) (by decide +kernel)
theorem mw_501 : Cond.methodLink RX1 98 yX1_isPlace ∈ lw_tbl := List.mem_of_getElem? (i := 501) (by decide +kernel)
theorem mw_502 : Cond.static yX1_isPlace ∈ lw_tbl := List.mem_of_getElem? (i := 502) (by decide +kernel)
theorem mw_503 : Cond.code yX1_isPlace cX1_isPlace 1 (some .boolean) ∈ lw_tbl := List.mem_of_getElem? (i := 503) (by decide +kernel)
theorem mw_512 : Cond.methodLink RX1 101 yX1_areRanges ∈ lw_tbl := List.mem_of_getElem? (i := 512) (by decide +kernel)
theorem mw_513 : Cond.static yX1_areRanges ∈ lw_tbl := List.mem_of_getElem? (i := 513) (by decide +kernel)
theorem mw_514 : Cond.code yX1_areRanges cX1_areRanges 3 (some .boolean) ∈ lw_tbl := List.mem_of_getElem? (i := 514) (by decide +kernel)
theorem mw_515 : Cond.methodLink RX1 104 yX1_doMeet ∈ lw_tbl := List.mem_of_getElem? (i := 515) (by decide +kernel)
theorem mw_516 : Cond.static yX1_doMeet ∈ lw_tbl := List.mem_of_getElem? (i := 516) (by decide +kernel)
theorem mw_517 : Cond.code yX1_doMeet cX1_doMeet 5 (some .boolean) ∈ lw_tbl := List.mem_of_getElem? (i := 517) (by decide +kernel)
theorem mw_530 : Cond.methodLink RX1 126 yX1_steps ∈ lw_tbl := List.mem_of_getElem? (i := 530) (by decide +kernel)
theorem mw_532 : Cond.instanceMethod yX1_steps ∈ lw_tbl := List.mem_of_getElem? (i := 532) (by decide +kernel)
theorem mw_49 : Cond.selects RX1 yX1_steps yX1_steps ∈ lw_tbl := List.mem_of_getElem? (i := 49) (by decide +kernel)
theorem mw_533 : Cond.code yX1_steps cX1_steps 5 none ∈ lw_tbl := List.mem_of_getElem? (i := 533) (by decide +kernel)
theorem mw_554 : Cond.methodLink RX1 130 yX1_beginsPiece ∈ lw_tbl := List.mem_of_getElem? (i := 554) (by decide +kernel)
theorem mw_556 : Cond.instanceMethod yX1_beginsPiece ∈ lw_tbl := List.mem_of_getElem? (i := 556) (by decide +kernel)
theorem mw_53 : Cond.selects RX1 yX1_beginsPiece yX1_beginsPiece ∈ lw_tbl := List.mem_of_getElem? (i := 53) (by decide +kernel)
theorem mw_557 : Cond.code yX1_beginsPiece cX1_beginsPiece 4 (some .boolean) ∈ lw_tbl := List.mem_of_getElem? (i := 557) (by decide +kernel)
theorem mw_550 : Cond.methodLink RX1 139 yX1_pieces ∈ lw_tbl := List.mem_of_getElem? (i := 550) (by decide +kernel)
theorem mw_552 : Cond.instanceMethod yX1_pieces ∈ lw_tbl := List.mem_of_getElem? (i := 552) (by decide +kernel)
theorem mw_52 : Cond.selects RX1 yX1_pieces yX1_pieces ∈ lw_tbl := List.mem_of_getElem? (i := 52) (by decide +kernel)
theorem mw_553 : Cond.code yX1_pieces cX1_pieces 4 (some .int) ∈ lw_tbl := List.mem_of_getElem? (i := 553) (by decide +kernel)
theorem mw_546 : Cond.methodLink RX1 136 yX1_sharedIn ∈ lw_tbl := List.mem_of_getElem? (i := 546) (by decide +kernel)
theorem mw_548 : Cond.instanceMethod yX1_sharedIn ∈ lw_tbl := List.mem_of_getElem? (i := 548) (by decide +kernel)
theorem mw_51 : Cond.selects RX1 yX1_sharedIn yX1_sharedIn ∈ lw_tbl := List.mem_of_getElem? (i := 51) (by decide +kernel)
theorem mw_549 : Cond.code yX1_sharedIn cX1_sharedIn 4 (some .int) ∈ lw_tbl := List.mem_of_getElem? (i := 549) (by decide +kernel)
theorem mw_542 : Cond.methodLink RX1 133 yX1_placesIn ∈ lw_tbl := List.mem_of_getElem? (i := 542) (by decide +kernel)
theorem mw_544 : Cond.instanceMethod yX1_placesIn ∈ lw_tbl := List.mem_of_getElem? (i := 544) (by decide +kernel)
theorem mw_50 : Cond.selects RX1 yX1_placesIn yX1_placesIn ∈ lw_tbl := List.mem_of_getElem? (i := 50) (by decide +kernel)
theorem mw_545 : Cond.code yX1_placesIn cX1_placesIn 4 (some .int) ∈ lw_tbl := List.mem_of_getElem? (i := 545) (by decide +kernel)
theorem mw_566 : Cond.methodLink RX1 142 yX1_lengthOfPiece ∈ lw_tbl := List.mem_of_getElem? (i := 566) (by decide +kernel)
theorem mw_568 : Cond.instanceMethod yX1_lengthOfPiece ∈ lw_tbl := List.mem_of_getElem? (i := 568) (by decide +kernel)
theorem mw_54 : Cond.selects RX1 yX1_lengthOfPiece yX1_lengthOfPiece ∈ lw_tbl := List.mem_of_getElem? (i := 54) (by decide +kernel)
theorem mw_569 : Cond.code yX1_lengthOfPiece cX1_lengthOfPiece 4 (some .int) ∈ lw_tbl := List.mem_of_getElem? (i := 569) (by decide +kernel)
theorem mw_582 : Cond.methodLink RX1 146 yX1_beginsRange ∈ lw_tbl := List.mem_of_getElem? (i := 582) (by decide +kernel)
theorem mw_584 : Cond.instanceMethod yX1_beginsRange ∈ lw_tbl := List.mem_of_getElem? (i := 584) (by decide +kernel)
theorem mw_55 : Cond.selects RX1 yX1_beginsRange yX1_beginsRange ∈ lw_tbl := List.mem_of_getElem? (i := 55) (by decide +kernel)
theorem mw_585 : Cond.code yX1_beginsRange cX1_beginsRange 4 (some .boolean) ∈ lw_tbl := List.mem_of_getElem? (i := 585) (by decide +kernel)
theorem mw_598 : Cond.methodLink RX1 156 yX1_ranges ∈ lw_tbl := List.mem_of_getElem? (i := 598) (by decide +kernel)
theorem mw_600 : Cond.instanceMethod yX1_ranges ∈ lw_tbl := List.mem_of_getElem? (i := 600) (by decide +kernel)
theorem mw_58 : Cond.selects RX1 yX1_ranges yX1_ranges ∈ lw_tbl := List.mem_of_getElem? (i := 58) (by decide +kernel)
theorem mw_601 : Cond.code yX1_ranges cX1_ranges 4 (some .int) ∈ lw_tbl := List.mem_of_getElem? (i := 601) (by decide +kernel)
theorem mw_586 : Cond.methodLink RX1 150 yX1_lengthOfRange ∈ lw_tbl := List.mem_of_getElem? (i := 586) (by decide +kernel)
theorem mw_588 : Cond.instanceMethod yX1_lengthOfRange ∈ lw_tbl := List.mem_of_getElem? (i := 588) (by decide +kernel)
theorem mw_56 : Cond.selects RX1 yX1_lengthOfRange yX1_lengthOfRange ∈ lw_tbl := List.mem_of_getElem? (i := 56) (by decide +kernel)
theorem mw_589 : Cond.code yX1_lengthOfRange cX1_lengthOfRange 3 (some .int) ∈ lw_tbl := List.mem_of_getElem? (i := 589) (by decide +kernel)
theorem mw_594 : Cond.methodLink RX1 153 yX1_manyWith ∈ lw_tbl := List.mem_of_getElem? (i := 594) (by decide +kernel)
theorem mw_596 : Cond.instanceMethod yX1_manyWith ∈ lw_tbl := List.mem_of_getElem? (i := 596) (by decide +kernel)
theorem mw_57 : Cond.selects RX1 yX1_manyWith yX1_manyWith ∈ lw_tbl := List.mem_of_getElem? (i := 57) (by decide +kernel)
theorem mw_597 : Cond.code yX1_manyWith cX1_manyWith 5 (some .int) ∈ lw_tbl := List.mem_of_getElem? (i := 597) (by decide +kernel)
set_option maxRecDepth 20000 in
theorem gL_all : GoodIn lw_tbl lw_tbl := goodIn_sub (fun _ h => h) (by decide +kernel)
end
section
/-! the walk's own judgement: the world, the pc, the locals, the stack -/
abbrev SX : Type := (Nat → Nat → Int32) × (Nat → Int32)
abbrev EX : Type := (Nat → Nat) × (Nat → ClassId)
abbrev nN : Int32 := -9
def mx (x y : Int32) : Int32 := if x < y then y else x
def mn (x y : Int32) : Int32 := if y < x then y else x
def updA (f : Nat → Nat → Int32) (k : Nat) (g : Nat → Int32) : Nat → Nat → Int32 := fun j => if j = k then g else f j
def sf (σ : SX) (k : Nat) (v : Int32) : SX := (σ.1, upd σ.2 k v)
def sa (σ : SX) (k i : Nat) (v : Int32) : SX := (updA σ.1 k (upd (σ.1 k) i v), σ.2)
def gD {α : Type} (i : Int32) (n : Nat) (k : Option α) : Option α := if i < 0 ∨ n ≤ i.toNatClampNeg then none else k
def bs {α : Type} (o : Option Int32) (k : Int32 → Option α) : Option α := match o with
  | none => none
  | some r => k r
def bd {α : Type} (o : Option (Int32 × SX)) (k : Int32 → SX → Option α) : Option α := match o with
  | none => none
  | some q => k q.1 q.2
def FU : Nat := 1000
theorem gD_some {α : Type} {i : Int32} {n : Nat} {k : Option α} {z : α} (h : gD i n k = some z) : vp_in i n ∧ k = some z := by
  unfold gD at h
  by_cases hc : i < 0 ∨ n ≤ i.toNatClampNeg
  · rw [if_pos hc] at h; cases h
  · rw [if_neg hc] at h; exact ⟨hc, h⟩
theorem bs_some {α : Type} {o : Option Int32} {k : Int32 → Option α} {z : α} (h : bs o k = some z) : ∃ r, o = some r ∧ k r = some z := by
  cases o with
  | none => cases h
  | some r => exact ⟨r, rfl, h⟩
theorem bd_some {α : Type} {o : Option (Int32 × SX)} {k : Int32 → SX → Option α} {z : α} (h : bd o k = some z) : ∃ r σ, o = some (r, σ) ∧ k r σ = some z := by
  cases o with
  | none => cases h
  | some q => exact ⟨q.1, q.2, rfl, h⟩
theorem iinc_m1 (x : Int32) : x + Int32.ofInt (-1) = x - nI 1 := by
  rw [Int32.sub_eq_add_neg]
  rfl
/-- the judgement -/
def GW (p : Program) (l : Launch) (e : Env) (R : Room) (s : State) (m : MethodId) (args : Array Value) (below : List Frame) (meth : Method) (c : Code) (Q : State → Prop) (A : Nat → Prop) (D : va_G) (nL kc ks : Nat) (w : va_W) (pc : Nat) (lv : List (Nat × Value)) (st : List Value) : Prop :=
  ∀ (H : Heap) (locs : List Loc) (ls : Array Slot), va_P D vwCl w H → va_D A w → va_S A s.heap H locs → lv_has ls nL lv → W p l e R s m args below meth c H locs kc ks Q (F0 m pc ls st)
/-- what stays during a walk -/
def GC (p : Program) (R : Room) (s : State) (m : MethodId) (args : Array Value) (meth : Method) (c : Code) (A : Nat → Prop) (D : va_G) (cc : ByteArray) (nL kc ks : Nat) (tys : List (ClassId × FieldType)) (own : String) (rt : Option FieldType) : Prop :=
  p.tables.exec = Jvm.exec ∧ c.code = cc ∧ c.maxLocals = nL ∧ s.vm.findClass own = some m.cls ∧ (∀ w ∈ lw_tbl, w.before args s = true) ∧ va_K D vwCl tys s ∧ (∀ q, s.heap.size ≤ q → A q) ∧ meth.locks = false ∧ meth.sig.returnType = rt ∧ kc ≤ R.cells ∧ ks ≤ R.slots
section GWS
variable {p : Program} {l : Launch} {e : Env} {R : Room} {s : State} {m : MethodId} {args : Array Value} {below : List Frame} {meth : Method} {c : Code} {Q : State → Prop} {A : Nat → Prop} {D : va_G} {cc : ByteArray} {nL kc ks : Nat} {tys : List (ClassId × FieldType)} {w : va_W} {pc : Nat} {lv : List (Nat × Value)} {st : List Value} {own : String} {rt : Option FieldType}
variable {α : Type} {z : α} {tt tf : Option α}
theorem g_case {G : Prop} (cd : Prop) [Decidable cd] (kt : cd → tt = some z → G) (kf : ¬ cd → tf = some z → G) (hF : (if cd then tt else tf) = some z) : G := by
  by_cases h : cd
  · rw [if_pos h] at hF; exact kt h hF
  · rw [if_neg h] at hF; exact kf h hF
theorem g_iconst (C : GC p R s m args meth c A D cc nL kc ks tys own rt) {n : Int} {v : Int32} (hd : decode cc pc = .ok (.iconst n, 1)) (hv : Int32.ofInt n = v) (k : GW p l e R s m args below meth c Q A D nL kc ks w (pc + 1) lv (.int v :: st)) : GW p l e R s m args below meth c Q A D nL kc ks w pc lv st := fun H locs ls hP hD hS hl => lv_iconst C.1 C.2.1 hd hv (k H locs ls hP hD hS hl)
theorem g_bipush (C : GC p R s m args meth c A D cc nL kc ks tys own rt) {n : Int} {v : Int32} (hd : decode cc pc = .ok (.bipush n, 2)) (hv : (Int8.ofInt n).toInt32 = v) (k : GW p l e R s m args below meth c Q A D nL kc ks w (pc + 2) lv (.int v :: st)) : GW p l e R s m args below meth c Q A D nL kc ks w pc lv st := fun H locs ls hP hD hS hl => lv_bipush C.1 C.2.1 hd hv (k H locs ls hP hD hS hl)
theorem g_sipush (C : GC p R s m args meth c A D cc nL kc ks tys own rt) {n : Int} {v : Int32} (hd : decode cc pc = .ok (.sipush n, 3)) (hv : (Int16.ofInt n).toInt32 = v) (k : GW p l e R s m args below meth c Q A D nL kc ks w (pc + 3) lv (.int v :: st)) : GW p l e R s m args below meth c Q A D nL kc ks w pc lv st := fun H locs ls hP hD hS hl => lv_sipush C.1 C.2.1 hd hv (k H locs ls hP hD hS hl)
theorem g_iload_n (C : GC p R s m args meth c A D cc nL kc ks tys own rt) {k1 : Fin 4} {x : Int32} (hd : decode cc pc = .ok (.iload_n k1, 1)) (j : Nat) (hj : lv[j]? = some ((k1 : Nat), .int x)) (k : GW p l e R s m args below meth c Q A D nL kc ks w (pc + 1) lv (.int x :: st)) : GW p l e R s m args below meth c Q A D nL kc ks w pc lv st := fun H locs ls hP hD hS hl => lv_iload_n C.1 C.2.1 hd rfl (lv_at hl j hj) (k H locs ls hP hD hS hl)
theorem g_iload (C : GC p R s m args meth c A D cc nL kc ks tys own rt) {i : Nat} {x : Int32} (hd : decode cc pc = .ok (.iload i, 2)) (j : Nat) (hj : lv[j]? = some (i, .int x)) (k : GW p l e R s m args below meth c Q A D nL kc ks w (pc + 2) lv (.int x :: st)) : GW p l e R s m args below meth c Q A D nL kc ks w pc lv st := fun H locs ls hP hD hS hl => lv_iload C.1 C.2.1 hd (lv_at hl j hj) (k H locs ls hP hD hS hl)
theorem g_aload_n (C : GC p R s m args meth c A D cc nL kc ks tys own rt) {k1 : Fin 4} {x : Nat} (hd : decode cc pc = .ok (.aload_n k1, 1)) (j : Nat) (hj : lv[j]? = some ((k1 : Nat), .ref x)) (k : GW p l e R s m args below meth c Q A D nL kc ks w (pc + 1) lv (.ref x :: st)) : GW p l e R s m args below meth c Q A D nL kc ks w pc lv st := fun H locs ls hP hD hS hl => lv_aload_n C.1 C.2.1 hd rfl (lv_at hl j hj) (k H locs ls hP hD hS hl)
theorem g_istore_n (C : GC p R s m args meth c A D cc nL kc ks tys own rt) {k1 : Fin 4} {x : Int32} (hd : decode cc pc = .ok (.istore_n k1, 1)) (hn : (k1 : Nat) < nL) {lv2 : List (Nat × Value)} (h2 : ((k1 : Nat), Value.int x) :: lv.filter (fun q => !(q.1 == (k1 : Nat)) && !(q.1 + 1 == (k1 : Nat) && q.2.category == 2)) = lv2) (k : GW p l e R s m args below meth c Q A D nL kc ks w (pc + 1) lv2 st) : GW p l e R s m args below meth c Q A D nL kc ks w pc lv (.int x :: st) := fun H locs ls hP hD hS hl => lv_istore_n C.1 C.2.1 hd rfl hl hn h2 (fun ls' hl' => k H locs ls' hP hD hS hl')
theorem g_istore (C : GC p R s m args meth c A D cc nL kc ks tys own rt) {i : Nat} {x : Int32} (hd : decode cc pc = .ok (.istore i, 2)) (hn : i < nL) {lv2 : List (Nat × Value)} (h2 : (i, Value.int x) :: lv.filter (fun q => !(q.1 == i) && !(q.1 + 1 == i && q.2.category == 2)) = lv2) (k : GW p l e R s m args below meth c Q A D nL kc ks w (pc + 2) lv2 st) : GW p l e R s m args below meth c Q A D nL kc ks w pc lv (.int x :: st) := fun H locs ls hP hD hS hl => lv_istore C.1 C.2.1 hd hl hn h2 (fun ls' hl' => k H locs ls' hP hD hS hl')
theorem g_astore_n (C : GC p R s m args meth c A D cc nL kc ks tys own rt) {k1 : Fin 4} {x : Nat} (hd : decode cc pc = .ok (.astore_n k1, 1)) (hn : (k1 : Nat) < nL) {lv2 : List (Nat × Value)} (h2 : ((k1 : Nat), Value.ref x) :: lv.filter (fun q => !(q.1 == (k1 : Nat)) && !(q.1 + 1 == (k1 : Nat) && q.2.category == 2)) = lv2) (k : GW p l e R s m args below meth c Q A D nL kc ks w (pc + 1) lv2 st) : GW p l e R s m args below meth c Q A D nL kc ks w pc lv (.ref x :: st) := fun H locs ls hP hD hS hl => lv_astore_n C.1 C.2.1 hd rfl hl hn h2 (fun ls' hl' => k H locs ls' hP hD hS hl')
theorem g_iinc (C : GC p R s m args meth c A D cc nL kc ks tys own rt) {i : Nat} {n : Int} {x v : Int32} (hd : decode cc pc = .ok (.iinc i n, 3)) (j : Nat) (hj : lv[j]? = some (i, .int x)) (hv : x + Int32.ofInt n = v) (hn : i < nL) {lv2 : List (Nat × Value)} (h2 : (i, Value.int v) :: lv.filter (fun q => !(q.1 == i) && !(q.1 + 1 == i && q.2.category == 2)) = lv2) (k : GW p l e R s m args below meth c Q A D nL kc ks w (pc + 3) lv2 st) : GW p l e R s m args below meth c Q A D nL kc ks w pc lv st := fun H locs ls hP hD hS hl => lv_iinc C.1 C.2.1 hd hl hj hv hn h2 (fun ls' hl' => k H locs ls' hP hD hS hl')
theorem g_iadd (C : GC p R s m args meth c A D cc nL kc ks tys own rt) {x y : Int32} (hd : decode cc pc = .ok (.iadd, 1)) (k : GW p l e R s m args below meth c Q A D nL kc ks w (pc + 1) lv (.int (x + y) :: st)) : GW p l e R s m args below meth c Q A D nL kc ks w pc lv (.int y :: .int x :: st) := fun H locs ls hP hD hS hl => lv_iadd C.1 C.2.1 hd (k H locs ls hP hD hS hl)
theorem g_isub (C : GC p R s m args meth c A D cc nL kc ks tys own rt) {x y : Int32} (hd : decode cc pc = .ok (.isub, 1)) (k : GW p l e R s m args below meth c Q A D nL kc ks w (pc + 1) lv (.int (x - y) :: st)) : GW p l e R s m args below meth c Q A D nL kc ks w pc lv (.int y :: .int x :: st) := fun H locs ls hP hD hS hl => lv_isub C.1 C.2.1 hd (k H locs ls hP hD hS hl)
theorem g_imul (C : GC p R s m args meth c A D cc nL kc ks tys own rt) {x y : Int32} (hd : decode cc pc = .ok (.imul, 1)) (k : GW p l e R s m args below meth c Q A D nL kc ks w (pc + 1) lv (.int (x * y) :: st)) : GW p l e R s m args below meth c Q A D nL kc ks w pc lv (.int y :: .int x :: st) := fun H locs ls hP hD hS hl => lv_imul C.1 C.2.1 hd (k H locs ls hP hD hS hl)
theorem g_iand (C : GC p R s m args meth c A D cc nL kc ks tys own rt) {x y : Int32} (hd : decode cc pc = .ok (.iand, 1)) (k : GW p l e R s m args below meth c Q A D nL kc ks w (pc + 1) lv (.int (x &&& y) :: st)) : GW p l e R s m args below meth c Q A D nL kc ks w pc lv (.int y :: .int x :: st) := fun H locs ls hP hD hS hl => lv_iand C.1 C.2.1 hd (k H locs ls hP hD hS hl)
theorem g_idiv (C : GC p R s m args meth c A D cc nL kc ks tys own rt) {x y : Int32} (hd : decode cc pc = .ok (.idiv, 1)) (hne : ¬ y = 0) (k : GW p l e R s m args below meth c Q A D nL kc ks w (pc + 1) lv (.int (x / y) :: st)) : GW p l e R s m args below meth c Q A D nL kc ks w pc lv (.int y :: .int x :: st) := fun H locs ls hP hD hS hl => lv_idiv C.1 C.2.1 hd hne (k H locs ls hP hD hS hl)
theorem g_irem (C : GC p R s m args meth c A D cc nL kc ks tys own rt) {x y : Int32} (hd : decode cc pc = .ok (.irem, 1)) (hne : ¬ y = 0) (k : GW p l e R s m args below meth c Q A D nL kc ks w (pc + 1) lv (.int (x - x / y * y) :: st)) : GW p l e R s m args below meth c Q A D nL kc ks w pc lv (.int y :: .int x :: st) := fun H locs ls hP hD hS hl => lv_irem C.1 C.2.1 hd hne (k H locs ls hP hD hS hl)
theorem g_dup (C : GC p R s m args meth c A D cc nL kc ks tys own rt) {va : Value} (hd : decode cc pc = .ok (.dup, 1)) (hv : va.category = 1) (k : GW p l e R s m args below meth c Q A D nL kc ks w (pc + 1) lv (va :: va :: st)) : GW p l e R s m args below meth c Q A D nL kc ks w pc lv (va :: st) := fun H locs ls hP hD hS hl => lv_dup C.1 C.2.1 hd hv (k H locs ls hP hD hS hl)
theorem g_pop (C : GC p R s m args meth c A D cc nL kc ks tys own rt) {va : Value} (hd : decode cc pc = .ok (.pop, 1)) (hv : va.category = 1) (k : GW p l e R s m args below meth c Q A D nL kc ks w (pc + 1) lv st) : GW p l e R s m args below meth c Q A D nL kc ks w pc lv (va :: st) := fun H locs ls hP hD hS hl => lv_pop C.1 C.2.1 hd hv (k H locs ls hP hD hS hl)
theorem g_dup2 (C : GC p R s m args meth c A D cc nL kc ks tys own rt) {va vb : Value} (hd : decode cc pc = .ok (.dup2, 1)) (hv : va.category = 1) (hv2 : vb.category = 1) (k : GW p l e R s m args below meth c Q A D nL kc ks w (pc + 1) lv (va :: vb :: va :: vb :: st)) : GW p l e R s m args below meth c Q A D nL kc ks w pc lv (va :: vb :: st) := fun H locs ls hP hD hS hl => lv_dup2_11 C.1 C.2.1 hd hv hv2 (k H locs ls hP hD hS hl)
theorem g_goto (C : GC p R s m args meth c A D cc nL kc ks tys own rt) {off : Int} {tgt : Nat} (hd : decode cc pc = .ok (.goto off, 3)) (ht : (pc : Int) + off = (tgt : Int)) (k : GW p l e R s m args below meth c Q A D nL kc ks w tgt lv st) : GW p l e R s m args below meth c Q A D nL kc ks w pc lv st := fun H locs ls hP hD hS hl => lv_goto C.1 C.2.1 hd ht (k H locs ls hP hD hS hl)
theorem g_icmp_eq (C : GC p R s m args meth c A D cc nL kc ks tys own rt) {x y : Int32} {off : Int} {tgt : Nat} (hd : decode cc pc = .ok (.if_icmp .eq off, 3)) (ht : (pc : Int) + off = (tgt : Int)) (kt : x = y → tt = some z → GW p l e R s m args below meth c Q A D nL kc ks w tgt lv st) (kf : ¬ x = y → tf = some z → GW p l e R s m args below meth c Q A D nL kc ks w (pc + 3) lv st) (hF : (if x = y then tt else tf) = some z) : GW p l e R s m args below meth c Q A D nL kc ks w pc lv (.int y :: .int x :: st) := fun H locs ls hP hD hS hl => lv_icmp_eq C.1 C.2.1 hd ht (fun h => kt h (by rw [if_pos h] at hF; exact hF) H locs ls hP hD hS hl) (fun h => kf h (by rw [if_neg h] at hF; exact hF) H locs ls hP hD hS hl)
theorem g_if_eq (C : GC p R s m args meth c A D cc nL kc ks tys own rt) {x : Int32} {off : Int} {tgt : Nat} (hd : decode cc pc = .ok (.ifCond .eq off, 3)) (ht : (pc : Int) + off = (tgt : Int)) (kt : x = nI 0 → tt = some z → GW p l e R s m args below meth c Q A D nL kc ks w tgt lv st) (kf : ¬ x = nI 0 → tf = some z → GW p l e R s m args below meth c Q A D nL kc ks w (pc + 3) lv st) (hF : (if x = nI 0 then tt else tf) = some z) : GW p l e R s m args below meth c Q A D nL kc ks w pc lv (.int x :: st) := fun H locs ls hP hD hS hl => lv_if_eq C.1 C.2.1 hd ht (fun h => kt h (by rw [if_pos h] at hF; exact hF) H locs ls hP hD hS hl) (fun h => kf h (by rw [if_neg h] at hF; exact hF) H locs ls hP hD hS hl)
theorem g_icmp_ne (C : GC p R s m args meth c A D cc nL kc ks tys own rt) {x y : Int32} {off : Int} {tgt : Nat} (hd : decode cc pc = .ok (.if_icmp .ne off, 3)) (ht : (pc : Int) + off = (tgt : Int)) (kt : ¬ x = y → tt = some z → GW p l e R s m args below meth c Q A D nL kc ks w tgt lv st) (kf : x = y → tf = some z → GW p l e R s m args below meth c Q A D nL kc ks w (pc + 3) lv st) (hF : (if x = y then tf else tt) = some z) : GW p l e R s m args below meth c Q A D nL kc ks w pc lv (.int y :: .int x :: st) := fun H locs ls hP hD hS hl => lv_icmp_ne C.1 C.2.1 hd ht (fun h => kt h (by rw [if_neg h] at hF; exact hF) H locs ls hP hD hS hl) (fun h => kf h (by rw [if_pos h] at hF; exact hF) H locs ls hP hD hS hl)
theorem g_if_ne (C : GC p R s m args meth c A D cc nL kc ks tys own rt) {x : Int32} {off : Int} {tgt : Nat} (hd : decode cc pc = .ok (.ifCond .ne off, 3)) (ht : (pc : Int) + off = (tgt : Int)) (kt : ¬ x = nI 0 → tt = some z → GW p l e R s m args below meth c Q A D nL kc ks w tgt lv st) (kf : x = nI 0 → tf = some z → GW p l e R s m args below meth c Q A D nL kc ks w (pc + 3) lv st) (hF : (if x = nI 0 then tf else tt) = some z) : GW p l e R s m args below meth c Q A D nL kc ks w pc lv (.int x :: st) := fun H locs ls hP hD hS hl => lv_if_ne C.1 C.2.1 hd ht (fun h => kt h (by rw [if_neg h] at hF; exact hF) H locs ls hP hD hS hl) (fun h => kf h (by rw [if_pos h] at hF; exact hF) H locs ls hP hD hS hl)
theorem g_icmp_lt (C : GC p R s m args meth c A D cc nL kc ks tys own rt) {x y : Int32} {off : Int} {tgt : Nat} (hd : decode cc pc = .ok (.if_icmp .lt off, 3)) (ht : (pc : Int) + off = (tgt : Int)) (kt : x < y → tt = some z → GW p l e R s m args below meth c Q A D nL kc ks w tgt lv st) (kf : ¬ x < y → tf = some z → GW p l e R s m args below meth c Q A D nL kc ks w (pc + 3) lv st) (hF : (if x < y then tt else tf) = some z) : GW p l e R s m args below meth c Q A D nL kc ks w pc lv (.int y :: .int x :: st) := fun H locs ls hP hD hS hl => lv_icmp_lt C.1 C.2.1 hd ht (fun h => kt h (by rw [if_pos h] at hF; exact hF) H locs ls hP hD hS hl) (fun h => kf h (by rw [if_neg h] at hF; exact hF) H locs ls hP hD hS hl)
theorem g_if_lt (C : GC p R s m args meth c A D cc nL kc ks tys own rt) {x : Int32} {off : Int} {tgt : Nat} (hd : decode cc pc = .ok (.ifCond .lt off, 3)) (ht : (pc : Int) + off = (tgt : Int)) (kt : x < nI 0 → tt = some z → GW p l e R s m args below meth c Q A D nL kc ks w tgt lv st) (kf : ¬ x < nI 0 → tf = some z → GW p l e R s m args below meth c Q A D nL kc ks w (pc + 3) lv st) (hF : (if x < nI 0 then tt else tf) = some z) : GW p l e R s m args below meth c Q A D nL kc ks w pc lv (.int x :: st) := fun H locs ls hP hD hS hl => lv_if_lt C.1 C.2.1 hd ht (fun h => kt h (by rw [if_pos h] at hF; exact hF) H locs ls hP hD hS hl) (fun h => kf h (by rw [if_neg h] at hF; exact hF) H locs ls hP hD hS hl)
theorem g_icmp_ge (C : GC p R s m args meth c A D cc nL kc ks tys own rt) {x y : Int32} {off : Int} {tgt : Nat} (hd : decode cc pc = .ok (.if_icmp .ge off, 3)) (ht : (pc : Int) + off = (tgt : Int)) (kt : y ≤ x → tt = some z → GW p l e R s m args below meth c Q A D nL kc ks w tgt lv st) (kf : ¬ y ≤ x → tf = some z → GW p l e R s m args below meth c Q A D nL kc ks w (pc + 3) lv st) (hF : (if y ≤ x then tt else tf) = some z) : GW p l e R s m args below meth c Q A D nL kc ks w pc lv (.int y :: .int x :: st) := fun H locs ls hP hD hS hl => lv_icmp_ge C.1 C.2.1 hd ht (fun h => kt h (by rw [if_pos h] at hF; exact hF) H locs ls hP hD hS hl) (fun h => kf h (by rw [if_neg h] at hF; exact hF) H locs ls hP hD hS hl)
theorem g_if_ge (C : GC p R s m args meth c A D cc nL kc ks tys own rt) {x : Int32} {off : Int} {tgt : Nat} (hd : decode cc pc = .ok (.ifCond .ge off, 3)) (ht : (pc : Int) + off = (tgt : Int)) (kt : nI 0 ≤ x → tt = some z → GW p l e R s m args below meth c Q A D nL kc ks w tgt lv st) (kf : ¬ nI 0 ≤ x → tf = some z → GW p l e R s m args below meth c Q A D nL kc ks w (pc + 3) lv st) (hF : (if nI 0 ≤ x then tt else tf) = some z) : GW p l e R s m args below meth c Q A D nL kc ks w pc lv (.int x :: st) := fun H locs ls hP hD hS hl => lv_if_ge C.1 C.2.1 hd ht (fun h => kt h (by rw [if_pos h] at hF; exact hF) H locs ls hP hD hS hl) (fun h => kf h (by rw [if_neg h] at hF; exact hF) H locs ls hP hD hS hl)
theorem g_icmp_gt (C : GC p R s m args meth c A D cc nL kc ks tys own rt) {x y : Int32} {off : Int} {tgt : Nat} (hd : decode cc pc = .ok (.if_icmp .gt off, 3)) (ht : (pc : Int) + off = (tgt : Int)) (kt : y < x → tt = some z → GW p l e R s m args below meth c Q A D nL kc ks w tgt lv st) (kf : ¬ y < x → tf = some z → GW p l e R s m args below meth c Q A D nL kc ks w (pc + 3) lv st) (hF : (if y < x then tt else tf) = some z) : GW p l e R s m args below meth c Q A D nL kc ks w pc lv (.int y :: .int x :: st) := fun H locs ls hP hD hS hl => lv_icmp_gt C.1 C.2.1 hd ht (fun h => kt h (by rw [if_pos h] at hF; exact hF) H locs ls hP hD hS hl) (fun h => kf h (by rw [if_neg h] at hF; exact hF) H locs ls hP hD hS hl)
theorem g_if_gt (C : GC p R s m args meth c A D cc nL kc ks tys own rt) {x : Int32} {off : Int} {tgt : Nat} (hd : decode cc pc = .ok (.ifCond .gt off, 3)) (ht : (pc : Int) + off = (tgt : Int)) (kt : nI 0 < x → tt = some z → GW p l e R s m args below meth c Q A D nL kc ks w tgt lv st) (kf : ¬ nI 0 < x → tf = some z → GW p l e R s m args below meth c Q A D nL kc ks w (pc + 3) lv st) (hF : (if nI 0 < x then tt else tf) = some z) : GW p l e R s m args below meth c Q A D nL kc ks w pc lv (.int x :: st) := fun H locs ls hP hD hS hl => lv_if_gt C.1 C.2.1 hd ht (fun h => kt h (by rw [if_pos h] at hF; exact hF) H locs ls hP hD hS hl) (fun h => kf h (by rw [if_neg h] at hF; exact hF) H locs ls hP hD hS hl)
theorem g_icmp_le (C : GC p R s m args meth c A D cc nL kc ks tys own rt) {x y : Int32} {off : Int} {tgt : Nat} (hd : decode cc pc = .ok (.if_icmp .le off, 3)) (ht : (pc : Int) + off = (tgt : Int)) (kt : x ≤ y → tt = some z → GW p l e R s m args below meth c Q A D nL kc ks w tgt lv st) (kf : ¬ x ≤ y → tf = some z → GW p l e R s m args below meth c Q A D nL kc ks w (pc + 3) lv st) (hF : (if x ≤ y then tt else tf) = some z) : GW p l e R s m args below meth c Q A D nL kc ks w pc lv (.int y :: .int x :: st) := fun H locs ls hP hD hS hl => lv_icmp_le C.1 C.2.1 hd ht (fun h => kt h (by rw [if_pos h] at hF; exact hF) H locs ls hP hD hS hl) (fun h => kf h (by rw [if_neg h] at hF; exact hF) H locs ls hP hD hS hl)
theorem g_if_le (C : GC p R s m args meth c A D cc nL kc ks tys own rt) {x : Int32} {off : Int} {tgt : Nat} (hd : decode cc pc = .ok (.ifCond .le off, 3)) (ht : (pc : Int) + off = (tgt : Int)) (kt : x ≤ nI 0 → tt = some z → GW p l e R s m args below meth c Q A D nL kc ks w tgt lv st) (kf : ¬ x ≤ nI 0 → tf = some z → GW p l e R s m args below meth c Q A D nL kc ks w (pc + 3) lv st) (hF : (if x ≤ nI 0 then tt else tf) = some z) : GW p l e R s m args below meth c Q A D nL kc ks w pc lv (.int x :: st) := fun H locs ls hP hD hS hl => lv_if_le C.1 C.2.1 hd ht (fun h => kt h (by rw [if_pos h] at hF; exact hF) H locs ls hP hD hS hl) (fun h => kf h (by rw [if_neg h] at hF; exact hF) H locs ls hP hD hS hl)
theorem g_tswI (C : GC p R s m args meth c A D cc nL kc ks tys own rt) {dflt lo hi off : Int} {offs : Array Int} {len : Nat} {x : Int32} {tgt : Nat} (hd : decode cc pc = .ok (.tableswitch dflt lo hi offs, len)) {kk : Int32} (hx : x = kk) (h1 : ¬ kk.toInt < lo) (h2 : ¬ hi < kk.toInt) (ho : offs[(kk.toInt - lo).toNat]? = some off) (ht : (pc : Int) + off = (tgt : Int)) (k : GW p l e R s m args below meth c Q A D nL kc ks w tgt lv st) : GW p l e R s m args below meth c Q A D nL kc ks w pc lv (.int x :: st) := fun H locs ls hP hD hS hl => lv_tableIn C.1 C.2.1 hd (by rw [hx]; exact h1) (by rw [hx]; exact h2) (by rw [hx]; exact ho) ht (k H locs ls hP hD hS hl)
theorem g_tswO (C : GC p R s m args meth c A D cc nL kc ks tys own rt) {dflt lo hi : Int} {offs : Array Int} {len : Nat} {x : Int32} {tgt : Nat} (hd : decode cc pc = .ok (.tableswitch dflt lo hi offs, len)) (h : x.toInt < lo ∨ hi < x.toInt) (ht : (pc : Int) + dflt = (tgt : Int)) (k : GW p l e R s m args below meth c Q A D nL kc ks w tgt lv st) : GW p l e R s m args below meth c Q A D nL kc ks w pc lv (.int x :: st) := fun H locs ls hP hD hS hl => lv_tableOut C.1 C.2.1 hd h ht (k H locs ls hP hD hS hl)
theorem g_lsw (C : GC p R s m args meth c A D cc nL kc ks tys own rt) {dflt off : Int} {ps : Array (Int × Int)} {len : Nat} {x : Int32} {tgt : Nat} (hd : decode cc pc = .ok (.lookupswitch dflt ps, len)) (hp : (ps.toList.zip (ps.toList.drop 1)).all (fun (a, next) => a.1 < next.1) = true) (ho : Op.lookupswitch.offset ps.toList dflt x.toInt = off) (ht : (pc : Int) + off = (tgt : Int)) (k : GW p l e R s m args below meth c Q A D nL kc ks w tgt lv st) : GW p l e R s m args below meth c Q A D nL kc ks w pc lv (.int x :: st) := fun H locs ls hP hD hS hl => lv_lookup C.1 C.2.1 hd hp ho ht (k H locs ls hP hD hS hl)
theorem g_mx (C : GC p R s m args meth c A D cc nL kc ks tys own rt) {idx : Nat} {x y : Int32} (hlink : Cond.methodLink own idx Lib.Math.max.name ∈ lw_tbl) (hstat : Cond.static Lib.Math.max.name ∈ lw_tbl) (hini : Cond.initialized "java/lang/Math" ∈ lw_tbl) (hcode : Cond.code Lib.Math.max.name Lib.Math.max.code 2 (some .int) ∈ lw_tbl) (hfr : 1 ≤ R.frames) (hlo : (st.map fun v => v.category).sum + 13 ≤ R.locals) (hd : decode cc pc = .ok (.invokestatic idx, 3)) (k : GW p l e R s m args below meth c Q A D nL kc ks w (pc + 3) lv (.int (mx x y) :: st)) : GW p l e R s m args below meth c Q A D nL kc ks w pc lv (.int y :: .int x :: st) := fun H locs ls hP hD hS hl => va_mmax C.1 C.2.1 (C.2.2.1.trans hl.1.symm) C.2.2.2.1 (C.2.2.2.2.1 _ hlink) (C.2.2.2.2.1 _ hstat) (C.2.2.2.2.1 _ hini) (C.2.2.2.2.1 _ hcode) hfr hlo C.2.2.2.2.2.2.2.2.2.1 C.2.2.2.2.2.2.2.2.2.2 hd (k H locs ls hP hD hS hl)
theorem g_mn (C : GC p R s m args meth c A D cc nL kc ks tys own rt) {idx : Nat} {x y : Int32} (hlink : Cond.methodLink own idx Lib.Math.min.name ∈ lw_tbl) (hstat : Cond.static Lib.Math.min.name ∈ lw_tbl) (hini : Cond.initialized "java/lang/Math" ∈ lw_tbl) (hcode : Cond.code Lib.Math.min.name Lib.Math.min.code 2 (some .int) ∈ lw_tbl) (hfr : 1 ≤ R.frames) (hlo : (st.map fun v => v.category).sum + 13 ≤ R.locals) (hd : decode cc pc = .ok (.invokestatic idx, 3)) (k : GW p l e R s m args below meth c Q A D nL kc ks w (pc + 3) lv (.int (mn x y) :: st)) : GW p l e R s m args below meth c Q A D nL kc ks w pc lv (.int y :: .int x :: st) := fun H locs ls hP hD hS hl => va_mmin C.1 C.2.1 (C.2.2.1.trans hl.1.symm) C.2.2.2.1 (C.2.2.2.2.1 _ hlink) (C.2.2.2.2.1 _ hstat) (C.2.2.2.2.1 _ hini) (C.2.2.2.2.1 _ hcode) hfr hlo C.2.2.2.2.2.2.2.2.2.1 C.2.2.2.2.2.2.2.2.2.2 hd (k H locs ls hP hD hS hl)
/-- a contract: the answer an int, or a boolean as an int -/
def MI (l : Launch) (D : va_G) (tys : List (ClassId × FieldType)) (y : MethodName) (cc : ByteArray) (maxL : Nat) (rt : Option FieldType) (fr lo : Nat) (As : List Value) (w w' : va_W) (r : Int32) : Prop := ∀ sz : Nat, Met l y (.code y cc maxL rt :: lw_tbl) { frames := fr, cells := 0, slots := 0, locals := lo } (va_Pc As (fun U => U.heap.size = sz ∧ va_P D vwCl w U.heap ∧ va_K D vwCl tys U ∧ va_D (fun _ => True) w)) (va_Qi (fun (r2 : Int32) (_ : Unit) => r2 = r) (fun _ t => va_P D vwCl w' t.heap ∧ va_D (va_A w sz) w') (va_A w sz)) 0 0 (va_A w sz)
def MV (l : Launch) (D : va_G) (tys : List (ClassId × FieldType)) (y : MethodName) (cc : ByteArray) (maxL : Nat) (rt : Option FieldType) (fr lo : Nat) (As : List Value) (w w' : va_W) : Prop := ∀ sz : Nat, Met l y (.code y cc maxL rt :: lw_tbl) { frames := fr, cells := 0, slots := 0, locals := lo } (va_Pc As (fun U => U.heap.size = sz ∧ va_P D vwCl w U.heap ∧ va_K D vwCl tys U ∧ va_D (fun _ => True) w)) (va_Qv (fun (_ : Unit) => True) (fun _ t => va_P D vwCl w' t.heap ∧ va_D (va_A w sz) w') (va_A w sz)) 0 0 (va_A w sz)
def QI (D : va_G) (w' : va_W) (r : Int32) (A : Nat → Prop) (below : List Frame) (args : Array Value) (s : State) : State → Prop := MQ below (va_Qi (fun (r2 : Int32) (_ : Unit) => r2 = r) (fun _ t => va_P D vwCl w' t.heap ∧ va_D A w') A) args s 0 0 A
def QV (D : va_G) (w' : va_W) (A : Nat → Prop) (below : List Frame) (args : Array Value) (s : State) : State → Prop := MQ below (va_Qv (fun (_ : Unit) => True) (fun _ t => va_P D vwCl w' t.heap ∧ va_D A w') A) args s 0 0 A
theorem g_enterI {y : MethodName} {maxL fr lo : Nat} {As : List Value} {w w' : va_W} {r : Int32} (hy : plainName y.cls = true) (hc : y.cls = own) (hlen : (lg_sl As).length ≤ maxL) (hlv : lv_args 0 As = lv) (body : ∀ (p : Program) (e : Env) (s : State) (m : MethodId) (args : Array Value) (below : List Frame) (meth : Method) (c : Code) (A : Nat → Prop), GC p { frames := fr, cells := 0, slots := 0, locals := lo } s m args meth c A D cc maxL 0 0 tys own rt → GW p l e { frames := fr, cells := 0, slots := 0, locals := lo } s m args below meth c (QI D w' r A below args s) A D maxL 0 0 w 0 lv []) : MI l D tys y cc maxL rt fr lo As w w' r := by
  intro sz
  refine Met.ofW (cc := cc) (maxL := maxL) (ret := rt) hy rfl ?_
  intro p e s m args below meth c s₁ B hml hv
  obtain ⟨rfl, hsz, hP, hK, hD0⟩ := hv
  have hts := atoms_spec (ws := .code y cc maxL rt :: lw_tbl) B.pre
  have hown : s.vm.findClass own = some m.cls := by rw [← hc]; exact findClass_of_methodNamed B.named
  subst hsz
  have hD := hD0.self (sz := s.heap.size)
  have hl := lv_entry As hlen
  rw [lg_entry_eq]
  rw [hlv] at hl
  exact body p e s m _ below meth c _ ⟨B.exec, B.bytes, hml, hown, fun w hw => hts w (List.mem_cons_of_mem _ hw), hK, fun q h => Or.inr h, B.notSynchronized, B.returns, Nat.zero_le _, Nat.zero_le _⟩ s.heap [] _ hP hD va_S.rf hl
theorem g_enterV {y : MethodName} {maxL fr lo : Nat} {As : List Value} {w w' : va_W}  (hy : plainName y.cls = true) (hc : y.cls = own) (hlen : (lg_sl As).length ≤ maxL) (hlv : lv_args 0 As = lv) (body : ∀ (p : Program) (e : Env) (s : State) (m : MethodId) (args : Array Value) (below : List Frame) (meth : Method) (c : Code) (A : Nat → Prop), GC p { frames := fr, cells := 0, slots := 0, locals := lo } s m args meth c A D cc maxL 0 0 tys own rt → GW p l e { frames := fr, cells := 0, slots := 0, locals := lo } s m args below meth c (QV D w' A below args s) A D maxL 0 0 w 0 lv []) : MV l D tys y cc maxL rt fr lo As w w' := by
  intro sz
  refine Met.ofW (cc := cc) (maxL := maxL) (ret := rt) hy rfl ?_
  intro p e s m args below meth c s₁ B hml hv
  obtain ⟨rfl, hsz, hP, hK, hD0⟩ := hv
  have hts := atoms_spec (ws := .code y cc maxL rt :: lw_tbl) B.pre
  have hown : s.vm.findClass own = some m.cls := by rw [← hc]; exact findClass_of_methodNamed B.named
  subst hsz
  have hD := hD0.self (sz := s.heap.size)
  have hl := lv_entry As hlen
  rw [lg_entry_eq]
  rw [hlv] at hl
  exact body p e s m _ below meth c _ ⟨B.exec, B.bytes, hml, hown, fun w hw => hts w (List.mem_cons_of_mem _ hw), hK, fun q h => Or.inr h, B.notSynchronized, B.returns, Nat.zero_le _, Nat.zero_le _⟩ s.heap [] _ hP hD va_S.rf hl
theorem g_iret (C : GC p R s m args meth c A D cc nL 0 0 tys own rt) (hr : rt = some .int) {v : Int32} (hd : decode cc pc = .ok (.ireturn, 1)) : GW p l e R s m args below meth c (QI D w v A below args s) A D nL 0 0 w pc lv [.int v] := fun H locs ls hP hD hS hl => W.iret (v := v) C.1 C.2.1 (C.2.2.2.2.2.2.2.2.1.trans hr) (fun t ht hW => ⟨⟨v, (), rfl, rfl, by rw [ht]; exact hP, hD⟩, hS.F ht⟩) hS.2.2 hd (hlocks := C.2.2.2.2.2.2.2.1)
theorem g_zret (C : GC p R s m args meth c A D cc nL 0 0 tys own rt) (hr : rt = some .boolean) {v : Int32} (hn : narrow .boolean (.int v) = .int v) (hd : decode cc pc = .ok (.ireturn, 1)) : GW p l e R s m args below meth c (QI D w v A below args s) A D nL 0 0 w pc lv [.int v] := fun H locs ls hP hD hS hl => W.zret (v := v) C.1 C.2.1 (C.2.2.2.2.2.2.2.2.1.trans hr) hn (fun t ht hW => ⟨⟨v, (), rfl, rfl, by rw [ht]; exact hP, hD⟩, hS.F ht⟩) hS.2.2 hd (hlocks := C.2.2.2.2.2.2.2.1)
theorem g_vret (C : GC p R s m args meth c A D cc nL 0 0 tys own rt) (hr : rt = none) (hd : decode cc pc = .ok (.return_, 1)) : GW p l e R s m args below meth c (QV D w A below args s) A D nL 0 0 w pc lv [] := fun H locs ls hP hD hS hl => W.vret C.1 C.2.1 (C.2.2.2.2.2.2.2.2.1.trans hr) (fun t ht hW => ⟨⟨(), rfl, trivial, by rw [ht]; exact hP, hD⟩, hS.F ht⟩) hS.2.2 hd (hlocks := C.2.2.2.2.2.2.2.1)
theorem g_callV (C : GC p R s m args meth c A D cc nL kc ks tys own rt) {y : MethodName} {cc' : ByteArray} {maxL' fr lo n idx ci b : Nat} {rt' : Option FieldType} {As st0 : List Value} {w' : va_W} {r : Int32} {Cn : String} {T : u_T} {N : Nat} {fs : List Value} (hM : MI l D tys y cc' maxL' rt' fr lo (.ref b :: As) w w' r) (hg : GoodIn lw_tbl (wsV own idx Cn y (.code y cc' maxL' rt' :: lw_tbl))) (hcl : vwCl[ci]? = some (Cn, T, N)) (he : w[0]? = some (b, .inr (ci, fs))) (hdn : y.cls = Cn ∧ y.cls ≠ "java/lang/invoke/MethodHandle" ∧ y.cls ≠ "java/lang/invoke/VarHandle" ∧ (parseMethodDescriptor y.desc).map (fun d => d.parameters.length) = some n) (hlen : As.length = n) (hfr : fr + 1 ≤ R.frames) (hlo : 8 + (maxL' + 11) + lo ≤ R.locals) (hst : st0 = As.reverse ++ .ref b :: st) (hsum : (st.map fun v => v.category).sum ≤ 8) (hd : decode cc pc = .ok (.invokevirtual idx, 3)) (k : GW p l e R s m args below meth c Q A D nL kc ks w' (pc + 3) lv (.int r :: st)) : GW p l e R s m args below meth c Q A D nL kc ks w pc lv st0 := by
  intro H locs ls hP hD hS hl
  obtain ⟨hx, hb, hml, hown, hts, hK, hA, hlk, hr, hkc, hks⟩ := C
  have hFc : ∀ q, va_A w H.size q → A q := fun q h => h.elim (fun ⟨kq, eq, hq⟩ => hD.2 kq _ hq) (fun h => hA q (Nat.le_trans hS.1 h))
  refine va_calli (va_runV (As := As) (rest := st) ⟨hx, hb, hml, hown, hts⟩ (hM H.size) (cwV n hts hg rfl rfl rfl hdn ⟨hfr, hlo⟩) ⟨fun a U g mk q => by obtain ⟨q0, q1, qP, qK, qD⟩ := q; exact ⟨q0, q1, qP, va_K.moved (u := U) (U := U.calling g mk a) (Vm.Alike.refl U.vm) qK, qD⟩, va_recv hK hP hcl he, fun U hU hW => ⟨rfl, by rw [hU], by rw [hU]; exact hP, va_K.moved hW.alike hK, hD.weaken (fun _ _ _ _ => trivial)⟩⟩ rfl hlen hl.1 hst (lv_room hsum) hd ⟨hkc, hks⟩) hS (fun q _ h => hFc q h) hFc (fun r2 u t H1 locs1 ht hvm hw hB hz hk hS1 => ?_)
  obtain ⟨hP1, hD1⟩ := hB
  rw [ht] at hP1
  subst hw
  exact k H1 locs1 ls hP1 (hD1.weaken (fun _ _ _ h => hFc _ h)) hS1 hl
theorem g_callVv (C : GC p R s m args meth c A D cc nL kc ks tys own rt) {y : MethodName} {cc' : ByteArray} {maxL' fr lo n idx ci b : Nat} {rt' : Option FieldType} {As st0 : List Value} {w' : va_W}  {Cn : String} {T : u_T} {N : Nat} {fs : List Value} (hM : MV l D tys y cc' maxL' rt' fr lo (.ref b :: As) w w') (hg : GoodIn lw_tbl (wsV own idx Cn y (.code y cc' maxL' rt' :: lw_tbl))) (hcl : vwCl[ci]? = some (Cn, T, N)) (he : w[0]? = some (b, .inr (ci, fs))) (hdn : y.cls = Cn ∧ y.cls ≠ "java/lang/invoke/MethodHandle" ∧ y.cls ≠ "java/lang/invoke/VarHandle" ∧ (parseMethodDescriptor y.desc).map (fun d => d.parameters.length) = some n) (hlen : As.length = n) (hfr : fr + 1 ≤ R.frames) (hlo : 8 + (maxL' + 11) + lo ≤ R.locals) (hst : st0 = As.reverse ++ .ref b :: st) (hsum : (st.map fun v => v.category).sum ≤ 8) (hd : decode cc pc = .ok (.invokevirtual idx, 3)) (k : GW p l e R s m args below meth c Q A D nL kc ks w' (pc + 3) lv st) : GW p l e R s m args below meth c Q A D nL kc ks w pc lv st0 := by
  intro H locs ls hP hD hS hl
  obtain ⟨hx, hb, hml, hown, hts, hK, hA, hlk, hr, hkc, hks⟩ := C
  have hFc : ∀ q, va_A w H.size q → A q := fun q h => h.elim (fun ⟨kq, eq, hq⟩ => hD.2 kq _ hq) (fun h => hA q (Nat.le_trans hS.1 h))
  refine va_callv (va_runV (As := As) (rest := st) ⟨hx, hb, hml, hown, hts⟩ (hM H.size) (cwV n hts hg rfl rfl rfl hdn ⟨hfr, hlo⟩) ⟨fun a U g mk q => by obtain ⟨q0, q1, qP, qK, qD⟩ := q; exact ⟨q0, q1, qP, va_K.moved (u := U) (U := U.calling g mk a) (Vm.Alike.refl U.vm) qK, qD⟩, va_recv hK hP hcl he, fun U hU hW => ⟨rfl, by rw [hU], by rw [hU]; exact hP, va_K.moved hW.alike hK, hD.weaken (fun _ _ _ _ => trivial)⟩⟩ rfl hlen hl.1 hst (lv_room hsum) hd ⟨hkc, hks⟩) hS (fun q _ h => hFc q h) hFc (fun u t H1 locs1 ht hvm hw hB hz hk hS1 => ?_)
  obtain ⟨hP1, hD1⟩ := hB
  rw [ht] at hP1
  exact k H1 locs1 ls hP1 (hD1.weaken (fun _ _ _ h => hFc _ h)) hS1 hl
theorem g_callS (C : GC p R s m args meth c A D cc nL kc ks tys own rt) {y : MethodName} {cc' : ByteArray} {maxL' fr lo n idx : Nat} {rt' : Option FieldType} {As st0 : List Value} {r : Int32} (hM : MI l D [] y cc' maxL' rt' fr lo As [] [] r) (hg : GoodIn lw_tbl (va_wsS own idx y (.code y cc' maxL' rt' :: lw_tbl))) (hdn : y.cls ≠ "java/lang/invoke/MethodHandle" ∧ y.cls ≠ "java/lang/invoke/VarHandle" ∧ (parseMethodDescriptor y.desc).map (fun d => d.parameters.length) = some n) (hlen : As.length = n) (hfr : fr + 1 ≤ R.frames) (hlo : 8 + (maxL' + 11) + lo ≤ R.locals) (hst : st0 = As.reverse ++ st) (hsum : (st.map fun v => v.category).sum ≤ 8) (hd : decode cc pc = .ok (.invokestatic idx, 3)) (k : GW p l e R s m args below meth c Q A D nL kc ks w (pc + 3) lv (.int r :: st)) : GW p l e R s m args below meth c Q A D nL kc ks w pc lv st0 := by
  intro H locs ls hP hD hS hl
  obtain ⟨hx, hb, hml, hown, hts, hK, hA, hlk, hr, hkc, hks⟩ := C
  have hFc : ∀ q, va_A [] H.size q → A q := fun q h => h.elim (fun ⟨kq, eq, hq⟩ => by simp at hq) (fun h => hA q (Nat.le_trans hS.1 h))
  refine va_calli (va_runS (As := As) (rest := st) ⟨hx, hb, hml, hown, hts⟩ (hM H.size) (va_cwS n hts hg rfl rfl rfl hdn ⟨hfr, hlo⟩) ⟨fun a U g mk q => by obtain ⟨q0, q1, qP, qK, qD⟩ := q; exact ⟨q0, q1, qP, va_K.moved (u := U) (U := U.calling g mk a) (Vm.Alike.refl U.vm) qK, qD⟩, fun U hU hW => ⟨rfl, by rw [hU], fun k q h => by simp at h, va_K.moved hW.alike (hK.sub [] rfl), ⟨fun i j p q h => by simp at h, fun k q h => by simp at h⟩⟩⟩ rfl hlen hl.1 hst (lv_room hsum) hd ⟨hkc, hks⟩) hS (fun q _ h => hFc q h) hFc (fun r2 u t H1 locs1 ht hvm hw hB hz hk hS1 => ?_)
  subst hw
  exact k H1 locs1 ls (hP.kept fun kq q hq => hk q.1 (hP kq q hq).lt (fun h => h.elim (fun ⟨k2, e2, h2⟩ => by simp at h2) (fun h => absurd h (Nat.not_le.mpr (hP kq q hq).lt)))) hD hS1 hl
theorem g_sub (ks' : List Nat) {lv2 : List (Nat × Value)} (h : lv_pick lv ks' = lv2) (k : GW p l e R s m args below meth c Q A D nL kc ks w pc lv2 st) : GW p l e R s m args below meth c Q A D nL kc ks w pc lv st := fun H locs ls hP hD hS hl => k H locs ls hP hD hS (lv_sub hl ks' h)
end GWS
theorem gV_mk {own Cn : String} {idx n : Nat} {y : MethodName} {cc : ByteArray} {rt : Option FieldType} (h1 : Cond.methodLink own idx y ∈ lw_tbl) (h2 : Cond.instanceMethod y ∈ lw_tbl) (h3 : Cond.selects Cn y y ∈ lw_tbl) (h4 : Cond.initialized Cn ∈ lw_tbl) (h5 : Cond.code y cc n rt ∈ lw_tbl) : GoodIn lw_tbl (wsV own idx Cn y (.code y cc n rt :: lw_tbl)) := by
  intro w h
  refine gL_all w ?_
  unfold wsV at h
  rcases List.mem_append.mp h with h | h
  · rcases List.mem_cons.mp h with rfl | h
    · exact h1
    rcases List.mem_cons.mp h with rfl | h
    · exact h2
    rcases List.mem_cons.mp h with rfl | h
    · exact h3
    rcases List.mem_cons.mp h with rfl | h
    · exact h4
    · cases h
  · rcases List.mem_cons.mp h with rfl | h
    · exact h5
    · exact h
theorem gS_mk {own : String} {idx n : Nat} {y : MethodName} {cc : ByteArray} {rt : Option FieldType} (h1 : Cond.methodLink own idx y ∈ lw_tbl) (h2 : Cond.static y ∈ lw_tbl) (h4 : Cond.initialized y.cls ∈ lw_tbl) (h5 : Cond.code y cc n rt ∈ lw_tbl) : GoodIn lw_tbl (va_wsS own idx y (.code y cc n rt :: lw_tbl)) := by
  intro w h
  refine gL_all w ?_
  unfold va_wsS at h
  rcases List.mem_append.mp h with h | h
  · rcases List.mem_cons.mp h with rfl | h
    · exact h1
    rcases List.mem_cons.mp h with rfl | h
    · exact h2
    rcases List.mem_cons.mp h with rfl | h
    · exact h4
    · cases h
  · rcases List.mem_cons.mp h with rfl | h
    · exact h5
    · exact h
theorem inX0 : ∀ w ∈ wsX00, w ∈ lw_tbl := by decide +kernel
theorem inX1 : ∀ w ∈ wsX10, w ∈ lw_tbl := by decide +kernel
def wX0 (h0 : Nat) (E : EX) (σ : SX) : va_W := [(h0, .inr (0, [.ref (E.1 0), .ref (E.1 1), .ref (E.1 2), .ref (E.1 3), .ref (E.1 4), .int (σ.2 5), .ref (E.1 6), .int (σ.2 7), .int (σ.2 8), .int (σ.2 9), .int (σ.2 10), .int (σ.2 11), .int (σ.2 12), .int (σ.2 13), .int (σ.2 14), .int (σ.2 15)])), (E.1 0, .inl (E.2 0, 192, .inl (σ.1 0))), (E.1 1, .inl (E.2 1, 48, .inl (σ.1 1))), (E.1 2, .inl (E.2 2, 96, .inl (σ.1 2))), (E.1 3, .inl (E.2 3, 4, .inl (σ.1 3))), (E.1 4, .inl (E.2 4, 24, .inl (σ.1 4))), (E.1 6, .inl (E.2 6, 48, .inl (σ.1 6)))]
def tysX0 (E : EX) : List (ClassId × FieldType) := [(E.2 0, .int), (E.2 1, .int), (E.2 2, .int), (E.2 3, .int), (E.2 4, .int), (E.2 6, .int)]
section LAY0
variable {p : Program} {l : Launch} {e : Env} {R : Room} {s : State} {m : MethodId} {args : Array Value} {below : List Frame} {meth : Method} {c : Code} {Q : State → Prop} {A : Nat → Prop} {D : va_G} {cc : ByteArray} {nL kc ks : Nat} {pc : Nat} {lv : List (Nat × Value)} {st : List Value} {rt : Option FieldType} {h0 : Nat} {E : EX} {σ σ2 : SX} {α : Type} {z : α} {t : Option α}
theorem x0_get0 (C : GC p R s m args meth c A D cc nL kc ks (tysX0 E) RX0 rt) (hd : decode cc pc = .ok (.getfield 9, 3)) (k : GW p l e R s m args below meth c Q A D nL kc ks (wX0 h0 E σ) (pc + 3) lv (.ref (E.1 0) :: st)) : GW p l e R s m args below meth c Q A D nL kc ks (wX0 h0 E σ) pc lv (.ref h0 :: st) := fun H locs ls hP hD hS hl => va_get (D := D) (ci := 0) (v := .ref (E.1 0)) (C := RX0) (T := TX0) (N := 16) C.1 C.2.1 C.2.2.2.2.1 inX0 C.2.2.2.1 C.2.2.2.2.2.1 hP 0 rfl rfl 0 (by decide) (C.2.2.2.2.1 _ mw_71) (fun _ h9 => h9) rfl hd (k H locs ls hP hD hS hl)
theorem x0_get1 (C : GC p R s m args meth c A D cc nL kc ks (tysX0 E) RX0 rt) (hd : decode cc pc = .ok (.getfield 13, 3)) (k : GW p l e R s m args below meth c Q A D nL kc ks (wX0 h0 E σ) (pc + 3) lv (.ref (E.1 1) :: st)) : GW p l e R s m args below meth c Q A D nL kc ks (wX0 h0 E σ) pc lv (.ref h0 :: st) := fun H locs ls hP hD hS hl => va_get (D := D) (ci := 0) (v := .ref (E.1 1)) (C := RX0) (T := TX0) (N := 16) C.1 C.2.1 C.2.2.2.2.1 inX0 C.2.2.2.1 C.2.2.2.2.2.1 hP 0 rfl rfl 1 (by decide) (C.2.2.2.2.1 _ mw_72) (fun _ h9 => h9) rfl hd (k H locs ls hP hD hS hl)
theorem x0_get2 (C : GC p R s m args meth c A D cc nL kc ks (tysX0 E) RX0 rt) (hd : decode cc pc = .ok (.getfield 16, 3)) (k : GW p l e R s m args below meth c Q A D nL kc ks (wX0 h0 E σ) (pc + 3) lv (.ref (E.1 2) :: st)) : GW p l e R s m args below meth c Q A D nL kc ks (wX0 h0 E σ) pc lv (.ref h0 :: st) := fun H locs ls hP hD hS hl => va_get (D := D) (ci := 0) (v := .ref (E.1 2)) (C := RX0) (T := TX0) (N := 16) C.1 C.2.1 C.2.2.2.2.1 inX0 C.2.2.2.1 C.2.2.2.2.2.1 hP 0 rfl rfl 2 (by decide) (C.2.2.2.2.1 _ mw_73) (fun _ h9 => h9) rfl hd (k H locs ls hP hD hS hl)
theorem x0_get3 (C : GC p R s m args meth c A D cc nL kc ks (tysX0 E) RX0 rt) (hd : decode cc pc = .ok (.getfield 19, 3)) (k : GW p l e R s m args below meth c Q A D nL kc ks (wX0 h0 E σ) (pc + 3) lv (.ref (E.1 3) :: st)) : GW p l e R s m args below meth c Q A D nL kc ks (wX0 h0 E σ) pc lv (.ref h0 :: st) := fun H locs ls hP hD hS hl => va_get (D := D) (ci := 0) (v := .ref (E.1 3)) (C := RX0) (T := TX0) (N := 16) C.1 C.2.1 C.2.2.2.2.1 inX0 C.2.2.2.1 C.2.2.2.2.2.1 hP 0 rfl rfl 3 (by decide) (C.2.2.2.2.1 _ mw_74) (fun _ h9 => h9) rfl hd (k H locs ls hP hD hS hl)
theorem x0_get4 (C : GC p R s m args meth c A D cc nL kc ks (tysX0 E) RX0 rt) (hd : decode cc pc = .ok (.getfield 22, 3)) (k : GW p l e R s m args below meth c Q A D nL kc ks (wX0 h0 E σ) (pc + 3) lv (.ref (E.1 4) :: st)) : GW p l e R s m args below meth c Q A D nL kc ks (wX0 h0 E σ) pc lv (.ref h0 :: st) := fun H locs ls hP hD hS hl => va_get (D := D) (ci := 0) (v := .ref (E.1 4)) (C := RX0) (T := TX0) (N := 16) C.1 C.2.1 C.2.2.2.2.1 inX0 C.2.2.2.1 C.2.2.2.2.2.1 hP 0 rfl rfl 4 (by decide) (C.2.2.2.2.1 _ mw_75) (fun _ h9 => h9) rfl hd (k H locs ls hP hD hS hl)
theorem x0_get6 (C : GC p R s m args meth c A D cc nL kc ks (tysX0 E) RX0 rt) (hd : decode cc pc = .ok (.getfield 25, 3)) (k : GW p l e R s m args below meth c Q A D nL kc ks (wX0 h0 E σ) (pc + 3) lv (.ref (E.1 6) :: st)) : GW p l e R s m args below meth c Q A D nL kc ks (wX0 h0 E σ) pc lv (.ref h0 :: st) := fun H locs ls hP hD hS hl => va_get (D := D) (ci := 0) (v := .ref (E.1 6)) (C := RX0) (T := TX0) (N := 16) C.1 C.2.1 C.2.2.2.2.1 inX0 C.2.2.2.1 C.2.2.2.2.2.1 hP 0 rfl rfl 6 (by decide) (C.2.2.2.2.1 _ mw_77) (fun _ h9 => h9) rfl hd (k H locs ls hP hD hS hl)
theorem x0_get8 (C : GC p R s m args meth c A D cc nL kc ks (tysX0 E) RX0 rt) (hd : decode cc pc = .ok (.getfield 28, 3)) (k : GW p l e R s m args below meth c Q A D nL kc ks (wX0 h0 E σ) (pc + 3) lv (.int (σ.2 8) :: st)) : GW p l e R s m args below meth c Q A D nL kc ks (wX0 h0 E σ) pc lv (.ref h0 :: st) := fun H locs ls hP hD hS hl => va_get (D := D) (ci := 0) (v := .int (σ.2 8)) (C := RX0) (T := TX0) (N := 16) C.1 C.2.1 C.2.2.2.2.1 inX0 C.2.2.2.1 C.2.2.2.2.2.1 hP 0 rfl rfl 8 (by decide) (C.2.2.2.2.1 _ mw_79) (fun _ h9 => h9) rfl hd (k H locs ls hP hD hS hl)
theorem x0_put8 (C : GC p R s m args meth c A D cc nL kc ks (tysX0 E) RX0 rt) {v : Int32} (hd : decode cc pc = .ok (.putfield 28, 3)) (k : GW p l e R s m args below meth c Q A D nL kc ks (wX0 h0 E (sf σ 8 v)) (pc + 3) lv st) : GW p l e R s m args below meth c Q A D nL kc ks (wX0 h0 E σ) pc lv (.int v :: .ref h0 :: st) := fun H locs ls hP hD hS hl => va_put (D := D) (ci := 0) (v := .int v) (ty := .int) (C := RX0) (T := TX0) (N := 16) C.1 C.2.1 C.2.2.2.2.1 inX0 tyX0 tyX0_ok nmX0 C.2.2.2.1 C.2.2.2.2.2.1 hP hD hS 0 rfl rfl 8 (by decide) (C.2.2.2.2.1 _ mw_79) (fun _ h9 => h9) rfl (by decide +kernel) rfl rfl (Nat.le_of_ble_eq_true rfl) hd (fun H1 locs1 hP1 hD1 hS1 => k H1 locs1 ls hP1 hD1 hS1 hl)
theorem x0_get9 (C : GC p R s m args meth c A D cc nL kc ks (tysX0 E) RX0 rt) (hd : decode cc pc = .ok (.getfield 51, 3)) (k : GW p l e R s m args below meth c Q A D nL kc ks (wX0 h0 E σ) (pc + 3) lv (.int (σ.2 9) :: st)) : GW p l e R s m args below meth c Q A D nL kc ks (wX0 h0 E σ) pc lv (.ref h0 :: st) := fun H locs ls hP hD hS hl => va_get (D := D) (ci := 0) (v := .int (σ.2 9)) (C := RX0) (T := TX0) (N := 16) C.1 C.2.1 C.2.2.2.2.1 inX0 C.2.2.2.1 C.2.2.2.2.2.1 hP 0 rfl rfl 9 (by decide) (C.2.2.2.2.1 _ mw_80) (fun _ h9 => h9) rfl hd (k H locs ls hP hD hS hl)
theorem x0_put9 (C : GC p R s m args meth c A D cc nL kc ks (tysX0 E) RX0 rt) {v : Int32} (hv : narrow .boolean (.int v) = .int v) (hd : decode cc pc = .ok (.putfield 51, 3)) (k : GW p l e R s m args below meth c Q A D nL kc ks (wX0 h0 E (sf σ 9 v)) (pc + 3) lv st) : GW p l e R s m args below meth c Q A D nL kc ks (wX0 h0 E σ) pc lv (.int v :: .ref h0 :: st) := fun H locs ls hP hD hS hl => va_put (D := D) (ci := 0) (v := .int v) (ty := .boolean) (C := RX0) (T := TX0) (N := 16) C.1 C.2.1 C.2.2.2.2.1 inX0 tyX0 tyX0_ok nmX0 C.2.2.2.1 C.2.2.2.2.2.1 hP hD hS 0 rfl rfl 9 (by decide) (C.2.2.2.2.1 _ mw_80) (fun _ h9 => h9) rfl (by decide +kernel) hv rfl (Nat.le_of_ble_eq_true rfl) hd (fun H1 locs1 hP1 hD1 hS1 => k H1 locs1 ls hP1 hD1 hS1 hl)
theorem x0_get5 (C : GC p R s m args meth c A D cc nL kc ks (tysX0 E) RX0 rt) (hd : decode cc pc = .ok (.getfield 108, 3)) (k : GW p l e R s m args below meth c Q A D nL kc ks (wX0 h0 E σ) (pc + 3) lv (.int (σ.2 5) :: st)) : GW p l e R s m args below meth c Q A D nL kc ks (wX0 h0 E σ) pc lv (.ref h0 :: st) := fun H locs ls hP hD hS hl => va_get (D := D) (ci := 0) (v := .int (σ.2 5)) (C := RX0) (T := TX0) (N := 16) C.1 C.2.1 C.2.2.2.2.1 inX0 C.2.2.2.1 C.2.2.2.2.2.1 hP 0 rfl rfl 5 (by decide) (C.2.2.2.2.1 _ mw_76) (fun _ h9 => h9) rfl hd (k H locs ls hP hD hS hl)
theorem x0_put5 (C : GC p R s m args meth c A D cc nL kc ks (tysX0 E) RX0 rt) {v : Int32} (hd : decode cc pc = .ok (.putfield 108, 3)) (k : GW p l e R s m args below meth c Q A D nL kc ks (wX0 h0 E (sf σ 5 v)) (pc + 3) lv st) : GW p l e R s m args below meth c Q A D nL kc ks (wX0 h0 E σ) pc lv (.int v :: .ref h0 :: st) := fun H locs ls hP hD hS hl => va_put (D := D) (ci := 0) (v := .int v) (ty := .int) (C := RX0) (T := TX0) (N := 16) C.1 C.2.1 C.2.2.2.2.1 inX0 tyX0 tyX0_ok nmX0 C.2.2.2.1 C.2.2.2.2.2.1 hP hD hS 0 rfl rfl 5 (by decide) (C.2.2.2.2.1 _ mw_76) (fun _ h9 => h9) rfl (by decide +kernel) rfl rfl (Nat.le_of_ble_eq_true rfl) hd (fun H1 locs1 hP1 hD1 hS1 => k H1 locs1 ls hP1 hD1 hS1 hl)
theorem x0_get15 (C : GC p R s m args meth c A D cc nL kc ks (tysX0 E) RX0 rt) (hd : decode cc pc = .ok (.getfield 115, 3)) (k : GW p l e R s m args below meth c Q A D nL kc ks (wX0 h0 E σ) (pc + 3) lv (.int (σ.2 15) :: st)) : GW p l e R s m args below meth c Q A D nL kc ks (wX0 h0 E σ) pc lv (.ref h0 :: st) := fun H locs ls hP hD hS hl => va_get (D := D) (ci := 0) (v := .int (σ.2 15)) (C := RX0) (T := TX0) (N := 16) C.1 C.2.1 C.2.2.2.2.1 inX0 C.2.2.2.1 C.2.2.2.2.2.1 hP 0 rfl rfl 15 (by decide) (C.2.2.2.2.1 _ mw_86) (fun _ h9 => h9) rfl hd (k H locs ls hP hD hS hl)
theorem x0_put15 (C : GC p R s m args meth c A D cc nL kc ks (tysX0 E) RX0 rt) {v : Int32} (hd : decode cc pc = .ok (.putfield 115, 3)) (k : GW p l e R s m args below meth c Q A D nL kc ks (wX0 h0 E (sf σ 15 v)) (pc + 3) lv st) : GW p l e R s m args below meth c Q A D nL kc ks (wX0 h0 E σ) pc lv (.int v :: .ref h0 :: st) := fun H locs ls hP hD hS hl => va_put (D := D) (ci := 0) (v := .int v) (ty := .int) (C := RX0) (T := TX0) (N := 16) C.1 C.2.1 C.2.2.2.2.1 inX0 tyX0 tyX0_ok nmX0 C.2.2.2.1 C.2.2.2.2.2.1 hP hD hS 0 rfl rfl 15 (by decide) (C.2.2.2.2.1 _ mw_86) (fun _ h9 => h9) rfl (by decide +kernel) rfl rfl (Nat.le_of_ble_eq_true rfl) hd (fun H1 locs1 hP1 hD1 hS1 => k H1 locs1 ls hP1 hD1 hS1 hl)
theorem x0_get14 (C : GC p R s m args meth c A D cc nL kc ks (tysX0 E) RX0 rt) (hd : decode cc pc = .ok (.getfield 121, 3)) (k : GW p l e R s m args below meth c Q A D nL kc ks (wX0 h0 E σ) (pc + 3) lv (.int (σ.2 14) :: st)) : GW p l e R s m args below meth c Q A D nL kc ks (wX0 h0 E σ) pc lv (.ref h0 :: st) := fun H locs ls hP hD hS hl => va_get (D := D) (ci := 0) (v := .int (σ.2 14)) (C := RX0) (T := TX0) (N := 16) C.1 C.2.1 C.2.2.2.2.1 inX0 C.2.2.2.1 C.2.2.2.2.2.1 hP 0 rfl rfl 14 (by decide) (C.2.2.2.2.1 _ mw_85) (fun _ h9 => h9) rfl hd (k H locs ls hP hD hS hl)
theorem x0_put14 (C : GC p R s m args meth c A D cc nL kc ks (tysX0 E) RX0 rt) {v : Int32} (hd : decode cc pc = .ok (.putfield 121, 3)) (k : GW p l e R s m args below meth c Q A D nL kc ks (wX0 h0 E (sf σ 14 v)) (pc + 3) lv st) : GW p l e R s m args below meth c Q A D nL kc ks (wX0 h0 E σ) pc lv (.int v :: .ref h0 :: st) := fun H locs ls hP hD hS hl => va_put (D := D) (ci := 0) (v := .int v) (ty := .int) (C := RX0) (T := TX0) (N := 16) C.1 C.2.1 C.2.2.2.2.1 inX0 tyX0 tyX0_ok nmX0 C.2.2.2.1 C.2.2.2.2.2.1 hP hD hS 0 rfl rfl 14 (by decide) (C.2.2.2.2.1 _ mw_85) (fun _ h9 => h9) rfl (by decide +kernel) rfl rfl (Nat.le_of_ble_eq_true rfl) hd (fun H1 locs1 hP1 hD1 hS1 => k H1 locs1 ls hP1 hD1 hS1 hl)
theorem x0_get7 (C : GC p R s m args meth c A D cc nL kc ks (tysX0 E) RX0 rt) (hd : decode cc pc = .ok (.getfield 176, 3)) (k : GW p l e R s m args below meth c Q A D nL kc ks (wX0 h0 E σ) (pc + 3) lv (.int (σ.2 7) :: st)) : GW p l e R s m args below meth c Q A D nL kc ks (wX0 h0 E σ) pc lv (.ref h0 :: st) := fun H locs ls hP hD hS hl => va_get (D := D) (ci := 0) (v := .int (σ.2 7)) (C := RX0) (T := TX0) (N := 16) C.1 C.2.1 C.2.2.2.2.1 inX0 C.2.2.2.1 C.2.2.2.2.2.1 hP 0 rfl rfl 7 (by decide) (C.2.2.2.2.1 _ mw_78) (fun _ h9 => h9) rfl hd (k H locs ls hP hD hS hl)
theorem x0_put7 (C : GC p R s m args meth c A D cc nL kc ks (tysX0 E) RX0 rt) {v : Int32} (hd : decode cc pc = .ok (.putfield 176, 3)) (k : GW p l e R s m args below meth c Q A D nL kc ks (wX0 h0 E (sf σ 7 v)) (pc + 3) lv st) : GW p l e R s m args below meth c Q A D nL kc ks (wX0 h0 E σ) pc lv (.int v :: .ref h0 :: st) := fun H locs ls hP hD hS hl => va_put (D := D) (ci := 0) (v := .int v) (ty := .int) (C := RX0) (T := TX0) (N := 16) C.1 C.2.1 C.2.2.2.2.1 inX0 tyX0 tyX0_ok nmX0 C.2.2.2.1 C.2.2.2.2.2.1 hP hD hS 0 rfl rfl 7 (by decide) (C.2.2.2.2.1 _ mw_78) (fun _ h9 => h9) rfl (by decide +kernel) rfl rfl (Nat.le_of_ble_eq_true rfl) hd (fun H1 locs1 hP1 hD1 hS1 => k H1 locs1 ls hP1 hD1 hS1 hl)
theorem x0_get10 (C : GC p R s m args meth c A D cc nL kc ks (tysX0 E) RX0 rt) (hd : decode cc pc = .ok (.getfield 205, 3)) (k : GW p l e R s m args below meth c Q A D nL kc ks (wX0 h0 E σ) (pc + 3) lv (.int (σ.2 10) :: st)) : GW p l e R s m args below meth c Q A D nL kc ks (wX0 h0 E σ) pc lv (.ref h0 :: st) := fun H locs ls hP hD hS hl => va_get (D := D) (ci := 0) (v := .int (σ.2 10)) (C := RX0) (T := TX0) (N := 16) C.1 C.2.1 C.2.2.2.2.1 inX0 C.2.2.2.1 C.2.2.2.2.2.1 hP 0 rfl rfl 10 (by decide) (C.2.2.2.2.1 _ mw_81) (fun _ h9 => h9) rfl hd (k H locs ls hP hD hS hl)
theorem x0_put10 (C : GC p R s m args meth c A D cc nL kc ks (tysX0 E) RX0 rt) {v : Int32} (hd : decode cc pc = .ok (.putfield 205, 3)) (k : GW p l e R s m args below meth c Q A D nL kc ks (wX0 h0 E (sf σ 10 v)) (pc + 3) lv st) : GW p l e R s m args below meth c Q A D nL kc ks (wX0 h0 E σ) pc lv (.int v :: .ref h0 :: st) := fun H locs ls hP hD hS hl => va_put (D := D) (ci := 0) (v := .int v) (ty := .int) (C := RX0) (T := TX0) (N := 16) C.1 C.2.1 C.2.2.2.2.1 inX0 tyX0 tyX0_ok nmX0 C.2.2.2.1 C.2.2.2.2.2.1 hP hD hS 0 rfl rfl 10 (by decide) (C.2.2.2.2.1 _ mw_81) (fun _ h9 => h9) rfl (by decide +kernel) rfl rfl (Nat.le_of_ble_eq_true rfl) hd (fun H1 locs1 hP1 hD1 hS1 => k H1 locs1 ls hP1 hD1 hS1 hl)
theorem x0_get11 (C : GC p R s m args meth c A D cc nL kc ks (tysX0 E) RX0 rt) (hd : decode cc pc = .ok (.getfield 208, 3)) (k : GW p l e R s m args below meth c Q A D nL kc ks (wX0 h0 E σ) (pc + 3) lv (.int (σ.2 11) :: st)) : GW p l e R s m args below meth c Q A D nL kc ks (wX0 h0 E σ) pc lv (.ref h0 :: st) := fun H locs ls hP hD hS hl => va_get (D := D) (ci := 0) (v := .int (σ.2 11)) (C := RX0) (T := TX0) (N := 16) C.1 C.2.1 C.2.2.2.2.1 inX0 C.2.2.2.1 C.2.2.2.2.2.1 hP 0 rfl rfl 11 (by decide) (C.2.2.2.2.1 _ mw_82) (fun _ h9 => h9) rfl hd (k H locs ls hP hD hS hl)
theorem x0_put11 (C : GC p R s m args meth c A D cc nL kc ks (tysX0 E) RX0 rt) {v : Int32} (hd : decode cc pc = .ok (.putfield 208, 3)) (k : GW p l e R s m args below meth c Q A D nL kc ks (wX0 h0 E (sf σ 11 v)) (pc + 3) lv st) : GW p l e R s m args below meth c Q A D nL kc ks (wX0 h0 E σ) pc lv (.int v :: .ref h0 :: st) := fun H locs ls hP hD hS hl => va_put (D := D) (ci := 0) (v := .int v) (ty := .int) (C := RX0) (T := TX0) (N := 16) C.1 C.2.1 C.2.2.2.2.1 inX0 tyX0 tyX0_ok nmX0 C.2.2.2.1 C.2.2.2.2.2.1 hP hD hS 0 rfl rfl 11 (by decide) (C.2.2.2.2.1 _ mw_82) (fun _ h9 => h9) rfl (by decide +kernel) rfl rfl (Nat.le_of_ble_eq_true rfl) hd (fun H1 locs1 hP1 hD1 hS1 => k H1 locs1 ls hP1 hD1 hS1 hl)
theorem x0_get12 (C : GC p R s m args meth c A D cc nL kc ks (tysX0 E) RX0 rt) (hd : decode cc pc = .ok (.getfield 211, 3)) (k : GW p l e R s m args below meth c Q A D nL kc ks (wX0 h0 E σ) (pc + 3) lv (.int (σ.2 12) :: st)) : GW p l e R s m args below meth c Q A D nL kc ks (wX0 h0 E σ) pc lv (.ref h0 :: st) := fun H locs ls hP hD hS hl => va_get (D := D) (ci := 0) (v := .int (σ.2 12)) (C := RX0) (T := TX0) (N := 16) C.1 C.2.1 C.2.2.2.2.1 inX0 C.2.2.2.1 C.2.2.2.2.2.1 hP 0 rfl rfl 12 (by decide) (C.2.2.2.2.1 _ mw_83) (fun _ h9 => h9) rfl hd (k H locs ls hP hD hS hl)
theorem x0_put12 (C : GC p R s m args meth c A D cc nL kc ks (tysX0 E) RX0 rt) {v : Int32} (hd : decode cc pc = .ok (.putfield 211, 3)) (k : GW p l e R s m args below meth c Q A D nL kc ks (wX0 h0 E (sf σ 12 v)) (pc + 3) lv st) : GW p l e R s m args below meth c Q A D nL kc ks (wX0 h0 E σ) pc lv (.int v :: .ref h0 :: st) := fun H locs ls hP hD hS hl => va_put (D := D) (ci := 0) (v := .int v) (ty := .int) (C := RX0) (T := TX0) (N := 16) C.1 C.2.1 C.2.2.2.2.1 inX0 tyX0 tyX0_ok nmX0 C.2.2.2.1 C.2.2.2.2.2.1 hP hD hS 0 rfl rfl 12 (by decide) (C.2.2.2.2.1 _ mw_83) (fun _ h9 => h9) rfl (by decide +kernel) rfl rfl (Nat.le_of_ble_eq_true rfl) hd (fun H1 locs1 hP1 hD1 hS1 => k H1 locs1 ls hP1 hD1 hS1 hl)
theorem x0_get13 (C : GC p R s m args meth c A D cc nL kc ks (tysX0 E) RX0 rt) (hd : decode cc pc = .ok (.getfield 214, 3)) (k : GW p l e R s m args below meth c Q A D nL kc ks (wX0 h0 E σ) (pc + 3) lv (.int (σ.2 13) :: st)) : GW p l e R s m args below meth c Q A D nL kc ks (wX0 h0 E σ) pc lv (.ref h0 :: st) := fun H locs ls hP hD hS hl => va_get (D := D) (ci := 0) (v := .int (σ.2 13)) (C := RX0) (T := TX0) (N := 16) C.1 C.2.1 C.2.2.2.2.1 inX0 C.2.2.2.1 C.2.2.2.2.2.1 hP 0 rfl rfl 13 (by decide) (C.2.2.2.2.1 _ mw_84) (fun _ h9 => h9) rfl hd (k H locs ls hP hD hS hl)
theorem x0_put13 (C : GC p R s m args meth c A D cc nL kc ks (tysX0 E) RX0 rt) {v : Int32} (hd : decode cc pc = .ok (.putfield 214, 3)) (k : GW p l e R s m args below meth c Q A D nL kc ks (wX0 h0 E (sf σ 13 v)) (pc + 3) lv st) : GW p l e R s m args below meth c Q A D nL kc ks (wX0 h0 E σ) pc lv (.int v :: .ref h0 :: st) := fun H locs ls hP hD hS hl => va_put (D := D) (ci := 0) (v := .int v) (ty := .int) (C := RX0) (T := TX0) (N := 16) C.1 C.2.1 C.2.2.2.2.1 inX0 tyX0 tyX0_ok nmX0 C.2.2.2.1 C.2.2.2.2.2.1 hP hD hS 0 rfl rfl 13 (by decide) (C.2.2.2.2.1 _ mw_84) (fun _ h9 => h9) rfl (by decide +kernel) rfl rfl (Nat.le_of_ble_eq_true rfl) hd (fun H1 locs1 hP1 hD1 hS1 => k H1 locs1 ls hP1 hD1 hS1 hl)
theorem x0_ld0 (C : GC p R s m args meth c A D cc nL kc ks (tysX0 E) RX0 rt) {i : Int32} (hd : decode cc pc = .ok (.iaload, 1)) (k : t = some z → GW p l e R s m args below meth c Q A D nL kc ks (wX0 h0 E σ) (pc + 1) lv (.int (σ.1 0 i.toNatClampNeg) :: st)) (hF : gD i 192 t = some z) : GW p l e R s m args below meth c Q A D nL kc ks (wX0 h0 E σ) pc lv (.int i :: .ref (E.1 0) :: st) := fun H locs ls hP hD hS hl => va_iald (D := D) (n := 192) (f := σ.1 0) C.1 C.2.1 C.2.2.2.2.2.1 hP 1 0 rfl rfl (gD_some hF).1 hd (k (gD_some hF).2 H locs ls hP hD hS hl)
theorem x0_st0 (C : GC p R s m args meth c A D cc nL kc ks (tysX0 E) RX0 rt) {i x : Int32} (hd : decode cc pc = .ok (.iastore, 1)) (k : t = some z → GW p l e R s m args below meth c Q A D nL kc ks (wX0 h0 E (sa σ 0 i.toNatClampNeg x)) (pc + 1) lv st) (hF : gD i 192 t = some z) : GW p l e R s m args below meth c Q A D nL kc ks (wX0 h0 E σ) pc lv (.int x :: .int i :: .ref (E.1 0) :: st) := fun H locs ls hP hD hS hl => va_iast (D := D) (n := 192) (f := σ.1 0) C.1 C.2.1 C.2.2.2.2.2.1 hP hD hS 1 0 rfl rfl (gD_some hF).1 hd (fun H1 locs1 hP1 hD1 hS1 => k (gD_some hF).2 H1 locs1 ls hP1 hD1 hS1 hl)
theorem x0_len0 (C : GC p R s m args meth c A D cc nL kc ks (tysX0 E) RX0 rt) (hd : decode cc pc = .ok (.arraylength, 1)) (k : GW p l e R s m args below meth c Q A D nL kc ks (wX0 h0 E σ) (pc + 1) lv (.int (nI 192) :: st)) : GW p l e R s m args below meth c Q A D nL kc ks (wX0 h0 E σ) pc lv (.ref (E.1 0) :: st) := fun H locs ls hP hD hS hl => va_alen (D := D) C.1 C.2.1 C.2.2.2.2.2.1 hP 1 0 rfl rfl rfl hd (k H locs ls hP hD hS hl)
theorem x0_ld1 (C : GC p R s m args meth c A D cc nL kc ks (tysX0 E) RX0 rt) {i : Int32} (hd : decode cc pc = .ok (.iaload, 1)) (k : t = some z → GW p l e R s m args below meth c Q A D nL kc ks (wX0 h0 E σ) (pc + 1) lv (.int (σ.1 1 i.toNatClampNeg) :: st)) (hF : gD i 48 t = some z) : GW p l e R s m args below meth c Q A D nL kc ks (wX0 h0 E σ) pc lv (.int i :: .ref (E.1 1) :: st) := fun H locs ls hP hD hS hl => va_iald (D := D) (n := 48) (f := σ.1 1) C.1 C.2.1 C.2.2.2.2.2.1 hP 2 1 rfl rfl (gD_some hF).1 hd (k (gD_some hF).2 H locs ls hP hD hS hl)
theorem x0_st1 (C : GC p R s m args meth c A D cc nL kc ks (tysX0 E) RX0 rt) {i x : Int32} (hd : decode cc pc = .ok (.iastore, 1)) (k : t = some z → GW p l e R s m args below meth c Q A D nL kc ks (wX0 h0 E (sa σ 1 i.toNatClampNeg x)) (pc + 1) lv st) (hF : gD i 48 t = some z) : GW p l e R s m args below meth c Q A D nL kc ks (wX0 h0 E σ) pc lv (.int x :: .int i :: .ref (E.1 1) :: st) := fun H locs ls hP hD hS hl => va_iast (D := D) (n := 48) (f := σ.1 1) C.1 C.2.1 C.2.2.2.2.2.1 hP hD hS 2 1 rfl rfl (gD_some hF).1 hd (fun H1 locs1 hP1 hD1 hS1 => k (gD_some hF).2 H1 locs1 ls hP1 hD1 hS1 hl)
theorem x0_len1 (C : GC p R s m args meth c A D cc nL kc ks (tysX0 E) RX0 rt) (hd : decode cc pc = .ok (.arraylength, 1)) (k : GW p l e R s m args below meth c Q A D nL kc ks (wX0 h0 E σ) (pc + 1) lv (.int (nI 48) :: st)) : GW p l e R s m args below meth c Q A D nL kc ks (wX0 h0 E σ) pc lv (.ref (E.1 1) :: st) := fun H locs ls hP hD hS hl => va_alen (D := D) C.1 C.2.1 C.2.2.2.2.2.1 hP 2 1 rfl rfl rfl hd (k H locs ls hP hD hS hl)
theorem x0_ld2 (C : GC p R s m args meth c A D cc nL kc ks (tysX0 E) RX0 rt) {i : Int32} (hd : decode cc pc = .ok (.iaload, 1)) (k : t = some z → GW p l e R s m args below meth c Q A D nL kc ks (wX0 h0 E σ) (pc + 1) lv (.int (σ.1 2 i.toNatClampNeg) :: st)) (hF : gD i 96 t = some z) : GW p l e R s m args below meth c Q A D nL kc ks (wX0 h0 E σ) pc lv (.int i :: .ref (E.1 2) :: st) := fun H locs ls hP hD hS hl => va_iald (D := D) (n := 96) (f := σ.1 2) C.1 C.2.1 C.2.2.2.2.2.1 hP 3 2 rfl rfl (gD_some hF).1 hd (k (gD_some hF).2 H locs ls hP hD hS hl)
theorem x0_st2 (C : GC p R s m args meth c A D cc nL kc ks (tysX0 E) RX0 rt) {i x : Int32} (hd : decode cc pc = .ok (.iastore, 1)) (k : t = some z → GW p l e R s m args below meth c Q A D nL kc ks (wX0 h0 E (sa σ 2 i.toNatClampNeg x)) (pc + 1) lv st) (hF : gD i 96 t = some z) : GW p l e R s m args below meth c Q A D nL kc ks (wX0 h0 E σ) pc lv (.int x :: .int i :: .ref (E.1 2) :: st) := fun H locs ls hP hD hS hl => va_iast (D := D) (n := 96) (f := σ.1 2) C.1 C.2.1 C.2.2.2.2.2.1 hP hD hS 3 2 rfl rfl (gD_some hF).1 hd (fun H1 locs1 hP1 hD1 hS1 => k (gD_some hF).2 H1 locs1 ls hP1 hD1 hS1 hl)
theorem x0_len2 (C : GC p R s m args meth c A D cc nL kc ks (tysX0 E) RX0 rt) (hd : decode cc pc = .ok (.arraylength, 1)) (k : GW p l e R s m args below meth c Q A D nL kc ks (wX0 h0 E σ) (pc + 1) lv (.int (nI 96) :: st)) : GW p l e R s m args below meth c Q A D nL kc ks (wX0 h0 E σ) pc lv (.ref (E.1 2) :: st) := fun H locs ls hP hD hS hl => va_alen (D := D) C.1 C.2.1 C.2.2.2.2.2.1 hP 3 2 rfl rfl rfl hd (k H locs ls hP hD hS hl)
theorem x0_ld3 (C : GC p R s m args meth c A D cc nL kc ks (tysX0 E) RX0 rt) {i : Int32} (hd : decode cc pc = .ok (.iaload, 1)) (k : t = some z → GW p l e R s m args below meth c Q A D nL kc ks (wX0 h0 E σ) (pc + 1) lv (.int (σ.1 3 i.toNatClampNeg) :: st)) (hF : gD i 4 t = some z) : GW p l e R s m args below meth c Q A D nL kc ks (wX0 h0 E σ) pc lv (.int i :: .ref (E.1 3) :: st) := fun H locs ls hP hD hS hl => va_iald (D := D) (n := 4) (f := σ.1 3) C.1 C.2.1 C.2.2.2.2.2.1 hP 4 3 rfl rfl (gD_some hF).1 hd (k (gD_some hF).2 H locs ls hP hD hS hl)
theorem x0_st3 (C : GC p R s m args meth c A D cc nL kc ks (tysX0 E) RX0 rt) {i x : Int32} (hd : decode cc pc = .ok (.iastore, 1)) (k : t = some z → GW p l e R s m args below meth c Q A D nL kc ks (wX0 h0 E (sa σ 3 i.toNatClampNeg x)) (pc + 1) lv st) (hF : gD i 4 t = some z) : GW p l e R s m args below meth c Q A D nL kc ks (wX0 h0 E σ) pc lv (.int x :: .int i :: .ref (E.1 3) :: st) := fun H locs ls hP hD hS hl => va_iast (D := D) (n := 4) (f := σ.1 3) C.1 C.2.1 C.2.2.2.2.2.1 hP hD hS 4 3 rfl rfl (gD_some hF).1 hd (fun H1 locs1 hP1 hD1 hS1 => k (gD_some hF).2 H1 locs1 ls hP1 hD1 hS1 hl)
theorem x0_len3 (C : GC p R s m args meth c A D cc nL kc ks (tysX0 E) RX0 rt) (hd : decode cc pc = .ok (.arraylength, 1)) (k : GW p l e R s m args below meth c Q A D nL kc ks (wX0 h0 E σ) (pc + 1) lv (.int (nI 4) :: st)) : GW p l e R s m args below meth c Q A D nL kc ks (wX0 h0 E σ) pc lv (.ref (E.1 3) :: st) := fun H locs ls hP hD hS hl => va_alen (D := D) C.1 C.2.1 C.2.2.2.2.2.1 hP 4 3 rfl rfl rfl hd (k H locs ls hP hD hS hl)
theorem x0_ld4 (C : GC p R s m args meth c A D cc nL kc ks (tysX0 E) RX0 rt) {i : Int32} (hd : decode cc pc = .ok (.iaload, 1)) (k : t = some z → GW p l e R s m args below meth c Q A D nL kc ks (wX0 h0 E σ) (pc + 1) lv (.int (σ.1 4 i.toNatClampNeg) :: st)) (hF : gD i 24 t = some z) : GW p l e R s m args below meth c Q A D nL kc ks (wX0 h0 E σ) pc lv (.int i :: .ref (E.1 4) :: st) := fun H locs ls hP hD hS hl => va_iald (D := D) (n := 24) (f := σ.1 4) C.1 C.2.1 C.2.2.2.2.2.1 hP 5 4 rfl rfl (gD_some hF).1 hd (k (gD_some hF).2 H locs ls hP hD hS hl)
theorem x0_st4 (C : GC p R s m args meth c A D cc nL kc ks (tysX0 E) RX0 rt) {i x : Int32} (hd : decode cc pc = .ok (.iastore, 1)) (k : t = some z → GW p l e R s m args below meth c Q A D nL kc ks (wX0 h0 E (sa σ 4 i.toNatClampNeg x)) (pc + 1) lv st) (hF : gD i 24 t = some z) : GW p l e R s m args below meth c Q A D nL kc ks (wX0 h0 E σ) pc lv (.int x :: .int i :: .ref (E.1 4) :: st) := fun H locs ls hP hD hS hl => va_iast (D := D) (n := 24) (f := σ.1 4) C.1 C.2.1 C.2.2.2.2.2.1 hP hD hS 5 4 rfl rfl (gD_some hF).1 hd (fun H1 locs1 hP1 hD1 hS1 => k (gD_some hF).2 H1 locs1 ls hP1 hD1 hS1 hl)
theorem x0_len4 (C : GC p R s m args meth c A D cc nL kc ks (tysX0 E) RX0 rt) (hd : decode cc pc = .ok (.arraylength, 1)) (k : GW p l e R s m args below meth c Q A D nL kc ks (wX0 h0 E σ) (pc + 1) lv (.int (nI 24) :: st)) : GW p l e R s m args below meth c Q A D nL kc ks (wX0 h0 E σ) pc lv (.ref (E.1 4) :: st) := fun H locs ls hP hD hS hl => va_alen (D := D) C.1 C.2.1 C.2.2.2.2.2.1 hP 5 4 rfl rfl rfl hd (k H locs ls hP hD hS hl)
theorem x0_ld6 (C : GC p R s m args meth c A D cc nL kc ks (tysX0 E) RX0 rt) {i : Int32} (hd : decode cc pc = .ok (.iaload, 1)) (k : t = some z → GW p l e R s m args below meth c Q A D nL kc ks (wX0 h0 E σ) (pc + 1) lv (.int (σ.1 6 i.toNatClampNeg) :: st)) (hF : gD i 48 t = some z) : GW p l e R s m args below meth c Q A D nL kc ks (wX0 h0 E σ) pc lv (.int i :: .ref (E.1 6) :: st) := fun H locs ls hP hD hS hl => va_iald (D := D) (n := 48) (f := σ.1 6) C.1 C.2.1 C.2.2.2.2.2.1 hP 6 5 rfl rfl (gD_some hF).1 hd (k (gD_some hF).2 H locs ls hP hD hS hl)
theorem x0_st6 (C : GC p R s m args meth c A D cc nL kc ks (tysX0 E) RX0 rt) {i x : Int32} (hd : decode cc pc = .ok (.iastore, 1)) (k : t = some z → GW p l e R s m args below meth c Q A D nL kc ks (wX0 h0 E (sa σ 6 i.toNatClampNeg x)) (pc + 1) lv st) (hF : gD i 48 t = some z) : GW p l e R s m args below meth c Q A D nL kc ks (wX0 h0 E σ) pc lv (.int x :: .int i :: .ref (E.1 6) :: st) := fun H locs ls hP hD hS hl => va_iast (D := D) (n := 48) (f := σ.1 6) C.1 C.2.1 C.2.2.2.2.2.1 hP hD hS 6 5 rfl rfl (gD_some hF).1 hd (fun H1 locs1 hP1 hD1 hS1 => k (gD_some hF).2 H1 locs1 ls hP1 hD1 hS1 hl)
theorem x0_len6 (C : GC p R s m args meth c A D cc nL kc ks (tysX0 E) RX0 rt) (hd : decode cc pc = .ok (.arraylength, 1)) (k : GW p l e R s m args below meth c Q A D nL kc ks (wX0 h0 E σ) (pc + 1) lv (.int (nI 48) :: st)) : GW p l e R s m args below meth c Q A D nL kc ks (wX0 h0 E σ) pc lv (.ref (E.1 6) :: st) := fun H locs ls hP hD hS hl => va_alen (D := D) C.1 C.2.1 C.2.2.2.2.2.1 hP 6 5 rfl rfl rfl hd (k H locs ls hP hD hS hl)
theorem x0_iret (C : GC p R s m args meth c A D cc nL 0 0 (tysX0 E) RX0 rt) (hr : rt = some .int) {v r : Int32} (hd : decode cc pc = .ok (.ireturn, 1)) (hF : some (v, σ) = some (r, σ2)) : GW p l e R s m args below meth c (QI D (wX0 h0 E σ2) r A below args s) A D nL 0 0 (wX0 h0 E σ) pc lv [.int v] := by
  cases hF; exact g_iret C hr hd
theorem x0_zret (C : GC p R s m args meth c A D cc nL 0 0 (tysX0 E) RX0 rt) (hr : rt = some .boolean) {v r : Int32} (hn : narrow .boolean (.int v) = .int v) (hd : decode cc pc = .ok (.ireturn, 1)) (hF : some (v, σ) = some (r, σ2)) : GW p l e R s m args below meth c (QI D (wX0 h0 E σ2) r A below args s) A D nL 0 0 (wX0 h0 E σ) pc lv [.int v] := by
  cases hF; exact g_zret C hr hn hd
theorem x0_vret (C : GC p R s m args meth c A D cc nL 0 0 (tysX0 E) RX0 rt) (hr : rt = none) {v r : Int32} (hd : decode cc pc = .ok (.return_, 1)) (hF : some (v, σ) = some (r, σ2)) : GW p l e R s m args below meth c (QV D (wX0 h0 E σ2) A below args s) A D nL 0 0 (wX0 h0 E σ) pc lv [] := by
  cases hF; exact g_vret C hr hd
end LAY0
def wX1 (h0 : Nat) (E : EX) (σ : SX) : va_W := [(h0, .inr (1, [.ref (E.1 0), .ref (E.1 1), .ref (E.1 2), .int (σ.2 3), .int (σ.2 4), .ref (E.1 5), .ref (E.1 6), .int (σ.2 7), .ref (E.1 8), .int (σ.2 9), .int (σ.2 10), .int (σ.2 11), .int (σ.2 12), .int (σ.2 13), .int (σ.2 14), .int (σ.2 15), .int (σ.2 16)])), (E.1 0, .inl (E.2 0, 192, .inl (σ.1 0))), (E.1 1, .inl (E.2 1, 4, .inl (σ.1 1))), (E.1 2, .inl (E.2 2, 96, .inl (σ.1 2))), (E.1 5, .inl (E.2 5, 24, .inl (σ.1 5))), (E.1 6, .inl (E.2 6, 48, .inl (σ.1 6))), (E.1 8, .inl (E.2 8, 24, .inl (σ.1 8)))]
def tysX1 (E : EX) : List (ClassId × FieldType) := [(E.2 0, .int), (E.2 1, .int), (E.2 2, .int), (E.2 5, .int), (E.2 6, .boolean), (E.2 8, .int)]
section LAY1
variable {p : Program} {l : Launch} {e : Env} {R : Room} {s : State} {m : MethodId} {args : Array Value} {below : List Frame} {meth : Method} {c : Code} {Q : State → Prop} {A : Nat → Prop} {D : va_G} {cc : ByteArray} {nL kc ks : Nat} {pc : Nat} {lv : List (Nat × Value)} {st : List Value} {rt : Option FieldType} {h0 : Nat} {E : EX} {σ σ2 : SX} {α : Type} {z : α} {t : Option α}
theorem x1_get0 (C : GC p R s m args meth c A D cc nL kc ks (tysX1 E) RX1 rt) (hd : decode cc pc = .ok (.getfield 7, 3)) (k : GW p l e R s m args below meth c Q A D nL kc ks (wX1 h0 E σ) (pc + 3) lv (.ref (E.1 0) :: st)) : GW p l e R s m args below meth c Q A D nL kc ks (wX1 h0 E σ) pc lv (.ref h0 :: st) := fun H locs ls hP hD hS hl => va_get (D := D) (ci := 1) (v := .ref (E.1 0)) (C := RX1) (T := TX1) (N := 17) C.1 C.2.1 C.2.2.2.2.1 inX1 C.2.2.2.1 C.2.2.2.2.2.1 hP 0 rfl rfl 0 (by decide) (C.2.2.2.2.1 _ mw_370) (fun _ h9 => h9) rfl hd (k H locs ls hP hD hS hl)
theorem x1_get1 (C : GC p R s m args meth c A D cc nL kc ks (tysX1 E) RX1 rt) (hd : decode cc pc = .ok (.getfield 13, 3)) (k : GW p l e R s m args below meth c Q A D nL kc ks (wX1 h0 E σ) (pc + 3) lv (.ref (E.1 1) :: st)) : GW p l e R s m args below meth c Q A D nL kc ks (wX1 h0 E σ) pc lv (.ref h0 :: st) := fun H locs ls hP hD hS hl => va_get (D := D) (ci := 1) (v := .ref (E.1 1)) (C := RX1) (T := TX1) (N := 17) C.1 C.2.1 C.2.2.2.2.1 inX1 C.2.2.2.1 C.2.2.2.2.2.1 hP 0 rfl rfl 1 (by decide) (C.2.2.2.2.1 _ mw_371) (fun _ h9 => h9) rfl hd (k H locs ls hP hD hS hl)
theorem x1_get2 (C : GC p R s m args meth c A D cc nL kc ks (tysX1 E) RX1 rt) (hd : decode cc pc = .ok (.getfield 16, 3)) (k : GW p l e R s m args below meth c Q A D nL kc ks (wX1 h0 E σ) (pc + 3) lv (.ref (E.1 2) :: st)) : GW p l e R s m args below meth c Q A D nL kc ks (wX1 h0 E σ) pc lv (.ref h0 :: st) := fun H locs ls hP hD hS hl => va_get (D := D) (ci := 1) (v := .ref (E.1 2)) (C := RX1) (T := TX1) (N := 17) C.1 C.2.1 C.2.2.2.2.1 inX1 C.2.2.2.1 C.2.2.2.2.2.1 hP 0 rfl rfl 2 (by decide) (C.2.2.2.2.1 _ mw_372) (fun _ h9 => h9) rfl hd (k H locs ls hP hD hS hl)
theorem x1_get5 (C : GC p R s m args meth c A D cc nL kc ks (tysX1 E) RX1 rt) (hd : decode cc pc = .ok (.getfield 19, 3)) (k : GW p l e R s m args below meth c Q A D nL kc ks (wX1 h0 E σ) (pc + 3) lv (.ref (E.1 5) :: st)) : GW p l e R s m args below meth c Q A D nL kc ks (wX1 h0 E σ) pc lv (.ref h0 :: st) := fun H locs ls hP hD hS hl => va_get (D := D) (ci := 1) (v := .ref (E.1 5)) (C := RX1) (T := TX1) (N := 17) C.1 C.2.1 C.2.2.2.2.1 inX1 C.2.2.2.1 C.2.2.2.2.2.1 hP 0 rfl rfl 5 (by decide) (C.2.2.2.2.1 _ mw_375) (fun _ h9 => h9) rfl hd (k H locs ls hP hD hS hl)
theorem x1_get6 (C : GC p R s m args meth c A D cc nL kc ks (tysX1 E) RX1 rt) (hd : decode cc pc = .ok (.getfield 22, 3)) (k : GW p l e R s m args below meth c Q A D nL kc ks (wX1 h0 E σ) (pc + 3) lv (.ref (E.1 6) :: st)) : GW p l e R s m args below meth c Q A D nL kc ks (wX1 h0 E σ) pc lv (.ref h0 :: st) := fun H locs ls hP hD hS hl => va_get (D := D) (ci := 1) (v := .ref (E.1 6)) (C := RX1) (T := TX1) (N := 17) C.1 C.2.1 C.2.2.2.2.1 inX1 C.2.2.2.1 C.2.2.2.2.2.1 hP 0 rfl rfl 6 (by decide) (C.2.2.2.2.1 _ mw_376) (fun _ h9 => h9) rfl hd (k H locs ls hP hD hS hl)
theorem x1_get8 (C : GC p R s m args meth c A D cc nL kc ks (tysX1 E) RX1 rt) (hd : decode cc pc = .ok (.getfield 26, 3)) (k : GW p l e R s m args below meth c Q A D nL kc ks (wX1 h0 E σ) (pc + 3) lv (.ref (E.1 8) :: st)) : GW p l e R s m args below meth c Q A D nL kc ks (wX1 h0 E σ) pc lv (.ref h0 :: st) := fun H locs ls hP hD hS hl => va_get (D := D) (ci := 1) (v := .ref (E.1 8)) (C := RX1) (T := TX1) (N := 17) C.1 C.2.1 C.2.2.2.2.1 inX1 C.2.2.2.1 C.2.2.2.2.2.1 hP 0 rfl rfl 8 (by decide) (C.2.2.2.2.1 _ mw_378) (fun _ h9 => h9) rfl hd (k H locs ls hP hD hS hl)
theorem x1_get10 (C : GC p R s m args meth c A D cc nL kc ks (tysX1 E) RX1 rt) (hd : decode cc pc = .ok (.getfield 29, 3)) (k : GW p l e R s m args below meth c Q A D nL kc ks (wX1 h0 E σ) (pc + 3) lv (.int (σ.2 10) :: st)) : GW p l e R s m args below meth c Q A D nL kc ks (wX1 h0 E σ) pc lv (.ref h0 :: st) := fun H locs ls hP hD hS hl => va_get (D := D) (ci := 1) (v := .int (σ.2 10)) (C := RX1) (T := TX1) (N := 17) C.1 C.2.1 C.2.2.2.2.1 inX1 C.2.2.2.1 C.2.2.2.2.2.1 hP 0 rfl rfl 10 (by decide) (C.2.2.2.2.1 _ mw_380) (fun _ h9 => h9) rfl hd (k H locs ls hP hD hS hl)
theorem x1_put10 (C : GC p R s m args meth c A D cc nL kc ks (tysX1 E) RX1 rt) {v : Int32} (hd : decode cc pc = .ok (.putfield 29, 3)) (k : GW p l e R s m args below meth c Q A D nL kc ks (wX1 h0 E (sf σ 10 v)) (pc + 3) lv st) : GW p l e R s m args below meth c Q A D nL kc ks (wX1 h0 E σ) pc lv (.int v :: .ref h0 :: st) := fun H locs ls hP hD hS hl => va_put (D := D) (ci := 1) (v := .int v) (ty := .int) (C := RX1) (T := TX1) (N := 17) C.1 C.2.1 C.2.2.2.2.1 inX1 tyX1 tyX1_ok nmX1 C.2.2.2.1 C.2.2.2.2.2.1 hP hD hS 0 rfl rfl 10 (by decide) (C.2.2.2.2.1 _ mw_380) (fun _ h9 => h9) rfl (by decide +kernel) rfl rfl (Nat.le_of_ble_eq_true rfl) hd (fun H1 locs1 hP1 hD1 hS1 => k H1 locs1 ls hP1 hD1 hS1 hl)
theorem x1_get4 (C : GC p R s m args meth c A D cc nL kc ks (tysX1 E) RX1 rt) (hd : decode cc pc = .ok (.getfield 51, 3)) (k : GW p l e R s m args below meth c Q A D nL kc ks (wX1 h0 E σ) (pc + 3) lv (.int (σ.2 4) :: st)) : GW p l e R s m args below meth c Q A D nL kc ks (wX1 h0 E σ) pc lv (.ref h0 :: st) := fun H locs ls hP hD hS hl => va_get (D := D) (ci := 1) (v := .int (σ.2 4)) (C := RX1) (T := TX1) (N := 17) C.1 C.2.1 C.2.2.2.2.1 inX1 C.2.2.2.1 C.2.2.2.2.2.1 hP 0 rfl rfl 4 (by decide) (C.2.2.2.2.1 _ mw_374) (fun _ h9 => h9) rfl hd (k H locs ls hP hD hS hl)
theorem x1_put4 (C : GC p R s m args meth c A D cc nL kc ks (tysX1 E) RX1 rt) {v : Int32} (hd : decode cc pc = .ok (.putfield 51, 3)) (k : GW p l e R s m args below meth c Q A D nL kc ks (wX1 h0 E (sf σ 4 v)) (pc + 3) lv st) : GW p l e R s m args below meth c Q A D nL kc ks (wX1 h0 E σ) pc lv (.int v :: .ref h0 :: st) := fun H locs ls hP hD hS hl => va_put (D := D) (ci := 1) (v := .int v) (ty := .int) (C := RX1) (T := TX1) (N := 17) C.1 C.2.1 C.2.2.2.2.1 inX1 tyX1 tyX1_ok nmX1 C.2.2.2.1 C.2.2.2.2.2.1 hP hD hS 0 rfl rfl 4 (by decide) (C.2.2.2.2.1 _ mw_374) (fun _ h9 => h9) rfl (by decide +kernel) rfl rfl (Nat.le_of_ble_eq_true rfl) hd (fun H1 locs1 hP1 hD1 hS1 => k H1 locs1 ls hP1 hD1 hS1 hl)
theorem x1_get7 (C : GC p R s m args meth c A D cc nL kc ks (tysX1 E) RX1 rt) (hd : decode cc pc = .ok (.getfield 61, 3)) (k : GW p l e R s m args below meth c Q A D nL kc ks (wX1 h0 E σ) (pc + 3) lv (.int (σ.2 7) :: st)) : GW p l e R s m args below meth c Q A D nL kc ks (wX1 h0 E σ) pc lv (.ref h0 :: st) := fun H locs ls hP hD hS hl => va_get (D := D) (ci := 1) (v := .int (σ.2 7)) (C := RX1) (T := TX1) (N := 17) C.1 C.2.1 C.2.2.2.2.1 inX1 C.2.2.2.1 C.2.2.2.2.2.1 hP 0 rfl rfl 7 (by decide) (C.2.2.2.2.1 _ mw_377) (fun _ h9 => h9) rfl hd (k H locs ls hP hD hS hl)
theorem x1_put7 (C : GC p R s m args meth c A D cc nL kc ks (tysX1 E) RX1 rt) {v : Int32} (hd : decode cc pc = .ok (.putfield 61, 3)) (k : GW p l e R s m args below meth c Q A D nL kc ks (wX1 h0 E (sf σ 7 v)) (pc + 3) lv st) : GW p l e R s m args below meth c Q A D nL kc ks (wX1 h0 E σ) pc lv (.int v :: .ref h0 :: st) := fun H locs ls hP hD hS hl => va_put (D := D) (ci := 1) (v := .int v) (ty := .int) (C := RX1) (T := TX1) (N := 17) C.1 C.2.1 C.2.2.2.2.1 inX1 tyX1 tyX1_ok nmX1 C.2.2.2.1 C.2.2.2.2.2.1 hP hD hS 0 rfl rfl 7 (by decide) (C.2.2.2.2.1 _ mw_377) (fun _ h9 => h9) rfl (by decide +kernel) rfl rfl (Nat.le_of_ble_eq_true rfl) hd (fun H1 locs1 hP1 hD1 hS1 => k H1 locs1 ls hP1 hD1 hS1 hl)
theorem x1_get3 (C : GC p R s m args meth c A D cc nL kc ks (tysX1 E) RX1 rt) (hd : decode cc pc = .ok (.getfield 74, 3)) (k : GW p l e R s m args below meth c Q A D nL kc ks (wX1 h0 E σ) (pc + 3) lv (.int (σ.2 3) :: st)) : GW p l e R s m args below meth c Q A D nL kc ks (wX1 h0 E σ) pc lv (.ref h0 :: st) := fun H locs ls hP hD hS hl => va_get (D := D) (ci := 1) (v := .int (σ.2 3)) (C := RX1) (T := TX1) (N := 17) C.1 C.2.1 C.2.2.2.2.1 inX1 C.2.2.2.1 C.2.2.2.2.2.1 hP 0 rfl rfl 3 (by decide) (C.2.2.2.2.1 _ mw_373) (fun _ h9 => h9) rfl hd (k H locs ls hP hD hS hl)
theorem x1_put3 (C : GC p R s m args meth c A D cc nL kc ks (tysX1 E) RX1 rt) {v : Int32} (hv : narrow .boolean (.int v) = .int v) (hd : decode cc pc = .ok (.putfield 74, 3)) (k : GW p l e R s m args below meth c Q A D nL kc ks (wX1 h0 E (sf σ 3 v)) (pc + 3) lv st) : GW p l e R s m args below meth c Q A D nL kc ks (wX1 h0 E σ) pc lv (.int v :: .ref h0 :: st) := fun H locs ls hP hD hS hl => va_put (D := D) (ci := 1) (v := .int v) (ty := .boolean) (C := RX1) (T := TX1) (N := 17) C.1 C.2.1 C.2.2.2.2.1 inX1 tyX1 tyX1_ok nmX1 C.2.2.2.1 C.2.2.2.2.2.1 hP hD hS 0 rfl rfl 3 (by decide) (C.2.2.2.2.1 _ mw_373) (fun _ h9 => h9) rfl (by decide +kernel) hv rfl (Nat.le_of_ble_eq_true rfl) hd (fun H1 locs1 hP1 hD1 hS1 => k H1 locs1 ls hP1 hD1 hS1 hl)
theorem x1_get9 (C : GC p R s m args meth c A D cc nL kc ks (tysX1 E) RX1 rt) (hd : decode cc pc = .ok (.getfield 84, 3)) (k : GW p l e R s m args below meth c Q A D nL kc ks (wX1 h0 E σ) (pc + 3) lv (.int (σ.2 9) :: st)) : GW p l e R s m args below meth c Q A D nL kc ks (wX1 h0 E σ) pc lv (.ref h0 :: st) := fun H locs ls hP hD hS hl => va_get (D := D) (ci := 1) (v := .int (σ.2 9)) (C := RX1) (T := TX1) (N := 17) C.1 C.2.1 C.2.2.2.2.1 inX1 C.2.2.2.1 C.2.2.2.2.2.1 hP 0 rfl rfl 9 (by decide) (C.2.2.2.2.1 _ mw_379) (fun _ h9 => h9) rfl hd (k H locs ls hP hD hS hl)
theorem x1_put9 (C : GC p R s m args meth c A D cc nL kc ks (tysX1 E) RX1 rt) {v : Int32} (hd : decode cc pc = .ok (.putfield 84, 3)) (k : GW p l e R s m args below meth c Q A D nL kc ks (wX1 h0 E (sf σ 9 v)) (pc + 3) lv st) : GW p l e R s m args below meth c Q A D nL kc ks (wX1 h0 E σ) pc lv (.int v :: .ref h0 :: st) := fun H locs ls hP hD hS hl => va_put (D := D) (ci := 1) (v := .int v) (ty := .int) (C := RX1) (T := TX1) (N := 17) C.1 C.2.1 C.2.2.2.2.1 inX1 tyX1 tyX1_ok nmX1 C.2.2.2.1 C.2.2.2.2.2.1 hP hD hS 0 rfl rfl 9 (by decide) (C.2.2.2.2.1 _ mw_379) (fun _ h9 => h9) rfl (by decide +kernel) rfl rfl (Nat.le_of_ble_eq_true rfl) hd (fun H1 locs1 hP1 hD1 hS1 => k H1 locs1 ls hP1 hD1 hS1 hl)
theorem x1_get11 (C : GC p R s m args meth c A D cc nL kc ks (tysX1 E) RX1 rt) (hd : decode cc pc = .ok (.getfield 108, 3)) (k : GW p l e R s m args below meth c Q A D nL kc ks (wX1 h0 E σ) (pc + 3) lv (.int (σ.2 11) :: st)) : GW p l e R s m args below meth c Q A D nL kc ks (wX1 h0 E σ) pc lv (.ref h0 :: st) := fun H locs ls hP hD hS hl => va_get (D := D) (ci := 1) (v := .int (σ.2 11)) (C := RX1) (T := TX1) (N := 17) C.1 C.2.1 C.2.2.2.2.1 inX1 C.2.2.2.1 C.2.2.2.2.2.1 hP 0 rfl rfl 11 (by decide) (C.2.2.2.2.1 _ mw_381) (fun _ h9 => h9) rfl hd (k H locs ls hP hD hS hl)
theorem x1_put11 (C : GC p R s m args meth c A D cc nL kc ks (tysX1 E) RX1 rt) {v : Int32} (hd : decode cc pc = .ok (.putfield 108, 3)) (k : GW p l e R s m args below meth c Q A D nL kc ks (wX1 h0 E (sf σ 11 v)) (pc + 3) lv st) : GW p l e R s m args below meth c Q A D nL kc ks (wX1 h0 E σ) pc lv (.int v :: .ref h0 :: st) := fun H locs ls hP hD hS hl => va_put (D := D) (ci := 1) (v := .int v) (ty := .int) (C := RX1) (T := TX1) (N := 17) C.1 C.2.1 C.2.2.2.2.1 inX1 tyX1 tyX1_ok nmX1 C.2.2.2.1 C.2.2.2.2.2.1 hP hD hS 0 rfl rfl 11 (by decide) (C.2.2.2.2.1 _ mw_381) (fun _ h9 => h9) rfl (by decide +kernel) rfl rfl (Nat.le_of_ble_eq_true rfl) hd (fun H1 locs1 hP1 hD1 hS1 => k H1 locs1 ls hP1 hD1 hS1 hl)
theorem x1_get12 (C : GC p R s m args meth c A D cc nL kc ks (tysX1 E) RX1 rt) (hd : decode cc pc = .ok (.getfield 111, 3)) (k : GW p l e R s m args below meth c Q A D nL kc ks (wX1 h0 E σ) (pc + 3) lv (.int (σ.2 12) :: st)) : GW p l e R s m args below meth c Q A D nL kc ks (wX1 h0 E σ) pc lv (.ref h0 :: st) := fun H locs ls hP hD hS hl => va_get (D := D) (ci := 1) (v := .int (σ.2 12)) (C := RX1) (T := TX1) (N := 17) C.1 C.2.1 C.2.2.2.2.1 inX1 C.2.2.2.1 C.2.2.2.2.2.1 hP 0 rfl rfl 12 (by decide) (C.2.2.2.2.1 _ mw_382) (fun _ h9 => h9) rfl hd (k H locs ls hP hD hS hl)
theorem x1_put12 (C : GC p R s m args meth c A D cc nL kc ks (tysX1 E) RX1 rt) {v : Int32} (hd : decode cc pc = .ok (.putfield 111, 3)) (k : GW p l e R s m args below meth c Q A D nL kc ks (wX1 h0 E (sf σ 12 v)) (pc + 3) lv st) : GW p l e R s m args below meth c Q A D nL kc ks (wX1 h0 E σ) pc lv (.int v :: .ref h0 :: st) := fun H locs ls hP hD hS hl => va_put (D := D) (ci := 1) (v := .int v) (ty := .int) (C := RX1) (T := TX1) (N := 17) C.1 C.2.1 C.2.2.2.2.1 inX1 tyX1 tyX1_ok nmX1 C.2.2.2.1 C.2.2.2.2.2.1 hP hD hS 0 rfl rfl 12 (by decide) (C.2.2.2.2.1 _ mw_382) (fun _ h9 => h9) rfl (by decide +kernel) rfl rfl (Nat.le_of_ble_eq_true rfl) hd (fun H1 locs1 hP1 hD1 hS1 => k H1 locs1 ls hP1 hD1 hS1 hl)
theorem x1_get13 (C : GC p R s m args meth c A D cc nL kc ks (tysX1 E) RX1 rt) (hd : decode cc pc = .ok (.getfield 114, 3)) (k : GW p l e R s m args below meth c Q A D nL kc ks (wX1 h0 E σ) (pc + 3) lv (.int (σ.2 13) :: st)) : GW p l e R s m args below meth c Q A D nL kc ks (wX1 h0 E σ) pc lv (.ref h0 :: st) := fun H locs ls hP hD hS hl => va_get (D := D) (ci := 1) (v := .int (σ.2 13)) (C := RX1) (T := TX1) (N := 17) C.1 C.2.1 C.2.2.2.2.1 inX1 C.2.2.2.1 C.2.2.2.2.2.1 hP 0 rfl rfl 13 (by decide) (C.2.2.2.2.1 _ mw_383) (fun _ h9 => h9) rfl hd (k H locs ls hP hD hS hl)
theorem x1_put13 (C : GC p R s m args meth c A D cc nL kc ks (tysX1 E) RX1 rt) {v : Int32} (hd : decode cc pc = .ok (.putfield 114, 3)) (k : GW p l e R s m args below meth c Q A D nL kc ks (wX1 h0 E (sf σ 13 v)) (pc + 3) lv st) : GW p l e R s m args below meth c Q A D nL kc ks (wX1 h0 E σ) pc lv (.int v :: .ref h0 :: st) := fun H locs ls hP hD hS hl => va_put (D := D) (ci := 1) (v := .int v) (ty := .int) (C := RX1) (T := TX1) (N := 17) C.1 C.2.1 C.2.2.2.2.1 inX1 tyX1 tyX1_ok nmX1 C.2.2.2.1 C.2.2.2.2.2.1 hP hD hS 0 rfl rfl 13 (by decide) (C.2.2.2.2.1 _ mw_383) (fun _ h9 => h9) rfl (by decide +kernel) rfl rfl (Nat.le_of_ble_eq_true rfl) hd (fun H1 locs1 hP1 hD1 hS1 => k H1 locs1 ls hP1 hD1 hS1 hl)
theorem x1_get14 (C : GC p R s m args meth c A D cc nL kc ks (tysX1 E) RX1 rt) (hd : decode cc pc = .ok (.getfield 117, 3)) (k : GW p l e R s m args below meth c Q A D nL kc ks (wX1 h0 E σ) (pc + 3) lv (.int (σ.2 14) :: st)) : GW p l e R s m args below meth c Q A D nL kc ks (wX1 h0 E σ) pc lv (.ref h0 :: st) := fun H locs ls hP hD hS hl => va_get (D := D) (ci := 1) (v := .int (σ.2 14)) (C := RX1) (T := TX1) (N := 17) C.1 C.2.1 C.2.2.2.2.1 inX1 C.2.2.2.1 C.2.2.2.2.2.1 hP 0 rfl rfl 14 (by decide) (C.2.2.2.2.1 _ mw_384) (fun _ h9 => h9) rfl hd (k H locs ls hP hD hS hl)
theorem x1_put14 (C : GC p R s m args meth c A D cc nL kc ks (tysX1 E) RX1 rt) {v : Int32} (hd : decode cc pc = .ok (.putfield 117, 3)) (k : GW p l e R s m args below meth c Q A D nL kc ks (wX1 h0 E (sf σ 14 v)) (pc + 3) lv st) : GW p l e R s m args below meth c Q A D nL kc ks (wX1 h0 E σ) pc lv (.int v :: .ref h0 :: st) := fun H locs ls hP hD hS hl => va_put (D := D) (ci := 1) (v := .int v) (ty := .int) (C := RX1) (T := TX1) (N := 17) C.1 C.2.1 C.2.2.2.2.1 inX1 tyX1 tyX1_ok nmX1 C.2.2.2.1 C.2.2.2.2.2.1 hP hD hS 0 rfl rfl 14 (by decide) (C.2.2.2.2.1 _ mw_384) (fun _ h9 => h9) rfl (by decide +kernel) rfl rfl (Nat.le_of_ble_eq_true rfl) hd (fun H1 locs1 hP1 hD1 hS1 => k H1 locs1 ls hP1 hD1 hS1 hl)
theorem x1_get15 (C : GC p R s m args meth c A D cc nL kc ks (tysX1 E) RX1 rt) (hd : decode cc pc = .ok (.getfield 120, 3)) (k : GW p l e R s m args below meth c Q A D nL kc ks (wX1 h0 E σ) (pc + 3) lv (.int (σ.2 15) :: st)) : GW p l e R s m args below meth c Q A D nL kc ks (wX1 h0 E σ) pc lv (.ref h0 :: st) := fun H locs ls hP hD hS hl => va_get (D := D) (ci := 1) (v := .int (σ.2 15)) (C := RX1) (T := TX1) (N := 17) C.1 C.2.1 C.2.2.2.2.1 inX1 C.2.2.2.1 C.2.2.2.2.2.1 hP 0 rfl rfl 15 (by decide) (C.2.2.2.2.1 _ mw_385) (fun _ h9 => h9) rfl hd (k H locs ls hP hD hS hl)
theorem x1_put15 (C : GC p R s m args meth c A D cc nL kc ks (tysX1 E) RX1 rt) {v : Int32} (hd : decode cc pc = .ok (.putfield 120, 3)) (k : GW p l e R s m args below meth c Q A D nL kc ks (wX1 h0 E (sf σ 15 v)) (pc + 3) lv st) : GW p l e R s m args below meth c Q A D nL kc ks (wX1 h0 E σ) pc lv (.int v :: .ref h0 :: st) := fun H locs ls hP hD hS hl => va_put (D := D) (ci := 1) (v := .int v) (ty := .int) (C := RX1) (T := TX1) (N := 17) C.1 C.2.1 C.2.2.2.2.1 inX1 tyX1 tyX1_ok nmX1 C.2.2.2.1 C.2.2.2.2.2.1 hP hD hS 0 rfl rfl 15 (by decide) (C.2.2.2.2.1 _ mw_385) (fun _ h9 => h9) rfl (by decide +kernel) rfl rfl (Nat.le_of_ble_eq_true rfl) hd (fun H1 locs1 hP1 hD1 hS1 => k H1 locs1 ls hP1 hD1 hS1 hl)
theorem x1_get16 (C : GC p R s m args meth c A D cc nL kc ks (tysX1 E) RX1 rt) (hd : decode cc pc = .ok (.getfield 123, 3)) (k : GW p l e R s m args below meth c Q A D nL kc ks (wX1 h0 E σ) (pc + 3) lv (.int (σ.2 16) :: st)) : GW p l e R s m args below meth c Q A D nL kc ks (wX1 h0 E σ) pc lv (.ref h0 :: st) := fun H locs ls hP hD hS hl => va_get (D := D) (ci := 1) (v := .int (σ.2 16)) (C := RX1) (T := TX1) (N := 17) C.1 C.2.1 C.2.2.2.2.1 inX1 C.2.2.2.1 C.2.2.2.2.2.1 hP 0 rfl rfl 16 (by decide) (C.2.2.2.2.1 _ mw_386) (fun _ h9 => h9) rfl hd (k H locs ls hP hD hS hl)
theorem x1_put16 (C : GC p R s m args meth c A D cc nL kc ks (tysX1 E) RX1 rt) {v : Int32} (hd : decode cc pc = .ok (.putfield 123, 3)) (k : GW p l e R s m args below meth c Q A D nL kc ks (wX1 h0 E (sf σ 16 v)) (pc + 3) lv st) : GW p l e R s m args below meth c Q A D nL kc ks (wX1 h0 E σ) pc lv (.int v :: .ref h0 :: st) := fun H locs ls hP hD hS hl => va_put (D := D) (ci := 1) (v := .int v) (ty := .int) (C := RX1) (T := TX1) (N := 17) C.1 C.2.1 C.2.2.2.2.1 inX1 tyX1 tyX1_ok nmX1 C.2.2.2.1 C.2.2.2.2.2.1 hP hD hS 0 rfl rfl 16 (by decide) (C.2.2.2.2.1 _ mw_386) (fun _ h9 => h9) rfl (by decide +kernel) rfl rfl (Nat.le_of_ble_eq_true rfl) hd (fun H1 locs1 hP1 hD1 hS1 => k H1 locs1 ls hP1 hD1 hS1 hl)
theorem x1_ld0 (C : GC p R s m args meth c A D cc nL kc ks (tysX1 E) RX1 rt) {i : Int32} (hd : decode cc pc = .ok (.iaload, 1)) (k : t = some z → GW p l e R s m args below meth c Q A D nL kc ks (wX1 h0 E σ) (pc + 1) lv (.int (σ.1 0 i.toNatClampNeg) :: st)) (hF : gD i 192 t = some z) : GW p l e R s m args below meth c Q A D nL kc ks (wX1 h0 E σ) pc lv (.int i :: .ref (E.1 0) :: st) := fun H locs ls hP hD hS hl => va_iald (D := D) (n := 192) (f := σ.1 0) C.1 C.2.1 C.2.2.2.2.2.1 hP 1 0 rfl rfl (gD_some hF).1 hd (k (gD_some hF).2 H locs ls hP hD hS hl)
theorem x1_st0 (C : GC p R s m args meth c A D cc nL kc ks (tysX1 E) RX1 rt) {i x : Int32} (hd : decode cc pc = .ok (.iastore, 1)) (k : t = some z → GW p l e R s m args below meth c Q A D nL kc ks (wX1 h0 E (sa σ 0 i.toNatClampNeg x)) (pc + 1) lv st) (hF : gD i 192 t = some z) : GW p l e R s m args below meth c Q A D nL kc ks (wX1 h0 E σ) pc lv (.int x :: .int i :: .ref (E.1 0) :: st) := fun H locs ls hP hD hS hl => va_iast (D := D) (n := 192) (f := σ.1 0) C.1 C.2.1 C.2.2.2.2.2.1 hP hD hS 1 0 rfl rfl (gD_some hF).1 hd (fun H1 locs1 hP1 hD1 hS1 => k (gD_some hF).2 H1 locs1 ls hP1 hD1 hS1 hl)
theorem x1_len0 (C : GC p R s m args meth c A D cc nL kc ks (tysX1 E) RX1 rt) (hd : decode cc pc = .ok (.arraylength, 1)) (k : GW p l e R s m args below meth c Q A D nL kc ks (wX1 h0 E σ) (pc + 1) lv (.int (nI 192) :: st)) : GW p l e R s m args below meth c Q A D nL kc ks (wX1 h0 E σ) pc lv (.ref (E.1 0) :: st) := fun H locs ls hP hD hS hl => va_alen (D := D) C.1 C.2.1 C.2.2.2.2.2.1 hP 1 0 rfl rfl rfl hd (k H locs ls hP hD hS hl)
theorem x1_ld1 (C : GC p R s m args meth c A D cc nL kc ks (tysX1 E) RX1 rt) {i : Int32} (hd : decode cc pc = .ok (.iaload, 1)) (k : t = some z → GW p l e R s m args below meth c Q A D nL kc ks (wX1 h0 E σ) (pc + 1) lv (.int (σ.1 1 i.toNatClampNeg) :: st)) (hF : gD i 4 t = some z) : GW p l e R s m args below meth c Q A D nL kc ks (wX1 h0 E σ) pc lv (.int i :: .ref (E.1 1) :: st) := fun H locs ls hP hD hS hl => va_iald (D := D) (n := 4) (f := σ.1 1) C.1 C.2.1 C.2.2.2.2.2.1 hP 2 1 rfl rfl (gD_some hF).1 hd (k (gD_some hF).2 H locs ls hP hD hS hl)
theorem x1_st1 (C : GC p R s m args meth c A D cc nL kc ks (tysX1 E) RX1 rt) {i x : Int32} (hd : decode cc pc = .ok (.iastore, 1)) (k : t = some z → GW p l e R s m args below meth c Q A D nL kc ks (wX1 h0 E (sa σ 1 i.toNatClampNeg x)) (pc + 1) lv st) (hF : gD i 4 t = some z) : GW p l e R s m args below meth c Q A D nL kc ks (wX1 h0 E σ) pc lv (.int x :: .int i :: .ref (E.1 1) :: st) := fun H locs ls hP hD hS hl => va_iast (D := D) (n := 4) (f := σ.1 1) C.1 C.2.1 C.2.2.2.2.2.1 hP hD hS 2 1 rfl rfl (gD_some hF).1 hd (fun H1 locs1 hP1 hD1 hS1 => k (gD_some hF).2 H1 locs1 ls hP1 hD1 hS1 hl)
theorem x1_len1 (C : GC p R s m args meth c A D cc nL kc ks (tysX1 E) RX1 rt) (hd : decode cc pc = .ok (.arraylength, 1)) (k : GW p l e R s m args below meth c Q A D nL kc ks (wX1 h0 E σ) (pc + 1) lv (.int (nI 4) :: st)) : GW p l e R s m args below meth c Q A D nL kc ks (wX1 h0 E σ) pc lv (.ref (E.1 1) :: st) := fun H locs ls hP hD hS hl => va_alen (D := D) C.1 C.2.1 C.2.2.2.2.2.1 hP 2 1 rfl rfl rfl hd (k H locs ls hP hD hS hl)
theorem x1_ld2 (C : GC p R s m args meth c A D cc nL kc ks (tysX1 E) RX1 rt) {i : Int32} (hd : decode cc pc = .ok (.iaload, 1)) (k : t = some z → GW p l e R s m args below meth c Q A D nL kc ks (wX1 h0 E σ) (pc + 1) lv (.int (σ.1 2 i.toNatClampNeg) :: st)) (hF : gD i 96 t = some z) : GW p l e R s m args below meth c Q A D nL kc ks (wX1 h0 E σ) pc lv (.int i :: .ref (E.1 2) :: st) := fun H locs ls hP hD hS hl => va_iald (D := D) (n := 96) (f := σ.1 2) C.1 C.2.1 C.2.2.2.2.2.1 hP 3 2 rfl rfl (gD_some hF).1 hd (k (gD_some hF).2 H locs ls hP hD hS hl)
theorem x1_st2 (C : GC p R s m args meth c A D cc nL kc ks (tysX1 E) RX1 rt) {i x : Int32} (hd : decode cc pc = .ok (.iastore, 1)) (k : t = some z → GW p l e R s m args below meth c Q A D nL kc ks (wX1 h0 E (sa σ 2 i.toNatClampNeg x)) (pc + 1) lv st) (hF : gD i 96 t = some z) : GW p l e R s m args below meth c Q A D nL kc ks (wX1 h0 E σ) pc lv (.int x :: .int i :: .ref (E.1 2) :: st) := fun H locs ls hP hD hS hl => va_iast (D := D) (n := 96) (f := σ.1 2) C.1 C.2.1 C.2.2.2.2.2.1 hP hD hS 3 2 rfl rfl (gD_some hF).1 hd (fun H1 locs1 hP1 hD1 hS1 => k (gD_some hF).2 H1 locs1 ls hP1 hD1 hS1 hl)
theorem x1_len2 (C : GC p R s m args meth c A D cc nL kc ks (tysX1 E) RX1 rt) (hd : decode cc pc = .ok (.arraylength, 1)) (k : GW p l e R s m args below meth c Q A D nL kc ks (wX1 h0 E σ) (pc + 1) lv (.int (nI 96) :: st)) : GW p l e R s m args below meth c Q A D nL kc ks (wX1 h0 E σ) pc lv (.ref (E.1 2) :: st) := fun H locs ls hP hD hS hl => va_alen (D := D) C.1 C.2.1 C.2.2.2.2.2.1 hP 3 2 rfl rfl rfl hd (k H locs ls hP hD hS hl)
theorem x1_ld5 (C : GC p R s m args meth c A D cc nL kc ks (tysX1 E) RX1 rt) {i : Int32} (hd : decode cc pc = .ok (.iaload, 1)) (k : t = some z → GW p l e R s m args below meth c Q A D nL kc ks (wX1 h0 E σ) (pc + 1) lv (.int (σ.1 5 i.toNatClampNeg) :: st)) (hF : gD i 24 t = some z) : GW p l e R s m args below meth c Q A D nL kc ks (wX1 h0 E σ) pc lv (.int i :: .ref (E.1 5) :: st) := fun H locs ls hP hD hS hl => va_iald (D := D) (n := 24) (f := σ.1 5) C.1 C.2.1 C.2.2.2.2.2.1 hP 4 3 rfl rfl (gD_some hF).1 hd (k (gD_some hF).2 H locs ls hP hD hS hl)
theorem x1_st5 (C : GC p R s m args meth c A D cc nL kc ks (tysX1 E) RX1 rt) {i x : Int32} (hd : decode cc pc = .ok (.iastore, 1)) (k : t = some z → GW p l e R s m args below meth c Q A D nL kc ks (wX1 h0 E (sa σ 5 i.toNatClampNeg x)) (pc + 1) lv st) (hF : gD i 24 t = some z) : GW p l e R s m args below meth c Q A D nL kc ks (wX1 h0 E σ) pc lv (.int x :: .int i :: .ref (E.1 5) :: st) := fun H locs ls hP hD hS hl => va_iast (D := D) (n := 24) (f := σ.1 5) C.1 C.2.1 C.2.2.2.2.2.1 hP hD hS 4 3 rfl rfl (gD_some hF).1 hd (fun H1 locs1 hP1 hD1 hS1 => k (gD_some hF).2 H1 locs1 ls hP1 hD1 hS1 hl)
theorem x1_len5 (C : GC p R s m args meth c A D cc nL kc ks (tysX1 E) RX1 rt) (hd : decode cc pc = .ok (.arraylength, 1)) (k : GW p l e R s m args below meth c Q A D nL kc ks (wX1 h0 E σ) (pc + 1) lv (.int (nI 24) :: st)) : GW p l e R s m args below meth c Q A D nL kc ks (wX1 h0 E σ) pc lv (.ref (E.1 5) :: st) := fun H locs ls hP hD hS hl => va_alen (D := D) C.1 C.2.1 C.2.2.2.2.2.1 hP 4 3 rfl rfl rfl hd (k H locs ls hP hD hS hl)
theorem x1_ld6 (C : GC p R s m args meth c A D cc nL kc ks (tysX1 E) RX1 rt) {i : Int32} (hd : decode cc pc = .ok (.baload, 1)) (k : t = some z → GW p l e R s m args below meth c Q A D nL kc ks (wX1 h0 E σ) (pc + 1) lv (.int (σ.1 6 i.toNatClampNeg) :: st)) (hF : gD i 48 t = some z) : GW p l e R s m args below meth c Q A D nL kc ks (wX1 h0 E σ) pc lv (.int i :: .ref (E.1 6) :: st) := fun H locs ls hP hD hS hl => va_zald (D := D) (n := 48) (f := σ.1 6) C.1 C.2.1 C.2.2.2.2.2.1 hP 5 4 rfl rfl (gD_some hF).1 hd (k (gD_some hF).2 H locs ls hP hD hS hl)
theorem x1_st6 (C : GC p R s m args meth c A D cc nL kc ks (tysX1 E) RX1 rt) {i x : Int32} (hx : vp_nar .boolean x = x) (hd : decode cc pc = .ok (.bastore, 1)) (k : t = some z → GW p l e R s m args below meth c Q A D nL kc ks (wX1 h0 E (sa σ 6 i.toNatClampNeg x)) (pc + 1) lv st) (hF : gD i 48 t = some z) : GW p l e R s m args below meth c Q A D nL kc ks (wX1 h0 E σ) pc lv (.int x :: .int i :: .ref (E.1 6) :: st) := fun H locs ls hP hD hS hl => va_zast (D := D) (n := 48) (f := σ.1 6) C.1 C.2.1 C.2.2.2.2.2.1 hP hD hS 5 4 rfl rfl (gD_some hF).1 hd (fun H1 locs1 hP1 hD1 hS1 => k (gD_some hF).2 H1 locs1 ls (by rw [hx] at hP1; exact hP1) (by rw [hx] at hD1; exact hD1) hS1 hl)
theorem x1_len6 (C : GC p R s m args meth c A D cc nL kc ks (tysX1 E) RX1 rt) (hd : decode cc pc = .ok (.arraylength, 1)) (k : GW p l e R s m args below meth c Q A D nL kc ks (wX1 h0 E σ) (pc + 1) lv (.int (nI 48) :: st)) : GW p l e R s m args below meth c Q A D nL kc ks (wX1 h0 E σ) pc lv (.ref (E.1 6) :: st) := fun H locs ls hP hD hS hl => va_alen (D := D) C.1 C.2.1 C.2.2.2.2.2.1 hP 5 4 rfl rfl rfl hd (k H locs ls hP hD hS hl)
theorem x1_ld8 (C : GC p R s m args meth c A D cc nL kc ks (tysX1 E) RX1 rt) {i : Int32} (hd : decode cc pc = .ok (.iaload, 1)) (k : t = some z → GW p l e R s m args below meth c Q A D nL kc ks (wX1 h0 E σ) (pc + 1) lv (.int (σ.1 8 i.toNatClampNeg) :: st)) (hF : gD i 24 t = some z) : GW p l e R s m args below meth c Q A D nL kc ks (wX1 h0 E σ) pc lv (.int i :: .ref (E.1 8) :: st) := fun H locs ls hP hD hS hl => va_iald (D := D) (n := 24) (f := σ.1 8) C.1 C.2.1 C.2.2.2.2.2.1 hP 6 5 rfl rfl (gD_some hF).1 hd (k (gD_some hF).2 H locs ls hP hD hS hl)
theorem x1_st8 (C : GC p R s m args meth c A D cc nL kc ks (tysX1 E) RX1 rt) {i x : Int32} (hd : decode cc pc = .ok (.iastore, 1)) (k : t = some z → GW p l e R s m args below meth c Q A D nL kc ks (wX1 h0 E (sa σ 8 i.toNatClampNeg x)) (pc + 1) lv st) (hF : gD i 24 t = some z) : GW p l e R s m args below meth c Q A D nL kc ks (wX1 h0 E σ) pc lv (.int x :: .int i :: .ref (E.1 8) :: st) := fun H locs ls hP hD hS hl => va_iast (D := D) (n := 24) (f := σ.1 8) C.1 C.2.1 C.2.2.2.2.2.1 hP hD hS 6 5 rfl rfl (gD_some hF).1 hd (fun H1 locs1 hP1 hD1 hS1 => k (gD_some hF).2 H1 locs1 ls hP1 hD1 hS1 hl)
theorem x1_len8 (C : GC p R s m args meth c A D cc nL kc ks (tysX1 E) RX1 rt) (hd : decode cc pc = .ok (.arraylength, 1)) (k : GW p l e R s m args below meth c Q A D nL kc ks (wX1 h0 E σ) (pc + 1) lv (.int (nI 24) :: st)) : GW p l e R s m args below meth c Q A D nL kc ks (wX1 h0 E σ) pc lv (.ref (E.1 8) :: st) := fun H locs ls hP hD hS hl => va_alen (D := D) C.1 C.2.1 C.2.2.2.2.2.1 hP 6 5 rfl rfl rfl hd (k H locs ls hP hD hS hl)
theorem x1_iret (C : GC p R s m args meth c A D cc nL 0 0 (tysX1 E) RX1 rt) (hr : rt = some .int) {v r : Int32} (hd : decode cc pc = .ok (.ireturn, 1)) (hF : some (v, σ) = some (r, σ2)) : GW p l e R s m args below meth c (QI D (wX1 h0 E σ2) r A below args s) A D nL 0 0 (wX1 h0 E σ) pc lv [.int v] := by
  cases hF; exact g_iret C hr hd
theorem x1_zret (C : GC p R s m args meth c A D cc nL 0 0 (tysX1 E) RX1 rt) (hr : rt = some .boolean) {v r : Int32} (hn : narrow .boolean (.int v) = .int v) (hd : decode cc pc = .ok (.ireturn, 1)) (hF : some (v, σ) = some (r, σ2)) : GW p l e R s m args below meth c (QI D (wX1 h0 E σ2) r A below args s) A D nL 0 0 (wX1 h0 E σ) pc lv [.int v] := by
  cases hF; exact g_zret C hr hn hd
theorem x1_vret (C : GC p R s m args meth c A D cc nL 0 0 (tysX1 E) RX1 rt) (hr : rt = none) {v r : Int32} (hd : decode cc pc = .ok (.return_, 1)) (hF : some (v, σ) = some (r, σ2)) : GW p l e R s m args below meth c (QV D (wX1 h0 E σ2) A below args s) A D nL 0 0 (wX1 h0 E σ) pc lv [] := by
  cases hF; exact g_vret C hr hd
end LAY1
section LAYS
variable {p : Program} {l : Launch} {e : Env} {R : Room} {s : State} {m : MethodId} {args : Array Value} {below : List Frame} {meth : Method} {c : Code} {A : Nat → Prop} {D : va_G} {cc : ByteArray} {nL : Nat} {tys : List (ClassId × FieldType)} {w : va_W} {pc : Nat} {lv : List (Nat × Value)} {own : String} {rt : Option FieldType}
theorem s_iret (C : GC p R s m args meth c A D cc nL 0 0 tys own rt) (hr : rt = some .int) {v r : Int32} (hd : decode cc pc = .ok (.ireturn, 1)) (hF : some v = some r) : GW p l e R s m args below meth c (QI D w r A below args s) A D nL 0 0 w pc lv [.int v] := by
  cases hF; exact g_iret C hr hd
theorem s_zret (C : GC p R s m args meth c A D cc nL 0 0 tys own rt) (hr : rt = some .boolean) {v r : Int32} (hn : narrow .boolean (.int v) = .int v) (hd : decode cc pc = .ok (.ireturn, 1)) (hF : some v = some r) : GW p l e R s m args below meth c (QI D w r A below args s) A D nL 0 0 w pc lv [.int v] := by
  cases hF; exact g_zret C hr hn hd
theorem sw_out {x : Int32} {hi : Nat} (hh : hi < 1000) (h : ∀ j, j ≤ hi → ¬ x = nI j) : x.toInt < 0 ∨ (hi : Int) < x.toInt := by
  rcases Int.lt_or_le x.toInt 0 with q | q
  · exact Or.inl q
  · refine Or.inr (Int.not_le.mp fun g => h x.toInt.toNat (by omega) ?_)
    apply Int32.toInt_inj.mp
    rw [nI_toInt (by omega)]
    omega
end LAYS
theorem hn_X0_isFile : yX0_isFile.cls ≠ "java/lang/invoke/MethodHandle" ∧ yX0_isFile.cls ≠ "java/lang/invoke/VarHandle" ∧ (parseMethodDescriptor yX0_isFile.desc).map (fun d => d.parameters.length) = some 1 := by decide +kernel
theorem gS_X0_isFile : GoodIn lw_tbl (va_wsS RX0 32 yX0_isFile (.code yX0_isFile cX0_isFile 1 (some .boolean) :: lw_tbl)) := gS_mk mw_125 mw_126 mw_60 mw_127
theorem hn_X0_sizeOf : yX0_sizeOf.cls = RX0 ∧ yX0_sizeOf.cls ≠ "java/lang/invoke/MethodHandle" ∧ yX0_sizeOf.cls ≠ "java/lang/invoke/VarHandle" ∧ (parseMethodDescriptor yX0_sizeOf.desc).map (fun d => d.parameters.length) = some 1 := by decide +kernel
theorem gV_X0_sizeOf : GoodIn lw_tbl (wsV RX0 36 RX0 yX0_sizeOf (.code yX0_sizeOf cX0_sizeOf 2 (some .int) :: lw_tbl)) := gV_mk mw_128 mw_130 mw_0 mw_60 mw_131
theorem hn_X0_isPlace : yX0_isPlace.cls ≠ "java/lang/invoke/MethodHandle" ∧ yX0_isPlace.cls ≠ "java/lang/invoke/VarHandle" ∧ (parseMethodDescriptor yX0_isPlace.desc).map (fun d => d.parameters.length) = some 1 := by decide +kernel
theorem gS_X0_isPlace : GoodIn lw_tbl (va_wsS RX0 97 yX0_isPlace (.code yX0_isPlace cX0_isPlace 1 (some .boolean) :: lw_tbl)) := gS_mk mw_136 mw_137 mw_60 mw_138
theorem hn_X0_blockAt : yX0_blockAt.cls = RX0 ∧ yX0_blockAt.cls ≠ "java/lang/invoke/MethodHandle" ∧ yX0_blockAt.cls ≠ "java/lang/invoke/VarHandle" ∧ (parseMethodDescriptor yX0_blockAt.desc).map (fun d => d.parameters.length) = some 2 := by decide +kernel
theorem gV_X0_blockAt : GoodIn lw_tbl (wsV RX0 40 RX0 yX0_blockAt (.code yX0_blockAt cX0_blockAt 3 (some .int) :: lw_tbl)) := gV_mk mw_132 mw_134 mw_1 mw_60 mw_135
theorem hn_X0_isBlock : yX0_isBlock.cls ≠ "java/lang/invoke/MethodHandle" ∧ yX0_isBlock.cls ≠ "java/lang/invoke/VarHandle" ∧ (parseMethodDescriptor yX0_isBlock.desc).map (fun d => d.parameters.length) = some 1 := by decide +kernel
theorem gS_X0_isBlock : GoodIn lw_tbl (va_wsS RX0 136 yX0_isBlock (.code yX0_isBlock cX0_isBlock 1 (some .boolean) :: lw_tbl)) := gS_mk mw_143 mw_144 mw_60 mw_145
theorem hn_X0_cellOf : yX0_cellOf.cls = RX0 ∧ yX0_cellOf.cls ≠ "java/lang/invoke/MethodHandle" ∧ yX0_cellOf.cls ≠ "java/lang/invoke/VarHandle" ∧ (parseMethodDescriptor yX0_cellOf.desc).map (fun d => d.parameters.length) = some 2 := by decide +kernel
theorem gV_X0_cellOf : GoodIn lw_tbl (wsV RX0 44 RX0 yX0_cellOf (.code yX0_cellOf cX0_cellOf 3 (some .int) :: lw_tbl)) := gV_mk mw_139 mw_141 mw_2 mw_60 mw_142
theorem hn_X0_read : yX0_read.cls = RX0 ∧ yX0_read.cls ≠ "java/lang/invoke/MethodHandle" ∧ yX0_read.cls ≠ "java/lang/invoke/VarHandle" ∧ (parseMethodDescriptor yX0_read.desc).map (fun d => d.parameters.length) = some 2 := by decide +kernel
theorem hn_X0_isCellRange : yX0_isCellRange.cls ≠ "java/lang/invoke/MethodHandle" ∧ yX0_isCellRange.cls ≠ "java/lang/invoke/VarHandle" ∧ (parseMethodDescriptor yX0_isCellRange.desc).map (fun d => d.parameters.length) = some 2 := by decide +kernel
theorem gS_X0_isCellRange : GoodIn lw_tbl (va_wsS RX0 47 yX0_isCellRange (.code yX0_isCellRange cX0_isCellRange 2 (some .boolean) :: lw_tbl)) := gS_mk mw_150 mw_151 mw_60 mw_152
theorem hn_X0_countOf : yX0_countOf.cls = RX0 ∧ yX0_countOf.cls ≠ "java/lang/invoke/MethodHandle" ∧ yX0_countOf.cls ≠ "java/lang/invoke/VarHandle" ∧ (parseMethodDescriptor yX0_countOf.desc).map (fun d => d.parameters.length) = some 1 := by decide +kernel
theorem gV_X0_countOf : GoodIn lw_tbl (wsV RX0 142 RX0 yX0_countOf (.code yX0_countOf cX0_countOf 2 (some .int) :: lw_tbl)) := gV_mk mw_161 mw_163 mw_5 mw_60 mw_164
theorem hn_X0_addIfNeedy : yX0_addIfNeedy.cls = RX0 ∧ yX0_addIfNeedy.cls ≠ "java/lang/invoke/MethodHandle" ∧ yX0_addIfNeedy.cls ≠ "java/lang/invoke/VarHandle" ∧ (parseMethodDescriptor yX0_addIfNeedy.desc).map (fun d => d.parameters.length) = some 3 := by decide +kernel
theorem gV_X0_addIfNeedy : GoodIn lw_tbl (wsV RX0 188 RX0 yX0_addIfNeedy (.code yX0_addIfNeedy cX0_addIfNeedy 6 none :: lw_tbl)) := gV_mk mw_157 mw_159 mw_4 mw_60 mw_160
theorem hn_X0_chooseNeedy : yX0_chooseNeedy.cls = RX0 ∧ yX0_chooseNeedy.cls ≠ "java/lang/invoke/MethodHandle" ∧ yX0_chooseNeedy.cls ≠ "java/lang/invoke/VarHandle" ∧ (parseMethodDescriptor yX0_chooseNeedy.desc).map (fun d => d.parameters.length) = some 4 := by decide +kernel
theorem gV_X0_chooseNeedy : GoodIn lw_tbl (wsV RX0 55 RX0 yX0_chooseNeedy (.code yX0_chooseNeedy cX0_chooseNeedy 6 none :: lw_tbl)) := gV_mk mw_153 mw_155 mw_3 mw_60 mw_156
theorem hn_X0_freeMany : yX0_freeMany.cls = RX0 ∧ yX0_freeMany.cls ≠ "java/lang/invoke/MethodHandle" ∧ yX0_freeMany.cls ≠ "java/lang/invoke/VarHandle" ∧ (parseMethodDescriptor yX0_freeMany.desc).map (fun d => d.parameters.length) = some 0 := by decide +kernel
theorem gV_X0_freeMany : GoodIn lw_tbl (wsV RX0 152 RX0 yX0_freeMany (.code yX0_freeMany cX0_freeMany 3 (some .int) :: lw_tbl)) := gV_mk mw_169 mw_171 mw_7 mw_60 mw_172
theorem hn_X0_isSpent : yX0_isSpent.cls = RX0 ∧ yX0_isSpent.cls ≠ "java/lang/invoke/MethodHandle" ∧ yX0_isSpent.cls ≠ "java/lang/invoke/VarHandle" ∧ (parseMethodDescriptor yX0_isSpent.desc).map (fun d => d.parameters.length) = some 0 := by decide +kernel
theorem gV_X0_isSpent : GoodIn lw_tbl (wsV RX0 59 RX0 yX0_isSpent (.code yX0_isSpent cX0_isSpent 1 (some .boolean) :: lw_tbl)) := gV_mk mw_165 mw_167 mw_6 mw_60 mw_168
theorem hn_X0_startsStretch : yX0_startsStretch.cls = RX0 ∧ yX0_startsStretch.cls ≠ "java/lang/invoke/MethodHandle" ∧ yX0_startsStretch.cls ≠ "java/lang/invoke/VarHandle" ∧ (parseMethodDescriptor yX0_startsStretch.desc).map (fun d => d.parameters.length) = some 2 := by decide +kernel
theorem gV_X0_startsStretch : GoodIn lw_tbl (wsV RX0 172 RX0 yX0_startsStretch (.code yX0_startsStretch cX0_startsStretch 3 (some .boolean) :: lw_tbl)) := gV_mk mw_185 mw_187 mw_11 mw_60 mw_188
theorem hn_X0_stretchLength : yX0_stretchLength.cls = RX0 ∧ yX0_stretchLength.cls ≠ "java/lang/invoke/MethodHandle" ∧ yX0_stretchLength.cls ≠ "java/lang/invoke/VarHandle" ∧ (parseMethodDescriptor yX0_stretchLength.desc).map (fun d => d.parameters.length) = some 1 := by decide +kernel
theorem gV_X0_stretchLength : GoodIn lw_tbl (wsV RX0 149 RX0 yX0_stretchLength (.code yX0_stretchLength cX0_stretchLength 4 (some .int) :: lw_tbl)) := gV_mk mw_189 mw_191 mw_12 mw_60 mw_192
theorem hn_X0_fitsBetter : yX0_fitsBetter.cls ≠ "java/lang/invoke/MethodHandle" ∧ yX0_fitsBetter.cls ≠ "java/lang/invoke/VarHandle" ∧ (parseMethodDescriptor yX0_fitsBetter.desc).map (fun d => d.parameters.length) = some 3 := by decide +kernel
theorem gS_X0_fitsBetter : GoodIn lw_tbl (va_wsS RX0 185 yX0_fitsBetter (.code yX0_fitsBetter cX0_fitsBetter 3 (some .boolean) :: lw_tbl)) := gS_mk mw_193 mw_194 mw_60 mw_195
theorem hn_X0_bestRun : yX0_bestRun.cls = RX0 ∧ yX0_bestRun.cls ≠ "java/lang/invoke/MethodHandle" ∧ yX0_bestRun.cls ≠ "java/lang/invoke/VarHandle" ∧ (parseMethodDescriptor yX0_bestRun.desc).map (fun d => d.parameters.length) = some 1 := by decide +kernel
theorem gV_X0_bestRun : GoodIn lw_tbl (wsV RX0 179 RX0 yX0_bestRun (.code yX0_bestRun cX0_bestRun 5 (some .int) :: lw_tbl)) := gV_mk mw_181 mw_183 mw_10 mw_60 mw_184
theorem hn_X0_addToCount : yX0_addToCount.cls = RX0 ∧ yX0_addToCount.cls ≠ "java/lang/invoke/MethodHandle" ∧ yX0_addToCount.cls ≠ "java/lang/invoke/VarHandle" ∧ (parseMethodDescriptor yX0_addToCount.desc).map (fun d => d.parameters.length) = some 2 := by decide +kernel
theorem gV_X0_addToCount : GoodIn lw_tbl (wsV RX0 163 RX0 yX0_addToCount (.code yX0_addToCount cX0_addToCount 3 none :: lw_tbl)) := gV_mk mw_203 mw_205 mw_14 mw_60 mw_206
theorem hn_X0_takeFromRun : yX0_takeFromRun.cls = RX0 ∧ yX0_takeFromRun.cls ≠ "java/lang/invoke/MethodHandle" ∧ yX0_takeFromRun.cls ≠ "java/lang/invoke/VarHandle" ∧ (parseMethodDescriptor yX0_takeFromRun.desc).map (fun d => d.parameters.length) = some 2 := by decide +kernel
theorem gV_X0_takeFromRun : GoodIn lw_tbl (wsV RX0 182 RX0 yX0_takeFromRun (.code yX0_takeFromRun cX0_takeFromRun 5 none :: lw_tbl)) := gV_mk mw_196 mw_198 mw_13 mw_60 mw_199
theorem hn_X0_getBlocks : yX0_getBlocks.cls = RX0 ∧ yX0_getBlocks.cls ≠ "java/lang/invoke/MethodHandle" ∧ yX0_getBlocks.cls ≠ "java/lang/invoke/VarHandle" ∧ (parseMethodDescriptor yX0_getBlocks.desc).map (fun d => d.parameters.length) = some 1 := by decide +kernel
theorem gV_X0_getBlocks : GoodIn lw_tbl (wsV RX0 196 RX0 yX0_getBlocks (.code yX0_getBlocks cX0_getBlocks 3 none :: lw_tbl)) := gV_mk mw_177 mw_179 mw_9 mw_60 mw_180
theorem hn_X0_setCell : yX0_setCell.cls = RX0 ∧ yX0_setCell.cls ≠ "java/lang/invoke/MethodHandle" ∧ yX0_setCell.cls ≠ "java/lang/invoke/VarHandle" ∧ (parseMethodDescriptor yX0_setCell.desc).map (fun d => d.parameters.length) = some 3 := by decide +kernel
theorem gV_X0_setCell : GoodIn lw_tbl (wsV RX0 202 RX0 yX0_setCell (.code yX0_setCell cX0_setCell 4 none :: lw_tbl)) := gV_mk mw_211 mw_213 mw_16 mw_60 mw_214
theorem hn_X0_putBlock : yX0_putBlock.cls = RX0 ∧ yX0_putBlock.cls ≠ "java/lang/invoke/MethodHandle" ∧ yX0_putBlock.cls ≠ "java/lang/invoke/VarHandle" ∧ (parseMethodDescriptor yX0_putBlock.desc).map (fun d => d.parameters.length) = some 3 := by decide +kernel
theorem gV_X0_putBlock : GoodIn lw_tbl (wsV RX0 94 RX0 yX0_putBlock (.code yX0_putBlock cX0_putBlock 4 none :: lw_tbl)) := gV_mk mw_215 mw_217 mw_17 mw_60 mw_218
theorem hn_X0_giveBlock : yX0_giveBlock.cls = RX0 ∧ yX0_giveBlock.cls ≠ "java/lang/invoke/MethodHandle" ∧ yX0_giveBlock.cls ≠ "java/lang/invoke/VarHandle" ∧ (parseMethodDescriptor yX0_giveBlock.desc).map (fun d => d.parameters.length) = some 3 := by decide +kernel
theorem gV_X0_giveBlock : GoodIn lw_tbl (wsV RX0 199 RX0 yX0_giveBlock (.code yX0_giveBlock cX0_giveBlock 6 none :: lw_tbl)) := gV_mk mw_207 mw_209 mw_15 mw_60 mw_210
theorem hn_X0_ownNeedy : yX0_ownNeedy.cls = RX0 ∧ yX0_ownNeedy.cls ≠ "java/lang/invoke/MethodHandle" ∧ yX0_ownNeedy.cls ≠ "java/lang/invoke/VarHandle" ∧ (parseMethodDescriptor yX0_ownNeedy.desc).map (fun d => d.parameters.length) = some 1 := by decide +kernel
theorem gV_X0_ownNeedy : GoodIn lw_tbl (wsV RX0 63 RX0 yX0_ownNeedy (.code yX0_ownNeedy cX0_ownNeedy 3 none :: lw_tbl)) := gV_mk mw_173 mw_175 mw_8 mw_60 mw_176
theorem hn_X0_setCells : yX0_setCells.cls = RX0 ∧ yX0_setCells.cls ≠ "java/lang/invoke/MethodHandle" ∧ yX0_setCells.cls ≠ "java/lang/invoke/VarHandle" ∧ (parseMethodDescriptor yX0_setCells.desc).map (fun d => d.parameters.length) = some 4 := by decide +kernel
theorem gV_X0_setCells : GoodIn lw_tbl (wsV RX0 67 RX0 yX0_setCells (.code yX0_setCells cX0_setCells 6 none :: lw_tbl)) := gV_mk mw_219 mw_221 mw_18 mw_60 mw_222
theorem hn_X0_setSize : yX0_setSize.cls = RX0 ∧ yX0_setSize.cls ≠ "java/lang/invoke/MethodHandle" ∧ yX0_setSize.cls ≠ "java/lang/invoke/VarHandle" ∧ (parseMethodDescriptor yX0_setSize.desc).map (fun d => d.parameters.length) = some 2 := by decide +kernel
theorem gV_X0_setSize : GoodIn lw_tbl (wsV RX0 83 RX0 yX0_setSize (.code yX0_setSize cX0_setSize 3 none :: lw_tbl)) := gV_mk mw_230 mw_232 mw_20 mw_60 mw_233
theorem hn_X0_growTo : yX0_growTo.cls = RX0 ∧ yX0_growTo.cls ≠ "java/lang/invoke/MethodHandle" ∧ yX0_growTo.cls ≠ "java/lang/invoke/VarHandle" ∧ (parseMethodDescriptor yX0_growTo.desc).map (fun d => d.parameters.length) = some 2 := by decide +kernel
theorem gV_X0_growTo : GoodIn lw_tbl (wsV RX0 71 RX0 yX0_growTo (.code yX0_growTo cX0_growTo 3 none :: lw_tbl)) := gV_mk mw_223 mw_225 mw_19 mw_60 mw_226
theorem hn_X0_write : yX0_write.cls = RX0 ∧ yX0_write.cls ≠ "java/lang/invoke/MethodHandle" ∧ yX0_write.cls ≠ "java/lang/invoke/VarHandle" ∧ (parseMethodDescriptor yX0_write.desc).map (fun d => d.parameters.length) = some 4 := by decide +kernel
theorem hn_X0_isAllIn : yX0_isAllIn.cls = RX0 ∧ yX0_isAllIn.cls ≠ "java/lang/invoke/MethodHandle" ∧ yX0_isAllIn.cls ≠ "java/lang/invoke/VarHandle" ∧ (parseMethodDescriptor yX0_isAllIn.desc).map (fun d => d.parameters.length) = some 4 := by decide +kernel
theorem gV_X0_isAllIn : GoodIn lw_tbl (wsV RX0 192 RX0 yX0_isAllIn (.code yX0_isAllIn cX0_isAllIn 5 (some .boolean) :: lw_tbl)) := gV_mk mw_242 mw_244 mw_22 mw_60 mw_245
theorem hn_X0_chooseCutThrough : yX0_chooseCutThrough.cls = RX0 ∧ yX0_chooseCutThrough.cls ≠ "java/lang/invoke/MethodHandle" ∧ yX0_chooseCutThrough.cls ≠ "java/lang/invoke/VarHandle" ∧ (parseMethodDescriptor yX0_chooseCutThrough.desc).map (fun d => d.parameters.length) = some 3 := by decide +kernel
theorem gV_X0_chooseCutThrough : GoodIn lw_tbl (wsV RX0 75 RX0 yX0_chooseCutThrough (.code yX0_chooseCutThrough cX0_chooseCutThrough 5 none :: lw_tbl)) := gV_mk mw_238 mw_240 mw_21 mw_60 mw_241
theorem hn_X0_clearCells : yX0_clearCells.cls = RX0 ∧ yX0_clearCells.cls ≠ "java/lang/invoke/MethodHandle" ∧ yX0_clearCells.cls ≠ "java/lang/invoke/VarHandle" ∧ (parseMethodDescriptor yX0_clearCells.desc).map (fun d => d.parameters.length) = some 3 := by decide +kernel
theorem gV_X0_clearCells : GoodIn lw_tbl (wsV RX0 79 RX0 yX0_clearCells (.code yX0_clearCells cX0_clearCells 6 (some .int) :: lw_tbl)) := gV_mk mw_246 mw_248 mw_23 mw_60 mw_249
theorem hn_X0_cut : yX0_cut.cls = RX0 ∧ yX0_cut.cls ≠ "java/lang/invoke/MethodHandle" ∧ yX0_cut.cls ≠ "java/lang/invoke/VarHandle" ∧ (parseMethodDescriptor yX0_cut.desc).map (fun d => d.parameters.length) = some 2 := by decide +kernel
theorem hn_X0_punch : yX0_punch.cls = RX0 ∧ yX0_punch.cls ≠ "java/lang/invoke/MethodHandle" ∧ yX0_punch.cls ≠ "java/lang/invoke/VarHandle" ∧ (parseMethodDescriptor yX0_punch.desc).map (fun d => d.parameters.length) = some 3 := by decide +kernel
theorem hn_X0_isPlaceRange : yX0_isPlaceRange.cls ≠ "java/lang/invoke/MethodHandle" ∧ yX0_isPlaceRange.cls ≠ "java/lang/invoke/VarHandle" ∧ (parseMethodDescriptor yX0_isPlaceRange.desc).map (fun d => d.parameters.length) = some 2 := by decide +kernel
theorem gS_X0_isPlaceRange : GoodIn lw_tbl (va_wsS RX0 91 yX0_isPlaceRange (.code yX0_isPlaceRange cX0_isPlaceRange 2 (some .boolean) :: lw_tbl)) := gS_mk mw_258 mw_259 mw_60 mw_260
theorem hn_X0_collapse : yX0_collapse.cls = RX0 ∧ yX0_collapse.cls ≠ "java/lang/invoke/MethodHandle" ∧ yX0_collapse.cls ≠ "java/lang/invoke/VarHandle" ∧ (parseMethodDescriptor yX0_collapse.desc).map (fun d => d.parameters.length) = some 3 := by decide +kernel
theorem hn_X0_insert : yX0_insert.cls = RX0 ∧ yX0_insert.cls ≠ "java/lang/invoke/MethodHandle" ∧ yX0_insert.cls ≠ "java/lang/invoke/VarHandle" ∧ (parseMethodDescriptor yX0_insert.desc).map (fun d => d.parameters.length) = some 3 := by decide +kernel
theorem hn_X0_isBelowSize : yX0_isBelowSize.cls = RX0 ∧ yX0_isBelowSize.cls ≠ "java/lang/invoke/MethodHandle" ∧ yX0_isBelowSize.cls ≠ "java/lang/invoke/VarHandle" ∧ (parseMethodDescriptor yX0_isBelowSize.desc).map (fun d => d.parameters.length) = some 3 := by decide +kernel
theorem gV_X0_isBelowSize : GoodIn lw_tbl (wsV RX0 100 RX0 yX0_isBelowSize (.code yX0_isBelowSize cX0_isBelowSize 4 (some .boolean) :: lw_tbl)) := gV_mk mw_269 mw_271 mw_24 mw_60 mw_272
theorem hn_X0_meet : yX0_meet.cls ≠ "java/lang/invoke/MethodHandle" ∧ yX0_meet.cls ≠ "java/lang/invoke/VarHandle" ∧ (parseMethodDescriptor yX0_meet.desc).map (fun d => d.parameters.length) = some 5 := by decide +kernel
theorem gS_X0_meet : GoodIn lw_tbl (va_wsS RX0 104 yX0_meet (.code yX0_meet cX0_meet 5 (some .boolean) :: lw_tbl)) := gS_mk mw_273 mw_274 mw_60 mw_275
theorem hn_X0_share : yX0_share.cls = RX0 ∧ yX0_share.cls ≠ "java/lang/invoke/MethodHandle" ∧ yX0_share.cls ≠ "java/lang/invoke/VarHandle" ∧ (parseMethodDescriptor yX0_share.desc).map (fun d => d.parameters.length) = some 5 := by decide +kernel
theorem hn_X0_unshare : yX0_unshare.cls = RX0 ∧ yX0_unshare.cls ≠ "java/lang/invoke/MethodHandle" ∧ yX0_unshare.cls ≠ "java/lang/invoke/VarHandle" ∧ (parseMethodDescriptor yX0_unshare.desc).map (fun d => d.parameters.length) = some 3 := by decide +kernel
theorem hn_X0_failure : yX0_failure.cls = RX0 ∧ yX0_failure.cls ≠ "java/lang/invoke/MethodHandle" ∧ yX0_failure.cls ≠ "java/lang/invoke/VarHandle" ∧ (parseMethodDescriptor yX0_failure.desc).map (fun d => d.parameters.length) = some 1 := by decide +kernel
theorem hn_X0_openLog : yX0_openLog.cls = RX0 ∧ yX0_openLog.cls ≠ "java/lang/invoke/MethodHandle" ∧ yX0_openLog.cls ≠ "java/lang/invoke/VarHandle" ∧ (parseMethodDescriptor yX0_openLog.desc).map (fun d => d.parameters.length) = some 5 := by decide +kernel
theorem gV_X0_openLog : GoodIn lw_tbl (wsV RX0 111 RX0 yX0_openLog (.code yX0_openLog cX0_openLog 6 none :: lw_tbl)) := gV_mk mw_288 mw_290 mw_25 mw_60 mw_291
theorem hn_X0_doSteps : yX0_doSteps.cls = RX0 ∧ yX0_doSteps.cls ≠ "java/lang/invoke/MethodHandle" ∧ yX0_doSteps.cls ≠ "java/lang/invoke/VarHandle" ∧ (parseMethodDescriptor yX0_doSteps.desc).map (fun d => d.parameters.length) = some 2 := by decide +kernel
theorem gV_X0_doSteps : GoodIn lw_tbl (wsV RX0 118 RX0 yX0_doSteps (.code yX0_doSteps cX0_doSteps 6 none :: lw_tbl)) := gV_mk mw_292 mw_294 mw_26 mw_60 mw_295
theorem hn_X0_exchange : yX0_exchange.cls = RX0 ∧ yX0_exchange.cls ≠ "java/lang/invoke/MethodHandle" ∧ yX0_exchange.cls ≠ "java/lang/invoke/VarHandle" ∧ (parseMethodDescriptor yX0_exchange.desc).map (fun d => d.parameters.length) = some 5 := by decide +kernel
theorem hn_X0_mount : yX0_mount.cls = RX0 ∧ yX0_mount.cls ≠ "java/lang/invoke/MethodHandle" ∧ yX0_mount.cls ≠ "java/lang/invoke/VarHandle" ∧ (parseMethodDescriptor yX0_mount.desc).map (fun d => d.parameters.length) = some 1 := by decide +kernel
theorem hn_X0_placesCountedFrom : yX0_placesCountedFrom.cls = RX0 ∧ yX0_placesCountedFrom.cls ≠ "java/lang/invoke/MethodHandle" ∧ yX0_placesCountedFrom.cls ≠ "java/lang/invoke/VarHandle" ∧ (parseMethodDescriptor yX0_placesCountedFrom.desc).map (fun d => d.parameters.length) = some 2 := by decide +kernel
theorem gV_X0_placesCountedFrom : GoodIn lw_tbl (wsV RX0 124 RX0 yX0_placesCountedFrom (.code yX0_placesCountedFrom cX0_placesCountedFrom 5 (some .int) :: lw_tbl)) := gV_mk mw_304 mw_306 mw_27 mw_60 mw_307
theorem hn_X0_goesOn : yX0_goesOn.cls = RX0 ∧ yX0_goesOn.cls ≠ "java/lang/invoke/MethodHandle" ∧ yX0_goesOn.cls ≠ "java/lang/invoke/VarHandle" ∧ (parseMethodDescriptor yX0_goesOn.desc).map (fun d => d.parameters.length) = some 2 := by decide +kernel
theorem gV_X0_goesOn : GoodIn lw_tbl (wsV RX0 166 RX0 yX0_goesOn (.code yX0_goesOn cX0_goesOn 3 (some .boolean) :: lw_tbl)) := gV_mk mw_316 mw_318 mw_30 mw_60 mw_319
theorem hn_X0_startsPiece : yX0_startsPiece.cls = RX0 ∧ yX0_startsPiece.cls ≠ "java/lang/invoke/MethodHandle" ∧ yX0_startsPiece.cls ≠ "java/lang/invoke/VarHandle" ∧ (parseMethodDescriptor yX0_startsPiece.desc).map (fun d => d.parameters.length) = some 2 := by decide +kernel
theorem gV_X0_startsPiece : GoodIn lw_tbl (wsV RX0 169 RX0 yX0_startsPiece (.code yX0_startsPiece cX0_startsPiece 3 (some .boolean) :: lw_tbl)) := gV_mk mw_312 mw_314 mw_29 mw_60 mw_315
theorem hn_X0_piecesOf : yX0_piecesOf.cls = RX0 ∧ yX0_piecesOf.cls ≠ "java/lang/invoke/MethodHandle" ∧ yX0_piecesOf.cls ≠ "java/lang/invoke/VarHandle" ∧ (parseMethodDescriptor yX0_piecesOf.desc).map (fun d => d.parameters.length) = some 1 := by decide +kernel
theorem gV_X0_piecesOf : GoodIn lw_tbl (wsV RX0 127 RX0 yX0_piecesOf (.code yX0_piecesOf cX0_piecesOf 4 (some .int) :: lw_tbl)) := gV_mk mw_308 mw_310 mw_28 mw_60 mw_311
theorem hn_X0_ofFile : yX0_ofFile.cls = RX0 ∧ yX0_ofFile.cls ≠ "java/lang/invoke/MethodHandle" ∧ yX0_ofFile.cls ≠ "java/lang/invoke/VarHandle" ∧ (parseMethodDescriptor yX0_ofFile.desc).map (fun d => d.parameters.length) = some 2 := by decide +kernel
theorem hn_X0_block : yX0_block.cls = RX0 ∧ yX0_block.cls ≠ "java/lang/invoke/MethodHandle" ∧ yX0_block.cls ≠ "java/lang/invoke/VarHandle" ∧ (parseMethodDescriptor yX0_block.desc).map (fun d => d.parameters.length) = some 2 := by decide +kernel
theorem hn_X0_pieceStart : yX0_pieceStart.cls = RX0 ∧ yX0_pieceStart.cls ≠ "java/lang/invoke/MethodHandle" ∧ yX0_pieceStart.cls ≠ "java/lang/invoke/VarHandle" ∧ (parseMethodDescriptor yX0_pieceStart.desc).map (fun d => d.parameters.length) = some 2 := by decide +kernel
theorem gV_X0_pieceStart : GoodIn lw_tbl (wsV RX0 130 RX0 yX0_pieceStart (.code yX0_pieceStart cX0_pieceStart 5 (some .int) :: lw_tbl)) := gV_mk mw_328 mw_330 mw_31 mw_60 mw_331
theorem hn_X0_pieceLength : yX0_pieceLength.cls = RX0 ∧ yX0_pieceLength.cls ≠ "java/lang/invoke/MethodHandle" ∧ yX0_pieceLength.cls ≠ "java/lang/invoke/VarHandle" ∧ (parseMethodDescriptor yX0_pieceLength.desc).map (fun d => d.parameters.length) = some 2 := by decide +kernel
theorem gV_X0_pieceLength : GoodIn lw_tbl (wsV RX0 133 RX0 yX0_pieceLength (.code yX0_pieceLength cX0_pieceLength 5 (some .int) :: lw_tbl)) := gV_mk mw_332 mw_334 mw_32 mw_60 mw_335
theorem hn_X0_piece : yX0_piece.cls = RX0 ∧ yX0_piece.cls ≠ "java/lang/invoke/MethodHandle" ∧ yX0_piece.cls ≠ "java/lang/invoke/VarHandle" ∧ (parseMethodDescriptor yX0_piece.desc).map (fun d => d.parameters.length) = some 3 := by decide +kernel
theorem hn_X0_seek : yX0_seek.cls = RX0 ∧ yX0_seek.cls ≠ "java/lang/invoke/MethodHandle" ∧ yX0_seek.cls ≠ "java/lang/invoke/VarHandle" ∧ (parseMethodDescriptor yX0_seek.desc).map (fun d => d.parameters.length) = some 3 := by decide +kernel
theorem hn_X0_count : yX0_count.cls = RX0 ∧ yX0_count.cls ≠ "java/lang/invoke/MethodHandle" ∧ yX0_count.cls ≠ "java/lang/invoke/VarHandle" ∧ (parseMethodDescriptor yX0_count.desc).map (fun d => d.parameters.length) = some 1 := by decide +kernel
theorem hn_X0_stretchStart : yX0_stretchStart.cls = RX0 ∧ yX0_stretchStart.cls ≠ "java/lang/invoke/MethodHandle" ∧ yX0_stretchStart.cls ≠ "java/lang/invoke/VarHandle" ∧ (parseMethodDescriptor yX0_stretchStart.desc).map (fun d => d.parameters.length) = some 2 := by decide +kernel
theorem gV_X0_stretchStart : GoodIn lw_tbl (wsV RX0 145 RX0 yX0_stretchStart (.code yX0_stretchStart cX0_stretchStart 5 (some .int) :: lw_tbl)) := gV_mk mw_348 mw_350 mw_33 mw_60 mw_351
theorem hn_X0_range : yX0_range.cls = RX0 ∧ yX0_range.cls ≠ "java/lang/invoke/MethodHandle" ∧ yX0_range.cls ≠ "java/lang/invoke/VarHandle" ∧ (parseMethodDescriptor yX0_range.desc).map (fun d => d.parameters.length) = some 2 := by decide +kernel
theorem hn_X0_sharedMany : yX0_sharedMany.cls = RX0 ∧ yX0_sharedMany.cls ≠ "java/lang/invoke/MethodHandle" ∧ yX0_sharedMany.cls ≠ "java/lang/invoke/VarHandle" ∧ (parseMethodDescriptor yX0_sharedMany.desc).map (fun d => d.parameters.length) = some 0 := by decide +kernel
theorem gV_X0_sharedMany : GoodIn lw_tbl (wsV RX0 156 RX0 yX0_sharedMany (.code yX0_sharedMany cX0_sharedMany 3 (some .int) :: lw_tbl)) := gV_mk mw_356 mw_358 mw_34 mw_60 mw_359
theorem hn_X0_stretchesMany : yX0_stretchesMany.cls = RX0 ∧ yX0_stretchesMany.cls ≠ "java/lang/invoke/MethodHandle" ∧ yX0_stretchesMany.cls ≠ "java/lang/invoke/VarHandle" ∧ (parseMethodDescriptor yX0_stretchesMany.desc).map (fun d => d.parameters.length) = some 1 := by decide +kernel
theorem gV_X0_stretchesMany : GoodIn lw_tbl (wsV RX0 159 RX0 yX0_stretchesMany (.code yX0_stretchesMany cX0_stretchesMany 4 (some .int) :: lw_tbl)) := gV_mk mw_360 mw_362 mw_35 mw_60 mw_363
theorem hn_X0_many : yX0_many.cls = RX0 ∧ yX0_many.cls ≠ "java/lang/invoke/MethodHandle" ∧ yX0_many.cls ≠ "java/lang/invoke/VarHandle" ∧ (parseMethodDescriptor yX0_many.desc).map (fun d => d.parameters.length) = some 1 := by decide +kernel
theorem hn_X1_within : yX1_within.cls ≠ "java/lang/invoke/MethodHandle" ∧ yX1_within.cls ≠ "java/lang/invoke/VarHandle" ∧ (parseMethodDescriptor yX1_within.desc).map (fun d => d.parameters.length) = some 3 := by decide +kernel
theorem gS_X1_within : GoodIn lw_tbl (va_wsS RX1 33 yX1_within (.code yX1_within cX1_within 3 (some .boolean) :: lw_tbl)) := gS_mk mw_430 mw_431 mw_61 mw_432
theorem hn_X1_isFile : yX1_isFile.cls ≠ "java/lang/invoke/MethodHandle" ∧ yX1_isFile.cls ≠ "java/lang/invoke/VarHandle" ∧ (parseMethodDescriptor yX1_isFile.desc).map (fun d => d.parameters.length) = some 1 := by decide +kernel
theorem gS_X1_isFile : GoodIn lw_tbl (va_wsS RX1 71 yX1_isFile (.code yX1_isFile cX1_isFile 1 (some .boolean) :: lw_tbl)) := gS_mk mw_427 mw_428 mw_61 mw_429
theorem hn_X1_countOf : yX1_countOf.cls = RX1 ∧ yX1_countOf.cls ≠ "java/lang/invoke/MethodHandle" ∧ yX1_countOf.cls ≠ "java/lang/invoke/VarHandle" ∧ (parseMethodDescriptor yX1_countOf.desc).map (fun d => d.parameters.length) = some 1 := by decide +kernel
theorem gV_X1_countOf : GoodIn lw_tbl (wsV RX1 37 RX1 yX1_countOf (.code yX1_countOf cX1_countOf 4 (some .int) :: lw_tbl)) := gV_mk mw_445 mw_447 mw_38 mw_61 mw_448
theorem hn_X1_isShared : yX1_isShared.cls = RX1 ∧ yX1_isShared.cls ≠ "java/lang/invoke/MethodHandle" ∧ yX1_isShared.cls ≠ "java/lang/invoke/VarHandle" ∧ (parseMethodDescriptor yX1_isShared.desc).map (fun d => d.parameters.length) = some 2 := by decide +kernel
theorem gV_X1_isShared : GoodIn lw_tbl (wsV RX1 57 RX1 yX1_isShared (.code yX1_isShared cX1_isShared 4 (some .boolean) :: lw_tbl)) := gV_mk mw_441 mw_443 mw_37 mw_61 mw_444
theorem hn_X1_findTaken : yX1_findTaken.cls = RX1 ∧ yX1_findTaken.cls ≠ "java/lang/invoke/MethodHandle" ∧ yX1_findTaken.cls ≠ "java/lang/invoke/VarHandle" ∧ (parseMethodDescriptor yX1_findTaken.desc).map (fun d => d.parameters.length) = some 0 := by decide +kernel
theorem gV_X1_findTaken : GoodIn lw_tbl (wsV RX1 48 RX1 yX1_findTaken (.code yX1_findTaken cX1_findTaken 2 none :: lw_tbl)) := gV_mk mw_457 mw_459 mw_41 mw_61 mw_460
theorem hn_X1_freeFrom : yX1_freeFrom.cls = RX1 ∧ yX1_freeFrom.cls ≠ "java/lang/invoke/MethodHandle" ∧ yX1_freeFrom.cls ≠ "java/lang/invoke/VarHandle" ∧ (parseMethodDescriptor yX1_freeFrom.desc).map (fun d => d.parameters.length) = some 1 := by decide +kernel
theorem gV_X1_freeFrom : GoodIn lw_tbl (wsV RX1 45 RX1 yX1_freeFrom (.code yX1_freeFrom cX1_freeFrom 3 (some .int) :: lw_tbl)) := gV_mk mw_469 mw_471 mw_44 mw_61 mw_472
theorem hn_X1_beginsRun : yX1_beginsRun.cls = RX1 ∧ yX1_beginsRun.cls ≠ "java/lang/invoke/MethodHandle" ∧ yX1_beginsRun.cls ≠ "java/lang/invoke/VarHandle" ∧ (parseMethodDescriptor yX1_beginsRun.desc).map (fun d => d.parameters.length) = some 1 := by decide +kernel
theorem gV_X1_beginsRun : GoodIn lw_tbl (wsV RX1 41 RX1 yX1_beginsRun (.code yX1_beginsRun cX1_beginsRun 2 (some .boolean) :: lw_tbl)) := gV_mk mw_465 mw_467 mw_43 mw_61 mw_468
theorem hn_X1_runFor : yX1_runFor.cls = RX1 ∧ yX1_runFor.cls ≠ "java/lang/invoke/MethodHandle" ∧ yX1_runFor.cls ≠ "java/lang/invoke/VarHandle" ∧ (parseMethodDescriptor yX1_runFor.desc).map (fun d => d.parameters.length) = some 1 := by decide +kernel
theorem gV_X1_runFor : GoodIn lw_tbl (wsV RX1 54 RX1 yX1_runFor (.code yX1_runFor cX1_runFor 6 (some .int) :: lw_tbl)) := gV_mk mw_461 mw_463 mw_42 mw_61 mw_464
theorem hn_X1_gets : yX1_gets.cls = RX1 ∧ yX1_gets.cls ≠ "java/lang/invoke/MethodHandle" ∧ yX1_gets.cls ≠ "java/lang/invoke/VarHandle" ∧ (parseMethodDescriptor yX1_gets.desc).map (fun d => d.parameters.length) = some 1 := by decide +kernel
theorem gV_X1_gets : GoodIn lw_tbl (wsV RX1 64 RX1 yX1_gets (.code yX1_gets cX1_gets 5 (some .boolean) :: lw_tbl)) := gV_mk mw_453 mw_455 mw_40 mw_61 mw_456
theorem hn_X1_wants : yX1_wants.cls = RX1 ∧ yX1_wants.cls ≠ "java/lang/invoke/MethodHandle" ∧ yX1_wants.cls ≠ "java/lang/invoke/VarHandle" ∧ (parseMethodDescriptor yX1_wants.desc).map (fun d => d.parameters.length) = some 3 := by decide +kernel
theorem gV_X1_wants : GoodIn lw_tbl (wsV RX1 78 RX1 yX1_wants (.code yX1_wants cX1_wants 4 none :: lw_tbl)) := gV_mk mw_437 mw_439 mw_36 mw_61 mw_440
theorem hn_X1_copies : yX1_copies.cls = RX1 ∧ yX1_copies.cls ≠ "java/lang/invoke/MethodHandle" ∧ yX1_copies.cls ≠ "java/lang/invoke/VarHandle" ∧ (parseMethodDescriptor yX1_copies.desc).map (fun d => d.parameters.length) = some 2 := by decide +kernel
theorem gV_X1_copies : GoodIn lw_tbl (wsV RX1 67 RX1 yX1_copies (.code yX1_copies cX1_copies 4 none :: lw_tbl)) := gV_mk mw_473 mw_475 mw_45 mw_61 mw_476
theorem hn_X1_owns : yX1_owns.cls = RX1 ∧ yX1_owns.cls ≠ "java/lang/invoke/MethodHandle" ∧ yX1_owns.cls ≠ "java/lang/invoke/VarHandle" ∧ (parseMethodDescriptor yX1_owns.desc).map (fun d => d.parameters.length) = some 1 := by decide +kernel
theorem gV_X1_owns : GoodIn lw_tbl (wsV RX1 81 RX1 yX1_owns (.code yX1_owns cX1_owns 4 (some .boolean) :: lw_tbl)) := gV_mk mw_449 mw_451 mw_39 mw_61 mw_452
theorem hn_X1_read : yX1_read.cls = RX1 ∧ yX1_read.cls ≠ "java/lang/invoke/MethodHandle" ∧ yX1_read.cls ≠ "java/lang/invoke/VarHandle" ∧ (parseMethodDescriptor yX1_read.desc).map (fun d => d.parameters.length) = some 2 := by decide +kernel
theorem hn_X1_write : yX1_write.cls = RX1 ∧ yX1_write.cls ≠ "java/lang/invoke/MethodHandle" ∧ yX1_write.cls ≠ "java/lang/invoke/VarHandle" ∧ (parseMethodDescriptor yX1_write.desc).map (fun d => d.parameters.length) = some 4 := by decide +kernel
theorem hn_X1_isWhole : yX1_isWhole.cls = RX1 ∧ yX1_isWhole.cls ≠ "java/lang/invoke/MethodHandle" ∧ yX1_isWhole.cls ≠ "java/lang/invoke/VarHandle" ∧ (parseMethodDescriptor yX1_isWhole.desc).map (fun d => d.parameters.length) = some 4 := by decide +kernel
theorem gV_X1_isWhole : GoodIn lw_tbl (wsV RX1 87 RX1 yX1_isWhole (.code yX1_isWhole cX1_isWhole 7 (some .boolean) :: lw_tbl)) := gV_mk mw_485 mw_487 mw_47 mw_61 mw_488
theorem hn_X1_clears : yX1_clears.cls = RX1 ∧ yX1_clears.cls ≠ "java/lang/invoke/MethodHandle" ∧ yX1_clears.cls ≠ "java/lang/invoke/VarHandle" ∧ (parseMethodDescriptor yX1_clears.desc).map (fun d => d.parameters.length) = some 4 := by decide +kernel
theorem gV_X1_clears : GoodIn lw_tbl (wsV RX1 91 RX1 yX1_clears (.code yX1_clears cX1_clears 8 none :: lw_tbl)) := gV_mk mw_489 mw_491 mw_48 mw_61 mw_492
theorem hn_X1_punches : yX1_punches.cls = RX1 ∧ yX1_punches.cls ≠ "java/lang/invoke/MethodHandle" ∧ yX1_punches.cls ≠ "java/lang/invoke/VarHandle" ∧ (parseMethodDescriptor yX1_punches.desc).map (fun d => d.parameters.length) = some 3 := by decide +kernel
theorem gV_X1_punches : GoodIn lw_tbl (wsV RX1 95 RX1 yX1_punches (.code yX1_punches cX1_punches 5 (some .boolean) :: lw_tbl)) := gV_mk mw_481 mw_483 mw_46 mw_61 mw_484
theorem hn_X1_cut : yX1_cut.cls = RX1 ∧ yX1_cut.cls ≠ "java/lang/invoke/MethodHandle" ∧ yX1_cut.cls ≠ "java/lang/invoke/VarHandle" ∧ (parseMethodDescriptor yX1_cut.desc).map (fun d => d.parameters.length) = some 2 := by decide +kernel
theorem hn_X1_punch : yX1_punch.cls = RX1 ∧ yX1_punch.cls ≠ "java/lang/invoke/MethodHandle" ∧ yX1_punch.cls ≠ "java/lang/invoke/VarHandle" ∧ (parseMethodDescriptor yX1_punch.desc).map (fun d => d.parameters.length) = some 3 := by decide +kernel
theorem hn_X1_isPlace : yX1_isPlace.cls ≠ "java/lang/invoke/MethodHandle" ∧ yX1_isPlace.cls ≠ "java/lang/invoke/VarHandle" ∧ (parseMethodDescriptor yX1_isPlace.desc).map (fun d => d.parameters.length) = some 1 := by decide +kernel
theorem gS_X1_isPlace : GoodIn lw_tbl (va_wsS RX1 98 yX1_isPlace (.code yX1_isPlace cX1_isPlace 1 (some .boolean) :: lw_tbl)) := gS_mk mw_501 mw_502 mw_61 mw_503
theorem hn_X1_collapse : yX1_collapse.cls = RX1 ∧ yX1_collapse.cls ≠ "java/lang/invoke/MethodHandle" ∧ yX1_collapse.cls ≠ "java/lang/invoke/VarHandle" ∧ (parseMethodDescriptor yX1_collapse.desc).map (fun d => d.parameters.length) = some 3 := by decide +kernel
theorem hn_X1_insert : yX1_insert.cls = RX1 ∧ yX1_insert.cls ≠ "java/lang/invoke/MethodHandle" ∧ yX1_insert.cls ≠ "java/lang/invoke/VarHandle" ∧ (parseMethodDescriptor yX1_insert.desc).map (fun d => d.parameters.length) = some 3 := by decide +kernel
theorem hn_X1_areRanges : yX1_areRanges.cls ≠ "java/lang/invoke/MethodHandle" ∧ yX1_areRanges.cls ≠ "java/lang/invoke/VarHandle" ∧ (parseMethodDescriptor yX1_areRanges.desc).map (fun d => d.parameters.length) = some 3 := by decide +kernel
theorem gS_X1_areRanges : GoodIn lw_tbl (va_wsS RX1 101 yX1_areRanges (.code yX1_areRanges cX1_areRanges 3 (some .boolean) :: lw_tbl)) := gS_mk mw_512 mw_513 mw_61 mw_514
theorem hn_X1_doMeet : yX1_doMeet.cls ≠ "java/lang/invoke/MethodHandle" ∧ yX1_doMeet.cls ≠ "java/lang/invoke/VarHandle" ∧ (parseMethodDescriptor yX1_doMeet.desc).map (fun d => d.parameters.length) = some 5 := by decide +kernel
theorem gS_X1_doMeet : GoodIn lw_tbl (va_wsS RX1 104 yX1_doMeet (.code yX1_doMeet cX1_doMeet 5 (some .boolean) :: lw_tbl)) := gS_mk mw_515 mw_516 mw_61 mw_517
theorem hn_X1_share : yX1_share.cls = RX1 ∧ yX1_share.cls ≠ "java/lang/invoke/MethodHandle" ∧ yX1_share.cls ≠ "java/lang/invoke/VarHandle" ∧ (parseMethodDescriptor yX1_share.desc).map (fun d => d.parameters.length) = some 5 := by decide +kernel
theorem hn_X1_unshare : yX1_unshare.cls = RX1 ∧ yX1_unshare.cls ≠ "java/lang/invoke/MethodHandle" ∧ yX1_unshare.cls ≠ "java/lang/invoke/VarHandle" ∧ (parseMethodDescriptor yX1_unshare.desc).map (fun d => d.parameters.length) = some 3 := by decide +kernel
theorem hn_X1_failure : yX1_failure.cls = RX1 ∧ yX1_failure.cls ≠ "java/lang/invoke/MethodHandle" ∧ yX1_failure.cls ≠ "java/lang/invoke/VarHandle" ∧ (parseMethodDescriptor yX1_failure.desc).map (fun d => d.parameters.length) = some 1 := by decide +kernel
theorem hn_X1_steps : yX1_steps.cls = RX1 ∧ yX1_steps.cls ≠ "java/lang/invoke/MethodHandle" ∧ yX1_steps.cls ≠ "java/lang/invoke/VarHandle" ∧ (parseMethodDescriptor yX1_steps.desc).map (fun d => d.parameters.length) = some 1 := by decide +kernel
theorem gV_X1_steps : GoodIn lw_tbl (wsV RX1 126 RX1 yX1_steps (.code yX1_steps cX1_steps 5 none :: lw_tbl)) := gV_mk mw_530 mw_532 mw_49 mw_61 mw_533
theorem hn_X1_exchange : yX1_exchange.cls = RX1 ∧ yX1_exchange.cls ≠ "java/lang/invoke/MethodHandle" ∧ yX1_exchange.cls ≠ "java/lang/invoke/VarHandle" ∧ (parseMethodDescriptor yX1_exchange.desc).map (fun d => d.parameters.length) = some 5 := by decide +kernel
theorem hn_X1_mount : yX1_mount.cls = RX1 ∧ yX1_mount.cls ≠ "java/lang/invoke/MethodHandle" ∧ yX1_mount.cls ≠ "java/lang/invoke/VarHandle" ∧ (parseMethodDescriptor yX1_mount.desc).map (fun d => d.parameters.length) = some 1 := by decide +kernel
theorem hn_X1_beginsPiece : yX1_beginsPiece.cls = RX1 ∧ yX1_beginsPiece.cls ≠ "java/lang/invoke/MethodHandle" ∧ yX1_beginsPiece.cls ≠ "java/lang/invoke/VarHandle" ∧ (parseMethodDescriptor yX1_beginsPiece.desc).map (fun d => d.parameters.length) = some 2 := by decide +kernel
theorem gV_X1_beginsPiece : GoodIn lw_tbl (wsV RX1 130 RX1 yX1_beginsPiece (.code yX1_beginsPiece cX1_beginsPiece 4 (some .boolean) :: lw_tbl)) := gV_mk mw_554 mw_556 mw_53 mw_61 mw_557
theorem hn_X1_pieces : yX1_pieces.cls = RX1 ∧ yX1_pieces.cls ≠ "java/lang/invoke/MethodHandle" ∧ yX1_pieces.cls ≠ "java/lang/invoke/VarHandle" ∧ (parseMethodDescriptor yX1_pieces.desc).map (fun d => d.parameters.length) = some 1 := by decide +kernel
theorem gV_X1_pieces : GoodIn lw_tbl (wsV RX1 139 RX1 yX1_pieces (.code yX1_pieces cX1_pieces 4 (some .int) :: lw_tbl)) := gV_mk mw_550 mw_552 mw_52 mw_61 mw_553
theorem hn_X1_sharedIn : yX1_sharedIn.cls = RX1 ∧ yX1_sharedIn.cls ≠ "java/lang/invoke/MethodHandle" ∧ yX1_sharedIn.cls ≠ "java/lang/invoke/VarHandle" ∧ (parseMethodDescriptor yX1_sharedIn.desc).map (fun d => d.parameters.length) = some 1 := by decide +kernel
theorem gV_X1_sharedIn : GoodIn lw_tbl (wsV RX1 136 RX1 yX1_sharedIn (.code yX1_sharedIn cX1_sharedIn 4 (some .int) :: lw_tbl)) := gV_mk mw_546 mw_548 mw_51 mw_61 mw_549
theorem hn_X1_placesIn : yX1_placesIn.cls = RX1 ∧ yX1_placesIn.cls ≠ "java/lang/invoke/MethodHandle" ∧ yX1_placesIn.cls ≠ "java/lang/invoke/VarHandle" ∧ (parseMethodDescriptor yX1_placesIn.desc).map (fun d => d.parameters.length) = some 1 := by decide +kernel
theorem gV_X1_placesIn : GoodIn lw_tbl (wsV RX1 133 RX1 yX1_placesIn (.code yX1_placesIn cX1_placesIn 4 (some .int) :: lw_tbl)) := gV_mk mw_542 mw_544 mw_50 mw_61 mw_545
theorem hn_X1_ofFile : yX1_ofFile.cls = RX1 ∧ yX1_ofFile.cls ≠ "java/lang/invoke/MethodHandle" ∧ yX1_ofFile.cls ≠ "java/lang/invoke/VarHandle" ∧ (parseMethodDescriptor yX1_ofFile.desc).map (fun d => d.parameters.length) = some 2 := by decide +kernel
theorem hn_X1_block : yX1_block.cls = RX1 ∧ yX1_block.cls ≠ "java/lang/invoke/MethodHandle" ∧ yX1_block.cls ≠ "java/lang/invoke/VarHandle" ∧ (parseMethodDescriptor yX1_block.desc).map (fun d => d.parameters.length) = some 2 := by decide +kernel
theorem hn_X1_lengthOfPiece : yX1_lengthOfPiece.cls = RX1 ∧ yX1_lengthOfPiece.cls ≠ "java/lang/invoke/MethodHandle" ∧ yX1_lengthOfPiece.cls ≠ "java/lang/invoke/VarHandle" ∧ (parseMethodDescriptor yX1_lengthOfPiece.desc).map (fun d => d.parameters.length) = some 2 := by decide +kernel
theorem gV_X1_lengthOfPiece : GoodIn lw_tbl (wsV RX1 142 RX1 yX1_lengthOfPiece (.code yX1_lengthOfPiece cX1_lengthOfPiece 4 (some .int) :: lw_tbl)) := gV_mk mw_566 mw_568 mw_54 mw_61 mw_569
theorem hn_X1_piece : yX1_piece.cls = RX1 ∧ yX1_piece.cls ≠ "java/lang/invoke/MethodHandle" ∧ yX1_piece.cls ≠ "java/lang/invoke/VarHandle" ∧ (parseMethodDescriptor yX1_piece.desc).map (fun d => d.parameters.length) = some 3 := by decide +kernel
theorem hn_X1_seek : yX1_seek.cls = RX1 ∧ yX1_seek.cls ≠ "java/lang/invoke/MethodHandle" ∧ yX1_seek.cls ≠ "java/lang/invoke/VarHandle" ∧ (parseMethodDescriptor yX1_seek.desc).map (fun d => d.parameters.length) = some 3 := by decide +kernel
theorem hn_X1_count : yX1_count.cls = RX1 ∧ yX1_count.cls ≠ "java/lang/invoke/MethodHandle" ∧ yX1_count.cls ≠ "java/lang/invoke/VarHandle" ∧ (parseMethodDescriptor yX1_count.desc).map (fun d => d.parameters.length) = some 1 := by decide +kernel
theorem hn_X1_beginsRange : yX1_beginsRange.cls = RX1 ∧ yX1_beginsRange.cls ≠ "java/lang/invoke/MethodHandle" ∧ yX1_beginsRange.cls ≠ "java/lang/invoke/VarHandle" ∧ (parseMethodDescriptor yX1_beginsRange.desc).map (fun d => d.parameters.length) = some 2 := by decide +kernel
theorem gV_X1_beginsRange : GoodIn lw_tbl (wsV RX1 146 RX1 yX1_beginsRange (.code yX1_beginsRange cX1_beginsRange 4 (some .boolean) :: lw_tbl)) := gV_mk mw_582 mw_584 mw_55 mw_61 mw_585
theorem hn_X1_ranges : yX1_ranges.cls = RX1 ∧ yX1_ranges.cls ≠ "java/lang/invoke/MethodHandle" ∧ yX1_ranges.cls ≠ "java/lang/invoke/VarHandle" ∧ (parseMethodDescriptor yX1_ranges.desc).map (fun d => d.parameters.length) = some 1 := by decide +kernel
theorem gV_X1_ranges : GoodIn lw_tbl (wsV RX1 156 RX1 yX1_ranges (.code yX1_ranges cX1_ranges 4 (some .int) :: lw_tbl)) := gV_mk mw_598 mw_600 mw_58 mw_61 mw_601
theorem hn_X1_lengthOfRange : yX1_lengthOfRange.cls = RX1 ∧ yX1_lengthOfRange.cls ≠ "java/lang/invoke/MethodHandle" ∧ yX1_lengthOfRange.cls ≠ "java/lang/invoke/VarHandle" ∧ (parseMethodDescriptor yX1_lengthOfRange.desc).map (fun d => d.parameters.length) = some 1 := by decide +kernel
theorem gV_X1_lengthOfRange : GoodIn lw_tbl (wsV RX1 150 RX1 yX1_lengthOfRange (.code yX1_lengthOfRange cX1_lengthOfRange 3 (some .int) :: lw_tbl)) := gV_mk mw_586 mw_588 mw_56 mw_61 mw_589
theorem hn_X1_range : yX1_range.cls = RX1 ∧ yX1_range.cls ≠ "java/lang/invoke/MethodHandle" ∧ yX1_range.cls ≠ "java/lang/invoke/VarHandle" ∧ (parseMethodDescriptor yX1_range.desc).map (fun d => d.parameters.length) = some 2 := by decide +kernel
theorem hn_X1_manyWith : yX1_manyWith.cls = RX1 ∧ yX1_manyWith.cls ≠ "java/lang/invoke/MethodHandle" ∧ yX1_manyWith.cls ≠ "java/lang/invoke/VarHandle" ∧ (parseMethodDescriptor yX1_manyWith.desc).map (fun d => d.parameters.length) = some 2 := by decide +kernel
theorem gV_X1_manyWith : GoodIn lw_tbl (wsV RX1 153 RX1 yX1_manyWith (.code yX1_manyWith cX1_manyWith 5 (some .int) :: lw_tbl)) := gV_mk mw_594 mw_596 mw_57 mw_61 mw_597
theorem hn_X1_many : yX1_many.cls = RX1 ∧ yX1_many.cls ≠ "java/lang/invoke/MethodHandle" ∧ yX1_many.cls ≠ "java/lang/invoke/VarHandle" ∧ (parseMethodDescriptor yX1_many.desc).map (fun d => d.parameters.length) = some 1 := by decide +kernel
end

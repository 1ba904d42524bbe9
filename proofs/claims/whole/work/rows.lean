section
-- ===== PART A: goes FIRST, ahead of the names: the tables' words, and 'selects' of the private methods out of them =====
/-- a private method of a class that the tables say can be made, by its rows of tables_1 -/
def lw_okq (q : MethodName × Nat) : Prop := (q.1.cls ≠ "java/lang/invoke/MethodHandle" ∧ q.1.cls ≠ "java/lang/invoke/VarHandle") ∧ Cond.instantiable q.1.cls q.2 ∈ tables_1 ∧ Cond.privateMethod q.1 ∈ tables_1 ∧ Cond.instanceMethod q.1 ∈ tables_1
theorem lw_p0 : lw_okq (⟨"FloorEyes", "makePlanStand", "()V"⟩, 7) := ⟨⟨by decide +kernel, by decide +kernel⟩, List.mem_of_getElem? (i := 20) (by decide +kernel), List.mem_of_getElem? (i := 181) (by decide +kernel), List.mem_of_getElem? (i := 182) (by decide +kernel)⟩
theorem lw_p1 : lw_okq (⟨"FloorEyes$Plan", "begin", "()V"⟩, 2) := ⟨⟨by decide +kernel, by decide +kernel⟩, List.mem_of_getElem? (i := 111) (by decide +kernel), List.mem_of_getElem? (i := 185) (by decide +kernel), List.mem_of_getElem? (i := 186) (by decide +kernel)⟩
theorem lw_p2 : lw_okq (⟨"FloorEyes", "onlyThere", "(I)I"⟩, 7) := ⟨⟨by decide +kernel, by decide +kernel⟩, List.mem_of_getElem? (i := 20) (by decide +kernel), List.mem_of_getElem? (i := 192) (by decide +kernel), List.mem_of_getElem? (i := 193) (by decide +kernel)⟩
theorem lw_p3 : lw_okq (⟨"FloorEyes$Watch", "look", "([LFloorEyes$Eye;II)V"⟩, 3) := ⟨⟨by decide +kernel, by decide +kernel⟩, List.mem_of_getElem? (i := 91) (by decide +kernel), List.mem_of_getElem? (i := 196) (by decide +kernel), List.mem_of_getElem? (i := 197) (by decide +kernel)⟩
theorem lw_p4 : lw_okq (⟨"FloorEyes$Eye", "waysThatSee", "(I)I"⟩, 12) := ⟨⟨by decide +kernel, by decide +kernel⟩, List.mem_of_getElem? (i := 205) (by decide +kernel), List.mem_of_getElem? (i := 203) (by decide +kernel), List.mem_of_getElem? (i := 204) (by decide +kernel)⟩
theorem lw_p5 : lw_okq (⟨"FloorEyes$Floor", "isWalledIn", "(II)Z"⟩, 4) := ⟨⟨by decide +kernel, by decide +kernel⟩, List.mem_of_getElem? (i := 28) (by decide +kernel), List.mem_of_getElem? (i := 208) (by decide +kernel), List.mem_of_getElem? (i := 209) (by decide +kernel)⟩
theorem lw_p6 : lw_okq (⟨"FloorEyes$Eye", "waysTo", "(II)I"⟩, 12) := ⟨⟨by decide +kernel, by decide +kernel⟩, List.mem_of_getElem? (i := 205) (by decide +kernel), List.mem_of_getElem? (i := 224) (by decide +kernel), List.mem_of_getElem? (i := 225) (by decide +kernel)⟩
theorem lw_p7 : lw_okq (⟨"FloorEyes$Floor", "isFigureFree", "(III)Z"⟩, 4) := ⟨⟨by decide +kernel, by decide +kernel⟩, List.mem_of_getElem? (i := 28) (by decide +kernel), List.mem_of_getElem? (i := 231) (by decide +kernel), List.mem_of_getElem? (i := 232) (by decide +kernel)⟩
theorem lw_p8 : lw_okq (⟨"FloorEyes$Beam", "start", "(II)V"⟩, 10) := ⟨⟨by decide +kernel, by decide +kernel⟩, List.mem_of_getElem? (i := 34) (by decide +kernel), List.mem_of_getElem? (i := 235) (by decide +kernel), List.mem_of_getElem? (i := 236) (by decide +kernel)⟩
theorem lw_p9 : lw_okq (⟨"FloorEyes$Beam", "take", "(II)V"⟩, 10) := ⟨⟨by decide +kernel, by decide +kernel⟩, List.mem_of_getElem? (i := 34) (by decide +kernel), List.mem_of_getElem? (i := 241) (by decide +kernel), List.mem_of_getElem? (i := 242) (by decide +kernel)⟩
theorem lw_p10 : lw_okq (⟨"FloorEyes$Beam", "isFreeOf", "([Z)Z"⟩, 10) := ⟨⟨by decide +kernel, by decide +kernel⟩, List.mem_of_getElem? (i := 34) (by decide +kernel), List.mem_of_getElem? (i := 247) (by decide +kernel), List.mem_of_getElem? (i := 248) (by decide +kernel)⟩
theorem lw_p11 : lw_okq (⟨"FloorEyes$Watch", "note", "(LFloorEyes$Eye;II)V"⟩, 3) := ⟨⟨by decide +kernel, by decide +kernel⟩, List.mem_of_getElem? (i := 91) (by decide +kernel), List.mem_of_getElem? (i := 251) (by decide +kernel), List.mem_of_getElem? (i := 252) (by decide +kernel)⟩
theorem lw_p12 : lw_okq (⟨"FloorEyes$Eye", "wayBitAt", "(I)I"⟩, 12) := ⟨⟨by decide +kernel, by decide +kernel⟩, List.mem_of_getElem? (i := 205) (by decide +kernel), List.mem_of_getElem? (i := 255) (by decide +kernel), List.mem_of_getElem? (i := 256) (by decide +kernel)⟩
theorem lw_p13 : lw_okq (⟨"FloorEyes$Plan", "addNeeds", "(LFloorEyes$Watch;)V"⟩, 2) := ⟨⟨by decide +kernel, by decide +kernel⟩, List.mem_of_getElem? (i := 111) (by decide +kernel), List.mem_of_getElem? (i := 259) (by decide +kernel), List.mem_of_getElem? (i := 260) (by decide +kernel)⟩
theorem lw_p14 : lw_okq (⟨"FloorEyes$Plan", "addNeed", "(I)V"⟩, 2) := ⟨⟨by decide +kernel, by decide +kernel⟩, List.mem_of_getElem? (i := 111) (by decide +kernel), List.mem_of_getElem? (i := 263) (by decide +kernel), List.mem_of_getElem? (i := 264) (by decide +kernel)⟩
theorem lw_p15 : lw_okq (⟨"FloorEyes", "showersOf", "(I)I"⟩, 7) := ⟨⟨by decide +kernel, by decide +kernel⟩, List.mem_of_getElem? (i := 20) (by decide +kernel), List.mem_of_getElem? (i := 267) (by decide +kernel), List.mem_of_getElem? (i := 268) (by decide +kernel)⟩
def lw_privs_1 : List (MethodName × Nat) := [(⟨"FloorEyes", "makePlanStand", "()V"⟩, 7), (⟨"FloorEyes$Plan", "begin", "()V"⟩, 2), (⟨"FloorEyes", "onlyThere", "(I)I"⟩, 7), (⟨"FloorEyes$Watch", "look", "([LFloorEyes$Eye;II)V"⟩, 3), (⟨"FloorEyes$Eye", "waysThatSee", "(I)I"⟩, 12), (⟨"FloorEyes$Floor", "isWalledIn", "(II)Z"⟩, 4), (⟨"FloorEyes$Eye", "waysTo", "(II)I"⟩, 12), (⟨"FloorEyes$Floor", "isFigureFree", "(III)Z"⟩, 4), (⟨"FloorEyes$Beam", "start", "(II)V"⟩, 10), (⟨"FloorEyes$Beam", "take", "(II)V"⟩, 10), (⟨"FloorEyes$Beam", "isFreeOf", "([Z)Z"⟩, 10), (⟨"FloorEyes$Watch", "note", "(LFloorEyes$Eye;II)V"⟩, 3), (⟨"FloorEyes$Eye", "wayBitAt", "(I)I"⟩, 12), (⟨"FloorEyes$Plan", "addNeeds", "(LFloorEyes$Watch;)V"⟩, 2), (⟨"FloorEyes$Plan", "addNeed", "(I)V"⟩, 2), (⟨"FloorEyes", "showersOf", "(I)I"⟩, 7)]
theorem lw_r1 : ∀ q ∈ lw_privs_1, lw_okq q := List.forall_mem_cons.mpr ⟨lw_p0, List.forall_mem_cons.mpr ⟨lw_p1, List.forall_mem_cons.mpr ⟨lw_p2, List.forall_mem_cons.mpr ⟨lw_p3, List.forall_mem_cons.mpr ⟨lw_p4, List.forall_mem_cons.mpr ⟨lw_p5, List.forall_mem_cons.mpr ⟨lw_p6, List.forall_mem_cons.mpr ⟨lw_p7, List.forall_mem_cons.mpr ⟨lw_p8, List.forall_mem_cons.mpr ⟨lw_p9, List.forall_mem_cons.mpr ⟨lw_p10, List.forall_mem_cons.mpr ⟨lw_p11, List.forall_mem_cons.mpr ⟨lw_p12, List.forall_mem_cons.mpr ⟨lw_p13, List.forall_mem_cons.mpr ⟨lw_p14, List.forall_mem_cons.mpr ⟨lw_p15, fun _ h => absurd h List.not_mem_nil⟩⟩⟩⟩⟩⟩⟩⟩⟩⟩⟩⟩⟩⟩⟩⟩
theorem lw_p16 : lw_okq (⟨"FloorEyes$Eye", "everShows", "(I)Z"⟩, 12) := ⟨⟨by decide +kernel, by decide +kernel⟩, List.mem_of_getElem? (i := 205) (by decide +kernel), List.mem_of_getElem? (i := 271) (by decide +kernel), List.mem_of_getElem? (i := 272) (by decide +kernel)⟩
theorem lw_p17 : lw_okq (⟨"FloorEyes$Eye", "waysThatShow", "(I)I"⟩, 12) := ⟨⟨by decide +kernel, by decide +kernel⟩, List.mem_of_getElem? (i := 205) (by decide +kernel), List.mem_of_getElem? (i := 275) (by decide +kernel), List.mem_of_getElem? (i := 276) (by decide +kernel)⟩
theorem lw_p18 : lw_okq (⟨"FloorEyes$Floor", "isLineFree", "(IIII)Z"⟩, 4) := ⟨⟨by decide +kernel, by decide +kernel⟩, List.mem_of_getElem? (i := 28) (by decide +kernel), List.mem_of_getElem? (i := 279) (by decide +kernel), List.mem_of_getElem? (i := 280) (by decide +kernel)⟩
theorem lw_p19 : lw_okq (⟨"FloorEyes$Plan", "addShowers", "(I)V"⟩, 2) := ⟨⟨by decide +kernel, by decide +kernel⟩, List.mem_of_getElem? (i := 111) (by decide +kernel), List.mem_of_getElem? (i := 283) (by decide +kernel), List.mem_of_getElem? (i := 284) (by decide +kernel)⟩
theorem lw_p20 : lw_okq (⟨"FloorEyes$Plan", "finish", "()V"⟩, 2) := ⟨⟨by decide +kernel, by decide +kernel⟩, List.mem_of_getElem? (i := 111) (by decide +kernel), List.mem_of_getElem? (i := 287) (by decide +kernel), List.mem_of_getElem? (i := 288) (by decide +kernel)⟩
theorem lw_p21 : lw_okq (⟨"FloorEyes$Plan", "holds", "(IZ)Z"⟩, 2) := ⟨⟨by decide +kernel, by decide +kernel⟩, List.mem_of_getElem? (i := 111) (by decide +kernel), List.mem_of_getElem? (i := 293) (by decide +kernel), List.mem_of_getElem? (i := 294) (by decide +kernel)⟩
theorem lw_p22 : lw_okq (⟨"FloorEyes$Plan", "misses", "(I)Z"⟩, 2) := ⟨⟨by decide +kernel, by decide +kernel⟩, List.mem_of_getElem? (i := 111) (by decide +kernel), List.mem_of_getElem? (i := 297) (by decide +kernel), List.mem_of_getElem? (i := 298) (by decide +kernel)⟩
theorem lw_p23 : lw_okq (⟨"FloorEyes", "priceOf", "(I)I"⟩, 7) := ⟨⟨by decide +kernel, by decide +kernel⟩, List.mem_of_getElem? (i := 20) (by decide +kernel), List.mem_of_getElem? (i := 305) (by decide +kernel), List.mem_of_getElem? (i := 306) (by decide +kernel)⟩
theorem lw_p24 : lw_okq (⟨"FloorEyes", "everSeen", "(II)Z"⟩, 7) := ⟨⟨by decide +kernel, by decide +kernel⟩, List.mem_of_getElem? (i := 20) (by decide +kernel), List.mem_of_getElem? (i := 323) (by decide +kernel), List.mem_of_getElem? (i := 324) (by decide +kernel)⟩
theorem lw_p25 : lw_okq (⟨"FloorEyes$Eye", "everSees", "(I)Z"⟩, 12) := ⟨⟨by decide +kernel, by decide +kernel⟩, List.mem_of_getElem? (i := 205) (by decide +kernel), List.mem_of_getElem? (i := 327) (by decide +kernel), List.mem_of_getElem? (i := 328) (by decide +kernel)⟩
theorem lw_p26 : lw_okq (⟨"FloorEyes$Walk", "clear", "()I"⟩, 6) := ⟨⟨by decide +kernel, by decide +kernel⟩, List.mem_of_getElem? (i := 125) (by decide +kernel), List.mem_of_getElem? (i := 336) (by decide +kernel), List.mem_of_getElem? (i := 337) (by decide +kernel)⟩
theorem lw_p27 : lw_okq (⟨"java/lang/Throwable", "fillInStackTrace", "(I)Ljava/lang/Throwable;"⟩, 6) := ⟨⟨by decide +kernel, by decide +kernel⟩, List.mem_of_getElem? (i := 397) (by decide +kernel), List.mem_of_getElem? (i := 395) (by decide +kernel), List.mem_of_getElem? (i := 396) (by decide +kernel)⟩
theorem lw_p28 : lw_okq (⟨"FloorEyes$Floor", "shutRectangle", "(IIZ)I"⟩, 4) := ⟨⟨by decide +kernel, by decide +kernel⟩, List.mem_of_getElem? (i := 28) (by decide +kernel), List.mem_of_getElem? (i := 427) (by decide +kernel), List.mem_of_getElem? (i := 428) (by decide +kernel)⟩
theorem lw_p29 : lw_okq (⟨"FloorEyes$Eye", "forgetSights", "()V"⟩, 12) := ⟨⟨by decide +kernel, by decide +kernel⟩, List.mem_of_getElem? (i := 205) (by decide +kernel), List.mem_of_getElem? (i := 434) (by decide +kernel), List.mem_of_getElem? (i := 435) (by decide +kernel)⟩
theorem lw_p30 : lw_okq (⟨"FloorEyes$Eye", "addWay", "(I)I"⟩, 12) := ⟨⟨by decide +kernel, by decide +kernel⟩, List.mem_of_getElem? (i := 205) (by decide +kernel), List.mem_of_getElem? (i := 544) (by decide +kernel), List.mem_of_getElem? (i := 545) (by decide +kernel)⟩
theorem lw_p31 : lw_okq (⟨"FloorEyes", "needEye", "(I)V"⟩, 7) := ⟨⟨by decide +kernel, by decide +kernel⟩, List.mem_of_getElem? (i := 20) (by decide +kernel), List.mem_of_getElem? (i := 555) (by decide +kernel), List.mem_of_getElem? (i := 556) (by decide +kernel)⟩
def lw_privs_2 : List (MethodName × Nat) := [(⟨"FloorEyes$Eye", "everShows", "(I)Z"⟩, 12), (⟨"FloorEyes$Eye", "waysThatShow", "(I)I"⟩, 12), (⟨"FloorEyes$Floor", "isLineFree", "(IIII)Z"⟩, 4), (⟨"FloorEyes$Plan", "addShowers", "(I)V"⟩, 2), (⟨"FloorEyes$Plan", "finish", "()V"⟩, 2), (⟨"FloorEyes$Plan", "holds", "(IZ)Z"⟩, 2), (⟨"FloorEyes$Plan", "misses", "(I)Z"⟩, 2), (⟨"FloorEyes", "priceOf", "(I)I"⟩, 7), (⟨"FloorEyes", "everSeen", "(II)Z"⟩, 7), (⟨"FloorEyes$Eye", "everSees", "(I)Z"⟩, 12), (⟨"FloorEyes$Walk", "clear", "()I"⟩, 6), (⟨"java/lang/Throwable", "fillInStackTrace", "(I)Ljava/lang/Throwable;"⟩, 6), (⟨"FloorEyes$Floor", "shutRectangle", "(IIZ)I"⟩, 4), (⟨"FloorEyes$Eye", "forgetSights", "()V"⟩, 12), (⟨"FloorEyes$Eye", "addWay", "(I)I"⟩, 12), (⟨"FloorEyes", "needEye", "(I)V"⟩, 7)]
theorem lw_r2 : ∀ q ∈ lw_privs_2, lw_okq q := List.forall_mem_cons.mpr ⟨lw_p16, List.forall_mem_cons.mpr ⟨lw_p17, List.forall_mem_cons.mpr ⟨lw_p18, List.forall_mem_cons.mpr ⟨lw_p19, List.forall_mem_cons.mpr ⟨lw_p20, List.forall_mem_cons.mpr ⟨lw_p21, List.forall_mem_cons.mpr ⟨lw_p22, List.forall_mem_cons.mpr ⟨lw_p23, List.forall_mem_cons.mpr ⟨lw_p24, List.forall_mem_cons.mpr ⟨lw_p25, List.forall_mem_cons.mpr ⟨lw_p26, List.forall_mem_cons.mpr ⟨lw_p27, List.forall_mem_cons.mpr ⟨lw_p28, List.forall_mem_cons.mpr ⟨lw_p29, List.forall_mem_cons.mpr ⟨lw_p30, List.forall_mem_cons.mpr ⟨lw_p31, fun _ h => absurd h List.not_mem_nil⟩⟩⟩⟩⟩⟩⟩⟩⟩⟩⟩⟩⟩⟩⟩⟩
theorem lw_p32 : lw_okq (⟨"FloorEyes$Eye", "seesAt", "(II)Z"⟩, 12) := ⟨⟨by decide +kernel, by decide +kernel⟩, List.mem_of_getElem? (i := 205) (by decide +kernel), List.mem_of_getElem? (i := 574) (by decide +kernel), List.mem_of_getElem? (i := 575) (by decide +kernel)⟩
theorem lw_p33 : lw_okq (⟨"FloorEyes$Eye", "showsAt", "(II)Z"⟩, 12) := ⟨⟨by decide +kernel, by decide +kernel⟩, List.mem_of_getElem? (i := 205) (by decide +kernel), List.mem_of_getElem? (i := 586) (by decide +kernel), List.mem_of_getElem? (i := 587) (by decide +kernel)⟩
theorem lw_p34 : lw_okq (⟨"FloorEyes$Watch", "longestGap", "()I"⟩, 3) := ⟨⟨by decide +kernel, by decide +kernel⟩, List.mem_of_getElem? (i := 91) (by decide +kernel), List.mem_of_getElem? (i := 597) (by decide +kernel), List.mem_of_getElem? (i := 598) (by decide +kernel)⟩
theorem lw_p35 : lw_okq (⟨"FloorEyes$Walk", "addCell", "(I)I"⟩, 6) := ⟨⟨by decide +kernel, by decide +kernel⟩, List.mem_of_getElem? (i := 125) (by decide +kernel), List.mem_of_getElem? (i := 609) (by decide +kernel), List.mem_of_getElem? (i := 610) (by decide +kernel)⟩
theorem lw_p36 : lw_okq (⟨"FloorEyes$Walk", "pursue", "([LFloorEyes$Eye;I)V"⟩, 6) := ⟨⟨by decide +kernel, by decide +kernel⟩, List.mem_of_getElem? (i := 125) (by decide +kernel), List.mem_of_getElem? (i := 637) (by decide +kernel), List.mem_of_getElem? (i := 638) (by decide +kernel)⟩
theorem lw_p37 : lw_okq (⟨"FloorEyes$Walk", "seersOf", "([LFloorEyes$Eye;II)I"⟩, 6) := ⟨⟨by decide +kernel, by decide +kernel⟩, List.mem_of_getElem? (i := 125) (by decide +kernel), List.mem_of_getElem? (i := 641) (by decide +kernel), List.mem_of_getElem? (i := 642) (by decide +kernel)⟩
theorem lw_p38 : lw_okq (⟨"FloorEyesModel", "throwsIf", "(ZI)Z"⟩, 22) := ⟨⟨by decide +kernel, by decide +kernel⟩, List.mem_of_getElem? (i := 651) (by decide +kernel), List.mem_of_getElem? (i := 738) (by decide +kernel), List.mem_of_getElem? (i := 739) (by decide +kernel)⟩
theorem lw_p39 : lw_okq (⟨"FloorEyesModel", "noCamera", "(I)Z"⟩, 22) := ⟨⟨by decide +kernel, by decide +kernel⟩, List.mem_of_getElem? (i := 651) (by decide +kernel), List.mem_of_getElem? (i := 763) (by decide +kernel), List.mem_of_getElem? (i := 764) (by decide +kernel)⟩
theorem lw_p40 : lw_okq (⟨"FloorEyesModel", "wayAt", "(II)I"⟩, 22) := ⟨⟨by decide +kernel, by decide +kernel⟩, List.mem_of_getElem? (i := 651) (by decide +kernel), List.mem_of_getElem? (i := 775) (by decide +kernel), List.mem_of_getElem? (i := 776) (by decide +kernel)⟩
theorem lw_p41 : lw_okq (⟨"FloorEyesModel", "seesIn", "(III)Z"⟩, 22) := ⟨⟨by decide +kernel, by decide +kernel⟩, List.mem_of_getElem? (i := 651) (by decide +kernel), List.mem_of_getElem? (i := 779) (by decide +kernel), List.mem_of_getElem? (i := 780) (by decide +kernel)⟩
theorem lw_p42 : lw_okq (⟨"FloorEyesModel", "holdsAll", "(III)Z"⟩, 22) := ⟨⟨by decide +kernel, by decide +kernel⟩, List.mem_of_getElem? (i := 651) (by decide +kernel), List.mem_of_getElem? (i := 783) (by decide +kernel), List.mem_of_getElem? (i := 784) (by decide +kernel)⟩
theorem lw_p43 : lw_okq (⟨"FloorEyesModel", "holds", "(IIII)Z"⟩, 22) := ⟨⟨by decide +kernel, by decide +kernel⟩, List.mem_of_getElem? (i := 651) (by decide +kernel), List.mem_of_getElem? (i := 787) (by decide +kernel), List.mem_of_getElem? (i := 788) (by decide +kernel)⟩
theorem lw_p44 : lw_okq (⟨"FloorEyesModel", "isBlocked", "(I)Z"⟩, 22) := ⟨⟨by decide +kernel, by decide +kernel⟩, List.mem_of_getElem? (i := 651) (by decide +kernel), List.mem_of_getElem? (i := 797) (by decide +kernel), List.mem_of_getElem? (i := 798) (by decide +kernel)⟩
theorem lw_p45 : lw_okq (⟨"FloorEyesModel", "isClear", "(II)Z"⟩, 22) := ⟨⟨by decide +kernel, by decide +kernel⟩, List.mem_of_getElem? (i := 651) (by decide +kernel), List.mem_of_getElem? (i := 801) (by decide +kernel), List.mem_of_getElem? (i := 802) (by decide +kernel)⟩
theorem lw_p46 : lw_okq (⟨"FloorEyesModel", "figure", "(II)V"⟩, 22) := ⟨⟨by decide +kernel, by decide +kernel⟩, List.mem_of_getElem? (i := 651) (by decide +kernel), List.mem_of_getElem? (i := 805) (by decide +kernel), List.mem_of_getElem? (i := 806) (by decide +kernel)⟩
theorem lw_p47 : lw_okq (⟨"FloorEyesModel", "isParted", "(I)Z"⟩, 22) := ⟨⟨by decide +kernel, by decide +kernel⟩, List.mem_of_getElem? (i := 651) (by decide +kernel), List.mem_of_getElem? (i := 809) (by decide +kernel), List.mem_of_getElem? (i := 810) (by decide +kernel)⟩
def lw_privs_3 : List (MethodName × Nat) := [(⟨"FloorEyes$Eye", "seesAt", "(II)Z"⟩, 12), (⟨"FloorEyes$Eye", "showsAt", "(II)Z"⟩, 12), (⟨"FloorEyes$Watch", "longestGap", "()I"⟩, 3), (⟨"FloorEyes$Walk", "addCell", "(I)I"⟩, 6), (⟨"FloorEyes$Walk", "pursue", "([LFloorEyes$Eye;I)V"⟩, 6), (⟨"FloorEyes$Walk", "seersOf", "([LFloorEyes$Eye;II)I"⟩, 6), (⟨"FloorEyesModel", "throwsIf", "(ZI)Z"⟩, 22), (⟨"FloorEyesModel", "noCamera", "(I)Z"⟩, 22), (⟨"FloorEyesModel", "wayAt", "(II)I"⟩, 22), (⟨"FloorEyesModel", "seesIn", "(III)Z"⟩, 22), (⟨"FloorEyesModel", "holdsAll", "(III)Z"⟩, 22), (⟨"FloorEyesModel", "holds", "(IIII)Z"⟩, 22), (⟨"FloorEyesModel", "isBlocked", "(I)Z"⟩, 22), (⟨"FloorEyesModel", "isClear", "(II)Z"⟩, 22), (⟨"FloorEyesModel", "figure", "(II)V"⟩, 22), (⟨"FloorEyesModel", "isParted", "(I)Z"⟩, 22)]
theorem lw_r3 : ∀ q ∈ lw_privs_3, lw_okq q := List.forall_mem_cons.mpr ⟨lw_p32, List.forall_mem_cons.mpr ⟨lw_p33, List.forall_mem_cons.mpr ⟨lw_p34, List.forall_mem_cons.mpr ⟨lw_p35, List.forall_mem_cons.mpr ⟨lw_p36, List.forall_mem_cons.mpr ⟨lw_p37, List.forall_mem_cons.mpr ⟨lw_p38, List.forall_mem_cons.mpr ⟨lw_p39, List.forall_mem_cons.mpr ⟨lw_p40, List.forall_mem_cons.mpr ⟨lw_p41, List.forall_mem_cons.mpr ⟨lw_p42, List.forall_mem_cons.mpr ⟨lw_p43, List.forall_mem_cons.mpr ⟨lw_p44, List.forall_mem_cons.mpr ⟨lw_p45, List.forall_mem_cons.mpr ⟨lw_p46, List.forall_mem_cons.mpr ⟨lw_p47, fun _ h => absurd h List.not_mem_nil⟩⟩⟩⟩⟩⟩⟩⟩⟩⟩⟩⟩⟩⟩⟩⟩
theorem lw_p48 : lw_okq (⟨"FloorEyesModel", "parts", "(IIIII)Z"⟩, 22) := ⟨⟨by decide +kernel, by decide +kernel⟩, List.mem_of_getElem? (i := 651) (by decide +kernel), List.mem_of_getElem? (i := 813) (by decide +kernel), List.mem_of_getElem? (i := 814) (by decide +kernel)⟩
theorem lw_p49 : lw_okq (⟨"FloorEyesModel", "showsIn", "(III)Z"⟩, 22) := ⟨⟨by decide +kernel, by decide +kernel⟩, List.mem_of_getElem? (i := 651) (by decide +kernel), List.mem_of_getElem? (i := 823) (by decide +kernel), List.mem_of_getElem? (i := 824) (by decide +kernel)⟩
theorem lw_p50 : lw_okq (⟨"FloorEyesModel", "isLine", "(III)Z"⟩, 22) := ⟨⟨by decide +kernel, by decide +kernel⟩, List.mem_of_getElem? (i := 651) (by decide +kernel), List.mem_of_getElem? (i := 827) (by decide +kernel), List.mem_of_getElem? (i := 828) (by decide +kernel)⟩
theorem lw_p51 : lw_okq (⟨"FloorEyesModel", "asks", "()V"⟩, 22) := ⟨⟨by decide +kernel, by decide +kernel⟩, List.mem_of_getElem? (i := 651) (by decide +kernel), List.mem_of_getElem? (i := 835) (by decide +kernel), List.mem_of_getElem? (i := 836) (by decide +kernel)⟩
theorem lw_p52 : lw_okq (⟨"FloorEyesModel", "looks", "(I)V"⟩, 22) := ⟨⟨by decide +kernel, by decide +kernel⟩, List.mem_of_getElem? (i := 651) (by decide +kernel), List.mem_of_getElem? (i := 839) (by decide +kernel), List.mem_of_getElem? (i := 840) (by decide +kernel)⟩
theorem lw_p53 : lw_okq (⟨"FloorEyesModel", "whoSees", "(I)I"⟩, 22) := ⟨⟨by decide +kernel, by decide +kernel⟩, List.mem_of_getElem? (i := 651) (by decide +kernel), List.mem_of_getElem? (i := 843) (by decide +kernel), List.mem_of_getElem? (i := 844) (by decide +kernel)⟩
theorem lw_p54 : lw_okq (⟨"FloorEyesModel", "those", "(I)I"⟩, 22) := ⟨⟨by decide +kernel, by decide +kernel⟩, List.mem_of_getElem? (i := 651) (by decide +kernel), List.mem_of_getElem? (i := 847) (by decide +kernel), List.mem_of_getElem? (i := 848) (by decide +kernel)⟩
theorem lw_p55 : lw_okq (⟨"FloorEyesModel", "isGood", "(IZ)Z"⟩, 22) := ⟨⟨by decide +kernel, by decide +kernel⟩, List.mem_of_getElem? (i := 651) (by decide +kernel), List.mem_of_getElem? (i := 851) (by decide +kernel), List.mem_of_getElem? (i := 852) (by decide +kernel)⟩
theorem lw_p56 : lw_okq (⟨"FloorEyesModel", "servesAsAsked", "(I)Z"⟩, 22) := ⟨⟨by decide +kernel, by decide +kernel⟩, List.mem_of_getElem? (i := 651) (by decide +kernel), List.mem_of_getElem? (i := 855) (by decide +kernel), List.mem_of_getElem? (i := 856) (by decide +kernel)⟩
theorem lw_p57 : lw_okq (⟨"FloorEyesModel", "costOf", "(I)I"⟩, 22) := ⟨⟨by decide +kernel, by decide +kernel⟩, List.mem_of_getElem? (i := 651) (by decide +kernel), List.mem_of_getElem? (i := 863) (by decide +kernel), List.mem_of_getElem? (i := 864) (by decide +kernel)⟩
theorem lw_p58 : lw_okq (⟨"FloorEyesModel", "follows", "(III)Z"⟩, 22) := ⟨⟨by decide +kernel, by decide +kernel⟩, List.mem_of_getElem? (i := 651) (by decide +kernel), List.mem_of_getElem? (i := 892) (by decide +kernel), List.mem_of_getElem? (i := 893) (by decide +kernel)⟩
def lw_privs_4 : List (MethodName × Nat) := [(⟨"FloorEyesModel", "parts", "(IIIII)Z"⟩, 22), (⟨"FloorEyesModel", "showsIn", "(III)Z"⟩, 22), (⟨"FloorEyesModel", "isLine", "(III)Z"⟩, 22), (⟨"FloorEyesModel", "asks", "()V"⟩, 22), (⟨"FloorEyesModel", "looks", "(I)V"⟩, 22), (⟨"FloorEyesModel", "whoSees", "(I)I"⟩, 22), (⟨"FloorEyesModel", "those", "(I)I"⟩, 22), (⟨"FloorEyesModel", "isGood", "(IZ)Z"⟩, 22), (⟨"FloorEyesModel", "servesAsAsked", "(I)Z"⟩, 22), (⟨"FloorEyesModel", "costOf", "(I)I"⟩, 22), (⟨"FloorEyesModel", "follows", "(III)Z"⟩, 22)]
theorem lw_r4 : ∀ q ∈ lw_privs_4, lw_okq q := List.forall_mem_cons.mpr ⟨lw_p48, List.forall_mem_cons.mpr ⟨lw_p49, List.forall_mem_cons.mpr ⟨lw_p50, List.forall_mem_cons.mpr ⟨lw_p51, List.forall_mem_cons.mpr ⟨lw_p52, List.forall_mem_cons.mpr ⟨lw_p53, List.forall_mem_cons.mpr ⟨lw_p54, List.forall_mem_cons.mpr ⟨lw_p55, List.forall_mem_cons.mpr ⟨lw_p56, List.forall_mem_cons.mpr ⟨lw_p57, List.forall_mem_cons.mpr ⟨lw_p58, fun _ h => absurd h List.not_mem_nil⟩⟩⟩⟩⟩⟩⟩⟩⟩⟩⟩
def lw_privs : List (MethodName × Nat) := lw_privs_1 ++ (lw_privs_2 ++ (lw_privs_3 ++ (lw_privs_4)))
def lw_tbl : List Cond := k2_sels lw_privs ++ tables_1
theorem lw_privs_ok : ∀ q ∈ lw_privs, lw_okq q := by
  show ∀ q ∈ lw_privs_1 ++ (lw_privs_2 ++ (lw_privs_3 ++ (lw_privs_4))), lw_okq q
  exact List.forall_mem_append.mpr ⟨lw_r1, List.forall_mem_append.mpr ⟨lw_r2, List.forall_mem_append.mpr ⟨lw_r3, lw_r4⟩⟩⟩
end
section
section VXA
section Ends
variable {p : Program} {l : Launch} {e : Env} {R : Room} {s : State} {m : MethodId} {args : Array Value} {below : List Frame} {meth : Method} {c : Code} {H : Heap} {locs : List Loc} {cells slots : Nat} {Q : State → Prop}
theorem vx_frame {U : State} {k n : Nat} (h : s.sameButNew ({ U with vm := s.vm } : State) locs k n) : s.heap.size ≤ U.heap.size ∧ ∀ q : Nat, q < s.heap.size → (∀ z ∈ locs, z.base ≠ q) → U.heap[q]? = s.heap[q]? := by
  obtain ⟨-, h2, -, -, -, h6⟩ := h
  refine ⟨h2, fun q hq hz => ?_⟩
  obtain ⟨c9, e1, e2, e3, e4⟩ := h6 q _ (Array.getElem?_eq_getElem hq)
  have hs : c9.slots = (s.heap[q]).slots := Array.ext_getElem? fun i => e4 i fun hm => hz _ hm rfl
  have h9 : c9 = s.heap[q] := by
    rw [hs] at e2
    exact e2
  have e5 : U.heap[q]? = some c9 := e1
  rw [e5, h9, Array.getElem?_eq_getElem hq]
/-- the words of a throw but the four that speak of the heap -/
def vx_no (w : Cond) : Bool := decide (w ≠ .isRef (.static Bundle.tN "UNASSIGNED_STACK" Bundle.steD)) && decide (w ≠ .isRef (.static Bundle.tN "SUPPRESSED_SENTINEL" Bundle.listD)) && decide (w ≠ .laysStatic Bundle.tN "UNASSIGNED_STACK" Bundle.steD) && decide (w ≠ .laysStatic Bundle.tN "SUPPRESSED_SENTINEL" Bundle.listD)
def vx_atS (own : String) (ic : Nat) (X : String) (names : List String) : List Cond := (Bundle.ownAtoms own ic X names).filter vx_no
/-- a word that the tables alone decide, or a good one -/
def vx_ot (w : Cond) : Bool := w.onTables || goodWord w
theorem vx_ot_at {args a' : Array Value} {s U : State} {w : Cond} (hW : s.WarmedH U.vm) (hvm : s.vm = U.vm) (hg : vx_ot w = true) (h : w.before args s = true) : w.before a' U = true := by
  simp only [vx_ot, Bool.or_eq_true] at hg
  rcases hg with hg | hg
  · exact va_tabs hg hvm h
  · exact word_at hW (good_of_word hg) h
/-- a list's words: the good ones out of the method's own list, the others by premises of their own -/
theorem vx_hat {args : Array Value} {s : State} {L B : List Cond} (h1 : ∀ w ∈ L.filter goodWord, w.before args s = true) (h2 : ∀ w ∈ L.filter (fun w => !goodWord w), w ∈ B) (h3 : ∀ w ∈ B, w.before args s = true) : ∀ w ∈ L, w.before args s = true := by
  intro w hw
  by_cases g : goodWord w = true
  · exact h1 w (List.mem_filter.mpr ⟨hw, g⟩)
  · refine h3 w (h2 w (List.mem_filter.mpr ⟨hw, ?_⟩))
    show (!goodWord w) = true
    cases hgw : goodWord w
    · rfl
    · exact absurd hgw g
theorem vx_c {args : Array Value} {s : State} {w : Cond} {B : List Cond} (h : w.before args s = true) (t : ∀ w ∈ B, w.before args s = true) : ∀ w' ∈ w :: B, w'.before args s = true := fun w' h' => (List.mem_cons.mp h').elim (fun e => by rw [e]; exact h) (t w')
theorem vx_n {args : Array Value} {s : State} : ∀ w ∈ ([] : List Cond), w.before args s = true := fun _ h => nomatch h
theorem vx_own {args : Array Value} {s : State} {L : List Cond} (h1 : ∀ w ∈ L.filter vx_no, w.before args s = true)
    (hU : (Cond.isRef (.static Bundle.tN "UNASSIGNED_STACK" Bundle.steD)).before args s = true) (hN : (Cond.isRef (.static Bundle.tN "SUPPRESSED_SENTINEL" Bundle.listD)).before args s = true)
    (lU : (Cond.laysStatic Bundle.tN "UNASSIGNED_STACK" Bundle.steD).before args s = true) (lN : (Cond.laysStatic Bundle.tN "SUPPRESSED_SENTINEL" Bundle.listD).before args s = true) : ∀ w ∈ L, w.before args s = true := by
  intro w hw
  by_cases e1 : w = .isRef (.static Bundle.tN "UNASSIGNED_STACK" Bundle.steD)
  · rw [e1]; exact hU
  · by_cases e2 : w = .isRef (.static Bundle.tN "SUPPRESSED_SENTINEL" Bundle.listD)
    · rw [e2]; exact hN
    · by_cases e3 : w = .laysStatic Bundle.tN "UNASSIGNED_STACK" Bundle.steD
      · rw [e3]; exact lU
      · by_cases e4 : w = .laysStatic Bundle.tN "SUPPRESSED_SENTINEL" Bundle.listD
        · rw [e4]; exact lN
        · exact h1 w (List.mem_filter.mpr ⟨hw, by unfold vx_no; rw [decide_eq_true e1, decide_eq_true e2, decide_eq_true e3, decide_eq_true e4]; rfl⟩)
/-- where a static field lies, its class's statics cell in H -/
def vx_L (C n d : String) (A : Nat → Prop) (U : State) (H : Heap) : Prop := ∃ (c : ClassId) (k : Class) (i : Nat) (f : Field) (a : Nat) (cell : Cell), U.vm.findClass C = some c ∧ U.fieldFound? C n d = some (c, k, i, f) ∧ f.isStatic = true ∧ k.statics = some a ∧ H[a]? = some cell ∧ cell.vm.isStatics = true ∧ cell.cls = c ∧ f.slot < cell.slots.size ∧ k.staticTypes[f.slot]? = some f.type ∧ ¬ A a
theorem vx_L.moved {C n d : String} {A : Nat → Prop} {u U : State} {H : Heap} (hvm : u.vm.Alike U.vm) (h : vx_L C n d A u H) : vx_L C n d A U H := by
  obtain ⟨c, k, i, f, a, cell, h1, h2, h3, h4, h5, h6, h7, h8, h9, h10⟩ := h
  obtain ⟨k', hi', he⟩ := State.fieldFound?_setVm hvm h2
  exact ⟨c, k', i, f, a, cell, by rw [hvm.findClass]; exact h1, hi', h3, by rw [he]; exact h4, h5, h6, h7, h8, by rw [he]; exact h9, h10⟩
theorem vx_L.kept {C n d : String} {A : Nat → Prop} {U : State} {H H1 : Heap} (h : vx_L C n d A U H) (hq : ∀ a : Nat, a < H.size → ¬ A a → H1[a]? = H[a]?) : vx_L C n d A U H1 := by
  obtain ⟨c, k, i, f, a, cell, h1, h2, h3, h4, h5, h6, h7, h8, h9, h10⟩ := h
  exact ⟨c, k, i, f, a, cell, h1, h2, h3, h4, by rw [hq a (Array.getElem?_eq_some_iff.mp h5).1 h10]; exact h5, h6, h7, h8, h9, h10⟩
theorem vx_L.narrow {C n d : String} {A B : Nat → Prop} {U : State} {H : Heap} (h : vx_L C n d A U H) (hAB : ∀ q, B q → A q) : vx_L C n d B U H := by
  obtain ⟨c, k, i, f, a, cell, h1, h2, h3, h4, h5, h6, h7, h8, h9, h10⟩ := h
  exact ⟨c, k, i, f, a, cell, h1, h2, h3, h4, h5, h6, h7, h8, h9, fun z => h10 (hAB _ z)⟩
theorem vx_L.word {C n d : String} {A : Nat → Prop} {s : State} {args : Array Value} (h : vx_L C n d A s s.heap) : (Cond.laysStatic C n d).before args s = true := by
  obtain ⟨c, k, i, f, a, cell, h1, h2, h3, h4, h5, h6, h7, h8, h9, -⟩ := h
  show (Cond.laysStatic C n d).holds args s none s [] = true
  exact Cond.laysStatic_of h1 h2 h3 h4 h5 h6 h7 h8 h9
/-- .. and what it holds: null or some reference -/
def vx_Zq (C n d : String) (A : Nat → Prop) (U : State) (H : Heap) : Prop := va_Zq C n d A U H ∧ vx_L C n d A U H
theorem vx_Zq.moved {C n d : String} {A : Nat → Prop} {u U : State} {H : Heap} (hvm : u.vm.Alike U.vm) (h : vx_Zq C n d A u H) : vx_Zq C n d A U H := ⟨va_Zq.moved hvm h.1, vx_L.moved hvm h.2⟩
theorem vx_Zq.kept {C n d : String} {A : Nat → Prop} {U : State} {H H1 : Heap} (h : vx_Zq C n d A U H) (hq : ∀ a : Nat, a < H.size → ¬ A a → H1[a]? = H[a]?) : vx_Zq C n d A U H1 := ⟨va_Zq.kept h.1 hq, vx_L.kept h.2 hq⟩
theorem vx_Zq.narrow {C n d : String} {A B : Nat → Prop} {U : State} {H : Heap} (h : vx_Zq C n d A U H) (hAB : ∀ q, B q → A q) : vx_Zq C n d B U H := ⟨va_Zq.narrow h.1 hAB, vx_L.narrow h.2 hAB⟩
theorem vx_Zqof {args : Array Value} {s : State} {C n d : String} {A : Nat → Prop} (hl : (Cond.laysStatic C n d).before args s = true) (hini : (Cond.initialized C).before args s = true) (h : (Cond.isRef (.static C n d)).before args s = true) (hA : ∀ a : Nat, a < s.heap.size → ¬ A a) : vx_Zq C n d A s s.heap := by
  refine ⟨va_Zqof hl hini h hA, ?_⟩
  obtain ⟨c, k, i, f, a, cell, h1, h2, h3, h4, h5, h6, h7, h8, h9⟩ := Cond.laysStatic_spec hl
  exact ⟨c, k, i, f, a, cell, h1, h2, h3, h4, h5, h6, h7, h8, h9, hA a (Array.getElem?_eq_some_iff.mp h5).1⟩
theorem vx_isRef {C n d : String} {v : Value} {A : Nat → Prop} {s : State} {args : Array Value} (h : va_Z C n d v A s s.heap) (hv : v.isRef = true) : (Cond.isRef (.static C n d)).before args s = true := by
  obtain ⟨cf, kf, fi, f, a, cell, h1, h2, h3, h4, h5, h6, h7, -⟩ := h
  have he : (Term.static C n d).eval args s none [] s = some v := by
    simp [Term.eval, State.fieldNamed?, h1, h2, h4, h5, h6, h7]
  simp only [Cond.before, Cond.holds, Cond.value, he]
  cases v <;> simp_all [Value.isRef]
theorem vx_isRefq {C n d : String} {A : Nat → Prop} {s : State} {args : Array Value} (h : va_Zq C n d A s s.heap) : (Cond.isRef (.static C n d)).before args s = true := by
  rcases h with h | ⟨t, h⟩
  · exact vx_isRef h rfl
  · exact vx_isRef h rfl
/-- the same frame, seen from here: as if the method were called anew in this heap -/
theorem vx_rebase {T : State} (X : Stand p l e R s m args below meth c T locs cells slots) {R' : Room} (hf : R'.frames ≤ R.frames) (hl : R'.locals ≤ R.locals) (hc : cells + R'.cells ≤ R.cells) (hs : slots + R'.slots ≤ R.slots) :
    Stand p l e R' ((T.setVm s.vm).setFrames (.invoking m args :: below)) m args below meth c T [] 0 0 := by
  have htop : (T.setVm s.vm).topJava?.isSome := X.here.top
  have hF : ((T.setVm s.vm).setFrames (.invoking m args :: below)).frames = .invoking m args :: below := State.frames_setFrames _ (State.cur_lt_of_top htop)
  obtain ⟨g₀, hg0⟩ := Option.isSome_iff_exists.mp htop
  obtain ⟨r, hr⟩ := State.topJava?_eq_some.mp hg0
  have hl9 : e.platform.stackLimits (T.setVm s.vm).me = e.platform.stackLimits s.me := X.limits
  have hb9 : (T.setVm s.vm).me.stackBytes = s.me.stackBytes := X.bytes
  refine ⟨X.admits, X.cas, X.clock, hF, ?_, X.hears, X.method, X.code, X.here, X.tail, X.warmed, ?_, ?_, ?_⟩
  · have h := X.room
    have hU : ((T.setVm s.vm).setFrames (.invoking m args :: below)).localsInUse = s.localsInUse := by
      rw [State.localsInUse_invoking hF (meth := meth) (c := c) X.method X.code, State.localsInUse_invoking X.frames X.method X.code]
    simp only [State.hasRoom, Bool.and_eq_true, decide_eq_true_eq] at h ⊢
    obtain ⟨⟨⟨⟨h1, h2, h3, h4, h5, h6⟩, h7⟩, h8⟩, h9⟩ := h
    rw [X.frames, List.length_cons] at h2 h3
    have q1 := X.heapSize
    have q2 := X.used
    simp only [hF, hU, List.length_cons, State.stackLimits_setFrames, State.stackBytes_setFrames, hl9, hb9]
    refine ⟨⟨⟨⟨by omega, by omega, by omega, by omega, by omega, h6⟩, ?_⟩, ?_⟩, X.book⟩
    · show T.heap.size + R'.cells ≤ e.platform.maxCells
      omega
    · show T.slotsUsed + R'.slots ≤ e.platform.maxSlots
      omega
  · rw [State.stackLimits_setFrames]; rfl
  · rw [State.stackBytes_setFrames]; rfl
  · refine ⟨?_, Nat.le_refl _, Nat.le_refl _, ?_, ?_, fun a c9 h9 => ⟨c9, h9, rfl, rfl, fun _ _ => rfl⟩⟩
    · obtain ⟨t, ht, -⟩ := State.frames_cons hr
      show T.setVm s.vm = { ((T.setVm s.vm).setFrames (.invoking m args :: below)).setFrames (T.setVm s.vm).frames with heap := T.heap, slotsUsed := T.slotsUsed }
      rw [State.setFrames_setFrames, State.setFrames_self ht]
      rfl
    · show T.slotsUsed = T.slotsUsed + ((T.heap.toList.drop T.heap.size).map (·.slots.size)).sum
      rw [List.drop_eq_nil_of_le (Nat.le_of_eq Array.length_toList)]
      rfl
    · show ((T.heap.toList.drop T.heap.size).map (·.slots.size)).sum ≤ 0
      rw [List.drop_eq_nil_of_le (Nat.le_of_eq Array.length_toList)]
      exact Nat.le_refl _
end Ends
end VXA
end
section
def RX0 : String := "FloorEyes$Beam"
def TX0 : u_T := fun k => match k with
  | 0 => ("FloorEyes$Beam", "eyeX", "I", false)
  | 1 => ("FloorEyes$Beam", "eyeY", "I", false)
  | 2 => ("FloorEyes$Beam", "left", "I", false)
  | 3 => ("FloorEyes$Beam", "right", "I", false)
  | 4 => ("FloorEyes$Beam", "top", "I", false)
  | 5 => ("FloorEyes$Beam", "bottom", "I", false)
  | 6 => ("FloorEyes$Beam", "firstX", "I", false)
  | 7 => ("FloorEyes$Beam", "firstY", "I", false)
  | 8 => ("FloorEyes$Beam", "lastX", "I", false)
  | _ => ("FloorEyes$Beam", "lastY", "I", false)
def tyX0 : Nat → FieldType := fun k => match k with
  | 0 => .int
  | 1 => .int
  | 2 => .int
  | 3 => .int
  | 4 => .int
  | 5 => .int
  | 6 => .int
  | 7 => .int
  | 8 => .int
  | _ => .int
abbrev wsX00 : List Cond := u_ws RX0 TX0 10
theorem nmX0 : ∀ a, a < 10 → ∀ b, b < 10 → a ≠ b → (TX0 a).2.1 ≠ (TX0 b).2.1 := by decide +kernel
theorem tyX0_ok : ∀ k, k < 10 → parseFieldDescriptor (TX0 k).2.2.1 = some (tyX0 k) := by decide +kernel
abbrev cX0_init : ByteArray := prog_2_method_1_code
def yX0_init : MethodName := ⟨RX0, "<init>", "()V"⟩
abbrev cX0_start : ByteArray := prog_2_method_2_code
def yX0_start : MethodName := ⟨RX0, "start", "(II)V"⟩
abbrev cX0_take : ByteArray := prog_2_method_3_code
def yX0_take : MethodName := ⟨RX0, "take", "(II)V"⟩
abbrev cX0_isFreeOf : ByteArray := prog_2_method_4_code
def yX0_isFreeOf : MethodName := ⟨RX0, "isFreeOf", "([Z)Z"⟩
def RX1 : String := "FloorEyes$Eye"
def TX1 : u_T := fun k => match k with
  | 0 => ("FloorEyes$Eye", "floor", "LFloorEyes$Floor;", true)
  | 1 => ("FloorEyes$Eye", "x", "I", true)
  | 2 => ("FloorEyes$Eye", "y", "I", true)
  | 3 => ("FloorEyes$Eye", "reach", "I", true)
  | 4 => ("FloorEyes$Eye", "price", "I", true)
  | 5 => ("FloorEyes$Eye", "narrow", "Z", true)
  | 6 => ("FloorEyes$Eye", "round", "[I", true)
  | 7 => ("FloorEyes$Eye", "roundLength", "I", false)
  | 8 => ("FloorEyes$Eye", "roundWays", "I", false)
  | 9 => ("FloorEyes$Eye", "masked", "[Z", true)
  | 10 => ("FloorEyes$Eye", "seeingWays", "[I", true)
  | _ => ("FloorEyes$Eye", "showingWays", "[I", true)
def tyX1 : Nat → FieldType := fun k => match k with
  | 0 => .object "FloorEyes$Floor"
  | 1 => .int
  | 2 => .int
  | 3 => .int
  | 4 => .int
  | 5 => .boolean
  | 6 => .array .int
  | 7 => .int
  | 8 => .int
  | 9 => .array .boolean
  | 10 => .array .int
  | _ => .array .int
abbrev wsX10 : List Cond := u_ws RX1 TX1 12
theorem nmX1 : ∀ a, a < 12 → ∀ b, b < 12 → a ≠ b → (TX1 a).2.1 ≠ (TX1 b).2.1 := by decide +kernel
theorem tyX1_ok : ∀ k, k < 12 → parseFieldDescriptor (TX1 k).2.2.1 = some (tyX1 k) := by decide +kernel
abbrev cX1_init : ByteArray := prog_3_method_1_code
def yX1_init : MethodName := ⟨RX1, "<init>", "(LFloorEyes$Floor;IIIIZ)V"⟩
abbrev cX1_addWay : ByteArray := prog_3_method_2_code
def yX1_addWay : MethodName := ⟨RX1, "addWay", "(I)I"⟩
abbrev cX1_forgetSights : ByteArray := prog_3_method_3_code
def yX1_forgetSights : MethodName := ⟨RX1, "forgetSights", "()V"⟩
abbrev cX1_seesAt : ByteArray := prog_3_method_4_code
def yX1_seesAt : MethodName := ⟨RX1, "seesAt", "(II)Z"⟩
abbrev cX1_everSees : ByteArray := prog_3_method_5_code
def yX1_everSees : MethodName := ⟨RX1, "everSees", "(I)Z"⟩
abbrev cX1_showsAt : ByteArray := prog_3_method_6_code
def yX1_showsAt : MethodName := ⟨RX1, "showsAt", "(II)Z"⟩
abbrev cX1_everShows : ByteArray := prog_3_method_7_code
def yX1_everShows : MethodName := ⟨RX1, "everShows", "(I)Z"⟩
abbrev cX1_wayBitAt : ByteArray := prog_3_method_8_code
def yX1_wayBitAt : MethodName := ⟨RX1, "wayBitAt", "(I)I"⟩
abbrev cX1_waysThatSee : ByteArray := prog_3_method_9_code
def yX1_waysThatSee : MethodName := ⟨RX1, "waysThatSee", "(I)I"⟩
abbrev cX1_waysThatShow : ByteArray := prog_3_method_10_code
def yX1_waysThatShow : MethodName := ⟨RX1, "waysThatShow", "(I)I"⟩
abbrev cX1_waysTo : ByteArray := prog_3_method_11_code
def yX1_waysTo : MethodName := ⟨RX1, "waysTo", "(II)I"⟩
abbrev cX1_eighthsOf : ByteArray := prog_3_method_12_code
def yX1_eighthsOf : MethodName := ⟨RX1, "eighthsOf", "(II)I"⟩
def RX2 : String := "FloorEyes$Floor"
def TX2 : u_T := fun k => match k with
  | 0 => ("FloorEyes$Floor", "shut", "[Z", true)
  | 1 => ("FloorEyes$Floor", "told", "[Z", true)
  | 2 => ("FloorEyes$Floor", "hidden", "[Z", true)
  | _ => ("FloorEyes$Floor", "beam", "LFloorEyes$Beam;", true)
def tyX2 : Nat → FieldType := fun k => match k with
  | 0 => .array .boolean
  | 1 => .array .boolean
  | 2 => .array .boolean
  | _ => .object "FloorEyes$Beam"
abbrev wsX20 : List Cond := u_ws RX2 TX2 4
theorem nmX2 : ∀ a, a < 4 → ∀ b, b < 4 → a ≠ b → (TX2 a).2.1 ≠ (TX2 b).2.1 := by decide +kernel
theorem tyX2_ok : ∀ k, k < 4 → parseFieldDescriptor (TX2 k).2.2.1 = some (tyX2 k) := by decide +kernel
abbrev cX2_init : ByteArray := prog_4_method_1_code
def yX2_init : MethodName := ⟨RX2, "<init>", "()V"⟩
abbrev cX2_shutRectangle : ByteArray := prog_4_method_2_code
def yX2_shutRectangle : MethodName := ⟨RX2, "shutRectangle", "(IIZ)I"⟩
abbrev cX2_isWalledIn : ByteArray := prog_4_method_3_code
def yX2_isWalledIn : MethodName := ⟨RX2, "isWalledIn", "(II)Z"⟩
abbrev cX2_isFigureFree : ByteArray := prog_4_method_4_code
def yX2_isFigureFree : MethodName := ⟨RX2, "isFigureFree", "(III)Z"⟩
abbrev cX2_isLineFree : ByteArray := prog_4_method_5_code
def yX2_isLineFree : MethodName := ⟨RX2, "isLineFree", "(IIII)Z"⟩
abbrev cX2_cornerX : ByteArray := prog_4_method_6_code
def yX2_cornerX : MethodName := ⟨RX2, "cornerX", "(II)I"⟩
abbrev cX2_cornerY : ByteArray := prog_4_method_7_code
def yX2_cornerY : MethodName := ⟨RX2, "cornerY", "(II)I"⟩
def RX3 : String := "FloorEyes$Plan"
def TX3 : u_T := fun k => match k with
  | 0 => ("FloorEyes$Plan", "missed", "[J", true)
  | _ => ("FloorEyes$Plan", "showers", "I", false)
def tyX3 : Nat → FieldType := fun k => match k with
  | 0 => .array .long
  | _ => .int
abbrev wsX30 : List Cond := u_ws RX3 TX3 2
theorem nmX3 : ∀ a, a < 2 → ∀ b, b < 2 → a ≠ b → (TX3 a).2.1 ≠ (TX3 b).2.1 := by decide +kernel
theorem tyX3_ok : ∀ k, k < 2 → parseFieldDescriptor (TX3 k).2.2.1 = some (tyX3 k) := by decide +kernel
abbrev cX3_init : ByteArray := prog_5_method_1_code
def yX3_init : MethodName := ⟨RX3, "<init>", "()V"⟩
abbrev cX3_begin : ByteArray := prog_5_method_2_code
def yX3_begin : MethodName := ⟨RX3, "begin", "()V"⟩
abbrev cX3_addShowers : ByteArray := prog_5_method_3_code
def yX3_addShowers : MethodName := ⟨RX3, "addShowers", "(I)V"⟩
abbrev cX3_addNeeds : ByteArray := prog_5_method_4_code
def yX3_addNeeds : MethodName := ⟨RX3, "addNeeds", "(LFloorEyes$Watch;)V"⟩
abbrev cX3_addNeed : ByteArray := prog_5_method_5_code
def yX3_addNeed : MethodName := ⟨RX3, "addNeed", "(I)V"⟩
abbrev cX3_finish : ByteArray := prog_5_method_6_code
def yX3_finish : MethodName := ⟨RX3, "finish", "()V"⟩
abbrev cX3_holds : ByteArray := prog_5_method_7_code
def yX3_holds : MethodName := ⟨RX3, "holds", "(IZ)Z"⟩
abbrev cX3_misses : ByteArray := prog_5_method_8_code
def yX3_misses : MethodName := ⟨RX3, "misses", "(I)Z"⟩
def RX4 : String := "FloorEyes$Walk"
def TX4 : u_T := fun k => match k with
  | 0 => ("FloorEyes$Walk", "cells", "[I", true)
  | 1 => ("FloorEyes$Walk", "length", "I", false)
  | 2 => ("FloorEyes$Walk", "seenSteps", "I", false)
  | 3 => ("FloorEyes$Walk", "longestLoss", "I", false)
  | 4 => ("FloorEyes$Walk", "handovers", "I", false)
  | _ => ("FloorEyes$Walk", "first", "I", false)
def tyX4 : Nat → FieldType := fun k => match k with
  | 0 => .array .int
  | 1 => .int
  | 2 => .int
  | 3 => .int
  | 4 => .int
  | _ => .int
abbrev wsX40 : List Cond := u_ws RX4 TX4 6
theorem nmX4 : ∀ a, a < 6 → ∀ b, b < 6 → a ≠ b → (TX4 a).2.1 ≠ (TX4 b).2.1 := by decide +kernel
theorem tyX4_ok : ∀ k, k < 6 → parseFieldDescriptor (TX4 k).2.2.1 = some (tyX4 k) := by decide +kernel
abbrev cX4_init : ByteArray := prog_6_method_1_code
def yX4_init : MethodName := ⟨RX4, "<init>", "()V"⟩
abbrev cX4_addCell : ByteArray := prog_6_method_2_code
def yX4_addCell : MethodName := ⟨RX4, "addCell", "(I)I"⟩
abbrev cX4_clear : ByteArray := prog_6_method_3_code
def yX4_clear : MethodName := ⟨RX4, "clear", "()I"⟩
abbrev cX4_pursue : ByteArray := prog_6_method_4_code
def yX4_pursue : MethodName := ⟨RX4, "pursue", "([LFloorEyes$Eye;I)V"⟩
abbrev cX4_seersOf : ByteArray := prog_6_method_5_code
def yX4_seersOf : MethodName := ⟨RX4, "seersOf", "([LFloorEyes$Eye;II)I"⟩
def RX5 : String := "FloorEyes$Watch"
def TX5 : u_T := fun k => match k with
  | 0 => ("FloorEyes$Watch", "by24", "[I", true)
  | 1 => ("FloorEyes$Watch", "by5", "[I", true)
  | _ => ("FloorEyes$Watch", "by7", "[I", true)
def tyX5 : Nat → FieldType := fun k => match k with
  | 0 => .array .int
  | 1 => .array .int
  | _ => .array .int
abbrev wsX50 : List Cond := u_ws RX5 TX5 3
theorem nmX5 : ∀ a, a < 3 → ∀ b, b < 3 → a ≠ b → (TX5 a).2.1 ≠ (TX5 b).2.1 := by decide +kernel
theorem tyX5_ok : ∀ k, k < 3 → parseFieldDescriptor (TX5 k).2.2.1 = some (tyX5 k) := by decide +kernel
abbrev cX5_init : ByteArray := prog_7_method_1_code
def yX5_init : MethodName := ⟨RX5, "<init>", "()V"⟩
abbrev cX5_look : ByteArray := prog_7_method_2_code
def yX5_look : MethodName := ⟨RX5, "look", "([LFloorEyes$Eye;II)V"⟩
abbrev cX5_note : ByteArray := prog_7_method_3_code
def yX5_note : MethodName := ⟨RX5, "note", "(LFloorEyes$Eye;II)V"⟩
abbrev cX5_longestGap : ByteArray := prog_7_method_4_code
def yX5_longestGap : MethodName := ⟨RX5, "longestGap", "()I"⟩
def RX6 : String := "FloorEyes"
def TX6 : u_T := fun k => match k with
  | 0 => ("FloorEyes", "floor", "LFloorEyes$Floor;", true)
  | 1 => ("FloorEyes", "eyes", "[LFloorEyes$Eye;", true)
  | 2 => ("FloorEyes", "eyeCount", "I", false)
  | 3 => ("FloorEyes", "watch", "LFloorEyes$Watch;", true)
  | 4 => ("FloorEyes", "plan", "LFloorEyes$Plan;", true)
  | 5 => ("FloorEyes", "planStands", "Z", false)
  | _ => ("FloorEyes", "walk", "LFloorEyes$Walk;", true)
def tyX6 : Nat → FieldType := fun k => match k with
  | 0 => .object "FloorEyes$Floor"
  | 1 => .array (.object "FloorEyes$Eye")
  | 2 => .int
  | 3 => .object "FloorEyes$Watch"
  | 4 => .object "FloorEyes$Plan"
  | 5 => .boolean
  | _ => .object "FloorEyes$Walk"
abbrev wsX60 : List Cond := u_ws RX6 TX6 7
theorem nmX6 : ∀ a, a < 7 → ∀ b, b < 7 → a ≠ b → (TX6 a).2.1 ≠ (TX6 b).2.1 := by decide +kernel
theorem tyX6_ok : ∀ k, k < 7 → parseFieldDescriptor (TX6 k).2.2.1 = some (tyX6 k) := by decide +kernel
abbrev cX6_init : ByteArray := prog_1_method_1_code
def yX6_init : MethodName := ⟨RX6, "<init>", "()V"⟩
abbrev cX6_shut : ByteArray := prog_1_method_2_code
def yX6_shut : MethodName := ⟨RX6, "shut", "(IIZ)I"⟩
abbrev cX6_tell : ByteArray := prog_1_method_3_code
def yX6_tell : MethodName := ⟨RX6, "tell", "(IZ)Z"⟩
abbrev cX6_hide : ByteArray := prog_1_method_4_code
def yX6_hide : MethodName := ⟨RX6, "hide", "(IZ)Z"⟩
abbrev cX6_camera : ByteArray := prog_1_method_5_code
def yX6_camera : MethodName := ⟨RX6, "camera", "(IIIIZI)I"⟩
abbrev cX6_turn : ByteArray := prog_1_method_6_code
def yX6_turn : MethodName := ⟨RX6, "turn", "(II)I"⟩
abbrev cX6_mask : ByteArray := prog_1_method_7_code
def yX6_mask : MethodName := ⟨RX6, "mask", "(IIZ)Z"⟩
abbrev cX6_sees : ByteArray := prog_1_method_8_code
def yX6_sees : MethodName := ⟨RX6, "sees", "(III)Z"⟩
abbrev cX6_shows : ByteArray := prog_1_method_9_code
def yX6_shows : MethodName := ⟨RX6, "shows", "(III)Z"⟩
abbrev cX6_serves : ByteArray := prog_1_method_10_code
def yX6_serves : MethodName := ⟨RX6, "serves", "(IZ)Z"⟩
abbrev cX6_cheapest : ByteArray := prog_1_method_11_code
def yX6_cheapest : MethodName := ⟨RX6, "cheapest", "(Z)I"⟩
abbrev cX6_cost : ByteArray := prog_1_method_12_code
def yX6_cost : MethodName := ⟨RX6, "cost", "(I)I"⟩
abbrev cX6_unseen : ByteArray := prog_1_method_13_code
def yX6_unseen : MethodName := ⟨RX6, "unseen", "(II)I"⟩
abbrev cX6_blind : ByteArray := prog_1_method_14_code
def yX6_blind : MethodName := ⟨RX6, "blind", "(I)I"⟩
abbrev cX6_step : ByteArray := prog_1_method_15_code
def yX6_step : MethodName := ⟨RX6, "step", "(I)I"⟩
abbrev cX6_stand : ByteArray := prog_1_method_16_code
def yX6_stand : MethodName := ⟨RX6, "stand", "()I"⟩
abbrev cX6_follow : ByteArray := prog_1_method_17_code
def yX6_follow : MethodName := ⟨RX6, "follow", "(II)I"⟩
abbrev cX6_count : ByteArray := prog_1_method_18_code
def yX6_count : MethodName := ⟨RX6, "count", "(I)I"⟩
abbrev cX6_needCell : ByteArray := prog_1_method_19_code
def yX6_needCell : MethodName := ⟨RX6, "needCell", "(I)V"⟩
abbrev cX6_needEye : ByteArray := prog_1_method_20_code
def yX6_needEye : MethodName := ⟨RX6, "needEye", "(I)V"⟩
abbrev cX6_needWithin : ByteArray := prog_1_method_21_code
def yX6_needWithin : MethodName := ⟨RX6, "needWithin", "(III)V"⟩
abbrev cX6_put : ByteArray := prog_1_method_22_code
def yX6_put : MethodName := ⟨RX6, "put", "([ZIZ)Z"⟩
abbrev cX6_howMany : ByteArray := prog_1_method_23_code
def yX6_howMany : MethodName := ⟨RX6, "howMany", "([Z)I"⟩
abbrev cX6_onlyThere : ByteArray := prog_1_method_24_code
def yX6_onlyThere : MethodName := ⟨RX6, "onlyThere", "(I)I"⟩
abbrev cX6_priceOf : ByteArray := prog_1_method_25_code
def yX6_priceOf : MethodName := ⟨RX6, "priceOf", "(I)I"⟩
abbrev cX6_everSeen : ByteArray := prog_1_method_26_code
def yX6_everSeen : MethodName := ⟨RX6, "everSeen", "(II)Z"⟩
abbrev cX6_makePlanStand : ByteArray := prog_1_method_27_code
def yX6_makePlanStand : MethodName := ⟨RX6, "makePlanStand", "()V"⟩
abbrev cX6_showersOf : ByteArray := prog_1_method_28_code
def yX6_showersOf : MethodName := ⟨RX6, "showersOf", "(I)I"⟩
def RX7 : String := "FloorEyesModel"
def TX7 : u_T := fun k => match k with
  | 0 => ("FloorEyesModel", "thrown", "I", false)
  | 1 => ("FloorEyesModel", "isShut", "[Z", true)
  | 2 => ("FloorEyesModel", "isTold", "[Z", true)
  | 3 => ("FloorEyesModel", "isPrivate", "[Z", true)
  | 4 => ("FloorEyesModel", "px", "[I", true)
  | 5 => ("FloorEyesModel", "py", "[I", true)
  | 6 => ("FloorEyesModel", "reach", "[I", true)
  | 7 => ("FloorEyesModel", "cost", "[I", true)
  | 8 => ("FloorEyesModel", "isNarrow", "[Z", true)
  | 9 => ("FloorEyesModel", "way", "[I", true)
  | 10 => ("FloorEyesModel", "ways", "[I", true)
  | 11 => ("FloorEyesModel", "isMasked", "[Z", true)
  | 12 => ("FloorEyesModel", "cameras", "I", false)
  | 13 => ("FloorEyesModel", "fx", "[I", true)
  | 14 => ("FloorEyesModel", "fy", "[I", true)
  | 15 => ("FloorEyesModel", "seen", "[Z", true)
  | 16 => ("FloorEyesModel", "isNeeded", "[Z", true)
  | 17 => ("FloorEyesModel", "needed", "[I", true)
  | 18 => ("FloorEyesModel", "needs", "I", false)
  | 19 => ("FloorEyesModel", "showing", "I", false)
  | 20 => ("FloorEyesModel", "walk", "[I", true)
  | _ => ("FloorEyesModel", "steps", "I", false)
def tyX7 : Nat → FieldType := fun k => match k with
  | 0 => .int
  | 1 => .array .boolean
  | 2 => .array .boolean
  | 3 => .array .boolean
  | 4 => .array .int
  | 5 => .array .int
  | 6 => .array .int
  | 7 => .array .int
  | 8 => .array .boolean
  | 9 => .array .int
  | 10 => .array .int
  | 11 => .array .boolean
  | 12 => .int
  | 13 => .array .int
  | 14 => .array .int
  | 15 => .array .boolean
  | 16 => .array .boolean
  | 17 => .array .int
  | 18 => .int
  | 19 => .int
  | 20 => .array .int
  | _ => .int
abbrev wsX70 : List Cond := u_ws RX7 TX7 22
theorem nmX7 : ∀ a, a < 22 → ∀ b, b < 22 → a ≠ b → (TX7 a).2.1 ≠ (TX7 b).2.1 := by decide +kernel
theorem tyX7_ok : ∀ k, k < 22 → parseFieldDescriptor (TX7 k).2.2.1 = some (tyX7 k) := by decide +kernel
abbrev cX7_init : ByteArray := prog_9_method_1_code
def yX7_init : MethodName := ⟨RX7, "<init>", "()V"⟩
abbrev cX7_thrown : ByteArray := prog_9_method_2_code
def yX7_thrown : MethodName := ⟨RX7, "thrown", "()I"⟩
abbrev cX7_throwsIf : ByteArray := prog_9_method_3_code
def yX7_throwsIf : MethodName := ⟨RX7, "throwsIf", "(ZI)Z"⟩
abbrev cX7_in : ByteArray := prog_9_method_4_code
def yX7_in : MethodName := ⟨RX7, "in", "(III)Z"⟩
abbrev cX7_noCell : ByteArray := prog_9_method_5_code
def yX7_noCell : MethodName := ⟨RX7, "noCell", "(I)Z"⟩
abbrev cX7_noCamera : ByteArray := prog_9_method_6_code
def yX7_noCamera : MethodName := ⟨RX7, "noCamera", "(I)Z"⟩
abbrev cX7_shut : ByteArray := prog_9_method_7_code
def yX7_shut : MethodName := ⟨RX7, "shut", "(IIZ)I"⟩
abbrev cX7_isBetween : ByteArray := prog_9_method_8_code
def yX7_isBetween : MethodName := ⟨RX7, "isBetween", "(III)Z"⟩
abbrev cX7_tell : ByteArray := prog_9_method_9_code
def yX7_tell : MethodName := ⟨RX7, "tell", "(IZ)Z"⟩
abbrev cX7_hide : ByteArray := prog_9_method_10_code
def yX7_hide : MethodName := ⟨RX7, "hide", "(IZ)Z"⟩
abbrev cX7_camera : ByteArray := prog_9_method_11_code
def yX7_camera : MethodName := ⟨RX7, "camera", "(IIIIZI)I"⟩
abbrev cX7_turn : ByteArray := prog_9_method_12_code
def yX7_turn : MethodName := ⟨RX7, "turn", "(II)I"⟩
abbrev cX7_mask : ByteArray := prog_9_method_13_code
def yX7_mask : MethodName := ⟨RX7, "mask", "(IIZ)Z"⟩
abbrev cX7_alongX : ByteArray := prog_9_method_14_code
def yX7_alongX : MethodName := ⟨RX7, "alongX", "(I)I"⟩
abbrev cX7_alongY : ByteArray := prog_9_method_15_code
def yX7_alongY : MethodName := ⟨RX7, "alongY", "(I)I"⟩
abbrev cX7_holds : ByteArray := prog_9_method_16_code
def yX7_holds : MethodName := ⟨RX7, "holds", "(IIII)Z"⟩
abbrev cX7_isBlocked : ByteArray := prog_9_method_17_code
def yX7_isBlocked : MethodName := ⟨RX7, "isBlocked", "(I)Z"⟩
abbrev cX7_figure : ByteArray := prog_9_method_18_code
def yX7_figure : MethodName := ⟨RX7, "figure", "(II)V"⟩
abbrev cX7_parts : ByteArray := prog_9_method_19_code
def yX7_parts : MethodName := ⟨RX7, "parts", "(IIIII)Z"⟩
abbrev cX7_isParted : ByteArray := prog_9_method_20_code
def yX7_isParted : MethodName := ⟨RX7, "isParted", "(I)Z"⟩
abbrev cX7_isClear : ByteArray := prog_9_method_21_code
def yX7_isClear : MethodName := ⟨RX7, "isClear", "(II)Z"⟩
abbrev cX7_holdsAll : ByteArray := prog_9_method_22_code
def yX7_holdsAll : MethodName := ⟨RX7, "holdsAll", "(III)Z"⟩
abbrev cX7_seesIn : ByteArray := prog_9_method_23_code
def yX7_seesIn : MethodName := ⟨RX7, "seesIn", "(III)Z"⟩
abbrev cX7_isLine : ByteArray := prog_9_method_24_code
def yX7_isLine : MethodName := ⟨RX7, "isLine", "(III)Z"⟩
abbrev cX7_showsIn : ByteArray := prog_9_method_25_code
def yX7_showsIn : MethodName := ⟨RX7, "showsIn", "(III)Z"⟩
abbrev cX7_wayAt : ByteArray := prog_9_method_26_code
def yX7_wayAt : MethodName := ⟨RX7, "wayAt", "(II)I"⟩
abbrev cX7_sees : ByteArray := prog_9_method_27_code
def yX7_sees : MethodName := ⟨RX7, "sees", "(III)Z"⟩
abbrev cX7_shows : ByteArray := prog_9_method_28_code
def yX7_shows : MethodName := ⟨RX7, "shows", "(III)Z"⟩
abbrev cX7_looks : ByteArray := prog_9_method_29_code
def yX7_looks : MethodName := ⟨RX7, "looks", "(I)V"⟩
abbrev cX7_whoSees : ByteArray := prog_9_method_30_code
def yX7_whoSees : MethodName := ⟨RX7, "whoSees", "(I)I"⟩
abbrev cX7_asks : ByteArray := prog_9_method_31_code
def yX7_asks : MethodName := ⟨RX7, "asks", "()V"⟩
abbrev cX7_servesAsAsked : ByteArray := prog_9_method_32_code
def yX7_servesAsAsked : MethodName := ⟨RX7, "servesAsAsked", "(I)Z"⟩
abbrev cX7_isGood : ByteArray := prog_9_method_33_code
def yX7_isGood : MethodName := ⟨RX7, "isGood", "(IZ)Z"⟩
abbrev cX7_those : ByteArray := prog_9_method_34_code
def yX7_those : MethodName := ⟨RX7, "those", "(I)I"⟩
abbrev cX7_serves : ByteArray := prog_9_method_35_code
def yX7_serves : MethodName := ⟨RX7, "serves", "(IZ)Z"⟩
abbrev cX7_costOf : ByteArray := prog_9_method_36_code
def yX7_costOf : MethodName := ⟨RX7, "costOf", "(I)I"⟩
abbrev cX7_cheapest : ByteArray := prog_9_method_37_code
def yX7_cheapest : MethodName := ⟨RX7, "cheapest", "(Z)I"⟩
abbrev cX7_cost : ByteArray := prog_9_method_38_code
def yX7_cost : MethodName := ⟨RX7, "cost", "(I)I"⟩
abbrev cX7_unseen : ByteArray := prog_9_method_39_code
def yX7_unseen : MethodName := ⟨RX7, "unseen", "(II)I"⟩
abbrev cX7_blind : ByteArray := prog_9_method_40_code
def yX7_blind : MethodName := ⟨RX7, "blind", "(I)I"⟩
abbrev cX7_step : ByteArray := prog_9_method_41_code
def yX7_step : MethodName := ⟨RX7, "step", "(I)I"⟩
abbrev cX7_stand : ByteArray := prog_9_method_42_code
def yX7_stand : MethodName := ⟨RX7, "stand", "()I"⟩
abbrev cX7_follows : ByteArray := prog_9_method_43_code
def yX7_follows : MethodName := ⟨RX7, "follows", "(III)Z"⟩
abbrev cX7_follow : ByteArray := prog_9_method_44_code
def yX7_follow : MethodName := ⟨RX7, "follow", "(II)I"⟩
abbrev cX7_count : ByteArray := prog_9_method_45_code
def yX7_count : MethodName := ⟨RX7, "count", "(I)I"⟩
def RJ6 : String := "java/lang/Integer"
def TJ6 : u_T := fun k => match k with
  | _ => ("", "", "", false)
def tyJ6 : Nat → FieldType := fun k => match k with
  | _ => .int
abbrev wsJ60 : List Cond := u_ws RJ6 TJ6 0
theorem nmJ6 : ∀ a, a < 0 → ∀ b, b < 0 → a ≠ b → (TJ6 a).2.1 ≠ (TJ6 b).2.1 := by decide +kernel
theorem tyJ6_ok : ∀ k, k < 0 → parseFieldDescriptor (TJ6 k).2.2.1 = some (tyJ6 k) := by decide +kernel
abbrev cJ6_numberOfTrailingZeros_0f7a4 : ByteArray := prog_13_method_48_code
def yJ6_numberOfTrailingZeros_0f7a4 : MethodName := ⟨RJ6, "numberOfTrailingZeros", "(I)I"⟩
abbrev cJ6_bitCount_0f7a4 : ByteArray := prog_13_method_49_code
def yJ6_bitCount_0f7a4 : MethodName := ⟨RJ6, "bitCount", "(I)I"⟩
def RJ9 : String := "java/lang/Math"
def TJ9 : u_T := fun k => match k with
  | _ => ("", "", "", false)
def tyJ9 : Nat → FieldType := fun k => match k with
  | _ => .int
abbrev wsJ90 : List Cond := u_ws RJ9 TJ9 0
theorem nmJ9 : ∀ a, a < 0 → ∀ b, b < 0 → a ≠ b → (TJ9 a).2.1 ≠ (TJ9 b).2.1 := by decide +kernel
theorem tyJ9_ok : ∀ k, k < 0 → parseFieldDescriptor (TJ9 k).2.2.1 = some (tyJ9 k) := by decide +kernel
abbrev cJ9_max_7cf53 : ByteArray := prog_14_method_65_code
def yJ9_max_7cf53 : MethodName := ⟨RJ9, "max", "(II)I"⟩
abbrev cJ9_min_7cf53 : ByteArray := prog_14_method_69_code
def yJ9_min_7cf53 : MethodName := ⟨RJ9, "min", "(II)I"⟩
def RJ0 : String := "java/lang/String"
def TJ0 : u_T := fun k => match k with
  | _ => ("", "", "", false)
def tyJ0 : Nat → FieldType := fun k => match k with
  | _ => .int
abbrev wsJ00 : List Cond := u_ws RJ0 TJ0 0
theorem nmJ0 : ∀ a, a < 0 → ∀ b, b < 0 → a ≠ b → (TJ0 a).2.1 ≠ (TJ0 b).2.1 := by decide +kernel
theorem tyJ0_ok : ∀ k, k < 0 → parseFieldDescriptor (TJ0 k).2.2.1 = some (tyJ0 k) := by decide +kernel
def RJ7 : String := "java/util/Arrays"
def TJ7 : u_T := fun k => match k with
  | _ => ("", "", "", false)
def tyJ7 : Nat → FieldType := fun k => match k with
  | _ => .int
abbrev wsJ70 : List Cond := u_ws RJ7 TJ7 0
theorem nmJ7 : ∀ a, a < 0 → ∀ b, b < 0 → a ≠ b → (TJ7 a).2.1 ≠ (TJ7 b).2.1 := by decide +kernel
theorem tyJ7_ok : ∀ k, k < 0 → parseFieldDescriptor (TJ7 k).2.2.1 = some (tyJ7 k) := by decide +kernel
abbrev cJ7_fill_d0a16 : ByteArray := prog_19_method_101_code
def yJ7_fill_d0a16 : MethodName := ⟨RJ7, "fill", "([JJ)V"⟩
abbrev cJ7_fill_53178 : ByteArray := prog_19_method_103_code
def yJ7_fill_53178 : MethodName := ⟨RJ7, "fill", "([II)V"⟩
def RL : String := "FloorEyesLaw"
abbrev cL_shut : ByteArray := method_3_code
def yL_shut : MethodName := ⟨RL, "shut", "(LFloorEyes;IIZ[J)I"⟩
abbrev cL_tell : ByteArray := method_4_code
def yL_tell : MethodName := ⟨RL, "tell", "(LFloorEyes;IZ[J)I"⟩
abbrev cL_hide : ByteArray := method_5_code
def yL_hide : MethodName := ⟨RL, "hide", "(LFloorEyes;IZ[J)I"⟩
abbrev cL_camera : ByteArray := method_6_code
def yL_camera : MethodName := ⟨RL, "camera", "(LFloorEyes;IIIIZI[J)I"⟩
abbrev cL_turn : ByteArray := method_7_code
def yL_turn : MethodName := ⟨RL, "turn", "(LFloorEyes;II[J)I"⟩
abbrev cL_mask : ByteArray := method_8_code
def yL_mask : MethodName := ⟨RL, "mask", "(LFloorEyes;IIZ[J)I"⟩
abbrev cL_sees : ByteArray := method_9_code
def yL_sees : MethodName := ⟨RL, "sees", "(LFloorEyes;III[J)I"⟩
abbrev cL_shows : ByteArray := method_10_code
def yL_shows : MethodName := ⟨RL, "shows", "(LFloorEyes;III[J)I"⟩
abbrev cL_unseen : ByteArray := method_11_code
def yL_unseen : MethodName := ⟨RL, "unseen", "(LFloorEyes;II[J)I"⟩
abbrev cL_step : ByteArray := method_12_code
def yL_step : MethodName := ⟨RL, "step", "(LFloorEyes;I[J)I"⟩
abbrev cL_follow : ByteArray := method_13_code
def yL_follow : MethodName := ⟨RL, "follow", "(LFloorEyes;II[J)I"⟩
abbrev cL_law : ByteArray := code
def yL_law : MethodName := ⟨RL, "law", "([I)Z"⟩
abbrev vwCl : List vw_C := [(RX0, TX0, 10), (RX1, TX1, 12), (RX2, TX2, 4), (RX3, TX3, 2), (RX4, TX4, 6), (RX5, TX5, 3), (RX6, TX6, 7), (RX7, TX7, 22)]
end
section
/-! the small machine: cells and heap -/
abbrev fe_C : Type := (Nat × List Value) ⊕ ((Nat × (Nat → Int32)) ⊕ ((Nat × (Nat → Bool)) ⊕ ((Nat × (Nat → Int64)) ⊕ (Nat × (Nat → Option Nat)))))
abbrev fe_O (ci : Nat) (fs : List Value) : fe_C := .inl (ci, fs)
abbrev fe_I (n : Nat) (f : Nat → Int32) : fe_C := .inr (.inl (n, f))
abbrev fe_Z (n : Nat) (f : Nat → Bool) : fe_C := .inr (.inr (.inl (n, f)))
abbrev fe_J (n : Nat) (f : Nat → Int64) : fe_C := .inr (.inr (.inr (.inl (n, f))))
abbrev fe_Q (n : Nat) (f : Nat → Option Nat) : fe_C := .inr (.inr (.inr (.inr (n, f))))
/-- the next address, cells left, slots left, the cells -/
abbrev fe_H : Type := Nat × Nat × Nat × (Nat → Option fe_C)
def fe_get (h : fe_H) (a : Nat) : Option fe_C := h.2.2.2 a
def fe_put (h : fe_H) (a : Nat) (c : fe_C) : fe_H := (h.1, h.2.1, h.2.2.1, fun b => if b = a then some c else h.2.2.2 b)
def fe_add (h : fe_H) (n : Nat) (c : fe_C) : fe_H := (h.1 + 1, h.2.1 - 1, h.2.2.1 - n, fun b => if b = h.1 then some c else h.2.2.2 b)
def fe_burn (h : fe_H) (n : Nat) : fe_H := (h.1 + 1, h.2.1 - 1, h.2.2.1 - n, h.2.2.2)
/-- the script's address, length, ints; the address of the static row of longs -/
abbrev fe_E : Type := Nat × Nat × (Nat → Int32) × Nat
/-- returned a value, or threw: the exception's number, its address -/
abbrev fe_R : Type := Option Value ⊕ (Nat × Nat)
abbrev fe_Ls : Type := List (Option Value)
def fe_bi (b : Bool) : Int32 := if b then 1 else 0
def fe_tb (x : Int32) : Bool := decide (x &&& 1 = 1)
def fe_inb (i : Int32) (n : Nat) : Bool := decide (0 ≤ i) && decide (i.toNatClampNeg < n)
def fe_ub (f : Nat → Bool) (k : Nat) (x : Bool) : Nat → Bool := fun j => if j = k then x else f j
/-! what changes the frame alone -/
def fe_tgt (pc : Nat) (off : Int) : Nat := ((pc : Int) + off).toNat
def fe_okt (pc : Nat) (off : Int) : Bool := decide (0 ≤ (pc : Int) + off)
abbrev fe_P : Type := Option (Nat × fe_Ls × List Value)
def fe_ild (ls : fe_Ls) (k pc : Nat) (st : List Value) : fe_P := match ls[k]? with
  | some (some (.int x)) => some (pc, ls, .int x :: st)
  | _ => none
def fe_ald (ls : fe_Ls) (k pc : Nat) (st : List Value) : fe_P := match ls[k]? with
  | some (some (.ref x)) => some (pc, ls, .ref x :: st)
  | some (some .null) => some (pc, ls, .null :: st)
  | _ => none
def fe_ist (ls : fe_Ls) (k pc : Nat) (st : List Value) : fe_P := match st with
  | .int x :: r => if k < ls.length then some (pc, ls.set k (some (.int x)), r) else none
  | _ => none
def fe_ast (ls : fe_Ls) (k pc : Nat) (st : List Value) : fe_P := match st with
  | .ref x :: r => if k < ls.length then some (pc, ls.set k (some (.ref x)), r) else none
  | .null :: r => if k < ls.length then some (pc, ls.set k (some .null), r) else none
  | _ => none
def fe_inc (ls : fe_Ls) (k : Nat) (n : Int) (pc : Nat) (st : List Value) : fe_P := match ls[k]? with
  | some (some (.int x)) => some (pc, ls.set k (some (.int (x + Int32.ofInt n))), st)
  | _ => none
def fe_b2 (f : Int32 → Int32 → Int32) (pc : Nat) (ls : fe_Ls) (st : List Value) : fe_P := match st with
  | .int y :: .int x :: r => some (pc + 1, ls, .int (f x y) :: r)
  | _ => none
def fe_d2 (f : Int32 → Int32 → Int32) (pc : Nat) (ls : fe_Ls) (st : List Value) : fe_P := match st with
  | .int y :: .int x :: r => if y = 0 then none else some (pc + 1, ls, .int (f x y) :: r)
  | _ => none
def fe_l2 (f : Int64 → Int64 → Int64) (pc : Nat) (ls : fe_Ls) (st : List Value) : fe_P := match st with
  | .long y :: .long x :: r => some (pc + 1, ls, .long (f x y) :: r)
  | _ => none
def fe_s2 (f : Int64 → Int32 → Int64) (pc : Nat) (ls : fe_Ls) (st : List Value) : fe_P := match st with
  | .int y :: .long x :: r => some (pc + 1, ls, .long (f x y) :: r)
  | _ => none
def fe_br1 (t : Int32 → Bool) (pc : Nat) (off : Int) (ls : fe_Ls) (st : List Value) : fe_P := match st with
  | .int x :: r => if fe_okt pc off then some (if t x then fe_tgt pc off else pc + 3, ls, r) else none
  | _ => none
def fe_br2 (t : Int32 → Int32 → Bool) (pc : Nat) (off : Int) (ls : fe_Ls) (st : List Value) : fe_P := match st with
  | .int y :: .int x :: r => if fe_okt pc off then some (if t x y then fe_tgt pc off else pc + 3, ls, r) else none
  | _ => none
def fe_c1 (c : Jvm.ClassFile.Cond) (x : Int32) : Bool := match c with
  | .eq => decide (x = 0)
  | .ne => decide (¬ x = 0)
  | .lt => decide (x < 0)
  | .ge => decide (0 ≤ x)
  | .gt => decide (0 < x)
  | .le => decide (x ≤ 0)
def fe_c2 (c : Jvm.ClassFile.Cond) (x y : Int32) : Bool := match c with
  | .eq => decide (x = y)
  | .ne => decide (¬ x = y)
  | .lt => decide (x < y)
  | .ge => decide (y ≤ x)
  | .gt => decide (y < x)
  | .le => decide (x ≤ y)
def fe_sw (dflt lo hi : Int) (offs : Array Int) (pc : Nat) (ls : fe_Ls) (st : List Value) : fe_P := match st with
  | .int x :: r => if x.toInt < lo ∨ hi < x.toInt then (if fe_okt pc dflt then some (fe_tgt pc dflt, ls, r) else none) else match offs[(x.toInt - lo).toNat]? with
    | some off => if fe_okt pc off then some (fe_tgt pc off, ls, r) else none
    | none => none
  | _ => none
def fe_pstep (i : Instr) (pc : Nat) (ls : fe_Ls) (st : List Value) : fe_P := match i with
  | .iconst n => some (pc + 1, ls, .int (Int32.ofInt n) :: st)
  | .bipush n => some (pc + 2, ls, .int (Int8.ofInt n).toInt32 :: st)
  | .sipush n => some (pc + 3, ls, .int (Int16.ofInt n).toInt32 :: st)
  | .lconst n => some (pc + 1, ls, .long (Int64.ofNat (n : Nat)) :: st)
  | .iload k => fe_ild ls k (pc + 2) st
  | .iload_n k => fe_ild ls k (pc + 1) st
  | .aload k => fe_ald ls k (pc + 2) st
  | .aload_n k => fe_ald ls k (pc + 1) st
  | .istore k => fe_ist ls k (pc + 2) st
  | .istore_n k => fe_ist ls k (pc + 1) st
  | .astore k => fe_ast ls k (pc + 2) st
  | .astore_n k => fe_ast ls k (pc + 1) st
  | .iinc k n => fe_inc ls k n (pc + 3) st
  | .iadd => fe_b2 (fun x y => x + y) pc ls st
  | .isub => fe_b2 (fun x y => x - y) pc ls st
  | .imul => fe_b2 (fun x y => x * y) pc ls st
  | .iand => fe_b2 (fun x y => x &&& y) pc ls st
  | .ior => fe_b2 (fun x y => x ||| y) pc ls st
  | .ixor => fe_b2 (fun x y => x ^^^ y) pc ls st
  | .ishl => fe_b2 (fun x y => x <<< (y &&& 31)) pc ls st
  | .ishr => fe_b2 (fun x y => x >>> (y &&& 31)) pc ls st
  | .iushr => fe_b2 (fun x y => (x.toUInt32 >>> (y.toUInt32 &&& Int32.toUInt32 31)).toInt32) pc ls st
  | .idiv => fe_d2 (fun x y => x / y) pc ls st
  | .irem => fe_d2 (fun x y => x - x / y * y) pc ls st
  | .ineg => match st with
    | .int x :: r => some (pc + 1, ls, .int (-x) :: r)
    | _ => none
  | .land => fe_l2 (fun x y => x &&& y) pc ls st
  | .lor => fe_l2 (fun x y => x ||| y) pc ls st
  | .lshl => fe_s2 (fun x y => x <<< (y.toInt64 &&& 63)) pc ls st
  | .lshr => fe_s2 (fun x y => x >>> (y.toInt64 &&& 63)) pc ls st
  | .lcmp => match st with
    | .long y :: .long x :: r => some (pc + 1, ls, .int (lg_cmp x y) :: r)
    | _ => none
  | .i2l => match st with
    | .int x :: r => some (pc + 1, ls, .long x.toInt64 :: r)
    | _ => none
  | .dup => match st with
    | .int x :: r => some (pc + 1, ls, .int x :: .int x :: r)
    | .ref x :: r => some (pc + 1, ls, .ref x :: .ref x :: r)
    | _ => none
  | .pop => match st with
    | .int _ :: r => some (pc + 1, ls, r)
    | _ => none
  | .dup2 => match st with
    | .int y :: .ref x :: r => some (pc + 1, ls, .int y :: .ref x :: .int y :: .ref x :: r)
    | _ => none
  | .ifCond c off => fe_br1 (fe_c1 c) pc off ls st
  | .if_icmp c off => fe_br2 (fe_c2 c) pc off ls st
  | .goto off => if fe_okt pc off then some (fe_tgt pc off, ls, st) else none
  | .ifnull off => match st with
    | .null :: r => if fe_okt pc off then some (fe_tgt pc off, ls, r) else none
    | .ref _ :: r => some (pc + 3, ls, r)
    | _ => none
  | .tableswitch dflt lo hi offs => fe_sw dflt lo hi offs pc ls st
  | _ => none
/-- how long an instruction is -/
def fe_len (pc : Nat) (i : Instr) : Nat := match i with
  | .bipush _ | .iload _ | .aload _ | .istore _ | .astore _ | .ldc _ | .newarray _ => 2
  | .sipush _ | .iinc _ _ | .ifCond _ _ | .if_icmp _ _ | .goto _ | .ifnull _ | .getfield _ | .putfield _ | .getstatic _ | .invokevirtual _ | .invokestatic _ | .invokespecial _ | .new _ | .anewarray _ | .ldc_w _ => 3
  | .tableswitch _ _ _ offs => (4 - (pc + 1) % 4) % 4 + 13 + 4 * offs.size
  | _ => 1
end
section
/-! tables: printed by program (wip/gen/gen.py) -/
def fe_cn : List String := [RX0, RX1, RX2, RX3, RX4, RX5, RX6, RX7, RL, RJ6, RJ7, RJ9]
def fe_cls (k : Nat) : String := fe_cn.getD k ""
def fe_t0 : List (Nat × Instr) := [(0, .aload_n 0), (1, .invokespecial 3), (4, .return_)]
def fe_t1 : List (Nat × Instr) := [(0, .aload_n 0), (1, .iload_n 1), (2, .putfield 9), (5, .aload_n 0), (6, .iload_n 2), (7, .putfield 15), (10, .aload_n 0), (11, .iload_n 1), (12, .putfield 18), (15, .aload_n 0), (16, .iload_n 1), (17, .putfield 21), (20, .aload_n 0), (21, .iload_n 2), (22, .putfield 24), (25, .aload_n 0), (26, .iload_n 2), (27, .putfield 27), (30, .aload_n 0), (31, .iconst 0), (32, .putfield 30), (35, .aload_n 0), (36, .iconst 0), (37, .putfield 33), (40, .aload_n 0), (41, .iconst 0), (42, .putfield 36), (45, .aload_n 0), (46, .iconst 0), (47, .putfield 39), (50, .return_)]
def fe_t2 : List (Nat × Instr) := [(0, .iload_n 1), (1, .aload_n 0), (2, .getfield 9), (5, .isub), (6, .istore_n 3), (7, .iload_n 2), (8, .aload_n 0), (9, .getfield 15), (12, .isub), (13, .istore 4), (15, .aload_n 0), (16, .getfield 30), (19, .ifCond .ne 14), (22, .aload_n 0), (23, .getfield 33), (26, .ifCond .ne 7), (29, .iconst 1), (30, .goto 4), (33, .iconst 0), (34, .istore 5), (36, .iload 5), (38, .ifCond .ne 20), (41, .aload_n 0), (42, .getfield 30), (45, .iload 4), (47, .imul), (48, .aload_n 0), (49, .getfield 33), (52, .iload_n 3), (53, .imul), (54, .isub), (55, .ifCond .ge 14), (58, .aload_n 0), (59, .iload_n 3), (60, .putfield 30), (63, .aload_n 0), (64, .iload 4), (66, .putfield 33), (69, .iload 5), (71, .ifCond .ne 20), (74, .aload_n 0), (75, .getfield 36), (78, .iload 4), (80, .imul), (81, .aload_n 0), (82, .getfield 39), (85, .iload_n 3), (86, .imul), (87, .isub), (88, .ifCond .le 14), (91, .aload_n 0), (92, .iload_n 3), (93, .putfield 36), (96, .aload_n 0), (97, .iload 4), (99, .putfield 39), (102, .aload_n 0), (103, .aload_n 0), (104, .getfield 18), (107, .iload_n 1), (108, .invokestatic 42), (111, .putfield 18), (114, .aload_n 0), (115, .aload_n 0), (116, .getfield 21), (119, .iload_n 1), (120, .invokestatic 48), (123, .putfield 21), (126, .aload_n 0), (127, .aload_n 0), (128, .getfield 24), (131, .iload_n 2), (132, .invokestatic 42), (135, .putfield 24), (138, .aload_n 0), (139, .aload_n 0), (140, .getfield 27), (143, .iload_n 2), (144, .invokestatic 48), (147, .putfield 27), (150, .return_)]
def fe_t3 : List (Nat × Instr) := [(0, .aload_n 0), (1, .getfield 30), (4, .iconst 0), (5, .invokestatic 48), (8, .aload_n 0), (9, .getfield 33), (12, .ineg), (13, .iconst 0), (14, .invokestatic 48), (17, .iadd), (18, .istore_n 2), (19, .aload_n 0), (20, .getfield 36), (23, .iconst 0), (24, .invokestatic 42), (27, .aload_n 0), (28, .getfield 39), (31, .ineg), (32, .iconst 0), (33, .invokestatic 42), (36, .iadd), (37, .istore_n 3), (38, .aload_n 0), (39, .getfield 24), (42, .istore 4), (44, .iload 4), (46, .aload_n 0), (47, .getfield 27), (50, .if_icmp .ge 103), (53, .iload 4), (55, .aload_n 0), (56, .getfield 15), (59, .isub), (60, .istore 5), (62, .aload_n 0), (63, .getfield 18), (66, .istore 6), (68, .iload 6), (70, .aload_n 0), (71, .getfield 21), (74, .if_icmp .ge 73), (77, .aload_n 1), (78, .bipush 16), (80, .iload 4), (82, .imul), (83, .iload 6), (85, .iadd), (86, .baload), (87, .ifCond .eq 54), (90, .iload 6), (92, .aload_n 0), (93, .getfield 9), (96, .isub), (97, .istore 7), (99, .aload_n 0), (100, .getfield 30), (103, .iload 5), (105, .imul), (106, .aload_n 0), (107, .getfield 33), (110, .iload 7), (112, .imul), (113, .isub), (114, .iload_n 2), (115, .iadd), (116, .ifCond .le 25), (119, .aload_n 0), (120, .getfield 36), (123, .iload 5), (125, .imul), (126, .aload_n 0), (127, .getfield 39), (130, .iload 7), (132, .imul), (133, .isub), (134, .iload_n 3), (135, .iadd), (136, .ifCond .ge 5), (139, .iconst 0), (140, .ireturn), (141, .iinc 6 1), (144, .goto (-76)), (147, .iinc 4 1), (150, .goto (-106)), (153, .iconst 1), (154, .ireturn)]
def fe_t4 : List (Nat × Instr) := [(0, .aload_n 0), (1, .invokespecial 3), (4, .aload_n 0), (5, .aload_n 1), (6, .putfield 9), (9, .aload_n 0), (10, .iload_n 2), (11, .putfield 15), (14, .aload_n 0), (15, .iload_n 3), (16, .putfield 19), (19, .aload_n 0), (20, .iload 4), (22, .putfield 22), (25, .aload_n 0), (26, .iload 5), (28, .putfield 25), (31, .aload_n 0), (32, .iload 6), (34, .putfield 28), (37, .aload_n 0), (38, .bipush 8), (40, .newarray .int), (42, .putfield 32), (45, .aload_n 0), (46, .iconst 0), (47, .putfield 36), (50, .aload_n 0), (51, .iconst 0), (52, .putfield 39), (55, .aload_n 0), (56, .sipush 192), (59, .newarray .boolean), (61, .putfield 42), (64, .aload_n 0), (65, .sipush 192), (68, .newarray .int), (70, .putfield 46), (73, .aload_n 0), (74, .sipush 192), (77, .newarray .int), (79, .putfield 49), (82, .aload_n 0), (83, .getfield 46), (86, .iconst (-1)), (87, .invokestatic 52), (90, .aload_n 0), (91, .getfield 49), (94, .iconst (-1)), (95, .invokestatic 52), (98, .return_)]
def fe_t5 : List (Nat × Instr) := [(0, .aload_n 0), (1, .getfield 36), (4, .bipush 8), (6, .if_icmp .lt 5), (9, .iconst (-1)), (10, .ireturn), (11, .aload_n 0), (12, .getfield 32), (15, .aload_n 0), (16, .getfield 36), (19, .iload_n 1), (20, .iastore), (21, .aload_n 0), (22, .dup), (23, .getfield 36), (26, .iconst 1), (27, .iadd), (28, .putfield 36), (31, .aload_n 0), (32, .dup), (33, .getfield 39), (36, .iconst 1), (37, .iload_n 1), (38, .ishl), (39, .ior), (40, .putfield 39), (43, .aload_n 0), (44, .getfield 36), (47, .ireturn)]
def fe_t6 : List (Nat × Instr) := [(0, .aload_n 0), (1, .getfield 46), (4, .iconst (-1)), (5, .invokestatic 52), (8, .aload_n 0), (9, .getfield 49), (12, .iconst (-1)), (13, .invokestatic 52), (16, .return_)]
def fe_t7 : List (Nat × Instr) := [(0, .aload_n 0), (1, .getfield 42), (4, .iload_n 1), (5, .baload), (6, .ifCond .ne 21), (9, .aload_n 0), (10, .iload_n 1), (11, .invokevirtual 58), (14, .aload_n 0), (15, .iload_n 2), (16, .invokevirtual 62), (19, .iand), (20, .ifCond .eq 7), (23, .iconst 1), (24, .goto 4), (27, .iconst 0), (28, .ireturn)]
def fe_t8 : List (Nat × Instr) := [(0, .aload_n 0), (1, .getfield 42), (4, .iload_n 1), (5, .baload), (6, .ifCond .ne 20), (9, .aload_n 0), (10, .iload_n 1), (11, .invokevirtual 58), (14, .aload_n 0), (15, .getfield 39), (18, .iand), (19, .ifCond .eq 7), (22, .iconst 1), (23, .goto 4), (26, .iconst 0), (27, .ireturn)]
def fe_t9 : List (Nat × Instr) := [(0, .aload_n 0), (1, .getfield 42), (4, .iload_n 1), (5, .baload), (6, .ifCond .ne 21), (9, .aload_n 0), (10, .iload_n 1), (11, .invokevirtual 65), (14, .aload_n 0), (15, .iload_n 2), (16, .invokevirtual 62), (19, .iand), (20, .ifCond .eq 7), (23, .iconst 1), (24, .goto 4), (27, .iconst 0), (28, .ireturn)]
def fe_t10 : List (Nat × Instr) := [(0, .aload_n 0), (1, .getfield 42), (4, .iload_n 1), (5, .baload), (6, .ifCond .ne 20), (9, .aload_n 0), (10, .iload_n 1), (11, .invokevirtual 65), (14, .aload_n 0), (15, .getfield 39), (18, .iand), (19, .ifCond .eq 7), (22, .iconst 1), (23, .goto 4), (26, .iconst 0), (27, .ireturn)]
def fe_t11 : List (Nat × Instr) := [(0, .iload_n 1), (1, .ifCond .lt 11), (4, .aload_n 0), (5, .getfield 36), (8, .iconst 1), (9, .if_icmp .ge 7), (12, .iconst 0), (13, .goto 16), (16, .iconst 1), (17, .aload_n 0), (18, .getfield 32), (21, .iload_n 1), (22, .aload_n 0), (23, .getfield 36), (26, .irem), (27, .iaload), (28, .ishl), (29, .ireturn)]
def fe_t12 : List (Nat × Instr) := [(0, .aload_n 0), (1, .getfield 46), (4, .iload_n 1), (5, .iaload), (6, .iconst (-1)), (7, .if_icmp .eq 10), (10, .aload_n 0), (11, .getfield 46), (14, .iload_n 1), (15, .iaload), (16, .ireturn), (17, .aload_n 0), (18, .getfield 9), (21, .getfield 68), (24, .iload_n 1), (25, .baload), (26, .ifCond .ne 21), (29, .aload_n 0), (30, .getfield 9), (33, .aload_n 0), (34, .getfield 15), (37, .aload_n 0), (38, .getfield 19), (41, .invokevirtual 73), (44, .ifCond .eq 7), (47, .iconst 0), (48, .goto 6), (51, .sipush 255), (54, .istore_n 2), (55, .iconst 0), (56, .istore_n 3), (57, .iload_n 3), (58, .iconst 4), (59, .if_icmp .ge 30), (62, .iload_n 2), (63, .ifCond .eq 26), (66, .iload_n 2), (67, .aload_n 0), (68, .iload_n 1), (69, .iload_n 3), (70, .invokestatic 77), (73, .iload_n 1), (74, .iload_n 3), (75, .invokestatic 81), (78, .invokevirtual 84), (81, .iand), (82, .istore_n 2), (83, .iinc 3 1), (86, .goto (-29)), (89, .iload_n 2), (90, .ifCond .eq 24), (93, .aload_n 0), (94, .getfield 9), (97, .aload_n 0), (98, .getfield 15), (101, .aload_n 0), (102, .getfield 19), (105, .iload_n 1), (106, .invokevirtual 87), (109, .ifCond .ne 5), (112, .iconst 0), (113, .istore_n 2), (114, .aload_n 0), (115, .getfield 46), (118, .iload_n 1), (119, .iload_n 2), (120, .iastore), (121, .iload_n 2), (122, .ireturn)]
def fe_t13 : List (Nat × Instr) := [(0, .aload_n 0), (1, .getfield 49), (4, .iload_n 1), (5, .iaload), (6, .iconst (-1)), (7, .if_icmp .eq 10), (10, .aload_n 0), (11, .getfield 49), (14, .iload_n 1), (15, .iaload), (16, .ireturn), (17, .iconst 0), (18, .istore_n 2), (19, .iconst 0), (20, .istore_n 3), (21, .iload_n 3), (22, .iconst 4), (23, .if_icmp .ge 69), (26, .iload_n 1), (27, .iload_n 3), (28, .invokestatic 77), (31, .istore 4), (33, .iload_n 1), (34, .iload_n 3), (35, .invokestatic 81), (38, .istore 5), (40, .aload_n 0), (41, .iload 4), (43, .iload 5), (45, .invokevirtual 84), (48, .istore 6), (50, .iload 6), (52, .iload_n 2), (53, .iconst (-1)), (54, .ixor), (55, .iand), (56, .ifCond .eq 30), (59, .aload_n 0), (60, .getfield 9), (63, .aload_n 0), (64, .getfield 15), (67, .aload_n 0), (68, .getfield 19), (71, .iload 4), (73, .iload 5), (75, .invokevirtual 91), (78, .ifCond .eq 8), (81, .iload_n 2), (82, .iload 6), (84, .ior), (85, .istore_n 2), (86, .iinc 3 1), (89, .goto (-68)), (92, .aload_n 0), (93, .getfield 9), (96, .aload_n 0), (97, .getfield 15), (100, .aload_n 0), (101, .getfield 19), (104, .invokevirtual 73), (107, .ifCond .eq 5), (110, .iconst 0), (111, .istore_n 2), (112, .aload_n 0), (113, .getfield 49), (116, .iload_n 1), (117, .iload_n 2), (118, .iastore), (119, .iload_n 2), (120, .ireturn)]
def fe_t14 : List (Nat × Instr) := [(0, .iload_n 1), (1, .aload_n 0), (2, .getfield 15), (5, .isub), (6, .istore_n 3), (7, .iload_n 2), (8, .aload_n 0), (9, .getfield 19), (12, .isub), (13, .istore 4), (15, .iload_n 3), (16, .iload_n 3), (17, .imul), (18, .iload 4), (20, .iload 4), (22, .imul), (23, .iadd), (24, .aload_n 0), (25, .getfield 22), (28, .aload_n 0), (29, .getfield 22), (32, .imul), (33, .if_icmp .le 5), (36, .iconst 0), (37, .ireturn), (38, .iload_n 3), (39, .iload 4), (41, .invokestatic 95), (44, .istore 5), (46, .aload_n 0), (47, .getfield 28), (50, .ifCond .eq 8), (53, .iload 5), (55, .goto 20), (58, .iload 5), (60, .iload 5), (62, .iconst 1), (63, .ishl), (64, .ior), (65, .iload 5), (67, .bipush 7), (69, .ishr), (70, .ior), (71, .sipush 255), (74, .iand), (75, .ireturn)]
def fe_t15 : List (Nat × Instr) := [(0, .iconst 0), (1, .istore_n 2), (2, .iload_n 1), (3, .ifCond .lt 29), (6, .iload_n 2), (7, .iload_n 0), (8, .iload_n 1), (9, .if_icmp .lt 7), (12, .iconst 1), (13, .goto 4), (16, .iconst 0), (17, .iload_n 0), (18, .ineg), (19, .iload_n 1), (20, .if_icmp .lt 8), (23, .bipush 8), (25, .goto 4), (28, .iconst 0), (29, .ior), (30, .ior), (31, .istore_n 2), (32, .iload_n 0), (33, .ifCond .lt 29), (36, .iload_n 2), (37, .iload_n 1), (38, .iload_n 0), (39, .if_icmp .lt 7), (42, .iconst 2), (43, .goto 4), (46, .iconst 0), (47, .iload_n 1), (48, .ineg), (49, .iload_n 0), (50, .if_icmp .lt 8), (53, .bipush 64), (55, .goto 4), (58, .iconst 0), (59, .ior), (60, .ior), (61, .istore_n 2), (62, .iload_n 0), (63, .ifCond .gt 31), (66, .iload_n 2), (67, .iload_n 1), (68, .iload_n 0), (69, .ineg), (70, .if_icmp .lt 7), (73, .iconst 4), (74, .goto 4), (77, .iconst 0), (78, .iload_n 1), (79, .ineg), (80, .iload_n 0), (81, .ineg), (82, .if_icmp .lt 8), (85, .bipush 32), (87, .goto 4), (90, .iconst 0), (91, .ior), (92, .ior), (93, .istore_n 2), (94, .iload_n 1), (95, .ifCond .gt 33), (98, .iload_n 2), (99, .iload_n 0), (100, .ineg), (101, .iload_n 1), (102, .ineg), (103, .if_icmp .lt 8), (106, .bipush 16), (108, .goto 4), (111, .iconst 0), (112, .iload_n 0), (113, .iload_n 1), (114, .ineg), (115, .if_icmp .lt 9), (118, .sipush 128), (121, .goto 4), (124, .iconst 0), (125, .ior), (126, .ior), (127, .istore_n 2), (128, .iload_n 2), (129, .ireturn)]
def fe_t16 : List (Nat × Instr) := [(0, .aload_n 0), (1, .invokespecial 3), (4, .aload_n 0), (5, .sipush 192), (8, .newarray .boolean), (10, .putfield 9), (13, .aload_n 0), (14, .sipush 192), (17, .newarray .boolean), (19, .putfield 15), (22, .aload_n 0), (23, .sipush 192), (26, .newarray .boolean), (28, .putfield 18), (31, .aload_n 0), (32, .new 21), (35, .dup), (36, .invokespecial 23), (39, .putfield 24), (42, .return_)]
def fe_t17 : List (Nat × Instr) := [(0, .iload_n 1), (1, .bipush 16), (3, .irem), (4, .iload_n 2), (5, .bipush 16), (7, .irem), (8, .invokestatic 28), (11, .istore 4), (13, .iload_n 1), (14, .bipush 16), (16, .irem), (17, .iload_n 2), (18, .bipush 16), (20, .irem), (21, .invokestatic 34), (24, .istore 5), (26, .iload_n 1), (27, .bipush 16), (29, .idiv), (30, .iload_n 2), (31, .bipush 16), (33, .idiv), (34, .invokestatic 28), (37, .istore 6), (39, .iload_n 1), (40, .bipush 16), (42, .idiv), (43, .iload_n 2), (44, .bipush 16), (46, .idiv), (47, .invokestatic 34), (50, .istore 7), (52, .iconst 0), (53, .istore 8), (55, .iload 6), (57, .istore 9), (59, .iload 9), (61, .iload 7), (63, .if_icmp .gt 48), (66, .iload 4), (68, .istore 10), (70, .iload 10), (72, .iload 5), (74, .if_icmp .gt 31), (77, .aload_n 0), (78, .getfield 9), (81, .bipush 16), (83, .iload 9), (85, .imul), (86, .iload 10), (88, .iadd), (89, .iload_n 3), (90, .invokestatic 37), (93, .ifCond .eq 6), (96, .iinc 8 1), (99, .iinc 10 1), (102, .goto (-32)), (105, .iinc 9 1), (108, .goto (-49)), (111, .iload 8), (113, .ireturn)]
def fe_t18 : List (Nat × Instr) := [(0, .iload_n 1), (1, .bipush 15), (3, .invokestatic 28), (6, .istore_n 3), (7, .iload_n 2), (8, .bipush 11), (10, .invokestatic 28), (13, .istore 4), (15, .iload_n 2), (16, .iconst 1), (17, .isub), (18, .iconst 0), (19, .invokestatic 34), (22, .istore 5), (24, .iload 5), (26, .iload 4), (28, .if_icmp .gt 48), (31, .iload_n 1), (32, .iconst 1), (33, .isub), (34, .iconst 0), (35, .invokestatic 34), (38, .istore 6), (40, .iload 6), (42, .iload_n 3), (43, .if_icmp .gt 27), (46, .aload_n 0), (47, .getfield 9), (50, .bipush 16), (52, .iload 5), (54, .imul), (55, .iload 6), (57, .iadd), (58, .baload), (59, .ifCond .ne 5), (62, .iconst 0), (63, .ireturn), (64, .iinc 6 1), (67, .goto (-27)), (70, .iinc 5 1), (73, .goto (-49)), (76, .iconst 1), (77, .ireturn)]
def fe_t19 : List (Nat × Instr) := [(0, .aload_n 0), (1, .getfield 24), (4, .iload_n 1), (5, .iload_n 2), (6, .invokevirtual 41), (9, .iconst 0), (10, .istore 4), (12, .iload 4), (14, .iconst 4), (15, .if_icmp .ge 28), (18, .aload_n 0), (19, .getfield 24), (22, .iload_n 3), (23, .iload 4), (25, .invokestatic 45), (28, .iload_n 3), (29, .iload 4), (31, .invokestatic 48), (34, .invokevirtual 51), (37, .iinc 4 1), (40, .goto (-28)), (43, .aload_n 0), (44, .getfield 24), (47, .aload_n 0), (48, .getfield 9), (51, .invokevirtual 54), (54, .ireturn)]
def fe_t20 : List (Nat × Instr) := [(0, .aload_n 0), (1, .getfield 24), (4, .iload_n 1), (5, .iload_n 2), (6, .invokevirtual 41), (9, .aload_n 0), (10, .getfield 24), (13, .iload_n 3), (14, .iload 4), (16, .invokevirtual 51), (19, .aload_n 0), (20, .getfield 24), (23, .aload_n 0), (24, .getfield 9), (27, .invokevirtual 54), (30, .ireturn)]
def fe_t21 : List (Nat × Instr) := [(0, .iload_n 0), (1, .bipush 16), (3, .irem), (4, .iload_n 1), (5, .iconst 1), (6, .iand), (7, .iadd), (8, .ireturn)]
def fe_t22 : List (Nat × Instr) := [(0, .iload_n 0), (1, .bipush 16), (3, .idiv), (4, .iload_n 1), (5, .iconst 1), (6, .ishr), (7, .iadd), (8, .ireturn)]
def fe_t23 : List (Nat × Instr) := [(0, .aload_n 0), (1, .invokespecial 3), (4, .aload_n 0), (5, .bipush 64), (7, .newarray .long), (9, .putfield 11), (12, .aload_n 0), (13, .iconst 0), (14, .putfield 15), (17, .return_)]
def fe_t24 : List (Nat × Instr) := [(0, .aload_n 0), (1, .getfield 11), (4, .lconst 0), (5, .invokestatic 19), (8, .aload_n 0), (9, .iconst 0), (10, .putfield 15), (13, .return_)]
def fe_t25 : List (Nat × Instr) := [(0, .aload_n 0), (1, .dup), (2, .getfield 15), (5, .iload_n 1), (6, .ior), (7, .putfield 15), (10, .return_)]
def fe_t26 : List (Nat × Instr) := [(0, .iconst 0), (1, .istore_n 2), (2, .iload_n 2), (3, .bipush 24), (5, .if_icmp .ge 111), (8, .iconst 0), (9, .istore_n 3), (10, .iload_n 3), (11, .iconst 5), (12, .if_icmp .ge 98), (15, .iload_n 3), (16, .ifCond .le 23), (19, .aload_n 1), (20, .getfield 25), (23, .iload_n 3), (24, .iaload), (25, .aload_n 1), (26, .getfield 25), (29, .iload_n 3), (30, .iconst 1), (31, .isub), (32, .iaload), (33, .if_icmp .ne 6), (36, .goto 68), (39, .iconst 0), (40, .istore 4), (42, .iload 4), (44, .bipush 7), (46, .if_icmp .ge 58), (49, .iload 4), (51, .ifCond .eq 22), (54, .aload_n 1), (55, .getfield 31), (58, .iload 4), (60, .iaload), (61, .aload_n 1), (62, .getfield 31), (65, .iload 4), (67, .iconst 1), (68, .isub), (69, .iaload), (70, .if_icmp .eq 28), (73, .aload_n 0), (74, .aload_n 1), (75, .getfield 34), (78, .iload_n 2), (79, .iaload), (80, .aload_n 1), (81, .getfield 25), (84, .iload_n 3), (85, .iaload), (86, .ior), (87, .aload_n 1), (88, .getfield 31), (91, .iload 4), (93, .iaload), (94, .ior), (95, .invokevirtual 37), (98, .iinc 4 1), (101, .goto (-59)), (104, .iinc 3 1), (107, .goto (-97)), (110, .iinc 2 1), (113, .goto (-111)), (116, .return_)]
def fe_t27 : List (Nat × Instr) := [(0, .iload_n 1), (1, .sipush 4095), (4, .iand), (5, .istore_n 2), (6, .aload_n 0), (7, .getfield 11), (10, .iload_n 2), (11, .bipush 6), (13, .ishr), (14, .dup2), (15, .laload), (16, .lconst 1), (17, .iload_n 2), (18, .bipush 63), (20, .iand), (21, .lshl), (22, .lor), (23, .lastore), (24, .return_)]
def fe_t28 : List (Nat × Instr) := [(0, .iconst 0), (1, .istore_n 1), (2, .iload_n 1), (3, .bipush 6), (5, .if_icmp .ge 48), (8, .iconst 0), (9, .istore_n 2), (10, .iload_n 2), (11, .bipush 64), (13, .if_icmp .ge 34), (16, .aload_n 0), (17, .getfield 11), (20, .iload_n 2), (21, .dup2), (22, .laload), (23, .aload_n 0), (24, .getfield 11), (27, .iload_n 2), (28, .laload), (29, .getstatic 41), (32, .iload_n 1), (33, .laload), (34, .land), (35, .iconst 1), (36, .iload_n 1), (37, .ishl), (38, .lshl), (39, .lor), (40, .lastore), (41, .iinc 2 1), (44, .goto (-34)), (47, .iinc 1 1), (50, .goto (-48)), (53, .iconst 1), (54, .istore_n 1), (55, .iload_n 1), (56, .bipush 64), (58, .if_icmp .ge 47), (61, .iconst 0), (62, .istore_n 2), (63, .iload_n 2), (64, .bipush 64), (66, .if_icmp .ge 32), (69, .iload_n 2), (70, .iload_n 1), (71, .iand), (72, .ifCond .eq 20), (75, .aload_n 0), (76, .getfield 11), (79, .iload_n 2), (80, .dup2), (81, .laload), (82, .aload_n 0), (83, .getfield 11), (86, .iload_n 2), (87, .iload_n 1), (88, .isub), (89, .laload), (90, .lor), (91, .lastore), (92, .iinc 2 1), (95, .goto (-32)), (98, .iload_n 1), (99, .iconst 1), (100, .ishl), (101, .istore_n 1), (102, .goto (-47)), (105, .return_)]
def fe_t29 : List (Nat × Instr) := [(0, .iload_n 1), (1, .aload_n 0), (2, .getfield 15), (5, .iand), (6, .ifCond .ne 11), (9, .aload_n 0), (10, .iload_n 1), (11, .invokevirtual 44), (14, .ifCond .eq 5), (17, .iconst 0), (18, .ireturn), (19, .iload_n 2), (20, .ifCond .eq 41), (23, .iconst 0), (24, .istore_n 3), (25, .iload_n 3), (26, .bipush 12), (28, .if_icmp .ge 33), (31, .iload_n 1), (32, .iload_n 3), (33, .ishr), (34, .iconst 1), (35, .iand), (36, .ifCond .eq 19), (39, .aload_n 0), (40, .iload_n 1), (41, .iconst 1), (42, .iload_n 3), (43, .ishl), (44, .iconst (-1)), (45, .ixor), (46, .iand), (47, .invokevirtual 44), (50, .ifCond .eq 5), (53, .iconst 0), (54, .ireturn), (55, .iinc 3 1), (58, .goto (-33)), (61, .iconst 1), (62, .ireturn)]
def fe_t30 : List (Nat × Instr) := [(0, .iload_n 1), (1, .iconst (-1)), (2, .ixor), (3, .sipush 4095), (6, .iand), (7, .istore_n 2), (8, .aload_n 0), (9, .getfield 11), (12, .iload_n 2), (13, .bipush 6), (15, .ishr), (16, .laload), (17, .iload_n 2), (18, .bipush 63), (20, .iand), (21, .lshr), (22, .lconst 1), (23, .land), (24, .lconst 0), (25, .lcmp), (26, .ifCond .eq 7), (29, .iconst 1), (30, .goto 4), (33, .iconst 0), (34, .ireturn)]
def fe_t31 : List (Nat × Instr) := [(0, .aload_n 0), (1, .invokespecial 3), (4, .aload_n 0), (5, .bipush 60), (7, .newarray .int), (9, .putfield 9), (12, .aload_n 0), (13, .iconst 0), (14, .putfield 15), (17, .aload_n 0), (18, .iconst 0), (19, .putfield 19), (22, .aload_n 0), (23, .iconst 0), (24, .putfield 22), (27, .aload_n 0), (28, .iconst 0), (29, .putfield 25), (32, .aload_n 0), (33, .iconst (-1)), (34, .putfield 28), (37, .return_)]
def fe_t32 : List (Nat × Instr) := [(0, .aload_n 0), (1, .getfield 15), (4, .bipush 60), (6, .if_icmp .lt 5), (9, .iconst (-1)), (10, .ireturn), (11, .aload_n 0), (12, .getfield 9), (15, .aload_n 0), (16, .getfield 15), (19, .iload_n 1), (20, .iastore), (21, .aload_n 0), (22, .dup), (23, .getfield 15), (26, .iconst 1), (27, .iadd), (28, .putfield 15), (31, .aload_n 0), (32, .getfield 15), (35, .ireturn)]
def fe_t33 : List (Nat × Instr) := [(0, .aload_n 0), (1, .getfield 15), (4, .istore_n 1), (5, .aload_n 0), (6, .iconst 0), (7, .putfield 15), (10, .iload_n 1), (11, .ireturn)]
def fe_t34 : List (Nat × Instr) := [(0, .aload_n 0), (1, .iconst 0), (2, .putfield 19), (5, .aload_n 0), (6, .iconst 0), (7, .putfield 22), (10, .aload_n 0), (11, .iconst 0), (12, .putfield 25), (15, .aload_n 0), (16, .iconst (-1)), (17, .putfield 28), (20, .iconst (-1)), (21, .istore_n 3), (22, .iconst 0), (23, .istore 4), (25, .iconst 0), (26, .istore 5), (28, .iload 5), (30, .aload_n 0), (31, .getfield 15), (34, .if_icmp .ge 102), (37, .aload_n 0), (38, .aload_n 1), (39, .iload_n 2), (40, .iload 5), (42, .invokevirtual 31), (45, .istore 6), (47, .iload 6), (49, .ifCond .ne 22), (52, .iinc 4 1), (55, .aload_n 0), (56, .aload_n 0), (57, .getfield 22), (60, .iload 4), (62, .invokestatic 35), (65, .putfield 22), (68, .goto 62), (71, .iconst 0), (72, .istore 4), (74, .aload_n 0), (75, .dup), (76, .getfield 19), (79, .iconst 1), (80, .iadd), (81, .putfield 19), (84, .iload 6), (86, .invokestatic 41), (89, .istore 7), (91, .iload_n 3), (92, .iconst (-1)), (93, .if_icmp .ne 15), (96, .aload_n 0), (97, .iload 7), (99, .putfield 28), (102, .iload 7), (104, .istore_n 3), (105, .goto 25), (108, .iload 6), (110, .iload_n 3), (111, .ishr), (112, .iconst 1), (113, .iand), (114, .ifCond .ne 16), (117, .aload_n 0), (118, .dup), (119, .getfield 25), (122, .iconst 1), (123, .iadd), (124, .putfield 25), (127, .iload 7), (129, .istore_n 3), (130, .iinc 5 1), (133, .goto (-105)), (136, .return_)]
def fe_t35 : List (Nat × Instr) := [(0, .iconst 0), (1, .istore 4), (3, .iconst 0), (4, .istore 5), (6, .iload 5), (8, .aload_n 1), (9, .arraylength), (10, .if_icmp .ge 53), (13, .aload_n 1), (14, .iload 5), (16, .aaload), (17, .astore 6), (19, .iload_n 2), (20, .iload 5), (22, .ishr), (23, .iconst 1), (24, .iand), (25, .ifCond .eq 32), (28, .aload 6), (30, .ifnull 27), (33, .aload 6), (35, .aload_n 0), (36, .getfield 9), (39, .iload_n 3), (40, .iaload), (41, .iload_n 3), (42, .invokevirtual 47), (45, .ifCond .eq 12), (48, .iload 4), (50, .iconst 1), (51, .iload 5), (53, .ishl), (54, .ior), (55, .istore 4), (57, .iinc 5 1), (60, .goto (-54)), (63, .iload 4), (65, .ireturn)]
def fe_t36 : List (Nat × Instr) := [(0, .aload_n 0), (1, .invokespecial 3), (4, .aload_n 0), (5, .bipush 24), (7, .newarray .int), (9, .putfield 9), (12, .aload_n 0), (13, .iconst 5), (14, .newarray .int), (16, .putfield 15), (19, .aload_n 0), (20, .bipush 7), (22, .newarray .int), (24, .putfield 18), (27, .return_)]
def fe_t37 : List (Nat × Instr) := [(0, .aload_n 0), (1, .getfield 9), (4, .iconst 0), (5, .invokestatic 21), (8, .aload_n 0), (9, .getfield 15), (12, .iconst 0), (13, .invokestatic 21), (16, .aload_n 0), (17, .getfield 18), (20, .iconst 0), (21, .invokestatic 21), (24, .iconst 0), (25, .istore 4), (27, .iload 4), (29, .aload_n 1), (30, .arraylength), (31, .if_icmp .ge 55), (34, .aload_n 1), (35, .iload 4), (37, .aaload), (38, .astore 5), (40, .iload_n 2), (41, .iload 4), (43, .ishr), (44, .iconst 1), (45, .iand), (46, .ifCond .eq 34), (49, .aload 5), (51, .ifnull 29), (54, .aload 5), (56, .getfield 27), (59, .iload_n 3), (60, .baload), (61, .ifCond .ne 19), (64, .aload_n 0), (65, .aload 5), (67, .iconst 1), (68, .iload 4), (70, .ishl), (71, .aload 5), (73, .iload_n 3), (74, .invokevirtual 33), (77, .invokevirtual 37), (80, .iinc 4 1), (83, .goto (-56)), (86, .return_)]
def fe_t38 : List (Nat × Instr) := [(0, .iload_n 3), (1, .aload_n 1), (2, .getfield 41), (5, .iand), (6, .ifCond .ne 4), (9, .return_), (10, .aload_n 1), (11, .getfield 45), (14, .iconst 5), (15, .if_icmp .ne 10), (18, .aload_n 0), (19, .getfield 15), (22, .goto 23), (25, .aload_n 1), (26, .getfield 45), (29, .bipush 7), (31, .if_icmp .ne 10), (34, .aload_n 0), (35, .getfield 18), (38, .goto 7), (41, .aload_n 0), (42, .getfield 9), (45, .astore 4), (47, .iconst 0), (48, .istore 5), (50, .iload 5), (52, .aload 4), (54, .arraylength), (55, .if_icmp .ge 29), (58, .iload_n 3), (59, .aload_n 1), (60, .iload 5), (62, .invokevirtual 48), (65, .iand), (66, .ifCond .eq 12), (69, .aload 4), (71, .iload 5), (73, .dup2), (74, .iaload), (75, .iload_n 2), (76, .ior), (77, .iastore), (78, .iinc 5 1), (81, .goto (-31)), (84, .return_)]
def fe_t39 : List (Nat × Instr) := [(0, .iconst 0), (1, .istore_n 1), (2, .iconst 0), (3, .istore_n 2), (4, .iconst 0), (5, .istore_n 3), (6, .iconst 0), (7, .istore 4), (9, .iload 4), (11, .sipush 1680), (14, .if_icmp .ge 59), (17, .aload_n 0), (18, .getfield 9), (21, .iload 4), (23, .bipush 24), (25, .irem), (26, .iaload), (27, .aload_n 0), (28, .getfield 15), (31, .iload 4), (33, .iconst 5), (34, .irem), (35, .iaload), (36, .ior), (37, .aload_n 0), (38, .getfield 18), (41, .iload 4), (43, .bipush 7), (45, .irem), (46, .iaload), (47, .ior), (48, .ifCond .eq 10), (51, .iconst 1), (52, .istore_n 3), (53, .iconst 0), (54, .istore_n 2), (55, .goto 12), (58, .iinc 2 1), (61, .iload_n 1), (62, .iload_n 2), (63, .invokestatic 51), (66, .istore_n 1), (67, .iinc 4 1), (70, .goto (-61)), (73, .iload_n 3), (74, .ifCond .eq 7), (77, .iload_n 1), (78, .goto 4), (81, .iconst (-1)), (82, .ireturn)]
def fe_t40 : List (Nat × Instr) := [(0, .aload_n 0), (1, .invokespecial 1), (4, .aload_n 0), (5, .new 7), (8, .dup), (9, .invokespecial 9), (12, .putfield 10), (15, .aload_n 0), (16, .bipush 12), (18, .anewarray 16), (21, .putfield 18), (24, .aload_n 0), (25, .iconst 0), (26, .putfield 22), (29, .aload_n 0), (30, .new 26), (33, .dup), (34, .invokespecial 28), (37, .putfield 29), (40, .aload_n 0), (41, .new 33), (44, .dup), (45, .invokespecial 35), (48, .putfield 36), (51, .aload_n 0), (52, .iconst 0), (53, .putfield 40), (56, .aload_n 0), (57, .new 44), (60, .dup), (61, .invokespecial 46), (64, .putfield 47), (67, .return_)]
def fe_t41 : List (Nat × Instr) := [(0, .iload_n 1), (1, .invokestatic 51), (4, .iload_n 2), (5, .invokestatic 51), (8, .aload_n 0), (9, .getfield 10), (12, .iload_n 1), (13, .iload_n 2), (14, .iload_n 3), (15, .invokevirtual 55), (18, .istore 4), (20, .iload 4), (22, .ifCond .le 36), (25, .iconst 0), (26, .istore 5), (28, .iload 5), (30, .aload_n 0), (31, .getfield 22), (34, .if_icmp .ge 19), (37, .aload_n 0), (38, .getfield 18), (41, .iload 5), (43, .aaload), (44, .invokevirtual 59), (47, .iinc 5 1), (50, .goto (-22)), (53, .aload_n 0), (54, .iconst 0), (55, .putfield 40), (58, .iload 4), (60, .ireturn)]
def fe_t42 : List (Nat × Instr) := [(0, .iload_n 1), (1, .invokestatic 51), (4, .aload_n 0), (5, .iconst 0), (6, .putfield 40), (9, .aload_n 0), (10, .getfield 10), (13, .getfield 62), (16, .iload_n 1), (17, .iload_n 2), (18, .invokestatic 66), (21, .ireturn)]
def fe_t43 : List (Nat × Instr) := [(0, .iload_n 1), (1, .invokestatic 51), (4, .aload_n 0), (5, .iconst 0), (6, .putfield 40), (9, .aload_n 0), (10, .getfield 10), (13, .getfield 70), (16, .iload_n 1), (17, .iload_n 2), (18, .invokestatic 66), (21, .ireturn)]
def fe_t44 : List (Nat × Instr) := [(0, .iload_n 1), (1, .iconst 0), (2, .bipush 16), (4, .invokestatic 73), (7, .iload_n 2), (8, .iconst 0), (9, .bipush 12), (11, .invokestatic 73), (14, .iload_n 3), (15, .iconst 1), (16, .bipush 20), (18, .invokestatic 73), (21, .iload 4), (23, .iconst 0), (24, .sipush 10000), (27, .invokestatic 73), (30, .iload 6), (32, .iconst 0), (33, .bipush 7), (35, .invokestatic 73), (38, .aload_n 0), (39, .getfield 22), (42, .bipush 12), (44, .if_icmp .lt 13), (47, .new 77), (50, .dup), (51, .ldc 79), (53, .invokespecial 81), (56, .athrow), (57, .new 16), (60, .dup), (61, .aload_n 0), (62, .getfield 10), (65, .iload_n 1), (66, .iload_n 2), (67, .iload_n 3), (68, .iload 4), (70, .iload 5), (72, .invokespecial 84), (75, .astore 7), (77, .aload 7), (79, .iload 6), (81, .invokevirtual 87), (84, .pop), (85, .aload_n 0), (86, .getfield 18), (89, .aload_n 0), (90, .getfield 22), (93, .aload 7), (95, .aastore), (96, .aload_n 0), (97, .dup), (98, .getfield 22), (101, .iconst 1), (102, .iadd), (103, .putfield 22), (106, .aload_n 0), (107, .iconst 0), (108, .putfield 40), (111, .aload_n 0), (112, .getfield 22), (115, .iconst 1), (116, .isub), (117, .ireturn)]
def fe_t45 : List (Nat × Instr) := [(0, .aload_n 0), (1, .iload_n 1), (2, .invokevirtual 91), (5, .iload_n 2), (6, .iconst 0), (7, .bipush 7), (9, .invokestatic 73), (12, .aload_n 0), (13, .iconst 0), (14, .putfield 40), (17, .aload_n 0), (18, .getfield 18), (21, .iload_n 1), (22, .aaload), (23, .iload_n 2), (24, .invokevirtual 87), (27, .ireturn)]
def fe_t46 : List (Nat × Instr) := [(0, .aload_n 0), (1, .iload_n 1), (2, .invokevirtual 91), (5, .iload_n 2), (6, .invokestatic 51), (9, .aload_n 0), (10, .iconst 0), (11, .putfield 40), (14, .aload_n 0), (15, .getfield 18), (18, .iload_n 1), (19, .aaload), (20, .getfield 94), (23, .iload_n 2), (24, .iload_n 3), (25, .invokestatic 66), (28, .ireturn)]
def fe_t47 : List (Nat × Instr) := [(0, .aload_n 0), (1, .iload_n 1), (2, .invokevirtual 91), (5, .iload_n 2), (6, .invokestatic 51), (9, .aload_n 0), (10, .getfield 18), (13, .iload_n 1), (14, .aaload), (15, .iload_n 2), (16, .iload_n 3), (17, .invokevirtual 97), (20, .ireturn)]
def fe_t48 : List (Nat × Instr) := [(0, .aload_n 0), (1, .iload_n 1), (2, .invokevirtual 91), (5, .iload_n 2), (6, .invokestatic 51), (9, .aload_n 0), (10, .getfield 18), (13, .iload_n 1), (14, .aaload), (15, .iload_n 2), (16, .iload_n 3), (17, .invokevirtual 101), (20, .ireturn)]
def fe_t49 : List (Nat × Instr) := [(0, .aload_n 0), (1, .invokevirtual 104), (4, .aload_n 0), (5, .getfield 36), (8, .aload_n 0), (9, .iload_n 1), (10, .invokevirtual 107), (13, .iload_n 2), (14, .invokevirtual 110), (17, .ireturn)]
def fe_t50 : List (Nat × Instr) := [(0, .aload_n 0), (1, .invokevirtual 104), (4, .iconst (-1)), (5, .istore_n 2), (6, .iconst 0), (7, .istore_n 3), (8, .iconst 1), (9, .aload_n 0), (10, .getfield 22), (13, .ishl), (14, .istore 4), (16, .iconst 0), (17, .istore 5), (19, .iload 5), (21, .iload 4), (23, .if_icmp .ge 77), (26, .aload_n 0), (27, .iload 5), (29, .invokevirtual 114), (32, .istore 6), (34, .iload_n 2), (35, .iconst (-1)), (36, .if_icmp .eq 27), (39, .iload 6), (41, .iload_n 3), (42, .if_icmp .lt 21), (45, .iload 6), (47, .iload_n 3), (48, .if_icmp .ne 19), (51, .iload 5), (53, .invokestatic 117), (56, .iload_n 2), (57, .invokestatic 117), (60, .if_icmp .ge 7), (63, .iconst 1), (64, .goto 4), (67, .iconst 0), (68, .istore 7), (70, .iload 7), (72, .ifCond .eq 22), (75, .aload_n 0), (76, .getfield 36), (79, .iload 5), (81, .iload_n 1), (82, .invokevirtual 110), (85, .ifCond .eq 9), (88, .iload 5), (90, .istore_n 2), (91, .iload 6), (93, .istore_n 3), (94, .iinc 5 1), (97, .goto (-78)), (100, .iload_n 2), (101, .ireturn)]
def fe_t51 : List (Nat × Instr) := [(0, .aload_n 0), (1, .aload_n 0), (2, .iload_n 1), (3, .invokevirtual 107), (6, .invokevirtual 114), (9, .ireturn)]
def fe_t52 : List (Nat × Instr) := [(0, .iload_n 1), (1, .invokestatic 51), (4, .aload_n 0), (5, .getfield 29), (8, .aload_n 0), (9, .getfield 18), (12, .aload_n 0), (13, .iload_n 2), (14, .invokevirtual 107), (17, .iload_n 1), (18, .invokevirtual 122), (21, .aload_n 0), (22, .getfield 29), (25, .invokevirtual 126), (28, .ireturn)]
def fe_t53 : List (Nat × Instr) := [(0, .aload_n 0), (1, .iload_n 1), (2, .invokevirtual 107), (5, .istore_n 2), (6, .iconst 0), (7, .istore_n 3), (8, .iconst 0), (9, .istore 4), (11, .iload 4), (13, .sipush 192), (16, .if_icmp .ge 35), (19, .aload_n 0), (20, .getfield 10), (23, .getfield 130), (26, .iload 4), (28, .baload), (29, .ifCond .ne 16), (32, .aload_n 0), (33, .iload_n 2), (34, .iload 4), (36, .invokevirtual 133), (39, .ifCond .ne 6), (42, .iinc 3 1), (45, .iinc 4 1), (48, .goto (-37)), (51, .iload_n 3), (52, .ireturn)]
def fe_t54 : List (Nat × Instr) := [(0, .iload_n 1), (1, .invokestatic 51), (4, .aload_n 0), (5, .getfield 47), (8, .iload_n 1), (9, .invokevirtual 136), (12, .ireturn)]
def fe_t55 : List (Nat × Instr) := [(0, .aload_n 0), (1, .getfield 47), (4, .invokevirtual 139), (7, .ireturn)]
def fe_t56 : List (Nat × Instr) := [(0, .iload_n 2), (1, .ifCond .lt 8), (4, .iload_n 2), (5, .iconst 3), (6, .if_icmp .le 13), (9, .new 142), (12, .dup), (13, .ldc 144), (15, .invokespecial 146), (18, .athrow), (19, .aload_n 0), (20, .getfield 47), (23, .aload_n 0), (24, .getfield 18), (27, .aload_n 0), (28, .iload_n 1), (29, .invokevirtual 107), (32, .invokevirtual 147), (35, .iload_n 2), (36, .ifCond .ne 11), (39, .aload_n 0), (40, .getfield 47), (43, .getfield 151), (46, .ireturn), (47, .iload_n 2), (48, .iconst 1), (49, .if_icmp .ne 11), (52, .aload_n 0), (53, .getfield 47), (56, .getfield 154), (59, .ireturn), (60, .iload_n 2), (61, .iconst 2), (62, .if_icmp .ne 13), (65, .aload_n 0), (66, .getfield 47), (69, .getfield 157), (72, .goto 10), (75, .aload_n 0), (76, .getfield 47), (79, .getfield 160), (82, .ireturn)]
def fe_t57 : List (Nat × Instr) := [(0, .iload_n 1), (1, .tableswitch 81 0 4 #[35, 46, 57, 68, 73]), (36, .aload_n 0), (37, .getfield 10), (40, .getfield 130), (43, .invokestatic 163), (46, .ireturn), (47, .aload_n 0), (48, .getfield 10), (51, .getfield 62), (54, .invokestatic 163), (57, .ireturn), (58, .aload_n 0), (59, .getfield 10), (62, .getfield 70), (65, .invokestatic 163), (68, .ireturn), (69, .aload_n 0), (70, .getfield 22), (73, .ireturn), (74, .aload_n 0), (75, .getfield 47), (78, .getfield 167), (81, .ireturn), (82, .iconst (-1)), (83, .ireturn)]
def fe_t58 : List (Nat × Instr) := [(0, .iload_n 0), (1, .ifCond .lt 10), (4, .iload_n 0), (5, .sipush 192), (8, .if_icmp .lt 13), (11, .new 170), (14, .dup), (15, .ldc 172), (17, .invokespecial 174), (20, .athrow), (21, .return_)]
def fe_t59 : List (Nat × Instr) := [(0, .iload_n 1), (1, .ifCond .lt 11), (4, .iload_n 1), (5, .aload_n 0), (6, .getfield 22), (9, .if_icmp .lt 13), (12, .new 170), (15, .dup), (16, .ldc 175), (18, .invokespecial 174), (21, .athrow), (22, .return_)]
def fe_t60 : List (Nat × Instr) := [(0, .iload_n 0), (1, .iload_n 1), (2, .if_icmp .lt 8), (5, .iload_n 0), (6, .iload_n 2), (7, .if_icmp .le 13), (10, .new 177), (13, .dup), (14, .ldc 179), (16, .invokespecial 181), (19, .athrow), (20, .return_)]
def fe_t61 : List (Nat × Instr) := [(0, .aload_n 0), (1, .iload_n 1), (2, .baload), (3, .iload_n 2), (4, .if_icmp .eq 7), (7, .iconst 1), (8, .goto 4), (11, .iconst 0), (12, .istore_n 3), (13, .aload_n 0), (14, .iload_n 1), (15, .iload_n 2), (16, .bastore), (17, .iload_n 3), (18, .ireturn)]
def fe_t62 : List (Nat × Instr) := [(0, .iconst 0), (1, .istore_n 1), (2, .iconst 0), (3, .istore_n 2), (4, .iload_n 2), (5, .aload_n 0), (6, .arraylength), (7, .if_icmp .ge 18), (10, .aload_n 0), (11, .iload_n 2), (12, .baload), (13, .ifCond .eq 6), (16, .iinc 1 1), (19, .iinc 2 1), (22, .goto (-18)), (25, .iload_n 1), (26, .ireturn)]
def fe_t63 : List (Nat × Instr) := [(0, .iload_n 1), (1, .iconst 1), (2, .aload_n 0), (3, .getfield 22), (6, .ishl), (7, .iconst 1), (8, .isub), (9, .iand), (10, .ireturn)]
def fe_t64 : List (Nat × Instr) := [(0, .iconst 0), (1, .istore_n 2), (2, .iconst 0), (3, .istore_n 3), (4, .iload_n 3), (5, .aload_n 0), (6, .getfield 22), (9, .if_icmp .ge 29), (12, .iload_n 1), (13, .iload_n 3), (14, .ishr), (15, .iconst 1), (16, .iand), (17, .ifCond .eq 15), (20, .iload_n 2), (21, .aload_n 0), (22, .getfield 18), (25, .iload_n 3), (26, .aaload), (27, .getfield 182), (30, .iadd), (31, .istore_n 2), (32, .iinc 3 1), (35, .goto (-31)), (38, .iload_n 2), (39, .ireturn)]
def fe_t65 : List (Nat × Instr) := [(0, .iconst 0), (1, .istore_n 3), (2, .iload_n 3), (3, .aload_n 0), (4, .getfield 22), (7, .if_icmp .ge 32), (10, .iload_n 1), (11, .iload_n 3), (12, .ishr), (13, .iconst 1), (14, .iand), (15, .ifCond .eq 18), (18, .aload_n 0), (19, .getfield 18), (22, .iload_n 3), (23, .aaload), (24, .iload_n 2), (25, .invokevirtual 185), (28, .ifCond .eq 5), (31, .iconst 1), (32, .ireturn), (33, .iinc 3 1), (36, .goto (-34)), (39, .iconst 0), (40, .ireturn)]
def fe_t66 : List (Nat × Instr) := [(0, .aload_n 0), (1, .getfield 40), (4, .ifCond .eq 4), (7, .return_), (8, .aload_n 0), (9, .getfield 36), (12, .invokevirtual 189), (15, .aload_n 0), (16, .sipush 4095), (19, .invokevirtual 107), (22, .istore_n 1), (23, .iconst 0), (24, .istore_n 2), (25, .iload_n 2), (26, .sipush 192), (29, .if_icmp .ge 81), (32, .aload_n 0), (33, .getfield 10), (36, .getfield 62), (39, .iload_n 2), (40, .baload), (41, .ifCond .eq 39), (44, .aload_n 0), (45, .getfield 10), (48, .getfield 130), (51, .iload_n 2), (52, .baload), (53, .ifCond .ne 27), (56, .aload_n 0), (57, .getfield 29), (60, .aload_n 0), (61, .getfield 18), (64, .iload_n 1), (65, .iload_n 2), (66, .invokevirtual 122), (69, .aload_n 0), (70, .getfield 36), (73, .aload_n 0), (74, .getfield 29), (77, .invokevirtual 192), (80, .aload_n 0), (81, .getfield 10), (84, .getfield 70), (87, .iload_n 2), (88, .baload), (89, .ifCond .eq 15), (92, .aload_n 0), (93, .getfield 36), (96, .aload_n 0), (97, .iload_n 2), (98, .invokevirtual 196), (101, .invokevirtual 199), (104, .iinc 2 1), (107, .goto (-82)), (110, .aload_n 0), (111, .getfield 36), (114, .invokevirtual 202), (117, .aload_n 0), (118, .iconst 1), (119, .putfield 40), (122, .return_)]
def fe_t67 : List (Nat × Instr) := [(0, .iconst 0), (1, .istore_n 2), (2, .iconst 0), (3, .istore_n 3), (4, .iload_n 3), (5, .aload_n 0), (6, .getfield 22), (9, .if_icmp .ge 28), (12, .aload_n 0), (13, .getfield 18), (16, .iload_n 3), (17, .aaload), (18, .iload_n 1), (19, .invokevirtual 205), (22, .ifCond .eq 9), (25, .iload_n 2), (26, .iconst 1), (27, .iload_n 3), (28, .ishl), (29, .ior), (30, .istore_n 2), (31, .iinc 3 1), (34, .goto (-30)), (37, .iload_n 2), (38, .ireturn)]
def fe_t68 : List (Nat × Instr) := [(0, .aload_n 0), (1, .invokespecial 1), (4, .aload_n 0), (5, .sipush 192), (8, .newarray .boolean), (10, .putfield 9), (13, .aload_n 0), (14, .sipush 192), (17, .newarray .boolean), (19, .putfield 13), (22, .aload_n 0), (23, .sipush 192), (26, .newarray .boolean), (28, .putfield 16), (31, .aload_n 0), (32, .bipush 12), (34, .newarray .int), (36, .putfield 19), (39, .aload_n 0), (40, .bipush 12), (42, .newarray .int), (44, .putfield 23), (47, .aload_n 0), (48, .bipush 12), (50, .newarray .int), (52, .putfield 26), (55, .aload_n 0), (56, .bipush 12), (58, .newarray .int), (60, .putfield 29), (63, .aload_n 0), (64, .bipush 12), (66, .newarray .boolean), (68, .putfield 32), (71, .aload_n 0), (72, .bipush 96), (74, .newarray .int), (76, .putfield 35), (79, .aload_n 0), (80, .bipush 12), (82, .newarray .int), (84, .putfield 38), (87, .aload_n 0), (88, .sipush 2304), (91, .newarray .boolean), (93, .putfield 41), (96, .aload_n 0), (97, .iconst 5), (98, .newarray .int), (100, .putfield 44), (103, .aload_n 0), (104, .iconst 5), (105, .newarray .int), (107, .putfield 47), (110, .aload_n 0), (111, .bipush 96), (113, .newarray .boolean), (115, .putfield 50), (118, .aload_n 0), (119, .sipush 4096), (122, .newarray .boolean), (124, .putfield 53), (127, .aload_n 0), (128, .sipush 4096), (131, .newarray .int), (133, .putfield 56), (136, .aload_n 0), (137, .bipush 60), (139, .newarray .int), (141, .putfield 59), (144, .return_)]
def fe_t69 : List (Nat × Instr) := [(0, .aload_n 0), (1, .getfield 62), (4, .ireturn)]
def fe_t70 : List (Nat × Instr) := [(0, .iload_n 1), (1, .ifCond .eq 8), (4, .aload_n 0), (5, .iload_n 2), (6, .putfield 62), (9, .iload_n 1), (10, .ireturn)]
def fe_t71 : List (Nat × Instr) := [(0, .iload_n 0), (1, .iload_n 1), (2, .if_icmp .lt 12), (5, .iload_n 0), (6, .iload_n 2), (7, .if_icmp .gt 7), (10, .iconst 1), (11, .goto 4), (14, .iconst 0), (15, .ireturn)]
def fe_t72 : List (Nat × Instr) := [(0, .iload_n 0), (1, .iconst 0), (2, .sipush 191), (5, .invokestatic 66), (8, .ifCond .ne 7), (11, .iconst 1), (12, .goto 4), (15, .iconst 0), (16, .ireturn)]
def fe_t73 : List (Nat × Instr) := [(0, .iload_n 1), (1, .iconst 0), (2, .aload_n 0), (3, .getfield 70), (6, .iconst 1), (7, .isub), (8, .invokestatic 66), (11, .ifCond .ne 7), (14, .iconst 1), (15, .goto 4), (18, .iconst 0), (19, .ireturn)]
def fe_t74 : List (Nat × Instr) := [(0, .aload_n 0), (1, .iconst 0), (2, .putfield 62), (5, .aload_n 0), (6, .iload_n 1), (7, .invokestatic 73), (10, .ifCond .ne 10), (13, .iload_n 2), (14, .invokestatic 73), (17, .ifCond .eq 7), (20, .iconst 1), (21, .goto 4), (24, .iconst 0), (25, .iconst 1), (26, .invokevirtual 77), (29, .ifCond .eq 5), (32, .iconst 0), (33, .ireturn), (34, .iconst 0), (35, .istore 4), (37, .iconst 0), (38, .istore 5), (40, .iload 5), (42, .sipush 192), (45, .if_icmp .ge 84), (48, .iload 5), (50, .bipush 16), (52, .irem), (53, .iload_n 1), (54, .bipush 16), (56, .irem), (57, .iload_n 2), (58, .bipush 16), (60, .irem), (61, .invokestatic 81), (64, .ifCond .eq 26), (67, .iload 5), (69, .bipush 16), (71, .idiv), (72, .iload_n 1), (73, .bipush 16), (75, .idiv), (76, .iload_n 2), (77, .bipush 16), (79, .idiv), (80, .invokestatic 81), (83, .ifCond .eq 7), (86, .iconst 1), (87, .goto 4), (90, .iconst 0), (91, .istore 6), (93, .iload 6), (95, .ifCond .eq 28), (98, .aload_n 0), (99, .getfield 9), (102, .iload 5), (104, .baload), (105, .iload_n 3), (106, .if_icmp .ne 6), (109, .goto 14), (112, .aload_n 0), (113, .getfield 9), (116, .iload 5), (118, .iload_n 3), (119, .bastore), (120, .iinc 4 1), (123, .iinc 5 1), (126, .goto (-86)), (129, .iload 4), (131, .ireturn)]
def fe_t75 : List (Nat × Instr) := [(0, .iload_n 0), (1, .iload_n 1), (2, .iload_n 2), (3, .invokestatic 84), (6, .iload_n 1), (7, .iload_n 2), (8, .invokestatic 90), (11, .invokestatic 66), (14, .ireturn)]
def fe_t76 : List (Nat × Instr) := [(0, .aload_n 0), (1, .iconst 0), (2, .putfield 62), (5, .aload_n 0), (6, .iload_n 1), (7, .invokestatic 73), (10, .iconst 1), (11, .invokevirtual 77), (14, .ifCond .eq 5), (17, .iconst 0), (18, .ireturn), (19, .aload_n 0), (20, .getfield 13), (23, .iload_n 1), (24, .baload), (25, .istore_n 3), (26, .aload_n 0), (27, .getfield 13), (30, .iload_n 1), (31, .iload_n 2), (32, .bastore), (33, .iload_n 3), (34, .iload_n 2), (35, .if_icmp .eq 7), (38, .iconst 1), (39, .goto 4), (42, .iconst 0), (43, .ireturn)]
def fe_t77 : List (Nat × Instr) := [(0, .aload_n 0), (1, .iconst 0), (2, .putfield 62), (5, .aload_n 0), (6, .iload_n 1), (7, .invokestatic 73), (10, .iconst 1), (11, .invokevirtual 77), (14, .ifCond .eq 5), (17, .iconst 0), (18, .ireturn), (19, .aload_n 0), (20, .getfield 16), (23, .iload_n 1), (24, .baload), (25, .istore_n 3), (26, .aload_n 0), (27, .getfield 16), (30, .iload_n 1), (31, .iload_n 2), (32, .bastore), (33, .iload_n 3), (34, .iload_n 2), (35, .if_icmp .eq 7), (38, .iconst 1), (39, .goto 4), (42, .iconst 0), (43, .ireturn)]
def fe_t78 : List (Nat × Instr) := [(0, .aload_n 0), (1, .iconst 0), (2, .putfield 62), (5, .aload_n 0), (6, .iload_n 1), (7, .iconst 0), (8, .bipush 16), (10, .invokestatic 66), (13, .ifCond .eq 46), (16, .iload_n 2), (17, .iconst 0), (18, .bipush 12), (20, .invokestatic 66), (23, .ifCond .eq 36), (26, .iload_n 3), (27, .iconst 1), (28, .bipush 20), (30, .invokestatic 66), (33, .ifCond .eq 26), (36, .iload 4), (38, .iconst 0), (39, .sipush 10000), (42, .invokestatic 66), (45, .ifCond .eq 14), (48, .iload 6), (50, .iconst 0), (51, .bipush 7), (53, .invokestatic 66), (56, .ifCond .ne 7), (59, .iconst 1), (60, .goto 4), (63, .iconst 0), (64, .iconst 1), (65, .invokevirtual 77), (68, .ifCond .ne 25), (71, .aload_n 0), (72, .aload_n 0), (73, .getfield 70), (76, .bipush 12), (78, .if_icmp .ne 7), (81, .iconst 1), (82, .goto 4), (85, .iconst 0), (86, .iconst 2), (87, .invokevirtual 77), (90, .ifCond .eq 5), (93, .iconst 0), (94, .ireturn), (95, .aload_n 0), (96, .getfield 19), (99, .aload_n 0), (100, .getfield 70), (103, .iload_n 1), (104, .iastore), (105, .aload_n 0), (106, .getfield 23), (109, .aload_n 0), (110, .getfield 70), (113, .iload_n 2), (114, .iastore), (115, .aload_n 0), (116, .getfield 26), (119, .aload_n 0), (120, .getfield 70), (123, .iload_n 3), (124, .iastore), (125, .aload_n 0), (126, .getfield 29), (129, .aload_n 0), (130, .getfield 70), (133, .iload 4), (135, .iastore), (136, .aload_n 0), (137, .getfield 32), (140, .aload_n 0), (141, .getfield 70), (144, .iload 5), (146, .bastore), (147, .aload_n 0), (148, .getfield 35), (151, .bipush 8), (153, .aload_n 0), (154, .getfield 70), (157, .imul), (158, .iload 6), (160, .iastore), (161, .aload_n 0), (162, .getfield 38), (165, .aload_n 0), (166, .getfield 70), (169, .iconst 1), (170, .iastore), (171, .aload_n 0), (172, .dup), (173, .getfield 70), (176, .iconst 1), (177, .iadd), (178, .putfield 70), (181, .aload_n 0), (182, .getfield 70), (185, .iconst 1), (186, .isub), (187, .ireturn)]
def fe_t79 : List (Nat × Instr) := [(0, .aload_n 0), (1, .iconst 0), (2, .putfield 62), (5, .aload_n 0), (6, .aload_n 0), (7, .iload_n 1), (8, .invokevirtual 93), (11, .iconst 1), (12, .invokevirtual 77), (15, .ifCond .ne 26), (18, .aload_n 0), (19, .iload_n 2), (20, .iconst 0), (21, .bipush 7), (23, .invokestatic 66), (26, .ifCond .ne 7), (29, .iconst 1), (30, .goto 4), (33, .iconst 0), (34, .iconst 2), (35, .invokevirtual 77), (38, .ifCond .eq 5), (41, .iconst 0), (42, .ireturn), (43, .aload_n 0), (44, .getfield 38), (47, .iload_n 1), (48, .iaload), (49, .bipush 8), (51, .if_icmp .ne 5), (54, .iconst (-1)), (55, .ireturn), (56, .aload_n 0), (57, .getfield 35), (60, .bipush 8), (62, .iload_n 1), (63, .imul), (64, .aload_n 0), (65, .getfield 38), (68, .iload_n 1), (69, .iaload), (70, .iadd), (71, .iload_n 2), (72, .iastore), (73, .aload_n 0), (74, .getfield 38), (77, .iload_n 1), (78, .dup2), (79, .iaload), (80, .iconst 1), (81, .iadd), (82, .iastore), (83, .aload_n 0), (84, .getfield 38), (87, .iload_n 1), (88, .iaload), (89, .ireturn)]
def fe_t80 : List (Nat × Instr) := [(0, .aload_n 0), (1, .iconst 0), (2, .putfield 62), (5, .aload_n 0), (6, .aload_n 0), (7, .iload_n 1), (8, .invokevirtual 93), (11, .ifCond .ne 10), (14, .iload_n 2), (15, .invokestatic 73), (18, .ifCond .eq 7), (21, .iconst 1), (22, .goto 4), (25, .iconst 0), (26, .iconst 1), (27, .invokevirtual 77), (30, .ifCond .eq 5), (33, .iconst 0), (34, .ireturn), (35, .aload_n 0), (36, .getfield 41), (39, .sipush 192), (42, .iload_n 1), (43, .imul), (44, .iload_n 2), (45, .iadd), (46, .baload), (47, .istore 4), (49, .aload_n 0), (50, .getfield 41), (53, .sipush 192), (56, .iload_n 1), (57, .imul), (58, .iload_n 2), (59, .iadd), (60, .iload_n 3), (61, .bastore), (62, .iload 4), (64, .iload_n 3), (65, .if_icmp .eq 7), (68, .iconst 1), (69, .goto 4), (72, .iconst 0), (73, .ireturn)]
def fe_t81 : List (Nat × Instr) := [(0, .iload_n 0), (1, .bipush 7), (3, .iand), (4, .istore_n 1), (5, .iload_n 1), (6, .ifCond .eq 14), (9, .iload_n 1), (10, .iconst 1), (11, .if_icmp .eq 9), (14, .iload_n 1), (15, .bipush 7), (17, .if_icmp .ne 7), (20, .iconst 1), (21, .goto 19), (24, .iload_n 1), (25, .iconst 2), (26, .if_icmp .eq 9), (29, .iload_n 1), (30, .bipush 6), (32, .if_icmp .ne 7), (35, .iconst 0), (36, .goto 4), (39, .iconst (-1)), (40, .ireturn)]
def fe_t82 : List (Nat × Instr) := [(0, .iload_n 0), (1, .bipush 6), (3, .iadd), (4, .invokestatic 96), (7, .ireturn)]
def fe_t83 : List (Nat × Instr) := [(0, .iload_n 3), (1, .aload_n 0), (2, .getfield 19), (5, .iload_n 1), (6, .iaload), (7, .isub), (8, .istore 5), (10, .iload 4), (12, .aload_n 0), (13, .getfield 23), (16, .iload_n 1), (17, .iaload), (18, .isub), (19, .istore 6), (21, .iload 5), (23, .iload 5), (25, .imul), (26, .iload 6), (28, .iload 6), (30, .imul), (31, .iadd), (32, .aload_n 0), (33, .getfield 26), (36, .iload_n 1), (37, .iaload), (38, .aload_n 0), (39, .getfield 26), (42, .iload_n 1), (43, .iaload), (44, .imul), (45, .if_icmp .le 5), (48, .iconst 0), (49, .ireturn), (50, .aload_n 0), (51, .getfield 32), (54, .iload_n 1), (55, .baload), (56, .ifCond .eq 7), (59, .iload_n 2), (60, .goto 7), (63, .iload_n 2), (64, .bipush 7), (66, .iadd), (67, .istore 7), (69, .iload_n 2), (70, .iconst 1), (71, .iadd), (72, .istore 8), (74, .iload 7), (76, .invokestatic 96), (79, .iload 6), (81, .imul), (82, .iload 7), (84, .invokestatic 100), (87, .iload 5), (89, .imul), (90, .isub), (91, .ifCond .lt 27), (94, .iload 5), (96, .iload 8), (98, .invokestatic 100), (101, .imul), (102, .iload 6), (104, .iload 8), (106, .invokestatic 96), (109, .imul), (110, .isub), (111, .ifCond .lt 7), (114, .iconst 1), (115, .goto 4), (118, .iconst 0), (119, .ireturn)]
def fe_t84 : List (Nat × Instr) := [(0, .iconst 1), (1, .istore_n 2), (2, .iconst 0), (3, .istore_n 3), (4, .iload_n 3), (5, .iconst 4), (6, .if_icmp .ge 83), (9, .aload_n 0), (10, .getfield 19), (13, .iload_n 1), (14, .iaload), (15, .iload_n 3), (16, .iconst 2), (17, .irem), (18, .isub), (19, .istore 4), (21, .aload_n 0), (22, .getfield 23), (25, .iload_n 1), (26, .iaload), (27, .iload_n 3), (28, .iconst 2), (29, .idiv), (30, .isub), (31, .istore 5), (33, .iload_n 2), (34, .ifCond .eq 47), (37, .iload 4), (39, .ifCond .lt 38), (42, .iload 5), (44, .ifCond .lt 33), (47, .iload 4), (49, .bipush 16), (51, .if_icmp .ge 26), (54, .iload 5), (56, .bipush 12), (58, .if_icmp .ge 19), (61, .aload_n 0), (62, .getfield 9), (65, .bipush 16), (67, .iload 5), (69, .imul), (70, .iload 4), (72, .iadd), (73, .baload), (74, .ifCond .eq 7), (77, .iconst 1), (78, .goto 4), (81, .iconst 0), (82, .istore_n 2), (83, .iinc 3 1), (86, .goto (-82)), (89, .iload_n 2), (90, .ireturn)]
def fe_t85 : List (Nat × Instr) := [(0, .iconst 0), (1, .istore_n 3), (2, .iload_n 3), (3, .iconst 4), (4, .if_icmp .ge 37), (7, .aload_n 0), (8, .getfield 44), (11, .iload_n 3), (12, .iload_n 2), (13, .bipush 16), (15, .irem), (16, .iload_n 3), (17, .iconst 2), (18, .irem), (19, .iadd), (20, .iastore), (21, .aload_n 0), (22, .getfield 47), (25, .iload_n 3), (26, .iload_n 2), (27, .bipush 16), (29, .idiv), (30, .iload_n 3), (31, .iconst 2), (32, .idiv), (33, .iadd), (34, .iastore), (35, .iinc 3 1), (38, .goto (-36)), (41, .aload_n 0), (42, .getfield 44), (45, .iconst 4), (46, .aload_n 0), (47, .getfield 19), (50, .iload_n 1), (51, .iaload), (52, .iastore), (53, .aload_n 0), (54, .getfield 47), (57, .iconst 4), (58, .aload_n 0), (59, .getfield 23), (62, .iload_n 1), (63, .iaload), (64, .iastore), (65, .return_)]
def fe_t86 : List (Nat × Instr) := [(0, .ldc 105), (2, .istore 6), (4, .ldc 106), (6, .istore 7), (8, .iload_n 1), (9, .istore 8), (11, .iload 8), (13, .iload_n 1), (14, .iload_n 2), (15, .iadd), (16, .if_icmp .ge 49), (19, .iload_n 3), (20, .aload_n 0), (21, .getfield 47), (24, .iload 8), (26, .iaload), (27, .imul), (28, .iload 4), (30, .aload_n 0), (31, .getfield 44), (34, .iload 8), (36, .iaload), (37, .imul), (38, .isub), (39, .istore 9), (41, .iload 6), (43, .iload 9), (45, .invokestatic 84), (48, .istore 6), (50, .iload 7), (52, .iload 9), (54, .invokestatic 90), (57, .istore 7), (59, .iinc 8 1), (62, .goto (-51)), (65, .ldc 105), (67, .istore 8), (69, .ldc 106), (71, .istore 9), (73, .iconst 0), (74, .istore 10), (76, .iload 10), (78, .iconst 4), (79, .if_icmp .ge 55), (82, .iload_n 3), (83, .iload 5), (85, .bipush 16), (87, .idiv), (88, .iload 10), (90, .iconst 2), (91, .idiv), (92, .iadd), (93, .imul), (94, .iload 4), (96, .iload 5), (98, .bipush 16), (100, .irem), (101, .iload 10), (103, .iconst 2), (104, .irem), (105, .iadd), (106, .imul), (107, .isub), (108, .istore 11), (110, .iload 8), (112, .iload 11), (114, .invokestatic 84), (117, .istore 8), (119, .iload 9), (121, .iload 11), (123, .invokestatic 90), (126, .istore 9), (128, .iinc 10 1), (131, .goto (-55)), (134, .iload 7), (136, .iload 8), (138, .if_icmp .le 10), (141, .iload 9), (143, .iload 6), (145, .if_icmp .gt 7), (148, .iconst 1), (149, .goto 4), (152, .iconst 0), (153, .ireturn)]
def fe_t87 : List (Nat × Instr) := [(0, .aload_n 0), (1, .iconst 0), (2, .iconst 5), (3, .iconst 1), (4, .iconst 0), (5, .iload_n 1), (6, .invokevirtual 107), (9, .ifCond .ne 15), (12, .aload_n 0), (13, .iconst 0), (14, .iconst 5), (15, .iconst 0), (16, .iconst 1), (17, .iload_n 1), (18, .invokevirtual 107), (21, .ifCond .eq 5), (24, .iconst 1), (25, .ireturn), (26, .iconst 0), (27, .istore_n 2), (28, .iconst 0), (29, .istore_n 3), (30, .iload_n 3), (31, .iconst 5), (32, .if_icmp .ge 92), (35, .iload_n 3), (36, .iconst 1), (37, .iadd), (38, .istore 4), (40, .iload 4), (42, .iconst 5), (43, .if_icmp .ge 75), (46, .iload_n 2), (47, .ifCond .ne 71), (50, .aload_n 0), (51, .getfield 44), (54, .iload 4), (56, .iaload), (57, .aload_n 0), (58, .getfield 44), (61, .iload_n 3), (62, .iaload), (63, .isub), (64, .istore 5), (66, .aload_n 0), (67, .getfield 47), (70, .iload 4), (72, .iaload), (73, .aload_n 0), (74, .getfield 47), (77, .iload_n 3), (78, .iaload), (79, .isub), (80, .istore 6), (82, .iload 5), (84, .ifCond .ne 8), (87, .iload 6), (89, .ifCond .eq 21), (92, .aload_n 0), (93, .iconst 0), (94, .iconst 5), (95, .iload 5), (97, .iload 6), (99, .iload_n 1), (100, .invokevirtual 107), (103, .ifCond .eq 7), (106, .iconst 1), (107, .goto 4), (110, .iconst 0), (111, .istore_n 2), (112, .iinc 4 1), (115, .goto (-75)), (118, .iinc 3 1), (121, .goto (-91)), (124, .iload_n 2), (125, .ireturn)]
def fe_t88 : List (Nat × Instr) := [(0, .aload_n 0), (1, .iload_n 1), (2, .iload_n 2), (3, .invokevirtual 111), (6, .iconst 0), (7, .istore_n 3), (8, .iload_n 3), (9, .sipush 192), (12, .if_icmp .ge 28), (15, .aload_n 0), (16, .getfield 9), (19, .iload_n 3), (20, .baload), (21, .ifCond .eq 13), (24, .aload_n 0), (25, .iload_n 3), (26, .invokevirtual 115), (29, .ifCond .ne 5), (32, .iconst 0), (33, .ireturn), (34, .iinc 3 1), (37, .goto (-29)), (40, .iconst 1), (41, .ireturn)]
def fe_t89 : List (Nat × Instr) := [(0, .iconst 1), (1, .istore 4), (3, .iconst 0), (4, .istore 5), (6, .iload 5), (8, .iconst 4), (9, .if_icmp .ge 48), (12, .iload 4), (14, .ifCond .eq 34), (17, .aload_n 0), (18, .iload_n 1), (19, .iload_n 2), (20, .iload_n 3), (21, .bipush 16), (23, .irem), (24, .iload 5), (26, .iconst 2), (27, .irem), (28, .iadd), (29, .iload_n 3), (30, .bipush 16), (32, .idiv), (33, .iload 5), (35, .iconst 2), (36, .idiv), (37, .iadd), (38, .invokevirtual 118), (41, .ifCond .eq 7), (44, .iconst 1), (45, .goto 4), (48, .iconst 0), (49, .istore 4), (51, .iinc 5 1), (54, .goto (-48)), (57, .iload 4), (59, .ireturn)]
def fe_t90 : List (Nat × Instr) := [(0, .aload_n 0), (1, .getfield 9), (4, .iload_n 2), (5, .baload), (6, .ifCond .ne 49), (9, .aload_n 0), (10, .getfield 41), (13, .sipush 192), (16, .iload_n 1), (17, .imul), (18, .iload_n 2), (19, .iadd), (20, .baload), (21, .ifCond .ne 34), (24, .aload_n 0), (25, .iload_n 1), (26, .iload_n 3), (27, .iload_n 2), (28, .invokevirtual 122), (31, .ifCond .eq 24), (34, .aload_n 0), (35, .iload_n 1), (36, .invokevirtual 125), (39, .ifCond .ne 16), (42, .aload_n 0), (43, .iload_n 1), (44, .iload_n 2), (45, .invokevirtual 128), (48, .ifCond .eq 7), (51, .iconst 1), (52, .goto 4), (55, .iconst 0), (56, .ireturn)]
def fe_t91 : List (Nat × Instr) := [(0, .aload_n 0), (1, .getfield 44), (4, .iconst 3), (5, .aload_n 0), (6, .getfield 19), (9, .iload_n 1), (10, .iaload), (11, .iastore), (12, .aload_n 0), (13, .getfield 47), (16, .iconst 3), (17, .aload_n 0), (18, .getfield 23), (21, .iload_n 1), (22, .iaload), (23, .iastore), (24, .aload_n 0), (25, .getfield 44), (28, .iconst 4), (29, .iload_n 2), (30, .iastore), (31, .aload_n 0), (32, .getfield 47), (35, .iconst 4), (36, .iload_n 3), (37, .iastore), (38, .iconst 0), (39, .istore 4), (41, .iload 4), (43, .sipush 192), (46, .if_icmp .ge 74), (49, .aload_n 0), (50, .getfield 9), (53, .iload 4), (55, .baload), (56, .ifCond .eq 58), (59, .aload_n 0), (60, .iconst 3), (61, .iconst 2), (62, .iconst 1), (63, .iconst 0), (64, .iload 4), (66, .invokevirtual 107), (69, .ifCond .ne 45), (72, .aload_n 0), (73, .iconst 3), (74, .iconst 2), (75, .iconst 0), (76, .iconst 1), (77, .iload 4), (79, .invokevirtual 107), (82, .ifCond .ne 32), (85, .aload_n 0), (86, .iconst 3), (87, .iconst 2), (88, .iload_n 2), (89, .aload_n 0), (90, .getfield 19), (93, .iload_n 1), (94, .iaload), (95, .isub), (96, .iload_n 3), (97, .aload_n 0), (98, .getfield 23), (101, .iload_n 1), (102, .iaload), (103, .isub), (104, .iload 4), (106, .invokevirtual 107), (109, .ifCond .ne 5), (112, .iconst 0), (113, .ireturn), (114, .iinc 4 1), (117, .goto (-76)), (120, .iconst 1), (121, .ireturn)]
def fe_t92 : List (Nat × Instr) := [(0, .aload_n 0), (1, .getfield 41), (4, .sipush 192), (7, .iload_n 1), (8, .imul), (9, .iload_n 2), (10, .iadd), (11, .baload), (12, .ifCond .ne 11), (15, .aload_n 0), (16, .iload_n 1), (17, .invokevirtual 125), (20, .ifCond .eq 5), (23, .iconst 0), (24, .ireturn), (25, .iconst 0), (26, .istore 4), (28, .iload 4), (30, .iconst 4), (31, .if_icmp .ge 58), (34, .iload_n 2), (35, .bipush 16), (37, .irem), (38, .iload 4), (40, .iconst 2), (41, .irem), (42, .iadd), (43, .istore 5), (45, .iload_n 2), (46, .bipush 16), (48, .idiv), (49, .iload 4), (51, .iconst 2), (52, .idiv), (53, .iadd), (54, .istore 6), (56, .aload_n 0), (57, .iload_n 1), (58, .iload_n 3), (59, .iload 5), (61, .iload 6), (63, .invokevirtual 118), (66, .ifCond .eq 17), (69, .aload_n 0), (70, .iload_n 1), (71, .iload 5), (73, .iload 6), (75, .invokevirtual 132), (78, .ifCond .eq 5), (81, .iconst 1), (82, .ireturn), (83, .iinc 4 1), (86, .goto (-58)), (89, .iconst 0), (90, .ireturn)]
def fe_t93 : List (Nat × Instr) := [(0, .aload_n 0), (1, .getfield 35), (4, .bipush 8), (6, .iload_n 1), (7, .imul), (8, .iload_n 2), (9, .aload_n 0), (10, .getfield 38), (13, .iload_n 1), (14, .iaload), (15, .irem), (16, .iadd), (17, .iaload), (18, .ireturn)]
def fe_t94 : List (Nat × Instr) := [(0, .aload_n 0), (1, .iconst 0), (2, .putfield 62), (5, .aload_n 0), (6, .aload_n 0), (7, .iload_n 1), (8, .invokevirtual 93), (11, .ifCond .ne 10), (14, .iload_n 2), (15, .invokestatic 73), (18, .ifCond .eq 7), (21, .iconst 1), (22, .goto 4), (25, .iconst 0), (26, .iconst 1), (27, .invokevirtual 77), (30, .ifCond .ne 26), (33, .iload_n 3), (34, .ifCond .lt 22), (37, .aload_n 0), (38, .iload_n 1), (39, .iload_n 2), (40, .aload_n 0), (41, .iload_n 1), (42, .iload_n 3), (43, .invokevirtual 135), (46, .invokevirtual 138), (49, .ifCond .eq 7), (52, .iconst 1), (53, .goto 4), (56, .iconst 0), (57, .ireturn)]
def fe_t95 : List (Nat × Instr) := [(0, .aload_n 0), (1, .iconst 0), (2, .putfield 62), (5, .aload_n 0), (6, .aload_n 0), (7, .iload_n 1), (8, .invokevirtual 93), (11, .ifCond .ne 10), (14, .iload_n 2), (15, .invokestatic 73), (18, .ifCond .eq 7), (21, .iconst 1), (22, .goto 4), (25, .iconst 0), (26, .iconst 1), (27, .invokevirtual 77), (30, .ifCond .ne 26), (33, .iload_n 3), (34, .ifCond .lt 22), (37, .aload_n 0), (38, .iload_n 1), (39, .iload_n 2), (40, .aload_n 0), (41, .iload_n 1), (42, .iload_n 3), (43, .invokevirtual 135), (46, .invokevirtual 141), (49, .ifCond .eq 7), (52, .iconst 1), (53, .goto 4), (56, .iconst 0), (57, .ireturn)]
def fe_t96 : List (Nat × Instr) := [(0, .iconst 0), (1, .istore_n 2), (2, .iload_n 2), (3, .aload_n 0), (4, .getfield 70), (7, .if_icmp .ge 144), (10, .iconst 0), (11, .istore_n 3), (12, .iload_n 3), (13, .aload_n 0), (14, .getfield 38), (17, .iload_n 2), (18, .iaload), (19, .if_icmp .ge 126), (22, .iconst 0), (23, .istore 4), (25, .iconst 0), (26, .istore 5), (28, .iload 5), (30, .iload_n 3), (31, .if_icmp .ge 75), (34, .iload 4), (36, .ifCond .ne 70), (39, .aload_n 0), (40, .getfield 35), (43, .bipush 8), (45, .iload_n 2), (46, .imul), (47, .iload 5), (49, .iadd), (50, .iaload), (51, .aload_n 0), (52, .getfield 35), (55, .bipush 8), (57, .iload_n 2), (58, .imul), (59, .iload_n 3), (60, .iadd), (61, .iaload), (62, .if_icmp .ne 7), (65, .iconst 1), (66, .goto 4), (69, .iconst 0), (70, .istore 4), (72, .iload 4), (74, .ifCond .eq 26), (77, .aload_n 0), (78, .getfield 50), (81, .bipush 8), (83, .iload_n 2), (84, .imul), (85, .iload_n 3), (86, .iadd), (87, .aload_n 0), (88, .getfield 50), (91, .bipush 8), (93, .iload_n 2), (94, .imul), (95, .iload 5), (97, .iadd), (98, .baload), (99, .bastore), (100, .iinc 5 1), (103, .goto (-75)), (106, .iload 4), (108, .ifCond .ne 31), (111, .aload_n 0), (112, .getfield 50), (115, .bipush 8), (117, .iload_n 2), (118, .imul), (119, .iload_n 3), (120, .iadd), (121, .aload_n 0), (122, .iload_n 2), (123, .iload_n 1), (124, .aload_n 0), (125, .getfield 35), (128, .bipush 8), (130, .iload_n 2), (131, .imul), (132, .iload_n 3), (133, .iadd), (134, .iaload), (135, .invokevirtual 138), (138, .bastore), (139, .iinc 3 1), (142, .goto (-130)), (145, .iinc 2 1), (148, .goto (-146)), (151, .return_)]
def fe_t97 : List (Nat × Instr) := [(0, .iconst 0), (1, .istore_n 2), (2, .iconst 0), (3, .istore_n 3), (4, .iload_n 3), (5, .aload_n 0), (6, .getfield 70), (9, .if_icmp .ge 40), (12, .iload_n 2), (13, .aload_n 0), (14, .getfield 50), (17, .bipush 8), (19, .iload_n 3), (20, .imul), (21, .iload_n 1), (22, .aload_n 0), (23, .getfield 38), (26, .iload_n 3), (27, .iaload), (28, .irem), (29, .iadd), (30, .baload), (31, .ifCond .eq 9), (34, .iconst 1), (35, .iload_n 3), (36, .ishl), (37, .goto 4), (40, .iconst 0), (41, .ior), (42, .istore_n 2), (43, .iinc 3 1), (46, .goto (-42)), (49, .iload_n 2), (50, .ireturn)]
def fe_t98 : List (Nat × Instr) := [(0, .iconst 0), (1, .istore_n 1), (2, .iload_n 1), (3, .sipush 4096), (6, .if_icmp .ge 16), (9, .aload_n 0), (10, .getfield 53), (13, .iload_n 1), (14, .iconst 0), (15, .bastore), (16, .iinc 1 1), (19, .goto (-17)), (22, .aload_n 0), (23, .iconst 0), (24, .putfield 144), (27, .iconst 0), (28, .istore_n 1), (29, .iload_n 1), (30, .sipush 192), (33, .if_icmp .ge 147), (36, .iconst 0), (37, .istore_n 2), (38, .iload_n 2), (39, .aload_n 0), (40, .getfield 70), (43, .if_icmp .ge 79), (46, .aload_n 0), (47, .getfield 16), (50, .iload_n 1), (51, .baload), (52, .ifCond .eq 70), (55, .iconst 0), (56, .istore_n 3), (57, .iload_n 3), (58, .aload_n 0), (59, .getfield 38), (62, .iload_n 2), (63, .iaload), (64, .if_icmp .ge 52), (67, .aload_n 0), (68, .getfield 144), (71, .iload_n 2), (72, .ishr), (73, .iconst 1), (74, .iand), (75, .ifCond .ne 41), (78, .aload_n 0), (79, .iload_n 2), (80, .iload_n 1), (81, .aload_n 0), (82, .getfield 35), (85, .bipush 8), (87, .iload_n 2), (88, .imul), (89, .iload_n 3), (90, .iadd), (91, .iaload), (92, .invokevirtual 141), (95, .ifCond .eq 15), (98, .aload_n 0), (99, .dup), (100, .getfield 144), (103, .iconst 1), (104, .iload_n 2), (105, .ishl), (106, .ior), (107, .putfield 144), (110, .iinc 3 1), (113, .goto (-56)), (116, .iinc 2 1), (119, .goto (-81)), (122, .aload_n 0), (123, .getfield 13), (126, .iload_n 1), (127, .baload), (128, .ifCond .eq 46), (131, .aload_n 0), (132, .getfield 9), (135, .iload_n 1), (136, .baload), (137, .ifCond .eq 6), (140, .goto 34), (143, .aload_n 0), (144, .iload_n 1), (145, .invokevirtual 147), (148, .iconst 0), (149, .istore_n 2), (150, .iload_n 2), (151, .sipush 840), (154, .if_icmp .ge 20), (157, .aload_n 0), (158, .getfield 53), (161, .aload_n 0), (162, .iload_n 2), (163, .invokevirtual 151), (166, .iconst 1), (167, .bastore), (168, .iinc 2 1), (171, .goto (-21)), (174, .iinc 1 1), (177, .goto (-148)), (180, .aload_n 0), (181, .iconst 0), (182, .putfield 154), (185, .iconst 0), (186, .istore_n 1), (187, .iload_n 1), (188, .sipush 4096), (191, .if_icmp .ge 41), (194, .aload_n 0), (195, .getfield 53), (198, .iload_n 1), (199, .baload), (200, .ifCond .ne 6), (203, .goto 23), (206, .aload_n 0), (207, .getfield 56), (210, .aload_n 0), (211, .getfield 154), (214, .iload_n 1), (215, .iastore), (216, .aload_n 0), (217, .dup), (218, .getfield 154), (221, .iconst 1), (222, .iadd), (223, .putfield 154), (226, .iinc 1 1), (229, .goto (-42)), (232, .return_)]
def fe_t99 : List (Nat × Instr) := [(0, .iload_n 1), (1, .aload_n 0), (2, .getfield 144), (5, .iand), (6, .ifCond .eq 5), (9, .iconst 0), (10, .ireturn), (11, .iconst 0), (12, .istore_n 2), (13, .iload_n 2), (14, .aload_n 0), (15, .getfield 154), (18, .if_icmp .ge 22), (21, .aload_n 0), (22, .getfield 56), (25, .iload_n 2), (26, .iaload), (27, .iload_n 1), (28, .iand), (29, .ifCond .ne 5), (32, .iconst 0), (33, .ireturn), (34, .iinc 2 1), (37, .goto (-24)), (40, .iconst 1), (41, .ireturn)]
def fe_t100 : List (Nat × Instr) := [(0, .aload_n 0), (1, .iload_n 1), (2, .invokevirtual 157), (5, .ifCond .ne 5), (8, .iconst 0), (9, .ireturn), (10, .iconst 0), (11, .istore_n 3), (12, .iload_n 3), (13, .aload_n 0), (14, .getfield 70), (17, .if_icmp .ge 38), (20, .iload_n 2), (21, .ifCond .eq 34), (24, .iload_n 1), (25, .iload_n 3), (26, .ishr), (27, .iconst 1), (28, .iand), (29, .iconst 1), (30, .if_icmp .ne 19), (33, .aload_n 0), (34, .iload_n 1), (35, .iconst 1), (36, .iload_n 3), (37, .ishl), (38, .iconst (-1)), (39, .ixor), (40, .iand), (41, .invokevirtual 157), (44, .ifCond .ne 5), (47, .iconst 0), (48, .ireturn), (49, .iinc 3 1), (52, .goto (-40)), (55, .iconst 1), (56, .ireturn)]
def fe_t101 : List (Nat × Instr) := [(0, .iload_n 1), (1, .iconst 1), (2, .aload_n 0), (3, .getfield 70), (6, .ishl), (7, .iconst 1), (8, .isub), (9, .iand), (10, .ireturn)]
def fe_t102 : List (Nat × Instr) := [(0, .aload_n 0), (1, .iconst 0), (2, .putfield 62), (5, .aload_n 0), (6, .invokevirtual 160), (9, .aload_n 0), (10, .aload_n 0), (11, .iload_n 1), (12, .invokevirtual 163), (15, .iload_n 2), (16, .invokevirtual 166), (19, .ireturn)]
def fe_t103 : List (Nat × Instr) := [(0, .iconst 0), (1, .istore_n 2), (2, .iconst 0), (3, .istore_n 3), (4, .iload_n 3), (5, .aload_n 0), (6, .getfield 70), (9, .if_icmp .ge 31), (12, .iload_n 2), (13, .iload_n 1), (14, .iload_n 3), (15, .ishr), (16, .iconst 1), (17, .iand), (18, .iconst 1), (19, .if_icmp .ne 12), (22, .aload_n 0), (23, .getfield 29), (26, .iload_n 3), (27, .iaload), (28, .goto 4), (31, .iconst 0), (32, .iadd), (33, .istore_n 2), (34, .iinc 3 1), (37, .goto (-33)), (40, .iload_n 2), (41, .ireturn)]
def fe_t104 : List (Nat × Instr) := [(0, .aload_n 0), (1, .iconst 0), (2, .putfield 62), (5, .aload_n 0), (6, .invokevirtual 160), (9, .iconst (-1)), (10, .istore_n 2), (11, .iconst 0), (12, .istore_n 3), (13, .iload_n 3), (14, .iconst 1), (15, .aload_n 0), (16, .getfield 70), (19, .ishl), (20, .if_icmp .ge 61), (23, .iload_n 2), (24, .ifCond .lt 40), (27, .aload_n 0), (28, .iload_n 3), (29, .invokevirtual 170), (32, .aload_n 0), (33, .iload_n 2), (34, .invokevirtual 170), (37, .isub), (38, .istore 4), (40, .iload 4), (42, .ifCond .gt 33), (45, .iload 4), (47, .ifCond .ne 17), (50, .iload_n 3), (51, .invokestatic 173), (54, .iload_n 2), (55, .invokestatic 173), (58, .if_icmp .lt 6), (61, .goto 14), (64, .aload_n 0), (65, .iload_n 3), (66, .iload_n 1), (67, .invokevirtual 166), (70, .ifCond .eq 5), (73, .iload_n 3), (74, .istore_n 2), (75, .iinc 3 1), (78, .goto (-65)), (81, .iload_n 2), (82, .ireturn)]
def fe_t105 : List (Nat × Instr) := [(0, .aload_n 0), (1, .iconst 0), (2, .putfield 62), (5, .aload_n 0), (6, .iload_n 1), (7, .invokevirtual 170), (10, .ireturn)]
def fe_t106 : List (Nat × Instr) := [(0, .aload_n 0), (1, .iconst 0), (2, .putfield 62), (5, .aload_n 0), (6, .iload_n 1), (7, .invokestatic 73), (10, .iconst 1), (11, .invokevirtual 77), (14, .ifCond .eq 5), (17, .iconst 0), (18, .ireturn), (19, .aload_n 0), (20, .iload_n 1), (21, .invokevirtual 147), (24, .iconst 0), (25, .istore_n 3), (26, .iconst 0), (27, .istore 4), (29, .iconst 0), (30, .istore 5), (32, .iconst 0), (33, .istore 6), (35, .iload 6), (37, .sipush 1680), (40, .if_icmp .ge 66), (43, .aload_n 0), (44, .iload 6), (46, .invokevirtual 151), (49, .iload_n 2), (50, .iand), (51, .ifCond .eq 7), (54, .iconst 1), (55, .goto 4), (58, .iconst 0), (59, .istore 7), (61, .iload 5), (63, .ifCond .ne 8), (66, .iload 7), (68, .ifCond .eq 7), (71, .iconst 1), (72, .goto 4), (75, .iconst 0), (76, .istore 5), (78, .iload 7), (80, .ifCond .eq 7), (83, .iconst 0), (84, .goto 7), (87, .iload 4), (89, .iconst 1), (90, .iadd), (91, .istore 4), (93, .iload_n 3), (94, .iload 4), (96, .invokestatic 90), (99, .istore_n 3), (100, .iinc 6 1), (103, .goto (-68)), (106, .iload 5), (108, .ifCond .eq 7), (111, .iload_n 3), (112, .goto 4), (115, .iconst (-1)), (116, .ireturn)]
def fe_t107 : List (Nat × Instr) := [(0, .aload_n 0), (1, .iconst 0), (2, .putfield 62), (5, .iconst 0), (6, .istore_n 2), (7, .iconst 0), (8, .istore_n 3), (9, .iload_n 3), (10, .sipush 192), (13, .if_icmp .ge 118), (16, .aload_n 0), (17, .getfield 9), (20, .iload_n 3), (21, .baload), (22, .ifCond .eq 6), (25, .goto 100), (28, .iconst 0), (29, .istore 4), (31, .iconst 0), (32, .istore 5), (34, .iload 5), (36, .aload_n 0), (37, .getfield 70), (40, .if_icmp .ge 72), (43, .iload 4), (45, .ifCond .ne 67), (48, .iconst 0), (49, .istore 6), (51, .iload 6), (53, .aload_n 0), (54, .getfield 38), (57, .iload 5), (59, .iaload), (60, .if_icmp .ge 46), (63, .iload 4), (65, .ifCond .ne 41), (68, .iload_n 1), (69, .iload 5), (71, .ishr), (72, .iconst 1), (73, .iand), (74, .iconst 1), (75, .if_icmp .ne 31), (78, .aload_n 0), (79, .iload 5), (81, .iload_n 3), (82, .aload_n 0), (83, .getfield 35), (86, .bipush 8), (88, .iload 5), (90, .imul), (91, .iload 6), (93, .iadd), (94, .iaload), (95, .invokevirtual 138), (98, .istore 4), (100, .iinc 6 1), (103, .goto (-52)), (106, .iinc 5 1), (109, .goto (-75)), (112, .iload_n 2), (113, .iload 4), (115, .ifCond .eq 7), (118, .iconst 0), (119, .goto 4), (122, .iconst 1), (123, .iadd), (124, .istore_n 2), (125, .iinc 3 1), (128, .goto (-119)), (131, .iload_n 2), (132, .ireturn)]
def fe_t108 : List (Nat × Instr) := [(0, .aload_n 0), (1, .iconst 0), (2, .putfield 62), (5, .aload_n 0), (6, .iload_n 1), (7, .invokestatic 73), (10, .iconst 1), (11, .invokevirtual 77), (14, .ifCond .eq 5), (17, .iconst 0), (18, .ireturn), (19, .aload_n 0), (20, .getfield 176), (23, .bipush 60), (25, .if_icmp .ne 5), (28, .iconst (-1)), (29, .ireturn), (30, .aload_n 0), (31, .getfield 59), (34, .aload_n 0), (35, .getfield 176), (38, .iload_n 1), (39, .iastore), (40, .aload_n 0), (41, .dup), (42, .getfield 176), (45, .iconst 1), (46, .iadd), (47, .putfield 176), (50, .aload_n 0), (51, .getfield 176), (54, .ireturn)]
def fe_t109 : List (Nat × Instr) := [(0, .aload_n 0), (1, .iconst 0), (2, .putfield 62), (5, .aload_n 0), (6, .getfield 176), (9, .istore_n 1), (10, .aload_n 0), (11, .iconst 0), (12, .putfield 176), (15, .iload_n 1), (16, .ireturn)]
def fe_t110 : List (Nat × Instr) := [(0, .iload_n 2), (1, .iload_n 1), (2, .ishr), (3, .iconst 1), (4, .iand), (5, .iconst 1), (6, .if_icmp .ne 27), (9, .aload_n 0), (10, .iload_n 1), (11, .aload_n 0), (12, .getfield 59), (15, .iload_n 3), (16, .iaload), (17, .aload_n 0), (18, .iload_n 1), (19, .iload_n 3), (20, .invokevirtual 135), (23, .invokevirtual 138), (26, .ifCond .eq 7), (29, .iconst 1), (30, .goto 4), (33, .iconst 0), (34, .ireturn)]
def fe_t111 : List (Nat × Instr) := [(0, .aload_n 0), (1, .iconst 0), (2, .putfield 62), (5, .aload_n 0), (6, .iload_n 2), (7, .iconst 0), (8, .iconst 3), (9, .invokestatic 66), (12, .ifCond .ne 7), (15, .iconst 1), (16, .goto 4), (19, .iconst 0), (20, .iconst 1), (21, .invokevirtual 77), (24, .ifCond .eq 5), (27, .iconst 0), (28, .ireturn), (29, .iconst 0), (30, .istore_n 3), (31, .iconst 0), (32, .istore 4), (34, .iconst 0), (35, .istore 5), (37, .iconst 0), (38, .istore 6), (40, .iconst (-1)), (41, .istore 7), (43, .iconst (-1)), (44, .istore 8), (46, .iconst 0), (47, .istore 9), (49, .iload 9), (51, .aload_n 0), (52, .getfield 176), (55, .if_icmp .ge 148), (58, .iload 8), (60, .ifCond .lt 20), (63, .aload_n 0), (64, .iload 8), (66, .iload_n 1), (67, .iload 9), (69, .invokevirtual 179), (72, .ifCond .eq 8), (75, .iload 8), (77, .goto 4), (80, .iconst (-1)), (81, .istore 10), (83, .iconst 0), (84, .istore 11), (86, .iload 11), (88, .aload_n 0), (89, .getfield 70), (92, .if_icmp .ge 30), (95, .iload 10), (97, .ifCond .ge 25), (100, .aload_n 0), (101, .iload 11), (103, .iload_n 1), (104, .iload 9), (106, .invokevirtual 179), (109, .ifCond .eq 7), (112, .iload 11), (114, .istore 10), (116, .iinc 11 1), (119, .goto (-33)), (122, .iload 10), (124, .ifCond .ge 10), (127, .iload 4), (129, .iconst 1), (130, .iadd), (131, .goto 4), (134, .iconst 0), (135, .istore 4), (137, .iload 5), (139, .iload 4), (141, .invokestatic 90), (144, .istore 5), (146, .iload 10), (148, .ifCond .ge 6), (151, .goto 46), (154, .iinc 3 1), (157, .iload 7), (159, .ifCond .ge 8), (162, .iload 10), (164, .goto 5), (167, .iload 7), (169, .istore 7), (171, .iload 6), (173, .iload 8), (175, .ifCond .lt 14), (178, .iload 10), (180, .iload 8), (182, .if_icmp .eq 7), (185, .iconst 1), (186, .goto 4), (189, .iconst 0), (190, .iadd), (191, .istore 6), (193, .iload 10), (195, .istore 8), (197, .iinc 9 1), (200, .goto (-151)), (203, .iload_n 2), (204, .ifCond .ne 7), (207, .iload_n 3), (208, .goto 25), (211, .iload_n 2), (212, .iconst 1), (213, .if_icmp .ne 8), (216, .iload 5), (218, .goto 15), (221, .iload_n 2), (222, .iconst 2), (223, .if_icmp .ne 8), (226, .iload 6), (228, .goto 5), (231, .iload 7), (233, .ireturn)]
def fe_t112 : List (Nat × Instr) := [(0, .aload_n 0), (1, .iconst 0), (2, .putfield 62), (5, .iconst 0), (6, .istore_n 2), (7, .iload_n 1), (8, .tableswitch 148 0 4 #[36, 70, 104, 138, 143]), (44, .iconst 0), (45, .istore_n 3), (46, .iload_n 3), (47, .sipush 192), (50, .if_icmp .ge 26), (53, .iload_n 2), (54, .aload_n 0), (55, .getfield 9), (58, .iload_n 3), (59, .baload), (60, .ifCond .eq 7), (63, .iconst 1), (64, .goto 4), (67, .iconst 0), (68, .iadd), (69, .istore_n 2), (70, .iinc 3 1), (73, .goto (-27)), (76, .iload_n 2), (77, .ireturn), (78, .iconst 0), (79, .istore_n 3), (80, .iload_n 3), (81, .sipush 192), (84, .if_icmp .ge 26), (87, .iload_n 2), (88, .aload_n 0), (89, .getfield 13), (92, .iload_n 3), (93, .baload), (94, .ifCond .eq 7), (97, .iconst 1), (98, .goto 4), (101, .iconst 0), (102, .iadd), (103, .istore_n 2), (104, .iinc 3 1), (107, .goto (-27)), (110, .iload_n 2), (111, .ireturn), (112, .iconst 0), (113, .istore_n 3), (114, .iload_n 3), (115, .sipush 192), (118, .if_icmp .ge 26), (121, .iload_n 2), (122, .aload_n 0), (123, .getfield 16), (126, .iload_n 3), (127, .baload), (128, .ifCond .eq 7), (131, .iconst 1), (132, .goto 4), (135, .iconst 0), (136, .iadd), (137, .istore_n 2), (138, .iinc 3 1), (141, .goto (-27)), (144, .iload_n 2), (145, .ireturn), (146, .aload_n 0), (147, .getfield 70), (150, .ireturn), (151, .aload_n 0), (152, .getfield 176), (155, .ireturn), (156, .iconst (-1)), (157, .ireturn)]
def fe_t113 : List (Nat × Instr) := [(0, .iload_n 0), (1, .iconst (-1)), (2, .ixor), (3, .iload_n 0), (4, .iconst 1), (5, .isub), (6, .iand), (7, .istore_n 0), (8, .iload_n 0), (9, .ifCond .gt 8), (12, .iload_n 0), (13, .bipush 32), (15, .iand), (16, .ireturn), (17, .iconst 1), (18, .istore_n 1), (19, .iload_n 0), (20, .ldc_w 264), (23, .if_icmp .le 11), (26, .iinc 1 16), (29, .iload_n 0), (30, .bipush 16), (32, .iushr), (33, .istore_n 0), (34, .iload_n 0), (35, .sipush 256), (38, .if_icmp .le 11), (41, .iinc 1 8), (44, .iload_n 0), (45, .bipush 8), (47, .iushr), (48, .istore_n 0), (49, .iload_n 0), (50, .bipush 16), (52, .if_icmp .le 10), (55, .iinc 1 4), (58, .iload_n 0), (59, .iconst 4), (60, .iushr), (61, .istore_n 0), (62, .iload_n 0), (63, .iconst 4), (64, .if_icmp .le 10), (67, .iinc 1 2), (70, .iload_n 0), (71, .iconst 2), (72, .iushr), (73, .istore_n 0), (74, .iload_n 1), (75, .iload_n 0), (76, .iconst 1), (77, .iushr), (78, .iadd), (79, .ireturn)]
def fe_t114 : List (Nat × Instr) := [(0, .iload_n 0), (1, .iload_n 0), (2, .iconst 1), (3, .iushr), (4, .ldc_w 265), (7, .iand), (8, .isub), (9, .istore_n 0), (10, .iload_n 0), (11, .ldc_w 266), (14, .iand), (15, .iload_n 0), (16, .iconst 2), (17, .iushr), (18, .ldc_w 266), (21, .iand), (22, .iadd), (23, .istore_n 0), (24, .iload_n 0), (25, .iload_n 0), (26, .iconst 4), (27, .iushr), (28, .iadd), (29, .ldc_w 267), (32, .iand), (33, .istore_n 0), (34, .iload_n 0), (35, .iload_n 0), (36, .bipush 8), (38, .iushr), (39, .iadd), (40, .istore_n 0), (41, .iload_n 0), (42, .iload_n 0), (43, .bipush 16), (45, .iushr), (46, .iadd), (47, .istore_n 0), (48, .iload_n 0), (49, .bipush 63), (51, .iand), (52, .ireturn)]
def fe_t115 : List (Nat × Instr) := [(0, .iload_n 0), (1, .iload_n 1), (2, .if_icmp .lt 7), (5, .iload_n 0), (6, .goto 4), (9, .iload_n 1), (10, .ireturn)]
def fe_t116 : List (Nat × Instr) := [(0, .iload_n 0), (1, .iload_n 1), (2, .if_icmp .gt 7), (5, .iload_n 0), (6, .goto 4), (9, .iload_n 1), (10, .ireturn)]
def fe_t117 : List (Nat × Instr) := [(0, .iconst 0), (1, .istore_n 3), (2, .aload_n 0), (3, .arraylength), (4, .istore 4), (6, .iload_n 3), (7, .iload 4), (9, .if_icmp .ge 13), (12, .aload_n 0), (13, .iload_n 3), (14, .lload_n 1), (15, .lastore), (16, .iinc 3 1), (19, .goto (-13)), (22, .return_)]
def fe_t118 : List (Nat × Instr) := [(0, .iconst 0), (1, .istore_n 2), (2, .aload_n 0), (3, .arraylength), (4, .istore_n 3), (5, .iload_n 2), (6, .iload_n 3), (7, .if_icmp .ge 13), (10, .aload_n 0), (11, .iload_n 2), (12, .iload_n 1), (13, .iastore), (14, .iinc 2 1), (17, .goto (-12)), (20, .return_)]
def fe_t119 : List (Nat × Instr) := [(0, .aload 4), (2, .iconst 0), (3, .aload_n 0), (4, .iload_n 1), (5, .iload_n 2), (6, .iload_n 3), (7, .invokevirtual 7), (10, .i2l), (11, .lastore), (12, .goto 7), (15, .astore 5), (17, .iconst 1), (18, .ireturn), (19, .iconst 0), (20, .ireturn)]
def fe_t120 : List (Nat × Instr) := [(0, .aload_n 3), (1, .iconst 0), (2, .aload_n 0), (3, .iload_n 1), (4, .iload_n 2), (5, .invokevirtual 15), (8, .ifCond .eq 7), (11, .lconst 1), (12, .goto 4), (15, .lconst 0), (16, .lastore), (17, .goto 7), (20, .astore 4), (22, .iconst 1), (23, .ireturn), (24, .iconst 0), (25, .ireturn)]
def fe_t121 : List (Nat × Instr) := [(0, .aload_n 3), (1, .iconst 0), (2, .aload_n 0), (3, .iload_n 1), (4, .iload_n 2), (5, .invokevirtual 19), (8, .ifCond .eq 7), (11, .lconst 1), (12, .goto 4), (15, .lconst 0), (16, .lastore), (17, .goto 7), (20, .astore 4), (22, .iconst 1), (23, .ireturn), (24, .iconst 0), (25, .ireturn)]
def fe_t122 : List (Nat × Instr) := [(0, .aload 7), (2, .iconst 0), (3, .aload_n 0), (4, .iload_n 1), (5, .iload_n 2), (6, .iload_n 3), (7, .iload 4), (9, .iload 5), (11, .iload 6), (13, .invokevirtual 22), (16, .i2l), (17, .lastore), (18, .goto 11), (21, .astore 8), (23, .iconst 1), (24, .ireturn), (25, .astore 8), (27, .iconst 2), (28, .ireturn), (29, .iconst 0), (30, .ireturn)]
def fe_t123 : List (Nat × Instr) := [(0, .aload_n 3), (1, .iconst 0), (2, .aload_n 0), (3, .iload_n 1), (4, .iload_n 2), (5, .invokevirtual 30), (8, .i2l), (9, .lastore), (10, .goto 11), (13, .astore 4), (15, .iconst 1), (16, .ireturn), (17, .astore 4), (19, .iconst 2), (20, .ireturn), (21, .iconst 0), (22, .ireturn)]
def fe_t124 : List (Nat × Instr) := [(0, .aload 4), (2, .iconst 0), (3, .aload_n 0), (4, .iload_n 1), (5, .iload_n 2), (6, .iload_n 3), (7, .invokevirtual 34), (10, .ifCond .eq 7), (13, .lconst 1), (14, .goto 4), (17, .lconst 0), (18, .lastore), (19, .goto 7), (22, .astore 5), (24, .iconst 1), (25, .ireturn), (26, .iconst 0), (27, .ireturn)]
def fe_t125 : List (Nat × Instr) := [(0, .aload 4), (2, .iconst 0), (3, .aload_n 0), (4, .iload_n 1), (5, .iload_n 2), (6, .iload_n 3), (7, .invokevirtual 38), (10, .ifCond .eq 7), (13, .lconst 1), (14, .goto 4), (17, .lconst 0), (18, .lastore), (19, .goto 7), (22, .astore 5), (24, .iconst 1), (25, .ireturn), (26, .iconst 0), (27, .ireturn)]
def fe_t126 : List (Nat × Instr) := [(0, .aload 4), (2, .iconst 0), (3, .aload_n 0), (4, .iload_n 1), (5, .iload_n 2), (6, .iload_n 3), (7, .invokevirtual 42), (10, .ifCond .eq 7), (13, .lconst 1), (14, .goto 4), (17, .lconst 0), (18, .lastore), (19, .goto 7), (22, .astore 5), (24, .iconst 1), (25, .ireturn), (26, .iconst 0), (27, .ireturn)]
def fe_t127 : List (Nat × Instr) := [(0, .aload_n 3), (1, .iconst 0), (2, .aload_n 0), (3, .iload_n 1), (4, .iload_n 2), (5, .invokevirtual 45), (8, .i2l), (9, .lastore), (10, .goto 7), (13, .astore 4), (15, .iconst 1), (16, .ireturn), (17, .iconst 0), (18, .ireturn)]
def fe_t128 : List (Nat × Instr) := [(0, .aload_n 2), (1, .iconst 0), (2, .aload_n 0), (3, .iload_n 1), (4, .invokevirtual 48), (7, .i2l), (8, .lastore), (9, .goto 6), (12, .astore_n 3), (13, .iconst 1), (14, .ireturn), (15, .iconst 0), (16, .ireturn)]
def fe_t129 : List (Nat × Instr) := [(0, .aload_n 3), (1, .iconst 0), (2, .aload_n 0), (3, .iload_n 1), (4, .iload_n 2), (5, .invokevirtual 52), (8, .i2l), (9, .lastore), (10, .goto 7), (13, .astore 4), (15, .iconst 1), (16, .ireturn), (17, .iconst 0), (18, .ireturn)]
def fe_t130 : List (Nat × Instr) := [(0, .new 8), (3, .dup), (4, .invokespecial 57), (7, .astore_n 1), (8, .new 58), (11, .dup), (12, .invokespecial 60), (15, .astore_n 2), (16, .iconst 1), (17, .newarray .long), (19, .astore_n 3), (20, .iconst 0), (21, .istore 4), (23, .iload 4), (25, .aload_n 0), (26, .arraylength), (27, .bipush 7), (29, .isub), (30, .if_icmp .gt 1231), (33, .aload_n 0), (34, .iload 4), (36, .iaload), (37, .bipush 31), (39, .iand), (40, .tableswitch 1215 0 16 #[84, 180, 271, 362, 496, 564, 667, 754, 841, 894, 935, 960, 1028, 1053, 1109, 1122, 1190]), (124, .aload_n 1), (125, .aload_n 0), (126, .iload 4), (128, .iconst 1), (129, .iadd), (130, .iaload), (131, .aload_n 0), (132, .iload 4), (134, .iconst 2), (135, .iadd), (136, .iaload), (137, .aload_n 0), (138, .iload 4), (140, .iconst 3), (141, .iadd), (142, .iaload), (143, .ifCond .eq 7), (146, .iconst 1), (147, .goto 4), (150, .iconst 0), (151, .aload_n 3), (152, .invokestatic 61), (155, .istore 5), (157, .aload_n 2), (158, .aload_n 0), (159, .iload 4), (161, .iconst 1), (162, .iadd), (163, .iaload), (164, .aload_n 0), (165, .iload 4), (167, .iconst 2), (168, .iadd), (169, .iaload), (170, .aload_n 0), (171, .iload 4), (173, .iconst 3), (174, .iadd), (175, .iaload), (176, .ifCond .eq 7), (179, .iconst 1), (180, .goto 4), (183, .iconst 0), (184, .invokevirtual 66), (187, .istore 6), (189, .aload_n 2), (190, .invokevirtual 67), (193, .iload 5), (195, .if_icmp .eq 5), (198, .iconst 0), (199, .ireturn), (200, .iload 5), (202, .ifCond .ne 15), (205, .aload_n 3), (206, .iconst 0), (207, .laload), (208, .iload 6), (210, .i2l), (211, .lcmp), (212, .ifCond .eq 5), (215, .iconst 0), (216, .ireturn), (217, .goto 1038), (220, .aload_n 1), (221, .aload_n 0), (222, .iload 4), (224, .iconst 1), (225, .iadd), (226, .iaload), (227, .aload_n 0), (228, .iload 4), (230, .iconst 2), (231, .iadd), (232, .iaload), (233, .ifCond .eq 7), (236, .iconst 1), (237, .goto 4), (240, .iconst 0), (241, .aload_n 3), (242, .invokestatic 71), (245, .istore 5), (247, .aload_n 2), (248, .aload_n 0), (249, .iload 4), (251, .iconst 1), (252, .iadd), (253, .iaload), (254, .aload_n 0), (255, .iload 4), (257, .iconst 2), (258, .iadd), (259, .iaload), (260, .ifCond .eq 7), (263, .iconst 1), (264, .goto 4), (267, .iconst 0), (268, .invokevirtual 74), (271, .istore 6), (273, .aload_n 2), (274, .invokevirtual 67), (277, .iload 5), (279, .if_icmp .eq 5), (282, .iconst 0), (283, .ireturn), (284, .iload 5), (286, .ifCond .ne 22), (289, .aload_n 3), (290, .iconst 0), (291, .laload), (292, .iload 6), (294, .ifCond .eq 7), (297, .lconst 1), (298, .goto 4), (301, .lconst 0), (302, .lcmp), (303, .ifCond .eq 5), (306, .iconst 0), (307, .ireturn), (308, .goto 947), (311, .aload_n 1), (312, .aload_n 0), (313, .iload 4), (315, .iconst 1), (316, .iadd), (317, .iaload), (318, .aload_n 0), (319, .iload 4), (321, .iconst 2), (322, .iadd), (323, .iaload), (324, .ifCond .eq 7), (327, .iconst 1), (328, .goto 4), (331, .iconst 0), (332, .aload_n 3), (333, .invokestatic 75), (336, .istore 5), (338, .aload_n 2), (339, .aload_n 0), (340, .iload 4), (342, .iconst 1), (343, .iadd), (344, .iaload), (345, .aload_n 0), (346, .iload 4), (348, .iconst 2), (349, .iadd), (350, .iaload), (351, .ifCond .eq 7), (354, .iconst 1), (355, .goto 4), (358, .iconst 0), (359, .invokevirtual 77), (362, .istore 6), (364, .aload_n 2), (365, .invokevirtual 67), (368, .iload 5), (370, .if_icmp .eq 5), (373, .iconst 0), (374, .ireturn), (375, .iload 5), (377, .ifCond .ne 22), (380, .aload_n 3), (381, .iconst 0), (382, .laload), (383, .iload 6), (385, .ifCond .eq 7), (388, .lconst 1), (389, .goto 4), (392, .lconst 0), (393, .lcmp), (394, .ifCond .eq 5), (397, .iconst 0), (398, .ireturn), (399, .goto 856), (402, .aload_n 1), (403, .aload_n 0), (404, .iload 4), (406, .iconst 1), (407, .iadd), (408, .iaload), (409, .aload_n 0), (410, .iload 4), (412, .iconst 2), (413, .iadd), (414, .iaload), (415, .aload_n 0), (416, .iload 4), (418, .iconst 3), (419, .iadd), (420, .iaload), (421, .aload_n 0), (422, .iload 4), (424, .iconst 4), (425, .iadd), (426, .iaload), (427, .aload_n 0), (428, .iload 4), (430, .iconst 5), (431, .iadd), (432, .iaload), (433, .ifCond .eq 7), (436, .iconst 1), (437, .goto 4), (440, .iconst 0), (441, .aload_n 0), (442, .iload 4), (444, .bipush 6), (446, .iadd), (447, .iaload), (448, .aload_n 3), (449, .invokestatic 78), (452, .istore 5), (454, .aload_n 2), (455, .aload_n 0), (456, .iload 4), (458, .iconst 1), (459, .iadd), (460, .iaload), (461, .aload_n 0), (462, .iload 4), (464, .iconst 2), (465, .iadd), (466, .iaload), (467, .aload_n 0), (468, .iload 4), (470, .iconst 3), (471, .iadd), (472, .iaload), (473, .aload_n 0), (474, .iload 4), (476, .iconst 4), (477, .iadd), (478, .iaload), (479, .aload_n 0), (480, .iload 4), (482, .iconst 5), (483, .iadd), (484, .iaload), (485, .ifCond .eq 7), (488, .iconst 1), (489, .goto 4), (492, .iconst 0), (493, .aload_n 0), (494, .iload 4), (496, .bipush 6), (498, .iadd), (499, .iaload), (500, .invokevirtual 81), (503, .istore 6), (505, .aload_n 2), (506, .invokevirtual 67), (509, .iload 5), (511, .if_icmp .eq 5), (514, .iconst 0), (515, .ireturn), (516, .iload 5), (518, .ifCond .ne 15), (521, .aload_n 3), (522, .iconst 0), (523, .laload), (524, .iload 6), (526, .i2l), (527, .lcmp), (528, .ifCond .eq 5), (531, .iconst 0), (532, .ireturn), (533, .goto 722), (536, .aload_n 1), (537, .aload_n 0), (538, .iload 4), (540, .iconst 1), (541, .iadd), (542, .iaload), (543, .aload_n 0), (544, .iload 4), (546, .iconst 2), (547, .iadd), (548, .iaload), (549, .aload_n 3), (550, .invokestatic 82), (553, .istore 5), (555, .aload_n 2), (556, .aload_n 0), (557, .iload 4), (559, .iconst 1), (560, .iadd), (561, .iaload), (562, .aload_n 0), (563, .iload 4), (565, .iconst 2), (566, .iadd), (567, .iaload), (568, .invokevirtual 85), (571, .istore 6), (573, .aload_n 2), (574, .invokevirtual 67), (577, .iload 5), (579, .if_icmp .eq 5), (582, .iconst 0), (583, .ireturn), (584, .iload 5), (586, .ifCond .ne 15), (589, .aload_n 3), (590, .iconst 0), (591, .laload), (592, .iload 6), (594, .i2l), (595, .lcmp), (596, .ifCond .eq 5), (599, .iconst 0), (600, .ireturn), (601, .goto 654), (604, .aload_n 1), (605, .aload_n 0), (606, .iload 4), (608, .iconst 1), (609, .iadd), (610, .iaload), (611, .aload_n 0), (612, .iload 4), (614, .iconst 2), (615, .iadd), (616, .iaload), (617, .aload_n 0), (618, .iload 4), (620, .iconst 3), (621, .iadd), (622, .iaload), (623, .ifCond .eq 7), (626, .iconst 1), (627, .goto 4), (630, .iconst 0), (631, .aload_n 3), (632, .invokestatic 86), (635, .istore 5), (637, .aload_n 2), (638, .aload_n 0), (639, .iload 4), (641, .iconst 1), (642, .iadd), (643, .iaload), (644, .aload_n 0), (645, .iload 4), (647, .iconst 2), (648, .iadd), (649, .iaload), (650, .aload_n 0), (651, .iload 4), (653, .iconst 3), (654, .iadd), (655, .iaload), (656, .ifCond .eq 7), (659, .iconst 1), (660, .goto 4), (663, .iconst 0), (664, .invokevirtual 88), (667, .istore 6), (669, .aload_n 2), (670, .invokevirtual 67), (673, .iload 5), (675, .if_icmp .eq 5), (678, .iconst 0), (679, .ireturn), (680, .iload 5), (682, .ifCond .ne 22), (685, .aload_n 3), (686, .iconst 0), (687, .laload), (688, .iload 6), (690, .ifCond .eq 7), (693, .lconst 1), (694, .goto 4), (697, .lconst 0), (698, .lcmp), (699, .ifCond .eq 5), (702, .iconst 0), (703, .ireturn), (704, .goto 551), (707, .aload_n 1), (708, .aload_n 0), (709, .iload 4), (711, .iconst 1), (712, .iadd), (713, .iaload), (714, .aload_n 0), (715, .iload 4), (717, .iconst 2), (718, .iadd), (719, .iaload), (720, .aload_n 0), (721, .iload 4), (723, .iconst 3), (724, .iadd), (725, .iaload), (726, .aload_n 3), (727, .invokestatic 89), (730, .istore 5), (732, .aload_n 2), (733, .aload_n 0), (734, .iload 4), (736, .iconst 1), (737, .iadd), (738, .iaload), (739, .aload_n 0), (740, .iload 4), (742, .iconst 2), (743, .iadd), (744, .iaload), (745, .aload_n 0), (746, .iload 4), (748, .iconst 3), (749, .iadd), (750, .iaload), (751, .invokevirtual 92), (754, .istore 6), (756, .aload_n 2), (757, .invokevirtual 67), (760, .iload 5), (762, .if_icmp .eq 5), (765, .iconst 0), (766, .ireturn), (767, .iload 5), (769, .ifCond .ne 22), (772, .aload_n 3), (773, .iconst 0), (774, .laload), (775, .iload 6), (777, .ifCond .eq 7), (780, .lconst 1), (781, .goto 4), (784, .lconst 0), (785, .lcmp), (786, .ifCond .eq 5), (789, .iconst 0), (790, .ireturn), (791, .goto 464), (794, .aload_n 1), (795, .aload_n 0), (796, .iload 4), (798, .iconst 1), (799, .iadd), (800, .iaload), (801, .aload_n 0), (802, .iload 4), (804, .iconst 2), (805, .iadd), (806, .iaload), (807, .aload_n 0), (808, .iload 4), (810, .iconst 3), (811, .iadd), (812, .iaload), (813, .aload_n 3), (814, .invokestatic 93), (817, .istore 5), (819, .aload_n 2), (820, .aload_n 0), (821, .iload 4), (823, .iconst 1), (824, .iadd), (825, .iaload), (826, .aload_n 0), (827, .iload 4), (829, .iconst 2), (830, .iadd), (831, .iaload), (832, .aload_n 0), (833, .iload 4), (835, .iconst 3), (836, .iadd), (837, .iaload), (838, .invokevirtual 95), (841, .istore 6), (843, .aload_n 2), (844, .invokevirtual 67), (847, .iload 5), (849, .if_icmp .eq 5), (852, .iconst 0), (853, .ireturn), (854, .iload 5), (856, .ifCond .ne 22), (859, .aload_n 3), (860, .iconst 0), (861, .laload), (862, .iload 6), (864, .ifCond .eq 7), (867, .lconst 1), (868, .goto 4), (871, .lconst 0), (872, .lcmp), (873, .ifCond .eq 5), (876, .iconst 0), (877, .ireturn), (878, .goto 377), (881, .aload_n 1), (882, .aload_n 0), (883, .iload 4), (885, .iconst 1), (886, .iadd), (887, .iaload), (888, .aload_n 0), (889, .iload 4), (891, .iconst 2), (892, .iadd), (893, .iaload), (894, .ifCond .eq 7), (897, .iconst 1), (898, .goto 4), (901, .iconst 0), (902, .invokevirtual 96), (905, .aload_n 2), (906, .aload_n 0), (907, .iload 4), (909, .iconst 1), (910, .iadd), (911, .iaload), (912, .aload_n 0), (913, .iload 4), (915, .iconst 2), (916, .iadd), (917, .iaload), (918, .ifCond .eq 7), (921, .iconst 1), (922, .goto 4), (925, .iconst 0), (926, .invokevirtual 99), (929, .if_icmp .eq 326), (932, .iconst 0), (933, .ireturn), (934, .aload_n 1), (935, .aload_n 0), (936, .iload 4), (938, .iconst 1), (939, .iadd), (940, .iaload), (941, .ifCond .eq 7), (944, .iconst 1), (945, .goto 4), (948, .iconst 0), (949, .invokevirtual 100), (952, .aload_n 2), (953, .aload_n 0), (954, .iload 4), (956, .iconst 1), (957, .iadd), (958, .iaload), (959, .ifCond .eq 7), (962, .iconst 1), (963, .goto 4), (966, .iconst 0), (967, .invokevirtual 104), (970, .if_icmp .eq 285), (973, .iconst 0), (974, .ireturn), (975, .aload_n 1), (976, .aload_n 0), (977, .iload 4), (979, .iconst 1), (980, .iadd), (981, .iaload), (982, .invokevirtual 105), (985, .aload_n 2), (986, .aload_n 0), (987, .iload 4), (989, .iconst 1), (990, .iadd), (991, .iaload), (992, .invokevirtual 108), (995, .if_icmp .eq 260), (998, .iconst 0), (999, .ireturn), (1000, .aload_n 1), (1001, .aload_n 0), (1002, .iload 4), (1004, .iconst 1), (1005, .iadd), (1006, .iaload), (1007, .aload_n 0), (1008, .iload 4), (1010, .iconst 2), (1011, .iadd), (1012, .iaload), (1013, .aload_n 3), (1014, .invokestatic 109), (1017, .istore 5), (1019, .aload_n 2), (1020, .aload_n 0), (1021, .iload 4), (1023, .iconst 1), (1024, .iadd), (1025, .iaload), (1026, .aload_n 0), (1027, .iload 4), (1029, .iconst 2), (1030, .iadd), (1031, .iaload), (1032, .invokevirtual 111), (1035, .istore 6), (1037, .aload_n 2), (1038, .invokevirtual 67), (1041, .iload 5), (1043, .if_icmp .eq 5), (1046, .iconst 0), (1047, .ireturn), (1048, .iload 5), (1050, .ifCond .ne 15), (1053, .aload_n 3), (1054, .iconst 0), (1055, .laload), (1056, .iload 6), (1058, .i2l), (1059, .lcmp), (1060, .ifCond .eq 5), (1063, .iconst 0), (1064, .ireturn), (1065, .goto 190), (1068, .aload_n 1), (1069, .aload_n 0), (1070, .iload 4), (1072, .iconst 1), (1073, .iadd), (1074, .iaload), (1075, .invokevirtual 112), (1078, .aload_n 2), (1079, .aload_n 0), (1080, .iload 4), (1082, .iconst 1), (1083, .iadd), (1084, .iaload), (1085, .invokevirtual 115), (1088, .if_icmp .eq 167), (1091, .iconst 0), (1092, .ireturn), (1093, .aload_n 1), (1094, .aload_n 0), (1095, .iload 4), (1097, .iconst 1), (1098, .iadd), (1099, .iaload), (1100, .aload_n 3), (1101, .invokestatic 116), (1104, .istore 5), (1106, .aload_n 2), (1107, .aload_n 0), (1108, .iload 4), (1110, .iconst 1), (1111, .iadd), (1112, .iaload), (1113, .invokevirtual 119), (1116, .istore 6), (1118, .aload_n 2), (1119, .invokevirtual 67), (1122, .iload 5), (1124, .if_icmp .eq 5), (1127, .iconst 0), (1128, .ireturn), (1129, .iload 5), (1131, .ifCond .ne 15), (1134, .aload_n 3), (1135, .iconst 0), (1136, .laload), (1137, .iload 6), (1139, .i2l), (1140, .lcmp), (1141, .ifCond .eq 5), (1144, .iconst 0), (1145, .ireturn), (1146, .goto 109), (1149, .aload_n 1), (1150, .invokevirtual 120), (1153, .aload_n 2), (1154, .invokevirtual 123), (1157, .if_icmp .eq 98), (1160, .iconst 0), (1161, .ireturn), (1162, .aload_n 1), (1163, .aload_n 0), (1164, .iload 4), (1166, .iconst 1), (1167, .iadd), (1168, .iaload), (1169, .aload_n 0), (1170, .iload 4), (1172, .iconst 2), (1173, .iadd), (1174, .iaload), (1175, .aload_n 3), (1176, .invokestatic 124), (1179, .istore 5), (1181, .aload_n 2), (1182, .aload_n 0), (1183, .iload 4), (1185, .iconst 1), (1186, .iadd), (1187, .iaload), (1188, .aload_n 0), (1189, .iload 4), (1191, .iconst 2), (1192, .iadd), (1193, .iaload), (1194, .invokevirtual 126), (1197, .istore 6), (1199, .aload_n 2), (1200, .invokevirtual 67), (1203, .iload 5), (1205, .if_icmp .eq 5), (1208, .iconst 0), (1209, .ireturn), (1210, .iload 5), (1212, .ifCond .ne 15), (1215, .aload_n 3), (1216, .iconst 0), (1217, .laload), (1218, .iload 6), (1220, .i2l), (1221, .lcmp), (1222, .ifCond .eq 5), (1225, .iconst 0), (1226, .ireturn), (1227, .goto 28), (1230, .aload_n 1), (1231, .aload_n 0), (1232, .iload 4), (1234, .iconst 1), (1235, .iadd), (1236, .iaload), (1237, .invokevirtual 127), (1240, .aload_n 2), (1241, .aload_n 0), (1242, .iload 4), (1244, .iconst 1), (1245, .iadd), (1246, .iaload), (1247, .invokevirtual 130), (1250, .if_icmp .eq 5), (1253, .iconst 0), (1254, .ireturn), (1255, .iinc 4 7), (1258, .goto (-1235)), (1261, .iconst 1), (1262, .ireturn)]
def fe_T : List (List (Nat × Instr)) := [fe_t0, fe_t1, fe_t2, fe_t3, fe_t4, fe_t5, fe_t6, fe_t7, fe_t8, fe_t9, fe_t10, fe_t11, fe_t12, fe_t13, fe_t14, fe_t15, fe_t16, fe_t17, fe_t18, fe_t19, fe_t20, fe_t21, fe_t22, fe_t23, fe_t24, fe_t25, fe_t26, fe_t27, fe_t28, fe_t29, fe_t30, fe_t31, fe_t32, fe_t33, fe_t34, fe_t35, fe_t36, fe_t37, fe_t38, fe_t39, fe_t40, fe_t41, fe_t42, fe_t43, fe_t44, fe_t45, fe_t46, fe_t47, fe_t48, fe_t49, fe_t50, fe_t51, fe_t52, fe_t53, fe_t54, fe_t55, fe_t56, fe_t57, fe_t58, fe_t59, fe_t60, fe_t61, fe_t62, fe_t63, fe_t64, fe_t65, fe_t66, fe_t67, fe_t68, fe_t69, fe_t70, fe_t71, fe_t72, fe_t73, fe_t74, fe_t75, fe_t76, fe_t77, fe_t78, fe_t79, fe_t80, fe_t81, fe_t82, fe_t83, fe_t84, fe_t85, fe_t86, fe_t87, fe_t88, fe_t89, fe_t90, fe_t91, fe_t92, fe_t93, fe_t94, fe_t95, fe_t96, fe_t97, fe_t98, fe_t99, fe_t100, fe_t101, fe_t102, fe_t103, fe_t104, fe_t105, fe_t106, fe_t107, fe_t108, fe_t109, fe_t110, fe_t111, fe_t112, fe_t113, fe_t114, fe_t115, fe_t116, fe_t117, fe_t118, fe_t119, fe_t120, fe_t121, fe_t122, fe_t123, fe_t124, fe_t125, fe_t126, fe_t127, fe_t128, fe_t129, fe_t130]
def fe_fetch (y pc : Nat) : Option Instr := (fe_T.getD y []).lookup pc
abbrev fe_MT : Type := Nat × MethodName × ByteArray × Nat × Option FieldType × List (Nat × Nat × Nat × Nat) × Nat × Nat × Bool × Nat × Bool
def fe_M0 : List fe_MT := [(0, yX0_init, cX0_init, 1, none, [], 1, 12, false, 1, true),
  (0, yX0_start, cX0_start, 3, none, [], 0, 0, false, 3, false),
  (0, yX0_take, cX0_take, 6, none, [], 1, 15, false, 3, false),
  (0, yX0_isFreeOf, cX0_isFreeOf, 8, (some .boolean), [], 1, 15, false, 2, false),
  (1, yX1_init, cX1_init, 7, none, [], 1, 15, false, 7, true),
  (1, yX1_addWay, cX1_addWay, 2, (some .int), [], 0, 0, false, 2, false),
  (1, yX1_forgetSights, cX1_forgetSights, 1, none, [], 1, 15, false, 1, false),
  (1, yX1_seesAt, cX1_seesAt, 3, (some .boolean), [], 4, 65, false, 3, false),
  (1, yX1_everSees, cX1_everSees, 2, (some .boolean), [], 4, 65, false, 2, false),
  (1, yX1_showsAt, cX1_showsAt, 3, (some .boolean), [], 4, 68, false, 3, false),
  (1, yX1_everShows, cX1_everShows, 2, (some .boolean), [], 4, 68, false, 2, false),
  (1, yX1_wayBitAt, cX1_wayBitAt, 2, (some .int), [], 0, 0, false, 2, false),
  (1, yX1_waysThatSee, cX1_waysThatSee, 4, (some .int), [], 3, 50, false, 2, false),
  (1, yX1_waysThatShow, cX1_waysThatShow, 7, (some .int), [], 3, 50, false, 2, false),
  (1, yX1_waysTo, cX1_waysTo, 6, (some .int), [], 1, 14, false, 3, false),
  (1, yX1_eighthsOf, cX1_eighthsOf, 3, (some .int), [], 0, 0, true, 2, false),
  (2, yX2_init, cX2_init, 1, none, [], 2, 28, false, 1, true),
  (2, yX2_shutRectangle, cX2_shutRectangle, 11, (some .int), [], 1, 15, false, 4, false),
  (2, yX2_isWalledIn, cX2_isWalledIn, 7, (some .boolean), [], 1, 13, false, 3, false),
  (2, yX2_isFigureFree, cX2_isFigureFree, 5, (some .boolean), [], 2, 34, false, 4, false)]
def fe_M1 : List fe_MT := [(2, yX2_isLineFree, cX2_isLineFree, 5, (some .boolean), [], 2, 34, false, 5, false),
  (2, yX2_cornerX, cX2_cornerX, 2, (some .int), [], 0, 0, true, 2, false),
  (2, yX2_cornerY, cX2_cornerY, 2, (some .int), [], 0, 0, true, 2, false),
  (3, yX3_init, cX3_init, 1, none, [], 1, 12, false, 1, true),
  (3, yX3_begin, cX3_begin, 1, none, [], 1, 16, false, 1, false),
  (3, yX3_addShowers, cX3_addShowers, 2, none, [], 0, 0, false, 2, false),
  (3, yX3_addNeeds, cX3_addNeeds, 5, none, [], 1, 14, false, 2, false),
  (3, yX3_addNeed, cX3_addNeed, 3, none, [], 0, 0, false, 2, false),
  (3, yX3_finish, cX3_finish, 3, none, [], 0, 0, false, 1, false),
  (3, yX3_holds, cX3_holds, 4, (some .boolean), [], 1, 14, false, 3, false),
  (3, yX3_misses, cX3_misses, 3, (some .boolean), [], 0, 0, false, 2, false),
  (4, yX4_init, cX4_init, 1, none, [], 1, 12, false, 1, true),
  (4, yX4_addCell, cX4_addCell, 2, (some .int), [], 0, 0, false, 2, false),
  (4, yX4_clear, cX4_clear, 2, (some .int), [], 0, 0, false, 1, false),
  (4, yX4_pursue, cX4_pursue, 8, none, [], 6, 97, false, 3, false),
  (4, yX4_seersOf, cX4_seersOf, 7, (some .int), [], 5, 79, false, 4, false),
  (5, yX5_init, cX5_init, 1, none, [], 1, 12, false, 1, true),
  (5, yX5_look, cX5_look, 6, none, [], 4, 71, false, 4, false),
  (5, yX5_note, cX5_note, 6, none, [], 1, 15, false, 4, false),
  (5, yX5_longestGap, cX5_longestGap, 5, (some .int), [], 1, 13, false, 1, false)]
def fe_M2 : List fe_MT := [(6, yX6_init, cX6_init, 1, none, [], 3, 44, false, 1, true),
  (6, yX6_shut, cX6_shut, 6, (some .int), [], 7, 94, false, 4, false),
  (6, yX6_tell, cX6_tell, 3, (some .boolean), [], 7, 94, false, 3, false),
  (6, yX6_hide, cX6_hide, 3, (some .boolean), [], 7, 94, false, 3, false),
  (6, yX6_camera, cX6_camera, 8, (some .int), [], 7, 96, false, 7, false),
  (6, yX6_turn, cX6_turn, 3, (some .int), [], 7, 96, false, 3, false),
  (6, yX6_mask, cX6_mask, 4, (some .boolean), [], 7, 95, false, 4, false),
  (6, yX6_sees, cX6_sees, 4, (some .boolean), [], 7, 95, false, 4, false),
  (6, yX6_shows, cX6_shows, 4, (some .boolean), [], 7, 95, false, 4, false),
  (6, yX6_serves, cX6_serves, 3, (some .boolean), [], 7, 112, false, 3, false),
  (6, yX6_cheapest, cX6_cheapest, 8, (some .int), [], 7, 112, false, 2, false),
  (6, yX6_cost, cX6_cost, 2, (some .int), [], 1, 15, false, 2, false),
  (6, yX6_unseen, cX6_unseen, 3, (some .int), [], 7, 94, false, 3, false),
  (6, yX6_blind, cX6_blind, 5, (some .int), [], 6, 93, false, 2, false),
  (6, yX6_step, cX6_step, 2, (some .int), [], 7, 94, false, 2, false),
  (6, yX6_stand, cX6_stand, 1, (some .int), [], 1, 13, false, 1, false),
  (6, yX6_follow, cX6_follow, 3, (some .int), [], 7, 116, false, 3, false),
  (6, yX6_count, cX6_count, 2, (some .int), [], 1, 14, false, 2, false),
  (6, yX6_needCell, cX6_needCell, 1, none, [], 6, 82, true, 1, false),
  (6, yX6_needEye, cX6_needEye, 2, none, [], 6, 82, false, 2, false)]
def fe_M3 : List fe_MT := [(6, yX6_needWithin, cX6_needWithin, 3, none, [], 6, 82, true, 3, false),
  (6, yX6_put, cX6_put, 4, (some .boolean), [], 0, 0, true, 3, false),
  (6, yX6_howMany, cX6_howMany, 3, (some .int), [], 0, 0, true, 1, false),
  (6, yX6_onlyThere, cX6_onlyThere, 2, (some .int), [], 0, 0, false, 2, false),
  (6, yX6_priceOf, cX6_priceOf, 4, (some .int), [], 0, 0, false, 2, false),
  (6, yX6_everSeen, cX6_everSeen, 4, (some .boolean), [], 5, 78, false, 3, false),
  (6, yX6_makePlanStand, cX6_makePlanStand, 3, none, [], 6, 98, false, 1, false),
  (6, yX6_showersOf, cX6_showersOf, 4, (some .int), [], 5, 81, false, 2, false),
  (7, yX7_init, cX7_init, 1, none, [], 1, 12, false, 1, true),
  (7, yX7_thrown, cX7_thrown, 1, (some .int), [], 0, 0, false, 1, false),
  (7, yX7_throwsIf, cX7_throwsIf, 3, (some .boolean), [], 0, 0, false, 3, false),
  (7, yX7_in, cX7_in, 3, (some .boolean), [], 0, 0, true, 3, false),
  (7, yX7_noCell, cX7_noCell, 1, (some .boolean), [], 1, 14, true, 1, false),
  (7, yX7_noCamera, cX7_noCamera, 2, (some .boolean), [], 1, 14, false, 2, false),
  (7, yX7_shut, cX7_shut, 7, (some .int), [], 2, 31, false, 4, false),
  (7, yX7_isBetween, cX7_isBetween, 3, (some .boolean), [], 1, 17, true, 3, false),
  (7, yX7_tell, cX7_tell, 4, (some .boolean), [], 2, 28, false, 3, false),
  (7, yX7_hide, cX7_hide, 4, (some .boolean), [], 2, 28, false, 3, false),
  (7, yX7_camera, cX7_camera, 7, (some .int), [], 1, 16, false, 7, false),
  (7, yX7_turn, cX7_turn, 3, (some .int), [], 2, 29, false, 3, false)]
def fe_M4 : List fe_MT := [(7, yX7_mask, cX7_mask, 5, (some .boolean), [], 2, 29, false, 4, false),
  (7, yX7_alongX, cX7_alongX, 2, (some .int), [], 0, 0, true, 1, false),
  (7, yX7_alongY, cX7_alongY, 1, (some .int), [], 1, 13, true, 1, false),
  (7, yX7_holds, cX7_holds, 9, (some .boolean), [], 2, 27, false, 5, false),
  (7, yX7_isBlocked, cX7_isBlocked, 6, (some .boolean), [], 0, 0, false, 2, false),
  (7, yX7_figure, cX7_figure, 4, none, [], 0, 0, false, 3, false),
  (7, yX7_parts, cX7_parts, 12, (some .boolean), [], 1, 13, false, 6, false),
  (7, yX7_isParted, cX7_isParted, 7, (some .boolean), [], 2, 36, false, 2, false),
  (7, yX7_isClear, cX7_isClear, 4, (some .boolean), [], 3, 54, false, 3, false),
  (7, yX7_holdsAll, cX7_holdsAll, 6, (some .boolean), [], 3, 47, false, 4, false),
  (7, yX7_seesIn, cX7_seesIn, 4, (some .boolean), [], 4, 69, false, 4, false),
  (7, yX7_isLine, cX7_isLine, 5, (some .boolean), [], 2, 36, false, 4, false),
  (7, yX7_showsIn, cX7_showsIn, 7, (some .boolean), [], 3, 52, false, 4, false),
  (7, yX7_wayAt, cX7_wayAt, 3, (some .int), [], 0, 0, false, 3, false),
  (7, yX7_sees, cX7_sees, 4, (some .boolean), [], 5, 84, false, 4, false),
  (7, yX7_shows, cX7_shows, 4, (some .boolean), [], 4, 70, false, 4, false),
  (7, yX7_looks, cX7_looks, 6, none, [], 5, 88, false, 2, false),
  (7, yX7_whoSees, cX7_whoSees, 4, (some .int), [], 0, 0, false, 2, false),
  (7, yX7_asks, cX7_asks, 4, none, [], 6, 105, false, 1, false),
  (7, yX7_servesAsAsked, cX7_servesAsAsked, 3, (some .boolean), [], 0, 0, false, 2, false)]
def fe_M5 : List fe_MT := [(7, yX7_isGood, cX7_isGood, 4, (some .boolean), [], 1, 14, false, 3, false),
  (7, yX7_those, cX7_those, 2, (some .int), [], 0, 0, false, 2, false),
  (7, yX7_serves, cX7_serves, 3, (some .boolean), [], 7, 120, false, 3, false),
  (7, yX7_costOf, cX7_costOf, 4, (some .int), [], 0, 0, false, 2, false),
  (7, yX7_cheapest, cX7_cheapest, 5, (some .int), [], 7, 120, false, 2, false),
  (7, yX7_cost, cX7_cost, 2, (some .int), [], 1, 15, false, 2, false),
  (7, yX7_unseen, cX7_unseen, 8, (some .int), [], 6, 105, false, 3, false),
  (7, yX7_blind, cX7_blind, 7, (some .int), [], 5, 84, false, 2, false),
  (7, yX7_step, cX7_step, 2, (some .int), [], 2, 28, false, 2, false),
  (7, yX7_stand, cX7_stand, 2, (some .int), [], 0, 0, false, 1, false),
  (7, yX7_follows, cX7_follows, 4, (some .boolean), [], 5, 84, false, 4, false),
  (7, yX7_follow, cX7_follow, 12, (some .int), [], 6, 99, false, 3, false),
  (7, yX7_count, cX7_count, 4, (some .int), [], 0, 0, false, 2, false),
  (9, yJ6_numberOfTrailingZeros_0f7a4, cJ6_numberOfTrailingZeros_0f7a4, 2, (some .int), [], 0, 0, true, 1, false),
  (9, yJ6_bitCount_0f7a4, cJ6_bitCount_0f7a4, 1, (some .int), [], 0, 0, true, 1, false),
  (11, yJ9_max_7cf53, cJ9_max_7cf53, 2, (some .int), [], 0, 0, true, 2, false),
  (11, yJ9_min_7cf53, cJ9_min_7cf53, 2, (some .int), [], 0, 0, true, 2, false),
  (10, yJ7_fill_d0a16, cJ7_fill_d0a16, 5, none, [], 0, 0, true, 2, false),
  (10, yJ7_fill_53178, cJ7_fill_53178, 4, none, [], 0, 0, true, 2, false),
  (8, yL_shut, cL_shut, 6, (some .int), [(0, 12, 15, 13)], 8, 115, true, 5, false)]
def fe_M6 : List fe_MT := [(8, yL_tell, cL_tell, 5, (some .int), [(0, 17, 20, 13)], 8, 112, true, 4, false),
  (8, yL_hide, cL_hide, 5, (some .int), [(0, 17, 20, 13)], 8, 112, true, 4, false),
  (8, yL_camera, cL_camera, 9, (some .int), [(0, 18, 21, 26), (0, 18, 25, 28)], 8, 119, true, 8, false),
  (8, yL_turn, cL_turn, 5, (some .int), [(0, 10, 13, 13), (0, 10, 17, 26)], 8, 114, true, 4, false),
  (8, yL_mask, cL_mask, 6, (some .int), [(0, 19, 22, 13)], 8, 114, true, 5, false),
  (8, yL_sees, cL_sees, 6, (some .int), [(0, 19, 22, 13)], 8, 114, true, 5, false),
  (8, yL_shows, cL_shows, 6, (some .int), [(0, 19, 22, 13)], 8, 114, true, 5, false),
  (8, yL_unseen, cL_unseen, 5, (some .int), [(0, 10, 13, 13)], 8, 112, true, 4, false),
  (8, yL_step, cL_step, 4, (some .int), [(0, 9, 12, 13)], 8, 111, true, 3, false),
  (8, yL_follow, cL_follow, 5, (some .int), [(0, 10, 13, 55)], 8, 134, true, 4, false),
  (8, yL_law, cL_law, 7, (some .boolean), [], 9, 150, true, 1, false)]
def fe_M : List fe_MT := fe_M0 ++ (fe_M1 ++ (fe_M2 ++ (fe_M3 ++ (fe_M4 ++ (fe_M5 ++ (fe_M6))))))
def fe_m (y : Nat) : fe_MT := fe_M.getD y (0, ⟨"", "", ""⟩, .mk #[], 0, none, [], 0, 0, true, 0, false)
def fe_mC (y : Nat) : Nat := (fe_m y).1
def fe_mN (y : Nat) : MethodName := (fe_m y).2.1
def fe_mB (y : Nat) : ByteArray := (fe_m y).2.2.1
def fe_mL (y : Nat) : Nat := (fe_m y).2.2.2.1
def fe_mR (y : Nat) : Option FieldType := (fe_m y).2.2.2.2.1
def fe_mH (y : Nat) : List (Nat × Nat × Nat × Nat) := (fe_m y).2.2.2.2.2.1
def fe_mF (y : Nat) : Nat := (fe_m y).2.2.2.2.2.2.1
def fe_mW (y : Nat) : Nat := (fe_m y).2.2.2.2.2.2.2.1
def fe_mS (y : Nat) : Bool := (fe_m y).2.2.2.2.2.2.2.2.1
def fe_mA (y : Nat) : Nat := (fe_m y).2.2.2.2.2.2.2.2.2.1
def fe_mI (y : Nat) : Bool := (fe_m y).2.2.2.2.2.2.2.2.2.2
def fe_fl : List ((Nat × Nat) × (Nat × Nat × Bool × Nat)) := [((0, 9), (0, 0, false, 98)), ((0, 15), (0, 1, false, 99)), ((0, 18), (0, 2, false, 100)), ((0, 21), (0, 3, false, 101)), ((0, 24), (0, 4, false, 102)), ((0, 27), (0, 5, false, 103)), ((0, 30), (0, 6, false, 104)), ((0, 33), (0, 7, false, 105)), ((0, 36), (0, 8, false, 106)), ((0, 39), (0, 9, false, 107)), ((1, 9), (1, 0, false, 560)), ((1, 15), (1, 1, false, 561)), ((1, 19), (1, 2, false, 562)), ((1, 22), (1, 3, false, 563)), ((1, 25), (1, 4, false, 564)), ((1, 28), (1, 5, false, 566)), ((1, 32), (1, 6, false, 567)), ((1, 36), (1, 7, false, 568)), ((1, 39), (1, 8, false, 570)), ((1, 42), (1, 9, false, 572)), ((1, 46), (1, 10, false, 575)), ((1, 49), (1, 11, false, 576)), ((1, 68), (2, 0, true, 131)), ((2, 9), (2, 0, false, 130)), ((2, 15), (2, 1, false, 133)), ((2, 18), (2, 2, false, 135)), ((2, 24), (2, 3, false, 137)), ((3, 11), (3, 0, false, 175)), ((3, 15), (3, 1, false, 176)), ((3, 25), (5, 1, true, 158)), ((3, 31), (5, 2, true, 160)), ((3, 34), (5, 0, true, 156)), ((4, 9), (4, 0, false, 189)), ((4, 15), (4, 1, false, 190)), ((4, 19), (4, 2, false, 192)), ((4, 22), (4, 3, false, 194)), ((4, 25), (4, 4, false, 196)), ((4, 28), (4, 5, false, 198)), ((5, 9), (5, 0, false, 155)), ((5, 15), (5, 1, false, 157)), ((5, 18), (5, 2, false, 159)), ((5, 27), (1, 9, true, 573)), ((5, 41), (1, 8, true, 571)), ((5, 45), (1, 7, true, 569)), ((6, 10), (6, 0, false, 213)), ((6, 18), (6, 1, false, 214)), ((6, 22), (6, 2, false, 215)), ((6, 29), (6, 3, false, 216)), ((6, 36), (6, 4, false, 217)), ((6, 40), (6, 5, false, 218)), ((6, 47), (6, 6, false, 219)), ((6, 62), (2, 1, true, 134)), ((6, 70), (2, 2, true, 136)), ((6, 94), (1, 9, true, 574)), ((6, 130), (2, 0, true, 132)), ((6, 151), (4, 2, true, 193)), ((6, 154), (4, 3, true, 195)), ((6, 157), (4, 4, true, 197)), ((6, 160), (4, 5, true, 199)), ((6, 167), (4, 1, true, 191)), ((6, 182), (1, 4, true, 565)), ((7, 9), (7, 1, false, 716)), ((7, 13), (7, 2, false, 717)), ((7, 16), (7, 3, false, 718)), ((7, 19), (7, 4, false, 719)), ((7, 23), (7, 5, false, 720)), ((7, 26), (7, 6, false, 721)), ((7, 29), (7, 7, false, 722)), ((7, 32), (7, 8, false, 723)), ((7, 35), (7, 9, false, 724)), ((7, 38), (7, 10, false, 725)), ((7, 41), (7, 11, false, 726)), ((7, 44), (7, 13, false, 728)), ((7, 47), (7, 14, false, 729)), ((7, 50), (7, 15, false, 730)), ((7, 53), (7, 16, false, 731)), ((7, 56), (7, 17, false, 732)), ((7, 59), (7, 20, false, 735)), ((7, 62), (7, 0, false, 715)), ((7, 70), (7, 12, false, 727)), ((7, 144), (7, 19, false, 734)), ((7, 154), (7, 18, false, 733)), ((7, 176), (7, 21, false, 736))]
def fe_cl : List ((Nat × Nat) × (Nat × Bool × Nat)) := [((0, 42), (116, false, 303)), ((0, 48), (115, false, 304)), ((1, 52), (118, false, 496)), ((1, 58), (12, false, 389)), ((1, 62), (11, false, 636)), ((1, 65), (13, false, 333)), ((1, 73), (18, true, 266)), ((1, 77), (21, true, 276)), ((1, 81), (22, true, 279)), ((1, 84), (14, false, 282)), ((1, 87), (19, true, 289)), ((1, 91), (20, true, 337)), ((1, 95), (15, false, 286)), ((2, 23), (0, true, 94)), ((2, 28), (116, false, 270)), ((2, 34), (115, false, 273)), ((2, 37), (61, true, 489)), ((2, 41), (1, true, 293)), ((2, 45), (21, false, 297)), ((2, 48), (22, false, 298)), ((2, 51), (2, true, 299)), ((2, 54), (3, true, 305)), ((3, 19), (117, false, 247)), ((3, 37), (27, false, 321)), ((3, 44), (30, false, 355)), ((4, 31), (35, false, 699)), ((4, 35), (115, false, 704)), ((4, 41), (113, false, 705)), ((4, 47), (7, true, 703)), ((5, 21), (118, false, 258)), ((5, 33), (12, true, 261)), ((5, 37), (38, false, 309)), ((5, 48), (11, true, 313)), ((5, 51), (115, false, 659)), ((6, 9), (16, true, 88)), ((6, 28), (36, true, 151)), ((6, 35), (23, true, 171)), ((6, 46), (31, true, 185)), ((6, 51), (58, false, 413)), ((6, 55), (17, true, 485)), ((6, 59), (6, true, 492)), ((6, 66), (61, false, 504)), ((6, 73), (60, false, 521)), ((6, 84), (4, true, 556)), ((6, 87), (5, true, 602)), ((6, 91), (59, false, 613)), ((6, 97), (7, true, 632)), ((6, 101), (9, true, 644)), ((6, 104), (66, false, 239)), ((6, 107), (63, false, 250)), ((6, 110), (29, true, 351)), ((6, 114), (64, false, 363)), ((6, 117), (114, false, 367)), ((6, 122), (37, true, 254)), ((6, 126), (39, true, 655)), ((6, 133), (65, false, 381)), ((6, 136), (32, true, 667)), ((6, 139), (33, true, 394)), ((6, 147), (34, true, 695)), ((6, 163), (62, false, 402)), ((6, 185), (8, true, 385)), ((6, 189), (24, true, 243)), ((6, 192), (26, true, 317)), ((6, 196), (67, false, 325)), ((6, 199), (25, true, 341)), ((6, 202), (28, true, 345)), ((6, 205), (10, true, 329)), ((7, 66), (71, false, 793)), ((7, 73), (72, false, 790)), ((7, 77), (70, false, 796)), ((7, 81), (75, false, 800)), ((7, 84), (116, false, 803)), ((7, 90), (115, false, 804)), ((7, 93), (73, false, 821)), ((7, 96), (81, false, 849)), ((7, 100), (82, false, 852)), ((7, 107), (86, false, 871)), ((7, 111), (85, false, 863)), ((7, 115), (87, false, 867)), ((7, 118), (83, false, 845)), ((7, 122), (89, false, 841)), ((7, 125), (84, false, 855)), ((7, 128), (88, false, 859)), ((7, 132), (91, false, 885)), ((7, 135), (93, false, 833)), ((7, 138), (90, false, 837)), ((7, 141), (92, false, 881)), ((7, 147), (96, false, 897)), ((7, 151), (97, false, 901)), ((7, 157), (99, false, 913)), ((7, 160), (98, false, 893)), ((7, 163), (101, false, 905)), ((7, 166), (100, false, 909)), ((7, 170), (103, false, 921)), ((7, 173), (114, false, 925)), ((7, 179), (110, false, 950)), ((8, 7), (41, false, 409)), ((8, 15), (42, false, 500)), ((8, 19), (43, false, 508)), ((8, 22), (44, false, 517)), ((8, 30), (45, false, 609)), ((8, 34), (46, false, 621)), ((8, 38), (47, false, 628)), ((8, 42), (48, false, 640)), ((8, 45), (52, false, 651)), ((8, 48), (54, false, 663)), ((8, 52), (56, false, 675)), ((8, 57), (40, false, 80)), ((8, 60), (68, false, 711)), ((8, 61), (119, false, 405)), ((8, 66), (74, false, 786)), ((8, 67), (69, false, 782)), ((8, 71), (120, false, 497)), ((8, 74), (76, false, 805)), ((8, 75), (121, false, 505)), ((8, 77), (77, false, 809)), ((8, 78), (122, false, 512)), ((8, 81), (78, false, 813)), ((8, 82), (123, false, 606)), ((8, 85), (79, false, 817)), ((8, 86), (124, false, 618)), ((8, 88), (80, false, 825)), ((8, 89), (125, false, 625)), ((8, 92), (94, false, 829)), ((8, 93), (126, false, 637)), ((8, 95), (95, false, 877)), ((8, 96), (49, false, 235)), ((8, 99), (102, false, 889)), ((8, 100), (50, false, 359)), ((8, 104), (104, false, 917)), ((8, 105), (51, false, 373)), ((8, 108), (105, false, 926)), ((8, 109), (127, false, 648)), ((8, 111), (106, false, 930)), ((8, 112), (53, false, 377)), ((8, 115), (107, false, 934)), ((8, 116), (128, false, 660)), ((8, 119), (108, false, 938)), ((8, 120), (55, false, 390)), ((8, 123), (109, false, 942)), ((8, 124), (129, false, 671)), ((8, 126), (111, false, 946)), ((8, 127), (57, false, 398)), ((8, 130), (112, false, 954))]
def fe_mp : List (Nat × Nat × Nat × Nat) := [(96, 62, 95, 0), (296, 62, 295, 8), (302, 62, 301, 9), (308, 62, 307, 10), (558, 75, 557, 0), (605, 75, 604, 30), (495, 75, 494, 29), (635, 75, 634, 32), (388, 75, 387, 25), (647, 75, 646, 33), (332, 75, 331, 16), (316, 75, 315, 12), (265, 75, 263, 4), (336, 75, 335, 17), (285, 75, 284, 6), (288, 75, 287, 0), (90, 61, 89, 0), (488, 61, 487, 28), (269, 61, 268, 5), (292, 61, 291, 7), (340, 61, 339, 18), (278, 61, 277, 0), (281, 61, 280, 0), (173, 64, 172, 0), (246, 64, 245, 1), (344, 64, 343, 19), (320, 64, 319, 13), (324, 64, 323, 14), (348, 64, 347, 20), (354, 64, 353, 21), (358, 64, 357, 22), (187, 65, 186, 0), (670, 65, 669, 35), (397, 65, 396, 26), (698, 65, 697, 36), (702, 65, 701, 37), (153, 63, 152, 0), (257, 63, 256, 3), (312, 63, 311, 11), (658, 63, 657, 34), (82, 60, 81, 0), (412, 60, 410, 411), (503, 60, 501, 502), (511, 60, 509, 510), (520, 60, 518, 519), (612, 60, 610, 611), (624, 60, 622, 623), (631, 60, 629, 630), (643, 60, 641, 642), (238, 60, 236, 237), (362, 60, 360, 361), (376, 60, 374, 375), (654, 60, 652, 653), (380, 60, 378, 379), (666, 60, 664, 665), (393, 60, 391, 392), (678, 60, 676, 677), (401, 60, 399, 400), (415, 60, 414, 0), (616, 60, 615, 31), (523, 60, 522, 0), (491, 60, 490, 0), (404, 60, 403, 0), (253, 60, 252, 2), (366, 60, 365, 23), (384, 60, 383, 24), (242, 60, 241, 0), (328, 60, 327, 15), (713, 66, 712, 0), (785, 66, 783, 784), (799, 66, 798, 38), (795, 66, 794, 0), (792, 66, 791, 0), (824, 66, 823, 39), (789, 66, 787, 788), (802, 66, 801, 0), (808, 66, 806, 807), (812, 66, 810, 811), (816, 66, 814, 815), (820, 66, 818, 819), (828, 66, 826, 827), (851, 66, 850, 0), (854, 66, 853, 0), (848, 66, 847, 43), (858, 66, 857, 44), (866, 66, 865, 46), (874, 66, 873, 48), (870, 66, 869, 47), (862, 66, 861, 45), (844, 66, 843, 42), (840, 66, 839, 41), (888, 66, 887, 50), (884, 66, 883, 49), (836, 66, 835, 40), (832, 66, 830, 831), (880, 66, 878, 879), (900, 66, 899, 52), (904, 66, 903, 53), (896, 66, 895, 51), (916, 66, 915, 56), (912, 66, 911, 55), (908, 66, 907, 54), (892, 66, 890, 891), (924, 66, 923, 57), (920, 66, 918, 919), (929, 66, 927, 928), (933, 66, 931, 932), (937, 66, 935, 936), (941, 66, 939, 940), (945, 66, 943, 944), (953, 66, 952, 58), (949, 66, 947, 948), (957, 66, 955, 956), (707, 76, 706, 0), (369, 76, 368, 0), (275, 71, 274, 0), (272, 71, 271, 0), (249, 72, 248, 0), (260, 72, 259, 0), (407, 59, 406, 0), (499, 59, 498, 0), (507, 59, 506, 0), (514, 59, 513, 0), (608, 59, 607, 0), (620, 59, 619, 0), (627, 59, 626, 0), (639, 59, 638, 0), (650, 59, 649, 0), (662, 59, 661, 0), (673, 59, 672, 0)]
def fe_nl : List ((Nat × Nat) × Nat) := [((2, 21), 0), ((6, 7), 2), ((6, 16), 1), ((6, 26), 5), ((6, 33), 3), ((6, 44), 4), ((8, 8), 6), ((8, 58), 7)]
def fe_kl : List ((Nat × Nat) × Int32) := [((7, 105), 2147483647), ((7, 106), -2147483648), ((9, 264), 65536), ((9, 265), 1431655765), ((9, 266), 858993459), ((9, 267), 252645135)]
def fe_ol : List (Nat × Nat) := [(0, 3), (1, 3), (2, 3), (3, 3), (4, 3), (5, 3), (6, 1), (7, 1)]
def fe_xl : List (((Nat × Nat) × (Nat × Nat)) × Nat) := [(((6, 77), (79, 81)), 2), (((6, 142), (144, 146)), 3), (((6, 170), (172, 174)), 0), (((6, 170), (175, 174)), 0), (((6, 177), (179, 181)), 1)]
def fe_xn : List String := ["java/lang/IndexOutOfBoundsException", "java/lang/IllegalArgumentException", "java/lang/UnsupportedOperationException", "java/util/NoSuchElementException"]
def fe_xs : List ((Nat × Nat) × String) := [((6, 79), "there are 12 cameras"), ((6, 144), "what is 0 to 3"), ((6, 172), "there is no such cell"), ((6, 175), "there is no such camera"), ((6, 179), "a number is none")]
def fe_hl : List ((Nat × Nat) × Nat) := [((8, 13), 0), ((8, 26), 1), ((8, 28), 2), ((8, 55), 3)]
end
section
/-! the small machine: its steps over the heap, its calls, its run -/
def fe_okV (ty : FieldType) (v : Value) : Bool := match ty, v with
  | .int, .int _ => true
  | .boolean, .int x => decide (x = 0) || decide (x = 1)
  | .object _, .ref _ => true
  | .object _, .null => true
  | .array _, .ref _ => true
  | .array _, .null => true
  | _, _ => false
def fe_ty (ci k : Nat) : FieldType := match ci with
  | 0 => tyX0 k
  | 1 => tyX1 k
  | 2 => tyX2 k
  | 3 => tyX3 k
  | 4 => tyX4 k
  | 5 => tyX5 k
  | 6 => tyX6 k
  | _ => tyX7 k
def fe_vw (ci : Nat) : vw_C := vwCl.getD ci (RX0, TX0, 0)
def fe_fin (ci k : Nat) : Bool := ((fe_vw ci).2.1 k).2.2.2
def fe_nf (ci : Nat) : Nat := (fe_vw ci).2.2
def fe_df (ci : Nat) : List Value := (List.range (fe_nf ci)).map (fun k => defaultValue (fe_ty ci k))
def fe_gf (h : fe_H) (a ci k : Nat) : Option Value := match fe_get h a with
  | some (.inl (cj, fs)) => if cj = ci then fs[k]? else none
  | _ => none
def fe_pf (h : fe_H) (a ci k : Nat) (v : Value) : Option fe_H := match fe_get h a with
  | some (.inl (cj, fs)) => if cj = ci ∧ k < fs.length then some (fe_put h a (fe_O ci (fs.set k v))) else none
  | _ => none
def fe_ia (E : fe_E) (h : fe_H) (a : Nat) (i : Int32) : Option Int32 := match fe_get h a with
  | some (.inr (.inl (n, f))) => if fe_inb i n then some (f i.toNatClampNeg) else none
  | none => if a = E.1 ∧ fe_inb i E.2.1 = true then some (E.2.2.1 i.toNatClampNeg) else none
  | _ => none
def fe_za (h : fe_H) (a : Nat) (i : Int32) : Option Bool := match fe_get h a with
  | some (.inr (.inr (.inl (n, f)))) => if fe_inb i n then some (f i.toNatClampNeg) else none
  | _ => none
def fe_wb (j : Nat) : Int64 := [6148914691236517205, 3689348814741910323, 1085102592571150095, 71777214294589695, 281470681808895, 4294967295].getD j 0
def fe_ja (E : fe_E) (h : fe_H) (a : Nat) (i : Int32) : Option Int64 := match fe_get h a with
  | some (.inr (.inr (.inr (.inl (n, f))))) => if fe_inb i n then some (f i.toNatClampNeg) else none
  | none => if a = E.2.2.2 ∧ fe_inb i 6 = true then some (fe_wb i.toNatClampNeg) else none
  | _ => none
def fe_qa (h : fe_H) (a : Nat) (i : Int32) : Option Value := match fe_get h a with
  | some (.inr (.inr (.inr (.inr (n, f))))) => if fe_inb i n then some (va_rf (f i.toNatClampNeg)) else none
  | _ => none
def fe_ln (E : fe_E) (h : fe_H) (a : Nat) : Option Nat := match fe_get h a with
  | some (.inr (.inl (n, _))) => some n
  | some (.inr (.inr (.inl (n, _)))) => some n
  | some (.inr (.inr (.inr (.inl (n, _))))) => some n
  | some (.inr (.inr (.inr (.inr (n, _))))) => some n
  | none => if a = E.1 then some E.2.1 else none
  | _ => none
def fe_is (h : fe_H) (a : Nat) (i x : Int32) : Option fe_H := match fe_get h a with
  | some (.inr (.inl (n, f))) => if fe_inb i n then some (fe_put h a (fe_I n (upd f i.toNatClampNeg x))) else none
  | _ => none
def fe_zs (h : fe_H) (a : Nat) (i x : Int32) : Option fe_H := match fe_get h a with
  | some (.inr (.inr (.inl (n, f)))) => if fe_inb i n then some (fe_put h a (fe_Z n (fe_ub f i.toNatClampNeg (fe_tb x)))) else none
  | _ => none
def fe_js (h : fe_H) (a : Nat) (i : Int32) (x : Int64) : Option fe_H := match fe_get h a with
  | some (.inr (.inr (.inr (.inl (n, f))))) => if fe_inb i n then some (fe_put h a (fe_J n (vp_updL f i.toNatClampNeg x))) else none
  | _ => none
def fe_qs (h : fe_H) (a : Nat) (i : Int32) (x : Nat) : Option fe_H := match fe_get h a, fe_get h x with
  | some (.inr (.inr (.inr (.inr (n, f))))), some (.inl (1, _)) => if fe_inb i n then some (fe_put h a (fe_Q n (va_up f i.toNatClampNeg (some x)))) else none
  | _, _ => none
def fe_nw (h : fe_H) (n : Nat) : Bool := decide (1 ≤ h.2.1) && decide (n ≤ h.2.2.1)
def fe_na (t : ArrayType) (n : Nat) : Option fe_C := match t with
  | .int => some (fe_I n (fun _ => 0))
  | .boolean => some (fe_Z n (fun _ => false))
  | .long => some (fe_J n (fun _ => 0))
  | _ => none
def fe_hstep (E : fe_E) (y : Nat) (i : Instr) (st : List Value) (h : fe_H) : Option (List Value × fe_H) := match i with
  | .getfield idx => match st with
    | .ref a :: r => match fe_fl.lookup (fe_mC y, idx) with
      | some (ci, k, _, _) => (fe_gf h a ci k).map (fun v => (v :: r, h))
      | none => none
    | _ => none
  | .putfield idx => match st with
    | v :: .ref a :: r => match fe_fl.lookup (fe_mC y, idx) with
      | some (ci, k, nest, _) => if fe_okV (fe_ty ci k) v && (!(fe_fin ci k) || (fe_mI y && decide (fe_mC y = ci) && !nest)) then (fe_pf h a ci k v).map (fun h' => (r, h')) else none
      | none => none
    | _ => none
  | .getstatic idx => if fe_mC y = 3 ∧ idx = 41 then some (.ref E.2.2.2 :: st, h) else none
  | .iaload => match st with
    | .int i :: .ref a :: r => (fe_ia E h a i).map (fun x => (.int x :: r, h))
    | _ => none
  | .baload => match st with
    | .int i :: .ref a :: r => (fe_za h a i).map (fun x => (.int (fe_bi x) :: r, h))
    | _ => none
  | .laload => match st with
    | .int i :: .ref a :: r => (fe_ja E h a i).map (fun x => (.long x :: r, h))
    | _ => none
  | .aaload => match st with
    | .int i :: .ref a :: r => (fe_qa h a i).map (fun x => (x :: r, h))
    | _ => none
  | .arraylength => match st with
    | .ref a :: r => (fe_ln E h a).map (fun n => (.int (Int32.ofNat n) :: r, h))
    | _ => none
  | .iastore => match st with
    | .int x :: .int i :: .ref a :: r => (fe_is h a i x).map (fun h' => (r, h'))
    | _ => none
  | .bastore => match st with
    | .int x :: .int i :: .ref a :: r => (fe_zs h a i x).map (fun h' => (r, h'))
    | _ => none
  | .lastore => match st with
    | .long x :: .int i :: .ref a :: r => (fe_js h a i x).map (fun h' => (r, h'))
    | _ => none
  | .aastore => match st with
    | .ref x :: .int i :: .ref a :: r => (fe_qs h a i x).map (fun h' => (r, h'))
    | _ => none
  | .new idx => match fe_nl.lookup (fe_mC y, idx) with
    | some ci => if fe_nw h (fe_nf ci) then some (.ref h.1 :: st, fe_add h (fe_nf ci) (fe_O ci (fe_df ci))) else none
    | none => none
  | .newarray t => match st with
    | .int n :: r => if decide (0 ≤ n) && decide (n.toNatClampNeg ≤ 1000000) && fe_nw h n.toNatClampNeg then (fe_na t n.toNatClampNeg).map (fun c => (.ref h.1 :: r, fe_add h n.toNatClampNeg c)) else none
    | _ => none
  | .anewarray idx => match st with
    | .int n :: r => if decide (fe_mC y = 6 ∧ idx = 16) && decide (0 ≤ n) && decide (n.toNatClampNeg ≤ 1000000) && fe_nw h n.toNatClampNeg then some (.ref h.1 :: r, fe_add h n.toNatClampNeg (fe_Q n.toNatClampNeg (fun _ => none))) else none
    | _ => none
  | .ldc idx => (fe_kl.lookup (fe_mC y, idx)).map (fun v => (.int v :: st, h))
  | .ldc_w idx => (fe_kl.lookup (fe_mC y, idx)).map (fun v => (.int v :: st, h))
  | .invokespecial idx => match st with
    | .ref _ :: r => if fe_ol.contains (fe_mC y, idx) && decide (1 ≤ fe_mF y) && decide (2 * r.length + 12 ≤ fe_mW y) then some (r, h) else none
    | _ => none
  | _ => none
def fe_pop : Nat → List Value → Option (List Value × List Value)
  | 0, st => some ([], st)
  | n + 1, v :: st => match fe_pop n st with
    | some (a, r) => some (a ++ [v], r)
    | none => none
  | _ + 1, [] => none
def fe_ent (z : Nat) (as : List Value) : fe_Ls := as.map some ++ List.replicate (fe_mL z - as.length) none
def fe_rm (y z n : Nat) : Bool := decide (fe_mF z + 1 ≤ fe_mF y) && decide (2 * n + (fe_mL z + 11) + fe_mW z ≤ fe_mW y)
def fe_rcv (h : fe_H) (z : Nat) (as : List Value) : Bool := fe_mS z || (match as with
  | .ref b :: _ => (match fe_get h b with
    | some (.inl (ci, _)) => decide (ci = fe_mC z)
    | _ => false)
  | _ => false)
def fe_hgo (c pc x : Nat) : List (Nat × Nat × Nat × Nat) → Option Nat
  | [] => none
  | q :: t => if q.1 ≤ pc ∧ pc < q.2.1 then (match fe_hl.lookup (c, q.2.2.2) with
      | some x' => if x' = x then some q.2.2.1 else if (x = 1 ∧ x' = 0) ∨ (x = 2 ∧ x' = 1) then fe_hgo c pc x t else none
      | none => none) else fe_hgo c pc x t
abbrev fe_Rec : Type := Nat → Nat → fe_Ls → List Value → fe_H → Option (fe_R × fe_H)
def fe_bk (rec : fe_Rec) (y pc : Nat) (ls : fe_Ls) (rest : List Value) (q : fe_R × fe_H) : Option (fe_R × fe_H) := match q.1 with
  | .inl v => rec y (pc + 3) ls (v.toList ++ rest) q.2
  | .inr x => match fe_mH y with
    | [] => some (.inr x, q.2)
    | hs => match fe_hgo (fe_mC y) pc x.1 hs with
      | some hp => rec y hp ls [.ref x.2] q.2
      | none => none
/-- the number of Arrays.fill(long[], long) -/
def fe_fj : Nat := 117
def fe_call (rec : fe_Rec) (y pc : Nat) (ls : fe_Ls) (z : Nat) (st : List Value) (h : fe_H) : Option (fe_R × fe_H) := match fe_pop (fe_mA z) st with
  | some (as, rest) => if fe_rm y z rest.length && as.all (fun v => v.category == 1) && decide (as.length ≤ fe_mL z) && fe_rcv h z as then (match rec z 0 (fe_ent z as) [] h with
      | some q => fe_bk rec y pc ls rest q
      | none => none) else none
  | none => none
def fe_fill (rec : fe_Rec) (y pc : Nat) (ls : fe_Ls) (st : List Value) (h : fe_H) : Option (fe_R × fe_H) := match st with
  | .long x :: .ref a :: rest => (match fe_get h a with
    | some (.inr (.inr (.inr (.inl (n, _))))) => if fe_rm y fe_fj rest.length && decide (n ≤ 1000000) then rec y (pc + 3) ls rest (fe_put h a (fe_J n (fun _ => x))) else none
    | _ => none)
  | _ => none
def fe_ends (rec : fe_Rec) (y pc : Nat) (ls : fe_Ls) (i : Instr) (st : List Value) (h : fe_H) : Option (fe_R × fe_H) := match i with
  | .invokestatic idx => match fe_cl.lookup (fe_mC y, idx) with
    | some (z, _, _) => if z = fe_fj then fe_fill rec y pc ls st h else if fe_mS z then fe_call rec y pc ls z st h else none
    | none => none
  | .invokevirtual idx => match fe_cl.lookup (fe_mC y, idx) with
    | some (z, _, _) => if !(fe_mS z) && !(fe_mI z) then fe_call rec y pc ls z st h else none
    | none => none
  | .invokespecial idx => match fe_cl.lookup (fe_mC y, idx) with
    | some (z, _, _) => if fe_mI z then fe_call rec y pc ls z st h else none
    | none => none
  | .ireturn => match st, fe_mR y with
    | [.int v], some ty => if fe_okV ty (.int v) then some (.inl (some (.int v)), h) else none
    | _, _ => none
  | .return_ => match st, fe_mR y with
    | [], none => some (.inl none, h)
    | _, _ => none
  | .new ik => match fe_fetch y (pc + 4), fe_fetch y (pc + 6) with
    | some (.ldc is), some (.invokespecial ic) => match fe_xl.lookup ((fe_mC y, ik), (is, ic)) with
      | some x => if decide (fe_fetch y (pc + 3) = some .dup) && decide (fe_fetch y (pc + 9) = some .athrow) && decide (6 ≤ fe_mF y) && decide (2 * st.length + 82 ≤ fe_mW y) && (fe_mH y).isEmpty && fe_nw h 6 then some (.inr (x, h.1), fe_burn h 6) else none
      | none => none
    | _, _ => none
  | _ => none
def fe_body (E : fe_E) (rec : fe_Rec) (y pc : Nat) (ls : fe_Ls) (st : List Value) (h : fe_H) : Option (fe_R × fe_H) := match fe_fetch y pc with
  | none => none
  | some i => match fe_pstep i pc ls st with
    | some (pc', ls', st') => rec y pc' ls' st' h
    | none => match fe_hstep E y i st h with
      | some (st', h') => rec y (pc + fe_len pc i) ls st' h'
      | none => fe_ends rec y pc ls i st h
def fe_run (E : fe_E) : Nat → fe_Rec
  | 0, _, _, _, _, _ => none
  | n + 1, y, pc, ls, st, h => fe_body E (fe_run E n) y pc ls st h
end
section
/-! the words: what the tables say, and that it stays said while the tables grow warmer -/
def fe_nest : Jvm.Cond → Bool
  | .fieldLinkNest .. | .methodLinkNest .. => true
  | _ => false
def fe_mv (w : Jvm.Cond) : Bool := goodWord w || (w.onTables && (fe_nest w || w.faceAtom || w.castAtom))
theorem fe_move {w : Jvm.Cond} (hw : fe_mv w = true) {a a' : Array Value} {s U : State} (hW : s.WarmedH U.vm) (h : w.before a s = true) : w.before a' U = true := by
  simp only [fe_mv, Bool.or_eq_true, Bool.and_eq_true] at hw
  rcases hw with hw | ⟨ht, (hw | hw) | hw⟩
  · exact word_at hW (good_of_word hw) h
  · cases w <;> first | exact va_tabs rfl (rfl : (s.setVm U.vm).vm = U.vm) (Cond.fieldLinkNest_warmed hW h) | exact va_tabs rfl (rfl : (s.setVm U.vm).vm = U.vm) (Cond.methodLinkNest_warmed hW h) | exact absurd hw (by decide) | cases hw
  · exact va_tabs ht (rfl : (s.setVm U.vm).vm = U.vm) (Cond.faceAtom_setVm hW.alike w hw h)
  · exact va_tabs ht (rfl : (s.setVm U.vm).vm = U.vm) (Cond.castAtom_setVm hW.alike w hw h)
/-- two classes of exceptions that aren't each other's -/
def fe_nc : List Jvm.Cond := [.not (.castable "java/lang/IllegalArgumentException" "java/lang/IndexOutOfBoundsException"), .not (.castable "java/lang/UnsupportedOperationException" "java/lang/IllegalArgumentException")]
def fe_wl : List Jvm.Cond := lw_tbl ++ fe_nc
/-- all words stand in the state U -/
def fe_wd (U : State) : Prop := ∀ w ∈ fe_wl, fe_mv w = true → ∀ a : Array Value, w.before a U = true
theorem fe_wd.moved {s U : State} (hW : s.WarmedH U.vm) (h : fe_wd s) : fe_wd U := fun w hw hm a => fe_move hm hW (h w hw hm a)
theorem fe_wd.is {U : State} (h : fe_wd U) {w : Jvm.Cond} (hw : w ∈ fe_wl) (hm : fe_mv w = true) {a : Array Value} : w.before a U = true := h w hw hm a
def fe_in (w : Jvm.Cond) : Bool := decide (w ∈ fe_wl) && fe_mv w
theorem fe_wd.ok {U : State} (h : fe_wd U) {w : Jvm.Cond} (hw : fe_in w = true) {a : Array Value} : w.before a U = true := by
  simp only [fe_in, Bool.and_eq_true, decide_eq_true_eq] at hw
  exact h w hw.1 hw.2 a
/-! the tables' rows are among the words -/
def fe_ip (w : Jvm.Cond) (k : Nat) : Bool := decide (fe_wl[k]? = some w) && fe_mv w
theorem fe_wd.at {U : State} (h : fe_wd U) {w : Jvm.Cond} {k : Nat} (hw : fe_ip w k = true) {a : Array Value} : w.before a U = true := by
  simp only [fe_ip, Bool.and_eq_true, decide_eq_true_eq] at hw
  exact h w (List.mem_of_getElem? hw.1) hw.2 a
def fe_fw (c idx ci k : Nat) (nest : Bool) : Jvm.Cond := if nest then .fieldLinkNest (fe_cls c) idx ((fe_vw ci).2.1 k).1 ((fe_vw ci).2.1 k).2.1 ((fe_vw ci).2.1 k).2.2.1 "FloorEyes" else .fieldLink (fe_cls c) idx ((fe_vw ci).2.1 k).1 ((fe_vw ci).2.1 k).2.1 ((fe_vw ci).2.1 k).2.2.1
def fe_cw (c idx z : Nat) (nest : Bool) : Jvm.Cond := if nest then .methodLinkNest (fe_cls c) idx (fe_mN z) "FloorEyes" else .methodLink (fe_cls c) idx (fe_mN z)
def fe_code (y : Nat) : Jvm.Cond := if (fe_mH y).isEmpty then .code (fe_mN y) (fe_mB y) (fe_mL y) (fe_mR y) else .codeWith (fe_mN y) (fe_mB y) (fe_mL y) (fe_mR y) (fe_mH y)
theorem fe_fl_in : ∀ q ∈ fe_fl, fe_ip (fe_fw q.1.1 q.1.2 q.2.1 q.2.2.1 q.2.2.2.1) q.2.2.2.2 = true ∧ q.2.1 < 8 ∧ q.2.2.1 < fe_nf q.2.1 := by decide +kernel
theorem fe_cl_in : ∀ q ∈ fe_cl, fe_ip (fe_cw q.1.1 q.1.2 q.2.1 q.2.2.1) q.2.2.2 = true ∧ q.2.1 < 130 := by decide +kernel
theorem fe_nl_in : ∀ q ∈ fe_nl, q.2 < 8 ∧ fe_in (.classLink (fe_cls q.1.1) q.1.2 (fe_vw q.2).1) = true ∧ fe_in (.instantiable (fe_vw q.2).1 (fe_nf q.2)) = true ∧ fe_in (.initialized (fe_vw q.2).1) = true := by decide +kernel
theorem fe_kl_in : ∀ q ∈ fe_kl, fe_in (.constant (fe_cls q.1.1) q.1.2 q.2) = true := by decide +kernel
theorem fe_ol_in : ∀ q ∈ fe_ol, fe_in (.methodLink (fe_cls q.1) q.2 Lib.objectInit) = true := by decide +kernel
theorem fe_hl_in : ∀ q ∈ fe_hl, q.2 < 4 ∧ fe_in (.classLink (fe_cls q.1.1) q.1.2 (fe_xn.getD q.2 "")) = true := by decide +kernel
def fe_mq (y : Nat) : Nat × Nat × Nat × Nat := fe_mp.getD y (0, 0, 0, 0)
def fe_mok (y : Nat) : Bool := fe_ip (fe_code y) (fe_mq y).1 && fe_ip (.initialized (fe_cls (fe_mC y))) (fe_mq y).2.1 && decide ((fe_mN y).cls = fe_cls (fe_mC y)) && (if fe_mS y then fe_ip (.static (fe_mN y)) (fe_mq y).2.2.1 else fe_ip (.instanceMethod (fe_mN y)) (fe_mq y).2.2.1 && decide (fe_mC y < 8) && decide (fe_cls (fe_mC y) = (fe_vw (fe_mC y)).1) && (fe_mI y || fe_ip (.selects (fe_cls (fe_mC y)) (fe_mN y) (fe_mN y)) (fe_mq y).2.2.2)) && plainFor (fe_mN y) && decide ((fe_mN y).name = "<init>" ↔ fe_mI y = true) && decide ((fe_mN y).cls ≠ "java/lang/invoke/MethodHandle" ∧ (fe_mN y).cls ≠ "java/lang/invoke/VarHandle") && decide ((parseMethodDescriptor (fe_mN y).desc).map (fun d => d.parameters.length + (if fe_mS y then 0 else 1)) = some (fe_mA y))
theorem fe_mok_0 : ((List.range 25).drop 0).all fe_mok = true := by decide +kernel
theorem fe_mok_1 : ((List.range 50).drop 25).all fe_mok = true := by decide +kernel
theorem fe_mok_2 : ((List.range 75).drop 50).all fe_mok = true := by decide +kernel
theorem fe_mok_3 : ((List.range 100).drop 75).all fe_mok = true := by decide +kernel
theorem fe_mok_4 : ((List.range 130).drop 100).all fe_mok = true := by decide +kernel
end
section
/-! the decode tables are the code -/
def fe_dok (y : Nat) (q : Nat × Instr) : Bool := decide (decode (fe_mB y) q.1 = .ok (q.2, fe_len q.1 q.2))
def fe_tok (y : Nat) : Bool := (fe_T.getD y []).all (fe_dok y)
theorem fe_tok_0 : ((List.range 16).drop 0).all fe_tok = true := by decide +kernel
theorem fe_tok_1 : ((List.range 40).drop 16).all fe_tok = true := by decide +kernel
theorem fe_tok_2 : ((List.range 70).drop 40).all fe_tok = true := by decide +kernel
theorem fe_tok_3 : ((List.range 90).drop 70).all fe_tok = true := by decide +kernel
theorem fe_tok_4 : ((List.range 100).drop 90).all fe_tok = true := by decide +kernel
theorem fe_tok_5 : ((List.range 113).drop 100).all fe_tok = true := by decide +kernel
theorem fe_tok_6 : ((List.range 130).drop 113).all fe_tok = true := by decide +kernel
theorem fe_tokL_0 : ((fe_t130.drop 0).take 130).all (fe_dok 130) = true := by decide +kernel
theorem fe_tokL_1 : ((fe_t130.drop 130).take 130).all (fe_dok 130) = true := by decide +kernel
theorem fe_tokL_2 : ((fe_t130.drop 260).take 130).all (fe_dok 130) = true := by decide +kernel
theorem fe_tokL_3 : ((fe_t130.drop 390).take 130).all (fe_dok 130) = true := by decide +kernel
theorem fe_tokL_4 : ((fe_t130.drop 520).take 130).all (fe_dok 130) = true := by decide +kernel
theorem fe_tokL_5 : ((fe_t130.drop 650).take 130).all (fe_dok 130) = true := by decide +kernel
end
section
/-! the steps that change the frame alone are the machine's -/
def fe_L (arr : Array Slot) (nL : Nat) (ls : fe_Ls) : Prop := arr.size = nL ∧ lv_wf arr ∧ ls.length = nL ∧ ∀ (i : Nat) (v : Value), ls[i]? = some (some v) → arr[i]? = some (.val v) ∧ v.category = 1
def fe_pr1 (ls : fe_Ls) (i : Nat) : Option (Nat × Value) := match ls[i]? with
  | some (some v) => some (i, v)
  | _ => none
def fe_prs (ls : fe_Ls) : List (Nat × Value) := (List.range ls.length).filterMap (fe_pr1 ls)
theorem fe_prs_mem {ls : fe_Ls} {i : Nat} {v : Value} : (i, v) ∈ fe_prs ls ↔ ls[i]? = some (some v) := by
  unfold fe_prs
  rw [List.mem_filterMap]
  constructor
  · rintro ⟨j, -, hj⟩
    unfold fe_pr1 at hj
    split at hj
    · next w hw => cases hj; exact hw
    · cases hj
  · intro h
    refine ⟨i, List.mem_range.mpr (List.getElem?_eq_some_iff.mp h).1, ?_⟩
    unfold fe_pr1
    rw [h]
theorem fe_L.has {arr : Array Slot} {nL : Nat} {ls : fe_Ls} (h : fe_L arr nL ls) : lv_has arr nL (fe_prs ls) := ⟨h.1, h.2.1, fun q hq => (h.2.2.2 q.1 q.2 (fe_prs_mem.mp hq)).1⟩
theorem fe_L.set {arr arr' : Array Slot} {nL k : Nat} {ls : fe_Ls} {v : Value} (h : fe_L arr nL ls) (hc : v.category = 1) (h' : lv_has arr' nL ((k, v) :: (fe_prs ls).filter (fun q => !(q.1 == k) && !(q.1 + 1 == k && q.2.category == 2)))) : fe_L arr' nL (ls.set k (some v)) := by
  refine ⟨h'.1, h'.2.1, by rw [List.length_set]; exact h.2.2.1, fun i w hw => ?_⟩
  by_cases hik : k = i
  · subst hik
    rw [List.getElem?_set] at hw
    simp only [if_true] at hw
    split at hw
    · cases hw
      exact ⟨h'.2.2 (k, v) List.mem_cons_self, hc⟩
    · cases hw
  · rw [List.getElem?_set_ne hik] at hw
    obtain ⟨h1, h2⟩ := h.2.2.2 i w hw
    refine ⟨h'.2.2 (i, w) (List.mem_cons_of_mem _ (List.mem_filter.mpr ⟨fe_prs_mem.mpr hw, ?_⟩)), h2⟩
    have hne : (i == k) = false := by simp; exact fun e => hik e.symm
    simp [hne, h2]
theorem fe_okt_spec {pc : Nat} {off : Int} (h : fe_okt pc off = true) : (pc : Int) + off = (fe_tgt pc off : Int) := by
  unfold fe_okt at h
  have h := of_decide_eq_true h
  unfold fe_tgt
  omega
section FeP
variable {p : Program} {l : Launch} {e : Env} {R : Room} {s : State} {m : MethodId} {args : Array Value} {below : List Frame} {meth : Method} {c : Code} {H : Heap} {locs : List Loc} {cells slots : Nat} {Q : State → Prop}
variable {cc : ByteArray} {pc nL : Nat} {ls : fe_Ls} {st : List Value} {arr : Array Slot} {pc' : Nat} {ls' : fe_Ls} {st' : List Value}
abbrev fe_K (p : Program) (l : Launch) (e : Env) (R : Room) (s : State) (m : MethodId) (args : Array Value) (below : List Frame) (meth : Method) (c : Code) (H : Heap) (locs : List Loc) (cells slots : Nat) (Q : State → Prop) (nL pc' : Nat) (ls' : fe_Ls) (st' : List Value) : Prop := ∀ arr' : Array Slot, fe_L arr' nL ls' → W p l e R s m args below meth c H locs cells slots Q (F0 m pc' arr' st')

theorem fe_q_iload (hx : p.tables.exec = Jvm.exec) (hb : c.code = cc) {k : Nat} (hd : decode cc pc = .ok (.iload k, 2)) (hp : fe_ild ls k (pc + 2) st = some (pc', ls', st')) (hL : fe_L arr nL ls) (kk : fe_K p l e R s m args below meth c H locs cells slots Q nL pc' ls' st') : W p l e R s m args below meth c H locs cells slots Q (F0 m pc arr st) := by
  unfold fe_ild at hp
  split at hp
  · next x hk =>
    simp only [Option.some.injEq, Prod.mk.injEq] at hp
    obtain ⟨rfl, rfl, rfl⟩ := hp
    exact lv_iload hx hb hd (hL.2.2.2 _ _ hk).1 (kk arr hL)
  · cases hp
theorem fe_q_iload_n (hx : p.tables.exec = Jvm.exec) (hb : c.code = cc) {k : Fin 4} (hd : decode cc pc = .ok (.iload_n k, 1)) (hp : fe_ild ls k (pc + 1) st = some (pc', ls', st')) (hL : fe_L arr nL ls) (kk : fe_K p l e R s m args below meth c H locs cells slots Q nL pc' ls' st') : W p l e R s m args below meth c H locs cells slots Q (F0 m pc arr st) := by
  unfold fe_ild at hp
  split at hp
  · next x hk =>
    simp only [Option.some.injEq, Prod.mk.injEq] at hp
    obtain ⟨rfl, rfl, rfl⟩ := hp
    exact lv_iload_n hx hb hd rfl (hL.2.2.2 _ _ hk).1 (kk arr hL)
  · cases hp
theorem fe_q_aload (hx : p.tables.exec = Jvm.exec) (hb : c.code = cc) {k : Nat} (hd : decode cc pc = .ok (.aload k, 2)) (hp : fe_ald ls k (pc + 2) st = some (pc', ls', st')) (hL : fe_L arr nL ls) (kk : fe_K p l e R s m args below meth c H locs cells slots Q nL pc' ls' st') : W p l e R s m args below meth c H locs cells slots Q (F0 m pc arr st) := by
  unfold fe_ald at hp
  split at hp
  · next x hk =>
    simp only [Option.some.injEq, Prod.mk.injEq] at hp
    obtain ⟨rfl, rfl, rfl⟩ := hp
    exact lv_aload hx hb hd (hL.2.2.2 _ _ hk).1 (kk arr hL)
  · next hk =>
    simp only [Option.some.injEq, Prod.mk.injEq] at hp
    obtain ⟨rfl, rfl, rfl⟩ := hp
    exact lv_aloadN hx hb hd (hL.2.2.2 _ _ hk).1 (kk arr hL)
  · cases hp
theorem fe_q_aload_n (hx : p.tables.exec = Jvm.exec) (hb : c.code = cc) {k : Fin 4} (hd : decode cc pc = .ok (.aload_n k, 1)) (hp : fe_ald ls k (pc + 1) st = some (pc', ls', st')) (hL : fe_L arr nL ls) (kk : fe_K p l e R s m args below meth c H locs cells slots Q nL pc' ls' st') : W p l e R s m args below meth c H locs cells slots Q (F0 m pc arr st) := by
  unfold fe_ald at hp
  split at hp
  · next x hk =>
    simp only [Option.some.injEq, Prod.mk.injEq] at hp
    obtain ⟨rfl, rfl, rfl⟩ := hp
    exact lv_aload_n hx hb hd rfl (hL.2.2.2 _ _ hk).1 (kk arr hL)
  · next hk =>
    simp only [Option.some.injEq, Prod.mk.injEq] at hp
    obtain ⟨rfl, rfl, rfl⟩ := hp
    exact lv_aload_nN hx hb hd rfl (hL.2.2.2 _ _ hk).1 (kk arr hL)
  · cases hp
theorem fe_q_istore (hx : p.tables.exec = Jvm.exec) (hb : c.code = cc) {k : Nat} (hd : decode cc pc = .ok (.istore k, 2)) (hp : fe_ist ls k (pc + 2) st = some (pc', ls', st')) (hL : fe_L arr nL ls) (kk : fe_K p l e R s m args below meth c H locs cells slots Q nL pc' ls' st') : W p l e R s m args below meth c H locs cells slots Q (F0 m pc arr st) := by
  unfold fe_ist at hp
  split at hp
  · split at hp
    · next hlt =>
      simp only [Option.some.injEq, Prod.mk.injEq] at hp
      obtain ⟨rfl, rfl, rfl⟩ := hp
      exact lv_istore hx hb hd hL.has (by rw [hL.2.2.1] at hlt; exact hlt) rfl (fun arr' h' => kk arr' (hL.set rfl h'))
    · cases hp
  · cases hp
theorem fe_q_istore_n (hx : p.tables.exec = Jvm.exec) (hb : c.code = cc) {k : Fin 4} (hd : decode cc pc = .ok (.istore_n k, 1)) (hp : fe_ist ls k (pc + 1) st = some (pc', ls', st')) (hL : fe_L arr nL ls) (kk : fe_K p l e R s m args below meth c H locs cells slots Q nL pc' ls' st') : W p l e R s m args below meth c H locs cells slots Q (F0 m pc arr st) := by
  unfold fe_ist at hp
  split at hp
  · split at hp
    · next hlt =>
      simp only [Option.some.injEq, Prod.mk.injEq] at hp
      obtain ⟨rfl, rfl, rfl⟩ := hp
      exact lv_istore_n hx hb hd rfl hL.has (by rw [hL.2.2.1] at hlt; exact hlt) rfl (fun arr' h' => kk arr' (hL.set rfl h'))
    · cases hp
  · cases hp
theorem fe_q_astore (hx : p.tables.exec = Jvm.exec) (hb : c.code = cc) {k : Nat} (hd : decode cc pc = .ok (.astore k, 2)) (hp : fe_ast ls k (pc + 2) st = some (pc', ls', st')) (hL : fe_L arr nL ls) (kk : fe_K p l e R s m args below meth c H locs cells slots Q nL pc' ls' st') : W p l e R s m args below meth c H locs cells slots Q (F0 m pc arr st) := by
  unfold fe_ast at hp
  split at hp
  · split at hp
    · next hlt =>
      simp only [Option.some.injEq, Prod.mk.injEq] at hp
      obtain ⟨rfl, rfl, rfl⟩ := hp
      exact lv_astore hx hb hd hL.has (by rw [hL.2.2.1] at hlt; exact hlt) rfl (fun arr' h' => kk arr' (hL.set rfl h'))
    · cases hp
  · split at hp
    · next hlt =>
      simp only [Option.some.injEq, Prod.mk.injEq] at hp
      obtain ⟨rfl, rfl, rfl⟩ := hp
      exact lv_astoreN hx hb hd hL.has (by rw [hL.2.2.1] at hlt; exact hlt) rfl (fun arr' h' => kk arr' (hL.set rfl h'))
    · cases hp
  · cases hp
theorem fe_q_astore_n (hx : p.tables.exec = Jvm.exec) (hb : c.code = cc) {k : Fin 4} (hd : decode cc pc = .ok (.astore_n k, 1)) (hp : fe_ast ls k (pc + 1) st = some (pc', ls', st')) (hL : fe_L arr nL ls) (kk : fe_K p l e R s m args below meth c H locs cells slots Q nL pc' ls' st') : W p l e R s m args below meth c H locs cells slots Q (F0 m pc arr st) := by
  unfold fe_ast at hp
  split at hp
  · split at hp
    · next hlt =>
      simp only [Option.some.injEq, Prod.mk.injEq] at hp
      obtain ⟨rfl, rfl, rfl⟩ := hp
      exact lv_astore_n hx hb hd rfl hL.has (by rw [hL.2.2.1] at hlt; exact hlt) rfl (fun arr' h' => kk arr' (hL.set rfl h'))
    · cases hp
  · split at hp
    · next hlt =>
      simp only [Option.some.injEq, Prod.mk.injEq] at hp
      obtain ⟨rfl, rfl, rfl⟩ := hp
      exact lv_astore_nN hx hb hd rfl hL.has (by rw [hL.2.2.1] at hlt; exact hlt) rfl (fun arr' h' => kk arr' (hL.set rfl h'))
    · cases hp
  · cases hp
theorem fe_q_iinc (hx : p.tables.exec = Jvm.exec) (hb : c.code = cc) {k : Nat} {n : Int} (hd : decode cc pc = .ok (.iinc k n, 3)) (hp : fe_inc ls k n (pc + 3) st = some (pc', ls', st')) (hL : fe_L arr nL ls) (kk : fe_K p l e R s m args below meth c H locs cells slots Q nL pc' ls' st') : W p l e R s m args below meth c H locs cells slots Q (F0 m pc arr st) := by
  unfold fe_inc at hp
  split at hp
  · next x hk =>
    simp only [Option.some.injEq, Prod.mk.injEq] at hp
    obtain ⟨rfl, rfl, rfl⟩ := hp
    obtain ⟨j, hj⟩ := List.getElem?_of_mem (fe_prs_mem.mpr hk)
    exact lv_iinc hx hb hd hL.has hj rfl (by rw [← hL.2.2.1]; exact (List.getElem?_eq_some_iff.mp hk).1) rfl (fun arr' h' => kk arr' (hL.set rfl h'))
  · cases hp
theorem fe_q_iadd (hx : p.tables.exec = Jvm.exec) (hb : c.code = cc) (hd : decode cc pc = .ok (.iadd, 1)) (hp : fe_b2 (fun x y => x + y) pc ls st = some (pc', ls', st')) (hL : fe_L arr nL ls) (kk : fe_K p l e R s m args below meth c H locs cells slots Q nL pc' ls' st') : W p l e R s m args below meth c H locs cells slots Q (F0 m pc arr st) := by
  simp only [fe_b2] at hp
  split at hp
  · simp only [Option.some.injEq, Prod.mk.injEq] at hp
    obtain ⟨rfl, rfl, rfl⟩ := hp
    exact lv_iadd hx hb hd (kk arr hL)
  · cases hp
theorem fe_q_isub (hx : p.tables.exec = Jvm.exec) (hb : c.code = cc) (hd : decode cc pc = .ok (.isub, 1)) (hp : fe_b2 (fun x y => x - y) pc ls st = some (pc', ls', st')) (hL : fe_L arr nL ls) (kk : fe_K p l e R s m args below meth c H locs cells slots Q nL pc' ls' st') : W p l e R s m args below meth c H locs cells slots Q (F0 m pc arr st) := by
  simp only [fe_b2] at hp
  split at hp
  · simp only [Option.some.injEq, Prod.mk.injEq] at hp
    obtain ⟨rfl, rfl, rfl⟩ := hp
    exact lv_isub hx hb hd (kk arr hL)
  · cases hp
theorem fe_q_imul (hx : p.tables.exec = Jvm.exec) (hb : c.code = cc) (hd : decode cc pc = .ok (.imul, 1)) (hp : fe_b2 (fun x y => x * y) pc ls st = some (pc', ls', st')) (hL : fe_L arr nL ls) (kk : fe_K p l e R s m args below meth c H locs cells slots Q nL pc' ls' st') : W p l e R s m args below meth c H locs cells slots Q (F0 m pc arr st) := by
  simp only [fe_b2] at hp
  split at hp
  · simp only [Option.some.injEq, Prod.mk.injEq] at hp
    obtain ⟨rfl, rfl, rfl⟩ := hp
    exact lv_imul hx hb hd (kk arr hL)
  · cases hp
theorem fe_q_iand (hx : p.tables.exec = Jvm.exec) (hb : c.code = cc) (hd : decode cc pc = .ok (.iand, 1)) (hp : fe_b2 (fun x y => x &&& y) pc ls st = some (pc', ls', st')) (hL : fe_L arr nL ls) (kk : fe_K p l e R s m args below meth c H locs cells slots Q nL pc' ls' st') : W p l e R s m args below meth c H locs cells slots Q (F0 m pc arr st) := by
  simp only [fe_b2] at hp
  split at hp
  · simp only [Option.some.injEq, Prod.mk.injEq] at hp
    obtain ⟨rfl, rfl, rfl⟩ := hp
    exact lv_iand hx hb hd (kk arr hL)
  · cases hp
theorem fe_q_ior (hx : p.tables.exec = Jvm.exec) (hb : c.code = cc) (hd : decode cc pc = .ok (.ior, 1)) (hp : fe_b2 (fun x y => x ||| y) pc ls st = some (pc', ls', st')) (hL : fe_L arr nL ls) (kk : fe_K p l e R s m args below meth c H locs cells slots Q nL pc' ls' st') : W p l e R s m args below meth c H locs cells slots Q (F0 m pc arr st) := by
  simp only [fe_b2] at hp
  split at hp
  · simp only [Option.some.injEq, Prod.mk.injEq] at hp
    obtain ⟨rfl, rfl, rfl⟩ := hp
    exact lv_ior hx hb hd (kk arr hL)
  · cases hp
theorem fe_q_ixor (hx : p.tables.exec = Jvm.exec) (hb : c.code = cc) (hd : decode cc pc = .ok (.ixor, 1)) (hp : fe_b2 (fun x y => x ^^^ y) pc ls st = some (pc', ls', st')) (hL : fe_L arr nL ls) (kk : fe_K p l e R s m args below meth c H locs cells slots Q nL pc' ls' st') : W p l e R s m args below meth c H locs cells slots Q (F0 m pc arr st) := by
  simp only [fe_b2] at hp
  split at hp
  · simp only [Option.some.injEq, Prod.mk.injEq] at hp
    obtain ⟨rfl, rfl, rfl⟩ := hp
    exact lv_ixor hx hb hd (kk arr hL)
  · cases hp
theorem fe_q_ishl (hx : p.tables.exec = Jvm.exec) (hb : c.code = cc) (hd : decode cc pc = .ok (.ishl, 1)) (hp : fe_b2 (fun x y => x <<< (y &&& 31)) pc ls st = some (pc', ls', st')) (hL : fe_L arr nL ls) (kk : fe_K p l e R s m args below meth c H locs cells slots Q nL pc' ls' st') : W p l e R s m args below meth c H locs cells slots Q (F0 m pc arr st) := by
  simp only [fe_b2] at hp
  split at hp
  · simp only [Option.some.injEq, Prod.mk.injEq] at hp
    obtain ⟨rfl, rfl, rfl⟩ := hp
    exact lv_ishl hx hb hd (kk arr hL)
  · cases hp
theorem fe_q_ishr (hx : p.tables.exec = Jvm.exec) (hb : c.code = cc) (hd : decode cc pc = .ok (.ishr, 1)) (hp : fe_b2 (fun x y => x >>> (y &&& 31)) pc ls st = some (pc', ls', st')) (hL : fe_L arr nL ls) (kk : fe_K p l e R s m args below meth c H locs cells slots Q nL pc' ls' st') : W p l e R s m args below meth c H locs cells slots Q (F0 m pc arr st) := by
  simp only [fe_b2] at hp
  split at hp
  · simp only [Option.some.injEq, Prod.mk.injEq] at hp
    obtain ⟨rfl, rfl, rfl⟩ := hp
    exact lv_ishr hx hb hd (kk arr hL)
  · cases hp
theorem fe_q_iushr (hx : p.tables.exec = Jvm.exec) (hb : c.code = cc) (hd : decode cc pc = .ok (.iushr, 1)) (hp : fe_b2 (fun x y => (x.toUInt32 >>> (y.toUInt32 &&& Int32.toUInt32 31)).toInt32) pc ls st = some (pc', ls', st')) (hL : fe_L arr nL ls) (kk : fe_K p l e R s m args below meth c H locs cells slots Q nL pc' ls' st') : W p l e R s m args below meth c H locs cells slots Q (F0 m pc arr st) := by
  simp only [fe_b2] at hp
  split at hp
  · simp only [Option.some.injEq, Prod.mk.injEq] at hp
    obtain ⟨rfl, rfl, rfl⟩ := hp
    exact lv_iushr hx hb hd rfl (kk arr hL)
  · cases hp
theorem fe_q_land (hx : p.tables.exec = Jvm.exec) (hb : c.code = cc) (hd : decode cc pc = .ok (.land, 1)) (hp : fe_l2 (fun x y => x &&& y) pc ls st = some (pc', ls', st')) (hL : fe_L arr nL ls) (kk : fe_K p l e R s m args below meth c H locs cells slots Q nL pc' ls' st') : W p l e R s m args below meth c H locs cells slots Q (F0 m pc arr st) := by
  simp only [fe_l2] at hp
  split at hp
  · simp only [Option.some.injEq, Prod.mk.injEq] at hp
    obtain ⟨rfl, rfl, rfl⟩ := hp
    exact lv_land hx hb hd (kk arr hL)
  · cases hp
theorem fe_q_lor (hx : p.tables.exec = Jvm.exec) (hb : c.code = cc) (hd : decode cc pc = .ok (.lor, 1)) (hp : fe_l2 (fun x y => x ||| y) pc ls st = some (pc', ls', st')) (hL : fe_L arr nL ls) (kk : fe_K p l e R s m args below meth c H locs cells slots Q nL pc' ls' st') : W p l e R s m args below meth c H locs cells slots Q (F0 m pc arr st) := by
  simp only [fe_l2] at hp
  split at hp
  · simp only [Option.some.injEq, Prod.mk.injEq] at hp
    obtain ⟨rfl, rfl, rfl⟩ := hp
    exact lv_lor hx hb hd (kk arr hL)
  · cases hp
theorem fe_q_lshl (hx : p.tables.exec = Jvm.exec) (hb : c.code = cc) (hd : decode cc pc = .ok (.lshl, 1)) (hp : fe_s2 (fun x y => x <<< (y.toInt64 &&& 63)) pc ls st = some (pc', ls', st')) (hL : fe_L arr nL ls) (kk : fe_K p l e R s m args below meth c H locs cells slots Q nL pc' ls' st') : W p l e R s m args below meth c H locs cells slots Q (F0 m pc arr st) := by
  simp only [fe_s2] at hp
  split at hp
  · simp only [Option.some.injEq, Prod.mk.injEq] at hp
    obtain ⟨rfl, rfl, rfl⟩ := hp
    exact lv_lshl hx hb hd rfl (kk arr hL)
  · cases hp
theorem fe_q_lshr (hx : p.tables.exec = Jvm.exec) (hb : c.code = cc) (hd : decode cc pc = .ok (.lshr, 1)) (hp : fe_s2 (fun x y => x >>> (y.toInt64 &&& 63)) pc ls st = some (pc', ls', st')) (hL : fe_L arr nL ls) (kk : fe_K p l e R s m args below meth c H locs cells slots Q nL pc' ls' st') : W p l e R s m args below meth c H locs cells slots Q (F0 m pc arr st) := by
  simp only [fe_s2] at hp
  split at hp
  · simp only [Option.some.injEq, Prod.mk.injEq] at hp
    obtain ⟨rfl, rfl, rfl⟩ := hp
    exact lv_lshr hx hb hd rfl (kk arr hL)
  · cases hp
theorem fe_q_idiv (hx : p.tables.exec = Jvm.exec) (hb : c.code = cc) (hd : decode cc pc = .ok (.idiv, 1)) (hp : fe_d2 (fun x y => x / y) pc ls st = some (pc', ls', st')) (hL : fe_L arr nL ls) (kk : fe_K p l e R s m args below meth c H locs cells slots Q nL pc' ls' st') : W p l e R s m args below meth c H locs cells slots Q (F0 m pc arr st) := by
  simp only [fe_d2] at hp
  split at hp
  · split at hp
    · cases hp
    · next hne =>
      simp only [Option.some.injEq, Prod.mk.injEq] at hp
      obtain ⟨rfl, rfl, rfl⟩ := hp
      exact lv_idiv hx hb hd hne (kk arr hL)
  · cases hp
theorem fe_q_irem (hx : p.tables.exec = Jvm.exec) (hb : c.code = cc) (hd : decode cc pc = .ok (.irem, 1)) (hp : fe_d2 (fun x y => x - x / y * y) pc ls st = some (pc', ls', st')) (hL : fe_L arr nL ls) (kk : fe_K p l e R s m args below meth c H locs cells slots Q nL pc' ls' st') : W p l e R s m args below meth c H locs cells slots Q (F0 m pc arr st) := by
  simp only [fe_d2] at hp
  split at hp
  · split at hp
    · cases hp
    · next hne =>
      simp only [Option.some.injEq, Prod.mk.injEq] at hp
      obtain ⟨rfl, rfl, rfl⟩ := hp
      exact lv_irem hx hb hd hne (kk arr hL)
  · cases hp
theorem fe_q_if_eq (hx : p.tables.exec = Jvm.exec) (hb : c.code = cc) {off : Int} (hd : decode cc pc = .ok (.ifCond .eq off, 3)) (hp : fe_br1 (fe_c1 .eq) pc off ls st = some (pc', ls', st')) (hL : fe_L arr nL ls) (kk : fe_K p l e R s m args below meth c H locs cells slots Q nL pc' ls' st') : W p l e R s m args below meth c H locs cells slots Q (F0 m pc arr st) := by
  simp only [fe_br1] at hp
  split at hp
  · split at hp
    · next hok =>
      simp only [Option.some.injEq, Prod.mk.injEq] at hp
      obtain ⟨rfl, rfl, rfl⟩ := hp
      refine lv_if_eq hx hb hd (fe_okt_spec hok) (fun hc => ?_) (fun hc => ?_)
      · have k2 := kk arr hL
        rw [if_pos (show fe_c1 .eq _ = true from decide_eq_true hc)] at k2
        exact k2
      · have k2 := kk arr hL
        rw [if_neg (show ¬ fe_c1 .eq _ = true from fun h => hc (of_decide_eq_true h))] at k2
        exact k2
    · cases hp
  · cases hp
theorem fe_q_icmp_eq (hx : p.tables.exec = Jvm.exec) (hb : c.code = cc) {off : Int} (hd : decode cc pc = .ok (.if_icmp .eq off, 3)) (hp : fe_br2 (fe_c2 .eq) pc off ls st = some (pc', ls', st')) (hL : fe_L arr nL ls) (kk : fe_K p l e R s m args below meth c H locs cells slots Q nL pc' ls' st') : W p l e R s m args below meth c H locs cells slots Q (F0 m pc arr st) := by
  simp only [fe_br2] at hp
  split at hp
  · split at hp
    · next hok =>
      simp only [Option.some.injEq, Prod.mk.injEq] at hp
      obtain ⟨rfl, rfl, rfl⟩ := hp
      refine lv_icmp_eq hx hb hd (fe_okt_spec hok) (fun hc => ?_) (fun hc => ?_)
      · have k2 := kk arr hL
        rw [if_pos (show fe_c2 .eq _ _ = true from decide_eq_true hc)] at k2
        exact k2
      · have k2 := kk arr hL
        rw [if_neg (show ¬ fe_c2 .eq _ _ = true from fun h => hc (of_decide_eq_true h))] at k2
        exact k2
    · cases hp
  · cases hp
theorem fe_q_if_ne (hx : p.tables.exec = Jvm.exec) (hb : c.code = cc) {off : Int} (hd : decode cc pc = .ok (.ifCond .ne off, 3)) (hp : fe_br1 (fe_c1 .ne) pc off ls st = some (pc', ls', st')) (hL : fe_L arr nL ls) (kk : fe_K p l e R s m args below meth c H locs cells slots Q nL pc' ls' st') : W p l e R s m args below meth c H locs cells slots Q (F0 m pc arr st) := by
  simp only [fe_br1] at hp
  split at hp
  · split at hp
    · next hok =>
      simp only [Option.some.injEq, Prod.mk.injEq] at hp
      obtain ⟨rfl, rfl, rfl⟩ := hp
      refine lv_if_ne hx hb hd (fe_okt_spec hok) (fun hc => ?_) (fun hc => ?_)
      · have k2 := kk arr hL
        rw [if_pos (show fe_c1 .ne _ = true from decide_eq_true hc)] at k2
        exact k2
      · have k2 := kk arr hL
        rw [if_neg (show ¬ fe_c1 .ne _ = true from fun h => (of_decide_eq_true h) hc)] at k2
        exact k2
    · cases hp
  · cases hp
theorem fe_q_icmp_ne (hx : p.tables.exec = Jvm.exec) (hb : c.code = cc) {off : Int} (hd : decode cc pc = .ok (.if_icmp .ne off, 3)) (hp : fe_br2 (fe_c2 .ne) pc off ls st = some (pc', ls', st')) (hL : fe_L arr nL ls) (kk : fe_K p l e R s m args below meth c H locs cells slots Q nL pc' ls' st') : W p l e R s m args below meth c H locs cells slots Q (F0 m pc arr st) := by
  simp only [fe_br2] at hp
  split at hp
  · split at hp
    · next hok =>
      simp only [Option.some.injEq, Prod.mk.injEq] at hp
      obtain ⟨rfl, rfl, rfl⟩ := hp
      refine lv_icmp_ne hx hb hd (fe_okt_spec hok) (fun hc => ?_) (fun hc => ?_)
      · have k2 := kk arr hL
        rw [if_pos (show fe_c2 .ne _ _ = true from decide_eq_true hc)] at k2
        exact k2
      · have k2 := kk arr hL
        rw [if_neg (show ¬ fe_c2 .ne _ _ = true from fun h => (of_decide_eq_true h) hc)] at k2
        exact k2
    · cases hp
  · cases hp
theorem fe_q_if_lt (hx : p.tables.exec = Jvm.exec) (hb : c.code = cc) {off : Int} (hd : decode cc pc = .ok (.ifCond .lt off, 3)) (hp : fe_br1 (fe_c1 .lt) pc off ls st = some (pc', ls', st')) (hL : fe_L arr nL ls) (kk : fe_K p l e R s m args below meth c H locs cells slots Q nL pc' ls' st') : W p l e R s m args below meth c H locs cells slots Q (F0 m pc arr st) := by
  simp only [fe_br1] at hp
  split at hp
  · split at hp
    · next hok =>
      simp only [Option.some.injEq, Prod.mk.injEq] at hp
      obtain ⟨rfl, rfl, rfl⟩ := hp
      refine lv_if_lt hx hb hd (fe_okt_spec hok) (fun hc => ?_) (fun hc => ?_)
      · have k2 := kk arr hL
        rw [if_pos (show fe_c1 .lt _ = true from decide_eq_true hc)] at k2
        exact k2
      · have k2 := kk arr hL
        rw [if_neg (show ¬ fe_c1 .lt _ = true from fun h => hc (of_decide_eq_true h))] at k2
        exact k2
    · cases hp
  · cases hp
theorem fe_q_icmp_lt (hx : p.tables.exec = Jvm.exec) (hb : c.code = cc) {off : Int} (hd : decode cc pc = .ok (.if_icmp .lt off, 3)) (hp : fe_br2 (fe_c2 .lt) pc off ls st = some (pc', ls', st')) (hL : fe_L arr nL ls) (kk : fe_K p l e R s m args below meth c H locs cells slots Q nL pc' ls' st') : W p l e R s m args below meth c H locs cells slots Q (F0 m pc arr st) := by
  simp only [fe_br2] at hp
  split at hp
  · split at hp
    · next hok =>
      simp only [Option.some.injEq, Prod.mk.injEq] at hp
      obtain ⟨rfl, rfl, rfl⟩ := hp
      refine lv_icmp_lt hx hb hd (fe_okt_spec hok) (fun hc => ?_) (fun hc => ?_)
      · have k2 := kk arr hL
        rw [if_pos (show fe_c2 .lt _ _ = true from decide_eq_true hc)] at k2
        exact k2
      · have k2 := kk arr hL
        rw [if_neg (show ¬ fe_c2 .lt _ _ = true from fun h => hc (of_decide_eq_true h))] at k2
        exact k2
    · cases hp
  · cases hp
theorem fe_q_if_ge (hx : p.tables.exec = Jvm.exec) (hb : c.code = cc) {off : Int} (hd : decode cc pc = .ok (.ifCond .ge off, 3)) (hp : fe_br1 (fe_c1 .ge) pc off ls st = some (pc', ls', st')) (hL : fe_L arr nL ls) (kk : fe_K p l e R s m args below meth c H locs cells slots Q nL pc' ls' st') : W p l e R s m args below meth c H locs cells slots Q (F0 m pc arr st) := by
  simp only [fe_br1] at hp
  split at hp
  · split at hp
    · next hok =>
      simp only [Option.some.injEq, Prod.mk.injEq] at hp
      obtain ⟨rfl, rfl, rfl⟩ := hp
      refine lv_if_ge hx hb hd (fe_okt_spec hok) (fun hc => ?_) (fun hc => ?_)
      · have k2 := kk arr hL
        rw [if_pos (show fe_c1 .ge _ = true from decide_eq_true hc)] at k2
        exact k2
      · have k2 := kk arr hL
        rw [if_neg (show ¬ fe_c1 .ge _ = true from fun h => hc (of_decide_eq_true h))] at k2
        exact k2
    · cases hp
  · cases hp
theorem fe_q_icmp_ge (hx : p.tables.exec = Jvm.exec) (hb : c.code = cc) {off : Int} (hd : decode cc pc = .ok (.if_icmp .ge off, 3)) (hp : fe_br2 (fe_c2 .ge) pc off ls st = some (pc', ls', st')) (hL : fe_L arr nL ls) (kk : fe_K p l e R s m args below meth c H locs cells slots Q nL pc' ls' st') : W p l e R s m args below meth c H locs cells slots Q (F0 m pc arr st) := by
  simp only [fe_br2] at hp
  split at hp
  · split at hp
    · next hok =>
      simp only [Option.some.injEq, Prod.mk.injEq] at hp
      obtain ⟨rfl, rfl, rfl⟩ := hp
      refine lv_icmp_ge hx hb hd (fe_okt_spec hok) (fun hc => ?_) (fun hc => ?_)
      · have k2 := kk arr hL
        rw [if_pos (show fe_c2 .ge _ _ = true from decide_eq_true hc)] at k2
        exact k2
      · have k2 := kk arr hL
        rw [if_neg (show ¬ fe_c2 .ge _ _ = true from fun h => hc (of_decide_eq_true h))] at k2
        exact k2
    · cases hp
  · cases hp
theorem fe_q_if_gt (hx : p.tables.exec = Jvm.exec) (hb : c.code = cc) {off : Int} (hd : decode cc pc = .ok (.ifCond .gt off, 3)) (hp : fe_br1 (fe_c1 .gt) pc off ls st = some (pc', ls', st')) (hL : fe_L arr nL ls) (kk : fe_K p l e R s m args below meth c H locs cells slots Q nL pc' ls' st') : W p l e R s m args below meth c H locs cells slots Q (F0 m pc arr st) := by
  simp only [fe_br1] at hp
  split at hp
  · split at hp
    · next hok =>
      simp only [Option.some.injEq, Prod.mk.injEq] at hp
      obtain ⟨rfl, rfl, rfl⟩ := hp
      refine lv_if_gt hx hb hd (fe_okt_spec hok) (fun hc => ?_) (fun hc => ?_)
      · have k2 := kk arr hL
        rw [if_pos (show fe_c1 .gt _ = true from decide_eq_true hc)] at k2
        exact k2
      · have k2 := kk arr hL
        rw [if_neg (show ¬ fe_c1 .gt _ = true from fun h => hc (of_decide_eq_true h))] at k2
        exact k2
    · cases hp
  · cases hp
theorem fe_q_icmp_gt (hx : p.tables.exec = Jvm.exec) (hb : c.code = cc) {off : Int} (hd : decode cc pc = .ok (.if_icmp .gt off, 3)) (hp : fe_br2 (fe_c2 .gt) pc off ls st = some (pc', ls', st')) (hL : fe_L arr nL ls) (kk : fe_K p l e R s m args below meth c H locs cells slots Q nL pc' ls' st') : W p l e R s m args below meth c H locs cells slots Q (F0 m pc arr st) := by
  simp only [fe_br2] at hp
  split at hp
  · split at hp
    · next hok =>
      simp only [Option.some.injEq, Prod.mk.injEq] at hp
      obtain ⟨rfl, rfl, rfl⟩ := hp
      refine lv_icmp_gt hx hb hd (fe_okt_spec hok) (fun hc => ?_) (fun hc => ?_)
      · have k2 := kk arr hL
        rw [if_pos (show fe_c2 .gt _ _ = true from decide_eq_true hc)] at k2
        exact k2
      · have k2 := kk arr hL
        rw [if_neg (show ¬ fe_c2 .gt _ _ = true from fun h => hc (of_decide_eq_true h))] at k2
        exact k2
    · cases hp
  · cases hp
theorem fe_q_if_le (hx : p.tables.exec = Jvm.exec) (hb : c.code = cc) {off : Int} (hd : decode cc pc = .ok (.ifCond .le off, 3)) (hp : fe_br1 (fe_c1 .le) pc off ls st = some (pc', ls', st')) (hL : fe_L arr nL ls) (kk : fe_K p l e R s m args below meth c H locs cells slots Q nL pc' ls' st') : W p l e R s m args below meth c H locs cells slots Q (F0 m pc arr st) := by
  simp only [fe_br1] at hp
  split at hp
  · split at hp
    · next hok =>
      simp only [Option.some.injEq, Prod.mk.injEq] at hp
      obtain ⟨rfl, rfl, rfl⟩ := hp
      refine lv_if_le hx hb hd (fe_okt_spec hok) (fun hc => ?_) (fun hc => ?_)
      · have k2 := kk arr hL
        rw [if_pos (show fe_c1 .le _ = true from decide_eq_true hc)] at k2
        exact k2
      · have k2 := kk arr hL
        rw [if_neg (show ¬ fe_c1 .le _ = true from fun h => hc (of_decide_eq_true h))] at k2
        exact k2
    · cases hp
  · cases hp
theorem fe_q_icmp_le (hx : p.tables.exec = Jvm.exec) (hb : c.code = cc) {off : Int} (hd : decode cc pc = .ok (.if_icmp .le off, 3)) (hp : fe_br2 (fe_c2 .le) pc off ls st = some (pc', ls', st')) (hL : fe_L arr nL ls) (kk : fe_K p l e R s m args below meth c H locs cells slots Q nL pc' ls' st') : W p l e R s m args below meth c H locs cells slots Q (F0 m pc arr st) := by
  simp only [fe_br2] at hp
  split at hp
  · split at hp
    · next hok =>
      simp only [Option.some.injEq, Prod.mk.injEq] at hp
      obtain ⟨rfl, rfl, rfl⟩ := hp
      refine lv_icmp_le hx hb hd (fe_okt_spec hok) (fun hc => ?_) (fun hc => ?_)
      · have k2 := kk arr hL
        rw [if_pos (show fe_c2 .le _ _ = true from decide_eq_true hc)] at k2
        exact k2
      · have k2 := kk arr hL
        rw [if_neg (show ¬ fe_c2 .le _ _ = true from fun h => hc (of_decide_eq_true h))] at k2
        exact k2
    · cases hp
  · cases hp
theorem fe_q_sw (hx : p.tables.exec = Jvm.exec) (hb : c.code = cc) {dflt lo hi : Int} {offs : Array Int} {len : Nat} (hd : decode cc pc = .ok (.tableswitch dflt lo hi offs, len)) (hp : fe_sw dflt lo hi offs pc ls st = some (pc', ls', st')) (hL : fe_L arr nL ls) (kk : fe_K p l e R s m args below meth c H locs cells slots Q nL pc' ls' st') : W p l e R s m args below meth c H locs cells slots Q (F0 m pc arr st) := by
  unfold fe_sw at hp
  split at hp
  · split at hp
    · next hout =>
      split at hp
      · next hok =>
        simp only [Option.some.injEq, Prod.mk.injEq] at hp
        obtain ⟨rfl, rfl, rfl⟩ := hp
        exact lv_tableOut hx hb hd hout (fe_okt_spec hok) (kk arr hL)
      · cases hp
    · next hin =>
      split at hp
      · next off ho =>
        split at hp
        · next hok =>
          simp only [Option.some.injEq, Prod.mk.injEq] at hp
          obtain ⟨rfl, rfl, rfl⟩ := hp
          exact lv_tableIn hx hb hd (fun h => hin (Or.inl h)) (fun h => hin (Or.inr h)) ho (fe_okt_spec hok) (kk arr hL)
        · cases hp
      · cases hp
  · cases hp
set_option maxHeartbeats 4000000 in
theorem fe_pstep_ok (hx : p.tables.exec = Jvm.exec) (hb : c.code = cc) {i : Instr} (hd : decode cc pc = .ok (i, fe_len pc i)) (hp : fe_pstep i pc ls st = some (pc', ls', st')) (hL : fe_L arr nL ls) (kk : fe_K p l e R s m args below meth c H locs cells slots Q nL pc' ls' st') : W p l e R s m args below meth c H locs cells slots Q (F0 m pc arr st) := by
  cases i with
  | iconst n =>
    simp only [fe_pstep, Option.some.injEq, Prod.mk.injEq] at hp
    obtain ⟨rfl, rfl, rfl⟩ := hp
    exact lv_iconst hx hb hd rfl (kk arr hL)
  | bipush n =>
    simp only [fe_pstep, Option.some.injEq, Prod.mk.injEq] at hp
    obtain ⟨rfl, rfl, rfl⟩ := hp
    exact lv_bipush hx hb hd rfl (kk arr hL)
  | sipush n =>
    simp only [fe_pstep, Option.some.injEq, Prod.mk.injEq] at hp
    obtain ⟨rfl, rfl, rfl⟩ := hp
    exact lv_sipush hx hb hd rfl (kk arr hL)
  | lconst n =>
    simp only [fe_pstep, Option.some.injEq, Prod.mk.injEq] at hp
    obtain ⟨rfl, rfl, rfl⟩ := hp
    exact lv_lconst hx hb hd rfl (kk arr hL)
  | iload k => exact fe_q_iload hx hb hd hp hL kk
  | iload_n k => exact fe_q_iload_n hx hb hd hp hL kk
  | aload k => exact fe_q_aload hx hb hd hp hL kk
  | aload_n k => exact fe_q_aload_n hx hb hd hp hL kk
  | istore k => exact fe_q_istore hx hb hd hp hL kk
  | istore_n k => exact fe_q_istore_n hx hb hd hp hL kk
  | astore k => exact fe_q_astore hx hb hd hp hL kk
  | astore_n k => exact fe_q_astore_n hx hb hd hp hL kk
  | iinc k n => exact fe_q_iinc hx hb hd hp hL kk
  | iadd => exact fe_q_iadd hx hb hd hp hL kk
  | isub => exact fe_q_isub hx hb hd hp hL kk
  | imul => exact fe_q_imul hx hb hd hp hL kk
  | iand => exact fe_q_iand hx hb hd hp hL kk
  | ior => exact fe_q_ior hx hb hd hp hL kk
  | ixor => exact fe_q_ixor hx hb hd hp hL kk
  | ishl => exact fe_q_ishl hx hb hd hp hL kk
  | ishr => exact fe_q_ishr hx hb hd hp hL kk
  | iushr => exact fe_q_iushr hx hb hd hp hL kk
  | land => exact fe_q_land hx hb hd hp hL kk
  | lor => exact fe_q_lor hx hb hd hp hL kk
  | lshl => exact fe_q_lshl hx hb hd hp hL kk
  | lshr => exact fe_q_lshr hx hb hd hp hL kk
  | idiv => exact fe_q_idiv hx hb hd hp hL kk
  | irem => exact fe_q_irem hx hb hd hp hL kk
  | tableswitch dflt lo hi offs => exact fe_q_sw hx hb hd hp hL kk
  | ifCond c off => cases c <;> first | exact fe_q_if_eq hx hb hd hp hL kk | exact fe_q_if_ne hx hb hd hp hL kk | exact fe_q_if_lt hx hb hd hp hL kk | exact fe_q_if_ge hx hb hd hp hL kk | exact fe_q_if_gt hx hb hd hp hL kk | exact fe_q_if_le hx hb hd hp hL kk
  | if_icmp c off => cases c <;> first | exact fe_q_icmp_eq hx hb hd hp hL kk | exact fe_q_icmp_ne hx hb hd hp hL kk | exact fe_q_icmp_lt hx hb hd hp hL kk | exact fe_q_icmp_ge hx hb hd hp hL kk | exact fe_q_icmp_gt hx hb hd hp hL kk | exact fe_q_icmp_le hx hb hd hp hL kk
  | ineg =>
    simp only [fe_pstep] at hp
    split at hp
    · simp only [Option.some.injEq, Prod.mk.injEq] at hp
      obtain ⟨rfl, rfl, rfl⟩ := hp
      exact lv_ineg hx hb hd (kk arr hL)
    · cases hp
  | lcmp =>
    simp only [fe_pstep] at hp
    split at hp
    · simp only [Option.some.injEq, Prod.mk.injEq] at hp
      obtain ⟨rfl, rfl, rfl⟩ := hp
      exact W.lcmp hx hb hd (kk arr hL)
    · cases hp
  | i2l =>
    simp only [fe_pstep] at hp
    split at hp
    · simp only [Option.some.injEq, Prod.mk.injEq] at hp
      obtain ⟨rfl, rfl, rfl⟩ := hp
      exact lv_i2l hx hb hd rfl (kk arr hL)
    · cases hp
  | dup =>
    simp only [fe_pstep] at hp
    split at hp
    · simp only [Option.some.injEq, Prod.mk.injEq] at hp
      obtain ⟨rfl, rfl, rfl⟩ := hp
      exact lv_dup hx hb hd rfl (kk arr hL)
    · simp only [Option.some.injEq, Prod.mk.injEq] at hp
      obtain ⟨rfl, rfl, rfl⟩ := hp
      exact lv_dup hx hb hd rfl (kk arr hL)
    · cases hp
  | pop =>
    simp only [fe_pstep] at hp
    split at hp
    · simp only [Option.some.injEq, Prod.mk.injEq] at hp
      obtain ⟨rfl, rfl, rfl⟩ := hp
      exact lv_pop hx hb hd rfl (kk arr hL)
    · cases hp
  | dup2 =>
    simp only [fe_pstep] at hp
    split at hp
    · simp only [Option.some.injEq, Prod.mk.injEq] at hp
      obtain ⟨rfl, rfl, rfl⟩ := hp
      exact lv_dup2_11 hx hb hd rfl rfl (kk arr hL)
    · cases hp
  | goto off =>
    simp only [fe_pstep] at hp
    split at hp
    · next hok =>
      simp only [Option.some.injEq, Prod.mk.injEq] at hp
      obtain ⟨rfl, rfl, rfl⟩ := hp
      exact lv_goto hx hb hd (fe_okt_spec hok) (kk arr hL)
    · cases hp
  | ifnull off =>
    simp only [fe_pstep] at hp
    split at hp
    · split at hp
      · next hok =>
        simp only [Option.some.injEq, Prod.mk.injEq] at hp
        obtain ⟨rfl, rfl, rfl⟩ := hp
        exact lv_ifnullN hx hb hd (fe_okt_spec hok) (kk arr hL)
      · cases hp
    · simp only [Option.some.injEq, Prod.mk.injEq] at hp
      obtain ⟨rfl, rfl, rfl⟩ := hp
      exact lv_ifnull hx hb hd (kk arr hL)
    · cases hp
  | _ => simp [fe_pstep] at hp
end FeP
end
section
/-! the world: what the small heap says of the machine's, and what stands of the start -/
abbrev fe_D : Type := va_G × ClassId × ClassId × ClassId × ClassId
def fe_A (sz : Nat) : Nat → Prop := fun q => sz ≤ q
def fe_tys (D : fe_D) : List (ClassId × FieldType) := [(D.2.1, .int), (D.2.2.1, .boolean), (D.2.2.2.1, .long), (D.2.2.2.2, .object "FloorEyes$Eye")]
def fe_cell (D : fe_D) (a : Nat) (c : fe_C) (H : Heap) : Prop := match c with
  | .inl o => va_at D.1 vwCl (a, .inr o) H
  | .inr (.inl q) => H[a]? = some (arrV D.2.1 q.1 (fun j => .int (q.2 j)))
  | .inr (.inr (.inl q)) => H[a]? = some (arrV D.2.2.1 q.1 (fun j => .int (fe_bi (q.2 j))))
  | .inr (.inr (.inr (.inl q))) => H[a]? = some (arrV D.2.2.2.1 q.1 (fun j => .long (q.2 j)))
  | .inr (.inr (.inr (.inr q))) => H[a]? = some (arrV D.2.2.2.2 q.1 (fun j => va_rf (q.2 j)))
theorem fe_cell.kept {D : fe_D} {a : Nat} {c : fe_C} {H H1 : Heap} (h : fe_cell D a c H) (hq : H1[a]? = H[a]?) : fe_cell D a c H1 := by
  rcases c with o | q | q | q | q
  · exact va_at.kept (q := (a, .inr o)) h hq
  all_goals exact hq.trans h
theorem fe_cell.lt {D : fe_D} {a : Nat} {c : fe_C} {H : Heap} (h : fe_cell D a c H) : a < H.size := by
  rcases c with o | q | q | q | q
  · exact va_at.lt (q := (a, .inr o)) h
  all_goals exact (Array.getElem?_eq_some_iff.mp h).1
def fe_HR (D : fe_D) (sz : Nat) (h : fe_H) (H : Heap) : Prop := h.1 = H.size ∧ ∀ (a : Nat) (c : fe_C), fe_get h a = some c → sz ≤ a ∧ fe_cell D a c H
theorem fe_HR.put {D : fe_D} {sz a : Nat} {h : fe_H} {H H' : Heap} {c0 c : fe_C} (hr : fe_HR D sz h H) (ha : fe_get h a = some c0) (hc : fe_cell D a c H') (z : H'.size = H.size) (oq : ∀ q : Nat, q ≠ a → H'[q]? = H[q]?) : fe_HR D sz (fe_put h a c) H' := by
  refine ⟨hr.1.trans z.symm, fun b d hb => ?_⟩
  unfold fe_get fe_put at hb
  dsimp only at hb
  split at hb
  · next e => subst e; cases hb; exact ⟨(hr.2 b c0 ha).1, hc⟩
  · next e => exact ⟨(hr.2 b d hb).1, (hr.2 b d hb).2.kept (oq b e)⟩
theorem fe_HR.add {D : fe_D} {sz n : Nat} {h : fe_H} {H H' : Heap} {c : fe_C} (hr : fe_HR D sz h H) (hs : sz ≤ H.size) (hc : fe_cell D H.size c H') (z : H'.size = H.size + 1) (oq : ∀ q : Nat, q < H.size → H'[q]? = H[q]?) : fe_HR D sz (fe_add h n c) H' := by
  refine ⟨by show h.1 + 1 = _; rw [hr.1, z], fun b d hb => ?_⟩
  unfold fe_get fe_add at hb
  dsimp only at hb
  split at hb
  · next e => rw [hr.1] at e; subst e; cases hb; exact ⟨hs, hc⟩
  · next e => exact ⟨(hr.2 b d hb).1, (hr.2 b d hb).2.kept (oq b (hr.2 b d hb).2.lt)⟩
/-- what stands of the start, in the state U -/
def fe_EV (D : fe_D) (E : fe_E) (sz : Nat) (U : State) : Prop :=
  fe_wd U ∧ va_K D.1 vwCl (fe_tys D) U ∧ E.1 < sz ∧ va_X E.1 E.2.1 E.2.2.1 U U.heap ∧ va_Z "FloorEyes$Plan" "WITHOUT_BIT" "[J" (.ref E.2.2.2) (fe_A sz) U U.heap ∧ va_T .long E.2.2.2 6 (fun j => .long (fe_wb j)) (fe_A sz) U U.heap ∧
  vx_Zq Bundle.tN "UNASSIGNED_STACK" Bundle.steD (fe_A sz) U U.heap ∧ vx_Zq Bundle.tN "SUPPRESSED_SENTINEL" Bundle.listD (fe_A sz) U U.heap ∧ ((∀ q ∈ fe_xs, ∃ sa : Nat, vk_R (fe_cls q.1.1) q.1.2 q.2 sa U) ∧ va_Nc (fe_xn.getD 1 "") (fe_xn.getD 0 "") U ∧ va_Nc (fe_xn.getD 2 "") (fe_xn.getD 1 "") U) ∧ va_AO "FloorEyes$Eye" U ∧ sz ≤ U.heap.size
theorem fe_EV.moved {D : fe_D} {E : fe_E} {sz : Nat} {s U : State} (h : fe_EV D E sz s) (hW : s.WarmedH U.vm) (hz : s.heap.size ≤ U.heap.size) (hq : ∀ a : Nat, a < s.heap.size → ¬ fe_A sz a → U.heap[a]? = s.heap[a]?) : fe_EV D E sz U := by
  obtain ⟨h1, h2, h3, h4, h5, h6, h7, h8, h9, h10, h11⟩ := h
  have hal := hW.alike
  refine ⟨h1.moved hW, h2.moved hal, h3, ?_, va_Z.moved hal (h5.kept hq), va_T.moved hal (h6.kept hq), vx_Zq.moved hal (h7.kept hq), vx_Zq.moved hal (h8.kept hq), ⟨fun q hm => ?_, va_Nc.moved hal h9.2.1, va_Nc.moved hal h9.2.2⟩, h10.moved hal, Nat.le_trans h11 hz⟩
  · exact va_X.moved hal (h4.kept (hq _ (Nat.lt_of_lt_of_le h3 h11) (Nat.not_le.mpr h3)))
  · obtain ⟨sa, hs⟩ := h9.1 q hm
    exact ⟨sa, vk_R.warm hW hs⟩
/-- what holds of a method under way -/
def fe_G (p : Program) (l : Launch) (R : Room) (s : State) (m : MethodId) (meth : Method) (c : Code) (y : Nat) (D : fe_D) (E : fe_E) (sz : Nat) : Prop :=
  p.tables.exec = Jvm.exec ∧ c.code = fe_mB y ∧ c.maxLocals = fe_mL y ∧ meth.sig.returnType = fe_mR y ∧ meth.locks = false ∧ s.vm.findClass (fe_cls (fe_mC y)) = some m.cls ∧ c.exceptionTable.toList = tableOf (fe_mH y) ∧ (fe_mI y = true → meth.name = "<init>") ∧ fe_EV D E sz s ∧ fe_mF y ≤ R.frames ∧ fe_mW y ≤ R.locals ∧ l.stackTraces = false
theorem fe_look {α β : Type} [BEq α] [LawfulBEq α] {l : List (α × β)} {a : α} {b : β} (h : l.lookup a = some b) : (a, b) ∈ l := by
  induction l with
  | nil => cases h
  | cons q t ih =>
    rw [List.lookup_cons] at h
    split at h
    · next e => cases h; have := eq_of_beq e; rw [this]; exact List.mem_cons_self
    · exact List.mem_cons_of_mem _ (ih h)
theorem fe_vw_at (ci : Nat) (h : ci < 8) : vwCl[ci]? = some (fe_vw ci) := by
  match ci, h with
  | 0, _ => rfl
  | 1, _ => rfl
  | 2, _ => rfl
  | 3, _ => rfl
  | 4, _ => rfl
  | 5, _ => rfl
  | 6, _ => rfl
  | 7, _ => rfl
  | n + 8, h => omega
theorem fe_uw : ∀ ci ∈ List.range 8, ∀ w ∈ u_ws (fe_vw ci).1 (fe_vw ci).2.1 (fe_nf ci), fe_in w = true := by decide +kernel
theorem fe_pw : ∀ ci, ci < 8 → ∀ k, k < fe_nf ci → parseFieldDescriptor ((fe_vw ci).2.1 k).2.2.1 = some (fe_ty ci k) := by decide +kernel
theorem fe_nw_ap : ∀ ci, ci < 8 → ∀ a, a < fe_nf ci → ∀ b, b < fe_nf ci → a ≠ b → ((fe_vw ci).2.1 a).2.1 ≠ ((fe_vw ci).2.1 b).2.1 := by decide +kernel
theorem fe_ow : ∀ ci, ci < 8 → ∀ k, k < fe_nf ci → ((fe_vw ci).2.1 k).1 = (fe_vw ci).1 ∧ fe_cls ci = (fe_vw ci).1 := by decide +kernel
theorem fe_us {D : fe_D} {E : fe_E} {sz : Nat} {s : State} (h : fe_EV D E sz s) {ci : Nat} (hc : ci < 8) {args : Array Value} : ∀ w ∈ u_ws (fe_vw ci).1 (fe_vw ci).2.1 (fe_nf ci), w.before args s = true := fun w hw => h.1.ok (fe_uw ci (List.mem_range.mpr hc) w hw)
theorem fe_okV_spec {ty : FieldType} {v : Value} (h : fe_okV ty v = true) : narrow ty v = v ∧ fits ty v = true := by
  unfold fe_okV at h
  split at h
  · exact ⟨rfl, rfl⟩
  · next x =>
    simp only [Bool.or_eq_true, decide_eq_true_eq] at h
    rcases h with rfl | rfl <;> exact ⟨by decide, by decide⟩
  · exact ⟨rfl, rfl⟩
  · exact ⟨rfl, rfl⟩
  · exact ⟨rfl, rfl⟩
  · exact ⟨rfl, rfl⟩
  · cases h
theorem fe_inb_spec {i : Int32} {n : Nat} (h : fe_inb i n = true) : vp_in i n := by
  simp only [fe_inb, Bool.and_eq_true, decide_eq_true_eq] at h
  rintro (q | q)
  · exact absurd h.1 (Int32.not_le.mpr q)
  · omega
theorem fe_bi_tb (x : Int32) : fe_bi (fe_tb x) = x &&& 1 := by
  obtain ⟨j, hj, e⟩ := pk_andE x (m := 1) 1 (by decide)
  unfold fe_bi fe_tb
  rw [e]
  rcases (by omega : j = 0 ∨ j = 1) with rfl | rfl <;> decide
end
section
/-! the steps over the heap are the machine's -/
section FeH
variable {p : Program} {l : Launch} {e : Env} {R : Room} {s : State} {m : MethodId} {args : Array Value} {below : List Frame} {meth : Method} {c : Code} {H : Heap} {locs : List Loc} {cells slots : Nat} {Q : State → Prop}
variable {pc y sz : Nat} {arr : Array Slot} {D : fe_D} {E : fe_E} {h h' : fe_H} {r : List Value} {a : Nat}
/-- where a walk stands: the small heap is the machine's, nothing old has changed, there is room -/
def fe_X (D : fe_D) (sz : Nat) (R : Room) (s : State) (h : fe_H) (H : Heap) (locs : List Loc) (cells slots : Nat) : Prop := fe_HR D sz h H ∧ va_S (fe_A sz) s.heap H locs ∧ cells + h.2.1 ≤ R.cells ∧ slots + h.2.2.1 ≤ R.slots
abbrev fe_J1 (p : Program) (l : Launch) (e : Env) (R : Room) (s : State) (m : MethodId) (args : Array Value) (below : List Frame) (meth : Method) (c : Code) (Q : State → Prop) (D : fe_D) (sz : Nat) (g : JFrame) (h' : fe_H) : Prop := ∀ (H' : Heap) (locs' : List Loc) (cells' slots' : Nat), fe_X D sz R s h' H' locs' cells' slots' → W p l e R s m args below meth c H' locs' cells' slots' Q g
theorem fe_X.big {D : fe_D} {sz : Nat} {R : Room} {s : State} {h : fe_H} {H : Heap} {locs : List Loc} {cells slots : Nat} (hE : sz ≤ s.heap.size) (X : fe_X D sz R s h H locs cells slots) : sz ≤ H.size := Nat.le_trans hE X.2.1.1
theorem fe_gf_spec {ci k : Nat} {v : Value} (hg : fe_gf h a ci k = some v) : ∃ fs : List Value, fe_get h a = some (fe_O ci fs) ∧ fs[k]? = some v := by
  unfold fe_gf at hg
  split at hg
  · next cj fs he =>
    split at hg
    · next e => subst e; exact ⟨fs, he, hg⟩
    · cases hg
  · cases hg
theorem fe_w_get (G : fe_G p l R s m meth c y D E sz) (X : fe_X D sz R s h H locs cells slots) {idx ci k pos : Nat} {nest : Bool} {v : Value} (hf : fe_fl.lookup (fe_mC y, idx) = some (ci, k, nest, pos)) (hg : fe_gf h a ci k = some v) (hd : decode (fe_mB y) pc = .ok (.getfield idx, 3))
    (kk : W p l e R s m args below meth c H locs cells slots Q (F0 m (pc + 3) arr (v :: r))) : W p l e R s m args below meth c H locs cells slots Q (F0 m pc arr (.ref a :: r)) := by
  obtain ⟨hx, hb, -, -, -, hown, -, -, hE, -⟩ := G
  obtain ⟨fs, he, hv⟩ := fe_gf_spec hg
  obtain ⟨hw, hc, hk⟩ := fe_fl_in _ (fe_look hf)
  have hcell := (X.1.2 a _ he).2
  have hP : va_P D.1 vwCl [(a, .inr (ci, fs))] H := fun j q hj => by
    have : j < 1 := (List.getElem?_eq_some_iff.mp hj).1
    rw [show j = 0 by omega] at hj
    cases hj
    exact hcell
  cases nest with
  | false => exact va_get (D := D.1) (ci := ci) (C := (fe_vw ci).1) (T := (fe_vw ci).2.1) (N := fe_nf ci) hx hb (fe_us hE hc) (fun _ h => h) hown hE.2.1 hP 0 rfl (fe_vw_at ci hc) k hk (hE.1.at (w := fe_fw (fe_mC y) idx ci k false) hw) (fun _ h => h) hv hd kk
  | true => exact va_getN (D := D.1) (ci := ci) (C := (fe_vw ci).1) (T := (fe_vw ci).2.1) (N := fe_nf ci) hx hb (fe_us hE hc) (fun _ h => h) hown hE.2.1 hP 0 rfl (fe_vw_at ci hc) k hk (hE.1.at (w := fe_fw (fe_mC y) idx ci k true) hw) (fun _ h => h) hv hd kk
theorem fe_pf_spec {ci k : Nat} {v : Value} (hg : fe_pf h a ci k v = some h') : ∃ fs : List Value, fe_get h a = some (fe_O ci fs) ∧ k < fs.length ∧ h' = fe_put h a (fe_O ci (fs.set k v)) := by
  unfold fe_pf at hg
  split at hg
  · next cj fs he =>
    split at hg
    · next e => obtain ⟨rfl, e2⟩ := e; cases hg; exact ⟨fs, he, e2, rfl⟩
    · cases hg
  · cases hg
theorem fe_w_put (G : fe_G p l R s m meth c y D E sz) (X : fe_X D sz R s h H locs cells slots) {idx ci k pos : Nat} {nest : Bool} {v : Value} (hf : fe_fl.lookup (fe_mC y, idx) = some (ci, k, nest, pos)) (hok : (fe_okV (fe_ty ci k) v && (!(fe_fin ci k) || (fe_mI y && decide (fe_mC y = ci) && !nest))) = true) (hg : fe_pf h a ci k v = some h') (hd : decode (fe_mB y) pc = .ok (.putfield idx, 3))
    (kk : fe_J1 p l e R s m args below meth c Q D sz (F0 m (pc + 3) arr r) h') : W p l e R s m args below meth c H locs cells slots Q (F0 m pc arr (v :: .ref a :: r)) := by
  obtain ⟨hx, hb, -, -, -, hown, -, hini, hE, -⟩ := G
  obtain ⟨fs, he, hl, rfl⟩ := fe_pf_spec hg
  obtain ⟨hw, hc, hk⟩ := fe_fl_in _ (fe_look hf)
  have hcell : va_at D.1 vwCl (a, .inr (ci, fs)) H := (X.1.2 a _ he).2
  simp only [Bool.and_eq_true] at hok
  obtain ⟨hn, hfit⟩ := fe_okV_spec hok.1
  have hts := fe_us hE hc (args := args)
  have hin : ∀ w ∈ u_ws (fe_vw ci).1 (fe_vw ci).2.1 (fe_nf ci), w ∈ u_ws (fe_vw ci).1 (fe_vw ci).2.1 (fe_nf ci) := fun _ h => h
  have hcl := fe_vw_at ci hc
  have hd2 := fe_pw ci hc k hk
  have hap := va_apart (own := fe_cls (fe_mC y)) hts hin (fe_ty ci) (fe_pw ci hc) (fe_nw_ap ci hc) hE.2.1 hcl
  obtain ⟨r', h1, cell, q1, q2, q3, q4⟩ := hcell
  have hr : r' = ((fe_vw ci).1, (fe_vw ci).2.1, fe_nf ci) := Option.some.inj (h1.symm.trans hcl)
  subst hr
  obtain ⟨hS, hfc, kC, hkC, hkind⟩ := hE.2.1.1 ci _ hcl
  obtain ⟨cf, kf, fi, f, hi, hsl⟩ := hS k hk
  have hlay := hts _ (hin _ (u_in_lay hk))
  have hst := (u_facts hfc hkC (u_lays hts hin hk) hi).1
  have fin : ∀ (H' : Heap), H'[a]? = some (cell.setSlot (D.1.2 ci k) v) → H'.size = H.size → (∀ q, q ≠ a → H'[q]? = H[q]?) → fe_X D sz R s (fe_put h a (fe_O ci (fs.set k v))) H' (locs ++ [⟨a, D.1.2 ci k⟩]) cells slots := fun H' e1 e2 e3 =>
    ⟨X.1.put he (show va_at D.1 vwCl (a, .inr (ci, fs.set k v)) H' from ⟨_, hcl, t_OB.to (V := updV (vp_V fs) k v) ⟨_, e1, q2, q3, t_set q4 hap hk v⟩ (fun j _ => vp_updV_set hl v j)⟩) e2 e3, X.2.1.put e2 e3 (X.1.2 a _ he).1, X.2.2⟩
  cases hfin : fe_fin ci k with
  | false =>
    unfold u_lay at hlay
    rw [if_neg (by show ¬ ((fe_vw ci).2.1 k).2.2.2 = true; rw [show ((fe_vw ci).2.1 k).2.2.2 = false from hfin]; decide)] at hlay
    have h6 := u_store hfc hkC hkind hlay hi hd2 hn hfit
    cases nest with
    | false =>
      refine W.putK hx hb (f := f) ⟨hown, hE.1.at (w := fe_fw (fe_mC y) idx ci k false) hw, ⟨_, _, _, hi⟩, hst⟩ (by rw [q2]; exact h6) q1 q3 (by rw [hsl]; exact k2_hasslot (q4 k hk)) rfl rfl hd fun H' e1 e2 e3 => ?_
      rw [hsl] at e1 ⊢
      exact kk H' _ _ _ (fin H' e1 e2 e3)
    | true =>
      refine va_WputK hx hb (f := f) hown (hE.1.at (w := fe_fw (fe_mC y) idx ci k true) hw) hi hst (by rw [q2]; exact h6) q1 q3 (by rw [hsl]; exact k2_hasslot (q4 k hk)) rfl rfl hd fun H' e1 e2 e3 => ?_
      rw [hsl] at e1 ⊢
      exact kk H' _ _ _ (fin H' e1 e2 e3)
  | true =>
    have h2 := hok.2
    rw [hfin] at h2
    simp only [Bool.not_true, Bool.false_or, Bool.and_eq_true, decide_eq_true_eq, Bool.not_eq_true'] at h2
    obtain ⟨⟨hI, hcy⟩, rfl⟩ := h2
    unfold u_lay at hlay
    rw [if_pos (show ((fe_vw ci).2.1 k).2.2.2 = true from hfin)] at hlay
    have hcf : m.cls = cf := by
      obtain ⟨_, _, c', _, _, _, -, -, hf', -, -, -, hown2, -⟩ := Cond.laysFinal_spec hlay
      have e1 : c' = cf := by have := hi.symm.trans hf'; simp at this; exact this.1.symm
      rw [(fe_ow ci hc k hk).1, ← (fe_ow ci hc k hk).2, ← hcy] at hown2
      rw [← e1]; exact Option.some.inj (hown.symm.trans hown2)
    have h6 := u_fits hfc hkC hkind (Or.inr hlay) hi hd2 hn hfit
    refine W.putFinK hx hb hown (hE.1.at (w := fe_fw (fe_mC y) idx ci k false) hw) hi hst hcf (hini hI) (by rw [q2]; exact h6) q1 q3 (by rw [hsl]; exact k2_hasslot (q4 k hk)) rfl rfl hd fun H' e1 e2 e3 => ?_
    rw [hsl] at e1 ⊢
    exact kk H' _ _ _ (fin H' e1 e2 e3)
theorem fe_w_ial (G : fe_G p l R s m meth c y D E sz) (X : fe_X D sz R s h H locs cells slots) {i x : Int32} (hg : fe_ia E h a i = some x) (hd : decode (fe_mB y) pc = .ok (.iaload, 1))
    (kk : W p l e R s m args below meth c H locs cells slots Q (F0 m (pc + 1) arr (.int x :: r))) : W p l e R s m args below meth c H locs cells slots Q (F0 m pc arr (.int i :: .ref a :: r)) := by
  obtain ⟨hx, hb, -, -, -, -, -, -, hE, -⟩ := G
  unfold fe_ia at hg
  split at hg
  · next n f he =>
    split at hg
    · next hin =>
      cases hg
      have hv := fe_inb_spec hin
      have hlt : i.toNatClampNeg < n := Nat.not_le.mp fun q => hv (Or.inr q)
      exact W.iald (v := .int (f i.toNatClampNeg)) hx hb (X.1.2 a _ he).2 ((hE.2.1.2 0 _ rfl).1 n (fun j => .int (f j))) (fun q => by cases q) (by rw [arrV_size]; exact hv) (by rw [arrV_read _ _ hlt]) rfl rfl hd kk
    · cases hg
  · split at hg
    · next hin =>
      obtain ⟨rfl, hin⟩ := hin
      cases hg
      exact va_sld hx hb hE.2.2.2.1 (Nat.lt_of_lt_of_le hE.2.2.1 hE.2.2.2.2.2.2.2.2.2.2) (Nat.not_le.mpr hE.2.2.1) X.2.1 (fe_inb_spec hin) hd kk
    · cases hg
  · cases hg
theorem fe_w_zal (G : fe_G p l R s m meth c y D E sz) (X : fe_X D sz R s h H locs cells slots) {i : Int32} {x : Bool} (hg : fe_za h a i = some x) (hd : decode (fe_mB y) pc = .ok (.baload, 1))
    (kk : W p l e R s m args below meth c H locs cells slots Q (F0 m (pc + 1) arr (.int (fe_bi x) :: r))) : W p l e R s m args below meth c H locs cells slots Q (F0 m pc arr (.int i :: .ref a :: r)) := by
  obtain ⟨hx, hb, -, -, -, -, -, -, hE, -⟩ := G
  unfold fe_za at hg
  split at hg
  · next n f he =>
    split at hg
    · next hin =>
      cases hg
      have hv := fe_inb_spec hin
      have hlt : i.toNatClampNeg < n := Nat.not_le.mp fun q => hv (Or.inr q)
      exact W.zald (v := .int (fe_bi (f i.toNatClampNeg))) hx hb (X.1.2 a _ he).2 ((hE.2.1.2 1 _ rfl).1 n (fun j => .int (fe_bi (f j)))) (fun q => by cases q) (by rw [arrV_size]; exact hv) (by rw [arrV_read _ _ hlt]) rfl rfl hd kk
    · cases hg
  · cases hg
theorem fe_w_jal (G : fe_G p l R s m meth c y D E sz) (X : fe_X D sz R s h H locs cells slots) {i : Int32} {x : Int64} (hg : fe_ja E h a i = some x) (hd : decode (fe_mB y) pc = .ok (.laload, 1))
    (kk : W p l e R s m args below meth c H locs cells slots Q (F0 m (pc + 1) arr (.long x :: r))) : W p l e R s m args below meth c H locs cells slots Q (F0 m pc arr (.int i :: .ref a :: r)) := by
  obtain ⟨hx, hb, -, -, -, -, -, -, hE, -⟩ := G
  unfold fe_ja at hg
  split at hg
  · next n f he =>
    split at hg
    · next hin =>
      cases hg
      have hv := fe_inb_spec hin
      have hlt : i.toNatClampNeg < n := Nat.not_le.mp fun q => hv (Or.inr q)
      exact W.lald (v := .long (f i.toNatClampNeg)) hx hb (X.1.2 a _ he).2 ((hE.2.1.2 2 _ rfl).1 n (fun j => .long (f j))) (fun q => by cases q) (by rw [arrV_size]; exact hv) (by rw [arrV_read _ _ hlt]) rfl rfl hd kk
    · cases hg
  · split at hg
    · next hin =>
      obtain ⟨rfl, hin⟩ := hin
      cases hg
      exact va_tl hx hb hE.2.2.2.2.2.1 X.2.1 (fe_inb_spec hin) rfl hd kk
    · cases hg
  · cases hg
theorem fe_w_qal (G : fe_G p l R s m meth c y D E sz) (X : fe_X D sz R s h H locs cells slots) {i : Int32} {x : Value} (hg : fe_qa h a i = some x) (hd : decode (fe_mB y) pc = .ok (.aaload, 1))
    (kk : W p l e R s m args below meth c H locs cells slots Q (F0 m (pc + 1) arr (x :: r))) : W p l e R s m args below meth c H locs cells slots Q (F0 m pc arr (.int i :: .ref a :: r)) := by
  obtain ⟨hx, hb, -, -, -, -, -, -, hE, -⟩ := G
  unfold fe_qa at hg
  split at hg
  · next n f he =>
    split at hg
    · next hin =>
      cases hg
      have hv := fe_inb_spec hin
      have hlt : i.toNatClampNeg < n := Nat.not_le.mp fun q => hv (Or.inr q)
      exact W.aald (v := va_rf (f i.toNatClampNeg)) (ty := .object "FloorEyes$Eye") hx hb (X.1.2 a _ he).2 ((hE.2.1.2 3 _ rfl).1 n (fun j => va_rf (f j))) rfl (fun q => by cases q) (by rw [arrV_size]; exact hv) (by rw [arrV_read _ _ hlt]) rfl rfl hd kk
    · cases hg
  · cases hg
theorem fe_w_len (G : fe_G p l R s m meth c y D E sz) (X : fe_X D sz R s h H locs cells slots) {n : Nat} (hg : fe_ln E h a = some n) (hd : decode (fe_mB y) pc = .ok (.arraylength, 1))
    (kk : W p l e R s m args below meth c H locs cells slots Q (F0 m (pc + 1) arr (.int (Int32.ofNat n) :: r))) : W p l e R s m args below meth c H locs cells slots Q (F0 m pc arr (.ref a :: r)) := by
  obtain ⟨hx, hb, -, -, -, -, -, -, hE, -⟩ := G
  unfold fe_ln at hg
  split at hg
  · next n f he =>
    cases hg
    exact W.alen (n := Int32.ofNat n) hx hb (X.1.2 a _ he).2 ((hE.2.1.2 0 _ rfl).1 n (fun j => .int (f j))) (by rw [arrV_size] <;> rfl) rfl rfl hd kk
  · next n f he =>
    cases hg
    exact W.alen (n := Int32.ofNat n) hx hb (X.1.2 a _ he).2 ((hE.2.1.2 1 _ rfl).1 n (fun j => .int (fe_bi (f j)))) (by rw [arrV_size] <;> rfl) rfl rfl hd kk
  · next n f he =>
    cases hg
    exact W.alen (n := Int32.ofNat n) hx hb (X.1.2 a _ he).2 ((hE.2.1.2 2 _ rfl).1 n (fun j => .long (f j))) (by rw [arrV_size] <;> rfl) rfl rfl hd kk
  · next n f he =>
    cases hg
    exact W.alen (n := Int32.ofNat n) hx hb (X.1.2 a _ he).2 ((hE.2.1.2 3 _ rfl).1 n (fun j => va_rf (f j))) (by rw [arrV_size] <;> rfl) rfl rfl hd kk
  · split at hg
    · next e =>
      subst e
      cases hg
      exact va_slen hx hb hE.2.2.2.1 (Nat.lt_of_lt_of_le hE.2.2.1 hE.2.2.2.2.2.2.2.2.2.2) (Nat.not_le.mpr hE.2.2.1) X.2.1 hd kk
    · cases hg
  · cases hg
theorem fe_w_ias (G : fe_G p l R s m meth c y D E sz) (X : fe_X D sz R s h H locs cells slots) {i x : Int32} (hg : fe_is h a i x = some h') (hd : decode (fe_mB y) pc = .ok (.iastore, 1))
    (kk : fe_J1 p l e R s m args below meth c Q D sz (F0 m (pc + 1) arr r) h') : W p l e R s m args below meth c H locs cells slots Q (F0 m pc arr (.int x :: .int i :: .ref a :: r)) := by
  obtain ⟨hx, hb, -, -, -, -, -, -, hE, -⟩ := G
  unfold fe_is at hg
  split at hg
  · next n f he =>
    split at hg
    · next hin =>
      cases hg
      have hv := fe_inb_spec hin
      refine W.iast hx hb (X.1.2 a _ he).2 ((hE.2.1.2 0 _ rfl).1 n (fun j => .int (f j))) (fun q => by cases q) (by rw [arrV_size]; exact hv) rfl rfl hd fun H1 e z oq => ?_
      refine kk H1 _ _ _ ⟨X.1.put he ?_ z oq, X.2.1.put z oq (X.1.2 a _ he).1, X.2.2⟩
      show H1[a]? = some (arrV _ _ _)
      rw [e, arrV_store]
      congr 2
      funext q
      by_cases hq : q = i.toNatClampNeg
      · subst hq
        simp [updV, upd]
      · simp [updV, upd, hq]
    · cases hg
  · cases hg
theorem fe_w_zas (G : fe_G p l R s m meth c y D E sz) (X : fe_X D sz R s h H locs cells slots) {i x : Int32} (hg : fe_zs h a i x = some h') (hd : decode (fe_mB y) pc = .ok (.bastore, 1))
    (kk : fe_J1 p l e R s m args below meth c Q D sz (F0 m (pc + 1) arr r) h') : W p l e R s m args below meth c H locs cells slots Q (F0 m pc arr (.int x :: .int i :: .ref a :: r)) := by
  obtain ⟨hx, hb, -, -, -, -, -, -, hE, -⟩ := G
  unfold fe_zs at hg
  split at hg
  · next n f he =>
    split at hg
    · next hin =>
      cases hg
      have hv := fe_inb_spec hin
      refine W.zast hx hb (X.1.2 a _ he).2 ((hE.2.1.2 1 _ rfl).1 n (fun j => .int (fe_bi (f j)))) (fun q => by cases q) (by rw [arrV_size]; exact hv) rfl rfl hd fun H1 e z oq => ?_
      refine kk H1 _ _ _ ⟨X.1.put he ?_ z oq, X.2.1.put z oq (X.1.2 a _ he).1, X.2.2⟩
      show H1[a]? = some (arrV _ _ _)
      rw [e, arrV_store]
      congr 2
      funext q
      by_cases hq : q = i.toNatClampNeg
      · subst hq
        simp [updV, fe_ub, fe_bi_tb, narrow]
      · simp [updV, fe_ub, hq]
    · cases hg
  · cases hg
theorem fe_w_jas (G : fe_G p l R s m meth c y D E sz) (X : fe_X D sz R s h H locs cells slots) {i : Int32} {x : Int64} (hg : fe_js h a i x = some h') (hd : decode (fe_mB y) pc = .ok (.lastore, 1))
    (kk : fe_J1 p l e R s m args below meth c Q D sz (F0 m (pc + 1) arr r) h') : W p l e R s m args below meth c H locs cells slots Q (F0 m pc arr (.long x :: .int i :: .ref a :: r)) := by
  obtain ⟨hx, hb, -, -, -, -, -, -, hE, -⟩ := G
  unfold fe_js at hg
  split at hg
  · next n f he =>
    split at hg
    · next hin =>
      cases hg
      have hv := fe_inb_spec hin
      refine W.last hx hb (X.1.2 a _ he).2 ((hE.2.1.2 2 _ rfl).1 n (fun j => .long (f j))) (fun q => by cases q) (by rw [arrV_size]; exact hv) rfl rfl hd fun H1 e z oq => ?_
      refine kk H1 _ _ _ ⟨X.1.put he ?_ z oq, X.2.1.put z oq (X.1.2 a _ he).1, X.2.2⟩
      show H1[a]? = some (arrV _ _ _)
      rw [e, arrV_store]
      congr 2
      funext q
      by_cases hq : q = i.toNatClampNeg
      · subst hq
        simp [updV, vp_updL]
      · simp [updV, vp_updL, hq]
    · cases hg
  · cases hg
theorem fe_w_qas (G : fe_G p l R s m meth c y D E sz) (X : fe_X D sz R s h H locs cells slots) {i : Int32} {x : Nat} (hg : fe_qs h a i x = some h') (hd : decode (fe_mB y) pc = .ok (.aastore, 1))
    (kk : fe_J1 p l e R s m args below meth c Q D sz (F0 m (pc + 1) arr r) h') : W p l e R s m args below meth c H locs cells slots Q (F0 m pc arr (.ref x :: .int i :: .ref a :: r)) := by
  obtain ⟨hx, hb, -, -, -, -, -, -, hE, -⟩ := G
  unfold fe_qs at hg
  split at hg
  · next n f vs he hvx =>
    split at hg
    · next hin =>
      cases hg
      have hv := fe_inb_spec hin
      have hlt : i.toNatClampNeg < n := Nat.not_le.mp fun q => hv (Or.inr q)
      have h0 : ¬ i < 0 := fun q => hv (Or.inl q)
      obtain ⟨r', hr', cellV, g1, g2, g3, -⟩ : va_at D.1 vwCl (x, .inr (1, vs)) H := (X.1.2 x _ hvx).2
      have hcls := (hE.2.1.1 1 _ (fe_vw_at 1 (by decide))).2
      obtain ⟨kA, comp, k1, k2, k3, -⟩ := (hE.2.1.2 3 _ rfl).2
      have hcomp : comp = D.1.1 1 := Option.some.inj (k3.symm.trans hcls.1)
      subst hcomp
      obtain ⟨kC, hkC, -⟩ := hcls.2
      refine W.aast hx hb (X.1.2 a _ he).2 (fun q h => by cases h) (fun h => by cases h) k1 k2 rfl hkC ⟨h0, by rw [arrV_size]; exact hlt⟩ g1 (fun q h => by rw [g3] at h; cases h) (by rw [g2]; exact hkC) (by rw [g2]; exact va_assign hcls) rfl rfl hd fun H1 e z oq => ?_
      refine kk H1 _ _ _ ⟨X.1.put he ?_ z oq, X.2.1.put z oq (X.1.2 a _ he).1, X.2.2⟩
      show H1[a]? = some (arrV _ _ _)
      rw [e, arrV_store]
      congr 2
      funext q
      by_cases hq : q = i.toNatClampNeg
      · subst hq
        simp [updV, va_up, va_rf]
      · simp [updV, va_up, hq]
    · cases hg
  · cases hg
end FeH
end
section
section FeN
variable {p : Program} {l : Launch} {e : Env} {R : Room} {s : State} {m : MethodId} {args : Array Value} {below : List Frame} {meth : Method} {c : Code} {H : Heap} {locs : List Loc} {cells slots : Nat} {Q : State → Prop}
variable {pc y sz : Nat} {arr : Array Slot} {D : fe_D} {E : fe_E} {h h' : fe_H} {r st st' : List Value} {a : Nat}
theorem fe_nw_spec {h : fe_H} {n : Nat} (hn : fe_nw h n = true) : 1 ≤ h.2.1 ∧ n ≤ h.2.2.1 := by
  simp only [fe_nw, Bool.and_eq_true, decide_eq_true_eq] at hn
  exact hn
theorem fe_X.add {n : Nat} {H' : Heap} {k : fe_C} (hE : sz ≤ s.heap.size) (X : fe_X D sz R s h H locs cells slots) (hn : fe_nw h n = true) (hc : fe_cell D H.size k H') (z : H'.size = H.size + 1) (oq : ∀ q : Nat, q < H.size → H'[q]? = H[q]?) : fe_X D sz R s (fe_add h n k) H' locs (cells + 1) (slots + n) := by
  obtain ⟨h1, h2⟩ := fe_nw_spec hn
  obtain ⟨hr, hS, x1, x2⟩ := X
  refine ⟨hr.add (Nat.le_trans hE hS.1) hc z oq, ⟨Nat.le_trans hS.1 (by omega), fun q a1 a2 => (oq q (Nat.lt_of_lt_of_le a1 hS.1)).trans (hS.2.1 q a1 a2), hS.2.2⟩, ?_, ?_⟩
  · show cells + 1 + (h.2.1 - 1) ≤ R.cells
    omega
  · show slots + n + (h.2.2.1 - n) ≤ R.slots
    omega
theorem fe_df_V : ∀ ci, ci < 8 → ∀ j, j < fe_nf ci → defaultValue (fe_ty ci j) = vp_V (fe_df ci) j := by decide +kernel
theorem fe_w_new (G : fe_G p l R s m meth c y D E sz) (X : fe_X D sz R s h H locs cells slots) {idx ci : Nat} (hf : fe_nl.lookup (fe_mC y, idx) = some ci) (hn : fe_nw h (fe_nf ci) = true) (hd : decode (fe_mB y) pc = .ok (.new idx, 3))
    (kk : fe_J1 p l e R s m args below meth c Q D sz (F0 m (pc + 3) arr (.ref h.1 :: st)) (fe_add h (fe_nf ci) (fe_O ci (fe_df ci)))) : W p l e R s m args below meth c H locs cells slots Q (F0 m pc arr st) := by
  obtain ⟨hx, hb, -, -, -, hown, -, -, hE, -⟩ := G
  obtain ⟨hc, w1, w2, w3⟩ := fe_nl_in _ (fe_look hf)
  have w2 : fe_in (.instantiable (fe_vw ci).1 (fe_nf ci)) = true := w2
  have hcl := fe_vw_at ci hc
  have hKn := hE.2.1.1 ci _ hcl
  obtain ⟨h1, h2⟩ := fe_nw_spec hn
  refine W.newcK hx hb hown (hE.1.ok w1) (hE.1.ok w2) (hE.1.ok w3) rfl hd (by have := X.2.2.1; omega) (by have := X.2.2.2; omega) hKn.2.1 rfl fun H1 kC hkC e1 z1 o1 => ?_
  have k2 := kk H1 locs (cells + 1) (slots + fe_nf ci) (X.add hE.2.2.2.2.2.2.2.2.2.2 hn (show va_at D.1 vwCl (H.size, .inr (ci, fe_df ci)) H1 from ⟨_, hcl, (u_born (fe_ty ci) (fe_us hE hc (args := args)) (fun _ h => h) hKn hkC e1 (fe_pw ci hc)).to (fe_df_V ci hc)⟩) z1 o1)
  rw [X.1.1] at k2
  exact k2
theorem fe_w_na (G : fe_G p l R s m meth c y D E sz) (X : fe_X D sz R s h H locs cells slots) {t : ArrayType} {n : Int32} {k : fe_C} (h0 : 0 ≤ n) (hN : n.toNatClampNeg ≤ 1000000) (hn : fe_nw h n.toNatClampNeg = true) (hk : fe_na t n.toNatClampNeg = some k) (hd : decode (fe_mB y) pc = .ok (.newarray t, 2))
    (kk : fe_J1 p l e R s m args below meth c Q D sz (F0 m (pc + 2) arr (.ref h.1 :: r)) (fe_add h n.toNatClampNeg k)) : W p l e R s m args below meth c H locs cells slots Q (F0 m pc arr (.int n :: r)) := by
  obtain ⟨hx, hb, -, -, -, hown, -, -, hE, -⟩ := G
  obtain ⟨h1, h2⟩ := fe_nw_spec hn
  have hK := hE.2.1.2
  have c1 : cells + 1 ≤ R.cells := by have := X.2.2.1; omega
  have c2 : slots + n.toNatClampNeg ≤ R.slots := by have := X.2.2.2; omega
  have hneg : ¬ n < 0 := Int32.not_lt.mpr h0
  unfold fe_na at hk
  split at hk
  · cases hk
    refine va_newaK (atype := .int) hx hb (hE.1.ok (w := .arrayClass .int) (by decide +kernel)) rfl hd rfl hneg rfl (by simp only [newarray.typeOf, componentBytes]; omega) c1 c2 rfl fun H1 cA e1 z1 o1 hAr hNm => ?_
    have hcA : cA = D.2.1 := Option.some.inj (hNm.symm.trans (hK 0 _ rfl).2)
    subst hcA
    have k2 := kk H1 locs (cells + 1) (slots + n.toNatClampNeg) (X.add hE.2.2.2.2.2.2.2.2.2.2 hn (show H1[H.size]? = some _ from e1) z1 o1)
    rw [X.1.1] at k2
    exact k2
  · cases hk
    refine va_newaK (atype := .boolean) hx hb (hE.1.ok (w := .arrayClass .boolean) (by decide +kernel)) rfl hd rfl hneg rfl (by simp only [newarray.typeOf, componentBytes]; omega) c1 c2 rfl fun H1 cA e1 z1 o1 hAr hNm => ?_
    have hcA : cA = D.2.2.1 := Option.some.inj (hNm.symm.trans (hK 1 _ rfl).2)
    subst hcA
    have k2 := kk H1 locs (cells + 1) (slots + n.toNatClampNeg) (X.add hE.2.2.2.2.2.2.2.2.2.2 hn (show H1[H.size]? = some _ from e1) z1 o1)
    rw [X.1.1] at k2
    exact k2
  · cases hk
    refine va_newaK (atype := .long) hx hb (hE.1.ok (w := .arrayClass .long) (by decide +kernel)) rfl hd rfl hneg rfl (by simp only [newarray.typeOf, componentBytes]; omega) c1 c2 rfl fun H1 cA e1 z1 o1 hAr hNm => ?_
    have hcA : cA = D.2.2.2.1 := Option.some.inj (hNm.symm.trans (hK 2 _ rfl).2)
    subst hcA
    have k2 := kk H1 locs (cells + 1) (slots + n.toNatClampNeg) (X.add hE.2.2.2.2.2.2.2.2.2.2 hn (show H1[H.size]? = some _ from e1) z1 o1)
    rw [X.1.1] at k2
    exact k2
  · cases hk
theorem fe_w_nq (G : fe_G p l R s m meth c y D E sz) (X : fe_X D sz R s h H locs cells slots) (hy : fe_mC y = 6) {n : Int32} (h0 : 0 ≤ n) (hN : n.toNatClampNeg ≤ 1000000) (hn : fe_nw h n.toNatClampNeg = true) (hd : decode (fe_mB y) pc = .ok (.anewarray 16, 3))
    (kk : fe_J1 p l e R s m args below meth c Q D sz (F0 m (pc + 3) arr (.ref h.1 :: r)) (fe_add h n.toNatClampNeg (fe_Q n.toNatClampNeg (fun _ => none)))) : W p l e R s m args below meth c H locs cells slots Q (F0 m pc arr (.int n :: r)) := by
  obtain ⟨hx, hb, -, -, -, hown, -, -, hE, -⟩ := G
  obtain ⟨h1, h2⟩ := fe_nw_spec hn
  have c1 : cells + 1 ≤ R.cells := by have := X.2.2.1; omega
  have c2 : slots + n.toNatClampNeg ≤ R.slots := by have := X.2.2.2; omega
  have hneg : ¬ n < 0 := Int32.not_lt.mpr h0
  rw [hy] at hown
  refine W.anew hx hb hown (hE.1.ok (w := .classLink (fe_cls 6) 16 "FloorEyes$Eye") (by decide +kernel)) (va_AO.use hE.2.2.2.2.2.2.2.2.2.1) rfl hd rfl hneg (by omega) c1 c2 fun cA kA comp f1 f2 f3 f4 => ?_
  obtain ⟨kA', comp', k1, k2', k3, k4⟩ := (hE.2.1.2 3 _ rfl).2
  have hcA : cA = D.2.2.2.2 := Option.some.inj (f1.symm.trans k4)
  subst hcA
  have k2 := kk _ locs (cells + 1) (slots + n.toNatClampNeg) (X.add hE.2.2.2.2.2.2.2.2.2.2 (H' := H.push ({ cls := D.2.2.2.2, slots := Array.replicate n.toNatClampNeg .null, vm := .none } : Cell)) hn (show (H.push _)[H.size]? = some (arrV D.2.2.2.2 n.toNatClampNeg (fun _ => .null)) by rw [Array.getElem?_push_size, ← arrV_new]) (by rw [Array.size_push]) (fun q hq => by rw [Array.getElem?_push, if_neg (Nat.ne_of_lt hq)]))
  rw [X.1.1] at k2
  exact k2
theorem fe_cat (st : List Value) : (st.map fun v => v.category).sum ≤ 2 * st.length := by
  induction st with
  | nil => exact Nat.le_refl _
  | cons v t ih =>
    simp only [List.map_cons, List.sum_cons, List.length_cons]
    rcases lv_cat v with hv | hv <;> omega
set_option maxHeartbeats 4000000 in
theorem fe_hstep_ok (G : fe_G p l R s m meth c y D E sz) (X : fe_X D sz R s h H locs cells slots) {i : Instr} (hd : decode (fe_mB y) pc = .ok (i, fe_len pc i)) (hs : fe_hstep E y i st h = some (st', h')) (harr : arr.size = fe_mL y)
    (kk : fe_J1 p l e R s m args below meth c Q D sz (F0 m (pc + fe_len pc i) arr st') h') : W p l e R s m args below meth c H locs cells slots Q (F0 m pc arr st) := by
  cases i with
  | getfield idx =>
    simp only [fe_hstep] at hs
    split at hs
    · split at hs
      · next hf =>
        simp only [Option.map_eq_some_iff, Prod.mk.injEq] at hs
        obtain ⟨v, hv, rfl, rfl⟩ := hs
        exact fe_w_get G X hf hv hd (kk _ _ _ _ X)
      · cases hs
    · cases hs
  | putfield idx =>
    simp only [fe_hstep] at hs
    split at hs
    · split at hs
      · next hf =>
        split at hs
        · next hok =>
          simp only [Option.map_eq_some_iff, Prod.mk.injEq] at hs
          obtain ⟨v, hv, rfl, rfl⟩ := hs
          exact fe_w_put G X hf hok hv hd kk
        · cases hs
      · cases hs
    · cases hs
  | getstatic idx =>
    simp only [fe_hstep] at hs
    split at hs
    · next hy =>
      obtain ⟨hy, rfl⟩ := hy
      cases hs
      obtain ⟨hx, hb, -, -, -, hown, -, -, hE, -⟩ := G
      rw [hy] at hown
      exact va_gets hx hb hE.2.2.2.2.1 X.2.1 hown (hE.1.ok (w := .fieldLink (fe_cls 3) 41 "FloorEyes$Plan" "WITHOUT_BIT" "[J") (by decide +kernel)) (fun _ h => h) hd (kk _ _ _ _ X)
    · cases hs
  | iaload =>
    simp only [fe_hstep] at hs
    split at hs
    · simp only [Option.map_eq_some_iff, Prod.mk.injEq] at hs
      obtain ⟨v, hv, rfl, rfl⟩ := hs
      exact fe_w_ial G X hv hd (kk _ _ _ _ X)
    · cases hs
  | baload =>
    simp only [fe_hstep] at hs
    split at hs
    · simp only [Option.map_eq_some_iff, Prod.mk.injEq] at hs
      obtain ⟨v, hv, rfl, rfl⟩ := hs
      exact fe_w_zal G X hv hd (kk _ _ _ _ X)
    · cases hs
  | laload =>
    simp only [fe_hstep] at hs
    split at hs
    · simp only [Option.map_eq_some_iff, Prod.mk.injEq] at hs
      obtain ⟨v, hv, rfl, rfl⟩ := hs
      exact fe_w_jal G X hv hd (kk _ _ _ _ X)
    · cases hs
  | aaload =>
    simp only [fe_hstep] at hs
    split at hs
    · simp only [Option.map_eq_some_iff, Prod.mk.injEq] at hs
      obtain ⟨v, hv, rfl, rfl⟩ := hs
      exact fe_w_qal G X hv hd (kk _ _ _ _ X)
    · cases hs
  | arraylength =>
    simp only [fe_hstep] at hs
    split at hs
    · simp only [Option.map_eq_some_iff, Prod.mk.injEq] at hs
      obtain ⟨v, hv, rfl, rfl⟩ := hs
      exact fe_w_len G X hv hd (kk _ _ _ _ X)
    · cases hs
  | iastore =>
    simp only [fe_hstep] at hs
    split at hs
    · simp only [Option.map_eq_some_iff, Prod.mk.injEq] at hs
      obtain ⟨v, hv, rfl, rfl⟩ := hs
      exact fe_w_ias G X hv hd kk
    · cases hs
  | bastore =>
    simp only [fe_hstep] at hs
    split at hs
    · simp only [Option.map_eq_some_iff, Prod.mk.injEq] at hs
      obtain ⟨v, hv, rfl, rfl⟩ := hs
      exact fe_w_zas G X hv hd kk
    · cases hs
  | lastore =>
    simp only [fe_hstep] at hs
    split at hs
    · simp only [Option.map_eq_some_iff, Prod.mk.injEq] at hs
      obtain ⟨v, hv, rfl, rfl⟩ := hs
      exact fe_w_jas G X hv hd kk
    · cases hs
  | aastore =>
    simp only [fe_hstep] at hs
    split at hs
    · simp only [Option.map_eq_some_iff, Prod.mk.injEq] at hs
      obtain ⟨v, hv, rfl, rfl⟩ := hs
      exact fe_w_qas G X hv hd kk
    · cases hs
  | new idx =>
    simp only [fe_hstep] at hs
    split at hs
    · next hf =>
      split at hs
      · next hn =>
        cases hs
        exact fe_w_new G X hf hn hd kk
      · cases hs
    · cases hs
  | newarray t =>
    simp only [fe_hstep] at hs
    split at hs
    · split at hs
      · next hn =>
        simp only [Bool.and_eq_true, decide_eq_true_eq] at hn
        simp only [Option.map_eq_some_iff, Prod.mk.injEq] at hs
        obtain ⟨k, hk, rfl, rfl⟩ := hs
        exact fe_w_na G X hn.1.1 hn.1.2 hn.2 hk hd kk
      · cases hs
    · cases hs
  | anewarray idx =>
    simp only [fe_hstep] at hs
    split at hs
    · split at hs
      · next hn =>
        simp only [Bool.and_eq_true, decide_eq_true_eq] at hn
        obtain ⟨⟨⟨⟨hy, rfl⟩, h0⟩, hN⟩, hn⟩ := hn
        cases hs
        exact fe_w_nq G X hy h0 hN hn hd kk
      · cases hs
    · cases hs
  | ldc idx =>
    simp only [fe_hstep, Option.map_eq_some_iff, Prod.mk.injEq] at hs
    obtain ⟨v, hv, rfl, rfl⟩ := hs
    obtain ⟨hx, hb, -, -, -, hown, -, -, hE, -⟩ := G
    exact lv_ldc hx hb hown (hE.1.ok (fe_kl_in _ (fe_look hv))) hd (kk _ _ _ _ X)
  | ldc_w idx =>
    simp only [fe_hstep, Option.map_eq_some_iff, Prod.mk.injEq] at hs
    obtain ⟨v, hv, rfl, rfl⟩ := hs
    obtain ⟨hx, hb, -, -, -, hown, -, -, hE, -⟩ := G
    exact lv_ldcw hx hb hown (hE.1.ok (fe_kl_in _ (fe_look hv))) hd (kk _ _ _ _ X)
  | invokespecial idx =>
    simp only [fe_hstep] at hs
    split at hs
    · split at hs
      · next hn =>
        simp only [Bool.and_eq_true, decide_eq_true_eq, List.contains_iff_mem] at hn
        obtain ⟨⟨ho, hF⟩, hw⟩ := hn
        cases hs
        obtain ⟨hx, hb, hml, -, -, hown, -, -, hE, g1, g2, -⟩ := G
        exact W.objInit hx hb hown (hE.1.ok (fe_ol_in _ ho)) (hE.1.ok (w := .instanceMethod Lib.objectInit) (by decide +kernel)) (hE.1.ok (w := .code Lib.objectInit ⟨#[0xb1]⟩ 1 none) (by decide +kernel)) rfl (by rw [hml]; exact harr) rfl hd (by omega) (Nat.le_trans (Nat.add_le_add_right (Nat.le_trans (Nat.le_of_eq (Nat.zero_add _)) (fe_cat _)) 12) (Nat.le_trans hw g2)) (kk _ _ _ _ X)
      · cases hs
    · cases hs
  | _ => simp [fe_hstep] at hs
end FeN
end
section
/-! calls -/
theorem fe_chunk {P : Nat → Bool} {a b : Nat} (h : ((List.range b).drop a).all P = true) {z : Nat} (h1 : a ≤ z) (h2 : z < b) : P z = true :=
  List.all_eq_true.mp h z (List.mem_of_getElem? (i := z - a) (by rw [List.getElem?_drop, show a + (z - a) = z by omega]; exact List.getElem?_range h2))
theorem fe_mok_all {z : Nat} (h : z < 130) : fe_mok z = true := by
  rcases (by omega : z < 25 ∨ (25 ≤ z ∧ z < 50) ∨ (50 ≤ z ∧ z < 75) ∨ (75 ≤ z ∧ z < 100) ∨ (100 ≤ z ∧ z < 130)) with q | q | q | q | q
  · exact fe_chunk fe_mok_0 (Nat.zero_le _) q
  · exact fe_chunk fe_mok_1 q.1 q.2
  · exact fe_chunk fe_mok_2 q.1 q.2
  · exact fe_chunk fe_mok_3 q.1 q.2
  · exact fe_chunk fe_mok_4 q.1 q.2
theorem fe_tok_all {z : Nat} (h : z < 130) : fe_tok z = true := by
  rcases (by omega : z < 16 ∨ (16 ≤ z ∧ z < 40) ∨ (40 ≤ z ∧ z < 70) ∨ (70 ≤ z ∧ z < 90) ∨ (90 ≤ z ∧ z < 100) ∨ (100 ≤ z ∧ z < 113) ∨ (113 ≤ z ∧ z < 130)) with q | q | q | q | q | q | q
  · exact fe_chunk fe_tok_0 (Nat.zero_le _) q
  · exact fe_chunk fe_tok_1 q.1 q.2
  · exact fe_chunk fe_tok_2 q.1 q.2
  · exact fe_chunk fe_tok_3 q.1 q.2
  · exact fe_chunk fe_tok_4 q.1 q.2
  · exact fe_chunk fe_tok_5 q.1 q.2
  · exact fe_chunk fe_tok_6 q.1 q.2
theorem fe_all_step {α : Type} {p : α → Bool} {n : Nat} {L : List α} (h1 : (L.take n).all p = true) (h2 : (L.drop n).all p = true) : L.all p = true := by
  have h : (L.take n ++ L.drop n).all p = true := by rw [List.all_append, h1, h2]; rfl
  rwa [List.take_append_drop] at h
theorem fe_tok_law : fe_t130.all (fe_dok 130) = true := by
  refine fe_all_step (n := 130) fe_tokL_0 (fe_all_step (n := 130) ?_ (fe_all_step (n := 130) ?_ (fe_all_step (n := 130) ?_ (fe_all_step (n := 130) ?_ ?_))))
  · exact fe_tokL_1
  · rw [List.drop_drop]; exact fe_tokL_2
  · rw [List.drop_drop, List.drop_drop]; exact fe_tokL_3
  · rw [List.drop_drop, List.drop_drop, List.drop_drop]; exact fe_tokL_4
  · rw [List.drop_drop, List.drop_drop, List.drop_drop, List.drop_drop]
    have h := fe_tokL_5
    rw [List.take_of_length_le (by decide +kernel)] at h
    exact h
theorem fe_T_130 : fe_T[130]? = some fe_t130 := rfl
theorem fe_T_len : fe_T.length = 131 := by decide +kernel
theorem fe_T_out {y : Nat} (h : 131 ≤ y) : fe_T.getD y [] = [] := by
  rw [List.getD_eq_getElem?_getD, List.getElem?_eq_none (by rw [fe_T_len]; exact h), Option.getD_none]
theorem fe_T_law : fe_T.getD 130 [] = fe_t130 := by
  rw [List.getD_eq_getElem?_getD, fe_T_130, Option.getD_some]
theorem fe_hall_0 {y : Nat} (h : y < 130) : ∀ q ∈ fe_T.getD y [], fe_dok y q = true := List.all_eq_true.mp (fe_tok_all h)
theorem fe_hall_1 : ∀ q ∈ fe_T.getD 130 [], fe_dok 130 q = true := by
  rw [fe_T_law]
  exact List.all_eq_true.mp fe_tok_law
theorem fe_hall_2 {y : Nat} (h : 131 ≤ y) : ∀ q ∈ fe_T.getD y [], fe_dok y q = true := by
  rw [fe_T_out h]
  exact fun q hq => absurd hq List.not_mem_nil
theorem fe_hall (y : Nat) : ∀ q ∈ fe_T.getD y [], fe_dok y q = true := by
  rcases (by omega : y < 130 ∨ y = 130 ∨ 131 ≤ y) with q | q | q
  · exact fe_hall_0 q
  · rw [q]; exact fe_hall_1
  · exact fe_hall_2 q
theorem fe_fetch_mem {y pc : Nat} {i : Instr} (h : fe_fetch y pc = some i) : (pc, i) ∈ fe_T.getD y [] := by
  unfold fe_fetch at h
  exact fe_look h
/-- what is fetched is what the code holds -/
theorem fe_fetch_ok {y pc : Nat} {i : Instr} (h : fe_fetch y pc = some i) : decode (fe_mB y) pc = .ok (i, fe_len pc i) := by
  have h2 := fe_hall y _ (fe_fetch_mem h)
  unfold fe_dok at h2
  exact of_decide_eq_true h2
theorem fe_popS : ∀ (n : Nat) (st as rest : List Value), fe_pop n st = some (as, rest) → st = as.reverse ++ rest ∧ as.length = n := by
  intro n
  induction n with
  | zero => intro st as rest h; cases h; exact ⟨rfl, rfl⟩
  | succ n ih =>
    intro st as rest h
    cases st with
    | nil => cases h
    | cons v t =>
      simp only [fe_pop] at h
      split at h
      · next a r' he =>
        cases h
        obtain ⟨e1, e2⟩ := ih _ _ _ he
        refine ⟨?_, by rw [List.length_append, e2]; rfl⟩
        rw [e1, List.reverse_append]
        rfl
      · cases h
theorem fe_code_iff {y : Nat} : (fe_mH y = [] ∧ fe_code y = .code (fe_mN y) (fe_mB y) (fe_mL y) (fe_mR y)) ∨ fe_code y = .codeWith (fe_mN y) (fe_mB y) (fe_mL y) (fe_mR y) (fe_mH y) := by
  unfold fe_code
  cases h : fe_mH y with
  | nil => exact Or.inl ⟨rfl, rfl⟩
  | cons q t => exact Or.inr rfl
/-- a method by the words -/
theorem fe_mth {s : State} {z : Nat} (hw : fe_wd s) (hz : z < 130) : ∃ (mk : MethodId) (mt : Method) (ck : Code) (k : Class), s.methodNamed? (fe_mN z) = some mk ∧ s.vm.method? mk = some mt ∧ mt.code = some ck ∧ ck.code = fe_mB z ∧ ck.maxLocals = fe_mL z ∧ mt.sig.returnType = fe_mR z ∧ mt.locks = false ∧ ck.exceptionTable.toList = tableOf (fe_mH z) ∧ parseMethodDescriptor (fe_mN z).desc = some mt.sig ∧ (fe_mI z = true → mt.name = "<init>") ∧ s.vm.findClass (fe_cls (fe_mC z)) = some mk.cls ∧ s.plainMethod mk ∧ s.vm.classes[mk.cls]? = some k ∧ k.init = .initialized := by
  have h := fe_mok_all hz
  simp only [fe_mok, Bool.and_eq_true, decide_eq_true_eq] at h
  obtain ⟨⟨⟨⟨⟨⟨⟨h1, h2⟩, h3⟩, h4⟩, h5⟩, h6⟩, h7⟩, h8⟩ := h
  have hc := hw.at h1 (a := #[])
  have base : ∃ (mk : MethodId) (mt : Method) (ck : Code), s.methodNamed? (fe_mN z) = some mk ∧ s.vm.method? mk = some mt ∧ mt.code = some ck ∧ ck.code = fe_mB z ∧ ck.maxLocals = fe_mL z ∧ mt.sig.returnType = fe_mR z ∧ mt.locks = false ∧ ck.exceptionTable.toList = tableOf (fe_mH z) ∧ parseMethodDescriptor (fe_mN z).desc = some mt.sig := by
    rcases fe_code_iff (y := z) with ⟨e1, e2⟩ | e2
    · rw [e2] at hc
      obtain ⟨mk, hn⟩ := Cond.code_named hc
      obtain ⟨mt, ck, a1, a2, a3, a4, a5, a6, a7, a8⟩ := Cond.code_spec hn hc
      refine ⟨mk, mt, ck, hn, a1, a2, a3, a4, a5, a6, ?_, a8⟩
      rw [e1]
      have : ck.exceptionTable = #[] := by simpa using a7
      rw [this]; rfl
    · rw [e2] at hc
      obtain ⟨mk, mt, ck, hn, a1, a2, a3, a4, a5, a6, a7, a8⟩ := Cond.codeWith_spec hc
      exact ⟨mk, mt, ck, hn, a1, a2, a3, a4, a6, a7, by rw [← a5, table_eq], a8⟩
  obtain ⟨mk, mt, ck, hn, a1, a2, a3, a4, a5, a6, a7, a8⟩ := base
  have hfc := findClass_of_methodNamed hn
  obtain ⟨k, hk, -⟩ := className_of_methodNamed hn
  refine ⟨mk, mt, ck, k, hn, a1, a2, a3, a4, a5, a6, a7, a8, fun hI => ?_, by rw [← h3]; exact hfc, State.plainMethod.of_named h5 hn a1, hk, ?_⟩
  · rw [(name_of_methodNamed hn a1).1]; exact h6.mpr hI
  · have hi := hw.at h2 (a := #[])
    rw [← h3] at hi
    exact Cond.initialized_spec hfc hk hi
section FeI
variable {p : Program} {l : Launch} {e : Env} {R : Room} {s : State} {m : MethodId} {args : Array Value} {below : List Frame} {meth : Method} {c : Code} {T : State} {locs : List Loc} {cells slots : Nat}
/-- what an invoking instruction does: it comes to doInvoke of the method -/
def fe_Inv (p : Program) (l : Launch) (e : Env) (R : Room) (s : State) (m : MethodId) (args : Array Value) (below : List Frame) (meth : Method) (c : Code) (T : State) (locs : List Loc) (cells slots : Nat) (g : JFrame) (rest : List Value) (mk : MethodId) (as : List Value) : Prop :=
  ∃ vm' : Vm, Stand p l e R s m args below meth c (T.setVm vm') locs cells slots ∧ ∀ target : State, Steps p.tables e below (doInvoke e ((T.setVm vm').setTop { g with stack := rest }) [] mk as.toArray).1 target → Steps p.tables e below (T.setTop g) target
theorem fe_invS {y z idx pos sz : Nat} {nest : Bool} {D : fe_D} {E : fe_E} {mk : MethodId} {g : JFrame} {as rest : List Value} (X : Stand p l e R s m args below meth c T locs cells slots) (G : fe_G p l R s m meth c y D E sz) (hf : fe_cl.lookup (fe_mC y, idx) = some (z, nest, pos)) (hS : fe_mS z = true) (hn : s.methodNamed? (fe_mN z) = some mk) (hg : g.method = m) (hlen : as.length = fe_mA z) (hst : g.stack = as.reverse ++ rest) (hd : decode (fe_mB y) g.pc = .ok (.invokestatic idx, 3)) : fe_Inv p l e R s m args below meth c T locs cells slots g rest mk as := by
  obtain ⟨hx, hb, -, -, -, hown, -, -, hE, -⟩ := G
  obtain ⟨hw, hz⟩ := fe_cl_in _ (fe_look hf)
  have hz : z < 130 := hz
  obtain ⟨mk', mt, ck, k, hn', a1, a2, a3, a4, a5, a6, a7, a8, a9, a10, a11, a12, a13⟩ := fe_mth hE.1 hz
  cases Option.some.inj (hn.symm.trans hn')
  have h := fe_mok_all hz
  simp only [fe_mok, Bool.and_eq_true, decide_eq_true_eq, hS, if_true] at h
  obtain ⟨⟨⟨⟨⟨⟨⟨h1, h2⟩, h3⟩, h4⟩, h5⟩, h6⟩, h7⟩, h8⟩ := h
  have hst' : mt.isStatic = true := Cond.static_spec hn a1 (hE.1.at h4 (a := args))
  have hlen' : as.length = mt.sig.parameters.length := by
    rw [a8] at h8
    have := Option.some.inj h8
    rw [hlen, ← this]; rfl
  cases nest with
  | false =>
    obtain ⟨vm', X', st⟩ := X.invokestatic hx hown (hE.1.at (w := fe_cw (fe_mC y) idx z false) hw) hn a1 hst' a12 a13 h7 hg hlen' hst (by rw [hb]; exact hd)
    exact ⟨vm', X', fun t h => st t fun acts => by rw [doInvoke_state, ← doInvoke_state e _ []]; exact h⟩
  | true =>
    obtain ⟨vm', X', st⟩ := X.invokestaticNest hx hown (hE.1.at (w := fe_cw (fe_mC y) idx z true) hw) hn a1 hst' a12 a13 h7 hg hlen' hst (by rw [hb]; exact hd)
    exact ⟨vm', X', fun t h => st t fun acts => by rw [doInvoke_state, ← doInvoke_state e _ []]; exact h⟩
end FeI
end
section
/-! the words of the throws; a constructor's first call may have any number -/
def fe_own (own : String) (ic : Nat) (X : String) (i1 : Nat) (b1 : ByteArray) : List Jvm.Cond :=
  Bundle.throwableAtoms ++ Bundle.throwableSAtoms ++ Bundle.passSAtoms X "java/lang/RuntimeException" i1 b1 ++ Bundle.chainSAtoms "java/lang/RuntimeException" ["java/lang/Exception"] ++
  [.methodLink own ic (Bundle.initS X), .instantiable X 6, .castable X X, .selects X Bundle.tFill0 Bundle.tFill0, .selects X Bundle.tFill Bundle.tFill,
   .lays X Bundle.tN "cause" "Ljava/lang/Throwable;", .lays X Bundle.tN "stackTrace" Bundle.steD, .lays X Bundle.tN "suppressedExceptions" Bundle.listD, .lays X Bundle.tN "detailMessage" "Ljava/lang/String;",
   .isRef (.static Bundle.tN "UNASSIGNED_STACK" Bundle.steD), .isRef (.static Bundle.tN "SUPPRESSED_SENTINEL" Bundle.listD),
   .fieldLink Bundle.tN 198 Bundle.tN "backtrace" "Ljava/lang/Object;", .lays Bundle.tN Bundle.tN "backtrace" "Ljava/lang/Object;", .lays X Bundle.tN "backtrace" "Ljava/lang/Object;"]
def fe_xw (ic : Nat) (X : String) (i1 : Nat) (b1 : ByteArray) : List Jvm.Cond := (fe_own (fe_cls 6) ic X i1 b1).filter vx_no
theorem fe_xa_0 : (fe_xw 174 "java/lang/IndexOutOfBoundsException" 7 Bundle.six).all (fun w => fe_in w && vx_ot w) = true := by decide +kernel
theorem fe_xa_1 : (fe_xw 181 "java/lang/IllegalArgumentException" 7 Bundle.six).all (fun w => fe_in w && vx_ot w) = true := by decide +kernel
theorem fe_xa_2 : (fe_xw 81 "java/lang/UnsupportedOperationException" 7 Bundle.six).all (fun w => fe_in w && vx_ot w) = true := by decide +kernel
theorem fe_xa_3 : (fe_xw 146 "java/util/NoSuchElementException" 13 prog_20_method_4_code).all (fun w => fe_in w && vx_ot w) = true := by decide +kernel
end
section
/-! throwing a new exception with a text -/
section FeT
variable {p : Program} {l : Launch} {e : Env} {R : Room} {s : State} {m₀ : MethodId} {args : Array Value} {below : List Frame} {meth : Method} {c : Code} {W : State} {locs : List Loc} {cells slots : Nat}
set_option maxHeartbeats 2000000 in
theorem fe_ctorThrow (X : Stand p l e R s m₀ args below meth c W locs cells slots) (hexec : p.tables.exec = Jvm.exec) (htr : e.platform.stackTraces = false) {own cls : String} {ic i1 : Nat} {b1 : ByteArray}
    (hown : s.vm.findClass own = some m₀.cls) (hcls : Bundle.fit cls = true)
    (g0 : decode b1 0 = .ok (.aload_n 0, 1)) (g1 : decode b1 1 = .ok (.aload_n 1, 1)) (g2 : decode b1 2 = .ok (.invokespecial i1, 3)) (g5 : decode b1 5 = .ok (.return_, 1))
    (h : ∀ a ∈ fe_own own ic cls i1 b1, a.before args s = true)
    (hlocs : ∀ x ∈ locs, ∀ cell, s.heap[x.base]? = some cell → cell.vm.isStatics = false)
    {a : Addr} {cX : ClassId} {kX : Class} (hfoundX : s.vm.findClass cls = some cX) (hkX : s.vm.classes[cX]? = some kX) (hcell : W.heap[a]? = some (freshCell cX kX)) (hnew : s.heap.size ≤ a)
    {msg : Value} (hmsg : msg.isRef = true)
    {g : JFrame} (hg : g.method = m₀) (hsize : g.locals.size = c.maxLocals) (hlocked : g.locked = none) (hentered : g.entered = []) {rest : List Value} (hstack : g.stack = msg :: .ref a :: .ref a :: rest)
    (hd6 : decode c.code g.pc = .ok (.invokespecial ic, 3)) (hd9 : decode c.code (g.pc + 3) = .ok (.athrow, 1)) (hout : ∀ x ∈ c.exceptionTable.toList, covers x (g.pc + 3) = false)
    (hRframes : 5 < R.frames) (hRlocals : 2 * g.monitorRoom + ((Value.ref a :: rest).map fun v => v.category).sum + (13 * 3 + 42) ≤ R.locals) (hlocks : meth.locks = false) :
    ∃ U : State, Steps p.tables e below (W.setTop g) U ∧ U.status = .running ∧ Ended U below (.threw a) ∧ s.WarmedH U.vm ∧ s.sameButNew ({ U with vm := s.vm } : State) locs cells slots ∧
      ∃ ce : Cell, U.heap[a]? = some ce ∧ ce.vm = .none ∧ s.vm.findClass cls = some ce.cls := by
  have howns : e.platform.frameOwnsMonitors = true := by rw [X.admits.platform]
  have hfin : e.platform.finalization = false := by rw [X.admits.platform]
  have hpl : e.platform.magicAccessors = ({} : Platform).magicAccessors := by rw [X.admits.platform]
  have a' : ∀ x, x ∈ fe_own own ic cls i1 b1 → x.holds args s none s [] = true := fun x hx => h x hx
  obtain ⟨T, Z0, L, -, Y⟩ := ThrowableC.of_atoms (args := args) howns hfin hpl (fun x hx => h x (by simp [fe_own, hx]))
  obtain ⟨Z, M, LZ, LM, hnZ⟩ := Init0T.ofS_atoms (args := args) hpl L Y (fun x hx => h x (by simp [fe_own, hx]))
  obtain ⟨P1, L1, hP1m, hP1s⟩ := PassC.ofS_atoms (args := args) (s := s) hpl (X := cls) (Y := "java/lang/RuntimeException") (Bundle.fit_spec hcls).1 (by decide) g0 g1 g2 g5 (fun x hx => h x (by simp [fe_own, hx]))
  obtain ⟨P2, Ps2, hlen2, L2, hL2, hP2m, hlink2, hpass2⟩ := Bundle.chainS (args := args) hpl hnZ ["java/lang/Exception"] "java/lang/RuntimeException" (by decide +kernel) (by decide +kernel) (fun x hx => h x (by simp [fe_own, hx]))
  obtain ⟨Ps, hPs⟩ : ∃ z, z = P2 :: Ps2 := ⟨_, rfl⟩
  have hlen : Ps.length = 2 := by rw [hPs]; simp [hlen2]
  have hL : ∀ P, P ∈ Ps → P.LinksS e.platform s := by
    rw [hPs]
    intro P hP
    rcases List.mem_cons.mp hP with rfl | hP
    · exact L2
    · exact hL2 P hP
  have hlink1 : P1.sup = firstOf (Z.m T.toThrowableT) (Ps.map (·.toPassT)) := by
    rw [hPs]
    exact Option.some.inj (hP1s.symm.trans hP2m)
  have hlink : PassesOn (Z.m T.toThrowableT) (Ps.map (·.toPassT)) := by
    rw [hPs]
    exact ⟨hlink2, hpass2⟩
  have hfound : s.vm.findClass cls = some P1.m.cls := findClass_of_methodNamed hP1m
  cases Option.some.inj (hfoundX.symm.trans hfound)
  obtain ⟨c1, kX', hc1, hk, hord, -, -, hn6⟩ := Cond.instantiable_spec (a' (.instantiable cls 6) (by simp [fe_own]))
  cases Option.some.inj (hc1.symm.trans hfound)
  cases Option.some.inj (hkX.symm.trans hk)
  have hsel0 : selectMethod e.platform s.vm P1.m.cls T.fill0 = .method T.fill0 := by
    obtain ⟨c2, r2, m2, q1, q2, q3, q4, -⟩ := Cond.selects_spec (a' (.selects cls Bundle.tFill0 Bundle.tFill0) (by simp [fe_own]))
    cases Option.some.inj (q1.symm.trans hfound)
    cases Option.some.inj (q2.symm.trans (State.methodFound?_of_named Y.fill0 (by decide)))
    cases Option.some.inj (q3.symm.trans Y.fill0)
    rw [Launch.admits_selectMethod X.admits]; exact q4
  have hselF : selectMethod e.platform s.vm P1.m.cls T.fill = .method T.fill := by
    obtain ⟨c2, r2, m2, q1, q2, q3, q4, -⟩ := Cond.selects_spec (a' (.selects cls Bundle.tFill Bundle.tFill) (by simp [fe_own]))
    cases Option.some.inj (q1.symm.trans hfound)
    cases Option.some.inj (q2.symm.trans (State.methodFound?_of_named Y.fill (by decide)))
    cases Option.some.inj (q3.symm.trans Y.fill)
    rw [Launch.admits_selectMethod X.admits]; exact q4
  obtain ⟨cellS0, hcS0, hiss⟩ := Y.statics
  obtain ⟨u0, hu0⟩ := Cond.staticRefV Y.unassigned L.unassignedStatic L.statics hcS0 hiss (a' (.isRef (.static Bundle.tN "UNASSIGNED_STACK" Bundle.steD)) (by simp [fe_own]))
  obtain ⟨sen, hsen⟩ := Cond.staticRefV Y.sentinel L.sentinelStatic L.statics hcS0 hiss (a' (.isRef (.static Bundle.tN "SUPPRESSED_SENTINEL" Bundle.listD)) (by simp [fe_own]))
  obtain ⟨ci198, i198, fB, hk198, hg198, ha198, hsB, -, hnB, htB, hffB⟩ := Cond.ownField (t := .object "java/lang/Object") Y.found L.cls (by decide +kernel) (a' (.fieldLink Bundle.tN 198 Bundle.tN "backtrace" "Ljava/lang/Object;") (by simp [fe_own])) (a' (.lays Bundle.tN Bundle.tN "backtrace" "Ljava/lang/Object;") (by simp [fe_own])) e.platform hpl
  obtain ⟨cellS, hcS', heS, -, hkeep⟩ := X.same.2.2.2.2.2 T.aS cellS0 hcS0
  have hcellS : W.heap[T.aS]? = some cellS := hcS'
  have hout' : ∀ i, (⟨T.aS, i⟩ : Loc) ∉ locs := fun i hmem => by
    have := hlocs _ hmem cellS0 hcS0
    rw [hiss] at this; cases this
  have hknownS : cellS.vm ≠ .unknown := by
    rw [heS]; intro hu
    rw [show cellS0.vm = .unknown from hu] at hiss
    cases hiss
  have hneS : T.aS ≠ a := Nat.ne_of_lt (Nat.lt_of_lt_of_le (Array.getElem?_eq_some_iff.mp hcS0).1 hnew)
  obtain ⟨iM, hffM⟩ := Y.msg
  obtain ⟨tyC, dC, hdC, hdnC⟩ := Cond.laysAt hfound hk Y.cause (a' (.lays cls Bundle.tN "cause" "Ljava/lang/Throwable;") (by simp [fe_own]))
  obtain ⟨tyS, dS, hdS, hdnS⟩ := Cond.laysAt hfound hk Y.stack (a' (.lays cls Bundle.tN "stackTrace" Bundle.steD) (by simp [fe_own]))
  obtain ⟨tyP, dP, hdP, hdnP⟩ := Cond.laysAt hfound hk Y.supp (a' (.lays cls Bundle.tN "suppressedExceptions" Bundle.listD) (by simp [fe_own]))
  obtain ⟨tyM, dM, hdM, hdnM⟩ := Cond.laysAt hfound hk hffM (a' (.lays cls Bundle.tN "detailMessage" "Ljava/lang/String;") (by simp [fe_own]))
  obtain ⟨tyB, dB, hdB, hdnB⟩ := Cond.laysAt hfound hk hffB (a' (.lays cls Bundle.tN "backtrace" "Ljava/lang/Object;") (by simp [fe_own]))
  have bC := Cond.laysApart hdB hdC hdnB hdnC (by rw [hnB, Y.causeName]; decide)
  have bS := Cond.laysApart hdB hdS hdnB hdnS (by rw [hnB, Y.stackName]; decide)
  have bP := Cond.laysApart hdB hdP hdnB hdnP (by rw [hnB, Y.suppName]; decide)
  have hskip : SkipFacts T e.platform s (fun u => u) u0 ((preparedCellV T.toThrowableT (freshCell P1.m.cls kX) a u0 sen).withEntry W.cur) :=
    ⟨{ ci198 := ci198, i198 := i198, fBack := fB }, ⟨hk198, hg198, ha198, hsB⟩, by
      have := fresh_default (c := P1.m.cls) tyB
      rw [htB] at this
      simpa [preparedCellV, Cell.setSlot, Cell.withEntry, Array.getElem?_setIfInBounds, bC, bS, bP, bC.symm, bS.symm, bP.symm, defaultValue] using this, fun _ _ => rfl⟩
  obtain ⟨tm, methC, cdC, kC, vm₁, hnC, -, -, -, -, -, -, -, hW₁, st1⟩ := Steps.initColdS (tb := p.tables) (e := e) (below := below) (s := s) (U := W) X.here hexec X.warmed hpl hown (t := Bundle.initS cls) rfl rfl (Bundle.fit_spec hcls).2
    (a' (.methodLink own ic (Bundle.initS cls)) (by simp [fe_own])) (h (.instanceMethod (Bundle.initS cls)) (by simp [fe_own, Bundle.passSAtoms])) (bytes := b1) (maxL := 2) (h (.code (Bundle.initS cls) b1 2 none) (by simp [fe_own, Bundle.passSAtoms]))
    (f := g) hg (a := a) (msg := msg) (rest := .ref a :: rest) hstack hd6
  cases Option.some.inj (hnC.symm.trans hP1m)
  have X₁ := X.noted hW₁
  obtain ⟨vm₂, X₂, st2⟩ := X₁.ctorMessageOffV hexec (g := { g with stack := .ref a :: rest }) hg hsize T L Z LZ M LM (P1 :: Ps)
    (fun P hP => by rcases List.mem_cons.mp hP with rfl | hP; exact L1; exact hL P hP) ⟨hlink1, hlink⟩ (u0 := u0) (sen := sen) (self := a) hmsg (cell := freshCell P1.m.cls kX) (cellS := cellS)
    hcell (fun _ => by simp) (by simp) rfl rfl hsel0 hselF hcellS hneS hknownS (by rw [hkeep _ (hout' _)]; exact hu0) (by rw [hkeep _ (hout' _)]; exact hsen)
    (Takes.of_laid hk hord tyC (by rw [Y.causeType]; rfl)) (Takes.of_laid hk hord tyS (by rw [Y.stackType]; exact fits_refV_array _ u0)) (Takes.of_laid hk hord tyP (by rw [Y.suppType]; exact fits_refV_object _ sen))
    (Takes.of_laid hk hord tyM (by rw [Y.msgType]; exact fits_refV_object _ ⟨msg, hmsg⟩)) Y.objLocals hskip htr [] hd6
    (by simp only [List.length_cons, hlen]; omega) (by simp only [List.length_cons, hlen]; exact hRlocals)
  obtain ⟨hwalk, hrun, hended, hWU, hsame⟩ := X₂.athrowLeaves hexec (g := { g with stack := .ref a :: rest, pc := g.pc + 3 }) hg hlocked hentered hout (a := a) (rest := rest) rfl hd9 hlocks
  have hlt : a < ((W.setVm vm₁).setVm vm₂).heap.size := (Array.getElem?_eq_some_iff.mp hcell).1
  have hU := heapAt_setCell_self (s := (W.setVm vm₁).setVm vm₂) (plainBareV T.toThrowableT (freshCell P1.m.cls kX) a u0 sen msg) hlt
  refine ⟨_, st1 _ (fun acts => ?_), hrun, hended, hWU, hsame.weaken (fun y hy hlt' => ?_) (Nat.le_refl _) (Nat.le_refl _), _, hU, rfl, hfound⟩
  · rw [doInvoke_state]
    exact st2 _ hwalk
  · rcases List.mem_append.mp hy with h1 | h1
    · exact h1
    · exfalso
      have hb : y.base = a := by
        simp only [List.mem_cons, List.not_mem_nil, or_false] at h1
        rcases h1 with rfl | rfl | rfl | rfl | rfl <;> rfl
      rw [hb] at hlt'
      exact Nat.not_lt.mpr hnew hlt'
end FeT
/-- how a method has ended: with what, and where the heap stands -/
def fe_Fin (D : fe_D) (sz : Nat) (R : Room) (s : State) (below : List Frame) (q : fe_R × fe_H) : State → Prop := fun t =>
  ∃ (o : Outcome) (L : List Loc) (k n : Nat), t.status = .running ∧ Ended t below o ∧ s.WarmedH t.vm ∧ s.sameButNew ({ t with vm := s.vm } : State) L k n ∧ fe_X D sz R s q.2 t.heap L k n ∧
    (match q.1 with
      | .inl v => o = .returned v
      | .inr x => o = .threw x.2 ∧ x.1 < 4 ∧ ∃ ce : Cell, t.heap[x.2]? = some ce ∧ ce.vm = .none ∧ s.vm.findClass (fe_xn.getD x.1 "") = some ce.cls)
section FeT2
variable {p : Program} {l : Launch} {e : Env} {R : Room} {s : State} {m : MethodId} {args : Array Value} {below : List Frame} {meth : Method} {c : Code} {H : Heap} {locs : List Loc} {cells slots : Nat}
variable {pc y sz : Nat} {arr : Array Slot} {D : fe_D} {E : fe_E} {h : fe_H} {st : List Value}
set_option maxHeartbeats 2000000 in
theorem fe_throw (G : fe_G p l R s m meth c y D E sz) (X0 : fe_X D sz R s h H locs cells slots) (hH : fe_mH y = []) {own cls text : String} {ik is ic i1 x : Nat} {b1 : ByteArray} {sa : Nat} (hy : fe_cls (fe_mC y) = own) (hx4 : x < 4) (hcx : fe_xn.getD x "" = cls) (hcls : Bundle.fit cls = true)
    (g0 : decode b1 0 = .ok (.aload_n 0, 1)) (g1 : decode b1 1 = .ok (.aload_n 1, 1)) (g2 : decode b1 2 = .ok (.invokespecial i1, 3)) (g5 : decode b1 5 = .ok (.return_, 1))
    (hk : (Jvm.Cond.classLink own ik cls).before args s = true) (hini : (Jvm.Cond.initialized cls).before args s = true) (hstr : vk_R own is text sa s) (hat : ∀ w ∈ (fe_own own ic cls i1 b1).filter vx_no, w.before args s = true)
    (hgood : ∀ w ∈ Jvm.Cond.classLink own ik cls :: Jvm.Cond.initialized cls :: (fe_own own ic cls i1 b1).filter vx_no, vx_ot w = true)
    (hsize : arr.size = c.maxLocals)
    (d0 : decode (fe_mB y) pc = .ok (.new ik, 3)) (d3 : decode (fe_mB y) (pc + 3) = .ok (.dup, 1)) (d4 : decode (fe_mB y) (pc + 4) = .ok (.ldc is, 2)) (d6 : decode (fe_mB y) (pc + 6) = .ok (.invokespecial ic, 3)) (d9 : decode (fe_mB y) (pc + 9) = .ok (.athrow, 1))
    (hRframes : 6 ≤ fe_mF y) (hRlocals : 2 * st.length + 82 ≤ fe_mW y) (hn : fe_nw h 6 = true) :
    W p l e R s m args below meth c H locs cells slots (fe_Fin D sz R s below (.inr (x, h.1), fe_burn h 6)) (F0 m pc arr st) := by
  obtain ⟨hexec, hb, hml, -, hlocks, hown, htab, -, hE, hF, hWd, hl⟩ := G
  rw [hy] at hown
  obtain ⟨hR0, hS, hRc, hRs⟩ := X0
  obtain ⟨n1, n2⟩ := fe_nw_spec hn
  have hcat := fe_cat st
  have hout : ∀ x ∈ c.exceptionTable.toList, covers x (pc + 9) = false := by
    rw [htab, hH]
    exact fun x hx => absurd hx List.not_mem_nil
  intro T hT X
  have htr : e.platform.stackTraces = false := (show e.platform.stackTraces = l.stackTraces by rw [X.admits.platform]).trans hl
  have Y := vx_rebase X (R' := { frames := R.frames, locals := R.locals, cells := 1, slots := 6 }) (Nat.le_refl _) (Nat.le_refl _) (show cells + 1 ≤ R.cells by omega) (show slots + 6 ≤ R.slots by omega)
  obtain ⟨s', hA⟩ : ∃ z, z = (T.setVm s.vm).setFrames (.invoking m args :: below) := ⟨_, rfl⟩
  rw [← hA] at Y
  have hvm : s'.vm = s.vm := by rw [hA]; rfl
  have hhp : s'.heap = H := by rw [hA]; exact hT
  have hW0 : s.WarmedH s'.vm := by rw [hvm]; exact State.WarmedH.refl s
  have hat' : ∀ w ∈ (fe_own own ic cls i1 b1).filter vx_no, w.before args s' = true := fun w hw => vx_ot_at hW0 hvm.symm (hgood w (List.mem_cons_of_mem _ (List.mem_cons_of_mem _ hw))) (hat w hw)
  have hk' : (Jvm.Cond.classLink own ik cls).before args s' = true := vx_ot_at hW0 hvm.symm (hgood _ List.mem_cons_self) hk
  have hini' : (Jvm.Cond.initialized cls).before args s' = true := vx_ot_at hW0 hvm.symm (hgood _ (List.mem_cons_of_mem _ List.mem_cons_self)) hini
  have hU' : vx_Zq Bundle.tN "UNASSIGNED_STACK" Bundle.steD (fe_A sz) s' s'.heap := by rw [hhp]; exact vx_Zq.moved hW0.alike (hE.2.2.2.2.2.2.1.kept hS.2.1)
  have hN' : vx_Zq Bundle.tN "SUPPRESSED_SENTINEL" Bundle.listD (fe_A sz) s' s'.heap := by rw [hhp]; exact vx_Zq.moved hW0.alike (hE.2.2.2.2.2.2.2.1.kept hS.2.1)
  have hall9 : ∀ w ∈ fe_own own ic cls i1 b1, w.before args s' = true := vx_own hat' (vx_isRefq hU'.1) (vx_isRefq hN'.1) hU'.2.word hN'.2.word
  have hown' : s'.vm.findClass own = some m.cls := by rw [hvm]; exact hown
  have hins : (Jvm.Cond.instantiable cls 6).before args s' = true := hall9 _ (by simp [fe_own])
  obtain ⟨vm₁, cX, kX, hfX, hkX, -, -, X₁, st1⟩ := Y.newCold hexec (own := own) (C := cls) (index := ik) (n := 6) hown' hk' hins hini'
    (g := F0 m pc arr st) rfl (by rw [hb]; exact d0) (Nat.le_refl _) (Nat.le_refl _)
  generalize hT1 : (T.setVm vm₁).pushCell { cls := cX, slots := kX.instanceTypes.map defaultValue, vm := .none } = T1 at X₁ st1
  have hcat1 : (Value.ref T.heap.size).category = 1 := rfl
  have hcellA : T1.heap[T.heap.size]? = some (freshCell cX kX) := by rw [← hT1]; exact State.heap_pushCell_size _ _
  have d3' : decode c.code (pc + 3) = .ok (.dup, 1) := by rw [hb]; exact d3
  have d4' : decode c.code (pc + 4) = .ok (.ldc is, 2) := by rw [hb]; exact d4
  have hstr' : vk_R own is text sa s' := vk_R.warm hW0 hstr
  obtain ⟨U, hsteps, hrun, hend, hW, hsame, ce, hce, hcv, hcl9⟩ := fe_ctorThrow X₁ hexec htr (own := own) (cls := cls) (ic := ic) hown' hcls g0 g1 g2 g5 hall9 (fun x hx => nomatch hx) hfX hkX hcellA (by rw [hhp, hT]; exact Nat.le_refl _) (msg := .ref sa) rfl
    (g := { method := m, pc := pc + 6, locals := arr, stack := .ref sa :: .ref T.heap.size :: .ref T.heap.size :: st, locked := none }) rfl hsize rfl rfl (rest := st) rfl
    (by rw [hb]; exact d6) (by rw [hb]; exact d9) hout (show 5 < R.frames by omega) (by show 2 * 0 + _ + _ ≤ R.locals; simp only [List.map_cons, List.sum_cons, hcat1]; omega) hlocks
  obtain ⟨f1, f2⟩ := vx_frame hsame
  rw [hhp] at f1 f2
  have hWs : s.WarmedH U.vm := State.WarmedH.trans hW0 hW
  have hcl : s.vm.findClass cls = some ce.cls := by
    rw [hvm] at hcl9
    exact hcl9
  have hsz : U.heap.size = H.size + 1 := by
    have u1 : T.heap.size < U.heap.size := (Array.getElem?_eq_some_iff.mp hce).1
    have u2 : U.heap.size ≤ s'.heap.size + (0 + 1) := hsame.2.2.1
    rw [hhp] at u2
    rw [hT] at u1
    omega
  have hall : s.sameButNew ({ U with vm := s.vm } : State) locs (cells + 1) (slots + 6) := by
    subst hA
    obtain ⟨e1, e2⟩ := hsame
    rw [State.setFrames_setFrames] at e1
    have h2 : (T.setVm s.vm).sameButNew ({ U with vm := s.vm } : State) [] (0 + 1) (0 + 6) := ⟨e1, e2⟩
    have h3 := X.same.trans h2
    rw [List.append_nil] at h3
    exact h3
  have hkeep : ∀ q : Nat, q < H.size → U.heap[q]? = H[q]? := fun q hq => f2 q hq (fun z hz => nomatch hz)
  refine ⟨U, ?_, .threw T.heap.size, locs, cells + 1, slots + 6, hrun, hend, hWs, hall, ⟨⟨?_, ?_⟩, ⟨Nat.le_trans hS.1 (by omega), fun q a1 a2 => (hkeep q (Nat.lt_of_lt_of_le a1 hS.1)).trans (hS.2.1 q a1 a2), hS.2.2⟩, ?_, ?_⟩, ?_, hx4, ce, ?_, hcv, ?_⟩
  · refine st1 _ ?_
    show Steps p.tables e below (T1.setTop { method := m, pc := pc + 3, locals := arr, stack := .ref T.heap.size :: st, locked := none }) _
    jvm_step X₁.here [X₁.here.top, hexec, d3', Value.category]
    exact X₁.ldcString hexec (own := own) (text := text) (index := is) (a := sa) hown' hstr'.1 hstr'.2
      (g := { method := m, pc := pc + 4, locals := arr, stack := .ref T.heap.size :: .ref T.heap.size :: st, locked := none }) rfl d4' _ hsteps
  · show h.1 + 1 = U.heap.size
    rw [hsz, hR0.1]
  · intro b d hbd
    have hbd : fe_get h b = some d := hbd
    exact ⟨(hR0.2 b d hbd).1, (hR0.2 b d hbd).2.kept (hkeep b (hR0.2 b d hbd).2.lt)⟩
  · show cells + 1 + (h.2.1 - 1) ≤ R.cells
    omega
  · show slots + 6 + (h.2.2.1 - 6) ≤ R.slots
    omega
  · show Outcome.threw T.heap.size = .threw h.1
    rw [hR0.1, hT]
  · show U.heap[h.1]? = some ce
    rw [hR0.1, ← hT]
    exact hce
  · show s.vm.findClass (fe_xn.getD x "") = some ce.cls
    rw [hcx]
    exact hcl
end FeT2
end
section
/-! calls of instance methods and constructors; catching -/
theorem fe_init_ok : (List.range 130).all (fun z => !(fe_mI z) || (decide (fe_mH z = []) && decide (fe_mR z = none) && !(fe_mS z))) = true := by decide +kernel
theorem fe_init_at {z : Nat} (hz : z < 130) (hI : fe_mI z = true) : fe_mH z = [] ∧ fe_mR z = none ∧ fe_mS z = false := by
  have h := List.all_eq_true.mp fe_init_ok z (List.mem_range.mpr hz)
  rw [hI] at h
  simpa [and_assoc] using h
section FeV
variable {p : Program} {l : Launch} {e : Env} {R : Room} {s : State} {m : MethodId} {args : Array Value} {below : List Frame} {meth : Method} {c : Code} {T : State} {locs : List Loc} {cells slots : Nat}
variable {y z idx pos sz : Nat} {nest : Bool} {D : fe_D} {E : fe_E} {mk : MethodId} {g : JFrame} {al rest : List Value} {b : Nat} {h : fe_H} {fs : List Value}
theorem fe_invV (X : Stand p l e R s m args below meth c T locs cells slots) (G : fe_G p l R s m meth c y D E sz) (hf : fe_cl.lookup (fe_mC y, idx) = some (z, nest, pos)) (hS : fe_mS z = false) (hI : fe_mI z = false) (hn : s.methodNamed? (fe_mN z) = some mk) (hR : fe_HR D sz h T.heap) (hb1 : fe_get h b = some (fe_O (fe_mC z) fs)) (hg : g.method = m) (hlen : al.length + 1 = fe_mA z) (hst : g.stack = al.reverse ++ .ref b :: rest) (hd : decode (fe_mB y) g.pc = .ok (.invokevirtual idx, 3)) : fe_Inv p l e R s m args below meth c T locs cells slots g rest mk (.ref b :: al) := by
  obtain ⟨hx, hb, -, -, -, hown, -, -, hE, -⟩ := G
  obtain ⟨hw, hz⟩ := fe_cl_in _ (fe_look hf)
  have hz : z < 130 := hz
  obtain ⟨mk', mt, ck, k, hn', a1, a2, a3, a4, a5, a6, a7, a8, a9, a10, a11, a12, a13⟩ := fe_mth hE.1 hz
  cases Option.some.inj (hn.symm.trans hn')
  have h0 := fe_mok_all hz
  simp only [fe_mok, Bool.and_eq_true, decide_eq_true_eq, hS, hI, Bool.false_or, Bool.false_eq_true, if_false] at h0
  obtain ⟨⟨⟨⟨⟨⟨⟨h1, h2⟩, h3⟩, ⟨⟨⟨h4, h41⟩, h42⟩, h43⟩⟩, h5⟩, h6⟩, h7⟩, h8⟩ := h0
  obtain ⟨mk2, mt2, hn2, b1, b2, b3⟩ := Cond.instanceMethod_spec (hE.1.at h4 (a := args))
  cases Option.some.inj (hn.symm.trans hn2)
  cases Option.some.inj (a1.symm.trans b1)
  have hcell : va_at D.1 vwCl (b, .inr (fe_mC z, fs)) T.heap := (hR.2 b _ hb1).2
  obtain ⟨r', hr', cellB, q1, q2, q3, -⟩ := hcell
  have hcls : s.vm.findClass (fe_cls (fe_mC z)) = some cellB.cls := by
    rw [h42, q2]
    exact (hE.2.1.1 (fe_mC z) _ (fe_vw_at _ h41)).2.1
  obtain ⟨c2, r2, m2, s1, s2, s3, s4, kP, hkP, hkPi⟩ := Cond.selects_spec (hE.1.at h43 (a := args))
  cases Option.some.inj (hcls.symm.trans s1)
  cases Option.some.inj ((State.methodFound?_of_named hn h7).symm.trans s2)
  cases Option.some.inj (hn.symm.trans s3)
  have hselP : selectMethod e.platform s.vm cellB.cls mk = .method mk := by rw [Launch.admits_selectMethod X.admits]; exact s4
  have hlen' : al.length = mt.sig.parameters.length := by
    rw [a8] at h8
    have h9 := Option.some.inj h8
    have h9 : mt.sig.parameters.length + 1 = fe_mA z := h9
    omega
  have hob : ∀ z, cellB.vm ≠ .statics z := fun z h => by rw [q3] at h; cases h
  cases nest with
  | false =>
    obtain ⟨vm', X', st⟩ := X.invokevirtual hx hown (hE.1.at (w := fe_cw (fe_mC y) idx z false) hw) hn a1 b2 hkP hkPi h7 (a := b) (cell := cellB) q1 hob hselP a1 b3 hkP hkPi (g := g) hg (argsL := al) (rest := rest) hlen' hst (by rw [hb]; exact hd)
    exact ⟨vm', X', fun t h => st t fun acts => by rw [doInvoke_state, ← doInvoke_state e _ []]; exact h⟩
  | true =>
    obtain ⟨vm', X', st⟩ := X.invokevirtualNest hx hown (hE.1.at (w := fe_cw (fe_mC y) idx z true) hw) hn a1 b2 hkP hkPi h7 (a := b) (cell := cellB) q1 hob hselP a1 b3 hkP hkPi (g := g) hg (argsL := al) (rest := rest) hlen' hst (by rw [hb]; exact hd)
    exact ⟨vm', X', fun t h => st t fun acts => by rw [doInvoke_state, ← doInvoke_state e _ []]; exact h⟩
theorem fe_invI (X : Stand p l e R s m args below meth c T locs cells slots) (G : fe_G p l R s m meth c y D E sz) (hf : fe_cl.lookup (fe_mC y, idx) = some (z, nest, pos)) (hI : fe_mI z = true) (hn : s.methodNamed? (fe_mN z) = some mk) (hg : g.method = m) (hlen : al.length + 1 = fe_mA z) (hst : g.stack = al.reverse ++ .ref b :: rest) (hd : decode (fe_mB y) g.pc = .ok (.invokespecial idx, 3)) : fe_Inv p l e R s m args below meth c T locs cells slots g rest mk (.ref b :: al) := by
  obtain ⟨hx, hb, -, -, -, hown, -, -, hE, -⟩ := G
  obtain ⟨hw, hz⟩ := fe_cl_in _ (fe_look hf)
  have hz : z < 130 := hz
  obtain ⟨hH, hRt, hS⟩ := fe_init_at hz hI
  have h0 := fe_mok_all hz
  simp only [fe_mok, Bool.and_eq_true, decide_eq_true_eq, hS, hI, Bool.true_or, Bool.false_eq_true, if_false] at h0
  obtain ⟨⟨⟨⟨⟨⟨⟨h1, h2⟩, h3⟩, ⟨⟨⟨h4, h41⟩, h42⟩, -⟩⟩, h5⟩, h6⟩, h7⟩, h8⟩ := h0
  have hcode : (Jvm.Cond.code (fe_mN z) (fe_mB z) (fe_mL z) none).before args s = true := by
    have hc := hE.1.at h1 (a := args)
    unfold fe_code at hc
    rw [hH, hRt] at hc
    exact hc
  have hlen' : ∀ sig, parseMethodDescriptor (fe_mN z).desc = some sig → al.length = sig.parameters.length := by
    intro sig hs
    rw [hs] at h8
    have h9 := Option.some.inj h8
    have h9 : sig.parameters.length + 1 = fe_mA z := h9
    omega
  have hpl : e.platform.magicAccessors = ({} : Platform).magicAccessors := by rw [X.admits.platform]
  subst hg
  cases nest with
  | false =>
    obtain ⟨mk2, mt, cM, kP, vm₁, hn2, -, -, -, -, -, -, -, hW₁, st⟩ := Steps.initColdArgs (e := e) X.here hx X.warmed hpl hown (h6.mpr trivial) h7 (hE.1.at (w := fe_cw (fe_mC y) idx z false) hw) (hE.1.at h4) hcode (f := g) rfl hlen' hst (by rw [hb]; exact hd)
    cases Option.some.inj (hn.symm.trans hn2)
    exact ⟨vm₁, X.noted hW₁, fun t h => st t fun acts => by rw [doInvoke_state, ← doInvoke_state e _ []]; exact h⟩
  | true =>
    obtain ⟨mk2, mt, cM, kP, vm₁, hn2, -, -, -, -, -, -, -, hW₁, st⟩ := Steps.initColdArgsNest (e := e) X.here hx X.warmed hpl hown (h6.mpr trivial) h7 (hE.1.at (w := fe_cw (fe_mC y) idx z true) hw) (hE.1.at h4) hcode (f := g) rfl hlen' hst (by rw [hb]; exact hd)
    cases Option.some.inj (hn.symm.trans hn2)
    exact ⟨vm₁, X.noted hW₁, fun t h => st t fun acts => by rw [doInvoke_state, ← doInvoke_state e _ []]; exact h⟩
theorem fe_cast_ok : (List.range 4).all (fun x => fe_in (.castable (fe_xn.getD x "") (fe_xn.getD x ""))) = true := by decide +kernel
theorem fe_hl_nz : ∀ q ∈ fe_hl, q.1.2 ≠ 0 := by decide
theorem fe_hgo_split {c pc x hp : Nat} : ∀ (hs : List (Nat × Nat × Nat × Nat)), fe_hgo c pc x hs = some hp → ∃ (pre : List (Nat × Nat × Nat × Nat)) (q : Nat × Nat × Nat × Nat) (suf : List (Nat × Nat × Nat × Nat)), hs = pre ++ q :: suf ∧ q.2.2.1 = hp ∧ (q.1 ≤ pc ∧ pc < q.2.1) ∧ fe_hl.lookup (c, q.2.2.2) = some x ∧ ∀ z ∈ pre, ¬ (z.1 ≤ pc ∧ pc < z.2.1) ∨ ∃ x', fe_hl.lookup (c, z.2.2.2) = some x' ∧ ((x = 1 ∧ x' = 0) ∨ (x = 2 ∧ x' = 1)) := by
  intro hs
  induction hs with
  | nil => intro h; cases h
  | cons q t ih =>
    intro h
    simp only [fe_hgo] at h
    split at h
    · next hc =>
      split at h
      · next x' hx' =>
        split at h
        · next e1 =>
          cases h
          subst e1
          exact ⟨[], q, t, rfl, rfl, hc, hx', fun z hz => absurd hz List.not_mem_nil⟩
        · split at h
          · next e2 =>
            obtain ⟨pre, q', suf, a1, a2, a3, a4, a5⟩ := ih h
            refine ⟨q :: pre, q', suf, by rw [a1]; rfl, a2, a3, a4, fun z hz => ?_⟩
            rcases List.mem_cons.mp hz with rfl | hz
            · exact Or.inr ⟨x', hx', e2⟩
            · exact a5 z hz
          · cases h
      · cases h
    · next hc =>
      obtain ⟨pre, q', suf, a1, a2, a3, a4, a5⟩ := ih h
      refine ⟨q :: pre, q', suf, by rw [a1]; rfl, a2, a3, a4, fun z hz => ?_⟩
      rcases List.mem_cons.mp hz with rfl | hz
      · exact Or.inl hc
      · exact a5 z hz
theorem fe_cov {q : Nat × Nat × Nat × Nat} {pc : Nat} : covers (⟨q.1, q.2.1, q.2.2.1, q.2.2.2⟩ : ExceptionTableEntry) pc = true ↔ (q.1 ≤ pc ∧ pc < q.2.1) := by
  simp [covers]
theorem fe_caught {x hp a : Nat} {ce : Cell} (X : Stand p l e R s m args below meth c T locs cells slots) (G : fe_G p l R s m meth c y D E sz) (hx4 : x < 4) (hh : fe_hgo (fe_mC y) g.pc x (fe_mH y) = some hp) (hce : T.heap[a]? = some ce) (hcv : ce.vm = .none) (hcl : s.vm.findClass (fe_xn.getD x "") = some ce.cls) (hg : g.method = m) :
    ∃ vm' : Vm, Stand p l e R s m args below meth c (T.setVm vm') locs cells slots ∧ Steps p.tables e below ((T.setTop g).pushFrame (.throwing a)) ((T.setVm vm').setTop { g with pc := hp, stack := [.ref a] }) := by
  obtain ⟨hx, hb, -, -, -, hown, htab, -, hE, -⟩ := G
  obtain ⟨pre, q, suf, a1, a2, a3, a4, a5⟩ := fe_hgo_split _ hh
  have hpl : e.platform.magicAccessors = ({} : Platform).magicAccessors := by rw [X.admits.platform]
  have hcast := List.all_eq_true.mp fe_cast_ok x (List.mem_range.mpr hx4)
  obtain ⟨c3, c4, hc3, hc4, hasg⟩ := Cond.castable_spec (hE.1.ok hcast (a := args))
  cases Option.some.inj (hc3.symm.trans hcl)
  cases Option.some.inj (hc4.symm.trans hcl)
  obtain ⟨-, hlk⟩ := fe_hl_in _ (fe_look a4)
  obtain ⟨c5, hc5, hcl5⟩ := Cond.classLink_spec hown (hE.1.ok hlk (a := args)) e.platform hpl
  cases Option.some.inj (hc5.symm.trans hcl)
  have hk0 : ∃ k, s.vm.classes[ce.cls]? = some k := by obtain ⟨k9, h9, -⟩ := Vm.findClass_spec hcl; exact ⟨k9, h9⟩
  obtain ⟨vm', X', st⟩ := X.thenCaughtThrough a hg (Steps.refl _) hce (by rw [hcv]; rfl) hk0 (tableOf pre) ⟨q.1, q.2.1, q.2.2.1, q.2.2.2⟩ (tableOf suf) (by rw [htab, a1]; simp [tableOf])
    (fun z hz => by
      obtain ⟨w, hw, rfl⟩ := List.mem_map.mp hz
      rcases a5 w hw with h | ⟨x', hx', hxx⟩
      · left
        cases hcov : covers (⟨w.1, w.2.1, w.2.2.1, w.2.2.2⟩ : ExceptionTableEntry) g.pc with
        | false => rfl
        | true => exact absurd (fe_cov.mp hcov) h
      · right
        obtain ⟨-, hlk'⟩ := fe_hl_in _ (fe_look hx')
        obtain ⟨c6, hc6, hcl6⟩ := Cond.classLink_spec hown (hE.1.ok hlk' (a := args)) e.platform hpl
        refine ⟨fe_hl_nz _ (fe_look hx'), c6, hcl6, ?_⟩
        have hno : va_Nc (fe_xn.getD x "") (fe_xn.getD x' "") s := by
          rcases hxx with ⟨rfl, rfl⟩ | ⟨rfl, rfl⟩
          · exact hE.2.2.2.2.2.2.2.2.1.2.1
          · exact hE.2.2.2.2.2.2.2.2.1.2.2
        obtain ⟨a8, b8, n1, n2, n3⟩ := hno
        cases Option.some.inj (n1.symm.trans hcl)
        cases Option.some.inj (n2.symm.trans hc6)
        exact n3) (fe_cov.mpr a3) (Or.inr ⟨fe_hl_nz _ (fe_look a4), _, hcl5, hasg⟩)
  refine ⟨vm', X', ?_⟩
  rw [a2] at st
  exact st
end FeV
end
section
/-! a call and what comes back -/
section FeB
variable {p : Program} {l : Launch} {e : Env} {R : Room} {s : State} {m : MethodId} {args : Array Value} {below : List Frame} {meth : Method} {c : Code} {H : Heap} {locs : List Loc} {cells slots : Nat}
variable {pc y z sz : Nat} {arr : Array Slot} {D : fe_D} {E : fe_E} {h : fe_H} {st as rest : List Value} {q Qf : fe_R × fe_H}
def fe_Rz (z : Nat) (h : fe_H) : Room := { frames := fe_mF z, cells := h.2.1, slots := h.2.2.1, locals := fe_mW z }
/-- what the callee's walk gives, whoever calls -/
def fe_Cal (p : Program) (l : Launch) (e : Env) (D : fe_D) (E : fe_E) (sz z : Nat) (as : List Value) (h : fe_H) (H : Heap) (q : fe_R × fe_H) : Prop :=
  ∀ (s' : State) (mk : MethodId) (mt : Method) (ck : Code) (below' : List Frame), s'.heap = H → fe_G p l (fe_Rz z h) s' mk mt ck z D E sz → W p l e (fe_Rz z h) s' mk as.toArray below' mt ck H [] 0 0 (fe_Fin D sz (fe_Rz z h) s' below' q) (entryFrame mk as.toArray (fe_mL z))
/-- what the caller needs behind it -/
def fe_Aft (p : Program) (l : Launch) (e : Env) (R : Room) (s : State) (m : MethodId) (args : Array Value) (below : List Frame) (meth : Method) (c : Code) (D : fe_D) (sz y pc : Nat) (arr : Array Slot) (rest : List Value) (q Qf : fe_R × fe_H) : Prop := match q.1 with
  | .inl v => fe_J1 p l e R s m args below meth c (fe_Fin D sz R s below Qf) D sz (F0 m (pc + 3) arr (v.toList ++ rest)) q.2
  | .inr x => (fe_mH y = [] ∧ Qf = (.inr x, q.2)) ∨ ∃ hp : Nat, fe_hgo (fe_mC y) pc x.1 (fe_mH y) = some hp ∧ fe_J1 p l e R s m args below meth c (fe_Fin D sz R s below Qf) D sz (F0 m hp arr [.ref x.2]) q.2
theorem fe_callW (G : fe_G p l R s m meth c y D E sz) (X0 : fe_X D sz R s h H locs cells slots) (hz : z < 130) {ig : Instr} (hd : decode (fe_mB y) pc = .ok (ig, 3)) (harr : arr.size = fe_mL y) (hrm : fe_rm y z rest.length = true)
    (hinv : ∀ (mk : MethodId) (T : State), s.methodNamed? (fe_mN z) = some mk → T.heap = H → Stand p l e R s m args below meth c T locs cells slots → fe_Inv p l e R s m args below meth c T locs cells slots (F0 m pc arr st) rest mk as)
    (hcal : fe_Cal p l e D E sz z as h H q) (haft : fe_Aft p l e R s m args below meth c D sz y pc arr rest q Qf) :
    W p l e R s m args below meth c H locs cells slots (fe_Fin D sz R s below Qf) (F0 m pc arr st) := by
  intro T hT X
  have G0 := G
  obtain ⟨hexec, hb, hml, hrt, hlocks, hown, htab, hini, hE, hF, hWd, hl⟩ := G
  obtain ⟨hR0, hS, hRc, hRs⟩ := X0
  obtain ⟨mk, mt, ck, kz, hn, a1, a2, a3, a4, a5, a6, a7, a8, a9, a10, a11, a12, a13⟩ := fe_mth hE.1 hz
  obtain ⟨vm', X₁, st1⟩ := hinv mk T hn hT X
  have hW₁ : s.WarmedH vm' := X₁.warmed
  have hm1 : (T.setVm vm').vm.method? mk = some mt := by rw [X₁.warmed.alike.method?]; exact a1
  have hpl : (T.setVm vm').plainMethod mk := by
    have h5 := fe_mok_all hz
    simp only [fe_mok, Bool.and_eq_true] at h5
    exact State.plainMethod.of_named h5.1.1.1.2 (X₁.named hn) hm1
  simp only [fe_rm, Bool.and_eq_true, decide_eq_true_eq] at hrm
  have hcat := fe_cat rest
  have hdc : decode c.code pc = .ok (ig, 3) := by rw [hb]; exact hd
  obtain ⟨Y, hdo⟩ := X₁.into (g := F0 m pc arr rest) rfl (by rw [hml]; exact harr) (ig := ig) (len := 3) hdc as.toArray (R' := fe_Rz z h) hm1 a2 a6 hpl
    (show fe_mF z + 1 ≤ R.frames by omega) (by show 2 * 0 + (rest.map fun v => v.category).sum + (ck.maxLocals + 11) + fe_mW z ≤ R.locals; rw [a4]; omega) (show cells + h.2.1 ≤ R.cells from hRc) (show slots + h.2.2.1 ≤ R.slots from hRs)
  have hheap : ((T.setVm vm').calling (F0 m pc arr rest) mk as.toArray).heap = H := hT
  have Gz : fe_G p l (fe_Rz z h) ((T.setVm vm').calling (F0 m pc arr rest) mk as.toArray) mk mt ck z D E sz := by
    refine ⟨hexec, a3, a4, a5, a6, ?_, a7, a9, hE.moved (U := (T.setVm vm').calling (F0 m pc arr rest) mk as.toArray) hW₁ ?_ ?_, Nat.le_refl _, Nat.le_refl _, hl⟩
    · show vm'.findClass _ = _
      rw [hW₁.alike.findClass]
      exact a10
    · rw [hheap]; exact hS.1
    · rw [hheap]; exact hS.2.1
  rw [a4] at Y hdo
  obtain ⟨t, hst, o, L, k, n, hrun, hend, hW, hsame, hX2, ho⟩ := hcal _ mk mt ck (.java (F0 m pc arr rest) :: below) hheap Gz (((T.setVm vm').setTop (F0 m pc arr rest)).pushFrame (.java (entryFrame mk as.toArray (fe_mL z)))) (show _ = H from hT) Y
  have hgo : ∀ t2 : State, Steps p.tables e below t t2 → Steps p.tables e below (T.setTop (F0 m pc arr st)) t2 := fun t2 h2 => st1 t2 (by
    show Steps p.tables e below (doInvoke e ((T.setVm vm').setTop (F0 m pc arr rest)) [] mk as.toArray).1 t2
    rw [hdo []]
    exact (Steps.weaken (mid := [.java (F0 m pc arr rest)]) hst).trans h2)
  obtain ⟨hR2, hS2, hk2, hn2⟩ := hX2
  rw [hheap] at hS2
  have hk2 : k + q.2.2.1 ≤ h.2.1 := hk2
  have hn2 : n + q.2.2.2.1 ≤ h.2.2.1 := hn2
  have hXn : fe_X D sz R s q.2 t.heap (locs ++ L) (cells + k) (slots + n) := by
    refine ⟨hR2, ⟨Nat.le_trans hS.1 hS2.1, fun b h1 h2 => (hS2.2.1 b (Nat.lt_of_lt_of_le h1 hS.1) h2).trans (hS.2.1 b h1 h2), fun b hb2 => ?_⟩, by omega, by omega⟩
    rcases List.mem_append.mp hb2 with h3 | h3
    · exact hS.2.2 b h3
    · exact hS2.2.2 b h3
  obtain ⟨q1, q2⟩ := q
  cases q1 with
  | inl v =>
    have ho : o = .returned v := ho
    subst ho
    obtain ⟨T', X', -, -, ht⟩ := X₁.outOf (g := F0 m pc arr rest) rfl hdc hend hW hsame
    have hth : t.heap = T'.heap := by rw [ht]; rfl
    rw [hth] at hXn
    have haft : fe_J1 p l e R s m args below meth c (fe_Fin D sz R s below Qf) D sz (F0 m (pc + 3) arr (v.toList ++ rest)) q2 := haft
    obtain ⟨t2, h1, h2⟩ := haft T'.heap _ _ _ hXn T' rfl X'
    refine ⟨t2, hgo t2 ?_, h2⟩
    rw [ht]
    exact h1
  | inr x =>
    have ho : o = .threw x.2 ∧ x.1 < 4 ∧ ∃ ce : Cell, t.heap[x.2]? = some ce ∧ ce.vm = .none ∧ ((T.setVm vm').calling (F0 m pc arr rest) mk as.toArray).vm.findClass (fe_xn.getD x.1 "") = some ce.cls := ho
    obtain ⟨rfl, hx4, ce, hce, hcv, hcl⟩ := ho
    have hcl : s.vm.findClass (fe_xn.getD x.1 "") = some ce.cls := by rw [← hW₁.alike.findClass]; exact hcl
    obtain ⟨T', X', -, -, ht⟩ := X₁.outOfThrown (g := F0 m pc arr rest) rfl hend hW hsame
    have hth : t.heap = T'.heap := by rw [ht, Stand.throwing_heap]
    rw [hth] at hXn hce
    have haft : (fe_mH y = [] ∧ Qf = (.inr x, q2)) ∨ ∃ hp : Nat, fe_hgo (fe_mC y) pc x.1 (fe_mH y) = some hp ∧ fe_J1 p l e R s m args below meth c (fe_Fin D sz R s below Qf) D sz (F0 m hp arr [.ref x.2]) q2 := haft
    rcases haft with ⟨hH, rfl⟩ | ⟨hp, hhp, haft⟩
    · have hout : ∀ w ∈ c.exceptionTable.toList, covers w pc = false := by
        rw [htab, hH]
        exact fun w hw => absurd hw List.not_mem_nil
      obtain ⟨s1, s2, s3, s4, s5⟩ := X'.leaveThrown x.2 (g := F0 m pc arr rest) rfl rfl rfl hout hlocks
      refine ⟨_, hgo _ (by rw [ht]; exact s1), .threw x.2, _, _, _, s2, s3, s4, s5, hXn, rfl, hx4, ce, hce, hcv, hcl⟩
    · obtain ⟨vm2, X2, s1⟩ := fe_caught (g := F0 m pc arr rest) X' G0 hx4 hhp hce hcv hcl rfl
      obtain ⟨t2, h1, h2⟩ := haft T'.heap _ _ _ hXn (T'.setVm vm2) rfl X2
      exact ⟨t2, hgo t2 (by rw [ht]; exact s1.trans h1), h2⟩
end FeB
end
section
/-! the small machine is sound -/
section FeM
variable {p : Program} {l : Launch} {e : Env} {R : Room} {s : State} {m : MethodId} {args : Array Value} {below : List Frame} {meth : Method} {c : Code} {H : Heap} {locs : List Loc} {cells slots : Nat}
variable {pc y z sz : Nat} {arr : Array Slot} {D : fe_D} {E : fe_E} {h : fe_H} {st as rest : List Value} {q Qf : fe_R × fe_H} {ls : fe_Ls}
/-- a return of an int or a boolean -/
theorem fe_w_ret (G : fe_G p l R s m meth c y D E sz) (X0 : fe_X D sz R s h H locs cells slots) {v : Int32} {ty : FieldType} (hR : fe_mR y = some ty) (hok : fe_okV ty (.int v) = true) (hd : decode (fe_mB y) pc = .ok (.ireturn, 1)) :
    W p l e R s m args below meth c H locs cells slots (fe_Fin D sz R s below (.inl (some (.int v)), h)) (F0 m pc arr [.int v]) := by
  obtain ⟨hexec, hb, hml, hrt, hlocks, hown, htab, hini, hE, hF, hWd, hl⟩ := G
  rw [hR] at hrt
  intro T hT X
  obtain ⟨fs, hret, hrun, hended, hW, hframe⟩ := X.leave (v := some (.int v)) (hlocks := hlocks) (fun h => by rw [hrt] at h; cases h)
  have hmeth' : T.vm.method? m = some meth := X.method'
  have hn := (fe_okV_spec hok).1
  have hdc : decode c.code pc = .ok (.ireturn, 1) := by rw [hb]; exact hd
  refine ⟨T.setFrames fs, ?_, .returned (some (.int v)), locs, cells, slots, hrun, hended, hW, hframe, ?_, rfl⟩
  · jvm_step X.here [X.here.top, hexec, hdc, hmeth', hrt, hn]
    (try refine ⟨rfl, ?_⟩); (try refine ⟨rfl, ?_⟩)
    first | (intro acts; rw [hret _ acts rfl rfl rfl]) | rw [hret _ _ rfl rfl rfl]
    exact Steps.refl _
  · show fe_X D sz R s h T.heap locs cells slots
    rw [hT]
    exact X0
theorem fe_w_vret (G : fe_G p l R s m meth c y D E sz) (X0 : fe_X D sz R s h H locs cells slots) (hR : fe_mR y = none) (hd : decode (fe_mB y) pc = .ok (.return_, 1)) :
    W p l e R s m args below meth c H locs cells slots (fe_Fin D sz R s below (.inl none, h)) (F0 m pc arr []) := by
  obtain ⟨hexec, hb, hml, hrt, hlocks, hown, htab, hini, hE, hF, hWd, hl⟩ := G
  rw [hR] at hrt
  intro T hT X
  obtain ⟨fs, hret, hrun, hended, hW, hframe⟩ := X.leave (v := none) (hlocks := hlocks) (fun _ => rfl)
  have hmeth' : T.vm.method? m = some meth := X.method'
  have hdc : decode c.code pc = .ok (.return_, 1) := by rw [hb]; exact hd
  refine ⟨T.setFrames fs, ?_, .returned none, locs, cells, slots, hrun, hended, hW, hframe, ?_, rfl⟩
  · jvm_step X.here [X.here.top, hexec, hdc, hmeth', hrt]
    (try refine ⟨rfl, ?_⟩); (try refine ⟨rfl, ?_⟩)
    first | (intro acts; rw [hret _ acts rfl rfl rfl]) | rw [hret _ _ rfl rfl rfl]
    exact Steps.refl _
  · show fe_X D sz R s h T.heap locs cells slots
    rw [hT]
    exact X0
theorem fe_xl_in : ∀ q ∈ fe_xl, q.1.1.1 = 6 ∧ q.2 < 4 ∧ fe_in (.classLink (fe_cls 6) q.1.1.2 (fe_xn.getD q.2 "")) = true ∧ fe_in (.initialized (fe_xn.getD q.2 "")) = true ∧ (fe_xs.lookup (6, q.1.2.1)).isSome = true ∧ ((q.2 = 0 ∧ q.1.2.2 = 174) ∨ (q.2 = 1 ∧ q.1.2.2 = 181) ∨ (q.2 = 2 ∧ q.1.2.2 = 81) ∨ (q.2 = 3 ∧ q.1.2.2 = 146)) ∧ vx_ot (.classLink (fe_cls 6) q.1.1.2 (fe_xn.getD q.2 "")) = true ∧ vx_ot (.initialized (fe_xn.getD q.2 "")) = true ∧ Bundle.fit (fe_xn.getD q.2 "") = true := by decide +kernel
/-- which text of the constructor, by the exception's number -/
theorem fe_xall {x ic : Nat} (hx : (x = 0 ∧ ic = 174) ∨ (x = 1 ∧ ic = 181) ∨ (x = 2 ∧ ic = 81) ∨ (x = 3 ∧ ic = 146)) : ∃ (i1 : Nat) (b1 : ByteArray), decode b1 0 = .ok (.aload_n 0, 1) ∧ decode b1 1 = .ok (.aload_n 1, 1) ∧ decode b1 2 = .ok (.invokespecial i1, 3) ∧ decode b1 5 = .ok (.return_, 1) ∧ (fe_xw ic (fe_xn.getD x "") i1 b1).all (fun w => fe_in w && vx_ot w) = true := by
  rcases hx with ⟨rfl, rfl⟩ | ⟨rfl, rfl⟩ | ⟨rfl, rfl⟩ | ⟨rfl, rfl⟩
  · exact ⟨7, Bundle.six, Bundle.six_0, Bundle.six_1, Bundle.six_2, Bundle.six_5, fe_xa_0⟩
  · exact ⟨7, Bundle.six, Bundle.six_0, Bundle.six_1, Bundle.six_2, Bundle.six_5, fe_xa_1⟩
  · exact ⟨7, Bundle.six, Bundle.six_0, Bundle.six_1, Bundle.six_2, Bundle.six_5, fe_xa_2⟩
  · exact ⟨13, prog_20_method_4_code, by decide +kernel, by decide +kernel, by decide +kernel, by decide +kernel, fe_xa_3⟩
theorem fe_w_throw (G : fe_G p l R s m meth c y D E sz) (X0 : fe_X D sz R s h H locs cells slots) {ik is ic x : Nat} (hx : fe_xl.lookup ((fe_mC y, ik), (is, ic)) = some x) (hsize : arr.size = fe_mL y)
    (d0 : fe_fetch y pc = some (.new ik)) (d3 : fe_fetch y (pc + 3) = some .dup) (d4 : fe_fetch y (pc + 4) = some (.ldc is)) (d6 : fe_fetch y (pc + 6) = some (.invokespecial ic)) (d9 : fe_fetch y (pc + 9) = some .athrow)
    (hF : 6 ≤ fe_mF y) (hWd : 2 * st.length + 82 ≤ fe_mW y) (hH : fe_mH y = []) (hn : fe_nw h 6 = true) :
    W p l e R s m args below meth c H locs cells slots (fe_Fin D sz R s below (.inr (x, h.1), fe_burn h 6)) (F0 m pc arr st) := by
  have hq := fe_xl_in _ (fe_look hx)
  obtain ⟨h6, hx4, w1, w2, hs, hcase, o1, o2, hfit⟩ := hq
  have h6 : fe_mC y = 6 := h6
  obtain ⟨i1, b1, g0, g1, g2, g5, hall⟩ := fe_xall hcase
  have hE := G.2.2.2.2.2.2.2.2.1
  obtain ⟨text, htx⟩ := Option.isSome_iff_exists.mp hs
  obtain ⟨sa, hsa⟩ := hE.2.2.2.2.2.2.2.2.1.1 _ (fe_look htx)
  have hml := G.2.2.1
  have hw : ∀ w ∈ fe_xw ic (fe_xn.getD x "") i1 b1, fe_in w = true ∧ vx_ot w = true := fun w hw => by
    have := List.all_eq_true.mp hall w hw
    simpa [Bool.and_eq_true] using this
  refine fe_throw G X0 hH (own := fe_cls 6) (cls := fe_xn.getD x "") (text := text) (ik := ik) (is := is) (ic := ic) (i1 := i1) (x := x) (b1 := b1) (sa := sa) (by rw [h6]) hx4 rfl hfit g0 g1 g2 g5 (hE.1.ok w1) (hE.1.ok w2) hsa (fun w hw' => hE.1.ok (hw w hw').1) ?_ (by rw [hml]; exact hsize)
    (fe_fetch_ok d0) (fe_fetch_ok d3) (fe_fetch_ok d4) (fe_fetch_ok d6) (fe_fetch_ok d9) hF hWd hn
  intro w hw'
  rcases List.mem_cons.mp hw' with rfl | hw'
  · exact o1
  · rcases List.mem_cons.mp hw' with rfl | hw'
    · exact o2
    · exact (hw w hw').2
theorem fe_ent_L {z : Nat} {as : List Value} (mk : MethodId) (hlen : as.length ≤ fe_mL z) (hcat : as.all (fun v => v.category == 1) = true) : ∃ arr : Array Slot, entryFrame mk as.toArray (fe_mL z) = F0 mk 0 arr [] ∧ fe_L arr (fe_mL z) (fe_ent z as) := by
  have hc : ∀ v ∈ as, v.category = 1 := fun v hv => by simpa using List.all_eq_true.mp hcat v hv
  have hsl : ∀ (l : List Value), (∀ v ∈ l, v.category = 1) → lg_sl l = l.map Slot.val := by
    intro l
    induction l with
    | nil => intro _; rfl
    | cons v t ih =>
      intro hh
      have h1 := hh v List.mem_cons_self
      have h2 := ih (fun w hw => hh w (List.mem_cons_of_mem _ hw))
      unfold lg_sl at h2 ⊢
      rw [List.flatMap_cons, h2, if_neg (by omega)]
      rfl
  have hla : ∀ (l : List Value) (k : Nat), (∀ v ∈ l, v.category = 1) → ∀ (i : Nat) (v : Value), l[i]? = some v → (k + i, v) ∈ lv_args k l := by
    intro l
    induction l with
    | nil => intro k _ i v h; cases h
    | cons w t ih =>
      intro k hh i v hv
      have h1 := hh w List.mem_cons_self
      simp only [lv_args, if_neg (show ¬ w.category = 2 by omega)]
      cases i with
      | zero => cases hv; exact List.mem_cons_self
      | succ i =>
        have := ih (k + 1) (fun w hw => hh w (List.mem_cons_of_mem _ hw)) i v hv
        rw [show k + (i + 1) = k + 1 + i by omega]
        exact List.mem_cons_of_mem _ this
  have hl0 : (lg_sl as).length ≤ fe_mL z := by rw [hsl as hc, List.length_map]; exact hlen
  have hl := lv_entry as hl0
  refine ⟨_, lg_entry_eq mk as (fe_mL z), hl.1, hl.2.1, ?_, fun i v hv => ?_⟩
  · unfold fe_ent
    rw [List.length_append, List.length_map, List.length_replicate]
    omega
  · unfold fe_ent at hv
    rw [List.getElem?_append] at hv
    split at hv
    · rw [List.getElem?_map] at hv
      cases hi : as[i]? with
      | none => rw [hi] at hv; cases hv
      | some w =>
        rw [hi] at hv
        cases hv
        have := hl.2.2 (0 + i, v) (hla as 0 hc i v hi)
        rw [Nat.zero_add] at this
        exact ⟨this, hc v (List.mem_of_getElem? hi)⟩
    · have := List.mem_of_getElem? hv
      have := List.eq_of_mem_replicate this
      cases this
end FeM
end
section
/-! Arrays.fill(long[], long) -/
theorem fe_put_put (h : fe_H) (a : Nat) (c1 c2 : fe_C) : fe_put (fe_put h a c1) a c2 = fe_put h a c2 := by
  unfold fe_put
  dsimp only
  congr 3
  funext b
  split <;> rfl
theorem fe_get_put (h : fe_H) (a : Nat) (c : fe_C) : fe_get (fe_put h a c) a = some c := by
  unfold fe_get fe_put
  simp
theorem fe_get_put_ne (h : fe_H) {a b : Nat} (c : fe_C) (hb : b ≠ a) : fe_get (fe_put h a c) b = fe_get h b := by
  unfold fe_get fe_put
  simp [hb]
theorem fe_arrV_congr {cA : ClassId} {n : Nat} {f g : Nat → Value} (h : ∀ j, j < n → f j = g j) : arrV cA n f = arrV cA n g := by
  unfold arrV
  congr 1
  apply Array.ext
  · simp
  · intro i h1 h2
    simp only [Array.getElem_ofFn]
    exact h i (by simpa using h1)
theorem fe_HR.same {D : fe_D} {sz a n : Nat} {h : fe_H} {H : Heap} {f g : Nat → Int64} (hr : fe_HR D sz (fe_put h a (fe_J n f)) H) (hfg : ∀ j, j < n → f j = g j) : fe_HR D sz (fe_put h a (fe_J n g)) H := by
  refine ⟨hr.1, fun b d hb => ?_⟩
  by_cases e : b = a
  · subst e
    rw [fe_get_put] at hb
    cases hb
    obtain ⟨h1, h2⟩ := hr.2 b _ (fe_get_put h b (fe_J n f))
    refine ⟨h1, ?_⟩
    show H[b]? = some (arrV _ n (fun j => .long (g j)))
    rw [fe_arrV_congr (g := fun j => .long (f j)) (fun j hj => by rw [hfg j hj])]
    exact h2
  · rw [fe_get_put_ne h _ e] at hb
    exact hr.2 b d (by rw [fe_get_put_ne h _ e]; exact hb)
theorem fe_ff_0 : fe_fetch 117 0 = some (.iconst 0) := by decide +kernel
theorem fe_ff_1 : fe_fetch 117 1 = some (.istore_n 3) := by decide +kernel
theorem fe_ff_2 : fe_fetch 117 2 = some (.aload_n 0) := by decide +kernel
theorem fe_ff_3 : fe_fetch 117 3 = some .arraylength := by decide +kernel
theorem fe_ff_4 : fe_fetch 117 4 = some (.istore 4) := by decide +kernel
theorem fe_ff_6 : fe_fetch 117 6 = some (.iload_n 3) := by decide +kernel
theorem fe_ff_7 : fe_fetch 117 7 = some (.iload 4) := by decide +kernel
theorem fe_ff_9 : fe_fetch 117 9 = some (.if_icmp .ge 13) := by decide +kernel
theorem fe_ff_12 : fe_fetch 117 12 = some (.aload_n 0) := by decide +kernel
theorem fe_ff_13 : fe_fetch 117 13 = some (.iload_n 3) := by decide +kernel
theorem fe_ff_14 : fe_fetch 117 14 = some (.lload_n 1) := by decide +kernel
theorem fe_ff_15 : fe_fetch 117 15 = some .lastore := by decide +kernel
theorem fe_ff_16 : fe_fetch 117 16 = some (.iinc 3 1) := by decide +kernel
theorem fe_ff_19 : fe_fetch 117 19 = some (.goto (-13)) := by decide +kernel
theorem fe_ff_22 : fe_fetch 117 22 = some .return_ := by decide +kernel
theorem fe_ff_R : fe_mR 117 = none ∧ fe_mL 117 = 5 := by decide +kernel
section FeF
variable {p : Program} {l : Launch} {e : Env} {R : Room} {s : State} {m : MethodId} {args : Array Value} {below : List Frame} {meth : Method} {c : Code}
variable {sz a n : Nat} {D : fe_D} {E : fe_E} {h : fe_H} {x : Int64}
theorem fe_inb_nI {i n : Nat} (h : i < n) (hn : n ≤ 1000000) : fe_inb (nI i) n = true := by
  simp only [fe_inb, Bool.and_eq_true, decide_eq_true_eq]
  refine ⟨nI_pos' (by omega), ?_⟩
  rw [nI_clamp (by omega)]
  exact h
set_option maxHeartbeats 4000000 in
theorem fe_fill_loop (G : fe_G p l R s m meth c 117 D E sz) (hn : n ≤ 1000000) : ∀ (k i : Nat) (f : Nat → Int64) (H : Heap) (locs : List Loc) (cells slots : Nat) (ls : Array Slot), i + k = n → (∀ j, j < i → f j = x) → fe_X D sz R s (fe_put h a (fe_J n f)) H locs cells slots → lv_has ls 5 [(4, .int (nI n)), (3, .int (nI i)), (0, .ref a), (1, .long x)] →
    W p l e R s m args below meth c H locs cells slots (fe_Fin D sz R s below (.inl none, fe_put h a (fe_J n (fun _ => x)))) (F0 m 6 ls []) := by
  have hx := G.1
  have hb := G.2.1
  intro k
  induction k with
  | zero =>
    intro i f H locs cells slots ls hi hf X hl
    refine lv_iload_n hx hb (fe_fetch_ok fe_ff_6) rfl (lv_at hl 1 rfl) ?_
    refine lv_iload hx hb (fe_fetch_ok fe_ff_7) (lv_at hl 0 rfl) ?_
    refine lv_icmp_ge (tgt := 22) hx hb (fe_fetch_ok fe_ff_9) (by decide) (fun _ => ?_) (fun hc => ?_)
    · refine fe_w_vret G ⟨X.1.same (fun j hj => hf j (by omega)), X.2⟩ fe_ff_R.1 (fe_fetch_ok fe_ff_22)
    · exact absurd (nI_le (by omega) (by omega)) hc
  | succ k ih =>
    intro i f H locs cells slots ls hi hf X hl
    refine lv_iload_n hx hb (fe_fetch_ok fe_ff_6) rfl (lv_at hl 1 rfl) ?_
    refine lv_iload hx hb (fe_fetch_ok fe_ff_7) (lv_at hl 0 rfl) ?_
    refine lv_icmp_ge (tgt := 22) hx hb (fe_fetch_ok fe_ff_9) (by decide) (fun hc => ?_) (fun _ => ?_)
    · exact absurd hc (nI_ge (by omega) (by omega))
    · refine lv_aload_n hx hb (fe_fetch_ok fe_ff_12) rfl (lv_at hl 2 rfl) ?_
      refine lv_iload_n hx hb (fe_fetch_ok fe_ff_13) rfl (lv_at hl 1 rfl) ?_
      refine lv_lload_n hx hb (fe_fetch_ok fe_ff_14) rfl (lv_at hl 3 rfl) ?_
      refine fe_w_jas G X (h' := fe_put h a (fe_J n (vp_updL f i x))) ?_ (fe_fetch_ok fe_ff_15) (fun H' locs' cells' slots' X' => ?_)
      · unfold fe_js
        rw [fe_get_put]
        dsimp only
        rw [if_pos (fe_inb_nI (by omega) hn), fe_put_put, nI_clamp (by omega)]
      · refine lv_iinc (v := nI (i + 1)) (lv' := [(3, .int (nI (i + 1))), (4, .int (nI n)), (0, .ref a), (1, .long x)]) hx hb (fe_fetch_ok fe_ff_16) hl (k := 1) rfl (nI_succ i).symm (by decide) rfl (fun ls hl => ?_)
        refine lv_goto (tgt := 6) hx hb (fe_fetch_ok fe_ff_19) (by decide) ?_
        refine ih (i + 1) (vp_updL f i x) H' locs' cells' slots' ls (by omega) (fun j hj => ?_) X' (lv_sub hl [1, 0, 2, 3] rfl)
        unfold vp_updL
        split
        · rfl
        · exact hf j (by omega)
theorem fe_fill_cal {H : Heap} {f : Nat → Int64} (hR : fe_HR D sz h H) (ha : fe_get h a = some (fe_J n f)) (hn : n ≤ 1000000) : fe_Cal p l e D E sz 117 [.ref a, .long x] h H (.inl none, fe_put h a (fe_J n (fun _ => x))) := by
  intro s' mk mt ck below' hH G
  have hx := G.1
  have hb := G.2.1
  have hl := lv_entry ([.ref a, .long x]) (n := 5) (Nat.le_of_ble_eq_true rfl)
  rw [fe_ff_R.2, lg_entry_eq]
  generalize (lg_sl ([.ref a, .long x]) ++ List.replicate (5 - (lg_sl ([.ref a, .long x])).length) Slot.unset).toArray = ls at hl ⊢
  have hl : lv_has ls 5 [(0, .ref a), (1, .long x)] := hl
  have X0 : fe_X D sz (fe_Rz 117 h) s' h H [] 0 0 := ⟨hR, by rw [hH]; exact va_S.rf, by show 0 + h.2.1 ≤ h.2.1; omega, by show 0 + h.2.2.1 ≤ h.2.2.1; omega⟩
  refine lv_iconst (v := 0) hx hb (fe_fetch_ok fe_ff_0) (by decide) ?_
  refine lv_istore_n (lv' := [(3, .int 0), (0, .ref a), (1, .long x)]) hx hb (fe_fetch_ok fe_ff_1) rfl hl (by decide) rfl (fun ls hl => ?_)
  refine lv_aload_n hx hb (fe_fetch_ok fe_ff_2) rfl (lv_at hl 1 rfl) ?_
  refine fe_w_len G X0 (n := n) (by unfold fe_ln; rw [ha]) (fe_fetch_ok fe_ff_3) ?_
  refine lv_istore (lv' := [(4, .int (nI n)), (3, .int 0), (0, .ref a), (1, .long x)]) hx hb (fe_fetch_ok fe_ff_4) hl (by decide) rfl (fun ls hl => ?_)
  have hsame : fe_put h a (fe_J n f) = h := by
    unfold fe_put
    obtain ⟨h1, h2, h3, h4⟩ := h
    dsimp only
    congr 3
    funext b
    split
    · next e => subst e; exact ha.symm
    · rfl
  have X1 : fe_X D sz (fe_Rz 117 h) s' (fe_put h a (fe_J n f)) H [] 0 0 := by rw [hsame]; exact X0
  exact fe_fill_loop G hn n 0 f H [] 0 0 ls (by omega) (fun j hj => by omega) X1 hl
end FeF
end
section
/-! THE SMALL MACHINE IS SOUND -/
theorem fe_fj_A : fe_mA 117 = 2 ∧ fe_mS 117 = true := by decide +kernel
section FeS
variable {p : Program} {l : Launch} {e : Env}
def fe_Snd (E : fe_E) (rec : fe_Rec) (p : Program) (l : Launch) (e : Env) : Prop := ∀ (y pc : Nat) (ls : fe_Ls) (st : List Value) (h : fe_H) (q : fe_R × fe_H), rec y pc ls st h = some q →
  ∀ (R : Room) (s : State) (m : MethodId) (args : Array Value) (below : List Frame) (meth : Method) (c : Code) (H : Heap) (locs : List Loc) (cells slots : Nat) (arr : Array Slot) (D : fe_D) (sz : Nat), fe_G p l R s m meth c y D E sz → fe_X D sz R s h H locs cells slots → fe_L arr (fe_mL y) ls →
    W p l e R s m args below meth c H locs cells slots (fe_Fin D sz R s below q) (F0 m pc arr st)
variable {R : Room} {s : State} {m : MethodId} {args : Array Value} {below : List Frame} {meth : Method} {c : Code} {H : Heap} {locs : List Loc} {cells slots : Nat} {arr : Array Slot} {D : fe_D} {sz : Nat} {E : fe_E} {rec : fe_Rec}
variable {y pc z : Nat} {ls : fe_Ls} {st as rest : List Value} {h : fe_H} {q q' : fe_R × fe_H}
theorem fe_aft (S : fe_Snd E rec p l e) (G : fe_G p l R s m meth c y D E sz) (hL : fe_L arr (fe_mL y) ls) (hbk : fe_bk rec y pc ls rest q' = some q) : fe_Aft p l e R s m args below meth c D sz y pc arr rest q' q := by
  obtain ⟨q1, q2⟩ := q'
  unfold fe_bk at hbk
  unfold fe_Aft
  cases q1 with
  | inl v => exact fun H' locs' c' s' X' => S _ _ _ _ _ _ hbk _ _ _ _ _ _ _ _ _ _ _ _ _ _ G X' hL
  | inr x =>
    dsimp only at hbk ⊢
    split at hbk
    · next hH =>
      cases hbk
      exact Or.inl ⟨hH, rfl⟩
    · split at hbk
      · next hp hhp => exact Or.inr ⟨hp, hhp, fun H' locs' c' s' X' => S _ _ _ _ _ _ hbk _ _ _ _ _ _ _ _ _ _ _ _ _ _ G X' hL⟩
      · cases hbk
theorem fe_cal (S : fe_Snd E rec p l e) (hR : fe_HR D sz h H) (hlen : as.length ≤ fe_mL z) (hcat : as.all (fun v => v.category == 1) = true) (hrun : rec z 0 (fe_ent z as) [] h = some q') : fe_Cal p l e D E sz z as h H q' := by
  intro s' mk mt ck below' hH Gz
  obtain ⟨arr0, e0, hL0⟩ := fe_ent_L mk hlen hcat
  rw [e0]
  exact S _ _ _ _ _ _ hrun _ _ _ _ _ _ _ _ _ _ _ _ _ _ Gz ⟨hR, by rw [hH]; exact va_S.rf, by show 0 + h.2.1 ≤ h.2.1; omega, by show 0 + h.2.2.1 ≤ h.2.2.1; omega⟩ hL0
theorem fe_call_spec (hc : fe_call rec y pc ls z st h = some q) : ∃ (as rest : List Value) (q' : fe_R × fe_H), st = as.reverse ++ rest ∧ as.length = fe_mA z ∧ fe_rm y z rest.length = true ∧ as.all (fun v => v.category == 1) = true ∧ as.length ≤ fe_mL z ∧ fe_rcv h z as = true ∧ rec z 0 (fe_ent z as) [] h = some q' ∧ fe_bk rec y pc ls rest q' = some q := by
  unfold fe_call at hc
  split at hc
  · next as rest hp =>
    split at hc
    · next hcond =>
      simp only [Bool.and_eq_true, decide_eq_true_eq] at hcond
      split at hc
      · next q' hq' =>
        obtain ⟨e1, e2⟩ := fe_popS _ _ _ _ hp
        exact ⟨as, rest, q', e1, e2, hcond.1.1.1, hcond.1.1.2, hcond.1.2, hcond.2, hq', hc⟩
      · cases hc
    · cases hc
  · cases hc
theorem fe_rcv_spec (hr : fe_rcv h z as = true) (hS : fe_mS z = false) : ∃ (b : Nat) (al fs : List Value), as = .ref b :: al ∧ fe_get h b = some (fe_O (fe_mC z) fs) := by
  unfold fe_rcv at hr
  rw [hS, Bool.false_or] at hr
  split at hr
  · next b al =>
    split at hr
    · next ci fs hg =>
      have := of_decide_eq_true hr
      subst this
      exact ⟨b, al, fs, rfl, hg⟩
    · cases hr
  · cases hr
set_option maxHeartbeats 4000000 in
theorem fe_ends_ok (S : fe_Snd E rec p l e) (G : fe_G p l R s m meth c y D E sz) (X : fe_X D sz R s h H locs cells slots) (hL : fe_L arr (fe_mL y) ls) {i : Instr} (hf : fe_fetch y pc = some i) (he : fe_ends rec y pc ls i st h = some q) :
    W p l e R s m args below meth c H locs cells slots (fe_Fin D sz R s below q) (F0 m pc arr st) := by
  have hd := fe_fetch_ok hf
  cases i with
  | invokestatic idx =>
    simp only [fe_ends] at he
    split at he
    · next z nest pos hlk =>
      split at he
      · next hz =>
        subst hz
        unfold fe_fill at he
        split at he
        · next x a rest =>
          split at he
          · next n f hga =>
            split at he
            · next hcond =>
              simp only [Bool.and_eq_true, decide_eq_true_eq] at hcond
              exact fe_callW G X (z := 117) (as := [.ref a, .long x]) (rest := rest) (by decide) hd hL.1 hcond.1 (fun mk T hn hT X0 => fe_invS X0 G hlk fe_fj_A.2 hn rfl fe_fj_A.1.symm rfl hd) (fe_fill_cal X.1 hga hcond.2) (show fe_J1 p l e R s m args below meth c (fe_Fin D sz R s below q) D sz (F0 m (pc + 3) arr rest) (fe_put h a (fe_J n (fun _ => x))) from fun H' locs' c' s' X' => S _ _ _ _ _ _ he _ _ _ _ _ _ _ _ _ _ _ _ _ _ G X' hL)
            · cases he
          · cases he
        · cases he
      · split at he
        · next hS =>
          obtain ⟨as, rest, q', e1, e2, e3, e4, e5, e6, e7, e8⟩ := fe_call_spec he
          subst e1
          exact fe_callW G X (z := z) (as := as) (rest := rest) (fe_cl_in _ (fe_look hlk)).2 hd hL.1 e3 (fun mk T hn hT X0 => fe_invS X0 G hlk hS hn rfl e2 rfl hd) (fe_cal S X.1 e5 e4 e7) (fe_aft S G hL e8)
        · cases he
    · cases he
  | invokevirtual idx =>
    simp only [fe_ends] at he
    split at he
    · next z nest pos hlk =>
      split at he
      · next hS =>
        simp only [Bool.and_eq_true, Bool.not_eq_true'] at hS
        obtain ⟨as, rest, q', e1, e2, e3, e4, e5, e6, e7, e8⟩ := fe_call_spec he
        obtain ⟨b, al, fs, rfl, hgb⟩ := fe_rcv_spec e6 hS.1
        subst e1
        exact fe_callW G X (z := z) (as := .ref b :: al) (rest := rest) (fe_cl_in _ (fe_look hlk)).2 hd hL.1 e3 (fun mk T hn hT X0 => fe_invV X0 G hlk hS.1 hS.2 hn (by rw [hT]; exact X.1) hgb rfl e2 (by simp) hd) (fe_cal S X.1 e5 e4 e7) (fe_aft S G hL e8)
      · cases he
    · cases he
  | invokespecial idx =>
    simp only [fe_ends] at he
    split at he
    · next z nest pos hlk =>
      split at he
      · next hI =>
        have hz : z < 130 := (fe_cl_in _ (fe_look hlk)).2
        obtain ⟨as, rest, q', e1, e2, e3, e4, e5, e6, e7, e8⟩ := fe_call_spec he
        obtain ⟨b, al, fs, rfl, hgb⟩ := fe_rcv_spec e6 (fe_init_at hz hI).2.2
        subst e1
        exact fe_callW G X (z := z) (as := .ref b :: al) (rest := rest) hz hd hL.1 e3 (fun mk T hn hT X0 => fe_invI X0 G hlk hI hn rfl e2 (by simp) hd) (fe_cal S X.1 e5 e4 e7) (fe_aft S G hL e8)
      · cases he
    · cases he
  | ireturn =>
    simp only [fe_ends] at he
    split at he
    · next v ty hR =>
      split at he
      · next hok =>
        cases he
        exact fe_w_ret G X hR hok hd
      · cases he
    · cases he
  | return_ =>
    simp only [fe_ends] at he
    split at he
    · next hR =>
      cases he
      exact fe_w_vret G X hR hd
    · cases he
  | new ik =>
    simp only [fe_ends] at he
    split at he
    · next is ic h4 h6 =>
      split at he
      · next x hx =>
        split at he
        · next hcond =>
          simp only [Bool.and_eq_true, decide_eq_true_eq, List.isEmpty_iff] at hcond
          cases he
          exact fe_w_throw G X hx hL.1 hf hcond.1.1.1.1.1 h4 h6 hcond.1.1.1.1.2 hcond.1.1.1.2 hcond.1.1.2 hcond.1.2 hcond.2
        · cases he
      · cases he
    · cases he
  | _ => simp [fe_ends] at he
theorem fe_sound (E : fe_E) (p : Program) (l : Launch) (e : Env) : ∀ n : Nat, fe_Snd E (fe_run E n) p l e := by
  intro n
  induction n with
  | zero => intro y pc ls st h q hq; cases hq
  | succ n ih =>
    intro y pc ls st h q hq R s m args below meth c H locs cells slots arr D sz G X hL
    have hq : fe_body E (fe_run E n) y pc ls st h = some q := hq
    unfold fe_body at hq
    split at hq
    · cases hq
    · next i hf =>
      split at hq
      · next pc' ls' st' hp => exact fe_pstep_ok G.1 G.2.1 (fe_fetch_ok hf) hp hL (fun arr' hL' => ih _ _ _ _ _ _ hq _ _ _ _ _ _ _ _ _ _ _ _ _ _ G X hL')
      · split at hq
        · next st' h' hs => exact fe_hstep_ok G X (fe_fetch_ok hf) hs hL.1 (fun H' locs' c' s' X' => ih _ _ _ _ _ _ hq _ _ _ _ _ _ _ _ _ _ _ _ _ _ G X' hL)
        · exact fe_ends_ok ih G X hL hf hq
end FeS
end
section
/-! from the small machine's run of the law to the claim -/
theorem fe_nc_no : ∀ w ∈ fe_nc, fe_mv w = false := by decide +kernel
def fe_h0 (sz : Nat) : fe_H := (sz, 601024, 7293033, fun _ => none)
/-- what is owed of the small machine: on every script the law answers 1 -/
def fe_Law : Prop := ∀ (b L : Nat) (xs : Nat → Int32) (tw sz : Nat), L ≤ 3584 → b < sz → ∃ (n : Nat) (h' : fe_H), fe_run (b, L, xs, tw) n 130 0 (fe_ent 130 [.ref b]) [] (fe_h0 sz) = some (.inl (some (.int 1)), h')
def R_law : String := "FloorEyesLaw"
def lw_P (b : Addr) (xs : List Int32) (args : Array Value) (s : State) : Prop := args = #[.ref b] ∧ s.IntsAt b xs ∧ xs.length ≤ 3584 ∧ (Jvm.Cond.and given_1 narrow_1).before args s = true
def lw_Q (_ : Array Value) (s : State) (o : Outcome) (t : State) : Prop := o = .returned (some (.int 1)) ∧ Framed s o t [] 601024 7293033
def lw_Z (below : List Frame) (a : Array Value) (s : State) : State → Prop := fun t => ∃ o, t.status = .running ∧ Ended t below o ∧ lw_Q a s o t
def lw_At (p : Program) (s : State) (m : MethodId) (meth : Method) (c : Code) (b L : Nat) (xs : Nat → Int32) : Prop :=
  p.tables.exec = Jvm.exec ∧ c.code = code ∧ meth.sig.returnType = ret ∧ c.maxLocals = 7 ∧ s.vm.findClass R_law = some m.cls ∧ (∀ w ∈ lw_tbl, w.before #[Value.ref b] s = true) ∧ va_X b L xs s s.heap ∧ b < s.heap.size ∧ meth.locks = false ∧ (Jvm.Cond.and given_1 narrow_1).before #[Value.ref b] s = true ∧ c.exceptionTable.toList = []
theorem fe_arr_of {s : State} {args : Array Value} {ty : FieldType} (h : (Jvm.Cond.arrayClass ty).before args s = true) (hty : ∀ C, ty ≠ .object C) : ∃ cA : ClassId, ArrOfT s cA ty ∧ va_RA s cA ty := by
  obtain ⟨cA, k, comp, h1, h2, h3⟩ := Cond.arrayClass_spec h
  refine ⟨cA, fun n z => ⟨fun k h => (by cases h), k, h2, comp, h3⟩, ?_⟩
  cases ty with
  | object C => exact absurd rfl (hty C)
  | _ => exact h1
theorem fe_arr_ofQ {s : State} {C : String} (h : va_AO C s) : ∃ cA : ClassId, ArrOfT s cA (.object C) ∧ va_RA s cA (.object C) := by
  obtain ⟨comp, cA, k, h1, h2, h3, h4, h5⟩ := Cond.arrayOver_spec h
  exact ⟨cA, fun n z => ⟨fun k h => (by cases h), k, h3, comp, h4⟩, k, comp, h3, h4, h1, h5⟩
theorem fe_known {s : State} {a : Array Value} (hts : ∀ w ∈ lw_tbl, w.before a s = true) (hwd : fe_wd s) : ∃ (dC : Nat → ClassId) (dI : Nat → Nat → Nat), ∀ (k : Nat) (q : vw_C), vwCl[k]? = some q → u_Kn s q.1 q.2.1 q.2.2 (dC k) (dI k) := by
  have one : ∀ ci, ∃ (cC : ClassId) (iS : Nat → Nat), ci < 8 → u_Kn s (fe_vw ci).1 (fe_vw ci).2.1 (fe_vw ci).2.2 cC iS := by
    intro ci
    by_cases hc : ci < 8
    · have hin : fe_in (.instantiable (fe_vw ci).1 (fe_nf ci)) = true := by
        revert ci
        decide +kernel
      obtain ⟨cC, iS, hk⟩ := u_known (ws := u_ws (fe_vw ci).1 (fe_vw ci).2.1 (fe_nf ci)) (args := #[]) (C := (fe_vw ci).1) (T := (fe_vw ci).2.1) (N := (fe_vw ci).2.2) (fun w hw => hwd.ok (fe_uw ci (List.mem_range.mpr hc) w hw)) (fun _ h => h) (hwd.ok hin)
      exact ⟨cC, iS, fun _ => hk⟩
    · exact ⟨0, fun _ => 0, fun h => absurd h hc⟩
  refine ⟨fun k => (one k).choose, fun k => (one k).choose_spec.choose, fun k q hq => ?_⟩
  have hk : k < 8 := (List.getElem?_eq_some_iff.mp hq).1
  rw [fe_vw_at k hk] at hq
  cases hq
  exact (one k).choose_spec.choose_spec hk
def fe_nr : List Jvm.Cond := [.arrayOf (.static "FloorEyes$Plan" "WITHOUT_BIT" "[J") .long, .eq (.length (.static "FloorEyes$Plan" "WITHOUT_BIT" "[J")) (.int 6), .isRef (.static Bundle.tN "UNASSIGNED_STACK" Bundle.steD), .isRef (.static Bundle.tN "SUPPRESSED_SENTINEL" Bundle.listD)] ++ fe_nc ++ (List.range 6).map (fun j => .eq (.elem (.static "FloorEyes$Plan" "WITHOUT_BIT" "[J") (.int (Int32.ofNat j))) (.long (fe_wb j))) ++ fe_xs.map (fun q => .exactly (.string (fe_cls q.1.1) q.1.2) "java/lang/String")
theorem fe_nr_in : ∀ w ∈ fe_nr, w ∈ flatC (Jvm.Cond.and given_1 narrow_1) := by decide +kernel
theorem fe_xs_in : ∀ q ∈ fe_xs, Jvm.Cond.stringRef (fe_cls q.1.1) q.1.2 q.2 ∈ lw_tbl := by decide +kernel
theorem fe_ls_in : Jvm.Cond.laysStatic "FloorEyes$Plan" "WITHOUT_BIT" "[J" ∈ lw_tbl ∧ Jvm.Cond.laysStatic Bundle.tN "UNASSIGNED_STACK" Bundle.steD ∈ lw_tbl ∧ Jvm.Cond.laysStatic Bundle.tN "SUPPRESSED_SENTINEL" Bundle.listD ∈ lw_tbl ∧ Jvm.Cond.initialized "FloorEyes$Plan" ∈ lw_tbl ∧ Jvm.Cond.initialized Bundle.tN ∈ lw_tbl ∧ Jvm.Cond.arrayOver (.object "FloorEyes$Eye") ∈ lw_tbl := by decide +kernel
theorem fe_ac_in : fe_in (.arrayClass .int) = true ∧ fe_in (.arrayClass .boolean) = true ∧ fe_in (.arrayClass .long) = true := by decide +kernel
theorem fe_start_EV {s : State} {b L : Nat} {xs : Nat → Int32} (hts : ∀ w ∈ lw_tbl, w.before #[Value.ref b] s = true) (hX : va_X b L xs s s.heap) (hbl : b < s.heap.size) (hgv : (Jvm.Cond.and given_1 narrow_1).before #[Value.ref b] s = true) : ∃ (D : fe_D) (tw : Nat), fe_EV D (b, L, xs, tw) s.heap.size s := by
  have hwd : fe_wd s := by
    intro w hw hm a
    rcases List.mem_append.mp hw with h | h
    · exact fe_move hm (State.WarmedH.refl s) (hts w h)
    · rw [fe_nc_no w h] at hm
      cases hm
  have hg : ∀ w ∈ fe_nr, w.before #[Value.ref b] s = true := fun w hw => flat_of_before _ hgv w (fe_nr_in w hw)
  obtain ⟨dC, dI, hk⟩ := fe_known hts hwd
  have hAO : va_AO "FloorEyes$Eye" s := va_AO.of (hts _ fe_ls_in.2.2.2.2.2)
  obtain ⟨cI, hI1, hI2⟩ := fe_arr_of (hwd.ok fe_ac_in.1 (a := #[])) (fun C h => by cases h)
  obtain ⟨cZ, hZ1, hZ2⟩ := fe_arr_of (hwd.ok fe_ac_in.2.1 (a := #[])) (fun C h => by cases h)
  obtain ⟨cJ, hJ1, hJ2⟩ := fe_arr_of (hwd.ok fe_ac_in.2.2 (a := #[])) (fun C h => by cases h)
  obtain ⟨cQ, hQ1, hQ2⟩ := fe_arr_ofQ hAO
  have hA : ∀ a : Nat, a < s.heap.size → ¬ fe_A s.heap.size a := fun a h => Nat.not_le.mpr h
  obtain ⟨tw, ht, hT⟩ := va_Tof (A := fe_A s.heap.size) (N := 6) (f := fun j => .long (fe_wb j)) (by decide) (hg (.arrayOf (.static "FloorEyes$Plan" "WITHOUT_BIT" "[J") .long) (by simp [fe_nr])) (va_eqt (hg (.eq (.length (.static "FloorEyes$Plan" "WITHOUT_BIT" "[J")) (.int 6)) (by simp [fe_nr])))
    (fun j hj => va_eqtl (hg _ (List.mem_append_left _ (List.mem_append_right _ (List.mem_map.mpr ⟨j, List.mem_range.mpr hj, rfl⟩))))) hA
  refine ⟨((dC, dI), cI, cZ, cJ, cQ), tw, hwd, ⟨hk, fun k q hq => ?_⟩, hbl, hX, va_Zref (hts _ fe_ls_in.1) (hts _ fe_ls_in.2.2.2.1) ht hA, hT, vx_Zqof (hts _ fe_ls_in.2.1) (hts _ fe_ls_in.2.2.2.2.1) (hg _ (by simp [fe_nr])) hA, vx_Zqof (hts _ fe_ls_in.2.2.1) (hts _ fe_ls_in.2.2.2.2.1) (hg _ (by simp [fe_nr])) hA, ⟨fun q hq => ?_, va_Nc.of (hg _ (List.mem_append_left _ (List.mem_append_left _ (List.mem_append_right _ (List.mem_of_getElem? (i := 0) rfl))))), va_Nc.of (hg _ (List.mem_append_left _ (List.mem_append_left _ (List.mem_append_right _ (List.mem_of_getElem? (i := 1) rfl)))))⟩, hAO, Nat.le_refl _⟩
  · unfold fe_tys at hq
    match k, hq with
    | 0, hq => cases hq; exact ⟨hI1, hI2⟩
    | 1, hq => cases hq; exact ⟨hZ1, hZ2⟩
    | 2, hq => cases hq; exact ⟨hJ1, hJ2⟩
    | 3, hq => cases hq; exact ⟨hQ1, hQ2⟩
    | k + 4, hq => cases hq
  · have hex := hg (.exactly (.string (fe_cls q.1.1) q.1.2) "java/lang/String") (List.mem_append_right _ (List.mem_map.mpr ⟨q, hq, rfl⟩))
    obtain ⟨a2, c2, cA, kA, q1, -⟩ := Cond.exactly_spec (args := #[Value.ref b]) (first := s) (o := none) (s := s) (idx := []) (t := .string (fe_cls q.1.1) q.1.2) (cls := "java/lang/String") hex
    exact ⟨a2, vk_R.of (hts _ (fe_xs_in q hq)) q1⟩
end
section
/-! weakest preconditions over the small machine: no fuel -/
def fe_le (r r' : fe_Rec) : Prop := ∀ (y pc : Nat) (ls : fe_Ls) (st : List Value) (h : fe_H) (q : fe_R × fe_H), r y pc ls st h = some q → r' y pc ls st h = some q
theorem fe_bk_le {r r' : fe_Rec} (hr : fe_le r r') {y pc : Nat} {ls : fe_Ls} {rest : List Value} {q q' : fe_R × fe_H} (h : fe_bk r y pc ls rest q' = some q) : fe_bk r' y pc ls rest q' = some q := by
  obtain ⟨q1, q2⟩ := q'
  unfold fe_bk at h ⊢
  cases q1 with
  | inl v => exact hr _ _ _ _ _ _ h
  | inr x =>
    dsimp only at h ⊢
    split at h
    · exact h
    · split at h
      · exact hr _ _ _ _ _ _ h
      · cases h
theorem fe_call_le {r r' : fe_Rec} (hr : fe_le r r') {y pc z : Nat} {ls : fe_Ls} {st : List Value} {h : fe_H} {q : fe_R × fe_H} (hc : fe_call r y pc ls z st h = some q) : fe_call r' y pc ls z st h = some q := by
  unfold fe_call at hc ⊢
  split at hc
  · split at hc
    · next hcond =>
      rw [if_pos hcond]
      split at hc
      · next q' hq' =>
        rw [hr _ _ _ _ _ _ hq']
        exact fe_bk_le hr hc
      · cases hc
    · cases hc
  · cases hc
theorem fe_fill_le {r r' : fe_Rec} (hr : fe_le r r') {y pc : Nat} {ls : fe_Ls} {st : List Value} {h : fe_H} {q : fe_R × fe_H} (hc : fe_fill r y pc ls st h = some q) : fe_fill r' y pc ls st h = some q := by
  unfold fe_fill at hc ⊢
  split at hc
  · split at hc
    · next n f hg =>
      split at hc
      · next hcond =>
        rw [if_pos hcond]
        exact hr _ _ _ _ _ _ hc
      · cases hc
    · cases hc
  · cases hc
theorem fe_ends_le {r r' : fe_Rec} (hr : fe_le r r') {y pc : Nat} {ls : fe_Ls} {i : Instr} {st : List Value} {h : fe_H} {q : fe_R × fe_H} (hc : fe_ends r y pc ls i st h = some q) : fe_ends r' y pc ls i st h = some q := by
  cases i with
  | invokestatic idx =>
    simp only [fe_ends] at hc ⊢
    split at hc
    · split at hc
      · next hz => rw [if_pos hz]; exact fe_fill_le hr hc
      · next hz =>
        rw [if_neg hz]
        split at hc
        · next hS => rw [if_pos hS]; exact fe_call_le hr hc
        · cases hc
    · cases hc
  | invokevirtual idx =>
    simp only [fe_ends] at hc ⊢
    split at hc
    · split at hc
      · next hS => rw [if_pos hS]; exact fe_call_le hr hc
      · cases hc
    · cases hc
  | invokespecial idx =>
    simp only [fe_ends] at hc ⊢
    split at hc
    · split at hc
      · next hS => rw [if_pos hS]; exact fe_call_le hr hc
      · cases hc
    · cases hc
  | ireturn => exact hc
  | return_ => exact hc
  | new ik => exact hc
  | _ => simp [fe_ends] at hc
theorem fe_body_le {E : fe_E} {r r' : fe_Rec} (hr : fe_le r r') : fe_le (fe_body E r) (fe_body E r') := by
  intro y pc ls st h q hq
  unfold fe_body at hq ⊢
  split at hq
  · cases hq
  · split at hq
    · exact hr _ _ _ _ _ _ hq
    · split at hq
      · exact hr _ _ _ _ _ _ hq
      · exact fe_ends_le hr hq
theorem fe_run_le (E : fe_E) : ∀ n : Nat, fe_le (fe_run E n) (fe_run E (n + 1)) := by
  intro n
  induction n with
  | zero => intro y pc ls st h q hq; cases hq
  | succ n ih => exact fun y pc ls st h q hq => fe_body_le ih y pc ls st h q hq
theorem fe_run_mono (E : fe_E) {n k : Nat} (h : n ≤ k) : fe_le (fe_run E n) (fe_run E k) := by
  induction h with
  | refl => exact fun _ _ _ _ _ _ h => h
  | step _ ih => exact fun y pc ls st h q hq => fe_run_le E _ y pc ls st h q (ih y pc ls st h q hq)
def fe_WP (E : fe_E) (y pc : Nat) (ls : fe_Ls) (st : List Value) (h : fe_H) (K : fe_R → fe_H → Prop) : Prop := ∃ (n : Nat) (r : fe_R) (h' : fe_H), fe_run E n y pc ls st h = some (r, h') ∧ K r h'
section FeW
variable {E : fe_E} {y pc : Nat} {ls : fe_Ls} {st : List Value} {h : fe_H} {K : fe_R → fe_H → Prop}
theorem fe_wp_mono {K' : fe_R → fe_H → Prop} (hk : ∀ r h', K r h' → K' r h') (w : fe_WP E y pc ls st h K) : fe_WP E y pc ls st h K' := by
  obtain ⟨n, r, h', a, b⟩ := w
  exact ⟨n, r, h', a, hk r h' b⟩
/-- an end is the end: what holds of it is all that holds -/
theorem fe_wp_iff {r0 : fe_R} {h0 : fe_H} (w : fe_WP E y pc ls st h (fun r h' => r = r0 ∧ h' = h0)) : fe_WP E y pc ls st h K ↔ K r0 h0 := by
  obtain ⟨n, r, h', a, rfl, rfl⟩ := w
  constructor
  · rintro ⟨k, r2, h2, b, hK⟩
    have a2 := fe_run_mono E (Nat.le_max_left n k) _ _ _ _ _ _ a
    have b2 := fe_run_mono E (Nat.le_max_right n k) _ _ _ _ _ _ b
    cases a2.symm.trans b2
    exact hK
  · exact fun hK => ⟨n, _, _, a, hK⟩
theorem fe_wp_step (rec' : Nat → Option (fe_R × fe_H)) (hs : ∀ n, fe_run E (n + 1) y pc ls st h = rec' n) : fe_WP E y pc ls st h K ↔ ∃ (n : Nat) (r : fe_R) (h' : fe_H), rec' n = some (r, h') ∧ K r h' := by
  constructor
  · rintro ⟨n, r, h', a, b⟩
    cases n with
    | zero => cases a
    | succ n => exact ⟨n, r, h', (hs n).symm.trans a, b⟩
  · rintro ⟨n, r, h', a, b⟩
    exact ⟨n + 1, r, h', (hs n).trans a, b⟩
theorem fe_wp_p {i : Instr} {pc' : Nat} {ls' : fe_Ls} {st' : List Value} (hf : fe_fetch y pc = some i) (hp : fe_pstep i pc ls st = some (pc', ls', st')) : fe_WP E y pc ls st h K ↔ fe_WP E y pc' ls' st' h K :=
  fe_wp_step (fun n => fe_run E n y pc' ls' st' h) (fun n => by show fe_body E _ y pc ls st h = _; unfold fe_body; rw [hf]; dsimp only; rw [hp])
theorem fe_wp_b {i : Instr} {t f : Nat} {b : Bool} {P : Prop} [Decidable P] {ls' : fe_Ls} {st' : List Value} (hf : fe_fetch y pc = some i) (hp : fe_pstep i pc ls st = some (if b then t else f, ls', st')) (hb : b = decide P) : fe_WP E y pc ls st h K ↔ if P then fe_WP E y t ls' st' h K else fe_WP E y f ls' st' h K := by
  rw [fe_wp_p hf hp, hb]
  by_cases hP : P
  · simp [hP]
  · simp [hP]
theorem fe_wp_no {i : Instr} (hf : fe_fetch y pc = some i) (hp : fe_pstep i pc ls st = none) (hh : fe_hstep E y i st h = none) (he : ∀ rec : fe_Rec, fe_ends rec y pc ls i st h = none) : ¬ fe_WP E y pc ls st h K := by
  rintro ⟨n, r, h', a, b⟩
  cases n with
  | zero => cases a
  | succ n =>
    have a : fe_body E (fe_run E n) y pc ls st h = some (r, h') := a
    unfold fe_body at a
    rw [hf] at a
    dsimp only at a
    rw [hp] at a
    dsimp only at a
    rw [hh] at a
    dsimp only at a
    rw [he] at a
    cases a
theorem fe_wp_d {i : Instr} {b : Int32} {pc' : Nat} {ls' : fe_Ls} {st' : List Value} (hf : fe_fetch y pc = some i) (hp : fe_pstep i pc ls st = if b = 0 then none else some (pc', ls', st')) (hh : fe_hstep E y i st h = none) (he : ∀ rec : fe_Rec, fe_ends rec y pc ls i st h = none) : fe_WP E y pc ls st h K ↔ ¬ b = 0 ∧ fe_WP E y pc' ls' st' h K := by
  by_cases hb : b = 0
  · rw [if_pos hb] at hp
    simp only [hb, not_true_eq_false, false_and, iff_false]
    exact fe_wp_no hf hp hh he
  · rw [if_neg hb] at hp
    simp only [hb, not_false_eq_true, true_and]
    exact fe_wp_p hf hp
theorem fe_wp_h {i : Instr} {α : Type} {o : Option α} {g : α → List Value × fe_H} {pc' : Nat} (hf : fe_fetch y pc = some i) (hp : fe_pstep i pc ls st = none) (hh : fe_hstep E y i st h = o.map g) (he : ∀ rec : fe_Rec, fe_ends rec y pc ls i st h = none) (hl : pc + fe_len pc i = pc') : fe_WP E y pc ls st h K ↔ ∃ v, o = some v ∧ fe_WP E y pc' ls (g v).1 (g v).2 K := by
  cases o with
  | none =>
    simp only [reduceCtorEq, false_and, exists_false, iff_false]
    exact fe_wp_no hf hp hh he
  | some v =>
    simp only [Option.some.injEq, exists_eq_left']
    subst hl
    exact fe_wp_step (fun n => fe_run E n y (pc + fe_len pc i) ls (g v).1 (g v).2) (fun n => by show fe_body E _ y pc ls st h = _; unfold fe_body; rw [hf]; dsimp only; rw [hp]; dsimp only; rw [hh]; rfl)
/-- an instruction that ends, by a condition -/
theorem fe_wp_e {i : Instr} {P : Prop} [Decidable P] {q : fe_R × fe_H} (hf : fe_fetch y pc = some i) (hp : fe_pstep i pc ls st = none) (hh : fe_hstep E y i st h = none) (he : ∀ rec : fe_Rec, fe_ends rec y pc ls i st h = if P then some q else none) : fe_WP E y pc ls st h K ↔ P ∧ K q.1 q.2 := by
  by_cases hP : P
  · simp only [hP, true_and]
    rw [fe_wp_step (fun n => some q) (fun n => by show fe_body E _ y pc ls st h = _; unfold fe_body; rw [hf]; dsimp only; rw [hp]; dsimp only; rw [hh]; dsimp only; rw [he, if_pos hP])]
    constructor
    · rintro ⟨n, r, h', a, b⟩
      cases a
      exact b
    · exact fun hK => ⟨0, q.1, q.2, rfl, hK⟩
  · simp only [hP, false_and, iff_false]
    exact fe_wp_no hf hp hh (fun rec => by rw [he, if_neg hP])
/-- behind a call -/
def fe_KB (E : fe_E) (y pc : Nat) (ls : fe_Ls) (rest : List Value) (K : fe_R → fe_H → Prop) : fe_R → fe_H → Prop := fun r h' => match r with
  | .inl v => fe_WP E y (pc + 3) ls (v.toList ++ rest) h' K
  | .inr x => match fe_mH y with
    | [] => K (.inr x) h'
    | hs => match fe_hgo (fe_mC y) pc x.1 hs with
      | some hp => fe_WP E y hp ls [.ref x.2] h' K
      | none => False
theorem fe_bk_KB {rest : List Value} {q' : fe_R × fe_H} : (∃ (n : Nat) (r : fe_R) (h' : fe_H), fe_bk (fe_run E n) y pc ls rest q' = some (r, h') ∧ K r h') ↔ fe_KB E y pc ls rest K q'.1 q'.2 := by
  obtain ⟨q1, q2⟩ := q'
  unfold fe_bk fe_KB
  cases q1 with
  | inl v => exact Iff.rfl
  | inr x =>
    dsimp only
    generalize fe_mH y = hs
    cases hs with
    | nil =>
      constructor
      · rintro ⟨n, r, h', a, b⟩
        cases a
        exact b
      · exact fun hK => ⟨0, _, _, rfl, hK⟩
    | cons w t =>
      dsimp only
      generalize fe_hgo (fe_mC y) pc x.1 (w :: t) = o
      cases o with
      | some hp => exact Iff.rfl
      | none => simp
theorem fe_wp_call {i : Instr} {z : Nat} {as rest : List Value} {P : Prop} [Decidable P] (hf : fe_fetch y pc = some i) (hp : fe_pstep i pc ls st = none) (hh : fe_hstep E y i st h = none)
    (he : ∀ rec : fe_Rec, fe_ends rec y pc ls i st h = if P then (match rec z 0 (fe_ent z as) [] h with
      | some q => fe_bk rec y pc ls rest q
      | none => none) else none) : fe_WP E y pc ls st h K ↔ P ∧ fe_WP E z 0 (fe_ent z as) [] h (fe_KB E y pc ls rest K) := by
  by_cases hP : P
  · simp only [hP, true_and]
    rw [fe_wp_step (fun n => match fe_run E n z 0 (fe_ent z as) [] h with
      | some q => fe_bk (fe_run E n) y pc ls rest q
      | none => none) (fun n => by show fe_body E _ y pc ls st h = _; unfold fe_body; rw [hf]; dsimp only; rw [hp]; dsimp only; rw [hh]; dsimp only; rw [he, if_pos hP])]
    constructor
    · rintro ⟨n, r, h', a, b⟩
      split at a
      · next q hq => exact ⟨n, q.1, q.2, hq, fe_bk_KB.mp ⟨n, r, h', a, b⟩⟩
      · cases a
    · rintro ⟨n, r, h', a, b⟩
      obtain ⟨k, r2, h2, c, d⟩ := fe_bk_KB (q' := (r, h')).mpr b
      refine ⟨max n k, r2, h2, ?_, d⟩
      rw [fe_run_mono E (Nat.le_max_left n k) _ _ _ _ _ _ a]
      exact fe_bk_le (fe_run_mono E (Nat.le_max_right n k)) c
  · simp only [hP, false_and, iff_false]
    exact fe_wp_no hf hp hh (fun rec => by rw [he, if_neg hP])
end FeW
end
section
/-! one row a kind of instruction -/
def fe_ob (h : fe_H) (b ci : Nat) : Bool := match fe_get h b with
  | some (.inl (cj, _)) => decide (cj = ci)
  | _ => false
section FeQ
variable {E : fe_E} {y pc : Nat} {ls : fe_Ls} {st r : List Value} {h : fe_H} {K : fe_R → fe_H → Prop} {a idx ci k pos : Nat} {nest : Bool}
theorem fe_w1_get (hf : fe_fetch y pc = some (.getfield idx)) (hl : fe_fl.lookup (fe_mC y, idx) = some (ci, k, nest, pos)) : fe_WP E y pc ls (.ref a :: r) h K ↔ ∃ v, fe_gf h a ci k = some v ∧ fe_WP E y (pc + 3) ls (v :: r) h K :=
  fe_wp_h (o := fe_gf h a ci k) (g := fun v => (v :: r, h)) hf rfl (by simp only [fe_hstep, hl]) (fun _ => rfl) rfl
theorem fe_w1_put {v : Value} (hf : fe_fetch y pc = some (.putfield idx)) (hl : fe_fl.lookup (fe_mC y, idx) = some (ci, k, nest, pos)) (hc : (!(fe_fin ci k) || (fe_mI y && decide (fe_mC y = ci) && !nest)) = true) : fe_WP E y pc ls (v :: .ref a :: r) h K ↔ fe_okV (fe_ty ci k) v = true ∧ ∃ h', fe_pf h a ci k v = some h' ∧ fe_WP E y (pc + 3) ls r h' K := by
  by_cases ho : fe_okV (fe_ty ci k) v = true
  · simp only [ho, true_and]
    exact fe_wp_h (o := fe_pf h a ci k v) (g := fun h' => (r, h')) hf rfl (by simp only [fe_hstep, hl, ho, hc, Bool.and_self, if_true]) (fun _ => rfl) rfl
  · simp only [ho, Bool.false_eq_true, false_and, iff_false]
    exact fe_wp_no hf rfl (by simp only [fe_hstep, hl, ho, Bool.false_and, Bool.false_eq_true, if_false]) (fun _ => rfl)
theorem fe_w1_puti {x : Int32} (hf : fe_fetch y pc = some (.putfield idx)) (hl : fe_fl.lookup (fe_mC y, idx) = some (ci, k, nest, pos)) (hc : (!(fe_fin ci k) || (fe_mI y && decide (fe_mC y = ci) && !nest)) = true) (ht : fe_ty ci k = .int) : fe_WP E y pc ls (.int x :: .ref a :: r) h K ↔ ∃ h', fe_pf h a ci k (.int x) = some h' ∧ fe_WP E y (pc + 3) ls r h' K := by
  rw [fe_w1_put hf hl hc, ht]
  simp only [fe_okV, true_and]
theorem fe_w1_putz {x : Int32} (hf : fe_fetch y pc = some (.putfield idx)) (hl : fe_fl.lookup (fe_mC y, idx) = some (ci, k, nest, pos)) (hc : (!(fe_fin ci k) || (fe_mI y && decide (fe_mC y = ci) && !nest)) = true) (ht : fe_ty ci k = .boolean) : fe_WP E y pc ls (.int x :: .ref a :: r) h K ↔ (x = 0 ∨ x = 1) ∧ ∃ h', fe_pf h a ci k (.int x) = some h' ∧ fe_WP E y (pc + 3) ls r h' K := by
  rw [fe_w1_put hf hl hc, ht]
  simp only [fe_okV, Bool.or_eq_true, decide_eq_true_eq]
theorem fe_w1_putr {x : Nat} (hf : fe_fetch y pc = some (.putfield idx)) (hl : fe_fl.lookup (fe_mC y, idx) = some (ci, k, nest, pos)) (hc : (!(fe_fin ci k) || (fe_mI y && decide (fe_mC y = ci) && !nest)) = true) (ht : fe_okV (fe_ty ci k) (.ref 0) = true) : fe_WP E y pc ls (.ref x :: .ref a :: r) h K ↔ ∃ h', fe_pf h a ci k (.ref x) = some h' ∧ fe_WP E y (pc + 3) ls r h' K := by
  rw [fe_w1_put hf hl hc]
  have h1 : fe_okV (fe_ty ci k) (.ref x) = true := by
    generalize fe_ty ci k = ty at ht
    cases ty <;> first | rfl | cases ht
  simp only [h1, true_and]
theorem fe_w1_ia {i : Int32} (hf : fe_fetch y pc = some .iaload) : fe_WP E y pc ls (.int i :: .ref a :: r) h K ↔ ∃ x, fe_ia E h a i = some x ∧ fe_WP E y (pc + 1) ls (.int x :: r) h K :=
  fe_wp_h (o := fe_ia E h a i) (g := fun x => (.int x :: r, h)) hf rfl rfl (fun _ => rfl) rfl
theorem fe_w1_za {i : Int32} (hf : fe_fetch y pc = some .baload) : fe_WP E y pc ls (.int i :: .ref a :: r) h K ↔ ∃ x, fe_za h a i = some x ∧ fe_WP E y (pc + 1) ls (.int (fe_bi x) :: r) h K :=
  fe_wp_h (o := fe_za h a i) (g := fun x => (.int (fe_bi x) :: r, h)) hf rfl rfl (fun _ => rfl) rfl
theorem fe_w1_ja {i : Int32} (hf : fe_fetch y pc = some .laload) : fe_WP E y pc ls (.int i :: .ref a :: r) h K ↔ ∃ x, fe_ja E h a i = some x ∧ fe_WP E y (pc + 1) ls (.long x :: r) h K :=
  fe_wp_h (o := fe_ja E h a i) (g := fun x => (.long x :: r, h)) hf rfl rfl (fun _ => rfl) rfl
theorem fe_w1_qa {i : Int32} (hf : fe_fetch y pc = some .aaload) : fe_WP E y pc ls (.int i :: .ref a :: r) h K ↔ ∃ x, fe_qa h a i = some x ∧ fe_WP E y (pc + 1) ls (x :: r) h K :=
  fe_wp_h (o := fe_qa h a i) (g := fun x => (x :: r, h)) hf rfl rfl (fun _ => rfl) rfl
theorem fe_w1_ln (hf : fe_fetch y pc = some .arraylength) : fe_WP E y pc ls (.ref a :: r) h K ↔ ∃ n, fe_ln E h a = some n ∧ fe_WP E y (pc + 1) ls (.int (Int32.ofNat n) :: r) h K :=
  fe_wp_h (o := fe_ln E h a) (g := fun n => (.int (Int32.ofNat n) :: r, h)) hf rfl rfl (fun _ => rfl) rfl
theorem fe_w1_is {i x : Int32} (hf : fe_fetch y pc = some .iastore) : fe_WP E y pc ls (.int x :: .int i :: .ref a :: r) h K ↔ ∃ h', fe_is h a i x = some h' ∧ fe_WP E y (pc + 1) ls r h' K :=
  fe_wp_h (o := fe_is h a i x) (g := fun h' => (r, h')) hf rfl rfl (fun _ => rfl) rfl
theorem fe_w1_zs {i x : Int32} (hf : fe_fetch y pc = some .bastore) : fe_WP E y pc ls (.int x :: .int i :: .ref a :: r) h K ↔ ∃ h', fe_zs h a i x = some h' ∧ fe_WP E y (pc + 1) ls r h' K :=
  fe_wp_h (o := fe_zs h a i x) (g := fun h' => (r, h')) hf rfl rfl (fun _ => rfl) rfl
theorem fe_w1_js {i : Int32} {x : Int64} (hf : fe_fetch y pc = some .lastore) : fe_WP E y pc ls (.long x :: .int i :: .ref a :: r) h K ↔ ∃ h', fe_js h a i x = some h' ∧ fe_WP E y (pc + 1) ls r h' K :=
  fe_wp_h (o := fe_js h a i x) (g := fun h' => (r, h')) hf rfl rfl (fun _ => rfl) rfl
theorem fe_w1_qs {i : Int32} {x : Nat} (hf : fe_fetch y pc = some .aastore) : fe_WP E y pc ls (.ref x :: .int i :: .ref a :: r) h K ↔ ∃ h', fe_qs h a i x = some h' ∧ fe_WP E y (pc + 1) ls r h' K :=
  fe_wp_h (o := fe_qs h a i x) (g := fun h' => (r, h')) hf rfl rfl (fun _ => rfl) rfl
theorem fe_ofif {α : Type} {b : Bool} {x : α} : (if b then some x else none) = (if b then some () else none).map (fun _ => x) := by cases b <;> rfl
theorem fe_ofif_some {b : Bool} : (∃ v, (if b then some () else none) = some v ∧ (fun (_ : Unit) => True) v) ↔ b = true := by cases b <;> simp
theorem fe_w1_new {N : Nat} {fs : List Value} (hf : fe_fetch y pc = some (.new idx)) (hl : fe_nl.lookup (fe_mC y, idx) = some ci) (hN : fe_nf ci = N) (hd : fe_df ci = fs) : fe_WP E y pc ls st h K ↔ fe_nw h N = true ∧ fe_WP E y (pc + 3) ls (.ref h.1 :: st) (fe_add h N (fe_O ci fs)) K := by
  subst hN
  subst hd
  by_cases hn : fe_nw h (fe_nf ci) = true
  · simp only [hn, true_and]
    exact (fe_wp_h (o := some ()) (g := fun _ => (.ref h.1 :: st, fe_add h (fe_nf ci) (fe_O ci (fe_df ci)))) hf rfl (by simp only [fe_hstep, hl, hn, if_true, Option.map_some]) (fun rec => by
      have hd := fe_fetch_ok hf
      simp only [fe_ends]
      split
      · next is ic h4 h6 =>
        have hx : fe_xl.lookup ((fe_mC y, idx), (is, ic)) = none := by
          cases hz : fe_xl.lookup ((fe_mC y, idx), (is, ic)) with
          | none => rfl
          | some x =>
            exfalso
            have h1 := fe_look hz
            have h2 := fe_look hl
            have h3 : ∀ q ∈ fe_xl, ∀ w ∈ fe_nl, q.1.1 ≠ w.1 := by decide
            exact h3 _ h1 _ h2 rfl
        rw [hx]
      · rfl) rfl).trans (by simp [fe_len])
  · simp only [hn, Bool.false_eq_true, false_and, iff_false]
    refine fe_wp_no hf rfl (by simp only [fe_hstep, hl, hn, Bool.false_eq_true, if_false]) (fun rec => ?_)
    simp only [fe_ends]
    split
    · next is ic h4 h6 =>
      have hx : fe_xl.lookup ((fe_mC y, idx), (is, ic)) = none := by
        cases hz : fe_xl.lookup ((fe_mC y, idx), (is, ic)) with
        | none => rfl
        | some x =>
          exfalso
          have h1 := fe_look hz
          have h2 := fe_look hl
          have h3 : ∀ q ∈ fe_xl, ∀ w ∈ fe_nl, q.1.1 ≠ w.1 := by decide
          exact h3 _ h1 _ h2 rfl
      rw [hx]
    · rfl
theorem fe_w1_na {t : ArrayType} {n : Int32} {N : Nat} {c : fe_C} (hf : fe_fetch y pc = some (.newarray t)) (h0 : 0 ≤ n) (hN : n.toNatClampNeg = N) (hM : N ≤ 1000000) (hc : fe_na t N = some c) : fe_WP E y pc ls (.int n :: r) h K ↔ fe_nw h N = true ∧ fe_WP E y (pc + 2) ls (.ref h.1 :: r) (fe_add h N c) K := by
  subst hN
  by_cases hn : fe_nw h n.toNatClampNeg = true
  · simp only [hn, true_and]
    exact (fe_wp_h (o := some ()) (g := fun _ => (.ref h.1 :: r, fe_add h n.toNatClampNeg c)) hf rfl (by simp only [fe_hstep, hn, h0, hM, hc, decide_true, Bool.and_self, if_true, Option.map_some]) (fun _ => rfl) rfl).trans (by simp [fe_len])
  · simp only [hn, Bool.false_eq_true, false_and, iff_false]
    exact fe_wp_no hf rfl (by simp only [fe_hstep, hn, Bool.and_false, Bool.false_eq_true, if_false]) (fun _ => rfl)
theorem fe_w1_nq {n : Int32} {N : Nat} (hf : fe_fetch y pc = some (.anewarray 16)) (hy : fe_mC y = 6) (h0 : 0 ≤ n) (hN : n.toNatClampNeg = N) (hM : N ≤ 1000000) : fe_WP E y pc ls (.int n :: r) h K ↔ fe_nw h N = true ∧ fe_WP E y (pc + 3) ls (.ref h.1 :: r) (fe_add h N (fe_Q N (fun _ => none))) K := by
  subst hN
  by_cases hn : fe_nw h n.toNatClampNeg = true
  · simp only [hn, true_and]
    exact (fe_wp_h (o := some ()) (g := fun _ => (.ref h.1 :: r, fe_add h n.toNatClampNeg (fe_Q n.toNatClampNeg (fun _ => none)))) hf rfl (by simp only [fe_hstep, hn, h0, hM, hy, and_self, decide_true, Bool.and_self, if_true, Option.map_some]) (fun _ => rfl) rfl).trans (by simp [fe_len])
  · simp only [hn, Bool.false_eq_true, false_and, iff_false]
    exact fe_wp_no hf rfl (by simp only [fe_hstep, hn, Bool.and_false, Bool.false_eq_true, if_false]) (fun _ => rfl)
theorem fe_w1_ldc {v : Int32} (hf : fe_fetch y pc = some (.ldc idx)) (hl : fe_kl.lookup (fe_mC y, idx) = some v) : fe_WP E y pc ls st h K ↔ fe_WP E y (pc + 2) ls (.int v :: st) h K :=
  (fe_wp_h (o := some ()) (g := fun _ => (.int v :: st, h)) hf rfl (by simp only [fe_hstep, hl, Option.map_some]) (fun _ => rfl) rfl).trans (by simp [fe_len])
theorem fe_w1_ldcw {v : Int32} (hf : fe_fetch y pc = some (.ldc_w idx)) (hl : fe_kl.lookup (fe_mC y, idx) = some v) : fe_WP E y pc ls st h K ↔ fe_WP E y (pc + 3) ls (.int v :: st) h K :=
  (fe_wp_h (o := some ()) (g := fun _ => (.int v :: st, h)) hf rfl (by simp only [fe_hstep, hl, Option.map_some]) (fun _ => rfl) rfl).trans (by simp [fe_len])
theorem fe_w1_gs (hf : fe_fetch y pc = some (.getstatic 41)) (hy : fe_mC y = 3) : fe_WP E y pc ls st h K ↔ fe_WP E y (pc + 3) ls (.ref E.2.2.2 :: st) h K :=
  (fe_wp_h (o := some ()) (g := fun _ => (.ref E.2.2.2 :: st, h)) hf rfl (by simp only [fe_hstep, hy, and_self, if_true, Option.map_some]) (fun _ => rfl) rfl).trans (by simp [fe_len])
theorem fe_w1_oi (hf : fe_fetch y pc = some (.invokespecial idx)) (ho : (fe_ol.contains (fe_mC y, idx) && decide (1 ≤ fe_mF y) && decide (2 * r.length + 12 ≤ fe_mW y)) = true) (hc : fe_cl.lookup (fe_mC y, idx) = none) : fe_WP E y pc ls (.ref a :: r) h K ↔ fe_WP E y (pc + 3) ls r h K :=
  (fe_wp_h (o := some ()) (g := fun _ => (r, h)) hf rfl (by simp only [fe_hstep, ho, if_true, Option.map_some]) (fun _ => by simp only [fe_ends, hc]) rfl).trans (by simp [fe_len])
theorem fe_w1_ri {v : Int32} (hf : fe_fetch y pc = some .ireturn) (hR : fe_mR y = some .int) : fe_WP E y pc ls [.int v] h K ↔ K (.inl (some (.int v))) h :=
  (fe_wp_e (P := True) (q := (.inl (some (.int v)), h)) hf rfl rfl (fun _ => by simp only [fe_ends, hR, fe_okV, if_true])).trans (by simp)
theorem fe_w1_rz {v : Int32} (hf : fe_fetch y pc = some .ireturn) (hR : fe_mR y = some .boolean) : fe_WP E y pc ls [.int v] h K ↔ (v = 0 ∨ v = 1) ∧ K (.inl (some (.int v))) h :=
  fe_wp_e (q := (.inl (some (.int v)), h)) hf rfl rfl (fun _ => by simp only [fe_ends, hR, fe_okV, Bool.or_eq_true, decide_eq_true_eq])
theorem fe_w1_rv (hf : fe_fetch y pc = some .return_) (hR : fe_mR y = none) : fe_WP E y pc ls [] h K ↔ K (.inl none) h :=
  (fe_wp_e (P := True) (q := (.inl none, h)) hf rfl rfl (fun _ => by simp only [fe_ends, hR, if_true])).trans (by simp)
theorem fe_w1_thr {ik is ic x : Nat} (hf : fe_fetch y pc = some (.new ik)) (h4 : fe_fetch y (pc + 4) = some (.ldc is)) (h6 : fe_fetch y (pc + 6) = some (.invokespecial ic)) (hx : fe_xl.lookup ((fe_mC y, ik), (is, ic)) = some x) (hn : fe_nl.lookup (fe_mC y, ik) = none) (hc : (decide (fe_fetch y (pc + 3) = some .dup) && decide (fe_fetch y (pc + 9) = some .athrow) && decide (6 ≤ fe_mF y) && decide (2 * st.length + 82 ≤ fe_mW y) && (fe_mH y).isEmpty) = true) : fe_WP E y pc ls st h K ↔ fe_nw h 6 = true ∧ K (.inr (x, h.1)) (fe_burn h 6) :=
  fe_wp_e (q := (.inr (x, h.1), fe_burn h 6)) hf rfl (by simp only [fe_hstep, hn]) (fun _ => by simp only [fe_ends, h4, h6, hx, hc, Bool.true_and])
theorem fe_w1_cs {z : Nat} {as rest : List Value} {ls0 : fe_Ls} (hf : fe_fetch y pc = some (.invokestatic idx)) (hl : fe_cl.lookup (fe_mC y, idx) = some (z, nest, pos)) (hz : z ≠ fe_fj) (hS : fe_mS z = true) (hp : fe_pop (fe_mA z) st = some (as, rest)) (hc : (fe_rm y z rest.length && as.all (fun v => v.category == 1) && decide (as.length ≤ fe_mL z)) = true) (he : fe_ent z as = ls0) : fe_WP E y pc ls st h K ↔ fe_WP E z 0 ls0 [] h (fe_KB E y pc ls rest K) := by
  subst he
  exact (fe_wp_call (z := z) (as := as) (rest := rest) (P := True) hf rfl rfl (fun rec => by simp only [fe_ends, hl, if_neg hz, hS, if_true, fe_call, hp, hc, fe_rcv, Bool.true_or, Bool.and_self]; rfl)).trans (by simp)
theorem fe_w1_cv {z b : Nat} {al rest : List Value} {ls0 : fe_Ls} (hf : fe_fetch y pc = some (.invokevirtual idx)) (hl : fe_cl.lookup (fe_mC y, idx) = some (z, nest, pos)) (hS : (!(fe_mS z) && !(fe_mI z)) = true) (hp : fe_pop (fe_mA z) st = some (.ref b :: al, rest)) (hc : (fe_rm y z rest.length && (Value.ref b :: al).all (fun v => v.category == 1) && decide ((Value.ref b :: al).length ≤ fe_mL z)) = true) (he : fe_ent z (.ref b :: al) = ls0) (hC : fe_mC z = ci) : fe_WP E y pc ls st h K ↔ fe_ob h b ci = true ∧ fe_WP E z 0 ls0 [] h (fe_KB E y pc ls rest K) := by
  subst he
  subst hC
  simp only [Bool.and_eq_true, Bool.not_eq_true'] at hS
  obtain ⟨hS2, hI2⟩ := hS
  exact fe_wp_call (P := fe_ob h b (fe_mC z) = true) hf rfl rfl (fun rec => by simp only [fe_ends, hl, hI2, Bool.not_false, Bool.and_self, if_true, fe_call, hp, hc, fe_rcv, hS2, Bool.false_or, Bool.true_and]; rfl)
theorem fe_w1_ci {z b : Nat} {al rest : List Value} {ls0 : fe_Ls} (hf : fe_fetch y pc = some (.invokespecial idx)) (hl : fe_cl.lookup (fe_mC y, idx) = some (z, nest, pos)) (hI : fe_mI z = true) (hS2 : fe_mS z = false) (hno : fe_ol.contains (fe_mC y, idx) = false) (hp : fe_pop (fe_mA z) st = some (.ref b :: al, rest)) (hc : (fe_rm y z rest.length && (Value.ref b :: al).all (fun v => v.category == 1) && decide ((Value.ref b :: al).length ≤ fe_mL z)) = true) (he : fe_ent z (.ref b :: al) = ls0) (hC : fe_mC z = ci) : fe_WP E y pc ls st h K ↔ fe_ob h b ci = true ∧ fe_WP E z 0 ls0 [] h (fe_KB E y pc ls rest K) := by
  subst he
  subst hC
  exact fe_wp_call (P := fe_ob h b (fe_mC z) = true) hf rfl (by
    simp only [fe_hstep, hno, Bool.false_and, Bool.false_eq_true, if_false]
    split <;> rfl) (fun rec => by simp only [fe_ends, hl, hI, if_true, fe_call, hp, hc, fe_rcv, hS2, Bool.false_or, Bool.true_and]; rfl)
theorem fe_w1_fj {x : Int64} (hf : fe_fetch y pc = some (.invokestatic idx)) (hl : fe_cl.lookup (fe_mC y, idx) = some (117, nest, pos)) (hr : fe_rm y 117 r.length = true) {n : Nat} {f : Nat → Int64} (hg : fe_get h a = some (fe_J n f)) (hn : n ≤ 1000000) : fe_WP E y pc ls (.long x :: .ref a :: r) h K ↔ fe_WP E y (pc + 3) ls r (fe_put h a (fe_J n (fun _ => x))) K :=
  fe_wp_step (fun m => fe_run E m y (pc + 3) ls r (fe_put h a (fe_J n (fun _ => x)))) (fun m => by
    show fe_body E _ y pc ls _ h = _
    unfold fe_body
    rw [hf]
    simp only [fe_pstep, fe_hstep, fe_ends, hl, fe_fj, if_true, fe_fill, hg, hr, hn, decide_true, Bool.and_self])
theorem fe_KB_r {v : Value} {rest : List Value} : fe_KB E y pc ls rest K (.inl (some v)) h = fe_WP E y (pc + 3) ls (v :: rest) h K := rfl
theorem fe_KB_v {rest : List Value} : fe_KB E y pc ls rest K (.inl none) h = fe_WP E y (pc + 3) ls rest h K := rfl
theorem fe_KB_x {rest : List Value} {x : Nat × Nat} (hH : fe_mH y = []) : fe_KB E y pc ls rest K (.inr x) h = K (.inr x) h := by
  simp only [fe_KB, hH]
end FeQ
section FeQ2
variable {E : fe_E} {y pc : Nat} {ls : fe_Ls} {st r : List Value} {h : fe_H} {K : fe_R → fe_H → Prop}
theorem fe_w1_ic {n : Int} {v : Int32} (hf : fe_fetch y pc = some (.iconst n)) (hv : Int32.ofInt n = v) : fe_WP E y pc ls st h K ↔ fe_WP E y (pc + 1) ls (.int v :: st) h K := by
  subst hv
  exact fe_wp_p hf rfl
theorem fe_w1_bi {n : Int} {v : Int32} (hf : fe_fetch y pc = some (.bipush n)) (hv : (Int8.ofInt n).toInt32 = v) : fe_WP E y pc ls st h K ↔ fe_WP E y (pc + 2) ls (.int v :: st) h K := by
  subst hv
  exact fe_wp_p hf rfl
theorem fe_w1_si {n : Int} {v : Int32} (hf : fe_fetch y pc = some (.sipush n)) (hv : (Int16.ofInt n).toInt32 = v) : fe_WP E y pc ls st h K ↔ fe_WP E y (pc + 3) ls (.int v :: st) h K := by
  subst hv
  exact fe_wp_p hf rfl
theorem fe_w1_lc {n : Fin 2} {v : Int64} (hf : fe_fetch y pc = some (.lconst n)) (hv : Int64.ofNat (n : Nat) = v) : fe_WP E y pc ls st h K ↔ fe_WP E y (pc + 1) ls (.long v :: st) h K := by
  subst hv
  exact fe_wp_p hf rfl
theorem fe_w1_inc {k : Nat} {n : Int} {x v : Int32} {ls' : fe_Ls} (hf : fe_fetch y pc = some (.iinc k n)) (hl : ls[k]? = some (some (.int x))) (hv : Int32.ofInt n = v) (hs : ls.set k (some (.int (x + v))) = ls') : fe_WP E y pc ls st h K ↔ fe_WP E y (pc + 3) ls' st h K := by
  subst hv
  subst hs
  exact fe_wp_p hf (by simp only [fe_pstep, fe_inc, hl])
theorem fe_w1_go {off : Int} {t : Nat} (hf : fe_fetch y pc = some (.goto off)) (ho : fe_okt pc off = true) (ht : fe_tgt pc off = t) : fe_WP E y pc ls st h K ↔ fe_WP E y t ls st h K := by
  subst ht
  exact fe_wp_p hf (by simp only [fe_pstep, ho, if_true])
theorem fe_w1_if {c : Jvm.ClassFile.Cond} {off : Int} {t : Nat} {x : Int32} {P : Prop} [Decidable P] (hf : fe_fetch y pc = some (.ifCond c off)) (ho : fe_okt pc off = true) (ht : fe_tgt pc off = t) (hP : fe_c1 c x = decide P) : fe_WP E y pc ls (.int x :: r) h K ↔ if P then fe_WP E y t ls r h K else fe_WP E y (pc + 3) ls r h K := by
  subst ht
  exact fe_wp_b hf (by simp only [fe_pstep, fe_br1, ho, if_true]) hP
theorem fe_w1_ii {c : Jvm.ClassFile.Cond} {off : Int} {t : Nat} {x z : Int32} {P : Prop} [Decidable P] (hf : fe_fetch y pc = some (.if_icmp c off)) (ho : fe_okt pc off = true) (ht : fe_tgt pc off = t) (hP : fe_c2 c x z = decide P) : fe_WP E y pc ls (.int z :: .int x :: r) h K ↔ if P then fe_WP E y t ls r h K else fe_WP E y (pc + 3) ls r h K := by
  subst ht
  exact fe_wp_b hf (by simp only [fe_pstep, fe_br2, ho, if_true]) hP
theorem fe_w1_sw {dflt lo hi off : Int} {offs : Array Int} {t : Nat} {x : Int32} (hf : fe_fetch y pc = some (.tableswitch dflt lo hi offs)) (h1 : ¬ (x.toInt < lo ∨ hi < x.toInt)) (h2 : offs[(x.toInt - lo).toNat]? = some off) (ho : fe_okt pc off = true) (ht : fe_tgt pc off = t) : fe_WP E y pc ls (.int x :: r) h K ↔ fe_WP E y t ls r h K := by
  subst ht
  exact fe_wp_p hf (by simp only [fe_pstep, fe_sw, if_neg h1, h2, ho, if_true])
theorem fe_w1_sd {dflt lo hi : Int} {offs : Array Int} {t : Nat} {x : Int32} (hf : fe_fetch y pc = some (.tableswitch dflt lo hi offs)) (h1 : x.toInt < lo ∨ hi < x.toInt) (ho : fe_okt pc dflt = true) (ht : fe_tgt pc dflt = t) : fe_WP E y pc ls (.int x :: r) h K ↔ fe_WP E y t ls r h K := by
  subst ht
  exact fe_wp_p hf (by simp only [fe_pstep, fe_sw, if_pos h1, ho, if_true])
theorem fe_w1_nu {off : Int} {t : Nat} (hf : fe_fetch y pc = some (.ifnull off)) (ho : fe_okt pc off = true) (ht : fe_tgt pc off = t) : fe_WP E y pc ls (.null :: r) h K ↔ fe_WP E y t ls r h K := by
  subst ht
  exact fe_wp_p hf (by simp only [fe_pstep, ho, if_true])
theorem fe_w1_dv {x z : Int32} (hf : fe_fetch y pc = some .idiv) : fe_WP E y pc ls (.int z :: .int x :: r) h K ↔ ¬ z = 0 ∧ fe_WP E y (pc + 1) ls (.int (x / z) :: r) h K := fe_wp_d hf rfl rfl (fun _ => rfl)
theorem fe_w1_rm {x z : Int32} (hf : fe_fetch y pc = some .irem) : fe_WP E y pc ls (.int z :: .int x :: r) h K ↔ ¬ z = 0 ∧ fe_WP E y (pc + 1) ls (.int (x - x / z * z) :: r) h K := fe_wp_d hf rfl rfl (fun _ => rfl)
end FeQ2
end
section
/-! ints of the machine as whole numbers -/
def fe_z (a : Int) : Int32 := Int32.ofInt a
def fe_bt (x : Int32) (e : Nat) : Bool := x.toBitVec.getLsbD e
section FeZ
variable {a b : Int} {p q : Bool}
theorem fe_ofn (n : Nat) : Int32.ofNat n = fe_z (n : Int) := Int32.ofInt_eq_ofNat.symm
theorem fe_z_of (x : Int32) : x = fe_z x.toInt := (Int32.ofInt_toInt x).symm
theorem fe_z_add : fe_z a + fe_z b = fe_z (a + b) := (Int32.ofInt_add a b).symm
theorem fe_z_sub : fe_z a - fe_z b = fe_z (a - b) := (Int32.ofInt_sub a b).symm
theorem fe_z_mul : fe_z a * fe_z b = fe_z (a * b) := (Int32.ofInt_mul a b).symm
theorem fe_z_neg : -fe_z a = fe_z (-a) := (Int32.ofInt_neg a).symm
theorem fe_z_toInt (h1 : -2147483648 ≤ a) (h2 : a ≤ 2147483647) : (fe_z a).toInt = a := Int32.toInt_ofInt_of_le (by omega) (by omega)
theorem fe_z_lt (h1 : -2147483648 ≤ a) (h2 : a ≤ 2147483647) (h3 : -2147483648 ≤ b) (h4 : b ≤ 2147483647) : (fe_z a < fe_z b) = (a < b) := by
  rw [Int32.lt_iff_toInt_lt, fe_z_toInt h1 h2, fe_z_toInt h3 h4]
theorem fe_z_le (h1 : -2147483648 ≤ a) (h2 : a ≤ 2147483647) (h3 : -2147483648 ≤ b) (h4 : b ≤ 2147483647) : (fe_z a ≤ fe_z b) = (a ≤ b) := by
  rw [Int32.le_iff_toInt_le, fe_z_toInt h1 h2, fe_z_toInt h3 h4]
theorem fe_z_eq (h1 : -2147483648 ≤ a) (h2 : a ≤ 2147483647) (h3 : -2147483648 ≤ b) (h4 : b ≤ 2147483647) : (fe_z a = fe_z b) = (a = b) := by
  rw [← Int32.toInt_inj, fe_z_toInt h1 h2, fe_z_toInt h3 h4]
theorem fe_z_div (h1 : 0 ≤ a) (h2 : a ≤ 2147483647) (h3 : 0 < b) (h4 : b ≤ 2147483647) : fe_z a / fe_z b = fe_z (a / b) := by
  apply Int32.toInt_inj.mp
  have hq : 0 ≤ a / b := Int.ediv_nonneg h1 (by omega)
  have hr : a / b ≤ a := Int.ediv_le_self b h1
  rw [Int32.toInt_div, fe_z_toInt (by omega) h2, fe_z_toInt (by omega) h4, fe_z_toInt (by omega) (by omega), Int.tdiv_eq_ediv_of_nonneg h1]
  exact Int.bmod_eq_of_le (by omega) (by omega)
theorem fe_z_mod : a - a / b * b = a % b := by rw [Int.emod_def, Int.mul_comm]
theorem fe_z_nat (h1 : 0 ≤ a) (h2 : a ≤ 2147483647) : (fe_z a).toNatClampNeg = a.toNat := by
  show (fe_z a).toInt.toNat = _
  rw [fe_z_toInt (by omega) h2]
theorem fe_z_inb {n : Nat} (h1 : 0 ≤ a) (h2 : a < n) (h3 : a ≤ 2147483647) : fe_inb (fe_z a) n = true := by
  have h0 : (0 : Int32) = fe_z 0 := rfl
  simp only [fe_inb, fe_z_nat h1 h3, h0, fe_z_le (a := 0) (b := a) (by omega) (by omega) (by omega) h3, Bool.and_eq_true, decide_eq_true_eq]
  omega
theorem fe_bi_z : fe_bi p = fe_z (if p then 1 else 0) := by cases p <;> rfl
theorem fe_bi0 : (fe_bi p = fe_z 0) = (p = false) := by cases p <;> decide
theorem fe_bi1 : (fe_bi p = fe_z 1) = (p = true) := by cases p <;> decide
theorem fe_bibi : (fe_bi p = fe_bi q) = (p = q) := by cases p <;> cases q <;> decide
theorem fe_bi01 : (fe_bi p = fe_z 0 ∨ fe_bi p = fe_z 1) = True := by cases p <;> decide
theorem fe_z01 : (fe_z 0 = fe_z 0 ∨ fe_z 0 = fe_z 1) = True := by decide
theorem fe_z11 : (fe_z 1 = fe_z 0 ∨ fe_z 1 = fe_z 1) = True := by decide
theorem fe_z10 : (fe_z 1 = fe_z 0) = False := by decide
theorem fe_zt : fe_z 1 = fe_bi true := rfl
theorem fe_zf : fe_z 0 = fe_bi false := rfl
theorem fe_tb_bi : fe_tb (fe_bi p) = p := by cases p <;> decide
theorem fe_tb_0 : fe_tb (fe_z 0) = false := by decide
theorem fe_tb_1 : fe_tb (fe_z 1) = true := by decide
theorem fe_z_shl {i : Int} (h1 : 0 ≤ i) (h2 : i ≤ 30) : fe_z 1 <<< (fe_z i &&& 31) = fe_z ((2 ^ i.toNat : Nat) : Int) := by
  obtain ⟨k, rfl⟩ := Int.eq_ofNat_of_zero_le h1
  have hk : k ≤ 30 := by omega
  rw [Int.toNat_natCast]
  clear h1 h2
  revert k
  have H : ∀ k, k < 31 → fe_z 1 <<< (fe_z ((k : Nat) : Int) &&& 31) = fe_z ((2 ^ k : Nat) : Int) := by decide +kernel
  exact fun k hk => H k (by omega)
theorem fe_z_bit {i : Int} (x : Int32) (h1 : 0 ≤ i) (h2 : i ≤ 31) : (x >>> (fe_z i &&& 31)) &&& fe_z 1 = fe_bi (fe_bt x i.toNat) := by
  obtain ⟨k, rfl⟩ := Int.eq_ofNat_of_zero_le h1
  have hk : k ≤ 31 := by omega
  rw [Int.toNat_natCast]
  apply Int32.toBitVec_inj.mp
  have hs : ∀ k, k < 32 → ((fe_z ((k : Nat) : Int) &&& 31).toBitVec.smod 32).toNat = k := by decide +kernel
  have hb : (fe_bi (fe_bt x k)).toBitVec = (BitVec.ofBool (fe_bt x k)).setWidth 32 := by cases fe_bt x k <;> rfl
  rw [hb, Int32.toBitVec_and, Int32.toBitVec_shiftRight]
  apply BitVec.eq_of_getLsbD_eq
  intro j hj
  simp only [BitVec.getLsbD_and, BitVec.getLsbD_setWidth, BitVec.sshiftRight', BitVec.getLsbD_sshiftRight]
  rw [hs k (by omega)]
  have h1b : (fe_z 1).toBitVec = 1#32 := rfl
  rw [h1b]
  by_cases h0 : j = 0
  · subst h0
    by_cases hk2 : k < 32
    · simp [fe_bt, hk2]
    · omega
  · have : ¬ j = 0 := h0
    simp [h0, BitVec.getLsbD_ofBool]
theorem fe_z_or (s t : Nat) : fe_z (s : Int) ||| fe_z (t : Int) = fe_z ((s ||| t : Nat) : Int) := by
  apply Int32.toBitVec_inj.mp
  show BitVec.ofInt 32 (s : Int) ||| BitVec.ofInt 32 (t : Int) = BitVec.ofInt 32 _
  simp only [BitVec.ofInt_natCast, BitVec.ofNat_or]
theorem fe_z_and (s t : Nat) : fe_z (s : Int) &&& fe_z (t : Int) = fe_z ((s &&& t : Nat) : Int) := by
  apply Int32.toBitVec_inj.mp
  show BitVec.ofInt 32 (s : Int) &&& BitVec.ofInt 32 (t : Int) = BitVec.ofInt 32 _
  simp only [BitVec.ofInt_natCast, BitVec.ofNat_and]
theorem fe_bt_z (s e : Nat) (he : e < 32) : fe_bt (fe_z (s : Int)) e = s.testBit e := by
  show (BitVec.ofInt 32 (s : Int)).getLsbD e = _
  rw [BitVec.ofInt_natCast, BitVec.getLsbD_ofNat]
  simp [he]
theorem fe_bt_and (x y : Int32) (e : Nat) : fe_bt (x &&& y) e = (fe_bt x e && fe_bt y e) := by
  simp only [fe_bt, Int32.toBitVec_and, BitVec.getLsbD_and]
theorem fe_bt_or (x y : Int32) (e : Nat) : fe_bt (x ||| y) e = (fe_bt x e || fe_bt y e) := by
  simp only [fe_bt, Int32.toBitVec_or, BitVec.getLsbD_or]
theorem fe_bt_xor (x y : Int32) (e : Nat) : fe_bt (x ^^^ y) e = (fe_bt x e ^^ fe_bt y e) := by
  simp only [fe_bt, Int32.toBitVec_xor, BitVec.getLsbD_xor]
theorem fe_bt_not (x : Int32) (e : Nat) (he : e < 32) : fe_bt (x ^^^ fe_z (-1)) e = !fe_bt x e := by
  rw [fe_bt_xor]
  have : ∀ e, e < 32 → fe_bt (fe_z (-1)) e = true := by decide +kernel
  rw [this e he]
  simp
theorem fe_bt_ext {x y : Int32} (h : ∀ e, e < 32 → fe_bt x e = fe_bt y e) : x = y := by
  apply Int32.toBitVec_inj.mp
  exact BitVec.eq_of_getLsbD_eq fun j hj => h j hj
end FeZ
/-- counting down to the beginning -/
theorem fe_down {P : Nat → Prop} (n : Nat) (h0 : P n) (hs : ∀ i, i < n → P (i + 1) → P i) : ∀ i, i ≤ n → P i := by
  intro i hi
  obtain ⟨d, rfl⟩ := Nat.exists_eq_add_of_le hi
  induction d generalizing i with
  | zero => exact h0
  | succ d ih => exact hs i (by omega) (ih (i + 1) (by rw [show i + 1 + d = i + (d + 1) by omega]; exact h0) (fun j hj => hs j (by omega)) (by omega))
def fe_up {α : Type} (f : Int → α) (i : Int) (v : α) : Int → α := fun j => if j = i then v else f j
def fe_un {α : Type} (f : Nat → α) (i : Nat) (v : α) : Nat → α := fun j => if j = i then v else f j
end
section
/-! one equation a program counter: printed by program (wip/gen/eqs.py) -/
section FeEq
variable {E : fe_E} {h : fe_H} {K : fe_R → fe_H → Prop} {st : List Value} {o0 o1 o2 o3 o4 o5 o6 o7 o8 o9 o10 o11 o12 o13 : Option Value} {x0 x1 x2 x3 x4 x5 x6 : Int32} {a0 a1 a2 a3 : Nat} {l0 l1 : Int64} {r0 r1 r2 r3 r4 r5 : Value}
-- 0: X0_init
theorem fe_e0_0 : fe_WP E 0 0 [some (.ref a0)] st h K ↔ fe_WP E 0 1 [some (.ref a0)] (.ref a0 :: st) h K := fe_wp_p (show fe_fetch 0 0 = some (.aload_n 0) by decide +kernel) rfl
theorem fe_e0_1 : fe_WP E 0 1 [o0] [.ref a0] h K ↔ fe_WP E 0 4 [o0] [] h K := fe_w1_oi (r := []) (show fe_fetch 0 1 = some (.invokespecial 3) by decide +kernel) (by decide +kernel) (show fe_cl.lookup (fe_mC 0, 3) = none by decide +kernel)
theorem fe_e0_4 : fe_WP E 0 4 [o0] [] h K ↔ K (.inl none) h := fe_w1_rv (show fe_fetch 0 4 = some (.return_) by decide +kernel) (by decide +kernel)
-- 1: X0_start
theorem fe_e1_0 : fe_WP E 1 0 [some (.ref a0), o1, o2] st h K ↔ fe_WP E 1 1 [some (.ref a0), o1, o2] (.ref a0 :: st) h K := fe_wp_p (show fe_fetch 1 0 = some (.aload_n 0) by decide +kernel) rfl
theorem fe_e1_1 : fe_WP E 1 1 [o0, some (.int x0), o2] st h K ↔ fe_WP E 1 2 [o0, some (.int x0), o2] (.int x0 :: st) h K := fe_wp_p (show fe_fetch 1 1 = some (.iload_n 1) by decide +kernel) rfl
theorem fe_e1_2 : fe_WP E 1 2 [o0, o1, o2] (.int x0 :: .ref a0 :: st) h K ↔ ∃ h', fe_pf h a0 0 0 (.int x0) = some h' ∧ fe_WP E 1 5 [o0, o1, o2] st h' K := fe_w1_puti (show fe_fetch 1 2 = some (.putfield 9) by decide +kernel) (show fe_fl.lookup (fe_mC 1, 9) = some (0, 0, false, 98) by decide +kernel) (by decide +kernel) rfl
theorem fe_e1_5 : fe_WP E 1 5 [some (.ref a0), o1, o2] st h K ↔ fe_WP E 1 6 [some (.ref a0), o1, o2] (.ref a0 :: st) h K := fe_wp_p (show fe_fetch 1 5 = some (.aload_n 0) by decide +kernel) rfl
theorem fe_e1_6 : fe_WP E 1 6 [o0, o1, some (.int x0)] st h K ↔ fe_WP E 1 7 [o0, o1, some (.int x0)] (.int x0 :: st) h K := fe_wp_p (show fe_fetch 1 6 = some (.iload_n 2) by decide +kernel) rfl
theorem fe_e1_7 : fe_WP E 1 7 [o0, o1, o2] (.int x0 :: .ref a0 :: st) h K ↔ ∃ h', fe_pf h a0 0 1 (.int x0) = some h' ∧ fe_WP E 1 10 [o0, o1, o2] st h' K := fe_w1_puti (show fe_fetch 1 7 = some (.putfield 15) by decide +kernel) (show fe_fl.lookup (fe_mC 1, 15) = some (0, 1, false, 99) by decide +kernel) (by decide +kernel) rfl
theorem fe_e1_10 : fe_WP E 1 10 [some (.ref a0), o1, o2] st h K ↔ fe_WP E 1 11 [some (.ref a0), o1, o2] (.ref a0 :: st) h K := fe_wp_p (show fe_fetch 1 10 = some (.aload_n 0) by decide +kernel) rfl
theorem fe_e1_11 : fe_WP E 1 11 [o0, some (.int x0), o2] st h K ↔ fe_WP E 1 12 [o0, some (.int x0), o2] (.int x0 :: st) h K := fe_wp_p (show fe_fetch 1 11 = some (.iload_n 1) by decide +kernel) rfl
theorem fe_e1_12 : fe_WP E 1 12 [o0, o1, o2] (.int x0 :: .ref a0 :: st) h K ↔ ∃ h', fe_pf h a0 0 2 (.int x0) = some h' ∧ fe_WP E 1 15 [o0, o1, o2] st h' K := fe_w1_puti (show fe_fetch 1 12 = some (.putfield 18) by decide +kernel) (show fe_fl.lookup (fe_mC 1, 18) = some (0, 2, false, 100) by decide +kernel) (by decide +kernel) rfl
theorem fe_e1_15 : fe_WP E 1 15 [some (.ref a0), o1, o2] st h K ↔ fe_WP E 1 16 [some (.ref a0), o1, o2] (.ref a0 :: st) h K := fe_wp_p (show fe_fetch 1 15 = some (.aload_n 0) by decide +kernel) rfl
theorem fe_e1_16 : fe_WP E 1 16 [o0, some (.int x0), o2] st h K ↔ fe_WP E 1 17 [o0, some (.int x0), o2] (.int x0 :: st) h K := fe_wp_p (show fe_fetch 1 16 = some (.iload_n 1) by decide +kernel) rfl
theorem fe_e1_17 : fe_WP E 1 17 [o0, o1, o2] (.int x0 :: .ref a0 :: st) h K ↔ ∃ h', fe_pf h a0 0 3 (.int x0) = some h' ∧ fe_WP E 1 20 [o0, o1, o2] st h' K := fe_w1_puti (show fe_fetch 1 17 = some (.putfield 21) by decide +kernel) (show fe_fl.lookup (fe_mC 1, 21) = some (0, 3, false, 101) by decide +kernel) (by decide +kernel) rfl
theorem fe_e1_20 : fe_WP E 1 20 [some (.ref a0), o1, o2] st h K ↔ fe_WP E 1 21 [some (.ref a0), o1, o2] (.ref a0 :: st) h K := fe_wp_p (show fe_fetch 1 20 = some (.aload_n 0) by decide +kernel) rfl
theorem fe_e1_21 : fe_WP E 1 21 [o0, o1, some (.int x0)] st h K ↔ fe_WP E 1 22 [o0, o1, some (.int x0)] (.int x0 :: st) h K := fe_wp_p (show fe_fetch 1 21 = some (.iload_n 2) by decide +kernel) rfl
theorem fe_e1_22 : fe_WP E 1 22 [o0, o1, o2] (.int x0 :: .ref a0 :: st) h K ↔ ∃ h', fe_pf h a0 0 4 (.int x0) = some h' ∧ fe_WP E 1 25 [o0, o1, o2] st h' K := fe_w1_puti (show fe_fetch 1 22 = some (.putfield 24) by decide +kernel) (show fe_fl.lookup (fe_mC 1, 24) = some (0, 4, false, 102) by decide +kernel) (by decide +kernel) rfl
theorem fe_e1_25 : fe_WP E 1 25 [some (.ref a0), o1, o2] st h K ↔ fe_WP E 1 26 [some (.ref a0), o1, o2] (.ref a0 :: st) h K := fe_wp_p (show fe_fetch 1 25 = some (.aload_n 0) by decide +kernel) rfl
theorem fe_e1_26 : fe_WP E 1 26 [o0, o1, some (.int x0)] st h K ↔ fe_WP E 1 27 [o0, o1, some (.int x0)] (.int x0 :: st) h K := fe_wp_p (show fe_fetch 1 26 = some (.iload_n 2) by decide +kernel) rfl
theorem fe_e1_27 : fe_WP E 1 27 [o0, o1, o2] (.int x0 :: .ref a0 :: st) h K ↔ ∃ h', fe_pf h a0 0 5 (.int x0) = some h' ∧ fe_WP E 1 30 [o0, o1, o2] st h' K := fe_w1_puti (show fe_fetch 1 27 = some (.putfield 27) by decide +kernel) (show fe_fl.lookup (fe_mC 1, 27) = some (0, 5, false, 103) by decide +kernel) (by decide +kernel) rfl
theorem fe_e1_30 : fe_WP E 1 30 [some (.ref a0), o1, o2] st h K ↔ fe_WP E 1 31 [some (.ref a0), o1, o2] (.ref a0 :: st) h K := fe_wp_p (show fe_fetch 1 30 = some (.aload_n 0) by decide +kernel) rfl
theorem fe_e1_31 : fe_WP E 1 31 [o0, o1, o2] st h K ↔ fe_WP E 1 32 [o0, o1, o2] (.int (fe_z 0) :: st) h K := fe_w1_ic (show fe_fetch 1 31 = some (.iconst 0) by decide +kernel) (by decide)
theorem fe_e1_32 : fe_WP E 1 32 [o0, o1, o2] (.int x0 :: .ref a0 :: st) h K ↔ ∃ h', fe_pf h a0 0 6 (.int x0) = some h' ∧ fe_WP E 1 35 [o0, o1, o2] st h' K := fe_w1_puti (show fe_fetch 1 32 = some (.putfield 30) by decide +kernel) (show fe_fl.lookup (fe_mC 1, 30) = some (0, 6, false, 104) by decide +kernel) (by decide +kernel) rfl
theorem fe_e1_35 : fe_WP E 1 35 [some (.ref a0), o1, o2] st h K ↔ fe_WP E 1 36 [some (.ref a0), o1, o2] (.ref a0 :: st) h K := fe_wp_p (show fe_fetch 1 35 = some (.aload_n 0) by decide +kernel) rfl
theorem fe_e1_36 : fe_WP E 1 36 [o0, o1, o2] st h K ↔ fe_WP E 1 37 [o0, o1, o2] (.int (fe_z 0) :: st) h K := fe_w1_ic (show fe_fetch 1 36 = some (.iconst 0) by decide +kernel) (by decide)
theorem fe_e1_37 : fe_WP E 1 37 [o0, o1, o2] (.int x0 :: .ref a0 :: st) h K ↔ ∃ h', fe_pf h a0 0 7 (.int x0) = some h' ∧ fe_WP E 1 40 [o0, o1, o2] st h' K := fe_w1_puti (show fe_fetch 1 37 = some (.putfield 33) by decide +kernel) (show fe_fl.lookup (fe_mC 1, 33) = some (0, 7, false, 105) by decide +kernel) (by decide +kernel) rfl
theorem fe_e1_40 : fe_WP E 1 40 [some (.ref a0), o1, o2] st h K ↔ fe_WP E 1 41 [some (.ref a0), o1, o2] (.ref a0 :: st) h K := fe_wp_p (show fe_fetch 1 40 = some (.aload_n 0) by decide +kernel) rfl
theorem fe_e1_41 : fe_WP E 1 41 [o0, o1, o2] st h K ↔ fe_WP E 1 42 [o0, o1, o2] (.int (fe_z 0) :: st) h K := fe_w1_ic (show fe_fetch 1 41 = some (.iconst 0) by decide +kernel) (by decide)
theorem fe_e1_42 : fe_WP E 1 42 [o0, o1, o2] (.int x0 :: .ref a0 :: st) h K ↔ ∃ h', fe_pf h a0 0 8 (.int x0) = some h' ∧ fe_WP E 1 45 [o0, o1, o2] st h' K := fe_w1_puti (show fe_fetch 1 42 = some (.putfield 36) by decide +kernel) (show fe_fl.lookup (fe_mC 1, 36) = some (0, 8, false, 106) by decide +kernel) (by decide +kernel) rfl
theorem fe_e1_45 : fe_WP E 1 45 [some (.ref a0), o1, o2] st h K ↔ fe_WP E 1 46 [some (.ref a0), o1, o2] (.ref a0 :: st) h K := fe_wp_p (show fe_fetch 1 45 = some (.aload_n 0) by decide +kernel) rfl
theorem fe_e1_46 : fe_WP E 1 46 [o0, o1, o2] st h K ↔ fe_WP E 1 47 [o0, o1, o2] (.int (fe_z 0) :: st) h K := fe_w1_ic (show fe_fetch 1 46 = some (.iconst 0) by decide +kernel) (by decide)
theorem fe_e1_47 : fe_WP E 1 47 [o0, o1, o2] (.int x0 :: .ref a0 :: st) h K ↔ ∃ h', fe_pf h a0 0 9 (.int x0) = some h' ∧ fe_WP E 1 50 [o0, o1, o2] st h' K := fe_w1_puti (show fe_fetch 1 47 = some (.putfield 39) by decide +kernel) (show fe_fl.lookup (fe_mC 1, 39) = some (0, 9, false, 107) by decide +kernel) (by decide +kernel) rfl
theorem fe_e1_50 : fe_WP E 1 50 [o0, o1, o2] [] h K ↔ K (.inl none) h := fe_w1_rv (show fe_fetch 1 50 = some (.return_) by decide +kernel) (by decide +kernel)
-- 2: X0_take
theorem fe_e2_0 : fe_WP E 2 0 [o0, some (.int x0), o2, o3, o4, o5] st h K ↔ fe_WP E 2 1 [o0, some (.int x0), o2, o3, o4, o5] (.int x0 :: st) h K := fe_wp_p (show fe_fetch 2 0 = some (.iload_n 1) by decide +kernel) rfl
theorem fe_e2_1 : fe_WP E 2 1 [some (.ref a0), o1, o2, o3, o4, o5] st h K ↔ fe_WP E 2 2 [some (.ref a0), o1, o2, o3, o4, o5] (.ref a0 :: st) h K := fe_wp_p (show fe_fetch 2 1 = some (.aload_n 0) by decide +kernel) rfl
theorem fe_e2_2 : fe_WP E 2 2 [o0, o1, o2, o3, o4, o5] (.ref a0 :: st) h K ↔ ∃ v, fe_gf h a0 0 0 = some v ∧ fe_WP E 2 5 [o0, o1, o2, o3, o4, o5] (v :: st) h K := fe_w1_get (show fe_fetch 2 2 = some (.getfield 9) by decide +kernel) (show fe_fl.lookup (fe_mC 2, 9) = some (0, 0, false, 98) by decide +kernel)
theorem fe_e2_5 : fe_WP E 2 5 [o0, o1, o2, o3, o4, o5] (.int x1 :: .int x0 :: st) h K ↔ fe_WP E 2 6 [o0, o1, o2, o3, o4, o5] (.int (x0 - x1) :: st) h K := fe_wp_p (show fe_fetch 2 5 = some (.isub) by decide +kernel) rfl
theorem fe_e2_6 : fe_WP E 2 6 [o0, o1, o2, o3, o4, o5] (.int x0 :: st) h K ↔ fe_WP E 2 7 [o0, o1, o2, some (.int x0), o4, o5] st h K := fe_wp_p (show fe_fetch 2 6 = some (.istore_n 3) by decide +kernel) rfl
theorem fe_e2_7 : fe_WP E 2 7 [o0, o1, some (.int x0), o3, o4, o5] st h K ↔ fe_WP E 2 8 [o0, o1, some (.int x0), o3, o4, o5] (.int x0 :: st) h K := fe_wp_p (show fe_fetch 2 7 = some (.iload_n 2) by decide +kernel) rfl
theorem fe_e2_8 : fe_WP E 2 8 [some (.ref a0), o1, o2, o3, o4, o5] st h K ↔ fe_WP E 2 9 [some (.ref a0), o1, o2, o3, o4, o5] (.ref a0 :: st) h K := fe_wp_p (show fe_fetch 2 8 = some (.aload_n 0) by decide +kernel) rfl
theorem fe_e2_9 : fe_WP E 2 9 [o0, o1, o2, o3, o4, o5] (.ref a0 :: st) h K ↔ ∃ v, fe_gf h a0 0 1 = some v ∧ fe_WP E 2 12 [o0, o1, o2, o3, o4, o5] (v :: st) h K := fe_w1_get (show fe_fetch 2 9 = some (.getfield 15) by decide +kernel) (show fe_fl.lookup (fe_mC 2, 15) = some (0, 1, false, 99) by decide +kernel)
theorem fe_e2_12 : fe_WP E 2 12 [o0, o1, o2, o3, o4, o5] (.int x1 :: .int x0 :: st) h K ↔ fe_WP E 2 13 [o0, o1, o2, o3, o4, o5] (.int (x0 - x1) :: st) h K := fe_wp_p (show fe_fetch 2 12 = some (.isub) by decide +kernel) rfl
theorem fe_e2_13 : fe_WP E 2 13 [o0, o1, o2, o3, o4, o5] (.int x0 :: st) h K ↔ fe_WP E 2 15 [o0, o1, o2, o3, some (.int x0), o5] st h K := fe_wp_p (show fe_fetch 2 13 = some (.istore 4) by decide +kernel) rfl
theorem fe_e2_15 : fe_WP E 2 15 [some (.ref a0), o1, o2, o3, o4, o5] st h K ↔ fe_WP E 2 16 [some (.ref a0), o1, o2, o3, o4, o5] (.ref a0 :: st) h K := fe_wp_p (show fe_fetch 2 15 = some (.aload_n 0) by decide +kernel) rfl
theorem fe_e2_16 : fe_WP E 2 16 [o0, o1, o2, o3, o4, o5] (.ref a0 :: st) h K ↔ ∃ v, fe_gf h a0 0 6 = some v ∧ fe_WP E 2 19 [o0, o1, o2, o3, o4, o5] (v :: st) h K := fe_w1_get (show fe_fetch 2 16 = some (.getfield 30) by decide +kernel) (show fe_fl.lookup (fe_mC 2, 30) = some (0, 6, false, 104) by decide +kernel)
theorem fe_e2_19 : fe_WP E 2 19 [o0, o1, o2, o3, o4, o5] (.int x0 :: st) h K ↔ if ¬ x0 = fe_z 0 then fe_WP E 2 33 [o0, o1, o2, o3, o4, o5] st h K else fe_WP E 2 22 [o0, o1, o2, o3, o4, o5] st h K := fe_w1_if (P := ¬ x0 = fe_z 0) (show fe_fetch 2 19 = some (.ifCond .ne 14) by decide +kernel) (by decide) (by decide) rfl
theorem fe_e2_22 : fe_WP E 2 22 [some (.ref a0), o1, o2, o3, o4, o5] st h K ↔ fe_WP E 2 23 [some (.ref a0), o1, o2, o3, o4, o5] (.ref a0 :: st) h K := fe_wp_p (show fe_fetch 2 22 = some (.aload_n 0) by decide +kernel) rfl
theorem fe_e2_23 : fe_WP E 2 23 [o0, o1, o2, o3, o4, o5] (.ref a0 :: st) h K ↔ ∃ v, fe_gf h a0 0 7 = some v ∧ fe_WP E 2 26 [o0, o1, o2, o3, o4, o5] (v :: st) h K := fe_w1_get (show fe_fetch 2 23 = some (.getfield 33) by decide +kernel) (show fe_fl.lookup (fe_mC 2, 33) = some (0, 7, false, 105) by decide +kernel)
theorem fe_e2_26 : fe_WP E 2 26 [o0, o1, o2, o3, o4, o5] (.int x0 :: st) h K ↔ if ¬ x0 = fe_z 0 then fe_WP E 2 33 [o0, o1, o2, o3, o4, o5] st h K else fe_WP E 2 29 [o0, o1, o2, o3, o4, o5] st h K := fe_w1_if (P := ¬ x0 = fe_z 0) (show fe_fetch 2 26 = some (.ifCond .ne 7) by decide +kernel) (by decide) (by decide) rfl
theorem fe_e2_29 : fe_WP E 2 29 [o0, o1, o2, o3, o4, o5] st h K ↔ fe_WP E 2 30 [o0, o1, o2, o3, o4, o5] (.int (fe_z 1) :: st) h K := fe_w1_ic (show fe_fetch 2 29 = some (.iconst 1) by decide +kernel) (by decide)
theorem fe_e2_30 : fe_WP E 2 30 [o0, o1, o2, o3, o4, o5] st h K ↔ fe_WP E 2 34 [o0, o1, o2, o3, o4, o5] st h K := fe_w1_go (show fe_fetch 2 30 = some (.goto 4) by decide +kernel) (by decide) (by decide)
theorem fe_e2_33 : fe_WP E 2 33 [o0, o1, o2, o3, o4, o5] st h K ↔ fe_WP E 2 34 [o0, o1, o2, o3, o4, o5] (.int (fe_z 0) :: st) h K := fe_w1_ic (show fe_fetch 2 33 = some (.iconst 0) by decide +kernel) (by decide)
theorem fe_e2_34 : fe_WP E 2 34 [o0, o1, o2, o3, o4, o5] (.int x0 :: st) h K ↔ fe_WP E 2 36 [o0, o1, o2, o3, o4, some (.int x0)] st h K := fe_wp_p (show fe_fetch 2 34 = some (.istore 5) by decide +kernel) rfl
theorem fe_e2_36 : fe_WP E 2 36 [o0, o1, o2, o3, o4, some (.int x0)] st h K ↔ fe_WP E 2 38 [o0, o1, o2, o3, o4, some (.int x0)] (.int x0 :: st) h K := fe_wp_p (show fe_fetch 2 36 = some (.iload 5) by decide +kernel) rfl
theorem fe_e2_38 : fe_WP E 2 38 [o0, o1, o2, o3, o4, o5] (.int x0 :: st) h K ↔ if ¬ x0 = fe_z 0 then fe_WP E 2 58 [o0, o1, o2, o3, o4, o5] st h K else fe_WP E 2 41 [o0, o1, o2, o3, o4, o5] st h K := fe_w1_if (P := ¬ x0 = fe_z 0) (show fe_fetch 2 38 = some (.ifCond .ne 20) by decide +kernel) (by decide) (by decide) rfl
theorem fe_e2_41 : fe_WP E 2 41 [some (.ref a0), o1, o2, o3, o4, o5] st h K ↔ fe_WP E 2 42 [some (.ref a0), o1, o2, o3, o4, o5] (.ref a0 :: st) h K := fe_wp_p (show fe_fetch 2 41 = some (.aload_n 0) by decide +kernel) rfl
theorem fe_e2_42 : fe_WP E 2 42 [o0, o1, o2, o3, o4, o5] (.ref a0 :: st) h K ↔ ∃ v, fe_gf h a0 0 6 = some v ∧ fe_WP E 2 45 [o0, o1, o2, o3, o4, o5] (v :: st) h K := fe_w1_get (show fe_fetch 2 42 = some (.getfield 30) by decide +kernel) (show fe_fl.lookup (fe_mC 2, 30) = some (0, 6, false, 104) by decide +kernel)
theorem fe_e2_45 : fe_WP E 2 45 [o0, o1, o2, o3, some (.int x0), o5] st h K ↔ fe_WP E 2 47 [o0, o1, o2, o3, some (.int x0), o5] (.int x0 :: st) h K := fe_wp_p (show fe_fetch 2 45 = some (.iload 4) by decide +kernel) rfl
theorem fe_e2_47 : fe_WP E 2 47 [o0, o1, o2, o3, o4, o5] (.int x1 :: .int x0 :: st) h K ↔ fe_WP E 2 48 [o0, o1, o2, o3, o4, o5] (.int (x0 * x1) :: st) h K := fe_wp_p (show fe_fetch 2 47 = some (.imul) by decide +kernel) rfl
theorem fe_e2_48 : fe_WP E 2 48 [some (.ref a0), o1, o2, o3, o4, o5] st h K ↔ fe_WP E 2 49 [some (.ref a0), o1, o2, o3, o4, o5] (.ref a0 :: st) h K := fe_wp_p (show fe_fetch 2 48 = some (.aload_n 0) by decide +kernel) rfl
theorem fe_e2_49 : fe_WP E 2 49 [o0, o1, o2, o3, o4, o5] (.ref a0 :: st) h K ↔ ∃ v, fe_gf h a0 0 7 = some v ∧ fe_WP E 2 52 [o0, o1, o2, o3, o4, o5] (v :: st) h K := fe_w1_get (show fe_fetch 2 49 = some (.getfield 33) by decide +kernel) (show fe_fl.lookup (fe_mC 2, 33) = some (0, 7, false, 105) by decide +kernel)
theorem fe_e2_52 : fe_WP E 2 52 [o0, o1, o2, some (.int x0), o4, o5] st h K ↔ fe_WP E 2 53 [o0, o1, o2, some (.int x0), o4, o5] (.int x0 :: st) h K := fe_wp_p (show fe_fetch 2 52 = some (.iload_n 3) by decide +kernel) rfl
theorem fe_e2_53 : fe_WP E 2 53 [o0, o1, o2, o3, o4, o5] (.int x1 :: .int x0 :: st) h K ↔ fe_WP E 2 54 [o0, o1, o2, o3, o4, o5] (.int (x0 * x1) :: st) h K := fe_wp_p (show fe_fetch 2 53 = some (.imul) by decide +kernel) rfl
theorem fe_e2_54 : fe_WP E 2 54 [o0, o1, o2, o3, o4, o5] (.int x1 :: .int x0 :: st) h K ↔ fe_WP E 2 55 [o0, o1, o2, o3, o4, o5] (.int (x0 - x1) :: st) h K := fe_wp_p (show fe_fetch 2 54 = some (.isub) by decide +kernel) rfl
theorem fe_e2_55 : fe_WP E 2 55 [o0, o1, o2, o3, o4, o5] (.int x0 :: st) h K ↔ if fe_z 0 ≤ x0 then fe_WP E 2 69 [o0, o1, o2, o3, o4, o5] st h K else fe_WP E 2 58 [o0, o1, o2, o3, o4, o5] st h K := fe_w1_if (P := fe_z 0 ≤ x0) (show fe_fetch 2 55 = some (.ifCond .ge 14) by decide +kernel) (by decide) (by decide) rfl
theorem fe_e2_58 : fe_WP E 2 58 [some (.ref a0), o1, o2, o3, o4, o5] st h K ↔ fe_WP E 2 59 [some (.ref a0), o1, o2, o3, o4, o5] (.ref a0 :: st) h K := fe_wp_p (show fe_fetch 2 58 = some (.aload_n 0) by decide +kernel) rfl
theorem fe_e2_59 : fe_WP E 2 59 [o0, o1, o2, some (.int x0), o4, o5] st h K ↔ fe_WP E 2 60 [o0, o1, o2, some (.int x0), o4, o5] (.int x0 :: st) h K := fe_wp_p (show fe_fetch 2 59 = some (.iload_n 3) by decide +kernel) rfl
theorem fe_e2_60 : fe_WP E 2 60 [o0, o1, o2, o3, o4, o5] (.int x0 :: .ref a0 :: st) h K ↔ ∃ h', fe_pf h a0 0 6 (.int x0) = some h' ∧ fe_WP E 2 63 [o0, o1, o2, o3, o4, o5] st h' K := fe_w1_puti (show fe_fetch 2 60 = some (.putfield 30) by decide +kernel) (show fe_fl.lookup (fe_mC 2, 30) = some (0, 6, false, 104) by decide +kernel) (by decide +kernel) rfl
theorem fe_e2_63 : fe_WP E 2 63 [some (.ref a0), o1, o2, o3, o4, o5] st h K ↔ fe_WP E 2 64 [some (.ref a0), o1, o2, o3, o4, o5] (.ref a0 :: st) h K := fe_wp_p (show fe_fetch 2 63 = some (.aload_n 0) by decide +kernel) rfl
theorem fe_e2_64 : fe_WP E 2 64 [o0, o1, o2, o3, some (.int x0), o5] st h K ↔ fe_WP E 2 66 [o0, o1, o2, o3, some (.int x0), o5] (.int x0 :: st) h K := fe_wp_p (show fe_fetch 2 64 = some (.iload 4) by decide +kernel) rfl
theorem fe_e2_66 : fe_WP E 2 66 [o0, o1, o2, o3, o4, o5] (.int x0 :: .ref a0 :: st) h K ↔ ∃ h', fe_pf h a0 0 7 (.int x0) = some h' ∧ fe_WP E 2 69 [o0, o1, o2, o3, o4, o5] st h' K := fe_w1_puti (show fe_fetch 2 66 = some (.putfield 33) by decide +kernel) (show fe_fl.lookup (fe_mC 2, 33) = some (0, 7, false, 105) by decide +kernel) (by decide +kernel) rfl
theorem fe_e2_69 : fe_WP E 2 69 [o0, o1, o2, o3, o4, some (.int x0)] st h K ↔ fe_WP E 2 71 [o0, o1, o2, o3, o4, some (.int x0)] (.int x0 :: st) h K := fe_wp_p (show fe_fetch 2 69 = some (.iload 5) by decide +kernel) rfl
theorem fe_e2_71 : fe_WP E 2 71 [o0, o1, o2, o3, o4, o5] (.int x0 :: st) h K ↔ if ¬ x0 = fe_z 0 then fe_WP E 2 91 [o0, o1, o2, o3, o4, o5] st h K else fe_WP E 2 74 [o0, o1, o2, o3, o4, o5] st h K := fe_w1_if (P := ¬ x0 = fe_z 0) (show fe_fetch 2 71 = some (.ifCond .ne 20) by decide +kernel) (by decide) (by decide) rfl
theorem fe_e2_74 : fe_WP E 2 74 [some (.ref a0), o1, o2, o3, o4, o5] st h K ↔ fe_WP E 2 75 [some (.ref a0), o1, o2, o3, o4, o5] (.ref a0 :: st) h K := fe_wp_p (show fe_fetch 2 74 = some (.aload_n 0) by decide +kernel) rfl
theorem fe_e2_75 : fe_WP E 2 75 [o0, o1, o2, o3, o4, o5] (.ref a0 :: st) h K ↔ ∃ v, fe_gf h a0 0 8 = some v ∧ fe_WP E 2 78 [o0, o1, o2, o3, o4, o5] (v :: st) h K := fe_w1_get (show fe_fetch 2 75 = some (.getfield 36) by decide +kernel) (show fe_fl.lookup (fe_mC 2, 36) = some (0, 8, false, 106) by decide +kernel)
theorem fe_e2_78 : fe_WP E 2 78 [o0, o1, o2, o3, some (.int x0), o5] st h K ↔ fe_WP E 2 80 [o0, o1, o2, o3, some (.int x0), o5] (.int x0 :: st) h K := fe_wp_p (show fe_fetch 2 78 = some (.iload 4) by decide +kernel) rfl
theorem fe_e2_80 : fe_WP E 2 80 [o0, o1, o2, o3, o4, o5] (.int x1 :: .int x0 :: st) h K ↔ fe_WP E 2 81 [o0, o1, o2, o3, o4, o5] (.int (x0 * x1) :: st) h K := fe_wp_p (show fe_fetch 2 80 = some (.imul) by decide +kernel) rfl
theorem fe_e2_81 : fe_WP E 2 81 [some (.ref a0), o1, o2, o3, o4, o5] st h K ↔ fe_WP E 2 82 [some (.ref a0), o1, o2, o3, o4, o5] (.ref a0 :: st) h K := fe_wp_p (show fe_fetch 2 81 = some (.aload_n 0) by decide +kernel) rfl
theorem fe_e2_82 : fe_WP E 2 82 [o0, o1, o2, o3, o4, o5] (.ref a0 :: st) h K ↔ ∃ v, fe_gf h a0 0 9 = some v ∧ fe_WP E 2 85 [o0, o1, o2, o3, o4, o5] (v :: st) h K := fe_w1_get (show fe_fetch 2 82 = some (.getfield 39) by decide +kernel) (show fe_fl.lookup (fe_mC 2, 39) = some (0, 9, false, 107) by decide +kernel)
theorem fe_e2_85 : fe_WP E 2 85 [o0, o1, o2, some (.int x0), o4, o5] st h K ↔ fe_WP E 2 86 [o0, o1, o2, some (.int x0), o4, o5] (.int x0 :: st) h K := fe_wp_p (show fe_fetch 2 85 = some (.iload_n 3) by decide +kernel) rfl
theorem fe_e2_86 : fe_WP E 2 86 [o0, o1, o2, o3, o4, o5] (.int x1 :: .int x0 :: st) h K ↔ fe_WP E 2 87 [o0, o1, o2, o3, o4, o5] (.int (x0 * x1) :: st) h K := fe_wp_p (show fe_fetch 2 86 = some (.imul) by decide +kernel) rfl
theorem fe_e2_87 : fe_WP E 2 87 [o0, o1, o2, o3, o4, o5] (.int x1 :: .int x0 :: st) h K ↔ fe_WP E 2 88 [o0, o1, o2, o3, o4, o5] (.int (x0 - x1) :: st) h K := fe_wp_p (show fe_fetch 2 87 = some (.isub) by decide +kernel) rfl
theorem fe_e2_88 : fe_WP E 2 88 [o0, o1, o2, o3, o4, o5] (.int x0 :: st) h K ↔ if x0 ≤ fe_z 0 then fe_WP E 2 102 [o0, o1, o2, o3, o4, o5] st h K else fe_WP E 2 91 [o0, o1, o2, o3, o4, o5] st h K := fe_w1_if (P := x0 ≤ fe_z 0) (show fe_fetch 2 88 = some (.ifCond .le 14) by decide +kernel) (by decide) (by decide) rfl
theorem fe_e2_91 : fe_WP E 2 91 [some (.ref a0), o1, o2, o3, o4, o5] st h K ↔ fe_WP E 2 92 [some (.ref a0), o1, o2, o3, o4, o5] (.ref a0 :: st) h K := fe_wp_p (show fe_fetch 2 91 = some (.aload_n 0) by decide +kernel) rfl
theorem fe_e2_92 : fe_WP E 2 92 [o0, o1, o2, some (.int x0), o4, o5] st h K ↔ fe_WP E 2 93 [o0, o1, o2, some (.int x0), o4, o5] (.int x0 :: st) h K := fe_wp_p (show fe_fetch 2 92 = some (.iload_n 3) by decide +kernel) rfl
theorem fe_e2_93 : fe_WP E 2 93 [o0, o1, o2, o3, o4, o5] (.int x0 :: .ref a0 :: st) h K ↔ ∃ h', fe_pf h a0 0 8 (.int x0) = some h' ∧ fe_WP E 2 96 [o0, o1, o2, o3, o4, o5] st h' K := fe_w1_puti (show fe_fetch 2 93 = some (.putfield 36) by decide +kernel) (show fe_fl.lookup (fe_mC 2, 36) = some (0, 8, false, 106) by decide +kernel) (by decide +kernel) rfl
theorem fe_e2_96 : fe_WP E 2 96 [some (.ref a0), o1, o2, o3, o4, o5] st h K ↔ fe_WP E 2 97 [some (.ref a0), o1, o2, o3, o4, o5] (.ref a0 :: st) h K := fe_wp_p (show fe_fetch 2 96 = some (.aload_n 0) by decide +kernel) rfl
theorem fe_e2_97 : fe_WP E 2 97 [o0, o1, o2, o3, some (.int x0), o5] st h K ↔ fe_WP E 2 99 [o0, o1, o2, o3, some (.int x0), o5] (.int x0 :: st) h K := fe_wp_p (show fe_fetch 2 97 = some (.iload 4) by decide +kernel) rfl
theorem fe_e2_99 : fe_WP E 2 99 [o0, o1, o2, o3, o4, o5] (.int x0 :: .ref a0 :: st) h K ↔ ∃ h', fe_pf h a0 0 9 (.int x0) = some h' ∧ fe_WP E 2 102 [o0, o1, o2, o3, o4, o5] st h' K := fe_w1_puti (show fe_fetch 2 99 = some (.putfield 39) by decide +kernel) (show fe_fl.lookup (fe_mC 2, 39) = some (0, 9, false, 107) by decide +kernel) (by decide +kernel) rfl
theorem fe_e2_102 : fe_WP E 2 102 [some (.ref a0), o1, o2, o3, o4, o5] st h K ↔ fe_WP E 2 103 [some (.ref a0), o1, o2, o3, o4, o5] (.ref a0 :: st) h K := fe_wp_p (show fe_fetch 2 102 = some (.aload_n 0) by decide +kernel) rfl
theorem fe_e2_103 : fe_WP E 2 103 [some (.ref a0), o1, o2, o3, o4, o5] st h K ↔ fe_WP E 2 104 [some (.ref a0), o1, o2, o3, o4, o5] (.ref a0 :: st) h K := fe_wp_p (show fe_fetch 2 103 = some (.aload_n 0) by decide +kernel) rfl
theorem fe_e2_104 : fe_WP E 2 104 [o0, o1, o2, o3, o4, o5] (.ref a0 :: st) h K ↔ ∃ v, fe_gf h a0 0 2 = some v ∧ fe_WP E 2 107 [o0, o1, o2, o3, o4, o5] (v :: st) h K := fe_w1_get (show fe_fetch 2 104 = some (.getfield 18) by decide +kernel) (show fe_fl.lookup (fe_mC 2, 18) = some (0, 2, false, 100) by decide +kernel)
theorem fe_e2_107 : fe_WP E 2 107 [o0, some (.int x0), o2, o3, o4, o5] st h K ↔ fe_WP E 2 108 [o0, some (.int x0), o2, o3, o4, o5] (.int x0 :: st) h K := fe_wp_p (show fe_fetch 2 107 = some (.iload_n 1) by decide +kernel) rfl
theorem fe_e2_108 : fe_WP E 2 108 [o0, o1, o2, o3, o4, o5] [.int x1, .int x0, r0] h K ↔ fe_WP E 116 0 [some (.int x0), some (.int x1)] [] h (fe_KB E 2 108 [o0, o1, o2, o3, o4, o5] [r0] K) := fe_w1_cs (as := [.int x0, .int x1]) (rest := [r0]) (show fe_fetch 2 108 = some (.invokestatic 42) by decide +kernel) (show fe_cl.lookup (fe_mC 2, 42) = some (116, false, 303) by decide +kernel) (by decide) (by decide +kernel) rfl rfl rfl
theorem fe_e2_111 : fe_WP E 2 111 [o0, o1, o2, o3, o4, o5] (.int x0 :: .ref a0 :: st) h K ↔ ∃ h', fe_pf h a0 0 2 (.int x0) = some h' ∧ fe_WP E 2 114 [o0, o1, o2, o3, o4, o5] st h' K := fe_w1_puti (show fe_fetch 2 111 = some (.putfield 18) by decide +kernel) (show fe_fl.lookup (fe_mC 2, 18) = some (0, 2, false, 100) by decide +kernel) (by decide +kernel) rfl
theorem fe_e2_114 : fe_WP E 2 114 [some (.ref a0), o1, o2, o3, o4, o5] st h K ↔ fe_WP E 2 115 [some (.ref a0), o1, o2, o3, o4, o5] (.ref a0 :: st) h K := fe_wp_p (show fe_fetch 2 114 = some (.aload_n 0) by decide +kernel) rfl
theorem fe_e2_115 : fe_WP E 2 115 [some (.ref a0), o1, o2, o3, o4, o5] st h K ↔ fe_WP E 2 116 [some (.ref a0), o1, o2, o3, o4, o5] (.ref a0 :: st) h K := fe_wp_p (show fe_fetch 2 115 = some (.aload_n 0) by decide +kernel) rfl
theorem fe_e2_116 : fe_WP E 2 116 [o0, o1, o2, o3, o4, o5] (.ref a0 :: st) h K ↔ ∃ v, fe_gf h a0 0 3 = some v ∧ fe_WP E 2 119 [o0, o1, o2, o3, o4, o5] (v :: st) h K := fe_w1_get (show fe_fetch 2 116 = some (.getfield 21) by decide +kernel) (show fe_fl.lookup (fe_mC 2, 21) = some (0, 3, false, 101) by decide +kernel)
theorem fe_e2_119 : fe_WP E 2 119 [o0, some (.int x0), o2, o3, o4, o5] st h K ↔ fe_WP E 2 120 [o0, some (.int x0), o2, o3, o4, o5] (.int x0 :: st) h K := fe_wp_p (show fe_fetch 2 119 = some (.iload_n 1) by decide +kernel) rfl
theorem fe_e2_120 : fe_WP E 2 120 [o0, o1, o2, o3, o4, o5] [.int x1, .int x0, r0] h K ↔ fe_WP E 115 0 [some (.int x0), some (.int x1)] [] h (fe_KB E 2 120 [o0, o1, o2, o3, o4, o5] [r0] K) := fe_w1_cs (as := [.int x0, .int x1]) (rest := [r0]) (show fe_fetch 2 120 = some (.invokestatic 48) by decide +kernel) (show fe_cl.lookup (fe_mC 2, 48) = some (115, false, 304) by decide +kernel) (by decide) (by decide +kernel) rfl rfl rfl
theorem fe_e2_123 : fe_WP E 2 123 [o0, o1, o2, o3, o4, o5] (.int x0 :: .ref a0 :: st) h K ↔ ∃ h', fe_pf h a0 0 3 (.int x0) = some h' ∧ fe_WP E 2 126 [o0, o1, o2, o3, o4, o5] st h' K := fe_w1_puti (show fe_fetch 2 123 = some (.putfield 21) by decide +kernel) (show fe_fl.lookup (fe_mC 2, 21) = some (0, 3, false, 101) by decide +kernel) (by decide +kernel) rfl
theorem fe_e2_126 : fe_WP E 2 126 [some (.ref a0), o1, o2, o3, o4, o5] st h K ↔ fe_WP E 2 127 [some (.ref a0), o1, o2, o3, o4, o5] (.ref a0 :: st) h K := fe_wp_p (show fe_fetch 2 126 = some (.aload_n 0) by decide +kernel) rfl
theorem fe_e2_127 : fe_WP E 2 127 [some (.ref a0), o1, o2, o3, o4, o5] st h K ↔ fe_WP E 2 128 [some (.ref a0), o1, o2, o3, o4, o5] (.ref a0 :: st) h K := fe_wp_p (show fe_fetch 2 127 = some (.aload_n 0) by decide +kernel) rfl
theorem fe_e2_128 : fe_WP E 2 128 [o0, o1, o2, o3, o4, o5] (.ref a0 :: st) h K ↔ ∃ v, fe_gf h a0 0 4 = some v ∧ fe_WP E 2 131 [o0, o1, o2, o3, o4, o5] (v :: st) h K := fe_w1_get (show fe_fetch 2 128 = some (.getfield 24) by decide +kernel) (show fe_fl.lookup (fe_mC 2, 24) = some (0, 4, false, 102) by decide +kernel)
theorem fe_e2_131 : fe_WP E 2 131 [o0, o1, some (.int x0), o3, o4, o5] st h K ↔ fe_WP E 2 132 [o0, o1, some (.int x0), o3, o4, o5] (.int x0 :: st) h K := fe_wp_p (show fe_fetch 2 131 = some (.iload_n 2) by decide +kernel) rfl
theorem fe_e2_132 : fe_WP E 2 132 [o0, o1, o2, o3, o4, o5] [.int x1, .int x0, r0] h K ↔ fe_WP E 116 0 [some (.int x0), some (.int x1)] [] h (fe_KB E 2 132 [o0, o1, o2, o3, o4, o5] [r0] K) := fe_w1_cs (as := [.int x0, .int x1]) (rest := [r0]) (show fe_fetch 2 132 = some (.invokestatic 42) by decide +kernel) (show fe_cl.lookup (fe_mC 2, 42) = some (116, false, 303) by decide +kernel) (by decide) (by decide +kernel) rfl rfl rfl
theorem fe_e2_135 : fe_WP E 2 135 [o0, o1, o2, o3, o4, o5] (.int x0 :: .ref a0 :: st) h K ↔ ∃ h', fe_pf h a0 0 4 (.int x0) = some h' ∧ fe_WP E 2 138 [o0, o1, o2, o3, o4, o5] st h' K := fe_w1_puti (show fe_fetch 2 135 = some (.putfield 24) by decide +kernel) (show fe_fl.lookup (fe_mC 2, 24) = some (0, 4, false, 102) by decide +kernel) (by decide +kernel) rfl
theorem fe_e2_138 : fe_WP E 2 138 [some (.ref a0), o1, o2, o3, o4, o5] st h K ↔ fe_WP E 2 139 [some (.ref a0), o1, o2, o3, o4, o5] (.ref a0 :: st) h K := fe_wp_p (show fe_fetch 2 138 = some (.aload_n 0) by decide +kernel) rfl
theorem fe_e2_139 : fe_WP E 2 139 [some (.ref a0), o1, o2, o3, o4, o5] st h K ↔ fe_WP E 2 140 [some (.ref a0), o1, o2, o3, o4, o5] (.ref a0 :: st) h K := fe_wp_p (show fe_fetch 2 139 = some (.aload_n 0) by decide +kernel) rfl
theorem fe_e2_140 : fe_WP E 2 140 [o0, o1, o2, o3, o4, o5] (.ref a0 :: st) h K ↔ ∃ v, fe_gf h a0 0 5 = some v ∧ fe_WP E 2 143 [o0, o1, o2, o3, o4, o5] (v :: st) h K := fe_w1_get (show fe_fetch 2 140 = some (.getfield 27) by decide +kernel) (show fe_fl.lookup (fe_mC 2, 27) = some (0, 5, false, 103) by decide +kernel)
theorem fe_e2_143 : fe_WP E 2 143 [o0, o1, some (.int x0), o3, o4, o5] st h K ↔ fe_WP E 2 144 [o0, o1, some (.int x0), o3, o4, o5] (.int x0 :: st) h K := fe_wp_p (show fe_fetch 2 143 = some (.iload_n 2) by decide +kernel) rfl
theorem fe_e2_144 : fe_WP E 2 144 [o0, o1, o2, o3, o4, o5] [.int x1, .int x0, r0] h K ↔ fe_WP E 115 0 [some (.int x0), some (.int x1)] [] h (fe_KB E 2 144 [o0, o1, o2, o3, o4, o5] [r0] K) := fe_w1_cs (as := [.int x0, .int x1]) (rest := [r0]) (show fe_fetch 2 144 = some (.invokestatic 48) by decide +kernel) (show fe_cl.lookup (fe_mC 2, 48) = some (115, false, 304) by decide +kernel) (by decide) (by decide +kernel) rfl rfl rfl
theorem fe_e2_147 : fe_WP E 2 147 [o0, o1, o2, o3, o4, o5] (.int x0 :: .ref a0 :: st) h K ↔ ∃ h', fe_pf h a0 0 5 (.int x0) = some h' ∧ fe_WP E 2 150 [o0, o1, o2, o3, o4, o5] st h' K := fe_w1_puti (show fe_fetch 2 147 = some (.putfield 27) by decide +kernel) (show fe_fl.lookup (fe_mC 2, 27) = some (0, 5, false, 103) by decide +kernel) (by decide +kernel) rfl
theorem fe_e2_150 : fe_WP E 2 150 [o0, o1, o2, o3, o4, o5] [] h K ↔ K (.inl none) h := fe_w1_rv (show fe_fetch 2 150 = some (.return_) by decide +kernel) (by decide +kernel)
-- 3: X0_isFreeOf
theorem fe_e3_0 : fe_WP E 3 0 [some (.ref a0), o1, o2, o3, o4, o5, o6, o7] st h K ↔ fe_WP E 3 1 [some (.ref a0), o1, o2, o3, o4, o5, o6, o7] (.ref a0 :: st) h K := fe_wp_p (show fe_fetch 3 0 = some (.aload_n 0) by decide +kernel) rfl
theorem fe_e3_1 : fe_WP E 3 1 [o0, o1, o2, o3, o4, o5, o6, o7] (.ref a0 :: st) h K ↔ ∃ v, fe_gf h a0 0 6 = some v ∧ fe_WP E 3 4 [o0, o1, o2, o3, o4, o5, o6, o7] (v :: st) h K := fe_w1_get (show fe_fetch 3 1 = some (.getfield 30) by decide +kernel) (show fe_fl.lookup (fe_mC 3, 30) = some (0, 6, false, 104) by decide +kernel)
theorem fe_e3_4 : fe_WP E 3 4 [o0, o1, o2, o3, o4, o5, o6, o7] st h K ↔ fe_WP E 3 5 [o0, o1, o2, o3, o4, o5, o6, o7] (.int (fe_z 0) :: st) h K := fe_w1_ic (show fe_fetch 3 4 = some (.iconst 0) by decide +kernel) (by decide)
theorem fe_e3_5 : fe_WP E 3 5 [o0, o1, o2, o3, o4, o5, o6, o7] [.int x1, .int x0] h K ↔ fe_WP E 115 0 [some (.int x0), some (.int x1)] [] h (fe_KB E 3 5 [o0, o1, o2, o3, o4, o5, o6, o7] [] K) := fe_w1_cs (as := [.int x0, .int x1]) (rest := []) (show fe_fetch 3 5 = some (.invokestatic 48) by decide +kernel) (show fe_cl.lookup (fe_mC 3, 48) = some (115, false, 304) by decide +kernel) (by decide) (by decide +kernel) rfl rfl rfl
theorem fe_e3_8 : fe_WP E 3 8 [some (.ref a0), o1, o2, o3, o4, o5, o6, o7] st h K ↔ fe_WP E 3 9 [some (.ref a0), o1, o2, o3, o4, o5, o6, o7] (.ref a0 :: st) h K := fe_wp_p (show fe_fetch 3 8 = some (.aload_n 0) by decide +kernel) rfl
theorem fe_e3_9 : fe_WP E 3 9 [o0, o1, o2, o3, o4, o5, o6, o7] (.ref a0 :: st) h K ↔ ∃ v, fe_gf h a0 0 7 = some v ∧ fe_WP E 3 12 [o0, o1, o2, o3, o4, o5, o6, o7] (v :: st) h K := fe_w1_get (show fe_fetch 3 9 = some (.getfield 33) by decide +kernel) (show fe_fl.lookup (fe_mC 3, 33) = some (0, 7, false, 105) by decide +kernel)
theorem fe_e3_12 : fe_WP E 3 12 [o0, o1, o2, o3, o4, o5, o6, o7] (.int x0 :: st) h K ↔ fe_WP E 3 13 [o0, o1, o2, o3, o4, o5, o6, o7] (.int (-x0) :: st) h K := fe_wp_p (show fe_fetch 3 12 = some (.ineg) by decide +kernel) rfl
theorem fe_e3_13 : fe_WP E 3 13 [o0, o1, o2, o3, o4, o5, o6, o7] st h K ↔ fe_WP E 3 14 [o0, o1, o2, o3, o4, o5, o6, o7] (.int (fe_z 0) :: st) h K := fe_w1_ic (show fe_fetch 3 13 = some (.iconst 0) by decide +kernel) (by decide)
theorem fe_e3_14 : fe_WP E 3 14 [o0, o1, o2, o3, o4, o5, o6, o7] [.int x1, .int x0, r0] h K ↔ fe_WP E 115 0 [some (.int x0), some (.int x1)] [] h (fe_KB E 3 14 [o0, o1, o2, o3, o4, o5, o6, o7] [r0] K) := fe_w1_cs (as := [.int x0, .int x1]) (rest := [r0]) (show fe_fetch 3 14 = some (.invokestatic 48) by decide +kernel) (show fe_cl.lookup (fe_mC 3, 48) = some (115, false, 304) by decide +kernel) (by decide) (by decide +kernel) rfl rfl rfl
theorem fe_e3_17 : fe_WP E 3 17 [o0, o1, o2, o3, o4, o5, o6, o7] (.int x1 :: .int x0 :: st) h K ↔ fe_WP E 3 18 [o0, o1, o2, o3, o4, o5, o6, o7] (.int (x0 + x1) :: st) h K := fe_wp_p (show fe_fetch 3 17 = some (.iadd) by decide +kernel) rfl
theorem fe_e3_18 : fe_WP E 3 18 [o0, o1, o2, o3, o4, o5, o6, o7] (.int x0 :: st) h K ↔ fe_WP E 3 19 [o0, o1, some (.int x0), o3, o4, o5, o6, o7] st h K := fe_wp_p (show fe_fetch 3 18 = some (.istore_n 2) by decide +kernel) rfl
theorem fe_e3_19 : fe_WP E 3 19 [some (.ref a0), o1, o2, o3, o4, o5, o6, o7] st h K ↔ fe_WP E 3 20 [some (.ref a0), o1, o2, o3, o4, o5, o6, o7] (.ref a0 :: st) h K := fe_wp_p (show fe_fetch 3 19 = some (.aload_n 0) by decide +kernel) rfl
theorem fe_e3_20 : fe_WP E 3 20 [o0, o1, o2, o3, o4, o5, o6, o7] (.ref a0 :: st) h K ↔ ∃ v, fe_gf h a0 0 8 = some v ∧ fe_WP E 3 23 [o0, o1, o2, o3, o4, o5, o6, o7] (v :: st) h K := fe_w1_get (show fe_fetch 3 20 = some (.getfield 36) by decide +kernel) (show fe_fl.lookup (fe_mC 3, 36) = some (0, 8, false, 106) by decide +kernel)
theorem fe_e3_23 : fe_WP E 3 23 [o0, o1, o2, o3, o4, o5, o6, o7] st h K ↔ fe_WP E 3 24 [o0, o1, o2, o3, o4, o5, o6, o7] (.int (fe_z 0) :: st) h K := fe_w1_ic (show fe_fetch 3 23 = some (.iconst 0) by decide +kernel) (by decide)
theorem fe_e3_24 : fe_WP E 3 24 [o0, o1, o2, o3, o4, o5, o6, o7] [.int x1, .int x0] h K ↔ fe_WP E 116 0 [some (.int x0), some (.int x1)] [] h (fe_KB E 3 24 [o0, o1, o2, o3, o4, o5, o6, o7] [] K) := fe_w1_cs (as := [.int x0, .int x1]) (rest := []) (show fe_fetch 3 24 = some (.invokestatic 42) by decide +kernel) (show fe_cl.lookup (fe_mC 3, 42) = some (116, false, 303) by decide +kernel) (by decide) (by decide +kernel) rfl rfl rfl
theorem fe_e3_27 : fe_WP E 3 27 [some (.ref a0), o1, o2, o3, o4, o5, o6, o7] st h K ↔ fe_WP E 3 28 [some (.ref a0), o1, o2, o3, o4, o5, o6, o7] (.ref a0 :: st) h K := fe_wp_p (show fe_fetch 3 27 = some (.aload_n 0) by decide +kernel) rfl
theorem fe_e3_28 : fe_WP E 3 28 [o0, o1, o2, o3, o4, o5, o6, o7] (.ref a0 :: st) h K ↔ ∃ v, fe_gf h a0 0 9 = some v ∧ fe_WP E 3 31 [o0, o1, o2, o3, o4, o5, o6, o7] (v :: st) h K := fe_w1_get (show fe_fetch 3 28 = some (.getfield 39) by decide +kernel) (show fe_fl.lookup (fe_mC 3, 39) = some (0, 9, false, 107) by decide +kernel)
theorem fe_e3_31 : fe_WP E 3 31 [o0, o1, o2, o3, o4, o5, o6, o7] (.int x0 :: st) h K ↔ fe_WP E 3 32 [o0, o1, o2, o3, o4, o5, o6, o7] (.int (-x0) :: st) h K := fe_wp_p (show fe_fetch 3 31 = some (.ineg) by decide +kernel) rfl
theorem fe_e3_32 : fe_WP E 3 32 [o0, o1, o2, o3, o4, o5, o6, o7] st h K ↔ fe_WP E 3 33 [o0, o1, o2, o3, o4, o5, o6, o7] (.int (fe_z 0) :: st) h K := fe_w1_ic (show fe_fetch 3 32 = some (.iconst 0) by decide +kernel) (by decide)
theorem fe_e3_33 : fe_WP E 3 33 [o0, o1, o2, o3, o4, o5, o6, o7] [.int x1, .int x0, r0] h K ↔ fe_WP E 116 0 [some (.int x0), some (.int x1)] [] h (fe_KB E 3 33 [o0, o1, o2, o3, o4, o5, o6, o7] [r0] K) := fe_w1_cs (as := [.int x0, .int x1]) (rest := [r0]) (show fe_fetch 3 33 = some (.invokestatic 42) by decide +kernel) (show fe_cl.lookup (fe_mC 3, 42) = some (116, false, 303) by decide +kernel) (by decide) (by decide +kernel) rfl rfl rfl
theorem fe_e3_36 : fe_WP E 3 36 [o0, o1, o2, o3, o4, o5, o6, o7] (.int x1 :: .int x0 :: st) h K ↔ fe_WP E 3 37 [o0, o1, o2, o3, o4, o5, o6, o7] (.int (x0 + x1) :: st) h K := fe_wp_p (show fe_fetch 3 36 = some (.iadd) by decide +kernel) rfl
theorem fe_e3_37 : fe_WP E 3 37 [o0, o1, o2, o3, o4, o5, o6, o7] (.int x0 :: st) h K ↔ fe_WP E 3 38 [o0, o1, o2, some (.int x0), o4, o5, o6, o7] st h K := fe_wp_p (show fe_fetch 3 37 = some (.istore_n 3) by decide +kernel) rfl
theorem fe_e3_38 : fe_WP E 3 38 [some (.ref a0), o1, o2, o3, o4, o5, o6, o7] st h K ↔ fe_WP E 3 39 [some (.ref a0), o1, o2, o3, o4, o5, o6, o7] (.ref a0 :: st) h K := fe_wp_p (show fe_fetch 3 38 = some (.aload_n 0) by decide +kernel) rfl
theorem fe_e3_39 : fe_WP E 3 39 [o0, o1, o2, o3, o4, o5, o6, o7] (.ref a0 :: st) h K ↔ ∃ v, fe_gf h a0 0 4 = some v ∧ fe_WP E 3 42 [o0, o1, o2, o3, o4, o5, o6, o7] (v :: st) h K := fe_w1_get (show fe_fetch 3 39 = some (.getfield 24) by decide +kernel) (show fe_fl.lookup (fe_mC 3, 24) = some (0, 4, false, 102) by decide +kernel)
theorem fe_e3_42 : fe_WP E 3 42 [o0, o1, o2, o3, o4, o5, o6, o7] (.int x0 :: st) h K ↔ fe_WP E 3 44 [o0, o1, o2, o3, some (.int x0), o5, o6, o7] st h K := fe_wp_p (show fe_fetch 3 42 = some (.istore 4) by decide +kernel) rfl
theorem fe_e3_44 : fe_WP E 3 44 [o0, o1, o2, o3, some (.int x0), o5, o6, o7] st h K ↔ fe_WP E 3 46 [o0, o1, o2, o3, some (.int x0), o5, o6, o7] (.int x0 :: st) h K := fe_wp_p (show fe_fetch 3 44 = some (.iload 4) by decide +kernel) rfl
theorem fe_e3_46 : fe_WP E 3 46 [some (.ref a0), o1, o2, o3, o4, o5, o6, o7] st h K ↔ fe_WP E 3 47 [some (.ref a0), o1, o2, o3, o4, o5, o6, o7] (.ref a0 :: st) h K := fe_wp_p (show fe_fetch 3 46 = some (.aload_n 0) by decide +kernel) rfl
theorem fe_e3_47 : fe_WP E 3 47 [o0, o1, o2, o3, o4, o5, o6, o7] (.ref a0 :: st) h K ↔ ∃ v, fe_gf h a0 0 5 = some v ∧ fe_WP E 3 50 [o0, o1, o2, o3, o4, o5, o6, o7] (v :: st) h K := fe_w1_get (show fe_fetch 3 47 = some (.getfield 27) by decide +kernel) (show fe_fl.lookup (fe_mC 3, 27) = some (0, 5, false, 103) by decide +kernel)
theorem fe_e3_50 : fe_WP E 3 50 [o0, o1, o2, o3, o4, o5, o6, o7] (.int x1 :: .int x0 :: st) h K ↔ if x1 ≤ x0 then fe_WP E 3 153 [o0, o1, o2, o3, o4, o5, o6, o7] st h K else fe_WP E 3 53 [o0, o1, o2, o3, o4, o5, o6, o7] st h K := fe_w1_ii (P := x1 ≤ x0) (show fe_fetch 3 50 = some (.if_icmp .ge 103) by decide +kernel) (by decide) (by decide) rfl
theorem fe_e3_53 : fe_WP E 3 53 [o0, o1, o2, o3, some (.int x0), o5, o6, o7] st h K ↔ fe_WP E 3 55 [o0, o1, o2, o3, some (.int x0), o5, o6, o7] (.int x0 :: st) h K := fe_wp_p (show fe_fetch 3 53 = some (.iload 4) by decide +kernel) rfl
theorem fe_e3_55 : fe_WP E 3 55 [some (.ref a0), o1, o2, o3, o4, o5, o6, o7] st h K ↔ fe_WP E 3 56 [some (.ref a0), o1, o2, o3, o4, o5, o6, o7] (.ref a0 :: st) h K := fe_wp_p (show fe_fetch 3 55 = some (.aload_n 0) by decide +kernel) rfl
theorem fe_e3_56 : fe_WP E 3 56 [o0, o1, o2, o3, o4, o5, o6, o7] (.ref a0 :: st) h K ↔ ∃ v, fe_gf h a0 0 1 = some v ∧ fe_WP E 3 59 [o0, o1, o2, o3, o4, o5, o6, o7] (v :: st) h K := fe_w1_get (show fe_fetch 3 56 = some (.getfield 15) by decide +kernel) (show fe_fl.lookup (fe_mC 3, 15) = some (0, 1, false, 99) by decide +kernel)
theorem fe_e3_59 : fe_WP E 3 59 [o0, o1, o2, o3, o4, o5, o6, o7] (.int x1 :: .int x0 :: st) h K ↔ fe_WP E 3 60 [o0, o1, o2, o3, o4, o5, o6, o7] (.int (x0 - x1) :: st) h K := fe_wp_p (show fe_fetch 3 59 = some (.isub) by decide +kernel) rfl
theorem fe_e3_60 : fe_WP E 3 60 [o0, o1, o2, o3, o4, o5, o6, o7] (.int x0 :: st) h K ↔ fe_WP E 3 62 [o0, o1, o2, o3, o4, some (.int x0), o6, o7] st h K := fe_wp_p (show fe_fetch 3 60 = some (.istore 5) by decide +kernel) rfl
theorem fe_e3_62 : fe_WP E 3 62 [some (.ref a0), o1, o2, o3, o4, o5, o6, o7] st h K ↔ fe_WP E 3 63 [some (.ref a0), o1, o2, o3, o4, o5, o6, o7] (.ref a0 :: st) h K := fe_wp_p (show fe_fetch 3 62 = some (.aload_n 0) by decide +kernel) rfl
theorem fe_e3_63 : fe_WP E 3 63 [o0, o1, o2, o3, o4, o5, o6, o7] (.ref a0 :: st) h K ↔ ∃ v, fe_gf h a0 0 2 = some v ∧ fe_WP E 3 66 [o0, o1, o2, o3, o4, o5, o6, o7] (v :: st) h K := fe_w1_get (show fe_fetch 3 63 = some (.getfield 18) by decide +kernel) (show fe_fl.lookup (fe_mC 3, 18) = some (0, 2, false, 100) by decide +kernel)
theorem fe_e3_66 : fe_WP E 3 66 [o0, o1, o2, o3, o4, o5, o6, o7] (.int x0 :: st) h K ↔ fe_WP E 3 68 [o0, o1, o2, o3, o4, o5, some (.int x0), o7] st h K := fe_wp_p (show fe_fetch 3 66 = some (.istore 6) by decide +kernel) rfl
theorem fe_e3_68 : fe_WP E 3 68 [o0, o1, o2, o3, o4, o5, some (.int x0), o7] st h K ↔ fe_WP E 3 70 [o0, o1, o2, o3, o4, o5, some (.int x0), o7] (.int x0 :: st) h K := fe_wp_p (show fe_fetch 3 68 = some (.iload 6) by decide +kernel) rfl
theorem fe_e3_70 : fe_WP E 3 70 [some (.ref a0), o1, o2, o3, o4, o5, o6, o7] st h K ↔ fe_WP E 3 71 [some (.ref a0), o1, o2, o3, o4, o5, o6, o7] (.ref a0 :: st) h K := fe_wp_p (show fe_fetch 3 70 = some (.aload_n 0) by decide +kernel) rfl
theorem fe_e3_71 : fe_WP E 3 71 [o0, o1, o2, o3, o4, o5, o6, o7] (.ref a0 :: st) h K ↔ ∃ v, fe_gf h a0 0 3 = some v ∧ fe_WP E 3 74 [o0, o1, o2, o3, o4, o5, o6, o7] (v :: st) h K := fe_w1_get (show fe_fetch 3 71 = some (.getfield 21) by decide +kernel) (show fe_fl.lookup (fe_mC 3, 21) = some (0, 3, false, 101) by decide +kernel)
theorem fe_e3_74 : fe_WP E 3 74 [o0, o1, o2, o3, o4, o5, o6, o7] (.int x1 :: .int x0 :: st) h K ↔ if x1 ≤ x0 then fe_WP E 3 147 [o0, o1, o2, o3, o4, o5, o6, o7] st h K else fe_WP E 3 77 [o0, o1, o2, o3, o4, o5, o6, o7] st h K := fe_w1_ii (P := x1 ≤ x0) (show fe_fetch 3 74 = some (.if_icmp .ge 73) by decide +kernel) (by decide) (by decide) rfl
theorem fe_e3_77 : fe_WP E 3 77 [o0, some (.ref a0), o2, o3, o4, o5, o6, o7] st h K ↔ fe_WP E 3 78 [o0, some (.ref a0), o2, o3, o4, o5, o6, o7] (.ref a0 :: st) h K := fe_wp_p (show fe_fetch 3 77 = some (.aload_n 1) by decide +kernel) rfl
theorem fe_e3_78 : fe_WP E 3 78 [o0, o1, o2, o3, o4, o5, o6, o7] st h K ↔ fe_WP E 3 80 [o0, o1, o2, o3, o4, o5, o6, o7] (.int (fe_z 16) :: st) h K := fe_w1_bi (show fe_fetch 3 78 = some (.bipush 16) by decide +kernel) (by decide)
theorem fe_e3_80 : fe_WP E 3 80 [o0, o1, o2, o3, some (.int x0), o5, o6, o7] st h K ↔ fe_WP E 3 82 [o0, o1, o2, o3, some (.int x0), o5, o6, o7] (.int x0 :: st) h K := fe_wp_p (show fe_fetch 3 80 = some (.iload 4) by decide +kernel) rfl
theorem fe_e3_82 : fe_WP E 3 82 [o0, o1, o2, o3, o4, o5, o6, o7] (.int x1 :: .int x0 :: st) h K ↔ fe_WP E 3 83 [o0, o1, o2, o3, o4, o5, o6, o7] (.int (x0 * x1) :: st) h K := fe_wp_p (show fe_fetch 3 82 = some (.imul) by decide +kernel) rfl
theorem fe_e3_83 : fe_WP E 3 83 [o0, o1, o2, o3, o4, o5, some (.int x0), o7] st h K ↔ fe_WP E 3 85 [o0, o1, o2, o3, o4, o5, some (.int x0), o7] (.int x0 :: st) h K := fe_wp_p (show fe_fetch 3 83 = some (.iload 6) by decide +kernel) rfl
theorem fe_e3_85 : fe_WP E 3 85 [o0, o1, o2, o3, o4, o5, o6, o7] (.int x1 :: .int x0 :: st) h K ↔ fe_WP E 3 86 [o0, o1, o2, o3, o4, o5, o6, o7] (.int (x0 + x1) :: st) h K := fe_wp_p (show fe_fetch 3 85 = some (.iadd) by decide +kernel) rfl
theorem fe_e3_86 : fe_WP E 3 86 [o0, o1, o2, o3, o4, o5, o6, o7] (.int x0 :: .ref a0 :: st) h K ↔ ∃ v, fe_za h a0 x0 = some v ∧ fe_WP E 3 87 [o0, o1, o2, o3, o4, o5, o6, o7] (.int (fe_bi v) :: st) h K := fe_w1_za (show fe_fetch 3 86 = some (.baload) by decide +kernel)
theorem fe_e3_87 : fe_WP E 3 87 [o0, o1, o2, o3, o4, o5, o6, o7] (.int x0 :: st) h K ↔ if x0 = fe_z 0 then fe_WP E 3 141 [o0, o1, o2, o3, o4, o5, o6, o7] st h K else fe_WP E 3 90 [o0, o1, o2, o3, o4, o5, o6, o7] st h K := fe_w1_if (P := x0 = fe_z 0) (show fe_fetch 3 87 = some (.ifCond .eq 54) by decide +kernel) (by decide) (by decide) rfl
theorem fe_e3_90 : fe_WP E 3 90 [o0, o1, o2, o3, o4, o5, some (.int x0), o7] st h K ↔ fe_WP E 3 92 [o0, o1, o2, o3, o4, o5, some (.int x0), o7] (.int x0 :: st) h K := fe_wp_p (show fe_fetch 3 90 = some (.iload 6) by decide +kernel) rfl
theorem fe_e3_92 : fe_WP E 3 92 [some (.ref a0), o1, o2, o3, o4, o5, o6, o7] st h K ↔ fe_WP E 3 93 [some (.ref a0), o1, o2, o3, o4, o5, o6, o7] (.ref a0 :: st) h K := fe_wp_p (show fe_fetch 3 92 = some (.aload_n 0) by decide +kernel) rfl
theorem fe_e3_93 : fe_WP E 3 93 [o0, o1, o2, o3, o4, o5, o6, o7] (.ref a0 :: st) h K ↔ ∃ v, fe_gf h a0 0 0 = some v ∧ fe_WP E 3 96 [o0, o1, o2, o3, o4, o5, o6, o7] (v :: st) h K := fe_w1_get (show fe_fetch 3 93 = some (.getfield 9) by decide +kernel) (show fe_fl.lookup (fe_mC 3, 9) = some (0, 0, false, 98) by decide +kernel)
theorem fe_e3_96 : fe_WP E 3 96 [o0, o1, o2, o3, o4, o5, o6, o7] (.int x1 :: .int x0 :: st) h K ↔ fe_WP E 3 97 [o0, o1, o2, o3, o4, o5, o6, o7] (.int (x0 - x1) :: st) h K := fe_wp_p (show fe_fetch 3 96 = some (.isub) by decide +kernel) rfl
theorem fe_e3_97 : fe_WP E 3 97 [o0, o1, o2, o3, o4, o5, o6, o7] (.int x0 :: st) h K ↔ fe_WP E 3 99 [o0, o1, o2, o3, o4, o5, o6, some (.int x0)] st h K := fe_wp_p (show fe_fetch 3 97 = some (.istore 7) by decide +kernel) rfl
theorem fe_e3_99 : fe_WP E 3 99 [some (.ref a0), o1, o2, o3, o4, o5, o6, o7] st h K ↔ fe_WP E 3 100 [some (.ref a0), o1, o2, o3, o4, o5, o6, o7] (.ref a0 :: st) h K := fe_wp_p (show fe_fetch 3 99 = some (.aload_n 0) by decide +kernel) rfl
theorem fe_e3_100 : fe_WP E 3 100 [o0, o1, o2, o3, o4, o5, o6, o7] (.ref a0 :: st) h K ↔ ∃ v, fe_gf h a0 0 6 = some v ∧ fe_WP E 3 103 [o0, o1, o2, o3, o4, o5, o6, o7] (v :: st) h K := fe_w1_get (show fe_fetch 3 100 = some (.getfield 30) by decide +kernel) (show fe_fl.lookup (fe_mC 3, 30) = some (0, 6, false, 104) by decide +kernel)
theorem fe_e3_103 : fe_WP E 3 103 [o0, o1, o2, o3, o4, some (.int x0), o6, o7] st h K ↔ fe_WP E 3 105 [o0, o1, o2, o3, o4, some (.int x0), o6, o7] (.int x0 :: st) h K := fe_wp_p (show fe_fetch 3 103 = some (.iload 5) by decide +kernel) rfl
theorem fe_e3_105 : fe_WP E 3 105 [o0, o1, o2, o3, o4, o5, o6, o7] (.int x1 :: .int x0 :: st) h K ↔ fe_WP E 3 106 [o0, o1, o2, o3, o4, o5, o6, o7] (.int (x0 * x1) :: st) h K := fe_wp_p (show fe_fetch 3 105 = some (.imul) by decide +kernel) rfl
theorem fe_e3_106 : fe_WP E 3 106 [some (.ref a0), o1, o2, o3, o4, o5, o6, o7] st h K ↔ fe_WP E 3 107 [some (.ref a0), o1, o2, o3, o4, o5, o6, o7] (.ref a0 :: st) h K := fe_wp_p (show fe_fetch 3 106 = some (.aload_n 0) by decide +kernel) rfl
theorem fe_e3_107 : fe_WP E 3 107 [o0, o1, o2, o3, o4, o5, o6, o7] (.ref a0 :: st) h K ↔ ∃ v, fe_gf h a0 0 7 = some v ∧ fe_WP E 3 110 [o0, o1, o2, o3, o4, o5, o6, o7] (v :: st) h K := fe_w1_get (show fe_fetch 3 107 = some (.getfield 33) by decide +kernel) (show fe_fl.lookup (fe_mC 3, 33) = some (0, 7, false, 105) by decide +kernel)
theorem fe_e3_110 : fe_WP E 3 110 [o0, o1, o2, o3, o4, o5, o6, some (.int x0)] st h K ↔ fe_WP E 3 112 [o0, o1, o2, o3, o4, o5, o6, some (.int x0)] (.int x0 :: st) h K := fe_wp_p (show fe_fetch 3 110 = some (.iload 7) by decide +kernel) rfl
theorem fe_e3_112 : fe_WP E 3 112 [o0, o1, o2, o3, o4, o5, o6, o7] (.int x1 :: .int x0 :: st) h K ↔ fe_WP E 3 113 [o0, o1, o2, o3, o4, o5, o6, o7] (.int (x0 * x1) :: st) h K := fe_wp_p (show fe_fetch 3 112 = some (.imul) by decide +kernel) rfl
theorem fe_e3_113 : fe_WP E 3 113 [o0, o1, o2, o3, o4, o5, o6, o7] (.int x1 :: .int x0 :: st) h K ↔ fe_WP E 3 114 [o0, o1, o2, o3, o4, o5, o6, o7] (.int (x0 - x1) :: st) h K := fe_wp_p (show fe_fetch 3 113 = some (.isub) by decide +kernel) rfl
theorem fe_e3_114 : fe_WP E 3 114 [o0, o1, some (.int x0), o3, o4, o5, o6, o7] st h K ↔ fe_WP E 3 115 [o0, o1, some (.int x0), o3, o4, o5, o6, o7] (.int x0 :: st) h K := fe_wp_p (show fe_fetch 3 114 = some (.iload_n 2) by decide +kernel) rfl
theorem fe_e3_115 : fe_WP E 3 115 [o0, o1, o2, o3, o4, o5, o6, o7] (.int x1 :: .int x0 :: st) h K ↔ fe_WP E 3 116 [o0, o1, o2, o3, o4, o5, o6, o7] (.int (x0 + x1) :: st) h K := fe_wp_p (show fe_fetch 3 115 = some (.iadd) by decide +kernel) rfl
theorem fe_e3_116 : fe_WP E 3 116 [o0, o1, o2, o3, o4, o5, o6, o7] (.int x0 :: st) h K ↔ if x0 ≤ fe_z 0 then fe_WP E 3 141 [o0, o1, o2, o3, o4, o5, o6, o7] st h K else fe_WP E 3 119 [o0, o1, o2, o3, o4, o5, o6, o7] st h K := fe_w1_if (P := x0 ≤ fe_z 0) (show fe_fetch 3 116 = some (.ifCond .le 25) by decide +kernel) (by decide) (by decide) rfl
theorem fe_e3_119 : fe_WP E 3 119 [some (.ref a0), o1, o2, o3, o4, o5, o6, o7] st h K ↔ fe_WP E 3 120 [some (.ref a0), o1, o2, o3, o4, o5, o6, o7] (.ref a0 :: st) h K := fe_wp_p (show fe_fetch 3 119 = some (.aload_n 0) by decide +kernel) rfl
theorem fe_e3_120 : fe_WP E 3 120 [o0, o1, o2, o3, o4, o5, o6, o7] (.ref a0 :: st) h K ↔ ∃ v, fe_gf h a0 0 8 = some v ∧ fe_WP E 3 123 [o0, o1, o2, o3, o4, o5, o6, o7] (v :: st) h K := fe_w1_get (show fe_fetch 3 120 = some (.getfield 36) by decide +kernel) (show fe_fl.lookup (fe_mC 3, 36) = some (0, 8, false, 106) by decide +kernel)
theorem fe_e3_123 : fe_WP E 3 123 [o0, o1, o2, o3, o4, some (.int x0), o6, o7] st h K ↔ fe_WP E 3 125 [o0, o1, o2, o3, o4, some (.int x0), o6, o7] (.int x0 :: st) h K := fe_wp_p (show fe_fetch 3 123 = some (.iload 5) by decide +kernel) rfl
theorem fe_e3_125 : fe_WP E 3 125 [o0, o1, o2, o3, o4, o5, o6, o7] (.int x1 :: .int x0 :: st) h K ↔ fe_WP E 3 126 [o0, o1, o2, o3, o4, o5, o6, o7] (.int (x0 * x1) :: st) h K := fe_wp_p (show fe_fetch 3 125 = some (.imul) by decide +kernel) rfl
theorem fe_e3_126 : fe_WP E 3 126 [some (.ref a0), o1, o2, o3, o4, o5, o6, o7] st h K ↔ fe_WP E 3 127 [some (.ref a0), o1, o2, o3, o4, o5, o6, o7] (.ref a0 :: st) h K := fe_wp_p (show fe_fetch 3 126 = some (.aload_n 0) by decide +kernel) rfl
theorem fe_e3_127 : fe_WP E 3 127 [o0, o1, o2, o3, o4, o5, o6, o7] (.ref a0 :: st) h K ↔ ∃ v, fe_gf h a0 0 9 = some v ∧ fe_WP E 3 130 [o0, o1, o2, o3, o4, o5, o6, o7] (v :: st) h K := fe_w1_get (show fe_fetch 3 127 = some (.getfield 39) by decide +kernel) (show fe_fl.lookup (fe_mC 3, 39) = some (0, 9, false, 107) by decide +kernel)
theorem fe_e3_130 : fe_WP E 3 130 [o0, o1, o2, o3, o4, o5, o6, some (.int x0)] st h K ↔ fe_WP E 3 132 [o0, o1, o2, o3, o4, o5, o6, some (.int x0)] (.int x0 :: st) h K := fe_wp_p (show fe_fetch 3 130 = some (.iload 7) by decide +kernel) rfl
theorem fe_e3_132 : fe_WP E 3 132 [o0, o1, o2, o3, o4, o5, o6, o7] (.int x1 :: .int x0 :: st) h K ↔ fe_WP E 3 133 [o0, o1, o2, o3, o4, o5, o6, o7] (.int (x0 * x1) :: st) h K := fe_wp_p (show fe_fetch 3 132 = some (.imul) by decide +kernel) rfl
theorem fe_e3_133 : fe_WP E 3 133 [o0, o1, o2, o3, o4, o5, o6, o7] (.int x1 :: .int x0 :: st) h K ↔ fe_WP E 3 134 [o0, o1, o2, o3, o4, o5, o6, o7] (.int (x0 - x1) :: st) h K := fe_wp_p (show fe_fetch 3 133 = some (.isub) by decide +kernel) rfl
theorem fe_e3_134 : fe_WP E 3 134 [o0, o1, o2, some (.int x0), o4, o5, o6, o7] st h K ↔ fe_WP E 3 135 [o0, o1, o2, some (.int x0), o4, o5, o6, o7] (.int x0 :: st) h K := fe_wp_p (show fe_fetch 3 134 = some (.iload_n 3) by decide +kernel) rfl
theorem fe_e3_135 : fe_WP E 3 135 [o0, o1, o2, o3, o4, o5, o6, o7] (.int x1 :: .int x0 :: st) h K ↔ fe_WP E 3 136 [o0, o1, o2, o3, o4, o5, o6, o7] (.int (x0 + x1) :: st) h K := fe_wp_p (show fe_fetch 3 135 = some (.iadd) by decide +kernel) rfl
theorem fe_e3_136 : fe_WP E 3 136 [o0, o1, o2, o3, o4, o5, o6, o7] (.int x0 :: st) h K ↔ if fe_z 0 ≤ x0 then fe_WP E 3 141 [o0, o1, o2, o3, o4, o5, o6, o7] st h K else fe_WP E 3 139 [o0, o1, o2, o3, o4, o5, o6, o7] st h K := fe_w1_if (P := fe_z 0 ≤ x0) (show fe_fetch 3 136 = some (.ifCond .ge 5) by decide +kernel) (by decide) (by decide) rfl
theorem fe_e3_139 : fe_WP E 3 139 [o0, o1, o2, o3, o4, o5, o6, o7] st h K ↔ fe_WP E 3 140 [o0, o1, o2, o3, o4, o5, o6, o7] (.int (fe_z 0) :: st) h K := fe_w1_ic (show fe_fetch 3 139 = some (.iconst 0) by decide +kernel) (by decide)
theorem fe_e3_140 : fe_WP E 3 140 [o0, o1, o2, o3, o4, o5, o6, o7] [.int x0] h K ↔ (x0 = fe_z 0 ∨ x0 = fe_z 1) ∧ K (.inl (some (.int x0))) h := fe_w1_rz (show fe_fetch 3 140 = some (.ireturn) by decide +kernel) (by decide +kernel)
theorem fe_e3_141 : fe_WP E 3 141 [o0, o1, o2, o3, o4, o5, some (.int x0), o7] st h K ↔ fe_WP E 3 144 [o0, o1, o2, o3, o4, o5, some (.int (x0 + fe_z 1)), o7] st h K := fe_w1_inc (k := 6) (v := fe_z 1) (show fe_fetch 3 141 = some (.iinc 6 1) by decide +kernel) rfl (by decide) rfl
theorem fe_e3_144 : fe_WP E 3 144 [o0, o1, o2, o3, o4, o5, o6, o7] st h K ↔ fe_WP E 3 68 [o0, o1, o2, o3, o4, o5, o6, o7] st h K := fe_w1_go (show fe_fetch 3 144 = some (.goto (-76)) by decide +kernel) (by decide) (by decide)
theorem fe_e3_147 : fe_WP E 3 147 [o0, o1, o2, o3, some (.int x0), o5, o6, o7] st h K ↔ fe_WP E 3 150 [o0, o1, o2, o3, some (.int (x0 + fe_z 1)), o5, o6, o7] st h K := fe_w1_inc (k := 4) (v := fe_z 1) (show fe_fetch 3 147 = some (.iinc 4 1) by decide +kernel) rfl (by decide) rfl
theorem fe_e3_150 : fe_WP E 3 150 [o0, o1, o2, o3, o4, o5, o6, o7] st h K ↔ fe_WP E 3 44 [o0, o1, o2, o3, o4, o5, o6, o7] st h K := fe_w1_go (show fe_fetch 3 150 = some (.goto (-106)) by decide +kernel) (by decide) (by decide)
theorem fe_e3_153 : fe_WP E 3 153 [o0, o1, o2, o3, o4, o5, o6, o7] st h K ↔ fe_WP E 3 154 [o0, o1, o2, o3, o4, o5, o6, o7] (.int (fe_z 1) :: st) h K := fe_w1_ic (show fe_fetch 3 153 = some (.iconst 1) by decide +kernel) (by decide)
theorem fe_e3_154 : fe_WP E 3 154 [o0, o1, o2, o3, o4, o5, o6, o7] [.int x0] h K ↔ (x0 = fe_z 0 ∨ x0 = fe_z 1) ∧ K (.inl (some (.int x0))) h := fe_w1_rz (show fe_fetch 3 154 = some (.ireturn) by decide +kernel) (by decide +kernel)
-- 16: X2_init
theorem fe_e16_0 : fe_WP E 16 0 [some (.ref a0)] st h K ↔ fe_WP E 16 1 [some (.ref a0)] (.ref a0 :: st) h K := fe_wp_p (show fe_fetch 16 0 = some (.aload_n 0) by decide +kernel) rfl
theorem fe_e16_1 : fe_WP E 16 1 [o0] [.ref a0] h K ↔ fe_WP E 16 4 [o0] [] h K := fe_w1_oi (r := []) (show fe_fetch 16 1 = some (.invokespecial 3) by decide +kernel) (by decide +kernel) (show fe_cl.lookup (fe_mC 16, 3) = none by decide +kernel)
theorem fe_e16_4 : fe_WP E 16 4 [some (.ref a0)] st h K ↔ fe_WP E 16 5 [some (.ref a0)] (.ref a0 :: st) h K := fe_wp_p (show fe_fetch 16 4 = some (.aload_n 0) by decide +kernel) rfl
theorem fe_e16_5 : fe_WP E 16 5 [o0] st h K ↔ fe_WP E 16 8 [o0] (.int (fe_z 192) :: st) h K := fe_w1_si (show fe_fetch 16 5 = some (.sipush 192) by decide +kernel) (by decide)
theorem fe_e16_8 : fe_WP E 16 8 [o0] (.int (fe_z 192) :: st) h K ↔ fe_nw h 192 = true ∧ fe_WP E 16 10 [o0] (.ref h.1 :: st) (fe_add h 192 (fe_Z 192 (fun _ => false))) K := fe_w1_na (show fe_fetch 16 8 = some (.newarray .boolean) by decide +kernel) (by decide) (by decide +kernel) (by decide) rfl
theorem fe_e16_10 : fe_WP E 16 10 [o0] (.ref a1 :: .ref a0 :: st) h K ↔ ∃ h', fe_pf h a0 2 0 (.ref a1) = some h' ∧ fe_WP E 16 13 [o0] st h' K := fe_w1_putr (show fe_fetch 16 10 = some (.putfield 9) by decide +kernel) (show fe_fl.lookup (fe_mC 16, 9) = some (2, 0, false, 130) by decide +kernel) (by decide +kernel) (by decide +kernel)
theorem fe_e16_13 : fe_WP E 16 13 [some (.ref a0)] st h K ↔ fe_WP E 16 14 [some (.ref a0)] (.ref a0 :: st) h K := fe_wp_p (show fe_fetch 16 13 = some (.aload_n 0) by decide +kernel) rfl
theorem fe_e16_14 : fe_WP E 16 14 [o0] st h K ↔ fe_WP E 16 17 [o0] (.int (fe_z 192) :: st) h K := fe_w1_si (show fe_fetch 16 14 = some (.sipush 192) by decide +kernel) (by decide)
theorem fe_e16_17 : fe_WP E 16 17 [o0] (.int (fe_z 192) :: st) h K ↔ fe_nw h 192 = true ∧ fe_WP E 16 19 [o0] (.ref h.1 :: st) (fe_add h 192 (fe_Z 192 (fun _ => false))) K := fe_w1_na (show fe_fetch 16 17 = some (.newarray .boolean) by decide +kernel) (by decide) (by decide +kernel) (by decide) rfl
theorem fe_e16_19 : fe_WP E 16 19 [o0] (.ref a1 :: .ref a0 :: st) h K ↔ ∃ h', fe_pf h a0 2 1 (.ref a1) = some h' ∧ fe_WP E 16 22 [o0] st h' K := fe_w1_putr (show fe_fetch 16 19 = some (.putfield 15) by decide +kernel) (show fe_fl.lookup (fe_mC 16, 15) = some (2, 1, false, 133) by decide +kernel) (by decide +kernel) (by decide +kernel)
theorem fe_e16_22 : fe_WP E 16 22 [some (.ref a0)] st h K ↔ fe_WP E 16 23 [some (.ref a0)] (.ref a0 :: st) h K := fe_wp_p (show fe_fetch 16 22 = some (.aload_n 0) by decide +kernel) rfl
theorem fe_e16_23 : fe_WP E 16 23 [o0] st h K ↔ fe_WP E 16 26 [o0] (.int (fe_z 192) :: st) h K := fe_w1_si (show fe_fetch 16 23 = some (.sipush 192) by decide +kernel) (by decide)
theorem fe_e16_26 : fe_WP E 16 26 [o0] (.int (fe_z 192) :: st) h K ↔ fe_nw h 192 = true ∧ fe_WP E 16 28 [o0] (.ref h.1 :: st) (fe_add h 192 (fe_Z 192 (fun _ => false))) K := fe_w1_na (show fe_fetch 16 26 = some (.newarray .boolean) by decide +kernel) (by decide) (by decide +kernel) (by decide) rfl
theorem fe_e16_28 : fe_WP E 16 28 [o0] (.ref a1 :: .ref a0 :: st) h K ↔ ∃ h', fe_pf h a0 2 2 (.ref a1) = some h' ∧ fe_WP E 16 31 [o0] st h' K := fe_w1_putr (show fe_fetch 16 28 = some (.putfield 18) by decide +kernel) (show fe_fl.lookup (fe_mC 16, 18) = some (2, 2, false, 135) by decide +kernel) (by decide +kernel) (by decide +kernel)
theorem fe_e16_31 : fe_WP E 16 31 [some (.ref a0)] st h K ↔ fe_WP E 16 32 [some (.ref a0)] (.ref a0 :: st) h K := fe_wp_p (show fe_fetch 16 31 = some (.aload_n 0) by decide +kernel) rfl
theorem fe_e16_32 : fe_WP E 16 32 [o0] st h K ↔ fe_nw h 10 = true ∧ fe_WP E 16 35 [o0] (.ref h.1 :: st) (fe_add h 10 (fe_O 0 [.int (fe_z 0), .int (fe_z 0), .int (fe_z 0), .int (fe_z 0), .int (fe_z 0), .int (fe_z 0), .int (fe_z 0), .int (fe_z 0), .int (fe_z 0), .int (fe_z 0)])) K := fe_w1_new (show fe_fetch 16 32 = some (.new 21) by decide +kernel) (show fe_nl.lookup (fe_mC 16, 21) = some 0 by decide +kernel) rfl (by decide +kernel)
theorem fe_e16_35 : fe_WP E 16 35 [o0] (.int x0 :: st) h K ↔ fe_WP E 16 36 [o0] (.int x0 :: .int x0 :: st) h K := fe_wp_p (show fe_fetch 16 35 = some (.dup) by decide +kernel) rfl
theorem fe_e16_35r : fe_WP E 16 35 [o0] (.ref a0 :: st) h K ↔ fe_WP E 16 36 [o0] (.ref a0 :: .ref a0 :: st) h K := fe_wp_p (show fe_fetch 16 35 = some (.dup) by decide +kernel) rfl
theorem fe_e16_36 : fe_WP E 16 36 [o0] [.ref a0, r0, r1] h K ↔ fe_ob h a0 0 = true ∧ fe_WP E 0 0 [some (.ref a0)] [] h (fe_KB E 16 36 [o0] [r0, r1] K) := fe_w1_ci (b := a0) (al := []) (rest := [r0, r1]) (show fe_fetch 16 36 = some (.invokespecial 23) by decide +kernel) (show fe_cl.lookup (fe_mC 16, 23) = some (0, true, 94) by decide +kernel) (by decide +kernel) (by decide +kernel) (by decide +kernel) rfl rfl rfl (show fe_mC 0 = 0 by decide +kernel)
theorem fe_e16_39 : fe_WP E 16 39 [o0] (.ref a1 :: .ref a0 :: st) h K ↔ ∃ h', fe_pf h a0 2 3 (.ref a1) = some h' ∧ fe_WP E 16 42 [o0] st h' K := fe_w1_putr (show fe_fetch 16 39 = some (.putfield 24) by decide +kernel) (show fe_fl.lookup (fe_mC 16, 24) = some (2, 3, false, 137) by decide +kernel) (by decide +kernel) (by decide +kernel)
theorem fe_e16_42 : fe_WP E 16 42 [o0] [] h K ↔ K (.inl none) h := fe_w1_rv (show fe_fetch 16 42 = some (.return_) by decide +kernel) (by decide +kernel)
-- 17: X2_shutRectangle
theorem fe_e17_0 : fe_WP E 17 0 [o0, some (.int x0), o2, o3, o4, o5, o6, o7, o8, o9, o10] st h K ↔ fe_WP E 17 1 [o0, some (.int x0), o2, o3, o4, o5, o6, o7, o8, o9, o10] (.int x0 :: st) h K := fe_wp_p (show fe_fetch 17 0 = some (.iload_n 1) by decide +kernel) rfl
theorem fe_e17_1 : fe_WP E 17 1 [o0, o1, o2, o3, o4, o5, o6, o7, o8, o9, o10] st h K ↔ fe_WP E 17 3 [o0, o1, o2, o3, o4, o5, o6, o7, o8, o9, o10] (.int (fe_z 16) :: st) h K := fe_w1_bi (show fe_fetch 17 1 = some (.bipush 16) by decide +kernel) (by decide)
theorem fe_e17_3 : fe_WP E 17 3 [o0, o1, o2, o3, o4, o5, o6, o7, o8, o9, o10] (.int x1 :: .int x0 :: st) h K ↔ ¬ x1 = fe_z 0 ∧ fe_WP E 17 4 [o0, o1, o2, o3, o4, o5, o6, o7, o8, o9, o10] (.int (x0 - x0 / x1 * x1) :: st) h K := fe_w1_rm (show fe_fetch 17 3 = some (.irem) by decide +kernel)
theorem fe_e17_4 : fe_WP E 17 4 [o0, o1, some (.int x0), o3, o4, o5, o6, o7, o8, o9, o10] st h K ↔ fe_WP E 17 5 [o0, o1, some (.int x0), o3, o4, o5, o6, o7, o8, o9, o10] (.int x0 :: st) h K := fe_wp_p (show fe_fetch 17 4 = some (.iload_n 2) by decide +kernel) rfl
theorem fe_e17_5 : fe_WP E 17 5 [o0, o1, o2, o3, o4, o5, o6, o7, o8, o9, o10] st h K ↔ fe_WP E 17 7 [o0, o1, o2, o3, o4, o5, o6, o7, o8, o9, o10] (.int (fe_z 16) :: st) h K := fe_w1_bi (show fe_fetch 17 5 = some (.bipush 16) by decide +kernel) (by decide)
theorem fe_e17_7 : fe_WP E 17 7 [o0, o1, o2, o3, o4, o5, o6, o7, o8, o9, o10] (.int x1 :: .int x0 :: st) h K ↔ ¬ x1 = fe_z 0 ∧ fe_WP E 17 8 [o0, o1, o2, o3, o4, o5, o6, o7, o8, o9, o10] (.int (x0 - x0 / x1 * x1) :: st) h K := fe_w1_rm (show fe_fetch 17 7 = some (.irem) by decide +kernel)
theorem fe_e17_8 : fe_WP E 17 8 [o0, o1, o2, o3, o4, o5, o6, o7, o8, o9, o10] [.int x1, .int x0] h K ↔ fe_WP E 116 0 [some (.int x0), some (.int x1)] [] h (fe_KB E 17 8 [o0, o1, o2, o3, o4, o5, o6, o7, o8, o9, o10] [] K) := fe_w1_cs (as := [.int x0, .int x1]) (rest := []) (show fe_fetch 17 8 = some (.invokestatic 28) by decide +kernel) (show fe_cl.lookup (fe_mC 17, 28) = some (116, false, 270) by decide +kernel) (by decide) (by decide +kernel) rfl rfl rfl
theorem fe_e17_11 : fe_WP E 17 11 [o0, o1, o2, o3, o4, o5, o6, o7, o8, o9, o10] (.int x0 :: st) h K ↔ fe_WP E 17 13 [o0, o1, o2, o3, some (.int x0), o5, o6, o7, o8, o9, o10] st h K := fe_wp_p (show fe_fetch 17 11 = some (.istore 4) by decide +kernel) rfl
theorem fe_e17_13 : fe_WP E 17 13 [o0, some (.int x0), o2, o3, o4, o5, o6, o7, o8, o9, o10] st h K ↔ fe_WP E 17 14 [o0, some (.int x0), o2, o3, o4, o5, o6, o7, o8, o9, o10] (.int x0 :: st) h K := fe_wp_p (show fe_fetch 17 13 = some (.iload_n 1) by decide +kernel) rfl
theorem fe_e17_14 : fe_WP E 17 14 [o0, o1, o2, o3, o4, o5, o6, o7, o8, o9, o10] st h K ↔ fe_WP E 17 16 [o0, o1, o2, o3, o4, o5, o6, o7, o8, o9, o10] (.int (fe_z 16) :: st) h K := fe_w1_bi (show fe_fetch 17 14 = some (.bipush 16) by decide +kernel) (by decide)
theorem fe_e17_16 : fe_WP E 17 16 [o0, o1, o2, o3, o4, o5, o6, o7, o8, o9, o10] (.int x1 :: .int x0 :: st) h K ↔ ¬ x1 = fe_z 0 ∧ fe_WP E 17 17 [o0, o1, o2, o3, o4, o5, o6, o7, o8, o9, o10] (.int (x0 - x0 / x1 * x1) :: st) h K := fe_w1_rm (show fe_fetch 17 16 = some (.irem) by decide +kernel)
theorem fe_e17_17 : fe_WP E 17 17 [o0, o1, some (.int x0), o3, o4, o5, o6, o7, o8, o9, o10] st h K ↔ fe_WP E 17 18 [o0, o1, some (.int x0), o3, o4, o5, o6, o7, o8, o9, o10] (.int x0 :: st) h K := fe_wp_p (show fe_fetch 17 17 = some (.iload_n 2) by decide +kernel) rfl
theorem fe_e17_18 : fe_WP E 17 18 [o0, o1, o2, o3, o4, o5, o6, o7, o8, o9, o10] st h K ↔ fe_WP E 17 20 [o0, o1, o2, o3, o4, o5, o6, o7, o8, o9, o10] (.int (fe_z 16) :: st) h K := fe_w1_bi (show fe_fetch 17 18 = some (.bipush 16) by decide +kernel) (by decide)
theorem fe_e17_20 : fe_WP E 17 20 [o0, o1, o2, o3, o4, o5, o6, o7, o8, o9, o10] (.int x1 :: .int x0 :: st) h K ↔ ¬ x1 = fe_z 0 ∧ fe_WP E 17 21 [o0, o1, o2, o3, o4, o5, o6, o7, o8, o9, o10] (.int (x0 - x0 / x1 * x1) :: st) h K := fe_w1_rm (show fe_fetch 17 20 = some (.irem) by decide +kernel)
theorem fe_e17_21 : fe_WP E 17 21 [o0, o1, o2, o3, o4, o5, o6, o7, o8, o9, o10] [.int x1, .int x0] h K ↔ fe_WP E 115 0 [some (.int x0), some (.int x1)] [] h (fe_KB E 17 21 [o0, o1, o2, o3, o4, o5, o6, o7, o8, o9, o10] [] K) := fe_w1_cs (as := [.int x0, .int x1]) (rest := []) (show fe_fetch 17 21 = some (.invokestatic 34) by decide +kernel) (show fe_cl.lookup (fe_mC 17, 34) = some (115, false, 273) by decide +kernel) (by decide) (by decide +kernel) rfl rfl rfl
theorem fe_e17_24 : fe_WP E 17 24 [o0, o1, o2, o3, o4, o5, o6, o7, o8, o9, o10] (.int x0 :: st) h K ↔ fe_WP E 17 26 [o0, o1, o2, o3, o4, some (.int x0), o6, o7, o8, o9, o10] st h K := fe_wp_p (show fe_fetch 17 24 = some (.istore 5) by decide +kernel) rfl
theorem fe_e17_26 : fe_WP E 17 26 [o0, some (.int x0), o2, o3, o4, o5, o6, o7, o8, o9, o10] st h K ↔ fe_WP E 17 27 [o0, some (.int x0), o2, o3, o4, o5, o6, o7, o8, o9, o10] (.int x0 :: st) h K := fe_wp_p (show fe_fetch 17 26 = some (.iload_n 1) by decide +kernel) rfl
theorem fe_e17_27 : fe_WP E 17 27 [o0, o1, o2, o3, o4, o5, o6, o7, o8, o9, o10] st h K ↔ fe_WP E 17 29 [o0, o1, o2, o3, o4, o5, o6, o7, o8, o9, o10] (.int (fe_z 16) :: st) h K := fe_w1_bi (show fe_fetch 17 27 = some (.bipush 16) by decide +kernel) (by decide)
theorem fe_e17_29 : fe_WP E 17 29 [o0, o1, o2, o3, o4, o5, o6, o7, o8, o9, o10] (.int x1 :: .int x0 :: st) h K ↔ ¬ x1 = fe_z 0 ∧ fe_WP E 17 30 [o0, o1, o2, o3, o4, o5, o6, o7, o8, o9, o10] (.int (x0 / x1) :: st) h K := fe_w1_dv (show fe_fetch 17 29 = some (.idiv) by decide +kernel)
theorem fe_e17_30 : fe_WP E 17 30 [o0, o1, some (.int x0), o3, o4, o5, o6, o7, o8, o9, o10] st h K ↔ fe_WP E 17 31 [o0, o1, some (.int x0), o3, o4, o5, o6, o7, o8, o9, o10] (.int x0 :: st) h K := fe_wp_p (show fe_fetch 17 30 = some (.iload_n 2) by decide +kernel) rfl
theorem fe_e17_31 : fe_WP E 17 31 [o0, o1, o2, o3, o4, o5, o6, o7, o8, o9, o10] st h K ↔ fe_WP E 17 33 [o0, o1, o2, o3, o4, o5, o6, o7, o8, o9, o10] (.int (fe_z 16) :: st) h K := fe_w1_bi (show fe_fetch 17 31 = some (.bipush 16) by decide +kernel) (by decide)
theorem fe_e17_33 : fe_WP E 17 33 [o0, o1, o2, o3, o4, o5, o6, o7, o8, o9, o10] (.int x1 :: .int x0 :: st) h K ↔ ¬ x1 = fe_z 0 ∧ fe_WP E 17 34 [o0, o1, o2, o3, o4, o5, o6, o7, o8, o9, o10] (.int (x0 / x1) :: st) h K := fe_w1_dv (show fe_fetch 17 33 = some (.idiv) by decide +kernel)
theorem fe_e17_34 : fe_WP E 17 34 [o0, o1, o2, o3, o4, o5, o6, o7, o8, o9, o10] [.int x1, .int x0] h K ↔ fe_WP E 116 0 [some (.int x0), some (.int x1)] [] h (fe_KB E 17 34 [o0, o1, o2, o3, o4, o5, o6, o7, o8, o9, o10] [] K) := fe_w1_cs (as := [.int x0, .int x1]) (rest := []) (show fe_fetch 17 34 = some (.invokestatic 28) by decide +kernel) (show fe_cl.lookup (fe_mC 17, 28) = some (116, false, 270) by decide +kernel) (by decide) (by decide +kernel) rfl rfl rfl
theorem fe_e17_37 : fe_WP E 17 37 [o0, o1, o2, o3, o4, o5, o6, o7, o8, o9, o10] (.int x0 :: st) h K ↔ fe_WP E 17 39 [o0, o1, o2, o3, o4, o5, some (.int x0), o7, o8, o9, o10] st h K := fe_wp_p (show fe_fetch 17 37 = some (.istore 6) by decide +kernel) rfl
theorem fe_e17_39 : fe_WP E 17 39 [o0, some (.int x0), o2, o3, o4, o5, o6, o7, o8, o9, o10] st h K ↔ fe_WP E 17 40 [o0, some (.int x0), o2, o3, o4, o5, o6, o7, o8, o9, o10] (.int x0 :: st) h K := fe_wp_p (show fe_fetch 17 39 = some (.iload_n 1) by decide +kernel) rfl
theorem fe_e17_40 : fe_WP E 17 40 [o0, o1, o2, o3, o4, o5, o6, o7, o8, o9, o10] st h K ↔ fe_WP E 17 42 [o0, o1, o2, o3, o4, o5, o6, o7, o8, o9, o10] (.int (fe_z 16) :: st) h K := fe_w1_bi (show fe_fetch 17 40 = some (.bipush 16) by decide +kernel) (by decide)
theorem fe_e17_42 : fe_WP E 17 42 [o0, o1, o2, o3, o4, o5, o6, o7, o8, o9, o10] (.int x1 :: .int x0 :: st) h K ↔ ¬ x1 = fe_z 0 ∧ fe_WP E 17 43 [o0, o1, o2, o3, o4, o5, o6, o7, o8, o9, o10] (.int (x0 / x1) :: st) h K := fe_w1_dv (show fe_fetch 17 42 = some (.idiv) by decide +kernel)
theorem fe_e17_43 : fe_WP E 17 43 [o0, o1, some (.int x0), o3, o4, o5, o6, o7, o8, o9, o10] st h K ↔ fe_WP E 17 44 [o0, o1, some (.int x0), o3, o4, o5, o6, o7, o8, o9, o10] (.int x0 :: st) h K := fe_wp_p (show fe_fetch 17 43 = some (.iload_n 2) by decide +kernel) rfl
theorem fe_e17_44 : fe_WP E 17 44 [o0, o1, o2, o3, o4, o5, o6, o7, o8, o9, o10] st h K ↔ fe_WP E 17 46 [o0, o1, o2, o3, o4, o5, o6, o7, o8, o9, o10] (.int (fe_z 16) :: st) h K := fe_w1_bi (show fe_fetch 17 44 = some (.bipush 16) by decide +kernel) (by decide)
theorem fe_e17_46 : fe_WP E 17 46 [o0, o1, o2, o3, o4, o5, o6, o7, o8, o9, o10] (.int x1 :: .int x0 :: st) h K ↔ ¬ x1 = fe_z 0 ∧ fe_WP E 17 47 [o0, o1, o2, o3, o4, o5, o6, o7, o8, o9, o10] (.int (x0 / x1) :: st) h K := fe_w1_dv (show fe_fetch 17 46 = some (.idiv) by decide +kernel)
theorem fe_e17_47 : fe_WP E 17 47 [o0, o1, o2, o3, o4, o5, o6, o7, o8, o9, o10] [.int x1, .int x0] h K ↔ fe_WP E 115 0 [some (.int x0), some (.int x1)] [] h (fe_KB E 17 47 [o0, o1, o2, o3, o4, o5, o6, o7, o8, o9, o10] [] K) := fe_w1_cs (as := [.int x0, .int x1]) (rest := []) (show fe_fetch 17 47 = some (.invokestatic 34) by decide +kernel) (show fe_cl.lookup (fe_mC 17, 34) = some (115, false, 273) by decide +kernel) (by decide) (by decide +kernel) rfl rfl rfl
theorem fe_e17_50 : fe_WP E 17 50 [o0, o1, o2, o3, o4, o5, o6, o7, o8, o9, o10] (.int x0 :: st) h K ↔ fe_WP E 17 52 [o0, o1, o2, o3, o4, o5, o6, some (.int x0), o8, o9, o10] st h K := fe_wp_p (show fe_fetch 17 50 = some (.istore 7) by decide +kernel) rfl
theorem fe_e17_52 : fe_WP E 17 52 [o0, o1, o2, o3, o4, o5, o6, o7, o8, o9, o10] st h K ↔ fe_WP E 17 53 [o0, o1, o2, o3, o4, o5, o6, o7, o8, o9, o10] (.int (fe_z 0) :: st) h K := fe_w1_ic (show fe_fetch 17 52 = some (.iconst 0) by decide +kernel) (by decide)
theorem fe_e17_53 : fe_WP E 17 53 [o0, o1, o2, o3, o4, o5, o6, o7, o8, o9, o10] (.int x0 :: st) h K ↔ fe_WP E 17 55 [o0, o1, o2, o3, o4, o5, o6, o7, some (.int x0), o9, o10] st h K := fe_wp_p (show fe_fetch 17 53 = some (.istore 8) by decide +kernel) rfl
theorem fe_e17_55 : fe_WP E 17 55 [o0, o1, o2, o3, o4, o5, some (.int x0), o7, o8, o9, o10] st h K ↔ fe_WP E 17 57 [o0, o1, o2, o3, o4, o5, some (.int x0), o7, o8, o9, o10] (.int x0 :: st) h K := fe_wp_p (show fe_fetch 17 55 = some (.iload 6) by decide +kernel) rfl
theorem fe_e17_57 : fe_WP E 17 57 [o0, o1, o2, o3, o4, o5, o6, o7, o8, o9, o10] (.int x0 :: st) h K ↔ fe_WP E 17 59 [o0, o1, o2, o3, o4, o5, o6, o7, o8, some (.int x0), o10] st h K := fe_wp_p (show fe_fetch 17 57 = some (.istore 9) by decide +kernel) rfl
theorem fe_e17_59 : fe_WP E 17 59 [o0, o1, o2, o3, o4, o5, o6, o7, o8, some (.int x0), o10] st h K ↔ fe_WP E 17 61 [o0, o1, o2, o3, o4, o5, o6, o7, o8, some (.int x0), o10] (.int x0 :: st) h K := fe_wp_p (show fe_fetch 17 59 = some (.iload 9) by decide +kernel) rfl
theorem fe_e17_61 : fe_WP E 17 61 [o0, o1, o2, o3, o4, o5, o6, some (.int x0), o8, o9, o10] st h K ↔ fe_WP E 17 63 [o0, o1, o2, o3, o4, o5, o6, some (.int x0), o8, o9, o10] (.int x0 :: st) h K := fe_wp_p (show fe_fetch 17 61 = some (.iload 7) by decide +kernel) rfl
theorem fe_e17_63 : fe_WP E 17 63 [o0, o1, o2, o3, o4, o5, o6, o7, o8, o9, o10] (.int x1 :: .int x0 :: st) h K ↔ if x1 < x0 then fe_WP E 17 111 [o0, o1, o2, o3, o4, o5, o6, o7, o8, o9, o10] st h K else fe_WP E 17 66 [o0, o1, o2, o3, o4, o5, o6, o7, o8, o9, o10] st h K := fe_w1_ii (P := x1 < x0) (show fe_fetch 17 63 = some (.if_icmp .gt 48) by decide +kernel) (by decide) (by decide) rfl
theorem fe_e17_66 : fe_WP E 17 66 [o0, o1, o2, o3, some (.int x0), o5, o6, o7, o8, o9, o10] st h K ↔ fe_WP E 17 68 [o0, o1, o2, o3, some (.int x0), o5, o6, o7, o8, o9, o10] (.int x0 :: st) h K := fe_wp_p (show fe_fetch 17 66 = some (.iload 4) by decide +kernel) rfl
theorem fe_e17_68 : fe_WP E 17 68 [o0, o1, o2, o3, o4, o5, o6, o7, o8, o9, o10] (.int x0 :: st) h K ↔ fe_WP E 17 70 [o0, o1, o2, o3, o4, o5, o6, o7, o8, o9, some (.int x0)] st h K := fe_wp_p (show fe_fetch 17 68 = some (.istore 10) by decide +kernel) rfl
theorem fe_e17_70 : fe_WP E 17 70 [o0, o1, o2, o3, o4, o5, o6, o7, o8, o9, some (.int x0)] st h K ↔ fe_WP E 17 72 [o0, o1, o2, o3, o4, o5, o6, o7, o8, o9, some (.int x0)] (.int x0 :: st) h K := fe_wp_p (show fe_fetch 17 70 = some (.iload 10) by decide +kernel) rfl
theorem fe_e17_72 : fe_WP E 17 72 [o0, o1, o2, o3, o4, some (.int x0), o6, o7, o8, o9, o10] st h K ↔ fe_WP E 17 74 [o0, o1, o2, o3, o4, some (.int x0), o6, o7, o8, o9, o10] (.int x0 :: st) h K := fe_wp_p (show fe_fetch 17 72 = some (.iload 5) by decide +kernel) rfl
theorem fe_e17_74 : fe_WP E 17 74 [o0, o1, o2, o3, o4, o5, o6, o7, o8, o9, o10] (.int x1 :: .int x0 :: st) h K ↔ if x1 < x0 then fe_WP E 17 105 [o0, o1, o2, o3, o4, o5, o6, o7, o8, o9, o10] st h K else fe_WP E 17 77 [o0, o1, o2, o3, o4, o5, o6, o7, o8, o9, o10] st h K := fe_w1_ii (P := x1 < x0) (show fe_fetch 17 74 = some (.if_icmp .gt 31) by decide +kernel) (by decide) (by decide) rfl
theorem fe_e17_77 : fe_WP E 17 77 [some (.ref a0), o1, o2, o3, o4, o5, o6, o7, o8, o9, o10] st h K ↔ fe_WP E 17 78 [some (.ref a0), o1, o2, o3, o4, o5, o6, o7, o8, o9, o10] (.ref a0 :: st) h K := fe_wp_p (show fe_fetch 17 77 = some (.aload_n 0) by decide +kernel) rfl
theorem fe_e17_78 : fe_WP E 17 78 [o0, o1, o2, o3, o4, o5, o6, o7, o8, o9, o10] (.ref a0 :: st) h K ↔ ∃ v, fe_gf h a0 2 0 = some v ∧ fe_WP E 17 81 [o0, o1, o2, o3, o4, o5, o6, o7, o8, o9, o10] (v :: st) h K := fe_w1_get (show fe_fetch 17 78 = some (.getfield 9) by decide +kernel) (show fe_fl.lookup (fe_mC 17, 9) = some (2, 0, false, 130) by decide +kernel)
theorem fe_e17_81 : fe_WP E 17 81 [o0, o1, o2, o3, o4, o5, o6, o7, o8, o9, o10] st h K ↔ fe_WP E 17 83 [o0, o1, o2, o3, o4, o5, o6, o7, o8, o9, o10] (.int (fe_z 16) :: st) h K := fe_w1_bi (show fe_fetch 17 81 = some (.bipush 16) by decide +kernel) (by decide)
theorem fe_e17_83 : fe_WP E 17 83 [o0, o1, o2, o3, o4, o5, o6, o7, o8, some (.int x0), o10] st h K ↔ fe_WP E 17 85 [o0, o1, o2, o3, o4, o5, o6, o7, o8, some (.int x0), o10] (.int x0 :: st) h K := fe_wp_p (show fe_fetch 17 83 = some (.iload 9) by decide +kernel) rfl
theorem fe_e17_85 : fe_WP E 17 85 [o0, o1, o2, o3, o4, o5, o6, o7, o8, o9, o10] (.int x1 :: .int x0 :: st) h K ↔ fe_WP E 17 86 [o0, o1, o2, o3, o4, o5, o6, o7, o8, o9, o10] (.int (x0 * x1) :: st) h K := fe_wp_p (show fe_fetch 17 85 = some (.imul) by decide +kernel) rfl
theorem fe_e17_86 : fe_WP E 17 86 [o0, o1, o2, o3, o4, o5, o6, o7, o8, o9, some (.int x0)] st h K ↔ fe_WP E 17 88 [o0, o1, o2, o3, o4, o5, o6, o7, o8, o9, some (.int x0)] (.int x0 :: st) h K := fe_wp_p (show fe_fetch 17 86 = some (.iload 10) by decide +kernel) rfl
theorem fe_e17_88 : fe_WP E 17 88 [o0, o1, o2, o3, o4, o5, o6, o7, o8, o9, o10] (.int x1 :: .int x0 :: st) h K ↔ fe_WP E 17 89 [o0, o1, o2, o3, o4, o5, o6, o7, o8, o9, o10] (.int (x0 + x1) :: st) h K := fe_wp_p (show fe_fetch 17 88 = some (.iadd) by decide +kernel) rfl
theorem fe_e17_89 : fe_WP E 17 89 [o0, o1, o2, some (.int x0), o4, o5, o6, o7, o8, o9, o10] st h K ↔ fe_WP E 17 90 [o0, o1, o2, some (.int x0), o4, o5, o6, o7, o8, o9, o10] (.int x0 :: st) h K := fe_wp_p (show fe_fetch 17 89 = some (.iload_n 3) by decide +kernel) rfl
theorem fe_e17_90 : fe_WP E 17 90 [o0, o1, o2, o3, o4, o5, o6, o7, o8, o9, o10] [.int x1, .int x0, .ref a1] h K ↔ fe_WP E 61 0 [some (.ref a1), some (.int x0), some (.int x1), none] [] h (fe_KB E 17 90 [o0, o1, o2, o3, o4, o5, o6, o7, o8, o9, o10] [] K) := fe_w1_cs (as := [.ref a1, .int x0, .int x1]) (rest := []) (show fe_fetch 17 90 = some (.invokestatic 37) by decide +kernel) (show fe_cl.lookup (fe_mC 17, 37) = some (61, true, 489) by decide +kernel) (by decide) (by decide +kernel) rfl rfl rfl
theorem fe_e17_93 : fe_WP E 17 93 [o0, o1, o2, o3, o4, o5, o6, o7, o8, o9, o10] (.int x0 :: st) h K ↔ if x0 = fe_z 0 then fe_WP E 17 99 [o0, o1, o2, o3, o4, o5, o6, o7, o8, o9, o10] st h K else fe_WP E 17 96 [o0, o1, o2, o3, o4, o5, o6, o7, o8, o9, o10] st h K := fe_w1_if (P := x0 = fe_z 0) (show fe_fetch 17 93 = some (.ifCond .eq 6) by decide +kernel) (by decide) (by decide) rfl
theorem fe_e17_96 : fe_WP E 17 96 [o0, o1, o2, o3, o4, o5, o6, o7, some (.int x0), o9, o10] st h K ↔ fe_WP E 17 99 [o0, o1, o2, o3, o4, o5, o6, o7, some (.int (x0 + fe_z 1)), o9, o10] st h K := fe_w1_inc (k := 8) (v := fe_z 1) (show fe_fetch 17 96 = some (.iinc 8 1) by decide +kernel) rfl (by decide) rfl
theorem fe_e17_99 : fe_WP E 17 99 [o0, o1, o2, o3, o4, o5, o6, o7, o8, o9, some (.int x0)] st h K ↔ fe_WP E 17 102 [o0, o1, o2, o3, o4, o5, o6, o7, o8, o9, some (.int (x0 + fe_z 1))] st h K := fe_w1_inc (k := 10) (v := fe_z 1) (show fe_fetch 17 99 = some (.iinc 10 1) by decide +kernel) rfl (by decide) rfl
theorem fe_e17_102 : fe_WP E 17 102 [o0, o1, o2, o3, o4, o5, o6, o7, o8, o9, o10] st h K ↔ fe_WP E 17 70 [o0, o1, o2, o3, o4, o5, o6, o7, o8, o9, o10] st h K := fe_w1_go (show fe_fetch 17 102 = some (.goto (-32)) by decide +kernel) (by decide) (by decide)
theorem fe_e17_105 : fe_WP E 17 105 [o0, o1, o2, o3, o4, o5, o6, o7, o8, some (.int x0), o10] st h K ↔ fe_WP E 17 108 [o0, o1, o2, o3, o4, o5, o6, o7, o8, some (.int (x0 + fe_z 1)), o10] st h K := fe_w1_inc (k := 9) (v := fe_z 1) (show fe_fetch 17 105 = some (.iinc 9 1) by decide +kernel) rfl (by decide) rfl
theorem fe_e17_108 : fe_WP E 17 108 [o0, o1, o2, o3, o4, o5, o6, o7, o8, o9, o10] st h K ↔ fe_WP E 17 59 [o0, o1, o2, o3, o4, o5, o6, o7, o8, o9, o10] st h K := fe_w1_go (show fe_fetch 17 108 = some (.goto (-49)) by decide +kernel) (by decide) (by decide)
theorem fe_e17_111 : fe_WP E 17 111 [o0, o1, o2, o3, o4, o5, o6, o7, some (.int x0), o9, o10] st h K ↔ fe_WP E 17 113 [o0, o1, o2, o3, o4, o5, o6, o7, some (.int x0), o9, o10] (.int x0 :: st) h K := fe_wp_p (show fe_fetch 17 111 = some (.iload 8) by decide +kernel) rfl
theorem fe_e17_113 : fe_WP E 17 113 [o0, o1, o2, o3, o4, o5, o6, o7, o8, o9, o10] [.int x0] h K ↔ K (.inl (some (.int x0))) h := fe_w1_ri (show fe_fetch 17 113 = some (.ireturn) by decide +kernel) (by decide +kernel)
-- 18: X2_isWalledIn
theorem fe_e18_0 : fe_WP E 18 0 [o0, some (.int x0), o2, o3, o4, o5, o6] st h K ↔ fe_WP E 18 1 [o0, some (.int x0), o2, o3, o4, o5, o6] (.int x0 :: st) h K := fe_wp_p (show fe_fetch 18 0 = some (.iload_n 1) by decide +kernel) rfl
theorem fe_e18_1 : fe_WP E 18 1 [o0, o1, o2, o3, o4, o5, o6] st h K ↔ fe_WP E 18 3 [o0, o1, o2, o3, o4, o5, o6] (.int (fe_z 15) :: st) h K := fe_w1_bi (show fe_fetch 18 1 = some (.bipush 15) by decide +kernel) (by decide)
theorem fe_e18_3 : fe_WP E 18 3 [o0, o1, o2, o3, o4, o5, o6] [.int x1, .int x0] h K ↔ fe_WP E 116 0 [some (.int x0), some (.int x1)] [] h (fe_KB E 18 3 [o0, o1, o2, o3, o4, o5, o6] [] K) := fe_w1_cs (as := [.int x0, .int x1]) (rest := []) (show fe_fetch 18 3 = some (.invokestatic 28) by decide +kernel) (show fe_cl.lookup (fe_mC 18, 28) = some (116, false, 270) by decide +kernel) (by decide) (by decide +kernel) rfl rfl rfl
theorem fe_e18_6 : fe_WP E 18 6 [o0, o1, o2, o3, o4, o5, o6] (.int x0 :: st) h K ↔ fe_WP E 18 7 [o0, o1, o2, some (.int x0), o4, o5, o6] st h K := fe_wp_p (show fe_fetch 18 6 = some (.istore_n 3) by decide +kernel) rfl
theorem fe_e18_7 : fe_WP E 18 7 [o0, o1, some (.int x0), o3, o4, o5, o6] st h K ↔ fe_WP E 18 8 [o0, o1, some (.int x0), o3, o4, o5, o6] (.int x0 :: st) h K := fe_wp_p (show fe_fetch 18 7 = some (.iload_n 2) by decide +kernel) rfl
theorem fe_e18_8 : fe_WP E 18 8 [o0, o1, o2, o3, o4, o5, o6] st h K ↔ fe_WP E 18 10 [o0, o1, o2, o3, o4, o5, o6] (.int (fe_z 11) :: st) h K := fe_w1_bi (show fe_fetch 18 8 = some (.bipush 11) by decide +kernel) (by decide)
theorem fe_e18_10 : fe_WP E 18 10 [o0, o1, o2, o3, o4, o5, o6] [.int x1, .int x0] h K ↔ fe_WP E 116 0 [some (.int x0), some (.int x1)] [] h (fe_KB E 18 10 [o0, o1, o2, o3, o4, o5, o6] [] K) := fe_w1_cs (as := [.int x0, .int x1]) (rest := []) (show fe_fetch 18 10 = some (.invokestatic 28) by decide +kernel) (show fe_cl.lookup (fe_mC 18, 28) = some (116, false, 270) by decide +kernel) (by decide) (by decide +kernel) rfl rfl rfl
theorem fe_e18_13 : fe_WP E 18 13 [o0, o1, o2, o3, o4, o5, o6] (.int x0 :: st) h K ↔ fe_WP E 18 15 [o0, o1, o2, o3, some (.int x0), o5, o6] st h K := fe_wp_p (show fe_fetch 18 13 = some (.istore 4) by decide +kernel) rfl
theorem fe_e18_15 : fe_WP E 18 15 [o0, o1, some (.int x0), o3, o4, o5, o6] st h K ↔ fe_WP E 18 16 [o0, o1, some (.int x0), o3, o4, o5, o6] (.int x0 :: st) h K := fe_wp_p (show fe_fetch 18 15 = some (.iload_n 2) by decide +kernel) rfl
theorem fe_e18_16 : fe_WP E 18 16 [o0, o1, o2, o3, o4, o5, o6] st h K ↔ fe_WP E 18 17 [o0, o1, o2, o3, o4, o5, o6] (.int (fe_z 1) :: st) h K := fe_w1_ic (show fe_fetch 18 16 = some (.iconst 1) by decide +kernel) (by decide)
theorem fe_e18_17 : fe_WP E 18 17 [o0, o1, o2, o3, o4, o5, o6] (.int x1 :: .int x0 :: st) h K ↔ fe_WP E 18 18 [o0, o1, o2, o3, o4, o5, o6] (.int (x0 - x1) :: st) h K := fe_wp_p (show fe_fetch 18 17 = some (.isub) by decide +kernel) rfl
theorem fe_e18_18 : fe_WP E 18 18 [o0, o1, o2, o3, o4, o5, o6] st h K ↔ fe_WP E 18 19 [o0, o1, o2, o3, o4, o5, o6] (.int (fe_z 0) :: st) h K := fe_w1_ic (show fe_fetch 18 18 = some (.iconst 0) by decide +kernel) (by decide)
theorem fe_e18_19 : fe_WP E 18 19 [o0, o1, o2, o3, o4, o5, o6] [.int x1, .int x0] h K ↔ fe_WP E 115 0 [some (.int x0), some (.int x1)] [] h (fe_KB E 18 19 [o0, o1, o2, o3, o4, o5, o6] [] K) := fe_w1_cs (as := [.int x0, .int x1]) (rest := []) (show fe_fetch 18 19 = some (.invokestatic 34) by decide +kernel) (show fe_cl.lookup (fe_mC 18, 34) = some (115, false, 273) by decide +kernel) (by decide) (by decide +kernel) rfl rfl rfl
theorem fe_e18_22 : fe_WP E 18 22 [o0, o1, o2, o3, o4, o5, o6] (.int x0 :: st) h K ↔ fe_WP E 18 24 [o0, o1, o2, o3, o4, some (.int x0), o6] st h K := fe_wp_p (show fe_fetch 18 22 = some (.istore 5) by decide +kernel) rfl
theorem fe_e18_24 : fe_WP E 18 24 [o0, o1, o2, o3, o4, some (.int x0), o6] st h K ↔ fe_WP E 18 26 [o0, o1, o2, o3, o4, some (.int x0), o6] (.int x0 :: st) h K := fe_wp_p (show fe_fetch 18 24 = some (.iload 5) by decide +kernel) rfl
theorem fe_e18_26 : fe_WP E 18 26 [o0, o1, o2, o3, some (.int x0), o5, o6] st h K ↔ fe_WP E 18 28 [o0, o1, o2, o3, some (.int x0), o5, o6] (.int x0 :: st) h K := fe_wp_p (show fe_fetch 18 26 = some (.iload 4) by decide +kernel) rfl
theorem fe_e18_28 : fe_WP E 18 28 [o0, o1, o2, o3, o4, o5, o6] (.int x1 :: .int x0 :: st) h K ↔ if x1 < x0 then fe_WP E 18 76 [o0, o1, o2, o3, o4, o5, o6] st h K else fe_WP E 18 31 [o0, o1, o2, o3, o4, o5, o6] st h K := fe_w1_ii (P := x1 < x0) (show fe_fetch 18 28 = some (.if_icmp .gt 48) by decide +kernel) (by decide) (by decide) rfl
theorem fe_e18_31 : fe_WP E 18 31 [o0, some (.int x0), o2, o3, o4, o5, o6] st h K ↔ fe_WP E 18 32 [o0, some (.int x0), o2, o3, o4, o5, o6] (.int x0 :: st) h K := fe_wp_p (show fe_fetch 18 31 = some (.iload_n 1) by decide +kernel) rfl
theorem fe_e18_32 : fe_WP E 18 32 [o0, o1, o2, o3, o4, o5, o6] st h K ↔ fe_WP E 18 33 [o0, o1, o2, o3, o4, o5, o6] (.int (fe_z 1) :: st) h K := fe_w1_ic (show fe_fetch 18 32 = some (.iconst 1) by decide +kernel) (by decide)
theorem fe_e18_33 : fe_WP E 18 33 [o0, o1, o2, o3, o4, o5, o6] (.int x1 :: .int x0 :: st) h K ↔ fe_WP E 18 34 [o0, o1, o2, o3, o4, o5, o6] (.int (x0 - x1) :: st) h K := fe_wp_p (show fe_fetch 18 33 = some (.isub) by decide +kernel) rfl
theorem fe_e18_34 : fe_WP E 18 34 [o0, o1, o2, o3, o4, o5, o6] st h K ↔ fe_WP E 18 35 [o0, o1, o2, o3, o4, o5, o6] (.int (fe_z 0) :: st) h K := fe_w1_ic (show fe_fetch 18 34 = some (.iconst 0) by decide +kernel) (by decide)
theorem fe_e18_35 : fe_WP E 18 35 [o0, o1, o2, o3, o4, o5, o6] [.int x1, .int x0] h K ↔ fe_WP E 115 0 [some (.int x0), some (.int x1)] [] h (fe_KB E 18 35 [o0, o1, o2, o3, o4, o5, o6] [] K) := fe_w1_cs (as := [.int x0, .int x1]) (rest := []) (show fe_fetch 18 35 = some (.invokestatic 34) by decide +kernel) (show fe_cl.lookup (fe_mC 18, 34) = some (115, false, 273) by decide +kernel) (by decide) (by decide +kernel) rfl rfl rfl
theorem fe_e18_38 : fe_WP E 18 38 [o0, o1, o2, o3, o4, o5, o6] (.int x0 :: st) h K ↔ fe_WP E 18 40 [o0, o1, o2, o3, o4, o5, some (.int x0)] st h K := fe_wp_p (show fe_fetch 18 38 = some (.istore 6) by decide +kernel) rfl
theorem fe_e18_40 : fe_WP E 18 40 [o0, o1, o2, o3, o4, o5, some (.int x0)] st h K ↔ fe_WP E 18 42 [o0, o1, o2, o3, o4, o5, some (.int x0)] (.int x0 :: st) h K := fe_wp_p (show fe_fetch 18 40 = some (.iload 6) by decide +kernel) rfl
theorem fe_e18_42 : fe_WP E 18 42 [o0, o1, o2, some (.int x0), o4, o5, o6] st h K ↔ fe_WP E 18 43 [o0, o1, o2, some (.int x0), o4, o5, o6] (.int x0 :: st) h K := fe_wp_p (show fe_fetch 18 42 = some (.iload_n 3) by decide +kernel) rfl
theorem fe_e18_43 : fe_WP E 18 43 [o0, o1, o2, o3, o4, o5, o6] (.int x1 :: .int x0 :: st) h K ↔ if x1 < x0 then fe_WP E 18 70 [o0, o1, o2, o3, o4, o5, o6] st h K else fe_WP E 18 46 [o0, o1, o2, o3, o4, o5, o6] st h K := fe_w1_ii (P := x1 < x0) (show fe_fetch 18 43 = some (.if_icmp .gt 27) by decide +kernel) (by decide) (by decide) rfl
theorem fe_e18_46 : fe_WP E 18 46 [some (.ref a0), o1, o2, o3, o4, o5, o6] st h K ↔ fe_WP E 18 47 [some (.ref a0), o1, o2, o3, o4, o5, o6] (.ref a0 :: st) h K := fe_wp_p (show fe_fetch 18 46 = some (.aload_n 0) by decide +kernel) rfl
theorem fe_e18_47 : fe_WP E 18 47 [o0, o1, o2, o3, o4, o5, o6] (.ref a0 :: st) h K ↔ ∃ v, fe_gf h a0 2 0 = some v ∧ fe_WP E 18 50 [o0, o1, o2, o3, o4, o5, o6] (v :: st) h K := fe_w1_get (show fe_fetch 18 47 = some (.getfield 9) by decide +kernel) (show fe_fl.lookup (fe_mC 18, 9) = some (2, 0, false, 130) by decide +kernel)
theorem fe_e18_50 : fe_WP E 18 50 [o0, o1, o2, o3, o4, o5, o6] st h K ↔ fe_WP E 18 52 [o0, o1, o2, o3, o4, o5, o6] (.int (fe_z 16) :: st) h K := fe_w1_bi (show fe_fetch 18 50 = some (.bipush 16) by decide +kernel) (by decide)
theorem fe_e18_52 : fe_WP E 18 52 [o0, o1, o2, o3, o4, some (.int x0), o6] st h K ↔ fe_WP E 18 54 [o0, o1, o2, o3, o4, some (.int x0), o6] (.int x0 :: st) h K := fe_wp_p (show fe_fetch 18 52 = some (.iload 5) by decide +kernel) rfl
theorem fe_e18_54 : fe_WP E 18 54 [o0, o1, o2, o3, o4, o5, o6] (.int x1 :: .int x0 :: st) h K ↔ fe_WP E 18 55 [o0, o1, o2, o3, o4, o5, o6] (.int (x0 * x1) :: st) h K := fe_wp_p (show fe_fetch 18 54 = some (.imul) by decide +kernel) rfl
theorem fe_e18_55 : fe_WP E 18 55 [o0, o1, o2, o3, o4, o5, some (.int x0)] st h K ↔ fe_WP E 18 57 [o0, o1, o2, o3, o4, o5, some (.int x0)] (.int x0 :: st) h K := fe_wp_p (show fe_fetch 18 55 = some (.iload 6) by decide +kernel) rfl
theorem fe_e18_57 : fe_WP E 18 57 [o0, o1, o2, o3, o4, o5, o6] (.int x1 :: .int x0 :: st) h K ↔ fe_WP E 18 58 [o0, o1, o2, o3, o4, o5, o6] (.int (x0 + x1) :: st) h K := fe_wp_p (show fe_fetch 18 57 = some (.iadd) by decide +kernel) rfl
theorem fe_e18_58 : fe_WP E 18 58 [o0, o1, o2, o3, o4, o5, o6] (.int x0 :: .ref a0 :: st) h K ↔ ∃ v, fe_za h a0 x0 = some v ∧ fe_WP E 18 59 [o0, o1, o2, o3, o4, o5, o6] (.int (fe_bi v) :: st) h K := fe_w1_za (show fe_fetch 18 58 = some (.baload) by decide +kernel)
theorem fe_e18_59 : fe_WP E 18 59 [o0, o1, o2, o3, o4, o5, o6] (.int x0 :: st) h K ↔ if ¬ x0 = fe_z 0 then fe_WP E 18 64 [o0, o1, o2, o3, o4, o5, o6] st h K else fe_WP E 18 62 [o0, o1, o2, o3, o4, o5, o6] st h K := fe_w1_if (P := ¬ x0 = fe_z 0) (show fe_fetch 18 59 = some (.ifCond .ne 5) by decide +kernel) (by decide) (by decide) rfl
theorem fe_e18_62 : fe_WP E 18 62 [o0, o1, o2, o3, o4, o5, o6] st h K ↔ fe_WP E 18 63 [o0, o1, o2, o3, o4, o5, o6] (.int (fe_z 0) :: st) h K := fe_w1_ic (show fe_fetch 18 62 = some (.iconst 0) by decide +kernel) (by decide)
theorem fe_e18_63 : fe_WP E 18 63 [o0, o1, o2, o3, o4, o5, o6] [.int x0] h K ↔ (x0 = fe_z 0 ∨ x0 = fe_z 1) ∧ K (.inl (some (.int x0))) h := fe_w1_rz (show fe_fetch 18 63 = some (.ireturn) by decide +kernel) (by decide +kernel)
theorem fe_e18_64 : fe_WP E 18 64 [o0, o1, o2, o3, o4, o5, some (.int x0)] st h K ↔ fe_WP E 18 67 [o0, o1, o2, o3, o4, o5, some (.int (x0 + fe_z 1))] st h K := fe_w1_inc (k := 6) (v := fe_z 1) (show fe_fetch 18 64 = some (.iinc 6 1) by decide +kernel) rfl (by decide) rfl
theorem fe_e18_67 : fe_WP E 18 67 [o0, o1, o2, o3, o4, o5, o6] st h K ↔ fe_WP E 18 40 [o0, o1, o2, o3, o4, o5, o6] st h K := fe_w1_go (show fe_fetch 18 67 = some (.goto (-27)) by decide +kernel) (by decide) (by decide)
theorem fe_e18_70 : fe_WP E 18 70 [o0, o1, o2, o3, o4, some (.int x0), o6] st h K ↔ fe_WP E 18 73 [o0, o1, o2, o3, o4, some (.int (x0 + fe_z 1)), o6] st h K := fe_w1_inc (k := 5) (v := fe_z 1) (show fe_fetch 18 70 = some (.iinc 5 1) by decide +kernel) rfl (by decide) rfl
theorem fe_e18_73 : fe_WP E 18 73 [o0, o1, o2, o3, o4, o5, o6] st h K ↔ fe_WP E 18 24 [o0, o1, o2, o3, o4, o5, o6] st h K := fe_w1_go (show fe_fetch 18 73 = some (.goto (-49)) by decide +kernel) (by decide) (by decide)
theorem fe_e18_76 : fe_WP E 18 76 [o0, o1, o2, o3, o4, o5, o6] st h K ↔ fe_WP E 18 77 [o0, o1, o2, o3, o4, o5, o6] (.int (fe_z 1) :: st) h K := fe_w1_ic (show fe_fetch 18 76 = some (.iconst 1) by decide +kernel) (by decide)
theorem fe_e18_77 : fe_WP E 18 77 [o0, o1, o2, o3, o4, o5, o6] [.int x0] h K ↔ (x0 = fe_z 0 ∨ x0 = fe_z 1) ∧ K (.inl (some (.int x0))) h := fe_w1_rz (show fe_fetch 18 77 = some (.ireturn) by decide +kernel) (by decide +kernel)
-- 19: X2_isFigureFree
theorem fe_e19_0 : fe_WP E 19 0 [some (.ref a0), o1, o2, o3, o4] st h K ↔ fe_WP E 19 1 [some (.ref a0), o1, o2, o3, o4] (.ref a0 :: st) h K := fe_wp_p (show fe_fetch 19 0 = some (.aload_n 0) by decide +kernel) rfl
theorem fe_e19_1 : fe_WP E 19 1 [o0, o1, o2, o3, o4] (.ref a0 :: st) h K ↔ ∃ v, fe_gf h a0 2 3 = some v ∧ fe_WP E 19 4 [o0, o1, o2, o3, o4] (v :: st) h K := fe_w1_get (show fe_fetch 19 1 = some (.getfield 24) by decide +kernel) (show fe_fl.lookup (fe_mC 19, 24) = some (2, 3, false, 137) by decide +kernel)
theorem fe_e19_4 : fe_WP E 19 4 [o0, some (.int x0), o2, o3, o4] st h K ↔ fe_WP E 19 5 [o0, some (.int x0), o2, o3, o4] (.int x0 :: st) h K := fe_wp_p (show fe_fetch 19 4 = some (.iload_n 1) by decide +kernel) rfl
theorem fe_e19_5 : fe_WP E 19 5 [o0, o1, some (.int x0), o3, o4] st h K ↔ fe_WP E 19 6 [o0, o1, some (.int x0), o3, o4] (.int x0 :: st) h K := fe_wp_p (show fe_fetch 19 5 = some (.iload_n 2) by decide +kernel) rfl
theorem fe_e19_6 : fe_WP E 19 6 [o0, o1, o2, o3, o4] [.int x1, .int x0, .ref a0] h K ↔ fe_ob h a0 0 = true ∧ fe_WP E 1 0 [some (.ref a0), some (.int x0), some (.int x1)] [] h (fe_KB E 19 6 [o0, o1, o2, o3, o4] [] K) := fe_w1_cv (b := a0) (al := [.int x0, .int x1]) (rest := []) (show fe_fetch 19 6 = some (.invokevirtual 41) by decide +kernel) (show fe_cl.lookup (fe_mC 19, 41) = some (1, true, 293) by decide +kernel) (by decide +kernel) rfl rfl rfl (show fe_mC 1 = 0 by decide +kernel)
theorem fe_e19_9 : fe_WP E 19 9 [o0, o1, o2, o3, o4] st h K ↔ fe_WP E 19 10 [o0, o1, o2, o3, o4] (.int (fe_z 0) :: st) h K := fe_w1_ic (show fe_fetch 19 9 = some (.iconst 0) by decide +kernel) (by decide)
theorem fe_e19_10 : fe_WP E 19 10 [o0, o1, o2, o3, o4] (.int x0 :: st) h K ↔ fe_WP E 19 12 [o0, o1, o2, o3, some (.int x0)] st h K := fe_wp_p (show fe_fetch 19 10 = some (.istore 4) by decide +kernel) rfl
theorem fe_e19_12 : fe_WP E 19 12 [o0, o1, o2, o3, some (.int x0)] st h K ↔ fe_WP E 19 14 [o0, o1, o2, o3, some (.int x0)] (.int x0 :: st) h K := fe_wp_p (show fe_fetch 19 12 = some (.iload 4) by decide +kernel) rfl
theorem fe_e19_14 : fe_WP E 19 14 [o0, o1, o2, o3, o4] st h K ↔ fe_WP E 19 15 [o0, o1, o2, o3, o4] (.int (fe_z 4) :: st) h K := fe_w1_ic (show fe_fetch 19 14 = some (.iconst 4) by decide +kernel) (by decide)
theorem fe_e19_15 : fe_WP E 19 15 [o0, o1, o2, o3, o4] (.int x1 :: .int x0 :: st) h K ↔ if x1 ≤ x0 then fe_WP E 19 43 [o0, o1, o2, o3, o4] st h K else fe_WP E 19 18 [o0, o1, o2, o3, o4] st h K := fe_w1_ii (P := x1 ≤ x0) (show fe_fetch 19 15 = some (.if_icmp .ge 28) by decide +kernel) (by decide) (by decide) rfl
theorem fe_e19_18 : fe_WP E 19 18 [some (.ref a0), o1, o2, o3, o4] st h K ↔ fe_WP E 19 19 [some (.ref a0), o1, o2, o3, o4] (.ref a0 :: st) h K := fe_wp_p (show fe_fetch 19 18 = some (.aload_n 0) by decide +kernel) rfl
theorem fe_e19_19 : fe_WP E 19 19 [o0, o1, o2, o3, o4] (.ref a0 :: st) h K ↔ ∃ v, fe_gf h a0 2 3 = some v ∧ fe_WP E 19 22 [o0, o1, o2, o3, o4] (v :: st) h K := fe_w1_get (show fe_fetch 19 19 = some (.getfield 24) by decide +kernel) (show fe_fl.lookup (fe_mC 19, 24) = some (2, 3, false, 137) by decide +kernel)
theorem fe_e19_22 : fe_WP E 19 22 [o0, o1, o2, some (.int x0), o4] st h K ↔ fe_WP E 19 23 [o0, o1, o2, some (.int x0), o4] (.int x0 :: st) h K := fe_wp_p (show fe_fetch 19 22 = some (.iload_n 3) by decide +kernel) rfl
theorem fe_e19_23 : fe_WP E 19 23 [o0, o1, o2, o3, some (.int x0)] st h K ↔ fe_WP E 19 25 [o0, o1, o2, o3, some (.int x0)] (.int x0 :: st) h K := fe_wp_p (show fe_fetch 19 23 = some (.iload 4) by decide +kernel) rfl
theorem fe_e19_25 : fe_WP E 19 25 [o0, o1, o2, o3, o4] [.int x1, .int x0, r0] h K ↔ fe_WP E 21 0 [some (.int x0), some (.int x1)] [] h (fe_KB E 19 25 [o0, o1, o2, o3, o4] [r0] K) := fe_w1_cs (as := [.int x0, .int x1]) (rest := [r0]) (show fe_fetch 19 25 = some (.invokestatic 45) by decide +kernel) (show fe_cl.lookup (fe_mC 19, 45) = some (21, false, 297) by decide +kernel) (by decide) (by decide +kernel) rfl rfl rfl
theorem fe_e19_28 : fe_WP E 19 28 [o0, o1, o2, some (.int x0), o4] st h K ↔ fe_WP E 19 29 [o0, o1, o2, some (.int x0), o4] (.int x0 :: st) h K := fe_wp_p (show fe_fetch 19 28 = some (.iload_n 3) by decide +kernel) rfl
theorem fe_e19_29 : fe_WP E 19 29 [o0, o1, o2, o3, some (.int x0)] st h K ↔ fe_WP E 19 31 [o0, o1, o2, o3, some (.int x0)] (.int x0 :: st) h K := fe_wp_p (show fe_fetch 19 29 = some (.iload 4) by decide +kernel) rfl
theorem fe_e19_31 : fe_WP E 19 31 [o0, o1, o2, o3, o4] [.int x1, .int x0, r0, r1] h K ↔ fe_WP E 22 0 [some (.int x0), some (.int x1)] [] h (fe_KB E 19 31 [o0, o1, o2, o3, o4] [r0, r1] K) := fe_w1_cs (as := [.int x0, .int x1]) (rest := [r0, r1]) (show fe_fetch 19 31 = some (.invokestatic 48) by decide +kernel) (show fe_cl.lookup (fe_mC 19, 48) = some (22, false, 298) by decide +kernel) (by decide) (by decide +kernel) rfl rfl rfl
theorem fe_e19_34 : fe_WP E 19 34 [o0, o1, o2, o3, o4] [.int x1, .int x0, .ref a0] h K ↔ fe_ob h a0 0 = true ∧ fe_WP E 2 0 [some (.ref a0), some (.int x0), some (.int x1), none, none, none] [] h (fe_KB E 19 34 [o0, o1, o2, o3, o4] [] K) := fe_w1_cv (b := a0) (al := [.int x0, .int x1]) (rest := []) (show fe_fetch 19 34 = some (.invokevirtual 51) by decide +kernel) (show fe_cl.lookup (fe_mC 19, 51) = some (2, true, 299) by decide +kernel) (by decide +kernel) rfl rfl rfl (show fe_mC 2 = 0 by decide +kernel)
theorem fe_e19_37 : fe_WP E 19 37 [o0, o1, o2, o3, some (.int x0)] st h K ↔ fe_WP E 19 40 [o0, o1, o2, o3, some (.int (x0 + fe_z 1))] st h K := fe_w1_inc (k := 4) (v := fe_z 1) (show fe_fetch 19 37 = some (.iinc 4 1) by decide +kernel) rfl (by decide) rfl
theorem fe_e19_40 : fe_WP E 19 40 [o0, o1, o2, o3, o4] st h K ↔ fe_WP E 19 12 [o0, o1, o2, o3, o4] st h K := fe_w1_go (show fe_fetch 19 40 = some (.goto (-28)) by decide +kernel) (by decide) (by decide)
theorem fe_e19_43 : fe_WP E 19 43 [some (.ref a0), o1, o2, o3, o4] st h K ↔ fe_WP E 19 44 [some (.ref a0), o1, o2, o3, o4] (.ref a0 :: st) h K := fe_wp_p (show fe_fetch 19 43 = some (.aload_n 0) by decide +kernel) rfl
theorem fe_e19_44 : fe_WP E 19 44 [o0, o1, o2, o3, o4] (.ref a0 :: st) h K ↔ ∃ v, fe_gf h a0 2 3 = some v ∧ fe_WP E 19 47 [o0, o1, o2, o3, o4] (v :: st) h K := fe_w1_get (show fe_fetch 19 44 = some (.getfield 24) by decide +kernel) (show fe_fl.lookup (fe_mC 19, 24) = some (2, 3, false, 137) by decide +kernel)
theorem fe_e19_47 : fe_WP E 19 47 [some (.ref a0), o1, o2, o3, o4] st h K ↔ fe_WP E 19 48 [some (.ref a0), o1, o2, o3, o4] (.ref a0 :: st) h K := fe_wp_p (show fe_fetch 19 47 = some (.aload_n 0) by decide +kernel) rfl
theorem fe_e19_48 : fe_WP E 19 48 [o0, o1, o2, o3, o4] (.ref a0 :: st) h K ↔ ∃ v, fe_gf h a0 2 0 = some v ∧ fe_WP E 19 51 [o0, o1, o2, o3, o4] (v :: st) h K := fe_w1_get (show fe_fetch 19 48 = some (.getfield 9) by decide +kernel) (show fe_fl.lookup (fe_mC 19, 9) = some (2, 0, false, 130) by decide +kernel)
theorem fe_e19_51 : fe_WP E 19 51 [o0, o1, o2, o3, o4] [.ref a1, .ref a0] h K ↔ fe_ob h a0 0 = true ∧ fe_WP E 3 0 [some (.ref a0), some (.ref a1), none, none, none, none, none, none] [] h (fe_KB E 19 51 [o0, o1, o2, o3, o4] [] K) := fe_w1_cv (b := a0) (al := [.ref a1]) (rest := []) (show fe_fetch 19 51 = some (.invokevirtual 54) by decide +kernel) (show fe_cl.lookup (fe_mC 19, 54) = some (3, true, 305) by decide +kernel) (by decide +kernel) rfl rfl rfl (show fe_mC 3 = 0 by decide +kernel)
theorem fe_e19_54 : fe_WP E 19 54 [o0, o1, o2, o3, o4] [.int x0] h K ↔ (x0 = fe_z 0 ∨ x0 = fe_z 1) ∧ K (.inl (some (.int x0))) h := fe_w1_rz (show fe_fetch 19 54 = some (.ireturn) by decide +kernel) (by decide +kernel)
-- 20: X2_isLineFree
theorem fe_e20_0 : fe_WP E 20 0 [some (.ref a0), o1, o2, o3, o4] st h K ↔ fe_WP E 20 1 [some (.ref a0), o1, o2, o3, o4] (.ref a0 :: st) h K := fe_wp_p (show fe_fetch 20 0 = some (.aload_n 0) by decide +kernel) rfl
theorem fe_e20_1 : fe_WP E 20 1 [o0, o1, o2, o3, o4] (.ref a0 :: st) h K ↔ ∃ v, fe_gf h a0 2 3 = some v ∧ fe_WP E 20 4 [o0, o1, o2, o3, o4] (v :: st) h K := fe_w1_get (show fe_fetch 20 1 = some (.getfield 24) by decide +kernel) (show fe_fl.lookup (fe_mC 20, 24) = some (2, 3, false, 137) by decide +kernel)
theorem fe_e20_4 : fe_WP E 20 4 [o0, some (.int x0), o2, o3, o4] st h K ↔ fe_WP E 20 5 [o0, some (.int x0), o2, o3, o4] (.int x0 :: st) h K := fe_wp_p (show fe_fetch 20 4 = some (.iload_n 1) by decide +kernel) rfl
theorem fe_e20_5 : fe_WP E 20 5 [o0, o1, some (.int x0), o3, o4] st h K ↔ fe_WP E 20 6 [o0, o1, some (.int x0), o3, o4] (.int x0 :: st) h K := fe_wp_p (show fe_fetch 20 5 = some (.iload_n 2) by decide +kernel) rfl
theorem fe_e20_6 : fe_WP E 20 6 [o0, o1, o2, o3, o4] [.int x1, .int x0, .ref a0] h K ↔ fe_ob h a0 0 = true ∧ fe_WP E 1 0 [some (.ref a0), some (.int x0), some (.int x1)] [] h (fe_KB E 20 6 [o0, o1, o2, o3, o4] [] K) := fe_w1_cv (b := a0) (al := [.int x0, .int x1]) (rest := []) (show fe_fetch 20 6 = some (.invokevirtual 41) by decide +kernel) (show fe_cl.lookup (fe_mC 20, 41) = some (1, true, 293) by decide +kernel) (by decide +kernel) rfl rfl rfl (show fe_mC 1 = 0 by decide +kernel)
theorem fe_e20_9 : fe_WP E 20 9 [some (.ref a0), o1, o2, o3, o4] st h K ↔ fe_WP E 20 10 [some (.ref a0), o1, o2, o3, o4] (.ref a0 :: st) h K := fe_wp_p (show fe_fetch 20 9 = some (.aload_n 0) by decide +kernel) rfl
theorem fe_e20_10 : fe_WP E 20 10 [o0, o1, o2, o3, o4] (.ref a0 :: st) h K ↔ ∃ v, fe_gf h a0 2 3 = some v ∧ fe_WP E 20 13 [o0, o1, o2, o3, o4] (v :: st) h K := fe_w1_get (show fe_fetch 20 10 = some (.getfield 24) by decide +kernel) (show fe_fl.lookup (fe_mC 20, 24) = some (2, 3, false, 137) by decide +kernel)
theorem fe_e20_13 : fe_WP E 20 13 [o0, o1, o2, some (.int x0), o4] st h K ↔ fe_WP E 20 14 [o0, o1, o2, some (.int x0), o4] (.int x0 :: st) h K := fe_wp_p (show fe_fetch 20 13 = some (.iload_n 3) by decide +kernel) rfl
theorem fe_e20_14 : fe_WP E 20 14 [o0, o1, o2, o3, some (.int x0)] st h K ↔ fe_WP E 20 16 [o0, o1, o2, o3, some (.int x0)] (.int x0 :: st) h K := fe_wp_p (show fe_fetch 20 14 = some (.iload 4) by decide +kernel) rfl
theorem fe_e20_16 : fe_WP E 20 16 [o0, o1, o2, o3, o4] [.int x1, .int x0, .ref a0] h K ↔ fe_ob h a0 0 = true ∧ fe_WP E 2 0 [some (.ref a0), some (.int x0), some (.int x1), none, none, none] [] h (fe_KB E 20 16 [o0, o1, o2, o3, o4] [] K) := fe_w1_cv (b := a0) (al := [.int x0, .int x1]) (rest := []) (show fe_fetch 20 16 = some (.invokevirtual 51) by decide +kernel) (show fe_cl.lookup (fe_mC 20, 51) = some (2, true, 299) by decide +kernel) (by decide +kernel) rfl rfl rfl (show fe_mC 2 = 0 by decide +kernel)
theorem fe_e20_19 : fe_WP E 20 19 [some (.ref a0), o1, o2, o3, o4] st h K ↔ fe_WP E 20 20 [some (.ref a0), o1, o2, o3, o4] (.ref a0 :: st) h K := fe_wp_p (show fe_fetch 20 19 = some (.aload_n 0) by decide +kernel) rfl
theorem fe_e20_20 : fe_WP E 20 20 [o0, o1, o2, o3, o4] (.ref a0 :: st) h K ↔ ∃ v, fe_gf h a0 2 3 = some v ∧ fe_WP E 20 23 [o0, o1, o2, o3, o4] (v :: st) h K := fe_w1_get (show fe_fetch 20 20 = some (.getfield 24) by decide +kernel) (show fe_fl.lookup (fe_mC 20, 24) = some (2, 3, false, 137) by decide +kernel)
theorem fe_e20_23 : fe_WP E 20 23 [some (.ref a0), o1, o2, o3, o4] st h K ↔ fe_WP E 20 24 [some (.ref a0), o1, o2, o3, o4] (.ref a0 :: st) h K := fe_wp_p (show fe_fetch 20 23 = some (.aload_n 0) by decide +kernel) rfl
theorem fe_e20_24 : fe_WP E 20 24 [o0, o1, o2, o3, o4] (.ref a0 :: st) h K ↔ ∃ v, fe_gf h a0 2 0 = some v ∧ fe_WP E 20 27 [o0, o1, o2, o3, o4] (v :: st) h K := fe_w1_get (show fe_fetch 20 24 = some (.getfield 9) by decide +kernel) (show fe_fl.lookup (fe_mC 20, 9) = some (2, 0, false, 130) by decide +kernel)
theorem fe_e20_27 : fe_WP E 20 27 [o0, o1, o2, o3, o4] [.ref a1, .ref a0] h K ↔ fe_ob h a0 0 = true ∧ fe_WP E 3 0 [some (.ref a0), some (.ref a1), none, none, none, none, none, none] [] h (fe_KB E 20 27 [o0, o1, o2, o3, o4] [] K) := fe_w1_cv (b := a0) (al := [.ref a1]) (rest := []) (show fe_fetch 20 27 = some (.invokevirtual 54) by decide +kernel) (show fe_cl.lookup (fe_mC 20, 54) = some (3, true, 305) by decide +kernel) (by decide +kernel) rfl rfl rfl (show fe_mC 3 = 0 by decide +kernel)
theorem fe_e20_30 : fe_WP E 20 30 [o0, o1, o2, o3, o4] [.int x0] h K ↔ (x0 = fe_z 0 ∨ x0 = fe_z 1) ∧ K (.inl (some (.int x0))) h := fe_w1_rz (show fe_fetch 20 30 = some (.ireturn) by decide +kernel) (by decide +kernel)
-- 21: X2_cornerX
theorem fe_e21_0 : fe_WP E 21 0 [some (.int x0), o1] st h K ↔ fe_WP E 21 1 [some (.int x0), o1] (.int x0 :: st) h K := fe_wp_p (show fe_fetch 21 0 = some (.iload_n 0) by decide +kernel) rfl
theorem fe_e21_1 : fe_WP E 21 1 [o0, o1] st h K ↔ fe_WP E 21 3 [o0, o1] (.int (fe_z 16) :: st) h K := fe_w1_bi (show fe_fetch 21 1 = some (.bipush 16) by decide +kernel) (by decide)
theorem fe_e21_3 : fe_WP E 21 3 [o0, o1] (.int x1 :: .int x0 :: st) h K ↔ ¬ x1 = fe_z 0 ∧ fe_WP E 21 4 [o0, o1] (.int (x0 - x0 / x1 * x1) :: st) h K := fe_w1_rm (show fe_fetch 21 3 = some (.irem) by decide +kernel)
theorem fe_e21_4 : fe_WP E 21 4 [o0, some (.int x0)] st h K ↔ fe_WP E 21 5 [o0, some (.int x0)] (.int x0 :: st) h K := fe_wp_p (show fe_fetch 21 4 = some (.iload_n 1) by decide +kernel) rfl
theorem fe_e21_5 : fe_WP E 21 5 [o0, o1] st h K ↔ fe_WP E 21 6 [o0, o1] (.int (fe_z 1) :: st) h K := fe_w1_ic (show fe_fetch 21 5 = some (.iconst 1) by decide +kernel) (by decide)
theorem fe_e21_6 : fe_WP E 21 6 [o0, o1] (.int x1 :: .int x0 :: st) h K ↔ fe_WP E 21 7 [o0, o1] (.int (x0 &&& x1) :: st) h K := fe_wp_p (show fe_fetch 21 6 = some (.iand) by decide +kernel) rfl
theorem fe_e21_7 : fe_WP E 21 7 [o0, o1] (.int x1 :: .int x0 :: st) h K ↔ fe_WP E 21 8 [o0, o1] (.int (x0 + x1) :: st) h K := fe_wp_p (show fe_fetch 21 7 = some (.iadd) by decide +kernel) rfl
theorem fe_e21_8 : fe_WP E 21 8 [o0, o1] [.int x0] h K ↔ K (.inl (some (.int x0))) h := fe_w1_ri (show fe_fetch 21 8 = some (.ireturn) by decide +kernel) (by decide +kernel)
-- 22: X2_cornerY
theorem fe_e22_0 : fe_WP E 22 0 [some (.int x0), o1] st h K ↔ fe_WP E 22 1 [some (.int x0), o1] (.int x0 :: st) h K := fe_wp_p (show fe_fetch 22 0 = some (.iload_n 0) by decide +kernel) rfl
theorem fe_e22_1 : fe_WP E 22 1 [o0, o1] st h K ↔ fe_WP E 22 3 [o0, o1] (.int (fe_z 16) :: st) h K := fe_w1_bi (show fe_fetch 22 1 = some (.bipush 16) by decide +kernel) (by decide)
theorem fe_e22_3 : fe_WP E 22 3 [o0, o1] (.int x1 :: .int x0 :: st) h K ↔ ¬ x1 = fe_z 0 ∧ fe_WP E 22 4 [o0, o1] (.int (x0 / x1) :: st) h K := fe_w1_dv (show fe_fetch 22 3 = some (.idiv) by decide +kernel)
theorem fe_e22_4 : fe_WP E 22 4 [o0, some (.int x0)] st h K ↔ fe_WP E 22 5 [o0, some (.int x0)] (.int x0 :: st) h K := fe_wp_p (show fe_fetch 22 4 = some (.iload_n 1) by decide +kernel) rfl
theorem fe_e22_5 : fe_WP E 22 5 [o0, o1] st h K ↔ fe_WP E 22 6 [o0, o1] (.int (fe_z 1) :: st) h K := fe_w1_ic (show fe_fetch 22 5 = some (.iconst 1) by decide +kernel) (by decide)
theorem fe_e22_6 : fe_WP E 22 6 [o0, o1] (.int x1 :: .int x0 :: st) h K ↔ fe_WP E 22 7 [o0, o1] (.int (x0 >>> (x1 &&& 31)) :: st) h K := fe_wp_p (show fe_fetch 22 6 = some (.ishr) by decide +kernel) rfl
theorem fe_e22_7 : fe_WP E 22 7 [o0, o1] (.int x1 :: .int x0 :: st) h K ↔ fe_WP E 22 8 [o0, o1] (.int (x0 + x1) :: st) h K := fe_wp_p (show fe_fetch 22 7 = some (.iadd) by decide +kernel) rfl
theorem fe_e22_8 : fe_WP E 22 8 [o0, o1] [.int x0] h K ↔ K (.inl (some (.int x0))) h := fe_w1_ri (show fe_fetch 22 8 = some (.ireturn) by decide +kernel) (by decide +kernel)
end FeEq
end
section
/-! the picture of the heap: printed by program (wip/gen/lay.py) -/
/-- eyes: how many, who owns an address, where each lies -/
abbrev fe_Et : Type := Nat × (Nat → Option (Nat × Nat)) × (Nat → Nat)
def fe_rI (n : Nat) (f : Int → Int) : fe_C := fe_I n (fun j => fe_z (f (j : Int)))
def fe_rZ (n : Nat) (f : Int → Bool) : fe_C := fe_Z n (fun j => f (j : Int))
def fe_rJ (n : Nat) (f : Int → Int64) : fe_C := fe_J n (fun j => f (j : Int))
def fe_eyo (b : Nat) (T : fe_Et) (I : Nat → Nat → Int) (e : Nat) : fe_C := fe_O 1 [.ref (b + 1), .int (fe_z (I e 0)), .int (fe_z (I e 1)), .int (fe_z (I e 2)), .int (fe_z (I e 3)), .int (fe_z (I e 4)), .ref (T.2.2 e + 1), .int (fe_z (I e 5)), .int (fe_z (I e 6)), .ref (T.2.2 e + 2), .ref (T.2.2 e + 3), .ref (T.2.2 e + 4)]
def fe_eye (b : Nat) (T : fe_Et) (I : Nat → Nat → Int) (O : Nat → Int → Int) (L : Nat → Int → Bool) (C : Nat → Nat → Int → Int) (a : Nat) : Option fe_C := match T.2.1 a with
  | some (e, 0) => some (fe_eyo b T I e)
  | some (e, 1) => some (fe_rI 8 (O e))
  | some (e, 2) => some (fe_rZ 192 (L e))
  | some (e, 3) => some (fe_rI 192 (C e 0))
  | some (e, 4) => some (fe_rI 192 (C e 1))
  | _ => none
def fe_cc (b : Nat) (B : Nat → Int) (D : Nat → Int → Int) (M : Int → Int64) (V : Nat → Int) (A : Int → Int) (Z : Nat → Int → Bool) (T : fe_Et) (I : Nat → Nat → Int) (O : Nat → Int → Int) (L : Nat → Int → Bool) (C : Nat → Nat → Int → Int) (a : Nat) : Option fe_C :=
  if a = b then some (fe_O 6 [.ref (b + 1), .ref (b + 6), .int (fe_z (V 0)), .ref (b + 7), .ref (b + 11), .int (fe_z (V 1)), .ref (b + 13)])
  else if a = b + 1 then some (fe_O 2 [.ref (b + 2), .ref (b + 3), .ref (b + 4), .ref (b + 5)])
  else if a = b + 2 then some (fe_rZ 192 (Z 0))
  else if a = b + 3 then some (fe_rZ 192 (Z 1))
  else if a = b + 4 then some (fe_rZ 192 (Z 2))
  else if a = b + 5 then some (fe_O 0 [.int (fe_z (B 0)), .int (fe_z (B 1)), .int (fe_z (B 2)), .int (fe_z (B 3)), .int (fe_z (B 4)), .int (fe_z (B 5)), .int (fe_z (B 6)), .int (fe_z (B 7)), .int (fe_z (B 8)), .int (fe_z (B 9))])
  else if a = b + 6 then some (fe_Q 12 (fun j => if j < T.1 then some (T.2.2 j) else none))
  else if a = b + 7 then some (fe_O 5 [.ref (b + 8), .ref (b + 9), .ref (b + 10)])
  else if a = b + 8 then some (fe_rI 24 (D 0))
  else if a = b + 9 then some (fe_rI 5 (D 1))
  else if a = b + 10 then some (fe_rI 7 (D 2))
  else if a = b + 11 then some (fe_O 3 [.ref (b + 12), .int (fe_z (V 2))])
  else if a = b + 12 then some (fe_rJ 64 M)
  else if a = b + 13 then some (fe_O 4 [.ref (b + 14), .int (fe_z (V 3)), .int (fe_z (V 4)), .int (fe_z (V 5)), .int (fe_z (V 6)), .int (fe_z (V 7))])
  else if a = b + 14 then some (fe_rI 60 A)
  else fe_eye b T I O L C a
def fe_rc (b : Nat) (G : Nat → Int) (R : Nat → Int → Bool) (P : Nat → Int → Int) (F : Nat → Int → Int) (S J : Int → Bool) (U : Int → Int) (o : Int → Int64) (a : Nat) : Option fe_C :=
  if a = b + 15 then some (fe_O 7 [.int (fe_z (G 0)), .ref (b + 16), .ref (b + 17), .ref (b + 18), .ref (b + 19), .ref (b + 20), .ref (b + 21), .ref (b + 22), .ref (b + 23), .ref (b + 24), .ref (b + 25), .ref (b + 26), .int (fe_z (G 1)), .ref (b + 27), .ref (b + 28), .ref (b + 29), .ref (b + 30), .ref (b + 31), .int (fe_z (G 2)), .int (fe_z (G 3)), .ref (b + 32), .int (fe_z (G 4))])
  else if a = b + 16 then some (fe_rZ 192 (R 0))
  else if a = b + 17 then some (fe_rZ 192 (R 1))
  else if a = b + 18 then some (fe_rZ 192 (R 2))
  else if a = b + 19 then some (fe_rI 12 (P 0))
  else if a = b + 20 then some (fe_rI 12 (P 1))
  else if a = b + 21 then some (fe_rI 12 (P 2))
  else if a = b + 22 then some (fe_rI 12 (P 3))
  else if a = b + 23 then some (fe_rZ 12 (R 3))
  else if a = b + 24 then some (fe_rI 96 (P 4))
  else if a = b + 25 then some (fe_rI 12 (P 5))
  else if a = b + 26 then some (fe_rZ 2304 (R 4))
  else if a = b + 27 then some (fe_rI 5 (F 0))
  else if a = b + 28 then some (fe_rI 5 (F 1))
  else if a = b + 29 then some (fe_rZ 96 S)
  else if a = b + 30 then some (fe_rZ 4096 J)
  else if a = b + 31 then some (fe_rI 4096 U)
  else if a = b + 32 then some (fe_rI 60 (P 6))
  else if a = b + 33 then some (fe_rJ 1 o)
  else none
def fe_mk (b : Nat) (N : Nat × Nat × Nat) (c r : Nat → Option fe_C) : fe_H := (N.1, N.2.1, N.2.2, fun a => if b + 15 ≤ a ∧ a ≤ b + 33 then r a else c a)
def fe_wf (b : Nat) (T : fe_Et) : Prop := (∀ e, e < T.1 → ∀ k, k < 5 → T.2.1 (T.2.2 e + k) = some (e, k)) ∧ (∀ a e k, T.2.1 a = some (e, k) → e < T.1 ∧ k < 5 ∧ a = T.2.2 e + k) ∧ (∀ e, e < T.1 → b + 34 ≤ T.2.2 e)
section FeL
variable {E : fe_E} {b : Nat} {N : Nat × Nat × Nat} {c r : Nat → Option fe_C} {h h' : fe_H} {a k ci n : Nat} {i v : Int} {x : Int32} {fs : List Value}
theorem fe_gf_of (hg : fe_get h a = some (fe_O ci fs)) : fe_gf h a ci k = fs[k]? := by simp only [fe_gf, hg, if_true]
theorem fe_pf_of {w : Value} (hg : fe_get h a = some (fe_O ci fs)) (hk : k < fs.length) (hp : fe_put h a (fe_O ci (fs.set k w)) = h') : fe_pf h a ci k w = some h' := by simp only [fe_pf, hg, hk, and_self, if_true, hp]
theorem fe_ob_of (hg : fe_get h a = some (fe_O ci fs)) : fe_ob h a ci = true := by simp only [fe_ob, hg, decide_true]
theorem fe_ia_of {f : Int → Int} (hg : fe_get h a = some (fe_rI n f)) (h0 : 0 ≤ i) (h1 : i < n) (h2 : i ≤ 2147483647) : fe_ia E h a (fe_z i) = some (fe_z (f i)) := by
  simp only [fe_ia, hg, fe_rI, fe_z_inb h0 h1 h2, if_true, fe_z_nat h0 h2, Int.toNat_of_nonneg h0]
theorem fe_za_of {f : Int → Bool} (hg : fe_get h a = some (fe_rZ n f)) (h0 : 0 ≤ i) (h1 : i < n) (h2 : i ≤ 2147483647) : fe_za h a (fe_z i) = some (f i) := by
  simp only [fe_za, hg, fe_rZ, fe_z_inb h0 h1 h2, if_true, fe_z_nat h0 h2, Int.toNat_of_nonneg h0]
theorem fe_ja_of {f : Int → Int64} (hg : fe_get h a = some (fe_rJ n f)) (h0 : 0 ≤ i) (h1 : i < n) (h2 : i ≤ 2147483647) : fe_ja E h a (fe_z i) = some (f i) := by
  simp only [fe_ja, hg, fe_rJ, fe_z_inb h0 h1 h2, if_true, fe_z_nat h0 h2, Int.toNat_of_nonneg h0]
theorem fe_lnI {f : Int → Int} (hg : fe_get h a = some (fe_rI n f)) : fe_ln E h a = some n := by simp only [fe_ln, hg, fe_rI]
theorem fe_lnZ {f : Int → Bool} (hg : fe_get h a = some (fe_rZ n f)) : fe_ln E h a = some n := by simp only [fe_ln, hg, fe_rZ]
theorem fe_is_of {f : Int → Int} (hg : fe_get h a = some (fe_rI n f)) (h0 : 0 ≤ i) (h1 : i < n) (h2 : i ≤ 2147483647) (hp : fe_put h a (fe_rI n (fe_up f i v)) = h') : fe_is h a (fe_z i) (fe_z v) = some h' := by
  subst hp
  simp only [fe_is, hg, fe_rI, fe_z_inb h0 h1 h2, if_true, fe_z_nat h0 h2]
  have : upd (fun j => fe_z (f (j : Int))) i.toNat (fe_z v) = fun j : Nat => fe_z (fe_up f i v j) := by
    funext j
    simp only [upd, fe_up]
    by_cases hj : j = i.toNat
    · have : (j : Int) = i := by omega
      simp [hj, this, Int.toNat_of_nonneg h0]
    · have : ¬ (j : Int) = i := by omega
      simp [hj, this]
  rw [this]
theorem fe_zs_of {f : Int → Bool} (hg : fe_get h a = some (fe_rZ n f)) (h0 : 0 ≤ i) (h1 : i < n) (h2 : i ≤ 2147483647) (hp : fe_put h a (fe_rZ n (fe_up f i (fe_tb x))) = h') : fe_zs h a (fe_z i) x = some h' := by
  subst hp
  simp only [fe_zs, hg, fe_rZ, fe_z_inb h0 h1 h2, if_true, fe_z_nat h0 h2]
  have : fe_ub (fun j => f (j : Int)) i.toNat (fe_tb x) = fun j : Nat => fe_up f i (fe_tb x) j := by
    funext j
    simp only [fe_ub, fe_up]
    by_cases hj : j = i.toNat
    · have : (j : Int) = i := by omega
      simp [hj, this, Int.toNat_of_nonneg h0]
    · have : ¬ (j : Int) = i := by omega
      simp [hj, this]
  rw [this]
theorem fe_js_of {f : Int → Int64} {w : Int64} (hg : fe_get h a = some (fe_rJ n f)) (h0 : 0 ≤ i) (h1 : i < n) (h2 : i ≤ 2147483647) (hp : fe_put h a (fe_rJ n (fe_up f i w)) = h') : fe_js h a (fe_z i) w = some h' := by
  subst hp
  simp only [fe_js, hg, fe_rJ, fe_z_inb h0 h1 h2, if_true, fe_z_nat h0 h2]
  have : vp_updL (fun j => f (j : Int)) i.toNat w = fun j : Nat => fe_up f i w j := by
    funext j
    simp only [vp_updL, fe_up]
    by_cases hj : j = i.toNat
    · have : (j : Int) = i := by omega
      simp [hj, this, Int.toNat_of_nonneg h0]
    · have : ¬ (j : Int) = i := by omega
      simp [hj, this]
  rw [this]
theorem fe_mk_c {c' : Nat → Option fe_C} {y : fe_C} (k : Nat) (hk : ¬ (b + 15 ≤ k ∧ k ≤ b + 33)) (h1 : c' k = some y) (h2 : ∀ a, ¬ a = k → c' a = c a) : fe_put (fe_mk b N c r) k y = fe_mk b N c' r := by
  simp only [fe_put, fe_mk, Prod.mk.injEq, true_and]
  funext a
  by_cases ha : a = k
  · subst ha
    simp [hk, h1]
  · simp [ha, h2 a ha]
theorem fe_mk_r {r' : Nat → Option fe_C} {y : fe_C} (k : Nat) (hk : b + 15 ≤ k ∧ k ≤ b + 33) (h1 : r' k = some y) (h2 : ∀ a, ¬ a = k → r' a = r a) : fe_put (fe_mk b N c r) k y = fe_mk b N c r' := by
  simp only [fe_put, fe_mk, Prod.mk.injEq, true_and]
  funext a
  by_cases ha : a = k
  · subst ha
    simp [hk, h1]
  · simp [ha, h2 a ha]
theorem fe_mk_gc (hk : ¬ (b + 15 ≤ a ∧ a ≤ b + 33)) : fe_get (fe_mk b N c r) a = c a := by simp only [fe_get, fe_mk, if_neg hk]
theorem fe_mk_gr (hk : b + 15 ≤ a ∧ a ≤ b + 33) : fe_get (fe_mk b N c r) a = r a := by simp only [fe_get, fe_mk, if_pos hk]
end FeL
section FeLc
variable {E : fe_E} {b : Nat} {N : Nat × Nat × Nat} {r : Nat → Option fe_C} {B : Nat → Int} {D : Nat → Int → Int} {M : Int → Int64} {V : Nat → Int} {A : Int → Int} {Z : Nat → Int → Bool} {T : fe_Et} {I : Nat → Nat → Int} {O : Nat → Int → Int} {L : Nat → Int → Bool} {C : Nat → Nat → Int → Int} {i v : Int} {x : Int32} {e : Nat}
theorem fe_G0 : fe_get (fe_mk b N (fe_cc b B D M V A Z T I O L C) r) (b) = some (fe_O 6 [.ref (b + 1), .ref (b + 6), .int (fe_z (V 0)), .ref (b + 7), .ref (b + 11), .int (fe_z (V 1)), .ref (b + 13)]) := by
  rw [fe_mk_gc (by omega)]
  simp [fe_cc]
theorem fe_ob0 : fe_ob (fe_mk b N (fe_cc b B D M V A Z T I O L C) r) (b) 6 = true := fe_ob_of fe_G0
theorem fe_g0_0 : fe_gf (fe_mk b N (fe_cc b B D M V A Z T I O L C) r) (b) 6 0 = some (.ref (b + 1)) := fe_gf_of fe_G0
theorem fe_g0_1 : fe_gf (fe_mk b N (fe_cc b B D M V A Z T I O L C) r) (b) 6 1 = some (.ref (b + 6)) := fe_gf_of fe_G0
theorem fe_g0_2 : fe_gf (fe_mk b N (fe_cc b B D M V A Z T I O L C) r) (b) 6 2 = some (.int (fe_z (V 0))) := fe_gf_of fe_G0
theorem fe_p0_2  : fe_pf (fe_mk b N (fe_cc b B D M V A Z T I O L C) r) (b) 6 2 (.int (fe_z v)) = some (fe_mk b N (fe_cc b B D M (fe_un V 0 v) A Z T I O L C) r) := fe_pf_of fe_G0 (Nat.le_of_ble_eq_true rfl) (fe_mk_c (b) (by omega) (by simp [fe_cc, fe_un]) (fun a ha => by simp [fe_cc, fe_un, ha]))
theorem fe_g0_3 : fe_gf (fe_mk b N (fe_cc b B D M V A Z T I O L C) r) (b) 6 3 = some (.ref (b + 7)) := fe_gf_of fe_G0
theorem fe_g0_4 : fe_gf (fe_mk b N (fe_cc b B D M V A Z T I O L C) r) (b) 6 4 = some (.ref (b + 11)) := fe_gf_of fe_G0
theorem fe_g0_5 : fe_gf (fe_mk b N (fe_cc b B D M V A Z T I O L C) r) (b) 6 5 = some (.int (fe_z (V 1))) := fe_gf_of fe_G0
theorem fe_p0_5  : fe_pf (fe_mk b N (fe_cc b B D M V A Z T I O L C) r) (b) 6 5 (.int (fe_z v)) = some (fe_mk b N (fe_cc b B D M (fe_un V 1 v) A Z T I O L C) r) := fe_pf_of fe_G0 (Nat.le_of_ble_eq_true rfl) (fe_mk_c (b) (by omega) (by simp [fe_cc, fe_un]) (fun a ha => by simp [fe_cc, fe_un, ha]))
theorem fe_g0_6 : fe_gf (fe_mk b N (fe_cc b B D M V A Z T I O L C) r) (b) 6 6 = some (.ref (b + 13)) := fe_gf_of fe_G0
theorem fe_G1 : fe_get (fe_mk b N (fe_cc b B D M V A Z T I O L C) r) (b + 1) = some (fe_O 2 [.ref (b + 2), .ref (b + 3), .ref (b + 4), .ref (b + 5)]) := by
  rw [fe_mk_gc (by omega)]
  simp [fe_cc]
theorem fe_ob1 : fe_ob (fe_mk b N (fe_cc b B D M V A Z T I O L C) r) (b + 1) 2 = true := fe_ob_of fe_G1
theorem fe_g1_0 : fe_gf (fe_mk b N (fe_cc b B D M V A Z T I O L C) r) (b + 1) 2 0 = some (.ref (b + 2)) := fe_gf_of fe_G1
theorem fe_g1_1 : fe_gf (fe_mk b N (fe_cc b B D M V A Z T I O L C) r) (b + 1) 2 1 = some (.ref (b + 3)) := fe_gf_of fe_G1
theorem fe_g1_2 : fe_gf (fe_mk b N (fe_cc b B D M V A Z T I O L C) r) (b + 1) 2 2 = some (.ref (b + 4)) := fe_gf_of fe_G1
theorem fe_g1_3 : fe_gf (fe_mk b N (fe_cc b B D M V A Z T I O L C) r) (b + 1) 2 3 = some (.ref (b + 5)) := fe_gf_of fe_G1
theorem fe_G5 : fe_get (fe_mk b N (fe_cc b B D M V A Z T I O L C) r) (b + 5) = some (fe_O 0 [.int (fe_z (B 0)), .int (fe_z (B 1)), .int (fe_z (B 2)), .int (fe_z (B 3)), .int (fe_z (B 4)), .int (fe_z (B 5)), .int (fe_z (B 6)), .int (fe_z (B 7)), .int (fe_z (B 8)), .int (fe_z (B 9))]) := by
  rw [fe_mk_gc (by omega)]
  simp [fe_cc]
theorem fe_ob5 : fe_ob (fe_mk b N (fe_cc b B D M V A Z T I O L C) r) (b + 5) 0 = true := fe_ob_of fe_G5
theorem fe_g5_0 : fe_gf (fe_mk b N (fe_cc b B D M V A Z T I O L C) r) (b + 5) 0 0 = some (.int (fe_z (B 0))) := fe_gf_of fe_G5
theorem fe_p5_0  : fe_pf (fe_mk b N (fe_cc b B D M V A Z T I O L C) r) (b + 5) 0 0 (.int (fe_z v)) = some (fe_mk b N (fe_cc b (fe_un B 0 v) D M V A Z T I O L C) r) := fe_pf_of fe_G5 (Nat.le_of_ble_eq_true rfl) (fe_mk_c (b + 5) (by omega) (by simp [fe_cc, fe_un]) (fun a ha => by simp [fe_cc, fe_un, ha]))
theorem fe_g5_1 : fe_gf (fe_mk b N (fe_cc b B D M V A Z T I O L C) r) (b + 5) 0 1 = some (.int (fe_z (B 1))) := fe_gf_of fe_G5
theorem fe_p5_1  : fe_pf (fe_mk b N (fe_cc b B D M V A Z T I O L C) r) (b + 5) 0 1 (.int (fe_z v)) = some (fe_mk b N (fe_cc b (fe_un B 1 v) D M V A Z T I O L C) r) := fe_pf_of fe_G5 (Nat.le_of_ble_eq_true rfl) (fe_mk_c (b + 5) (by omega) (by simp [fe_cc, fe_un]) (fun a ha => by simp [fe_cc, fe_un, ha]))
theorem fe_g5_2 : fe_gf (fe_mk b N (fe_cc b B D M V A Z T I O L C) r) (b + 5) 0 2 = some (.int (fe_z (B 2))) := fe_gf_of fe_G5
theorem fe_p5_2  : fe_pf (fe_mk b N (fe_cc b B D M V A Z T I O L C) r) (b + 5) 0 2 (.int (fe_z v)) = some (fe_mk b N (fe_cc b (fe_un B 2 v) D M V A Z T I O L C) r) := fe_pf_of fe_G5 (Nat.le_of_ble_eq_true rfl) (fe_mk_c (b + 5) (by omega) (by simp [fe_cc, fe_un]) (fun a ha => by simp [fe_cc, fe_un, ha]))
theorem fe_g5_3 : fe_gf (fe_mk b N (fe_cc b B D M V A Z T I O L C) r) (b + 5) 0 3 = some (.int (fe_z (B 3))) := fe_gf_of fe_G5
theorem fe_p5_3  : fe_pf (fe_mk b N (fe_cc b B D M V A Z T I O L C) r) (b + 5) 0 3 (.int (fe_z v)) = some (fe_mk b N (fe_cc b (fe_un B 3 v) D M V A Z T I O L C) r) := fe_pf_of fe_G5 (Nat.le_of_ble_eq_true rfl) (fe_mk_c (b + 5) (by omega) (by simp [fe_cc, fe_un]) (fun a ha => by simp [fe_cc, fe_un, ha]))
theorem fe_g5_4 : fe_gf (fe_mk b N (fe_cc b B D M V A Z T I O L C) r) (b + 5) 0 4 = some (.int (fe_z (B 4))) := fe_gf_of fe_G5
theorem fe_p5_4  : fe_pf (fe_mk b N (fe_cc b B D M V A Z T I O L C) r) (b + 5) 0 4 (.int (fe_z v)) = some (fe_mk b N (fe_cc b (fe_un B 4 v) D M V A Z T I O L C) r) := fe_pf_of fe_G5 (Nat.le_of_ble_eq_true rfl) (fe_mk_c (b + 5) (by omega) (by simp [fe_cc, fe_un]) (fun a ha => by simp [fe_cc, fe_un, ha]))
theorem fe_g5_5 : fe_gf (fe_mk b N (fe_cc b B D M V A Z T I O L C) r) (b + 5) 0 5 = some (.int (fe_z (B 5))) := fe_gf_of fe_G5
theorem fe_p5_5  : fe_pf (fe_mk b N (fe_cc b B D M V A Z T I O L C) r) (b + 5) 0 5 (.int (fe_z v)) = some (fe_mk b N (fe_cc b (fe_un B 5 v) D M V A Z T I O L C) r) := fe_pf_of fe_G5 (Nat.le_of_ble_eq_true rfl) (fe_mk_c (b + 5) (by omega) (by simp [fe_cc, fe_un]) (fun a ha => by simp [fe_cc, fe_un, ha]))
theorem fe_g5_6 : fe_gf (fe_mk b N (fe_cc b B D M V A Z T I O L C) r) (b + 5) 0 6 = some (.int (fe_z (B 6))) := fe_gf_of fe_G5
theorem fe_p5_6  : fe_pf (fe_mk b N (fe_cc b B D M V A Z T I O L C) r) (b + 5) 0 6 (.int (fe_z v)) = some (fe_mk b N (fe_cc b (fe_un B 6 v) D M V A Z T I O L C) r) := fe_pf_of fe_G5 (Nat.le_of_ble_eq_true rfl) (fe_mk_c (b + 5) (by omega) (by simp [fe_cc, fe_un]) (fun a ha => by simp [fe_cc, fe_un, ha]))
theorem fe_g5_7 : fe_gf (fe_mk b N (fe_cc b B D M V A Z T I O L C) r) (b + 5) 0 7 = some (.int (fe_z (B 7))) := fe_gf_of fe_G5
theorem fe_p5_7  : fe_pf (fe_mk b N (fe_cc b B D M V A Z T I O L C) r) (b + 5) 0 7 (.int (fe_z v)) = some (fe_mk b N (fe_cc b (fe_un B 7 v) D M V A Z T I O L C) r) := fe_pf_of fe_G5 (Nat.le_of_ble_eq_true rfl) (fe_mk_c (b + 5) (by omega) (by simp [fe_cc, fe_un]) (fun a ha => by simp [fe_cc, fe_un, ha]))
theorem fe_g5_8 : fe_gf (fe_mk b N (fe_cc b B D M V A Z T I O L C) r) (b + 5) 0 8 = some (.int (fe_z (B 8))) := fe_gf_of fe_G5
theorem fe_p5_8  : fe_pf (fe_mk b N (fe_cc b B D M V A Z T I O L C) r) (b + 5) 0 8 (.int (fe_z v)) = some (fe_mk b N (fe_cc b (fe_un B 8 v) D M V A Z T I O L C) r) := fe_pf_of fe_G5 (Nat.le_of_ble_eq_true rfl) (fe_mk_c (b + 5) (by omega) (by simp [fe_cc, fe_un]) (fun a ha => by simp [fe_cc, fe_un, ha]))
theorem fe_g5_9 : fe_gf (fe_mk b N (fe_cc b B D M V A Z T I O L C) r) (b + 5) 0 9 = some (.int (fe_z (B 9))) := fe_gf_of fe_G5
theorem fe_p5_9  : fe_pf (fe_mk b N (fe_cc b B D M V A Z T I O L C) r) (b + 5) 0 9 (.int (fe_z v)) = some (fe_mk b N (fe_cc b (fe_un B 9 v) D M V A Z T I O L C) r) := fe_pf_of fe_G5 (Nat.le_of_ble_eq_true rfl) (fe_mk_c (b + 5) (by omega) (by simp [fe_cc, fe_un]) (fun a ha => by simp [fe_cc, fe_un, ha]))
theorem fe_G7 : fe_get (fe_mk b N (fe_cc b B D M V A Z T I O L C) r) (b + 7) = some (fe_O 5 [.ref (b + 8), .ref (b + 9), .ref (b + 10)]) := by
  rw [fe_mk_gc (by omega)]
  simp [fe_cc]
theorem fe_ob7 : fe_ob (fe_mk b N (fe_cc b B D M V A Z T I O L C) r) (b + 7) 5 = true := fe_ob_of fe_G7
theorem fe_g7_0 : fe_gf (fe_mk b N (fe_cc b B D M V A Z T I O L C) r) (b + 7) 5 0 = some (.ref (b + 8)) := fe_gf_of fe_G7
theorem fe_g7_1 : fe_gf (fe_mk b N (fe_cc b B D M V A Z T I O L C) r) (b + 7) 5 1 = some (.ref (b + 9)) := fe_gf_of fe_G7
theorem fe_g7_2 : fe_gf (fe_mk b N (fe_cc b B D M V A Z T I O L C) r) (b + 7) 5 2 = some (.ref (b + 10)) := fe_gf_of fe_G7
theorem fe_G11 : fe_get (fe_mk b N (fe_cc b B D M V A Z T I O L C) r) (b + 11) = some (fe_O 3 [.ref (b + 12), .int (fe_z (V 2))]) := by
  rw [fe_mk_gc (by omega)]
  simp [fe_cc]
theorem fe_ob11 : fe_ob (fe_mk b N (fe_cc b B D M V A Z T I O L C) r) (b + 11) 3 = true := fe_ob_of fe_G11
theorem fe_g11_0 : fe_gf (fe_mk b N (fe_cc b B D M V A Z T I O L C) r) (b + 11) 3 0 = some (.ref (b + 12)) := fe_gf_of fe_G11
theorem fe_g11_1 : fe_gf (fe_mk b N (fe_cc b B D M V A Z T I O L C) r) (b + 11) 3 1 = some (.int (fe_z (V 2))) := fe_gf_of fe_G11
theorem fe_p11_1  : fe_pf (fe_mk b N (fe_cc b B D M V A Z T I O L C) r) (b + 11) 3 1 (.int (fe_z v)) = some (fe_mk b N (fe_cc b B D M (fe_un V 2 v) A Z T I O L C) r) := fe_pf_of fe_G11 (Nat.le_of_ble_eq_true rfl) (fe_mk_c (b + 11) (by omega) (by simp [fe_cc, fe_un]) (fun a ha => by simp [fe_cc, fe_un, ha]))
theorem fe_G13 : fe_get (fe_mk b N (fe_cc b B D M V A Z T I O L C) r) (b + 13) = some (fe_O 4 [.ref (b + 14), .int (fe_z (V 3)), .int (fe_z (V 4)), .int (fe_z (V 5)), .int (fe_z (V 6)), .int (fe_z (V 7))]) := by
  rw [fe_mk_gc (by omega)]
  simp [fe_cc]
theorem fe_ob13 : fe_ob (fe_mk b N (fe_cc b B D M V A Z T I O L C) r) (b + 13) 4 = true := fe_ob_of fe_G13
theorem fe_g13_0 : fe_gf (fe_mk b N (fe_cc b B D M V A Z T I O L C) r) (b + 13) 4 0 = some (.ref (b + 14)) := fe_gf_of fe_G13
theorem fe_g13_1 : fe_gf (fe_mk b N (fe_cc b B D M V A Z T I O L C) r) (b + 13) 4 1 = some (.int (fe_z (V 3))) := fe_gf_of fe_G13
theorem fe_p13_1  : fe_pf (fe_mk b N (fe_cc b B D M V A Z T I O L C) r) (b + 13) 4 1 (.int (fe_z v)) = some (fe_mk b N (fe_cc b B D M (fe_un V 3 v) A Z T I O L C) r) := fe_pf_of fe_G13 (Nat.le_of_ble_eq_true rfl) (fe_mk_c (b + 13) (by omega) (by simp [fe_cc, fe_un]) (fun a ha => by simp [fe_cc, fe_un, ha]))
theorem fe_g13_2 : fe_gf (fe_mk b N (fe_cc b B D M V A Z T I O L C) r) (b + 13) 4 2 = some (.int (fe_z (V 4))) := fe_gf_of fe_G13
theorem fe_p13_2  : fe_pf (fe_mk b N (fe_cc b B D M V A Z T I O L C) r) (b + 13) 4 2 (.int (fe_z v)) = some (fe_mk b N (fe_cc b B D M (fe_un V 4 v) A Z T I O L C) r) := fe_pf_of fe_G13 (Nat.le_of_ble_eq_true rfl) (fe_mk_c (b + 13) (by omega) (by simp [fe_cc, fe_un]) (fun a ha => by simp [fe_cc, fe_un, ha]))
theorem fe_g13_3 : fe_gf (fe_mk b N (fe_cc b B D M V A Z T I O L C) r) (b + 13) 4 3 = some (.int (fe_z (V 5))) := fe_gf_of fe_G13
theorem fe_p13_3  : fe_pf (fe_mk b N (fe_cc b B D M V A Z T I O L C) r) (b + 13) 4 3 (.int (fe_z v)) = some (fe_mk b N (fe_cc b B D M (fe_un V 5 v) A Z T I O L C) r) := fe_pf_of fe_G13 (Nat.le_of_ble_eq_true rfl) (fe_mk_c (b + 13) (by omega) (by simp [fe_cc, fe_un]) (fun a ha => by simp [fe_cc, fe_un, ha]))
theorem fe_g13_4 : fe_gf (fe_mk b N (fe_cc b B D M V A Z T I O L C) r) (b + 13) 4 4 = some (.int (fe_z (V 6))) := fe_gf_of fe_G13
theorem fe_p13_4  : fe_pf (fe_mk b N (fe_cc b B D M V A Z T I O L C) r) (b + 13) 4 4 (.int (fe_z v)) = some (fe_mk b N (fe_cc b B D M (fe_un V 6 v) A Z T I O L C) r) := fe_pf_of fe_G13 (Nat.le_of_ble_eq_true rfl) (fe_mk_c (b + 13) (by omega) (by simp [fe_cc, fe_un]) (fun a ha => by simp [fe_cc, fe_un, ha]))
theorem fe_g13_5 : fe_gf (fe_mk b N (fe_cc b B D M V A Z T I O L C) r) (b + 13) 4 5 = some (.int (fe_z (V 7))) := fe_gf_of fe_G13
theorem fe_p13_5  : fe_pf (fe_mk b N (fe_cc b B D M V A Z T I O L C) r) (b + 13) 4 5 (.int (fe_z v)) = some (fe_mk b N (fe_cc b B D M (fe_un V 7 v) A Z T I O L C) r) := fe_pf_of fe_G13 (Nat.le_of_ble_eq_true rfl) (fe_mk_c (b + 13) (by omega) (by simp [fe_cc, fe_un]) (fun a ha => by simp [fe_cc, fe_un, ha]))
theorem fe_G2 : fe_get (fe_mk b N (fe_cc b B D M V A Z T I O L C) r) (b + 2) = some (fe_rZ 192 (Z 0)) := by
  rw [fe_mk_gc (by omega)]
  simp [fe_cc]
theorem fe_P2 {f : Int → Bool} : fe_put (fe_mk b N (fe_cc b B D M V A Z T I O L C) r) (b + 2) (fe_rZ 192 f) = (fe_mk b N (fe_cc b B D M V A (fe_un Z 0 (f)) T I O L C) r) :=
  fe_mk_c (b + 2) (by omega) (by simp [fe_cc, fe_un]) (fun a ha => by simp [fe_cc, fe_un, ha])
theorem fe_aa2 (h0 : 0 ≤ i) (h1 : i < 192) : fe_za (fe_mk b N (fe_cc b B D M V A Z T I O L C) r) (b + 2) (fe_z i) = some (Z 0 i) := fe_za_of fe_G2 h0 h1 (by omega)
theorem fe_sa2 (h0 : 0 ≤ i) (h1 : i < 192) : fe_zs (fe_mk b N (fe_cc b B D M V A Z T I O L C) r) (b + 2) (fe_z i) x = some (fe_mk b N (fe_cc b B D M V A (fe_un Z 0 (fe_up (Z 0) i (fe_tb x))) T I O L C) r) := fe_zs_of fe_G2 h0 h1 (by omega) fe_P2
theorem fe_ll2 : fe_ln E (fe_mk b N (fe_cc b B D M V A Z T I O L C) r) (b + 2) = some 192 := fe_lnZ fe_G2
theorem fe_G3 : fe_get (fe_mk b N (fe_cc b B D M V A Z T I O L C) r) (b + 3) = some (fe_rZ 192 (Z 1)) := by
  rw [fe_mk_gc (by omega)]
  simp [fe_cc]
theorem fe_P3 {f : Int → Bool} : fe_put (fe_mk b N (fe_cc b B D M V A Z T I O L C) r) (b + 3) (fe_rZ 192 f) = (fe_mk b N (fe_cc b B D M V A (fe_un Z 1 (f)) T I O L C) r) :=
  fe_mk_c (b + 3) (by omega) (by simp [fe_cc, fe_un]) (fun a ha => by simp [fe_cc, fe_un, ha])
theorem fe_aa3 (h0 : 0 ≤ i) (h1 : i < 192) : fe_za (fe_mk b N (fe_cc b B D M V A Z T I O L C) r) (b + 3) (fe_z i) = some (Z 1 i) := fe_za_of fe_G3 h0 h1 (by omega)
theorem fe_sa3 (h0 : 0 ≤ i) (h1 : i < 192) : fe_zs (fe_mk b N (fe_cc b B D M V A Z T I O L C) r) (b + 3) (fe_z i) x = some (fe_mk b N (fe_cc b B D M V A (fe_un Z 1 (fe_up (Z 1) i (fe_tb x))) T I O L C) r) := fe_zs_of fe_G3 h0 h1 (by omega) fe_P3
theorem fe_ll3 : fe_ln E (fe_mk b N (fe_cc b B D M V A Z T I O L C) r) (b + 3) = some 192 := fe_lnZ fe_G3
theorem fe_G4 : fe_get (fe_mk b N (fe_cc b B D M V A Z T I O L C) r) (b + 4) = some (fe_rZ 192 (Z 2)) := by
  rw [fe_mk_gc (by omega)]
  simp [fe_cc]
theorem fe_P4 {f : Int → Bool} : fe_put (fe_mk b N (fe_cc b B D M V A Z T I O L C) r) (b + 4) (fe_rZ 192 f) = (fe_mk b N (fe_cc b B D M V A (fe_un Z 2 (f)) T I O L C) r) :=
  fe_mk_c (b + 4) (by omega) (by simp [fe_cc, fe_un]) (fun a ha => by simp [fe_cc, fe_un, ha])
theorem fe_aa4 (h0 : 0 ≤ i) (h1 : i < 192) : fe_za (fe_mk b N (fe_cc b B D M V A Z T I O L C) r) (b + 4) (fe_z i) = some (Z 2 i) := fe_za_of fe_G4 h0 h1 (by omega)
theorem fe_sa4 (h0 : 0 ≤ i) (h1 : i < 192) : fe_zs (fe_mk b N (fe_cc b B D M V A Z T I O L C) r) (b + 4) (fe_z i) x = some (fe_mk b N (fe_cc b B D M V A (fe_un Z 2 (fe_up (Z 2) i (fe_tb x))) T I O L C) r) := fe_zs_of fe_G4 h0 h1 (by omega) fe_P4
theorem fe_ll4 : fe_ln E (fe_mk b N (fe_cc b B D M V A Z T I O L C) r) (b + 4) = some 192 := fe_lnZ fe_G4
theorem fe_G8 : fe_get (fe_mk b N (fe_cc b B D M V A Z T I O L C) r) (b + 8) = some (fe_rI 24 (D 0)) := by
  rw [fe_mk_gc (by omega)]
  simp [fe_cc]
theorem fe_P8 {f : Int → Int} : fe_put (fe_mk b N (fe_cc b B D M V A Z T I O L C) r) (b + 8) (fe_rI 24 f) = (fe_mk b N (fe_cc b B (fe_un D 0 (f)) M V A Z T I O L C) r) :=
  fe_mk_c (b + 8) (by omega) (by simp [fe_cc, fe_un]) (fun a ha => by simp [fe_cc, fe_un, ha])
theorem fe_aa8 (h0 : 0 ≤ i) (h1 : i < 24) : fe_ia E (fe_mk b N (fe_cc b B D M V A Z T I O L C) r) (b + 8) (fe_z i) = some (fe_z (D 0 i)) := fe_ia_of fe_G8 h0 h1 (by omega)
theorem fe_sa8 (h0 : 0 ≤ i) (h1 : i < 24) : fe_is (fe_mk b N (fe_cc b B D M V A Z T I O L C) r) (b + 8) (fe_z i) (fe_z v) = some (fe_mk b N (fe_cc b B (fe_un D 0 (fe_up (D 0) i v)) M V A Z T I O L C) r) := fe_is_of fe_G8 h0 h1 (by omega) fe_P8
theorem fe_ll8 : fe_ln E (fe_mk b N (fe_cc b B D M V A Z T I O L C) r) (b + 8) = some 24 := fe_lnI fe_G8
theorem fe_G9 : fe_get (fe_mk b N (fe_cc b B D M V A Z T I O L C) r) (b + 9) = some (fe_rI 5 (D 1)) := by
  rw [fe_mk_gc (by omega)]
  simp [fe_cc]
theorem fe_P9 {f : Int → Int} : fe_put (fe_mk b N (fe_cc b B D M V A Z T I O L C) r) (b + 9) (fe_rI 5 f) = (fe_mk b N (fe_cc b B (fe_un D 1 (f)) M V A Z T I O L C) r) :=
  fe_mk_c (b + 9) (by omega) (by simp [fe_cc, fe_un]) (fun a ha => by simp [fe_cc, fe_un, ha])
theorem fe_aa9 (h0 : 0 ≤ i) (h1 : i < 5) : fe_ia E (fe_mk b N (fe_cc b B D M V A Z T I O L C) r) (b + 9) (fe_z i) = some (fe_z (D 1 i)) := fe_ia_of fe_G9 h0 h1 (by omega)
theorem fe_sa9 (h0 : 0 ≤ i) (h1 : i < 5) : fe_is (fe_mk b N (fe_cc b B D M V A Z T I O L C) r) (b + 9) (fe_z i) (fe_z v) = some (fe_mk b N (fe_cc b B (fe_un D 1 (fe_up (D 1) i v)) M V A Z T I O L C) r) := fe_is_of fe_G9 h0 h1 (by omega) fe_P9
theorem fe_ll9 : fe_ln E (fe_mk b N (fe_cc b B D M V A Z T I O L C) r) (b + 9) = some 5 := fe_lnI fe_G9
theorem fe_G10 : fe_get (fe_mk b N (fe_cc b B D M V A Z T I O L C) r) (b + 10) = some (fe_rI 7 (D 2)) := by
  rw [fe_mk_gc (by omega)]
  simp [fe_cc]
theorem fe_P10 {f : Int → Int} : fe_put (fe_mk b N (fe_cc b B D M V A Z T I O L C) r) (b + 10) (fe_rI 7 f) = (fe_mk b N (fe_cc b B (fe_un D 2 (f)) M V A Z T I O L C) r) :=
  fe_mk_c (b + 10) (by omega) (by simp [fe_cc, fe_un]) (fun a ha => by simp [fe_cc, fe_un, ha])
theorem fe_aa10 (h0 : 0 ≤ i) (h1 : i < 7) : fe_ia E (fe_mk b N (fe_cc b B D M V A Z T I O L C) r) (b + 10) (fe_z i) = some (fe_z (D 2 i)) := fe_ia_of fe_G10 h0 h1 (by omega)
theorem fe_sa10 (h0 : 0 ≤ i) (h1 : i < 7) : fe_is (fe_mk b N (fe_cc b B D M V A Z T I O L C) r) (b + 10) (fe_z i) (fe_z v) = some (fe_mk b N (fe_cc b B (fe_un D 2 (fe_up (D 2) i v)) M V A Z T I O L C) r) := fe_is_of fe_G10 h0 h1 (by omega) fe_P10
theorem fe_ll10 : fe_ln E (fe_mk b N (fe_cc b B D M V A Z T I O L C) r) (b + 10) = some 7 := fe_lnI fe_G10
theorem fe_G12 : fe_get (fe_mk b N (fe_cc b B D M V A Z T I O L C) r) (b + 12) = some (fe_rJ 64 M) := by
  rw [fe_mk_gc (by omega)]
  simp [fe_cc]
theorem fe_P12 {f : Int → Int64} : fe_put (fe_mk b N (fe_cc b B D M V A Z T I O L C) r) (b + 12) (fe_rJ 64 f) = (fe_mk b N (fe_cc b B D (f) V A Z T I O L C) r) :=
  fe_mk_c (b + 12) (by omega) (by simp [fe_cc, fe_un]) (fun a ha => by simp [fe_cc, fe_un, ha])
theorem fe_aa12 (h0 : 0 ≤ i) (h1 : i < 64) : fe_ja E (fe_mk b N (fe_cc b B D M V A Z T I O L C) r) (b + 12) (fe_z i) = some (M i) := fe_ja_of fe_G12 h0 h1 (by omega)
theorem fe_sa12 (h0 : 0 ≤ i) (h1 : i < 64) {w : Int64} : fe_js (fe_mk b N (fe_cc b B D M V A Z T I O L C) r) (b + 12) (fe_z i) w = some (fe_mk b N (fe_cc b B D (fe_up (M) i w) V A Z T I O L C) r) := fe_js_of fe_G12 h0 h1 (by omega) fe_P12
theorem fe_G14 : fe_get (fe_mk b N (fe_cc b B D M V A Z T I O L C) r) (b + 14) = some (fe_rI 60 A) := by
  rw [fe_mk_gc (by omega)]
  simp [fe_cc]
theorem fe_P14 {f : Int → Int} : fe_put (fe_mk b N (fe_cc b B D M V A Z T I O L C) r) (b + 14) (fe_rI 60 f) = (fe_mk b N (fe_cc b B D M V (f) Z T I O L C) r) :=
  fe_mk_c (b + 14) (by omega) (by simp [fe_cc, fe_un]) (fun a ha => by simp [fe_cc, fe_un, ha])
theorem fe_aa14 (h0 : 0 ≤ i) (h1 : i < 60) : fe_ia E (fe_mk b N (fe_cc b B D M V A Z T I O L C) r) (b + 14) (fe_z i) = some (fe_z (A i)) := fe_ia_of fe_G14 h0 h1 (by omega)
theorem fe_sa14 (h0 : 0 ≤ i) (h1 : i < 60) : fe_is (fe_mk b N (fe_cc b B D M V A Z T I O L C) r) (b + 14) (fe_z i) (fe_z v) = some (fe_mk b N (fe_cc b B D M V (fe_up (A) i v) Z T I O L C) r) := fe_is_of fe_G14 h0 h1 (by omega) fe_P14
theorem fe_ll14 : fe_ln E (fe_mk b N (fe_cc b B D M V A Z T I O L C) r) (b + 14) = some 60 := fe_lnI fe_G14
theorem fe_G6 : fe_get (fe_mk b N (fe_cc b B D M V A Z T I O L C) r) (b + 6) = some (fe_Q 12 (fun j => if j < T.1 then some (T.2.2 j) else none)) := by
  rw [fe_mk_gc (by omega)]
  simp [fe_cc]
theorem fe_aa6 (h0 : e < T.1) (h1 : e < 12) : fe_qa (fe_mk b N (fe_cc b B D M V A Z T I O L C) r) (b + 6) (fe_z (e : Int)) = some (.ref (T.2.2 e)) := by
  have hi : fe_inb (fe_z (e : Int)) 12 = true := fe_z_inb (by omega) (by omega) (by omega)
  simp only [fe_qa, fe_G6, hi, if_true, fe_z_nat (a := (e : Int)) (by omega) (by omega), Int.toNat_natCast, h0, va_rf]
theorem fe_aa6n (h0 : ¬ e < T.1) (h1 : e < 12) : fe_qa (fe_mk b N (fe_cc b B D M V A Z T I O L C) r) (b + 6) (fe_z (e : Int)) = some .null := by
  have hi : fe_inb (fe_z (e : Int)) 12 = true := fe_z_inb (by omega) (by omega) (by omega)
  simp only [fe_qa, fe_G6, hi, if_true, fe_z_nat (a := (e : Int)) (by omega) (by omega), Int.toNat_natCast, if_neg h0, va_rf]
theorem fe_ll6 : fe_ln E (fe_mk b N (fe_cc b B D M V A Z T I O L C) r) (b + 6) = some 12 := by
  simp only [fe_ln, fe_G6]
theorem fe_cce (hT : fe_wf b T) (he : e < T.1) {k : Nat} (hk : k < 5) : fe_get (fe_mk b N (fe_cc b B D M V A Z T I O L C) r) (T.2.2 e + k) = fe_eye b T I O L C (T.2.2 e + k) := by
  have h3 := hT.2.2 e he
  rw [fe_mk_gc (by omega)]
  simp only [fe_cc]
  iterate 15 rw [if_neg (by omega)]
theorem fe_GE0 (hT : fe_wf b T) (he : e < T.1) : fe_get (fe_mk b N (fe_cc b B D M V A Z T I O L C) r) (T.2.2 e) = some (fe_eyo b T I e) := by
  have h1 := hT.1 e he 0 (by omega)
  have h2 := fe_cce (N := N) (r := r) (B := B) (D := D) (M := M) (V := V) (A := A) (Z := Z) (I := I) (O := O) (L := L) (C := C) hT he (k := 0) (by omega)
  simp only [Nat.add_zero] at h1 h2
  rw [h2]
  simp only [fe_eye, h1]
theorem fe_GE1 (hT : fe_wf b T) (he : e < T.1) : fe_get (fe_mk b N (fe_cc b B D M V A Z T I O L C) r) (T.2.2 e + 1) = some (fe_rI 8 (O e)) := by
  have h1 := hT.1 e he 1 (by omega)
  have h2 := fe_cce (N := N) (r := r) (B := B) (D := D) (M := M) (V := V) (A := A) (Z := Z) (I := I) (O := O) (L := L) (C := C) hT he (k := 1) (by omega)
  rw [h2]
  simp only [fe_eye, h1]
theorem fe_GE2 (hT : fe_wf b T) (he : e < T.1) : fe_get (fe_mk b N (fe_cc b B D M V A Z T I O L C) r) (T.2.2 e + 2) = some (fe_rZ 192 (L e)) := by
  have h1 := hT.1 e he 2 (by omega)
  have h2 := fe_cce (N := N) (r := r) (B := B) (D := D) (M := M) (V := V) (A := A) (Z := Z) (I := I) (O := O) (L := L) (C := C) hT he (k := 2) (by omega)
  rw [h2]
  simp only [fe_eye, h1]
theorem fe_GE3 (hT : fe_wf b T) (he : e < T.1) : fe_get (fe_mk b N (fe_cc b B D M V A Z T I O L C) r) (T.2.2 e + 3) = some (fe_rI 192 (C e 0)) := by
  have h1 := hT.1 e he 3 (by omega)
  have h2 := fe_cce (N := N) (r := r) (B := B) (D := D) (M := M) (V := V) (A := A) (Z := Z) (I := I) (O := O) (L := L) (C := C) hT he (k := 3) (by omega)
  rw [h2]
  simp only [fe_eye, h1]
theorem fe_GE4 (hT : fe_wf b T) (he : e < T.1) : fe_get (fe_mk b N (fe_cc b B D M V A Z T I O L C) r) (T.2.2 e + 4) = some (fe_rI 192 (C e 1)) := by
  have h1 := hT.1 e he 4 (by omega)
  have h2 := fe_cce (N := N) (r := r) (B := B) (D := D) (M := M) (V := V) (A := A) (Z := Z) (I := I) (O := O) (L := L) (C := C) hT he (k := 4) (by omega)
  rw [h2]
  simp only [fe_eye, h1]
theorem fe_obE (hT : fe_wf b T) (he : e < T.1) : fe_ob (fe_mk b N (fe_cc b B D M V A Z T I O L C) r) (T.2.2 e) 1 = true := fe_ob_of (fe_GE0 hT he)
theorem fe_gE_0 (hT : fe_wf b T) (he : e < T.1) : fe_gf (fe_mk b N (fe_cc b B D M V A Z T I O L C) r) (T.2.2 e) 1 0 = some (.ref (b + 1)) := fe_gf_of (fe_GE0 hT he)
theorem fe_gE_1 (hT : fe_wf b T) (he : e < T.1) : fe_gf (fe_mk b N (fe_cc b B D M V A Z T I O L C) r) (T.2.2 e) 1 1 = some (.int (fe_z (I e 0))) := fe_gf_of (fe_GE0 hT he)
theorem fe_gE_2 (hT : fe_wf b T) (he : e < T.1) : fe_gf (fe_mk b N (fe_cc b B D M V A Z T I O L C) r) (T.2.2 e) 1 2 = some (.int (fe_z (I e 1))) := fe_gf_of (fe_GE0 hT he)
theorem fe_gE_3 (hT : fe_wf b T) (he : e < T.1) : fe_gf (fe_mk b N (fe_cc b B D M V A Z T I O L C) r) (T.2.2 e) 1 3 = some (.int (fe_z (I e 2))) := fe_gf_of (fe_GE0 hT he)
theorem fe_gE_4 (hT : fe_wf b T) (he : e < T.1) : fe_gf (fe_mk b N (fe_cc b B D M V A Z T I O L C) r) (T.2.2 e) 1 4 = some (.int (fe_z (I e 3))) := fe_gf_of (fe_GE0 hT he)
theorem fe_gE_5 (hT : fe_wf b T) (he : e < T.1) : fe_gf (fe_mk b N (fe_cc b B D M V A Z T I O L C) r) (T.2.2 e) 1 5 = some (.int (fe_z (I e 4))) := fe_gf_of (fe_GE0 hT he)
theorem fe_gE_6 (hT : fe_wf b T) (he : e < T.1) : fe_gf (fe_mk b N (fe_cc b B D M V A Z T I O L C) r) (T.2.2 e) 1 6 = some (.ref (T.2.2 e + 1)) := fe_gf_of (fe_GE0 hT he)
theorem fe_gE_7 (hT : fe_wf b T) (he : e < T.1) : fe_gf (fe_mk b N (fe_cc b B D M V A Z T I O L C) r) (T.2.2 e) 1 7 = some (.int (fe_z (I e 5))) := fe_gf_of (fe_GE0 hT he)
theorem fe_gE_8 (hT : fe_wf b T) (he : e < T.1) : fe_gf (fe_mk b N (fe_cc b B D M V A Z T I O L C) r) (T.2.2 e) 1 8 = some (.int (fe_z (I e 6))) := fe_gf_of (fe_GE0 hT he)
theorem fe_gE_9 (hT : fe_wf b T) (he : e < T.1) : fe_gf (fe_mk b N (fe_cc b B D M V A Z T I O L C) r) (T.2.2 e) 1 9 = some (.ref (T.2.2 e + 2)) := fe_gf_of (fe_GE0 hT he)
theorem fe_gE_10 (hT : fe_wf b T) (he : e < T.1) : fe_gf (fe_mk b N (fe_cc b B D M V A Z T I O L C) r) (T.2.2 e) 1 10 = some (.ref (T.2.2 e + 3)) := fe_gf_of (fe_GE0 hT he)
theorem fe_gE_11 (hT : fe_wf b T) (he : e < T.1) : fe_gf (fe_mk b N (fe_cc b B D M V A Z T I O L C) r) (T.2.2 e) 1 11 = some (.ref (T.2.2 e + 4)) := fe_gf_of (fe_GE0 hT he)
theorem fe_PE1 (hT : fe_wf b T) (he : e < T.1) {f : Int → Int} : fe_put (fe_mk b N (fe_cc b B D M V A Z T I O L C) r) (T.2.2 e + 1) (fe_rI 8 f) = (fe_mk b N (fe_cc b B D M V A Z T I (fe_un O e f) L C) r) := by
  have h3 := hT.2.2 e he
  refine fe_mk_c (T.2.2 e + 1) (by omega) ?_ (fun a ha => ?_)
  · simp only [fe_cc]
    iterate 15 rw [if_neg (by omega)]
    have h1 := hT.1 e he 1 (by omega)
    simp only [fe_eye, h1, fe_eyo, fe_un, if_true]
    try rfl
  · simp only [fe_cc]
    suffices hs : fe_eye b T I (fe_un O e f) L C a = fe_eye b T I O L C a by rw [hs]
    simp only [fe_eye]
    cases hW : T.2.1 a with
    | none => rfl
    | some q =>
      obtain ⟨e', k'⟩ := q
      obtain ⟨h5, h6, h7⟩ := hT.2.1 a e' k' hW
      by_cases hee : e' = e
      · subst hee
        have hk : ¬ k' = 1 := fun hk => ha (by subst hk; exact h7)
        match k', hk, h6 with
        | 0, hk, _ => first | exact absurd rfl hk | simp [fe_eyo, fe_un]
        | 1, hk, _ => first | exact absurd rfl hk | simp [fe_eyo, fe_un]
        | 2, hk, _ => first | exact absurd rfl hk | simp [fe_eyo, fe_un]
        | 3, hk, _ => first | exact absurd rfl hk | simp [fe_eyo, fe_un]
        | 4, hk, _ => first | exact absurd rfl hk | simp [fe_eyo, fe_un]
      · match k', h6 with
        | 0, _ => simp [fe_eyo, fe_un, hee]
        | 1, _ => simp [fe_un, hee]
        | 2, _ => simp [fe_un, hee]
        | 3, _ => simp [fe_un, hee]
        | 4, _ => simp [fe_un, hee]
theorem fe_PE2 (hT : fe_wf b T) (he : e < T.1) {f : Int → Bool} : fe_put (fe_mk b N (fe_cc b B D M V A Z T I O L C) r) (T.2.2 e + 2) (fe_rZ 192 f) = (fe_mk b N (fe_cc b B D M V A Z T I O (fe_un L e f) C) r) := by
  have h3 := hT.2.2 e he
  refine fe_mk_c (T.2.2 e + 2) (by omega) ?_ (fun a ha => ?_)
  · simp only [fe_cc]
    iterate 15 rw [if_neg (by omega)]
    have h1 := hT.1 e he 2 (by omega)
    simp only [fe_eye, h1, fe_eyo, fe_un, if_true]
    try rfl
  · simp only [fe_cc]
    suffices hs : fe_eye b T I O (fe_un L e f) C a = fe_eye b T I O L C a by rw [hs]
    simp only [fe_eye]
    cases hW : T.2.1 a with
    | none => rfl
    | some q =>
      obtain ⟨e', k'⟩ := q
      obtain ⟨h5, h6, h7⟩ := hT.2.1 a e' k' hW
      by_cases hee : e' = e
      · subst hee
        have hk : ¬ k' = 2 := fun hk => ha (by subst hk; exact h7)
        match k', hk, h6 with
        | 0, hk, _ => first | exact absurd rfl hk | simp [fe_eyo, fe_un]
        | 1, hk, _ => first | exact absurd rfl hk | simp [fe_eyo, fe_un]
        | 2, hk, _ => first | exact absurd rfl hk | simp [fe_eyo, fe_un]
        | 3, hk, _ => first | exact absurd rfl hk | simp [fe_eyo, fe_un]
        | 4, hk, _ => first | exact absurd rfl hk | simp [fe_eyo, fe_un]
      · match k', h6 with
        | 0, _ => simp [fe_eyo, fe_un, hee]
        | 1, _ => simp [fe_un, hee]
        | 2, _ => simp [fe_un, hee]
        | 3, _ => simp [fe_un, hee]
        | 4, _ => simp [fe_un, hee]
theorem fe_PE3 (hT : fe_wf b T) (he : e < T.1) {f : Int → Int} : fe_put (fe_mk b N (fe_cc b B D M V A Z T I O L C) r) (T.2.2 e + 3) (fe_rI 192 f) = (fe_mk b N (fe_cc b B D M V A Z T I O L (fe_un C e (fe_un (C e) 0 f))) r) := by
  have h3 := hT.2.2 e he
  refine fe_mk_c (T.2.2 e + 3) (by omega) ?_ (fun a ha => ?_)
  · simp only [fe_cc]
    iterate 15 rw [if_neg (by omega)]
    have h1 := hT.1 e he 3 (by omega)
    simp only [fe_eye, h1, fe_eyo, fe_un, if_true]
    try rfl
  · simp only [fe_cc]
    suffices hs : fe_eye b T I O L (fe_un C e (fe_un (C e) 0 f)) a = fe_eye b T I O L C a by rw [hs]
    simp only [fe_eye]
    cases hW : T.2.1 a with
    | none => rfl
    | some q =>
      obtain ⟨e', k'⟩ := q
      obtain ⟨h5, h6, h7⟩ := hT.2.1 a e' k' hW
      by_cases hee : e' = e
      · subst hee
        have hk : ¬ k' = 3 := fun hk => ha (by subst hk; exact h7)
        match k', hk, h6 with
        | 0, hk, _ => first | exact absurd rfl hk | simp [fe_eyo, fe_un]
        | 1, hk, _ => first | exact absurd rfl hk | simp [fe_eyo, fe_un]
        | 2, hk, _ => first | exact absurd rfl hk | simp [fe_eyo, fe_un]
        | 3, hk, _ => first | exact absurd rfl hk | simp [fe_eyo, fe_un]
        | 4, hk, _ => first | exact absurd rfl hk | simp [fe_eyo, fe_un]
      · match k', h6 with
        | 0, _ => simp [fe_eyo, fe_un, hee]
        | 1, _ => simp [fe_un, hee]
        | 2, _ => simp [fe_un, hee]
        | 3, _ => simp [fe_un, hee]
        | 4, _ => simp [fe_un, hee]
theorem fe_PE4 (hT : fe_wf b T) (he : e < T.1) {f : Int → Int} : fe_put (fe_mk b N (fe_cc b B D M V A Z T I O L C) r) (T.2.2 e + 4) (fe_rI 192 f) = (fe_mk b N (fe_cc b B D M V A Z T I O L (fe_un C e (fe_un (C e) 1 f))) r) := by
  have h3 := hT.2.2 e he
  refine fe_mk_c (T.2.2 e + 4) (by omega) ?_ (fun a ha => ?_)
  · simp only [fe_cc]
    iterate 15 rw [if_neg (by omega)]
    have h1 := hT.1 e he 4 (by omega)
    simp only [fe_eye, h1, fe_eyo, fe_un, if_true]
    try rfl
  · simp only [fe_cc]
    suffices hs : fe_eye b T I O L (fe_un C e (fe_un (C e) 1 f)) a = fe_eye b T I O L C a by rw [hs]
    simp only [fe_eye]
    cases hW : T.2.1 a with
    | none => rfl
    | some q =>
      obtain ⟨e', k'⟩ := q
      obtain ⟨h5, h6, h7⟩ := hT.2.1 a e' k' hW
      by_cases hee : e' = e
      · subst hee
        have hk : ¬ k' = 4 := fun hk => ha (by subst hk; exact h7)
        match k', hk, h6 with
        | 0, hk, _ => first | exact absurd rfl hk | simp [fe_eyo, fe_un]
        | 1, hk, _ => first | exact absurd rfl hk | simp [fe_eyo, fe_un]
        | 2, hk, _ => first | exact absurd rfl hk | simp [fe_eyo, fe_un]
        | 3, hk, _ => first | exact absurd rfl hk | simp [fe_eyo, fe_un]
        | 4, hk, _ => first | exact absurd rfl hk | simp [fe_eyo, fe_un]
      · match k', h6 with
        | 0, _ => simp [fe_eyo, fe_un, hee]
        | 1, _ => simp [fe_un, hee]
        | 2, _ => simp [fe_un, hee]
        | 3, _ => simp [fe_un, hee]
        | 4, _ => simp [fe_un, hee]
theorem fe_PE0_5 (hT : fe_wf b T) (he : e < T.1) : fe_put (fe_mk b N (fe_cc b B D M V A Z T I O L C) r) (T.2.2 e) (fe_O 1 [.ref (b + 1), .int (fe_z (I e 0)), .int (fe_z (I e 1)), .int (fe_z (I e 2)), .int (fe_z (I e 3)), .int (fe_z (I e 4)), .ref (T.2.2 e + 1), .int (fe_z v), .int (fe_z (I e 6)), .ref (T.2.2 e + 2), .ref (T.2.2 e + 3), .ref (T.2.2 e + 4)]) = (fe_mk b N (fe_cc b B D M V A Z T (fe_un I e (fe_un (I e) 5 v)) O L C) r) := by
  have h3 := hT.2.2 e he
  refine fe_mk_c (T.2.2 e) (by omega) ?_ (fun a ha => ?_)
  · simp only [fe_cc]
    iterate 15 rw [if_neg (by omega)]
    have h1 := hT.1 e he 0 (by omega)
    simp only [Nat.add_zero] at h1
    simp only [fe_eye, h1, fe_eyo, fe_un, if_true]
    try rfl
  · simp only [fe_cc]
    suffices hs : fe_eye b T (fe_un I e (fe_un (I e) 5 v)) O L C a = fe_eye b T I O L C a by rw [hs]
    simp only [fe_eye]
    cases hW : T.2.1 a with
    | none => rfl
    | some q =>
      obtain ⟨e', k'⟩ := q
      obtain ⟨h5, h6, h7⟩ := hT.2.1 a e' k' hW
      by_cases hee : e' = e
      · subst hee
        have hk : ¬ k' = 0 := fun hk => ha (by subst hk; exact h7)
        match k', hk, h6 with
        | 0, hk, _ => first | exact absurd rfl hk | simp [fe_eyo, fe_un]
        | 1, hk, _ => first | exact absurd rfl hk | simp [fe_eyo, fe_un]
        | 2, hk, _ => first | exact absurd rfl hk | simp [fe_eyo, fe_un]
        | 3, hk, _ => first | exact absurd rfl hk | simp [fe_eyo, fe_un]
        | 4, hk, _ => first | exact absurd rfl hk | simp [fe_eyo, fe_un]
      · match k', h6 with
        | 0, _ => simp [fe_eyo, fe_un, hee]
        | 1, _ => simp [fe_un, hee]
        | 2, _ => simp [fe_un, hee]
        | 3, _ => simp [fe_un, hee]
        | 4, _ => simp [fe_un, hee]
theorem fe_PE0_6 (hT : fe_wf b T) (he : e < T.1) : fe_put (fe_mk b N (fe_cc b B D M V A Z T I O L C) r) (T.2.2 e) (fe_O 1 [.ref (b + 1), .int (fe_z (I e 0)), .int (fe_z (I e 1)), .int (fe_z (I e 2)), .int (fe_z (I e 3)), .int (fe_z (I e 4)), .ref (T.2.2 e + 1), .int (fe_z (I e 5)), .int (fe_z v), .ref (T.2.2 e + 2), .ref (T.2.2 e + 3), .ref (T.2.2 e + 4)]) = (fe_mk b N (fe_cc b B D M V A Z T (fe_un I e (fe_un (I e) 6 v)) O L C) r) := by
  have h3 := hT.2.2 e he
  refine fe_mk_c (T.2.2 e) (by omega) ?_ (fun a ha => ?_)
  · simp only [fe_cc]
    iterate 15 rw [if_neg (by omega)]
    have h1 := hT.1 e he 0 (by omega)
    simp only [Nat.add_zero] at h1
    simp only [fe_eye, h1, fe_eyo, fe_un, if_true]
    try rfl
  · simp only [fe_cc]
    suffices hs : fe_eye b T (fe_un I e (fe_un (I e) 6 v)) O L C a = fe_eye b T I O L C a by rw [hs]
    simp only [fe_eye]
    cases hW : T.2.1 a with
    | none => rfl
    | some q =>
      obtain ⟨e', k'⟩ := q
      obtain ⟨h5, h6, h7⟩ := hT.2.1 a e' k' hW
      by_cases hee : e' = e
      · subst hee
        have hk : ¬ k' = 0 := fun hk => ha (by subst hk; exact h7)
        match k', hk, h6 with
        | 0, hk, _ => first | exact absurd rfl hk | simp [fe_eyo, fe_un]
        | 1, hk, _ => first | exact absurd rfl hk | simp [fe_eyo, fe_un]
        | 2, hk, _ => first | exact absurd rfl hk | simp [fe_eyo, fe_un]
        | 3, hk, _ => first | exact absurd rfl hk | simp [fe_eyo, fe_un]
        | 4, hk, _ => first | exact absurd rfl hk | simp [fe_eyo, fe_un]
      · match k', h6 with
        | 0, _ => simp [fe_eyo, fe_un, hee]
        | 1, _ => simp [fe_un, hee]
        | 2, _ => simp [fe_un, hee]
        | 3, _ => simp [fe_un, hee]
        | 4, _ => simp [fe_un, hee]
theorem fe_pE_7 (hT : fe_wf b T) (he : e < T.1) : fe_pf (fe_mk b N (fe_cc b B D M V A Z T I O L C) r) (T.2.2 e) 1 7 (.int (fe_z v)) = some (fe_mk b N (fe_cc b B D M V A Z T (fe_un I e (fe_un (I e) 5 v)) O L C) r) := fe_pf_of (fe_GE0 hT he) (Nat.le_of_ble_eq_true rfl) (fe_PE0_5 hT he)
theorem fe_pE_8 (hT : fe_wf b T) (he : e < T.1) : fe_pf (fe_mk b N (fe_cc b B D M V A Z T I O L C) r) (T.2.2 e) 1 8 (.int (fe_z v)) = some (fe_mk b N (fe_cc b B D M V A Z T (fe_un I e (fe_un (I e) 6 v)) O L C) r) := fe_pf_of (fe_GE0 hT he) (Nat.le_of_ble_eq_true rfl) (fe_PE0_6 hT he)
theorem fe_aE1 (hT : fe_wf b T) (he : e < T.1) (h0 : 0 ≤ i) (h1 : i < 8) : fe_ia E (fe_mk b N (fe_cc b B D M V A Z T I O L C) r) (T.2.2 e + 1) (fe_z i) = some (fe_z (O e i)) := fe_ia_of (fe_GE1 hT he) h0 h1 (by omega)
theorem fe_sE1 (hT : fe_wf b T) (he : e < T.1) (h0 : 0 ≤ i) (h1 : i < 8) : fe_is (fe_mk b N (fe_cc b B D M V A Z T I O L C) r) (T.2.2 e + 1) (fe_z i) (fe_z v) = some (fe_mk b N (fe_cc b B D M V A Z T I (fe_un O e (fe_up (O e) i v)) L C) r) := fe_is_of (fe_GE1 hT he) h0 h1 (by omega) (fe_PE1 hT he)
theorem fe_lE1 (hT : fe_wf b T) (he : e < T.1) : fe_ln E (fe_mk b N (fe_cc b B D M V A Z T I O L C) r) (T.2.2 e + 1) = some 8 := fe_lnI (fe_GE1 hT he)
theorem fe_aE2 (hT : fe_wf b T) (he : e < T.1) (h0 : 0 ≤ i) (h1 : i < 192) : fe_za (fe_mk b N (fe_cc b B D M V A Z T I O L C) r) (T.2.2 e + 2) (fe_z i) = some (L e i) := fe_za_of (fe_GE2 hT he) h0 h1 (by omega)
theorem fe_sE2 (hT : fe_wf b T) (he : e < T.1) (h0 : 0 ≤ i) (h1 : i < 192) : fe_zs (fe_mk b N (fe_cc b B D M V A Z T I O L C) r) (T.2.2 e + 2) (fe_z i) x = some (fe_mk b N (fe_cc b B D M V A Z T I O (fe_un L e (fe_up (L e) i (fe_tb x))) C) r) := fe_zs_of (fe_GE2 hT he) h0 h1 (by omega) (fe_PE2 hT he)
theorem fe_aE3 (hT : fe_wf b T) (he : e < T.1) (h0 : 0 ≤ i) (h1 : i < 192) : fe_ia E (fe_mk b N (fe_cc b B D M V A Z T I O L C) r) (T.2.2 e + 3) (fe_z i) = some (fe_z (C e 0 i)) := fe_ia_of (fe_GE3 hT he) h0 h1 (by omega)
theorem fe_sE3 (hT : fe_wf b T) (he : e < T.1) (h0 : 0 ≤ i) (h1 : i < 192) : fe_is (fe_mk b N (fe_cc b B D M V A Z T I O L C) r) (T.2.2 e + 3) (fe_z i) (fe_z v) = some (fe_mk b N (fe_cc b B D M V A Z T I O L (fe_un C e (fe_un (C e) 0 (fe_up (C e 0) i v)))) r) := fe_is_of (fe_GE3 hT he) h0 h1 (by omega) (fe_PE3 hT he)
theorem fe_lE3 (hT : fe_wf b T) (he : e < T.1) : fe_ln E (fe_mk b N (fe_cc b B D M V A Z T I O L C) r) (T.2.2 e + 3) = some 192 := fe_lnI (fe_GE3 hT he)
theorem fe_aE4 (hT : fe_wf b T) (he : e < T.1) (h0 : 0 ≤ i) (h1 : i < 192) : fe_ia E (fe_mk b N (fe_cc b B D M V A Z T I O L C) r) (T.2.2 e + 4) (fe_z i) = some (fe_z (C e 1 i)) := fe_ia_of (fe_GE4 hT he) h0 h1 (by omega)
theorem fe_sE4 (hT : fe_wf b T) (he : e < T.1) (h0 : 0 ≤ i) (h1 : i < 192) : fe_is (fe_mk b N (fe_cc b B D M V A Z T I O L C) r) (T.2.2 e + 4) (fe_z i) (fe_z v) = some (fe_mk b N (fe_cc b B D M V A Z T I O L (fe_un C e (fe_un (C e) 1 (fe_up (C e 1) i v)))) r) := fe_is_of (fe_GE4 hT he) h0 h1 (by omega) (fe_PE4 hT he)
theorem fe_lE4 (hT : fe_wf b T) (he : e < T.1) : fe_ln E (fe_mk b N (fe_cc b B D M V A Z T I O L C) r) (T.2.2 e + 4) = some 192 := fe_lnI (fe_GE4 hT he)
end FeLc
section FeLr
variable {E : fe_E} {b : Nat} {N : Nat × Nat × Nat} {c : Nat → Option fe_C} {G : Nat → Int} {R : Nat → Int → Bool} {P F : Nat → Int → Int} {S J : Int → Bool} {U : Int → Int} {o : Int → Int64} {i v : Int} {x : Int32}
theorem fe_G15 : fe_get (fe_mk b N c (fe_rc b G R P F S J U o)) (b + 15) = some (fe_O 7 [.int (fe_z (G 0)), .ref (b + 16), .ref (b + 17), .ref (b + 18), .ref (b + 19), .ref (b + 20), .ref (b + 21), .ref (b + 22), .ref (b + 23), .ref (b + 24), .ref (b + 25), .ref (b + 26), .int (fe_z (G 1)), .ref (b + 27), .ref (b + 28), .ref (b + 29), .ref (b + 30), .ref (b + 31), .int (fe_z (G 2)), .int (fe_z (G 3)), .ref (b + 32), .int (fe_z (G 4))]) := by
  rw [fe_mk_gr (by omega)]
  simp [fe_rc]
theorem fe_ob15 : fe_ob (fe_mk b N c (fe_rc b G R P F S J U o)) (b + 15) 7 = true := fe_ob_of fe_G15
theorem fe_g15_0 : fe_gf (fe_mk b N c (fe_rc b G R P F S J U o)) (b + 15) 7 0 = some (.int (fe_z (G 0))) := fe_gf_of fe_G15
theorem fe_p15_0  : fe_pf (fe_mk b N c (fe_rc b G R P F S J U o)) (b + 15) 7 0 (.int (fe_z v)) = some (fe_mk b N c (fe_rc b (fe_un G 0 v) R P F S J U o)) := fe_pf_of fe_G15 (Nat.le_of_ble_eq_true rfl) (fe_mk_r (b + 15) (by omega) (by simp [fe_rc, fe_un]) (fun a ha => by simp [fe_rc, fe_un, ha]))
theorem fe_g15_1 : fe_gf (fe_mk b N c (fe_rc b G R P F S J U o)) (b + 15) 7 1 = some (.ref (b + 16)) := fe_gf_of fe_G15
theorem fe_g15_2 : fe_gf (fe_mk b N c (fe_rc b G R P F S J U o)) (b + 15) 7 2 = some (.ref (b + 17)) := fe_gf_of fe_G15
theorem fe_g15_3 : fe_gf (fe_mk b N c (fe_rc b G R P F S J U o)) (b + 15) 7 3 = some (.ref (b + 18)) := fe_gf_of fe_G15
theorem fe_g15_4 : fe_gf (fe_mk b N c (fe_rc b G R P F S J U o)) (b + 15) 7 4 = some (.ref (b + 19)) := fe_gf_of fe_G15
theorem fe_g15_5 : fe_gf (fe_mk b N c (fe_rc b G R P F S J U o)) (b + 15) 7 5 = some (.ref (b + 20)) := fe_gf_of fe_G15
theorem fe_g15_6 : fe_gf (fe_mk b N c (fe_rc b G R P F S J U o)) (b + 15) 7 6 = some (.ref (b + 21)) := fe_gf_of fe_G15
theorem fe_g15_7 : fe_gf (fe_mk b N c (fe_rc b G R P F S J U o)) (b + 15) 7 7 = some (.ref (b + 22)) := fe_gf_of fe_G15
theorem fe_g15_8 : fe_gf (fe_mk b N c (fe_rc b G R P F S J U o)) (b + 15) 7 8 = some (.ref (b + 23)) := fe_gf_of fe_G15
theorem fe_g15_9 : fe_gf (fe_mk b N c (fe_rc b G R P F S J U o)) (b + 15) 7 9 = some (.ref (b + 24)) := fe_gf_of fe_G15
theorem fe_g15_10 : fe_gf (fe_mk b N c (fe_rc b G R P F S J U o)) (b + 15) 7 10 = some (.ref (b + 25)) := fe_gf_of fe_G15
theorem fe_g15_11 : fe_gf (fe_mk b N c (fe_rc b G R P F S J U o)) (b + 15) 7 11 = some (.ref (b + 26)) := fe_gf_of fe_G15
theorem fe_g15_12 : fe_gf (fe_mk b N c (fe_rc b G R P F S J U o)) (b + 15) 7 12 = some (.int (fe_z (G 1))) := fe_gf_of fe_G15
theorem fe_p15_12  : fe_pf (fe_mk b N c (fe_rc b G R P F S J U o)) (b + 15) 7 12 (.int (fe_z v)) = some (fe_mk b N c (fe_rc b (fe_un G 1 v) R P F S J U o)) := fe_pf_of fe_G15 (Nat.le_of_ble_eq_true rfl) (fe_mk_r (b + 15) (by omega) (by simp [fe_rc, fe_un]) (fun a ha => by simp [fe_rc, fe_un, ha]))
theorem fe_g15_13 : fe_gf (fe_mk b N c (fe_rc b G R P F S J U o)) (b + 15) 7 13 = some (.ref (b + 27)) := fe_gf_of fe_G15
theorem fe_g15_14 : fe_gf (fe_mk b N c (fe_rc b G R P F S J U o)) (b + 15) 7 14 = some (.ref (b + 28)) := fe_gf_of fe_G15
theorem fe_g15_15 : fe_gf (fe_mk b N c (fe_rc b G R P F S J U o)) (b + 15) 7 15 = some (.ref (b + 29)) := fe_gf_of fe_G15
theorem fe_g15_16 : fe_gf (fe_mk b N c (fe_rc b G R P F S J U o)) (b + 15) 7 16 = some (.ref (b + 30)) := fe_gf_of fe_G15
theorem fe_g15_17 : fe_gf (fe_mk b N c (fe_rc b G R P F S J U o)) (b + 15) 7 17 = some (.ref (b + 31)) := fe_gf_of fe_G15
theorem fe_g15_18 : fe_gf (fe_mk b N c (fe_rc b G R P F S J U o)) (b + 15) 7 18 = some (.int (fe_z (G 2))) := fe_gf_of fe_G15
theorem fe_p15_18  : fe_pf (fe_mk b N c (fe_rc b G R P F S J U o)) (b + 15) 7 18 (.int (fe_z v)) = some (fe_mk b N c (fe_rc b (fe_un G 2 v) R P F S J U o)) := fe_pf_of fe_G15 (Nat.le_of_ble_eq_true rfl) (fe_mk_r (b + 15) (by omega) (by simp [fe_rc, fe_un]) (fun a ha => by simp [fe_rc, fe_un, ha]))
theorem fe_g15_19 : fe_gf (fe_mk b N c (fe_rc b G R P F S J U o)) (b + 15) 7 19 = some (.int (fe_z (G 3))) := fe_gf_of fe_G15
theorem fe_p15_19  : fe_pf (fe_mk b N c (fe_rc b G R P F S J U o)) (b + 15) 7 19 (.int (fe_z v)) = some (fe_mk b N c (fe_rc b (fe_un G 3 v) R P F S J U o)) := fe_pf_of fe_G15 (Nat.le_of_ble_eq_true rfl) (fe_mk_r (b + 15) (by omega) (by simp [fe_rc, fe_un]) (fun a ha => by simp [fe_rc, fe_un, ha]))
theorem fe_g15_20 : fe_gf (fe_mk b N c (fe_rc b G R P F S J U o)) (b + 15) 7 20 = some (.ref (b + 32)) := fe_gf_of fe_G15
theorem fe_g15_21 : fe_gf (fe_mk b N c (fe_rc b G R P F S J U o)) (b + 15) 7 21 = some (.int (fe_z (G 4))) := fe_gf_of fe_G15
theorem fe_p15_21  : fe_pf (fe_mk b N c (fe_rc b G R P F S J U o)) (b + 15) 7 21 (.int (fe_z v)) = some (fe_mk b N c (fe_rc b (fe_un G 4 v) R P F S J U o)) := fe_pf_of fe_G15 (Nat.le_of_ble_eq_true rfl) (fe_mk_r (b + 15) (by omega) (by simp [fe_rc, fe_un]) (fun a ha => by simp [fe_rc, fe_un, ha]))
theorem fe_G16 : fe_get (fe_mk b N c (fe_rc b G R P F S J U o)) (b + 16) = some (fe_rZ 192 (R 0)) := by
  rw [fe_mk_gr (by omega)]
  simp [fe_rc]
theorem fe_P16 {f : Int → Bool} : fe_put (fe_mk b N c (fe_rc b G R P F S J U o)) (b + 16) (fe_rZ 192 f) = (fe_mk b N c (fe_rc b G (fe_un R 0 (f)) P F S J U o)) :=
  fe_mk_r (b + 16) (by omega) (by simp [fe_rc, fe_un]) (fun a ha => by simp [fe_rc, fe_un, ha])
theorem fe_aa16 (h0 : 0 ≤ i) (h1 : i < 192) : fe_za (fe_mk b N c (fe_rc b G R P F S J U o)) (b + 16) (fe_z i) = some (R 0 i) := fe_za_of fe_G16 h0 h1 (by omega)
theorem fe_sa16 (h0 : 0 ≤ i) (h1 : i < 192) : fe_zs (fe_mk b N c (fe_rc b G R P F S J U o)) (b + 16) (fe_z i) x = some (fe_mk b N c (fe_rc b G (fe_un R 0 (fe_up (R 0) i (fe_tb x))) P F S J U o)) := fe_zs_of fe_G16 h0 h1 (by omega) fe_P16
theorem fe_ll16 : fe_ln E (fe_mk b N c (fe_rc b G R P F S J U o)) (b + 16) = some 192 := fe_lnZ fe_G16
theorem fe_G17 : fe_get (fe_mk b N c (fe_rc b G R P F S J U o)) (b + 17) = some (fe_rZ 192 (R 1)) := by
  rw [fe_mk_gr (by omega)]
  simp [fe_rc]
theorem fe_P17 {f : Int → Bool} : fe_put (fe_mk b N c (fe_rc b G R P F S J U o)) (b + 17) (fe_rZ 192 f) = (fe_mk b N c (fe_rc b G (fe_un R 1 (f)) P F S J U o)) :=
  fe_mk_r (b + 17) (by omega) (by simp [fe_rc, fe_un]) (fun a ha => by simp [fe_rc, fe_un, ha])
theorem fe_aa17 (h0 : 0 ≤ i) (h1 : i < 192) : fe_za (fe_mk b N c (fe_rc b G R P F S J U o)) (b + 17) (fe_z i) = some (R 1 i) := fe_za_of fe_G17 h0 h1 (by omega)
theorem fe_sa17 (h0 : 0 ≤ i) (h1 : i < 192) : fe_zs (fe_mk b N c (fe_rc b G R P F S J U o)) (b + 17) (fe_z i) x = some (fe_mk b N c (fe_rc b G (fe_un R 1 (fe_up (R 1) i (fe_tb x))) P F S J U o)) := fe_zs_of fe_G17 h0 h1 (by omega) fe_P17
theorem fe_ll17 : fe_ln E (fe_mk b N c (fe_rc b G R P F S J U o)) (b + 17) = some 192 := fe_lnZ fe_G17
theorem fe_G18 : fe_get (fe_mk b N c (fe_rc b G R P F S J U o)) (b + 18) = some (fe_rZ 192 (R 2)) := by
  rw [fe_mk_gr (by omega)]
  simp [fe_rc]
theorem fe_P18 {f : Int → Bool} : fe_put (fe_mk b N c (fe_rc b G R P F S J U o)) (b + 18) (fe_rZ 192 f) = (fe_mk b N c (fe_rc b G (fe_un R 2 (f)) P F S J U o)) :=
  fe_mk_r (b + 18) (by omega) (by simp [fe_rc, fe_un]) (fun a ha => by simp [fe_rc, fe_un, ha])
theorem fe_aa18 (h0 : 0 ≤ i) (h1 : i < 192) : fe_za (fe_mk b N c (fe_rc b G R P F S J U o)) (b + 18) (fe_z i) = some (R 2 i) := fe_za_of fe_G18 h0 h1 (by omega)
theorem fe_sa18 (h0 : 0 ≤ i) (h1 : i < 192) : fe_zs (fe_mk b N c (fe_rc b G R P F S J U o)) (b + 18) (fe_z i) x = some (fe_mk b N c (fe_rc b G (fe_un R 2 (fe_up (R 2) i (fe_tb x))) P F S J U o)) := fe_zs_of fe_G18 h0 h1 (by omega) fe_P18
theorem fe_ll18 : fe_ln E (fe_mk b N c (fe_rc b G R P F S J U o)) (b + 18) = some 192 := fe_lnZ fe_G18
theorem fe_G19 : fe_get (fe_mk b N c (fe_rc b G R P F S J U o)) (b + 19) = some (fe_rI 12 (P 0)) := by
  rw [fe_mk_gr (by omega)]
  simp [fe_rc]
theorem fe_P19 {f : Int → Int} : fe_put (fe_mk b N c (fe_rc b G R P F S J U o)) (b + 19) (fe_rI 12 f) = (fe_mk b N c (fe_rc b G R (fe_un P 0 (f)) F S J U o)) :=
  fe_mk_r (b + 19) (by omega) (by simp [fe_rc, fe_un]) (fun a ha => by simp [fe_rc, fe_un, ha])
theorem fe_aa19 (h0 : 0 ≤ i) (h1 : i < 12) : fe_ia E (fe_mk b N c (fe_rc b G R P F S J U o)) (b + 19) (fe_z i) = some (fe_z (P 0 i)) := fe_ia_of fe_G19 h0 h1 (by omega)
theorem fe_sa19 (h0 : 0 ≤ i) (h1 : i < 12) : fe_is (fe_mk b N c (fe_rc b G R P F S J U o)) (b + 19) (fe_z i) (fe_z v) = some (fe_mk b N c (fe_rc b G R (fe_un P 0 (fe_up (P 0) i v)) F S J U o)) := fe_is_of fe_G19 h0 h1 (by omega) fe_P19
theorem fe_ll19 : fe_ln E (fe_mk b N c (fe_rc b G R P F S J U o)) (b + 19) = some 12 := fe_lnI fe_G19
theorem fe_G20 : fe_get (fe_mk b N c (fe_rc b G R P F S J U o)) (b + 20) = some (fe_rI 12 (P 1)) := by
  rw [fe_mk_gr (by omega)]
  simp [fe_rc]
theorem fe_P20 {f : Int → Int} : fe_put (fe_mk b N c (fe_rc b G R P F S J U o)) (b + 20) (fe_rI 12 f) = (fe_mk b N c (fe_rc b G R (fe_un P 1 (f)) F S J U o)) :=
  fe_mk_r (b + 20) (by omega) (by simp [fe_rc, fe_un]) (fun a ha => by simp [fe_rc, fe_un, ha])
theorem fe_aa20 (h0 : 0 ≤ i) (h1 : i < 12) : fe_ia E (fe_mk b N c (fe_rc b G R P F S J U o)) (b + 20) (fe_z i) = some (fe_z (P 1 i)) := fe_ia_of fe_G20 h0 h1 (by omega)
theorem fe_sa20 (h0 : 0 ≤ i) (h1 : i < 12) : fe_is (fe_mk b N c (fe_rc b G R P F S J U o)) (b + 20) (fe_z i) (fe_z v) = some (fe_mk b N c (fe_rc b G R (fe_un P 1 (fe_up (P 1) i v)) F S J U o)) := fe_is_of fe_G20 h0 h1 (by omega) fe_P20
theorem fe_ll20 : fe_ln E (fe_mk b N c (fe_rc b G R P F S J U o)) (b + 20) = some 12 := fe_lnI fe_G20
theorem fe_G21 : fe_get (fe_mk b N c (fe_rc b G R P F S J U o)) (b + 21) = some (fe_rI 12 (P 2)) := by
  rw [fe_mk_gr (by omega)]
  simp [fe_rc]
theorem fe_P21 {f : Int → Int} : fe_put (fe_mk b N c (fe_rc b G R P F S J U o)) (b + 21) (fe_rI 12 f) = (fe_mk b N c (fe_rc b G R (fe_un P 2 (f)) F S J U o)) :=
  fe_mk_r (b + 21) (by omega) (by simp [fe_rc, fe_un]) (fun a ha => by simp [fe_rc, fe_un, ha])
theorem fe_aa21 (h0 : 0 ≤ i) (h1 : i < 12) : fe_ia E (fe_mk b N c (fe_rc b G R P F S J U o)) (b + 21) (fe_z i) = some (fe_z (P 2 i)) := fe_ia_of fe_G21 h0 h1 (by omega)
theorem fe_sa21 (h0 : 0 ≤ i) (h1 : i < 12) : fe_is (fe_mk b N c (fe_rc b G R P F S J U o)) (b + 21) (fe_z i) (fe_z v) = some (fe_mk b N c (fe_rc b G R (fe_un P 2 (fe_up (P 2) i v)) F S J U o)) := fe_is_of fe_G21 h0 h1 (by omega) fe_P21
theorem fe_ll21 : fe_ln E (fe_mk b N c (fe_rc b G R P F S J U o)) (b + 21) = some 12 := fe_lnI fe_G21
theorem fe_G22 : fe_get (fe_mk b N c (fe_rc b G R P F S J U o)) (b + 22) = some (fe_rI 12 (P 3)) := by
  rw [fe_mk_gr (by omega)]
  simp [fe_rc]
theorem fe_P22 {f : Int → Int} : fe_put (fe_mk b N c (fe_rc b G R P F S J U o)) (b + 22) (fe_rI 12 f) = (fe_mk b N c (fe_rc b G R (fe_un P 3 (f)) F S J U o)) :=
  fe_mk_r (b + 22) (by omega) (by simp [fe_rc, fe_un]) (fun a ha => by simp [fe_rc, fe_un, ha])
theorem fe_aa22 (h0 : 0 ≤ i) (h1 : i < 12) : fe_ia E (fe_mk b N c (fe_rc b G R P F S J U o)) (b + 22) (fe_z i) = some (fe_z (P 3 i)) := fe_ia_of fe_G22 h0 h1 (by omega)
theorem fe_sa22 (h0 : 0 ≤ i) (h1 : i < 12) : fe_is (fe_mk b N c (fe_rc b G R P F S J U o)) (b + 22) (fe_z i) (fe_z v) = some (fe_mk b N c (fe_rc b G R (fe_un P 3 (fe_up (P 3) i v)) F S J U o)) := fe_is_of fe_G22 h0 h1 (by omega) fe_P22
theorem fe_ll22 : fe_ln E (fe_mk b N c (fe_rc b G R P F S J U o)) (b + 22) = some 12 := fe_lnI fe_G22
theorem fe_G23 : fe_get (fe_mk b N c (fe_rc b G R P F S J U o)) (b + 23) = some (fe_rZ 12 (R 3)) := by
  rw [fe_mk_gr (by omega)]
  simp [fe_rc]
theorem fe_P23 {f : Int → Bool} : fe_put (fe_mk b N c (fe_rc b G R P F S J U o)) (b + 23) (fe_rZ 12 f) = (fe_mk b N c (fe_rc b G (fe_un R 3 (f)) P F S J U o)) :=
  fe_mk_r (b + 23) (by omega) (by simp [fe_rc, fe_un]) (fun a ha => by simp [fe_rc, fe_un, ha])
theorem fe_aa23 (h0 : 0 ≤ i) (h1 : i < 12) : fe_za (fe_mk b N c (fe_rc b G R P F S J U o)) (b + 23) (fe_z i) = some (R 3 i) := fe_za_of fe_G23 h0 h1 (by omega)
theorem fe_sa23 (h0 : 0 ≤ i) (h1 : i < 12) : fe_zs (fe_mk b N c (fe_rc b G R P F S J U o)) (b + 23) (fe_z i) x = some (fe_mk b N c (fe_rc b G (fe_un R 3 (fe_up (R 3) i (fe_tb x))) P F S J U o)) := fe_zs_of fe_G23 h0 h1 (by omega) fe_P23
theorem fe_ll23 : fe_ln E (fe_mk b N c (fe_rc b G R P F S J U o)) (b + 23) = some 12 := fe_lnZ fe_G23
theorem fe_G24 : fe_get (fe_mk b N c (fe_rc b G R P F S J U o)) (b + 24) = some (fe_rI 96 (P 4)) := by
  rw [fe_mk_gr (by omega)]
  simp [fe_rc]
theorem fe_P24 {f : Int → Int} : fe_put (fe_mk b N c (fe_rc b G R P F S J U o)) (b + 24) (fe_rI 96 f) = (fe_mk b N c (fe_rc b G R (fe_un P 4 (f)) F S J U o)) :=
  fe_mk_r (b + 24) (by omega) (by simp [fe_rc, fe_un]) (fun a ha => by simp [fe_rc, fe_un, ha])
theorem fe_aa24 (h0 : 0 ≤ i) (h1 : i < 96) : fe_ia E (fe_mk b N c (fe_rc b G R P F S J U o)) (b + 24) (fe_z i) = some (fe_z (P 4 i)) := fe_ia_of fe_G24 h0 h1 (by omega)
theorem fe_sa24 (h0 : 0 ≤ i) (h1 : i < 96) : fe_is (fe_mk b N c (fe_rc b G R P F S J U o)) (b + 24) (fe_z i) (fe_z v) = some (fe_mk b N c (fe_rc b G R (fe_un P 4 (fe_up (P 4) i v)) F S J U o)) := fe_is_of fe_G24 h0 h1 (by omega) fe_P24
theorem fe_ll24 : fe_ln E (fe_mk b N c (fe_rc b G R P F S J U o)) (b + 24) = some 96 := fe_lnI fe_G24
theorem fe_G25 : fe_get (fe_mk b N c (fe_rc b G R P F S J U o)) (b + 25) = some (fe_rI 12 (P 5)) := by
  rw [fe_mk_gr (by omega)]
  simp [fe_rc]
theorem fe_P25 {f : Int → Int} : fe_put (fe_mk b N c (fe_rc b G R P F S J U o)) (b + 25) (fe_rI 12 f) = (fe_mk b N c (fe_rc b G R (fe_un P 5 (f)) F S J U o)) :=
  fe_mk_r (b + 25) (by omega) (by simp [fe_rc, fe_un]) (fun a ha => by simp [fe_rc, fe_un, ha])
theorem fe_aa25 (h0 : 0 ≤ i) (h1 : i < 12) : fe_ia E (fe_mk b N c (fe_rc b G R P F S J U o)) (b + 25) (fe_z i) = some (fe_z (P 5 i)) := fe_ia_of fe_G25 h0 h1 (by omega)
theorem fe_sa25 (h0 : 0 ≤ i) (h1 : i < 12) : fe_is (fe_mk b N c (fe_rc b G R P F S J U o)) (b + 25) (fe_z i) (fe_z v) = some (fe_mk b N c (fe_rc b G R (fe_un P 5 (fe_up (P 5) i v)) F S J U o)) := fe_is_of fe_G25 h0 h1 (by omega) fe_P25
theorem fe_ll25 : fe_ln E (fe_mk b N c (fe_rc b G R P F S J U o)) (b + 25) = some 12 := fe_lnI fe_G25
theorem fe_G26 : fe_get (fe_mk b N c (fe_rc b G R P F S J U o)) (b + 26) = some (fe_rZ 2304 (R 4)) := by
  rw [fe_mk_gr (by omega)]
  simp [fe_rc]
theorem fe_P26 {f : Int → Bool} : fe_put (fe_mk b N c (fe_rc b G R P F S J U o)) (b + 26) (fe_rZ 2304 f) = (fe_mk b N c (fe_rc b G (fe_un R 4 (f)) P F S J U o)) :=
  fe_mk_r (b + 26) (by omega) (by simp [fe_rc, fe_un]) (fun a ha => by simp [fe_rc, fe_un, ha])
theorem fe_aa26 (h0 : 0 ≤ i) (h1 : i < 2304) : fe_za (fe_mk b N c (fe_rc b G R P F S J U o)) (b + 26) (fe_z i) = some (R 4 i) := fe_za_of fe_G26 h0 h1 (by omega)
theorem fe_sa26 (h0 : 0 ≤ i) (h1 : i < 2304) : fe_zs (fe_mk b N c (fe_rc b G R P F S J U o)) (b + 26) (fe_z i) x = some (fe_mk b N c (fe_rc b G (fe_un R 4 (fe_up (R 4) i (fe_tb x))) P F S J U o)) := fe_zs_of fe_G26 h0 h1 (by omega) fe_P26
theorem fe_ll26 : fe_ln E (fe_mk b N c (fe_rc b G R P F S J U o)) (b + 26) = some 2304 := fe_lnZ fe_G26
theorem fe_G27 : fe_get (fe_mk b N c (fe_rc b G R P F S J U o)) (b + 27) = some (fe_rI 5 (F 0)) := by
  rw [fe_mk_gr (by omega)]
  simp [fe_rc]
theorem fe_P27 {f : Int → Int} : fe_put (fe_mk b N c (fe_rc b G R P F S J U o)) (b + 27) (fe_rI 5 f) = (fe_mk b N c (fe_rc b G R P (fe_un F 0 (f)) S J U o)) :=
  fe_mk_r (b + 27) (by omega) (by simp [fe_rc, fe_un]) (fun a ha => by simp [fe_rc, fe_un, ha])
theorem fe_aa27 (h0 : 0 ≤ i) (h1 : i < 5) : fe_ia E (fe_mk b N c (fe_rc b G R P F S J U o)) (b + 27) (fe_z i) = some (fe_z (F 0 i)) := fe_ia_of fe_G27 h0 h1 (by omega)
theorem fe_sa27 (h0 : 0 ≤ i) (h1 : i < 5) : fe_is (fe_mk b N c (fe_rc b G R P F S J U o)) (b + 27) (fe_z i) (fe_z v) = some (fe_mk b N c (fe_rc b G R P (fe_un F 0 (fe_up (F 0) i v)) S J U o)) := fe_is_of fe_G27 h0 h1 (by omega) fe_P27
theorem fe_ll27 : fe_ln E (fe_mk b N c (fe_rc b G R P F S J U o)) (b + 27) = some 5 := fe_lnI fe_G27
theorem fe_G28 : fe_get (fe_mk b N c (fe_rc b G R P F S J U o)) (b + 28) = some (fe_rI 5 (F 1)) := by
  rw [fe_mk_gr (by omega)]
  simp [fe_rc]
theorem fe_P28 {f : Int → Int} : fe_put (fe_mk b N c (fe_rc b G R P F S J U o)) (b + 28) (fe_rI 5 f) = (fe_mk b N c (fe_rc b G R P (fe_un F 1 (f)) S J U o)) :=
  fe_mk_r (b + 28) (by omega) (by simp [fe_rc, fe_un]) (fun a ha => by simp [fe_rc, fe_un, ha])
theorem fe_aa28 (h0 : 0 ≤ i) (h1 : i < 5) : fe_ia E (fe_mk b N c (fe_rc b G R P F S J U o)) (b + 28) (fe_z i) = some (fe_z (F 1 i)) := fe_ia_of fe_G28 h0 h1 (by omega)
theorem fe_sa28 (h0 : 0 ≤ i) (h1 : i < 5) : fe_is (fe_mk b N c (fe_rc b G R P F S J U o)) (b + 28) (fe_z i) (fe_z v) = some (fe_mk b N c (fe_rc b G R P (fe_un F 1 (fe_up (F 1) i v)) S J U o)) := fe_is_of fe_G28 h0 h1 (by omega) fe_P28
theorem fe_ll28 : fe_ln E (fe_mk b N c (fe_rc b G R P F S J U o)) (b + 28) = some 5 := fe_lnI fe_G28
theorem fe_G29 : fe_get (fe_mk b N c (fe_rc b G R P F S J U o)) (b + 29) = some (fe_rZ 96 S) := by
  rw [fe_mk_gr (by omega)]
  simp [fe_rc]
theorem fe_P29 {f : Int → Bool} : fe_put (fe_mk b N c (fe_rc b G R P F S J U o)) (b + 29) (fe_rZ 96 f) = (fe_mk b N c (fe_rc b G R P F (f) J U o)) :=
  fe_mk_r (b + 29) (by omega) (by simp [fe_rc, fe_un]) (fun a ha => by simp [fe_rc, fe_un, ha])
theorem fe_aa29 (h0 : 0 ≤ i) (h1 : i < 96) : fe_za (fe_mk b N c (fe_rc b G R P F S J U o)) (b + 29) (fe_z i) = some (S i) := fe_za_of fe_G29 h0 h1 (by omega)
theorem fe_sa29 (h0 : 0 ≤ i) (h1 : i < 96) : fe_zs (fe_mk b N c (fe_rc b G R P F S J U o)) (b + 29) (fe_z i) x = some (fe_mk b N c (fe_rc b G R P F (fe_up (S) i (fe_tb x)) J U o)) := fe_zs_of fe_G29 h0 h1 (by omega) fe_P29
theorem fe_ll29 : fe_ln E (fe_mk b N c (fe_rc b G R P F S J U o)) (b + 29) = some 96 := fe_lnZ fe_G29
theorem fe_G30 : fe_get (fe_mk b N c (fe_rc b G R P F S J U o)) (b + 30) = some (fe_rZ 4096 J) := by
  rw [fe_mk_gr (by omega)]
  simp [fe_rc]
theorem fe_P30 {f : Int → Bool} : fe_put (fe_mk b N c (fe_rc b G R P F S J U o)) (b + 30) (fe_rZ 4096 f) = (fe_mk b N c (fe_rc b G R P F S (f) U o)) :=
  fe_mk_r (b + 30) (by omega) (by simp [fe_rc, fe_un]) (fun a ha => by simp [fe_rc, fe_un, ha])
theorem fe_aa30 (h0 : 0 ≤ i) (h1 : i < 4096) : fe_za (fe_mk b N c (fe_rc b G R P F S J U o)) (b + 30) (fe_z i) = some (J i) := fe_za_of fe_G30 h0 h1 (by omega)
theorem fe_sa30 (h0 : 0 ≤ i) (h1 : i < 4096) : fe_zs (fe_mk b N c (fe_rc b G R P F S J U o)) (b + 30) (fe_z i) x = some (fe_mk b N c (fe_rc b G R P F S (fe_up (J) i (fe_tb x)) U o)) := fe_zs_of fe_G30 h0 h1 (by omega) fe_P30
theorem fe_ll30 : fe_ln E (fe_mk b N c (fe_rc b G R P F S J U o)) (b + 30) = some 4096 := fe_lnZ fe_G30
theorem fe_G31 : fe_get (fe_mk b N c (fe_rc b G R P F S J U o)) (b + 31) = some (fe_rI 4096 U) := by
  rw [fe_mk_gr (by omega)]
  simp [fe_rc]
theorem fe_P31 {f : Int → Int} : fe_put (fe_mk b N c (fe_rc b G R P F S J U o)) (b + 31) (fe_rI 4096 f) = (fe_mk b N c (fe_rc b G R P F S J (f) o)) :=
  fe_mk_r (b + 31) (by omega) (by simp [fe_rc, fe_un]) (fun a ha => by simp [fe_rc, fe_un, ha])
theorem fe_aa31 (h0 : 0 ≤ i) (h1 : i < 4096) : fe_ia E (fe_mk b N c (fe_rc b G R P F S J U o)) (b + 31) (fe_z i) = some (fe_z (U i)) := fe_ia_of fe_G31 h0 h1 (by omega)
theorem fe_sa31 (h0 : 0 ≤ i) (h1 : i < 4096) : fe_is (fe_mk b N c (fe_rc b G R P F S J U o)) (b + 31) (fe_z i) (fe_z v) = some (fe_mk b N c (fe_rc b G R P F S J (fe_up (U) i v) o)) := fe_is_of fe_G31 h0 h1 (by omega) fe_P31
theorem fe_ll31 : fe_ln E (fe_mk b N c (fe_rc b G R P F S J U o)) (b + 31) = some 4096 := fe_lnI fe_G31
theorem fe_G32 : fe_get (fe_mk b N c (fe_rc b G R P F S J U o)) (b + 32) = some (fe_rI 60 (P 6)) := by
  rw [fe_mk_gr (by omega)]
  simp [fe_rc]
theorem fe_P32 {f : Int → Int} : fe_put (fe_mk b N c (fe_rc b G R P F S J U o)) (b + 32) (fe_rI 60 f) = (fe_mk b N c (fe_rc b G R (fe_un P 6 (f)) F S J U o)) :=
  fe_mk_r (b + 32) (by omega) (by simp [fe_rc, fe_un]) (fun a ha => by simp [fe_rc, fe_un, ha])
theorem fe_aa32 (h0 : 0 ≤ i) (h1 : i < 60) : fe_ia E (fe_mk b N c (fe_rc b G R P F S J U o)) (b + 32) (fe_z i) = some (fe_z (P 6 i)) := fe_ia_of fe_G32 h0 h1 (by omega)
theorem fe_sa32 (h0 : 0 ≤ i) (h1 : i < 60) : fe_is (fe_mk b N c (fe_rc b G R P F S J U o)) (b + 32) (fe_z i) (fe_z v) = some (fe_mk b N c (fe_rc b G R (fe_un P 6 (fe_up (P 6) i v)) F S J U o)) := fe_is_of fe_G32 h0 h1 (by omega) fe_P32
theorem fe_ll32 : fe_ln E (fe_mk b N c (fe_rc b G R P F S J U o)) (b + 32) = some 60 := fe_lnI fe_G32
theorem fe_G33 : fe_get (fe_mk b N c (fe_rc b G R P F S J U o)) (b + 33) = some (fe_rJ 1 o) := by
  rw [fe_mk_gr (by omega)]
  simp [fe_rc]
theorem fe_P33 {f : Int → Int64} : fe_put (fe_mk b N c (fe_rc b G R P F S J U o)) (b + 33) (fe_rJ 1 f) = (fe_mk b N c (fe_rc b G R P F S J U f)) :=
  fe_mk_r (b + 33) (by omega) (by simp [fe_rc]) (fun a ha => by simp [fe_rc, ha])
theorem fe_aa33  : fe_ja E (fe_mk b N c (fe_rc b G R P F S J U o)) (b + 33) (fe_z 0) = some (o 0) := fe_ja_of fe_G33 (by omega) (by omega) (by omega)
theorem fe_sa33 {w : Int64} : fe_js (fe_mk b N c (fe_rc b G R P F S J U o)) (b + 33) (fe_z 0) w = some (fe_mk b N c (fe_rc b G R P F S J U (fe_up o 0 w))) := fe_js_of fe_G33 (by omega) (by omega) (by omega) fe_P33
end FeLr
end

section
-- ===== PART A: goes FIRST, ahead of the names: the tables' words, and 'selects' of the private methods out of them =====
/-- a private method of a class that the tables say can be made, by its rows of tables_1 -/
def lw_okq (q : MethodName × Nat) : Prop := (q.1.cls ≠ "java/lang/invoke/MethodHandle" ∧ q.1.cls ≠ "java/lang/invoke/VarHandle") ∧ Cond.instantiable q.1.cls q.2 ∈ tables_1 ∧ Cond.privateMethod q.1 ∈ tables_1 ∧ Cond.instanceMethod q.1 ∈ tables_1
theorem lw_p0 : lw_okq (⟨"SilentAsking", "count", "()I"⟩, 11) := ⟨⟨by decide +kernel, by decide +kernel⟩, List.mem_of_getElem? (i := 10) (by decide +kernel), List.mem_of_getElem? (i := 146) (by decide +kernel), List.mem_of_getElem? (i := 147) (by decide +kernel)⟩
theorem lw_p1 : lw_okq (⟨"SilentAsking", "storeOf", "(I)LSilentAsking$Store;"⟩, 11) := ⟨⟨by decide +kernel, by decide +kernel⟩, List.mem_of_getElem? (i := 10) (by decide +kernel), List.mem_of_getElem? (i := 150) (by decide +kernel), List.mem_of_getElem? (i := 151) (by decide +kernel)⟩
theorem lw_p2 : lw_okq (⟨"SilentAsking$Store", "become", "(II[I)V"⟩, 3) := ⟨⟨by decide +kernel, by decide +kernel⟩, List.mem_of_getElem? (i := 90) (by decide +kernel), List.mem_of_getElem? (i := 154) (by decide +kernel), List.mem_of_getElem? (i := 155) (by decide +kernel)⟩
theorem lw_p3 : lw_okq (⟨"SilentAsking", "isRecord", "(I)Z"⟩, 11) := ⟨⟨by decide +kernel, by decide +kernel⟩, List.mem_of_getElem? (i := 10) (by decide +kernel), List.mem_of_getElem? (i := 165) (by decide +kernel), List.mem_of_getElem? (i := 166) (by decide +kernel)⟩
theorem lw_p4 : lw_okq (⟨"SilentAsking", "copied", "(LSilentAsking$Store;I)I"⟩, 11) := ⟨⟨by decide +kernel, by decide +kernel⟩, List.mem_of_getElem? (i := 10) (by decide +kernel), List.mem_of_getElem? (i := 193) (by decide +kernel), List.mem_of_getElem? (i := 194) (by decide +kernel)⟩
theorem lw_p5 : lw_okq (⟨"SilentAsking$Store", "held", "([I)[I"⟩, 3) := ⟨⟨by decide +kernel, by decide +kernel⟩, List.mem_of_getElem? (i := 90) (by decide +kernel), List.mem_of_getElem? (i := 197) (by decide +kernel), List.mem_of_getElem? (i := 198) (by decide +kernel)⟩
theorem lw_p6 : lw_okq (⟨"SilentAsking", "sumAtPlace", "([I)I"⟩, 11) := ⟨⟨by decide +kernel, by decide +kernel⟩, List.mem_of_getElem? (i := 10) (by decide +kernel), List.mem_of_getElem? (i := 209) (by decide +kernel), List.mem_of_getElem? (i := 210) (by decide +kernel)⟩
theorem lw_p7 : lw_okq (⟨"SilentAsking$Question", "begin", "(IIII)V"⟩, 8) := ⟨⟨by decide +kernel, by decide +kernel⟩, List.mem_of_getElem? (i := 20) (by decide +kernel), List.mem_of_getElem? (i := 226) (by decide +kernel), List.mem_of_getElem? (i := 227) (by decide +kernel)⟩
theorem lw_p8 : lw_okq (⟨"SilentAsking$Question", "drawLots", "([II)V"⟩, 8) := ⟨⟨by decide +kernel, by decide +kernel⟩, List.mem_of_getElem? (i := 20) (by decide +kernel), List.mem_of_getElem? (i := 230) (by decide +kernel), List.mem_of_getElem? (i := 231) (by decide +kernel)⟩
theorem lw_p9 : lw_okq (⟨"SilentAsking$Question", "veilBy", "(I)V"⟩, 8) := ⟨⟨by decide +kernel, by decide +kernel⟩, List.mem_of_getElem? (i := 20) (by decide +kernel), List.mem_of_getElem? (i := 243) (by decide +kernel), List.mem_of_getElem? (i := 244) (by decide +kernel)⟩
theorem lw_p10 : lw_okq (⟨"SilentAsking$Question", "pointNumber", "(II)I"⟩, 8) := ⟨⟨by decide +kernel, by decide +kernel⟩, List.mem_of_getElem? (i := 20) (by decide +kernel), List.mem_of_getElem? (i := 251) (by decide +kernel), List.mem_of_getElem? (i := 252) (by decide +kernel)⟩
theorem lw_p11 : lw_okq (⟨"SilentAsking", "toldBy", "(I)I"⟩, 11) := ⟨⟨by decide +kernel, by decide +kernel⟩, List.mem_of_getElem? (i := 10) (by decide +kernel), List.mem_of_getElem? (i := 263) (by decide +kernel), List.mem_of_getElem? (i := 264) (by decide +kernel)⟩
theorem lw_p12 : lw_okq (⟨"SilentAsking$Question", "veilAt", "(I)I"⟩, 8) := ⟨⟨by decide +kernel, by decide +kernel⟩, List.mem_of_getElem? (i := 20) (by decide +kernel), List.mem_of_getElem? (i := 267) (by decide +kernel), List.mem_of_getElem? (i := 268) (by decide +kernel)⟩
theorem lw_p13 : lw_okq (⟨"SilentAsking", "refusalOfFetch", "(I)I"⟩, 11) := ⟨⟨by decide +kernel, by decide +kernel⟩, List.mem_of_getElem? (i := 10) (by decide +kernel), List.mem_of_getElem? (i := 279) (by decide +kernel), List.mem_of_getElem? (i := 280) (by decide +kernel)⟩
theorem lw_p14 : lw_okq (⟨"SilentAsking", "tellingStores", "(I)I"⟩, 11) := ⟨⟨by decide +kernel, by decide +kernel⟩, List.mem_of_getElem? (i := 10) (by decide +kernel), List.mem_of_getElem? (i := 283) (by decide +kernel), List.mem_of_getElem? (i := 284) (by decide +kernel)⟩
theorem lw_p15 : lw_okq (⟨"SilentAsking", "hearStores", "(I)V"⟩, 11) := ⟨⟨by decide +kernel, by decide +kernel⟩, List.mem_of_getElem? (i := 10) (by decide +kernel), List.mem_of_getElem? (i := 287) (by decide +kernel), List.mem_of_getElem? (i := 288) (by decide +kernel)⟩
def lw_privs_1 : List (MethodName × Nat) := [(⟨"SilentAsking", "count", "()I"⟩, 11), (⟨"SilentAsking", "storeOf", "(I)LSilentAsking$Store;"⟩, 11), (⟨"SilentAsking$Store", "become", "(II[I)V"⟩, 3), (⟨"SilentAsking", "isRecord", "(I)Z"⟩, 11), (⟨"SilentAsking", "copied", "(LSilentAsking$Store;I)I"⟩, 11), (⟨"SilentAsking$Store", "held", "([I)[I"⟩, 3), (⟨"SilentAsking", "sumAtPlace", "([I)I"⟩, 11), (⟨"SilentAsking$Question", "begin", "(IIII)V"⟩, 8), (⟨"SilentAsking$Question", "drawLots", "([II)V"⟩, 8), (⟨"SilentAsking$Question", "veilBy", "(I)V"⟩, 8), (⟨"SilentAsking$Question", "pointNumber", "(II)I"⟩, 8), (⟨"SilentAsking", "toldBy", "(I)I"⟩, 11), (⟨"SilentAsking$Question", "veilAt", "(I)I"⟩, 8), (⟨"SilentAsking", "refusalOfFetch", "(I)I"⟩, 11), (⟨"SilentAsking", "tellingStores", "(I)I"⟩, 11), (⟨"SilentAsking", "hearStores", "(I)V"⟩, 11)]
theorem lw_r1 : ∀ q ∈ lw_privs_1, lw_okq q := List.forall_mem_cons.mpr ⟨lw_p0, List.forall_mem_cons.mpr ⟨lw_p1, List.forall_mem_cons.mpr ⟨lw_p2, List.forall_mem_cons.mpr ⟨lw_p3, List.forall_mem_cons.mpr ⟨lw_p4, List.forall_mem_cons.mpr ⟨lw_p5, List.forall_mem_cons.mpr ⟨lw_p6, List.forall_mem_cons.mpr ⟨lw_p7, List.forall_mem_cons.mpr ⟨lw_p8, List.forall_mem_cons.mpr ⟨lw_p9, List.forall_mem_cons.mpr ⟨lw_p10, List.forall_mem_cons.mpr ⟨lw_p11, List.forall_mem_cons.mpr ⟨lw_p12, List.forall_mem_cons.mpr ⟨lw_p13, List.forall_mem_cons.mpr ⟨lw_p14, List.forall_mem_cons.mpr ⟨lw_p15, fun _ h => absurd h List.not_mem_nil⟩⟩⟩⟩⟩⟩⟩⟩⟩⟩⟩⟩⟩⟩⟩⟩
theorem lw_p16 : lw_okq (⟨"SilentAsking$Row", "add", "(II)V"⟩, 3) := ⟨⟨by decide +kernel, by decide +kernel⟩, List.mem_of_getElem? (i := 55) (by decide +kernel), List.mem_of_getElem? (i := 291) (by decide +kernel), List.mem_of_getElem? (i := 292) (by decide +kernel)⟩
theorem lw_p17 : lw_okq (⟨"SilentAsking", "liesMended", "(I)I"⟩, 11) := ⟨⟨by decide +kernel, by decide +kernel⟩, List.mem_of_getElem? (i := 10) (by decide +kernel), List.mem_of_getElem? (i := 295) (by decide +kernel), List.mem_of_getElem? (i := 296) (by decide +kernel)⟩
theorem lw_p18 : lw_okq (⟨"SilentAsking", "findCurve", "(I)Z"⟩, 11) := ⟨⟨by decide +kernel, by decide +kernel⟩, List.mem_of_getElem? (i := 10) (by decide +kernel), List.mem_of_getElem? (i := 299) (by decide +kernel), List.mem_of_getElem? (i := 300) (by decide +kernel)⟩
theorem lw_p19 : lw_okq (⟨"SilentAsking$Curve", "layThrough", "(LSilentAsking$Row;I)V"⟩, 3) := ⟨⟨by decide +kernel, by decide +kernel⟩, List.mem_of_getElem? (i := 75) (by decide +kernel), List.mem_of_getElem? (i := 309) (by decide +kernel), List.mem_of_getElem? (i := 310) (by decide +kernel)⟩
theorem lw_p20 : lw_okq (⟨"SilentAsking$Curve", "bend", "(II)V"⟩, 3) := ⟨⟨by decide +kernel, by decide +kernel⟩, List.mem_of_getElem? (i := 75) (by decide +kernel), List.mem_of_getElem? (i := 314) (by decide +kernel), List.mem_of_getElem? (i := 315) (by decide +kernel)⟩
theorem lw_p21 : lw_okq (⟨"SilentAsking$Curve", "at", "(I)I"⟩, 3) := ⟨⟨by decide +kernel, by decide +kernel⟩, List.mem_of_getElem? (i := 75) (by decide +kernel), List.mem_of_getElem? (i := 318) (by decide +kernel), List.mem_of_getElem? (i := 319) (by decide +kernel)⟩
theorem lw_p22 : lw_okq (⟨"SilentAsking$Row", "countOn", "(LSilentAsking$Curve;)I"⟩, 3) := ⟨⟨by decide +kernel, by decide +kernel⟩, List.mem_of_getElem? (i := 55) (by decide +kernel), List.mem_of_getElem? (i := 327) (by decide +kernel), List.mem_of_getElem? (i := 328) (by decide +kernel)⟩
theorem lw_p23 : lw_okq (⟨"SilentAsking$Row", "isOn", "(LSilentAsking$Curve;I)Z"⟩, 3) := ⟨⟨by decide +kernel, by decide +kernel⟩, List.mem_of_getElem? (i := 55) (by decide +kernel), List.mem_of_getElem? (i := 331) (by decide +kernel), List.mem_of_getElem? (i := 332) (by decide +kernel)⟩
theorem lw_p24 : lw_okq (⟨"SilentAsking$Row", "storesOff", "(LSilentAsking$Curve;)I"⟩, 3) := ⟨⟨by decide +kernel, by decide +kernel⟩, List.mem_of_getElem? (i := 55) (by decide +kernel), List.mem_of_getElem? (i := 336) (by decide +kernel), List.mem_of_getElem? (i := 337) (by decide +kernel)⟩
theorem lw_p25 : lw_okq (⟨"SilentAsking", "refusalOfSet", "(I)I"⟩, 11) := ⟨⟨by decide +kernel, by decide +kernel⟩, List.mem_of_getElem? (i := 10) (by decide +kernel), List.mem_of_getElem? (i := 353) (by decide +kernel), List.mem_of_getElem? (i := 354) (by decide +kernel)⟩
theorem lw_p26 : lw_okq (⟨"SilentAsking$Question", "countWays", "(II)J"⟩, 8) := ⟨⟨by decide +kernel, by decide +kernel⟩, List.mem_of_getElem? (i := 20) (by decide +kernel), List.mem_of_getElem? (i := 357) (by decide +kernel), List.mem_of_getElem? (i := 358) (by decide +kernel)⟩
theorem lw_p27 : lw_okq (⟨"SilentAsking", "tellsRecordsApart", "(I)Z"⟩, 11) := ⟨⟨by decide +kernel, by decide +kernel⟩, List.mem_of_getElem? (i := 10) (by decide +kernel), List.mem_of_getElem? (i := 371) (by decide +kernel), List.mem_of_getElem? (i := 372) (by decide +kernel)⟩
theorem lw_p28 : lw_okq (⟨"SilentAsking", "firstPicks", "()I"⟩, 11) := ⟨⟨by decide +kernel, by decide +kernel⟩, List.mem_of_getElem? (i := 10) (by decide +kernel), List.mem_of_getElem? (i := 383) (by decide +kernel), List.mem_of_getElem? (i := 384) (by decide +kernel)⟩
theorem lw_p29 : lw_okq (⟨"SilentAsking", "isRecordSet", "(I)Z"⟩, 11) := ⟨⟨by decide +kernel, by decide +kernel⟩, List.mem_of_getElem? (i := 10) (by decide +kernel), List.mem_of_getElem? (i := 391) (by decide +kernel), List.mem_of_getElem? (i := 392) (by decide +kernel)⟩
theorem lw_p30 : lw_okq (⟨"SilentAsking", "toldOfSet", "(LSilentAsking$Store;I)I"⟩, 11) := ⟨⟨by decide +kernel, by decide +kernel⟩, List.mem_of_getElem? (i := 10) (by decide +kernel), List.mem_of_getElem? (i := 395) (by decide +kernel), List.mem_of_getElem? (i := 396) (by decide +kernel)⟩
theorem lw_p31 : lw_okq (⟨"SilentAsking", "trueStores", "()I"⟩, 11) := ⟨⟨by decide +kernel, by decide +kernel⟩, List.mem_of_getElem? (i := 10) (by decide +kernel), List.mem_of_getElem? (i := 407) (by decide +kernel), List.mem_of_getElem? (i := 408) (by decide +kernel)⟩
def lw_privs_2 : List (MethodName × Nat) := [(⟨"SilentAsking$Row", "add", "(II)V"⟩, 3), (⟨"SilentAsking", "liesMended", "(I)I"⟩, 11), (⟨"SilentAsking", "findCurve", "(I)Z"⟩, 11), (⟨"SilentAsking$Curve", "layThrough", "(LSilentAsking$Row;I)V"⟩, 3), (⟨"SilentAsking$Curve", "bend", "(II)V"⟩, 3), (⟨"SilentAsking$Curve", "at", "(I)I"⟩, 3), (⟨"SilentAsking$Row", "countOn", "(LSilentAsking$Curve;)I"⟩, 3), (⟨"SilentAsking$Row", "isOn", "(LSilentAsking$Curve;I)Z"⟩, 3), (⟨"SilentAsking$Row", "storesOff", "(LSilentAsking$Curve;)I"⟩, 3), (⟨"SilentAsking", "refusalOfSet", "(I)I"⟩, 11), (⟨"SilentAsking$Question", "countWays", "(II)J"⟩, 8), (⟨"SilentAsking", "tellsRecordsApart", "(I)Z"⟩, 11), (⟨"SilentAsking", "firstPicks", "()I"⟩, 11), (⟨"SilentAsking", "isRecordSet", "(I)Z"⟩, 11), (⟨"SilentAsking", "toldOfSet", "(LSilentAsking$Store;I)I"⟩, 11), (⟨"SilentAsking", "trueStores", "()I"⟩, 11)]
theorem lw_r2 : ∀ q ∈ lw_privs_2, lw_okq q := List.forall_mem_cons.mpr ⟨lw_p16, List.forall_mem_cons.mpr ⟨lw_p17, List.forall_mem_cons.mpr ⟨lw_p18, List.forall_mem_cons.mpr ⟨lw_p19, List.forall_mem_cons.mpr ⟨lw_p20, List.forall_mem_cons.mpr ⟨lw_p21, List.forall_mem_cons.mpr ⟨lw_p22, List.forall_mem_cons.mpr ⟨lw_p23, List.forall_mem_cons.mpr ⟨lw_p24, List.forall_mem_cons.mpr ⟨lw_p25, List.forall_mem_cons.mpr ⟨lw_p26, List.forall_mem_cons.mpr ⟨lw_p27, List.forall_mem_cons.mpr ⟨lw_p28, List.forall_mem_cons.mpr ⟨lw_p29, List.forall_mem_cons.mpr ⟨lw_p30, List.forall_mem_cons.mpr ⟨lw_p31, fun _ h => absurd h List.not_mem_nil⟩⟩⟩⟩⟩⟩⟩⟩⟩⟩⟩⟩⟩⟩⟩⟩
theorem lw_p32 : lw_okq (⟨"SilentAskingModel", "size", "()I"⟩, 20) := ⟨⟨by decide +kernel, by decide +kernel⟩, List.mem_of_getElem? (i := 411) (by decide +kernel), List.mem_of_getElem? (i := 487) (by decide +kernel), List.mem_of_getElem? (i := 488) (by decide +kernel)⟩
theorem lw_p33 : lw_okq (⟨"SilentAskingModel", "isRecord", "(I)Z"⟩, 20) := ⟨⟨by decide +kernel, by decide +kernel⟩, List.mem_of_getElem? (i := 411) (by decide +kernel), List.mem_of_getElem? (i := 495) (by decide +kernel), List.mem_of_getElem? (i := 496) (by decide +kernel)⟩
theorem lw_p34 : lw_okq (⟨"SilentAskingModel", "copyOf", "(II)I"⟩, 20) := ⟨⟨by decide +kernel, by decide +kernel⟩, List.mem_of_getElem? (i := 411) (by decide +kernel), List.mem_of_getElem? (i := 520) (by decide +kernel), List.mem_of_getElem? (i := 521) (by decide +kernel)⟩
theorem lw_p35 : lw_okq (⟨"SilentAskingModel", "sumOf", "(IIII)I"⟩, 20) := ⟨⟨by decide +kernel, by decide +kernel⟩, List.mem_of_getElem? (i := 411) (by decide +kernel), List.mem_of_getElem? (i := 532) (by decide +kernel), List.mem_of_getElem? (i := 533) (by decide +kernel)⟩
theorem lw_p36 : lw_okq (⟨"SilentAskingModel", "degree", "()I"⟩, 20) := ⟨⟨by decide +kernel, by decide +kernel⟩, List.mem_of_getElem? (i := 411) (by decide +kernel), List.mem_of_getElem? (i := 554) (by decide +kernel), List.mem_of_getElem? (i := 555) (by decide +kernel)⟩
theorem lw_p37 : lw_okq (⟨"SilentAskingModel", "pointOf", "(II)I"⟩, 20) := ⟨⟨by decide +kernel, by decide +kernel⟩, List.mem_of_getElem? (i := 411) (by decide +kernel), List.mem_of_getElem? (i := 566) (by decide +kernel), List.mem_of_getElem? (i := 567) (by decide +kernel)⟩
theorem lw_p38 : lw_okq (⟨"SilentAskingModel", "answerOf", "(I)I"⟩, 20) := ⟨⟨by decide +kernel, by decide +kernel⟩, List.mem_of_getElem? (i := 411) (by decide +kernel), List.mem_of_getElem? (i := 574) (by decide +kernel), List.mem_of_getElem? (i := 575) (by decide +kernel)⟩
theorem lw_p39 : lw_okq (⟨"SilentAskingModel", "hear", "(I)V"⟩, 20) := ⟨⟨by decide +kernel, by decide +kernel⟩, List.mem_of_getElem? (i := 411) (by decide +kernel), List.mem_of_getElem? (i := 587) (by decide +kernel), List.mem_of_getElem? (i := 588) (by decide +kernel)⟩
theorem lw_p40 : lw_okq (⟨"SilentAskingModel", "first", "()V"⟩, 20) := ⟨⟨by decide +kernel, by decide +kernel⟩, List.mem_of_getElem? (i := 411) (by decide +kernel), List.mem_of_getElem? (i := 591) (by decide +kernel), List.mem_of_getElem? (i := 592) (by decide +kernel)⟩
theorem lw_p41 : lw_okq (⟨"SilentAskingModel", "onCurve", "()I"⟩, 20) := ⟨⟨by decide +kernel, by decide +kernel⟩, List.mem_of_getElem? (i := 411) (by decide +kernel), List.mem_of_getElem? (i := 595) (by decide +kernel), List.mem_of_getElem? (i := 596) (by decide +kernel)⟩
theorem lw_p42 : lw_okq (⟨"SilentAskingModel", "curveAt", "(I)I"⟩, 20) := ⟨⟨by decide +kernel, by decide +kernel⟩, List.mem_of_getElem? (i := 411) (by decide +kernel), List.mem_of_getElem? (i := 599) (by decide +kernel), List.mem_of_getElem? (i := 600) (by decide +kernel)⟩
theorem lw_p43 : lw_okq (⟨"SilentAskingModel", "choose", "()Z"⟩, 20) := ⟨⟨by decide +kernel, by decide +kernel⟩, List.mem_of_getElem? (i := 411) (by decide +kernel), List.mem_of_getElem? (i := 606) (by decide +kernel), List.mem_of_getElem? (i := 607) (by decide +kernel)⟩
theorem lw_p44 : lw_okq (⟨"SilentAskingModel", "waysFor", "(II)J"⟩, 20) := ⟨⟨by decide +kernel, by decide +kernel⟩, List.mem_of_getElem? (i := 411) (by decide +kernel), List.mem_of_getElem? (i := 629) (by decide +kernel), List.mem_of_getElem? (i := 630) (by decide +kernel)⟩
theorem lw_p45 : lw_okq (⟨"SilentAskingModel", "waysOf", "(III)I"⟩, 20) := ⟨⟨by decide +kernel, by decide +kernel⟩, List.mem_of_getElem? (i := 411) (by decide +kernel), List.mem_of_getElem? (i := 633) (by decide +kernel), List.mem_of_getElem? (i := 634) (by decide +kernel)⟩
theorem lw_p46 : lw_okq (⟨"SilentAskingModel", "learnsOf", "(I)Z"⟩, 20) := ⟨⟨by decide +kernel, by decide +kernel⟩, List.mem_of_getElem? (i := 411) (by decide +kernel), List.mem_of_getElem? (i := 645) (by decide +kernel), List.mem_of_getElem? (i := 646) (by decide +kernel)⟩
theorem lw_p47 : lw_okq (⟨"SilentAskingModel", "isSum", "(I)Z"⟩, 20) := ⟨⟨by decide +kernel, by decide +kernel⟩, List.mem_of_getElem? (i := 411) (by decide +kernel), List.mem_of_getElem? (i := 661) (by decide +kernel), List.mem_of_getElem? (i := 662) (by decide +kernel)⟩
def lw_privs_3 : List (MethodName × Nat) := [(⟨"SilentAskingModel", "size", "()I"⟩, 20), (⟨"SilentAskingModel", "isRecord", "(I)Z"⟩, 20), (⟨"SilentAskingModel", "copyOf", "(II)I"⟩, 20), (⟨"SilentAskingModel", "sumOf", "(IIII)I"⟩, 20), (⟨"SilentAskingModel", "degree", "()I"⟩, 20), (⟨"SilentAskingModel", "pointOf", "(II)I"⟩, 20), (⟨"SilentAskingModel", "answerOf", "(I)I"⟩, 20), (⟨"SilentAskingModel", "hear", "(I)V"⟩, 20), (⟨"SilentAskingModel", "first", "()V"⟩, 20), (⟨"SilentAskingModel", "onCurve", "()I"⟩, 20), (⟨"SilentAskingModel", "curveAt", "(I)I"⟩, 20), (⟨"SilentAskingModel", "choose", "()Z"⟩, 20), (⟨"SilentAskingModel", "waysFor", "(II)J"⟩, 20), (⟨"SilentAskingModel", "waysOf", "(III)I"⟩, 20), (⟨"SilentAskingModel", "learnsOf", "(I)Z"⟩, 20), (⟨"SilentAskingModel", "isSum", "(I)Z"⟩, 20)]
theorem lw_r3 : ∀ q ∈ lw_privs_3, lw_okq q := List.forall_mem_cons.mpr ⟨lw_p32, List.forall_mem_cons.mpr ⟨lw_p33, List.forall_mem_cons.mpr ⟨lw_p34, List.forall_mem_cons.mpr ⟨lw_p35, List.forall_mem_cons.mpr ⟨lw_p36, List.forall_mem_cons.mpr ⟨lw_p37, List.forall_mem_cons.mpr ⟨lw_p38, List.forall_mem_cons.mpr ⟨lw_p39, List.forall_mem_cons.mpr ⟨lw_p40, List.forall_mem_cons.mpr ⟨lw_p41, List.forall_mem_cons.mpr ⟨lw_p42, List.forall_mem_cons.mpr ⟨lw_p43, List.forall_mem_cons.mpr ⟨lw_p44, List.forall_mem_cons.mpr ⟨lw_p45, List.forall_mem_cons.mpr ⟨lw_p46, List.forall_mem_cons.mpr ⟨lw_p47, fun _ h => absurd h List.not_mem_nil⟩⟩⟩⟩⟩⟩⟩⟩⟩⟩⟩⟩⟩⟩⟩⟩
theorem lw_p48 : lw_okq (⟨"SilentAskingModel", "bothOf", "(II)I"⟩, 20) := ⟨⟨by decide +kernel, by decide +kernel⟩, List.mem_of_getElem? (i := 411) (by decide +kernel), List.mem_of_getElem? (i := 665) (by decide +kernel), List.mem_of_getElem? (i := 666) (by decide +kernel)⟩
def lw_privs_4 : List (MethodName × Nat) := [(⟨"SilentAskingModel", "bothOf", "(II)I"⟩, 20)]
theorem lw_r4 : ∀ q ∈ lw_privs_4, lw_okq q := List.forall_mem_cons.mpr ⟨lw_p48, fun _ h => absurd h List.not_mem_nil⟩
def lw_privs : List (MethodName × Nat) := lw_privs_1 ++ (lw_privs_2 ++ (lw_privs_3 ++ (lw_privs_4)))
def lw_tbl : List Cond := k2_sels lw_privs ++ tables_1
theorem lw_privs_ok : ∀ q ∈ lw_privs, lw_okq q := by
  show ∀ q ∈ lw_privs_1 ++ (lw_privs_2 ++ (lw_privs_3 ++ (lw_privs_4))), lw_okq q
  exact List.forall_mem_append.mpr ⟨lw_r1, List.forall_mem_append.mpr ⟨lw_r2, List.forall_mem_append.mpr ⟨lw_r3, lw_r4⟩⟩⟩
end
section
/-! names, fields: out of claim/NAMES.whole.lean.txt -/
def RX0 : String := "SilentAsking$Curve"
def TX0 : u_T := fun k => match k with
  | 0 => ("SilentAsking$Curve", "through", "[I", true)
  | 1 => ("SilentAsking$Curve", "factors", "[I", true)
  | _ => ("SilentAsking$Curve", "size", "I", false)
def tyX0 : Nat → FieldType := fun k => match k with
  | 0 => .array .int
  | 1 => .array .int
  | _ => .int
abbrev wsX00 : List Cond := u_ws RX0 TX0 3
theorem nmX0 : ∀ a, a < 3 → ∀ b, b < 3 → a ≠ b → (TX0 a).2.1 ≠ (TX0 b).2.1 := by decide +kernel
theorem tyX0_ok : ∀ k, k < 3 → parseFieldDescriptor (TX0 k).2.2.1 = some (tyX0 k) := by decide +kernel
abbrev cX0_init : ByteArray := prog_2_method_1_code
def yX0_init : MethodName := ⟨RX0, "<init>", "()V"⟩
abbrev cX0_layThrough : ByteArray := prog_2_method_2_code
def yX0_layThrough : MethodName := ⟨RX0, "layThrough", "(LSilentAsking$Row;I)V"⟩
abbrev cX0_bend : ByteArray := prog_2_method_3_code
def yX0_bend : MethodName := ⟨RX0, "bend", "(II)V"⟩
abbrev cX0_at : ByteArray := prog_2_method_4_code
def yX0_at : MethodName := ⟨RX0, "at", "(I)I"⟩
def RX1 : String := "SilentAsking$Question"
def TX1 : u_T := fun k => match k with
  | 0 => ("SilentAsking$Question", "lots", "[I", true)
  | 1 => ("SilentAsking$Question", "veils", "[I", true)
  | 2 => ("SilentAsking$Question", "asked", "Z", false)
  | 3 => ("SilentAsking$Question", "veiled", "Z", false)
  | 4 => ("SilentAsking$Question", "wanted", "I", false)
  | 5 => ("SilentAsking$Question", "keptFrom", "I", false)
  | 6 => ("SilentAsking$Question", "bits", "I", false)
  | _ => ("SilentAsking$Question", "degree", "I", false)
def tyX1 : Nat → FieldType := fun k => match k with
  | 0 => .array .int
  | 1 => .array .int
  | 2 => .boolean
  | 3 => .boolean
  | 4 => .int
  | 5 => .int
  | 6 => .int
  | _ => .int
abbrev wsX10 : List Cond := u_ws RX1 TX1 8
theorem nmX1 : ∀ a, a < 8 → ∀ b, b < 8 → a ≠ b → (TX1 a).2.1 ≠ (TX1 b).2.1 := by decide +kernel
theorem tyX1_ok : ∀ k, k < 8 → parseFieldDescriptor (TX1 k).2.2.1 = some (tyX1 k) := by decide +kernel
abbrev cX1_init : ByteArray := prog_3_method_1_code
def yX1_init : MethodName := ⟨RX1, "<init>", "()V"⟩
abbrev cX1_begin : ByteArray := prog_3_method_2_code
def yX1_begin : MethodName := ⟨RX1, "begin", "(IIII)V"⟩
abbrev cX1_veilBy : ByteArray := prog_3_method_3_code
def yX1_veilBy : MethodName := ⟨RX1, "veilBy", "(I)V"⟩
abbrev cX1_drawLots : ByteArray := prog_3_method_4_code
def yX1_drawLots : MethodName := ⟨RX1, "drawLots", "([II)V"⟩
abbrev cX1_pointNumber : ByteArray := prog_3_method_5_code
def yX1_pointNumber : MethodName := ⟨RX1, "pointNumber", "(II)I"⟩
abbrev cX1_veilAt : ByteArray := prog_3_method_6_code
def yX1_veilAt : MethodName := ⟨RX1, "veilAt", "(I)I"⟩
abbrev cX1_risen : ByteArray := prog_3_method_7_code
def yX1_risen : MethodName := ⟨RX1, "risen", "([IIII)I"⟩
abbrev cX1_countWays : ByteArray := prog_3_method_8_code
def yX1_countWays : MethodName := ⟨RX1, "countWays", "(II)J"⟩
def RX2 : String := "SilentAsking$Row"
def TX2 : u_T := fun k => match k with
  | 0 => ("SilentAsking$Row", "who", "[I", true)
  | 1 => ("SilentAsking$Row", "told", "[I", true)
  | _ => ("SilentAsking$Row", "size", "I", false)
def tyX2 : Nat → FieldType := fun k => match k with
  | 0 => .array .int
  | 1 => .array .int
  | _ => .int
abbrev wsX20 : List Cond := u_ws RX2 TX2 3
theorem nmX2 : ∀ a, a < 3 → ∀ b, b < 3 → a ≠ b → (TX2 a).2.1 ≠ (TX2 b).2.1 := by decide +kernel
theorem tyX2_ok : ∀ k, k < 3 → parseFieldDescriptor (TX2 k).2.2.1 = some (tyX2 k) := by decide +kernel
abbrev cX2_init : ByteArray := prog_4_method_1_code
def yX2_init : MethodName := ⟨RX2, "<init>", "()V"⟩
abbrev cX2_add : ByteArray := prog_4_method_2_code
def yX2_add : MethodName := ⟨RX2, "add", "(II)V"⟩
abbrev cX2_isOn : ByteArray := prog_4_method_3_code
def yX2_isOn : MethodName := ⟨RX2, "isOn", "(LSilentAsking$Curve;I)Z"⟩
abbrev cX2_countOn : ByteArray := prog_4_method_4_code
def yX2_countOn : MethodName := ⟨RX2, "countOn", "(LSilentAsking$Curve;)I"⟩
abbrev cX2_storesOff : ByteArray := prog_4_method_5_code
def yX2_storesOff : MethodName := ⟨RX2, "storesOff", "(LSilentAsking$Curve;)I"⟩
def RX3 : String := "SilentAsking$Store"
def TX3 : u_T := fun k => match k with
  | 0 => ("SilentAsking$Store", "kept", "[I", true)
  | 1 => ("SilentAsking$Store", "kind", "I", false)
  | _ => ("SilentAsking$Store", "lie", "I", false)
def tyX3 : Nat → FieldType := fun k => match k with
  | 0 => .array .int
  | 1 => .int
  | _ => .int
abbrev wsX30 : List Cond := u_ws RX3 TX3 3
theorem nmX3 : ∀ a, a < 3 → ∀ b, b < 3 → a ≠ b → (TX3 a).2.1 ≠ (TX3 b).2.1 := by decide +kernel
theorem tyX3_ok : ∀ k, k < 3 → parseFieldDescriptor (TX3 k).2.2.1 = some (tyX3 k) := by decide +kernel
abbrev cX3_init : ByteArray := prog_5_method_1_code
def yX3_init : MethodName := ⟨RX3, "<init>", "()V"⟩
abbrev cX3_become : ByteArray := prog_5_method_2_code
def yX3_become : MethodName := ⟨RX3, "become", "(II[I)V"⟩
abbrev cX3_held : ByteArray := prog_5_method_3_code
def yX3_held : MethodName := ⟨RX3, "held", "([I)[I"⟩
def RX4 : String := "SilentAsking"
def TX4 : u_T := fun k => match k with
  | 0 => ("SilentAsking", "numbers", "[I", true)
  | 1 => ("SilentAsking", "place", "[I", true)
  | 2 => ("SilentAsking", "stores", "[LSilentAsking$Store;", true)
  | 3 => ("SilentAsking", "question", "LSilentAsking$Question;", true)
  | 4 => ("SilentAsking", "row", "LSilentAsking$Row;", true)
  | 5 => ("SilentAsking", "curve", "LSilentAsking$Curve;", true)
  | 6 => ("SilentAsking", "bits", "I", false)
  | 7 => ("SilentAsking", "caughtSet", "I", false)
  | 8 => ("SilentAsking", "wordsUp", "I", false)
  | 9 => ("SilentAsking", "wordsDown", "I", false)
  | _ => ("SilentAsking", "questions", "I", false)
def tyX4 : Nat → FieldType := fun k => match k with
  | 0 => .array .int
  | 1 => .array .int
  | 2 => .array (.object "SilentAsking$Store")
  | 3 => .object "SilentAsking$Question"
  | 4 => .object "SilentAsking$Row"
  | 5 => .object "SilentAsking$Curve"
  | 6 => .int
  | 7 => .int
  | 8 => .int
  | 9 => .int
  | _ => .int
abbrev wsX40 : List Cond := u_ws RX4 TX4 11
theorem nmX4 : ∀ a, a < 11 → ∀ b, b < 11 → a ≠ b → (TX4 a).2.1 ≠ (TX4 b).2.1 := by decide +kernel
theorem tyX4_ok : ∀ k, k < 11 → parseFieldDescriptor (TX4 k).2.2.1 = some (tyX4 k) := by decide +kernel
abbrev cX4_init : ByteArray := prog_1_method_1_code
def yX4_init : MethodName := ⟨RX4, "<init>", "()V"⟩
abbrev cX4_records : ByteArray := prog_1_method_2_code
def yX4_records : MethodName := ⟨RX4, "records", "(I)I"⟩
abbrev cX4_put : ByteArray := prog_1_method_3_code
def yX4_put : MethodName := ⟨RX4, "put", "(II)I"⟩
abbrev cX4_record : ByteArray := prog_1_method_4_code
def yX4_record : MethodName := ⟨RX4, "record", "(I)I"⟩
abbrev cX4_store : ByteArray := prog_1_method_5_code
def yX4_store : MethodName := ⟨RX4, "store", "(III)I"⟩
abbrev cX4_taken : ByteArray := prog_1_method_6_code
def yX4_taken : MethodName := ⟨RX4, "taken", "(III)I"⟩
abbrev cX4_copy : ByteArray := prog_1_method_7_code
def yX4_copy : MethodName := ⟨RX4, "copy", "(II)I"⟩
abbrev cX4_sum : ByteArray := prog_1_method_8_code
def yX4_sum : MethodName := ⟨RX4, "sum", "(III)I"⟩
abbrev cX4_ask : ByteArray := prog_1_method_9_code
def yX4_ask : MethodName := ⟨RX4, "ask", "(III)I"⟩
abbrev cX4_veil : ByteArray := prog_1_method_10_code
def yX4_veil : MethodName := ⟨RX4, "veil", "(I)I"⟩
abbrev cX4_point : ByteArray := prog_1_method_11_code
def yX4_point : MethodName := ⟨RX4, "point", "(II)I"⟩
abbrev cX4_answer : ByteArray := prog_1_method_12_code
def yX4_answer : MethodName := ⟨RX4, "answer", "(I)I"⟩
abbrev cX4_needed : ByteArray := prog_1_method_13_code
def yX4_needed : MethodName := ⟨RX4, "needed", "(III)I"⟩
abbrev cX4_fetch : ByteArray := prog_1_method_14_code
def yX4_fetch : MethodName := ⟨RX4, "fetch", "(I)I"⟩
abbrev cX4_caught : ByteArray := prog_1_method_15_code
def yX4_caught : MethodName := ⟨RX4, "caught", "(I)I"⟩
abbrev cX4_mends : ByteArray := prog_1_method_16_code
def yX4_mends : MethodName := ⟨RX4, "mends", "(I)I"⟩
abbrev cX4_ways : ByteArray := prog_1_method_17_code
def yX4_ways : MethodName := ⟨RX4, "ways", "(II)J"⟩
abbrev cX4_might : ByteArray := prog_1_method_18_code
def yX4_might : MethodName := ⟨RX4, "might", "(I)I"⟩
abbrev cX4_learns : ByteArray := prog_1_method_19_code
def yX4_learns : MethodName := ⟨RX4, "learns", "(I)I"⟩
abbrev cX4_least : ByteArray := prog_1_method_20_code
def yX4_least : MethodName := ⟨RX4, "least", "()I"⟩
abbrev cX4_fits : ByteArray := prog_1_method_21_code
def yX4_fits : MethodName := ⟨RX4, "fits", "(II)I"⟩
abbrev cX4_both : ByteArray := prog_1_method_22_code
def yX4_both : MethodName := ⟨RX4, "both", "(II)I"⟩
abbrev cX4_pair : ByteArray := prog_1_method_23_code
def yX4_pair : MethodName := ⟨RX4, "pair", "(IIII)I"⟩
abbrev cX4_total : ByteArray := prog_1_method_24_code
def yX4_total : MethodName := ⟨RX4, "total", "(I)I"⟩
abbrev cX4_count : ByteArray := prog_1_method_25_code
def yX4_count : MethodName := ⟨RX4, "count", "()I"⟩
abbrev cX4_isRecord : ByteArray := prog_1_method_26_code
def yX4_isRecord : MethodName := ⟨RX4, "isRecord", "(I)Z"⟩
abbrev cX4_isRecordSet : ByteArray := prog_1_method_27_code
def yX4_isRecordSet : MethodName := ⟨RX4, "isRecordSet", "(I)Z"⟩
abbrev cX4_isStore : ByteArray := prog_1_method_28_code
def yX4_isStore : MethodName := ⟨RX4, "isStore", "(I)Z"⟩
abbrev cX4_isNumber : ByteArray := prog_1_method_29_code
def yX4_isNumber : MethodName := ⟨RX4, "isNumber", "(I)Z"⟩
abbrev cX4_isKind : ByteArray := prog_1_method_30_code
def yX4_isKind : MethodName := ⟨RX4, "isKind", "(I)Z"⟩
abbrev cX4_isLie : ByteArray := prog_1_method_31_code
def yX4_isLie : MethodName := ⟨RX4, "isLie", "(I)Z"⟩
abbrev cX4_isKeptFrom : ByteArray := prog_1_method_32_code
def yX4_isKeptFrom : MethodName := ⟨RX4, "isKeptFrom", "(I)Z"⟩
abbrev cX4_isSeed : ByteArray := prog_1_method_33_code
def yX4_isSeed : MethodName := ⟨RX4, "isSeed", "(I)Z"⟩
abbrev cX4_refusalOfFetch : ByteArray := prog_1_method_34_code
def yX4_refusalOfFetch : MethodName := ⟨RX4, "refusalOfFetch", "(I)I"⟩
abbrev cX4_refusalOfSet : ByteArray := prog_1_method_35_code
def yX4_refusalOfSet : MethodName := ⟨RX4, "refusalOfSet", "(I)I"⟩
abbrev cX4_storeOf : ByteArray := prog_1_method_36_code
def yX4_storeOf : MethodName := ⟨RX4, "storeOf", "(I)LSilentAsking$Store;"⟩
abbrev cX4_trueStores : ByteArray := prog_1_method_37_code
def yX4_trueStores : MethodName := ⟨RX4, "trueStores", "()I"⟩
abbrev cX4_tellingStores : ByteArray := prog_1_method_38_code
def yX4_tellingStores : MethodName := ⟨RX4, "tellingStores", "(I)I"⟩
abbrev cX4_copied : ByteArray := prog_1_method_39_code
def yX4_copied : MethodName := ⟨RX4, "copied", "(LSilentAsking$Store;I)I"⟩
abbrev cX4_toldBy : ByteArray := prog_1_method_40_code
def yX4_toldBy : MethodName := ⟨RX4, "toldBy", "(I)I"⟩
abbrev cX4_toldOfSet : ByteArray := prog_1_method_41_code
def yX4_toldOfSet : MethodName := ⟨RX4, "toldOfSet", "(LSilentAsking$Store;I)I"⟩
abbrev cX4_sumAtPlace : ByteArray := prog_1_method_42_code
def yX4_sumAtPlace : MethodName := ⟨RX4, "sumAtPlace", "([I)I"⟩
abbrev cX4_bit : ByteArray := prog_1_method_43_code
def yX4_bit : MethodName := ⟨RX4, "bit", "(II)I"⟩
abbrev cX4_inverse : ByteArray := prog_1_method_44_code
def yX4_inverse : MethodName := ⟨RX4, "inverse", "(I)I"⟩
abbrev cX4_hearStores : ByteArray := prog_1_method_45_code
def yX4_hearStores : MethodName := ⟨RX4, "hearStores", "(I)V"⟩
abbrev cX4_liesMended : ByteArray := prog_1_method_46_code
def yX4_liesMended : MethodName := ⟨RX4, "liesMended", "(I)I"⟩
abbrev cX4_findCurve : ByteArray := prog_1_method_47_code
def yX4_findCurve : MethodName := ⟨RX4, "findCurve", "(I)Z"⟩
abbrev cX4_firstPicks : ByteArray := prog_1_method_48_code
def yX4_firstPicks : MethodName := ⟨RX4, "firstPicks", "()I"⟩
abbrev cX4_tellsRecordsApart : ByteArray := prog_1_method_49_code
def yX4_tellsRecordsApart : MethodName := ⟨RX4, "tellsRecordsApart", "(I)Z"⟩
def RX5 : String := "SilentAskingModel"
def TX5 : u_T := fun k => match k with
  | 0 => ("SilentAskingModel", "thrown", "I", false)
  | 1 => ("SilentAskingModel", "digits", "I", false)
  | 2 => ("SilentAskingModel", "record", "[I", true)
  | 3 => ("SilentAskingModel", "kind", "[I", true)
  | 4 => ("SilentAskingModel", "lie", "[I", true)
  | 5 => ("SilentAskingModel", "stale", "[I", true)
  | 6 => ("SilentAskingModel", "isAsked", "Z", false)
  | 7 => ("SilentAskingModel", "wanted", "I", false)
  | 8 => ("SilentAskingModel", "apart", "I", false)
  | 9 => ("SilentAskingModel", "lot", "[I", true)
  | 10 => ("SilentAskingModel", "isVeiled", "Z", false)
  | 11 => ("SilentAskingModel", "veil", "[I", true)
  | 12 => ("SilentAskingModel", "isCaught", "[Z", true)
  | 13 => ("SilentAskingModel", "up", "I", false)
  | 14 => ("SilentAskingModel", "down", "I", false)
  | 15 => ("SilentAskingModel", "questions", "I", false)
  | 16 => ("SilentAskingModel", "many", "I", false)
  | 17 => ("SilentAskingModel", "who", "[I", true)
  | 18 => ("SilentAskingModel", "told", "[I", true)
  | _ => ("SilentAskingModel", "chosen", "[I", true)
def tyX5 : Nat → FieldType := fun k => match k with
  | 0 => .int
  | 1 => .int
  | 2 => .array .int
  | 3 => .array .int
  | 4 => .array .int
  | 5 => .array .int
  | 6 => .boolean
  | 7 => .int
  | 8 => .int
  | 9 => .array .int
  | 10 => .boolean
  | 11 => .array .int
  | 12 => .array .boolean
  | 13 => .int
  | 14 => .int
  | 15 => .int
  | 16 => .int
  | 17 => .array .int
  | 18 => .array .int
  | _ => .array .int
abbrev wsX50 : List Cond := u_ws RX5 TX5 20
theorem nmX5 : ∀ a, a < 20 → ∀ b, b < 20 → a ≠ b → (TX5 a).2.1 ≠ (TX5 b).2.1 := by decide +kernel
theorem tyX5_ok : ∀ k, k < 20 → parseFieldDescriptor (TX5 k).2.2.1 = some (tyX5 k) := by decide +kernel
abbrev cX5_init : ByteArray := prog_7_method_1_code
def yX5_init : MethodName := ⟨RX5, "<init>", "()V"⟩
abbrev cX5_in : ByteArray := prog_7_method_3_code
def yX5_in : MethodName := ⟨RX5, "in", "(JJJ)Z"⟩
abbrev cX5_mod : ByteArray := prog_7_method_4_code
def yX5_mod : MethodName := ⟨RX5, "mod", "(I)I"⟩
abbrev cX5_inverse : ByteArray := prog_7_method_5_code
def yX5_inverse : MethodName := ⟨RX5, "inverse", "(I)I"⟩
abbrev cX5_size : ByteArray := prog_7_method_6_code
def yX5_size : MethodName := ⟨RX5, "size", "()I"⟩
abbrev cX5_degree : ByteArray := prog_7_method_7_code
def yX5_degree : MethodName := ⟨RX5, "degree", "()I"⟩
abbrev cX5_isStore : ByteArray := prog_7_method_8_code
def yX5_isStore : MethodName := ⟨RX5, "isStore", "(I)Z"⟩
abbrev cX5_isRecord : ByteArray := prog_7_method_9_code
def yX5_isRecord : MethodName := ⟨RX5, "isRecord", "(I)Z"⟩
abbrev cX5_isNumber : ByteArray := prog_7_method_10_code
def yX5_isNumber : MethodName := ⟨RX5, "isNumber", "(I)Z"⟩
abbrev cX5_copyOf : ByteArray := prog_7_method_11_code
def yX5_copyOf : MethodName := ⟨RX5, "copyOf", "(II)I"⟩
abbrev cX5_sumOf : ByteArray := prog_7_method_12_code
def yX5_sumOf : MethodName := ⟨RX5, "sumOf", "(IIII)I"⟩
abbrev cX5_pointOf : ByteArray := prog_7_method_13_code
def yX5_pointOf : MethodName := ⟨RX5, "pointOf", "(II)I"⟩
abbrev cX5_answerOf : ByteArray := prog_7_method_14_code
def yX5_answerOf : MethodName := ⟨RX5, "answerOf", "(I)I"⟩
abbrev cX5_records : ByteArray := prog_7_method_15_code
def yX5_records : MethodName := ⟨RX5, "records", "(I)I"⟩
abbrev cX5_put : ByteArray := prog_7_method_16_code
def yX5_put : MethodName := ⟨RX5, "put", "(II)I"⟩
abbrev cX5_record : ByteArray := prog_7_method_17_code
def yX5_record : MethodName := ⟨RX5, "record", "(I)I"⟩
abbrev cX5_store : ByteArray := prog_7_method_18_code
def yX5_store : MethodName := ⟨RX5, "store", "(III)I"⟩
abbrev cX5_taken : ByteArray := prog_7_method_19_code
def yX5_taken : MethodName := ⟨RX5, "taken", "(III)I"⟩
abbrev cX5_copy : ByteArray := prog_7_method_20_code
def yX5_copy : MethodName := ⟨RX5, "copy", "(II)I"⟩
abbrev cX5_sum : ByteArray := prog_7_method_21_code
def yX5_sum : MethodName := ⟨RX5, "sum", "(III)I"⟩
abbrev cX5_next : ByteArray := prog_7_method_22_code
def yX5_next : MethodName := ⟨RX5, "next", "(J)J"⟩
abbrev cX5_lotOf : ByteArray := prog_7_method_23_code
def yX5_lotOf : MethodName := ⟨RX5, "lotOf", "(J)I"⟩
abbrev cX5_ask : ByteArray := prog_7_method_24_code
def yX5_ask : MethodName := ⟨RX5, "ask", "(III)I"⟩
abbrev cX5_veil : ByteArray := prog_7_method_25_code
def yX5_veil : MethodName := ⟨RX5, "veil", "(I)I"⟩
abbrev cX5_point : ByteArray := prog_7_method_26_code
def yX5_point : MethodName := ⟨RX5, "point", "(II)I"⟩
abbrev cX5_answer : ByteArray := prog_7_method_27_code
def yX5_answer : MethodName := ⟨RX5, "answer", "(I)I"⟩
abbrev cX5_needed : ByteArray := prog_7_method_28_code
def yX5_needed : MethodName := ⟨RX5, "needed", "(III)I"⟩
abbrev cX5_hear : ByteArray := prog_7_method_29_code
def yX5_hear : MethodName := ⟨RX5, "hear", "(I)V"⟩
abbrev cX5_curveAt : ByteArray := prog_7_method_30_code
def yX5_curveAt : MethodName := ⟨RX5, "curveAt", "(I)I"⟩
abbrev cX5_onCurve : ByteArray := prog_7_method_31_code
def yX5_onCurve : MethodName := ⟨RX5, "onCurve", "()I"⟩
abbrev cX5_choose : ByteArray := prog_7_method_32_code
def yX5_choose : MethodName := ⟨RX5, "choose", "()Z"⟩
abbrev cX5_first : ByteArray := prog_7_method_33_code
def yX5_first : MethodName := ⟨RX5, "first", "()V"⟩
abbrev cX5_fetch : ByteArray := prog_7_method_34_code
def yX5_fetch : MethodName := ⟨RX5, "fetch", "(I)I"⟩
abbrev cX5_caught : ByteArray := prog_7_method_35_code
def yX5_caught : MethodName := ⟨RX5, "caught", "(I)I"⟩
abbrev cX5_mends : ByteArray := prog_7_method_36_code
def yX5_mends : MethodName := ⟨RX5, "mends", "(I)I"⟩
abbrev cX5_isSet : ByteArray := prog_7_method_37_code
def yX5_isSet : MethodName := ⟨RX5, "isSet", "(I)Z"⟩
abbrev cX5_waysOf : ByteArray := prog_7_method_38_code
def yX5_waysOf : MethodName := ⟨RX5, "waysOf", "(III)I"⟩
abbrev cX5_waysFor : ByteArray := prog_7_method_39_code
def yX5_waysFor : MethodName := ⟨RX5, "waysFor", "(II)J"⟩
abbrev cX5_ways : ByteArray := prog_7_method_40_code
def yX5_ways : MethodName := ⟨RX5, "ways", "(II)J"⟩
abbrev cX5_might : ByteArray := prog_7_method_41_code
def yX5_might : MethodName := ⟨RX5, "might", "(I)I"⟩
abbrev cX5_learnsOf : ByteArray := prog_7_method_42_code
def yX5_learnsOf : MethodName := ⟨RX5, "learnsOf", "(I)Z"⟩
abbrev cX5_learns : ByteArray := prog_7_method_43_code
def yX5_learns : MethodName := ⟨RX5, "learns", "(I)I"⟩
abbrev cX5_least : ByteArray := prog_7_method_44_code
def yX5_least : MethodName := ⟨RX5, "least", "()I"⟩
abbrev cX5_fits : ByteArray := prog_7_method_45_code
def yX5_fits : MethodName := ⟨RX5, "fits", "(II)I"⟩
abbrev cX5_isSum : ByteArray := prog_7_method_46_code
def yX5_isSum : MethodName := ⟨RX5, "isSum", "(I)Z"⟩
abbrev cX5_bothOf : ByteArray := prog_7_method_47_code
def yX5_bothOf : MethodName := ⟨RX5, "bothOf", "(II)I"⟩
abbrev cX5_both : ByteArray := prog_7_method_48_code
def yX5_both : MethodName := ⟨RX5, "both", "(II)I"⟩
abbrev cX5_pair : ByteArray := prog_7_method_49_code
def yX5_pair : MethodName := ⟨RX5, "pair", "(IIII)I"⟩
abbrev cX5_total : ByteArray := prog_7_method_50_code
def yX5_total : MethodName := ⟨RX5, "total", "(I)I"⟩
def RJ6 : String := "java/lang/Integer"
def TJ6 : u_T := fun k => match k with
  | _ => ("", "", "", false)
def tyJ6 : Nat → FieldType := fun k => match k with
  | _ => .int
abbrev wsJ60 : List Cond := u_ws RJ6 TJ6 0
theorem nmJ6 : ∀ a, a < 0 → ∀ b, b < 0 → a ≠ b → (TJ6 a).2.1 ≠ (TJ6 b).2.1 := by decide +kernel
theorem tyJ6_ok : ∀ k, k < 0 → parseFieldDescriptor (TJ6 k).2.2.1 = some (tyJ6 k) := by decide +kernel
abbrev cJ6_bitCount_0f7a4 : ByteArray := prog_8_method_49_code
def yJ6_bitCount_0f7a4 : MethodName := ⟨RJ6, "bitCount", "(I)I"⟩
def RJ10 : String := "java/lang/System"
def TJ10 : u_T := fun k => match k with
  | _ => ("", "", "", false)
def tyJ10 : Nat → FieldType := fun k => match k with
  | _ => .int
abbrev wsJ100 : List Cond := u_ws RJ10 TJ10 0
theorem nmJ10 : ∀ a, a < 0 → ∀ b, b < 0 → a ≠ b → (TJ10 a).2.1 ≠ (TJ10 b).2.1 := by decide +kernel
theorem tyJ10_ok : ∀ k, k < 0 → parseFieldDescriptor (TJ10 k).2.2.1 = some (tyJ10 k) := by decide +kernel
def RL : String := "SilentAskingLaw"
abbrev cL_law : ByteArray := code
def yL_law : MethodName := ⟨RL, "law", "([I)Z"⟩
abbrev vwCl : List vw_C := [(RX0, TX0, 3), (RX1, TX1, 8), (RX2, TX2, 3), (RX3, TX3, 3), (RX4, TX4, 11), (RX5, TX5, 20)]
/-- words by their places in the tables -/
theorem tb_in {ws : List Cond} (ps : List Nat) (h : ws = ps.filterMap (fun i => lw_tbl[i]?)) (hg : ws.all goodWord = true) : ∀ w ∈ ws, w ∈ lw_tbl.filter goodWord := by
  intro w hw
  have hg1 := List.all_eq_true.mp hg w hw
  rw [h] at hw
  obtain ⟨i, -, hi⟩ := List.mem_filterMap.mp hw
  exact List.mem_filter.mpr ⟨List.mem_of_getElem? hi, hg1⟩
theorem tb_w {w : Cond} (i : Nat) (h : lw_tbl[i]? = some w) (hg : goodWord w = true) : w ∈ lw_tbl.filter goodWord := List.mem_filter.mpr ⟨List.mem_of_getElem? h, hg⟩
set_option maxRecDepth 20000 in
theorem inX0 : ∀ w ∈ u_ws RX0 TX0 3, w ∈ lw_tbl.filter goodWord := tb_in [132, 134, 136] (by decide +kernel) (by decide +kernel)
set_option maxRecDepth 20000 in
theorem inX1 : ∀ w ∈ u_ws RX1 TX1 8, w ∈ lw_tbl.filter goodWord := tb_in [85, 87, 89, 91, 93, 95, 97, 99] (by decide +kernel) (by decide +kernel)
set_option maxRecDepth 20000 in
theorem inX2 : ∀ w ∈ u_ws RX2 TX2 3, w ∈ lw_tbl.filter goodWord := tb_in [116, 118, 120] (by decide +kernel) (by decide +kernel)
set_option maxRecDepth 20000 in
theorem inX3 : ∀ w ∈ u_ws RX3 TX3 3, w ∈ lw_tbl.filter goodWord := tb_in [149, 151, 153] (by decide +kernel) (by decide +kernel)
set_option maxRecDepth 20000 in
theorem inX4 : ∀ w ∈ u_ws RX4 TX4 11, w ∈ lw_tbl.filter goodWord := tb_in [167, 169, 171, 173, 175, 177, 179, 181, 183, 185, 187] (by decide +kernel) (by decide +kernel)
set_option maxRecDepth 20000 in
theorem inX5 : ∀ w ∈ u_ws RX5 TX5 20, w ∈ lw_tbl.filter goodWord := tb_in [485, 487, 489, 491, 493, 495, 497, 499, 501, 503, 505, 507, 509, 511, 513, 515, 517, 519, 521, 523] (by decide +kernel) (by decide +kernel)
end
section
/-! decode rows -/
theorem dX0_init_0 : decode cX0_init 0 = .ok (.aload_n 0, 1) := by decide +kernel
theorem dX0_init_1 : decode cX0_init 1 = .ok (.invokespecial 3, 3) := by decide +kernel
theorem dX0_init_4 : decode cX0_init 4 = .ok (.aload_n 0, 1) := by decide +kernel
theorem dX0_init_5 : decode cX0_init 5 = .ok (.bipush 7, 2) := by decide +kernel
theorem dX0_init_7 : decode cX0_init 7 = .ok (.newarray .int, 2) := by decide +kernel
theorem dX0_init_9 : decode cX0_init 9 = .ok (.putfield 9, 3) := by decide +kernel
theorem dX0_init_12 : decode cX0_init 12 = .ok (.aload_n 0, 1) := by decide +kernel
theorem dX0_init_13 : decode cX0_init 13 = .ok (.bipush 7, 2) := by decide +kernel
theorem dX0_init_15 : decode cX0_init 15 = .ok (.newarray .int, 2) := by decide +kernel
theorem dX0_init_17 : decode cX0_init 17 = .ok (.putfield 15, 3) := by decide +kernel
theorem dX0_init_20 : decode cX0_init 20 = .ok (.aload_n 0, 1) := by decide +kernel
theorem dX0_init_21 : decode cX0_init 21 = .ok (.iconst 0, 1) := by decide +kernel
theorem dX0_init_22 : decode cX0_init 22 = .ok (.putfield 18, 3) := by decide +kernel
theorem dX0_init_25 : decode cX0_init 25 = .ok (.return_, 1) := by decide +kernel
theorem dX0_layThrough_0 : decode cX0_layThrough 0 = .ok (.aload_n 0, 1) := by decide +kernel
theorem dX0_layThrough_1 : decode cX0_layThrough 1 = .ok (.iconst 0, 1) := by decide +kernel
theorem dX0_layThrough_2 : decode cX0_layThrough 2 = .ok (.putfield 18, 3) := by decide +kernel
theorem dX0_layThrough_5 : decode cX0_layThrough 5 = .ok (.iconst 0, 1) := by decide +kernel
theorem dX0_layThrough_6 : decode cX0_layThrough 6 = .ok (.istore_n 3, 1) := by decide +kernel
theorem dX0_layThrough_7 : decode cX0_layThrough 7 = .ok (.iload_n 3, 1) := by decide +kernel
theorem dX0_layThrough_8 : decode cX0_layThrough 8 = .ok (.aload_n 1, 1) := by decide +kernel
theorem dX0_layThrough_9 : decode cX0_layThrough 9 = .ok (.getfield 22, 3) := by decide +kernel
theorem dX0_layThrough_12 : decode cX0_layThrough 12 = .ok (.if_icmp .ge 41, 3) := by decide +kernel
theorem dX0_layThrough_15 : decode cX0_layThrough 15 = .ok (.iload_n 2, 1) := by decide +kernel
theorem dX0_layThrough_16 : decode cX0_layThrough 16 = .ok (.aload_n 1, 1) := by decide +kernel
theorem dX0_layThrough_17 : decode cX0_layThrough 17 = .ok (.getfield 22, 3) := by decide +kernel
theorem dX0_layThrough_20 : decode cX0_layThrough 20 = .ok (.iconst 1, 1) := by decide +kernel
theorem dX0_layThrough_21 : decode cX0_layThrough 21 = .ok (.isub, 1) := by decide +kernel
theorem dX0_layThrough_22 : decode cX0_layThrough 22 = .ok (.iload_n 3, 1) := by decide +kernel
theorem dX0_layThrough_23 : decode cX0_layThrough 23 = .ok (.isub, 1) := by decide +kernel
theorem dX0_layThrough_24 : decode cX0_layThrough 24 = .ok (.invokestatic 25, 3) := by decide +kernel
theorem dX0_layThrough_27 : decode cX0_layThrough 27 = .ok (.iconst 1, 1) := by decide +kernel
theorem dX0_layThrough_28 : decode cX0_layThrough 28 = .ok (.if_icmp .ne 19, 3) := by decide +kernel
theorem dX0_layThrough_31 : decode cX0_layThrough 31 = .ok (.aload_n 0, 1) := by decide +kernel
theorem dX0_layThrough_32 : decode cX0_layThrough 32 = .ok (.aload_n 1, 1) := by decide +kernel
theorem dX0_layThrough_33 : decode cX0_layThrough 33 = .ok (.getfield 29, 3) := by decide +kernel
theorem dX0_layThrough_36 : decode cX0_layThrough 36 = .ok (.iload_n 3, 1) := by decide +kernel
theorem dX0_layThrough_37 : decode cX0_layThrough 37 = .ok (.iaload, 1) := by decide +kernel
theorem dX0_layThrough_38 : decode cX0_layThrough 38 = .ok (.aload_n 1, 1) := by decide +kernel
theorem dX0_layThrough_39 : decode cX0_layThrough 39 = .ok (.getfield 32, 3) := by decide +kernel
theorem dX0_layThrough_42 : decode cX0_layThrough 42 = .ok (.iload_n 3, 1) := by decide +kernel
theorem dX0_layThrough_43 : decode cX0_layThrough 43 = .ok (.iaload, 1) := by decide +kernel
theorem dX0_layThrough_44 : decode cX0_layThrough 44 = .ok (.invokevirtual 35, 3) := by decide +kernel
theorem dX0_layThrough_47 : decode cX0_layThrough 47 = .ok (.iinc 3 1, 3) := by decide +kernel
theorem dX0_layThrough_50 : decode cX0_layThrough 50 = .ok (.goto (-43), 3) := by decide +kernel
theorem dX0_layThrough_53 : decode cX0_layThrough 53 = .ok (.return_, 1) := by decide +kernel
theorem dX0_bend_0 : decode cX0_bend 0 = .ok (.aload_n 0, 1) := by decide +kernel
theorem dX0_bend_1 : decode cX0_bend 1 = .ok (.getfield 18, 3) := by decide +kernel
theorem dX0_bend_4 : decode cX0_bend 4 = .ok (.bipush 6, 2) := by decide +kernel
theorem dX0_bend_6 : decode cX0_bend 6 = .ok (.if_icmp .le 4, 3) := by decide +kernel
theorem dX0_bend_9 : decode cX0_bend 9 = .ok (.return_, 1) := by decide +kernel
theorem dX0_bend_10 : decode cX0_bend 10 = .ok (.iload_n 2, 1) := by decide +kernel
theorem dX0_bend_11 : decode cX0_bend 11 = .ok (.aload_n 0, 1) := by decide +kernel
theorem dX0_bend_12 : decode cX0_bend 12 = .ok (.iload_n 1, 1) := by decide +kernel
theorem dX0_bend_13 : decode cX0_bend 13 = .ok (.invokevirtual 39, 3) := by decide +kernel
theorem dX0_bend_16 : decode cX0_bend 16 = .ok (.isub, 1) := by decide +kernel
theorem dX0_bend_17 : decode cX0_bend 17 = .ok (.bipush 97, 2) := by decide +kernel
theorem dX0_bend_19 : decode cX0_bend 19 = .ok (.iadd, 1) := by decide +kernel
theorem dX0_bend_20 : decode cX0_bend 20 = .ok (.istore_n 3, 1) := by decide +kernel
theorem dX0_bend_21 : decode cX0_bend 21 = .ok (.iconst 0, 1) := by decide +kernel
theorem dX0_bend_22 : decode cX0_bend 22 = .ok (.istore 4, 2) := by decide +kernel
theorem dX0_bend_24 : decode cX0_bend 24 = .ok (.iload 4, 2) := by decide +kernel
theorem dX0_bend_26 : decode cX0_bend 26 = .ok (.aload_n 0, 1) := by decide +kernel
theorem dX0_bend_27 : decode cX0_bend 27 = .ok (.getfield 18, 3) := by decide +kernel
theorem dX0_bend_30 : decode cX0_bend 30 = .ok (.if_icmp .ge 27, 3) := by decide +kernel
theorem dX0_bend_33 : decode cX0_bend 33 = .ok (.iload_n 3, 1) := by decide +kernel
theorem dX0_bend_34 : decode cX0_bend 34 = .ok (.iload_n 1, 1) := by decide +kernel
theorem dX0_bend_35 : decode cX0_bend 35 = .ok (.aload_n 0, 1) := by decide +kernel
theorem dX0_bend_36 : decode cX0_bend 36 = .ok (.getfield 9, 3) := by decide +kernel
theorem dX0_bend_39 : decode cX0_bend 39 = .ok (.iload 4, 2) := by decide +kernel
theorem dX0_bend_41 : decode cX0_bend 41 = .ok (.iaload, 1) := by decide +kernel
theorem dX0_bend_42 : decode cX0_bend 42 = .ok (.isub, 1) := by decide +kernel
theorem dX0_bend_43 : decode cX0_bend 43 = .ok (.invokestatic 43, 3) := by decide +kernel
theorem dX0_bend_46 : decode cX0_bend 46 = .ok (.imul, 1) := by decide +kernel
theorem dX0_bend_47 : decode cX0_bend 47 = .ok (.bipush 97, 2) := by decide +kernel
theorem dX0_bend_49 : decode cX0_bend 49 = .ok (.irem, 1) := by decide +kernel
theorem dX0_bend_50 : decode cX0_bend 50 = .ok (.istore_n 3, 1) := by decide +kernel
theorem dX0_bend_51 : decode cX0_bend 51 = .ok (.iinc 4 1, 3) := by decide +kernel
theorem dX0_bend_54 : decode cX0_bend 54 = .ok (.goto (-30), 3) := by decide +kernel
theorem dX0_bend_57 : decode cX0_bend 57 = .ok (.aload_n 0, 1) := by decide +kernel
theorem dX0_bend_58 : decode cX0_bend 58 = .ok (.getfield 9, 3) := by decide +kernel
theorem dX0_bend_61 : decode cX0_bend 61 = .ok (.aload_n 0, 1) := by decide +kernel
theorem dX0_bend_62 : decode cX0_bend 62 = .ok (.getfield 18, 3) := by decide +kernel
theorem dX0_bend_65 : decode cX0_bend 65 = .ok (.iload_n 1, 1) := by decide +kernel
theorem dX0_bend_66 : decode cX0_bend 66 = .ok (.iastore, 1) := by decide +kernel
theorem dX0_bend_67 : decode cX0_bend 67 = .ok (.aload_n 0, 1) := by decide +kernel
theorem dX0_bend_68 : decode cX0_bend 68 = .ok (.getfield 15, 3) := by decide +kernel
theorem dX0_bend_71 : decode cX0_bend 71 = .ok (.aload_n 0, 1) := by decide +kernel
theorem dX0_bend_72 : decode cX0_bend 72 = .ok (.getfield 18, 3) := by decide +kernel
theorem dX0_bend_75 : decode cX0_bend 75 = .ok (.iload_n 3, 1) := by decide +kernel
theorem dX0_bend_76 : decode cX0_bend 76 = .ok (.bipush 97, 2) := by decide +kernel
theorem dX0_bend_78 : decode cX0_bend 78 = .ok (.irem, 1) := by decide +kernel
theorem dX0_bend_79 : decode cX0_bend 79 = .ok (.iastore, 1) := by decide +kernel
theorem dX0_bend_80 : decode cX0_bend 80 = .ok (.aload_n 0, 1) := by decide +kernel
theorem dX0_bend_81 : decode cX0_bend 81 = .ok (.dup, 1) := by decide +kernel
theorem dX0_bend_82 : decode cX0_bend 82 = .ok (.getfield 18, 3) := by decide +kernel
theorem dX0_bend_85 : decode cX0_bend 85 = .ok (.iconst 1, 1) := by decide +kernel
theorem dX0_bend_86 : decode cX0_bend 86 = .ok (.iadd, 1) := by decide +kernel
theorem dX0_bend_87 : decode cX0_bend 87 = .ok (.putfield 18, 3) := by decide +kernel
theorem dX0_bend_90 : decode cX0_bend 90 = .ok (.return_, 1) := by decide +kernel
theorem dX0_at_0 : decode cX0_at 0 = .ok (.iconst 0, 1) := by decide +kernel
theorem dX0_at_1 : decode cX0_at 1 = .ok (.istore_n 2, 1) := by decide +kernel
theorem dX0_at_2 : decode cX0_at 2 = .ok (.aload_n 0, 1) := by decide +kernel
theorem dX0_at_3 : decode cX0_at 3 = .ok (.getfield 18, 3) := by decide +kernel
theorem dX0_at_6 : decode cX0_at 6 = .ok (.iconst 1, 1) := by decide +kernel
theorem dX0_at_7 : decode cX0_at 7 = .ok (.isub, 1) := by decide +kernel
theorem dX0_at_8 : decode cX0_at 8 = .ok (.istore_n 3, 1) := by decide +kernel
theorem dX0_at_9 : decode cX0_at 9 = .ok (.iload_n 3, 1) := by decide +kernel
theorem dX0_at_10 : decode cX0_at 10 = .ok (.ifCond .lt 33, 3) := by decide +kernel
theorem dX0_at_13 : decode cX0_at 13 = .ok (.iload_n 2, 1) := by decide +kernel
theorem dX0_at_14 : decode cX0_at 14 = .ok (.iload_n 1, 1) := by decide +kernel
theorem dX0_at_15 : decode cX0_at 15 = .ok (.aload_n 0, 1) := by decide +kernel
theorem dX0_at_16 : decode cX0_at 16 = .ok (.getfield 9, 3) := by decide +kernel
theorem dX0_at_19 : decode cX0_at 19 = .ok (.iload_n 3, 1) := by decide +kernel
theorem dX0_at_20 : decode cX0_at 20 = .ok (.iaload, 1) := by decide +kernel
theorem dX0_at_21 : decode cX0_at 21 = .ok (.isub, 1) := by decide +kernel
theorem dX0_at_22 : decode cX0_at 22 = .ok (.bipush 97, 2) := by decide +kernel
theorem dX0_at_24 : decode cX0_at 24 = .ok (.iadd, 1) := by decide +kernel
theorem dX0_at_25 : decode cX0_at 25 = .ok (.imul, 1) := by decide +kernel
theorem dX0_at_26 : decode cX0_at 26 = .ok (.aload_n 0, 1) := by decide +kernel
theorem dX0_at_27 : decode cX0_at 27 = .ok (.getfield 15, 3) := by decide +kernel
theorem dX0_at_30 : decode cX0_at 30 = .ok (.iload_n 3, 1) := by decide +kernel
theorem dX0_at_31 : decode cX0_at 31 = .ok (.iaload, 1) := by decide +kernel
theorem dX0_at_32 : decode cX0_at 32 = .ok (.iadd, 1) := by decide +kernel
theorem dX0_at_33 : decode cX0_at 33 = .ok (.bipush 97, 2) := by decide +kernel
theorem dX0_at_35 : decode cX0_at 35 = .ok (.irem, 1) := by decide +kernel
theorem dX0_at_36 : decode cX0_at 36 = .ok (.istore_n 2, 1) := by decide +kernel
theorem dX0_at_37 : decode cX0_at 37 = .ok (.iinc 3 (-1), 3) := by decide +kernel
theorem dX0_at_40 : decode cX0_at 40 = .ok (.goto (-31), 3) := by decide +kernel
theorem dX0_at_43 : decode cX0_at 43 = .ok (.iload_n 2, 1) := by decide +kernel
theorem dX0_at_44 : decode cX0_at 44 = .ok (.ireturn, 1) := by decide +kernel
theorem dX1_init_0 : decode cX1_init 0 = .ok (.aload_n 0, 1) := by decide +kernel
theorem dX1_init_1 : decode cX1_init 1 = .ok (.invokespecial 3, 3) := by decide +kernel
theorem dX1_init_4 : decode cX1_init 4 = .ok (.aload_n 0, 1) := by decide +kernel
theorem dX1_init_5 : decode cX1_init 5 = .ok (.bipush 6, 2) := by decide +kernel
theorem dX1_init_7 : decode cX1_init 7 = .ok (.newarray .int, 2) := by decide +kernel
theorem dX1_init_9 : decode cX1_init 9 = .ok (.putfield 9, 3) := by decide +kernel
theorem dX1_init_12 : decode cX1_init 12 = .ok (.aload_n 0, 1) := by decide +kernel
theorem dX1_init_13 : decode cX1_init 13 = .ok (.bipush 6, 2) := by decide +kernel
theorem dX1_init_15 : decode cX1_init 15 = .ok (.newarray .int, 2) := by decide +kernel
theorem dX1_init_17 : decode cX1_init 17 = .ok (.putfield 15, 3) := by decide +kernel
theorem dX1_init_20 : decode cX1_init 20 = .ok (.aload_n 0, 1) := by decide +kernel
theorem dX1_init_21 : decode cX1_init 21 = .ok (.iconst 0, 1) := by decide +kernel
theorem dX1_init_22 : decode cX1_init 22 = .ok (.putfield 18, 3) := by decide +kernel
theorem dX1_init_25 : decode cX1_init 25 = .ok (.aload_n 0, 1) := by decide +kernel
theorem dX1_init_26 : decode cX1_init 26 = .ok (.iconst 0, 1) := by decide +kernel
theorem dX1_init_27 : decode cX1_init 27 = .ok (.putfield 22, 3) := by decide +kernel
theorem dX1_init_30 : decode cX1_init 30 = .ok (.aload_n 0, 1) := by decide +kernel
theorem dX1_init_31 : decode cX1_init 31 = .ok (.iconst 0, 1) := by decide +kernel
theorem dX1_init_32 : decode cX1_init 32 = .ok (.putfield 25, 3) := by decide +kernel
theorem dX1_init_35 : decode cX1_init 35 = .ok (.aload_n 0, 1) := by decide +kernel
theorem dX1_init_36 : decode cX1_init 36 = .ok (.iconst 1, 1) := by decide +kernel
theorem dX1_init_37 : decode cX1_init 37 = .ok (.putfield 29, 3) := by decide +kernel
theorem dX1_init_40 : decode cX1_init 40 = .ok (.aload_n 0, 1) := by decide +kernel
theorem dX1_init_41 : decode cX1_init 41 = .ok (.iconst 1, 1) := by decide +kernel
theorem dX1_init_42 : decode cX1_init 42 = .ok (.putfield 32, 3) := by decide +kernel
theorem dX1_init_45 : decode cX1_init 45 = .ok (.aload_n 0, 1) := by decide +kernel
theorem dX1_init_46 : decode cX1_init 46 = .ok (.iconst 1, 1) := by decide +kernel
theorem dX1_init_47 : decode cX1_init 47 = .ok (.putfield 35, 3) := by decide +kernel
theorem dX1_init_50 : decode cX1_init 50 = .ok (.return_, 1) := by decide +kernel
theorem dX1_begin_0 : decode cX1_begin 0 = .ok (.aload_n 0, 1) := by decide +kernel
theorem dX1_begin_1 : decode cX1_begin 1 = .ok (.iconst 1, 1) := by decide +kernel
theorem dX1_begin_2 : decode cX1_begin 2 = .ok (.putfield 18, 3) := by decide +kernel
theorem dX1_begin_5 : decode cX1_begin 5 = .ok (.aload_n 0, 1) := by decide +kernel
theorem dX1_begin_6 : decode cX1_begin 6 = .ok (.iconst 0, 1) := by decide +kernel
theorem dX1_begin_7 : decode cX1_begin 7 = .ok (.putfield 22, 3) := by decide +kernel
theorem dX1_begin_10 : decode cX1_begin 10 = .ok (.aload_n 0, 1) := by decide +kernel
theorem dX1_begin_11 : decode cX1_begin 11 = .ok (.iload_n 1, 1) := by decide +kernel
theorem dX1_begin_12 : decode cX1_begin 12 = .ok (.putfield 25, 3) := by decide +kernel
theorem dX1_begin_15 : decode cX1_begin 15 = .ok (.aload_n 0, 1) := by decide +kernel
theorem dX1_begin_16 : decode cX1_begin 16 = .ok (.iload_n 2, 1) := by decide +kernel
theorem dX1_begin_17 : decode cX1_begin 17 = .ok (.putfield 29, 3) := by decide +kernel
theorem dX1_begin_20 : decode cX1_begin 20 = .ok (.aload_n 0, 1) := by decide +kernel
theorem dX1_begin_21 : decode cX1_begin 21 = .ok (.iload_n 3, 1) := by decide +kernel
theorem dX1_begin_22 : decode cX1_begin 22 = .ok (.putfield 32, 3) := by decide +kernel
theorem dX1_begin_25 : decode cX1_begin 25 = .ok (.aload_n 0, 1) := by decide +kernel
theorem dX1_begin_26 : decode cX1_begin 26 = .ok (.iload_n 3, 1) := by decide +kernel
theorem dX1_begin_27 : decode cX1_begin 27 = .ok (.iload_n 2, 1) := by decide +kernel
theorem dX1_begin_28 : decode cX1_begin 28 = .ok (.imul, 1) := by decide +kernel
theorem dX1_begin_29 : decode cX1_begin 29 = .ok (.putfield 35, 3) := by decide +kernel
theorem dX1_begin_32 : decode cX1_begin 32 = .ok (.aload_n 0, 1) := by decide +kernel
theorem dX1_begin_33 : decode cX1_begin 33 = .ok (.aload_n 0, 1) := by decide +kernel
theorem dX1_begin_34 : decode cX1_begin 34 = .ok (.getfield 9, 3) := by decide +kernel
theorem dX1_begin_37 : decode cX1_begin 37 = .ok (.iload 4, 2) := by decide +kernel
theorem dX1_begin_39 : decode cX1_begin 39 = .ok (.invokevirtual 38, 3) := by decide +kernel
theorem dX1_begin_42 : decode cX1_begin 42 = .ok (.return_, 1) := by decide +kernel
theorem dX1_veilBy_0 : decode cX1_veilBy 0 = .ok (.aload_n 0, 1) := by decide +kernel
theorem dX1_veilBy_1 : decode cX1_veilBy 1 = .ok (.iload_n 1, 1) := by decide +kernel
theorem dX1_veilBy_2 : decode cX1_veilBy 2 = .ok (.bipush (-9), 2) := by decide +kernel
theorem dX1_veilBy_4 : decode cX1_veilBy 4 = .ok (.if_icmp .eq 7, 3) := by decide +kernel
theorem dX1_veilBy_7 : decode cX1_veilBy 7 = .ok (.iconst 1, 1) := by decide +kernel
theorem dX1_veilBy_8 : decode cX1_veilBy 8 = .ok (.goto 4, 3) := by decide +kernel
theorem dX1_veilBy_11 : decode cX1_veilBy 11 = .ok (.iconst 0, 1) := by decide +kernel
theorem dX1_veilBy_12 : decode cX1_veilBy 12 = .ok (.putfield 22, 3) := by decide +kernel
theorem dX1_veilBy_15 : decode cX1_veilBy 15 = .ok (.aload_n 0, 1) := by decide +kernel
theorem dX1_veilBy_16 : decode cX1_veilBy 16 = .ok (.getfield 22, 3) := by decide +kernel
theorem dX1_veilBy_19 : decode cX1_veilBy 19 = .ok (.ifCond .eq 12, 3) := by decide +kernel
theorem dX1_veilBy_22 : decode cX1_veilBy 22 = .ok (.aload_n 0, 1) := by decide +kernel
theorem dX1_veilBy_23 : decode cX1_veilBy 23 = .ok (.aload_n 0, 1) := by decide +kernel
theorem dX1_veilBy_24 : decode cX1_veilBy 24 = .ok (.getfield 15, 3) := by decide +kernel
theorem dX1_veilBy_27 : decode cX1_veilBy 27 = .ok (.iload_n 1, 1) := by decide +kernel
theorem dX1_veilBy_28 : decode cX1_veilBy 28 = .ok (.invokevirtual 38, 3) := by decide +kernel
theorem dX1_veilBy_31 : decode cX1_veilBy 31 = .ok (.return_, 1) := by decide +kernel
theorem dX1_drawLots_0 : decode cX1_drawLots 0 = .ok (.iload_n 2, 1) := by decide +kernel
theorem dX1_drawLots_1 : decode cX1_drawLots 1 = .ok (.i2l, 1) := by decide +kernel
theorem dX1_drawLots_2 : decode cX1_drawLots 2 = .ok (.lstore_n 3, 1) := by decide +kernel
theorem dX1_drawLots_3 : decode cX1_drawLots 3 = .ok (.iconst 0, 1) := by decide +kernel
theorem dX1_drawLots_4 : decode cX1_drawLots 4 = .ok (.istore 5, 2) := by decide +kernel
theorem dX1_drawLots_6 : decode cX1_drawLots 6 = .ok (.iload 5, 2) := by decide +kernel
theorem dX1_drawLots_8 : decode cX1_drawLots 8 = .ok (.aload_n 0, 1) := by decide +kernel
theorem dX1_drawLots_9 : decode cX1_drawLots 9 = .ok (.getfield 35, 3) := by decide +kernel
theorem dX1_drawLots_12 : decode cX1_drawLots 12 = .ok (.if_icmp .ge 37, 3) := by decide +kernel
theorem dX1_drawLots_15 : decode cX1_drawLots 15 = .ok (.ldc2_w 42, 3) := by decide +kernel
theorem dX1_drawLots_18 : decode cX1_drawLots 18 = .ok (.lload_n 3, 1) := by decide +kernel
theorem dX1_drawLots_19 : decode cX1_drawLots 19 = .ok (.lmul, 1) := by decide +kernel
theorem dX1_drawLots_20 : decode cX1_drawLots 20 = .ok (.ldc2_w 44, 3) := by decide +kernel
theorem dX1_drawLots_23 : decode cX1_drawLots 23 = .ok (.ladd, 1) := by decide +kernel
theorem dX1_drawLots_24 : decode cX1_drawLots 24 = .ok (.ldc2_w 46, 3) := by decide +kernel
theorem dX1_drawLots_27 : decode cX1_drawLots 27 = .ok (.lrem, 1) := by decide +kernel
theorem dX1_drawLots_28 : decode cX1_drawLots 28 = .ok (.lstore_n 3, 1) := by decide +kernel
theorem dX1_drawLots_29 : decode cX1_drawLots 29 = .ok (.aload_n 1, 1) := by decide +kernel
theorem dX1_drawLots_30 : decode cX1_drawLots 30 = .ok (.iload 5, 2) := by decide +kernel
theorem dX1_drawLots_32 : decode cX1_drawLots 32 = .ok (.lload_n 3, 1) := by decide +kernel
theorem dX1_drawLots_33 : decode cX1_drawLots 33 = .ok (.ldc2_w 48, 3) := by decide +kernel
theorem dX1_drawLots_36 : decode cX1_drawLots 36 = .ok (.ldiv, 1) := by decide +kernel
theorem dX1_drawLots_37 : decode cX1_drawLots 37 = .ok (.ldc2_w 50, 3) := by decide +kernel
theorem dX1_drawLots_40 : decode cX1_drawLots 40 = .ok (.lrem, 1) := by decide +kernel
theorem dX1_drawLots_41 : decode cX1_drawLots 41 = .ok (.l2i, 1) := by decide +kernel
theorem dX1_drawLots_42 : decode cX1_drawLots 42 = .ok (.iastore, 1) := by decide +kernel
theorem dX1_drawLots_43 : decode cX1_drawLots 43 = .ok (.iinc 5 1, 3) := by decide +kernel
theorem dX1_drawLots_46 : decode cX1_drawLots 46 = .ok (.goto (-40), 3) := by decide +kernel
theorem dX1_drawLots_49 : decode cX1_drawLots 49 = .ok (.return_, 1) := by decide +kernel
theorem dX1_pointNumber_0 : decode cX1_pointNumber 0 = .ok (.aload_n 0, 1) := by decide +kernel
theorem dX1_pointNumber_1 : decode cX1_pointNumber 1 = .ok (.getfield 25, 3) := by decide +kernel
theorem dX1_pointNumber_4 : decode cX1_pointNumber 4 = .ok (.iload_n 2, 1) := by decide +kernel
theorem dX1_pointNumber_5 : decode cX1_pointNumber 5 = .ok (.invokestatic 52, 3) := by decide +kernel
theorem dX1_pointNumber_8 : decode cX1_pointNumber 8 = .ok (.aload_n 0, 1) := by decide +kernel
theorem dX1_pointNumber_9 : decode cX1_pointNumber 9 = .ok (.getfield 9, 3) := by decide +kernel
theorem dX1_pointNumber_12 : decode cX1_pointNumber 12 = .ok (.iload_n 2, 1) := by decide +kernel
theorem dX1_pointNumber_13 : decode cX1_pointNumber 13 = .ok (.aload_n 0, 1) := by decide +kernel
theorem dX1_pointNumber_14 : decode cX1_pointNumber 14 = .ok (.getfield 29, 3) := by decide +kernel
theorem dX1_pointNumber_17 : decode cX1_pointNumber 17 = .ok (.imul, 1) := by decide +kernel
theorem dX1_pointNumber_18 : decode cX1_pointNumber 18 = .ok (.aload_n 0, 1) := by decide +kernel
theorem dX1_pointNumber_19 : decode cX1_pointNumber 19 = .ok (.getfield 29, 3) := by decide +kernel
theorem dX1_pointNumber_22 : decode cX1_pointNumber 22 = .ok (.iload_n 1, 1) := by decide +kernel
theorem dX1_pointNumber_23 : decode cX1_pointNumber 23 = .ok (.invokestatic 56, 3) := by decide +kernel
theorem dX1_pointNumber_26 : decode cX1_pointNumber 26 = .ok (.iadd, 1) := by decide +kernel
theorem dX1_pointNumber_27 : decode cX1_pointNumber 27 = .ok (.bipush 97, 2) := by decide +kernel
theorem dX1_pointNumber_29 : decode cX1_pointNumber 29 = .ok (.irem, 1) := by decide +kernel
theorem dX1_pointNumber_30 : decode cX1_pointNumber 30 = .ok (.ireturn, 1) := by decide +kernel
theorem dX1_veilAt_0 : decode cX1_veilAt 0 = .ok (.aload_n 0, 1) := by decide +kernel
theorem dX1_veilAt_1 : decode cX1_veilAt 1 = .ok (.getfield 22, 3) := by decide +kernel
theorem dX1_veilAt_4 : decode cX1_veilAt 4 = .ok (.ifCond .eq 19, 3) := by decide +kernel
theorem dX1_veilAt_7 : decode cX1_veilAt 7 = .ok (.aload_n 0, 1) := by decide +kernel
theorem dX1_veilAt_8 : decode cX1_veilAt 8 = .ok (.getfield 15, 3) := by decide +kernel
theorem dX1_veilAt_11 : decode cX1_veilAt 11 = .ok (.iconst 0, 1) := by decide +kernel
theorem dX1_veilAt_12 : decode cX1_veilAt 12 = .ok (.aload_n 0, 1) := by decide +kernel
theorem dX1_veilAt_13 : decode cX1_veilAt 13 = .ok (.getfield 35, 3) := by decide +kernel
theorem dX1_veilAt_16 : decode cX1_veilAt 16 = .ok (.iload_n 1, 1) := by decide +kernel
theorem dX1_veilAt_17 : decode cX1_veilAt 17 = .ok (.invokestatic 56, 3) := by decide +kernel
theorem dX1_veilAt_20 : decode cX1_veilAt 20 = .ok (.goto 4, 3) := by decide +kernel
theorem dX1_veilAt_23 : decode cX1_veilAt 23 = .ok (.iconst 0, 1) := by decide +kernel
theorem dX1_veilAt_24 : decode cX1_veilAt 24 = .ok (.ireturn, 1) := by decide +kernel
theorem dX1_risen_0 : decode cX1_risen 0 = .ok (.iconst 0, 1) := by decide +kernel
theorem dX1_risen_1 : decode cX1_risen 1 = .ok (.istore 4, 2) := by decide +kernel
theorem dX1_risen_3 : decode cX1_risen 3 = .ok (.iload_n 1, 1) := by decide +kernel
theorem dX1_risen_4 : decode cX1_risen 4 = .ok (.iload_n 2, 1) := by decide +kernel
theorem dX1_risen_5 : decode cX1_risen 5 = .ok (.iadd, 1) := by decide +kernel
theorem dX1_risen_6 : decode cX1_risen 6 = .ok (.iconst 1, 1) := by decide +kernel
theorem dX1_risen_7 : decode cX1_risen 7 = .ok (.isub, 1) := by decide +kernel
theorem dX1_risen_8 : decode cX1_risen 8 = .ok (.istore 5, 2) := by decide +kernel
theorem dX1_risen_10 : decode cX1_risen 10 = .ok (.iload 5, 2) := by decide +kernel
theorem dX1_risen_12 : decode cX1_risen 12 = .ok (.iload_n 1, 1) := by decide +kernel
theorem dX1_risen_13 : decode cX1_risen 13 = .ok (.if_icmp .lt 23, 3) := by decide +kernel
theorem dX1_risen_16 : decode cX1_risen 16 = .ok (.iload 4, 2) := by decide +kernel
theorem dX1_risen_18 : decode cX1_risen 18 = .ok (.aload_n 0, 1) := by decide +kernel
theorem dX1_risen_19 : decode cX1_risen 19 = .ok (.iload 5, 2) := by decide +kernel
theorem dX1_risen_21 : decode cX1_risen 21 = .ok (.iaload, 1) := by decide +kernel
theorem dX1_risen_22 : decode cX1_risen 22 = .ok (.iadd, 1) := by decide +kernel
theorem dX1_risen_23 : decode cX1_risen 23 = .ok (.iload_n 3, 1) := by decide +kernel
theorem dX1_risen_24 : decode cX1_risen 24 = .ok (.imul, 1) := by decide +kernel
theorem dX1_risen_25 : decode cX1_risen 25 = .ok (.bipush 97, 2) := by decide +kernel
theorem dX1_risen_27 : decode cX1_risen 27 = .ok (.irem, 1) := by decide +kernel
theorem dX1_risen_28 : decode cX1_risen 28 = .ok (.istore 4, 2) := by decide +kernel
theorem dX1_risen_30 : decode cX1_risen 30 = .ok (.iinc 5 (-1), 3) := by decide +kernel
theorem dX1_risen_33 : decode cX1_risen 33 = .ok (.goto (-23), 3) := by decide +kernel
theorem dX1_risen_36 : decode cX1_risen 36 = .ok (.iload 4, 2) := by decide +kernel
theorem dX1_risen_38 : decode cX1_risen 38 = .ok (.ireturn, 1) := by decide +kernel
theorem dX1_countWays_0 : decode cX1_countWays 0 = .ok (.aload_n 0, 1) := by decide +kernel
theorem dX1_countWays_1 : decode cX1_countWays 1 = .ok (.getfield 29, 3) := by decide +kernel
theorem dX1_countWays_4 : decode cX1_countWays 4 = .ok (.iload_n 1, 1) := by decide +kernel
theorem dX1_countWays_5 : decode cX1_countWays 5 = .ok (.invokestatic 60, 3) := by decide +kernel
theorem dX1_countWays_8 : decode cX1_countWays 8 = .ok (.isub, 1) := by decide +kernel
theorem dX1_countWays_9 : decode cX1_countWays 9 = .ok (.istore_n 3, 1) := by decide +kernel
theorem dX1_countWays_10 : decode cX1_countWays 10 = .ok (.iload_n 3, 1) := by decide +kernel
theorem dX1_countWays_11 : decode cX1_countWays 11 = .ok (.ifCond .ge 17, 3) := by decide +kernel
theorem dX1_countWays_14 : decode cX1_countWays 14 = .ok (.iload_n 2, 1) := by decide +kernel
theorem dX1_countWays_15 : decode cX1_countWays 15 = .ok (.aload_n 0, 1) := by decide +kernel
theorem dX1_countWays_16 : decode cX1_countWays 16 = .ok (.getfield 25, 3) := by decide +kernel
theorem dX1_countWays_19 : decode cX1_countWays 19 = .ok (.if_icmp .ne 7, 3) := by decide +kernel
theorem dX1_countWays_22 : decode cX1_countWays 22 = .ok (.lconst 1, 1) := by decide +kernel
theorem dX1_countWays_23 : decode cX1_countWays 23 = .ok (.goto 4, 3) := by decide +kernel
theorem dX1_countWays_26 : decode cX1_countWays 26 = .ok (.lconst 0, 1) := by decide +kernel
theorem dX1_countWays_27 : decode cX1_countWays 27 = .ok (.lreturn, 1) := by decide +kernel
theorem dX1_countWays_28 : decode cX1_countWays 28 = .ok (.lconst 1, 1) := by decide +kernel
theorem dX1_countWays_29 : decode cX1_countWays 29 = .ok (.lstore 4, 2) := by decide +kernel
theorem dX1_countWays_31 : decode cX1_countWays 31 = .ok (.iconst 0, 1) := by decide +kernel
theorem dX1_countWays_32 : decode cX1_countWays 32 = .ok (.istore 6, 2) := by decide +kernel
theorem dX1_countWays_34 : decode cX1_countWays 34 = .ok (.iload 6, 2) := by decide +kernel
theorem dX1_countWays_36 : decode cX1_countWays 36 = .ok (.iload_n 3, 1) := by decide +kernel
theorem dX1_countWays_37 : decode cX1_countWays 37 = .ok (.aload_n 0, 1) := by decide +kernel
theorem dX1_countWays_38 : decode cX1_countWays 38 = .ok (.getfield 32, 3) := by decide +kernel
theorem dX1_countWays_41 : decode cX1_countWays 41 = .ok (.imul, 1) := by decide +kernel
theorem dX1_countWays_42 : decode cX1_countWays 42 = .ok (.if_icmp .ge 17, 3) := by decide +kernel
theorem dX1_countWays_45 : decode cX1_countWays 45 = .ok (.lload 4, 2) := by decide +kernel
theorem dX1_countWays_47 : decode cX1_countWays 47 = .ok (.ldc2_w 50, 3) := by decide +kernel
theorem dX1_countWays_50 : decode cX1_countWays 50 = .ok (.lmul, 1) := by decide +kernel
theorem dX1_countWays_51 : decode cX1_countWays 51 = .ok (.lstore 4, 2) := by decide +kernel
theorem dX1_countWays_53 : decode cX1_countWays 53 = .ok (.iinc 6 1, 3) := by decide +kernel
theorem dX1_countWays_56 : decode cX1_countWays 56 = .ok (.goto (-22), 3) := by decide +kernel
theorem dX1_countWays_59 : decode cX1_countWays 59 = .ok (.lload 4, 2) := by decide +kernel
theorem dX1_countWays_61 : decode cX1_countWays 61 = .ok (.lreturn, 1) := by decide +kernel
theorem dX2_init_0 : decode cX2_init 0 = .ok (.aload_n 0, 1) := by decide +kernel
theorem dX2_init_1 : decode cX2_init 1 = .ok (.invokespecial 3, 3) := by decide +kernel
theorem dX2_init_4 : decode cX2_init 4 = .ok (.aload_n 0, 1) := by decide +kernel
theorem dX2_init_5 : decode cX2_init 5 = .ok (.bipush 9, 2) := by decide +kernel
theorem dX2_init_7 : decode cX2_init 7 = .ok (.newarray .int, 2) := by decide +kernel
theorem dX2_init_9 : decode cX2_init 9 = .ok (.putfield 9, 3) := by decide +kernel
theorem dX2_init_12 : decode cX2_init 12 = .ok (.aload_n 0, 1) := by decide +kernel
theorem dX2_init_13 : decode cX2_init 13 = .ok (.bipush 9, 2) := by decide +kernel
theorem dX2_init_15 : decode cX2_init 15 = .ok (.newarray .int, 2) := by decide +kernel
theorem dX2_init_17 : decode cX2_init 17 = .ok (.putfield 15, 3) := by decide +kernel
theorem dX2_init_20 : decode cX2_init 20 = .ok (.aload_n 0, 1) := by decide +kernel
theorem dX2_init_21 : decode cX2_init 21 = .ok (.iconst 0, 1) := by decide +kernel
theorem dX2_init_22 : decode cX2_init 22 = .ok (.putfield 18, 3) := by decide +kernel
theorem dX2_init_25 : decode cX2_init 25 = .ok (.return_, 1) := by decide +kernel
theorem dX2_add_0 : decode cX2_add 0 = .ok (.aload_n 0, 1) := by decide +kernel
theorem dX2_add_1 : decode cX2_add 1 = .ok (.getfield 18, 3) := by decide +kernel
theorem dX2_add_4 : decode cX2_add 4 = .ok (.bipush 9, 2) := by decide +kernel
theorem dX2_add_6 : decode cX2_add 6 = .ok (.if_icmp .ge 33, 3) := by decide +kernel
theorem dX2_add_9 : decode cX2_add 9 = .ok (.aload_n 0, 1) := by decide +kernel
theorem dX2_add_10 : decode cX2_add 10 = .ok (.getfield 9, 3) := by decide +kernel
theorem dX2_add_13 : decode cX2_add 13 = .ok (.aload_n 0, 1) := by decide +kernel
theorem dX2_add_14 : decode cX2_add 14 = .ok (.getfield 18, 3) := by decide +kernel
theorem dX2_add_17 : decode cX2_add 17 = .ok (.iload_n 1, 1) := by decide +kernel
theorem dX2_add_18 : decode cX2_add 18 = .ok (.iastore, 1) := by decide +kernel
theorem dX2_add_19 : decode cX2_add 19 = .ok (.aload_n 0, 1) := by decide +kernel
theorem dX2_add_20 : decode cX2_add 20 = .ok (.getfield 15, 3) := by decide +kernel
theorem dX2_add_23 : decode cX2_add 23 = .ok (.aload_n 0, 1) := by decide +kernel
theorem dX2_add_24 : decode cX2_add 24 = .ok (.getfield 18, 3) := by decide +kernel
theorem dX2_add_27 : decode cX2_add 27 = .ok (.iload_n 2, 1) := by decide +kernel
theorem dX2_add_28 : decode cX2_add 28 = .ok (.iastore, 1) := by decide +kernel
theorem dX2_add_29 : decode cX2_add 29 = .ok (.aload_n 0, 1) := by decide +kernel
theorem dX2_add_30 : decode cX2_add 30 = .ok (.dup, 1) := by decide +kernel
theorem dX2_add_31 : decode cX2_add 31 = .ok (.getfield 18, 3) := by decide +kernel
theorem dX2_add_34 : decode cX2_add 34 = .ok (.iconst 1, 1) := by decide +kernel
theorem dX2_add_35 : decode cX2_add 35 = .ok (.iadd, 1) := by decide +kernel
theorem dX2_add_36 : decode cX2_add 36 = .ok (.putfield 18, 3) := by decide +kernel
theorem dX2_add_39 : decode cX2_add 39 = .ok (.return_, 1) := by decide +kernel
theorem dX2_isOn_0 : decode cX2_isOn 0 = .ok (.aload_n 1, 1) := by decide +kernel
theorem dX2_isOn_1 : decode cX2_isOn 1 = .ok (.aload_n 0, 1) := by decide +kernel
theorem dX2_isOn_2 : decode cX2_isOn 2 = .ok (.getfield 9, 3) := by decide +kernel
theorem dX2_isOn_5 : decode cX2_isOn 5 = .ok (.iload_n 2, 1) := by decide +kernel
theorem dX2_isOn_6 : decode cX2_isOn 6 = .ok (.iaload, 1) := by decide +kernel
theorem dX2_isOn_7 : decode cX2_isOn 7 = .ok (.invokevirtual 22, 3) := by decide +kernel
theorem dX2_isOn_10 : decode cX2_isOn 10 = .ok (.aload_n 0, 1) := by decide +kernel
theorem dX2_isOn_11 : decode cX2_isOn 11 = .ok (.getfield 15, 3) := by decide +kernel
theorem dX2_isOn_14 : decode cX2_isOn 14 = .ok (.iload_n 2, 1) := by decide +kernel
theorem dX2_isOn_15 : decode cX2_isOn 15 = .ok (.iaload, 1) := by decide +kernel
theorem dX2_isOn_16 : decode cX2_isOn 16 = .ok (.if_icmp .ne 7, 3) := by decide +kernel
theorem dX2_isOn_19 : decode cX2_isOn 19 = .ok (.iconst 1, 1) := by decide +kernel
theorem dX2_isOn_20 : decode cX2_isOn 20 = .ok (.goto 4, 3) := by decide +kernel
theorem dX2_isOn_23 : decode cX2_isOn 23 = .ok (.iconst 0, 1) := by decide +kernel
theorem dX2_isOn_24 : decode cX2_isOn 24 = .ok (.ireturn, 1) := by decide +kernel
theorem dX2_countOn_0 : decode cX2_countOn 0 = .ok (.iconst 0, 1) := by decide +kernel
theorem dX2_countOn_1 : decode cX2_countOn 1 = .ok (.istore_n 2, 1) := by decide +kernel
theorem dX2_countOn_2 : decode cX2_countOn 2 = .ok (.iconst 0, 1) := by decide +kernel
theorem dX2_countOn_3 : decode cX2_countOn 3 = .ok (.istore_n 3, 1) := by decide +kernel
theorem dX2_countOn_4 : decode cX2_countOn 4 = .ok (.iload_n 3, 1) := by decide +kernel
theorem dX2_countOn_5 : decode cX2_countOn 5 = .ok (.aload_n 0, 1) := by decide +kernel
theorem dX2_countOn_6 : decode cX2_countOn 6 = .ok (.getfield 18, 3) := by decide +kernel
theorem dX2_countOn_9 : decode cX2_countOn 9 = .ok (.if_icmp .ge 21, 3) := by decide +kernel
theorem dX2_countOn_12 : decode cX2_countOn 12 = .ok (.aload_n 0, 1) := by decide +kernel
theorem dX2_countOn_13 : decode cX2_countOn 13 = .ok (.aload_n 1, 1) := by decide +kernel
theorem dX2_countOn_14 : decode cX2_countOn 14 = .ok (.iload_n 3, 1) := by decide +kernel
theorem dX2_countOn_15 : decode cX2_countOn 15 = .ok (.invokevirtual 28, 3) := by decide +kernel
theorem dX2_countOn_18 : decode cX2_countOn 18 = .ok (.ifCond .eq 6, 3) := by decide +kernel
theorem dX2_countOn_21 : decode cX2_countOn 21 = .ok (.iinc 2 1, 3) := by decide +kernel
theorem dX2_countOn_24 : decode cX2_countOn 24 = .ok (.iinc 3 1, 3) := by decide +kernel
theorem dX2_countOn_27 : decode cX2_countOn 27 = .ok (.goto (-23), 3) := by decide +kernel
theorem dX2_countOn_30 : decode cX2_countOn 30 = .ok (.iload_n 2, 1) := by decide +kernel
theorem dX2_countOn_31 : decode cX2_countOn 31 = .ok (.ireturn, 1) := by decide +kernel
theorem dX2_storesOff_0 : decode cX2_storesOff 0 = .ok (.iconst 0, 1) := by decide +kernel
theorem dX2_storesOff_1 : decode cX2_storesOff 1 = .ok (.istore_n 2, 1) := by decide +kernel
theorem dX2_storesOff_2 : decode cX2_storesOff 2 = .ok (.iconst 0, 1) := by decide +kernel
theorem dX2_storesOff_3 : decode cX2_storesOff 3 = .ok (.istore_n 3, 1) := by decide +kernel
theorem dX2_storesOff_4 : decode cX2_storesOff 4 = .ok (.iload_n 3, 1) := by decide +kernel
theorem dX2_storesOff_5 : decode cX2_storesOff 5 = .ok (.aload_n 0, 1) := by decide +kernel
theorem dX2_storesOff_6 : decode cX2_storesOff 6 = .ok (.getfield 18, 3) := by decide +kernel
theorem dX2_storesOff_9 : decode cX2_storesOff 9 = .ok (.if_icmp .ge 29, 3) := by decide +kernel
theorem dX2_storesOff_12 : decode cX2_storesOff 12 = .ok (.aload_n 0, 1) := by decide +kernel
theorem dX2_storesOff_13 : decode cX2_storesOff 13 = .ok (.aload_n 1, 1) := by decide +kernel
theorem dX2_storesOff_14 : decode cX2_storesOff 14 = .ok (.iload_n 3, 1) := by decide +kernel
theorem dX2_storesOff_15 : decode cX2_storesOff 15 = .ok (.invokevirtual 28, 3) := by decide +kernel
theorem dX2_storesOff_18 : decode cX2_storesOff 18 = .ok (.ifCond .ne 14, 3) := by decide +kernel
theorem dX2_storesOff_21 : decode cX2_storesOff 21 = .ok (.iload_n 2, 1) := by decide +kernel
theorem dX2_storesOff_22 : decode cX2_storesOff 22 = .ok (.iconst 1, 1) := by decide +kernel
theorem dX2_storesOff_23 : decode cX2_storesOff 23 = .ok (.aload_n 0, 1) := by decide +kernel
theorem dX2_storesOff_24 : decode cX2_storesOff 24 = .ok (.getfield 9, 3) := by decide +kernel
theorem dX2_storesOff_27 : decode cX2_storesOff 27 = .ok (.iload_n 3, 1) := by decide +kernel
theorem dX2_storesOff_28 : decode cX2_storesOff 28 = .ok (.iaload, 1) := by decide +kernel
theorem dX2_storesOff_29 : decode cX2_storesOff 29 = .ok (.ishl, 1) := by decide +kernel
theorem dX2_storesOff_30 : decode cX2_storesOff 30 = .ok (.ior, 1) := by decide +kernel
theorem dX2_storesOff_31 : decode cX2_storesOff 31 = .ok (.istore_n 2, 1) := by decide +kernel
theorem dX2_storesOff_32 : decode cX2_storesOff 32 = .ok (.iinc 3 1, 3) := by decide +kernel
theorem dX2_storesOff_35 : decode cX2_storesOff 35 = .ok (.goto (-31), 3) := by decide +kernel
theorem dX2_storesOff_38 : decode cX2_storesOff 38 = .ok (.iload_n 2, 1) := by decide +kernel
theorem dX2_storesOff_39 : decode cX2_storesOff 39 = .ok (.ireturn, 1) := by decide +kernel
theorem dX3_init_0 : decode cX3_init 0 = .ok (.aload_n 0, 1) := by decide +kernel
theorem dX3_init_1 : decode cX3_init 1 = .ok (.invokespecial 3, 3) := by decide +kernel
theorem dX3_init_4 : decode cX3_init 4 = .ok (.aload_n 0, 1) := by decide +kernel
theorem dX3_init_5 : decode cX3_init 5 = .ok (.bipush 8, 2) := by decide +kernel
theorem dX3_init_7 : decode cX3_init 7 = .ok (.newarray .int, 2) := by decide +kernel
theorem dX3_init_9 : decode cX3_init 9 = .ok (.putfield 9, 3) := by decide +kernel
theorem dX3_init_12 : decode cX3_init 12 = .ok (.aload_n 0, 1) := by decide +kernel
theorem dX3_init_13 : decode cX3_init 13 = .ok (.iconst 0, 1) := by decide +kernel
theorem dX3_init_14 : decode cX3_init 14 = .ok (.putfield 15, 3) := by decide +kernel
theorem dX3_init_17 : decode cX3_init 17 = .ok (.aload_n 0, 1) := by decide +kernel
theorem dX3_init_18 : decode cX3_init 18 = .ok (.iconst 0, 1) := by decide +kernel
theorem dX3_init_19 : decode cX3_init 19 = .ok (.putfield 19, 3) := by decide +kernel
theorem dX3_init_22 : decode cX3_init 22 = .ok (.return_, 1) := by decide +kernel
theorem dX3_become_0 : decode cX3_become 0 = .ok (.aload_n 0, 1) := by decide +kernel
theorem dX3_become_1 : decode cX3_become 1 = .ok (.iload_n 1, 1) := by decide +kernel
theorem dX3_become_2 : decode cX3_become 2 = .ok (.putfield 15, 3) := by decide +kernel
theorem dX3_become_5 : decode cX3_become 5 = .ok (.aload_n 0, 1) := by decide +kernel
theorem dX3_become_6 : decode cX3_become 6 = .ok (.iload_n 1, 1) := by decide +kernel
theorem dX3_become_7 : decode cX3_become 7 = .ok (.iconst 1, 1) := by decide +kernel
theorem dX3_become_8 : decode cX3_become 8 = .ok (.if_icmp .ne 7, 3) := by decide +kernel
theorem dX3_become_11 : decode cX3_become 11 = .ok (.iload_n 2, 1) := by decide +kernel
theorem dX3_become_12 : decode cX3_become 12 = .ok (.goto 4, 3) := by decide +kernel
theorem dX3_become_15 : decode cX3_become 15 = .ok (.iconst 0, 1) := by decide +kernel
theorem dX3_become_16 : decode cX3_become 16 = .ok (.putfield 19, 3) := by decide +kernel
theorem dX3_become_19 : decode cX3_become 19 = .ok (.iload_n 1, 1) := by decide +kernel
theorem dX3_become_20 : decode cX3_become 20 = .ok (.iconst 2, 1) := by decide +kernel
theorem dX3_become_21 : decode cX3_become 21 = .ok (.if_icmp .ne 15, 3) := by decide +kernel
theorem dX3_become_24 : decode cX3_become 24 = .ok (.aload_n 3, 1) := by decide +kernel
theorem dX3_become_25 : decode cX3_become 25 = .ok (.iconst 0, 1) := by decide +kernel
theorem dX3_become_26 : decode cX3_become 26 = .ok (.aload_n 0, 1) := by decide +kernel
theorem dX3_become_27 : decode cX3_become 27 = .ok (.getfield 9, 3) := by decide +kernel
theorem dX3_become_30 : decode cX3_become 30 = .ok (.iconst 0, 1) := by decide +kernel
theorem dX3_become_31 : decode cX3_become 31 = .ok (.bipush 8, 2) := by decide +kernel
theorem dX3_become_33 : decode cX3_become 33 = .ok (.invokestatic 22, 3) := by decide +kernel
theorem dX3_become_36 : decode cX3_become 36 = .ok (.return_, 1) := by decide +kernel
theorem dX3_held_0 : decode cX3_held 0 = .ok (.aload_n 0, 1) := by decide +kernel
theorem dX3_held_1 : decode cX3_held 1 = .ok (.getfield 15, 3) := by decide +kernel
theorem dX3_held_4 : decode cX3_held 4 = .ok (.iconst 2, 1) := by decide +kernel
theorem dX3_held_5 : decode cX3_held 5 = .ok (.if_icmp .ne 10, 3) := by decide +kernel
theorem dX3_held_8 : decode cX3_held 8 = .ok (.aload_n 0, 1) := by decide +kernel
theorem dX3_held_9 : decode cX3_held 9 = .ok (.getfield 9, 3) := by decide +kernel
theorem dX3_held_12 : decode cX3_held 12 = .ok (.goto 4, 3) := by decide +kernel
theorem dX3_held_15 : decode cX3_held 15 = .ok (.aload_n 1, 1) := by decide +kernel
theorem dX3_held_16 : decode cX3_held 16 = .ok (.areturn, 1) := by decide +kernel
theorem dX4_init_0 : decode cX4_init 0 = .ok (.aload_n 0, 1) := by decide +kernel
theorem dX4_init_1 : decode cX4_init 1 = .ok (.invokespecial 1, 3) := by decide +kernel
theorem dX4_init_4 : decode cX4_init 4 = .ok (.aload_n 0, 1) := by decide +kernel
theorem dX4_init_5 : decode cX4_init 5 = .ok (.bipush 8, 2) := by decide +kernel
theorem dX4_init_7 : decode cX4_init 7 = .ok (.newarray .int, 2) := by decide +kernel
theorem dX4_init_9 : decode cX4_init 9 = .ok (.putfield 9, 3) := by decide +kernel
theorem dX4_init_12 : decode cX4_init 12 = .ok (.aload_n 0, 1) := by decide +kernel
theorem dX4_init_13 : decode cX4_init 13 = .ok (.iconst 3, 1) := by decide +kernel
theorem dX4_init_14 : decode cX4_init 14 = .ok (.newarray .int, 2) := by decide +kernel
theorem dX4_init_16 : decode cX4_init 16 = .ok (.putfield 13, 3) := by decide +kernel
theorem dX4_init_19 : decode cX4_init 19 = .ok (.aload_n 0, 1) := by decide +kernel
theorem dX4_init_20 : decode cX4_init 20 = .ok (.bipush 9, 2) := by decide +kernel
theorem dX4_init_22 : decode cX4_init 22 = .ok (.anewarray 16, 3) := by decide +kernel
theorem dX4_init_25 : decode cX4_init 25 = .ok (.putfield 18, 3) := by decide +kernel
theorem dX4_init_28 : decode cX4_init 28 = .ok (.aload_n 0, 1) := by decide +kernel
theorem dX4_init_29 : decode cX4_init 29 = .ok (.new 22, 3) := by decide +kernel
theorem dX4_init_32 : decode cX4_init 32 = .ok (.dup, 1) := by decide +kernel
theorem dX4_init_33 : decode cX4_init 33 = .ok (.invokespecial 24, 3) := by decide +kernel
theorem dX4_init_36 : decode cX4_init 36 = .ok (.putfield 25, 3) := by decide +kernel
theorem dX4_init_39 : decode cX4_init 39 = .ok (.aload_n 0, 1) := by decide +kernel
theorem dX4_init_40 : decode cX4_init 40 = .ok (.new 29, 3) := by decide +kernel
theorem dX4_init_43 : decode cX4_init 43 = .ok (.dup, 1) := by decide +kernel
theorem dX4_init_44 : decode cX4_init 44 = .ok (.invokespecial 31, 3) := by decide +kernel
theorem dX4_init_47 : decode cX4_init 47 = .ok (.putfield 32, 3) := by decide +kernel
theorem dX4_init_50 : decode cX4_init 50 = .ok (.aload_n 0, 1) := by decide +kernel
theorem dX4_init_51 : decode cX4_init 51 = .ok (.new 36, 3) := by decide +kernel
theorem dX4_init_54 : decode cX4_init 54 = .ok (.dup, 1) := by decide +kernel
theorem dX4_init_55 : decode cX4_init 55 = .ok (.invokespecial 38, 3) := by decide +kernel
theorem dX4_init_58 : decode cX4_init 58 = .ok (.putfield 39, 3) := by decide +kernel
theorem dX4_init_61 : decode cX4_init 61 = .ok (.aload_n 0, 1) := by decide +kernel
theorem dX4_init_62 : decode cX4_init 62 = .ok (.iconst 1, 1) := by decide +kernel
theorem dX4_init_63 : decode cX4_init 63 = .ok (.putfield 43, 3) := by decide +kernel
theorem dX4_init_66 : decode cX4_init 66 = .ok (.aload_n 0, 1) := by decide +kernel
theorem dX4_init_67 : decode cX4_init 67 = .ok (.iconst 0, 1) := by decide +kernel
theorem dX4_init_68 : decode cX4_init 68 = .ok (.putfield 47, 3) := by decide +kernel
theorem dX4_init_71 : decode cX4_init 71 = .ok (.aload_n 0, 1) := by decide +kernel
theorem dX4_init_72 : decode cX4_init 72 = .ok (.iconst 0, 1) := by decide +kernel
theorem dX4_init_73 : decode cX4_init 73 = .ok (.putfield 50, 3) := by decide +kernel
theorem dX4_init_76 : decode cX4_init 76 = .ok (.aload_n 0, 1) := by decide +kernel
theorem dX4_init_77 : decode cX4_init 77 = .ok (.iconst 0, 1) := by decide +kernel
theorem dX4_init_78 : decode cX4_init 78 = .ok (.putfield 53, 3) := by decide +kernel
theorem dX4_init_81 : decode cX4_init 81 = .ok (.aload_n 0, 1) := by decide +kernel
theorem dX4_init_82 : decode cX4_init 82 = .ok (.iconst 0, 1) := by decide +kernel
theorem dX4_init_83 : decode cX4_init 83 = .ok (.putfield 56, 3) := by decide +kernel
theorem dX4_init_86 : decode cX4_init 86 = .ok (.iconst 0, 1) := by decide +kernel
theorem dX4_init_87 : decode cX4_init 87 = .ok (.istore_n 1, 1) := by decide +kernel
theorem dX4_init_88 : decode cX4_init 88 = .ok (.iload_n 1, 1) := by decide +kernel
theorem dX4_init_89 : decode cX4_init 89 = .ok (.bipush 9, 2) := by decide +kernel
theorem dX4_init_91 : decode cX4_init 91 = .ok (.if_icmp .ge 22, 3) := by decide +kernel
theorem dX4_init_94 : decode cX4_init 94 = .ok (.aload_n 0, 1) := by decide +kernel
theorem dX4_init_95 : decode cX4_init 95 = .ok (.getfield 18, 3) := by decide +kernel
theorem dX4_init_98 : decode cX4_init 98 = .ok (.iload_n 1, 1) := by decide +kernel
theorem dX4_init_99 : decode cX4_init 99 = .ok (.new 16, 3) := by decide +kernel
theorem dX4_init_102 : decode cX4_init 102 = .ok (.dup, 1) := by decide +kernel
theorem dX4_init_103 : decode cX4_init 103 = .ok (.invokespecial 59, 3) := by decide +kernel
theorem dX4_init_106 : decode cX4_init 106 = .ok (.aastore, 1) := by decide +kernel
theorem dX4_init_107 : decode cX4_init 107 = .ok (.iinc 1 1, 3) := by decide +kernel
theorem dX4_init_110 : decode cX4_init 110 = .ok (.goto (-22), 3) := by decide +kernel
theorem dX4_init_113 : decode cX4_init 113 = .ok (.return_, 1) := by decide +kernel
theorem dX4_records_0 : decode cX4_records 0 = .ok (.iload_n 1, 1) := by decide +kernel
theorem dX4_records_1 : decode cX4_records 1 = .ok (.iconst 1, 1) := by decide +kernel
theorem dX4_records_2 : decode cX4_records 2 = .ok (.if_icmp .lt 8, 3) := by decide +kernel
theorem dX4_records_5 : decode cX4_records 5 = .ok (.iload_n 1, 1) := by decide +kernel
theorem dX4_records_6 : decode cX4_records 6 = .ok (.iconst 3, 1) := by decide +kernel
theorem dX4_records_7 : decode cX4_records 7 = .ok (.if_icmp .le 6, 3) := by decide +kernel
theorem dX4_records_10 : decode cX4_records 10 = .ok (.bipush (-2), 2) := by decide +kernel
theorem dX4_records_12 : decode cX4_records 12 = .ok (.ireturn, 1) := by decide +kernel
theorem dX4_records_13 : decode cX4_records 13 = .ok (.aload_n 0, 1) := by decide +kernel
theorem dX4_records_14 : decode cX4_records 14 = .ok (.invokevirtual 60, 3) := by decide +kernel
theorem dX4_records_17 : decode cX4_records 17 = .ok (.istore_n 2, 1) := by decide +kernel
theorem dX4_records_18 : decode cX4_records 18 = .ok (.aload_n 0, 1) := by decide +kernel
theorem dX4_records_19 : decode cX4_records 19 = .ok (.iload_n 1, 1) := by decide +kernel
theorem dX4_records_20 : decode cX4_records 20 = .ok (.putfield 43, 3) := by decide +kernel
theorem dX4_records_23 : decode cX4_records 23 = .ok (.iconst 0, 1) := by decide +kernel
theorem dX4_records_24 : decode cX4_records 24 = .ok (.istore_n 3, 1) := by decide +kernel
theorem dX4_records_25 : decode cX4_records 25 = .ok (.iload_n 3, 1) := by decide +kernel
theorem dX4_records_26 : decode cX4_records 26 = .ok (.bipush 8, 2) := by decide +kernel
theorem dX4_records_28 : decode cX4_records 28 = .ok (.if_icmp .ge 16, 3) := by decide +kernel
theorem dX4_records_31 : decode cX4_records 31 = .ok (.aload_n 0, 1) := by decide +kernel
theorem dX4_records_32 : decode cX4_records 32 = .ok (.getfield 9, 3) := by decide +kernel
theorem dX4_records_35 : decode cX4_records 35 = .ok (.iload_n 3, 1) := by decide +kernel
theorem dX4_records_36 : decode cX4_records 36 = .ok (.iconst 0, 1) := by decide +kernel
theorem dX4_records_37 : decode cX4_records 37 = .ok (.iastore, 1) := by decide +kernel
theorem dX4_records_38 : decode cX4_records 38 = .ok (.iinc 3 1, 3) := by decide +kernel
theorem dX4_records_41 : decode cX4_records 41 = .ok (.goto (-16), 3) := by decide +kernel
theorem dX4_records_44 : decode cX4_records 44 = .ok (.iconst 1, 1) := by decide +kernel
theorem dX4_records_45 : decode cX4_records 45 = .ok (.istore_n 3, 1) := by decide +kernel
theorem dX4_records_46 : decode cX4_records 46 = .ok (.iload_n 3, 1) := by decide +kernel
theorem dX4_records_47 : decode cX4_records 47 = .ok (.bipush 9, 2) := by decide +kernel
theorem dX4_records_49 : decode cX4_records 49 = .ok (.if_icmp .gt 23, 3) := by decide +kernel
theorem dX4_records_52 : decode cX4_records 52 = .ok (.aload_n 0, 1) := by decide +kernel
theorem dX4_records_53 : decode cX4_records 53 = .ok (.iload_n 3, 1) := by decide +kernel
theorem dX4_records_54 : decode cX4_records 54 = .ok (.invokevirtual 64, 3) := by decide +kernel
theorem dX4_records_57 : decode cX4_records 57 = .ok (.iconst 0, 1) := by decide +kernel
theorem dX4_records_58 : decode cX4_records 58 = .ok (.iconst 0, 1) := by decide +kernel
theorem dX4_records_59 : decode cX4_records 59 = .ok (.aload_n 0, 1) := by decide +kernel
theorem dX4_records_60 : decode cX4_records 60 = .ok (.getfield 9, 3) := by decide +kernel
theorem dX4_records_63 : decode cX4_records 63 = .ok (.invokevirtual 68, 3) := by decide +kernel
theorem dX4_records_66 : decode cX4_records 66 = .ok (.iinc 3 1, 3) := by decide +kernel
theorem dX4_records_69 : decode cX4_records 69 = .ok (.goto (-23), 3) := by decide +kernel
theorem dX4_records_72 : decode cX4_records 72 = .ok (.aload_n 0, 1) := by decide +kernel
theorem dX4_records_73 : decode cX4_records 73 = .ok (.getfield 25, 3) := by decide +kernel
theorem dX4_records_76 : decode cX4_records 76 = .ok (.iconst 0, 1) := by decide +kernel
theorem dX4_records_77 : decode cX4_records 77 = .ok (.putfield 72, 3) := by decide +kernel
theorem dX4_records_80 : decode cX4_records 80 = .ok (.iload_n 2, 1) := by decide +kernel
theorem dX4_records_81 : decode cX4_records 81 = .ok (.ireturn, 1) := by decide +kernel
theorem dX4_put_0 : decode cX4_put 0 = .ok (.aload_n 0, 1) := by decide +kernel
theorem dX4_put_1 : decode cX4_put 1 = .ok (.iload_n 1, 1) := by decide +kernel
theorem dX4_put_2 : decode cX4_put 2 = .ok (.invokevirtual 76, 3) := by decide +kernel
theorem dX4_put_5 : decode cX4_put 5 = .ok (.ifCond .ne 5, 3) := by decide +kernel
theorem dX4_put_8 : decode cX4_put 8 = .ok (.iconst (-1), 1) := by decide +kernel
theorem dX4_put_9 : decode cX4_put 9 = .ok (.ireturn, 1) := by decide +kernel
theorem dX4_put_10 : decode cX4_put 10 = .ok (.iload_n 2, 1) := by decide +kernel
theorem dX4_put_11 : decode cX4_put 11 = .ok (.invokestatic 80, 3) := by decide +kernel
theorem dX4_put_14 : decode cX4_put 14 = .ok (.ifCond .ne 6, 3) := by decide +kernel
theorem dX4_put_17 : decode cX4_put 17 = .ok (.bipush (-2), 2) := by decide +kernel
theorem dX4_put_19 : decode cX4_put 19 = .ok (.ireturn, 1) := by decide +kernel
theorem dX4_put_20 : decode cX4_put 20 = .ok (.aload_n 0, 1) := by decide +kernel
theorem dX4_put_21 : decode cX4_put 21 = .ok (.getfield 9, 3) := by decide +kernel
theorem dX4_put_24 : decode cX4_put 24 = .ok (.iload_n 1, 1) := by decide +kernel
theorem dX4_put_25 : decode cX4_put 25 = .ok (.iaload, 1) := by decide +kernel
theorem dX4_put_26 : decode cX4_put 26 = .ok (.istore_n 3, 1) := by decide +kernel
theorem dX4_put_27 : decode cX4_put 27 = .ok (.aload_n 0, 1) := by decide +kernel
theorem dX4_put_28 : decode cX4_put 28 = .ok (.getfield 9, 3) := by decide +kernel
theorem dX4_put_31 : decode cX4_put 31 = .ok (.iload_n 1, 1) := by decide +kernel
theorem dX4_put_32 : decode cX4_put 32 = .ok (.iload_n 2, 1) := by decide +kernel
theorem dX4_put_33 : decode cX4_put 33 = .ok (.iastore, 1) := by decide +kernel
theorem dX4_put_34 : decode cX4_put 34 = .ok (.iload_n 3, 1) := by decide +kernel
theorem dX4_put_35 : decode cX4_put 35 = .ok (.ireturn, 1) := by decide +kernel
theorem dX4_record_0 : decode cX4_record 0 = .ok (.aload_n 0, 1) := by decide +kernel
theorem dX4_record_1 : decode cX4_record 1 = .ok (.iload_n 1, 1) := by decide +kernel
theorem dX4_record_2 : decode cX4_record 2 = .ok (.invokevirtual 76, 3) := by decide +kernel
theorem dX4_record_5 : decode cX4_record 5 = .ok (.ifCond .eq 12, 3) := by decide +kernel
theorem dX4_record_8 : decode cX4_record 8 = .ok (.aload_n 0, 1) := by decide +kernel
theorem dX4_record_9 : decode cX4_record 9 = .ok (.getfield 9, 3) := by decide +kernel
theorem dX4_record_12 : decode cX4_record 12 = .ok (.iload_n 1, 1) := by decide +kernel
theorem dX4_record_13 : decode cX4_record 13 = .ok (.iaload, 1) := by decide +kernel
theorem dX4_record_14 : decode cX4_record 14 = .ok (.goto 4, 3) := by decide +kernel
theorem dX4_record_17 : decode cX4_record 17 = .ok (.iconst (-1), 1) := by decide +kernel
theorem dX4_record_18 : decode cX4_record 18 = .ok (.ireturn, 1) := by decide +kernel
theorem dX4_store_0 : decode cX4_store 0 = .ok (.iload_n 1, 1) := by decide +kernel
theorem dX4_store_1 : decode cX4_store 1 = .ok (.invokestatic 83, 3) := by decide +kernel
theorem dX4_store_4 : decode cX4_store 4 = .ok (.ifCond .ne 5, 3) := by decide +kernel
theorem dX4_store_7 : decode cX4_store 7 = .ok (.iconst (-1), 1) := by decide +kernel
theorem dX4_store_8 : decode cX4_store 8 = .ok (.ireturn, 1) := by decide +kernel
theorem dX4_store_9 : decode cX4_store 9 = .ok (.iload_n 2, 1) := by decide +kernel
theorem dX4_store_10 : decode cX4_store 10 = .ok (.invokestatic 86, 3) := by decide +kernel
theorem dX4_store_13 : decode cX4_store 13 = .ok (.ifCond .eq 15, 3) := by decide +kernel
theorem dX4_store_16 : decode cX4_store 16 = .ok (.iload_n 2, 1) := by decide +kernel
theorem dX4_store_17 : decode cX4_store 17 = .ok (.iconst 1, 1) := by decide +kernel
theorem dX4_store_18 : decode cX4_store 18 = .ok (.if_icmp .ne 13, 3) := by decide +kernel
theorem dX4_store_21 : decode cX4_store 21 = .ok (.iload_n 3, 1) := by decide +kernel
theorem dX4_store_22 : decode cX4_store 22 = .ok (.invokestatic 89, 3) := by decide +kernel
theorem dX4_store_25 : decode cX4_store 25 = .ok (.ifCond .ne 6, 3) := by decide +kernel
theorem dX4_store_28 : decode cX4_store 28 = .ok (.bipush (-2), 2) := by decide +kernel
theorem dX4_store_30 : decode cX4_store 30 = .ok (.ireturn, 1) := by decide +kernel
theorem dX4_store_31 : decode cX4_store 31 = .ok (.aload_n 0, 1) := by decide +kernel
theorem dX4_store_32 : decode cX4_store 32 = .ok (.iload_n 1, 1) := by decide +kernel
theorem dX4_store_33 : decode cX4_store 33 = .ok (.invokevirtual 64, 3) := by decide +kernel
theorem dX4_store_36 : decode cX4_store 36 = .ok (.astore 4, 2) := by decide +kernel
theorem dX4_store_38 : decode cX4_store 38 = .ok (.aload 4, 2) := by decide +kernel
theorem dX4_store_40 : decode cX4_store 40 = .ok (.getfield 92, 3) := by decide +kernel
theorem dX4_store_43 : decode cX4_store 43 = .ok (.istore 5, 2) := by decide +kernel
theorem dX4_store_45 : decode cX4_store 45 = .ok (.aload 4, 2) := by decide +kernel
theorem dX4_store_47 : decode cX4_store 47 = .ok (.iload_n 2, 1) := by decide +kernel
theorem dX4_store_48 : decode cX4_store 48 = .ok (.iload_n 3, 1) := by decide +kernel
theorem dX4_store_49 : decode cX4_store 49 = .ok (.aload_n 0, 1) := by decide +kernel
theorem dX4_store_50 : decode cX4_store 50 = .ok (.getfield 9, 3) := by decide +kernel
theorem dX4_store_53 : decode cX4_store 53 = .ok (.invokevirtual 68, 3) := by decide +kernel
theorem dX4_store_56 : decode cX4_store 56 = .ok (.iload 5, 2) := by decide +kernel
theorem dX4_store_58 : decode cX4_store 58 = .ok (.ireturn, 1) := by decide +kernel
theorem dX4_taken_0 : decode cX4_taken 0 = .ok (.iload_n 1, 1) := by decide +kernel
theorem dX4_taken_1 : decode cX4_taken 1 = .ok (.invokestatic 83, 3) := by decide +kernel
theorem dX4_taken_4 : decode cX4_taken 4 = .ok (.ifCond .ne 5, 3) := by decide +kernel
theorem dX4_taken_7 : decode cX4_taken 7 = .ok (.iconst (-1), 1) := by decide +kernel
theorem dX4_taken_8 : decode cX4_taken 8 = .ok (.ireturn, 1) := by decide +kernel
theorem dX4_taken_9 : decode cX4_taken 9 = .ok (.iload_n 2, 1) := by decide +kernel
theorem dX4_taken_10 : decode cX4_taken 10 = .ok (.invokestatic 86, 3) := by decide +kernel
theorem dX4_taken_13 : decode cX4_taken 13 = .ok (.ifCond .eq 12, 3) := by decide +kernel
theorem dX4_taken_16 : decode cX4_taken 16 = .ok (.iload_n 3, 1) := by decide +kernel
theorem dX4_taken_17 : decode cX4_taken 17 = .ok (.ifCond .lt 8, 3) := by decide +kernel
theorem dX4_taken_20 : decode cX4_taken 20 = .ok (.iload_n 3, 1) := by decide +kernel
theorem dX4_taken_21 : decode cX4_taken 21 = .ok (.iconst 2, 1) := by decide +kernel
theorem dX4_taken_22 : decode cX4_taken 22 = .ok (.if_icmp .le 6, 3) := by decide +kernel
theorem dX4_taken_25 : decode cX4_taken 25 = .ok (.bipush (-2), 2) := by decide +kernel
theorem dX4_taken_27 : decode cX4_taken 27 = .ok (.ireturn, 1) := by decide +kernel
theorem dX4_taken_28 : decode cX4_taken 28 = .ok (.aload_n 0, 1) := by decide +kernel
theorem dX4_taken_29 : decode cX4_taken 29 = .ok (.iload_n 1, 1) := by decide +kernel
theorem dX4_taken_30 : decode cX4_taken 30 = .ok (.invokevirtual 64, 3) := by decide +kernel
theorem dX4_taken_33 : decode cX4_taken 33 = .ok (.astore 4, 2) := by decide +kernel
theorem dX4_taken_35 : decode cX4_taken 35 = .ok (.iload_n 2, 1) := by decide +kernel
theorem dX4_taken_36 : decode cX4_taken 36 = .ok (.ifCond .eq 15, 3) := by decide +kernel
theorem dX4_taken_39 : decode cX4_taken 39 = .ok (.iload_n 2, 1) := by decide +kernel
theorem dX4_taken_40 : decode cX4_taken 40 = .ok (.aload 4, 2) := by decide +kernel
theorem dX4_taken_42 : decode cX4_taken 42 = .ok (.getfield 92, 3) := by decide +kernel
theorem dX4_taken_45 : decode cX4_taken 45 = .ok (.if_icmp .eq 6, 3) := by decide +kernel
theorem dX4_taken_48 : decode cX4_taken 48 = .ok (.bipush (-13), 2) := by decide +kernel
theorem dX4_taken_50 : decode cX4_taken 50 = .ok (.ireturn, 1) := by decide +kernel
theorem dX4_taken_51 : decode cX4_taken 51 = .ok (.iload_n 3, 1) := by decide +kernel
theorem dX4_taken_52 : decode cX4_taken 52 = .ok (.ifCond .ne 9, 3) := by decide +kernel
theorem dX4_taken_55 : decode cX4_taken 55 = .ok (.aload 4, 2) := by decide +kernel
theorem dX4_taken_57 : decode cX4_taken 57 = .ok (.getfield 92, 3) := by decide +kernel
theorem dX4_taken_60 : decode cX4_taken 60 = .ok (.ireturn, 1) := by decide +kernel
theorem dX4_taken_61 : decode cX4_taken 61 = .ok (.iload_n 3, 1) := by decide +kernel
theorem dX4_taken_62 : decode cX4_taken 62 = .ok (.iconst 1, 1) := by decide +kernel
theorem dX4_taken_63 : decode cX4_taken 63 = .ok (.if_icmp .ne 23, 3) := by decide +kernel
theorem dX4_taken_66 : decode cX4_taken 66 = .ok (.aload 4, 2) := by decide +kernel
theorem dX4_taken_68 : decode cX4_taken 68 = .ok (.getfield 92, 3) := by decide +kernel
theorem dX4_taken_71 : decode cX4_taken 71 = .ok (.iconst 1, 1) := by decide +kernel
theorem dX4_taken_72 : decode cX4_taken 72 = .ok (.if_icmp .ne 11, 3) := by decide +kernel
theorem dX4_taken_75 : decode cX4_taken 75 = .ok (.aload 4, 2) := by decide +kernel
theorem dX4_taken_77 : decode cX4_taken 77 = .ok (.getfield 95, 3) := by decide +kernel
theorem dX4_taken_80 : decode cX4_taken 80 = .ok (.goto 5, 3) := by decide +kernel
theorem dX4_taken_83 : decode cX4_taken 83 = .ok (.bipush (-9), 2) := by decide +kernel
theorem dX4_taken_85 : decode cX4_taken 85 = .ok (.ireturn, 1) := by decide +kernel
theorem dX4_taken_86 : decode cX4_taken 86 = .ok (.aload_n 0, 1) := by decide +kernel
theorem dX4_taken_87 : decode cX4_taken 87 = .ok (.aload 4, 2) := by decide +kernel
theorem dX4_taken_89 : decode cX4_taken 89 = .ok (.iconst 0, 1) := by decide +kernel
theorem dX4_taken_90 : decode cX4_taken 90 = .ok (.invokevirtual 98, 3) := by decide +kernel
theorem dX4_taken_93 : decode cX4_taken 93 = .ok (.ireturn, 1) := by decide +kernel
theorem dX4_copy_0 : decode cX4_copy 0 = .ok (.iload_n 1, 1) := by decide +kernel
theorem dX4_copy_1 : decode cX4_copy 1 = .ok (.invokestatic 83, 3) := by decide +kernel
theorem dX4_copy_4 : decode cX4_copy 4 = .ok (.ifCond .eq 11, 3) := by decide +kernel
theorem dX4_copy_7 : decode cX4_copy 7 = .ok (.aload_n 0, 1) := by decide +kernel
theorem dX4_copy_8 : decode cX4_copy 8 = .ok (.iload_n 2, 1) := by decide +kernel
theorem dX4_copy_9 : decode cX4_copy 9 = .ok (.invokevirtual 76, 3) := by decide +kernel
theorem dX4_copy_12 : decode cX4_copy 12 = .ok (.ifCond .ne 5, 3) := by decide +kernel
theorem dX4_copy_15 : decode cX4_copy 15 = .ok (.iconst (-1), 1) := by decide +kernel
theorem dX4_copy_16 : decode cX4_copy 16 = .ok (.ireturn, 1) := by decide +kernel
theorem dX4_copy_17 : decode cX4_copy 17 = .ok (.aload_n 0, 1) := by decide +kernel
theorem dX4_copy_18 : decode cX4_copy 18 = .ok (.aload_n 0, 1) := by decide +kernel
theorem dX4_copy_19 : decode cX4_copy 19 = .ok (.iload_n 1, 1) := by decide +kernel
theorem dX4_copy_20 : decode cX4_copy 20 = .ok (.invokevirtual 64, 3) := by decide +kernel
theorem dX4_copy_23 : decode cX4_copy 23 = .ok (.iload_n 2, 1) := by decide +kernel
theorem dX4_copy_24 : decode cX4_copy 24 = .ok (.invokevirtual 98, 3) := by decide +kernel
theorem dX4_copy_27 : decode cX4_copy 27 = .ok (.ireturn, 1) := by decide +kernel
theorem dX4_sum_0 : decode cX4_sum 0 = .ok (.aload_n 0, 1) := by decide +kernel
theorem dX4_sum_1 : decode cX4_sum 1 = .ok (.getfield 13, 3) := by decide +kernel
theorem dX4_sum_4 : decode cX4_sum 4 = .ok (.iconst 0, 1) := by decide +kernel
theorem dX4_sum_5 : decode cX4_sum 5 = .ok (.iload_n 1, 1) := by decide +kernel
theorem dX4_sum_6 : decode cX4_sum 6 = .ok (.iastore, 1) := by decide +kernel
theorem dX4_sum_7 : decode cX4_sum 7 = .ok (.aload_n 0, 1) := by decide +kernel
theorem dX4_sum_8 : decode cX4_sum 8 = .ok (.getfield 13, 3) := by decide +kernel
theorem dX4_sum_11 : decode cX4_sum 11 = .ok (.iconst 1, 1) := by decide +kernel
theorem dX4_sum_12 : decode cX4_sum 12 = .ok (.iload_n 2, 1) := by decide +kernel
theorem dX4_sum_13 : decode cX4_sum 13 = .ok (.iastore, 1) := by decide +kernel
theorem dX4_sum_14 : decode cX4_sum 14 = .ok (.aload_n 0, 1) := by decide +kernel
theorem dX4_sum_15 : decode cX4_sum 15 = .ok (.getfield 13, 3) := by decide +kernel
theorem dX4_sum_18 : decode cX4_sum 18 = .ok (.iconst 2, 1) := by decide +kernel
theorem dX4_sum_19 : decode cX4_sum 19 = .ok (.iload_n 3, 1) := by decide +kernel
theorem dX4_sum_20 : decode cX4_sum 20 = .ok (.iastore, 1) := by decide +kernel
theorem dX4_sum_21 : decode cX4_sum 21 = .ok (.iconst 0, 1) := by decide +kernel
theorem dX4_sum_22 : decode cX4_sum 22 = .ok (.istore 4, 2) := by decide +kernel
theorem dX4_sum_24 : decode cX4_sum 24 = .ok (.iload 4, 2) := by decide +kernel
theorem dX4_sum_26 : decode cX4_sum 26 = .ok (.aload_n 0, 1) := by decide +kernel
theorem dX4_sum_27 : decode cX4_sum 27 = .ok (.getfield 43, 3) := by decide +kernel
theorem dX4_sum_30 : decode cX4_sum 30 = .ok (.if_icmp .ge 25, 3) := by decide +kernel
theorem dX4_sum_33 : decode cX4_sum 33 = .ok (.aload_n 0, 1) := by decide +kernel
theorem dX4_sum_34 : decode cX4_sum 34 = .ok (.getfield 13, 3) := by decide +kernel
theorem dX4_sum_37 : decode cX4_sum 37 = .ok (.iload 4, 2) := by decide +kernel
theorem dX4_sum_39 : decode cX4_sum 39 = .ok (.iaload, 1) := by decide +kernel
theorem dX4_sum_40 : decode cX4_sum 40 = .ok (.invokestatic 80, 3) := by decide +kernel
theorem dX4_sum_43 : decode cX4_sum 43 = .ok (.ifCond .ne 6, 3) := by decide +kernel
theorem dX4_sum_46 : decode cX4_sum 46 = .ok (.bipush (-2), 2) := by decide +kernel
theorem dX4_sum_48 : decode cX4_sum 48 = .ok (.ireturn, 1) := by decide +kernel
theorem dX4_sum_49 : decode cX4_sum 49 = .ok (.iinc 4 1, 3) := by decide +kernel
theorem dX4_sum_52 : decode cX4_sum 52 = .ok (.goto (-28), 3) := by decide +kernel
theorem dX4_sum_55 : decode cX4_sum 55 = .ok (.aload_n 0, 1) := by decide +kernel
theorem dX4_sum_56 : decode cX4_sum 56 = .ok (.aload_n 0, 1) := by decide +kernel
theorem dX4_sum_57 : decode cX4_sum 57 = .ok (.getfield 9, 3) := by decide +kernel
theorem dX4_sum_60 : decode cX4_sum 60 = .ok (.invokevirtual 102, 3) := by decide +kernel
theorem dX4_sum_63 : decode cX4_sum 63 = .ok (.ireturn, 1) := by decide +kernel
theorem dX4_ask_0 : decode cX4_ask 0 = .ok (.aload_n 0, 1) := by decide +kernel
theorem dX4_ask_1 : decode cX4_ask 1 = .ok (.iload_n 1, 1) := by decide +kernel
theorem dX4_ask_2 : decode cX4_ask 2 = .ok (.invokevirtual 76, 3) := by decide +kernel
theorem dX4_ask_5 : decode cX4_ask 5 = .ok (.ifCond .ne 5, 3) := by decide +kernel
theorem dX4_ask_8 : decode cX4_ask 8 = .ok (.iconst (-1), 1) := by decide +kernel
theorem dX4_ask_9 : decode cX4_ask 9 = .ok (.ireturn, 1) := by decide +kernel
theorem dX4_ask_10 : decode cX4_ask 10 = .ok (.iload_n 2, 1) := by decide +kernel
theorem dX4_ask_11 : decode cX4_ask 11 = .ok (.invokestatic 106, 3) := by decide +kernel
theorem dX4_ask_14 : decode cX4_ask 14 = .ok (.ifCond .eq 10, 3) := by decide +kernel
theorem dX4_ask_17 : decode cX4_ask 17 = .ok (.iload_n 3, 1) := by decide +kernel
theorem dX4_ask_18 : decode cX4_ask 18 = .ok (.invokestatic 109, 3) := by decide +kernel
theorem dX4_ask_21 : decode cX4_ask 21 = .ok (.ifCond .ne 6, 3) := by decide +kernel
theorem dX4_ask_24 : decode cX4_ask 24 = .ok (.bipush (-2), 2) := by decide +kernel
theorem dX4_ask_26 : decode cX4_ask 26 = .ok (.ireturn, 1) := by decide +kernel
theorem dX4_ask_27 : decode cX4_ask 27 = .ok (.aload_n 0, 1) := by decide +kernel
theorem dX4_ask_28 : decode cX4_ask 28 = .ok (.getfield 25, 3) := by decide +kernel
theorem dX4_ask_31 : decode cX4_ask 31 = .ok (.iload_n 1, 1) := by decide +kernel
theorem dX4_ask_32 : decode cX4_ask 32 = .ok (.iload_n 2, 1) := by decide +kernel
theorem dX4_ask_33 : decode cX4_ask 33 = .ok (.aload_n 0, 1) := by decide +kernel
theorem dX4_ask_34 : decode cX4_ask 34 = .ok (.getfield 43, 3) := by decide +kernel
theorem dX4_ask_37 : decode cX4_ask 37 = .ok (.iload_n 3, 1) := by decide +kernel
theorem dX4_ask_38 : decode cX4_ask 38 = .ok (.invokevirtual 112, 3) := by decide +kernel
theorem dX4_ask_41 : decode cX4_ask 41 = .ok (.aload_n 0, 1) := by decide +kernel
theorem dX4_ask_42 : decode cX4_ask 42 = .ok (.dup, 1) := by decide +kernel
theorem dX4_ask_43 : decode cX4_ask 43 = .ok (.getfield 56, 3) := by decide +kernel
theorem dX4_ask_46 : decode cX4_ask 46 = .ok (.iconst 1, 1) := by decide +kernel
theorem dX4_ask_47 : decode cX4_ask 47 = .ok (.iadd, 1) := by decide +kernel
theorem dX4_ask_48 : decode cX4_ask 48 = .ok (.putfield 56, 3) := by decide +kernel
theorem dX4_ask_51 : decode cX4_ask 51 = .ok (.aload_n 0, 1) := by decide +kernel
theorem dX4_ask_52 : decode cX4_ask 52 = .ok (.getfield 25, 3) := by decide +kernel
theorem dX4_ask_55 : decode cX4_ask 55 = .ok (.getfield 116, 3) := by decide +kernel
theorem dX4_ask_58 : decode cX4_ask 58 = .ok (.ireturn, 1) := by decide +kernel
theorem dX4_veil_0 : decode cX4_veil 0 = .ok (.iload_n 1, 1) := by decide +kernel
theorem dX4_veil_1 : decode cX4_veil 1 = .ok (.bipush (-9), 2) := by decide +kernel
theorem dX4_veil_3 : decode cX4_veil 3 = .ok (.if_icmp .eq 13, 3) := by decide +kernel
theorem dX4_veil_6 : decode cX4_veil 6 = .ok (.iload_n 1, 1) := by decide +kernel
theorem dX4_veil_7 : decode cX4_veil 7 = .ok (.invokestatic 109, 3) := by decide +kernel
theorem dX4_veil_10 : decode cX4_veil 10 = .ok (.ifCond .ne 6, 3) := by decide +kernel
theorem dX4_veil_13 : decode cX4_veil 13 = .ok (.bipush (-2), 2) := by decide +kernel
theorem dX4_veil_15 : decode cX4_veil 15 = .ok (.ireturn, 1) := by decide +kernel
theorem dX4_veil_16 : decode cX4_veil 16 = .ok (.aload_n 0, 1) := by decide +kernel
theorem dX4_veil_17 : decode cX4_veil 17 = .ok (.getfield 25, 3) := by decide +kernel
theorem dX4_veil_20 : decode cX4_veil 20 = .ok (.getfield 72, 3) := by decide +kernel
theorem dX4_veil_23 : decode cX4_veil 23 = .ok (.ifCond .ne 6, 3) := by decide +kernel
theorem dX4_veil_26 : decode cX4_veil 26 = .ok (.bipush (-3), 2) := by decide +kernel
theorem dX4_veil_28 : decode cX4_veil 28 = .ok (.ireturn, 1) := by decide +kernel
theorem dX4_veil_29 : decode cX4_veil 29 = .ok (.aload_n 0, 1) := by decide +kernel
theorem dX4_veil_30 : decode cX4_veil 30 = .ok (.getfield 25, 3) := by decide +kernel
theorem dX4_veil_33 : decode cX4_veil 33 = .ok (.getfield 119, 3) := by decide +kernel
theorem dX4_veil_36 : decode cX4_veil 36 = .ok (.ifCond .eq 7, 3) := by decide +kernel
theorem dX4_veil_39 : decode cX4_veil 39 = .ok (.iconst 1, 1) := by decide +kernel
theorem dX4_veil_40 : decode cX4_veil 40 = .ok (.goto 4, 3) := by decide +kernel
theorem dX4_veil_43 : decode cX4_veil 43 = .ok (.iconst 0, 1) := by decide +kernel
theorem dX4_veil_44 : decode cX4_veil 44 = .ok (.istore_n 2, 1) := by decide +kernel
theorem dX4_veil_45 : decode cX4_veil 45 = .ok (.aload_n 0, 1) := by decide +kernel
theorem dX4_veil_46 : decode cX4_veil 46 = .ok (.getfield 25, 3) := by decide +kernel
theorem dX4_veil_49 : decode cX4_veil 49 = .ok (.iload_n 1, 1) := by decide +kernel
theorem dX4_veil_50 : decode cX4_veil 50 = .ok (.invokevirtual 122, 3) := by decide +kernel
theorem dX4_veil_53 : decode cX4_veil 53 = .ok (.iload_n 2, 1) := by decide +kernel
theorem dX4_veil_54 : decode cX4_veil 54 = .ok (.ireturn, 1) := by decide +kernel
theorem dX4_point_0 : decode cX4_point 0 = .ok (.iload_n 1, 1) := by decide +kernel
theorem dX4_point_1 : decode cX4_point 1 = .ok (.invokestatic 83, 3) := by decide +kernel
theorem dX4_point_4 : decode cX4_point 4 = .ok (.ifCond .ne 5, 3) := by decide +kernel
theorem dX4_point_7 : decode cX4_point 7 = .ok (.iconst (-1), 1) := by decide +kernel
theorem dX4_point_8 : decode cX4_point 8 = .ok (.ireturn, 1) := by decide +kernel
theorem dX4_point_9 : decode cX4_point 9 = .ok (.aload_n 0, 1) := by decide +kernel
theorem dX4_point_10 : decode cX4_point 10 = .ok (.getfield 25, 3) := by decide +kernel
theorem dX4_point_13 : decode cX4_point 13 = .ok (.getfield 72, 3) := by decide +kernel
theorem dX4_point_16 : decode cX4_point 16 = .ok (.ifCond .ne 6, 3) := by decide +kernel
theorem dX4_point_19 : decode cX4_point 19 = .ok (.bipush (-3), 2) := by decide +kernel
theorem dX4_point_21 : decode cX4_point 21 = .ok (.ireturn, 1) := by decide +kernel
theorem dX4_point_22 : decode cX4_point 22 = .ok (.iload_n 2, 1) := by decide +kernel
theorem dX4_point_23 : decode cX4_point 23 = .ok (.ifCond .lt 11, 3) := by decide +kernel
theorem dX4_point_26 : decode cX4_point 26 = .ok (.iload_n 2, 1) := by decide +kernel
theorem dX4_point_27 : decode cX4_point 27 = .ok (.aload_n 0, 1) := by decide +kernel
theorem dX4_point_28 : decode cX4_point 28 = .ok (.getfield 43, 3) := by decide +kernel
theorem dX4_point_31 : decode cX4_point 31 = .ok (.if_icmp .lt 6, 3) := by decide +kernel
theorem dX4_point_34 : decode cX4_point 34 = .ok (.bipush (-2), 2) := by decide +kernel
theorem dX4_point_36 : decode cX4_point 36 = .ok (.ireturn, 1) := by decide +kernel
theorem dX4_point_37 : decode cX4_point 37 = .ok (.aload_n 0, 1) := by decide +kernel
theorem dX4_point_38 : decode cX4_point 38 = .ok (.getfield 25, 3) := by decide +kernel
theorem dX4_point_41 : decode cX4_point 41 = .ok (.iload_n 1, 1) := by decide +kernel
theorem dX4_point_42 : decode cX4_point 42 = .ok (.iload_n 2, 1) := by decide +kernel
theorem dX4_point_43 : decode cX4_point 43 = .ok (.invokevirtual 126, 3) := by decide +kernel
theorem dX4_point_46 : decode cX4_point 46 = .ok (.ireturn, 1) := by decide +kernel
theorem dX4_answer_0 : decode cX4_answer 0 = .ok (.iload_n 1, 1) := by decide +kernel
theorem dX4_answer_1 : decode cX4_answer 1 = .ok (.invokestatic 83, 3) := by decide +kernel
theorem dX4_answer_4 : decode cX4_answer 4 = .ok (.ifCond .ne 5, 3) := by decide +kernel
theorem dX4_answer_7 : decode cX4_answer 7 = .ok (.iconst (-1), 1) := by decide +kernel
theorem dX4_answer_8 : decode cX4_answer 8 = .ok (.ireturn, 1) := by decide +kernel
theorem dX4_answer_9 : decode cX4_answer 9 = .ok (.aload_n 0, 1) := by decide +kernel
theorem dX4_answer_10 : decode cX4_answer 10 = .ok (.getfield 25, 3) := by decide +kernel
theorem dX4_answer_13 : decode cX4_answer 13 = .ok (.getfield 72, 3) := by decide +kernel
theorem dX4_answer_16 : decode cX4_answer 16 = .ok (.ifCond .ne 6, 3) := by decide +kernel
theorem dX4_answer_19 : decode cX4_answer 19 = .ok (.bipush (-3), 2) := by decide +kernel
theorem dX4_answer_21 : decode cX4_answer 21 = .ok (.ireturn, 1) := by decide +kernel
theorem dX4_answer_22 : decode cX4_answer 22 = .ok (.aload_n 0, 1) := by decide +kernel
theorem dX4_answer_23 : decode cX4_answer 23 = .ok (.iload_n 1, 1) := by decide +kernel
theorem dX4_answer_24 : decode cX4_answer 24 = .ok (.invokevirtual 64, 3) := by decide +kernel
theorem dX4_answer_27 : decode cX4_answer 27 = .ok (.getfield 92, 3) := by decide +kernel
theorem dX4_answer_30 : decode cX4_answer 30 = .ok (.iconst 3, 1) := by decide +kernel
theorem dX4_answer_31 : decode cX4_answer 31 = .ok (.if_icmp .ne 8, 3) := by decide +kernel
theorem dX4_answer_34 : decode cX4_answer 34 = .ok (.bipush (-9), 2) := by decide +kernel
theorem dX4_answer_36 : decode cX4_answer 36 = .ok (.goto 8, 3) := by decide +kernel
theorem dX4_answer_39 : decode cX4_answer 39 = .ok (.aload_n 0, 1) := by decide +kernel
theorem dX4_answer_40 : decode cX4_answer 40 = .ok (.iload_n 1, 1) := by decide +kernel
theorem dX4_answer_41 : decode cX4_answer 41 = .ok (.invokevirtual 130, 3) := by decide +kernel
theorem dX4_answer_44 : decode cX4_answer 44 = .ok (.ireturn, 1) := by decide +kernel
theorem dX4_needed_0 : decode cX4_needed 0 = .ok (.iload_n 1, 1) := by decide +kernel
theorem dX4_needed_1 : decode cX4_needed 1 = .ok (.iconst 1, 1) := by decide +kernel
theorem dX4_needed_2 : decode cX4_needed 2 = .ok (.if_icmp .lt 24, 3) := by decide +kernel
theorem dX4_needed_5 : decode cX4_needed 5 = .ok (.iload_n 1, 1) := by decide +kernel
theorem dX4_needed_6 : decode cX4_needed 6 = .ok (.iconst 3, 1) := by decide +kernel
theorem dX4_needed_7 : decode cX4_needed 7 = .ok (.if_icmp .gt 19, 3) := by decide +kernel
theorem dX4_needed_10 : decode cX4_needed 10 = .ok (.iload_n 2, 1) := by decide +kernel
theorem dX4_needed_11 : decode cX4_needed 11 = .ok (.invokestatic 106, 3) := by decide +kernel
theorem dX4_needed_14 : decode cX4_needed 14 = .ok (.ifCond .eq 12, 3) := by decide +kernel
theorem dX4_needed_17 : decode cX4_needed 17 = .ok (.iload_n 3, 1) := by decide +kernel
theorem dX4_needed_18 : decode cX4_needed 18 = .ok (.ifCond .lt 8, 3) := by decide +kernel
theorem dX4_needed_21 : decode cX4_needed 21 = .ok (.iload_n 3, 1) := by decide +kernel
theorem dX4_needed_22 : decode cX4_needed 22 = .ok (.iconst 4, 1) := by decide +kernel
theorem dX4_needed_23 : decode cX4_needed 23 = .ok (.if_icmp .le 6, 3) := by decide +kernel
theorem dX4_needed_26 : decode cX4_needed 26 = .ok (.bipush (-2), 2) := by decide +kernel
theorem dX4_needed_28 : decode cX4_needed 28 = .ok (.ireturn, 1) := by decide +kernel
theorem dX4_needed_29 : decode cX4_needed 29 = .ok (.iload_n 1, 1) := by decide +kernel
theorem dX4_needed_30 : decode cX4_needed 30 = .ok (.iload_n 2, 1) := by decide +kernel
theorem dX4_needed_31 : decode cX4_needed 31 = .ok (.imul, 1) := by decide +kernel
theorem dX4_needed_32 : decode cX4_needed 32 = .ok (.iconst 1, 1) := by decide +kernel
theorem dX4_needed_33 : decode cX4_needed 33 = .ok (.iadd, 1) := by decide +kernel
theorem dX4_needed_34 : decode cX4_needed 34 = .ok (.iconst 2, 1) := by decide +kernel
theorem dX4_needed_35 : decode cX4_needed 35 = .ok (.iload_n 3, 1) := by decide +kernel
theorem dX4_needed_36 : decode cX4_needed 36 = .ok (.imul, 1) := by decide +kernel
theorem dX4_needed_37 : decode cX4_needed 37 = .ok (.iadd, 1) := by decide +kernel
theorem dX4_needed_38 : decode cX4_needed 38 = .ok (.ireturn, 1) := by decide +kernel
theorem dX4_fetch_0 : decode cX4_fetch 0 = .ok (.aload_n 0, 1) := by decide +kernel
theorem dX4_fetch_1 : decode cX4_fetch 1 = .ok (.iload_n 1, 1) := by decide +kernel
theorem dX4_fetch_2 : decode cX4_fetch 2 = .ok (.invokevirtual 134, 3) := by decide +kernel
theorem dX4_fetch_5 : decode cX4_fetch 5 = .ok (.istore_n 2, 1) := by decide +kernel
theorem dX4_fetch_6 : decode cX4_fetch 6 = .ok (.iload_n 2, 1) := by decide +kernel
theorem dX4_fetch_7 : decode cX4_fetch 7 = .ok (.ifCond .eq 5, 3) := by decide +kernel
theorem dX4_fetch_10 : decode cX4_fetch 10 = .ok (.iload_n 2, 1) := by decide +kernel
theorem dX4_fetch_11 : decode cX4_fetch 11 = .ok (.ireturn, 1) := by decide +kernel
theorem dX4_fetch_12 : decode cX4_fetch 12 = .ok (.aload_n 0, 1) := by decide +kernel
theorem dX4_fetch_13 : decode cX4_fetch 13 = .ok (.iload_n 1, 1) := by decide +kernel
theorem dX4_fetch_14 : decode cX4_fetch 14 = .ok (.invokevirtual 137, 3) := by decide +kernel
theorem dX4_fetch_17 : decode cX4_fetch 17 = .ok (.aload_n 0, 1) := by decide +kernel
theorem dX4_fetch_18 : decode cX4_fetch 18 = .ok (.dup, 1) := by decide +kernel
theorem dX4_fetch_19 : decode cX4_fetch 19 = .ok (.getfield 50, 3) := by decide +kernel
theorem dX4_fetch_22 : decode cX4_fetch 22 = .ok (.iload_n 1, 1) := by decide +kernel
theorem dX4_fetch_23 : decode cX4_fetch 23 = .ok (.aload_n 0, 1) := by decide +kernel
theorem dX4_fetch_24 : decode cX4_fetch 24 = .ok (.getfield 43, 3) := by decide +kernel
theorem dX4_fetch_27 : decode cX4_fetch 27 = .ok (.imul, 1) := by decide +kernel
theorem dX4_fetch_28 : decode cX4_fetch 28 = .ok (.iadd, 1) := by decide +kernel
theorem dX4_fetch_29 : decode cX4_fetch 29 = .ok (.putfield 50, 3) := by decide +kernel
theorem dX4_fetch_32 : decode cX4_fetch 32 = .ok (.aload_n 0, 1) := by decide +kernel
theorem dX4_fetch_33 : decode cX4_fetch 33 = .ok (.dup, 1) := by decide +kernel
theorem dX4_fetch_34 : decode cX4_fetch 34 = .ok (.getfield 53, 3) := by decide +kernel
theorem dX4_fetch_37 : decode cX4_fetch 37 = .ok (.aload_n 0, 1) := by decide +kernel
theorem dX4_fetch_38 : decode cX4_fetch 38 = .ok (.getfield 32, 3) := by decide +kernel
theorem dX4_fetch_41 : decode cX4_fetch 41 = .ok (.getfield 140, 3) := by decide +kernel
theorem dX4_fetch_44 : decode cX4_fetch 44 = .ok (.iadd, 1) := by decide +kernel
theorem dX4_fetch_45 : decode cX4_fetch 45 = .ok (.putfield 53, 3) := by decide +kernel
theorem dX4_fetch_48 : decode cX4_fetch 48 = .ok (.aload_n 0, 1) := by decide +kernel
theorem dX4_fetch_49 : decode cX4_fetch 49 = .ok (.aload_n 0, 1) := by decide +kernel
theorem dX4_fetch_50 : decode cX4_fetch 50 = .ok (.getfield 32, 3) := by decide +kernel
theorem dX4_fetch_53 : decode cX4_fetch 53 = .ok (.getfield 140, 3) := by decide +kernel
theorem dX4_fetch_56 : decode cX4_fetch 56 = .ok (.aload_n 0, 1) := by decide +kernel
theorem dX4_fetch_57 : decode cX4_fetch 57 = .ok (.aload_n 0, 1) := by decide +kernel
theorem dX4_fetch_58 : decode cX4_fetch 58 = .ok (.getfield 32, 3) := by decide +kernel
theorem dX4_fetch_61 : decode cX4_fetch 61 = .ok (.getfield 140, 3) := by decide +kernel
theorem dX4_fetch_64 : decode cX4_fetch 64 = .ok (.invokevirtual 143, 3) := by decide +kernel
theorem dX4_fetch_67 : decode cX4_fetch 67 = .ok (.isub, 1) := by decide +kernel
theorem dX4_fetch_68 : decode cX4_fetch 68 = .ok (.invokevirtual 146, 3) := by decide +kernel
theorem dX4_fetch_71 : decode cX4_fetch 71 = .ok (.ifCond .ne 6, 3) := by decide +kernel
theorem dX4_fetch_74 : decode cX4_fetch 74 = .ok (.bipush (-9), 2) := by decide +kernel
theorem dX4_fetch_76 : decode cX4_fetch 76 = .ok (.ireturn, 1) := by decide +kernel
theorem dX4_fetch_77 : decode cX4_fetch 77 = .ok (.aload_n 0, 1) := by decide +kernel
theorem dX4_fetch_78 : decode cX4_fetch 78 = .ok (.aload_n 0, 1) := by decide +kernel
theorem dX4_fetch_79 : decode cX4_fetch 79 = .ok (.getfield 32, 3) := by decide +kernel
theorem dX4_fetch_82 : decode cX4_fetch 82 = .ok (.aload_n 0, 1) := by decide +kernel
theorem dX4_fetch_83 : decode cX4_fetch 83 = .ok (.getfield 39, 3) := by decide +kernel
theorem dX4_fetch_86 : decode cX4_fetch 86 = .ok (.invokevirtual 149, 3) := by decide +kernel
theorem dX4_fetch_89 : decode cX4_fetch 89 = .ok (.putfield 47, 3) := by decide +kernel
theorem dX4_fetch_92 : decode cX4_fetch 92 = .ok (.aload_n 0, 1) := by decide +kernel
theorem dX4_fetch_93 : decode cX4_fetch 93 = .ok (.getfield 39, 3) := by decide +kernel
theorem dX4_fetch_96 : decode cX4_fetch 96 = .ok (.iconst 0, 1) := by decide +kernel
theorem dX4_fetch_97 : decode cX4_fetch 97 = .ok (.invokevirtual 153, 3) := by decide +kernel
theorem dX4_fetch_100 : decode cX4_fetch 100 = .ok (.ireturn, 1) := by decide +kernel
theorem dX4_caught_0 : decode cX4_caught 0 = .ok (.iload_n 1, 1) := by decide +kernel
theorem dX4_caught_1 : decode cX4_caught 1 = .ok (.invokestatic 83, 3) := by decide +kernel
theorem dX4_caught_4 : decode cX4_caught 4 = .ok (.ifCond .ne 5, 3) := by decide +kernel
theorem dX4_caught_7 : decode cX4_caught 7 = .ok (.iconst (-1), 1) := by decide +kernel
theorem dX4_caught_8 : decode cX4_caught 8 = .ok (.ireturn, 1) := by decide +kernel
theorem dX4_caught_9 : decode cX4_caught 9 = .ok (.aload_n 0, 1) := by decide +kernel
theorem dX4_caught_10 : decode cX4_caught 10 = .ok (.getfield 47, 3) := by decide +kernel
theorem dX4_caught_13 : decode cX4_caught 13 = .ok (.iload_n 1, 1) := by decide +kernel
theorem dX4_caught_14 : decode cX4_caught 14 = .ok (.invokestatic 156, 3) := by decide +kernel
theorem dX4_caught_17 : decode cX4_caught 17 = .ok (.ireturn, 1) := by decide +kernel
theorem dX4_mends_0 : decode cX4_mends 0 = .ok (.aload_n 0, 1) := by decide +kernel
theorem dX4_mends_1 : decode cX4_mends 1 = .ok (.iload_n 1, 1) := by decide +kernel
theorem dX4_mends_2 : decode cX4_mends 2 = .ok (.invokevirtual 134, 3) := by decide +kernel
theorem dX4_mends_5 : decode cX4_mends 5 = .ok (.istore_n 2, 1) := by decide +kernel
theorem dX4_mends_6 : decode cX4_mends 6 = .ok (.iload_n 2, 1) := by decide +kernel
theorem dX4_mends_7 : decode cX4_mends 7 = .ok (.ifCond .ne 15, 3) := by decide +kernel
theorem dX4_mends_10 : decode cX4_mends 10 = .ok (.aload_n 0, 1) := by decide +kernel
theorem dX4_mends_11 : decode cX4_mends 11 = .ok (.aload_n 0, 1) := by decide +kernel
theorem dX4_mends_12 : decode cX4_mends 12 = .ok (.iload_n 1, 1) := by decide +kernel
theorem dX4_mends_13 : decode cX4_mends 13 = .ok (.invokevirtual 159, 3) := by decide +kernel
theorem dX4_mends_16 : decode cX4_mends 16 = .ok (.invokevirtual 143, 3) := by decide +kernel
theorem dX4_mends_19 : decode cX4_mends 19 = .ok (.goto 4, 3) := by decide +kernel
theorem dX4_mends_22 : decode cX4_mends 22 = .ok (.iload_n 2, 1) := by decide +kernel
theorem dX4_mends_23 : decode cX4_mends 23 = .ok (.ireturn, 1) := by decide +kernel
theorem dX4_ways_0 : decode cX4_ways 0 = .ok (.aload_n 0, 1) := by decide +kernel
theorem dX4_ways_1 : decode cX4_ways 1 = .ok (.iload_n 1, 1) := by decide +kernel
theorem dX4_ways_2 : decode cX4_ways 2 = .ok (.invokevirtual 162, 3) := by decide +kernel
theorem dX4_ways_5 : decode cX4_ways 5 = .ok (.istore_n 3, 1) := by decide +kernel
theorem dX4_ways_6 : decode cX4_ways 6 = .ok (.iload_n 3, 1) := by decide +kernel
theorem dX4_ways_7 : decode cX4_ways 7 = .ok (.ifCond .eq 6, 3) := by decide +kernel
theorem dX4_ways_10 : decode cX4_ways 10 = .ok (.iload_n 3, 1) := by decide +kernel
theorem dX4_ways_11 : decode cX4_ways 11 = .ok (.i2l, 1) := by decide +kernel
theorem dX4_ways_12 : decode cX4_ways 12 = .ok (.lreturn, 1) := by decide +kernel
theorem dX4_ways_13 : decode cX4_ways 13 = .ok (.aload_n 0, 1) := by decide +kernel
theorem dX4_ways_14 : decode cX4_ways 14 = .ok (.iload_n 2, 1) := by decide +kernel
theorem dX4_ways_15 : decode cX4_ways 15 = .ok (.invokevirtual 76, 3) := by decide +kernel
theorem dX4_ways_18 : decode cX4_ways 18 = .ok (.ifCond .eq 15, 3) := by decide +kernel
theorem dX4_ways_21 : decode cX4_ways 21 = .ok (.aload_n 0, 1) := by decide +kernel
theorem dX4_ways_22 : decode cX4_ways 22 = .ok (.getfield 25, 3) := by decide +kernel
theorem dX4_ways_25 : decode cX4_ways 25 = .ok (.iload_n 1, 1) := by decide +kernel
theorem dX4_ways_26 : decode cX4_ways 26 = .ok (.iload_n 2, 1) := by decide +kernel
theorem dX4_ways_27 : decode cX4_ways 27 = .ok (.invokevirtual 165, 3) := by decide +kernel
theorem dX4_ways_30 : decode cX4_ways 30 = .ok (.goto 6, 3) := by decide +kernel
theorem dX4_ways_33 : decode cX4_ways 33 = .ok (.ldc2_w 169, 3) := by decide +kernel
theorem dX4_ways_36 : decode cX4_ways 36 = .ok (.lreturn, 1) := by decide +kernel
theorem dX4_might_0 : decode cX4_might 0 = .ok (.aload_n 0, 1) := by decide +kernel
theorem dX4_might_1 : decode cX4_might 1 = .ok (.iload_n 1, 1) := by decide +kernel
theorem dX4_might_2 : decode cX4_might 2 = .ok (.invokevirtual 162, 3) := by decide +kernel
theorem dX4_might_5 : decode cX4_might 5 = .ok (.istore_n 2, 1) := by decide +kernel
theorem dX4_might_6 : decode cX4_might 6 = .ok (.iload_n 2, 1) := by decide +kernel
theorem dX4_might_7 : decode cX4_might 7 = .ok (.ifCond .eq 5, 3) := by decide +kernel
theorem dX4_might_10 : decode cX4_might 10 = .ok (.iload_n 2, 1) := by decide +kernel
theorem dX4_might_11 : decode cX4_might 11 = .ok (.ireturn, 1) := by decide +kernel
theorem dX4_might_12 : decode cX4_might 12 = .ok (.iconst 0, 1) := by decide +kernel
theorem dX4_might_13 : decode cX4_might 13 = .ok (.istore_n 3, 1) := by decide +kernel
theorem dX4_might_14 : decode cX4_might 14 = .ok (.iconst 0, 1) := by decide +kernel
theorem dX4_might_15 : decode cX4_might 15 = .ok (.istore 4, 2) := by decide +kernel
theorem dX4_might_17 : decode cX4_might 17 = .ok (.iload 4, 2) := by decide +kernel
theorem dX4_might_19 : decode cX4_might 19 = .ok (.aload_n 0, 1) := by decide +kernel
theorem dX4_might_20 : decode cX4_might 20 = .ok (.invokevirtual 60, 3) := by decide +kernel
theorem dX4_might_23 : decode cX4_might 23 = .ok (.if_icmp .ge 27, 3) := by decide +kernel
theorem dX4_might_26 : decode cX4_might 26 = .ok (.aload_n 0, 1) := by decide +kernel
theorem dX4_might_27 : decode cX4_might 27 = .ok (.getfield 25, 3) := by decide +kernel
theorem dX4_might_30 : decode cX4_might 30 = .ok (.iload_n 1, 1) := by decide +kernel
theorem dX4_might_31 : decode cX4_might 31 = .ok (.iload 4, 2) := by decide +kernel
theorem dX4_might_33 : decode cX4_might 33 = .ok (.invokevirtual 165, 3) := by decide +kernel
theorem dX4_might_36 : decode cX4_might 36 = .ok (.lconst 0, 1) := by decide +kernel
theorem dX4_might_37 : decode cX4_might 37 = .ok (.lcmp, 1) := by decide +kernel
theorem dX4_might_38 : decode cX4_might 38 = .ok (.ifCond .le 6, 3) := by decide +kernel
theorem dX4_might_41 : decode cX4_might 41 = .ok (.iinc 3 1, 3) := by decide +kernel
theorem dX4_might_44 : decode cX4_might 44 = .ok (.iinc 4 1, 3) := by decide +kernel
theorem dX4_might_47 : decode cX4_might 47 = .ok (.goto (-30), 3) := by decide +kernel
theorem dX4_might_50 : decode cX4_might 50 = .ok (.iload_n 3, 1) := by decide +kernel
theorem dX4_might_51 : decode cX4_might 51 = .ok (.ireturn, 1) := by decide +kernel
theorem dX4_learns_0 : decode cX4_learns 0 = .ok (.aload_n 0, 1) := by decide +kernel
theorem dX4_learns_1 : decode cX4_learns 1 = .ok (.iload_n 1, 1) := by decide +kernel
theorem dX4_learns_2 : decode cX4_learns 2 = .ok (.invokevirtual 162, 3) := by decide +kernel
theorem dX4_learns_5 : decode cX4_learns 5 = .ok (.istore_n 2, 1) := by decide +kernel
theorem dX4_learns_6 : decode cX4_learns 6 = .ok (.iload_n 2, 1) := by decide +kernel
theorem dX4_learns_7 : decode cX4_learns 7 = .ok (.ifCond .eq 5, 3) := by decide +kernel
theorem dX4_learns_10 : decode cX4_learns 10 = .ok (.iload_n 2, 1) := by decide +kernel
theorem dX4_learns_11 : decode cX4_learns 11 = .ok (.ireturn, 1) := by decide +kernel
theorem dX4_learns_12 : decode cX4_learns 12 = .ok (.aload_n 0, 1) := by decide +kernel
theorem dX4_learns_13 : decode cX4_learns 13 = .ok (.iload_n 1, 1) := by decide +kernel
theorem dX4_learns_14 : decode cX4_learns 14 = .ok (.invokevirtual 171, 3) := by decide +kernel
theorem dX4_learns_17 : decode cX4_learns 17 = .ok (.ifCond .eq 7, 3) := by decide +kernel
theorem dX4_learns_20 : decode cX4_learns 20 = .ok (.iconst 1, 1) := by decide +kernel
theorem dX4_learns_21 : decode cX4_learns 21 = .ok (.goto 4, 3) := by decide +kernel
theorem dX4_learns_24 : decode cX4_learns 24 = .ok (.iconst 0, 1) := by decide +kernel
theorem dX4_learns_25 : decode cX4_learns 25 = .ok (.ireturn, 1) := by decide +kernel
theorem dX4_least_0 : decode cX4_least 0 = .ok (.aload_n 0, 1) := by decide +kernel
theorem dX4_least_1 : decode cX4_least 1 = .ok (.getfield 25, 3) := by decide +kernel
theorem dX4_least_4 : decode cX4_least 4 = .ok (.getfield 72, 3) := by decide +kernel
theorem dX4_least_7 : decode cX4_least 7 = .ok (.ifCond .ne 6, 3) := by decide +kernel
theorem dX4_least_10 : decode cX4_least 10 = .ok (.bipush (-3), 2) := by decide +kernel
theorem dX4_least_12 : decode cX4_least 12 = .ok (.ireturn, 1) := by decide +kernel
theorem dX4_least_13 : decode cX4_least 13 = .ok (.iconst 2, 1) := by decide +kernel
theorem dX4_least_14 : decode cX4_least 14 = .ok (.istore_n 1, 1) := by decide +kernel
theorem dX4_least_15 : decode cX4_least 15 = .ok (.iload_n 1, 1) := by decide +kernel
theorem dX4_least_16 : decode cX4_least 16 = .ok (.sipush 1022, 3) := by decide +kernel
theorem dX4_least_19 : decode cX4_least 19 = .ok (.if_icmp .gt 19, 3) := by decide +kernel
theorem dX4_least_22 : decode cX4_least 22 = .ok (.aload_n 0, 1) := by decide +kernel
theorem dX4_least_23 : decode cX4_least 23 = .ok (.iload_n 1, 1) := by decide +kernel
theorem dX4_least_24 : decode cX4_least 24 = .ok (.invokevirtual 171, 3) := by decide +kernel
theorem dX4_least_27 : decode cX4_least 27 = .ok (.ifCond .eq 5, 3) := by decide +kernel
theorem dX4_least_30 : decode cX4_least 30 = .ok (.iload_n 1, 1) := by decide +kernel
theorem dX4_least_31 : decode cX4_least 31 = .ok (.ireturn, 1) := by decide +kernel
theorem dX4_least_32 : decode cX4_least 32 = .ok (.iinc 1 2, 3) := by decide +kernel
theorem dX4_least_35 : decode cX4_least 35 = .ok (.goto (-20), 3) := by decide +kernel
theorem dX4_least_38 : decode cX4_least 38 = .ok (.bipush (-9), 2) := by decide +kernel
theorem dX4_least_40 : decode cX4_least 40 = .ok (.ireturn, 1) := by decide +kernel
theorem dX4_fits_0 : decode cX4_fits 0 = .ok (.iload_n 1, 1) := by decide +kernel
theorem dX4_fits_1 : decode cX4_fits 1 = .ok (.invokestatic 83, 3) := by decide +kernel
theorem dX4_fits_4 : decode cX4_fits 4 = .ok (.ifCond .eq 10, 3) := by decide +kernel
theorem dX4_fits_7 : decode cX4_fits 7 = .ok (.iload_n 2, 1) := by decide +kernel
theorem dX4_fits_8 : decode cX4_fits 8 = .ok (.invokestatic 80, 3) := by decide +kernel
theorem dX4_fits_11 : decode cX4_fits 11 = .ok (.ifCond .ne 6, 3) := by decide +kernel
theorem dX4_fits_14 : decode cX4_fits 14 = .ok (.bipush (-2), 2) := by decide +kernel
theorem dX4_fits_16 : decode cX4_fits 16 = .ok (.ireturn, 1) := by decide +kernel
theorem dX4_fits_17 : decode cX4_fits 17 = .ok (.aload_n 0, 1) := by decide +kernel
theorem dX4_fits_18 : decode cX4_fits 18 = .ok (.iload_n 1, 1) := by decide +kernel
theorem dX4_fits_19 : decode cX4_fits 19 = .ok (.invokevirtual 134, 3) := by decide +kernel
theorem dX4_fits_22 : decode cX4_fits 22 = .ok (.istore_n 3, 1) := by decide +kernel
theorem dX4_fits_23 : decode cX4_fits 23 = .ok (.iload_n 3, 1) := by decide +kernel
theorem dX4_fits_24 : decode cX4_fits 24 = .ok (.ifCond .eq 5, 3) := by decide +kernel
theorem dX4_fits_27 : decode cX4_fits 27 = .ok (.iload_n 3, 1) := by decide +kernel
theorem dX4_fits_28 : decode cX4_fits 28 = .ok (.ireturn, 1) := by decide +kernel
theorem dX4_fits_29 : decode cX4_fits 29 = .ok (.aload_n 0, 1) := by decide +kernel
theorem dX4_fits_30 : decode cX4_fits 30 = .ok (.iload_n 1, 1) := by decide +kernel
theorem dX4_fits_31 : decode cX4_fits 31 = .ok (.invokevirtual 137, 3) := by decide +kernel
theorem dX4_fits_34 : decode cX4_fits 34 = .ok (.aload_n 0, 1) := by decide +kernel
theorem dX4_fits_35 : decode cX4_fits 35 = .ok (.getfield 39, 3) := by decide +kernel
theorem dX4_fits_38 : decode cX4_fits 38 = .ok (.aload_n 0, 1) := by decide +kernel
theorem dX4_fits_39 : decode cX4_fits 39 = .ok (.getfield 32, 3) := by decide +kernel
theorem dX4_fits_42 : decode cX4_fits 42 = .ok (.aload_n 0, 1) := by decide +kernel
theorem dX4_fits_43 : decode cX4_fits 43 = .ok (.invokevirtual 174, 3) := by decide +kernel
theorem dX4_fits_46 : decode cX4_fits 46 = .ok (.invokevirtual 177, 3) := by decide +kernel
theorem dX4_fits_49 : decode cX4_fits 49 = .ok (.aload_n 0, 1) := by decide +kernel
theorem dX4_fits_50 : decode cX4_fits 50 = .ok (.getfield 32, 3) := by decide +kernel
theorem dX4_fits_53 : decode cX4_fits 53 = .ok (.aload_n 0, 1) := by decide +kernel
theorem dX4_fits_54 : decode cX4_fits 54 = .ok (.getfield 39, 3) := by decide +kernel
theorem dX4_fits_57 : decode cX4_fits 57 = .ok (.invokevirtual 181, 3) := by decide +kernel
theorem dX4_fits_60 : decode cX4_fits 60 = .ok (.aload_n 0, 1) := by decide +kernel
theorem dX4_fits_61 : decode cX4_fits 61 = .ok (.getfield 32, 3) := by decide +kernel
theorem dX4_fits_64 : decode cX4_fits 64 = .ok (.getfield 140, 3) := by decide +kernel
theorem dX4_fits_67 : decode cX4_fits 67 = .ok (.if_icmp .ne 19, 3) := by decide +kernel
theorem dX4_fits_70 : decode cX4_fits 70 = .ok (.aload_n 0, 1) := by decide +kernel
theorem dX4_fits_71 : decode cX4_fits 71 = .ok (.getfield 39, 3) := by decide +kernel
theorem dX4_fits_74 : decode cX4_fits 74 = .ok (.iconst 0, 1) := by decide +kernel
theorem dX4_fits_75 : decode cX4_fits 75 = .ok (.invokevirtual 153, 3) := by decide +kernel
theorem dX4_fits_78 : decode cX4_fits 78 = .ok (.iload_n 2, 1) := by decide +kernel
theorem dX4_fits_79 : decode cX4_fits 79 = .ok (.if_icmp .ne 7, 3) := by decide +kernel
theorem dX4_fits_82 : decode cX4_fits 82 = .ok (.iconst 1, 1) := by decide +kernel
theorem dX4_fits_83 : decode cX4_fits 83 = .ok (.goto 4, 3) := by decide +kernel
theorem dX4_fits_86 : decode cX4_fits 86 = .ok (.iconst 0, 1) := by decide +kernel
theorem dX4_fits_87 : decode cX4_fits 87 = .ok (.ireturn, 1) := by decide +kernel
theorem dX4_both_0 : decode cX4_both 0 = .ok (.iload_n 1, 1) := by decide +kernel
theorem dX4_both_1 : decode cX4_both 1 = .ok (.invokestatic 83, 3) := by decide +kernel
theorem dX4_both_4 : decode cX4_both 4 = .ok (.ifCond .ne 5, 3) := by decide +kernel
theorem dX4_both_7 : decode cX4_both 7 = .ok (.iconst (-1), 1) := by decide +kernel
theorem dX4_both_8 : decode cX4_both 8 = .ok (.ireturn, 1) := by decide +kernel
theorem dX4_both_9 : decode cX4_both 9 = .ok (.aload_n 0, 1) := by decide +kernel
theorem dX4_both_10 : decode cX4_both 10 = .ok (.iload_n 2, 1) := by decide +kernel
theorem dX4_both_11 : decode cX4_both 11 = .ok (.invokevirtual 184, 3) := by decide +kernel
theorem dX4_both_14 : decode cX4_both 14 = .ok (.ifCond .ne 6, 3) := by decide +kernel
theorem dX4_both_17 : decode cX4_both 17 = .ok (.bipush (-2), 2) := by decide +kernel
theorem dX4_both_19 : decode cX4_both 19 = .ok (.ireturn, 1) := by decide +kernel
theorem dX4_both_20 : decode cX4_both 20 = .ok (.aload_n 0, 1) := by decide +kernel
theorem dX4_both_21 : decode cX4_both 21 = .ok (.iload_n 1, 1) := by decide +kernel
theorem dX4_both_22 : decode cX4_both 22 = .ok (.invokevirtual 64, 3) := by decide +kernel
theorem dX4_both_25 : decode cX4_both 25 = .ok (.astore_n 3, 1) := by decide +kernel
theorem dX4_both_26 : decode cX4_both 26 = .ok (.aload_n 3, 1) := by decide +kernel
theorem dX4_both_27 : decode cX4_both 27 = .ok (.getfield 92, 3) := by decide +kernel
theorem dX4_both_30 : decode cX4_both 30 = .ok (.iconst 3, 1) := by decide +kernel
theorem dX4_both_31 : decode cX4_both 31 = .ok (.if_icmp .ne 8, 3) := by decide +kernel
theorem dX4_both_34 : decode cX4_both 34 = .ok (.bipush (-9), 2) := by decide +kernel
theorem dX4_both_36 : decode cX4_both 36 = .ok (.goto 9, 3) := by decide +kernel
theorem dX4_both_39 : decode cX4_both 39 = .ok (.aload_n 0, 1) := by decide +kernel
theorem dX4_both_40 : decode cX4_both 40 = .ok (.aload_n 3, 1) := by decide +kernel
theorem dX4_both_41 : decode cX4_both 41 = .ok (.iload_n 2, 1) := by decide +kernel
theorem dX4_both_42 : decode cX4_both 42 = .ok (.invokevirtual 187, 3) := by decide +kernel
theorem dX4_both_45 : decode cX4_both 45 = .ok (.ireturn, 1) := by decide +kernel
theorem dX4_pair_0 : decode cX4_pair 0 = .ok (.iload_n 1, 1) := by decide +kernel
theorem dX4_pair_1 : decode cX4_pair 1 = .ok (.invokestatic 83, 3) := by decide +kernel
theorem dX4_pair_4 : decode cX4_pair 4 = .ok (.ifCond .eq 19, 3) := by decide +kernel
theorem dX4_pair_7 : decode cX4_pair 7 = .ok (.iload_n 2, 1) := by decide +kernel
theorem dX4_pair_8 : decode cX4_pair 8 = .ok (.invokestatic 83, 3) := by decide +kernel
theorem dX4_pair_11 : decode cX4_pair 11 = .ok (.ifCond .eq 12, 3) := by decide +kernel
theorem dX4_pair_14 : decode cX4_pair 14 = .ok (.aload_n 0, 1) := by decide +kernel
theorem dX4_pair_15 : decode cX4_pair 15 = .ok (.iload 4, 2) := by decide +kernel
theorem dX4_pair_17 : decode cX4_pair 17 = .ok (.invokevirtual 76, 3) := by decide +kernel
theorem dX4_pair_20 : decode cX4_pair 20 = .ok (.ifCond .ne 5, 3) := by decide +kernel
theorem dX4_pair_23 : decode cX4_pair 23 = .ok (.iconst (-1), 1) := by decide +kernel
theorem dX4_pair_24 : decode cX4_pair 24 = .ok (.ireturn, 1) := by decide +kernel
theorem dX4_pair_25 : decode cX4_pair 25 = .ok (.iload_n 1, 1) := by decide +kernel
theorem dX4_pair_26 : decode cX4_pair 26 = .ok (.iload_n 2, 1) := by decide +kernel
theorem dX4_pair_27 : decode cX4_pair 27 = .ok (.if_icmp .ne 6, 3) := by decide +kernel
theorem dX4_pair_30 : decode cX4_pair 30 = .ok (.bipush (-3), 2) := by decide +kernel
theorem dX4_pair_32 : decode cX4_pair 32 = .ok (.ireturn, 1) := by decide +kernel
theorem dX4_pair_33 : decode cX4_pair 33 = .ok (.aload_n 0, 1) := by decide +kernel
theorem dX4_pair_34 : decode cX4_pair 34 = .ok (.iload_n 3, 1) := by decide +kernel
theorem dX4_pair_35 : decode cX4_pair 35 = .ok (.invokevirtual 184, 3) := by decide +kernel
theorem dX4_pair_38 : decode cX4_pair 38 = .ok (.ifCond .ne 6, 3) := by decide +kernel
theorem dX4_pair_41 : decode cX4_pair 41 = .ok (.bipush (-2), 2) := by decide +kernel
theorem dX4_pair_43 : decode cX4_pair 43 = .ok (.ireturn, 1) := by decide +kernel
theorem dX4_pair_44 : decode cX4_pair 44 = .ok (.aload_n 0, 1) := by decide +kernel
theorem dX4_pair_45 : decode cX4_pair 45 = .ok (.iload_n 1, 1) := by decide +kernel
theorem dX4_pair_46 : decode cX4_pair 46 = .ok (.invokevirtual 64, 3) := by decide +kernel
theorem dX4_pair_49 : decode cX4_pair 49 = .ok (.astore 5, 2) := by decide +kernel
theorem dX4_pair_51 : decode cX4_pair 51 = .ok (.aload_n 0, 1) := by decide +kernel
theorem dX4_pair_52 : decode cX4_pair 52 = .ok (.iload_n 2, 1) := by decide +kernel
theorem dX4_pair_53 : decode cX4_pair 53 = .ok (.invokevirtual 64, 3) := by decide +kernel
theorem dX4_pair_56 : decode cX4_pair 56 = .ok (.astore 6, 2) := by decide +kernel
theorem dX4_pair_58 : decode cX4_pair 58 = .ok (.aload 5, 2) := by decide +kernel
theorem dX4_pair_60 : decode cX4_pair 60 = .ok (.getfield 92, 3) := by decide +kernel
theorem dX4_pair_63 : decode cX4_pair 63 = .ok (.iconst 3, 1) := by decide +kernel
theorem dX4_pair_64 : decode cX4_pair 64 = .ok (.if_icmp .eq 12, 3) := by decide +kernel
theorem dX4_pair_67 : decode cX4_pair 67 = .ok (.aload 6, 2) := by decide +kernel
theorem dX4_pair_69 : decode cX4_pair 69 = .ok (.getfield 92, 3) := by decide +kernel
theorem dX4_pair_72 : decode cX4_pair 72 = .ok (.iconst 3, 1) := by decide +kernel
theorem dX4_pair_73 : decode cX4_pair 73 = .ok (.if_icmp .ne 6, 3) := by decide +kernel
theorem dX4_pair_76 : decode cX4_pair 76 = .ok (.bipush (-9), 2) := by decide +kernel
theorem dX4_pair_78 : decode cX4_pair 78 = .ok (.ireturn, 1) := by decide +kernel
theorem dX4_pair_79 : decode cX4_pair 79 = .ok (.aload_n 0, 1) := by decide +kernel
theorem dX4_pair_80 : decode cX4_pair 80 = .ok (.aload 5, 2) := by decide +kernel
theorem dX4_pair_82 : decode cX4_pair 82 = .ok (.iload_n 3, 1) := by decide +kernel
theorem dX4_pair_83 : decode cX4_pair 83 = .ok (.invokevirtual 187, 3) := by decide +kernel
theorem dX4_pair_86 : decode cX4_pair 86 = .ok (.aload_n 0, 1) := by decide +kernel
theorem dX4_pair_87 : decode cX4_pair 87 = .ok (.aload 6, 2) := by decide +kernel
theorem dX4_pair_89 : decode cX4_pair 89 = .ok (.iload_n 3, 1) := by decide +kernel
theorem dX4_pair_90 : decode cX4_pair 90 = .ok (.iconst 1, 1) := by decide +kernel
theorem dX4_pair_91 : decode cX4_pair 91 = .ok (.iload 4, 2) := by decide +kernel
theorem dX4_pair_93 : decode cX4_pair 93 = .ok (.ishl, 1) := by decide +kernel
theorem dX4_pair_94 : decode cX4_pair 94 = .ok (.ixor, 1) := by decide +kernel
theorem dX4_pair_95 : decode cX4_pair 95 = .ok (.invokevirtual 187, 3) := by decide +kernel
theorem dX4_pair_98 : decode cX4_pair 98 = .ok (.ixor, 1) := by decide +kernel
theorem dX4_pair_99 : decode cX4_pair 99 = .ok (.ireturn, 1) := by decide +kernel
theorem dX4_total_0 : decode cX4_total 0 = .ok (.iload_n 1, 1) := by decide +kernel
theorem dX4_total_1 : decode cX4_total 1 = .ok (.tableswitch 107 0 6 #[43, 48, 53, 58, 63, 68, 84], 43) := by decide +kernel
theorem dX4_total_44 : decode cX4_total 44 = .ok (.aload_n 0, 1) := by decide +kernel
theorem dX4_total_45 : decode cX4_total 45 = .ok (.invokevirtual 60, 3) := by decide +kernel
theorem dX4_total_48 : decode cX4_total 48 = .ok (.ireturn, 1) := by decide +kernel
theorem dX4_total_49 : decode cX4_total 49 = .ok (.aload_n 0, 1) := by decide +kernel
theorem dX4_total_50 : decode cX4_total 50 = .ok (.getfield 50, 3) := by decide +kernel
theorem dX4_total_53 : decode cX4_total 53 = .ok (.ireturn, 1) := by decide +kernel
theorem dX4_total_54 : decode cX4_total 54 = .ok (.aload_n 0, 1) := by decide +kernel
theorem dX4_total_55 : decode cX4_total 55 = .ok (.getfield 53, 3) := by decide +kernel
theorem dX4_total_58 : decode cX4_total 58 = .ok (.ireturn, 1) := by decide +kernel
theorem dX4_total_59 : decode cX4_total 59 = .ok (.aload_n 0, 1) := by decide +kernel
theorem dX4_total_60 : decode cX4_total 60 = .ok (.getfield 56, 3) := by decide +kernel
theorem dX4_total_63 : decode cX4_total 63 = .ok (.ireturn, 1) := by decide +kernel
theorem dX4_total_64 : decode cX4_total 64 = .ok (.aload_n 0, 1) := by decide +kernel
theorem dX4_total_65 : decode cX4_total 65 = .ok (.invokevirtual 190, 3) := by decide +kernel
theorem dX4_total_68 : decode cX4_total 68 = .ok (.ireturn, 1) := by decide +kernel
theorem dX4_total_69 : decode cX4_total 69 = .ok (.aload_n 0, 1) := by decide +kernel
theorem dX4_total_70 : decode cX4_total 70 = .ok (.getfield 25, 3) := by decide +kernel
theorem dX4_total_73 : decode cX4_total 73 = .ok (.getfield 72, 3) := by decide +kernel
theorem dX4_total_76 : decode cX4_total 76 = .ok (.ifCond .eq 7, 3) := by decide +kernel
theorem dX4_total_79 : decode cX4_total 79 = .ok (.iconst 1, 1) := by decide +kernel
theorem dX4_total_80 : decode cX4_total 80 = .ok (.goto 4, 3) := by decide +kernel
theorem dX4_total_83 : decode cX4_total 83 = .ok (.iconst 0, 1) := by decide +kernel
theorem dX4_total_84 : decode cX4_total 84 = .ok (.ireturn, 1) := by decide +kernel
theorem dX4_total_85 : decode cX4_total 85 = .ok (.aload_n 0, 1) := by decide +kernel
theorem dX4_total_86 : decode cX4_total 86 = .ok (.getfield 25, 3) := by decide +kernel
theorem dX4_total_89 : decode cX4_total 89 = .ok (.getfield 72, 3) := by decide +kernel
theorem dX4_total_92 : decode cX4_total 92 = .ok (.ifCond .eq 13, 3) := by decide +kernel
theorem dX4_total_95 : decode cX4_total 95 = .ok (.aload_n 0, 1) := by decide +kernel
theorem dX4_total_96 : decode cX4_total 96 = .ok (.getfield 25, 3) := by decide +kernel
theorem dX4_total_99 : decode cX4_total 99 = .ok (.getfield 116, 3) := by decide +kernel
theorem dX4_total_102 : decode cX4_total 102 = .ok (.goto 5, 3) := by decide +kernel
theorem dX4_total_105 : decode cX4_total 105 = .ok (.bipush (-9), 2) := by decide +kernel
theorem dX4_total_107 : decode cX4_total 107 = .ok (.ireturn, 1) := by decide +kernel
theorem dX4_total_108 : decode cX4_total 108 = .ok (.bipush (-2), 2) := by decide +kernel
theorem dX4_total_110 : decode cX4_total 110 = .ok (.ireturn, 1) := by decide +kernel
theorem dX4_count_0 : decode cX4_count 0 = .ok (.iconst 1, 1) := by decide +kernel
theorem dX4_count_1 : decode cX4_count 1 = .ok (.aload_n 0, 1) := by decide +kernel
theorem dX4_count_2 : decode cX4_count 2 = .ok (.getfield 43, 3) := by decide +kernel
theorem dX4_count_5 : decode cX4_count 5 = .ok (.ishl, 1) := by decide +kernel
theorem dX4_count_6 : decode cX4_count 6 = .ok (.ireturn, 1) := by decide +kernel
theorem dX4_isRecord_0 : decode cX4_isRecord 0 = .ok (.iload_n 1, 1) := by decide +kernel
theorem dX4_isRecord_1 : decode cX4_isRecord 1 = .ok (.ifCond .lt 15, 3) := by decide +kernel
theorem dX4_isRecord_4 : decode cX4_isRecord 4 = .ok (.iload_n 1, 1) := by decide +kernel
theorem dX4_isRecord_5 : decode cX4_isRecord 5 = .ok (.aload_n 0, 1) := by decide +kernel
theorem dX4_isRecord_6 : decode cX4_isRecord 6 = .ok (.invokevirtual 60, 3) := by decide +kernel
theorem dX4_isRecord_9 : decode cX4_isRecord 9 = .ok (.if_icmp .ge 7, 3) := by decide +kernel
theorem dX4_isRecord_12 : decode cX4_isRecord 12 = .ok (.iconst 1, 1) := by decide +kernel
theorem dX4_isRecord_13 : decode cX4_isRecord 13 = .ok (.goto 4, 3) := by decide +kernel
theorem dX4_isRecord_16 : decode cX4_isRecord 16 = .ok (.iconst 0, 1) := by decide +kernel
theorem dX4_isRecord_17 : decode cX4_isRecord 17 = .ok (.ireturn, 1) := by decide +kernel
theorem dX4_isRecordSet_0 : decode cX4_isRecordSet 0 = .ok (.iload_n 1, 1) := by decide +kernel
theorem dX4_isRecordSet_1 : decode cX4_isRecordSet 1 = .ok (.ifCond .lt 17, 3) := by decide +kernel
theorem dX4_isRecordSet_4 : decode cX4_isRecordSet 4 = .ok (.iload_n 1, 1) := by decide +kernel
theorem dX4_isRecordSet_5 : decode cX4_isRecordSet 5 = .ok (.iconst 1, 1) := by decide +kernel
theorem dX4_isRecordSet_6 : decode cX4_isRecordSet 6 = .ok (.aload_n 0, 1) := by decide +kernel
theorem dX4_isRecordSet_7 : decode cX4_isRecordSet 7 = .ok (.invokevirtual 60, 3) := by decide +kernel
theorem dX4_isRecordSet_10 : decode cX4_isRecordSet 10 = .ok (.ishl, 1) := by decide +kernel
theorem dX4_isRecordSet_11 : decode cX4_isRecordSet 11 = .ok (.if_icmp .ge 7, 3) := by decide +kernel
theorem dX4_isRecordSet_14 : decode cX4_isRecordSet 14 = .ok (.iconst 1, 1) := by decide +kernel
theorem dX4_isRecordSet_15 : decode cX4_isRecordSet 15 = .ok (.goto 4, 3) := by decide +kernel
theorem dX4_isRecordSet_18 : decode cX4_isRecordSet 18 = .ok (.iconst 0, 1) := by decide +kernel
theorem dX4_isRecordSet_19 : decode cX4_isRecordSet 19 = .ok (.ireturn, 1) := by decide +kernel
theorem dX4_isStore_0 : decode cX4_isStore 0 = .ok (.iload_n 0, 1) := by decide +kernel
theorem dX4_isStore_1 : decode cX4_isStore 1 = .ok (.iconst 1, 1) := by decide +kernel
theorem dX4_isStore_2 : decode cX4_isStore 2 = .ok (.if_icmp .lt 13, 3) := by decide +kernel
theorem dX4_isStore_5 : decode cX4_isStore 5 = .ok (.iload_n 0, 1) := by decide +kernel
theorem dX4_isStore_6 : decode cX4_isStore 6 = .ok (.bipush 9, 2) := by decide +kernel
theorem dX4_isStore_8 : decode cX4_isStore 8 = .ok (.if_icmp .gt 7, 3) := by decide +kernel
theorem dX4_isStore_11 : decode cX4_isStore 11 = .ok (.iconst 1, 1) := by decide +kernel
theorem dX4_isStore_12 : decode cX4_isStore 12 = .ok (.goto 4, 3) := by decide +kernel
theorem dX4_isStore_15 : decode cX4_isStore 15 = .ok (.iconst 0, 1) := by decide +kernel
theorem dX4_isStore_16 : decode cX4_isStore 16 = .ok (.ireturn, 1) := by decide +kernel
theorem dX4_isNumber_0 : decode cX4_isNumber 0 = .ok (.iload_n 0, 1) := by decide +kernel
theorem dX4_isNumber_1 : decode cX4_isNumber 1 = .ok (.ifCond .lt 13, 3) := by decide +kernel
theorem dX4_isNumber_4 : decode cX4_isNumber 4 = .ok (.iload_n 0, 1) := by decide +kernel
theorem dX4_isNumber_5 : decode cX4_isNumber 5 = .ok (.bipush 97, 2) := by decide +kernel
theorem dX4_isNumber_7 : decode cX4_isNumber 7 = .ok (.if_icmp .ge 7, 3) := by decide +kernel
theorem dX4_isNumber_10 : decode cX4_isNumber 10 = .ok (.iconst 1, 1) := by decide +kernel
theorem dX4_isNumber_11 : decode cX4_isNumber 11 = .ok (.goto 4, 3) := by decide +kernel
theorem dX4_isNumber_14 : decode cX4_isNumber 14 = .ok (.iconst 0, 1) := by decide +kernel
theorem dX4_isNumber_15 : decode cX4_isNumber 15 = .ok (.ireturn, 1) := by decide +kernel
theorem dX4_isKind_0 : decode cX4_isKind 0 = .ok (.iload_n 0, 1) := by decide +kernel
theorem dX4_isKind_1 : decode cX4_isKind 1 = .ok (.ifCond .lt 12, 3) := by decide +kernel
theorem dX4_isKind_4 : decode cX4_isKind 4 = .ok (.iload_n 0, 1) := by decide +kernel
theorem dX4_isKind_5 : decode cX4_isKind 5 = .ok (.iconst 3, 1) := by decide +kernel
theorem dX4_isKind_6 : decode cX4_isKind 6 = .ok (.if_icmp .gt 7, 3) := by decide +kernel
theorem dX4_isKind_9 : decode cX4_isKind 9 = .ok (.iconst 1, 1) := by decide +kernel
theorem dX4_isKind_10 : decode cX4_isKind 10 = .ok (.goto 4, 3) := by decide +kernel
theorem dX4_isKind_13 : decode cX4_isKind 13 = .ok (.iconst 0, 1) := by decide +kernel
theorem dX4_isKind_14 : decode cX4_isKind 14 = .ok (.ireturn, 1) := by decide +kernel
theorem dX4_isLie_0 : decode cX4_isLie 0 = .ok (.iload_n 0, 1) := by decide +kernel
theorem dX4_isLie_1 : decode cX4_isLie 1 = .ok (.iconst 1, 1) := by decide +kernel
theorem dX4_isLie_2 : decode cX4_isLie 2 = .ok (.if_icmp .lt 13, 3) := by decide +kernel
theorem dX4_isLie_5 : decode cX4_isLie 5 = .ok (.iload_n 0, 1) := by decide +kernel
theorem dX4_isLie_6 : decode cX4_isLie 6 = .ok (.bipush 97, 2) := by decide +kernel
theorem dX4_isLie_8 : decode cX4_isLie 8 = .ok (.if_icmp .ge 7, 3) := by decide +kernel
theorem dX4_isLie_11 : decode cX4_isLie 11 = .ok (.iconst 1, 1) := by decide +kernel
theorem dX4_isLie_12 : decode cX4_isLie 12 = .ok (.goto 4, 3) := by decide +kernel
theorem dX4_isLie_15 : decode cX4_isLie 15 = .ok (.iconst 0, 1) := by decide +kernel
theorem dX4_isLie_16 : decode cX4_isLie 16 = .ok (.ireturn, 1) := by decide +kernel
theorem dX4_isKeptFrom_0 : decode cX4_isKeptFrom 0 = .ok (.iload_n 0, 1) := by decide +kernel
theorem dX4_isKeptFrom_1 : decode cX4_isKeptFrom 1 = .ok (.iconst 1, 1) := by decide +kernel
theorem dX4_isKeptFrom_2 : decode cX4_isKeptFrom 2 = .ok (.if_icmp .lt 12, 3) := by decide +kernel
theorem dX4_isKeptFrom_5 : decode cX4_isKeptFrom 5 = .ok (.iload_n 0, 1) := by decide +kernel
theorem dX4_isKeptFrom_6 : decode cX4_isKeptFrom 6 = .ok (.iconst 2, 1) := by decide +kernel
theorem dX4_isKeptFrom_7 : decode cX4_isKeptFrom 7 = .ok (.if_icmp .gt 7, 3) := by decide +kernel
theorem dX4_isKeptFrom_10 : decode cX4_isKeptFrom 10 = .ok (.iconst 1, 1) := by decide +kernel
theorem dX4_isKeptFrom_11 : decode cX4_isKeptFrom 11 = .ok (.goto 4, 3) := by decide +kernel
theorem dX4_isKeptFrom_14 : decode cX4_isKeptFrom 14 = .ok (.iconst 0, 1) := by decide +kernel
theorem dX4_isKeptFrom_15 : decode cX4_isKeptFrom 15 = .ok (.ireturn, 1) := by decide +kernel
theorem dX4_isSeed_0 : decode cX4_isSeed 0 = .ok (.iload_n 0, 1) := by decide +kernel
theorem dX4_isSeed_1 : decode cX4_isSeed 1 = .ok (.ifCond .lt 7, 3) := by decide +kernel
theorem dX4_isSeed_4 : decode cX4_isSeed 4 = .ok (.iconst 1, 1) := by decide +kernel
theorem dX4_isSeed_5 : decode cX4_isSeed 5 = .ok (.goto 4, 3) := by decide +kernel
theorem dX4_isSeed_8 : decode cX4_isSeed 8 = .ok (.iconst 0, 1) := by decide +kernel
theorem dX4_isSeed_9 : decode cX4_isSeed 9 = .ok (.ireturn, 1) := by decide +kernel
theorem dX4_refusalOfFetch_0 : decode cX4_refusalOfFetch 0 = .ok (.iload_n 1, 1) := by decide +kernel
theorem dX4_refusalOfFetch_1 : decode cX4_refusalOfFetch 1 = .ok (.invokestatic 83, 3) := by decide +kernel
theorem dX4_refusalOfFetch_4 : decode cX4_refusalOfFetch 4 = .ok (.ifCond .ne 6, 3) := by decide +kernel
theorem dX4_refusalOfFetch_7 : decode cX4_refusalOfFetch 7 = .ok (.bipush (-2), 2) := by decide +kernel
theorem dX4_refusalOfFetch_9 : decode cX4_refusalOfFetch 9 = .ok (.ireturn, 1) := by decide +kernel
theorem dX4_refusalOfFetch_10 : decode cX4_refusalOfFetch 10 = .ok (.aload_n 0, 1) := by decide +kernel
theorem dX4_refusalOfFetch_11 : decode cX4_refusalOfFetch 11 = .ok (.getfield 25, 3) := by decide +kernel
theorem dX4_refusalOfFetch_14 : decode cX4_refusalOfFetch 14 = .ok (.getfield 72, 3) := by decide +kernel
theorem dX4_refusalOfFetch_17 : decode cX4_refusalOfFetch 17 = .ok (.ifCond .eq 22, 3) := by decide +kernel
theorem dX4_refusalOfFetch_20 : decode cX4_refusalOfFetch 20 = .ok (.aload_n 0, 1) := by decide +kernel
theorem dX4_refusalOfFetch_21 : decode cX4_refusalOfFetch 21 = .ok (.iload_n 1, 1) := by decide +kernel
theorem dX4_refusalOfFetch_22 : decode cX4_refusalOfFetch 22 = .ok (.invokevirtual 159, 3) := by decide +kernel
theorem dX4_refusalOfFetch_25 : decode cX4_refusalOfFetch 25 = .ok (.aload_n 0, 1) := by decide +kernel
theorem dX4_refusalOfFetch_26 : decode cX4_refusalOfFetch 26 = .ok (.getfield 25, 3) := by decide +kernel
theorem dX4_refusalOfFetch_29 : decode cX4_refusalOfFetch 29 = .ok (.getfield 116, 3) := by decide +kernel
theorem dX4_refusalOfFetch_32 : decode cX4_refusalOfFetch 32 = .ok (.if_icmp .le 7, 3) := by decide +kernel
theorem dX4_refusalOfFetch_35 : decode cX4_refusalOfFetch 35 = .ok (.iconst 0, 1) := by decide +kernel
theorem dX4_refusalOfFetch_36 : decode cX4_refusalOfFetch 36 = .ok (.goto 5, 3) := by decide +kernel
theorem dX4_refusalOfFetch_39 : decode cX4_refusalOfFetch 39 = .ok (.bipush (-3), 2) := by decide +kernel
theorem dX4_refusalOfFetch_41 : decode cX4_refusalOfFetch 41 = .ok (.ireturn, 1) := by decide +kernel
theorem dX4_refusalOfSet_0 : decode cX4_refusalOfSet 0 = .ok (.aload_n 0, 1) := by decide +kernel
theorem dX4_refusalOfSet_1 : decode cX4_refusalOfSet 1 = .ok (.getfield 25, 3) := by decide +kernel
theorem dX4_refusalOfSet_4 : decode cX4_refusalOfSet 4 = .ok (.getfield 72, 3) := by decide +kernel
theorem dX4_refusalOfSet_7 : decode cX4_refusalOfSet 7 = .ok (.ifCond .ne 6, 3) := by decide +kernel
theorem dX4_refusalOfSet_10 : decode cX4_refusalOfSet 10 = .ok (.bipush (-3), 2) := by decide +kernel
theorem dX4_refusalOfSet_12 : decode cX4_refusalOfSet 12 = .ok (.ireturn, 1) := by decide +kernel
theorem dX4_refusalOfSet_13 : decode cX4_refusalOfSet 13 = .ok (.iload_n 1, 1) := by decide +kernel
theorem dX4_refusalOfSet_14 : decode cX4_refusalOfSet 14 = .ok (.ifCond .eq 11, 3) := by decide +kernel
theorem dX4_refusalOfSet_17 : decode cX4_refusalOfSet 17 = .ok (.iload_n 1, 1) := by decide +kernel
theorem dX4_refusalOfSet_18 : decode cX4_refusalOfSet 18 = .ok (.sipush (-1023), 3) := by decide +kernel
theorem dX4_refusalOfSet_21 : decode cX4_refusalOfSet 21 = .ok (.iand, 1) := by decide +kernel
theorem dX4_refusalOfSet_22 : decode cX4_refusalOfSet 22 = .ok (.ifCond .eq 8, 3) := by decide +kernel
theorem dX4_refusalOfSet_25 : decode cX4_refusalOfSet 25 = .ok (.bipush (-2), 2) := by decide +kernel
theorem dX4_refusalOfSet_27 : decode cX4_refusalOfSet 27 = .ok (.goto 4, 3) := by decide +kernel
theorem dX4_refusalOfSet_30 : decode cX4_refusalOfSet 30 = .ok (.iconst 0, 1) := by decide +kernel
theorem dX4_refusalOfSet_31 : decode cX4_refusalOfSet 31 = .ok (.ireturn, 1) := by decide +kernel
theorem dX4_storeOf_0 : decode cX4_storeOf 0 = .ok (.aload_n 0, 1) := by decide +kernel
theorem dX4_storeOf_1 : decode cX4_storeOf 1 = .ok (.getfield 18, 3) := by decide +kernel
theorem dX4_storeOf_4 : decode cX4_storeOf 4 = .ok (.iload_n 1, 1) := by decide +kernel
theorem dX4_storeOf_5 : decode cX4_storeOf 5 = .ok (.iconst 1, 1) := by decide +kernel
theorem dX4_storeOf_6 : decode cX4_storeOf 6 = .ok (.isub, 1) := by decide +kernel
theorem dX4_storeOf_7 : decode cX4_storeOf 7 = .ok (.aaload, 1) := by decide +kernel
theorem dX4_storeOf_8 : decode cX4_storeOf 8 = .ok (.areturn, 1) := by decide +kernel
theorem dX4_trueStores_0 : decode cX4_trueStores 0 = .ok (.iconst 0, 1) := by decide +kernel
theorem dX4_trueStores_1 : decode cX4_trueStores 1 = .ok (.istore_n 1, 1) := by decide +kernel
theorem dX4_trueStores_2 : decode cX4_trueStores 2 = .ok (.iconst 1, 1) := by decide +kernel
theorem dX4_trueStores_3 : decode cX4_trueStores 3 = .ok (.istore_n 2, 1) := by decide +kernel
theorem dX4_trueStores_4 : decode cX4_trueStores 4 = .ok (.iload_n 2, 1) := by decide +kernel
theorem dX4_trueStores_5 : decode cX4_trueStores 5 = .ok (.bipush 9, 2) := by decide +kernel
theorem dX4_trueStores_7 : decode cX4_trueStores 7 = .ok (.if_icmp .gt 23, 3) := by decide +kernel
theorem dX4_trueStores_10 : decode cX4_trueStores 10 = .ok (.aload_n 0, 1) := by decide +kernel
theorem dX4_trueStores_11 : decode cX4_trueStores 11 = .ok (.iload_n 2, 1) := by decide +kernel
theorem dX4_trueStores_12 : decode cX4_trueStores 12 = .ok (.invokevirtual 64, 3) := by decide +kernel
theorem dX4_trueStores_15 : decode cX4_trueStores 15 = .ok (.getfield 92, 3) := by decide +kernel
theorem dX4_trueStores_18 : decode cX4_trueStores 18 = .ok (.ifCond .ne 6, 3) := by decide +kernel
theorem dX4_trueStores_21 : decode cX4_trueStores 21 = .ok (.iinc 1 1, 3) := by decide +kernel
theorem dX4_trueStores_24 : decode cX4_trueStores 24 = .ok (.iinc 2 1, 3) := by decide +kernel
theorem dX4_trueStores_27 : decode cX4_trueStores 27 = .ok (.goto (-23), 3) := by decide +kernel
theorem dX4_trueStores_30 : decode cX4_trueStores 30 = .ok (.iload_n 1, 1) := by decide +kernel
theorem dX4_trueStores_31 : decode cX4_trueStores 31 = .ok (.ireturn, 1) := by decide +kernel
theorem dX4_tellingStores_0 : decode cX4_tellingStores 0 = .ok (.iconst 0, 1) := by decide +kernel
theorem dX4_tellingStores_1 : decode cX4_tellingStores 1 = .ok (.istore_n 2, 1) := by decide +kernel
theorem dX4_tellingStores_2 : decode cX4_tellingStores 2 = .ok (.iconst 1, 1) := by decide +kernel
theorem dX4_tellingStores_3 : decode cX4_tellingStores 3 = .ok (.istore_n 3, 1) := by decide +kernel
theorem dX4_tellingStores_4 : decode cX4_tellingStores 4 = .ok (.iload_n 3, 1) := by decide +kernel
theorem dX4_tellingStores_5 : decode cX4_tellingStores 5 = .ok (.iload_n 1, 1) := by decide +kernel
theorem dX4_tellingStores_6 : decode cX4_tellingStores 6 = .ok (.if_icmp .gt 24, 3) := by decide +kernel
theorem dX4_tellingStores_9 : decode cX4_tellingStores 9 = .ok (.aload_n 0, 1) := by decide +kernel
theorem dX4_tellingStores_10 : decode cX4_tellingStores 10 = .ok (.iload_n 3, 1) := by decide +kernel
theorem dX4_tellingStores_11 : decode cX4_tellingStores 11 = .ok (.invokevirtual 64, 3) := by decide +kernel
theorem dX4_tellingStores_14 : decode cX4_tellingStores 14 = .ok (.getfield 92, 3) := by decide +kernel
theorem dX4_tellingStores_17 : decode cX4_tellingStores 17 = .ok (.iconst 3, 1) := by decide +kernel
theorem dX4_tellingStores_18 : decode cX4_tellingStores 18 = .ok (.if_icmp .eq 6, 3) := by decide +kernel
theorem dX4_tellingStores_21 : decode cX4_tellingStores 21 = .ok (.iinc 2 1, 3) := by decide +kernel
theorem dX4_tellingStores_24 : decode cX4_tellingStores 24 = .ok (.iinc 3 1, 3) := by decide +kernel
theorem dX4_tellingStores_27 : decode cX4_tellingStores 27 = .ok (.goto (-23), 3) := by decide +kernel
theorem dX4_tellingStores_30 : decode cX4_tellingStores 30 = .ok (.iload_n 2, 1) := by decide +kernel
theorem dX4_tellingStores_31 : decode cX4_tellingStores 31 = .ok (.ireturn, 1) := by decide +kernel
theorem dX4_copied_0 : decode cX4_copied 0 = .ok (.aload_n 1, 1) := by decide +kernel
theorem dX4_copied_1 : decode cX4_copied 1 = .ok (.getfield 92, 3) := by decide +kernel
theorem dX4_copied_4 : decode cX4_copied 4 = .ok (.iconst 3, 1) := by decide +kernel
theorem dX4_copied_5 : decode cX4_copied 5 = .ok (.if_icmp .ne 8, 3) := by decide +kernel
theorem dX4_copied_8 : decode cX4_copied 8 = .ok (.bipush (-9), 2) := by decide +kernel
theorem dX4_copied_10 : decode cX4_copied 10 = .ok (.goto 13, 3) := by decide +kernel
theorem dX4_copied_13 : decode cX4_copied 13 = .ok (.aload_n 1, 1) := by decide +kernel
theorem dX4_copied_14 : decode cX4_copied 14 = .ok (.aload_n 0, 1) := by decide +kernel
theorem dX4_copied_15 : decode cX4_copied 15 = .ok (.getfield 9, 3) := by decide +kernel
theorem dX4_copied_18 : decode cX4_copied 18 = .ok (.invokevirtual 193, 3) := by decide +kernel
theorem dX4_copied_21 : decode cX4_copied 21 = .ok (.iload_n 2, 1) := by decide +kernel
theorem dX4_copied_22 : decode cX4_copied 22 = .ok (.iaload, 1) := by decide +kernel
theorem dX4_copied_23 : decode cX4_copied 23 = .ok (.ireturn, 1) := by decide +kernel
theorem dX4_toldBy_0 : decode cX4_toldBy 0 = .ok (.iconst 0, 1) := by decide +kernel
theorem dX4_toldBy_1 : decode cX4_toldBy 1 = .ok (.istore_n 2, 1) := by decide +kernel
theorem dX4_toldBy_2 : decode cX4_toldBy 2 = .ok (.iload_n 2, 1) := by decide +kernel
theorem dX4_toldBy_3 : decode cX4_toldBy 3 = .ok (.aload_n 0, 1) := by decide +kernel
theorem dX4_toldBy_4 : decode cX4_toldBy 4 = .ok (.getfield 43, 3) := by decide +kernel
theorem dX4_toldBy_7 : decode cX4_toldBy 7 = .ok (.if_icmp .ge 24, 3) := by decide +kernel
theorem dX4_toldBy_10 : decode cX4_toldBy 10 = .ok (.aload_n 0, 1) := by decide +kernel
theorem dX4_toldBy_11 : decode cX4_toldBy 11 = .ok (.getfield 13, 3) := by decide +kernel
theorem dX4_toldBy_14 : decode cX4_toldBy 14 = .ok (.iload_n 2, 1) := by decide +kernel
theorem dX4_toldBy_15 : decode cX4_toldBy 15 = .ok (.aload_n 0, 1) := by decide +kernel
theorem dX4_toldBy_16 : decode cX4_toldBy 16 = .ok (.getfield 25, 3) := by decide +kernel
theorem dX4_toldBy_19 : decode cX4_toldBy 19 = .ok (.iload_n 1, 1) := by decide +kernel
theorem dX4_toldBy_20 : decode cX4_toldBy 20 = .ok (.iload_n 2, 1) := by decide +kernel
theorem dX4_toldBy_21 : decode cX4_toldBy 21 = .ok (.invokevirtual 126, 3) := by decide +kernel
theorem dX4_toldBy_24 : decode cX4_toldBy 24 = .ok (.iastore, 1) := by decide +kernel
theorem dX4_toldBy_25 : decode cX4_toldBy 25 = .ok (.iinc 2 1, 3) := by decide +kernel
theorem dX4_toldBy_28 : decode cX4_toldBy 28 = .ok (.goto (-26), 3) := by decide +kernel
theorem dX4_toldBy_31 : decode cX4_toldBy 31 = .ok (.aload_n 0, 1) := by decide +kernel
theorem dX4_toldBy_32 : decode cX4_toldBy 32 = .ok (.iload_n 1, 1) := by decide +kernel
theorem dX4_toldBy_33 : decode cX4_toldBy 33 = .ok (.invokevirtual 64, 3) := by decide +kernel
theorem dX4_toldBy_36 : decode cX4_toldBy 36 = .ok (.astore_n 2, 1) := by decide +kernel
theorem dX4_toldBy_37 : decode cX4_toldBy 37 = .ok (.aload_n 0, 1) := by decide +kernel
theorem dX4_toldBy_38 : decode cX4_toldBy 38 = .ok (.aload_n 2, 1) := by decide +kernel
theorem dX4_toldBy_39 : decode cX4_toldBy 39 = .ok (.aload_n 0, 1) := by decide +kernel
theorem dX4_toldBy_40 : decode cX4_toldBy 40 = .ok (.getfield 9, 3) := by decide +kernel
theorem dX4_toldBy_43 : decode cX4_toldBy 43 = .ok (.invokevirtual 193, 3) := by decide +kernel
theorem dX4_toldBy_46 : decode cX4_toldBy 46 = .ok (.invokevirtual 102, 3) := by decide +kernel
theorem dX4_toldBy_49 : decode cX4_toldBy 49 = .ok (.aload_n 0, 1) := by decide +kernel
theorem dX4_toldBy_50 : decode cX4_toldBy 50 = .ok (.getfield 25, 3) := by decide +kernel
theorem dX4_toldBy_53 : decode cX4_toldBy 53 = .ok (.iload_n 1, 1) := by decide +kernel
theorem dX4_toldBy_54 : decode cX4_toldBy 54 = .ok (.invokevirtual 197, 3) := by decide +kernel
theorem dX4_toldBy_57 : decode cX4_toldBy 57 = .ok (.iadd, 1) := by decide +kernel
end
section
/-! decode rows -/
theorem dX4_toldBy_58 : decode cX4_toldBy 58 = .ok (.aload_n 2, 1) := by decide +kernel
theorem dX4_toldBy_59 : decode cX4_toldBy 59 = .ok (.getfield 95, 3) := by decide +kernel
theorem dX4_toldBy_62 : decode cX4_toldBy 62 = .ok (.iadd, 1) := by decide +kernel
theorem dX4_toldBy_63 : decode cX4_toldBy 63 = .ok (.bipush 97, 2) := by decide +kernel
theorem dX4_toldBy_65 : decode cX4_toldBy 65 = .ok (.irem, 1) := by decide +kernel
theorem dX4_toldBy_66 : decode cX4_toldBy 66 = .ok (.ireturn, 1) := by decide +kernel
theorem dX4_toldOfSet_0 : decode cX4_toldOfSet 0 = .ok (.aload_n 1, 1) := by decide +kernel
theorem dX4_toldOfSet_1 : decode cX4_toldOfSet 1 = .ok (.aload_n 0, 1) := by decide +kernel
theorem dX4_toldOfSet_2 : decode cX4_toldOfSet 2 = .ok (.getfield 9, 3) := by decide +kernel
theorem dX4_toldOfSet_5 : decode cX4_toldOfSet 5 = .ok (.invokevirtual 193, 3) := by decide +kernel
theorem dX4_toldOfSet_8 : decode cX4_toldOfSet 8 = .ok (.astore_n 3, 1) := by decide +kernel
theorem dX4_toldOfSet_9 : decode cX4_toldOfSet 9 = .ok (.iconst 0, 1) := by decide +kernel
theorem dX4_toldOfSet_10 : decode cX4_toldOfSet 10 = .ok (.istore 4, 2) := by decide +kernel
theorem dX4_toldOfSet_12 : decode cX4_toldOfSet 12 = .ok (.iconst 0, 1) := by decide +kernel
theorem dX4_toldOfSet_13 : decode cX4_toldOfSet 13 = .ok (.istore 5, 2) := by decide +kernel
theorem dX4_toldOfSet_15 : decode cX4_toldOfSet 15 = .ok (.iload 5, 2) := by decide +kernel
theorem dX4_toldOfSet_17 : decode cX4_toldOfSet 17 = .ok (.aload_n 0, 1) := by decide +kernel
theorem dX4_toldOfSet_18 : decode cX4_toldOfSet 18 = .ok (.invokevirtual 60, 3) := by decide +kernel
theorem dX4_toldOfSet_21 : decode cX4_toldOfSet 21 = .ok (.if_icmp .ge 28, 3) := by decide +kernel
theorem dX4_toldOfSet_24 : decode cX4_toldOfSet 24 = .ok (.iload_n 2, 1) := by decide +kernel
theorem dX4_toldOfSet_25 : decode cX4_toldOfSet 25 = .ok (.iload 5, 2) := by decide +kernel
theorem dX4_toldOfSet_27 : decode cX4_toldOfSet 27 = .ok (.invokestatic 156, 3) := by decide +kernel
theorem dX4_toldOfSet_30 : decode cX4_toldOfSet 30 = .ok (.iconst 1, 1) := by decide +kernel
theorem dX4_toldOfSet_31 : decode cX4_toldOfSet 31 = .ok (.if_icmp .ne 12, 3) := by decide +kernel
theorem dX4_toldOfSet_34 : decode cX4_toldOfSet 34 = .ok (.iload 4, 2) := by decide +kernel
theorem dX4_toldOfSet_36 : decode cX4_toldOfSet 36 = .ok (.aload_n 3, 1) := by decide +kernel
theorem dX4_toldOfSet_37 : decode cX4_toldOfSet 37 = .ok (.iload 5, 2) := by decide +kernel
theorem dX4_toldOfSet_39 : decode cX4_toldOfSet 39 = .ok (.iaload, 1) := by decide +kernel
theorem dX4_toldOfSet_40 : decode cX4_toldOfSet 40 = .ok (.ixor, 1) := by decide +kernel
theorem dX4_toldOfSet_41 : decode cX4_toldOfSet 41 = .ok (.istore 4, 2) := by decide +kernel
theorem dX4_toldOfSet_43 : decode cX4_toldOfSet 43 = .ok (.iinc 5 1, 3) := by decide +kernel
theorem dX4_toldOfSet_46 : decode cX4_toldOfSet 46 = .ok (.goto (-31), 3) := by decide +kernel
theorem dX4_toldOfSet_49 : decode cX4_toldOfSet 49 = .ok (.iload 4, 2) := by decide +kernel
theorem dX4_toldOfSet_51 : decode cX4_toldOfSet 51 = .ok (.aload_n 1, 1) := by decide +kernel
theorem dX4_toldOfSet_52 : decode cX4_toldOfSet 52 = .ok (.getfield 95, 3) := by decide +kernel
theorem dX4_toldOfSet_55 : decode cX4_toldOfSet 55 = .ok (.iadd, 1) := by decide +kernel
theorem dX4_toldOfSet_56 : decode cX4_toldOfSet 56 = .ok (.sipush 128, 3) := by decide +kernel
theorem dX4_toldOfSet_59 : decode cX4_toldOfSet 59 = .ok (.irem, 1) := by decide +kernel
theorem dX4_toldOfSet_60 : decode cX4_toldOfSet 60 = .ok (.ireturn, 1) := by decide +kernel
theorem dX4_sumAtPlace_0 : decode cX4_sumAtPlace 0 = .ok (.iconst 0, 1) := by decide +kernel
theorem dX4_sumAtPlace_1 : decode cX4_sumAtPlace 1 = .ok (.istore_n 2, 1) := by decide +kernel
theorem dX4_sumAtPlace_2 : decode cX4_sumAtPlace 2 = .ok (.iconst 0, 1) := by decide +kernel
theorem dX4_sumAtPlace_3 : decode cX4_sumAtPlace 3 = .ok (.istore_n 3, 1) := by decide +kernel
theorem dX4_sumAtPlace_4 : decode cX4_sumAtPlace 4 = .ok (.iload_n 3, 1) := by decide +kernel
theorem dX4_sumAtPlace_5 : decode cX4_sumAtPlace 5 = .ok (.aload_n 0, 1) := by decide +kernel
theorem dX4_sumAtPlace_6 : decode cX4_sumAtPlace 6 = .ok (.invokevirtual 60, 3) := by decide +kernel
theorem dX4_sumAtPlace_9 : decode cX4_sumAtPlace 9 = .ok (.if_icmp .ge 79, 3) := by decide +kernel
theorem dX4_sumAtPlace_12 : decode cX4_sumAtPlace 12 = .ok (.aload_n 1, 1) := by decide +kernel
theorem dX4_sumAtPlace_13 : decode cX4_sumAtPlace 13 = .ok (.iload_n 3, 1) := by decide +kernel
theorem dX4_sumAtPlace_14 : decode cX4_sumAtPlace 14 = .ok (.iaload, 1) := by decide +kernel
theorem dX4_sumAtPlace_15 : decode cX4_sumAtPlace 15 = .ok (.istore 4, 2) := by decide +kernel
theorem dX4_sumAtPlace_17 : decode cX4_sumAtPlace 17 = .ok (.iconst 0, 1) := by decide +kernel
theorem dX4_sumAtPlace_18 : decode cX4_sumAtPlace 18 = .ok (.istore 5, 2) := by decide +kernel
theorem dX4_sumAtPlace_20 : decode cX4_sumAtPlace 20 = .ok (.iload 5, 2) := by decide +kernel
theorem dX4_sumAtPlace_22 : decode cX4_sumAtPlace 22 = .ok (.aload_n 0, 1) := by decide +kernel
theorem dX4_sumAtPlace_23 : decode cX4_sumAtPlace 23 = .ok (.getfield 43, 3) := by decide +kernel
theorem dX4_sumAtPlace_26 : decode cX4_sumAtPlace 26 = .ok (.if_icmp .ge 51, 3) := by decide +kernel
theorem dX4_sumAtPlace_29 : decode cX4_sumAtPlace 29 = .ok (.iload_n 3, 1) := by decide +kernel
theorem dX4_sumAtPlace_30 : decode cX4_sumAtPlace 30 = .ok (.iload 5, 2) := by decide +kernel
theorem dX4_sumAtPlace_32 : decode cX4_sumAtPlace 32 = .ok (.invokestatic 156, 3) := by decide +kernel
theorem dX4_sumAtPlace_35 : decode cX4_sumAtPlace 35 = .ok (.iconst 1, 1) := by decide +kernel
theorem dX4_sumAtPlace_36 : decode cX4_sumAtPlace 36 = .ok (.if_icmp .ne 13, 3) := by decide +kernel
theorem dX4_sumAtPlace_39 : decode cX4_sumAtPlace 39 = .ok (.aload_n 0, 1) := by decide +kernel
theorem dX4_sumAtPlace_40 : decode cX4_sumAtPlace 40 = .ok (.getfield 13, 3) := by decide +kernel
theorem dX4_sumAtPlace_43 : decode cX4_sumAtPlace 43 = .ok (.iload 5, 2) := by decide +kernel
theorem dX4_sumAtPlace_45 : decode cX4_sumAtPlace 45 = .ok (.iaload, 1) := by decide +kernel
theorem dX4_sumAtPlace_46 : decode cX4_sumAtPlace 46 = .ok (.goto 13, 3) := by decide +kernel
theorem dX4_sumAtPlace_49 : decode cX4_sumAtPlace 49 = .ok (.bipush 98, 2) := by decide +kernel
theorem dX4_sumAtPlace_51 : decode cX4_sumAtPlace 51 = .ok (.aload_n 0, 1) := by decide +kernel
theorem dX4_sumAtPlace_52 : decode cX4_sumAtPlace 52 = .ok (.getfield 13, 3) := by decide +kernel
theorem dX4_sumAtPlace_55 : decode cX4_sumAtPlace 55 = .ok (.iload 5, 2) := by decide +kernel
theorem dX4_sumAtPlace_57 : decode cX4_sumAtPlace 57 = .ok (.iaload, 1) := by decide +kernel
theorem dX4_sumAtPlace_58 : decode cX4_sumAtPlace 58 = .ok (.isub, 1) := by decide +kernel
theorem dX4_sumAtPlace_59 : decode cX4_sumAtPlace 59 = .ok (.istore 6, 2) := by decide +kernel
theorem dX4_sumAtPlace_61 : decode cX4_sumAtPlace 61 = .ok (.iload 4, 2) := by decide +kernel
theorem dX4_sumAtPlace_63 : decode cX4_sumAtPlace 63 = .ok (.iload 6, 2) := by decide +kernel
theorem dX4_sumAtPlace_65 : decode cX4_sumAtPlace 65 = .ok (.imul, 1) := by decide +kernel
theorem dX4_sumAtPlace_66 : decode cX4_sumAtPlace 66 = .ok (.bipush 97, 2) := by decide +kernel
theorem dX4_sumAtPlace_68 : decode cX4_sumAtPlace 68 = .ok (.irem, 1) := by decide +kernel
theorem dX4_sumAtPlace_69 : decode cX4_sumAtPlace 69 = .ok (.istore 4, 2) := by decide +kernel
theorem dX4_sumAtPlace_71 : decode cX4_sumAtPlace 71 = .ok (.iinc 5 1, 3) := by decide +kernel
theorem dX4_sumAtPlace_74 : decode cX4_sumAtPlace 74 = .ok (.goto (-54), 3) := by decide +kernel
theorem dX4_sumAtPlace_77 : decode cX4_sumAtPlace 77 = .ok (.iload_n 2, 1) := by decide +kernel
theorem dX4_sumAtPlace_78 : decode cX4_sumAtPlace 78 = .ok (.iload 4, 2) := by decide +kernel
theorem dX4_sumAtPlace_80 : decode cX4_sumAtPlace 80 = .ok (.iadd, 1) := by decide +kernel
theorem dX4_sumAtPlace_81 : decode cX4_sumAtPlace 81 = .ok (.istore_n 2, 1) := by decide +kernel
theorem dX4_sumAtPlace_82 : decode cX4_sumAtPlace 82 = .ok (.iinc 3 1, 3) := by decide +kernel
theorem dX4_sumAtPlace_85 : decode cX4_sumAtPlace 85 = .ok (.goto (-81), 3) := by decide +kernel
theorem dX4_sumAtPlace_88 : decode cX4_sumAtPlace 88 = .ok (.iload_n 2, 1) := by decide +kernel
theorem dX4_sumAtPlace_89 : decode cX4_sumAtPlace 89 = .ok (.bipush 97, 2) := by decide +kernel
theorem dX4_sumAtPlace_91 : decode cX4_sumAtPlace 91 = .ok (.irem, 1) := by decide +kernel
theorem dX4_sumAtPlace_92 : decode cX4_sumAtPlace 92 = .ok (.ireturn, 1) := by decide +kernel
theorem dX4_bit_0 : decode cX4_bit 0 = .ok (.iload_n 0, 1) := by decide +kernel
theorem dX4_bit_1 : decode cX4_bit 1 = .ok (.iload_n 1, 1) := by decide +kernel
theorem dX4_bit_2 : decode cX4_bit 2 = .ok (.ishr, 1) := by decide +kernel
theorem dX4_bit_3 : decode cX4_bit 3 = .ok (.iconst 1, 1) := by decide +kernel
theorem dX4_bit_4 : decode cX4_bit 4 = .ok (.iand, 1) := by decide +kernel
theorem dX4_bit_5 : decode cX4_bit 5 = .ok (.ireturn, 1) := by decide +kernel
theorem dX4_inverse_0 : decode cX4_inverse 0 = .ok (.iload_n 0, 1) := by decide +kernel
theorem dX4_inverse_1 : decode cX4_inverse 1 = .ok (.ifCond .le 19, 3) := by decide +kernel
theorem dX4_inverse_4 : decode cX4_inverse 4 = .ok (.iload_n 0, 1) := by decide +kernel
theorem dX4_inverse_5 : decode cX4_inverse 5 = .ok (.getstatic 200, 3) := by decide +kernel
theorem dX4_inverse_8 : decode cX4_inverse 8 = .ok (.arraylength, 1) := by decide +kernel
theorem dX4_inverse_9 : decode cX4_inverse 9 = .ok (.if_icmp .ge 11, 3) := by decide +kernel
theorem dX4_inverse_12 : decode cX4_inverse 12 = .ok (.getstatic 200, 3) := by decide +kernel
theorem dX4_inverse_15 : decode cX4_inverse 15 = .ok (.iload_n 0, 1) := by decide +kernel
theorem dX4_inverse_16 : decode cX4_inverse 16 = .ok (.iaload, 1) := by decide +kernel
theorem dX4_inverse_17 : decode cX4_inverse 17 = .ok (.goto 4, 3) := by decide +kernel
theorem dX4_inverse_20 : decode cX4_inverse 20 = .ok (.iconst 0, 1) := by decide +kernel
theorem dX4_inverse_21 : decode cX4_inverse 21 = .ok (.ireturn, 1) := by decide +kernel
theorem dX4_hearStores_0 : decode cX4_hearStores 0 = .ok (.aload_n 0, 1) := by decide +kernel
theorem dX4_hearStores_1 : decode cX4_hearStores 1 = .ok (.getfield 32, 3) := by decide +kernel
theorem dX4_hearStores_4 : decode cX4_hearStores 4 = .ok (.iconst 0, 1) := by decide +kernel
theorem dX4_hearStores_5 : decode cX4_hearStores 5 = .ok (.putfield 140, 3) := by decide +kernel
theorem dX4_hearStores_8 : decode cX4_hearStores 8 = .ok (.iconst 1, 1) := by decide +kernel
theorem dX4_hearStores_9 : decode cX4_hearStores 9 = .ok (.istore_n 2, 1) := by decide +kernel
theorem dX4_hearStores_10 : decode cX4_hearStores 10 = .ok (.iload_n 2, 1) := by decide +kernel
theorem dX4_hearStores_11 : decode cX4_hearStores 11 = .ok (.iload_n 1, 1) := by decide +kernel
theorem dX4_hearStores_12 : decode cX4_hearStores 12 = .ok (.if_icmp .gt 34, 3) := by decide +kernel
theorem dX4_hearStores_15 : decode cX4_hearStores 15 = .ok (.aload_n 0, 1) := by decide +kernel
theorem dX4_hearStores_16 : decode cX4_hearStores 16 = .ok (.iload_n 2, 1) := by decide +kernel
theorem dX4_hearStores_17 : decode cX4_hearStores 17 = .ok (.invokevirtual 64, 3) := by decide +kernel
theorem dX4_hearStores_20 : decode cX4_hearStores 20 = .ok (.getfield 92, 3) := by decide +kernel
theorem dX4_hearStores_23 : decode cX4_hearStores 23 = .ok (.iconst 3, 1) := by decide +kernel
theorem dX4_hearStores_24 : decode cX4_hearStores 24 = .ok (.if_icmp .eq 16, 3) := by decide +kernel
theorem dX4_hearStores_27 : decode cX4_hearStores 27 = .ok (.aload_n 0, 1) := by decide +kernel
theorem dX4_hearStores_28 : decode cX4_hearStores 28 = .ok (.getfield 32, 3) := by decide +kernel
theorem dX4_hearStores_31 : decode cX4_hearStores 31 = .ok (.iload_n 2, 1) := by decide +kernel
theorem dX4_hearStores_32 : decode cX4_hearStores 32 = .ok (.aload_n 0, 1) := by decide +kernel
theorem dX4_hearStores_33 : decode cX4_hearStores 33 = .ok (.iload_n 2, 1) := by decide +kernel
theorem dX4_hearStores_34 : decode cX4_hearStores 34 = .ok (.invokevirtual 130, 3) := by decide +kernel
theorem dX4_hearStores_37 : decode cX4_hearStores 37 = .ok (.invokevirtual 203, 3) := by decide +kernel
theorem dX4_hearStores_40 : decode cX4_hearStores 40 = .ok (.iinc 2 1, 3) := by decide +kernel
theorem dX4_hearStores_43 : decode cX4_hearStores 43 = .ok (.goto (-33), 3) := by decide +kernel
theorem dX4_hearStores_46 : decode cX4_hearStores 46 = .ok (.return_, 1) := by decide +kernel
theorem dX4_liesMended_0 : decode cX4_liesMended 0 = .ok (.iload_n 1, 1) := by decide +kernel
theorem dX4_liesMended_1 : decode cX4_liesMended 1 = .ok (.aload_n 0, 1) := by decide +kernel
theorem dX4_liesMended_2 : decode cX4_liesMended 2 = .ok (.getfield 25, 3) := by decide +kernel
theorem dX4_liesMended_5 : decode cX4_liesMended 5 = .ok (.getfield 116, 3) := by decide +kernel
theorem dX4_liesMended_8 : decode cX4_liesMended 8 = .ok (.isub, 1) := by decide +kernel
theorem dX4_liesMended_9 : decode cX4_liesMended 9 = .ok (.iconst 1, 1) := by decide +kernel
theorem dX4_liesMended_10 : decode cX4_liesMended 10 = .ok (.isub, 1) := by decide +kernel
theorem dX4_liesMended_11 : decode cX4_liesMended 11 = .ok (.iconst 2, 1) := by decide +kernel
theorem dX4_liesMended_12 : decode cX4_liesMended 12 = .ok (.idiv, 1) := by decide +kernel
theorem dX4_liesMended_13 : decode cX4_liesMended 13 = .ok (.ireturn, 1) := by decide +kernel
theorem dX4_findCurve_0 : decode cX4_findCurve 0 = .ok (.iconst 1, 1) := by decide +kernel
theorem dX4_findCurve_1 : decode cX4_findCurve 1 = .ok (.aload_n 0, 1) := by decide +kernel
theorem dX4_findCurve_2 : decode cX4_findCurve 2 = .ok (.getfield 32, 3) := by decide +kernel
theorem dX4_findCurve_5 : decode cX4_findCurve 5 = .ok (.getfield 140, 3) := by decide +kernel
theorem dX4_findCurve_8 : decode cX4_findCurve 8 = .ok (.ishl, 1) := by decide +kernel
theorem dX4_findCurve_9 : decode cX4_findCurve 9 = .ok (.iconst 1, 1) := by decide +kernel
theorem dX4_findCurve_10 : decode cX4_findCurve 10 = .ok (.isub, 1) := by decide +kernel
theorem dX4_findCurve_11 : decode cX4_findCurve 11 = .ok (.istore_n 2, 1) := by decide +kernel
theorem dX4_findCurve_12 : decode cX4_findCurve 12 = .ok (.iload_n 2, 1) := by decide +kernel
theorem dX4_findCurve_13 : decode cX4_findCurve 13 = .ok (.ifCond .le 54, 3) := by decide +kernel
theorem dX4_findCurve_16 : decode cX4_findCurve 16 = .ok (.iload_n 2, 1) := by decide +kernel
theorem dX4_findCurve_17 : decode cX4_findCurve 17 = .ok (.invokestatic 207, 3) := by decide +kernel
theorem dX4_findCurve_20 : decode cX4_findCurve 20 = .ok (.aload_n 0, 1) := by decide +kernel
theorem dX4_findCurve_21 : decode cX4_findCurve 21 = .ok (.getfield 25, 3) := by decide +kernel
theorem dX4_findCurve_24 : decode cX4_findCurve 24 = .ok (.getfield 116, 3) := by decide +kernel
theorem dX4_findCurve_27 : decode cX4_findCurve 27 = .ok (.iconst 1, 1) := by decide +kernel
theorem dX4_findCurve_28 : decode cX4_findCurve 28 = .ok (.iadd, 1) := by decide +kernel
theorem dX4_findCurve_29 : decode cX4_findCurve 29 = .ok (.if_icmp .ne 32, 3) := by decide +kernel
theorem dX4_findCurve_32 : decode cX4_findCurve 32 = .ok (.aload_n 0, 1) := by decide +kernel
theorem dX4_findCurve_33 : decode cX4_findCurve 33 = .ok (.getfield 39, 3) := by decide +kernel
theorem dX4_findCurve_36 : decode cX4_findCurve 36 = .ok (.aload_n 0, 1) := by decide +kernel
theorem dX4_findCurve_37 : decode cX4_findCurve 37 = .ok (.getfield 32, 3) := by decide +kernel
theorem dX4_findCurve_40 : decode cX4_findCurve 40 = .ok (.iload_n 2, 1) := by decide +kernel
theorem dX4_findCurve_41 : decode cX4_findCurve 41 = .ok (.invokevirtual 177, 3) := by decide +kernel
theorem dX4_findCurve_44 : decode cX4_findCurve 44 = .ok (.aload_n 0, 1) := by decide +kernel
theorem dX4_findCurve_45 : decode cX4_findCurve 45 = .ok (.getfield 32, 3) := by decide +kernel
theorem dX4_findCurve_48 : decode cX4_findCurve 48 = .ok (.aload_n 0, 1) := by decide +kernel
theorem dX4_findCurve_49 : decode cX4_findCurve 49 = .ok (.getfield 39, 3) := by decide +kernel
theorem dX4_findCurve_52 : decode cX4_findCurve 52 = .ok (.invokevirtual 181, 3) := by decide +kernel
theorem dX4_findCurve_55 : decode cX4_findCurve 55 = .ok (.iload_n 1, 1) := by decide +kernel
theorem dX4_findCurve_56 : decode cX4_findCurve 56 = .ok (.if_icmp .lt 5, 3) := by decide +kernel
theorem dX4_findCurve_59 : decode cX4_findCurve 59 = .ok (.iconst 1, 1) := by decide +kernel
theorem dX4_findCurve_60 : decode cX4_findCurve 60 = .ok (.ireturn, 1) := by decide +kernel
theorem dX4_findCurve_61 : decode cX4_findCurve 61 = .ok (.iinc 2 (-1), 3) := by decide +kernel
theorem dX4_findCurve_64 : decode cX4_findCurve 64 = .ok (.goto (-52), 3) := by decide +kernel
theorem dX4_findCurve_67 : decode cX4_findCurve 67 = .ok (.iconst 0, 1) := by decide +kernel
theorem dX4_findCurve_68 : decode cX4_findCurve 68 = .ok (.ireturn, 1) := by decide +kernel
theorem dX4_firstPicks_0 : decode cX4_firstPicks 0 = .ok (.aload_n 0, 1) := by decide +kernel
theorem dX4_firstPicks_1 : decode cX4_firstPicks 1 = .ok (.getfield 25, 3) := by decide +kernel
theorem dX4_firstPicks_4 : decode cX4_firstPicks 4 = .ok (.getfield 116, 3) := by decide +kernel
theorem dX4_firstPicks_7 : decode cX4_firstPicks 7 = .ok (.iconst 1, 1) := by decide +kernel
theorem dX4_firstPicks_8 : decode cX4_firstPicks 8 = .ok (.iadd, 1) := by decide +kernel
theorem dX4_firstPicks_9 : decode cX4_firstPicks 9 = .ok (.istore_n 1, 1) := by decide +kernel
theorem dX4_firstPicks_10 : decode cX4_firstPicks 10 = .ok (.iconst 1, 1) := by decide +kernel
theorem dX4_firstPicks_11 : decode cX4_firstPicks 11 = .ok (.iload_n 1, 1) := by decide +kernel
theorem dX4_firstPicks_12 : decode cX4_firstPicks 12 = .ok (.ishl, 1) := by decide +kernel
theorem dX4_firstPicks_13 : decode cX4_firstPicks 13 = .ok (.iconst 1, 1) := by decide +kernel
theorem dX4_firstPicks_14 : decode cX4_firstPicks 14 = .ok (.isub, 1) := by decide +kernel
theorem dX4_firstPicks_15 : decode cX4_firstPicks 15 = .ok (.aload_n 0, 1) := by decide +kernel
theorem dX4_firstPicks_16 : decode cX4_firstPicks 16 = .ok (.getfield 32, 3) := by decide +kernel
theorem dX4_firstPicks_19 : decode cX4_firstPicks 19 = .ok (.getfield 140, 3) := by decide +kernel
theorem dX4_firstPicks_22 : decode cX4_firstPicks 22 = .ok (.iload_n 1, 1) := by decide +kernel
theorem dX4_firstPicks_23 : decode cX4_firstPicks 23 = .ok (.isub, 1) := by decide +kernel
theorem dX4_firstPicks_24 : decode cX4_firstPicks 24 = .ok (.ishl, 1) := by decide +kernel
theorem dX4_firstPicks_25 : decode cX4_firstPicks 25 = .ok (.ireturn, 1) := by decide +kernel
theorem dX4_tellsRecordsApart_0 : decode cX4_tellsRecordsApart 0 = .ok (.iconst 1, 1) := by decide +kernel
theorem dX4_tellsRecordsApart_1 : decode cX4_tellsRecordsApart 1 = .ok (.istore_n 2, 1) := by decide +kernel
theorem dX4_tellsRecordsApart_2 : decode cX4_tellsRecordsApart 2 = .ok (.iload_n 2, 1) := by decide +kernel
theorem dX4_tellsRecordsApart_3 : decode cX4_tellsRecordsApart 3 = .ok (.aload_n 0, 1) := by decide +kernel
theorem dX4_tellsRecordsApart_4 : decode cX4_tellsRecordsApart 4 = .ok (.invokevirtual 60, 3) := by decide +kernel
theorem dX4_tellsRecordsApart_7 : decode cX4_tellsRecordsApart 7 = .ok (.if_icmp .ge 33, 3) := by decide +kernel
theorem dX4_tellsRecordsApart_10 : decode cX4_tellsRecordsApart 10 = .ok (.aload_n 0, 1) := by decide +kernel
theorem dX4_tellsRecordsApart_11 : decode cX4_tellsRecordsApart 11 = .ok (.getfield 25, 3) := by decide +kernel
theorem dX4_tellsRecordsApart_14 : decode cX4_tellsRecordsApart 14 = .ok (.iload_n 1, 1) := by decide +kernel
theorem dX4_tellsRecordsApart_15 : decode cX4_tellsRecordsApart 15 = .ok (.iload_n 2, 1) := by decide +kernel
theorem dX4_tellsRecordsApart_16 : decode cX4_tellsRecordsApart 16 = .ok (.invokevirtual 165, 3) := by decide +kernel
theorem dX4_tellsRecordsApart_19 : decode cX4_tellsRecordsApart 19 = .ok (.aload_n 0, 1) := by decide +kernel
theorem dX4_tellsRecordsApart_20 : decode cX4_tellsRecordsApart 20 = .ok (.getfield 25, 3) := by decide +kernel
theorem dX4_tellsRecordsApart_23 : decode cX4_tellsRecordsApart 23 = .ok (.iload_n 1, 1) := by decide +kernel
theorem dX4_tellsRecordsApart_24 : decode cX4_tellsRecordsApart 24 = .ok (.iconst 0, 1) := by decide +kernel
theorem dX4_tellsRecordsApart_25 : decode cX4_tellsRecordsApart 25 = .ok (.invokevirtual 165, 3) := by decide +kernel
theorem dX4_tellsRecordsApart_28 : decode cX4_tellsRecordsApart 28 = .ok (.lcmp, 1) := by decide +kernel
theorem dX4_tellsRecordsApart_29 : decode cX4_tellsRecordsApart 29 = .ok (.ifCond .eq 5, 3) := by decide +kernel
theorem dX4_tellsRecordsApart_32 : decode cX4_tellsRecordsApart 32 = .ok (.iconst 1, 1) := by decide +kernel
theorem dX4_tellsRecordsApart_33 : decode cX4_tellsRecordsApart 33 = .ok (.ireturn, 1) := by decide +kernel
theorem dX4_tellsRecordsApart_34 : decode cX4_tellsRecordsApart 34 = .ok (.iinc 2 1, 3) := by decide +kernel
theorem dX4_tellsRecordsApart_37 : decode cX4_tellsRecordsApart 37 = .ok (.goto (-35), 3) := by decide +kernel
theorem dX4_tellsRecordsApart_40 : decode cX4_tellsRecordsApart 40 = .ok (.iconst 0, 1) := by decide +kernel
theorem dX4_tellsRecordsApart_41 : decode cX4_tellsRecordsApart 41 = .ok (.ireturn, 1) := by decide +kernel
theorem dX5_init_0 : decode cX5_init 0 = .ok (.aload_n 0, 1) := by decide +kernel
theorem dX5_init_1 : decode cX5_init 1 = .ok (.invokespecial 1, 3) := by decide +kernel
theorem dX5_init_4 : decode cX5_init 4 = .ok (.aload_n 0, 1) := by decide +kernel
theorem dX5_init_5 : decode cX5_init 5 = .ok (.iconst 1, 1) := by decide +kernel
theorem dX5_init_6 : decode cX5_init 6 = .ok (.putfield 7, 3) := by decide +kernel
theorem dX5_init_9 : decode cX5_init 9 = .ok (.aload_n 0, 1) := by decide +kernel
theorem dX5_init_10 : decode cX5_init 10 = .ok (.bipush 8, 2) := by decide +kernel
theorem dX5_init_12 : decode cX5_init 12 = .ok (.newarray .int, 2) := by decide +kernel
theorem dX5_init_14 : decode cX5_init 14 = .ok (.putfield 13, 3) := by decide +kernel
theorem dX5_init_17 : decode cX5_init 17 = .ok (.aload_n 0, 1) := by decide +kernel
theorem dX5_init_18 : decode cX5_init 18 = .ok (.bipush 10, 2) := by decide +kernel
theorem dX5_init_20 : decode cX5_init 20 = .ok (.newarray .int, 2) := by decide +kernel
theorem dX5_init_22 : decode cX5_init 22 = .ok (.putfield 17, 3) := by decide +kernel
theorem dX5_init_25 : decode cX5_init 25 = .ok (.aload_n 0, 1) := by decide +kernel
theorem dX5_init_26 : decode cX5_init 26 = .ok (.bipush 10, 2) := by decide +kernel
theorem dX5_init_28 : decode cX5_init 28 = .ok (.newarray .int, 2) := by decide +kernel
theorem dX5_init_30 : decode cX5_init 30 = .ok (.putfield 20, 3) := by decide +kernel
theorem dX5_init_33 : decode cX5_init 33 = .ok (.aload_n 0, 1) := by decide +kernel
theorem dX5_init_34 : decode cX5_init 34 = .ok (.bipush 80, 2) := by decide +kernel
theorem dX5_init_36 : decode cX5_init 36 = .ok (.newarray .int, 2) := by decide +kernel
theorem dX5_init_38 : decode cX5_init 38 = .ok (.putfield 23, 3) := by decide +kernel
theorem dX5_init_41 : decode cX5_init 41 = .ok (.aload_n 0, 1) := by decide +kernel
theorem dX5_init_42 : decode cX5_init 42 = .ok (.bipush 6, 2) := by decide +kernel
theorem dX5_init_44 : decode cX5_init 44 = .ok (.newarray .int, 2) := by decide +kernel
theorem dX5_init_46 : decode cX5_init 46 = .ok (.putfield 26, 3) := by decide +kernel
theorem dX5_init_49 : decode cX5_init 49 = .ok (.aload_n 0, 1) := by decide +kernel
theorem dX5_init_50 : decode cX5_init 50 = .ok (.bipush 7, 2) := by decide +kernel
theorem dX5_init_52 : decode cX5_init 52 = .ok (.newarray .int, 2) := by decide +kernel
theorem dX5_init_54 : decode cX5_init 54 = .ok (.putfield 29, 3) := by decide +kernel
theorem dX5_init_57 : decode cX5_init 57 = .ok (.aload_n 0, 1) := by decide +kernel
theorem dX5_init_58 : decode cX5_init 58 = .ok (.bipush 10, 2) := by decide +kernel
theorem dX5_init_60 : decode cX5_init 60 = .ok (.newarray .boolean, 2) := by decide +kernel
theorem dX5_init_62 : decode cX5_init 62 = .ok (.putfield 32, 3) := by decide +kernel
theorem dX5_init_65 : decode cX5_init 65 = .ok (.aload_n 0, 1) := by decide +kernel
theorem dX5_init_66 : decode cX5_init 66 = .ok (.bipush 9, 2) := by decide +kernel
theorem dX5_init_68 : decode cX5_init 68 = .ok (.newarray .int, 2) := by decide +kernel
theorem dX5_init_70 : decode cX5_init 70 = .ok (.putfield 36, 3) := by decide +kernel
theorem dX5_init_73 : decode cX5_init 73 = .ok (.aload_n 0, 1) := by decide +kernel
theorem dX5_init_74 : decode cX5_init 74 = .ok (.bipush 9, 2) := by decide +kernel
theorem dX5_init_76 : decode cX5_init 76 = .ok (.newarray .int, 2) := by decide +kernel
theorem dX5_init_78 : decode cX5_init 78 = .ok (.putfield 39, 3) := by decide +kernel
theorem dX5_init_81 : decode cX5_init 81 = .ok (.aload_n 0, 1) := by decide +kernel
theorem dX5_init_82 : decode cX5_init 82 = .ok (.bipush 7, 2) := by decide +kernel
theorem dX5_init_84 : decode cX5_init 84 = .ok (.newarray .int, 2) := by decide +kernel
theorem dX5_init_86 : decode cX5_init 86 = .ok (.putfield 42, 3) := by decide +kernel
theorem dX5_init_89 : decode cX5_init 89 = .ok (.return_, 1) := by decide +kernel
theorem dX5_in_0 : decode cX5_in 0 = .ok (.lload_n 0, 1) := by decide +kernel
theorem dX5_in_1 : decode cX5_in 1 = .ok (.lload_n 2, 1) := by decide +kernel
theorem dX5_in_2 : decode cX5_in 2 = .ok (.lcmp, 1) := by decide +kernel
theorem dX5_in_3 : decode cX5_in 3 = .ok (.ifCond .lt 14, 3) := by decide +kernel
theorem dX5_in_6 : decode cX5_in 6 = .ok (.lload_n 0, 1) := by decide +kernel
theorem dX5_in_7 : decode cX5_in 7 = .ok (.lload 4, 2) := by decide +kernel
theorem dX5_in_9 : decode cX5_in 9 = .ok (.lcmp, 1) := by decide +kernel
theorem dX5_in_10 : decode cX5_in 10 = .ok (.ifCond .gt 7, 3) := by decide +kernel
theorem dX5_in_13 : decode cX5_in 13 = .ok (.iconst 1, 1) := by decide +kernel
theorem dX5_in_14 : decode cX5_in 14 = .ok (.goto 4, 3) := by decide +kernel
theorem dX5_in_17 : decode cX5_in 17 = .ok (.iconst 0, 1) := by decide +kernel
theorem dX5_in_18 : decode cX5_in 18 = .ok (.ireturn, 1) := by decide +kernel
theorem dX5_mod_0 : decode cX5_mod 0 = .ok (.iload_n 0, 1) := by decide +kernel
theorem dX5_mod_1 : decode cX5_mod 1 = .ok (.bipush 97, 2) := by decide +kernel
theorem dX5_mod_3 : decode cX5_mod 3 = .ok (.irem, 1) := by decide +kernel
theorem dX5_mod_4 : decode cX5_mod 4 = .ok (.istore_n 1, 1) := by decide +kernel
theorem dX5_mod_5 : decode cX5_mod 5 = .ok (.iload_n 1, 1) := by decide +kernel
theorem dX5_mod_6 : decode cX5_mod 6 = .ok (.ifCond .ge 10, 3) := by decide +kernel
theorem dX5_mod_9 : decode cX5_mod 9 = .ok (.iload_n 1, 1) := by decide +kernel
theorem dX5_mod_10 : decode cX5_mod 10 = .ok (.bipush 97, 2) := by decide +kernel
theorem dX5_mod_12 : decode cX5_mod 12 = .ok (.iadd, 1) := by decide +kernel
theorem dX5_mod_13 : decode cX5_mod 13 = .ok (.goto 4, 3) := by decide +kernel
theorem dX5_mod_16 : decode cX5_mod 16 = .ok (.iload_n 1, 1) := by decide +kernel
theorem dX5_mod_17 : decode cX5_mod 17 = .ok (.ireturn, 1) := by decide +kernel
theorem dX5_inverse_0 : decode cX5_inverse 0 = .ok (.iconst 1, 1) := by decide +kernel
theorem dX5_inverse_1 : decode cX5_inverse 1 = .ok (.istore_n 1, 1) := by decide +kernel
theorem dX5_inverse_2 : decode cX5_inverse 2 = .ok (.iload_n 1, 1) := by decide +kernel
theorem dX5_inverse_3 : decode cX5_inverse 3 = .ok (.iload_n 0, 1) := by decide +kernel
theorem dX5_inverse_4 : decode cX5_inverse 4 = .ok (.imul, 1) := by decide +kernel
theorem dX5_inverse_5 : decode cX5_inverse 5 = .ok (.bipush 97, 2) := by decide +kernel
theorem dX5_inverse_7 : decode cX5_inverse 7 = .ok (.irem, 1) := by decide +kernel
theorem dX5_inverse_8 : decode cX5_inverse 8 = .ok (.iconst 1, 1) := by decide +kernel
theorem dX5_inverse_9 : decode cX5_inverse 9 = .ok (.if_icmp .eq 9, 3) := by decide +kernel
theorem dX5_inverse_12 : decode cX5_inverse 12 = .ok (.iinc 1 1, 3) := by decide +kernel
theorem dX5_inverse_15 : decode cX5_inverse 15 = .ok (.goto (-13), 3) := by decide +kernel
theorem dX5_inverse_18 : decode cX5_inverse 18 = .ok (.iload_n 1, 1) := by decide +kernel
theorem dX5_inverse_19 : decode cX5_inverse 19 = .ok (.ireturn, 1) := by decide +kernel
theorem dX5_size_0 : decode cX5_size 0 = .ok (.iconst 1, 1) := by decide +kernel
theorem dX5_size_1 : decode cX5_size 1 = .ok (.aload_n 0, 1) := by decide +kernel
theorem dX5_size_2 : decode cX5_size 2 = .ok (.getfield 7, 3) := by decide +kernel
theorem dX5_size_5 : decode cX5_size 5 = .ok (.ishl, 1) := by decide +kernel
theorem dX5_size_6 : decode cX5_size 6 = .ok (.ireturn, 1) := by decide +kernel
theorem dX5_degree_0 : decode cX5_degree 0 = .ok (.aload_n 0, 1) := by decide +kernel
theorem dX5_degree_1 : decode cX5_degree 1 = .ok (.getfield 7, 3) := by decide +kernel
theorem dX5_degree_4 : decode cX5_degree 4 = .ok (.aload_n 0, 1) := by decide +kernel
theorem dX5_degree_5 : decode cX5_degree 5 = .ok (.getfield 48, 3) := by decide +kernel
theorem dX5_degree_8 : decode cX5_degree 8 = .ok (.imul, 1) := by decide +kernel
theorem dX5_degree_9 : decode cX5_degree 9 = .ok (.ireturn, 1) := by decide +kernel
theorem dX5_isStore_0 : decode cX5_isStore 0 = .ok (.iload_n 0, 1) := by decide +kernel
theorem dX5_isStore_1 : decode cX5_isStore 1 = .ok (.i2l, 1) := by decide +kernel
theorem dX5_isStore_2 : decode cX5_isStore 2 = .ok (.lconst 1, 1) := by decide +kernel
theorem dX5_isStore_3 : decode cX5_isStore 3 = .ok (.ldc2_w 51, 3) := by decide +kernel
theorem dX5_isStore_6 : decode cX5_isStore 6 = .ok (.invokestatic 53, 3) := by decide +kernel
theorem dX5_isStore_9 : decode cX5_isStore 9 = .ok (.ireturn, 1) := by decide +kernel
theorem dX5_isRecord_0 : decode cX5_isRecord 0 = .ok (.iload_n 1, 1) := by decide +kernel
theorem dX5_isRecord_1 : decode cX5_isRecord 1 = .ok (.i2l, 1) := by decide +kernel
theorem dX5_isRecord_2 : decode cX5_isRecord 2 = .ok (.lconst 0, 1) := by decide +kernel
theorem dX5_isRecord_3 : decode cX5_isRecord 3 = .ok (.aload_n 0, 1) := by decide +kernel
theorem dX5_isRecord_4 : decode cX5_isRecord 4 = .ok (.invokevirtual 57, 3) := by decide +kernel
theorem dX5_isRecord_7 : decode cX5_isRecord 7 = .ok (.iconst 1, 1) := by decide +kernel
theorem dX5_isRecord_8 : decode cX5_isRecord 8 = .ok (.isub, 1) := by decide +kernel
theorem dX5_isRecord_9 : decode cX5_isRecord 9 = .ok (.i2l, 1) := by decide +kernel
theorem dX5_isRecord_10 : decode cX5_isRecord 10 = .ok (.invokestatic 53, 3) := by decide +kernel
theorem dX5_isRecord_13 : decode cX5_isRecord 13 = .ok (.ireturn, 1) := by decide +kernel
theorem dX5_isNumber_0 : decode cX5_isNumber 0 = .ok (.iload_n 0, 1) := by decide +kernel
theorem dX5_isNumber_1 : decode cX5_isNumber 1 = .ok (.i2l, 1) := by decide +kernel
theorem dX5_isNumber_2 : decode cX5_isNumber 2 = .ok (.lconst 0, 1) := by decide +kernel
theorem dX5_isNumber_3 : decode cX5_isNumber 3 = .ok (.ldc2_w 61, 3) := by decide +kernel
theorem dX5_isNumber_6 : decode cX5_isNumber 6 = .ok (.invokestatic 53, 3) := by decide +kernel
theorem dX5_isNumber_9 : decode cX5_isNumber 9 = .ok (.ireturn, 1) := by decide +kernel
theorem dX5_copyOf_0 : decode cX5_copyOf 0 = .ok (.aload_n 0, 1) := by decide +kernel
theorem dX5_copyOf_1 : decode cX5_copyOf 1 = .ok (.getfield 17, 3) := by decide +kernel
theorem dX5_copyOf_4 : decode cX5_copyOf 4 = .ok (.iload_n 1, 1) := by decide +kernel
theorem dX5_copyOf_5 : decode cX5_copyOf 5 = .ok (.iaload, 1) := by decide +kernel
theorem dX5_copyOf_6 : decode cX5_copyOf 6 = .ok (.iconst 2, 1) := by decide +kernel
theorem dX5_copyOf_7 : decode cX5_copyOf 7 = .ok (.if_icmp .ne 17, 3) := by decide +kernel
theorem dX5_copyOf_10 : decode cX5_copyOf 10 = .ok (.aload_n 0, 1) := by decide +kernel
theorem dX5_copyOf_11 : decode cX5_copyOf 11 = .ok (.getfield 23, 3) := by decide +kernel
theorem dX5_copyOf_14 : decode cX5_copyOf 14 = .ok (.bipush 8, 2) := by decide +kernel
theorem dX5_copyOf_16 : decode cX5_copyOf 16 = .ok (.iload_n 1, 1) := by decide +kernel
theorem dX5_copyOf_17 : decode cX5_copyOf 17 = .ok (.imul, 1) := by decide +kernel
theorem dX5_copyOf_18 : decode cX5_copyOf 18 = .ok (.iload_n 2, 1) := by decide +kernel
theorem dX5_copyOf_19 : decode cX5_copyOf 19 = .ok (.iadd, 1) := by decide +kernel
theorem dX5_copyOf_20 : decode cX5_copyOf 20 = .ok (.iaload, 1) := by decide +kernel
theorem dX5_copyOf_21 : decode cX5_copyOf 21 = .ok (.goto 9, 3) := by decide +kernel
theorem dX5_copyOf_24 : decode cX5_copyOf 24 = .ok (.aload_n 0, 1) := by decide +kernel
theorem dX5_copyOf_25 : decode cX5_copyOf 25 = .ok (.getfield 13, 3) := by decide +kernel
theorem dX5_copyOf_28 : decode cX5_copyOf 28 = .ok (.iload_n 2, 1) := by decide +kernel
theorem dX5_copyOf_29 : decode cX5_copyOf 29 = .ok (.iaload, 1) := by decide +kernel
theorem dX5_copyOf_30 : decode cX5_copyOf 30 = .ok (.ireturn, 1) := by decide +kernel
theorem dX5_sumOf_0 : decode cX5_sumOf 0 = .ok (.iconst 0, 1) := by decide +kernel
theorem dX5_sumOf_1 : decode cX5_sumOf 1 = .ok (.istore 5, 2) := by decide +kernel
theorem dX5_sumOf_3 : decode cX5_sumOf 3 = .ok (.iconst 0, 1) := by decide +kernel
theorem dX5_sumOf_4 : decode cX5_sumOf 4 = .ok (.istore 6, 2) := by decide +kernel
theorem dX5_sumOf_6 : decode cX5_sumOf 6 = .ok (.iload 6, 2) := by decide +kernel
theorem dX5_sumOf_8 : decode cX5_sumOf 8 = .ok (.aload_n 0, 1) := by decide +kernel
theorem dX5_sumOf_9 : decode cX5_sumOf 9 = .ok (.invokevirtual 57, 3) := by decide +kernel
theorem dX5_sumOf_12 : decode cX5_sumOf 12 = .ok (.if_icmp .ge 114, 3) := by decide +kernel
theorem dX5_sumOf_15 : decode cX5_sumOf 15 = .ok (.iload_n 1, 1) := by decide +kernel
theorem dX5_sumOf_16 : decode cX5_sumOf 16 = .ok (.ifCond .ne 13, 3) := by decide +kernel
theorem dX5_sumOf_19 : decode cX5_sumOf 19 = .ok (.aload_n 0, 1) := by decide +kernel
theorem dX5_sumOf_20 : decode cX5_sumOf 20 = .ok (.getfield 13, 3) := by decide +kernel
theorem dX5_sumOf_23 : decode cX5_sumOf 23 = .ok (.iload 6, 2) := by decide +kernel
theorem dX5_sumOf_25 : decode cX5_sumOf 25 = .ok (.iaload, 1) := by decide +kernel
theorem dX5_sumOf_26 : decode cX5_sumOf 26 = .ok (.goto 10, 3) := by decide +kernel
theorem dX5_sumOf_29 : decode cX5_sumOf 29 = .ok (.aload_n 0, 1) := by decide +kernel
theorem dX5_sumOf_30 : decode cX5_sumOf 30 = .ok (.iload_n 1, 1) := by decide +kernel
theorem dX5_sumOf_31 : decode cX5_sumOf 31 = .ok (.iload 6, 2) := by decide +kernel
theorem dX5_sumOf_33 : decode cX5_sumOf 33 = .ok (.invokevirtual 63, 3) := by decide +kernel
theorem dX5_sumOf_36 : decode cX5_sumOf 36 = .ok (.istore 7, 2) := by decide +kernel
theorem dX5_sumOf_38 : decode cX5_sumOf 38 = .ok (.iconst 0, 1) := by decide +kernel
theorem dX5_sumOf_39 : decode cX5_sumOf 39 = .ok (.istore 8, 2) := by decide +kernel
theorem dX5_sumOf_41 : decode cX5_sumOf 41 = .ok (.iload 8, 2) := by decide +kernel
theorem dX5_sumOf_43 : decode cX5_sumOf 43 = .ok (.aload_n 0, 1) := by decide +kernel
theorem dX5_sumOf_44 : decode cX5_sumOf 44 = .ok (.getfield 7, 3) := by decide +kernel
theorem dX5_sumOf_47 : decode cX5_sumOf 47 = .ok (.if_icmp .ge 63, 3) := by decide +kernel
theorem dX5_sumOf_50 : decode cX5_sumOf 50 = .ok (.iload 8, 2) := by decide +kernel
theorem dX5_sumOf_52 : decode cX5_sumOf 52 = .ok (.ifCond .ne 7, 3) := by decide +kernel
theorem dX5_sumOf_55 : decode cX5_sumOf 55 = .ok (.iload_n 2, 1) := by decide +kernel
theorem dX5_sumOf_56 : decode cX5_sumOf 56 = .ok (.goto 15, 3) := by decide +kernel
theorem dX5_sumOf_59 : decode cX5_sumOf 59 = .ok (.iload 8, 2) := by decide +kernel
theorem dX5_sumOf_61 : decode cX5_sumOf 61 = .ok (.iconst 1, 1) := by decide +kernel
theorem dX5_sumOf_62 : decode cX5_sumOf 62 = .ok (.if_icmp .ne 7, 3) := by decide +kernel
theorem dX5_sumOf_65 : decode cX5_sumOf 65 = .ok (.iload_n 3, 1) := by decide +kernel
theorem dX5_sumOf_66 : decode cX5_sumOf 66 = .ok (.goto 5, 3) := by decide +kernel
theorem dX5_sumOf_69 : decode cX5_sumOf 69 = .ok (.iload 4, 2) := by decide +kernel
theorem dX5_sumOf_71 : decode cX5_sumOf 71 = .ok (.istore 9, 2) := by decide +kernel
theorem dX5_sumOf_73 : decode cX5_sumOf 73 = .ok (.iload 7, 2) := by decide +kernel
theorem dX5_sumOf_75 : decode cX5_sumOf 75 = .ok (.iload 6, 2) := by decide +kernel
theorem dX5_sumOf_77 : decode cX5_sumOf 77 = .ok (.iload 8, 2) := by decide +kernel
theorem dX5_sumOf_79 : decode cX5_sumOf 79 = .ok (.ishr, 1) := by decide +kernel
theorem dX5_sumOf_80 : decode cX5_sumOf 80 = .ok (.iconst 1, 1) := by decide +kernel
theorem dX5_sumOf_81 : decode cX5_sumOf 81 = .ok (.iand, 1) := by decide +kernel
theorem dX5_sumOf_82 : decode cX5_sumOf 82 = .ok (.iconst 1, 1) := by decide +kernel
theorem dX5_sumOf_83 : decode cX5_sumOf 83 = .ok (.if_icmp .ne 8, 3) := by decide +kernel
theorem dX5_sumOf_86 : decode cX5_sumOf 86 = .ok (.iload 9, 2) := by decide +kernel
theorem dX5_sumOf_88 : decode cX5_sumOf 88 = .ok (.goto 10, 3) := by decide +kernel
theorem dX5_sumOf_91 : decode cX5_sumOf 91 = .ok (.iconst 1, 1) := by decide +kernel
theorem dX5_sumOf_92 : decode cX5_sumOf 92 = .ok (.iload 9, 2) := by decide +kernel
theorem dX5_sumOf_94 : decode cX5_sumOf 94 = .ok (.isub, 1) := by decide +kernel
theorem dX5_sumOf_95 : decode cX5_sumOf 95 = .ok (.invokestatic 67, 3) := by decide +kernel
theorem dX5_sumOf_98 : decode cX5_sumOf 98 = .ok (.imul, 1) := by decide +kernel
theorem dX5_sumOf_99 : decode cX5_sumOf 99 = .ok (.invokestatic 67, 3) := by decide +kernel
theorem dX5_sumOf_102 : decode cX5_sumOf 102 = .ok (.istore 7, 2) := by decide +kernel
theorem dX5_sumOf_104 : decode cX5_sumOf 104 = .ok (.iinc 8 1, 3) := by decide +kernel
theorem dX5_sumOf_107 : decode cX5_sumOf 107 = .ok (.goto (-66), 3) := by decide +kernel
theorem dX5_sumOf_110 : decode cX5_sumOf 110 = .ok (.iload 5, 2) := by decide +kernel
theorem dX5_sumOf_112 : decode cX5_sumOf 112 = .ok (.iload 7, 2) := by decide +kernel
theorem dX5_sumOf_114 : decode cX5_sumOf 114 = .ok (.iadd, 1) := by decide +kernel
theorem dX5_sumOf_115 : decode cX5_sumOf 115 = .ok (.invokestatic 67, 3) := by decide +kernel
theorem dX5_sumOf_118 : decode cX5_sumOf 118 = .ok (.istore 5, 2) := by decide +kernel
theorem dX5_sumOf_120 : decode cX5_sumOf 120 = .ok (.iinc 6 1, 3) := by decide +kernel
theorem dX5_sumOf_123 : decode cX5_sumOf 123 = .ok (.goto (-117), 3) := by decide +kernel
theorem dX5_sumOf_126 : decode cX5_sumOf 126 = .ok (.iload 5, 2) := by decide +kernel
theorem dX5_sumOf_128 : decode cX5_sumOf 128 = .ok (.ireturn, 1) := by decide +kernel
theorem dX5_pointOf_0 : decode cX5_pointOf 0 = .ok (.aload_n 0, 1) := by decide +kernel
theorem dX5_pointOf_1 : decode cX5_pointOf 1 = .ok (.getfield 71, 3) := by decide +kernel
theorem dX5_pointOf_4 : decode cX5_pointOf 4 = .ok (.iload_n 2, 1) := by decide +kernel
theorem dX5_pointOf_5 : decode cX5_pointOf 5 = .ok (.ishr, 1) := by decide +kernel
theorem dX5_pointOf_6 : decode cX5_pointOf 6 = .ok (.iconst 1, 1) := by decide +kernel
theorem dX5_pointOf_7 : decode cX5_pointOf 7 = .ok (.iand, 1) := by decide +kernel
theorem dX5_pointOf_8 : decode cX5_pointOf 8 = .ok (.istore_n 3, 1) := by decide +kernel
theorem dX5_pointOf_9 : decode cX5_pointOf 9 = .ok (.iconst 1, 1) := by decide +kernel
theorem dX5_pointOf_10 : decode cX5_pointOf 10 = .ok (.istore 4, 2) := by decide +kernel
theorem dX5_pointOf_12 : decode cX5_pointOf 12 = .ok (.iconst 0, 1) := by decide +kernel
theorem dX5_pointOf_13 : decode cX5_pointOf 13 = .ok (.istore 5, 2) := by decide +kernel
theorem dX5_pointOf_15 : decode cX5_pointOf 15 = .ok (.iload 5, 2) := by decide +kernel
theorem dX5_pointOf_17 : decode cX5_pointOf 17 = .ok (.aload_n 0, 1) := by decide +kernel
theorem dX5_pointOf_18 : decode cX5_pointOf 18 = .ok (.getfield 48, 3) := by decide +kernel
theorem dX5_pointOf_21 : decode cX5_pointOf 21 = .ok (.if_icmp .ge 38, 3) := by decide +kernel
theorem dX5_pointOf_24 : decode cX5_pointOf 24 = .ok (.iload 4, 2) := by decide +kernel
theorem dX5_pointOf_26 : decode cX5_pointOf 26 = .ok (.iload_n 1, 1) := by decide +kernel
theorem dX5_pointOf_27 : decode cX5_pointOf 27 = .ok (.imul, 1) := by decide +kernel
theorem dX5_pointOf_28 : decode cX5_pointOf 28 = .ok (.invokestatic 67, 3) := by decide +kernel
theorem dX5_pointOf_31 : decode cX5_pointOf 31 = .ok (.istore 4, 2) := by decide +kernel
theorem dX5_pointOf_33 : decode cX5_pointOf 33 = .ok (.iload_n 3, 1) := by decide +kernel
theorem dX5_pointOf_34 : decode cX5_pointOf 34 = .ok (.aload_n 0, 1) := by decide +kernel
theorem dX5_pointOf_35 : decode cX5_pointOf 35 = .ok (.getfield 26, 3) := by decide +kernel
theorem dX5_pointOf_38 : decode cX5_pointOf 38 = .ok (.iconst 2, 1) := by decide +kernel
theorem dX5_pointOf_39 : decode cX5_pointOf 39 = .ok (.iload_n 2, 1) := by decide +kernel
theorem dX5_pointOf_40 : decode cX5_pointOf 40 = .ok (.imul, 1) := by decide +kernel
theorem dX5_pointOf_41 : decode cX5_pointOf 41 = .ok (.iload 5, 2) := by decide +kernel
theorem dX5_pointOf_43 : decode cX5_pointOf 43 = .ok (.iadd, 1) := by decide +kernel
theorem dX5_pointOf_44 : decode cX5_pointOf 44 = .ok (.iaload, 1) := by decide +kernel
theorem dX5_pointOf_45 : decode cX5_pointOf 45 = .ok (.iload 4, 2) := by decide +kernel
theorem dX5_pointOf_47 : decode cX5_pointOf 47 = .ok (.imul, 1) := by decide +kernel
theorem dX5_pointOf_48 : decode cX5_pointOf 48 = .ok (.iadd, 1) := by decide +kernel
theorem dX5_pointOf_49 : decode cX5_pointOf 49 = .ok (.invokestatic 67, 3) := by decide +kernel
theorem dX5_pointOf_52 : decode cX5_pointOf 52 = .ok (.istore_n 3, 1) := by decide +kernel
theorem dX5_pointOf_53 : decode cX5_pointOf 53 = .ok (.iinc 5 1, 3) := by decide +kernel
theorem dX5_pointOf_56 : decode cX5_pointOf 56 = .ok (.goto (-41), 3) := by decide +kernel
theorem dX5_pointOf_59 : decode cX5_pointOf 59 = .ok (.iload_n 3, 1) := by decide +kernel
theorem dX5_pointOf_60 : decode cX5_pointOf 60 = .ok (.ireturn, 1) := by decide +kernel
theorem dX5_answerOf_0 : decode cX5_answerOf 0 = .ok (.aload_n 0, 1) := by decide +kernel
theorem dX5_answerOf_1 : decode cX5_answerOf 1 = .ok (.iload_n 1, 1) := by decide +kernel
theorem dX5_answerOf_2 : decode cX5_answerOf 2 = .ok (.aload_n 0, 1) := by decide +kernel
theorem dX5_answerOf_3 : decode cX5_answerOf 3 = .ok (.iload_n 1, 1) := by decide +kernel
theorem dX5_answerOf_4 : decode cX5_answerOf 4 = .ok (.iconst 0, 1) := by decide +kernel
theorem dX5_answerOf_5 : decode cX5_answerOf 5 = .ok (.invokevirtual 74, 3) := by decide +kernel
theorem dX5_answerOf_8 : decode cX5_answerOf 8 = .ok (.aload_n 0, 1) := by decide +kernel
theorem dX5_answerOf_9 : decode cX5_answerOf 9 = .ok (.iload_n 1, 1) := by decide +kernel
theorem dX5_answerOf_10 : decode cX5_answerOf 10 = .ok (.iconst 1, 1) := by decide +kernel
theorem dX5_answerOf_11 : decode cX5_answerOf 11 = .ok (.invokevirtual 74, 3) := by decide +kernel
theorem dX5_answerOf_14 : decode cX5_answerOf 14 = .ok (.aload_n 0, 1) := by decide +kernel
theorem dX5_answerOf_15 : decode cX5_answerOf 15 = .ok (.iload_n 1, 1) := by decide +kernel
theorem dX5_answerOf_16 : decode cX5_answerOf 16 = .ok (.iconst 2, 1) := by decide +kernel
theorem dX5_answerOf_17 : decode cX5_answerOf 17 = .ok (.invokevirtual 74, 3) := by decide +kernel
theorem dX5_answerOf_20 : decode cX5_answerOf 20 = .ok (.invokevirtual 77, 3) := by decide +kernel
theorem dX5_answerOf_23 : decode cX5_answerOf 23 = .ok (.aload_n 0, 1) := by decide +kernel
theorem dX5_answerOf_24 : decode cX5_answerOf 24 = .ok (.getfield 17, 3) := by decide +kernel
theorem dX5_answerOf_27 : decode cX5_answerOf 27 = .ok (.iload_n 1, 1) := by decide +kernel
theorem dX5_answerOf_28 : decode cX5_answerOf 28 = .ok (.iaload, 1) := by decide +kernel
theorem dX5_answerOf_29 : decode cX5_answerOf 29 = .ok (.iconst 1, 1) := by decide +kernel
theorem dX5_answerOf_30 : decode cX5_answerOf 30 = .ok (.if_icmp .ne 12, 3) := by decide +kernel
theorem dX5_answerOf_33 : decode cX5_answerOf 33 = .ok (.aload_n 0, 1) := by decide +kernel
theorem dX5_answerOf_34 : decode cX5_answerOf 34 = .ok (.getfield 20, 3) := by decide +kernel
theorem dX5_answerOf_37 : decode cX5_answerOf 37 = .ok (.iload_n 1, 1) := by decide +kernel
theorem dX5_answerOf_38 : decode cX5_answerOf 38 = .ok (.iaload, 1) := by decide +kernel
theorem dX5_answerOf_39 : decode cX5_answerOf 39 = .ok (.goto 4, 3) := by decide +kernel
theorem dX5_answerOf_42 : decode cX5_answerOf 42 = .ok (.iconst 0, 1) := by decide +kernel
theorem dX5_answerOf_43 : decode cX5_answerOf 43 = .ok (.iadd, 1) := by decide +kernel
theorem dX5_answerOf_44 : decode cX5_answerOf 44 = .ok (.istore_n 2, 1) := by decide +kernel
theorem dX5_answerOf_45 : decode cX5_answerOf 45 = .ok (.iconst 1, 1) := by decide +kernel
theorem dX5_answerOf_46 : decode cX5_answerOf 46 = .ok (.istore_n 3, 1) := by decide +kernel
theorem dX5_answerOf_47 : decode cX5_answerOf 47 = .ok (.iconst 1, 1) := by decide +kernel
theorem dX5_answerOf_48 : decode cX5_answerOf 48 = .ok (.istore 4, 2) := by decide +kernel
theorem dX5_answerOf_50 : decode cX5_answerOf 50 = .ok (.iload 4, 2) := by decide +kernel
theorem dX5_answerOf_52 : decode cX5_answerOf 52 = .ok (.aload_n 0, 1) := by decide +kernel
theorem dX5_answerOf_53 : decode cX5_answerOf 53 = .ok (.invokevirtual 81, 3) := by decide +kernel
theorem dX5_answerOf_56 : decode cX5_answerOf 56 = .ok (.if_icmp .gt 38, 3) := by decide +kernel
theorem dX5_answerOf_59 : decode cX5_answerOf 59 = .ok (.aload_n 0, 1) := by decide +kernel
theorem dX5_answerOf_60 : decode cX5_answerOf 60 = .ok (.getfield 84, 3) := by decide +kernel
theorem dX5_answerOf_63 : decode cX5_answerOf 63 = .ok (.ifCond .eq 31, 3) := by decide +kernel
theorem dX5_answerOf_66 : decode cX5_answerOf 66 = .ok (.iload_n 3, 1) := by decide +kernel
theorem dX5_answerOf_67 : decode cX5_answerOf 67 = .ok (.iload_n 1, 1) := by decide +kernel
theorem dX5_answerOf_68 : decode cX5_answerOf 68 = .ok (.imul, 1) := by decide +kernel
theorem dX5_answerOf_69 : decode cX5_answerOf 69 = .ok (.invokestatic 67, 3) := by decide +kernel
theorem dX5_answerOf_72 : decode cX5_answerOf 72 = .ok (.istore_n 3, 1) := by decide +kernel
theorem dX5_answerOf_73 : decode cX5_answerOf 73 = .ok (.iload_n 2, 1) := by decide +kernel
theorem dX5_answerOf_74 : decode cX5_answerOf 74 = .ok (.aload_n 0, 1) := by decide +kernel
theorem dX5_answerOf_75 : decode cX5_answerOf 75 = .ok (.getfield 29, 3) := by decide +kernel
theorem dX5_answerOf_78 : decode cX5_answerOf 78 = .ok (.iload 4, 2) := by decide +kernel
theorem dX5_answerOf_80 : decode cX5_answerOf 80 = .ok (.iaload, 1) := by decide +kernel
theorem dX5_answerOf_81 : decode cX5_answerOf 81 = .ok (.iload_n 3, 1) := by decide +kernel
theorem dX5_answerOf_82 : decode cX5_answerOf 82 = .ok (.imul, 1) := by decide +kernel
theorem dX5_answerOf_83 : decode cX5_answerOf 83 = .ok (.iadd, 1) := by decide +kernel
theorem dX5_answerOf_84 : decode cX5_answerOf 84 = .ok (.invokestatic 67, 3) := by decide +kernel
theorem dX5_answerOf_87 : decode cX5_answerOf 87 = .ok (.istore_n 2, 1) := by decide +kernel
theorem dX5_answerOf_88 : decode cX5_answerOf 88 = .ok (.iinc 4 1, 3) := by decide +kernel
theorem dX5_answerOf_91 : decode cX5_answerOf 91 = .ok (.goto (-41), 3) := by decide +kernel
theorem dX5_answerOf_94 : decode cX5_answerOf 94 = .ok (.iload_n 2, 1) := by decide +kernel
theorem dX5_answerOf_95 : decode cX5_answerOf 95 = .ok (.invokestatic 67, 3) := by decide +kernel
theorem dX5_answerOf_98 : decode cX5_answerOf 98 = .ok (.ireturn, 1) := by decide +kernel
theorem dX5_records_0 : decode cX5_records 0 = .ok (.aload_n 0, 1) := by decide +kernel
theorem dX5_records_1 : decode cX5_records 1 = .ok (.iconst 0, 1) := by decide +kernel
theorem dX5_records_2 : decode cX5_records 2 = .ok (.putfield 45, 3) := by decide +kernel
theorem dX5_records_5 : decode cX5_records 5 = .ok (.iload_n 1, 1) := by decide +kernel
theorem dX5_records_6 : decode cX5_records 6 = .ok (.i2l, 1) := by decide +kernel
theorem dX5_records_7 : decode cX5_records 7 = .ok (.lconst 1, 1) := by decide +kernel
theorem dX5_records_8 : decode cX5_records 8 = .ok (.ldc2_w 88, 3) := by decide +kernel
theorem dX5_records_11 : decode cX5_records 11 = .ok (.invokestatic 53, 3) := by decide +kernel
theorem dX5_records_14 : decode cX5_records 14 = .ok (.ifCond .ne 6, 3) := by decide +kernel
theorem dX5_records_17 : decode cX5_records 17 = .ok (.bipush (-2), 2) := by decide +kernel
theorem dX5_records_19 : decode cX5_records 19 = .ok (.ireturn, 1) := by decide +kernel
theorem dX5_records_20 : decode cX5_records 20 = .ok (.aload_n 0, 1) := by decide +kernel
theorem dX5_records_21 : decode cX5_records 21 = .ok (.invokevirtual 57, 3) := by decide +kernel
theorem dX5_records_24 : decode cX5_records 24 = .ok (.istore_n 2, 1) := by decide +kernel
theorem dX5_records_25 : decode cX5_records 25 = .ok (.aload_n 0, 1) := by decide +kernel
theorem dX5_records_26 : decode cX5_records 26 = .ok (.iload_n 1, 1) := by decide +kernel
theorem dX5_records_27 : decode cX5_records 27 = .ok (.putfield 7, 3) := by decide +kernel
theorem dX5_records_30 : decode cX5_records 30 = .ok (.iconst 0, 1) := by decide +kernel
theorem dX5_records_31 : decode cX5_records 31 = .ok (.istore_n 3, 1) := by decide +kernel
theorem dX5_records_32 : decode cX5_records 32 = .ok (.iload_n 3, 1) := by decide +kernel
theorem dX5_records_33 : decode cX5_records 33 = .ok (.bipush 8, 2) := by decide +kernel
theorem dX5_records_35 : decode cX5_records 35 = .ok (.if_icmp .ge 16, 3) := by decide +kernel
theorem dX5_records_38 : decode cX5_records 38 = .ok (.aload_n 0, 1) := by decide +kernel
theorem dX5_records_39 : decode cX5_records 39 = .ok (.getfield 13, 3) := by decide +kernel
theorem dX5_records_42 : decode cX5_records 42 = .ok (.iload_n 3, 1) := by decide +kernel
theorem dX5_records_43 : decode cX5_records 43 = .ok (.iconst 0, 1) := by decide +kernel
theorem dX5_records_44 : decode cX5_records 44 = .ok (.iastore, 1) := by decide +kernel
theorem dX5_records_45 : decode cX5_records 45 = .ok (.iinc 3 1, 3) := by decide +kernel
theorem dX5_records_48 : decode cX5_records 48 = .ok (.goto (-16), 3) := by decide +kernel
theorem dX5_records_51 : decode cX5_records 51 = .ok (.iconst 0, 1) := by decide +kernel
theorem dX5_records_52 : decode cX5_records 52 = .ok (.istore_n 3, 1) := by decide +kernel
theorem dX5_records_53 : decode cX5_records 53 = .ok (.iload_n 3, 1) := by decide +kernel
theorem dX5_records_54 : decode cX5_records 54 = .ok (.bipush 10, 2) := by decide +kernel
theorem dX5_records_56 : decode cX5_records 56 = .ok (.if_icmp .ge 16, 3) := by decide +kernel
theorem dX5_records_59 : decode cX5_records 59 = .ok (.aload_n 0, 1) := by decide +kernel
theorem dX5_records_60 : decode cX5_records 60 = .ok (.getfield 17, 3) := by decide +kernel
theorem dX5_records_63 : decode cX5_records 63 = .ok (.iload_n 3, 1) := by decide +kernel
theorem dX5_records_64 : decode cX5_records 64 = .ok (.iconst 0, 1) := by decide +kernel
theorem dX5_records_65 : decode cX5_records 65 = .ok (.iastore, 1) := by decide +kernel
theorem dX5_records_66 : decode cX5_records 66 = .ok (.iinc 3 1, 3) := by decide +kernel
theorem dX5_records_69 : decode cX5_records 69 = .ok (.goto (-16), 3) := by decide +kernel
theorem dX5_records_72 : decode cX5_records 72 = .ok (.aload_n 0, 1) := by decide +kernel
theorem dX5_records_73 : decode cX5_records 73 = .ok (.iconst 0, 1) := by decide +kernel
theorem dX5_records_74 : decode cX5_records 74 = .ok (.putfield 90, 3) := by decide +kernel
theorem dX5_records_77 : decode cX5_records 77 = .ok (.aload_n 0, 1) := by decide +kernel
theorem dX5_records_78 : decode cX5_records 78 = .ok (.iconst 0, 1) := by decide +kernel
theorem dX5_records_79 : decode cX5_records 79 = .ok (.putfield 84, 3) := by decide +kernel
theorem dX5_records_82 : decode cX5_records 82 = .ok (.iload_n 2, 1) := by decide +kernel
theorem dX5_records_83 : decode cX5_records 83 = .ok (.ireturn, 1) := by decide +kernel
theorem dX5_put_0 : decode cX5_put 0 = .ok (.aload_n 0, 1) := by decide +kernel
theorem dX5_put_1 : decode cX5_put 1 = .ok (.iconst 0, 1) := by decide +kernel
theorem dX5_put_2 : decode cX5_put 2 = .ok (.putfield 45, 3) := by decide +kernel
theorem dX5_put_5 : decode cX5_put 5 = .ok (.aload_n 0, 1) := by decide +kernel
theorem dX5_put_6 : decode cX5_put 6 = .ok (.iload_n 1, 1) := by decide +kernel
theorem dX5_put_7 : decode cX5_put 7 = .ok (.invokevirtual 93, 3) := by decide +kernel
theorem dX5_put_10 : decode cX5_put 10 = .ok (.ifCond .ne 5, 3) := by decide +kernel
theorem dX5_put_13 : decode cX5_put 13 = .ok (.iconst (-1), 1) := by decide +kernel
theorem dX5_put_14 : decode cX5_put 14 = .ok (.ireturn, 1) := by decide +kernel
theorem dX5_put_15 : decode cX5_put 15 = .ok (.iload_n 2, 1) := by decide +kernel
theorem dX5_put_16 : decode cX5_put 16 = .ok (.invokestatic 97, 3) := by decide +kernel
theorem dX5_put_19 : decode cX5_put 19 = .ok (.ifCond .ne 6, 3) := by decide +kernel
theorem dX5_put_22 : decode cX5_put 22 = .ok (.bipush (-2), 2) := by decide +kernel
theorem dX5_put_24 : decode cX5_put 24 = .ok (.ireturn, 1) := by decide +kernel
theorem dX5_put_25 : decode cX5_put 25 = .ok (.aload_n 0, 1) := by decide +kernel
theorem dX5_put_26 : decode cX5_put 26 = .ok (.getfield 13, 3) := by decide +kernel
theorem dX5_put_29 : decode cX5_put 29 = .ok (.iload_n 1, 1) := by decide +kernel
theorem dX5_put_30 : decode cX5_put 30 = .ok (.iaload, 1) := by decide +kernel
theorem dX5_put_31 : decode cX5_put 31 = .ok (.istore_n 3, 1) := by decide +kernel
theorem dX5_put_32 : decode cX5_put 32 = .ok (.aload_n 0, 1) := by decide +kernel
theorem dX5_put_33 : decode cX5_put 33 = .ok (.getfield 13, 3) := by decide +kernel
theorem dX5_put_36 : decode cX5_put 36 = .ok (.iload_n 1, 1) := by decide +kernel
theorem dX5_put_37 : decode cX5_put 37 = .ok (.iload_n 2, 1) := by decide +kernel
theorem dX5_put_38 : decode cX5_put 38 = .ok (.iastore, 1) := by decide +kernel
theorem dX5_put_39 : decode cX5_put 39 = .ok (.iload_n 3, 1) := by decide +kernel
theorem dX5_put_40 : decode cX5_put 40 = .ok (.ireturn, 1) := by decide +kernel
theorem dX5_record_0 : decode cX5_record 0 = .ok (.aload_n 0, 1) := by decide +kernel
theorem dX5_record_1 : decode cX5_record 1 = .ok (.iconst 0, 1) := by decide +kernel
theorem dX5_record_2 : decode cX5_record 2 = .ok (.putfield 45, 3) := by decide +kernel
theorem dX5_record_5 : decode cX5_record 5 = .ok (.aload_n 0, 1) := by decide +kernel
theorem dX5_record_6 : decode cX5_record 6 = .ok (.iload_n 1, 1) := by decide +kernel
theorem dX5_record_7 : decode cX5_record 7 = .ok (.invokevirtual 93, 3) := by decide +kernel
theorem dX5_record_10 : decode cX5_record 10 = .ok (.ifCond .eq 12, 3) := by decide +kernel
theorem dX5_record_13 : decode cX5_record 13 = .ok (.aload_n 0, 1) := by decide +kernel
theorem dX5_record_14 : decode cX5_record 14 = .ok (.getfield 13, 3) := by decide +kernel
theorem dX5_record_17 : decode cX5_record 17 = .ok (.iload_n 1, 1) := by decide +kernel
theorem dX5_record_18 : decode cX5_record 18 = .ok (.iaload, 1) := by decide +kernel
theorem dX5_record_19 : decode cX5_record 19 = .ok (.goto 4, 3) := by decide +kernel
theorem dX5_record_22 : decode cX5_record 22 = .ok (.iconst (-1), 1) := by decide +kernel
theorem dX5_record_23 : decode cX5_record 23 = .ok (.ireturn, 1) := by decide +kernel
theorem dX5_store_0 : decode cX5_store 0 = .ok (.aload_n 0, 1) := by decide +kernel
theorem dX5_store_1 : decode cX5_store 1 = .ok (.iconst 0, 1) := by decide +kernel
theorem dX5_store_2 : decode cX5_store 2 = .ok (.putfield 45, 3) := by decide +kernel
theorem dX5_store_5 : decode cX5_store 5 = .ok (.iload_n 1, 1) := by decide +kernel
theorem dX5_store_6 : decode cX5_store 6 = .ok (.invokestatic 100, 3) := by decide +kernel
theorem dX5_store_9 : decode cX5_store 9 = .ok (.ifCond .ne 5, 3) := by decide +kernel
theorem dX5_store_12 : decode cX5_store 12 = .ok (.iconst (-1), 1) := by decide +kernel
theorem dX5_store_13 : decode cX5_store 13 = .ok (.ireturn, 1) := by decide +kernel
theorem dX5_store_14 : decode cX5_store 14 = .ok (.iload_n 2, 1) := by decide +kernel
theorem dX5_store_15 : decode cX5_store 15 = .ok (.i2l, 1) := by decide +kernel
theorem dX5_store_16 : decode cX5_store 16 = .ok (.lconst 0, 1) := by decide +kernel
theorem dX5_store_17 : decode cX5_store 17 = .ok (.ldc2_w 88, 3) := by decide +kernel
theorem dX5_store_20 : decode cX5_store 20 = .ok (.invokestatic 53, 3) := by decide +kernel
theorem dX5_store_23 : decode cX5_store 23 = .ok (.ifCond .eq 20, 3) := by decide +kernel
theorem dX5_store_26 : decode cX5_store 26 = .ok (.iload_n 2, 1) := by decide +kernel
theorem dX5_store_27 : decode cX5_store 27 = .ok (.iconst 1, 1) := by decide +kernel
theorem dX5_store_28 : decode cX5_store 28 = .ok (.if_icmp .ne 18, 3) := by decide +kernel
theorem dX5_store_31 : decode cX5_store 31 = .ok (.iload_n 3, 1) := by decide +kernel
theorem dX5_store_32 : decode cX5_store 32 = .ok (.i2l, 1) := by decide +kernel
theorem dX5_store_33 : decode cX5_store 33 = .ok (.lconst 1, 1) := by decide +kernel
theorem dX5_store_34 : decode cX5_store 34 = .ok (.ldc2_w 61, 3) := by decide +kernel
theorem dX5_store_37 : decode cX5_store 37 = .ok (.invokestatic 53, 3) := by decide +kernel
theorem dX5_store_40 : decode cX5_store 40 = .ok (.ifCond .ne 6, 3) := by decide +kernel
theorem dX5_store_43 : decode cX5_store 43 = .ok (.bipush (-2), 2) := by decide +kernel
theorem dX5_store_45 : decode cX5_store 45 = .ok (.ireturn, 1) := by decide +kernel
theorem dX5_store_46 : decode cX5_store 46 = .ok (.aload_n 0, 1) := by decide +kernel
theorem dX5_store_47 : decode cX5_store 47 = .ok (.getfield 17, 3) := by decide +kernel
theorem dX5_store_50 : decode cX5_store 50 = .ok (.iload_n 1, 1) := by decide +kernel
theorem dX5_store_51 : decode cX5_store 51 = .ok (.iaload, 1) := by decide +kernel
theorem dX5_store_52 : decode cX5_store 52 = .ok (.istore 4, 2) := by decide +kernel
theorem dX5_store_54 : decode cX5_store 54 = .ok (.aload_n 0, 1) := by decide +kernel
theorem dX5_store_55 : decode cX5_store 55 = .ok (.getfield 17, 3) := by decide +kernel
theorem dX5_store_58 : decode cX5_store 58 = .ok (.iload_n 1, 1) := by decide +kernel
theorem dX5_store_59 : decode cX5_store 59 = .ok (.iload_n 2, 1) := by decide +kernel
theorem dX5_store_60 : decode cX5_store 60 = .ok (.iastore, 1) := by decide +kernel
theorem dX5_store_61 : decode cX5_store 61 = .ok (.aload_n 0, 1) := by decide +kernel
theorem dX5_store_62 : decode cX5_store 62 = .ok (.getfield 20, 3) := by decide +kernel
theorem dX5_store_65 : decode cX5_store 65 = .ok (.iload_n 1, 1) := by decide +kernel
theorem dX5_store_66 : decode cX5_store 66 = .ok (.iload_n 3, 1) := by decide +kernel
theorem dX5_store_67 : decode cX5_store 67 = .ok (.iastore, 1) := by decide +kernel
theorem dX5_store_68 : decode cX5_store 68 = .ok (.iconst 0, 1) := by decide +kernel
theorem dX5_store_69 : decode cX5_store 69 = .ok (.istore 5, 2) := by decide +kernel
theorem dX5_store_71 : decode cX5_store 71 = .ok (.iload 5, 2) := by decide +kernel
theorem dX5_store_73 : decode cX5_store 73 = .ok (.bipush 8, 2) := by decide +kernel
theorem dX5_store_75 : decode cX5_store 75 = .ok (.if_icmp .ge 28, 3) := by decide +kernel
theorem dX5_store_78 : decode cX5_store 78 = .ok (.aload_n 0, 1) := by decide +kernel
theorem dX5_store_79 : decode cX5_store 79 = .ok (.getfield 23, 3) := by decide +kernel
theorem dX5_store_82 : decode cX5_store 82 = .ok (.bipush 8, 2) := by decide +kernel
theorem dX5_store_84 : decode cX5_store 84 = .ok (.iload_n 1, 1) := by decide +kernel
theorem dX5_store_85 : decode cX5_store 85 = .ok (.imul, 1) := by decide +kernel
theorem dX5_store_86 : decode cX5_store 86 = .ok (.iload 5, 2) := by decide +kernel
theorem dX5_store_88 : decode cX5_store 88 = .ok (.iadd, 1) := by decide +kernel
theorem dX5_store_89 : decode cX5_store 89 = .ok (.aload_n 0, 1) := by decide +kernel
theorem dX5_store_90 : decode cX5_store 90 = .ok (.getfield 13, 3) := by decide +kernel
theorem dX5_store_93 : decode cX5_store 93 = .ok (.iload 5, 2) := by decide +kernel
theorem dX5_store_95 : decode cX5_store 95 = .ok (.iaload, 1) := by decide +kernel
theorem dX5_store_96 : decode cX5_store 96 = .ok (.iastore, 1) := by decide +kernel
theorem dX5_store_97 : decode cX5_store 97 = .ok (.iinc 5 1, 3) := by decide +kernel
theorem dX5_store_100 : decode cX5_store 100 = .ok (.goto (-29), 3) := by decide +kernel
theorem dX5_store_103 : decode cX5_store 103 = .ok (.iload 4, 2) := by decide +kernel
theorem dX5_store_105 : decode cX5_store 105 = .ok (.ireturn, 1) := by decide +kernel
theorem dX5_taken_0 : decode cX5_taken 0 = .ok (.aload_n 0, 1) := by decide +kernel
theorem dX5_taken_1 : decode cX5_taken 1 = .ok (.iconst 0, 1) := by decide +kernel
theorem dX5_taken_2 : decode cX5_taken 2 = .ok (.putfield 45, 3) := by decide +kernel
theorem dX5_taken_5 : decode cX5_taken 5 = .ok (.iload_n 1, 1) := by decide +kernel
theorem dX5_taken_6 : decode cX5_taken 6 = .ok (.invokestatic 100, 3) := by decide +kernel
theorem dX5_taken_9 : decode cX5_taken 9 = .ok (.ifCond .ne 5, 3) := by decide +kernel
theorem dX5_taken_12 : decode cX5_taken 12 = .ok (.iconst (-1), 1) := by decide +kernel
theorem dX5_taken_13 : decode cX5_taken 13 = .ok (.ireturn, 1) := by decide +kernel
theorem dX5_taken_14 : decode cX5_taken 14 = .ok (.iload_n 2, 1) := by decide +kernel
theorem dX5_taken_15 : decode cX5_taken 15 = .ok (.i2l, 1) := by decide +kernel
theorem dX5_taken_16 : decode cX5_taken 16 = .ok (.lconst 0, 1) := by decide +kernel
theorem dX5_taken_17 : decode cX5_taken 17 = .ok (.ldc2_w 88, 3) := by decide +kernel
theorem dX5_taken_20 : decode cX5_taken 20 = .ok (.invokestatic 53, 3) := by decide +kernel
theorem dX5_taken_23 : decode cX5_taken 23 = .ok (.ifCond .eq 15, 3) := by decide +kernel
theorem dX5_taken_26 : decode cX5_taken 26 = .ok (.iload_n 3, 1) := by decide +kernel
theorem dX5_taken_27 : decode cX5_taken 27 = .ok (.i2l, 1) := by decide +kernel
theorem dX5_taken_28 : decode cX5_taken 28 = .ok (.lconst 0, 1) := by decide +kernel
theorem dX5_taken_29 : decode cX5_taken 29 = .ok (.ldc2_w 103, 3) := by decide +kernel
theorem dX5_taken_32 : decode cX5_taken 32 = .ok (.invokestatic 53, 3) := by decide +kernel
theorem dX5_taken_35 : decode cX5_taken 35 = .ok (.ifCond .ne 6, 3) := by decide +kernel
theorem dX5_taken_38 : decode cX5_taken 38 = .ok (.bipush (-2), 2) := by decide +kernel
theorem dX5_taken_40 : decode cX5_taken 40 = .ok (.ireturn, 1) := by decide +kernel
theorem dX5_taken_41 : decode cX5_taken 41 = .ok (.iload_n 2, 1) := by decide +kernel
theorem dX5_taken_42 : decode cX5_taken 42 = .ok (.ifCond .eq 16, 3) := by decide +kernel
theorem dX5_taken_45 : decode cX5_taken 45 = .ok (.aload_n 0, 1) := by decide +kernel
theorem dX5_taken_46 : decode cX5_taken 46 = .ok (.getfield 17, 3) := by decide +kernel
theorem dX5_taken_49 : decode cX5_taken 49 = .ok (.iload_n 1, 1) := by decide +kernel
theorem dX5_taken_50 : decode cX5_taken 50 = .ok (.iaload, 1) := by decide +kernel
theorem dX5_taken_51 : decode cX5_taken 51 = .ok (.iload_n 2, 1) := by decide +kernel
theorem dX5_taken_52 : decode cX5_taken 52 = .ok (.if_icmp .eq 6, 3) := by decide +kernel
theorem dX5_taken_55 : decode cX5_taken 55 = .ok (.bipush (-13), 2) := by decide +kernel
theorem dX5_taken_57 : decode cX5_taken 57 = .ok (.ireturn, 1) := by decide +kernel
theorem dX5_taken_58 : decode cX5_taken 58 = .ok (.iload_n 3, 1) := by decide +kernel
theorem dX5_taken_59 : decode cX5_taken 59 = .ok (.ifCond .ne 12, 3) := by decide +kernel
theorem dX5_taken_62 : decode cX5_taken 62 = .ok (.aload_n 0, 1) := by decide +kernel
theorem dX5_taken_63 : decode cX5_taken 63 = .ok (.getfield 17, 3) := by decide +kernel
theorem dX5_taken_66 : decode cX5_taken 66 = .ok (.iload_n 1, 1) := by decide +kernel
theorem dX5_taken_67 : decode cX5_taken 67 = .ok (.iaload, 1) := by decide +kernel
theorem dX5_taken_68 : decode cX5_taken 68 = .ok (.goto 53, 3) := by decide +kernel
theorem dX5_taken_71 : decode cX5_taken 71 = .ok (.iload_n 3, 1) := by decide +kernel
theorem dX5_taken_72 : decode cX5_taken 72 = .ok (.iconst 1, 1) := by decide +kernel
theorem dX5_taken_73 : decode cX5_taken 73 = .ok (.if_icmp .ne 27, 3) := by decide +kernel
theorem dX5_taken_76 : decode cX5_taken 76 = .ok (.aload_n 0, 1) := by decide +kernel
theorem dX5_taken_77 : decode cX5_taken 77 = .ok (.getfield 17, 3) := by decide +kernel
theorem dX5_taken_80 : decode cX5_taken 80 = .ok (.iload_n 1, 1) := by decide +kernel
theorem dX5_taken_81 : decode cX5_taken 81 = .ok (.iaload, 1) := by decide +kernel
theorem dX5_taken_82 : decode cX5_taken 82 = .ok (.iconst 1, 1) := by decide +kernel
theorem dX5_taken_83 : decode cX5_taken 83 = .ok (.if_icmp .ne 12, 3) := by decide +kernel
theorem dX5_taken_86 : decode cX5_taken 86 = .ok (.aload_n 0, 1) := by decide +kernel
theorem dX5_taken_87 : decode cX5_taken 87 = .ok (.getfield 20, 3) := by decide +kernel
theorem dX5_taken_90 : decode cX5_taken 90 = .ok (.iload_n 1, 1) := by decide +kernel
theorem dX5_taken_91 : decode cX5_taken 91 = .ok (.iaload, 1) := by decide +kernel
theorem dX5_taken_92 : decode cX5_taken 92 = .ok (.goto 29, 3) := by decide +kernel
theorem dX5_taken_95 : decode cX5_taken 95 = .ok (.bipush (-9), 2) := by decide +kernel
theorem dX5_taken_97 : decode cX5_taken 97 = .ok (.goto 24, 3) := by decide +kernel
theorem dX5_taken_100 : decode cX5_taken 100 = .ok (.aload_n 0, 1) := by decide +kernel
theorem dX5_taken_101 : decode cX5_taken 101 = .ok (.getfield 17, 3) := by decide +kernel
theorem dX5_taken_104 : decode cX5_taken 104 = .ok (.iload_n 1, 1) := by decide +kernel
theorem dX5_taken_105 : decode cX5_taken 105 = .ok (.iaload, 1) := by decide +kernel
theorem dX5_taken_106 : decode cX5_taken 106 = .ok (.iconst 3, 1) := by decide +kernel
theorem dX5_taken_107 : decode cX5_taken 107 = .ok (.if_icmp .ne 8, 3) := by decide +kernel
theorem dX5_taken_110 : decode cX5_taken 110 = .ok (.bipush (-9), 2) := by decide +kernel
theorem dX5_taken_112 : decode cX5_taken 112 = .ok (.goto 9, 3) := by decide +kernel
theorem dX5_taken_115 : decode cX5_taken 115 = .ok (.aload_n 0, 1) := by decide +kernel
theorem dX5_taken_116 : decode cX5_taken 116 = .ok (.iload_n 1, 1) := by decide +kernel
theorem dX5_taken_117 : decode cX5_taken 117 = .ok (.iconst 0, 1) := by decide +kernel
theorem dX5_taken_118 : decode cX5_taken 118 = .ok (.invokevirtual 63, 3) := by decide +kernel
theorem dX5_taken_121 : decode cX5_taken 121 = .ok (.ireturn, 1) := by decide +kernel
theorem dX5_copy_0 : decode cX5_copy 0 = .ok (.aload_n 0, 1) := by decide +kernel
theorem dX5_copy_1 : decode cX5_copy 1 = .ok (.iconst 0, 1) := by decide +kernel
theorem dX5_copy_2 : decode cX5_copy 2 = .ok (.putfield 45, 3) := by decide +kernel
theorem dX5_copy_5 : decode cX5_copy 5 = .ok (.iload_n 1, 1) := by decide +kernel
theorem dX5_copy_6 : decode cX5_copy 6 = .ok (.invokestatic 100, 3) := by decide +kernel
theorem dX5_copy_9 : decode cX5_copy 9 = .ok (.ifCond .eq 11, 3) := by decide +kernel
theorem dX5_copy_12 : decode cX5_copy 12 = .ok (.aload_n 0, 1) := by decide +kernel
theorem dX5_copy_13 : decode cX5_copy 13 = .ok (.iload_n 2, 1) := by decide +kernel
theorem dX5_copy_14 : decode cX5_copy 14 = .ok (.invokevirtual 93, 3) := by decide +kernel
theorem dX5_copy_17 : decode cX5_copy 17 = .ok (.ifCond .ne 7, 3) := by decide +kernel
theorem dX5_copy_20 : decode cX5_copy 20 = .ok (.iconst (-1), 1) := by decide +kernel
theorem dX5_copy_21 : decode cX5_copy 21 = .ok (.goto 24, 3) := by decide +kernel
theorem dX5_copy_24 : decode cX5_copy 24 = .ok (.aload_n 0, 1) := by decide +kernel
theorem dX5_copy_25 : decode cX5_copy 25 = .ok (.getfield 17, 3) := by decide +kernel
theorem dX5_copy_28 : decode cX5_copy 28 = .ok (.iload_n 1, 1) := by decide +kernel
theorem dX5_copy_29 : decode cX5_copy 29 = .ok (.iaload, 1) := by decide +kernel
theorem dX5_copy_30 : decode cX5_copy 30 = .ok (.iconst 3, 1) := by decide +kernel
theorem dX5_copy_31 : decode cX5_copy 31 = .ok (.if_icmp .ne 8, 3) := by decide +kernel
theorem dX5_copy_34 : decode cX5_copy 34 = .ok (.bipush (-9), 2) := by decide +kernel
theorem dX5_copy_36 : decode cX5_copy 36 = .ok (.goto 9, 3) := by decide +kernel
theorem dX5_copy_39 : decode cX5_copy 39 = .ok (.aload_n 0, 1) := by decide +kernel
theorem dX5_copy_40 : decode cX5_copy 40 = .ok (.iload_n 1, 1) := by decide +kernel
theorem dX5_copy_41 : decode cX5_copy 41 = .ok (.iload_n 2, 1) := by decide +kernel
theorem dX5_copy_42 : decode cX5_copy 42 = .ok (.invokevirtual 63, 3) := by decide +kernel
theorem dX5_copy_45 : decode cX5_copy 45 = .ok (.ireturn, 1) := by decide +kernel
theorem dX5_sum_0 : decode cX5_sum 0 = .ok (.aload_n 0, 1) := by decide +kernel
theorem dX5_sum_1 : decode cX5_sum 1 = .ok (.iconst 0, 1) := by decide +kernel
theorem dX5_sum_2 : decode cX5_sum 2 = .ok (.putfield 45, 3) := by decide +kernel
theorem dX5_sum_5 : decode cX5_sum 5 = .ok (.iload_n 1, 1) := by decide +kernel
theorem dX5_sum_6 : decode cX5_sum 6 = .ok (.invokestatic 97, 3) := by decide +kernel
theorem dX5_sum_9 : decode cX5_sum 9 = .ok (.ifCond .eq 33, 3) := by decide +kernel
theorem dX5_sum_12 : decode cX5_sum 12 = .ok (.aload_n 0, 1) := by decide +kernel
theorem dX5_sum_13 : decode cX5_sum 13 = .ok (.getfield 7, 3) := by decide +kernel
theorem dX5_sum_16 : decode cX5_sum 16 = .ok (.iconst 1, 1) := by decide +kernel
theorem dX5_sum_17 : decode cX5_sum 17 = .ok (.if_icmp .le 10, 3) := by decide +kernel
theorem dX5_sum_20 : decode cX5_sum 20 = .ok (.iload_n 2, 1) := by decide +kernel
theorem dX5_sum_21 : decode cX5_sum 21 = .ok (.invokestatic 97, 3) := by decide +kernel
theorem dX5_sum_24 : decode cX5_sum 24 = .ok (.ifCond .eq 18, 3) := by decide +kernel
theorem dX5_sum_27 : decode cX5_sum 27 = .ok (.aload_n 0, 1) := by decide +kernel
theorem dX5_sum_28 : decode cX5_sum 28 = .ok (.getfield 7, 3) := by decide +kernel
theorem dX5_sum_31 : decode cX5_sum 31 = .ok (.iconst 2, 1) := by decide +kernel
theorem dX5_sum_32 : decode cX5_sum 32 = .ok (.if_icmp .le 13, 3) := by decide +kernel
theorem dX5_sum_35 : decode cX5_sum 35 = .ok (.iload_n 3, 1) := by decide +kernel
theorem dX5_sum_36 : decode cX5_sum 36 = .ok (.invokestatic 97, 3) := by decide +kernel
theorem dX5_sum_39 : decode cX5_sum 39 = .ok (.ifCond .ne 6, 3) := by decide +kernel
theorem dX5_sum_42 : decode cX5_sum 42 = .ok (.bipush (-2), 2) := by decide +kernel
theorem dX5_sum_44 : decode cX5_sum 44 = .ok (.ireturn, 1) := by decide +kernel
theorem dX5_sum_45 : decode cX5_sum 45 = .ok (.aload_n 0, 1) := by decide +kernel
theorem dX5_sum_46 : decode cX5_sum 46 = .ok (.iconst 0, 1) := by decide +kernel
theorem dX5_sum_47 : decode cX5_sum 47 = .ok (.iload_n 1, 1) := by decide +kernel
theorem dX5_sum_48 : decode cX5_sum 48 = .ok (.iload_n 2, 1) := by decide +kernel
theorem dX5_sum_49 : decode cX5_sum 49 = .ok (.iload_n 3, 1) := by decide +kernel
theorem dX5_sum_50 : decode cX5_sum 50 = .ok (.invokevirtual 77, 3) := by decide +kernel
theorem dX5_sum_53 : decode cX5_sum 53 = .ok (.ireturn, 1) := by decide +kernel
theorem dX5_next_0 : decode cX5_next 0 = .ok (.ldc2_w 105, 3) := by decide +kernel
theorem dX5_next_3 : decode cX5_next 3 = .ok (.lload_n 0, 1) := by decide +kernel
theorem dX5_next_4 : decode cX5_next 4 = .ok (.lmul, 1) := by decide +kernel
theorem dX5_next_5 : decode cX5_next 5 = .ok (.ldc2_w 107, 3) := by decide +kernel
theorem dX5_next_8 : decode cX5_next 8 = .ok (.ladd, 1) := by decide +kernel
theorem dX5_next_9 : decode cX5_next 9 = .ok (.ldc2_w 109, 3) := by decide +kernel
theorem dX5_next_12 : decode cX5_next 12 = .ok (.lrem, 1) := by decide +kernel
theorem dX5_next_13 : decode cX5_next 13 = .ok (.lreturn, 1) := by decide +kernel
theorem dX5_lotOf_0 : decode cX5_lotOf 0 = .ok (.lload_n 0, 1) := by decide +kernel
theorem dX5_lotOf_1 : decode cX5_lotOf 1 = .ok (.ldc2_w 111, 3) := by decide +kernel
theorem dX5_lotOf_4 : decode cX5_lotOf 4 = .ok (.ldiv, 1) := by decide +kernel
theorem dX5_lotOf_5 : decode cX5_lotOf 5 = .ok (.ldc2_w 113, 3) := by decide +kernel
theorem dX5_lotOf_8 : decode cX5_lotOf 8 = .ok (.lrem, 1) := by decide +kernel
theorem dX5_lotOf_9 : decode cX5_lotOf 9 = .ok (.l2i, 1) := by decide +kernel
theorem dX5_lotOf_10 : decode cX5_lotOf 10 = .ok (.ireturn, 1) := by decide +kernel
theorem dX5_ask_0 : decode cX5_ask 0 = .ok (.aload_n 0, 1) := by decide +kernel
theorem dX5_ask_1 : decode cX5_ask 1 = .ok (.iconst 0, 1) := by decide +kernel
theorem dX5_ask_2 : decode cX5_ask 2 = .ok (.putfield 45, 3) := by decide +kernel
theorem dX5_ask_5 : decode cX5_ask 5 = .ok (.aload_n 0, 1) := by decide +kernel
theorem dX5_ask_6 : decode cX5_ask 6 = .ok (.iload_n 1, 1) := by decide +kernel
theorem dX5_ask_7 : decode cX5_ask 7 = .ok (.invokevirtual 93, 3) := by decide +kernel
theorem dX5_ask_10 : decode cX5_ask 10 = .ok (.ifCond .ne 5, 3) := by decide +kernel
theorem dX5_ask_13 : decode cX5_ask 13 = .ok (.iconst (-1), 1) := by decide +kernel
theorem dX5_ask_14 : decode cX5_ask 14 = .ok (.ireturn, 1) := by decide +kernel
theorem dX5_ask_15 : decode cX5_ask 15 = .ok (.iload_n 2, 1) := by decide +kernel
theorem dX5_ask_16 : decode cX5_ask 16 = .ok (.i2l, 1) := by decide +kernel
theorem dX5_ask_17 : decode cX5_ask 17 = .ok (.lconst 1, 1) := by decide +kernel
theorem dX5_ask_18 : decode cX5_ask 18 = .ok (.ldc2_w 103, 3) := by decide +kernel
theorem dX5_ask_21 : decode cX5_ask 21 = .ok (.invokestatic 53, 3) := by decide +kernel
theorem dX5_ask_24 : decode cX5_ask 24 = .ok (.ifCond .eq 7, 3) := by decide +kernel
theorem dX5_ask_27 : decode cX5_ask 27 = .ok (.iload_n 3, 1) := by decide +kernel
theorem dX5_ask_28 : decode cX5_ask 28 = .ok (.ifCond .ge 6, 3) := by decide +kernel
theorem dX5_ask_31 : decode cX5_ask 31 = .ok (.bipush (-2), 2) := by decide +kernel
theorem dX5_ask_33 : decode cX5_ask 33 = .ok (.ireturn, 1) := by decide +kernel
theorem dX5_ask_34 : decode cX5_ask 34 = .ok (.aload_n 0, 1) := by decide +kernel
theorem dX5_ask_35 : decode cX5_ask 35 = .ok (.iconst 1, 1) := by decide +kernel
theorem dX5_ask_36 : decode cX5_ask 36 = .ok (.putfield 90, 3) := by decide +kernel
theorem dX5_ask_39 : decode cX5_ask 39 = .ok (.aload_n 0, 1) := by decide +kernel
theorem dX5_ask_40 : decode cX5_ask 40 = .ok (.iconst 0, 1) := by decide +kernel
theorem dX5_ask_41 : decode cX5_ask 41 = .ok (.putfield 84, 3) := by decide +kernel
theorem dX5_ask_44 : decode cX5_ask 44 = .ok (.aload_n 0, 1) := by decide +kernel
theorem dX5_ask_45 : decode cX5_ask 45 = .ok (.iload_n 1, 1) := by decide +kernel
theorem dX5_ask_46 : decode cX5_ask 46 = .ok (.putfield 71, 3) := by decide +kernel
theorem dX5_ask_49 : decode cX5_ask 49 = .ok (.aload_n 0, 1) := by decide +kernel
theorem dX5_ask_50 : decode cX5_ask 50 = .ok (.iload_n 2, 1) := by decide +kernel
theorem dX5_ask_51 : decode cX5_ask 51 = .ok (.putfield 48, 3) := by decide +kernel
theorem dX5_ask_54 : decode cX5_ask 54 = .ok (.aload_n 0, 1) := by decide +kernel
theorem dX5_ask_55 : decode cX5_ask 55 = .ok (.dup, 1) := by decide +kernel
theorem dX5_ask_56 : decode cX5_ask 56 = .ok (.getfield 115, 3) := by decide +kernel
theorem dX5_ask_59 : decode cX5_ask 59 = .ok (.iconst 1, 1) := by decide +kernel
theorem dX5_ask_60 : decode cX5_ask 60 = .ok (.iadd, 1) := by decide +kernel
theorem dX5_ask_61 : decode cX5_ask 61 = .ok (.putfield 115, 3) := by decide +kernel
theorem dX5_ask_64 : decode cX5_ask 64 = .ok (.iload_n 3, 1) := by decide +kernel
theorem dX5_ask_65 : decode cX5_ask 65 = .ok (.i2l, 1) := by decide +kernel
theorem dX5_ask_66 : decode cX5_ask 66 = .ok (.lstore 4, 2) := by decide +kernel
theorem dX5_ask_68 : decode cX5_ask 68 = .ok (.iconst 0, 1) := by decide +kernel
theorem dX5_ask_69 : decode cX5_ask 69 = .ok (.istore 6, 2) := by decide +kernel
theorem dX5_ask_71 : decode cX5_ask 71 = .ok (.iload 6, 2) := by decide +kernel
theorem dX5_ask_73 : decode cX5_ask 73 = .ok (.aload_n 0, 1) := by decide +kernel
theorem dX5_ask_74 : decode cX5_ask 74 = .ok (.getfield 7, 3) := by decide +kernel
theorem dX5_ask_77 : decode cX5_ask 77 = .ok (.if_icmp .ge 48, 3) := by decide +kernel
theorem dX5_ask_80 : decode cX5_ask 80 = .ok (.iconst 0, 1) := by decide +kernel
theorem dX5_ask_81 : decode cX5_ask 81 = .ok (.istore 7, 2) := by decide +kernel
theorem dX5_ask_83 : decode cX5_ask 83 = .ok (.iload 7, 2) := by decide +kernel
theorem dX5_ask_85 : decode cX5_ask 85 = .ok (.iload_n 2, 1) := by decide +kernel
theorem dX5_ask_86 : decode cX5_ask 86 = .ok (.if_icmp .ge 33, 3) := by decide +kernel
theorem dX5_ask_89 : decode cX5_ask 89 = .ok (.lload 4, 2) := by decide +kernel
theorem dX5_ask_91 : decode cX5_ask 91 = .ok (.invokestatic 118, 3) := by decide +kernel
theorem dX5_ask_94 : decode cX5_ask 94 = .ok (.lstore 4, 2) := by decide +kernel
theorem dX5_ask_96 : decode cX5_ask 96 = .ok (.aload_n 0, 1) := by decide +kernel
theorem dX5_ask_97 : decode cX5_ask 97 = .ok (.getfield 26, 3) := by decide +kernel
theorem dX5_ask_100 : decode cX5_ask 100 = .ok (.iconst 2, 1) := by decide +kernel
theorem dX5_ask_101 : decode cX5_ask 101 = .ok (.iload 6, 2) := by decide +kernel
theorem dX5_ask_103 : decode cX5_ask 103 = .ok (.imul, 1) := by decide +kernel
theorem dX5_ask_104 : decode cX5_ask 104 = .ok (.iload 7, 2) := by decide +kernel
theorem dX5_ask_106 : decode cX5_ask 106 = .ok (.iadd, 1) := by decide +kernel
theorem dX5_ask_107 : decode cX5_ask 107 = .ok (.lload 4, 2) := by decide +kernel
theorem dX5_ask_109 : decode cX5_ask 109 = .ok (.invokestatic 122, 3) := by decide +kernel
theorem dX5_ask_112 : decode cX5_ask 112 = .ok (.iastore, 1) := by decide +kernel
theorem dX5_ask_113 : decode cX5_ask 113 = .ok (.iinc 7 1, 3) := by decide +kernel
theorem dX5_ask_116 : decode cX5_ask 116 = .ok (.goto (-33), 3) := by decide +kernel
theorem dX5_ask_119 : decode cX5_ask 119 = .ok (.iinc 6 1, 3) := by decide +kernel
theorem dX5_ask_122 : decode cX5_ask 122 = .ok (.goto (-51), 3) := by decide +kernel
theorem dX5_ask_125 : decode cX5_ask 125 = .ok (.aload_n 0, 1) := by decide +kernel
theorem dX5_ask_126 : decode cX5_ask 126 = .ok (.invokevirtual 81, 3) := by decide +kernel
theorem dX5_ask_129 : decode cX5_ask 129 = .ok (.ireturn, 1) := by decide +kernel
theorem dX5_veil_0 : decode cX5_veil 0 = .ok (.aload_n 0, 1) := by decide +kernel
theorem dX5_veil_1 : decode cX5_veil 1 = .ok (.iconst 0, 1) := by decide +kernel
theorem dX5_veil_2 : decode cX5_veil 2 = .ok (.putfield 45, 3) := by decide +kernel
theorem dX5_veil_5 : decode cX5_veil 5 = .ok (.iload_n 1, 1) := by decide +kernel
theorem dX5_veil_6 : decode cX5_veil 6 = .ok (.ifCond .ge 12, 3) := by decide +kernel
theorem dX5_veil_9 : decode cX5_veil 9 = .ok (.iload_n 1, 1) := by decide +kernel
theorem dX5_veil_10 : decode cX5_veil 10 = .ok (.bipush (-9), 2) := by decide +kernel
theorem dX5_veil_12 : decode cX5_veil 12 = .ok (.if_icmp .eq 6, 3) := by decide +kernel
theorem dX5_veil_15 : decode cX5_veil 15 = .ok (.bipush (-2), 2) := by decide +kernel
theorem dX5_veil_17 : decode cX5_veil 17 = .ok (.ireturn, 1) := by decide +kernel
theorem dX5_veil_18 : decode cX5_veil 18 = .ok (.aload_n 0, 1) := by decide +kernel
theorem dX5_veil_19 : decode cX5_veil 19 = .ok (.getfield 90, 3) := by decide +kernel
theorem dX5_veil_22 : decode cX5_veil 22 = .ok (.ifCond .ne 6, 3) := by decide +kernel
theorem dX5_veil_25 : decode cX5_veil 25 = .ok (.bipush (-3), 2) := by decide +kernel
theorem dX5_veil_27 : decode cX5_veil 27 = .ok (.ireturn, 1) := by decide +kernel
theorem dX5_veil_28 : decode cX5_veil 28 = .ok (.aload_n 0, 1) := by decide +kernel
theorem dX5_veil_29 : decode cX5_veil 29 = .ok (.getfield 84, 3) := by decide +kernel
theorem dX5_veil_32 : decode cX5_veil 32 = .ok (.ifCond .eq 7, 3) := by decide +kernel
theorem dX5_veil_35 : decode cX5_veil 35 = .ok (.iconst 1, 1) := by decide +kernel
theorem dX5_veil_36 : decode cX5_veil 36 = .ok (.goto 4, 3) := by decide +kernel
theorem dX5_veil_39 : decode cX5_veil 39 = .ok (.iconst 0, 1) := by decide +kernel
theorem dX5_veil_40 : decode cX5_veil 40 = .ok (.istore_n 2, 1) := by decide +kernel
theorem dX5_veil_41 : decode cX5_veil 41 = .ok (.aload_n 0, 1) := by decide +kernel
theorem dX5_veil_42 : decode cX5_veil 42 = .ok (.iload_n 1, 1) := by decide +kernel
theorem dX5_veil_43 : decode cX5_veil 43 = .ok (.bipush (-9), 2) := by decide +kernel
theorem dX5_veil_45 : decode cX5_veil 45 = .ok (.if_icmp .eq 7, 3) := by decide +kernel
theorem dX5_veil_48 : decode cX5_veil 48 = .ok (.iconst 1, 1) := by decide +kernel
theorem dX5_veil_49 : decode cX5_veil 49 = .ok (.goto 4, 3) := by decide +kernel
theorem dX5_veil_52 : decode cX5_veil 52 = .ok (.iconst 0, 1) := by decide +kernel
theorem dX5_veil_53 : decode cX5_veil 53 = .ok (.putfield 84, 3) := by decide +kernel
theorem dX5_veil_56 : decode cX5_veil 56 = .ok (.iload_n 1, 1) := by decide +kernel
theorem dX5_veil_57 : decode cX5_veil 57 = .ok (.i2l, 1) := by decide +kernel
theorem dX5_veil_58 : decode cX5_veil 58 = .ok (.lstore_n 3, 1) := by decide +kernel
theorem dX5_veil_59 : decode cX5_veil 59 = .ok (.iconst 1, 1) := by decide +kernel
theorem dX5_veil_60 : decode cX5_veil 60 = .ok (.istore 5, 2) := by decide +kernel
theorem dX5_veil_62 : decode cX5_veil 62 = .ok (.iload 5, 2) := by decide +kernel
theorem dX5_veil_64 : decode cX5_veil 64 = .ok (.aload_n 0, 1) := by decide +kernel
theorem dX5_veil_65 : decode cX5_veil 65 = .ok (.invokevirtual 81, 3) := by decide +kernel
theorem dX5_veil_68 : decode cX5_veil 68 = .ok (.if_icmp .gt 32, 3) := by decide +kernel
theorem dX5_veil_71 : decode cX5_veil 71 = .ok (.aload_n 0, 1) := by decide +kernel
theorem dX5_veil_72 : decode cX5_veil 72 = .ok (.getfield 84, 3) := by decide +kernel
theorem dX5_veil_75 : decode cX5_veil 75 = .ok (.ifCond .eq 25, 3) := by decide +kernel
theorem dX5_veil_78 : decode cX5_veil 78 = .ok (.lload_n 3, 1) := by decide +kernel
theorem dX5_veil_79 : decode cX5_veil 79 = .ok (.invokestatic 118, 3) := by decide +kernel
theorem dX5_veil_82 : decode cX5_veil 82 = .ok (.lstore_n 3, 1) := by decide +kernel
theorem dX5_veil_83 : decode cX5_veil 83 = .ok (.aload_n 0, 1) := by decide +kernel
theorem dX5_veil_84 : decode cX5_veil 84 = .ok (.getfield 29, 3) := by decide +kernel
theorem dX5_veil_87 : decode cX5_veil 87 = .ok (.iload 5, 2) := by decide +kernel
theorem dX5_veil_89 : decode cX5_veil 89 = .ok (.lload_n 3, 1) := by decide +kernel
theorem dX5_veil_90 : decode cX5_veil 90 = .ok (.invokestatic 122, 3) := by decide +kernel
theorem dX5_veil_93 : decode cX5_veil 93 = .ok (.iastore, 1) := by decide +kernel
theorem dX5_veil_94 : decode cX5_veil 94 = .ok (.iinc 5 1, 3) := by decide +kernel
theorem dX5_veil_97 : decode cX5_veil 97 = .ok (.goto (-35), 3) := by decide +kernel
theorem dX5_veil_100 : decode cX5_veil 100 = .ok (.iload_n 2, 1) := by decide +kernel
theorem dX5_veil_101 : decode cX5_veil 101 = .ok (.ireturn, 1) := by decide +kernel
theorem dX5_point_0 : decode cX5_point 0 = .ok (.aload_n 0, 1) := by decide +kernel
theorem dX5_point_1 : decode cX5_point 1 = .ok (.iconst 0, 1) := by decide +kernel
theorem dX5_point_2 : decode cX5_point 2 = .ok (.putfield 45, 3) := by decide +kernel
theorem dX5_point_5 : decode cX5_point 5 = .ok (.iload_n 1, 1) := by decide +kernel
theorem dX5_point_6 : decode cX5_point 6 = .ok (.invokestatic 100, 3) := by decide +kernel
theorem dX5_point_9 : decode cX5_point 9 = .ok (.ifCond .ne 5, 3) := by decide +kernel
theorem dX5_point_12 : decode cX5_point 12 = .ok (.iconst (-1), 1) := by decide +kernel
theorem dX5_point_13 : decode cX5_point 13 = .ok (.ireturn, 1) := by decide +kernel
theorem dX5_point_14 : decode cX5_point 14 = .ok (.aload_n 0, 1) := by decide +kernel
theorem dX5_point_15 : decode cX5_point 15 = .ok (.getfield 90, 3) := by decide +kernel
theorem dX5_point_18 : decode cX5_point 18 = .ok (.ifCond .ne 6, 3) := by decide +kernel
theorem dX5_point_21 : decode cX5_point 21 = .ok (.bipush (-3), 2) := by decide +kernel
theorem dX5_point_23 : decode cX5_point 23 = .ok (.ireturn, 1) := by decide +kernel
theorem dX5_point_24 : decode cX5_point 24 = .ok (.iload_n 2, 1) := by decide +kernel
theorem dX5_point_25 : decode cX5_point 25 = .ok (.i2l, 1) := by decide +kernel
theorem dX5_point_26 : decode cX5_point 26 = .ok (.lconst 0, 1) := by decide +kernel
theorem dX5_point_27 : decode cX5_point 27 = .ok (.aload_n 0, 1) := by decide +kernel
theorem dX5_point_28 : decode cX5_point 28 = .ok (.getfield 7, 3) := by decide +kernel
theorem dX5_point_31 : decode cX5_point 31 = .ok (.iconst 1, 1) := by decide +kernel
theorem dX5_point_32 : decode cX5_point 32 = .ok (.isub, 1) := by decide +kernel
theorem dX5_point_33 : decode cX5_point 33 = .ok (.i2l, 1) := by decide +kernel
theorem dX5_point_34 : decode cX5_point 34 = .ok (.invokestatic 53, 3) := by decide +kernel
theorem dX5_point_37 : decode cX5_point 37 = .ok (.ifCond .eq 12, 3) := by decide +kernel
theorem dX5_point_40 : decode cX5_point 40 = .ok (.aload_n 0, 1) := by decide +kernel
theorem dX5_point_41 : decode cX5_point 41 = .ok (.iload_n 1, 1) := by decide +kernel
theorem dX5_point_42 : decode cX5_point 42 = .ok (.iload_n 2, 1) := by decide +kernel
theorem dX5_point_43 : decode cX5_point 43 = .ok (.invokevirtual 74, 3) := by decide +kernel
theorem dX5_point_46 : decode cX5_point 46 = .ok (.goto 5, 3) := by decide +kernel
theorem dX5_point_49 : decode cX5_point 49 = .ok (.bipush (-2), 2) := by decide +kernel
theorem dX5_point_51 : decode cX5_point 51 = .ok (.ireturn, 1) := by decide +kernel
theorem dX5_answer_0 : decode cX5_answer 0 = .ok (.aload_n 0, 1) := by decide +kernel
theorem dX5_answer_1 : decode cX5_answer 1 = .ok (.iconst 0, 1) := by decide +kernel
theorem dX5_answer_2 : decode cX5_answer 2 = .ok (.putfield 45, 3) := by decide +kernel
theorem dX5_answer_5 : decode cX5_answer 5 = .ok (.iload_n 1, 1) := by decide +kernel
theorem dX5_answer_6 : decode cX5_answer 6 = .ok (.invokestatic 100, 3) := by decide +kernel
theorem dX5_answer_9 : decode cX5_answer 9 = .ok (.ifCond .ne 7, 3) := by decide +kernel
theorem dX5_answer_12 : decode cX5_answer 12 = .ok (.iconst (-1), 1) := by decide +kernel
theorem dX5_answer_13 : decode cX5_answer 13 = .ok (.goto 35, 3) := by decide +kernel
theorem dX5_answer_16 : decode cX5_answer 16 = .ok (.aload_n 0, 1) := by decide +kernel
theorem dX5_answer_17 : decode cX5_answer 17 = .ok (.getfield 90, 3) := by decide +kernel
theorem dX5_answer_20 : decode cX5_answer 20 = .ok (.ifCond .ne 8, 3) := by decide +kernel
theorem dX5_answer_23 : decode cX5_answer 23 = .ok (.bipush (-3), 2) := by decide +kernel
theorem dX5_answer_25 : decode cX5_answer 25 = .ok (.goto 23, 3) := by decide +kernel
theorem dX5_answer_28 : decode cX5_answer 28 = .ok (.aload_n 0, 1) := by decide +kernel
theorem dX5_answer_29 : decode cX5_answer 29 = .ok (.getfield 17, 3) := by decide +kernel
theorem dX5_answer_32 : decode cX5_answer 32 = .ok (.iload_n 1, 1) := by decide +kernel
theorem dX5_answer_33 : decode cX5_answer 33 = .ok (.iaload, 1) := by decide +kernel
theorem dX5_answer_34 : decode cX5_answer 34 = .ok (.iconst 3, 1) := by decide +kernel
theorem dX5_answer_35 : decode cX5_answer 35 = .ok (.if_icmp .ne 8, 3) := by decide +kernel
theorem dX5_answer_38 : decode cX5_answer 38 = .ok (.bipush (-9), 2) := by decide +kernel
theorem dX5_answer_40 : decode cX5_answer 40 = .ok (.goto 8, 3) := by decide +kernel
theorem dX5_answer_43 : decode cX5_answer 43 = .ok (.aload_n 0, 1) := by decide +kernel
theorem dX5_answer_44 : decode cX5_answer 44 = .ok (.iload_n 1, 1) := by decide +kernel
theorem dX5_answer_45 : decode cX5_answer 45 = .ok (.invokevirtual 126, 3) := by decide +kernel
theorem dX5_answer_48 : decode cX5_answer 48 = .ok (.ireturn, 1) := by decide +kernel
theorem dX5_needed_0 : decode cX5_needed 0 = .ok (.aload_n 0, 1) := by decide +kernel
theorem dX5_needed_1 : decode cX5_needed 1 = .ok (.iconst 0, 1) := by decide +kernel
theorem dX5_needed_2 : decode cX5_needed 2 = .ok (.putfield 45, 3) := by decide +kernel
theorem dX5_needed_5 : decode cX5_needed 5 = .ok (.iload_n 1, 1) := by decide +kernel
theorem dX5_needed_6 : decode cX5_needed 6 = .ok (.i2l, 1) := by decide +kernel
theorem dX5_needed_7 : decode cX5_needed 7 = .ok (.lconst 1, 1) := by decide +kernel
theorem dX5_needed_8 : decode cX5_needed 8 = .ok (.ldc2_w 88, 3) := by decide +kernel
theorem dX5_needed_11 : decode cX5_needed 11 = .ok (.invokestatic 53, 3) := by decide +kernel
theorem dX5_needed_14 : decode cX5_needed 14 = .ok (.ifCond .eq 27, 3) := by decide +kernel
theorem dX5_needed_17 : decode cX5_needed 17 = .ok (.iload_n 2, 1) := by decide +kernel
theorem dX5_needed_18 : decode cX5_needed 18 = .ok (.i2l, 1) := by decide +kernel
theorem dX5_needed_19 : decode cX5_needed 19 = .ok (.lconst 1, 1) := by decide +kernel
theorem dX5_needed_20 : decode cX5_needed 20 = .ok (.ldc2_w 103, 3) := by decide +kernel
theorem dX5_needed_23 : decode cX5_needed 23 = .ok (.invokestatic 53, 3) := by decide +kernel
theorem dX5_needed_26 : decode cX5_needed 26 = .ok (.ifCond .eq 15, 3) := by decide +kernel
theorem dX5_needed_29 : decode cX5_needed 29 = .ok (.iload_n 3, 1) := by decide +kernel
theorem dX5_needed_30 : decode cX5_needed 30 = .ok (.i2l, 1) := by decide +kernel
theorem dX5_needed_31 : decode cX5_needed 31 = .ok (.lconst 0, 1) := by decide +kernel
theorem dX5_needed_32 : decode cX5_needed 32 = .ok (.ldc2_w 129, 3) := by decide +kernel
theorem dX5_needed_35 : decode cX5_needed 35 = .ok (.invokestatic 53, 3) := by decide +kernel
theorem dX5_needed_38 : decode cX5_needed 38 = .ok (.ifCond .ne 8, 3) := by decide +kernel
theorem dX5_needed_41 : decode cX5_needed 41 = .ok (.bipush (-2), 2) := by decide +kernel
theorem dX5_needed_43 : decode cX5_needed 43 = .ok (.goto 12, 3) := by decide +kernel
theorem dX5_needed_46 : decode cX5_needed 46 = .ok (.iload_n 1, 1) := by decide +kernel
theorem dX5_needed_47 : decode cX5_needed 47 = .ok (.iload_n 2, 1) := by decide +kernel
theorem dX5_needed_48 : decode cX5_needed 48 = .ok (.imul, 1) := by decide +kernel
theorem dX5_needed_49 : decode cX5_needed 49 = .ok (.iconst 1, 1) := by decide +kernel
theorem dX5_needed_50 : decode cX5_needed 50 = .ok (.iadd, 1) := by decide +kernel
theorem dX5_needed_51 : decode cX5_needed 51 = .ok (.iconst 2, 1) := by decide +kernel
theorem dX5_needed_52 : decode cX5_needed 52 = .ok (.iload_n 3, 1) := by decide +kernel
theorem dX5_needed_53 : decode cX5_needed 53 = .ok (.imul, 1) := by decide +kernel
theorem dX5_needed_54 : decode cX5_needed 54 = .ok (.iadd, 1) := by decide +kernel
theorem dX5_needed_55 : decode cX5_needed 55 = .ok (.ireturn, 1) := by decide +kernel
theorem dX5_hear_0 : decode cX5_hear 0 = .ok (.aload_n 0, 1) := by decide +kernel
theorem dX5_hear_1 : decode cX5_hear 1 = .ok (.iconst 0, 1) := by decide +kernel
theorem dX5_hear_2 : decode cX5_hear 2 = .ok (.putfield 131, 3) := by decide +kernel
theorem dX5_hear_5 : decode cX5_hear 5 = .ok (.iconst 1, 1) := by decide +kernel
theorem dX5_hear_6 : decode cX5_hear 6 = .ok (.istore_n 2, 1) := by decide +kernel
theorem dX5_hear_7 : decode cX5_hear 7 = .ok (.iload_n 2, 1) := by decide +kernel
theorem dX5_hear_8 : decode cX5_hear 8 = .ok (.iload_n 1, 1) := by decide +kernel
theorem dX5_hear_9 : decode cX5_hear 9 = .ok (.if_icmp .gt 53, 3) := by decide +kernel
theorem dX5_hear_12 : decode cX5_hear 12 = .ok (.aload_n 0, 1) := by decide +kernel
theorem dX5_hear_13 : decode cX5_hear 13 = .ok (.getfield 17, 3) := by decide +kernel
theorem dX5_hear_16 : decode cX5_hear 16 = .ok (.iload_n 2, 1) := by decide +kernel
theorem dX5_hear_17 : decode cX5_hear 17 = .ok (.iaload, 1) := by decide +kernel
theorem dX5_hear_18 : decode cX5_hear 18 = .ok (.iconst 3, 1) := by decide +kernel
theorem dX5_hear_19 : decode cX5_hear 19 = .ok (.if_icmp .eq 37, 3) := by decide +kernel
theorem dX5_hear_22 : decode cX5_hear 22 = .ok (.aload_n 0, 1) := by decide +kernel
theorem dX5_hear_23 : decode cX5_hear 23 = .ok (.getfield 36, 3) := by decide +kernel
theorem dX5_hear_26 : decode cX5_hear 26 = .ok (.aload_n 0, 1) := by decide +kernel
theorem dX5_hear_27 : decode cX5_hear 27 = .ok (.getfield 131, 3) := by decide +kernel
theorem dX5_hear_30 : decode cX5_hear 30 = .ok (.iload_n 2, 1) := by decide +kernel
theorem dX5_hear_31 : decode cX5_hear 31 = .ok (.iastore, 1) := by decide +kernel
theorem dX5_hear_32 : decode cX5_hear 32 = .ok (.aload_n 0, 1) := by decide +kernel
theorem dX5_hear_33 : decode cX5_hear 33 = .ok (.getfield 39, 3) := by decide +kernel
theorem dX5_hear_36 : decode cX5_hear 36 = .ok (.aload_n 0, 1) := by decide +kernel
theorem dX5_hear_37 : decode cX5_hear 37 = .ok (.getfield 131, 3) := by decide +kernel
theorem dX5_hear_40 : decode cX5_hear 40 = .ok (.aload_n 0, 1) := by decide +kernel
theorem dX5_hear_41 : decode cX5_hear 41 = .ok (.iload_n 2, 1) := by decide +kernel
theorem dX5_hear_42 : decode cX5_hear 42 = .ok (.invokevirtual 126, 3) := by decide +kernel
theorem dX5_hear_45 : decode cX5_hear 45 = .ok (.iastore, 1) := by decide +kernel
theorem dX5_hear_46 : decode cX5_hear 46 = .ok (.aload_n 0, 1) := by decide +kernel
theorem dX5_hear_47 : decode cX5_hear 47 = .ok (.dup, 1) := by decide +kernel
theorem dX5_hear_48 : decode cX5_hear 48 = .ok (.getfield 131, 3) := by decide +kernel
theorem dX5_hear_51 : decode cX5_hear 51 = .ok (.iconst 1, 1) := by decide +kernel
theorem dX5_hear_52 : decode cX5_hear 52 = .ok (.iadd, 1) := by decide +kernel
theorem dX5_hear_53 : decode cX5_hear 53 = .ok (.putfield 131, 3) := by decide +kernel
theorem dX5_hear_56 : decode cX5_hear 56 = .ok (.iinc 2 1, 3) := by decide +kernel
theorem dX5_hear_59 : decode cX5_hear 59 = .ok (.goto (-52), 3) := by decide +kernel
theorem dX5_hear_62 : decode cX5_hear 62 = .ok (.return_, 1) := by decide +kernel
theorem dX5_curveAt_0 : decode cX5_curveAt 0 = .ok (.iconst 0, 1) := by decide +kernel
theorem dX5_curveAt_1 : decode cX5_curveAt 1 = .ok (.istore_n 2, 1) := by decide +kernel
theorem dX5_curveAt_2 : decode cX5_curveAt 2 = .ok (.iconst 0, 1) := by decide +kernel
theorem dX5_curveAt_3 : decode cX5_curveAt 3 = .ok (.istore_n 3, 1) := by decide +kernel
theorem dX5_curveAt_4 : decode cX5_curveAt 4 = .ok (.iload_n 3, 1) := by decide +kernel
theorem dX5_curveAt_5 : decode cX5_curveAt 5 = .ok (.aload_n 0, 1) := by decide +kernel
theorem dX5_curveAt_6 : decode cX5_curveAt 6 = .ok (.invokevirtual 81, 3) := by decide +kernel
theorem dX5_curveAt_9 : decode cX5_curveAt 9 = .ok (.if_icmp .gt 123, 3) := by decide +kernel
theorem dX5_curveAt_12 : decode cX5_curveAt 12 = .ok (.aload_n 0, 1) := by decide +kernel
theorem dX5_curveAt_13 : decode cX5_curveAt 13 = .ok (.getfield 39, 3) := by decide +kernel
theorem dX5_curveAt_16 : decode cX5_curveAt 16 = .ok (.aload_n 0, 1) := by decide +kernel
theorem dX5_curveAt_17 : decode cX5_curveAt 17 = .ok (.getfield 42, 3) := by decide +kernel
theorem dX5_curveAt_20 : decode cX5_curveAt 20 = .ok (.iload_n 3, 1) := by decide +kernel
theorem dX5_curveAt_21 : decode cX5_curveAt 21 = .ok (.iaload, 1) := by decide +kernel
theorem dX5_curveAt_22 : decode cX5_curveAt 22 = .ok (.iaload, 1) := by decide +kernel
theorem dX5_curveAt_23 : decode cX5_curveAt 23 = .ok (.istore 4, 2) := by decide +kernel
theorem dX5_curveAt_25 : decode cX5_curveAt 25 = .ok (.iconst 1, 1) := by decide +kernel
theorem dX5_curveAt_26 : decode cX5_curveAt 26 = .ok (.istore 5, 2) := by decide +kernel
theorem dX5_curveAt_28 : decode cX5_curveAt 28 = .ok (.iconst 0, 1) := by decide +kernel
theorem dX5_curveAt_29 : decode cX5_curveAt 29 = .ok (.istore 6, 2) := by decide +kernel
theorem dX5_curveAt_31 : decode cX5_curveAt 31 = .ok (.iload 6, 2) := by decide +kernel
theorem dX5_curveAt_33 : decode cX5_curveAt 33 = .ok (.aload_n 0, 1) := by decide +kernel
theorem dX5_curveAt_34 : decode cX5_curveAt 34 = .ok (.invokevirtual 81, 3) := by decide +kernel
theorem dX5_curveAt_37 : decode cX5_curveAt 37 = .ok (.if_icmp .gt 75, 3) := by decide +kernel
theorem dX5_curveAt_40 : decode cX5_curveAt 40 = .ok (.iload 6, 2) := by decide +kernel
theorem dX5_curveAt_42 : decode cX5_curveAt 42 = .ok (.iload_n 3, 1) := by decide +kernel
theorem dX5_curveAt_43 : decode cX5_curveAt 43 = .ok (.if_icmp .eq 63, 3) := by decide +kernel
theorem dX5_curveAt_46 : decode cX5_curveAt 46 = .ok (.iload 4, 2) := by decide +kernel
theorem dX5_curveAt_48 : decode cX5_curveAt 48 = .ok (.iload_n 1, 1) := by decide +kernel
theorem dX5_curveAt_49 : decode cX5_curveAt 49 = .ok (.aload_n 0, 1) := by decide +kernel
theorem dX5_curveAt_50 : decode cX5_curveAt 50 = .ok (.getfield 36, 3) := by decide +kernel
theorem dX5_curveAt_53 : decode cX5_curveAt 53 = .ok (.aload_n 0, 1) := by decide +kernel
theorem dX5_curveAt_54 : decode cX5_curveAt 54 = .ok (.getfield 42, 3) := by decide +kernel
theorem dX5_curveAt_57 : decode cX5_curveAt 57 = .ok (.iload 6, 2) := by decide +kernel
theorem dX5_curveAt_59 : decode cX5_curveAt 59 = .ok (.iaload, 1) := by decide +kernel
theorem dX5_curveAt_60 : decode cX5_curveAt 60 = .ok (.iaload, 1) := by decide +kernel
theorem dX5_curveAt_61 : decode cX5_curveAt 61 = .ok (.isub, 1) := by decide +kernel
theorem dX5_curveAt_62 : decode cX5_curveAt 62 = .ok (.invokestatic 67, 3) := by decide +kernel
theorem dX5_curveAt_65 : decode cX5_curveAt 65 = .ok (.imul, 1) := by decide +kernel
theorem dX5_curveAt_66 : decode cX5_curveAt 66 = .ok (.invokestatic 67, 3) := by decide +kernel
theorem dX5_curveAt_69 : decode cX5_curveAt 69 = .ok (.istore 4, 2) := by decide +kernel
theorem dX5_curveAt_71 : decode cX5_curveAt 71 = .ok (.iload 5, 2) := by decide +kernel
theorem dX5_curveAt_73 : decode cX5_curveAt 73 = .ok (.aload_n 0, 1) := by decide +kernel
theorem dX5_curveAt_74 : decode cX5_curveAt 74 = .ok (.getfield 36, 3) := by decide +kernel
theorem dX5_curveAt_77 : decode cX5_curveAt 77 = .ok (.aload_n 0, 1) := by decide +kernel
theorem dX5_curveAt_78 : decode cX5_curveAt 78 = .ok (.getfield 42, 3) := by decide +kernel
theorem dX5_curveAt_81 : decode cX5_curveAt 81 = .ok (.iload_n 3, 1) := by decide +kernel
theorem dX5_curveAt_82 : decode cX5_curveAt 82 = .ok (.iaload, 1) := by decide +kernel
theorem dX5_curveAt_83 : decode cX5_curveAt 83 = .ok (.iaload, 1) := by decide +kernel
theorem dX5_curveAt_84 : decode cX5_curveAt 84 = .ok (.aload_n 0, 1) := by decide +kernel
theorem dX5_curveAt_85 : decode cX5_curveAt 85 = .ok (.getfield 36, 3) := by decide +kernel
theorem dX5_curveAt_88 : decode cX5_curveAt 88 = .ok (.aload_n 0, 1) := by decide +kernel
theorem dX5_curveAt_89 : decode cX5_curveAt 89 = .ok (.getfield 42, 3) := by decide +kernel
theorem dX5_curveAt_92 : decode cX5_curveAt 92 = .ok (.iload 6, 2) := by decide +kernel
theorem dX5_curveAt_94 : decode cX5_curveAt 94 = .ok (.iaload, 1) := by decide +kernel
theorem dX5_curveAt_95 : decode cX5_curveAt 95 = .ok (.iaload, 1) := by decide +kernel
theorem dX5_curveAt_96 : decode cX5_curveAt 96 = .ok (.isub, 1) := by decide +kernel
theorem dX5_curveAt_97 : decode cX5_curveAt 97 = .ok (.invokestatic 67, 3) := by decide +kernel
theorem dX5_curveAt_100 : decode cX5_curveAt 100 = .ok (.imul, 1) := by decide +kernel
theorem dX5_curveAt_101 : decode cX5_curveAt 101 = .ok (.invokestatic 67, 3) := by decide +kernel
theorem dX5_curveAt_104 : decode cX5_curveAt 104 = .ok (.istore 5, 2) := by decide +kernel
theorem dX5_curveAt_106 : decode cX5_curveAt 106 = .ok (.iinc 6 1, 3) := by decide +kernel
theorem dX5_curveAt_109 : decode cX5_curveAt 109 = .ok (.goto (-78), 3) := by decide +kernel
theorem dX5_curveAt_112 : decode cX5_curveAt 112 = .ok (.iload_n 2, 1) := by decide +kernel
theorem dX5_curveAt_113 : decode cX5_curveAt 113 = .ok (.iload 4, 2) := by decide +kernel
theorem dX5_curveAt_115 : decode cX5_curveAt 115 = .ok (.iload 5, 2) := by decide +kernel
theorem dX5_curveAt_117 : decode cX5_curveAt 117 = .ok (.invokestatic 134, 3) := by decide +kernel
theorem dX5_curveAt_120 : decode cX5_curveAt 120 = .ok (.imul, 1) := by decide +kernel
theorem dX5_curveAt_121 : decode cX5_curveAt 121 = .ok (.iadd, 1) := by decide +kernel
theorem dX5_curveAt_122 : decode cX5_curveAt 122 = .ok (.invokestatic 67, 3) := by decide +kernel
theorem dX5_curveAt_125 : decode cX5_curveAt 125 = .ok (.istore_n 2, 1) := by decide +kernel
theorem dX5_curveAt_126 : decode cX5_curveAt 126 = .ok (.iinc 3 1, 3) := by decide +kernel
theorem dX5_curveAt_129 : decode cX5_curveAt 129 = .ok (.goto (-125), 3) := by decide +kernel
theorem dX5_curveAt_132 : decode cX5_curveAt 132 = .ok (.iload_n 2, 1) := by decide +kernel
theorem dX5_curveAt_133 : decode cX5_curveAt 133 = .ok (.ireturn, 1) := by decide +kernel
theorem dX5_onCurve_0 : decode cX5_onCurve 0 = .ok (.iconst 0, 1) := by decide +kernel
theorem dX5_onCurve_1 : decode cX5_onCurve 1 = .ok (.istore_n 1, 1) := by decide +kernel
theorem dX5_onCurve_2 : decode cX5_onCurve 2 = .ok (.iconst 0, 1) := by decide +kernel
theorem dX5_onCurve_3 : decode cX5_onCurve 3 = .ok (.istore_n 2, 1) := by decide +kernel
theorem dX5_onCurve_4 : decode cX5_onCurve 4 = .ok (.iload_n 2, 1) := by decide +kernel
theorem dX5_onCurve_5 : decode cX5_onCurve 5 = .ok (.aload_n 0, 1) := by decide +kernel
theorem dX5_onCurve_6 : decode cX5_onCurve 6 = .ok (.getfield 131, 3) := by decide +kernel
theorem dX5_onCurve_9 : decode cX5_onCurve 9 = .ok (.if_icmp .ge 36, 3) := by decide +kernel
theorem dX5_onCurve_12 : decode cX5_onCurve 12 = .ok (.iload_n 1, 1) := by decide +kernel
theorem dX5_onCurve_13 : decode cX5_onCurve 13 = .ok (.aload_n 0, 1) := by decide +kernel
theorem dX5_onCurve_14 : decode cX5_onCurve 14 = .ok (.aload_n 0, 1) := by decide +kernel
theorem dX5_onCurve_15 : decode cX5_onCurve 15 = .ok (.getfield 36, 3) := by decide +kernel
theorem dX5_onCurve_18 : decode cX5_onCurve 18 = .ok (.iload_n 2, 1) := by decide +kernel
theorem dX5_onCurve_19 : decode cX5_onCurve 19 = .ok (.iaload, 1) := by decide +kernel
theorem dX5_onCurve_20 : decode cX5_onCurve 20 = .ok (.invokevirtual 137, 3) := by decide +kernel
theorem dX5_onCurve_23 : decode cX5_onCurve 23 = .ok (.aload_n 0, 1) := by decide +kernel
theorem dX5_onCurve_24 : decode cX5_onCurve 24 = .ok (.getfield 39, 3) := by decide +kernel
theorem dX5_onCurve_27 : decode cX5_onCurve 27 = .ok (.iload_n 2, 1) := by decide +kernel
theorem dX5_onCurve_28 : decode cX5_onCurve 28 = .ok (.iaload, 1) := by decide +kernel
theorem dX5_onCurve_29 : decode cX5_onCurve 29 = .ok (.if_icmp .ne 7, 3) := by decide +kernel
theorem dX5_onCurve_32 : decode cX5_onCurve 32 = .ok (.iconst 1, 1) := by decide +kernel
theorem dX5_onCurve_33 : decode cX5_onCurve 33 = .ok (.goto 4, 3) := by decide +kernel
theorem dX5_onCurve_36 : decode cX5_onCurve 36 = .ok (.iconst 0, 1) := by decide +kernel
theorem dX5_onCurve_37 : decode cX5_onCurve 37 = .ok (.iadd, 1) := by decide +kernel
theorem dX5_onCurve_38 : decode cX5_onCurve 38 = .ok (.istore_n 1, 1) := by decide +kernel
theorem dX5_onCurve_39 : decode cX5_onCurve 39 = .ok (.iinc 2 1, 3) := by decide +kernel
theorem dX5_onCurve_42 : decode cX5_onCurve 42 = .ok (.goto (-38), 3) := by decide +kernel
theorem dX5_onCurve_45 : decode cX5_onCurve 45 = .ok (.iload_n 1, 1) := by decide +kernel
theorem dX5_onCurve_46 : decode cX5_onCurve 46 = .ok (.ireturn, 1) := by decide +kernel
theorem dX5_choose_0 : decode cX5_choose 0 = .ok (.aload_n 0, 1) := by decide +kernel
theorem dX5_choose_1 : decode cX5_choose 1 = .ok (.invokevirtual 81, 3) := by decide +kernel
theorem dX5_choose_4 : decode cX5_choose 4 = .ok (.istore_n 1, 1) := by decide +kernel
theorem dX5_choose_5 : decode cX5_choose 5 = .ok (.iload_n 1, 1) := by decide +kernel
theorem dX5_choose_6 : decode cX5_choose 6 = .ok (.istore_n 2, 1) := by decide +kernel
theorem dX5_choose_7 : decode cX5_choose 7 = .ok (.iload_n 2, 1) := by decide +kernel
theorem dX5_choose_8 : decode cX5_choose 8 = .ok (.ifCond .lt 28, 3) := by decide +kernel
theorem dX5_choose_11 : decode cX5_choose 11 = .ok (.aload_n 0, 1) := by decide +kernel
theorem dX5_choose_12 : decode cX5_choose 12 = .ok (.getfield 42, 3) := by decide +kernel
theorem dX5_choose_15 : decode cX5_choose 15 = .ok (.iload_n 2, 1) := by decide +kernel
theorem dX5_choose_16 : decode cX5_choose 16 = .ok (.iaload, 1) := by decide +kernel
theorem dX5_choose_17 : decode cX5_choose 17 = .ok (.aload_n 0, 1) := by decide +kernel
theorem dX5_choose_18 : decode cX5_choose 18 = .ok (.getfield 131, 3) := by decide +kernel
theorem dX5_choose_21 : decode cX5_choose 21 = .ok (.iconst 1, 1) := by decide +kernel
theorem dX5_choose_22 : decode cX5_choose 22 = .ok (.isub, 1) := by decide +kernel
theorem dX5_choose_23 : decode cX5_choose 23 = .ok (.iload_n 1, 1) := by decide +kernel
theorem dX5_choose_24 : decode cX5_choose 24 = .ok (.iload_n 2, 1) := by decide +kernel
theorem dX5_choose_25 : decode cX5_choose 25 = .ok (.isub, 1) := by decide +kernel
theorem dX5_choose_26 : decode cX5_choose 26 = .ok (.isub, 1) := by decide +kernel
theorem dX5_choose_27 : decode cX5_choose 27 = .ok (.if_icmp .ne 9, 3) := by decide +kernel
theorem dX5_choose_30 : decode cX5_choose 30 = .ok (.iinc 2 (-1), 3) := by decide +kernel
theorem dX5_choose_33 : decode cX5_choose 33 = .ok (.goto (-26), 3) := by decide +kernel
theorem dX5_choose_36 : decode cX5_choose 36 = .ok (.iload_n 2, 1) := by decide +kernel
theorem dX5_choose_37 : decode cX5_choose 37 = .ok (.ifCond .ge 5, 3) := by decide +kernel
theorem dX5_choose_40 : decode cX5_choose 40 = .ok (.iconst 0, 1) := by decide +kernel
theorem dX5_choose_41 : decode cX5_choose 41 = .ok (.ireturn, 1) := by decide +kernel
theorem dX5_choose_42 : decode cX5_choose 42 = .ok (.aload_n 0, 1) := by decide +kernel
theorem dX5_choose_43 : decode cX5_choose 43 = .ok (.getfield 42, 3) := by decide +kernel
theorem dX5_choose_46 : decode cX5_choose 46 = .ok (.iload_n 2, 1) := by decide +kernel
theorem dX5_choose_47 : decode cX5_choose 47 = .ok (.dup2, 1) := by decide +kernel
theorem dX5_choose_48 : decode cX5_choose 48 = .ok (.iaload, 1) := by decide +kernel
theorem dX5_choose_49 : decode cX5_choose 49 = .ok (.iconst 1, 1) := by decide +kernel
theorem dX5_choose_50 : decode cX5_choose 50 = .ok (.iadd, 1) := by decide +kernel
theorem dX5_choose_51 : decode cX5_choose 51 = .ok (.iastore, 1) := by decide +kernel
theorem dX5_choose_52 : decode cX5_choose 52 = .ok (.iload_n 2, 1) := by decide +kernel
theorem dX5_choose_53 : decode cX5_choose 53 = .ok (.iconst 1, 1) := by decide +kernel
theorem dX5_choose_54 : decode cX5_choose 54 = .ok (.iadd, 1) := by decide +kernel
theorem dX5_choose_55 : decode cX5_choose 55 = .ok (.istore_n 3, 1) := by decide +kernel
theorem dX5_choose_56 : decode cX5_choose 56 = .ok (.iload_n 3, 1) := by decide +kernel
theorem dX5_choose_57 : decode cX5_choose 57 = .ok (.iload_n 1, 1) := by decide +kernel
theorem dX5_choose_58 : decode cX5_choose 58 = .ok (.if_icmp .gt 25, 3) := by decide +kernel
theorem dX5_choose_61 : decode cX5_choose 61 = .ok (.aload_n 0, 1) := by decide +kernel
theorem dX5_choose_62 : decode cX5_choose 62 = .ok (.getfield 42, 3) := by decide +kernel
theorem dX5_choose_65 : decode cX5_choose 65 = .ok (.iload_n 3, 1) := by decide +kernel
theorem dX5_choose_66 : decode cX5_choose 66 = .ok (.aload_n 0, 1) := by decide +kernel
theorem dX5_choose_67 : decode cX5_choose 67 = .ok (.getfield 42, 3) := by decide +kernel
theorem dX5_choose_70 : decode cX5_choose 70 = .ok (.iload_n 3, 1) := by decide +kernel
theorem dX5_choose_71 : decode cX5_choose 71 = .ok (.iconst 1, 1) := by decide +kernel
theorem dX5_choose_72 : decode cX5_choose 72 = .ok (.isub, 1) := by decide +kernel
theorem dX5_choose_73 : decode cX5_choose 73 = .ok (.iaload, 1) := by decide +kernel
theorem dX5_choose_74 : decode cX5_choose 74 = .ok (.iconst 1, 1) := by decide +kernel
theorem dX5_choose_75 : decode cX5_choose 75 = .ok (.iadd, 1) := by decide +kernel
theorem dX5_choose_76 : decode cX5_choose 76 = .ok (.iastore, 1) := by decide +kernel
theorem dX5_choose_77 : decode cX5_choose 77 = .ok (.iinc 3 1, 3) := by decide +kernel
theorem dX5_choose_80 : decode cX5_choose 80 = .ok (.goto (-24), 3) := by decide +kernel
theorem dX5_choose_83 : decode cX5_choose 83 = .ok (.iconst 1, 1) := by decide +kernel
theorem dX5_choose_84 : decode cX5_choose 84 = .ok (.ireturn, 1) := by decide +kernel
theorem dX5_first_0 : decode cX5_first 0 = .ok (.iconst 0, 1) := by decide +kernel
theorem dX5_first_1 : decode cX5_first 1 = .ok (.istore_n 1, 1) := by decide +kernel
theorem dX5_first_2 : decode cX5_first 2 = .ok (.iload_n 1, 1) := by decide +kernel
theorem dX5_first_3 : decode cX5_first 3 = .ok (.aload_n 0, 1) := by decide +kernel
theorem dX5_first_4 : decode cX5_first 4 = .ok (.invokevirtual 81, 3) := by decide +kernel
theorem dX5_first_7 : decode cX5_first 7 = .ok (.if_icmp .gt 16, 3) := by decide +kernel
theorem dX5_first_10 : decode cX5_first 10 = .ok (.aload_n 0, 1) := by decide +kernel
theorem dX5_first_11 : decode cX5_first 11 = .ok (.getfield 42, 3) := by decide +kernel
theorem dX5_first_14 : decode cX5_first 14 = .ok (.iload_n 1, 1) := by decide +kernel
theorem dX5_first_15 : decode cX5_first 15 = .ok (.iload_n 1, 1) := by decide +kernel
theorem dX5_first_16 : decode cX5_first 16 = .ok (.iastore, 1) := by decide +kernel
theorem dX5_first_17 : decode cX5_first 17 = .ok (.iinc 1 1, 3) := by decide +kernel
theorem dX5_first_20 : decode cX5_first 20 = .ok (.goto (-18), 3) := by decide +kernel
theorem dX5_first_23 : decode cX5_first 23 = .ok (.return_, 1) := by decide +kernel
theorem dX5_fetch_0 : decode cX5_fetch 0 = .ok (.aload_n 0, 1) := by decide +kernel
theorem dX5_fetch_1 : decode cX5_fetch 1 = .ok (.iconst 0, 1) := by decide +kernel
theorem dX5_fetch_2 : decode cX5_fetch 2 = .ok (.putfield 45, 3) := by decide +kernel
theorem dX5_fetch_5 : decode cX5_fetch 5 = .ok (.iload_n 1, 1) := by decide +kernel
theorem dX5_fetch_6 : decode cX5_fetch 6 = .ok (.invokestatic 100, 3) := by decide +kernel
theorem dX5_fetch_9 : decode cX5_fetch 9 = .ok (.ifCond .ne 6, 3) := by decide +kernel
theorem dX5_fetch_12 : decode cX5_fetch 12 = .ok (.bipush (-2), 2) := by decide +kernel
theorem dX5_fetch_14 : decode cX5_fetch 14 = .ok (.ireturn, 1) := by decide +kernel
theorem dX5_fetch_15 : decode cX5_fetch 15 = .ok (.aload_n 0, 1) := by decide +kernel
theorem dX5_fetch_16 : decode cX5_fetch 16 = .ok (.getfield 90, 3) := by decide +kernel
theorem dX5_fetch_19 : decode cX5_fetch 19 = .ok (.ifCond .ne 6, 3) := by decide +kernel
theorem dX5_fetch_22 : decode cX5_fetch 22 = .ok (.bipush (-3), 2) := by decide +kernel
theorem dX5_fetch_24 : decode cX5_fetch 24 = .ok (.ireturn, 1) := by decide +kernel
theorem dX5_fetch_25 : decode cX5_fetch 25 = .ok (.aload_n 0, 1) := by decide +kernel
theorem dX5_fetch_26 : decode cX5_fetch 26 = .ok (.iload_n 1, 1) := by decide +kernel
theorem dX5_fetch_27 : decode cX5_fetch 27 = .ok (.invokevirtual 140, 3) := by decide +kernel
theorem dX5_fetch_30 : decode cX5_fetch 30 = .ok (.aload_n 0, 1) := by decide +kernel
theorem dX5_fetch_31 : decode cX5_fetch 31 = .ok (.getfield 131, 3) := by decide +kernel
theorem dX5_fetch_34 : decode cX5_fetch 34 = .ok (.aload_n 0, 1) := by decide +kernel
theorem dX5_fetch_35 : decode cX5_fetch 35 = .ok (.invokevirtual 81, 3) := by decide +kernel
theorem dX5_fetch_38 : decode cX5_fetch 38 = .ok (.if_icmp .gt 6, 3) := by decide +kernel
theorem dX5_fetch_41 : decode cX5_fetch 41 = .ok (.bipush (-3), 2) := by decide +kernel
theorem dX5_fetch_43 : decode cX5_fetch 43 = .ok (.ireturn, 1) := by decide +kernel
theorem dX5_fetch_44 : decode cX5_fetch 44 = .ok (.aload_n 0, 1) := by decide +kernel
theorem dX5_fetch_45 : decode cX5_fetch 45 = .ok (.dup, 1) := by decide +kernel
theorem dX5_fetch_46 : decode cX5_fetch 46 = .ok (.getfield 144, 3) := by decide +kernel
theorem dX5_fetch_49 : decode cX5_fetch 49 = .ok (.aload_n 0, 1) := by decide +kernel
theorem dX5_fetch_50 : decode cX5_fetch 50 = .ok (.getfield 7, 3) := by decide +kernel
theorem dX5_fetch_53 : decode cX5_fetch 53 = .ok (.iload_n 1, 1) := by decide +kernel
theorem dX5_fetch_54 : decode cX5_fetch 54 = .ok (.imul, 1) := by decide +kernel
theorem dX5_fetch_55 : decode cX5_fetch 55 = .ok (.iadd, 1) := by decide +kernel
theorem dX5_fetch_56 : decode cX5_fetch 56 = .ok (.putfield 144, 3) := by decide +kernel
theorem dX5_fetch_59 : decode cX5_fetch 59 = .ok (.aload_n 0, 1) := by decide +kernel
theorem dX5_fetch_60 : decode cX5_fetch 60 = .ok (.dup, 1) := by decide +kernel
theorem dX5_fetch_61 : decode cX5_fetch 61 = .ok (.getfield 147, 3) := by decide +kernel
theorem dX5_fetch_64 : decode cX5_fetch 64 = .ok (.aload_n 0, 1) := by decide +kernel
theorem dX5_fetch_65 : decode cX5_fetch 65 = .ok (.getfield 131, 3) := by decide +kernel
theorem dX5_fetch_68 : decode cX5_fetch 68 = .ok (.iadd, 1) := by decide +kernel
theorem dX5_fetch_69 : decode cX5_fetch 69 = .ok (.putfield 147, 3) := by decide +kernel
theorem dX5_fetch_72 : decode cX5_fetch 72 = .ok (.aload_n 0, 1) := by decide +kernel
theorem dX5_fetch_73 : decode cX5_fetch 73 = .ok (.getfield 131, 3) := by decide +kernel
theorem dX5_fetch_76 : decode cX5_fetch 76 = .ok (.aload_n 0, 1) := by decide +kernel
theorem dX5_fetch_77 : decode cX5_fetch 77 = .ok (.invokevirtual 81, 3) := by decide +kernel
theorem dX5_fetch_80 : decode cX5_fetch 80 = .ok (.isub, 1) := by decide +kernel
theorem dX5_fetch_81 : decode cX5_fetch 81 = .ok (.iconst 1, 1) := by decide +kernel
theorem dX5_fetch_82 : decode cX5_fetch 82 = .ok (.isub, 1) := by decide +kernel
theorem dX5_fetch_83 : decode cX5_fetch 83 = .ok (.iconst 2, 1) := by decide +kernel
theorem dX5_fetch_84 : decode cX5_fetch 84 = .ok (.idiv, 1) := by decide +kernel
theorem dX5_fetch_85 : decode cX5_fetch 85 = .ok (.istore_n 2, 1) := by decide +kernel
theorem dX5_fetch_86 : decode cX5_fetch 86 = .ok (.aload_n 0, 1) := by decide +kernel
theorem dX5_fetch_87 : decode cX5_fetch 87 = .ok (.invokevirtual 150, 3) := by decide +kernel
theorem dX5_fetch_90 : decode cX5_fetch 90 = .ok (.iconst 1, 1) := by decide +kernel
theorem dX5_fetch_91 : decode cX5_fetch 91 = .ok (.istore_n 3, 1) := by decide +kernel
theorem dX5_fetch_92 : decode cX5_fetch 92 = .ok (.iload_n 3, 1) := by decide +kernel
theorem dX5_fetch_93 : decode cX5_fetch 93 = .ok (.ifCond .eq 24, 3) := by decide +kernel
theorem dX5_fetch_96 : decode cX5_fetch 96 = .ok (.aload_n 0, 1) := by decide +kernel
theorem dX5_fetch_97 : decode cX5_fetch 97 = .ok (.invokevirtual 153, 3) := by decide +kernel
theorem dX5_fetch_100 : decode cX5_fetch 100 = .ok (.aload_n 0, 1) := by decide +kernel
theorem dX5_fetch_101 : decode cX5_fetch 101 = .ok (.getfield 131, 3) := by decide +kernel
theorem dX5_fetch_104 : decode cX5_fetch 104 = .ok (.iload_n 2, 1) := by decide +kernel
theorem dX5_fetch_105 : decode cX5_fetch 105 = .ok (.isub, 1) := by decide +kernel
theorem dX5_fetch_106 : decode cX5_fetch 106 = .ok (.if_icmp .ge 11, 3) := by decide +kernel
theorem dX5_fetch_109 : decode cX5_fetch 109 = .ok (.aload_n 0, 1) := by decide +kernel
theorem dX5_fetch_110 : decode cX5_fetch 110 = .ok (.invokevirtual 156, 3) := by decide +kernel
theorem dX5_fetch_113 : decode cX5_fetch 113 = .ok (.istore_n 3, 1) := by decide +kernel
theorem dX5_fetch_114 : decode cX5_fetch 114 = .ok (.goto (-22), 3) := by decide +kernel
theorem dX5_fetch_117 : decode cX5_fetch 117 = .ok (.iload_n 3, 1) := by decide +kernel
theorem dX5_fetch_118 : decode cX5_fetch 118 = .ok (.ifCond .ne 6, 3) := by decide +kernel
theorem dX5_fetch_121 : decode cX5_fetch 121 = .ok (.bipush (-9), 2) := by decide +kernel
theorem dX5_fetch_123 : decode cX5_fetch 123 = .ok (.ireturn, 1) := by decide +kernel
theorem dX5_fetch_124 : decode cX5_fetch 124 = .ok (.iconst 0, 1) := by decide +kernel
theorem dX5_fetch_125 : decode cX5_fetch 125 = .ok (.istore 4, 2) := by decide +kernel
theorem dX5_fetch_127 : decode cX5_fetch 127 = .ok (.iload 4, 2) := by decide +kernel
theorem dX5_fetch_129 : decode cX5_fetch 129 = .ok (.bipush 10, 2) := by decide +kernel
theorem dX5_fetch_131 : decode cX5_fetch 131 = .ok (.if_icmp .ge 17, 3) := by decide +kernel
theorem dX5_fetch_134 : decode cX5_fetch 134 = .ok (.aload_n 0, 1) := by decide +kernel
theorem dX5_fetch_135 : decode cX5_fetch 135 = .ok (.getfield 32, 3) := by decide +kernel
theorem dX5_fetch_138 : decode cX5_fetch 138 = .ok (.iload 4, 2) := by decide +kernel
theorem dX5_fetch_140 : decode cX5_fetch 140 = .ok (.iconst 0, 1) := by decide +kernel
theorem dX5_fetch_141 : decode cX5_fetch 141 = .ok (.bastore, 1) := by decide +kernel
theorem dX5_fetch_142 : decode cX5_fetch 142 = .ok (.iinc 4 1, 3) := by decide +kernel
theorem dX5_fetch_145 : decode cX5_fetch 145 = .ok (.goto (-18), 3) := by decide +kernel
theorem dX5_fetch_148 : decode cX5_fetch 148 = .ok (.iconst 0, 1) := by decide +kernel
theorem dX5_fetch_149 : decode cX5_fetch 149 = .ok (.istore 4, 2) := by decide +kernel
theorem dX5_fetch_151 : decode cX5_fetch 151 = .ok (.iload 4, 2) := by decide +kernel
theorem dX5_fetch_153 : decode cX5_fetch 153 = .ok (.aload_n 0, 1) := by decide +kernel
theorem dX5_fetch_154 : decode cX5_fetch 154 = .ok (.getfield 131, 3) := by decide +kernel
theorem dX5_fetch_157 : decode cX5_fetch 157 = .ok (.if_icmp .ge 47, 3) := by decide +kernel
theorem dX5_fetch_160 : decode cX5_fetch 160 = .ok (.aload_n 0, 1) := by decide +kernel
theorem dX5_fetch_161 : decode cX5_fetch 161 = .ok (.getfield 32, 3) := by decide +kernel
theorem dX5_fetch_164 : decode cX5_fetch 164 = .ok (.aload_n 0, 1) := by decide +kernel
theorem dX5_fetch_165 : decode cX5_fetch 165 = .ok (.getfield 36, 3) := by decide +kernel
theorem dX5_fetch_168 : decode cX5_fetch 168 = .ok (.iload 4, 2) := by decide +kernel
theorem dX5_fetch_170 : decode cX5_fetch 170 = .ok (.iaload, 1) := by decide +kernel
theorem dX5_fetch_171 : decode cX5_fetch 171 = .ok (.aload_n 0, 1) := by decide +kernel
theorem dX5_fetch_172 : decode cX5_fetch 172 = .ok (.aload_n 0, 1) := by decide +kernel
theorem dX5_fetch_173 : decode cX5_fetch 173 = .ok (.getfield 36, 3) := by decide +kernel
theorem dX5_fetch_176 : decode cX5_fetch 176 = .ok (.iload 4, 2) := by decide +kernel
theorem dX5_fetch_178 : decode cX5_fetch 178 = .ok (.iaload, 1) := by decide +kernel
theorem dX5_fetch_179 : decode cX5_fetch 179 = .ok (.invokevirtual 137, 3) := by decide +kernel
theorem dX5_fetch_182 : decode cX5_fetch 182 = .ok (.aload_n 0, 1) := by decide +kernel
theorem dX5_fetch_183 : decode cX5_fetch 183 = .ok (.getfield 39, 3) := by decide +kernel
theorem dX5_fetch_186 : decode cX5_fetch 186 = .ok (.iload 4, 2) := by decide +kernel
theorem dX5_fetch_188 : decode cX5_fetch 188 = .ok (.iaload, 1) := by decide +kernel
theorem dX5_fetch_189 : decode cX5_fetch 189 = .ok (.if_icmp .eq 7, 3) := by decide +kernel
theorem dX5_fetch_192 : decode cX5_fetch 192 = .ok (.iconst 1, 1) := by decide +kernel
theorem dX5_fetch_193 : decode cX5_fetch 193 = .ok (.goto 4, 3) := by decide +kernel
theorem dX5_fetch_196 : decode cX5_fetch 196 = .ok (.iconst 0, 1) := by decide +kernel
theorem dX5_fetch_197 : decode cX5_fetch 197 = .ok (.bastore, 1) := by decide +kernel
theorem dX5_fetch_198 : decode cX5_fetch 198 = .ok (.iinc 4 1, 3) := by decide +kernel
theorem dX5_fetch_201 : decode cX5_fetch 201 = .ok (.goto (-50), 3) := by decide +kernel
theorem dX5_fetch_204 : decode cX5_fetch 204 = .ok (.aload_n 0, 1) := by decide +kernel
theorem dX5_fetch_205 : decode cX5_fetch 205 = .ok (.iconst 0, 1) := by decide +kernel
theorem dX5_fetch_206 : decode cX5_fetch 206 = .ok (.invokevirtual 137, 3) := by decide +kernel
theorem dX5_fetch_209 : decode cX5_fetch 209 = .ok (.ireturn, 1) := by decide +kernel
theorem dX5_caught_0 : decode cX5_caught 0 = .ok (.aload_n 0, 1) := by decide +kernel
theorem dX5_caught_1 : decode cX5_caught 1 = .ok (.iconst 0, 1) := by decide +kernel
theorem dX5_caught_2 : decode cX5_caught 2 = .ok (.putfield 45, 3) := by decide +kernel
theorem dX5_caught_5 : decode cX5_caught 5 = .ok (.iload_n 1, 1) := by decide +kernel
theorem dX5_caught_6 : decode cX5_caught 6 = .ok (.invokestatic 100, 3) := by decide +kernel
theorem dX5_caught_9 : decode cX5_caught 9 = .ok (.ifCond .ne 7, 3) := by decide +kernel
theorem dX5_caught_12 : decode cX5_caught 12 = .ok (.iconst (-1), 1) := by decide +kernel
theorem dX5_caught_13 : decode cX5_caught 13 = .ok (.goto 17, 3) := by decide +kernel
theorem dX5_caught_16 : decode cX5_caught 16 = .ok (.aload_n 0, 1) := by decide +kernel
theorem dX5_caught_17 : decode cX5_caught 17 = .ok (.getfield 32, 3) := by decide +kernel
theorem dX5_caught_20 : decode cX5_caught 20 = .ok (.iload_n 1, 1) := by decide +kernel
theorem dX5_caught_21 : decode cX5_caught 21 = .ok (.baload, 1) := by decide +kernel
theorem dX5_caught_22 : decode cX5_caught 22 = .ok (.ifCond .eq 7, 3) := by decide +kernel
theorem dX5_caught_25 : decode cX5_caught 25 = .ok (.iconst 1, 1) := by decide +kernel
theorem dX5_caught_26 : decode cX5_caught 26 = .ok (.goto 4, 3) := by decide +kernel
theorem dX5_caught_29 : decode cX5_caught 29 = .ok (.iconst 0, 1) := by decide +kernel
theorem dX5_caught_30 : decode cX5_caught 30 = .ok (.ireturn, 1) := by decide +kernel
theorem dX5_mends_0 : decode cX5_mends 0 = .ok (.aload_n 0, 1) := by decide +kernel
theorem dX5_mends_1 : decode cX5_mends 1 = .ok (.iconst 0, 1) := by decide +kernel
theorem dX5_mends_2 : decode cX5_mends 2 = .ok (.putfield 45, 3) := by decide +kernel
theorem dX5_mends_5 : decode cX5_mends 5 = .ok (.iload_n 1, 1) := by decide +kernel
theorem dX5_mends_6 : decode cX5_mends 6 = .ok (.invokestatic 100, 3) := by decide +kernel
theorem dX5_mends_9 : decode cX5_mends 9 = .ok (.ifCond .ne 6, 3) := by decide +kernel
theorem dX5_mends_12 : decode cX5_mends 12 = .ok (.bipush (-2), 2) := by decide +kernel
theorem dX5_mends_14 : decode cX5_mends 14 = .ok (.ireturn, 1) := by decide +kernel
theorem dX5_mends_15 : decode cX5_mends 15 = .ok (.aload_n 0, 1) := by decide +kernel
theorem dX5_mends_16 : decode cX5_mends 16 = .ok (.getfield 90, 3) := by decide +kernel
theorem dX5_mends_19 : decode cX5_mends 19 = .ok (.ifCond .ne 6, 3) := by decide +kernel
theorem dX5_mends_22 : decode cX5_mends 22 = .ok (.bipush (-3), 2) := by decide +kernel
theorem dX5_mends_24 : decode cX5_mends 24 = .ok (.ireturn, 1) := by decide +kernel
theorem dX5_mends_25 : decode cX5_mends 25 = .ok (.aload_n 0, 1) := by decide +kernel
theorem dX5_mends_26 : decode cX5_mends 26 = .ok (.iload_n 1, 1) := by decide +kernel
theorem dX5_mends_27 : decode cX5_mends 27 = .ok (.invokevirtual 140, 3) := by decide +kernel
theorem dX5_mends_30 : decode cX5_mends 30 = .ok (.aload_n 0, 1) := by decide +kernel
theorem dX5_mends_31 : decode cX5_mends 31 = .ok (.getfield 131, 3) := by decide +kernel
theorem dX5_mends_34 : decode cX5_mends 34 = .ok (.aload_n 0, 1) := by decide +kernel
theorem dX5_mends_35 : decode cX5_mends 35 = .ok (.invokevirtual 81, 3) := by decide +kernel
theorem dX5_mends_38 : decode cX5_mends 38 = .ok (.if_icmp .gt 8, 3) := by decide +kernel
theorem dX5_mends_41 : decode cX5_mends 41 = .ok (.bipush (-3), 2) := by decide +kernel
theorem dX5_mends_43 : decode cX5_mends 43 = .ok (.goto 16, 3) := by decide +kernel
theorem dX5_mends_46 : decode cX5_mends 46 = .ok (.aload_n 0, 1) := by decide +kernel
theorem dX5_mends_47 : decode cX5_mends 47 = .ok (.getfield 131, 3) := by decide +kernel
theorem dX5_mends_50 : decode cX5_mends 50 = .ok (.aload_n 0, 1) := by decide +kernel
theorem dX5_mends_51 : decode cX5_mends 51 = .ok (.invokevirtual 81, 3) := by decide +kernel
theorem dX5_mends_54 : decode cX5_mends 54 = .ok (.isub, 1) := by decide +kernel
theorem dX5_mends_55 : decode cX5_mends 55 = .ok (.iconst 1, 1) := by decide +kernel
theorem dX5_mends_56 : decode cX5_mends 56 = .ok (.isub, 1) := by decide +kernel
theorem dX5_mends_57 : decode cX5_mends 57 = .ok (.iconst 2, 1) := by decide +kernel
theorem dX5_mends_58 : decode cX5_mends 58 = .ok (.idiv, 1) := by decide +kernel
end
section
/-! decode rows -/
theorem dX5_mends_59 : decode cX5_mends 59 = .ok (.ireturn, 1) := by decide +kernel
theorem dX5_isSet_0 : decode cX5_isSet 0 = .ok (.iload_n 0, 1) := by decide +kernel
theorem dX5_isSet_1 : decode cX5_isSet 1 = .ok (.i2l, 1) := by decide +kernel
theorem dX5_isSet_2 : decode cX5_isSet 2 = .ok (.ldc2_w 103, 3) := by decide +kernel
theorem dX5_isSet_5 : decode cX5_isSet 5 = .ok (.ldc2_w 160, 3) := by decide +kernel
theorem dX5_isSet_8 : decode cX5_isSet 8 = .ok (.invokestatic 53, 3) := by decide +kernel
theorem dX5_isSet_11 : decode cX5_isSet 11 = .ok (.ifCond .eq 13, 3) := by decide +kernel
theorem dX5_isSet_14 : decode cX5_isSet 14 = .ok (.iload_n 0, 1) := by decide +kernel
theorem dX5_isSet_15 : decode cX5_isSet 15 = .ok (.iconst 1, 1) := by decide +kernel
theorem dX5_isSet_16 : decode cX5_isSet 16 = .ok (.iand, 1) := by decide +kernel
theorem dX5_isSet_17 : decode cX5_isSet 17 = .ok (.ifCond .ne 7, 3) := by decide +kernel
theorem dX5_isSet_20 : decode cX5_isSet 20 = .ok (.iconst 1, 1) := by decide +kernel
theorem dX5_isSet_21 : decode cX5_isSet 21 = .ok (.goto 4, 3) := by decide +kernel
theorem dX5_isSet_24 : decode cX5_isSet 24 = .ok (.iconst 0, 1) := by decide +kernel
theorem dX5_isSet_25 : decode cX5_isSet 25 = .ok (.ireturn, 1) := by decide +kernel
theorem dX5_waysOf_0 : decode cX5_waysOf 0 = .ok (.iconst 0, 1) := by decide +kernel
theorem dX5_waysOf_1 : decode cX5_waysOf 1 = .ok (.istore 4, 2) := by decide +kernel
theorem dX5_waysOf_3 : decode cX5_waysOf 3 = .ok (.iconst 0, 1) := by decide +kernel
theorem dX5_waysOf_4 : decode cX5_waysOf 4 = .ok (.istore 5, 2) := by decide +kernel
theorem dX5_waysOf_6 : decode cX5_waysOf 6 = .ok (.bipush 9, 2) := by decide +kernel
theorem dX5_waysOf_8 : decode cX5_waysOf 8 = .ok (.istore 6, 2) := by decide +kernel
theorem dX5_waysOf_10 : decode cX5_waysOf 10 = .ok (.iload 6, 2) := by decide +kernel
theorem dX5_waysOf_12 : decode cX5_waysOf 12 = .ok (.iconst 1, 1) := by decide +kernel
theorem dX5_waysOf_13 : decode cX5_waysOf 13 = .ok (.if_icmp .lt 27, 3) := by decide +kernel
theorem dX5_waysOf_16 : decode cX5_waysOf 16 = .ok (.iload_n 1, 1) := by decide +kernel
theorem dX5_waysOf_17 : decode cX5_waysOf 17 = .ok (.iload 6, 2) := by decide +kernel
theorem dX5_waysOf_19 : decode cX5_waysOf 19 = .ok (.ishr, 1) := by decide +kernel
theorem dX5_waysOf_20 : decode cX5_waysOf 20 = .ok (.iconst 1, 1) := by decide +kernel
theorem dX5_waysOf_21 : decode cX5_waysOf 21 = .ok (.iand, 1) := by decide +kernel
theorem dX5_waysOf_22 : decode cX5_waysOf 22 = .ok (.iconst 1, 1) := by decide +kernel
theorem dX5_waysOf_23 : decode cX5_waysOf 23 = .ok (.if_icmp .ne 11, 3) := by decide +kernel
theorem dX5_waysOf_26 : decode cX5_waysOf 26 = .ok (.iload 4, 2) := by decide +kernel
theorem dX5_waysOf_28 : decode cX5_waysOf 28 = .ok (.istore 5, 2) := by decide +kernel
theorem dX5_waysOf_30 : decode cX5_waysOf 30 = .ok (.iload 6, 2) := by decide +kernel
theorem dX5_waysOf_32 : decode cX5_waysOf 32 = .ok (.istore 4, 2) := by decide +kernel
theorem dX5_waysOf_34 : decode cX5_waysOf 34 = .ok (.iinc 6 (-1), 3) := by decide +kernel
theorem dX5_waysOf_37 : decode cX5_waysOf 37 = .ok (.goto (-27), 3) := by decide +kernel
theorem dX5_waysOf_40 : decode cX5_waysOf 40 = .ok (.aload_n 0, 1) := by decide +kernel
theorem dX5_waysOf_41 : decode cX5_waysOf 41 = .ok (.iload 4, 2) := by decide +kernel
theorem dX5_waysOf_43 : decode cX5_waysOf 43 = .ok (.iload_n 2, 1) := by decide +kernel
theorem dX5_waysOf_44 : decode cX5_waysOf 44 = .ok (.invokevirtual 74, 3) := by decide +kernel
theorem dX5_waysOf_47 : decode cX5_waysOf 47 = .ok (.iload_n 3, 1) := by decide +kernel
theorem dX5_waysOf_48 : decode cX5_waysOf 48 = .ok (.isub, 1) := by decide +kernel
theorem dX5_waysOf_49 : decode cX5_waysOf 49 = .ok (.iload 4, 2) := by decide +kernel
theorem dX5_waysOf_51 : decode cX5_waysOf 51 = .ok (.invokestatic 134, 3) := by decide +kernel
theorem dX5_waysOf_54 : decode cX5_waysOf 54 = .ok (.imul, 1) := by decide +kernel
theorem dX5_waysOf_55 : decode cX5_waysOf 55 = .ok (.invokestatic 67, 3) := by decide +kernel
theorem dX5_waysOf_58 : decode cX5_waysOf 58 = .ok (.istore 6, 2) := by decide +kernel
theorem dX5_waysOf_60 : decode cX5_waysOf 60 = .ok (.iconst 0, 1) := by decide +kernel
theorem dX5_waysOf_61 : decode cX5_waysOf 61 = .ok (.istore 7, 2) := by decide +kernel
theorem dX5_waysOf_63 : decode cX5_waysOf 63 = .ok (.aload_n 0, 1) := by decide +kernel
theorem dX5_waysOf_64 : decode cX5_waysOf 64 = .ok (.getfield 48, 3) := by decide +kernel
theorem dX5_waysOf_67 : decode cX5_waysOf 67 = .ok (.iconst 2, 1) := by decide +kernel
theorem dX5_waysOf_68 : decode cX5_waysOf 68 = .ok (.if_icmp .ne 11, 3) := by decide +kernel
theorem dX5_waysOf_71 : decode cX5_waysOf 71 = .ok (.iload 5, 2) := by decide +kernel
theorem dX5_waysOf_73 : decode cX5_waysOf 73 = .ok (.ifCond .ne 6, 3) := by decide +kernel
theorem dX5_waysOf_76 : decode cX5_waysOf 76 = .ok (.bipush 97, 2) := by decide +kernel
theorem dX5_waysOf_78 : decode cX5_waysOf 78 = .ok (.ireturn, 1) := by decide +kernel
theorem dX5_waysOf_79 : decode cX5_waysOf 79 = .ok (.aload_n 0, 1) := by decide +kernel
theorem dX5_waysOf_80 : decode cX5_waysOf 80 = .ok (.getfield 48, 3) := by decide +kernel
theorem dX5_waysOf_83 : decode cX5_waysOf 83 = .ok (.iconst 2, 1) := by decide +kernel
theorem dX5_waysOf_84 : decode cX5_waysOf 84 = .ok (.if_icmp .ne 61, 3) := by decide +kernel
theorem dX5_waysOf_87 : decode cX5_waysOf 87 = .ok (.aload_n 0, 1) := by decide +kernel
theorem dX5_waysOf_88 : decode cX5_waysOf 88 = .ok (.iload 5, 2) := by decide +kernel
theorem dX5_waysOf_90 : decode cX5_waysOf 90 = .ok (.iload_n 2, 1) := by decide +kernel
theorem dX5_waysOf_91 : decode cX5_waysOf 91 = .ok (.invokevirtual 74, 3) := by decide +kernel
theorem dX5_waysOf_94 : decode cX5_waysOf 94 = .ok (.iload_n 3, 1) := by decide +kernel
theorem dX5_waysOf_95 : decode cX5_waysOf 95 = .ok (.isub, 1) := by decide +kernel
theorem dX5_waysOf_96 : decode cX5_waysOf 96 = .ok (.iload 5, 2) := by decide +kernel
theorem dX5_waysOf_98 : decode cX5_waysOf 98 = .ok (.invokestatic 134, 3) := by decide +kernel
theorem dX5_waysOf_101 : decode cX5_waysOf 101 = .ok (.imul, 1) := by decide +kernel
theorem dX5_waysOf_102 : decode cX5_waysOf 102 = .ok (.invokestatic 67, 3) := by decide +kernel
theorem dX5_waysOf_105 : decode cX5_waysOf 105 = .ok (.istore 8, 2) := by decide +kernel
theorem dX5_waysOf_107 : decode cX5_waysOf 107 = .ok (.iload 6, 2) := by decide +kernel
theorem dX5_waysOf_109 : decode cX5_waysOf 109 = .ok (.iload 8, 2) := by decide +kernel
theorem dX5_waysOf_111 : decode cX5_waysOf 111 = .ok (.isub, 1) := by decide +kernel
theorem dX5_waysOf_112 : decode cX5_waysOf 112 = .ok (.invokestatic 67, 3) := by decide +kernel
theorem dX5_waysOf_115 : decode cX5_waysOf 115 = .ok (.iload 4, 2) := by decide +kernel
theorem dX5_waysOf_117 : decode cX5_waysOf 117 = .ok (.iload 5, 2) := by decide +kernel
theorem dX5_waysOf_119 : decode cX5_waysOf 119 = .ok (.isub, 1) := by decide +kernel
theorem dX5_waysOf_120 : decode cX5_waysOf 120 = .ok (.invokestatic 67, 3) := by decide +kernel
theorem dX5_waysOf_123 : decode cX5_waysOf 123 = .ok (.invokestatic 134, 3) := by decide +kernel
theorem dX5_waysOf_126 : decode cX5_waysOf 126 = .ok (.imul, 1) := by decide +kernel
theorem dX5_waysOf_127 : decode cX5_waysOf 127 = .ok (.invokestatic 67, 3) := by decide +kernel
theorem dX5_waysOf_130 : decode cX5_waysOf 130 = .ok (.istore 7, 2) := by decide +kernel
theorem dX5_waysOf_132 : decode cX5_waysOf 132 = .ok (.iload 6, 2) := by decide +kernel
theorem dX5_waysOf_134 : decode cX5_waysOf 134 = .ok (.iload 7, 2) := by decide +kernel
theorem dX5_waysOf_136 : decode cX5_waysOf 136 = .ok (.iload 4, 2) := by decide +kernel
theorem dX5_waysOf_138 : decode cX5_waysOf 138 = .ok (.imul, 1) := by decide +kernel
theorem dX5_waysOf_139 : decode cX5_waysOf 139 = .ok (.isub, 1) := by decide +kernel
theorem dX5_waysOf_140 : decode cX5_waysOf 140 = .ok (.invokestatic 67, 3) := by decide +kernel
theorem dX5_waysOf_143 : decode cX5_waysOf 143 = .ok (.istore 6, 2) := by decide +kernel
theorem dX5_waysOf_145 : decode cX5_waysOf 145 = .ok (.iconst 1, 1) := by decide +kernel
theorem dX5_waysOf_146 : decode cX5_waysOf 146 = .ok (.istore 8, 2) := by decide +kernel
theorem dX5_waysOf_148 : decode cX5_waysOf 148 = .ok (.iload 8, 2) := by decide +kernel
theorem dX5_waysOf_150 : decode cX5_waysOf 150 = .ok (.bipush 9, 2) := by decide +kernel
theorem dX5_waysOf_152 : decode cX5_waysOf 152 = .ok (.if_icmp .gt 53, 3) := by decide +kernel
theorem dX5_waysOf_155 : decode cX5_waysOf 155 = .ok (.iload_n 1, 1) := by decide +kernel
theorem dX5_waysOf_156 : decode cX5_waysOf 156 = .ok (.iload 8, 2) := by decide +kernel
theorem dX5_waysOf_158 : decode cX5_waysOf 158 = .ok (.ishr, 1) := by decide +kernel
theorem dX5_waysOf_159 : decode cX5_waysOf 159 = .ok (.iconst 1, 1) := by decide +kernel
theorem dX5_waysOf_160 : decode cX5_waysOf 160 = .ok (.iand, 1) := by decide +kernel
theorem dX5_waysOf_161 : decode cX5_waysOf 161 = .ok (.iconst 1, 1) := by decide +kernel
theorem dX5_waysOf_162 : decode cX5_waysOf 162 = .ok (.if_icmp .ne 37, 3) := by decide +kernel
theorem dX5_waysOf_165 : decode cX5_waysOf 165 = .ok (.iload_n 3, 1) := by decide +kernel
theorem dX5_waysOf_166 : decode cX5_waysOf 166 = .ok (.iload 6, 2) := by decide +kernel
theorem dX5_waysOf_168 : decode cX5_waysOf 168 = .ok (.iload 8, 2) := by decide +kernel
theorem dX5_waysOf_170 : decode cX5_waysOf 170 = .ok (.imul, 1) := by decide +kernel
theorem dX5_waysOf_171 : decode cX5_waysOf 171 = .ok (.iadd, 1) := by decide +kernel
theorem dX5_waysOf_172 : decode cX5_waysOf 172 = .ok (.iload 7, 2) := by decide +kernel
theorem dX5_waysOf_174 : decode cX5_waysOf 174 = .ok (.iload 8, 2) := by decide +kernel
theorem dX5_waysOf_176 : decode cX5_waysOf 176 = .ok (.imul, 1) := by decide +kernel
theorem dX5_waysOf_177 : decode cX5_waysOf 177 = .ok (.invokestatic 67, 3) := by decide +kernel
theorem dX5_waysOf_180 : decode cX5_waysOf 180 = .ok (.iload 8, 2) := by decide +kernel
theorem dX5_waysOf_182 : decode cX5_waysOf 182 = .ok (.imul, 1) := by decide +kernel
theorem dX5_waysOf_183 : decode cX5_waysOf 183 = .ok (.iadd, 1) := by decide +kernel
theorem dX5_waysOf_184 : decode cX5_waysOf 184 = .ok (.invokestatic 67, 3) := by decide +kernel
theorem dX5_waysOf_187 : decode cX5_waysOf 187 = .ok (.aload_n 0, 1) := by decide +kernel
theorem dX5_waysOf_188 : decode cX5_waysOf 188 = .ok (.iload 8, 2) := by decide +kernel
theorem dX5_waysOf_190 : decode cX5_waysOf 190 = .ok (.iload_n 2, 1) := by decide +kernel
theorem dX5_waysOf_191 : decode cX5_waysOf 191 = .ok (.invokevirtual 74, 3) := by decide +kernel
theorem dX5_waysOf_194 : decode cX5_waysOf 194 = .ok (.if_icmp .eq 5, 3) := by decide +kernel
theorem dX5_waysOf_197 : decode cX5_waysOf 197 = .ok (.iconst 0, 1) := by decide +kernel
theorem dX5_waysOf_198 : decode cX5_waysOf 198 = .ok (.ireturn, 1) := by decide +kernel
theorem dX5_waysOf_199 : decode cX5_waysOf 199 = .ok (.iinc 8 1, 3) := by decide +kernel
theorem dX5_waysOf_202 : decode cX5_waysOf 202 = .ok (.goto (-54), 3) := by decide +kernel
theorem dX5_waysOf_205 : decode cX5_waysOf 205 = .ok (.iconst 1, 1) := by decide +kernel
theorem dX5_waysOf_206 : decode cX5_waysOf 206 = .ok (.ireturn, 1) := by decide +kernel
theorem dX5_waysFor_0 : decode cX5_waysFor 0 = .ok (.lconst 1, 1) := by decide +kernel
theorem dX5_waysFor_1 : decode cX5_waysFor 1 = .ok (.lstore_n 3, 1) := by decide +kernel
theorem dX5_waysFor_2 : decode cX5_waysFor 2 = .ok (.iconst 0, 1) := by decide +kernel
theorem dX5_waysFor_3 : decode cX5_waysFor 3 = .ok (.istore 5, 2) := by decide +kernel
theorem dX5_waysFor_5 : decode cX5_waysFor 5 = .ok (.iload 5, 2) := by decide +kernel
theorem dX5_waysFor_7 : decode cX5_waysFor 7 = .ok (.aload_n 0, 1) := by decide +kernel
theorem dX5_waysFor_8 : decode cX5_waysFor 8 = .ok (.getfield 7, 3) := by decide +kernel
theorem dX5_waysFor_11 : decode cX5_waysFor 11 = .ok (.if_icmp .ge 26, 3) := by decide +kernel
theorem dX5_waysFor_14 : decode cX5_waysFor 14 = .ok (.lload_n 3, 1) := by decide +kernel
theorem dX5_waysFor_15 : decode cX5_waysFor 15 = .ok (.aload_n 0, 1) := by decide +kernel
theorem dX5_waysFor_16 : decode cX5_waysFor 16 = .ok (.iload_n 1, 1) := by decide +kernel
theorem dX5_waysFor_17 : decode cX5_waysFor 17 = .ok (.iload 5, 2) := by decide +kernel
theorem dX5_waysFor_19 : decode cX5_waysFor 19 = .ok (.iload_n 2, 1) := by decide +kernel
theorem dX5_waysFor_20 : decode cX5_waysFor 20 = .ok (.iload 5, 2) := by decide +kernel
theorem dX5_waysFor_22 : decode cX5_waysFor 22 = .ok (.ishr, 1) := by decide +kernel
theorem dX5_waysFor_23 : decode cX5_waysFor 23 = .ok (.iconst 1, 1) := by decide +kernel
theorem dX5_waysFor_24 : decode cX5_waysFor 24 = .ok (.iand, 1) := by decide +kernel
theorem dX5_waysFor_25 : decode cX5_waysFor 25 = .ok (.invokevirtual 162, 3) := by decide +kernel
theorem dX5_waysFor_28 : decode cX5_waysFor 28 = .ok (.i2l, 1) := by decide +kernel
theorem dX5_waysFor_29 : decode cX5_waysFor 29 = .ok (.lmul, 1) := by decide +kernel
theorem dX5_waysFor_30 : decode cX5_waysFor 30 = .ok (.lstore_n 3, 1) := by decide +kernel
theorem dX5_waysFor_31 : decode cX5_waysFor 31 = .ok (.iinc 5 1, 3) := by decide +kernel
theorem dX5_waysFor_34 : decode cX5_waysFor 34 = .ok (.goto (-29), 3) := by decide +kernel
theorem dX5_waysFor_37 : decode cX5_waysFor 37 = .ok (.lload_n 3, 1) := by decide +kernel
theorem dX5_waysFor_38 : decode cX5_waysFor 38 = .ok (.lreturn, 1) := by decide +kernel
theorem dX5_ways_0 : decode cX5_ways 0 = .ok (.aload_n 0, 1) := by decide +kernel
theorem dX5_ways_1 : decode cX5_ways 1 = .ok (.iconst 0, 1) := by decide +kernel
theorem dX5_ways_2 : decode cX5_ways 2 = .ok (.putfield 45, 3) := by decide +kernel
theorem dX5_ways_5 : decode cX5_ways 5 = .ok (.aload_n 0, 1) := by decide +kernel
theorem dX5_ways_6 : decode cX5_ways 6 = .ok (.getfield 90, 3) := by decide +kernel
theorem dX5_ways_9 : decode cX5_ways 9 = .ok (.ifCond .ne 9, 3) := by decide +kernel
theorem dX5_ways_12 : decode cX5_ways 12 = .ok (.ldc2_w 166, 3) := by decide +kernel
theorem dX5_ways_15 : decode cX5_ways 15 = .ok (.goto 36, 3) := by decide +kernel
theorem dX5_ways_18 : decode cX5_ways 18 = .ok (.iload_n 1, 1) := by decide +kernel
theorem dX5_ways_19 : decode cX5_ways 19 = .ok (.invokestatic 168, 3) := by decide +kernel
theorem dX5_ways_22 : decode cX5_ways 22 = .ok (.ifCond .ne 9, 3) := by decide +kernel
theorem dX5_ways_25 : decode cX5_ways 25 = .ok (.ldc2_w 171, 3) := by decide +kernel
theorem dX5_ways_28 : decode cX5_ways 28 = .ok (.goto 23, 3) := by decide +kernel
theorem dX5_ways_31 : decode cX5_ways 31 = .ok (.aload_n 0, 1) := by decide +kernel
theorem dX5_ways_32 : decode cX5_ways 32 = .ok (.iload_n 2, 1) := by decide +kernel
theorem dX5_ways_33 : decode cX5_ways 33 = .ok (.invokevirtual 93, 3) := by decide +kernel
theorem dX5_ways_36 : decode cX5_ways 36 = .ok (.ifCond .ne 9, 3) := by decide +kernel
theorem dX5_ways_39 : decode cX5_ways 39 = .ok (.ldc2_w 173, 3) := by decide +kernel
theorem dX5_ways_42 : decode cX5_ways 42 = .ok (.goto 9, 3) := by decide +kernel
theorem dX5_ways_45 : decode cX5_ways 45 = .ok (.aload_n 0, 1) := by decide +kernel
theorem dX5_ways_46 : decode cX5_ways 46 = .ok (.iload_n 1, 1) := by decide +kernel
theorem dX5_ways_47 : decode cX5_ways 47 = .ok (.iload_n 2, 1) := by decide +kernel
theorem dX5_ways_48 : decode cX5_ways 48 = .ok (.invokevirtual 175, 3) := by decide +kernel
theorem dX5_ways_51 : decode cX5_ways 51 = .ok (.lreturn, 1) := by decide +kernel
theorem dX5_might_0 : decode cX5_might 0 = .ok (.aload_n 0, 1) := by decide +kernel
theorem dX5_might_1 : decode cX5_might 1 = .ok (.iconst 0, 1) := by decide +kernel
theorem dX5_might_2 : decode cX5_might 2 = .ok (.putfield 45, 3) := by decide +kernel
theorem dX5_might_5 : decode cX5_might 5 = .ok (.aload_n 0, 1) := by decide +kernel
theorem dX5_might_6 : decode cX5_might 6 = .ok (.getfield 90, 3) := by decide +kernel
theorem dX5_might_9 : decode cX5_might 9 = .ok (.ifCond .eq 10, 3) := by decide +kernel
theorem dX5_might_12 : decode cX5_might 12 = .ok (.iload_n 1, 1) := by decide +kernel
theorem dX5_might_13 : decode cX5_might 13 = .ok (.invokestatic 168, 3) := by decide +kernel
theorem dX5_might_16 : decode cX5_might 16 = .ok (.ifCond .ne 18, 3) := by decide +kernel
theorem dX5_might_19 : decode cX5_might 19 = .ok (.aload_n 0, 1) := by decide +kernel
theorem dX5_might_20 : decode cX5_might 20 = .ok (.getfield 90, 3) := by decide +kernel
theorem dX5_might_23 : decode cX5_might 23 = .ok (.ifCond .eq 8, 3) := by decide +kernel
theorem dX5_might_26 : decode cX5_might 26 = .ok (.bipush (-2), 2) := by decide +kernel
theorem dX5_might_28 : decode cX5_might 28 = .ok (.goto 5, 3) := by decide +kernel
theorem dX5_might_31 : decode cX5_might 31 = .ok (.bipush (-3), 2) := by decide +kernel
theorem dX5_might_33 : decode cX5_might 33 = .ok (.ireturn, 1) := by decide +kernel
theorem dX5_might_34 : decode cX5_might 34 = .ok (.iconst 0, 1) := by decide +kernel
theorem dX5_might_35 : decode cX5_might 35 = .ok (.istore_n 2, 1) := by decide +kernel
theorem dX5_might_36 : decode cX5_might 36 = .ok (.iconst 0, 1) := by decide +kernel
theorem dX5_might_37 : decode cX5_might 37 = .ok (.istore_n 3, 1) := by decide +kernel
theorem dX5_might_38 : decode cX5_might 38 = .ok (.iload_n 3, 1) := by decide +kernel
theorem dX5_might_39 : decode cX5_might 39 = .ok (.aload_n 0, 1) := by decide +kernel
theorem dX5_might_40 : decode cX5_might 40 = .ok (.invokevirtual 57, 3) := by decide +kernel
theorem dX5_might_43 : decode cX5_might 43 = .ok (.if_icmp .ge 28, 3) := by decide +kernel
theorem dX5_might_46 : decode cX5_might 46 = .ok (.iload_n 2, 1) := by decide +kernel
theorem dX5_might_47 : decode cX5_might 47 = .ok (.aload_n 0, 1) := by decide +kernel
theorem dX5_might_48 : decode cX5_might 48 = .ok (.iload_n 1, 1) := by decide +kernel
theorem dX5_might_49 : decode cX5_might 49 = .ok (.iload_n 3, 1) := by decide +kernel
theorem dX5_might_50 : decode cX5_might 50 = .ok (.invokevirtual 175, 3) := by decide +kernel
theorem dX5_might_53 : decode cX5_might 53 = .ok (.lconst 0, 1) := by decide +kernel
theorem dX5_might_54 : decode cX5_might 54 = .ok (.lcmp, 1) := by decide +kernel
theorem dX5_might_55 : decode cX5_might 55 = .ok (.ifCond .le 7, 3) := by decide +kernel
theorem dX5_might_58 : decode cX5_might 58 = .ok (.iconst 1, 1) := by decide +kernel
theorem dX5_might_59 : decode cX5_might 59 = .ok (.goto 4, 3) := by decide +kernel
theorem dX5_might_62 : decode cX5_might 62 = .ok (.iconst 0, 1) := by decide +kernel
theorem dX5_might_63 : decode cX5_might 63 = .ok (.iadd, 1) := by decide +kernel
theorem dX5_might_64 : decode cX5_might 64 = .ok (.istore_n 2, 1) := by decide +kernel
theorem dX5_might_65 : decode cX5_might 65 = .ok (.iinc 3 1, 3) := by decide +kernel
theorem dX5_might_68 : decode cX5_might 68 = .ok (.goto (-30), 3) := by decide +kernel
theorem dX5_might_71 : decode cX5_might 71 = .ok (.iload_n 2, 1) := by decide +kernel
theorem dX5_might_72 : decode cX5_might 72 = .ok (.ireturn, 1) := by decide +kernel
theorem dX5_learnsOf_0 : decode cX5_learnsOf 0 = .ok (.iconst 0, 1) := by decide +kernel
theorem dX5_learnsOf_1 : decode cX5_learnsOf 1 = .ok (.istore_n 2, 1) := by decide +kernel
theorem dX5_learnsOf_2 : decode cX5_learnsOf 2 = .ok (.iconst 1, 1) := by decide +kernel
theorem dX5_learnsOf_3 : decode cX5_learnsOf 3 = .ok (.istore_n 3, 1) := by decide +kernel
theorem dX5_learnsOf_4 : decode cX5_learnsOf 4 = .ok (.iload_n 3, 1) := by decide +kernel
theorem dX5_learnsOf_5 : decode cX5_learnsOf 5 = .ok (.aload_n 0, 1) := by decide +kernel
theorem dX5_learnsOf_6 : decode cX5_learnsOf 6 = .ok (.invokevirtual 57, 3) := by decide +kernel
theorem dX5_learnsOf_9 : decode cX5_learnsOf 9 = .ok (.if_icmp .ge 35, 3) := by decide +kernel
theorem dX5_learnsOf_12 : decode cX5_learnsOf 12 = .ok (.iload_n 2, 1) := by decide +kernel
theorem dX5_learnsOf_13 : decode cX5_learnsOf 13 = .ok (.ifCond .ne 19, 3) := by decide +kernel
theorem dX5_learnsOf_16 : decode cX5_learnsOf 16 = .ok (.aload_n 0, 1) := by decide +kernel
theorem dX5_learnsOf_17 : decode cX5_learnsOf 17 = .ok (.iload_n 1, 1) := by decide +kernel
theorem dX5_learnsOf_18 : decode cX5_learnsOf 18 = .ok (.iload_n 3, 1) := by decide +kernel
theorem dX5_learnsOf_19 : decode cX5_learnsOf 19 = .ok (.invokevirtual 175, 3) := by decide +kernel
theorem dX5_learnsOf_22 : decode cX5_learnsOf 22 = .ok (.aload_n 0, 1) := by decide +kernel
theorem dX5_learnsOf_23 : decode cX5_learnsOf 23 = .ok (.iload_n 1, 1) := by decide +kernel
theorem dX5_learnsOf_24 : decode cX5_learnsOf 24 = .ok (.iconst 0, 1) := by decide +kernel
theorem dX5_learnsOf_25 : decode cX5_learnsOf 25 = .ok (.invokevirtual 175, 3) := by decide +kernel
theorem dX5_learnsOf_28 : decode cX5_learnsOf 28 = .ok (.lcmp, 1) := by decide +kernel
theorem dX5_learnsOf_29 : decode cX5_learnsOf 29 = .ok (.ifCond .eq 7, 3) := by decide +kernel
theorem dX5_learnsOf_32 : decode cX5_learnsOf 32 = .ok (.iconst 1, 1) := by decide +kernel
theorem dX5_learnsOf_33 : decode cX5_learnsOf 33 = .ok (.goto 4, 3) := by decide +kernel
theorem dX5_learnsOf_36 : decode cX5_learnsOf 36 = .ok (.iconst 0, 1) := by decide +kernel
theorem dX5_learnsOf_37 : decode cX5_learnsOf 37 = .ok (.istore_n 2, 1) := by decide +kernel
theorem dX5_learnsOf_38 : decode cX5_learnsOf 38 = .ok (.iinc 3 1, 3) := by decide +kernel
theorem dX5_learnsOf_41 : decode cX5_learnsOf 41 = .ok (.goto (-37), 3) := by decide +kernel
theorem dX5_learnsOf_44 : decode cX5_learnsOf 44 = .ok (.iload_n 2, 1) := by decide +kernel
theorem dX5_learnsOf_45 : decode cX5_learnsOf 45 = .ok (.ireturn, 1) := by decide +kernel
theorem dX5_learns_0 : decode cX5_learns 0 = .ok (.aload_n 0, 1) := by decide +kernel
theorem dX5_learns_1 : decode cX5_learns 1 = .ok (.iconst 0, 1) := by decide +kernel
theorem dX5_learns_2 : decode cX5_learns 2 = .ok (.putfield 45, 3) := by decide +kernel
theorem dX5_learns_5 : decode cX5_learns 5 = .ok (.aload_n 0, 1) := by decide +kernel
theorem dX5_learns_6 : decode cX5_learns 6 = .ok (.getfield 90, 3) := by decide +kernel
theorem dX5_learns_9 : decode cX5_learns 9 = .ok (.ifCond .ne 8, 3) := by decide +kernel
theorem dX5_learns_12 : decode cX5_learns 12 = .ok (.bipush (-3), 2) := by decide +kernel
theorem dX5_learns_14 : decode cX5_learns 14 = .ok (.goto 28, 3) := by decide +kernel
theorem dX5_learns_17 : decode cX5_learns 17 = .ok (.iload_n 1, 1) := by decide +kernel
theorem dX5_learns_18 : decode cX5_learns 18 = .ok (.invokestatic 168, 3) := by decide +kernel
theorem dX5_learns_21 : decode cX5_learns 21 = .ok (.ifCond .ne 8, 3) := by decide +kernel
theorem dX5_learns_24 : decode cX5_learns 24 = .ok (.bipush (-2), 2) := by decide +kernel
theorem dX5_learns_26 : decode cX5_learns 26 = .ok (.goto 16, 3) := by decide +kernel
theorem dX5_learns_29 : decode cX5_learns 29 = .ok (.aload_n 0, 1) := by decide +kernel
theorem dX5_learns_30 : decode cX5_learns 30 = .ok (.iload_n 1, 1) := by decide +kernel
theorem dX5_learns_31 : decode cX5_learns 31 = .ok (.invokevirtual 179, 3) := by decide +kernel
theorem dX5_learns_34 : decode cX5_learns 34 = .ok (.ifCond .eq 7, 3) := by decide +kernel
theorem dX5_learns_37 : decode cX5_learns 37 = .ok (.iconst 1, 1) := by decide +kernel
theorem dX5_learns_38 : decode cX5_learns 38 = .ok (.goto 4, 3) := by decide +kernel
theorem dX5_learns_41 : decode cX5_learns 41 = .ok (.iconst 0, 1) := by decide +kernel
theorem dX5_learns_42 : decode cX5_learns 42 = .ok (.ireturn, 1) := by decide +kernel
theorem dX5_least_0 : decode cX5_least 0 = .ok (.aload_n 0, 1) := by decide +kernel
theorem dX5_least_1 : decode cX5_least 1 = .ok (.iconst 0, 1) := by decide +kernel
theorem dX5_least_2 : decode cX5_least 2 = .ok (.putfield 45, 3) := by decide +kernel
theorem dX5_least_5 : decode cX5_least 5 = .ok (.aload_n 0, 1) := by decide +kernel
theorem dX5_least_6 : decode cX5_least 6 = .ok (.getfield 90, 3) := by decide +kernel
theorem dX5_least_9 : decode cX5_least 9 = .ok (.ifCond .ne 6, 3) := by decide +kernel
theorem dX5_least_12 : decode cX5_least 12 = .ok (.bipush (-3), 2) := by decide +kernel
theorem dX5_least_14 : decode cX5_least 14 = .ok (.ireturn, 1) := by decide +kernel
theorem dX5_least_15 : decode cX5_least 15 = .ok (.iconst 2, 1) := by decide +kernel
theorem dX5_least_16 : decode cX5_least 16 = .ok (.istore_n 1, 1) := by decide +kernel
theorem dX5_least_17 : decode cX5_least 17 = .ok (.iload_n 1, 1) := by decide +kernel
theorem dX5_least_18 : decode cX5_least 18 = .ok (.sipush 1022, 3) := by decide +kernel
theorem dX5_least_21 : decode cX5_least 21 = .ok (.if_icmp .gt 19, 3) := by decide +kernel
theorem dX5_least_24 : decode cX5_least 24 = .ok (.aload_n 0, 1) := by decide +kernel
theorem dX5_least_25 : decode cX5_least 25 = .ok (.iload_n 1, 1) := by decide +kernel
theorem dX5_least_26 : decode cX5_least 26 = .ok (.invokevirtual 179, 3) := by decide +kernel
theorem dX5_least_29 : decode cX5_least 29 = .ok (.ifCond .eq 5, 3) := by decide +kernel
theorem dX5_least_32 : decode cX5_least 32 = .ok (.iload_n 1, 1) := by decide +kernel
theorem dX5_least_33 : decode cX5_least 33 = .ok (.ireturn, 1) := by decide +kernel
theorem dX5_least_34 : decode cX5_least 34 = .ok (.iinc 1 2, 3) := by decide +kernel
theorem dX5_least_37 : decode cX5_least 37 = .ok (.goto (-20), 3) := by decide +kernel
theorem dX5_least_40 : decode cX5_least 40 = .ok (.bipush (-9), 2) := by decide +kernel
theorem dX5_least_42 : decode cX5_least 42 = .ok (.ireturn, 1) := by decide +kernel
theorem dX5_fits_0 : decode cX5_fits 0 = .ok (.aload_n 0, 1) := by decide +kernel
theorem dX5_fits_1 : decode cX5_fits 1 = .ok (.iconst 0, 1) := by decide +kernel
theorem dX5_fits_2 : decode cX5_fits 2 = .ok (.putfield 45, 3) := by decide +kernel
theorem dX5_fits_5 : decode cX5_fits 5 = .ok (.iload_n 1, 1) := by decide +kernel
theorem dX5_fits_6 : decode cX5_fits 6 = .ok (.invokestatic 100, 3) := by decide +kernel
theorem dX5_fits_9 : decode cX5_fits 9 = .ok (.ifCond .eq 10, 3) := by decide +kernel
theorem dX5_fits_12 : decode cX5_fits 12 = .ok (.iload_n 2, 1) := by decide +kernel
theorem dX5_fits_13 : decode cX5_fits 13 = .ok (.invokestatic 97, 3) := by decide +kernel
theorem dX5_fits_16 : decode cX5_fits 16 = .ok (.ifCond .ne 6, 3) := by decide +kernel
theorem dX5_fits_19 : decode cX5_fits 19 = .ok (.bipush (-2), 2) := by decide +kernel
theorem dX5_fits_21 : decode cX5_fits 21 = .ok (.ireturn, 1) := by decide +kernel
theorem dX5_fits_22 : decode cX5_fits 22 = .ok (.aload_n 0, 1) := by decide +kernel
theorem dX5_fits_23 : decode cX5_fits 23 = .ok (.getfield 90, 3) := by decide +kernel
theorem dX5_fits_26 : decode cX5_fits 26 = .ok (.ifCond .ne 6, 3) := by decide +kernel
theorem dX5_fits_29 : decode cX5_fits 29 = .ok (.bipush (-3), 2) := by decide +kernel
theorem dX5_fits_31 : decode cX5_fits 31 = .ok (.ireturn, 1) := by decide +kernel
theorem dX5_fits_32 : decode cX5_fits 32 = .ok (.aload_n 0, 1) := by decide +kernel
theorem dX5_fits_33 : decode cX5_fits 33 = .ok (.iload_n 1, 1) := by decide +kernel
theorem dX5_fits_34 : decode cX5_fits 34 = .ok (.invokevirtual 140, 3) := by decide +kernel
theorem dX5_fits_37 : decode cX5_fits 37 = .ok (.aload_n 0, 1) := by decide +kernel
theorem dX5_fits_38 : decode cX5_fits 38 = .ok (.getfield 131, 3) := by decide +kernel
theorem dX5_fits_41 : decode cX5_fits 41 = .ok (.aload_n 0, 1) := by decide +kernel
theorem dX5_fits_42 : decode cX5_fits 42 = .ok (.invokevirtual 81, 3) := by decide +kernel
theorem dX5_fits_45 : decode cX5_fits 45 = .ok (.if_icmp .gt 6, 3) := by decide +kernel
theorem dX5_fits_48 : decode cX5_fits 48 = .ok (.bipush (-3), 2) := by decide +kernel
theorem dX5_fits_50 : decode cX5_fits 50 = .ok (.ireturn, 1) := by decide +kernel
theorem dX5_fits_51 : decode cX5_fits 51 = .ok (.aload_n 0, 1) := by decide +kernel
theorem dX5_fits_52 : decode cX5_fits 52 = .ok (.invokevirtual 150, 3) := by decide +kernel
theorem dX5_fits_55 : decode cX5_fits 55 = .ok (.aload_n 0, 1) := by decide +kernel
theorem dX5_fits_56 : decode cX5_fits 56 = .ok (.invokevirtual 153, 3) := by decide +kernel
theorem dX5_fits_59 : decode cX5_fits 59 = .ok (.aload_n 0, 1) := by decide +kernel
theorem dX5_fits_60 : decode cX5_fits 60 = .ok (.getfield 131, 3) := by decide +kernel
theorem dX5_fits_63 : decode cX5_fits 63 = .ok (.if_icmp .ne 16, 3) := by decide +kernel
theorem dX5_fits_66 : decode cX5_fits 66 = .ok (.aload_n 0, 1) := by decide +kernel
theorem dX5_fits_67 : decode cX5_fits 67 = .ok (.iconst 0, 1) := by decide +kernel
theorem dX5_fits_68 : decode cX5_fits 68 = .ok (.invokevirtual 137, 3) := by decide +kernel
theorem dX5_fits_71 : decode cX5_fits 71 = .ok (.iload_n 2, 1) := by decide +kernel
theorem dX5_fits_72 : decode cX5_fits 72 = .ok (.if_icmp .ne 7, 3) := by decide +kernel
theorem dX5_fits_75 : decode cX5_fits 75 = .ok (.iconst 1, 1) := by decide +kernel
theorem dX5_fits_76 : decode cX5_fits 76 = .ok (.goto 4, 3) := by decide +kernel
theorem dX5_fits_79 : decode cX5_fits 79 = .ok (.iconst 0, 1) := by decide +kernel
theorem dX5_fits_80 : decode cX5_fits 80 = .ok (.ireturn, 1) := by decide +kernel
theorem dX5_isSum_0 : decode cX5_isSum 0 = .ok (.iload_n 1, 1) := by decide +kernel
theorem dX5_isSum_1 : decode cX5_isSum 1 = .ok (.ifCond .lt 16, 3) := by decide +kernel
theorem dX5_isSum_4 : decode cX5_isSum 4 = .ok (.iload_n 1, 1) := by decide +kernel
theorem dX5_isSum_5 : decode cX5_isSum 5 = .ok (.aload_n 0, 1) := by decide +kernel
theorem dX5_isSum_6 : decode cX5_isSum 6 = .ok (.invokevirtual 57, 3) := by decide +kernel
theorem dX5_isSum_9 : decode cX5_isSum 9 = .ok (.ishr, 1) := by decide +kernel
theorem dX5_isSum_10 : decode cX5_isSum 10 = .ok (.ifCond .ne 7, 3) := by decide +kernel
theorem dX5_isSum_13 : decode cX5_isSum 13 = .ok (.iconst 1, 1) := by decide +kernel
theorem dX5_isSum_14 : decode cX5_isSum 14 = .ok (.goto 4, 3) := by decide +kernel
theorem dX5_isSum_17 : decode cX5_isSum 17 = .ok (.iconst 0, 1) := by decide +kernel
theorem dX5_isSum_18 : decode cX5_isSum 18 = .ok (.ireturn, 1) := by decide +kernel
theorem dX5_bothOf_0 : decode cX5_bothOf 0 = .ok (.iconst 0, 1) := by decide +kernel
theorem dX5_bothOf_1 : decode cX5_bothOf 1 = .ok (.istore_n 3, 1) := by decide +kernel
theorem dX5_bothOf_2 : decode cX5_bothOf 2 = .ok (.iconst 0, 1) := by decide +kernel
theorem dX5_bothOf_3 : decode cX5_bothOf 3 = .ok (.istore 4, 2) := by decide +kernel
theorem dX5_bothOf_5 : decode cX5_bothOf 5 = .ok (.iload 4, 2) := by decide +kernel
theorem dX5_bothOf_7 : decode cX5_bothOf 7 = .ok (.aload_n 0, 1) := by decide +kernel
theorem dX5_bothOf_8 : decode cX5_bothOf 8 = .ok (.invokevirtual 57, 3) := by decide +kernel
theorem dX5_bothOf_11 : decode cX5_bothOf 11 = .ok (.if_icmp .ge 33, 3) := by decide +kernel
theorem dX5_bothOf_14 : decode cX5_bothOf 14 = .ok (.iload_n 3, 1) := by decide +kernel
theorem dX5_bothOf_15 : decode cX5_bothOf 15 = .ok (.iload_n 2, 1) := by decide +kernel
theorem dX5_bothOf_16 : decode cX5_bothOf 16 = .ok (.iload 4, 2) := by decide +kernel
theorem dX5_bothOf_18 : decode cX5_bothOf 18 = .ok (.ishr, 1) := by decide +kernel
theorem dX5_bothOf_19 : decode cX5_bothOf 19 = .ok (.iconst 1, 1) := by decide +kernel
theorem dX5_bothOf_20 : decode cX5_bothOf 20 = .ok (.iand, 1) := by decide +kernel
theorem dX5_bothOf_21 : decode cX5_bothOf 21 = .ok (.iconst 1, 1) := by decide +kernel
theorem dX5_bothOf_22 : decode cX5_bothOf 22 = .ok (.if_icmp .ne 13, 3) := by decide +kernel
theorem dX5_bothOf_25 : decode cX5_bothOf 25 = .ok (.aload_n 0, 1) := by decide +kernel
theorem dX5_bothOf_26 : decode cX5_bothOf 26 = .ok (.iload_n 1, 1) := by decide +kernel
theorem dX5_bothOf_27 : decode cX5_bothOf 27 = .ok (.iload 4, 2) := by decide +kernel
theorem dX5_bothOf_29 : decode cX5_bothOf 29 = .ok (.invokevirtual 63, 3) := by decide +kernel
theorem dX5_bothOf_32 : decode cX5_bothOf 32 = .ok (.goto 4, 3) := by decide +kernel
theorem dX5_bothOf_35 : decode cX5_bothOf 35 = .ok (.iconst 0, 1) := by decide +kernel
theorem dX5_bothOf_36 : decode cX5_bothOf 36 = .ok (.ixor, 1) := by decide +kernel
theorem dX5_bothOf_37 : decode cX5_bothOf 37 = .ok (.istore_n 3, 1) := by decide +kernel
theorem dX5_bothOf_38 : decode cX5_bothOf 38 = .ok (.iinc 4 1, 3) := by decide +kernel
theorem dX5_bothOf_41 : decode cX5_bothOf 41 = .ok (.goto (-36), 3) := by decide +kernel
theorem dX5_bothOf_44 : decode cX5_bothOf 44 = .ok (.aload_n 0, 1) := by decide +kernel
theorem dX5_bothOf_45 : decode cX5_bothOf 45 = .ok (.getfield 17, 3) := by decide +kernel
theorem dX5_bothOf_48 : decode cX5_bothOf 48 = .ok (.iload_n 1, 1) := by decide +kernel
theorem dX5_bothOf_49 : decode cX5_bothOf 49 = .ok (.iaload, 1) := by decide +kernel
theorem dX5_bothOf_50 : decode cX5_bothOf 50 = .ok (.iconst 1, 1) := by decide +kernel
theorem dX5_bothOf_51 : decode cX5_bothOf 51 = .ok (.if_icmp .ne 18, 3) := by decide +kernel
theorem dX5_bothOf_54 : decode cX5_bothOf 54 = .ok (.iload_n 3, 1) := by decide +kernel
theorem dX5_bothOf_55 : decode cX5_bothOf 55 = .ok (.aload_n 0, 1) := by decide +kernel
theorem dX5_bothOf_56 : decode cX5_bothOf 56 = .ok (.getfield 20, 3) := by decide +kernel
theorem dX5_bothOf_59 : decode cX5_bothOf 59 = .ok (.iload_n 1, 1) := by decide +kernel
theorem dX5_bothOf_60 : decode cX5_bothOf 60 = .ok (.iaload, 1) := by decide +kernel
theorem dX5_bothOf_61 : decode cX5_bothOf 61 = .ok (.iadd, 1) := by decide +kernel
theorem dX5_bothOf_62 : decode cX5_bothOf 62 = .ok (.sipush 128, 3) := by decide +kernel
theorem dX5_bothOf_65 : decode cX5_bothOf 65 = .ok (.irem, 1) := by decide +kernel
theorem dX5_bothOf_66 : decode cX5_bothOf 66 = .ok (.goto 4, 3) := by decide +kernel
theorem dX5_bothOf_69 : decode cX5_bothOf 69 = .ok (.iload_n 3, 1) := by decide +kernel
theorem dX5_bothOf_70 : decode cX5_bothOf 70 = .ok (.ireturn, 1) := by decide +kernel
theorem dX5_both_0 : decode cX5_both 0 = .ok (.aload_n 0, 1) := by decide +kernel
theorem dX5_both_1 : decode cX5_both 1 = .ok (.iconst 0, 1) := by decide +kernel
theorem dX5_both_2 : decode cX5_both 2 = .ok (.putfield 45, 3) := by decide +kernel
theorem dX5_both_5 : decode cX5_both 5 = .ok (.iload_n 1, 1) := by decide +kernel
theorem dX5_both_6 : decode cX5_both 6 = .ok (.invokestatic 100, 3) := by decide +kernel
theorem dX5_both_9 : decode cX5_both 9 = .ok (.ifCond .ne 5, 3) := by decide +kernel
theorem dX5_both_12 : decode cX5_both 12 = .ok (.iconst (-1), 1) := by decide +kernel
theorem dX5_both_13 : decode cX5_both 13 = .ok (.ireturn, 1) := by decide +kernel
theorem dX5_both_14 : decode cX5_both 14 = .ok (.aload_n 0, 1) := by decide +kernel
theorem dX5_both_15 : decode cX5_both 15 = .ok (.iload_n 2, 1) := by decide +kernel
theorem dX5_both_16 : decode cX5_both 16 = .ok (.invokevirtual 182, 3) := by decide +kernel
theorem dX5_both_19 : decode cX5_both 19 = .ok (.ifCond .ne 8, 3) := by decide +kernel
theorem dX5_both_22 : decode cX5_both 22 = .ok (.bipush (-2), 2) := by decide +kernel
theorem dX5_both_24 : decode cX5_both 24 = .ok (.goto 24, 3) := by decide +kernel
theorem dX5_both_27 : decode cX5_both 27 = .ok (.aload_n 0, 1) := by decide +kernel
theorem dX5_both_28 : decode cX5_both 28 = .ok (.getfield 17, 3) := by decide +kernel
theorem dX5_both_31 : decode cX5_both 31 = .ok (.iload_n 1, 1) := by decide +kernel
theorem dX5_both_32 : decode cX5_both 32 = .ok (.iaload, 1) := by decide +kernel
theorem dX5_both_33 : decode cX5_both 33 = .ok (.iconst 3, 1) := by decide +kernel
theorem dX5_both_34 : decode cX5_both 34 = .ok (.if_icmp .ne 8, 3) := by decide +kernel
theorem dX5_both_37 : decode cX5_both 37 = .ok (.bipush (-9), 2) := by decide +kernel
theorem dX5_both_39 : decode cX5_both 39 = .ok (.goto 9, 3) := by decide +kernel
theorem dX5_both_42 : decode cX5_both 42 = .ok (.aload_n 0, 1) := by decide +kernel
theorem dX5_both_43 : decode cX5_both 43 = .ok (.iload_n 1, 1) := by decide +kernel
theorem dX5_both_44 : decode cX5_both 44 = .ok (.iload_n 2, 1) := by decide +kernel
theorem dX5_both_45 : decode cX5_both 45 = .ok (.invokevirtual 185, 3) := by decide +kernel
theorem dX5_both_48 : decode cX5_both 48 = .ok (.ireturn, 1) := by decide +kernel
theorem dX5_pair_0 : decode cX5_pair 0 = .ok (.aload_n 0, 1) := by decide +kernel
theorem dX5_pair_1 : decode cX5_pair 1 = .ok (.iconst 0, 1) := by decide +kernel
theorem dX5_pair_2 : decode cX5_pair 2 = .ok (.putfield 45, 3) := by decide +kernel
theorem dX5_pair_5 : decode cX5_pair 5 = .ok (.iload_n 1, 1) := by decide +kernel
theorem dX5_pair_6 : decode cX5_pair 6 = .ok (.invokestatic 100, 3) := by decide +kernel
theorem dX5_pair_9 : decode cX5_pair 9 = .ok (.ifCond .eq 19, 3) := by decide +kernel
theorem dX5_pair_12 : decode cX5_pair 12 = .ok (.iload_n 2, 1) := by decide +kernel
theorem dX5_pair_13 : decode cX5_pair 13 = .ok (.invokestatic 100, 3) := by decide +kernel
theorem dX5_pair_16 : decode cX5_pair 16 = .ok (.ifCond .eq 12, 3) := by decide +kernel
theorem dX5_pair_19 : decode cX5_pair 19 = .ok (.aload_n 0, 1) := by decide +kernel
theorem dX5_pair_20 : decode cX5_pair 20 = .ok (.iload 4, 2) := by decide +kernel
theorem dX5_pair_22 : decode cX5_pair 22 = .ok (.invokevirtual 93, 3) := by decide +kernel
theorem dX5_pair_25 : decode cX5_pair 25 = .ok (.ifCond .ne 5, 3) := by decide +kernel
theorem dX5_pair_28 : decode cX5_pair 28 = .ok (.iconst (-1), 1) := by decide +kernel
theorem dX5_pair_29 : decode cX5_pair 29 = .ok (.ireturn, 1) := by decide +kernel
theorem dX5_pair_30 : decode cX5_pair 30 = .ok (.iload_n 1, 1) := by decide +kernel
theorem dX5_pair_31 : decode cX5_pair 31 = .ok (.iload_n 2, 1) := by decide +kernel
theorem dX5_pair_32 : decode cX5_pair 32 = .ok (.if_icmp .ne 6, 3) := by decide +kernel
theorem dX5_pair_35 : decode cX5_pair 35 = .ok (.bipush (-3), 2) := by decide +kernel
theorem dX5_pair_37 : decode cX5_pair 37 = .ok (.ireturn, 1) := by decide +kernel
theorem dX5_pair_38 : decode cX5_pair 38 = .ok (.aload_n 0, 1) := by decide +kernel
theorem dX5_pair_39 : decode cX5_pair 39 = .ok (.iload_n 3, 1) := by decide +kernel
theorem dX5_pair_40 : decode cX5_pair 40 = .ok (.invokevirtual 182, 3) := by decide +kernel
theorem dX5_pair_43 : decode cX5_pair 43 = .ok (.ifCond .ne 6, 3) := by decide +kernel
theorem dX5_pair_46 : decode cX5_pair 46 = .ok (.bipush (-2), 2) := by decide +kernel
theorem dX5_pair_48 : decode cX5_pair 48 = .ok (.ireturn, 1) := by decide +kernel
theorem dX5_pair_49 : decode cX5_pair 49 = .ok (.aload_n 0, 1) := by decide +kernel
theorem dX5_pair_50 : decode cX5_pair 50 = .ok (.getfield 17, 3) := by decide +kernel
theorem dX5_pair_53 : decode cX5_pair 53 = .ok (.iload_n 1, 1) := by decide +kernel
theorem dX5_pair_54 : decode cX5_pair 54 = .ok (.iaload, 1) := by decide +kernel
theorem dX5_pair_55 : decode cX5_pair 55 = .ok (.iconst 3, 1) := by decide +kernel
theorem dX5_pair_56 : decode cX5_pair 56 = .ok (.if_icmp .eq 13, 3) := by decide +kernel
theorem dX5_pair_59 : decode cX5_pair 59 = .ok (.aload_n 0, 1) := by decide +kernel
theorem dX5_pair_60 : decode cX5_pair 60 = .ok (.getfield 17, 3) := by decide +kernel
theorem dX5_pair_63 : decode cX5_pair 63 = .ok (.iload_n 2, 1) := by decide +kernel
theorem dX5_pair_64 : decode cX5_pair 64 = .ok (.iaload, 1) := by decide +kernel
theorem dX5_pair_65 : decode cX5_pair 65 = .ok (.iconst 3, 1) := by decide +kernel
theorem dX5_pair_66 : decode cX5_pair 66 = .ok (.if_icmp .ne 8, 3) := by decide +kernel
theorem dX5_pair_69 : decode cX5_pair 69 = .ok (.bipush (-9), 2) := by decide +kernel
theorem dX5_pair_71 : decode cX5_pair 71 = .ok (.goto 21, 3) := by decide +kernel
theorem dX5_pair_74 : decode cX5_pair 74 = .ok (.aload_n 0, 1) := by decide +kernel
theorem dX5_pair_75 : decode cX5_pair 75 = .ok (.iload_n 1, 1) := by decide +kernel
theorem dX5_pair_76 : decode cX5_pair 76 = .ok (.iload_n 3, 1) := by decide +kernel
theorem dX5_pair_77 : decode cX5_pair 77 = .ok (.invokevirtual 185, 3) := by decide +kernel
theorem dX5_pair_80 : decode cX5_pair 80 = .ok (.aload_n 0, 1) := by decide +kernel
theorem dX5_pair_81 : decode cX5_pair 81 = .ok (.iload_n 2, 1) := by decide +kernel
theorem dX5_pair_82 : decode cX5_pair 82 = .ok (.iload_n 3, 1) := by decide +kernel
theorem dX5_pair_83 : decode cX5_pair 83 = .ok (.iconst 1, 1) := by decide +kernel
theorem dX5_pair_84 : decode cX5_pair 84 = .ok (.iload 4, 2) := by decide +kernel
theorem dX5_pair_86 : decode cX5_pair 86 = .ok (.ishl, 1) := by decide +kernel
theorem dX5_pair_87 : decode cX5_pair 87 = .ok (.ixor, 1) := by decide +kernel
theorem dX5_pair_88 : decode cX5_pair 88 = .ok (.invokevirtual 185, 3) := by decide +kernel
theorem dX5_pair_91 : decode cX5_pair 91 = .ok (.ixor, 1) := by decide +kernel
theorem dX5_pair_92 : decode cX5_pair 92 = .ok (.ireturn, 1) := by decide +kernel
theorem dX5_total_0 : decode cX5_total 0 = .ok (.aload_n 0, 1) := by decide +kernel
theorem dX5_total_1 : decode cX5_total 1 = .ok (.iconst 0, 1) := by decide +kernel
theorem dX5_total_2 : decode cX5_total 2 = .ok (.putfield 45, 3) := by decide +kernel
theorem dX5_total_5 : decode cX5_total 5 = .ok (.iconst 0, 1) := by decide +kernel
theorem dX5_total_6 : decode cX5_total 6 = .ok (.istore_n 2, 1) := by decide +kernel
theorem dX5_total_7 : decode cX5_total 7 = .ok (.iconst 1, 1) := by decide +kernel
theorem dX5_total_8 : decode cX5_total 8 = .ok (.istore_n 3, 1) := by decide +kernel
theorem dX5_total_9 : decode cX5_total 9 = .ok (.iload_n 3, 1) := by decide +kernel
theorem dX5_total_10 : decode cX5_total 10 = .ok (.bipush 9, 2) := by decide +kernel
theorem dX5_total_12 : decode cX5_total 12 = .ok (.if_icmp .gt 26, 3) := by decide +kernel
theorem dX5_total_15 : decode cX5_total 15 = .ok (.iload_n 2, 1) := by decide +kernel
theorem dX5_total_16 : decode cX5_total 16 = .ok (.aload_n 0, 1) := by decide +kernel
theorem dX5_total_17 : decode cX5_total 17 = .ok (.getfield 17, 3) := by decide +kernel
theorem dX5_total_20 : decode cX5_total 20 = .ok (.iload_n 3, 1) := by decide +kernel
theorem dX5_total_21 : decode cX5_total 21 = .ok (.iaload, 1) := by decide +kernel
theorem dX5_total_22 : decode cX5_total 22 = .ok (.ifCond .ne 7, 3) := by decide +kernel
theorem dX5_total_25 : decode cX5_total 25 = .ok (.iconst 1, 1) := by decide +kernel
theorem dX5_total_26 : decode cX5_total 26 = .ok (.goto 4, 3) := by decide +kernel
theorem dX5_total_29 : decode cX5_total 29 = .ok (.iconst 0, 1) := by decide +kernel
theorem dX5_total_30 : decode cX5_total 30 = .ok (.iadd, 1) := by decide +kernel
theorem dX5_total_31 : decode cX5_total 31 = .ok (.istore_n 2, 1) := by decide +kernel
theorem dX5_total_32 : decode cX5_total 32 = .ok (.iinc 3 1, 3) := by decide +kernel
theorem dX5_total_35 : decode cX5_total 35 = .ok (.goto (-26), 3) := by decide +kernel
theorem dX5_total_38 : decode cX5_total 38 = .ok (.iload_n 1, 1) := by decide +kernel
theorem dX5_total_39 : decode cX5_total 39 = .ok (.tableswitch 93 0 6 #[41, 46, 51, 56, 61, 63, 76], 41) := by decide +kernel
theorem dX5_total_80 : decode cX5_total 80 = .ok (.aload_n 0, 1) := by decide +kernel
theorem dX5_total_81 : decode cX5_total 81 = .ok (.invokevirtual 57, 3) := by decide +kernel
theorem dX5_total_84 : decode cX5_total 84 = .ok (.ireturn, 1) := by decide +kernel
theorem dX5_total_85 : decode cX5_total 85 = .ok (.aload_n 0, 1) := by decide +kernel
theorem dX5_total_86 : decode cX5_total 86 = .ok (.getfield 144, 3) := by decide +kernel
theorem dX5_total_89 : decode cX5_total 89 = .ok (.ireturn, 1) := by decide +kernel
theorem dX5_total_90 : decode cX5_total 90 = .ok (.aload_n 0, 1) := by decide +kernel
theorem dX5_total_91 : decode cX5_total 91 = .ok (.getfield 147, 3) := by decide +kernel
theorem dX5_total_94 : decode cX5_total 94 = .ok (.ireturn, 1) := by decide +kernel
theorem dX5_total_95 : decode cX5_total 95 = .ok (.aload_n 0, 1) := by decide +kernel
theorem dX5_total_96 : decode cX5_total 96 = .ok (.getfield 115, 3) := by decide +kernel
theorem dX5_total_99 : decode cX5_total 99 = .ok (.ireturn, 1) := by decide +kernel
theorem dX5_total_100 : decode cX5_total 100 = .ok (.iload_n 2, 1) := by decide +kernel
theorem dX5_total_101 : decode cX5_total 101 = .ok (.ireturn, 1) := by decide +kernel
theorem dX5_total_102 : decode cX5_total 102 = .ok (.aload_n 0, 1) := by decide +kernel
theorem dX5_total_103 : decode cX5_total 103 = .ok (.getfield 90, 3) := by decide +kernel
theorem dX5_total_106 : decode cX5_total 106 = .ok (.ifCond .eq 7, 3) := by decide +kernel
theorem dX5_total_109 : decode cX5_total 109 = .ok (.iconst 1, 1) := by decide +kernel
theorem dX5_total_110 : decode cX5_total 110 = .ok (.goto 4, 3) := by decide +kernel
theorem dX5_total_113 : decode cX5_total 113 = .ok (.iconst 0, 1) := by decide +kernel
theorem dX5_total_114 : decode cX5_total 114 = .ok (.ireturn, 1) := by decide +kernel
theorem dX5_total_115 : decode cX5_total 115 = .ok (.aload_n 0, 1) := by decide +kernel
theorem dX5_total_116 : decode cX5_total 116 = .ok (.getfield 90, 3) := by decide +kernel
theorem dX5_total_119 : decode cX5_total 119 = .ok (.ifCond .eq 10, 3) := by decide +kernel
theorem dX5_total_122 : decode cX5_total 122 = .ok (.aload_n 0, 1) := by decide +kernel
theorem dX5_total_123 : decode cX5_total 123 = .ok (.invokevirtual 81, 3) := by decide +kernel
theorem dX5_total_126 : decode cX5_total 126 = .ok (.goto 5, 3) := by decide +kernel
theorem dX5_total_129 : decode cX5_total 129 = .ok (.bipush (-9), 2) := by decide +kernel
theorem dX5_total_131 : decode cX5_total 131 = .ok (.ireturn, 1) := by decide +kernel
theorem dX5_total_132 : decode cX5_total 132 = .ok (.bipush (-2), 2) := by decide +kernel
theorem dX5_total_134 : decode cX5_total 134 = .ok (.ireturn, 1) := by decide +kernel
theorem dJ6_bitCount_0f7a4_0 : decode cJ6_bitCount_0f7a4 0 = .ok (.iload_n 0, 1) := by decide +kernel
theorem dJ6_bitCount_0f7a4_1 : decode cJ6_bitCount_0f7a4 1 = .ok (.iload_n 0, 1) := by decide +kernel
theorem dJ6_bitCount_0f7a4_2 : decode cJ6_bitCount_0f7a4 2 = .ok (.iconst 1, 1) := by decide +kernel
theorem dJ6_bitCount_0f7a4_3 : decode cJ6_bitCount_0f7a4 3 = .ok (.iushr, 1) := by decide +kernel
theorem dJ6_bitCount_0f7a4_4 : decode cJ6_bitCount_0f7a4 4 = .ok (.ldc_w 265, 3) := by decide +kernel
theorem dJ6_bitCount_0f7a4_7 : decode cJ6_bitCount_0f7a4 7 = .ok (.iand, 1) := by decide +kernel
theorem dJ6_bitCount_0f7a4_8 : decode cJ6_bitCount_0f7a4 8 = .ok (.isub, 1) := by decide +kernel
theorem dJ6_bitCount_0f7a4_9 : decode cJ6_bitCount_0f7a4 9 = .ok (.istore_n 0, 1) := by decide +kernel
theorem dJ6_bitCount_0f7a4_10 : decode cJ6_bitCount_0f7a4 10 = .ok (.iload_n 0, 1) := by decide +kernel
theorem dJ6_bitCount_0f7a4_11 : decode cJ6_bitCount_0f7a4 11 = .ok (.ldc_w 266, 3) := by decide +kernel
theorem dJ6_bitCount_0f7a4_14 : decode cJ6_bitCount_0f7a4 14 = .ok (.iand, 1) := by decide +kernel
theorem dJ6_bitCount_0f7a4_15 : decode cJ6_bitCount_0f7a4 15 = .ok (.iload_n 0, 1) := by decide +kernel
theorem dJ6_bitCount_0f7a4_16 : decode cJ6_bitCount_0f7a4 16 = .ok (.iconst 2, 1) := by decide +kernel
theorem dJ6_bitCount_0f7a4_17 : decode cJ6_bitCount_0f7a4 17 = .ok (.iushr, 1) := by decide +kernel
theorem dJ6_bitCount_0f7a4_18 : decode cJ6_bitCount_0f7a4 18 = .ok (.ldc_w 266, 3) := by decide +kernel
theorem dJ6_bitCount_0f7a4_21 : decode cJ6_bitCount_0f7a4 21 = .ok (.iand, 1) := by decide +kernel
theorem dJ6_bitCount_0f7a4_22 : decode cJ6_bitCount_0f7a4 22 = .ok (.iadd, 1) := by decide +kernel
theorem dJ6_bitCount_0f7a4_23 : decode cJ6_bitCount_0f7a4 23 = .ok (.istore_n 0, 1) := by decide +kernel
theorem dJ6_bitCount_0f7a4_24 : decode cJ6_bitCount_0f7a4 24 = .ok (.iload_n 0, 1) := by decide +kernel
theorem dJ6_bitCount_0f7a4_25 : decode cJ6_bitCount_0f7a4 25 = .ok (.iload_n 0, 1) := by decide +kernel
theorem dJ6_bitCount_0f7a4_26 : decode cJ6_bitCount_0f7a4 26 = .ok (.iconst 4, 1) := by decide +kernel
theorem dJ6_bitCount_0f7a4_27 : decode cJ6_bitCount_0f7a4 27 = .ok (.iushr, 1) := by decide +kernel
theorem dJ6_bitCount_0f7a4_28 : decode cJ6_bitCount_0f7a4 28 = .ok (.iadd, 1) := by decide +kernel
theorem dJ6_bitCount_0f7a4_29 : decode cJ6_bitCount_0f7a4 29 = .ok (.ldc_w 267, 3) := by decide +kernel
theorem dJ6_bitCount_0f7a4_32 : decode cJ6_bitCount_0f7a4 32 = .ok (.iand, 1) := by decide +kernel
theorem dJ6_bitCount_0f7a4_33 : decode cJ6_bitCount_0f7a4 33 = .ok (.istore_n 0, 1) := by decide +kernel
theorem dJ6_bitCount_0f7a4_34 : decode cJ6_bitCount_0f7a4 34 = .ok (.iload_n 0, 1) := by decide +kernel
theorem dJ6_bitCount_0f7a4_35 : decode cJ6_bitCount_0f7a4 35 = .ok (.iload_n 0, 1) := by decide +kernel
theorem dJ6_bitCount_0f7a4_36 : decode cJ6_bitCount_0f7a4 36 = .ok (.bipush 8, 2) := by decide +kernel
theorem dJ6_bitCount_0f7a4_38 : decode cJ6_bitCount_0f7a4 38 = .ok (.iushr, 1) := by decide +kernel
theorem dJ6_bitCount_0f7a4_39 : decode cJ6_bitCount_0f7a4 39 = .ok (.iadd, 1) := by decide +kernel
theorem dJ6_bitCount_0f7a4_40 : decode cJ6_bitCount_0f7a4 40 = .ok (.istore_n 0, 1) := by decide +kernel
theorem dJ6_bitCount_0f7a4_41 : decode cJ6_bitCount_0f7a4 41 = .ok (.iload_n 0, 1) := by decide +kernel
theorem dJ6_bitCount_0f7a4_42 : decode cJ6_bitCount_0f7a4 42 = .ok (.iload_n 0, 1) := by decide +kernel
theorem dJ6_bitCount_0f7a4_43 : decode cJ6_bitCount_0f7a4 43 = .ok (.bipush 16, 2) := by decide +kernel
theorem dJ6_bitCount_0f7a4_45 : decode cJ6_bitCount_0f7a4 45 = .ok (.iushr, 1) := by decide +kernel
theorem dJ6_bitCount_0f7a4_46 : decode cJ6_bitCount_0f7a4 46 = .ok (.iadd, 1) := by decide +kernel
theorem dJ6_bitCount_0f7a4_47 : decode cJ6_bitCount_0f7a4 47 = .ok (.istore_n 0, 1) := by decide +kernel
theorem dJ6_bitCount_0f7a4_48 : decode cJ6_bitCount_0f7a4 48 = .ok (.iload_n 0, 1) := by decide +kernel
theorem dJ6_bitCount_0f7a4_49 : decode cJ6_bitCount_0f7a4 49 = .ok (.bipush 63, 2) := by decide +kernel
theorem dJ6_bitCount_0f7a4_51 : decode cJ6_bitCount_0f7a4 51 = .ok (.iand, 1) := by decide +kernel
theorem dJ6_bitCount_0f7a4_52 : decode cJ6_bitCount_0f7a4 52 = .ok (.ireturn, 1) := by decide +kernel
theorem dL_law_0 : decode cL_law 0 = .ok (.new 7, 3) := by decide +kernel
theorem dL_law_3 : decode cL_law 3 = .ok (.dup, 1) := by decide +kernel
theorem dL_law_4 : decode cL_law 4 = .ok (.invokespecial 9, 3) := by decide +kernel
theorem dL_law_7 : decode cL_law 7 = .ok (.astore_n 1, 1) := by decide +kernel
theorem dL_law_8 : decode cL_law 8 = .ok (.new 10, 3) := by decide +kernel
theorem dL_law_11 : decode cL_law 11 = .ok (.dup, 1) := by decide +kernel
theorem dL_law_12 : decode cL_law 12 = .ok (.invokespecial 12, 3) := by decide +kernel
theorem dL_law_15 : decode cL_law 15 = .ok (.astore_n 2, 1) := by decide +kernel
theorem dL_law_16 : decode cL_law 16 = .ok (.iconst 0, 1) := by decide +kernel
theorem dL_law_17 : decode cL_law 17 = .ok (.istore_n 3, 1) := by decide +kernel
theorem dL_law_18 : decode cL_law 18 = .ok (.iload_n 3, 1) := by decide +kernel
theorem dL_law_19 : decode cL_law 19 = .ok (.aload_n 0, 1) := by decide +kernel
theorem dL_law_20 : decode cL_law 20 = .ok (.arraylength, 1) := by decide +kernel
theorem dL_law_21 : decode cL_law 21 = .ok (.iconst 5, 1) := by decide +kernel
theorem dL_law_22 : decode cL_law 22 = .ok (.isub, 1) := by decide +kernel
theorem dL_law_23 : decode cL_law 23 = .ok (.if_icmp .gt 833, 3) := by decide +kernel
theorem dL_law_26 : decode cL_law 26 = .ok (.aload_n 0, 1) := by decide +kernel
theorem dL_law_27 : decode cL_law 27 = .ok (.iload_n 3, 1) := by decide +kernel
theorem dL_law_28 : decode cL_law 28 = .ok (.iaload, 1) := by decide +kernel
theorem dL_law_29 : decode cL_law 29 = .ok (.bipush 31, 2) := by decide +kernel
theorem dL_law_31 : decode cL_law 31 = .ok (.iand, 1) := by decide +kernel
theorem dL_law_32 : decode cL_law 32 = .ok (.tableswitch 818 0 22 #[108, 131, 164, 187, 230, 273, 306, 349, 392, 415, 448, 471, 514, 537, 560, 583, 617, 640, 663, 676, 709, 742, 795], 108) := by decide +kernel
theorem dL_law_140 : decode cL_law 140 = .ok (.aload_n 1, 1) := by decide +kernel
theorem dL_law_141 : decode cL_law 141 = .ok (.aload_n 0, 1) := by decide +kernel
theorem dL_law_142 : decode cL_law 142 = .ok (.iload_n 3, 1) := by decide +kernel
theorem dL_law_143 : decode cL_law 143 = .ok (.iconst 1, 1) := by decide +kernel
theorem dL_law_144 : decode cL_law 144 = .ok (.iadd, 1) := by decide +kernel
theorem dL_law_145 : decode cL_law 145 = .ok (.iaload, 1) := by decide +kernel
theorem dL_law_146 : decode cL_law 146 = .ok (.invokevirtual 13, 3) := by decide +kernel
theorem dL_law_149 : decode cL_law 149 = .ok (.aload_n 2, 1) := by decide +kernel
theorem dL_law_150 : decode cL_law 150 = .ok (.aload_n 0, 1) := by decide +kernel
theorem dL_law_151 : decode cL_law 151 = .ok (.iload_n 3, 1) := by decide +kernel
theorem dL_law_152 : decode cL_law 152 = .ok (.iconst 1, 1) := by decide +kernel
theorem dL_law_153 : decode cL_law 153 = .ok (.iadd, 1) := by decide +kernel
theorem dL_law_154 : decode cL_law 154 = .ok (.iaload, 1) := by decide +kernel
theorem dL_law_155 : decode cL_law 155 = .ok (.invokevirtual 17, 3) := by decide +kernel
theorem dL_law_158 : decode cL_law 158 = .ok (.if_icmp .eq 692, 3) := by decide +kernel
theorem dL_law_161 : decode cL_law 161 = .ok (.iconst 0, 1) := by decide +kernel
theorem dL_law_162 : decode cL_law 162 = .ok (.ireturn, 1) := by decide +kernel
theorem dL_law_163 : decode cL_law 163 = .ok (.aload_n 1, 1) := by decide +kernel
theorem dL_law_164 : decode cL_law 164 = .ok (.aload_n 0, 1) := by decide +kernel
theorem dL_law_165 : decode cL_law 165 = .ok (.iload_n 3, 1) := by decide +kernel
theorem dL_law_166 : decode cL_law 166 = .ok (.iconst 1, 1) := by decide +kernel
theorem dL_law_167 : decode cL_law 167 = .ok (.iadd, 1) := by decide +kernel
theorem dL_law_168 : decode cL_law 168 = .ok (.iaload, 1) := by decide +kernel
theorem dL_law_169 : decode cL_law 169 = .ok (.aload_n 0, 1) := by decide +kernel
theorem dL_law_170 : decode cL_law 170 = .ok (.iload_n 3, 1) := by decide +kernel
theorem dL_law_171 : decode cL_law 171 = .ok (.iconst 2, 1) := by decide +kernel
theorem dL_law_172 : decode cL_law 172 = .ok (.iadd, 1) := by decide +kernel
theorem dL_law_173 : decode cL_law 173 = .ok (.iaload, 1) := by decide +kernel
theorem dL_law_174 : decode cL_law 174 = .ok (.invokevirtual 18, 3) := by decide +kernel
theorem dL_law_177 : decode cL_law 177 = .ok (.aload_n 2, 1) := by decide +kernel
theorem dL_law_178 : decode cL_law 178 = .ok (.aload_n 0, 1) := by decide +kernel
theorem dL_law_179 : decode cL_law 179 = .ok (.iload_n 3, 1) := by decide +kernel
theorem dL_law_180 : decode cL_law 180 = .ok (.iconst 1, 1) := by decide +kernel
theorem dL_law_181 : decode cL_law 181 = .ok (.iadd, 1) := by decide +kernel
theorem dL_law_182 : decode cL_law 182 = .ok (.iaload, 1) := by decide +kernel
theorem dL_law_183 : decode cL_law 183 = .ok (.aload_n 0, 1) := by decide +kernel
theorem dL_law_184 : decode cL_law 184 = .ok (.iload_n 3, 1) := by decide +kernel
theorem dL_law_185 : decode cL_law 185 = .ok (.iconst 2, 1) := by decide +kernel
theorem dL_law_186 : decode cL_law 186 = .ok (.iadd, 1) := by decide +kernel
theorem dL_law_187 : decode cL_law 187 = .ok (.iaload, 1) := by decide +kernel
theorem dL_law_188 : decode cL_law 188 = .ok (.invokevirtual 22, 3) := by decide +kernel
theorem dL_law_191 : decode cL_law 191 = .ok (.if_icmp .eq 659, 3) := by decide +kernel
theorem dL_law_194 : decode cL_law 194 = .ok (.iconst 0, 1) := by decide +kernel
theorem dL_law_195 : decode cL_law 195 = .ok (.ireturn, 1) := by decide +kernel
theorem dL_law_196 : decode cL_law 196 = .ok (.aload_n 1, 1) := by decide +kernel
theorem dL_law_197 : decode cL_law 197 = .ok (.aload_n 0, 1) := by decide +kernel
theorem dL_law_198 : decode cL_law 198 = .ok (.iload_n 3, 1) := by decide +kernel
theorem dL_law_199 : decode cL_law 199 = .ok (.iconst 1, 1) := by decide +kernel
theorem dL_law_200 : decode cL_law 200 = .ok (.iadd, 1) := by decide +kernel
theorem dL_law_201 : decode cL_law 201 = .ok (.iaload, 1) := by decide +kernel
theorem dL_law_202 : decode cL_law 202 = .ok (.invokevirtual 23, 3) := by decide +kernel
theorem dL_law_205 : decode cL_law 205 = .ok (.aload_n 2, 1) := by decide +kernel
theorem dL_law_206 : decode cL_law 206 = .ok (.aload_n 0, 1) := by decide +kernel
theorem dL_law_207 : decode cL_law 207 = .ok (.iload_n 3, 1) := by decide +kernel
theorem dL_law_208 : decode cL_law 208 = .ok (.iconst 1, 1) := by decide +kernel
theorem dL_law_209 : decode cL_law 209 = .ok (.iadd, 1) := by decide +kernel
theorem dL_law_210 : decode cL_law 210 = .ok (.iaload, 1) := by decide +kernel
theorem dL_law_211 : decode cL_law 211 = .ok (.invokevirtual 26, 3) := by decide +kernel
theorem dL_law_214 : decode cL_law 214 = .ok (.if_icmp .eq 636, 3) := by decide +kernel
theorem dL_law_217 : decode cL_law 217 = .ok (.iconst 0, 1) := by decide +kernel
theorem dL_law_218 : decode cL_law 218 = .ok (.ireturn, 1) := by decide +kernel
theorem dL_law_219 : decode cL_law 219 = .ok (.aload_n 1, 1) := by decide +kernel
theorem dL_law_220 : decode cL_law 220 = .ok (.aload_n 0, 1) := by decide +kernel
theorem dL_law_221 : decode cL_law 221 = .ok (.iload_n 3, 1) := by decide +kernel
theorem dL_law_222 : decode cL_law 222 = .ok (.iconst 1, 1) := by decide +kernel
theorem dL_law_223 : decode cL_law 223 = .ok (.iadd, 1) := by decide +kernel
theorem dL_law_224 : decode cL_law 224 = .ok (.iaload, 1) := by decide +kernel
theorem dL_law_225 : decode cL_law 225 = .ok (.aload_n 0, 1) := by decide +kernel
theorem dL_law_226 : decode cL_law 226 = .ok (.iload_n 3, 1) := by decide +kernel
theorem dL_law_227 : decode cL_law 227 = .ok (.iconst 2, 1) := by decide +kernel
theorem dL_law_228 : decode cL_law 228 = .ok (.iadd, 1) := by decide +kernel
theorem dL_law_229 : decode cL_law 229 = .ok (.iaload, 1) := by decide +kernel
theorem dL_law_230 : decode cL_law 230 = .ok (.aload_n 0, 1) := by decide +kernel
theorem dL_law_231 : decode cL_law 231 = .ok (.iload_n 3, 1) := by decide +kernel
theorem dL_law_232 : decode cL_law 232 = .ok (.iconst 3, 1) := by decide +kernel
theorem dL_law_233 : decode cL_law 233 = .ok (.iadd, 1) := by decide +kernel
theorem dL_law_234 : decode cL_law 234 = .ok (.iaload, 1) := by decide +kernel
theorem dL_law_235 : decode cL_law 235 = .ok (.invokevirtual 27, 3) := by decide +kernel
theorem dL_law_238 : decode cL_law 238 = .ok (.aload_n 2, 1) := by decide +kernel
theorem dL_law_239 : decode cL_law 239 = .ok (.aload_n 0, 1) := by decide +kernel
theorem dL_law_240 : decode cL_law 240 = .ok (.iload_n 3, 1) := by decide +kernel
theorem dL_law_241 : decode cL_law 241 = .ok (.iconst 1, 1) := by decide +kernel
theorem dL_law_242 : decode cL_law 242 = .ok (.iadd, 1) := by decide +kernel
theorem dL_law_243 : decode cL_law 243 = .ok (.iaload, 1) := by decide +kernel
theorem dL_law_244 : decode cL_law 244 = .ok (.aload_n 0, 1) := by decide +kernel
theorem dL_law_245 : decode cL_law 245 = .ok (.iload_n 3, 1) := by decide +kernel
theorem dL_law_246 : decode cL_law 246 = .ok (.iconst 2, 1) := by decide +kernel
theorem dL_law_247 : decode cL_law 247 = .ok (.iadd, 1) := by decide +kernel
theorem dL_law_248 : decode cL_law 248 = .ok (.iaload, 1) := by decide +kernel
theorem dL_law_249 : decode cL_law 249 = .ok (.aload_n 0, 1) := by decide +kernel
theorem dL_law_250 : decode cL_law 250 = .ok (.iload_n 3, 1) := by decide +kernel
theorem dL_law_251 : decode cL_law 251 = .ok (.iconst 3, 1) := by decide +kernel
theorem dL_law_252 : decode cL_law 252 = .ok (.iadd, 1) := by decide +kernel
theorem dL_law_253 : decode cL_law 253 = .ok (.iaload, 1) := by decide +kernel
theorem dL_law_254 : decode cL_law 254 = .ok (.invokevirtual 31, 3) := by decide +kernel
theorem dL_law_257 : decode cL_law 257 = .ok (.if_icmp .eq 593, 3) := by decide +kernel
theorem dL_law_260 : decode cL_law 260 = .ok (.iconst 0, 1) := by decide +kernel
theorem dL_law_261 : decode cL_law 261 = .ok (.ireturn, 1) := by decide +kernel
theorem dL_law_262 : decode cL_law 262 = .ok (.aload_n 1, 1) := by decide +kernel
theorem dL_law_263 : decode cL_law 263 = .ok (.aload_n 0, 1) := by decide +kernel
theorem dL_law_264 : decode cL_law 264 = .ok (.iload_n 3, 1) := by decide +kernel
theorem dL_law_265 : decode cL_law 265 = .ok (.iconst 1, 1) := by decide +kernel
theorem dL_law_266 : decode cL_law 266 = .ok (.iadd, 1) := by decide +kernel
theorem dL_law_267 : decode cL_law 267 = .ok (.iaload, 1) := by decide +kernel
theorem dL_law_268 : decode cL_law 268 = .ok (.aload_n 0, 1) := by decide +kernel
theorem dL_law_269 : decode cL_law 269 = .ok (.iload_n 3, 1) := by decide +kernel
theorem dL_law_270 : decode cL_law 270 = .ok (.iconst 2, 1) := by decide +kernel
theorem dL_law_271 : decode cL_law 271 = .ok (.iadd, 1) := by decide +kernel
theorem dL_law_272 : decode cL_law 272 = .ok (.iaload, 1) := by decide +kernel
theorem dL_law_273 : decode cL_law 273 = .ok (.aload_n 0, 1) := by decide +kernel
theorem dL_law_274 : decode cL_law 274 = .ok (.iload_n 3, 1) := by decide +kernel
theorem dL_law_275 : decode cL_law 275 = .ok (.iconst 3, 1) := by decide +kernel
theorem dL_law_276 : decode cL_law 276 = .ok (.iadd, 1) := by decide +kernel
theorem dL_law_277 : decode cL_law 277 = .ok (.iaload, 1) := by decide +kernel
theorem dL_law_278 : decode cL_law 278 = .ok (.invokevirtual 32, 3) := by decide +kernel
theorem dL_law_281 : decode cL_law 281 = .ok (.aload_n 2, 1) := by decide +kernel
theorem dL_law_282 : decode cL_law 282 = .ok (.aload_n 0, 1) := by decide +kernel
theorem dL_law_283 : decode cL_law 283 = .ok (.iload_n 3, 1) := by decide +kernel
theorem dL_law_284 : decode cL_law 284 = .ok (.iconst 1, 1) := by decide +kernel
theorem dL_law_285 : decode cL_law 285 = .ok (.iadd, 1) := by decide +kernel
theorem dL_law_286 : decode cL_law 286 = .ok (.iaload, 1) := by decide +kernel
theorem dL_law_287 : decode cL_law 287 = .ok (.aload_n 0, 1) := by decide +kernel
theorem dL_law_288 : decode cL_law 288 = .ok (.iload_n 3, 1) := by decide +kernel
theorem dL_law_289 : decode cL_law 289 = .ok (.iconst 2, 1) := by decide +kernel
theorem dL_law_290 : decode cL_law 290 = .ok (.iadd, 1) := by decide +kernel
theorem dL_law_291 : decode cL_law 291 = .ok (.iaload, 1) := by decide +kernel
theorem dL_law_292 : decode cL_law 292 = .ok (.aload_n 0, 1) := by decide +kernel
theorem dL_law_293 : decode cL_law 293 = .ok (.iload_n 3, 1) := by decide +kernel
theorem dL_law_294 : decode cL_law 294 = .ok (.iconst 3, 1) := by decide +kernel
theorem dL_law_295 : decode cL_law 295 = .ok (.iadd, 1) := by decide +kernel
theorem dL_law_296 : decode cL_law 296 = .ok (.iaload, 1) := by decide +kernel
theorem dL_law_297 : decode cL_law 297 = .ok (.invokevirtual 35, 3) := by decide +kernel
theorem dL_law_300 : decode cL_law 300 = .ok (.if_icmp .eq 550, 3) := by decide +kernel
theorem dL_law_303 : decode cL_law 303 = .ok (.iconst 0, 1) := by decide +kernel
theorem dL_law_304 : decode cL_law 304 = .ok (.ireturn, 1) := by decide +kernel
theorem dL_law_305 : decode cL_law 305 = .ok (.aload_n 1, 1) := by decide +kernel
theorem dL_law_306 : decode cL_law 306 = .ok (.aload_n 0, 1) := by decide +kernel
theorem dL_law_307 : decode cL_law 307 = .ok (.iload_n 3, 1) := by decide +kernel
theorem dL_law_308 : decode cL_law 308 = .ok (.iconst 1, 1) := by decide +kernel
theorem dL_law_309 : decode cL_law 309 = .ok (.iadd, 1) := by decide +kernel
theorem dL_law_310 : decode cL_law 310 = .ok (.iaload, 1) := by decide +kernel
theorem dL_law_311 : decode cL_law 311 = .ok (.aload_n 0, 1) := by decide +kernel
theorem dL_law_312 : decode cL_law 312 = .ok (.iload_n 3, 1) := by decide +kernel
theorem dL_law_313 : decode cL_law 313 = .ok (.iconst 2, 1) := by decide +kernel
theorem dL_law_314 : decode cL_law 314 = .ok (.iadd, 1) := by decide +kernel
theorem dL_law_315 : decode cL_law 315 = .ok (.iaload, 1) := by decide +kernel
theorem dL_law_316 : decode cL_law 316 = .ok (.invokevirtual 36, 3) := by decide +kernel
theorem dL_law_319 : decode cL_law 319 = .ok (.aload_n 2, 1) := by decide +kernel
theorem dL_law_320 : decode cL_law 320 = .ok (.aload_n 0, 1) := by decide +kernel
theorem dL_law_321 : decode cL_law 321 = .ok (.iload_n 3, 1) := by decide +kernel
theorem dL_law_322 : decode cL_law 322 = .ok (.iconst 1, 1) := by decide +kernel
theorem dL_law_323 : decode cL_law 323 = .ok (.iadd, 1) := by decide +kernel
theorem dL_law_324 : decode cL_law 324 = .ok (.iaload, 1) := by decide +kernel
theorem dL_law_325 : decode cL_law 325 = .ok (.aload_n 0, 1) := by decide +kernel
theorem dL_law_326 : decode cL_law 326 = .ok (.iload_n 3, 1) := by decide +kernel
theorem dL_law_327 : decode cL_law 327 = .ok (.iconst 2, 1) := by decide +kernel
theorem dL_law_328 : decode cL_law 328 = .ok (.iadd, 1) := by decide +kernel
theorem dL_law_329 : decode cL_law 329 = .ok (.iaload, 1) := by decide +kernel
theorem dL_law_330 : decode cL_law 330 = .ok (.invokevirtual 39, 3) := by decide +kernel
theorem dL_law_333 : decode cL_law 333 = .ok (.if_icmp .eq 517, 3) := by decide +kernel
theorem dL_law_336 : decode cL_law 336 = .ok (.iconst 0, 1) := by decide +kernel
theorem dL_law_337 : decode cL_law 337 = .ok (.ireturn, 1) := by decide +kernel
theorem dL_law_338 : decode cL_law 338 = .ok (.aload_n 1, 1) := by decide +kernel
theorem dL_law_339 : decode cL_law 339 = .ok (.aload_n 0, 1) := by decide +kernel
theorem dL_law_340 : decode cL_law 340 = .ok (.iload_n 3, 1) := by decide +kernel
theorem dL_law_341 : decode cL_law 341 = .ok (.iconst 1, 1) := by decide +kernel
theorem dL_law_342 : decode cL_law 342 = .ok (.iadd, 1) := by decide +kernel
theorem dL_law_343 : decode cL_law 343 = .ok (.iaload, 1) := by decide +kernel
theorem dL_law_344 : decode cL_law 344 = .ok (.aload_n 0, 1) := by decide +kernel
theorem dL_law_345 : decode cL_law 345 = .ok (.iload_n 3, 1) := by decide +kernel
theorem dL_law_346 : decode cL_law 346 = .ok (.iconst 2, 1) := by decide +kernel
theorem dL_law_347 : decode cL_law 347 = .ok (.iadd, 1) := by decide +kernel
theorem dL_law_348 : decode cL_law 348 = .ok (.iaload, 1) := by decide +kernel
theorem dL_law_349 : decode cL_law 349 = .ok (.aload_n 0, 1) := by decide +kernel
theorem dL_law_350 : decode cL_law 350 = .ok (.iload_n 3, 1) := by decide +kernel
theorem dL_law_351 : decode cL_law 351 = .ok (.iconst 3, 1) := by decide +kernel
theorem dL_law_352 : decode cL_law 352 = .ok (.iadd, 1) := by decide +kernel
theorem dL_law_353 : decode cL_law 353 = .ok (.iaload, 1) := by decide +kernel
theorem dL_law_354 : decode cL_law 354 = .ok (.invokevirtual 40, 3) := by decide +kernel
theorem dL_law_357 : decode cL_law 357 = .ok (.aload_n 2, 1) := by decide +kernel
theorem dL_law_358 : decode cL_law 358 = .ok (.aload_n 0, 1) := by decide +kernel
theorem dL_law_359 : decode cL_law 359 = .ok (.iload_n 3, 1) := by decide +kernel
theorem dL_law_360 : decode cL_law 360 = .ok (.iconst 1, 1) := by decide +kernel
theorem dL_law_361 : decode cL_law 361 = .ok (.iadd, 1) := by decide +kernel
theorem dL_law_362 : decode cL_law 362 = .ok (.iaload, 1) := by decide +kernel
theorem dL_law_363 : decode cL_law 363 = .ok (.aload_n 0, 1) := by decide +kernel
theorem dL_law_364 : decode cL_law 364 = .ok (.iload_n 3, 1) := by decide +kernel
theorem dL_law_365 : decode cL_law 365 = .ok (.iconst 2, 1) := by decide +kernel
theorem dL_law_366 : decode cL_law 366 = .ok (.iadd, 1) := by decide +kernel
theorem dL_law_367 : decode cL_law 367 = .ok (.iaload, 1) := by decide +kernel
theorem dL_law_368 : decode cL_law 368 = .ok (.aload_n 0, 1) := by decide +kernel
theorem dL_law_369 : decode cL_law 369 = .ok (.iload_n 3, 1) := by decide +kernel
theorem dL_law_370 : decode cL_law 370 = .ok (.iconst 3, 1) := by decide +kernel
theorem dL_law_371 : decode cL_law 371 = .ok (.iadd, 1) := by decide +kernel
theorem dL_law_372 : decode cL_law 372 = .ok (.iaload, 1) := by decide +kernel
theorem dL_law_373 : decode cL_law 373 = .ok (.invokevirtual 43, 3) := by decide +kernel
theorem dL_law_376 : decode cL_law 376 = .ok (.if_icmp .eq 474, 3) := by decide +kernel
theorem dL_law_379 : decode cL_law 379 = .ok (.iconst 0, 1) := by decide +kernel
theorem dL_law_380 : decode cL_law 380 = .ok (.ireturn, 1) := by decide +kernel
theorem dL_law_381 : decode cL_law 381 = .ok (.aload_n 1, 1) := by decide +kernel
theorem dL_law_382 : decode cL_law 382 = .ok (.aload_n 0, 1) := by decide +kernel
theorem dL_law_383 : decode cL_law 383 = .ok (.iload_n 3, 1) := by decide +kernel
theorem dL_law_384 : decode cL_law 384 = .ok (.iconst 1, 1) := by decide +kernel
theorem dL_law_385 : decode cL_law 385 = .ok (.iadd, 1) := by decide +kernel
theorem dL_law_386 : decode cL_law 386 = .ok (.iaload, 1) := by decide +kernel
theorem dL_law_387 : decode cL_law 387 = .ok (.aload_n 0, 1) := by decide +kernel
theorem dL_law_388 : decode cL_law 388 = .ok (.iload_n 3, 1) := by decide +kernel
theorem dL_law_389 : decode cL_law 389 = .ok (.iconst 2, 1) := by decide +kernel
theorem dL_law_390 : decode cL_law 390 = .ok (.iadd, 1) := by decide +kernel
theorem dL_law_391 : decode cL_law 391 = .ok (.iaload, 1) := by decide +kernel
theorem dL_law_392 : decode cL_law 392 = .ok (.aload_n 0, 1) := by decide +kernel
theorem dL_law_393 : decode cL_law 393 = .ok (.iload_n 3, 1) := by decide +kernel
theorem dL_law_394 : decode cL_law 394 = .ok (.iconst 3, 1) := by decide +kernel
theorem dL_law_395 : decode cL_law 395 = .ok (.iadd, 1) := by decide +kernel
theorem dL_law_396 : decode cL_law 396 = .ok (.iaload, 1) := by decide +kernel
theorem dL_law_397 : decode cL_law 397 = .ok (.invokevirtual 44, 3) := by decide +kernel
theorem dL_law_400 : decode cL_law 400 = .ok (.aload_n 2, 1) := by decide +kernel
theorem dL_law_401 : decode cL_law 401 = .ok (.aload_n 0, 1) := by decide +kernel
theorem dL_law_402 : decode cL_law 402 = .ok (.iload_n 3, 1) := by decide +kernel
theorem dL_law_403 : decode cL_law 403 = .ok (.iconst 1, 1) := by decide +kernel
theorem dL_law_404 : decode cL_law 404 = .ok (.iadd, 1) := by decide +kernel
theorem dL_law_405 : decode cL_law 405 = .ok (.iaload, 1) := by decide +kernel
theorem dL_law_406 : decode cL_law 406 = .ok (.aload_n 0, 1) := by decide +kernel
theorem dL_law_407 : decode cL_law 407 = .ok (.iload_n 3, 1) := by decide +kernel
theorem dL_law_408 : decode cL_law 408 = .ok (.iconst 2, 1) := by decide +kernel
theorem dL_law_409 : decode cL_law 409 = .ok (.iadd, 1) := by decide +kernel
theorem dL_law_410 : decode cL_law 410 = .ok (.iaload, 1) := by decide +kernel
theorem dL_law_411 : decode cL_law 411 = .ok (.aload_n 0, 1) := by decide +kernel
theorem dL_law_412 : decode cL_law 412 = .ok (.iload_n 3, 1) := by decide +kernel
theorem dL_law_413 : decode cL_law 413 = .ok (.iconst 3, 1) := by decide +kernel
theorem dL_law_414 : decode cL_law 414 = .ok (.iadd, 1) := by decide +kernel
theorem dL_law_415 : decode cL_law 415 = .ok (.iaload, 1) := by decide +kernel
theorem dL_law_416 : decode cL_law 416 = .ok (.invokevirtual 47, 3) := by decide +kernel
theorem dL_law_419 : decode cL_law 419 = .ok (.if_icmp .eq 431, 3) := by decide +kernel
theorem dL_law_422 : decode cL_law 422 = .ok (.iconst 0, 1) := by decide +kernel
theorem dL_law_423 : decode cL_law 423 = .ok (.ireturn, 1) := by decide +kernel
theorem dL_law_424 : decode cL_law 424 = .ok (.aload_n 1, 1) := by decide +kernel
theorem dL_law_425 : decode cL_law 425 = .ok (.aload_n 0, 1) := by decide +kernel
theorem dL_law_426 : decode cL_law 426 = .ok (.iload_n 3, 1) := by decide +kernel
theorem dL_law_427 : decode cL_law 427 = .ok (.iconst 1, 1) := by decide +kernel
theorem dL_law_428 : decode cL_law 428 = .ok (.iadd, 1) := by decide +kernel
theorem dL_law_429 : decode cL_law 429 = .ok (.iaload, 1) := by decide +kernel
theorem dL_law_430 : decode cL_law 430 = .ok (.invokevirtual 48, 3) := by decide +kernel
theorem dL_law_433 : decode cL_law 433 = .ok (.aload_n 2, 1) := by decide +kernel
theorem dL_law_434 : decode cL_law 434 = .ok (.aload_n 0, 1) := by decide +kernel
theorem dL_law_435 : decode cL_law 435 = .ok (.iload_n 3, 1) := by decide +kernel
theorem dL_law_436 : decode cL_law 436 = .ok (.iconst 1, 1) := by decide +kernel
theorem dL_law_437 : decode cL_law 437 = .ok (.iadd, 1) := by decide +kernel
theorem dL_law_438 : decode cL_law 438 = .ok (.iaload, 1) := by decide +kernel
theorem dL_law_439 : decode cL_law 439 = .ok (.invokevirtual 51, 3) := by decide +kernel
theorem dL_law_442 : decode cL_law 442 = .ok (.if_icmp .eq 408, 3) := by decide +kernel
theorem dL_law_445 : decode cL_law 445 = .ok (.iconst 0, 1) := by decide +kernel
theorem dL_law_446 : decode cL_law 446 = .ok (.ireturn, 1) := by decide +kernel
theorem dL_law_447 : decode cL_law 447 = .ok (.aload_n 1, 1) := by decide +kernel
theorem dL_law_448 : decode cL_law 448 = .ok (.aload_n 0, 1) := by decide +kernel
theorem dL_law_449 : decode cL_law 449 = .ok (.iload_n 3, 1) := by decide +kernel
theorem dL_law_450 : decode cL_law 450 = .ok (.iconst 1, 1) := by decide +kernel
theorem dL_law_451 : decode cL_law 451 = .ok (.iadd, 1) := by decide +kernel
theorem dL_law_452 : decode cL_law 452 = .ok (.iaload, 1) := by decide +kernel
theorem dL_law_453 : decode cL_law 453 = .ok (.aload_n 0, 1) := by decide +kernel
theorem dL_law_454 : decode cL_law 454 = .ok (.iload_n 3, 1) := by decide +kernel
theorem dL_law_455 : decode cL_law 455 = .ok (.iconst 2, 1) := by decide +kernel
theorem dL_law_456 : decode cL_law 456 = .ok (.iadd, 1) := by decide +kernel
theorem dL_law_457 : decode cL_law 457 = .ok (.iaload, 1) := by decide +kernel
theorem dL_law_458 : decode cL_law 458 = .ok (.invokevirtual 52, 3) := by decide +kernel
theorem dL_law_461 : decode cL_law 461 = .ok (.aload_n 2, 1) := by decide +kernel
theorem dL_law_462 : decode cL_law 462 = .ok (.aload_n 0, 1) := by decide +kernel
theorem dL_law_463 : decode cL_law 463 = .ok (.iload_n 3, 1) := by decide +kernel
theorem dL_law_464 : decode cL_law 464 = .ok (.iconst 1, 1) := by decide +kernel
theorem dL_law_465 : decode cL_law 465 = .ok (.iadd, 1) := by decide +kernel
theorem dL_law_466 : decode cL_law 466 = .ok (.iaload, 1) := by decide +kernel
theorem dL_law_467 : decode cL_law 467 = .ok (.aload_n 0, 1) := by decide +kernel
theorem dL_law_468 : decode cL_law 468 = .ok (.iload_n 3, 1) := by decide +kernel
theorem dL_law_469 : decode cL_law 469 = .ok (.iconst 2, 1) := by decide +kernel
theorem dL_law_470 : decode cL_law 470 = .ok (.iadd, 1) := by decide +kernel
theorem dL_law_471 : decode cL_law 471 = .ok (.iaload, 1) := by decide +kernel
theorem dL_law_472 : decode cL_law 472 = .ok (.invokevirtual 55, 3) := by decide +kernel
theorem dL_law_475 : decode cL_law 475 = .ok (.if_icmp .eq 375, 3) := by decide +kernel
theorem dL_law_478 : decode cL_law 478 = .ok (.iconst 0, 1) := by decide +kernel
theorem dL_law_479 : decode cL_law 479 = .ok (.ireturn, 1) := by decide +kernel
theorem dL_law_480 : decode cL_law 480 = .ok (.aload_n 1, 1) := by decide +kernel
theorem dL_law_481 : decode cL_law 481 = .ok (.aload_n 0, 1) := by decide +kernel
theorem dL_law_482 : decode cL_law 482 = .ok (.iload_n 3, 1) := by decide +kernel
theorem dL_law_483 : decode cL_law 483 = .ok (.iconst 1, 1) := by decide +kernel
theorem dL_law_484 : decode cL_law 484 = .ok (.iadd, 1) := by decide +kernel
theorem dL_law_485 : decode cL_law 485 = .ok (.iaload, 1) := by decide +kernel
theorem dL_law_486 : decode cL_law 486 = .ok (.invokevirtual 56, 3) := by decide +kernel
theorem dL_law_489 : decode cL_law 489 = .ok (.aload_n 2, 1) := by decide +kernel
theorem dL_law_490 : decode cL_law 490 = .ok (.aload_n 0, 1) := by decide +kernel
theorem dL_law_491 : decode cL_law 491 = .ok (.iload_n 3, 1) := by decide +kernel
theorem dL_law_492 : decode cL_law 492 = .ok (.iconst 1, 1) := by decide +kernel
theorem dL_law_493 : decode cL_law 493 = .ok (.iadd, 1) := by decide +kernel
theorem dL_law_494 : decode cL_law 494 = .ok (.iaload, 1) := by decide +kernel
theorem dL_law_495 : decode cL_law 495 = .ok (.invokevirtual 59, 3) := by decide +kernel
theorem dL_law_498 : decode cL_law 498 = .ok (.if_icmp .eq 352, 3) := by decide +kernel
theorem dL_law_501 : decode cL_law 501 = .ok (.iconst 0, 1) := by decide +kernel
theorem dL_law_502 : decode cL_law 502 = .ok (.ireturn, 1) := by decide +kernel
theorem dL_law_503 : decode cL_law 503 = .ok (.aload_n 1, 1) := by decide +kernel
theorem dL_law_504 : decode cL_law 504 = .ok (.aload_n 0, 1) := by decide +kernel
theorem dL_law_505 : decode cL_law 505 = .ok (.iload_n 3, 1) := by decide +kernel
theorem dL_law_506 : decode cL_law 506 = .ok (.iconst 1, 1) := by decide +kernel
theorem dL_law_507 : decode cL_law 507 = .ok (.iadd, 1) := by decide +kernel
theorem dL_law_508 : decode cL_law 508 = .ok (.iaload, 1) := by decide +kernel
theorem dL_law_509 : decode cL_law 509 = .ok (.aload_n 0, 1) := by decide +kernel
theorem dL_law_510 : decode cL_law 510 = .ok (.iload_n 3, 1) := by decide +kernel
theorem dL_law_511 : decode cL_law 511 = .ok (.iconst 2, 1) := by decide +kernel
theorem dL_law_512 : decode cL_law 512 = .ok (.iadd, 1) := by decide +kernel
theorem dL_law_513 : decode cL_law 513 = .ok (.iaload, 1) := by decide +kernel
theorem dL_law_514 : decode cL_law 514 = .ok (.aload_n 0, 1) := by decide +kernel
theorem dL_law_515 : decode cL_law 515 = .ok (.iload_n 3, 1) := by decide +kernel
theorem dL_law_516 : decode cL_law 516 = .ok (.iconst 3, 1) := by decide +kernel
theorem dL_law_517 : decode cL_law 517 = .ok (.iadd, 1) := by decide +kernel
theorem dL_law_518 : decode cL_law 518 = .ok (.iaload, 1) := by decide +kernel
theorem dL_law_519 : decode cL_law 519 = .ok (.invokevirtual 60, 3) := by decide +kernel
theorem dL_law_522 : decode cL_law 522 = .ok (.aload_n 2, 1) := by decide +kernel
theorem dL_law_523 : decode cL_law 523 = .ok (.aload_n 0, 1) := by decide +kernel
theorem dL_law_524 : decode cL_law 524 = .ok (.iload_n 3, 1) := by decide +kernel
theorem dL_law_525 : decode cL_law 525 = .ok (.iconst 1, 1) := by decide +kernel
theorem dL_law_526 : decode cL_law 526 = .ok (.iadd, 1) := by decide +kernel
theorem dL_law_527 : decode cL_law 527 = .ok (.iaload, 1) := by decide +kernel
theorem dL_law_528 : decode cL_law 528 = .ok (.aload_n 0, 1) := by decide +kernel
theorem dL_law_529 : decode cL_law 529 = .ok (.iload_n 3, 1) := by decide +kernel
theorem dL_law_530 : decode cL_law 530 = .ok (.iconst 2, 1) := by decide +kernel
theorem dL_law_531 : decode cL_law 531 = .ok (.iadd, 1) := by decide +kernel
theorem dL_law_532 : decode cL_law 532 = .ok (.iaload, 1) := by decide +kernel
theorem dL_law_533 : decode cL_law 533 = .ok (.aload_n 0, 1) := by decide +kernel
theorem dL_law_534 : decode cL_law 534 = .ok (.iload_n 3, 1) := by decide +kernel
theorem dL_law_535 : decode cL_law 535 = .ok (.iconst 3, 1) := by decide +kernel
theorem dL_law_536 : decode cL_law 536 = .ok (.iadd, 1) := by decide +kernel
theorem dL_law_537 : decode cL_law 537 = .ok (.iaload, 1) := by decide +kernel
theorem dL_law_538 : decode cL_law 538 = .ok (.invokevirtual 63, 3) := by decide +kernel
theorem dL_law_541 : decode cL_law 541 = .ok (.if_icmp .eq 309, 3) := by decide +kernel
theorem dL_law_544 : decode cL_law 544 = .ok (.iconst 0, 1) := by decide +kernel
theorem dL_law_545 : decode cL_law 545 = .ok (.ireturn, 1) := by decide +kernel
theorem dL_law_546 : decode cL_law 546 = .ok (.aload_n 1, 1) := by decide +kernel
theorem dL_law_547 : decode cL_law 547 = .ok (.aload_n 0, 1) := by decide +kernel
theorem dL_law_548 : decode cL_law 548 = .ok (.iload_n 3, 1) := by decide +kernel
theorem dL_law_549 : decode cL_law 549 = .ok (.iconst 1, 1) := by decide +kernel
theorem dL_law_550 : decode cL_law 550 = .ok (.iadd, 1) := by decide +kernel
theorem dL_law_551 : decode cL_law 551 = .ok (.iaload, 1) := by decide +kernel
theorem dL_law_552 : decode cL_law 552 = .ok (.invokevirtual 64, 3) := by decide +kernel
theorem dL_law_555 : decode cL_law 555 = .ok (.aload_n 2, 1) := by decide +kernel
theorem dL_law_556 : decode cL_law 556 = .ok (.aload_n 0, 1) := by decide +kernel
theorem dL_law_557 : decode cL_law 557 = .ok (.iload_n 3, 1) := by decide +kernel
theorem dL_law_558 : decode cL_law 558 = .ok (.iconst 1, 1) := by decide +kernel
theorem dL_law_559 : decode cL_law 559 = .ok (.iadd, 1) := by decide +kernel
theorem dL_law_560 : decode cL_law 560 = .ok (.iaload, 1) := by decide +kernel
theorem dL_law_561 : decode cL_law 561 = .ok (.invokevirtual 67, 3) := by decide +kernel
theorem dL_law_564 : decode cL_law 564 = .ok (.if_icmp .eq 286, 3) := by decide +kernel
theorem dL_law_567 : decode cL_law 567 = .ok (.iconst 0, 1) := by decide +kernel
theorem dL_law_568 : decode cL_law 568 = .ok (.ireturn, 1) := by decide +kernel
theorem dL_law_569 : decode cL_law 569 = .ok (.aload_n 1, 1) := by decide +kernel
theorem dL_law_570 : decode cL_law 570 = .ok (.aload_n 0, 1) := by decide +kernel
theorem dL_law_571 : decode cL_law 571 = .ok (.iload_n 3, 1) := by decide +kernel
theorem dL_law_572 : decode cL_law 572 = .ok (.iconst 1, 1) := by decide +kernel
theorem dL_law_573 : decode cL_law 573 = .ok (.iadd, 1) := by decide +kernel
theorem dL_law_574 : decode cL_law 574 = .ok (.iaload, 1) := by decide +kernel
theorem dL_law_575 : decode cL_law 575 = .ok (.invokevirtual 68, 3) := by decide +kernel
theorem dL_law_578 : decode cL_law 578 = .ok (.aload_n 2, 1) := by decide +kernel
theorem dL_law_579 : decode cL_law 579 = .ok (.aload_n 0, 1) := by decide +kernel
theorem dL_law_580 : decode cL_law 580 = .ok (.iload_n 3, 1) := by decide +kernel
theorem dL_law_581 : decode cL_law 581 = .ok (.iconst 1, 1) := by decide +kernel
theorem dL_law_582 : decode cL_law 582 = .ok (.iadd, 1) := by decide +kernel
theorem dL_law_583 : decode cL_law 583 = .ok (.iaload, 1) := by decide +kernel
theorem dL_law_584 : decode cL_law 584 = .ok (.invokevirtual 71, 3) := by decide +kernel
theorem dL_law_587 : decode cL_law 587 = .ok (.if_icmp .eq 263, 3) := by decide +kernel
theorem dL_law_590 : decode cL_law 590 = .ok (.iconst 0, 1) := by decide +kernel
theorem dL_law_591 : decode cL_law 591 = .ok (.ireturn, 1) := by decide +kernel
theorem dL_law_592 : decode cL_law 592 = .ok (.aload_n 1, 1) := by decide +kernel
theorem dL_law_593 : decode cL_law 593 = .ok (.aload_n 0, 1) := by decide +kernel
theorem dL_law_594 : decode cL_law 594 = .ok (.iload_n 3, 1) := by decide +kernel
theorem dL_law_595 : decode cL_law 595 = .ok (.iconst 1, 1) := by decide +kernel
theorem dL_law_596 : decode cL_law 596 = .ok (.iadd, 1) := by decide +kernel
theorem dL_law_597 : decode cL_law 597 = .ok (.iaload, 1) := by decide +kernel
theorem dL_law_598 : decode cL_law 598 = .ok (.invokevirtual 72, 3) := by decide +kernel
theorem dL_law_601 : decode cL_law 601 = .ok (.aload_n 2, 1) := by decide +kernel
theorem dL_law_602 : decode cL_law 602 = .ok (.aload_n 0, 1) := by decide +kernel
theorem dL_law_603 : decode cL_law 603 = .ok (.iload_n 3, 1) := by decide +kernel
theorem dL_law_604 : decode cL_law 604 = .ok (.iconst 1, 1) := by decide +kernel
theorem dL_law_605 : decode cL_law 605 = .ok (.iadd, 1) := by decide +kernel
theorem dL_law_606 : decode cL_law 606 = .ok (.iaload, 1) := by decide +kernel
theorem dL_law_607 : decode cL_law 607 = .ok (.invokevirtual 75, 3) := by decide +kernel
theorem dL_law_610 : decode cL_law 610 = .ok (.if_icmp .eq 240, 3) := by decide +kernel
theorem dL_law_613 : decode cL_law 613 = .ok (.iconst 0, 1) := by decide +kernel
theorem dL_law_614 : decode cL_law 614 = .ok (.ireturn, 1) := by decide +kernel
theorem dL_law_615 : decode cL_law 615 = .ok (.aload_n 1, 1) := by decide +kernel
theorem dL_law_616 : decode cL_law 616 = .ok (.aload_n 0, 1) := by decide +kernel
theorem dL_law_617 : decode cL_law 617 = .ok (.iload_n 3, 1) := by decide +kernel
theorem dL_law_618 : decode cL_law 618 = .ok (.iconst 1, 1) := by decide +kernel
theorem dL_law_619 : decode cL_law 619 = .ok (.iadd, 1) := by decide +kernel
theorem dL_law_620 : decode cL_law 620 = .ok (.iaload, 1) := by decide +kernel
theorem dL_law_621 : decode cL_law 621 = .ok (.aload_n 0, 1) := by decide +kernel
theorem dL_law_622 : decode cL_law 622 = .ok (.iload_n 3, 1) := by decide +kernel
theorem dL_law_623 : decode cL_law 623 = .ok (.iconst 2, 1) := by decide +kernel
theorem dL_law_624 : decode cL_law 624 = .ok (.iadd, 1) := by decide +kernel
theorem dL_law_625 : decode cL_law 625 = .ok (.iaload, 1) := by decide +kernel
theorem dL_law_626 : decode cL_law 626 = .ok (.invokevirtual 76, 3) := by decide +kernel
theorem dL_law_629 : decode cL_law 629 = .ok (.aload_n 2, 1) := by decide +kernel
theorem dL_law_630 : decode cL_law 630 = .ok (.aload_n 0, 1) := by decide +kernel
theorem dL_law_631 : decode cL_law 631 = .ok (.iload_n 3, 1) := by decide +kernel
theorem dL_law_632 : decode cL_law 632 = .ok (.iconst 1, 1) := by decide +kernel
theorem dL_law_633 : decode cL_law 633 = .ok (.iadd, 1) := by decide +kernel
theorem dL_law_634 : decode cL_law 634 = .ok (.iaload, 1) := by decide +kernel
theorem dL_law_635 : decode cL_law 635 = .ok (.aload_n 0, 1) := by decide +kernel
theorem dL_law_636 : decode cL_law 636 = .ok (.iload_n 3, 1) := by decide +kernel
theorem dL_law_637 : decode cL_law 637 = .ok (.iconst 2, 1) := by decide +kernel
theorem dL_law_638 : decode cL_law 638 = .ok (.iadd, 1) := by decide +kernel
theorem dL_law_639 : decode cL_law 639 = .ok (.iaload, 1) := by decide +kernel
theorem dL_law_640 : decode cL_law 640 = .ok (.invokevirtual 80, 3) := by decide +kernel
theorem dL_law_643 : decode cL_law 643 = .ok (.lcmp, 1) := by decide +kernel
theorem dL_law_644 : decode cL_law 644 = .ok (.ifCond .eq 206, 3) := by decide +kernel
theorem dL_law_647 : decode cL_law 647 = .ok (.iconst 0, 1) := by decide +kernel
theorem dL_law_648 : decode cL_law 648 = .ok (.ireturn, 1) := by decide +kernel
theorem dL_law_649 : decode cL_law 649 = .ok (.aload_n 1, 1) := by decide +kernel
theorem dL_law_650 : decode cL_law 650 = .ok (.aload_n 0, 1) := by decide +kernel
theorem dL_law_651 : decode cL_law 651 = .ok (.iload_n 3, 1) := by decide +kernel
theorem dL_law_652 : decode cL_law 652 = .ok (.iconst 1, 1) := by decide +kernel
theorem dL_law_653 : decode cL_law 653 = .ok (.iadd, 1) := by decide +kernel
theorem dL_law_654 : decode cL_law 654 = .ok (.iaload, 1) := by decide +kernel
theorem dL_law_655 : decode cL_law 655 = .ok (.invokevirtual 81, 3) := by decide +kernel
theorem dL_law_658 : decode cL_law 658 = .ok (.aload_n 2, 1) := by decide +kernel
theorem dL_law_659 : decode cL_law 659 = .ok (.aload_n 0, 1) := by decide +kernel
theorem dL_law_660 : decode cL_law 660 = .ok (.iload_n 3, 1) := by decide +kernel
theorem dL_law_661 : decode cL_law 661 = .ok (.iconst 1, 1) := by decide +kernel
theorem dL_law_662 : decode cL_law 662 = .ok (.iadd, 1) := by decide +kernel
theorem dL_law_663 : decode cL_law 663 = .ok (.iaload, 1) := by decide +kernel
theorem dL_law_664 : decode cL_law 664 = .ok (.invokevirtual 84, 3) := by decide +kernel
theorem dL_law_667 : decode cL_law 667 = .ok (.if_icmp .eq 183, 3) := by decide +kernel
theorem dL_law_670 : decode cL_law 670 = .ok (.iconst 0, 1) := by decide +kernel
theorem dL_law_671 : decode cL_law 671 = .ok (.ireturn, 1) := by decide +kernel
theorem dL_law_672 : decode cL_law 672 = .ok (.aload_n 1, 1) := by decide +kernel
theorem dL_law_673 : decode cL_law 673 = .ok (.aload_n 0, 1) := by decide +kernel
theorem dL_law_674 : decode cL_law 674 = .ok (.iload_n 3, 1) := by decide +kernel
theorem dL_law_675 : decode cL_law 675 = .ok (.iconst 1, 1) := by decide +kernel
theorem dL_law_676 : decode cL_law 676 = .ok (.iadd, 1) := by decide +kernel
theorem dL_law_677 : decode cL_law 677 = .ok (.iaload, 1) := by decide +kernel
theorem dL_law_678 : decode cL_law 678 = .ok (.invokevirtual 85, 3) := by decide +kernel
theorem dL_law_681 : decode cL_law 681 = .ok (.aload_n 2, 1) := by decide +kernel
theorem dL_law_682 : decode cL_law 682 = .ok (.aload_n 0, 1) := by decide +kernel
theorem dL_law_683 : decode cL_law 683 = .ok (.iload_n 3, 1) := by decide +kernel
theorem dL_law_684 : decode cL_law 684 = .ok (.iconst 1, 1) := by decide +kernel
theorem dL_law_685 : decode cL_law 685 = .ok (.iadd, 1) := by decide +kernel
theorem dL_law_686 : decode cL_law 686 = .ok (.iaload, 1) := by decide +kernel
theorem dL_law_687 : decode cL_law 687 = .ok (.invokevirtual 88, 3) := by decide +kernel
theorem dL_law_690 : decode cL_law 690 = .ok (.if_icmp .eq 160, 3) := by decide +kernel
theorem dL_law_693 : decode cL_law 693 = .ok (.iconst 0, 1) := by decide +kernel
theorem dL_law_694 : decode cL_law 694 = .ok (.ireturn, 1) := by decide +kernel
theorem dL_law_695 : decode cL_law 695 = .ok (.aload_n 1, 1) := by decide +kernel
theorem dL_law_696 : decode cL_law 696 = .ok (.invokevirtual 89, 3) := by decide +kernel
theorem dL_law_699 : decode cL_law 699 = .ok (.aload_n 2, 1) := by decide +kernel
theorem dL_law_700 : decode cL_law 700 = .ok (.invokevirtual 93, 3) := by decide +kernel
theorem dL_law_703 : decode cL_law 703 = .ok (.if_icmp .eq 147, 3) := by decide +kernel
theorem dL_law_706 : decode cL_law 706 = .ok (.iconst 0, 1) := by decide +kernel
theorem dL_law_707 : decode cL_law 707 = .ok (.ireturn, 1) := by decide +kernel
theorem dL_law_708 : decode cL_law 708 = .ok (.aload_n 1, 1) := by decide +kernel
theorem dL_law_709 : decode cL_law 709 = .ok (.aload_n 0, 1) := by decide +kernel
theorem dL_law_710 : decode cL_law 710 = .ok (.iload_n 3, 1) := by decide +kernel
theorem dL_law_711 : decode cL_law 711 = .ok (.iconst 1, 1) := by decide +kernel
theorem dL_law_712 : decode cL_law 712 = .ok (.iadd, 1) := by decide +kernel
theorem dL_law_713 : decode cL_law 713 = .ok (.iaload, 1) := by decide +kernel
theorem dL_law_714 : decode cL_law 714 = .ok (.aload_n 0, 1) := by decide +kernel
theorem dL_law_715 : decode cL_law 715 = .ok (.iload_n 3, 1) := by decide +kernel
theorem dL_law_716 : decode cL_law 716 = .ok (.iconst 2, 1) := by decide +kernel
theorem dL_law_717 : decode cL_law 717 = .ok (.iadd, 1) := by decide +kernel
theorem dL_law_718 : decode cL_law 718 = .ok (.iaload, 1) := by decide +kernel
theorem dL_law_719 : decode cL_law 719 = .ok (.invokevirtual 94, 3) := by decide +kernel
theorem dL_law_722 : decode cL_law 722 = .ok (.aload_n 2, 1) := by decide +kernel
theorem dL_law_723 : decode cL_law 723 = .ok (.aload_n 0, 1) := by decide +kernel
theorem dL_law_724 : decode cL_law 724 = .ok (.iload_n 3, 1) := by decide +kernel
theorem dL_law_725 : decode cL_law 725 = .ok (.iconst 1, 1) := by decide +kernel
theorem dL_law_726 : decode cL_law 726 = .ok (.iadd, 1) := by decide +kernel
theorem dL_law_727 : decode cL_law 727 = .ok (.iaload, 1) := by decide +kernel
theorem dL_law_728 : decode cL_law 728 = .ok (.aload_n 0, 1) := by decide +kernel
theorem dL_law_729 : decode cL_law 729 = .ok (.iload_n 3, 1) := by decide +kernel
theorem dL_law_730 : decode cL_law 730 = .ok (.iconst 2, 1) := by decide +kernel
theorem dL_law_731 : decode cL_law 731 = .ok (.iadd, 1) := by decide +kernel
theorem dL_law_732 : decode cL_law 732 = .ok (.iaload, 1) := by decide +kernel
theorem dL_law_733 : decode cL_law 733 = .ok (.invokevirtual 97, 3) := by decide +kernel
theorem dL_law_736 : decode cL_law 736 = .ok (.if_icmp .eq 114, 3) := by decide +kernel
theorem dL_law_739 : decode cL_law 739 = .ok (.iconst 0, 1) := by decide +kernel
theorem dL_law_740 : decode cL_law 740 = .ok (.ireturn, 1) := by decide +kernel
theorem dL_law_741 : decode cL_law 741 = .ok (.aload_n 1, 1) := by decide +kernel
theorem dL_law_742 : decode cL_law 742 = .ok (.aload_n 0, 1) := by decide +kernel
theorem dL_law_743 : decode cL_law 743 = .ok (.iload_n 3, 1) := by decide +kernel
theorem dL_law_744 : decode cL_law 744 = .ok (.iconst 1, 1) := by decide +kernel
theorem dL_law_745 : decode cL_law 745 = .ok (.iadd, 1) := by decide +kernel
theorem dL_law_746 : decode cL_law 746 = .ok (.iaload, 1) := by decide +kernel
theorem dL_law_747 : decode cL_law 747 = .ok (.aload_n 0, 1) := by decide +kernel
theorem dL_law_748 : decode cL_law 748 = .ok (.iload_n 3, 1) := by decide +kernel
theorem dL_law_749 : decode cL_law 749 = .ok (.iconst 2, 1) := by decide +kernel
theorem dL_law_750 : decode cL_law 750 = .ok (.iadd, 1) := by decide +kernel
theorem dL_law_751 : decode cL_law 751 = .ok (.iaload, 1) := by decide +kernel
theorem dL_law_752 : decode cL_law 752 = .ok (.invokevirtual 98, 3) := by decide +kernel
theorem dL_law_755 : decode cL_law 755 = .ok (.aload_n 2, 1) := by decide +kernel
theorem dL_law_756 : decode cL_law 756 = .ok (.aload_n 0, 1) := by decide +kernel
theorem dL_law_757 : decode cL_law 757 = .ok (.iload_n 3, 1) := by decide +kernel
theorem dL_law_758 : decode cL_law 758 = .ok (.iconst 1, 1) := by decide +kernel
theorem dL_law_759 : decode cL_law 759 = .ok (.iadd, 1) := by decide +kernel
theorem dL_law_760 : decode cL_law 760 = .ok (.iaload, 1) := by decide +kernel
theorem dL_law_761 : decode cL_law 761 = .ok (.aload_n 0, 1) := by decide +kernel
theorem dL_law_762 : decode cL_law 762 = .ok (.iload_n 3, 1) := by decide +kernel
theorem dL_law_763 : decode cL_law 763 = .ok (.iconst 2, 1) := by decide +kernel
theorem dL_law_764 : decode cL_law 764 = .ok (.iadd, 1) := by decide +kernel
theorem dL_law_765 : decode cL_law 765 = .ok (.iaload, 1) := by decide +kernel
theorem dL_law_766 : decode cL_law 766 = .ok (.invokevirtual 101, 3) := by decide +kernel
theorem dL_law_769 : decode cL_law 769 = .ok (.if_icmp .eq 81, 3) := by decide +kernel
theorem dL_law_772 : decode cL_law 772 = .ok (.iconst 0, 1) := by decide +kernel
theorem dL_law_773 : decode cL_law 773 = .ok (.ireturn, 1) := by decide +kernel
theorem dL_law_774 : decode cL_law 774 = .ok (.aload_n 1, 1) := by decide +kernel
theorem dL_law_775 : decode cL_law 775 = .ok (.aload_n 0, 1) := by decide +kernel
theorem dL_law_776 : decode cL_law 776 = .ok (.iload_n 3, 1) := by decide +kernel
theorem dL_law_777 : decode cL_law 777 = .ok (.iconst 1, 1) := by decide +kernel
theorem dL_law_778 : decode cL_law 778 = .ok (.iadd, 1) := by decide +kernel
theorem dL_law_779 : decode cL_law 779 = .ok (.iaload, 1) := by decide +kernel
theorem dL_law_780 : decode cL_law 780 = .ok (.aload_n 0, 1) := by decide +kernel
theorem dL_law_781 : decode cL_law 781 = .ok (.iload_n 3, 1) := by decide +kernel
theorem dL_law_782 : decode cL_law 782 = .ok (.iconst 2, 1) := by decide +kernel
theorem dL_law_783 : decode cL_law 783 = .ok (.iadd, 1) := by decide +kernel
theorem dL_law_784 : decode cL_law 784 = .ok (.iaload, 1) := by decide +kernel
theorem dL_law_785 : decode cL_law 785 = .ok (.aload_n 0, 1) := by decide +kernel
theorem dL_law_786 : decode cL_law 786 = .ok (.iload_n 3, 1) := by decide +kernel
theorem dL_law_787 : decode cL_law 787 = .ok (.iconst 3, 1) := by decide +kernel
theorem dL_law_788 : decode cL_law 788 = .ok (.iadd, 1) := by decide +kernel
theorem dL_law_789 : decode cL_law 789 = .ok (.iaload, 1) := by decide +kernel
theorem dL_law_790 : decode cL_law 790 = .ok (.aload_n 0, 1) := by decide +kernel
theorem dL_law_791 : decode cL_law 791 = .ok (.iload_n 3, 1) := by decide +kernel
theorem dL_law_792 : decode cL_law 792 = .ok (.iconst 4, 1) := by decide +kernel
theorem dL_law_793 : decode cL_law 793 = .ok (.iadd, 1) := by decide +kernel
theorem dL_law_794 : decode cL_law 794 = .ok (.iaload, 1) := by decide +kernel
theorem dL_law_795 : decode cL_law 795 = .ok (.invokevirtual 102, 3) := by decide +kernel
theorem dL_law_798 : decode cL_law 798 = .ok (.aload_n 2, 1) := by decide +kernel
theorem dL_law_799 : decode cL_law 799 = .ok (.aload_n 0, 1) := by decide +kernel
theorem dL_law_800 : decode cL_law 800 = .ok (.iload_n 3, 1) := by decide +kernel
theorem dL_law_801 : decode cL_law 801 = .ok (.iconst 1, 1) := by decide +kernel
theorem dL_law_802 : decode cL_law 802 = .ok (.iadd, 1) := by decide +kernel
theorem dL_law_803 : decode cL_law 803 = .ok (.iaload, 1) := by decide +kernel
theorem dL_law_804 : decode cL_law 804 = .ok (.aload_n 0, 1) := by decide +kernel
theorem dL_law_805 : decode cL_law 805 = .ok (.iload_n 3, 1) := by decide +kernel
theorem dL_law_806 : decode cL_law 806 = .ok (.iconst 2, 1) := by decide +kernel
theorem dL_law_807 : decode cL_law 807 = .ok (.iadd, 1) := by decide +kernel
theorem dL_law_808 : decode cL_law 808 = .ok (.iaload, 1) := by decide +kernel
theorem dL_law_809 : decode cL_law 809 = .ok (.aload_n 0, 1) := by decide +kernel
theorem dL_law_810 : decode cL_law 810 = .ok (.iload_n 3, 1) := by decide +kernel
theorem dL_law_811 : decode cL_law 811 = .ok (.iconst 3, 1) := by decide +kernel
theorem dL_law_812 : decode cL_law 812 = .ok (.iadd, 1) := by decide +kernel
theorem dL_law_813 : decode cL_law 813 = .ok (.iaload, 1) := by decide +kernel
theorem dL_law_814 : decode cL_law 814 = .ok (.aload_n 0, 1) := by decide +kernel
theorem dL_law_815 : decode cL_law 815 = .ok (.iload_n 3, 1) := by decide +kernel
theorem dL_law_816 : decode cL_law 816 = .ok (.iconst 4, 1) := by decide +kernel
theorem dL_law_817 : decode cL_law 817 = .ok (.iadd, 1) := by decide +kernel
theorem dL_law_818 : decode cL_law 818 = .ok (.iaload, 1) := by decide +kernel
theorem dL_law_819 : decode cL_law 819 = .ok (.invokevirtual 106, 3) := by decide +kernel
theorem dL_law_822 : decode cL_law 822 = .ok (.if_icmp .eq 28, 3) := by decide +kernel
theorem dL_law_825 : decode cL_law 825 = .ok (.iconst 0, 1) := by decide +kernel
theorem dL_law_826 : decode cL_law 826 = .ok (.ireturn, 1) := by decide +kernel
theorem dL_law_827 : decode cL_law 827 = .ok (.aload_n 1, 1) := by decide +kernel
theorem dL_law_828 : decode cL_law 828 = .ok (.aload_n 0, 1) := by decide +kernel
theorem dL_law_829 : decode cL_law 829 = .ok (.iload_n 3, 1) := by decide +kernel
theorem dL_law_830 : decode cL_law 830 = .ok (.iconst 1, 1) := by decide +kernel
theorem dL_law_831 : decode cL_law 831 = .ok (.iadd, 1) := by decide +kernel
theorem dL_law_832 : decode cL_law 832 = .ok (.iaload, 1) := by decide +kernel
theorem dL_law_833 : decode cL_law 833 = .ok (.invokevirtual 107, 3) := by decide +kernel
theorem dL_law_836 : decode cL_law 836 = .ok (.aload_n 2, 1) := by decide +kernel
theorem dL_law_837 : decode cL_law 837 = .ok (.aload_n 0, 1) := by decide +kernel
theorem dL_law_838 : decode cL_law 838 = .ok (.iload_n 3, 1) := by decide +kernel
theorem dL_law_839 : decode cL_law 839 = .ok (.iconst 1, 1) := by decide +kernel
theorem dL_law_840 : decode cL_law 840 = .ok (.iadd, 1) := by decide +kernel
theorem dL_law_841 : decode cL_law 841 = .ok (.iaload, 1) := by decide +kernel
theorem dL_law_842 : decode cL_law 842 = .ok (.invokevirtual 110, 3) := by decide +kernel
theorem dL_law_845 : decode cL_law 845 = .ok (.if_icmp .eq 5, 3) := by decide +kernel
theorem dL_law_848 : decode cL_law 848 = .ok (.iconst 0, 1) := by decide +kernel
theorem dL_law_849 : decode cL_law 849 = .ok (.ireturn, 1) := by decide +kernel
theorem dL_law_850 : decode cL_law 850 = .ok (.iinc 3 5, 3) := by decide +kernel
theorem dL_law_853 : decode cL_law 853 = .ok (.goto (-835), 3) := by decide +kernel
theorem dL_law_856 : decode cL_law 856 = .ok (.iconst 1, 1) := by decide +kernel
theorem dL_law_857 : decode cL_law 857 = .ok (.ireturn, 1) := by decide +kernel
end
section
/-! THE STATE: one world of 42 cells that never grows once both objects are made; what changes are ints alone. A cell has a number k, its address is ad k; a value .ref k means the cell k (42: the static array INVERSE). -/
/-- the tables' words that a callee may be told; and those on nest mates, which go by another road -/
def tb : List Cond := lw_tbl.filter goodWord
def nestW : Cond → Bool
  | .fieldLinkNest .. | .methodLinkNest .. => true
  | _ => false
def nwl : List Cond := lw_tbl.filter nestW
theorem nwl_warm {w : Cond} {s U : State} (h : w ∈ nwl) (hW : s.WarmedH U.vm) (hZ : va_Nw w s) : va_Nw w U := by
  have h1 := (List.mem_filter.mp h).2
  cases w <;> first | exact va_Nw.warmF hW hZ | exact va_Nw.warmM hW hZ | exact absurd h1 (by simp [nestW])
theorem nwl_same {w : Cond} {u U : State} (h : w ∈ nwl) (hvm : u.vm = U.vm) (hZ : va_Nw w u) : va_Nw w U := by
  have h1 := (List.mem_filter.mp h).2
  cases w <;> first | exact va_Nw.same rfl hvm hZ | exact absurd h1 (by simp [nestW])
/-- the int that a number is -/
def zI (z : Int) : Int32 := Int32.ofInt z
abbrev Mem : Type := Nat → Nat → Int32
def ren (ad : Nat → Nat) : Value → Value
  | .ref k => .ref (ad k)
  | v => v
def renL (ad : Nat → Nat) (L : List (Nat × Value)) : List (Nat × Value) := L.map (fun q => (q.1, ren ad q.2))
/-- a cell's kind: 0 .. 5 an object of that class of vwCl, 6 ints, 7 booleans, 8 stores -/
def shKl : List Nat := [4, 6, 6, 8, 3, 3, 3, 3, 3, 3, 3, 3, 3, 6, 6, 6, 6, 6, 6, 6, 6, 6, 1, 6, 6, 2, 6, 6, 0, 6, 6, 5, 6, 6, 6, 6, 6, 6, 7, 6, 6, 6]
def shK (k : Nat) : Nat := shKl.getD k 9
/-- how many fields or places -/
def shNl : List Nat := [11, 8, 3, 9, 3, 3, 3, 3, 3, 3, 3, 3, 3, 8, 8, 8, 8, 8, 8, 8, 8, 8, 8, 6, 6, 3, 9, 9, 3, 7, 7, 20, 8, 10, 10, 80, 6, 7, 10, 9, 9, 7]
def shN (k : Nat) : Nat := shNl.getD k 0
def rfl_0 : List (Option Nat) := [some 1, some 2, some 3, some 22, some 25, some 28]
def rfl_31 : List (Option Nat) := [none, none, some 32, some 33, some 34, some 35, none, none, none, some 36, none, some 37, some 38, none, none, none, none, some 39, some 40, some 41]
def rfT : List (List (Option Nat)) := [rfl_0, [], [], [some 4, some 5, some 6, some 7, some 8, some 9, some 10, some 11, some 12], [some 13], [some 14], [some 15], [some 16], [some 17], [some 18], [some 19], [some 20], [some 21], [], [], [], [], [], [], [], [], [], [some 23, some 24], [], [], [some 26, some 27], [], [], [some 29, some 30], [], [], rfl_31, [], [], [], [], [], [], [], [], [], []]
def rf (k j : Nat) : Option Nat := (rfT.getD k []).getD j none
/-- what field j of cell k is -/
def fvA (M : Mem) (k j : Nat) : Value := match rf k j with
  | some r => .ref r
  | none => .int (M k j)
def flds (ad : Nat → Nat) (M : Mem) (k : Nat) : List Value := (List.range (shN k)).map (fun j => ren ad (fvA M k j))
def ent (cI cZ cS : ClassId) (ad : Nat → Nat) (M : Mem) (k : Nat) : va_E :=
  if shK k = 6 then .inl (cI, shN k, .inl (M k)) else if shK k = 7 then .inl (cZ, shN k, .inl (M k)) else if shK k = 8 then .inl (cS, shN k, .inr (.inr (.inr (.inr (fun j => (rf k j).map ad))))) else .inr (shK k, flds ad M k)
def Wd (cI cZ cS : ClassId) (ad : Nat → Nat) (M : Mem) : va_W := (List.range 42).map (fun k => (ad k, ent cI cZ cS ad M k))
def mset (M : Mem) (k j : Nat) (v : Int32) : Mem := fun a b => if a = k then (if b = j then v else M a b) else M a b
def ty3 (cI cZ cS : ClassId) : List (ClassId × FieldType) := [(cI, .int), (cZ, .boolean), (cS, .object "SilentAsking$Store")]
def invL : List Int32 := [0, 1, 49, 65, 73, 39, 81, 14, 85]
def ST (ad : Nat → Nat) (A : Nat → Prop) (U : State) : Prop := va_Z "SilentAsking" "INVERSE" "[I" (.ref (ad 42)) A U U.heap ∧ va_T .int (ad 42) 9 (fun j => .int (invL.getD j 0)) A U U.heap ∧ ∀ w ∈ nwl, va_Nw w U
def AA (ad : Nat → Nat) (sz : Nat) : Nat → Prop := fun q => (∃ k, k < 42 ∧ q = ad k) ∨ sz ≤ q
def rmd (h : Nat) : Room := { frames := h, cells := 0, slots := 0, locals := 31 * h }
def Qst (D : va_G) (cI cZ cS : ClassId) (ad : Nat → Nat) (A : Nat → Prop) (Q : Option Value → Mem → Prop) : Array Value → State → Outcome → State → Prop := fun _ st oc t =>
  (∃ (r : Option Value) (M' : Mem), oc = .returned (r.map (ren ad)) ∧ Q r M' ∧ va_P D vwCl (Wd cI cZ cS ad M') t.heap ∧ va_D A (Wd cI cZ cS ad M')) ∧ va_F A st t
def GC (own : String) (b : ByteArray) (nL : Nat) (ret : Option FieldType) (p : Program) (s : State) (m : MethodId) (args : Array Value) (meth : Method) (c : Code) (D : va_G) (cI cZ cS : ClassId) (ad : Nat → Nat) (A : Nat → Prop) : Prop :=
  p.tables.exec = Jvm.exec ∧ c.code = b ∧ meth.sig.returnType = ret ∧ c.maxLocals = nL ∧ s.vm.findClass own = some m.cls ∧ (∀ w ∈ tb, w.before args s = true) ∧ meth.locks = false ∧ va_K D vwCl (ty3 cI cZ cS) s ∧ ST ad A s ∧ (∀ q : Nat, s.heap.size ≤ q → A q)
/-- where a walk stands: its room, what it has made, what its end is, what else is known of its start -/
abbrev GE : Type := Room × Nat × Nat × (List Frame → va_G → ClassId → ClassId → ClassId → (Nat → Nat) → (Nat → Prop) → Array Value → State → State → Prop) × (State → Array Value → (Nat → Prop) → Prop)
/-- a method's walk: its end is that Q holds of what it returns and of the memory -/
def gE (h : Nat) (Q : Option Value → Mem → Prop) : GE := (rmd h, 0, 0, fun below D cI cZ cS ad A args s => MQ below (Qst D cI cZ cS ad A Q) args s 0 0 A, fun _ _ _ => True)
/-- from pc on, with locals L, stack st, memory M: the walk comes to its end -/
def G (own : String) (b : ByteArray) (nL : Nat) (ret : Option FieldType) (E : GE) (pc : Nat) (L : List (Nat × Value)) (st : List Value) (M : Mem) : Prop :=
  ∀ (p : Program) (l : Launch) (e : Env) (s : State) (m : MethodId) (args : Array Value) (below : List Frame) (meth : Method) (c : Code) (D : va_G) (cI cZ cS : ClassId) (ad : Nat → Nat) (A : Nat → Prop), GC own b nL ret p s m args meth c D cI cZ cS ad A → E.2.2.2.2 s args A →
  ∀ (H : Heap) (locs : List Loc) (ls : Array Slot), va_P D vwCl (Wd cI cZ cS ad M) H → va_D A (Wd cI cZ cS ad M) → va_S A s.heap H locs → lv_has ls nL (renL ad L) →
  W p l e E.1 s m args below meth c H locs E.2.1 E.2.2.1 (E.2.2.2.1 below D cI cZ cS ad A args s) (F0 m pc ls (st.map (ren ad)))
/-- a method's contract: on these arguments in this memory it returns, and Q holds -/
def Ev (y : MethodName) (b : ByteArray) (nL : Nat) (ret : Option FieldType) (h : Nat) (avs : List Value) (M : Mem) (Q : Option Value → Mem → Prop) : Prop :=
  ∀ (l : Launch) (D : va_G) (cI cZ cS : ClassId) (ad : Nat → Nat) (sz : Nat), Met l y (.code y b nL ret :: tb) (rmd h)
    (va_Pc (avs.map (ren ad)) (fun U => U.heap.size = sz ∧ va_P D vwCl (Wd cI cZ cS ad M) U.heap ∧ va_K D vwCl (ty3 cI cZ cS) U ∧ va_D (AA ad sz) (Wd cI cZ cS ad M) ∧ ST ad (AA ad sz) U))
    (Qst D cI cZ cS ad (AA ad sz) Q) 0 0 (AA ad sz)
theorem Wd_get (cI cZ cS : ClassId) (ad : Nat → Nat) (M : Mem) {k : Nat} (hk : k < 42) : (Wd cI cZ cS ad M)[k]? = some (ad k, ent cI cZ cS ad M k) := by
  simp [Wd, List.getElem?_range, hk]
theorem Wd_lt {cI cZ cS : ClassId} {ad : Nat → Nat} {M : Mem} {k : Nat} {q : Nat × va_E} (h : (Wd cI cZ cS ad M)[k]? = some q) : k < 42 ∧ q = (ad k, ent cI cZ cS ad M k) := by
  have hl : k < (Wd cI cZ cS ad M).length := (List.getElem?_eq_some_iff.mp h).1
  have hk : k < 42 := by simpa [Wd] using hl
  rw [Wd_get _ _ _ _ _ hk] at h
  exact ⟨hk, (Option.some.inj h).symm⟩
theorem ent_obj (cI cZ cS : ClassId) (ad : Nat → Nat) (M : Mem) {k c : Nat} (h : shK k = c) (hc : c < 6) : ent cI cZ cS ad M k = .inr (c, flds ad M k) := by
  subst h
  unfold ent
  rw [if_neg (by omega), if_neg (by omega), if_neg (by omega)]
theorem ent_int (cI cZ cS : ClassId) (ad : Nat → Nat) (M : Mem) {k : Nat} (h : shK k = 6) : ent cI cZ cS ad M k = .inl (cI, shN k, .inl (M k)) := by
  unfold ent
  rw [if_pos h]
theorem ent_bool (cI cZ cS : ClassId) (ad : Nat → Nat) (M : Mem) {k : Nat} (h : shK k = 7) : ent cI cZ cS ad M k = .inl (cZ, shN k, .inl (M k)) := by
  unfold ent
  rw [if_neg (by omega), if_pos h]
theorem ent_ref (cI cZ cS : ClassId) (ad : Nat → Nat) (M : Mem) {k : Nat} (h : shK k = 8) : ent cI cZ cS ad M k = .inl (cS, shN k, .inr (.inr (.inr (.inr (fun j => (rf k j).map ad))))) := by
  unfold ent
  rw [if_neg (by omega), if_neg (by omega), if_pos h]
theorem flds_get (ad : Nat → Nat) (M : Mem) {k j : Nat} (hj : j < shN k) : (flds ad M k)[j]? = some (ren ad (fvA M k j)) := by
  simp [flds, List.getElem?_range, hj]
theorem mset_same (M : Mem) (k j : Nat) (v : Int32) : mset M k j v k j = v := by simp [mset]
theorem mset_ne (M : Mem) {k j a b : Nat} (v : Int32) (h : a ≠ k ∨ b ≠ j) : mset M k j v a b = M a b := by
  unfold mset
  by_cases ha : a = k
  · subst ha
    rw [if_pos rfl, if_neg (by omega)]
  · rw [if_neg ha]
theorem mset_row (M : Mem) (k j : Nat) (v : Int32) : mset M k j v k = upd (M k) j v := by
  funext b
  simp [mset, upd]
theorem mset_other (M : Mem) {k a : Nat} (j : Nat) (v : Int32) (h : a ≠ k) : mset M k j v a = M a := by
  funext b
  exact mset_ne M v (Or.inl h)
theorem ent_other (cI cZ cS : ClassId) (ad : Nat → Nat) (M : Mem) {k a : Nat} (j : Nat) (v : Int32) (h : a ≠ k) : ent cI cZ cS ad (mset M k j v) a = ent cI cZ cS ad M a := by
  have e : flds ad (mset M k j v) a = flds ad M a := by
    unfold flds fvA
    rw [mset_other M j v h]
  unfold ent
  rw [mset_other M j v h, e]
theorem Wd_set (cI cZ cS : ClassId) (ad : Nat → Nat) (M : Mem) {k j : Nat} (v : Int32) {x : va_E} (hx : x = ent cI cZ cS ad (mset M k j v) k) : (Wd cI cZ cS ad M).set k (ad k, x) = Wd cI cZ cS ad (mset M k j v) := by
  subst hx
  refine List.ext_getElem? fun i => ?_
  by_cases hi : i < 42
  · rw [Wd_get _ _ _ _ _ hi]
    by_cases hik : i = k
    · subst hik
      rw [List.getElem?_set_self (by simp [Wd, hi])]
    · rw [List.getElem?_set_ne (fun e => hik e.symm), Wd_get _ _ _ _ _ hi, ent_other _ _ _ _ _ _ _ hik]
  · rw [List.getElem?_eq_none (by simp [Wd]; omega), List.getElem?_eq_none (by simp [Wd]; omega)]
theorem flds_set (ad : Nat → Nat) (M : Mem) {k j : Nat} (v : Int32) (hr : rf k j = none) : (flds ad M k).set j (.int v) = flds ad (mset M k j v) k := by
  refine List.ext_getElem? fun i => ?_
  by_cases hi : i < shN k
  · rw [flds_get _ _ hi]
    by_cases hij : i = j
    · subst hij
      rw [List.getElem?_set_self (by simp [flds, hi])]
      simp [fvA, hr, mset_same, ren]
    · rw [List.getElem?_set_ne (fun e => hij e.symm), flds_get _ _ hi]
      simp only [fvA, mset_ne M v (Or.inr hij)]
  · rw [List.getElem?_eq_none (by simp [flds]; omega), List.getElem?_eq_none (by simp [flds]; omega)]
theorem ren_cat (ad : Nat → Nat) (v : Value) : (ren ad v).category = v.category := by cases v <;> rfl
theorem renL_args (ad : Nat → Nat) : ∀ (vs : List Value) (i : Nat), lv_args i (vs.map (ren ad)) = renL ad (lv_args i vs)
  | [], _ => rfl
  | v :: vs, i => by
    show (i, ren ad v) :: lv_args (if (ren ad v).category = 2 then i + 2 else i + 1) (vs.map (ren ad)) = (i, ren ad v) :: renL ad (lv_args (if v.category = 2 then i + 2 else i + 1) vs)
    rw [ren_cat, renL_args ad vs]
theorem sum_ren (ad : Nat → Nat) (st : List Value) : ((st.map (ren ad)).map fun v => v.category).sum = (st.map fun v => v.category).sum := by
  rw [List.map_map]
  congr 1
  refine List.map_congr_left fun v _ => ?_
  exact ren_cat ad v
theorem ren_sl (ad : Nat → Nat) (vs : List Value) : (lg_sl (vs.map (ren ad))).length = (lg_sl vs).length := by
  induction vs with
  | nil => rfl
  | cons v vs ih =>
    simp only [lg_sl, List.map_cons, List.flatMap_cons, List.length_append, ren_cat] at ih ⊢
    rw [ih]
    by_cases hv : v.category = 2 <;> simp [hv]
theorem renL_has {ad : Nat → Nat} {ls : Array Slot} {nL : Nat} {L L' : List (Nat × Value)} (h : lv_has ls nL (renL ad L)) (hs : ∀ q ∈ L', q ∈ L) : lv_has ls nL (renL ad L') := by
  refine ⟨h.1, h.2.1, fun q hq => ?_⟩
  obtain ⟨r, h1, h2⟩ := List.mem_map.mp hq
  exact h.2.2 q (List.mem_map.mpr ⟨r, hs r h1, h2⟩)
theorem ST.at {ad : Nat → Nat} {A B : Nat → Prop} {s U : State} {H : Heap} {locs : List Loc} (h : ST ad A s) (hS : va_S A s.heap H locs) (hW : s.WarmedH U.vm) (hU : U.heap = H) (hAB : ∀ q, B q → A q) : ST ad B U := by
  refine ⟨?_, ?_, fun w hw => nwl_warm hw hW (h.2.2 w hw)⟩
  · rw [hU]
    exact va_Z.moved hW.alike (va_Z.narrow (va_Z.kept h.1 hS.2.1) hAB)
  · rw [hU]
    exact va_T.moved hW.alike (va_T.narrow (va_T.kept h.2.1 hS.2.1) hAB)
theorem AA_in {A : Nat → Prop} {cI cZ cS : ClassId} {ad : Nat → Nat} {M : Mem} (hD : va_D A (Wd cI cZ cS ad M)) {H0 H : Heap} {locs : List Loc} (hS : va_S A H0 H locs) (hA : ∀ q, H0.size ≤ q → A q) : ∀ q, AA ad H.size q → A q := by
  intro q hq
  rcases hq with ⟨k, hk, rfl⟩ | hq
  · exact hD.2 k _ (Wd_get cI cZ cS ad M hk)
  · exact hA q (Nat.le_trans hS.1 hq)
theorem AA_self {A : Nat → Prop} {cI cZ cS : ClassId} {ad : Nat → Nat} {M M' : Mem} (hD : va_D A (Wd cI cZ cS ad M)) (sz : Nat) : va_D (AA ad sz) (Wd cI cZ cS ad M') := by
  refine ⟨fun i j x y hi hj hxy => ?_, fun k q hk => ?_⟩
  · obtain ⟨h1, rfl⟩ := Wd_lt hi
    obtain ⟨h2, rfl⟩ := Wd_lt hj
    exact hD.1 i j _ _ (Wd_get cI cZ cS ad M h1) (Wd_get cI cZ cS ad M h2) hxy
  · obtain ⟨h1, rfl⟩ := Wd_lt hk
    exact Or.inl ⟨k, h1, rfl⟩
set_option maxHeartbeats 4000000 in
theorem Ev.of_G {y : MethodName} {b : ByteArray} {nL : Nat} {ret : Option FieldType} {h : Nat} {avs : List Value} {M : Mem} {Q : Option Value → Mem → Prop} (hy : plainName y.cls = true) (hn : (lg_sl avs).length ≤ nL) (hG : G y.cls b nL ret (gE h Q) 0 (lv_args 0 avs) [] M) : Ev y b nL ret h avs M Q := by
  intro l D cI cZ cS ad sz
  refine Met.ofW (cc := b) (maxL := nL) (ret := ret) hy rfl ?_
  intro p e s m args below meth c s₁ B hml hv
  obtain ⟨rfl, hsz, hP, hK, hD, hST⟩ := hv
  subst hsz
  have hts0 := atoms_spec (ws := .code y b nL ret :: tb) B.pre
  have hts : ∀ w ∈ tb, w.before (avs.map (ren ad)).toArray s = true := fun w hw => hts0 w (List.mem_cons_of_mem _ hw)
  have hown : s.vm.findClass y.cls = some m.cls := findClass_of_methodNamed B.named
  have hl := lv_entry (avs.map (ren ad)) (n := nL) (by rw [ren_sl]; exact hn)
  rw [renL_args] at hl
  rw [lg_entry_eq]
  exact hG p l e s m _ below meth c D cI cZ cS ad (AA ad s.heap.size) ⟨B.exec, B.bytes, B.returns, hml, hown, hts, B.notSynchronized, hK, hST, fun q hq => Or.inr hq⟩ trivial s.heap [] _ hP hD va_S.rf hl
/-- fewer, or other, listed locals -/
theorem g_loc {own : String} {b : ByteArray} {nL : Nat} {ret : Option FieldType} {E : GE} {pc : Nat} {L L' : List (Nat × Value)} {st : List Value} {M : Mem} (hs : ∀ q ∈ L', q ∈ L) (k : G own b nL ret E pc L' st M) : G own b nL ret E pc L st M := by
  intro p l e s m args below meth c D cI cZ cS ad A C CX H locs ls hP hD hS hl
  exact k p l e s m args below meth c D cI cZ cS ad A C CX H locs ls hP hD hS (renL_has hl hs)
theorem g_locp {own : String} {b : ByteArray} {nL : Nat} {ret : Option FieldType} {E : GE} {pc : Nat} {L L' : List (Nat × Value)} {st : List Value} {M : Mem} (ks : List Nat) (hs : lv_pick L ks = L') (k : G own b nL ret E pc L' st M) : G own b nL ret E pc L st M := by
  refine g_loc (fun q hq => ?_) k
  subst hs
  obtain ⟨i, -, hi⟩ := List.mem_filterMap.mp hq
  exact List.mem_of_getElem? hi
theorem g_mem {own : String} {b : ByteArray} {nL : Nat} {ret : Option FieldType} {E : GE} {pc : Nat} {L : List (Nat × Value)} {st : List Value} {M M' : Mem} (e : M = M') (k : G own b nL ret E pc L st M') : G own b nL ret E pc L st M := e ▸ k
theorem g_st {own : String} {b : ByteArray} {nL : Nat} {ret : Option FieldType} {E : GE} {pc : Nat} {L : List (Nat × Value)} {st st' : List Value} {M : Mem} (e : st = st') (k : G own b nL ret E pc L st' M) : G own b nL ret E pc L st M := e ▸ k
end
section
/-! one instruction, one row: G at an instruction from G at the next -/
def lget : List (Nat × Value) → Nat → Option Value
  | [], _ => none
  | (j, v) :: t, i => bif Nat.beq j i then some v else lget t i
def lins (i : Nat) (v : Value) : List (Nat × Value) → List (Nat × Value)
  | [] => [(i, v)]
  | (j, w) :: t => bif Nat.blt i j then (i, v) :: (j, w) :: t else (j, w) :: lins i v t
def lst1 (i : Nat) (v : Value) (L : List (Nat × Value)) : List (Nat × Value) := lins i v (L.filter (fun q => !(q.1 == i) && !(q.1 + 1 == i && q.2.category == 2)))
def lst2 (i : Nat) (v : Value) (L : List (Nat × Value)) : List (Nat × Value) := lins i v (L.filter (fun q => !(q.1 == i) && (!(q.1 == i + 1) && !(q.1 + 1 == i && q.2.category == 2))))
theorem lget_mem : ∀ {L : List (Nat × Value)} {i : Nat} {v : Value}, lget L i = some v → (i, v) ∈ L
  | [], _, _, h => by cases h
  | (j, w) :: t, i, v, h => by
    unfold lget at h
    cases e : Nat.beq j i with
    | true =>
      rw [e] at h
      cases h
      rw [Nat.eq_of_beq_eq_true e]
      exact List.mem_cons_self
    | false =>
      rw [e] at h
      exact List.mem_cons_of_mem _ (lget_mem h)
theorem lins_mem {i : Nat} {v : Value} : ∀ {L : List (Nat × Value)} {q : Nat × Value}, q ∈ lins i v L → q = (i, v) ∨ q ∈ L
  | [], q, h => Or.inl (List.mem_singleton.mp h)
  | (j, w) :: t, q, h => by
    unfold lins at h
    cases e : Nat.blt i j with
    | true =>
      rw [e] at h
      rcases List.mem_cons.mp h with h | h
      · exact Or.inl h
      · exact Or.inr h
    | false =>
      rw [e] at h
      rcases List.mem_cons.mp h with h | h
      · exact Or.inr (h ▸ List.mem_cons_self)
      · rcases lins_mem h with h | h
        · exact Or.inl h
        · exact Or.inr (List.mem_cons_of_mem _ h)
theorem lget_at {ad : Nat → Nat} {ls : Array Slot} {nL i : Nat} {v : Value} {L : List (Nat × Value)} (h : lv_has ls nL (renL ad L)) (hv : lget L i = some v) : ls[i]? = some (.val (ren ad v)) := h.2.2 (i, ren ad v) (List.mem_map.mpr ⟨(i, v), lget_mem hv, rfl⟩)
theorem lst1_has {ad : Nat → Nat} {ls : Array Slot} {nL i : Nat} {v : Value} {L : List (Nat × Value)} (h : lv_has ls nL ((i, ren ad v) :: (renL ad L).filter (fun q => !(q.1 == i) && !(q.1 + 1 == i && q.2.category == 2)))) : lv_has ls nL (renL ad (lst1 i v L)) := by
  refine ⟨h.1, h.2.1, fun q hq => ?_⟩
  obtain ⟨r, h1, rfl⟩ := List.mem_map.mp hq
  refine h.2.2 _ ?_
  rcases lins_mem h1 with rfl | h1
  · exact List.mem_cons_self
  · obtain ⟨h2, h3⟩ := List.mem_filter.mp h1
    exact List.mem_cons_of_mem _ (List.mem_filter.mpr ⟨List.mem_map.mpr ⟨r, h2, rfl⟩, by rw [ren_cat]; exact h3⟩)
theorem lst2_has {ad : Nat → Nat} {ls : Array Slot} {nL i : Nat} {v : Value} {L : List (Nat × Value)} (h : lv_has ls nL ((i, ren ad v) :: (renL ad L).filter (fun q => !(q.1 == i) && (!(q.1 == i + 1) && !(q.1 + 1 == i && q.2.category == 2))))) : lv_has ls nL (renL ad (lst2 i v L)) := by
  refine ⟨h.1, h.2.1, fun q hq => ?_⟩
  obtain ⟨r, h1, rfl⟩ := List.mem_map.mp hq
  refine h.2.2 _ ?_
  rcases lins_mem h1 with rfl | h1
  · exact List.mem_cons_self
  · obtain ⟨h2, h3⟩ := List.mem_filter.mp h1
    exact List.mem_cons_of_mem _ (List.mem_filter.mpr ⟨List.mem_map.mpr ⟨r, h2, rfl⟩, by rw [ren_cat]; exact h3⟩)
section GS
variable {own : String} {b : ByteArray} {nL : Nat} {ret : Option FieldType} {E : GE} {h : Nat} {Q : Option Value → Mem → Prop} {pc : Nat} {L : List (Nat × Value)} {rest : List Value} {M : Mem}
theorem g_iconst {n : Int} (hdg : decode b pc = .ok (.iconst n, 1)) (k : G own b nL ret E (pc + 1) L (.int (zI n) :: rest) M) : G own b nL ret E pc L (rest) M := by
  intro p l e s m args below meth c D cI cZ cS ad A C CX H locs ls hP hD hS hl
  exact lv_iconst C.1 C.2.1 hdg rfl (k p l e s m args below meth c D cI cZ cS ad A C CX H locs ls hP hD hS hl)
theorem g_bipush {n : Int} (hv : (Int8.ofInt n).toInt32 = zI n) (hdg : decode b pc = .ok (.bipush n, 2)) (k : G own b nL ret E (pc + 2) L (.int (zI n) :: rest) M) : G own b nL ret E pc L (rest) M := by
  intro p l e s m args below meth c D cI cZ cS ad A C CX H locs ls hP hD hS hl
  exact lv_bipush C.1 C.2.1 hdg hv (k p l e s m args below meth c D cI cZ cS ad A C CX H locs ls hP hD hS hl)
theorem g_sipush {n : Int} (hv : (Int16.ofInt n).toInt32 = zI n) (hdg : decode b pc = .ok (.sipush n, 3)) (k : G own b nL ret E (pc + 3) L (.int (zI n) :: rest) M) : G own b nL ret E pc L (rest) M := by
  intro p l e s m args below meth c D cI cZ cS ad A C CX H locs ls hP hD hS hl
  exact lv_sipush C.1 C.2.1 hdg hv (k p l e s m args below meth c D cI cZ cS ad A C CX H locs ls hP hD hS hl)
theorem g_lconst {n : Fin 2} {v : Int64} (hv : Int64.ofNat (n : Nat) = v) (hdg : decode b pc = .ok (.lconst n, 1)) (k : G own b nL ret E (pc + 1) L (.long v :: rest) M) : G own b nL ret E pc L (rest) M := by
  intro p l e s m args below meth c D cI cZ cS ad A C CX H locs ls hP hD hS hl
  exact lv_lconst C.1 C.2.1 hdg hv (k p l e s m args below meth c D cI cZ cS ad A C CX H locs ls hP hD hS hl)
theorem g_iload_n {i : Fin 4} {x : Int32} (hv : lget L (i : Nat) = some (.int x)) (hdg : decode b pc = .ok (.iload_n i, 1)) (k : G own b nL ret E (pc + 1) L (.int x :: rest) M) : G own b nL ret E pc L (rest) M := by
  intro p l e s m args below meth c D cI cZ cS ad A C CX H locs ls hP hD hS hl
  exact lv_iload_n C.1 C.2.1 hdg rfl (lget_at hl hv) (k p l e s m args below meth c D cI cZ cS ad A C CX H locs ls hP hD hS hl)
theorem g_iload {i : Nat} {x : Int32} (hv : lget L i = some (.int x)) (hdg : decode b pc = .ok (.iload i, 2)) (k : G own b nL ret E (pc + 2) L (.int x :: rest) M) : G own b nL ret E pc L (rest) M := by
  intro p l e s m args below meth c D cI cZ cS ad A C CX H locs ls hP hD hS hl
  exact lv_iload C.1 C.2.1 hdg (lget_at hl hv) (k p l e s m args below meth c D cI cZ cS ad A C CX H locs ls hP hD hS hl)
theorem g_istore_n {i : Fin 4} {x : Int32} {L2 : List (Nat × Value)} (hn : (i : Nat) < nL) (hL : lst1 (i : Nat) (.int x) L = L2) (hdg : decode b pc = .ok (.istore_n i, 1)) (k : G own b nL ret E (pc + 1) L2 rest M) : G own b nL ret E pc L (.int x :: rest) M := by
  intro p l e s m args below meth c D cI cZ cS ad A C CX H locs ls hP hD hS hl
  subst hL
  exact lv_istore_n C.1 C.2.1 hdg rfl hl hn rfl (fun ls hl => k p l e s m args below meth c D cI cZ cS ad A C CX H locs ls hP hD hS (lst1_has hl))
theorem g_istore {i : Nat} {x : Int32} {L2 : List (Nat × Value)} (hn : (i : Nat) < nL) (hL : lst1 (i : Nat) (.int x) L = L2) (hdg : decode b pc = .ok (.istore i, 2)) (k : G own b nL ret E (pc + 2) L2 rest M) : G own b nL ret E pc L (.int x :: rest) M := by
  intro p l e s m args below meth c D cI cZ cS ad A C CX H locs ls hP hD hS hl
  subst hL
  exact lv_istore C.1 C.2.1 hdg hl hn rfl (fun ls hl => k p l e s m args below meth c D cI cZ cS ad A C CX H locs ls hP hD hS (lst1_has hl))
theorem g_lload_n {i : Fin 4} {x : Int64} (hv : lget L (i : Nat) = some (.long x)) (hdg : decode b pc = .ok (.lload_n i, 1)) (k : G own b nL ret E (pc + 1) L (.long x :: rest) M) : G own b nL ret E pc L (rest) M := by
  intro p l e s m args below meth c D cI cZ cS ad A C CX H locs ls hP hD hS hl
  exact lv_lload_n C.1 C.2.1 hdg rfl (lget_at hl hv) (k p l e s m args below meth c D cI cZ cS ad A C CX H locs ls hP hD hS hl)
theorem g_lload {i : Nat} {x : Int64} (hv : lget L i = some (.long x)) (hdg : decode b pc = .ok (.lload i, 2)) (k : G own b nL ret E (pc + 2) L (.long x :: rest) M) : G own b nL ret E pc L (rest) M := by
  intro p l e s m args below meth c D cI cZ cS ad A C CX H locs ls hP hD hS hl
  exact lv_lload C.1 C.2.1 hdg (lget_at hl hv) (k p l e s m args below meth c D cI cZ cS ad A C CX H locs ls hP hD hS hl)
theorem g_lstore_n {i : Fin 4} {x : Int64} {L2 : List (Nat × Value)} (hn : (i : Nat) + 1 < nL) (hL : lst2 (i : Nat) (.long x) L = L2) (hdg : decode b pc = .ok (.lstore_n i, 1)) (k : G own b nL ret E (pc + 1) L2 rest M) : G own b nL ret E pc L (.long x :: rest) M := by
  intro p l e s m args below meth c D cI cZ cS ad A C CX H locs ls hP hD hS hl
  subst hL
  exact lv_lstore_n C.1 C.2.1 hdg rfl hl hn rfl (fun ls hl => k p l e s m args below meth c D cI cZ cS ad A C CX H locs ls hP hD hS (lst2_has hl))
theorem g_lstore {i : Nat} {x : Int64} {L2 : List (Nat × Value)} (hn : (i : Nat) + 1 < nL) (hL : lst2 (i : Nat) (.long x) L = L2) (hdg : decode b pc = .ok (.lstore i, 2)) (k : G own b nL ret E (pc + 2) L2 rest M) : G own b nL ret E pc L (.long x :: rest) M := by
  intro p l e s m args below meth c D cI cZ cS ad A C CX H locs ls hP hD hS hl
  subst hL
  exact lv_lstore C.1 C.2.1 hdg hl hn rfl (fun ls hl => k p l e s m args below meth c D cI cZ cS ad A C CX H locs ls hP hD hS (lst2_has hl))
theorem g_aload_n {i : Fin 4} {x : Nat} (hv : lget L (i : Nat) = some (.ref x)) (hdg : decode b pc = .ok (.aload_n i, 1)) (k : G own b nL ret E (pc + 1) L (.ref x :: rest) M) : G own b nL ret E pc L (rest) M := by
  intro p l e s m args below meth c D cI cZ cS ad A C CX H locs ls hP hD hS hl
  exact lv_aload_n C.1 C.2.1 hdg rfl (lget_at hl hv) (k p l e s m args below meth c D cI cZ cS ad A C CX H locs ls hP hD hS hl)
theorem g_aload {i : Nat} {x : Nat} (hv : lget L i = some (.ref x)) (hdg : decode b pc = .ok (.aload i, 2)) (k : G own b nL ret E (pc + 2) L (.ref x :: rest) M) : G own b nL ret E pc L (rest) M := by
  intro p l e s m args below meth c D cI cZ cS ad A C CX H locs ls hP hD hS hl
  exact lv_aload C.1 C.2.1 hdg (lget_at hl hv) (k p l e s m args below meth c D cI cZ cS ad A C CX H locs ls hP hD hS hl)
theorem g_astore_n {i : Fin 4} {x : Nat} {L2 : List (Nat × Value)} (hn : (i : Nat) < nL) (hL : lst1 (i : Nat) (.ref x) L = L2) (hdg : decode b pc = .ok (.astore_n i, 1)) (k : G own b nL ret E (pc + 1) L2 rest M) : G own b nL ret E pc L (.ref x :: rest) M := by
  intro p l e s m args below meth c D cI cZ cS ad A C CX H locs ls hP hD hS hl
  subst hL
  exact lv_astore_n C.1 C.2.1 hdg rfl hl hn rfl (fun ls hl => k p l e s m args below meth c D cI cZ cS ad A C CX H locs ls hP hD hS (lst1_has hl))
theorem g_astore {i : Nat} {x : Nat} {L2 : List (Nat × Value)} (hn : (i : Nat) < nL) (hL : lst1 (i : Nat) (.ref x) L = L2) (hdg : decode b pc = .ok (.astore i, 2)) (k : G own b nL ret E (pc + 2) L2 rest M) : G own b nL ret E pc L (.ref x :: rest) M := by
  intro p l e s m args below meth c D cI cZ cS ad A C CX H locs ls hP hD hS hl
  subst hL
  exact lv_astore C.1 C.2.1 hdg hl hn rfl (fun ls hl => k p l e s m args below meth c D cI cZ cS ad A C CX H locs ls hP hD hS (lst1_has hl))
theorem g_iinc {i : Nat} {n : Int} {x : Int32} {L2 : List (Nat × Value)} (hv : lget L i = some (.int x)) (hn : i < nL) (hL : lst1 i (.int (x + zI n)) L = L2) (hdg : decode b pc = .ok (.iinc i n, 3)) (k : G own b nL ret E (pc + 3) L2 rest M) : G own b nL ret E pc L rest M := by
  intro p l e s m args below meth c D cI cZ cS ad A C CX H locs ls hP hD hS hl
  subst hL
  obtain ⟨j, hj⟩ := List.getElem?_of_mem (List.mem_map.mpr ⟨(i, .int x), lget_mem hv, rfl⟩ : (i, Value.int x) ∈ renL ad L)
  exact lv_iinc C.1 C.2.1 hdg hl hj rfl hn rfl (fun ls hl => k p l e s m args below meth c D cI cZ cS ad A C CX H locs ls hP hD hS (lst1_has hl))
theorem g_iadd {x y : Int32} (hdg : decode b pc = .ok (.iadd, 1)) (k : G own b nL ret E (pc + 1) L (.int (x + y) :: rest) M) : G own b nL ret E pc L (.int y :: .int x :: rest) M := by
  intro p l e s m args below meth c D cI cZ cS ad A C CX H locs ls hP hD hS hl
  exact lv_iadd C.1 C.2.1 hdg (k p l e s m args below meth c D cI cZ cS ad A C CX H locs ls hP hD hS hl)
theorem g_isub {x y : Int32} (hdg : decode b pc = .ok (.isub, 1)) (k : G own b nL ret E (pc + 1) L (.int (x - y) :: rest) M) : G own b nL ret E pc L (.int y :: .int x :: rest) M := by
  intro p l e s m args below meth c D cI cZ cS ad A C CX H locs ls hP hD hS hl
  exact lv_isub C.1 C.2.1 hdg (k p l e s m args below meth c D cI cZ cS ad A C CX H locs ls hP hD hS hl)
theorem g_imul {x y : Int32} (hdg : decode b pc = .ok (.imul, 1)) (k : G own b nL ret E (pc + 1) L (.int (x * y) :: rest) M) : G own b nL ret E pc L (.int y :: .int x :: rest) M := by
  intro p l e s m args below meth c D cI cZ cS ad A C CX H locs ls hP hD hS hl
  exact lv_imul C.1 C.2.1 hdg (k p l e s m args below meth c D cI cZ cS ad A C CX H locs ls hP hD hS hl)
theorem g_iand {x y : Int32} (hdg : decode b pc = .ok (.iand, 1)) (k : G own b nL ret E (pc + 1) L (.int (x &&& y) :: rest) M) : G own b nL ret E pc L (.int y :: .int x :: rest) M := by
  intro p l e s m args below meth c D cI cZ cS ad A C CX H locs ls hP hD hS hl
  exact lv_iand C.1 C.2.1 hdg (k p l e s m args below meth c D cI cZ cS ad A C CX H locs ls hP hD hS hl)
theorem g_ior {x y : Int32} (hdg : decode b pc = .ok (.ior, 1)) (k : G own b nL ret E (pc + 1) L (.int (x ||| y) :: rest) M) : G own b nL ret E pc L (.int y :: .int x :: rest) M := by
  intro p l e s m args below meth c D cI cZ cS ad A C CX H locs ls hP hD hS hl
  exact lv_ior C.1 C.2.1 hdg (k p l e s m args below meth c D cI cZ cS ad A C CX H locs ls hP hD hS hl)
theorem g_ixor {x y : Int32} (hdg : decode b pc = .ok (.ixor, 1)) (k : G own b nL ret E (pc + 1) L (.int (x ^^^ y) :: rest) M) : G own b nL ret E pc L (.int y :: .int x :: rest) M := by
  intro p l e s m args below meth c D cI cZ cS ad A C CX H locs ls hP hD hS hl
  exact lv_ixor C.1 C.2.1 hdg (k p l e s m args below meth c D cI cZ cS ad A C CX H locs ls hP hD hS hl)
theorem g_ishl {x y : Int32} (hdg : decode b pc = .ok (.ishl, 1)) (k : G own b nL ret E (pc + 1) L (.int (x <<< (y &&& 31)) :: rest) M) : G own b nL ret E pc L (.int y :: .int x :: rest) M := by
  intro p l e s m args below meth c D cI cZ cS ad A C CX H locs ls hP hD hS hl
  exact lv_ishl C.1 C.2.1 hdg (k p l e s m args below meth c D cI cZ cS ad A C CX H locs ls hP hD hS hl)
theorem g_ishr {x y : Int32} (hdg : decode b pc = .ok (.ishr, 1)) (k : G own b nL ret E (pc + 1) L (.int (x >>> (y &&& 31)) :: rest) M) : G own b nL ret E pc L (.int y :: .int x :: rest) M := by
  intro p l e s m args below meth c D cI cZ cS ad A C CX H locs ls hP hD hS hl
  exact lv_ishr C.1 C.2.1 hdg (k p l e s m args below meth c D cI cZ cS ad A C CX H locs ls hP hD hS hl)
theorem g_iushr {x y : Int32} (hdg : decode b pc = .ok (.iushr, 1)) (k : G own b nL ret E (pc + 1) L (.int ((x.toUInt32 >>> (y.toUInt32 &&& Int32.toUInt32 31)).toInt32) :: rest) M) : G own b nL ret E pc L (.int y :: .int x :: rest) M := by
  intro p l e s m args below meth c D cI cZ cS ad A C CX H locs ls hP hD hS hl
  exact lv_iushr C.1 C.2.1 hdg rfl (k p l e s m args below meth c D cI cZ cS ad A C CX H locs ls hP hD hS hl)
theorem g_idiv {x y : Int32} (hne : ¬ y = 0) (hdg : decode b pc = .ok (.idiv, 1)) (k : G own b nL ret E (pc + 1) L (.int (x / y) :: rest) M) : G own b nL ret E pc L (.int y :: .int x :: rest) M := by
  intro p l e s m args below meth c D cI cZ cS ad A C CX H locs ls hP hD hS hl
  exact lv_idiv C.1 C.2.1 hdg hne (k p l e s m args below meth c D cI cZ cS ad A C CX H locs ls hP hD hS hl)
theorem g_irem {x y : Int32} (hne : ¬ y = 0) (hdg : decode b pc = .ok (.irem, 1)) (k : G own b nL ret E (pc + 1) L (.int (x - x / y * y) :: rest) M) : G own b nL ret E pc L (.int y :: .int x :: rest) M := by
  intro p l e s m args below meth c D cI cZ cS ad A C CX H locs ls hP hD hS hl
  exact lv_irem C.1 C.2.1 hdg hne (k p l e s m args below meth c D cI cZ cS ad A C CX H locs ls hP hD hS hl)
theorem g_ladd {x y : Int64} (hdg : decode b pc = .ok (.ladd, 1)) (k : G own b nL ret E (pc + 1) L (.long (x + y) :: rest) M) : G own b nL ret E pc L (.long y :: .long x :: rest) M := by
  intro p l e s m args below meth c D cI cZ cS ad A C CX H locs ls hP hD hS hl
  exact lv_ladd C.1 C.2.1 hdg (k p l e s m args below meth c D cI cZ cS ad A C CX H locs ls hP hD hS hl)
theorem g_lmul {x y : Int64} (hdg : decode b pc = .ok (.lmul, 1)) (k : G own b nL ret E (pc + 1) L (.long (x * y) :: rest) M) : G own b nL ret E pc L (.long y :: .long x :: rest) M := by
  intro p l e s m args below meth c D cI cZ cS ad A C CX H locs ls hP hD hS hl
  exact lv_lmul C.1 C.2.1 hdg (k p l e s m args below meth c D cI cZ cS ad A C CX H locs ls hP hD hS hl)
theorem g_ldiv {x y : Int64} (hne : ¬ y = 0) (hdg : decode b pc = .ok (.ldiv, 1)) (k : G own b nL ret E (pc + 1) L (.long (x / y) :: rest) M) : G own b nL ret E pc L (.long y :: .long x :: rest) M := by
  intro p l e s m args below meth c D cI cZ cS ad A C CX H locs ls hP hD hS hl
  exact lv_ldiv C.1 C.2.1 hdg hne (k p l e s m args below meth c D cI cZ cS ad A C CX H locs ls hP hD hS hl)
theorem g_lrem {x y : Int64} (hne : ¬ y = 0) (hdg : decode b pc = .ok (.lrem, 1)) (k : G own b nL ret E (pc + 1) L (.long (x - x / y * y) :: rest) M) : G own b nL ret E pc L (.long y :: .long x :: rest) M := by
  intro p l e s m args below meth c D cI cZ cS ad A C CX H locs ls hP hD hS hl
  exact lv_lrem C.1 C.2.1 hdg hne (k p l e s m args below meth c D cI cZ cS ad A C CX H locs ls hP hD hS hl)
theorem g_lcmp {x y : Int64} (hdg : decode b pc = .ok (.lcmp, 1)) (k : G own b nL ret E (pc + 1) L (.int (lg_cmp x y) :: rest) M) : G own b nL ret E pc L (.long y :: .long x :: rest) M := by
  intro p l e s m args below meth c D cI cZ cS ad A C CX H locs ls hP hD hS hl
  exact W.lcmp C.1 C.2.1 hdg (k p l e s m args below meth c D cI cZ cS ad A C CX H locs ls hP hD hS hl)
theorem g_i2l {x : Int32} (hdg : decode b pc = .ok (.i2l, 1)) (k : G own b nL ret E (pc + 1) L (.long x.toInt64 :: rest) M) : G own b nL ret E pc L (.int x :: rest) M := by
  intro p l e s m args below meth c D cI cZ cS ad A C CX H locs ls hP hD hS hl
  exact lv_i2l C.1 C.2.1 hdg rfl (k p l e s m args below meth c D cI cZ cS ad A C CX H locs ls hP hD hS hl)
theorem g_l2i {x : Int64} (hdg : decode b pc = .ok (.l2i, 1)) (k : G own b nL ret E (pc + 1) L (.int x.toInt32 :: rest) M) : G own b nL ret E pc L (.long x :: rest) M := by
  intro p l e s m args below meth c D cI cZ cS ad A C CX H locs ls hP hD hS hl
  exact lv_l2i C.1 C.2.1 hdg rfl (k p l e s m args below meth c D cI cZ cS ad A C CX H locs ls hP hD hS hl)
theorem g_dup {v : Value} (hc : v.category = 1) (hdg : decode b pc = .ok (.dup, 1)) (k : G own b nL ret E (pc + 1) L (v :: v :: rest) M) : G own b nL ret E pc L (v :: rest) M := by
  intro p l e s m args below meth c D cI cZ cS ad A C CX H locs ls hP hD hS hl
  exact lv_dup C.1 C.2.1 hdg ((ren_cat ad v).trans hc) (k p l e s m args below meth c D cI cZ cS ad A C CX H locs ls hP hD hS hl)
theorem g_pop {v : Value} (hc : v.category = 1) (hdg : decode b pc = .ok (.pop, 1)) (k : G own b nL ret E (pc + 1) L rest M) : G own b nL ret E pc L (v :: rest) M := by
  intro p l e s m args below meth c D cI cZ cS ad A C CX H locs ls hP hD hS hl
  exact lv_pop C.1 C.2.1 hdg ((ren_cat ad v).trans hc) (k p l e s m args below meth c D cI cZ cS ad A C CX H locs ls hP hD hS hl)
theorem g_dup2 {v w : Value} (hv : v.category = 1) (hw : w.category = 1) (hdg : decode b pc = .ok (.dup2, 1)) (k : G own b nL ret E (pc + 1) L (v :: w :: v :: w :: rest) M) : G own b nL ret E pc L (v :: w :: rest) M := by
  intro p l e s m args below meth c D cI cZ cS ad A C CX H locs ls hP hD hS hl
  exact lv_dup2_11 C.1 C.2.1 hdg ((ren_cat ad v).trans hv) ((ren_cat ad w).trans hw) (k p l e s m args below meth c D cI cZ cS ad A C CX H locs ls hP hD hS hl)
theorem g_if_eq {x : Int32} {off : Int} {tgt : Nat} (hdg : decode b pc = .ok (.ifCond .eq off, 3)) (ht : (pc : Int) + off = (tgt : Int)) (kt : x = 0 → G own b nL ret E tgt L rest M) (kf : ¬ x = 0 → G own b nL ret E (pc + 3) L rest M) : G own b nL ret E pc L (.int x :: rest) M := by
  intro p l e s m args below meth c D cI cZ cS ad A C CX H locs ls hP hD hS hl
  exact lv_if_eq C.1 C.2.1 hdg ht (fun q => kt q p l e s m args below meth c D cI cZ cS ad A C CX H locs ls hP hD hS hl) (fun q => kf q p l e s m args below meth c D cI cZ cS ad A C CX H locs ls hP hD hS hl)
theorem g_icmp_eq {x y : Int32} {off : Int} {tgt : Nat} (hdg : decode b pc = .ok (.if_icmp .eq off, 3)) (ht : (pc : Int) + off = (tgt : Int)) (kt : x = y → G own b nL ret E tgt L rest M) (kf : ¬ x = y → G own b nL ret E (pc + 3) L rest M) : G own b nL ret E pc L (.int y :: .int x :: rest) M := by
  intro p l e s m args below meth c D cI cZ cS ad A C CX H locs ls hP hD hS hl
  exact lv_icmp_eq C.1 C.2.1 hdg ht (fun q => kt q p l e s m args below meth c D cI cZ cS ad A C CX H locs ls hP hD hS hl) (fun q => kf q p l e s m args below meth c D cI cZ cS ad A C CX H locs ls hP hD hS hl)
theorem g_if_ne {x : Int32} {off : Int} {tgt : Nat} (hdg : decode b pc = .ok (.ifCond .ne off, 3)) (ht : (pc : Int) + off = (tgt : Int)) (kt : ¬ x = 0 → G own b nL ret E tgt L rest M) (kf : x = 0 → G own b nL ret E (pc + 3) L rest M) : G own b nL ret E pc L (.int x :: rest) M := by
  intro p l e s m args below meth c D cI cZ cS ad A C CX H locs ls hP hD hS hl
  exact lv_if_ne C.1 C.2.1 hdg ht (fun q => kt q p l e s m args below meth c D cI cZ cS ad A C CX H locs ls hP hD hS hl) (fun q => kf q p l e s m args below meth c D cI cZ cS ad A C CX H locs ls hP hD hS hl)
theorem g_icmp_ne {x y : Int32} {off : Int} {tgt : Nat} (hdg : decode b pc = .ok (.if_icmp .ne off, 3)) (ht : (pc : Int) + off = (tgt : Int)) (kt : ¬ x = y → G own b nL ret E tgt L rest M) (kf : x = y → G own b nL ret E (pc + 3) L rest M) : G own b nL ret E pc L (.int y :: .int x :: rest) M := by
  intro p l e s m args below meth c D cI cZ cS ad A C CX H locs ls hP hD hS hl
  exact lv_icmp_ne C.1 C.2.1 hdg ht (fun q => kt q p l e s m args below meth c D cI cZ cS ad A C CX H locs ls hP hD hS hl) (fun q => kf q p l e s m args below meth c D cI cZ cS ad A C CX H locs ls hP hD hS hl)
theorem g_if_lt {x : Int32} {off : Int} {tgt : Nat} (hdg : decode b pc = .ok (.ifCond .lt off, 3)) (ht : (pc : Int) + off = (tgt : Int)) (kt : x < 0 → G own b nL ret E tgt L rest M) (kf : ¬ x < 0 → G own b nL ret E (pc + 3) L rest M) : G own b nL ret E pc L (.int x :: rest) M := by
  intro p l e s m args below meth c D cI cZ cS ad A C CX H locs ls hP hD hS hl
  exact lv_if_lt C.1 C.2.1 hdg ht (fun q => kt q p l e s m args below meth c D cI cZ cS ad A C CX H locs ls hP hD hS hl) (fun q => kf q p l e s m args below meth c D cI cZ cS ad A C CX H locs ls hP hD hS hl)
theorem g_icmp_lt {x y : Int32} {off : Int} {tgt : Nat} (hdg : decode b pc = .ok (.if_icmp .lt off, 3)) (ht : (pc : Int) + off = (tgt : Int)) (kt : x < y → G own b nL ret E tgt L rest M) (kf : ¬ x < y → G own b nL ret E (pc + 3) L rest M) : G own b nL ret E pc L (.int y :: .int x :: rest) M := by
  intro p l e s m args below meth c D cI cZ cS ad A C CX H locs ls hP hD hS hl
  exact lv_icmp_lt C.1 C.2.1 hdg ht (fun q => kt q p l e s m args below meth c D cI cZ cS ad A C CX H locs ls hP hD hS hl) (fun q => kf q p l e s m args below meth c D cI cZ cS ad A C CX H locs ls hP hD hS hl)
theorem g_if_ge {x : Int32} {off : Int} {tgt : Nat} (hdg : decode b pc = .ok (.ifCond .ge off, 3)) (ht : (pc : Int) + off = (tgt : Int)) (kt : 0 ≤ x → G own b nL ret E tgt L rest M) (kf : ¬ 0 ≤ x → G own b nL ret E (pc + 3) L rest M) : G own b nL ret E pc L (.int x :: rest) M := by
  intro p l e s m args below meth c D cI cZ cS ad A C CX H locs ls hP hD hS hl
  exact lv_if_ge C.1 C.2.1 hdg ht (fun q => kt q p l e s m args below meth c D cI cZ cS ad A C CX H locs ls hP hD hS hl) (fun q => kf q p l e s m args below meth c D cI cZ cS ad A C CX H locs ls hP hD hS hl)
theorem g_icmp_ge {x y : Int32} {off : Int} {tgt : Nat} (hdg : decode b pc = .ok (.if_icmp .ge off, 3)) (ht : (pc : Int) + off = (tgt : Int)) (kt : y ≤ x → G own b nL ret E tgt L rest M) (kf : ¬ y ≤ x → G own b nL ret E (pc + 3) L rest M) : G own b nL ret E pc L (.int y :: .int x :: rest) M := by
  intro p l e s m args below meth c D cI cZ cS ad A C CX H locs ls hP hD hS hl
  exact lv_icmp_ge C.1 C.2.1 hdg ht (fun q => kt q p l e s m args below meth c D cI cZ cS ad A C CX H locs ls hP hD hS hl) (fun q => kf q p l e s m args below meth c D cI cZ cS ad A C CX H locs ls hP hD hS hl)
theorem g_if_gt {x : Int32} {off : Int} {tgt : Nat} (hdg : decode b pc = .ok (.ifCond .gt off, 3)) (ht : (pc : Int) + off = (tgt : Int)) (kt : 0 < x → G own b nL ret E tgt L rest M) (kf : ¬ 0 < x → G own b nL ret E (pc + 3) L rest M) : G own b nL ret E pc L (.int x :: rest) M := by
  intro p l e s m args below meth c D cI cZ cS ad A C CX H locs ls hP hD hS hl
  exact lv_if_gt C.1 C.2.1 hdg ht (fun q => kt q p l e s m args below meth c D cI cZ cS ad A C CX H locs ls hP hD hS hl) (fun q => kf q p l e s m args below meth c D cI cZ cS ad A C CX H locs ls hP hD hS hl)
theorem g_icmp_gt {x y : Int32} {off : Int} {tgt : Nat} (hdg : decode b pc = .ok (.if_icmp .gt off, 3)) (ht : (pc : Int) + off = (tgt : Int)) (kt : y < x → G own b nL ret E tgt L rest M) (kf : ¬ y < x → G own b nL ret E (pc + 3) L rest M) : G own b nL ret E pc L (.int y :: .int x :: rest) M := by
  intro p l e s m args below meth c D cI cZ cS ad A C CX H locs ls hP hD hS hl
  exact lv_icmp_gt C.1 C.2.1 hdg ht (fun q => kt q p l e s m args below meth c D cI cZ cS ad A C CX H locs ls hP hD hS hl) (fun q => kf q p l e s m args below meth c D cI cZ cS ad A C CX H locs ls hP hD hS hl)
theorem g_if_le {x : Int32} {off : Int} {tgt : Nat} (hdg : decode b pc = .ok (.ifCond .le off, 3)) (ht : (pc : Int) + off = (tgt : Int)) (kt : x ≤ 0 → G own b nL ret E tgt L rest M) (kf : ¬ x ≤ 0 → G own b nL ret E (pc + 3) L rest M) : G own b nL ret E pc L (.int x :: rest) M := by
  intro p l e s m args below meth c D cI cZ cS ad A C CX H locs ls hP hD hS hl
  exact lv_if_le C.1 C.2.1 hdg ht (fun q => kt q p l e s m args below meth c D cI cZ cS ad A C CX H locs ls hP hD hS hl) (fun q => kf q p l e s m args below meth c D cI cZ cS ad A C CX H locs ls hP hD hS hl)
theorem g_icmp_le {x y : Int32} {off : Int} {tgt : Nat} (hdg : decode b pc = .ok (.if_icmp .le off, 3)) (ht : (pc : Int) + off = (tgt : Int)) (kt : x ≤ y → G own b nL ret E tgt L rest M) (kf : ¬ x ≤ y → G own b nL ret E (pc + 3) L rest M) : G own b nL ret E pc L (.int y :: .int x :: rest) M := by
  intro p l e s m args below meth c D cI cZ cS ad A C CX H locs ls hP hD hS hl
  exact lv_icmp_le C.1 C.2.1 hdg ht (fun q => kt q p l e s m args below meth c D cI cZ cS ad A C CX H locs ls hP hD hS hl) (fun q => kf q p l e s m args below meth c D cI cZ cS ad A C CX H locs ls hP hD hS hl)
theorem g_goto {off : Int} {tgt : Nat} (hdg : decode b pc = .ok (.goto off, 3)) (ht : (pc : Int) + off = (tgt : Int)) (k : G own b nL ret E tgt L rest M) : G own b nL ret E pc L rest M := by
  intro p l e s m args below meth c D cI cZ cS ad A C CX H locs ls hP hD hS hl
  exact lv_goto C.1 C.2.1 hdg ht (k p l e s m args below meth c D cI cZ cS ad A C CX H locs ls hP hD hS hl)
theorem g_tableIn {dflt lo hi : Int} {offs : Array Int} {len : Nat} {x : Int32} {off : Int} {tgt : Nat} (hdg : decode b pc = .ok (.tableswitch dflt lo hi offs, len)) (h1 : ¬ x.toInt < lo) (h2 : ¬ hi < x.toInt) (ho : offs[(x.toInt - lo).toNat]? = some off) (ht : (pc : Int) + off = (tgt : Int)) (k : G own b nL ret E tgt L rest M) : G own b nL ret E pc L (.int x :: rest) M := by
  intro p l e s m args below meth c D cI cZ cS ad A C CX H locs ls hP hD hS hl
  exact lv_tableIn C.1 C.2.1 hdg h1 h2 ho ht (k p l e s m args below meth c D cI cZ cS ad A C CX H locs ls hP hD hS hl)
theorem g_tableOut {dflt lo hi : Int} {offs : Array Int} {len : Nat} {x : Int32} {tgt : Nat} (hdg : decode b pc = .ok (.tableswitch dflt lo hi offs, len)) (ho : x.toInt < lo ∨ hi < x.toInt) (ht : (pc : Int) + dflt = (tgt : Int)) (k : G own b nL ret E tgt L rest M) : G own b nL ret E pc L (.int x :: rest) M := by
  intro p l e s m args below meth c D cI cZ cS ad A C CX H locs ls hP hD hS hl
  exact lv_tableOut C.1 C.2.1 hdg ho ht (k p l e s m args below meth c D cI cZ cS ad A C CX H locs ls hP hD hS hl)
theorem g_ldc2 {index : Nat} {v : Int64} (hw : Cond.constantLong own index v ∈ tb) (hdg : decode b pc = .ok (.ldc2_w index, 3)) (k : G own b nL ret E (pc + 3) L (.long v :: rest) M) : G own b nL ret E pc L rest M := by
  intro p l e s m args below meth c D cI cZ cS ad A C CX H locs ls hP hD hS hl
  exact lv_ldc2 C.1 C.2.1 C.2.2.2.2.1 (C.2.2.2.2.2.1 _ hw) hdg (k p l e s m args below meth c D cI cZ cS ad A C CX H locs ls hP hD hS hl)
theorem g_ldcw {index : Nat} {v : Int32} (hw : Cond.constant own index v ∈ tb) (hdg : decode b pc = .ok (.ldc_w index, 3)) (k : G own b nL ret E (pc + 3) L (.int v :: rest) M) : G own b nL ret E pc L rest M := by
  intro p l e s m args below meth c D cI cZ cS ad A C CX H locs ls hP hD hS hl
  exact lv_ldcw C.1 C.2.1 C.2.2.2.2.1 (C.2.2.2.2.2.1 _ hw) hdg (k p l e s m args below meth c D cI cZ cS ad A C CX H locs ls hP hD hS hl)
theorem g_ireturn {v : Int32} (hr : ret = some .int) (hdg : decode b pc = .ok (.ireturn, 1)) (hq : Q (some (.int v)) M) : G own b nL ret (gE h Q) pc L [.int v] M := by
  intro p l e s m args below meth c D cI cZ cS ad A C CX H locs ls hP hD hS hl
  exact W.iret C.1 C.2.1 (C.2.2.1.trans hr) (fun t ht hW => ⟨⟨some (.int v), M, rfl, hq, by rw [ht]; exact hP, hD⟩, hS.F ht⟩) hS.2.2 hdg C.2.2.2.2.2.2.1
theorem g_zreturn {v : Int32} (hr : ret = some .boolean) (hv : narrow .boolean (.int v) = .int v) (hdg : decode b pc = .ok (.ireturn, 1)) (hq : Q (some (.int v)) M) : G own b nL ret (gE h Q) pc L [.int v] M := by
  intro p l e s m args below meth c D cI cZ cS ad A C CX H locs ls hP hD hS hl
  exact W.zret C.1 C.2.1 (C.2.2.1.trans hr) hv (fun t ht hW => ⟨⟨some (.int v), M, rfl, hq, by rw [ht]; exact hP, hD⟩, hS.F ht⟩) hS.2.2 hdg C.2.2.2.2.2.2.1
theorem g_lreturn {v : Int64} (hr : ret = some .long) (hdg : decode b pc = .ok (.lreturn, 1)) (hq : Q (some (.long v)) M) : G own b nL ret (gE h Q) pc L [.long v] M := by
  intro p l e s m args below meth c D cI cZ cS ad A C CX H locs ls hP hD hS hl
  exact W.lret C.1 C.2.1 (C.2.2.1.trans hr) (fun t ht hW => ⟨⟨some (.long v), M, rfl, hq, by rw [ht]; exact hP, hD⟩, hS.F ht⟩) hS.2.2 hdg C.2.2.2.2.2.2.1
theorem g_areturn {v : Nat} {rt : FieldType} (hr : ret = some rt) (hrt : (∃ n, rt = .object n) ∨ ∃ t, rt = .array t) (hdg : decode b pc = .ok (.areturn, 1)) (hq : Q (some (.ref v)) M) : G own b nL ret (gE h Q) pc L [.ref v] M := by
  intro p l e s m args below meth c D cI cZ cS ad A C CX H locs ls hP hD hS hl
  exact W.aret C.1 C.2.1 (C.2.2.1.trans hr) hrt (Or.inr ⟨_, rfl⟩) (fun t ht hW => ⟨⟨some (.ref v), M, rfl, hq, by rw [ht]; exact hP, hD⟩, hS.F ht⟩) hS.2.2 hdg C.2.2.2.2.2.2.1
theorem g_return (hr : ret = none) (hdg : decode b pc = .ok (.return_, 1)) (hq : Q none M) : G own b nL ret (gE h Q) pc L [] M := by
  intro p l e s m args below meth c D cI cZ cS ad A C CX H locs ls hP hD hS hl
  exact W.vret C.1 C.2.1 (C.2.2.1.trans hr) (fun t ht hW => ⟨⟨none, M, rfl, hq, by rw [ht]; exact hP, hD⟩, hS.F ht⟩) hS.2.2 hdg C.2.2.2.2.2.2.1
theorem g_iald {k n : Nat} {i : Int32} (hk : k < 42) (hs : shK k = 6) (hN : shN k = n) (hin : vp_in i n) (hdg : decode b pc = .ok (.iaload, 1)) (kk : G own b nL ret E (pc + 1) L (.int (M k i.toNatClampNeg) :: rest) M) : G own b nL ret E pc L (.int i :: .ref k :: rest) M := by
  intro p l e s m args below meth c D cI cZ cS ad A C CX H locs ls hP hD hS hl
  subst hN
  have he := Wd_get cI cZ cS ad M hk
  rw [ent_int cI cZ cS ad M hs] at he
  exact va_iald C.1 C.2.1 C.2.2.2.2.2.2.2.1 hP k 0 he rfl hin hdg (kk p l e s m args below meth c D cI cZ cS ad A C CX H locs ls hP hD hS hl)
theorem g_zald {k n : Nat} {i : Int32} (hk : k < 42) (hs : shK k = 7) (hN : shN k = n) (hin : vp_in i n) (hdg : decode b pc = .ok (.baload, 1)) (kk : G own b nL ret E (pc + 1) L (.int (M k i.toNatClampNeg) :: rest) M) : G own b nL ret E pc L (.int i :: .ref k :: rest) M := by
  intro p l e s m args below meth c D cI cZ cS ad A C CX H locs ls hP hD hS hl
  subst hN
  have he := Wd_get cI cZ cS ad M hk
  rw [ent_bool cI cZ cS ad M hs] at he
  exact va_zald C.1 C.2.1 C.2.2.2.2.2.2.2.1 hP k 1 he rfl hin hdg (kk p l e s m args below meth c D cI cZ cS ad A C CX H locs ls hP hD hS hl)
theorem g_aald {k n r : Nat} {i : Int32} (hk : k < 42) (hs : shK k = 8) (hN : shN k = n) (hin : vp_in i n) (hr : rf k i.toNatClampNeg = some r) (hdg : decode b pc = .ok (.aaload, 1)) (kk : G own b nL ret E (pc + 1) L (.ref r :: rest) M) : G own b nL ret E pc L (.int i :: .ref k :: rest) M := by
  intro p l e s m args below meth c D cI cZ cS ad A C CX H locs ls hP hD hS hl
  subst hN
  have he := Wd_get cI cZ cS ad M hk
  rw [ent_ref cI cZ cS ad M hs] at he
  refine va_aldq C.1 C.2.1 C.2.2.2.2.2.2.2.1 hP k 2 he rfl hin hdg ?_
  rw [hr]
  exact (kk p l e s m args below meth c D cI cZ cS ad A C CX H locs ls hP hD hS hl)
theorem g_iast {k n : Nat} {i x : Int32} (hk : k < 42) (hs : shK k = 6) (hN : shN k = n) (hin : vp_in i n) (hdg : decode b pc = .ok (.iastore, 1)) (kk : G own b nL ret E (pc + 1) L rest (mset M k i.toNatClampNeg x)) : G own b nL ret E pc L (.int x :: .int i :: .ref k :: rest) M := by
  intro p l e_ s m args below meth c D cI cZ cS ad A C CX H locs ls hP hD hS hl
  subst hN
  have he := Wd_get cI cZ cS ad M hk
  rw [ent_int cI cZ cS ad M hs] at he
  refine va_iast C.1 C.2.1 C.2.2.2.2.2.2.2.1 hP hD hS k 0 he rfl hin hdg (fun H1 locs1 hP1 hD1 hS1 => ?_)
  have e : (Wd cI cZ cS ad M).set k (ad k, .inl (cI, shN k, .inl (upd (M k) i.toNatClampNeg x))) = Wd cI cZ cS ad (mset M k i.toNatClampNeg x) := Wd_set _ _ _ _ _ _ (by rw [ent_int cI cZ cS ad _ hs, mset_row])
  rw [e] at hP1 hD1
  exact kk p l e_ s m args below meth c D cI cZ cS ad A C CX H1 locs1 ls hP1 hD1 hS1 hl
theorem g_zast {k n : Nat} {i x : Int32} (hk : k < 42) (hs : shK k = 7) (hN : shN k = n) (hin : vp_in i n) (hx : vp_nar .boolean x = x) (hdg : decode b pc = .ok (.bastore, 1)) (kk : G own b nL ret E (pc + 1) L rest (mset M k i.toNatClampNeg x)) : G own b nL ret E pc L (.int x :: .int i :: .ref k :: rest) M := by
  intro p l e_ s m args below meth c D cI cZ cS ad A C CX H locs ls hP hD hS hl
  subst hN
  have he := Wd_get cI cZ cS ad M hk
  rw [ent_bool cI cZ cS ad M hs] at he
  refine va_zast C.1 C.2.1 C.2.2.2.2.2.2.2.1 hP hD hS k 1 he rfl hin hdg (fun H1 locs1 hP1 hD1 hS1 => ?_)
  rw [hx] at hP1 hD1
  have e : (Wd cI cZ cS ad M).set k (ad k, .inl (cZ, shN k, .inl (upd (M k) i.toNatClampNeg x))) = Wd cI cZ cS ad (mset M k i.toNatClampNeg x) := Wd_set _ _ _ _ _ _ (by rw [ent_bool cI cZ cS ad _ hs, mset_row])
  rw [e] at hP1 hD1
  exact kk p l e_ s m args below meth c D cI cZ cS ad A C CX H1 locs1 ls hP1 hD1 hS1 hl
theorem g_gets {index : Nat} (hw : Cond.fieldLink own index "SilentAsking" "INVERSE" "[I" ∈ tb) (hdg : decode b pc = .ok (.getstatic index, 3)) (k : G own b nL ret E (pc + 3) L (.ref 42 :: rest) M) : G own b nL ret E pc L rest M := by
  intro p l e s m args below meth c D cI cZ cS ad A C CX H locs ls hP hD hS hl
  exact va_gets C.1 C.2.1 C.2.2.2.2.2.2.2.2.1.1 hS C.2.2.2.2.1 (C.2.2.2.2.2.1 _ hw) (fun _ q => q) hdg (k p l e s m args below meth c D cI cZ cS ad A C CX H locs ls hP hD hS hl)
theorem g_ialdT {i : Int32} {v : Int32} (hin : vp_in i 9) (hv : invL.getD i.toNatClampNeg 0 = v) (hdg : decode b pc = .ok (.iaload, 1)) (k : G own b nL ret E (pc + 1) L (.int v :: rest) M) : G own b nL ret E pc L (.int i :: .ref 42 :: rest) M := by
  intro p l e s m args below meth c D cI cZ cS ad A C CX H locs ls hP hD hS hl
  exact va_ti C.1 C.2.1 C.2.2.2.2.2.2.2.2.1.2.1 hS hin (v := .int v) (by rw [hv]) hdg (k p l e s m args below meth c D cI cZ cS ad A C CX H locs ls hP hD hS hl)
theorem g_alenT (hdg : decode b pc = .ok (.arraylength, 1)) (k : G own b nL ret E (pc + 1) L (.int (zI 9) :: rest) M) : G own b nL ret E pc L (.ref 42 :: rest) M := by
  intro p l e s m args below meth c D cI cZ cS ad A C CX H locs ls hP hD hS hl
  exact va_tlen C.1 C.2.1 C.2.2.2.2.2.2.2.2.1.2.1 hS rfl hdg (k p l e s m args below meth c D cI cZ cS ad A C CX H locs ls hP hD hS hl)
theorem g_get {index k ci j N : Nat} {C : String} {T : u_T} {v : Value} (hk : k < 42) (hs : shK k = ci) (hc : ci < 6) (hv : fvA M k j = v) (hcl : vwCl[ci]? = some (C, T, N)) (hin : ∀ w ∈ u_ws C T N, w ∈ tb) (hj : j < N) (hN : shN k = N) (hw : Cond.fieldLink own index (T j).1 (T j).2.1 (T j).2.2.1 ∈ tb) (hdg : decode b pc = .ok (.getfield index, 3)) (kk : G own b nL ret E (pc + 3) L (v :: rest) M) : G own b nL ret E pc L (.ref k :: rest) M := by
  intro p l e s m args below meth c D cI cZ cS ad A C9 CX H locs ls hP hD hS hl
  subst hv
  have he := Wd_get cI cZ cS ad M hk
  rw [ent_obj cI cZ cS ad M hs hc] at he
  exact va_get C9.1 C9.2.1 C9.2.2.2.2.2.1 hin C9.2.2.2.2.1 C9.2.2.2.2.2.2.2.1 hP k he hcl j hj (C9.2.2.2.2.2.1 _ hw) (fun _ q => q) (flds_get ad M (by rw [hN]; exact hj)) hdg (kk p l e s m args below meth c D cI cZ cS ad A C9 CX H locs ls hP hD hS hl)
theorem g_put {index k ci j N : Nat} {C : String} {T : u_T} {v : Int32} (ty0 : Nat → FieldType) (hk : k < 42) (hs : shK k = ci) (hc : ci < 6) (hr : rf k j = none) (hcl : vwCl[ci]? = some (C, T, N)) (hin : ∀ w ∈ u_ws C T N, w ∈ tb) (hty : ∀ k, k < N → parseFieldDescriptor (T k).2.2.1 = some (ty0 k)) (hnm : ∀ a, a < N → ∀ b, b < N → a ≠ b → (T a).2.1 ≠ (T b).2.1) (hfin : (T j).2.2.2 = false) {ty : FieldType} (hd : parseFieldDescriptor (T j).2.2.1 = some ty) (hn : narrow ty (.int v) = .int v) (hfit : fits ty (.int v) = true) (hj : j < N) (hN : shN k = N) (hw : Cond.fieldLink own index (T j).1 (T j).2.1 (T j).2.2.1 ∈ tb) (hdg : decode b pc = .ok (.putfield index, 3)) (kk : G own b nL ret E (pc + 3) L rest (mset M k j v)) : G own b nL ret E pc L (.int v :: .ref k :: rest) M := by
  intro p l e_ s m args below meth c D cI cZ cS ad A C9 CX H locs ls hP hD hS hl
  have he := Wd_get cI cZ cS ad M hk
  rw [ent_obj cI cZ cS ad M hs hc] at he
  refine va_put (v := .int v) C9.1 C9.2.1 C9.2.2.2.2.2.1 hin ty0 hty hnm C9.2.2.2.2.1 C9.2.2.2.2.2.2.2.1 hP hD hS k he hcl j hj (C9.2.2.2.2.2.1 _ hw) (fun _ q => q) hfin hd hn hfit (by simp [flds]; omega) hdg (fun H1 locs1 hP1 hD1 hS1 => ?_)
  have e : (Wd cI cZ cS ad M).set k (ad k, .inr (ci, (flds ad M k).set j (.int v))) = Wd cI cZ cS ad (mset M k j v) := Wd_set _ _ _ _ _ _ (by rw [ent_obj cI cZ cS ad _ hs hc, flds_set _ _ _ hr])
  rw [e] at hP1 hD1
  exact kk p l e_ s m args below meth c D cI cZ cS ad A C9 CX H1 locs1 ls hP1 hD1 hS1 hl
theorem g_getN {index k ci j N : Nat} {C : String} {T : u_T} {host : String} {v : Value} (hk : k < 42) (hs : shK k = ci) (hc : ci < 6) (hv : fvA M k j = v) (hcl : vwCl[ci]? = some (C, T, N)) (hin : ∀ w ∈ u_ws C T N, w ∈ tb) (hj : j < N) (hN : shN k = N) (hw : Cond.fieldLinkNest own index (T j).1 (T j).2.1 (T j).2.2.1 host ∈ nwl) (hdg : decode b pc = .ok (.getfield index, 3)) (kk : G own b nL ret E (pc + 3) L (v :: rest) M) : G own b nL ret E pc L (.ref k :: rest) M := by
  intro p l e s m args below meth c D cI cZ cS ad A C9 CX H locs ls hP hD hS hl
  subst hv
  have he := Wd_get cI cZ cS ad M hk
  rw [ent_obj cI cZ cS ad M hs hc] at he
  exact va_getN C9.1 C9.2.1 C9.2.2.2.2.2.1 hin C9.2.2.2.2.1 C9.2.2.2.2.2.2.2.1 hP k he hcl j hj (va_Nw.use rfl (C9.2.2.2.2.2.2.2.2.1.2.2 _ hw)) (fun _ q => q) (flds_get ad M (by rw [hN]; exact hj)) hdg (kk p l e s m args below meth c D cI cZ cS ad A C9 CX H locs ls hP hD hS hl)
theorem g_putN {index k ci j N : Nat} {C : String} {T : u_T} {host : String} {v : Int32} (ty0 : Nat → FieldType) (hk : k < 42) (hs : shK k = ci) (hc : ci < 6) (hr : rf k j = none) (hcl : vwCl[ci]? = some (C, T, N)) (hin : ∀ w ∈ u_ws C T N, w ∈ tb) (hty : ∀ k, k < N → parseFieldDescriptor (T k).2.2.1 = some (ty0 k)) (hnm : ∀ a, a < N → ∀ b, b < N → a ≠ b → (T a).2.1 ≠ (T b).2.1) (hfin : (T j).2.2.2 = false) {ty : FieldType} (hd : parseFieldDescriptor (T j).2.2.1 = some ty) (hn : narrow ty (.int v) = .int v) (hfit : fits ty (.int v) = true) (hj : j < N) (hN : shN k = N) (hw : Cond.fieldLinkNest own index (T j).1 (T j).2.1 (T j).2.2.1 host ∈ nwl) (hdg : decode b pc = .ok (.putfield index, 3)) (kk : G own b nL ret E (pc + 3) L rest (mset M k j v)) : G own b nL ret E pc L (.int v :: .ref k :: rest) M := by
  intro p l e_ s m args below meth c D cI cZ cS ad A C9 CX H locs ls hP hD hS hl
  have he := Wd_get cI cZ cS ad M hk
  rw [ent_obj cI cZ cS ad M hs hc] at he
  refine va_putN (v := .int v) C9.1 C9.2.1 C9.2.2.2.2.2.1 hin ty0 hty hnm C9.2.2.2.2.1 C9.2.2.2.2.2.2.2.1 hP hD hS k he hcl j hj (va_Nw.use rfl (C9.2.2.2.2.2.2.2.2.1.2.2 _ hw)) (fun _ q => q) hfin hd hn hfit (by simp [flds]; omega) hdg (fun H1 locs1 hP1 hD1 hS1 => ?_)
  have e : (Wd cI cZ cS ad M).set k (ad k, .inr (ci, (flds ad M k).set j (.int v))) = Wd cI cZ cS ad (mset M k j v) := Wd_set _ _ _ _ _ _ (by rw [ent_obj cI cZ cS ad _ hs hc, flds_set _ _ _ hr])
  rw [e] at hP1 hD1
  exact kk p l e_ s m args below meth c D cI cZ cS ad A C9 CX H1 locs1 ls hP1 hD1 hS1 hl
end GS
end
section
/-! calls: the callee's contract (Ev) carries the whole world -/
theorem good_tbl {w : Cond} (h : w ∈ tb) : w ∈ tb ∧ ((w.onTables && w.keeps) = true ∨ ∃ ty, w = .arrayClass ty) := ⟨h, good_of_word (List.mem_filter.mp h).2⟩
theorem good_code {y : MethodName} {b : ByteArray} {n : Nat} {ret : Option FieldType} (h : Cond.code y b n ret ∈ tb) : GoodIn tb (.code y b n ret :: tb) := by
  intro w hw
  rcases List.mem_cons.mp hw with rfl | hw
  · exact good_tbl h
  · exact good_tbl hw
theorem pc_blind {av : List Value} {D : va_G} {cI cZ cS : ClassId} {ad : Nat → Nat} {M : Mem} {sz : Nat} : FrameBlind (va_Pc av (fun U => U.heap.size = sz ∧ va_P D vwCl (Wd cI cZ cS ad M) U.heap ∧ va_K D vwCl (ty3 cI cZ cS) U ∧ va_D (AA ad sz) (Wd cI cZ cS ad M) ∧ ST ad (AA ad sz) U)) := by
  intro a U g mk hq
  obtain ⟨q0, q1, q2, q3, q4, q5⟩ := hq
  exact ⟨q0, q1, q2, va_K.moved (u := U) (U := U.calling g mk a) (Vm.Alike.refl U.vm) q3, q4, ⟨va_Z.moved (u := U) (U := U.calling g mk a) (Vm.Alike.refl U.vm) q5.1, va_T.moved (u := U) (U := U.calling g mk a) (Vm.Alike.refl U.vm) q5.2.1, fun w hw => nwl_same (u := U) (U := U.calling g mk a) hw rfl (q5.2.2 w hw)⟩⟩
section GCALL
variable {own : String} {b : ByteArray} {nL : Nat} {ret : Option FieldType} {E : GE} {h : Nat} {Q : Option Value → Mem → Prop} {pc : Nat} {L : List (Nat × Value)} {rest : List Value} {M : Mem}
variable {p : Program} {l : Launch} {e : Env} {s : State} {m : MethodId} {args : Array Value} {below : List Frame} {meth : Method} {c : Code} {D : va_G} {cI cZ cS : ClassId} {ad : Nat → Nat} {A : Nat → Prop} {H : Heap} {locs : List Loc} {ls : Array Slot}
theorem g_pre {avs : List Value} (C : GC own b nL ret p s m args meth c D cI cZ cS ad A) (hP : va_P D vwCl (Wd cI cZ cS ad M) H) (hD : va_D A (Wd cI cZ cS ad M)) (hS : va_S A s.heap H locs) :
    PreS s H (va_Pc (avs.map (ren ad)) (fun U => U.heap.size = H.size ∧ va_P D vwCl (Wd cI cZ cS ad M) U.heap ∧ va_K D vwCl (ty3 cI cZ cS) U ∧ va_D (AA ad H.size) (Wd cI cZ cS ad M) ∧ ST ad (AA ad H.size) U)) (avs.map (ren ad)) := by
  refine ⟨pc_blind, fun U hU hW => ⟨rfl, by rw [hU], by rw [hU]; exact hP, va_K.moved hW.alike C.2.2.2.2.2.2.2.1, AA_self hD _, C.2.2.2.2.2.2.2.2.1.at hS hW hU (AA_in hD hS C.2.2.2.2.2.2.2.2.2)⟩⟩
theorem g_after {Q' : Option Value → Mem → Prop} {a : Array Value} {st : List Value} (C : GC own b nL ret p s m args meth c D cI cZ cS ad A) (hP : va_P D vwCl (Wd cI cZ cS ad M) H) (hD : va_D A (Wd cI cZ cS ad M)) (hS : va_S A s.heap H locs) (hl : lv_has ls nL (renL ad L))
    (CX : E.2.2.2.2 s args A) (hr : va_Run p l e E.1 s m args below meth c H locs E.2.1 E.2.2.1 0 0 (F0 m pc ls st) (rest.map (ren ad)) (Qst D cI cZ cS ad (AA ad H.size) Q' a) (AA ad H.size))
    (kk : ∀ (r : Option Value) (M' : Mem), Q' r M' → G own b nL ret E (pc + 3) L (r.toList ++ rest) M') : W p l e E.1 s m args below meth c H locs E.2.1 E.2.2.1 (E.2.2.2.1 below D cI cZ cS ad A args s) (F0 m pc ls st) := by
  intro T hT X
  obtain ⟨v, st₀, t, T', L1, h0, X', hL, e1, e2, ⟨⟨r, M', hv, hq, hP1, hD1⟩, hz, hk⟩, stp⟩ := hr T hT X
  have hv := Outcome.returned.inj hv
  subst hv
  rw [h0] at hz hk
  have hin := AA_in hD hS C.2.2.2.2.2.2.2.2.2
  have hS1 : va_S A s.heap T'.heap (locs ++ L1) := ⟨Nat.le_trans hS.1 (by rw [e1]; exact hz), fun q h1 h2 => by rw [e1, hk q (Nat.lt_of_lt_of_le h1 hS.1) (fun z => h2 (hin q z))]; exact hS.2.1 q h1 h2, fun q hq => by
      rcases List.mem_append.mp hq with h | h
      · exact hS.2.2 q h
      · exact hin _ (hL q h)⟩
  obtain ⟨t2, a1, b1⟩ := kk r M' hq p l e s m args below meth c D cI cZ cS ad A C CX T'.heap (locs ++ L1) ls (by rw [e1]; exact hP1) (hD1.weaken (fun _ q _ hx => hin q.1 hx)) hS1 hl T' rfl X'
  refine ⟨t2, stp t2 ?_, b1⟩
  have e : (r.toList ++ rest).map (ren ad) = (r.map (ren ad)).toList ++ rest.map (ren ad) := by cases r <;> simp
  rw [e] at a1
  exact a1
end GCALL
section GCALL2
variable {own : String} {b : ByteArray} {nL : Nat} {ret : Option FieldType} {E : GE} {h : Nat} {Q : Option Value → Mem → Prop} {pc : Nat} {L : List (Nat × Value)} {st rest : List Value} {M : Mem}
variable {y : MethodName} {b' : ByteArray} {nL' h' index n : Nat} {ret' : Option FieldType} {avs : List Value} {Q' : Option Value → Mem → Prop}
abbrev okRoom (h' : Nat) (E : GE) (nL' : Nat) : Prop := h' + 1 ≤ E.1.frames ∧ 8 + (nL' + 11) + 31 * h' ≤ E.1.locals ∧ E.2.1 ≤ E.1.cells ∧ E.2.2.1 ≤ E.1.slots
abbrev okY (y : MethodName) (n : Nat) : Prop := y.cls ≠ "java/lang/invoke/MethodHandle" ∧ y.cls ≠ "java/lang/invoke/VarHandle" ∧ (parseMethodDescriptor y.desc).map (fun d => d.parameters.length) = some n
theorem g_callS (w1 : Cond.code y b' nL' ret' ∈ tb) (w2 : Cond.methodLink own index y ∈ tb) (w3 : Cond.static y ∈ tb) (w4 : Cond.initialized y.cls ∈ tb) (hy : okY y n)
    (hE : Ev y b' nL' ret' h' avs M Q') (hst : st = avs.reverse ++ rest) (hn : avs.length = n) (hR : okRoom h' E nL') (hc : (rest.map fun v => v.category).sum ≤ 8) (hdg : decode b pc = .ok (.invokestatic index, 3))
    (kk : ∀ (r : Option Value) (M' : Mem), Q' r M' → G own b nL ret E (pc + 3) L (r.toList ++ rest) M') : G own b nL ret E pc L st M := by
  intro p l e s m args below meth c D cI cZ cS ad A C CX H locs ls hP hD hS hl
  have hts := C.2.2.2.2.2.1
  refine g_after C hP hD hS hl CX (va_runS (nL := nL) (Ts := tb) (own := own) (bytes := b') (maxL := nL') (ret := ret') (index := index) (n := n) (As := avs.map (ren ad)) ⟨C.1, C.2.1, C.2.2.2.1, C.2.2.2.2.1, hts⟩ (hE l D cI cZ cS ad H.size) ?_ (g_pre C hP hD hS) rfl (by rw [List.length_map]; exact hn) hl.1 ?_ (lv_room (by rw [sum_ren]; exact hc)) hdg ⟨hR.2.2.1, hR.2.2.2⟩) kk
  · refine va_cwS n hts ?_ rfl rfl rfl hy ⟨hR.1, hR.2.1⟩
    intro w hw
    unfold va_wsS at hw
    rcases List.mem_append.mp hw with hw | hw
    · simp only [List.mem_cons, List.not_mem_nil, or_false] at hw
      rcases hw with rfl | rfl | rfl
      · exact good_tbl w2
      · exact good_tbl w3
      · exact good_tbl w4
    · exact good_code w1 w hw
  · show st.map (ren ad) = _
    rw [hst, List.map_append, List.map_reverse]
theorem g_callSN {host : String} (w1 : Cond.code y b' nL' ret' ∈ tb) (w2 : Cond.methodLinkNest own index y host ∈ nwl) (w3 : Cond.static y ∈ tb) (w4 : Cond.initialized y.cls ∈ tb) (hy : okY y n)
    (hE : Ev y b' nL' ret' h' avs M Q') (hst : st = avs.reverse ++ rest) (hn : avs.length = n) (hR : okRoom h' E nL') (hc : (rest.map fun v => v.category).sum ≤ 8) (hdg : decode b pc = .ok (.invokestatic index, 3))
    (kk : ∀ (r : Option Value) (M' : Mem), Q' r M' → G own b nL ret E (pc + 3) L (r.toList ++ rest) M') : G own b nL ret E pc L st M := by
  intro p l e s m args below meth c D cI cZ cS ad A C CX H locs ls hP hD hS hl
  have hts := C.2.2.2.2.2.1
  refine g_after C hP hD hS hl CX (va_runSN (nL := nL) (Ts := tb) (own := own) (host := host) (bytes := b') (maxL := nL') (ret := ret') (index := index) (n := n) (As := avs.map (ren ad)) ⟨C.1, C.2.1, C.2.2.2.1, C.2.2.2.2.1, hts⟩ (hE l D cI cZ cS ad H.size) ⟨?_, hts _ w3, trivial⟩ (g_pre C hP hD hS) rfl (by rw [List.length_map]; exact hn) hl.1 ?_ (lv_room (by rw [sum_ren]; exact hc)) hdg ⟨hR.2.2.1, hR.2.2.2⟩) kk
  · exact va_cnB n hts (good_code w1) rfl rfl rfl (C.2.2.2.2.2.2.2.2.1.2.2 _ w2) (hts _ w4) hy ⟨hR.1, hR.2.1⟩
  · show st.map (ren ad) = _
    rw [hst, List.map_append, List.map_reverse]
theorem g_recv {p : Program} {s : State} {m : MethodId} {args : Array Value} {meth : Method} {c : Code} {D : va_G} {cI cZ cS : ClassId} {ad : Nat → Nat} {A : Nat → Prop} {H : Heap} (C : GC own b nL ret p s m args meth c D cI cZ cS ad A) (hP : va_P D vwCl (Wd cI cZ cS ad M) H) {k ci N : Nat} {Cn : String} {T : u_T} (hk : k < 42) (hs : shK k = ci) (hci : ci < 6) (hcl : vwCl[ci]? = some (Cn, T, N)) : ∃ cell : Cell, H[ad k]? = some cell ∧ cell.vm.isStatics = false ∧ s.vm.findClass Cn = some cell.cls := by
  have he := Wd_get cI cZ cS ad M hk
  rw [ent_obj cI cZ cS ad M hs hci] at he
  exact va_recv (q := (Cn, T, N)) C.2.2.2.2.2.2.2.1 hP hcl he
theorem g_callV {k ci N : Nat} {Cn : String} {T : u_T} (w1 : Cond.code y b' nL' ret' ∈ tb) (w2 : Cond.methodLink own index y ∈ tb) (w3 : Cond.instanceMethod y ∈ tb) (w4 : Cond.selects Cn y y ∈ tb) (w5 : Cond.initialized Cn ∈ tb) (hcn : y.cls = Cn) (hy : okY y n) (hci : ci < 6) (hcl : vwCl[ci]? = some (Cn, T, N))
    (hk : k < 42) (hs : shK k = ci) (hE : Ev y b' nL' ret' h' (.ref k :: avs) M Q') (hst : st = (.ref k :: avs).reverse ++ rest) (hn : avs.length = n) (hR : okRoom h' E nL') (hc : (rest.map fun v => v.category).sum ≤ 8) (hdg : decode b pc = .ok (.invokevirtual index, 3))
    (kk : ∀ (r : Option Value) (M' : Mem), Q' r M' → G own b nL ret E (pc + 3) L (r.toList ++ rest) M') : G own b nL ret E pc L st M := by
  intro p l e s m args below meth c D cI cZ cS ad A C CX H locs ls hP hD hS hl
  have hts := C.2.2.2.2.2.1
  refine g_after C hP hD hS hl CX (va_runV (nL := nL) (Ts := tb) (own := own) (C := Cn) (b := ad k) (bytes := b') (maxL := nL') (ret := ret') (index := index) (n := n) (As := avs.map (ren ad)) ⟨C.1, C.2.1, C.2.2.2.1, C.2.2.2.2.1, hts⟩ (hE l D cI cZ cS ad H.size) ?_ ⟨(g_pre C hP hD hS).1, g_recv C hP hk hs hci hcl, (g_pre (avs := .ref k :: avs) C hP hD hS).2⟩ rfl (by rw [List.length_map]; exact hn) hl.1 ?_ (lv_room (by rw [sum_ren]; exact hc)) hdg ⟨hR.2.2.1, hR.2.2.2⟩) kk
  · refine cwV n hts ?_ rfl rfl rfl ⟨hcn, hy⟩ ⟨hR.1, hR.2.1⟩
    intro w hw
    unfold wsV at hw
    rcases List.mem_append.mp hw with hw | hw
    · simp only [List.mem_cons, List.not_mem_nil, or_false] at hw
      rcases hw with rfl | rfl | rfl | rfl
      · exact good_tbl w2
      · exact good_tbl w3
      · exact good_tbl w4
      · exact good_tbl w5
    · exact good_code w1 w hw
  · show st.map (ren ad) = _
    rw [hst]
    simp [ren]
theorem g_callVN {host : String} {k ci N : Nat} {Cn : String} {T : u_T} (w1 : Cond.code y b' nL' ret' ∈ tb) (w2 : Cond.methodLinkNest own index y host ∈ nwl) (w3 : Cond.instanceMethod y ∈ tb) (w4 : Cond.selects Cn y y ∈ tb) (w5 : Cond.initialized y.cls ∈ tb) (hy : okY y n) (hci : ci < 6) (hcl : vwCl[ci]? = some (Cn, T, N))
    (hk : k < 42) (hs : shK k = ci) (hE : Ev y b' nL' ret' h' (.ref k :: avs) M Q') (hst : st = (.ref k :: avs).reverse ++ rest) (hn : avs.length = n) (hR : okRoom h' E nL') (hc : (rest.map fun v => v.category).sum ≤ 8) (hdg : decode b pc = .ok (.invokevirtual index, 3))
    (kk : ∀ (r : Option Value) (M' : Mem), Q' r M' → G own b nL ret E (pc + 3) L (r.toList ++ rest) M') : G own b nL ret E pc L st M := by
  intro p l e s m args below meth c D cI cZ cS ad A C CX H locs ls hP hD hS hl
  have hts := C.2.2.2.2.2.1
  refine g_after C hP hD hS hl CX (va_runVN (nL := nL) (Ts := tb) (own := own) (host := host) (C := Cn) (b := ad k) (bytes := b') (maxL := nL') (ret := ret') (index := index) (n := n) (As := avs.map (ren ad)) ⟨C.1, C.2.1, C.2.2.2.1, C.2.2.2.2.1, hts⟩ (hE l D cI cZ cS ad H.size) ⟨?_, hts _ w3, hts _ w4⟩ ⟨(g_pre C hP hD hS).1, g_recv C hP hk hs hci hcl, (g_pre (avs := .ref k :: avs) C hP hD hS).2⟩ rfl (by rw [List.length_map]; exact hn) hl.1 ?_ (lv_room (by rw [sum_ren]; exact hc)) hdg ⟨hR.2.2.1, hR.2.2.2⟩) kk
  · exact va_cnB n hts (good_code w1) rfl rfl rfl (C.2.2.2.2.2.2.2.2.1.2.2 _ w2) (hts _ w5) hy ⟨hR.1, hR.2.1⟩
  · show st.map (ren ad) = _
    rw [hst]
    simp [ren]
end GCALL2
end
section
/-! words of the tables by their places; a row for each field link, each call, each long constant -/
theorem sh_0 : ∀ k, k < 42 → shK k = 0 → shN k = 3 := by decide +kernel
theorem sh_1 : ∀ k, k < 42 → shK k = 1 → shN k = 8 := by decide +kernel
theorem sh_2 : ∀ k, k < 42 → shK k = 2 → shN k = 3 := by decide +kernel
theorem sh_3 : ∀ k, k < 42 → shK k = 3 → shN k = 3 := by decide +kernel
theorem sh_4 : ∀ k, k < 42 → shK k = 4 → shN k = 11 := by decide +kernel
theorem sh_5 : ∀ k, k < 42 → shK k = 5 → shN k = 20 := by decide +kernel
theorem wc_X4_init : Cond.code yX4_init cX4_init 2 (none) ∈ tb := tb_w 62 (by decide +kernel) rfl
theorem wc_X1_init : Cond.code yX1_init cX1_init 1 (none) ∈ tb := tb_w 72 (by decide +kernel) rfl
theorem wc_X2_init : Cond.code yX2_init cX2_init 1 (none) ∈ tb := tb_w 107 (by decide +kernel) rfl
theorem wc_X0_init : Cond.code yX0_init cX0_init 1 (none) ∈ tb := tb_w 127 (by decide +kernel) rfl
theorem wc_X3_init : Cond.code yX3_init cX3_init 1 (none) ∈ tb := tb_w 142 (by decide +kernel) rfl
theorem wc_X4_records : Cond.code yX4_records cX4_records 4 (some .int) ∈ tb := tb_w 193 (by decide +kernel) rfl
theorem wc_X4_count : Cond.code yX4_count cX4_count 1 (some .int) ∈ tb := tb_w 197 (by decide +kernel) rfl
theorem wc_X4_storeOf : Cond.code yX4_storeOf cX4_storeOf 2 ((Option.some (Jvm.ClassFile.FieldType.object "SilentAsking$Store"))) ∈ tb := tb_w 201 (by decide +kernel) rfl
theorem wc_X3_become : Cond.code yX3_become cX3_become 4 (none) ∈ tb := tb_w 205 (by decide +kernel) rfl
theorem wc_X4_put : Cond.code yX4_put cX4_put 4 (some .int) ∈ tb := tb_w 212 (by decide +kernel) rfl
theorem wc_X4_isRecord : Cond.code yX4_isRecord cX4_isRecord 2 (some .boolean) ∈ tb := tb_w 216 (by decide +kernel) rfl
theorem wc_X4_isNumber : Cond.code yX4_isNumber cX4_isNumber 1 (some .boolean) ∈ tb := tb_w 219 (by decide +kernel) rfl
theorem wc_X4_record : Cond.code yX4_record cX4_record 2 (some .int) ∈ tb := tb_w 223 (by decide +kernel) rfl
theorem wc_X4_store : Cond.code yX4_store cX4_store 6 (some .int) ∈ tb := tb_w 227 (by decide +kernel) rfl
theorem wc_X4_isStore : Cond.code yX4_isStore cX4_isStore 1 (some .boolean) ∈ tb := tb_w 230 (by decide +kernel) rfl
theorem wc_X4_isKind : Cond.code yX4_isKind cX4_isKind 1 (some .boolean) ∈ tb := tb_w 233 (by decide +kernel) rfl
theorem wc_X4_isLie : Cond.code yX4_isLie cX4_isLie 1 (some .boolean) ∈ tb := tb_w 236 (by decide +kernel) rfl
theorem wc_X4_taken : Cond.code yX4_taken cX4_taken 5 (some .int) ∈ tb := tb_w 240 (by decide +kernel) rfl
theorem wc_X4_copied : Cond.code yX4_copied cX4_copied 3 (some .int) ∈ tb := tb_w 244 (by decide +kernel) rfl
theorem wc_X3_held : Cond.code yX3_held cX3_held 2 ((Option.some (Jvm.ClassFile.FieldType.array Jvm.ClassFile.FieldType.int))) ∈ tb := tb_w 248 (by decide +kernel) rfl
theorem wc_X4_copy : Cond.code yX4_copy cX4_copy 3 (some .int) ∈ tb := tb_w 252 (by decide +kernel) rfl
theorem wc_X4_sum : Cond.code yX4_sum cX4_sum 5 (some .int) ∈ tb := tb_w 256 (by decide +kernel) rfl
theorem wc_X4_sumAtPlace : Cond.code yX4_sumAtPlace cX4_sumAtPlace 7 (some .int) ∈ tb := tb_w 260 (by decide +kernel) rfl
theorem wc_X4_bit : Cond.code yX4_bit cX4_bit 2 (some .int) ∈ tb := tb_w 263 (by decide +kernel) rfl
theorem wc_X4_ask : Cond.code yX4_ask cX4_ask 4 (some .int) ∈ tb := tb_w 267 (by decide +kernel) rfl
theorem wc_X4_isKeptFrom : Cond.code yX4_isKeptFrom cX4_isKeptFrom 1 (some .boolean) ∈ tb := tb_w 270 (by decide +kernel) rfl
theorem wc_X4_isSeed : Cond.code yX4_isSeed cX4_isSeed 1 (some .boolean) ∈ tb := tb_w 273 (by decide +kernel) rfl
theorem wc_X1_begin : Cond.code yX1_begin cX1_begin 5 (none) ∈ tb := tb_w 277 (by decide +kernel) rfl
theorem wc_X1_drawLots : Cond.code yX1_drawLots cX1_drawLots 6 (none) ∈ tb := tb_w 281 (by decide +kernel) rfl
theorem wc_X4_veil : Cond.code yX4_veil cX4_veil 3 (some .int) ∈ tb := tb_w 290 (by decide +kernel) rfl
theorem wc_X1_veilBy : Cond.code yX1_veilBy cX1_veilBy 2 (none) ∈ tb := tb_w 294 (by decide +kernel) rfl
theorem wc_X4_point : Cond.code yX4_point cX4_point 3 (some .int) ∈ tb := tb_w 298 (by decide +kernel) rfl
theorem wc_X1_pointNumber : Cond.code yX1_pointNumber cX1_pointNumber 3 (some .int) ∈ tb := tb_w 302 (by decide +kernel) rfl
theorem wc_X1_risen : Cond.code yX1_risen cX1_risen 6 (some .int) ∈ tb := tb_w 306 (by decide +kernel) rfl
theorem wc_X4_answer : Cond.code yX4_answer cX4_answer 2 (some .int) ∈ tb := tb_w 310 (by decide +kernel) rfl
theorem wc_X4_toldBy : Cond.code yX4_toldBy cX4_toldBy 3 (some .int) ∈ tb := tb_w 314 (by decide +kernel) rfl
theorem wc_X1_veilAt : Cond.code yX1_veilAt cX1_veilAt 2 (some .int) ∈ tb := tb_w 318 (by decide +kernel) rfl
theorem wc_X4_needed : Cond.code yX4_needed cX4_needed 4 (some .int) ∈ tb := tb_w 322 (by decide +kernel) rfl
theorem wc_X4_fetch : Cond.code yX4_fetch cX4_fetch 3 (some .int) ∈ tb := tb_w 326 (by decide +kernel) rfl
theorem wc_X4_refusalOfFetch : Cond.code yX4_refusalOfFetch cX4_refusalOfFetch 2 (some .int) ∈ tb := tb_w 330 (by decide +kernel) rfl
theorem wc_X4_tellingStores : Cond.code yX4_tellingStores cX4_tellingStores 4 (some .int) ∈ tb := tb_w 334 (by decide +kernel) rfl
theorem wc_X4_hearStores : Cond.code yX4_hearStores cX4_hearStores 3 (none) ∈ tb := tb_w 338 (by decide +kernel) rfl
theorem wc_X2_add : Cond.code yX2_add cX2_add 3 (none) ∈ tb := tb_w 342 (by decide +kernel) rfl
theorem wc_X4_liesMended : Cond.code yX4_liesMended cX4_liesMended 2 (some .int) ∈ tb := tb_w 346 (by decide +kernel) rfl
theorem wc_X4_findCurve : Cond.code yX4_findCurve cX4_findCurve 3 (some .boolean) ∈ tb := tb_w 350 (by decide +kernel) rfl
theorem wc_J6_bitCount_0f7a4 : Cond.code yJ6_bitCount_0f7a4 cJ6_bitCount_0f7a4 1 (some .int) ∈ tb := tb_w 353 (by decide +kernel) rfl
theorem wc_X0_layThrough : Cond.code yX0_layThrough cX0_layThrough 4 (none) ∈ tb := tb_w 360 (by decide +kernel) rfl
theorem wc_X0_bend : Cond.code yX0_bend cX0_bend 5 (none) ∈ tb := tb_w 365 (by decide +kernel) rfl
theorem wc_X0_at : Cond.code yX0_at cX0_at 4 (some .int) ∈ tb := tb_w 369 (by decide +kernel) rfl
theorem wc_X4_inverse : Cond.code yX4_inverse cX4_inverse 1 (some .int) ∈ tb := tb_w 372 (by decide +kernel) rfl
theorem wc_X2_countOn : Cond.code yX2_countOn cX2_countOn 4 (some .int) ∈ tb := tb_w 378 (by decide +kernel) rfl
theorem wc_X2_isOn : Cond.code yX2_isOn cX2_isOn 3 (some .boolean) ∈ tb := tb_w 382 (by decide +kernel) rfl
theorem wc_X2_storesOff : Cond.code yX2_storesOff cX2_storesOff 4 (some .int) ∈ tb := tb_w 387 (by decide +kernel) rfl
theorem wc_X4_caught : Cond.code yX4_caught cX4_caught 2 (some .int) ∈ tb := tb_w 392 (by decide +kernel) rfl
theorem wc_X4_mends : Cond.code yX4_mends cX4_mends 3 (some .int) ∈ tb := tb_w 396 (by decide +kernel) rfl
theorem wc_X4_ways : Cond.code yX4_ways cX4_ways 4 (some .long) ∈ tb := tb_w 400 (by decide +kernel) rfl
theorem wc_X4_refusalOfSet : Cond.code yX4_refusalOfSet cX4_refusalOfSet 2 (some .int) ∈ tb := tb_w 404 (by decide +kernel) rfl
theorem wc_X1_countWays : Cond.code yX1_countWays cX1_countWays 7 (some .long) ∈ tb := tb_w 408 (by decide +kernel) rfl
theorem wc_X4_might : Cond.code yX4_might cX4_might 5 (some .int) ∈ tb := tb_w 414 (by decide +kernel) rfl
theorem wc_X4_learns : Cond.code yX4_learns cX4_learns 3 (some .int) ∈ tb := tb_w 418 (by decide +kernel) rfl
theorem wc_X4_tellsRecordsApart : Cond.code yX4_tellsRecordsApart cX4_tellsRecordsApart 3 (some .boolean) ∈ tb := tb_w 422 (by decide +kernel) rfl
theorem wc_X4_least : Cond.code yX4_least cX4_least 2 (some .int) ∈ tb := tb_w 426 (by decide +kernel) rfl
theorem wc_X4_fits : Cond.code yX4_fits cX4_fits 4 (some .int) ∈ tb := tb_w 430 (by decide +kernel) rfl
theorem wc_X4_firstPicks : Cond.code yX4_firstPicks cX4_firstPicks 2 (some .int) ∈ tb := tb_w 434 (by decide +kernel) rfl
theorem wc_X4_both : Cond.code yX4_both cX4_both 4 (some .int) ∈ tb := tb_w 438 (by decide +kernel) rfl
theorem wc_X4_isRecordSet : Cond.code yX4_isRecordSet cX4_isRecordSet 2 (some .boolean) ∈ tb := tb_w 442 (by decide +kernel) rfl
theorem wc_X4_toldOfSet : Cond.code yX4_toldOfSet cX4_toldOfSet 6 (some .int) ∈ tb := tb_w 446 (by decide +kernel) rfl
theorem wc_X4_pair : Cond.code yX4_pair cX4_pair 7 (some .int) ∈ tb := tb_w 450 (by decide +kernel) rfl
theorem wc_X4_total : Cond.code yX4_total cX4_total 2 (some .int) ∈ tb := tb_w 454 (by decide +kernel) rfl
theorem wc_X4_trueStores : Cond.code yX4_trueStores cX4_trueStores 3 (some .int) ∈ tb := tb_w 458 (by decide +kernel) rfl
theorem wc_X5_init : Cond.code yX5_init cX5_init 1 (none) ∈ tb := tb_w 463 (by decide +kernel) rfl
theorem wc_X5_records : Cond.code yX5_records cX5_records 4 (some .int) ∈ tb := tb_w 530 (by decide +kernel) rfl
theorem wc_X5_in : Cond.code yX5_in cX5_in 6 (some .boolean) ∈ tb := tb_w 534 (by decide +kernel) rfl
theorem wc_X5_size : Cond.code yX5_size cX5_size 1 (some .int) ∈ tb := tb_w 538 (by decide +kernel) rfl
theorem wc_X5_put : Cond.code yX5_put cX5_put 4 (some .int) ∈ tb := tb_w 542 (by decide +kernel) rfl
theorem wc_X5_isRecord : Cond.code yX5_isRecord cX5_isRecord 2 (some .boolean) ∈ tb := tb_w 546 (by decide +kernel) rfl
theorem wc_X5_isNumber : Cond.code yX5_isNumber cX5_isNumber 1 (some .boolean) ∈ tb := tb_w 549 (by decide +kernel) rfl
theorem wc_X5_record : Cond.code yX5_record cX5_record 2 (some .int) ∈ tb := tb_w 554 (by decide +kernel) rfl
theorem wc_X5_store : Cond.code yX5_store cX5_store 6 (some .int) ∈ tb := tb_w 558 (by decide +kernel) rfl
theorem wc_X5_isStore : Cond.code yX5_isStore cX5_isStore 1 (some .boolean) ∈ tb := tb_w 561 (by decide +kernel) rfl
theorem wc_X5_taken : Cond.code yX5_taken cX5_taken 4 (some .int) ∈ tb := tb_w 566 (by decide +kernel) rfl
theorem wc_X5_copyOf : Cond.code yX5_copyOf cX5_copyOf 3 (some .int) ∈ tb := tb_w 571 (by decide +kernel) rfl
theorem wc_X5_copy : Cond.code yX5_copy cX5_copy 3 (some .int) ∈ tb := tb_w 575 (by decide +kernel) rfl
theorem wc_X5_sum : Cond.code yX5_sum cX5_sum 4 (some .int) ∈ tb := tb_w 579 (by decide +kernel) rfl
theorem wc_X5_sumOf : Cond.code yX5_sumOf cX5_sumOf 10 (some .int) ∈ tb := tb_w 583 (by decide +kernel) rfl
theorem wc_X5_mod : Cond.code yX5_mod cX5_mod 2 (some .int) ∈ tb := tb_w 586 (by decide +kernel) rfl
theorem wc_X5_ask : Cond.code yX5_ask cX5_ask 8 (some .int) ∈ tb := tb_w 590 (by decide +kernel) rfl
theorem wc_X5_next : Cond.code yX5_next cX5_next 2 (some .long) ∈ tb := tb_w 593 (by decide +kernel) rfl
theorem wc_X5_lotOf : Cond.code yX5_lotOf cX5_lotOf 2 (some .int) ∈ tb := tb_w 599 (by decide +kernel) rfl
theorem wc_X5_degree : Cond.code yX5_degree cX5_degree 1 (some .int) ∈ tb := tb_w 605 (by decide +kernel) rfl
theorem wc_X5_veil : Cond.code yX5_veil cX5_veil 6 (some .int) ∈ tb := tb_w 609 (by decide +kernel) rfl
theorem wc_X5_point : Cond.code yX5_point cX5_point 3 (some .int) ∈ tb := tb_w 613 (by decide +kernel) rfl
theorem wc_X5_pointOf : Cond.code yX5_pointOf cX5_pointOf 6 (some .int) ∈ tb := tb_w 617 (by decide +kernel) rfl
theorem wc_X5_answer : Cond.code yX5_answer cX5_answer 2 (some .int) ∈ tb := tb_w 621 (by decide +kernel) rfl
theorem wc_X5_answerOf : Cond.code yX5_answerOf cX5_answerOf 5 (some .int) ∈ tb := tb_w 625 (by decide +kernel) rfl
theorem wc_X5_needed : Cond.code yX5_needed cX5_needed 4 (some .int) ∈ tb := tb_w 629 (by decide +kernel) rfl
theorem wc_X5_fetch : Cond.code yX5_fetch cX5_fetch 5 (some .int) ∈ tb := tb_w 634 (by decide +kernel) rfl
theorem wc_X5_hear : Cond.code yX5_hear cX5_hear 3 (none) ∈ tb := tb_w 638 (by decide +kernel) rfl
theorem wc_X5_first : Cond.code yX5_first cX5_first 2 (none) ∈ tb := tb_w 642 (by decide +kernel) rfl
theorem wc_X5_onCurve : Cond.code yX5_onCurve cX5_onCurve 3 (some .int) ∈ tb := tb_w 646 (by decide +kernel) rfl
theorem wc_X5_curveAt : Cond.code yX5_curveAt cX5_curveAt 7 (some .int) ∈ tb := tb_w 650 (by decide +kernel) rfl
theorem wc_X5_inverse : Cond.code yX5_inverse cX5_inverse 2 (some .int) ∈ tb := tb_w 653 (by decide +kernel) rfl
theorem wc_X5_choose : Cond.code yX5_choose cX5_choose 4 (some .boolean) ∈ tb := tb_w 657 (by decide +kernel) rfl
theorem wc_X5_caught : Cond.code yX5_caught cX5_caught 2 (some .int) ∈ tb := tb_w 661 (by decide +kernel) rfl
theorem wc_X5_mends : Cond.code yX5_mends cX5_mends 2 (some .int) ∈ tb := tb_w 665 (by decide +kernel) rfl
theorem wc_X5_ways : Cond.code yX5_ways cX5_ways 3 (some .long) ∈ tb := tb_w 669 (by decide +kernel) rfl
theorem wc_X5_isSet : Cond.code yX5_isSet cX5_isSet 1 (some .boolean) ∈ tb := tb_w 673 (by decide +kernel) rfl
theorem wc_X5_waysFor : Cond.code yX5_waysFor cX5_waysFor 6 (some .long) ∈ tb := tb_w 680 (by decide +kernel) rfl
theorem wc_X5_waysOf : Cond.code yX5_waysOf cX5_waysOf 9 (some .int) ∈ tb := tb_w 684 (by decide +kernel) rfl
theorem wc_X5_might : Cond.code yX5_might cX5_might 4 (some .int) ∈ tb := tb_w 688 (by decide +kernel) rfl
theorem wc_X5_learns : Cond.code yX5_learns cX5_learns 2 (some .int) ∈ tb := tb_w 692 (by decide +kernel) rfl
theorem wc_X5_learnsOf : Cond.code yX5_learnsOf cX5_learnsOf 4 (some .boolean) ∈ tb := tb_w 696 (by decide +kernel) rfl
theorem wc_X5_least : Cond.code yX5_least cX5_least 2 (some .int) ∈ tb := tb_w 700 (by decide +kernel) rfl
theorem wc_X5_fits : Cond.code yX5_fits cX5_fits 3 (some .int) ∈ tb := tb_w 704 (by decide +kernel) rfl
theorem wc_X5_both : Cond.code yX5_both cX5_both 3 (some .int) ∈ tb := tb_w 708 (by decide +kernel) rfl
theorem wc_X5_isSum : Cond.code yX5_isSum cX5_isSum 2 (some .boolean) ∈ tb := tb_w 712 (by decide +kernel) rfl
theorem wc_X5_bothOf : Cond.code yX5_bothOf cX5_bothOf 5 (some .int) ∈ tb := tb_w 716 (by decide +kernel) rfl
theorem wc_X5_pair : Cond.code yX5_pair cX5_pair 5 (some .int) ∈ tb := tb_w 720 (by decide +kernel) rfl
theorem wc_X5_total : Cond.code yX5_total cX5_total 4 (some .int) ∈ tb := tb_w 724 (by decide +kernel) rfl
theorem wi_X4_init : Cond.instanceMethod yX4_init ∈ tb := tb_w 61 (by decide +kernel) rfl
theorem wi_X1_init : Cond.instanceMethod yX1_init ∈ tb := tb_w 71 (by decide +kernel) rfl
theorem wi_X2_init : Cond.instanceMethod yX2_init ∈ tb := tb_w 106 (by decide +kernel) rfl
theorem wi_X0_init : Cond.instanceMethod yX0_init ∈ tb := tb_w 126 (by decide +kernel) rfl
theorem wi_X3_init : Cond.instanceMethod yX3_init ∈ tb := tb_w 141 (by decide +kernel) rfl
theorem wi_X4_records : Cond.instanceMethod yX4_records ∈ tb := tb_w 191 (by decide +kernel) rfl
theorem wi_X4_count : Cond.instanceMethod yX4_count ∈ tb := tb_w 196 (by decide +kernel) rfl
theorem wi_X4_storeOf : Cond.instanceMethod yX4_storeOf ∈ tb := tb_w 200 (by decide +kernel) rfl
theorem wi_X3_become : Cond.instanceMethod yX3_become ∈ tb := tb_w 204 (by decide +kernel) rfl
theorem wi_X4_put : Cond.instanceMethod yX4_put ∈ tb := tb_w 210 (by decide +kernel) rfl
theorem wi_X4_isRecord : Cond.instanceMethod yX4_isRecord ∈ tb := tb_w 215 (by decide +kernel) rfl
theorem wi_X4_record : Cond.instanceMethod yX4_record ∈ tb := tb_w 221 (by decide +kernel) rfl
theorem wi_X4_store : Cond.instanceMethod yX4_store ∈ tb := tb_w 225 (by decide +kernel) rfl
theorem wi_X4_taken : Cond.instanceMethod yX4_taken ∈ tb := tb_w 238 (by decide +kernel) rfl
theorem wi_X4_copied : Cond.instanceMethod yX4_copied ∈ tb := tb_w 243 (by decide +kernel) rfl
theorem wi_X3_held : Cond.instanceMethod yX3_held ∈ tb := tb_w 247 (by decide +kernel) rfl
theorem wi_X4_copy : Cond.instanceMethod yX4_copy ∈ tb := tb_w 250 (by decide +kernel) rfl
theorem wi_X4_sum : Cond.instanceMethod yX4_sum ∈ tb := tb_w 254 (by decide +kernel) rfl
theorem wi_X4_sumAtPlace : Cond.instanceMethod yX4_sumAtPlace ∈ tb := tb_w 259 (by decide +kernel) rfl
theorem wi_X4_ask : Cond.instanceMethod yX4_ask ∈ tb := tb_w 265 (by decide +kernel) rfl
theorem wi_X1_begin : Cond.instanceMethod yX1_begin ∈ tb := tb_w 276 (by decide +kernel) rfl
theorem wi_X1_drawLots : Cond.instanceMethod yX1_drawLots ∈ tb := tb_w 280 (by decide +kernel) rfl
theorem wi_X4_veil : Cond.instanceMethod yX4_veil ∈ tb := tb_w 288 (by decide +kernel) rfl
theorem wi_X1_veilBy : Cond.instanceMethod yX1_veilBy ∈ tb := tb_w 293 (by decide +kernel) rfl
theorem wi_X4_point : Cond.instanceMethod yX4_point ∈ tb := tb_w 296 (by decide +kernel) rfl
theorem wi_X1_pointNumber : Cond.instanceMethod yX1_pointNumber ∈ tb := tb_w 301 (by decide +kernel) rfl
theorem wi_X4_answer : Cond.instanceMethod yX4_answer ∈ tb := tb_w 308 (by decide +kernel) rfl
theorem wi_X4_toldBy : Cond.instanceMethod yX4_toldBy ∈ tb := tb_w 313 (by decide +kernel) rfl
theorem wi_X1_veilAt : Cond.instanceMethod yX1_veilAt ∈ tb := tb_w 317 (by decide +kernel) rfl
theorem wi_X4_needed : Cond.instanceMethod yX4_needed ∈ tb := tb_w 320 (by decide +kernel) rfl
theorem wi_X4_fetch : Cond.instanceMethod yX4_fetch ∈ tb := tb_w 324 (by decide +kernel) rfl
theorem wi_X4_refusalOfFetch : Cond.instanceMethod yX4_refusalOfFetch ∈ tb := tb_w 329 (by decide +kernel) rfl
theorem wi_X4_tellingStores : Cond.instanceMethod yX4_tellingStores ∈ tb := tb_w 333 (by decide +kernel) rfl
theorem wi_X4_hearStores : Cond.instanceMethod yX4_hearStores ∈ tb := tb_w 337 (by decide +kernel) rfl
theorem wi_X2_add : Cond.instanceMethod yX2_add ∈ tb := tb_w 341 (by decide +kernel) rfl
theorem wi_X4_liesMended : Cond.instanceMethod yX4_liesMended ∈ tb := tb_w 345 (by decide +kernel) rfl
theorem wi_X4_findCurve : Cond.instanceMethod yX4_findCurve ∈ tb := tb_w 349 (by decide +kernel) rfl
theorem wi_X0_layThrough : Cond.instanceMethod yX0_layThrough ∈ tb := tb_w 359 (by decide +kernel) rfl
theorem wi_X0_bend : Cond.instanceMethod yX0_bend ∈ tb := tb_w 364 (by decide +kernel) rfl
theorem wi_X0_at : Cond.instanceMethod yX0_at ∈ tb := tb_w 368 (by decide +kernel) rfl
theorem wi_X2_countOn : Cond.instanceMethod yX2_countOn ∈ tb := tb_w 377 (by decide +kernel) rfl
theorem wi_X2_isOn : Cond.instanceMethod yX2_isOn ∈ tb := tb_w 381 (by decide +kernel) rfl
theorem wi_X2_storesOff : Cond.instanceMethod yX2_storesOff ∈ tb := tb_w 386 (by decide +kernel) rfl
theorem wi_X4_caught : Cond.instanceMethod yX4_caught ∈ tb := tb_w 390 (by decide +kernel) rfl
theorem wi_X4_mends : Cond.instanceMethod yX4_mends ∈ tb := tb_w 394 (by decide +kernel) rfl
theorem wi_X4_ways : Cond.instanceMethod yX4_ways ∈ tb := tb_w 398 (by decide +kernel) rfl
theorem wi_X4_refusalOfSet : Cond.instanceMethod yX4_refusalOfSet ∈ tb := tb_w 403 (by decide +kernel) rfl
theorem wi_X1_countWays : Cond.instanceMethod yX1_countWays ∈ tb := tb_w 407 (by decide +kernel) rfl
theorem wi_X4_might : Cond.instanceMethod yX4_might ∈ tb := tb_w 412 (by decide +kernel) rfl
theorem wi_X4_learns : Cond.instanceMethod yX4_learns ∈ tb := tb_w 416 (by decide +kernel) rfl
theorem wi_X4_tellsRecordsApart : Cond.instanceMethod yX4_tellsRecordsApart ∈ tb := tb_w 421 (by decide +kernel) rfl
theorem wi_X4_least : Cond.instanceMethod yX4_least ∈ tb := tb_w 424 (by decide +kernel) rfl
theorem wi_X4_fits : Cond.instanceMethod yX4_fits ∈ tb := tb_w 428 (by decide +kernel) rfl
theorem wi_X4_firstPicks : Cond.instanceMethod yX4_firstPicks ∈ tb := tb_w 433 (by decide +kernel) rfl
theorem wi_X4_both : Cond.instanceMethod yX4_both ∈ tb := tb_w 436 (by decide +kernel) rfl
theorem wi_X4_isRecordSet : Cond.instanceMethod yX4_isRecordSet ∈ tb := tb_w 441 (by decide +kernel) rfl
theorem wi_X4_toldOfSet : Cond.instanceMethod yX4_toldOfSet ∈ tb := tb_w 445 (by decide +kernel) rfl
theorem wi_X4_pair : Cond.instanceMethod yX4_pair ∈ tb := tb_w 448 (by decide +kernel) rfl
theorem wi_X4_total : Cond.instanceMethod yX4_total ∈ tb := tb_w 452 (by decide +kernel) rfl
theorem wi_X4_trueStores : Cond.instanceMethod yX4_trueStores ∈ tb := tb_w 457 (by decide +kernel) rfl
theorem wi_X5_init : Cond.instanceMethod yX5_init ∈ tb := tb_w 462 (by decide +kernel) rfl
theorem wi_X5_records : Cond.instanceMethod yX5_records ∈ tb := tb_w 528 (by decide +kernel) rfl
theorem wi_X5_size : Cond.instanceMethod yX5_size ∈ tb := tb_w 537 (by decide +kernel) rfl
theorem wi_X5_put : Cond.instanceMethod yX5_put ∈ tb := tb_w 540 (by decide +kernel) rfl
theorem wi_X5_isRecord : Cond.instanceMethod yX5_isRecord ∈ tb := tb_w 545 (by decide +kernel) rfl
theorem wi_X5_record : Cond.instanceMethod yX5_record ∈ tb := tb_w 552 (by decide +kernel) rfl
theorem wi_X5_store : Cond.instanceMethod yX5_store ∈ tb := tb_w 556 (by decide +kernel) rfl
theorem wi_X5_taken : Cond.instanceMethod yX5_taken ∈ tb := tb_w 564 (by decide +kernel) rfl
theorem wi_X5_copyOf : Cond.instanceMethod yX5_copyOf ∈ tb := tb_w 570 (by decide +kernel) rfl
theorem wi_X5_copy : Cond.instanceMethod yX5_copy ∈ tb := tb_w 573 (by decide +kernel) rfl
theorem wi_X5_sum : Cond.instanceMethod yX5_sum ∈ tb := tb_w 577 (by decide +kernel) rfl
theorem wi_X5_sumOf : Cond.instanceMethod yX5_sumOf ∈ tb := tb_w 582 (by decide +kernel) rfl
theorem wi_X5_ask : Cond.instanceMethod yX5_ask ∈ tb := tb_w 588 (by decide +kernel) rfl
theorem wi_X5_degree : Cond.instanceMethod yX5_degree ∈ tb := tb_w 604 (by decide +kernel) rfl
theorem wi_X5_veil : Cond.instanceMethod yX5_veil ∈ tb := tb_w 607 (by decide +kernel) rfl
theorem wi_X5_point : Cond.instanceMethod yX5_point ∈ tb := tb_w 611 (by decide +kernel) rfl
theorem wi_X5_pointOf : Cond.instanceMethod yX5_pointOf ∈ tb := tb_w 616 (by decide +kernel) rfl
theorem wi_X5_answer : Cond.instanceMethod yX5_answer ∈ tb := tb_w 619 (by decide +kernel) rfl
theorem wi_X5_answerOf : Cond.instanceMethod yX5_answerOf ∈ tb := tb_w 624 (by decide +kernel) rfl
theorem wi_X5_needed : Cond.instanceMethod yX5_needed ∈ tb := tb_w 627 (by decide +kernel) rfl
theorem wi_X5_fetch : Cond.instanceMethod yX5_fetch ∈ tb := tb_w 632 (by decide +kernel) rfl
theorem wi_X5_hear : Cond.instanceMethod yX5_hear ∈ tb := tb_w 637 (by decide +kernel) rfl
theorem wi_X5_first : Cond.instanceMethod yX5_first ∈ tb := tb_w 641 (by decide +kernel) rfl
theorem wi_X5_onCurve : Cond.instanceMethod yX5_onCurve ∈ tb := tb_w 645 (by decide +kernel) rfl
theorem wi_X5_curveAt : Cond.instanceMethod yX5_curveAt ∈ tb := tb_w 649 (by decide +kernel) rfl
theorem wi_X5_choose : Cond.instanceMethod yX5_choose ∈ tb := tb_w 656 (by decide +kernel) rfl
theorem wi_X5_caught : Cond.instanceMethod yX5_caught ∈ tb := tb_w 659 (by decide +kernel) rfl
theorem wi_X5_mends : Cond.instanceMethod yX5_mends ∈ tb := tb_w 663 (by decide +kernel) rfl
theorem wi_X5_ways : Cond.instanceMethod yX5_ways ∈ tb := tb_w 667 (by decide +kernel) rfl
theorem wi_X5_waysFor : Cond.instanceMethod yX5_waysFor ∈ tb := tb_w 679 (by decide +kernel) rfl
theorem wi_X5_waysOf : Cond.instanceMethod yX5_waysOf ∈ tb := tb_w 683 (by decide +kernel) rfl
theorem wi_X5_might : Cond.instanceMethod yX5_might ∈ tb := tb_w 686 (by decide +kernel) rfl
theorem wi_X5_learns : Cond.instanceMethod yX5_learns ∈ tb := tb_w 690 (by decide +kernel) rfl
theorem wi_X5_learnsOf : Cond.instanceMethod yX5_learnsOf ∈ tb := tb_w 695 (by decide +kernel) rfl
theorem wi_X5_least : Cond.instanceMethod yX5_least ∈ tb := tb_w 698 (by decide +kernel) rfl
theorem wi_X5_fits : Cond.instanceMethod yX5_fits ∈ tb := tb_w 702 (by decide +kernel) rfl
theorem wi_X5_both : Cond.instanceMethod yX5_both ∈ tb := tb_w 706 (by decide +kernel) rfl
theorem wi_X5_isSum : Cond.instanceMethod yX5_isSum ∈ tb := tb_w 711 (by decide +kernel) rfl
theorem wi_X5_bothOf : Cond.instanceMethod yX5_bothOf ∈ tb := tb_w 715 (by decide +kernel) rfl
theorem wi_X5_pair : Cond.instanceMethod yX5_pair ∈ tb := tb_w 718 (by decide +kernel) rfl
theorem wi_X5_total : Cond.instanceMethod yX5_total ∈ tb := tb_w 722 (by decide +kernel) rfl
theorem wt_X4_isNumber : Cond.static yX4_isNumber ∈ tb := tb_w 218 (by decide +kernel) rfl
theorem wt_X4_isStore : Cond.static yX4_isStore ∈ tb := tb_w 229 (by decide +kernel) rfl
theorem wt_X4_isKind : Cond.static yX4_isKind ∈ tb := tb_w 232 (by decide +kernel) rfl
theorem wt_X4_isLie : Cond.static yX4_isLie ∈ tb := tb_w 235 (by decide +kernel) rfl
theorem wt_X4_bit : Cond.static yX4_bit ∈ tb := tb_w 262 (by decide +kernel) rfl
theorem wt_X4_isKeptFrom : Cond.static yX4_isKeptFrom ∈ tb := tb_w 269 (by decide +kernel) rfl
theorem wt_X4_isSeed : Cond.static yX4_isSeed ∈ tb := tb_w 272 (by decide +kernel) rfl
theorem wt_X1_risen : Cond.static yX1_risen ∈ tb := tb_w 305 (by decide +kernel) rfl
theorem wt_J6_bitCount_0f7a4 : Cond.static yJ6_bitCount_0f7a4 ∈ tb := tb_w 352 (by decide +kernel) rfl
theorem wt_X4_inverse : Cond.static yX4_inverse ∈ tb := tb_w 371 (by decide +kernel) rfl
theorem wt_X5_in : Cond.static yX5_in ∈ tb := tb_w 533 (by decide +kernel) rfl
theorem wt_X5_isNumber : Cond.static yX5_isNumber ∈ tb := tb_w 548 (by decide +kernel) rfl
theorem wt_X5_isStore : Cond.static yX5_isStore ∈ tb := tb_w 560 (by decide +kernel) rfl
theorem wt_X5_mod : Cond.static yX5_mod ∈ tb := tb_w 585 (by decide +kernel) rfl
theorem wt_X5_next : Cond.static yX5_next ∈ tb := tb_w 592 (by decide +kernel) rfl
theorem wt_X5_lotOf : Cond.static yX5_lotOf ∈ tb := tb_w 598 (by decide +kernel) rfl
theorem wt_X5_inverse : Cond.static yX5_inverse ∈ tb := tb_w 652 (by decide +kernel) rfl
theorem wt_X5_isSet : Cond.static yX5_isSet ∈ tb := tb_w 672 (by decide +kernel) rfl
theorem ws_X4_count : Cond.selects RX4 yX4_count yX4_count ∈ tb := tb_w 0 (by decide +kernel) rfl
theorem ws_X4_storeOf : Cond.selects RX4 yX4_storeOf yX4_storeOf ∈ tb := tb_w 1 (by decide +kernel) rfl
theorem ws_X3_become : Cond.selects RX3 yX3_become yX3_become ∈ tb := tb_w 2 (by decide +kernel) rfl
theorem ws_X4_isRecord : Cond.selects RX4 yX4_isRecord yX4_isRecord ∈ tb := tb_w 3 (by decide +kernel) rfl
theorem ws_X4_copied : Cond.selects RX4 yX4_copied yX4_copied ∈ tb := tb_w 4 (by decide +kernel) rfl
theorem ws_X3_held : Cond.selects RX3 yX3_held yX3_held ∈ tb := tb_w 5 (by decide +kernel) rfl
theorem ws_X4_sumAtPlace : Cond.selects RX4 yX4_sumAtPlace yX4_sumAtPlace ∈ tb := tb_w 6 (by decide +kernel) rfl
theorem ws_X1_begin : Cond.selects RX1 yX1_begin yX1_begin ∈ tb := tb_w 7 (by decide +kernel) rfl
theorem ws_X1_drawLots : Cond.selects RX1 yX1_drawLots yX1_drawLots ∈ tb := tb_w 8 (by decide +kernel) rfl
theorem ws_X1_veilBy : Cond.selects RX1 yX1_veilBy yX1_veilBy ∈ tb := tb_w 9 (by decide +kernel) rfl
theorem ws_X1_pointNumber : Cond.selects RX1 yX1_pointNumber yX1_pointNumber ∈ tb := tb_w 10 (by decide +kernel) rfl
theorem ws_X4_toldBy : Cond.selects RX4 yX4_toldBy yX4_toldBy ∈ tb := tb_w 11 (by decide +kernel) rfl
theorem ws_X1_veilAt : Cond.selects RX1 yX1_veilAt yX1_veilAt ∈ tb := tb_w 12 (by decide +kernel) rfl
theorem ws_X4_refusalOfFetch : Cond.selects RX4 yX4_refusalOfFetch yX4_refusalOfFetch ∈ tb := tb_w 13 (by decide +kernel) rfl
theorem ws_X4_tellingStores : Cond.selects RX4 yX4_tellingStores yX4_tellingStores ∈ tb := tb_w 14 (by decide +kernel) rfl
theorem ws_X4_hearStores : Cond.selects RX4 yX4_hearStores yX4_hearStores ∈ tb := tb_w 15 (by decide +kernel) rfl
theorem ws_X2_add : Cond.selects RX2 yX2_add yX2_add ∈ tb := tb_w 16 (by decide +kernel) rfl
theorem ws_X4_liesMended : Cond.selects RX4 yX4_liesMended yX4_liesMended ∈ tb := tb_w 17 (by decide +kernel) rfl
theorem ws_X4_findCurve : Cond.selects RX4 yX4_findCurve yX4_findCurve ∈ tb := tb_w 18 (by decide +kernel) rfl
theorem ws_X0_layThrough : Cond.selects RX0 yX0_layThrough yX0_layThrough ∈ tb := tb_w 19 (by decide +kernel) rfl
theorem ws_X0_bend : Cond.selects RX0 yX0_bend yX0_bend ∈ tb := tb_w 20 (by decide +kernel) rfl
theorem ws_X0_at : Cond.selects RX0 yX0_at yX0_at ∈ tb := tb_w 21 (by decide +kernel) rfl
theorem ws_X2_countOn : Cond.selects RX2 yX2_countOn yX2_countOn ∈ tb := tb_w 22 (by decide +kernel) rfl
theorem ws_X2_isOn : Cond.selects RX2 yX2_isOn yX2_isOn ∈ tb := tb_w 23 (by decide +kernel) rfl
theorem ws_X2_storesOff : Cond.selects RX2 yX2_storesOff yX2_storesOff ∈ tb := tb_w 24 (by decide +kernel) rfl
theorem ws_X4_refusalOfSet : Cond.selects RX4 yX4_refusalOfSet yX4_refusalOfSet ∈ tb := tb_w 25 (by decide +kernel) rfl
theorem ws_X1_countWays : Cond.selects RX1 yX1_countWays yX1_countWays ∈ tb := tb_w 26 (by decide +kernel) rfl
theorem ws_X4_tellsRecordsApart : Cond.selects RX4 yX4_tellsRecordsApart yX4_tellsRecordsApart ∈ tb := tb_w 27 (by decide +kernel) rfl
theorem ws_X4_firstPicks : Cond.selects RX4 yX4_firstPicks yX4_firstPicks ∈ tb := tb_w 28 (by decide +kernel) rfl
theorem ws_X4_isRecordSet : Cond.selects RX4 yX4_isRecordSet yX4_isRecordSet ∈ tb := tb_w 29 (by decide +kernel) rfl
theorem ws_X4_toldOfSet : Cond.selects RX4 yX4_toldOfSet yX4_toldOfSet ∈ tb := tb_w 30 (by decide +kernel) rfl
theorem ws_X4_trueStores : Cond.selects RX4 yX4_trueStores yX4_trueStores ∈ tb := tb_w 31 (by decide +kernel) rfl
theorem ws_X5_size : Cond.selects RX5 yX5_size yX5_size ∈ tb := tb_w 32 (by decide +kernel) rfl
theorem ws_X5_isRecord : Cond.selects RX5 yX5_isRecord yX5_isRecord ∈ tb := tb_w 33 (by decide +kernel) rfl
theorem ws_X5_copyOf : Cond.selects RX5 yX5_copyOf yX5_copyOf ∈ tb := tb_w 34 (by decide +kernel) rfl
theorem ws_X5_sumOf : Cond.selects RX5 yX5_sumOf yX5_sumOf ∈ tb := tb_w 35 (by decide +kernel) rfl
theorem ws_X5_degree : Cond.selects RX5 yX5_degree yX5_degree ∈ tb := tb_w 36 (by decide +kernel) rfl
theorem ws_X5_pointOf : Cond.selects RX5 yX5_pointOf yX5_pointOf ∈ tb := tb_w 37 (by decide +kernel) rfl
theorem ws_X5_answerOf : Cond.selects RX5 yX5_answerOf yX5_answerOf ∈ tb := tb_w 38 (by decide +kernel) rfl
theorem ws_X5_hear : Cond.selects RX5 yX5_hear yX5_hear ∈ tb := tb_w 39 (by decide +kernel) rfl
theorem ws_X5_first : Cond.selects RX5 yX5_first yX5_first ∈ tb := tb_w 40 (by decide +kernel) rfl
theorem ws_X5_onCurve : Cond.selects RX5 yX5_onCurve yX5_onCurve ∈ tb := tb_w 41 (by decide +kernel) rfl
theorem ws_X5_curveAt : Cond.selects RX5 yX5_curveAt yX5_curveAt ∈ tb := tb_w 42 (by decide +kernel) rfl
theorem ws_X5_choose : Cond.selects RX5 yX5_choose yX5_choose ∈ tb := tb_w 43 (by decide +kernel) rfl
theorem ws_X5_waysFor : Cond.selects RX5 yX5_waysFor yX5_waysFor ∈ tb := tb_w 44 (by decide +kernel) rfl
theorem ws_X5_waysOf : Cond.selects RX5 yX5_waysOf yX5_waysOf ∈ tb := tb_w 45 (by decide +kernel) rfl
theorem ws_X5_learnsOf : Cond.selects RX5 yX5_learnsOf yX5_learnsOf ∈ tb := tb_w 46 (by decide +kernel) rfl
theorem ws_X5_isSum : Cond.selects RX5 yX5_isSum yX5_isSum ∈ tb := tb_w 47 (by decide +kernel) rfl
theorem ws_X5_bothOf : Cond.selects RX5 yX5_bothOf yX5_bothOf ∈ tb := tb_w 48 (by decide +kernel) rfl
theorem ws_X4_records : Cond.selects RX4 yX4_records yX4_records ∈ tb := tb_w 192 (by decide +kernel) rfl
theorem ws_X4_put : Cond.selects RX4 yX4_put yX4_put ∈ tb := tb_w 211 (by decide +kernel) rfl
theorem ws_X4_record : Cond.selects RX4 yX4_record yX4_record ∈ tb := tb_w 222 (by decide +kernel) rfl
theorem ws_X4_store : Cond.selects RX4 yX4_store yX4_store ∈ tb := tb_w 226 (by decide +kernel) rfl
theorem ws_X4_taken : Cond.selects RX4 yX4_taken yX4_taken ∈ tb := tb_w 239 (by decide +kernel) rfl
theorem ws_X4_copy : Cond.selects RX4 yX4_copy yX4_copy ∈ tb := tb_w 251 (by decide +kernel) rfl
theorem ws_X4_sum : Cond.selects RX4 yX4_sum yX4_sum ∈ tb := tb_w 255 (by decide +kernel) rfl
theorem ws_X4_ask : Cond.selects RX4 yX4_ask yX4_ask ∈ tb := tb_w 266 (by decide +kernel) rfl
theorem ws_X4_veil : Cond.selects RX4 yX4_veil yX4_veil ∈ tb := tb_w 289 (by decide +kernel) rfl
theorem ws_X4_point : Cond.selects RX4 yX4_point yX4_point ∈ tb := tb_w 297 (by decide +kernel) rfl
theorem ws_X4_answer : Cond.selects RX4 yX4_answer yX4_answer ∈ tb := tb_w 309 (by decide +kernel) rfl
theorem ws_X4_needed : Cond.selects RX4 yX4_needed yX4_needed ∈ tb := tb_w 321 (by decide +kernel) rfl
theorem ws_X4_fetch : Cond.selects RX4 yX4_fetch yX4_fetch ∈ tb := tb_w 325 (by decide +kernel) rfl
theorem ws_X4_caught : Cond.selects RX4 yX4_caught yX4_caught ∈ tb := tb_w 391 (by decide +kernel) rfl
theorem ws_X4_mends : Cond.selects RX4 yX4_mends yX4_mends ∈ tb := tb_w 395 (by decide +kernel) rfl
theorem ws_X4_ways : Cond.selects RX4 yX4_ways yX4_ways ∈ tb := tb_w 399 (by decide +kernel) rfl
theorem ws_X4_might : Cond.selects RX4 yX4_might yX4_might ∈ tb := tb_w 413 (by decide +kernel) rfl
theorem ws_X4_learns : Cond.selects RX4 yX4_learns yX4_learns ∈ tb := tb_w 417 (by decide +kernel) rfl
theorem ws_X4_least : Cond.selects RX4 yX4_least yX4_least ∈ tb := tb_w 425 (by decide +kernel) rfl
theorem ws_X4_fits : Cond.selects RX4 yX4_fits yX4_fits ∈ tb := tb_w 429 (by decide +kernel) rfl
theorem ws_X4_both : Cond.selects RX4 yX4_both yX4_both ∈ tb := tb_w 437 (by decide +kernel) rfl
theorem ws_X4_pair : Cond.selects RX4 yX4_pair yX4_pair ∈ tb := tb_w 449 (by decide +kernel) rfl
theorem ws_X4_total : Cond.selects RX4 yX4_total yX4_total ∈ tb := tb_w 453 (by decide +kernel) rfl
theorem ws_X5_records : Cond.selects RX5 yX5_records yX5_records ∈ tb := tb_w 529 (by decide +kernel) rfl
theorem ws_X5_put : Cond.selects RX5 yX5_put yX5_put ∈ tb := tb_w 541 (by decide +kernel) rfl
theorem ws_X5_record : Cond.selects RX5 yX5_record yX5_record ∈ tb := tb_w 553 (by decide +kernel) rfl
theorem ws_X5_store : Cond.selects RX5 yX5_store yX5_store ∈ tb := tb_w 557 (by decide +kernel) rfl
theorem ws_X5_taken : Cond.selects RX5 yX5_taken yX5_taken ∈ tb := tb_w 565 (by decide +kernel) rfl
theorem ws_X5_copy : Cond.selects RX5 yX5_copy yX5_copy ∈ tb := tb_w 574 (by decide +kernel) rfl
theorem ws_X5_sum : Cond.selects RX5 yX5_sum yX5_sum ∈ tb := tb_w 578 (by decide +kernel) rfl
theorem ws_X5_ask : Cond.selects RX5 yX5_ask yX5_ask ∈ tb := tb_w 589 (by decide +kernel) rfl
theorem ws_X5_veil : Cond.selects RX5 yX5_veil yX5_veil ∈ tb := tb_w 608 (by decide +kernel) rfl
theorem ws_X5_point : Cond.selects RX5 yX5_point yX5_point ∈ tb := tb_w 612 (by decide +kernel) rfl
theorem ws_X5_answer : Cond.selects RX5 yX5_answer yX5_answer ∈ tb := tb_w 620 (by decide +kernel) rfl
theorem ws_X5_needed : Cond.selects RX5 yX5_needed yX5_needed ∈ tb := tb_w 628 (by decide +kernel) rfl
theorem ws_X5_fetch : Cond.selects RX5 yX5_fetch yX5_fetch ∈ tb := tb_w 633 (by decide +kernel) rfl
theorem ws_X5_caught : Cond.selects RX5 yX5_caught yX5_caught ∈ tb := tb_w 660 (by decide +kernel) rfl
theorem ws_X5_mends : Cond.selects RX5 yX5_mends yX5_mends ∈ tb := tb_w 664 (by decide +kernel) rfl
theorem ws_X5_ways : Cond.selects RX5 yX5_ways yX5_ways ∈ tb := tb_w 668 (by decide +kernel) rfl
theorem ws_X5_might : Cond.selects RX5 yX5_might yX5_might ∈ tb := tb_w 687 (by decide +kernel) rfl
theorem ws_X5_learns : Cond.selects RX5 yX5_learns yX5_learns ∈ tb := tb_w 691 (by decide +kernel) rfl
theorem ws_X5_least : Cond.selects RX5 yX5_least yX5_least ∈ tb := tb_w 699 (by decide +kernel) rfl
theorem ws_X5_fits : Cond.selects RX5 yX5_fits yX5_fits ∈ tb := tb_w 703 (by decide +kernel) rfl
theorem ws_X5_both : Cond.selects RX5 yX5_both yX5_both ∈ tb := tb_w 707 (by decide +kernel) rfl
theorem ws_X5_pair : Cond.selects RX5 yX5_pair yX5_pair ∈ tb := tb_w 719 (by decide +kernel) rfl
theorem ws_X5_total : Cond.selects RX5 yX5_total yX5_total ∈ tb := tb_w 723 (by decide +kernel) rfl
theorem wn_X4 : Cond.initialized RX4 ∈ tb := tb_w 50 (by decide +kernel) rfl
theorem wn_X1 : Cond.initialized RX1 ∈ tb := tb_w 51 (by decide +kernel) rfl
theorem wn_X2 : Cond.initialized RX2 ∈ tb := tb_w 52 (by decide +kernel) rfl
theorem wn_X0 : Cond.initialized RX0 ∈ tb := tb_w 53 (by decide +kernel) rfl
theorem wn_X3 : Cond.initialized RX3 ∈ tb := tb_w 54 (by decide +kernel) rfl
theorem wn_X5 : Cond.initialized RX5 ∈ tb := tb_w 55 (by decide +kernel) rfl
theorem wn_J10 : Cond.initialized RJ10 ∈ tb := tb_w 56 (by decide +kernel) rfl
theorem wn_J6 : Cond.initialized RJ6 ∈ tb := tb_w 57 (by decide +kernel) rfl
theorem wf_X1_9 : Cond.fieldLink RX1 9 (TX1 0).1 (TX1 0).2.1 (TX1 0).2.2.1 ∈ tb := tb_w 74 (by decide +kernel) rfl
theorem gf_X1_9 {b : ByteArray} {nL : Nat} {ret : Option FieldType} {E : GE} {pc : Nat} {L : List (Nat × Value)} {rest : List Value} {M : Mem} {k r : Nat} (hk : k < 42) (hs : shK k = 1) (hr : rf k 0 = some r) (hdg : decode b pc = .ok (.getfield 9, 3)) (kk : G RX1 b nL ret E (pc + 3) L (.ref r :: rest) M) : G RX1 b nL ret E pc L (.ref k :: rest) M := g_get (j := 0) (T := TX1) (v := .ref r) hk hs (by decide) (by unfold fvA; rw [hr]) rfl inX1 (by decide) (sh_1 k hk hs) wf_X1_9 hdg kk
theorem wf_X1_15 : Cond.fieldLink RX1 15 (TX1 1).1 (TX1 1).2.1 (TX1 1).2.2.1 ∈ tb := tb_w 75 (by decide +kernel) rfl
theorem gf_X1_15 {b : ByteArray} {nL : Nat} {ret : Option FieldType} {E : GE} {pc : Nat} {L : List (Nat × Value)} {rest : List Value} {M : Mem} {k r : Nat} (hk : k < 42) (hs : shK k = 1) (hr : rf k 1 = some r) (hdg : decode b pc = .ok (.getfield 15, 3)) (kk : G RX1 b nL ret E (pc + 3) L (.ref r :: rest) M) : G RX1 b nL ret E pc L (.ref k :: rest) M := g_get (j := 1) (T := TX1) (v := .ref r) hk hs (by decide) (by unfold fvA; rw [hr]) rfl inX1 (by decide) (sh_1 k hk hs) wf_X1_15 hdg kk
theorem wf_X1_18 : Cond.fieldLink RX1 18 (TX1 2).1 (TX1 2).2.1 (TX1 2).2.2.1 ∈ tb := tb_w 76 (by decide +kernel) rfl
theorem rn_1_2 : ∀ k, k < 42 → shK k = 1 → rf k 2 = none := by decide +kernel
theorem gf_X1_18 {b : ByteArray} {nL : Nat} {ret : Option FieldType} {E : GE} {pc : Nat} {L : List (Nat × Value)} {rest : List Value} {M : Mem} {k : Nat} (hk : k < 42) (hs : shK k = 1) (hdg : decode b pc = .ok (.getfield 18, 3)) (kk : G RX1 b nL ret E (pc + 3) L (.int (M k 2) :: rest) M) : G RX1 b nL ret E pc L (.ref k :: rest) M := g_get (j := 2) (T := TX1) (v := .int (M k 2)) hk hs (by decide) (by unfold fvA; rw [rn_1_2 k hk hs]) rfl inX1 (by decide) (sh_1 k hk hs) wf_X1_18 hdg kk
theorem gp_X1_18 {b : ByteArray} {nL : Nat} {ret : Option FieldType} {E : GE} {pc : Nat} {L : List (Nat × Value)} {rest : List Value} {M : Mem} {k : Nat} {v : Int32} (hk : k < 42) (hs : shK k = 1) (hn : narrow .boolean (.int v) = .int v) (hf : fits .boolean (.int v) = true) (hdg : decode b pc = .ok (.putfield 18, 3)) (kk : G RX1 b nL ret E (pc + 3) L rest (mset M k 2 v)) : G RX1 b nL ret E pc L (.int v :: .ref k :: rest) M := g_put (j := 2) (T := TX1) (ty := .boolean) tyX1 hk hs (by decide) (rn_1_2 k hk hs) rfl inX1 tyX1_ok nmX1 rfl (by decide +kernel) hn hf (by decide) (sh_1 k hk hs) wf_X1_18 hdg kk
theorem wf_X4_72 : Cond.fieldLinkNest RX4 72 (TX1 2).1 (TX1 2).2.1 (TX1 2).2.2.1 "SilentAsking" ∈ nwl := List.mem_filter.mpr ⟨List.mem_of_getElem? (i := 77) (by decide +kernel), rfl⟩
theorem gf_X4_72 {b : ByteArray} {nL : Nat} {ret : Option FieldType} {E : GE} {pc : Nat} {L : List (Nat × Value)} {rest : List Value} {M : Mem} {k : Nat} (hk : k < 42) (hs : shK k = 1) (hdg : decode b pc = .ok (.getfield 72, 3)) (kk : G RX4 b nL ret E (pc + 3) L (.int (M k 2) :: rest) M) : G RX4 b nL ret E pc L (.ref k :: rest) M := g_getN (j := 2) (T := TX1) (host := "SilentAsking") (v := .int (M k 2)) hk hs (by decide) (by unfold fvA; rw [rn_1_2 k hk hs]) rfl inX1 (by decide) (sh_1 k hk hs) wf_X4_72 hdg kk
theorem gp_X4_72 {b : ByteArray} {nL : Nat} {ret : Option FieldType} {E : GE} {pc : Nat} {L : List (Nat × Value)} {rest : List Value} {M : Mem} {k : Nat} {v : Int32} (hk : k < 42) (hs : shK k = 1) (hn : narrow .boolean (.int v) = .int v) (hf : fits .boolean (.int v) = true) (hdg : decode b pc = .ok (.putfield 72, 3)) (kk : G RX4 b nL ret E (pc + 3) L rest (mset M k 2 v)) : G RX4 b nL ret E pc L (.int v :: .ref k :: rest) M := g_putN (j := 2) (T := TX1) (ty := .boolean) (host := "SilentAsking") tyX1 hk hs (by decide) (rn_1_2 k hk hs) rfl inX1 tyX1_ok nmX1 rfl (by decide +kernel) hn hf (by decide) (sh_1 k hk hs) wf_X4_72 hdg kk
theorem wf_X1_22 : Cond.fieldLink RX1 22 (TX1 3).1 (TX1 3).2.1 (TX1 3).2.2.1 ∈ tb := tb_w 78 (by decide +kernel) rfl
theorem rn_1_3 : ∀ k, k < 42 → shK k = 1 → rf k 3 = none := by decide +kernel
theorem gf_X1_22 {b : ByteArray} {nL : Nat} {ret : Option FieldType} {E : GE} {pc : Nat} {L : List (Nat × Value)} {rest : List Value} {M : Mem} {k : Nat} (hk : k < 42) (hs : shK k = 1) (hdg : decode b pc = .ok (.getfield 22, 3)) (kk : G RX1 b nL ret E (pc + 3) L (.int (M k 3) :: rest) M) : G RX1 b nL ret E pc L (.ref k :: rest) M := g_get (j := 3) (T := TX1) (v := .int (M k 3)) hk hs (by decide) (by unfold fvA; rw [rn_1_3 k hk hs]) rfl inX1 (by decide) (sh_1 k hk hs) wf_X1_22 hdg kk
theorem gp_X1_22 {b : ByteArray} {nL : Nat} {ret : Option FieldType} {E : GE} {pc : Nat} {L : List (Nat × Value)} {rest : List Value} {M : Mem} {k : Nat} {v : Int32} (hk : k < 42) (hs : shK k = 1) (hn : narrow .boolean (.int v) = .int v) (hf : fits .boolean (.int v) = true) (hdg : decode b pc = .ok (.putfield 22, 3)) (kk : G RX1 b nL ret E (pc + 3) L rest (mset M k 3 v)) : G RX1 b nL ret E pc L (.int v :: .ref k :: rest) M := g_put (j := 3) (T := TX1) (ty := .boolean) tyX1 hk hs (by decide) (rn_1_3 k hk hs) rfl inX1 tyX1_ok nmX1 rfl (by decide +kernel) hn hf (by decide) (sh_1 k hk hs) wf_X1_22 hdg kk
theorem wf_X4_119 : Cond.fieldLinkNest RX4 119 (TX1 3).1 (TX1 3).2.1 (TX1 3).2.2.1 "SilentAsking" ∈ nwl := List.mem_filter.mpr ⟨List.mem_of_getElem? (i := 79) (by decide +kernel), rfl⟩
theorem gf_X4_119 {b : ByteArray} {nL : Nat} {ret : Option FieldType} {E : GE} {pc : Nat} {L : List (Nat × Value)} {rest : List Value} {M : Mem} {k : Nat} (hk : k < 42) (hs : shK k = 1) (hdg : decode b pc = .ok (.getfield 119, 3)) (kk : G RX4 b nL ret E (pc + 3) L (.int (M k 3) :: rest) M) : G RX4 b nL ret E pc L (.ref k :: rest) M := g_getN (j := 3) (T := TX1) (host := "SilentAsking") (v := .int (M k 3)) hk hs (by decide) (by unfold fvA; rw [rn_1_3 k hk hs]) rfl inX1 (by decide) (sh_1 k hk hs) wf_X4_119 hdg kk
theorem gp_X4_119 {b : ByteArray} {nL : Nat} {ret : Option FieldType} {E : GE} {pc : Nat} {L : List (Nat × Value)} {rest : List Value} {M : Mem} {k : Nat} {v : Int32} (hk : k < 42) (hs : shK k = 1) (hn : narrow .boolean (.int v) = .int v) (hf : fits .boolean (.int v) = true) (hdg : decode b pc = .ok (.putfield 119, 3)) (kk : G RX4 b nL ret E (pc + 3) L rest (mset M k 3 v)) : G RX4 b nL ret E pc L (.int v :: .ref k :: rest) M := g_putN (j := 3) (T := TX1) (ty := .boolean) (host := "SilentAsking") tyX1 hk hs (by decide) (rn_1_3 k hk hs) rfl inX1 tyX1_ok nmX1 rfl (by decide +kernel) hn hf (by decide) (sh_1 k hk hs) wf_X4_119 hdg kk
theorem wf_X1_25 : Cond.fieldLink RX1 25 (TX1 4).1 (TX1 4).2.1 (TX1 4).2.2.1 ∈ tb := tb_w 80 (by decide +kernel) rfl
theorem rn_1_4 : ∀ k, k < 42 → shK k = 1 → rf k 4 = none := by decide +kernel
theorem gf_X1_25 {b : ByteArray} {nL : Nat} {ret : Option FieldType} {E : GE} {pc : Nat} {L : List (Nat × Value)} {rest : List Value} {M : Mem} {k : Nat} (hk : k < 42) (hs : shK k = 1) (hdg : decode b pc = .ok (.getfield 25, 3)) (kk : G RX1 b nL ret E (pc + 3) L (.int (M k 4) :: rest) M) : G RX1 b nL ret E pc L (.ref k :: rest) M := g_get (j := 4) (T := TX1) (v := .int (M k 4)) hk hs (by decide) (by unfold fvA; rw [rn_1_4 k hk hs]) rfl inX1 (by decide) (sh_1 k hk hs) wf_X1_25 hdg kk
theorem gp_X1_25 {b : ByteArray} {nL : Nat} {ret : Option FieldType} {E : GE} {pc : Nat} {L : List (Nat × Value)} {rest : List Value} {M : Mem} {k : Nat} {v : Int32} (hk : k < 42) (hs : shK k = 1) (hdg : decode b pc = .ok (.putfield 25, 3)) (kk : G RX1 b nL ret E (pc + 3) L rest (mset M k 4 v)) : G RX1 b nL ret E pc L (.int v :: .ref k :: rest) M := g_put (j := 4) (T := TX1) (ty := .int) tyX1 hk hs (by decide) (rn_1_4 k hk hs) rfl inX1 tyX1_ok nmX1 rfl (by decide +kernel) rfl rfl (by decide) (sh_1 k hk hs) wf_X1_25 hdg kk
theorem wf_X1_29 : Cond.fieldLink RX1 29 (TX1 5).1 (TX1 5).2.1 (TX1 5).2.2.1 ∈ tb := tb_w 81 (by decide +kernel) rfl
theorem rn_1_5 : ∀ k, k < 42 → shK k = 1 → rf k 5 = none := by decide +kernel
theorem gf_X1_29 {b : ByteArray} {nL : Nat} {ret : Option FieldType} {E : GE} {pc : Nat} {L : List (Nat × Value)} {rest : List Value} {M : Mem} {k : Nat} (hk : k < 42) (hs : shK k = 1) (hdg : decode b pc = .ok (.getfield 29, 3)) (kk : G RX1 b nL ret E (pc + 3) L (.int (M k 5) :: rest) M) : G RX1 b nL ret E pc L (.ref k :: rest) M := g_get (j := 5) (T := TX1) (v := .int (M k 5)) hk hs (by decide) (by unfold fvA; rw [rn_1_5 k hk hs]) rfl inX1 (by decide) (sh_1 k hk hs) wf_X1_29 hdg kk
theorem gp_X1_29 {b : ByteArray} {nL : Nat} {ret : Option FieldType} {E : GE} {pc : Nat} {L : List (Nat × Value)} {rest : List Value} {M : Mem} {k : Nat} {v : Int32} (hk : k < 42) (hs : shK k = 1) (hdg : decode b pc = .ok (.putfield 29, 3)) (kk : G RX1 b nL ret E (pc + 3) L rest (mset M k 5 v)) : G RX1 b nL ret E pc L (.int v :: .ref k :: rest) M := g_put (j := 5) (T := TX1) (ty := .int) tyX1 hk hs (by decide) (rn_1_5 k hk hs) rfl inX1 tyX1_ok nmX1 rfl (by decide +kernel) rfl rfl (by decide) (sh_1 k hk hs) wf_X1_29 hdg kk
theorem wf_X1_32 : Cond.fieldLink RX1 32 (TX1 6).1 (TX1 6).2.1 (TX1 6).2.2.1 ∈ tb := tb_w 82 (by decide +kernel) rfl
theorem rn_1_6 : ∀ k, k < 42 → shK k = 1 → rf k 6 = none := by decide +kernel
theorem gf_X1_32 {b : ByteArray} {nL : Nat} {ret : Option FieldType} {E : GE} {pc : Nat} {L : List (Nat × Value)} {rest : List Value} {M : Mem} {k : Nat} (hk : k < 42) (hs : shK k = 1) (hdg : decode b pc = .ok (.getfield 32, 3)) (kk : G RX1 b nL ret E (pc + 3) L (.int (M k 6) :: rest) M) : G RX1 b nL ret E pc L (.ref k :: rest) M := g_get (j := 6) (T := TX1) (v := .int (M k 6)) hk hs (by decide) (by unfold fvA; rw [rn_1_6 k hk hs]) rfl inX1 (by decide) (sh_1 k hk hs) wf_X1_32 hdg kk
theorem gp_X1_32 {b : ByteArray} {nL : Nat} {ret : Option FieldType} {E : GE} {pc : Nat} {L : List (Nat × Value)} {rest : List Value} {M : Mem} {k : Nat} {v : Int32} (hk : k < 42) (hs : shK k = 1) (hdg : decode b pc = .ok (.putfield 32, 3)) (kk : G RX1 b nL ret E (pc + 3) L rest (mset M k 6 v)) : G RX1 b nL ret E pc L (.int v :: .ref k :: rest) M := g_put (j := 6) (T := TX1) (ty := .int) tyX1 hk hs (by decide) (rn_1_6 k hk hs) rfl inX1 tyX1_ok nmX1 rfl (by decide +kernel) rfl rfl (by decide) (sh_1 k hk hs) wf_X1_32 hdg kk
theorem wf_X1_35 : Cond.fieldLink RX1 35 (TX1 7).1 (TX1 7).2.1 (TX1 7).2.2.1 ∈ tb := tb_w 83 (by decide +kernel) rfl
theorem rn_1_7 : ∀ k, k < 42 → shK k = 1 → rf k 7 = none := by decide +kernel
theorem gf_X1_35 {b : ByteArray} {nL : Nat} {ret : Option FieldType} {E : GE} {pc : Nat} {L : List (Nat × Value)} {rest : List Value} {M : Mem} {k : Nat} (hk : k < 42) (hs : shK k = 1) (hdg : decode b pc = .ok (.getfield 35, 3)) (kk : G RX1 b nL ret E (pc + 3) L (.int (M k 7) :: rest) M) : G RX1 b nL ret E pc L (.ref k :: rest) M := g_get (j := 7) (T := TX1) (v := .int (M k 7)) hk hs (by decide) (by unfold fvA; rw [rn_1_7 k hk hs]) rfl inX1 (by decide) (sh_1 k hk hs) wf_X1_35 hdg kk
theorem gp_X1_35 {b : ByteArray} {nL : Nat} {ret : Option FieldType} {E : GE} {pc : Nat} {L : List (Nat × Value)} {rest : List Value} {M : Mem} {k : Nat} {v : Int32} (hk : k < 42) (hs : shK k = 1) (hdg : decode b pc = .ok (.putfield 35, 3)) (kk : G RX1 b nL ret E (pc + 3) L rest (mset M k 7 v)) : G RX1 b nL ret E pc L (.int v :: .ref k :: rest) M := g_put (j := 7) (T := TX1) (ty := .int) tyX1 hk hs (by decide) (rn_1_7 k hk hs) rfl inX1 tyX1_ok nmX1 rfl (by decide +kernel) rfl rfl (by decide) (sh_1 k hk hs) wf_X1_35 hdg kk
theorem wf_X4_116 : Cond.fieldLinkNest RX4 116 (TX1 7).1 (TX1 7).2.1 (TX1 7).2.2.1 "SilentAsking" ∈ nwl := List.mem_filter.mpr ⟨List.mem_of_getElem? (i := 84) (by decide +kernel), rfl⟩
theorem gf_X4_116 {b : ByteArray} {nL : Nat} {ret : Option FieldType} {E : GE} {pc : Nat} {L : List (Nat × Value)} {rest : List Value} {M : Mem} {k : Nat} (hk : k < 42) (hs : shK k = 1) (hdg : decode b pc = .ok (.getfield 116, 3)) (kk : G RX4 b nL ret E (pc + 3) L (.int (M k 7) :: rest) M) : G RX4 b nL ret E pc L (.ref k :: rest) M := g_getN (j := 7) (T := TX1) (host := "SilentAsking") (v := .int (M k 7)) hk hs (by decide) (by unfold fvA; rw [rn_1_7 k hk hs]) rfl inX1 (by decide) (sh_1 k hk hs) wf_X4_116 hdg kk
theorem gp_X4_116 {b : ByteArray} {nL : Nat} {ret : Option FieldType} {E : GE} {pc : Nat} {L : List (Nat × Value)} {rest : List Value} {M : Mem} {k : Nat} {v : Int32} (hk : k < 42) (hs : shK k = 1) (hdg : decode b pc = .ok (.putfield 116, 3)) (kk : G RX4 b nL ret E (pc + 3) L rest (mset M k 7 v)) : G RX4 b nL ret E pc L (.int v :: .ref k :: rest) M := g_putN (j := 7) (T := TX1) (ty := .int) (host := "SilentAsking") tyX1 hk hs (by decide) (rn_1_7 k hk hs) rfl inX1 tyX1_ok nmX1 rfl (by decide +kernel) rfl rfl (by decide) (sh_1 k hk hs) wf_X4_116 hdg kk
theorem wf_X2_9 : Cond.fieldLink RX2 9 (TX2 0).1 (TX2 0).2.1 (TX2 0).2.2.1 ∈ tb := tb_w 109 (by decide +kernel) rfl
theorem gf_X2_9 {b : ByteArray} {nL : Nat} {ret : Option FieldType} {E : GE} {pc : Nat} {L : List (Nat × Value)} {rest : List Value} {M : Mem} {k r : Nat} (hk : k < 42) (hs : shK k = 2) (hr : rf k 0 = some r) (hdg : decode b pc = .ok (.getfield 9, 3)) (kk : G RX2 b nL ret E (pc + 3) L (.ref r :: rest) M) : G RX2 b nL ret E pc L (.ref k :: rest) M := g_get (j := 0) (T := TX2) (v := .ref r) hk hs (by decide) (by unfold fvA; rw [hr]) rfl inX2 (by decide) (sh_2 k hk hs) wf_X2_9 hdg kk
theorem wf_X0_29 : Cond.fieldLinkNest RX0 29 (TX2 0).1 (TX2 0).2.1 (TX2 0).2.2.1 "SilentAsking" ∈ nwl := List.mem_filter.mpr ⟨List.mem_of_getElem? (i := 110) (by decide +kernel), rfl⟩
theorem gf_X0_29 {b : ByteArray} {nL : Nat} {ret : Option FieldType} {E : GE} {pc : Nat} {L : List (Nat × Value)} {rest : List Value} {M : Mem} {k r : Nat} (hk : k < 42) (hs : shK k = 2) (hr : rf k 0 = some r) (hdg : decode b pc = .ok (.getfield 29, 3)) (kk : G RX0 b nL ret E (pc + 3) L (.ref r :: rest) M) : G RX0 b nL ret E pc L (.ref k :: rest) M := g_getN (j := 0) (T := TX2) (host := "SilentAsking") (v := .ref r) hk hs (by decide) (by unfold fvA; rw [hr]) rfl inX2 (by decide) (sh_2 k hk hs) wf_X0_29 hdg kk
theorem wf_X2_15 : Cond.fieldLink RX2 15 (TX2 1).1 (TX2 1).2.1 (TX2 1).2.2.1 ∈ tb := tb_w 111 (by decide +kernel) rfl
theorem gf_X2_15 {b : ByteArray} {nL : Nat} {ret : Option FieldType} {E : GE} {pc : Nat} {L : List (Nat × Value)} {rest : List Value} {M : Mem} {k r : Nat} (hk : k < 42) (hs : shK k = 2) (hr : rf k 1 = some r) (hdg : decode b pc = .ok (.getfield 15, 3)) (kk : G RX2 b nL ret E (pc + 3) L (.ref r :: rest) M) : G RX2 b nL ret E pc L (.ref k :: rest) M := g_get (j := 1) (T := TX2) (v := .ref r) hk hs (by decide) (by unfold fvA; rw [hr]) rfl inX2 (by decide) (sh_2 k hk hs) wf_X2_15 hdg kk
theorem wf_X0_32 : Cond.fieldLinkNest RX0 32 (TX2 1).1 (TX2 1).2.1 (TX2 1).2.2.1 "SilentAsking" ∈ nwl := List.mem_filter.mpr ⟨List.mem_of_getElem? (i := 112) (by decide +kernel), rfl⟩
theorem gf_X0_32 {b : ByteArray} {nL : Nat} {ret : Option FieldType} {E : GE} {pc : Nat} {L : List (Nat × Value)} {rest : List Value} {M : Mem} {k r : Nat} (hk : k < 42) (hs : shK k = 2) (hr : rf k 1 = some r) (hdg : decode b pc = .ok (.getfield 32, 3)) (kk : G RX0 b nL ret E (pc + 3) L (.ref r :: rest) M) : G RX0 b nL ret E pc L (.ref k :: rest) M := g_getN (j := 1) (T := TX2) (host := "SilentAsking") (v := .ref r) hk hs (by decide) (by unfold fvA; rw [hr]) rfl inX2 (by decide) (sh_2 k hk hs) wf_X0_32 hdg kk
theorem wf_X2_18 : Cond.fieldLink RX2 18 (TX2 2).1 (TX2 2).2.1 (TX2 2).2.2.1 ∈ tb := tb_w 113 (by decide +kernel) rfl
theorem rn_2_2 : ∀ k, k < 42 → shK k = 2 → rf k 2 = none := by decide +kernel
theorem gf_X2_18 {b : ByteArray} {nL : Nat} {ret : Option FieldType} {E : GE} {pc : Nat} {L : List (Nat × Value)} {rest : List Value} {M : Mem} {k : Nat} (hk : k < 42) (hs : shK k = 2) (hdg : decode b pc = .ok (.getfield 18, 3)) (kk : G RX2 b nL ret E (pc + 3) L (.int (M k 2) :: rest) M) : G RX2 b nL ret E pc L (.ref k :: rest) M := g_get (j := 2) (T := TX2) (v := .int (M k 2)) hk hs (by decide) (by unfold fvA; rw [rn_2_2 k hk hs]) rfl inX2 (by decide) (sh_2 k hk hs) wf_X2_18 hdg kk
theorem gp_X2_18 {b : ByteArray} {nL : Nat} {ret : Option FieldType} {E : GE} {pc : Nat} {L : List (Nat × Value)} {rest : List Value} {M : Mem} {k : Nat} {v : Int32} (hk : k < 42) (hs : shK k = 2) (hdg : decode b pc = .ok (.putfield 18, 3)) (kk : G RX2 b nL ret E (pc + 3) L rest (mset M k 2 v)) : G RX2 b nL ret E pc L (.int v :: .ref k :: rest) M := g_put (j := 2) (T := TX2) (ty := .int) tyX2 hk hs (by decide) (rn_2_2 k hk hs) rfl inX2 tyX2_ok nmX2 rfl (by decide +kernel) rfl rfl (by decide) (sh_2 k hk hs) wf_X2_18 hdg kk
theorem wf_X0_22 : Cond.fieldLinkNest RX0 22 (TX2 2).1 (TX2 2).2.1 (TX2 2).2.2.1 "SilentAsking" ∈ nwl := List.mem_filter.mpr ⟨List.mem_of_getElem? (i := 114) (by decide +kernel), rfl⟩
theorem gf_X0_22 {b : ByteArray} {nL : Nat} {ret : Option FieldType} {E : GE} {pc : Nat} {L : List (Nat × Value)} {rest : List Value} {M : Mem} {k : Nat} (hk : k < 42) (hs : shK k = 2) (hdg : decode b pc = .ok (.getfield 22, 3)) (kk : G RX0 b nL ret E (pc + 3) L (.int (M k 2) :: rest) M) : G RX0 b nL ret E pc L (.ref k :: rest) M := g_getN (j := 2) (T := TX2) (host := "SilentAsking") (v := .int (M k 2)) hk hs (by decide) (by unfold fvA; rw [rn_2_2 k hk hs]) rfl inX2 (by decide) (sh_2 k hk hs) wf_X0_22 hdg kk
theorem gp_X0_22 {b : ByteArray} {nL : Nat} {ret : Option FieldType} {E : GE} {pc : Nat} {L : List (Nat × Value)} {rest : List Value} {M : Mem} {k : Nat} {v : Int32} (hk : k < 42) (hs : shK k = 2) (hdg : decode b pc = .ok (.putfield 22, 3)) (kk : G RX0 b nL ret E (pc + 3) L rest (mset M k 2 v)) : G RX0 b nL ret E pc L (.int v :: .ref k :: rest) M := g_putN (j := 2) (T := TX2) (ty := .int) (host := "SilentAsking") tyX2 hk hs (by decide) (rn_2_2 k hk hs) rfl inX2 tyX2_ok nmX2 rfl (by decide +kernel) rfl rfl (by decide) (sh_2 k hk hs) wf_X0_22 hdg kk
theorem wf_X4_140 : Cond.fieldLinkNest RX4 140 (TX2 2).1 (TX2 2).2.1 (TX2 2).2.2.1 "SilentAsking" ∈ nwl := List.mem_filter.mpr ⟨List.mem_of_getElem? (i := 115) (by decide +kernel), rfl⟩
theorem gf_X4_140 {b : ByteArray} {nL : Nat} {ret : Option FieldType} {E : GE} {pc : Nat} {L : List (Nat × Value)} {rest : List Value} {M : Mem} {k : Nat} (hk : k < 42) (hs : shK k = 2) (hdg : decode b pc = .ok (.getfield 140, 3)) (kk : G RX4 b nL ret E (pc + 3) L (.int (M k 2) :: rest) M) : G RX4 b nL ret E pc L (.ref k :: rest) M := g_getN (j := 2) (T := TX2) (host := "SilentAsking") (v := .int (M k 2)) hk hs (by decide) (by unfold fvA; rw [rn_2_2 k hk hs]) rfl inX2 (by decide) (sh_2 k hk hs) wf_X4_140 hdg kk
theorem gp_X4_140 {b : ByteArray} {nL : Nat} {ret : Option FieldType} {E : GE} {pc : Nat} {L : List (Nat × Value)} {rest : List Value} {M : Mem} {k : Nat} {v : Int32} (hk : k < 42) (hs : shK k = 2) (hdg : decode b pc = .ok (.putfield 140, 3)) (kk : G RX4 b nL ret E (pc + 3) L rest (mset M k 2 v)) : G RX4 b nL ret E pc L (.int v :: .ref k :: rest) M := g_putN (j := 2) (T := TX2) (ty := .int) (host := "SilentAsking") tyX2 hk hs (by decide) (rn_2_2 k hk hs) rfl inX2 tyX2_ok nmX2 rfl (by decide +kernel) rfl rfl (by decide) (sh_2 k hk hs) wf_X4_140 hdg kk
theorem wf_X0_9 : Cond.fieldLink RX0 9 (TX0 0).1 (TX0 0).2.1 (TX0 0).2.2.1 ∈ tb := tb_w 129 (by decide +kernel) rfl
theorem gf_X0_9 {b : ByteArray} {nL : Nat} {ret : Option FieldType} {E : GE} {pc : Nat} {L : List (Nat × Value)} {rest : List Value} {M : Mem} {k r : Nat} (hk : k < 42) (hs : shK k = 0) (hr : rf k 0 = some r) (hdg : decode b pc = .ok (.getfield 9, 3)) (kk : G RX0 b nL ret E (pc + 3) L (.ref r :: rest) M) : G RX0 b nL ret E pc L (.ref k :: rest) M := g_get (j := 0) (T := TX0) (v := .ref r) hk hs (by decide) (by unfold fvA; rw [hr]) rfl inX0 (by decide) (sh_0 k hk hs) wf_X0_9 hdg kk
theorem wf_X0_15 : Cond.fieldLink RX0 15 (TX0 1).1 (TX0 1).2.1 (TX0 1).2.2.1 ∈ tb := tb_w 130 (by decide +kernel) rfl
theorem gf_X0_15 {b : ByteArray} {nL : Nat} {ret : Option FieldType} {E : GE} {pc : Nat} {L : List (Nat × Value)} {rest : List Value} {M : Mem} {k r : Nat} (hk : k < 42) (hs : shK k = 0) (hr : rf k 1 = some r) (hdg : decode b pc = .ok (.getfield 15, 3)) (kk : G RX0 b nL ret E (pc + 3) L (.ref r :: rest) M) : G RX0 b nL ret E pc L (.ref k :: rest) M := g_get (j := 1) (T := TX0) (v := .ref r) hk hs (by decide) (by unfold fvA; rw [hr]) rfl inX0 (by decide) (sh_0 k hk hs) wf_X0_15 hdg kk
theorem wf_X0_18 : Cond.fieldLink RX0 18 (TX0 2).1 (TX0 2).2.1 (TX0 2).2.2.1 ∈ tb := tb_w 131 (by decide +kernel) rfl
theorem rn_0_2 : ∀ k, k < 42 → shK k = 0 → rf k 2 = none := by decide +kernel
theorem gf_X0_18 {b : ByteArray} {nL : Nat} {ret : Option FieldType} {E : GE} {pc : Nat} {L : List (Nat × Value)} {rest : List Value} {M : Mem} {k : Nat} (hk : k < 42) (hs : shK k = 0) (hdg : decode b pc = .ok (.getfield 18, 3)) (kk : G RX0 b nL ret E (pc + 3) L (.int (M k 2) :: rest) M) : G RX0 b nL ret E pc L (.ref k :: rest) M := g_get (j := 2) (T := TX0) (v := .int (M k 2)) hk hs (by decide) (by unfold fvA; rw [rn_0_2 k hk hs]) rfl inX0 (by decide) (sh_0 k hk hs) wf_X0_18 hdg kk
theorem gp_X0_18 {b : ByteArray} {nL : Nat} {ret : Option FieldType} {E : GE} {pc : Nat} {L : List (Nat × Value)} {rest : List Value} {M : Mem} {k : Nat} {v : Int32} (hk : k < 42) (hs : shK k = 0) (hdg : decode b pc = .ok (.putfield 18, 3)) (kk : G RX0 b nL ret E (pc + 3) L rest (mset M k 2 v)) : G RX0 b nL ret E pc L (.int v :: .ref k :: rest) M := g_put (j := 2) (T := TX0) (ty := .int) tyX0 hk hs (by decide) (rn_0_2 k hk hs) rfl inX0 tyX0_ok nmX0 rfl (by decide +kernel) rfl rfl (by decide) (sh_0 k hk hs) wf_X0_18 hdg kk
theorem wf_X3_9 : Cond.fieldLink RX3 9 (TX3 0).1 (TX3 0).2.1 (TX3 0).2.2.1 ∈ tb := tb_w 144 (by decide +kernel) rfl
theorem gf_X3_9 {b : ByteArray} {nL : Nat} {ret : Option FieldType} {E : GE} {pc : Nat} {L : List (Nat × Value)} {rest : List Value} {M : Mem} {k r : Nat} (hk : k < 42) (hs : shK k = 3) (hr : rf k 0 = some r) (hdg : decode b pc = .ok (.getfield 9, 3)) (kk : G RX3 b nL ret E (pc + 3) L (.ref r :: rest) M) : G RX3 b nL ret E pc L (.ref k :: rest) M := g_get (j := 0) (T := TX3) (v := .ref r) hk hs (by decide) (by unfold fvA; rw [hr]) rfl inX3 (by decide) (sh_3 k hk hs) wf_X3_9 hdg kk
theorem wf_X3_15 : Cond.fieldLink RX3 15 (TX3 1).1 (TX3 1).2.1 (TX3 1).2.2.1 ∈ tb := tb_w 145 (by decide +kernel) rfl
theorem rn_3_1 : ∀ k, k < 42 → shK k = 3 → rf k 1 = none := by decide +kernel
theorem gf_X3_15 {b : ByteArray} {nL : Nat} {ret : Option FieldType} {E : GE} {pc : Nat} {L : List (Nat × Value)} {rest : List Value} {M : Mem} {k : Nat} (hk : k < 42) (hs : shK k = 3) (hdg : decode b pc = .ok (.getfield 15, 3)) (kk : G RX3 b nL ret E (pc + 3) L (.int (M k 1) :: rest) M) : G RX3 b nL ret E pc L (.ref k :: rest) M := g_get (j := 1) (T := TX3) (v := .int (M k 1)) hk hs (by decide) (by unfold fvA; rw [rn_3_1 k hk hs]) rfl inX3 (by decide) (sh_3 k hk hs) wf_X3_15 hdg kk
theorem gp_X3_15 {b : ByteArray} {nL : Nat} {ret : Option FieldType} {E : GE} {pc : Nat} {L : List (Nat × Value)} {rest : List Value} {M : Mem} {k : Nat} {v : Int32} (hk : k < 42) (hs : shK k = 3) (hdg : decode b pc = .ok (.putfield 15, 3)) (kk : G RX3 b nL ret E (pc + 3) L rest (mset M k 1 v)) : G RX3 b nL ret E pc L (.int v :: .ref k :: rest) M := g_put (j := 1) (T := TX3) (ty := .int) tyX3 hk hs (by decide) (rn_3_1 k hk hs) rfl inX3 tyX3_ok nmX3 rfl (by decide +kernel) rfl rfl (by decide) (sh_3 k hk hs) wf_X3_15 hdg kk
theorem wf_X4_92 : Cond.fieldLinkNest RX4 92 (TX3 1).1 (TX3 1).2.1 (TX3 1).2.2.1 "SilentAsking" ∈ nwl := List.mem_filter.mpr ⟨List.mem_of_getElem? (i := 146) (by decide +kernel), rfl⟩
theorem gf_X4_92 {b : ByteArray} {nL : Nat} {ret : Option FieldType} {E : GE} {pc : Nat} {L : List (Nat × Value)} {rest : List Value} {M : Mem} {k : Nat} (hk : k < 42) (hs : shK k = 3) (hdg : decode b pc = .ok (.getfield 92, 3)) (kk : G RX4 b nL ret E (pc + 3) L (.int (M k 1) :: rest) M) : G RX4 b nL ret E pc L (.ref k :: rest) M := g_getN (j := 1) (T := TX3) (host := "SilentAsking") (v := .int (M k 1)) hk hs (by decide) (by unfold fvA; rw [rn_3_1 k hk hs]) rfl inX3 (by decide) (sh_3 k hk hs) wf_X4_92 hdg kk
theorem gp_X4_92 {b : ByteArray} {nL : Nat} {ret : Option FieldType} {E : GE} {pc : Nat} {L : List (Nat × Value)} {rest : List Value} {M : Mem} {k : Nat} {v : Int32} (hk : k < 42) (hs : shK k = 3) (hdg : decode b pc = .ok (.putfield 92, 3)) (kk : G RX4 b nL ret E (pc + 3) L rest (mset M k 1 v)) : G RX4 b nL ret E pc L (.int v :: .ref k :: rest) M := g_putN (j := 1) (T := TX3) (ty := .int) (host := "SilentAsking") tyX3 hk hs (by decide) (rn_3_1 k hk hs) rfl inX3 tyX3_ok nmX3 rfl (by decide +kernel) rfl rfl (by decide) (sh_3 k hk hs) wf_X4_92 hdg kk
theorem wf_X3_19 : Cond.fieldLink RX3 19 (TX3 2).1 (TX3 2).2.1 (TX3 2).2.2.1 ∈ tb := tb_w 147 (by decide +kernel) rfl
theorem rn_3_2 : ∀ k, k < 42 → shK k = 3 → rf k 2 = none := by decide +kernel
theorem gf_X3_19 {b : ByteArray} {nL : Nat} {ret : Option FieldType} {E : GE} {pc : Nat} {L : List (Nat × Value)} {rest : List Value} {M : Mem} {k : Nat} (hk : k < 42) (hs : shK k = 3) (hdg : decode b pc = .ok (.getfield 19, 3)) (kk : G RX3 b nL ret E (pc + 3) L (.int (M k 2) :: rest) M) : G RX3 b nL ret E pc L (.ref k :: rest) M := g_get (j := 2) (T := TX3) (v := .int (M k 2)) hk hs (by decide) (by unfold fvA; rw [rn_3_2 k hk hs]) rfl inX3 (by decide) (sh_3 k hk hs) wf_X3_19 hdg kk
theorem gp_X3_19 {b : ByteArray} {nL : Nat} {ret : Option FieldType} {E : GE} {pc : Nat} {L : List (Nat × Value)} {rest : List Value} {M : Mem} {k : Nat} {v : Int32} (hk : k < 42) (hs : shK k = 3) (hdg : decode b pc = .ok (.putfield 19, 3)) (kk : G RX3 b nL ret E (pc + 3) L rest (mset M k 2 v)) : G RX3 b nL ret E pc L (.int v :: .ref k :: rest) M := g_put (j := 2) (T := TX3) (ty := .int) tyX3 hk hs (by decide) (rn_3_2 k hk hs) rfl inX3 tyX3_ok nmX3 rfl (by decide +kernel) rfl rfl (by decide) (sh_3 k hk hs) wf_X3_19 hdg kk
theorem wf_X4_95 : Cond.fieldLinkNest RX4 95 (TX3 2).1 (TX3 2).2.1 (TX3 2).2.2.1 "SilentAsking" ∈ nwl := List.mem_filter.mpr ⟨List.mem_of_getElem? (i := 148) (by decide +kernel), rfl⟩
theorem gf_X4_95 {b : ByteArray} {nL : Nat} {ret : Option FieldType} {E : GE} {pc : Nat} {L : List (Nat × Value)} {rest : List Value} {M : Mem} {k : Nat} (hk : k < 42) (hs : shK k = 3) (hdg : decode b pc = .ok (.getfield 95, 3)) (kk : G RX4 b nL ret E (pc + 3) L (.int (M k 2) :: rest) M) : G RX4 b nL ret E pc L (.ref k :: rest) M := g_getN (j := 2) (T := TX3) (host := "SilentAsking") (v := .int (M k 2)) hk hs (by decide) (by unfold fvA; rw [rn_3_2 k hk hs]) rfl inX3 (by decide) (sh_3 k hk hs) wf_X4_95 hdg kk
theorem gp_X4_95 {b : ByteArray} {nL : Nat} {ret : Option FieldType} {E : GE} {pc : Nat} {L : List (Nat × Value)} {rest : List Value} {M : Mem} {k : Nat} {v : Int32} (hk : k < 42) (hs : shK k = 3) (hdg : decode b pc = .ok (.putfield 95, 3)) (kk : G RX4 b nL ret E (pc + 3) L rest (mset M k 2 v)) : G RX4 b nL ret E pc L (.int v :: .ref k :: rest) M := g_putN (j := 2) (T := TX3) (ty := .int) (host := "SilentAsking") tyX3 hk hs (by decide) (rn_3_2 k hk hs) rfl inX3 tyX3_ok nmX3 rfl (by decide +kernel) rfl rfl (by decide) (sh_3 k hk hs) wf_X4_95 hdg kk
theorem wf_X4_9 : Cond.fieldLink RX4 9 (TX4 0).1 (TX4 0).2.1 (TX4 0).2.2.1 ∈ tb := tb_w 156 (by decide +kernel) rfl
theorem gf_X4_9 {b : ByteArray} {nL : Nat} {ret : Option FieldType} {E : GE} {pc : Nat} {L : List (Nat × Value)} {rest : List Value} {M : Mem} {k r : Nat} (hk : k < 42) (hs : shK k = 4) (hr : rf k 0 = some r) (hdg : decode b pc = .ok (.getfield 9, 3)) (kk : G RX4 b nL ret E (pc + 3) L (.ref r :: rest) M) : G RX4 b nL ret E pc L (.ref k :: rest) M := g_get (j := 0) (T := TX4) (v := .ref r) hk hs (by decide) (by unfold fvA; rw [hr]) rfl inX4 (by decide) (sh_4 k hk hs) wf_X4_9 hdg kk
theorem wf_X4_13 : Cond.fieldLink RX4 13 (TX4 1).1 (TX4 1).2.1 (TX4 1).2.2.1 ∈ tb := tb_w 157 (by decide +kernel) rfl
theorem gf_X4_13 {b : ByteArray} {nL : Nat} {ret : Option FieldType} {E : GE} {pc : Nat} {L : List (Nat × Value)} {rest : List Value} {M : Mem} {k r : Nat} (hk : k < 42) (hs : shK k = 4) (hr : rf k 1 = some r) (hdg : decode b pc = .ok (.getfield 13, 3)) (kk : G RX4 b nL ret E (pc + 3) L (.ref r :: rest) M) : G RX4 b nL ret E pc L (.ref k :: rest) M := g_get (j := 1) (T := TX4) (v := .ref r) hk hs (by decide) (by unfold fvA; rw [hr]) rfl inX4 (by decide) (sh_4 k hk hs) wf_X4_13 hdg kk
theorem wf_X4_18 : Cond.fieldLink RX4 18 (TX4 2).1 (TX4 2).2.1 (TX4 2).2.2.1 ∈ tb := tb_w 158 (by decide +kernel) rfl
theorem gf_X4_18 {b : ByteArray} {nL : Nat} {ret : Option FieldType} {E : GE} {pc : Nat} {L : List (Nat × Value)} {rest : List Value} {M : Mem} {k r : Nat} (hk : k < 42) (hs : shK k = 4) (hr : rf k 2 = some r) (hdg : decode b pc = .ok (.getfield 18, 3)) (kk : G RX4 b nL ret E (pc + 3) L (.ref r :: rest) M) : G RX4 b nL ret E pc L (.ref k :: rest) M := g_get (j := 2) (T := TX4) (v := .ref r) hk hs (by decide) (by unfold fvA; rw [hr]) rfl inX4 (by decide) (sh_4 k hk hs) wf_X4_18 hdg kk
theorem wf_X4_25 : Cond.fieldLink RX4 25 (TX4 3).1 (TX4 3).2.1 (TX4 3).2.2.1 ∈ tb := tb_w 159 (by decide +kernel) rfl
theorem gf_X4_25 {b : ByteArray} {nL : Nat} {ret : Option FieldType} {E : GE} {pc : Nat} {L : List (Nat × Value)} {rest : List Value} {M : Mem} {k r : Nat} (hk : k < 42) (hs : shK k = 4) (hr : rf k 3 = some r) (hdg : decode b pc = .ok (.getfield 25, 3)) (kk : G RX4 b nL ret E (pc + 3) L (.ref r :: rest) M) : G RX4 b nL ret E pc L (.ref k :: rest) M := g_get (j := 3) (T := TX4) (v := .ref r) hk hs (by decide) (by unfold fvA; rw [hr]) rfl inX4 (by decide) (sh_4 k hk hs) wf_X4_25 hdg kk
theorem wf_X4_32 : Cond.fieldLink RX4 32 (TX4 4).1 (TX4 4).2.1 (TX4 4).2.2.1 ∈ tb := tb_w 160 (by decide +kernel) rfl
theorem gf_X4_32 {b : ByteArray} {nL : Nat} {ret : Option FieldType} {E : GE} {pc : Nat} {L : List (Nat × Value)} {rest : List Value} {M : Mem} {k r : Nat} (hk : k < 42) (hs : shK k = 4) (hr : rf k 4 = some r) (hdg : decode b pc = .ok (.getfield 32, 3)) (kk : G RX4 b nL ret E (pc + 3) L (.ref r :: rest) M) : G RX4 b nL ret E pc L (.ref k :: rest) M := g_get (j := 4) (T := TX4) (v := .ref r) hk hs (by decide) (by unfold fvA; rw [hr]) rfl inX4 (by decide) (sh_4 k hk hs) wf_X4_32 hdg kk
theorem wf_X4_39 : Cond.fieldLink RX4 39 (TX4 5).1 (TX4 5).2.1 (TX4 5).2.2.1 ∈ tb := tb_w 161 (by decide +kernel) rfl
theorem gf_X4_39 {b : ByteArray} {nL : Nat} {ret : Option FieldType} {E : GE} {pc : Nat} {L : List (Nat × Value)} {rest : List Value} {M : Mem} {k r : Nat} (hk : k < 42) (hs : shK k = 4) (hr : rf k 5 = some r) (hdg : decode b pc = .ok (.getfield 39, 3)) (kk : G RX4 b nL ret E (pc + 3) L (.ref r :: rest) M) : G RX4 b nL ret E pc L (.ref k :: rest) M := g_get (j := 5) (T := TX4) (v := .ref r) hk hs (by decide) (by unfold fvA; rw [hr]) rfl inX4 (by decide) (sh_4 k hk hs) wf_X4_39 hdg kk
theorem wf_X4_43 : Cond.fieldLink RX4 43 (TX4 6).1 (TX4 6).2.1 (TX4 6).2.2.1 ∈ tb := tb_w 162 (by decide +kernel) rfl
theorem rn_4_6 : ∀ k, k < 42 → shK k = 4 → rf k 6 = none := by decide +kernel
theorem gf_X4_43 {b : ByteArray} {nL : Nat} {ret : Option FieldType} {E : GE} {pc : Nat} {L : List (Nat × Value)} {rest : List Value} {M : Mem} {k : Nat} (hk : k < 42) (hs : shK k = 4) (hdg : decode b pc = .ok (.getfield 43, 3)) (kk : G RX4 b nL ret E (pc + 3) L (.int (M k 6) :: rest) M) : G RX4 b nL ret E pc L (.ref k :: rest) M := g_get (j := 6) (T := TX4) (v := .int (M k 6)) hk hs (by decide) (by unfold fvA; rw [rn_4_6 k hk hs]) rfl inX4 (by decide) (sh_4 k hk hs) wf_X4_43 hdg kk
theorem gp_X4_43 {b : ByteArray} {nL : Nat} {ret : Option FieldType} {E : GE} {pc : Nat} {L : List (Nat × Value)} {rest : List Value} {M : Mem} {k : Nat} {v : Int32} (hk : k < 42) (hs : shK k = 4) (hdg : decode b pc = .ok (.putfield 43, 3)) (kk : G RX4 b nL ret E (pc + 3) L rest (mset M k 6 v)) : G RX4 b nL ret E pc L (.int v :: .ref k :: rest) M := g_put (j := 6) (T := TX4) (ty := .int) tyX4 hk hs (by decide) (rn_4_6 k hk hs) rfl inX4 tyX4_ok nmX4 rfl (by decide +kernel) rfl rfl (by decide) (sh_4 k hk hs) wf_X4_43 hdg kk
theorem wf_X4_47 : Cond.fieldLink RX4 47 (TX4 7).1 (TX4 7).2.1 (TX4 7).2.2.1 ∈ tb := tb_w 163 (by decide +kernel) rfl
theorem rn_4_7 : ∀ k, k < 42 → shK k = 4 → rf k 7 = none := by decide +kernel
theorem gf_X4_47 {b : ByteArray} {nL : Nat} {ret : Option FieldType} {E : GE} {pc : Nat} {L : List (Nat × Value)} {rest : List Value} {M : Mem} {k : Nat} (hk : k < 42) (hs : shK k = 4) (hdg : decode b pc = .ok (.getfield 47, 3)) (kk : G RX4 b nL ret E (pc + 3) L (.int (M k 7) :: rest) M) : G RX4 b nL ret E pc L (.ref k :: rest) M := g_get (j := 7) (T := TX4) (v := .int (M k 7)) hk hs (by decide) (by unfold fvA; rw [rn_4_7 k hk hs]) rfl inX4 (by decide) (sh_4 k hk hs) wf_X4_47 hdg kk
theorem gp_X4_47 {b : ByteArray} {nL : Nat} {ret : Option FieldType} {E : GE} {pc : Nat} {L : List (Nat × Value)} {rest : List Value} {M : Mem} {k : Nat} {v : Int32} (hk : k < 42) (hs : shK k = 4) (hdg : decode b pc = .ok (.putfield 47, 3)) (kk : G RX4 b nL ret E (pc + 3) L rest (mset M k 7 v)) : G RX4 b nL ret E pc L (.int v :: .ref k :: rest) M := g_put (j := 7) (T := TX4) (ty := .int) tyX4 hk hs (by decide) (rn_4_7 k hk hs) rfl inX4 tyX4_ok nmX4 rfl (by decide +kernel) rfl rfl (by decide) (sh_4 k hk hs) wf_X4_47 hdg kk
theorem wf_X4_50 : Cond.fieldLink RX4 50 (TX4 8).1 (TX4 8).2.1 (TX4 8).2.2.1 ∈ tb := tb_w 164 (by decide +kernel) rfl
theorem rn_4_8 : ∀ k, k < 42 → shK k = 4 → rf k 8 = none := by decide +kernel
theorem gf_X4_50 {b : ByteArray} {nL : Nat} {ret : Option FieldType} {E : GE} {pc : Nat} {L : List (Nat × Value)} {rest : List Value} {M : Mem} {k : Nat} (hk : k < 42) (hs : shK k = 4) (hdg : decode b pc = .ok (.getfield 50, 3)) (kk : G RX4 b nL ret E (pc + 3) L (.int (M k 8) :: rest) M) : G RX4 b nL ret E pc L (.ref k :: rest) M := g_get (j := 8) (T := TX4) (v := .int (M k 8)) hk hs (by decide) (by unfold fvA; rw [rn_4_8 k hk hs]) rfl inX4 (by decide) (sh_4 k hk hs) wf_X4_50 hdg kk
theorem gp_X4_50 {b : ByteArray} {nL : Nat} {ret : Option FieldType} {E : GE} {pc : Nat} {L : List (Nat × Value)} {rest : List Value} {M : Mem} {k : Nat} {v : Int32} (hk : k < 42) (hs : shK k = 4) (hdg : decode b pc = .ok (.putfield 50, 3)) (kk : G RX4 b nL ret E (pc + 3) L rest (mset M k 8 v)) : G RX4 b nL ret E pc L (.int v :: .ref k :: rest) M := g_put (j := 8) (T := TX4) (ty := .int) tyX4 hk hs (by decide) (rn_4_8 k hk hs) rfl inX4 tyX4_ok nmX4 rfl (by decide +kernel) rfl rfl (by decide) (sh_4 k hk hs) wf_X4_50 hdg kk
theorem wf_X4_53 : Cond.fieldLink RX4 53 (TX4 9).1 (TX4 9).2.1 (TX4 9).2.2.1 ∈ tb := tb_w 165 (by decide +kernel) rfl
theorem rn_4_9 : ∀ k, k < 42 → shK k = 4 → rf k 9 = none := by decide +kernel
theorem gf_X4_53 {b : ByteArray} {nL : Nat} {ret : Option FieldType} {E : GE} {pc : Nat} {L : List (Nat × Value)} {rest : List Value} {M : Mem} {k : Nat} (hk : k < 42) (hs : shK k = 4) (hdg : decode b pc = .ok (.getfield 53, 3)) (kk : G RX4 b nL ret E (pc + 3) L (.int (M k 9) :: rest) M) : G RX4 b nL ret E pc L (.ref k :: rest) M := g_get (j := 9) (T := TX4) (v := .int (M k 9)) hk hs (by decide) (by unfold fvA; rw [rn_4_9 k hk hs]) rfl inX4 (by decide) (sh_4 k hk hs) wf_X4_53 hdg kk
theorem gp_X4_53 {b : ByteArray} {nL : Nat} {ret : Option FieldType} {E : GE} {pc : Nat} {L : List (Nat × Value)} {rest : List Value} {M : Mem} {k : Nat} {v : Int32} (hk : k < 42) (hs : shK k = 4) (hdg : decode b pc = .ok (.putfield 53, 3)) (kk : G RX4 b nL ret E (pc + 3) L rest (mset M k 9 v)) : G RX4 b nL ret E pc L (.int v :: .ref k :: rest) M := g_put (j := 9) (T := TX4) (ty := .int) tyX4 hk hs (by decide) (rn_4_9 k hk hs) rfl inX4 tyX4_ok nmX4 rfl (by decide +kernel) rfl rfl (by decide) (sh_4 k hk hs) wf_X4_53 hdg kk
theorem wf_X4_56 : Cond.fieldLink RX4 56 (TX4 10).1 (TX4 10).2.1 (TX4 10).2.2.1 ∈ tb := tb_w 166 (by decide +kernel) rfl
theorem rn_4_10 : ∀ k, k < 42 → shK k = 4 → rf k 10 = none := by decide +kernel
theorem gf_X4_56 {b : ByteArray} {nL : Nat} {ret : Option FieldType} {E : GE} {pc : Nat} {L : List (Nat × Value)} {rest : List Value} {M : Mem} {k : Nat} (hk : k < 42) (hs : shK k = 4) (hdg : decode b pc = .ok (.getfield 56, 3)) (kk : G RX4 b nL ret E (pc + 3) L (.int (M k 10) :: rest) M) : G RX4 b nL ret E pc L (.ref k :: rest) M := g_get (j := 10) (T := TX4) (v := .int (M k 10)) hk hs (by decide) (by unfold fvA; rw [rn_4_10 k hk hs]) rfl inX4 (by decide) (sh_4 k hk hs) wf_X4_56 hdg kk
theorem gp_X4_56 {b : ByteArray} {nL : Nat} {ret : Option FieldType} {E : GE} {pc : Nat} {L : List (Nat × Value)} {rest : List Value} {M : Mem} {k : Nat} {v : Int32} (hk : k < 42) (hs : shK k = 4) (hdg : decode b pc = .ok (.putfield 56, 3)) (kk : G RX4 b nL ret E (pc + 3) L rest (mset M k 10 v)) : G RX4 b nL ret E pc L (.int v :: .ref k :: rest) M := g_put (j := 10) (T := TX4) (ty := .int) tyX4 hk hs (by decide) (rn_4_10 k hk hs) rfl inX4 tyX4_ok nmX4 rfl (by decide +kernel) rfl rfl (by decide) (sh_4 k hk hs) wf_X4_56 hdg kk
theorem wm_L_13 : Cond.methodLink RL 13 yX4_records ∈ tb := tb_w 190 (by decide +kernel) rfl
theorem gi_L_13 {b : ByteArray} {nL : Nat} {ret : Option FieldType} {E : GE} {pc : Nat} {L : List (Nat × Value)} {st rest : List Value} {M : Mem} {h' : Nat} {avs : List Value} {Q' : Option Value → Mem → Prop} {k : Nat} (hk : k < 42) (hs : shK k = 4) (hE : Ev yX4_records cX4_records 4 (some .int) h' (.ref k :: avs) M Q') (hst : st = (Value.ref k :: avs).reverse ++ rest) (hn : avs.length = 1) (hR : okRoom h' E 4) (hc : (rest.map fun v => v.category).sum ≤ 8) (hdg : decode b pc = .ok (.invokevirtual 13, 3)) (kk : ∀ (r : Option Value) (M' : Mem), Q' r M' → G RL b nL ret E (pc + 3) L (r.toList ++ rest) M') : G RL b nL ret E pc L st M := g_callV (n := 1) (k := k) (ci := 4) (N := 11) (Cn := RX4) (T := TX4) wc_X4_records wm_L_13 wi_X4_records ws_X4_records wn_X4 rfl (by decide +kernel) (by decide) rfl hk hs hE hst hn hR hc hdg kk
theorem wm_X4_60 : Cond.methodLink RX4 60 yX4_count ∈ tb := tb_w 194 (by decide +kernel) rfl
theorem gi_X4_60 {b : ByteArray} {nL : Nat} {ret : Option FieldType} {E : GE} {pc : Nat} {L : List (Nat × Value)} {st rest : List Value} {M : Mem} {h' : Nat} {avs : List Value} {Q' : Option Value → Mem → Prop} {k : Nat} (hk : k < 42) (hs : shK k = 4) (hE : Ev yX4_count cX4_count 1 (some .int) h' (.ref k :: avs) M Q') (hst : st = (Value.ref k :: avs).reverse ++ rest) (hn : avs.length = 0) (hR : okRoom h' E 1) (hc : (rest.map fun v => v.category).sum ≤ 8) (hdg : decode b pc = .ok (.invokevirtual 60, 3)) (kk : ∀ (r : Option Value) (M' : Mem), Q' r M' → G RX4 b nL ret E (pc + 3) L (r.toList ++ rest) M') : G RX4 b nL ret E pc L st M := g_callV (n := 0) (k := k) (ci := 4) (N := 11) (Cn := RX4) (T := TX4) wc_X4_count wm_X4_60 wi_X4_count ws_X4_count wn_X4 rfl (by decide +kernel) (by decide) rfl hk hs hE hst hn hR hc hdg kk
theorem wm_X4_64 : Cond.methodLink RX4 64 yX4_storeOf ∈ tb := tb_w 198 (by decide +kernel) rfl
theorem gi_X4_64 {b : ByteArray} {nL : Nat} {ret : Option FieldType} {E : GE} {pc : Nat} {L : List (Nat × Value)} {st rest : List Value} {M : Mem} {h' : Nat} {avs : List Value} {Q' : Option Value → Mem → Prop} {k : Nat} (hk : k < 42) (hs : shK k = 4) (hE : Ev yX4_storeOf cX4_storeOf 2 ((Option.some (Jvm.ClassFile.FieldType.object "SilentAsking$Store"))) h' (.ref k :: avs) M Q') (hst : st = (Value.ref k :: avs).reverse ++ rest) (hn : avs.length = 1) (hR : okRoom h' E 2) (hc : (rest.map fun v => v.category).sum ≤ 8) (hdg : decode b pc = .ok (.invokevirtual 64, 3)) (kk : ∀ (r : Option Value) (M' : Mem), Q' r M' → G RX4 b nL ret E (pc + 3) L (r.toList ++ rest) M') : G RX4 b nL ret E pc L st M := g_callV (n := 1) (k := k) (ci := 4) (N := 11) (Cn := RX4) (T := TX4) wc_X4_storeOf wm_X4_64 wi_X4_storeOf ws_X4_storeOf wn_X4 rfl (by decide +kernel) (by decide) rfl hk hs hE hst hn hR hc hdg kk
theorem wm_X4_68 : Cond.methodLinkNest RX4 68 yX3_become "SilentAsking" ∈ nwl := List.mem_filter.mpr ⟨List.mem_of_getElem? (i := 202) (by decide +kernel), rfl⟩
theorem gi_X4_68 {b : ByteArray} {nL : Nat} {ret : Option FieldType} {E : GE} {pc : Nat} {L : List (Nat × Value)} {st rest : List Value} {M : Mem} {h' : Nat} {avs : List Value} {Q' : Option Value → Mem → Prop} {k : Nat} (hk : k < 42) (hs : shK k = 3) (hE : Ev yX3_become cX3_become 4 (none) h' (.ref k :: avs) M Q') (hst : st = (Value.ref k :: avs).reverse ++ rest) (hn : avs.length = 3) (hR : okRoom h' E 4) (hc : (rest.map fun v => v.category).sum ≤ 8) (hdg : decode b pc = .ok (.invokevirtual 68, 3)) (kk : ∀ (r : Option Value) (M' : Mem), Q' r M' → G RX4 b nL ret E (pc + 3) L (r.toList ++ rest) M') : G RX4 b nL ret E pc L st M := g_callVN (n := 3) (k := k) (ci := 3) (N := 3) (Cn := RX3) (T := TX3) (host := "SilentAsking") wc_X3_become wm_X4_68 wi_X3_become ws_X3_become wn_X3 (by decide +kernel) (by decide) rfl hk hs hE hst hn hR hc hdg kk
theorem wm_L_18 : Cond.methodLink RL 18 yX4_put ∈ tb := tb_w 209 (by decide +kernel) rfl
theorem gi_L_18 {b : ByteArray} {nL : Nat} {ret : Option FieldType} {E : GE} {pc : Nat} {L : List (Nat × Value)} {st rest : List Value} {M : Mem} {h' : Nat} {avs : List Value} {Q' : Option Value → Mem → Prop} {k : Nat} (hk : k < 42) (hs : shK k = 4) (hE : Ev yX4_put cX4_put 4 (some .int) h' (.ref k :: avs) M Q') (hst : st = (Value.ref k :: avs).reverse ++ rest) (hn : avs.length = 2) (hR : okRoom h' E 4) (hc : (rest.map fun v => v.category).sum ≤ 8) (hdg : decode b pc = .ok (.invokevirtual 18, 3)) (kk : ∀ (r : Option Value) (M' : Mem), Q' r M' → G RL b nL ret E (pc + 3) L (r.toList ++ rest) M') : G RL b nL ret E pc L st M := g_callV (n := 2) (k := k) (ci := 4) (N := 11) (Cn := RX4) (T := TX4) wc_X4_put wm_L_18 wi_X4_put ws_X4_put wn_X4 rfl (by decide +kernel) (by decide) rfl hk hs hE hst hn hR hc hdg kk
theorem wm_X4_76 : Cond.methodLink RX4 76 yX4_isRecord ∈ tb := tb_w 213 (by decide +kernel) rfl
theorem gi_X4_76 {b : ByteArray} {nL : Nat} {ret : Option FieldType} {E : GE} {pc : Nat} {L : List (Nat × Value)} {st rest : List Value} {M : Mem} {h' : Nat} {avs : List Value} {Q' : Option Value → Mem → Prop} {k : Nat} (hk : k < 42) (hs : shK k = 4) (hE : Ev yX4_isRecord cX4_isRecord 2 (some .boolean) h' (.ref k :: avs) M Q') (hst : st = (Value.ref k :: avs).reverse ++ rest) (hn : avs.length = 1) (hR : okRoom h' E 2) (hc : (rest.map fun v => v.category).sum ≤ 8) (hdg : decode b pc = .ok (.invokevirtual 76, 3)) (kk : ∀ (r : Option Value) (M' : Mem), Q' r M' → G RX4 b nL ret E (pc + 3) L (r.toList ++ rest) M') : G RX4 b nL ret E pc L st M := g_callV (n := 1) (k := k) (ci := 4) (N := 11) (Cn := RX4) (T := TX4) wc_X4_isRecord wm_X4_76 wi_X4_isRecord ws_X4_isRecord wn_X4 rfl (by decide +kernel) (by decide) rfl hk hs hE hst hn hR hc hdg kk
theorem wm_X4_80 : Cond.methodLink RX4 80 yX4_isNumber ∈ tb := tb_w 217 (by decide +kernel) rfl
theorem gi_X4_80 {b : ByteArray} {nL : Nat} {ret : Option FieldType} {E : GE} {pc : Nat} {L : List (Nat × Value)} {st rest : List Value} {M : Mem} {h' : Nat} {avs : List Value} {Q' : Option Value → Mem → Prop} (hE : Ev yX4_isNumber cX4_isNumber 1 (some .boolean) h' avs M Q') (hst : st = avs.reverse ++ rest) (hn : avs.length = 1) (hR : okRoom h' E 1) (hc : (rest.map fun v => v.category).sum ≤ 8) (hdg : decode b pc = .ok (.invokestatic 80, 3)) (kk : ∀ (r : Option Value) (M' : Mem), Q' r M' → G RX4 b nL ret E (pc + 3) L (r.toList ++ rest) M') : G RX4 b nL ret E pc L st M := g_callS (n := 1) wc_X4_isNumber wm_X4_80 wt_X4_isNumber wn_X4 (by decide +kernel) hE hst hn hR hc hdg kk
theorem wm_L_23 : Cond.methodLink RL 23 yX4_record ∈ tb := tb_w 220 (by decide +kernel) rfl
theorem gi_L_23 {b : ByteArray} {nL : Nat} {ret : Option FieldType} {E : GE} {pc : Nat} {L : List (Nat × Value)} {st rest : List Value} {M : Mem} {h' : Nat} {avs : List Value} {Q' : Option Value → Mem → Prop} {k : Nat} (hk : k < 42) (hs : shK k = 4) (hE : Ev yX4_record cX4_record 2 (some .int) h' (.ref k :: avs) M Q') (hst : st = (Value.ref k :: avs).reverse ++ rest) (hn : avs.length = 1) (hR : okRoom h' E 2) (hc : (rest.map fun v => v.category).sum ≤ 8) (hdg : decode b pc = .ok (.invokevirtual 23, 3)) (kk : ∀ (r : Option Value) (M' : Mem), Q' r M' → G RL b nL ret E (pc + 3) L (r.toList ++ rest) M') : G RL b nL ret E pc L st M := g_callV (n := 1) (k := k) (ci := 4) (N := 11) (Cn := RX4) (T := TX4) wc_X4_record wm_L_23 wi_X4_record ws_X4_record wn_X4 rfl (by decide +kernel) (by decide) rfl hk hs hE hst hn hR hc hdg kk
theorem wm_L_27 : Cond.methodLink RL 27 yX4_store ∈ tb := tb_w 224 (by decide +kernel) rfl
theorem gi_L_27 {b : ByteArray} {nL : Nat} {ret : Option FieldType} {E : GE} {pc : Nat} {L : List (Nat × Value)} {st rest : List Value} {M : Mem} {h' : Nat} {avs : List Value} {Q' : Option Value → Mem → Prop} {k : Nat} (hk : k < 42) (hs : shK k = 4) (hE : Ev yX4_store cX4_store 6 (some .int) h' (.ref k :: avs) M Q') (hst : st = (Value.ref k :: avs).reverse ++ rest) (hn : avs.length = 3) (hR : okRoom h' E 6) (hc : (rest.map fun v => v.category).sum ≤ 8) (hdg : decode b pc = .ok (.invokevirtual 27, 3)) (kk : ∀ (r : Option Value) (M' : Mem), Q' r M' → G RL b nL ret E (pc + 3) L (r.toList ++ rest) M') : G RL b nL ret E pc L st M := g_callV (n := 3) (k := k) (ci := 4) (N := 11) (Cn := RX4) (T := TX4) wc_X4_store wm_L_27 wi_X4_store ws_X4_store wn_X4 rfl (by decide +kernel) (by decide) rfl hk hs hE hst hn hR hc hdg kk
theorem wm_X4_83 : Cond.methodLink RX4 83 yX4_isStore ∈ tb := tb_w 228 (by decide +kernel) rfl
theorem gi_X4_83 {b : ByteArray} {nL : Nat} {ret : Option FieldType} {E : GE} {pc : Nat} {L : List (Nat × Value)} {st rest : List Value} {M : Mem} {h' : Nat} {avs : List Value} {Q' : Option Value → Mem → Prop} (hE : Ev yX4_isStore cX4_isStore 1 (some .boolean) h' avs M Q') (hst : st = avs.reverse ++ rest) (hn : avs.length = 1) (hR : okRoom h' E 1) (hc : (rest.map fun v => v.category).sum ≤ 8) (hdg : decode b pc = .ok (.invokestatic 83, 3)) (kk : ∀ (r : Option Value) (M' : Mem), Q' r M' → G RX4 b nL ret E (pc + 3) L (r.toList ++ rest) M') : G RX4 b nL ret E pc L st M := g_callS (n := 1) wc_X4_isStore wm_X4_83 wt_X4_isStore wn_X4 (by decide +kernel) hE hst hn hR hc hdg kk
theorem wm_X4_86 : Cond.methodLink RX4 86 yX4_isKind ∈ tb := tb_w 231 (by decide +kernel) rfl
theorem gi_X4_86 {b : ByteArray} {nL : Nat} {ret : Option FieldType} {E : GE} {pc : Nat} {L : List (Nat × Value)} {st rest : List Value} {M : Mem} {h' : Nat} {avs : List Value} {Q' : Option Value → Mem → Prop} (hE : Ev yX4_isKind cX4_isKind 1 (some .boolean) h' avs M Q') (hst : st = avs.reverse ++ rest) (hn : avs.length = 1) (hR : okRoom h' E 1) (hc : (rest.map fun v => v.category).sum ≤ 8) (hdg : decode b pc = .ok (.invokestatic 86, 3)) (kk : ∀ (r : Option Value) (M' : Mem), Q' r M' → G RX4 b nL ret E (pc + 3) L (r.toList ++ rest) M') : G RX4 b nL ret E pc L st M := g_callS (n := 1) wc_X4_isKind wm_X4_86 wt_X4_isKind wn_X4 (by decide +kernel) hE hst hn hR hc hdg kk
theorem wm_X4_89 : Cond.methodLink RX4 89 yX4_isLie ∈ tb := tb_w 234 (by decide +kernel) rfl
theorem gi_X4_89 {b : ByteArray} {nL : Nat} {ret : Option FieldType} {E : GE} {pc : Nat} {L : List (Nat × Value)} {st rest : List Value} {M : Mem} {h' : Nat} {avs : List Value} {Q' : Option Value → Mem → Prop} (hE : Ev yX4_isLie cX4_isLie 1 (some .boolean) h' avs M Q') (hst : st = avs.reverse ++ rest) (hn : avs.length = 1) (hR : okRoom h' E 1) (hc : (rest.map fun v => v.category).sum ≤ 8) (hdg : decode b pc = .ok (.invokestatic 89, 3)) (kk : ∀ (r : Option Value) (M' : Mem), Q' r M' → G RX4 b nL ret E (pc + 3) L (r.toList ++ rest) M') : G RX4 b nL ret E pc L st M := g_callS (n := 1) wc_X4_isLie wm_X4_89 wt_X4_isLie wn_X4 (by decide +kernel) hE hst hn hR hc hdg kk
theorem wm_L_32 : Cond.methodLink RL 32 yX4_taken ∈ tb := tb_w 237 (by decide +kernel) rfl
theorem gi_L_32 {b : ByteArray} {nL : Nat} {ret : Option FieldType} {E : GE} {pc : Nat} {L : List (Nat × Value)} {st rest : List Value} {M : Mem} {h' : Nat} {avs : List Value} {Q' : Option Value → Mem → Prop} {k : Nat} (hk : k < 42) (hs : shK k = 4) (hE : Ev yX4_taken cX4_taken 5 (some .int) h' (.ref k :: avs) M Q') (hst : st = (Value.ref k :: avs).reverse ++ rest) (hn : avs.length = 3) (hR : okRoom h' E 5) (hc : (rest.map fun v => v.category).sum ≤ 8) (hdg : decode b pc = .ok (.invokevirtual 32, 3)) (kk : ∀ (r : Option Value) (M' : Mem), Q' r M' → G RL b nL ret E (pc + 3) L (r.toList ++ rest) M') : G RL b nL ret E pc L st M := g_callV (n := 3) (k := k) (ci := 4) (N := 11) (Cn := RX4) (T := TX4) wc_X4_taken wm_L_32 wi_X4_taken ws_X4_taken wn_X4 rfl (by decide +kernel) (by decide) rfl hk hs hE hst hn hR hc hdg kk
theorem wm_X4_98 : Cond.methodLink RX4 98 yX4_copied ∈ tb := tb_w 241 (by decide +kernel) rfl
theorem gi_X4_98 {b : ByteArray} {nL : Nat} {ret : Option FieldType} {E : GE} {pc : Nat} {L : List (Nat × Value)} {st rest : List Value} {M : Mem} {h' : Nat} {avs : List Value} {Q' : Option Value → Mem → Prop} {k : Nat} (hk : k < 42) (hs : shK k = 4) (hE : Ev yX4_copied cX4_copied 3 (some .int) h' (.ref k :: avs) M Q') (hst : st = (Value.ref k :: avs).reverse ++ rest) (hn : avs.length = 2) (hR : okRoom h' E 3) (hc : (rest.map fun v => v.category).sum ≤ 8) (hdg : decode b pc = .ok (.invokevirtual 98, 3)) (kk : ∀ (r : Option Value) (M' : Mem), Q' r M' → G RX4 b nL ret E (pc + 3) L (r.toList ++ rest) M') : G RX4 b nL ret E pc L st M := g_callV (n := 2) (k := k) (ci := 4) (N := 11) (Cn := RX4) (T := TX4) wc_X4_copied wm_X4_98 wi_X4_copied ws_X4_copied wn_X4 rfl (by decide +kernel) (by decide) rfl hk hs hE hst hn hR hc hdg kk
theorem wm_X4_193 : Cond.methodLinkNest RX4 193 yX3_held "SilentAsking" ∈ nwl := List.mem_filter.mpr ⟨List.mem_of_getElem? (i := 245) (by decide +kernel), rfl⟩
theorem gi_X4_193 {b : ByteArray} {nL : Nat} {ret : Option FieldType} {E : GE} {pc : Nat} {L : List (Nat × Value)} {st rest : List Value} {M : Mem} {h' : Nat} {avs : List Value} {Q' : Option Value → Mem → Prop} {k : Nat} (hk : k < 42) (hs : shK k = 3) (hE : Ev yX3_held cX3_held 2 ((Option.some (Jvm.ClassFile.FieldType.array Jvm.ClassFile.FieldType.int))) h' (.ref k :: avs) M Q') (hst : st = (Value.ref k :: avs).reverse ++ rest) (hn : avs.length = 1) (hR : okRoom h' E 2) (hc : (rest.map fun v => v.category).sum ≤ 8) (hdg : decode b pc = .ok (.invokevirtual 193, 3)) (kk : ∀ (r : Option Value) (M' : Mem), Q' r M' → G RX4 b nL ret E (pc + 3) L (r.toList ++ rest) M') : G RX4 b nL ret E pc L st M := g_callVN (n := 1) (k := k) (ci := 3) (N := 3) (Cn := RX3) (T := TX3) (host := "SilentAsking") wc_X3_held wm_X4_193 wi_X3_held ws_X3_held wn_X3 (by decide +kernel) (by decide) rfl hk hs hE hst hn hR hc hdg kk
theorem wm_L_36 : Cond.methodLink RL 36 yX4_copy ∈ tb := tb_w 249 (by decide +kernel) rfl
theorem gi_L_36 {b : ByteArray} {nL : Nat} {ret : Option FieldType} {E : GE} {pc : Nat} {L : List (Nat × Value)} {st rest : List Value} {M : Mem} {h' : Nat} {avs : List Value} {Q' : Option Value → Mem → Prop} {k : Nat} (hk : k < 42) (hs : shK k = 4) (hE : Ev yX4_copy cX4_copy 3 (some .int) h' (.ref k :: avs) M Q') (hst : st = (Value.ref k :: avs).reverse ++ rest) (hn : avs.length = 2) (hR : okRoom h' E 3) (hc : (rest.map fun v => v.category).sum ≤ 8) (hdg : decode b pc = .ok (.invokevirtual 36, 3)) (kk : ∀ (r : Option Value) (M' : Mem), Q' r M' → G RL b nL ret E (pc + 3) L (r.toList ++ rest) M') : G RL b nL ret E pc L st M := g_callV (n := 2) (k := k) (ci := 4) (N := 11) (Cn := RX4) (T := TX4) wc_X4_copy wm_L_36 wi_X4_copy ws_X4_copy wn_X4 rfl (by decide +kernel) (by decide) rfl hk hs hE hst hn hR hc hdg kk
theorem wm_L_40 : Cond.methodLink RL 40 yX4_sum ∈ tb := tb_w 253 (by decide +kernel) rfl
theorem gi_L_40 {b : ByteArray} {nL : Nat} {ret : Option FieldType} {E : GE} {pc : Nat} {L : List (Nat × Value)} {st rest : List Value} {M : Mem} {h' : Nat} {avs : List Value} {Q' : Option Value → Mem → Prop} {k : Nat} (hk : k < 42) (hs : shK k = 4) (hE : Ev yX4_sum cX4_sum 5 (some .int) h' (.ref k :: avs) M Q') (hst : st = (Value.ref k :: avs).reverse ++ rest) (hn : avs.length = 3) (hR : okRoom h' E 5) (hc : (rest.map fun v => v.category).sum ≤ 8) (hdg : decode b pc = .ok (.invokevirtual 40, 3)) (kk : ∀ (r : Option Value) (M' : Mem), Q' r M' → G RL b nL ret E (pc + 3) L (r.toList ++ rest) M') : G RL b nL ret E pc L st M := g_callV (n := 3) (k := k) (ci := 4) (N := 11) (Cn := RX4) (T := TX4) wc_X4_sum wm_L_40 wi_X4_sum ws_X4_sum wn_X4 rfl (by decide +kernel) (by decide) rfl hk hs hE hst hn hR hc hdg kk
theorem wm_X4_102 : Cond.methodLink RX4 102 yX4_sumAtPlace ∈ tb := tb_w 257 (by decide +kernel) rfl
theorem gi_X4_102 {b : ByteArray} {nL : Nat} {ret : Option FieldType} {E : GE} {pc : Nat} {L : List (Nat × Value)} {st rest : List Value} {M : Mem} {h' : Nat} {avs : List Value} {Q' : Option Value → Mem → Prop} {k : Nat} (hk : k < 42) (hs : shK k = 4) (hE : Ev yX4_sumAtPlace cX4_sumAtPlace 7 (some .int) h' (.ref k :: avs) M Q') (hst : st = (Value.ref k :: avs).reverse ++ rest) (hn : avs.length = 1) (hR : okRoom h' E 7) (hc : (rest.map fun v => v.category).sum ≤ 8) (hdg : decode b pc = .ok (.invokevirtual 102, 3)) (kk : ∀ (r : Option Value) (M' : Mem), Q' r M' → G RX4 b nL ret E (pc + 3) L (r.toList ++ rest) M') : G RX4 b nL ret E pc L st M := g_callV (n := 1) (k := k) (ci := 4) (N := 11) (Cn := RX4) (T := TX4) wc_X4_sumAtPlace wm_X4_102 wi_X4_sumAtPlace ws_X4_sumAtPlace wn_X4 rfl (by decide +kernel) (by decide) rfl hk hs hE hst hn hR hc hdg kk
theorem wm_X4_156 : Cond.methodLink RX4 156 yX4_bit ∈ tb := tb_w 261 (by decide +kernel) rfl
theorem gi_X4_156 {b : ByteArray} {nL : Nat} {ret : Option FieldType} {E : GE} {pc : Nat} {L : List (Nat × Value)} {st rest : List Value} {M : Mem} {h' : Nat} {avs : List Value} {Q' : Option Value → Mem → Prop} (hE : Ev yX4_bit cX4_bit 2 (some .int) h' avs M Q') (hst : st = avs.reverse ++ rest) (hn : avs.length = 2) (hR : okRoom h' E 2) (hc : (rest.map fun v => v.category).sum ≤ 8) (hdg : decode b pc = .ok (.invokestatic 156, 3)) (kk : ∀ (r : Option Value) (M' : Mem), Q' r M' → G RX4 b nL ret E (pc + 3) L (r.toList ++ rest) M') : G RX4 b nL ret E pc L st M := g_callS (n := 2) wc_X4_bit wm_X4_156 wt_X4_bit wn_X4 (by decide +kernel) hE hst hn hR hc hdg kk
theorem wm_L_44 : Cond.methodLink RL 44 yX4_ask ∈ tb := tb_w 264 (by decide +kernel) rfl
theorem gi_L_44 {b : ByteArray} {nL : Nat} {ret : Option FieldType} {E : GE} {pc : Nat} {L : List (Nat × Value)} {st rest : List Value} {M : Mem} {h' : Nat} {avs : List Value} {Q' : Option Value → Mem → Prop} {k : Nat} (hk : k < 42) (hs : shK k = 4) (hE : Ev yX4_ask cX4_ask 4 (some .int) h' (.ref k :: avs) M Q') (hst : st = (Value.ref k :: avs).reverse ++ rest) (hn : avs.length = 3) (hR : okRoom h' E 4) (hc : (rest.map fun v => v.category).sum ≤ 8) (hdg : decode b pc = .ok (.invokevirtual 44, 3)) (kk : ∀ (r : Option Value) (M' : Mem), Q' r M' → G RL b nL ret E (pc + 3) L (r.toList ++ rest) M') : G RL b nL ret E pc L st M := g_callV (n := 3) (k := k) (ci := 4) (N := 11) (Cn := RX4) (T := TX4) wc_X4_ask wm_L_44 wi_X4_ask ws_X4_ask wn_X4 rfl (by decide +kernel) (by decide) rfl hk hs hE hst hn hR hc hdg kk
theorem wm_X4_106 : Cond.methodLink RX4 106 yX4_isKeptFrom ∈ tb := tb_w 268 (by decide +kernel) rfl
theorem gi_X4_106 {b : ByteArray} {nL : Nat} {ret : Option FieldType} {E : GE} {pc : Nat} {L : List (Nat × Value)} {st rest : List Value} {M : Mem} {h' : Nat} {avs : List Value} {Q' : Option Value → Mem → Prop} (hE : Ev yX4_isKeptFrom cX4_isKeptFrom 1 (some .boolean) h' avs M Q') (hst : st = avs.reverse ++ rest) (hn : avs.length = 1) (hR : okRoom h' E 1) (hc : (rest.map fun v => v.category).sum ≤ 8) (hdg : decode b pc = .ok (.invokestatic 106, 3)) (kk : ∀ (r : Option Value) (M' : Mem), Q' r M' → G RX4 b nL ret E (pc + 3) L (r.toList ++ rest) M') : G RX4 b nL ret E pc L st M := g_callS (n := 1) wc_X4_isKeptFrom wm_X4_106 wt_X4_isKeptFrom wn_X4 (by decide +kernel) hE hst hn hR hc hdg kk
theorem wm_X4_109 : Cond.methodLink RX4 109 yX4_isSeed ∈ tb := tb_w 271 (by decide +kernel) rfl
theorem gi_X4_109 {b : ByteArray} {nL : Nat} {ret : Option FieldType} {E : GE} {pc : Nat} {L : List (Nat × Value)} {st rest : List Value} {M : Mem} {h' : Nat} {avs : List Value} {Q' : Option Value → Mem → Prop} (hE : Ev yX4_isSeed cX4_isSeed 1 (some .boolean) h' avs M Q') (hst : st = avs.reverse ++ rest) (hn : avs.length = 1) (hR : okRoom h' E 1) (hc : (rest.map fun v => v.category).sum ≤ 8) (hdg : decode b pc = .ok (.invokestatic 109, 3)) (kk : ∀ (r : Option Value) (M' : Mem), Q' r M' → G RX4 b nL ret E (pc + 3) L (r.toList ++ rest) M') : G RX4 b nL ret E pc L st M := g_callS (n := 1) wc_X4_isSeed wm_X4_109 wt_X4_isSeed wn_X4 (by decide +kernel) hE hst hn hR hc hdg kk
theorem wm_X4_112 : Cond.methodLinkNest RX4 112 yX1_begin "SilentAsking" ∈ nwl := List.mem_filter.mpr ⟨List.mem_of_getElem? (i := 274) (by decide +kernel), rfl⟩
theorem gi_X4_112 {b : ByteArray} {nL : Nat} {ret : Option FieldType} {E : GE} {pc : Nat} {L : List (Nat × Value)} {st rest : List Value} {M : Mem} {h' : Nat} {avs : List Value} {Q' : Option Value → Mem → Prop} {k : Nat} (hk : k < 42) (hs : shK k = 1) (hE : Ev yX1_begin cX1_begin 5 (none) h' (.ref k :: avs) M Q') (hst : st = (Value.ref k :: avs).reverse ++ rest) (hn : avs.length = 4) (hR : okRoom h' E 5) (hc : (rest.map fun v => v.category).sum ≤ 8) (hdg : decode b pc = .ok (.invokevirtual 112, 3)) (kk : ∀ (r : Option Value) (M' : Mem), Q' r M' → G RX4 b nL ret E (pc + 3) L (r.toList ++ rest) M') : G RX4 b nL ret E pc L st M := g_callVN (n := 4) (k := k) (ci := 1) (N := 8) (Cn := RX1) (T := TX1) (host := "SilentAsking") wc_X1_begin wm_X4_112 wi_X1_begin ws_X1_begin wn_X1 (by decide +kernel) (by decide) rfl hk hs hE hst hn hR hc hdg kk
theorem wm_X1_38 : Cond.methodLink RX1 38 yX1_drawLots ∈ tb := tb_w 278 (by decide +kernel) rfl
theorem gi_X1_38 {b : ByteArray} {nL : Nat} {ret : Option FieldType} {E : GE} {pc : Nat} {L : List (Nat × Value)} {st rest : List Value} {M : Mem} {h' : Nat} {avs : List Value} {Q' : Option Value → Mem → Prop} {k : Nat} (hk : k < 42) (hs : shK k = 1) (hE : Ev yX1_drawLots cX1_drawLots 6 (none) h' (.ref k :: avs) M Q') (hst : st = (Value.ref k :: avs).reverse ++ rest) (hn : avs.length = 2) (hR : okRoom h' E 6) (hc : (rest.map fun v => v.category).sum ≤ 8) (hdg : decode b pc = .ok (.invokevirtual 38, 3)) (kk : ∀ (r : Option Value) (M' : Mem), Q' r M' → G RX1 b nL ret E (pc + 3) L (r.toList ++ rest) M') : G RX1 b nL ret E pc L st M := g_callV (n := 2) (k := k) (ci := 1) (N := 8) (Cn := RX1) (T := TX1) wc_X1_drawLots wm_X1_38 wi_X1_drawLots ws_X1_drawLots wn_X1 rfl (by decide +kernel) (by decide) rfl hk hs hE hst hn hR hc hdg kk
theorem gl_X1_42 : Cond.constantLong RX1 42 (1103515245) ∈ tb := tb_w 282 (by decide +kernel) rfl
theorem gl_X1_44 : Cond.constantLong RX1 44 (12345) ∈ tb := tb_w 283 (by decide +kernel) rfl
theorem gl_X1_46 : Cond.constantLong RX1 46 (2147483648) ∈ tb := tb_w 284 (by decide +kernel) rfl
theorem gl_X1_48 : Cond.constantLong RX1 48 (256) ∈ tb := tb_w 285 (by decide +kernel) rfl
theorem gl_X1_50 : Cond.constantLong RX1 50 (97) ∈ tb := tb_w 286 (by decide +kernel) rfl
theorem wm_L_48 : Cond.methodLink RL 48 yX4_veil ∈ tb := tb_w 287 (by decide +kernel) rfl
theorem gi_L_48 {b : ByteArray} {nL : Nat} {ret : Option FieldType} {E : GE} {pc : Nat} {L : List (Nat × Value)} {st rest : List Value} {M : Mem} {h' : Nat} {avs : List Value} {Q' : Option Value → Mem → Prop} {k : Nat} (hk : k < 42) (hs : shK k = 4) (hE : Ev yX4_veil cX4_veil 3 (some .int) h' (.ref k :: avs) M Q') (hst : st = (Value.ref k :: avs).reverse ++ rest) (hn : avs.length = 1) (hR : okRoom h' E 3) (hc : (rest.map fun v => v.category).sum ≤ 8) (hdg : decode b pc = .ok (.invokevirtual 48, 3)) (kk : ∀ (r : Option Value) (M' : Mem), Q' r M' → G RL b nL ret E (pc + 3) L (r.toList ++ rest) M') : G RL b nL ret E pc L st M := g_callV (n := 1) (k := k) (ci := 4) (N := 11) (Cn := RX4) (T := TX4) wc_X4_veil wm_L_48 wi_X4_veil ws_X4_veil wn_X4 rfl (by decide +kernel) (by decide) rfl hk hs hE hst hn hR hc hdg kk
theorem wm_X4_122 : Cond.methodLinkNest RX4 122 yX1_veilBy "SilentAsking" ∈ nwl := List.mem_filter.mpr ⟨List.mem_of_getElem? (i := 291) (by decide +kernel), rfl⟩
theorem gi_X4_122 {b : ByteArray} {nL : Nat} {ret : Option FieldType} {E : GE} {pc : Nat} {L : List (Nat × Value)} {st rest : List Value} {M : Mem} {h' : Nat} {avs : List Value} {Q' : Option Value → Mem → Prop} {k : Nat} (hk : k < 42) (hs : shK k = 1) (hE : Ev yX1_veilBy cX1_veilBy 2 (none) h' (.ref k :: avs) M Q') (hst : st = (Value.ref k :: avs).reverse ++ rest) (hn : avs.length = 1) (hR : okRoom h' E 2) (hc : (rest.map fun v => v.category).sum ≤ 8) (hdg : decode b pc = .ok (.invokevirtual 122, 3)) (kk : ∀ (r : Option Value) (M' : Mem), Q' r M' → G RX4 b nL ret E (pc + 3) L (r.toList ++ rest) M') : G RX4 b nL ret E pc L st M := g_callVN (n := 1) (k := k) (ci := 1) (N := 8) (Cn := RX1) (T := TX1) (host := "SilentAsking") wc_X1_veilBy wm_X4_122 wi_X1_veilBy ws_X1_veilBy wn_X1 (by decide +kernel) (by decide) rfl hk hs hE hst hn hR hc hdg kk
theorem wm_L_52 : Cond.methodLink RL 52 yX4_point ∈ tb := tb_w 295 (by decide +kernel) rfl
theorem gi_L_52 {b : ByteArray} {nL : Nat} {ret : Option FieldType} {E : GE} {pc : Nat} {L : List (Nat × Value)} {st rest : List Value} {M : Mem} {h' : Nat} {avs : List Value} {Q' : Option Value → Mem → Prop} {k : Nat} (hk : k < 42) (hs : shK k = 4) (hE : Ev yX4_point cX4_point 3 (some .int) h' (.ref k :: avs) M Q') (hst : st = (Value.ref k :: avs).reverse ++ rest) (hn : avs.length = 2) (hR : okRoom h' E 3) (hc : (rest.map fun v => v.category).sum ≤ 8) (hdg : decode b pc = .ok (.invokevirtual 52, 3)) (kk : ∀ (r : Option Value) (M' : Mem), Q' r M' → G RL b nL ret E (pc + 3) L (r.toList ++ rest) M') : G RL b nL ret E pc L st M := g_callV (n := 2) (k := k) (ci := 4) (N := 11) (Cn := RX4) (T := TX4) wc_X4_point wm_L_52 wi_X4_point ws_X4_point wn_X4 rfl (by decide +kernel) (by decide) rfl hk hs hE hst hn hR hc hdg kk
theorem wm_X4_126 : Cond.methodLinkNest RX4 126 yX1_pointNumber "SilentAsking" ∈ nwl := List.mem_filter.mpr ⟨List.mem_of_getElem? (i := 299) (by decide +kernel), rfl⟩
theorem gi_X4_126 {b : ByteArray} {nL : Nat} {ret : Option FieldType} {E : GE} {pc : Nat} {L : List (Nat × Value)} {st rest : List Value} {M : Mem} {h' : Nat} {avs : List Value} {Q' : Option Value → Mem → Prop} {k : Nat} (hk : k < 42) (hs : shK k = 1) (hE : Ev yX1_pointNumber cX1_pointNumber 3 (some .int) h' (.ref k :: avs) M Q') (hst : st = (Value.ref k :: avs).reverse ++ rest) (hn : avs.length = 2) (hR : okRoom h' E 3) (hc : (rest.map fun v => v.category).sum ≤ 8) (hdg : decode b pc = .ok (.invokevirtual 126, 3)) (kk : ∀ (r : Option Value) (M' : Mem), Q' r M' → G RX4 b nL ret E (pc + 3) L (r.toList ++ rest) M') : G RX4 b nL ret E pc L st M := g_callVN (n := 2) (k := k) (ci := 1) (N := 8) (Cn := RX1) (T := TX1) (host := "SilentAsking") wc_X1_pointNumber wm_X4_126 wi_X1_pointNumber ws_X1_pointNumber wn_X1 (by decide +kernel) (by decide) rfl hk hs hE hst hn hR hc hdg kk
theorem wm_X1_52 : Cond.methodLinkNest RX1 52 yX4_bit "SilentAsking" ∈ nwl := List.mem_filter.mpr ⟨List.mem_of_getElem? (i := 303) (by decide +kernel), rfl⟩
theorem gi_X1_52 {b : ByteArray} {nL : Nat} {ret : Option FieldType} {E : GE} {pc : Nat} {L : List (Nat × Value)} {st rest : List Value} {M : Mem} {h' : Nat} {avs : List Value} {Q' : Option Value → Mem → Prop} (hE : Ev yX4_bit cX4_bit 2 (some .int) h' avs M Q') (hst : st = avs.reverse ++ rest) (hn : avs.length = 2) (hR : okRoom h' E 2) (hc : (rest.map fun v => v.category).sum ≤ 8) (hdg : decode b pc = .ok (.invokestatic 52, 3)) (kk : ∀ (r : Option Value) (M' : Mem), Q' r M' → G RX1 b nL ret E (pc + 3) L (r.toList ++ rest) M') : G RX1 b nL ret E pc L st M := g_callSN (n := 2) (host := "SilentAsking") wc_X4_bit wm_X1_52 wt_X4_bit wn_X4 (by decide +kernel) hE hst hn hR hc hdg kk
theorem wm_X1_56 : Cond.methodLink RX1 56 yX1_risen ∈ tb := tb_w 304 (by decide +kernel) rfl
theorem gi_X1_56 {b : ByteArray} {nL : Nat} {ret : Option FieldType} {E : GE} {pc : Nat} {L : List (Nat × Value)} {st rest : List Value} {M : Mem} {h' : Nat} {avs : List Value} {Q' : Option Value → Mem → Prop} (hE : Ev yX1_risen cX1_risen 6 (some .int) h' avs M Q') (hst : st = avs.reverse ++ rest) (hn : avs.length = 4) (hR : okRoom h' E 6) (hc : (rest.map fun v => v.category).sum ≤ 8) (hdg : decode b pc = .ok (.invokestatic 56, 3)) (kk : ∀ (r : Option Value) (M' : Mem), Q' r M' → G RX1 b nL ret E (pc + 3) L (r.toList ++ rest) M') : G RX1 b nL ret E pc L st M := g_callS (n := 4) wc_X1_risen wm_X1_56 wt_X1_risen wn_X1 (by decide +kernel) hE hst hn hR hc hdg kk
theorem wm_L_56 : Cond.methodLink RL 56 yX4_answer ∈ tb := tb_w 307 (by decide +kernel) rfl
theorem gi_L_56 {b : ByteArray} {nL : Nat} {ret : Option FieldType} {E : GE} {pc : Nat} {L : List (Nat × Value)} {st rest : List Value} {M : Mem} {h' : Nat} {avs : List Value} {Q' : Option Value → Mem → Prop} {k : Nat} (hk : k < 42) (hs : shK k = 4) (hE : Ev yX4_answer cX4_answer 2 (some .int) h' (.ref k :: avs) M Q') (hst : st = (Value.ref k :: avs).reverse ++ rest) (hn : avs.length = 1) (hR : okRoom h' E 2) (hc : (rest.map fun v => v.category).sum ≤ 8) (hdg : decode b pc = .ok (.invokevirtual 56, 3)) (kk : ∀ (r : Option Value) (M' : Mem), Q' r M' → G RL b nL ret E (pc + 3) L (r.toList ++ rest) M') : G RL b nL ret E pc L st M := g_callV (n := 1) (k := k) (ci := 4) (N := 11) (Cn := RX4) (T := TX4) wc_X4_answer wm_L_56 wi_X4_answer ws_X4_answer wn_X4 rfl (by decide +kernel) (by decide) rfl hk hs hE hst hn hR hc hdg kk
theorem wm_X4_130 : Cond.methodLink RX4 130 yX4_toldBy ∈ tb := tb_w 311 (by decide +kernel) rfl
theorem gi_X4_130 {b : ByteArray} {nL : Nat} {ret : Option FieldType} {E : GE} {pc : Nat} {L : List (Nat × Value)} {st rest : List Value} {M : Mem} {h' : Nat} {avs : List Value} {Q' : Option Value → Mem → Prop} {k : Nat} (hk : k < 42) (hs : shK k = 4) (hE : Ev yX4_toldBy cX4_toldBy 3 (some .int) h' (.ref k :: avs) M Q') (hst : st = (Value.ref k :: avs).reverse ++ rest) (hn : avs.length = 1) (hR : okRoom h' E 3) (hc : (rest.map fun v => v.category).sum ≤ 8) (hdg : decode b pc = .ok (.invokevirtual 130, 3)) (kk : ∀ (r : Option Value) (M' : Mem), Q' r M' → G RX4 b nL ret E (pc + 3) L (r.toList ++ rest) M') : G RX4 b nL ret E pc L st M := g_callV (n := 1) (k := k) (ci := 4) (N := 11) (Cn := RX4) (T := TX4) wc_X4_toldBy wm_X4_130 wi_X4_toldBy ws_X4_toldBy wn_X4 rfl (by decide +kernel) (by decide) rfl hk hs hE hst hn hR hc hdg kk
theorem wm_X4_197 : Cond.methodLinkNest RX4 197 yX1_veilAt "SilentAsking" ∈ nwl := List.mem_filter.mpr ⟨List.mem_of_getElem? (i := 315) (by decide +kernel), rfl⟩
theorem gi_X4_197 {b : ByteArray} {nL : Nat} {ret : Option FieldType} {E : GE} {pc : Nat} {L : List (Nat × Value)} {st rest : List Value} {M : Mem} {h' : Nat} {avs : List Value} {Q' : Option Value → Mem → Prop} {k : Nat} (hk : k < 42) (hs : shK k = 1) (hE : Ev yX1_veilAt cX1_veilAt 2 (some .int) h' (.ref k :: avs) M Q') (hst : st = (Value.ref k :: avs).reverse ++ rest) (hn : avs.length = 1) (hR : okRoom h' E 2) (hc : (rest.map fun v => v.category).sum ≤ 8) (hdg : decode b pc = .ok (.invokevirtual 197, 3)) (kk : ∀ (r : Option Value) (M' : Mem), Q' r M' → G RX4 b nL ret E (pc + 3) L (r.toList ++ rest) M') : G RX4 b nL ret E pc L st M := g_callVN (n := 1) (k := k) (ci := 1) (N := 8) (Cn := RX1) (T := TX1) (host := "SilentAsking") wc_X1_veilAt wm_X4_197 wi_X1_veilAt ws_X1_veilAt wn_X1 (by decide +kernel) (by decide) rfl hk hs hE hst hn hR hc hdg kk
theorem wm_L_60 : Cond.methodLink RL 60 yX4_needed ∈ tb := tb_w 319 (by decide +kernel) rfl
theorem gi_L_60 {b : ByteArray} {nL : Nat} {ret : Option FieldType} {E : GE} {pc : Nat} {L : List (Nat × Value)} {st rest : List Value} {M : Mem} {h' : Nat} {avs : List Value} {Q' : Option Value → Mem → Prop} {k : Nat} (hk : k < 42) (hs : shK k = 4) (hE : Ev yX4_needed cX4_needed 4 (some .int) h' (.ref k :: avs) M Q') (hst : st = (Value.ref k :: avs).reverse ++ rest) (hn : avs.length = 3) (hR : okRoom h' E 4) (hc : (rest.map fun v => v.category).sum ≤ 8) (hdg : decode b pc = .ok (.invokevirtual 60, 3)) (kk : ∀ (r : Option Value) (M' : Mem), Q' r M' → G RL b nL ret E (pc + 3) L (r.toList ++ rest) M') : G RL b nL ret E pc L st M := g_callV (n := 3) (k := k) (ci := 4) (N := 11) (Cn := RX4) (T := TX4) wc_X4_needed wm_L_60 wi_X4_needed ws_X4_needed wn_X4 rfl (by decide +kernel) (by decide) rfl hk hs hE hst hn hR hc hdg kk
theorem wm_L_64 : Cond.methodLink RL 64 yX4_fetch ∈ tb := tb_w 323 (by decide +kernel) rfl
theorem gi_L_64 {b : ByteArray} {nL : Nat} {ret : Option FieldType} {E : GE} {pc : Nat} {L : List (Nat × Value)} {st rest : List Value} {M : Mem} {h' : Nat} {avs : List Value} {Q' : Option Value → Mem → Prop} {k : Nat} (hk : k < 42) (hs : shK k = 4) (hE : Ev yX4_fetch cX4_fetch 3 (some .int) h' (.ref k :: avs) M Q') (hst : st = (Value.ref k :: avs).reverse ++ rest) (hn : avs.length = 1) (hR : okRoom h' E 3) (hc : (rest.map fun v => v.category).sum ≤ 8) (hdg : decode b pc = .ok (.invokevirtual 64, 3)) (kk : ∀ (r : Option Value) (M' : Mem), Q' r M' → G RL b nL ret E (pc + 3) L (r.toList ++ rest) M') : G RL b nL ret E pc L st M := g_callV (n := 1) (k := k) (ci := 4) (N := 11) (Cn := RX4) (T := TX4) wc_X4_fetch wm_L_64 wi_X4_fetch ws_X4_fetch wn_X4 rfl (by decide +kernel) (by decide) rfl hk hs hE hst hn hR hc hdg kk
theorem wm_X4_134 : Cond.methodLink RX4 134 yX4_refusalOfFetch ∈ tb := tb_w 327 (by decide +kernel) rfl
theorem gi_X4_134 {b : ByteArray} {nL : Nat} {ret : Option FieldType} {E : GE} {pc : Nat} {L : List (Nat × Value)} {st rest : List Value} {M : Mem} {h' : Nat} {avs : List Value} {Q' : Option Value → Mem → Prop} {k : Nat} (hk : k < 42) (hs : shK k = 4) (hE : Ev yX4_refusalOfFetch cX4_refusalOfFetch 2 (some .int) h' (.ref k :: avs) M Q') (hst : st = (Value.ref k :: avs).reverse ++ rest) (hn : avs.length = 1) (hR : okRoom h' E 2) (hc : (rest.map fun v => v.category).sum ≤ 8) (hdg : decode b pc = .ok (.invokevirtual 134, 3)) (kk : ∀ (r : Option Value) (M' : Mem), Q' r M' → G RX4 b nL ret E (pc + 3) L (r.toList ++ rest) M') : G RX4 b nL ret E pc L st M := g_callV (n := 1) (k := k) (ci := 4) (N := 11) (Cn := RX4) (T := TX4) wc_X4_refusalOfFetch wm_X4_134 wi_X4_refusalOfFetch ws_X4_refusalOfFetch wn_X4 rfl (by decide +kernel) (by decide) rfl hk hs hE hst hn hR hc hdg kk
theorem wm_X4_159 : Cond.methodLink RX4 159 yX4_tellingStores ∈ tb := tb_w 331 (by decide +kernel) rfl
theorem gi_X4_159 {b : ByteArray} {nL : Nat} {ret : Option FieldType} {E : GE} {pc : Nat} {L : List (Nat × Value)} {st rest : List Value} {M : Mem} {h' : Nat} {avs : List Value} {Q' : Option Value → Mem → Prop} {k : Nat} (hk : k < 42) (hs : shK k = 4) (hE : Ev yX4_tellingStores cX4_tellingStores 4 (some .int) h' (.ref k :: avs) M Q') (hst : st = (Value.ref k :: avs).reverse ++ rest) (hn : avs.length = 1) (hR : okRoom h' E 4) (hc : (rest.map fun v => v.category).sum ≤ 8) (hdg : decode b pc = .ok (.invokevirtual 159, 3)) (kk : ∀ (r : Option Value) (M' : Mem), Q' r M' → G RX4 b nL ret E (pc + 3) L (r.toList ++ rest) M') : G RX4 b nL ret E pc L st M := g_callV (n := 1) (k := k) (ci := 4) (N := 11) (Cn := RX4) (T := TX4) wc_X4_tellingStores wm_X4_159 wi_X4_tellingStores ws_X4_tellingStores wn_X4 rfl (by decide +kernel) (by decide) rfl hk hs hE hst hn hR hc hdg kk
theorem wm_X4_137 : Cond.methodLink RX4 137 yX4_hearStores ∈ tb := tb_w 335 (by decide +kernel) rfl
theorem gi_X4_137 {b : ByteArray} {nL : Nat} {ret : Option FieldType} {E : GE} {pc : Nat} {L : List (Nat × Value)} {st rest : List Value} {M : Mem} {h' : Nat} {avs : List Value} {Q' : Option Value → Mem → Prop} {k : Nat} (hk : k < 42) (hs : shK k = 4) (hE : Ev yX4_hearStores cX4_hearStores 3 (none) h' (.ref k :: avs) M Q') (hst : st = (Value.ref k :: avs).reverse ++ rest) (hn : avs.length = 1) (hR : okRoom h' E 3) (hc : (rest.map fun v => v.category).sum ≤ 8) (hdg : decode b pc = .ok (.invokevirtual 137, 3)) (kk : ∀ (r : Option Value) (M' : Mem), Q' r M' → G RX4 b nL ret E (pc + 3) L (r.toList ++ rest) M') : G RX4 b nL ret E pc L st M := g_callV (n := 1) (k := k) (ci := 4) (N := 11) (Cn := RX4) (T := TX4) wc_X4_hearStores wm_X4_137 wi_X4_hearStores ws_X4_hearStores wn_X4 rfl (by decide +kernel) (by decide) rfl hk hs hE hst hn hR hc hdg kk
theorem wm_X4_203 : Cond.methodLinkNest RX4 203 yX2_add "SilentAsking" ∈ nwl := List.mem_filter.mpr ⟨List.mem_of_getElem? (i := 339) (by decide +kernel), rfl⟩
theorem gi_X4_203 {b : ByteArray} {nL : Nat} {ret : Option FieldType} {E : GE} {pc : Nat} {L : List (Nat × Value)} {st rest : List Value} {M : Mem} {h' : Nat} {avs : List Value} {Q' : Option Value → Mem → Prop} {k : Nat} (hk : k < 42) (hs : shK k = 2) (hE : Ev yX2_add cX2_add 3 (none) h' (.ref k :: avs) M Q') (hst : st = (Value.ref k :: avs).reverse ++ rest) (hn : avs.length = 2) (hR : okRoom h' E 3) (hc : (rest.map fun v => v.category).sum ≤ 8) (hdg : decode b pc = .ok (.invokevirtual 203, 3)) (kk : ∀ (r : Option Value) (M' : Mem), Q' r M' → G RX4 b nL ret E (pc + 3) L (r.toList ++ rest) M') : G RX4 b nL ret E pc L st M := g_callVN (n := 2) (k := k) (ci := 2) (N := 3) (Cn := RX2) (T := TX2) (host := "SilentAsking") wc_X2_add wm_X4_203 wi_X2_add ws_X2_add wn_X2 (by decide +kernel) (by decide) rfl hk hs hE hst hn hR hc hdg kk
theorem wm_X4_143 : Cond.methodLink RX4 143 yX4_liesMended ∈ tb := tb_w 343 (by decide +kernel) rfl
theorem gi_X4_143 {b : ByteArray} {nL : Nat} {ret : Option FieldType} {E : GE} {pc : Nat} {L : List (Nat × Value)} {st rest : List Value} {M : Mem} {h' : Nat} {avs : List Value} {Q' : Option Value → Mem → Prop} {k : Nat} (hk : k < 42) (hs : shK k = 4) (hE : Ev yX4_liesMended cX4_liesMended 2 (some .int) h' (.ref k :: avs) M Q') (hst : st = (Value.ref k :: avs).reverse ++ rest) (hn : avs.length = 1) (hR : okRoom h' E 2) (hc : (rest.map fun v => v.category).sum ≤ 8) (hdg : decode b pc = .ok (.invokevirtual 143, 3)) (kk : ∀ (r : Option Value) (M' : Mem), Q' r M' → G RX4 b nL ret E (pc + 3) L (r.toList ++ rest) M') : G RX4 b nL ret E pc L st M := g_callV (n := 1) (k := k) (ci := 4) (N := 11) (Cn := RX4) (T := TX4) wc_X4_liesMended wm_X4_143 wi_X4_liesMended ws_X4_liesMended wn_X4 rfl (by decide +kernel) (by decide) rfl hk hs hE hst hn hR hc hdg kk
theorem wm_X4_146 : Cond.methodLink RX4 146 yX4_findCurve ∈ tb := tb_w 347 (by decide +kernel) rfl
theorem gi_X4_146 {b : ByteArray} {nL : Nat} {ret : Option FieldType} {E : GE} {pc : Nat} {L : List (Nat × Value)} {st rest : List Value} {M : Mem} {h' : Nat} {avs : List Value} {Q' : Option Value → Mem → Prop} {k : Nat} (hk : k < 42) (hs : shK k = 4) (hE : Ev yX4_findCurve cX4_findCurve 3 (some .boolean) h' (.ref k :: avs) M Q') (hst : st = (Value.ref k :: avs).reverse ++ rest) (hn : avs.length = 1) (hR : okRoom h' E 3) (hc : (rest.map fun v => v.category).sum ≤ 8) (hdg : decode b pc = .ok (.invokevirtual 146, 3)) (kk : ∀ (r : Option Value) (M' : Mem), Q' r M' → G RX4 b nL ret E (pc + 3) L (r.toList ++ rest) M') : G RX4 b nL ret E pc L st M := g_callV (n := 1) (k := k) (ci := 4) (N := 11) (Cn := RX4) (T := TX4) wc_X4_findCurve wm_X4_146 wi_X4_findCurve ws_X4_findCurve wn_X4 rfl (by decide +kernel) (by decide) rfl hk hs hE hst hn hR hc hdg kk
theorem wm_X4_207 : Cond.methodLink RX4 207 yJ6_bitCount_0f7a4 ∈ tb := tb_w 351 (by decide +kernel) rfl
theorem gi_X4_207 {b : ByteArray} {nL : Nat} {ret : Option FieldType} {E : GE} {pc : Nat} {L : List (Nat × Value)} {st rest : List Value} {M : Mem} {h' : Nat} {avs : List Value} {Q' : Option Value → Mem → Prop} (hE : Ev yJ6_bitCount_0f7a4 cJ6_bitCount_0f7a4 1 (some .int) h' avs M Q') (hst : st = avs.reverse ++ rest) (hn : avs.length = 1) (hR : okRoom h' E 1) (hc : (rest.map fun v => v.category).sum ≤ 8) (hdg : decode b pc = .ok (.invokestatic 207, 3)) (kk : ∀ (r : Option Value) (M' : Mem), Q' r M' → G RX4 b nL ret E (pc + 3) L (r.toList ++ rest) M') : G RX4 b nL ret E pc L st M := g_callS (n := 1) wc_J6_bitCount_0f7a4 wm_X4_207 wt_J6_bitCount_0f7a4 wn_J6 (by decide +kernel) hE hst hn hR hc hdg kk
theorem gl_J6_265 : Cond.constant RJ6 265 (1431655765) ∈ tb := tb_w 354 (by decide +kernel) rfl
theorem gl_J6_266 : Cond.constant RJ6 266 (858993459) ∈ tb := tb_w 355 (by decide +kernel) rfl
theorem gl_J6_267 : Cond.constant RJ6 267 (252645135) ∈ tb := tb_w 356 (by decide +kernel) rfl
theorem wm_X4_177 : Cond.methodLinkNest RX4 177 yX0_layThrough "SilentAsking" ∈ nwl := List.mem_filter.mpr ⟨List.mem_of_getElem? (i := 357) (by decide +kernel), rfl⟩
theorem gi_X4_177 {b : ByteArray} {nL : Nat} {ret : Option FieldType} {E : GE} {pc : Nat} {L : List (Nat × Value)} {st rest : List Value} {M : Mem} {h' : Nat} {avs : List Value} {Q' : Option Value → Mem → Prop} {k : Nat} (hk : k < 42) (hs : shK k = 0) (hE : Ev yX0_layThrough cX0_layThrough 4 (none) h' (.ref k :: avs) M Q') (hst : st = (Value.ref k :: avs).reverse ++ rest) (hn : avs.length = 2) (hR : okRoom h' E 4) (hc : (rest.map fun v => v.category).sum ≤ 8) (hdg : decode b pc = .ok (.invokevirtual 177, 3)) (kk : ∀ (r : Option Value) (M' : Mem), Q' r M' → G RX4 b nL ret E (pc + 3) L (r.toList ++ rest) M') : G RX4 b nL ret E pc L st M := g_callVN (n := 2) (k := k) (ci := 0) (N := 3) (Cn := RX0) (T := TX0) (host := "SilentAsking") wc_X0_layThrough wm_X4_177 wi_X0_layThrough ws_X0_layThrough wn_X0 (by decide +kernel) (by decide) rfl hk hs hE hst hn hR hc hdg kk
theorem wm_X0_25 : Cond.methodLinkNest RX0 25 yX4_bit "SilentAsking" ∈ nwl := List.mem_filter.mpr ⟨List.mem_of_getElem? (i := 361) (by decide +kernel), rfl⟩
theorem gi_X0_25 {b : ByteArray} {nL : Nat} {ret : Option FieldType} {E : GE} {pc : Nat} {L : List (Nat × Value)} {st rest : List Value} {M : Mem} {h' : Nat} {avs : List Value} {Q' : Option Value → Mem → Prop} (hE : Ev yX4_bit cX4_bit 2 (some .int) h' avs M Q') (hst : st = avs.reverse ++ rest) (hn : avs.length = 2) (hR : okRoom h' E 2) (hc : (rest.map fun v => v.category).sum ≤ 8) (hdg : decode b pc = .ok (.invokestatic 25, 3)) (kk : ∀ (r : Option Value) (M' : Mem), Q' r M' → G RX0 b nL ret E (pc + 3) L (r.toList ++ rest) M') : G RX0 b nL ret E pc L st M := g_callSN (n := 2) (host := "SilentAsking") wc_X4_bit wm_X0_25 wt_X4_bit wn_X4 (by decide +kernel) hE hst hn hR hc hdg kk
theorem wm_X0_35 : Cond.methodLink RX0 35 yX0_bend ∈ tb := tb_w 362 (by decide +kernel) rfl
theorem gi_X0_35 {b : ByteArray} {nL : Nat} {ret : Option FieldType} {E : GE} {pc : Nat} {L : List (Nat × Value)} {st rest : List Value} {M : Mem} {h' : Nat} {avs : List Value} {Q' : Option Value → Mem → Prop} {k : Nat} (hk : k < 42) (hs : shK k = 0) (hE : Ev yX0_bend cX0_bend 5 (none) h' (.ref k :: avs) M Q') (hst : st = (Value.ref k :: avs).reverse ++ rest) (hn : avs.length = 2) (hR : okRoom h' E 5) (hc : (rest.map fun v => v.category).sum ≤ 8) (hdg : decode b pc = .ok (.invokevirtual 35, 3)) (kk : ∀ (r : Option Value) (M' : Mem), Q' r M' → G RX0 b nL ret E (pc + 3) L (r.toList ++ rest) M') : G RX0 b nL ret E pc L st M := g_callV (n := 2) (k := k) (ci := 0) (N := 3) (Cn := RX0) (T := TX0) wc_X0_bend wm_X0_35 wi_X0_bend ws_X0_bend wn_X0 rfl (by decide +kernel) (by decide) rfl hk hs hE hst hn hR hc hdg kk
theorem wm_X0_39 : Cond.methodLink RX0 39 yX0_at ∈ tb := tb_w 366 (by decide +kernel) rfl
theorem gi_X0_39 {b : ByteArray} {nL : Nat} {ret : Option FieldType} {E : GE} {pc : Nat} {L : List (Nat × Value)} {st rest : List Value} {M : Mem} {h' : Nat} {avs : List Value} {Q' : Option Value → Mem → Prop} {k : Nat} (hk : k < 42) (hs : shK k = 0) (hE : Ev yX0_at cX0_at 4 (some .int) h' (.ref k :: avs) M Q') (hst : st = (Value.ref k :: avs).reverse ++ rest) (hn : avs.length = 1) (hR : okRoom h' E 4) (hc : (rest.map fun v => v.category).sum ≤ 8) (hdg : decode b pc = .ok (.invokevirtual 39, 3)) (kk : ∀ (r : Option Value) (M' : Mem), Q' r M' → G RX0 b nL ret E (pc + 3) L (r.toList ++ rest) M') : G RX0 b nL ret E pc L st M := g_callV (n := 1) (k := k) (ci := 0) (N := 3) (Cn := RX0) (T := TX0) wc_X0_at wm_X0_39 wi_X0_at ws_X0_at wn_X0 rfl (by decide +kernel) (by decide) rfl hk hs hE hst hn hR hc hdg kk
theorem wm_X0_43 : Cond.methodLinkNest RX0 43 yX4_inverse "SilentAsking" ∈ nwl := List.mem_filter.mpr ⟨List.mem_of_getElem? (i := 370) (by decide +kernel), rfl⟩
theorem gi_X0_43 {b : ByteArray} {nL : Nat} {ret : Option FieldType} {E : GE} {pc : Nat} {L : List (Nat × Value)} {st rest : List Value} {M : Mem} {h' : Nat} {avs : List Value} {Q' : Option Value → Mem → Prop} (hE : Ev yX4_inverse cX4_inverse 1 (some .int) h' avs M Q') (hst : st = avs.reverse ++ rest) (hn : avs.length = 1) (hR : okRoom h' E 1) (hc : (rest.map fun v => v.category).sum ≤ 8) (hdg : decode b pc = .ok (.invokestatic 43, 3)) (kk : ∀ (r : Option Value) (M' : Mem), Q' r M' → G RX0 b nL ret E (pc + 3) L (r.toList ++ rest) M') : G RX0 b nL ret E pc L st M := g_callSN (n := 1) (host := "SilentAsking") wc_X4_inverse wm_X0_43 wt_X4_inverse wn_X4 (by decide +kernel) hE hst hn hR hc hdg kk
theorem wf_X4_200 : Cond.fieldLink RX4 200 "SilentAsking" "INVERSE" "[I" ∈ tb := tb_w 373 (by decide +kernel) rfl
theorem wm_X4_181 : Cond.methodLinkNest RX4 181 yX2_countOn "SilentAsking" ∈ nwl := List.mem_filter.mpr ⟨List.mem_of_getElem? (i := 375) (by decide +kernel), rfl⟩
theorem gi_X4_181 {b : ByteArray} {nL : Nat} {ret : Option FieldType} {E : GE} {pc : Nat} {L : List (Nat × Value)} {st rest : List Value} {M : Mem} {h' : Nat} {avs : List Value} {Q' : Option Value → Mem → Prop} {k : Nat} (hk : k < 42) (hs : shK k = 2) (hE : Ev yX2_countOn cX2_countOn 4 (some .int) h' (.ref k :: avs) M Q') (hst : st = (Value.ref k :: avs).reverse ++ rest) (hn : avs.length = 1) (hR : okRoom h' E 4) (hc : (rest.map fun v => v.category).sum ≤ 8) (hdg : decode b pc = .ok (.invokevirtual 181, 3)) (kk : ∀ (r : Option Value) (M' : Mem), Q' r M' → G RX4 b nL ret E (pc + 3) L (r.toList ++ rest) M') : G RX4 b nL ret E pc L st M := g_callVN (n := 1) (k := k) (ci := 2) (N := 3) (Cn := RX2) (T := TX2) (host := "SilentAsking") wc_X2_countOn wm_X4_181 wi_X2_countOn ws_X2_countOn wn_X2 (by decide +kernel) (by decide) rfl hk hs hE hst hn hR hc hdg kk
theorem wm_X2_28 : Cond.methodLink RX2 28 yX2_isOn ∈ tb := tb_w 379 (by decide +kernel) rfl
theorem gi_X2_28 {b : ByteArray} {nL : Nat} {ret : Option FieldType} {E : GE} {pc : Nat} {L : List (Nat × Value)} {st rest : List Value} {M : Mem} {h' : Nat} {avs : List Value} {Q' : Option Value → Mem → Prop} {k : Nat} (hk : k < 42) (hs : shK k = 2) (hE : Ev yX2_isOn cX2_isOn 3 (some .boolean) h' (.ref k :: avs) M Q') (hst : st = (Value.ref k :: avs).reverse ++ rest) (hn : avs.length = 2) (hR : okRoom h' E 3) (hc : (rest.map fun v => v.category).sum ≤ 8) (hdg : decode b pc = .ok (.invokevirtual 28, 3)) (kk : ∀ (r : Option Value) (M' : Mem), Q' r M' → G RX2 b nL ret E (pc + 3) L (r.toList ++ rest) M') : G RX2 b nL ret E pc L st M := g_callV (n := 2) (k := k) (ci := 2) (N := 3) (Cn := RX2) (T := TX2) wc_X2_isOn wm_X2_28 wi_X2_isOn ws_X2_isOn wn_X2 rfl (by decide +kernel) (by decide) rfl hk hs hE hst hn hR hc hdg kk
theorem wm_X2_22 : Cond.methodLinkNest RX2 22 yX0_at "SilentAsking" ∈ nwl := List.mem_filter.mpr ⟨List.mem_of_getElem? (i := 383) (by decide +kernel), rfl⟩
theorem gi_X2_22 {b : ByteArray} {nL : Nat} {ret : Option FieldType} {E : GE} {pc : Nat} {L : List (Nat × Value)} {st rest : List Value} {M : Mem} {h' : Nat} {avs : List Value} {Q' : Option Value → Mem → Prop} {k : Nat} (hk : k < 42) (hs : shK k = 0) (hE : Ev yX0_at cX0_at 4 (some .int) h' (.ref k :: avs) M Q') (hst : st = (Value.ref k :: avs).reverse ++ rest) (hn : avs.length = 1) (hR : okRoom h' E 4) (hc : (rest.map fun v => v.category).sum ≤ 8) (hdg : decode b pc = .ok (.invokevirtual 22, 3)) (kk : ∀ (r : Option Value) (M' : Mem), Q' r M' → G RX2 b nL ret E (pc + 3) L (r.toList ++ rest) M') : G RX2 b nL ret E pc L st M := g_callVN (n := 1) (k := k) (ci := 0) (N := 3) (Cn := RX0) (T := TX0) (host := "SilentAsking") wc_X0_at wm_X2_22 wi_X0_at ws_X0_at wn_X0 (by decide +kernel) (by decide) rfl hk hs hE hst hn hR hc hdg kk
theorem wm_X4_149 : Cond.methodLinkNest RX4 149 yX2_storesOff "SilentAsking" ∈ nwl := List.mem_filter.mpr ⟨List.mem_of_getElem? (i := 384) (by decide +kernel), rfl⟩
theorem gi_X4_149 {b : ByteArray} {nL : Nat} {ret : Option FieldType} {E : GE} {pc : Nat} {L : List (Nat × Value)} {st rest : List Value} {M : Mem} {h' : Nat} {avs : List Value} {Q' : Option Value → Mem → Prop} {k : Nat} (hk : k < 42) (hs : shK k = 2) (hE : Ev yX2_storesOff cX2_storesOff 4 (some .int) h' (.ref k :: avs) M Q') (hst : st = (Value.ref k :: avs).reverse ++ rest) (hn : avs.length = 1) (hR : okRoom h' E 4) (hc : (rest.map fun v => v.category).sum ≤ 8) (hdg : decode b pc = .ok (.invokevirtual 149, 3)) (kk : ∀ (r : Option Value) (M' : Mem), Q' r M' → G RX4 b nL ret E (pc + 3) L (r.toList ++ rest) M') : G RX4 b nL ret E pc L st M := g_callVN (n := 1) (k := k) (ci := 2) (N := 3) (Cn := RX2) (T := TX2) (host := "SilentAsking") wc_X2_storesOff wm_X4_149 wi_X2_storesOff ws_X2_storesOff wn_X2 (by decide +kernel) (by decide) rfl hk hs hE hst hn hR hc hdg kk
theorem wm_X4_153 : Cond.methodLinkNest RX4 153 yX0_at "SilentAsking" ∈ nwl := List.mem_filter.mpr ⟨List.mem_of_getElem? (i := 388) (by decide +kernel), rfl⟩
theorem gi_X4_153 {b : ByteArray} {nL : Nat} {ret : Option FieldType} {E : GE} {pc : Nat} {L : List (Nat × Value)} {st rest : List Value} {M : Mem} {h' : Nat} {avs : List Value} {Q' : Option Value → Mem → Prop} {k : Nat} (hk : k < 42) (hs : shK k = 0) (hE : Ev yX0_at cX0_at 4 (some .int) h' (.ref k :: avs) M Q') (hst : st = (Value.ref k :: avs).reverse ++ rest) (hn : avs.length = 1) (hR : okRoom h' E 4) (hc : (rest.map fun v => v.category).sum ≤ 8) (hdg : decode b pc = .ok (.invokevirtual 153, 3)) (kk : ∀ (r : Option Value) (M' : Mem), Q' r M' → G RX4 b nL ret E (pc + 3) L (r.toList ++ rest) M') : G RX4 b nL ret E pc L st M := g_callVN (n := 1) (k := k) (ci := 0) (N := 3) (Cn := RX0) (T := TX0) (host := "SilentAsking") wc_X0_at wm_X4_153 wi_X0_at ws_X0_at wn_X0 (by decide +kernel) (by decide) rfl hk hs hE hst hn hR hc hdg kk
theorem wm_L_68 : Cond.methodLink RL 68 yX4_caught ∈ tb := tb_w 389 (by decide +kernel) rfl
theorem gi_L_68 {b : ByteArray} {nL : Nat} {ret : Option FieldType} {E : GE} {pc : Nat} {L : List (Nat × Value)} {st rest : List Value} {M : Mem} {h' : Nat} {avs : List Value} {Q' : Option Value → Mem → Prop} {k : Nat} (hk : k < 42) (hs : shK k = 4) (hE : Ev yX4_caught cX4_caught 2 (some .int) h' (.ref k :: avs) M Q') (hst : st = (Value.ref k :: avs).reverse ++ rest) (hn : avs.length = 1) (hR : okRoom h' E 2) (hc : (rest.map fun v => v.category).sum ≤ 8) (hdg : decode b pc = .ok (.invokevirtual 68, 3)) (kk : ∀ (r : Option Value) (M' : Mem), Q' r M' → G RL b nL ret E (pc + 3) L (r.toList ++ rest) M') : G RL b nL ret E pc L st M := g_callV (n := 1) (k := k) (ci := 4) (N := 11) (Cn := RX4) (T := TX4) wc_X4_caught wm_L_68 wi_X4_caught ws_X4_caught wn_X4 rfl (by decide +kernel) (by decide) rfl hk hs hE hst hn hR hc hdg kk
theorem wm_L_72 : Cond.methodLink RL 72 yX4_mends ∈ tb := tb_w 393 (by decide +kernel) rfl
theorem gi_L_72 {b : ByteArray} {nL : Nat} {ret : Option FieldType} {E : GE} {pc : Nat} {L : List (Nat × Value)} {st rest : List Value} {M : Mem} {h' : Nat} {avs : List Value} {Q' : Option Value → Mem → Prop} {k : Nat} (hk : k < 42) (hs : shK k = 4) (hE : Ev yX4_mends cX4_mends 3 (some .int) h' (.ref k :: avs) M Q') (hst : st = (Value.ref k :: avs).reverse ++ rest) (hn : avs.length = 1) (hR : okRoom h' E 3) (hc : (rest.map fun v => v.category).sum ≤ 8) (hdg : decode b pc = .ok (.invokevirtual 72, 3)) (kk : ∀ (r : Option Value) (M' : Mem), Q' r M' → G RL b nL ret E (pc + 3) L (r.toList ++ rest) M') : G RL b nL ret E pc L st M := g_callV (n := 1) (k := k) (ci := 4) (N := 11) (Cn := RX4) (T := TX4) wc_X4_mends wm_L_72 wi_X4_mends ws_X4_mends wn_X4 rfl (by decide +kernel) (by decide) rfl hk hs hE hst hn hR hc hdg kk
theorem wm_L_76 : Cond.methodLink RL 76 yX4_ways ∈ tb := tb_w 397 (by decide +kernel) rfl
theorem gi_L_76 {b : ByteArray} {nL : Nat} {ret : Option FieldType} {E : GE} {pc : Nat} {L : List (Nat × Value)} {st rest : List Value} {M : Mem} {h' : Nat} {avs : List Value} {Q' : Option Value → Mem → Prop} {k : Nat} (hk : k < 42) (hs : shK k = 4) (hE : Ev yX4_ways cX4_ways 4 (some .long) h' (.ref k :: avs) M Q') (hst : st = (Value.ref k :: avs).reverse ++ rest) (hn : avs.length = 2) (hR : okRoom h' E 4) (hc : (rest.map fun v => v.category).sum ≤ 8) (hdg : decode b pc = .ok (.invokevirtual 76, 3)) (kk : ∀ (r : Option Value) (M' : Mem), Q' r M' → G RL b nL ret E (pc + 3) L (r.toList ++ rest) M') : G RL b nL ret E pc L st M := g_callV (n := 2) (k := k) (ci := 4) (N := 11) (Cn := RX4) (T := TX4) wc_X4_ways wm_L_76 wi_X4_ways ws_X4_ways wn_X4 rfl (by decide +kernel) (by decide) rfl hk hs hE hst hn hR hc hdg kk
theorem wm_X4_162 : Cond.methodLink RX4 162 yX4_refusalOfSet ∈ tb := tb_w 401 (by decide +kernel) rfl
theorem gi_X4_162 {b : ByteArray} {nL : Nat} {ret : Option FieldType} {E : GE} {pc : Nat} {L : List (Nat × Value)} {st rest : List Value} {M : Mem} {h' : Nat} {avs : List Value} {Q' : Option Value → Mem → Prop} {k : Nat} (hk : k < 42) (hs : shK k = 4) (hE : Ev yX4_refusalOfSet cX4_refusalOfSet 2 (some .int) h' (.ref k :: avs) M Q') (hst : st = (Value.ref k :: avs).reverse ++ rest) (hn : avs.length = 1) (hR : okRoom h' E 2) (hc : (rest.map fun v => v.category).sum ≤ 8) (hdg : decode b pc = .ok (.invokevirtual 162, 3)) (kk : ∀ (r : Option Value) (M' : Mem), Q' r M' → G RX4 b nL ret E (pc + 3) L (r.toList ++ rest) M') : G RX4 b nL ret E pc L st M := g_callV (n := 1) (k := k) (ci := 4) (N := 11) (Cn := RX4) (T := TX4) wc_X4_refusalOfSet wm_X4_162 wi_X4_refusalOfSet ws_X4_refusalOfSet wn_X4 rfl (by decide +kernel) (by decide) rfl hk hs hE hst hn hR hc hdg kk
theorem wm_X4_165 : Cond.methodLinkNest RX4 165 yX1_countWays "SilentAsking" ∈ nwl := List.mem_filter.mpr ⟨List.mem_of_getElem? (i := 405) (by decide +kernel), rfl⟩
theorem gi_X4_165 {b : ByteArray} {nL : Nat} {ret : Option FieldType} {E : GE} {pc : Nat} {L : List (Nat × Value)} {st rest : List Value} {M : Mem} {h' : Nat} {avs : List Value} {Q' : Option Value → Mem → Prop} {k : Nat} (hk : k < 42) (hs : shK k = 1) (hE : Ev yX1_countWays cX1_countWays 7 (some .long) h' (.ref k :: avs) M Q') (hst : st = (Value.ref k :: avs).reverse ++ rest) (hn : avs.length = 2) (hR : okRoom h' E 7) (hc : (rest.map fun v => v.category).sum ≤ 8) (hdg : decode b pc = .ok (.invokevirtual 165, 3)) (kk : ∀ (r : Option Value) (M' : Mem), Q' r M' → G RX4 b nL ret E (pc + 3) L (r.toList ++ rest) M') : G RX4 b nL ret E pc L st M := g_callVN (n := 2) (k := k) (ci := 1) (N := 8) (Cn := RX1) (T := TX1) (host := "SilentAsking") wc_X1_countWays wm_X4_165 wi_X1_countWays ws_X1_countWays wn_X1 (by decide +kernel) (by decide) rfl hk hs hE hst hn hR hc hdg kk
theorem wm_X1_60 : Cond.methodLink RX1 60 yJ6_bitCount_0f7a4 ∈ tb := tb_w 409 (by decide +kernel) rfl
theorem gi_X1_60 {b : ByteArray} {nL : Nat} {ret : Option FieldType} {E : GE} {pc : Nat} {L : List (Nat × Value)} {st rest : List Value} {M : Mem} {h' : Nat} {avs : List Value} {Q' : Option Value → Mem → Prop} (hE : Ev yJ6_bitCount_0f7a4 cJ6_bitCount_0f7a4 1 (some .int) h' avs M Q') (hst : st = avs.reverse ++ rest) (hn : avs.length = 1) (hR : okRoom h' E 1) (hc : (rest.map fun v => v.category).sum ≤ 8) (hdg : decode b pc = .ok (.invokestatic 60, 3)) (kk : ∀ (r : Option Value) (M' : Mem), Q' r M' → G RX1 b nL ret E (pc + 3) L (r.toList ++ rest) M') : G RX1 b nL ret E pc L st M := g_callS (n := 1) wc_J6_bitCount_0f7a4 wm_X1_60 wt_J6_bitCount_0f7a4 wn_J6 (by decide +kernel) hE hst hn hR hc hdg kk
theorem gl_X4_169 : Cond.constantLong RX4 169 (-1) ∈ tb := tb_w 410 (by decide +kernel) rfl
theorem wm_L_81 : Cond.methodLink RL 81 yX4_might ∈ tb := tb_w 411 (by decide +kernel) rfl
theorem gi_L_81 {b : ByteArray} {nL : Nat} {ret : Option FieldType} {E : GE} {pc : Nat} {L : List (Nat × Value)} {st rest : List Value} {M : Mem} {h' : Nat} {avs : List Value} {Q' : Option Value → Mem → Prop} {k : Nat} (hk : k < 42) (hs : shK k = 4) (hE : Ev yX4_might cX4_might 5 (some .int) h' (.ref k :: avs) M Q') (hst : st = (Value.ref k :: avs).reverse ++ rest) (hn : avs.length = 1) (hR : okRoom h' E 5) (hc : (rest.map fun v => v.category).sum ≤ 8) (hdg : decode b pc = .ok (.invokevirtual 81, 3)) (kk : ∀ (r : Option Value) (M' : Mem), Q' r M' → G RL b nL ret E (pc + 3) L (r.toList ++ rest) M') : G RL b nL ret E pc L st M := g_callV (n := 1) (k := k) (ci := 4) (N := 11) (Cn := RX4) (T := TX4) wc_X4_might wm_L_81 wi_X4_might ws_X4_might wn_X4 rfl (by decide +kernel) (by decide) rfl hk hs hE hst hn hR hc hdg kk
theorem wm_L_85 : Cond.methodLink RL 85 yX4_learns ∈ tb := tb_w 415 (by decide +kernel) rfl
theorem gi_L_85 {b : ByteArray} {nL : Nat} {ret : Option FieldType} {E : GE} {pc : Nat} {L : List (Nat × Value)} {st rest : List Value} {M : Mem} {h' : Nat} {avs : List Value} {Q' : Option Value → Mem → Prop} {k : Nat} (hk : k < 42) (hs : shK k = 4) (hE : Ev yX4_learns cX4_learns 3 (some .int) h' (.ref k :: avs) M Q') (hst : st = (Value.ref k :: avs).reverse ++ rest) (hn : avs.length = 1) (hR : okRoom h' E 3) (hc : (rest.map fun v => v.category).sum ≤ 8) (hdg : decode b pc = .ok (.invokevirtual 85, 3)) (kk : ∀ (r : Option Value) (M' : Mem), Q' r M' → G RL b nL ret E (pc + 3) L (r.toList ++ rest) M') : G RL b nL ret E pc L st M := g_callV (n := 1) (k := k) (ci := 4) (N := 11) (Cn := RX4) (T := TX4) wc_X4_learns wm_L_85 wi_X4_learns ws_X4_learns wn_X4 rfl (by decide +kernel) (by decide) rfl hk hs hE hst hn hR hc hdg kk
theorem wm_X4_171 : Cond.methodLink RX4 171 yX4_tellsRecordsApart ∈ tb := tb_w 419 (by decide +kernel) rfl
theorem gi_X4_171 {b : ByteArray} {nL : Nat} {ret : Option FieldType} {E : GE} {pc : Nat} {L : List (Nat × Value)} {st rest : List Value} {M : Mem} {h' : Nat} {avs : List Value} {Q' : Option Value → Mem → Prop} {k : Nat} (hk : k < 42) (hs : shK k = 4) (hE : Ev yX4_tellsRecordsApart cX4_tellsRecordsApart 3 (some .boolean) h' (.ref k :: avs) M Q') (hst : st = (Value.ref k :: avs).reverse ++ rest) (hn : avs.length = 1) (hR : okRoom h' E 3) (hc : (rest.map fun v => v.category).sum ≤ 8) (hdg : decode b pc = .ok (.invokevirtual 171, 3)) (kk : ∀ (r : Option Value) (M' : Mem), Q' r M' → G RX4 b nL ret E (pc + 3) L (r.toList ++ rest) M') : G RX4 b nL ret E pc L st M := g_callV (n := 1) (k := k) (ci := 4) (N := 11) (Cn := RX4) (T := TX4) wc_X4_tellsRecordsApart wm_X4_171 wi_X4_tellsRecordsApart ws_X4_tellsRecordsApart wn_X4 rfl (by decide +kernel) (by decide) rfl hk hs hE hst hn hR hc hdg kk
theorem wm_L_89 : Cond.methodLink RL 89 yX4_least ∈ tb := tb_w 423 (by decide +kernel) rfl
theorem gi_L_89 {b : ByteArray} {nL : Nat} {ret : Option FieldType} {E : GE} {pc : Nat} {L : List (Nat × Value)} {st rest : List Value} {M : Mem} {h' : Nat} {avs : List Value} {Q' : Option Value → Mem → Prop} {k : Nat} (hk : k < 42) (hs : shK k = 4) (hE : Ev yX4_least cX4_least 2 (some .int) h' (.ref k :: avs) M Q') (hst : st = (Value.ref k :: avs).reverse ++ rest) (hn : avs.length = 0) (hR : okRoom h' E 2) (hc : (rest.map fun v => v.category).sum ≤ 8) (hdg : decode b pc = .ok (.invokevirtual 89, 3)) (kk : ∀ (r : Option Value) (M' : Mem), Q' r M' → G RL b nL ret E (pc + 3) L (r.toList ++ rest) M') : G RL b nL ret E pc L st M := g_callV (n := 0) (k := k) (ci := 4) (N := 11) (Cn := RX4) (T := TX4) wc_X4_least wm_L_89 wi_X4_least ws_X4_least wn_X4 rfl (by decide +kernel) (by decide) rfl hk hs hE hst hn hR hc hdg kk
theorem wm_L_94 : Cond.methodLink RL 94 yX4_fits ∈ tb := tb_w 427 (by decide +kernel) rfl
theorem gi_L_94 {b : ByteArray} {nL : Nat} {ret : Option FieldType} {E : GE} {pc : Nat} {L : List (Nat × Value)} {st rest : List Value} {M : Mem} {h' : Nat} {avs : List Value} {Q' : Option Value → Mem → Prop} {k : Nat} (hk : k < 42) (hs : shK k = 4) (hE : Ev yX4_fits cX4_fits 4 (some .int) h' (.ref k :: avs) M Q') (hst : st = (Value.ref k :: avs).reverse ++ rest) (hn : avs.length = 2) (hR : okRoom h' E 4) (hc : (rest.map fun v => v.category).sum ≤ 8) (hdg : decode b pc = .ok (.invokevirtual 94, 3)) (kk : ∀ (r : Option Value) (M' : Mem), Q' r M' → G RL b nL ret E (pc + 3) L (r.toList ++ rest) M') : G RL b nL ret E pc L st M := g_callV (n := 2) (k := k) (ci := 4) (N := 11) (Cn := RX4) (T := TX4) wc_X4_fits wm_L_94 wi_X4_fits ws_X4_fits wn_X4 rfl (by decide +kernel) (by decide) rfl hk hs hE hst hn hR hc hdg kk
theorem wm_X4_174 : Cond.methodLink RX4 174 yX4_firstPicks ∈ tb := tb_w 431 (by decide +kernel) rfl
theorem gi_X4_174 {b : ByteArray} {nL : Nat} {ret : Option FieldType} {E : GE} {pc : Nat} {L : List (Nat × Value)} {st rest : List Value} {M : Mem} {h' : Nat} {avs : List Value} {Q' : Option Value → Mem → Prop} {k : Nat} (hk : k < 42) (hs : shK k = 4) (hE : Ev yX4_firstPicks cX4_firstPicks 2 (some .int) h' (.ref k :: avs) M Q') (hst : st = (Value.ref k :: avs).reverse ++ rest) (hn : avs.length = 0) (hR : okRoom h' E 2) (hc : (rest.map fun v => v.category).sum ≤ 8) (hdg : decode b pc = .ok (.invokevirtual 174, 3)) (kk : ∀ (r : Option Value) (M' : Mem), Q' r M' → G RX4 b nL ret E (pc + 3) L (r.toList ++ rest) M') : G RX4 b nL ret E pc L st M := g_callV (n := 0) (k := k) (ci := 4) (N := 11) (Cn := RX4) (T := TX4) wc_X4_firstPicks wm_X4_174 wi_X4_firstPicks ws_X4_firstPicks wn_X4 rfl (by decide +kernel) (by decide) rfl hk hs hE hst hn hR hc hdg kk
theorem wm_L_98 : Cond.methodLink RL 98 yX4_both ∈ tb := tb_w 435 (by decide +kernel) rfl
theorem gi_L_98 {b : ByteArray} {nL : Nat} {ret : Option FieldType} {E : GE} {pc : Nat} {L : List (Nat × Value)} {st rest : List Value} {M : Mem} {h' : Nat} {avs : List Value} {Q' : Option Value → Mem → Prop} {k : Nat} (hk : k < 42) (hs : shK k = 4) (hE : Ev yX4_both cX4_both 4 (some .int) h' (.ref k :: avs) M Q') (hst : st = (Value.ref k :: avs).reverse ++ rest) (hn : avs.length = 2) (hR : okRoom h' E 4) (hc : (rest.map fun v => v.category).sum ≤ 8) (hdg : decode b pc = .ok (.invokevirtual 98, 3)) (kk : ∀ (r : Option Value) (M' : Mem), Q' r M' → G RL b nL ret E (pc + 3) L (r.toList ++ rest) M') : G RL b nL ret E pc L st M := g_callV (n := 2) (k := k) (ci := 4) (N := 11) (Cn := RX4) (T := TX4) wc_X4_both wm_L_98 wi_X4_both ws_X4_both wn_X4 rfl (by decide +kernel) (by decide) rfl hk hs hE hst hn hR hc hdg kk
theorem wm_X4_184 : Cond.methodLink RX4 184 yX4_isRecordSet ∈ tb := tb_w 439 (by decide +kernel) rfl
theorem gi_X4_184 {b : ByteArray} {nL : Nat} {ret : Option FieldType} {E : GE} {pc : Nat} {L : List (Nat × Value)} {st rest : List Value} {M : Mem} {h' : Nat} {avs : List Value} {Q' : Option Value → Mem → Prop} {k : Nat} (hk : k < 42) (hs : shK k = 4) (hE : Ev yX4_isRecordSet cX4_isRecordSet 2 (some .boolean) h' (.ref k :: avs) M Q') (hst : st = (Value.ref k :: avs).reverse ++ rest) (hn : avs.length = 1) (hR : okRoom h' E 2) (hc : (rest.map fun v => v.category).sum ≤ 8) (hdg : decode b pc = .ok (.invokevirtual 184, 3)) (kk : ∀ (r : Option Value) (M' : Mem), Q' r M' → G RX4 b nL ret E (pc + 3) L (r.toList ++ rest) M') : G RX4 b nL ret E pc L st M := g_callV (n := 1) (k := k) (ci := 4) (N := 11) (Cn := RX4) (T := TX4) wc_X4_isRecordSet wm_X4_184 wi_X4_isRecordSet ws_X4_isRecordSet wn_X4 rfl (by decide +kernel) (by decide) rfl hk hs hE hst hn hR hc hdg kk
theorem wm_X4_187 : Cond.methodLink RX4 187 yX4_toldOfSet ∈ tb := tb_w 443 (by decide +kernel) rfl
theorem gi_X4_187 {b : ByteArray} {nL : Nat} {ret : Option FieldType} {E : GE} {pc : Nat} {L : List (Nat × Value)} {st rest : List Value} {M : Mem} {h' : Nat} {avs : List Value} {Q' : Option Value → Mem → Prop} {k : Nat} (hk : k < 42) (hs : shK k = 4) (hE : Ev yX4_toldOfSet cX4_toldOfSet 6 (some .int) h' (.ref k :: avs) M Q') (hst : st = (Value.ref k :: avs).reverse ++ rest) (hn : avs.length = 2) (hR : okRoom h' E 6) (hc : (rest.map fun v => v.category).sum ≤ 8) (hdg : decode b pc = .ok (.invokevirtual 187, 3)) (kk : ∀ (r : Option Value) (M' : Mem), Q' r M' → G RX4 b nL ret E (pc + 3) L (r.toList ++ rest) M') : G RX4 b nL ret E pc L st M := g_callV (n := 2) (k := k) (ci := 4) (N := 11) (Cn := RX4) (T := TX4) wc_X4_toldOfSet wm_X4_187 wi_X4_toldOfSet ws_X4_toldOfSet wn_X4 rfl (by decide +kernel) (by decide) rfl hk hs hE hst hn hR hc hdg kk
theorem wm_L_102 : Cond.methodLink RL 102 yX4_pair ∈ tb := tb_w 447 (by decide +kernel) rfl
theorem gi_L_102 {b : ByteArray} {nL : Nat} {ret : Option FieldType} {E : GE} {pc : Nat} {L : List (Nat × Value)} {st rest : List Value} {M : Mem} {h' : Nat} {avs : List Value} {Q' : Option Value → Mem → Prop} {k : Nat} (hk : k < 42) (hs : shK k = 4) (hE : Ev yX4_pair cX4_pair 7 (some .int) h' (.ref k :: avs) M Q') (hst : st = (Value.ref k :: avs).reverse ++ rest) (hn : avs.length = 4) (hR : okRoom h' E 7) (hc : (rest.map fun v => v.category).sum ≤ 8) (hdg : decode b pc = .ok (.invokevirtual 102, 3)) (kk : ∀ (r : Option Value) (M' : Mem), Q' r M' → G RL b nL ret E (pc + 3) L (r.toList ++ rest) M') : G RL b nL ret E pc L st M := g_callV (n := 4) (k := k) (ci := 4) (N := 11) (Cn := RX4) (T := TX4) wc_X4_pair wm_L_102 wi_X4_pair ws_X4_pair wn_X4 rfl (by decide +kernel) (by decide) rfl hk hs hE hst hn hR hc hdg kk
theorem wm_L_107 : Cond.methodLink RL 107 yX4_total ∈ tb := tb_w 451 (by decide +kernel) rfl
theorem gi_L_107 {b : ByteArray} {nL : Nat} {ret : Option FieldType} {E : GE} {pc : Nat} {L : List (Nat × Value)} {st rest : List Value} {M : Mem} {h' : Nat} {avs : List Value} {Q' : Option Value → Mem → Prop} {k : Nat} (hk : k < 42) (hs : shK k = 4) (hE : Ev yX4_total cX4_total 2 (some .int) h' (.ref k :: avs) M Q') (hst : st = (Value.ref k :: avs).reverse ++ rest) (hn : avs.length = 1) (hR : okRoom h' E 2) (hc : (rest.map fun v => v.category).sum ≤ 8) (hdg : decode b pc = .ok (.invokevirtual 107, 3)) (kk : ∀ (r : Option Value) (M' : Mem), Q' r M' → G RL b nL ret E (pc + 3) L (r.toList ++ rest) M') : G RL b nL ret E pc L st M := g_callV (n := 1) (k := k) (ci := 4) (N := 11) (Cn := RX4) (T := TX4) wc_X4_total wm_L_107 wi_X4_total ws_X4_total wn_X4 rfl (by decide +kernel) (by decide) rfl hk hs hE hst hn hR hc hdg kk
theorem wm_X4_190 : Cond.methodLink RX4 190 yX4_trueStores ∈ tb := tb_w 455 (by decide +kernel) rfl
theorem gi_X4_190 {b : ByteArray} {nL : Nat} {ret : Option FieldType} {E : GE} {pc : Nat} {L : List (Nat × Value)} {st rest : List Value} {M : Mem} {h' : Nat} {avs : List Value} {Q' : Option Value → Mem → Prop} {k : Nat} (hk : k < 42) (hs : shK k = 4) (hE : Ev yX4_trueStores cX4_trueStores 3 (some .int) h' (.ref k :: avs) M Q') (hst : st = (Value.ref k :: avs).reverse ++ rest) (hn : avs.length = 0) (hR : okRoom h' E 3) (hc : (rest.map fun v => v.category).sum ≤ 8) (hdg : decode b pc = .ok (.invokevirtual 190, 3)) (kk : ∀ (r : Option Value) (M' : Mem), Q' r M' → G RX4 b nL ret E (pc + 3) L (r.toList ++ rest) M') : G RX4 b nL ret E pc L st M := g_callV (n := 0) (k := k) (ci := 4) (N := 11) (Cn := RX4) (T := TX4) wc_X4_trueStores wm_X4_190 wi_X4_trueStores ws_X4_trueStores wn_X4 rfl (by decide +kernel) (by decide) rfl hk hs hE hst hn hR hc hdg kk
theorem wf_X5_45 : Cond.fieldLink RX5 45 (TX5 0).1 (TX5 0).2.1 (TX5 0).2.2.1 ∈ tb := tb_w 465 (by decide +kernel) rfl
theorem rn_5_0 : ∀ k, k < 42 → shK k = 5 → rf k 0 = none := by decide +kernel
theorem gf_X5_45 {b : ByteArray} {nL : Nat} {ret : Option FieldType} {E : GE} {pc : Nat} {L : List (Nat × Value)} {rest : List Value} {M : Mem} {k : Nat} (hk : k < 42) (hs : shK k = 5) (hdg : decode b pc = .ok (.getfield 45, 3)) (kk : G RX5 b nL ret E (pc + 3) L (.int (M k 0) :: rest) M) : G RX5 b nL ret E pc L (.ref k :: rest) M := g_get (j := 0) (T := TX5) (v := .int (M k 0)) hk hs (by decide) (by unfold fvA; rw [rn_5_0 k hk hs]) rfl inX5 (by decide) (sh_5 k hk hs) wf_X5_45 hdg kk
theorem gp_X5_45 {b : ByteArray} {nL : Nat} {ret : Option FieldType} {E : GE} {pc : Nat} {L : List (Nat × Value)} {rest : List Value} {M : Mem} {k : Nat} {v : Int32} (hk : k < 42) (hs : shK k = 5) (hdg : decode b pc = .ok (.putfield 45, 3)) (kk : G RX5 b nL ret E (pc + 3) L rest (mset M k 0 v)) : G RX5 b nL ret E pc L (.int v :: .ref k :: rest) M := g_put (j := 0) (T := TX5) (ty := .int) tyX5 hk hs (by decide) (rn_5_0 k hk hs) rfl inX5 tyX5_ok nmX5 rfl (by decide +kernel) rfl rfl (by decide) (sh_5 k hk hs) wf_X5_45 hdg kk
theorem wf_X5_7 : Cond.fieldLink RX5 7 (TX5 1).1 (TX5 1).2.1 (TX5 1).2.2.1 ∈ tb := tb_w 466 (by decide +kernel) rfl
theorem rn_5_1 : ∀ k, k < 42 → shK k = 5 → rf k 1 = none := by decide +kernel
theorem gf_X5_7 {b : ByteArray} {nL : Nat} {ret : Option FieldType} {E : GE} {pc : Nat} {L : List (Nat × Value)} {rest : List Value} {M : Mem} {k : Nat} (hk : k < 42) (hs : shK k = 5) (hdg : decode b pc = .ok (.getfield 7, 3)) (kk : G RX5 b nL ret E (pc + 3) L (.int (M k 1) :: rest) M) : G RX5 b nL ret E pc L (.ref k :: rest) M := g_get (j := 1) (T := TX5) (v := .int (M k 1)) hk hs (by decide) (by unfold fvA; rw [rn_5_1 k hk hs]) rfl inX5 (by decide) (sh_5 k hk hs) wf_X5_7 hdg kk
theorem gp_X5_7 {b : ByteArray} {nL : Nat} {ret : Option FieldType} {E : GE} {pc : Nat} {L : List (Nat × Value)} {rest : List Value} {M : Mem} {k : Nat} {v : Int32} (hk : k < 42) (hs : shK k = 5) (hdg : decode b pc = .ok (.putfield 7, 3)) (kk : G RX5 b nL ret E (pc + 3) L rest (mset M k 1 v)) : G RX5 b nL ret E pc L (.int v :: .ref k :: rest) M := g_put (j := 1) (T := TX5) (ty := .int) tyX5 hk hs (by decide) (rn_5_1 k hk hs) rfl inX5 tyX5_ok nmX5 rfl (by decide +kernel) rfl rfl (by decide) (sh_5 k hk hs) wf_X5_7 hdg kk
theorem wf_X5_13 : Cond.fieldLink RX5 13 (TX5 2).1 (TX5 2).2.1 (TX5 2).2.2.1 ∈ tb := tb_w 467 (by decide +kernel) rfl
theorem gf_X5_13 {b : ByteArray} {nL : Nat} {ret : Option FieldType} {E : GE} {pc : Nat} {L : List (Nat × Value)} {rest : List Value} {M : Mem} {k r : Nat} (hk : k < 42) (hs : shK k = 5) (hr : rf k 2 = some r) (hdg : decode b pc = .ok (.getfield 13, 3)) (kk : G RX5 b nL ret E (pc + 3) L (.ref r :: rest) M) : G RX5 b nL ret E pc L (.ref k :: rest) M := g_get (j := 2) (T := TX5) (v := .ref r) hk hs (by decide) (by unfold fvA; rw [hr]) rfl inX5 (by decide) (sh_5 k hk hs) wf_X5_13 hdg kk
theorem wf_X5_17 : Cond.fieldLink RX5 17 (TX5 3).1 (TX5 3).2.1 (TX5 3).2.2.1 ∈ tb := tb_w 468 (by decide +kernel) rfl
theorem gf_X5_17 {b : ByteArray} {nL : Nat} {ret : Option FieldType} {E : GE} {pc : Nat} {L : List (Nat × Value)} {rest : List Value} {M : Mem} {k r : Nat} (hk : k < 42) (hs : shK k = 5) (hr : rf k 3 = some r) (hdg : decode b pc = .ok (.getfield 17, 3)) (kk : G RX5 b nL ret E (pc + 3) L (.ref r :: rest) M) : G RX5 b nL ret E pc L (.ref k :: rest) M := g_get (j := 3) (T := TX5) (v := .ref r) hk hs (by decide) (by unfold fvA; rw [hr]) rfl inX5 (by decide) (sh_5 k hk hs) wf_X5_17 hdg kk
theorem wf_X5_20 : Cond.fieldLink RX5 20 (TX5 4).1 (TX5 4).2.1 (TX5 4).2.2.1 ∈ tb := tb_w 469 (by decide +kernel) rfl
theorem gf_X5_20 {b : ByteArray} {nL : Nat} {ret : Option FieldType} {E : GE} {pc : Nat} {L : List (Nat × Value)} {rest : List Value} {M : Mem} {k r : Nat} (hk : k < 42) (hs : shK k = 5) (hr : rf k 4 = some r) (hdg : decode b pc = .ok (.getfield 20, 3)) (kk : G RX5 b nL ret E (pc + 3) L (.ref r :: rest) M) : G RX5 b nL ret E pc L (.ref k :: rest) M := g_get (j := 4) (T := TX5) (v := .ref r) hk hs (by decide) (by unfold fvA; rw [hr]) rfl inX5 (by decide) (sh_5 k hk hs) wf_X5_20 hdg kk
theorem wf_X5_23 : Cond.fieldLink RX5 23 (TX5 5).1 (TX5 5).2.1 (TX5 5).2.2.1 ∈ tb := tb_w 470 (by decide +kernel) rfl
theorem gf_X5_23 {b : ByteArray} {nL : Nat} {ret : Option FieldType} {E : GE} {pc : Nat} {L : List (Nat × Value)} {rest : List Value} {M : Mem} {k r : Nat} (hk : k < 42) (hs : shK k = 5) (hr : rf k 5 = some r) (hdg : decode b pc = .ok (.getfield 23, 3)) (kk : G RX5 b nL ret E (pc + 3) L (.ref r :: rest) M) : G RX5 b nL ret E pc L (.ref k :: rest) M := g_get (j := 5) (T := TX5) (v := .ref r) hk hs (by decide) (by unfold fvA; rw [hr]) rfl inX5 (by decide) (sh_5 k hk hs) wf_X5_23 hdg kk
theorem wf_X5_90 : Cond.fieldLink RX5 90 (TX5 6).1 (TX5 6).2.1 (TX5 6).2.2.1 ∈ tb := tb_w 471 (by decide +kernel) rfl
theorem rn_5_6 : ∀ k, k < 42 → shK k = 5 → rf k 6 = none := by decide +kernel
theorem gf_X5_90 {b : ByteArray} {nL : Nat} {ret : Option FieldType} {E : GE} {pc : Nat} {L : List (Nat × Value)} {rest : List Value} {M : Mem} {k : Nat} (hk : k < 42) (hs : shK k = 5) (hdg : decode b pc = .ok (.getfield 90, 3)) (kk : G RX5 b nL ret E (pc + 3) L (.int (M k 6) :: rest) M) : G RX5 b nL ret E pc L (.ref k :: rest) M := g_get (j := 6) (T := TX5) (v := .int (M k 6)) hk hs (by decide) (by unfold fvA; rw [rn_5_6 k hk hs]) rfl inX5 (by decide) (sh_5 k hk hs) wf_X5_90 hdg kk
theorem gp_X5_90 {b : ByteArray} {nL : Nat} {ret : Option FieldType} {E : GE} {pc : Nat} {L : List (Nat × Value)} {rest : List Value} {M : Mem} {k : Nat} {v : Int32} (hk : k < 42) (hs : shK k = 5) (hn : narrow .boolean (.int v) = .int v) (hf : fits .boolean (.int v) = true) (hdg : decode b pc = .ok (.putfield 90, 3)) (kk : G RX5 b nL ret E (pc + 3) L rest (mset M k 6 v)) : G RX5 b nL ret E pc L (.int v :: .ref k :: rest) M := g_put (j := 6) (T := TX5) (ty := .boolean) tyX5 hk hs (by decide) (rn_5_6 k hk hs) rfl inX5 tyX5_ok nmX5 rfl (by decide +kernel) hn hf (by decide) (sh_5 k hk hs) wf_X5_90 hdg kk
theorem wf_X5_71 : Cond.fieldLink RX5 71 (TX5 7).1 (TX5 7).2.1 (TX5 7).2.2.1 ∈ tb := tb_w 472 (by decide +kernel) rfl
theorem rn_5_7 : ∀ k, k < 42 → shK k = 5 → rf k 7 = none := by decide +kernel
theorem gf_X5_71 {b : ByteArray} {nL : Nat} {ret : Option FieldType} {E : GE} {pc : Nat} {L : List (Nat × Value)} {rest : List Value} {M : Mem} {k : Nat} (hk : k < 42) (hs : shK k = 5) (hdg : decode b pc = .ok (.getfield 71, 3)) (kk : G RX5 b nL ret E (pc + 3) L (.int (M k 7) :: rest) M) : G RX5 b nL ret E pc L (.ref k :: rest) M := g_get (j := 7) (T := TX5) (v := .int (M k 7)) hk hs (by decide) (by unfold fvA; rw [rn_5_7 k hk hs]) rfl inX5 (by decide) (sh_5 k hk hs) wf_X5_71 hdg kk
theorem gp_X5_71 {b : ByteArray} {nL : Nat} {ret : Option FieldType} {E : GE} {pc : Nat} {L : List (Nat × Value)} {rest : List Value} {M : Mem} {k : Nat} {v : Int32} (hk : k < 42) (hs : shK k = 5) (hdg : decode b pc = .ok (.putfield 71, 3)) (kk : G RX5 b nL ret E (pc + 3) L rest (mset M k 7 v)) : G RX5 b nL ret E pc L (.int v :: .ref k :: rest) M := g_put (j := 7) (T := TX5) (ty := .int) tyX5 hk hs (by decide) (rn_5_7 k hk hs) rfl inX5 tyX5_ok nmX5 rfl (by decide +kernel) rfl rfl (by decide) (sh_5 k hk hs) wf_X5_71 hdg kk
theorem wf_X5_48 : Cond.fieldLink RX5 48 (TX5 8).1 (TX5 8).2.1 (TX5 8).2.2.1 ∈ tb := tb_w 473 (by decide +kernel) rfl
theorem rn_5_8 : ∀ k, k < 42 → shK k = 5 → rf k 8 = none := by decide +kernel
theorem gf_X5_48 {b : ByteArray} {nL : Nat} {ret : Option FieldType} {E : GE} {pc : Nat} {L : List (Nat × Value)} {rest : List Value} {M : Mem} {k : Nat} (hk : k < 42) (hs : shK k = 5) (hdg : decode b pc = .ok (.getfield 48, 3)) (kk : G RX5 b nL ret E (pc + 3) L (.int (M k 8) :: rest) M) : G RX5 b nL ret E pc L (.ref k :: rest) M := g_get (j := 8) (T := TX5) (v := .int (M k 8)) hk hs (by decide) (by unfold fvA; rw [rn_5_8 k hk hs]) rfl inX5 (by decide) (sh_5 k hk hs) wf_X5_48 hdg kk
theorem gp_X5_48 {b : ByteArray} {nL : Nat} {ret : Option FieldType} {E : GE} {pc : Nat} {L : List (Nat × Value)} {rest : List Value} {M : Mem} {k : Nat} {v : Int32} (hk : k < 42) (hs : shK k = 5) (hdg : decode b pc = .ok (.putfield 48, 3)) (kk : G RX5 b nL ret E (pc + 3) L rest (mset M k 8 v)) : G RX5 b nL ret E pc L (.int v :: .ref k :: rest) M := g_put (j := 8) (T := TX5) (ty := .int) tyX5 hk hs (by decide) (rn_5_8 k hk hs) rfl inX5 tyX5_ok nmX5 rfl (by decide +kernel) rfl rfl (by decide) (sh_5 k hk hs) wf_X5_48 hdg kk
theorem wf_X5_26 : Cond.fieldLink RX5 26 (TX5 9).1 (TX5 9).2.1 (TX5 9).2.2.1 ∈ tb := tb_w 474 (by decide +kernel) rfl
theorem gf_X5_26 {b : ByteArray} {nL : Nat} {ret : Option FieldType} {E : GE} {pc : Nat} {L : List (Nat × Value)} {rest : List Value} {M : Mem} {k r : Nat} (hk : k < 42) (hs : shK k = 5) (hr : rf k 9 = some r) (hdg : decode b pc = .ok (.getfield 26, 3)) (kk : G RX5 b nL ret E (pc + 3) L (.ref r :: rest) M) : G RX5 b nL ret E pc L (.ref k :: rest) M := g_get (j := 9) (T := TX5) (v := .ref r) hk hs (by decide) (by unfold fvA; rw [hr]) rfl inX5 (by decide) (sh_5 k hk hs) wf_X5_26 hdg kk
theorem wf_X5_84 : Cond.fieldLink RX5 84 (TX5 10).1 (TX5 10).2.1 (TX5 10).2.2.1 ∈ tb := tb_w 475 (by decide +kernel) rfl
theorem rn_5_10 : ∀ k, k < 42 → shK k = 5 → rf k 10 = none := by decide +kernel
theorem gf_X5_84 {b : ByteArray} {nL : Nat} {ret : Option FieldType} {E : GE} {pc : Nat} {L : List (Nat × Value)} {rest : List Value} {M : Mem} {k : Nat} (hk : k < 42) (hs : shK k = 5) (hdg : decode b pc = .ok (.getfield 84, 3)) (kk : G RX5 b nL ret E (pc + 3) L (.int (M k 10) :: rest) M) : G RX5 b nL ret E pc L (.ref k :: rest) M := g_get (j := 10) (T := TX5) (v := .int (M k 10)) hk hs (by decide) (by unfold fvA; rw [rn_5_10 k hk hs]) rfl inX5 (by decide) (sh_5 k hk hs) wf_X5_84 hdg kk
theorem gp_X5_84 {b : ByteArray} {nL : Nat} {ret : Option FieldType} {E : GE} {pc : Nat} {L : List (Nat × Value)} {rest : List Value} {M : Mem} {k : Nat} {v : Int32} (hk : k < 42) (hs : shK k = 5) (hn : narrow .boolean (.int v) = .int v) (hf : fits .boolean (.int v) = true) (hdg : decode b pc = .ok (.putfield 84, 3)) (kk : G RX5 b nL ret E (pc + 3) L rest (mset M k 10 v)) : G RX5 b nL ret E pc L (.int v :: .ref k :: rest) M := g_put (j := 10) (T := TX5) (ty := .boolean) tyX5 hk hs (by decide) (rn_5_10 k hk hs) rfl inX5 tyX5_ok nmX5 rfl (by decide +kernel) hn hf (by decide) (sh_5 k hk hs) wf_X5_84 hdg kk
theorem wf_X5_29 : Cond.fieldLink RX5 29 (TX5 11).1 (TX5 11).2.1 (TX5 11).2.2.1 ∈ tb := tb_w 476 (by decide +kernel) rfl
theorem gf_X5_29 {b : ByteArray} {nL : Nat} {ret : Option FieldType} {E : GE} {pc : Nat} {L : List (Nat × Value)} {rest : List Value} {M : Mem} {k r : Nat} (hk : k < 42) (hs : shK k = 5) (hr : rf k 11 = some r) (hdg : decode b pc = .ok (.getfield 29, 3)) (kk : G RX5 b nL ret E (pc + 3) L (.ref r :: rest) M) : G RX5 b nL ret E pc L (.ref k :: rest) M := g_get (j := 11) (T := TX5) (v := .ref r) hk hs (by decide) (by unfold fvA; rw [hr]) rfl inX5 (by decide) (sh_5 k hk hs) wf_X5_29 hdg kk
theorem wf_X5_32 : Cond.fieldLink RX5 32 (TX5 12).1 (TX5 12).2.1 (TX5 12).2.2.1 ∈ tb := tb_w 477 (by decide +kernel) rfl
theorem gf_X5_32 {b : ByteArray} {nL : Nat} {ret : Option FieldType} {E : GE} {pc : Nat} {L : List (Nat × Value)} {rest : List Value} {M : Mem} {k r : Nat} (hk : k < 42) (hs : shK k = 5) (hr : rf k 12 = some r) (hdg : decode b pc = .ok (.getfield 32, 3)) (kk : G RX5 b nL ret E (pc + 3) L (.ref r :: rest) M) : G RX5 b nL ret E pc L (.ref k :: rest) M := g_get (j := 12) (T := TX5) (v := .ref r) hk hs (by decide) (by unfold fvA; rw [hr]) rfl inX5 (by decide) (sh_5 k hk hs) wf_X5_32 hdg kk
theorem wf_X5_144 : Cond.fieldLink RX5 144 (TX5 13).1 (TX5 13).2.1 (TX5 13).2.2.1 ∈ tb := tb_w 478 (by decide +kernel) rfl
theorem rn_5_13 : ∀ k, k < 42 → shK k = 5 → rf k 13 = none := by decide +kernel
theorem gf_X5_144 {b : ByteArray} {nL : Nat} {ret : Option FieldType} {E : GE} {pc : Nat} {L : List (Nat × Value)} {rest : List Value} {M : Mem} {k : Nat} (hk : k < 42) (hs : shK k = 5) (hdg : decode b pc = .ok (.getfield 144, 3)) (kk : G RX5 b nL ret E (pc + 3) L (.int (M k 13) :: rest) M) : G RX5 b nL ret E pc L (.ref k :: rest) M := g_get (j := 13) (T := TX5) (v := .int (M k 13)) hk hs (by decide) (by unfold fvA; rw [rn_5_13 k hk hs]) rfl inX5 (by decide) (sh_5 k hk hs) wf_X5_144 hdg kk
theorem gp_X5_144 {b : ByteArray} {nL : Nat} {ret : Option FieldType} {E : GE} {pc : Nat} {L : List (Nat × Value)} {rest : List Value} {M : Mem} {k : Nat} {v : Int32} (hk : k < 42) (hs : shK k = 5) (hdg : decode b pc = .ok (.putfield 144, 3)) (kk : G RX5 b nL ret E (pc + 3) L rest (mset M k 13 v)) : G RX5 b nL ret E pc L (.int v :: .ref k :: rest) M := g_put (j := 13) (T := TX5) (ty := .int) tyX5 hk hs (by decide) (rn_5_13 k hk hs) rfl inX5 tyX5_ok nmX5 rfl (by decide +kernel) rfl rfl (by decide) (sh_5 k hk hs) wf_X5_144 hdg kk
theorem wf_X5_147 : Cond.fieldLink RX5 147 (TX5 14).1 (TX5 14).2.1 (TX5 14).2.2.1 ∈ tb := tb_w 479 (by decide +kernel) rfl
theorem rn_5_14 : ∀ k, k < 42 → shK k = 5 → rf k 14 = none := by decide +kernel
theorem gf_X5_147 {b : ByteArray} {nL : Nat} {ret : Option FieldType} {E : GE} {pc : Nat} {L : List (Nat × Value)} {rest : List Value} {M : Mem} {k : Nat} (hk : k < 42) (hs : shK k = 5) (hdg : decode b pc = .ok (.getfield 147, 3)) (kk : G RX5 b nL ret E (pc + 3) L (.int (M k 14) :: rest) M) : G RX5 b nL ret E pc L (.ref k :: rest) M := g_get (j := 14) (T := TX5) (v := .int (M k 14)) hk hs (by decide) (by unfold fvA; rw [rn_5_14 k hk hs]) rfl inX5 (by decide) (sh_5 k hk hs) wf_X5_147 hdg kk
theorem gp_X5_147 {b : ByteArray} {nL : Nat} {ret : Option FieldType} {E : GE} {pc : Nat} {L : List (Nat × Value)} {rest : List Value} {M : Mem} {k : Nat} {v : Int32} (hk : k < 42) (hs : shK k = 5) (hdg : decode b pc = .ok (.putfield 147, 3)) (kk : G RX5 b nL ret E (pc + 3) L rest (mset M k 14 v)) : G RX5 b nL ret E pc L (.int v :: .ref k :: rest) M := g_put (j := 14) (T := TX5) (ty := .int) tyX5 hk hs (by decide) (rn_5_14 k hk hs) rfl inX5 tyX5_ok nmX5 rfl (by decide +kernel) rfl rfl (by decide) (sh_5 k hk hs) wf_X5_147 hdg kk
theorem wf_X5_115 : Cond.fieldLink RX5 115 (TX5 15).1 (TX5 15).2.1 (TX5 15).2.2.1 ∈ tb := tb_w 480 (by decide +kernel) rfl
theorem rn_5_15 : ∀ k, k < 42 → shK k = 5 → rf k 15 = none := by decide +kernel
theorem gf_X5_115 {b : ByteArray} {nL : Nat} {ret : Option FieldType} {E : GE} {pc : Nat} {L : List (Nat × Value)} {rest : List Value} {M : Mem} {k : Nat} (hk : k < 42) (hs : shK k = 5) (hdg : decode b pc = .ok (.getfield 115, 3)) (kk : G RX5 b nL ret E (pc + 3) L (.int (M k 15) :: rest) M) : G RX5 b nL ret E pc L (.ref k :: rest) M := g_get (j := 15) (T := TX5) (v := .int (M k 15)) hk hs (by decide) (by unfold fvA; rw [rn_5_15 k hk hs]) rfl inX5 (by decide) (sh_5 k hk hs) wf_X5_115 hdg kk
theorem gp_X5_115 {b : ByteArray} {nL : Nat} {ret : Option FieldType} {E : GE} {pc : Nat} {L : List (Nat × Value)} {rest : List Value} {M : Mem} {k : Nat} {v : Int32} (hk : k < 42) (hs : shK k = 5) (hdg : decode b pc = .ok (.putfield 115, 3)) (kk : G RX5 b nL ret E (pc + 3) L rest (mset M k 15 v)) : G RX5 b nL ret E pc L (.int v :: .ref k :: rest) M := g_put (j := 15) (T := TX5) (ty := .int) tyX5 hk hs (by decide) (rn_5_15 k hk hs) rfl inX5 tyX5_ok nmX5 rfl (by decide +kernel) rfl rfl (by decide) (sh_5 k hk hs) wf_X5_115 hdg kk
theorem wf_X5_131 : Cond.fieldLink RX5 131 (TX5 16).1 (TX5 16).2.1 (TX5 16).2.2.1 ∈ tb := tb_w 481 (by decide +kernel) rfl
theorem rn_5_16 : ∀ k, k < 42 → shK k = 5 → rf k 16 = none := by decide +kernel
theorem gf_X5_131 {b : ByteArray} {nL : Nat} {ret : Option FieldType} {E : GE} {pc : Nat} {L : List (Nat × Value)} {rest : List Value} {M : Mem} {k : Nat} (hk : k < 42) (hs : shK k = 5) (hdg : decode b pc = .ok (.getfield 131, 3)) (kk : G RX5 b nL ret E (pc + 3) L (.int (M k 16) :: rest) M) : G RX5 b nL ret E pc L (.ref k :: rest) M := g_get (j := 16) (T := TX5) (v := .int (M k 16)) hk hs (by decide) (by unfold fvA; rw [rn_5_16 k hk hs]) rfl inX5 (by decide) (sh_5 k hk hs) wf_X5_131 hdg kk
theorem gp_X5_131 {b : ByteArray} {nL : Nat} {ret : Option FieldType} {E : GE} {pc : Nat} {L : List (Nat × Value)} {rest : List Value} {M : Mem} {k : Nat} {v : Int32} (hk : k < 42) (hs : shK k = 5) (hdg : decode b pc = .ok (.putfield 131, 3)) (kk : G RX5 b nL ret E (pc + 3) L rest (mset M k 16 v)) : G RX5 b nL ret E pc L (.int v :: .ref k :: rest) M := g_put (j := 16) (T := TX5) (ty := .int) tyX5 hk hs (by decide) (rn_5_16 k hk hs) rfl inX5 tyX5_ok nmX5 rfl (by decide +kernel) rfl rfl (by decide) (sh_5 k hk hs) wf_X5_131 hdg kk
theorem wf_X5_36 : Cond.fieldLink RX5 36 (TX5 17).1 (TX5 17).2.1 (TX5 17).2.2.1 ∈ tb := tb_w 482 (by decide +kernel) rfl
theorem gf_X5_36 {b : ByteArray} {nL : Nat} {ret : Option FieldType} {E : GE} {pc : Nat} {L : List (Nat × Value)} {rest : List Value} {M : Mem} {k r : Nat} (hk : k < 42) (hs : shK k = 5) (hr : rf k 17 = some r) (hdg : decode b pc = .ok (.getfield 36, 3)) (kk : G RX5 b nL ret E (pc + 3) L (.ref r :: rest) M) : G RX5 b nL ret E pc L (.ref k :: rest) M := g_get (j := 17) (T := TX5) (v := .ref r) hk hs (by decide) (by unfold fvA; rw [hr]) rfl inX5 (by decide) (sh_5 k hk hs) wf_X5_36 hdg kk
theorem wf_X5_39 : Cond.fieldLink RX5 39 (TX5 18).1 (TX5 18).2.1 (TX5 18).2.2.1 ∈ tb := tb_w 483 (by decide +kernel) rfl
theorem gf_X5_39 {b : ByteArray} {nL : Nat} {ret : Option FieldType} {E : GE} {pc : Nat} {L : List (Nat × Value)} {rest : List Value} {M : Mem} {k r : Nat} (hk : k < 42) (hs : shK k = 5) (hr : rf k 18 = some r) (hdg : decode b pc = .ok (.getfield 39, 3)) (kk : G RX5 b nL ret E (pc + 3) L (.ref r :: rest) M) : G RX5 b nL ret E pc L (.ref k :: rest) M := g_get (j := 18) (T := TX5) (v := .ref r) hk hs (by decide) (by unfold fvA; rw [hr]) rfl inX5 (by decide) (sh_5 k hk hs) wf_X5_39 hdg kk
theorem wf_X5_42 : Cond.fieldLink RX5 42 (TX5 19).1 (TX5 19).2.1 (TX5 19).2.2.1 ∈ tb := tb_w 484 (by decide +kernel) rfl
theorem gf_X5_42 {b : ByteArray} {nL : Nat} {ret : Option FieldType} {E : GE} {pc : Nat} {L : List (Nat × Value)} {rest : List Value} {M : Mem} {k r : Nat} (hk : k < 42) (hs : shK k = 5) (hr : rf k 19 = some r) (hdg : decode b pc = .ok (.getfield 42, 3)) (kk : G RX5 b nL ret E (pc + 3) L (.ref r :: rest) M) : G RX5 b nL ret E pc L (.ref k :: rest) M := g_get (j := 19) (T := TX5) (v := .ref r) hk hs (by decide) (by unfold fvA; rw [hr]) rfl inX5 (by decide) (sh_5 k hk hs) wf_X5_42 hdg kk
theorem wm_L_17 : Cond.methodLink RL 17 yX5_records ∈ tb := tb_w 527 (by decide +kernel) rfl
theorem gi_L_17 {b : ByteArray} {nL : Nat} {ret : Option FieldType} {E : GE} {pc : Nat} {L : List (Nat × Value)} {st rest : List Value} {M : Mem} {h' : Nat} {avs : List Value} {Q' : Option Value → Mem → Prop} {k : Nat} (hk : k < 42) (hs : shK k = 5) (hE : Ev yX5_records cX5_records 4 (some .int) h' (.ref k :: avs) M Q') (hst : st = (Value.ref k :: avs).reverse ++ rest) (hn : avs.length = 1) (hR : okRoom h' E 4) (hc : (rest.map fun v => v.category).sum ≤ 8) (hdg : decode b pc = .ok (.invokevirtual 17, 3)) (kk : ∀ (r : Option Value) (M' : Mem), Q' r M' → G RL b nL ret E (pc + 3) L (r.toList ++ rest) M') : G RL b nL ret E pc L st M := g_callV (n := 1) (k := k) (ci := 5) (N := 20) (Cn := RX5) (T := TX5) wc_X5_records wm_L_17 wi_X5_records ws_X5_records wn_X5 rfl (by decide +kernel) (by decide) rfl hk hs hE hst hn hR hc hdg kk
theorem gl_X5_88 : Cond.constantLong RX5 88 (3) ∈ tb := tb_w 531 (by decide +kernel) rfl
theorem wm_X5_53 : Cond.methodLink RX5 53 yX5_in ∈ tb := tb_w 532 (by decide +kernel) rfl
theorem gi_X5_53 {b : ByteArray} {nL : Nat} {ret : Option FieldType} {E : GE} {pc : Nat} {L : List (Nat × Value)} {st rest : List Value} {M : Mem} {h' : Nat} {avs : List Value} {Q' : Option Value → Mem → Prop} (hE : Ev yX5_in cX5_in 6 (some .boolean) h' avs M Q') (hst : st = avs.reverse ++ rest) (hn : avs.length = 3) (hR : okRoom h' E 6) (hc : (rest.map fun v => v.category).sum ≤ 8) (hdg : decode b pc = .ok (.invokestatic 53, 3)) (kk : ∀ (r : Option Value) (M' : Mem), Q' r M' → G RX5 b nL ret E (pc + 3) L (r.toList ++ rest) M') : G RX5 b nL ret E pc L st M := g_callS (n := 3) wc_X5_in wm_X5_53 wt_X5_in wn_X5 (by decide +kernel) hE hst hn hR hc hdg kk
theorem wm_X5_57 : Cond.methodLink RX5 57 yX5_size ∈ tb := tb_w 535 (by decide +kernel) rfl
theorem gi_X5_57 {b : ByteArray} {nL : Nat} {ret : Option FieldType} {E : GE} {pc : Nat} {L : List (Nat × Value)} {st rest : List Value} {M : Mem} {h' : Nat} {avs : List Value} {Q' : Option Value → Mem → Prop} {k : Nat} (hk : k < 42) (hs : shK k = 5) (hE : Ev yX5_size cX5_size 1 (some .int) h' (.ref k :: avs) M Q') (hst : st = (Value.ref k :: avs).reverse ++ rest) (hn : avs.length = 0) (hR : okRoom h' E 1) (hc : (rest.map fun v => v.category).sum ≤ 8) (hdg : decode b pc = .ok (.invokevirtual 57, 3)) (kk : ∀ (r : Option Value) (M' : Mem), Q' r M' → G RX5 b nL ret E (pc + 3) L (r.toList ++ rest) M') : G RX5 b nL ret E pc L st M := g_callV (n := 0) (k := k) (ci := 5) (N := 20) (Cn := RX5) (T := TX5) wc_X5_size wm_X5_57 wi_X5_size ws_X5_size wn_X5 rfl (by decide +kernel) (by decide) rfl hk hs hE hst hn hR hc hdg kk
theorem wm_L_22 : Cond.methodLink RL 22 yX5_put ∈ tb := tb_w 539 (by decide +kernel) rfl
theorem gi_L_22 {b : ByteArray} {nL : Nat} {ret : Option FieldType} {E : GE} {pc : Nat} {L : List (Nat × Value)} {st rest : List Value} {M : Mem} {h' : Nat} {avs : List Value} {Q' : Option Value → Mem → Prop} {k : Nat} (hk : k < 42) (hs : shK k = 5) (hE : Ev yX5_put cX5_put 4 (some .int) h' (.ref k :: avs) M Q') (hst : st = (Value.ref k :: avs).reverse ++ rest) (hn : avs.length = 2) (hR : okRoom h' E 4) (hc : (rest.map fun v => v.category).sum ≤ 8) (hdg : decode b pc = .ok (.invokevirtual 22, 3)) (kk : ∀ (r : Option Value) (M' : Mem), Q' r M' → G RL b nL ret E (pc + 3) L (r.toList ++ rest) M') : G RL b nL ret E pc L st M := g_callV (n := 2) (k := k) (ci := 5) (N := 20) (Cn := RX5) (T := TX5) wc_X5_put wm_L_22 wi_X5_put ws_X5_put wn_X5 rfl (by decide +kernel) (by decide) rfl hk hs hE hst hn hR hc hdg kk
theorem wm_X5_93 : Cond.methodLink RX5 93 yX5_isRecord ∈ tb := tb_w 543 (by decide +kernel) rfl
theorem gi_X5_93 {b : ByteArray} {nL : Nat} {ret : Option FieldType} {E : GE} {pc : Nat} {L : List (Nat × Value)} {st rest : List Value} {M : Mem} {h' : Nat} {avs : List Value} {Q' : Option Value → Mem → Prop} {k : Nat} (hk : k < 42) (hs : shK k = 5) (hE : Ev yX5_isRecord cX5_isRecord 2 (some .boolean) h' (.ref k :: avs) M Q') (hst : st = (Value.ref k :: avs).reverse ++ rest) (hn : avs.length = 1) (hR : okRoom h' E 2) (hc : (rest.map fun v => v.category).sum ≤ 8) (hdg : decode b pc = .ok (.invokevirtual 93, 3)) (kk : ∀ (r : Option Value) (M' : Mem), Q' r M' → G RX5 b nL ret E (pc + 3) L (r.toList ++ rest) M') : G RX5 b nL ret E pc L st M := g_callV (n := 1) (k := k) (ci := 5) (N := 20) (Cn := RX5) (T := TX5) wc_X5_isRecord wm_X5_93 wi_X5_isRecord ws_X5_isRecord wn_X5 rfl (by decide +kernel) (by decide) rfl hk hs hE hst hn hR hc hdg kk
theorem wm_X5_97 : Cond.methodLink RX5 97 yX5_isNumber ∈ tb := tb_w 547 (by decide +kernel) rfl
theorem gi_X5_97 {b : ByteArray} {nL : Nat} {ret : Option FieldType} {E : GE} {pc : Nat} {L : List (Nat × Value)} {st rest : List Value} {M : Mem} {h' : Nat} {avs : List Value} {Q' : Option Value → Mem → Prop} (hE : Ev yX5_isNumber cX5_isNumber 1 (some .boolean) h' avs M Q') (hst : st = avs.reverse ++ rest) (hn : avs.length = 1) (hR : okRoom h' E 1) (hc : (rest.map fun v => v.category).sum ≤ 8) (hdg : decode b pc = .ok (.invokestatic 97, 3)) (kk : ∀ (r : Option Value) (M' : Mem), Q' r M' → G RX5 b nL ret E (pc + 3) L (r.toList ++ rest) M') : G RX5 b nL ret E pc L st M := g_callS (n := 1) wc_X5_isNumber wm_X5_97 wt_X5_isNumber wn_X5 (by decide +kernel) hE hst hn hR hc hdg kk
theorem gl_X5_61 : Cond.constantLong RX5 61 (96) ∈ tb := tb_w 550 (by decide +kernel) rfl
theorem wm_L_26 : Cond.methodLink RL 26 yX5_record ∈ tb := tb_w 551 (by decide +kernel) rfl
theorem gi_L_26 {b : ByteArray} {nL : Nat} {ret : Option FieldType} {E : GE} {pc : Nat} {L : List (Nat × Value)} {st rest : List Value} {M : Mem} {h' : Nat} {avs : List Value} {Q' : Option Value → Mem → Prop} {k : Nat} (hk : k < 42) (hs : shK k = 5) (hE : Ev yX5_record cX5_record 2 (some .int) h' (.ref k :: avs) M Q') (hst : st = (Value.ref k :: avs).reverse ++ rest) (hn : avs.length = 1) (hR : okRoom h' E 2) (hc : (rest.map fun v => v.category).sum ≤ 8) (hdg : decode b pc = .ok (.invokevirtual 26, 3)) (kk : ∀ (r : Option Value) (M' : Mem), Q' r M' → G RL b nL ret E (pc + 3) L (r.toList ++ rest) M') : G RL b nL ret E pc L st M := g_callV (n := 1) (k := k) (ci := 5) (N := 20) (Cn := RX5) (T := TX5) wc_X5_record wm_L_26 wi_X5_record ws_X5_record wn_X5 rfl (by decide +kernel) (by decide) rfl hk hs hE hst hn hR hc hdg kk
theorem wm_L_31 : Cond.methodLink RL 31 yX5_store ∈ tb := tb_w 555 (by decide +kernel) rfl
theorem gi_L_31 {b : ByteArray} {nL : Nat} {ret : Option FieldType} {E : GE} {pc : Nat} {L : List (Nat × Value)} {st rest : List Value} {M : Mem} {h' : Nat} {avs : List Value} {Q' : Option Value → Mem → Prop} {k : Nat} (hk : k < 42) (hs : shK k = 5) (hE : Ev yX5_store cX5_store 6 (some .int) h' (.ref k :: avs) M Q') (hst : st = (Value.ref k :: avs).reverse ++ rest) (hn : avs.length = 3) (hR : okRoom h' E 6) (hc : (rest.map fun v => v.category).sum ≤ 8) (hdg : decode b pc = .ok (.invokevirtual 31, 3)) (kk : ∀ (r : Option Value) (M' : Mem), Q' r M' → G RL b nL ret E (pc + 3) L (r.toList ++ rest) M') : G RL b nL ret E pc L st M := g_callV (n := 3) (k := k) (ci := 5) (N := 20) (Cn := RX5) (T := TX5) wc_X5_store wm_L_31 wi_X5_store ws_X5_store wn_X5 rfl (by decide +kernel) (by decide) rfl hk hs hE hst hn hR hc hdg kk
theorem wm_X5_100 : Cond.methodLink RX5 100 yX5_isStore ∈ tb := tb_w 559 (by decide +kernel) rfl
theorem gi_X5_100 {b : ByteArray} {nL : Nat} {ret : Option FieldType} {E : GE} {pc : Nat} {L : List (Nat × Value)} {st rest : List Value} {M : Mem} {h' : Nat} {avs : List Value} {Q' : Option Value → Mem → Prop} (hE : Ev yX5_isStore cX5_isStore 1 (some .boolean) h' avs M Q') (hst : st = avs.reverse ++ rest) (hn : avs.length = 1) (hR : okRoom h' E 1) (hc : (rest.map fun v => v.category).sum ≤ 8) (hdg : decode b pc = .ok (.invokestatic 100, 3)) (kk : ∀ (r : Option Value) (M' : Mem), Q' r M' → G RX5 b nL ret E (pc + 3) L (r.toList ++ rest) M') : G RX5 b nL ret E pc L st M := g_callS (n := 1) wc_X5_isStore wm_X5_100 wt_X5_isStore wn_X5 (by decide +kernel) hE hst hn hR hc hdg kk
theorem gl_X5_51 : Cond.constantLong RX5 51 (9) ∈ tb := tb_w 562 (by decide +kernel) rfl
theorem wm_L_35 : Cond.methodLink RL 35 yX5_taken ∈ tb := tb_w 563 (by decide +kernel) rfl
theorem gi_L_35 {b : ByteArray} {nL : Nat} {ret : Option FieldType} {E : GE} {pc : Nat} {L : List (Nat × Value)} {st rest : List Value} {M : Mem} {h' : Nat} {avs : List Value} {Q' : Option Value → Mem → Prop} {k : Nat} (hk : k < 42) (hs : shK k = 5) (hE : Ev yX5_taken cX5_taken 4 (some .int) h' (.ref k :: avs) M Q') (hst : st = (Value.ref k :: avs).reverse ++ rest) (hn : avs.length = 3) (hR : okRoom h' E 4) (hc : (rest.map fun v => v.category).sum ≤ 8) (hdg : decode b pc = .ok (.invokevirtual 35, 3)) (kk : ∀ (r : Option Value) (M' : Mem), Q' r M' → G RL b nL ret E (pc + 3) L (r.toList ++ rest) M') : G RL b nL ret E pc L st M := g_callV (n := 3) (k := k) (ci := 5) (N := 20) (Cn := RX5) (T := TX5) wc_X5_taken wm_L_35 wi_X5_taken ws_X5_taken wn_X5 rfl (by decide +kernel) (by decide) rfl hk hs hE hst hn hR hc hdg kk
theorem gl_X5_103 : Cond.constantLong RX5 103 (2) ∈ tb := tb_w 567 (by decide +kernel) rfl
theorem wm_X5_63 : Cond.methodLink RX5 63 yX5_copyOf ∈ tb := tb_w 568 (by decide +kernel) rfl
theorem gi_X5_63 {b : ByteArray} {nL : Nat} {ret : Option FieldType} {E : GE} {pc : Nat} {L : List (Nat × Value)} {st rest : List Value} {M : Mem} {h' : Nat} {avs : List Value} {Q' : Option Value → Mem → Prop} {k : Nat} (hk : k < 42) (hs : shK k = 5) (hE : Ev yX5_copyOf cX5_copyOf 3 (some .int) h' (.ref k :: avs) M Q') (hst : st = (Value.ref k :: avs).reverse ++ rest) (hn : avs.length = 2) (hR : okRoom h' E 3) (hc : (rest.map fun v => v.category).sum ≤ 8) (hdg : decode b pc = .ok (.invokevirtual 63, 3)) (kk : ∀ (r : Option Value) (M' : Mem), Q' r M' → G RX5 b nL ret E (pc + 3) L (r.toList ++ rest) M') : G RX5 b nL ret E pc L st M := g_callV (n := 2) (k := k) (ci := 5) (N := 20) (Cn := RX5) (T := TX5) wc_X5_copyOf wm_X5_63 wi_X5_copyOf ws_X5_copyOf wn_X5 rfl (by decide +kernel) (by decide) rfl hk hs hE hst hn hR hc hdg kk
theorem wm_L_39 : Cond.methodLink RL 39 yX5_copy ∈ tb := tb_w 572 (by decide +kernel) rfl
theorem gi_L_39 {b : ByteArray} {nL : Nat} {ret : Option FieldType} {E : GE} {pc : Nat} {L : List (Nat × Value)} {st rest : List Value} {M : Mem} {h' : Nat} {avs : List Value} {Q' : Option Value → Mem → Prop} {k : Nat} (hk : k < 42) (hs : shK k = 5) (hE : Ev yX5_copy cX5_copy 3 (some .int) h' (.ref k :: avs) M Q') (hst : st = (Value.ref k :: avs).reverse ++ rest) (hn : avs.length = 2) (hR : okRoom h' E 3) (hc : (rest.map fun v => v.category).sum ≤ 8) (hdg : decode b pc = .ok (.invokevirtual 39, 3)) (kk : ∀ (r : Option Value) (M' : Mem), Q' r M' → G RL b nL ret E (pc + 3) L (r.toList ++ rest) M') : G RL b nL ret E pc L st M := g_callV (n := 2) (k := k) (ci := 5) (N := 20) (Cn := RX5) (T := TX5) wc_X5_copy wm_L_39 wi_X5_copy ws_X5_copy wn_X5 rfl (by decide +kernel) (by decide) rfl hk hs hE hst hn hR hc hdg kk
theorem wm_L_43 : Cond.methodLink RL 43 yX5_sum ∈ tb := tb_w 576 (by decide +kernel) rfl
theorem gi_L_43 {b : ByteArray} {nL : Nat} {ret : Option FieldType} {E : GE} {pc : Nat} {L : List (Nat × Value)} {st rest : List Value} {M : Mem} {h' : Nat} {avs : List Value} {Q' : Option Value → Mem → Prop} {k : Nat} (hk : k < 42) (hs : shK k = 5) (hE : Ev yX5_sum cX5_sum 4 (some .int) h' (.ref k :: avs) M Q') (hst : st = (Value.ref k :: avs).reverse ++ rest) (hn : avs.length = 3) (hR : okRoom h' E 4) (hc : (rest.map fun v => v.category).sum ≤ 8) (hdg : decode b pc = .ok (.invokevirtual 43, 3)) (kk : ∀ (r : Option Value) (M' : Mem), Q' r M' → G RL b nL ret E (pc + 3) L (r.toList ++ rest) M') : G RL b nL ret E pc L st M := g_callV (n := 3) (k := k) (ci := 5) (N := 20) (Cn := RX5) (T := TX5) wc_X5_sum wm_L_43 wi_X5_sum ws_X5_sum wn_X5 rfl (by decide +kernel) (by decide) rfl hk hs hE hst hn hR hc hdg kk
theorem wm_X5_77 : Cond.methodLink RX5 77 yX5_sumOf ∈ tb := tb_w 580 (by decide +kernel) rfl
theorem gi_X5_77 {b : ByteArray} {nL : Nat} {ret : Option FieldType} {E : GE} {pc : Nat} {L : List (Nat × Value)} {st rest : List Value} {M : Mem} {h' : Nat} {avs : List Value} {Q' : Option Value → Mem → Prop} {k : Nat} (hk : k < 42) (hs : shK k = 5) (hE : Ev yX5_sumOf cX5_sumOf 10 (some .int) h' (.ref k :: avs) M Q') (hst : st = (Value.ref k :: avs).reverse ++ rest) (hn : avs.length = 4) (hR : okRoom h' E 10) (hc : (rest.map fun v => v.category).sum ≤ 8) (hdg : decode b pc = .ok (.invokevirtual 77, 3)) (kk : ∀ (r : Option Value) (M' : Mem), Q' r M' → G RX5 b nL ret E (pc + 3) L (r.toList ++ rest) M') : G RX5 b nL ret E pc L st M := g_callV (n := 4) (k := k) (ci := 5) (N := 20) (Cn := RX5) (T := TX5) wc_X5_sumOf wm_X5_77 wi_X5_sumOf ws_X5_sumOf wn_X5 rfl (by decide +kernel) (by decide) rfl hk hs hE hst hn hR hc hdg kk
theorem wm_X5_67 : Cond.methodLink RX5 67 yX5_mod ∈ tb := tb_w 584 (by decide +kernel) rfl
theorem gi_X5_67 {b : ByteArray} {nL : Nat} {ret : Option FieldType} {E : GE} {pc : Nat} {L : List (Nat × Value)} {st rest : List Value} {M : Mem} {h' : Nat} {avs : List Value} {Q' : Option Value → Mem → Prop} (hE : Ev yX5_mod cX5_mod 2 (some .int) h' avs M Q') (hst : st = avs.reverse ++ rest) (hn : avs.length = 1) (hR : okRoom h' E 2) (hc : (rest.map fun v => v.category).sum ≤ 8) (hdg : decode b pc = .ok (.invokestatic 67, 3)) (kk : ∀ (r : Option Value) (M' : Mem), Q' r M' → G RX5 b nL ret E (pc + 3) L (r.toList ++ rest) M') : G RX5 b nL ret E pc L st M := g_callS (n := 1) wc_X5_mod wm_X5_67 wt_X5_mod wn_X5 (by decide +kernel) hE hst hn hR hc hdg kk
theorem wm_L_47 : Cond.methodLink RL 47 yX5_ask ∈ tb := tb_w 587 (by decide +kernel) rfl
theorem gi_L_47 {b : ByteArray} {nL : Nat} {ret : Option FieldType} {E : GE} {pc : Nat} {L : List (Nat × Value)} {st rest : List Value} {M : Mem} {h' : Nat} {avs : List Value} {Q' : Option Value → Mem → Prop} {k : Nat} (hk : k < 42) (hs : shK k = 5) (hE : Ev yX5_ask cX5_ask 8 (some .int) h' (.ref k :: avs) M Q') (hst : st = (Value.ref k :: avs).reverse ++ rest) (hn : avs.length = 3) (hR : okRoom h' E 8) (hc : (rest.map fun v => v.category).sum ≤ 8) (hdg : decode b pc = .ok (.invokevirtual 47, 3)) (kk : ∀ (r : Option Value) (M' : Mem), Q' r M' → G RL b nL ret E (pc + 3) L (r.toList ++ rest) M') : G RL b nL ret E pc L st M := g_callV (n := 3) (k := k) (ci := 5) (N := 20) (Cn := RX5) (T := TX5) wc_X5_ask wm_L_47 wi_X5_ask ws_X5_ask wn_X5 rfl (by decide +kernel) (by decide) rfl hk hs hE hst hn hR hc hdg kk
theorem wm_X5_118 : Cond.methodLink RX5 118 yX5_next ∈ tb := tb_w 591 (by decide +kernel) rfl
theorem gi_X5_118 {b : ByteArray} {nL : Nat} {ret : Option FieldType} {E : GE} {pc : Nat} {L : List (Nat × Value)} {st rest : List Value} {M : Mem} {h' : Nat} {avs : List Value} {Q' : Option Value → Mem → Prop} (hE : Ev yX5_next cX5_next 2 (some .long) h' avs M Q') (hst : st = avs.reverse ++ rest) (hn : avs.length = 1) (hR : okRoom h' E 2) (hc : (rest.map fun v => v.category).sum ≤ 8) (hdg : decode b pc = .ok (.invokestatic 118, 3)) (kk : ∀ (r : Option Value) (M' : Mem), Q' r M' → G RX5 b nL ret E (pc + 3) L (r.toList ++ rest) M') : G RX5 b nL ret E pc L st M := g_callS (n := 1) wc_X5_next wm_X5_118 wt_X5_next wn_X5 (by decide +kernel) hE hst hn hR hc hdg kk
theorem gl_X5_105 : Cond.constantLong RX5 105 (1103515245) ∈ tb := tb_w 594 (by decide +kernel) rfl
theorem gl_X5_107 : Cond.constantLong RX5 107 (12345) ∈ tb := tb_w 595 (by decide +kernel) rfl
theorem gl_X5_109 : Cond.constantLong RX5 109 (2147483648) ∈ tb := tb_w 596 (by decide +kernel) rfl
theorem wm_X5_122 : Cond.methodLink RX5 122 yX5_lotOf ∈ tb := tb_w 597 (by decide +kernel) rfl
theorem gi_X5_122 {b : ByteArray} {nL : Nat} {ret : Option FieldType} {E : GE} {pc : Nat} {L : List (Nat × Value)} {st rest : List Value} {M : Mem} {h' : Nat} {avs : List Value} {Q' : Option Value → Mem → Prop} (hE : Ev yX5_lotOf cX5_lotOf 2 (some .int) h' avs M Q') (hst : st = avs.reverse ++ rest) (hn : avs.length = 1) (hR : okRoom h' E 2) (hc : (rest.map fun v => v.category).sum ≤ 8) (hdg : decode b pc = .ok (.invokestatic 122, 3)) (kk : ∀ (r : Option Value) (M' : Mem), Q' r M' → G RX5 b nL ret E (pc + 3) L (r.toList ++ rest) M') : G RX5 b nL ret E pc L st M := g_callS (n := 1) wc_X5_lotOf wm_X5_122 wt_X5_lotOf wn_X5 (by decide +kernel) hE hst hn hR hc hdg kk
theorem gl_X5_111 : Cond.constantLong RX5 111 (256) ∈ tb := tb_w 600 (by decide +kernel) rfl
theorem gl_X5_113 : Cond.constantLong RX5 113 (97) ∈ tb := tb_w 601 (by decide +kernel) rfl
theorem wm_X5_81 : Cond.methodLink RX5 81 yX5_degree ∈ tb := tb_w 602 (by decide +kernel) rfl
theorem gi_X5_81 {b : ByteArray} {nL : Nat} {ret : Option FieldType} {E : GE} {pc : Nat} {L : List (Nat × Value)} {st rest : List Value} {M : Mem} {h' : Nat} {avs : List Value} {Q' : Option Value → Mem → Prop} {k : Nat} (hk : k < 42) (hs : shK k = 5) (hE : Ev yX5_degree cX5_degree 1 (some .int) h' (.ref k :: avs) M Q') (hst : st = (Value.ref k :: avs).reverse ++ rest) (hn : avs.length = 0) (hR : okRoom h' E 1) (hc : (rest.map fun v => v.category).sum ≤ 8) (hdg : decode b pc = .ok (.invokevirtual 81, 3)) (kk : ∀ (r : Option Value) (M' : Mem), Q' r M' → G RX5 b nL ret E (pc + 3) L (r.toList ++ rest) M') : G RX5 b nL ret E pc L st M := g_callV (n := 0) (k := k) (ci := 5) (N := 20) (Cn := RX5) (T := TX5) wc_X5_degree wm_X5_81 wi_X5_degree ws_X5_degree wn_X5 rfl (by decide +kernel) (by decide) rfl hk hs hE hst hn hR hc hdg kk
theorem wm_L_51 : Cond.methodLink RL 51 yX5_veil ∈ tb := tb_w 606 (by decide +kernel) rfl
theorem gi_L_51 {b : ByteArray} {nL : Nat} {ret : Option FieldType} {E : GE} {pc : Nat} {L : List (Nat × Value)} {st rest : List Value} {M : Mem} {h' : Nat} {avs : List Value} {Q' : Option Value → Mem → Prop} {k : Nat} (hk : k < 42) (hs : shK k = 5) (hE : Ev yX5_veil cX5_veil 6 (some .int) h' (.ref k :: avs) M Q') (hst : st = (Value.ref k :: avs).reverse ++ rest) (hn : avs.length = 1) (hR : okRoom h' E 6) (hc : (rest.map fun v => v.category).sum ≤ 8) (hdg : decode b pc = .ok (.invokevirtual 51, 3)) (kk : ∀ (r : Option Value) (M' : Mem), Q' r M' → G RL b nL ret E (pc + 3) L (r.toList ++ rest) M') : G RL b nL ret E pc L st M := g_callV (n := 1) (k := k) (ci := 5) (N := 20) (Cn := RX5) (T := TX5) wc_X5_veil wm_L_51 wi_X5_veil ws_X5_veil wn_X5 rfl (by decide +kernel) (by decide) rfl hk hs hE hst hn hR hc hdg kk
theorem wm_L_55 : Cond.methodLink RL 55 yX5_point ∈ tb := tb_w 610 (by decide +kernel) rfl
theorem gi_L_55 {b : ByteArray} {nL : Nat} {ret : Option FieldType} {E : GE} {pc : Nat} {L : List (Nat × Value)} {st rest : List Value} {M : Mem} {h' : Nat} {avs : List Value} {Q' : Option Value → Mem → Prop} {k : Nat} (hk : k < 42) (hs : shK k = 5) (hE : Ev yX5_point cX5_point 3 (some .int) h' (.ref k :: avs) M Q') (hst : st = (Value.ref k :: avs).reverse ++ rest) (hn : avs.length = 2) (hR : okRoom h' E 3) (hc : (rest.map fun v => v.category).sum ≤ 8) (hdg : decode b pc = .ok (.invokevirtual 55, 3)) (kk : ∀ (r : Option Value) (M' : Mem), Q' r M' → G RL b nL ret E (pc + 3) L (r.toList ++ rest) M') : G RL b nL ret E pc L st M := g_callV (n := 2) (k := k) (ci := 5) (N := 20) (Cn := RX5) (T := TX5) wc_X5_point wm_L_55 wi_X5_point ws_X5_point wn_X5 rfl (by decide +kernel) (by decide) rfl hk hs hE hst hn hR hc hdg kk
theorem wm_X5_74 : Cond.methodLink RX5 74 yX5_pointOf ∈ tb := tb_w 614 (by decide +kernel) rfl
theorem gi_X5_74 {b : ByteArray} {nL : Nat} {ret : Option FieldType} {E : GE} {pc : Nat} {L : List (Nat × Value)} {st rest : List Value} {M : Mem} {h' : Nat} {avs : List Value} {Q' : Option Value → Mem → Prop} {k : Nat} (hk : k < 42) (hs : shK k = 5) (hE : Ev yX5_pointOf cX5_pointOf 6 (some .int) h' (.ref k :: avs) M Q') (hst : st = (Value.ref k :: avs).reverse ++ rest) (hn : avs.length = 2) (hR : okRoom h' E 6) (hc : (rest.map fun v => v.category).sum ≤ 8) (hdg : decode b pc = .ok (.invokevirtual 74, 3)) (kk : ∀ (r : Option Value) (M' : Mem), Q' r M' → G RX5 b nL ret E (pc + 3) L (r.toList ++ rest) M') : G RX5 b nL ret E pc L st M := g_callV (n := 2) (k := k) (ci := 5) (N := 20) (Cn := RX5) (T := TX5) wc_X5_pointOf wm_X5_74 wi_X5_pointOf ws_X5_pointOf wn_X5 rfl (by decide +kernel) (by decide) rfl hk hs hE hst hn hR hc hdg kk
theorem wm_L_59 : Cond.methodLink RL 59 yX5_answer ∈ tb := tb_w 618 (by decide +kernel) rfl
theorem gi_L_59 {b : ByteArray} {nL : Nat} {ret : Option FieldType} {E : GE} {pc : Nat} {L : List (Nat × Value)} {st rest : List Value} {M : Mem} {h' : Nat} {avs : List Value} {Q' : Option Value → Mem → Prop} {k : Nat} (hk : k < 42) (hs : shK k = 5) (hE : Ev yX5_answer cX5_answer 2 (some .int) h' (.ref k :: avs) M Q') (hst : st = (Value.ref k :: avs).reverse ++ rest) (hn : avs.length = 1) (hR : okRoom h' E 2) (hc : (rest.map fun v => v.category).sum ≤ 8) (hdg : decode b pc = .ok (.invokevirtual 59, 3)) (kk : ∀ (r : Option Value) (M' : Mem), Q' r M' → G RL b nL ret E (pc + 3) L (r.toList ++ rest) M') : G RL b nL ret E pc L st M := g_callV (n := 1) (k := k) (ci := 5) (N := 20) (Cn := RX5) (T := TX5) wc_X5_answer wm_L_59 wi_X5_answer ws_X5_answer wn_X5 rfl (by decide +kernel) (by decide) rfl hk hs hE hst hn hR hc hdg kk
theorem wm_X5_126 : Cond.methodLink RX5 126 yX5_answerOf ∈ tb := tb_w 622 (by decide +kernel) rfl
theorem gi_X5_126 {b : ByteArray} {nL : Nat} {ret : Option FieldType} {E : GE} {pc : Nat} {L : List (Nat × Value)} {st rest : List Value} {M : Mem} {h' : Nat} {avs : List Value} {Q' : Option Value → Mem → Prop} {k : Nat} (hk : k < 42) (hs : shK k = 5) (hE : Ev yX5_answerOf cX5_answerOf 5 (some .int) h' (.ref k :: avs) M Q') (hst : st = (Value.ref k :: avs).reverse ++ rest) (hn : avs.length = 1) (hR : okRoom h' E 5) (hc : (rest.map fun v => v.category).sum ≤ 8) (hdg : decode b pc = .ok (.invokevirtual 126, 3)) (kk : ∀ (r : Option Value) (M' : Mem), Q' r M' → G RX5 b nL ret E (pc + 3) L (r.toList ++ rest) M') : G RX5 b nL ret E pc L st M := g_callV (n := 1) (k := k) (ci := 5) (N := 20) (Cn := RX5) (T := TX5) wc_X5_answerOf wm_X5_126 wi_X5_answerOf ws_X5_answerOf wn_X5 rfl (by decide +kernel) (by decide) rfl hk hs hE hst hn hR hc hdg kk
theorem wm_L_63 : Cond.methodLink RL 63 yX5_needed ∈ tb := tb_w 626 (by decide +kernel) rfl
theorem gi_L_63 {b : ByteArray} {nL : Nat} {ret : Option FieldType} {E : GE} {pc : Nat} {L : List (Nat × Value)} {st rest : List Value} {M : Mem} {h' : Nat} {avs : List Value} {Q' : Option Value → Mem → Prop} {k : Nat} (hk : k < 42) (hs : shK k = 5) (hE : Ev yX5_needed cX5_needed 4 (some .int) h' (.ref k :: avs) M Q') (hst : st = (Value.ref k :: avs).reverse ++ rest) (hn : avs.length = 3) (hR : okRoom h' E 4) (hc : (rest.map fun v => v.category).sum ≤ 8) (hdg : decode b pc = .ok (.invokevirtual 63, 3)) (kk : ∀ (r : Option Value) (M' : Mem), Q' r M' → G RL b nL ret E (pc + 3) L (r.toList ++ rest) M') : G RL b nL ret E pc L st M := g_callV (n := 3) (k := k) (ci := 5) (N := 20) (Cn := RX5) (T := TX5) wc_X5_needed wm_L_63 wi_X5_needed ws_X5_needed wn_X5 rfl (by decide +kernel) (by decide) rfl hk hs hE hst hn hR hc hdg kk
theorem gl_X5_129 : Cond.constantLong RX5 129 (4) ∈ tb := tb_w 630 (by decide +kernel) rfl
theorem wm_L_67 : Cond.methodLink RL 67 yX5_fetch ∈ tb := tb_w 631 (by decide +kernel) rfl
theorem gi_L_67 {b : ByteArray} {nL : Nat} {ret : Option FieldType} {E : GE} {pc : Nat} {L : List (Nat × Value)} {st rest : List Value} {M : Mem} {h' : Nat} {avs : List Value} {Q' : Option Value → Mem → Prop} {k : Nat} (hk : k < 42) (hs : shK k = 5) (hE : Ev yX5_fetch cX5_fetch 5 (some .int) h' (.ref k :: avs) M Q') (hst : st = (Value.ref k :: avs).reverse ++ rest) (hn : avs.length = 1) (hR : okRoom h' E 5) (hc : (rest.map fun v => v.category).sum ≤ 8) (hdg : decode b pc = .ok (.invokevirtual 67, 3)) (kk : ∀ (r : Option Value) (M' : Mem), Q' r M' → G RL b nL ret E (pc + 3) L (r.toList ++ rest) M') : G RL b nL ret E pc L st M := g_callV (n := 1) (k := k) (ci := 5) (N := 20) (Cn := RX5) (T := TX5) wc_X5_fetch wm_L_67 wi_X5_fetch ws_X5_fetch wn_X5 rfl (by decide +kernel) (by decide) rfl hk hs hE hst hn hR hc hdg kk
theorem wm_X5_140 : Cond.methodLink RX5 140 yX5_hear ∈ tb := tb_w 635 (by decide +kernel) rfl
theorem gi_X5_140 {b : ByteArray} {nL : Nat} {ret : Option FieldType} {E : GE} {pc : Nat} {L : List (Nat × Value)} {st rest : List Value} {M : Mem} {h' : Nat} {avs : List Value} {Q' : Option Value → Mem → Prop} {k : Nat} (hk : k < 42) (hs : shK k = 5) (hE : Ev yX5_hear cX5_hear 3 (none) h' (.ref k :: avs) M Q') (hst : st = (Value.ref k :: avs).reverse ++ rest) (hn : avs.length = 1) (hR : okRoom h' E 3) (hc : (rest.map fun v => v.category).sum ≤ 8) (hdg : decode b pc = .ok (.invokevirtual 140, 3)) (kk : ∀ (r : Option Value) (M' : Mem), Q' r M' → G RX5 b nL ret E (pc + 3) L (r.toList ++ rest) M') : G RX5 b nL ret E pc L st M := g_callV (n := 1) (k := k) (ci := 5) (N := 20) (Cn := RX5) (T := TX5) wc_X5_hear wm_X5_140 wi_X5_hear ws_X5_hear wn_X5 rfl (by decide +kernel) (by decide) rfl hk hs hE hst hn hR hc hdg kk
theorem wm_X5_150 : Cond.methodLink RX5 150 yX5_first ∈ tb := tb_w 639 (by decide +kernel) rfl
theorem gi_X5_150 {b : ByteArray} {nL : Nat} {ret : Option FieldType} {E : GE} {pc : Nat} {L : List (Nat × Value)} {st rest : List Value} {M : Mem} {h' : Nat} {avs : List Value} {Q' : Option Value → Mem → Prop} {k : Nat} (hk : k < 42) (hs : shK k = 5) (hE : Ev yX5_first cX5_first 2 (none) h' (.ref k :: avs) M Q') (hst : st = (Value.ref k :: avs).reverse ++ rest) (hn : avs.length = 0) (hR : okRoom h' E 2) (hc : (rest.map fun v => v.category).sum ≤ 8) (hdg : decode b pc = .ok (.invokevirtual 150, 3)) (kk : ∀ (r : Option Value) (M' : Mem), Q' r M' → G RX5 b nL ret E (pc + 3) L (r.toList ++ rest) M') : G RX5 b nL ret E pc L st M := g_callV (n := 0) (k := k) (ci := 5) (N := 20) (Cn := RX5) (T := TX5) wc_X5_first wm_X5_150 wi_X5_first ws_X5_first wn_X5 rfl (by decide +kernel) (by decide) rfl hk hs hE hst hn hR hc hdg kk
theorem wm_X5_153 : Cond.methodLink RX5 153 yX5_onCurve ∈ tb := tb_w 643 (by decide +kernel) rfl
theorem gi_X5_153 {b : ByteArray} {nL : Nat} {ret : Option FieldType} {E : GE} {pc : Nat} {L : List (Nat × Value)} {st rest : List Value} {M : Mem} {h' : Nat} {avs : List Value} {Q' : Option Value → Mem → Prop} {k : Nat} (hk : k < 42) (hs : shK k = 5) (hE : Ev yX5_onCurve cX5_onCurve 3 (some .int) h' (.ref k :: avs) M Q') (hst : st = (Value.ref k :: avs).reverse ++ rest) (hn : avs.length = 0) (hR : okRoom h' E 3) (hc : (rest.map fun v => v.category).sum ≤ 8) (hdg : decode b pc = .ok (.invokevirtual 153, 3)) (kk : ∀ (r : Option Value) (M' : Mem), Q' r M' → G RX5 b nL ret E (pc + 3) L (r.toList ++ rest) M') : G RX5 b nL ret E pc L st M := g_callV (n := 0) (k := k) (ci := 5) (N := 20) (Cn := RX5) (T := TX5) wc_X5_onCurve wm_X5_153 wi_X5_onCurve ws_X5_onCurve wn_X5 rfl (by decide +kernel) (by decide) rfl hk hs hE hst hn hR hc hdg kk
theorem wm_X5_137 : Cond.methodLink RX5 137 yX5_curveAt ∈ tb := tb_w 647 (by decide +kernel) rfl
theorem gi_X5_137 {b : ByteArray} {nL : Nat} {ret : Option FieldType} {E : GE} {pc : Nat} {L : List (Nat × Value)} {st rest : List Value} {M : Mem} {h' : Nat} {avs : List Value} {Q' : Option Value → Mem → Prop} {k : Nat} (hk : k < 42) (hs : shK k = 5) (hE : Ev yX5_curveAt cX5_curveAt 7 (some .int) h' (.ref k :: avs) M Q') (hst : st = (Value.ref k :: avs).reverse ++ rest) (hn : avs.length = 1) (hR : okRoom h' E 7) (hc : (rest.map fun v => v.category).sum ≤ 8) (hdg : decode b pc = .ok (.invokevirtual 137, 3)) (kk : ∀ (r : Option Value) (M' : Mem), Q' r M' → G RX5 b nL ret E (pc + 3) L (r.toList ++ rest) M') : G RX5 b nL ret E pc L st M := g_callV (n := 1) (k := k) (ci := 5) (N := 20) (Cn := RX5) (T := TX5) wc_X5_curveAt wm_X5_137 wi_X5_curveAt ws_X5_curveAt wn_X5 rfl (by decide +kernel) (by decide) rfl hk hs hE hst hn hR hc hdg kk
theorem wm_X5_134 : Cond.methodLink RX5 134 yX5_inverse ∈ tb := tb_w 651 (by decide +kernel) rfl
theorem gi_X5_134 {b : ByteArray} {nL : Nat} {ret : Option FieldType} {E : GE} {pc : Nat} {L : List (Nat × Value)} {st rest : List Value} {M : Mem} {h' : Nat} {avs : List Value} {Q' : Option Value → Mem → Prop} (hE : Ev yX5_inverse cX5_inverse 2 (some .int) h' avs M Q') (hst : st = avs.reverse ++ rest) (hn : avs.length = 1) (hR : okRoom h' E 2) (hc : (rest.map fun v => v.category).sum ≤ 8) (hdg : decode b pc = .ok (.invokestatic 134, 3)) (kk : ∀ (r : Option Value) (M' : Mem), Q' r M' → G RX5 b nL ret E (pc + 3) L (r.toList ++ rest) M') : G RX5 b nL ret E pc L st M := g_callS (n := 1) wc_X5_inverse wm_X5_134 wt_X5_inverse wn_X5 (by decide +kernel) hE hst hn hR hc hdg kk
theorem wm_X5_156 : Cond.methodLink RX5 156 yX5_choose ∈ tb := tb_w 654 (by decide +kernel) rfl
theorem gi_X5_156 {b : ByteArray} {nL : Nat} {ret : Option FieldType} {E : GE} {pc : Nat} {L : List (Nat × Value)} {st rest : List Value} {M : Mem} {h' : Nat} {avs : List Value} {Q' : Option Value → Mem → Prop} {k : Nat} (hk : k < 42) (hs : shK k = 5) (hE : Ev yX5_choose cX5_choose 4 (some .boolean) h' (.ref k :: avs) M Q') (hst : st = (Value.ref k :: avs).reverse ++ rest) (hn : avs.length = 0) (hR : okRoom h' E 4) (hc : (rest.map fun v => v.category).sum ≤ 8) (hdg : decode b pc = .ok (.invokevirtual 156, 3)) (kk : ∀ (r : Option Value) (M' : Mem), Q' r M' → G RX5 b nL ret E (pc + 3) L (r.toList ++ rest) M') : G RX5 b nL ret E pc L st M := g_callV (n := 0) (k := k) (ci := 5) (N := 20) (Cn := RX5) (T := TX5) wc_X5_choose wm_X5_156 wi_X5_choose ws_X5_choose wn_X5 rfl (by decide +kernel) (by decide) rfl hk hs hE hst hn hR hc hdg kk
theorem wm_L_71 : Cond.methodLink RL 71 yX5_caught ∈ tb := tb_w 658 (by decide +kernel) rfl
theorem gi_L_71 {b : ByteArray} {nL : Nat} {ret : Option FieldType} {E : GE} {pc : Nat} {L : List (Nat × Value)} {st rest : List Value} {M : Mem} {h' : Nat} {avs : List Value} {Q' : Option Value → Mem → Prop} {k : Nat} (hk : k < 42) (hs : shK k = 5) (hE : Ev yX5_caught cX5_caught 2 (some .int) h' (.ref k :: avs) M Q') (hst : st = (Value.ref k :: avs).reverse ++ rest) (hn : avs.length = 1) (hR : okRoom h' E 2) (hc : (rest.map fun v => v.category).sum ≤ 8) (hdg : decode b pc = .ok (.invokevirtual 71, 3)) (kk : ∀ (r : Option Value) (M' : Mem), Q' r M' → G RL b nL ret E (pc + 3) L (r.toList ++ rest) M') : G RL b nL ret E pc L st M := g_callV (n := 1) (k := k) (ci := 5) (N := 20) (Cn := RX5) (T := TX5) wc_X5_caught wm_L_71 wi_X5_caught ws_X5_caught wn_X5 rfl (by decide +kernel) (by decide) rfl hk hs hE hst hn hR hc hdg kk
theorem wm_L_75 : Cond.methodLink RL 75 yX5_mends ∈ tb := tb_w 662 (by decide +kernel) rfl
theorem gi_L_75 {b : ByteArray} {nL : Nat} {ret : Option FieldType} {E : GE} {pc : Nat} {L : List (Nat × Value)} {st rest : List Value} {M : Mem} {h' : Nat} {avs : List Value} {Q' : Option Value → Mem → Prop} {k : Nat} (hk : k < 42) (hs : shK k = 5) (hE : Ev yX5_mends cX5_mends 2 (some .int) h' (.ref k :: avs) M Q') (hst : st = (Value.ref k :: avs).reverse ++ rest) (hn : avs.length = 1) (hR : okRoom h' E 2) (hc : (rest.map fun v => v.category).sum ≤ 8) (hdg : decode b pc = .ok (.invokevirtual 75, 3)) (kk : ∀ (r : Option Value) (M' : Mem), Q' r M' → G RL b nL ret E (pc + 3) L (r.toList ++ rest) M') : G RL b nL ret E pc L st M := g_callV (n := 1) (k := k) (ci := 5) (N := 20) (Cn := RX5) (T := TX5) wc_X5_mends wm_L_75 wi_X5_mends ws_X5_mends wn_X5 rfl (by decide +kernel) (by decide) rfl hk hs hE hst hn hR hc hdg kk
theorem wm_L_80 : Cond.methodLink RL 80 yX5_ways ∈ tb := tb_w 666 (by decide +kernel) rfl
theorem gi_L_80 {b : ByteArray} {nL : Nat} {ret : Option FieldType} {E : GE} {pc : Nat} {L : List (Nat × Value)} {st rest : List Value} {M : Mem} {h' : Nat} {avs : List Value} {Q' : Option Value → Mem → Prop} {k : Nat} (hk : k < 42) (hs : shK k = 5) (hE : Ev yX5_ways cX5_ways 3 (some .long) h' (.ref k :: avs) M Q') (hst : st = (Value.ref k :: avs).reverse ++ rest) (hn : avs.length = 2) (hR : okRoom h' E 3) (hc : (rest.map fun v => v.category).sum ≤ 8) (hdg : decode b pc = .ok (.invokevirtual 80, 3)) (kk : ∀ (r : Option Value) (M' : Mem), Q' r M' → G RL b nL ret E (pc + 3) L (r.toList ++ rest) M') : G RL b nL ret E pc L st M := g_callV (n := 2) (k := k) (ci := 5) (N := 20) (Cn := RX5) (T := TX5) wc_X5_ways wm_L_80 wi_X5_ways ws_X5_ways wn_X5 rfl (by decide +kernel) (by decide) rfl hk hs hE hst hn hR hc hdg kk
theorem gl_X5_166 : Cond.constantLong RX5 166 (-3) ∈ tb := tb_w 670 (by decide +kernel) rfl
theorem wm_X5_168 : Cond.methodLink RX5 168 yX5_isSet ∈ tb := tb_w 671 (by decide +kernel) rfl
theorem gi_X5_168 {b : ByteArray} {nL : Nat} {ret : Option FieldType} {E : GE} {pc : Nat} {L : List (Nat × Value)} {st rest : List Value} {M : Mem} {h' : Nat} {avs : List Value} {Q' : Option Value → Mem → Prop} (hE : Ev yX5_isSet cX5_isSet 1 (some .boolean) h' avs M Q') (hst : st = avs.reverse ++ rest) (hn : avs.length = 1) (hR : okRoom h' E 1) (hc : (rest.map fun v => v.category).sum ≤ 8) (hdg : decode b pc = .ok (.invokestatic 168, 3)) (kk : ∀ (r : Option Value) (M' : Mem), Q' r M' → G RX5 b nL ret E (pc + 3) L (r.toList ++ rest) M') : G RX5 b nL ret E pc L st M := g_callS (n := 1) wc_X5_isSet wm_X5_168 wt_X5_isSet wn_X5 (by decide +kernel) hE hst hn hR hc hdg kk
theorem gl_X5_160 : Cond.constantLong RX5 160 (1022) ∈ tb := tb_w 674 (by decide +kernel) rfl
theorem gl_X5_171 : Cond.constantLong RX5 171 (-2) ∈ tb := tb_w 675 (by decide +kernel) rfl
theorem gl_X5_173 : Cond.constantLong RX5 173 (-1) ∈ tb := tb_w 676 (by decide +kernel) rfl
theorem wm_X5_175 : Cond.methodLink RX5 175 yX5_waysFor ∈ tb := tb_w 677 (by decide +kernel) rfl
theorem gi_X5_175 {b : ByteArray} {nL : Nat} {ret : Option FieldType} {E : GE} {pc : Nat} {L : List (Nat × Value)} {st rest : List Value} {M : Mem} {h' : Nat} {avs : List Value} {Q' : Option Value → Mem → Prop} {k : Nat} (hk : k < 42) (hs : shK k = 5) (hE : Ev yX5_waysFor cX5_waysFor 6 (some .long) h' (.ref k :: avs) M Q') (hst : st = (Value.ref k :: avs).reverse ++ rest) (hn : avs.length = 2) (hR : okRoom h' E 6) (hc : (rest.map fun v => v.category).sum ≤ 8) (hdg : decode b pc = .ok (.invokevirtual 175, 3)) (kk : ∀ (r : Option Value) (M' : Mem), Q' r M' → G RX5 b nL ret E (pc + 3) L (r.toList ++ rest) M') : G RX5 b nL ret E pc L st M := g_callV (n := 2) (k := k) (ci := 5) (N := 20) (Cn := RX5) (T := TX5) wc_X5_waysFor wm_X5_175 wi_X5_waysFor ws_X5_waysFor wn_X5 rfl (by decide +kernel) (by decide) rfl hk hs hE hst hn hR hc hdg kk
theorem wm_X5_162 : Cond.methodLink RX5 162 yX5_waysOf ∈ tb := tb_w 681 (by decide +kernel) rfl
theorem gi_X5_162 {b : ByteArray} {nL : Nat} {ret : Option FieldType} {E : GE} {pc : Nat} {L : List (Nat × Value)} {st rest : List Value} {M : Mem} {h' : Nat} {avs : List Value} {Q' : Option Value → Mem → Prop} {k : Nat} (hk : k < 42) (hs : shK k = 5) (hE : Ev yX5_waysOf cX5_waysOf 9 (some .int) h' (.ref k :: avs) M Q') (hst : st = (Value.ref k :: avs).reverse ++ rest) (hn : avs.length = 3) (hR : okRoom h' E 9) (hc : (rest.map fun v => v.category).sum ≤ 8) (hdg : decode b pc = .ok (.invokevirtual 162, 3)) (kk : ∀ (r : Option Value) (M' : Mem), Q' r M' → G RX5 b nL ret E (pc + 3) L (r.toList ++ rest) M') : G RX5 b nL ret E pc L st M := g_callV (n := 3) (k := k) (ci := 5) (N := 20) (Cn := RX5) (T := TX5) wc_X5_waysOf wm_X5_162 wi_X5_waysOf ws_X5_waysOf wn_X5 rfl (by decide +kernel) (by decide) rfl hk hs hE hst hn hR hc hdg kk
theorem wm_L_84 : Cond.methodLink RL 84 yX5_might ∈ tb := tb_w 685 (by decide +kernel) rfl
theorem gi_L_84 {b : ByteArray} {nL : Nat} {ret : Option FieldType} {E : GE} {pc : Nat} {L : List (Nat × Value)} {st rest : List Value} {M : Mem} {h' : Nat} {avs : List Value} {Q' : Option Value → Mem → Prop} {k : Nat} (hk : k < 42) (hs : shK k = 5) (hE : Ev yX5_might cX5_might 4 (some .int) h' (.ref k :: avs) M Q') (hst : st = (Value.ref k :: avs).reverse ++ rest) (hn : avs.length = 1) (hR : okRoom h' E 4) (hc : (rest.map fun v => v.category).sum ≤ 8) (hdg : decode b pc = .ok (.invokevirtual 84, 3)) (kk : ∀ (r : Option Value) (M' : Mem), Q' r M' → G RL b nL ret E (pc + 3) L (r.toList ++ rest) M') : G RL b nL ret E pc L st M := g_callV (n := 1) (k := k) (ci := 5) (N := 20) (Cn := RX5) (T := TX5) wc_X5_might wm_L_84 wi_X5_might ws_X5_might wn_X5 rfl (by decide +kernel) (by decide) rfl hk hs hE hst hn hR hc hdg kk
theorem wm_L_88 : Cond.methodLink RL 88 yX5_learns ∈ tb := tb_w 689 (by decide +kernel) rfl
theorem gi_L_88 {b : ByteArray} {nL : Nat} {ret : Option FieldType} {E : GE} {pc : Nat} {L : List (Nat × Value)} {st rest : List Value} {M : Mem} {h' : Nat} {avs : List Value} {Q' : Option Value → Mem → Prop} {k : Nat} (hk : k < 42) (hs : shK k = 5) (hE : Ev yX5_learns cX5_learns 2 (some .int) h' (.ref k :: avs) M Q') (hst : st = (Value.ref k :: avs).reverse ++ rest) (hn : avs.length = 1) (hR : okRoom h' E 2) (hc : (rest.map fun v => v.category).sum ≤ 8) (hdg : decode b pc = .ok (.invokevirtual 88, 3)) (kk : ∀ (r : Option Value) (M' : Mem), Q' r M' → G RL b nL ret E (pc + 3) L (r.toList ++ rest) M') : G RL b nL ret E pc L st M := g_callV (n := 1) (k := k) (ci := 5) (N := 20) (Cn := RX5) (T := TX5) wc_X5_learns wm_L_88 wi_X5_learns ws_X5_learns wn_X5 rfl (by decide +kernel) (by decide) rfl hk hs hE hst hn hR hc hdg kk
theorem wm_X5_179 : Cond.methodLink RX5 179 yX5_learnsOf ∈ tb := tb_w 693 (by decide +kernel) rfl
theorem gi_X5_179 {b : ByteArray} {nL : Nat} {ret : Option FieldType} {E : GE} {pc : Nat} {L : List (Nat × Value)} {st rest : List Value} {M : Mem} {h' : Nat} {avs : List Value} {Q' : Option Value → Mem → Prop} {k : Nat} (hk : k < 42) (hs : shK k = 5) (hE : Ev yX5_learnsOf cX5_learnsOf 4 (some .boolean) h' (.ref k :: avs) M Q') (hst : st = (Value.ref k :: avs).reverse ++ rest) (hn : avs.length = 1) (hR : okRoom h' E 4) (hc : (rest.map fun v => v.category).sum ≤ 8) (hdg : decode b pc = .ok (.invokevirtual 179, 3)) (kk : ∀ (r : Option Value) (M' : Mem), Q' r M' → G RX5 b nL ret E (pc + 3) L (r.toList ++ rest) M') : G RX5 b nL ret E pc L st M := g_callV (n := 1) (k := k) (ci := 5) (N := 20) (Cn := RX5) (T := TX5) wc_X5_learnsOf wm_X5_179 wi_X5_learnsOf ws_X5_learnsOf wn_X5 rfl (by decide +kernel) (by decide) rfl hk hs hE hst hn hR hc hdg kk
theorem wm_L_93 : Cond.methodLink RL 93 yX5_least ∈ tb := tb_w 697 (by decide +kernel) rfl
theorem gi_L_93 {b : ByteArray} {nL : Nat} {ret : Option FieldType} {E : GE} {pc : Nat} {L : List (Nat × Value)} {st rest : List Value} {M : Mem} {h' : Nat} {avs : List Value} {Q' : Option Value → Mem → Prop} {k : Nat} (hk : k < 42) (hs : shK k = 5) (hE : Ev yX5_least cX5_least 2 (some .int) h' (.ref k :: avs) M Q') (hst : st = (Value.ref k :: avs).reverse ++ rest) (hn : avs.length = 0) (hR : okRoom h' E 2) (hc : (rest.map fun v => v.category).sum ≤ 8) (hdg : decode b pc = .ok (.invokevirtual 93, 3)) (kk : ∀ (r : Option Value) (M' : Mem), Q' r M' → G RL b nL ret E (pc + 3) L (r.toList ++ rest) M') : G RL b nL ret E pc L st M := g_callV (n := 0) (k := k) (ci := 5) (N := 20) (Cn := RX5) (T := TX5) wc_X5_least wm_L_93 wi_X5_least ws_X5_least wn_X5 rfl (by decide +kernel) (by decide) rfl hk hs hE hst hn hR hc hdg kk
theorem wm_L_97 : Cond.methodLink RL 97 yX5_fits ∈ tb := tb_w 701 (by decide +kernel) rfl
theorem gi_L_97 {b : ByteArray} {nL : Nat} {ret : Option FieldType} {E : GE} {pc : Nat} {L : List (Nat × Value)} {st rest : List Value} {M : Mem} {h' : Nat} {avs : List Value} {Q' : Option Value → Mem → Prop} {k : Nat} (hk : k < 42) (hs : shK k = 5) (hE : Ev yX5_fits cX5_fits 3 (some .int) h' (.ref k :: avs) M Q') (hst : st = (Value.ref k :: avs).reverse ++ rest) (hn : avs.length = 2) (hR : okRoom h' E 3) (hc : (rest.map fun v => v.category).sum ≤ 8) (hdg : decode b pc = .ok (.invokevirtual 97, 3)) (kk : ∀ (r : Option Value) (M' : Mem), Q' r M' → G RL b nL ret E (pc + 3) L (r.toList ++ rest) M') : G RL b nL ret E pc L st M := g_callV (n := 2) (k := k) (ci := 5) (N := 20) (Cn := RX5) (T := TX5) wc_X5_fits wm_L_97 wi_X5_fits ws_X5_fits wn_X5 rfl (by decide +kernel) (by decide) rfl hk hs hE hst hn hR hc hdg kk
theorem wm_L_101 : Cond.methodLink RL 101 yX5_both ∈ tb := tb_w 705 (by decide +kernel) rfl
theorem gi_L_101 {b : ByteArray} {nL : Nat} {ret : Option FieldType} {E : GE} {pc : Nat} {L : List (Nat × Value)} {st rest : List Value} {M : Mem} {h' : Nat} {avs : List Value} {Q' : Option Value → Mem → Prop} {k : Nat} (hk : k < 42) (hs : shK k = 5) (hE : Ev yX5_both cX5_both 3 (some .int) h' (.ref k :: avs) M Q') (hst : st = (Value.ref k :: avs).reverse ++ rest) (hn : avs.length = 2) (hR : okRoom h' E 3) (hc : (rest.map fun v => v.category).sum ≤ 8) (hdg : decode b pc = .ok (.invokevirtual 101, 3)) (kk : ∀ (r : Option Value) (M' : Mem), Q' r M' → G RL b nL ret E (pc + 3) L (r.toList ++ rest) M') : G RL b nL ret E pc L st M := g_callV (n := 2) (k := k) (ci := 5) (N := 20) (Cn := RX5) (T := TX5) wc_X5_both wm_L_101 wi_X5_both ws_X5_both wn_X5 rfl (by decide +kernel) (by decide) rfl hk hs hE hst hn hR hc hdg kk
theorem wm_X5_182 : Cond.methodLink RX5 182 yX5_isSum ∈ tb := tb_w 709 (by decide +kernel) rfl
theorem gi_X5_182 {b : ByteArray} {nL : Nat} {ret : Option FieldType} {E : GE} {pc : Nat} {L : List (Nat × Value)} {st rest : List Value} {M : Mem} {h' : Nat} {avs : List Value} {Q' : Option Value → Mem → Prop} {k : Nat} (hk : k < 42) (hs : shK k = 5) (hE : Ev yX5_isSum cX5_isSum 2 (some .boolean) h' (.ref k :: avs) M Q') (hst : st = (Value.ref k :: avs).reverse ++ rest) (hn : avs.length = 1) (hR : okRoom h' E 2) (hc : (rest.map fun v => v.category).sum ≤ 8) (hdg : decode b pc = .ok (.invokevirtual 182, 3)) (kk : ∀ (r : Option Value) (M' : Mem), Q' r M' → G RX5 b nL ret E (pc + 3) L (r.toList ++ rest) M') : G RX5 b nL ret E pc L st M := g_callV (n := 1) (k := k) (ci := 5) (N := 20) (Cn := RX5) (T := TX5) wc_X5_isSum wm_X5_182 wi_X5_isSum ws_X5_isSum wn_X5 rfl (by decide +kernel) (by decide) rfl hk hs hE hst hn hR hc hdg kk
theorem wm_X5_185 : Cond.methodLink RX5 185 yX5_bothOf ∈ tb := tb_w 713 (by decide +kernel) rfl
theorem gi_X5_185 {b : ByteArray} {nL : Nat} {ret : Option FieldType} {E : GE} {pc : Nat} {L : List (Nat × Value)} {st rest : List Value} {M : Mem} {h' : Nat} {avs : List Value} {Q' : Option Value → Mem → Prop} {k : Nat} (hk : k < 42) (hs : shK k = 5) (hE : Ev yX5_bothOf cX5_bothOf 5 (some .int) h' (.ref k :: avs) M Q') (hst : st = (Value.ref k :: avs).reverse ++ rest) (hn : avs.length = 2) (hR : okRoom h' E 5) (hc : (rest.map fun v => v.category).sum ≤ 8) (hdg : decode b pc = .ok (.invokevirtual 185, 3)) (kk : ∀ (r : Option Value) (M' : Mem), Q' r M' → G RX5 b nL ret E (pc + 3) L (r.toList ++ rest) M') : G RX5 b nL ret E pc L st M := g_callV (n := 2) (k := k) (ci := 5) (N := 20) (Cn := RX5) (T := TX5) wc_X5_bothOf wm_X5_185 wi_X5_bothOf ws_X5_bothOf wn_X5 rfl (by decide +kernel) (by decide) rfl hk hs hE hst hn hR hc hdg kk
theorem wm_L_106 : Cond.methodLink RL 106 yX5_pair ∈ tb := tb_w 717 (by decide +kernel) rfl
theorem gi_L_106 {b : ByteArray} {nL : Nat} {ret : Option FieldType} {E : GE} {pc : Nat} {L : List (Nat × Value)} {st rest : List Value} {M : Mem} {h' : Nat} {avs : List Value} {Q' : Option Value → Mem → Prop} {k : Nat} (hk : k < 42) (hs : shK k = 5) (hE : Ev yX5_pair cX5_pair 5 (some .int) h' (.ref k :: avs) M Q') (hst : st = (Value.ref k :: avs).reverse ++ rest) (hn : avs.length = 4) (hR : okRoom h' E 5) (hc : (rest.map fun v => v.category).sum ≤ 8) (hdg : decode b pc = .ok (.invokevirtual 106, 3)) (kk : ∀ (r : Option Value) (M' : Mem), Q' r M' → G RL b nL ret E (pc + 3) L (r.toList ++ rest) M') : G RL b nL ret E pc L st M := g_callV (n := 4) (k := k) (ci := 5) (N := 20) (Cn := RX5) (T := TX5) wc_X5_pair wm_L_106 wi_X5_pair ws_X5_pair wn_X5 rfl (by decide +kernel) (by decide) rfl hk hs hE hst hn hR hc hdg kk
theorem wm_L_110 : Cond.methodLink RL 110 yX5_total ∈ tb := tb_w 721 (by decide +kernel) rfl
theorem gi_L_110 {b : ByteArray} {nL : Nat} {ret : Option FieldType} {E : GE} {pc : Nat} {L : List (Nat × Value)} {st rest : List Value} {M : Mem} {h' : Nat} {avs : List Value} {Q' : Option Value → Mem → Prop} {k : Nat} (hk : k < 42) (hs : shK k = 5) (hE : Ev yX5_total cX5_total 4 (some .int) h' (.ref k :: avs) M Q') (hst : st = (Value.ref k :: avs).reverse ++ rest) (hn : avs.length = 1) (hR : okRoom h' E 4) (hc : (rest.map fun v => v.category).sum ≤ 8) (hdg : decode b pc = .ok (.invokevirtual 110, 3)) (kk : ∀ (r : Option Value) (M' : Mem), Q' r M' → G RL b nL ret E (pc + 3) L (r.toList ++ rest) M') : G RL b nL ret E pc L st M := g_callV (n := 1) (k := k) (ci := 5) (N := 20) (Cn := RX5) (T := TX5) wc_X5_total wm_L_110 wi_X5_total ws_X5_total wn_X5 rfl (by decide +kernel) (by decide) rfl hk hs hE hst hn hR hc hdg kk
end
section
/-! ints as numbers -/
theorem zI_toInt {a : Int} (h : -2147483648 ≤ a) (h2 : a < 2147483648) : (zI a).toInt = a := Int32.toInt_ofInt_of_le h h2
theorem zI_of (x : Int32) : zI x.toInt = x := Int32.ofInt_toInt x
theorem zI_add (a b : Int) : zI a + zI b = zI (a + b) := (Int32.ofInt_add a b).symm
theorem zI_sub (a b : Int) : zI a - zI b = zI (a - b) := (Int32.ofInt_sub a b).symm
theorem zI_mul (a b : Int) : zI a * zI b = zI (a * b) := (Int32.ofInt_mul a b).symm
theorem zI_zero : (0 : Int32) = zI 0 := rfl
theorem zI_nI (n : Nat) : zI (n : Int) = nI n := Int32.ofInt_eq_ofNat
theorem zI_toNat {a : Int} (h : 0 ≤ a) : zI a = nI a.toNat := by
  rw [← zI_nI, Int.toNat_of_nonneg h]
theorem i_lt {x y : Int32} : x < y ↔ x.toInt < y.toInt := Int32.lt_iff_toInt_lt
theorem i_le {x y : Int32} : x ≤ y ↔ x.toInt ≤ y.toInt := Int32.le_iff_toInt_le
theorem i_eq {x y : Int32} : x = y ↔ x.toInt = y.toInt := Int32.toInt_inj.symm
theorem i_0 : (0 : Int32).toInt = 0 := rfl
theorem i_bd (x : Int32) : -2147483648 ≤ x.toInt ∧ x.toInt < 2147483648 := ⟨x.le_toInt, x.toInt_lt⟩
theorem zI_eqz {a b : Int} (h1 : -2147483648 ≤ a) (h2 : a < 2147483648) (h3 : -2147483648 ≤ b) (h4 : b < 2147483648) : zI a = zI b ↔ a = b := by
  rw [i_eq, zI_toInt h1 h2, zI_toInt h3 h4]
theorem zI_clamp {a : Int} (h : 0 ≤ a) (h2 : a < 2147483648) : (zI a).toNatClampNeg = a.toNat := by
  rw [zI_toNat h, nI_clamp (by omega)]
theorem i_clamp (x : Int32) : x.toNatClampNeg = x.toInt.toNat := rfl
theorem zI_in {a : Int} {n : Nat} (h : 0 ≤ a) (h2 : a < n) (hn : n < 2147483648) : vp_in (zI a) n := vp_in_iff.mpr ⟨by rw [zI_toInt (by omega) (by omega)]; exact h, by rw [zI_toInt (by omega) (by omega)]; exact h2⟩
theorem i_in {x : Int32} {n : Nat} (h : 0 ≤ x.toInt) (h2 : x.toInt < n) : vp_in x n := vp_in_iff.mpr ⟨h, h2⟩
theorem zI_rem {a d : Int} (h1 : -2147483648 ≤ a) (h2 : a < 2147483648) (h3 : 0 < d) (h4 : d < 2147483648) : zI a - zI a / zI d * zI d = zI (a.tmod d) := by
  have e : zI a / zI d = zI (a.tdiv d) := (Int32.ofInt_tdiv (a := a) (b := d) h1 (Int.le_of_lt_add_one h2) (by show (-2147483648 : Int) ≤ d; omega) (Int.le_of_lt_add_one h4)).symm
  rw [e, zI_mul, zI_sub]
  congr 1
  have := Int.tmod_add_tdiv_mul a d
  omega
theorem zI_remN {a d : Int} (h1 : 0 ≤ a) (h2 : a < 2147483648) (h3 : 0 < d) (h4 : d < 2147483648) : zI a - zI a / zI d * zI d = zI (a % d) := by
  rw [zI_rem (by omega) h2 h3 h4, Int.tmod_eq_emod_of_nonneg h1]
theorem zI_div {a d : Int} (h1 : 0 ≤ a) (h2 : a < 2147483648) (h3 : 0 < d) (h4 : d < 2147483648) : zI a / zI d = zI (a / d) := by
  have e : zI a / zI d = zI (a.tdiv d) := (Int32.ofInt_tdiv (a := a) (b := d) (by show (-2147483648 : Int) ≤ a; omega) (Int.le_of_lt_add_one h2) (by show (-2147483648 : Int) ≤ d; omega) (Int.le_of_lt_add_one h4)).symm
  rw [e, Int.tdiv_eq_ediv_of_nonneg h1]
theorem zI_ne0 {d : Int} (h3 : 0 < d) (h4 : d < 2147483648) : ¬ zI d = 0 := by
  rw [zI_zero, zI_eqz (by omega) (by omega) (by omega) (by omega)]
  omega
theorem zI_and31 {k : Nat} (h : k < 32) : zI k &&& 31 = zI k := by
  rw [zI_nI, pk_andN (by omega) 5 (by decide)]
  exact congrArg nI (Nat.mod_eq_of_lt h)
theorem sm_k : ∀ k, k < 32 → ((nI k).toBitVec.smod 32).toNat = k := by decide +kernel
theorem zI_shr {a : Int} {k : Nat} (h : 0 ≤ a) (h2 : a < 2147483648) (hk : k < 32) : zI a >>> (zI k &&& 31) = zI (a / 2 ^ k) := by
  rw [zI_and31 hk, zI_toNat h, zI_nI, pk_shrN (by omega) _ k (sm_k k hk), ← zI_nI]
  congr 1
  rw [Int.natCast_ediv, Int.toNat_of_nonneg h]
  rfl
theorem zI_shl {a : Int} {k : Nat} (h : 0 ≤ a) (hk : k < 32) (h2 : a * 2 ^ k < 2147483648) : zI a <<< (zI k &&& 31) = zI (a * 2 ^ k) := by
  have h3 : a.toNat * 2 ^ k < 2 ^ 32 := by
    have e : ((a.toNat * 2 ^ k : Nat) : Int) = a * 2 ^ k := by
      rw [Int.natCast_mul, Int.toNat_of_nonneg h]
      rfl
    omega
  rw [zI_and31 hk, zI_toNat h, zI_nI, pk_shlN _ k (sm_k k hk) h3, ← zI_nI]
  congr 1
  rw [Int.natCast_mul, Int.toNat_of_nonneg h]
  rfl
theorem zI_and1 {a : Int} (h : 0 ≤ a) (h2 : a < 2147483648) : zI a &&& zI 1 = zI (a % 2) := by
  rw [zI_toNat h, pk_andN (by omega) 1 (by decide), ← zI_nI]
  congr 1
  rw [Int.natCast_emod, Int.toNat_of_nonneg h]
  rfl
def bI (c : Bool) : Int32 := bif c then zI 1 else zI 0
theorem bI_0 {c : Bool} : bI c = 0 ↔ c = false := by cases c <;> decide
theorem bI_n0 {c : Bool} : ¬ bI c = 0 ↔ c = true := by cases c <;> decide
theorem bI_nar (c : Bool) : narrow .boolean (.int (bI c)) = .int (bI c) := by cases c <;> rfl
theorem bI_t {c : Bool} (h : c = true) : bI c = zI 1 := by rw [h]; rfl
theorem bI_f {c : Bool} (h : c = false) : bI c = zI 0 := by rw [h]; rfl
/-- a contract that says just what is returned and what the memory is then -/
def EvF (y : MethodName) (b : ByteArray) (nL : Nat) (ret : Option FieldType) (h : Nat) (avs : List Value) (M : Mem) (v : Option Value) (M' : Mem) : Prop := Ev y b nL ret h avs M (fun r M1 => v = r ∧ M' = M1)
theorem EvF.of {y : MethodName} {b : ByteArray} {nL : Nat} {ret : Option FieldType} {h : Nat} {avs : List Value} {M M' : Mem} {v : Option Value} (hy : plainName y.cls = true) (hn : (lg_sl avs).length ≤ nL) (hG : ∀ Q : Option Value → Mem → Prop, Q v M' → G y.cls b nL ret (gE h Q) 0 (lv_args 0 avs) [] M) : EvF y b nL ret h avs M v M' :=
  Ev.of_G hy hn (hG _ ⟨rfl, rfl⟩)
theorem Ev.of {y : MethodName} {b : ByteArray} {nL : Nat} {ret : Option FieldType} {h : Nat} {avs : List Value} {M : Mem} {Q' : Option Value → Mem → Prop} (hy : plainName y.cls = true) (hn : (lg_sl avs).length ≤ nL) (hG : ∀ Q : Option Value → Mem → Prop, (∀ r M', Q' r M' → Q r M') → G y.cls b nL ret (gE h Q) 0 (lv_args 0 avs) [] M) : Ev y b nL ret h avs M Q' :=
  Ev.of_G hy hn (hG _ (fun _ _ q => q))
theorem n_lt_of {a b : Int} {P : Prop} (h : ¬ zI a ≤ zI b) (h1 : 0 ≤ a) (h2 : a < 2147483648) (h3 : 0 ≤ b) (h4 : b < 2147483648) (hab : a ≤ b) : P := by
  rw [i_le, zI_toInt (by omega) h2, zI_toInt (by omega) h4] at h
  exact absurd hab h
theorem n_le_of {a b : Int} {P : Prop} (h : zI a ≤ zI b) (h1 : 0 ≤ a) (h2 : a < 2147483648) (h3 : 0 ≤ b) (h4 : b < 2147483648) (hab : b < a) : P := by
  rw [i_le, zI_toInt (by omega) h2, zI_toInt (by omega) h4] at h
  exact absurd hab (Int.not_lt.mpr h)
end
section
/-! class SilentAsking: the small checks -/
theorem ev_X4_isStore (j : Int32) (M : Mem) : EvF yX4_isStore cX4_isStore 1 (some .boolean) 0 [.int j] M (some (.int (bI (decide (1 ≤ j.toInt ∧ j.toInt ≤ 9))))) M := by
  refine EvF.of (by decide +kernel) (Nat.le_of_ble_eq_true rfl) (fun Q hQ => ?_)
  refine g_iload_n rfl dX4_isStore_0 ?_
  refine g_iconst dX4_isStore_1 ?_
  refine g_icmp_lt (tgt := 15) dX4_isStore_2 (by decide) (fun c2 => ?_) (fun c2 => ?_)
  · refine g_iconst dX4_isStore_15 ?_
    refine g_zreturn rfl rfl dX4_isStore_16 ?_
    simp (disch := omega) only [i_lt, i_le, i_eq, zI_toInt, i_0] at c2
    first | (rw [bI_f (decide_eq_false (by omega))] at hQ; exact hQ) | (rw [bI_t (decide_eq_true (by omega))] at hQ; exact hQ)
  · refine g_iload_n rfl dX4_isStore_5 ?_
    refine g_bipush (by decide) dX4_isStore_6 ?_
    refine g_icmp_gt (tgt := 15) dX4_isStore_8 (by decide) (fun c8 => ?_) (fun c8 => ?_)
    · refine g_iconst dX4_isStore_15 ?_
      refine g_zreturn rfl rfl dX4_isStore_16 ?_
      simp (disch := omega) only [i_lt, i_le, i_eq, zI_toInt, i_0] at c2 c8
      first | (rw [bI_f (decide_eq_false (by omega))] at hQ; exact hQ) | (rw [bI_t (decide_eq_true (by omega))] at hQ; exact hQ)
    · refine g_iconst dX4_isStore_11 ?_
      refine g_goto (tgt := 16) dX4_isStore_12 (by decide) ?_
      refine g_zreturn rfl rfl dX4_isStore_16 ?_
      simp (disch := omega) only [i_lt, i_le, i_eq, zI_toInt, i_0] at c2 c8
      first | (rw [bI_f (decide_eq_false (by omega))] at hQ; exact hQ) | (rw [bI_t (decide_eq_true (by omega))] at hQ; exact hQ)
theorem ev_X4_isNumber (j : Int32) (M : Mem) : EvF yX4_isNumber cX4_isNumber 1 (some .boolean) 0 [.int j] M (some (.int (bI (decide (0 ≤ j.toInt ∧ j.toInt < 97))))) M := by
  refine EvF.of (by decide +kernel) (Nat.le_of_ble_eq_true rfl) (fun Q hQ => ?_)
  refine g_iload_n rfl dX4_isNumber_0 ?_
  refine g_if_lt (tgt := 14) dX4_isNumber_1 (by decide) (fun c1 => ?_) (fun c1 => ?_)
  · refine g_iconst dX4_isNumber_14 ?_
    refine g_zreturn rfl rfl dX4_isNumber_15 ?_
    simp (disch := omega) only [i_lt, i_le, i_eq, zI_toInt, i_0] at c1
    first | (rw [bI_f (decide_eq_false (by omega))] at hQ; exact hQ) | (rw [bI_t (decide_eq_true (by omega))] at hQ; exact hQ)
  · refine g_iload_n rfl dX4_isNumber_4 ?_
    refine g_bipush (by decide) dX4_isNumber_5 ?_
    refine g_icmp_ge (tgt := 14) dX4_isNumber_7 (by decide) (fun c7 => ?_) (fun c7 => ?_)
    · refine g_iconst dX4_isNumber_14 ?_
      refine g_zreturn rfl rfl dX4_isNumber_15 ?_
      simp (disch := omega) only [i_lt, i_le, i_eq, zI_toInt, i_0] at c1 c7
      first | (rw [bI_f (decide_eq_false (by omega))] at hQ; exact hQ) | (rw [bI_t (decide_eq_true (by omega))] at hQ; exact hQ)
    · refine g_iconst dX4_isNumber_10 ?_
      refine g_goto (tgt := 15) dX4_isNumber_11 (by decide) ?_
      refine g_zreturn rfl rfl dX4_isNumber_15 ?_
      simp (disch := omega) only [i_lt, i_le, i_eq, zI_toInt, i_0] at c1 c7
      first | (rw [bI_f (decide_eq_false (by omega))] at hQ; exact hQ) | (rw [bI_t (decide_eq_true (by omega))] at hQ; exact hQ)
theorem ev_X4_isKind (j : Int32) (M : Mem) : EvF yX4_isKind cX4_isKind 1 (some .boolean) 0 [.int j] M (some (.int (bI (decide (0 ≤ j.toInt ∧ j.toInt ≤ 3))))) M := by
  refine EvF.of (by decide +kernel) (Nat.le_of_ble_eq_true rfl) (fun Q hQ => ?_)
  refine g_iload_n rfl dX4_isKind_0 ?_
  refine g_if_lt (tgt := 13) dX4_isKind_1 (by decide) (fun c1 => ?_) (fun c1 => ?_)
  · refine g_iconst dX4_isKind_13 ?_
    refine g_zreturn rfl rfl dX4_isKind_14 ?_
    simp (disch := omega) only [i_lt, i_le, i_eq, zI_toInt, i_0] at c1
    first | (rw [bI_f (decide_eq_false (by omega))] at hQ; exact hQ) | (rw [bI_t (decide_eq_true (by omega))] at hQ; exact hQ)
  · refine g_iload_n rfl dX4_isKind_4 ?_
    refine g_iconst dX4_isKind_5 ?_
    refine g_icmp_gt (tgt := 13) dX4_isKind_6 (by decide) (fun c6 => ?_) (fun c6 => ?_)
    · refine g_iconst dX4_isKind_13 ?_
      refine g_zreturn rfl rfl dX4_isKind_14 ?_
      simp (disch := omega) only [i_lt, i_le, i_eq, zI_toInt, i_0] at c1 c6
      first | (rw [bI_f (decide_eq_false (by omega))] at hQ; exact hQ) | (rw [bI_t (decide_eq_true (by omega))] at hQ; exact hQ)
    · refine g_iconst dX4_isKind_9 ?_
      refine g_goto (tgt := 14) dX4_isKind_10 (by decide) ?_
      refine g_zreturn rfl rfl dX4_isKind_14 ?_
      simp (disch := omega) only [i_lt, i_le, i_eq, zI_toInt, i_0] at c1 c6
      first | (rw [bI_f (decide_eq_false (by omega))] at hQ; exact hQ) | (rw [bI_t (decide_eq_true (by omega))] at hQ; exact hQ)
theorem ev_X4_isLie (j : Int32) (M : Mem) : EvF yX4_isLie cX4_isLie 1 (some .boolean) 0 [.int j] M (some (.int (bI (decide (1 ≤ j.toInt ∧ j.toInt < 97))))) M := by
  refine EvF.of (by decide +kernel) (Nat.le_of_ble_eq_true rfl) (fun Q hQ => ?_)
  refine g_iload_n rfl dX4_isLie_0 ?_
  refine g_iconst dX4_isLie_1 ?_
  refine g_icmp_lt (tgt := 15) dX4_isLie_2 (by decide) (fun c2 => ?_) (fun c2 => ?_)
  · refine g_iconst dX4_isLie_15 ?_
    refine g_zreturn rfl rfl dX4_isLie_16 ?_
    simp (disch := omega) only [i_lt, i_le, i_eq, zI_toInt, i_0] at c2
    first | (rw [bI_f (decide_eq_false (by omega))] at hQ; exact hQ) | (rw [bI_t (decide_eq_true (by omega))] at hQ; exact hQ)
  · refine g_iload_n rfl dX4_isLie_5 ?_
    refine g_bipush (by decide) dX4_isLie_6 ?_
    refine g_icmp_ge (tgt := 15) dX4_isLie_8 (by decide) (fun c8 => ?_) (fun c8 => ?_)
    · refine g_iconst dX4_isLie_15 ?_
      refine g_zreturn rfl rfl dX4_isLie_16 ?_
      simp (disch := omega) only [i_lt, i_le, i_eq, zI_toInt, i_0] at c2 c8
      first | (rw [bI_f (decide_eq_false (by omega))] at hQ; exact hQ) | (rw [bI_t (decide_eq_true (by omega))] at hQ; exact hQ)
    · refine g_iconst dX4_isLie_11 ?_
      refine g_goto (tgt := 16) dX4_isLie_12 (by decide) ?_
      refine g_zreturn rfl rfl dX4_isLie_16 ?_
      simp (disch := omega) only [i_lt, i_le, i_eq, zI_toInt, i_0] at c2 c8
      first | (rw [bI_f (decide_eq_false (by omega))] at hQ; exact hQ) | (rw [bI_t (decide_eq_true (by omega))] at hQ; exact hQ)
theorem ev_X4_isKeptFrom (j : Int32) (M : Mem) : EvF yX4_isKeptFrom cX4_isKeptFrom 1 (some .boolean) 0 [.int j] M (some (.int (bI (decide (1 ≤ j.toInt ∧ j.toInt ≤ 2))))) M := by
  refine EvF.of (by decide +kernel) (Nat.le_of_ble_eq_true rfl) (fun Q hQ => ?_)
  refine g_iload_n rfl dX4_isKeptFrom_0 ?_
  refine g_iconst dX4_isKeptFrom_1 ?_
  refine g_icmp_lt (tgt := 14) dX4_isKeptFrom_2 (by decide) (fun c2 => ?_) (fun c2 => ?_)
  · refine g_iconst dX4_isKeptFrom_14 ?_
    refine g_zreturn rfl rfl dX4_isKeptFrom_15 ?_
    simp (disch := omega) only [i_lt, i_le, i_eq, zI_toInt, i_0] at c2
    first | (rw [bI_f (decide_eq_false (by omega))] at hQ; exact hQ) | (rw [bI_t (decide_eq_true (by omega))] at hQ; exact hQ)
  · refine g_iload_n rfl dX4_isKeptFrom_5 ?_
    refine g_iconst dX4_isKeptFrom_6 ?_
    refine g_icmp_gt (tgt := 14) dX4_isKeptFrom_7 (by decide) (fun c7 => ?_) (fun c7 => ?_)
    · refine g_iconst dX4_isKeptFrom_14 ?_
      refine g_zreturn rfl rfl dX4_isKeptFrom_15 ?_
      simp (disch := omega) only [i_lt, i_le, i_eq, zI_toInt, i_0] at c2 c7
      first | (rw [bI_f (decide_eq_false (by omega))] at hQ; exact hQ) | (rw [bI_t (decide_eq_true (by omega))] at hQ; exact hQ)
    · refine g_iconst dX4_isKeptFrom_10 ?_
      refine g_goto (tgt := 15) dX4_isKeptFrom_11 (by decide) ?_
      refine g_zreturn rfl rfl dX4_isKeptFrom_15 ?_
      simp (disch := omega) only [i_lt, i_le, i_eq, zI_toInt, i_0] at c2 c7
      first | (rw [bI_f (decide_eq_false (by omega))] at hQ; exact hQ) | (rw [bI_t (decide_eq_true (by omega))] at hQ; exact hQ)
theorem ev_X4_isSeed (j : Int32) (M : Mem) : EvF yX4_isSeed cX4_isSeed 1 (some .boolean) 0 [.int j] M (some (.int (bI (decide (0 ≤ j.toInt))))) M := by
  refine EvF.of (by decide +kernel) (Nat.le_of_ble_eq_true rfl) (fun Q hQ => ?_)
  refine g_iload_n rfl dX4_isSeed_0 ?_
  refine g_if_lt (tgt := 8) dX4_isSeed_1 (by decide) (fun c1 => ?_) (fun c1 => ?_)
  · refine g_iconst dX4_isSeed_8 ?_
    refine g_zreturn rfl rfl dX4_isSeed_9 ?_
    simp (disch := omega) only [i_lt, i_le, i_eq, zI_toInt, i_0] at c1
    first | (rw [bI_f (decide_eq_false (by omega))] at hQ; exact hQ) | (rw [bI_t (decide_eq_true (by omega))] at hQ; exact hQ)
  · refine g_iconst dX4_isSeed_4 ?_
    refine g_goto (tgt := 9) dX4_isSeed_5 (by decide) ?_
    refine g_zreturn rfl rfl dX4_isSeed_9 ?_
    simp (disch := omega) only [i_lt, i_le, i_eq, zI_toInt, i_0] at c1
    first | (rw [bI_f (decide_eq_false (by omega))] at hQ; exact hQ) | (rw [bI_t (decide_eq_true (by omega))] at hQ; exact hQ)
theorem ev_X4_bit {a : Int} {k : Nat} (h : 0 ≤ a) (h2 : a < 2147483648) (hk : k < 32) (M : Mem) : EvF yX4_bit cX4_bit 2 (some .int) 0 [.int (zI a), .int (zI k)] M (some (.int (zI (a / 2 ^ k % 2)))) M := by
  refine EvF.of (by decide +kernel) (Nat.le_of_ble_eq_true rfl) (fun Q hQ => ?_)
  have h4 : 0 ≤ a / 2 ^ k := Int.ediv_nonneg h (by exact Int.le_of_lt (Int.pow_pos (by decide)))
  have h5 : a / 2 ^ k ≤ a := Int.ediv_le_self _ h
  refine g_iload_n rfl dX4_bit_0 ?_
  refine g_iload_n rfl dX4_bit_1 ?_
  refine g_ishr dX4_bit_2 ?_
  refine g_iconst dX4_bit_3 ?_
  refine g_iand dX4_bit_4 ?_
  refine g_ireturn rfl dX4_bit_5 ?_
  rw [zI_shr h h2 hk, zI_and1 h4 (by omega)]
  exact hQ
theorem ev_X4_liesMended {t g : Int} {M : Mem} (h1 : 0 ≤ t) (h2 : t ≤ 9) (h3 : 1 ≤ g) (h4 : g ≤ 6) (hg : M 22 7 = zI g) (h5 : g < t) : EvF yX4_liesMended cX4_liesMended 2 (some .int) 0 [.ref 0, .int (zI t)] M (some (.int (zI ((t - g - 1) / 2)))) M := by
  refine EvF.of (by decide +kernel) (Nat.le_of_ble_eq_true rfl) (fun Q hQ => ?_)
  refine g_iload_n rfl dX4_liesMended_0 ?_
  refine g_aload_n rfl dX4_liesMended_1 ?_
  refine gf_X4_25 (by decide) rfl rfl dX4_liesMended_2 ?_
  refine gf_X4_116 (by decide) rfl dX4_liesMended_5 ?_
  refine g_isub dX4_liesMended_8 ?_
  refine g_iconst dX4_liesMended_9 ?_
  refine g_isub dX4_liesMended_10 ?_
  refine g_iconst dX4_liesMended_11 ?_
  refine g_idiv (by decide) dX4_liesMended_12 ?_
  refine g_ireturn rfl dX4_liesMended_13 ?_
  rw [hg, zI_sub, zI_sub, zI_div (by omega) (by omega) (by omega) (by omega)]
  exact hQ
theorem ev_X4_count {M : Mem} {m : Nat} (h1 : 1 ≤ m) (h2 : m ≤ 3) (hm : M 0 6 = zI m) : EvF yX4_count cX4_count 1 (some .int) 0 [.ref 0] M (some (.int (zI (2 ^ m)))) M := by
  refine EvF.of (by decide +kernel) (Nat.le_of_ble_eq_true rfl) (fun Q hQ => ?_)
  have h3 : (1 : Int) * 2 ^ m < 2147483648 := by
    rcases (by omega : m = 1 ∨ m = 2 ∨ m = 3) with rfl | rfl | rfl <;> decide
  refine g_iconst dX4_count_0 ?_
  refine g_aload_n rfl dX4_count_1 ?_
  refine gf_X4_43 (by decide) rfl dX4_count_2 ?_
  refine g_ishl dX4_count_5 ?_
  refine g_ireturn rfl dX4_count_6 ?_
  rw [hm, zI_shl (by decide) (by omega) h3, Int.one_mul]
  exact hQ
theorem ev_X4_inverse (x : Int32) (M : Mem) : EvF yX4_inverse cX4_inverse 1 (some .int) 0 [.int x] M (some (.int (invL.getD x.toInt.toNat 0))) M := by
  refine EvF.of (by decide +kernel) (Nat.le_of_ble_eq_true rfl) (fun Q hQ => ?_)
  refine g_iload_n rfl dX4_inverse_0 ?_
  refine g_if_le (tgt := 20) dX4_inverse_1 (by decide) (fun c1 => ?_) (fun c1 => ?_)
  · refine g_iconst dX4_inverse_20 ?_
    refine g_ireturn rfl dX4_inverse_21 ?_
    simp (disch := omega) only [i_lt, i_le, i_eq, zI_toInt, i_0] at c1
    rw [show x.toInt.toNat = 0 by omega] at hQ
    exact hQ
  · refine g_iload_n rfl dX4_inverse_4 ?_
    refine g_gets wf_X4_200 dX4_inverse_5 ?_
    refine g_alenT dX4_inverse_8 ?_
    refine g_icmp_ge (tgt := 20) dX4_inverse_9 (by decide) (fun c9 => ?_) (fun c9 => ?_)
    · refine g_iconst dX4_inverse_20 ?_
      refine g_ireturn rfl dX4_inverse_21 ?_
      simp (disch := omega) only [i_lt, i_le, i_eq, zI_toInt, i_0] at c1 c9
      rw [List.getD_eq_getElem?_getD, List.getElem?_eq_none (by show 9 ≤ _; omega)] at hQ
      exact hQ
    · refine g_gets wf_X4_200 dX4_inverse_12 ?_
      refine g_iload_n rfl dX4_inverse_15 ?_
      simp (disch := omega) only [i_lt, i_le, i_eq, zI_toInt, i_0] at c1 c9
      refine g_ialdT (i_in (n := 9) (by omega) (by omega)) rfl dX4_inverse_16 ?_
      refine g_goto (tgt := 21) dX4_inverse_17 (by decide) ?_
      refine g_ireturn rfl dX4_inverse_21 ?_
      exact hQ
end
section
/-! the numbers behind: sums at a point, lots as polynomials, all modulo 97 -/
def mi (M : Mem) (k j : Nat) : Int := (M k j).toInt
theorem mi_z (M : Mem) (k j : Nat) : zI (mi M k j) = M k j := zI_of _
theorem ld_m (M : Mem) (k : Nat) {q : Nat} (h : q < 2147483648) : M k (zI (q : Int)).toNatClampNeg = zI (mi M k q) := by
  rw [zI_clamp (by omega) (by omega), mi_z]
  rfl
def cgr (a b : Int) : Prop := a % 97 = b % 97
theorem cg_r (a : Int) : cgr a a := rfl
theorem cg_s {a b : Int} (h : cgr a b) : cgr b a := Eq.symm h
theorem cg_t {a b c : Int} (h : cgr a b) (h2 : cgr b c) : cgr a c := Eq.trans h h2
theorem cg_m (a : Int) : cgr (a % 97) a := by unfold cgr; omega
theorem cg_a {a b c d : Int} (h : cgr a b) (h2 : cgr c d) : cgr (a + c) (b + d) := by unfold cgr at *; omega
theorem cg_b {a b c d : Int} (h : cgr a b) (h2 : cgr c d) : cgr (a - c) (b - d) := by unfold cgr at *; omega
theorem cg_x {a b c d : Int} (h : cgr a b) (h2 : cgr c d) : cgr (a * c) (b * d) := by
  unfold cgr at *
  rw [Int.mul_emod, h, h2, ← Int.mul_emod]
theorem cg_e {a b : Int} (h : cgr a b) : a % 97 = b % 97 := h
theorem cg_lt {a b : Int} (h : cgr a b) (h1 : 0 ≤ a) (h2 : a < 97) : a = b % 97 := by unfold cgr at h; omega
theorem md_bd (a : Int) : 0 ≤ a % 97 ∧ a % 97 < 97 := by omega
theorem mul_bd {a b : Int} (h1 : 0 ≤ a) (h2 : a < 97) (h3 : 0 ≤ b) (h4 : b < 200) : 0 ≤ a * b ∧ a * b < 20000 := by
  refine ⟨Int.mul_nonneg h1 h3, ?_⟩
  have := Int.mul_le_mul (show a ≤ 96 by omega) (show b ≤ 199 by omega) h3 (by omega)
  omega
/-- the product over the first k places of what bit k of i picks -/
def prodW (x : Nat → Int) (i : Nat) : Nat → Int
  | 0 => 1
  | k + 1 => prodW x i k * (if (i : Int) / 2 ^ k % 2 = 1 then x k else 1 - x k)
/-- the sum over the first i records -/
def sumW (cp x : Nat → Int) (m : Nat) : Nat → Int
  | 0 => 0
  | i + 1 => sumW cp x m i + cp i * prodW x i m
/-- f 0 j + f 1 j j + .. + f (n - 1) j^n -/
def polS (f : Nat → Int) (j : Int) : Nat → Int
  | 0 => 0
  | n + 1 => polS f j n + f n * j ^ (n + 1)
theorem polS_shift (f : Nat → Int) (j : Int) : ∀ n, polS f j (n + 1) = (f 0 + polS (fun e => f (e + 1)) j n) * j
  | 0 => by simp [polS, Int.pow_succ]
  | n + 1 => by
    rw [polS, polS_shift f j n, polS, Int.pow_succ, ← Int.mul_assoc, ← Int.add_mul, Int.add_assoc]
theorem prodW_ext {x y : Nat → Int} {i : Nat} : ∀ k, (∀ q, q < k → x q = y q) → prodW x i k = prodW y i k
  | 0, _ => rfl
  | k + 1, h => by rw [prodW, prodW, prodW_ext k (fun q hq => h q (by omega)), h k (by omega)]
theorem sumW_ext {c d x y : Nat → Int} {m : Nat} (hx : ∀ q, q < m → x q = y q) : ∀ n, (∀ i, i < n → c i = d i) → sumW c x m n = sumW d y m n
  | 0, _ => rfl
  | n + 1, h => by rw [sumW, sumW, sumW_ext hx n (fun i hi => h i (by omega)), h n (by omega), prodW_ext m hx]
theorem polS_ext {f g : Nat → Int} (j : Int) : ∀ n, (∀ q, q < n → f q = g q) → polS f j n = polS g j n
  | 0, _ => rfl
  | n + 1, h => by rw [polS, polS, polS_ext j n (fun q hq => h q (by omega)), h n (by omega)]
end
section
/-! class SilentAsking: sums at a point, lots -/
theorem p2_8 {m : Nat} (h1 : 1 ≤ m) (h2 : m ≤ 3) : 2 ≤ 2 ^ m ∧ 2 ^ m ≤ 8 := by rcases (by omega : m = 1 ∨ m = 2 ∨ m = 3) with rfl | rfl | rfl <;> decide
theorem p2_z (m : Nat) : (2 : Int) ^ m = ((2 ^ m : Nat) : Int) := by simp
set_option maxHeartbeats 4000000 in
theorem ev_X4_sumAtPlace {M : Mem} {m k : Nat} (h1 : 1 ≤ m) (h2 : m ≤ 3) (hm : M 0 6 = zI m) (hk : k < 42) (hs : shK k = 6) (hN : shN k = 8) (hc : ∀ i, i < 8 → 0 ≤ mi M k i ∧ mi M k i < 97) (hx : ∀ q, q < m → 0 ≤ mi M 2 q ∧ mi M 2 q < 97) :
    EvF yX4_sumAtPlace cX4_sumAtPlace 7 (some .int) 1 [.ref 0, .ref k] M (some (.int (zI (sumW (mi M k) (mi M 2) m (2 ^ m) % 97)))) M := by
  refine EvF.of (by decide +kernel) (Nat.le_of_ble_eq_true rfl) (fun Q hQ => ?_)
  have h8 := p2_8 h1 h2
  have hz := p2_z m
  have inner : ∀ (d q : Nat), d + q = m → ∀ (i : Nat) (w pt : Int), i < 2 ^ m → 0 ≤ pt → pt < 97 → cgr pt (mi M k i * prodW (mi M 2) i q) →
      (∀ pt' : Int, 0 ≤ pt' → pt' < 97 → cgr pt' (mi M k i * prodW (mi M 2) i m) → G yX4_sumAtPlace.cls cX4_sumAtPlace 7 (some .int) (gE 1 Q) 77 [(0, .ref 0), (1, .ref k), (2, .int (zI w)), (3, .int (zI i)), (4, .int (zI pt'))] [] M) →
      G yX4_sumAtPlace.cls cX4_sumAtPlace 7 (some .int) (gE 1 Q) 20 [(0, .ref 0), (1, .ref k), (2, .int (zI w)), (3, .int (zI i)), (4, .int (zI pt)), (5, .int (zI q))] [] M := by
    intro d
    induction d with
    | zero =>
      intro q hq i w pt hi hp1 hp2 hp K
      refine g_iload rfl dX4_sumAtPlace_20 ?_
      refine g_aload_n rfl dX4_sumAtPlace_22 ?_
      refine gf_X4_43 (by decide) rfl dX4_sumAtPlace_23 ?_
      refine g_icmp_ge (tgt := 77) dX4_sumAtPlace_26 (by decide) (fun c26 => ?_) (fun c26 => ?_)
      · refine g_locp [0, 1, 2, 3, 4] rfl ?_
        obtain rfl : q = m := by omega
        exact K pt hp1 hp2 hp
      · rw [hm] at c26
        exact n_lt_of c26 (by omega) (by omega) (by omega) (by omega) (by omega)
    | succ d ih =>
      intro q hq i w pt hi hp1 hp2 hp K
      have hxq := hx q (by omega)
      refine g_iload rfl dX4_sumAtPlace_20 ?_
      refine g_aload_n rfl dX4_sumAtPlace_22 ?_
      refine gf_X4_43 (by decide) rfl dX4_sumAtPlace_23 ?_
      refine g_icmp_ge (tgt := 77) dX4_sumAtPlace_26 (by decide) (fun c26 => ?_) (fun c26 => ?_)
      · rw [hm] at c26
        exact n_le_of c26 (by omega) (by omega) (by omega) (by omega) (by omega)
      · refine g_iload_n rfl dX4_sumAtPlace_29 ?_
        refine g_iload rfl dX4_sumAtPlace_30 ?_
        refine gi_X4_156 (ev_X4_bit (a := i) (k := q) (by omega) (by omega) (by omega) M) rfl rfl ⟨Nat.le_of_ble_eq_true rfl, Nat.le_of_ble_eq_true rfl, Nat.le_of_ble_eq_true rfl, Nat.le_of_ble_eq_true rfl⟩ (Nat.le_of_ble_eq_true rfl) dX4_sumAtPlace_32 (fun r32 M32 hq32 => ?_)
        obtain ⟨rfl, rfl⟩ := hq32
        refine g_iconst dX4_sumAtPlace_35 ?_
        refine g_icmp_ne (tgt := 49) dX4_sumAtPlace_36 (by decide) (fun c36 => ?_) (fun c36 => ?_)
        · refine g_bipush (by decide) dX4_sumAtPlace_49 ?_
          refine g_aload_n rfl dX4_sumAtPlace_51 ?_
          refine gf_X4_13 (by decide) rfl rfl dX4_sumAtPlace_52 ?_
          refine g_iload rfl dX4_sumAtPlace_55 ?_
          refine g_iald (n := 3) (by decide) rfl rfl (zI_in (by omega) (by omega) (by decide)) dX4_sumAtPlace_57 ?_
          rw [ld_m M 2 (by omega)]
          refine g_isub dX4_sumAtPlace_58 ?_
          refine g_istore (L2 := [(0, _), (1, _), (2, _), (3, _), (4, _), (5, _), (6, _)]) (by decide) rfl dX4_sumAtPlace_59 ?_
          refine g_iload rfl dX4_sumAtPlace_61 ?_
          refine g_iload rfl dX4_sumAtPlace_63 ?_
          refine g_imul dX4_sumAtPlace_65 ?_
          refine g_bipush (by decide) dX4_sumAtPlace_66 ?_
          refine g_irem (by decide) dX4_sumAtPlace_68 ?_
          refine g_istore (L2 := [(0, _), (1, _), (2, _), (3, _), (4, _), (5, _), (6, _)]) (by decide) rfl dX4_sumAtPlace_69 ?_
          refine g_iinc (L2 := [(0, _), (1, _), (2, _), (3, _), (4, _), (5, _), (6, _)]) rfl (by decide) rfl dX4_sumAtPlace_71 ?_
          refine g_goto (tgt := 20) dX4_sumAtPlace_74 (by decide) ?_
          refine g_locp [0, 1, 2, 3, 4, 5] rfl ?_
          have hb := mul_bd hp1 hp2 (show 0 ≤ 98 - mi M 2 q by omega) (by omega)
          have hb2 := md_bd (pt * (98 - mi M 2 q))
          rw [zI_sub, zI_mul, zI_remN hb.1 (by omega) (by decide) (by decide), zI_add]
          refine ih (q + 1) (by omega) i w _ hi hb2.1 hb2.2 ?_ K
          rw [zI_eqz (by omega) (by omega) (by omega) (by omega)] at c36
          rw [prodW, if_neg c36, ← Int.mul_assoc]
          exact cg_t (cg_m _) (cg_x hp (by unfold cgr; omega))
        · refine g_aload_n rfl dX4_sumAtPlace_39 ?_
          refine gf_X4_13 (by decide) rfl rfl dX4_sumAtPlace_40 ?_
          refine g_iload rfl dX4_sumAtPlace_43 ?_
          refine g_iald (n := 3) (by decide) rfl rfl (zI_in (by omega) (by omega) (by decide)) dX4_sumAtPlace_45 ?_
          rw [ld_m M 2 (by omega)]
          refine g_goto (tgt := 59) dX4_sumAtPlace_46 (by decide) ?_
          refine g_istore (L2 := [(0, _), (1, _), (2, _), (3, _), (4, _), (5, _), (6, _)]) (by decide) rfl dX4_sumAtPlace_59 ?_
          refine g_iload rfl dX4_sumAtPlace_61 ?_
          refine g_iload rfl dX4_sumAtPlace_63 ?_
          refine g_imul dX4_sumAtPlace_65 ?_
          refine g_bipush (by decide) dX4_sumAtPlace_66 ?_
          refine g_irem (by decide) dX4_sumAtPlace_68 ?_
          refine g_istore (L2 := [(0, _), (1, _), (2, _), (3, _), (4, _), (5, _), (6, _)]) (by decide) rfl dX4_sumAtPlace_69 ?_
          refine g_iinc (L2 := [(0, _), (1, _), (2, _), (3, _), (4, _), (5, _), (6, _)]) rfl (by decide) rfl dX4_sumAtPlace_71 ?_
          refine g_goto (tgt := 20) dX4_sumAtPlace_74 (by decide) ?_
          refine g_locp [0, 1, 2, 3, 4, 5] rfl ?_
          have hb := mul_bd hp1 hp2 hxq.1 (by omega)
          have hb2 := md_bd (pt * mi M 2 q)
          rw [zI_mul, zI_remN hb.1 (by omega) (by decide) (by decide), zI_add]
          refine ih (q + 1) (by omega) i w _ hi hb2.1 hb2.2 ?_ K
          rw [zI_eqz (by omega) (by omega) (by omega) (by omega)] at c36
          rw [prodW, if_pos c36, ← Int.mul_assoc]
          exact cg_t (cg_m _) (cg_x hp (cg_r _))
  have outer : ∀ (d i : Nat), d + i = 2 ^ m → ∀ (w : Int), 0 ≤ w → w ≤ 97 * i → cgr w (sumW (mi M k) (mi M 2) m i) →
      G yX4_sumAtPlace.cls cX4_sumAtPlace 7 (some .int) (gE 1 Q) 4 [(0, .ref 0), (1, .ref k), (2, .int (zI w)), (3, .int (zI i))] [] M := by
    intro d
    induction d with
    | zero =>
      intro i hi w hw1 hw2 hw
      refine g_iload_n rfl dX4_sumAtPlace_4 ?_
      refine g_aload_n rfl dX4_sumAtPlace_5 ?_
      refine gi_X4_60 (by decide) rfl (ev_X4_count h1 h2 hm) rfl rfl ⟨Nat.le_of_ble_eq_true rfl, Nat.le_of_ble_eq_true rfl, Nat.le_of_ble_eq_true rfl, Nat.le_of_ble_eq_true rfl⟩ (Nat.le_of_ble_eq_true rfl) dX4_sumAtPlace_6 (fun r6 M6 hq6 => ?_)
      obtain ⟨rfl, rfl⟩ := hq6
      refine g_icmp_ge (tgt := 88) dX4_sumAtPlace_9 (by decide) (fun c9 => ?_) (fun c9 => ?_)
      · refine g_iload_n rfl dX4_sumAtPlace_88 ?_
        refine g_bipush (by decide) dX4_sumAtPlace_89 ?_
        refine g_irem (by decide) dX4_sumAtPlace_91 ?_
        refine g_ireturn rfl dX4_sumAtPlace_92 ?_
        rw [zI_remN hw1 (by omega) (by decide) (by decide), cg_e hw]
        obtain rfl : i = 2 ^ m := by omega
        exact hQ
      · exact n_lt_of c9 (by omega) (by omega) (by omega) (by omega) (by omega)
    | succ d ih =>
      intro i hi w hw1 hw2 hw
      have hci := hc i (by omega)
      refine g_iload_n rfl dX4_sumAtPlace_4 ?_
      refine g_aload_n rfl dX4_sumAtPlace_5 ?_
      refine gi_X4_60 (by decide) rfl (ev_X4_count h1 h2 hm) rfl rfl ⟨Nat.le_of_ble_eq_true rfl, Nat.le_of_ble_eq_true rfl, Nat.le_of_ble_eq_true rfl, Nat.le_of_ble_eq_true rfl⟩ (Nat.le_of_ble_eq_true rfl) dX4_sumAtPlace_6 (fun r6 M6 hq6 => ?_)
      obtain ⟨rfl, rfl⟩ := hq6
      refine g_icmp_ge (tgt := 88) dX4_sumAtPlace_9 (by decide) (fun c9 => ?_) (fun c9 => ?_)
      · refine g_iload_n rfl dX4_sumAtPlace_88 ?_
        refine g_bipush (by decide) dX4_sumAtPlace_89 ?_
        refine g_irem (by decide) dX4_sumAtPlace_91 ?_
        refine g_ireturn rfl dX4_sumAtPlace_92 ?_
        exact n_le_of c9 (by omega) (by omega) (by omega) (by omega) (by omega)
      · refine g_aload_n rfl dX4_sumAtPlace_12 ?_
        refine g_iload_n rfl dX4_sumAtPlace_13 ?_
        refine g_iald (n := 8)  hk hs hN (zI_in (by omega) (by omega) (by decide)) dX4_sumAtPlace_14 ?_
        refine g_istore (L2 := [(0, _), (1, _), (2, _), (3, _), (4, _)]) (by decide) rfl dX4_sumAtPlace_15 ?_
        refine g_iconst dX4_sumAtPlace_17 ?_
        refine g_istore (L2 := [(0, _), (1, _), (2, _), (3, _), (4, _), (5, _)]) (by decide) rfl dX4_sumAtPlace_18 ?_
        rw [ld_m M k (by omega)]
        refine inner m 0 (by omega) i w _ (by omega) hci.1 hci.2 (by rw [prodW, Int.mul_one]; exact cg_r _) (fun pt' hp1 hp2 hp => ?_)
        refine g_iload_n rfl dX4_sumAtPlace_77 ?_
        refine g_iload rfl dX4_sumAtPlace_78 ?_
        refine g_iadd dX4_sumAtPlace_80 ?_
        refine g_istore_n (L2 := [(0, _), (1, _), (2, _), (3, _), (4, _)]) (by decide) rfl dX4_sumAtPlace_81 ?_
        refine g_iinc (L2 := [(0, _), (1, _), (2, _), (3, _), (4, _)]) rfl (by decide) rfl dX4_sumAtPlace_82 ?_
        refine g_goto (tgt := 4) dX4_sumAtPlace_85 (by decide) ?_
        refine g_locp [0, 1, 2, 3] rfl ?_
        rw [zI_add, zI_add]
        refine ih (i + 1) (by omega) _ (by omega) (by omega) ?_
        rw [sumW]
        exact cg_a hw hp
  refine g_iconst dX4_sumAtPlace_0 ?_
  refine g_istore_n (L2 := [(0, _), (1, _), (2, _)]) (by decide) rfl dX4_sumAtPlace_1 ?_
  refine g_iconst dX4_sumAtPlace_2 ?_
  refine g_istore_n (L2 := [(0, _), (1, _), (2, _), (3, _)]) (by decide) rfl dX4_sumAtPlace_3 ?_
  exact outer (2 ^ m) 0 (by omega) 0 (by omega) (by omega) (cg_r _)
end
section
/-! stores: store j is the cell 3 + j, what it keeps is the cell 12 + j -/
theorem rf3 : ∀ j, j < 10 → 1 ≤ j → rf 3 (j - 1) = some (3 + j) := by decide +kernel
theorem shS : ∀ j, j < 10 → 1 ≤ j → shK (3 + j) = 3 := by decide +kernel
theorem rfS : ∀ j, j < 10 → 1 ≤ j → rf (3 + j) 0 = some (12 + j) := by decide +kernel
theorem shSK : ∀ j, j < 10 → 1 ≤ j → shK (12 + j) = 6 := by decide +kernel
theorem shSN : ∀ j, j < 10 → 1 ≤ j → shN (12 + j) = 8 := by decide +kernel
theorem eqz_mi {M : Mem} {a b : Nat} {c : Int} (h1 : -2147483648 ≤ c) (h2 : c < 2147483648) : M a b = zI c ↔ mi M a b = c := by
  rw [i_eq, zI_toInt h1 h2]
  exact Iff.rfl
/-- the cell that a store's copy is -/
def hc (M : Mem) (j : Nat) : Nat := if mi M (3 + j) 1 = 2 then 12 + j else 1
theorem hc_lt (M : Mem) {j : Nat} (h : j < 10) : hc M j < 42 := by unfold hc; split <;> omega
theorem hc_sh (M : Mem) {j : Nat} (h : j < 10) (h1 : 1 ≤ j) : shK (hc M j) = 6 := by
  unfold hc
  split
  · exact shSK j h h1
  · rfl
theorem hc_n (M : Mem) {j : Nat} (h : j < 10) (h1 : 1 ≤ j) : shN (hc M j) = 8 := by
  unfold hc
  split
  · exact shSN j h h1
  · rfl
/-- how many of 1 .. s have p -/
def cnt (p : Nat → Bool) : Nat → Nat
  | 0 => 0
  | s + 1 => cnt p s + (if p (s + 1) = true then 1 else 0)
theorem cnt_le (p : Nat → Bool) : ∀ s, cnt p s ≤ s
  | 0 => Nat.le_refl _
  | s + 1 => by
    have := cnt_le p s
    unfold cnt
    split <;> omega
theorem cnt_ext {p q : Nat → Bool} : ∀ s, (∀ j, 1 ≤ j → j ≤ s → p j = q j) → cnt p s = cnt q s
  | 0, _ => rfl
  | s + 1, h => by rw [cnt, cnt, cnt_ext s (fun j h1 h2 => h j h1 (by omega)), h (s + 1) (by omega) (by omega)]
/-! longs as numbers -/
def zL (z : Int) : Int64 := Int64.ofInt z
theorem zL_add (a b : Int) : zL a + zL b = zL (a + b) := (Int64.ofInt_add a b).symm
theorem zL_mul (a b : Int) : zL a * zL b = zL (a * b) := (Int64.ofInt_mul a b).symm
theorem zL_sub (a b : Int) : zL a - zL b = zL (a - b) := (Int64.ofInt_sub a b).symm
theorem zL_toInt {a : Int} (h : -9223372036854775808 ≤ a) (h2 : a < 9223372036854775808) : (zL a).toInt = a := Int64.toInt_ofInt_of_le h h2
theorem zL_div {a d : Int} (h1 : 0 ≤ a) (h2 : a < 9223372036854775808) (h3 : 0 < d) (h4 : d < 9223372036854775808) : zL a / zL d = zL (a / d) := by
  have e : zL a / zL d = zL (a.tdiv d) := (Int64.ofInt_tdiv (a := a) (b := d) (by show (-9223372036854775808 : Int) ≤ a; omega) (Int.le_of_lt_add_one h2) (by show (-9223372036854775808 : Int) ≤ d; omega) (Int.le_of_lt_add_one h4)).symm
  rw [e, Int.tdiv_eq_ediv_of_nonneg h1]
theorem zL_rem {a d : Int} (h1 : 0 ≤ a) (h2 : a < 9223372036854775808) (h3 : 0 < d) (h4 : d < 9223372036854775808) : zL a - zL a / zL d * zL d = zL (a % d) := by
  rw [zL_div h1 h2 h3 h4, zL_mul, zL_sub]
  congr 1
  have := Int.emod_add_ediv_mul a d
  omega
theorem zI_l {a : Int} (h : -2147483648 ≤ a) (h2 : a < 2147483648) : (zI a).toInt64 = zL a := by
  apply Int64.toInt_inj.mp
  rw [Int32.toInt_toInt64, zI_toInt h h2, zL_toInt (by omega) (by omega)]
theorem zL_i (a : Int) : (zL a).toInt32 = zI a := by
  apply Int32.toInt_inj.mp
  unfold zL zI
  rw [Int64.toInt_toInt32, Int64.toInt_ofInt, Int32.toInt_ofInt]
  exact Int.bmod_bmod_of_dvd (by decide)
/-! memory filled from place 0 on -/
def mfill (M : Mem) (k n : Nat) (f : Nat → Int32) : Mem := fun a b => if a = k ∧ b < n then f b else M a b
theorem mfill_0 (M : Mem) (k : Nat) (f : Nat → Int32) : mfill M k 0 f = M := by
  funext a b
  simp [mfill]
theorem mfill_s (M : Mem) (k n : Nat) (f : Nat → Int32) : mset (mfill M k n f) k n (f n) = mfill M k (n + 1) f := by
  funext a b
  unfold mset mfill
  by_cases ha : a = k
  · subst ha
    by_cases hb : b = n
    · subst hb
      rw [if_pos rfl, if_pos rfl, if_pos ⟨rfl, by omega⟩]
    · rw [if_pos rfl, if_neg hb]
      by_cases h : b < n
      · rw [if_pos ⟨rfl, h⟩, if_pos ⟨rfl, by omega⟩]
      · rw [if_neg (fun q => h q.2), if_neg (fun q => h (by omega))]
  · rw [if_neg ha, if_neg (fun q => ha q.1), if_neg (fun q => ha q.1)]
theorem mfill_in (M : Mem) {k n b : Nat} (f : Nat → Int32) (h : b < n) : mfill M k n f k b = f b := by
  unfold mfill
  rw [if_pos ⟨rfl, h⟩]
theorem mfill_ne (M : Mem) {k n a : Nat} (f : Nat → Int32) (h : a ≠ k) : mfill M k n f a = M a := by
  funext b
  unfold mfill
  rw [if_neg (fun q => h q.1)]
theorem mfill_ex (M : Mem) {k n : Nat} {f g : Nat → Int32} (h : ∀ q, q < n → f q = g q) : mfill M k n f = mfill M k n g := by
  funext a b
  unfold mfill
  by_cases hq : a = k ∧ b < n
  · rw [if_pos hq, if_pos hq, h b hq.2]
  · rw [if_neg hq, if_neg hq]
/-! the lots that a seed draws -/
def lcg (z : Int) : Int := (1103515245 * z + 12345) % 2147483648
def lcgs (s : Int) : Nat → Int
  | 0 => s
  | n + 1 => lcg (lcgs s n)
def lotS (s : Int) (q : Nat) : Int := lcgs s (q + 1) / 256 % 97
theorem lcgs_bd {s : Int} (h : 0 ≤ s) (h2 : s < 2147483648) : ∀ n, 0 ≤ lcgs s n ∧ lcgs s n < 2147483648
  | 0 => ⟨h, h2⟩
  | n + 1 => by
    unfold lcgs lcg
    omega
theorem lotS_bd (s : Int) (q : Nat) : 0 ≤ lotS s q ∧ lotS s q < 97 := md_bd _
theorem zL_lcg {z : Int} (h : 0 ≤ z) (h2 : z < 2147483648) : zL 1103515245 * zL z + zL 12345 - (zL 1103515245 * zL z + zL 12345) / zL 2147483648 * zL 2147483648 = zL (lcg z) := by
  rw [zL_mul, zL_add, zL_rem (by omega) (by omega) (by decide) (by decide)]
  rfl
theorem zL_lot {z : Int} (h : 0 ≤ z) (h2 : z < 2147483648) : (zL z / zL 256 - zL z / zL 256 / zL 97 * zL 97).toInt32 = zI (z / 256 % 97) := by
  rw [zL_div h (by omega) (by decide) (by decide), zL_rem (by omega) (by omega) (by decide) (by decide), zL_i]
end
section
/-! class SilentAsking: stores, lots, points -/
theorem ev_X4_storeOf {j : Nat} (h1 : 1 ≤ j) (h2 : j < 10) (M : Mem) : EvF yX4_storeOf cX4_storeOf 2 (Option.some (FieldType.object "SilentAsking$Store")) 0 [.ref 0, .int (zI j)] M (some (.ref (3 + j))) M := by
  refine EvF.of (by decide +kernel) (Nat.le_of_ble_eq_true rfl) (fun Q hQ => ?_)
  have e : zI (j : Int) - zI 1 = zI ((j - 1 : Nat) : Int) := by
    rw [zI_sub]
    congr 1
    omega
  refine g_aload_n rfl dX4_storeOf_0 ?_
  refine gf_X4_18 (by decide) rfl rfl dX4_storeOf_1 ?_
  refine g_iload_n rfl dX4_storeOf_4 ?_
  refine g_iconst dX4_storeOf_5 ?_
  refine g_isub dX4_storeOf_6 ?_
  rw [e]
  refine g_aald (n := 9) (r := 3 + j) (by decide) rfl rfl (zI_in (by omega) (by omega) (by decide)) (by rw [zI_clamp (by omega) (by omega)]; exact rf3 j h2 h1) dX4_storeOf_7 ?_
  refine g_areturn rfl (Or.inl ⟨_, rfl⟩) dX4_storeOf_8 ?_
  exact hQ
theorem ev_X3_held {j : Nat} (h1 : 1 ≤ j) (h2 : j < 10) (M : Mem) : EvF yX3_held cX3_held 2 (Option.some (FieldType.array FieldType.int)) 0 [.ref (3 + j), .ref 1] M (some (.ref (hc M j))) M := by
  refine EvF.of (by decide +kernel) (Nat.le_of_ble_eq_true rfl) (fun Q hQ => ?_)
  refine g_aload_n rfl dX3_held_0 ?_
  refine gf_X3_15 (by omega) (shS j h2 h1) dX3_held_1 ?_
  refine g_iconst dX3_held_4 ?_
  refine g_icmp_ne (tgt := 15) dX3_held_5 (by decide) (fun c5 => ?_) (fun c5 => ?_)
  · refine g_aload_n rfl dX3_held_15 ?_
    refine g_areturn rfl (Or.inr ⟨_, rfl⟩) dX3_held_16 ?_
    rw [eqz_mi (by decide) (by decide)] at c5
    rw [hc, if_neg c5] at hQ
    exact hQ
  · refine g_aload_n rfl dX3_held_8 ?_
    refine gf_X3_9 (by omega) (shS j h2 h1) (rfS j h2 h1) dX3_held_9 ?_
    refine g_goto (tgt := 16) dX3_held_12 (by decide) ?_
    refine g_areturn rfl (Or.inr ⟨_, rfl⟩) dX3_held_16 ?_
    rw [eqz_mi (by decide) (by decide)] at c5
    rw [hc, if_pos c5] at hQ
    exact hQ
theorem ev_X4_copied {j i : Nat} (h1 : 1 ≤ j) (h2 : j < 10) (hi : i < 8) (M : Mem) : EvF yX4_copied cX4_copied 3 (some .int) 1 [.ref 0, .ref (3 + j), .int (zI i)] M (some (.int (if mi M (3 + j) 1 = 3 then zI (-9) else M (hc M j) i))) M := by
  refine EvF.of (by decide +kernel) (Nat.le_of_ble_eq_true rfl) (fun Q hQ => ?_)
  refine g_aload_n rfl dX4_copied_0 ?_
  refine gf_X4_92 (by omega) (shS j h2 h1) dX4_copied_1 ?_
  refine g_iconst dX4_copied_4 ?_
  refine g_icmp_ne (tgt := 13) dX4_copied_5 (by decide) (fun c5 => ?_) (fun c5 => ?_)
  · refine g_aload_n rfl dX4_copied_13 ?_
    refine g_aload_n rfl dX4_copied_14 ?_
    refine gf_X4_9 (by decide) rfl rfl dX4_copied_15 ?_
    refine gi_X4_193 (by omega) (shS j h2 h1) (ev_X3_held h1 h2 M) rfl rfl ⟨Nat.le_of_ble_eq_true rfl, Nat.le_of_ble_eq_true rfl, Nat.le_of_ble_eq_true rfl, Nat.le_of_ble_eq_true rfl⟩ (Nat.le_of_ble_eq_true rfl) dX4_copied_18 (fun r18 M18 hq18 => ?_)
    obtain ⟨rfl, rfl⟩ := hq18
    refine g_iload_n rfl dX4_copied_21 ?_
    refine g_iald (n := 8)  (hc_lt M h2) (hc_sh M h2 h1) (hc_n M h2 h1) (zI_in (by omega) (by omega) (by decide)) dX4_copied_22 ?_
    refine g_ireturn rfl dX4_copied_23 ?_
    rw [eqz_mi (by decide) (by decide)] at c5
    rw [if_neg c5] at hQ
    rw [ld_m M (hc M j) (by omega), mi_z]
    exact hQ
  · refine g_bipush (by decide) dX4_copied_8 ?_
    refine g_goto (tgt := 23) dX4_copied_10 (by decide) ?_
    refine g_ireturn rfl dX4_copied_23 ?_
    rw [eqz_mi (by decide) (by decide)] at c5
    rw [if_pos c5] at hQ
    exact hQ
theorem ev_X4_trueStores (M : Mem) : EvF yX4_trueStores cX4_trueStores 3 (some .int) 1 [.ref 0] M (some (.int (zI (cnt (fun j => decide (mi M (3 + j) 1 = 0)) 9)))) M := by
  refine EvF.of (by decide +kernel) (Nat.le_of_ble_eq_true rfl) (fun Q hQ => ?_)
  have loop : ∀ (d j : Nat), d + j = 9 → G yX4_trueStores.cls cX4_trueStores 3 (some .int) (gE 1 Q) 4 [(0, .ref 0), (1, .int (zI (cnt (fun j => decide (mi M (3 + j) 1 = 0)) j))), (2, .int (zI ((j + 1 : Nat) : Int)))] [] M := by
    intro d
    induction d with
    | zero =>
      intro j hj
      refine g_iload_n rfl dX4_trueStores_4 ?_
      refine g_bipush (by decide) dX4_trueStores_5 ?_
      refine g_icmp_gt (tgt := 30) dX4_trueStores_7 (by decide) (fun c7 => ?_) (fun c7 => ?_)
      · refine g_iload_n rfl dX4_trueStores_30 ?_
        refine g_ireturn rfl dX4_trueStores_31 ?_
        obtain rfl : j = 9 := by omega
        exact hQ
      · simp (disch := omega) only [i_lt, zI_toInt] at c7
        omega
    | succ d ih =>
      intro j hj
      refine g_iload_n rfl dX4_trueStores_4 ?_
      refine g_bipush (by decide) dX4_trueStores_5 ?_
      refine g_icmp_gt (tgt := 30) dX4_trueStores_7 (by decide) (fun c7 => ?_) (fun c7 => ?_)
      · simp (disch := omega) only [i_lt, zI_toInt] at c7
        omega
      · refine g_aload_n rfl dX4_trueStores_10 ?_
        refine g_iload_n rfl dX4_trueStores_11 ?_
        refine gi_X4_64 (by decide) rfl (ev_X4_storeOf (j := j + 1) (by omega) (by omega) M) rfl rfl ⟨Nat.le_of_ble_eq_true rfl, Nat.le_of_ble_eq_true rfl, Nat.le_of_ble_eq_true rfl, Nat.le_of_ble_eq_true rfl⟩ (Nat.le_of_ble_eq_true rfl) dX4_trueStores_12 (fun r12 M12 hq12 => ?_)
        obtain ⟨rfl, rfl⟩ := hq12
        refine gf_X4_92 (by omega) (shS (j + 1) (by omega) (by omega)) dX4_trueStores_15 ?_
        refine g_if_ne (tgt := 24) dX4_trueStores_18 (by decide) (fun c18 => ?_) (fun c18 => ?_)
        · refine g_iinc (L2 := [(0, _), (1, _), (2, _)]) rfl (by decide) rfl dX4_trueStores_24 ?_
          refine g_goto (tgt := 4) dX4_trueStores_27 (by decide) ?_
          have e : cnt (fun j => decide (mi M (3 + j) 1 = 0)) (j + 1) = cnt (fun j => decide (mi M (3 + j) 1 = 0)) j := by
            rw [zI_zero, eqz_mi (by decide) (by decide)] at c18
            simp [cnt, c18]
          rw [zI_add, ← e]
          exact ih (j + 1) (by omega)
        · refine g_iinc (L2 := [(0, _), (1, _), (2, _)]) rfl (by decide) rfl dX4_trueStores_21 ?_
          refine g_iinc (L2 := [(0, _), (1, _), (2, _)]) rfl (by decide) rfl dX4_trueStores_24 ?_
          refine g_goto (tgt := 4) dX4_trueStores_27 (by decide) ?_
          have e : ((cnt (fun j => decide (mi M (3 + j) 1 = 0)) j : Nat) : Int) + 1 = (cnt (fun j => decide (mi M (3 + j) 1 = 0)) (j + 1) : Nat) := by
            rw [zI_zero, eqz_mi (by decide) (by decide)] at c18
            simp [cnt, c18]
          rw [zI_add, zI_add, e]
          exact ih (j + 1) (by omega)
  refine g_iconst dX4_trueStores_0 ?_
  refine g_istore_n (L2 := [(0, _), (1, _)]) (by decide) rfl dX4_trueStores_1 ?_
  refine g_iconst dX4_trueStores_2 ?_
  refine g_istore_n (L2 := [(0, _), (1, _), (2, _)]) (by decide) rfl dX4_trueStores_3 ?_
  exact loop 9 0 (by omega)
/-- who tells -/
def tells (M : Mem) (j : Nat) : Bool := decide (¬ mi M (3 + j) 1 = 3)
theorem ev_X4_tellingStores {s : Nat} (h2 : s < 10) (M : Mem) : EvF yX4_tellingStores cX4_tellingStores 4 (some .int) 1 [.ref 0, .int (zI s)] M (some (.int (zI (cnt (tells M) s)))) M := by
  refine EvF.of (by decide +kernel) (Nat.le_of_ble_eq_true rfl) (fun Q hQ => ?_)
  have loop : ∀ (d j : Nat), d + j = s → G yX4_tellingStores.cls cX4_tellingStores 4 (some .int) (gE 1 Q) 4 [(0, .ref 0), (1, .int (zI s)), (2, .int (zI (cnt (tells M) j))), (3, .int (zI ((j + 1 : Nat) : Int)))] [] M := by
    intro d
    induction d with
    | zero =>
      intro j hj
      refine g_iload_n rfl dX4_tellingStores_4 ?_
      refine g_iload_n rfl dX4_tellingStores_5 ?_
      refine g_icmp_gt (tgt := 30) dX4_tellingStores_6 (by decide) (fun c6 => ?_) (fun c6 => ?_)
      · refine g_iload_n rfl dX4_tellingStores_30 ?_
        refine g_ireturn rfl dX4_tellingStores_31 ?_
        obtain rfl : j = s := by omega
        exact hQ
      · simp (disch := omega) only [i_lt, zI_toInt] at c6
        omega
    | succ d ih =>
      intro j hj
      refine g_iload_n rfl dX4_tellingStores_4 ?_
      refine g_iload_n rfl dX4_tellingStores_5 ?_
      refine g_icmp_gt (tgt := 30) dX4_tellingStores_6 (by decide) (fun c6 => ?_) (fun c6 => ?_)
      · simp (disch := omega) only [i_lt, zI_toInt] at c6
        omega
      · refine g_aload_n rfl dX4_tellingStores_9 ?_
        refine g_iload_n rfl dX4_tellingStores_10 ?_
        refine gi_X4_64 (by decide) rfl (ev_X4_storeOf (j := j + 1) (by omega) (by omega) M) rfl rfl ⟨Nat.le_of_ble_eq_true rfl, Nat.le_of_ble_eq_true rfl, Nat.le_of_ble_eq_true rfl, Nat.le_of_ble_eq_true rfl⟩ (Nat.le_of_ble_eq_true rfl) dX4_tellingStores_11 (fun r11 M11 hq11 => ?_)
        obtain ⟨rfl, rfl⟩ := hq11
        refine gf_X4_92 (by omega) (shS (j + 1) (by omega) (by omega)) dX4_tellingStores_14 ?_
        refine g_iconst dX4_tellingStores_17 ?_
        refine g_icmp_eq (tgt := 24) dX4_tellingStores_18 (by decide) (fun c18 => ?_) (fun c18 => ?_)
        · refine g_iinc (L2 := [(0, _), (1, _), (2, _), (3, _)]) rfl (by decide) rfl dX4_tellingStores_24 ?_
          refine g_goto (tgt := 4) dX4_tellingStores_27 (by decide) ?_
          have e : cnt (tells M) (j + 1) = cnt (tells M) j := by
            rw [eqz_mi (by decide) (by decide)] at c18
            simp [cnt, tells, c18]
          rw [zI_add, ← e]
          exact ih (j + 1) (by omega)
        · refine g_iinc (L2 := [(0, _), (1, _), (2, _), (3, _)]) rfl (by decide) rfl dX4_tellingStores_21 ?_
          refine g_iinc (L2 := [(0, _), (1, _), (2, _), (3, _)]) rfl (by decide) rfl dX4_tellingStores_24 ?_
          refine g_goto (tgt := 4) dX4_tellingStores_27 (by decide) ?_
          have e : ((cnt (tells M) j : Nat) : Int) + 1 = (cnt (tells M) (j + 1) : Nat) := by
            rw [eqz_mi (by decide) (by decide)] at c18
            simp [cnt, tells, c18]
          rw [zI_add, zI_add, e]
          exact ih (j + 1) (by omega)
  refine g_iconst dX4_tellingStores_0 ?_
  refine g_istore_n (L2 := [(0, _), (1, _), (2, _)]) (by decide) rfl dX4_tellingStores_1 ?_
  refine g_iconst dX4_tellingStores_2 ?_
  refine g_istore_n (L2 := [(0, _), (1, _), (2, _), (3, _)]) (by decide) rfl dX4_tellingStores_3 ?_
  exact loop s 0 (by omega)
theorem ev_X4_isRecord {M : Mem} {m : Nat} (h1 : 1 ≤ m) (h2 : m ≤ 3) (hm : M 0 6 = zI m) (i : Int32) : EvF yX4_isRecord cX4_isRecord 2 (some .boolean) 1 [.ref 0, .int i] M (some (.int (bI (decide (0 ≤ i.toInt ∧ i.toInt < 2 ^ m))))) M := by
  refine EvF.of (by decide +kernel) (Nat.le_of_ble_eq_true rfl) (fun Q hQ => ?_)
  have h8 := p2_8 h1 h2
  have hz := p2_z m
  refine g_iload_n rfl dX4_isRecord_0 ?_
  refine g_if_lt (tgt := 16) dX4_isRecord_1 (by decide) (fun c1 => ?_) (fun c1 => ?_)
  · refine g_iconst dX4_isRecord_16 ?_
    refine g_zreturn rfl rfl dX4_isRecord_17 ?_
    simp (disch := omega) only [i_lt, i_le, i_eq, zI_toInt, i_0] at c1
    first | (rw [bI_f (decide_eq_false (by omega))] at hQ; exact hQ) | (rw [bI_t (decide_eq_true (by omega))] at hQ; exact hQ)
  · refine g_iload_n rfl dX4_isRecord_4 ?_
    refine g_aload_n rfl dX4_isRecord_5 ?_
    refine gi_X4_60 (by decide) rfl (ev_X4_count h1 h2 hm) rfl rfl ⟨Nat.le_of_ble_eq_true rfl, Nat.le_of_ble_eq_true rfl, Nat.le_of_ble_eq_true rfl, Nat.le_of_ble_eq_true rfl⟩ (Nat.le_of_ble_eq_true rfl) dX4_isRecord_6 (fun r6 M6 hq6 => ?_)
    obtain ⟨rfl, rfl⟩ := hq6
    refine g_icmp_ge (tgt := 16) dX4_isRecord_9 (by decide) (fun c9 => ?_) (fun c9 => ?_)
    · refine g_iconst dX4_isRecord_16 ?_
      refine g_zreturn rfl rfl dX4_isRecord_17 ?_
      simp (disch := omega) only [i_lt, i_le, i_eq, zI_toInt, i_0] at c1 c9
      first | (rw [bI_f (decide_eq_false (by omega))] at hQ; exact hQ) | (rw [bI_t (decide_eq_true (by omega))] at hQ; exact hQ)
    · refine g_iconst dX4_isRecord_12 ?_
      refine g_goto (tgt := 17) dX4_isRecord_13 (by decide) ?_
      refine g_zreturn rfl rfl dX4_isRecord_17 ?_
      simp (disch := omega) only [i_lt, i_le, i_eq, zI_toInt, i_0] at c1 c9
      first | (rw [bI_f (decide_eq_false (by omega))] at hQ; exact hQ) | (rw [bI_t (decide_eq_true (by omega))] at hQ; exact hQ)
theorem ev_X4_isRecordSet {M : Mem} {m : Nat} (h1 : 1 ≤ m) (h2 : m ≤ 3) (hm : M 0 6 = zI m) (i : Int32) : EvF yX4_isRecordSet cX4_isRecordSet 2 (some .boolean) 1 [.ref 0, .int i] M (some (.int (bI (decide (0 ≤ i.toInt ∧ i.toInt < 2 ^ (2 ^ m)))))) M := by
  refine EvF.of (by decide +kernel) (Nat.le_of_ble_eq_true rfl) (fun Q hQ => ?_)
  have h8 := p2_8 h1 h2
  have hz := p2_z m
  have hb : (4 : Int) ≤ 2 ^ (2 ^ m) ∧ (2 : Int) ^ (2 ^ m) ≤ 256 := by rcases (by omega : m = 1 ∨ m = 2 ∨ m = 3) with rfl | rfl | rfl <;> decide
  refine g_iload_n rfl dX4_isRecordSet_0 ?_
  refine g_if_lt (tgt := 18) dX4_isRecordSet_1 (by decide) (fun c1 => ?_) (fun c1 => ?_)
  · refine g_iconst dX4_isRecordSet_18 ?_
    refine g_zreturn rfl rfl dX4_isRecordSet_19 ?_
    simp (disch := omega) only [i_lt, i_le, i_eq, zI_toInt, i_0] at c1
    first | (rw [bI_f (decide_eq_false (by omega))] at hQ; exact hQ) | (rw [bI_t (decide_eq_true (by omega))] at hQ; exact hQ)
  · refine g_iload_n rfl dX4_isRecordSet_4 ?_
    refine g_iconst dX4_isRecordSet_5 ?_
    refine g_aload_n rfl dX4_isRecordSet_6 ?_
    refine gi_X4_60 (by decide) rfl (ev_X4_count h1 h2 hm) rfl rfl ⟨Nat.le_of_ble_eq_true rfl, Nat.le_of_ble_eq_true rfl, Nat.le_of_ble_eq_true rfl, Nat.le_of_ble_eq_true rfl⟩ (Nat.le_of_ble_eq_true rfl) dX4_isRecordSet_7 (fun r7 M7 hq7 => ?_)
    obtain ⟨rfl, rfl⟩ := hq7
    refine g_ishl dX4_isRecordSet_10 ?_
    rw [hz, zI_shl (by decide) (by omega) (by omega), Int.one_mul]
    refine g_icmp_ge (tgt := 18) dX4_isRecordSet_11 (by decide) (fun c11 => ?_) (fun c11 => ?_)
    · refine g_iconst dX4_isRecordSet_18 ?_
      refine g_zreturn rfl rfl dX4_isRecordSet_19 ?_
      simp (disch := omega) only [i_lt, i_le, i_eq, zI_toInt, i_0] at c1 c11
      first | (rw [bI_f (decide_eq_false (by omega))] at hQ; exact hQ) | (rw [bI_t (decide_eq_true (by omega))] at hQ; exact hQ)
    · refine g_iconst dX4_isRecordSet_14 ?_
      refine g_goto (tgt := 19) dX4_isRecordSet_15 (by decide) ?_
      refine g_zreturn rfl rfl dX4_isRecordSet_19 ?_
      simp (disch := omega) only [i_lt, i_le, i_eq, zI_toInt, i_0] at c1 c11
      first | (rw [bI_f (decide_eq_false (by omega))] at hQ; exact hQ) | (rw [bI_t (decide_eq_true (by omega))] at hQ; exact hQ)
theorem ev_X4_refusalOfSet {M : Mem} (s : Int32) : EvF yX4_refusalOfSet cX4_refusalOfSet 2 (some .int) 0 [.ref 0, .int s] M (some (.int (if M 22 2 = 0 then zI (-3) else if s = 0 ∨ ¬ s &&& zI (-1023) = 0 then zI (-2) else zI 0))) M := by
  refine EvF.of (by decide +kernel) (Nat.le_of_ble_eq_true rfl) (fun Q hQ => ?_)
  refine g_aload_n rfl dX4_refusalOfSet_0 ?_
  refine gf_X4_25 (by decide) rfl rfl dX4_refusalOfSet_1 ?_
  refine gf_X4_72 (by decide) rfl dX4_refusalOfSet_4 ?_
  refine g_if_ne (tgt := 13) dX4_refusalOfSet_7 (by decide) (fun c7 => ?_) (fun c7 => ?_)
  · refine g_iload_n rfl dX4_refusalOfSet_13 ?_
    refine g_if_eq (tgt := 25) dX4_refusalOfSet_14 (by decide) (fun c14 => ?_) (fun c14 => ?_)
    · refine g_bipush (by decide) dX4_refusalOfSet_25 ?_
      refine g_goto (tgt := 31) dX4_refusalOfSet_27 (by decide) ?_
      refine g_ireturn rfl dX4_refusalOfSet_31 ?_
      rw [if_neg c7, if_pos (Or.inl c14)] at hQ
      exact hQ
    · refine g_iload_n rfl dX4_refusalOfSet_17 ?_
      refine g_sipush (by decide) dX4_refusalOfSet_18 ?_
      refine g_iand dX4_refusalOfSet_21 ?_
      refine g_if_eq (tgt := 30) dX4_refusalOfSet_22 (by decide) (fun c22 => ?_) (fun c22 => ?_)
      · refine g_iconst dX4_refusalOfSet_30 ?_
        refine g_ireturn rfl dX4_refusalOfSet_31 ?_
        rw [if_neg c7, if_neg (fun q => q.elim c14 (fun z => z c22))] at hQ
        exact hQ
      · refine g_bipush (by decide) dX4_refusalOfSet_25 ?_
        refine g_goto (tgt := 31) dX4_refusalOfSet_27 (by decide) ?_
        refine g_ireturn rfl dX4_refusalOfSet_31 ?_
        rw [if_neg c7, if_pos (Or.inr c22)] at hQ
        exact hQ
  · refine g_bipush (by decide) dX4_refusalOfSet_10 ?_
    refine g_ireturn rfl dX4_refusalOfSet_12 ?_
    rw [if_pos c7] at hQ
    exact hQ
theorem mul_bd2 {a b : Int} (h1 : 0 ≤ a) (h2 : a < 200) (h3 : 0 ≤ b) (h4 : b < 97) : 0 ≤ a * b ∧ a * b < 20000 := by
  rw [Int.mul_comm]
  exact mul_bd h3 h4 h1 h2
/-- Horner's way -/
theorem ev_X1_risen {M : Mem} {k first many j n : Nat} (hk : k < 42) (hs : shK k = 6) (hN : shN k = n) (hn : n ≤ 100) (hf : first + many ≤ n) (hj : j < 10) (hx : ∀ q, q < first + many → 0 ≤ mi M k q ∧ mi M k q < 97) :
    EvF yX1_risen cX1_risen 6 (some .int) 0 [.ref k, .int (zI first), .int (zI many), .int (zI j)] M (some (.int (zI (polS (fun e => mi M k (first + e)) j many % 97)))) M := by
  refine EvF.of (by decide +kernel) (Nat.le_of_ble_eq_true rfl) (fun Q hQ => ?_)
  have loop : ∀ (r : Nat), r ≤ many → ∀ v : Int, 0 ≤ v → v < 97 → cgr v (polS (fun e => mi M k (first + r + e)) j (many - r)) →
      G yX1_risen.cls cX1_risen 6 (some .int) (gE 0 Q) 10 [(0, .ref k), (1, .int (zI first)), (2, .int (zI many)), (3, .int (zI j)), (4, .int (zI v)), (5, .int (zI ((first : Int) + r - 1)))] [] M := by
    intro r
    induction r with
    | zero =>
      intro hr v hv1 hv2 hv
      refine g_iload rfl dX1_risen_10 ?_
      refine g_iload_n rfl dX1_risen_12 ?_
      refine g_icmp_lt (tgt := 36) dX1_risen_13 (by decide) (fun c13 => ?_) (fun c13 => ?_)
      · refine g_iload rfl dX1_risen_36 ?_
        refine g_ireturn rfl dX1_risen_38 ?_
        rw [cg_lt hv hv1 hv2]
        exact hQ
      · simp (disch := omega) only [i_lt, zI_toInt] at c13
        omega
    | succ r ih =>
      intro hr v hv1 hv2 hv
      have hxr := hx (first + r) (by omega)
      have e5 : (first : Int) + (r + 1 : Nat) - 1 = ((first + r : Nat) : Int) := by omega
      rw [e5]
      refine g_iload rfl dX1_risen_10 ?_
      refine g_iload_n rfl dX1_risen_12 ?_
      refine g_icmp_lt (tgt := 36) dX1_risen_13 (by decide) (fun c13 => ?_) (fun c13 => ?_)
      · simp (disch := omega) only [i_lt, zI_toInt] at c13
        omega
      · refine g_iload rfl dX1_risen_16 ?_
        refine g_aload_n rfl dX1_risen_18 ?_
        refine g_iload rfl dX1_risen_19 ?_
        refine g_iald  hk hs hN (zI_in (by omega) (by omega) (by omega)) dX1_risen_21 ?_
        rw [ld_m M k (by omega)]
        refine g_iadd dX1_risen_22 ?_
        refine g_iload_n rfl dX1_risen_23 ?_
        refine g_imul dX1_risen_24 ?_
        refine g_bipush (by decide) dX1_risen_25 ?_
        refine g_irem (by decide) dX1_risen_27 ?_
        refine g_istore (L2 := [(0, _), (1, _), (2, _), (3, _), (4, _), (5, _)]) (by decide) rfl dX1_risen_28 ?_
        refine g_iinc (L2 := [(0, _), (1, _), (2, _), (3, _), (4, _), (5, _)]) rfl (by decide) rfl dX1_risen_30 ?_
        refine g_goto (tgt := 10) dX1_risen_33 (by decide) ?_
        have hb := mul_bd2 (show 0 ≤ v + mi M k (first + r) by omega) (by omega) (show 0 ≤ (j : Int) by omega) (by omega)
        rw [zI_add, zI_mul, zI_remN hb.1 (by omega) (by decide) (by decide), zI_add]
        have e6 : ((first + r : Nat) : Int) + -1 = (first : Int) + r - 1 := by omega
        rw [e6]
        refine ih (by omega) _ (md_bd _).1 (md_bd _).2 ?_
        rw [show many - r = (many - (r + 1)) + 1 by omega, polS_shift]
        refine cg_t (cg_m _) (cg_x ?_ (cg_r _))
        rw [Int.add_comm]
        refine cg_a (cg_r _) ?_
        have e7 : (fun e => mi M k (first + r + (e + 1))) = (fun e => mi M k (first + (r + 1) + e)) := by
          funext e
          congr 1
          omega
        rw [e7]
        exact hv
  refine g_iconst dX1_risen_0 ?_
  refine g_istore (L2 := [(0, _), (1, _), (2, _), (3, _), (4, _)]) (by decide) rfl dX1_risen_1 ?_
  refine g_iload_n rfl dX1_risen_3 ?_
  refine g_iload_n rfl dX1_risen_4 ?_
  refine g_iadd dX1_risen_5 ?_
  refine g_iconst dX1_risen_6 ?_
  refine g_isub dX1_risen_7 ?_
  refine g_istore (L2 := [(0, _), (1, _), (2, _), (3, _), (4, _), (5, _)]) (by decide) rfl dX1_risen_8 ?_
  have e := loop many (Nat.le_refl _) 0 (by decide) (by decide) (by rw [Nat.sub_self]; exact cg_r _)
  rw [zI_add, zI_sub]
  exact e
/-- number k of the point of store j -/
def pntS (w t : Int) (lt : Nat → Int) (j k : Nat) : Int := (w / 2 ^ k % 2 + polS (fun e => lt (k * t.toNat + e)) j t.toNat) % 97
theorem pntS_bd (w t : Int) (lt : Nat → Int) (j k : Nat) : 0 ≤ pntS w t lt j k ∧ pntS w t lt j k < 97 := md_bd _
theorem ev_X1_pointNumber {M : Mem} {j k t : Nat} (hk : k < 3) (hj : j < 10) (ht : t ≤ 2) (hw : 0 ≤ mi M 22 4 ∧ mi M 22 4 < 8) (hT : mi M 22 5 = t) (hx : ∀ q, q < 6 → 0 ≤ mi M 23 q ∧ mi M 23 q < 97) :
    EvF yX1_pointNumber cX1_pointNumber 3 (some .int) 1 [.ref 22, .int (zI j), .int (zI k)] M (some (.int (zI (pntS (mi M 22 4) (mi M 22 5) (mi M 23) j k)))) M := by
  refine EvF.of (by decide +kernel) (Nat.le_of_ble_eq_true rfl) (fun Q hQ => ?_)
  have hkt : k * t ≤ 4 := by
    have := Nat.mul_le_mul (show k ≤ 2 by omega) ht
    omega
  have hz : zI (k : Int) * zI (t : Int) = zI ((k * t : Nat) : Int) := by rw [zI_mul, Int.natCast_mul]
  have eT : M 22 5 = zI (t : Int) := by rw [← hT, mi_z]
  refine g_aload_n rfl dX1_pointNumber_0 ?_
  refine gf_X1_25 (by decide) rfl dX1_pointNumber_1 ?_
  rw [← mi_z M 22 4]
  refine g_iload_n rfl dX1_pointNumber_4 ?_
  refine gi_X1_52 (ev_X4_bit (a := mi M 22 4) (k := k) hw.1 (by omega) (by omega) M) rfl rfl ⟨Nat.le_of_ble_eq_true rfl, Nat.le_of_ble_eq_true rfl, Nat.le_of_ble_eq_true rfl, Nat.le_of_ble_eq_true rfl⟩ (Nat.le_of_ble_eq_true rfl) dX1_pointNumber_5 (fun r5 M5 hq5 => ?_)
  obtain ⟨rfl, rfl⟩ := hq5
  refine g_aload_n rfl dX1_pointNumber_8 ?_
  refine gf_X1_9 (by decide) rfl rfl dX1_pointNumber_9 ?_
  refine g_iload_n rfl dX1_pointNumber_12 ?_
  refine g_aload_n rfl dX1_pointNumber_13 ?_
  refine gf_X1_29 (by decide) rfl dX1_pointNumber_14 ?_
  rw [eT]
  refine g_imul dX1_pointNumber_17 ?_
  rw [hz]
  refine g_aload_n rfl dX1_pointNumber_18 ?_
  refine gf_X1_29 (by decide) rfl dX1_pointNumber_19 ?_
  rw [eT]
  refine g_iload_n rfl dX1_pointNumber_22 ?_
  refine gi_X1_56 (ev_X1_risen (M := M) (k := 23) (first := k * t) (many := t) (j := j) (n := 6) (by decide) rfl rfl (by decide) (by omega) hj (fun q hq => hx q (by omega))) rfl rfl ⟨Nat.le_of_ble_eq_true rfl, Nat.le_of_ble_eq_true rfl, Nat.le_of_ble_eq_true rfl, Nat.le_of_ble_eq_true rfl⟩ (Nat.le_of_ble_eq_true rfl) dX1_pointNumber_23 (fun r23 M23 hq23 => ?_)
  obtain ⟨rfl, rfl⟩ := hq23
  refine g_iadd dX1_pointNumber_26 ?_
  refine g_bipush (by decide) dX1_pointNumber_27 ?_
  refine g_irem (by decide) dX1_pointNumber_29 ?_
  refine g_ireturn rfl dX1_pointNumber_30 ?_
  have h1 : 0 ≤ mi M 22 4 / 2 ^ k % 2 := Int.emod_nonneg _ (by decide)
  have h2 : mi M 22 4 / 2 ^ k % 2 < 2 := Int.emod_lt_of_pos _ (by decide)
  have h3 := md_bd (polS (fun e => mi M 23 (k * t + e)) j t)
  rw [zI_add, zI_remN (by omega) (by omega) (by decide) (by decide), cg_e (cg_a (cg_r _) (cg_m _))]
  rw [pntS, hT] at hQ
  exact hQ
def vlS (M : Mem) (j : Nat) : Int := if M 22 3 = 0 then 0 else polS (mi M 24) j (mi M 22 7).toNat % 97
theorem vlS_bd (M : Mem) (j : Nat) : 0 ≤ vlS M j ∧ vlS M j < 97 := by
  unfold vlS
  split
  · decide
  · exact md_bd _
theorem ev_X1_veilAt {M : Mem} {j g : Nat} (hj : j < 10) (hg : mi M 22 7 = g) (hg6 : g ≤ 6) (hx : ∀ q, q < 6 → 0 ≤ mi M 24 q ∧ mi M 24 q < 97) :
    EvF yX1_veilAt cX1_veilAt 2 (some .int) 1 [.ref 22, .int (zI j)] M (some (.int (zI (vlS M j)))) M := by
  refine EvF.of (by decide +kernel) (Nat.le_of_ble_eq_true rfl) (fun Q hQ => ?_)
  have eg : M 22 7 = zI (g : Int) := by rw [← hg, mi_z]
  refine g_aload_n rfl dX1_veilAt_0 ?_
  refine gf_X1_22 (by decide) rfl dX1_veilAt_1 ?_
  refine g_if_eq (tgt := 23) dX1_veilAt_4 (by decide) (fun c4 => ?_) (fun c4 => ?_)
  · refine g_iconst dX1_veilAt_23 ?_
    refine g_ireturn rfl dX1_veilAt_24 ?_
    rw [vlS, if_pos c4] at hQ
    exact hQ
  · refine g_aload_n rfl dX1_veilAt_7 ?_
    refine gf_X1_15 (by decide) rfl rfl dX1_veilAt_8 ?_
    refine g_iconst dX1_veilAt_11 ?_
    refine g_aload_n rfl dX1_veilAt_12 ?_
    refine gf_X1_35 (by decide) rfl dX1_veilAt_13 ?_
    rw [eg]
    refine g_iload_n rfl dX1_veilAt_16 ?_
    refine gi_X1_56 (ev_X1_risen (M := M) (k := 24) (first := 0) (many := g) (j := j) (n := 6) (by decide) rfl rfl (by decide) (by omega) hj (fun q hq => hx q (by omega))) rfl rfl ⟨Nat.le_of_ble_eq_true rfl, Nat.le_of_ble_eq_true rfl, Nat.le_of_ble_eq_true rfl, Nat.le_of_ble_eq_true rfl⟩ (Nat.le_of_ble_eq_true rfl) dX1_veilAt_17 (fun r17 M17 hq17 => ?_)
    obtain ⟨rfl, rfl⟩ := hq17
    refine g_goto (tgt := 24) dX1_veilAt_20 (by decide) ?_
    refine g_ireturn rfl dX1_veilAt_24 ?_
    rw [vlS, if_neg c4, hg] at hQ
    simp only [Nat.zero_add]
    exact hQ
theorem ev_X1_drawLots {M : Mem} {k g : Nat} {s : Int} (hk : k < 42) (hs : shK k = 6) (hN : shN k = 6) (hg : mi M 22 7 = g) (hg6 : g ≤ 6) (hk2 : k ≠ 22) (hs1 : 0 ≤ s) (hs2 : s < 2147483648) :
    EvF yX1_drawLots cX1_drawLots 6 none 0 [.ref 22, .ref k, .int (zI s)] M none (mfill M k g (fun q => zI (lotS s q))) := by
  refine EvF.of (by decide +kernel) (Nat.le_of_ble_eq_true rfl) (fun Q hQ => ?_)
  have eg : M 22 7 = zI (g : Int) := by rw [← hg, mi_z]
  have loop : ∀ (d q : Nat), d + q = g → G yX1_drawLots.cls cX1_drawLots 6 none (gE 0 Q) 6 [(0, .ref 22), (1, .ref k), (2, .int (zI s)), (3, .long (zL (lcgs s q))), (5, .int (zI q))] [] (mfill M k q (fun q => zI (lotS s q))) := by
    intro d
    induction d with
    | zero =>
      intro q hq
      refine g_iload rfl dX1_drawLots_6 ?_
      refine g_aload_n rfl dX1_drawLots_8 ?_
      refine gf_X1_35 (by decide) rfl dX1_drawLots_9 ?_
      rw [mfill_ne M _ (Ne.symm hk2), eg]
      refine g_icmp_ge (tgt := 49) dX1_drawLots_12 (by decide) (fun c12 => ?_) (fun c12 => ?_)
      · refine g_return rfl dX1_drawLots_49 ?_
        obtain rfl : q = g := by omega
        exact hQ
      · simp (disch := omega) only [i_le, zI_toInt] at c12
        omega
    | succ d ih =>
      intro q hq
      have hb := lcgs_bd hs1 hs2 q
      have hb2 := lcgs_bd hs1 hs2 (q + 1)
      refine g_iload rfl dX1_drawLots_6 ?_
      refine g_aload_n rfl dX1_drawLots_8 ?_
      refine gf_X1_35 (by decide) rfl dX1_drawLots_9 ?_
      rw [mfill_ne M _ (Ne.symm hk2), eg]
      refine g_icmp_ge (tgt := 49) dX1_drawLots_12 (by decide) (fun c12 => ?_) (fun c12 => ?_)
      · simp (disch := omega) only [i_le, zI_toInt] at c12
        omega
      · refine g_ldc2 gl_X1_42 dX1_drawLots_15 ?_
        refine g_lload_n rfl dX1_drawLots_18 ?_
        refine g_lmul dX1_drawLots_19 ?_
        refine g_ldc2 gl_X1_44 dX1_drawLots_20 ?_
        refine g_ladd dX1_drawLots_23 ?_
        refine g_ldc2 gl_X1_46 dX1_drawLots_24 ?_
        refine g_lrem (by decide) dX1_drawLots_27 ?_
        rw [show (1103515245 : Int64) = zL 1103515245 from rfl, show (12345 : Int64) = zL 12345 from rfl, show (2147483648 : Int64) = zL 2147483648 from rfl, zL_lcg hb.1 hb.2]
        refine g_lstore_n (L2 := [(0, _), (1, _), (2, _), (3, _), (5, _)]) (by decide) rfl dX1_drawLots_28 ?_
        refine g_aload_n rfl dX1_drawLots_29 ?_
        refine g_iload rfl dX1_drawLots_30 ?_
        refine g_lload_n rfl dX1_drawLots_32 ?_
        refine g_ldc2 gl_X1_48 dX1_drawLots_33 ?_
        refine g_ldiv (by decide) dX1_drawLots_36 ?_
        refine g_ldc2 gl_X1_50 dX1_drawLots_37 ?_
        refine g_lrem (by decide) dX1_drawLots_40 ?_
        refine g_l2i dX1_drawLots_41 ?_
        rw [show (256 : Int64) = zL 256 from rfl, show (97 : Int64) = zL 97 from rfl, show lcg (lcgs s q) = lcgs s (q + 1) from rfl, zL_lot hb2.1 hb2.2]
        refine g_iast  hk hs hN (zI_in (by omega) (by omega) (by decide)) dX1_drawLots_42 ?_
        refine g_iinc (L2 := [(0, _), (1, _), (2, _), (3, _), (5, _)]) rfl (by decide) rfl dX1_drawLots_43 ?_
        refine g_goto (tgt := 6) dX1_drawLots_46 (by decide) ?_
        rw [zI_clamp (by omega) (by omega), zI_add]
        have e := ih (q + 1) (by omega)
        rw [← mfill_s] at e
        exact e
  refine g_iload_n rfl dX1_drawLots_0 ?_
  refine g_i2l dX1_drawLots_1 ?_
  rw [zI_l (by omega) hs2]
  refine g_lstore_n (L2 := [(0, _), (1, _), (2, _), (3, _)]) (by decide) rfl dX1_drawLots_2 ?_
  refine g_iconst dX1_drawLots_3 ?_
  refine g_istore (L2 := [(0, _), (1, _), (2, _), (3, _), (5, _)]) (by decide) rfl dX1_drawLots_4 ?_
  have e := loop g 0 (by omega)
  rw [mfill_0] at e
  exact e
end
section
/-! copying eight numbers; the row of what was told; the curve -/
theorem Wd_setg (cI cZ cS : ClassId) (ad : Nat → Nat) (M M' : Mem) {k : Nat} {x : va_E} (ho : ∀ a, a ≠ k → M' a = M a) (hx : x = ent cI cZ cS ad M' k) : (Wd cI cZ cS ad M).set k (ad k, x) = Wd cI cZ cS ad M' := by
  subst hx
  have he : ∀ a, a ≠ k → ent cI cZ cS ad M' a = ent cI cZ cS ad M a := by
    intro a ha
    unfold ent flds fvA
    rw [ho a ha]
  refine List.ext_getElem? fun i => ?_
  by_cases hi : i < 42
  · rw [Wd_get _ _ _ _ _ hi]
    by_cases hik : i = k
    · subst hik
      rw [List.getElem?_set_self (by simp [Wd, hi])]
    · rw [List.getElem?_set_ne (fun e => hik e.symm), Wd_get _ _ _ _ _ hi, he i hik]
  · rw [List.getElem?_eq_none (by simp [Wd]; omega), List.getElem?_eq_none (by simp [Wd]; omega)]
theorem wk_arr : Cond.methodLink RX3 22 arraycopyName ∈ tb ∧ Cond.native arraycopyName ∈ tb ∧ Cond.static arraycopyName ∈ tb ∧ Cond.initialized "java/lang/System" ∈ tb := ⟨tb_w 206 (by decide +kernel) rfl, tb_w 208 (by decide +kernel) rfl, tb_w 207 (by decide +kernel) rfl, tb_w 56 (by decide +kernel) rfl⟩
set_option maxHeartbeats 4000000 in
theorem g_copy8 {b : ByteArray} {nL : Nat} {ret : Option FieldType} {Q : Option Value → Mem → Prop} {pc : Nat} {L : List (Nat × Value)} {M : Mem} {k0 k1 : Nat} (h0 : k0 < 42) (h1 : k1 < 42) (hs0 : shK k0 = 6) (hs1 : shK k1 = 6) (hn0 : shN k0 = 8) (hn1 : shN k1 = 8) (hdg : decode b pc = .ok (.invokestatic 22, 3))
    (kk : G RX3 b nL ret (gE 1 Q) (pc + 3) L [] (mfill M k1 8 (M k0))) : G RX3 b nL ret (gE 1 Q) pc L [.int (zI 8), .int (zI 0), .ref k1, .int (zI 0), .ref k0] M := by
  intro p l ev s m args below meth c D cI cZ cS ad A C CX H locs ls hP hD hS hl
  have he0 := Wd_get cI cZ cS ad M h0
  have he1 := Wd_get cI cZ cS ad M h1
  rw [ent_int cI cZ cS ad M hs0, hn0] at he0
  rw [ent_int cI cZ cS ad M hs1, hn1] at he1
  have hts := C.2.2.2.2.2.1
  refine va_copyi C.1 C.2.1 (C.2.2.2.1.trans hl.1.symm) C.2.2.2.2.1 (hts _ wk_arr.1) (hts _ wk_arr.2.1) (hts _ wk_arr.2.2.1) (hts _ wk_arr.2.2.2) C.2.2.2.2.2.2.2.1 hP hD hS k0 k1 0 0 he0 he1 rfl rfl rfl (by decide) (by decide) (by decide) (by decide) (by decide) (fun _ _ => rfl) (Nat.le_of_ble_eq_true rfl) (by show 0 + (nativeFrameWords "java/lang/System" "arraycopy" 5 + 11) ≤ 31; decide +kernel) hdg (fun H1 locs1 hP1 hD1 hS1 => ?_)
  have e : (Wd cI cZ cS ad M).set k1 (ad k1, .inl (cI, 8, .inl (va_cpy (M k0) (M k1) (zI 0).toNatClampNeg (zI 0).toNatClampNeg (zI 8).toNatClampNeg))) = Wd cI cZ cS ad (mfill M k1 8 (M k0)) := by
    refine Wd_setg _ _ _ _ _ _ (fun a ha => mfill_ne M _ ha) ?_
    rw [ent_int cI cZ cS ad _ hs1, hn1]
    congr 4
    funext b
    show va_cpy (M k0) (M k1) 0 0 8 b = mfill M k1 8 (M k0) k1 b
    unfold va_cpy mfill
    by_cases hb : b < 8
    · rw [if_pos ⟨by omega, by omega⟩, if_pos ⟨rfl, hb⟩]
      congr 1
      omega
    · rw [if_neg (fun q => hb (by omega)), if_neg (fun q => hb q.2)]
  rw [e] at hP1 hD1
  exact kk p l ev s m args below meth c D cI cZ cS ad A C CX H1 locs1 ls hP1 hD1 hS1 hl
/-- outside what every call may use for its reckoning (cells 2, 25 .. 30) nothing changed -/
def Sam (M M' : Mem) : Prop := ∀ a, (a < 25 ∧ a ≠ 2 ∨ 31 ≤ a) → M' a = M a
theorem Sam.r (M : Mem) : Sam M M := fun _ _ => rfl
theorem Sam.t {M M1 M2 : Mem} (h : Sam M M1) (h2 : Sam M1 M2) : Sam M M2 := fun a ha => (h2 a ha).trans (h a ha)
theorem Sam.m {M M' : Mem} (h : Sam M M') {a : Nat} (ha : a < 25 ∧ a ≠ 2 ∨ 31 ≤ a) (b : Nat) : mi M' a b = mi M a b := by unfold mi; rw [h a ha]
theorem Sam.mf {M M' : Mem} (h : Sam M M') {k n : Nat} (f : Nat → Int32) (hk : k = 2 ∨ 25 ≤ k ∧ k < 31) : Sam M (mfill M' k n f) := fun a ha => by rw [mfill_ne M' f (by omega), h a ha]
theorem Sam.ms {M M' : Mem} (h : Sam M M') {k j : Nat} (v : Int32) (hk : k = 2 ∨ 25 ≤ k ∧ k < 31) : Sam M (mset M' k j v) := fun a ha => by rw [mset_other M' j v (by omega), h a ha]
/-- what is told by 1 .. s, in a row -/
def hearL (tl : Nat → Bool) (an : Nat → Int) : Nat → List (Nat × Int)
  | 0 => []
  | s + 1 => hearL tl an s ++ (if tl (s + 1) = true then [(s + 1, an (s + 1))] else [])
theorem hearL_len (tl : Nat → Bool) (an : Nat → Int) : ∀ s, (hearL tl an s).length = cnt tl s
  | 0 => rfl
  | s + 1 => by
    rw [hearL, cnt, List.length_append, hearL_len tl an s]
    split <;> simp
theorem hearL_in (tl : Nat → Bool) (an : Nat → Int) : ∀ s, ∀ e ∈ hearL tl an s, 1 ≤ e.1 ∧ e.1 ≤ s ∧ e.2 = an e.1
  | 0, e, h => by cases h
  | s + 1, e, h => by
    rw [hearL] at h
    rcases List.mem_append.mp h with h | h
    · have := hearL_in tl an s e h
      exact ⟨this.1, by omega, this.2.2⟩
    · by_cases ht : tl (s + 1) = true
      · rw [if_pos ht] at h
        rw [List.mem_singleton.mp h]
        exact ⟨by omega, Nat.le_refl _, rfl⟩
      · rw [if_neg ht] at h
        cases h
theorem hearL_ext {tl tl' : Nat → Bool} {an an' : Nat → Int} : ∀ s, (∀ j, 1 ≤ j → j ≤ s → tl j = tl' j ∧ an j = an' j) → hearL tl an s = hearL tl' an' s
  | 0, _ => rfl
  | s + 1, h => by rw [hearL, hearL, hearL_ext s (fun j h1 h2 => h j h1 (by omega)), (h (s + 1) (by omega) (by omega)).1, (h (s + 1) (by omega) (by omega)).2]
/-- the row (cells 25, 26, 27) holds l -/
def RowIs (M : Mem) (l : List (Nat × Int)) : Prop := M 25 2 = zI l.length ∧ ∀ (p : Nat) (x : Nat × Int), l[p]? = some x → M 26 p = zI x.1 ∧ M 27 p = zI x.2
theorem RowIs.ext {M M' : Mem} {l : List (Nat × Int)} (h : RowIs M l) (h5 : M' 25 = M 25) (h6 : M' 26 = M 26) (h7 : M' 27 = M 27) : RowIs M' l := by
  unfold RowIs
  rw [h5, h6, h7]
  exact h
theorem RowIs.add {M : Mem} {l : List (Nat × Int)} (h : RowIs M l) (j : Nat) (v : Int) : RowIs (mset (mset (mset M 26 l.length (zI j)) 27 l.length (zI v)) 25 2 (zI ((l.length + 1 : Nat) : Int))) (l ++ [(j, v)]) := by
  refine ⟨?_, fun p x hx => ?_⟩
  · rw [mset_same, List.length_append]
    rfl
  · have e6 : (mset (mset (mset M 26 l.length (zI j)) 27 l.length (zI v)) 25 2 (zI ((l.length + 1 : Nat) : Int))) 26 = upd (M 26) l.length (zI j) := by
      rw [mset_other _ _ _ (by decide), mset_other _ _ _ (by decide), mset_row]
    have e7 : (mset (mset (mset M 26 l.length (zI j)) 27 l.length (zI v)) 25 2 (zI ((l.length + 1 : Nat) : Int))) 27 = upd (M 27) l.length (zI v) := by
      rw [mset_other _ _ _ (by decide), mset_row, mset_other _ _ _ (by decide)]
    rw [e6, e7]
    unfold upd
    rcases Nat.lt_trichotomy p l.length with hp | hp | hp
    · rw [List.getElem?_append_left hp] at hx
      rw [if_neg (by omega), if_neg (by omega)]
      exact h.2 p x hx
    · subst hp
      rw [List.getElem?_append_right (Nat.le_refl _), Nat.sub_self] at hx
      cases hx
      rw [if_pos rfl, if_pos rfl]
      exact ⟨rfl, rfl⟩
    · rw [List.getElem?_eq_none (by rw [List.length_append]; simp; omega)] at hx
      cases hx
end
section
/-! class SilentAsking: what stores tell -/
/-- the class's part of memory is well formed -/
def WX (M : Mem) : Prop :=
  (1 ≤ mi M 0 6 ∧ mi M 0 6 ≤ 3) ∧ (∀ i, i < 8 → 0 ≤ mi M 1 i ∧ mi M 1 i < 97) ∧
  (∀ j, 1 ≤ j → j < 10 → 0 ≤ mi M (3 + j) 1 ∧ mi M (3 + j) 1 ≤ 3 ∧ 0 ≤ mi M (3 + j) 2 ∧ mi M (3 + j) 2 < 97) ∧
  (∀ j, 1 ≤ j → j < 10 → ∀ i, i < 8 → 0 ≤ mi M (12 + j) i ∧ mi M (12 + j) i < 97) ∧
  (mi M 22 2 = 0 ∨ mi M 22 2 = 1) ∧ (mi M 22 3 = 0 ∨ mi M 22 3 = 1) ∧ (0 ≤ mi M 22 4 ∧ mi M 22 4 < 8) ∧ (1 ≤ mi M 22 5 ∧ mi M 22 5 ≤ 2) ∧ (1 ≤ mi M 22 6 ∧ mi M 22 6 ≤ 3) ∧ mi M 22 7 = mi M 22 6 * mi M 22 5 ∧
  (∀ q, q < 6 → 0 ≤ mi M 23 q ∧ mi M 23 q < 97) ∧ (∀ q, q < 6 → 0 ≤ mi M 24 q ∧ mi M 24 q < 97) ∧
  (mi M 22 2 = 1 → mi M 22 6 = mi M 0 6 ∧ mi M 22 4 < 2 ^ (mi M 0 6).toNat) ∧ (0 ≤ mi M 0 7 ∧ mi M 0 7 < 1024)
def xm (M : Mem) : Nat := (mi M 0 6).toNat
theorem WX.m {M : Mem} (h : WX M) : 1 ≤ xm M ∧ xm M ≤ 3 ∧ mi M 0 6 = xm M ∧ M 0 6 = zI (xm M) := by
  have h1 := h.1
  have e : mi M 0 6 = (xm M : Int) := by unfold xm; omega
  exact ⟨by unfold xm; omega, by unfold xm; omega, e, by rw [← e, mi_z]⟩
theorem WX.num {M : Mem} (h : WX M) : ∀ i, i < 8 → 0 ≤ mi M 1 i ∧ mi M 1 i < 97 := h.2.1
theorem WX.st {M : Mem} (h : WX M) : ∀ j, 1 ≤ j → j < 10 → 0 ≤ mi M (3 + j) 1 ∧ mi M (3 + j) 1 ≤ 3 ∧ 0 ≤ mi M (3 + j) 2 ∧ mi M (3 + j) 2 < 97 := h.2.2.1
theorem WX.kp {M : Mem} (h : WX M) : ∀ j, 1 ≤ j → j < 10 → ∀ i, i < 8 → 0 ≤ mi M (12 + j) i ∧ mi M (12 + j) i < 97 := h.2.2.2.1
theorem WX.as {M : Mem} (h : WX M) : mi M 22 2 = 0 ∨ mi M 22 2 = 1 := h.2.2.2.2.1
theorem WX.vl {M : Mem} (h : WX M) : mi M 22 3 = 0 ∨ mi M 22 3 = 1 := h.2.2.2.2.2.1
theorem WX.wa {M : Mem} (h : WX M) : 0 ≤ mi M 22 4 ∧ mi M 22 4 < 8 := h.2.2.2.2.2.2.1
theorem WX.kf {M : Mem} (h : WX M) : 1 ≤ mi M 22 5 ∧ mi M 22 5 ≤ 2 := h.2.2.2.2.2.2.2.1
theorem WX.qb {M : Mem} (h : WX M) : 1 ≤ mi M 22 6 ∧ mi M 22 6 ≤ 3 := h.2.2.2.2.2.2.2.2.1
theorem WX.dg {M : Mem} (h : WX M) : mi M 22 7 = mi M 22 6 * mi M 22 5 := h.2.2.2.2.2.2.2.2.2.1
theorem WX.lt {M : Mem} (h : WX M) : ∀ q, q < 6 → 0 ≤ mi M 23 q ∧ mi M 23 q < 97 := h.2.2.2.2.2.2.2.2.2.2.1
theorem WX.vs {M : Mem} (h : WX M) : ∀ q, q < 6 → 0 ≤ mi M 24 q ∧ mi M 24 q < 97 := h.2.2.2.2.2.2.2.2.2.2.2.1
theorem WX.aq {M : Mem} (h : WX M) : mi M 22 2 = 1 → mi M 22 6 = mi M 0 6 ∧ mi M 22 4 < 2 ^ (mi M 0 6).toNat := h.2.2.2.2.2.2.2.2.2.2.2.2.1
theorem WX.ca {M : Mem} (h : WX M) : 0 ≤ mi M 0 7 ∧ mi M 0 7 < 1024 := h.2.2.2.2.2.2.2.2.2.2.2.2.2
theorem WX.dgb {M : Mem} (h : WX M) : 1 ≤ mi M 22 7 ∧ mi M 22 7 ≤ 6 := by
  rw [h.dg]
  have h1 := h.kf
  have h2 := h.qb
  rcases (by omega : mi M 22 5 = 1 ∨ mi M 22 5 = 2) with e | e <;> rw [e] <;> omega
theorem WX.sam {M M' : Mem} (h : WX M) (hs : Sam M M') : WX M' := by
  have e : ∀ a b, (a < 25 ∧ a ≠ 2) → mi M' a b = mi M a b := fun a b ha => hs.m (Or.inl ha) b
  unfold WX
  simp only [e 0 _ (by decide), e 1 _ (by decide), e 22 _ (by decide), e 23 _ (by decide), e 24 _ (by decide)]
  refine ⟨h.1, h.2.1, fun j h1 h2 => ?_, fun j h1 h2 i hi => ?_, h.2.2.2.2⟩
  · rw [e (3 + j) _ (by omega), e (3 + j) _ (by omega)]
    exact h.st j h1 h2
  · rw [e (12 + j) _ (by omega)]
    exact h.kp j h1 h2 i hi
theorem WX.hcb {M : Mem} (h : WX M) {j : Nat} (h1 : 1 ≤ j) (h2 : j < 10) : ∀ i, i < 8 → 0 ≤ mi M (hc M j) i ∧ mi M (hc M j) i < 97 := by
  unfold hc
  split
  · exact h.kp j h1 h2
  · exact h.num
def ptX (M : Mem) (j k : Nat) : Int := pntS (mi M 22 4) (mi M 22 5) (mi M 23) j k
def ansX (M : Mem) (j : Nat) : Int := (sumW (mi M (hc M j)) (ptX M j) (xm M) (2 ^ xm M) % 97 + vlS M j + mi M (3 + j) 2) % 97
theorem hc_sam {M M' : Mem} (hs : Sam M M') {j : Nat} (h2 : j < 10) : hc M' j = hc M j := by
  unfold hc
  rw [hs.m (Or.inl (by omega))]
theorem ptX_sam {M M' : Mem} (hs : Sam M M') (j : Nat) : ptX M' j = ptX M j := by
  have e : mi M' 23 = mi M 23 := funext fun q => hs.m (Or.inl (by decide)) q
  funext k
  unfold ptX
  rw [hs.m (Or.inl (by decide)), hs.m (Or.inl (by decide)), e]
theorem vlS_sam {M M' : Mem} (hs : Sam M M') (j : Nat) : vlS M' j = vlS M j := by
  have e : mi M' 24 = mi M 24 := funext fun q => hs.m (Or.inl (by decide)) q
  unfold vlS
  rw [hs 22 (Or.inl (by decide)), hs.m (Or.inl (by decide)), e]
theorem xm_sam {M M' : Mem} (hs : Sam M M') : xm M' = xm M := by
  unfold xm
  rw [hs.m (Or.inl (by decide))]
theorem ansX_sam {M M' : Mem} (hs : Sam M M') {j : Nat} (h2 : j < 10) : ansX M' j = ansX M j := by
  have e : mi M' (hc M j) = mi M (hc M j) := funext fun q => hs.m (Or.inl (by unfold hc; split <;> omega)) q
  unfold ansX
  rw [hc_sam hs h2, ptX_sam hs, vlS_sam hs, xm_sam hs, e, hs.m (Or.inl (by omega))]
theorem tells_sam {M M' : Mem} (hs : Sam M M') {j : Nat} (h2 : j < 10) : tells M' j = tells M j := by
  unfold tells
  rw [hs.m (Or.inl (by omega))]
theorem ev_X4_toldBy {M : Mem} (hw : WX M) {j : Nat} (h1 : 1 ≤ j) (h2 : j < 10) : EvF yX4_toldBy cX4_toldBy 3 (some .int) 2 [.ref 0, .int (zI j)] M (some (.int (zI (ansX M j)))) (mfill M 2 (xm M) (fun k => zI (ptX M j k))) := by
  refine EvF.of (by decide +kernel) (Nat.le_of_ble_eq_true rfl) (fun Q hQ => ?_)
  obtain ⟨hm1, hm2, -, hm⟩ := hw.m
  have hkf := hw.kf
  have loop : ∀ (d q : Nat), d + q = xm M → G yX4_toldBy.cls cX4_toldBy 3 (some .int) (gE 2 Q) 2 [(0, .ref 0), (1, .int (zI j)), (2, .int (zI q))] [] (mfill M 2 q (fun k => zI (ptX M j k))) := by
    intro d
    induction d with
    | zero =>
      intro q hq
      obtain rfl : q = xm M := by omega
      have hs : Sam M (mfill M 2 (xm M) (fun k => zI (ptX M j k))) := (Sam.r M).mf _ (Or.inl rfl)
      have hpt : ∀ q, q < xm M → mi (mfill M 2 (xm M) (fun k => zI (ptX M j k))) 2 q = ptX M j q := by
        intro q hq
        have := pntS_bd (mi M 22 4) (mi M 22 5) (mi M 23) j q
        unfold mi
        rw [mfill_in _ _ hq, zI_toInt (by unfold ptX; omega) (by unfold ptX; omega)]
      generalize hM1 : mfill M 2 (xm M) (fun k => zI (ptX M j k)) = M1 at hs hQ hpt
      have hw1 := hw.sam hs
      have hb1 := md_bd (sumW (mi M (hc M j)) (ptX M j) (xm M) (2 ^ xm M))
      have hb2 := vlS_bd M j
      have hb3 := hw.st j h1 h2
      have hsum : sumW (mi M1 (hc M1 j)) (mi M1 2) (xm M) (2 ^ xm M) = sumW (mi M (hc M j)) (ptX M j) (xm M) (2 ^ xm M) := by
        rw [hc_sam hs h2]
        refine sumW_ext hpt _ (fun i _ => hs.m (Or.inl (by unfold hc; split <;> omega)) i)
      have hg := hw1.dgb
      refine g_iload_n rfl dX4_toldBy_2 ?_
      refine g_aload_n rfl dX4_toldBy_3 ?_
      refine gf_X4_43 (by decide) rfl dX4_toldBy_4 ?_
      rw [hs 0 (Or.inl (by decide)), hm]
      refine g_icmp_ge (tgt := 31) dX4_toldBy_7 (by decide) (fun c7 => ?_) (fun c7 => ?_)
      · refine g_aload_n rfl dX4_toldBy_31 ?_
        refine g_iload_n rfl dX4_toldBy_32 ?_
        refine gi_X4_64 (by decide) rfl (ev_X4_storeOf (j := j) h1 h2 M1) rfl rfl ⟨Nat.le_of_ble_eq_true rfl, Nat.le_of_ble_eq_true rfl, Nat.le_of_ble_eq_true rfl, Nat.le_of_ble_eq_true rfl⟩ (Nat.le_of_ble_eq_true rfl) dX4_toldBy_33 (fun r33 M33 hq33 => ?_)
        obtain ⟨rfl, rfl⟩ := hq33
        refine g_astore_n (L2 := [(0, _), (1, _), (2, _)]) (by decide) rfl dX4_toldBy_36 ?_
        refine g_aload_n rfl dX4_toldBy_37 ?_
        refine g_aload_n rfl dX4_toldBy_38 ?_
        refine g_aload_n rfl dX4_toldBy_39 ?_
        refine gf_X4_9 (by decide) rfl rfl dX4_toldBy_40 ?_
        refine gi_X4_193 (by omega) (shS j h2 h1) (ev_X3_held h1 h2 M1) rfl rfl ⟨Nat.le_of_ble_eq_true rfl, Nat.le_of_ble_eq_true rfl, Nat.le_of_ble_eq_true rfl, Nat.le_of_ble_eq_true rfl⟩ (Nat.le_of_ble_eq_true rfl) dX4_toldBy_43 (fun r43 M43 hq43 => ?_)
        obtain ⟨rfl, rfl⟩ := hq43
        refine gi_X4_102 (by decide) rfl (ev_X4_sumAtPlace (M := M1) (m := xm M) (k := hc M1 j) hm1 hm2 (by rw [hs 0 (Or.inl (by decide)), hm]) (hc_lt M1 h2) (hc_sh M1 h2 h1) (hc_n M1 h2 h1) (hw1.hcb h1 h2) (fun q hq => by rw [hpt q hq]; exact pntS_bd _ _ _ _ _)) rfl rfl ⟨Nat.le_of_ble_eq_true rfl, Nat.le_of_ble_eq_true rfl, Nat.le_of_ble_eq_true rfl, Nat.le_of_ble_eq_true rfl⟩ (Nat.le_of_ble_eq_true rfl) dX4_toldBy_46 (fun r46 M46 hq46 => ?_)
        obtain ⟨rfl, rfl⟩ := hq46
        refine g_aload_n rfl dX4_toldBy_49 ?_
        refine gf_X4_25 (by decide) rfl rfl dX4_toldBy_50 ?_
        refine g_iload_n rfl dX4_toldBy_53 ?_
        refine gi_X4_197 (by decide) rfl (ev_X1_veilAt (M := M1) (j := j) (g := (mi M1 22 7).toNat) h2 (by omega) (by omega) hw1.vs) rfl rfl ⟨Nat.le_of_ble_eq_true rfl, Nat.le_of_ble_eq_true rfl, Nat.le_of_ble_eq_true rfl, Nat.le_of_ble_eq_true rfl⟩ (Nat.le_of_ble_eq_true rfl) dX4_toldBy_54 (fun r54 M54 hq54 => ?_)
        obtain ⟨rfl, rfl⟩ := hq54
        refine g_iadd dX4_toldBy_57 ?_
        refine g_aload_n rfl dX4_toldBy_58 ?_
        refine gf_X4_95 (by omega) (shS j h2 h1) dX4_toldBy_59 ?_
        refine g_iadd dX4_toldBy_62 ?_
        refine g_bipush (by decide) dX4_toldBy_63 ?_
        refine g_irem (by decide) dX4_toldBy_65 ?_
        refine g_ireturn rfl dX4_toldBy_66 ?_
        rw [hsum, vlS_sam hs, ← mi_z M1, hs.m (Or.inl (by omega)), zI_add, zI_add, zI_remN (by omega) (by omega) (by decide) (by decide)]
        exact hQ
      · simp (disch := omega) only [i_le, zI_toInt] at c7
        omega
    | succ d ih =>
      intro q hq
      have hs : Sam M (mfill M 2 q (fun k => zI (ptX M j k))) := (Sam.r M).mf _ (Or.inl rfl)
      have ih := ih (q + 1) (by omega)
      rw [← mfill_s] at ih
      generalize hM1 : mfill M 2 q (fun k => zI (ptX M j k)) = M1 at hs ih ⊢
      have hw1 := hw.sam hs
      have hkf1 := hw1.kf
      have hpp : pntS (mi M1 22 4) (mi M1 22 5) (mi M1 23) j q = ptX M j q := by
        have := congrFun (ptX_sam hs j) q
        exact this
      refine g_iload_n rfl dX4_toldBy_2 ?_
      refine g_aload_n rfl dX4_toldBy_3 ?_
      refine gf_X4_43 (by decide) rfl dX4_toldBy_4 ?_
      rw [hs 0 (Or.inl (by decide)), hm]
      refine g_icmp_ge (tgt := 31) dX4_toldBy_7 (by decide) (fun c7 => ?_) (fun c7 => ?_)
      · simp (disch := omega) only [i_le, zI_toInt] at c7
        omega
      · refine g_aload_n rfl dX4_toldBy_10 ?_
        refine gf_X4_13 (by decide) rfl rfl dX4_toldBy_11 ?_
        refine g_iload_n rfl dX4_toldBy_14 ?_
        refine g_aload_n rfl dX4_toldBy_15 ?_
        refine gf_X4_25 (by decide) rfl rfl dX4_toldBy_16 ?_
        refine g_iload_n rfl dX4_toldBy_19 ?_
        refine g_iload_n rfl dX4_toldBy_20 ?_
        refine gi_X4_126 (by decide) rfl (ev_X1_pointNumber (M := M1) (j := j) (k := q) (t := (mi M1 22 5).toNat) (by omega) h2 (by omega) hw1.wa (by omega) hw1.lt) rfl rfl ⟨Nat.le_of_ble_eq_true rfl, Nat.le_of_ble_eq_true rfl, Nat.le_of_ble_eq_true rfl, Nat.le_of_ble_eq_true rfl⟩ (Nat.le_of_ble_eq_true rfl) dX4_toldBy_21 (fun r21 M21 hq21 => ?_)
        obtain ⟨rfl, rfl⟩ := hq21
        refine g_iast (n := 3) (by decide) rfl rfl (zI_in (by omega) (by omega) (by decide)) dX4_toldBy_24 ?_
        refine g_iinc (L2 := [(0, _), (1, _), (2, _)]) rfl (by decide) rfl dX4_toldBy_25 ?_
        refine g_goto (tgt := 2) dX4_toldBy_28 (by decide) ?_
        rw [zI_clamp (by omega) (by omega), zI_add, hpp]
        exact ih
  refine g_iconst dX4_toldBy_0 ?_
  refine g_istore_n (L2 := [(0, _), (1, _), (2, _)]) (by decide) rfl dX4_toldBy_1 ?_
  have e := loop (xm M) 0 (by omega)
  rw [mfill_0] at e
  exact e
theorem ev_X2_add {M : Mem} {l : List (Nat × Int)} (h : RowIs M l) (hl : l.length < 9) (j : Nat) (v : Int) : EvF yX2_add cX2_add 3 none 0 [.ref 25, .int (zI j), .int (zI v)] M none (mset (mset (mset M 26 l.length (zI j)) 27 l.length (zI v)) 25 2 (zI ((l.length + 1 : Nat) : Int))) := by
  refine EvF.of (by decide +kernel) (Nat.le_of_ble_eq_true rfl) (fun Q hQ => ?_)
  have h0 := h.1
  refine g_aload_n rfl dX2_add_0 ?_
  refine gf_X2_18 (by decide) rfl dX2_add_1 ?_
  rw [h0]
  refine g_bipush (by decide) dX2_add_4 ?_
  refine g_icmp_ge (tgt := 39) dX2_add_6 (by decide) (fun c6 => ?_) (fun c6 => ?_)
  · refine g_return rfl dX2_add_39 ?_
    simp (disch := omega) only [i_le, zI_toInt] at c6
    omega
  · refine g_aload_n rfl dX2_add_9 ?_
    refine gf_X2_9 (by decide) rfl rfl dX2_add_10 ?_
    refine g_aload_n rfl dX2_add_13 ?_
    refine gf_X2_18 (by decide) rfl dX2_add_14 ?_
    rw [h0]
    refine g_iload_n rfl dX2_add_17 ?_
    refine g_iast (n := 9) (by decide) rfl rfl (zI_in (by omega) (by omega) (by decide)) dX2_add_18 ?_
    rw [zI_clamp (by omega) (by omega)]
    refine g_aload_n rfl dX2_add_19 ?_
    refine gf_X2_15 (by decide) rfl rfl dX2_add_20 ?_
    refine g_aload_n rfl dX2_add_23 ?_
    refine gf_X2_18 (by decide) rfl dX2_add_24 ?_
    rw [mset_ne _ _ (Or.inl (by decide)), h0]
    refine g_iload_n rfl dX2_add_27 ?_
    refine g_iast (n := 9) (by decide) rfl rfl (zI_in (by omega) (by omega) (by decide)) dX2_add_28 ?_
    rw [zI_clamp (by omega) (by omega)]
    refine g_aload_n rfl dX2_add_29 ?_
    refine g_dup rfl dX2_add_30 ?_
    refine gf_X2_18 (by decide) rfl dX2_add_31 ?_
    rw [mset_ne _ _ (Or.inl (by decide)), mset_ne _ _ (Or.inl (by decide)), h0]
    refine g_iconst dX2_add_34 ?_
    refine g_iadd dX2_add_35 ?_
    rw [zI_add]
    refine gp_X2_18 (by decide) rfl dX2_add_36 ?_
    refine g_return rfl dX2_add_39 ?_
    exact hQ
theorem ev_X4_hearStores {M : Mem} (hw : WX M) {s : Nat} (h2 : s < 10) : Ev yX4_hearStores cX4_hearStores 3 none 3 [.ref 0, .int (zI s)] M (fun r M1 => none = r ∧ Sam M M1 ∧ RowIs M1 (hearL (tells M) (ansX M) s)) := by
  refine Ev.of (by decide +kernel) (Nat.le_of_ble_eq_true rfl) (fun Q hQ => ?_)
  have loop : ∀ (d j : Nat), d + j = s → ∀ M1 : Mem, Sam M M1 → RowIs M1 (hearL (tells M) (ansX M) j) → G yX4_hearStores.cls cX4_hearStores 3 none (gE 3 Q) 10 [(0, .ref 0), (1, .int (zI s)), (2, .int (zI ((j + 1 : Nat) : Int)))] [] M1 := by
    intro d
    induction d with
    | zero =>
      intro j hj M1 hs hr
      refine g_iload_n rfl dX4_hearStores_10 ?_
      refine g_iload_n rfl dX4_hearStores_11 ?_
      refine g_icmp_gt (tgt := 46) dX4_hearStores_12 (by decide) (fun c12 => ?_) (fun c12 => ?_)
      · refine g_return rfl dX4_hearStores_46 ?_
        obtain rfl : j = s := by omega
        exact hQ _ _ ⟨rfl, hs, hr⟩
      · simp (disch := omega) only [i_lt, zI_toInt] at c12
        omega
    | succ d ih =>
      intro j hj M1 hs hr
      have hw1 := hw.sam hs
      have hlen : (hearL (tells M) (ansX M) j).length ≤ j := by rw [hearL_len]; exact cnt_le _ _
      have hs2 : Sam M (mfill M1 2 (xm M1) (fun k => zI (ptX M1 (j + 1) k))) := hs.mf _ (Or.inl rfl)
      have hr2 : RowIs (mfill M1 2 (xm M1) (fun k => zI (ptX M1 (j + 1) k))) (hearL (tells M) (ansX M) j) := hr.ext (mfill_ne _ _ (by decide)) (mfill_ne _ _ (by decide)) (mfill_ne _ _ (by decide))
      refine g_iload_n rfl dX4_hearStores_10 ?_
      refine g_iload_n rfl dX4_hearStores_11 ?_
      refine g_icmp_gt (tgt := 46) dX4_hearStores_12 (by decide) (fun c12 => ?_) (fun c12 => ?_)
      · simp (disch := omega) only [i_lt, zI_toInt] at c12
        omega
      · refine g_aload_n rfl dX4_hearStores_15 ?_
        refine g_iload_n rfl dX4_hearStores_16 ?_
        refine gi_X4_64 (by decide) rfl (ev_X4_storeOf (j := j + 1) (by omega) (by omega) M1) rfl rfl ⟨Nat.le_of_ble_eq_true rfl, Nat.le_of_ble_eq_true rfl, Nat.le_of_ble_eq_true rfl, Nat.le_of_ble_eq_true rfl⟩ (Nat.le_of_ble_eq_true rfl) dX4_hearStores_17 (fun r17 M17 hq17 => ?_)
        obtain ⟨rfl, rfl⟩ := hq17
        refine gf_X4_92 (by omega) (shS (j + 1) (by omega) (by omega)) dX4_hearStores_20 ?_
        refine g_iconst dX4_hearStores_23 ?_
        refine g_icmp_eq (tgt := 40) dX4_hearStores_24 (by decide) (fun c24 => ?_) (fun c24 => ?_)
        · refine g_iinc (L2 := [(0, _), (1, _), (2, _)]) rfl (by decide) rfl dX4_hearStores_40 ?_
          refine g_goto (tgt := 10) dX4_hearStores_43 (by decide) ?_
          rw [zI_add]
          rw [eqz_mi (by decide) (by decide), hs.m (Or.inl (by omega))] at c24
          refine ih (j + 1) (by omega) M1 hs ?_
          rw [hearL, if_neg (by simp [tells, c24]), List.append_nil]
          exact hr
        · refine g_aload_n rfl dX4_hearStores_27 ?_
          refine gf_X4_32 (by decide) rfl rfl dX4_hearStores_28 ?_
          refine g_iload_n rfl dX4_hearStores_31 ?_
          refine g_aload_n rfl dX4_hearStores_32 ?_
          refine g_iload_n rfl dX4_hearStores_33 ?_
          refine gi_X4_130 (by decide) rfl (ev_X4_toldBy hw1 (j := j + 1) (by omega) (by omega)) rfl rfl ⟨Nat.le_of_ble_eq_true rfl, Nat.le_of_ble_eq_true rfl, Nat.le_of_ble_eq_true rfl, Nat.le_of_ble_eq_true rfl⟩ (Nat.le_of_ble_eq_true rfl) dX4_hearStores_34 (fun r34 M34 hq34 => ?_)
          obtain ⟨rfl, rfl⟩ := hq34
          refine gi_X4_203 (by decide) rfl (ev_X2_add hr2 (by omega) (j + 1) (ansX M1 (j + 1))) rfl rfl ⟨Nat.le_of_ble_eq_true rfl, Nat.le_of_ble_eq_true rfl, Nat.le_of_ble_eq_true rfl, Nat.le_of_ble_eq_true rfl⟩ (Nat.le_of_ble_eq_true rfl) dX4_hearStores_37 (fun r37 M37 hq37 => ?_)
          obtain ⟨rfl, rfl⟩ := hq37
          refine g_iinc (L2 := [(0, _), (1, _), (2, _)]) rfl (by decide) rfl dX4_hearStores_40 ?_
          refine g_goto (tgt := 10) dX4_hearStores_43 (by decide) ?_
          rw [zI_add]
          rw [eqz_mi (by decide) (by decide), hs.m (Or.inl (by omega))] at c24
          refine ih (j + 1) (by omega) _ (((hs2.ms _ (Or.inr (by decide))).ms _ (Or.inr (by decide))).ms _ (Or.inr (by decide))) ?_
          rw [hearL, if_pos (by simp [tells, c24]), ansX_sam hs (by omega)]
          exact hr2.add (j + 1) (ansX M (j + 1))
  refine g_aload_n rfl dX4_hearStores_0 ?_
  refine gf_X4_32 (by decide) rfl rfl dX4_hearStores_1 ?_
  refine g_iconst dX4_hearStores_4 ?_
  refine gp_X4_140 (by decide) rfl dX4_hearStores_5 ?_
  refine g_iconst dX4_hearStores_8 ?_
  refine g_istore_n (L2 := [(0, _), (1, _), (2, _)]) (by decide) rfl dX4_hearStores_9 ?_
  exact loop s 0 (by omega) _ ((Sam.r M).ms _ (Or.inr (by decide))) ⟨mset_same _ _ _ _, fun p x hx => by cases hx⟩
end
section
/-! class SilentAsking: sets of records, kinds of stores, questions, ways -/
theorem zI_xor {a b : Nat} (h : a < 2147483648) (h2 : b < 2147483648) : zI (a : Int) ^^^ zI (b : Int) = zI ((a ^^^ b : Nat) : Int) := by
  rw [zI_nI, zI_nI, zI_nI]
  apply Int32.toBitVec_inj.mp
  apply BitVec.eq_of_toNat_eq
  have hx : a ^^^ b < 2 ^ 31 := Nat.xor_lt_two_pow (by omega) (by omega)
  show ((nI a).toBitVec ^^^ (nI b).toBitVec).toNat = _
  rw [BitVec.toNat_xor, pk_tn (by omega), pk_tn (by omega), pk_tn (by omega)]
/-- the exclusive or of those of the first n that b picks -/
def xorN (cp : Nat → Nat) (b : Nat → Bool) : Nat → Nat
  | 0 => 0
  | i + 1 => if b i = true then xorN cp b i ^^^ cp i else xorN cp b i
theorem xorN_lt {cp : Nat → Nat} (b : Nat → Bool) : ∀ n, (∀ i, i < n → cp i < 128) → xorN cp b n < 128
  | 0, _ => by show 0 < 128; decide
  | n + 1, h => by
    have h1 := xorN_lt b n (fun i hi => h i (by omega))
    unfold xorN
    split
    · exact Nat.xor_lt_two_pow (n := 7) h1 (h n (by omega))
    · exact h1
theorem xorN_ext {c d : Nat → Nat} (b : Nat → Bool) : ∀ n, (∀ i, i < n → c i = d i) → xorN c b n = xorN d b n
  | 0, _ => rfl
  | n + 1, h => by rw [xorN, xorN, xorN_ext b n (fun i hi => h i (by omega)), h n (by omega)]
def tosX (M : Mem) (j : Nat) (set : Int) : Int := ((xorN (fun i => (mi M (hc M j) i).toNat) (fun i => decide (set / 2 ^ i % 2 = 1)) (2 ^ xm M) : Nat) + mi M (3 + j) 2) % 128
theorem ev_X4_toldOfSet {M : Mem} (hw : WX M) {j : Nat} (h1 : 1 ≤ j) (h2 : j < 10) {set : Int} (hs1 : 0 ≤ set) (hs2 : set < 2147483648) : EvF yX4_toldOfSet cX4_toldOfSet 6 (some .int) 1 [.ref 0, .ref (3 + j), .int (zI set)] M (some (.int (zI (tosX M j set)))) M := by
  refine EvF.of (by decide +kernel) (Nat.le_of_ble_eq_true rfl) (fun Q hQ => ?_)
  obtain ⟨hm1, hm2, -, hm⟩ := hw.m
  have hcb := hw.hcb h1 h2
  have h8 := p2_8 hm1 hm2
  have hz := p2_z (xm M)
  have hst := hw.st j h1 h2
  have hxl : ∀ n, n ≤ 8 → xorN (fun i => (mi M (hc M j) i).toNat) (fun i => decide (set / 2 ^ i % 2 = 1)) n < 128 := fun n hn => xorN_lt _ n (fun i hi => by have := hcb i (by omega); omega)
  have loop : ∀ (d q : Nat), d + q = 2 ^ xm M → G yX4_toldOfSet.cls cX4_toldOfSet 6 (some .int) (gE 1 Q) 15 [(0, .ref 0), (1, .ref (3 + j)), (2, .int (zI set)), (3, .ref (hc M j)), (4, .int (zI (xorN (fun i => (mi M (hc M j) i).toNat) (fun i => decide (set / 2 ^ i % 2 = 1)) q))), (5, .int (zI q))] [] M := by
    intro d
    induction d with
    | zero =>
      intro q hq
      obtain rfl : q = 2 ^ xm M := by omega
      have hx := hxl (2 ^ xm M) (by omega)
      refine g_iload rfl dX4_toldOfSet_15 ?_
      refine g_aload_n rfl dX4_toldOfSet_17 ?_
      refine gi_X4_60 (by decide) rfl (ev_X4_count hm1 hm2 hm) rfl rfl ⟨Nat.le_of_ble_eq_true rfl, Nat.le_of_ble_eq_true rfl, Nat.le_of_ble_eq_true rfl, Nat.le_of_ble_eq_true rfl⟩ (Nat.le_of_ble_eq_true rfl) dX4_toldOfSet_18 (fun r18 M18 hq18 => ?_)
      obtain ⟨rfl, rfl⟩ := hq18
      refine g_icmp_ge (tgt := 49) dX4_toldOfSet_21 (by decide) (fun c21 => ?_) (fun c21 => ?_)
      · refine g_iload rfl dX4_toldOfSet_49 ?_
        refine g_aload_n rfl dX4_toldOfSet_51 ?_
        refine gf_X4_95 (by omega) (shS j h2 h1) dX4_toldOfSet_52 ?_
        refine g_iadd dX4_toldOfSet_55 ?_
        refine g_sipush (by decide) dX4_toldOfSet_56 ?_
        refine g_irem (by decide) dX4_toldOfSet_59 ?_
        refine g_ireturn rfl dX4_toldOfSet_60 ?_
        rw [← mi_z M (3 + j) 2, zI_add, zI_remN (by omega) (by omega) (by decide) (by decide)]
        exact hQ
      · exact n_lt_of c21 (by omega) (by omega) (by omega) (by omega) (by omega)
    | succ d ih =>
      intro q hq
      have hx := hxl q (by omega)
      have hcq := hcb q (by omega)
      refine g_iload rfl dX4_toldOfSet_15 ?_
      refine g_aload_n rfl dX4_toldOfSet_17 ?_
      refine gi_X4_60 (by decide) rfl (ev_X4_count hm1 hm2 hm) rfl rfl ⟨Nat.le_of_ble_eq_true rfl, Nat.le_of_ble_eq_true rfl, Nat.le_of_ble_eq_true rfl, Nat.le_of_ble_eq_true rfl⟩ (Nat.le_of_ble_eq_true rfl) dX4_toldOfSet_18 (fun r18 M18 hq18 => ?_)
      obtain ⟨rfl, rfl⟩ := hq18
      refine g_icmp_ge (tgt := 49) dX4_toldOfSet_21 (by decide) (fun c21 => ?_) (fun c21 => ?_)
      · exact n_le_of c21 (by omega) (by omega) (by omega) (by omega) (by omega)
      · refine g_iload_n rfl dX4_toldOfSet_24 ?_
        refine g_iload rfl dX4_toldOfSet_25 ?_
        refine gi_X4_156 (ev_X4_bit (a := set) (k := q) hs1 hs2 (by omega) M) rfl rfl ⟨Nat.le_of_ble_eq_true rfl, Nat.le_of_ble_eq_true rfl, Nat.le_of_ble_eq_true rfl, Nat.le_of_ble_eq_true rfl⟩ (Nat.le_of_ble_eq_true rfl) dX4_toldOfSet_27 (fun r27 M27 hq27 => ?_)
        obtain ⟨rfl, rfl⟩ := hq27
        refine g_iconst dX4_toldOfSet_30 ?_
        refine g_icmp_ne (tgt := 43) dX4_toldOfSet_31 (by decide) (fun c31 => ?_) (fun c31 => ?_)
        · refine g_iinc (L2 := [(0, _), (1, _), (2, _), (3, _), (4, _), (5, _)]) rfl (by decide) rfl dX4_toldOfSet_43 ?_
          refine g_goto (tgt := 15) dX4_toldOfSet_46 (by decide) ?_
          rw [zI_eqz (by omega) (by omega) (by decide) (by decide)] at c31
          rw [zI_add]
          have ih := ih (q + 1) (by omega)
          rw [xorN, if_neg (by simp [c31])] at ih
          exact ih
        · refine g_iload rfl dX4_toldOfSet_34 ?_
          refine g_aload_n rfl dX4_toldOfSet_36 ?_
          refine g_iload rfl dX4_toldOfSet_37 ?_
          refine g_iald (n := 8)  (hc_lt M h2) (hc_sh M h2 h1) (hc_n M h2 h1) (zI_in (by omega) (by omega) (by decide)) dX4_toldOfSet_39 ?_
          refine g_ixor dX4_toldOfSet_40 ?_
          refine g_istore (L2 := [(0, _), (1, _), (2, _), (3, _), (4, _), (5, _)]) (by decide) rfl dX4_toldOfSet_41 ?_
          refine g_iinc (L2 := [(0, _), (1, _), (2, _), (3, _), (4, _), (5, _)]) rfl (by decide) rfl dX4_toldOfSet_43 ?_
          refine g_goto (tgt := 15) dX4_toldOfSet_46 (by decide) ?_
          rw [zI_eqz (by omega) (by omega) (by decide) (by decide)] at c31
          rw [zI_add, ld_m M (hc M j) (by omega), show mi M (hc M j) q = ((mi M (hc M j) q).toNat : Nat) by omega, zI_xor (by omega) (by omega)]
          have ih := ih (q + 1) (by omega)
          rw [xorN, if_pos (by simp [c31])] at ih
          exact ih
  refine g_aload_n rfl dX4_toldOfSet_0 ?_
  refine g_aload_n rfl dX4_toldOfSet_1 ?_
  refine gf_X4_9 (by decide) rfl rfl dX4_toldOfSet_2 ?_
  refine gi_X4_193 (by omega) (shS j h2 h1) (ev_X3_held h1 h2 M) rfl rfl ⟨Nat.le_of_ble_eq_true rfl, Nat.le_of_ble_eq_true rfl, Nat.le_of_ble_eq_true rfl, Nat.le_of_ble_eq_true rfl⟩ (Nat.le_of_ble_eq_true rfl) dX4_toldOfSet_5 (fun r5 M5 hq5 => ?_)
  obtain ⟨rfl, rfl⟩ := hq5
  refine g_astore_n (L2 := [(0, _), (1, _), (2, _), (3, _)]) (by decide) rfl dX4_toldOfSet_8 ?_
  refine g_iconst dX4_toldOfSet_9 ?_
  refine g_istore (L2 := [(0, _), (1, _), (2, _), (3, _), (4, _)]) (by decide) rfl dX4_toldOfSet_10 ?_
  refine g_iconst dX4_toldOfSet_12 ?_
  refine g_istore (L2 := [(0, _), (1, _), (2, _), (3, _), (4, _), (5, _)]) (by decide) rfl dX4_toldOfSet_13 ?_
  exact loop (2 ^ xm M) 0 (by omega)
/-- a store becomes of a kind -/
def becX (M : Mem) (j : Nat) (kd d : Int32) : Mem := if kd = zI 2 then mfill (mset (mset M (3 + j) 1 kd) (3 + j) 2 (zI 0)) (12 + j) 8 (M 1) else mset (mset M (3 + j) 1 kd) (3 + j) 2 (if kd = zI 1 then d else zI 0)
theorem ev_X3_become {j : Nat} (h1 : 1 ≤ j) (h2 : j < 10) (kd d : Int32) (M : Mem) : EvF yX3_become cX3_become 4 none 1 [.ref (3 + j), .int kd, .int d, .ref 1] M none (becX M j kd d) := by
  refine EvF.of (by decide +kernel) (Nat.le_of_ble_eq_true rfl) (fun Q hQ => ?_)
  refine g_aload_n rfl dX3_become_0 ?_
  refine g_iload_n rfl dX3_become_1 ?_
  refine gp_X3_15 (by omega) (shS j h2 h1) dX3_become_2 ?_
  refine g_aload_n rfl dX3_become_5 ?_
  refine g_iload_n rfl dX3_become_6 ?_
  refine g_iconst dX3_become_7 ?_
  refine g_icmp_ne (tgt := 15) dX3_become_8 (by decide) (fun c8 => ?_) (fun c8 => ?_)
  · refine g_iconst dX3_become_15 ?_
    refine gp_X3_19 (by omega) (shS j h2 h1) dX3_become_16 ?_
    refine g_iload_n rfl dX3_become_19 ?_
    refine g_iconst dX3_become_20 ?_
    refine g_icmp_ne (tgt := 36) dX3_become_21 (by decide) (fun c21 => ?_) (fun c21 => ?_)
    · refine g_return rfl dX3_become_36 ?_
      rw [becX, if_neg c21, if_neg c8] at hQ
      exact hQ
    · refine g_aload_n rfl dX3_become_24 ?_
      refine g_iconst dX3_become_25 ?_
      refine g_aload_n rfl dX3_become_26 ?_
      refine gf_X3_9 (by omega) (shS j h2 h1) (rfS j h2 h1) dX3_become_27 ?_
      refine g_iconst dX3_become_30 ?_
      refine g_bipush (by decide) dX3_become_31 ?_
      refine g_copy8 (k0 := 1) (k1 := 12 + j) (by decide) (by omega) rfl (shSK j h2 h1) rfl (shSN j h2 h1) dX3_become_33 ?_
      rw [mset_other _ _ _ (by omega), mset_other _ _ _ (by omega)]
      refine g_return rfl dX3_become_36 ?_
      rw [becX, if_pos c21] at hQ
      exact hQ
  · refine g_iload_n rfl dX3_become_11 ?_
    refine g_goto (tgt := 16) dX3_become_12 (by decide) ?_
    refine gp_X3_19 (by omega) (shS j h2 h1) dX3_become_16 ?_
    refine g_iload_n rfl dX3_become_19 ?_
    refine g_iconst dX3_become_20 ?_
    refine g_icmp_ne (tgt := 36) dX3_become_21 (by decide) (fun c21 => ?_) (fun c21 => ?_)
    · refine g_return rfl dX3_become_36 ?_
      rw [becX, if_neg c21, if_pos c8] at hQ
      exact hQ
    · refine g_aload_n rfl dX3_become_24 ?_
      refine g_iconst dX3_become_25 ?_
      refine g_aload_n rfl dX3_become_26 ?_
      refine gf_X3_9 (by omega) (shS j h2 h1) (rfS j h2 h1) dX3_become_27 ?_
      refine g_iconst dX3_become_30 ?_
      refine g_bipush (by decide) dX3_become_31 ?_
      refine g_copy8 (k0 := 1) (k1 := 12 + j) (by decide) (by omega) rfl (shSK j h2 h1) rfl (shSN j h2 h1) dX3_become_33 ?_
      rw [mset_other _ _ _ (by omega), mset_other _ _ _ (by omega)]
      refine g_return rfl dX3_become_36 ?_
      exact absurd (c8.symm.trans c21) (by decide)
/-- a question begins -/
def begX (M : Mem) (i t m s : Int) : Mem := mfill (mset (mset (mset (mset (mset (mset M 22 2 (zI 1)) 22 3 (zI 0)) 22 4 (zI i)) 22 5 (zI t)) 22 6 (zI m)) 22 7 (zI (m * t))) 23 (m * t).toNat (fun q => zI (lotS s q))
theorem ev_X1_begin {M : Mem} {i t m s : Int} (ht1 : 1 ≤ t) (ht2 : t ≤ 2) (hm1 : 1 ≤ m) (hm2 : m ≤ 3) (hs1 : 0 ≤ s) (hs2 : s < 2147483648) : EvF yX1_begin cX1_begin 5 none 1 [.ref 22, .int (zI i), .int (zI t), .int (zI m), .int (zI s)] M none (begX M i t m s) := by
  refine EvF.of (by decide +kernel) (Nat.le_of_ble_eq_true rfl) (fun Q hQ => ?_)
  have hmt : 1 ≤ m * t ∧ m * t ≤ 6 := by rcases (by omega : t = 1 ∨ t = 2) with rfl | rfl <;> omega
  have e : mi (mset (mset (mset (mset (mset (mset M 22 2 (zI 1)) 22 3 (zI 0)) 22 4 (zI i)) 22 5 (zI t)) 22 6 (zI m)) 22 7 (zI (m * t))) 22 7 = ((m * t).toNat : Int) := by
    unfold mi
    rw [mset_same, zI_toInt (by omega) (by omega)]
    omega
  refine g_aload_n rfl dX1_begin_0 ?_
  refine g_iconst dX1_begin_1 ?_
  refine gp_X1_18 (by decide) rfl rfl rfl dX1_begin_2 ?_
  refine g_aload_n rfl dX1_begin_5 ?_
  refine g_iconst dX1_begin_6 ?_
  refine gp_X1_22 (by decide) rfl rfl rfl dX1_begin_7 ?_
  refine g_aload_n rfl dX1_begin_10 ?_
  refine g_iload_n rfl dX1_begin_11 ?_
  refine gp_X1_25 (by decide) rfl dX1_begin_12 ?_
  refine g_aload_n rfl dX1_begin_15 ?_
  refine g_iload_n rfl dX1_begin_16 ?_
  refine gp_X1_29 (by decide) rfl dX1_begin_17 ?_
  refine g_aload_n rfl dX1_begin_20 ?_
  refine g_iload_n rfl dX1_begin_21 ?_
  refine gp_X1_32 (by decide) rfl dX1_begin_22 ?_
  refine g_aload_n rfl dX1_begin_25 ?_
  refine g_iload_n rfl dX1_begin_26 ?_
  refine g_iload_n rfl dX1_begin_27 ?_
  refine g_imul dX1_begin_28 ?_
  rw [zI_mul]
  refine gp_X1_35 (by decide) rfl dX1_begin_29 ?_
  refine g_aload_n rfl dX1_begin_32 ?_
  refine g_aload_n rfl dX1_begin_33 ?_
  refine gf_X1_9 (by decide) rfl rfl dX1_begin_34 ?_
  refine g_iload rfl dX1_begin_37 ?_
  refine gi_X1_38 (by decide) rfl (ev_X1_drawLots (k := 23) (g := (m * t).toNat) (s := s) (by decide) rfl rfl e (by omega) (by decide) hs1 hs2) rfl rfl ⟨Nat.le_of_ble_eq_true rfl, Nat.le_of_ble_eq_true rfl, Nat.le_of_ble_eq_true rfl, Nat.le_of_ble_eq_true rfl⟩ (Nat.le_of_ble_eq_true rfl) dX1_begin_39 (fun r39 M39 hq39 => ?_)
  obtain ⟨rfl, rfl⟩ := hq39
  refine g_return rfl dX1_begin_42 ?_
  exact hQ
def vebX (M : Mem) (s : Int) : Mem := if s = -9 then mset M 22 3 (zI 0) else mfill (mset M 22 3 (zI 1)) 24 (mi M 22 7).toNat (fun q => zI (lotS s q))
theorem ev_X1_veilBy {M : Mem} {s : Int} (hg : 1 ≤ mi M 22 7 ∧ mi M 22 7 ≤ 6) (hs : s = -9 ∨ 0 ≤ s) (hs2 : s < 2147483648) : EvF yX1_veilBy cX1_veilBy 2 none 1 [.ref 22, .int (zI s)] M none (vebX M s) := by
  refine EvF.of (by decide +kernel) (Nat.le_of_ble_eq_true rfl) (fun Q hQ => ?_)
  have e4 : zI s = zI (-9) ↔ s = -9 := zI_eqz (by omega) (by omega) (by decide) (by decide)
  have eg : mi (mset M 22 3 (zI 1)) 22 7 = ((mi M 22 7).toNat : Int) := by
    unfold mi
    rw [mset_ne _ _ (Or.inr (by decide))]
    show mi M 22 7 = ((mi M 22 7).toNat : Int)
    omega
  refine g_aload_n rfl dX1_veilBy_0 ?_
  refine g_iload_n rfl dX1_veilBy_1 ?_
  refine g_bipush (by decide) dX1_veilBy_2 ?_
  refine g_icmp_eq (tgt := 11) dX1_veilBy_4 (by decide) (fun c4 => ?_) (fun c4 => ?_)
  · refine g_iconst dX1_veilBy_11 ?_
    refine gp_X1_22 (by decide) rfl rfl rfl dX1_veilBy_12 ?_
    refine g_aload_n rfl dX1_veilBy_15 ?_
    refine gf_X1_22 (by decide) rfl dX1_veilBy_16 ?_
    rw [mset_same]
    refine g_if_eq (tgt := 31) dX1_veilBy_19 (by decide) (fun c19 => ?_) (fun c19 => ?_)
    · refine g_return rfl dX1_veilBy_31 ?_
      rw [e4] at c4
      rw [vebX, if_pos c4] at hQ
      exact hQ
    · exact absurd rfl c19
  · refine g_iconst dX1_veilBy_7 ?_
    refine g_goto (tgt := 12) dX1_veilBy_8 (by decide) ?_
    refine gp_X1_22 (by decide) rfl rfl rfl dX1_veilBy_12 ?_
    refine g_aload_n rfl dX1_veilBy_15 ?_
    refine gf_X1_22 (by decide) rfl dX1_veilBy_16 ?_
    rw [mset_same]
    refine g_if_eq (tgt := 31) dX1_veilBy_19 (by decide) (fun c19 => ?_) (fun c19 => ?_)
    · refine g_return rfl dX1_veilBy_31 ?_
      exact absurd c19 (by decide)
    · rw [e4] at c4
      rw [vebX, if_neg c4] at hQ
      have hs0 : 0 ≤ s := by omega
      refine g_aload_n rfl dX1_veilBy_22 ?_
      refine g_aload_n rfl dX1_veilBy_23 ?_
      refine gf_X1_15 (by decide) rfl rfl dX1_veilBy_24 ?_
      refine g_iload_n rfl dX1_veilBy_27 ?_
      refine gi_X1_38 (by decide) rfl (ev_X1_drawLots (k := 24) (g := (mi M 22 7).toNat) (s := s) (by decide) rfl rfl eg (by omega) (by decide) hs0 hs2) rfl rfl ⟨Nat.le_of_ble_eq_true rfl, Nat.le_of_ble_eq_true rfl, Nat.le_of_ble_eq_true rfl, Nat.le_of_ble_eq_true rfl⟩ (Nat.le_of_ble_eq_true rfl) dX1_veilBy_28 (fun r28 M28 hq28 => ?_)
      obtain ⟨rfl, rfl⟩ := hq28
      refine g_return rfl dX1_veilBy_31 ?_
      exact hQ
/-- how many of its ten bits are set -/
def popN (n : Nat) : Nat := cnt (fun j => decide (n / 2 ^ (j - 1) % 2 = 1)) 10
def bc1 (x : Int32) : Int32 := x - ((x.toUInt32 >>> ((zI 1).toUInt32 &&& Int32.toUInt32 31)).toInt32 &&& 1431655765)
def bc2 (x : Int32) : Int32 := (x &&& 858993459) + ((x.toUInt32 >>> ((zI 2).toUInt32 &&& Int32.toUInt32 31)).toInt32 &&& 858993459)
def bc3 (x : Int32) : Int32 := (x + (x.toUInt32 >>> ((zI 4).toUInt32 &&& Int32.toUInt32 31)).toInt32) &&& 252645135
def bc4 (x : Int32) : Int32 := x + (x.toUInt32 >>> ((zI 8).toUInt32 &&& Int32.toUInt32 31)).toInt32
def bc5 (x : Int32) : Int32 := x + (x.toUInt32 >>> ((zI 16).toUInt32 &&& Int32.toUInt32 31)).toInt32
set_option maxRecDepth 100000 in
theorem bc_all : ∀ n, n < 1024 → bc5 (bc4 (bc3 (bc2 (bc1 (zI (n : Nat)))))) &&& zI 63 = zI (popN n : Nat) := by decide +kernel
theorem ev_J6_bitCount {n : Nat} (h : n < 1024) (M : Mem) : EvF yJ6_bitCount_0f7a4 cJ6_bitCount_0f7a4 1 (some .int) 0 [.int (zI (n : Nat))] M (some (.int (zI (popN n : Nat)))) M := by
  refine EvF.of (by decide +kernel) (Nat.le_of_ble_eq_true rfl) (fun Q hQ => ?_)
  rw [← bc_all n h] at hQ
  refine g_iload_n rfl dJ6_bitCount_0f7a4_0 ?_
  refine g_iload_n rfl dJ6_bitCount_0f7a4_1 ?_
  refine g_iconst dJ6_bitCount_0f7a4_2 ?_
  refine g_iushr dJ6_bitCount_0f7a4_3 ?_
  refine g_ldcw gl_J6_265 dJ6_bitCount_0f7a4_4 ?_
  refine g_iand dJ6_bitCount_0f7a4_7 ?_
  refine g_isub dJ6_bitCount_0f7a4_8 ?_
  refine g_istore_n (L2 := [(0, _)]) (by decide) rfl dJ6_bitCount_0f7a4_9 ?_
  refine g_iload_n rfl dJ6_bitCount_0f7a4_10 ?_
  refine g_ldcw gl_J6_266 dJ6_bitCount_0f7a4_11 ?_
  refine g_iand dJ6_bitCount_0f7a4_14 ?_
  refine g_iload_n rfl dJ6_bitCount_0f7a4_15 ?_
  refine g_iconst dJ6_bitCount_0f7a4_16 ?_
  refine g_iushr dJ6_bitCount_0f7a4_17 ?_
  refine g_ldcw gl_J6_266 dJ6_bitCount_0f7a4_18 ?_
  refine g_iand dJ6_bitCount_0f7a4_21 ?_
  refine g_iadd dJ6_bitCount_0f7a4_22 ?_
  refine g_istore_n (L2 := [(0, _)]) (by decide) rfl dJ6_bitCount_0f7a4_23 ?_
  refine g_iload_n rfl dJ6_bitCount_0f7a4_24 ?_
  refine g_iload_n rfl dJ6_bitCount_0f7a4_25 ?_
  refine g_iconst dJ6_bitCount_0f7a4_26 ?_
  refine g_iushr dJ6_bitCount_0f7a4_27 ?_
  refine g_iadd dJ6_bitCount_0f7a4_28 ?_
  refine g_ldcw gl_J6_267 dJ6_bitCount_0f7a4_29 ?_
  refine g_iand dJ6_bitCount_0f7a4_32 ?_
  refine g_istore_n (L2 := [(0, _)]) (by decide) rfl dJ6_bitCount_0f7a4_33 ?_
  refine g_iload_n rfl dJ6_bitCount_0f7a4_34 ?_
  refine g_iload_n rfl dJ6_bitCount_0f7a4_35 ?_
  refine g_bipush (by decide) dJ6_bitCount_0f7a4_36 ?_
  refine g_iushr dJ6_bitCount_0f7a4_38 ?_
  refine g_iadd dJ6_bitCount_0f7a4_39 ?_
  refine g_istore_n (L2 := [(0, _)]) (by decide) rfl dJ6_bitCount_0f7a4_40 ?_
  refine g_iload_n rfl dJ6_bitCount_0f7a4_41 ?_
  refine g_iload_n rfl dJ6_bitCount_0f7a4_42 ?_
  refine g_bipush (by decide) dJ6_bitCount_0f7a4_43 ?_
  refine g_iushr dJ6_bitCount_0f7a4_45 ?_
  refine g_iadd dJ6_bitCount_0f7a4_46 ?_
  refine g_istore_n (L2 := [(0, _)]) (by decide) rfl dJ6_bitCount_0f7a4_47 ?_
  refine g_iload_n rfl dJ6_bitCount_0f7a4_48 ?_
  refine g_bipush (by decide) dJ6_bitCount_0f7a4_49 ?_
  refine g_iand dJ6_bitCount_0f7a4_51 ?_
  refine g_ireturn rfl dJ6_bitCount_0f7a4_52 ?_
  exact hQ
/-- in how many ways: none too few of stores fix the lots -/
def cwX (M : Mem) (set : Nat) (i : Int) : Int := if mi M 22 5 < popN set then (if i = mi M 22 4 then 1 else 0) else 97 ^ ((mi M 22 5 - popN set) * mi M 22 6).toNat
theorem ev_X1_countWays {M : Mem} (hw : WX M) {set : Nat} (hs : set < 1024) (hs1 : 1 ≤ popN set) {i : Int} (hi1 : 0 ≤ i) (hi2 : i < 8) : EvF yX1_countWays cX1_countWays 7 (some .long) 1 [.ref 22, .int (zI (set : Nat)), .int (zI i)] M (some (.long (zL (cwX M set i)))) M := by
  refine EvF.of (by decide +kernel) (Nat.le_of_ble_eq_true rfl) (fun Q hQ => ?_)
  have hkf := hw.kf
  have hqb := hw.qb
  have hwa := hw.wa
  have hpop : popN set ≤ 10 := cnt_le _ _
  have e5 : zI (mi M 22 5) - zI (popN set : Nat) = zI (mi M 22 5 - popN set) := zI_sub _ _
  generalize hf : mi M 22 5 - (popN set : Int) = f at e5
  have hf2 : f ≤ 1 := by omega
  have hfm : 0 ≤ f → 0 ≤ f * mi M 22 6 ∧ f * mi M 22 6 ≤ 3 := by
    intro h0
    rcases (by omega : f = 0 ∨ f = 1) with rfl | rfl <;> omega
  have hpow : ∀ q : Nat, q ≤ 3 → 0 < (97 : Int) ^ q ∧ (97 : Int) ^ q ≤ 912673 := by
    intro q hq
    rcases (by omega : q = 0 ∨ q = 1 ∨ q = 2 ∨ q = 3) with rfl | rfl | rfl | rfl <;> decide
  have loop : 0 ≤ f → ∀ (d q : Nat), d + q = (f * mi M 22 6).toNat → G yX1_countWays.cls cX1_countWays 7 (some .long) (gE 1 Q) 34 [(0, .ref 22), (1, .int (zI (set : Nat))), (2, .int (zI i)), (3, .int (zI f)), (4, .long (zL (97 ^ q))), (6, .int (zI q))] [] M := by
    intro h0 d
    have h1 := hfm h0
    induction d with
    | zero =>
      intro q hq
      refine g_iload rfl dX1_countWays_34 ?_
      refine g_iload_n rfl dX1_countWays_36 ?_
      refine g_aload_n rfl dX1_countWays_37 ?_
      refine gf_X1_32 (by decide) rfl dX1_countWays_38 ?_
      rw [← mi_z M 22 6]
      refine g_imul dX1_countWays_41 ?_
      rw [zI_mul]
      refine g_icmp_ge (tgt := 59) dX1_countWays_42 (by decide) (fun c42 => ?_) (fun c42 => ?_)
      · refine g_lload rfl dX1_countWays_59 ?_
        refine g_lreturn rfl dX1_countWays_61 ?_
        rw [cwX, if_neg (by omega), hf] at hQ
        rw [show q = (f * mi M 22 6).toNat by omega]
        exact hQ
      · simp (disch := omega) only [i_le, zI_toInt] at c42
        omega
    | succ d ih =>
      intro q hq
      have hp := hpow q (by omega)
      refine g_iload rfl dX1_countWays_34 ?_
      refine g_iload_n rfl dX1_countWays_36 ?_
      refine g_aload_n rfl dX1_countWays_37 ?_
      refine gf_X1_32 (by decide) rfl dX1_countWays_38 ?_
      rw [← mi_z M 22 6]
      refine g_imul dX1_countWays_41 ?_
      rw [zI_mul]
      refine g_icmp_ge (tgt := 59) dX1_countWays_42 (by decide) (fun c42 => ?_) (fun c42 => ?_)
      · simp (disch := omega) only [i_le, zI_toInt] at c42
        omega
      · refine g_lload rfl dX1_countWays_45 ?_
        refine g_ldc2 gl_X1_50 dX1_countWays_47 ?_
        refine g_lmul dX1_countWays_50 ?_
        rw [show (97 : Int64) = zL 97 from rfl, zL_mul, ← Int.pow_succ]
        refine g_lstore (L2 := [(0, _), (1, _), (2, _), (3, _), (4, _), (6, _)]) (by decide) rfl dX1_countWays_51 ?_
        refine g_iinc (L2 := [(0, _), (1, _), (2, _), (3, _), (4, _), (6, _)]) rfl (by decide) rfl dX1_countWays_53 ?_
        refine g_goto (tgt := 34) dX1_countWays_56 (by decide) ?_
        rw [zI_add]
        exact ih (q + 1) (by omega)
  refine g_aload_n rfl dX1_countWays_0 ?_
  refine gf_X1_29 (by decide) rfl dX1_countWays_1 ?_
  rw [← mi_z M 22 5]
  refine g_iload_n rfl dX1_countWays_4 ?_
  refine gi_X1_60 (ev_J6_bitCount hs M) rfl rfl ⟨Nat.le_of_ble_eq_true rfl, Nat.le_of_ble_eq_true rfl, Nat.le_of_ble_eq_true rfl, Nat.le_of_ble_eq_true rfl⟩ (Nat.le_of_ble_eq_true rfl) dX1_countWays_5 (fun r5 M5 hq5 => ?_)
  obtain ⟨rfl, rfl⟩ := hq5
  refine g_isub dX1_countWays_8 ?_
  rw [e5]
  refine g_istore_n (L2 := [(0, _), (1, _), (2, _), (3, _)]) (by decide) rfl dX1_countWays_9 ?_
  refine g_iload_n rfl dX1_countWays_10 ?_
  refine g_if_ge (tgt := 28) dX1_countWays_11 (by decide) (fun c11 => ?_) (fun c11 => ?_)
  · refine g_lconst (v := zL 1) (by decide) dX1_countWays_28 ?_
    refine g_lstore (L2 := [(0, _), (1, _), (2, _), (3, _), (4, _)]) (by decide) rfl dX1_countWays_29 ?_
    refine g_iconst dX1_countWays_31 ?_
    refine g_istore (L2 := [(0, _), (1, _), (2, _), (3, _), (4, _), (6, _)]) (by decide) rfl dX1_countWays_32 ?_
    simp (disch := omega) only [i_le, zI_toInt, i_0] at c11
    exact loop c11 (f * mi M 22 6).toNat 0 (by omega)
  · refine g_iload_n rfl dX1_countWays_14 ?_
    refine g_aload_n rfl dX1_countWays_15 ?_
    refine gf_X1_25 (by decide) rfl dX1_countWays_16 ?_
    rw [← mi_z M 22 4]
    refine g_icmp_ne (tgt := 26) dX1_countWays_19 (by decide) (fun c19 => ?_) (fun c19 => ?_)
    · refine g_lconst (v := zL 0) (by decide) dX1_countWays_26 ?_
      refine g_lreturn rfl dX1_countWays_27 ?_
      rw [zI_eqz (by omega) (by omega) (by omega) (by omega)] at c19
      simp (disch := omega) only [i_le, zI_toInt, i_0] at c11
      rw [cwX, if_pos (by omega), if_neg c19] at hQ
      exact hQ
    · refine g_lconst (v := zL 1) (by decide) dX1_countWays_22 ?_
      refine g_goto (tgt := 27) dX1_countWays_23 (by decide) ?_
      refine g_lreturn rfl dX1_countWays_27 ?_
      rw [zI_eqz (by omega) (by omega) (by omega) (by omega)] at c19
      simp (disch := omega) only [i_le, zI_toInt, i_0] at c11
      rw [cwX, if_pos (by omega), if_pos c19] at hQ
      exact hQ
end
section
/-! class SilentAsking: the curve -/
def newt : List (Int × Int) → Int → Int
  | [], _ => 0
  | e :: l, x => (newt l x * (x - e.1 + 97) + e.2) % 97
theorem newt_bd (l : List (Int × Int)) (x : Int) : 0 ≤ newt l x ∧ newt l x < 97 := by
  cases l with
  | nil => exact ⟨Int.le_refl _, by show (0 : Int) < 97; decide⟩
  | cons e l => exact md_bd _
def invN (g : Int) : Int := (invL.getD g.toNat 0).toInt
theorem invN_bd (g : Int) : 0 ≤ invN g ∧ invN g < 97 := by
  unfold invN
  by_cases h : g.toNat < 9
  · have hd : ∀ n, n < 9 → 0 ≤ (invL.getD n 0).toInt ∧ (invL.getD n 0).toInt < 97 := by decide
    exact hd _ h
  · rw [List.getD_eq_getElem?_getD, List.getElem?_eq_none (by show 9 ≤ _; omega)]
    decide
/-- the curve (cells 28, 29, 30) holds l -/
def CurIs (M : Mem) (l : List (Int × Int)) : Prop := M 28 2 = zI l.length ∧ ∀ (p : Nat) (x : Int × Int), l[p]? = some x → M 29 p = zI x.1 ∧ M 30 p = zI x.2
theorem CurIs.add {M : Mem} {l : List (Int × Int)} (h : CurIs M l) (j v : Int) : CurIs (mset (mset (mset M 29 l.length (zI j)) 30 l.length (zI v)) 28 2 (zI ((l.length + 1 : Nat) : Int))) (l ++ [(j, v)]) := by
  refine ⟨?_, fun p x hx => ?_⟩
  · rw [mset_same, List.length_append]
    rfl
  · have e6 : (mset (mset (mset M 29 l.length (zI j)) 30 l.length (zI v)) 28 2 (zI ((l.length + 1 : Nat) : Int))) 29 = upd (M 29) l.length (zI j) := by
      rw [mset_other _ _ _ (by decide), mset_other _ _ _ (by decide), mset_row]
    have e7 : (mset (mset (mset M 29 l.length (zI j)) 30 l.length (zI v)) 28 2 (zI ((l.length + 1 : Nat) : Int))) 30 = upd (M 30) l.length (zI v) := by
      rw [mset_other _ _ _ (by decide), mset_row, mset_other _ _ _ (by decide)]
    rw [e6, e7]
    unfold upd
    rcases Nat.lt_trichotomy p l.length with hp | hp | hp
    · rw [List.getElem?_append_left hp] at hx
      rw [if_neg (by omega), if_neg (by omega)]
      exact h.2 p x hx
    · subst hp
      rw [List.getElem?_append_right (Nat.le_refl _), Nat.sub_self] at hx
      cases hx
      rw [if_pos rfl, if_pos rfl]
      exact ⟨rfl, rfl⟩
    · rw [List.getElem?_eq_none (by rw [List.length_append]; simp; omega)] at hx
      cases hx
def curOk (l : List (Int × Int)) : Prop := ∀ e ∈ l, 1 ≤ e.1 ∧ e.1 ≤ 9 ∧ 0 ≤ e.2 ∧ e.2 < 97
theorem ev_X0_at {M : Mem} {l : List (Int × Int)} (h : CurIs M l) (hok : curOk l) (hl : l.length ≤ 7) {x : Int} (hx1 : 0 ≤ x) (hx2 : x ≤ 9) : EvF yX0_at cX0_at 4 (some .int) 0 [.ref 28, .int (zI x)] M (some (.int (zI (newt l x)))) M := by
  refine EvF.of (by decide +kernel) (Nat.le_of_ble_eq_true rfl) (fun Q hQ => ?_)
  have h0 := h.1
  have loop : ∀ (r : Nat), r ≤ l.length → G yX0_at.cls cX0_at 4 (some .int) (gE 0 Q) 9 [(0, .ref 28), (1, .int (zI x)), (2, .int (zI (newt (l.drop r) x))), (3, .int (zI ((r : Int) - 1)))] [] M := by
    intro r
    induction r with
    | zero =>
      intro hr
      refine g_iload_n rfl dX0_at_9 ?_
      refine g_if_lt (tgt := 43) dX0_at_10 (by decide) (fun c10 => ?_) (fun c10 => ?_)
      · refine g_iload_n rfl dX0_at_43 ?_
        refine g_ireturn rfl dX0_at_44 ?_
        exact hQ
      · simp (disch := omega) only [i_lt, zI_toInt, i_0] at c10
        omega
    | succ r ih =>
      intro hr
      have ih := ih (by omega)
      have hlt : r < l.length := by omega
      have hg : l[r]? = some l[r] := List.getElem?_eq_getElem hlt
      obtain ⟨e1, e2⟩ := h.2 r _ hg
      obtain ⟨o1, o2, o3, o4⟩ := hok l[r] (List.getElem_mem hlt)
      rw [List.drop_eq_getElem_cons hlt, newt] at ih
      have hv := newt_bd (l.drop (r + 1)) x
      generalize newt (l.drop (r + 1)) x = v at ih hv ⊢
      have er : ((r + 1 : Nat) : Int) - 1 = (r : Nat) := by omega
      rw [er]
      refine g_iload_n rfl dX0_at_9 ?_
      refine g_if_lt (tgt := 43) dX0_at_10 (by decide) (fun c10 => ?_) (fun c10 => ?_)
      · simp (disch := omega) only [i_lt, zI_toInt, i_0] at c10
        omega
      · refine g_iload_n rfl dX0_at_13 ?_
        refine g_iload_n rfl dX0_at_14 ?_
        refine g_aload_n rfl dX0_at_15 ?_
        refine gf_X0_9 (by decide) rfl rfl dX0_at_16 ?_
        refine g_iload_n rfl dX0_at_19 ?_
        refine g_iald (n := 7) (by decide) rfl rfl (zI_in (by omega) (by omega) (by decide)) dX0_at_20 ?_
        rw [zI_clamp (by omega) (by omega), show ((r : Nat) : Int).toNat = r from rfl, e1]
        refine g_isub dX0_at_21 ?_
        refine g_bipush (by decide) dX0_at_22 ?_
        refine g_iadd dX0_at_24 ?_
        refine g_imul dX0_at_25 ?_
        refine g_aload_n rfl dX0_at_26 ?_
        refine gf_X0_15 (by decide) rfl rfl dX0_at_27 ?_
        refine g_iload_n rfl dX0_at_30 ?_
        refine g_iald (n := 7) (by decide) rfl rfl (zI_in (by omega) (by omega) (by decide)) dX0_at_31 ?_
        rw [zI_clamp (by omega) (by omega), show ((r : Nat) : Int).toNat = r from rfl, e2]
        refine g_iadd dX0_at_32 ?_
        refine g_bipush (by decide) dX0_at_33 ?_
        refine g_irem (by decide) dX0_at_35 ?_
        refine g_istore_n (L2 := [(0, _), (1, _), (2, _), (3, _)]) (by decide) rfl dX0_at_36 ?_
        refine g_iinc (L2 := [(0, _), (1, _), (2, _), (3, _)]) rfl (by decide) rfl dX0_at_37 ?_
        refine g_goto (tgt := 9) dX0_at_40 (by decide) ?_
        have hb := mul_bd hv.1 hv.2 (show 0 ≤ x - l[r].1 + 97 by omega) (by omega)
        rw [zI_sub, zI_add, zI_mul, zI_add, zI_remN (by omega) (by omega) (by decide) (by decide), zI_add]
        exact ih
  refine g_iconst dX0_at_0 ?_
  refine g_istore_n (L2 := [(0, _), (1, _), (2, _)]) (by decide) rfl dX0_at_1 ?_
  refine g_aload_n rfl dX0_at_2 ?_
  refine gf_X0_18 (by decide) rfl dX0_at_3 ?_
  rw [h0]
  refine g_iconst dX0_at_6 ?_
  refine g_isub dX0_at_7 ?_
  refine g_istore_n (L2 := [(0, _), (1, _), (2, _), (3, _)]) (by decide) rfl dX0_at_8 ?_
  have e := loop l.length (Nat.le_refl _)
  rw [List.drop_eq_nil_of_le (Nat.le_refl _)] at e
  rw [zI_sub]
  exact e
def cofS (l : List (Int × Int)) (x f : Int) : Int := l.foldl (fun f e => f * invN (x - e.1) % 97) f
def bendL (l : List (Int × Int)) (x y : Int) : List (Int × Int) := l ++ [(x, cofS l x (y - newt l x + 97) % 97)]
theorem bendL_len (l : List (Int × Int)) (x y : Int) : (bendL l x y).length = l.length + 1 := by simp [bendL]
theorem bendL_ok {l : List (Int × Int)} (h : curOk l) {x : Int} (y : Int) (h1 : 1 ≤ x) (h2 : x ≤ 9) : curOk (bendL l x y) := by
  intro e he
  rcases List.mem_append.mp he with he | he
  · exact h e he
  · rw [List.mem_singleton.mp he]
    have := md_bd (cofS l x (y - newt l x + 97))
    exact ⟨h1, h2, this.1, this.2⟩
def benM (M : Mem) (l : List (Int × Int)) (x y : Int) : Mem := mset (mset (mset M 29 l.length (zI x)) 30 l.length (zI (cofS l x (y - newt l x + 97) % 97))) 28 2 (zI ((l.length + 1 : Nat) : Int))
theorem cofS_bd (l : List (Int × Int)) (x : Int) : ∀ n f, 0 ≤ f → f < 200 → 0 ≤ cofS (l.take n) x f ∧ cofS (l.take n) x f < 200 := by
  intro n
  induction n with
  | zero => intro f h1 h2; exact ⟨h1, h2⟩
  | succ n ih =>
    intro f h1 h2
    unfold cofS at ih ⊢
    by_cases hn : n < l.length
    · rw [List.take_succ_eq_append_getElem hn, List.foldl_append]
      have := md_bd ((l.take n).foldl (fun f e => f * invN (x - e.1) % 97) f * invN (x - l[n].1))
      simp only [List.foldl_cons, List.foldl_nil]
      omega
    · rw [List.take_of_length_le (by omega)]
      have := ih f h1 h2
      rw [List.take_of_length_le (by omega)] at this
      exact this
theorem ev_X0_bend {M : Mem} {l : List (Int × Int)} (h : CurIs M l) (hok : curOk l) (hl : l.length ≤ 6) {x y : Int} (hx1 : 1 ≤ x) (hx2 : x ≤ 9) (hy1 : 0 ≤ y) (hy2 : y < 97) : EvF yX0_bend cX0_bend 5 none 1 [.ref 28, .int (zI x), .int (zI y)] M none (benM M l x y) := by
  refine EvF.of (by decide +kernel) (Nat.le_of_ble_eq_true rfl) (fun Q hQ => ?_)
  have h0 := h.1
  have hnb := newt_bd l x
  have hfb := fun n => cofS_bd l x n (y - newt l x + 97) (by omega) (by omega)
  have loop : ∀ (d q : Nat), d + q = l.length → G yX0_bend.cls cX0_bend 5 none (gE 1 Q) 24 [(0, .ref 28), (1, .int (zI x)), (2, .int (zI y)), (3, .int (zI (cofS (l.take q) x (y - newt l x + 97)))), (4, .int (zI q))] [] M := by
    intro d
    induction d with
    | zero =>
      intro q hq
      obtain rfl : q = l.length := by omega
      have hf := hfb l.length
      rw [List.take_length] at hf ⊢
      refine g_iload rfl dX0_bend_24 ?_
      refine g_aload_n rfl dX0_bend_26 ?_
      refine gf_X0_18 (by decide) rfl dX0_bend_27 ?_
      rw [h0]
      refine g_icmp_ge (tgt := 57) dX0_bend_30 (by decide) (fun c30 => ?_) (fun c30 => ?_)
      · refine g_aload_n rfl dX0_bend_57 ?_
        refine gf_X0_9 (by decide) rfl rfl dX0_bend_58 ?_
        refine g_aload_n rfl dX0_bend_61 ?_
        refine gf_X0_18 (by decide) rfl dX0_bend_62 ?_
        rw [h0]
        refine g_iload_n rfl dX0_bend_65 ?_
        refine g_iast (n := 7) (by decide) rfl rfl (zI_in (by omega) (by omega) (by decide)) dX0_bend_66 ?_
        rw [zI_clamp (by omega) (by omega)]
        refine g_aload_n rfl dX0_bend_67 ?_
        refine gf_X0_15 (by decide) rfl rfl dX0_bend_68 ?_
        refine g_aload_n rfl dX0_bend_71 ?_
        refine gf_X0_18 (by decide) rfl dX0_bend_72 ?_
        rw [mset_ne _ _ (Or.inl (by decide)), h0]
        refine g_iload_n rfl dX0_bend_75 ?_
        refine g_bipush (by decide) dX0_bend_76 ?_
        refine g_irem (by decide) dX0_bend_78 ?_
        rw [zI_remN hf.1 (by omega) (by decide) (by decide)]
        refine g_iast (n := 7) (by decide) rfl rfl (zI_in (by omega) (by omega) (by decide)) dX0_bend_79 ?_
        rw [zI_clamp (by omega) (by omega)]
        refine g_aload_n rfl dX0_bend_80 ?_
        refine g_dup rfl dX0_bend_81 ?_
        refine gf_X0_18 (by decide) rfl dX0_bend_82 ?_
        rw [mset_ne _ _ (Or.inl (by decide)), mset_ne _ _ (Or.inl (by decide)), h0]
        refine g_iconst dX0_bend_85 ?_
        refine g_iadd dX0_bend_86 ?_
        rw [zI_add]
        refine gp_X0_18 (by decide) rfl dX0_bend_87 ?_
        refine g_return rfl dX0_bend_90 ?_
        exact hQ
      · simp (disch := omega) only [i_le, zI_toInt] at c30
        omega
    | succ d ih =>
      intro q hq
      have ih := ih (q + 1) (by omega)
      have hlt : q < l.length := by omega
      have hg : l[q]? = some l[q] := List.getElem?_eq_getElem hlt
      obtain ⟨e1, e2⟩ := h.2 q _ hg
      obtain ⟨o1, o2, o3, o4⟩ := hok l[q] (List.getElem_mem hlt)
      have hf := hfb q
      have hst : cofS (l.take (q + 1)) x (y - newt l x + 97) = cofS (l.take q) x (y - newt l x + 97) * invN (x - l[q].1) % 97 := by
        unfold cofS
        rw [List.take_succ_eq_append_getElem hlt, List.foldl_append]
        rfl
      rw [hst] at ih
      generalize cofS (l.take q) x (y - newt l x + 97) = f at ih hf ⊢
      have hi := invN_bd (x - l[q].1)
      have einv : invL.getD (zI (x - l[q].1)).toInt.toNat 0 = zI (invN (x - l[q].1)) := by
        rw [zI_toInt (by omega) (by omega)]
        unfold invN
        rw [zI_of]
      refine g_iload rfl dX0_bend_24 ?_
      refine g_aload_n rfl dX0_bend_26 ?_
      refine gf_X0_18 (by decide) rfl dX0_bend_27 ?_
      rw [h0]
      refine g_icmp_ge (tgt := 57) dX0_bend_30 (by decide) (fun c30 => ?_) (fun c30 => ?_)
      · simp (disch := omega) only [i_le, zI_toInt] at c30
        omega
      · refine g_iload_n rfl dX0_bend_33 ?_
        refine g_iload_n rfl dX0_bend_34 ?_
        refine g_aload_n rfl dX0_bend_35 ?_
        refine gf_X0_9 (by decide) rfl rfl dX0_bend_36 ?_
        refine g_iload rfl dX0_bend_39 ?_
        refine g_iald (n := 7) (by decide) rfl rfl (zI_in (by omega) (by omega) (by decide)) dX0_bend_41 ?_
        rw [zI_clamp (by omega) (by omega), show ((q : Nat) : Int).toNat = q from rfl, e1]
        refine g_isub dX0_bend_42 ?_
        rw [zI_sub]
        refine gi_X0_43 (ev_X4_inverse (zI (x - l[q].1)) M) rfl rfl ⟨Nat.le_of_ble_eq_true rfl, Nat.le_of_ble_eq_true rfl, Nat.le_of_ble_eq_true rfl, Nat.le_of_ble_eq_true rfl⟩ (Nat.le_of_ble_eq_true rfl) dX0_bend_43 (fun r43 M43 hq43 => ?_)
        obtain ⟨rfl, rfl⟩ := hq43
        rw [einv]
        refine g_imul dX0_bend_46 ?_
        refine g_bipush (by decide) dX0_bend_47 ?_
        refine g_irem (by decide) dX0_bend_49 ?_
        refine g_istore_n (L2 := [(0, _), (1, _), (2, _), (3, _), (4, _)]) (by decide) rfl dX0_bend_50 ?_
        refine g_iinc (L2 := [(0, _), (1, _), (2, _), (3, _), (4, _)]) rfl (by decide) rfl dX0_bend_51 ?_
        refine g_goto (tgt := 24) dX0_bend_54 (by decide) ?_
        have hb := mul_bd2 hf.1 hf.2 hi.1 hi.2
        rw [zI_mul, zI_remN (by omega) (by omega) (by decide) (by decide), zI_add]
        exact ih
  refine g_aload_n rfl dX0_bend_0 ?_
  refine gf_X0_18 (by decide) rfl dX0_bend_1 ?_
  rw [h0]
  refine g_bipush (by decide) dX0_bend_4 ?_
  refine g_icmp_le (tgt := 10) dX0_bend_6 (by decide) (fun c6 => ?_) (fun c6 => ?_)
  · refine g_iload_n rfl dX0_bend_10 ?_
    refine g_aload_n rfl dX0_bend_11 ?_
    refine g_iload_n rfl dX0_bend_12 ?_
    refine gi_X0_39 (by decide) rfl (ev_X0_at h hok (by omega) (by omega) hx2) rfl rfl ⟨Nat.le_of_ble_eq_true rfl, Nat.le_of_ble_eq_true rfl, Nat.le_of_ble_eq_true rfl, Nat.le_of_ble_eq_true rfl⟩ (Nat.le_of_ble_eq_true rfl) dX0_bend_13 (fun r13 M13 hq13 => ?_)
    obtain ⟨rfl, rfl⟩ := hq13
    refine g_isub dX0_bend_16 ?_
    refine g_bipush (by decide) dX0_bend_17 ?_
    refine g_iadd dX0_bend_19 ?_
    refine g_istore_n (L2 := [(0, _), (1, _), (2, _), (3, _)]) (by decide) rfl dX0_bend_20 ?_
    refine g_iconst dX0_bend_21 ?_
    refine g_istore (L2 := [(0, _), (1, _), (2, _), (3, _), (4, _)]) (by decide) rfl dX0_bend_22 ?_
    rw [zI_sub, zI_add]
    exact loop l.length 0 (by omega)
  · simp (disch := omega) only [i_le, zI_toInt] at c6
    omega
theorem benM_is {M : Mem} {l : List (Int × Int)} (h : CurIs M l) (x y : Int) : CurIs (benM M l x y) (bendL l x y) := h.add x _
/-- outside the curve (cells 28, 29, 30) nothing changed -/
def Sac (M M' : Mem) : Prop := ∀ a, (a < 28 ∨ 31 ≤ a) → M' a = M a
theorem Sac.r (M : Mem) : Sac M M := fun _ _ => rfl
theorem Sac.t {M M1 M2 : Mem} (h : Sac M M1) (h2 : Sac M1 M2) : Sac M M2 := fun a ha => (h2 a ha).trans (h a ha)
theorem Sac.sam {M M' : Mem} (h : Sac M M') : Sam M M' := fun a ha => h a (by omega)
theorem Sac.row {M M' : Mem} (h : Sac M M') {l : List (Nat × Int)} (hr : RowIs M l) : RowIs M' l := hr.ext (h 25 (by decide)) (h 26 (by decide)) (h 27 (by decide))
theorem benM_sac (M : Mem) (l : List (Int × Int)) (x y : Int) : Sac M (benM M l x y) := fun a ha => by
  unfold benM
  rw [mset_other _ _ _ (by omega), mset_other _ _ _ (by omega), mset_other _ _ _ (by omega)]
def rowOk (l : List (Nat × Int)) : Prop := ∀ e ∈ l, 1 ≤ e.1 ∧ e.1 ≤ 9 ∧ 0 ≤ e.2 ∧ e.2 < 97
/-- those of the first q that picks picks, the row's first by the highest bit -/
def pkS (l : List (Nat × Int)) (n picks : Nat) : Nat → List (Nat × Int)
  | 0 => []
  | p + 1 => pkS l n picks p ++ (if picks / 2 ^ (n - 1 - p) % 2 = 1 then [l.getD p (0, 0)] else [])
def lenF (n picks : Nat) : Nat → Nat
  | 0 => 0
  | p + 1 => lenF n picks p + (if picks / 2 ^ (n - 1 - p) % 2 = 1 then 1 else 0)
theorem pkS_len (l : List (Nat × Int)) (n picks : Nat) : ∀ p, (pkS l n picks p).length = lenF n picks p
  | 0 => rfl
  | p + 1 => by
    rw [pkS, lenF, List.length_append, pkS_len l n picks p]
    split <;> simp
theorem lenF_mono (n picks : Nat) : ∀ d p, lenF n picks p ≤ lenF n picks (p + d)
  | 0, _ => Nat.le_refl _
  | d + 1, p => by
    have := lenF_mono n picks d p
    rw [← Nat.add_assoc, lenF]
    omega
set_option maxRecDepth 100000 in
theorem lenF_pop : ∀ n, n < 10 → ∀ p, p < 512 → p < 2 ^ n → lenF n p n = popN p := by decide +kernel
theorem pkS_ok {l : List (Nat × Int)} (h : rowOk l) (n picks : Nat) : ∀ p, p ≤ l.length → rowOk (pkS l n picks p)
  | 0, _ => fun e he => by cases he
  | p + 1, hp => by
    intro e he
    rw [pkS] at he
    rcases List.mem_append.mp he with he | he
    · exact pkS_ok h n picks p (by omega) e he
    · by_cases hb : picks / 2 ^ (n - 1 - p) % 2 = 1
      · rw [if_pos hb] at he
        rw [List.mem_singleton.mp he, List.getD_eq_getElem?_getD, List.getElem?_eq_getElem (by omega)]
        exact h _ (List.getElem_mem (by omega))
      · rw [if_neg hb] at he
        cases he
def layP (pl : List (Nat × Int)) : List (Int × Int) := pl.foldl (fun c e => bendL c e.1 e.2) []
theorem layP_add (pl : List (Nat × Int)) (e : Nat × Int) : layP (pl ++ [e]) = bendL (layP pl) e.1 e.2 := by
  unfold layP
  rw [List.foldl_append]
  rfl
theorem layP_all (n : Nat) : ∀ pl : List (Nat × Int), pl.length = n → rowOk pl → curOk (layP pl) ∧ (layP pl).length = n := by
  induction n with
  | zero =>
    intro pl h _
    rw [List.length_eq_zero_iff.mp h]
    exact ⟨(fun e he => by cases he), rfl⟩
  | succ n ih =>
    intro pl h hok
    have hne : pl ≠ [] := fun q => by rw [q] at h; cases h
    have he := List.dropLast_concat_getLast hne
    have h1 := ih pl.dropLast (by rw [List.length_dropLast]; omega) (fun e q => hok e (List.dropLast_subset _ q))
    have h2 := hok _ (List.getLast_mem hne)
    rw [← he, layP_add]
    exact ⟨bendL_ok h1.1 _ (by omega) (by omega), by rw [bendL_len, h1.2]⟩
theorem layP_ok {pl : List (Nat × Int)} (h : rowOk pl) : curOk (layP pl) := (layP_all _ pl rfl h).1
theorem layP_len {pl : List (Nat × Int)} (h : rowOk pl) : (layP pl).length = pl.length := (layP_all _ pl rfl h).2
theorem ev_X0_layThrough {M : Mem} {l : List (Nat × Int)} (hr : RowIs M l) (hl : l.length ≤ 9) (hok : rowOk l) {picks : Nat} (hp : picks < 1024) (h7 : lenF l.length picks l.length ≤ 7) : Ev yX0_layThrough cX0_layThrough 4 none 2 [.ref 28, .ref 25, .int (zI (picks : Nat))] M (fun r M1 => none = r ∧ Sac M M1 ∧ CurIs M1 (layP (pkS l l.length picks l.length))) := by
  refine Ev.of (by decide +kernel) (Nat.le_of_ble_eq_true rfl) (fun Q hQ => ?_)
  have loop : ∀ (d q : Nat), d + q = l.length → ∀ M1 : Mem, Sac M M1 → CurIs M1 (layP (pkS l l.length picks q)) → G yX0_layThrough.cls cX0_layThrough 4 none (gE 2 Q) 7 [(0, .ref 28), (1, .ref 25), (2, .int (zI (picks : Nat))), (3, .int (zI q))] [] M1 := by
    intro d
    induction d with
    | zero =>
      intro q hq M1 hs hc
      have h0 := (hs.row hr).1
      refine g_iload_n rfl dX0_layThrough_7 ?_
      refine g_aload_n rfl dX0_layThrough_8 ?_
      refine gf_X0_22 (by decide) rfl dX0_layThrough_9 ?_
      rw [h0]
      refine g_icmp_ge (tgt := 53) dX0_layThrough_12 (by decide) (fun c12 => ?_) (fun c12 => ?_)
      · refine g_return rfl dX0_layThrough_53 ?_
        obtain rfl : q = l.length := by omega
        exact hQ _ _ ⟨rfl, hs, hc⟩
      · simp (disch := omega) only [i_le, zI_toInt] at c12
        omega
    | succ d ih =>
      intro q hq M1 hs hc
      have hr1 := hs.row hr
      have h0 := hr1.1
      have hlt : q < l.length := by omega
      have hg : l[q]? = some l[q] := List.getElem?_eq_getElem hlt
      obtain ⟨e1, e2⟩ := hr1.2 q _ hg
      obtain ⟨o1, o2, o3, o4⟩ := hok l[q] (List.getElem_mem hlt)
      have hpo := pkS_ok hok l.length picks q (by omega)
      have hgd : l.getD q (0, 0) = l[q] := by rw [List.getD_eq_getElem?_getD, hg]; rfl
      have ek : zI l.length - zI 1 - zI q = zI ((l.length - 1 - q : Nat) : Int) := by
        rw [zI_sub, zI_sub]
        congr 1
        omega
      have hp2 : ((picks : Nat) : Int) / 2 ^ (l.length - 1 - q) % 2 = ((picks / 2 ^ (l.length - 1 - q) % 2 : Nat) : Int) := by
        rw [Int.natCast_emod, Int.natCast_ediv]
        simp
      refine g_iload_n rfl dX0_layThrough_7 ?_
      refine g_aload_n rfl dX0_layThrough_8 ?_
      refine gf_X0_22 (by decide) rfl dX0_layThrough_9 ?_
      rw [h0]
      refine g_icmp_ge (tgt := 53) dX0_layThrough_12 (by decide) (fun c12 => ?_) (fun c12 => ?_)
      · simp (disch := omega) only [i_le, zI_toInt] at c12
        omega
      · refine g_iload_n rfl dX0_layThrough_15 ?_
        refine g_aload_n rfl dX0_layThrough_16 ?_
        refine gf_X0_22 (by decide) rfl dX0_layThrough_17 ?_
        rw [h0]
        refine g_iconst dX0_layThrough_20 ?_
        refine g_isub dX0_layThrough_21 ?_
        refine g_iload_n rfl dX0_layThrough_22 ?_
        refine g_isub dX0_layThrough_23 ?_
        rw [ek]
        refine gi_X0_25 (ev_X4_bit (a := (picks : Nat)) (k := l.length - 1 - q) (by omega) (by omega) (by omega) M1) rfl rfl ⟨Nat.le_of_ble_eq_true rfl, Nat.le_of_ble_eq_true rfl, Nat.le_of_ble_eq_true rfl, Nat.le_of_ble_eq_true rfl⟩ (Nat.le_of_ble_eq_true rfl) dX0_layThrough_24 (fun r24 M24 hq24 => ?_)
        obtain ⟨rfl, rfl⟩ := hq24
        rw [hp2]
        refine g_iconst dX0_layThrough_27 ?_
        refine g_icmp_ne (tgt := 47) dX0_layThrough_28 (by decide) (fun c28 => ?_) (fun c28 => ?_)
        · refine g_iinc (L2 := [(0, _), (1, _), (2, _), (3, _)]) rfl (by decide) rfl dX0_layThrough_47 ?_
          refine g_goto (tgt := 7) dX0_layThrough_50 (by decide) ?_
          rw [zI_eqz (by omega) (by omega) (by decide) (by decide)] at c28
          rw [zI_add]
          refine ih (q + 1) (by omega) M1 hs ?_
          rw [pkS, if_neg (by omega), List.append_nil]
          exact hc
        · refine g_aload_n rfl dX0_layThrough_31 ?_
          refine g_aload_n rfl dX0_layThrough_32 ?_
          refine gf_X0_29 (by decide) rfl rfl dX0_layThrough_33 ?_
          refine g_iload_n rfl dX0_layThrough_36 ?_
          refine g_iald (n := 9) (by decide) rfl rfl (zI_in (by omega) (by omega) (by decide)) dX0_layThrough_37 ?_
          rw [zI_clamp (by omega) (by omega), show ((q : Nat) : Int).toNat = q from rfl, e1]
          refine g_aload_n rfl dX0_layThrough_38 ?_
          refine gf_X0_32 (by decide) rfl rfl dX0_layThrough_39 ?_
          refine g_iload_n rfl dX0_layThrough_42 ?_
          refine g_iald (n := 9) (by decide) rfl rfl (zI_in (by omega) (by omega) (by decide)) dX0_layThrough_43 ?_
          rw [zI_clamp (by omega) (by omega), show ((q : Nat) : Int).toNat = q from rfl, e2]
          have h77 : (layP (pkS l l.length picks q)).length ≤ 6 := by
            have h3 : lenF l.length picks (q + 1) = lenF l.length picks q + 1 := by
              rw [zI_eqz (by omega) (by omega) (by decide) (by decide)] at c28
              rw [lenF, if_pos (by omega)]
            have h4 := lenF_mono l.length picks (l.length - (q + 1)) (q + 1)
            rw [show q + 1 + (l.length - (q + 1)) = l.length by omega] at h4
            rw [layP_len hpo, pkS_len]
            omega
          refine gi_X0_35 (by decide) rfl (ev_X0_bend (x := (l[q].1 : Nat)) (y := l[q].2) hc (layP_ok hpo) h77 (by omega) (by omega) o3 o4) rfl rfl ⟨Nat.le_of_ble_eq_true rfl, Nat.le_of_ble_eq_true rfl, Nat.le_of_ble_eq_true rfl, Nat.le_of_ble_eq_true rfl⟩ (Nat.le_of_ble_eq_true rfl) dX0_layThrough_44 (fun r44 M44 hq44 => ?_)
          obtain ⟨rfl, rfl⟩ := hq44
          refine g_iinc (L2 := [(0, _), (1, _), (2, _), (3, _)]) rfl (by decide) rfl dX0_layThrough_47 ?_
          refine g_goto (tgt := 7) dX0_layThrough_50 (by decide) ?_
          rw [zI_eqz (by omega) (by omega) (by decide) (by decide)] at c28
          rw [zI_add]
          refine ih (q + 1) (by omega) _ (hs.t (benM_sac _ _ _ _)) ?_
          rw [pkS, if_pos (by omega), hgd, layP_add]
          exact benM_is hc _ _
  refine g_aload_n rfl dX0_layThrough_0 ?_
  refine g_iconst dX0_layThrough_1 ?_
  refine gp_X0_18 (by decide) rfl dX0_layThrough_2 ?_
  refine g_iconst dX0_layThrough_5 ?_
  refine g_istore_n (L2 := [(0, _), (1, _), (2, _), (3, _)]) (by decide) rfl dX0_layThrough_6 ?_
  exact loop l.length 0 (by omega) _ (fun a ha => mset_other _ _ _ (by omega)) ⟨mset_same _ _ _ _, fun p x hx => by cases hx⟩
end
section
/-! class SilentAsking: on and off the curve, finding it -/
def onX (cl : List (Int × Int)) (e : Nat × Int) : Bool := decide (newt cl e.1 = e.2)
def cnOn (on : Nat × Int → Bool) (l : List (Nat × Int)) : Nat → Nat
  | 0 => 0
  | p + 1 => cnOn on l p + (if on (l.getD p (0, 0)) = true then 1 else 0)
theorem cnOn_le (on : Nat × Int → Bool) (l : List (Nat × Int)) : ∀ p, cnOn on l p ≤ p
  | 0 => Nat.le_refl _
  | p + 1 => by
    have := cnOn_le on l p
    unfold cnOn
    split <;> omega
def offS (on : Nat × Int → Bool) (l : List (Nat × Int)) : Nat → Nat
  | 0 => 0
  | p + 1 => if on (l.getD p (0, 0)) = true then offS on l p else offS on l p ||| 2 ^ (l.getD p (0, 0)).1
theorem offS_lt {on : Nat × Int → Bool} {l : List (Nat × Int)} (h : rowOk l) : ∀ p, p ≤ l.length → offS on l p < 1024
  | 0, _ => by show 0 < 1024; decide
  | p + 1, hp => by
    have h1 := offS_lt (on := on) h p (by omega)
    have hlt : p < l.length := by omega
    have hgd : l.getD p (0, 0) = l[p] := by rw [List.getD_eq_getElem?_getD, List.getElem?_eq_getElem hlt]; rfl
    obtain ⟨o1, o2, -, -⟩ := h l[p] (List.getElem_mem hlt)
    unfold offS
    split
    · exact h1
    · refine Nat.or_lt_two_pow (n := 10) h1 ?_
      rw [hgd]
      exact Nat.pow_lt_pow_right (by decide) (by omega)
theorem ev_X2_isOn {M : Mem} {l : List (Nat × Int)} {cl : List (Int × Int)} (hr : RowIs M l) (hl : l.length ≤ 9) (hok : rowOk l) (hc : CurIs M cl) (hco : curOk cl) (hcl : cl.length ≤ 7) {p : Nat} (hp : p < l.length) : EvF yX2_isOn cX2_isOn 3 (some .boolean) 1 [.ref 25, .ref 28, .int (zI p)] M (some (.int (bI (onX cl (l.getD p (0, 0)))))) M := by
  refine EvF.of (by decide +kernel) (Nat.le_of_ble_eq_true rfl) (fun Q hQ => ?_)
  have hg : l[p]? = some l[p] := List.getElem?_eq_getElem hp
  obtain ⟨e1, e2⟩ := hr.2 p _ hg
  obtain ⟨o1, o2, o3, o4⟩ := hok l[p] (List.getElem_mem hp)
  have hgd : l.getD p (0, 0) = l[p] := by rw [List.getD_eq_getElem?_getD, hg]; rfl
  have hn := newt_bd cl (l[p].1 : Nat)
  rw [hgd] at hQ
  refine g_aload_n rfl dX2_isOn_0 ?_
  refine g_aload_n rfl dX2_isOn_1 ?_
  refine gf_X2_9 (by decide) rfl rfl dX2_isOn_2 ?_
  refine g_iload_n rfl dX2_isOn_5 ?_
  refine g_iald (n := 9) (by decide) rfl rfl (zI_in (by omega) (by omega) (by decide)) dX2_isOn_6 ?_
  rw [zI_clamp (by omega) (by omega), show ((p : Nat) : Int).toNat = p from rfl, e1]
  refine gi_X2_22 (by decide) rfl (ev_X0_at (x := (l[p].1 : Nat)) hc hco hcl (by omega) (by omega)) rfl rfl ⟨Nat.le_of_ble_eq_true rfl, Nat.le_of_ble_eq_true rfl, Nat.le_of_ble_eq_true rfl, Nat.le_of_ble_eq_true rfl⟩ (Nat.le_of_ble_eq_true rfl) dX2_isOn_7 (fun r7 M7 hq7 => ?_)
  obtain ⟨rfl, rfl⟩ := hq7
  refine g_aload_n rfl dX2_isOn_10 ?_
  refine gf_X2_15 (by decide) rfl rfl dX2_isOn_11 ?_
  refine g_iload_n rfl dX2_isOn_14 ?_
  refine g_iald (n := 9) (by decide) rfl rfl (zI_in (by omega) (by omega) (by decide)) dX2_isOn_15 ?_
  rw [zI_clamp (by omega) (by omega), show ((p : Nat) : Int).toNat = p from rfl, e2]
  refine g_icmp_ne (tgt := 23) dX2_isOn_16 (by decide) (fun c16 => ?_) (fun c16 => ?_)
  · refine g_iconst dX2_isOn_23 ?_
    refine g_zreturn rfl rfl dX2_isOn_24 ?_
    rw [zI_eqz (by omega) (by omega) (by omega) (by omega)] at c16
    rw [onX, bI_f (decide_eq_false c16)] at hQ
    exact hQ
  · refine g_iconst dX2_isOn_19 ?_
    refine g_goto (tgt := 24) dX2_isOn_20 (by decide) ?_
    refine g_zreturn rfl rfl dX2_isOn_24 ?_
    rw [zI_eqz (by omega) (by omega) (by omega) (by omega)] at c16
    rw [onX, bI_t (decide_eq_true c16)] at hQ
    exact hQ
theorem ev_X2_countOn {M : Mem} {l : List (Nat × Int)} {cl : List (Int × Int)} (hr : RowIs M l) (hl : l.length ≤ 9) (hok : rowOk l) (hc : CurIs M cl) (hco : curOk cl) (hcl : cl.length ≤ 7) : EvF yX2_countOn cX2_countOn 4 (some .int) 2 [.ref 25, .ref 28] M (some (.int (zI (cnOn (onX cl) l l.length : Nat)))) M := by
  refine EvF.of (by decide +kernel) (Nat.le_of_ble_eq_true rfl) (fun Q hQ => ?_)
  have h0 := hr.1
  have loop : ∀ (d q : Nat), d + q = l.length → G yX2_countOn.cls cX2_countOn 4 (some .int) (gE 2 Q) 4 [(0, .ref 25), (1, .ref 28), (2, .int (zI (cnOn (onX cl) l q : Nat))), (3, .int (zI q))] [] M := by
    intro d
    induction d with
    | zero =>
      intro q hq
      refine g_iload_n rfl dX2_countOn_4 ?_
      refine g_aload_n rfl dX2_countOn_5 ?_
      refine gf_X2_18 (by decide) rfl dX2_countOn_6 ?_
      rw [h0]
      refine g_icmp_ge (tgt := 30) dX2_countOn_9 (by decide) (fun c9 => ?_) (fun c9 => ?_)
      · refine g_iload_n rfl dX2_countOn_30 ?_
        refine g_ireturn rfl dX2_countOn_31 ?_
        obtain rfl : q = l.length := by omega
        exact hQ
      · simp (disch := omega) only [i_le, zI_toInt] at c9
        omega
    | succ d ih =>
      intro q hq
      have ih := ih (q + 1) (by omega)
      refine g_iload_n rfl dX2_countOn_4 ?_
      refine g_aload_n rfl dX2_countOn_5 ?_
      refine gf_X2_18 (by decide) rfl dX2_countOn_6 ?_
      rw [h0]
      refine g_icmp_ge (tgt := 30) dX2_countOn_9 (by decide) (fun c9 => ?_) (fun c9 => ?_)
      · simp (disch := omega) only [i_le, zI_toInt] at c9
        omega
      · refine g_aload_n rfl dX2_countOn_12 ?_
        refine g_aload_n rfl dX2_countOn_13 ?_
        refine g_iload_n rfl dX2_countOn_14 ?_
        refine gi_X2_28 (by decide) rfl (ev_X2_isOn hr hl hok hc hco hcl (p := q) (by omega)) rfl rfl ⟨Nat.le_of_ble_eq_true rfl, Nat.le_of_ble_eq_true rfl, Nat.le_of_ble_eq_true rfl, Nat.le_of_ble_eq_true rfl⟩ (Nat.le_of_ble_eq_true rfl) dX2_countOn_15 (fun r15 M15 hq15 => ?_)
        obtain ⟨rfl, rfl⟩ := hq15
        refine g_if_eq (tgt := 24) dX2_countOn_18 (by decide) (fun c18 => ?_) (fun c18 => ?_)
        · refine g_iinc (L2 := [(0, _), (1, _), (2, _), (3, _)]) rfl (by decide) rfl dX2_countOn_24 ?_
          refine g_goto (tgt := 4) dX2_countOn_27 (by decide) ?_
          rw [bI_0] at c18
          rw [cnOn, if_neg (by rw [c18]; decide)] at ih
          rw [zI_add]
          exact ih
        · refine g_iinc (L2 := [(0, _), (1, _), (2, _), (3, _)]) rfl (by decide) rfl dX2_countOn_21 ?_
          refine g_iinc (L2 := [(0, _), (1, _), (2, _), (3, _)]) rfl (by decide) rfl dX2_countOn_24 ?_
          refine g_goto (tgt := 4) dX2_countOn_27 (by decide) ?_
          rw [bI_n0] at c18
          rw [cnOn, if_pos c18] at ih
          rw [zI_add, zI_add]
          exact ih
  refine g_iconst dX2_countOn_0 ?_
  refine g_istore_n (L2 := [(0, _), (1, _), (2, _)]) (by decide) rfl dX2_countOn_1 ?_
  refine g_iconst dX2_countOn_2 ?_
  refine g_istore_n (L2 := [(0, _), (1, _), (2, _), (3, _)]) (by decide) rfl dX2_countOn_3 ?_
  exact loop l.length 0 (by omega)
theorem zI_or {a b : Nat} (h : a < 2147483648) (h2 : b < 2147483648) : zI (a : Int) ||| zI (b : Int) = zI ((a ||| b : Nat) : Int) := by
  rw [zI_nI, zI_nI, zI_nI]
  apply Int32.toBitVec_inj.mp
  apply BitVec.eq_of_toNat_eq
  have hx : a ||| b < 2 ^ 31 := Nat.or_lt_two_pow (by omega) (by omega)
  show ((nI a).toBitVec ||| (nI b).toBitVec).toNat = _
  rw [BitVec.toNat_or, pk_tn (by omega), pk_tn (by omega), pk_tn (by omega)]
theorem ev_X2_storesOff {M : Mem} {l : List (Nat × Int)} {cl : List (Int × Int)} (hr : RowIs M l) (hl : l.length ≤ 9) (hok : rowOk l) (hc : CurIs M cl) (hco : curOk cl) (hcl : cl.length ≤ 7) : EvF yX2_storesOff cX2_storesOff 4 (some .int) 2 [.ref 25, .ref 28] M (some (.int (zI (offS (onX cl) l l.length : Nat)))) M := by
  refine EvF.of (by decide +kernel) (Nat.le_of_ble_eq_true rfl) (fun Q hQ => ?_)
  have h0 := hr.1
  have loop : ∀ (d q : Nat), d + q = l.length → G yX2_storesOff.cls cX2_storesOff 4 (some .int) (gE 2 Q) 4 [(0, .ref 25), (1, .ref 28), (2, .int (zI (offS (onX cl) l q : Nat))), (3, .int (zI q))] [] M := by
    intro d
    induction d with
    | zero =>
      intro q hq
      refine g_iload_n rfl dX2_storesOff_4 ?_
      refine g_aload_n rfl dX2_storesOff_5 ?_
      refine gf_X2_18 (by decide) rfl dX2_storesOff_6 ?_
      rw [h0]
      refine g_icmp_ge (tgt := 38) dX2_storesOff_9 (by decide) (fun c9 => ?_) (fun c9 => ?_)
      · refine g_iload_n rfl dX2_storesOff_38 ?_
        refine g_ireturn rfl dX2_storesOff_39 ?_
        obtain rfl : q = l.length := by omega
        exact hQ
      · simp (disch := omega) only [i_le, zI_toInt] at c9
        omega
    | succ d ih =>
      intro q hq
      have ih := ih (q + 1) (by omega)
      have hlt : q < l.length := by omega
      have hg : l[q]? = some l[q] := List.getElem?_eq_getElem hlt
      obtain ⟨e1, e2⟩ := hr.2 q _ hg
      obtain ⟨o1, o2, -, -⟩ := hok l[q] (List.getElem_mem hlt)
      have hgd : l.getD q (0, 0) = l[q] := by rw [List.getD_eq_getElem?_getD, hg]; rfl
      have hof := offS_lt (on := onX cl) hok q (by omega)
      have hpw : 2 ^ l[q].1 < 2 ^ 10 := Nat.pow_lt_pow_right (by decide) (by omega)
      have hpz := p2_z l[q].1
      refine g_iload_n rfl dX2_storesOff_4 ?_
      refine g_aload_n rfl dX2_storesOff_5 ?_
      refine gf_X2_18 (by decide) rfl dX2_storesOff_6 ?_
      rw [h0]
      refine g_icmp_ge (tgt := 38) dX2_storesOff_9 (by decide) (fun c9 => ?_) (fun c9 => ?_)
      · simp (disch := omega) only [i_le, zI_toInt] at c9
        omega
      · refine g_aload_n rfl dX2_storesOff_12 ?_
        refine g_aload_n rfl dX2_storesOff_13 ?_
        refine g_iload_n rfl dX2_storesOff_14 ?_
        refine gi_X2_28 (by decide) rfl (ev_X2_isOn hr hl hok hc hco hcl (p := q) hlt) rfl rfl ⟨Nat.le_of_ble_eq_true rfl, Nat.le_of_ble_eq_true rfl, Nat.le_of_ble_eq_true rfl, Nat.le_of_ble_eq_true rfl⟩ (Nat.le_of_ble_eq_true rfl) dX2_storesOff_15 (fun r15 M15 hq15 => ?_)
        obtain ⟨rfl, rfl⟩ := hq15
        refine g_if_ne (tgt := 32) dX2_storesOff_18 (by decide) (fun c18 => ?_) (fun c18 => ?_)
        · refine g_iinc (L2 := [(0, _), (1, _), (2, _), (3, _)]) rfl (by decide) rfl dX2_storesOff_32 ?_
          refine g_goto (tgt := 4) dX2_storesOff_35 (by decide) ?_
          rw [bI_n0] at c18
          rw [offS, if_pos c18] at ih
          rw [zI_add]
          exact ih
        · refine g_iload_n rfl dX2_storesOff_21 ?_
          refine g_iconst dX2_storesOff_22 ?_
          refine g_aload_n rfl dX2_storesOff_23 ?_
          refine gf_X2_9 (by decide) rfl rfl dX2_storesOff_24 ?_
          refine g_iload_n rfl dX2_storesOff_27 ?_
          refine g_iald (n := 9) (by decide) rfl rfl (zI_in (by omega) (by omega) (by decide)) dX2_storesOff_28 ?_
          rw [zI_clamp (by omega) (by omega), show ((q : Nat) : Int).toNat = q from rfl, e1]
          refine g_ishl dX2_storesOff_29 ?_
          refine g_ior dX2_storesOff_30 ?_
          refine g_istore_n (L2 := [(0, _), (1, _), (2, _), (3, _)]) (by decide) rfl dX2_storesOff_31 ?_
          refine g_iinc (L2 := [(0, _), (1, _), (2, _), (3, _)]) rfl (by decide) rfl dX2_storesOff_32 ?_
          refine g_goto (tgt := 4) dX2_storesOff_35 (by decide) ?_
          rw [bI_0] at c18
          rw [offS, if_neg (by rw [c18]; decide), hgd] at ih
          rw [zI_shl (by decide) (by omega) (by omega), Int.one_mul, hpz, zI_or (by omega) (by omega), zI_add]
          exact ih
  refine g_iconst dX2_storesOff_0 ?_
  refine g_istore_n (L2 := [(0, _), (1, _), (2, _)]) (by decide) rfl dX2_storesOff_1 ?_
  refine g_iconst dX2_storesOff_2 ?_
  refine g_istore_n (L2 := [(0, _), (1, _), (2, _), (3, _)]) (by decide) rfl dX2_storesOff_3 ?_
  exact loop l.length 0 (by omega)
theorem ev_X4_firstPicks {M : Mem} {n g : Nat} (hn : M 25 2 = zI n) (hg : M 22 7 = zI g) (hg6 : g ≤ 6) (hgn : g + 1 ≤ n) (hn9 : n ≤ 9) : EvF yX4_firstPicks cX4_firstPicks 2 (some .int) 0 [.ref 0] M (some (.int (zI (((2 ^ (g + 1) - 1) * 2 ^ (n - (g + 1)) : Nat))))) M := by
  refine EvF.of (by decide +kernel) (Nat.le_of_ble_eq_true rfl) (fun Q hQ => ?_)
  have hb1 : 2 ^ (g + 1) ≤ 2 ^ 7 := Nat.pow_le_pow_right (by decide) (by omega)
  have hb2 : 2 ^ (n - (g + 1)) ≤ 2 ^ 8 := Nat.pow_le_pow_right (by decide) (by omega)
  have hb3 : (2 ^ (g + 1) - 1) * 2 ^ (n - (g + 1)) ≤ 2 ^ 7 * 2 ^ 8 := Nat.mul_le_mul (by omega) hb2
  have hz1 := p2_z (g + 1)
  have hz2 := p2_z (n - (g + 1))
  have hp : 1 ≤ 2 ^ (g + 1) := Nat.one_le_two_pow
  refine g_aload_n rfl dX4_firstPicks_0 ?_
  refine gf_X4_25 (by decide) rfl rfl dX4_firstPicks_1 ?_
  refine gf_X4_116 (by decide) rfl dX4_firstPicks_4 ?_
  rw [hg]
  refine g_iconst dX4_firstPicks_7 ?_
  refine g_iadd dX4_firstPicks_8 ?_
  rw [zI_add, show (g : Int) + 1 = ((g + 1 : Nat) : Int) from rfl]
  refine g_istore_n (L2 := [(0, _), (1, _)]) (by decide) rfl dX4_firstPicks_9 ?_
  refine g_iconst dX4_firstPicks_10 ?_
  refine g_iload_n rfl dX4_firstPicks_11 ?_
  refine g_ishl dX4_firstPicks_12 ?_
  rw [zI_shl (by decide) (by omega) (by omega), Int.one_mul, hz1]
  refine g_iconst dX4_firstPicks_13 ?_
  refine g_isub dX4_firstPicks_14 ?_
  rw [zI_sub, show ((2 ^ (g + 1) : Nat) : Int) - 1 = ((2 ^ (g + 1) - 1 : Nat) : Int) by omega]
  refine g_aload_n rfl dX4_firstPicks_15 ?_
  refine gf_X4_32 (by decide) rfl rfl dX4_firstPicks_16 ?_
  refine gf_X4_140 (by decide) rfl dX4_firstPicks_19 ?_
  rw [hn]
  refine g_iload_n rfl dX4_firstPicks_22 ?_
  refine g_isub dX4_firstPicks_23 ?_
  rw [zI_sub, show (n : Int) - ((g + 1 : Nat) : Int) = ((n - (g + 1) : Nat) : Int) by omega]
  refine g_ishl dX4_firstPicks_24 ?_
  rw [zI_shl (by omega) (by omega) (by rw [hz2, ← Int.natCast_mul]; omega), hz2, ← Int.natCast_mul]
  refine g_ireturn rfl dX4_firstPicks_25 ?_
  exact hQ
/-- the first of the falling picks whose curve enough are on -/
def findS (l : List (Nat × Int)) (g : Nat) (enough : Int) : Nat → Option Nat
  | 0 => none
  | p + 1 => if popN (p + 1) = g + 1 ∧ enough ≤ (cnOn (onX (layP (pkS l l.length (p + 1) l.length))) l l.length : Nat) then some (p + 1) else findS l g enough p
theorem ev_X4_findCurve {M : Mem} {l : List (Nat × Int)} {g : Nat} {enough : Int} (hr : RowIs M l) (hl : l.length ≤ 9) (hok : rowOk l) (hg : M 22 7 = zI g) (hg6 : g ≤ 6) (he : -100 < enough ∧ enough < 100) :
    Ev yX4_findCurve cX4_findCurve 3 (some .boolean) 3 [.ref 0, .int (zI enough)] M (fun r M1 => some (.int (bI (findS l g enough (2 ^ l.length - 1)).isSome)) = r ∧ Sac M M1 ∧ ∀ p, findS l g enough (2 ^ l.length - 1) = some p → CurIs M1 (layP (pkS l l.length p l.length))) := by
  refine Ev.of (by decide +kernel) (Nat.le_of_ble_eq_true rfl) (fun Q hQ => ?_)
  have h0 := hr.1
  have hb : 2 ^ l.length ≤ 2 ^ 9 := Nat.pow_le_pow_right (by decide) hl
  have hp1 : 1 ≤ 2 ^ l.length := Nat.one_le_two_pow
  have hz := p2_z l.length
  have loop : ∀ (q : Nat), q < 2 ^ l.length → ∀ M1 : Mem, Sac M M1 → (∀ M2, Sac M M2 → (∀ p, findS l g enough q = some p → CurIs M2 (layP (pkS l l.length p l.length))) → Q (some (.int (bI (findS l g enough q).isSome))) M2) → G yX4_findCurve.cls cX4_findCurve 3 (some .boolean) (gE 3 Q) 12 [(0, .ref 0), (1, .int (zI enough)), (2, .int (zI q))] [] M1 := by
    intro q
    induction q with
    | zero =>
      intro hq M1 hs hQ1
      refine g_iload_n rfl dX4_findCurve_12 ?_
      refine g_if_le (tgt := 67) dX4_findCurve_13 (by decide) (fun c13 => ?_) (fun c13 => ?_)
      · refine g_iconst dX4_findCurve_67 ?_
        refine g_zreturn rfl rfl dX4_findCurve_68 ?_
        exact hQ1 M1 hs (fun p hp => by cases hp)
      · simp (disch := omega) only [i_le, zI_toInt, i_0] at c13
        omega
    | succ q ih =>
      intro hq M1 hs hQ1
      have hr1 := hs.row hr
      have hpop := lenF_pop l.length (by omega) (q + 1) (by omega) hq
      have hpb : popN (q + 1) ≤ 10 := cnt_le _ _
      have eg : M1 22 7 = zI g := by rw [hs 22 (by decide)]; exact hg
      refine g_iload_n rfl dX4_findCurve_12 ?_
      refine g_if_le (tgt := 67) dX4_findCurve_13 (by decide) (fun c13 => ?_) (fun c13 => ?_)
      · simp (disch := omega) only [i_le, zI_toInt, i_0] at c13
        omega
      · refine g_iload_n rfl dX4_findCurve_16 ?_
        refine gi_X4_207 (ev_J6_bitCount (n := q + 1) (by omega) M1) rfl rfl ⟨Nat.le_of_ble_eq_true rfl, Nat.le_of_ble_eq_true rfl, Nat.le_of_ble_eq_true rfl, Nat.le_of_ble_eq_true rfl⟩ (Nat.le_of_ble_eq_true rfl) dX4_findCurve_17 (fun r17 M17 hq17 => ?_)
        obtain ⟨rfl, rfl⟩ := hq17
        refine g_aload_n rfl dX4_findCurve_20 ?_
        refine gf_X4_25 (by decide) rfl rfl dX4_findCurve_21 ?_
        refine gf_X4_116 (by decide) rfl dX4_findCurve_24 ?_
        rw [eg]
        refine g_iconst dX4_findCurve_27 ?_
        refine g_iadd dX4_findCurve_28 ?_
        rw [zI_add]
        refine g_icmp_ne (tgt := 61) dX4_findCurve_29 (by decide) (fun c29 => ?_) (fun c29 => ?_)
        · refine g_iinc (L2 := [(0, _), (1, _), (2, _)]) rfl (by decide) rfl dX4_findCurve_61 ?_
          refine g_goto (tgt := 12) dX4_findCurve_64 (by decide) ?_
          rw [zI_eqz (by omega) (by omega) (by omega) (by omega)] at c29
          rw [zI_add, show ((q + 1 : Nat) : Int) + -1 = (q : Nat) by omega]
          refine ih (by omega) M1 hs (fun M2 hs2 hc2 => ?_)
          have e : findS l g enough (q + 1) = findS l g enough q := by
            rw [findS, if_neg (fun z => c29 (by omega))]
          have := hQ1 M2 hs2
          rw [e] at this
          exact this hc2
        · rw [zI_eqz (by omega) (by omega) (by omega) (by omega)] at c29
          have hpk := pkS_ok hok l.length (q + 1) l.length (Nat.le_refl _)
          have hlen7 : (layP (pkS l l.length (q + 1) l.length)).length ≤ 7 := by
            rw [layP_len hpk, pkS_len, hpop]
            omega
          have hle := cnOn_le (onX (layP (pkS l l.length (q + 1) l.length))) l l.length
          refine g_aload_n rfl dX4_findCurve_32 ?_
          refine gf_X4_39 (by decide) rfl rfl dX4_findCurve_33 ?_
          refine g_aload_n rfl dX4_findCurve_36 ?_
          refine gf_X4_32 (by decide) rfl rfl dX4_findCurve_37 ?_
          refine g_iload_n rfl dX4_findCurve_40 ?_
          refine gi_X4_177 (by decide) rfl (ev_X0_layThrough hr1 hl hok (picks := q + 1) (by omega) (by omega)) rfl rfl ⟨Nat.le_of_ble_eq_true rfl, Nat.le_of_ble_eq_true rfl, Nat.le_of_ble_eq_true rfl, Nat.le_of_ble_eq_true rfl⟩ (Nat.le_of_ble_eq_true rfl) dX4_findCurve_41 (fun r41 M41 hq41 => ?_)
          obtain ⟨rfl, hs2, hc2⟩ := hq41
          have hr2 := (hs.t hs2).row hr
          refine g_aload_n rfl dX4_findCurve_44 ?_
          refine gf_X4_32 (by decide) rfl rfl dX4_findCurve_45 ?_
          refine g_aload_n rfl dX4_findCurve_48 ?_
          refine gf_X4_39 (by decide) rfl rfl dX4_findCurve_49 ?_
          refine gi_X4_181 (by decide) rfl (ev_X2_countOn hr2 hl hok hc2 (layP_ok hpk) hlen7) rfl rfl ⟨Nat.le_of_ble_eq_true rfl, Nat.le_of_ble_eq_true rfl, Nat.le_of_ble_eq_true rfl, Nat.le_of_ble_eq_true rfl⟩ (Nat.le_of_ble_eq_true rfl) dX4_findCurve_52 (fun r52 M52 hq52 => ?_)
          obtain ⟨rfl, rfl⟩ := hq52
          refine g_iload_n rfl dX4_findCurve_55 ?_
          refine g_icmp_lt (tgt := 61) dX4_findCurve_56 (by decide) (fun c56 => ?_) (fun c56 => ?_)
          · refine g_iinc (L2 := [(0, _), (1, _), (2, _)]) rfl (by decide) rfl dX4_findCurve_61 ?_
            refine g_goto (tgt := 12) dX4_findCurve_64 (by decide) ?_
            simp (disch := omega) only [i_lt, zI_toInt] at c56
            rw [zI_add, show ((q + 1 : Nat) : Int) + -1 = (q : Nat) by omega]
            refine ih (by omega) M41 (hs.t hs2) (fun M2 hs2 hc2 => ?_)
            have e : findS l g enough (q + 1) = findS l g enough q := by
              rw [findS, if_neg (fun z => absurd z.2 (by omega))]
            have := hQ1 M2 hs2
            rw [e] at this
            exact this hc2
          · refine g_iconst dX4_findCurve_59 ?_
            refine g_zreturn rfl rfl dX4_findCurve_60 ?_
            simp (disch := omega) only [i_lt, zI_toInt] at c56
            have e : findS l g enough (q + 1) = some (q + 1) := by
              rw [findS, if_pos ⟨by omega, by omega⟩]
            rw [e] at hQ1
            refine hQ1 M41 (hs.t hs2) (fun p hp => ?_)
            cases hp
            exact hc2
  refine g_iconst dX4_findCurve_0 ?_
  refine g_aload_n rfl dX4_findCurve_1 ?_
  refine gf_X4_32 (by decide) rfl rfl dX4_findCurve_2 ?_
  refine gf_X4_140 (by decide) rfl dX4_findCurve_5 ?_
  rw [h0]
  refine g_ishl dX4_findCurve_8 ?_
  rw [zI_shl (by decide) (by omega) (by omega), Int.one_mul, hz]
  refine g_iconst dX4_findCurve_9 ?_
  refine g_isub dX4_findCurve_10 ?_
  rw [zI_sub, show ((2 ^ l.length : Nat) : Int) - 1 = ((2 ^ l.length - 1 : Nat) : Int) by omega]
  refine g_istore_n (L2 := [(0, _), (1, _), (2, _)]) (by decide) rfl dX4_findCurve_11 ?_
  exact loop (2 ^ l.length - 1) (by omega) M (Sac.r M) (fun M2 hs2 hc2 => hQ _ _ ⟨rfl, hs2, hc2⟩)
end
section
/-! class SilentAsking: its calls -/
theorem bI_d0 {P : Prop} [Decidable P] : bI (decide P) = 0 ↔ ¬ P := by rw [bI_0, decide_eq_false_iff_not]
theorem bI_dn {P : Prop} [Decidable P] : ¬ bI (decide P) = 0 ↔ P := by rw [bI_n0, decide_eq_true_eq]
abbrev okR (M : Mem) (i : Int32) : Prop := 0 ≤ i.toInt ∧ i.toInt < 2 ^ xm M
abbrev okS (j : Int32) : Prop := 1 ≤ j.toInt ∧ j.toInt ≤ 9
abbrev okN (v : Int32) : Prop := 0 ≤ v.toInt ∧ v.toInt < 97
theorem tiN {n : Nat} (h : n < 2147483648) : (zI (n : Int)).toInt = n := zI_toInt (by omega) (by omega)
theorem tnN {n : Nat} (h : n < 2147483648) : (zI (n : Int)).toInt.toNat = n := by rw [tiN h]; rfl
theorem okS_n {j : Int32} (h : okS j) : ∃ n : Nat, 1 ≤ n ∧ n < 10 ∧ j = zI n := ⟨j.toInt.toNat, by omega, by omega, by rw [Int.toNat_of_nonneg (by omega), zI_of]⟩
theorem okR_n {M : Mem} (hw : WX M) {i : Int32} (h : okR M i) : ∃ n : Nat, n < 2 ^ xm M ∧ n < 8 ∧ i = zI n := by
  have h8 := p2_8 hw.m.1 hw.m.2.1
  have hz := p2_z (xm M)
  exact ⟨i.toInt.toNat, by omega, by omega, by rw [Int.toNat_of_nonneg (by omega), zI_of]⟩
theorem okN_n {v : Int32} (h : okN v) : ∃ n : Nat, n < 97 ∧ v = zI n := ⟨v.toInt.toNat, by omega, by rw [Int.toNat_of_nonneg (by omega), zI_of]⟩
theorem ev_X4_put {M : Mem} (hw : WX M) (i v : Int32) : EvF yX4_put cX4_put 4 (some .int) 2 [.ref 0, .int i, .int v] M (some (.int (if okR M i then (if okN v then M 1 i.toInt.toNat else zI (-2)) else zI (-1)))) (if okR M i ∧ okN v then mset M 1 i.toInt.toNat v else M) := by
  refine EvF.of (by decide +kernel) (Nat.le_of_ble_eq_true rfl) (fun Q hQ => ?_)
  obtain ⟨hm1, hm2, -, hm⟩ := hw.m
  refine g_aload_n rfl dX4_put_0 ?_
  refine g_iload_n rfl dX4_put_1 ?_
  refine gi_X4_76 (by decide) rfl (ev_X4_isRecord hm1 hm2 hm i) rfl rfl ⟨Nat.le_of_ble_eq_true rfl, Nat.le_of_ble_eq_true rfl, Nat.le_of_ble_eq_true rfl, Nat.le_of_ble_eq_true rfl⟩ (Nat.le_of_ble_eq_true rfl) dX4_put_2 (fun r2 M2 hq2 => ?_)
  obtain ⟨rfl, rfl⟩ := hq2
  refine g_if_ne (tgt := 10) dX4_put_5 (by decide) (fun c5 => ?_) (fun c5 => ?_)
  · refine g_iload_n rfl dX4_put_10 ?_
    refine gi_X4_80 (ev_X4_isNumber v M) rfl rfl ⟨Nat.le_of_ble_eq_true rfl, Nat.le_of_ble_eq_true rfl, Nat.le_of_ble_eq_true rfl, Nat.le_of_ble_eq_true rfl⟩ (Nat.le_of_ble_eq_true rfl) dX4_put_11 (fun r11 M11 hq11 => ?_)
    obtain ⟨rfl, rfl⟩ := hq11
    refine g_if_ne (tgt := 20) dX4_put_14 (by decide) (fun c14 => ?_) (fun c14 => ?_)
    · rw [bI_dn] at c5 c14
      rw [if_pos c5, if_pos c14, if_pos ⟨c5, c14⟩] at hQ
      obtain ⟨n, hn1, hn2, rfl⟩ := okR_n hw c5
      rw [tnN (by omega)] at hQ
      refine g_aload_n rfl dX4_put_20 ?_
      refine gf_X4_9 (by decide) rfl rfl dX4_put_21 ?_
      refine g_iload_n rfl dX4_put_24 ?_
      refine g_iald (n := 8) (by decide) rfl rfl (zI_in (by omega) (by omega) (by decide)) dX4_put_25 ?_
      rw [zI_clamp (by omega) (by omega), show ((n : Nat) : Int).toNat = n from rfl]
      refine g_istore_n (L2 := [(0, _), (1, _), (2, _), (3, _)]) (by decide) rfl dX4_put_26 ?_
      refine g_aload_n rfl dX4_put_27 ?_
      refine gf_X4_9 (by decide) rfl rfl dX4_put_28 ?_
      refine g_iload_n rfl dX4_put_31 ?_
      refine g_iload_n rfl dX4_put_32 ?_
      refine g_iast (n := 8) (by decide) rfl rfl (zI_in (by omega) (by omega) (by decide)) dX4_put_33 ?_
      rw [zI_clamp (by omega) (by omega), show ((n : Nat) : Int).toNat = n from rfl]
      refine g_iload_n rfl dX4_put_34 ?_
      refine g_ireturn rfl dX4_put_35 ?_
      exact hQ
    · refine g_bipush (by decide) dX4_put_17 ?_
      refine g_ireturn rfl dX4_put_19 ?_
      rw [bI_dn] at c5
      rw [bI_d0] at c14
      rw [if_pos c5, if_neg c14, if_neg (fun q => c14 q.2)] at hQ
      exact hQ
  · refine g_iconst dX4_put_8 ?_
    refine g_ireturn rfl dX4_put_9 ?_
    rw [bI_d0] at c5
    rw [if_neg c5, if_neg (fun q => c5 q.1)] at hQ
    exact hQ
theorem ev_X4_record {M : Mem} (hw : WX M) (i : Int32) : EvF yX4_record cX4_record 2 (some .int) 2 [.ref 0, .int i] M (some (.int (if okR M i then M 1 i.toInt.toNat else zI (-1)))) M := by
  refine EvF.of (by decide +kernel) (Nat.le_of_ble_eq_true rfl) (fun Q hQ => ?_)
  obtain ⟨hm1, hm2, -, hm⟩ := hw.m
  refine g_aload_n rfl dX4_record_0 ?_
  refine g_iload_n rfl dX4_record_1 ?_
  refine gi_X4_76 (by decide) rfl (ev_X4_isRecord hm1 hm2 hm i) rfl rfl ⟨Nat.le_of_ble_eq_true rfl, Nat.le_of_ble_eq_true rfl, Nat.le_of_ble_eq_true rfl, Nat.le_of_ble_eq_true rfl⟩ (Nat.le_of_ble_eq_true rfl) dX4_record_2 (fun r2 M2 hq2 => ?_)
  obtain ⟨rfl, rfl⟩ := hq2
  refine g_if_eq (tgt := 17) dX4_record_5 (by decide) (fun c5 => ?_) (fun c5 => ?_)
  · refine g_iconst dX4_record_17 ?_
    refine g_ireturn rfl dX4_record_18 ?_
    rw [bI_d0] at c5
    rw [if_neg c5] at hQ
    exact hQ
  · rw [bI_dn] at c5
    rw [if_pos c5] at hQ
    obtain ⟨n, hn1, hn2, rfl⟩ := okR_n hw c5
    rw [tnN (by omega)] at hQ
    refine g_aload_n rfl dX4_record_8 ?_
    refine gf_X4_9 (by decide) rfl rfl dX4_record_9 ?_
    refine g_iload_n rfl dX4_record_12 ?_
    refine g_iald (n := 8) (by decide) rfl rfl (zI_in (by omega) (by omega) (by decide)) dX4_record_13 ?_
    rw [zI_clamp (by omega) (by omega), show ((n : Nat) : Int).toNat = n from rfl]
    refine g_goto (tgt := 18) dX4_record_14 (by decide) ?_
    refine g_ireturn rfl dX4_record_18 ?_
    exact hQ
abbrev okK (kd d : Int32) : Prop := (0 ≤ kd.toInt ∧ kd.toInt ≤ 3) ∧ (kd = zI 1 → 1 ≤ d.toInt ∧ d.toInt < 97)
theorem ev_X4_store {M : Mem} (j kd d : Int32) : EvF yX4_store cX4_store 6 (some .int) 2 [.ref 0, .int j, .int kd, .int d] M (some (.int (if okS j then (if okK kd d then M (3 + j.toInt.toNat) 1 else zI (-2)) else zI (-1)))) (if okS j ∧ okK kd d then becX M j.toInt.toNat kd d else M) := by
  refine EvF.of (by decide +kernel) (Nat.le_of_ble_eq_true rfl) (fun Q hQ => ?_)
  refine g_iload_n rfl dX4_store_0 ?_
  refine gi_X4_83 (ev_X4_isStore j M) rfl rfl ⟨Nat.le_of_ble_eq_true rfl, Nat.le_of_ble_eq_true rfl, Nat.le_of_ble_eq_true rfl, Nat.le_of_ble_eq_true rfl⟩ (Nat.le_of_ble_eq_true rfl) dX4_store_1 (fun r1 M1 hq1 => ?_)
  obtain ⟨rfl, rfl⟩ := hq1
  refine g_if_ne (tgt := 9) dX4_store_4 (by decide) (fun c4 => ?_) (fun c4 => ?_)
  · refine g_iload_n rfl dX4_store_9 ?_
    refine gi_X4_86 (ev_X4_isKind kd M) rfl rfl ⟨Nat.le_of_ble_eq_true rfl, Nat.le_of_ble_eq_true rfl, Nat.le_of_ble_eq_true rfl, Nat.le_of_ble_eq_true rfl⟩ (Nat.le_of_ble_eq_true rfl) dX4_store_10 (fun r10 M10 hq10 => ?_)
    obtain ⟨rfl, rfl⟩ := hq10
    refine g_if_eq (tgt := 28) dX4_store_13 (by decide) (fun c13 => ?_) (fun c13 => ?_)
    · rw [bI_dn] at c4
      rw [bI_d0] at c13
      rw [if_pos c4, if_neg (fun q => c13 q.1), if_neg (fun q => c13 q.2.1)] at hQ
      refine g_bipush (by decide) dX4_store_28 ?_
      refine g_ireturn rfl dX4_store_30 ?_
      exact hQ
    · refine g_iload_n rfl dX4_store_16 ?_
      refine g_iconst dX4_store_17 ?_
      refine g_icmp_ne (tgt := 31) dX4_store_18 (by decide) (fun c18 => ?_) (fun c18 => ?_)
      · rw [bI_dn] at c4 c13
        have ck : okK kd d := by
          first
          | exact ⟨c13, fun q => absurd q c18⟩
          | (rw [bI_dn] at c25
             exact ⟨c13, fun _ => c25⟩)
        rw [if_pos c4, if_pos ck, if_pos ⟨c4, ck⟩] at hQ
        obtain ⟨n, hn1, hn2, rfl⟩ := okS_n c4
        rw [tnN (by omega)] at hQ
        refine g_aload_n rfl dX4_store_31 ?_
        refine g_iload_n rfl dX4_store_32 ?_
        refine gi_X4_64 (by decide) rfl (ev_X4_storeOf hn1 hn2 M) rfl rfl ⟨Nat.le_of_ble_eq_true rfl, Nat.le_of_ble_eq_true rfl, Nat.le_of_ble_eq_true rfl, Nat.le_of_ble_eq_true rfl⟩ (Nat.le_of_ble_eq_true rfl) dX4_store_33 (fun r33 M33 hq33 => ?_)
        obtain ⟨rfl, rfl⟩ := hq33
        refine g_astore (L2 := [(0, _), (1, _), (2, _), (3, _), (4, _)]) (by decide) rfl dX4_store_36 ?_
        refine g_aload rfl dX4_store_38 ?_
        refine gf_X4_92 (by omega) (shS n hn2 hn1) dX4_store_40 ?_
        refine g_istore (L2 := [(0, _), (1, _), (2, _), (3, _), (4, _), (5, _)]) (by decide) rfl dX4_store_43 ?_
        refine g_aload rfl dX4_store_45 ?_
        refine g_iload_n rfl dX4_store_47 ?_
        refine g_iload_n rfl dX4_store_48 ?_
        refine g_aload_n rfl dX4_store_49 ?_
        refine gf_X4_9 (by decide) rfl rfl dX4_store_50 ?_
        refine gi_X4_68 (by omega) (shS n hn2 hn1) (ev_X3_become hn1 hn2 kd d M) rfl rfl ⟨Nat.le_of_ble_eq_true rfl, Nat.le_of_ble_eq_true rfl, Nat.le_of_ble_eq_true rfl, Nat.le_of_ble_eq_true rfl⟩ (Nat.le_of_ble_eq_true rfl) dX4_store_53 (fun r53 M53 hq53 => ?_)
        obtain ⟨rfl, rfl⟩ := hq53
        refine g_iload rfl dX4_store_56 ?_
        refine g_ireturn rfl dX4_store_58 ?_
        exact hQ
      · refine g_iload_n rfl dX4_store_21 ?_
        refine gi_X4_89 (ev_X4_isLie d M) rfl rfl ⟨Nat.le_of_ble_eq_true rfl, Nat.le_of_ble_eq_true rfl, Nat.le_of_ble_eq_true rfl, Nat.le_of_ble_eq_true rfl⟩ (Nat.le_of_ble_eq_true rfl) dX4_store_22 (fun r22 M22 hq22 => ?_)
        obtain ⟨rfl, rfl⟩ := hq22
        refine g_if_ne (tgt := 31) dX4_store_25 (by decide) (fun c25 => ?_) (fun c25 => ?_)
        · rw [bI_dn] at c4 c13
          have ck : okK kd d := by
            first
            | exact ⟨c13, fun q => absurd q c18⟩
            | (rw [bI_dn] at c25
               exact ⟨c13, fun _ => c25⟩)
          rw [if_pos c4, if_pos ck, if_pos ⟨c4, ck⟩] at hQ
          obtain ⟨n, hn1, hn2, rfl⟩ := okS_n c4
          rw [tnN (by omega)] at hQ
          refine g_aload_n rfl dX4_store_31 ?_
          refine g_iload_n rfl dX4_store_32 ?_
          refine gi_X4_64 (by decide) rfl (ev_X4_storeOf hn1 hn2 M) rfl rfl ⟨Nat.le_of_ble_eq_true rfl, Nat.le_of_ble_eq_true rfl, Nat.le_of_ble_eq_true rfl, Nat.le_of_ble_eq_true rfl⟩ (Nat.le_of_ble_eq_true rfl) dX4_store_33 (fun r33 M33 hq33 => ?_)
          obtain ⟨rfl, rfl⟩ := hq33
          refine g_astore (L2 := [(0, _), (1, _), (2, _), (3, _), (4, _)]) (by decide) rfl dX4_store_36 ?_
          refine g_aload rfl dX4_store_38 ?_
          refine gf_X4_92 (by omega) (shS n hn2 hn1) dX4_store_40 ?_
          refine g_istore (L2 := [(0, _), (1, _), (2, _), (3, _), (4, _), (5, _)]) (by decide) rfl dX4_store_43 ?_
          refine g_aload rfl dX4_store_45 ?_
          refine g_iload_n rfl dX4_store_47 ?_
          refine g_iload_n rfl dX4_store_48 ?_
          refine g_aload_n rfl dX4_store_49 ?_
          refine gf_X4_9 (by decide) rfl rfl dX4_store_50 ?_
          refine gi_X4_68 (by omega) (shS n hn2 hn1) (ev_X3_become hn1 hn2 kd d M) rfl rfl ⟨Nat.le_of_ble_eq_true rfl, Nat.le_of_ble_eq_true rfl, Nat.le_of_ble_eq_true rfl, Nat.le_of_ble_eq_true rfl⟩ (Nat.le_of_ble_eq_true rfl) dX4_store_53 (fun r53 M53 hq53 => ?_)
          obtain ⟨rfl, rfl⟩ := hq53
          refine g_iload rfl dX4_store_56 ?_
          refine g_ireturn rfl dX4_store_58 ?_
          exact hQ
        · rw [bI_dn] at c4 c13
          rw [bI_d0] at c25
          rw [if_pos c4, if_neg (fun q => c25 (q.2 c18)), if_neg (fun q => c25 (q.2.2 c18))] at hQ
          refine g_bipush (by decide) dX4_store_28 ?_
          refine g_ireturn rfl dX4_store_30 ?_
          exact hQ
  · refine g_iconst dX4_store_7 ?_
    refine g_ireturn rfl dX4_store_8 ?_
    rw [bI_d0] at c4
    rw [if_neg c4, if_neg (fun q => c4 q.1)] at hQ
    exact hQ
abbrev okT (kd w : Int32) : Prop := (0 ≤ kd.toInt ∧ kd.toInt ≤ 3) ∧ 0 ≤ w.toInt ∧ w.toInt ≤ 2
def takX (M : Mem) (j : Nat) (kd w : Int32) : Int32 :=
  if ¬ kd = 0 ∧ ¬ kd = M (3 + j) 1 then zI (-13) else if w = 0 then M (3 + j) 1 else if w = zI 1 then (if M (3 + j) 1 = zI 1 then M (3 + j) 2 else zI (-9)) else if mi M (3 + j) 1 = 3 then zI (-9) else M (hc M j) 0
theorem ev_X4_taken {M : Mem} (j kd w : Int32) : EvF yX4_taken cX4_taken 5 (some .int) 2 [.ref 0, .int j, .int kd, .int w] M (some (.int (if okS j then (if okT kd w then takX M j.toInt.toNat kd w else zI (-2)) else zI (-1)))) M := by
  refine EvF.of (by decide +kernel) (Nat.le_of_ble_eq_true rfl) (fun Q hQ => ?_)
  refine g_iload_n rfl dX4_taken_0 ?_
  refine gi_X4_83 (ev_X4_isStore j M) rfl rfl ⟨Nat.le_of_ble_eq_true rfl, Nat.le_of_ble_eq_true rfl, Nat.le_of_ble_eq_true rfl, Nat.le_of_ble_eq_true rfl⟩ (Nat.le_of_ble_eq_true rfl) dX4_taken_1 (fun r1 M1 hq1 => ?_)
  obtain ⟨rfl, rfl⟩ := hq1
  refine g_if_ne (tgt := 9) dX4_taken_4 (by decide) (fun c4 => ?_) (fun c4 => ?_)
  · refine g_iload_n rfl dX4_taken_9 ?_
    refine gi_X4_86 (ev_X4_isKind kd M) rfl rfl ⟨Nat.le_of_ble_eq_true rfl, Nat.le_of_ble_eq_true rfl, Nat.le_of_ble_eq_true rfl, Nat.le_of_ble_eq_true rfl⟩ (Nat.le_of_ble_eq_true rfl) dX4_taken_10 (fun r10 M10 hq10 => ?_)
    obtain ⟨rfl, rfl⟩ := hq10
    refine g_if_eq (tgt := 25) dX4_taken_13 (by decide) (fun c13 => ?_) (fun c13 => ?_)
    · rw [bI_dn] at c4
      have ck : ¬ okT kd w := by
        first
        | (rw [bI_d0] at c13
           exact fun q => c13 q.1)
        | (simp (disch := omega) only [i_lt, i_le, zI_toInt, i_0] at c17
           exact fun q => absurd q.2.1 (by omega))
        | (simp (disch := omega) only [i_lt, i_le, zI_toInt, i_0] at c22
           exact fun q => absurd q.2.2 (by omega))
      rw [if_pos c4, if_neg ck] at hQ
      refine g_bipush (by decide) dX4_taken_25 ?_
      refine g_ireturn rfl dX4_taken_27 ?_
      exact hQ
    · refine g_iload_n rfl dX4_taken_16 ?_
      refine g_if_lt (tgt := 25) dX4_taken_17 (by decide) (fun c17 => ?_) (fun c17 => ?_)
      · rw [bI_dn] at c4
        have ck : ¬ okT kd w := by
          first
          | (rw [bI_d0] at c13
             exact fun q => c13 q.1)
          | (simp (disch := omega) only [i_lt, i_le, zI_toInt, i_0] at c17
             exact fun q => absurd q.2.1 (by omega))
          | (simp (disch := omega) only [i_lt, i_le, zI_toInt, i_0] at c22
             exact fun q => absurd q.2.2 (by omega))
        rw [if_pos c4, if_neg ck] at hQ
        refine g_bipush (by decide) dX4_taken_25 ?_
        refine g_ireturn rfl dX4_taken_27 ?_
        exact hQ
      · refine g_iload_n rfl dX4_taken_20 ?_
        refine g_iconst dX4_taken_21 ?_
        refine g_icmp_le (tgt := 28) dX4_taken_22 (by decide) (fun c22 => ?_) (fun c22 => ?_)
        · rw [bI_dn] at c4 c13
          simp (disch := omega) only [i_lt, i_le, zI_toInt, i_0] at c17 c22
          rw [if_pos c4, if_pos ⟨c13, by omega, by omega⟩] at hQ
          obtain ⟨n, hn1, hn2, rfl⟩ := okS_n c4
          rw [tnN (by omega), takX] at hQ
          refine g_aload_n rfl dX4_taken_28 ?_
          refine g_iload_n rfl dX4_taken_29 ?_
          refine gi_X4_64 (by decide) rfl (ev_X4_storeOf hn1 hn2 M) rfl rfl ⟨Nat.le_of_ble_eq_true rfl, Nat.le_of_ble_eq_true rfl, Nat.le_of_ble_eq_true rfl, Nat.le_of_ble_eq_true rfl⟩ (Nat.le_of_ble_eq_true rfl) dX4_taken_30 (fun r30 M30 hq30 => ?_)
          obtain ⟨rfl, rfl⟩ := hq30
          refine g_astore (L2 := [(0, _), (1, _), (2, _), (3, _), (4, _)]) (by decide) rfl dX4_taken_33 ?_
          refine g_iload_n rfl dX4_taken_35 ?_
          refine g_if_eq (tgt := 51) dX4_taken_36 (by decide) (fun c36 => ?_) (fun c36 => ?_)
          · have ck : ¬ (¬ kd = 0 ∧ ¬ kd = M (3 + n) 1) := by
              first
              | exact fun q => q.1 c36
              | exact fun q => q.2 c45
            rw [if_neg ck] at hQ
            refine g_iload_n rfl dX4_taken_51 ?_
            refine g_if_ne (tgt := 61) dX4_taken_52 (by decide) (fun c52 => ?_) (fun c52 => ?_)
            · refine g_iload_n rfl dX4_taken_61 ?_
              refine g_iconst dX4_taken_62 ?_
              refine g_icmp_ne (tgt := 86) dX4_taken_63 (by decide) (fun c63 => ?_) (fun c63 => ?_)
              · refine g_aload_n rfl dX4_taken_86 ?_
                refine g_aload rfl dX4_taken_87 ?_
                refine g_iconst dX4_taken_89 ?_
                refine gi_X4_98 (by decide) rfl (ev_X4_copied (j := n) (i := 0) hn1 hn2 (by decide) M) rfl rfl ⟨Nat.le_of_ble_eq_true rfl, Nat.le_of_ble_eq_true rfl, Nat.le_of_ble_eq_true rfl, Nat.le_of_ble_eq_true rfl⟩ (Nat.le_of_ble_eq_true rfl) dX4_taken_90 (fun r90 M90 hq90 => ?_)
                obtain ⟨rfl, rfl⟩ := hq90
                refine g_ireturn rfl dX4_taken_93 ?_
                rw [if_neg c52, if_neg c63] at hQ
                exact hQ
              · refine g_aload rfl dX4_taken_66 ?_
                refine gf_X4_92 (by omega) (shS n hn2 hn1) dX4_taken_68 ?_
                refine g_iconst dX4_taken_71 ?_
                refine g_icmp_ne (tgt := 83) dX4_taken_72 (by decide) (fun c72 => ?_) (fun c72 => ?_)
                · refine g_bipush (by decide) dX4_taken_83 ?_
                  refine g_ireturn rfl dX4_taken_85 ?_
                  rw [if_neg c52, if_pos c63, if_neg c72] at hQ
                  exact hQ
                · refine g_aload rfl dX4_taken_75 ?_
                  refine gf_X4_95 (by omega) (shS n hn2 hn1) dX4_taken_77 ?_
                  refine g_goto (tgt := 85) dX4_taken_80 (by decide) ?_
                  refine g_ireturn rfl dX4_taken_85 ?_
                  rw [if_neg c52, if_pos c63, if_pos c72] at hQ
                  exact hQ
            · refine g_aload rfl dX4_taken_55 ?_
              refine gf_X4_92 (by omega) (shS n hn2 hn1) dX4_taken_57 ?_
              refine g_ireturn rfl dX4_taken_60 ?_
              rw [if_pos c52] at hQ
              exact hQ
          · refine g_iload_n rfl dX4_taken_39 ?_
            refine g_aload rfl dX4_taken_40 ?_
            refine gf_X4_92 (by omega) (shS n hn2 hn1) dX4_taken_42 ?_
            refine g_icmp_eq (tgt := 51) dX4_taken_45 (by decide) (fun c45 => ?_) (fun c45 => ?_)
            · have ck : ¬ (¬ kd = 0 ∧ ¬ kd = M (3 + n) 1) := by
                first
                | exact fun q => q.1 c36
                | exact fun q => q.2 c45
              rw [if_neg ck] at hQ
              refine g_iload_n rfl dX4_taken_51 ?_
              refine g_if_ne (tgt := 61) dX4_taken_52 (by decide) (fun c52 => ?_) (fun c52 => ?_)
              · refine g_iload_n rfl dX4_taken_61 ?_
                refine g_iconst dX4_taken_62 ?_
                refine g_icmp_ne (tgt := 86) dX4_taken_63 (by decide) (fun c63 => ?_) (fun c63 => ?_)
                · refine g_aload_n rfl dX4_taken_86 ?_
                  refine g_aload rfl dX4_taken_87 ?_
                  refine g_iconst dX4_taken_89 ?_
                  refine gi_X4_98 (by decide) rfl (ev_X4_copied (j := n) (i := 0) hn1 hn2 (by decide) M) rfl rfl ⟨Nat.le_of_ble_eq_true rfl, Nat.le_of_ble_eq_true rfl, Nat.le_of_ble_eq_true rfl, Nat.le_of_ble_eq_true rfl⟩ (Nat.le_of_ble_eq_true rfl) dX4_taken_90 (fun r90 M90 hq90 => ?_)
                  obtain ⟨rfl, rfl⟩ := hq90
                  refine g_ireturn rfl dX4_taken_93 ?_
                  rw [if_neg c52, if_neg c63] at hQ
                  exact hQ
                · refine g_aload rfl dX4_taken_66 ?_
                  refine gf_X4_92 (by omega) (shS n hn2 hn1) dX4_taken_68 ?_
                  refine g_iconst dX4_taken_71 ?_
                  refine g_icmp_ne (tgt := 83) dX4_taken_72 (by decide) (fun c72 => ?_) (fun c72 => ?_)
                  · refine g_bipush (by decide) dX4_taken_83 ?_
                    refine g_ireturn rfl dX4_taken_85 ?_
                    rw [if_neg c52, if_pos c63, if_neg c72] at hQ
                    exact hQ
                  · refine g_aload rfl dX4_taken_75 ?_
                    refine gf_X4_95 (by omega) (shS n hn2 hn1) dX4_taken_77 ?_
                    refine g_goto (tgt := 85) dX4_taken_80 (by decide) ?_
                    refine g_ireturn rfl dX4_taken_85 ?_
                    rw [if_neg c52, if_pos c63, if_pos c72] at hQ
                    exact hQ
              · refine g_aload rfl dX4_taken_55 ?_
                refine gf_X4_92 (by omega) (shS n hn2 hn1) dX4_taken_57 ?_
                refine g_ireturn rfl dX4_taken_60 ?_
                rw [if_pos c52] at hQ
                exact hQ
            · refine g_bipush (by decide) dX4_taken_48 ?_
              refine g_ireturn rfl dX4_taken_50 ?_
              rw [if_pos ⟨c36, c45⟩] at hQ
              exact hQ
        · rw [bI_dn] at c4
          have ck : ¬ okT kd w := by
            first
            | (rw [bI_d0] at c13
               exact fun q => c13 q.1)
            | (simp (disch := omega) only [i_lt, i_le, zI_toInt, i_0] at c17
               exact fun q => absurd q.2.1 (by omega))
            | (simp (disch := omega) only [i_lt, i_le, zI_toInt, i_0] at c22
               exact fun q => absurd q.2.2 (by omega))
          rw [if_pos c4, if_neg ck] at hQ
          refine g_bipush (by decide) dX4_taken_25 ?_
          refine g_ireturn rfl dX4_taken_27 ?_
          exact hQ
  · refine g_iconst dX4_taken_7 ?_
    refine g_ireturn rfl dX4_taken_8 ?_
    rw [bI_d0] at c4
    rw [if_neg c4] at hQ
    exact hQ
def copX (M : Mem) (j i : Nat) : Int32 := if mi M (3 + j) 1 = 3 then zI (-9) else M (hc M j) i
theorem ev_X4_copy {M : Mem} (hw : WX M) (j i : Int32) : EvF yX4_copy cX4_copy 3 (some .int) 2 [.ref 0, .int j, .int i] M (some (.int (if okS j ∧ okR M i then copX M j.toInt.toNat i.toInt.toNat else zI (-1)))) M := by
  refine EvF.of (by decide +kernel) (Nat.le_of_ble_eq_true rfl) (fun Q hQ => ?_)
  obtain ⟨hm1, hm2, -, hm⟩ := hw.m
  refine g_iload_n rfl dX4_copy_0 ?_
  refine gi_X4_83 (ev_X4_isStore j M) rfl rfl ⟨Nat.le_of_ble_eq_true rfl, Nat.le_of_ble_eq_true rfl, Nat.le_of_ble_eq_true rfl, Nat.le_of_ble_eq_true rfl⟩ (Nat.le_of_ble_eq_true rfl) dX4_copy_1 (fun r1 M1 hq1 => ?_)
  obtain ⟨rfl, rfl⟩ := hq1
  refine g_if_eq (tgt := 15) dX4_copy_4 (by decide) (fun c4 => ?_) (fun c4 => ?_)
  · refine g_iconst dX4_copy_15 ?_
    refine g_ireturn rfl dX4_copy_16 ?_
    rw [bI_d0] at c4
    rw [if_neg (fun q => c4 q.1)] at hQ
    exact hQ
  · refine g_aload_n rfl dX4_copy_7 ?_
    refine g_iload_n rfl dX4_copy_8 ?_
    refine gi_X4_76 (by decide) rfl (ev_X4_isRecord hm1 hm2 hm i) rfl rfl ⟨Nat.le_of_ble_eq_true rfl, Nat.le_of_ble_eq_true rfl, Nat.le_of_ble_eq_true rfl, Nat.le_of_ble_eq_true rfl⟩ (Nat.le_of_ble_eq_true rfl) dX4_copy_9 (fun r9 M9 hq9 => ?_)
    obtain ⟨rfl, rfl⟩ := hq9
    refine g_if_ne (tgt := 17) dX4_copy_12 (by decide) (fun c12 => ?_) (fun c12 => ?_)
    · rw [bI_dn] at c4 c12
      rw [if_pos ⟨c4, c12⟩] at hQ
      obtain ⟨n, hn1, hn2, rfl⟩ := okS_n c4
      obtain ⟨r, hr1, hr2, rfl⟩ := okR_n hw c12
      rw [tnN (by omega), tnN (by omega), copX] at hQ
      refine g_aload_n rfl dX4_copy_17 ?_
      refine g_aload_n rfl dX4_copy_18 ?_
      refine g_iload_n rfl dX4_copy_19 ?_
      refine gi_X4_64 (by decide) rfl (ev_X4_storeOf hn1 hn2 M) rfl rfl ⟨Nat.le_of_ble_eq_true rfl, Nat.le_of_ble_eq_true rfl, Nat.le_of_ble_eq_true rfl, Nat.le_of_ble_eq_true rfl⟩ (Nat.le_of_ble_eq_true rfl) dX4_copy_20 (fun r20 M20 hq20 => ?_)
      obtain ⟨rfl, rfl⟩ := hq20
      refine g_iload_n rfl dX4_copy_23 ?_
      refine gi_X4_98 (by decide) rfl (ev_X4_copied (j := n) (i := r) hn1 hn2 hr2 M) rfl rfl ⟨Nat.le_of_ble_eq_true rfl, Nat.le_of_ble_eq_true rfl, Nat.le_of_ble_eq_true rfl, Nat.le_of_ble_eq_true rfl⟩ (Nat.le_of_ble_eq_true rfl) dX4_copy_24 (fun r24 M24 hq24 => ?_)
      obtain ⟨rfl, rfl⟩ := hq24
      refine g_ireturn rfl dX4_copy_27 ?_
      exact hQ
    · refine g_iconst dX4_copy_15 ?_
      refine g_ireturn rfl dX4_copy_16 ?_
      rw [bI_d0] at c12
      rw [if_neg (fun q => c12 q.2)] at hQ
      exact hQ
end
section
/-! class SilentAsking: its calls, on -/
def recX (M : Mem) (m : Int32) (n : Nat) : Mem := fun a b => if a = 0 ∧ b = 6 then m else if a = 1 ∧ b < 8 then zI 0 else if 4 ≤ a ∧ a ≤ 3 + n ∧ (b = 1 ∨ b = 2) then zI 0 else M a b
theorem recX_0 (M : Mem) (m : Int32) : mfill (mset M 0 6 m) 1 8 (fun _ => zI 0) = recX M m 0 := by
  funext a b
  unfold mfill mset recX
  by_cases h1 : a = 1
  · subst h1
    rw [if_neg (show ¬ ((1 : Nat) = 0 ∧ b = 6) by omega), if_neg (show ¬ (1 : Nat) = 0 by omega)]
    by_cases hb : b < 8
    · rw [if_pos ⟨rfl, hb⟩, if_pos ⟨rfl, hb⟩]
    · rw [if_neg (fun q => hb q.2), if_neg (fun q => hb q.2), if_neg (by omega)]
  · rw [if_neg (fun q => h1 q.1), if_neg (fun (q : a = 1 ∧ b < 8) => h1 q.1), if_neg (show ¬ (4 ≤ a ∧ a ≤ 3 + 0 ∧ (b = 1 ∨ b = 2)) by omega)]
    by_cases h0 : a = 0
    · subst h0
      by_cases hb : b = 6
      · rw [if_pos rfl, if_pos hb, if_pos ⟨rfl, hb⟩]
      · rw [if_pos rfl, if_neg hb, if_neg (fun q => hb q.2)]
    · rw [if_neg h0, if_neg (fun q => h0 q.1)]
theorem recX_s (M : Mem) (m : Int32) (n : Nat) : becX (recX M m n) (n + 1) (zI 0) (zI 0) = recX M m (n + 1) := by
  unfold becX
  rw [if_neg (by decide), if_neg (by decide)]
  funext a b
  unfold mset recX
  by_cases ha : a = 3 + (n + 1)
  · subst ha
    by_cases h1 : b = 1
    · subst h1
      rw [if_pos rfl, if_neg (by omega), if_pos rfl, if_pos rfl, if_neg (by omega), if_neg (by omega), if_pos ⟨by omega, by omega, Or.inl rfl⟩]
    · by_cases h2 : b = 2
      · subst h2
        rw [if_pos rfl, if_pos rfl, if_neg (by omega), if_neg (by omega), if_pos ⟨by omega, by omega, Or.inr rfl⟩]
      · rw [if_pos rfl, if_neg h2, if_pos rfl, if_neg h1, if_neg (by omega), if_neg (by omega), if_neg (by omega), if_neg (by omega), if_neg (by omega), if_neg (by omega)]
  · rw [if_neg ha, if_neg ha]
    by_cases h : 4 ≤ a ∧ a ≤ 3 + n ∧ (b = 1 ∨ b = 2)
    · rw [if_pos h, if_pos (show 4 ≤ a ∧ a ≤ 3 + (n + 1) ∧ (b = 1 ∨ b = 2) by omega)]
    · rw [if_neg h, if_neg (show ¬ (4 ≤ a ∧ a ≤ 3 + (n + 1) ∧ (b = 1 ∨ b = 2)) by omega)]
theorem ev_X4_records {M : Mem} (hw : WX M) (m : Int32) : EvF yX4_records cX4_records 4 (some .int) 2 [.ref 0, .int m] M (some (.int (if 1 ≤ m.toInt ∧ m.toInt ≤ 3 then zI (2 ^ xm M) else zI (-2)))) (if 1 ≤ m.toInt ∧ m.toInt ≤ 3 then mset (recX M m 9) 22 2 (zI 0) else M) := by
  refine EvF.of (by decide +kernel) (Nat.le_of_ble_eq_true rfl) (fun Q hQ => ?_)
  obtain ⟨hm1, hm2, -, hm⟩ := hw.m
  have loop2 : ∀ (d j : Nat), d + j = 9 → Q (some (.int (zI (2 ^ xm M)))) (mset (recX M m 9) 22 2 (zI 0)) → G yX4_records.cls cX4_records 4 (some .int) (gE 2 Q) 46 [(0, .ref 0), (1, .int m), (2, .int (zI (2 ^ xm M))), (3, .int (zI ((j + 1 : Nat) : Int)))] [] (recX M m j) := by
    intro d
    induction d with
    | zero =>
      intro j hj hQ
      obtain rfl : j = 9 := by omega
      refine g_iload_n rfl dX4_records_46 ?_
      refine g_bipush (by decide) dX4_records_47 ?_
      refine g_icmp_gt (tgt := 72) dX4_records_49 (by decide) (fun c49 => ?_) (fun c49 => ?_)
      · refine g_aload_n rfl dX4_records_72 ?_
        refine gf_X4_25 (by decide) rfl rfl dX4_records_73 ?_
        refine g_iconst dX4_records_76 ?_
        refine gp_X4_72 (by decide) rfl rfl rfl dX4_records_77 ?_
        refine g_iload_n rfl dX4_records_80 ?_
        refine g_ireturn rfl dX4_records_81 ?_
        exact hQ
      · simp (disch := omega) only [i_lt, zI_toInt] at c49
        omega
    | succ d ih =>
      intro j hj hQ
      have ih := ih (j + 1) (by omega) hQ
      rw [← recX_s] at ih
      refine g_iload_n rfl dX4_records_46 ?_
      refine g_bipush (by decide) dX4_records_47 ?_
      refine g_icmp_gt (tgt := 72) dX4_records_49 (by decide) (fun c49 => ?_) (fun c49 => ?_)
      · simp (disch := omega) only [i_lt, zI_toInt] at c49
        omega
      · refine g_aload_n rfl dX4_records_52 ?_
        refine g_iload_n rfl dX4_records_53 ?_
        refine gi_X4_64 (by decide) rfl (ev_X4_storeOf (j := j + 1) (by omega) (by omega) (recX M m j)) rfl rfl ⟨Nat.le_of_ble_eq_true rfl, Nat.le_of_ble_eq_true rfl, Nat.le_of_ble_eq_true rfl, Nat.le_of_ble_eq_true rfl⟩ (Nat.le_of_ble_eq_true rfl) dX4_records_54 (fun r54 M54 hq54 => ?_)
        obtain ⟨rfl, rfl⟩ := hq54
        refine g_iconst dX4_records_57 ?_
        refine g_iconst dX4_records_58 ?_
        refine g_aload_n rfl dX4_records_59 ?_
        refine gf_X4_9 (by decide) rfl rfl dX4_records_60 ?_
        refine gi_X4_68 (by omega) (shS (j + 1) (by omega) (by omega)) (ev_X3_become (j := j + 1) (by omega) (by omega) (zI 0) (zI 0) (recX M m j)) rfl rfl ⟨Nat.le_of_ble_eq_true rfl, Nat.le_of_ble_eq_true rfl, Nat.le_of_ble_eq_true rfl, Nat.le_of_ble_eq_true rfl⟩ (Nat.le_of_ble_eq_true rfl) dX4_records_63 (fun r63 M63 hq63 => ?_)
        obtain ⟨rfl, rfl⟩ := hq63
        refine g_iinc (L2 := [(0, _), (1, _), (2, _), (3, _)]) rfl (by decide) rfl dX4_records_66 ?_
        refine g_goto (tgt := 46) dX4_records_69 (by decide) ?_
        rw [zI_add]
        exact ih
  have loop1 : ∀ (d q : Nat), d + q = 8 → Q (some (.int (zI (2 ^ xm M)))) (mset (recX M m 9) 22 2 (zI 0)) → G yX4_records.cls cX4_records 4 (some .int) (gE 2 Q) 25 [(0, .ref 0), (1, .int m), (2, .int (zI (2 ^ xm M))), (3, .int (zI q))] [] (mfill (mset M 0 6 m) 1 q (fun _ => zI 0)) := by
    intro d
    induction d with
    | zero =>
      intro q hq hQ
      obtain rfl : q = 8 := by omega
      refine g_iload_n rfl dX4_records_25 ?_
      refine g_bipush (by decide) dX4_records_26 ?_
      refine g_icmp_ge (tgt := 44) dX4_records_28 (by decide) (fun c28 => ?_) (fun c28 => ?_)
      · refine g_iconst dX4_records_44 ?_
        refine g_istore_n (L2 := [(0, _), (1, _), (2, _), (3, _)]) (by decide) rfl dX4_records_45 ?_
        rw [recX_0]
        exact loop2 9 0 (by omega) hQ
      · simp (disch := omega) only [i_le, zI_toInt] at c28
        omega
    | succ d ih =>
      intro q hq hQ
      have ih := ih (q + 1) (by omega) hQ
      rw [← mfill_s] at ih
      refine g_iload_n rfl dX4_records_25 ?_
      refine g_bipush (by decide) dX4_records_26 ?_
      refine g_icmp_ge (tgt := 44) dX4_records_28 (by decide) (fun c28 => ?_) (fun c28 => ?_)
      · simp (disch := omega) only [i_le, zI_toInt] at c28
        omega
      · refine g_aload_n rfl dX4_records_31 ?_
        refine gf_X4_9 (by decide) rfl rfl dX4_records_32 ?_
        refine g_iload_n rfl dX4_records_35 ?_
        refine g_iconst dX4_records_36 ?_
        refine g_iast (n := 8) (by decide) rfl rfl (zI_in (by omega) (by omega) (by decide)) dX4_records_37 ?_
        rw [zI_clamp (by omega) (by omega), show ((q : Nat) : Int).toNat = q from rfl]
        refine g_iinc (L2 := [(0, _), (1, _), (2, _), (3, _)]) rfl (by decide) rfl dX4_records_38 ?_
        refine g_goto (tgt := 25) dX4_records_41 (by decide) ?_
        rw [zI_add]
        exact ih
  refine g_iload_n rfl dX4_records_0 ?_
  refine g_iconst dX4_records_1 ?_
  refine g_icmp_lt (tgt := 10) dX4_records_2 (by decide) (fun c2 => ?_) (fun c2 => ?_)
  · refine g_bipush (by decide) dX4_records_10 ?_
    refine g_ireturn rfl dX4_records_12 ?_
    simp (disch := omega) only [i_lt, zI_toInt] at c2
    rw [if_neg (by omega), if_neg (by omega)] at hQ
    exact hQ
  · refine g_iload_n rfl dX4_records_5 ?_
    refine g_iconst dX4_records_6 ?_
    refine g_icmp_le (tgt := 13) dX4_records_7 (by decide) (fun c7 => ?_) (fun c7 => ?_)
    · refine g_aload_n rfl dX4_records_13 ?_
      refine gi_X4_60 (by decide) rfl (ev_X4_count hm1 hm2 hm) rfl rfl ⟨Nat.le_of_ble_eq_true rfl, Nat.le_of_ble_eq_true rfl, Nat.le_of_ble_eq_true rfl, Nat.le_of_ble_eq_true rfl⟩ (Nat.le_of_ble_eq_true rfl) dX4_records_14 (fun r14 M14 hq14 => ?_)
      obtain ⟨rfl, rfl⟩ := hq14
      refine g_istore_n (L2 := [(0, _), (1, _), (2, _)]) (by decide) rfl dX4_records_17 ?_
      refine g_aload_n rfl dX4_records_18 ?_
      refine g_iload_n rfl dX4_records_19 ?_
      refine gp_X4_43 (by decide) rfl dX4_records_20 ?_
      refine g_iconst dX4_records_23 ?_
      refine g_istore_n (L2 := [(0, _), (1, _), (2, _), (3, _)]) (by decide) rfl dX4_records_24 ?_
      simp (disch := omega) only [i_lt, i_le, zI_toInt] at c2 c7
      rw [if_pos ⟨by omega, by omega⟩, if_pos ⟨by omega, by omega⟩] at hQ
      have e := loop1 8 0 (by omega) hQ
      rw [mfill_0] at e
      exact e
    · refine g_bipush (by decide) dX4_records_10 ?_
      refine g_ireturn rfl dX4_records_12 ?_
      simp (disch := omega) only [i_lt, i_le, zI_toInt] at c2 c7
      rw [if_neg (by omega), if_neg (by omega)] at hQ
      exact hQ
def pt3 (x0 x1 x2 : Int32) (k : Nat) : Int32 := if k = 0 then x0 else if k = 1 then x1 else x2
def plM (M : Mem) (x0 x1 x2 : Int32) : Mem := mset (mset (mset M 2 0 x0) 2 1 x1) 2 2 x2
theorem plM_at (M : Mem) (x0 x1 x2 : Int32) : ∀ k, k < 3 → plM M x0 x1 x2 2 k = pt3 x0 x1 x2 k := by
  intro k hk
  rcases (by omega : k = 0 ∨ k = 1 ∨ k = 2) with rfl | rfl | rfl <;> rfl
theorem plM_sam (M : Mem) (x0 x1 x2 : Int32) : Sam M (plM M x0 x1 x2) := (((Sam.r M).ms _ (Or.inl rfl)).ms _ (Or.inl rfl)).ms _ (Or.inl rfl)
theorem ev_X4_sum {M : Mem} (hw : WX M) (x0 x1 x2 : Int32) : EvF yX4_sum cX4_sum 5 (some .int) 2 [.ref 0, .int x0, .int x1, .int x2] M (some (.int (if ∀ k, k < xm M → okN (pt3 x0 x1 x2 k) then zI (sumW (mi M 1) (fun k => (pt3 x0 x1 x2 k).toInt) (xm M) (2 ^ xm M) % 97) else zI (-2)))) (plM M x0 x1 x2) := by
  refine EvF.of (by decide +kernel) (Nat.le_of_ble_eq_true rfl) (fun Q hQ => ?_)
  obtain ⟨hm1, hm2, -, hm⟩ := hw.m
  have hs := plM_sam M x0 x1 x2
  have hat := plM_at M x0 x1 x2
  have hw1 := hw.sam hs
  have loop : ∀ (d q : Nat), d + q = xm M → (∀ k, k < q → okN (pt3 x0 x1 x2 k)) → G yX4_sum.cls cX4_sum 5 (some .int) (gE 2 Q) 24 [(0, .ref 0), (1, .int x0), (2, .int x1), (3, .int x2), (4, .int (zI q))] [] (plM M x0 x1 x2) := by
    intro d
    induction d with
    | zero =>
      intro q hq hk
      obtain rfl : q = xm M := by omega
      have hmi : ∀ k, k < xm M → mi (plM M x0 x1 x2) 2 k = (pt3 x0 x1 x2 k).toInt := fun k h => by unfold mi; rw [hat k (by omega)]
      have e1 : mi (plM M x0 x1 x2) 1 = mi M 1 := funext fun q => hs.m (Or.inl (by decide)) q
      rw [if_pos hk] at hQ
      refine g_iload rfl dX4_sum_24 ?_
      refine g_aload_n rfl dX4_sum_26 ?_
      refine gf_X4_43 (by decide) rfl dX4_sum_27 ?_
      rw [hs 0 (Or.inl (by decide)), hm]
      refine g_icmp_ge (tgt := 55) dX4_sum_30 (by decide) (fun c30 => ?_) (fun c30 => ?_)
      · refine g_aload_n rfl dX4_sum_55 ?_
        refine g_aload_n rfl dX4_sum_56 ?_
        refine gf_X4_9 (by decide) rfl rfl dX4_sum_57 ?_
        refine gi_X4_102 (by decide) rfl (ev_X4_sumAtPlace (M := plM M x0 x1 x2) (m := xm M) (k := 1) hm1 hm2 (by rw [hs 0 (Or.inl (by decide)), hm]) (by decide) rfl rfl hw1.num (fun q hq => by rw [hmi q hq]; exact hk q hq)) rfl rfl ⟨Nat.le_of_ble_eq_true rfl, Nat.le_of_ble_eq_true rfl, Nat.le_of_ble_eq_true rfl, Nat.le_of_ble_eq_true rfl⟩ (Nat.le_of_ble_eq_true rfl) dX4_sum_60 (fun r60 M60 hq60 => ?_)
        obtain ⟨rfl, rfl⟩ := hq60
        refine g_ireturn rfl dX4_sum_63 ?_
        rw [sumW_ext hmi _ (fun i _ => congrFun e1 i)]
        exact hQ
      · simp (disch := omega) only [i_le, zI_toInt] at c30
        omega
    | succ d ih =>
      intro q hq hk
      refine g_iload rfl dX4_sum_24 ?_
      refine g_aload_n rfl dX4_sum_26 ?_
      refine gf_X4_43 (by decide) rfl dX4_sum_27 ?_
      rw [hs 0 (Or.inl (by decide)), hm]
      refine g_icmp_ge (tgt := 55) dX4_sum_30 (by decide) (fun c30 => ?_) (fun c30 => ?_)
      · simp (disch := omega) only [i_le, zI_toInt] at c30
        omega
      · refine g_aload_n rfl dX4_sum_33 ?_
        refine gf_X4_13 (by decide) rfl rfl dX4_sum_34 ?_
        refine g_iload rfl dX4_sum_37 ?_
        refine g_iald (n := 3) (by decide) rfl rfl (zI_in (by omega) (by omega) (by decide)) dX4_sum_39 ?_
        rw [zI_clamp (by omega) (by omega), show ((q : Nat) : Int).toNat = q from rfl, hat q (by omega)]
        refine gi_X4_80 (ev_X4_isNumber (pt3 x0 x1 x2 q) (plM M x0 x1 x2)) rfl rfl ⟨Nat.le_of_ble_eq_true rfl, Nat.le_of_ble_eq_true rfl, Nat.le_of_ble_eq_true rfl, Nat.le_of_ble_eq_true rfl⟩ (Nat.le_of_ble_eq_true rfl) dX4_sum_40 (fun r40 M40 hq40 => ?_)
        obtain ⟨rfl, rfl⟩ := hq40
        refine g_if_ne (tgt := 49) dX4_sum_43 (by decide) (fun c43 => ?_) (fun c43 => ?_)
        · refine g_iinc (L2 := [(0, _), (1, _), (2, _), (3, _), (4, _)]) rfl (by decide) rfl dX4_sum_49 ?_
          refine g_goto (tgt := 24) dX4_sum_52 (by decide) ?_
          rw [bI_dn] at c43
          rw [zI_add]
          refine ih (q + 1) (by omega) (fun k hk1 => ?_)
          by_cases hkq : k = q
          · rw [hkq]
            exact c43
          · exact hk k (by omega)
        · refine g_bipush (by decide) dX4_sum_46 ?_
          refine g_ireturn rfl dX4_sum_48 ?_
          rw [bI_d0] at c43
          rw [if_neg (fun z => c43 (z q (by omega)))] at hQ
          exact hQ
  refine g_aload_n rfl dX4_sum_0 ?_
  refine gf_X4_13 (by decide) rfl rfl dX4_sum_1 ?_
  refine g_iconst dX4_sum_4 ?_
  refine g_iload_n rfl dX4_sum_5 ?_
  refine g_iast (n := 3) (by decide) rfl rfl (zI_in (by omega) (by omega) (by decide)) dX4_sum_6 ?_
  refine g_aload_n rfl dX4_sum_7 ?_
  refine gf_X4_13 (by decide) rfl rfl dX4_sum_8 ?_
  refine g_iconst dX4_sum_11 ?_
  refine g_iload_n rfl dX4_sum_12 ?_
  refine g_iast (n := 3) (by decide) rfl rfl (zI_in (by omega) (by omega) (by decide)) dX4_sum_13 ?_
  refine g_aload_n rfl dX4_sum_14 ?_
  refine gf_X4_13 (by decide) rfl rfl dX4_sum_15 ?_
  refine g_iconst dX4_sum_18 ?_
  refine g_iload_n rfl dX4_sum_19 ?_
  refine g_iast (n := 3) (by decide) rfl rfl (zI_in (by omega) (by omega) (by decide)) dX4_sum_20 ?_
  refine g_iconst dX4_sum_21 ?_
  refine g_istore (L2 := [(0, _), (1, _), (2, _), (3, _), (4, _)]) (by decide) rfl dX4_sum_22 ?_
  exact loop (xm M) 0 (by omega) (fun k hk => absurd hk (by omega))
abbrev okA (t s : Int32) : Prop := (1 ≤ t.toInt ∧ t.toInt ≤ 2) ∧ 0 ≤ s.toInt
theorem ev_X4_ask {M : Mem} (hw : WX M) (i t s : Int32) : EvF yX4_ask cX4_ask 4 (some .int) 2 [.ref 0, .int i, .int t, .int s] M (some (.int (if okR M i then (if okA t s then zI (mi M 0 6 * t.toInt) else zI (-2)) else zI (-1)))) (if okR M i ∧ okA t s then mset (begX M i.toInt t.toInt (mi M 0 6) s.toInt) 0 10 (M 0 10 + zI 1) else M) := by
  refine EvF.of (by decide +kernel) (Nat.le_of_ble_eq_true rfl) (fun Q hQ => ?_)
  obtain ⟨hm1, hm2, -, hm⟩ := hw.m
  have hms := hw.1
  have h810 : begX M i.toInt t.toInt (mi M 0 6) s.toInt 0 10 = M 0 10 := by
    unfold begX
    rw [mfill_ne _ _ (by decide)]
    simp only [mset_other _ _ _ (show (0 : Nat) ≠ 22 by decide)]
  have h227 : begX M i.toInt t.toInt (mi M 0 6) s.toInt 22 7 = zI (mi M 0 6 * t.toInt) := by
    unfold begX
    rw [mfill_ne _ _ (by decide), mset_same]
  refine g_aload_n rfl dX4_ask_0 ?_
  refine g_iload_n rfl dX4_ask_1 ?_
  refine gi_X4_76 (by decide) rfl (ev_X4_isRecord hm1 hm2 hm i) rfl rfl ⟨Nat.le_of_ble_eq_true rfl, Nat.le_of_ble_eq_true rfl, Nat.le_of_ble_eq_true rfl, Nat.le_of_ble_eq_true rfl⟩ (Nat.le_of_ble_eq_true rfl) dX4_ask_2 (fun r2 M2 hq2 => ?_)
  obtain ⟨rfl, rfl⟩ := hq2
  refine g_if_ne (tgt := 10) dX4_ask_5 (by decide) (fun c5 => ?_) (fun c5 => ?_)
  · refine g_iload_n rfl dX4_ask_10 ?_
    refine gi_X4_106 (ev_X4_isKeptFrom t M) rfl rfl ⟨Nat.le_of_ble_eq_true rfl, Nat.le_of_ble_eq_true rfl, Nat.le_of_ble_eq_true rfl, Nat.le_of_ble_eq_true rfl⟩ (Nat.le_of_ble_eq_true rfl) dX4_ask_11 (fun r11 M11 hq11 => ?_)
    obtain ⟨rfl, rfl⟩ := hq11
    refine g_if_eq (tgt := 24) dX4_ask_14 (by decide) (fun c14 => ?_) (fun c14 => ?_)
    · rw [bI_dn] at c5
      have ck : ¬ okA t s := by
        first
        | (rw [bI_d0] at c14
           exact fun q => c14 q.1)
        | (rw [bI_d0] at c21
           exact fun q => c21 q.2)
      rw [if_pos c5, if_neg ck, if_neg (fun q => ck q.2)] at hQ
      refine g_bipush (by decide) dX4_ask_24 ?_
      refine g_ireturn rfl dX4_ask_26 ?_
      exact hQ
    · refine g_iload_n rfl dX4_ask_17 ?_
      refine gi_X4_109 (ev_X4_isSeed s M) rfl rfl ⟨Nat.le_of_ble_eq_true rfl, Nat.le_of_ble_eq_true rfl, Nat.le_of_ble_eq_true rfl, Nat.le_of_ble_eq_true rfl⟩ (Nat.le_of_ble_eq_true rfl) dX4_ask_18 (fun r18 M18 hq18 => ?_)
      obtain ⟨rfl, rfl⟩ := hq18
      refine g_if_ne (tgt := 27) dX4_ask_21 (by decide) (fun c21 => ?_) (fun c21 => ?_)
      · rw [bI_dn] at c5 c14 c21
        rw [if_pos c5, if_pos ⟨c14, c21⟩, if_pos ⟨c5, c14, c21⟩] at hQ
        refine g_aload_n rfl dX4_ask_27 ?_
        refine gf_X4_25 (by decide) rfl rfl dX4_ask_28 ?_
        refine g_iload_n rfl dX4_ask_31 ?_
        refine g_iload_n rfl dX4_ask_32 ?_
        refine g_aload_n rfl dX4_ask_33 ?_
        refine gf_X4_43 (by decide) rfl dX4_ask_34 ?_
        rw [← mi_z M 0 6, ← zI_of i, ← zI_of t, ← zI_of s]
        refine g_iload_n rfl dX4_ask_37 ?_
        refine gi_X4_112 (by decide) rfl (ev_X1_begin (M := M) (i := i.toInt) (t := t.toInt) (m := mi M 0 6) (s := s.toInt) c14.1 c14.2 hms.1 hms.2 c21 (i_bd s).2) rfl rfl ⟨Nat.le_of_ble_eq_true rfl, Nat.le_of_ble_eq_true rfl, Nat.le_of_ble_eq_true rfl, Nat.le_of_ble_eq_true rfl⟩ (Nat.le_of_ble_eq_true rfl) dX4_ask_38 (fun r38 M38 hq38 => ?_)
        obtain ⟨rfl, rfl⟩ := hq38
        refine g_aload_n rfl dX4_ask_41 ?_
        refine g_dup rfl dX4_ask_42 ?_
        refine gf_X4_56 (by decide) rfl dX4_ask_43 ?_
        refine g_iconst dX4_ask_46 ?_
        refine g_iadd dX4_ask_47 ?_
        refine gp_X4_56 (by decide) rfl dX4_ask_48 ?_
        refine g_aload_n rfl dX4_ask_51 ?_
        refine gf_X4_25 (by decide) rfl rfl dX4_ask_52 ?_
        refine gf_X4_116 (by decide) rfl dX4_ask_55 ?_
        refine g_ireturn rfl dX4_ask_58 ?_
        exact hQ
      · rw [bI_dn] at c5
        have ck : ¬ okA t s := by
          first
          | (rw [bI_d0] at c14
             exact fun q => c14 q.1)
          | (rw [bI_d0] at c21
             exact fun q => c21 q.2)
        rw [if_pos c5, if_neg ck, if_neg (fun q => ck q.2)] at hQ
        refine g_bipush (by decide) dX4_ask_24 ?_
        refine g_ireturn rfl dX4_ask_26 ?_
        exact hQ
  · refine g_iconst dX4_ask_8 ?_
    refine g_ireturn rfl dX4_ask_9 ?_
    rw [bI_d0] at c5
    rw [if_neg c5, if_neg (fun q => c5 q.1)] at hQ
    exact hQ
end
section
/-! class SilentAsking: its calls, on -/
theorem asked_iff {M : Mem} (hw : WX M) : M 22 2 = 0 ↔ ¬ mi M 22 2 = 1 := by
  rw [zI_zero, eqz_mi (by decide) (by decide)]
  have := hw.as
  omega
abbrev okV (s : Int32) : Prop := s = zI (-9) ∨ 0 ≤ s.toInt
theorem ev_X4_veil {M : Mem} (hw : WX M) (s : Int32) : EvF yX4_veil cX4_veil 3 (some .int) 2 [.ref 0, .int s] M (some (.int (if okV s then (if M 22 2 = 0 then zI (-3) else if M 22 3 = 0 then zI 0 else zI 1) else zI (-2)))) (if okV s ∧ ¬ M 22 2 = 0 then vebX M s.toInt else M) := by
  refine EvF.of (by decide +kernel) (Nat.le_of_ble_eq_true rfl) (fun Q hQ => ?_)
  have hv9 : okV s → s.toInt = -9 ∨ 0 ≤ s.toInt := fun h => h.imp (fun q => by rw [q]; decide) id
  refine g_iload_n rfl dX4_veil_0 ?_
  refine g_bipush (by decide) dX4_veil_1 ?_
  refine g_icmp_eq (tgt := 16) dX4_veil_3 (by decide) (fun c3 => ?_) (fun c3 => ?_)
  · have ck : okV s := by
      first
      | exact Or.inl c3
      | (rw [bI_dn] at c10
         exact Or.inr c10)
    rw [if_pos ck] at hQ
    refine g_aload_n rfl dX4_veil_16 ?_
    refine gf_X4_25 (by decide) rfl rfl dX4_veil_17 ?_
    refine gf_X4_72 (by decide) rfl dX4_veil_20 ?_
    refine g_if_ne (tgt := 29) dX4_veil_23 (by decide) (fun c23 => ?_) (fun c23 => ?_)
    · refine g_aload_n rfl dX4_veil_29 ?_
      refine gf_X4_25 (by decide) rfl rfl dX4_veil_30 ?_
      refine gf_X4_119 (by decide) rfl dX4_veil_33 ?_
      refine g_if_eq (tgt := 43) dX4_veil_36 (by decide) (fun c36 => ?_) (fun c36 => ?_)
      · refine g_iconst dX4_veil_43 ?_
        refine g_istore_n (L2 := [(0, _), (1, _), (2, _)]) (by decide) rfl dX4_veil_44 ?_
        have ck2 : okV s ∧ ¬ M 22 2 = 0 := ⟨ck, c23⟩
        rw [if_neg c23, if_pos ck2] at hQ
        first
        | rw [if_pos c36] at hQ
        | rw [if_neg c36] at hQ
        refine g_aload_n rfl dX4_veil_45 ?_
        refine gf_X4_25 (by decide) rfl rfl dX4_veil_46 ?_
        refine g_iload_n rfl dX4_veil_49 ?_
        rw [← zI_of s]
        refine gi_X4_122 (by decide) rfl (ev_X1_veilBy (M := M) (s := s.toInt) hw.dgb (hv9 ck) (i_bd s).2) rfl rfl ⟨Nat.le_of_ble_eq_true rfl, Nat.le_of_ble_eq_true rfl, Nat.le_of_ble_eq_true rfl, Nat.le_of_ble_eq_true rfl⟩ (Nat.le_of_ble_eq_true rfl) dX4_veil_50 (fun r50 M50 hq50 => ?_)
        obtain ⟨rfl, rfl⟩ := hq50
        refine g_iload_n rfl dX4_veil_53 ?_
        refine g_ireturn rfl dX4_veil_54 ?_
        exact hQ
      · refine g_iconst dX4_veil_39 ?_
        refine g_goto (tgt := 44) dX4_veil_40 (by decide) ?_
        refine g_istore_n (L2 := [(0, _), (1, _), (2, _)]) (by decide) rfl dX4_veil_44 ?_
        have ck2 : okV s ∧ ¬ M 22 2 = 0 := ⟨ck, c23⟩
        rw [if_neg c23, if_pos ck2] at hQ
        first
        | rw [if_pos c36] at hQ
        | rw [if_neg c36] at hQ
        refine g_aload_n rfl dX4_veil_45 ?_
        refine gf_X4_25 (by decide) rfl rfl dX4_veil_46 ?_
        refine g_iload_n rfl dX4_veil_49 ?_
        rw [← zI_of s]
        refine gi_X4_122 (by decide) rfl (ev_X1_veilBy (M := M) (s := s.toInt) hw.dgb (hv9 ck) (i_bd s).2) rfl rfl ⟨Nat.le_of_ble_eq_true rfl, Nat.le_of_ble_eq_true rfl, Nat.le_of_ble_eq_true rfl, Nat.le_of_ble_eq_true rfl⟩ (Nat.le_of_ble_eq_true rfl) dX4_veil_50 (fun r50 M50 hq50 => ?_)
        obtain ⟨rfl, rfl⟩ := hq50
        refine g_iload_n rfl dX4_veil_53 ?_
        refine g_ireturn rfl dX4_veil_54 ?_
        exact hQ
    · refine g_bipush (by decide) dX4_veil_26 ?_
      refine g_ireturn rfl dX4_veil_28 ?_
      rw [if_pos c23, if_neg (fun q => q.2 c23)] at hQ
      exact hQ
  · refine g_iload_n rfl dX4_veil_6 ?_
    refine gi_X4_109 (ev_X4_isSeed s M) rfl rfl ⟨Nat.le_of_ble_eq_true rfl, Nat.le_of_ble_eq_true rfl, Nat.le_of_ble_eq_true rfl, Nat.le_of_ble_eq_true rfl⟩ (Nat.le_of_ble_eq_true rfl) dX4_veil_7 (fun r7 M7 hq7 => ?_)
    obtain ⟨rfl, rfl⟩ := hq7
    refine g_if_ne (tgt := 16) dX4_veil_10 (by decide) (fun c10 => ?_) (fun c10 => ?_)
    · have ck : okV s := by
        first
        | exact Or.inl c3
        | (rw [bI_dn] at c10
           exact Or.inr c10)
      rw [if_pos ck] at hQ
      refine g_aload_n rfl dX4_veil_16 ?_
      refine gf_X4_25 (by decide) rfl rfl dX4_veil_17 ?_
      refine gf_X4_72 (by decide) rfl dX4_veil_20 ?_
      refine g_if_ne (tgt := 29) dX4_veil_23 (by decide) (fun c23 => ?_) (fun c23 => ?_)
      · refine g_aload_n rfl dX4_veil_29 ?_
        refine gf_X4_25 (by decide) rfl rfl dX4_veil_30 ?_
        refine gf_X4_119 (by decide) rfl dX4_veil_33 ?_
        refine g_if_eq (tgt := 43) dX4_veil_36 (by decide) (fun c36 => ?_) (fun c36 => ?_)
        · refine g_iconst dX4_veil_43 ?_
          refine g_istore_n (L2 := [(0, _), (1, _), (2, _)]) (by decide) rfl dX4_veil_44 ?_
          have ck2 : okV s ∧ ¬ M 22 2 = 0 := ⟨ck, c23⟩
          rw [if_neg c23, if_pos ck2] at hQ
          first
          | rw [if_pos c36] at hQ
          | rw [if_neg c36] at hQ
          refine g_aload_n rfl dX4_veil_45 ?_
          refine gf_X4_25 (by decide) rfl rfl dX4_veil_46 ?_
          refine g_iload_n rfl dX4_veil_49 ?_
          rw [← zI_of s]
          refine gi_X4_122 (by decide) rfl (ev_X1_veilBy (M := M) (s := s.toInt) hw.dgb (hv9 ck) (i_bd s).2) rfl rfl ⟨Nat.le_of_ble_eq_true rfl, Nat.le_of_ble_eq_true rfl, Nat.le_of_ble_eq_true rfl, Nat.le_of_ble_eq_true rfl⟩ (Nat.le_of_ble_eq_true rfl) dX4_veil_50 (fun r50 M50 hq50 => ?_)
          obtain ⟨rfl, rfl⟩ := hq50
          refine g_iload_n rfl dX4_veil_53 ?_
          refine g_ireturn rfl dX4_veil_54 ?_
          exact hQ
        · refine g_iconst dX4_veil_39 ?_
          refine g_goto (tgt := 44) dX4_veil_40 (by decide) ?_
          refine g_istore_n (L2 := [(0, _), (1, _), (2, _)]) (by decide) rfl dX4_veil_44 ?_
          have ck2 : okV s ∧ ¬ M 22 2 = 0 := ⟨ck, c23⟩
          rw [if_neg c23, if_pos ck2] at hQ
          first
          | rw [if_pos c36] at hQ
          | rw [if_neg c36] at hQ
          refine g_aload_n rfl dX4_veil_45 ?_
          refine gf_X4_25 (by decide) rfl rfl dX4_veil_46 ?_
          refine g_iload_n rfl dX4_veil_49 ?_
          rw [← zI_of s]
          refine gi_X4_122 (by decide) rfl (ev_X1_veilBy (M := M) (s := s.toInt) hw.dgb (hv9 ck) (i_bd s).2) rfl rfl ⟨Nat.le_of_ble_eq_true rfl, Nat.le_of_ble_eq_true rfl, Nat.le_of_ble_eq_true rfl, Nat.le_of_ble_eq_true rfl⟩ (Nat.le_of_ble_eq_true rfl) dX4_veil_50 (fun r50 M50 hq50 => ?_)
          obtain ⟨rfl, rfl⟩ := hq50
          refine g_iload_n rfl dX4_veil_53 ?_
          refine g_ireturn rfl dX4_veil_54 ?_
          exact hQ
      · refine g_bipush (by decide) dX4_veil_26 ?_
        refine g_ireturn rfl dX4_veil_28 ?_
        rw [if_pos c23, if_neg (fun q => q.2 c23)] at hQ
        exact hQ
    · refine g_bipush (by decide) dX4_veil_13 ?_
      refine g_ireturn rfl dX4_veil_15 ?_
      rw [bI_d0] at c10
      have ck : ¬ okV s := fun q => q.elim c3 c10
      rw [if_neg ck, if_neg (fun q => ck q.1)] at hQ
      exact hQ
theorem ev_X4_point {M : Mem} (hw : WX M) (j k : Int32) : EvF yX4_point cX4_point 3 (some .int) 2 [.ref 0, .int j, .int k] M (some (.int (if okS j then (if M 22 2 = 0 then zI (-3) else if 0 ≤ k.toInt ∧ k.toInt < mi M 0 6 then zI (ptX M j.toInt.toNat k.toInt.toNat) else zI (-2)) else zI (-1)))) M := by
  refine EvF.of (by decide +kernel) (Nat.le_of_ble_eq_true rfl) (fun Q hQ => ?_)
  obtain ⟨hm1, hm2, hm3, hm⟩ := hw.m
  have hkf := hw.kf
  refine g_iload_n rfl dX4_point_0 ?_
  refine gi_X4_83 (ev_X4_isStore j M) rfl rfl ⟨Nat.le_of_ble_eq_true rfl, Nat.le_of_ble_eq_true rfl, Nat.le_of_ble_eq_true rfl, Nat.le_of_ble_eq_true rfl⟩ (Nat.le_of_ble_eq_true rfl) dX4_point_1 (fun r1 M1 hq1 => ?_)
  obtain ⟨rfl, rfl⟩ := hq1
  refine g_if_ne (tgt := 9) dX4_point_4 (by decide) (fun c4 => ?_) (fun c4 => ?_)
  · refine g_aload_n rfl dX4_point_9 ?_
    refine gf_X4_25 (by decide) rfl rfl dX4_point_10 ?_
    refine gf_X4_72 (by decide) rfl dX4_point_13 ?_
    refine g_if_ne (tgt := 22) dX4_point_16 (by decide) (fun c16 => ?_) (fun c16 => ?_)
    · refine g_iload_n rfl dX4_point_22 ?_
      refine g_if_lt (tgt := 34) dX4_point_23 (by decide) (fun c23 => ?_) (fun c23 => ?_)
      · rw [bI_dn] at c4
        have ck : ¬ (0 ≤ k.toInt ∧ k.toInt < mi M 0 6) := by
          first
          | (simp (disch := omega) only [i_lt, i_le, zI_toInt, i_0] at c23
             omega)
          | (rw [i_lt] at c31
             exact fun q => c31 q.2)
        rw [if_pos c4, if_neg c16, if_neg ck] at hQ
        refine g_bipush (by decide) dX4_point_34 ?_
        refine g_ireturn rfl dX4_point_36 ?_
        exact hQ
      · refine g_iload_n rfl dX4_point_26 ?_
        refine g_aload_n rfl dX4_point_27 ?_
        refine gf_X4_43 (by decide) rfl dX4_point_28 ?_
        refine g_icmp_lt (tgt := 37) dX4_point_31 (by decide) (fun c31 => ?_) (fun c31 => ?_)
        · rw [bI_dn] at c4
          simp (disch := omega) only [i_lt, i_le, zI_toInt, i_0] at c23
          rw [i_lt] at c31
          have ck : 0 ≤ k.toInt ∧ k.toInt < mi M 0 6 := ⟨by omega, c31⟩
          rw [if_pos c4, if_neg c16, if_pos ck] at hQ
          obtain ⟨n, hn1, hn2, rfl⟩ := okS_n c4
          obtain ⟨r, hr, rfl⟩ : ∃ r : Nat, r < 3 ∧ k = zI r := ⟨k.toInt.toNat, by omega, by rw [Int.toNat_of_nonneg (by omega), zI_of]⟩
          rw [tnN (by omega), tnN (by omega)] at hQ
          refine g_aload_n rfl dX4_point_37 ?_
          refine gf_X4_25 (by decide) rfl rfl dX4_point_38 ?_
          refine g_iload_n rfl dX4_point_41 ?_
          refine g_iload_n rfl dX4_point_42 ?_
          refine gi_X4_126 (by decide) rfl (ev_X1_pointNumber (M := M) (j := n) (k := r) (t := (mi M 22 5).toNat) (by omega) hn2 (by omega) hw.wa (by omega) hw.lt) rfl rfl ⟨Nat.le_of_ble_eq_true rfl, Nat.le_of_ble_eq_true rfl, Nat.le_of_ble_eq_true rfl, Nat.le_of_ble_eq_true rfl⟩ (Nat.le_of_ble_eq_true rfl) dX4_point_43 (fun r43 M43 hq43 => ?_)
          obtain ⟨rfl, rfl⟩ := hq43
          refine g_ireturn rfl dX4_point_46 ?_
          exact hQ
        · rw [bI_dn] at c4
          have ck : ¬ (0 ≤ k.toInt ∧ k.toInt < mi M 0 6) := by
            first
            | (simp (disch := omega) only [i_lt, i_le, zI_toInt, i_0] at c23
               omega)
            | (rw [i_lt] at c31
               exact fun q => c31 q.2)
          rw [if_pos c4, if_neg c16, if_neg ck] at hQ
          refine g_bipush (by decide) dX4_point_34 ?_
          refine g_ireturn rfl dX4_point_36 ?_
          exact hQ
    · refine g_bipush (by decide) dX4_point_19 ?_
      refine g_ireturn rfl dX4_point_21 ?_
      rw [bI_dn] at c4
      rw [if_pos c4, if_pos c16] at hQ
      exact hQ
  · refine g_iconst dX4_point_7 ?_
    refine g_ireturn rfl dX4_point_8 ?_
    rw [bI_d0] at c4
    rw [if_neg c4] at hQ
    exact hQ
theorem ev_X4_answer {M : Mem} (hw : WX M) (j : Int32) : Ev yX4_answer cX4_answer 2 (some .int) 3 [.ref 0, .int j] M (fun r M1 => some (.int (if okS j then (if M 22 2 = 0 then zI (-3) else if mi M (3 + j.toInt.toNat) 1 = 3 then zI (-9) else zI (ansX M j.toInt.toNat)) else zI (-1))) = r ∧ Sam M M1) := by
  refine Ev.of (by decide +kernel) (Nat.le_of_ble_eq_true rfl) (fun Q hQ => ?_)
  refine g_iload_n rfl dX4_answer_0 ?_
  refine gi_X4_83 (ev_X4_isStore j M) rfl rfl ⟨Nat.le_of_ble_eq_true rfl, Nat.le_of_ble_eq_true rfl, Nat.le_of_ble_eq_true rfl, Nat.le_of_ble_eq_true rfl⟩ (Nat.le_of_ble_eq_true rfl) dX4_answer_1 (fun r1 M1 hq1 => ?_)
  obtain ⟨rfl, rfl⟩ := hq1
  refine g_if_ne (tgt := 9) dX4_answer_4 (by decide) (fun c4 => ?_) (fun c4 => ?_)
  · refine g_aload_n rfl dX4_answer_9 ?_
    refine gf_X4_25 (by decide) rfl rfl dX4_answer_10 ?_
    refine gf_X4_72 (by decide) rfl dX4_answer_13 ?_
    refine g_if_ne (tgt := 22) dX4_answer_16 (by decide) (fun c16 => ?_) (fun c16 => ?_)
    · rw [bI_dn] at c4
      obtain ⟨n, hn1, hn2, rfl⟩ := okS_n c4
      rw [tnN (by omega)] at hQ
      refine g_aload_n rfl dX4_answer_22 ?_
      refine g_iload_n rfl dX4_answer_23 ?_
      refine gi_X4_64 (by decide) rfl (ev_X4_storeOf hn1 hn2 M) rfl rfl ⟨Nat.le_of_ble_eq_true rfl, Nat.le_of_ble_eq_true rfl, Nat.le_of_ble_eq_true rfl, Nat.le_of_ble_eq_true rfl⟩ (Nat.le_of_ble_eq_true rfl) dX4_answer_24 (fun r24 M24 hq24 => ?_)
      obtain ⟨rfl, rfl⟩ := hq24
      refine gf_X4_92 (by omega) (shS n hn2 hn1) dX4_answer_27 ?_
      refine g_iconst dX4_answer_30 ?_
      refine g_icmp_ne (tgt := 39) dX4_answer_31 (by decide) (fun c31 => ?_) (fun c31 => ?_)
      · refine g_aload_n rfl dX4_answer_39 ?_
        refine g_iload_n rfl dX4_answer_40 ?_
        refine gi_X4_130 (by decide) rfl (ev_X4_toldBy hw hn1 hn2) rfl rfl ⟨Nat.le_of_ble_eq_true rfl, Nat.le_of_ble_eq_true rfl, Nat.le_of_ble_eq_true rfl, Nat.le_of_ble_eq_true rfl⟩ (Nat.le_of_ble_eq_true rfl) dX4_answer_41 (fun r41 M41 hq41 => ?_)
        obtain ⟨rfl, rfl⟩ := hq41
        refine g_ireturn rfl dX4_answer_44 ?_
        rw [eqz_mi (by decide) (by decide)] at c31
        exact hQ _ _ ⟨by rw [if_pos c4, if_neg c16, if_neg c31], (Sam.r M).mf _ (Or.inl rfl)⟩
      · refine g_bipush (by decide) dX4_answer_34 ?_
        refine g_goto (tgt := 44) dX4_answer_36 (by decide) ?_
        refine g_ireturn rfl dX4_answer_44 ?_
        rw [eqz_mi (by decide) (by decide)] at c31
        exact hQ _ _ ⟨by rw [if_pos c4, if_neg c16, if_pos c31], Sam.r M⟩
    · refine g_bipush (by decide) dX4_answer_19 ?_
      refine g_ireturn rfl dX4_answer_21 ?_
      rw [bI_dn] at c4
      exact hQ _ _ ⟨by rw [if_pos c4, if_pos c16], Sam.r M⟩
  · refine g_iconst dX4_answer_7 ?_
    refine g_ireturn rfl dX4_answer_8 ?_
    rw [bI_d0] at c4
    exact hQ _ _ ⟨by rw [if_neg c4], Sam.r M⟩
abbrev okD (m t l : Int32) : Prop := (1 ≤ m.toInt ∧ m.toInt ≤ 3) ∧ (1 ≤ t.toInt ∧ t.toInt ≤ 2) ∧ 0 ≤ l.toInt ∧ l.toInt ≤ 4
theorem ev_X4_needed (M : Mem) (m t l : Int32) : EvF yX4_needed cX4_needed 4 (some .int) 1 [.ref 0, .int m, .int t, .int l] M (some (.int (if okD m t l then m * t + zI 1 + zI 2 * l else zI (-2)))) M := by
  refine EvF.of (by decide +kernel) (Nat.le_of_ble_eq_true rfl) (fun Q hQ => ?_)
  refine g_iload_n rfl dX4_needed_0 ?_
  refine g_iconst dX4_needed_1 ?_
  refine g_icmp_lt (tgt := 26) dX4_needed_2 (by decide) (fun c2 => ?_) (fun c2 => ?_)
  · have ck : ¬ okD m t l := by
      first
      | (simp (disch := omega) only [i_lt, i_le, zI_toInt, i_0] at c2
         exact fun q => absurd q.1.1 (by omega))
      | (simp (disch := omega) only [i_lt, i_le, zI_toInt, i_0] at c7
         exact fun q => absurd q.1.2 (by omega))
      | (rw [bI_d0] at c14
         exact fun q => c14 q.2.1)
      | (simp (disch := omega) only [i_lt, i_le, zI_toInt, i_0] at c18
         exact fun q => absurd q.2.2.1 (by omega))
      | (simp (disch := omega) only [i_lt, i_le, zI_toInt, i_0] at c23
         exact fun q => absurd q.2.2.2 (by omega))
    rw [if_neg ck] at hQ
    refine g_bipush (by decide) dX4_needed_26 ?_
    refine g_ireturn rfl dX4_needed_28 ?_
    exact hQ
  · refine g_iload_n rfl dX4_needed_5 ?_
    refine g_iconst dX4_needed_6 ?_
    refine g_icmp_gt (tgt := 26) dX4_needed_7 (by decide) (fun c7 => ?_) (fun c7 => ?_)
    · have ck : ¬ okD m t l := by
        first
        | (simp (disch := omega) only [i_lt, i_le, zI_toInt, i_0] at c2
           exact fun q => absurd q.1.1 (by omega))
        | (simp (disch := omega) only [i_lt, i_le, zI_toInt, i_0] at c7
           exact fun q => absurd q.1.2 (by omega))
        | (rw [bI_d0] at c14
           exact fun q => c14 q.2.1)
        | (simp (disch := omega) only [i_lt, i_le, zI_toInt, i_0] at c18
           exact fun q => absurd q.2.2.1 (by omega))
        | (simp (disch := omega) only [i_lt, i_le, zI_toInt, i_0] at c23
           exact fun q => absurd q.2.2.2 (by omega))
      rw [if_neg ck] at hQ
      refine g_bipush (by decide) dX4_needed_26 ?_
      refine g_ireturn rfl dX4_needed_28 ?_
      exact hQ
    · refine g_iload_n rfl dX4_needed_10 ?_
      refine gi_X4_106 (ev_X4_isKeptFrom t M) rfl rfl ⟨Nat.le_of_ble_eq_true rfl, Nat.le_of_ble_eq_true rfl, Nat.le_of_ble_eq_true rfl, Nat.le_of_ble_eq_true rfl⟩ (Nat.le_of_ble_eq_true rfl) dX4_needed_11 (fun r11 M11 hq11 => ?_)
      obtain ⟨rfl, rfl⟩ := hq11
      refine g_if_eq (tgt := 26) dX4_needed_14 (by decide) (fun c14 => ?_) (fun c14 => ?_)
      · have ck : ¬ okD m t l := by
          first
          | (simp (disch := omega) only [i_lt, i_le, zI_toInt, i_0] at c2
             exact fun q => absurd q.1.1 (by omega))
          | (simp (disch := omega) only [i_lt, i_le, zI_toInt, i_0] at c7
             exact fun q => absurd q.1.2 (by omega))
          | (rw [bI_d0] at c14
             exact fun q => c14 q.2.1)
          | (simp (disch := omega) only [i_lt, i_le, zI_toInt, i_0] at c18
             exact fun q => absurd q.2.2.1 (by omega))
          | (simp (disch := omega) only [i_lt, i_le, zI_toInt, i_0] at c23
             exact fun q => absurd q.2.2.2 (by omega))
        rw [if_neg ck] at hQ
        refine g_bipush (by decide) dX4_needed_26 ?_
        refine g_ireturn rfl dX4_needed_28 ?_
        exact hQ
      · refine g_iload_n rfl dX4_needed_17 ?_
        refine g_if_lt (tgt := 26) dX4_needed_18 (by decide) (fun c18 => ?_) (fun c18 => ?_)
        · have ck : ¬ okD m t l := by
            first
            | (simp (disch := omega) only [i_lt, i_le, zI_toInt, i_0] at c2
               exact fun q => absurd q.1.1 (by omega))
            | (simp (disch := omega) only [i_lt, i_le, zI_toInt, i_0] at c7
               exact fun q => absurd q.1.2 (by omega))
            | (rw [bI_d0] at c14
               exact fun q => c14 q.2.1)
            | (simp (disch := omega) only [i_lt, i_le, zI_toInt, i_0] at c18
               exact fun q => absurd q.2.2.1 (by omega))
            | (simp (disch := omega) only [i_lt, i_le, zI_toInt, i_0] at c23
               exact fun q => absurd q.2.2.2 (by omega))
          rw [if_neg ck] at hQ
          refine g_bipush (by decide) dX4_needed_26 ?_
          refine g_ireturn rfl dX4_needed_28 ?_
          exact hQ
        · refine g_iload_n rfl dX4_needed_21 ?_
          refine g_iconst dX4_needed_22 ?_
          refine g_icmp_le (tgt := 29) dX4_needed_23 (by decide) (fun c23 => ?_) (fun c23 => ?_)
          · rw [bI_dn] at c14
            simp (disch := omega) only [i_lt, i_le, zI_toInt, i_0] at c2 c7 c18 c23
            rw [if_pos ⟨⟨by omega, by omega⟩, c14, by omega, by omega⟩] at hQ
            refine g_iload_n rfl dX4_needed_29 ?_
            refine g_iload_n rfl dX4_needed_30 ?_
            refine g_imul dX4_needed_31 ?_
            refine g_iconst dX4_needed_32 ?_
            refine g_iadd dX4_needed_33 ?_
            refine g_iconst dX4_needed_34 ?_
            refine g_iload_n rfl dX4_needed_35 ?_
            refine g_imul dX4_needed_36 ?_
            refine g_iadd dX4_needed_37 ?_
            refine g_ireturn rfl dX4_needed_38 ?_
            exact hQ
          · have ck : ¬ okD m t l := by
              first
              | (simp (disch := omega) only [i_lt, i_le, zI_toInt, i_0] at c2
                 exact fun q => absurd q.1.1 (by omega))
              | (simp (disch := omega) only [i_lt, i_le, zI_toInt, i_0] at c7
                 exact fun q => absurd q.1.2 (by omega))
              | (rw [bI_d0] at c14
                 exact fun q => c14 q.2.1)
              | (simp (disch := omega) only [i_lt, i_le, zI_toInt, i_0] at c18
                 exact fun q => absurd q.2.2.1 (by omega))
              | (simp (disch := omega) only [i_lt, i_le, zI_toInt, i_0] at c23
                 exact fun q => absurd q.2.2.2 (by omega))
            rw [if_neg ck] at hQ
            refine g_bipush (by decide) dX4_needed_26 ?_
            refine g_ireturn rfl dX4_needed_28 ?_
            exact hQ
abbrev okB (M : Mem) (set : Int32) : Prop := 0 ≤ set.toInt ∧ set.toInt < 2 ^ (2 ^ xm M)
theorem ev_X4_both {M : Mem} (hw : WX M) (j set : Int32) : EvF yX4_both cX4_both 4 (some .int) 2 [.ref 0, .int j, .int set] M (some (.int (if okS j then (if okB M set then (if mi M (3 + j.toInt.toNat) 1 = 3 then zI (-9) else zI (tosX M j.toInt.toNat set.toInt)) else zI (-2)) else zI (-1)))) M := by
  refine EvF.of (by decide +kernel) (Nat.le_of_ble_eq_true rfl) (fun Q hQ => ?_)
  obtain ⟨hm1, hm2, hm3, hm⟩ := hw.m
  refine g_iload_n rfl dX4_both_0 ?_
  refine gi_X4_83 (ev_X4_isStore j M) rfl rfl ⟨Nat.le_of_ble_eq_true rfl, Nat.le_of_ble_eq_true rfl, Nat.le_of_ble_eq_true rfl, Nat.le_of_ble_eq_true rfl⟩ (Nat.le_of_ble_eq_true rfl) dX4_both_1 (fun r1 M1 hq1 => ?_)
  obtain ⟨rfl, rfl⟩ := hq1
  refine g_if_ne (tgt := 9) dX4_both_4 (by decide) (fun c4 => ?_) (fun c4 => ?_)
  · refine g_aload_n rfl dX4_both_9 ?_
    refine g_iload_n rfl dX4_both_10 ?_
    refine gi_X4_184 (by decide) rfl (ev_X4_isRecordSet hm1 hm2 hm set) rfl rfl ⟨Nat.le_of_ble_eq_true rfl, Nat.le_of_ble_eq_true rfl, Nat.le_of_ble_eq_true rfl, Nat.le_of_ble_eq_true rfl⟩ (Nat.le_of_ble_eq_true rfl) dX4_both_11 (fun r11 M11 hq11 => ?_)
    obtain ⟨rfl, rfl⟩ := hq11
    refine g_if_ne (tgt := 20) dX4_both_14 (by decide) (fun c14 => ?_) (fun c14 => ?_)
    · rw [bI_dn] at c4 c14
      rw [if_pos c4, if_pos c14] at hQ
      obtain ⟨n, hn1, hn2, rfl⟩ := okS_n c4
      rw [tnN (by omega)] at hQ
      refine g_aload_n rfl dX4_both_20 ?_
      refine g_iload_n rfl dX4_both_21 ?_
      refine gi_X4_64 (by decide) rfl (ev_X4_storeOf hn1 hn2 M) rfl rfl ⟨Nat.le_of_ble_eq_true rfl, Nat.le_of_ble_eq_true rfl, Nat.le_of_ble_eq_true rfl, Nat.le_of_ble_eq_true rfl⟩ (Nat.le_of_ble_eq_true rfl) dX4_both_22 (fun r22 M22 hq22 => ?_)
      obtain ⟨rfl, rfl⟩ := hq22
      refine g_astore_n (L2 := [(0, _), (1, _), (2, _), (3, _)]) (by decide) rfl dX4_both_25 ?_
      refine g_aload_n rfl dX4_both_26 ?_
      refine gf_X4_92 (by omega) (shS n hn2 hn1) dX4_both_27 ?_
      refine g_iconst dX4_both_30 ?_
      refine g_icmp_ne (tgt := 39) dX4_both_31 (by decide) (fun c31 => ?_) (fun c31 => ?_)
      · refine g_aload_n rfl dX4_both_39 ?_
        refine g_aload_n rfl dX4_both_40 ?_
        refine g_iload_n rfl dX4_both_41 ?_
        rw [← zI_of set]
        refine gi_X4_187 (by decide) rfl (ev_X4_toldOfSet hw hn1 hn2 c14.1 (i_bd set).2) rfl rfl ⟨Nat.le_of_ble_eq_true rfl, Nat.le_of_ble_eq_true rfl, Nat.le_of_ble_eq_true rfl, Nat.le_of_ble_eq_true rfl⟩ (Nat.le_of_ble_eq_true rfl) dX4_both_42 (fun r42 M42 hq42 => ?_)
        obtain ⟨rfl, rfl⟩ := hq42
        refine g_ireturn rfl dX4_both_45 ?_
        rw [eqz_mi (by decide) (by decide)] at c31
        rw [if_neg c31] at hQ
        exact hQ
      · refine g_bipush (by decide) dX4_both_34 ?_
        refine g_goto (tgt := 45) dX4_both_36 (by decide) ?_
        refine g_ireturn rfl dX4_both_45 ?_
        rw [eqz_mi (by decide) (by decide)] at c31
        rw [if_pos c31] at hQ
        exact hQ
    · refine g_bipush (by decide) dX4_both_17 ?_
      refine g_ireturn rfl dX4_both_19 ?_
      rw [bI_dn] at c4
      rw [bI_d0] at c14
      rw [if_pos c4, if_neg c14] at hQ
      exact hQ
  · refine g_iconst dX4_both_7 ?_
    refine g_ireturn rfl dX4_both_8 ?_
    rw [bI_d0] at c4
    rw [if_neg c4] at hQ
    exact hQ
def flip (set : Int32) (i : Nat) : Int := ((set.toInt.toNat ^^^ 2 ^ i : Nat) : Int)
def paiX (M : Mem) (a b : Nat) (set : Int32) (i : Nat) : Int32 := if mi M (3 + a) 1 = 3 ∨ mi M (3 + b) 1 = 3 then zI (-9) else zI (tosX M a set.toInt) ^^^ zI (tosX M b (flip set i))
theorem ev_X4_pair {M : Mem} (hw : WX M) (a b set i : Int32) : EvF yX4_pair cX4_pair 7 (some .int) 2 [.ref 0, .int a, .int b, .int set, .int i] M (some (.int (if okS a ∧ okS b ∧ okR M i then (if a = b then zI (-3) else if okB M set then paiX M a.toInt.toNat b.toInt.toNat set i.toInt.toNat else zI (-2)) else zI (-1)))) M := by
  refine EvF.of (by decide +kernel) (Nat.le_of_ble_eq_true rfl) (fun Q hQ => ?_)
  obtain ⟨hm1, hm2, hm3, hm⟩ := hw.m
  have hb8 : (2 : Int) ^ (2 ^ xm M) ≤ 256 := by rcases (by omega : xm M = 1 ∨ xm M = 2 ∨ xm M = 3) with e | e | e <;> rw [e] <;> decide
  refine g_iload_n rfl dX4_pair_0 ?_
  refine gi_X4_83 (ev_X4_isStore a M) rfl rfl ⟨Nat.le_of_ble_eq_true rfl, Nat.le_of_ble_eq_true rfl, Nat.le_of_ble_eq_true rfl, Nat.le_of_ble_eq_true rfl⟩ (Nat.le_of_ble_eq_true rfl) dX4_pair_1 (fun r1 M1 hq1 => ?_)
  obtain ⟨rfl, rfl⟩ := hq1
  refine g_if_eq (tgt := 23) dX4_pair_4 (by decide) (fun c4 => ?_) (fun c4 => ?_)
  · have ck : ¬ (okS a ∧ okS b ∧ okR M i) := by
      first
      | (rw [bI_d0] at c4
         exact fun q => c4 q.1)
      | (rw [bI_d0] at c11
         exact fun q => c11 q.2.1)
      | (rw [bI_d0] at c20
         exact fun q => c20 q.2.2)
    rw [if_neg ck] at hQ
    refine g_iconst dX4_pair_23 ?_
    refine g_ireturn rfl dX4_pair_24 ?_
    exact hQ
  · refine g_iload_n rfl dX4_pair_7 ?_
    refine gi_X4_83 (ev_X4_isStore b M) rfl rfl ⟨Nat.le_of_ble_eq_true rfl, Nat.le_of_ble_eq_true rfl, Nat.le_of_ble_eq_true rfl, Nat.le_of_ble_eq_true rfl⟩ (Nat.le_of_ble_eq_true rfl) dX4_pair_8 (fun r8 M8 hq8 => ?_)
    obtain ⟨rfl, rfl⟩ := hq8
    refine g_if_eq (tgt := 23) dX4_pair_11 (by decide) (fun c11 => ?_) (fun c11 => ?_)
    · have ck : ¬ (okS a ∧ okS b ∧ okR M i) := by
        first
        | (rw [bI_d0] at c4
           exact fun q => c4 q.1)
        | (rw [bI_d0] at c11
           exact fun q => c11 q.2.1)
        | (rw [bI_d0] at c20
           exact fun q => c20 q.2.2)
      rw [if_neg ck] at hQ
      refine g_iconst dX4_pair_23 ?_
      refine g_ireturn rfl dX4_pair_24 ?_
      exact hQ
    · refine g_aload_n rfl dX4_pair_14 ?_
      refine g_iload rfl dX4_pair_15 ?_
      refine gi_X4_76 (by decide) rfl (ev_X4_isRecord hm1 hm2 hm i) rfl rfl ⟨Nat.le_of_ble_eq_true rfl, Nat.le_of_ble_eq_true rfl, Nat.le_of_ble_eq_true rfl, Nat.le_of_ble_eq_true rfl⟩ (Nat.le_of_ble_eq_true rfl) dX4_pair_17 (fun r17 M17 hq17 => ?_)
      obtain ⟨rfl, rfl⟩ := hq17
      refine g_if_ne (tgt := 25) dX4_pair_20 (by decide) (fun c20 => ?_) (fun c20 => ?_)
      · rw [bI_dn] at c4 c11 c20
        rw [if_pos ⟨c4, c11, c20⟩] at hQ
        refine g_iload_n rfl dX4_pair_25 ?_
        refine g_iload_n rfl dX4_pair_26 ?_
        refine g_icmp_ne (tgt := 33) dX4_pair_27 (by decide) (fun c27 => ?_) (fun c27 => ?_)
        · refine g_aload_n rfl dX4_pair_33 ?_
          refine g_iload_n rfl dX4_pair_34 ?_
          refine gi_X4_184 (by decide) rfl (ev_X4_isRecordSet hm1 hm2 hm set) rfl rfl ⟨Nat.le_of_ble_eq_true rfl, Nat.le_of_ble_eq_true rfl, Nat.le_of_ble_eq_true rfl, Nat.le_of_ble_eq_true rfl⟩ (Nat.le_of_ble_eq_true rfl) dX4_pair_35 (fun r35 M35 hq35 => ?_)
          obtain ⟨rfl, rfl⟩ := hq35
          refine g_if_ne (tgt := 44) dX4_pair_38 (by decide) (fun c38 => ?_) (fun c38 => ?_)
          · rw [bI_dn] at c38
            rw [if_neg c27, if_pos c38, paiX] at hQ
            obtain ⟨n, hn1, hn2, rfl⟩ := okS_n c4
            obtain ⟨u, hu1, hu2, rfl⟩ := okS_n c11
            obtain ⟨r, hr1, hr2, rfl⟩ := okR_n hw c20
            have hp : 2 ^ r < 2 ^ 8 := Nat.pow_lt_pow_right (by decide) hr2
            have hx : set.toInt.toNat ^^^ 2 ^ r < 2 ^ 8 := Nat.xor_lt_two_pow (by omega) hp
            have hpz := p2_z r
            have eset : set = zI ((set.toInt.toNat : Nat) : Int) := by rw [Int.toNat_of_nonneg c38.1, zI_of]
            rw [tnN (by omega), tnN (by omega), tnN (by omega)] at hQ
            refine g_aload_n rfl dX4_pair_44 ?_
            refine g_iload_n rfl dX4_pair_45 ?_
            refine gi_X4_64 (by decide) rfl (ev_X4_storeOf hn1 hn2 M) rfl rfl ⟨Nat.le_of_ble_eq_true rfl, Nat.le_of_ble_eq_true rfl, Nat.le_of_ble_eq_true rfl, Nat.le_of_ble_eq_true rfl⟩ (Nat.le_of_ble_eq_true rfl) dX4_pair_46 (fun r46 M46 hq46 => ?_)
            obtain ⟨rfl, rfl⟩ := hq46
            refine g_astore (L2 := [(0, _), (1, _), (2, _), (3, _), (4, _), (5, _)]) (by decide) rfl dX4_pair_49 ?_
            refine g_aload_n rfl dX4_pair_51 ?_
            refine g_iload_n rfl dX4_pair_52 ?_
            refine gi_X4_64 (by decide) rfl (ev_X4_storeOf hu1 hu2 M) rfl rfl ⟨Nat.le_of_ble_eq_true rfl, Nat.le_of_ble_eq_true rfl, Nat.le_of_ble_eq_true rfl, Nat.le_of_ble_eq_true rfl⟩ (Nat.le_of_ble_eq_true rfl) dX4_pair_53 (fun r53 M53 hq53 => ?_)
            obtain ⟨rfl, rfl⟩ := hq53
            refine g_astore (L2 := [(0, _), (1, _), (2, _), (3, _), (4, _), (5, _), (6, _)]) (by decide) rfl dX4_pair_56 ?_
            refine g_aload rfl dX4_pair_58 ?_
            refine gf_X4_92 (by omega) (shS n hn2 hn1) dX4_pair_60 ?_
            refine g_iconst dX4_pair_63 ?_
            refine g_icmp_eq (tgt := 76) dX4_pair_64 (by decide) (fun c64 => ?_) (fun c64 => ?_)
            · have ck : mi M (3 + n) 1 = 3 ∨ mi M (3 + u) 1 = 3 := by
                first
                | exact Or.inl ((eqz_mi (by decide) (by decide)).mp c64)
                | exact Or.inr ((eqz_mi (by decide) (by decide)).mp c73)
              rw [if_pos ck] at hQ
              refine g_bipush (by decide) dX4_pair_76 ?_
              refine g_ireturn rfl dX4_pair_78 ?_
              exact hQ
            · refine g_aload rfl dX4_pair_67 ?_
              refine gf_X4_92 (by omega) (shS u hu2 hu1) dX4_pair_69 ?_
              refine g_iconst dX4_pair_72 ?_
              refine g_icmp_ne (tgt := 79) dX4_pair_73 (by decide) (fun c73 => ?_) (fun c73 => ?_)
              · refine g_aload_n rfl dX4_pair_79 ?_
                refine g_aload rfl dX4_pair_80 ?_
                refine g_iload_n rfl dX4_pair_82 ?_
                rw [← zI_of set]
                refine gi_X4_187 (by decide) rfl (ev_X4_toldOfSet hw hn1 hn2 c38.1 (i_bd set).2) rfl rfl ⟨Nat.le_of_ble_eq_true rfl, Nat.le_of_ble_eq_true rfl, Nat.le_of_ble_eq_true rfl, Nat.le_of_ble_eq_true rfl⟩ (Nat.le_of_ble_eq_true rfl) dX4_pair_83 (fun r83 M83 hq83 => ?_)
                obtain ⟨rfl, rfl⟩ := hq83
                refine g_aload_n rfl dX4_pair_86 ?_
                refine g_aload rfl dX4_pair_87 ?_
                refine g_iload_n rfl dX4_pair_89 ?_
                refine g_iconst dX4_pair_90 ?_
                refine g_iload rfl dX4_pair_91 ?_
                refine g_ishl dX4_pair_93 ?_
                rw [zI_shl (by decide) (by omega) (by omega), Int.one_mul, hpz]
                refine g_ixor dX4_pair_94 ?_
                rw [zI_of set, show set ^^^ zI ((2 ^ r : Nat) : Int) = zI (flip set r) by
                rw [flip, ← zI_xor (by omega) (by omega), ← eset]]
                refine gi_X4_187 (by decide) rfl (ev_X4_toldOfSet (set := flip set r) hw hu1 hu2 (by unfold flip; omega) (by unfold flip; omega)) rfl rfl ⟨Nat.le_of_ble_eq_true rfl, Nat.le_of_ble_eq_true rfl, Nat.le_of_ble_eq_true rfl, Nat.le_of_ble_eq_true rfl⟩ (Nat.le_of_ble_eq_true rfl) dX4_pair_95 (fun r95 M95 hq95 => ?_)
                obtain ⟨rfl, rfl⟩ := hq95
                refine g_ixor dX4_pair_98 ?_
                refine g_ireturn rfl dX4_pair_99 ?_
                rw [eqz_mi (by decide) (by decide)] at c64 c73
                rw [if_neg (fun q => q.elim c64 c73)] at hQ
                exact hQ
              · have ck : mi M (3 + n) 1 = 3 ∨ mi M (3 + u) 1 = 3 := by
                  first
                  | exact Or.inl ((eqz_mi (by decide) (by decide)).mp c64)
                  | exact Or.inr ((eqz_mi (by decide) (by decide)).mp c73)
                rw [if_pos ck] at hQ
                refine g_bipush (by decide) dX4_pair_76 ?_
                refine g_ireturn rfl dX4_pair_78 ?_
                exact hQ
          · refine g_bipush (by decide) dX4_pair_41 ?_
            refine g_ireturn rfl dX4_pair_43 ?_
            rw [bI_d0] at c38
            rw [if_neg c27, if_neg c38] at hQ
            exact hQ
        · refine g_bipush (by decide) dX4_pair_30 ?_
          refine g_ireturn rfl dX4_pair_32 ?_
          rw [if_pos c27] at hQ
          exact hQ
      · have ck : ¬ (okS a ∧ okS b ∧ okR M i) := by
          first
          | (rw [bI_d0] at c4
             exact fun q => c4 q.1)
          | (rw [bI_d0] at c11
             exact fun q => c11 q.2.1)
          | (rw [bI_d0] at c20
             exact fun q => c20 q.2.2)
        rw [if_neg ck] at hQ
        refine g_iconst dX4_pair_23 ?_
        refine g_ireturn rfl dX4_pair_24 ?_
        exact hQ
def totX (M : Mem) (w : Int32) : Int32 := if w = zI 0 then zI (2 ^ xm M) else if w = zI 1 then M 0 8 else if w = zI 2 then M 0 9 else if w = zI 3 then M 0 10 else if w = zI 4 then zI (cnt (fun j => decide (mi M (3 + j) 1 = 0)) 9) else if w = zI 5 then (if M 22 2 = 0 then zI 0 else zI 1) else if w = zI 6 then (if M 22 2 = 0 then zI (-9) else M 22 7) else zI (-2)
theorem ev_X4_total {M : Mem} (hw : WX M) (w : Int32) : EvF yX4_total cX4_total 2 (some .int) 2 [.ref 0, .int w] M (some (.int (totX M w))) M := by
  refine EvF.of (by decide +kernel) (Nat.le_of_ble_eq_true rfl) (fun Q hQ => ?_)
  obtain ⟨hm1, hm2, hm3, hm⟩ := hw.m
  refine g_iload_n rfl dX4_total_0 ?_
  by_cases hin : 0 ≤ w.toInt ∧ w.toInt ≤ 6
  · obtain ⟨n, hn, rfl⟩ : ∃ n : Nat, n < 7 ∧ w = zI n := ⟨w.toInt.toNat, by omega, by rw [Int.toNat_of_nonneg hin.1, zI_of]⟩
    rcases (by omega : n = 0 ∨ n = 1 ∨ n = 2 ∨ n = 3 ∨ n = 4 ∨ n = 5 ∨ n = 6) with rfl | rfl | rfl | rfl | rfl | rfl | rfl
    · refine g_tableIn (off := 43) (tgt := 44) dX4_total_1 (by decide) (by decide) (by decide +kernel) (by decide) ?_
      refine g_aload_n rfl dX4_total_44 ?_
      refine gi_X4_60 (by decide) rfl (ev_X4_count hm1 hm2 hm) rfl rfl ⟨Nat.le_of_ble_eq_true rfl, Nat.le_of_ble_eq_true rfl, Nat.le_of_ble_eq_true rfl, Nat.le_of_ble_eq_true rfl⟩ (Nat.le_of_ble_eq_true rfl) dX4_total_45 (fun r45 M45 hq45 => ?_)
      obtain ⟨rfl, rfl⟩ := hq45
      refine g_ireturn rfl dX4_total_48 ?_
      exact hQ
    · refine g_tableIn (off := 48) (tgt := 49) dX4_total_1 (by decide) (by decide) (by decide +kernel) (by decide) ?_
      refine g_aload_n rfl dX4_total_49 ?_
      refine gf_X4_50 (by decide) rfl dX4_total_50 ?_
      refine g_ireturn rfl dX4_total_53 ?_
      exact hQ
    · refine g_tableIn (off := 53) (tgt := 54) dX4_total_1 (by decide) (by decide) (by decide +kernel) (by decide) ?_
      refine g_aload_n rfl dX4_total_54 ?_
      refine gf_X4_53 (by decide) rfl dX4_total_55 ?_
      refine g_ireturn rfl dX4_total_58 ?_
      exact hQ
    · refine g_tableIn (off := 58) (tgt := 59) dX4_total_1 (by decide) (by decide) (by decide +kernel) (by decide) ?_
      refine g_aload_n rfl dX4_total_59 ?_
      refine gf_X4_56 (by decide) rfl dX4_total_60 ?_
      refine g_ireturn rfl dX4_total_63 ?_
      exact hQ
    · refine g_tableIn (off := 63) (tgt := 64) dX4_total_1 (by decide) (by decide) (by decide +kernel) (by decide) ?_
      refine g_aload_n rfl dX4_total_64 ?_
      refine gi_X4_190 (by decide) rfl (ev_X4_trueStores M) rfl rfl ⟨Nat.le_of_ble_eq_true rfl, Nat.le_of_ble_eq_true rfl, Nat.le_of_ble_eq_true rfl, Nat.le_of_ble_eq_true rfl⟩ (Nat.le_of_ble_eq_true rfl) dX4_total_65 (fun r65 M65 hq65 => ?_)
      obtain ⟨rfl, rfl⟩ := hq65
      refine g_ireturn rfl dX4_total_68 ?_
      exact hQ
    · refine g_tableIn (off := 68) (tgt := 69) dX4_total_1 (by decide) (by decide) (by decide +kernel) (by decide) ?_
      have e : totX M (zI ((5 : Nat) : Int)) = if M 22 2 = 0 then zI 0 else zI 1 := rfl
      rw [e] at hQ
      refine g_aload_n rfl dX4_total_69 ?_
      refine gf_X4_25 (by decide) rfl rfl dX4_total_70 ?_
      refine gf_X4_72 (by decide) rfl dX4_total_73 ?_
      refine g_if_eq (tgt := 83) dX4_total_76 (by decide) (fun c76 => ?_) (fun c76 => ?_)
      · refine g_iconst dX4_total_83 ?_
        refine g_ireturn rfl dX4_total_84 ?_
        rw [if_pos c76] at hQ
        exact hQ
      · refine g_iconst dX4_total_79 ?_
        refine g_goto (tgt := 84) dX4_total_80 (by decide) ?_
        refine g_ireturn rfl dX4_total_84 ?_
        rw [if_neg c76] at hQ
        exact hQ
    · refine g_tableIn (off := 84) (tgt := 85) dX4_total_1 (by decide) (by decide) (by decide +kernel) (by decide) ?_
      have e : totX M (zI ((6 : Nat) : Int)) = if M 22 2 = 0 then zI (-9) else M 22 7 := rfl
      rw [e] at hQ
      refine g_aload_n rfl dX4_total_85 ?_
      refine gf_X4_25 (by decide) rfl rfl dX4_total_86 ?_
      refine gf_X4_72 (by decide) rfl dX4_total_89 ?_
      refine g_if_eq (tgt := 105) dX4_total_92 (by decide) (fun c92 => ?_) (fun c92 => ?_)
      · refine g_bipush (by decide) dX4_total_105 ?_
        refine g_ireturn rfl dX4_total_107 ?_
        rw [if_pos c92] at hQ
        exact hQ
      · refine g_aload_n rfl dX4_total_95 ?_
        refine gf_X4_25 (by decide) rfl rfl dX4_total_96 ?_
        refine gf_X4_116 (by decide) rfl dX4_total_99 ?_
        refine g_goto (tgt := 107) dX4_total_102 (by decide) ?_
        refine g_ireturn rfl dX4_total_107 ?_
        rw [if_neg c92] at hQ
        exact hQ
  · refine g_tableOut (tgt := 108) dX4_total_1 (by omega) (by decide) ?_
    have hne : ∀ n : Int, 0 ≤ n → n ≤ 6 → ¬ w = zI n := fun n h1 h2 q => hin (by rw [q, zI_toInt (by omega) (by omega)]; exact ⟨h1, h2⟩)
    rw [totX, if_neg (hne 0 (by decide) (by decide)), if_neg (hne 1 (by decide) (by decide)), if_neg (hne 2 (by decide) (by decide)), if_neg (hne 3 (by decide) (by decide)), if_neg (hne 4 (by decide) (by decide)), if_neg (hne 5 (by decide) (by decide)), if_neg (hne 6 (by decide) (by decide))] at hQ
    refine g_bipush (by decide) dX4_total_108 ?_
    refine g_ireturn rfl dX4_total_110 ?_
    exact hQ
end
section
/-! class SilentAsking: fetching and what is known -/
theorem lgc_0 {a b : Int} (h1 : -1000 ≤ a) (h2 : a < 10000000) (h3 : -1000 ≤ b) (h4 : b < 10000000) : lg_cmp (zL a) (zL b) = 0 ↔ a = b := by
  have hlt : zL b < zL a ↔ b < a := by rw [Int64.lt_iff_toInt_lt, zL_toInt (by omega) (by omega), zL_toInt (by omega) (by omega)]
  have heq : zL a = zL b ↔ a = b := by rw [← Int64.toInt_inj, zL_toInt (by omega) (by omega), zL_toInt (by omega) (by omega)]
  unfold lg_cmp
  by_cases c1 : b < a
  · rw [if_pos (hlt.mpr c1)]
    exact ⟨fun q => absurd q (by decide), fun q => by omega⟩
  · rw [if_neg (fun q => c1 (hlt.mp q))]
    by_cases c2 : a = b
    · rw [if_pos (heq.mpr c2)]
      exact ⟨fun _ => c2, fun _ => rfl⟩
    · rw [if_neg (fun q => c2 (heq.mp q))]
      exact ⟨fun q => absurd q (by decide), fun q => absurd q c2⟩
theorem lgc_p {a b : Int} (h1 : -1000 ≤ a) (h2 : a < 10000000) (h3 : -1000 ≤ b) (h4 : b < 10000000) : lg_cmp (zL a) (zL b) ≤ 0 ↔ a ≤ b := by
  have hlt : zL b < zL a ↔ b < a := by rw [Int64.lt_iff_toInt_lt, zL_toInt (by omega) (by omega), zL_toInt (by omega) (by omega)]
  have heq : zL a = zL b ↔ a = b := by rw [← Int64.toInt_inj, zL_toInt (by omega) (by omega), zL_toInt (by omega) (by omega)]
  unfold lg_cmp
  by_cases c1 : b < a
  · rw [if_pos (hlt.mpr c1)]
    exact ⟨fun q => absurd q (by decide), fun q => by omega⟩
  · rw [if_neg (fun q => c1 (hlt.mp q))]
    refine ⟨fun _ => by omega, fun _ => ?_⟩
    by_cases c2 : a = b
    · rw [if_pos (heq.mpr c2)]
      decide
    · rw [if_neg (fun q => c2 (heq.mp q))]
      decide
theorem Sam.both {M M1 : Mem} (h : Sam M M1) (k j : Nat) (v : Int32) : Sam (mset M k j v) (mset M1 k j v) := by
  intro a ha
  funext b
  unfold mset
  by_cases hk : a = k
  · rw [if_pos hk, if_pos hk, h a ha]
  · rw [if_neg hk, if_neg hk, h a ha]
def rofX (M : Mem) (s : Int32) : Int32 := if okS s then (if ¬ M 22 2 = 0 ∧ mi M 22 7 < (cnt (tells M) s.toInt.toNat : Nat) then zI 0 else zI (-3)) else zI (-2)
theorem ev_X4_refusalOfFetch {M : Mem} (hw : WX M) (s : Int32) : EvF yX4_refusalOfFetch cX4_refusalOfFetch 2 (some .int) 2 [.ref 0, .int s] M (some (.int (rofX M s))) M := by
  refine EvF.of (by decide +kernel) (Nat.le_of_ble_eq_true rfl) (fun Q hQ => ?_)
  have hg := hw.dgb
  have hcl := cnt_le (tells M)
  rw [rofX] at hQ
  refine g_iload_n rfl dX4_refusalOfFetch_0 ?_
  refine gi_X4_83 (ev_X4_isStore s M) rfl rfl ⟨Nat.le_of_ble_eq_true rfl, Nat.le_of_ble_eq_true rfl, Nat.le_of_ble_eq_true rfl, Nat.le_of_ble_eq_true rfl⟩ (Nat.le_of_ble_eq_true rfl) dX4_refusalOfFetch_1 (fun r1 M1 hq1 => ?_)
  obtain ⟨rfl, rfl⟩ := hq1
  refine g_if_ne (tgt := 10) dX4_refusalOfFetch_4 (by decide) (fun c4 => ?_) (fun c4 => ?_)
  · rw [bI_dn] at c4
    rw [if_pos c4] at hQ
    obtain ⟨n, hn1, hn2, rfl⟩ := okS_n c4
    rw [tnN (by omega)] at hQ
    have hcn := hcl n
    refine g_aload_n rfl dX4_refusalOfFetch_10 ?_
    refine gf_X4_25 (by decide) rfl rfl dX4_refusalOfFetch_11 ?_
    refine gf_X4_72 (by decide) rfl dX4_refusalOfFetch_14 ?_
    refine g_if_eq (tgt := 39) dX4_refusalOfFetch_17 (by decide) (fun c17 => ?_) (fun c17 => ?_)
    · refine g_bipush (by decide) dX4_refusalOfFetch_39 ?_
      refine g_ireturn rfl dX4_refusalOfFetch_41 ?_
      rw [if_neg (fun q => q.1 c17)] at hQ
      exact hQ
    · refine g_aload_n rfl dX4_refusalOfFetch_20 ?_
      refine g_iload_n rfl dX4_refusalOfFetch_21 ?_
      refine gi_X4_159 (by decide) rfl (ev_X4_tellingStores (s := n) hn2 M) rfl rfl ⟨Nat.le_of_ble_eq_true rfl, Nat.le_of_ble_eq_true rfl, Nat.le_of_ble_eq_true rfl, Nat.le_of_ble_eq_true rfl⟩ (Nat.le_of_ble_eq_true rfl) dX4_refusalOfFetch_22 (fun r22 M22 hq22 => ?_)
      obtain ⟨rfl, rfl⟩ := hq22
      refine g_aload_n rfl dX4_refusalOfFetch_25 ?_
      refine gf_X4_25 (by decide) rfl rfl dX4_refusalOfFetch_26 ?_
      refine gf_X4_116 (by decide) rfl dX4_refusalOfFetch_29 ?_
      rw [← mi_z M 22 7]
      refine g_icmp_le (tgt := 39) dX4_refusalOfFetch_32 (by decide) (fun c32 => ?_) (fun c32 => ?_)
      · refine g_bipush (by decide) dX4_refusalOfFetch_39 ?_
        refine g_ireturn rfl dX4_refusalOfFetch_41 ?_
        simp (disch := omega) only [i_le, zI_toInt] at c32
        rw [if_neg (fun q => by have := q.2; omega)] at hQ
        exact hQ
      · refine g_iconst dX4_refusalOfFetch_35 ?_
        refine g_goto (tgt := 41) dX4_refusalOfFetch_36 (by decide) ?_
        refine g_ireturn rfl dX4_refusalOfFetch_41 ?_
        simp (disch := omega) only [i_le, zI_toInt] at c32
        rw [if_pos ⟨c17, by omega⟩] at hQ
        exact hQ
  · refine g_bipush (by decide) dX4_refusalOfFetch_7 ?_
    refine g_ireturn rfl dX4_refusalOfFetch_9 ?_
    rw [bI_d0] at c4
    rw [if_neg c4] at hQ
    exact hQ
def rowX (M : Mem) (n : Nat) : List (Nat × Int) := hearL (tells M) (ansX M) n
theorem ansX_bd (M : Mem) (j : Nat) : 0 ≤ ansX M j ∧ ansX M j < 97 := md_bd _
theorem rowX_ok (M : Mem) {n : Nat} (h : n < 10) : rowOk (rowX M n) := by
  intro e he
  obtain ⟨h1, h2, h3⟩ := hearL_in _ _ _ e he
  have := ansX_bd M e.1
  rw [← h3] at this
  exact ⟨h1, by omega, this.1, this.2⟩
theorem rowX_len (M : Mem) (n : Nat) : (rowX M n).length = cnt (tells M) n := hearL_len _ _ _
def enoX (M : Mem) (n : Nat) : Int := (rowX M n).length - ((rowX M n).length - mi M 22 7 - 1) / 2
def fndX (M : Mem) (n : Nat) : Option Nat := findS (rowX M n) (mi M 22 7).toNat (enoX M n) (2 ^ (rowX M n).length - 1)
def curX (M : Mem) (n p : Nat) : List (Int × Int) := layP (pkS (rowX M n) (rowX M n).length p (rowX M n).length)
def ftvX (M : Mem) (n : Nat) : Int32 := match fndX M n with
  | none => zI (-9)
  | some p => zI (newt (curX M n p) 0)
def ftmX (M : Mem) (n : Nat) : Mem := match fndX M n with
  | none => mset (mset M 0 8 (M 0 8 + zI n * M 0 6)) 0 9 (M 0 9 + zI (rowX M n).length)
  | some p => mset (mset (mset M 0 8 (M 0 8 + zI n * M 0 6)) 0 9 (M 0 9 + zI (rowX M n).length)) 0 7 (zI (offS (onX (curX M n p)) (rowX M n) (rowX M n).length : Nat))
theorem findS_pop {l : List (Nat × Int)} {g : Nat} {e : Int} : ∀ q p, findS l g e q = some p → popN p = g + 1 ∧ 1 ≤ p ∧ p ≤ q
  | 0, p, h => by cases h
  | q + 1, p, h => by
    unfold findS at h
    by_cases hc : popN (q + 1) = g + 1 ∧ e ≤ (cnOn (onX (layP (pkS l l.length (q + 1) l.length))) l l.length : Nat)
    · rw [if_pos hc] at h
      cases h
      exact ⟨hc.1, by omega, Nat.le_refl _⟩
    · rw [if_neg hc] at h
      have := findS_pop q p h
      omega
theorem rofX_0 {M : Mem} {s : Int32} (h : rofX M s = 0) : okS s ∧ ¬ M 22 2 = 0 ∧ mi M 22 7 < (cnt (tells M) s.toInt.toNat : Nat) := by
  unfold rofX at h
  by_cases h1 : okS s
  · rw [if_pos h1] at h
    by_cases h2 : ¬ M 22 2 = 0 ∧ mi M 22 7 < (cnt (tells M) s.toInt.toNat : Nat)
    · exact ⟨h1, h2⟩
    · rw [if_neg h2] at h
      exact absurd h (by decide)
  · rw [if_neg h1] at h
    exact absurd h (by decide)
theorem ev_X4_fetch {M : Mem} (hw : WX M) (s : Int32) : Ev yX4_fetch cX4_fetch 3 (some .int) 4 [.ref 0, .int s] M (fun r M1 => some (.int (if rofX M s = 0 then ftvX M s.toInt.toNat else rofX M s)) = r ∧ Sam (if rofX M s = 0 then ftmX M s.toInt.toNat else M) M1) := by
  refine Ev.of (by decide +kernel) (Nat.le_of_ble_eq_true rfl) (fun Q hQ => ?_)
  have hg := hw.dgb
  refine g_aload_n rfl dX4_fetch_0 ?_
  refine g_iload_n rfl dX4_fetch_1 ?_
  refine gi_X4_134 (by decide) rfl (ev_X4_refusalOfFetch hw s) rfl rfl ⟨Nat.le_of_ble_eq_true rfl, Nat.le_of_ble_eq_true rfl, Nat.le_of_ble_eq_true rfl, Nat.le_of_ble_eq_true rfl⟩ (Nat.le_of_ble_eq_true rfl) dX4_fetch_2 (fun r2 M2 hq2 => ?_)
  obtain ⟨rfl, rfl⟩ := hq2
  refine g_istore_n (L2 := [(0, _), (1, _), (2, _)]) (by decide) rfl dX4_fetch_5 ?_
  refine g_iload_n rfl dX4_fetch_6 ?_
  refine g_if_eq (tgt := 12) dX4_fetch_7 (by decide) (fun c7 => ?_) (fun c7 => ?_)
  · rw [if_pos c7] at hQ
    obtain ⟨h1, h2, h3⟩ := rofX_0 c7
    obtain ⟨n, hn1, hn2, rfl⟩ := okS_n h1
    rw [tnN (by omega)] at hQ h3
    have hlen := rowX_len M n
    have hl9 : (rowX M n).length ≤ 9 := by rw [hlen]; exact Nat.le_trans (cnt_le _ _) (by omega)
    have hok := rowX_ok M hn2
    refine g_aload_n rfl dX4_fetch_12 ?_
    refine g_iload_n rfl dX4_fetch_13 ?_
    refine gi_X4_137 (by decide) rfl (ev_X4_hearStores hw (s := n) hn2) rfl rfl ⟨Nat.le_of_ble_eq_true rfl, Nat.le_of_ble_eq_true rfl, Nat.le_of_ble_eq_true rfl, Nat.le_of_ble_eq_true rfl⟩ (Nat.le_of_ble_eq_true rfl) dX4_fetch_14 (fun r14 M14 hq14 => ?_)
    obtain ⟨rfl, hs1, hr1⟩ := hq14
    have hr1 : RowIs M14 (rowX M n) := hr1
    have e08 : M14 0 8 = M 0 8 := congrFun (hs1 0 (Or.inl (by decide))) 8
    have e09 : M14 0 9 = M 0 9 := congrFun (hs1 0 (Or.inl (by decide))) 9
    have e06 : M14 0 6 = M 0 6 := congrFun (hs1 0 (Or.inl (by decide))) 6
    have e227 : M14 22 7 = zI ((mi M 22 7).toNat : Int) := by
      rw [hs1 22 (Or.inl (by decide)), ← mi_z M 22 7]
      congr 1
      omega
    refine g_aload_n rfl dX4_fetch_17 ?_
    refine g_dup rfl dX4_fetch_18 ?_
    refine gf_X4_50 (by decide) rfl dX4_fetch_19 ?_
    rw [e08]
    refine g_iload_n rfl dX4_fetch_22 ?_
    refine g_aload_n rfl dX4_fetch_23 ?_
    refine gf_X4_43 (by decide) rfl dX4_fetch_24 ?_
    rw [e06]
    refine g_imul dX4_fetch_27 ?_
    refine g_iadd dX4_fetch_28 ?_
    refine gp_X4_50 (by decide) rfl dX4_fetch_29 ?_
    refine g_aload_n rfl dX4_fetch_32 ?_
    refine g_dup rfl dX4_fetch_33 ?_
    refine gf_X4_53 (by decide) rfl dX4_fetch_34 ?_
    rw [mset_ne _ _ (Or.inr (by decide)), e09]
    refine g_aload_n rfl dX4_fetch_37 ?_
    refine gf_X4_32 (by decide) rfl rfl dX4_fetch_38 ?_
    refine gf_X4_140 (by decide) rfl dX4_fetch_41 ?_
    rw [mset_other _ _ _ (by decide), hr1.1]
    refine g_iadd dX4_fetch_44 ?_
    refine gp_X4_53 (by decide) rfl dX4_fetch_45 ?_
    have hs2 := ((hs1.both 0 8 (M 0 8 + zI n * M 0 6)).both 0 9 (M 0 9 + zI (rowX M n).length))
    generalize hM2 : mset (mset M14 0 8 (M 0 8 + zI ↑n * M 0 6)) 0 9 (M 0 9 + zI ↑(rowX M n).length) = M2 at hs2
    have hr2 : RowIs M2 (rowX M n) := by
      subst hM2
      refine hr1.ext ?_ ?_ ?_ <;> rw [mset_other _ _ _ (by decide), mset_other _ _ _ (by decide)]
    have e227b : M2 22 7 = zI ((mi M 22 7).toNat : Int) := by
      subst hM2
      rw [mset_other _ _ _ (by decide), mset_other _ _ _ (by decide), e227]
    refine g_aload_n rfl dX4_fetch_48 ?_
    refine g_aload_n rfl dX4_fetch_49 ?_
    refine gf_X4_32 (by decide) rfl rfl dX4_fetch_50 ?_
    refine gf_X4_140 (by decide) rfl dX4_fetch_53 ?_
    rw [hr2.1]
    refine g_aload_n rfl dX4_fetch_56 ?_
    refine g_aload_n rfl dX4_fetch_57 ?_
    refine gf_X4_32 (by decide) rfl rfl dX4_fetch_58 ?_
    refine gf_X4_140 (by decide) rfl dX4_fetch_61 ?_
    rw [hr2.1]
    refine gi_X4_143 (by decide) rfl (ev_X4_liesMended (t := ((rowX M n).length : Nat)) (g := ((mi M 22 7).toNat : Nat)) (M := M2) (by omega) (by omega) (by omega) (by omega) e227b (by omega)) rfl rfl ⟨Nat.le_of_ble_eq_true rfl, Nat.le_of_ble_eq_true rfl, Nat.le_of_ble_eq_true rfl, Nat.le_of_ble_eq_true rfl⟩ (Nat.le_of_ble_eq_true rfl) dX4_fetch_64 (fun r64 M64 hq64 => ?_)
    obtain ⟨rfl, rfl⟩ := hq64
    refine g_isub dX4_fetch_67 ?_
    rw [zI_sub, show (((rowX M n).length : Nat) : Int) - ((((rowX M n).length : Nat) : Int) - (((mi M 22 7).toNat : Nat) : Int) - 1) / 2 = enoX M n by
    unfold enoX
    rw [Int.toNat_of_nonneg (by omega)]]
    refine gi_X4_146 (by decide) rfl (ev_X4_findCurve (g := (mi M 22 7).toNat) (enough := enoX M n) hr2 hl9 hok e227b (by omega) (by unfold enoX; omega)) rfl rfl ⟨Nat.le_of_ble_eq_true rfl, Nat.le_of_ble_eq_true rfl, Nat.le_of_ble_eq_true rfl, Nat.le_of_ble_eq_true rfl⟩ (Nat.le_of_ble_eq_true rfl) dX4_fetch_68 (fun r68 M68 hq68 => ?_)
    obtain ⟨rfl, hs3, hc3⟩ := hq68
    have hfn : findS (rowX M n) (mi M 22 7).toNat (enoX M n) (2 ^ (rowX M n).length - 1) = fndX M n := rfl
    rw [hfn] at hc3 ⊢
    refine g_if_ne (tgt := 77) dX4_fetch_71 (by decide) (fun c71 => ?_) (fun c71 => ?_)
    · cases hf : fndX M n with
      | none =>
        rw [hf] at c71
        exact absurd rfl c71
      | some p =>
        have hc4 := hc3 p hf
        obtain ⟨hp1, hp2, hp3⟩ := findS_pop _ _ hf
        have h512 : 2 ^ (rowX M n).length ≤ 2 ^ 9 := Nat.pow_le_pow_right (by decide) hl9
        have h1p : 1 ≤ 2 ^ (rowX M n).length := Nat.one_le_two_pow
        have hpk := pkS_ok hok (rowX M n).length p (rowX M n).length (Nat.le_refl _)
        have hlen7 : (layP (pkS (rowX M n) (rowX M n).length p (rowX M n).length)).length ≤ 7 := by
          rw [layP_len hpk, pkS_len, lenF_pop (rowX M n).length (by omega) p (by omega) (by omega)]
          omega
        have hr3 := hs3.row hr2
        refine g_aload_n rfl dX4_fetch_77 ?_
        refine g_aload_n rfl dX4_fetch_78 ?_
        refine gf_X4_32 (by decide) rfl rfl dX4_fetch_79 ?_
        refine g_aload_n rfl dX4_fetch_82 ?_
        refine gf_X4_39 (by decide) rfl rfl dX4_fetch_83 ?_
        refine gi_X4_149 (by decide) rfl (ev_X2_storesOff hr3 hl9 hok hc4 (layP_ok hpk) hlen7) rfl rfl ⟨Nat.le_of_ble_eq_true rfl, Nat.le_of_ble_eq_true rfl, Nat.le_of_ble_eq_true rfl, Nat.le_of_ble_eq_true rfl⟩ (Nat.le_of_ble_eq_true rfl) dX4_fetch_86 (fun r86 M86 hq86 => ?_)
        obtain ⟨rfl, rfl⟩ := hq86
        refine gp_X4_47 (by decide) rfl dX4_fetch_89 ?_
        refine g_aload_n rfl dX4_fetch_92 ?_
        refine gf_X4_39 (by decide) rfl rfl dX4_fetch_93 ?_
        refine g_iconst dX4_fetch_96 ?_
        refine gi_X4_153 (by decide) rfl (ev_X0_at (x := 0) (M := mset M68 0 7 (zI (offS (onX (layP (pkS (rowX M n) (rowX M n).length p (rowX M n).length))) (rowX M n) (rowX M n).length : Nat))) ⟨by rw [mset_other _ _ _ (by decide)]; exact hc4.1, fun q x hx => by rw [mset_other _ _ _ (by decide), mset_other _ _ _ (by decide)]; exact hc4.2 q x hx⟩ (layP_ok hpk) hlen7 (by decide) (by decide)) rfl rfl ⟨Nat.le_of_ble_eq_true rfl, Nat.le_of_ble_eq_true rfl, Nat.le_of_ble_eq_true rfl, Nat.le_of_ble_eq_true rfl⟩ (Nat.le_of_ble_eq_true rfl) dX4_fetch_97 (fun r97 M97 hq97 => ?_)
        obtain ⟨rfl, rfl⟩ := hq97
        refine g_ireturn rfl dX4_fetch_100 ?_
        refine hQ _ _ ⟨by rw [ftvX, hf]; rfl, ?_⟩
        rw [if_pos c7, ftmX, hf]
        exact (hs2.t hs3.sam).both 0 7 _
    · cases hf : fndX M n with
      | some p =>
        rw [hf] at c71
        exact absurd c71 (by show ¬ zI 1 = 0; decide)
      | none =>
        refine g_bipush (by decide) dX4_fetch_74 ?_
        refine g_ireturn rfl dX4_fetch_76 ?_
        refine hQ _ _ ⟨by rw [ftvX, hf], ?_⟩
        rw [if_pos c7, ftmX, hf]
        exact hs2.t hs3.sam
  · refine g_iload_n rfl dX4_fetch_10 ?_
    refine g_ireturn rfl dX4_fetch_11 ?_
    rw [if_neg c7] at hQ
    exact hQ _ _ ⟨rfl, by rw [if_neg c7]; exact Sam.r M⟩
theorem ev_X4_caught {M : Mem} (hw : WX M) (j : Int32) : EvF yX4_caught cX4_caught 2 (some .int) 1 [.ref 0, .int j] M (some (.int (if okS j then zI (mi M 0 7 / 2 ^ j.toInt.toNat % 2) else zI (-1)))) M := by
  refine EvF.of (by decide +kernel) (Nat.le_of_ble_eq_true rfl) (fun Q hQ => ?_)
  have hca := hw.ca
  refine g_iload_n rfl dX4_caught_0 ?_
  refine gi_X4_83 (ev_X4_isStore j M) rfl rfl ⟨Nat.le_of_ble_eq_true rfl, Nat.le_of_ble_eq_true rfl, Nat.le_of_ble_eq_true rfl, Nat.le_of_ble_eq_true rfl⟩ (Nat.le_of_ble_eq_true rfl) dX4_caught_1 (fun r1 M1 hq1 => ?_)
  obtain ⟨rfl, rfl⟩ := hq1
  refine g_if_ne (tgt := 9) dX4_caught_4 (by decide) (fun c4 => ?_) (fun c4 => ?_)
  · rw [bI_dn] at c4
    rw [if_pos c4] at hQ
    obtain ⟨n, hn1, hn2, rfl⟩ := okS_n c4
    rw [tnN (by omega)] at hQ
    refine g_aload_n rfl dX4_caught_9 ?_
    refine gf_X4_47 (by decide) rfl dX4_caught_10 ?_
    rw [← mi_z M 0 7]
    refine g_iload_n rfl dX4_caught_13 ?_
    refine gi_X4_156 (ev_X4_bit (a := mi M 0 7) (k := n) hca.1 (by omega) (by omega) M) rfl rfl ⟨Nat.le_of_ble_eq_true rfl, Nat.le_of_ble_eq_true rfl, Nat.le_of_ble_eq_true rfl, Nat.le_of_ble_eq_true rfl⟩ (Nat.le_of_ble_eq_true rfl) dX4_caught_14 (fun r14 M14 hq14 => ?_)
    obtain ⟨rfl, rfl⟩ := hq14
    refine g_ireturn rfl dX4_caught_17 ?_
    exact hQ
  · refine g_iconst dX4_caught_7 ?_
    refine g_ireturn rfl dX4_caught_8 ?_
    rw [bI_d0] at c4
    rw [if_neg c4] at hQ
    exact hQ
theorem ev_X4_mends {M : Mem} (hw : WX M) (s : Int32) : EvF yX4_mends cX4_mends 3 (some .int) 3 [.ref 0, .int s] M (some (.int (if rofX M s = 0 then zI (((cnt (tells M) s.toInt.toNat : Nat) - mi M 22 7 - 1) / 2) else rofX M s))) M := by
  refine EvF.of (by decide +kernel) (Nat.le_of_ble_eq_true rfl) (fun Q hQ => ?_)
  have hg := hw.dgb
  refine g_aload_n rfl dX4_mends_0 ?_
  refine g_iload_n rfl dX4_mends_1 ?_
  refine gi_X4_134 (by decide) rfl (ev_X4_refusalOfFetch hw s) rfl rfl ⟨Nat.le_of_ble_eq_true rfl, Nat.le_of_ble_eq_true rfl, Nat.le_of_ble_eq_true rfl, Nat.le_of_ble_eq_true rfl⟩ (Nat.le_of_ble_eq_true rfl) dX4_mends_2 (fun r2 M2 hq2 => ?_)
  obtain ⟨rfl, rfl⟩ := hq2
  refine g_istore_n (L2 := [(0, _), (1, _), (2, _)]) (by decide) rfl dX4_mends_5 ?_
  refine g_iload_n rfl dX4_mends_6 ?_
  refine g_if_ne (tgt := 22) dX4_mends_7 (by decide) (fun c7 => ?_) (fun c7 => ?_)
  · refine g_iload_n rfl dX4_mends_22 ?_
    refine g_ireturn rfl dX4_mends_23 ?_
    rw [if_neg c7] at hQ
    exact hQ
  · rw [if_pos c7] at hQ
    obtain ⟨h1, h2, h3⟩ := rofX_0 c7
    obtain ⟨n, hn1, hn2, rfl⟩ := okS_n h1
    rw [tnN (by omega)] at hQ h3
    have hcl := cnt_le (tells M) n
    refine g_aload_n rfl dX4_mends_10 ?_
    refine g_aload_n rfl dX4_mends_11 ?_
    refine g_iload_n rfl dX4_mends_12 ?_
    refine gi_X4_159 (by decide) rfl (ev_X4_tellingStores (s := n) hn2 M) rfl rfl ⟨Nat.le_of_ble_eq_true rfl, Nat.le_of_ble_eq_true rfl, Nat.le_of_ble_eq_true rfl, Nat.le_of_ble_eq_true rfl⟩ (Nat.le_of_ble_eq_true rfl) dX4_mends_13 (fun r13 M13 hq13 => ?_)
    obtain ⟨rfl, rfl⟩ := hq13
    refine gi_X4_143 (by decide) rfl (ev_X4_liesMended (t := (cnt (tells M) n : Nat)) (g := mi M 22 7) (M := M) (by omega) (by omega) hg.1 hg.2 (mi_z M 22 7).symm h3) rfl rfl ⟨Nat.le_of_ble_eq_true rfl, Nat.le_of_ble_eq_true rfl, Nat.le_of_ble_eq_true rfl, Nat.le_of_ble_eq_true rfl⟩ (Nat.le_of_ble_eq_true rfl) dX4_mends_16 (fun r16 M16 hq16 => ?_)
    obtain ⟨rfl, rfl⟩ := hq16
    refine g_goto (tgt := 23) dX4_mends_19 (by decide) ?_
    refine g_ireturn rfl dX4_mends_23 ?_
    exact hQ
theorem set_big : ∀ a, a < 1024 → (zI (a : Nat) &&& zI (-1023) = 0 ↔ a % 2 = 0) := by decide +kernel
theorem set_ok (s : Int32) : (s = 0 ∨ ¬ s &&& zI (-1023) = 0) ↔ ¬ (2 ≤ s.toInt ∧ s.toInt ≤ 1022 ∧ s.toInt % 2 = 0) := by
  by_cases h : 0 ≤ s.toInt ∧ s.toInt < 1024
  · obtain ⟨n, hn, rfl⟩ : ∃ n : Nat, n < 1024 ∧ s = zI n := ⟨s.toInt.toNat, by omega, by rw [Int.toNat_of_nonneg h.1, zI_of]⟩
    rw [set_big n hn, tiN (by omega), zI_zero, zI_eqz (by omega) (by omega) (by decide) (by decide)]
    omega
  · refine ⟨fun _ q => h (by omega), fun _ => Or.inr (fun q => h ?_)⟩
    have hb : (s &&& zI (-1023)).toBitVec.toNat = 0 := by rw [q]; rfl
    have hb2 : s.toBitVec.toNat &&& 4294966273 = 0 := hb
    have hlt : s.toBitVec.toNat < 2 ^ 32 := s.toBitVec.isLt
    have h1 : (s.toBitVec.toNat &&& 4294966273) / 2 ^ 10 = s.toBitVec.toNat / 2 ^ 10 := by
      rw [← Nat.shiftRight_eq_div_pow, Nat.shiftRight_and_distrib, Nat.shiftRight_eq_div_pow, show (4294966273 : Nat) >>> 10 = 2 ^ 22 - 1 from by decide, Nat.and_two_pow_sub_one_eq_mod]
      exact Nat.mod_eq_of_lt (by omega)
    rw [hb2] at h1
    have h2 : s.toBitVec.toNat < 1024 := by omega
    have e : s.toInt = (s.toBitVec.toNat : Int) := by
      show s.toBitVec.toInt = _
      rw [BitVec.toInt_eq_toNat_cond, if_pos (by omega)]
    omega
def rosX (M : Mem) (s : Int32) : Int32 := if M 22 2 = 0 then zI (-3) else if s = 0 ∨ ¬ s &&& zI (-1023) = 0 then zI (-2) else zI 0
theorem rosX_0 {M : Mem} {s : Int32} (h : rosX M s = 0) : ¬ M 22 2 = 0 ∧ 2 ≤ s.toInt ∧ s.toInt ≤ 1022 ∧ s.toInt % 2 = 0 := by
  unfold rosX at h
  by_cases h1 : M 22 2 = 0
  · rw [if_pos h1] at h
    exact absurd h (by decide)
  · rw [if_neg h1] at h
    by_cases h2 : s = 0 ∨ ¬ s &&& zI (-1023) = 0
    · rw [if_pos h2] at h
      exact absurd h (by decide)
    · rw [set_ok] at h2
      exact ⟨h1, Classical.not_not.mp h2⟩
set_option maxRecDepth 100000 in
theorem pop_pos : ∀ n, n < 1024 → 2 ≤ n → 1 ≤ popN n := by decide +kernel
theorem cwX_bd {M : Mem} (hw : WX M) {set : Nat} (hs1 : 1 ≤ popN set) (i : Int) : 0 ≤ cwX M set i ∧ cwX M set i < 1000000 := by
  have hkf := hw.kf
  have hqb := hw.qb
  unfold cwX
  split
  · split <;> decide
  · have h3 : ((mi M 22 5 - popN set) * mi M 22 6).toNat ≤ 3 := by
      rcases (by omega : mi M 22 5 - (popN set : Int) = 0 ∨ mi M 22 5 - (popN set : Int) = 1) with e | e <;> rw [e] <;> omega
    generalize ((mi M 22 5 - popN set) * mi M 22 6).toNat = q at h3 ⊢
    rcases (by omega : q = 0 ∨ q = 1 ∨ q = 2 ∨ q = 3) with rfl | rfl | rfl | rfl <;> decide
theorem ev_X4_ways {M : Mem} (hw : WX M) (s i : Int32) : EvF yX4_ways cX4_ways 4 (some .long) 2 [.ref 0, .int s, .int i] M (some (.long (if rosX M s = 0 then (if okR M i then zL (cwX M s.toInt.toNat i.toInt) else zL (-1)) else (rosX M s).toInt64))) M := by
  refine EvF.of (by decide +kernel) (Nat.le_of_ble_eq_true rfl) (fun Q hQ => ?_)
  obtain ⟨hm1, hm2, hm3, hm⟩ := hw.m
  have h8 := p2_8 hm1 hm2
  have hz := p2_z (xm M)
  have hro : (if M 22 2 = 0 then zI (-3) else if s = 0 ∨ ¬ s &&& zI (-1023) = 0 then zI (-2) else zI 0) = rosX M s := rfl
  refine g_aload_n rfl dX4_ways_0 ?_
  refine g_iload_n rfl dX4_ways_1 ?_
  refine gi_X4_162 (by decide) rfl (ev_X4_refusalOfSet s) rfl rfl ⟨Nat.le_of_ble_eq_true rfl, Nat.le_of_ble_eq_true rfl, Nat.le_of_ble_eq_true rfl, Nat.le_of_ble_eq_true rfl⟩ (Nat.le_of_ble_eq_true rfl) dX4_ways_2 (fun r2 M2 hq2 => ?_)
  obtain ⟨rfl, rfl⟩ := hq2
  refine g_istore_n (L2 := [(0, _), (1, _), (2, _), (3, _)]) (by decide) rfl dX4_ways_5 ?_
  rw [hro]
  refine g_iload_n rfl dX4_ways_6 ?_
  refine g_if_eq (tgt := 13) dX4_ways_7 (by decide) (fun c7 => ?_) (fun c7 => ?_)
  · rw [if_pos c7] at hQ
    obtain ⟨h1, h2, h3, h4⟩ := rosX_0 c7
    obtain ⟨n, hn, rfl⟩ : ∃ n : Nat, n < 1024 ∧ s = zI n := ⟨s.toInt.toNat, by omega, by rw [Int.toNat_of_nonneg (by omega), zI_of]⟩
    rw [tiN (by omega)] at h2 h3 h4
    rw [tnN (by omega)] at hQ
    have hpp := pop_pos n hn (by omega)
    refine g_aload_n rfl dX4_ways_13 ?_
    refine g_iload_n rfl dX4_ways_14 ?_
    refine gi_X4_76 (by decide) rfl (ev_X4_isRecord hm1 hm2 hm i) rfl rfl ⟨Nat.le_of_ble_eq_true rfl, Nat.le_of_ble_eq_true rfl, Nat.le_of_ble_eq_true rfl, Nat.le_of_ble_eq_true rfl⟩ (Nat.le_of_ble_eq_true rfl) dX4_ways_15 (fun r15 M15 hq15 => ?_)
    obtain ⟨rfl, rfl⟩ := hq15
    refine g_if_eq (tgt := 33) dX4_ways_18 (by decide) (fun c18 => ?_) (fun c18 => ?_)
    · refine g_ldc2 gl_X4_169 dX4_ways_33 ?_
      refine g_lreturn rfl dX4_ways_36 ?_
      rw [bI_d0] at c18
      rw [if_neg c18] at hQ
      exact hQ
    · rw [bI_dn] at c18
      rw [if_pos c18] at hQ
      refine g_aload_n rfl dX4_ways_21 ?_
      refine gf_X4_25 (by decide) rfl rfl dX4_ways_22 ?_
      refine g_iload_n rfl dX4_ways_25 ?_
      refine g_iload_n rfl dX4_ways_26 ?_
      rw [← zI_of i]
      refine gi_X4_165 (by decide) rfl (ev_X1_countWays hw (set := n) (i := i.toInt) hn hpp c18.1 (by omega)) rfl rfl ⟨Nat.le_of_ble_eq_true rfl, Nat.le_of_ble_eq_true rfl, Nat.le_of_ble_eq_true rfl, Nat.le_of_ble_eq_true rfl⟩ (Nat.le_of_ble_eq_true rfl) dX4_ways_27 (fun r27 M27 hq27 => ?_)
      obtain ⟨rfl, rfl⟩ := hq27
      refine g_goto (tgt := 36) dX4_ways_30 (by decide) ?_
      refine g_lreturn rfl dX4_ways_36 ?_
      exact hQ
  · refine g_iload_n rfl dX4_ways_10 ?_
    refine g_i2l dX4_ways_11 ?_
    refine g_lreturn rfl dX4_ways_12 ?_
    rw [if_neg c7] at hQ
    exact hQ
/-- how many of the first n have p -/
def cnz (p : Nat → Bool) : Nat → Nat
  | 0 => 0
  | i + 1 => cnz p i + (if p i = true then 1 else 0)
theorem ev_X4_might {M : Mem} (hw : WX M) (s : Int32) : EvF yX4_might cX4_might 5 (some .int) 2 [.ref 0, .int s] M (some (.int (if rosX M s = 0 then zI (cnz (fun i => decide (0 < cwX M s.toInt.toNat i)) (2 ^ xm M) : Nat) else rosX M s))) M := by
  refine EvF.of (by decide +kernel) (Nat.le_of_ble_eq_true rfl) (fun Q hQ => ?_)
  obtain ⟨hm1, hm2, hm3, hm⟩ := hw.m
  have h8 := p2_8 hm1 hm2
  have hz := p2_z (xm M)
  have hro : (if M 22 2 = 0 then zI (-3) else if s = 0 ∨ ¬ s &&& zI (-1023) = 0 then zI (-2) else zI 0) = rosX M s := rfl
  refine g_aload_n rfl dX4_might_0 ?_
  refine g_iload_n rfl dX4_might_1 ?_
  refine gi_X4_162 (by decide) rfl (ev_X4_refusalOfSet s) rfl rfl ⟨Nat.le_of_ble_eq_true rfl, Nat.le_of_ble_eq_true rfl, Nat.le_of_ble_eq_true rfl, Nat.le_of_ble_eq_true rfl⟩ (Nat.le_of_ble_eq_true rfl) dX4_might_2 (fun r2 M2 hq2 => ?_)
  obtain ⟨rfl, rfl⟩ := hq2
  refine g_istore_n (L2 := [(0, _), (1, _), (2, _)]) (by decide) rfl dX4_might_5 ?_
  rw [hro]
  refine g_iload_n rfl dX4_might_6 ?_
  refine g_if_eq (tgt := 12) dX4_might_7 (by decide) (fun c7 => ?_) (fun c7 => ?_)
  · rw [if_pos c7] at hQ
    obtain ⟨h1, h2, h3, h4⟩ := rosX_0 c7
    obtain ⟨n, hn, rfl⟩ : ∃ n : Nat, n < 1024 ∧ s = zI n := ⟨s.toInt.toNat, by omega, by rw [Int.toNat_of_nonneg (by omega), zI_of]⟩
    rw [tiN (by omega)] at h2 h3 h4
    rw [tnN (by omega)] at hQ
    have hpp := pop_pos n hn (by omega)
    generalize rosX M (zI n) = ro at *
    have loop : ∀ (d q : Nat), d + q = 2 ^ xm M → G yX4_might.cls cX4_might 5 (some .int) (gE 2 Q) 17 [(0, .ref 0), (1, .int (zI n)), (2, .int ro), (3, .int (zI (cnz (fun i => decide (0 < cwX M n i)) q : Nat))), (4, .int (zI q))] [] M := by
      intro d
      induction d with
      | zero =>
        intro q hq
        obtain rfl : q = 2 ^ xm M := by omega
        refine g_iload rfl dX4_might_17 ?_
        refine g_aload_n rfl dX4_might_19 ?_
        refine gi_X4_60 (by decide) rfl (ev_X4_count hm1 hm2 hm) rfl rfl ⟨Nat.le_of_ble_eq_true rfl, Nat.le_of_ble_eq_true rfl, Nat.le_of_ble_eq_true rfl, Nat.le_of_ble_eq_true rfl⟩ (Nat.le_of_ble_eq_true rfl) dX4_might_20 (fun r20 M20 hq20 => ?_)
        obtain ⟨rfl, rfl⟩ := hq20
        refine g_icmp_ge (tgt := 50) dX4_might_23 (by decide) (fun c23 => ?_) (fun c23 => ?_)
        · refine g_iload_n rfl dX4_might_50 ?_
          refine g_ireturn rfl dX4_might_51 ?_
          exact hQ
        · exact n_lt_of c23 (by omega) (by omega) (by omega) (by omega) (by omega)
      | succ d ih =>
        intro q hq
        have ih := ih (q + 1) (by omega)
        have hcb := cwX_bd hw hpp q
        refine g_iload rfl dX4_might_17 ?_
        refine g_aload_n rfl dX4_might_19 ?_
        refine gi_X4_60 (by decide) rfl (ev_X4_count hm1 hm2 hm) rfl rfl ⟨Nat.le_of_ble_eq_true rfl, Nat.le_of_ble_eq_true rfl, Nat.le_of_ble_eq_true rfl, Nat.le_of_ble_eq_true rfl⟩ (Nat.le_of_ble_eq_true rfl) dX4_might_20 (fun r20 M20 hq20 => ?_)
        obtain ⟨rfl, rfl⟩ := hq20
        refine g_icmp_ge (tgt := 50) dX4_might_23 (by decide) (fun c23 => ?_) (fun c23 => ?_)
        · exact n_le_of c23 (by omega) (by omega) (by omega) (by omega) (by omega)
        · refine g_aload_n rfl dX4_might_26 ?_
          refine gf_X4_25 (by decide) rfl rfl dX4_might_27 ?_
          refine g_iload_n rfl dX4_might_30 ?_
          refine g_iload rfl dX4_might_31 ?_
          refine gi_X4_165 (by decide) rfl (ev_X1_countWays hw (set := n) (i := q) hn hpp (by omega) (by omega)) rfl rfl ⟨Nat.le_of_ble_eq_true rfl, Nat.le_of_ble_eq_true rfl, Nat.le_of_ble_eq_true rfl, Nat.le_of_ble_eq_true rfl⟩ (Nat.le_of_ble_eq_true rfl) dX4_might_33 (fun r33 M33 hq33 => ?_)
          obtain ⟨rfl, rfl⟩ := hq33
          refine g_lconst (v := zL 0) (by decide) dX4_might_36 ?_
          refine g_lcmp dX4_might_37 ?_
          refine g_if_le (tgt := 44) dX4_might_38 (by decide) (fun c38 => ?_) (fun c38 => ?_)
          · refine g_iinc (L2 := [(0, _), (1, _), (2, _), (3, _), (4, _)]) rfl (by decide) rfl dX4_might_44 ?_
            refine g_goto (tgt := 17) dX4_might_47 (by decide) ?_
            rw [lgc_p (by omega) (by omega) (by decide) (by decide)] at c38
            rw [cnz, if_neg (by simp; omega)] at ih
            rw [zI_add]
            exact ih
          · refine g_iinc (L2 := [(0, _), (1, _), (2, _), (3, _), (4, _)]) rfl (by decide) rfl dX4_might_41 ?_
            refine g_iinc (L2 := [(0, _), (1, _), (2, _), (3, _), (4, _)]) rfl (by decide) rfl dX4_might_44 ?_
            refine g_goto (tgt := 17) dX4_might_47 (by decide) ?_
            rw [lgc_p (by omega) (by omega) (by decide) (by decide)] at c38
            rw [cnz, if_pos (by simp; omega)] at ih
            rw [zI_add, zI_add]
            exact ih
    refine g_iconst dX4_might_12 ?_
    refine g_istore_n (L2 := [(0, _), (1, _), (2, _), (3, _)]) (by decide) rfl dX4_might_13 ?_
    refine g_iconst dX4_might_14 ?_
    refine g_istore (L2 := [(0, _), (1, _), (2, _), (3, _), (4, _)]) (by decide) rfl dX4_might_15 ?_
    exact loop (2 ^ xm M) 0 (by omega)
  · refine g_iload_n rfl dX4_might_10 ?_
    refine g_ireturn rfl dX4_might_11 ?_
    rw [if_neg c7] at hQ
    exact hQ
end
section
/-! class SilentAsking: what is learnt; what fits -/
def exB (p : Nat → Bool) : Nat → Bool
  | 0 => false
  | n + 1 => exB p n || p n
theorem exB_t {p : Nat → Bool} {i : Nat} (h : p i = true) : ∀ n, i < n → exB p n = true
  | 0, hi => absurd hi (by omega)
  | n + 1, hi => by
    unfold exB
    by_cases e : i = n
    · rw [← e, h, Bool.or_true]
    · rw [exB_t h n (by omega), Bool.true_or]
theorem exB_f {p : Nat → Bool} : ∀ n, (∀ i, i < n → p i = false) → exB p n = false
  | 0, _ => rfl
  | n + 1, h => by rw [exB, exB_f n (fun i hi => h i (by omega)), h n (by omega)]; rfl
/-- whether the ways tell the records apart -/
def appX (M : Mem) (set : Nat) : Bool := exB (fun i => decide (¬ cwX M set i = cwX M set 0)) (2 ^ xm M)
theorem ev_X4_tellsRecordsApart {M : Mem} (hw : WX M) {n : Nat} (hn : n < 1024) (h2 : 2 ≤ n) : EvF yX4_tellsRecordsApart cX4_tellsRecordsApart 3 (some .boolean) 2 [.ref 0, .int (zI n)] M (some (.int (bI (appX M n)))) M := by
  refine EvF.of (by decide +kernel) (Nat.le_of_ble_eq_true rfl) (fun Q hQ => ?_)
  obtain ⟨hm1, hm2, hm3, hm⟩ := hw.m
  have h8 := p2_8 hm1 hm2
  have hz := p2_z (xm M)
  have hpp := pop_pos n hn h2
  have hc0 := cwX_bd hw hpp 0
  have loop : ∀ (d q : Nat), d + q = 2 ^ xm M → (∀ i, i < q → (decide (¬ cwX M n i = cwX M n 0)) = false) → G yX4_tellsRecordsApart.cls cX4_tellsRecordsApart 3 (some .boolean) (gE 2 Q) 2 [(0, .ref 0), (1, .int (zI n)), (2, .int (zI q))] [] M := by
    intro d
    induction d with
    | zero =>
      intro q hq hk
      obtain rfl : q = 2 ^ xm M := by omega
      rw [appX, exB_f _ hk] at hQ
      refine g_iload_n rfl dX4_tellsRecordsApart_2 ?_
      refine g_aload_n rfl dX4_tellsRecordsApart_3 ?_
      refine gi_X4_60 (by decide) rfl (ev_X4_count hm1 hm2 hm) rfl rfl ⟨Nat.le_of_ble_eq_true rfl, Nat.le_of_ble_eq_true rfl, Nat.le_of_ble_eq_true rfl, Nat.le_of_ble_eq_true rfl⟩ (Nat.le_of_ble_eq_true rfl) dX4_tellsRecordsApart_4 (fun r4 M4 hq4 => ?_)
      obtain ⟨rfl, rfl⟩ := hq4
      refine g_icmp_ge (tgt := 40) dX4_tellsRecordsApart_7 (by decide) (fun c7 => ?_) (fun c7 => ?_)
      · refine g_iconst dX4_tellsRecordsApart_40 ?_
        refine g_zreturn rfl rfl dX4_tellsRecordsApart_41 ?_
        exact hQ
      · exact n_lt_of c7 (by omega) (by omega) (by omega) (by omega) (by omega)
    | succ d ih =>
      intro q hq hk
      have hcq := cwX_bd hw hpp q
      refine g_iload_n rfl dX4_tellsRecordsApart_2 ?_
      refine g_aload_n rfl dX4_tellsRecordsApart_3 ?_
      refine gi_X4_60 (by decide) rfl (ev_X4_count hm1 hm2 hm) rfl rfl ⟨Nat.le_of_ble_eq_true rfl, Nat.le_of_ble_eq_true rfl, Nat.le_of_ble_eq_true rfl, Nat.le_of_ble_eq_true rfl⟩ (Nat.le_of_ble_eq_true rfl) dX4_tellsRecordsApart_4 (fun r4 M4 hq4 => ?_)
      obtain ⟨rfl, rfl⟩ := hq4
      refine g_icmp_ge (tgt := 40) dX4_tellsRecordsApart_7 (by decide) (fun c7 => ?_) (fun c7 => ?_)
      · exact n_le_of c7 (by omega) (by omega) (by omega) (by omega) (by omega)
      · refine g_aload_n rfl dX4_tellsRecordsApart_10 ?_
        refine gf_X4_25 (by decide) rfl rfl dX4_tellsRecordsApart_11 ?_
        refine g_iload_n rfl dX4_tellsRecordsApart_14 ?_
        refine g_iload_n rfl dX4_tellsRecordsApart_15 ?_
        refine gi_X4_165 (by decide) rfl (ev_X1_countWays hw (set := n) (i := q) hn hpp (by omega) (by omega)) rfl rfl ⟨Nat.le_of_ble_eq_true rfl, Nat.le_of_ble_eq_true rfl, Nat.le_of_ble_eq_true rfl, Nat.le_of_ble_eq_true rfl⟩ (Nat.le_of_ble_eq_true rfl) dX4_tellsRecordsApart_16 (fun r16 M16 hq16 => ?_)
        obtain ⟨rfl, rfl⟩ := hq16
        refine g_aload_n rfl dX4_tellsRecordsApart_19 ?_
        refine gf_X4_25 (by decide) rfl rfl dX4_tellsRecordsApart_20 ?_
        refine g_iload_n rfl dX4_tellsRecordsApart_23 ?_
        refine g_iconst dX4_tellsRecordsApart_24 ?_
        refine gi_X4_165 (by decide) rfl (ev_X1_countWays hw (set := n) (i := 0) hn hpp (by omega) (by omega)) rfl rfl ⟨Nat.le_of_ble_eq_true rfl, Nat.le_of_ble_eq_true rfl, Nat.le_of_ble_eq_true rfl, Nat.le_of_ble_eq_true rfl⟩ (Nat.le_of_ble_eq_true rfl) dX4_tellsRecordsApart_25 (fun r25 M25 hq25 => ?_)
        obtain ⟨rfl, rfl⟩ := hq25
        refine g_lcmp dX4_tellsRecordsApart_28 ?_
        refine g_if_eq (tgt := 34) dX4_tellsRecordsApart_29 (by decide) (fun c29 => ?_) (fun c29 => ?_)
        · refine g_iinc (L2 := [(0, _), (1, _), (2, _)]) rfl (by decide) rfl dX4_tellsRecordsApart_34 ?_
          refine g_goto (tgt := 2) dX4_tellsRecordsApart_37 (by decide) ?_
          rw [lgc_0 (by omega) (by omega) (by omega) (by omega)] at c29
          rw [zI_add]
          refine ih (q + 1) (by omega) (fun i hi => ?_)
          by_cases e : i = q
          · rw [e]
            simp [c29]
          · exact hk i (by omega)
        · refine g_iconst dX4_tellsRecordsApart_32 ?_
          refine g_zreturn rfl rfl dX4_tellsRecordsApart_33 ?_
          rw [lgc_0 (by omega) (by omega) (by omega) (by omega)] at c29
          rw [appX, exB_t (i := q) (by simp [c29]) _ (by omega)] at hQ
          exact hQ
  refine g_iconst dX4_tellsRecordsApart_0 ?_
  refine g_istore_n (L2 := [(0, _), (1, _), (2, _)]) (by decide) rfl dX4_tellsRecordsApart_1 ?_
  refine loop (2 ^ xm M - 1) 1 (by omega) (fun i hi => ?_)
  obtain rfl : i = 0 := by omega
  simp
theorem ev_X4_learns {M : Mem} (hw : WX M) (s : Int32) : EvF yX4_learns cX4_learns 3 (some .int) 3 [.ref 0, .int s] M (some (.int (if rosX M s = 0 then bI (appX M s.toInt.toNat) else rosX M s))) M := by
  refine EvF.of (by decide +kernel) (Nat.le_of_ble_eq_true rfl) (fun Q hQ => ?_)
  have hro : (if M 22 2 = 0 then zI (-3) else if s = 0 ∨ ¬ s &&& zI (-1023) = 0 then zI (-2) else zI 0) = rosX M s := rfl
  refine g_aload_n rfl dX4_learns_0 ?_
  refine g_iload_n rfl dX4_learns_1 ?_
  refine gi_X4_162 (by decide) rfl (ev_X4_refusalOfSet s) rfl rfl ⟨Nat.le_of_ble_eq_true rfl, Nat.le_of_ble_eq_true rfl, Nat.le_of_ble_eq_true rfl, Nat.le_of_ble_eq_true rfl⟩ (Nat.le_of_ble_eq_true rfl) dX4_learns_2 (fun r2 M2 hq2 => ?_)
  obtain ⟨rfl, rfl⟩ := hq2
  refine g_istore_n (L2 := [(0, _), (1, _), (2, _)]) (by decide) rfl dX4_learns_5 ?_
  rw [hro]
  refine g_iload_n rfl dX4_learns_6 ?_
  refine g_if_eq (tgt := 12) dX4_learns_7 (by decide) (fun c7 => ?_) (fun c7 => ?_)
  · rw [if_pos c7] at hQ
    obtain ⟨h1, h2, h3, h4⟩ := rosX_0 c7
    obtain ⟨n, hn, rfl⟩ : ∃ n : Nat, n < 1024 ∧ s = zI n := ⟨s.toInt.toNat, by omega, by rw [Int.toNat_of_nonneg (by omega), zI_of]⟩
    rw [tiN (by omega)] at h2 h3 h4
    rw [tnN (by omega)] at hQ
    refine g_aload_n rfl dX4_learns_12 ?_
    refine g_iload_n rfl dX4_learns_13 ?_
    refine gi_X4_171 (by decide) rfl (ev_X4_tellsRecordsApart hw hn (by omega)) rfl rfl ⟨Nat.le_of_ble_eq_true rfl, Nat.le_of_ble_eq_true rfl, Nat.le_of_ble_eq_true rfl, Nat.le_of_ble_eq_true rfl⟩ (Nat.le_of_ble_eq_true rfl) dX4_learns_14 (fun r14 M14 hq14 => ?_)
    obtain ⟨rfl, rfl⟩ := hq14
    refine g_if_eq (tgt := 24) dX4_learns_17 (by decide) (fun c17 => ?_) (fun c17 => ?_)
    · refine g_iconst dX4_learns_24 ?_
      refine g_ireturn rfl dX4_learns_25 ?_
      rw [bI_0] at c17
      rw [c17] at hQ
      exact hQ
    · refine g_iconst dX4_learns_20 ?_
      refine g_goto (tgt := 25) dX4_learns_21 (by decide) ?_
      refine g_ireturn rfl dX4_learns_25 ?_
      rw [bI_n0] at c17
      rw [c17] at hQ
      exact hQ
  · refine g_iload_n rfl dX4_learns_10 ?_
    refine g_ireturn rfl dX4_learns_11 ?_
    rw [if_neg c7] at hQ
    exact hQ
/-- the first from k on, within d, that has p -/
def fstF (p : Nat → Bool) : Nat → Nat → Option Nat
  | 0, _ => none
  | d + 1, k => if p k = true then some k else fstF p d (k + 1)
def leaX (M : Mem) : Int32 := match fstF (fun k => appX M (2 * k)) 511 1 with
  | none => zI (-9)
  | some k => zI (2 * k : Nat)
theorem ev_X4_least {M : Mem} (hw : WX M) : EvF yX4_least cX4_least 2 (some .int) 3 [.ref 0] M (some (.int (if M 22 2 = 0 then zI (-3) else leaX M))) M := by
  refine EvF.of (by decide +kernel) (Nat.le_of_ble_eq_true rfl) (fun Q hQ => ?_)
  have loop : ∀ (d k : Nat), d + k = 512 → 1 ≤ k → Q (some (.int (match fstF (fun k => appX M (2 * k)) d k with | none => zI (-9) | some k => zI (2 * k : Nat)))) M → G yX4_least.cls cX4_least 2 (some .int) (gE 3 Q) 15 [(0, .ref 0), (1, .int (zI (2 * k : Nat)))] [] M := by
    intro d
    induction d with
    | zero =>
      intro k hk h1 hQ
      refine g_iload_n rfl dX4_least_15 ?_
      refine g_sipush (by decide) dX4_least_16 ?_
      refine g_icmp_gt (tgt := 38) dX4_least_19 (by decide) (fun c19 => ?_) (fun c19 => ?_)
      · refine g_bipush (by decide) dX4_least_38 ?_
        refine g_ireturn rfl dX4_least_40 ?_
        exact hQ
      · simp (disch := omega) only [i_lt, zI_toInt] at c19
        omega
    | succ d ih =>
      intro k hk h1 hQ
      rw [fstF] at hQ
      refine g_iload_n rfl dX4_least_15 ?_
      refine g_sipush (by decide) dX4_least_16 ?_
      refine g_icmp_gt (tgt := 38) dX4_least_19 (by decide) (fun c19 => ?_) (fun c19 => ?_)
      · simp (disch := omega) only [i_lt, zI_toInt] at c19
        omega
      · refine g_aload_n rfl dX4_least_22 ?_
        refine g_iload_n rfl dX4_least_23 ?_
        refine gi_X4_171 (by decide) rfl (ev_X4_tellsRecordsApart hw (n := 2 * k) (by omega) (by omega)) rfl rfl ⟨Nat.le_of_ble_eq_true rfl, Nat.le_of_ble_eq_true rfl, Nat.le_of_ble_eq_true rfl, Nat.le_of_ble_eq_true rfl⟩ (Nat.le_of_ble_eq_true rfl) dX4_least_24 (fun r24 M24 hq24 => ?_)
        obtain ⟨rfl, rfl⟩ := hq24
        refine g_if_eq (tgt := 32) dX4_least_27 (by decide) (fun c27 => ?_) (fun c27 => ?_)
        · refine g_iinc (L2 := [(0, _), (1, _)]) rfl (by decide) rfl dX4_least_32 ?_
          refine g_goto (tgt := 15) dX4_least_35 (by decide) ?_
          rw [bI_0] at c27
          rw [if_neg (by rw [c27]; decide)] at hQ
          rw [zI_add, show ((2 * k : Nat) : Int) + 2 = (2 * (k + 1) : Nat) by omega]
          exact ih (k + 1) (by omega) (by omega) hQ
        · refine g_iload_n rfl dX4_least_30 ?_
          refine g_ireturn rfl dX4_least_31 ?_
          rw [bI_n0] at c27
          rw [if_pos c27] at hQ
          exact hQ
  refine g_aload_n rfl dX4_least_0 ?_
  refine gf_X4_25 (by decide) rfl rfl dX4_least_1 ?_
  refine gf_X4_72 (by decide) rfl dX4_least_4 ?_
  refine g_if_ne (tgt := 13) dX4_least_7 (by decide) (fun c7 => ?_) (fun c7 => ?_)
  · refine g_iconst dX4_least_13 ?_
    refine g_istore_n (L2 := [(0, _), (1, _)]) (by decide) rfl dX4_least_14 ?_
    rw [if_neg c7] at hQ
    exact loop 511 1 (by omega) (by omega) hQ
  · refine g_bipush (by decide) dX4_least_10 ?_
    refine g_ireturn rfl dX4_least_12 ?_
    rw [if_pos c7] at hQ
    exact hQ
def fpS (n g : Nat) : Nat := (2 ^ (g + 1) - 1) * 2 ^ (n - (g + 1))
set_option maxRecDepth 100000 in
theorem fpS_ok : ∀ n, n < 10 → ∀ g, g < 7 → g + 1 ≤ n → fpS n g < 2 ^ n ∧ popN (fpS n g) = g + 1 := by decide +kernel
def fitB (M : Mem) (n : Nat) (v : Int32) : Bool := decide (cnOn (onX (curX M n (fpS (rowX M n).length (mi M 22 7).toNat))) (rowX M n) (rowX M n).length = (rowX M n).length) && decide (zI (newt (curX M n (fpS (rowX M n).length (mi M 22 7).toNat)) 0) = v)
theorem ev_X4_fits {M : Mem} (hw : WX M) (s v : Int32) : Ev yX4_fits cX4_fits 4 (some .int) 4 [.ref 0, .int s, .int v] M (fun r M1 => some (.int (if okS s ∧ okN v then (if rofX M s = 0 then bI (fitB M s.toInt.toNat v) else rofX M s) else zI (-2))) = r ∧ Sam M M1) := by
  refine Ev.of (by decide +kernel) (Nat.le_of_ble_eq_true rfl) (fun Q hQ => ?_)
  have hg := hw.dgb
  refine g_iload_n rfl dX4_fits_0 ?_
  refine gi_X4_83 (ev_X4_isStore s M) rfl rfl ⟨Nat.le_of_ble_eq_true rfl, Nat.le_of_ble_eq_true rfl, Nat.le_of_ble_eq_true rfl, Nat.le_of_ble_eq_true rfl⟩ (Nat.le_of_ble_eq_true rfl) dX4_fits_1 (fun r1 M1 hq1 => ?_)
  obtain ⟨rfl, rfl⟩ := hq1
  refine g_if_eq (tgt := 14) dX4_fits_4 (by decide) (fun c4 => ?_) (fun c4 => ?_)
  · have ck : ¬ (okS s ∧ okN v) := by
      first
      | (rw [bI_d0] at c4
         exact fun q => c4 q.1)
      | (rw [bI_d0] at c11
         exact fun q => c11 q.2)
    rw [if_neg ck] at hQ
    refine g_bipush (by decide) dX4_fits_14 ?_
    refine g_ireturn rfl dX4_fits_16 ?_
    exact hQ _ _ ⟨rfl, Sam.r M⟩
  · refine g_iload_n rfl dX4_fits_7 ?_
    refine gi_X4_80 (ev_X4_isNumber v M) rfl rfl ⟨Nat.le_of_ble_eq_true rfl, Nat.le_of_ble_eq_true rfl, Nat.le_of_ble_eq_true rfl, Nat.le_of_ble_eq_true rfl⟩ (Nat.le_of_ble_eq_true rfl) dX4_fits_8 (fun r8 M8 hq8 => ?_)
    obtain ⟨rfl, rfl⟩ := hq8
    refine g_if_ne (tgt := 17) dX4_fits_11 (by decide) (fun c11 => ?_) (fun c11 => ?_)
    · rw [bI_dn] at c4 c11
      rw [if_pos ⟨c4, c11⟩] at hQ
      refine g_aload_n rfl dX4_fits_17 ?_
      refine g_iload_n rfl dX4_fits_18 ?_
      refine gi_X4_134 (by decide) rfl (ev_X4_refusalOfFetch hw s) rfl rfl ⟨Nat.le_of_ble_eq_true rfl, Nat.le_of_ble_eq_true rfl, Nat.le_of_ble_eq_true rfl, Nat.le_of_ble_eq_true rfl⟩ (Nat.le_of_ble_eq_true rfl) dX4_fits_19 (fun r19 M19 hq19 => ?_)
      obtain ⟨rfl, rfl⟩ := hq19
      refine g_istore_n (L2 := [(0, _), (1, _), (2, _), (3, _)]) (by decide) rfl dX4_fits_22 ?_
      refine g_iload_n rfl dX4_fits_23 ?_
      refine g_if_eq (tgt := 29) dX4_fits_24 (by decide) (fun c24 => ?_) (fun c24 => ?_)
      · rw [if_pos c24] at hQ
        obtain ⟨h1, h2, h3⟩ := rofX_0 c24
        obtain ⟨n, hn1, hn2, rfl⟩ := okS_n h1
        rw [tnN (by omega)] at hQ h3
        have hlen := rowX_len M n
        have hl9 : (rowX M n).length ≤ 9 := by rw [hlen]; exact Nat.le_trans (cnt_le _ _) (by omega)
        have hok := rowX_ok M hn2
        obtain ⟨hf1, hf2⟩ := fpS_ok (rowX M n).length (by omega) (mi M 22 7).toNat (by omega) (by omega)
        have h512 : 2 ^ (rowX M n).length ≤ 2 ^ 9 := Nat.pow_le_pow_right (by decide) hl9
        have hlf := lenF_pop (rowX M n).length (by omega) (fpS (rowX M n).length (mi M 22 7).toNat) (by omega) hf1
        have hpk := pkS_ok hok (rowX M n).length (fpS (rowX M n).length (mi M 22 7).toNat) (rowX M n).length (Nat.le_refl _)
        have hlen7 : (curX M n (fpS (rowX M n).length (mi M 22 7).toNat)).length ≤ 7 := by
          unfold curX
          rw [layP_len hpk, pkS_len]
          omega
        have hcle := cnOn_le (onX (curX M n (fpS (rowX M n).length (mi M 22 7).toNat))) (rowX M n) (rowX M n).length
        have hnb := newt_bd (curX M n (fpS (rowX M n).length (mi M 22 7).toNat)) 0
        refine g_aload_n rfl dX4_fits_29 ?_
        refine g_iload_n rfl dX4_fits_30 ?_
        refine gi_X4_137 (by decide) rfl (ev_X4_hearStores hw (s := n) hn2) rfl rfl ⟨Nat.le_of_ble_eq_true rfl, Nat.le_of_ble_eq_true rfl, Nat.le_of_ble_eq_true rfl, Nat.le_of_ble_eq_true rfl⟩ (Nat.le_of_ble_eq_true rfl) dX4_fits_31 (fun r31 M31 hq31 => ?_)
        obtain ⟨rfl, hs1, hr1⟩ := hq31
        have hr1 : RowIs M31 (rowX M n) := hr1
        have e227 : M31 22 7 = zI ((mi M 22 7).toNat : Int) := by
          rw [hs1 22 (Or.inl (by decide)), ← mi_z M 22 7]
          congr 1
          omega
        refine g_aload_n rfl dX4_fits_34 ?_
        refine gf_X4_39 (by decide) rfl rfl dX4_fits_35 ?_
        refine g_aload_n rfl dX4_fits_38 ?_
        refine gf_X4_32 (by decide) rfl rfl dX4_fits_39 ?_
        refine g_aload_n rfl dX4_fits_42 ?_
        refine gi_X4_174 (by decide) rfl (ev_X4_firstPicks (n := (rowX M n).length) (g := (mi M 22 7).toNat) hr1.1 e227 (by omega) (by omega) hl9) rfl rfl ⟨Nat.le_of_ble_eq_true rfl, Nat.le_of_ble_eq_true rfl, Nat.le_of_ble_eq_true rfl, Nat.le_of_ble_eq_true rfl⟩ (Nat.le_of_ble_eq_true rfl) dX4_fits_43 (fun r43 M43 hq43 => ?_)
        obtain ⟨rfl, rfl⟩ := hq43
        refine gi_X4_177 (by decide) rfl (ev_X0_layThrough hr1 hl9 hok (picks := fpS (rowX M n).length (mi M 22 7).toNat) (by omega) (by omega)) rfl rfl ⟨Nat.le_of_ble_eq_true rfl, Nat.le_of_ble_eq_true rfl, Nat.le_of_ble_eq_true rfl, Nat.le_of_ble_eq_true rfl⟩ (Nat.le_of_ble_eq_true rfl) dX4_fits_46 (fun r46 M46 hq46 => ?_)
        obtain ⟨rfl, hs2, hc2⟩ := hq46
        have hr2 := hs2.row hr1
        have hc2 : CurIs M46 (curX M n (fpS (rowX M n).length (mi M 22 7).toNat)) := hc2
        have hco : curOk (curX M n (fpS (rowX M n).length (mi M 22 7).toNat)) := layP_ok hpk
        refine g_aload_n rfl dX4_fits_49 ?_
        refine gf_X4_32 (by decide) rfl rfl dX4_fits_50 ?_
        refine g_aload_n rfl dX4_fits_53 ?_
        refine gf_X4_39 (by decide) rfl rfl dX4_fits_54 ?_
        refine gi_X4_181 (by decide) rfl (ev_X2_countOn hr2 hl9 hok hc2 hco hlen7) rfl rfl ⟨Nat.le_of_ble_eq_true rfl, Nat.le_of_ble_eq_true rfl, Nat.le_of_ble_eq_true rfl, Nat.le_of_ble_eq_true rfl⟩ (Nat.le_of_ble_eq_true rfl) dX4_fits_57 (fun r57 M57 hq57 => ?_)
        obtain ⟨rfl, rfl⟩ := hq57
        refine g_aload_n rfl dX4_fits_60 ?_
        refine gf_X4_32 (by decide) rfl rfl dX4_fits_61 ?_
        refine gf_X4_140 (by decide) rfl dX4_fits_64 ?_
        rw [hr2.1]
        refine g_icmp_ne (tgt := 86) dX4_fits_67 (by decide) (fun c67 => ?_) (fun c67 => ?_)
        · refine g_iconst dX4_fits_86 ?_
          refine g_ireturn rfl dX4_fits_87 ?_
          rw [zI_eqz (by omega) (by omega) (by omega) (by omega)] at c67
          refine hQ _ _ ⟨?_, hs1.t hs2.sam⟩
          rw [fitB, decide_eq_false (by omega), Bool.false_and]
          rfl
        · refine g_aload_n rfl dX4_fits_70 ?_
          refine gf_X4_39 (by decide) rfl rfl dX4_fits_71 ?_
          refine g_iconst dX4_fits_74 ?_
          refine gi_X4_153 (by decide) rfl (ev_X0_at (x := 0) hc2 hco hlen7 (by decide) (by decide)) rfl rfl ⟨Nat.le_of_ble_eq_true rfl, Nat.le_of_ble_eq_true rfl, Nat.le_of_ble_eq_true rfl, Nat.le_of_ble_eq_true rfl⟩ (Nat.le_of_ble_eq_true rfl) dX4_fits_75 (fun r75 M75 hq75 => ?_)
          obtain ⟨rfl, rfl⟩ := hq75
          refine g_iload_n rfl dX4_fits_78 ?_
          refine g_icmp_ne (tgt := 86) dX4_fits_79 (by decide) (fun c79 => ?_) (fun c79 => ?_)
          · refine g_iconst dX4_fits_86 ?_
            refine g_ireturn rfl dX4_fits_87 ?_
            refine hQ _ _ ⟨?_, hs1.t hs2.sam⟩
            rw [fitB, decide_eq_false c79, Bool.and_false]
            rfl
          · refine g_iconst dX4_fits_82 ?_
            refine g_goto (tgt := 87) dX4_fits_83 (by decide) ?_
            refine g_ireturn rfl dX4_fits_87 ?_
            rw [zI_eqz (by omega) (by omega) (by omega) (by omega)] at c67
            refine hQ _ _ ⟨?_, hs1.t hs2.sam⟩
            rw [fitB, decide_eq_true (by omega), decide_eq_true c79]
            rfl
      · refine g_iload_n rfl dX4_fits_27 ?_
        refine g_ireturn rfl dX4_fits_28 ?_
        rw [if_neg c24] at hQ
        exact hQ _ _ ⟨rfl, Sam.r M⟩
    · have ck : ¬ (okS s ∧ okN v) := by
        first
        | (rw [bI_d0] at c4
           exact fun q => c4 q.1)
        | (rw [bI_d0] at c11
           exact fun q => c11 q.2)
      rw [if_neg ck] at hQ
      refine g_bipush (by decide) dX4_fits_14 ?_
      refine g_ireturn rfl dX4_fits_16 ?_
      exact hQ _ _ ⟨rfl, Sam.r M⟩
end
section
/-! the reference: its small checks and reckonings -/
theorem gz_X5_88 : Cond.constantLong RX5 88 (zL (3)) ∈ tb := gl_X5_88
theorem gz_X5_61 : Cond.constantLong RX5 61 (zL (96)) ∈ tb := gl_X5_61
theorem gz_X5_51 : Cond.constantLong RX5 51 (zL (9)) ∈ tb := gl_X5_51
theorem gz_X5_103 : Cond.constantLong RX5 103 (zL (2)) ∈ tb := gl_X5_103
theorem gz_X5_105 : Cond.constantLong RX5 105 (zL (1103515245)) ∈ tb := gl_X5_105
theorem gz_X5_107 : Cond.constantLong RX5 107 (zL (12345)) ∈ tb := gl_X5_107
theorem gz_X5_109 : Cond.constantLong RX5 109 (zL (2147483648)) ∈ tb := gl_X5_109
theorem gz_X5_111 : Cond.constantLong RX5 111 (zL (256)) ∈ tb := gl_X5_111
theorem gz_X5_113 : Cond.constantLong RX5 113 (zL (97)) ∈ tb := gl_X5_113
theorem gz_X5_129 : Cond.constantLong RX5 129 (zL (4)) ∈ tb := gl_X5_129
theorem gz_X5_166 : Cond.constantLong RX5 166 (zL (-3)) ∈ tb := gl_X5_166
theorem gz_X5_160 : Cond.constantLong RX5 160 (zL (1022)) ∈ tb := gl_X5_160
theorem gz_X5_171 : Cond.constantLong RX5 171 (zL (-2)) ∈ tb := gl_X5_171
theorem gz_X5_173 : Cond.constantLong RX5 173 (zL (-1)) ∈ tb := gl_X5_173
theorem lgc_n {a b : Int} (h1 : -10000000000 ≤ a) (h2 : a < 10000000000) (h3 : -10000000000 ≤ b) (h4 : b < 10000000000) : (lg_cmp (zL a) (zL b) < 0 ↔ a < b) ∧ (0 < lg_cmp (zL a) (zL b) ↔ b < a) := by
  have hlt : zL b < zL a ↔ b < a := by rw [Int64.lt_iff_toInt_lt, zL_toInt (by omega) (by omega), zL_toInt (by omega) (by omega)]
  have heq : zL a = zL b ↔ a = b := by rw [← Int64.toInt_inj, zL_toInt (by omega) (by omega), zL_toInt (by omega) (by omega)]
  unfold lg_cmp
  by_cases c1 : b < a
  · rw [if_pos (hlt.mpr c1)]
    exact ⟨⟨fun q => absurd q (by decide), fun q => by omega⟩, fun _ => c1, fun _ => by decide⟩
  · rw [if_neg (fun q => c1 (hlt.mp q))]
    by_cases c2 : a = b
    · rw [if_pos (heq.mpr c2)]
      exact ⟨⟨fun q => absurd q (by decide), fun q => by omega⟩, fun q => absurd q (by decide), fun q => absurd q c1⟩
    · rw [if_neg (fun q => c2 (heq.mp q))]
      exact ⟨⟨fun q => by omega, fun q => by decide⟩, fun q => absurd q (by decide), fun q => absurd q c1⟩
theorem ev_X5_in {v lo hi : Int} (h1 : -10000000000 ≤ v) (h2 : v < 10000000000) (h3 : -10000000000 ≤ lo) (h4 : lo < 10000000000) (h5 : -10000000000 ≤ hi) (h6 : hi < 10000000000) (M : Mem) : EvF yX5_in cX5_in 6 (some .boolean) 0 [.long (zL v), .long (zL lo), .long (zL hi)] M (some (.int (bI (decide (lo ≤ v ∧ v ≤ hi))))) M := by
  refine EvF.of (by decide +kernel) (Nat.le_of_ble_eq_true rfl) (fun Q hQ => ?_)
  have e1 := lgc_n h1 h2 h3 h4
  have e2 := lgc_n h1 h2 h5 h6
  refine g_lload_n rfl dX5_in_0 ?_
  refine g_lload_n rfl dX5_in_1 ?_
  refine g_lcmp dX5_in_2 ?_
  refine g_if_lt (tgt := 17) dX5_in_3 (by decide) (fun c3 => ?_) (fun c3 => ?_)
  · refine g_iconst dX5_in_17 ?_
    refine g_zreturn rfl rfl dX5_in_18 ?_
    rw [e1.1] at c3
    rw [bI_f (decide_eq_false (by omega))] at hQ
    exact hQ
  · refine g_lload_n rfl dX5_in_6 ?_
    refine g_lload rfl dX5_in_7 ?_
    refine g_lcmp dX5_in_9 ?_
    refine g_if_gt (tgt := 17) dX5_in_10 (by decide) (fun c10 => ?_) (fun c10 => ?_)
    · refine g_iconst dX5_in_17 ?_
      refine g_zreturn rfl rfl dX5_in_18 ?_
      rw [e2.2] at c10
      rw [bI_f (decide_eq_false (by omega))] at hQ
      exact hQ
    · refine g_iconst dX5_in_13 ?_
      refine g_goto (tgt := 18) dX5_in_14 (by decide) ?_
      refine g_zreturn rfl rfl dX5_in_18 ?_
      rw [e1.1] at c3
      rw [e2.2] at c10
      rw [bI_t (decide_eq_true (by omega))] at hQ
      exact hQ
theorem ev_X5_mod {z : Int} (h1 : -2147483648 ≤ z) (h2 : z < 2147483648) (M : Mem) : EvF yX5_mod cX5_mod 2 (some .int) 0 [.int (zI z)] M (some (.int (zI (z % 97)))) M := by
  refine EvF.of (by decide +kernel) (Nat.le_of_ble_eq_true rfl) (fun Q hQ => ?_)
  have ht : z.tmod 97 = z % 97 ∧ (0 ≤ z ∨ z % 97 = 0) ∨ z.tmod 97 = z % 97 - 97 ∧ 0 < z % 97 := by
    rcases Int.le_total 0 z with h | h
    · exact Or.inl ⟨Int.tmod_eq_emod_of_nonneg h, Or.inl h⟩
    · have e : z.tmod 97 = -((-z).tmod 97) := by rw [Int.neg_tmod, Int.neg_neg]
      rw [e, Int.tmod_eq_emod_of_nonneg (by omega)]
      omega
  have hb : -97 < z.tmod 97 ∧ z.tmod 97 < 97 := by
    rcases ht with e | e <;> omega
  refine g_iload_n rfl dX5_mod_0 ?_
  refine g_bipush (by decide) dX5_mod_1 ?_
  refine g_irem (by decide) dX5_mod_3 ?_
  rw [zI_rem h1 h2 (by decide) (by decide)]
  refine g_istore_n (L2 := [(0, _), (1, _)]) (by decide) rfl dX5_mod_4 ?_
  refine g_iload_n rfl dX5_mod_5 ?_
  refine g_if_ge (tgt := 16) dX5_mod_6 (by decide) (fun c6 => ?_) (fun c6 => ?_)
  · refine g_iload_n rfl dX5_mod_16 ?_
    refine g_ireturn rfl dX5_mod_17 ?_
    simp (disch := omega) only [i_le, zI_toInt, i_0] at c6
    rw [show z.tmod 97 = z % 97 by omega]
    exact hQ
  · refine g_iload_n rfl dX5_mod_9 ?_
    refine g_bipush (by decide) dX5_mod_10 ?_
    refine g_iadd dX5_mod_12 ?_
    refine g_goto (tgt := 17) dX5_mod_13 (by decide) ?_
    refine g_ireturn rfl dX5_mod_17 ?_
    simp (disch := omega) only [i_le, zI_toInt, i_0] at c6
    rw [zI_add, show z.tmod 97 + 97 = z % 97 by omega]
    exact hQ
/-- the least inverse -/
def ivS (v : Nat) : Nat := (fstF (fun r => decide (r * v % 97 = 1)) 96 1).getD 0
theorem iv_all : ∀ v, v < 97 → 1 ≤ v → 1 ≤ ivS v ∧ ivS v < 97 ∧ ivS v * v % 97 = 1 := by decide +kernel
theorem iv_is : ∀ v, v < 97 → 1 ≤ v → (fstF (fun r => decide (r * v % 97 = 1)) 96 1).isSome = true := by decide +kernel
theorem ev_X5_inverse {v : Nat} (h1 : 1 ≤ v) (h2 : v < 97) (M : Mem) : EvF yX5_inverse cX5_inverse 2 (some .int) 0 [.int (zI v)] M (some (.int (zI (ivS v : Nat)))) M := by
  refine EvF.of (by decide +kernel) (Nat.le_of_ble_eq_true rfl) (fun Q hQ => ?_)
  have loop : ∀ (d r : Nat), d + r = 97 → (fstF (fun r => decide (r * v % 97 = 1)) d r).isSome = true → Q (some (.int (zI ((fstF (fun r => decide (r * v % 97 = 1)) d r).getD 0 : Nat)))) M → G yX5_inverse.cls cX5_inverse 2 (some .int) (gE 0 Q) 2 [(0, .int (zI v)), (1, .int (zI r))] [] M := by
    intro d
    induction d with
    | zero =>
      intro r hr hs
      cases hs
    | succ d ih =>
      intro r hr hs hQ
      have hb := Nat.mul_le_mul (show r ≤ 97 by omega) (show v ≤ 97 by omega)
      rw [fstF] at hs hQ
      refine g_iload_n rfl dX5_inverse_2 ?_
      refine g_iload_n rfl dX5_inverse_3 ?_
      refine g_imul dX5_inverse_4 ?_
      refine g_bipush (by decide) dX5_inverse_5 ?_
      refine g_irem (by decide) dX5_inverse_7 ?_
      rw [zI_mul, ← Int.natCast_mul, zI_remN (by omega) (by omega) (by decide) (by decide)]
      refine g_iconst dX5_inverse_8 ?_
      refine g_icmp_eq (tgt := 18) dX5_inverse_9 (by decide) (fun c9 => ?_) (fun c9 => ?_)
      · refine g_iload_n rfl dX5_inverse_18 ?_
        refine g_ireturn rfl dX5_inverse_19 ?_
        rw [zI_eqz (by omega) (by omega) (by decide) (by decide)] at c9
        rw [if_pos (by simp; omega)] at hQ
        exact hQ
      · refine g_iinc (L2 := [(0, _), (1, _)]) rfl (by decide) rfl dX5_inverse_12 ?_
        refine g_goto (tgt := 2) dX5_inverse_15 (by decide) ?_
        rw [zI_eqz (by omega) (by omega) (by decide) (by decide)] at c9
        rw [if_neg (by simp; omega)] at hQ hs
        rw [zI_add]
        exact ih (r + 1) (by omega) hs hQ
  refine g_iconst dX5_inverse_0 ?_
  refine g_istore_n (L2 := [(0, _), (1, _)]) (by decide) rfl dX5_inverse_1 ?_
  exact loop 96 1 (by omega) (iv_is v h2 h1) hQ
theorem ev_X5_size {M : Mem} {m : Nat} (h1 : 1 ≤ m) (h2 : m ≤ 3) (hm : M 31 1 = zI m) : EvF yX5_size cX5_size 1 (some .int) 0 [.ref 31] M (some (.int (zI (2 ^ m)))) M := by
  refine EvF.of (by decide +kernel) (Nat.le_of_ble_eq_true rfl) (fun Q hQ => ?_)
  have h3 : (1 : Int) * 2 ^ m < 2147483648 := by
    rcases (by omega : m = 1 ∨ m = 2 ∨ m = 3) with rfl | rfl | rfl <;> decide
  refine g_iconst dX5_size_0 ?_
  refine g_aload_n rfl dX5_size_1 ?_
  refine gf_X5_7 (by decide) rfl dX5_size_2 ?_
  refine g_ishl dX5_size_5 ?_
  refine g_ireturn rfl dX5_size_6 ?_
  rw [hm, zI_shl (by decide) (by omega) h3, Int.one_mul]
  exact hQ
theorem ev_X5_degree {M : Mem} {m t : Int} (hm : M 31 1 = zI m) (ht : M 31 8 = zI t) : EvF yX5_degree cX5_degree 1 (some .int) 0 [.ref 31] M (some (.int (zI (m * t)))) M := by
  refine EvF.of (by decide +kernel) (Nat.le_of_ble_eq_true rfl) (fun Q hQ => ?_)
  refine g_aload_n rfl dX5_degree_0 ?_
  refine gf_X5_7 (by decide) rfl dX5_degree_1 ?_
  refine g_aload_n rfl dX5_degree_4 ?_
  refine gf_X5_48 (by decide) rfl dX5_degree_5 ?_
  refine g_imul dX5_degree_8 ?_
  refine g_ireturn rfl dX5_degree_9 ?_
  rw [hm, ht, zI_mul]
  exact hQ
theorem ev_X5_isStore (j : Int32) (M : Mem) : EvF yX5_isStore cX5_isStore 1 (some .boolean) 1 [.int j] M (some (.int (bI (decide (okS j))))) M := by
  refine EvF.of (by decide +kernel) (Nat.le_of_ble_eq_true rfl) (fun Q hQ => ?_)
  have hj := i_bd j
  have ej : j.toInt64 = zL j.toInt := by rw [← zI_l hj.1 hj.2, zI_of]
  refine g_iload_n rfl dX5_isStore_0 ?_
  refine g_i2l dX5_isStore_1 ?_
  rw [ej]
  refine g_lconst (v := zL 1) (by decide) dX5_isStore_2 ?_
  refine g_ldc2 gz_X5_51 dX5_isStore_3 ?_
  refine gi_X5_53 (ev_X5_in (v := j.toInt) (lo := 1) (hi := 9) (by omega) (by omega) (by decide) (by decide) (by decide) (by decide) M) rfl rfl ⟨Nat.le_of_ble_eq_true rfl, Nat.le_of_ble_eq_true rfl, Nat.le_of_ble_eq_true rfl, Nat.le_of_ble_eq_true rfl⟩ (Nat.le_of_ble_eq_true rfl) dX5_isStore_6 (fun r6 M6 hq6 => ?_)
  obtain ⟨rfl, rfl⟩ := hq6
  refine g_zreturn rfl (bI_nar _) dX5_isStore_9 ?_
  exact hQ
theorem ev_X5_isNumber (j : Int32) (M : Mem) : EvF yX5_isNumber cX5_isNumber 1 (some .boolean) 1 [.int j] M (some (.int (bI (decide (okN j))))) M := by
  refine EvF.of (by decide +kernel) (Nat.le_of_ble_eq_true rfl) (fun Q hQ => ?_)
  have hj := i_bd j
  have ej : j.toInt64 = zL j.toInt := by rw [← zI_l hj.1 hj.2, zI_of]
  have e : decide (0 ≤ j.toInt ∧ j.toInt ≤ 96) = decide (okN j) := decide_eq_decide.mpr ⟨fun q => ⟨q.1, by omega⟩, fun q => ⟨q.1, by omega⟩⟩
  refine g_iload_n rfl dX5_isNumber_0 ?_
  refine g_i2l dX5_isNumber_1 ?_
  rw [ej]
  refine g_lconst (v := zL 0) (by decide) dX5_isNumber_2 ?_
  refine g_ldc2 gz_X5_61 dX5_isNumber_3 ?_
  refine gi_X5_53 (ev_X5_in (v := j.toInt) (lo := 0) (hi := 96) (by omega) (by omega) (by decide) (by decide) (by decide) (by decide) M) rfl rfl ⟨Nat.le_of_ble_eq_true rfl, Nat.le_of_ble_eq_true rfl, Nat.le_of_ble_eq_true rfl, Nat.le_of_ble_eq_true rfl⟩ (Nat.le_of_ble_eq_true rfl) dX5_isNumber_6 (fun r6 M6 hq6 => ?_)
  obtain ⟨rfl, rfl⟩ := hq6
  refine g_zreturn rfl (bI_nar _) dX5_isNumber_9 ?_
  rw [e]
  exact hQ
theorem ev_X5_isRecord {M : Mem} (hw : WX M) (hm : M 31 1 = zI (xm M)) (i : Int32) : EvF yX5_isRecord cX5_isRecord 2 (some .boolean) 1 [.ref 31, .int i] M (some (.int (bI (decide (okR M i))))) M := by
  refine EvF.of (by decide +kernel) (Nat.le_of_ble_eq_true rfl) (fun Q hQ => ?_)
  have hj := i_bd i
  have ej : i.toInt64 = zL i.toInt := by rw [← zI_l hj.1 hj.2, zI_of]
  obtain ⟨hm1, hm2, -, -⟩ := hw.m
  have h8 := p2_8 hm1 hm2
  have hz := p2_z (xm M)
  have e : decide (0 ≤ i.toInt ∧ i.toInt ≤ 2 ^ xm M - 1) = decide (okR M i) := decide_eq_decide.mpr ⟨fun q => ⟨q.1, by omega⟩, fun q => ⟨q.1, by omega⟩⟩
  refine g_iload_n rfl dX5_isRecord_0 ?_
  refine g_i2l dX5_isRecord_1 ?_
  rw [ej]
  refine g_lconst (v := zL 0) (by decide) dX5_isRecord_2 ?_
  refine g_aload_n rfl dX5_isRecord_3 ?_
  refine gi_X5_57 (by decide) rfl (ev_X5_size hm1 hm2 hm) rfl rfl ⟨Nat.le_of_ble_eq_true rfl, Nat.le_of_ble_eq_true rfl, Nat.le_of_ble_eq_true rfl, Nat.le_of_ble_eq_true rfl⟩ (Nat.le_of_ble_eq_true rfl) dX5_isRecord_4 (fun r4 M4 hq4 => ?_)
  obtain ⟨rfl, rfl⟩ := hq4
  refine g_iconst dX5_isRecord_7 ?_
  refine g_isub dX5_isRecord_8 ?_
  refine g_i2l dX5_isRecord_9 ?_
  rw [zI_sub, zI_l (by omega) (by omega)]
  refine gi_X5_53 (ev_X5_in (v := i.toInt) (lo := 0) (hi := 2 ^ xm M - 1) (by omega) (by omega) (by decide) (by decide) (by omega) (by omega) M) rfl rfl ⟨Nat.le_of_ble_eq_true rfl, Nat.le_of_ble_eq_true rfl, Nat.le_of_ble_eq_true rfl, Nat.le_of_ble_eq_true rfl⟩ (Nat.le_of_ble_eq_true rfl) dX5_isRecord_10 (fun r10 M10 hq10 => ?_)
  obtain ⟨rfl, rfl⟩ := hq10
  refine g_zreturn rfl (bI_nar _) dX5_isRecord_13 ?_
  rw [e]
  exact hQ
theorem ev_X5_next {z : Int} (h : 0 ≤ z) (h2 : z < 2147483648) (M : Mem) : EvF yX5_next cX5_next 2 (some .long) 0 [.long (zL z)] M (some (.long (zL (lcg z)))) M := by
  refine EvF.of (by decide +kernel) (Nat.le_of_ble_eq_true rfl) (fun Q hQ => ?_)
  rw [← zL_lcg h h2] at hQ
  refine g_ldc2 gz_X5_105 dX5_next_0 ?_
  refine g_lload_n rfl dX5_next_3 ?_
  refine g_lmul dX5_next_4 ?_
  refine g_ldc2 gz_X5_107 dX5_next_5 ?_
  refine g_ladd dX5_next_8 ?_
  refine g_ldc2 gz_X5_109 dX5_next_9 ?_
  refine g_lrem (by decide) dX5_next_12 ?_
  refine g_lreturn rfl dX5_next_13 ?_
  exact hQ
theorem ev_X5_lotOf {z : Int} (h : 0 ≤ z) (h2 : z < 2147483648) (M : Mem) : EvF yX5_lotOf cX5_lotOf 2 (some .int) 0 [.long (zL z)] M (some (.int (zI (z / 256 % 97)))) M := by
  refine EvF.of (by decide +kernel) (Nat.le_of_ble_eq_true rfl) (fun Q hQ => ?_)
  rw [← zL_lot h h2] at hQ
  refine g_lload_n rfl dX5_lotOf_0 ?_
  refine g_ldc2 gz_X5_111 dX5_lotOf_1 ?_
  refine g_ldiv (by decide) dX5_lotOf_4 ?_
  refine g_ldc2 gz_X5_113 dX5_lotOf_5 ?_
  refine g_lrem (by decide) dX5_lotOf_8 ?_
  refine g_l2i dX5_lotOf_9 ?_
  refine g_ireturn rfl dX5_lotOf_10 ?_
  exact hQ
theorem ev_X5_isSet (s : Int32) (M : Mem) : EvF yX5_isSet cX5_isSet 1 (some .boolean) 1 [.int s] M (some (.int (bI (decide (2 ≤ s.toInt ∧ s.toInt ≤ 1022 ∧ s.toInt % 2 = 0))))) M := by
  refine EvF.of (by decide +kernel) (Nat.le_of_ble_eq_true rfl) (fun Q hQ => ?_)
  have hj := i_bd s
  have ej : s.toInt64 = zL s.toInt := by rw [← zI_l hj.1 hj.2, zI_of]
  refine g_iload_n rfl dX5_isSet_0 ?_
  refine g_i2l dX5_isSet_1 ?_
  rw [ej]
  refine g_ldc2 gz_X5_103 dX5_isSet_2 ?_
  refine g_ldc2 gz_X5_160 dX5_isSet_5 ?_
  refine gi_X5_53 (ev_X5_in (v := s.toInt) (lo := 2) (hi := 1022) (by omega) (by omega) (by decide) (by decide) (by decide) (by decide) M) rfl rfl ⟨Nat.le_of_ble_eq_true rfl, Nat.le_of_ble_eq_true rfl, Nat.le_of_ble_eq_true rfl, Nat.le_of_ble_eq_true rfl⟩ (Nat.le_of_ble_eq_true rfl) dX5_isSet_8 (fun r8 M8 hq8 => ?_)
  obtain ⟨rfl, rfl⟩ := hq8
  refine g_if_eq (tgt := 24) dX5_isSet_11 (by decide) (fun c11 => ?_) (fun c11 => ?_)
  · refine g_iconst dX5_isSet_24 ?_
    refine g_zreturn rfl rfl dX5_isSet_25 ?_
    rw [bI_d0] at c11
    rw [bI_f (decide_eq_false (by omega))] at hQ
    exact hQ
  · rw [bI_dn] at c11
    refine g_iload_n rfl dX5_isSet_14 ?_
    refine g_iconst dX5_isSet_15 ?_
    refine g_iand dX5_isSet_16 ?_
    rw [← zI_of s, zI_and1 (by omega) (by omega)]
    refine g_if_ne (tgt := 24) dX5_isSet_17 (by decide) (fun c17 => ?_) (fun c17 => ?_)
    · refine g_iconst dX5_isSet_24 ?_
      refine g_zreturn rfl rfl dX5_isSet_25 ?_
      rw [zI_zero, zI_eqz (by omega) (by omega) (by decide) (by decide)] at c17
      rw [bI_f (decide_eq_false (by omega))] at hQ
      exact hQ
    · refine g_iconst dX5_isSet_20 ?_
      refine g_goto (tgt := 25) dX5_isSet_21 (by decide) ?_
      refine g_zreturn rfl rfl dX5_isSet_25 ?_
      rw [zI_zero, zI_eqz (by omega) (by omega) (by decide) (by decide)] at c17
      rw [bI_t (decide_eq_true (by omega))] at hQ
      exact hQ
theorem ev_X5_isSum {M : Mem} (hw : WX M) (hm : M 31 1 = zI (xm M)) (s : Int32) : EvF yX5_isSum cX5_isSum 2 (some .boolean) 1 [.ref 31, .int s] M (some (.int (bI (decide (okB M s))))) M := by
  refine EvF.of (by decide +kernel) (Nat.le_of_ble_eq_true rfl) (fun Q hQ => ?_)
  have hj := i_bd s
  obtain ⟨hm1, hm2, -, -⟩ := hw.m
  have h8 := p2_8 hm1 hm2
  have hz := p2_z (xm M)
  have h2 : ∀ a : Int, 0 ≤ a → a < 2147483648 → (a / 2 ^ (2 ^ xm M) = 0 ↔ a < 2 ^ (2 ^ xm M)) ∧ 0 ≤ a / 2 ^ (2 ^ xm M) ∧ a / 2 ^ (2 ^ xm M) ≤ a := by
    rcases (by omega : xm M = 1 ∨ xm M = 2 ∨ xm M = 3) with e | e | e <;> rw [e] <;> intro a h1 h2 <;> simp <;> omega
  refine g_iload_n rfl dX5_isSum_0 ?_
  refine g_if_lt (tgt := 17) dX5_isSum_1 (by decide) (fun c1 => ?_) (fun c1 => ?_)
  · refine g_iconst dX5_isSum_17 ?_
    refine g_zreturn rfl rfl dX5_isSum_18 ?_
    simp (disch := omega) only [i_lt, zI_toInt, i_0] at c1
    rw [bI_f (decide_eq_false (fun q => by have := q.1; omega))] at hQ
    exact hQ
  · simp (disch := omega) only [i_lt, zI_toInt, i_0] at c1
    have h3 := h2 s.toInt (by omega) hj.2
    refine g_iload_n rfl dX5_isSum_4 ?_
    refine g_aload_n rfl dX5_isSum_5 ?_
    refine gi_X5_57 (by decide) rfl (ev_X5_size hm1 hm2 hm) rfl rfl ⟨Nat.le_of_ble_eq_true rfl, Nat.le_of_ble_eq_true rfl, Nat.le_of_ble_eq_true rfl, Nat.le_of_ble_eq_true rfl⟩ (Nat.le_of_ble_eq_true rfl) dX5_isSum_6 (fun r6 M6 hq6 => ?_)
    obtain ⟨rfl, rfl⟩ := hq6
    refine g_ishr dX5_isSum_9 ?_
    rw [← zI_of s, hz, zI_shr (by omega) (by omega) (by omega), zI_of]
    refine g_if_ne (tgt := 17) dX5_isSum_10 (by decide) (fun c10 => ?_) (fun c10 => ?_)
    · refine g_iconst dX5_isSum_17 ?_
      refine g_zreturn rfl rfl dX5_isSum_18 ?_
      rw [zI_zero, zI_eqz (by omega) (by omega) (by decide) (by decide)] at c10
      rw [bI_f (decide_eq_false (fun q => c10 (h3.1.mpr q.2)))] at hQ
      exact hQ
    · refine g_iconst dX5_isSum_13 ?_
      refine g_goto (tgt := 18) dX5_isSum_14 (by decide) ?_
      refine g_zreturn rfl rfl dX5_isSum_18 ?_
      rw [zI_zero, zI_eqz (by omega) (by omega) (by decide) (by decide)] at c10
      rw [bI_t (decide_eq_true ⟨by omega, h3.1.mp c10⟩)] at hQ
      exact hQ
end
section
/-! the reference: its state is the class's; sums, points, answers -/
def Sax (M M' : Mem) : Prop := ∀ a, a < 25 → a ≠ 2 → M' a = M a
theorem Sax.m {M M' : Mem} (h : Sax M M') {a : Nat} (h1 : a < 25) (h2 : a ≠ 2) (b : Nat) : mi M' a b = mi M a b := by unfold mi; rw [h a h1 h2]
theorem Sam.sax {M M' : Mem} (h : Sam M M') : Sax M M' := fun a h1 h2 => h a (Or.inl ⟨h1, h2⟩)
theorem WX.sax {M M' : Mem} (h : WX M) (hs : Sax M M') : WX M' := by
  have e : ∀ a b, a < 25 → a ≠ 2 → mi M' a b = mi M a b := fun a b h1 h2 => hs.m h1 h2 b
  unfold WX
  simp only [e 0 _ (by decide) (by decide), e 1 _ (by decide) (by decide), e 22 _ (by decide) (by decide), e 23 _ (by decide) (by decide), e 24 _ (by decide) (by decide)]
  refine ⟨h.1, h.2.1, fun j h1 h2 => ?_, fun j h1 h2 i hi => ?_, h.2.2.2.2⟩
  · rw [e (3 + j) _ (by omega) (by omega), e (3 + j) _ (by omega) (by omega)]
    exact h.st j h1 h2
  · rw [e (12 + j) _ (by omega) (by omega)]
    exact h.kp j h1 h2 i hi
theorem hc_sax {M M' : Mem} (hs : Sax M M') {j : Nat} (h2 : j < 10) : hc M' j = hc M j := by
  unfold hc
  rw [hs.m (by omega) (by omega)]
theorem ptX_sax {M M' : Mem} (hs : Sax M M') (j : Nat) : ptX M' j = ptX M j := by
  have e : mi M' 23 = mi M 23 := funext fun q => hs.m (by decide) (by decide) q
  funext k
  unfold ptX
  rw [hs.m (by decide) (by decide), hs.m (by decide) (by decide), e]
theorem vlS_sax {M M' : Mem} (hs : Sax M M') (j : Nat) : vlS M' j = vlS M j := by
  have e : mi M' 24 = mi M 24 := funext fun q => hs.m (by decide) (by decide) q
  unfold vlS
  rw [hs 22 (by decide) (by decide), hs.m (by decide) (by decide), e]
theorem xm_sax {M M' : Mem} (hs : Sax M M') : xm M' = xm M := by
  unfold xm
  rw [hs.m (by decide) (by decide)]
theorem ansX_sax {M M' : Mem} (hs : Sax M M') {j : Nat} (h2 : j < 10) : ansX M' j = ansX M j := by
  have e : mi M' (hc M j) = mi M (hc M j) := funext fun q => hs.m (by unfold hc; split <;> omega) (by unfold hc; split <;> omega) q
  unfold ansX
  rw [hc_sax hs h2, ptX_sax hs, vlS_sax hs, xm_sax hs, e, hs.m (by omega) (by omega)]
theorem tells_sax {M M' : Mem} (hs : Sax M M') {j : Nat} (h2 : j < 10) : tells M' j = tells M j := by
  unfold tells
  rw [hs.m (by omega) (by omega)]
theorem rowX_sax {M M' : Mem} (hs : Sax M M') {n : Nat} (h2 : n < 10) : rowX M' n = rowX M n := hearL_ext n (fun j _ hj => ⟨tells_sax hs (by omega), ansX_sax hs (by omega)⟩)
/-- the reference's state is the class's, as far as questions ask -/
def InvQ (M : Mem) : Prop :=
  M 31 1 = M 0 6 ∧ (∀ i, i < 8 → M 32 i = M 1 i) ∧ (∀ j, 1 ≤ j → j < 10 → M 33 j = M (3 + j) 1) ∧
  (∀ j, 1 ≤ j → j < 10 → (mi M (3 + j) 1 = 1 → M 34 j = M (3 + j) 2) ∧ (¬ mi M (3 + j) 1 = 1 → M (3 + j) 2 = zI 0)) ∧
  (∀ j, 1 ≤ j → j < 10 → mi M (3 + j) 1 = 2 → ∀ i, i < 8 → M 35 (8 * j + i) = M (12 + j) i) ∧
  M 31 6 = M 22 2 ∧ (∀ q, q < 6 → 0 ≤ mi M 36 q ∧ mi M 36 q < 97) ∧
  (mi M 22 2 = 1 → M 31 7 = M 22 4 ∧ M 31 8 = M 22 5 ∧ (∀ k e, k < xm M → e < (mi M 22 5).toNat → M 36 (2 * k + e) = M 23 (k * (mi M 22 5).toNat + e)) ∧ M 31 10 = M 22 3 ∧ (mi M 22 3 = 1 → ∀ e, e < (mi M 22 7).toNat → M 37 (e + 1) = M 24 e))
theorem InvQ.dg {M : Mem} (h : InvQ M) : M 31 1 = M 0 6 := h.1
theorem InvQ.num {M : Mem} (h : InvQ M) : ∀ i, i < 8 → M 32 i = M 1 i := h.2.1
theorem InvQ.kd {M : Mem} (h : InvQ M) : ∀ j, 1 ≤ j → j < 10 → M 33 j = M (3 + j) 1 := h.2.2.1
theorem InvQ.ly {M : Mem} (h : InvQ M) : ∀ j, 1 ≤ j → j < 10 → (mi M (3 + j) 1 = 1 → M 34 j = M (3 + j) 2) ∧ (¬ mi M (3 + j) 1 = 1 → M (3 + j) 2 = zI 0) := h.2.2.2.1
theorem InvQ.kp {M : Mem} (h : InvQ M) : ∀ j, 1 ≤ j → j < 10 → mi M (3 + j) 1 = 2 → ∀ i, i < 8 → M 35 (8 * j + i) = M (12 + j) i := h.2.2.2.2.1
theorem InvQ.as {M : Mem} (h : InvQ M) : M 31 6 = M 22 2 := h.2.2.2.2.2.1
theorem InvQ.lb {M : Mem} (h : InvQ M) : ∀ q, q < 6 → 0 ≤ mi M 36 q ∧ mi M 36 q < 97 := h.2.2.2.2.2.2.1
theorem InvQ.qs {M : Mem} (h : InvQ M) : mi M 22 2 = 1 → M 31 7 = M 22 4 ∧ M 31 8 = M 22 5 ∧ (∀ k e, k < xm M → e < (mi M 22 5).toNat → M 36 (2 * k + e) = M 23 (k * (mi M 22 5).toNat + e)) ∧ M 31 10 = M 22 3 ∧ (mi M 22 3 = 1 → ∀ e, e < (mi M 22 7).toNat → M 37 (e + 1) = M 24 e) := h.2.2.2.2.2.2.2
/-- but for what the reference reckons with nothing changed -/
def SamM (M M' : Mem) : Prop := ∀ a b, ¬ (39 ≤ a ∧ a ≤ 41 ∨ a = 31 ∧ (b = 0 ∨ b = 16)) → M' a b = M a b
theorem SamM.r (M : Mem) : SamM M M := fun _ _ _ => rfl
theorem SamM.t {M M1 M2 : Mem} (h : SamM M M1) (h2 : SamM M1 M2) : SamM M M2 := fun a b hab => (h2 a b hab).trans (h a b hab)
theorem SamM.ms {M M' : Mem} (h : SamM M M') {k j : Nat} (v : Int32) (hk : 39 ≤ k ∧ k ≤ 41 ∨ k = 31 ∧ (j = 0 ∨ j = 16)) : SamM M (mset M' k j v) := fun a b hab => by
  rw [mset_ne M' v (by omega), h a b hab]
theorem SamM.sax {M M' : Mem} (h : SamM M M') : Sax M M' := fun a h1 _ => funext fun b => h a b (by omega)
theorem SamM.at {M M' : Mem} (h : SamM M M') {a : Nat} (ha : a < 39) (h31 : a ≠ 31) : M' a = M a := funext fun b => h a b (by omega)
theorem InvQ.sam {M M' : Mem} (h : InvQ M) (hs : SamM M M') : InvQ M' := by
  have e : ∀ a b, a < 31 → M' a b = M a b := fun a b ha => hs a b (by omega)
  have em : ∀ a b, a < 31 → mi M' a b = mi M a b := fun a b ha => by unfold mi; rw [e a b ha]
  have ex := xm_sax hs.sax
  refine ⟨?_, fun i hi => ?_, fun j h1 h2 => ?_, fun j h1 h2 => ?_, fun j h1 h2 => ?_, ?_, fun q hq => ?_, ?_⟩
  · rw [hs 31 1 (by omega), e 0 6 (by decide)]
    exact h.dg
  · rw [hs 32 i (by omega), e 1 i (by decide)]
    exact h.num i hi
  · rw [hs 33 j (by omega), e (3 + j) 1 (by omega)]
    exact h.kd j h1 h2
  · rw [em (3 + j) 1 (by omega), hs 34 j (by omega), e (3 + j) 2 (by omega)]
    exact h.ly j h1 h2
  · rw [em (3 + j) 1 (by omega)]
    intro h3 i hi
    rw [hs 35 _ (by omega), e (12 + j) i (by omega)]
    exact h.kp j h1 h2 h3 i hi
  · rw [hs 31 6 (by omega), e 22 2 (by decide)]
    exact h.as
  · have := h.lb q hq
    unfold mi at this ⊢
    rw [hs 36 q (by omega)]
    exact this
  · rw [em 22 2 (by decide)]
    intro h1
    obtain ⟨q1, q2, q3, q4, q5⟩ := h.qs h1
    rw [hs 31 7 (by omega), hs 31 8 (by omega), hs 31 10 (by omega), e 22 4 (by decide), e 22 5 (by decide), e 22 3 (by decide), em 22 5 (by decide), em 22 3 (by decide), em 22 7 (by decide), ex]
    refine ⟨q1, q2, fun k e9 hk he => ?_, q4, fun h3 e9 he => ?_⟩
    · rw [hs 36 _ (by omega), e 23 _ (by decide)]
      exact q3 k e9 hk he
    · rw [hs 37 _ (by omega), e 24 _ (by decide)]
      exact q5 h3 e9 he
theorem ev_X5_copyOf {M : Mem} (hI : InvQ M) {j i : Nat} (h1 : 1 ≤ j) (h2 : j < 10) (hi : i < 8) : EvF yX5_copyOf cX5_copyOf 3 (some .int) 0 [.ref 31, .int (zI j), .int (zI i)] M (some (.int (M (hc M j) i))) M := by
  refine EvF.of (by decide +kernel) (Nat.le_of_ble_eq_true rfl) (fun Q hQ => ?_)
  have hk := hI.kd j h1 h2
  refine g_aload_n rfl dX5_copyOf_0 ?_
  refine gf_X5_17 (by decide) rfl rfl dX5_copyOf_1 ?_
  refine g_iload_n rfl dX5_copyOf_4 ?_
  refine g_iald (n := 10) (by decide) rfl rfl (zI_in (by omega) (by omega) (by decide)) dX5_copyOf_5 ?_
  rw [zI_clamp (by omega) (by omega), show ((j : Nat) : Int).toNat = j from rfl, hk]
  refine g_iconst dX5_copyOf_6 ?_
  refine g_icmp_ne (tgt := 24) dX5_copyOf_7 (by decide) (fun c7 => ?_) (fun c7 => ?_)
  · refine g_aload_n rfl dX5_copyOf_24 ?_
    refine gf_X5_13 (by decide) rfl rfl dX5_copyOf_25 ?_
    refine g_iload_n rfl dX5_copyOf_28 ?_
    refine g_iald (n := 8) (by decide) rfl rfl (zI_in (by omega) (by omega) (by decide)) dX5_copyOf_29 ?_
    rw [zI_clamp (by omega) (by omega), show ((i : Nat) : Int).toNat = i from rfl, hI.num i hi]
    refine g_ireturn rfl dX5_copyOf_30 ?_
    rw [eqz_mi (by decide) (by decide)] at c7
    rw [hc, if_neg c7] at hQ
    exact hQ
  · refine g_aload_n rfl dX5_copyOf_10 ?_
    refine gf_X5_23 (by decide) rfl rfl dX5_copyOf_11 ?_
    refine g_bipush (by decide) dX5_copyOf_14 ?_
    refine g_iload_n rfl dX5_copyOf_16 ?_
    refine g_imul dX5_copyOf_17 ?_
    refine g_iload_n rfl dX5_copyOf_18 ?_
    refine g_iadd dX5_copyOf_19 ?_
    rw [zI_mul, zI_add, show (8 : Int) * (j : Nat) + (i : Nat) = ((8 * j + i : Nat) : Int) by omega]
    refine g_iald (n := 80) (by decide) rfl rfl (zI_in (by omega) (by omega) (by decide)) dX5_copyOf_20 ?_
    rw [zI_clamp (by omega) (by omega), show ((8 * j + i : Nat) : Int).toNat = 8 * j + i from rfl]
    refine g_goto (tgt := 30) dX5_copyOf_21 (by decide) ?_
    refine g_ireturn rfl dX5_copyOf_30 ?_
    rw [eqz_mi (by decide) (by decide)] at c7
    rw [hc, if_pos c7] at hQ
    rw [hI.kp j h1 h2 c7 i hi]
    exact hQ
/-- the copy that the reference sums: 0 means the records -/
def cpM (M : Mem) (j : Nat) : Nat → Int := if j = 0 then mi M 1 else mi M (hc M j)
theorem cpM_bd {M : Mem} (hw : WX M) {j : Nat} (h2 : j < 10) : ∀ i, i < 8 → 0 ≤ cpM M j i ∧ cpM M j i < 97 := by
  intro i hi
  unfold cpM
  split
  · exact hw.num i hi
  · exact hw.hcb (by omega) h2 i hi
theorem ev_X5_sumOf {M : Mem} (hw : WX M) (hI : InvQ M) {j : Nat} (h2 : j < 10) {x0 x1 x2 : Int32} (hx : ∀ k, k < xm M → okN (pt3 x0 x1 x2 k)) : EvF yX5_sumOf cX5_sumOf 10 (some .int) 1 [.ref 31, .int (zI j), .int x0, .int x1, .int x2] M (some (.int (zI (sumW (cpM M j) (fun k => (pt3 x0 x1 x2 k).toInt) (xm M) (2 ^ xm M) % 97)))) M := by
  refine EvF.of (by decide +kernel) (Nat.le_of_ble_eq_true rfl) (fun Q hQ => ?_)
  obtain ⟨hm1, hm2, -, hm⟩ := hw.m
  have hdg : M 31 1 = zI (xm M) := hI.dg.trans hm
  have h8 := p2_8 hm1 hm2
  have hz := p2_z (xm M)
  have hcb := cpM_bd hw h2
  have inner : ∀ (d q : Nat), d + q = xm M → ∀ (i : Nat) (w pt : Int), i < 2 ^ xm M → 0 ≤ pt → pt < 97 → cgr pt (cpM M j i * prodW (fun k => (pt3 x0 x1 x2 k).toInt) i q) →
      (∀ pt' : Int, 0 ≤ pt' → pt' < 97 → cgr pt' (cpM M j i * prodW (fun k => (pt3 x0 x1 x2 k).toInt) i (xm M)) → G yX5_sumOf.cls cX5_sumOf 10 (some .int) (gE 1 Q) 110 [(0, .ref 31), (1, .int (zI j)), (2, .int x0), (3, .int x1), (4, .int x2), (5, .int (zI w)), (6, .int (zI i)), (7, .int (zI pt'))] [] M) →
      G yX5_sumOf.cls cX5_sumOf 10 (some .int) (gE 1 Q) 41 [(0, .ref 31), (1, .int (zI j)), (2, .int x0), (3, .int x1), (4, .int x2), (5, .int (zI w)), (6, .int (zI i)), (7, .int (zI pt)), (8, .int (zI q))] [] M := by
    intro d
    induction d with
    | zero =>
      intro q hq i w pt hi hp1 hp2 hp K
      refine g_iload rfl dX5_sumOf_41 ?_
      refine g_aload_n rfl dX5_sumOf_43 ?_
      refine gf_X5_7 (by decide) rfl dX5_sumOf_44 ?_
      rw [hdg]
      refine g_icmp_ge (tgt := 110) dX5_sumOf_47 (by decide) (fun c47 => ?_) (fun c47 => ?_)
      · refine g_locp [0, 1, 2, 3, 4, 5, 6, 7] rfl ?_
        obtain rfl : q = xm M := by omega
        exact K pt hp1 hp2 hp
      · exact n_lt_of c47 (by omega) (by omega) (by omega) (by omega) (by omega)
    | succ d ih =>
      intro q hq i w pt hi hp1 hp2 hp K
      have hxq := hx q (by omega)
      have hsh : zI (i : Int) >>> (zI (q : Int) &&& 31) &&& zI 1 = zI ((i : Int) / 2 ^ q % 2) := by
        have h4 : 0 ≤ (i : Int) / 2 ^ q := Int.ediv_nonneg (by omega) (by exact Int.le_of_lt (Int.pow_pos (by decide)))
        have h5 : (i : Int) / 2 ^ q ≤ i := Int.ediv_le_self _ (by omega)
        rw [zI_shr (by omega) (by omega) (by omega), zI_and1 h4 (by omega)]
      have tail : ∀ x, x = pt3 x0 x1 x2 q → G yX5_sumOf.cls cX5_sumOf 10 (some .int) (gE 1 Q) 71 [(0, .ref 31), (1, .int (zI j)), (2, .int x0), (3, .int x1), (4, .int x2), (5, .int (zI w)), (6, .int (zI i)), (7, .int (zI pt)), (8, .int (zI q))] [.int x] M := by
        intro x hxe
        subst hxe
        refine g_istore (L2 := [(0, _), (1, _), (2, _), (3, _), (4, _), (5, _), (6, _), (7, _), (8, _), (9, _)]) (by decide) rfl dX5_sumOf_71 ?_
        refine g_iload rfl dX5_sumOf_73 ?_
        refine g_iload rfl dX5_sumOf_75 ?_
        refine g_iload rfl dX5_sumOf_77 ?_
        refine g_ishr dX5_sumOf_79 ?_
        refine g_iconst dX5_sumOf_80 ?_
        refine g_iand dX5_sumOf_81 ?_
        rw [hsh]
        refine g_iconst dX5_sumOf_82 ?_
        refine g_icmp_ne (tgt := 91) dX5_sumOf_83 (by decide) (fun c83 => ?_) (fun c83 => ?_)
        · refine g_iconst dX5_sumOf_91 ?_
          refine g_iload rfl dX5_sumOf_92 ?_
          refine g_isub dX5_sumOf_94 ?_
          rw [← zI_of (pt3 x0 x1 x2 q), zI_sub]
          refine gi_X5_67 (ev_X5_mod (z := 1 - (pt3 x0 x1 x2 q).toInt) (by omega) (by omega) M) rfl rfl ⟨Nat.le_of_ble_eq_true rfl, Nat.le_of_ble_eq_true rfl, Nat.le_of_ble_eq_true rfl, Nat.le_of_ble_eq_true rfl⟩ (Nat.le_of_ble_eq_true rfl) dX5_sumOf_95 (fun r95 M95 hq95 => ?_)
          obtain ⟨rfl, rfl⟩ := hq95
          refine g_imul dX5_sumOf_98 ?_
          first
          | rw [zI_mul]
          | rw [← zI_of (pt3 x0 x1 x2 q), zI_mul]
          refine gi_X5_67 (ev_X5_mod (by first | exact Int.le_trans (by decide) (mul_bd hp1 hp2 (md_bd (1 - (pt3 x0 x1 x2 q).toInt)).1 (Int.lt_trans (md_bd _).2 (by decide))).1 | exact Int.le_trans (by decide) (mul_bd hp1 hp2 hxq.1 (Int.lt_trans hxq.2 (by decide))).1) (by first | exact Int.lt_trans (mul_bd hp1 hp2 (md_bd (1 - (pt3 x0 x1 x2 q).toInt)).1 (Int.lt_trans (md_bd _).2 (by decide))).2 (by decide) | exact Int.lt_trans (mul_bd hp1 hp2 hxq.1 (Int.lt_trans hxq.2 (by decide))).2 (by decide)) M) rfl rfl ⟨Nat.le_of_ble_eq_true rfl, Nat.le_of_ble_eq_true rfl, Nat.le_of_ble_eq_true rfl, Nat.le_of_ble_eq_true rfl⟩ (Nat.le_of_ble_eq_true rfl) dX5_sumOf_99 (fun r99 M99 hq99 => ?_)
          obtain ⟨rfl, rfl⟩ := hq99
          refine g_istore (L2 := [(0, _), (1, _), (2, _), (3, _), (4, _), (5, _), (6, _), (7, _), (8, _), (9, _)]) (by decide) rfl dX5_sumOf_102 ?_
          refine g_iinc (L2 := [(0, _), (1, _), (2, _), (3, _), (4, _), (5, _), (6, _), (7, _), (8, _), (9, _)]) rfl (by decide) rfl dX5_sumOf_104 ?_
          refine g_goto (tgt := 41) dX5_sumOf_107 (by decide) ?_
          refine g_locp [0, 1, 2, 3, 4, 5, 6, 7, 8] rfl ?_
          rw [zI_add]
          refine ih (q + 1) (by omega) i w _ hi (md_bd _).1 (md_bd _).2 ?_ K
          rw [zI_eqz (by omega) (by omega) (by omega) (by omega)] at c83
          rw [prodW, if_neg c83, ← Int.mul_assoc]
          exact cg_t (cg_m _) (cg_x hp (cg_m _))
        · refine g_iload rfl dX5_sumOf_86 ?_
          refine g_goto (tgt := 98) dX5_sumOf_88 (by decide) ?_
          refine g_imul dX5_sumOf_98 ?_
          first
          | rw [zI_mul]
          | rw [← zI_of (pt3 x0 x1 x2 q), zI_mul]
          refine gi_X5_67 (ev_X5_mod (by first | exact Int.le_trans (by decide) (mul_bd hp1 hp2 (md_bd (1 - (pt3 x0 x1 x2 q).toInt)).1 (Int.lt_trans (md_bd _).2 (by decide))).1 | exact Int.le_trans (by decide) (mul_bd hp1 hp2 hxq.1 (Int.lt_trans hxq.2 (by decide))).1) (by first | exact Int.lt_trans (mul_bd hp1 hp2 (md_bd (1 - (pt3 x0 x1 x2 q).toInt)).1 (Int.lt_trans (md_bd _).2 (by decide))).2 (by decide) | exact Int.lt_trans (mul_bd hp1 hp2 hxq.1 (Int.lt_trans hxq.2 (by decide))).2 (by decide)) M) rfl rfl ⟨Nat.le_of_ble_eq_true rfl, Nat.le_of_ble_eq_true rfl, Nat.le_of_ble_eq_true rfl, Nat.le_of_ble_eq_true rfl⟩ (Nat.le_of_ble_eq_true rfl) dX5_sumOf_99 (fun r99 M99 hq99 => ?_)
          obtain ⟨rfl, rfl⟩ := hq99
          refine g_istore (L2 := [(0, _), (1, _), (2, _), (3, _), (4, _), (5, _), (6, _), (7, _), (8, _), (9, _)]) (by decide) rfl dX5_sumOf_102 ?_
          refine g_iinc (L2 := [(0, _), (1, _), (2, _), (3, _), (4, _), (5, _), (6, _), (7, _), (8, _), (9, _)]) rfl (by decide) rfl dX5_sumOf_104 ?_
          refine g_goto (tgt := 41) dX5_sumOf_107 (by decide) ?_
          refine g_locp [0, 1, 2, 3, 4, 5, 6, 7, 8] rfl ?_
          rw [zI_add]
          refine ih (q + 1) (by omega) i w _ hi (md_bd _).1 (md_bd _).2 ?_ K
          rw [zI_eqz (by omega) (by omega) (by omega) (by omega)] at c83
          rw [prodW, if_pos c83, ← Int.mul_assoc]
          exact cg_t (cg_m _) (cg_x hp (cg_r _))
      refine g_iload rfl dX5_sumOf_41 ?_
      refine g_aload_n rfl dX5_sumOf_43 ?_
      refine gf_X5_7 (by decide) rfl dX5_sumOf_44 ?_
      rw [hdg]
      refine g_icmp_ge (tgt := 110) dX5_sumOf_47 (by decide) (fun c47 => ?_) (fun c47 => ?_)
      · exact n_le_of c47 (by omega) (by omega) (by omega) (by omega) (by omega)
      · refine g_iload rfl dX5_sumOf_50 ?_
        refine g_if_ne (tgt := 59) dX5_sumOf_52 (by decide) (fun c52 => ?_) (fun c52 => ?_)
        · refine g_iload rfl dX5_sumOf_59 ?_
          refine g_iconst dX5_sumOf_61 ?_
          refine g_icmp_ne (tgt := 69) dX5_sumOf_62 (by decide) (fun c62 => ?_) (fun c62 => ?_)
          · refine g_iload rfl dX5_sumOf_69 ?_
            rw [zI_zero, zI_eqz (by omega) (by omega) (by decide) (by decide)] at c52
            rw [zI_eqz (by omega) (by omega) (by decide) (by decide)] at c62
            exact tail _ (by unfold pt3; rw [if_neg (by omega), if_neg (by omega)])
          · refine g_iload_n rfl dX5_sumOf_65 ?_
            refine g_goto (tgt := 71) dX5_sumOf_66 (by decide) ?_
            rw [zI_zero, zI_eqz (by omega) (by omega) (by decide) (by decide)] at c52
            rw [zI_eqz (by omega) (by omega) (by decide) (by decide)] at c62
            exact tail _ (by unfold pt3; rw [if_neg (by omega), if_pos (by omega)])
        · refine g_iload_n rfl dX5_sumOf_55 ?_
          refine g_goto (tgt := 71) dX5_sumOf_56 (by decide) ?_
          rw [zI_zero, zI_eqz (by omega) (by omega) (by decide) (by decide)] at c52
          exact tail _ (by unfold pt3; rw [if_pos (by omega)])
  have outer : ∀ (d i : Nat), d + i = 2 ^ xm M → ∀ (w : Int), 0 ≤ w → w < 97 → cgr w (sumW (cpM M j) (fun k => (pt3 x0 x1 x2 k).toInt) (xm M) i) →
      G yX5_sumOf.cls cX5_sumOf 10 (some .int) (gE 1 Q) 6 [(0, .ref 31), (1, .int (zI j)), (2, .int x0), (3, .int x1), (4, .int x2), (5, .int (zI w)), (6, .int (zI i))] [] M := by
    intro d
    induction d with
    | zero =>
      intro i hi w hw1 hw2 hw
      refine g_iload rfl dX5_sumOf_6 ?_
      refine g_aload_n rfl dX5_sumOf_8 ?_
      refine gi_X5_57 (by decide) rfl (ev_X5_size hm1 hm2 hdg) rfl rfl ⟨Nat.le_of_ble_eq_true rfl, Nat.le_of_ble_eq_true rfl, Nat.le_of_ble_eq_true rfl, Nat.le_of_ble_eq_true rfl⟩ (Nat.le_of_ble_eq_true rfl) dX5_sumOf_9 (fun r9 M9 hq9 => ?_)
      obtain ⟨rfl, rfl⟩ := hq9
      refine g_icmp_ge (tgt := 126) dX5_sumOf_12 (by decide) (fun c12 => ?_) (fun c12 => ?_)
      · refine g_iload rfl dX5_sumOf_126 ?_
        refine g_ireturn rfl dX5_sumOf_128 ?_
        rw [cg_lt hw hw1 hw2]
        obtain rfl : i = 2 ^ xm M := by omega
        exact hQ
      · exact n_lt_of c12 (by omega) (by omega) (by omega) (by omega) (by omega)
    | succ d ih =>
      intro i hi w hw1 hw2 hw
      have hci := hcb i (by omega)
      have tail : ∀ x, x = zI (cpM M j i) → G yX5_sumOf.cls cX5_sumOf 10 (some .int) (gE 1 Q) 36 [(0, .ref 31), (1, .int (zI j)), (2, .int x0), (3, .int x1), (4, .int x2), (5, .int (zI w)), (6, .int (zI i))] [.int x] M := by
        intro x hxe
        subst hxe
        refine g_istore (L2 := [(0, _), (1, _), (2, _), (3, _), (4, _), (5, _), (6, _), (7, _)]) (by decide) rfl dX5_sumOf_36 ?_
        refine g_iconst dX5_sumOf_38 ?_
        refine g_istore (L2 := [(0, _), (1, _), (2, _), (3, _), (4, _), (5, _), (6, _), (7, _), (8, _)]) (by decide) rfl dX5_sumOf_39 ?_
        refine inner (xm M) 0 (by omega) i w _ (by omega) hci.1 hci.2 (by rw [prodW, Int.mul_one]; exact cg_r _) (fun pt' hp1 hp2 hp => ?_)
        refine g_iload rfl dX5_sumOf_110 ?_
        refine g_iload rfl dX5_sumOf_112 ?_
        refine g_iadd dX5_sumOf_114 ?_
        rw [zI_add]
        refine gi_X5_67 (ev_X5_mod (z := w + pt') (by omega) (by omega) M) rfl rfl ⟨Nat.le_of_ble_eq_true rfl, Nat.le_of_ble_eq_true rfl, Nat.le_of_ble_eq_true rfl, Nat.le_of_ble_eq_true rfl⟩ (Nat.le_of_ble_eq_true rfl) dX5_sumOf_115 (fun r115 M115 hq115 => ?_)
        obtain ⟨rfl, rfl⟩ := hq115
        refine g_istore (L2 := [(0, _), (1, _), (2, _), (3, _), (4, _), (5, _), (6, _), (7, _)]) (by decide) rfl dX5_sumOf_118 ?_
        refine g_iinc (L2 := [(0, _), (1, _), (2, _), (3, _), (4, _), (5, _), (6, _), (7, _)]) rfl (by decide) rfl dX5_sumOf_120 ?_
        refine g_goto (tgt := 6) dX5_sumOf_123 (by decide) ?_
        refine g_locp [0, 1, 2, 3, 4, 5, 6] rfl ?_
        rw [zI_add]
        refine ih (i + 1) (by omega) _ (md_bd _).1 (md_bd _).2 ?_
        rw [sumW]
        exact cg_t (cg_m _) (cg_a hw hp)
      refine g_iload rfl dX5_sumOf_6 ?_
      refine g_aload_n rfl dX5_sumOf_8 ?_
      refine gi_X5_57 (by decide) rfl (ev_X5_size hm1 hm2 hdg) rfl rfl ⟨Nat.le_of_ble_eq_true rfl, Nat.le_of_ble_eq_true rfl, Nat.le_of_ble_eq_true rfl, Nat.le_of_ble_eq_true rfl⟩ (Nat.le_of_ble_eq_true rfl) dX5_sumOf_9 (fun r9 M9 hq9 => ?_)
      obtain ⟨rfl, rfl⟩ := hq9
      refine g_icmp_ge (tgt := 126) dX5_sumOf_12 (by decide) (fun c12 => ?_) (fun c12 => ?_)
      · exact n_le_of c12 (by omega) (by omega) (by omega) (by omega) (by omega)
      · refine g_iload_n rfl dX5_sumOf_15 ?_
        refine g_if_ne (tgt := 29) dX5_sumOf_16 (by decide) (fun c16 => ?_) (fun c16 => ?_)
        · refine g_aload_n rfl dX5_sumOf_29 ?_
          refine g_iload_n rfl dX5_sumOf_30 ?_
          refine g_iload rfl dX5_sumOf_31 ?_
          refine gi_X5_63 (by decide) rfl (ev_X5_copyOf (j := j) (i := i) hI (by rw [zI_zero, zI_eqz (by omega) (by omega) (by decide) (by decide)] at c16; omega) h2 (by omega)) rfl rfl ⟨Nat.le_of_ble_eq_true rfl, Nat.le_of_ble_eq_true rfl, Nat.le_of_ble_eq_true rfl, Nat.le_of_ble_eq_true rfl⟩ (Nat.le_of_ble_eq_true rfl) dX5_sumOf_33 (fun r33 M33 hq33 => ?_)
          obtain ⟨rfl, rfl⟩ := hq33
          rw [zI_zero, zI_eqz (by omega) (by omega) (by decide) (by decide)] at c16
          exact tail _ (by unfold cpM; rw [if_neg (by omega), mi_z])
        · refine g_aload_n rfl dX5_sumOf_19 ?_
          refine gf_X5_13 (by decide) rfl rfl dX5_sumOf_20 ?_
          refine g_iload rfl dX5_sumOf_23 ?_
          refine g_iald (n := 8) (by decide) rfl rfl (zI_in (by omega) (by omega) (by decide)) dX5_sumOf_25 ?_
          refine g_goto (tgt := 36) dX5_sumOf_26 (by decide) ?_
          rw [zI_zero, zI_eqz (by omega) (by omega) (by decide) (by decide)] at c16
          refine tail _ ?_
          unfold cpM
          rw [if_pos (by omega), mi_z, zI_clamp (by omega) (by omega)]
          exact hI.num i (by omega)
  refine g_iconst dX5_sumOf_0 ?_
  refine g_istore (L2 := [(0, _), (1, _), (2, _), (3, _), (4, _), (5, _)]) (by decide) rfl dX5_sumOf_1 ?_
  refine g_iconst dX5_sumOf_3 ?_
  refine g_istore (L2 := [(0, _), (1, _), (2, _), (3, _), (4, _), (5, _), (6, _)]) (by decide) rfl dX5_sumOf_4 ?_
  exact outer (2 ^ xm M) 0 (by omega) 0 (by decide) (by decide) (cg_r _)
end

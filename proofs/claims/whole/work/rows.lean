section
-- ===== PART A: goes FIRST, ahead of the names: the tables' words, and 'selects' of the private methods out of them =====
/-- a private method of a class that the tables say can be made, by its rows of tables_1 -/
def lw_okq (q : MethodName × Nat) : Prop := (q.1.cls ≠ "java/lang/invoke/MethodHandle" ∧ q.1.cls ≠ "java/lang/invoke/VarHandle") ∧ Cond.instantiable q.1.cls q.2 ∈ tables_1 ∧ Cond.privateMethod q.1 ∈ tables_1 ∧ Cond.instanceMethod q.1 ∈ tables_1
theorem lw_p0 : lw_okq (⟨"LightWheel", "record", "()V"⟩, 9) := ⟨⟨by decide +kernel, by decide +kernel⟩, List.mem_of_getElem? (i := 11) (by decide +kernel), List.mem_of_getElem? (i := 218) (by decide +kernel), List.mem_of_getElem? (i := 219) (by decide +kernel)⟩
theorem lw_p1 : lw_okq (⟨"LightWheel$Reader", "take", "(CI)I"⟩, 6) := ⟨⟨by decide +kernel, by decide +kernel⟩, List.mem_of_getElem? (i := 108) (by decide +kernel), List.mem_of_getElem? (i := 275) (by decide +kernel), List.mem_of_getElem? (i := 276) (by decide +kernel)⟩
theorem lw_p2 : lw_okq (⟨"LightWheel$Reader", "takeDigit", "(CI)I"⟩, 6) := ⟨⟨by decide +kernel, by decide +kernel⟩, List.mem_of_getElem? (i := 108) (by decide +kernel), List.mem_of_getElem? (i := 279) (by decide +kernel), List.mem_of_getElem? (i := 280) (by decide +kernel)⟩
theorem lw_p3 : lw_okq (⟨"LightWheel$Reader", "takeBracket", "(CI)I"⟩, 6) := ⟨⟨by decide +kernel, by decide +kernel⟩, List.mem_of_getElem? (i := 108) (by decide +kernel), List.mem_of_getElem? (i := 283) (by decide +kernel), List.mem_of_getElem? (i := 284) (by decide +kernel)⟩
theorem lw_p4 : lw_okq (⟨"LightWheel$Reader", "takeColor", "(CII)I"⟩, 6) := ⟨⟨by decide +kernel, by decide +kernel⟩, List.mem_of_getElem? (i := 108) (by decide +kernel), List.mem_of_getElem? (i := 287) (by decide +kernel), List.mem_of_getElem? (i := 288) (by decide +kernel)⟩
theorem lw_p5 : lw_okq (⟨"LightWheel$Reader", "takePart", "(CI)I"⟩, 6) := ⟨⟨by decide +kernel, by decide +kernel⟩, List.mem_of_getElem? (i := 108) (by decide +kernel), List.mem_of_getElem? (i := 292) (by decide +kernel), List.mem_of_getElem? (i := 293) (by decide +kernel)⟩
theorem lw_p6 : lw_okq (⟨"LightWheel$Reader", "takeSemicolon", "(I)I"⟩, 6) := ⟨⟨by decide +kernel, by decide +kernel⟩, List.mem_of_getElem? (i := 108) (by decide +kernel), List.mem_of_getElem? (i := 296) (by decide +kernel), List.mem_of_getElem? (i := 297) (by decide +kernel)⟩
theorem lw_p7 : lw_okq (⟨"LightWheel$Sweep", "changeSpeed", "()V"⟩, 11) := ⟨⟨by decide +kernel, by decide +kernel⟩, List.mem_of_getElem? (i := 136) (by decide +kernel), List.mem_of_getElem? (i := 376) (by decide +kernel), List.mem_of_getElem? (i := 377) (by decide +kernel)⟩
theorem lw_p8 : lw_okq (⟨"LightWheel$Sweep", "turn", "()V"⟩, 11) := ⟨⟨by decide +kernel, by decide +kernel⟩, List.mem_of_getElem? (i := 136) (by decide +kernel), List.mem_of_getElem? (i := 384) (by decide +kernel), List.mem_of_getElem? (i := 385) (by decide +kernel)⟩
theorem lw_p9 : lw_okq (⟨"LightWheel$State", "writeArm", "(IIJI)V"⟩, 11) := ⟨⟨by decide +kernel, by decide +kernel⟩, List.mem_of_getElem? (i := 19) (by decide +kernel), List.mem_of_getElem? (i := 400) (by decide +kernel), List.mem_of_getElem? (i := 401) (by decide +kernel)⟩
theorem lw_p10 : lw_okq (⟨"LightWheel", "countLit", "()I"⟩, 9) := ⟨⟨by decide +kernel, by decide +kernel⟩, List.mem_of_getElem? (i := 11) (by decide +kernel), List.mem_of_getElem? (i := 420) (by decide +kernel), List.mem_of_getElem? (i := 421) (by decide +kernel)⟩
theorem lw_p11 : lw_okq (⟨"LightWheel", "countNotAsWanted", "()I"⟩, 9) := ⟨⟨by decide +kernel, by decide +kernel⟩, List.mem_of_getElem? (i := 11) (by decide +kernel), List.mem_of_getElem? (i := 430) (by decide +kernel), List.mem_of_getElem? (i := 431) (by decide +kernel)⟩
theorem lw_p12 : lw_okq (⟨"LightWheel", "ticksSinceWritten", "(II)I"⟩, 9) := ⟨⟨by decide +kernel, by decide +kernel⟩, List.mem_of_getElem? (i := 11) (by decide +kernel), List.mem_of_getElem? (i := 462) (by decide +kernel), List.mem_of_getElem? (i := 463) (by decide +kernel)⟩
theorem lw_p13 : lw_okq (⟨"LightWheel", "countRight", "(I)I"⟩, 9) := ⟨⟨by decide +kernel, by decide +kernel⟩, List.mem_of_getElem? (i := 11) (by decide +kernel), List.mem_of_getElem? (i := 492) (by decide +kernel), List.mem_of_getElem? (i := 493) (by decide +kernel)⟩
theorem lw_p14 : lw_okq (⟨"LightWheelModel", "past", "(II)I"⟩, 16) := ⟨⟨by decide +kernel, by decide +kernel⟩, List.mem_of_getElem? (i := 502) (by decide +kernel), List.mem_of_getElem? (i := 561) (by decide +kernel), List.mem_of_getElem? (i := 562) (by decide +kernel)⟩
theorem lw_p15 : lw_okq (⟨"LightWheelModel", "record", "()V"⟩, 16) := ⟨⟨by decide +kernel, by decide +kernel⟩, List.mem_of_getElem? (i := 502) (by decide +kernel), List.mem_of_getElem? (i := 573) (by decide +kernel), List.mem_of_getElem? (i := 574) (by decide +kernel)⟩
def lw_privs_1 : List (MethodName × Nat) := [(⟨"LightWheel", "record", "()V"⟩, 9), (⟨"LightWheel$Reader", "take", "(CI)I"⟩, 6), (⟨"LightWheel$Reader", "takeDigit", "(CI)I"⟩, 6), (⟨"LightWheel$Reader", "takeBracket", "(CI)I"⟩, 6), (⟨"LightWheel$Reader", "takeColor", "(CII)I"⟩, 6), (⟨"LightWheel$Reader", "takePart", "(CI)I"⟩, 6), (⟨"LightWheel$Reader", "takeSemicolon", "(I)I"⟩, 6), (⟨"LightWheel$Sweep", "changeSpeed", "()V"⟩, 11), (⟨"LightWheel$Sweep", "turn", "()V"⟩, 11), (⟨"LightWheel$State", "writeArm", "(IIJI)V"⟩, 11), (⟨"LightWheel", "countLit", "()I"⟩, 9), (⟨"LightWheel", "countNotAsWanted", "()I"⟩, 9), (⟨"LightWheel", "ticksSinceWritten", "(II)I"⟩, 9), (⟨"LightWheel", "countRight", "(I)I"⟩, 9), (⟨"LightWheelModel", "past", "(II)I"⟩, 16), (⟨"LightWheelModel", "record", "()V"⟩, 16)]
theorem lw_r1 : ∀ q ∈ lw_privs_1, lw_okq q := List.forall_mem_cons.mpr ⟨lw_p0, List.forall_mem_cons.mpr ⟨lw_p1, List.forall_mem_cons.mpr ⟨lw_p2, List.forall_mem_cons.mpr ⟨lw_p3, List.forall_mem_cons.mpr ⟨lw_p4, List.forall_mem_cons.mpr ⟨lw_p5, List.forall_mem_cons.mpr ⟨lw_p6, List.forall_mem_cons.mpr ⟨lw_p7, List.forall_mem_cons.mpr ⟨lw_p8, List.forall_mem_cons.mpr ⟨lw_p9, List.forall_mem_cons.mpr ⟨lw_p10, List.forall_mem_cons.mpr ⟨lw_p11, List.forall_mem_cons.mpr ⟨lw_p12, List.forall_mem_cons.mpr ⟨lw_p13, List.forall_mem_cons.mpr ⟨lw_p14, List.forall_mem_cons.mpr ⟨lw_p15, fun _ h => absurd h List.not_mem_nil⟩⟩⟩⟩⟩⟩⟩⟩⟩⟩⟩⟩⟩⟩⟩⟩
theorem lw_p16 : lw_okq (⟨"LightWheelModel", "lay", "(III)V"⟩, 16) := ⟨⟨by decide +kernel, by decide +kernel⟩, List.mem_of_getElem? (i := 502) (by decide +kernel), List.mem_of_getElem? (i := 577) (by decide +kernel), List.mem_of_getElem? (i := 578) (by decide +kernel)⟩
theorem lw_p17 : lw_okq (⟨"LightWheelModel", "isPicture", "(I)Z"⟩, 16) := ⟨⟨by decide +kernel, by decide +kernel⟩, List.mem_of_getElem? (i := 502) (by decide +kernel), List.mem_of_getElem? (i := 585) (by decide +kernel), List.mem_of_getElem? (i := 586) (by decide +kernel)⟩
theorem lw_p18 : lw_okq (⟨"LightWheelModel", "of", "(II)I"⟩, 16) := ⟨⟨by decide +kernel, by decide +kernel⟩, List.mem_of_getElem? (i := 502) (by decide +kernel), List.mem_of_getElem? (i := 589) (by decide +kernel), List.mem_of_getElem? (i := 590) (by decide +kernel)⟩
theorem lw_p19 : lw_okq (⟨"LightWheelModel", "colorOf", "(III)I"⟩, 16) := ⟨⟨by decide +kernel, by decide +kernel⟩, List.mem_of_getElem? (i := 502) (by decide +kernel), List.mem_of_getElem? (i := 596) (by decide +kernel), List.mem_of_getElem? (i := 597) (by decide +kernel)⟩
theorem lw_p20 : lw_okq (⟨"LightWheelModel", "putColor", "(IIII)V"⟩, 16) := ⟨⟨by decide +kernel, by decide +kernel⟩, List.mem_of_getElem? (i := 502) (by decide +kernel), List.mem_of_getElem? (i := 603) (by decide +kernel), List.mem_of_getElem? (i := 604) (by decide +kernel)⟩
theorem lw_p21 : lw_okq (⟨"LightWheelModel", "put", "(II)I"⟩, 16) := ⟨⟨by decide +kernel, by decide +kernel⟩, List.mem_of_getElem? (i := 502) (by decide +kernel), List.mem_of_getElem? (i := 615) (by decide +kernel), List.mem_of_getElem? (i := 616) (by decide +kernel)⟩
theorem lw_p22 : lw_okq (⟨"LightWheelModel", "readText", "()Z"⟩, 16) := ⟨⟨by decide +kernel, by decide +kernel⟩, List.mem_of_getElem? (i := 502) (by decide +kernel), List.mem_of_getElem? (i := 631) (by decide +kernel), List.mem_of_getElem? (i := 632) (by decide +kernel)⟩
theorem lw_p23 : lw_okq (⟨"LightWheelModel", "skip", "()V"⟩, 16) := ⟨⟨by decide +kernel, by decide +kernel⟩, List.mem_of_getElem? (i := 502) (by decide +kernel), List.mem_of_getElem? (i := 635) (by decide +kernel), List.mem_of_getElem? (i := 636) (by decide +kernel)⟩
theorem lw_p24 : lw_okq (⟨"LightWheelModel", "here", "()I"⟩, 16) := ⟨⟨by decide +kernel, by decide +kernel⟩, List.mem_of_getElem? (i := 502) (by decide +kernel), List.mem_of_getElem? (i := 639) (by decide +kernel), List.mem_of_getElem? (i := 640) (by decide +kernel)⟩
theorem lw_p25 : lw_okq (⟨"LightWheelModel", "readPart", "()Z"⟩, 16) := ⟨⟨by decide +kernel, by decide +kernel⟩, List.mem_of_getElem? (i := 502) (by decide +kernel), List.mem_of_getElem? (i := 643) (by decide +kernel), List.mem_of_getElem? (i := 644) (by decide +kernel)⟩
theorem lw_p26 : lw_okq (⟨"LightWheelModel", "readNumber", "()I"⟩, 16) := ⟨⟨by decide +kernel, by decide +kernel⟩, List.mem_of_getElem? (i := 502) (by decide +kernel), List.mem_of_getElem? (i := 647) (by decide +kernel), List.mem_of_getElem? (i := 648) (by decide +kernel)⟩
theorem lw_p27 : lw_okq (⟨"LightWheelModel", "isColor", "()Z"⟩, 16) := ⟨⟨by decide +kernel, by decide +kernel⟩, List.mem_of_getElem? (i := 502) (by decide +kernel), List.mem_of_getElem? (i := 651) (by decide +kernel), List.mem_of_getElem? (i := 652) (by decide +kernel)⟩
theorem lw_p28 : lw_okq (⟨"LightWheelModel", "takeColor", "(I)V"⟩, 16) := ⟨⟨by decide +kernel, by decide +kernel⟩, List.mem_of_getElem? (i := 502) (by decide +kernel), List.mem_of_getElem? (i := 655) (by decide +kernel), List.mem_of_getElem? (i := 656) (by decide +kernel)⟩
theorem lw_p29 : lw_okq (⟨"LightWheelModel", "isBroken", "(II)Z"⟩, 16) := ⟨⟨by decide +kernel, by decide +kernel⟩, List.mem_of_getElem? (i := 502) (by decide +kernel), List.mem_of_getElem? (i := 667) (by decide +kernel), List.mem_of_getElem? (i := 668) (by decide +kernel)⟩
theorem lw_p30 : lw_okq (⟨"LightWheelModel", "layWants", "()V"⟩, 16) := ⟨⟨by decide +kernel, by decide +kernel⟩, List.mem_of_getElem? (i := 502) (by decide +kernel), List.mem_of_getElem? (i := 682) (by decide +kernel), List.mem_of_getElem? (i := 683) (by decide +kernel)⟩
theorem lw_p31 : lw_okq (⟨"LightWheelModel", "wanted", "(II)I"⟩, 16) := ⟨⟨by decide +kernel, by decide +kernel⟩, List.mem_of_getElem? (i := 502) (by decide +kernel), List.mem_of_getElem? (i := 686) (by decide +kernel), List.mem_of_getElem? (i := 687) (by decide +kernel)⟩
def lw_privs_2 : List (MethodName × Nat) := [(⟨"LightWheelModel", "lay", "(III)V"⟩, 16), (⟨"LightWheelModel", "isPicture", "(I)Z"⟩, 16), (⟨"LightWheelModel", "of", "(II)I"⟩, 16), (⟨"LightWheelModel", "colorOf", "(III)I"⟩, 16), (⟨"LightWheelModel", "putColor", "(IIII)V"⟩, 16), (⟨"LightWheelModel", "put", "(II)I"⟩, 16), (⟨"LightWheelModel", "readText", "()Z"⟩, 16), (⟨"LightWheelModel", "skip", "()V"⟩, 16), (⟨"LightWheelModel", "here", "()I"⟩, 16), (⟨"LightWheelModel", "readPart", "()Z"⟩, 16), (⟨"LightWheelModel", "readNumber", "()I"⟩, 16), (⟨"LightWheelModel", "isColor", "()Z"⟩, 16), (⟨"LightWheelModel", "takeColor", "(I)V"⟩, 16), (⟨"LightWheelModel", "isBroken", "(II)Z"⟩, 16), (⟨"LightWheelModel", "layWants", "()V"⟩, 16), (⟨"LightWheelModel", "wanted", "(II)I"⟩, 16)]
theorem lw_r2 : ∀ q ∈ lw_privs_2, lw_okq q := List.forall_mem_cons.mpr ⟨lw_p16, List.forall_mem_cons.mpr ⟨lw_p17, List.forall_mem_cons.mpr ⟨lw_p18, List.forall_mem_cons.mpr ⟨lw_p19, List.forall_mem_cons.mpr ⟨lw_p20, List.forall_mem_cons.mpr ⟨lw_p21, List.forall_mem_cons.mpr ⟨lw_p22, List.forall_mem_cons.mpr ⟨lw_p23, List.forall_mem_cons.mpr ⟨lw_p24, List.forall_mem_cons.mpr ⟨lw_p25, List.forall_mem_cons.mpr ⟨lw_p26, List.forall_mem_cons.mpr ⟨lw_p27, List.forall_mem_cons.mpr ⟨lw_p28, List.forall_mem_cons.mpr ⟨lw_p29, List.forall_mem_cons.mpr ⟨lw_p30, List.forall_mem_cons.mpr ⟨lw_p31, fun _ h => absurd h List.not_mem_nil⟩⟩⟩⟩⟩⟩⟩⟩⟩⟩⟩⟩⟩⟩⟩⟩
theorem lw_p32 : lw_okq (⟨"LightWheelModel", "columnOf", "(II)I"⟩, 16) := ⟨⟨by decide +kernel, by decide +kernel⟩, List.mem_of_getElem? (i := 502) (by decide +kernel), List.mem_of_getElem? (i := 690) (by decide +kernel), List.mem_of_getElem? (i := 691) (by decide +kernel)⟩
theorem lw_p33 : lw_okq (⟨"LightWheelModel", "covered", "(I)I"⟩, 16) := ⟨⟨by decide +kernel, by decide +kernel⟩, List.mem_of_getElem? (i := 502) (by decide +kernel), List.mem_of_getElem? (i := 697) (by decide +kernel), List.mem_of_getElem? (i := 698) (by decide +kernel)⟩
theorem lw_p34 : lw_okq (⟨"LightWheelModel", "goOn", "(I)V"⟩, 16) := ⟨⟨by decide +kernel, by decide +kernel⟩, List.mem_of_getElem? (i := 502) (by decide +kernel), List.mem_of_getElem? (i := 704) (by decide +kernel), List.mem_of_getElem? (i := 705) (by decide +kernel)⟩
theorem lw_p35 : lw_okq (⟨"LightWheelModel", "tick", "()V"⟩, 16) := ⟨⟨by decide +kernel, by decide +kernel⟩, List.mem_of_getElem? (i := 502) (by decide +kernel), List.mem_of_getElem? (i := 708) (by decide +kernel), List.mem_of_getElem? (i := 709) (by decide +kernel)⟩
theorem lw_p36 : lw_okq (⟨"LightWheelModel", "newSpeed", "()V"⟩, 16) := ⟨⟨by decide +kernel, by decide +kernel⟩, List.mem_of_getElem? (i := 502) (by decide +kernel), List.mem_of_getElem? (i := 712) (by decide +kernel), List.mem_of_getElem? (i := 713) (by decide +kernel)⟩
theorem lw_p37 : lw_okq (⟨"LightWheelModel", "writes", "(II)I"⟩, 16) := ⟨⟨by decide +kernel, by decide +kernel⟩, List.mem_of_getElem? (i := 502) (by decide +kernel), List.mem_of_getElem? (i := 719) (by decide +kernel), List.mem_of_getElem? (i := 720) (by decide +kernel)⟩
theorem lw_p38 : lw_okq (⟨"LightWheelModel", "litPlaces", "(Z)I"⟩, 16) := ⟨⟨by decide +kernel, by decide +kernel⟩, List.mem_of_getElem? (i := 502) (by decide +kernel), List.mem_of_getElem? (i := 727) (by decide +kernel), List.mem_of_getElem? (i := 728) (by decide +kernel)⟩
theorem lw_p39 : lw_okq (⟨"LightWheelModel", "lit", "(I)I"⟩, 16) := ⟨⟨by decide +kernel, by decide +kernel⟩, List.mem_of_getElem? (i := 502) (by decide +kernel), List.mem_of_getElem? (i := 731) (by decide +kernel), List.mem_of_getElem? (i := 732) (by decide +kernel)⟩
theorem lw_p40 : lw_okq (⟨"LightWheelModel", "ago", "(I)I"⟩, 16) := ⟨⟨by decide +kernel, by decide +kernel⟩, List.mem_of_getElem? (i := 502) (by decide +kernel), List.mem_of_getElem? (i := 735) (by decide +kernel), List.mem_of_getElem? (i := 736) (by decide +kernel)⟩
theorem lw_p41 : lw_okq (⟨"LightWheelModel", "wrongPlaces", "()I"⟩, 16) := ⟨⟨by decide +kernel, by decide +kernel⟩, List.mem_of_getElem? (i := 502) (by decide +kernel), List.mem_of_getElem? (i := 739) (by decide +kernel), List.mem_of_getElem? (i := 740) (by decide +kernel)⟩
theorem lw_p42 : lw_okq (⟨"LightWheelModel", "bright", "(I)I"⟩, 16) := ⟨⟨by decide +kernel, by decide +kernel⟩, List.mem_of_getElem? (i := 502) (by decide +kernel), List.mem_of_getElem? (i := 751) (by decide +kernel), List.mem_of_getElem? (i := 752) (by decide +kernel)⟩
theorem lw_p43 : lw_okq (⟨"LightWheelModel", "setAside", "()V"⟩, 16) := ⟨⟨by decide +kernel, by decide +kernel⟩, List.mem_of_getElem? (i := 502) (by decide +kernel), List.mem_of_getElem? (i := 775) (by decide +kernel), List.mem_of_getElem? (i := 776) (by decide +kernel)⟩
theorem lw_p44 : lw_okq (⟨"LightWheelModel", "bringBack", "()V"⟩, 16) := ⟨⟨by decide +kernel, by decide +kernel⟩, List.mem_of_getElem? (i := 502) (by decide +kernel), List.mem_of_getElem? (i := 779) (by decide +kernel), List.mem_of_getElem? (i := 780) (by decide +kernel)⟩
theorem lw_p45 : lw_okq (⟨"LightWheelModel", "mark", "()V"⟩, 16) := ⟨⟨by decide +kernel, by decide +kernel⟩, List.mem_of_getElem? (i := 502) (by decide +kernel), List.mem_of_getElem? (i := 787) (by decide +kernel), List.mem_of_getElem? (i := 788) (by decide +kernel)⟩
theorem lw_p46 : lw_okq (⟨"LightWheelModel", "isCovered", "(I)Z"⟩, 16) := ⟨⟨by decide +kernel, by decide +kernel⟩, List.mem_of_getElem? (i := 502) (by decide +kernel), List.mem_of_getElem? (i := 791) (by decide +kernel), List.mem_of_getElem? (i := 792) (by decide +kernel)⟩
theorem lw_p47 : lw_okq (⟨"LightWheelModel", "meets", "(IIII)Z"⟩, 16) := ⟨⟨by decide +kernel, by decide +kernel⟩, List.mem_of_getElem? (i := 502) (by decide +kernel), List.mem_of_getElem? (i := 803) (by decide +kernel), List.mem_of_getElem? (i := 804) (by decide +kernel)⟩
def lw_privs_3 : List (MethodName × Nat) := [(⟨"LightWheelModel", "columnOf", "(II)I"⟩, 16), (⟨"LightWheelModel", "covered", "(I)I"⟩, 16), (⟨"LightWheelModel", "goOn", "(I)V"⟩, 16), (⟨"LightWheelModel", "tick", "()V"⟩, 16), (⟨"LightWheelModel", "newSpeed", "()V"⟩, 16), (⟨"LightWheelModel", "writes", "(II)I"⟩, 16), (⟨"LightWheelModel", "litPlaces", "(Z)I"⟩, 16), (⟨"LightWheelModel", "lit", "(I)I"⟩, 16), (⟨"LightWheelModel", "ago", "(I)I"⟩, 16), (⟨"LightWheelModel", "wrongPlaces", "()I"⟩, 16), (⟨"LightWheelModel", "bright", "(I)I"⟩, 16), (⟨"LightWheelModel", "setAside", "()V"⟩, 16), (⟨"LightWheelModel", "bringBack", "()V"⟩, 16), (⟨"LightWheelModel", "mark", "()V"⟩, 16), (⟨"LightWheelModel", "isCovered", "(I)Z"⟩, 16), (⟨"LightWheelModel", "meets", "(IIII)Z"⟩, 16)]
theorem lw_r3 : ∀ q ∈ lw_privs_3, lw_okq q := List.forall_mem_cons.mpr ⟨lw_p32, List.forall_mem_cons.mpr ⟨lw_p33, List.forall_mem_cons.mpr ⟨lw_p34, List.forall_mem_cons.mpr ⟨lw_p35, List.forall_mem_cons.mpr ⟨lw_p36, List.forall_mem_cons.mpr ⟨lw_p37, List.forall_mem_cons.mpr ⟨lw_p38, List.forall_mem_cons.mpr ⟨lw_p39, List.forall_mem_cons.mpr ⟨lw_p40, List.forall_mem_cons.mpr ⟨lw_p41, List.forall_mem_cons.mpr ⟨lw_p42, List.forall_mem_cons.mpr ⟨lw_p43, List.forall_mem_cons.mpr ⟨lw_p44, List.forall_mem_cons.mpr ⟨lw_p45, List.forall_mem_cons.mpr ⟨lw_p46, List.forall_mem_cons.mpr ⟨lw_p47, fun _ h => absurd h List.not_mem_nil⟩⟩⟩⟩⟩⟩⟩⟩⟩⟩⟩⟩⟩⟩⟩⟩
def lw_privs : List (MethodName × Nat) := lw_privs_1 ++ (lw_privs_2 ++ (lw_privs_3))
def lw_tbl : List Cond := k2_sels lw_privs ++ tables_1
theorem lw_privs_ok : ∀ q ∈ lw_privs, lw_okq q := by
  show ∀ q ∈ lw_privs_1 ++ (lw_privs_2 ++ (lw_privs_3)), lw_okq q
  exact List.forall_mem_append.mpr ⟨lw_r1, List.forall_mem_append.mpr ⟨lw_r2, lw_r3⟩⟩
end
section
/-! ===== BEGIN words of one list among another's, by their places ===== -/
theorem goodIn_r {big : List Cond} (ws : List Cond) (ps : List Nat) (hp : ws = ps.filterMap (fun i => big[i]?)) (h : ws.all goodWord = true) : GoodIn big ws := by
  intro w hw
  have h1 := List.all_eq_true.mp h w hw
  rw [hp] at hw
  obtain ⟨i, -, hi⟩ := List.mem_filterMap.mp hw
  have hm : w ∈ big := by first | exact List.mem_of_getElem? hi | exact List.getElem?_mem hi
  exact ⟨hm, good_of_word h1⟩
theorem goodIn_app {big a b : List Cond} (ha : GoodIn big a) (hb : GoodIn big b) : GoodIn big (a ++ b) := fun w h => (List.mem_append.mp h).elim (ha w) (hb w)
theorem goodIn_ca {big a b : List Cond} {c : Cond} (ha : GoodIn big (c :: a)) (hb : GoodIn big b) : GoodIn big (c :: (a ++ b)) := fun w h => (List.mem_cons.mp h).elim (fun e => ha w (List.mem_cons.mpr (Or.inl e))) (fun h => (List.mem_append.mp h).elim (fun h => ha w (List.mem_cons.mpr (Or.inr h))) (hb w))
theorem goodIn_sub {big ws : List Cond} (hm : ∀ w ∈ ws, w ∈ big) (h : ws.all goodWord = true) : GoodIn big ws := fun w hw => ⟨hm w hw, good_of_word (List.all_eq_true.mp h w hw)⟩
/-! ===== END ===== -/

/-! ===== BEGIN printed: names, fields, word lists, decode rows ===== -/
def RX0 : String := "LightWheel$Picture"
def TX0 : u_T := fun k => match k with
  | 0 => ("LightWheel$Picture", "width", "I", false)
  | 1 => ("LightWheel$Picture", "first", "I", false)
  | 2 => ("LightWheel$Picture", "step", "I", false)
  | 3 => ("LightWheel$Picture", "kind", "I", false)
  | _ => ("LightWheel$Picture", "columns", "[J", true)
def tyX0 : Nat → FieldType := fun k => match k with
  | 0 => .int
  | 1 => .int
  | 2 => .int
  | 3 => .int
  | _ => .array .long
abbrev wsX00 : List Cond := u_ws RX0 TX0 5
theorem nmX0 : ∀ a, a < 5 → ∀ b, b < 5 → a ≠ b → (TX0 a).2.1 ≠ (TX0 b).2.1 := by decide +kernel
theorem tyX0_ok : ∀ k, k < 5 → parseFieldDescriptor (TX0 k).2.2.1 = some (tyX0 k) := by decide +kernel
abbrev cX0_init : ByteArray := prog_2_method_1_code
def yX0_init : MethodName := ⟨RX0, "<init>", "()V"⟩
abbrev cX0_copyFrom : ByteArray := prog_2_method_2_code
def yX0_copyFrom : MethodName := ⟨RX0, "copyFrom", "(LLightWheel$Picture;)V"⟩
abbrev cX0_coveredAngles : ByteArray := prog_2_method_3_code
def yX0_coveredAngles : MethodName := ⟨RX0, "coveredAngles", "()I"⟩
abbrev cX0_covers : ByteArray := prog_2_method_4_code
def yX0_covers : MethodName := ⟨RX0, "covers", "(I)Z"⟩
abbrev cX0_columnOf : ByteArray := prog_2_method_5_code
def yX0_columnOf : MethodName := ⟨RX0, "columnOf", "(I)I"⟩
abbrev cX0_wantedAt : ByteArray := prog_2_method_6_code
def yX0_wantedAt : MethodName := ⟨RX0, "wantedAt", "(I)J"⟩
abbrev cX0_countNotDark : ByteArray := prog_2_method_7_code
def yX0_countNotDark : MethodName := ⟨RX0, "countNotDark", "()I"⟩
def RX1 : String := "LightWheel$Reader"
def TX1 : u_T := fun k => match k with
  | 0 => ("LightWheel$Reader", "columns", "[J", true)
  | 1 => ("LightWheel$Reader", "columnCount", "I", false)
  | 2 => ("LightWheel$Reader", "awaited", "I", false)
  | 3 => ("LightWheel$Reader", "told", "I", false)
  | 4 => ("LightWheel$Reader", "number", "I", false)
  | _ => ("LightWheel$Reader", "numberStart", "I", false)
def tyX1 : Nat → FieldType := fun k => match k with
  | 0 => .array .long
  | 1 => .int
  | 2 => .int
  | 3 => .int
  | 4 => .int
  | _ => .int
abbrev wsX10 : List Cond := u_ws RX1 TX1 6
theorem nmX1 : ∀ a, a < 6 → ∀ b, b < 6 → a ≠ b → (TX1 a).2.1 ≠ (TX1 b).2.1 := by decide +kernel
theorem tyX1_ok : ∀ k, k < 6 → parseFieldDescriptor (TX1 k).2.2.1 = some (tyX1 k) := by decide +kernel
abbrev cX1_init : ByteArray := prog_3_method_1_code
def yX1_init : MethodName := ⟨RX1, "<init>", "()V"⟩
abbrev cX1_read : ByteArray := prog_3_method_2_code
def yX1_read : MethodName := ⟨RX1, "read", "([CI)I"⟩
abbrev cX1_take : ByteArray := prog_3_method_3_code
def yX1_take : MethodName := ⟨RX1, "take", "(CI)I"⟩
abbrev cX1_takePart : ByteArray := prog_3_method_4_code
def yX1_takePart : MethodName := ⟨RX1, "takePart", "(CI)I"⟩
abbrev cX1_takeSemicolon : ByteArray := prog_3_method_5_code
def yX1_takeSemicolon : MethodName := ⟨RX1, "takeSemicolon", "(I)I"⟩
abbrev cX1_takeDigit : ByteArray := prog_3_method_6_code
def yX1_takeDigit : MethodName := ⟨RX1, "takeDigit", "(CI)I"⟩
abbrev cX1_takeBracket : ByteArray := prog_3_method_7_code
def yX1_takeBracket : MethodName := ⟨RX1, "takeBracket", "(CI)I"⟩
abbrev cX1_takeColor : ByteArray := prog_3_method_8_code
def yX1_takeColor : MethodName := ⟨RX1, "takeColor", "(CII)I"⟩
def RX2 : String := "LightWheel$State"
def TX2 : u_T := fun k => match k with
  | 0 => ("LightWheel$State", "pictureCount", "I", false)
  | 1 => ("LightWheel$State", "pictures", "[LLightWheel$Picture;", true)
  | 2 => ("LightWheel$State", "angle", "I", false)
  | 3 => ("LightWheel$State", "speed", "I", false)
  | 4 => ("LightWheel$State", "ticks", "I", false)
  | 5 => ("LightWheel$State", "load", "I", false)
  | 6 => ("LightWheel$State", "secondArm", "I", false)
  | 7 => ("LightWheel$State", "settings", "[I", true)
  | 8 => ("LightWheel$State", "working", "[J", true)
  | 9 => ("LightWheel$State", "written", "[J", true)
  | _ => ("LightWheel$State", "writtenIn", "[I", true)
def tyX2 : Nat → FieldType := fun k => match k with
  | 0 => .int
  | 1 => .array (.object "LightWheel$Picture")
  | 2 => .int
  | 3 => .int
  | 4 => .int
  | 5 => .int
  | 6 => .int
  | 7 => .array .int
  | 8 => .array .long
  | 9 => .array .long
  | _ => .array .int
abbrev wsX20 : List Cond := u_ws RX2 TX2 11
theorem nmX2 : ∀ a, a < 11 → ∀ b, b < 11 → a ≠ b → (TX2 a).2.1 ≠ (TX2 b).2.1 := by decide +kernel
theorem tyX2_ok : ∀ k, k < 11 → parseFieldDescriptor (TX2 k).2.2.1 = some (tyX2 k) := by decide +kernel
abbrev cX2_init : ByteArray := prog_4_method_1_code
def yX2_init : MethodName := ⟨RX2, "<init>", "()V"⟩
abbrev cX2_copyFrom : ByteArray := prog_4_method_2_code
def yX2_copyFrom : MethodName := ⟨RX2, "copyFrom", "(LLightWheel$State;)V"⟩
abbrev cX2_pictureNumbered : ByteArray := prog_4_method_3_code
def yX2_pictureNumbered : MethodName := ⟨RX2, "pictureNumbered", "(I)LLightWheel$Picture;"⟩
abbrev cX2_works : ByteArray := prog_4_method_4_code
def yX2_works : MethodName := ⟨RX2, "works", "(II)Z"⟩
abbrev cX2_wantedAt : ByteArray := prog_4_method_5_code
def yX2_wantedAt : MethodName := ⟨RX2, "wantedAt", "(I)J"⟩
abbrev cX2_isCoveredAt : ByteArray := prog_4_method_6_code
def yX2_isCoveredAt : MethodName := ⟨RX2, "isCoveredAt", "(I)Z"⟩
abbrev cX2_litAt : ByteArray := prog_4_method_7_code
def yX2_litAt : MethodName := ⟨RX2, "litAt", "(II)J"⟩
abbrev cX2_write : ByteArray := prog_4_method_8_code
def yX2_write : MethodName := ⟨RX2, "write", "(LLightWheel$Sweep;)V"⟩
abbrev cX2_writeArm : ByteArray := prog_4_method_9_code
def yX2_writeArm : MethodName := ⟨RX2, "writeArm", "(IIJI)V"⟩
def RX3 : String := "LightWheel$Sweep"
def TX3 : u_T := fun k => match k with
  | 0 => ("LightWheel$Sweep", "wanted", "[J", true)
  | 1 => ("LightWheel$Sweep", "loadAt", "[I", true)
  | 2 => ("LightWheel$Sweep", "passedIn", "[I", true)
  | 3 => ("LightWheel$Sweep", "secondArm", "Z", false)
  | 4 => ("LightWheel$Sweep", "power", "I", false)
  | 5 => ("LightWheel$Sweep", "limit", "I", false)
  | 6 => ("LightWheel$Sweep", "wantedSpeed", "I", false)
  | 7 => ("LightWheel$Sweep", "angle", "I", false)
  | 8 => ("LightWheel$Sweep", "speed", "I", false)
  | 9 => ("LightWheel$Sweep", "load", "I", false)
  | _ => ("LightWheel$Sweep", "ticks", "I", false)
def tyX3 : Nat → FieldType := fun k => match k with
  | 0 => .array .long
  | 1 => .array .int
  | 2 => .array .int
  | 3 => .boolean
  | 4 => .int
  | 5 => .int
  | 6 => .int
  | 7 => .int
  | 8 => .int
  | 9 => .int
  | _ => .int
abbrev wsX30 : List Cond := u_ws RX3 TX3 11
theorem nmX3 : ∀ a, a < 11 → ∀ b, b < 11 → a ≠ b → (TX3 a).2.1 ≠ (TX3 b).2.1 := by decide +kernel
theorem tyX3_ok : ∀ k, k < 11 → parseFieldDescriptor (TX3 k).2.2.1 = some (tyX3 k) := by decide +kernel
abbrev cX3_init : ByteArray := prog_5_method_1_code
def yX3_init : MethodName := ⟨RX3, "<init>", "()V"⟩
abbrev cX3_prepare : ByteArray := prog_5_method_2_code
def yX3_prepare : MethodName := ⟨RX3, "prepare", "(LLightWheel$State;)V"⟩
abbrev cX3_start : ByteArray := prog_5_method_3_code
def yX3_start : MethodName := ⟨RX3, "start", "(LLightWheel$State;I)V"⟩
abbrev cX3_goOn : ByteArray := prog_5_method_4_code
def yX3_goOn : MethodName := ⟨RX3, "goOn", "(I)V"⟩
abbrev cX3_changeSpeed : ByteArray := prog_5_method_5_code
def yX3_changeSpeed : MethodName := ⟨RX3, "changeSpeed", "()V"⟩
abbrev cX3_turn : ByteArray := prog_5_method_6_code
def yX3_turn : MethodName := ⟨RX3, "turn", "()V"⟩
abbrev cX3_firstArmAt : ByteArray := prog_5_method_7_code
def yX3_firstArmAt : MethodName := ⟨RX3, "firstArmAt", "(I)I"⟩
abbrev cX3_secondArmAt : ByteArray := prog_5_method_8_code
def yX3_secondArmAt : MethodName := ⟨RX3, "secondArmAt", "(I)I"⟩
abbrev cX3_opposite : ByteArray := prog_5_method_9_code
def yX3_opposite : MethodName := ⟨RX3, "opposite", "(I)I"⟩
def RX4 : String := "LightWheel"
def TX4 : u_T := fun k => match k with
  | 0 => ("LightWheel", "now", "LLightWheel$State;", true)
  | 1 => ("LightWheel", "history", "[LLightWheel$State;", true)
  | 2 => ("LightWheel", "oldest", "I", false)
  | 3 => ("LightWheel", "historySize", "I", false)
  | 4 => ("LightWheel", "text", "[C", true)
  | 5 => ("LightWheel", "textLength", "I", false)
  | 6 => ("LightWheel", "reader", "LLightWheel$Reader;", true)
  | 7 => ("LightWheel", "sweep", "LLightWheel$Sweep;", true)
  | _ => ("LightWheel", "rightAlone", "[J", true)
def tyX4 : Nat → FieldType := fun k => match k with
  | 0 => .object "LightWheel$State"
  | 1 => .array (.object "LightWheel$State")
  | 2 => .int
  | 3 => .int
  | 4 => .array .char
  | 5 => .int
  | 6 => .object "LightWheel$Reader"
  | 7 => .object "LightWheel$Sweep"
  | _ => .array .long
abbrev wsX40 : List Cond := u_ws RX4 TX4 9
theorem nmX4 : ∀ a, a < 9 → ∀ b, b < 9 → a ≠ b → (TX4 a).2.1 ≠ (TX4 b).2.1 := by decide +kernel
theorem tyX4_ok : ∀ k, k < 9 → parseFieldDescriptor (TX4 k).2.2.1 = some (tyX4 k) := by decide +kernel
abbrev cX4_init : ByteArray := prog_1_method_1_code
def yX4_init : MethodName := ⟨RX4, "<init>", "()V"⟩
abbrev cX4_addPicture : ByteArray := prog_1_method_2_code
def yX4_addPicture : MethodName := ⟨RX4, "addPicture", "(I)I"⟩
abbrev cX4_paint : ByteArray := prog_1_method_3_code
def yX4_paint : MethodName := ⟨RX4, "paint", "(IIII)I"⟩
abbrev cX4_setPlace : ByteArray := prog_1_method_4_code
def yX4_setPlace : MethodName := ⟨RX4, "setPlace", "(III)I"⟩
abbrev cX4_setKind : ByteArray := prog_1_method_5_code
def yX4_setKind : MethodName := ⟨RX4, "setKind", "(II)I"⟩
abbrev cX4_append : ByteArray := prog_1_method_6_code
def yX4_append : MethodName := ⟨RX4, "append", "(I)I"⟩
abbrev cX4_clearText : ByteArray := prog_1_method_7_code
def yX4_clearText : MethodName := ⟨RX4, "clearText", "()I"⟩
abbrev cX4_load : ByteArray := prog_1_method_8_code
def yX4_load : MethodName := ⟨RX4, "load", "(I)I"⟩
abbrev cX4_setSecondArm : ByteArray := prog_1_method_9_code
def yX4_setSecondArm : MethodName := ⟨RX4, "setSecondArm", "(I)I"⟩
abbrev cX4_setBroken : ByteArray := prog_1_method_10_code
def yX4_setBroken : MethodName := ⟨RX4, "setBroken", "(III)I"⟩
abbrev cX4_set : ByteArray := prog_1_method_11_code
def yX4_set : MethodName := ⟨RX4, "set", "(II)I"⟩
abbrev cX4_run : ByteArray := prog_1_method_12_code
def yX4_run : MethodName := ⟨RX4, "run", "(I)I"⟩
abbrev cX4_undo : ByteArray := prog_1_method_13_code
def yX4_undo : MethodName := ⟨RX4, "undo", "()I"⟩
abbrev cX4_record : ByteArray := prog_1_method_14_code
def yX4_record : MethodName := ⟨RX4, "record", "()V"⟩
abbrev cX4_count : ByteArray := prog_1_method_15_code
def yX4_count : MethodName := ⟨RX4, "count", "(I)I"⟩
abbrev cX4_setting : ByteArray := prog_1_method_16_code
def yX4_setting : MethodName := ⟨RX4, "setting", "(I)I"⟩
abbrev cX4_picture : ByteArray := prog_1_method_17_code
def yX4_picture : MethodName := ⟨RX4, "picture", "(II)I"⟩
abbrev cX4_color : ByteArray := prog_1_method_18_code
def yX4_color : MethodName := ⟨RX4, "color", "(III)I"⟩
abbrev cX4_broken : ByteArray := prog_1_method_19_code
def yX4_broken : MethodName := ⟨RX4, "broken", "(II)I"⟩
abbrev cX4_place : ByteArray := prog_1_method_20_code
def yX4_place : MethodName := ⟨RX4, "place", "(III)I"⟩
abbrev cX4_columnAt : ByteArray := prog_1_method_21_code
def yX4_columnAt : MethodName := ⟨RX4, "columnAt", "(II)I"⟩
abbrev cX4_countLit : ByteArray := prog_1_method_22_code
def yX4_countLit : MethodName := ⟨RX4, "countLit", "()I"⟩
abbrev cX4_countNotAsWanted : ByteArray := prog_1_method_23_code
def yX4_countNotAsWanted : MethodName := ⟨RX4, "countNotAsWanted", "()I"⟩
abbrev cX4_ticksSinceWritten : ByteArray := prog_1_method_24_code
def yX4_ticksSinceWritten : MethodName := ⟨RX4, "ticksSinceWritten", "(II)I"⟩
abbrev cX4_ticksAround : ByteArray := prog_1_method_25_code
def yX4_ticksAround : MethodName := ⟨RX4, "ticksAround", "()I"⟩
abbrev cX4_gaps : ByteArray := prog_1_method_26_code
def yX4_gaps : MethodName := ⟨RX4, "gaps", "(I)I"⟩
abbrev cX4_bestSpeed : ByteArray := prog_1_method_27_code
def yX4_bestSpeed : MethodName := ⟨RX4, "bestSpeed", "(I)I"⟩
abbrev cX4_meetings : ByteArray := prog_1_method_28_code
def yX4_meetings : MethodName := ⟨RX4, "meetings", "(II)I"⟩
abbrev cX4_countRight : ByteArray := prog_1_method_29_code
def yX4_countRight : MethodName := ⟨RX4, "countRight", "(I)I"⟩
abbrev cX4_within : ByteArray := prog_1_method_30_code
def yX4_within : MethodName := ⟨RX4, "within", "(III)Z"⟩
abbrev cX4_colorIn : ByteArray := prog_1_method_31_code
def yX4_colorIn : MethodName := ⟨RX4, "colorIn", "(JI)I"⟩
abbrev cX4_withColor : ByteArray := prog_1_method_32_code
def yX4_withColor : MethodName := ⟨RX4, "withColor", "(JII)J"⟩
abbrev cX4_notDark : ByteArray := prog_1_method_33_code
def yX4_notDark : MethodName := ⟨RX4, "notDark", "(J)J"⟩
def RX5 : String := "LightWheelModel"
def TX5 : u_T := fun k => match k with
  | 0 => ("LightWheelModel", "m", "[I", true)
  | 1 => ("LightWheelModel", "written", "[I", true)
  | 2 => ("LightWheelModel", "spare", "[I", true)
  | 3 => ("LightWheelModel", "spareWritten", "[I", true)
  | 4 => ("LightWheelModel", "states", "[I", true)
  | 5 => ("LightWheelModel", "fifth", "[I", true)
  | 6 => ("LightWheelModel", "oldest", "I", false)
  | 7 => ("LightWheelModel", "stateCount", "I", false)
  | 8 => ("LightWheelModel", "text", "[I", true)
  | 9 => ("LightWheelModel", "textLength", "I", false)
  | 10 => ("LightWheelModel", "at", "I", false)
  | 11 => ("LightWheelModel", "read", "[I", true)
  | 12 => ("LightWheelModel", "columns", "I", false)
  | 13 => ("LightWheelModel", "told", "I", false)
  | 14 => ("LightWheelModel", "wants", "[I", true)
  | _ => ("LightWheelModel", "comes", "[I", true)
def tyX5 : Nat → FieldType := fun k => match k with
  | 0 => .array .int
  | 1 => .array .int
  | 2 => .array .int
  | 3 => .array .int
  | 4 => .array .int
  | 5 => .array .int
  | 6 => .int
  | 7 => .int
  | 8 => .array .int
  | 9 => .int
  | 10 => .int
  | 11 => .array .int
  | 12 => .int
  | 13 => .int
  | 14 => .array .int
  | _ => .array .int
abbrev wsX50 : List Cond := u_ws RX5 TX5 16
theorem nmX5 : ∀ a, a < 16 → ∀ b, b < 16 → a ≠ b → (TX5 a).2.1 ≠ (TX5 b).2.1 := by decide +kernel
theorem tyX5_ok : ∀ k, k < 16 → parseFieldDescriptor (TX5 k).2.2.1 = some (tyX5 k) := by decide +kernel
abbrev cX5_init : ByteArray := prog_7_method_1_code
def yX5_init : MethodName := ⟨RX5, "<init>", "()V"⟩
abbrev cX5_in : ByteArray := prog_7_method_2_code
def yX5_in : MethodName := ⟨RX5, "in", "(III)Z"⟩
abbrev cX5_size : ByteArray := prog_7_method_3_code
def yX5_size : MethodName := ⟨RX5, "size", "(I)I"⟩
abbrev cX5_lesser : ByteArray := prog_7_method_4_code
def yX5_lesser : MethodName := ⟨RX5, "lesser", "(II)I"⟩
abbrev cX5_around : ByteArray := prog_7_method_5_code
def yX5_around : MethodName := ⟨RX5, "around", "(I)I"⟩
abbrev cX5_past : ByteArray := prog_7_method_6_code
def yX5_past : MethodName := ⟨RX5, "past", "(II)I"⟩
abbrev cX5_lay : ByteArray := prog_7_method_7_code
def yX5_lay : MethodName := ⟨RX5, "lay", "(III)V"⟩
abbrev cX5_record : ByteArray := prog_7_method_8_code
def yX5_record : MethodName := ⟨RX5, "record", "()V"⟩
abbrev cX5_undo : ByteArray := prog_7_method_9_code
def yX5_undo : MethodName := ⟨RX5, "undo", "()I"⟩
abbrev cX5_setAside : ByteArray := prog_7_method_10_code
def yX5_setAside : MethodName := ⟨RX5, "setAside", "()V"⟩
abbrev cX5_bringBack : ByteArray := prog_7_method_11_code
def yX5_bringBack : MethodName := ⟨RX5, "bringBack", "()V"⟩
abbrev cX5_isPicture : ByteArray := prog_7_method_12_code
def yX5_isPicture : MethodName := ⟨RX5, "isPicture", "(I)Z"⟩
abbrev cX5_of : ByteArray := prog_7_method_13_code
def yX5_of : MethodName := ⟨RX5, "of", "(II)I"⟩
abbrev cX5_isLight : ByteArray := prog_7_method_14_code
def yX5_isLight : MethodName := ⟨RX5, "isLight", "(I)Z"⟩
abbrev cX5_cellOf : ByteArray := prog_7_method_15_code
def yX5_cellOf : MethodName := ⟨RX5, "cellOf", "(III)I"⟩
abbrev cX5_colorOf : ByteArray := prog_7_method_16_code
def yX5_colorOf : MethodName := ⟨RX5, "colorOf", "(III)I"⟩
abbrev cX5_putColor : ByteArray := prog_7_method_17_code
def yX5_putColor : MethodName := ⟨RX5, "putColor", "(IIII)V"⟩
abbrev cX5_covered : ByteArray := prog_7_method_18_code
def yX5_covered : MethodName := ⟨RX5, "covered", "(I)I"⟩
abbrev cX5_columnOf : ByteArray := prog_7_method_19_code
def yX5_columnOf : MethodName := ⟨RX5, "columnOf", "(II)I"⟩
abbrev cX5_wanted : ByteArray := prog_7_method_20_code
def yX5_wanted : MethodName := ⟨RX5, "wanted", "(II)I"⟩
abbrev cX5_addPicture : ByteArray := prog_7_method_21_code
def yX5_addPicture : MethodName := ⟨RX5, "addPicture", "(I)I"⟩
abbrev cX5_paint : ByteArray := prog_7_method_22_code
def yX5_paint : MethodName := ⟨RX5, "paint", "(IIII)I"⟩
abbrev cX5_setPlace : ByteArray := prog_7_method_23_code
def yX5_setPlace : MethodName := ⟨RX5, "setPlace", "(III)I"⟩
abbrev cX5_put : ByteArray := prog_7_method_24_code
def yX5_put : MethodName := ⟨RX5, "put", "(II)I"⟩
abbrev cX5_setKind : ByteArray := prog_7_method_25_code
def yX5_setKind : MethodName := ⟨RX5, "setKind", "(II)I"⟩
abbrev cX5_append : ByteArray := prog_7_method_26_code
def yX5_append : MethodName := ⟨RX5, "append", "(I)I"⟩
abbrev cX5_clearText : ByteArray := prog_7_method_27_code
def yX5_clearText : MethodName := ⟨RX5, "clearText", "()I"⟩
abbrev cX5_here : ByteArray := prog_7_method_28_code
def yX5_here : MethodName := ⟨RX5, "here", "()I"⟩
abbrev cX5_skip : ByteArray := prog_7_method_29_code
def yX5_skip : MethodName := ⟨RX5, "skip", "()V"⟩
abbrev cX5_isColor : ByteArray := prog_7_method_30_code
def yX5_isColor : MethodName := ⟨RX5, "isColor", "()Z"⟩
abbrev cX5_takeColor : ByteArray := prog_7_method_31_code
def yX5_takeColor : MethodName := ⟨RX5, "takeColor", "(I)V"⟩
abbrev cX5_readNumber : ByteArray := prog_7_method_32_code
def yX5_readNumber : MethodName := ⟨RX5, "readNumber", "()I"⟩
abbrev cX5_readPart : ByteArray := prog_7_method_33_code
def yX5_readPart : MethodName := ⟨RX5, "readPart", "()Z"⟩
abbrev cX5_readText : ByteArray := prog_7_method_34_code
def yX5_readText : MethodName := ⟨RX5, "readText", "()Z"⟩
abbrev cX5_load : ByteArray := prog_7_method_35_code
def yX5_load : MethodName := ⟨RX5, "load", "(I)I"⟩
abbrev cX5_setSecondArm : ByteArray := prog_7_method_36_code
def yX5_setSecondArm : MethodName := ⟨RX5, "setSecondArm", "(I)I"⟩
abbrev cX5_isBroken : ByteArray := prog_7_method_37_code
def yX5_isBroken : MethodName := ⟨RX5, "isBroken", "(II)Z"⟩
abbrev cX5_setBroken : ByteArray := prog_7_method_38_code
def yX5_setBroken : MethodName := ⟨RX5, "setBroken", "(III)I"⟩
abbrev cX5_isSetting : ByteArray := prog_7_method_39_code
def yX5_isSetting : MethodName := ⟨RX5, "isSetting", "(II)Z"⟩
abbrev cX5_set : ByteArray := prog_7_method_40_code
def yX5_set : MethodName := ⟨RX5, "set", "(II)I"⟩
abbrev cX5_layWants : ByteArray := prog_7_method_41_code
def yX5_layWants : MethodName := ⟨RX5, "layWants", "()V"⟩
abbrev cX5_newSpeed : ByteArray := prog_7_method_42_code
def yX5_newSpeed : MethodName := ⟨RX5, "newSpeed", "()V"⟩
abbrev cX5_writes : ByteArray := prog_7_method_43_code
def yX5_writes : MethodName := ⟨RX5, "writes", "(II)I"⟩
abbrev cX5_tick : ByteArray := prog_7_method_44_code
def yX5_tick : MethodName := ⟨RX5, "tick", "()V"⟩
abbrev cX5_goOn : ByteArray := prog_7_method_45_code
def yX5_goOn : MethodName := ⟨RX5, "goOn", "(I)V"⟩
abbrev cX5_run : ByteArray := prog_7_method_46_code
def yX5_run : MethodName := ⟨RX5, "run", "(I)I"⟩
abbrev cX5_ago : ByteArray := prog_7_method_47_code
def yX5_ago : MethodName := ⟨RX5, "ago", "(I)I"⟩
abbrev cX5_lit : ByteArray := prog_7_method_48_code
def yX5_lit : MethodName := ⟨RX5, "lit", "(I)I"⟩
abbrev cX5_litPlaces : ByteArray := prog_7_method_49_code
def yX5_litPlaces : MethodName := ⟨RX5, "litPlaces", "(Z)I"⟩
abbrev cX5_wrongPlaces : ByteArray := prog_7_method_50_code
def yX5_wrongPlaces : MethodName := ⟨RX5, "wrongPlaces", "()I"⟩
abbrev cX5_count : ByteArray := prog_7_method_51_code
def yX5_count : MethodName := ⟨RX5, "count", "(I)I"⟩
abbrev cX5_setting : ByteArray := prog_7_method_52_code
def yX5_setting : MethodName := ⟨RX5, "setting", "(I)I"⟩
abbrev cX5_bright : ByteArray := prog_7_method_53_code
def yX5_bright : MethodName := ⟨RX5, "bright", "(I)I"⟩
abbrev cX5_picture : ByteArray := prog_7_method_54_code
def yX5_picture : MethodName := ⟨RX5, "picture", "(II)I"⟩
abbrev cX5_color : ByteArray := prog_7_method_55_code
def yX5_color : MethodName := ⟨RX5, "color", "(III)I"⟩
abbrev cX5_broken : ByteArray := prog_7_method_56_code
def yX5_broken : MethodName := ⟨RX5, "broken", "(II)I"⟩
abbrev cX5_place : ByteArray := prog_7_method_57_code
def yX5_place : MethodName := ⟨RX5, "place", "(III)I"⟩
abbrev cX5_columnAt : ByteArray := prog_7_method_58_code
def yX5_columnAt : MethodName := ⟨RX5, "columnAt", "(II)I"⟩
abbrev cX5_ticksAround : ByteArray := prog_7_method_59_code
def yX5_ticksAround : MethodName := ⟨RX5, "ticksAround", "()I"⟩
abbrev cX5_isCovered : ByteArray := prog_7_method_60_code
def yX5_isCovered : MethodName := ⟨RX5, "isCovered", "(I)Z"⟩
abbrev cX5_mark : ByteArray := prog_7_method_61_code
def yX5_mark : MethodName := ⟨RX5, "mark", "()V"⟩
abbrev cX5_gaps : ByteArray := prog_7_method_62_code
def yX5_gaps : MethodName := ⟨RX5, "gaps", "(I)I"⟩
abbrev cX5_bestSpeed : ByteArray := prog_7_method_63_code
def yX5_bestSpeed : MethodName := ⟨RX5, "bestSpeed", "(I)I"⟩
abbrev cX5_meets : ByteArray := prog_7_method_64_code
def yX5_meets : MethodName := ⟨RX5, "meets", "(IIII)Z"⟩
abbrev cX5_meetings : ByteArray := prog_7_method_65_code
def yX5_meetings : MethodName := ⟨RX5, "meetings", "(II)I"⟩
def RJ13 : String := "java/lang/Long"
def TJ13 : u_T := fun k => match k with
  | _ => ("", "", "", false)
def tyJ13 : Nat → FieldType := fun k => match k with
  | _ => .int
abbrev wsJ130 : List Cond := u_ws RJ13 TJ13 0
theorem nmJ13 : ∀ a, a < 0 → ∀ b, b < 0 → a ≠ b → (TJ13 a).2.1 ≠ (TJ13 b).2.1 := by decide +kernel
theorem tyJ13_ok : ∀ k, k < 0 → parseFieldDescriptor (TJ13 k).2.2.1 = some (tyJ13 k) := by decide +kernel
abbrev cJ13_bitCount_95d88 : ByteArray := prog_8_method_50_code
def yJ13_bitCount_95d88 : MethodName := ⟨RJ13, "bitCount", "(J)I"⟩
def RJ9 : String := "java/lang/Math"
def TJ9 : u_T := fun k => match k with
  | _ => ("", "", "", false)
def tyJ9 : Nat → FieldType := fun k => match k with
  | _ => .int
abbrev wsJ90 : List Cond := u_ws RJ9 TJ9 0
theorem nmJ9 : ∀ a, a < 0 → ∀ b, b < 0 → a ≠ b → (TJ9 a).2.1 ≠ (TJ9 b).2.1 := by decide +kernel
theorem tyJ9_ok : ∀ k, k < 0 → parseFieldDescriptor (TJ9 k).2.2.1 = some (tyJ9 k) := by decide +kernel
abbrev cJ9_floorMod_7cf53 : ByteArray := prog_9_method_50_code
def yJ9_floorMod_7cf53 : MethodName := ⟨RJ9, "floorMod", "(II)I"⟩
abbrev cJ9_abs_0f7a4 : ByteArray := prog_9_method_59_code
def yJ9_abs_0f7a4 : MethodName := ⟨RJ9, "abs", "(I)I"⟩
abbrev cJ9_max_7cf53 : ByteArray := prog_9_method_65_code
def yJ9_max_7cf53 : MethodName := ⟨RJ9, "max", "(II)I"⟩
abbrev cJ9_min_7cf53 : ByteArray := prog_9_method_69_code
def yJ9_min_7cf53 : MethodName := ⟨RJ9, "min", "(II)I"⟩
def RJ10 : String := "java/lang/System"
def TJ10 : u_T := fun k => match k with
  | _ => ("", "", "", false)
def tyJ10 : Nat → FieldType := fun k => match k with
  | _ => .int
abbrev wsJ100 : List Cond := u_ws RJ10 TJ10 0
theorem nmJ10 : ∀ a, a < 0 → ∀ b, b < 0 → a ≠ b → (TJ10 a).2.1 ≠ (TJ10 b).2.1 := by decide +kernel
theorem tyJ10_ok : ∀ k, k < 0 → parseFieldDescriptor (TJ10 k).2.2.1 = some (tyJ10 k) := by decide +kernel
def RL : String := "LightWheelLaw"
abbrev cL_law : ByteArray := code
def yL_law : MethodName := ⟨RL, "law", "([I)Z"⟩
def wsX0_init : List Cond := .code yX0_init cX0_init 1 none :: ([.methodLink RX0 3 objectInit, .instanceMethod objectInit, .code objectInit ⟨#[0xb1]⟩ 1 none, .fieldLink RX0 9 "LightWheel$Picture" "width" "I", .fieldLink RX0 15 "LightWheel$Picture" "first" "I", .fieldLink RX0 18 "LightWheel$Picture" "step" "I", .fieldLink RX0 21 "LightWheel$Picture" "kind" "I", .arrayClass .long, .fieldLink RX0 24 "LightWheel$Picture" "columns" "[J"] ++ wsX00)
def wsX0_copyFrom : List Cond := .code yX0_copyFrom cX0_copyFrom 2 none :: ([.fieldLink RX0 9 "LightWheel$Picture" "width" "I", .fieldLink RX0 15 "LightWheel$Picture" "first" "I", .fieldLink RX0 18 "LightWheel$Picture" "step" "I", .fieldLink RX0 21 "LightWheel$Picture" "kind" "I", .fieldLink RX0 24 "LightWheel$Picture" "columns" "[J", .methodLink RX0 28 arraycopyName, .native arraycopyName, .static arraycopyName, .initialized "java/lang/System"] ++ wsX00)
def wsX0_coveredAngles : List Cond := .code yX0_coveredAngles cX0_coveredAngles 1 (some .int) :: ([.fieldLink RX0 9 "LightWheel$Picture" "width" "I", .fieldLink RX0 18 "LightWheel$Picture" "step" "I", .methodLink RX0 34 Lib.Math.min.name, .static Lib.Math.min.name, .initialized "java/lang/Math", .code Lib.Math.min.name Lib.Math.min.code 2 (some .int)] ++ wsX00)
def wsJ9_floorMod_7cf53 : List Cond := .code yJ9_floorMod_7cf53 cJ9_floorMod_7cf53 3 (some .int) :: ([])
def wsX0_covers : List Cond := .code yX0_covers cX0_covers 2 (some .boolean) :: ([.fieldLink RX0 15 "LightWheel$Picture" "first" "I", .methodLink RX0 40 yJ9_floorMod_7cf53, .static yJ9_floorMod_7cf53, .initialized RJ9, .code yJ9_floorMod_7cf53 cJ9_floorMod_7cf53 3 (some .int), .methodLink RX0 43 yX0_coveredAngles, .instanceMethod yX0_coveredAngles, .selects RX0 yX0_coveredAngles yX0_coveredAngles, .initialized RX0, .code yX0_coveredAngles cX0_coveredAngles 1 (some .int), .fieldLink RX0 9 "LightWheel$Picture" "width" "I", .fieldLink RX0 18 "LightWheel$Picture" "step" "I", .methodLink RX0 34 Lib.Math.min.name, .static Lib.Math.min.name, .initialized "java/lang/Math", .code Lib.Math.min.name Lib.Math.min.code 2 (some .int)] ++ wsX00)
def wsX0_columnOf : List Cond := .code yX0_columnOf cX0_columnOf 3 (some .int) :: ([.fieldLink RX0 15 "LightWheel$Picture" "first" "I", .fieldLink RX0 18 "LightWheel$Picture" "step" "I", .fieldLink RX0 21 "LightWheel$Picture" "kind" "I", .fieldLink RX0 9 "LightWheel$Picture" "width" "I", .methodLink RX0 40 yJ9_floorMod_7cf53, .static yJ9_floorMod_7cf53, .initialized RJ9, .code yJ9_floorMod_7cf53 cJ9_floorMod_7cf53 3 (some .int)] ++ wsX00)
def wsX0_wantedAt_r1 : List Cond := [Cond.fieldLink RX0 21 "LightWheel$Picture" "kind" "I", Cond.fieldLink RX0 24 "LightWheel$Picture" "columns" "[J", Cond.methodLink RX0 47 yX0_covers, Cond.instanceMethod yX0_covers, Cond.selects RX0 yX0_covers yX0_covers, Cond.initialized RX0, Cond.code yX0_covers cX0_covers 2 (some .boolean), Cond.fieldLink RX0 15 "LightWheel$Picture" "first" "I", Cond.methodLink RX0 40 yJ9_floorMod_7cf53, Cond.static yJ9_floorMod_7cf53, Cond.initialized RJ9, Cond.code yJ9_floorMod_7cf53 cJ9_floorMod_7cf53 3 (some .int), Cond.methodLink RX0 43 yX0_coveredAngles, Cond.instanceMethod yX0_coveredAngles, Cond.selects RX0 yX0_coveredAngles yX0_coveredAngles, Cond.code yX0_coveredAngles cX0_coveredAngles 1 (some .int), Cond.fieldLink RX0 9 "LightWheel$Picture" "width" "I", Cond.fieldLink RX0 18 "LightWheel$Picture" "step" "I", Cond.methodLink RX0 34 Lib.Math.min.name, Cond.static Lib.Math.min.name, Cond.initialized "java/lang/Math", Cond.code Lib.Math.min.name Lib.Math.min.code 2 (some .int), Cond.methodLink RX0 51 yX0_columnOf, Cond.instanceMethod yX0_columnOf]
def wsX0_wantedAt_r2 : List Cond := [Cond.selects RX0 yX0_columnOf yX0_columnOf, Cond.code yX0_columnOf cX0_columnOf 3 (some .int)]
def wsX0_wantedAt : List Cond := .code yX0_wantedAt cX0_wantedAt 2 (some .long) :: ((wsX0_wantedAt_r1 ++ wsX0_wantedAt_r2) ++ wsX00)
def wsX4_notDark : List Cond := .code yX4_notDark cX4_notDark 2 (some .long) :: ([.constantLong RX4 223 (9817068105)])
def wsJ13_bitCount_95d88 : List Cond := .code yJ13_bitCount_95d88 cJ13_bitCount_95d88 2 (some .int) :: ([.constantLong RJ13 314 (6148914691236517205), .constantLong RJ13 316 (3689348814741910323), .constantLong RJ13 318 (1085102592571150095)])
def wsX0_countNotDark : List Cond := .code yX0_countNotDark cX0_countNotDark 3 (some .int) :: ([.fieldLink RX0 9 "LightWheel$Picture" "width" "I", .fieldLink RX0 24 "LightWheel$Picture" "columns" "[J", .static yX4_notDark, .initialized RX4, .code yX4_notDark cX4_notDark 2 (some .long), .constantLong RX4 223 (9817068105), .methodLink RX0 59 yJ13_bitCount_95d88, .static yJ13_bitCount_95d88, .initialized RJ13, .code yJ13_bitCount_95d88 cJ13_bitCount_95d88 2 (some .int), .constantLong RJ13 314 (6148914691236517205), .constantLong RJ13 316 (3689348814741910323), .constantLong RJ13 318 (1085102592571150095)] ++ wsX00)
def wsX1_init : List Cond := .code yX1_init cX1_init 1 none :: ([.methodLink RX1 3 objectInit, .instanceMethod objectInit, .code objectInit ⟨#[0xb1]⟩ 1 none, .arrayClass .long, .fieldLink RX1 9 "LightWheel$Reader" "columns" "[J"] ++ wsX10)
def wsX1_takeDigit : List Cond := .code yX1_takeDigit cX1_takeDigit 3 (some .int) :: ([.fieldLink RX1 32 "LightWheel$Reader" "number" "I", .fieldLink RX1 22 "LightWheel$Reader" "told" "I", .fieldLink RX1 29 "LightWheel$Reader" "numberStart" "I", .fieldLink RX1 19 "LightWheel$Reader" "awaited" "I"] ++ wsX10)
def wsX1_takeBracket : List Cond := .code yX1_takeBracket cX1_takeBracket 3 (some .int) :: ([.fieldLink RX1 19 "LightWheel$Reader" "awaited" "I"] ++ wsX10)
def wsX4_withColor : List Cond := .code yX4_withColor cX4_withColor 5 (some .long) :: ([.constantLong RX4 235 (7), .constantLong RX4 119 (-1)])
def wsX1_takeColor : List Cond := .code yX1_takeColor cX1_takeColor 6 (some .int) :: ([.fieldLink RX1 22 "LightWheel$Reader" "told" "I", .fieldLink RX1 9 "LightWheel$Reader" "columns" "[J", .fieldLink RX1 15 "LightWheel$Reader" "columnCount" "I", .fieldLink RX1 19 "LightWheel$Reader" "awaited" "I", .static yX4_withColor, .initialized RX4, .code yX4_withColor cX4_withColor 5 (some .long), .constantLong RX4 235 (7), .constantLong RX4 119 (-1)] ++ wsX10)
def wsX1_takeSemicolon : List Cond := .code yX1_takeSemicolon cX1_takeSemicolon 2 (some .int) :: ([.fieldLink RX1 15 "LightWheel$Reader" "columnCount" "I", .fieldLink RX1 22 "LightWheel$Reader" "told" "I"] ++ wsX10)
def wsX1_takePart : List Cond := .code yX1_takePart cX1_takePart 3 (some .int) :: ([.fieldLink RX1 19 "LightWheel$Reader" "awaited" "I", .methodLink RX1 48 yX1_takeSemicolon, .instanceMethod yX1_takeSemicolon, .selects RX1 yX1_takeSemicolon yX1_takeSemicolon, .initialized RX1, .code yX1_takeSemicolon cX1_takeSemicolon 2 (some .int), .fieldLink RX1 15 "LightWheel$Reader" "columnCount" "I", .fieldLink RX1 22 "LightWheel$Reader" "told" "I", .methodLink RX1 41 yX1_takeColor, .instanceMethod yX1_takeColor, .selects RX1 yX1_takeColor yX1_takeColor, .code yX1_takeColor cX1_takeColor 6 (some .int), .fieldLink RX1 9 "LightWheel$Reader" "columns" "[J", .static yX4_withColor, .initialized RX4, .code yX4_withColor cX4_withColor 5 (some .long), .constantLong RX4 235 (7), .constantLong RX4 119 (-1)] ++ wsX10)
def wsX1_take_r1 : List Cond := [Cond.fieldLink RX1 19 "LightWheel$Reader" "awaited" "I", Cond.fieldLink RX1 29 "LightWheel$Reader" "numberStart" "I", Cond.fieldLink RX1 32 "LightWheel$Reader" "number" "I", Cond.methodLink RX1 35 yX1_takeDigit, Cond.instanceMethod yX1_takeDigit, Cond.selects RX1 yX1_takeDigit yX1_takeDigit, Cond.initialized RX1, Cond.code yX1_takeDigit cX1_takeDigit 3 (some .int), Cond.fieldLink RX1 22 "LightWheel$Reader" "told" "I", Cond.methodLink RX1 38 yX1_takeBracket, Cond.instanceMethod yX1_takeBracket, Cond.selects RX1 yX1_takeBracket yX1_takeBracket, Cond.code yX1_takeBracket cX1_takeBracket 3 (some .int), Cond.methodLink RX1 41 yX1_takeColor, Cond.instanceMethod yX1_takeColor, Cond.selects RX1 yX1_takeColor yX1_takeColor, Cond.code yX1_takeColor cX1_takeColor 6 (some .int), Cond.fieldLink RX1 9 "LightWheel$Reader" "columns" "[J", Cond.fieldLink RX1 15 "LightWheel$Reader" "columnCount" "I", Cond.static yX4_withColor, Cond.initialized RX4, Cond.code yX4_withColor cX4_withColor 5 (some .long), Cond.constantLong RX4 235 (7), Cond.constantLong RX4 119 (-1)]
def wsX1_take_r2 : List Cond := [Cond.methodLink RX1 45 yX1_takePart, Cond.instanceMethod yX1_takePart, Cond.selects RX1 yX1_takePart yX1_takePart, Cond.code yX1_takePart cX1_takePart 3 (some .int), Cond.methodLink RX1 48 yX1_takeSemicolon, Cond.instanceMethod yX1_takeSemicolon, Cond.selects RX1 yX1_takeSemicolon yX1_takeSemicolon, Cond.code yX1_takeSemicolon cX1_takeSemicolon 2 (some .int)]
def wsX1_take : List Cond := .code yX1_take cX1_take 3 (some .int) :: ((wsX1_take_r1 ++ wsX1_take_r2) ++ wsX10)
def wsX1_read_r1 : List Cond := [Cond.fieldLink RX1 15 "LightWheel$Reader" "columnCount" "I", Cond.fieldLink RX1 19 "LightWheel$Reader" "awaited" "I", Cond.fieldLink RX1 22 "LightWheel$Reader" "told" "I", Cond.fieldLink RX1 9 "LightWheel$Reader" "columns" "[J", Cond.methodLink RX1 25 yX1_take, Cond.instanceMethod yX1_take, Cond.selects RX1 yX1_take yX1_take, Cond.initialized RX1, Cond.code yX1_take cX1_take 3 (some .int), Cond.fieldLink RX1 29 "LightWheel$Reader" "numberStart" "I", Cond.fieldLink RX1 32 "LightWheel$Reader" "number" "I", Cond.methodLink RX1 35 yX1_takeDigit, Cond.instanceMethod yX1_takeDigit, Cond.selects RX1 yX1_takeDigit yX1_takeDigit, Cond.code yX1_takeDigit cX1_takeDigit 3 (some .int), Cond.methodLink RX1 38 yX1_takeBracket, Cond.instanceMethod yX1_takeBracket, Cond.selects RX1 yX1_takeBracket yX1_takeBracket, Cond.code yX1_takeBracket cX1_takeBracket 3 (some .int), Cond.methodLink RX1 41 yX1_takeColor, Cond.instanceMethod yX1_takeColor, Cond.selects RX1 yX1_takeColor yX1_takeColor, Cond.code yX1_takeColor cX1_takeColor 6 (some .int), Cond.static yX4_withColor]
def wsX1_read_r2 : List Cond := [Cond.initialized RX4, Cond.code yX4_withColor cX4_withColor 5 (some .long), Cond.constantLong RX4 235 (7), Cond.constantLong RX4 119 (-1), Cond.methodLink RX1 45 yX1_takePart, Cond.instanceMethod yX1_takePart, Cond.selects RX1 yX1_takePart yX1_takePart, Cond.code yX1_takePart cX1_takePart 3 (some .int), Cond.methodLink RX1 48 yX1_takeSemicolon, Cond.instanceMethod yX1_takeSemicolon, Cond.selects RX1 yX1_takeSemicolon yX1_takeSemicolon, Cond.code yX1_takeSemicolon cX1_takeSemicolon 2 (some .int)]
def wsX1_read : List Cond := .code yX1_read cX1_read 5 (some .int) :: ((wsX1_read_r1 ++ wsX1_read_r2) ++ wsX10)
def wsX2_init_r1 : List Cond := [Cond.methodLink RX2 3 objectInit, Cond.instanceMethod objectInit, Cond.code objectInit ⟨#[0xb1]⟩ 1 none, Cond.fieldLink RX2 9 "LightWheel$State" "pictureCount" "I", Cond.classLink RX2 15 RX0, Cond.fieldLink RX2 17 "LightWheel$State" "pictures" "[LLightWheel$Picture;", Cond.fieldLink RX2 21 "LightWheel$State" "angle" "I", Cond.fieldLink RX2 24 "LightWheel$State" "speed" "I", Cond.fieldLink RX2 27 "LightWheel$State" "ticks" "I", Cond.fieldLink RX2 30 "LightWheel$State" "load" "I", Cond.fieldLink RX2 33 "LightWheel$State" "secondArm" "I", Cond.arrayClass .int, Cond.fieldLink RX2 36 "LightWheel$State" "settings" "[I", Cond.arrayClass .long, Cond.constantLong RX2 40 (9817068105), Cond.fieldLink RX2 42 "LightWheel$State" "working" "[J", Cond.fieldLink RX2 46 "LightWheel$State" "written" "[J", Cond.fieldLink RX2 49 "LightWheel$State" "writtenIn" "[I", Cond.instantiable RX0 5, Cond.initialized RX0, Cond.instanceMethod yX0_init, Cond.code yX0_init cX0_init 1 none, Cond.methodLink RX0 3 objectInit, Cond.fieldLink RX0 9 "LightWheel$Picture" "width" "I"]
def wsX2_init_r2 : List Cond := [Cond.fieldLink RX0 15 "LightWheel$Picture" "first" "I", Cond.fieldLink RX0 18 "LightWheel$Picture" "step" "I", Cond.fieldLink RX0 21 "LightWheel$Picture" "kind" "I", Cond.fieldLink RX0 24 "LightWheel$Picture" "columns" "[J"]
def wsX2_init : List Cond := .code yX2_init cX2_init 2 none :: ((wsX2_init_r1 ++ wsX2_init_r2) ++ wsX20 ++ wsX00)
def wsX2_copyFrom_r1 : List Cond := [Cond.fieldLink RX2 9 "LightWheel$State" "pictureCount" "I", Cond.fieldLink RX2 17 "LightWheel$State" "pictures" "[LLightWheel$Picture;", Cond.fieldLink RX2 21 "LightWheel$State" "angle" "I", Cond.fieldLink RX2 24 "LightWheel$State" "speed" "I", Cond.fieldLink RX2 27 "LightWheel$State" "ticks" "I", Cond.fieldLink RX2 30 "LightWheel$State" "load" "I", Cond.fieldLink RX2 33 "LightWheel$State" "secondArm" "I", Cond.fieldLink RX2 36 "LightWheel$State" "settings" "[I", Cond.methodLink RX2 57 arraycopyName, Cond.native arraycopyName, Cond.static arraycopyName, Cond.initialized "java/lang/System", Cond.fieldLink RX2 42 "LightWheel$State" "working" "[J", Cond.fieldLink RX2 46 "LightWheel$State" "written" "[J", Cond.fieldLink RX2 49 "LightWheel$State" "writtenIn" "[I", Cond.methodLink RX2 53 yX0_copyFrom, Cond.instanceMethod yX0_copyFrom, Cond.selects RX0 yX0_copyFrom yX0_copyFrom, Cond.initialized RX0, Cond.code yX0_copyFrom cX0_copyFrom 2 none, Cond.fieldLink RX0 9 "LightWheel$Picture" "width" "I", Cond.fieldLink RX0 15 "LightWheel$Picture" "first" "I", Cond.fieldLink RX0 18 "LightWheel$Picture" "step" "I", Cond.fieldLink RX0 21 "LightWheel$Picture" "kind" "I"]
def wsX2_copyFrom_r2 : List Cond := [Cond.fieldLink RX0 24 "LightWheel$Picture" "columns" "[J", Cond.methodLink RX0 28 arraycopyName]
def wsX2_copyFrom : List Cond := .code yX2_copyFrom cX2_copyFrom 3 none :: ((wsX2_copyFrom_r1 ++ wsX2_copyFrom_r2) ++ wsX20 ++ wsX00)
def wsX4_within : List Cond := .code yX4_within cX4_within 3 (some .boolean) :: ([])
def wsX2_pictureNumbered : List Cond := .code yX2_pictureNumbered cX2_pictureNumbered 2 (some (.object "LightWheel$Picture")) :: ([.fieldLink RX2 9 "LightWheel$State" "pictureCount" "I", .fieldLink RX2 17 "LightWheel$State" "pictures" "[LLightWheel$Picture;", .static yX4_within, .initialized RX4, .code yX4_within cX4_within 3 (some .boolean)] ++ wsX20)
def wsX2_works : List Cond := .code yX2_works cX2_works 3 (some .boolean) :: ([.fieldLink RX2 42 "LightWheel$State" "working" "[J"] ++ wsX20)
def wsX2_wantedAt_r1 : List Cond := [Cond.fieldLink RX2 9 "LightWheel$State" "pictureCount" "I", Cond.fieldLink RX2 17 "LightWheel$State" "pictures" "[LLightWheel$Picture;", Cond.methodLink RX2 67 yX0_wantedAt, Cond.instanceMethod yX0_wantedAt, Cond.selects RX0 yX0_wantedAt yX0_wantedAt, Cond.initialized RX0, Cond.code yX0_wantedAt cX0_wantedAt 2 (some .long), Cond.fieldLink RX0 21 "LightWheel$Picture" "kind" "I", Cond.fieldLink RX0 24 "LightWheel$Picture" "columns" "[J", Cond.methodLink RX0 47 yX0_covers, Cond.instanceMethod yX0_covers, Cond.selects RX0 yX0_covers yX0_covers, Cond.code yX0_covers cX0_covers 2 (some .boolean), Cond.fieldLink RX0 15 "LightWheel$Picture" "first" "I", Cond.methodLink RX0 40 yJ9_floorMod_7cf53, Cond.static yJ9_floorMod_7cf53, Cond.initialized RJ9, Cond.code yJ9_floorMod_7cf53 cJ9_floorMod_7cf53 3 (some .int), Cond.methodLink RX0 43 yX0_coveredAngles, Cond.instanceMethod yX0_coveredAngles, Cond.selects RX0 yX0_coveredAngles yX0_coveredAngles, Cond.code yX0_coveredAngles cX0_coveredAngles 1 (some .int), Cond.fieldLink RX0 9 "LightWheel$Picture" "width" "I", Cond.fieldLink RX0 18 "LightWheel$Picture" "step" "I"]
def wsX2_wantedAt_r2 : List Cond := [Cond.methodLink RX0 34 Lib.Math.min.name, Cond.static Lib.Math.min.name, Cond.initialized "java/lang/Math", Cond.code Lib.Math.min.name Lib.Math.min.code 2 (some .int), Cond.methodLink RX0 51 yX0_columnOf, Cond.instanceMethod yX0_columnOf, Cond.selects RX0 yX0_columnOf yX0_columnOf, Cond.code yX0_columnOf cX0_columnOf 3 (some .int)]
def wsX2_wantedAt : List Cond := .code yX2_wantedAt cX2_wantedAt 5 (some .long) :: ((wsX2_wantedAt_r1 ++ wsX2_wantedAt_r2) ++ wsX20 ++ wsX00)
def wsX2_isCoveredAt : List Cond := .code yX2_isCoveredAt cX2_isCoveredAt 3 (some .boolean) :: ([.fieldLink RX2 9 "LightWheel$State" "pictureCount" "I", .fieldLink RX2 17 "LightWheel$State" "pictures" "[LLightWheel$Picture;", .fieldLink RX2 71 "LightWheel$Picture" "kind" "I", .methodLink RX2 74 yX0_covers, .instanceMethod yX0_covers, .selects RX0 yX0_covers yX0_covers, .initialized RX0, .code yX0_covers cX0_covers 2 (some .boolean), .fieldLink RX0 15 "LightWheel$Picture" "first" "I", .methodLink RX0 40 yJ9_floorMod_7cf53, .static yJ9_floorMod_7cf53, .initialized RJ9, .code yJ9_floorMod_7cf53 cJ9_floorMod_7cf53 3 (some .int), .methodLink RX0 43 yX0_coveredAngles, .instanceMethod yX0_coveredAngles, .selects RX0 yX0_coveredAngles yX0_coveredAngles, .code yX0_coveredAngles cX0_coveredAngles 1 (some .int), .fieldLink RX0 9 "LightWheel$Picture" "width" "I", .fieldLink RX0 18 "LightWheel$Picture" "step" "I", .methodLink RX0 34 Lib.Math.min.name, .static Lib.Math.min.name, .initialized "java/lang/Math", .code Lib.Math.min.name Lib.Math.min.code 2 (some .int)] ++ wsX20 ++ wsX00)
def wsX2_litAt : List Cond := .code yX2_litAt cX2_litAt 8 (some .long) :: ([.fieldLink RX2 27 "LightWheel$State" "ticks" "I", .fieldLink RX2 36 "LightWheel$State" "settings" "[I", .methodLink RX2 78 Lib.Math.max.name, .static Lib.Math.max.name, .initialized "java/lang/Math", .code Lib.Math.max.name Lib.Math.max.code 2 (some .int), .fieldLink RX2 49 "LightWheel$State" "writtenIn" "[I", .fieldLink RX2 46 "LightWheel$State" "written" "[J", .constantLong RX2 84 (7)] ++ wsX20)
def wsX3_firstArmAt : List Cond := .code yX3_firstArmAt cX3_firstArmAt 2 (some .int) :: ([.fieldLink RX3 19 "LightWheel$Sweep" "passedIn" "[I"] ++ wsX30)
def wsX2_writeArm : List Cond := .code yX2_writeArm cX2_writeArm 10 none :: ([.fieldLink RX2 42 "LightWheel$State" "working" "[J", .constantLong RX2 84 (7), .fieldLink RX2 46 "LightWheel$State" "written" "[J", .constantLong RX2 106 (-1), .fieldLink RX2 49 "LightWheel$State" "writtenIn" "[I", .fieldLink RX2 27 "LightWheel$State" "ticks" "I", .methodLink RX2 78 Lib.Math.max.name, .static Lib.Math.max.name, .initialized "java/lang/Math", .code Lib.Math.max.name Lib.Math.max.code 2 (some .int), .methodLink RX2 108 yX2_works, .instanceMethod yX2_works, .selects RX2 yX2_works yX2_works, .initialized RX2, .code yX2_works cX2_works 3 (some .boolean)] ++ wsX20)
def wsX3_opposite : List Cond := .code yX3_opposite cX3_opposite 1 (some .int) :: ([])
def wsX3_secondArmAt : List Cond := .code yX3_secondArmAt cX3_secondArmAt 2 (some .int) :: ([.fieldLink RX3 28 "LightWheel$Sweep" "secondArm" "Z", .fieldLink RX3 19 "LightWheel$Sweep" "passedIn" "[I", .methodLink RX3 57 yX3_opposite, .static yX3_opposite, .initialized RX3, .code yX3_opposite cX3_opposite 1 (some .int)] ++ wsX30)
def wsX2_write_r1 : List Cond := [Cond.fieldLink RX2 86 "LightWheel$Sweep" "wanted" "[J", Cond.fieldLink RX2 102 "LightWheel$Sweep" "angle" "I", Cond.fieldLink RX2 21 "LightWheel$State" "angle" "I", Cond.fieldLink RX2 103 "LightWheel$Sweep" "speed" "I", Cond.fieldLink RX2 24 "LightWheel$State" "speed" "I", Cond.fieldLink RX2 104 "LightWheel$Sweep" "load" "I", Cond.fieldLink RX2 30 "LightWheel$State" "load" "I", Cond.fieldLink RX2 27 "LightWheel$State" "ticks" "I", Cond.fieldLink RX2 105 "LightWheel$Sweep" "ticks" "I", Cond.methodLink RX2 91 yX3_firstArmAt, Cond.instanceMethod yX3_firstArmAt, Cond.selects RX3 yX3_firstArmAt yX3_firstArmAt, Cond.initialized RX3, Cond.code yX3_firstArmAt cX3_firstArmAt 2 (some .int), Cond.fieldLink RX3 19 "LightWheel$Sweep" "passedIn" "[I", Cond.methodLink RX2 95 yX2_writeArm, Cond.instanceMethod yX2_writeArm, Cond.selects RX2 yX2_writeArm yX2_writeArm, Cond.initialized RX2, Cond.code yX2_writeArm cX2_writeArm 10 none, Cond.fieldLink RX2 42 "LightWheel$State" "working" "[J", Cond.constantLong RX2 84 (7), Cond.fieldLink RX2 46 "LightWheel$State" "written" "[J", Cond.constantLong RX2 106 (-1)]
def wsX2_write_r2 : List Cond := [Cond.fieldLink RX2 49 "LightWheel$State" "writtenIn" "[I", Cond.methodLink RX2 78 Lib.Math.max.name, Cond.static Lib.Math.max.name, Cond.initialized "java/lang/Math", Cond.code Lib.Math.max.name Lib.Math.max.code 2 (some .int), Cond.methodLink RX2 108 yX2_works, Cond.instanceMethod yX2_works, Cond.selects RX2 yX2_works yX2_works, Cond.code yX2_works cX2_works 3 (some .boolean), Cond.methodLink RX2 99 yX3_secondArmAt, Cond.instanceMethod yX3_secondArmAt, Cond.selects RX3 yX3_secondArmAt yX3_secondArmAt, Cond.code yX3_secondArmAt cX3_secondArmAt 2 (some .int), Cond.fieldLink RX3 28 "LightWheel$Sweep" "secondArm" "Z", Cond.methodLink RX3 57 yX3_opposite, Cond.static yX3_opposite, Cond.code yX3_opposite cX3_opposite 1 (some .int)]
def wsX2_write : List Cond := .code yX2_write cX2_write 3 none :: ((wsX2_write_r1 ++ wsX2_write_r2) ++ wsX30 ++ wsX20)
def wsX3_init : List Cond := .code yX3_init cX3_init 1 none :: ([.methodLink RX3 3 objectInit, .instanceMethod objectInit, .code objectInit ⟨#[0xb1]⟩ 1 none, .arrayClass .long, .fieldLink RX3 9 "LightWheel$Sweep" "wanted" "[J", .arrayClass .int, .fieldLink RX3 15 "LightWheel$Sweep" "loadAt" "[I", .fieldLink RX3 19 "LightWheel$Sweep" "passedIn" "[I"] ++ wsX30)
def wsX3_prepare_r1 : List Cond := [Cond.fieldLink RX3 22 "LightWheel$State" "secondArm" "I", Cond.fieldLink RX3 28 "LightWheel$Sweep" "secondArm" "Z", Cond.fieldLink RX3 31 "LightWheel$State" "settings" "[I", Cond.fieldLink RX3 34 "LightWheel$Sweep" "power" "I", Cond.fieldLink RX3 37 "LightWheel$Sweep" "limit" "I", Cond.fieldLink RX3 9 "LightWheel$Sweep" "wanted" "[J", Cond.fieldLink RX3 15 "LightWheel$Sweep" "loadAt" "[I", Cond.fieldLink RX3 48 "LightWheel$State" "working" "[J", Cond.methodLink RX3 40 yX2_wantedAt, Cond.instanceMethod yX2_wantedAt, Cond.selects RX2 yX2_wantedAt yX2_wantedAt, Cond.initialized RX2, Cond.code yX2_wantedAt cX2_wantedAt 5 (some .long), Cond.fieldLink RX2 9 "LightWheel$State" "pictureCount" "I", Cond.fieldLink RX2 17 "LightWheel$State" "pictures" "[LLightWheel$Picture;", Cond.methodLink RX2 67 yX0_wantedAt, Cond.instanceMethod yX0_wantedAt, Cond.selects RX0 yX0_wantedAt yX0_wantedAt, Cond.initialized RX0, Cond.code yX0_wantedAt cX0_wantedAt 2 (some .long), Cond.fieldLink RX0 21 "LightWheel$Picture" "kind" "I", Cond.fieldLink RX0 24 "LightWheel$Picture" "columns" "[J", Cond.methodLink RX0 47 yX0_covers, Cond.instanceMethod yX0_covers]
def wsX3_prepare_r2 : List Cond := [Cond.selects RX0 yX0_covers yX0_covers, Cond.code yX0_covers cX0_covers 2 (some .boolean), Cond.fieldLink RX0 15 "LightWheel$Picture" "first" "I", Cond.methodLink RX0 40 yJ9_floorMod_7cf53, Cond.static yJ9_floorMod_7cf53, Cond.initialized RJ9, Cond.code yJ9_floorMod_7cf53 cJ9_floorMod_7cf53 3 (some .int), Cond.methodLink RX0 43 yX0_coveredAngles, Cond.instanceMethod yX0_coveredAngles, Cond.selects RX0 yX0_coveredAngles yX0_coveredAngles, Cond.code yX0_coveredAngles cX0_coveredAngles 1 (some .int), Cond.fieldLink RX0 9 "LightWheel$Picture" "width" "I", Cond.fieldLink RX0 18 "LightWheel$Picture" "step" "I", Cond.methodLink RX0 34 Lib.Math.min.name, Cond.static Lib.Math.min.name, Cond.initialized "java/lang/Math", Cond.code Lib.Math.min.name Lib.Math.min.code 2 (some .int), Cond.methodLink RX0 51 yX0_columnOf, Cond.instanceMethod yX0_columnOf, Cond.selects RX0 yX0_columnOf yX0_columnOf, Cond.code yX0_columnOf cX0_columnOf 3 (some .int), Cond.static yX4_notDark, Cond.initialized RX4, Cond.code yX4_notDark cX4_notDark 2 (some .long)]
def wsX3_prepare_r3 : List Cond := [Cond.constantLong RX4 223 (9817068105), Cond.methodLink RX3 51 yJ13_bitCount_95d88, Cond.static yJ13_bitCount_95d88, Cond.initialized RJ13, Cond.code yJ13_bitCount_95d88 cJ13_bitCount_95d88 2 (some .int), Cond.constantLong RJ13 314 (6148914691236517205), Cond.constantLong RJ13 316 (3689348814741910323), Cond.constantLong RJ13 318 (1085102592571150095), Cond.methodLink RX3 57 yX3_opposite, Cond.static yX3_opposite, Cond.initialized RX3, Cond.code yX3_opposite cX3_opposite 1 (some .int)]
def wsX3_prepare : List Cond := .code yX3_prepare cX3_prepare 3 none :: ((wsX3_prepare_r1 ++ (wsX3_prepare_r2 ++ wsX3_prepare_r3)) ++ wsX20 ++ wsX30 ++ wsX00)
def wsX3_start : List Cond := .code yX3_start cX3_start 4 none :: ([.fieldLink RX3 61 "LightWheel$Sweep" "wantedSpeed" "I", .fieldLink RX3 64 "LightWheel$State" "angle" "I", .fieldLink RX3 67 "LightWheel$Sweep" "angle" "I", .fieldLink RX3 68 "LightWheel$State" "speed" "I", .fieldLink RX3 71 "LightWheel$Sweep" "speed" "I", .fieldLink RX3 72 "LightWheel$State" "load" "I", .fieldLink RX3 75 "LightWheel$Sweep" "load" "I", .fieldLink RX3 76 "LightWheel$Sweep" "ticks" "I", .fieldLink RX3 19 "LightWheel$Sweep" "passedIn" "[I"] ++ wsX30 ++ wsX20)
def wsX3_changeSpeed : List Cond := .code yX3_changeSpeed cX3_changeSpeed 2 none :: ([.fieldLink RX3 75 "LightWheel$Sweep" "load" "I", .fieldLink RX3 37 "LightWheel$Sweep" "limit" "I", .fieldLink RX3 34 "LightWheel$Sweep" "power" "I", .fieldLink RX3 71 "LightWheel$Sweep" "speed" "I", .fieldLink RX3 61 "LightWheel$Sweep" "wantedSpeed" "I", .methodLink RX3 85 Lib.Math.min.name, .static Lib.Math.min.name, .initialized "java/lang/Math", .code Lib.Math.min.name Lib.Math.min.code 2 (some .int), .methodLink RX3 91 Lib.Math.max.name, .static Lib.Math.max.name, .code Lib.Math.max.name Lib.Math.max.code 2 (some .int)] ++ wsX30)
def wsX3_turn : List Cond := .code yX3_turn cX3_turn 3 none :: ([.fieldLink RX3 71 "LightWheel$Sweep" "speed" "I", .fieldLink RX3 75 "LightWheel$Sweep" "load" "I", .methodLink RX3 94 Lib.Math.abs.name, .static Lib.Math.abs.name, .initialized "java/lang/Math", .code Lib.Math.abs.name Lib.Math.abs.code 1 (some .int), .fieldLink RX3 67 "LightWheel$Sweep" "angle" "I", .fieldLink RX3 19 "LightWheel$Sweep" "passedIn" "[I", .fieldLink RX3 76 "LightWheel$Sweep" "ticks" "I", .fieldLink RX3 15 "LightWheel$Sweep" "loadAt" "[I", .methodLink RX3 97 yJ9_floorMod_7cf53, .static yJ9_floorMod_7cf53, .initialized RJ9, .code yJ9_floorMod_7cf53 cJ9_floorMod_7cf53 3 (some .int)] ++ wsX30)
def wsX3_goOn_r1 : List Cond := [Cond.fieldLink RX3 76 "LightWheel$Sweep" "ticks" "I", Cond.methodLink RX3 79 yX3_changeSpeed, Cond.instanceMethod yX3_changeSpeed, Cond.selects RX3 yX3_changeSpeed yX3_changeSpeed, Cond.initialized RX3, Cond.code yX3_changeSpeed cX3_changeSpeed 2 none, Cond.fieldLink RX3 75 "LightWheel$Sweep" "load" "I", Cond.fieldLink RX3 37 "LightWheel$Sweep" "limit" "I", Cond.fieldLink RX3 34 "LightWheel$Sweep" "power" "I", Cond.fieldLink RX3 71 "LightWheel$Sweep" "speed" "I", Cond.fieldLink RX3 61 "LightWheel$Sweep" "wantedSpeed" "I", Cond.methodLink RX3 85 Lib.Math.min.name, Cond.static Lib.Math.min.name, Cond.initialized "java/lang/Math", Cond.code Lib.Math.min.name Lib.Math.min.code 2 (some .int), Cond.methodLink RX3 91 Lib.Math.max.name, Cond.static Lib.Math.max.name, Cond.code Lib.Math.max.name Lib.Math.max.code 2 (some .int), Cond.methodLink RX3 82 yX3_turn, Cond.instanceMethod yX3_turn, Cond.selects RX3 yX3_turn yX3_turn, Cond.code yX3_turn cX3_turn 3 none, Cond.methodLink RX3 94 Lib.Math.abs.name, Cond.static Lib.Math.abs.name]
def wsX3_goOn_r2 : List Cond := [Cond.code Lib.Math.abs.name Lib.Math.abs.code 1 (some .int), Cond.fieldLink RX3 67 "LightWheel$Sweep" "angle" "I", Cond.fieldLink RX3 19 "LightWheel$Sweep" "passedIn" "[I", Cond.fieldLink RX3 15 "LightWheel$Sweep" "loadAt" "[I", Cond.methodLink RX3 97 yJ9_floorMod_7cf53, Cond.static yJ9_floorMod_7cf53, Cond.initialized RJ9, Cond.code yJ9_floorMod_7cf53 cJ9_floorMod_7cf53 3 (some .int)]
def wsX3_goOn : List Cond := .code yX3_goOn cX3_goOn 3 none :: ((wsX3_goOn_r1 ++ wsX3_goOn_r2) ++ wsX30)
def wsX4_init_r1 : List Cond := [Cond.methodLink RX4 1 objectInit, Cond.instanceMethod objectInit, Cond.code objectInit ⟨#[0xb1]⟩ 1 none, Cond.classLink RX4 7 RX2, Cond.instantiable RX2 11, Cond.initialized RX2, Cond.fieldLink RX4 10 "LightWheel" "now" "LLightWheel$State;", Cond.fieldLink RX4 16 "LightWheel" "history" "[LLightWheel$State;", Cond.fieldLink RX4 20 "LightWheel" "oldest" "I", Cond.fieldLink RX4 24 "LightWheel" "historySize" "I", Cond.arrayClass .char, Cond.fieldLink RX4 27 "LightWheel" "text" "[C", Cond.fieldLink RX4 31 "LightWheel" "textLength" "I", Cond.classLink RX4 34 RX1, Cond.instantiable RX1 6, Cond.initialized RX1, Cond.fieldLink RX4 37 "LightWheel" "reader" "LLightWheel$Reader;", Cond.classLink RX4 41 RX3, Cond.instantiable RX3 11, Cond.initialized RX3, Cond.fieldLink RX4 44 "LightWheel" "sweep" "LLightWheel$Sweep;", Cond.arrayClass .long, Cond.fieldLink RX4 48 "LightWheel" "rightAlone" "[J", Cond.methodLink RX4 9 yX2_init]
def wsX4_init_r2 : List Cond := [Cond.instanceMethod yX2_init, Cond.code yX2_init cX2_init 2 none, Cond.methodLink RX2 3 objectInit, Cond.fieldLink RX2 9 "LightWheel$State" "pictureCount" "I", Cond.classLink RX2 15 RX0, Cond.fieldLink RX2 17 "LightWheel$State" "pictures" "[LLightWheel$Picture;", Cond.fieldLink RX2 21 "LightWheel$State" "angle" "I", Cond.fieldLink RX2 24 "LightWheel$State" "speed" "I", Cond.fieldLink RX2 27 "LightWheel$State" "ticks" "I", Cond.fieldLink RX2 30 "LightWheel$State" "load" "I", Cond.fieldLink RX2 33 "LightWheel$State" "secondArm" "I", Cond.arrayClass .int, Cond.fieldLink RX2 36 "LightWheel$State" "settings" "[I", Cond.constantLong RX2 40 (9817068105), Cond.fieldLink RX2 42 "LightWheel$State" "working" "[J", Cond.fieldLink RX2 46 "LightWheel$State" "written" "[J", Cond.fieldLink RX2 49 "LightWheel$State" "writtenIn" "[I", Cond.instantiable RX0 5, Cond.initialized RX0, Cond.instanceMethod yX0_init, Cond.code yX0_init cX0_init 1 none, Cond.methodLink RX0 3 objectInit, Cond.fieldLink RX0 9 "LightWheel$Picture" "width" "I", Cond.fieldLink RX0 15 "LightWheel$Picture" "first" "I"]
def wsX4_init_r3 : List Cond := [Cond.fieldLink RX0 18 "LightWheel$Picture" "step" "I", Cond.fieldLink RX0 21 "LightWheel$Picture" "kind" "I", Cond.fieldLink RX0 24 "LightWheel$Picture" "columns" "[J", Cond.instanceMethod yX1_init, Cond.code yX1_init cX1_init 1 none, Cond.methodLink RX1 3 objectInit, Cond.fieldLink RX1 9 "LightWheel$Reader" "columns" "[J", Cond.instanceMethod yX3_init, Cond.code yX3_init cX3_init 1 none, Cond.methodLink RX3 3 objectInit, Cond.fieldLink RX3 9 "LightWheel$Sweep" "wanted" "[J", Cond.fieldLink RX3 15 "LightWheel$Sweep" "loadAt" "[I", Cond.fieldLink RX3 19 "LightWheel$Sweep" "passedIn" "[I"]
def wsX4_init : List Cond := .code yX4_init cX4_init 2 none :: ((wsX4_init_r1 ++ (wsX4_init_r2 ++ wsX4_init_r3)) ++ wsX20 ++ wsX40 ++ wsX10 ++ wsX30 ++ wsX00)
def wsX4_record_r1 : List Cond := [Cond.fieldLink RX4 24 "LightWheel" "historySize" "I", Cond.fieldLink RX4 20 "LightWheel" "oldest" "I", Cond.fieldLink RX4 16 "LightWheel" "history" "[LLightWheel$State;", Cond.fieldLink RX4 10 "LightWheel" "now" "LLightWheel$State;", Cond.methodLink RX4 153 yX2_copyFrom, Cond.instanceMethod yX2_copyFrom, Cond.selects RX2 yX2_copyFrom yX2_copyFrom, Cond.initialized RX2, Cond.code yX2_copyFrom cX2_copyFrom 3 none, Cond.fieldLink RX2 9 "LightWheel$State" "pictureCount" "I", Cond.fieldLink RX2 17 "LightWheel$State" "pictures" "[LLightWheel$Picture;", Cond.fieldLink RX2 21 "LightWheel$State" "angle" "I", Cond.fieldLink RX2 24 "LightWheel$State" "speed" "I", Cond.fieldLink RX2 27 "LightWheel$State" "ticks" "I", Cond.fieldLink RX2 30 "LightWheel$State" "load" "I", Cond.fieldLink RX2 33 "LightWheel$State" "secondArm" "I", Cond.fieldLink RX2 36 "LightWheel$State" "settings" "[I", Cond.methodLink RX2 57 arraycopyName, Cond.native arraycopyName, Cond.static arraycopyName, Cond.initialized "java/lang/System", Cond.fieldLink RX2 42 "LightWheel$State" "working" "[J", Cond.fieldLink RX2 46 "LightWheel$State" "written" "[J", Cond.fieldLink RX2 49 "LightWheel$State" "writtenIn" "[I"]
def wsX4_record_r2 : List Cond := [Cond.methodLink RX2 53 yX0_copyFrom, Cond.instanceMethod yX0_copyFrom, Cond.selects RX0 yX0_copyFrom yX0_copyFrom, Cond.initialized RX0, Cond.code yX0_copyFrom cX0_copyFrom 2 none, Cond.fieldLink RX0 9 "LightWheel$Picture" "width" "I", Cond.fieldLink RX0 15 "LightWheel$Picture" "first" "I", Cond.fieldLink RX0 18 "LightWheel$Picture" "step" "I", Cond.fieldLink RX0 21 "LightWheel$Picture" "kind" "I", Cond.fieldLink RX0 24 "LightWheel$Picture" "columns" "[J", Cond.methodLink RX0 28 arraycopyName]
def wsX4_record : List Cond := .code yX4_record cX4_record 1 none :: ((wsX4_record_r1 ++ wsX4_record_r2) ++ wsX40 ++ wsX20 ++ wsX00)
def wsX4_addPicture_r1 : List Cond := [Cond.fieldLink RX4 10 "LightWheel" "now" "LLightWheel$State;", Cond.fieldLink RX4 56 "LightWheel$State" "pictureCount" "I", Cond.fieldLink RX4 62 "LightWheel$State" "pictures" "[LLightWheel$Picture;", Cond.fieldLink RX4 66 "LightWheel$Picture" "width" "I", Cond.methodLink RX4 52 yX4_within, Cond.static yX4_within, Cond.initialized RX4, Cond.code yX4_within cX4_within 3 (some .boolean), Cond.methodLink RX4 59 yX4_record, Cond.instanceMethod yX4_record, Cond.selects RX4 yX4_record yX4_record, Cond.code yX4_record cX4_record 1 none, Cond.fieldLink RX4 24 "LightWheel" "historySize" "I", Cond.fieldLink RX4 20 "LightWheel" "oldest" "I", Cond.fieldLink RX4 16 "LightWheel" "history" "[LLightWheel$State;", Cond.methodLink RX4 153 yX2_copyFrom, Cond.instanceMethod yX2_copyFrom, Cond.selects RX2 yX2_copyFrom yX2_copyFrom, Cond.initialized RX2, Cond.code yX2_copyFrom cX2_copyFrom 3 none, Cond.fieldLink RX2 9 "LightWheel$State" "pictureCount" "I", Cond.fieldLink RX2 17 "LightWheel$State" "pictures" "[LLightWheel$Picture;", Cond.fieldLink RX2 21 "LightWheel$State" "angle" "I", Cond.fieldLink RX2 24 "LightWheel$State" "speed" "I"]
def wsX4_addPicture_r2 : List Cond := [Cond.fieldLink RX2 27 "LightWheel$State" "ticks" "I", Cond.fieldLink RX2 30 "LightWheel$State" "load" "I", Cond.fieldLink RX2 33 "LightWheel$State" "secondArm" "I", Cond.fieldLink RX2 36 "LightWheel$State" "settings" "[I", Cond.methodLink RX2 57 arraycopyName, Cond.native arraycopyName, Cond.static arraycopyName, Cond.initialized "java/lang/System", Cond.fieldLink RX2 42 "LightWheel$State" "working" "[J", Cond.fieldLink RX2 46 "LightWheel$State" "written" "[J", Cond.fieldLink RX2 49 "LightWheel$State" "writtenIn" "[I", Cond.methodLink RX2 53 yX0_copyFrom, Cond.instanceMethod yX0_copyFrom, Cond.selects RX0 yX0_copyFrom yX0_copyFrom, Cond.initialized RX0, Cond.code yX0_copyFrom cX0_copyFrom 2 none, Cond.fieldLink RX0 9 "LightWheel$Picture" "width" "I", Cond.fieldLink RX0 15 "LightWheel$Picture" "first" "I", Cond.fieldLink RX0 18 "LightWheel$Picture" "step" "I", Cond.fieldLink RX0 21 "LightWheel$Picture" "kind" "I", Cond.fieldLink RX0 24 "LightWheel$Picture" "columns" "[J", Cond.methodLink RX0 28 arraycopyName]
def wsX4_addPicture : List Cond := .code yX4_addPicture cX4_addPicture 3 (some .int) :: ((wsX4_addPicture_r1 ++ wsX4_addPicture_r2) ++ wsX40 ++ wsX20 ++ wsX00)
def wsX4_colorIn : List Cond := .code yX4_colorIn cX4_colorIn 3 (some .int) :: ([])
def wsX4_paint_r1 : List Cond := [Cond.fieldLink RX4 10 "LightWheel" "now" "LLightWheel$State;", Cond.fieldLink RX4 66 "LightWheel$Picture" "width" "I", Cond.fieldLink RX4 75 "LightWheel$Picture" "columns" "[J", Cond.methodLink RX4 71 yX2_pictureNumbered, Cond.instanceMethod yX2_pictureNumbered, Cond.selects RX2 yX2_pictureNumbered yX2_pictureNumbered, Cond.initialized RX2, Cond.code yX2_pictureNumbered cX2_pictureNumbered 2 (some (.object "LightWheel$Picture")), Cond.fieldLink RX2 9 "LightWheel$State" "pictureCount" "I", Cond.fieldLink RX2 17 "LightWheel$State" "pictures" "[LLightWheel$Picture;", Cond.static yX4_within, Cond.initialized RX4, Cond.code yX4_within cX4_within 3 (some .boolean), Cond.methodLink RX4 52 yX4_within, Cond.methodLink RX4 59 yX4_record, Cond.instanceMethod yX4_record, Cond.selects RX4 yX4_record yX4_record, Cond.code yX4_record cX4_record 1 none, Cond.fieldLink RX4 24 "LightWheel" "historySize" "I", Cond.fieldLink RX4 20 "LightWheel" "oldest" "I", Cond.fieldLink RX4 16 "LightWheel" "history" "[LLightWheel$State;", Cond.methodLink RX4 153 yX2_copyFrom, Cond.instanceMethod yX2_copyFrom, Cond.selects RX2 yX2_copyFrom yX2_copyFrom]
def wsX4_paint_r2 : List Cond := [Cond.code yX2_copyFrom cX2_copyFrom 3 none, Cond.fieldLink RX2 21 "LightWheel$State" "angle" "I", Cond.fieldLink RX2 24 "LightWheel$State" "speed" "I", Cond.fieldLink RX2 27 "LightWheel$State" "ticks" "I", Cond.fieldLink RX2 30 "LightWheel$State" "load" "I", Cond.fieldLink RX2 33 "LightWheel$State" "secondArm" "I", Cond.fieldLink RX2 36 "LightWheel$State" "settings" "[I", Cond.methodLink RX2 57 arraycopyName, Cond.native arraycopyName, Cond.static arraycopyName, Cond.initialized "java/lang/System", Cond.fieldLink RX2 42 "LightWheel$State" "working" "[J", Cond.fieldLink RX2 46 "LightWheel$State" "written" "[J", Cond.fieldLink RX2 49 "LightWheel$State" "writtenIn" "[I", Cond.methodLink RX2 53 yX0_copyFrom, Cond.instanceMethod yX0_copyFrom, Cond.selects RX0 yX0_copyFrom yX0_copyFrom, Cond.initialized RX0, Cond.code yX0_copyFrom cX0_copyFrom 2 none, Cond.fieldLink RX0 9 "LightWheel$Picture" "width" "I", Cond.fieldLink RX0 15 "LightWheel$Picture" "first" "I", Cond.fieldLink RX0 18 "LightWheel$Picture" "step" "I", Cond.fieldLink RX0 21 "LightWheel$Picture" "kind" "I", Cond.fieldLink RX0 24 "LightWheel$Picture" "columns" "[J"]
def wsX4_paint_r3 : List Cond := [Cond.methodLink RX0 28 arraycopyName, Cond.methodLink RX4 78 yX4_colorIn, Cond.static yX4_colorIn, Cond.code yX4_colorIn cX4_colorIn 3 (some .int), Cond.methodLink RX4 82 yX4_withColor, Cond.static yX4_withColor, Cond.code yX4_withColor cX4_withColor 5 (some .long), Cond.constantLong RX4 235 (7), Cond.constantLong RX4 119 (-1)]
def wsX4_paint : List Cond := .code yX4_paint cX4_paint 7 (some .int) :: ((wsX4_paint_r1 ++ (wsX4_paint_r2 ++ wsX4_paint_r3)) ++ wsX40 ++ wsX00 ++ wsX20)
def wsX4_setPlace_r1 : List Cond := [Cond.fieldLink RX4 10 "LightWheel" "now" "LLightWheel$State;", Cond.fieldLink RX4 86 "LightWheel$Picture" "first" "I", Cond.fieldLink RX4 89 "LightWheel$Picture" "step" "I", Cond.methodLink RX4 71 yX2_pictureNumbered, Cond.instanceMethod yX2_pictureNumbered, Cond.selects RX2 yX2_pictureNumbered yX2_pictureNumbered, Cond.initialized RX2, Cond.code yX2_pictureNumbered cX2_pictureNumbered 2 (some (.object "LightWheel$Picture")), Cond.fieldLink RX2 9 "LightWheel$State" "pictureCount" "I", Cond.fieldLink RX2 17 "LightWheel$State" "pictures" "[LLightWheel$Picture;", Cond.static yX4_within, Cond.initialized RX4, Cond.code yX4_within cX4_within 3 (some .boolean), Cond.methodLink RX4 52 yX4_within, Cond.methodLink RX4 59 yX4_record, Cond.instanceMethod yX4_record, Cond.selects RX4 yX4_record yX4_record, Cond.code yX4_record cX4_record 1 none, Cond.fieldLink RX4 24 "LightWheel" "historySize" "I", Cond.fieldLink RX4 20 "LightWheel" "oldest" "I", Cond.fieldLink RX4 16 "LightWheel" "history" "[LLightWheel$State;", Cond.methodLink RX4 153 yX2_copyFrom, Cond.instanceMethod yX2_copyFrom, Cond.selects RX2 yX2_copyFrom yX2_copyFrom]
def wsX4_setPlace_r2 : List Cond := [Cond.code yX2_copyFrom cX2_copyFrom 3 none, Cond.fieldLink RX2 21 "LightWheel$State" "angle" "I", Cond.fieldLink RX2 24 "LightWheel$State" "speed" "I", Cond.fieldLink RX2 27 "LightWheel$State" "ticks" "I", Cond.fieldLink RX2 30 "LightWheel$State" "load" "I", Cond.fieldLink RX2 33 "LightWheel$State" "secondArm" "I", Cond.fieldLink RX2 36 "LightWheel$State" "settings" "[I", Cond.methodLink RX2 57 arraycopyName, Cond.native arraycopyName, Cond.static arraycopyName, Cond.initialized "java/lang/System", Cond.fieldLink RX2 42 "LightWheel$State" "working" "[J", Cond.fieldLink RX2 46 "LightWheel$State" "written" "[J", Cond.fieldLink RX2 49 "LightWheel$State" "writtenIn" "[I", Cond.methodLink RX2 53 yX0_copyFrom, Cond.instanceMethod yX0_copyFrom, Cond.selects RX0 yX0_copyFrom yX0_copyFrom, Cond.initialized RX0, Cond.code yX0_copyFrom cX0_copyFrom 2 none, Cond.fieldLink RX0 9 "LightWheel$Picture" "width" "I", Cond.fieldLink RX0 15 "LightWheel$Picture" "first" "I", Cond.fieldLink RX0 18 "LightWheel$Picture" "step" "I", Cond.fieldLink RX0 21 "LightWheel$Picture" "kind" "I", Cond.fieldLink RX0 24 "LightWheel$Picture" "columns" "[J"]
def wsX4_setPlace_r3 : List Cond := [Cond.methodLink RX0 28 arraycopyName]
def wsX4_setPlace : List Cond := .code yX4_setPlace cX4_setPlace 6 (some .int) :: ((wsX4_setPlace_r1 ++ (wsX4_setPlace_r2 ++ wsX4_setPlace_r3)) ++ wsX40 ++ wsX00 ++ wsX20)
def wsX4_setKind_r1 : List Cond := [Cond.fieldLink RX4 10 "LightWheel" "now" "LLightWheel$State;", Cond.fieldLink RX4 92 "LightWheel$Picture" "kind" "I", Cond.methodLink RX4 71 yX2_pictureNumbered, Cond.instanceMethod yX2_pictureNumbered, Cond.selects RX2 yX2_pictureNumbered yX2_pictureNumbered, Cond.initialized RX2, Cond.code yX2_pictureNumbered cX2_pictureNumbered 2 (some (.object "LightWheel$Picture")), Cond.fieldLink RX2 9 "LightWheel$State" "pictureCount" "I", Cond.fieldLink RX2 17 "LightWheel$State" "pictures" "[LLightWheel$Picture;", Cond.static yX4_within, Cond.initialized RX4, Cond.code yX4_within cX4_within 3 (some .boolean), Cond.methodLink RX4 52 yX4_within, Cond.methodLink RX4 59 yX4_record, Cond.instanceMethod yX4_record, Cond.selects RX4 yX4_record yX4_record, Cond.code yX4_record cX4_record 1 none, Cond.fieldLink RX4 24 "LightWheel" "historySize" "I", Cond.fieldLink RX4 20 "LightWheel" "oldest" "I", Cond.fieldLink RX4 16 "LightWheel" "history" "[LLightWheel$State;", Cond.methodLink RX4 153 yX2_copyFrom, Cond.instanceMethod yX2_copyFrom, Cond.selects RX2 yX2_copyFrom yX2_copyFrom, Cond.code yX2_copyFrom cX2_copyFrom 3 none]
def wsX4_setKind_r2 : List Cond := [Cond.fieldLink RX2 21 "LightWheel$State" "angle" "I", Cond.fieldLink RX2 24 "LightWheel$State" "speed" "I", Cond.fieldLink RX2 27 "LightWheel$State" "ticks" "I", Cond.fieldLink RX2 30 "LightWheel$State" "load" "I", Cond.fieldLink RX2 33 "LightWheel$State" "secondArm" "I", Cond.fieldLink RX2 36 "LightWheel$State" "settings" "[I", Cond.methodLink RX2 57 arraycopyName, Cond.native arraycopyName, Cond.static arraycopyName, Cond.initialized "java/lang/System", Cond.fieldLink RX2 42 "LightWheel$State" "working" "[J", Cond.fieldLink RX2 46 "LightWheel$State" "written" "[J", Cond.fieldLink RX2 49 "LightWheel$State" "writtenIn" "[I", Cond.methodLink RX2 53 yX0_copyFrom, Cond.instanceMethod yX0_copyFrom, Cond.selects RX0 yX0_copyFrom yX0_copyFrom, Cond.initialized RX0, Cond.code yX0_copyFrom cX0_copyFrom 2 none, Cond.fieldLink RX0 9 "LightWheel$Picture" "width" "I", Cond.fieldLink RX0 15 "LightWheel$Picture" "first" "I", Cond.fieldLink RX0 18 "LightWheel$Picture" "step" "I", Cond.fieldLink RX0 21 "LightWheel$Picture" "kind" "I", Cond.fieldLink RX0 24 "LightWheel$Picture" "columns" "[J", Cond.methodLink RX0 28 arraycopyName]
def wsX4_setKind : List Cond := .code yX4_setKind cX4_setKind 5 (some .int) :: ((wsX4_setKind_r1 ++ wsX4_setKind_r2) ++ wsX40 ++ wsX00 ++ wsX20)
def wsX4_append : List Cond := .code yX4_append cX4_append 2 (some .int) :: ([.fieldLink RX4 31 "LightWheel" "textLength" "I", .fieldLink RX4 27 "LightWheel" "text" "[C", .methodLink RX4 52 yX4_within, .static yX4_within, .initialized RX4, .code yX4_within cX4_within 3 (some .boolean)] ++ wsX40)
def wsX4_clearText : List Cond := .code yX4_clearText cX4_clearText 2 (some .int) :: ([.fieldLink RX4 31 "LightWheel" "textLength" "I"] ++ wsX40)
def wsX4_load_r1 : List Cond := [Cond.fieldLink RX4 10 "LightWheel" "now" "LLightWheel$State;", Cond.fieldLink RX4 37 "LightWheel" "reader" "LLightWheel$Reader;", Cond.fieldLink RX4 27 "LightWheel" "text" "[C", Cond.fieldLink RX4 31 "LightWheel" "textLength" "I", Cond.fieldLink RX4 99 "LightWheel$Reader" "columnCount" "I", Cond.fieldLink RX4 66 "LightWheel$Picture" "width" "I", Cond.fieldLink RX4 102 "LightWheel$Reader" "columns" "[J", Cond.fieldLink RX4 75 "LightWheel$Picture" "columns" "[J", Cond.methodLink RX4 103 arraycopyName, Cond.native arraycopyName, Cond.static arraycopyName, Cond.initialized "java/lang/System", Cond.methodLink RX4 71 yX2_pictureNumbered, Cond.instanceMethod yX2_pictureNumbered, Cond.selects RX2 yX2_pictureNumbered yX2_pictureNumbered, Cond.initialized RX2, Cond.code yX2_pictureNumbered cX2_pictureNumbered 2 (some (.object "LightWheel$Picture")), Cond.fieldLink RX2 9 "LightWheel$State" "pictureCount" "I", Cond.fieldLink RX2 17 "LightWheel$State" "pictures" "[LLightWheel$Picture;", Cond.static yX4_within, Cond.initialized RX4, Cond.code yX4_within cX4_within 3 (some .boolean), Cond.methodLink RX4 95 yX1_read, Cond.instanceMethod yX1_read]
def wsX4_load_r2 : List Cond := [Cond.selects RX1 yX1_read yX1_read, Cond.initialized RX1, Cond.code yX1_read cX1_read 5 (some .int), Cond.fieldLink RX1 15 "LightWheel$Reader" "columnCount" "I", Cond.fieldLink RX1 19 "LightWheel$Reader" "awaited" "I", Cond.fieldLink RX1 22 "LightWheel$Reader" "told" "I", Cond.fieldLink RX1 9 "LightWheel$Reader" "columns" "[J", Cond.methodLink RX1 25 yX1_take, Cond.instanceMethod yX1_take, Cond.selects RX1 yX1_take yX1_take, Cond.code yX1_take cX1_take 3 (some .int), Cond.fieldLink RX1 29 "LightWheel$Reader" "numberStart" "I", Cond.fieldLink RX1 32 "LightWheel$Reader" "number" "I", Cond.methodLink RX1 35 yX1_takeDigit, Cond.instanceMethod yX1_takeDigit, Cond.selects RX1 yX1_takeDigit yX1_takeDigit, Cond.code yX1_takeDigit cX1_takeDigit 3 (some .int), Cond.methodLink RX1 38 yX1_takeBracket, Cond.instanceMethod yX1_takeBracket, Cond.selects RX1 yX1_takeBracket yX1_takeBracket, Cond.code yX1_takeBracket cX1_takeBracket 3 (some .int), Cond.methodLink RX1 41 yX1_takeColor, Cond.instanceMethod yX1_takeColor, Cond.selects RX1 yX1_takeColor yX1_takeColor]
def wsX4_load_r3 : List Cond := [Cond.code yX1_takeColor cX1_takeColor 6 (some .int), Cond.static yX4_withColor, Cond.code yX4_withColor cX4_withColor 5 (some .long), Cond.constantLong RX4 235 (7), Cond.constantLong RX4 119 (-1), Cond.methodLink RX1 45 yX1_takePart, Cond.instanceMethod yX1_takePart, Cond.selects RX1 yX1_takePart yX1_takePart, Cond.code yX1_takePart cX1_takePart 3 (some .int), Cond.methodLink RX1 48 yX1_takeSemicolon, Cond.instanceMethod yX1_takeSemicolon, Cond.selects RX1 yX1_takeSemicolon yX1_takeSemicolon, Cond.code yX1_takeSemicolon cX1_takeSemicolon 2 (some .int), Cond.methodLink RX4 59 yX4_record, Cond.instanceMethod yX4_record, Cond.selects RX4 yX4_record yX4_record, Cond.code yX4_record cX4_record 1 none, Cond.fieldLink RX4 24 "LightWheel" "historySize" "I", Cond.fieldLink RX4 20 "LightWheel" "oldest" "I", Cond.fieldLink RX4 16 "LightWheel" "history" "[LLightWheel$State;", Cond.methodLink RX4 153 yX2_copyFrom, Cond.instanceMethod yX2_copyFrom, Cond.selects RX2 yX2_copyFrom yX2_copyFrom, Cond.code yX2_copyFrom cX2_copyFrom 3 none]
def wsX4_load_r4 : List Cond := [Cond.fieldLink RX2 21 "LightWheel$State" "angle" "I", Cond.fieldLink RX2 24 "LightWheel$State" "speed" "I", Cond.fieldLink RX2 27 "LightWheel$State" "ticks" "I", Cond.fieldLink RX2 30 "LightWheel$State" "load" "I", Cond.fieldLink RX2 33 "LightWheel$State" "secondArm" "I", Cond.fieldLink RX2 36 "LightWheel$State" "settings" "[I", Cond.methodLink RX2 57 arraycopyName, Cond.fieldLink RX2 42 "LightWheel$State" "working" "[J", Cond.fieldLink RX2 46 "LightWheel$State" "written" "[J", Cond.fieldLink RX2 49 "LightWheel$State" "writtenIn" "[I", Cond.methodLink RX2 53 yX0_copyFrom, Cond.instanceMethod yX0_copyFrom, Cond.selects RX0 yX0_copyFrom yX0_copyFrom, Cond.initialized RX0, Cond.code yX0_copyFrom cX0_copyFrom 2 none, Cond.fieldLink RX0 9 "LightWheel$Picture" "width" "I", Cond.fieldLink RX0 15 "LightWheel$Picture" "first" "I", Cond.fieldLink RX0 18 "LightWheel$Picture" "step" "I", Cond.fieldLink RX0 21 "LightWheel$Picture" "kind" "I", Cond.fieldLink RX0 24 "LightWheel$Picture" "columns" "[J", Cond.methodLink RX0 28 arraycopyName]
def wsX4_load : List Cond := .code yX4_load cX4_load 4 (some .int) :: ((wsX4_load_r1 ++ (wsX4_load_r2 ++ (wsX4_load_r3 ++ wsX4_load_r4))) ++ wsX40 ++ wsX10 ++ wsX00 ++ wsX20)
def wsX4_setSecondArm_r1 : List Cond := [Cond.fieldLink RX4 10 "LightWheel" "now" "LLightWheel$State;", Cond.fieldLink RX4 109 "LightWheel$State" "secondArm" "I", Cond.methodLink RX4 52 yX4_within, Cond.static yX4_within, Cond.initialized RX4, Cond.code yX4_within cX4_within 3 (some .boolean), Cond.methodLink RX4 59 yX4_record, Cond.instanceMethod yX4_record, Cond.selects RX4 yX4_record yX4_record, Cond.code yX4_record cX4_record 1 none, Cond.fieldLink RX4 24 "LightWheel" "historySize" "I", Cond.fieldLink RX4 20 "LightWheel" "oldest" "I", Cond.fieldLink RX4 16 "LightWheel" "history" "[LLightWheel$State;", Cond.methodLink RX4 153 yX2_copyFrom, Cond.instanceMethod yX2_copyFrom, Cond.selects RX2 yX2_copyFrom yX2_copyFrom, Cond.initialized RX2, Cond.code yX2_copyFrom cX2_copyFrom 3 none, Cond.fieldLink RX2 9 "LightWheel$State" "pictureCount" "I", Cond.fieldLink RX2 17 "LightWheel$State" "pictures" "[LLightWheel$Picture;", Cond.fieldLink RX2 21 "LightWheel$State" "angle" "I", Cond.fieldLink RX2 24 "LightWheel$State" "speed" "I", Cond.fieldLink RX2 27 "LightWheel$State" "ticks" "I", Cond.fieldLink RX2 30 "LightWheel$State" "load" "I"]
def wsX4_setSecondArm_r2 : List Cond := [Cond.fieldLink RX2 33 "LightWheel$State" "secondArm" "I", Cond.fieldLink RX2 36 "LightWheel$State" "settings" "[I", Cond.methodLink RX2 57 arraycopyName, Cond.native arraycopyName, Cond.static arraycopyName, Cond.initialized "java/lang/System", Cond.fieldLink RX2 42 "LightWheel$State" "working" "[J", Cond.fieldLink RX2 46 "LightWheel$State" "written" "[J", Cond.fieldLink RX2 49 "LightWheel$State" "writtenIn" "[I", Cond.methodLink RX2 53 yX0_copyFrom, Cond.instanceMethod yX0_copyFrom, Cond.selects RX0 yX0_copyFrom yX0_copyFrom, Cond.initialized RX0, Cond.code yX0_copyFrom cX0_copyFrom 2 none, Cond.fieldLink RX0 9 "LightWheel$Picture" "width" "I", Cond.fieldLink RX0 15 "LightWheel$Picture" "first" "I", Cond.fieldLink RX0 18 "LightWheel$Picture" "step" "I", Cond.fieldLink RX0 21 "LightWheel$Picture" "kind" "I", Cond.fieldLink RX0 24 "LightWheel$Picture" "columns" "[J", Cond.methodLink RX0 28 arraycopyName]
def wsX4_setSecondArm : List Cond := .code yX4_setSecondArm cX4_setSecondArm 3 (some .int) :: ((wsX4_setSecondArm_r1 ++ wsX4_setSecondArm_r2) ++ wsX40 ++ wsX20 ++ wsX00)
def wsX4_setBroken_r1 : List Cond := [Cond.fieldLink RX4 10 "LightWheel" "now" "LLightWheel$State;", Cond.fieldLink RX4 116 "LightWheel$State" "working" "[J", Cond.constantLong RX4 119 (-1), Cond.methodLink RX4 52 yX4_within, Cond.static yX4_within, Cond.initialized RX4, Cond.code yX4_within cX4_within 3 (some .boolean), Cond.methodLink RX4 59 yX4_record, Cond.instanceMethod yX4_record, Cond.selects RX4 yX4_record yX4_record, Cond.code yX4_record cX4_record 1 none, Cond.fieldLink RX4 24 "LightWheel" "historySize" "I", Cond.fieldLink RX4 20 "LightWheel" "oldest" "I", Cond.fieldLink RX4 16 "LightWheel" "history" "[LLightWheel$State;", Cond.methodLink RX4 153 yX2_copyFrom, Cond.instanceMethod yX2_copyFrom, Cond.selects RX2 yX2_copyFrom yX2_copyFrom, Cond.initialized RX2, Cond.code yX2_copyFrom cX2_copyFrom 3 none, Cond.fieldLink RX2 9 "LightWheel$State" "pictureCount" "I", Cond.fieldLink RX2 17 "LightWheel$State" "pictures" "[LLightWheel$Picture;", Cond.fieldLink RX2 21 "LightWheel$State" "angle" "I", Cond.fieldLink RX2 24 "LightWheel$State" "speed" "I", Cond.fieldLink RX2 27 "LightWheel$State" "ticks" "I"]
def wsX4_setBroken_r2 : List Cond := [Cond.fieldLink RX2 30 "LightWheel$State" "load" "I", Cond.fieldLink RX2 33 "LightWheel$State" "secondArm" "I", Cond.fieldLink RX2 36 "LightWheel$State" "settings" "[I", Cond.methodLink RX2 57 arraycopyName, Cond.native arraycopyName, Cond.static arraycopyName, Cond.initialized "java/lang/System", Cond.fieldLink RX2 42 "LightWheel$State" "working" "[J", Cond.fieldLink RX2 46 "LightWheel$State" "written" "[J", Cond.fieldLink RX2 49 "LightWheel$State" "writtenIn" "[I", Cond.methodLink RX2 53 yX0_copyFrom, Cond.instanceMethod yX0_copyFrom, Cond.selects RX0 yX0_copyFrom yX0_copyFrom, Cond.initialized RX0, Cond.code yX0_copyFrom cX0_copyFrom 2 none, Cond.fieldLink RX0 9 "LightWheel$Picture" "width" "I", Cond.fieldLink RX0 15 "LightWheel$Picture" "first" "I", Cond.fieldLink RX0 18 "LightWheel$Picture" "step" "I", Cond.fieldLink RX0 21 "LightWheel$Picture" "kind" "I", Cond.fieldLink RX0 24 "LightWheel$Picture" "columns" "[J", Cond.methodLink RX0 28 arraycopyName, Cond.methodLink RX4 112 yX2_works, Cond.instanceMethod yX2_works, Cond.selects RX2 yX2_works yX2_works]
def wsX4_setBroken_r3 : List Cond := [Cond.code yX2_works cX2_works 3 (some .boolean)]
def wsX4_setBroken : List Cond := .code yX4_setBroken cX4_setBroken 7 (some .int) :: ((wsX4_setBroken_r1 ++ (wsX4_setBroken_r2 ++ wsX4_setBroken_r3)) ++ wsX40 ++ wsX20 ++ wsX00)
def wsX4_set_r1 : List Cond := [Cond.fieldLink RX4 121 "LightWheel" "LOWEST" "[I", Cond.fieldLink RX4 125 "LightWheel" "HIGHEST" "[I", Cond.fieldLink RX4 10 "LightWheel" "now" "LLightWheel$State;", Cond.fieldLink RX4 128 "LightWheel$State" "settings" "[I", Cond.methodLink RX4 52 yX4_within, Cond.static yX4_within, Cond.initialized RX4, Cond.code yX4_within cX4_within 3 (some .boolean), Cond.methodLink RX4 59 yX4_record, Cond.instanceMethod yX4_record, Cond.selects RX4 yX4_record yX4_record, Cond.code yX4_record cX4_record 1 none, Cond.fieldLink RX4 24 "LightWheel" "historySize" "I", Cond.fieldLink RX4 20 "LightWheel" "oldest" "I", Cond.fieldLink RX4 16 "LightWheel" "history" "[LLightWheel$State;", Cond.methodLink RX4 153 yX2_copyFrom, Cond.instanceMethod yX2_copyFrom, Cond.selects RX2 yX2_copyFrom yX2_copyFrom, Cond.initialized RX2, Cond.code yX2_copyFrom cX2_copyFrom 3 none, Cond.fieldLink RX2 9 "LightWheel$State" "pictureCount" "I", Cond.fieldLink RX2 17 "LightWheel$State" "pictures" "[LLightWheel$Picture;", Cond.fieldLink RX2 21 "LightWheel$State" "angle" "I", Cond.fieldLink RX2 24 "LightWheel$State" "speed" "I"]
def wsX4_set_r2 : List Cond := [Cond.fieldLink RX2 27 "LightWheel$State" "ticks" "I", Cond.fieldLink RX2 30 "LightWheel$State" "load" "I", Cond.fieldLink RX2 33 "LightWheel$State" "secondArm" "I", Cond.fieldLink RX2 36 "LightWheel$State" "settings" "[I", Cond.methodLink RX2 57 arraycopyName, Cond.native arraycopyName, Cond.static arraycopyName, Cond.initialized "java/lang/System", Cond.fieldLink RX2 42 "LightWheel$State" "working" "[J", Cond.fieldLink RX2 46 "LightWheel$State" "written" "[J", Cond.fieldLink RX2 49 "LightWheel$State" "writtenIn" "[I", Cond.methodLink RX2 53 yX0_copyFrom, Cond.instanceMethod yX0_copyFrom, Cond.selects RX0 yX0_copyFrom yX0_copyFrom, Cond.initialized RX0, Cond.code yX0_copyFrom cX0_copyFrom 2 none, Cond.fieldLink RX0 9 "LightWheel$Picture" "width" "I", Cond.fieldLink RX0 15 "LightWheel$Picture" "first" "I", Cond.fieldLink RX0 18 "LightWheel$Picture" "step" "I", Cond.fieldLink RX0 21 "LightWheel$Picture" "kind" "I", Cond.fieldLink RX0 24 "LightWheel$Picture" "columns" "[J", Cond.methodLink RX0 28 arraycopyName]
def wsX4_set : List Cond := .code yX4_set cX4_set 4 (some .int) :: ((wsX4_set_r1 ++ wsX4_set_r2) ++ wsX40 ++ wsX20 ++ wsX00)
def wsX4_run_r1 : List Cond := [Cond.fieldLink RX4 10 "LightWheel" "now" "LLightWheel$State;", Cond.fieldLink RX4 131 "LightWheel$State" "ticks" "I", Cond.fieldLink RX4 44 "LightWheel" "sweep" "LLightWheel$Sweep;", Cond.fieldLink RX4 128 "LightWheel$State" "settings" "[I", Cond.fieldLink RX4 150 "LightWheel$State" "load" "I", Cond.methodLink RX4 52 yX4_within, Cond.static yX4_within, Cond.initialized RX4, Cond.code yX4_within cX4_within 3 (some .boolean), Cond.methodLink RX4 59 yX4_record, Cond.instanceMethod yX4_record, Cond.selects RX4 yX4_record yX4_record, Cond.code yX4_record cX4_record 1 none, Cond.fieldLink RX4 24 "LightWheel" "historySize" "I", Cond.fieldLink RX4 20 "LightWheel" "oldest" "I", Cond.fieldLink RX4 16 "LightWheel" "history" "[LLightWheel$State;", Cond.methodLink RX4 153 yX2_copyFrom, Cond.instanceMethod yX2_copyFrom, Cond.selects RX2 yX2_copyFrom yX2_copyFrom, Cond.initialized RX2, Cond.code yX2_copyFrom cX2_copyFrom 3 none, Cond.fieldLink RX2 9 "LightWheel$State" "pictureCount" "I", Cond.fieldLink RX2 17 "LightWheel$State" "pictures" "[LLightWheel$Picture;", Cond.fieldLink RX2 21 "LightWheel$State" "angle" "I"]
def wsX4_run_r2 : List Cond := [Cond.fieldLink RX2 24 "LightWheel$State" "speed" "I", Cond.fieldLink RX2 27 "LightWheel$State" "ticks" "I", Cond.fieldLink RX2 30 "LightWheel$State" "load" "I", Cond.fieldLink RX2 33 "LightWheel$State" "secondArm" "I", Cond.fieldLink RX2 36 "LightWheel$State" "settings" "[I", Cond.methodLink RX2 57 arraycopyName, Cond.native arraycopyName, Cond.static arraycopyName, Cond.initialized "java/lang/System", Cond.fieldLink RX2 42 "LightWheel$State" "working" "[J", Cond.fieldLink RX2 46 "LightWheel$State" "written" "[J", Cond.fieldLink RX2 49 "LightWheel$State" "writtenIn" "[I", Cond.methodLink RX2 53 yX0_copyFrom, Cond.instanceMethod yX0_copyFrom, Cond.selects RX0 yX0_copyFrom yX0_copyFrom, Cond.initialized RX0, Cond.code yX0_copyFrom cX0_copyFrom 2 none, Cond.fieldLink RX0 9 "LightWheel$Picture" "width" "I", Cond.fieldLink RX0 15 "LightWheel$Picture" "first" "I", Cond.fieldLink RX0 18 "LightWheel$Picture" "step" "I", Cond.fieldLink RX0 21 "LightWheel$Picture" "kind" "I", Cond.fieldLink RX0 24 "LightWheel$Picture" "columns" "[J", Cond.methodLink RX0 28 arraycopyName, Cond.methodLink RX4 134 yX3_prepare]
def wsX4_run_r3 : List Cond := [Cond.instanceMethod yX3_prepare, Cond.selects RX3 yX3_prepare yX3_prepare, Cond.initialized RX3, Cond.code yX3_prepare cX3_prepare 3 none, Cond.fieldLink RX3 22 "LightWheel$State" "secondArm" "I", Cond.fieldLink RX3 28 "LightWheel$Sweep" "secondArm" "Z", Cond.fieldLink RX3 31 "LightWheel$State" "settings" "[I", Cond.fieldLink RX3 34 "LightWheel$Sweep" "power" "I", Cond.fieldLink RX3 37 "LightWheel$Sweep" "limit" "I", Cond.fieldLink RX3 9 "LightWheel$Sweep" "wanted" "[J", Cond.fieldLink RX3 15 "LightWheel$Sweep" "loadAt" "[I", Cond.fieldLink RX3 48 "LightWheel$State" "working" "[J", Cond.methodLink RX3 40 yX2_wantedAt, Cond.instanceMethod yX2_wantedAt, Cond.selects RX2 yX2_wantedAt yX2_wantedAt, Cond.code yX2_wantedAt cX2_wantedAt 5 (some .long), Cond.methodLink RX2 67 yX0_wantedAt, Cond.instanceMethod yX0_wantedAt, Cond.selects RX0 yX0_wantedAt yX0_wantedAt, Cond.code yX0_wantedAt cX0_wantedAt 2 (some .long), Cond.methodLink RX0 47 yX0_covers, Cond.instanceMethod yX0_covers, Cond.selects RX0 yX0_covers yX0_covers, Cond.code yX0_covers cX0_covers 2 (some .boolean)]
def wsX4_run_r4 : List Cond := [Cond.methodLink RX0 40 yJ9_floorMod_7cf53, Cond.static yJ9_floorMod_7cf53, Cond.initialized RJ9, Cond.code yJ9_floorMod_7cf53 cJ9_floorMod_7cf53 3 (some .int), Cond.methodLink RX0 43 yX0_coveredAngles, Cond.instanceMethod yX0_coveredAngles, Cond.selects RX0 yX0_coveredAngles yX0_coveredAngles, Cond.code yX0_coveredAngles cX0_coveredAngles 1 (some .int), Cond.methodLink RX0 34 Lib.Math.min.name, Cond.static Lib.Math.min.name, Cond.initialized "java/lang/Math", Cond.code Lib.Math.min.name Lib.Math.min.code 2 (some .int), Cond.methodLink RX0 51 yX0_columnOf, Cond.instanceMethod yX0_columnOf, Cond.selects RX0 yX0_columnOf yX0_columnOf, Cond.code yX0_columnOf cX0_columnOf 3 (some .int), Cond.static yX4_notDark, Cond.code yX4_notDark cX4_notDark 2 (some .long), Cond.constantLong RX4 223 (9817068105), Cond.methodLink RX3 51 yJ13_bitCount_95d88, Cond.static yJ13_bitCount_95d88, Cond.initialized RJ13, Cond.code yJ13_bitCount_95d88 cJ13_bitCount_95d88 2 (some .int), Cond.constantLong RJ13 314 (6148914691236517205)]
def wsX4_run_r5 : List Cond := [Cond.constantLong RJ13 316 (3689348814741910323), Cond.constantLong RJ13 318 (1085102592571150095), Cond.methodLink RX3 57 yX3_opposite, Cond.static yX3_opposite, Cond.code yX3_opposite cX3_opposite 1 (some .int), Cond.methodLink RX4 138 yX3_start, Cond.instanceMethod yX3_start, Cond.selects RX3 yX3_start yX3_start, Cond.code yX3_start cX3_start 4 none, Cond.fieldLink RX3 61 "LightWheel$Sweep" "wantedSpeed" "I", Cond.fieldLink RX3 64 "LightWheel$State" "angle" "I", Cond.fieldLink RX3 67 "LightWheel$Sweep" "angle" "I", Cond.fieldLink RX3 68 "LightWheel$State" "speed" "I", Cond.fieldLink RX3 71 "LightWheel$Sweep" "speed" "I", Cond.fieldLink RX3 72 "LightWheel$State" "load" "I", Cond.fieldLink RX3 75 "LightWheel$Sweep" "load" "I", Cond.fieldLink RX3 76 "LightWheel$Sweep" "ticks" "I", Cond.fieldLink RX3 19 "LightWheel$Sweep" "passedIn" "[I", Cond.methodLink RX4 142 yX3_goOn, Cond.instanceMethod yX3_goOn, Cond.selects RX3 yX3_goOn yX3_goOn, Cond.code yX3_goOn cX3_goOn 3 none, Cond.methodLink RX3 79 yX3_changeSpeed, Cond.instanceMethod yX3_changeSpeed]
def wsX4_run_r6 : List Cond := [Cond.selects RX3 yX3_changeSpeed yX3_changeSpeed, Cond.code yX3_changeSpeed cX3_changeSpeed 2 none, Cond.methodLink RX3 85 Lib.Math.min.name, Cond.methodLink RX3 91 Lib.Math.max.name, Cond.static Lib.Math.max.name, Cond.code Lib.Math.max.name Lib.Math.max.code 2 (some .int), Cond.methodLink RX3 82 yX3_turn, Cond.instanceMethod yX3_turn, Cond.selects RX3 yX3_turn yX3_turn, Cond.code yX3_turn cX3_turn 3 none, Cond.methodLink RX3 94 Lib.Math.abs.name, Cond.static Lib.Math.abs.name, Cond.code Lib.Math.abs.name Lib.Math.abs.code 1 (some .int), Cond.methodLink RX3 97 yJ9_floorMod_7cf53, Cond.methodLink RX4 146 yX2_write, Cond.instanceMethod yX2_write, Cond.selects RX2 yX2_write yX2_write, Cond.code yX2_write cX2_write 3 none, Cond.fieldLink RX2 86 "LightWheel$Sweep" "wanted" "[J", Cond.fieldLink RX2 102 "LightWheel$Sweep" "angle" "I", Cond.fieldLink RX2 103 "LightWheel$Sweep" "speed" "I", Cond.fieldLink RX2 104 "LightWheel$Sweep" "load" "I", Cond.fieldLink RX2 105 "LightWheel$Sweep" "ticks" "I", Cond.methodLink RX2 91 yX3_firstArmAt]
def wsX4_run_r7 : List Cond := [Cond.instanceMethod yX3_firstArmAt, Cond.selects RX3 yX3_firstArmAt yX3_firstArmAt, Cond.code yX3_firstArmAt cX3_firstArmAt 2 (some .int), Cond.methodLink RX2 95 yX2_writeArm, Cond.instanceMethod yX2_writeArm, Cond.selects RX2 yX2_writeArm yX2_writeArm, Cond.code yX2_writeArm cX2_writeArm 10 none, Cond.constantLong RX2 84 (7), Cond.constantLong RX2 106 (-1), Cond.methodLink RX2 78 Lib.Math.max.name, Cond.methodLink RX2 108 yX2_works, Cond.instanceMethod yX2_works, Cond.selects RX2 yX2_works yX2_works, Cond.code yX2_works cX2_works 3 (some .boolean), Cond.methodLink RX2 99 yX3_secondArmAt, Cond.instanceMethod yX3_secondArmAt, Cond.selects RX3 yX3_secondArmAt yX3_secondArmAt, Cond.code yX3_secondArmAt cX3_secondArmAt 2 (some .int)]
def wsX4_run : List Cond := .code yX4_run cX4_run 2 (some .int) :: ((wsX4_run_r1 ++ (wsX4_run_r2 ++ (wsX4_run_r3 ++ (wsX4_run_r4 ++ (wsX4_run_r5 ++ (wsX4_run_r6 ++ wsX4_run_r7)))))) ++ wsX40 ++ wsX20 ++ wsX00 ++ wsX30)
def wsX4_undo_r1 : List Cond := [Cond.fieldLink RX4 24 "LightWheel" "historySize" "I", Cond.fieldLink RX4 10 "LightWheel" "now" "LLightWheel$State;", Cond.fieldLink RX4 16 "LightWheel" "history" "[LLightWheel$State;", Cond.fieldLink RX4 20 "LightWheel" "oldest" "I", Cond.methodLink RX4 153 yX2_copyFrom, Cond.instanceMethod yX2_copyFrom, Cond.selects RX2 yX2_copyFrom yX2_copyFrom, Cond.initialized RX2, Cond.code yX2_copyFrom cX2_copyFrom 3 none, Cond.fieldLink RX2 9 "LightWheel$State" "pictureCount" "I", Cond.fieldLink RX2 17 "LightWheel$State" "pictures" "[LLightWheel$Picture;", Cond.fieldLink RX2 21 "LightWheel$State" "angle" "I", Cond.fieldLink RX2 24 "LightWheel$State" "speed" "I", Cond.fieldLink RX2 27 "LightWheel$State" "ticks" "I", Cond.fieldLink RX2 30 "LightWheel$State" "load" "I", Cond.fieldLink RX2 33 "LightWheel$State" "secondArm" "I", Cond.fieldLink RX2 36 "LightWheel$State" "settings" "[I", Cond.methodLink RX2 57 arraycopyName, Cond.native arraycopyName, Cond.static arraycopyName, Cond.initialized "java/lang/System", Cond.fieldLink RX2 42 "LightWheel$State" "working" "[J", Cond.fieldLink RX2 46 "LightWheel$State" "written" "[J", Cond.fieldLink RX2 49 "LightWheel$State" "writtenIn" "[I"]
def wsX4_undo_r2 : List Cond := [Cond.methodLink RX2 53 yX0_copyFrom, Cond.instanceMethod yX0_copyFrom, Cond.selects RX0 yX0_copyFrom yX0_copyFrom, Cond.initialized RX0, Cond.code yX0_copyFrom cX0_copyFrom 2 none, Cond.fieldLink RX0 9 "LightWheel$Picture" "width" "I", Cond.fieldLink RX0 15 "LightWheel$Picture" "first" "I", Cond.fieldLink RX0 18 "LightWheel$Picture" "step" "I", Cond.fieldLink RX0 21 "LightWheel$Picture" "kind" "I", Cond.fieldLink RX0 24 "LightWheel$Picture" "columns" "[J", Cond.methodLink RX0 28 arraycopyName]
def wsX4_undo : List Cond := .code yX4_undo cX4_undo 1 (some .int) :: ((wsX4_undo_r1 ++ wsX4_undo_r2) ++ wsX40 ++ wsX20 ++ wsX00)
def wsX4_countLit_r1 : List Cond := [Cond.fieldLink RX4 10 "LightWheel" "now" "LLightWheel$State;", Cond.methodLink RX4 179 yX2_litAt, Cond.instanceMethod yX2_litAt, Cond.selects RX2 yX2_litAt yX2_litAt, Cond.initialized RX2, Cond.code yX2_litAt cX2_litAt 8 (some .long), Cond.fieldLink RX2 27 "LightWheel$State" "ticks" "I", Cond.fieldLink RX2 36 "LightWheel$State" "settings" "[I", Cond.methodLink RX2 78 Lib.Math.max.name, Cond.static Lib.Math.max.name, Cond.initialized "java/lang/Math", Cond.code Lib.Math.max.name Lib.Math.max.code 2 (some .int), Cond.fieldLink RX2 49 "LightWheel$State" "writtenIn" "[I", Cond.fieldLink RX2 46 "LightWheel$State" "written" "[J", Cond.constantLong RX2 84 (7), Cond.methodLink RX4 195 yX4_notDark, Cond.static yX4_notDark, Cond.initialized RX4, Cond.code yX4_notDark cX4_notDark 2 (some .long), Cond.constantLong RX4 223 (9817068105), Cond.methodLink RX4 199 yJ13_bitCount_95d88, Cond.static yJ13_bitCount_95d88, Cond.initialized RJ13, Cond.code yJ13_bitCount_95d88 cJ13_bitCount_95d88 2 (some .int)]
def wsX4_countLit_r2 : List Cond := [Cond.constantLong RJ13 314 (6148914691236517205), Cond.constantLong RJ13 316 (3689348814741910323), Cond.constantLong RJ13 318 (1085102592571150095)]
def wsX4_countLit : List Cond := .code yX4_countLit cX4_countLit 3 (some .int) :: ((wsX4_countLit_r1 ++ wsX4_countLit_r2) ++ wsX40 ++ wsX20)
def wsX4_countNotAsWanted_r1 : List Cond := [Cond.fieldLink RX4 10 "LightWheel" "now" "LLightWheel$State;", Cond.methodLink RX4 179 yX2_litAt, Cond.instanceMethod yX2_litAt, Cond.selects RX2 yX2_litAt yX2_litAt, Cond.initialized RX2, Cond.code yX2_litAt cX2_litAt 8 (some .long), Cond.fieldLink RX2 27 "LightWheel$State" "ticks" "I", Cond.fieldLink RX2 36 "LightWheel$State" "settings" "[I", Cond.methodLink RX2 78 Lib.Math.max.name, Cond.static Lib.Math.max.name, Cond.initialized "java/lang/Math", Cond.code Lib.Math.max.name Lib.Math.max.code 2 (some .int), Cond.fieldLink RX2 49 "LightWheel$State" "writtenIn" "[I", Cond.fieldLink RX2 46 "LightWheel$State" "written" "[J", Cond.constantLong RX2 84 (7), Cond.methodLink RX4 175 yX2_wantedAt, Cond.instanceMethod yX2_wantedAt, Cond.selects RX2 yX2_wantedAt yX2_wantedAt, Cond.code yX2_wantedAt cX2_wantedAt 5 (some .long), Cond.fieldLink RX2 9 "LightWheel$State" "pictureCount" "I", Cond.fieldLink RX2 17 "LightWheel$State" "pictures" "[LLightWheel$Picture;", Cond.methodLink RX2 67 yX0_wantedAt, Cond.instanceMethod yX0_wantedAt, Cond.selects RX0 yX0_wantedAt yX0_wantedAt]
def wsX4_countNotAsWanted_r2 : List Cond := [Cond.initialized RX0, Cond.code yX0_wantedAt cX0_wantedAt 2 (some .long), Cond.fieldLink RX0 21 "LightWheel$Picture" "kind" "I", Cond.fieldLink RX0 24 "LightWheel$Picture" "columns" "[J", Cond.methodLink RX0 47 yX0_covers, Cond.instanceMethod yX0_covers, Cond.selects RX0 yX0_covers yX0_covers, Cond.code yX0_covers cX0_covers 2 (some .boolean), Cond.fieldLink RX0 15 "LightWheel$Picture" "first" "I", Cond.methodLink RX0 40 yJ9_floorMod_7cf53, Cond.static yJ9_floorMod_7cf53, Cond.initialized RJ9, Cond.code yJ9_floorMod_7cf53 cJ9_floorMod_7cf53 3 (some .int), Cond.methodLink RX0 43 yX0_coveredAngles, Cond.instanceMethod yX0_coveredAngles, Cond.selects RX0 yX0_coveredAngles yX0_coveredAngles, Cond.code yX0_coveredAngles cX0_coveredAngles 1 (some .int), Cond.fieldLink RX0 9 "LightWheel$Picture" "width" "I", Cond.fieldLink RX0 18 "LightWheel$Picture" "step" "I", Cond.methodLink RX0 34 Lib.Math.min.name, Cond.static Lib.Math.min.name, Cond.code Lib.Math.min.name Lib.Math.min.code 2 (some .int), Cond.methodLink RX0 51 yX0_columnOf, Cond.instanceMethod yX0_columnOf]
def wsX4_countNotAsWanted_r3 : List Cond := [Cond.selects RX0 yX0_columnOf yX0_columnOf, Cond.code yX0_columnOf cX0_columnOf 3 (some .int), Cond.methodLink RX4 195 yX4_notDark, Cond.static yX4_notDark, Cond.initialized RX4, Cond.code yX4_notDark cX4_notDark 2 (some .long), Cond.constantLong RX4 223 (9817068105), Cond.methodLink RX4 199 yJ13_bitCount_95d88, Cond.static yJ13_bitCount_95d88, Cond.initialized RJ13, Cond.code yJ13_bitCount_95d88 cJ13_bitCount_95d88 2 (some .int), Cond.constantLong RJ13 314 (6148914691236517205), Cond.constantLong RJ13 316 (3689348814741910323), Cond.constantLong RJ13 318 (1085102592571150095)]
def wsX4_countNotAsWanted : List Cond := .code yX4_countNotAsWanted cX4_countNotAsWanted 3 (some .int) :: ((wsX4_countNotAsWanted_r1 ++ (wsX4_countNotAsWanted_r2 ++ wsX4_countNotAsWanted_r3)) ++ wsX40 ++ wsX20 ++ wsX00)
def wsX4_count_r1 : List Cond := [Cond.fieldLink RX4 10 "LightWheel" "now" "LLightWheel$State;", Cond.fieldLink RX4 56 "LightWheel$State" "pictureCount" "I", Cond.fieldLink RX4 156 "LightWheel$State" "angle" "I", Cond.fieldLink RX4 159 "LightWheel$State" "speed" "I", Cond.fieldLink RX4 131 "LightWheel$State" "ticks" "I", Cond.fieldLink RX4 150 "LightWheel$State" "load" "I", Cond.fieldLink RX4 109 "LightWheel$State" "secondArm" "I", Cond.fieldLink RX4 24 "LightWheel" "historySize" "I", Cond.fieldLink RX4 31 "LightWheel" "textLength" "I", Cond.methodLink RX4 162 yX4_countLit, Cond.instanceMethod yX4_countLit, Cond.selects RX4 yX4_countLit yX4_countLit, Cond.initialized RX4, Cond.code yX4_countLit cX4_countLit 3 (some .int), Cond.methodLink RX4 179 yX2_litAt, Cond.instanceMethod yX2_litAt, Cond.selects RX2 yX2_litAt yX2_litAt, Cond.initialized RX2, Cond.code yX2_litAt cX2_litAt 8 (some .long), Cond.fieldLink RX2 27 "LightWheel$State" "ticks" "I", Cond.fieldLink RX2 36 "LightWheel$State" "settings" "[I", Cond.methodLink RX2 78 Lib.Math.max.name, Cond.static Lib.Math.max.name, Cond.initialized "java/lang/Math"]
def wsX4_count_r2 : List Cond := [Cond.code Lib.Math.max.name Lib.Math.max.code 2 (some .int), Cond.fieldLink RX2 49 "LightWheel$State" "writtenIn" "[I", Cond.fieldLink RX2 46 "LightWheel$State" "written" "[J", Cond.constantLong RX2 84 (7), Cond.methodLink RX4 195 yX4_notDark, Cond.static yX4_notDark, Cond.code yX4_notDark cX4_notDark 2 (some .long), Cond.constantLong RX4 223 (9817068105), Cond.methodLink RX4 199 yJ13_bitCount_95d88, Cond.static yJ13_bitCount_95d88, Cond.initialized RJ13, Cond.code yJ13_bitCount_95d88 cJ13_bitCount_95d88 2 (some .int), Cond.constantLong RJ13 314 (6148914691236517205), Cond.constantLong RJ13 316 (3689348814741910323), Cond.constantLong RJ13 318 (1085102592571150095), Cond.methodLink RX4 166 yX4_countNotAsWanted, Cond.instanceMethod yX4_countNotAsWanted, Cond.selects RX4 yX4_countNotAsWanted yX4_countNotAsWanted, Cond.code yX4_countNotAsWanted cX4_countNotAsWanted 3 (some .int), Cond.methodLink RX4 175 yX2_wantedAt, Cond.instanceMethod yX2_wantedAt, Cond.selects RX2 yX2_wantedAt yX2_wantedAt, Cond.code yX2_wantedAt cX2_wantedAt 5 (some .long), Cond.fieldLink RX2 9 "LightWheel$State" "pictureCount" "I"]
def wsX4_count_r3 : List Cond := [Cond.fieldLink RX2 17 "LightWheel$State" "pictures" "[LLightWheel$Picture;", Cond.methodLink RX2 67 yX0_wantedAt, Cond.instanceMethod yX0_wantedAt, Cond.selects RX0 yX0_wantedAt yX0_wantedAt, Cond.initialized RX0, Cond.code yX0_wantedAt cX0_wantedAt 2 (some .long), Cond.fieldLink RX0 21 "LightWheel$Picture" "kind" "I", Cond.fieldLink RX0 24 "LightWheel$Picture" "columns" "[J", Cond.methodLink RX0 47 yX0_covers, Cond.instanceMethod yX0_covers, Cond.selects RX0 yX0_covers yX0_covers, Cond.code yX0_covers cX0_covers 2 (some .boolean), Cond.fieldLink RX0 15 "LightWheel$Picture" "first" "I", Cond.methodLink RX0 40 yJ9_floorMod_7cf53, Cond.static yJ9_floorMod_7cf53, Cond.initialized RJ9, Cond.code yJ9_floorMod_7cf53 cJ9_floorMod_7cf53 3 (some .int), Cond.methodLink RX0 43 yX0_coveredAngles, Cond.instanceMethod yX0_coveredAngles, Cond.selects RX0 yX0_coveredAngles yX0_coveredAngles, Cond.code yX0_coveredAngles cX0_coveredAngles 1 (some .int), Cond.fieldLink RX0 9 "LightWheel$Picture" "width" "I", Cond.fieldLink RX0 18 "LightWheel$Picture" "step" "I", Cond.methodLink RX0 34 Lib.Math.min.name]
def wsX4_count_r4 : List Cond := [Cond.static Lib.Math.min.name, Cond.code Lib.Math.min.name Lib.Math.min.code 2 (some .int), Cond.methodLink RX0 51 yX0_columnOf, Cond.instanceMethod yX0_columnOf, Cond.selects RX0 yX0_columnOf yX0_columnOf, Cond.code yX0_columnOf cX0_columnOf 3 (some .int)]
def wsX4_count : List Cond := .code yX4_count cX4_count 2 (some .int) :: ((wsX4_count_r1 ++ (wsX4_count_r2 ++ (wsX4_count_r3 ++ wsX4_count_r4))) ++ wsX40 ++ wsX20 ++ wsX00)
def wsX4_setting : List Cond := .code yX4_setting cX4_setting 2 (some .int) :: ([.fieldLink RX4 10 "LightWheel" "now" "LLightWheel$State;", .fieldLink RX4 128 "LightWheel$State" "settings" "[I", .methodLink RX4 52 yX4_within, .static yX4_within, .initialized RX4, .code yX4_within cX4_within 3 (some .boolean)] ++ wsX40 ++ wsX20)
def wsX4_picture_r1 : List Cond := [Cond.fieldLink RX4 10 "LightWheel" "now" "LLightWheel$State;", Cond.fieldLink RX4 66 "LightWheel$Picture" "width" "I", Cond.fieldLink RX4 86 "LightWheel$Picture" "first" "I", Cond.fieldLink RX4 89 "LightWheel$Picture" "step" "I", Cond.fieldLink RX4 92 "LightWheel$Picture" "kind" "I", Cond.methodLink RX4 71 yX2_pictureNumbered, Cond.instanceMethod yX2_pictureNumbered, Cond.selects RX2 yX2_pictureNumbered yX2_pictureNumbered, Cond.initialized RX2, Cond.code yX2_pictureNumbered cX2_pictureNumbered 2 (some (.object "LightWheel$Picture")), Cond.fieldLink RX2 9 "LightWheel$State" "pictureCount" "I", Cond.fieldLink RX2 17 "LightWheel$State" "pictures" "[LLightWheel$Picture;", Cond.static yX4_within, Cond.initialized RX4, Cond.code yX4_within cX4_within 3 (some .boolean), Cond.methodLink RX4 169 yX0_countNotDark, Cond.instanceMethod yX0_countNotDark, Cond.selects RX0 yX0_countNotDark yX0_countNotDark, Cond.initialized RX0, Cond.code yX0_countNotDark cX0_countNotDark 3 (some .int), Cond.fieldLink RX0 9 "LightWheel$Picture" "width" "I", Cond.fieldLink RX0 24 "LightWheel$Picture" "columns" "[J", Cond.static yX4_notDark, Cond.code yX4_notDark cX4_notDark 2 (some .long)]
def wsX4_picture_r2 : List Cond := [Cond.constantLong RX4 223 (9817068105), Cond.methodLink RX0 59 yJ13_bitCount_95d88, Cond.static yJ13_bitCount_95d88, Cond.initialized RJ13, Cond.code yJ13_bitCount_95d88 cJ13_bitCount_95d88 2 (some .int), Cond.constantLong RJ13 314 (6148914691236517205), Cond.constantLong RJ13 316 (3689348814741910323), Cond.constantLong RJ13 318 (1085102592571150095), Cond.methodLink RX4 172 yX0_coveredAngles, Cond.instanceMethod yX0_coveredAngles, Cond.selects RX0 yX0_coveredAngles yX0_coveredAngles, Cond.code yX0_coveredAngles cX0_coveredAngles 1 (some .int), Cond.fieldLink RX0 18 "LightWheel$Picture" "step" "I", Cond.methodLink RX0 34 Lib.Math.min.name, Cond.static Lib.Math.min.name, Cond.initialized "java/lang/Math", Cond.code Lib.Math.min.name Lib.Math.min.code 2 (some .int)]
def wsX4_picture : List Cond := .code yX4_picture cX4_picture 4 (some .int) :: ((wsX4_picture_r1 ++ wsX4_picture_r2) ++ wsX40 ++ wsX00 ++ wsX20)
def wsX4_color : List Cond := .code yX4_color cX4_color 5 (some .int) :: ([.fieldLink RX4 10 "LightWheel" "now" "LLightWheel$State;", .fieldLink RX4 66 "LightWheel$Picture" "width" "I", .fieldLink RX4 75 "LightWheel$Picture" "columns" "[J", .methodLink RX4 71 yX2_pictureNumbered, .instanceMethod yX2_pictureNumbered, .selects RX2 yX2_pictureNumbered yX2_pictureNumbered, .initialized RX2, .code yX2_pictureNumbered cX2_pictureNumbered 2 (some (.object "LightWheel$Picture")), .fieldLink RX2 9 "LightWheel$State" "pictureCount" "I", .fieldLink RX2 17 "LightWheel$State" "pictures" "[LLightWheel$Picture;", .static yX4_within, .initialized RX4, .code yX4_within cX4_within 3 (some .boolean), .methodLink RX4 52 yX4_within, .methodLink RX4 78 yX4_colorIn, .static yX4_colorIn, .code yX4_colorIn cX4_colorIn 3 (some .int)] ++ wsX40 ++ wsX00 ++ wsX20)
def wsX4_broken : List Cond := .code yX4_broken cX4_broken 3 (some .int) :: ([.fieldLink RX4 10 "LightWheel" "now" "LLightWheel$State;", .methodLink RX4 52 yX4_within, .static yX4_within, .initialized RX4, .code yX4_within cX4_within 3 (some .boolean), .methodLink RX4 112 yX2_works, .instanceMethod yX2_works, .selects RX2 yX2_works yX2_works, .initialized RX2, .code yX2_works cX2_works 3 (some .boolean), .fieldLink RX2 42 "LightWheel$State" "working" "[J"] ++ wsX40 ++ wsX20)
def wsX4_ticksSinceWritten : List Cond := .code yX4_ticksSinceWritten cX4_ticksSinceWritten 4 (some .int) :: ([.fieldLink RX4 10 "LightWheel" "now" "LLightWheel$State;", .fieldLink RX4 205 "LightWheel$State" "writtenIn" "[I", .fieldLink RX4 131 "LightWheel$State" "ticks" "I"] ++ wsX40 ++ wsX20)
def wsX4_place_r1 : List Cond := [Cond.fieldLink RX4 10 "LightWheel" "now" "LLightWheel$State;", Cond.methodLink RX4 52 yX4_within, Cond.static yX4_within, Cond.initialized RX4, Cond.code yX4_within cX4_within 3 (some .boolean), Cond.methodLink RX4 175 yX2_wantedAt, Cond.instanceMethod yX2_wantedAt, Cond.selects RX2 yX2_wantedAt yX2_wantedAt, Cond.initialized RX2, Cond.code yX2_wantedAt cX2_wantedAt 5 (some .long), Cond.fieldLink RX2 9 "LightWheel$State" "pictureCount" "I", Cond.fieldLink RX2 17 "LightWheel$State" "pictures" "[LLightWheel$Picture;", Cond.methodLink RX2 67 yX0_wantedAt, Cond.instanceMethod yX0_wantedAt, Cond.selects RX0 yX0_wantedAt yX0_wantedAt, Cond.initialized RX0, Cond.code yX0_wantedAt cX0_wantedAt 2 (some .long), Cond.fieldLink RX0 21 "LightWheel$Picture" "kind" "I", Cond.fieldLink RX0 24 "LightWheel$Picture" "columns" "[J", Cond.methodLink RX0 47 yX0_covers, Cond.instanceMethod yX0_covers, Cond.selects RX0 yX0_covers yX0_covers, Cond.code yX0_covers cX0_covers 2 (some .boolean), Cond.fieldLink RX0 15 "LightWheel$Picture" "first" "I"]
def wsX4_place_r2 : List Cond := [Cond.methodLink RX0 40 yJ9_floorMod_7cf53, Cond.static yJ9_floorMod_7cf53, Cond.initialized RJ9, Cond.code yJ9_floorMod_7cf53 cJ9_floorMod_7cf53 3 (some .int), Cond.methodLink RX0 43 yX0_coveredAngles, Cond.instanceMethod yX0_coveredAngles, Cond.selects RX0 yX0_coveredAngles yX0_coveredAngles, Cond.code yX0_coveredAngles cX0_coveredAngles 1 (some .int), Cond.fieldLink RX0 9 "LightWheel$Picture" "width" "I", Cond.fieldLink RX0 18 "LightWheel$Picture" "step" "I", Cond.methodLink RX0 34 Lib.Math.min.name, Cond.static Lib.Math.min.name, Cond.initialized "java/lang/Math", Cond.code Lib.Math.min.name Lib.Math.min.code 2 (some .int), Cond.methodLink RX0 51 yX0_columnOf, Cond.instanceMethod yX0_columnOf, Cond.selects RX0 yX0_columnOf yX0_columnOf, Cond.code yX0_columnOf cX0_columnOf 3 (some .int), Cond.methodLink RX4 78 yX4_colorIn, Cond.static yX4_colorIn, Cond.code yX4_colorIn cX4_colorIn 3 (some .int), Cond.methodLink RX4 179 yX2_litAt, Cond.instanceMethod yX2_litAt, Cond.selects RX2 yX2_litAt yX2_litAt]
def wsX4_place_r3 : List Cond := [Cond.code yX2_litAt cX2_litAt 8 (some .long), Cond.fieldLink RX2 27 "LightWheel$State" "ticks" "I", Cond.fieldLink RX2 36 "LightWheel$State" "settings" "[I", Cond.methodLink RX2 78 Lib.Math.max.name, Cond.static Lib.Math.max.name, Cond.code Lib.Math.max.name Lib.Math.max.code 2 (some .int), Cond.fieldLink RX2 49 "LightWheel$State" "writtenIn" "[I", Cond.fieldLink RX2 46 "LightWheel$State" "written" "[J", Cond.constantLong RX2 84 (7), Cond.methodLink RX4 183 yX4_ticksSinceWritten, Cond.instanceMethod yX4_ticksSinceWritten, Cond.selects RX4 yX4_ticksSinceWritten yX4_ticksSinceWritten, Cond.code yX4_ticksSinceWritten cX4_ticksSinceWritten 4 (some .int), Cond.fieldLink RX4 205 "LightWheel$State" "writtenIn" "[I", Cond.fieldLink RX4 131 "LightWheel$State" "ticks" "I"]
def wsX4_place : List Cond := .code yX4_place cX4_place 4 (some .int) :: ((wsX4_place_r1 ++ (wsX4_place_r2 ++ wsX4_place_r3)) ++ wsX40 ++ wsX20 ++ wsX00)
def wsX4_columnAt_r1 : List Cond := [Cond.fieldLink RX4 10 "LightWheel" "now" "LLightWheel$State;", Cond.methodLink RX4 71 yX2_pictureNumbered, Cond.instanceMethod yX2_pictureNumbered, Cond.selects RX2 yX2_pictureNumbered yX2_pictureNumbered, Cond.initialized RX2, Cond.code yX2_pictureNumbered cX2_pictureNumbered 2 (some (.object "LightWheel$Picture")), Cond.fieldLink RX2 9 "LightWheel$State" "pictureCount" "I", Cond.fieldLink RX2 17 "LightWheel$State" "pictures" "[LLightWheel$Picture;", Cond.static yX4_within, Cond.initialized RX4, Cond.code yX4_within cX4_within 3 (some .boolean), Cond.methodLink RX4 52 yX4_within, Cond.methodLink RX4 187 yX0_covers, Cond.instanceMethod yX0_covers, Cond.selects RX0 yX0_covers yX0_covers, Cond.initialized RX0, Cond.code yX0_covers cX0_covers 2 (some .boolean), Cond.fieldLink RX0 15 "LightWheel$Picture" "first" "I", Cond.methodLink RX0 40 yJ9_floorMod_7cf53, Cond.static yJ9_floorMod_7cf53, Cond.initialized RJ9, Cond.code yJ9_floorMod_7cf53 cJ9_floorMod_7cf53 3 (some .int), Cond.methodLink RX0 43 yX0_coveredAngles, Cond.instanceMethod yX0_coveredAngles]
def wsX4_columnAt_r2 : List Cond := [Cond.selects RX0 yX0_coveredAngles yX0_coveredAngles, Cond.code yX0_coveredAngles cX0_coveredAngles 1 (some .int), Cond.fieldLink RX0 9 "LightWheel$Picture" "width" "I", Cond.fieldLink RX0 18 "LightWheel$Picture" "step" "I", Cond.methodLink RX0 34 Lib.Math.min.name, Cond.static Lib.Math.min.name, Cond.initialized "java/lang/Math", Cond.code Lib.Math.min.name Lib.Math.min.code 2 (some .int), Cond.methodLink RX4 191 yX0_columnOf, Cond.instanceMethod yX0_columnOf, Cond.selects RX0 yX0_columnOf yX0_columnOf, Cond.code yX0_columnOf cX0_columnOf 3 (some .int), Cond.fieldLink RX0 21 "LightWheel$Picture" "kind" "I"]
def wsX4_columnAt : List Cond := .code yX4_columnAt cX4_columnAt 4 (some .int) :: ((wsX4_columnAt_r1 ++ wsX4_columnAt_r2) ++ wsX40 ++ wsX20 ++ wsX00)
def wsX4_ticksAround_r1 : List Cond := [Cond.fieldLink RX4 44 "LightWheel" "sweep" "LLightWheel$Sweep;", Cond.fieldLink RX4 10 "LightWheel" "now" "LLightWheel$State;", Cond.fieldLink RX4 128 "LightWheel$State" "settings" "[I", Cond.fieldLink RX4 208 "LightWheel$Sweep" "speed" "I", Cond.methodLink RX4 209 Lib.Math.abs.name, Cond.static Lib.Math.abs.name, Cond.initialized "java/lang/Math", Cond.code Lib.Math.abs.name Lib.Math.abs.code 1 (some .int), Cond.methodLink RX4 134 yX3_prepare, Cond.instanceMethod yX3_prepare, Cond.selects RX3 yX3_prepare yX3_prepare, Cond.initialized RX3, Cond.code yX3_prepare cX3_prepare 3 none, Cond.fieldLink RX3 22 "LightWheel$State" "secondArm" "I", Cond.fieldLink RX3 28 "LightWheel$Sweep" "secondArm" "Z", Cond.fieldLink RX3 31 "LightWheel$State" "settings" "[I", Cond.fieldLink RX3 34 "LightWheel$Sweep" "power" "I", Cond.fieldLink RX3 37 "LightWheel$Sweep" "limit" "I", Cond.fieldLink RX3 9 "LightWheel$Sweep" "wanted" "[J", Cond.fieldLink RX3 15 "LightWheel$Sweep" "loadAt" "[I", Cond.fieldLink RX3 48 "LightWheel$State" "working" "[J", Cond.methodLink RX3 40 yX2_wantedAt, Cond.instanceMethod yX2_wantedAt, Cond.selects RX2 yX2_wantedAt yX2_wantedAt]
def wsX4_ticksAround_r2 : List Cond := [Cond.initialized RX2, Cond.code yX2_wantedAt cX2_wantedAt 5 (some .long), Cond.fieldLink RX2 9 "LightWheel$State" "pictureCount" "I", Cond.fieldLink RX2 17 "LightWheel$State" "pictures" "[LLightWheel$Picture;", Cond.methodLink RX2 67 yX0_wantedAt, Cond.instanceMethod yX0_wantedAt, Cond.selects RX0 yX0_wantedAt yX0_wantedAt, Cond.initialized RX0, Cond.code yX0_wantedAt cX0_wantedAt 2 (some .long), Cond.fieldLink RX0 21 "LightWheel$Picture" "kind" "I", Cond.fieldLink RX0 24 "LightWheel$Picture" "columns" "[J", Cond.methodLink RX0 47 yX0_covers, Cond.instanceMethod yX0_covers, Cond.selects RX0 yX0_covers yX0_covers, Cond.code yX0_covers cX0_covers 2 (some .boolean), Cond.fieldLink RX0 15 "LightWheel$Picture" "first" "I", Cond.methodLink RX0 40 yJ9_floorMod_7cf53, Cond.static yJ9_floorMod_7cf53, Cond.initialized RJ9, Cond.code yJ9_floorMod_7cf53 cJ9_floorMod_7cf53 3 (some .int), Cond.methodLink RX0 43 yX0_coveredAngles, Cond.instanceMethod yX0_coveredAngles, Cond.selects RX0 yX0_coveredAngles yX0_coveredAngles, Cond.code yX0_coveredAngles cX0_coveredAngles 1 (some .int)]
def wsX4_ticksAround_r3 : List Cond := [Cond.fieldLink RX0 9 "LightWheel$Picture" "width" "I", Cond.fieldLink RX0 18 "LightWheel$Picture" "step" "I", Cond.methodLink RX0 34 Lib.Math.min.name, Cond.static Lib.Math.min.name, Cond.code Lib.Math.min.name Lib.Math.min.code 2 (some .int), Cond.methodLink RX0 51 yX0_columnOf, Cond.instanceMethod yX0_columnOf, Cond.selects RX0 yX0_columnOf yX0_columnOf, Cond.code yX0_columnOf cX0_columnOf 3 (some .int), Cond.static yX4_notDark, Cond.initialized RX4, Cond.code yX4_notDark cX4_notDark 2 (some .long), Cond.constantLong RX4 223 (9817068105), Cond.methodLink RX3 51 yJ13_bitCount_95d88, Cond.static yJ13_bitCount_95d88, Cond.initialized RJ13, Cond.code yJ13_bitCount_95d88 cJ13_bitCount_95d88 2 (some .int), Cond.constantLong RJ13 314 (6148914691236517205), Cond.constantLong RJ13 316 (3689348814741910323), Cond.constantLong RJ13 318 (1085102592571150095), Cond.methodLink RX3 57 yX3_opposite, Cond.static yX3_opposite, Cond.code yX3_opposite cX3_opposite 1 (some .int), Cond.methodLink RX4 138 yX3_start]
def wsX4_ticksAround_r4 : List Cond := [Cond.instanceMethod yX3_start, Cond.selects RX3 yX3_start yX3_start, Cond.code yX3_start cX3_start 4 none, Cond.fieldLink RX3 61 "LightWheel$Sweep" "wantedSpeed" "I", Cond.fieldLink RX3 64 "LightWheel$State" "angle" "I", Cond.fieldLink RX3 67 "LightWheel$Sweep" "angle" "I", Cond.fieldLink RX3 68 "LightWheel$State" "speed" "I", Cond.fieldLink RX3 71 "LightWheel$Sweep" "speed" "I", Cond.fieldLink RX3 72 "LightWheel$State" "load" "I", Cond.fieldLink RX3 75 "LightWheel$Sweep" "load" "I", Cond.fieldLink RX3 76 "LightWheel$Sweep" "ticks" "I", Cond.fieldLink RX3 19 "LightWheel$Sweep" "passedIn" "[I", Cond.methodLink RX4 142 yX3_goOn, Cond.instanceMethod yX3_goOn, Cond.selects RX3 yX3_goOn yX3_goOn, Cond.code yX3_goOn cX3_goOn 3 none, Cond.methodLink RX3 79 yX3_changeSpeed, Cond.instanceMethod yX3_changeSpeed, Cond.selects RX3 yX3_changeSpeed yX3_changeSpeed, Cond.code yX3_changeSpeed cX3_changeSpeed 2 none, Cond.methodLink RX3 85 Lib.Math.min.name, Cond.methodLink RX3 91 Lib.Math.max.name, Cond.static Lib.Math.max.name, Cond.code Lib.Math.max.name Lib.Math.max.code 2 (some .int)]
def wsX4_ticksAround_r5 : List Cond := [Cond.methodLink RX3 82 yX3_turn, Cond.instanceMethod yX3_turn, Cond.selects RX3 yX3_turn yX3_turn, Cond.code yX3_turn cX3_turn 3 none, Cond.methodLink RX3 94 Lib.Math.abs.name, Cond.methodLink RX3 97 yJ9_floorMod_7cf53]
def wsX4_ticksAround : List Cond := .code yX4_ticksAround cX4_ticksAround 3 (some .int) :: ((wsX4_ticksAround_r1 ++ (wsX4_ticksAround_r2 ++ (wsX4_ticksAround_r3 ++ (wsX4_ticksAround_r4 ++ wsX4_ticksAround_r5)))) ++ wsX40 ++ wsX20 ++ wsX30 ++ wsX00)
def wsX4_gaps_r1 : List Cond := [Cond.fieldLink RX4 44 "LightWheel" "sweep" "LLightWheel$Sweep;", Cond.fieldLink RX4 10 "LightWheel" "now" "LLightWheel$State;", Cond.fieldLink RX4 128 "LightWheel$State" "settings" "[I", Cond.methodLink RX4 52 yX4_within, Cond.static yX4_within, Cond.initialized RX4, Cond.code yX4_within cX4_within 3 (some .boolean), Cond.methodLink RX4 134 yX3_prepare, Cond.instanceMethod yX3_prepare, Cond.selects RX3 yX3_prepare yX3_prepare, Cond.initialized RX3, Cond.code yX3_prepare cX3_prepare 3 none, Cond.fieldLink RX3 22 "LightWheel$State" "secondArm" "I", Cond.fieldLink RX3 28 "LightWheel$Sweep" "secondArm" "Z", Cond.fieldLink RX3 31 "LightWheel$State" "settings" "[I", Cond.fieldLink RX3 34 "LightWheel$Sweep" "power" "I", Cond.fieldLink RX3 37 "LightWheel$Sweep" "limit" "I", Cond.fieldLink RX3 9 "LightWheel$Sweep" "wanted" "[J", Cond.fieldLink RX3 15 "LightWheel$Sweep" "loadAt" "[I", Cond.fieldLink RX3 48 "LightWheel$State" "working" "[J", Cond.methodLink RX3 40 yX2_wantedAt, Cond.instanceMethod yX2_wantedAt, Cond.selects RX2 yX2_wantedAt yX2_wantedAt, Cond.initialized RX2]
def wsX4_gaps_r2 : List Cond := [Cond.code yX2_wantedAt cX2_wantedAt 5 (some .long), Cond.fieldLink RX2 9 "LightWheel$State" "pictureCount" "I", Cond.fieldLink RX2 17 "LightWheel$State" "pictures" "[LLightWheel$Picture;", Cond.methodLink RX2 67 yX0_wantedAt, Cond.instanceMethod yX0_wantedAt, Cond.selects RX0 yX0_wantedAt yX0_wantedAt, Cond.initialized RX0, Cond.code yX0_wantedAt cX0_wantedAt 2 (some .long), Cond.fieldLink RX0 21 "LightWheel$Picture" "kind" "I", Cond.fieldLink RX0 24 "LightWheel$Picture" "columns" "[J", Cond.methodLink RX0 47 yX0_covers, Cond.instanceMethod yX0_covers, Cond.selects RX0 yX0_covers yX0_covers, Cond.code yX0_covers cX0_covers 2 (some .boolean), Cond.fieldLink RX0 15 "LightWheel$Picture" "first" "I", Cond.methodLink RX0 40 yJ9_floorMod_7cf53, Cond.static yJ9_floorMod_7cf53, Cond.initialized RJ9, Cond.code yJ9_floorMod_7cf53 cJ9_floorMod_7cf53 3 (some .int), Cond.methodLink RX0 43 yX0_coveredAngles, Cond.instanceMethod yX0_coveredAngles, Cond.selects RX0 yX0_coveredAngles yX0_coveredAngles, Cond.code yX0_coveredAngles cX0_coveredAngles 1 (some .int), Cond.fieldLink RX0 9 "LightWheel$Picture" "width" "I"]
def wsX4_gaps_r3 : List Cond := [Cond.fieldLink RX0 18 "LightWheel$Picture" "step" "I", Cond.methodLink RX0 34 Lib.Math.min.name, Cond.static Lib.Math.min.name, Cond.initialized "java/lang/Math", Cond.code Lib.Math.min.name Lib.Math.min.code 2 (some .int), Cond.methodLink RX0 51 yX0_columnOf, Cond.instanceMethod yX0_columnOf, Cond.selects RX0 yX0_columnOf yX0_columnOf, Cond.code yX0_columnOf cX0_columnOf 3 (some .int), Cond.static yX4_notDark, Cond.code yX4_notDark cX4_notDark 2 (some .long), Cond.constantLong RX4 223 (9817068105), Cond.methodLink RX3 51 yJ13_bitCount_95d88, Cond.static yJ13_bitCount_95d88, Cond.initialized RJ13, Cond.code yJ13_bitCount_95d88 cJ13_bitCount_95d88 2 (some .int), Cond.constantLong RJ13 314 (6148914691236517205), Cond.constantLong RJ13 316 (3689348814741910323), Cond.constantLong RJ13 318 (1085102592571150095), Cond.methodLink RX3 57 yX3_opposite, Cond.static yX3_opposite, Cond.code yX3_opposite cX3_opposite 1 (some .int), Cond.methodLink RX4 138 yX3_start, Cond.instanceMethod yX3_start]
def wsX4_gaps_r4 : List Cond := [Cond.selects RX3 yX3_start yX3_start, Cond.code yX3_start cX3_start 4 none, Cond.fieldLink RX3 61 "LightWheel$Sweep" "wantedSpeed" "I", Cond.fieldLink RX3 64 "LightWheel$State" "angle" "I", Cond.fieldLink RX3 67 "LightWheel$Sweep" "angle" "I", Cond.fieldLink RX3 68 "LightWheel$State" "speed" "I", Cond.fieldLink RX3 71 "LightWheel$Sweep" "speed" "I", Cond.fieldLink RX3 72 "LightWheel$State" "load" "I", Cond.fieldLink RX3 75 "LightWheel$Sweep" "load" "I", Cond.fieldLink RX3 76 "LightWheel$Sweep" "ticks" "I", Cond.fieldLink RX3 19 "LightWheel$Sweep" "passedIn" "[I", Cond.methodLink RX4 142 yX3_goOn, Cond.instanceMethod yX3_goOn, Cond.selects RX3 yX3_goOn yX3_goOn, Cond.code yX3_goOn cX3_goOn 3 none, Cond.methodLink RX3 79 yX3_changeSpeed, Cond.instanceMethod yX3_changeSpeed, Cond.selects RX3 yX3_changeSpeed yX3_changeSpeed, Cond.code yX3_changeSpeed cX3_changeSpeed 2 none, Cond.methodLink RX3 85 Lib.Math.min.name, Cond.methodLink RX3 91 Lib.Math.max.name, Cond.static Lib.Math.max.name, Cond.code Lib.Math.max.name Lib.Math.max.code 2 (some .int), Cond.methodLink RX3 82 yX3_turn]
def wsX4_gaps_r5 : List Cond := [Cond.instanceMethod yX3_turn, Cond.selects RX3 yX3_turn yX3_turn, Cond.code yX3_turn cX3_turn 3 none, Cond.methodLink RX3 94 Lib.Math.abs.name, Cond.static Lib.Math.abs.name, Cond.code Lib.Math.abs.name Lib.Math.abs.code 1 (some .int), Cond.methodLink RX3 97 yJ9_floorMod_7cf53, Cond.methodLink RX4 214 yX3_firstArmAt, Cond.instanceMethod yX3_firstArmAt, Cond.selects RX3 yX3_firstArmAt yX3_firstArmAt, Cond.code yX3_firstArmAt cX3_firstArmAt 2 (some .int), Cond.methodLink RX4 217 yX3_secondArmAt, Cond.instanceMethod yX3_secondArmAt, Cond.selects RX3 yX3_secondArmAt yX3_secondArmAt, Cond.code yX3_secondArmAt cX3_secondArmAt 2 (some .int), Cond.methodLink RX4 220 yX2_isCoveredAt, Cond.instanceMethod yX2_isCoveredAt, Cond.selects RX2 yX2_isCoveredAt yX2_isCoveredAt, Cond.code yX2_isCoveredAt cX2_isCoveredAt 3 (some .boolean), Cond.fieldLink RX2 71 "LightWheel$Picture" "kind" "I", Cond.methodLink RX2 74 yX0_covers]
def wsX4_gaps : List Cond := .code yX4_gaps cX4_gaps 5 (some .int) :: ((wsX4_gaps_r1 ++ (wsX4_gaps_r2 ++ (wsX4_gaps_r3 ++ (wsX4_gaps_r4 ++ wsX4_gaps_r5)))) ++ wsX40 ++ wsX20 ++ wsX30 ++ wsX00)
def wsX4_countRight_r1 : List Cond := [Cond.fieldLink RX4 10 "LightWheel" "now" "LLightWheel$State;", Cond.fieldLink RX4 128 "LightWheel$State" "settings" "[I", Cond.methodLink RX4 232 Lib.Math.max.name, Cond.static Lib.Math.max.name, Cond.initialized "java/lang/Math", Cond.code Lib.Math.max.name Lib.Math.max.code 2 (some .int), Cond.fieldLink RX4 44 "LightWheel" "sweep" "LLightWheel$Sweep;", Cond.fieldLink RX4 116 "LightWheel$State" "working" "[J", Cond.fieldLink RX4 48 "LightWheel" "rightAlone" "[J", Cond.methodLink RX4 214 yX3_firstArmAt, Cond.instanceMethod yX3_firstArmAt, Cond.selects RX3 yX3_firstArmAt yX3_firstArmAt, Cond.initialized RX3, Cond.code yX3_firstArmAt cX3_firstArmAt 2 (some .int), Cond.fieldLink RX3 19 "LightWheel$Sweep" "passedIn" "[I", Cond.methodLink RX4 217 yX3_secondArmAt, Cond.instanceMethod yX3_secondArmAt, Cond.selects RX3 yX3_secondArmAt yX3_secondArmAt, Cond.code yX3_secondArmAt cX3_secondArmAt 2 (some .int), Cond.fieldLink RX3 28 "LightWheel$Sweep" "secondArm" "Z", Cond.methodLink RX3 57 yX3_opposite, Cond.static yX3_opposite, Cond.code yX3_opposite cX3_opposite 1 (some .int), Cond.methodLink RX4 199 yJ13_bitCount_95d88]
def wsX4_countRight_r2 : List Cond := [Cond.static yJ13_bitCount_95d88, Cond.initialized RJ13, Cond.code yJ13_bitCount_95d88 cJ13_bitCount_95d88 2 (some .int), Cond.constantLong RJ13 314 (6148914691236517205), Cond.constantLong RJ13 316 (3689348814741910323), Cond.constantLong RJ13 318 (1085102592571150095)]
def wsX4_countRight : List Cond := .code yX4_countRight cX4_countRight 9 (some .int) :: ((wsX4_countRight_r1 ++ wsX4_countRight_r2) ++ wsX40 ++ wsX20 ++ wsX30)
def wsX4_bestSpeed_r1 : List Cond := [Cond.fieldLink RX4 44 "LightWheel" "sweep" "LLightWheel$Sweep;", Cond.fieldLink RX4 10 "LightWheel" "now" "LLightWheel$State;", Cond.fieldLink RX4 48 "LightWheel" "rightAlone" "[J", Cond.constantLong RX4 223 (9817068105), Cond.fieldLink RX4 225 "LightWheel$Sweep" "wanted" "[J", Cond.constantLong RX4 119 (-1), Cond.fieldLink RX4 121 "LightWheel" "LOWEST" "[I", Cond.fieldLink RX4 125 "LightWheel" "HIGHEST" "[I", Cond.methodLink RX4 52 yX4_within, Cond.static yX4_within, Cond.initialized RX4, Cond.code yX4_within cX4_within 3 (some .boolean), Cond.methodLink RX4 134 yX3_prepare, Cond.instanceMethod yX3_prepare, Cond.selects RX3 yX3_prepare yX3_prepare, Cond.initialized RX3, Cond.code yX3_prepare cX3_prepare 3 none, Cond.fieldLink RX3 22 "LightWheel$State" "secondArm" "I", Cond.fieldLink RX3 28 "LightWheel$Sweep" "secondArm" "Z", Cond.fieldLink RX3 31 "LightWheel$State" "settings" "[I", Cond.fieldLink RX3 34 "LightWheel$Sweep" "power" "I", Cond.fieldLink RX3 37 "LightWheel$Sweep" "limit" "I", Cond.fieldLink RX3 9 "LightWheel$Sweep" "wanted" "[J", Cond.fieldLink RX3 15 "LightWheel$Sweep" "loadAt" "[I"]
def wsX4_bestSpeed_r2 : List Cond := [Cond.fieldLink RX3 48 "LightWheel$State" "working" "[J", Cond.methodLink RX3 40 yX2_wantedAt, Cond.instanceMethod yX2_wantedAt, Cond.selects RX2 yX2_wantedAt yX2_wantedAt, Cond.initialized RX2, Cond.code yX2_wantedAt cX2_wantedAt 5 (some .long), Cond.fieldLink RX2 9 "LightWheel$State" "pictureCount" "I", Cond.fieldLink RX2 17 "LightWheel$State" "pictures" "[LLightWheel$Picture;", Cond.methodLink RX2 67 yX0_wantedAt, Cond.instanceMethod yX0_wantedAt, Cond.selects RX0 yX0_wantedAt yX0_wantedAt, Cond.initialized RX0, Cond.code yX0_wantedAt cX0_wantedAt 2 (some .long), Cond.fieldLink RX0 21 "LightWheel$Picture" "kind" "I", Cond.fieldLink RX0 24 "LightWheel$Picture" "columns" "[J", Cond.methodLink RX0 47 yX0_covers, Cond.instanceMethod yX0_covers, Cond.selects RX0 yX0_covers yX0_covers, Cond.code yX0_covers cX0_covers 2 (some .boolean), Cond.fieldLink RX0 15 "LightWheel$Picture" "first" "I", Cond.methodLink RX0 40 yJ9_floorMod_7cf53, Cond.static yJ9_floorMod_7cf53, Cond.initialized RJ9, Cond.code yJ9_floorMod_7cf53 cJ9_floorMod_7cf53 3 (some .int)]
def wsX4_bestSpeed_r3 : List Cond := [Cond.methodLink RX0 43 yX0_coveredAngles, Cond.instanceMethod yX0_coveredAngles, Cond.selects RX0 yX0_coveredAngles yX0_coveredAngles, Cond.code yX0_coveredAngles cX0_coveredAngles 1 (some .int), Cond.fieldLink RX0 9 "LightWheel$Picture" "width" "I", Cond.fieldLink RX0 18 "LightWheel$Picture" "step" "I", Cond.methodLink RX0 34 Lib.Math.min.name, Cond.static Lib.Math.min.name, Cond.initialized "java/lang/Math", Cond.code Lib.Math.min.name Lib.Math.min.code 2 (some .int), Cond.methodLink RX0 51 yX0_columnOf, Cond.instanceMethod yX0_columnOf, Cond.selects RX0 yX0_columnOf yX0_columnOf, Cond.code yX0_columnOf cX0_columnOf 3 (some .int), Cond.static yX4_notDark, Cond.code yX4_notDark cX4_notDark 2 (some .long), Cond.methodLink RX3 51 yJ13_bitCount_95d88, Cond.static yJ13_bitCount_95d88, Cond.initialized RJ13, Cond.code yJ13_bitCount_95d88 cJ13_bitCount_95d88 2 (some .int), Cond.constantLong RJ13 314 (6148914691236517205), Cond.constantLong RJ13 316 (3689348814741910323), Cond.constantLong RJ13 318 (1085102592571150095), Cond.methodLink RX3 57 yX3_opposite]
def wsX4_bestSpeed_r4 : List Cond := [Cond.static yX3_opposite, Cond.code yX3_opposite cX3_opposite 1 (some .int), Cond.methodLink RX4 179 yX2_litAt, Cond.instanceMethod yX2_litAt, Cond.selects RX2 yX2_litAt yX2_litAt, Cond.code yX2_litAt cX2_litAt 8 (some .long), Cond.fieldLink RX2 27 "LightWheel$State" "ticks" "I", Cond.fieldLink RX2 36 "LightWheel$State" "settings" "[I", Cond.methodLink RX2 78 Lib.Math.max.name, Cond.static Lib.Math.max.name, Cond.code Lib.Math.max.name Lib.Math.max.code 2 (some .int), Cond.fieldLink RX2 49 "LightWheel$State" "writtenIn" "[I", Cond.fieldLink RX2 46 "LightWheel$State" "written" "[J", Cond.constantLong RX2 84 (7), Cond.methodLink RX4 195 yX4_notDark, Cond.methodLink RX4 138 yX3_start, Cond.instanceMethod yX3_start, Cond.selects RX3 yX3_start yX3_start, Cond.code yX3_start cX3_start 4 none, Cond.fieldLink RX3 61 "LightWheel$Sweep" "wantedSpeed" "I", Cond.fieldLink RX3 64 "LightWheel$State" "angle" "I", Cond.fieldLink RX3 67 "LightWheel$Sweep" "angle" "I", Cond.fieldLink RX3 68 "LightWheel$State" "speed" "I", Cond.fieldLink RX3 71 "LightWheel$Sweep" "speed" "I"]
def wsX4_bestSpeed_r5 : List Cond := [Cond.fieldLink RX3 72 "LightWheel$State" "load" "I", Cond.fieldLink RX3 75 "LightWheel$Sweep" "load" "I", Cond.fieldLink RX3 76 "LightWheel$Sweep" "ticks" "I", Cond.fieldLink RX3 19 "LightWheel$Sweep" "passedIn" "[I", Cond.methodLink RX4 142 yX3_goOn, Cond.instanceMethod yX3_goOn, Cond.selects RX3 yX3_goOn yX3_goOn, Cond.code yX3_goOn cX3_goOn 3 none, Cond.methodLink RX3 79 yX3_changeSpeed, Cond.instanceMethod yX3_changeSpeed, Cond.selects RX3 yX3_changeSpeed yX3_changeSpeed, Cond.code yX3_changeSpeed cX3_changeSpeed 2 none, Cond.methodLink RX3 85 Lib.Math.min.name, Cond.methodLink RX3 91 Lib.Math.max.name, Cond.methodLink RX3 82 yX3_turn, Cond.instanceMethod yX3_turn, Cond.selects RX3 yX3_turn yX3_turn, Cond.code yX3_turn cX3_turn 3 none, Cond.methodLink RX3 94 Lib.Math.abs.name, Cond.static Lib.Math.abs.name, Cond.code Lib.Math.abs.name Lib.Math.abs.code 1 (some .int), Cond.methodLink RX3 97 yJ9_floorMod_7cf53, Cond.methodLink RX4 228 yX4_countRight, Cond.instanceMethod yX4_countRight]
def wsX4_bestSpeed_r6 : List Cond := [Cond.selects RX4 yX4_countRight yX4_countRight, Cond.code yX4_countRight cX4_countRight 9 (some .int), Cond.fieldLink RX4 128 "LightWheel$State" "settings" "[I", Cond.methodLink RX4 232 Lib.Math.max.name, Cond.fieldLink RX4 116 "LightWheel$State" "working" "[J", Cond.methodLink RX4 214 yX3_firstArmAt, Cond.instanceMethod yX3_firstArmAt, Cond.selects RX3 yX3_firstArmAt yX3_firstArmAt, Cond.code yX3_firstArmAt cX3_firstArmAt 2 (some .int), Cond.methodLink RX4 217 yX3_secondArmAt, Cond.instanceMethod yX3_secondArmAt, Cond.selects RX3 yX3_secondArmAt yX3_secondArmAt, Cond.code yX3_secondArmAt cX3_secondArmAt 2 (some .int), Cond.methodLink RX4 199 yJ13_bitCount_95d88]
def wsX4_bestSpeed : List Cond := .code yX4_bestSpeed cX4_bestSpeed 6 (some .int) :: ((wsX4_bestSpeed_r1 ++ (wsX4_bestSpeed_r2 ++ (wsX4_bestSpeed_r3 ++ (wsX4_bestSpeed_r4 ++ (wsX4_bestSpeed_r5 ++ wsX4_bestSpeed_r6))))) ++ wsX40 ++ wsX30 ++ wsX20 ++ wsX00)
def wsX4_meetings_r1 : List Cond := [Cond.fieldLink RX4 10 "LightWheel" "now" "LLightWheel$State;", Cond.methodLink RX4 71 yX2_pictureNumbered, Cond.instanceMethod yX2_pictureNumbered, Cond.selects RX2 yX2_pictureNumbered yX2_pictureNumbered, Cond.initialized RX2, Cond.code yX2_pictureNumbered cX2_pictureNumbered 2 (some (.object "LightWheel$Picture")), Cond.fieldLink RX2 9 "LightWheel$State" "pictureCount" "I", Cond.fieldLink RX2 17 "LightWheel$State" "pictures" "[LLightWheel$Picture;", Cond.static yX4_within, Cond.initialized RX4, Cond.code yX4_within cX4_within 3 (some .boolean), Cond.methodLink RX4 231 yX0_wantedAt, Cond.instanceMethod yX0_wantedAt, Cond.selects RX0 yX0_wantedAt yX0_wantedAt, Cond.initialized RX0, Cond.code yX0_wantedAt cX0_wantedAt 2 (some .long), Cond.fieldLink RX0 21 "LightWheel$Picture" "kind" "I", Cond.fieldLink RX0 24 "LightWheel$Picture" "columns" "[J", Cond.methodLink RX0 47 yX0_covers, Cond.instanceMethod yX0_covers, Cond.selects RX0 yX0_covers yX0_covers, Cond.code yX0_covers cX0_covers 2 (some .boolean), Cond.fieldLink RX0 15 "LightWheel$Picture" "first" "I", Cond.methodLink RX0 40 yJ9_floorMod_7cf53]
def wsX4_meetings_r2 : List Cond := [Cond.static yJ9_floorMod_7cf53, Cond.initialized RJ9, Cond.code yJ9_floorMod_7cf53 cJ9_floorMod_7cf53 3 (some .int), Cond.methodLink RX0 43 yX0_coveredAngles, Cond.instanceMethod yX0_coveredAngles, Cond.selects RX0 yX0_coveredAngles yX0_coveredAngles, Cond.code yX0_coveredAngles cX0_coveredAngles 1 (some .int), Cond.fieldLink RX0 9 "LightWheel$Picture" "width" "I", Cond.fieldLink RX0 18 "LightWheel$Picture" "step" "I", Cond.methodLink RX0 34 Lib.Math.min.name, Cond.static Lib.Math.min.name, Cond.initialized "java/lang/Math", Cond.code Lib.Math.min.name Lib.Math.min.code 2 (some .int), Cond.methodLink RX0 51 yX0_columnOf, Cond.instanceMethod yX0_columnOf, Cond.selects RX0 yX0_columnOf yX0_columnOf, Cond.code yX0_columnOf cX0_columnOf 3 (some .int), Cond.methodLink RX4 195 yX4_notDark, Cond.static yX4_notDark, Cond.code yX4_notDark cX4_notDark 2 (some .long), Cond.constantLong RX4 223 (9817068105), Cond.methodLink RX4 199 yJ13_bitCount_95d88, Cond.static yJ13_bitCount_95d88, Cond.initialized RJ13]
def wsX4_meetings_r3 : List Cond := [Cond.code yJ13_bitCount_95d88 cJ13_bitCount_95d88 2 (some .int), Cond.constantLong RJ13 314 (6148914691236517205), Cond.constantLong RJ13 316 (3689348814741910323), Cond.constantLong RJ13 318 (1085102592571150095)]
def wsX4_meetings : List Cond := .code yX4_meetings cX4_meetings 7 (some .int) :: ((wsX4_meetings_r1 ++ (wsX4_meetings_r2 ++ wsX4_meetings_r3)) ++ wsX40 ++ wsX20 ++ wsX00)
def wsX5_init : List Cond := .code yX5_init cX5_init 1 none :: ([.methodLink RX5 1 objectInit, .instanceMethod objectInit, .code objectInit ⟨#[0xb1]⟩ 1 none, .arrayClass .int, .fieldLink RX5 7 "LightWheelModel" "m" "[I", .fieldLink RX5 13 "LightWheelModel" "written" "[I", .fieldLink RX5 16 "LightWheelModel" "spare" "[I", .fieldLink RX5 19 "LightWheelModel" "spareWritten" "[I", .fieldLink RX5 22 "LightWheelModel" "states" "[I", .fieldLink RX5 25 "LightWheelModel" "fifth" "[I", .fieldLink RX5 28 "LightWheelModel" "text" "[I", .fieldLink RX5 31 "LightWheelModel" "read" "[I", .fieldLink RX5 34 "LightWheelModel" "wants" "[I", .fieldLink RX5 37 "LightWheelModel" "comes" "[I"] ++ wsX50)
def wsX5_in : List Cond := .code yX5_in cX5_in 3 (some .boolean) :: ([])
def wsX5_size : List Cond := .code yX5_size cX5_size 1 (some .int) :: ([])
def wsX5_lesser : List Cond := .code yX5_lesser cX5_lesser 2 (some .int) :: ([])
def wsX5_around : List Cond := .code yX5_around cX5_around 1 (some .int) :: ([])
def wsX5_past : List Cond := .code yX5_past cX5_past 3 (some .int) :: ([.fieldLink RX5 22 "LightWheelModel" "states" "[I", .fieldLink RX5 25 "LightWheelModel" "fifth" "[I"] ++ wsX50)
def wsX5_lay : List Cond := .code yX5_lay cX5_lay 4 none :: ([.fieldLink RX5 22 "LightWheelModel" "states" "[I", .fieldLink RX5 25 "LightWheelModel" "fifth" "[I"] ++ wsX50)
def wsX5_record : List Cond := .code yX5_record cX5_record 3 none :: ([.fieldLink RX5 40 "LightWheelModel" "stateCount" "I", .fieldLink RX5 44 "LightWheelModel" "oldest" "I", .fieldLink RX5 7 "LightWheelModel" "m" "[I", .fieldLink RX5 13 "LightWheelModel" "written" "[I", .methodLink RX5 47 yX5_lay, .instanceMethod yX5_lay, .selects RX5 yX5_lay yX5_lay, .initialized RX5, .code yX5_lay cX5_lay 4 none, .fieldLink RX5 22 "LightWheelModel" "states" "[I", .fieldLink RX5 25 "LightWheelModel" "fifth" "[I"] ++ wsX50)
def wsX5_undo : List Cond := .code yX5_undo cX5_undo 4 (some .int) :: ([.fieldLink RX5 40 "LightWheelModel" "stateCount" "I", .fieldLink RX5 44 "LightWheelModel" "oldest" "I", .fieldLink RX5 7 "LightWheelModel" "m" "[I", .fieldLink RX5 13 "LightWheelModel" "written" "[I", .constant RX5 55 (65535), .methodLink RX5 51 yX5_past, .instanceMethod yX5_past, .selects RX5 yX5_past yX5_past, .initialized RX5, .code yX5_past cX5_past 3 (some .int), .fieldLink RX5 22 "LightWheelModel" "states" "[I", .fieldLink RX5 25 "LightWheelModel" "fifth" "[I"] ++ wsX50)
def wsX5_setAside : List Cond := .code yX5_setAside cX5_setAside 2 none :: ([.fieldLink RX5 16 "LightWheelModel" "spare" "[I", .fieldLink RX5 7 "LightWheelModel" "m" "[I", .fieldLink RX5 19 "LightWheelModel" "spareWritten" "[I", .fieldLink RX5 13 "LightWheelModel" "written" "[I"] ++ wsX50)
def wsX5_bringBack : List Cond := .code yX5_bringBack cX5_bringBack 2 none :: ([.fieldLink RX5 7 "LightWheelModel" "m" "[I", .fieldLink RX5 16 "LightWheelModel" "spare" "[I", .fieldLink RX5 13 "LightWheelModel" "written" "[I", .fieldLink RX5 19 "LightWheelModel" "spareWritten" "[I"] ++ wsX50)
def wsX5_isPicture : List Cond := .code yX5_isPicture cX5_isPicture 2 (some .boolean) :: ([.fieldLink RX5 7 "LightWheelModel" "m" "[I", .methodLink RX5 56 yX5_in, .static yX5_in, .initialized RX5, .code yX5_in cX5_in 3 (some .boolean)] ++ wsX50)
def wsX5_of : List Cond := .code yX5_of cX5_of 3 (some .int) :: ([.fieldLink RX5 7 "LightWheelModel" "m" "[I"] ++ wsX50)
def wsX5_isLight : List Cond := .code yX5_isLight cX5_isLight 1 (some .boolean) :: ([.methodLink RX5 56 yX5_in, .static yX5_in, .initialized RX5, .code yX5_in cX5_in 3 (some .boolean)])
def wsX5_cellOf : List Cond := .code yX5_cellOf cX5_cellOf 3 (some .int) :: ([])
def wsX5_colorOf : List Cond := .code yX5_colorOf cX5_colorOf 4 (some .int) :: ([.fieldLink RX5 7 "LightWheelModel" "m" "[I", .methodLink RX5 60 yX5_cellOf, .static yX5_cellOf, .initialized RX5, .code yX5_cellOf cX5_cellOf 3 (some .int)] ++ wsX50)
def wsX5_putColor : List Cond := .code yX5_putColor cX5_putColor 7 none :: ([.fieldLink RX5 7 "LightWheelModel" "m" "[I", .methodLink RX5 60 yX5_cellOf, .static yX5_cellOf, .initialized RX5, .code yX5_cellOf cX5_cellOf 3 (some .int)] ++ wsX50)
def wsX5_covered : List Cond := .code yX5_covered cX5_covered 2 (some .int) :: ([.methodLink RX5 64 yX5_of, .instanceMethod yX5_of, .selects RX5 yX5_of yX5_of, .initialized RX5, .code yX5_of cX5_of 3 (some .int), .fieldLink RX5 7 "LightWheelModel" "m" "[I", .methodLink RX5 67 yX5_lesser, .static yX5_lesser, .code yX5_lesser cX5_lesser 2 (some .int)] ++ wsX50)
def wsX5_columnOf : List Cond := .code yX5_columnOf cX5_columnOf 5 (some .int) :: ([.methodLink RX5 64 yX5_of, .instanceMethod yX5_of, .selects RX5 yX5_of yX5_of, .initialized RX5, .code yX5_of cX5_of 3 (some .int), .fieldLink RX5 7 "LightWheelModel" "m" "[I", .methodLink RX5 70 yX5_around, .static yX5_around, .code yX5_around cX5_around 1 (some .int), .methodLink RX5 74 yX5_covered, .instanceMethod yX5_covered, .selects RX5 yX5_covered yX5_covered, .code yX5_covered cX5_covered 2 (some .int), .methodLink RX5 67 yX5_lesser, .static yX5_lesser, .code yX5_lesser cX5_lesser 2 (some .int)] ++ wsX50)
def wsX5_wanted_r1 : List Cond := [Cond.fieldLink RX5 7 "LightWheelModel" "m" "[I", Cond.methodLink RX5 64 yX5_of, Cond.instanceMethod yX5_of, Cond.selects RX5 yX5_of yX5_of, Cond.initialized RX5, Cond.code yX5_of cX5_of 3 (some .int), Cond.methodLink RX5 77 yX5_columnOf, Cond.instanceMethod yX5_columnOf, Cond.selects RX5 yX5_columnOf yX5_columnOf, Cond.code yX5_columnOf cX5_columnOf 5 (some .int), Cond.methodLink RX5 70 yX5_around, Cond.static yX5_around, Cond.code yX5_around cX5_around 1 (some .int), Cond.methodLink RX5 74 yX5_covered, Cond.instanceMethod yX5_covered, Cond.selects RX5 yX5_covered yX5_covered, Cond.code yX5_covered cX5_covered 2 (some .int), Cond.methodLink RX5 67 yX5_lesser, Cond.static yX5_lesser, Cond.code yX5_lesser cX5_lesser 2 (some .int), Cond.methodLink RX5 80 yX5_colorOf, Cond.instanceMethod yX5_colorOf, Cond.selects RX5 yX5_colorOf yX5_colorOf, Cond.code yX5_colorOf cX5_colorOf 4 (some .int)]
def wsX5_wanted_r2 : List Cond := [Cond.methodLink RX5 60 yX5_cellOf, Cond.static yX5_cellOf, Cond.code yX5_cellOf cX5_cellOf 3 (some .int)]
def wsX5_wanted : List Cond := .code yX5_wanted cX5_wanted 6 (some .int) :: ((wsX5_wanted_r1 ++ wsX5_wanted_r2) ++ wsX50)
def wsX5_addPicture : List Cond := .code yX5_addPicture cX5_addPicture 4 (some .int) :: ([.fieldLink RX5 7 "LightWheelModel" "m" "[I", .methodLink RX5 56 yX5_in, .static yX5_in, .initialized RX5, .code yX5_in cX5_in 3 (some .boolean), .methodLink RX5 83 yX5_record, .instanceMethod yX5_record, .selects RX5 yX5_record yX5_record, .code yX5_record cX5_record 3 none, .fieldLink RX5 40 "LightWheelModel" "stateCount" "I", .fieldLink RX5 44 "LightWheelModel" "oldest" "I", .fieldLink RX5 13 "LightWheelModel" "written" "[I", .methodLink RX5 47 yX5_lay, .instanceMethod yX5_lay, .selects RX5 yX5_lay yX5_lay, .code yX5_lay cX5_lay 4 none, .fieldLink RX5 22 "LightWheelModel" "states" "[I", .fieldLink RX5 25 "LightWheelModel" "fifth" "[I"] ++ wsX50)
def wsX5_paint_r1 : List Cond := [Cond.methodLink RX5 86 yX5_isPicture, Cond.instanceMethod yX5_isPicture, Cond.selects RX5 yX5_isPicture yX5_isPicture, Cond.initialized RX5, Cond.code yX5_isPicture cX5_isPicture 2 (some .boolean), Cond.fieldLink RX5 7 "LightWheelModel" "m" "[I", Cond.methodLink RX5 56 yX5_in, Cond.static yX5_in, Cond.code yX5_in cX5_in 3 (some .boolean), Cond.methodLink RX5 64 yX5_of, Cond.instanceMethod yX5_of, Cond.selects RX5 yX5_of yX5_of, Cond.code yX5_of cX5_of 3 (some .int), Cond.methodLink RX5 90 yX5_isLight, Cond.static yX5_isLight, Cond.code yX5_isLight cX5_isLight 1 (some .boolean), Cond.methodLink RX5 83 yX5_record, Cond.instanceMethod yX5_record, Cond.selects RX5 yX5_record yX5_record, Cond.code yX5_record cX5_record 3 none, Cond.fieldLink RX5 40 "LightWheelModel" "stateCount" "I", Cond.fieldLink RX5 44 "LightWheelModel" "oldest" "I", Cond.fieldLink RX5 13 "LightWheelModel" "written" "[I", Cond.methodLink RX5 47 yX5_lay]
def wsX5_paint_r2 : List Cond := [Cond.instanceMethod yX5_lay, Cond.selects RX5 yX5_lay yX5_lay, Cond.code yX5_lay cX5_lay 4 none, Cond.fieldLink RX5 22 "LightWheelModel" "states" "[I", Cond.fieldLink RX5 25 "LightWheelModel" "fifth" "[I", Cond.methodLink RX5 80 yX5_colorOf, Cond.instanceMethod yX5_colorOf, Cond.selects RX5 yX5_colorOf yX5_colorOf, Cond.code yX5_colorOf cX5_colorOf 4 (some .int), Cond.methodLink RX5 60 yX5_cellOf, Cond.static yX5_cellOf, Cond.code yX5_cellOf cX5_cellOf 3 (some .int), Cond.methodLink RX5 93 yX5_putColor, Cond.instanceMethod yX5_putColor, Cond.selects RX5 yX5_putColor yX5_putColor, Cond.code yX5_putColor cX5_putColor 7 none]
def wsX5_paint : List Cond := .code yX5_paint cX5_paint 6 (some .int) :: ((wsX5_paint_r1 ++ wsX5_paint_r2) ++ wsX50)
def wsX5_setPlace_r1 : List Cond := [Cond.fieldLink RX5 7 "LightWheelModel" "m" "[I", Cond.methodLink RX5 86 yX5_isPicture, Cond.instanceMethod yX5_isPicture, Cond.selects RX5 yX5_isPicture yX5_isPicture, Cond.initialized RX5, Cond.code yX5_isPicture cX5_isPicture 2 (some .boolean), Cond.methodLink RX5 56 yX5_in, Cond.static yX5_in, Cond.code yX5_in cX5_in 3 (some .boolean), Cond.methodLink RX5 83 yX5_record, Cond.instanceMethod yX5_record, Cond.selects RX5 yX5_record yX5_record, Cond.code yX5_record cX5_record 3 none, Cond.fieldLink RX5 40 "LightWheelModel" "stateCount" "I", Cond.fieldLink RX5 44 "LightWheelModel" "oldest" "I", Cond.fieldLink RX5 13 "LightWheelModel" "written" "[I", Cond.methodLink RX5 47 yX5_lay, Cond.instanceMethod yX5_lay, Cond.selects RX5 yX5_lay yX5_lay, Cond.code yX5_lay cX5_lay 4 none, Cond.fieldLink RX5 22 "LightWheelModel" "states" "[I", Cond.fieldLink RX5 25 "LightWheelModel" "fifth" "[I", Cond.methodLink RX5 64 yX5_of, Cond.instanceMethod yX5_of]
def wsX5_setPlace_r2 : List Cond := [Cond.selects RX5 yX5_of yX5_of, Cond.code yX5_of cX5_of 3 (some .int)]
def wsX5_setPlace : List Cond := .code yX5_setPlace cX5_setPlace 5 (some .int) :: ((wsX5_setPlace_r1 ++ wsX5_setPlace_r2) ++ wsX50)
def wsX5_put : List Cond := .code yX5_put cX5_put 4 (some .int) :: ([.fieldLink RX5 7 "LightWheelModel" "m" "[I", .methodLink RX5 83 yX5_record, .instanceMethod yX5_record, .selects RX5 yX5_record yX5_record, .initialized RX5, .code yX5_record cX5_record 3 none, .fieldLink RX5 40 "LightWheelModel" "stateCount" "I", .fieldLink RX5 44 "LightWheelModel" "oldest" "I", .fieldLink RX5 13 "LightWheelModel" "written" "[I", .methodLink RX5 47 yX5_lay, .instanceMethod yX5_lay, .selects RX5 yX5_lay yX5_lay, .code yX5_lay cX5_lay 4 none, .fieldLink RX5 22 "LightWheelModel" "states" "[I", .fieldLink RX5 25 "LightWheelModel" "fifth" "[I"] ++ wsX50)
def wsX5_setKind_r1 : List Cond := [Cond.methodLink RX5 86 yX5_isPicture, Cond.instanceMethod yX5_isPicture, Cond.selects RX5 yX5_isPicture yX5_isPicture, Cond.initialized RX5, Cond.code yX5_isPicture cX5_isPicture 2 (some .boolean), Cond.fieldLink RX5 7 "LightWheelModel" "m" "[I", Cond.methodLink RX5 56 yX5_in, Cond.static yX5_in, Cond.code yX5_in cX5_in 3 (some .boolean), Cond.methodLink RX5 97 yX5_put, Cond.instanceMethod yX5_put, Cond.selects RX5 yX5_put yX5_put, Cond.code yX5_put cX5_put 4 (some .int), Cond.methodLink RX5 83 yX5_record, Cond.instanceMethod yX5_record, Cond.selects RX5 yX5_record yX5_record, Cond.code yX5_record cX5_record 3 none, Cond.fieldLink RX5 40 "LightWheelModel" "stateCount" "I", Cond.fieldLink RX5 44 "LightWheelModel" "oldest" "I", Cond.fieldLink RX5 13 "LightWheelModel" "written" "[I", Cond.methodLink RX5 47 yX5_lay, Cond.instanceMethod yX5_lay, Cond.selects RX5 yX5_lay yX5_lay, Cond.code yX5_lay cX5_lay 4 none]
def wsX5_setKind_r2 : List Cond := [Cond.fieldLink RX5 22 "LightWheelModel" "states" "[I", Cond.fieldLink RX5 25 "LightWheelModel" "fifth" "[I"]
def wsX5_setKind : List Cond := .code yX5_setKind cX5_setKind 3 (some .int) :: ((wsX5_setKind_r1 ++ wsX5_setKind_r2) ++ wsX50)
def wsX5_append : List Cond := .code yX5_append cX5_append 2 (some .int) :: ([.fieldLink RX5 100 "LightWheelModel" "textLength" "I", .fieldLink RX5 28 "LightWheelModel" "text" "[I", .methodLink RX5 56 yX5_in, .static yX5_in, .initialized RX5, .code yX5_in cX5_in 3 (some .boolean)] ++ wsX50)
def wsX5_clearText : List Cond := .code yX5_clearText cX5_clearText 2 (some .int) :: ([.fieldLink RX5 100 "LightWheelModel" "textLength" "I"] ++ wsX50)
def wsX5_here : List Cond := .code yX5_here cX5_here 1 (some .int) :: ([.fieldLink RX5 103 "LightWheelModel" "at" "I", .fieldLink RX5 100 "LightWheelModel" "textLength" "I", .fieldLink RX5 28 "LightWheelModel" "text" "[I"] ++ wsX50)
def wsX5_skip : List Cond := .code yX5_skip cX5_skip 1 none :: ([.fieldLink RX5 103 "LightWheelModel" "at" "I", .methodLink RX5 106 yX5_here, .instanceMethod yX5_here, .selects RX5 yX5_here yX5_here, .initialized RX5, .code yX5_here cX5_here 1 (some .int), .fieldLink RX5 100 "LightWheelModel" "textLength" "I", .fieldLink RX5 28 "LightWheelModel" "text" "[I"] ++ wsX50)
def wsX5_isColor : List Cond := .code yX5_isColor cX5_isColor 1 (some .boolean) :: ([.methodLink RX5 106 yX5_here, .instanceMethod yX5_here, .selects RX5 yX5_here yX5_here, .initialized RX5, .code yX5_here cX5_here 1 (some .int), .fieldLink RX5 103 "LightWheelModel" "at" "I", .fieldLink RX5 100 "LightWheelModel" "textLength" "I", .fieldLink RX5 28 "LightWheelModel" "text" "[I", .methodLink RX5 56 yX5_in, .static yX5_in, .code yX5_in cX5_in 3 (some .boolean)] ++ wsX50)
def wsX5_takeColor : List Cond := .code yX5_takeColor cX5_takeColor 3 none :: ([.fieldLink RX5 31 "LightWheelModel" "read" "[I", .fieldLink RX5 110 "LightWheelModel" "columns" "I", .fieldLink RX5 113 "LightWheelModel" "told" "I", .fieldLink RX5 103 "LightWheelModel" "at" "I", .methodLink RX5 106 yX5_here, .instanceMethod yX5_here, .selects RX5 yX5_here yX5_here, .initialized RX5, .code yX5_here cX5_here 1 (some .int), .fieldLink RX5 100 "LightWheelModel" "textLength" "I", .fieldLink RX5 28 "LightWheelModel" "text" "[I"] ++ wsX50)
def wsX5_readNumber : List Cond := .code yX5_readNumber cX5_readNumber 3 (some .int) :: ([.fieldLink RX5 103 "LightWheelModel" "at" "I", .fieldLink RX5 28 "LightWheelModel" "text" "[I", .fieldLink RX5 113 "LightWheelModel" "told" "I", .methodLink RX5 116 yX5_skip, .instanceMethod yX5_skip, .selects RX5 yX5_skip yX5_skip, .initialized RX5, .code yX5_skip cX5_skip 1 none, .methodLink RX5 106 yX5_here, .instanceMethod yX5_here, .selects RX5 yX5_here yX5_here, .code yX5_here cX5_here 1 (some .int), .fieldLink RX5 100 "LightWheelModel" "textLength" "I", .methodLink RX5 56 yX5_in, .static yX5_in, .code yX5_in cX5_in 3 (some .boolean), .methodLink RX5 119 yX5_isColor, .instanceMethod yX5_isColor, .selects RX5 yX5_isColor yX5_isColor, .code yX5_isColor cX5_isColor 1 (some .boolean)] ++ wsX50)
def wsX5_readPart_r1 : List Cond := [Cond.fieldLink RX5 110 "LightWheelModel" "columns" "I", Cond.fieldLink RX5 103 "LightWheelModel" "at" "I", Cond.fieldLink RX5 113 "LightWheelModel" "told" "I", Cond.methodLink RX5 106 yX5_here, Cond.instanceMethod yX5_here, Cond.selects RX5 yX5_here yX5_here, Cond.initialized RX5, Cond.code yX5_here cX5_here 1 (some .int), Cond.fieldLink RX5 100 "LightWheelModel" "textLength" "I", Cond.fieldLink RX5 28 "LightWheelModel" "text" "[I", Cond.methodLink RX5 123 yX5_readNumber, Cond.instanceMethod yX5_readNumber, Cond.selects RX5 yX5_readNumber yX5_readNumber, Cond.code yX5_readNumber cX5_readNumber 3 (some .int), Cond.methodLink RX5 116 yX5_skip, Cond.instanceMethod yX5_skip, Cond.selects RX5 yX5_skip yX5_skip, Cond.code yX5_skip cX5_skip 1 none, Cond.methodLink RX5 56 yX5_in, Cond.static yX5_in, Cond.code yX5_in cX5_in 3 (some .boolean), Cond.methodLink RX5 119 yX5_isColor, Cond.instanceMethod yX5_isColor, Cond.selects RX5 yX5_isColor yX5_isColor]
def wsX5_readPart_r2 : List Cond := [Cond.code yX5_isColor cX5_isColor 1 (some .boolean), Cond.methodLink RX5 126 yX5_takeColor, Cond.instanceMethod yX5_takeColor, Cond.selects RX5 yX5_takeColor yX5_takeColor, Cond.code yX5_takeColor cX5_takeColor 3 none, Cond.fieldLink RX5 31 "LightWheelModel" "read" "[I"]
def wsX5_readPart : List Cond := .code yX5_readPart cX5_readPart 2 (some .boolean) :: ((wsX5_readPart_r1 ++ wsX5_readPart_r2) ++ wsX50)
def wsX5_readText_r1 : List Cond := [Cond.fieldLink RX5 103 "LightWheelModel" "at" "I", Cond.fieldLink RX5 110 "LightWheelModel" "columns" "I", Cond.fieldLink RX5 113 "LightWheelModel" "told" "I", Cond.fieldLink RX5 31 "LightWheelModel" "read" "[I", Cond.fieldLink RX5 100 "LightWheelModel" "textLength" "I", Cond.methodLink RX5 116 yX5_skip, Cond.instanceMethod yX5_skip, Cond.selects RX5 yX5_skip yX5_skip, Cond.initialized RX5, Cond.code yX5_skip cX5_skip 1 none, Cond.methodLink RX5 106 yX5_here, Cond.instanceMethod yX5_here, Cond.selects RX5 yX5_here yX5_here, Cond.code yX5_here cX5_here 1 (some .int), Cond.fieldLink RX5 28 "LightWheelModel" "text" "[I", Cond.methodLink RX5 130 yX5_readPart, Cond.instanceMethod yX5_readPart, Cond.selects RX5 yX5_readPart yX5_readPart, Cond.code yX5_readPart cX5_readPart 2 (some .boolean), Cond.methodLink RX5 123 yX5_readNumber, Cond.instanceMethod yX5_readNumber, Cond.selects RX5 yX5_readNumber yX5_readNumber, Cond.code yX5_readNumber cX5_readNumber 3 (some .int), Cond.methodLink RX5 56 yX5_in]
def wsX5_readText_r2 : List Cond := [Cond.static yX5_in, Cond.code yX5_in cX5_in 3 (some .boolean), Cond.methodLink RX5 119 yX5_isColor, Cond.instanceMethod yX5_isColor, Cond.selects RX5 yX5_isColor yX5_isColor, Cond.code yX5_isColor cX5_isColor 1 (some .boolean), Cond.methodLink RX5 126 yX5_takeColor, Cond.instanceMethod yX5_takeColor, Cond.selects RX5 yX5_takeColor yX5_takeColor, Cond.code yX5_takeColor cX5_takeColor 3 none]
def wsX5_readText : List Cond := .code yX5_readText cX5_readText 2 (some .boolean) :: ((wsX5_readText_r1 ++ wsX5_readText_r2) ++ wsX50)
def wsX5_load_r1 : List Cond := [Cond.fieldLink RX5 103 "LightWheelModel" "at" "I", Cond.fieldLink RX5 100 "LightWheelModel" "textLength" "I", Cond.fieldLink RX5 7 "LightWheelModel" "m" "[I", Cond.fieldLink RX5 110 "LightWheelModel" "columns" "I", Cond.fieldLink RX5 31 "LightWheelModel" "read" "[I", Cond.methodLink RX5 86 yX5_isPicture, Cond.instanceMethod yX5_isPicture, Cond.selects RX5 yX5_isPicture yX5_isPicture, Cond.initialized RX5, Cond.code yX5_isPicture cX5_isPicture 2 (some .boolean), Cond.methodLink RX5 56 yX5_in, Cond.static yX5_in, Cond.code yX5_in cX5_in 3 (some .boolean), Cond.methodLink RX5 133 yX5_readText, Cond.instanceMethod yX5_readText, Cond.selects RX5 yX5_readText yX5_readText, Cond.code yX5_readText cX5_readText 2 (some .boolean), Cond.fieldLink RX5 113 "LightWheelModel" "told" "I", Cond.methodLink RX5 116 yX5_skip, Cond.instanceMethod yX5_skip, Cond.selects RX5 yX5_skip yX5_skip, Cond.code yX5_skip cX5_skip 1 none, Cond.methodLink RX5 106 yX5_here, Cond.instanceMethod yX5_here]
def wsX5_load_r2 : List Cond := [Cond.selects RX5 yX5_here yX5_here, Cond.code yX5_here cX5_here 1 (some .int), Cond.fieldLink RX5 28 "LightWheelModel" "text" "[I", Cond.methodLink RX5 130 yX5_readPart, Cond.instanceMethod yX5_readPart, Cond.selects RX5 yX5_readPart yX5_readPart, Cond.code yX5_readPart cX5_readPart 2 (some .boolean), Cond.methodLink RX5 123 yX5_readNumber, Cond.instanceMethod yX5_readNumber, Cond.selects RX5 yX5_readNumber yX5_readNumber, Cond.code yX5_readNumber cX5_readNumber 3 (some .int), Cond.methodLink RX5 119 yX5_isColor, Cond.instanceMethod yX5_isColor, Cond.selects RX5 yX5_isColor yX5_isColor, Cond.code yX5_isColor cX5_isColor 1 (some .boolean), Cond.methodLink RX5 126 yX5_takeColor, Cond.instanceMethod yX5_takeColor, Cond.selects RX5 yX5_takeColor yX5_takeColor, Cond.code yX5_takeColor cX5_takeColor 3 none, Cond.methodLink RX5 83 yX5_record, Cond.instanceMethod yX5_record, Cond.selects RX5 yX5_record yX5_record, Cond.code yX5_record cX5_record 3 none, Cond.fieldLink RX5 40 "LightWheelModel" "stateCount" "I"]
def wsX5_load_r3 : List Cond := [Cond.fieldLink RX5 44 "LightWheelModel" "oldest" "I", Cond.fieldLink RX5 13 "LightWheelModel" "written" "[I", Cond.methodLink RX5 47 yX5_lay, Cond.instanceMethod yX5_lay, Cond.selects RX5 yX5_lay yX5_lay, Cond.code yX5_lay cX5_lay 4 none, Cond.fieldLink RX5 22 "LightWheelModel" "states" "[I", Cond.fieldLink RX5 25 "LightWheelModel" "fifth" "[I"]
def wsX5_load : List Cond := .code yX5_load cX5_load 3 (some .int) :: ((wsX5_load_r1 ++ (wsX5_load_r2 ++ wsX5_load_r3)) ++ wsX50)
def wsX5_setSecondArm : List Cond := .code yX5_setSecondArm cX5_setSecondArm 2 (some .int) :: ([.methodLink RX5 56 yX5_in, .static yX5_in, .initialized RX5, .code yX5_in cX5_in 3 (some .boolean), .methodLink RX5 97 yX5_put, .instanceMethod yX5_put, .selects RX5 yX5_put yX5_put, .code yX5_put cX5_put 4 (some .int), .fieldLink RX5 7 "LightWheelModel" "m" "[I", .methodLink RX5 83 yX5_record, .instanceMethod yX5_record, .selects RX5 yX5_record yX5_record, .code yX5_record cX5_record 3 none, .fieldLink RX5 40 "LightWheelModel" "stateCount" "I", .fieldLink RX5 44 "LightWheelModel" "oldest" "I", .fieldLink RX5 13 "LightWheelModel" "written" "[I", .methodLink RX5 47 yX5_lay, .instanceMethod yX5_lay, .selects RX5 yX5_lay yX5_lay, .code yX5_lay cX5_lay 4 none, .fieldLink RX5 22 "LightWheelModel" "states" "[I", .fieldLink RX5 25 "LightWheelModel" "fifth" "[I"] ++ wsX50)
def wsX5_isBroken : List Cond := .code yX5_isBroken cX5_isBroken 3 (some .boolean) :: ([.fieldLink RX5 7 "LightWheelModel" "m" "[I"] ++ wsX50)
def wsX5_setBroken_r1 : List Cond := [Cond.fieldLink RX5 7 "LightWheelModel" "m" "[I", Cond.methodLink RX5 56 yX5_in, Cond.static yX5_in, Cond.initialized RX5, Cond.code yX5_in cX5_in 3 (some .boolean), Cond.methodLink RX5 90 yX5_isLight, Cond.static yX5_isLight, Cond.code yX5_isLight cX5_isLight 1 (some .boolean), Cond.methodLink RX5 83 yX5_record, Cond.instanceMethod yX5_record, Cond.selects RX5 yX5_record yX5_record, Cond.code yX5_record cX5_record 3 none, Cond.fieldLink RX5 40 "LightWheelModel" "stateCount" "I", Cond.fieldLink RX5 44 "LightWheelModel" "oldest" "I", Cond.fieldLink RX5 13 "LightWheelModel" "written" "[I", Cond.methodLink RX5 47 yX5_lay, Cond.instanceMethod yX5_lay, Cond.selects RX5 yX5_lay yX5_lay, Cond.code yX5_lay cX5_lay 4 none, Cond.fieldLink RX5 22 "LightWheelModel" "states" "[I", Cond.fieldLink RX5 25 "LightWheelModel" "fifth" "[I", Cond.methodLink RX5 136 yX5_isBroken, Cond.instanceMethod yX5_isBroken, Cond.selects RX5 yX5_isBroken yX5_isBroken]
def wsX5_setBroken_r2 : List Cond := [Cond.code yX5_isBroken cX5_isBroken 3 (some .boolean)]
def wsX5_setBroken : List Cond := .code yX5_setBroken cX5_setBroken 5 (some .int) :: ((wsX5_setBroken_r1 ++ wsX5_setBroken_r2) ++ wsX50)
def wsX5_isSetting : List Cond := .code yX5_isSetting cX5_isSetting 2 (some .boolean) :: ([.methodLink RX5 56 yX5_in, .static yX5_in, .initialized RX5, .code yX5_in cX5_in 3 (some .boolean)])
def wsX5_set_r1 : List Cond := [Cond.methodLink RX5 140 yX5_isSetting, Cond.static yX5_isSetting, Cond.initialized RX5, Cond.code yX5_isSetting cX5_isSetting 2 (some .boolean), Cond.methodLink RX5 56 yX5_in, Cond.static yX5_in, Cond.code yX5_in cX5_in 3 (some .boolean), Cond.methodLink RX5 97 yX5_put, Cond.instanceMethod yX5_put, Cond.selects RX5 yX5_put yX5_put, Cond.code yX5_put cX5_put 4 (some .int), Cond.fieldLink RX5 7 "LightWheelModel" "m" "[I", Cond.methodLink RX5 83 yX5_record, Cond.instanceMethod yX5_record, Cond.selects RX5 yX5_record yX5_record, Cond.code yX5_record cX5_record 3 none, Cond.fieldLink RX5 40 "LightWheelModel" "stateCount" "I", Cond.fieldLink RX5 44 "LightWheelModel" "oldest" "I", Cond.fieldLink RX5 13 "LightWheelModel" "written" "[I", Cond.methodLink RX5 47 yX5_lay, Cond.instanceMethod yX5_lay, Cond.selects RX5 yX5_lay yX5_lay, Cond.code yX5_lay cX5_lay 4 none, Cond.fieldLink RX5 22 "LightWheelModel" "states" "[I"]
def wsX5_set_r2 : List Cond := [Cond.fieldLink RX5 25 "LightWheelModel" "fifth" "[I"]
def wsX5_set : List Cond := .code yX5_set cX5_set 3 (some .int) :: ((wsX5_set_r1 ++ wsX5_set_r2) ++ wsX50)
def wsX5_layWants_r1 : List Cond := [Cond.fieldLink RX5 34 "LightWheelModel" "wants" "[I", Cond.methodLink RX5 143 yX5_wanted, Cond.instanceMethod yX5_wanted, Cond.selects RX5 yX5_wanted yX5_wanted, Cond.initialized RX5, Cond.code yX5_wanted cX5_wanted 6 (some .int), Cond.fieldLink RX5 7 "LightWheelModel" "m" "[I", Cond.methodLink RX5 64 yX5_of, Cond.instanceMethod yX5_of, Cond.selects RX5 yX5_of yX5_of, Cond.code yX5_of cX5_of 3 (some .int), Cond.methodLink RX5 77 yX5_columnOf, Cond.instanceMethod yX5_columnOf, Cond.selects RX5 yX5_columnOf yX5_columnOf, Cond.code yX5_columnOf cX5_columnOf 5 (some .int), Cond.methodLink RX5 70 yX5_around, Cond.static yX5_around, Cond.code yX5_around cX5_around 1 (some .int), Cond.methodLink RX5 74 yX5_covered, Cond.instanceMethod yX5_covered, Cond.selects RX5 yX5_covered yX5_covered, Cond.code yX5_covered cX5_covered 2 (some .int), Cond.methodLink RX5 67 yX5_lesser, Cond.static yX5_lesser]
def wsX5_layWants_r2 : List Cond := [Cond.code yX5_lesser cX5_lesser 2 (some .int), Cond.methodLink RX5 80 yX5_colorOf, Cond.instanceMethod yX5_colorOf, Cond.selects RX5 yX5_colorOf yX5_colorOf, Cond.code yX5_colorOf cX5_colorOf 4 (some .int), Cond.methodLink RX5 60 yX5_cellOf, Cond.static yX5_cellOf, Cond.code yX5_cellOf cX5_cellOf 3 (some .int)]
def wsX5_layWants : List Cond := .code yX5_layWants cX5_layWants 2 none :: ((wsX5_layWants_r1 ++ wsX5_layWants_r2) ++ wsX50)
def wsX5_newSpeed : List Cond := .code yX5_newSpeed cX5_newSpeed 3 none :: ([.fieldLink RX5 7 "LightWheelModel" "m" "[I"] ++ wsX50)
def wsX5_writes : List Cond := .code yX5_writes cX5_writes 6 (some .int) :: ([.fieldLink RX5 34 "LightWheelModel" "wants" "[I", .fieldLink RX5 13 "LightWheelModel" "written" "[I", .fieldLink RX5 7 "LightWheelModel" "m" "[I", .methodLink RX5 136 yX5_isBroken, .instanceMethod yX5_isBroken, .selects RX5 yX5_isBroken yX5_isBroken, .initialized RX5, .code yX5_isBroken cX5_isBroken 3 (some .boolean)] ++ wsX50)
def wsX5_tick : List Cond := .code yX5_tick cX5_tick 3 none :: ([.fieldLink RX5 7 "LightWheelModel" "m" "[I", .methodLink RX5 146 yX5_newSpeed, .instanceMethod yX5_newSpeed, .selects RX5 yX5_newSpeed yX5_newSpeed, .initialized RX5, .code yX5_newSpeed cX5_newSpeed 3 none, .methodLink RX5 149 yX5_size, .static yX5_size, .code yX5_size cX5_size 1 (some .int), .methodLink RX5 70 yX5_around, .static yX5_around, .code yX5_around cX5_around 1 (some .int), .methodLink RX5 152 yX5_writes, .instanceMethod yX5_writes, .selects RX5 yX5_writes yX5_writes, .code yX5_writes cX5_writes 6 (some .int), .fieldLink RX5 34 "LightWheelModel" "wants" "[I", .fieldLink RX5 13 "LightWheelModel" "written" "[I", .methodLink RX5 136 yX5_isBroken, .instanceMethod yX5_isBroken, .selects RX5 yX5_isBroken yX5_isBroken, .code yX5_isBroken cX5_isBroken 3 (some .boolean)] ++ wsX50)
def wsX5_goOn_r1 : List Cond := [Cond.methodLink RX5 155 yX5_tick, Cond.instanceMethod yX5_tick, Cond.selects RX5 yX5_tick yX5_tick, Cond.initialized RX5, Cond.code yX5_tick cX5_tick 3 none, Cond.fieldLink RX5 7 "LightWheelModel" "m" "[I", Cond.methodLink RX5 146 yX5_newSpeed, Cond.instanceMethod yX5_newSpeed, Cond.selects RX5 yX5_newSpeed yX5_newSpeed, Cond.code yX5_newSpeed cX5_newSpeed 3 none, Cond.methodLink RX5 149 yX5_size, Cond.static yX5_size, Cond.code yX5_size cX5_size 1 (some .int), Cond.methodLink RX5 70 yX5_around, Cond.static yX5_around, Cond.code yX5_around cX5_around 1 (some .int), Cond.methodLink RX5 152 yX5_writes, Cond.instanceMethod yX5_writes, Cond.selects RX5 yX5_writes yX5_writes, Cond.code yX5_writes cX5_writes 6 (some .int), Cond.fieldLink RX5 34 "LightWheelModel" "wants" "[I", Cond.fieldLink RX5 13 "LightWheelModel" "written" "[I", Cond.methodLink RX5 136 yX5_isBroken, Cond.instanceMethod yX5_isBroken]
def wsX5_goOn_r2 : List Cond := [Cond.selects RX5 yX5_isBroken yX5_isBroken, Cond.code yX5_isBroken cX5_isBroken 3 (some .boolean)]
def wsX5_goOn : List Cond := .code yX5_goOn cX5_goOn 3 none :: ((wsX5_goOn_r1 ++ wsX5_goOn_r2) ++ wsX50)
def wsX5_run_r1 : List Cond := [Cond.fieldLink RX5 7 "LightWheelModel" "m" "[I", Cond.methodLink RX5 56 yX5_in, Cond.static yX5_in, Cond.initialized RX5, Cond.code yX5_in cX5_in 3 (some .boolean), Cond.methodLink RX5 83 yX5_record, Cond.instanceMethod yX5_record, Cond.selects RX5 yX5_record yX5_record, Cond.code yX5_record cX5_record 3 none, Cond.fieldLink RX5 40 "LightWheelModel" "stateCount" "I", Cond.fieldLink RX5 44 "LightWheelModel" "oldest" "I", Cond.fieldLink RX5 13 "LightWheelModel" "written" "[I", Cond.methodLink RX5 47 yX5_lay, Cond.instanceMethod yX5_lay, Cond.selects RX5 yX5_lay yX5_lay, Cond.code yX5_lay cX5_lay 4 none, Cond.fieldLink RX5 22 "LightWheelModel" "states" "[I", Cond.fieldLink RX5 25 "LightWheelModel" "fifth" "[I", Cond.methodLink RX5 158 yX5_layWants, Cond.instanceMethod yX5_layWants, Cond.selects RX5 yX5_layWants yX5_layWants, Cond.code yX5_layWants cX5_layWants 2 none, Cond.fieldLink RX5 34 "LightWheelModel" "wants" "[I", Cond.methodLink RX5 143 yX5_wanted]
def wsX5_run_r2 : List Cond := [Cond.instanceMethod yX5_wanted, Cond.selects RX5 yX5_wanted yX5_wanted, Cond.code yX5_wanted cX5_wanted 6 (some .int), Cond.methodLink RX5 64 yX5_of, Cond.instanceMethod yX5_of, Cond.selects RX5 yX5_of yX5_of, Cond.code yX5_of cX5_of 3 (some .int), Cond.methodLink RX5 77 yX5_columnOf, Cond.instanceMethod yX5_columnOf, Cond.selects RX5 yX5_columnOf yX5_columnOf, Cond.code yX5_columnOf cX5_columnOf 5 (some .int), Cond.methodLink RX5 70 yX5_around, Cond.static yX5_around, Cond.code yX5_around cX5_around 1 (some .int), Cond.methodLink RX5 74 yX5_covered, Cond.instanceMethod yX5_covered, Cond.selects RX5 yX5_covered yX5_covered, Cond.code yX5_covered cX5_covered 2 (some .int), Cond.methodLink RX5 67 yX5_lesser, Cond.static yX5_lesser, Cond.code yX5_lesser cX5_lesser 2 (some .int), Cond.methodLink RX5 80 yX5_colorOf, Cond.instanceMethod yX5_colorOf, Cond.selects RX5 yX5_colorOf yX5_colorOf]
def wsX5_run_r3 : List Cond := [Cond.code yX5_colorOf cX5_colorOf 4 (some .int), Cond.methodLink RX5 60 yX5_cellOf, Cond.static yX5_cellOf, Cond.code yX5_cellOf cX5_cellOf 3 (some .int), Cond.methodLink RX5 161 yX5_goOn, Cond.instanceMethod yX5_goOn, Cond.selects RX5 yX5_goOn yX5_goOn, Cond.code yX5_goOn cX5_goOn 3 none, Cond.methodLink RX5 155 yX5_tick, Cond.instanceMethod yX5_tick, Cond.selects RX5 yX5_tick yX5_tick, Cond.code yX5_tick cX5_tick 3 none, Cond.methodLink RX5 146 yX5_newSpeed, Cond.instanceMethod yX5_newSpeed, Cond.selects RX5 yX5_newSpeed yX5_newSpeed, Cond.code yX5_newSpeed cX5_newSpeed 3 none, Cond.methodLink RX5 149 yX5_size, Cond.static yX5_size, Cond.code yX5_size cX5_size 1 (some .int), Cond.methodLink RX5 152 yX5_writes, Cond.instanceMethod yX5_writes, Cond.selects RX5 yX5_writes yX5_writes, Cond.code yX5_writes cX5_writes 6 (some .int), Cond.methodLink RX5 136 yX5_isBroken]
def wsX5_run_r4 : List Cond := [Cond.instanceMethod yX5_isBroken, Cond.selects RX5 yX5_isBroken yX5_isBroken, Cond.code yX5_isBroken cX5_isBroken 3 (some .boolean)]
def wsX5_run : List Cond := .code yX5_run cX5_run 2 (some .int) :: ((wsX5_run_r1 ++ (wsX5_run_r2 ++ (wsX5_run_r3 ++ wsX5_run_r4))) ++ wsX50)
def wsX5_ago : List Cond := .code yX5_ago cX5_ago 2 (some .int) :: ([.fieldLink RX5 13 "LightWheelModel" "written" "[I", .fieldLink RX5 7 "LightWheelModel" "m" "[I"] ++ wsX50)
def wsX5_lit : List Cond := .code yX5_lit cX5_lit 2 (some .int) :: ([.fieldLink RX5 13 "LightWheelModel" "written" "[I", .fieldLink RX5 7 "LightWheelModel" "m" "[I", .methodLink RX5 164 yX5_ago, .instanceMethod yX5_ago, .selects RX5 yX5_ago yX5_ago, .initialized RX5, .code yX5_ago cX5_ago 2 (some .int)] ++ wsX50)
def wsX5_litPlaces : List Cond := .code yX5_litPlaces cX5_litPlaces 4 (some .int) :: ([.fieldLink RX5 34 "LightWheelModel" "wants" "[I", .methodLink RX5 167 yX5_lit, .instanceMethod yX5_lit, .selects RX5 yX5_lit yX5_lit, .initialized RX5, .code yX5_lit cX5_lit 2 (some .int), .fieldLink RX5 13 "LightWheelModel" "written" "[I", .fieldLink RX5 7 "LightWheelModel" "m" "[I", .methodLink RX5 164 yX5_ago, .instanceMethod yX5_ago, .selects RX5 yX5_ago yX5_ago, .code yX5_ago cX5_ago 2 (some .int)] ++ wsX50)
def wsX5_wrongPlaces_r1 : List Cond := [Cond.methodLink RX5 158 yX5_layWants, Cond.instanceMethod yX5_layWants, Cond.selects RX5 yX5_layWants yX5_layWants, Cond.initialized RX5, Cond.code yX5_layWants cX5_layWants 2 none, Cond.fieldLink RX5 34 "LightWheelModel" "wants" "[I", Cond.methodLink RX5 143 yX5_wanted, Cond.instanceMethod yX5_wanted, Cond.selects RX5 yX5_wanted yX5_wanted, Cond.code yX5_wanted cX5_wanted 6 (some .int), Cond.fieldLink RX5 7 "LightWheelModel" "m" "[I", Cond.methodLink RX5 64 yX5_of, Cond.instanceMethod yX5_of, Cond.selects RX5 yX5_of yX5_of, Cond.code yX5_of cX5_of 3 (some .int), Cond.methodLink RX5 77 yX5_columnOf, Cond.instanceMethod yX5_columnOf, Cond.selects RX5 yX5_columnOf yX5_columnOf, Cond.code yX5_columnOf cX5_columnOf 5 (some .int), Cond.methodLink RX5 70 yX5_around, Cond.static yX5_around, Cond.code yX5_around cX5_around 1 (some .int), Cond.methodLink RX5 74 yX5_covered, Cond.instanceMethod yX5_covered]
def wsX5_wrongPlaces_r2 : List Cond := [Cond.selects RX5 yX5_covered yX5_covered, Cond.code yX5_covered cX5_covered 2 (some .int), Cond.methodLink RX5 67 yX5_lesser, Cond.static yX5_lesser, Cond.code yX5_lesser cX5_lesser 2 (some .int), Cond.methodLink RX5 80 yX5_colorOf, Cond.instanceMethod yX5_colorOf, Cond.selects RX5 yX5_colorOf yX5_colorOf, Cond.code yX5_colorOf cX5_colorOf 4 (some .int), Cond.methodLink RX5 60 yX5_cellOf, Cond.static yX5_cellOf, Cond.code yX5_cellOf cX5_cellOf 3 (some .int), Cond.methodLink RX5 170 yX5_litPlaces, Cond.instanceMethod yX5_litPlaces, Cond.selects RX5 yX5_litPlaces yX5_litPlaces, Cond.code yX5_litPlaces cX5_litPlaces 4 (some .int), Cond.methodLink RX5 167 yX5_lit, Cond.instanceMethod yX5_lit, Cond.selects RX5 yX5_lit yX5_lit, Cond.code yX5_lit cX5_lit 2 (some .int), Cond.fieldLink RX5 13 "LightWheelModel" "written" "[I", Cond.methodLink RX5 164 yX5_ago, Cond.instanceMethod yX5_ago, Cond.selects RX5 yX5_ago yX5_ago]
def wsX5_wrongPlaces_r3 : List Cond := [Cond.code yX5_ago cX5_ago 2 (some .int)]
def wsX5_wrongPlaces : List Cond := .code yX5_wrongPlaces cX5_wrongPlaces 1 (some .int) :: ((wsX5_wrongPlaces_r1 ++ (wsX5_wrongPlaces_r2 ++ wsX5_wrongPlaces_r3)) ++ wsX50)
def wsX5_count_r1 : List Cond := [Cond.fieldLink RX5 7 "LightWheelModel" "m" "[I", Cond.fieldLink RX5 40 "LightWheelModel" "stateCount" "I", Cond.fieldLink RX5 100 "LightWheelModel" "textLength" "I", Cond.methodLink RX5 170 yX5_litPlaces, Cond.instanceMethod yX5_litPlaces, Cond.selects RX5 yX5_litPlaces yX5_litPlaces, Cond.initialized RX5, Cond.code yX5_litPlaces cX5_litPlaces 4 (some .int), Cond.fieldLink RX5 34 "LightWheelModel" "wants" "[I", Cond.methodLink RX5 167 yX5_lit, Cond.instanceMethod yX5_lit, Cond.selects RX5 yX5_lit yX5_lit, Cond.code yX5_lit cX5_lit 2 (some .int), Cond.fieldLink RX5 13 "LightWheelModel" "written" "[I", Cond.methodLink RX5 164 yX5_ago, Cond.instanceMethod yX5_ago, Cond.selects RX5 yX5_ago yX5_ago, Cond.code yX5_ago cX5_ago 2 (some .int), Cond.methodLink RX5 174 yX5_wrongPlaces, Cond.instanceMethod yX5_wrongPlaces, Cond.selects RX5 yX5_wrongPlaces yX5_wrongPlaces, Cond.code yX5_wrongPlaces cX5_wrongPlaces 1 (some .int), Cond.methodLink RX5 158 yX5_layWants, Cond.instanceMethod yX5_layWants]
def wsX5_count_r2 : List Cond := [Cond.selects RX5 yX5_layWants yX5_layWants, Cond.code yX5_layWants cX5_layWants 2 none, Cond.methodLink RX5 143 yX5_wanted, Cond.instanceMethod yX5_wanted, Cond.selects RX5 yX5_wanted yX5_wanted, Cond.code yX5_wanted cX5_wanted 6 (some .int), Cond.methodLink RX5 64 yX5_of, Cond.instanceMethod yX5_of, Cond.selects RX5 yX5_of yX5_of, Cond.code yX5_of cX5_of 3 (some .int), Cond.methodLink RX5 77 yX5_columnOf, Cond.instanceMethod yX5_columnOf, Cond.selects RX5 yX5_columnOf yX5_columnOf, Cond.code yX5_columnOf cX5_columnOf 5 (some .int), Cond.methodLink RX5 70 yX5_around, Cond.static yX5_around, Cond.code yX5_around cX5_around 1 (some .int), Cond.methodLink RX5 74 yX5_covered, Cond.instanceMethod yX5_covered, Cond.selects RX5 yX5_covered yX5_covered, Cond.code yX5_covered cX5_covered 2 (some .int), Cond.methodLink RX5 67 yX5_lesser, Cond.static yX5_lesser, Cond.code yX5_lesser cX5_lesser 2 (some .int)]
def wsX5_count_r3 : List Cond := [Cond.methodLink RX5 80 yX5_colorOf, Cond.instanceMethod yX5_colorOf, Cond.selects RX5 yX5_colorOf yX5_colorOf, Cond.code yX5_colorOf cX5_colorOf 4 (some .int), Cond.methodLink RX5 60 yX5_cellOf, Cond.static yX5_cellOf, Cond.code yX5_cellOf cX5_cellOf 3 (some .int)]
def wsX5_count : List Cond := .code yX5_count cX5_count 2 (some .int) :: ((wsX5_count_r1 ++ (wsX5_count_r2 ++ wsX5_count_r3)) ++ wsX50)
def wsX5_setting : List Cond := .code yX5_setting cX5_setting 2 (some .int) :: ([.fieldLink RX5 7 "LightWheelModel" "m" "[I", .methodLink RX5 56 yX5_in, .static yX5_in, .initialized RX5, .code yX5_in cX5_in 3 (some .boolean)] ++ wsX50)
def wsX5_bright : List Cond := .code yX5_bright cX5_bright 4 (some .int) :: ([.methodLink RX5 64 yX5_of, .instanceMethod yX5_of, .selects RX5 yX5_of yX5_of, .initialized RX5, .code yX5_of cX5_of 3 (some .int), .fieldLink RX5 7 "LightWheelModel" "m" "[I", .methodLink RX5 80 yX5_colorOf, .instanceMethod yX5_colorOf, .selects RX5 yX5_colorOf yX5_colorOf, .code yX5_colorOf cX5_colorOf 4 (some .int), .methodLink RX5 60 yX5_cellOf, .static yX5_cellOf, .code yX5_cellOf cX5_cellOf 3 (some .int)] ++ wsX50)
def wsX5_picture_r1 : List Cond := [Cond.methodLink RX5 86 yX5_isPicture, Cond.instanceMethod yX5_isPicture, Cond.selects RX5 yX5_isPicture yX5_isPicture, Cond.initialized RX5, Cond.code yX5_isPicture cX5_isPicture 2 (some .boolean), Cond.fieldLink RX5 7 "LightWheelModel" "m" "[I", Cond.methodLink RX5 56 yX5_in, Cond.static yX5_in, Cond.code yX5_in cX5_in 3 (some .boolean), Cond.methodLink RX5 64 yX5_of, Cond.instanceMethod yX5_of, Cond.selects RX5 yX5_of yX5_of, Cond.code yX5_of cX5_of 3 (some .int), Cond.methodLink RX5 177 yX5_bright, Cond.instanceMethod yX5_bright, Cond.selects RX5 yX5_bright yX5_bright, Cond.code yX5_bright cX5_bright 4 (some .int), Cond.methodLink RX5 80 yX5_colorOf, Cond.instanceMethod yX5_colorOf, Cond.selects RX5 yX5_colorOf yX5_colorOf, Cond.code yX5_colorOf cX5_colorOf 4 (some .int), Cond.methodLink RX5 60 yX5_cellOf, Cond.static yX5_cellOf, Cond.code yX5_cellOf cX5_cellOf 3 (some .int)]
def wsX5_picture_r2 : List Cond := [Cond.methodLink RX5 74 yX5_covered, Cond.instanceMethod yX5_covered, Cond.selects RX5 yX5_covered yX5_covered, Cond.code yX5_covered cX5_covered 2 (some .int), Cond.methodLink RX5 67 yX5_lesser, Cond.static yX5_lesser, Cond.code yX5_lesser cX5_lesser 2 (some .int)]
def wsX5_picture : List Cond := .code yX5_picture cX5_picture 3 (some .int) :: ((wsX5_picture_r1 ++ wsX5_picture_r2) ++ wsX50)
def wsX5_color : List Cond := .code yX5_color cX5_color 4 (some .int) :: ([.methodLink RX5 86 yX5_isPicture, .instanceMethod yX5_isPicture, .selects RX5 yX5_isPicture yX5_isPicture, .initialized RX5, .code yX5_isPicture cX5_isPicture 2 (some .boolean), .fieldLink RX5 7 "LightWheelModel" "m" "[I", .methodLink RX5 56 yX5_in, .static yX5_in, .code yX5_in cX5_in 3 (some .boolean), .methodLink RX5 90 yX5_isLight, .static yX5_isLight, .code yX5_isLight cX5_isLight 1 (some .boolean), .methodLink RX5 64 yX5_of, .instanceMethod yX5_of, .selects RX5 yX5_of yX5_of, .code yX5_of cX5_of 3 (some .int), .methodLink RX5 80 yX5_colorOf, .instanceMethod yX5_colorOf, .selects RX5 yX5_colorOf yX5_colorOf, .code yX5_colorOf cX5_colorOf 4 (some .int), .methodLink RX5 60 yX5_cellOf, .static yX5_cellOf, .code yX5_cellOf cX5_cellOf 3 (some .int)] ++ wsX50)
def wsX5_broken : List Cond := .code yX5_broken cX5_broken 3 (some .int) :: ([.methodLink RX5 56 yX5_in, .static yX5_in, .initialized RX5, .code yX5_in cX5_in 3 (some .boolean), .methodLink RX5 90 yX5_isLight, .static yX5_isLight, .code yX5_isLight cX5_isLight 1 (some .boolean), .methodLink RX5 136 yX5_isBroken, .instanceMethod yX5_isBroken, .selects RX5 yX5_isBroken yX5_isBroken, .code yX5_isBroken cX5_isBroken 3 (some .boolean), .fieldLink RX5 7 "LightWheelModel" "m" "[I"] ++ wsX50)
def wsX5_place_r1 : List Cond := [Cond.methodLink RX5 56 yX5_in, Cond.static yX5_in, Cond.initialized RX5, Cond.code yX5_in cX5_in 3 (some .boolean), Cond.methodLink RX5 90 yX5_isLight, Cond.static yX5_isLight, Cond.code yX5_isLight cX5_isLight 1 (some .boolean), Cond.methodLink RX5 143 yX5_wanted, Cond.instanceMethod yX5_wanted, Cond.selects RX5 yX5_wanted yX5_wanted, Cond.code yX5_wanted cX5_wanted 6 (some .int), Cond.fieldLink RX5 7 "LightWheelModel" "m" "[I", Cond.methodLink RX5 64 yX5_of, Cond.instanceMethod yX5_of, Cond.selects RX5 yX5_of yX5_of, Cond.code yX5_of cX5_of 3 (some .int), Cond.methodLink RX5 77 yX5_columnOf, Cond.instanceMethod yX5_columnOf, Cond.selects RX5 yX5_columnOf yX5_columnOf, Cond.code yX5_columnOf cX5_columnOf 5 (some .int), Cond.methodLink RX5 70 yX5_around, Cond.static yX5_around, Cond.code yX5_around cX5_around 1 (some .int), Cond.methodLink RX5 74 yX5_covered]
def wsX5_place_r2 : List Cond := [Cond.instanceMethod yX5_covered, Cond.selects RX5 yX5_covered yX5_covered, Cond.code yX5_covered cX5_covered 2 (some .int), Cond.methodLink RX5 67 yX5_lesser, Cond.static yX5_lesser, Cond.code yX5_lesser cX5_lesser 2 (some .int), Cond.methodLink RX5 80 yX5_colorOf, Cond.instanceMethod yX5_colorOf, Cond.selects RX5 yX5_colorOf yX5_colorOf, Cond.code yX5_colorOf cX5_colorOf 4 (some .int), Cond.methodLink RX5 60 yX5_cellOf, Cond.static yX5_cellOf, Cond.code yX5_cellOf cX5_cellOf 3 (some .int), Cond.methodLink RX5 167 yX5_lit, Cond.instanceMethod yX5_lit, Cond.selects RX5 yX5_lit yX5_lit, Cond.code yX5_lit cX5_lit 2 (some .int), Cond.fieldLink RX5 13 "LightWheelModel" "written" "[I", Cond.methodLink RX5 164 yX5_ago, Cond.instanceMethod yX5_ago, Cond.selects RX5 yX5_ago yX5_ago, Cond.code yX5_ago cX5_ago 2 (some .int)]
def wsX5_place : List Cond := .code yX5_place cX5_place 5 (some .int) :: ((wsX5_place_r1 ++ wsX5_place_r2) ++ wsX50)
def wsX5_columnAt_r1 : List Cond := [Cond.methodLink RX5 86 yX5_isPicture, Cond.instanceMethod yX5_isPicture, Cond.selects RX5 yX5_isPicture yX5_isPicture, Cond.initialized RX5, Cond.code yX5_isPicture cX5_isPicture 2 (some .boolean), Cond.fieldLink RX5 7 "LightWheelModel" "m" "[I", Cond.methodLink RX5 56 yX5_in, Cond.static yX5_in, Cond.code yX5_in cX5_in 3 (some .boolean), Cond.methodLink RX5 77 yX5_columnOf, Cond.instanceMethod yX5_columnOf, Cond.selects RX5 yX5_columnOf yX5_columnOf, Cond.code yX5_columnOf cX5_columnOf 5 (some .int), Cond.methodLink RX5 64 yX5_of, Cond.instanceMethod yX5_of, Cond.selects RX5 yX5_of yX5_of, Cond.code yX5_of cX5_of 3 (some .int), Cond.methodLink RX5 70 yX5_around, Cond.static yX5_around, Cond.code yX5_around cX5_around 1 (some .int), Cond.methodLink RX5 74 yX5_covered, Cond.instanceMethod yX5_covered, Cond.selects RX5 yX5_covered yX5_covered, Cond.code yX5_covered cX5_covered 2 (some .int)]
def wsX5_columnAt_r2 : List Cond := [Cond.methodLink RX5 67 yX5_lesser, Cond.static yX5_lesser, Cond.code yX5_lesser cX5_lesser 2 (some .int)]
def wsX5_columnAt : List Cond := .code yX5_columnAt cX5_columnAt 3 (some .int) :: ((wsX5_columnAt_r1 ++ wsX5_columnAt_r2) ++ wsX50)
def wsX5_ticksAround_r1 : List Cond := [Cond.fieldLink RX5 7 "LightWheelModel" "m" "[I", Cond.methodLink RX5 180 yX5_setAside, Cond.instanceMethod yX5_setAside, Cond.selects RX5 yX5_setAside yX5_setAside, Cond.initialized RX5, Cond.code yX5_setAside cX5_setAside 2 none, Cond.fieldLink RX5 16 "LightWheelModel" "spare" "[I", Cond.fieldLink RX5 19 "LightWheelModel" "spareWritten" "[I", Cond.fieldLink RX5 13 "LightWheelModel" "written" "[I", Cond.methodLink RX5 158 yX5_layWants, Cond.instanceMethod yX5_layWants, Cond.selects RX5 yX5_layWants yX5_layWants, Cond.code yX5_layWants cX5_layWants 2 none, Cond.fieldLink RX5 34 "LightWheelModel" "wants" "[I", Cond.methodLink RX5 143 yX5_wanted, Cond.instanceMethod yX5_wanted, Cond.selects RX5 yX5_wanted yX5_wanted, Cond.code yX5_wanted cX5_wanted 6 (some .int), Cond.methodLink RX5 64 yX5_of, Cond.instanceMethod yX5_of, Cond.selects RX5 yX5_of yX5_of, Cond.code yX5_of cX5_of 3 (some .int), Cond.methodLink RX5 77 yX5_columnOf, Cond.instanceMethod yX5_columnOf]
def wsX5_ticksAround_r2 : List Cond := [Cond.selects RX5 yX5_columnOf yX5_columnOf, Cond.code yX5_columnOf cX5_columnOf 5 (some .int), Cond.methodLink RX5 70 yX5_around, Cond.static yX5_around, Cond.code yX5_around cX5_around 1 (some .int), Cond.methodLink RX5 74 yX5_covered, Cond.instanceMethod yX5_covered, Cond.selects RX5 yX5_covered yX5_covered, Cond.code yX5_covered cX5_covered 2 (some .int), Cond.methodLink RX5 67 yX5_lesser, Cond.static yX5_lesser, Cond.code yX5_lesser cX5_lesser 2 (some .int), Cond.methodLink RX5 80 yX5_colorOf, Cond.instanceMethod yX5_colorOf, Cond.selects RX5 yX5_colorOf yX5_colorOf, Cond.code yX5_colorOf cX5_colorOf 4 (some .int), Cond.methodLink RX5 60 yX5_cellOf, Cond.static yX5_cellOf, Cond.code yX5_cellOf cX5_cellOf 3 (some .int), Cond.methodLink RX5 155 yX5_tick, Cond.instanceMethod yX5_tick, Cond.selects RX5 yX5_tick yX5_tick, Cond.code yX5_tick cX5_tick 3 none, Cond.methodLink RX5 146 yX5_newSpeed]
def wsX5_ticksAround_r3 : List Cond := [Cond.instanceMethod yX5_newSpeed, Cond.selects RX5 yX5_newSpeed yX5_newSpeed, Cond.code yX5_newSpeed cX5_newSpeed 3 none, Cond.methodLink RX5 149 yX5_size, Cond.static yX5_size, Cond.code yX5_size cX5_size 1 (some .int), Cond.methodLink RX5 152 yX5_writes, Cond.instanceMethod yX5_writes, Cond.selects RX5 yX5_writes yX5_writes, Cond.code yX5_writes cX5_writes 6 (some .int), Cond.methodLink RX5 136 yX5_isBroken, Cond.instanceMethod yX5_isBroken, Cond.selects RX5 yX5_isBroken yX5_isBroken, Cond.code yX5_isBroken cX5_isBroken 3 (some .boolean), Cond.methodLink RX5 183 yX5_bringBack, Cond.instanceMethod yX5_bringBack, Cond.selects RX5 yX5_bringBack yX5_bringBack, Cond.code yX5_bringBack cX5_bringBack 2 none]
def wsX5_ticksAround : List Cond := .code yX5_ticksAround cX5_ticksAround 3 (some .int) :: ((wsX5_ticksAround_r1 ++ (wsX5_ticksAround_r2 ++ wsX5_ticksAround_r3)) ++ wsX50)
def wsX5_isCovered : List Cond := .code yX5_isCovered cX5_isCovered 4 (some .boolean) :: ([.fieldLink RX5 7 "LightWheelModel" "m" "[I", .methodLink RX5 64 yX5_of, .instanceMethod yX5_of, .selects RX5 yX5_of yX5_of, .initialized RX5, .code yX5_of cX5_of 3 (some .int), .methodLink RX5 77 yX5_columnOf, .instanceMethod yX5_columnOf, .selects RX5 yX5_columnOf yX5_columnOf, .code yX5_columnOf cX5_columnOf 5 (some .int), .methodLink RX5 70 yX5_around, .static yX5_around, .code yX5_around cX5_around 1 (some .int), .methodLink RX5 74 yX5_covered, .instanceMethod yX5_covered, .selects RX5 yX5_covered yX5_covered, .code yX5_covered cX5_covered 2 (some .int), .methodLink RX5 67 yX5_lesser, .static yX5_lesser, .code yX5_lesser cX5_lesser 2 (some .int)] ++ wsX50)
def wsX5_mark_r1 : List Cond := [Cond.fieldLink RX5 7 "LightWheelModel" "m" "[I", Cond.fieldLink RX5 37 "LightWheelModel" "comes" "[I", Cond.methodLink RX5 155 yX5_tick, Cond.instanceMethod yX5_tick, Cond.selects RX5 yX5_tick yX5_tick, Cond.initialized RX5, Cond.code yX5_tick cX5_tick 3 none, Cond.methodLink RX5 146 yX5_newSpeed, Cond.instanceMethod yX5_newSpeed, Cond.selects RX5 yX5_newSpeed yX5_newSpeed, Cond.code yX5_newSpeed cX5_newSpeed 3 none, Cond.methodLink RX5 149 yX5_size, Cond.static yX5_size, Cond.code yX5_size cX5_size 1 (some .int), Cond.methodLink RX5 70 yX5_around, Cond.static yX5_around, Cond.code yX5_around cX5_around 1 (some .int), Cond.methodLink RX5 152 yX5_writes, Cond.instanceMethod yX5_writes, Cond.selects RX5 yX5_writes yX5_writes, Cond.code yX5_writes cX5_writes 6 (some .int), Cond.fieldLink RX5 34 "LightWheelModel" "wants" "[I", Cond.fieldLink RX5 13 "LightWheelModel" "written" "[I", Cond.methodLink RX5 136 yX5_isBroken]
def wsX5_mark_r2 : List Cond := [Cond.instanceMethod yX5_isBroken, Cond.selects RX5 yX5_isBroken yX5_isBroken, Cond.code yX5_isBroken cX5_isBroken 3 (some .boolean)]
def wsX5_mark : List Cond := .code yX5_mark cX5_mark 3 none :: ((wsX5_mark_r1 ++ wsX5_mark_r2) ++ wsX50)
def wsX5_gaps_r1 : List Cond := [Cond.fieldLink RX5 37 "LightWheelModel" "comes" "[I", Cond.methodLink RX5 56 yX5_in, Cond.static yX5_in, Cond.initialized RX5, Cond.code yX5_in cX5_in 3 (some .boolean), Cond.methodLink RX5 180 yX5_setAside, Cond.instanceMethod yX5_setAside, Cond.selects RX5 yX5_setAside yX5_setAside, Cond.code yX5_setAside cX5_setAside 2 none, Cond.fieldLink RX5 16 "LightWheelModel" "spare" "[I", Cond.fieldLink RX5 7 "LightWheelModel" "m" "[I", Cond.fieldLink RX5 19 "LightWheelModel" "spareWritten" "[I", Cond.fieldLink RX5 13 "LightWheelModel" "written" "[I", Cond.methodLink RX5 158 yX5_layWants, Cond.instanceMethod yX5_layWants, Cond.selects RX5 yX5_layWants yX5_layWants, Cond.code yX5_layWants cX5_layWants 2 none, Cond.fieldLink RX5 34 "LightWheelModel" "wants" "[I", Cond.methodLink RX5 143 yX5_wanted, Cond.instanceMethod yX5_wanted, Cond.selects RX5 yX5_wanted yX5_wanted, Cond.code yX5_wanted cX5_wanted 6 (some .int), Cond.methodLink RX5 64 yX5_of, Cond.instanceMethod yX5_of]
def wsX5_gaps_r2 : List Cond := [Cond.selects RX5 yX5_of yX5_of, Cond.code yX5_of cX5_of 3 (some .int), Cond.methodLink RX5 77 yX5_columnOf, Cond.instanceMethod yX5_columnOf, Cond.selects RX5 yX5_columnOf yX5_columnOf, Cond.code yX5_columnOf cX5_columnOf 5 (some .int), Cond.methodLink RX5 70 yX5_around, Cond.static yX5_around, Cond.code yX5_around cX5_around 1 (some .int), Cond.methodLink RX5 74 yX5_covered, Cond.instanceMethod yX5_covered, Cond.selects RX5 yX5_covered yX5_covered, Cond.code yX5_covered cX5_covered 2 (some .int), Cond.methodLink RX5 67 yX5_lesser, Cond.static yX5_lesser, Cond.code yX5_lesser cX5_lesser 2 (some .int), Cond.methodLink RX5 80 yX5_colorOf, Cond.instanceMethod yX5_colorOf, Cond.selects RX5 yX5_colorOf yX5_colorOf, Cond.code yX5_colorOf cX5_colorOf 4 (some .int), Cond.methodLink RX5 60 yX5_cellOf, Cond.static yX5_cellOf, Cond.code yX5_cellOf cX5_cellOf 3 (some .int), Cond.methodLink RX5 186 yX5_mark]
def wsX5_gaps_r3 : List Cond := [Cond.instanceMethod yX5_mark, Cond.selects RX5 yX5_mark yX5_mark, Cond.code yX5_mark cX5_mark 3 none, Cond.methodLink RX5 155 yX5_tick, Cond.instanceMethod yX5_tick, Cond.selects RX5 yX5_tick yX5_tick, Cond.code yX5_tick cX5_tick 3 none, Cond.methodLink RX5 146 yX5_newSpeed, Cond.instanceMethod yX5_newSpeed, Cond.selects RX5 yX5_newSpeed yX5_newSpeed, Cond.code yX5_newSpeed cX5_newSpeed 3 none, Cond.methodLink RX5 149 yX5_size, Cond.static yX5_size, Cond.code yX5_size cX5_size 1 (some .int), Cond.methodLink RX5 152 yX5_writes, Cond.instanceMethod yX5_writes, Cond.selects RX5 yX5_writes yX5_writes, Cond.code yX5_writes cX5_writes 6 (some .int), Cond.methodLink RX5 136 yX5_isBroken, Cond.instanceMethod yX5_isBroken, Cond.selects RX5 yX5_isBroken yX5_isBroken, Cond.code yX5_isBroken cX5_isBroken 3 (some .boolean), Cond.methodLink RX5 183 yX5_bringBack, Cond.instanceMethod yX5_bringBack]
def wsX5_gaps_r4 : List Cond := [Cond.selects RX5 yX5_bringBack yX5_bringBack, Cond.code yX5_bringBack cX5_bringBack 2 none, Cond.methodLink RX5 189 yX5_isCovered, Cond.instanceMethod yX5_isCovered, Cond.selects RX5 yX5_isCovered yX5_isCovered, Cond.code yX5_isCovered cX5_isCovered 4 (some .boolean)]
def wsX5_gaps : List Cond := .code yX5_gaps cX5_gaps 4 (some .int) :: ((wsX5_gaps_r1 ++ (wsX5_gaps_r2 ++ (wsX5_gaps_r3 ++ wsX5_gaps_r4))) ++ wsX50)
def wsX5_bestSpeed_r1 : List Cond := [Cond.fieldLink RX5 7 "LightWheelModel" "m" "[I", Cond.methodLink RX5 56 yX5_in, Cond.static yX5_in, Cond.initialized RX5, Cond.code yX5_in cX5_in 3 (some .boolean), Cond.methodLink RX5 180 yX5_setAside, Cond.instanceMethod yX5_setAside, Cond.selects RX5 yX5_setAside yX5_setAside, Cond.code yX5_setAside cX5_setAside 2 none, Cond.fieldLink RX5 16 "LightWheelModel" "spare" "[I", Cond.fieldLink RX5 19 "LightWheelModel" "spareWritten" "[I", Cond.fieldLink RX5 13 "LightWheelModel" "written" "[I", Cond.methodLink RX5 158 yX5_layWants, Cond.instanceMethod yX5_layWants, Cond.selects RX5 yX5_layWants yX5_layWants, Cond.code yX5_layWants cX5_layWants 2 none, Cond.fieldLink RX5 34 "LightWheelModel" "wants" "[I", Cond.methodLink RX5 143 yX5_wanted, Cond.instanceMethod yX5_wanted, Cond.selects RX5 yX5_wanted yX5_wanted, Cond.code yX5_wanted cX5_wanted 6 (some .int), Cond.methodLink RX5 64 yX5_of, Cond.instanceMethod yX5_of, Cond.selects RX5 yX5_of yX5_of]
def wsX5_bestSpeed_r2 : List Cond := [Cond.code yX5_of cX5_of 3 (some .int), Cond.methodLink RX5 77 yX5_columnOf, Cond.instanceMethod yX5_columnOf, Cond.selects RX5 yX5_columnOf yX5_columnOf, Cond.code yX5_columnOf cX5_columnOf 5 (some .int), Cond.methodLink RX5 70 yX5_around, Cond.static yX5_around, Cond.code yX5_around cX5_around 1 (some .int), Cond.methodLink RX5 74 yX5_covered, Cond.instanceMethod yX5_covered, Cond.selects RX5 yX5_covered yX5_covered, Cond.code yX5_covered cX5_covered 2 (some .int), Cond.methodLink RX5 67 yX5_lesser, Cond.static yX5_lesser, Cond.code yX5_lesser cX5_lesser 2 (some .int), Cond.methodLink RX5 80 yX5_colorOf, Cond.instanceMethod yX5_colorOf, Cond.selects RX5 yX5_colorOf yX5_colorOf, Cond.code yX5_colorOf cX5_colorOf 4 (some .int), Cond.methodLink RX5 60 yX5_cellOf, Cond.static yX5_cellOf, Cond.code yX5_cellOf cX5_cellOf 3 (some .int), Cond.methodLink RX5 161 yX5_goOn, Cond.instanceMethod yX5_goOn]
def wsX5_bestSpeed_r3 : List Cond := [Cond.selects RX5 yX5_goOn yX5_goOn, Cond.code yX5_goOn cX5_goOn 3 none, Cond.methodLink RX5 155 yX5_tick, Cond.instanceMethod yX5_tick, Cond.selects RX5 yX5_tick yX5_tick, Cond.code yX5_tick cX5_tick 3 none, Cond.methodLink RX5 146 yX5_newSpeed, Cond.instanceMethod yX5_newSpeed, Cond.selects RX5 yX5_newSpeed yX5_newSpeed, Cond.code yX5_newSpeed cX5_newSpeed 3 none, Cond.methodLink RX5 149 yX5_size, Cond.static yX5_size, Cond.code yX5_size cX5_size 1 (some .int), Cond.methodLink RX5 152 yX5_writes, Cond.instanceMethod yX5_writes, Cond.selects RX5 yX5_writes yX5_writes, Cond.code yX5_writes cX5_writes 6 (some .int), Cond.methodLink RX5 136 yX5_isBroken, Cond.instanceMethod yX5_isBroken, Cond.selects RX5 yX5_isBroken yX5_isBroken, Cond.code yX5_isBroken cX5_isBroken 3 (some .boolean), Cond.methodLink RX5 170 yX5_litPlaces, Cond.instanceMethod yX5_litPlaces, Cond.selects RX5 yX5_litPlaces yX5_litPlaces]
def wsX5_bestSpeed_r4 : List Cond := [Cond.code yX5_litPlaces cX5_litPlaces 4 (some .int), Cond.methodLink RX5 167 yX5_lit, Cond.instanceMethod yX5_lit, Cond.selects RX5 yX5_lit yX5_lit, Cond.code yX5_lit cX5_lit 2 (some .int), Cond.methodLink RX5 164 yX5_ago, Cond.instanceMethod yX5_ago, Cond.selects RX5 yX5_ago yX5_ago, Cond.code yX5_ago cX5_ago 2 (some .int), Cond.methodLink RX5 183 yX5_bringBack, Cond.instanceMethod yX5_bringBack, Cond.selects RX5 yX5_bringBack yX5_bringBack, Cond.code yX5_bringBack cX5_bringBack 2 none]
def wsX5_bestSpeed : List Cond := .code yX5_bestSpeed cX5_bestSpeed 6 (some .int) :: ((wsX5_bestSpeed_r1 ++ (wsX5_bestSpeed_r2 ++ (wsX5_bestSpeed_r3 ++ wsX5_bestSpeed_r4))) ++ wsX50)
def wsX5_meets_r1 : List Cond := [Cond.methodLink RX5 77 yX5_columnOf, Cond.instanceMethod yX5_columnOf, Cond.selects RX5 yX5_columnOf yX5_columnOf, Cond.initialized RX5, Cond.code yX5_columnOf cX5_columnOf 5 (some .int), Cond.methodLink RX5 64 yX5_of, Cond.instanceMethod yX5_of, Cond.selects RX5 yX5_of yX5_of, Cond.code yX5_of cX5_of 3 (some .int), Cond.fieldLink RX5 7 "LightWheelModel" "m" "[I", Cond.methodLink RX5 70 yX5_around, Cond.static yX5_around, Cond.code yX5_around cX5_around 1 (some .int), Cond.methodLink RX5 74 yX5_covered, Cond.instanceMethod yX5_covered, Cond.selects RX5 yX5_covered yX5_covered, Cond.code yX5_covered cX5_covered 2 (some .int), Cond.methodLink RX5 67 yX5_lesser, Cond.static yX5_lesser, Cond.code yX5_lesser cX5_lesser 2 (some .int), Cond.methodLink RX5 80 yX5_colorOf, Cond.instanceMethod yX5_colorOf, Cond.selects RX5 yX5_colorOf yX5_colorOf, Cond.code yX5_colorOf cX5_colorOf 4 (some .int)]
def wsX5_meets_r2 : List Cond := [Cond.methodLink RX5 60 yX5_cellOf, Cond.static yX5_cellOf, Cond.code yX5_cellOf cX5_cellOf 3 (some .int)]
def wsX5_meets : List Cond := .code yX5_meets cX5_meets 7 (some .boolean) :: ((wsX5_meets_r1 ++ wsX5_meets_r2) ++ wsX50)
def wsX5_meetings_r1 : List Cond := [Cond.methodLink RX5 86 yX5_isPicture, Cond.instanceMethod yX5_isPicture, Cond.selects RX5 yX5_isPicture yX5_isPicture, Cond.initialized RX5, Cond.code yX5_isPicture cX5_isPicture 2 (some .boolean), Cond.fieldLink RX5 7 "LightWheelModel" "m" "[I", Cond.methodLink RX5 56 yX5_in, Cond.static yX5_in, Cond.code yX5_in cX5_in 3 (some .boolean), Cond.methodLink RX5 64 yX5_of, Cond.instanceMethod yX5_of, Cond.selects RX5 yX5_of yX5_of, Cond.code yX5_of cX5_of 3 (some .int), Cond.methodLink RX5 192 yX5_meets, Cond.instanceMethod yX5_meets, Cond.selects RX5 yX5_meets yX5_meets, Cond.code yX5_meets cX5_meets 7 (some .boolean), Cond.methodLink RX5 77 yX5_columnOf, Cond.instanceMethod yX5_columnOf, Cond.selects RX5 yX5_columnOf yX5_columnOf, Cond.code yX5_columnOf cX5_columnOf 5 (some .int), Cond.methodLink RX5 70 yX5_around, Cond.static yX5_around, Cond.code yX5_around cX5_around 1 (some .int)]
def wsX5_meetings_r2 : List Cond := [Cond.methodLink RX5 74 yX5_covered, Cond.instanceMethod yX5_covered, Cond.selects RX5 yX5_covered yX5_covered, Cond.code yX5_covered cX5_covered 2 (some .int), Cond.methodLink RX5 67 yX5_lesser, Cond.static yX5_lesser, Cond.code yX5_lesser cX5_lesser 2 (some .int), Cond.methodLink RX5 80 yX5_colorOf, Cond.instanceMethod yX5_colorOf, Cond.selects RX5 yX5_colorOf yX5_colorOf, Cond.code yX5_colorOf cX5_colorOf 4 (some .int), Cond.methodLink RX5 60 yX5_cellOf, Cond.static yX5_cellOf, Cond.code yX5_cellOf cX5_cellOf 3 (some .int)]
def wsX5_meetings : List Cond := .code yX5_meetings cX5_meetings 6 (some .int) :: ((wsX5_meetings_r1 ++ wsX5_meetings_r2) ++ wsX50)
def wsJ9_abs_0f7a4 : List Cond := .code yJ9_abs_0f7a4 cJ9_abs_0f7a4 1 (some .int) :: ([])
def wsJ9_max_7cf53 : List Cond := .code yJ9_max_7cf53 cJ9_max_7cf53 2 (some .int) :: ([])
def wsJ9_min_7cf53 : List Cond := .code yJ9_min_7cf53 cJ9_min_7cf53 2 (some .int) :: ([])
def wsL_law_r1 : List Cond := [Cond.classLink RL 7 RX4, Cond.instantiable RX4 9, Cond.initialized RX4, Cond.classLink RL 10 RX5, Cond.instantiable RX5 16, Cond.initialized RX5, Cond.methodLink RL 9 yX4_init, Cond.instanceMethod yX4_init, Cond.code yX4_init cX4_init 2 none, Cond.methodLink RX4 1 objectInit, Cond.instanceMethod objectInit, Cond.code objectInit ⟨#[0xb1]⟩ 1 none, Cond.classLink RX4 7 RX2, Cond.instantiable RX2 11, Cond.initialized RX2, Cond.fieldLink RX4 10 "LightWheel" "now" "LLightWheel$State;", Cond.fieldLink RX4 16 "LightWheel" "history" "[LLightWheel$State;", Cond.fieldLink RX4 20 "LightWheel" "oldest" "I", Cond.fieldLink RX4 24 "LightWheel" "historySize" "I", Cond.arrayClass .char, Cond.fieldLink RX4 27 "LightWheel" "text" "[C", Cond.fieldLink RX4 31 "LightWheel" "textLength" "I", Cond.classLink RX4 34 RX1, Cond.instantiable RX1 6]
def wsL_law_r2 : List Cond := [Cond.initialized RX1, Cond.fieldLink RX4 37 "LightWheel" "reader" "LLightWheel$Reader;", Cond.classLink RX4 41 RX3, Cond.instantiable RX3 11, Cond.initialized RX3, Cond.fieldLink RX4 44 "LightWheel" "sweep" "LLightWheel$Sweep;", Cond.arrayClass .long, Cond.fieldLink RX4 48 "LightWheel" "rightAlone" "[J", Cond.methodLink RX4 9 yX2_init, Cond.instanceMethod yX2_init, Cond.code yX2_init cX2_init 2 none, Cond.methodLink RX2 3 objectInit, Cond.fieldLink RX2 9 "LightWheel$State" "pictureCount" "I", Cond.classLink RX2 15 RX0, Cond.fieldLink RX2 17 "LightWheel$State" "pictures" "[LLightWheel$Picture;", Cond.fieldLink RX2 21 "LightWheel$State" "angle" "I", Cond.fieldLink RX2 24 "LightWheel$State" "speed" "I", Cond.fieldLink RX2 27 "LightWheel$State" "ticks" "I", Cond.fieldLink RX2 30 "LightWheel$State" "load" "I", Cond.fieldLink RX2 33 "LightWheel$State" "secondArm" "I", Cond.arrayClass .int, Cond.fieldLink RX2 36 "LightWheel$State" "settings" "[I", Cond.constantLong RX2 40 (9817068105), Cond.fieldLink RX2 42 "LightWheel$State" "working" "[J"]
def wsL_law_r3 : List Cond := [Cond.fieldLink RX2 46 "LightWheel$State" "written" "[J", Cond.fieldLink RX2 49 "LightWheel$State" "writtenIn" "[I", Cond.instantiable RX0 5, Cond.initialized RX0, Cond.instanceMethod yX0_init, Cond.code yX0_init cX0_init 1 none, Cond.methodLink RX0 3 objectInit, Cond.fieldLink RX0 9 "LightWheel$Picture" "width" "I", Cond.fieldLink RX0 15 "LightWheel$Picture" "first" "I", Cond.fieldLink RX0 18 "LightWheel$Picture" "step" "I", Cond.fieldLink RX0 21 "LightWheel$Picture" "kind" "I", Cond.fieldLink RX0 24 "LightWheel$Picture" "columns" "[J", Cond.instanceMethod yX1_init, Cond.code yX1_init cX1_init 1 none, Cond.methodLink RX1 3 objectInit, Cond.fieldLink RX1 9 "LightWheel$Reader" "columns" "[J", Cond.instanceMethod yX3_init, Cond.code yX3_init cX3_init 1 none, Cond.methodLink RX3 3 objectInit, Cond.fieldLink RX3 9 "LightWheel$Sweep" "wanted" "[J", Cond.fieldLink RX3 15 "LightWheel$Sweep" "loadAt" "[I", Cond.fieldLink RX3 19 "LightWheel$Sweep" "passedIn" "[I", Cond.methodLink RL 12 yX5_init, Cond.instanceMethod yX5_init]
def wsL_law_r4 : List Cond := [Cond.code yX5_init cX5_init 1 none, Cond.methodLink RX5 1 objectInit, Cond.fieldLink RX5 7 "LightWheelModel" "m" "[I", Cond.fieldLink RX5 13 "LightWheelModel" "written" "[I", Cond.fieldLink RX5 16 "LightWheelModel" "spare" "[I", Cond.fieldLink RX5 19 "LightWheelModel" "spareWritten" "[I", Cond.fieldLink RX5 22 "LightWheelModel" "states" "[I", Cond.fieldLink RX5 25 "LightWheelModel" "fifth" "[I", Cond.fieldLink RX5 28 "LightWheelModel" "text" "[I", Cond.fieldLink RX5 31 "LightWheelModel" "read" "[I", Cond.fieldLink RX5 34 "LightWheelModel" "wants" "[I", Cond.fieldLink RX5 37 "LightWheelModel" "comes" "[I", Cond.methodLink RL 13 yX4_addPicture, Cond.instanceMethod yX4_addPicture, Cond.selects RX4 yX4_addPicture yX4_addPicture, Cond.code yX4_addPicture cX4_addPicture 3 (some .int), Cond.fieldLink RX4 56 "LightWheel$State" "pictureCount" "I", Cond.fieldLink RX4 62 "LightWheel$State" "pictures" "[LLightWheel$Picture;", Cond.fieldLink RX4 66 "LightWheel$Picture" "width" "I", Cond.methodLink RX4 52 yX4_within, Cond.static yX4_within, Cond.code yX4_within cX4_within 3 (some .boolean), Cond.methodLink RX4 59 yX4_record, Cond.instanceMethod yX4_record]
def wsL_law_r5 : List Cond := [Cond.selects RX4 yX4_record yX4_record, Cond.code yX4_record cX4_record 1 none, Cond.methodLink RX4 153 yX2_copyFrom, Cond.instanceMethod yX2_copyFrom, Cond.selects RX2 yX2_copyFrom yX2_copyFrom, Cond.code yX2_copyFrom cX2_copyFrom 3 none, Cond.methodLink RX2 57 arraycopyName, Cond.native arraycopyName, Cond.static arraycopyName, Cond.initialized "java/lang/System", Cond.methodLink RX2 53 yX0_copyFrom, Cond.instanceMethod yX0_copyFrom, Cond.selects RX0 yX0_copyFrom yX0_copyFrom, Cond.code yX0_copyFrom cX0_copyFrom 2 none, Cond.methodLink RX0 28 arraycopyName, Cond.methodLink RL 17 yX5_addPicture, Cond.instanceMethod yX5_addPicture, Cond.selects RX5 yX5_addPicture yX5_addPicture, Cond.code yX5_addPicture cX5_addPicture 4 (some .int), Cond.methodLink RX5 56 yX5_in, Cond.static yX5_in, Cond.code yX5_in cX5_in 3 (some .boolean), Cond.methodLink RX5 83 yX5_record, Cond.instanceMethod yX5_record]
def wsL_law_r6 : List Cond := [Cond.selects RX5 yX5_record yX5_record, Cond.code yX5_record cX5_record 3 none, Cond.fieldLink RX5 40 "LightWheelModel" "stateCount" "I", Cond.fieldLink RX5 44 "LightWheelModel" "oldest" "I", Cond.methodLink RX5 47 yX5_lay, Cond.instanceMethod yX5_lay, Cond.selects RX5 yX5_lay yX5_lay, Cond.code yX5_lay cX5_lay 4 none, Cond.methodLink RL 18 yX4_paint, Cond.instanceMethod yX4_paint, Cond.selects RX4 yX4_paint yX4_paint, Cond.code yX4_paint cX4_paint 7 (some .int), Cond.fieldLink RX4 75 "LightWheel$Picture" "columns" "[J", Cond.methodLink RX4 71 yX2_pictureNumbered, Cond.instanceMethod yX2_pictureNumbered, Cond.selects RX2 yX2_pictureNumbered yX2_pictureNumbered, Cond.code yX2_pictureNumbered cX2_pictureNumbered 2 (some (.object "LightWheel$Picture")), Cond.methodLink RX4 78 yX4_colorIn, Cond.static yX4_colorIn, Cond.code yX4_colorIn cX4_colorIn 3 (some .int), Cond.methodLink RX4 82 yX4_withColor, Cond.static yX4_withColor, Cond.code yX4_withColor cX4_withColor 5 (some .long), Cond.constantLong RX4 235 (7)]
def wsL_law_r7 : List Cond := [Cond.constantLong RX4 119 (-1), Cond.methodLink RL 22 yX5_paint, Cond.instanceMethod yX5_paint, Cond.selects RX5 yX5_paint yX5_paint, Cond.code yX5_paint cX5_paint 6 (some .int), Cond.methodLink RX5 86 yX5_isPicture, Cond.instanceMethod yX5_isPicture, Cond.selects RX5 yX5_isPicture yX5_isPicture, Cond.code yX5_isPicture cX5_isPicture 2 (some .boolean), Cond.methodLink RX5 64 yX5_of, Cond.instanceMethod yX5_of, Cond.selects RX5 yX5_of yX5_of, Cond.code yX5_of cX5_of 3 (some .int), Cond.methodLink RX5 90 yX5_isLight, Cond.static yX5_isLight, Cond.code yX5_isLight cX5_isLight 1 (some .boolean), Cond.methodLink RX5 80 yX5_colorOf, Cond.instanceMethod yX5_colorOf, Cond.selects RX5 yX5_colorOf yX5_colorOf, Cond.code yX5_colorOf cX5_colorOf 4 (some .int), Cond.methodLink RX5 60 yX5_cellOf, Cond.static yX5_cellOf, Cond.code yX5_cellOf cX5_cellOf 3 (some .int), Cond.methodLink RX5 93 yX5_putColor]
def wsL_law_r8 : List Cond := [Cond.instanceMethod yX5_putColor, Cond.selects RX5 yX5_putColor yX5_putColor, Cond.code yX5_putColor cX5_putColor 7 none, Cond.methodLink RL 23 yX4_setPlace, Cond.instanceMethod yX4_setPlace, Cond.selects RX4 yX4_setPlace yX4_setPlace, Cond.code yX4_setPlace cX4_setPlace 6 (some .int), Cond.fieldLink RX4 86 "LightWheel$Picture" "first" "I", Cond.fieldLink RX4 89 "LightWheel$Picture" "step" "I", Cond.methodLink RL 27 yX5_setPlace, Cond.instanceMethod yX5_setPlace, Cond.selects RX5 yX5_setPlace yX5_setPlace, Cond.code yX5_setPlace cX5_setPlace 5 (some .int), Cond.methodLink RL 28 yX4_setKind, Cond.instanceMethod yX4_setKind, Cond.selects RX4 yX4_setKind yX4_setKind, Cond.code yX4_setKind cX4_setKind 5 (some .int), Cond.fieldLink RX4 92 "LightWheel$Picture" "kind" "I", Cond.methodLink RL 32 yX5_setKind, Cond.instanceMethod yX5_setKind, Cond.selects RX5 yX5_setKind yX5_setKind, Cond.code yX5_setKind cX5_setKind 3 (some .int), Cond.methodLink RX5 97 yX5_put, Cond.instanceMethod yX5_put]
def wsL_law_r9 : List Cond := [Cond.selects RX5 yX5_put yX5_put, Cond.code yX5_put cX5_put 4 (some .int), Cond.methodLink RL 33 yX4_append, Cond.instanceMethod yX4_append, Cond.selects RX4 yX4_append yX4_append, Cond.code yX4_append cX4_append 2 (some .int), Cond.methodLink RL 36 yX5_append, Cond.instanceMethod yX5_append, Cond.selects RX5 yX5_append yX5_append, Cond.code yX5_append cX5_append 2 (some .int), Cond.fieldLink RX5 100 "LightWheelModel" "textLength" "I", Cond.methodLink RL 37 yX4_clearText, Cond.instanceMethod yX4_clearText, Cond.selects RX4 yX4_clearText yX4_clearText, Cond.code yX4_clearText cX4_clearText 2 (some .int), Cond.methodLink RL 41 yX5_clearText, Cond.instanceMethod yX5_clearText, Cond.selects RX5 yX5_clearText yX5_clearText, Cond.code yX5_clearText cX5_clearText 2 (some .int), Cond.methodLink RL 42 yX4_load, Cond.instanceMethod yX4_load, Cond.selects RX4 yX4_load yX4_load, Cond.code yX4_load cX4_load 4 (some .int), Cond.fieldLink RX4 99 "LightWheel$Reader" "columnCount" "I"]
def wsL_law_r10 : List Cond := [Cond.fieldLink RX4 102 "LightWheel$Reader" "columns" "[J", Cond.methodLink RX4 103 arraycopyName, Cond.methodLink RX4 95 yX1_read, Cond.instanceMethod yX1_read, Cond.selects RX1 yX1_read yX1_read, Cond.code yX1_read cX1_read 5 (some .int), Cond.fieldLink RX1 15 "LightWheel$Reader" "columnCount" "I", Cond.fieldLink RX1 19 "LightWheel$Reader" "awaited" "I", Cond.fieldLink RX1 22 "LightWheel$Reader" "told" "I", Cond.methodLink RX1 25 yX1_take, Cond.instanceMethod yX1_take, Cond.selects RX1 yX1_take yX1_take, Cond.code yX1_take cX1_take 3 (some .int), Cond.fieldLink RX1 29 "LightWheel$Reader" "numberStart" "I", Cond.fieldLink RX1 32 "LightWheel$Reader" "number" "I", Cond.methodLink RX1 35 yX1_takeDigit, Cond.instanceMethod yX1_takeDigit, Cond.selects RX1 yX1_takeDigit yX1_takeDigit, Cond.code yX1_takeDigit cX1_takeDigit 3 (some .int), Cond.methodLink RX1 38 yX1_takeBracket, Cond.instanceMethod yX1_takeBracket, Cond.selects RX1 yX1_takeBracket yX1_takeBracket, Cond.code yX1_takeBracket cX1_takeBracket 3 (some .int), Cond.methodLink RX1 41 yX1_takeColor]
def wsL_law_r11 : List Cond := [Cond.instanceMethod yX1_takeColor, Cond.selects RX1 yX1_takeColor yX1_takeColor, Cond.code yX1_takeColor cX1_takeColor 6 (some .int), Cond.methodLink RX1 45 yX1_takePart, Cond.instanceMethod yX1_takePart, Cond.selects RX1 yX1_takePart yX1_takePart, Cond.code yX1_takePart cX1_takePart 3 (some .int), Cond.methodLink RX1 48 yX1_takeSemicolon, Cond.instanceMethod yX1_takeSemicolon, Cond.selects RX1 yX1_takeSemicolon yX1_takeSemicolon, Cond.code yX1_takeSemicolon cX1_takeSemicolon 2 (some .int), Cond.methodLink RL 45 yX5_load, Cond.instanceMethod yX5_load, Cond.selects RX5 yX5_load yX5_load, Cond.code yX5_load cX5_load 3 (some .int), Cond.fieldLink RX5 103 "LightWheelModel" "at" "I", Cond.fieldLink RX5 110 "LightWheelModel" "columns" "I", Cond.methodLink RX5 133 yX5_readText, Cond.instanceMethod yX5_readText, Cond.selects RX5 yX5_readText yX5_readText, Cond.code yX5_readText cX5_readText 2 (some .boolean), Cond.fieldLink RX5 113 "LightWheelModel" "told" "I", Cond.methodLink RX5 116 yX5_skip, Cond.instanceMethod yX5_skip]
def wsL_law_r12 : List Cond := [Cond.selects RX5 yX5_skip yX5_skip, Cond.code yX5_skip cX5_skip 1 none, Cond.methodLink RX5 106 yX5_here, Cond.instanceMethod yX5_here, Cond.selects RX5 yX5_here yX5_here, Cond.code yX5_here cX5_here 1 (some .int), Cond.methodLink RX5 130 yX5_readPart, Cond.instanceMethod yX5_readPart, Cond.selects RX5 yX5_readPart yX5_readPart, Cond.code yX5_readPart cX5_readPart 2 (some .boolean), Cond.methodLink RX5 123 yX5_readNumber, Cond.instanceMethod yX5_readNumber, Cond.selects RX5 yX5_readNumber yX5_readNumber, Cond.code yX5_readNumber cX5_readNumber 3 (some .int), Cond.methodLink RX5 119 yX5_isColor, Cond.instanceMethod yX5_isColor, Cond.selects RX5 yX5_isColor yX5_isColor, Cond.code yX5_isColor cX5_isColor 1 (some .boolean), Cond.methodLink RX5 126 yX5_takeColor, Cond.instanceMethod yX5_takeColor, Cond.selects RX5 yX5_takeColor yX5_takeColor, Cond.code yX5_takeColor cX5_takeColor 3 none, Cond.methodLink RL 46 yX4_setSecondArm, Cond.instanceMethod yX4_setSecondArm]
def wsL_law_r13 : List Cond := [Cond.selects RX4 yX4_setSecondArm yX4_setSecondArm, Cond.code yX4_setSecondArm cX4_setSecondArm 3 (some .int), Cond.fieldLink RX4 109 "LightWheel$State" "secondArm" "I", Cond.methodLink RL 49 yX5_setSecondArm, Cond.instanceMethod yX5_setSecondArm, Cond.selects RX5 yX5_setSecondArm yX5_setSecondArm, Cond.code yX5_setSecondArm cX5_setSecondArm 2 (some .int), Cond.methodLink RL 50 yX4_setBroken, Cond.instanceMethod yX4_setBroken, Cond.selects RX4 yX4_setBroken yX4_setBroken, Cond.code yX4_setBroken cX4_setBroken 7 (some .int), Cond.fieldLink RX4 116 "LightWheel$State" "working" "[J", Cond.methodLink RX4 112 yX2_works, Cond.instanceMethod yX2_works, Cond.selects RX2 yX2_works yX2_works, Cond.code yX2_works cX2_works 3 (some .boolean), Cond.methodLink RL 53 yX5_setBroken, Cond.instanceMethod yX5_setBroken, Cond.selects RX5 yX5_setBroken yX5_setBroken, Cond.code yX5_setBroken cX5_setBroken 5 (some .int), Cond.methodLink RX5 136 yX5_isBroken, Cond.instanceMethod yX5_isBroken, Cond.selects RX5 yX5_isBroken yX5_isBroken, Cond.code yX5_isBroken cX5_isBroken 3 (some .boolean)]
def wsL_law_r14 : List Cond := [Cond.methodLink RL 54 yX4_set, Cond.instanceMethod yX4_set, Cond.selects RX4 yX4_set yX4_set, Cond.code yX4_set cX4_set 4 (some .int), Cond.fieldLink RX4 121 "LightWheel" "LOWEST" "[I", Cond.fieldLink RX4 125 "LightWheel" "HIGHEST" "[I", Cond.fieldLink RX4 128 "LightWheel$State" "settings" "[I", Cond.methodLink RL 57 yX5_set, Cond.instanceMethod yX5_set, Cond.selects RX5 yX5_set yX5_set, Cond.code yX5_set cX5_set 3 (some .int), Cond.methodLink RX5 140 yX5_isSetting, Cond.static yX5_isSetting, Cond.code yX5_isSetting cX5_isSetting 2 (some .boolean), Cond.methodLink RL 58 yX4_run, Cond.instanceMethod yX4_run, Cond.selects RX4 yX4_run yX4_run, Cond.code yX4_run cX4_run 2 (some .int), Cond.fieldLink RX4 131 "LightWheel$State" "ticks" "I", Cond.fieldLink RX4 150 "LightWheel$State" "load" "I", Cond.methodLink RX4 134 yX3_prepare, Cond.instanceMethod yX3_prepare, Cond.selects RX3 yX3_prepare yX3_prepare, Cond.code yX3_prepare cX3_prepare 3 none]
def wsL_law_r15 : List Cond := [Cond.fieldLink RX3 22 "LightWheel$State" "secondArm" "I", Cond.fieldLink RX3 28 "LightWheel$Sweep" "secondArm" "Z", Cond.fieldLink RX3 31 "LightWheel$State" "settings" "[I", Cond.fieldLink RX3 34 "LightWheel$Sweep" "power" "I", Cond.fieldLink RX3 37 "LightWheel$Sweep" "limit" "I", Cond.fieldLink RX3 48 "LightWheel$State" "working" "[J", Cond.methodLink RX3 40 yX2_wantedAt, Cond.instanceMethod yX2_wantedAt, Cond.selects RX2 yX2_wantedAt yX2_wantedAt, Cond.code yX2_wantedAt cX2_wantedAt 5 (some .long), Cond.methodLink RX2 67 yX0_wantedAt, Cond.instanceMethod yX0_wantedAt, Cond.selects RX0 yX0_wantedAt yX0_wantedAt, Cond.code yX0_wantedAt cX0_wantedAt 2 (some .long), Cond.methodLink RX0 47 yX0_covers, Cond.instanceMethod yX0_covers, Cond.selects RX0 yX0_covers yX0_covers, Cond.code yX0_covers cX0_covers 2 (some .boolean), Cond.methodLink RX0 40 yJ9_floorMod_7cf53, Cond.static yJ9_floorMod_7cf53, Cond.initialized RJ9, Cond.code yJ9_floorMod_7cf53 cJ9_floorMod_7cf53 3 (some .int), Cond.methodLink RX0 43 yX0_coveredAngles, Cond.instanceMethod yX0_coveredAngles]
def wsL_law_r16 : List Cond := [Cond.selects RX0 yX0_coveredAngles yX0_coveredAngles, Cond.code yX0_coveredAngles cX0_coveredAngles 1 (some .int), Cond.methodLink RX0 34 Lib.Math.min.name, Cond.static Lib.Math.min.name, Cond.initialized "java/lang/Math", Cond.code Lib.Math.min.name Lib.Math.min.code 2 (some .int), Cond.methodLink RX0 51 yX0_columnOf, Cond.instanceMethod yX0_columnOf, Cond.selects RX0 yX0_columnOf yX0_columnOf, Cond.code yX0_columnOf cX0_columnOf 3 (some .int), Cond.static yX4_notDark, Cond.code yX4_notDark cX4_notDark 2 (some .long), Cond.constantLong RX4 223 (9817068105), Cond.methodLink RX3 51 yJ13_bitCount_95d88, Cond.static yJ13_bitCount_95d88, Cond.initialized RJ13, Cond.code yJ13_bitCount_95d88 cJ13_bitCount_95d88 2 (some .int), Cond.constantLong RJ13 314 (6148914691236517205), Cond.constantLong RJ13 316 (3689348814741910323), Cond.constantLong RJ13 318 (1085102592571150095), Cond.methodLink RX3 57 yX3_opposite, Cond.static yX3_opposite, Cond.code yX3_opposite cX3_opposite 1 (some .int), Cond.methodLink RX4 138 yX3_start]
def wsL_law_r17 : List Cond := [Cond.instanceMethod yX3_start, Cond.selects RX3 yX3_start yX3_start, Cond.code yX3_start cX3_start 4 none, Cond.fieldLink RX3 61 "LightWheel$Sweep" "wantedSpeed" "I", Cond.fieldLink RX3 64 "LightWheel$State" "angle" "I", Cond.fieldLink RX3 67 "LightWheel$Sweep" "angle" "I", Cond.fieldLink RX3 68 "LightWheel$State" "speed" "I", Cond.fieldLink RX3 71 "LightWheel$Sweep" "speed" "I", Cond.fieldLink RX3 72 "LightWheel$State" "load" "I", Cond.fieldLink RX3 75 "LightWheel$Sweep" "load" "I", Cond.fieldLink RX3 76 "LightWheel$Sweep" "ticks" "I", Cond.methodLink RX4 142 yX3_goOn, Cond.instanceMethod yX3_goOn, Cond.selects RX3 yX3_goOn yX3_goOn, Cond.code yX3_goOn cX3_goOn 3 none, Cond.methodLink RX3 79 yX3_changeSpeed, Cond.instanceMethod yX3_changeSpeed, Cond.selects RX3 yX3_changeSpeed yX3_changeSpeed, Cond.code yX3_changeSpeed cX3_changeSpeed 2 none, Cond.methodLink RX3 85 Lib.Math.min.name, Cond.methodLink RX3 91 Lib.Math.max.name, Cond.static Lib.Math.max.name, Cond.code Lib.Math.max.name Lib.Math.max.code 2 (some .int), Cond.methodLink RX3 82 yX3_turn]
def wsL_law_r18 : List Cond := [Cond.instanceMethod yX3_turn, Cond.selects RX3 yX3_turn yX3_turn, Cond.code yX3_turn cX3_turn 3 none, Cond.methodLink RX3 94 Lib.Math.abs.name, Cond.static Lib.Math.abs.name, Cond.code Lib.Math.abs.name Lib.Math.abs.code 1 (some .int), Cond.methodLink RX3 97 yJ9_floorMod_7cf53, Cond.methodLink RX4 146 yX2_write, Cond.instanceMethod yX2_write, Cond.selects RX2 yX2_write yX2_write, Cond.code yX2_write cX2_write 3 none, Cond.fieldLink RX2 86 "LightWheel$Sweep" "wanted" "[J", Cond.fieldLink RX2 102 "LightWheel$Sweep" "angle" "I", Cond.fieldLink RX2 103 "LightWheel$Sweep" "speed" "I", Cond.fieldLink RX2 104 "LightWheel$Sweep" "load" "I", Cond.fieldLink RX2 105 "LightWheel$Sweep" "ticks" "I", Cond.methodLink RX2 91 yX3_firstArmAt, Cond.instanceMethod yX3_firstArmAt, Cond.selects RX3 yX3_firstArmAt yX3_firstArmAt, Cond.code yX3_firstArmAt cX3_firstArmAt 2 (some .int), Cond.methodLink RX2 95 yX2_writeArm, Cond.instanceMethod yX2_writeArm, Cond.selects RX2 yX2_writeArm yX2_writeArm, Cond.code yX2_writeArm cX2_writeArm 10 none]
def wsL_law_r19 : List Cond := [Cond.constantLong RX2 84 (7), Cond.constantLong RX2 106 (-1), Cond.methodLink RX2 78 Lib.Math.max.name, Cond.methodLink RX2 108 yX2_works, Cond.methodLink RX2 99 yX3_secondArmAt, Cond.instanceMethod yX3_secondArmAt, Cond.selects RX3 yX3_secondArmAt yX3_secondArmAt, Cond.code yX3_secondArmAt cX3_secondArmAt 2 (some .int), Cond.methodLink RL 61 yX5_run, Cond.instanceMethod yX5_run, Cond.selects RX5 yX5_run yX5_run, Cond.code yX5_run cX5_run 2 (some .int), Cond.methodLink RX5 158 yX5_layWants, Cond.instanceMethod yX5_layWants, Cond.selects RX5 yX5_layWants yX5_layWants, Cond.code yX5_layWants cX5_layWants 2 none, Cond.methodLink RX5 143 yX5_wanted, Cond.instanceMethod yX5_wanted, Cond.selects RX5 yX5_wanted yX5_wanted, Cond.code yX5_wanted cX5_wanted 6 (some .int), Cond.methodLink RX5 77 yX5_columnOf, Cond.instanceMethod yX5_columnOf, Cond.selects RX5 yX5_columnOf yX5_columnOf, Cond.code yX5_columnOf cX5_columnOf 5 (some .int)]
def wsL_law_r20 : List Cond := [Cond.methodLink RX5 70 yX5_around, Cond.static yX5_around, Cond.code yX5_around cX5_around 1 (some .int), Cond.methodLink RX5 74 yX5_covered, Cond.instanceMethod yX5_covered, Cond.selects RX5 yX5_covered yX5_covered, Cond.code yX5_covered cX5_covered 2 (some .int), Cond.methodLink RX5 67 yX5_lesser, Cond.static yX5_lesser, Cond.code yX5_lesser cX5_lesser 2 (some .int), Cond.methodLink RX5 161 yX5_goOn, Cond.instanceMethod yX5_goOn, Cond.selects RX5 yX5_goOn yX5_goOn, Cond.code yX5_goOn cX5_goOn 3 none, Cond.methodLink RX5 155 yX5_tick, Cond.instanceMethod yX5_tick, Cond.selects RX5 yX5_tick yX5_tick, Cond.code yX5_tick cX5_tick 3 none, Cond.methodLink RX5 146 yX5_newSpeed, Cond.instanceMethod yX5_newSpeed, Cond.selects RX5 yX5_newSpeed yX5_newSpeed, Cond.code yX5_newSpeed cX5_newSpeed 3 none, Cond.methodLink RX5 149 yX5_size, Cond.static yX5_size]
def wsL_law_r21 : List Cond := [Cond.code yX5_size cX5_size 1 (some .int), Cond.methodLink RX5 152 yX5_writes, Cond.instanceMethod yX5_writes, Cond.selects RX5 yX5_writes yX5_writes, Cond.code yX5_writes cX5_writes 6 (some .int), Cond.methodLink RL 62 yX4_undo, Cond.instanceMethod yX4_undo, Cond.selects RX4 yX4_undo yX4_undo, Cond.code yX4_undo cX4_undo 1 (some .int), Cond.methodLink RL 65 yX5_undo, Cond.instanceMethod yX5_undo, Cond.selects RX5 yX5_undo yX5_undo, Cond.code yX5_undo cX5_undo 4 (some .int), Cond.constant RX5 55 (65535), Cond.methodLink RX5 51 yX5_past, Cond.instanceMethod yX5_past, Cond.selects RX5 yX5_past yX5_past, Cond.code yX5_past cX5_past 3 (some .int), Cond.methodLink RL 66 yX4_count, Cond.instanceMethod yX4_count, Cond.selects RX4 yX4_count yX4_count, Cond.code yX4_count cX4_count 2 (some .int), Cond.fieldLink RX4 156 "LightWheel$State" "angle" "I", Cond.fieldLink RX4 159 "LightWheel$State" "speed" "I"]
def wsL_law_r22 : List Cond := [Cond.methodLink RX4 162 yX4_countLit, Cond.instanceMethod yX4_countLit, Cond.selects RX4 yX4_countLit yX4_countLit, Cond.code yX4_countLit cX4_countLit 3 (some .int), Cond.methodLink RX4 179 yX2_litAt, Cond.instanceMethod yX2_litAt, Cond.selects RX2 yX2_litAt yX2_litAt, Cond.code yX2_litAt cX2_litAt 8 (some .long), Cond.methodLink RX4 195 yX4_notDark, Cond.methodLink RX4 199 yJ13_bitCount_95d88, Cond.methodLink RX4 166 yX4_countNotAsWanted, Cond.instanceMethod yX4_countNotAsWanted, Cond.selects RX4 yX4_countNotAsWanted yX4_countNotAsWanted, Cond.code yX4_countNotAsWanted cX4_countNotAsWanted 3 (some .int), Cond.methodLink RX4 175 yX2_wantedAt, Cond.methodLink RL 69 yX5_count, Cond.instanceMethod yX5_count, Cond.selects RX5 yX5_count yX5_count, Cond.code yX5_count cX5_count 2 (some .int), Cond.methodLink RX5 170 yX5_litPlaces, Cond.instanceMethod yX5_litPlaces, Cond.selects RX5 yX5_litPlaces yX5_litPlaces, Cond.code yX5_litPlaces cX5_litPlaces 4 (some .int), Cond.methodLink RX5 167 yX5_lit]
def wsL_law_r23 : List Cond := [Cond.instanceMethod yX5_lit, Cond.selects RX5 yX5_lit yX5_lit, Cond.code yX5_lit cX5_lit 2 (some .int), Cond.methodLink RX5 164 yX5_ago, Cond.instanceMethod yX5_ago, Cond.selects RX5 yX5_ago yX5_ago, Cond.code yX5_ago cX5_ago 2 (some .int), Cond.methodLink RX5 174 yX5_wrongPlaces, Cond.instanceMethod yX5_wrongPlaces, Cond.selects RX5 yX5_wrongPlaces yX5_wrongPlaces, Cond.code yX5_wrongPlaces cX5_wrongPlaces 1 (some .int), Cond.methodLink RL 70 yX4_setting, Cond.instanceMethod yX4_setting, Cond.selects RX4 yX4_setting yX4_setting, Cond.code yX4_setting cX4_setting 2 (some .int), Cond.methodLink RL 73 yX5_setting, Cond.instanceMethod yX5_setting, Cond.selects RX5 yX5_setting yX5_setting, Cond.code yX5_setting cX5_setting 2 (some .int), Cond.methodLink RL 74 yX4_picture, Cond.instanceMethod yX4_picture, Cond.selects RX4 yX4_picture yX4_picture, Cond.code yX4_picture cX4_picture 4 (some .int), Cond.methodLink RX4 169 yX0_countNotDark]
def wsL_law_r24 : List Cond := [Cond.instanceMethod yX0_countNotDark, Cond.selects RX0 yX0_countNotDark yX0_countNotDark, Cond.code yX0_countNotDark cX0_countNotDark 3 (some .int), Cond.methodLink RX0 59 yJ13_bitCount_95d88, Cond.methodLink RX4 172 yX0_coveredAngles, Cond.methodLink RL 77 yX5_picture, Cond.instanceMethod yX5_picture, Cond.selects RX5 yX5_picture yX5_picture, Cond.code yX5_picture cX5_picture 3 (some .int), Cond.methodLink RX5 177 yX5_bright, Cond.instanceMethod yX5_bright, Cond.selects RX5 yX5_bright yX5_bright, Cond.code yX5_bright cX5_bright 4 (some .int), Cond.methodLink RL 78 yX4_color, Cond.instanceMethod yX4_color, Cond.selects RX4 yX4_color yX4_color, Cond.code yX4_color cX4_color 5 (some .int), Cond.methodLink RL 81 yX5_color, Cond.instanceMethod yX5_color, Cond.selects RX5 yX5_color yX5_color, Cond.code yX5_color cX5_color 4 (some .int), Cond.methodLink RL 82 yX4_broken, Cond.instanceMethod yX4_broken, Cond.selects RX4 yX4_broken yX4_broken]
def wsL_law_r25 : List Cond := [Cond.code yX4_broken cX4_broken 3 (some .int), Cond.methodLink RL 85 yX5_broken, Cond.instanceMethod yX5_broken, Cond.selects RX5 yX5_broken yX5_broken, Cond.code yX5_broken cX5_broken 3 (some .int), Cond.methodLink RL 86 yX4_place, Cond.instanceMethod yX4_place, Cond.selects RX4 yX4_place yX4_place, Cond.code yX4_place cX4_place 4 (some .int), Cond.methodLink RX4 183 yX4_ticksSinceWritten, Cond.instanceMethod yX4_ticksSinceWritten, Cond.selects RX4 yX4_ticksSinceWritten yX4_ticksSinceWritten, Cond.code yX4_ticksSinceWritten cX4_ticksSinceWritten 4 (some .int), Cond.fieldLink RX4 205 "LightWheel$State" "writtenIn" "[I", Cond.methodLink RL 89 yX5_place, Cond.instanceMethod yX5_place, Cond.selects RX5 yX5_place yX5_place, Cond.code yX5_place cX5_place 5 (some .int), Cond.methodLink RL 90 yX4_columnAt, Cond.instanceMethod yX4_columnAt, Cond.selects RX4 yX4_columnAt yX4_columnAt, Cond.code yX4_columnAt cX4_columnAt 4 (some .int), Cond.methodLink RX4 187 yX0_covers, Cond.methodLink RX4 191 yX0_columnOf]
def wsL_law_r26 : List Cond := [Cond.methodLink RL 93 yX5_columnAt, Cond.instanceMethod yX5_columnAt, Cond.selects RX5 yX5_columnAt yX5_columnAt, Cond.code yX5_columnAt cX5_columnAt 3 (some .int), Cond.methodLink RL 94 yX4_ticksAround, Cond.instanceMethod yX4_ticksAround, Cond.selects RX4 yX4_ticksAround yX4_ticksAround, Cond.code yX4_ticksAround cX4_ticksAround 3 (some .int), Cond.fieldLink RX4 208 "LightWheel$Sweep" "speed" "I", Cond.methodLink RX4 209 Lib.Math.abs.name, Cond.methodLink RL 97 yX5_ticksAround, Cond.instanceMethod yX5_ticksAround, Cond.selects RX5 yX5_ticksAround yX5_ticksAround, Cond.code yX5_ticksAround cX5_ticksAround 3 (some .int), Cond.methodLink RX5 180 yX5_setAside, Cond.instanceMethod yX5_setAside, Cond.selects RX5 yX5_setAside yX5_setAside, Cond.code yX5_setAside cX5_setAside 2 none, Cond.methodLink RX5 183 yX5_bringBack, Cond.instanceMethod yX5_bringBack, Cond.selects RX5 yX5_bringBack yX5_bringBack, Cond.code yX5_bringBack cX5_bringBack 2 none, Cond.methodLink RL 98 yX4_gaps, Cond.instanceMethod yX4_gaps]
def wsL_law_r27 : List Cond := [Cond.selects RX4 yX4_gaps yX4_gaps, Cond.code yX4_gaps cX4_gaps 5 (some .int), Cond.methodLink RX4 214 yX3_firstArmAt, Cond.methodLink RX4 217 yX3_secondArmAt, Cond.methodLink RX4 220 yX2_isCoveredAt, Cond.instanceMethod yX2_isCoveredAt, Cond.selects RX2 yX2_isCoveredAt yX2_isCoveredAt, Cond.code yX2_isCoveredAt cX2_isCoveredAt 3 (some .boolean), Cond.fieldLink RX2 71 "LightWheel$Picture" "kind" "I", Cond.methodLink RX2 74 yX0_covers, Cond.methodLink RL 101 yX5_gaps, Cond.instanceMethod yX5_gaps, Cond.selects RX5 yX5_gaps yX5_gaps, Cond.code yX5_gaps cX5_gaps 4 (some .int), Cond.methodLink RX5 186 yX5_mark, Cond.instanceMethod yX5_mark, Cond.selects RX5 yX5_mark yX5_mark, Cond.code yX5_mark cX5_mark 3 none, Cond.methodLink RX5 189 yX5_isCovered, Cond.instanceMethod yX5_isCovered, Cond.selects RX5 yX5_isCovered yX5_isCovered, Cond.code yX5_isCovered cX5_isCovered 4 (some .boolean), Cond.methodLink RL 102 yX4_bestSpeed, Cond.instanceMethod yX4_bestSpeed]
def wsL_law_r28 : List Cond := [Cond.selects RX4 yX4_bestSpeed yX4_bestSpeed, Cond.code yX4_bestSpeed cX4_bestSpeed 6 (some .int), Cond.fieldLink RX4 225 "LightWheel$Sweep" "wanted" "[J", Cond.methodLink RX4 228 yX4_countRight, Cond.instanceMethod yX4_countRight, Cond.selects RX4 yX4_countRight yX4_countRight, Cond.code yX4_countRight cX4_countRight 9 (some .int), Cond.methodLink RX4 232 Lib.Math.max.name, Cond.methodLink RL 105 yX5_bestSpeed, Cond.instanceMethod yX5_bestSpeed, Cond.selects RX5 yX5_bestSpeed yX5_bestSpeed, Cond.code yX5_bestSpeed cX5_bestSpeed 6 (some .int), Cond.methodLink RL 106 yX4_meetings, Cond.instanceMethod yX4_meetings, Cond.selects RX4 yX4_meetings yX4_meetings, Cond.code yX4_meetings cX4_meetings 7 (some .int), Cond.methodLink RX4 231 yX0_wantedAt, Cond.methodLink RL 109 yX5_meetings, Cond.instanceMethod yX5_meetings, Cond.selects RX5 yX5_meetings yX5_meetings, Cond.code yX5_meetings cX5_meetings 6 (some .int), Cond.methodLink RX5 192 yX5_meets, Cond.instanceMethod yX5_meets, Cond.selects RX5 yX5_meets yX5_meets]
def wsL_law_r29 : List Cond := [Cond.code yX5_meets cX5_meets 7 (some .boolean)]
def wsL_law : List Cond := (wsL_law_r1 ++ (wsL_law_r2 ++ (wsL_law_r3 ++ (wsL_law_r4 ++ (wsL_law_r5 ++ (wsL_law_r6 ++ (wsL_law_r7 ++ (wsL_law_r8 ++ (wsL_law_r9 ++ (wsL_law_r10 ++ (wsL_law_r11 ++ (wsL_law_r12 ++ (wsL_law_r13 ++ (wsL_law_r14 ++ (wsL_law_r15 ++ (wsL_law_r16 ++ (wsL_law_r17 ++ (wsL_law_r18 ++ (wsL_law_r19 ++ (wsL_law_r20 ++ (wsL_law_r21 ++ (wsL_law_r22 ++ (wsL_law_r23 ++ (wsL_law_r24 ++ (wsL_law_r25 ++ (wsL_law_r26 ++ (wsL_law_r27 ++ (wsL_law_r28 ++ wsL_law_r29)))))))))))))))))))))))))))) ++ wsX40 ++ wsX50 ++ wsX20 ++ wsX10 ++ wsX30 ++ wsX00 ++ ([] : List Cond)
end
section
theorem dX0_init_0 : decode cX0_init 0 = .ok (.aload_n 0, 1) := by decide +kernel
theorem dX0_init_1 : decode cX0_init 1 = .ok (.invokespecial 3, 3) := by decide +kernel
theorem dX0_init_4 : decode cX0_init 4 = .ok (.aload_n 0, 1) := by decide +kernel
theorem dX0_init_5 : decode cX0_init 5 = .ok (.iconst 1, 1) := by decide +kernel
theorem dX0_init_6 : decode cX0_init 6 = .ok (.putfield 9, 3) := by decide +kernel
theorem dX0_init_9 : decode cX0_init 9 = .ok (.aload_n 0, 1) := by decide +kernel
theorem dX0_init_10 : decode cX0_init 10 = .ok (.iconst 0, 1) := by decide +kernel
theorem dX0_init_11 : decode cX0_init 11 = .ok (.putfield 15, 3) := by decide +kernel
theorem dX0_init_14 : decode cX0_init 14 = .ok (.aload_n 0, 1) := by decide +kernel
theorem dX0_init_15 : decode cX0_init 15 = .ok (.bipush 6, 2) := by decide +kernel
theorem dX0_init_17 : decode cX0_init 17 = .ok (.putfield 18, 3) := by decide +kernel
theorem dX0_init_20 : decode cX0_init 20 = .ok (.aload_n 0, 1) := by decide +kernel
theorem dX0_init_21 : decode cX0_init 21 = .ok (.iconst 0, 1) := by decide +kernel
theorem dX0_init_22 : decode cX0_init 22 = .ok (.putfield 21, 3) := by decide +kernel
theorem dX0_init_25 : decode cX0_init 25 = .ok (.aload_n 0, 1) := by decide +kernel
theorem dX0_init_26 : decode cX0_init 26 = .ok (.bipush 40, 2) := by decide +kernel
theorem dX0_init_28 : decode cX0_init 28 = .ok (.newarray .long, 2) := by decide +kernel
theorem dX0_init_30 : decode cX0_init 30 = .ok (.putfield 24, 3) := by decide +kernel
theorem dX0_init_33 : decode cX0_init 33 = .ok (.return_, 1) := by decide +kernel
theorem dX0_copyFrom_0 : decode cX0_copyFrom 0 = .ok (.aload_n 0, 1) := by decide +kernel
theorem dX0_copyFrom_1 : decode cX0_copyFrom 1 = .ok (.aload_n 1, 1) := by decide +kernel
theorem dX0_copyFrom_2 : decode cX0_copyFrom 2 = .ok (.getfield 9, 3) := by decide +kernel
theorem dX0_copyFrom_5 : decode cX0_copyFrom 5 = .ok (.putfield 9, 3) := by decide +kernel
theorem dX0_copyFrom_8 : decode cX0_copyFrom 8 = .ok (.aload_n 0, 1) := by decide +kernel
theorem dX0_copyFrom_9 : decode cX0_copyFrom 9 = .ok (.aload_n 1, 1) := by decide +kernel
theorem dX0_copyFrom_10 : decode cX0_copyFrom 10 = .ok (.getfield 15, 3) := by decide +kernel
theorem dX0_copyFrom_13 : decode cX0_copyFrom 13 = .ok (.putfield 15, 3) := by decide +kernel
theorem dX0_copyFrom_16 : decode cX0_copyFrom 16 = .ok (.aload_n 0, 1) := by decide +kernel
theorem dX0_copyFrom_17 : decode cX0_copyFrom 17 = .ok (.aload_n 1, 1) := by decide +kernel
theorem dX0_copyFrom_18 : decode cX0_copyFrom 18 = .ok (.getfield 18, 3) := by decide +kernel
theorem dX0_copyFrom_21 : decode cX0_copyFrom 21 = .ok (.putfield 18, 3) := by decide +kernel
theorem dX0_copyFrom_24 : decode cX0_copyFrom 24 = .ok (.aload_n 0, 1) := by decide +kernel
theorem dX0_copyFrom_25 : decode cX0_copyFrom 25 = .ok (.aload_n 1, 1) := by decide +kernel
theorem dX0_copyFrom_26 : decode cX0_copyFrom 26 = .ok (.getfield 21, 3) := by decide +kernel
theorem dX0_copyFrom_29 : decode cX0_copyFrom 29 = .ok (.putfield 21, 3) := by decide +kernel
theorem dX0_copyFrom_32 : decode cX0_copyFrom 32 = .ok (.aload_n 1, 1) := by decide +kernel
theorem dX0_copyFrom_33 : decode cX0_copyFrom 33 = .ok (.getfield 24, 3) := by decide +kernel
theorem dX0_copyFrom_36 : decode cX0_copyFrom 36 = .ok (.iconst 0, 1) := by decide +kernel
theorem dX0_copyFrom_37 : decode cX0_copyFrom 37 = .ok (.aload_n 0, 1) := by decide +kernel
theorem dX0_copyFrom_38 : decode cX0_copyFrom 38 = .ok (.getfield 24, 3) := by decide +kernel
theorem dX0_copyFrom_41 : decode cX0_copyFrom 41 = .ok (.iconst 0, 1) := by decide +kernel
theorem dX0_copyFrom_42 : decode cX0_copyFrom 42 = .ok (.bipush 40, 2) := by decide +kernel
theorem dX0_copyFrom_44 : decode cX0_copyFrom 44 = .ok (.invokestatic 28, 3) := by decide +kernel
theorem dX0_copyFrom_47 : decode cX0_copyFrom 47 = .ok (.return_, 1) := by decide +kernel
theorem dX0_coveredAngles_0 : decode cX0_coveredAngles 0 = .ok (.sipush 720, 3) := by decide +kernel
theorem dX0_coveredAngles_3 : decode cX0_coveredAngles 3 = .ok (.aload_n 0, 1) := by decide +kernel
theorem dX0_coveredAngles_4 : decode cX0_coveredAngles 4 = .ok (.getfield 9, 3) := by decide +kernel
theorem dX0_coveredAngles_7 : decode cX0_coveredAngles 7 = .ok (.aload_n 0, 1) := by decide +kernel
theorem dX0_coveredAngles_8 : decode cX0_coveredAngles 8 = .ok (.getfield 18, 3) := by decide +kernel
theorem dX0_coveredAngles_11 : decode cX0_coveredAngles 11 = .ok (.imul, 1) := by decide +kernel
theorem dX0_coveredAngles_12 : decode cX0_coveredAngles 12 = .ok (.invokestatic 34, 3) := by decide +kernel
theorem dX0_coveredAngles_15 : decode cX0_coveredAngles 15 = .ok (.ireturn, 1) := by decide +kernel
set_option maxRecDepth 20000 in
theorem ggX0_covers_J9_floorMod_7cf53 : GoodIn wsX0_covers wsJ9_floorMod_7cf53 := goodIn_r _ [5] (by decide +kernel) (by decide +kernel)
set_option maxRecDepth 20000 in
theorem gX0_covers_J9_floorMod_7cf53 : GoodIn wsX0_covers (va_wsS RX0 40 yJ9_floorMod_7cf53 wsJ9_floorMod_7cf53) := goodIn_app (goodIn_of _ (by decide +kernel)) ggX0_covers_J9_floorMod_7cf53
set_option maxRecDepth 20000 in
theorem ggX0_covers_X0_coveredAngles : GoodIn wsX0_covers wsX0_coveredAngles := goodIn_r _ [10, 11, 12, 13, 14, 15, 16, 17, 18, 19, 20, 21] (by decide +kernel) (by decide +kernel)
set_option maxRecDepth 20000 in
theorem gX0_covers_X0_coveredAngles : GoodIn wsX0_covers (wsV RX0 43 RX0 yX0_coveredAngles wsX0_coveredAngles) := goodIn_app (goodIn_of _ (by decide +kernel)) ggX0_covers_X0_coveredAngles
theorem dX0_covers_0 : decode cX0_covers 0 = .ok (.iload_n 1, 1) := by decide +kernel
theorem dX0_covers_1 : decode cX0_covers 1 = .ok (.aload_n 0, 1) := by decide +kernel
theorem dX0_covers_2 : decode cX0_covers 2 = .ok (.getfield 15, 3) := by decide +kernel
theorem dX0_covers_5 : decode cX0_covers 5 = .ok (.isub, 1) := by decide +kernel
theorem dX0_covers_6 : decode cX0_covers 6 = .ok (.sipush 720, 3) := by decide +kernel
theorem dX0_covers_9 : decode cX0_covers 9 = .ok (.invokestatic 40, 3) := by decide +kernel
theorem dX0_covers_12 : decode cX0_covers 12 = .ok (.aload_n 0, 1) := by decide +kernel
theorem dX0_covers_13 : decode cX0_covers 13 = .ok (.invokevirtual 43, 3) := by decide +kernel
theorem dX0_covers_16 : decode cX0_covers 16 = .ok (.if_icmp .ge 7, 3) := by decide +kernel
theorem dX0_covers_19 : decode cX0_covers 19 = .ok (.iconst 1, 1) := by decide +kernel
theorem dX0_covers_20 : decode cX0_covers 20 = .ok (.goto 4, 3) := by decide +kernel
theorem dX0_covers_23 : decode cX0_covers 23 = .ok (.iconst 0, 1) := by decide +kernel
theorem dX0_covers_24 : decode cX0_covers 24 = .ok (.ireturn, 1) := by decide +kernel
set_option maxRecDepth 20000 in
theorem ggX0_columnOf_J9_floorMod_7cf53 : GoodIn wsX0_columnOf wsJ9_floorMod_7cf53 := goodIn_r _ [8] (by decide +kernel) (by decide +kernel)
set_option maxRecDepth 20000 in
theorem gX0_columnOf_J9_floorMod_7cf53 : GoodIn wsX0_columnOf (va_wsS RX0 40 yJ9_floorMod_7cf53 wsJ9_floorMod_7cf53) := goodIn_app (goodIn_of _ (by decide +kernel)) ggX0_columnOf_J9_floorMod_7cf53
theorem dX0_columnOf_0 : decode cX0_columnOf 0 = .ok (.iload_n 1, 1) := by decide +kernel
theorem dX0_columnOf_1 : decode cX0_columnOf 1 = .ok (.aload_n 0, 1) := by decide +kernel
theorem dX0_columnOf_2 : decode cX0_columnOf 2 = .ok (.getfield 15, 3) := by decide +kernel
theorem dX0_columnOf_5 : decode cX0_columnOf 5 = .ok (.isub, 1) := by decide +kernel
theorem dX0_columnOf_6 : decode cX0_columnOf 6 = .ok (.sipush 720, 3) := by decide +kernel
theorem dX0_columnOf_9 : decode cX0_columnOf 9 = .ok (.invokestatic 40, 3) := by decide +kernel
theorem dX0_columnOf_12 : decode cX0_columnOf 12 = .ok (.aload_n 0, 1) := by decide +kernel
theorem dX0_columnOf_13 : decode cX0_columnOf 13 = .ok (.getfield 18, 3) := by decide +kernel
theorem dX0_columnOf_16 : decode cX0_columnOf 16 = .ok (.idiv, 1) := by decide +kernel
theorem dX0_columnOf_17 : decode cX0_columnOf 17 = .ok (.istore_n 2, 1) := by decide +kernel
theorem dX0_columnOf_18 : decode cX0_columnOf 18 = .ok (.aload_n 0, 1) := by decide +kernel
theorem dX0_columnOf_19 : decode cX0_columnOf 19 = .ok (.getfield 21, 3) := by decide +kernel
theorem dX0_columnOf_22 : decode cX0_columnOf 22 = .ok (.iconst 1, 1) := by decide +kernel
theorem dX0_columnOf_23 : decode cX0_columnOf 23 = .ok (.if_icmp .ne 14, 3) := by decide +kernel
theorem dX0_columnOf_26 : decode cX0_columnOf 26 = .ok (.aload_n 0, 1) := by decide +kernel
theorem dX0_columnOf_27 : decode cX0_columnOf 27 = .ok (.getfield 9, 3) := by decide +kernel
theorem dX0_columnOf_30 : decode cX0_columnOf 30 = .ok (.iconst 1, 1) := by decide +kernel
theorem dX0_columnOf_31 : decode cX0_columnOf 31 = .ok (.isub, 1) := by decide +kernel
theorem dX0_columnOf_32 : decode cX0_columnOf 32 = .ok (.iload_n 2, 1) := by decide +kernel
theorem dX0_columnOf_33 : decode cX0_columnOf 33 = .ok (.isub, 1) := by decide +kernel
theorem dX0_columnOf_34 : decode cX0_columnOf 34 = .ok (.goto 4, 3) := by decide +kernel
theorem dX0_columnOf_37 : decode cX0_columnOf 37 = .ok (.iload_n 2, 1) := by decide +kernel
theorem dX0_columnOf_38 : decode cX0_columnOf 38 = .ok (.ireturn, 1) := by decide +kernel
set_option maxRecDepth 20000 in
theorem ggX0_wantedAt_X0_covers : GoodIn wsX0_wantedAt wsX0_covers := goodIn_r _ [7, 8, 9, 10, 11, 12, 13, 14, 15, 6, 16, 17, 18, 19, 20, 21, 22, 27, 28, 29, 30, 31] (by decide +kernel) (by decide +kernel)
set_option maxRecDepth 20000 in
theorem gX0_wantedAt_X0_covers : GoodIn wsX0_wantedAt (wsV RX0 47 RX0 yX0_covers wsX0_covers) := goodIn_app (goodIn_of _ (by decide +kernel)) ggX0_wantedAt_X0_covers
set_option maxRecDepth 20000 in
theorem ggX0_wantedAt_X0_columnOf : GoodIn wsX0_wantedAt wsX0_columnOf := goodIn_r _ [26, 8, 18, 1, 17, 9, 10, 11, 12, 27, 28, 29, 30, 31] (by decide +kernel) (by decide +kernel)
set_option maxRecDepth 20000 in
theorem gX0_wantedAt_X0_columnOf : GoodIn wsX0_wantedAt (wsV RX0 51 RX0 yX0_columnOf wsX0_columnOf) := goodIn_app (goodIn_of _ (by decide +kernel)) ggX0_wantedAt_X0_columnOf
theorem dX0_wantedAt_0 : decode cX0_wantedAt 0 = .ok (.aload_n 0, 1) := by decide +kernel
theorem dX0_wantedAt_1 : decode cX0_wantedAt 1 = .ok (.getfield 21, 3) := by decide +kernel
theorem dX0_wantedAt_4 : decode cX0_wantedAt 4 = .ok (.iconst 2, 1) := by decide +kernel
theorem dX0_wantedAt_5 : decode cX0_wantedAt 5 = .ok (.if_icmp .eq 24, 3) := by decide +kernel
theorem dX0_wantedAt_8 : decode cX0_wantedAt 8 = .ok (.aload_n 0, 1) := by decide +kernel
theorem dX0_wantedAt_9 : decode cX0_wantedAt 9 = .ok (.iload_n 1, 1) := by decide +kernel
theorem dX0_wantedAt_10 : decode cX0_wantedAt 10 = .ok (.invokevirtual 47, 3) := by decide +kernel
theorem dX0_wantedAt_13 : decode cX0_wantedAt 13 = .ok (.ifCond .eq 16, 3) := by decide +kernel
theorem dX0_wantedAt_16 : decode cX0_wantedAt 16 = .ok (.aload_n 0, 1) := by decide +kernel
theorem dX0_wantedAt_17 : decode cX0_wantedAt 17 = .ok (.getfield 24, 3) := by decide +kernel
theorem dX0_wantedAt_20 : decode cX0_wantedAt 20 = .ok (.aload_n 0, 1) := by decide +kernel
theorem dX0_wantedAt_21 : decode cX0_wantedAt 21 = .ok (.iload_n 1, 1) := by decide +kernel
theorem dX0_wantedAt_22 : decode cX0_wantedAt 22 = .ok (.invokevirtual 51, 3) := by decide +kernel
theorem dX0_wantedAt_25 : decode cX0_wantedAt 25 = .ok (.laload, 1) := by decide +kernel
theorem dX0_wantedAt_26 : decode cX0_wantedAt 26 = .ok (.goto 4, 3) := by decide +kernel
theorem dX0_wantedAt_29 : decode cX0_wantedAt 29 = .ok (.lconst 0, 1) := by decide +kernel
theorem dX0_wantedAt_30 : decode cX0_wantedAt 30 = .ok (.lreturn, 1) := by decide +kernel
set_option maxRecDepth 20000 in
theorem ggX0_countNotDark_X4_notDark : GoodIn wsX0_countNotDark wsX4_notDark := goodIn_r _ [5, 6] (by decide +kernel) (by decide +kernel)
set_option maxRecDepth 20000 in
theorem gX0_countNotDark_X4_notDark_n55 : GoodIn wsX0_countNotDark (wsX4_notDark) := ggX0_countNotDark_X4_notDark
set_option maxRecDepth 20000 in
theorem ggX0_countNotDark_J13_bitCount_95d88 : GoodIn wsX0_countNotDark wsJ13_bitCount_95d88 := goodIn_r _ [10, 11, 12, 13] (by decide +kernel) (by decide +kernel)
set_option maxRecDepth 20000 in
theorem gX0_countNotDark_J13_bitCount_95d88 : GoodIn wsX0_countNotDark (va_wsS RX0 59 yJ13_bitCount_95d88 wsJ13_bitCount_95d88) := goodIn_app (goodIn_of _ (by decide +kernel)) ggX0_countNotDark_J13_bitCount_95d88
theorem dX0_countNotDark_0 : decode cX0_countNotDark 0 = .ok (.iconst 0, 1) := by decide +kernel
theorem dX0_countNotDark_1 : decode cX0_countNotDark 1 = .ok (.istore_n 1, 1) := by decide +kernel
theorem dX0_countNotDark_2 : decode cX0_countNotDark 2 = .ok (.iconst 0, 1) := by decide +kernel
theorem dX0_countNotDark_3 : decode cX0_countNotDark 3 = .ok (.istore_n 2, 1) := by decide +kernel
theorem dX0_countNotDark_4 : decode cX0_countNotDark 4 = .ok (.iload_n 2, 1) := by decide +kernel
theorem dX0_countNotDark_5 : decode cX0_countNotDark 5 = .ok (.aload_n 0, 1) := by decide +kernel
theorem dX0_countNotDark_6 : decode cX0_countNotDark 6 = .ok (.getfield 9, 3) := by decide +kernel
theorem dX0_countNotDark_9 : decode cX0_countNotDark 9 = .ok (.if_icmp .ge 24, 3) := by decide +kernel
theorem dX0_countNotDark_12 : decode cX0_countNotDark 12 = .ok (.iload_n 1, 1) := by decide +kernel
theorem dX0_countNotDark_13 : decode cX0_countNotDark 13 = .ok (.aload_n 0, 1) := by decide +kernel
theorem dX0_countNotDark_14 : decode cX0_countNotDark 14 = .ok (.getfield 24, 3) := by decide +kernel
theorem dX0_countNotDark_17 : decode cX0_countNotDark 17 = .ok (.iload_n 2, 1) := by decide +kernel
theorem dX0_countNotDark_18 : decode cX0_countNotDark 18 = .ok (.laload, 1) := by decide +kernel
theorem dX0_countNotDark_19 : decode cX0_countNotDark 19 = .ok (.invokestatic 55, 3) := by decide +kernel
theorem dX0_countNotDark_22 : decode cX0_countNotDark 22 = .ok (.invokestatic 59, 3) := by decide +kernel
theorem dX0_countNotDark_25 : decode cX0_countNotDark 25 = .ok (.iadd, 1) := by decide +kernel
theorem dX0_countNotDark_26 : decode cX0_countNotDark 26 = .ok (.istore_n 1, 1) := by decide +kernel
theorem dX0_countNotDark_27 : decode cX0_countNotDark 27 = .ok (.iinc 2 1, 3) := by decide +kernel
theorem dX0_countNotDark_30 : decode cX0_countNotDark 30 = .ok (.goto (-26), 3) := by decide +kernel
theorem dX0_countNotDark_33 : decode cX0_countNotDark 33 = .ok (.iload_n 1, 1) := by decide +kernel
theorem dX0_countNotDark_34 : decode cX0_countNotDark 34 = .ok (.ireturn, 1) := by decide +kernel
theorem dX1_init_0 : decode cX1_init 0 = .ok (.aload_n 0, 1) := by decide +kernel
theorem dX1_init_1 : decode cX1_init 1 = .ok (.invokespecial 3, 3) := by decide +kernel
theorem dX1_init_4 : decode cX1_init 4 = .ok (.aload_n 0, 1) := by decide +kernel
theorem dX1_init_5 : decode cX1_init 5 = .ok (.bipush 40, 2) := by decide +kernel
theorem dX1_init_7 : decode cX1_init 7 = .ok (.newarray .long, 2) := by decide +kernel
theorem dX1_init_9 : decode cX1_init 9 = .ok (.putfield 9, 3) := by decide +kernel
theorem dX1_init_12 : decode cX1_init 12 = .ok (.return_, 1) := by decide +kernel
set_option maxRecDepth 20000 in
theorem ggX1_read_X1_take : GoodIn wsX1_read wsX1_take := goodIn_r _ [9, 2, 10, 11, 12, 13, 14, 8, 15, 3, 16, 17, 18, 19, 20, 21, 22, 23, 4, 1, 24, 25, 26, 27, 28, 29, 30, 31, 32, 33, 34, 35, 36, 37, 38, 39, 40, 41, 42] (by decide +kernel) (by decide +kernel)
set_option maxRecDepth 20000 in
theorem gX1_read_X1_take : GoodIn wsX1_read (wsV RX1 25 RX1 yX1_take wsX1_take) := goodIn_app (goodIn_of _ (by decide +kernel)) ggX1_read_X1_take
theorem dX1_read_0 : decode cX1_read 0 = .ok (.aload_n 0, 1) := by decide +kernel
theorem dX1_read_1 : decode cX1_read 1 = .ok (.iconst 1, 1) := by decide +kernel
theorem dX1_read_2 : decode cX1_read 2 = .ok (.putfield 15, 3) := by decide +kernel
theorem dX1_read_5 : decode cX1_read 5 = .ok (.aload_n 0, 1) := by decide +kernel
theorem dX1_read_6 : decode cX1_read 6 = .ok (.iconst 0, 1) := by decide +kernel
theorem dX1_read_7 : decode cX1_read 7 = .ok (.putfield 19, 3) := by decide +kernel
theorem dX1_read_10 : decode cX1_read 10 = .ok (.aload_n 0, 1) := by decide +kernel
theorem dX1_read_11 : decode cX1_read 11 = .ok (.iconst 0, 1) := by decide +kernel
theorem dX1_read_12 : decode cX1_read 12 = .ok (.putfield 22, 3) := by decide +kernel
theorem dX1_read_15 : decode cX1_read 15 = .ok (.iconst 0, 1) := by decide +kernel
theorem dX1_read_16 : decode cX1_read 16 = .ok (.istore_n 3, 1) := by decide +kernel
theorem dX1_read_17 : decode cX1_read 17 = .ok (.iload_n 3, 1) := by decide +kernel
theorem dX1_read_18 : decode cX1_read 18 = .ok (.bipush 40, 2) := by decide +kernel
theorem dX1_read_20 : decode cX1_read 20 = .ok (.if_icmp .ge 16, 3) := by decide +kernel
theorem dX1_read_23 : decode cX1_read 23 = .ok (.aload_n 0, 1) := by decide +kernel
theorem dX1_read_24 : decode cX1_read 24 = .ok (.getfield 9, 3) := by decide +kernel
theorem dX1_read_27 : decode cX1_read 27 = .ok (.iload_n 3, 1) := by decide +kernel
theorem dX1_read_28 : decode cX1_read 28 = .ok (.lconst 0, 1) := by decide +kernel
theorem dX1_read_29 : decode cX1_read 29 = .ok (.lastore, 1) := by decide +kernel
theorem dX1_read_30 : decode cX1_read 30 = .ok (.iinc 3 1, 3) := by decide +kernel
theorem dX1_read_33 : decode cX1_read 33 = .ok (.goto (-16), 3) := by decide +kernel
theorem dX1_read_36 : decode cX1_read 36 = .ok (.iconst 0, 1) := by decide +kernel
theorem dX1_read_37 : decode cX1_read 37 = .ok (.istore_n 3, 1) := by decide +kernel
theorem dX1_read_38 : decode cX1_read 38 = .ok (.iload_n 3, 1) := by decide +kernel
theorem dX1_read_39 : decode cX1_read 39 = .ok (.iload_n 2, 1) := by decide +kernel
theorem dX1_read_40 : decode cX1_read 40 = .ok (.if_icmp .ge 33, 3) := by decide +kernel
theorem dX1_read_43 : decode cX1_read 43 = .ok (.iload_n 3, 1) := by decide +kernel
theorem dX1_read_44 : decode cX1_read 44 = .ok (.aload_n 1, 1) := by decide +kernel
theorem dX1_read_45 : decode cX1_read 45 = .ok (.arraylength, 1) := by decide +kernel
theorem dX1_read_46 : decode cX1_read 46 = .ok (.if_icmp .ge 27, 3) := by decide +kernel
theorem dX1_read_49 : decode cX1_read 49 = .ok (.aload_n 0, 1) := by decide +kernel
theorem dX1_read_50 : decode cX1_read 50 = .ok (.aload_n 1, 1) := by decide +kernel
theorem dX1_read_51 : decode cX1_read 51 = .ok (.iload_n 3, 1) := by decide +kernel
theorem dX1_read_52 : decode cX1_read 52 = .ok (.caload, 1) := by decide +kernel
theorem dX1_read_53 : decode cX1_read 53 = .ok (.iload_n 3, 1) := by decide +kernel
theorem dX1_read_54 : decode cX1_read 54 = .ok (.invokevirtual 25, 3) := by decide +kernel
theorem dX1_read_57 : decode cX1_read 57 = .ok (.istore 4, 2) := by decide +kernel
theorem dX1_read_59 : decode cX1_read 59 = .ok (.iload 4, 2) := by decide +kernel
theorem dX1_read_61 : decode cX1_read 61 = .ok (.ifCond .lt 6, 3) := by decide +kernel
theorem dX1_read_64 : decode cX1_read 64 = .ok (.iload 4, 2) := by decide +kernel
theorem dX1_read_66 : decode cX1_read 66 = .ok (.ireturn, 1) := by decide +kernel
theorem dX1_read_67 : decode cX1_read 67 = .ok (.iinc 3 1, 3) := by decide +kernel
theorem dX1_read_70 : decode cX1_read 70 = .ok (.goto (-32), 3) := by decide +kernel
theorem dX1_read_73 : decode cX1_read 73 = .ok (.aload_n 0, 1) := by decide +kernel
theorem dX1_read_74 : decode cX1_read 74 = .ok (.getfield 19, 3) := by decide +kernel
theorem dX1_read_77 : decode cX1_read 77 = .ok (.ifCond .ne 7, 3) := by decide +kernel
theorem dX1_read_80 : decode cX1_read 80 = .ok (.iconst (-1), 1) := by decide +kernel
theorem dX1_read_81 : decode cX1_read 81 = .ok (.goto 4, 3) := by decide +kernel
theorem dX1_read_84 : decode cX1_read 84 = .ok (.iload_n 2, 1) := by decide +kernel
theorem dX1_read_85 : decode cX1_read 85 = .ok (.ireturn, 1) := by decide +kernel
set_option maxRecDepth 20000 in
theorem ggX1_take_X1_takeDigit : GoodIn wsX1_take wsX1_takeDigit := goodIn_r _ [8, 3, 9, 2, 1, 33, 34, 35, 36, 37, 38] (by decide +kernel) (by decide +kernel)
set_option maxRecDepth 20000 in
theorem gX1_take_X1_takeDigit : GoodIn wsX1_take (wsV RX1 35 RX1 yX1_takeDigit wsX1_takeDigit) := goodIn_app (goodIn_of _ (by decide +kernel)) ggX1_take_X1_takeDigit
set_option maxRecDepth 20000 in
theorem ggX1_take_X1_takeBracket : GoodIn wsX1_take wsX1_takeBracket := goodIn_r _ [13, 1, 33, 34, 35, 36, 37, 38] (by decide +kernel) (by decide +kernel)
set_option maxRecDepth 20000 in
theorem gX1_take_X1_takeBracket : GoodIn wsX1_take (wsV RX1 38 RX1 yX1_takeBracket wsX1_takeBracket) := goodIn_app (goodIn_of _ (by decide +kernel)) ggX1_take_X1_takeBracket
set_option maxRecDepth 20000 in
theorem ggX1_take_X1_takeColor : GoodIn wsX1_take wsX1_takeColor := goodIn_r _ [17, 9, 18, 19, 1, 20, 21, 22, 23, 24, 33, 34, 35, 36, 37, 38] (by decide +kernel) (by decide +kernel)
set_option maxRecDepth 20000 in
theorem gX1_take_X1_takeColor : GoodIn wsX1_take (wsV RX1 41 RX1 yX1_takeColor wsX1_takeColor) := goodIn_app (goodIn_of _ (by decide +kernel)) ggX1_take_X1_takeColor
set_option maxRecDepth 20000 in
theorem ggX1_take_X1_takePart : GoodIn wsX1_take wsX1_takePart := goodIn_r _ [28, 1, 29, 30, 31, 7, 32, 19, 9, 14, 15, 16, 17, 18, 20, 21, 22, 23, 24, 33, 34, 35, 36, 37, 38] (by decide +kernel) (by decide +kernel)
set_option maxRecDepth 20000 in
theorem gX1_take_X1_takePart : GoodIn wsX1_take (wsV RX1 45 RX1 yX1_takePart wsX1_takePart) := goodIn_app (goodIn_of _ (by decide +kernel)) ggX1_take_X1_takePart
theorem dX1_take_0 : decode cX1_take 0 = .ok (.iload_n 1, 1) := by decide +kernel
theorem dX1_take_1 : decode cX1_take 1 = .ok (.bipush 32, 2) := by decide +kernel
theorem dX1_take_3 : decode cX1_take 3 = .ok (.if_icmp .ne 18, 3) := by decide +kernel
theorem dX1_take_6 : decode cX1_take 6 = .ok (.aload_n 0, 1) := by decide +kernel
theorem dX1_take_7 : decode cX1_take 7 = .ok (.getfield 19, 3) := by decide +kernel
theorem dX1_take_10 : decode cX1_take 10 = .ok (.iconst 2, 1) := by decide +kernel
theorem dX1_take_11 : decode cX1_take 11 = .ok (.if_icmp .ne 8, 3) := by decide +kernel
theorem dX1_take_14 : decode cX1_take 14 = .ok (.aload_n 0, 1) := by decide +kernel
theorem dX1_take_15 : decode cX1_take 15 = .ok (.iconst 3, 1) := by decide +kernel
theorem dX1_take_16 : decode cX1_take 16 = .ok (.putfield 19, 3) := by decide +kernel
theorem dX1_take_19 : decode cX1_take 19 = .ok (.iconst (-1), 1) := by decide +kernel
theorem dX1_take_20 : decode cX1_take 20 = .ok (.ireturn, 1) := by decide +kernel
theorem dX1_take_21 : decode cX1_take 21 = .ok (.aload_n 0, 1) := by decide +kernel
theorem dX1_take_22 : decode cX1_take 22 = .ok (.getfield 19, 3) := by decide +kernel
theorem dX1_take_25 : decode cX1_take 25 = .ok (.tableswitch 88 1 4 #[31, 48, 70, 77], 31) := by decide +kernel
theorem dX1_take_56 : decode cX1_take 56 = .ok (.aload_n 0, 1) := by decide +kernel
theorem dX1_take_57 : decode cX1_take 57 = .ok (.iload_n 2, 1) := by decide +kernel
theorem dX1_take_58 : decode cX1_take 58 = .ok (.putfield 29, 3) := by decide +kernel
theorem dX1_take_61 : decode cX1_take 61 = .ok (.aload_n 0, 1) := by decide +kernel
theorem dX1_take_62 : decode cX1_take 62 = .ok (.iconst 0, 1) := by decide +kernel
theorem dX1_take_63 : decode cX1_take 63 = .ok (.putfield 32, 3) := by decide +kernel
theorem dX1_take_66 : decode cX1_take 66 = .ok (.aload_n 0, 1) := by decide +kernel
theorem dX1_take_67 : decode cX1_take 67 = .ok (.iload_n 1, 1) := by decide +kernel
theorem dX1_take_68 : decode cX1_take 68 = .ok (.iload_n 2, 1) := by decide +kernel
theorem dX1_take_69 : decode cX1_take 69 = .ok (.invokevirtual 35, 3) := by decide +kernel
theorem dX1_take_72 : decode cX1_take 72 = .ok (.ireturn, 1) := by decide +kernel
theorem dX1_take_73 : decode cX1_take 73 = .ok (.iload_n 1, 1) := by decide +kernel
theorem dX1_take_74 : decode cX1_take 74 = .ok (.bipush 41, 2) := by decide +kernel
theorem dX1_take_76 : decode cX1_take 76 = .ok (.if_icmp .ne 12, 3) := by decide +kernel
theorem dX1_take_79 : decode cX1_take 79 = .ok (.aload_n 0, 1) := by decide +kernel
theorem dX1_take_80 : decode cX1_take 80 = .ok (.iload_n 1, 1) := by decide +kernel
theorem dX1_take_81 : decode cX1_take 81 = .ok (.iload_n 2, 1) := by decide +kernel
theorem dX1_take_82 : decode cX1_take 82 = .ok (.invokevirtual 38, 3) := by decide +kernel
theorem dX1_take_85 : decode cX1_take 85 = .ok (.goto 9, 3) := by decide +kernel
theorem dX1_take_88 : decode cX1_take 88 = .ok (.aload_n 0, 1) := by decide +kernel
theorem dX1_take_89 : decode cX1_take 89 = .ok (.iload_n 1, 1) := by decide +kernel
theorem dX1_take_90 : decode cX1_take 90 = .ok (.iload_n 2, 1) := by decide +kernel
theorem dX1_take_91 : decode cX1_take 91 = .ok (.invokevirtual 35, 3) := by decide +kernel
theorem dX1_take_94 : decode cX1_take 94 = .ok (.ireturn, 1) := by decide +kernel
theorem dX1_take_95 : decode cX1_take 95 = .ok (.aload_n 0, 1) := by decide +kernel
theorem dX1_take_96 : decode cX1_take 96 = .ok (.iload_n 1, 1) := by decide +kernel
theorem dX1_take_97 : decode cX1_take 97 = .ok (.iload_n 2, 1) := by decide +kernel
theorem dX1_take_98 : decode cX1_take 98 = .ok (.invokevirtual 38, 3) := by decide +kernel
theorem dX1_take_101 : decode cX1_take 101 = .ok (.ireturn, 1) := by decide +kernel
theorem dX1_take_102 : decode cX1_take 102 = .ok (.aload_n 0, 1) := by decide +kernel
theorem dX1_take_103 : decode cX1_take 103 = .ok (.iload_n 1, 1) := by decide +kernel
theorem dX1_take_104 : decode cX1_take 104 = .ok (.iload_n 2, 1) := by decide +kernel
theorem dX1_take_105 : decode cX1_take 105 = .ok (.aload_n 0, 1) := by decide +kernel
theorem dX1_take_106 : decode cX1_take 106 = .ok (.getfield 32, 3) := by decide +kernel
theorem dX1_take_109 : decode cX1_take 109 = .ok (.invokevirtual 41, 3) := by decide +kernel
theorem dX1_take_112 : decode cX1_take 112 = .ok (.ireturn, 1) := by decide +kernel
theorem dX1_take_113 : decode cX1_take 113 = .ok (.aload_n 0, 1) := by decide +kernel
theorem dX1_take_114 : decode cX1_take 114 = .ok (.iload_n 1, 1) := by decide +kernel
theorem dX1_take_115 : decode cX1_take 115 = .ok (.iload_n 2, 1) := by decide +kernel
theorem dX1_take_116 : decode cX1_take 116 = .ok (.invokevirtual 45, 3) := by decide +kernel
theorem dX1_take_119 : decode cX1_take 119 = .ok (.ireturn, 1) := by decide +kernel
set_option maxRecDepth 20000 in
theorem ggX1_takePart_X1_takeSemicolon : GoodIn wsX1_takePart wsX1_takeSemicolon := goodIn_r _ [6, 7, 8, 19, 20, 21, 22, 23, 24] (by decide +kernel) (by decide +kernel)
set_option maxRecDepth 20000 in
theorem gX1_takePart_X1_takeSemicolon : GoodIn wsX1_takePart (wsV RX1 48 RX1 yX1_takeSemicolon wsX1_takeSemicolon) := goodIn_app (goodIn_of _ (by decide +kernel)) ggX1_takePart_X1_takeSemicolon
set_option maxRecDepth 20000 in
theorem ggX1_takePart_X1_takeColor : GoodIn wsX1_takePart wsX1_takeColor := goodIn_r _ [12, 8, 13, 7, 1, 14, 15, 16, 17, 18, 19, 20, 21, 22, 23, 24] (by decide +kernel) (by decide +kernel)
set_option maxRecDepth 20000 in
theorem gX1_takePart_X1_takeColor : GoodIn wsX1_takePart (wsV RX1 41 RX1 yX1_takeColor wsX1_takeColor) := goodIn_app (goodIn_of _ (by decide +kernel)) ggX1_takePart_X1_takeColor
theorem dX1_takePart_0 : decode cX1_takePart 0 = .ok (.iload_n 1, 1) := by decide +kernel
theorem dX1_takePart_1 : decode cX1_takePart 1 = .ok (.bipush 59, 2) := by decide +kernel
theorem dX1_takePart_3 : decode cX1_takePart 3 = .ok (.if_icmp .ne 9, 3) := by decide +kernel
theorem dX1_takePart_6 : decode cX1_takePart 6 = .ok (.aload_n 0, 1) := by decide +kernel
theorem dX1_takePart_7 : decode cX1_takePart 7 = .ok (.iload_n 2, 1) := by decide +kernel
theorem dX1_takePart_8 : decode cX1_takePart 8 = .ok (.invokevirtual 48, 3) := by decide +kernel
theorem dX1_takePart_11 : decode cX1_takePart 11 = .ok (.ireturn, 1) := by decide +kernel
theorem dX1_takePart_12 : decode cX1_takePart 12 = .ok (.iload_n 1, 1) := by decide +kernel
theorem dX1_takePart_13 : decode cX1_takePart 13 = .ok (.bipush 40, 2) := by decide +kernel
theorem dX1_takePart_15 : decode cX1_takePart 15 = .ok (.if_icmp .ne 10, 3) := by decide +kernel
theorem dX1_takePart_18 : decode cX1_takePart 18 = .ok (.aload_n 0, 1) := by decide +kernel
theorem dX1_takePart_19 : decode cX1_takePart 19 = .ok (.iconst 1, 1) := by decide +kernel
theorem dX1_takePart_20 : decode cX1_takePart 20 = .ok (.putfield 19, 3) := by decide +kernel
theorem dX1_takePart_23 : decode cX1_takePart 23 = .ok (.iconst (-1), 1) := by decide +kernel
theorem dX1_takePart_24 : decode cX1_takePart 24 = .ok (.ireturn, 1) := by decide +kernel
theorem dX1_takePart_25 : decode cX1_takePart 25 = .ok (.aload_n 0, 1) := by decide +kernel
theorem dX1_takePart_26 : decode cX1_takePart 26 = .ok (.iload_n 1, 1) := by decide +kernel
theorem dX1_takePart_27 : decode cX1_takePart 27 = .ok (.iload_n 2, 1) := by decide +kernel
theorem dX1_takePart_28 : decode cX1_takePart 28 = .ok (.iconst 1, 1) := by decide +kernel
theorem dX1_takePart_29 : decode cX1_takePart 29 = .ok (.invokevirtual 41, 3) := by decide +kernel
theorem dX1_takePart_32 : decode cX1_takePart 32 = .ok (.ireturn, 1) := by decide +kernel
theorem dX1_takeSemicolon_0 : decode cX1_takeSemicolon 0 = .ok (.aload_n 0, 1) := by decide +kernel
theorem dX1_takeSemicolon_1 : decode cX1_takeSemicolon 1 = .ok (.getfield 15, 3) := by decide +kernel
theorem dX1_takeSemicolon_4 : decode cX1_takeSemicolon 4 = .ok (.bipush 40, 2) := by decide +kernel
theorem dX1_takeSemicolon_6 : decode cX1_takeSemicolon 6 = .ok (.if_icmp .lt 5, 3) := by decide +kernel
theorem dX1_takeSemicolon_9 : decode cX1_takeSemicolon 9 = .ok (.iload_n 1, 1) := by decide +kernel
theorem dX1_takeSemicolon_10 : decode cX1_takeSemicolon 10 = .ok (.ireturn, 1) := by decide +kernel
theorem dX1_takeSemicolon_11 : decode cX1_takeSemicolon 11 = .ok (.aload_n 0, 1) := by decide +kernel
theorem dX1_takeSemicolon_12 : decode cX1_takeSemicolon 12 = .ok (.dup, 1) := by decide +kernel
theorem dX1_takeSemicolon_13 : decode cX1_takeSemicolon 13 = .ok (.getfield 15, 3) := by decide +kernel
theorem dX1_takeSemicolon_16 : decode cX1_takeSemicolon 16 = .ok (.iconst 1, 1) := by decide +kernel
theorem dX1_takeSemicolon_17 : decode cX1_takeSemicolon 17 = .ok (.iadd, 1) := by decide +kernel
theorem dX1_takeSemicolon_18 : decode cX1_takeSemicolon 18 = .ok (.putfield 15, 3) := by decide +kernel
theorem dX1_takeSemicolon_21 : decode cX1_takeSemicolon 21 = .ok (.aload_n 0, 1) := by decide +kernel
theorem dX1_takeSemicolon_22 : decode cX1_takeSemicolon 22 = .ok (.iconst 0, 1) := by decide +kernel
theorem dX1_takeSemicolon_23 : decode cX1_takeSemicolon 23 = .ok (.putfield 22, 3) := by decide +kernel
theorem dX1_takeSemicolon_26 : decode cX1_takeSemicolon 26 = .ok (.iconst (-1), 1) := by decide +kernel
theorem dX1_takeSemicolon_27 : decode cX1_takeSemicolon 27 = .ok (.ireturn, 1) := by decide +kernel
theorem dX1_takeDigit_0 : decode cX1_takeDigit 0 = .ok (.iload_n 1, 1) := by decide +kernel
theorem dX1_takeDigit_1 : decode cX1_takeDigit 1 = .ok (.bipush 48, 2) := by decide +kernel
theorem dX1_takeDigit_3 : decode cX1_takeDigit 3 = .ok (.if_icmp .lt 9, 3) := by decide +kernel
theorem dX1_takeDigit_6 : decode cX1_takeDigit 6 = .ok (.iload_n 1, 1) := by decide +kernel
theorem dX1_takeDigit_7 : decode cX1_takeDigit 7 = .ok (.bipush 57, 2) := by decide +kernel
theorem dX1_takeDigit_9 : decode cX1_takeDigit 9 = .ok (.if_icmp .le 5, 3) := by decide +kernel
theorem dX1_takeDigit_12 : decode cX1_takeDigit 12 = .ok (.iload_n 2, 1) := by decide +kernel
theorem dX1_takeDigit_13 : decode cX1_takeDigit 13 = .ok (.ireturn, 1) := by decide +kernel
theorem dX1_takeDigit_14 : decode cX1_takeDigit 14 = .ok (.aload_n 0, 1) := by decide +kernel
theorem dX1_takeDigit_15 : decode cX1_takeDigit 15 = .ok (.aload_n 0, 1) := by decide +kernel
theorem dX1_takeDigit_16 : decode cX1_takeDigit 16 = .ok (.getfield 32, 3) := by decide +kernel
theorem dX1_takeDigit_19 : decode cX1_takeDigit 19 = .ok (.bipush 10, 2) := by decide +kernel
theorem dX1_takeDigit_21 : decode cX1_takeDigit 21 = .ok (.imul, 1) := by decide +kernel
theorem dX1_takeDigit_22 : decode cX1_takeDigit 22 = .ok (.iload_n 1, 1) := by decide +kernel
theorem dX1_takeDigit_23 : decode cX1_takeDigit 23 = .ok (.bipush 48, 2) := by decide +kernel
theorem dX1_takeDigit_25 : decode cX1_takeDigit 25 = .ok (.isub, 1) := by decide +kernel
theorem dX1_takeDigit_26 : decode cX1_takeDigit 26 = .ok (.iadd, 1) := by decide +kernel
theorem dX1_takeDigit_27 : decode cX1_takeDigit 27 = .ok (.putfield 32, 3) := by decide +kernel
theorem dX1_takeDigit_30 : decode cX1_takeDigit 30 = .ok (.aload_n 0, 1) := by decide +kernel
theorem dX1_takeDigit_31 : decode cX1_takeDigit 31 = .ok (.getfield 32, 3) := by decide +kernel
theorem dX1_takeDigit_34 : decode cX1_takeDigit 34 = .ok (.iconst 1, 1) := by decide +kernel
theorem dX1_takeDigit_35 : decode cX1_takeDigit 35 = .ok (.if_icmp .lt 17, 3) := by decide +kernel
theorem dX1_takeDigit_38 : decode cX1_takeDigit 38 = .ok (.aload_n 0, 1) := by decide +kernel
theorem dX1_takeDigit_39 : decode cX1_takeDigit 39 = .ok (.getfield 22, 3) := by decide +kernel
theorem dX1_takeDigit_42 : decode cX1_takeDigit 42 = .ok (.aload_n 0, 1) := by decide +kernel
theorem dX1_takeDigit_43 : decode cX1_takeDigit 43 = .ok (.getfield 32, 3) := by decide +kernel
theorem dX1_takeDigit_46 : decode cX1_takeDigit 46 = .ok (.iadd, 1) := by decide +kernel
theorem dX1_takeDigit_47 : decode cX1_takeDigit 47 = .ok (.bipush 12, 2) := by decide +kernel
theorem dX1_takeDigit_49 : decode cX1_takeDigit 49 = .ok (.if_icmp .le 8, 3) := by decide +kernel
theorem dX1_takeDigit_52 : decode cX1_takeDigit 52 = .ok (.aload_n 0, 1) := by decide +kernel
theorem dX1_takeDigit_53 : decode cX1_takeDigit 53 = .ok (.getfield 29, 3) := by decide +kernel
theorem dX1_takeDigit_56 : decode cX1_takeDigit 56 = .ok (.ireturn, 1) := by decide +kernel
theorem dX1_takeDigit_57 : decode cX1_takeDigit 57 = .ok (.aload_n 0, 1) := by decide +kernel
theorem dX1_takeDigit_58 : decode cX1_takeDigit 58 = .ok (.iconst 2, 1) := by decide +kernel
theorem dX1_takeDigit_59 : decode cX1_takeDigit 59 = .ok (.putfield 19, 3) := by decide +kernel
theorem dX1_takeDigit_62 : decode cX1_takeDigit 62 = .ok (.iconst (-1), 1) := by decide +kernel
theorem dX1_takeDigit_63 : decode cX1_takeDigit 63 = .ok (.ireturn, 1) := by decide +kernel
theorem dX1_takeBracket_0 : decode cX1_takeBracket 0 = .ok (.iload_n 1, 1) := by decide +kernel
theorem dX1_takeBracket_1 : decode cX1_takeBracket 1 = .ok (.bipush 41, 2) := by decide +kernel
theorem dX1_takeBracket_3 : decode cX1_takeBracket 3 = .ok (.if_icmp .eq 5, 3) := by decide +kernel
theorem dX1_takeBracket_6 : decode cX1_takeBracket 6 = .ok (.iload_n 2, 1) := by decide +kernel
theorem dX1_takeBracket_7 : decode cX1_takeBracket 7 = .ok (.ireturn, 1) := by decide +kernel
theorem dX1_takeBracket_8 : decode cX1_takeBracket 8 = .ok (.aload_n 0, 1) := by decide +kernel
theorem dX1_takeBracket_9 : decode cX1_takeBracket 9 = .ok (.iconst 4, 1) := by decide +kernel
theorem dX1_takeBracket_10 : decode cX1_takeBracket 10 = .ok (.putfield 19, 3) := by decide +kernel
theorem dX1_takeBracket_13 : decode cX1_takeBracket 13 = .ok (.iconst (-1), 1) := by decide +kernel
theorem dX1_takeBracket_14 : decode cX1_takeBracket 14 = .ok (.ireturn, 1) := by decide +kernel
set_option maxRecDepth 20000 in
theorem ggX1_takeColor_X4_withColor : GoodIn wsX1_takeColor wsX4_withColor := goodIn_r _ [7, 8, 9] (by decide +kernel) (by decide +kernel)
set_option maxRecDepth 20000 in
theorem gX1_takeColor_X4_withColor_n52 : GoodIn wsX1_takeColor (wsX4_withColor) := ggX1_takeColor_X4_withColor
theorem dX1_takeColor_0 : decode cX1_takeColor 0 = .ok (.iload_n 1, 1) := by decide +kernel
theorem dX1_takeColor_1 : decode cX1_takeColor 1 = .ok (.bipush 48, 2) := by decide +kernel
theorem dX1_takeColor_3 : decode cX1_takeColor 3 = .ok (.if_icmp .lt 20, 3) := by decide +kernel
theorem dX1_takeColor_6 : decode cX1_takeColor 6 = .ok (.iload_n 1, 1) := by decide +kernel
theorem dX1_takeColor_7 : decode cX1_takeColor 7 = .ok (.bipush 55, 2) := by decide +kernel
theorem dX1_takeColor_9 : decode cX1_takeColor 9 = .ok (.if_icmp .gt 14, 3) := by decide +kernel
theorem dX1_takeColor_12 : decode cX1_takeColor 12 = .ok (.aload_n 0, 1) := by decide +kernel
theorem dX1_takeColor_13 : decode cX1_takeColor 13 = .ok (.getfield 22, 3) := by decide +kernel
theorem dX1_takeColor_16 : decode cX1_takeColor 16 = .ok (.iload_n 3, 1) := by decide +kernel
theorem dX1_takeColor_17 : decode cX1_takeColor 17 = .ok (.iadd, 1) := by decide +kernel
theorem dX1_takeColor_18 : decode cX1_takeColor 18 = .ok (.bipush 12, 2) := by decide +kernel
theorem dX1_takeColor_20 : decode cX1_takeColor 20 = .ok (.if_icmp .le 5, 3) := by decide +kernel
theorem dX1_takeColor_23 : decode cX1_takeColor 23 = .ok (.iload_n 2, 1) := by decide +kernel
theorem dX1_takeColor_24 : decode cX1_takeColor 24 = .ok (.ireturn, 1) := by decide +kernel
theorem dX1_takeColor_25 : decode cX1_takeColor 25 = .ok (.iload_n 1, 1) := by decide +kernel
theorem dX1_takeColor_26 : decode cX1_takeColor 26 = .ok (.bipush 48, 2) := by decide +kernel
theorem dX1_takeColor_28 : decode cX1_takeColor 28 = .ok (.isub, 1) := by decide +kernel
theorem dX1_takeColor_29 : decode cX1_takeColor 29 = .ok (.istore 4, 2) := by decide +kernel
theorem dX1_takeColor_31 : decode cX1_takeColor 31 = .ok (.iconst 0, 1) := by decide +kernel
theorem dX1_takeColor_32 : decode cX1_takeColor 32 = .ok (.istore 5, 2) := by decide +kernel
theorem dX1_takeColor_34 : decode cX1_takeColor 34 = .ok (.iload 5, 2) := by decide +kernel
theorem dX1_takeColor_36 : decode cX1_takeColor 36 = .ok (.iload_n 3, 1) := by decide +kernel
theorem dX1_takeColor_37 : decode cX1_takeColor 37 = .ok (.if_icmp .ge 50, 3) := by decide +kernel
theorem dX1_takeColor_40 : decode cX1_takeColor 40 = .ok (.aload_n 0, 1) := by decide +kernel
theorem dX1_takeColor_41 : decode cX1_takeColor 41 = .ok (.getfield 9, 3) := by decide +kernel
theorem dX1_takeColor_44 : decode cX1_takeColor 44 = .ok (.aload_n 0, 1) := by decide +kernel
theorem dX1_takeColor_45 : decode cX1_takeColor 45 = .ok (.getfield 15, 3) := by decide +kernel
theorem dX1_takeColor_48 : decode cX1_takeColor 48 = .ok (.iconst 1, 1) := by decide +kernel
theorem dX1_takeColor_49 : decode cX1_takeColor 49 = .ok (.isub, 1) := by decide +kernel
theorem dX1_takeColor_50 : decode cX1_takeColor 50 = .ok (.aload_n 0, 1) := by decide +kernel
theorem dX1_takeColor_51 : decode cX1_takeColor 51 = .ok (.getfield 9, 3) := by decide +kernel
theorem dX1_takeColor_54 : decode cX1_takeColor 54 = .ok (.aload_n 0, 1) := by decide +kernel
theorem dX1_takeColor_55 : decode cX1_takeColor 55 = .ok (.getfield 15, 3) := by decide +kernel
theorem dX1_takeColor_58 : decode cX1_takeColor 58 = .ok (.iconst 1, 1) := by decide +kernel
theorem dX1_takeColor_59 : decode cX1_takeColor 59 = .ok (.isub, 1) := by decide +kernel
theorem dX1_takeColor_60 : decode cX1_takeColor 60 = .ok (.laload, 1) := by decide +kernel
theorem dX1_takeColor_61 : decode cX1_takeColor 61 = .ok (.aload_n 0, 1) := by decide +kernel
theorem dX1_takeColor_62 : decode cX1_takeColor 62 = .ok (.getfield 22, 3) := by decide +kernel
theorem dX1_takeColor_65 : decode cX1_takeColor 65 = .ok (.iload 4, 2) := by decide +kernel
theorem dX1_takeColor_67 : decode cX1_takeColor 67 = .ok (.invokestatic 52, 3) := by decide +kernel
theorem dX1_takeColor_70 : decode cX1_takeColor 70 = .ok (.lastore, 1) := by decide +kernel
theorem dX1_takeColor_71 : decode cX1_takeColor 71 = .ok (.aload_n 0, 1) := by decide +kernel
theorem dX1_takeColor_72 : decode cX1_takeColor 72 = .ok (.dup, 1) := by decide +kernel
theorem dX1_takeColor_73 : decode cX1_takeColor 73 = .ok (.getfield 22, 3) := by decide +kernel
theorem dX1_takeColor_76 : decode cX1_takeColor 76 = .ok (.iconst 1, 1) := by decide +kernel
theorem dX1_takeColor_77 : decode cX1_takeColor 77 = .ok (.iadd, 1) := by decide +kernel
theorem dX1_takeColor_78 : decode cX1_takeColor 78 = .ok (.putfield 22, 3) := by decide +kernel
theorem dX1_takeColor_81 : decode cX1_takeColor 81 = .ok (.iinc 5 1, 3) := by decide +kernel
theorem dX1_takeColor_84 : decode cX1_takeColor 84 = .ok (.goto (-50), 3) := by decide +kernel
theorem dX1_takeColor_87 : decode cX1_takeColor 87 = .ok (.aload_n 0, 1) := by decide +kernel
theorem dX1_takeColor_88 : decode cX1_takeColor 88 = .ok (.iconst 0, 1) := by decide +kernel
theorem dX1_takeColor_89 : decode cX1_takeColor 89 = .ok (.putfield 19, 3) := by decide +kernel
theorem dX1_takeColor_92 : decode cX1_takeColor 92 = .ok (.iconst (-1), 1) := by decide +kernel
theorem dX1_takeColor_93 : decode cX1_takeColor 93 = .ok (.ireturn, 1) := by decide +kernel
set_option maxRecDepth 20000 in
theorem ggX2_init_X0_init : GoodIn wsX2_init wsX0_init := goodIn_r _ [22, 23, 2, 3, 24, 25, 26, 27, 14, 28, 40, 41, 42, 43, 44] (by decide +kernel) (by decide +kernel)
set_option maxRecDepth 20000 in
theorem gX2_init_X0_init_n52 : GoodIn wsX2_init (wsX0_init) := ggX2_init_X0_init
theorem dX2_init_0 : decode cX2_init 0 = .ok (.aload_n 0, 1) := by decide +kernel
theorem dX2_init_1 : decode cX2_init 1 = .ok (.invokespecial 3, 3) := by decide +kernel
theorem dX2_init_4 : decode cX2_init 4 = .ok (.aload_n 0, 1) := by decide +kernel
theorem dX2_init_5 : decode cX2_init 5 = .ok (.iconst 0, 1) := by decide +kernel
theorem dX2_init_6 : decode cX2_init 6 = .ok (.putfield 9, 3) := by decide +kernel
theorem dX2_init_9 : decode cX2_init 9 = .ok (.aload_n 0, 1) := by decide +kernel
theorem dX2_init_10 : decode cX2_init 10 = .ok (.iconst 4, 1) := by decide +kernel
theorem dX2_init_11 : decode cX2_init 11 = .ok (.anewarray 15, 3) := by decide +kernel
theorem dX2_init_14 : decode cX2_init 14 = .ok (.putfield 17, 3) := by decide +kernel
theorem dX2_init_17 : decode cX2_init 17 = .ok (.aload_n 0, 1) := by decide +kernel
theorem dX2_init_18 : decode cX2_init 18 = .ok (.iconst 0, 1) := by decide +kernel
theorem dX2_init_19 : decode cX2_init 19 = .ok (.putfield 21, 3) := by decide +kernel
theorem dX2_init_22 : decode cX2_init 22 = .ok (.aload_n 0, 1) := by decide +kernel
theorem dX2_init_23 : decode cX2_init 23 = .ok (.bipush 10, 2) := by decide +kernel
theorem dX2_init_25 : decode cX2_init 25 = .ok (.putfield 24, 3) := by decide +kernel
theorem dX2_init_28 : decode cX2_init 28 = .ok (.aload_n 0, 1) := by decide +kernel
theorem dX2_init_29 : decode cX2_init 29 = .ok (.iconst 0, 1) := by decide +kernel
theorem dX2_init_30 : decode cX2_init 30 = .ok (.putfield 27, 3) := by decide +kernel
theorem dX2_init_33 : decode cX2_init 33 = .ok (.aload_n 0, 1) := by decide +kernel
theorem dX2_init_34 : decode cX2_init 34 = .ok (.iconst 0, 1) := by decide +kernel
theorem dX2_init_35 : decode cX2_init 35 = .ok (.putfield 30, 3) := by decide +kernel
theorem dX2_init_38 : decode cX2_init 38 = .ok (.aload_n 0, 1) := by decide +kernel
theorem dX2_init_39 : decode cX2_init 39 = .ok (.iconst 0, 1) := by decide +kernel
theorem dX2_init_40 : decode cX2_init 40 = .ok (.putfield 33, 3) := by decide +kernel
theorem dX2_init_43 : decode cX2_init 43 = .ok (.aload_n 0, 1) := by decide +kernel
theorem dX2_init_44 : decode cX2_init 44 = .ok (.iconst 4, 1) := by decide +kernel
theorem dX2_init_45 : decode cX2_init 45 = .ok (.newarray .int, 2) := by decide +kernel
theorem dX2_init_47 : decode cX2_init 47 = .ok (.dup, 1) := by decide +kernel
theorem dX2_init_48 : decode cX2_init 48 = .ok (.iconst 0, 1) := by decide +kernel
theorem dX2_init_49 : decode cX2_init 49 = .ok (.bipush 10, 2) := by decide +kernel
theorem dX2_init_51 : decode cX2_init 51 = .ok (.iastore, 1) := by decide +kernel
theorem dX2_init_52 : decode cX2_init 52 = .ok (.dup, 1) := by decide +kernel
theorem dX2_init_53 : decode cX2_init 53 = .ok (.iconst 1, 1) := by decide +kernel
theorem dX2_init_54 : decode cX2_init 54 = .ok (.iconst 5, 1) := by decide +kernel
theorem dX2_init_55 : decode cX2_init 55 = .ok (.iastore, 1) := by decide +kernel
theorem dX2_init_56 : decode cX2_init 56 = .ok (.dup, 1) := by decide +kernel
theorem dX2_init_57 : decode cX2_init 57 = .ok (.iconst 2, 1) := by decide +kernel
theorem dX2_init_58 : decode cX2_init 58 = .ok (.sipush 9999, 3) := by decide +kernel
theorem dX2_init_61 : decode cX2_init 61 = .ok (.iastore, 1) := by decide +kernel
theorem dX2_init_62 : decode cX2_init 62 = .ok (.dup, 1) := by decide +kernel
theorem dX2_init_63 : decode cX2_init 63 = .ok (.iconst 3, 1) := by decide +kernel
theorem dX2_init_64 : decode cX2_init 64 = .ok (.bipush 20, 2) := by decide +kernel
theorem dX2_init_66 : decode cX2_init 66 = .ok (.iastore, 1) := by decide +kernel
theorem dX2_init_67 : decode cX2_init 67 = .ok (.putfield 36, 3) := by decide +kernel
theorem dX2_init_70 : decode cX2_init 70 = .ok (.aload_n 0, 1) := by decide +kernel
theorem dX2_init_71 : decode cX2_init 71 = .ok (.iconst 2, 1) := by decide +kernel
theorem dX2_init_72 : decode cX2_init 72 = .ok (.newarray .long, 2) := by decide +kernel
theorem dX2_init_74 : decode cX2_init 74 = .ok (.dup, 1) := by decide +kernel
theorem dX2_init_75 : decode cX2_init 75 = .ok (.iconst 0, 1) := by decide +kernel
theorem dX2_init_76 : decode cX2_init 76 = .ok (.ldc2_w 40, 3) := by decide +kernel
theorem dX2_init_79 : decode cX2_init 79 = .ok (.lastore, 1) := by decide +kernel
theorem dX2_init_80 : decode cX2_init 80 = .ok (.dup, 1) := by decide +kernel
theorem dX2_init_81 : decode cX2_init 81 = .ok (.iconst 1, 1) := by decide +kernel
theorem dX2_init_82 : decode cX2_init 82 = .ok (.ldc2_w 40, 3) := by decide +kernel
theorem dX2_init_85 : decode cX2_init 85 = .ok (.lastore, 1) := by decide +kernel
theorem dX2_init_86 : decode cX2_init 86 = .ok (.putfield 42, 3) := by decide +kernel
theorem dX2_init_89 : decode cX2_init 89 = .ok (.aload_n 0, 1) := by decide +kernel
theorem dX2_init_90 : decode cX2_init 90 = .ok (.sipush 720, 3) := by decide +kernel
theorem dX2_init_93 : decode cX2_init 93 = .ok (.newarray .long, 2) := by decide +kernel
theorem dX2_init_95 : decode cX2_init 95 = .ok (.putfield 46, 3) := by decide +kernel
theorem dX2_init_98 : decode cX2_init 98 = .ok (.aload_n 0, 1) := by decide +kernel
theorem dX2_init_99 : decode cX2_init 99 = .ok (.sipush 8640, 3) := by decide +kernel
theorem dX2_init_102 : decode cX2_init 102 = .ok (.newarray .int, 2) := by decide +kernel
theorem dX2_init_104 : decode cX2_init 104 = .ok (.putfield 49, 3) := by decide +kernel
theorem dX2_init_107 : decode cX2_init 107 = .ok (.iconst 0, 1) := by decide +kernel
theorem dX2_init_108 : decode cX2_init 108 = .ok (.istore_n 1, 1) := by decide +kernel
theorem dX2_init_109 : decode cX2_init 109 = .ok (.iload_n 1, 1) := by decide +kernel
theorem dX2_init_110 : decode cX2_init 110 = .ok (.iconst 4, 1) := by decide +kernel
theorem dX2_init_111 : decode cX2_init 111 = .ok (.if_icmp .ge 22, 3) := by decide +kernel
theorem dX2_init_114 : decode cX2_init 114 = .ok (.aload_n 0, 1) := by decide +kernel
theorem dX2_init_115 : decode cX2_init 115 = .ok (.getfield 17, 3) := by decide +kernel
theorem dX2_init_118 : decode cX2_init 118 = .ok (.iload_n 1, 1) := by decide +kernel
theorem dX2_init_119 : decode cX2_init 119 = .ok (.new 15, 3) := by decide +kernel
theorem dX2_init_122 : decode cX2_init 122 = .ok (.dup, 1) := by decide +kernel
theorem dX2_init_123 : decode cX2_init 123 = .ok (.invokespecial 52, 3) := by decide +kernel
theorem dX2_init_126 : decode cX2_init 126 = .ok (.aastore, 1) := by decide +kernel
theorem dX2_init_127 : decode cX2_init 127 = .ok (.iinc 1 1, 3) := by decide +kernel
theorem dX2_init_130 : decode cX2_init 130 = .ok (.goto (-21), 3) := by decide +kernel
theorem dX2_init_133 : decode cX2_init 133 = .ok (.return_, 1) := by decide +kernel
set_option maxRecDepth 20000 in
theorem ggX2_copyFrom_X0_copyFrom : GoodIn wsX2_copyFrom wsX0_copyFrom := goodIn_r _ [20, 21, 22, 23, 24, 25, 26, 10, 11, 12, 38, 39, 40, 41, 42] (by decide +kernel) (by decide +kernel)
set_option maxRecDepth 20000 in
theorem gX2_copyFrom_X0_copyFrom : GoodIn wsX2_copyFrom (wsV RX2 53 RX0 yX0_copyFrom wsX0_copyFrom) := goodIn_app (goodIn_of _ (by decide +kernel)) ggX2_copyFrom_X0_copyFrom
theorem dX2_copyFrom_0 : decode cX2_copyFrom 0 = .ok (.aload_n 0, 1) := by decide +kernel
theorem dX2_copyFrom_1 : decode cX2_copyFrom 1 = .ok (.aload_n 1, 1) := by decide +kernel
theorem dX2_copyFrom_2 : decode cX2_copyFrom 2 = .ok (.getfield 9, 3) := by decide +kernel
theorem dX2_copyFrom_5 : decode cX2_copyFrom 5 = .ok (.putfield 9, 3) := by decide +kernel
theorem dX2_copyFrom_8 : decode cX2_copyFrom 8 = .ok (.iconst 0, 1) := by decide +kernel
theorem dX2_copyFrom_9 : decode cX2_copyFrom 9 = .ok (.istore_n 2, 1) := by decide +kernel
theorem dX2_copyFrom_10 : decode cX2_copyFrom 10 = .ok (.iload_n 2, 1) := by decide +kernel
theorem dX2_copyFrom_11 : decode cX2_copyFrom 11 = .ok (.iconst 4, 1) := by decide +kernel
theorem dX2_copyFrom_12 : decode cX2_copyFrom 12 = .ok (.if_icmp .ge 24, 3) := by decide +kernel
theorem dX2_copyFrom_15 : decode cX2_copyFrom 15 = .ok (.aload_n 0, 1) := by decide +kernel
theorem dX2_copyFrom_16 : decode cX2_copyFrom 16 = .ok (.getfield 17, 3) := by decide +kernel
theorem dX2_copyFrom_19 : decode cX2_copyFrom 19 = .ok (.iload_n 2, 1) := by decide +kernel
theorem dX2_copyFrom_20 : decode cX2_copyFrom 20 = .ok (.aaload, 1) := by decide +kernel
theorem dX2_copyFrom_21 : decode cX2_copyFrom 21 = .ok (.aload_n 1, 1) := by decide +kernel
theorem dX2_copyFrom_22 : decode cX2_copyFrom 22 = .ok (.getfield 17, 3) := by decide +kernel
theorem dX2_copyFrom_25 : decode cX2_copyFrom 25 = .ok (.iload_n 2, 1) := by decide +kernel
theorem dX2_copyFrom_26 : decode cX2_copyFrom 26 = .ok (.aaload, 1) := by decide +kernel
theorem dX2_copyFrom_27 : decode cX2_copyFrom 27 = .ok (.invokevirtual 53, 3) := by decide +kernel
theorem dX2_copyFrom_30 : decode cX2_copyFrom 30 = .ok (.iinc 2 1, 3) := by decide +kernel
theorem dX2_copyFrom_33 : decode cX2_copyFrom 33 = .ok (.goto (-23), 3) := by decide +kernel
theorem dX2_copyFrom_36 : decode cX2_copyFrom 36 = .ok (.aload_n 0, 1) := by decide +kernel
theorem dX2_copyFrom_37 : decode cX2_copyFrom 37 = .ok (.aload_n 1, 1) := by decide +kernel
theorem dX2_copyFrom_38 : decode cX2_copyFrom 38 = .ok (.getfield 21, 3) := by decide +kernel
theorem dX2_copyFrom_41 : decode cX2_copyFrom 41 = .ok (.putfield 21, 3) := by decide +kernel
theorem dX2_copyFrom_44 : decode cX2_copyFrom 44 = .ok (.aload_n 0, 1) := by decide +kernel
theorem dX2_copyFrom_45 : decode cX2_copyFrom 45 = .ok (.aload_n 1, 1) := by decide +kernel
theorem dX2_copyFrom_46 : decode cX2_copyFrom 46 = .ok (.getfield 24, 3) := by decide +kernel
theorem dX2_copyFrom_49 : decode cX2_copyFrom 49 = .ok (.putfield 24, 3) := by decide +kernel
theorem dX2_copyFrom_52 : decode cX2_copyFrom 52 = .ok (.aload_n 0, 1) := by decide +kernel
theorem dX2_copyFrom_53 : decode cX2_copyFrom 53 = .ok (.aload_n 1, 1) := by decide +kernel
theorem dX2_copyFrom_54 : decode cX2_copyFrom 54 = .ok (.getfield 27, 3) := by decide +kernel
theorem dX2_copyFrom_57 : decode cX2_copyFrom 57 = .ok (.putfield 27, 3) := by decide +kernel
theorem dX2_copyFrom_60 : decode cX2_copyFrom 60 = .ok (.aload_n 0, 1) := by decide +kernel
theorem dX2_copyFrom_61 : decode cX2_copyFrom 61 = .ok (.aload_n 1, 1) := by decide +kernel
theorem dX2_copyFrom_62 : decode cX2_copyFrom 62 = .ok (.getfield 30, 3) := by decide +kernel
theorem dX2_copyFrom_65 : decode cX2_copyFrom 65 = .ok (.putfield 30, 3) := by decide +kernel
theorem dX2_copyFrom_68 : decode cX2_copyFrom 68 = .ok (.aload_n 0, 1) := by decide +kernel
theorem dX2_copyFrom_69 : decode cX2_copyFrom 69 = .ok (.aload_n 1, 1) := by decide +kernel
theorem dX2_copyFrom_70 : decode cX2_copyFrom 70 = .ok (.getfield 33, 3) := by decide +kernel
theorem dX2_copyFrom_73 : decode cX2_copyFrom 73 = .ok (.putfield 33, 3) := by decide +kernel
theorem dX2_copyFrom_76 : decode cX2_copyFrom 76 = .ok (.aload_n 1, 1) := by decide +kernel
theorem dX2_copyFrom_77 : decode cX2_copyFrom 77 = .ok (.getfield 36, 3) := by decide +kernel
theorem dX2_copyFrom_80 : decode cX2_copyFrom 80 = .ok (.iconst 0, 1) := by decide +kernel
theorem dX2_copyFrom_81 : decode cX2_copyFrom 81 = .ok (.aload_n 0, 1) := by decide +kernel
theorem dX2_copyFrom_82 : decode cX2_copyFrom 82 = .ok (.getfield 36, 3) := by decide +kernel
theorem dX2_copyFrom_85 : decode cX2_copyFrom 85 = .ok (.iconst 0, 1) := by decide +kernel
theorem dX2_copyFrom_86 : decode cX2_copyFrom 86 = .ok (.iconst 4, 1) := by decide +kernel
theorem dX2_copyFrom_87 : decode cX2_copyFrom 87 = .ok (.invokestatic 57, 3) := by decide +kernel
theorem dX2_copyFrom_90 : decode cX2_copyFrom 90 = .ok (.aload_n 1, 1) := by decide +kernel
theorem dX2_copyFrom_91 : decode cX2_copyFrom 91 = .ok (.getfield 42, 3) := by decide +kernel
theorem dX2_copyFrom_94 : decode cX2_copyFrom 94 = .ok (.iconst 0, 1) := by decide +kernel
theorem dX2_copyFrom_95 : decode cX2_copyFrom 95 = .ok (.aload_n 0, 1) := by decide +kernel
theorem dX2_copyFrom_96 : decode cX2_copyFrom 96 = .ok (.getfield 42, 3) := by decide +kernel
theorem dX2_copyFrom_99 : decode cX2_copyFrom 99 = .ok (.iconst 0, 1) := by decide +kernel
theorem dX2_copyFrom_100 : decode cX2_copyFrom 100 = .ok (.iconst 2, 1) := by decide +kernel
theorem dX2_copyFrom_101 : decode cX2_copyFrom 101 = .ok (.invokestatic 57, 3) := by decide +kernel
theorem dX2_copyFrom_104 : decode cX2_copyFrom 104 = .ok (.aload_n 1, 1) := by decide +kernel
theorem dX2_copyFrom_105 : decode cX2_copyFrom 105 = .ok (.getfield 46, 3) := by decide +kernel
theorem dX2_copyFrom_108 : decode cX2_copyFrom 108 = .ok (.iconst 0, 1) := by decide +kernel
theorem dX2_copyFrom_109 : decode cX2_copyFrom 109 = .ok (.aload_n 0, 1) := by decide +kernel
theorem dX2_copyFrom_110 : decode cX2_copyFrom 110 = .ok (.getfield 46, 3) := by decide +kernel
theorem dX2_copyFrom_113 : decode cX2_copyFrom 113 = .ok (.iconst 0, 1) := by decide +kernel
theorem dX2_copyFrom_114 : decode cX2_copyFrom 114 = .ok (.sipush 720, 3) := by decide +kernel
theorem dX2_copyFrom_117 : decode cX2_copyFrom 117 = .ok (.invokestatic 57, 3) := by decide +kernel
theorem dX2_copyFrom_120 : decode cX2_copyFrom 120 = .ok (.aload_n 1, 1) := by decide +kernel
theorem dX2_copyFrom_121 : decode cX2_copyFrom 121 = .ok (.getfield 49, 3) := by decide +kernel
theorem dX2_copyFrom_124 : decode cX2_copyFrom 124 = .ok (.iconst 0, 1) := by decide +kernel
theorem dX2_copyFrom_125 : decode cX2_copyFrom 125 = .ok (.aload_n 0, 1) := by decide +kernel
theorem dX2_copyFrom_126 : decode cX2_copyFrom 126 = .ok (.getfield 49, 3) := by decide +kernel
theorem dX2_copyFrom_129 : decode cX2_copyFrom 129 = .ok (.iconst 0, 1) := by decide +kernel
theorem dX2_copyFrom_130 : decode cX2_copyFrom 130 = .ok (.sipush 8640, 3) := by decide +kernel
theorem dX2_copyFrom_133 : decode cX2_copyFrom 133 = .ok (.invokestatic 57, 3) := by decide +kernel
theorem dX2_copyFrom_136 : decode cX2_copyFrom 136 = .ok (.return_, 1) := by decide +kernel
set_option maxRecDepth 20000 in
theorem ggX2_pictureNumbered_X4_within : GoodIn wsX2_pictureNumbered wsX4_within := goodIn_r _ [5] (by decide +kernel) (by decide +kernel)
set_option maxRecDepth 20000 in
theorem gX2_pictureNumbered_X4_within_n63 : GoodIn wsX2_pictureNumbered (wsX4_within) := ggX2_pictureNumbered_X4_within
theorem dX2_pictureNumbered_0 : decode cX2_pictureNumbered 0 = .ok (.iload_n 1, 1) := by decide +kernel
theorem dX2_pictureNumbered_1 : decode cX2_pictureNumbered 1 = .ok (.iconst 0, 1) := by decide +kernel
theorem dX2_pictureNumbered_2 : decode cX2_pictureNumbered 2 = .ok (.aload_n 0, 1) := by decide +kernel
theorem dX2_pictureNumbered_3 : decode cX2_pictureNumbered 3 = .ok (.getfield 9, 3) := by decide +kernel
theorem dX2_pictureNumbered_6 : decode cX2_pictureNumbered 6 = .ok (.iconst 1, 1) := by decide +kernel
theorem dX2_pictureNumbered_7 : decode cX2_pictureNumbered 7 = .ok (.isub, 1) := by decide +kernel
theorem dX2_pictureNumbered_8 : decode cX2_pictureNumbered 8 = .ok (.invokestatic 63, 3) := by decide +kernel
theorem dX2_pictureNumbered_11 : decode cX2_pictureNumbered 11 = .ok (.ifCond .eq 12, 3) := by decide +kernel
theorem dX2_pictureNumbered_14 : decode cX2_pictureNumbered 14 = .ok (.aload_n 0, 1) := by decide +kernel
theorem dX2_pictureNumbered_15 : decode cX2_pictureNumbered 15 = .ok (.getfield 17, 3) := by decide +kernel
theorem dX2_pictureNumbered_18 : decode cX2_pictureNumbered 18 = .ok (.iload_n 1, 1) := by decide +kernel
theorem dX2_pictureNumbered_19 : decode cX2_pictureNumbered 19 = .ok (.aaload, 1) := by decide +kernel
theorem dX2_pictureNumbered_20 : decode cX2_pictureNumbered 20 = .ok (.goto 4, 3) := by decide +kernel
theorem dX2_pictureNumbered_23 : decode cX2_pictureNumbered 23 = .ok (.aconst_null, 1) := by decide +kernel
theorem dX2_pictureNumbered_24 : decode cX2_pictureNumbered 24 = .ok (.areturn, 1) := by decide +kernel
theorem dX2_works_0 : decode cX2_works 0 = .ok (.aload_n 0, 1) := by decide +kernel
theorem dX2_works_1 : decode cX2_works 1 = .ok (.getfield 42, 3) := by decide +kernel
theorem dX2_works_4 : decode cX2_works 4 = .ok (.iload_n 1, 1) := by decide +kernel
theorem dX2_works_5 : decode cX2_works 5 = .ok (.laload, 1) := by decide +kernel
theorem dX2_works_6 : decode cX2_works 6 = .ok (.iload_n 2, 1) := by decide +kernel
theorem dX2_works_7 : decode cX2_works 7 = .ok (.iconst 3, 1) := by decide +kernel
theorem dX2_works_8 : decode cX2_works 8 = .ok (.imul, 1) := by decide +kernel
theorem dX2_works_9 : decode cX2_works 9 = .ok (.lshr, 1) := by decide +kernel
theorem dX2_works_10 : decode cX2_works 10 = .ok (.lconst 1, 1) := by decide +kernel
theorem dX2_works_11 : decode cX2_works 11 = .ok (.land, 1) := by decide +kernel
theorem dX2_works_12 : decode cX2_works 12 = .ok (.lconst 0, 1) := by decide +kernel
theorem dX2_works_13 : decode cX2_works 13 = .ok (.lcmp, 1) := by decide +kernel
theorem dX2_works_14 : decode cX2_works 14 = .ok (.ifCond .eq 7, 3) := by decide +kernel
theorem dX2_works_17 : decode cX2_works 17 = .ok (.iconst 1, 1) := by decide +kernel
theorem dX2_works_18 : decode cX2_works 18 = .ok (.goto 4, 3) := by decide +kernel
theorem dX2_works_21 : decode cX2_works 21 = .ok (.iconst 0, 1) := by decide +kernel
theorem dX2_works_22 : decode cX2_works 22 = .ok (.ireturn, 1) := by decide +kernel
set_option maxRecDepth 20000 in
theorem ggX2_wantedAt_X0_wantedAt : GoodIn wsX2_wantedAt wsX0_wantedAt := goodIn_r _ [7, 8, 9, 10, 11, 12, 6, 13, 14, 15, 16, 17, 18, 19, 20, 21, 22, 23, 24, 25, 26, 27, 28, 29, 30, 31, 32, 44, 45, 46, 47, 48] (by decide +kernel) (by decide +kernel)
set_option maxRecDepth 20000 in
theorem gX2_wantedAt_X0_wantedAt : GoodIn wsX2_wantedAt (wsV RX2 67 RX0 yX0_wantedAt wsX0_wantedAt) := goodIn_app (goodIn_of _ (by decide +kernel)) ggX2_wantedAt_X0_wantedAt
theorem dX2_wantedAt_0 : decode cX2_wantedAt 0 = .ok (.lconst 0, 1) := by decide +kernel
theorem dX2_wantedAt_1 : decode cX2_wantedAt 1 = .ok (.lstore_n 2, 1) := by decide +kernel
theorem dX2_wantedAt_2 : decode cX2_wantedAt 2 = .ok (.iconst 0, 1) := by decide +kernel
theorem dX2_wantedAt_3 : decode cX2_wantedAt 3 = .ok (.istore 4, 2) := by decide +kernel
theorem dX2_wantedAt_5 : decode cX2_wantedAt 5 = .ok (.iload 4, 2) := by decide +kernel
theorem dX2_wantedAt_7 : decode cX2_wantedAt 7 = .ok (.aload_n 0, 1) := by decide +kernel
theorem dX2_wantedAt_8 : decode cX2_wantedAt 8 = .ok (.getfield 9, 3) := by decide +kernel
theorem dX2_wantedAt_11 : decode cX2_wantedAt 11 = .ok (.if_icmp .ge 23, 3) := by decide +kernel
theorem dX2_wantedAt_14 : decode cX2_wantedAt 14 = .ok (.lload_n 2, 1) := by decide +kernel
theorem dX2_wantedAt_15 : decode cX2_wantedAt 15 = .ok (.aload_n 0, 1) := by decide +kernel
theorem dX2_wantedAt_16 : decode cX2_wantedAt 16 = .ok (.getfield 17, 3) := by decide +kernel
theorem dX2_wantedAt_19 : decode cX2_wantedAt 19 = .ok (.iload 4, 2) := by decide +kernel
theorem dX2_wantedAt_21 : decode cX2_wantedAt 21 = .ok (.aaload, 1) := by decide +kernel
theorem dX2_wantedAt_22 : decode cX2_wantedAt 22 = .ok (.iload_n 1, 1) := by decide +kernel
theorem dX2_wantedAt_23 : decode cX2_wantedAt 23 = .ok (.invokevirtual 67, 3) := by decide +kernel
theorem dX2_wantedAt_26 : decode cX2_wantedAt 26 = .ok (.lor, 1) := by decide +kernel
theorem dX2_wantedAt_27 : decode cX2_wantedAt 27 = .ok (.lstore_n 2, 1) := by decide +kernel
theorem dX2_wantedAt_28 : decode cX2_wantedAt 28 = .ok (.iinc 4 1, 3) := by decide +kernel
theorem dX2_wantedAt_31 : decode cX2_wantedAt 31 = .ok (.goto (-26), 3) := by decide +kernel
theorem dX2_wantedAt_34 : decode cX2_wantedAt 34 = .ok (.lload_n 2, 1) := by decide +kernel
theorem dX2_wantedAt_35 : decode cX2_wantedAt 35 = .ok (.lreturn, 1) := by decide +kernel
set_option maxRecDepth 20000 in
theorem ggX2_isCoveredAt_X0_covers : GoodIn wsX2_isCoveredAt wsX0_covers := goodIn_r _ [8, 9, 10, 11, 12, 13, 14, 15, 16, 7, 17, 18, 19, 20, 21, 22, 23, 35, 36, 37, 38, 39] (by decide +kernel) (by decide +kernel)
set_option maxRecDepth 20000 in
theorem gX2_isCoveredAt_X0_covers : GoodIn wsX2_isCoveredAt (wsV RX2 74 RX0 yX0_covers wsX0_covers) := goodIn_app (goodIn_of _ (by decide +kernel)) ggX2_isCoveredAt_X0_covers
theorem dX2_isCoveredAt_0 : decode cX2_isCoveredAt 0 = .ok (.iconst 0, 1) := by decide +kernel
theorem dX2_isCoveredAt_1 : decode cX2_isCoveredAt 1 = .ok (.istore_n 2, 1) := by decide +kernel
theorem dX2_isCoveredAt_2 : decode cX2_isCoveredAt 2 = .ok (.iload_n 2, 1) := by decide +kernel
theorem dX2_isCoveredAt_3 : decode cX2_isCoveredAt 3 = .ok (.aload_n 0, 1) := by decide +kernel
theorem dX2_isCoveredAt_4 : decode cX2_isCoveredAt 4 = .ok (.getfield 9, 3) := by decide +kernel
theorem dX2_isCoveredAt_7 : decode cX2_isCoveredAt 7 = .ok (.if_icmp .ge 37, 3) := by decide +kernel
theorem dX2_isCoveredAt_10 : decode cX2_isCoveredAt 10 = .ok (.aload_n 0, 1) := by decide +kernel
theorem dX2_isCoveredAt_11 : decode cX2_isCoveredAt 11 = .ok (.getfield 17, 3) := by decide +kernel
theorem dX2_isCoveredAt_14 : decode cX2_isCoveredAt 14 = .ok (.iload_n 2, 1) := by decide +kernel
theorem dX2_isCoveredAt_15 : decode cX2_isCoveredAt 15 = .ok (.aaload, 1) := by decide +kernel
theorem dX2_isCoveredAt_16 : decode cX2_isCoveredAt 16 = .ok (.getfield 71, 3) := by decide +kernel
theorem dX2_isCoveredAt_19 : decode cX2_isCoveredAt 19 = .ok (.iconst 2, 1) := by decide +kernel
theorem dX2_isCoveredAt_20 : decode cX2_isCoveredAt 20 = .ok (.if_icmp .eq 18, 3) := by decide +kernel
theorem dX2_isCoveredAt_23 : decode cX2_isCoveredAt 23 = .ok (.aload_n 0, 1) := by decide +kernel
theorem dX2_isCoveredAt_24 : decode cX2_isCoveredAt 24 = .ok (.getfield 17, 3) := by decide +kernel
theorem dX2_isCoveredAt_27 : decode cX2_isCoveredAt 27 = .ok (.iload_n 2, 1) := by decide +kernel
theorem dX2_isCoveredAt_28 : decode cX2_isCoveredAt 28 = .ok (.aaload, 1) := by decide +kernel
theorem dX2_isCoveredAt_29 : decode cX2_isCoveredAt 29 = .ok (.iload_n 1, 1) := by decide +kernel
theorem dX2_isCoveredAt_30 : decode cX2_isCoveredAt 30 = .ok (.invokevirtual 74, 3) := by decide +kernel
theorem dX2_isCoveredAt_33 : decode cX2_isCoveredAt 33 = .ok (.ifCond .eq 5, 3) := by decide +kernel
theorem dX2_isCoveredAt_36 : decode cX2_isCoveredAt 36 = .ok (.iconst 1, 1) := by decide +kernel
theorem dX2_isCoveredAt_37 : decode cX2_isCoveredAt 37 = .ok (.ireturn, 1) := by decide +kernel
theorem dX2_isCoveredAt_38 : decode cX2_isCoveredAt 38 = .ok (.iinc 2 1, 3) := by decide +kernel
theorem dX2_isCoveredAt_41 : decode cX2_isCoveredAt 41 = .ok (.goto (-39), 3) := by decide +kernel
theorem dX2_isCoveredAt_44 : decode cX2_isCoveredAt 44 = .ok (.iconst 0, 1) := by decide +kernel
theorem dX2_isCoveredAt_45 : decode cX2_isCoveredAt 45 = .ok (.ireturn, 1) := by decide +kernel
theorem dX2_litAt_0 : decode cX2_litAt 0 = .ok (.iconst 0, 1) := by decide +kernel
theorem dX2_litAt_1 : decode cX2_litAt 1 = .ok (.aload_n 0, 1) := by decide +kernel
theorem dX2_litAt_2 : decode cX2_litAt 2 = .ok (.getfield 27, 3) := by decide +kernel
theorem dX2_litAt_5 : decode cX2_litAt 5 = .ok (.iload_n 2, 1) := by decide +kernel
theorem dX2_litAt_6 : decode cX2_litAt 6 = .ok (.iadd, 1) := by decide +kernel
theorem dX2_litAt_7 : decode cX2_litAt 7 = .ok (.aload_n 0, 1) := by decide +kernel
theorem dX2_litAt_8 : decode cX2_litAt 8 = .ok (.getfield 36, 3) := by decide +kernel
theorem dX2_litAt_11 : decode cX2_litAt 11 = .ok (.iconst 3, 1) := by decide +kernel
theorem dX2_litAt_12 : decode cX2_litAt 12 = .ok (.iaload, 1) := by decide +kernel
theorem dX2_litAt_13 : decode cX2_litAt 13 = .ok (.isub, 1) := by decide +kernel
theorem dX2_litAt_14 : decode cX2_litAt 14 = .ok (.invokestatic 78, 3) := by decide +kernel
theorem dX2_litAt_17 : decode cX2_litAt 17 = .ok (.istore_n 3, 1) := by decide +kernel
theorem dX2_litAt_18 : decode cX2_litAt 18 = .ok (.lconst 0, 1) := by decide +kernel
theorem dX2_litAt_19 : decode cX2_litAt 19 = .ok (.lstore 4, 2) := by decide +kernel
theorem dX2_litAt_21 : decode cX2_litAt 21 = .ok (.iconst 0, 1) := by decide +kernel
theorem dX2_litAt_22 : decode cX2_litAt 22 = .ok (.istore 6, 2) := by decide +kernel
theorem dX2_litAt_24 : decode cX2_litAt 24 = .ok (.iload 6, 2) := by decide +kernel
theorem dX2_litAt_26 : decode cX2_litAt 26 = .ok (.bipush 12, 2) := by decide +kernel
theorem dX2_litAt_28 : decode cX2_litAt 28 = .ok (.if_icmp .ge 49, 3) := by decide +kernel
theorem dX2_litAt_31 : decode cX2_litAt 31 = .ok (.aload_n 0, 1) := by decide +kernel
theorem dX2_litAt_32 : decode cX2_litAt 32 = .ok (.getfield 49, 3) := by decide +kernel
theorem dX2_litAt_35 : decode cX2_litAt 35 = .ok (.iload_n 1, 1) := by decide +kernel
theorem dX2_litAt_36 : decode cX2_litAt 36 = .ok (.bipush 12, 2) := by decide +kernel
theorem dX2_litAt_38 : decode cX2_litAt 38 = .ok (.imul, 1) := by decide +kernel
theorem dX2_litAt_39 : decode cX2_litAt 39 = .ok (.iload 6, 2) := by decide +kernel
theorem dX2_litAt_41 : decode cX2_litAt 41 = .ok (.iadd, 1) := by decide +kernel
theorem dX2_litAt_42 : decode cX2_litAt 42 = .ok (.iaload, 1) := by decide +kernel
theorem dX2_litAt_43 : decode cX2_litAt 43 = .ok (.istore 7, 2) := by decide +kernel
theorem dX2_litAt_45 : decode cX2_litAt 45 = .ok (.iload 7, 2) := by decide +kernel
theorem dX2_litAt_47 : decode cX2_litAt 47 = .ok (.iload_n 3, 1) := by decide +kernel
theorem dX2_litAt_48 : decode cX2_litAt 48 = .ok (.if_icmp .le 23, 3) := by decide +kernel
theorem dX2_litAt_51 : decode cX2_litAt 51 = .ok (.lload 4, 2) := by decide +kernel
theorem dX2_litAt_53 : decode cX2_litAt 53 = .ok (.aload_n 0, 1) := by decide +kernel
theorem dX2_litAt_54 : decode cX2_litAt 54 = .ok (.getfield 46, 3) := by decide +kernel
theorem dX2_litAt_57 : decode cX2_litAt 57 = .ok (.iload_n 1, 1) := by decide +kernel
theorem dX2_litAt_58 : decode cX2_litAt 58 = .ok (.laload, 1) := by decide +kernel
theorem dX2_litAt_59 : decode cX2_litAt 59 = .ok (.ldc2_w 84, 3) := by decide +kernel
theorem dX2_litAt_62 : decode cX2_litAt 62 = .ok (.iload 6, 2) := by decide +kernel
theorem dX2_litAt_64 : decode cX2_litAt 64 = .ok (.iconst 3, 1) := by decide +kernel
theorem dX2_litAt_65 : decode cX2_litAt 65 = .ok (.imul, 1) := by decide +kernel
theorem dX2_litAt_66 : decode cX2_litAt 66 = .ok (.lshl, 1) := by decide +kernel
theorem dX2_litAt_67 : decode cX2_litAt 67 = .ok (.land, 1) := by decide +kernel
theorem dX2_litAt_68 : decode cX2_litAt 68 = .ok (.lor, 1) := by decide +kernel
theorem dX2_litAt_69 : decode cX2_litAt 69 = .ok (.lstore 4, 2) := by decide +kernel
theorem dX2_litAt_71 : decode cX2_litAt 71 = .ok (.iinc 6 1, 3) := by decide +kernel
theorem dX2_litAt_74 : decode cX2_litAt 74 = .ok (.goto (-50), 3) := by decide +kernel
theorem dX2_litAt_77 : decode cX2_litAt 77 = .ok (.lload 4, 2) := by decide +kernel
theorem dX2_litAt_79 : decode cX2_litAt 79 = .ok (.lreturn, 1) := by decide +kernel
set_option maxRecDepth 20000 in
theorem ggX2_write_X3_firstArmAt : GoodIn wsX2_write wsX3_firstArmAt := goodIn_r _ [14, 15, 42, 43, 44, 45, 46, 47, 48, 49, 50, 51, 52] (by decide +kernel) (by decide +kernel)
set_option maxRecDepth 20000 in
theorem gX2_write_X3_firstArmAt : GoodIn wsX2_write (wsV RX2 91 RX3 yX3_firstArmAt wsX3_firstArmAt) := goodIn_app (goodIn_of _ (by decide +kernel)) ggX2_write_X3_firstArmAt
set_option maxRecDepth 20000 in
theorem ggX2_write_X2_writeArm : GoodIn wsX2_write wsX2_writeArm := goodIn_r _ [20, 21, 22, 23, 24, 25, 8, 26, 27, 28, 29, 30, 31, 32, 19, 33, 53, 54, 55, 56, 57, 58, 59, 60, 61, 62, 63] (by decide +kernel) (by decide +kernel)
set_option maxRecDepth 20000 in
theorem gX2_write_X2_writeArm : GoodIn wsX2_write (wsV RX2 95 RX2 yX2_writeArm wsX2_writeArm) := goodIn_app (goodIn_of _ (by decide +kernel)) ggX2_write_X2_writeArm
set_option maxRecDepth 20000 in
theorem ggX2_write_X3_secondArmAt : GoodIn wsX2_write wsX3_secondArmAt := goodIn_r _ [37, 38, 15, 39, 40, 13, 41, 42, 43, 44, 45, 46, 47, 48, 49, 50, 51, 52] (by decide +kernel) (by decide +kernel)
set_option maxRecDepth 20000 in
theorem gX2_write_X3_secondArmAt : GoodIn wsX2_write (wsV RX2 99 RX3 yX3_secondArmAt wsX3_secondArmAt) := goodIn_app (goodIn_of _ (by decide +kernel)) ggX2_write_X3_secondArmAt
theorem dX2_write_0 : decode cX2_write 0 = .ok (.iconst 0, 1) := by decide +kernel
theorem dX2_write_1 : decode cX2_write 1 = .ok (.istore_n 2, 1) := by decide +kernel
theorem dX2_write_2 : decode cX2_write 2 = .ok (.iload_n 2, 1) := by decide +kernel
theorem dX2_write_3 : decode cX2_write 3 = .ok (.sipush 720, 3) := by decide +kernel
theorem dX2_write_6 : decode cX2_write 6 = .ok (.if_icmp .ge 43, 3) := by decide +kernel
theorem dX2_write_9 : decode cX2_write 9 = .ok (.aload_n 0, 1) := by decide +kernel
theorem dX2_write_10 : decode cX2_write 10 = .ok (.iconst 0, 1) := by decide +kernel
theorem dX2_write_11 : decode cX2_write 11 = .ok (.iload_n 2, 1) := by decide +kernel
theorem dX2_write_12 : decode cX2_write 12 = .ok (.aload_n 1, 1) := by decide +kernel
theorem dX2_write_13 : decode cX2_write 13 = .ok (.getfield 86, 3) := by decide +kernel
theorem dX2_write_16 : decode cX2_write 16 = .ok (.iload_n 2, 1) := by decide +kernel
theorem dX2_write_17 : decode cX2_write 17 = .ok (.laload, 1) := by decide +kernel
theorem dX2_write_18 : decode cX2_write 18 = .ok (.aload_n 1, 1) := by decide +kernel
theorem dX2_write_19 : decode cX2_write 19 = .ok (.iload_n 2, 1) := by decide +kernel
theorem dX2_write_20 : decode cX2_write 20 = .ok (.invokevirtual 91, 3) := by decide +kernel
theorem dX2_write_23 : decode cX2_write 23 = .ok (.invokevirtual 95, 3) := by decide +kernel
theorem dX2_write_26 : decode cX2_write 26 = .ok (.aload_n 0, 1) := by decide +kernel
theorem dX2_write_27 : decode cX2_write 27 = .ok (.iconst 1, 1) := by decide +kernel
theorem dX2_write_28 : decode cX2_write 28 = .ok (.iload_n 2, 1) := by decide +kernel
theorem dX2_write_29 : decode cX2_write 29 = .ok (.aload_n 1, 1) := by decide +kernel
theorem dX2_write_30 : decode cX2_write 30 = .ok (.getfield 86, 3) := by decide +kernel
theorem dX2_write_33 : decode cX2_write 33 = .ok (.iload_n 2, 1) := by decide +kernel
theorem dX2_write_34 : decode cX2_write 34 = .ok (.laload, 1) := by decide +kernel
theorem dX2_write_35 : decode cX2_write 35 = .ok (.aload_n 1, 1) := by decide +kernel
theorem dX2_write_36 : decode cX2_write 36 = .ok (.iload_n 2, 1) := by decide +kernel
theorem dX2_write_37 : decode cX2_write 37 = .ok (.invokevirtual 99, 3) := by decide +kernel
theorem dX2_write_40 : decode cX2_write 40 = .ok (.invokevirtual 95, 3) := by decide +kernel
theorem dX2_write_43 : decode cX2_write 43 = .ok (.iinc 2 1, 3) := by decide +kernel
theorem dX2_write_46 : decode cX2_write 46 = .ok (.goto (-44), 3) := by decide +kernel
theorem dX2_write_49 : decode cX2_write 49 = .ok (.aload_n 0, 1) := by decide +kernel
theorem dX2_write_50 : decode cX2_write 50 = .ok (.aload_n 1, 1) := by decide +kernel
theorem dX2_write_51 : decode cX2_write 51 = .ok (.getfield 102, 3) := by decide +kernel
theorem dX2_write_54 : decode cX2_write 54 = .ok (.putfield 21, 3) := by decide +kernel
theorem dX2_write_57 : decode cX2_write 57 = .ok (.aload_n 0, 1) := by decide +kernel
theorem dX2_write_58 : decode cX2_write 58 = .ok (.aload_n 1, 1) := by decide +kernel
theorem dX2_write_59 : decode cX2_write 59 = .ok (.getfield 103, 3) := by decide +kernel
theorem dX2_write_62 : decode cX2_write 62 = .ok (.putfield 24, 3) := by decide +kernel
theorem dX2_write_65 : decode cX2_write 65 = .ok (.aload_n 0, 1) := by decide +kernel
theorem dX2_write_66 : decode cX2_write 66 = .ok (.aload_n 1, 1) := by decide +kernel
theorem dX2_write_67 : decode cX2_write 67 = .ok (.getfield 104, 3) := by decide +kernel
theorem dX2_write_70 : decode cX2_write 70 = .ok (.putfield 30, 3) := by decide +kernel
theorem dX2_write_73 : decode cX2_write 73 = .ok (.aload_n 0, 1) := by decide +kernel
theorem dX2_write_74 : decode cX2_write 74 = .ok (.dup, 1) := by decide +kernel
theorem dX2_write_75 : decode cX2_write 75 = .ok (.getfield 27, 3) := by decide +kernel
theorem dX2_write_78 : decode cX2_write 78 = .ok (.aload_n 1, 1) := by decide +kernel
theorem dX2_write_79 : decode cX2_write 79 = .ok (.getfield 105, 3) := by decide +kernel
theorem dX2_write_82 : decode cX2_write 82 = .ok (.iadd, 1) := by decide +kernel
theorem dX2_write_83 : decode cX2_write 83 = .ok (.putfield 27, 3) := by decide +kernel
theorem dX2_write_86 : decode cX2_write 86 = .ok (.return_, 1) := by decide +kernel
set_option maxRecDepth 20000 in
theorem ggX2_writeArm_X2_works : GoodIn wsX2_writeArm wsX2_works := goodIn_r _ [15, 1, 16, 17, 18, 19, 20, 21, 22, 23, 24, 25, 26] (by decide +kernel) (by decide +kernel)
end
section
set_option maxRecDepth 20000 in
theorem gX2_writeArm_X2_works : GoodIn wsX2_writeArm (wsV RX2 108 RX2 yX2_works wsX2_works) := goodIn_app (goodIn_of _ (by decide +kernel)) ggX2_writeArm_X2_works
theorem dX2_writeArm_0 : decode cX2_writeArm 0 = .ok (.iload 5, 2) := by decide +kernel
theorem dX2_writeArm_2 : decode cX2_writeArm 2 = .ok (.ifCond .ne 4, 3) := by decide +kernel
theorem dX2_writeArm_5 : decode cX2_writeArm 5 = .ok (.return_, 1) := by decide +kernel
theorem dX2_writeArm_6 : decode cX2_writeArm 6 = .ok (.aload_n 0, 1) := by decide +kernel
theorem dX2_writeArm_7 : decode cX2_writeArm 7 = .ok (.getfield 42, 3) := by decide +kernel
theorem dX2_writeArm_10 : decode cX2_writeArm 10 = .ok (.iload_n 1, 1) := by decide +kernel
theorem dX2_writeArm_11 : decode cX2_writeArm 11 = .ok (.laload, 1) := by decide +kernel
theorem dX2_writeArm_12 : decode cX2_writeArm 12 = .ok (.ldc2_w 84, 3) := by decide +kernel
theorem dX2_writeArm_15 : decode cX2_writeArm 15 = .ok (.lmul, 1) := by decide +kernel
theorem dX2_writeArm_16 : decode cX2_writeArm 16 = .ok (.lstore 6, 2) := by decide +kernel
theorem dX2_writeArm_18 : decode cX2_writeArm 18 = .ok (.aload_n 0, 1) := by decide +kernel
theorem dX2_writeArm_19 : decode cX2_writeArm 19 = .ok (.getfield 46, 3) := by decide +kernel
theorem dX2_writeArm_22 : decode cX2_writeArm 22 = .ok (.iload_n 2, 1) := by decide +kernel
theorem dX2_writeArm_23 : decode cX2_writeArm 23 = .ok (.aload_n 0, 1) := by decide +kernel
theorem dX2_writeArm_24 : decode cX2_writeArm 24 = .ok (.getfield 46, 3) := by decide +kernel
theorem dX2_writeArm_27 : decode cX2_writeArm 27 = .ok (.iload_n 2, 1) := by decide +kernel
theorem dX2_writeArm_28 : decode cX2_writeArm 28 = .ok (.laload, 1) := by decide +kernel
theorem dX2_writeArm_29 : decode cX2_writeArm 29 = .ok (.lload 6, 2) := by decide +kernel
theorem dX2_writeArm_31 : decode cX2_writeArm 31 = .ok (.ldc2_w 106, 3) := by decide +kernel
theorem dX2_writeArm_34 : decode cX2_writeArm 34 = .ok (.lxor, 1) := by decide +kernel
theorem dX2_writeArm_35 : decode cX2_writeArm 35 = .ok (.land, 1) := by decide +kernel
theorem dX2_writeArm_36 : decode cX2_writeArm 36 = .ok (.lload_n 3, 1) := by decide +kernel
theorem dX2_writeArm_37 : decode cX2_writeArm 37 = .ok (.lload 6, 2) := by decide +kernel
theorem dX2_writeArm_39 : decode cX2_writeArm 39 = .ok (.land, 1) := by decide +kernel
theorem dX2_writeArm_40 : decode cX2_writeArm 40 = .ok (.lor, 1) := by decide +kernel
theorem dX2_writeArm_41 : decode cX2_writeArm 41 = .ok (.lastore, 1) := by decide +kernel
theorem dX2_writeArm_42 : decode cX2_writeArm 42 = .ok (.iconst 0, 1) := by decide +kernel
theorem dX2_writeArm_43 : decode cX2_writeArm 43 = .ok (.istore 8, 2) := by decide +kernel
theorem dX2_writeArm_45 : decode cX2_writeArm 45 = .ok (.iload 8, 2) := by decide +kernel
theorem dX2_writeArm_47 : decode cX2_writeArm 47 = .ok (.bipush 12, 2) := by decide +kernel
theorem dX2_writeArm_49 : decode cX2_writeArm 49 = .ok (.if_icmp .ge 52, 3) := by decide +kernel
theorem dX2_writeArm_52 : decode cX2_writeArm 52 = .ok (.aload_n 0, 1) := by decide +kernel
theorem dX2_writeArm_53 : decode cX2_writeArm 53 = .ok (.iload_n 1, 1) := by decide +kernel
theorem dX2_writeArm_54 : decode cX2_writeArm 54 = .ok (.iload 8, 2) := by decide +kernel
theorem dX2_writeArm_56 : decode cX2_writeArm 56 = .ok (.invokevirtual 108, 3) := by decide +kernel
theorem dX2_writeArm_59 : decode cX2_writeArm 59 = .ok (.ifCond .eq 36, 3) := by decide +kernel
theorem dX2_writeArm_62 : decode cX2_writeArm 62 = .ok (.iload_n 2, 1) := by decide +kernel
theorem dX2_writeArm_63 : decode cX2_writeArm 63 = .ok (.bipush 12, 2) := by decide +kernel
theorem dX2_writeArm_65 : decode cX2_writeArm 65 = .ok (.imul, 1) := by decide +kernel
theorem dX2_writeArm_66 : decode cX2_writeArm 66 = .ok (.iload 8, 2) := by decide +kernel
theorem dX2_writeArm_68 : decode cX2_writeArm 68 = .ok (.iadd, 1) := by decide +kernel
theorem dX2_writeArm_69 : decode cX2_writeArm 69 = .ok (.istore 9, 2) := by decide +kernel
theorem dX2_writeArm_71 : decode cX2_writeArm 71 = .ok (.aload_n 0, 1) := by decide +kernel
theorem dX2_writeArm_72 : decode cX2_writeArm 72 = .ok (.getfield 49, 3) := by decide +kernel
theorem dX2_writeArm_75 : decode cX2_writeArm 75 = .ok (.iload 9, 2) := by decide +kernel
theorem dX2_writeArm_77 : decode cX2_writeArm 77 = .ok (.aload_n 0, 1) := by decide +kernel
theorem dX2_writeArm_78 : decode cX2_writeArm 78 = .ok (.getfield 49, 3) := by decide +kernel
theorem dX2_writeArm_81 : decode cX2_writeArm 81 = .ok (.iload 9, 2) := by decide +kernel
theorem dX2_writeArm_83 : decode cX2_writeArm 83 = .ok (.iaload, 1) := by decide +kernel
theorem dX2_writeArm_84 : decode cX2_writeArm 84 = .ok (.aload_n 0, 1) := by decide +kernel
theorem dX2_writeArm_85 : decode cX2_writeArm 85 = .ok (.getfield 27, 3) := by decide +kernel
theorem dX2_writeArm_88 : decode cX2_writeArm 88 = .ok (.iload 5, 2) := by decide +kernel
theorem dX2_writeArm_90 : decode cX2_writeArm 90 = .ok (.iadd, 1) := by decide +kernel
theorem dX2_writeArm_91 : decode cX2_writeArm 91 = .ok (.invokestatic 78, 3) := by decide +kernel
theorem dX2_writeArm_94 : decode cX2_writeArm 94 = .ok (.iastore, 1) := by decide +kernel
theorem dX2_writeArm_95 : decode cX2_writeArm 95 = .ok (.iinc 8 1, 3) := by decide +kernel
theorem dX2_writeArm_98 : decode cX2_writeArm 98 = .ok (.goto (-53), 3) := by decide +kernel
theorem dX2_writeArm_101 : decode cX2_writeArm 101 = .ok (.return_, 1) := by decide +kernel
theorem dX3_init_0 : decode cX3_init 0 = .ok (.aload_n 0, 1) := by decide +kernel
theorem dX3_init_1 : decode cX3_init 1 = .ok (.invokespecial 3, 3) := by decide +kernel
theorem dX3_init_4 : decode cX3_init 4 = .ok (.aload_n 0, 1) := by decide +kernel
theorem dX3_init_5 : decode cX3_init 5 = .ok (.sipush 720, 3) := by decide +kernel
theorem dX3_init_8 : decode cX3_init 8 = .ok (.newarray .long, 2) := by decide +kernel
theorem dX3_init_10 : decode cX3_init 10 = .ok (.putfield 9, 3) := by decide +kernel
theorem dX3_init_13 : decode cX3_init 13 = .ok (.aload_n 0, 1) := by decide +kernel
theorem dX3_init_14 : decode cX3_init 14 = .ok (.sipush 720, 3) := by decide +kernel
theorem dX3_init_17 : decode cX3_init 17 = .ok (.newarray .int, 2) := by decide +kernel
theorem dX3_init_19 : decode cX3_init 19 = .ok (.putfield 15, 3) := by decide +kernel
theorem dX3_init_22 : decode cX3_init 22 = .ok (.aload_n 0, 1) := by decide +kernel
theorem dX3_init_23 : decode cX3_init 23 = .ok (.sipush 720, 3) := by decide +kernel
theorem dX3_init_26 : decode cX3_init 26 = .ok (.newarray .int, 2) := by decide +kernel
theorem dX3_init_28 : decode cX3_init 28 = .ok (.putfield 19, 3) := by decide +kernel
theorem dX3_init_31 : decode cX3_init 31 = .ok (.return_, 1) := by decide +kernel
set_option maxRecDepth 20000 in
theorem ggX3_prepare_X2_wantedAt : GoodIn wsX3_prepare wsX2_wantedAt := goodIn_r _ [13, 14, 15, 16, 17, 18, 19, 20, 21, 22, 23, 24, 25, 26, 27, 28, 29, 30, 31, 32, 33, 34, 35, 36, 37, 38, 39, 40, 41, 42, 43, 44, 45, 61, 62, 63, 64, 65, 66, 67, 68, 69, 70, 71, 83, 84, 85, 86, 87] (by decide +kernel) (by decide +kernel)
set_option maxRecDepth 20000 in
theorem gX3_prepare_X2_wantedAt : GoodIn wsX3_prepare (wsV RX3 40 RX2 yX2_wantedAt wsX2_wantedAt) := goodIn_app (goodIn_of _ (by decide +kernel)) ggX3_prepare_X2_wantedAt
set_option maxRecDepth 20000 in
theorem ggX3_prepare_X4_notDark : GoodIn wsX3_prepare wsX4_notDark := goodIn_r _ [48, 49] (by decide +kernel) (by decide +kernel)
set_option maxRecDepth 20000 in
theorem gX3_prepare_X4_notDark_n44 : GoodIn wsX3_prepare (wsX4_notDark) := ggX3_prepare_X4_notDark
set_option maxRecDepth 20000 in
theorem ggX3_prepare_J13_bitCount_95d88 : GoodIn wsX3_prepare wsJ13_bitCount_95d88 := goodIn_r _ [53, 54, 55, 56] (by decide +kernel) (by decide +kernel)
set_option maxRecDepth 20000 in
theorem gX3_prepare_J13_bitCount_95d88 : GoodIn wsX3_prepare (va_wsS RX3 51 yJ13_bitCount_95d88 wsJ13_bitCount_95d88) := goodIn_app (goodIn_of _ (by decide +kernel)) ggX3_prepare_J13_bitCount_95d88
set_option maxRecDepth 20000 in
theorem ggX3_prepare_X3_opposite : GoodIn wsX3_prepare wsX3_opposite := goodIn_r _ [60] (by decide +kernel) (by decide +kernel)
set_option maxRecDepth 20000 in
theorem gX3_prepare_X3_opposite : GoodIn wsX3_prepare (va_wsS RX3 57 yX3_opposite wsX3_opposite) := goodIn_app (goodIn_of _ (by decide +kernel)) ggX3_prepare_X3_opposite
theorem dX3_prepare_0 : decode cX3_prepare 0 = .ok (.aload_n 0, 1) := by decide +kernel
theorem dX3_prepare_1 : decode cX3_prepare 1 = .ok (.aload_n 1, 1) := by decide +kernel
theorem dX3_prepare_2 : decode cX3_prepare 2 = .ok (.getfield 22, 3) := by decide +kernel
theorem dX3_prepare_5 : decode cX3_prepare 5 = .ok (.iconst 1, 1) := by decide +kernel
theorem dX3_prepare_6 : decode cX3_prepare 6 = .ok (.if_icmp .ne 7, 3) := by decide +kernel
theorem dX3_prepare_9 : decode cX3_prepare 9 = .ok (.iconst 1, 1) := by decide +kernel
theorem dX3_prepare_10 : decode cX3_prepare 10 = .ok (.goto 4, 3) := by decide +kernel
theorem dX3_prepare_13 : decode cX3_prepare 13 = .ok (.iconst 0, 1) := by decide +kernel
theorem dX3_prepare_14 : decode cX3_prepare 14 = .ok (.putfield 28, 3) := by decide +kernel
theorem dX3_prepare_17 : decode cX3_prepare 17 = .ok (.aload_n 0, 1) := by decide +kernel
theorem dX3_prepare_18 : decode cX3_prepare 18 = .ok (.aload_n 1, 1) := by decide +kernel
theorem dX3_prepare_19 : decode cX3_prepare 19 = .ok (.getfield 31, 3) := by decide +kernel
theorem dX3_prepare_22 : decode cX3_prepare 22 = .ok (.iconst 1, 1) := by decide +kernel
theorem dX3_prepare_23 : decode cX3_prepare 23 = .ok (.iaload, 1) := by decide +kernel
theorem dX3_prepare_24 : decode cX3_prepare 24 = .ok (.putfield 34, 3) := by decide +kernel
theorem dX3_prepare_27 : decode cX3_prepare 27 = .ok (.aload_n 0, 1) := by decide +kernel
theorem dX3_prepare_28 : decode cX3_prepare 28 = .ok (.aload_n 1, 1) := by decide +kernel
theorem dX3_prepare_29 : decode cX3_prepare 29 = .ok (.getfield 31, 3) := by decide +kernel
theorem dX3_prepare_32 : decode cX3_prepare 32 = .ok (.iconst 2, 1) := by decide +kernel
theorem dX3_prepare_33 : decode cX3_prepare 33 = .ok (.iaload, 1) := by decide +kernel
theorem dX3_prepare_34 : decode cX3_prepare 34 = .ok (.putfield 37, 3) := by decide +kernel
theorem dX3_prepare_37 : decode cX3_prepare 37 = .ok (.iconst 0, 1) := by decide +kernel
theorem dX3_prepare_38 : decode cX3_prepare 38 = .ok (.istore_n 2, 1) := by decide +kernel
theorem dX3_prepare_39 : decode cX3_prepare 39 = .ok (.iload_n 2, 1) := by decide +kernel
theorem dX3_prepare_40 : decode cX3_prepare 40 = .ok (.sipush 720, 3) := by decide +kernel
theorem dX3_prepare_43 : decode cX3_prepare 43 = .ok (.if_icmp .ge 20, 3) := by decide +kernel
theorem dX3_prepare_46 : decode cX3_prepare 46 = .ok (.aload_n 0, 1) := by decide +kernel
theorem dX3_prepare_47 : decode cX3_prepare 47 = .ok (.getfield 9, 3) := by decide +kernel
theorem dX3_prepare_50 : decode cX3_prepare 50 = .ok (.iload_n 2, 1) := by decide +kernel
theorem dX3_prepare_51 : decode cX3_prepare 51 = .ok (.aload_n 1, 1) := by decide +kernel
theorem dX3_prepare_52 : decode cX3_prepare 52 = .ok (.iload_n 2, 1) := by decide +kernel
theorem dX3_prepare_53 : decode cX3_prepare 53 = .ok (.invokevirtual 40, 3) := by decide +kernel
theorem dX3_prepare_56 : decode cX3_prepare 56 = .ok (.lastore, 1) := by decide +kernel
theorem dX3_prepare_57 : decode cX3_prepare 57 = .ok (.iinc 2 1, 3) := by decide +kernel
theorem dX3_prepare_60 : decode cX3_prepare 60 = .ok (.goto (-21), 3) := by decide +kernel
theorem dX3_prepare_63 : decode cX3_prepare 63 = .ok (.iconst 0, 1) := by decide +kernel
theorem dX3_prepare_64 : decode cX3_prepare 64 = .ok (.istore_n 2, 1) := by decide +kernel
theorem dX3_prepare_65 : decode cX3_prepare 65 = .ok (.iload_n 2, 1) := by decide +kernel
theorem dX3_prepare_66 : decode cX3_prepare 66 = .ok (.sipush 720, 3) := by decide +kernel
theorem dX3_prepare_69 : decode cX3_prepare 69 = .ok (.if_icmp .ge 72, 3) := by decide +kernel
theorem dX3_prepare_72 : decode cX3_prepare 72 = .ok (.aload_n 0, 1) := by decide +kernel
theorem dX3_prepare_73 : decode cX3_prepare 73 = .ok (.getfield 15, 3) := by decide +kernel
theorem dX3_prepare_76 : decode cX3_prepare 76 = .ok (.iload_n 2, 1) := by decide +kernel
theorem dX3_prepare_77 : decode cX3_prepare 77 = .ok (.aload_n 0, 1) := by decide +kernel
theorem dX3_prepare_78 : decode cX3_prepare 78 = .ok (.getfield 9, 3) := by decide +kernel
theorem dX3_prepare_81 : decode cX3_prepare 81 = .ok (.iload_n 2, 1) := by decide +kernel
theorem dX3_prepare_82 : decode cX3_prepare 82 = .ok (.laload, 1) := by decide +kernel
theorem dX3_prepare_83 : decode cX3_prepare 83 = .ok (.invokestatic 44, 3) := by decide +kernel
theorem dX3_prepare_86 : decode cX3_prepare 86 = .ok (.aload_n 1, 1) := by decide +kernel
theorem dX3_prepare_87 : decode cX3_prepare 87 = .ok (.getfield 48, 3) := by decide +kernel
theorem dX3_prepare_90 : decode cX3_prepare 90 = .ok (.iconst 0, 1) := by decide +kernel
theorem dX3_prepare_91 : decode cX3_prepare 91 = .ok (.laload, 1) := by decide +kernel
theorem dX3_prepare_92 : decode cX3_prepare 92 = .ok (.land, 1) := by decide +kernel
theorem dX3_prepare_93 : decode cX3_prepare 93 = .ok (.invokestatic 51, 3) := by decide +kernel
theorem dX3_prepare_96 : decode cX3_prepare 96 = .ok (.iastore, 1) := by decide +kernel
theorem dX3_prepare_97 : decode cX3_prepare 97 = .ok (.aload_n 0, 1) := by decide +kernel
theorem dX3_prepare_98 : decode cX3_prepare 98 = .ok (.getfield 28, 3) := by decide +kernel
theorem dX3_prepare_101 : decode cX3_prepare 101 = .ok (.ifCond .eq 34, 3) := by decide +kernel
theorem dX3_prepare_104 : decode cX3_prepare 104 = .ok (.aload_n 0, 1) := by decide +kernel
theorem dX3_prepare_105 : decode cX3_prepare 105 = .ok (.getfield 15, 3) := by decide +kernel
theorem dX3_prepare_108 : decode cX3_prepare 108 = .ok (.iload_n 2, 1) := by decide +kernel
theorem dX3_prepare_109 : decode cX3_prepare 109 = .ok (.dup2, 1) := by decide +kernel
theorem dX3_prepare_110 : decode cX3_prepare 110 = .ok (.iaload, 1) := by decide +kernel
theorem dX3_prepare_111 : decode cX3_prepare 111 = .ok (.aload_n 0, 1) := by decide +kernel
theorem dX3_prepare_112 : decode cX3_prepare 112 = .ok (.getfield 9, 3) := by decide +kernel
theorem dX3_prepare_115 : decode cX3_prepare 115 = .ok (.iload_n 2, 1) := by decide +kernel
theorem dX3_prepare_116 : decode cX3_prepare 116 = .ok (.invokestatic 57, 3) := by decide +kernel
theorem dX3_prepare_119 : decode cX3_prepare 119 = .ok (.laload, 1) := by decide +kernel
theorem dX3_prepare_120 : decode cX3_prepare 120 = .ok (.invokestatic 44, 3) := by decide +kernel
theorem dX3_prepare_123 : decode cX3_prepare 123 = .ok (.aload_n 1, 1) := by decide +kernel
theorem dX3_prepare_124 : decode cX3_prepare 124 = .ok (.getfield 48, 3) := by decide +kernel
theorem dX3_prepare_127 : decode cX3_prepare 127 = .ok (.iconst 1, 1) := by decide +kernel
theorem dX3_prepare_128 : decode cX3_prepare 128 = .ok (.laload, 1) := by decide +kernel
theorem dX3_prepare_129 : decode cX3_prepare 129 = .ok (.land, 1) := by decide +kernel
theorem dX3_prepare_130 : decode cX3_prepare 130 = .ok (.invokestatic 51, 3) := by decide +kernel
theorem dX3_prepare_133 : decode cX3_prepare 133 = .ok (.iadd, 1) := by decide +kernel
theorem dX3_prepare_134 : decode cX3_prepare 134 = .ok (.iastore, 1) := by decide +kernel
theorem dX3_prepare_135 : decode cX3_prepare 135 = .ok (.iinc 2 1, 3) := by decide +kernel
theorem dX3_prepare_138 : decode cX3_prepare 138 = .ok (.goto (-73), 3) := by decide +kernel
theorem dX3_prepare_141 : decode cX3_prepare 141 = .ok (.return_, 1) := by decide +kernel
theorem dX3_start_0 : decode cX3_start 0 = .ok (.aload_n 0, 1) := by decide +kernel
theorem dX3_start_1 : decode cX3_start 1 = .ok (.iload_n 2, 1) := by decide +kernel
theorem dX3_start_2 : decode cX3_start 2 = .ok (.putfield 61, 3) := by decide +kernel
theorem dX3_start_5 : decode cX3_start 5 = .ok (.aload_n 0, 1) := by decide +kernel
theorem dX3_start_6 : decode cX3_start 6 = .ok (.aload_n 1, 1) := by decide +kernel
theorem dX3_start_7 : decode cX3_start 7 = .ok (.getfield 64, 3) := by decide +kernel
theorem dX3_start_10 : decode cX3_start 10 = .ok (.putfield 67, 3) := by decide +kernel
theorem dX3_start_13 : decode cX3_start 13 = .ok (.aload_n 0, 1) := by decide +kernel
theorem dX3_start_14 : decode cX3_start 14 = .ok (.aload_n 1, 1) := by decide +kernel
theorem dX3_start_15 : decode cX3_start 15 = .ok (.getfield 68, 3) := by decide +kernel
theorem dX3_start_18 : decode cX3_start 18 = .ok (.putfield 71, 3) := by decide +kernel
theorem dX3_start_21 : decode cX3_start 21 = .ok (.aload_n 0, 1) := by decide +kernel
theorem dX3_start_22 : decode cX3_start 22 = .ok (.aload_n 1, 1) := by decide +kernel
theorem dX3_start_23 : decode cX3_start 23 = .ok (.getfield 72, 3) := by decide +kernel
theorem dX3_start_26 : decode cX3_start 26 = .ok (.putfield 75, 3) := by decide +kernel
theorem dX3_start_29 : decode cX3_start 29 = .ok (.aload_n 0, 1) := by decide +kernel
theorem dX3_start_30 : decode cX3_start 30 = .ok (.iconst 0, 1) := by decide +kernel
theorem dX3_start_31 : decode cX3_start 31 = .ok (.putfield 76, 3) := by decide +kernel
theorem dX3_start_34 : decode cX3_start 34 = .ok (.iconst 0, 1) := by decide +kernel
theorem dX3_start_35 : decode cX3_start 35 = .ok (.istore_n 3, 1) := by decide +kernel
theorem dX3_start_36 : decode cX3_start 36 = .ok (.iload_n 3, 1) := by decide +kernel
theorem dX3_start_37 : decode cX3_start 37 = .ok (.sipush 720, 3) := by decide +kernel
theorem dX3_start_40 : decode cX3_start 40 = .ok (.if_icmp .ge 16, 3) := by decide +kernel
theorem dX3_start_43 : decode cX3_start 43 = .ok (.aload_n 0, 1) := by decide +kernel
theorem dX3_start_44 : decode cX3_start 44 = .ok (.getfield 19, 3) := by decide +kernel
theorem dX3_start_47 : decode cX3_start 47 = .ok (.iload_n 3, 1) := by decide +kernel
theorem dX3_start_48 : decode cX3_start 48 = .ok (.iconst 0, 1) := by decide +kernel
theorem dX3_start_49 : decode cX3_start 49 = .ok (.iastore, 1) := by decide +kernel
theorem dX3_start_50 : decode cX3_start 50 = .ok (.iinc 3 1, 3) := by decide +kernel
theorem dX3_start_53 : decode cX3_start 53 = .ok (.goto (-17), 3) := by decide +kernel
theorem dX3_start_56 : decode cX3_start 56 = .ok (.return_, 1) := by decide +kernel
set_option maxRecDepth 20000 in
theorem ggX3_goOn_X3_changeSpeed : GoodIn wsX3_goOn wsX3_changeSpeed := goodIn_r _ [6, 7, 8, 9, 10, 11, 12, 13, 14, 15, 16, 17, 18, 33, 34, 35, 36, 37, 38, 39, 40, 41, 42, 43] (by decide +kernel) (by decide +kernel)
set_option maxRecDepth 20000 in
theorem gX3_goOn_X3_changeSpeed : GoodIn wsX3_goOn (wsV RX3 79 RX3 yX3_changeSpeed wsX3_changeSpeed) := goodIn_app (goodIn_of _ (by decide +kernel)) ggX3_goOn_X3_changeSpeed
set_option maxRecDepth 20000 in
theorem ggX3_goOn_X3_turn : GoodIn wsX3_goOn wsX3_turn := goodIn_r _ [22, 10, 7, 23, 24, 14, 25, 26, 27, 1, 28, 29, 30, 31, 32, 33, 34, 35, 36, 37, 38, 39, 40, 41, 42, 43] (by decide +kernel) (by decide +kernel)
set_option maxRecDepth 20000 in
theorem gX3_goOn_X3_turn : GoodIn wsX3_goOn (wsV RX3 82 RX3 yX3_turn wsX3_turn) := goodIn_app (goodIn_of _ (by decide +kernel)) ggX3_goOn_X3_turn
theorem dX3_goOn_0 : decode cX3_goOn 0 = .ok (.iconst 0, 1) := by decide +kernel
theorem dX3_goOn_1 : decode cX3_goOn 1 = .ok (.istore_n 2, 1) := by decide +kernel
theorem dX3_goOn_2 : decode cX3_goOn 2 = .ok (.iload_n 2, 1) := by decide +kernel
theorem dX3_goOn_3 : decode cX3_goOn 3 = .ok (.iload_n 1, 1) := by decide +kernel
theorem dX3_goOn_4 : decode cX3_goOn 4 = .ok (.if_icmp .ge 27, 3) := by decide +kernel
theorem dX3_goOn_7 : decode cX3_goOn 7 = .ok (.aload_n 0, 1) := by decide +kernel
theorem dX3_goOn_8 : decode cX3_goOn 8 = .ok (.dup, 1) := by decide +kernel
theorem dX3_goOn_9 : decode cX3_goOn 9 = .ok (.getfield 76, 3) := by decide +kernel
theorem dX3_goOn_12 : decode cX3_goOn 12 = .ok (.iconst 1, 1) := by decide +kernel
theorem dX3_goOn_13 : decode cX3_goOn 13 = .ok (.iadd, 1) := by decide +kernel
theorem dX3_goOn_14 : decode cX3_goOn 14 = .ok (.putfield 76, 3) := by decide +kernel
theorem dX3_goOn_17 : decode cX3_goOn 17 = .ok (.aload_n 0, 1) := by decide +kernel
theorem dX3_goOn_18 : decode cX3_goOn 18 = .ok (.invokevirtual 79, 3) := by decide +kernel
theorem dX3_goOn_21 : decode cX3_goOn 21 = .ok (.aload_n 0, 1) := by decide +kernel
theorem dX3_goOn_22 : decode cX3_goOn 22 = .ok (.invokevirtual 82, 3) := by decide +kernel
theorem dX3_goOn_25 : decode cX3_goOn 25 = .ok (.iinc 2 1, 3) := by decide +kernel
theorem dX3_goOn_28 : decode cX3_goOn 28 = .ok (.goto (-26), 3) := by decide +kernel
theorem dX3_goOn_31 : decode cX3_goOn 31 = .ok (.return_, 1) := by decide +kernel
theorem dX3_changeSpeed_0 : decode cX3_changeSpeed 0 = .ok (.aload_n 0, 1) := by decide +kernel
theorem dX3_changeSpeed_1 : decode cX3_changeSpeed 1 = .ok (.getfield 75, 3) := by decide +kernel
theorem dX3_changeSpeed_4 : decode cX3_changeSpeed 4 = .ok (.aload_n 0, 1) := by decide +kernel
theorem dX3_changeSpeed_5 : decode cX3_changeSpeed 5 = .ok (.getfield 37, 3) := by decide +kernel
theorem dX3_changeSpeed_8 : decode cX3_changeSpeed 8 = .ok (.if_icmp .le 12, 3) := by decide +kernel
theorem dX3_changeSpeed_11 : decode cX3_changeSpeed 11 = .ok (.aload_n 0, 1) := by decide +kernel
theorem dX3_changeSpeed_12 : decode cX3_changeSpeed 12 = .ok (.getfield 34, 3) := by decide +kernel
theorem dX3_changeSpeed_15 : decode cX3_changeSpeed 15 = .ok (.iconst 2, 1) := by decide +kernel
theorem dX3_changeSpeed_16 : decode cX3_changeSpeed 16 = .ok (.idiv, 1) := by decide +kernel
theorem dX3_changeSpeed_17 : decode cX3_changeSpeed 17 = .ok (.goto 7, 3) := by decide +kernel
theorem dX3_changeSpeed_20 : decode cX3_changeSpeed 20 = .ok (.aload_n 0, 1) := by decide +kernel
theorem dX3_changeSpeed_21 : decode cX3_changeSpeed 21 = .ok (.getfield 34, 3) := by decide +kernel
theorem dX3_changeSpeed_24 : decode cX3_changeSpeed 24 = .ok (.istore_n 1, 1) := by decide +kernel
theorem dX3_changeSpeed_25 : decode cX3_changeSpeed 25 = .ok (.aload_n 0, 1) := by decide +kernel
theorem dX3_changeSpeed_26 : decode cX3_changeSpeed 26 = .ok (.dup, 1) := by decide +kernel
theorem dX3_changeSpeed_27 : decode cX3_changeSpeed 27 = .ok (.getfield 71, 3) := by decide +kernel
theorem dX3_changeSpeed_30 : decode cX3_changeSpeed 30 = .ok (.iload_n 1, 1) := by decide +kernel
theorem dX3_changeSpeed_31 : decode cX3_changeSpeed 31 = .ok (.ineg, 1) := by decide +kernel
theorem dX3_changeSpeed_32 : decode cX3_changeSpeed 32 = .ok (.iload_n 1, 1) := by decide +kernel
theorem dX3_changeSpeed_33 : decode cX3_changeSpeed 33 = .ok (.aload_n 0, 1) := by decide +kernel
theorem dX3_changeSpeed_34 : decode cX3_changeSpeed 34 = .ok (.getfield 61, 3) := by decide +kernel
theorem dX3_changeSpeed_37 : decode cX3_changeSpeed 37 = .ok (.aload_n 0, 1) := by decide +kernel
theorem dX3_changeSpeed_38 : decode cX3_changeSpeed 38 = .ok (.getfield 71, 3) := by decide +kernel
theorem dX3_changeSpeed_41 : decode cX3_changeSpeed 41 = .ok (.isub, 1) := by decide +kernel
theorem dX3_changeSpeed_42 : decode cX3_changeSpeed 42 = .ok (.invokestatic 85, 3) := by decide +kernel
theorem dX3_changeSpeed_45 : decode cX3_changeSpeed 45 = .ok (.invokestatic 91, 3) := by decide +kernel
theorem dX3_changeSpeed_48 : decode cX3_changeSpeed 48 = .ok (.iadd, 1) := by decide +kernel
theorem dX3_changeSpeed_49 : decode cX3_changeSpeed 49 = .ok (.putfield 71, 3) := by decide +kernel
theorem dX3_changeSpeed_52 : decode cX3_changeSpeed 52 = .ok (.return_, 1) := by decide +kernel
set_option maxRecDepth 20000 in
theorem ggX3_turn_J9_floorMod_7cf53 : GoodIn wsX3_turn wsJ9_floorMod_7cf53 := goodIn_r _ [14] (by decide +kernel) (by decide +kernel)
set_option maxRecDepth 20000 in
theorem gX3_turn_J9_floorMod_7cf53 : GoodIn wsX3_turn (va_wsS RX3 97 yJ9_floorMod_7cf53 wsJ9_floorMod_7cf53) := goodIn_app (goodIn_of _ (by decide +kernel)) ggX3_turn_J9_floorMod_7cf53
theorem dX3_turn_0 : decode cX3_turn 0 = .ok (.aload_n 0, 1) := by decide +kernel
theorem dX3_turn_1 : decode cX3_turn 1 = .ok (.getfield 71, 3) := by decide +kernel
theorem dX3_turn_4 : decode cX3_turn 4 = .ok (.ifCond .le 7, 3) := by decide +kernel
theorem dX3_turn_7 : decode cX3_turn 7 = .ok (.iconst 1, 1) := by decide +kernel
theorem dX3_turn_8 : decode cX3_turn 8 = .ok (.goto 4, 3) := by decide +kernel
theorem dX3_turn_11 : decode cX3_turn 11 = .ok (.iconst (-1), 1) := by decide +kernel
theorem dX3_turn_12 : decode cX3_turn 12 = .ok (.istore_n 1, 1) := by decide +kernel
theorem dX3_turn_13 : decode cX3_turn 13 = .ok (.aload_n 0, 1) := by decide +kernel
theorem dX3_turn_14 : decode cX3_turn 14 = .ok (.iconst 0, 1) := by decide +kernel
theorem dX3_turn_15 : decode cX3_turn 15 = .ok (.putfield 75, 3) := by decide +kernel
theorem dX3_turn_18 : decode cX3_turn 18 = .ok (.aload_n 0, 1) := by decide +kernel
theorem dX3_turn_19 : decode cX3_turn 19 = .ok (.getfield 71, 3) := by decide +kernel
theorem dX3_turn_22 : decode cX3_turn 22 = .ok (.invokestatic 94, 3) := by decide +kernel
theorem dX3_turn_25 : decode cX3_turn 25 = .ok (.istore_n 2, 1) := by decide +kernel
theorem dX3_turn_26 : decode cX3_turn 26 = .ok (.iload_n 2, 1) := by decide +kernel
theorem dX3_turn_27 : decode cX3_turn 27 = .ok (.ifCond .le 56, 3) := by decide +kernel
theorem dX3_turn_30 : decode cX3_turn 30 = .ok (.aload_n 0, 1) := by decide +kernel
theorem dX3_turn_31 : decode cX3_turn 31 = .ok (.aload_n 0, 1) := by decide +kernel
theorem dX3_turn_32 : decode cX3_turn 32 = .ok (.getfield 67, 3) := by decide +kernel
theorem dX3_turn_35 : decode cX3_turn 35 = .ok (.iload_n 1, 1) := by decide +kernel
theorem dX3_turn_36 : decode cX3_turn 36 = .ok (.iadd, 1) := by decide +kernel
theorem dX3_turn_37 : decode cX3_turn 37 = .ok (.sipush 720, 3) := by decide +kernel
theorem dX3_turn_40 : decode cX3_turn 40 = .ok (.invokestatic 97, 3) := by decide +kernel
theorem dX3_turn_43 : decode cX3_turn 43 = .ok (.putfield 67, 3) := by decide +kernel
theorem dX3_turn_46 : decode cX3_turn 46 = .ok (.aload_n 0, 1) := by decide +kernel
theorem dX3_turn_47 : decode cX3_turn 47 = .ok (.getfield 19, 3) := by decide +kernel
theorem dX3_turn_50 : decode cX3_turn 50 = .ok (.aload_n 0, 1) := by decide +kernel
theorem dX3_turn_51 : decode cX3_turn 51 = .ok (.getfield 67, 3) := by decide +kernel
theorem dX3_turn_54 : decode cX3_turn 54 = .ok (.aload_n 0, 1) := by decide +kernel
theorem dX3_turn_55 : decode cX3_turn 55 = .ok (.getfield 76, 3) := by decide +kernel
theorem dX3_turn_58 : decode cX3_turn 58 = .ok (.iastore, 1) := by decide +kernel
theorem dX3_turn_59 : decode cX3_turn 59 = .ok (.aload_n 0, 1) := by decide +kernel
theorem dX3_turn_60 : decode cX3_turn 60 = .ok (.dup, 1) := by decide +kernel
theorem dX3_turn_61 : decode cX3_turn 61 = .ok (.getfield 75, 3) := by decide +kernel
theorem dX3_turn_64 : decode cX3_turn 64 = .ok (.aload_n 0, 1) := by decide +kernel
theorem dX3_turn_65 : decode cX3_turn 65 = .ok (.getfield 15, 3) := by decide +kernel
theorem dX3_turn_68 : decode cX3_turn 68 = .ok (.aload_n 0, 1) := by decide +kernel
theorem dX3_turn_69 : decode cX3_turn 69 = .ok (.getfield 67, 3) := by decide +kernel
theorem dX3_turn_72 : decode cX3_turn 72 = .ok (.iaload, 1) := by decide +kernel
theorem dX3_turn_73 : decode cX3_turn 73 = .ok (.iadd, 1) := by decide +kernel
theorem dX3_turn_74 : decode cX3_turn 74 = .ok (.putfield 75, 3) := by decide +kernel
theorem dX3_turn_77 : decode cX3_turn 77 = .ok (.iinc 2 (-1), 3) := by decide +kernel
theorem dX3_turn_80 : decode cX3_turn 80 = .ok (.goto (-54), 3) := by decide +kernel
theorem dX3_turn_83 : decode cX3_turn 83 = .ok (.return_, 1) := by decide +kernel
theorem dX3_firstArmAt_0 : decode cX3_firstArmAt 0 = .ok (.aload_n 0, 1) := by decide +kernel
theorem dX3_firstArmAt_1 : decode cX3_firstArmAt 1 = .ok (.getfield 19, 3) := by decide +kernel
theorem dX3_firstArmAt_4 : decode cX3_firstArmAt 4 = .ok (.iload_n 1, 1) := by decide +kernel
theorem dX3_firstArmAt_5 : decode cX3_firstArmAt 5 = .ok (.iaload, 1) := by decide +kernel
theorem dX3_firstArmAt_6 : decode cX3_firstArmAt 6 = .ok (.ireturn, 1) := by decide +kernel
set_option maxRecDepth 20000 in
theorem ggX3_secondArmAt_X3_opposite : GoodIn wsX3_secondArmAt wsX3_opposite := goodIn_r _ [6] (by decide +kernel) (by decide +kernel)
set_option maxRecDepth 20000 in
theorem gX3_secondArmAt_X3_opposite : GoodIn wsX3_secondArmAt (va_wsS RX3 57 yX3_opposite wsX3_opposite) := goodIn_app (goodIn_of _ (by decide +kernel)) ggX3_secondArmAt_X3_opposite
theorem dX3_secondArmAt_0 : decode cX3_secondArmAt 0 = .ok (.aload_n 0, 1) := by decide +kernel
theorem dX3_secondArmAt_1 : decode cX3_secondArmAt 1 = .ok (.getfield 28, 3) := by decide +kernel
theorem dX3_secondArmAt_4 : decode cX3_secondArmAt 4 = .ok (.ifCond .eq 15, 3) := by decide +kernel
theorem dX3_secondArmAt_7 : decode cX3_secondArmAt 7 = .ok (.aload_n 0, 1) := by decide +kernel
theorem dX3_secondArmAt_8 : decode cX3_secondArmAt 8 = .ok (.getfield 19, 3) := by decide +kernel
theorem dX3_secondArmAt_11 : decode cX3_secondArmAt 11 = .ok (.iload_n 1, 1) := by decide +kernel
theorem dX3_secondArmAt_12 : decode cX3_secondArmAt 12 = .ok (.invokestatic 57, 3) := by decide +kernel
theorem dX3_secondArmAt_15 : decode cX3_secondArmAt 15 = .ok (.iaload, 1) := by decide +kernel
theorem dX3_secondArmAt_16 : decode cX3_secondArmAt 16 = .ok (.goto 4, 3) := by decide +kernel
theorem dX3_secondArmAt_19 : decode cX3_secondArmAt 19 = .ok (.iconst 0, 1) := by decide +kernel
theorem dX3_secondArmAt_20 : decode cX3_secondArmAt 20 = .ok (.ireturn, 1) := by decide +kernel
theorem dX3_opposite_0 : decode cX3_opposite 0 = .ok (.iload_n 0, 1) := by decide +kernel
theorem dX3_opposite_1 : decode cX3_opposite 1 = .ok (.sipush 360, 3) := by decide +kernel
theorem dX3_opposite_4 : decode cX3_opposite 4 = .ok (.iadd, 1) := by decide +kernel
theorem dX3_opposite_5 : decode cX3_opposite 5 = .ok (.sipush 720, 3) := by decide +kernel
theorem dX3_opposite_8 : decode cX3_opposite 8 = .ok (.irem, 1) := by decide +kernel
theorem dX3_opposite_9 : decode cX3_opposite 9 = .ok (.ireturn, 1) := by decide +kernel
set_option maxRecDepth 20000 in
theorem ggX4_init_X2_init : GoodIn wsX4_init wsX2_init := goodIn_r _ [26, 27, 2, 3, 28, 29, 30, 31, 32, 33, 34, 35, 36, 37, 22, 38, 39, 40, 41, 42, 43, 44, 45, 46, 47, 48, 49, 50, 51, 62, 63, 64, 65, 66, 67, 68, 69, 70, 71, 72, 99, 100, 101, 102, 103] (by decide +kernel) (by decide +kernel)
set_option maxRecDepth 20000 in
theorem gX4_init_X2_init : GoodIn wsX4_init (wsX2_init) := ggX4_init_X2_init
set_option maxRecDepth 20000 in
theorem ggX4_init_X1_init : GoodIn wsX4_init wsX1_init := goodIn_r _ [53, 54, 2, 3, 22, 55, 82, 83, 84, 85, 86, 87] (by decide +kernel) (by decide +kernel)
set_option maxRecDepth 20000 in
theorem gX4_init_X1_init_n36 : GoodIn wsX4_init (wsX1_init) := ggX4_init_X1_init
set_option maxRecDepth 20000 in
theorem ggX4_init_X3_init : GoodIn wsX4_init wsX3_init := goodIn_r _ [57, 58, 2, 3, 22, 59, 36, 60, 61, 88, 89, 90, 91, 92, 93, 94, 95, 96, 97, 98] (by decide +kernel) (by decide +kernel)
set_option maxRecDepth 20000 in
theorem gX4_init_X3_init_n43 : GoodIn wsX4_init (wsX3_init) := ggX4_init_X3_init
theorem dX4_init_0 : decode cX4_init 0 = .ok (.aload_n 0, 1) := by decide +kernel
theorem dX4_init_1 : decode cX4_init 1 = .ok (.invokespecial 1, 3) := by decide +kernel
theorem dX4_init_4 : decode cX4_init 4 = .ok (.aload_n 0, 1) := by decide +kernel
theorem dX4_init_5 : decode cX4_init 5 = .ok (.new 7, 3) := by decide +kernel
theorem dX4_init_8 : decode cX4_init 8 = .ok (.dup, 1) := by decide +kernel
theorem dX4_init_9 : decode cX4_init 9 = .ok (.invokespecial 9, 3) := by decide +kernel
theorem dX4_init_12 : decode cX4_init 12 = .ok (.putfield 10, 3) := by decide +kernel
theorem dX4_init_15 : decode cX4_init 15 = .ok (.aload_n 0, 1) := by decide +kernel
theorem dX4_init_16 : decode cX4_init 16 = .ok (.iconst 5, 1) := by decide +kernel
theorem dX4_init_17 : decode cX4_init 17 = .ok (.anewarray 7, 3) := by decide +kernel
theorem dX4_init_20 : decode cX4_init 20 = .ok (.putfield 16, 3) := by decide +kernel
theorem dX4_init_23 : decode cX4_init 23 = .ok (.aload_n 0, 1) := by decide +kernel
theorem dX4_init_24 : decode cX4_init 24 = .ok (.iconst 0, 1) := by decide +kernel
theorem dX4_init_25 : decode cX4_init 25 = .ok (.putfield 20, 3) := by decide +kernel
theorem dX4_init_28 : decode cX4_init 28 = .ok (.aload_n 0, 1) := by decide +kernel
theorem dX4_init_29 : decode cX4_init 29 = .ok (.iconst 0, 1) := by decide +kernel
theorem dX4_init_30 : decode cX4_init 30 = .ok (.putfield 24, 3) := by decide +kernel
theorem dX4_init_33 : decode cX4_init 33 = .ok (.aload_n 0, 1) := by decide +kernel
theorem dX4_init_34 : decode cX4_init 34 = .ok (.sipush 160, 3) := by decide +kernel
theorem dX4_init_37 : decode cX4_init 37 = .ok (.newarray .char, 2) := by decide +kernel
theorem dX4_init_39 : decode cX4_init 39 = .ok (.putfield 27, 3) := by decide +kernel
theorem dX4_init_42 : decode cX4_init 42 = .ok (.aload_n 0, 1) := by decide +kernel
theorem dX4_init_43 : decode cX4_init 43 = .ok (.iconst 0, 1) := by decide +kernel
theorem dX4_init_44 : decode cX4_init 44 = .ok (.putfield 31, 3) := by decide +kernel
theorem dX4_init_47 : decode cX4_init 47 = .ok (.aload_n 0, 1) := by decide +kernel
theorem dX4_init_48 : decode cX4_init 48 = .ok (.new 34, 3) := by decide +kernel
theorem dX4_init_51 : decode cX4_init 51 = .ok (.dup, 1) := by decide +kernel
theorem dX4_init_52 : decode cX4_init 52 = .ok (.invokespecial 36, 3) := by decide +kernel
theorem dX4_init_55 : decode cX4_init 55 = .ok (.putfield 37, 3) := by decide +kernel
theorem dX4_init_58 : decode cX4_init 58 = .ok (.aload_n 0, 1) := by decide +kernel
theorem dX4_init_59 : decode cX4_init 59 = .ok (.new 41, 3) := by decide +kernel
theorem dX4_init_62 : decode cX4_init 62 = .ok (.dup, 1) := by decide +kernel
theorem dX4_init_63 : decode cX4_init 63 = .ok (.invokespecial 43, 3) := by decide +kernel
theorem dX4_init_66 : decode cX4_init 66 = .ok (.putfield 44, 3) := by decide +kernel
theorem dX4_init_69 : decode cX4_init 69 = .ok (.aload_n 0, 1) := by decide +kernel
theorem dX4_init_70 : decode cX4_init 70 = .ok (.sipush 720, 3) := by decide +kernel
theorem dX4_init_73 : decode cX4_init 73 = .ok (.newarray .long, 2) := by decide +kernel
theorem dX4_init_75 : decode cX4_init 75 = .ok (.putfield 48, 3) := by decide +kernel
theorem dX4_init_78 : decode cX4_init 78 = .ok (.iconst 0, 1) := by decide +kernel
theorem dX4_init_79 : decode cX4_init 79 = .ok (.istore_n 1, 1) := by decide +kernel
theorem dX4_init_80 : decode cX4_init 80 = .ok (.iload_n 1, 1) := by decide +kernel
theorem dX4_init_81 : decode cX4_init 81 = .ok (.iconst 5, 1) := by decide +kernel
theorem dX4_init_82 : decode cX4_init 82 = .ok (.if_icmp .ge 22, 3) := by decide +kernel
theorem dX4_init_85 : decode cX4_init 85 = .ok (.aload_n 0, 1) := by decide +kernel
theorem dX4_init_86 : decode cX4_init 86 = .ok (.getfield 16, 3) := by decide +kernel
theorem dX4_init_89 : decode cX4_init 89 = .ok (.iload_n 1, 1) := by decide +kernel
theorem dX4_init_90 : decode cX4_init 90 = .ok (.new 7, 3) := by decide +kernel
theorem dX4_init_93 : decode cX4_init 93 = .ok (.dup, 1) := by decide +kernel
theorem dX4_init_94 : decode cX4_init 94 = .ok (.invokespecial 9, 3) := by decide +kernel
theorem dX4_init_97 : decode cX4_init 97 = .ok (.aastore, 1) := by decide +kernel
theorem dX4_init_98 : decode cX4_init 98 = .ok (.iinc 1 1, 3) := by decide +kernel
theorem dX4_init_101 : decode cX4_init 101 = .ok (.goto (-21), 3) := by decide +kernel
theorem dX4_init_104 : decode cX4_init 104 = .ok (.return_, 1) := by decide +kernel
set_option maxRecDepth 20000 in
theorem ggX4_addPicture_X4_within : GoodIn wsX4_addPicture wsX4_within := goodIn_r _ [8] (by decide +kernel) (by decide +kernel)
set_option maxRecDepth 20000 in
theorem gX4_addPicture_X4_within : GoodIn wsX4_addPicture (va_wsS RX4 52 yX4_within wsX4_within) := goodIn_app (goodIn_of _ (by decide +kernel)) ggX4_addPicture_X4_within
set_option maxRecDepth 20000 in
theorem ggX4_addPicture_X4_record : GoodIn wsX4_addPicture wsX4_record := goodIn_r _ [12, 13, 14, 15, 1, 16, 17, 18, 19, 20, 21, 22, 23, 24, 25, 26, 27, 28, 29, 30, 31, 32, 33, 34, 35, 36, 37, 38, 39, 40, 41, 42, 43, 44, 45, 46, 47, 48, 49, 50, 51, 52, 53, 54, 55, 56, 57, 58, 59, 60, 61, 62, 63, 64, 65, 66, 67, 68, 69, 70, 71] (by decide +kernel) (by decide +kernel)
set_option maxRecDepth 20000 in
theorem gX4_addPicture_X4_record : GoodIn wsX4_addPicture (wsV RX4 59 RX4 yX4_record wsX4_record) := goodIn_app (goodIn_of _ (by decide +kernel)) ggX4_addPicture_X4_record
theorem dX4_addPicture_0 : decode cX4_addPicture 0 = .ok (.iload_n 1, 1) := by decide +kernel
theorem dX4_addPicture_1 : decode cX4_addPicture 1 = .ok (.iconst 1, 1) := by decide +kernel
theorem dX4_addPicture_2 : decode cX4_addPicture 2 = .ok (.bipush 40, 2) := by decide +kernel
theorem dX4_addPicture_4 : decode cX4_addPicture 4 = .ok (.invokestatic 52, 3) := by decide +kernel
theorem dX4_addPicture_7 : decode cX4_addPicture 7 = .ok (.ifCond .ne 6, 3) := by decide +kernel
theorem dX4_addPicture_10 : decode cX4_addPicture 10 = .ok (.bipush (-101), 2) := by decide +kernel
theorem dX4_addPicture_12 : decode cX4_addPicture 12 = .ok (.ireturn, 1) := by decide +kernel
theorem dX4_addPicture_13 : decode cX4_addPicture 13 = .ok (.aload_n 0, 1) := by decide +kernel
theorem dX4_addPicture_14 : decode cX4_addPicture 14 = .ok (.getfield 10, 3) := by decide +kernel
theorem dX4_addPicture_17 : decode cX4_addPicture 17 = .ok (.getfield 56, 3) := by decide +kernel
theorem dX4_addPicture_20 : decode cX4_addPicture 20 = .ok (.iconst 4, 1) := by decide +kernel
theorem dX4_addPicture_21 : decode cX4_addPicture 21 = .ok (.if_icmp .lt 6, 3) := by decide +kernel
theorem dX4_addPicture_24 : decode cX4_addPicture 24 = .ok (.bipush (-103), 2) := by decide +kernel
theorem dX4_addPicture_26 : decode cX4_addPicture 26 = .ok (.ireturn, 1) := by decide +kernel
theorem dX4_addPicture_27 : decode cX4_addPicture 27 = .ok (.aload_n 0, 1) := by decide +kernel
theorem dX4_addPicture_28 : decode cX4_addPicture 28 = .ok (.invokevirtual 59, 3) := by decide +kernel
theorem dX4_addPicture_31 : decode cX4_addPicture 31 = .ok (.aload_n 0, 1) := by decide +kernel
theorem dX4_addPicture_32 : decode cX4_addPicture 32 = .ok (.getfield 10, 3) := by decide +kernel
theorem dX4_addPicture_35 : decode cX4_addPicture 35 = .ok (.getfield 56, 3) := by decide +kernel
theorem dX4_addPicture_38 : decode cX4_addPicture 38 = .ok (.istore_n 2, 1) := by decide +kernel
theorem dX4_addPicture_39 : decode cX4_addPicture 39 = .ok (.aload_n 0, 1) := by decide +kernel
theorem dX4_addPicture_40 : decode cX4_addPicture 40 = .ok (.getfield 10, 3) := by decide +kernel
theorem dX4_addPicture_43 : decode cX4_addPicture 43 = .ok (.getfield 62, 3) := by decide +kernel
theorem dX4_addPicture_46 : decode cX4_addPicture 46 = .ok (.iload_n 2, 1) := by decide +kernel
theorem dX4_addPicture_47 : decode cX4_addPicture 47 = .ok (.aaload, 1) := by decide +kernel
theorem dX4_addPicture_48 : decode cX4_addPicture 48 = .ok (.iload_n 1, 1) := by decide +kernel
theorem dX4_addPicture_49 : decode cX4_addPicture 49 = .ok (.putfield 66, 3) := by decide +kernel
theorem dX4_addPicture_52 : decode cX4_addPicture 52 = .ok (.aload_n 0, 1) := by decide +kernel
theorem dX4_addPicture_53 : decode cX4_addPicture 53 = .ok (.getfield 10, 3) := by decide +kernel
theorem dX4_addPicture_56 : decode cX4_addPicture 56 = .ok (.dup, 1) := by decide +kernel
theorem dX4_addPicture_57 : decode cX4_addPicture 57 = .ok (.getfield 56, 3) := by decide +kernel
theorem dX4_addPicture_60 : decode cX4_addPicture 60 = .ok (.iconst 1, 1) := by decide +kernel
theorem dX4_addPicture_61 : decode cX4_addPicture 61 = .ok (.iadd, 1) := by decide +kernel
theorem dX4_addPicture_62 : decode cX4_addPicture 62 = .ok (.putfield 56, 3) := by decide +kernel
theorem dX4_addPicture_65 : decode cX4_addPicture 65 = .ok (.iload_n 2, 1) := by decide +kernel
theorem dX4_addPicture_66 : decode cX4_addPicture 66 = .ok (.ireturn, 1) := by decide +kernel
set_option maxRecDepth 20000 in
theorem ggX4_paint_X2_pictureNumbered : GoodIn wsX4_paint wsX2_pictureNumbered := goodIn_r _ [8, 9, 10, 11, 12, 13, 72, 73, 74, 75, 76, 77, 78, 79, 80, 81, 82] (by decide +kernel) (by decide +kernel)
set_option maxRecDepth 20000 in
theorem gX4_paint_X2_pictureNumbered : GoodIn wsX4_paint (wsV RX4 71 RX2 yX2_pictureNumbered wsX2_pictureNumbered) := goodIn_app (goodIn_of _ (by decide +kernel)) ggX4_paint_X2_pictureNumbered
set_option maxRecDepth 20000 in
theorem ggX4_paint_X4_within : GoodIn wsX4_paint wsX4_within := goodIn_r _ [13] (by decide +kernel) (by decide +kernel)
set_option maxRecDepth 20000 in
theorem gX4_paint_X4_within : GoodIn wsX4_paint (va_wsS RX4 52 yX4_within wsX4_within) := goodIn_app (goodIn_of _ (by decide +kernel)) ggX4_paint_X4_within
set_option maxRecDepth 20000 in
theorem ggX4_paint_X4_record : GoodIn wsX4_paint wsX4_record := goodIn_r _ [18, 19, 20, 21, 1, 22, 23, 24, 7, 25, 9, 10, 26, 27, 28, 29, 30, 31, 32, 33, 34, 35, 36, 37, 38, 39, 40, 41, 42, 43, 44, 45, 46, 47, 48, 49, 58, 59, 60, 61, 62, 63, 64, 65, 66, 72, 73, 74, 75, 76, 77, 78, 79, 80, 81, 82, 67, 68, 69, 70, 71] (by decide +kernel) (by decide +kernel)
set_option maxRecDepth 20000 in
theorem gX4_paint_X4_record : GoodIn wsX4_paint (wsV RX4 59 RX4 yX4_record wsX4_record) := goodIn_app (goodIn_of _ (by decide +kernel)) ggX4_paint_X4_record
set_option maxRecDepth 20000 in
theorem ggX4_paint_X4_colorIn : GoodIn wsX4_paint wsX4_colorIn := goodIn_r _ [52] (by decide +kernel) (by decide +kernel)
set_option maxRecDepth 20000 in
theorem gX4_paint_X4_colorIn : GoodIn wsX4_paint (va_wsS RX4 78 yX4_colorIn wsX4_colorIn) := goodIn_app (goodIn_of _ (by decide +kernel)) ggX4_paint_X4_colorIn
set_option maxRecDepth 20000 in
theorem ggX4_paint_X4_withColor : GoodIn wsX4_paint wsX4_withColor := goodIn_r _ [55, 56, 57] (by decide +kernel) (by decide +kernel)
set_option maxRecDepth 20000 in
theorem gX4_paint_X4_withColor : GoodIn wsX4_paint (va_wsS RX4 82 yX4_withColor wsX4_withColor) := goodIn_app (goodIn_of _ (by decide +kernel)) ggX4_paint_X4_withColor
theorem dX4_paint_0 : decode cX4_paint 0 = .ok (.aload_n 0, 1) := by decide +kernel
theorem dX4_paint_1 : decode cX4_paint 1 = .ok (.getfield 10, 3) := by decide +kernel
theorem dX4_paint_4 : decode cX4_paint 4 = .ok (.iload_n 1, 1) := by decide +kernel
theorem dX4_paint_5 : decode cX4_paint 5 = .ok (.invokevirtual 71, 3) := by decide +kernel
theorem dX4_paint_8 : decode cX4_paint 8 = .ok (.astore 5, 2) := by decide +kernel
theorem dX4_paint_10 : decode cX4_paint 10 = .ok (.aload 5, 2) := by decide +kernel
theorem dX4_paint_12 : decode cX4_paint 12 = .ok (.ifnull 39, 3) := by decide +kernel
theorem dX4_paint_15 : decode cX4_paint 15 = .ok (.iload_n 2, 1) := by decide +kernel
theorem dX4_paint_16 : decode cX4_paint 16 = .ok (.iconst 0, 1) := by decide +kernel
theorem dX4_paint_17 : decode cX4_paint 17 = .ok (.aload 5, 2) := by decide +kernel
theorem dX4_paint_19 : decode cX4_paint 19 = .ok (.getfield 66, 3) := by decide +kernel
theorem dX4_paint_22 : decode cX4_paint 22 = .ok (.iconst 1, 1) := by decide +kernel
theorem dX4_paint_23 : decode cX4_paint 23 = .ok (.isub, 1) := by decide +kernel
theorem dX4_paint_24 : decode cX4_paint 24 = .ok (.invokestatic 52, 3) := by decide +kernel
theorem dX4_paint_27 : decode cX4_paint 27 = .ok (.ifCond .eq 24, 3) := by decide +kernel
theorem dX4_paint_30 : decode cX4_paint 30 = .ok (.iload_n 3, 1) := by decide +kernel
theorem dX4_paint_31 : decode cX4_paint 31 = .ok (.iconst 0, 1) := by decide +kernel
theorem dX4_paint_32 : decode cX4_paint 32 = .ok (.bipush 11, 2) := by decide +kernel
theorem dX4_paint_34 : decode cX4_paint 34 = .ok (.invokestatic 52, 3) := by decide +kernel
theorem dX4_paint_37 : decode cX4_paint 37 = .ok (.ifCond .eq 14, 3) := by decide +kernel
theorem dX4_paint_40 : decode cX4_paint 40 = .ok (.iload 4, 2) := by decide +kernel
theorem dX4_paint_42 : decode cX4_paint 42 = .ok (.iconst 0, 1) := by decide +kernel
theorem dX4_paint_43 : decode cX4_paint 43 = .ok (.bipush 7, 2) := by decide +kernel
theorem dX4_paint_45 : decode cX4_paint 45 = .ok (.invokestatic 52, 3) := by decide +kernel
theorem dX4_paint_48 : decode cX4_paint 48 = .ok (.ifCond .ne 6, 3) := by decide +kernel
theorem dX4_paint_51 : decode cX4_paint 51 = .ok (.bipush (-101), 2) := by decide +kernel
theorem dX4_paint_53 : decode cX4_paint 53 = .ok (.ireturn, 1) := by decide +kernel
theorem dX4_paint_54 : decode cX4_paint 54 = .ok (.aload_n 0, 1) := by decide +kernel
theorem dX4_paint_55 : decode cX4_paint 55 = .ok (.invokevirtual 59, 3) := by decide +kernel
theorem dX4_paint_58 : decode cX4_paint 58 = .ok (.aload 5, 2) := by decide +kernel
theorem dX4_paint_60 : decode cX4_paint 60 = .ok (.getfield 75, 3) := by decide +kernel
theorem dX4_paint_63 : decode cX4_paint 63 = .ok (.iload_n 2, 1) := by decide +kernel
theorem dX4_paint_64 : decode cX4_paint 64 = .ok (.laload, 1) := by decide +kernel
theorem dX4_paint_65 : decode cX4_paint 65 = .ok (.iload_n 3, 1) := by decide +kernel
theorem dX4_paint_66 : decode cX4_paint 66 = .ok (.invokestatic 78, 3) := by decide +kernel
theorem dX4_paint_69 : decode cX4_paint 69 = .ok (.istore 6, 2) := by decide +kernel
theorem dX4_paint_71 : decode cX4_paint 71 = .ok (.aload 5, 2) := by decide +kernel
theorem dX4_paint_73 : decode cX4_paint 73 = .ok (.getfield 75, 3) := by decide +kernel
theorem dX4_paint_76 : decode cX4_paint 76 = .ok (.iload_n 2, 1) := by decide +kernel
theorem dX4_paint_77 : decode cX4_paint 77 = .ok (.aload 5, 2) := by decide +kernel
theorem dX4_paint_79 : decode cX4_paint 79 = .ok (.getfield 75, 3) := by decide +kernel
theorem dX4_paint_82 : decode cX4_paint 82 = .ok (.iload_n 2, 1) := by decide +kernel
theorem dX4_paint_83 : decode cX4_paint 83 = .ok (.laload, 1) := by decide +kernel
theorem dX4_paint_84 : decode cX4_paint 84 = .ok (.iload_n 3, 1) := by decide +kernel
theorem dX4_paint_85 : decode cX4_paint 85 = .ok (.iload 4, 2) := by decide +kernel
theorem dX4_paint_87 : decode cX4_paint 87 = .ok (.invokestatic 82, 3) := by decide +kernel
theorem dX4_paint_90 : decode cX4_paint 90 = .ok (.lastore, 1) := by decide +kernel
theorem dX4_paint_91 : decode cX4_paint 91 = .ok (.iload 6, 2) := by decide +kernel
theorem dX4_paint_93 : decode cX4_paint 93 = .ok (.ireturn, 1) := by decide +kernel
set_option maxRecDepth 20000 in
theorem ggX4_setPlace_X2_pictureNumbered : GoodIn wsX4_setPlace wsX2_pictureNumbered := goodIn_r _ [8, 9, 10, 11, 12, 13, 64, 65, 66, 67, 68, 69, 70, 71, 72, 73, 74] (by decide +kernel) (by decide +kernel)
set_option maxRecDepth 20000 in
theorem gX4_setPlace_X2_pictureNumbered : GoodIn wsX4_setPlace (wsV RX4 71 RX2 yX2_pictureNumbered wsX2_pictureNumbered) := goodIn_app (goodIn_of _ (by decide +kernel)) ggX4_setPlace_X2_pictureNumbered
set_option maxRecDepth 20000 in
theorem ggX4_setPlace_X4_within : GoodIn wsX4_setPlace wsX4_within := goodIn_r _ [13] (by decide +kernel) (by decide +kernel)
set_option maxRecDepth 20000 in
theorem gX4_setPlace_X4_within : GoodIn wsX4_setPlace (va_wsS RX4 52 yX4_within wsX4_within) := goodIn_app (goodIn_of _ (by decide +kernel)) ggX4_setPlace_X4_within
set_option maxRecDepth 20000 in
theorem ggX4_setPlace_X4_record : GoodIn wsX4_setPlace wsX4_record := goodIn_r _ [18, 19, 20, 21, 1, 22, 23, 24, 7, 25, 9, 10, 26, 27, 28, 29, 30, 31, 32, 33, 34, 35, 36, 37, 38, 39, 40, 41, 42, 43, 44, 45, 46, 47, 48, 49, 50, 51, 52, 53, 54, 55, 56, 57, 58, 64, 65, 66, 67, 68, 69, 70, 71, 72, 73, 74, 59, 60, 61, 62, 63] (by decide +kernel) (by decide +kernel)
set_option maxRecDepth 20000 in
theorem gX4_setPlace_X4_record : GoodIn wsX4_setPlace (wsV RX4 59 RX4 yX4_record wsX4_record) := goodIn_app (goodIn_of _ (by decide +kernel)) ggX4_setPlace_X4_record
theorem dX4_setPlace_0 : decode cX4_setPlace 0 = .ok (.aload_n 0, 1) := by decide +kernel
theorem dX4_setPlace_1 : decode cX4_setPlace 1 = .ok (.getfield 10, 3) := by decide +kernel
theorem dX4_setPlace_4 : decode cX4_setPlace 4 = .ok (.iload_n 1, 1) := by decide +kernel
theorem dX4_setPlace_5 : decode cX4_setPlace 5 = .ok (.invokevirtual 71, 3) := by decide +kernel
theorem dX4_setPlace_8 : decode cX4_setPlace 8 = .ok (.astore 4, 2) := by decide +kernel
theorem dX4_setPlace_10 : decode cX4_setPlace 10 = .ok (.aload 4, 2) := by decide +kernel
theorem dX4_setPlace_12 : decode cX4_setPlace 12 = .ok (.ifnull 24, 3) := by decide +kernel
theorem dX4_setPlace_15 : decode cX4_setPlace 15 = .ok (.iload_n 2, 1) := by decide +kernel
theorem dX4_setPlace_16 : decode cX4_setPlace 16 = .ok (.iconst 0, 1) := by decide +kernel
theorem dX4_setPlace_17 : decode cX4_setPlace 17 = .ok (.sipush 719, 3) := by decide +kernel
theorem dX4_setPlace_20 : decode cX4_setPlace 20 = .ok (.invokestatic 52, 3) := by decide +kernel
theorem dX4_setPlace_23 : decode cX4_setPlace 23 = .ok (.ifCond .eq 13, 3) := by decide +kernel
theorem dX4_setPlace_26 : decode cX4_setPlace 26 = .ok (.iload_n 3, 1) := by decide +kernel
theorem dX4_setPlace_27 : decode cX4_setPlace 27 = .ok (.iconst 1, 1) := by decide +kernel
theorem dX4_setPlace_28 : decode cX4_setPlace 28 = .ok (.bipush 18, 2) := by decide +kernel
theorem dX4_setPlace_30 : decode cX4_setPlace 30 = .ok (.invokestatic 52, 3) := by decide +kernel
theorem dX4_setPlace_33 : decode cX4_setPlace 33 = .ok (.ifCond .ne 6, 3) := by decide +kernel
theorem dX4_setPlace_36 : decode cX4_setPlace 36 = .ok (.bipush (-101), 2) := by decide +kernel
theorem dX4_setPlace_38 : decode cX4_setPlace 38 = .ok (.ireturn, 1) := by decide +kernel
theorem dX4_setPlace_39 : decode cX4_setPlace 39 = .ok (.aload_n 0, 1) := by decide +kernel
theorem dX4_setPlace_40 : decode cX4_setPlace 40 = .ok (.invokevirtual 59, 3) := by decide +kernel
theorem dX4_setPlace_43 : decode cX4_setPlace 43 = .ok (.aload 4, 2) := by decide +kernel
theorem dX4_setPlace_45 : decode cX4_setPlace 45 = .ok (.getfield 86, 3) := by decide +kernel
theorem dX4_setPlace_48 : decode cX4_setPlace 48 = .ok (.istore 5, 2) := by decide +kernel
theorem dX4_setPlace_50 : decode cX4_setPlace 50 = .ok (.aload 4, 2) := by decide +kernel
theorem dX4_setPlace_52 : decode cX4_setPlace 52 = .ok (.iload_n 2, 1) := by decide +kernel
theorem dX4_setPlace_53 : decode cX4_setPlace 53 = .ok (.putfield 86, 3) := by decide +kernel
theorem dX4_setPlace_56 : decode cX4_setPlace 56 = .ok (.aload 4, 2) := by decide +kernel
theorem dX4_setPlace_58 : decode cX4_setPlace 58 = .ok (.iload_n 3, 1) := by decide +kernel
theorem dX4_setPlace_59 : decode cX4_setPlace 59 = .ok (.putfield 89, 3) := by decide +kernel
theorem dX4_setPlace_62 : decode cX4_setPlace 62 = .ok (.iload 5, 2) := by decide +kernel
theorem dX4_setPlace_64 : decode cX4_setPlace 64 = .ok (.ireturn, 1) := by decide +kernel
set_option maxRecDepth 20000 in
theorem ggX4_setKind_X2_pictureNumbered : GoodIn wsX4_setKind wsX2_pictureNumbered := goodIn_r _ [7, 8, 9, 10, 11, 12, 63, 64, 65, 66, 67, 68, 69, 70, 71, 72, 73] (by decide +kernel) (by decide +kernel)
set_option maxRecDepth 20000 in
theorem gX4_setKind_X2_pictureNumbered : GoodIn wsX4_setKind (wsV RX4 71 RX2 yX2_pictureNumbered wsX2_pictureNumbered) := goodIn_app (goodIn_of _ (by decide +kernel)) ggX4_setKind_X2_pictureNumbered
set_option maxRecDepth 20000 in
theorem ggX4_setKind_X4_within : GoodIn wsX4_setKind wsX4_within := goodIn_r _ [12] (by decide +kernel) (by decide +kernel)
set_option maxRecDepth 20000 in
theorem gX4_setKind_X4_within : GoodIn wsX4_setKind (va_wsS RX4 52 yX4_within wsX4_within) := goodIn_app (goodIn_of _ (by decide +kernel)) ggX4_setKind_X4_within
set_option maxRecDepth 20000 in
theorem ggX4_setKind_X4_record : GoodIn wsX4_setKind wsX4_record := goodIn_r _ [17, 18, 19, 20, 1, 21, 22, 23, 6, 24, 8, 9, 25, 26, 27, 28, 29, 30, 31, 32, 33, 34, 35, 36, 37, 38, 39, 40, 41, 42, 43, 44, 45, 46, 47, 48, 49, 50, 51, 52, 53, 54, 55, 56, 57, 63, 64, 65, 66, 67, 68, 69, 70, 71, 72, 73, 58, 59, 60, 61, 62] (by decide +kernel) (by decide +kernel)
set_option maxRecDepth 20000 in
theorem gX4_setKind_X4_record : GoodIn wsX4_setKind (wsV RX4 59 RX4 yX4_record wsX4_record) := goodIn_app (goodIn_of _ (by decide +kernel)) ggX4_setKind_X4_record
theorem dX4_setKind_0 : decode cX4_setKind 0 = .ok (.aload_n 0, 1) := by decide +kernel
theorem dX4_setKind_1 : decode cX4_setKind 1 = .ok (.getfield 10, 3) := by decide +kernel
theorem dX4_setKind_4 : decode cX4_setKind 4 = .ok (.iload_n 1, 1) := by decide +kernel
theorem dX4_setKind_5 : decode cX4_setKind 5 = .ok (.invokevirtual 71, 3) := by decide +kernel
theorem dX4_setKind_8 : decode cX4_setKind 8 = .ok (.astore_n 3, 1) := by decide +kernel
theorem dX4_setKind_9 : decode cX4_setKind 9 = .ok (.aload_n 3, 1) := by decide +kernel
theorem dX4_setKind_10 : decode cX4_setKind 10 = .ok (.ifnull 12, 3) := by decide +kernel
theorem dX4_setKind_13 : decode cX4_setKind 13 = .ok (.iload_n 2, 1) := by decide +kernel
theorem dX4_setKind_14 : decode cX4_setKind 14 = .ok (.iconst 0, 1) := by decide +kernel
theorem dX4_setKind_15 : decode cX4_setKind 15 = .ok (.iconst 2, 1) := by decide +kernel
theorem dX4_setKind_16 : decode cX4_setKind 16 = .ok (.invokestatic 52, 3) := by decide +kernel
theorem dX4_setKind_19 : decode cX4_setKind 19 = .ok (.ifCond .ne 6, 3) := by decide +kernel
theorem dX4_setKind_22 : decode cX4_setKind 22 = .ok (.bipush (-101), 2) := by decide +kernel
theorem dX4_setKind_24 : decode cX4_setKind 24 = .ok (.ireturn, 1) := by decide +kernel
theorem dX4_setKind_25 : decode cX4_setKind 25 = .ok (.aload_n 0, 1) := by decide +kernel
theorem dX4_setKind_26 : decode cX4_setKind 26 = .ok (.invokevirtual 59, 3) := by decide +kernel
theorem dX4_setKind_29 : decode cX4_setKind 29 = .ok (.aload_n 3, 1) := by decide +kernel
theorem dX4_setKind_30 : decode cX4_setKind 30 = .ok (.getfield 92, 3) := by decide +kernel
theorem dX4_setKind_33 : decode cX4_setKind 33 = .ok (.istore 4, 2) := by decide +kernel
theorem dX4_setKind_35 : decode cX4_setKind 35 = .ok (.aload_n 3, 1) := by decide +kernel
theorem dX4_setKind_36 : decode cX4_setKind 36 = .ok (.iload_n 2, 1) := by decide +kernel
theorem dX4_setKind_37 : decode cX4_setKind 37 = .ok (.putfield 92, 3) := by decide +kernel
theorem dX4_setKind_40 : decode cX4_setKind 40 = .ok (.iload 4, 2) := by decide +kernel
theorem dX4_setKind_42 : decode cX4_setKind 42 = .ok (.ireturn, 1) := by decide +kernel
set_option maxRecDepth 20000 in
theorem ggX4_append_X4_within : GoodIn wsX4_append wsX4_within := goodIn_r _ [6] (by decide +kernel) (by decide +kernel)
set_option maxRecDepth 20000 in
theorem gX4_append_X4_within : GoodIn wsX4_append (va_wsS RX4 52 yX4_within wsX4_within) := goodIn_app (goodIn_of _ (by decide +kernel)) ggX4_append_X4_within
theorem dX4_append_0 : decode cX4_append 0 = .ok (.iload_n 1, 1) := by decide +kernel
theorem dX4_append_1 : decode cX4_append 1 = .ok (.iconst 1, 1) := by decide +kernel
theorem dX4_append_2 : decode cX4_append 2 = .ok (.sipush 255, 3) := by decide +kernel
theorem dX4_append_5 : decode cX4_append 5 = .ok (.invokestatic 52, 3) := by decide +kernel
theorem dX4_append_8 : decode cX4_append 8 = .ok (.ifCond .ne 6, 3) := by decide +kernel
theorem dX4_append_11 : decode cX4_append 11 = .ok (.bipush (-101), 2) := by decide +kernel
theorem dX4_append_13 : decode cX4_append 13 = .ok (.ireturn, 1) := by decide +kernel
theorem dX4_append_14 : decode cX4_append 14 = .ok (.aload_n 0, 1) := by decide +kernel
theorem dX4_append_15 : decode cX4_append 15 = .ok (.getfield 31, 3) := by decide +kernel
theorem dX4_append_18 : decode cX4_append 18 = .ok (.sipush 160, 3) := by decide +kernel
theorem dX4_append_21 : decode cX4_append 21 = .ok (.if_icmp .lt 6, 3) := by decide +kernel
theorem dX4_append_24 : decode cX4_append 24 = .ok (.bipush (-103), 2) := by decide +kernel
theorem dX4_append_26 : decode cX4_append 26 = .ok (.ireturn, 1) := by decide +kernel
theorem dX4_append_27 : decode cX4_append 27 = .ok (.aload_n 0, 1) := by decide +kernel
theorem dX4_append_28 : decode cX4_append 28 = .ok (.getfield 27, 3) := by decide +kernel
theorem dX4_append_31 : decode cX4_append 31 = .ok (.aload_n 0, 1) := by decide +kernel
theorem dX4_append_32 : decode cX4_append 32 = .ok (.getfield 31, 3) := by decide +kernel
theorem dX4_append_35 : decode cX4_append 35 = .ok (.iload_n 1, 1) := by decide +kernel
theorem dX4_append_36 : decode cX4_append 36 = .ok (.i2c, 1) := by decide +kernel
theorem dX4_append_37 : decode cX4_append 37 = .ok (.castore, 1) := by decide +kernel
theorem dX4_append_38 : decode cX4_append 38 = .ok (.aload_n 0, 1) := by decide +kernel
theorem dX4_append_39 : decode cX4_append 39 = .ok (.dup, 1) := by decide +kernel
theorem dX4_append_40 : decode cX4_append 40 = .ok (.getfield 31, 3) := by decide +kernel
theorem dX4_append_43 : decode cX4_append 43 = .ok (.iconst 1, 1) := by decide +kernel
theorem dX4_append_44 : decode cX4_append 44 = .ok (.iadd, 1) := by decide +kernel
theorem dX4_append_45 : decode cX4_append 45 = .ok (.putfield 31, 3) := by decide +kernel
theorem dX4_append_48 : decode cX4_append 48 = .ok (.aload_n 0, 1) := by decide +kernel
theorem dX4_append_49 : decode cX4_append 49 = .ok (.getfield 31, 3) := by decide +kernel
theorem dX4_append_52 : decode cX4_append 52 = .ok (.ireturn, 1) := by decide +kernel
theorem dX4_clearText_0 : decode cX4_clearText 0 = .ok (.aload_n 0, 1) := by decide +kernel
theorem dX4_clearText_1 : decode cX4_clearText 1 = .ok (.getfield 31, 3) := by decide +kernel
theorem dX4_clearText_4 : decode cX4_clearText 4 = .ok (.istore_n 1, 1) := by decide +kernel
theorem dX4_clearText_5 : decode cX4_clearText 5 = .ok (.aload_n 0, 1) := by decide +kernel
theorem dX4_clearText_6 : decode cX4_clearText 6 = .ok (.iconst 0, 1) := by decide +kernel
theorem dX4_clearText_7 : decode cX4_clearText 7 = .ok (.putfield 31, 3) := by decide +kernel
theorem dX4_clearText_10 : decode cX4_clearText 10 = .ok (.iload_n 1, 1) := by decide +kernel
theorem dX4_clearText_11 : decode cX4_clearText 11 = .ok (.ireturn, 1) := by decide +kernel
set_option maxRecDepth 20000 in
theorem ggX4_load_X2_pictureNumbered : GoodIn wsX4_load wsX2_pictureNumbered := goodIn_r _ [17, 18, 19, 20, 21, 22, 114, 115, 116, 117, 118, 119, 120, 121, 122, 123, 124] (by decide +kernel) (by decide +kernel)
set_option maxRecDepth 20000 in
theorem gX4_load_X2_pictureNumbered : GoodIn wsX4_load (wsV RX4 71 RX2 yX2_pictureNumbered wsX2_pictureNumbered) := goodIn_app (goodIn_of _ (by decide +kernel)) ggX4_load_X2_pictureNumbered
set_option maxRecDepth 20000 in
theorem ggX4_load_X1_read : GoodIn wsX4_load wsX1_read := goodIn_r _ [27, 28, 29, 30, 31, 32, 33, 34, 26, 35, 36, 37, 38, 39, 40, 41, 42, 43, 44, 45, 46, 47, 48, 49, 50, 21, 51, 52, 53, 54, 55, 56, 57, 58, 59, 60, 61, 103, 104, 105, 106, 107, 108] (by decide +kernel) (by decide +kernel)
set_option maxRecDepth 20000 in
theorem gX4_load_X1_read : GoodIn wsX4_load (wsV RX4 95 RX1 yX1_read wsX1_read) := goodIn_app (goodIn_of _ (by decide +kernel)) ggX4_load_X1_read
set_option maxRecDepth 20000 in
theorem ggX4_load_X4_record : GoodIn wsX4_load wsX4_record := goodIn_r _ [65, 66, 67, 68, 1, 69, 70, 71, 16, 72, 18, 19, 73, 74, 75, 76, 77, 78, 79, 10, 11, 12, 80, 81, 82, 83, 84, 85, 86, 87, 88, 89, 90, 91, 92, 93, 94, 95, 96, 97, 98, 99, 100, 101, 102, 114, 115, 116, 117, 118, 119, 120, 121, 122, 123, 124, 109, 110, 111, 112, 113] (by decide +kernel) (by decide +kernel)
set_option maxRecDepth 20000 in
theorem gX4_load_X4_record : GoodIn wsX4_load (wsV RX4 59 RX4 yX4_record wsX4_record) := goodIn_app (goodIn_of _ (by decide +kernel)) ggX4_load_X4_record
theorem dX4_load_0 : decode cX4_load 0 = .ok (.aload_n 0, 1) := by decide +kernel
theorem dX4_load_1 : decode cX4_load 1 = .ok (.getfield 10, 3) := by decide +kernel
theorem dX4_load_4 : decode cX4_load 4 = .ok (.iload_n 1, 1) := by decide +kernel
theorem dX4_load_5 : decode cX4_load 5 = .ok (.invokevirtual 71, 3) := by decide +kernel
theorem dX4_load_8 : decode cX4_load 8 = .ok (.astore_n 2, 1) := by decide +kernel
theorem dX4_load_9 : decode cX4_load 9 = .ok (.aload_n 2, 1) := by decide +kernel
theorem dX4_load_10 : decode cX4_load 10 = .ok (.ifnonnull 6, 3) := by decide +kernel
theorem dX4_load_13 : decode cX4_load 13 = .ok (.bipush (-101), 2) := by decide +kernel
theorem dX4_load_15 : decode cX4_load 15 = .ok (.ireturn, 1) := by decide +kernel
theorem dX4_load_16 : decode cX4_load 16 = .ok (.aload_n 0, 1) := by decide +kernel
theorem dX4_load_17 : decode cX4_load 17 = .ok (.getfield 37, 3) := by decide +kernel
theorem dX4_load_20 : decode cX4_load 20 = .ok (.aload_n 0, 1) := by decide +kernel
theorem dX4_load_21 : decode cX4_load 21 = .ok (.getfield 27, 3) := by decide +kernel
theorem dX4_load_24 : decode cX4_load 24 = .ok (.aload_n 0, 1) := by decide +kernel
theorem dX4_load_25 : decode cX4_load 25 = .ok (.getfield 31, 3) := by decide +kernel
theorem dX4_load_28 : decode cX4_load 28 = .ok (.invokevirtual 95, 3) := by decide +kernel
theorem dX4_load_31 : decode cX4_load 31 = .ok (.istore_n 3, 1) := by decide +kernel
theorem dX4_load_32 : decode cX4_load 32 = .ok (.iload_n 3, 1) := by decide +kernel
theorem dX4_load_33 : decode cX4_load 33 = .ok (.ifCond .lt 9, 3) := by decide +kernel
theorem dX4_load_36 : decode cX4_load 36 = .ok (.sipush (-1000), 3) := by decide +kernel
theorem dX4_load_39 : decode cX4_load 39 = .ok (.iload_n 3, 1) := by decide +kernel
theorem dX4_load_40 : decode cX4_load 40 = .ok (.isub, 1) := by decide +kernel
theorem dX4_load_41 : decode cX4_load 41 = .ok (.ireturn, 1) := by decide +kernel
theorem dX4_load_42 : decode cX4_load 42 = .ok (.aload_n 0, 1) := by decide +kernel
theorem dX4_load_43 : decode cX4_load 43 = .ok (.invokevirtual 59, 3) := by decide +kernel
theorem dX4_load_46 : decode cX4_load 46 = .ok (.aload_n 2, 1) := by decide +kernel
theorem dX4_load_47 : decode cX4_load 47 = .ok (.aload_n 0, 1) := by decide +kernel
theorem dX4_load_48 : decode cX4_load 48 = .ok (.getfield 37, 3) := by decide +kernel
theorem dX4_load_51 : decode cX4_load 51 = .ok (.getfield 99, 3) := by decide +kernel
theorem dX4_load_54 : decode cX4_load 54 = .ok (.putfield 66, 3) := by decide +kernel
theorem dX4_load_57 : decode cX4_load 57 = .ok (.aload_n 0, 1) := by decide +kernel
theorem dX4_load_58 : decode cX4_load 58 = .ok (.getfield 37, 3) := by decide +kernel
theorem dX4_load_61 : decode cX4_load 61 = .ok (.getfield 102, 3) := by decide +kernel
theorem dX4_load_64 : decode cX4_load 64 = .ok (.iconst 0, 1) := by decide +kernel
theorem dX4_load_65 : decode cX4_load 65 = .ok (.aload_n 2, 1) := by decide +kernel
theorem dX4_load_66 : decode cX4_load 66 = .ok (.getfield 75, 3) := by decide +kernel
theorem dX4_load_69 : decode cX4_load 69 = .ok (.iconst 0, 1) := by decide +kernel
theorem dX4_load_70 : decode cX4_load 70 = .ok (.bipush 40, 2) := by decide +kernel
theorem dX4_load_72 : decode cX4_load 72 = .ok (.invokestatic 103, 3) := by decide +kernel
theorem dX4_load_75 : decode cX4_load 75 = .ok (.aload_n 0, 1) := by decide +kernel
theorem dX4_load_76 : decode cX4_load 76 = .ok (.iconst 0, 1) := by decide +kernel
theorem dX4_load_77 : decode cX4_load 77 = .ok (.putfield 31, 3) := by decide +kernel
theorem dX4_load_80 : decode cX4_load 80 = .ok (.aload_n 2, 1) := by decide +kernel
theorem dX4_load_81 : decode cX4_load 81 = .ok (.getfield 66, 3) := by decide +kernel
theorem dX4_load_84 : decode cX4_load 84 = .ok (.ireturn, 1) := by decide +kernel
set_option maxRecDepth 20000 in
theorem ggX4_setSecondArm_X4_within : GoodIn wsX4_setSecondArm wsX4_within := goodIn_r _ [6] (by decide +kernel) (by decide +kernel)
set_option maxRecDepth 20000 in
theorem gX4_setSecondArm_X4_within : GoodIn wsX4_setSecondArm (va_wsS RX4 52 yX4_within wsX4_within) := goodIn_app (goodIn_of _ (by decide +kernel)) ggX4_setSecondArm_X4_within
set_option maxRecDepth 20000 in
theorem ggX4_setSecondArm_X4_record : GoodIn wsX4_setSecondArm wsX4_record := goodIn_r _ [10, 11, 12, 13, 1, 14, 15, 16, 17, 18, 19, 20, 21, 22, 23, 24, 25, 26, 27, 28, 29, 30, 31, 32, 33, 34, 35, 36, 37, 38, 39, 40, 41, 42, 43, 44, 45, 46, 47, 48, 49, 50, 51, 52, 53, 54, 55, 56, 57, 58, 59, 60, 61, 62, 63, 64, 65, 66, 67, 68, 69] (by decide +kernel) (by decide +kernel)
set_option maxRecDepth 20000 in
theorem gX4_setSecondArm_X4_record : GoodIn wsX4_setSecondArm (wsV RX4 59 RX4 yX4_record wsX4_record) := goodIn_app (goodIn_of _ (by decide +kernel)) ggX4_setSecondArm_X4_record
theorem dX4_setSecondArm_0 : decode cX4_setSecondArm 0 = .ok (.iload_n 1, 1) := by decide +kernel
theorem dX4_setSecondArm_1 : decode cX4_setSecondArm 1 = .ok (.iconst 0, 1) := by decide +kernel
theorem dX4_setSecondArm_2 : decode cX4_setSecondArm 2 = .ok (.iconst 1, 1) := by decide +kernel
theorem dX4_setSecondArm_3 : decode cX4_setSecondArm 3 = .ok (.invokestatic 52, 3) := by decide +kernel
theorem dX4_setSecondArm_6 : decode cX4_setSecondArm 6 = .ok (.ifCond .ne 6, 3) := by decide +kernel
theorem dX4_setSecondArm_9 : decode cX4_setSecondArm 9 = .ok (.bipush (-101), 2) := by decide +kernel
theorem dX4_setSecondArm_11 : decode cX4_setSecondArm 11 = .ok (.ireturn, 1) := by decide +kernel
theorem dX4_setSecondArm_12 : decode cX4_setSecondArm 12 = .ok (.aload_n 0, 1) := by decide +kernel
theorem dX4_setSecondArm_13 : decode cX4_setSecondArm 13 = .ok (.invokevirtual 59, 3) := by decide +kernel
theorem dX4_setSecondArm_16 : decode cX4_setSecondArm 16 = .ok (.aload_n 0, 1) := by decide +kernel
theorem dX4_setSecondArm_17 : decode cX4_setSecondArm 17 = .ok (.getfield 10, 3) := by decide +kernel
theorem dX4_setSecondArm_20 : decode cX4_setSecondArm 20 = .ok (.getfield 109, 3) := by decide +kernel
theorem dX4_setSecondArm_23 : decode cX4_setSecondArm 23 = .ok (.istore_n 2, 1) := by decide +kernel
theorem dX4_setSecondArm_24 : decode cX4_setSecondArm 24 = .ok (.aload_n 0, 1) := by decide +kernel
theorem dX4_setSecondArm_25 : decode cX4_setSecondArm 25 = .ok (.getfield 10, 3) := by decide +kernel
theorem dX4_setSecondArm_28 : decode cX4_setSecondArm 28 = .ok (.iload_n 1, 1) := by decide +kernel
theorem dX4_setSecondArm_29 : decode cX4_setSecondArm 29 = .ok (.putfield 109, 3) := by decide +kernel
theorem dX4_setSecondArm_32 : decode cX4_setSecondArm 32 = .ok (.iload_n 2, 1) := by decide +kernel
theorem dX4_setSecondArm_33 : decode cX4_setSecondArm 33 = .ok (.ireturn, 1) := by decide +kernel
set_option maxRecDepth 20000 in
theorem ggX4_setBroken_X4_within : GoodIn wsX4_setBroken wsX4_within := goodIn_r _ [7] (by decide +kernel) (by decide +kernel)
set_option maxRecDepth 20000 in
theorem gX4_setBroken_X4_within : GoodIn wsX4_setBroken (va_wsS RX4 52 yX4_within wsX4_within) := goodIn_app (goodIn_of _ (by decide +kernel)) ggX4_setBroken_X4_within
set_option maxRecDepth 20000 in
theorem ggX4_setBroken_X4_record : GoodIn wsX4_setBroken wsX4_record := goodIn_r _ [11, 12, 13, 14, 1, 15, 16, 17, 18, 19, 20, 21, 22, 23, 24, 25, 26, 27, 28, 29, 30, 31, 32, 33, 34, 35, 36, 37, 38, 39, 40, 41, 42, 43, 44, 45, 50, 51, 52, 53, 54, 55, 56, 57, 58, 59, 60, 61, 62, 63, 64, 65, 66, 67, 68, 69, 70, 71, 72, 73, 74] (by decide +kernel) (by decide +kernel)
set_option maxRecDepth 20000 in
theorem gX4_setBroken_X4_record : GoodIn wsX4_setBroken (wsV RX4 59 RX4 yX4_record wsX4_record) := goodIn_app (goodIn_of _ (by decide +kernel)) ggX4_setBroken_X4_record
set_option maxRecDepth 20000 in
theorem ggX4_setBroken_X2_works : GoodIn wsX4_setBroken wsX2_works := goodIn_r _ [49, 32, 59, 60, 61, 62, 63, 64, 65, 66, 67, 68, 69] (by decide +kernel) (by decide +kernel)
set_option maxRecDepth 20000 in
theorem gX4_setBroken_X2_works : GoodIn wsX4_setBroken (wsV RX4 112 RX2 yX2_works wsX2_works) := goodIn_app (goodIn_of _ (by decide +kernel)) ggX4_setBroken_X2_works
theorem dX4_setBroken_0 : decode cX4_setBroken 0 = .ok (.iload_n 1, 1) := by decide +kernel
theorem dX4_setBroken_1 : decode cX4_setBroken 1 = .ok (.iconst 0, 1) := by decide +kernel
theorem dX4_setBroken_2 : decode cX4_setBroken 2 = .ok (.iconst 1, 1) := by decide +kernel
theorem dX4_setBroken_3 : decode cX4_setBroken 3 = .ok (.invokestatic 52, 3) := by decide +kernel
theorem dX4_setBroken_6 : decode cX4_setBroken 6 = .ok (.ifCond .eq 22, 3) := by decide +kernel
theorem dX4_setBroken_9 : decode cX4_setBroken 9 = .ok (.iload_n 2, 1) := by decide +kernel
theorem dX4_setBroken_10 : decode cX4_setBroken 10 = .ok (.iconst 0, 1) := by decide +kernel
theorem dX4_setBroken_11 : decode cX4_setBroken 11 = .ok (.bipush 11, 2) := by decide +kernel
theorem dX4_setBroken_13 : decode cX4_setBroken 13 = .ok (.invokestatic 52, 3) := by decide +kernel
theorem dX4_setBroken_16 : decode cX4_setBroken 16 = .ok (.ifCond .eq 12, 3) := by decide +kernel
theorem dX4_setBroken_19 : decode cX4_setBroken 19 = .ok (.iload_n 3, 1) := by decide +kernel
theorem dX4_setBroken_20 : decode cX4_setBroken 20 = .ok (.iconst 0, 1) := by decide +kernel
theorem dX4_setBroken_21 : decode cX4_setBroken 21 = .ok (.iconst 1, 1) := by decide +kernel
theorem dX4_setBroken_22 : decode cX4_setBroken 22 = .ok (.invokestatic 52, 3) := by decide +kernel
theorem dX4_setBroken_25 : decode cX4_setBroken 25 = .ok (.ifCond .ne 6, 3) := by decide +kernel
theorem dX4_setBroken_28 : decode cX4_setBroken 28 = .ok (.bipush (-101), 2) := by decide +kernel
theorem dX4_setBroken_30 : decode cX4_setBroken 30 = .ok (.ireturn, 1) := by decide +kernel
theorem dX4_setBroken_31 : decode cX4_setBroken 31 = .ok (.aload_n 0, 1) := by decide +kernel
theorem dX4_setBroken_32 : decode cX4_setBroken 32 = .ok (.invokevirtual 59, 3) := by decide +kernel
theorem dX4_setBroken_35 : decode cX4_setBroken 35 = .ok (.aload_n 0, 1) := by decide +kernel
theorem dX4_setBroken_36 : decode cX4_setBroken 36 = .ok (.getfield 10, 3) := by decide +kernel
theorem dX4_setBroken_39 : decode cX4_setBroken 39 = .ok (.iload_n 1, 1) := by decide +kernel
theorem dX4_setBroken_40 : decode cX4_setBroken 40 = .ok (.iload_n 2, 1) := by decide +kernel
theorem dX4_setBroken_41 : decode cX4_setBroken 41 = .ok (.invokevirtual 112, 3) := by decide +kernel
theorem dX4_setBroken_44 : decode cX4_setBroken 44 = .ok (.ifCond .eq 7, 3) := by decide +kernel
theorem dX4_setBroken_47 : decode cX4_setBroken 47 = .ok (.iconst 0, 1) := by decide +kernel
theorem dX4_setBroken_48 : decode cX4_setBroken 48 = .ok (.goto 4, 3) := by decide +kernel
theorem dX4_setBroken_51 : decode cX4_setBroken 51 = .ok (.iconst 1, 1) := by decide +kernel
theorem dX4_setBroken_52 : decode cX4_setBroken 52 = .ok (.istore 4, 2) := by decide +kernel
theorem dX4_setBroken_54 : decode cX4_setBroken 54 = .ok (.lconst 1, 1) := by decide +kernel
theorem dX4_setBroken_55 : decode cX4_setBroken 55 = .ok (.iload_n 2, 1) := by decide +kernel
theorem dX4_setBroken_56 : decode cX4_setBroken 56 = .ok (.iconst 3, 1) := by decide +kernel
theorem dX4_setBroken_57 : decode cX4_setBroken 57 = .ok (.imul, 1) := by decide +kernel
theorem dX4_setBroken_58 : decode cX4_setBroken 58 = .ok (.lshl, 1) := by decide +kernel
theorem dX4_setBroken_59 : decode cX4_setBroken 59 = .ok (.lstore 5, 2) := by decide +kernel
theorem dX4_setBroken_61 : decode cX4_setBroken 61 = .ok (.aload_n 0, 1) := by decide +kernel
theorem dX4_setBroken_62 : decode cX4_setBroken 62 = .ok (.getfield 10, 3) := by decide +kernel
theorem dX4_setBroken_65 : decode cX4_setBroken 65 = .ok (.getfield 116, 3) := by decide +kernel
theorem dX4_setBroken_68 : decode cX4_setBroken 68 = .ok (.iload_n 1, 1) := by decide +kernel
theorem dX4_setBroken_69 : decode cX4_setBroken 69 = .ok (.iload_n 3, 1) := by decide +kernel
theorem dX4_setBroken_70 : decode cX4_setBroken 70 = .ok (.iconst 1, 1) := by decide +kernel
theorem dX4_setBroken_71 : decode cX4_setBroken 71 = .ok (.if_icmp .ne 22, 3) := by decide +kernel
theorem dX4_setBroken_74 : decode cX4_setBroken 74 = .ok (.aload_n 0, 1) := by decide +kernel
theorem dX4_setBroken_75 : decode cX4_setBroken 75 = .ok (.getfield 10, 3) := by decide +kernel
theorem dX4_setBroken_78 : decode cX4_setBroken 78 = .ok (.getfield 116, 3) := by decide +kernel
theorem dX4_setBroken_81 : decode cX4_setBroken 81 = .ok (.iload_n 1, 1) := by decide +kernel
theorem dX4_setBroken_82 : decode cX4_setBroken 82 = .ok (.laload, 1) := by decide +kernel
theorem dX4_setBroken_83 : decode cX4_setBroken 83 = .ok (.lload 5, 2) := by decide +kernel
theorem dX4_setBroken_85 : decode cX4_setBroken 85 = .ok (.ldc2_w 119, 3) := by decide +kernel
theorem dX4_setBroken_88 : decode cX4_setBroken 88 = .ok (.lxor, 1) := by decide +kernel
theorem dX4_setBroken_89 : decode cX4_setBroken 89 = .ok (.land, 1) := by decide +kernel
theorem dX4_setBroken_90 : decode cX4_setBroken 90 = .ok (.goto 15, 3) := by decide +kernel
theorem dX4_setBroken_93 : decode cX4_setBroken 93 = .ok (.aload_n 0, 1) := by decide +kernel
theorem dX4_setBroken_94 : decode cX4_setBroken 94 = .ok (.getfield 10, 3) := by decide +kernel
theorem dX4_setBroken_97 : decode cX4_setBroken 97 = .ok (.getfield 116, 3) := by decide +kernel
theorem dX4_setBroken_100 : decode cX4_setBroken 100 = .ok (.iload_n 1, 1) := by decide +kernel
theorem dX4_setBroken_101 : decode cX4_setBroken 101 = .ok (.laload, 1) := by decide +kernel
theorem dX4_setBroken_102 : decode cX4_setBroken 102 = .ok (.lload 5, 2) := by decide +kernel
theorem dX4_setBroken_104 : decode cX4_setBroken 104 = .ok (.lor, 1) := by decide +kernel
theorem dX4_setBroken_105 : decode cX4_setBroken 105 = .ok (.lastore, 1) := by decide +kernel
theorem dX4_setBroken_106 : decode cX4_setBroken 106 = .ok (.iload 4, 2) := by decide +kernel
theorem dX4_setBroken_108 : decode cX4_setBroken 108 = .ok (.ireturn, 1) := by decide +kernel
set_option maxRecDepth 20000 in
theorem ggX4_set_X4_within : GoodIn wsX4_set wsX4_within := goodIn_r _ [8] (by decide +kernel) (by decide +kernel)
set_option maxRecDepth 20000 in
theorem gX4_set_X4_within : GoodIn wsX4_set (va_wsS RX4 52 yX4_within wsX4_within) := goodIn_app (goodIn_of _ (by decide +kernel)) ggX4_set_X4_within
set_option maxRecDepth 20000 in
theorem ggX4_set_X4_record : GoodIn wsX4_set wsX4_record := goodIn_r _ [12, 13, 14, 15, 3, 16, 17, 18, 19, 20, 21, 22, 23, 24, 25, 26, 27, 28, 29, 30, 31, 32, 33, 34, 35, 36, 37, 38, 39, 40, 41, 42, 43, 44, 45, 46, 47, 48, 49, 50, 51, 52, 53, 54, 55, 56, 57, 58, 59, 60, 61, 62, 63, 64, 65, 66, 67, 68, 69, 70, 71] (by decide +kernel) (by decide +kernel)
set_option maxRecDepth 20000 in
theorem gX4_set_X4_record : GoodIn wsX4_set (wsV RX4 59 RX4 yX4_record wsX4_record) := goodIn_app (goodIn_of _ (by decide +kernel)) ggX4_set_X4_record
theorem dX4_set_0 : decode cX4_set 0 = .ok (.iload_n 1, 1) := by decide +kernel
theorem dX4_set_1 : decode cX4_set 1 = .ok (.iconst 0, 1) := by decide +kernel
theorem dX4_set_2 : decode cX4_set 2 = .ok (.iconst 3, 1) := by decide +kernel
theorem dX4_set_3 : decode cX4_set 3 = .ok (.invokestatic 52, 3) := by decide +kernel
end
section
theorem dX4_set_6 : decode cX4_set 6 = .ok (.ifCond .eq 20, 3) := by decide +kernel
theorem dX4_set_9 : decode cX4_set 9 = .ok (.iload_n 2, 1) := by decide +kernel
theorem dX4_set_10 : decode cX4_set 10 = .ok (.getstatic 121, 3) := by decide +kernel
theorem dX4_set_13 : decode cX4_set 13 = .ok (.iload_n 1, 1) := by decide +kernel
theorem dX4_set_14 : decode cX4_set 14 = .ok (.iaload, 1) := by decide +kernel
theorem dX4_set_15 : decode cX4_set 15 = .ok (.getstatic 125, 3) := by decide +kernel
theorem dX4_set_18 : decode cX4_set 18 = .ok (.iload_n 1, 1) := by decide +kernel
theorem dX4_set_19 : decode cX4_set 19 = .ok (.iaload, 1) := by decide +kernel
theorem dX4_set_20 : decode cX4_set 20 = .ok (.invokestatic 52, 3) := by decide +kernel
theorem dX4_set_23 : decode cX4_set 23 = .ok (.ifCond .ne 6, 3) := by decide +kernel
theorem dX4_set_26 : decode cX4_set 26 = .ok (.bipush (-101), 2) := by decide +kernel
theorem dX4_set_28 : decode cX4_set 28 = .ok (.ireturn, 1) := by decide +kernel
theorem dX4_set_29 : decode cX4_set 29 = .ok (.aload_n 0, 1) := by decide +kernel
theorem dX4_set_30 : decode cX4_set 30 = .ok (.invokevirtual 59, 3) := by decide +kernel
theorem dX4_set_33 : decode cX4_set 33 = .ok (.aload_n 0, 1) := by decide +kernel
theorem dX4_set_34 : decode cX4_set 34 = .ok (.getfield 10, 3) := by decide +kernel
theorem dX4_set_37 : decode cX4_set 37 = .ok (.getfield 128, 3) := by decide +kernel
theorem dX4_set_40 : decode cX4_set 40 = .ok (.iload_n 1, 1) := by decide +kernel
theorem dX4_set_41 : decode cX4_set 41 = .ok (.iaload, 1) := by decide +kernel
theorem dX4_set_42 : decode cX4_set 42 = .ok (.istore_n 3, 1) := by decide +kernel
theorem dX4_set_43 : decode cX4_set 43 = .ok (.aload_n 0, 1) := by decide +kernel
theorem dX4_set_44 : decode cX4_set 44 = .ok (.getfield 10, 3) := by decide +kernel
theorem dX4_set_47 : decode cX4_set 47 = .ok (.getfield 128, 3) := by decide +kernel
theorem dX4_set_50 : decode cX4_set 50 = .ok (.iload_n 1, 1) := by decide +kernel
theorem dX4_set_51 : decode cX4_set 51 = .ok (.iload_n 2, 1) := by decide +kernel
theorem dX4_set_52 : decode cX4_set 52 = .ok (.iastore, 1) := by decide +kernel
theorem dX4_set_53 : decode cX4_set 53 = .ok (.iload_n 3, 1) := by decide +kernel
theorem dX4_set_54 : decode cX4_set 54 = .ok (.ireturn, 1) := by decide +kernel
set_option maxRecDepth 20000 in
theorem ggX4_run_X4_within : GoodIn wsX4_run wsX4_within := goodIn_r _ [9] (by decide +kernel) (by decide +kernel)
set_option maxRecDepth 20000 in
theorem gX4_run_X4_within : GoodIn wsX4_run (va_wsS RX4 52 yX4_within wsX4_within) := goodIn_app (goodIn_of _ (by decide +kernel)) ggX4_run_X4_within
set_option maxRecDepth 20000 in
theorem ggX4_run_X4_record : GoodIn wsX4_run wsX4_record := goodIn_r _ [13, 14, 15, 16, 1, 17, 18, 19, 20, 21, 22, 23, 24, 25, 26, 27, 28, 29, 30, 31, 32, 33, 34, 35, 36, 37, 38, 39, 40, 41, 42, 43, 44, 45, 46, 47, 163, 164, 165, 166, 167, 168, 169, 170, 171, 172, 173, 174, 175, 176, 177, 178, 179, 180, 181, 182, 183, 184, 185, 186, 187] (by decide +kernel) (by decide +kernel)
set_option maxRecDepth 20000 in
theorem gX4_run_X4_record : GoodIn wsX4_run (wsV RX4 59 RX4 yX4_record wsX4_record) := goodIn_app (goodIn_of _ (by decide +kernel)) ggX4_run_X4_record
set_option maxRecDepth 20000 in
theorem ggX4_run_X3_prepare : GoodIn wsX4_run wsX3_prepare := goodIn_r _ [52, 53, 54, 55, 56, 57, 58, 59, 60, 61, 62, 63, 20, 64, 22, 23, 65, 66, 67, 40, 68, 45, 46, 69, 70, 71, 72, 43, 73, 74, 75, 76, 77, 78, 79, 80, 42, 44, 81, 82, 83, 84, 85, 86, 87, 88, 89, 8, 90, 91, 92, 93, 94, 95, 96, 97, 98, 99, 100, 51, 101, 172, 173, 174, 175, 176, 177, 178, 179, 180, 181, 182, 188, 189, 190, 191, 192, 193, 194, 195, 196, 197, 198, 183, 184, 185, 186, 187] (by decide +kernel) (by decide +kernel)
set_option maxRecDepth 20000 in
theorem gX4_run_X3_prepare : GoodIn wsX4_run (wsV RX4 134 RX3 yX3_prepare wsX3_prepare) := goodIn_app (goodIn_of _ (by decide +kernel)) ggX4_run_X3_prepare
set_option maxRecDepth 20000 in
theorem ggX4_run_X3_start : GoodIn wsX4_run wsX3_start := goodIn_r _ [105, 106, 107, 108, 109, 110, 111, 112, 113, 114, 188, 189, 190, 191, 192, 193, 194, 195, 196, 197, 198, 172, 173, 174, 175, 176, 177, 178, 179, 180, 181, 182] (by decide +kernel) (by decide +kernel)
set_option maxRecDepth 20000 in
theorem gX4_run_X3_start : GoodIn wsX4_run (wsV RX4 138 RX3 yX3_start wsX3_start) := goodIn_app (goodIn_of _ (by decide +kernel)) ggX4_run_X3_start
set_option maxRecDepth 20000 in
theorem ggX4_run_X3_goOn : GoodIn wsX4_run wsX3_goOn := goodIn_r _ [118, 113, 119, 120, 121, 51, 122, 112, 57, 56, 110, 106, 123, 82, 83, 84, 124, 125, 126, 127, 128, 129, 130, 131, 132, 133, 108, 114, 59, 134, 74, 75, 76, 188, 189, 190, 191, 192, 193, 194, 195, 196, 197, 198] (by decide +kernel) (by decide +kernel)
set_option maxRecDepth 20000 in
theorem gX4_run_X3_goOn : GoodIn wsX4_run (wsV RX4 142 RX3 yX3_goOn wsX3_goOn) := goodIn_app (goodIn_of _ (by decide +kernel)) ggX4_run_X3_goOn
set_option maxRecDepth 20000 in
theorem ggX4_run_X2_write : GoodIn wsX4_run wsX2_write := goodIn_r _ [138, 139, 140, 24, 141, 25, 142, 27, 26, 143, 144, 145, 146, 51, 147, 114, 148, 149, 150, 20, 151, 34, 152, 35, 153, 36, 154, 125, 83, 126, 155, 156, 157, 158, 159, 160, 161, 162, 54, 99, 100, 101, 188, 189, 190, 191, 192, 193, 194, 195, 196, 197, 198, 172, 173, 174, 175, 176, 177, 178, 179, 180, 181, 182] (by decide +kernel) (by decide +kernel)
set_option maxRecDepth 20000 in
theorem gX4_run_X2_write : GoodIn wsX4_run (wsV RX4 146 RX2 yX2_write wsX2_write) := goodIn_app (goodIn_of _ (by decide +kernel)) ggX4_run_X2_write
theorem dX4_run_0 : decode cX4_run 0 = .ok (.iload_n 1, 1) := by decide +kernel
theorem dX4_run_1 : decode cX4_run 1 = .ok (.iconst 1, 1) := by decide +kernel
theorem dX4_run_2 : decode cX4_run 2 = .ok (.bipush 100, 2) := by decide +kernel
theorem dX4_run_4 : decode cX4_run 4 = .ok (.invokestatic 52, 3) := by decide +kernel
theorem dX4_run_7 : decode cX4_run 7 = .ok (.ifCond .ne 6, 3) := by decide +kernel
theorem dX4_run_10 : decode cX4_run 10 = .ok (.bipush (-101), 2) := by decide +kernel
theorem dX4_run_12 : decode cX4_run 12 = .ok (.ireturn, 1) := by decide +kernel
theorem dX4_run_13 : decode cX4_run 13 = .ok (.aload_n 0, 1) := by decide +kernel
theorem dX4_run_14 : decode cX4_run 14 = .ok (.getfield 10, 3) := by decide +kernel
theorem dX4_run_17 : decode cX4_run 17 = .ok (.getfield 131, 3) := by decide +kernel
theorem dX4_run_20 : decode cX4_run 20 = .ok (.iload_n 1, 1) := by decide +kernel
theorem dX4_run_21 : decode cX4_run 21 = .ok (.iadd, 1) := by decide +kernel
theorem dX4_run_22 : decode cX4_run 22 = .ok (.sipush 5000, 3) := by decide +kernel
theorem dX4_run_25 : decode cX4_run 25 = .ok (.if_icmp .le 6, 3) := by decide +kernel
theorem dX4_run_28 : decode cX4_run 28 = .ok (.bipush (-103), 2) := by decide +kernel
theorem dX4_run_30 : decode cX4_run 30 = .ok (.ireturn, 1) := by decide +kernel
theorem dX4_run_31 : decode cX4_run 31 = .ok (.aload_n 0, 1) := by decide +kernel
theorem dX4_run_32 : decode cX4_run 32 = .ok (.invokevirtual 59, 3) := by decide +kernel
theorem dX4_run_35 : decode cX4_run 35 = .ok (.aload_n 0, 1) := by decide +kernel
theorem dX4_run_36 : decode cX4_run 36 = .ok (.getfield 44, 3) := by decide +kernel
theorem dX4_run_39 : decode cX4_run 39 = .ok (.aload_n 0, 1) := by decide +kernel
theorem dX4_run_40 : decode cX4_run 40 = .ok (.getfield 10, 3) := by decide +kernel
theorem dX4_run_43 : decode cX4_run 43 = .ok (.invokevirtual 134, 3) := by decide +kernel
theorem dX4_run_46 : decode cX4_run 46 = .ok (.aload_n 0, 1) := by decide +kernel
theorem dX4_run_47 : decode cX4_run 47 = .ok (.getfield 44, 3) := by decide +kernel
theorem dX4_run_50 : decode cX4_run 50 = .ok (.aload_n 0, 1) := by decide +kernel
theorem dX4_run_51 : decode cX4_run 51 = .ok (.getfield 10, 3) := by decide +kernel
theorem dX4_run_54 : decode cX4_run 54 = .ok (.aload_n 0, 1) := by decide +kernel
theorem dX4_run_55 : decode cX4_run 55 = .ok (.getfield 10, 3) := by decide +kernel
theorem dX4_run_58 : decode cX4_run 58 = .ok (.getfield 128, 3) := by decide +kernel
theorem dX4_run_61 : decode cX4_run 61 = .ok (.iconst 0, 1) := by decide +kernel
theorem dX4_run_62 : decode cX4_run 62 = .ok (.iaload, 1) := by decide +kernel
theorem dX4_run_63 : decode cX4_run 63 = .ok (.invokevirtual 138, 3) := by decide +kernel
theorem dX4_run_66 : decode cX4_run 66 = .ok (.aload_n 0, 1) := by decide +kernel
theorem dX4_run_67 : decode cX4_run 67 = .ok (.getfield 44, 3) := by decide +kernel
theorem dX4_run_70 : decode cX4_run 70 = .ok (.iload_n 1, 1) := by decide +kernel
theorem dX4_run_71 : decode cX4_run 71 = .ok (.invokevirtual 142, 3) := by decide +kernel
theorem dX4_run_74 : decode cX4_run 74 = .ok (.aload_n 0, 1) := by decide +kernel
theorem dX4_run_75 : decode cX4_run 75 = .ok (.getfield 10, 3) := by decide +kernel
theorem dX4_run_78 : decode cX4_run 78 = .ok (.aload_n 0, 1) := by decide +kernel
theorem dX4_run_79 : decode cX4_run 79 = .ok (.getfield 44, 3) := by decide +kernel
theorem dX4_run_82 : decode cX4_run 82 = .ok (.invokevirtual 146, 3) := by decide +kernel
theorem dX4_run_85 : decode cX4_run 85 = .ok (.aload_n 0, 1) := by decide +kernel
theorem dX4_run_86 : decode cX4_run 86 = .ok (.getfield 10, 3) := by decide +kernel
theorem dX4_run_89 : decode cX4_run 89 = .ok (.getfield 150, 3) := by decide +kernel
theorem dX4_run_92 : decode cX4_run 92 = .ok (.ireturn, 1) := by decide +kernel
set_option maxRecDepth 20000 in
theorem ggX4_undo_X2_copyFrom : GoodIn wsX4_undo wsX2_copyFrom := goodIn_r _ [9, 10, 11, 12, 13, 14, 15, 16, 17, 18, 19, 20, 21, 22, 23, 24, 25, 26, 27, 28, 29, 30, 31, 32, 33, 34, 35, 45, 46, 47, 48, 49, 50, 51, 52, 53, 54, 55, 56, 57, 58, 59, 60] (by decide +kernel) (by decide +kernel)
set_option maxRecDepth 20000 in
theorem gX4_undo_X2_copyFrom : GoodIn wsX4_undo (wsV RX4 153 RX2 yX2_copyFrom wsX2_copyFrom) := goodIn_app (goodIn_of _ (by decide +kernel)) ggX4_undo_X2_copyFrom
theorem dX4_undo_0 : decode cX4_undo 0 = .ok (.aload_n 0, 1) := by decide +kernel
theorem dX4_undo_1 : decode cX4_undo 1 = .ok (.getfield 24, 3) := by decide +kernel
theorem dX4_undo_4 : decode cX4_undo 4 = .ok (.ifCond .ne 6, 3) := by decide +kernel
theorem dX4_undo_7 : decode cX4_undo 7 = .ok (.bipush (-102), 2) := by decide +kernel
theorem dX4_undo_9 : decode cX4_undo 9 = .ok (.ireturn, 1) := by decide +kernel
theorem dX4_undo_10 : decode cX4_undo 10 = .ok (.aload_n 0, 1) := by decide +kernel
theorem dX4_undo_11 : decode cX4_undo 11 = .ok (.dup, 1) := by decide +kernel
theorem dX4_undo_12 : decode cX4_undo 12 = .ok (.getfield 24, 3) := by decide +kernel
theorem dX4_undo_15 : decode cX4_undo 15 = .ok (.iconst 1, 1) := by decide +kernel
theorem dX4_undo_16 : decode cX4_undo 16 = .ok (.isub, 1) := by decide +kernel
theorem dX4_undo_17 : decode cX4_undo 17 = .ok (.putfield 24, 3) := by decide +kernel
theorem dX4_undo_20 : decode cX4_undo 20 = .ok (.aload_n 0, 1) := by decide +kernel
theorem dX4_undo_21 : decode cX4_undo 21 = .ok (.getfield 10, 3) := by decide +kernel
theorem dX4_undo_24 : decode cX4_undo 24 = .ok (.aload_n 0, 1) := by decide +kernel
theorem dX4_undo_25 : decode cX4_undo 25 = .ok (.getfield 16, 3) := by decide +kernel
theorem dX4_undo_28 : decode cX4_undo 28 = .ok (.aload_n 0, 1) := by decide +kernel
theorem dX4_undo_29 : decode cX4_undo 29 = .ok (.getfield 20, 3) := by decide +kernel
theorem dX4_undo_32 : decode cX4_undo 32 = .ok (.aload_n 0, 1) := by decide +kernel
theorem dX4_undo_33 : decode cX4_undo 33 = .ok (.getfield 24, 3) := by decide +kernel
theorem dX4_undo_36 : decode cX4_undo 36 = .ok (.iadd, 1) := by decide +kernel
theorem dX4_undo_37 : decode cX4_undo 37 = .ok (.iconst 5, 1) := by decide +kernel
theorem dX4_undo_38 : decode cX4_undo 38 = .ok (.irem, 1) := by decide +kernel
theorem dX4_undo_39 : decode cX4_undo 39 = .ok (.aaload, 1) := by decide +kernel
theorem dX4_undo_40 : decode cX4_undo 40 = .ok (.invokevirtual 153, 3) := by decide +kernel
theorem dX4_undo_43 : decode cX4_undo 43 = .ok (.aload_n 0, 1) := by decide +kernel
theorem dX4_undo_44 : decode cX4_undo 44 = .ok (.getfield 24, 3) := by decide +kernel
theorem dX4_undo_47 : decode cX4_undo 47 = .ok (.ireturn, 1) := by decide +kernel
set_option maxRecDepth 20000 in
theorem ggX4_record_X2_copyFrom : GoodIn wsX4_record wsX2_copyFrom := goodIn_r _ [9, 10, 11, 12, 13, 14, 15, 16, 17, 18, 19, 20, 21, 22, 23, 24, 25, 26, 27, 28, 29, 30, 31, 32, 33, 34, 35, 45, 46, 47, 48, 49, 50, 51, 52, 53, 54, 55, 56, 57, 58, 59, 60] (by decide +kernel) (by decide +kernel)
set_option maxRecDepth 20000 in
theorem gX4_record_X2_copyFrom : GoodIn wsX4_record (wsV RX4 153 RX2 yX2_copyFrom wsX2_copyFrom) := goodIn_app (goodIn_of _ (by decide +kernel)) ggX4_record_X2_copyFrom
theorem dX4_record_0 : decode cX4_record 0 = .ok (.aload_n 0, 1) := by decide +kernel
theorem dX4_record_1 : decode cX4_record 1 = .ok (.getfield 24, 3) := by decide +kernel
theorem dX4_record_4 : decode cX4_record 4 = .ok (.iconst 5, 1) := by decide +kernel
theorem dX4_record_5 : decode cX4_record 5 = .ok (.if_icmp .ne 25, 3) := by decide +kernel
theorem dX4_record_8 : decode cX4_record 8 = .ok (.aload_n 0, 1) := by decide +kernel
theorem dX4_record_9 : decode cX4_record 9 = .ok (.aload_n 0, 1) := by decide +kernel
theorem dX4_record_10 : decode cX4_record 10 = .ok (.getfield 20, 3) := by decide +kernel
theorem dX4_record_13 : decode cX4_record 13 = .ok (.iconst 1, 1) := by decide +kernel
theorem dX4_record_14 : decode cX4_record 14 = .ok (.iadd, 1) := by decide +kernel
theorem dX4_record_15 : decode cX4_record 15 = .ok (.iconst 5, 1) := by decide +kernel
theorem dX4_record_16 : decode cX4_record 16 = .ok (.irem, 1) := by decide +kernel
theorem dX4_record_17 : decode cX4_record 17 = .ok (.putfield 20, 3) := by decide +kernel
theorem dX4_record_20 : decode cX4_record 20 = .ok (.aload_n 0, 1) := by decide +kernel
theorem dX4_record_21 : decode cX4_record 21 = .ok (.dup, 1) := by decide +kernel
theorem dX4_record_22 : decode cX4_record 22 = .ok (.getfield 24, 3) := by decide +kernel
theorem dX4_record_25 : decode cX4_record 25 = .ok (.iconst 1, 1) := by decide +kernel
theorem dX4_record_26 : decode cX4_record 26 = .ok (.isub, 1) := by decide +kernel
theorem dX4_record_27 : decode cX4_record 27 = .ok (.putfield 24, 3) := by decide +kernel
theorem dX4_record_30 : decode cX4_record 30 = .ok (.aload_n 0, 1) := by decide +kernel
theorem dX4_record_31 : decode cX4_record 31 = .ok (.getfield 16, 3) := by decide +kernel
theorem dX4_record_34 : decode cX4_record 34 = .ok (.aload_n 0, 1) := by decide +kernel
theorem dX4_record_35 : decode cX4_record 35 = .ok (.getfield 20, 3) := by decide +kernel
theorem dX4_record_38 : decode cX4_record 38 = .ok (.aload_n 0, 1) := by decide +kernel
theorem dX4_record_39 : decode cX4_record 39 = .ok (.getfield 24, 3) := by decide +kernel
theorem dX4_record_42 : decode cX4_record 42 = .ok (.iadd, 1) := by decide +kernel
theorem dX4_record_43 : decode cX4_record 43 = .ok (.iconst 5, 1) := by decide +kernel
theorem dX4_record_44 : decode cX4_record 44 = .ok (.irem, 1) := by decide +kernel
theorem dX4_record_45 : decode cX4_record 45 = .ok (.aaload, 1) := by decide +kernel
theorem dX4_record_46 : decode cX4_record 46 = .ok (.aload_n 0, 1) := by decide +kernel
theorem dX4_record_47 : decode cX4_record 47 = .ok (.getfield 10, 3) := by decide +kernel
theorem dX4_record_50 : decode cX4_record 50 = .ok (.invokevirtual 153, 3) := by decide +kernel
theorem dX4_record_53 : decode cX4_record 53 = .ok (.aload_n 0, 1) := by decide +kernel
theorem dX4_record_54 : decode cX4_record 54 = .ok (.dup, 1) := by decide +kernel
theorem dX4_record_55 : decode cX4_record 55 = .ok (.getfield 24, 3) := by decide +kernel
theorem dX4_record_58 : decode cX4_record 58 = .ok (.iconst 1, 1) := by decide +kernel
theorem dX4_record_59 : decode cX4_record 59 = .ok (.iadd, 1) := by decide +kernel
theorem dX4_record_60 : decode cX4_record 60 = .ok (.putfield 24, 3) := by decide +kernel
theorem dX4_record_63 : decode cX4_record 63 = .ok (.return_, 1) := by decide +kernel
set_option maxRecDepth 20000 in
theorem ggX4_count_X4_countLit : GoodIn wsX4_count wsX4_countLit := goodIn_r _ [14, 1, 15, 16, 17, 18, 19, 20, 21, 22, 23, 24, 25, 26, 27, 28, 29, 30, 13, 31, 32, 33, 34, 35, 36, 37, 38, 39, 79, 80, 81, 82, 83, 84, 85, 86, 87, 88, 89, 90, 91, 92, 93, 94, 95, 96, 97, 98] (by decide +kernel) (by decide +kernel)
set_option maxRecDepth 20000 in
theorem gX4_count_X4_countLit : GoodIn wsX4_count (wsV RX4 162 RX4 yX4_countLit wsX4_countLit) := goodIn_app (goodIn_of _ (by decide +kernel)) ggX4_count_X4_countLit
set_option maxRecDepth 20000 in
theorem ggX4_count_X4_countNotAsWanted : GoodIn wsX4_count wsX4_countNotAsWanted := goodIn_r _ [43, 1, 15, 16, 17, 18, 19, 20, 21, 22, 23, 24, 25, 26, 27, 28, 44, 45, 46, 47, 48, 49, 50, 51, 52, 53, 54, 55, 56, 57, 58, 59, 60, 61, 62, 63, 64, 65, 66, 67, 68, 69, 70, 71, 72, 73, 74, 75, 76, 77, 78, 29, 30, 13, 31, 32, 33, 34, 35, 36, 37, 38, 39, 79, 80, 81, 82, 83, 84, 85, 86, 87, 88, 89, 90, 91, 92, 93, 94, 95, 96, 97, 98, 99, 100, 101, 102, 103] (by decide +kernel) (by decide +kernel)
set_option maxRecDepth 20000 in
theorem gX4_count_X4_countNotAsWanted : GoodIn wsX4_count (wsV RX4 166 RX4 yX4_countNotAsWanted wsX4_countNotAsWanted) := goodIn_app (goodIn_of _ (by decide +kernel)) ggX4_count_X4_countNotAsWanted
theorem dX4_count_0 : decode cX4_count 0 = .ok (.iload_n 1, 1) := by decide +kernel
theorem dX4_count_1 : decode cX4_count 1 = .ok (.tableswitch 123 0 9 #[55, 63, 71, 79, 87, 95, 100, 105, 113, 118], 55) := by decide +kernel
theorem dX4_count_56 : decode cX4_count 56 = .ok (.aload_n 0, 1) := by decide +kernel
theorem dX4_count_57 : decode cX4_count 57 = .ok (.getfield 10, 3) := by decide +kernel
theorem dX4_count_60 : decode cX4_count 60 = .ok (.getfield 56, 3) := by decide +kernel
theorem dX4_count_63 : decode cX4_count 63 = .ok (.ireturn, 1) := by decide +kernel
theorem dX4_count_64 : decode cX4_count 64 = .ok (.aload_n 0, 1) := by decide +kernel
theorem dX4_count_65 : decode cX4_count 65 = .ok (.getfield 10, 3) := by decide +kernel
theorem dX4_count_68 : decode cX4_count 68 = .ok (.getfield 156, 3) := by decide +kernel
theorem dX4_count_71 : decode cX4_count 71 = .ok (.ireturn, 1) := by decide +kernel
theorem dX4_count_72 : decode cX4_count 72 = .ok (.aload_n 0, 1) := by decide +kernel
theorem dX4_count_73 : decode cX4_count 73 = .ok (.getfield 10, 3) := by decide +kernel
theorem dX4_count_76 : decode cX4_count 76 = .ok (.getfield 159, 3) := by decide +kernel
theorem dX4_count_79 : decode cX4_count 79 = .ok (.ireturn, 1) := by decide +kernel
theorem dX4_count_80 : decode cX4_count 80 = .ok (.aload_n 0, 1) := by decide +kernel
theorem dX4_count_81 : decode cX4_count 81 = .ok (.getfield 10, 3) := by decide +kernel
theorem dX4_count_84 : decode cX4_count 84 = .ok (.getfield 131, 3) := by decide +kernel
theorem dX4_count_87 : decode cX4_count 87 = .ok (.ireturn, 1) := by decide +kernel
theorem dX4_count_88 : decode cX4_count 88 = .ok (.aload_n 0, 1) := by decide +kernel
theorem dX4_count_89 : decode cX4_count 89 = .ok (.getfield 10, 3) := by decide +kernel
theorem dX4_count_92 : decode cX4_count 92 = .ok (.getfield 150, 3) := by decide +kernel
theorem dX4_count_95 : decode cX4_count 95 = .ok (.ireturn, 1) := by decide +kernel
theorem dX4_count_96 : decode cX4_count 96 = .ok (.aload_n 0, 1) := by decide +kernel
theorem dX4_count_97 : decode cX4_count 97 = .ok (.invokevirtual 162, 3) := by decide +kernel
theorem dX4_count_100 : decode cX4_count 100 = .ok (.ireturn, 1) := by decide +kernel
theorem dX4_count_101 : decode cX4_count 101 = .ok (.aload_n 0, 1) := by decide +kernel
theorem dX4_count_102 : decode cX4_count 102 = .ok (.invokevirtual 166, 3) := by decide +kernel
theorem dX4_count_105 : decode cX4_count 105 = .ok (.ireturn, 1) := by decide +kernel
theorem dX4_count_106 : decode cX4_count 106 = .ok (.aload_n 0, 1) := by decide +kernel
theorem dX4_count_107 : decode cX4_count 107 = .ok (.getfield 10, 3) := by decide +kernel
theorem dX4_count_110 : decode cX4_count 110 = .ok (.getfield 109, 3) := by decide +kernel
theorem dX4_count_113 : decode cX4_count 113 = .ok (.ireturn, 1) := by decide +kernel
theorem dX4_count_114 : decode cX4_count 114 = .ok (.aload_n 0, 1) := by decide +kernel
theorem dX4_count_115 : decode cX4_count 115 = .ok (.getfield 24, 3) := by decide +kernel
theorem dX4_count_118 : decode cX4_count 118 = .ok (.ireturn, 1) := by decide +kernel
theorem dX4_count_119 : decode cX4_count 119 = .ok (.aload_n 0, 1) := by decide +kernel
theorem dX4_count_120 : decode cX4_count 120 = .ok (.getfield 31, 3) := by decide +kernel
theorem dX4_count_123 : decode cX4_count 123 = .ok (.ireturn, 1) := by decide +kernel
theorem dX4_count_124 : decode cX4_count 124 = .ok (.bipush (-101), 2) := by decide +kernel
theorem dX4_count_126 : decode cX4_count 126 = .ok (.ireturn, 1) := by decide +kernel
set_option maxRecDepth 20000 in
theorem ggX4_setting_X4_within : GoodIn wsX4_setting wsX4_within := goodIn_r _ [6] (by decide +kernel) (by decide +kernel)
set_option maxRecDepth 20000 in
theorem gX4_setting_X4_within : GoodIn wsX4_setting (va_wsS RX4 52 yX4_within wsX4_within) := goodIn_app (goodIn_of _ (by decide +kernel)) ggX4_setting_X4_within
theorem dX4_setting_0 : decode cX4_setting 0 = .ok (.iload_n 1, 1) := by decide +kernel
theorem dX4_setting_1 : decode cX4_setting 1 = .ok (.iconst 0, 1) := by decide +kernel
theorem dX4_setting_2 : decode cX4_setting 2 = .ok (.iconst 3, 1) := by decide +kernel
theorem dX4_setting_3 : decode cX4_setting 3 = .ok (.invokestatic 52, 3) := by decide +kernel
theorem dX4_setting_6 : decode cX4_setting 6 = .ok (.ifCond .eq 15, 3) := by decide +kernel
theorem dX4_setting_9 : decode cX4_setting 9 = .ok (.aload_n 0, 1) := by decide +kernel
theorem dX4_setting_10 : decode cX4_setting 10 = .ok (.getfield 10, 3) := by decide +kernel
theorem dX4_setting_13 : decode cX4_setting 13 = .ok (.getfield 128, 3) := by decide +kernel
theorem dX4_setting_16 : decode cX4_setting 16 = .ok (.iload_n 1, 1) := by decide +kernel
theorem dX4_setting_17 : decode cX4_setting 17 = .ok (.iaload, 1) := by decide +kernel
theorem dX4_setting_18 : decode cX4_setting 18 = .ok (.goto 5, 3) := by decide +kernel
theorem dX4_setting_21 : decode cX4_setting 21 = .ok (.bipush (-101), 2) := by decide +kernel
theorem dX4_setting_23 : decode cX4_setting 23 = .ok (.ireturn, 1) := by decide +kernel
set_option maxRecDepth 20000 in
theorem ggX4_picture_X2_pictureNumbered : GoodIn wsX4_picture wsX2_pictureNumbered := goodIn_r _ [10, 11, 12, 13, 14, 15, 56, 57, 58, 59, 60, 61, 62, 63, 64, 65, 66] (by decide +kernel) (by decide +kernel)
set_option maxRecDepth 20000 in
theorem gX4_picture_X2_pictureNumbered : GoodIn wsX4_picture (wsV RX4 71 RX2 yX2_pictureNumbered wsX2_pictureNumbered) := goodIn_app (goodIn_of _ (by decide +kernel)) ggX4_picture_X2_pictureNumbered
set_option maxRecDepth 20000 in
theorem ggX4_picture_X0_countNotDark : GoodIn wsX4_picture wsX0_countNotDark := goodIn_r _ [20, 21, 22, 23, 14, 24, 25, 26, 27, 28, 29, 30, 31, 32, 51, 52, 53, 54, 55] (by decide +kernel) (by decide +kernel)
set_option maxRecDepth 20000 in
theorem gX4_picture_X0_countNotDark : GoodIn wsX4_picture (wsV RX4 169 RX0 yX0_countNotDark wsX0_countNotDark) := goodIn_app (goodIn_of _ (by decide +kernel)) ggX4_picture_X0_countNotDark
set_option maxRecDepth 20000 in
theorem ggX4_picture_X0_coveredAngles : GoodIn wsX4_picture wsX0_coveredAngles := goodIn_r _ [36, 21, 37, 38, 39, 40, 41, 51, 52, 53, 54, 55] (by decide +kernel) (by decide +kernel)
set_option maxRecDepth 20000 in
theorem gX4_picture_X0_coveredAngles : GoodIn wsX4_picture (wsV RX4 172 RX0 yX0_coveredAngles wsX0_coveredAngles) := goodIn_app (goodIn_of _ (by decide +kernel)) ggX4_picture_X0_coveredAngles
theorem dX4_picture_0 : decode cX4_picture 0 = .ok (.aload_n 0, 1) := by decide +kernel
theorem dX4_picture_1 : decode cX4_picture 1 = .ok (.getfield 10, 3) := by decide +kernel
theorem dX4_picture_4 : decode cX4_picture 4 = .ok (.iload_n 1, 1) := by decide +kernel
theorem dX4_picture_5 : decode cX4_picture 5 = .ok (.invokevirtual 71, 3) := by decide +kernel
theorem dX4_picture_8 : decode cX4_picture 8 = .ok (.astore_n 3, 1) := by decide +kernel
theorem dX4_picture_9 : decode cX4_picture 9 = .ok (.aload_n 3, 1) := by decide +kernel
theorem dX4_picture_10 : decode cX4_picture 10 = .ok (.ifnonnull 6, 3) := by decide +kernel
theorem dX4_picture_13 : decode cX4_picture 13 = .ok (.bipush (-101), 2) := by decide +kernel
theorem dX4_picture_15 : decode cX4_picture 15 = .ok (.ireturn, 1) := by decide +kernel
theorem dX4_picture_16 : decode cX4_picture 16 = .ok (.iload_n 2, 1) := by decide +kernel
theorem dX4_picture_17 : decode cX4_picture 17 = .ok (.tableswitch 69 0 5 #[39, 44, 49, 54, 59, 64], 39) := by decide +kernel
theorem dX4_picture_56 : decode cX4_picture 56 = .ok (.aload_n 3, 1) := by decide +kernel
theorem dX4_picture_57 : decode cX4_picture 57 = .ok (.getfield 66, 3) := by decide +kernel
theorem dX4_picture_60 : decode cX4_picture 60 = .ok (.ireturn, 1) := by decide +kernel
theorem dX4_picture_61 : decode cX4_picture 61 = .ok (.aload_n 3, 1) := by decide +kernel
theorem dX4_picture_62 : decode cX4_picture 62 = .ok (.getfield 86, 3) := by decide +kernel
theorem dX4_picture_65 : decode cX4_picture 65 = .ok (.ireturn, 1) := by decide +kernel
theorem dX4_picture_66 : decode cX4_picture 66 = .ok (.aload_n 3, 1) := by decide +kernel
theorem dX4_picture_67 : decode cX4_picture 67 = .ok (.getfield 89, 3) := by decide +kernel
theorem dX4_picture_70 : decode cX4_picture 70 = .ok (.ireturn, 1) := by decide +kernel
theorem dX4_picture_71 : decode cX4_picture 71 = .ok (.aload_n 3, 1) := by decide +kernel
theorem dX4_picture_72 : decode cX4_picture 72 = .ok (.getfield 92, 3) := by decide +kernel
theorem dX4_picture_75 : decode cX4_picture 75 = .ok (.ireturn, 1) := by decide +kernel
theorem dX4_picture_76 : decode cX4_picture 76 = .ok (.aload_n 3, 1) := by decide +kernel
theorem dX4_picture_77 : decode cX4_picture 77 = .ok (.invokevirtual 169, 3) := by decide +kernel
theorem dX4_picture_80 : decode cX4_picture 80 = .ok (.ireturn, 1) := by decide +kernel
theorem dX4_picture_81 : decode cX4_picture 81 = .ok (.aload_n 3, 1) := by decide +kernel
theorem dX4_picture_82 : decode cX4_picture 82 = .ok (.invokevirtual 172, 3) := by decide +kernel
theorem dX4_picture_85 : decode cX4_picture 85 = .ok (.ireturn, 1) := by decide +kernel
theorem dX4_picture_86 : decode cX4_picture 86 = .ok (.bipush (-101), 2) := by decide +kernel
theorem dX4_picture_88 : decode cX4_picture 88 = .ok (.ireturn, 1) := by decide +kernel
set_option maxRecDepth 20000 in
theorem ggX4_color_X2_pictureNumbered : GoodIn wsX4_color wsX2_pictureNumbered := goodIn_r _ [8, 9, 10, 11, 12, 13, 32, 33, 34, 35, 36, 37, 38, 39, 40, 41, 42] (by decide +kernel) (by decide +kernel)
set_option maxRecDepth 20000 in
theorem gX4_color_X2_pictureNumbered : GoodIn wsX4_color (wsV RX4 71 RX2 yX2_pictureNumbered wsX2_pictureNumbered) := goodIn_app (goodIn_of _ (by decide +kernel)) ggX4_color_X2_pictureNumbered
set_option maxRecDepth 20000 in
theorem ggX4_color_X4_within : GoodIn wsX4_color wsX4_within := goodIn_r _ [13] (by decide +kernel) (by decide +kernel)
set_option maxRecDepth 20000 in
theorem gX4_color_X4_within : GoodIn wsX4_color (va_wsS RX4 52 yX4_within wsX4_within) := goodIn_app (goodIn_of _ (by decide +kernel)) ggX4_color_X4_within
set_option maxRecDepth 20000 in
theorem ggX4_color_X4_colorIn : GoodIn wsX4_color wsX4_colorIn := goodIn_r _ [17] (by decide +kernel) (by decide +kernel)
set_option maxRecDepth 20000 in
theorem gX4_color_X4_colorIn : GoodIn wsX4_color (va_wsS RX4 78 yX4_colorIn wsX4_colorIn) := goodIn_app (goodIn_of _ (by decide +kernel)) ggX4_color_X4_colorIn
theorem dX4_color_0 : decode cX4_color 0 = .ok (.aload_n 0, 1) := by decide +kernel
theorem dX4_color_1 : decode cX4_color 1 = .ok (.getfield 10, 3) := by decide +kernel
theorem dX4_color_4 : decode cX4_color 4 = .ok (.iload_n 1, 1) := by decide +kernel
theorem dX4_color_5 : decode cX4_color 5 = .ok (.invokevirtual 71, 3) := by decide +kernel
theorem dX4_color_8 : decode cX4_color 8 = .ok (.astore 4, 2) := by decide +kernel
theorem dX4_color_10 : decode cX4_color 10 = .ok (.aload 4, 2) := by decide +kernel
theorem dX4_color_12 : decode cX4_color 12 = .ok (.ifnull 23, 3) := by decide +kernel
theorem dX4_color_15 : decode cX4_color 15 = .ok (.iload_n 2, 1) := by decide +kernel
theorem dX4_color_16 : decode cX4_color 16 = .ok (.iconst 0, 1) := by decide +kernel
theorem dX4_color_17 : decode cX4_color 17 = .ok (.bipush 39, 2) := by decide +kernel
theorem dX4_color_19 : decode cX4_color 19 = .ok (.invokestatic 52, 3) := by decide +kernel
theorem dX4_color_22 : decode cX4_color 22 = .ok (.ifCond .eq 13, 3) := by decide +kernel
theorem dX4_color_25 : decode cX4_color 25 = .ok (.iload_n 3, 1) := by decide +kernel
theorem dX4_color_26 : decode cX4_color 26 = .ok (.iconst 0, 1) := by decide +kernel
theorem dX4_color_27 : decode cX4_color 27 = .ok (.bipush 11, 2) := by decide +kernel
theorem dX4_color_29 : decode cX4_color 29 = .ok (.invokestatic 52, 3) := by decide +kernel
theorem dX4_color_32 : decode cX4_color 32 = .ok (.ifCond .ne 6, 3) := by decide +kernel
theorem dX4_color_35 : decode cX4_color 35 = .ok (.bipush (-101), 2) := by decide +kernel
theorem dX4_color_37 : decode cX4_color 37 = .ok (.ireturn, 1) := by decide +kernel
theorem dX4_color_38 : decode cX4_color 38 = .ok (.iload_n 2, 1) := by decide +kernel
theorem dX4_color_39 : decode cX4_color 39 = .ok (.aload 4, 2) := by decide +kernel
theorem dX4_color_41 : decode cX4_color 41 = .ok (.getfield 66, 3) := by decide +kernel
theorem dX4_color_44 : decode cX4_color 44 = .ok (.if_icmp .ge 17, 3) := by decide +kernel
theorem dX4_color_47 : decode cX4_color 47 = .ok (.aload 4, 2) := by decide +kernel
theorem dX4_color_49 : decode cX4_color 49 = .ok (.getfield 75, 3) := by decide +kernel
theorem dX4_color_52 : decode cX4_color 52 = .ok (.iload_n 2, 1) := by decide +kernel
theorem dX4_color_53 : decode cX4_color 53 = .ok (.laload, 1) := by decide +kernel
theorem dX4_color_54 : decode cX4_color 54 = .ok (.iload_n 3, 1) := by decide +kernel
theorem dX4_color_55 : decode cX4_color 55 = .ok (.invokestatic 78, 3) := by decide +kernel
theorem dX4_color_58 : decode cX4_color 58 = .ok (.goto 5, 3) := by decide +kernel
theorem dX4_color_61 : decode cX4_color 61 = .ok (.bipush (-109), 2) := by decide +kernel
theorem dX4_color_63 : decode cX4_color 63 = .ok (.ireturn, 1) := by decide +kernel
set_option maxRecDepth 20000 in
theorem ggX4_broken_X4_within : GoodIn wsX4_broken wsX4_within := goodIn_r _ [5] (by decide +kernel) (by decide +kernel)
set_option maxRecDepth 20000 in
theorem gX4_broken_X4_within : GoodIn wsX4_broken (va_wsS RX4 52 yX4_within wsX4_within) := goodIn_app (goodIn_of _ (by decide +kernel)) ggX4_broken_X4_within
set_option maxRecDepth 20000 in
theorem ggX4_broken_X2_works : GoodIn wsX4_broken wsX2_works := goodIn_r _ [10, 11, 21, 22, 23, 24, 25, 26, 27, 28, 29, 30, 31] (by decide +kernel) (by decide +kernel)
set_option maxRecDepth 20000 in
theorem gX4_broken_X2_works : GoodIn wsX4_broken (wsV RX4 112 RX2 yX2_works wsX2_works) := goodIn_app (goodIn_of _ (by decide +kernel)) ggX4_broken_X2_works
theorem dX4_broken_0 : decode cX4_broken 0 = .ok (.iload_n 1, 1) := by decide +kernel
theorem dX4_broken_1 : decode cX4_broken 1 = .ok (.iconst 0, 1) := by decide +kernel
theorem dX4_broken_2 : decode cX4_broken 2 = .ok (.iconst 1, 1) := by decide +kernel
theorem dX4_broken_3 : decode cX4_broken 3 = .ok (.invokestatic 52, 3) := by decide +kernel
theorem dX4_broken_6 : decode cX4_broken 6 = .ok (.ifCond .eq 13, 3) := by decide +kernel
theorem dX4_broken_9 : decode cX4_broken 9 = .ok (.iload_n 2, 1) := by decide +kernel
theorem dX4_broken_10 : decode cX4_broken 10 = .ok (.iconst 0, 1) := by decide +kernel
theorem dX4_broken_11 : decode cX4_broken 11 = .ok (.bipush 11, 2) := by decide +kernel
theorem dX4_broken_13 : decode cX4_broken 13 = .ok (.invokestatic 52, 3) := by decide +kernel
theorem dX4_broken_16 : decode cX4_broken 16 = .ok (.ifCond .ne 6, 3) := by decide +kernel
theorem dX4_broken_19 : decode cX4_broken 19 = .ok (.bipush (-101), 2) := by decide +kernel
theorem dX4_broken_21 : decode cX4_broken 21 = .ok (.ireturn, 1) := by decide +kernel
theorem dX4_broken_22 : decode cX4_broken 22 = .ok (.aload_n 0, 1) := by decide +kernel
theorem dX4_broken_23 : decode cX4_broken 23 = .ok (.getfield 10, 3) := by decide +kernel
theorem dX4_broken_26 : decode cX4_broken 26 = .ok (.iload_n 1, 1) := by decide +kernel
theorem dX4_broken_27 : decode cX4_broken 27 = .ok (.iload_n 2, 1) := by decide +kernel
theorem dX4_broken_28 : decode cX4_broken 28 = .ok (.invokevirtual 112, 3) := by decide +kernel
theorem dX4_broken_31 : decode cX4_broken 31 = .ok (.ifCond .eq 7, 3) := by decide +kernel
theorem dX4_broken_34 : decode cX4_broken 34 = .ok (.iconst 0, 1) := by decide +kernel
theorem dX4_broken_35 : decode cX4_broken 35 = .ok (.goto 4, 3) := by decide +kernel
theorem dX4_broken_38 : decode cX4_broken 38 = .ok (.iconst 1, 1) := by decide +kernel
theorem dX4_broken_39 : decode cX4_broken 39 = .ok (.ireturn, 1) := by decide +kernel
set_option maxRecDepth 20000 in
theorem ggX4_place_X4_within : GoodIn wsX4_place wsX4_within := goodIn_r _ [5] (by decide +kernel) (by decide +kernel)
set_option maxRecDepth 20000 in
theorem gX4_place_X4_within : GoodIn wsX4_place (va_wsS RX4 52 yX4_within wsX4_within) := goodIn_app (goodIn_of _ (by decide +kernel)) ggX4_place_X4_within
set_option maxRecDepth 20000 in
theorem ggX4_place_X2_wantedAt : GoodIn wsX4_place wsX2_wantedAt := goodIn_r _ [10, 11, 12, 13, 14, 15, 16, 17, 18, 19, 20, 21, 22, 23, 24, 25, 26, 27, 28, 29, 30, 31, 32, 33, 34, 35, 36, 37, 38, 39, 40, 41, 42, 73, 74, 75, 76, 77, 78, 79, 80, 81, 82, 83, 84, 85, 86, 87, 88] (by decide +kernel) (by decide +kernel)
set_option maxRecDepth 20000 in
theorem gX4_place_X2_wantedAt : GoodIn wsX4_place (wsV RX4 175 RX2 yX2_wantedAt wsX2_wantedAt) := goodIn_app (goodIn_of _ (by decide +kernel)) ggX4_place_X2_wantedAt
set_option maxRecDepth 20000 in
theorem ggX4_place_X4_colorIn : GoodIn wsX4_place wsX4_colorIn := goodIn_r _ [45] (by decide +kernel) (by decide +kernel)
set_option maxRecDepth 20000 in
theorem gX4_place_X4_colorIn : GoodIn wsX4_place (va_wsS RX4 78 yX4_colorIn wsX4_colorIn) := goodIn_app (goodIn_of _ (by decide +kernel)) ggX4_place_X4_colorIn
set_option maxRecDepth 20000 in
theorem ggX4_place_X2_litAt : GoodIn wsX4_place wsX2_litAt := goodIn_r _ [49, 50, 51, 52, 53, 37, 54, 55, 56, 57, 73, 74, 75, 76, 77, 78, 79, 80, 81, 82, 83] (by decide +kernel) (by decide +kernel)
set_option maxRecDepth 20000 in
theorem gX4_place_X2_litAt : GoodIn wsX4_place (wsV RX4 179 RX2 yX2_litAt wsX2_litAt) := goodIn_app (goodIn_of _ (by decide +kernel)) ggX4_place_X2_litAt
set_option maxRecDepth 20000 in
theorem ggX4_place_X4_ticksSinceWritten : GoodIn wsX4_place wsX4_ticksSinceWritten := goodIn_r _ [61, 1, 62, 63, 64, 65, 66, 67, 68, 69, 70, 71, 72, 73, 74, 75, 76, 77, 78, 79, 80, 81, 82, 83] (by decide +kernel) (by decide +kernel)
set_option maxRecDepth 20000 in
theorem gX4_place_X4_ticksSinceWritten : GoodIn wsX4_place (wsV RX4 183 RX4 yX4_ticksSinceWritten wsX4_ticksSinceWritten) := goodIn_app (goodIn_of _ (by decide +kernel)) ggX4_place_X4_ticksSinceWritten
theorem dX4_place_0 : decode cX4_place 0 = .ok (.iload_n 1, 1) := by decide +kernel
theorem dX4_place_1 : decode cX4_place 1 = .ok (.iconst 0, 1) := by decide +kernel
theorem dX4_place_2 : decode cX4_place 2 = .ok (.sipush 719, 3) := by decide +kernel
theorem dX4_place_5 : decode cX4_place 5 = .ok (.invokestatic 52, 3) := by decide +kernel
theorem dX4_place_8 : decode cX4_place 8 = .ok (.ifCond .eq 13, 3) := by decide +kernel
theorem dX4_place_11 : decode cX4_place 11 = .ok (.iload_n 2, 1) := by decide +kernel
theorem dX4_place_12 : decode cX4_place 12 = .ok (.iconst 0, 1) := by decide +kernel
theorem dX4_place_13 : decode cX4_place 13 = .ok (.bipush 11, 2) := by decide +kernel
theorem dX4_place_15 : decode cX4_place 15 = .ok (.invokestatic 52, 3) := by decide +kernel
theorem dX4_place_18 : decode cX4_place 18 = .ok (.ifCond .ne 6, 3) := by decide +kernel
theorem dX4_place_21 : decode cX4_place 21 = .ok (.bipush (-101), 2) := by decide +kernel
theorem dX4_place_23 : decode cX4_place 23 = .ok (.ireturn, 1) := by decide +kernel
theorem dX4_place_24 : decode cX4_place 24 = .ok (.iload_n 3, 1) := by decide +kernel
theorem dX4_place_25 : decode cX4_place 25 = .ok (.tableswitch 61 0 2 #[27, 40, 54], 27) := by decide +kernel
theorem dX4_place_52 : decode cX4_place 52 = .ok (.aload_n 0, 1) := by decide +kernel
theorem dX4_place_53 : decode cX4_place 53 = .ok (.getfield 10, 3) := by decide +kernel
theorem dX4_place_56 : decode cX4_place 56 = .ok (.iload_n 1, 1) := by decide +kernel
theorem dX4_place_57 : decode cX4_place 57 = .ok (.invokevirtual 175, 3) := by decide +kernel
theorem dX4_place_60 : decode cX4_place 60 = .ok (.iload_n 2, 1) := by decide +kernel
theorem dX4_place_61 : decode cX4_place 61 = .ok (.invokestatic 78, 3) := by decide +kernel
theorem dX4_place_64 : decode cX4_place 64 = .ok (.ireturn, 1) := by decide +kernel
theorem dX4_place_65 : decode cX4_place 65 = .ok (.aload_n 0, 1) := by decide +kernel
theorem dX4_place_66 : decode cX4_place 66 = .ok (.getfield 10, 3) := by decide +kernel
theorem dX4_place_69 : decode cX4_place 69 = .ok (.iload_n 1, 1) := by decide +kernel
theorem dX4_place_70 : decode cX4_place 70 = .ok (.iconst 0, 1) := by decide +kernel
theorem dX4_place_71 : decode cX4_place 71 = .ok (.invokevirtual 179, 3) := by decide +kernel
theorem dX4_place_74 : decode cX4_place 74 = .ok (.iload_n 2, 1) := by decide +kernel
theorem dX4_place_75 : decode cX4_place 75 = .ok (.invokestatic 78, 3) := by decide +kernel
theorem dX4_place_78 : decode cX4_place 78 = .ok (.ireturn, 1) := by decide +kernel
theorem dX4_place_79 : decode cX4_place 79 = .ok (.aload_n 0, 1) := by decide +kernel
theorem dX4_place_80 : decode cX4_place 80 = .ok (.iload_n 1, 1) := by decide +kernel
theorem dX4_place_81 : decode cX4_place 81 = .ok (.iload_n 2, 1) := by decide +kernel
theorem dX4_place_82 : decode cX4_place 82 = .ok (.invokevirtual 183, 3) := by decide +kernel
theorem dX4_place_85 : decode cX4_place 85 = .ok (.ireturn, 1) := by decide +kernel
theorem dX4_place_86 : decode cX4_place 86 = .ok (.bipush (-101), 2) := by decide +kernel
theorem dX4_place_88 : decode cX4_place 88 = .ok (.ireturn, 1) := by decide +kernel
set_option maxRecDepth 20000 in
theorem ggX4_columnAt_X2_pictureNumbered : GoodIn wsX4_columnAt wsX2_pictureNumbered := goodIn_r _ [6, 7, 8, 9, 10, 11, 47, 48, 49, 50, 51, 52, 53, 54, 55, 56, 57] (by decide +kernel) (by decide +kernel)
set_option maxRecDepth 20000 in
theorem gX4_columnAt_X2_pictureNumbered : GoodIn wsX4_columnAt (wsV RX4 71 RX2 yX2_pictureNumbered wsX2_pictureNumbered) := goodIn_app (goodIn_of _ (by decide +kernel)) ggX4_columnAt_X2_pictureNumbered
set_option maxRecDepth 20000 in
theorem ggX4_columnAt_X4_within : GoodIn wsX4_columnAt wsX4_within := goodIn_r _ [11] (by decide +kernel) (by decide +kernel)
set_option maxRecDepth 20000 in
theorem gX4_columnAt_X4_within : GoodIn wsX4_columnAt (va_wsS RX4 52 yX4_within wsX4_within) := goodIn_app (goodIn_of _ (by decide +kernel)) ggX4_columnAt_X4_within
set_option maxRecDepth 20000 in
theorem ggX4_columnAt_X0_covers : GoodIn wsX4_columnAt wsX0_covers := goodIn_r _ [17, 18, 19, 20, 21, 22, 23, 24, 25, 16, 26, 27, 28, 29, 30, 31, 32, 58, 59, 60, 61, 62] (by decide +kernel) (by decide +kernel)
set_option maxRecDepth 20000 in
theorem gX4_columnAt_X0_covers : GoodIn wsX4_columnAt (wsV RX4 187 RX0 yX0_covers wsX0_covers) := goodIn_app (goodIn_of _ (by decide +kernel)) ggX4_columnAt_X0_covers
set_option maxRecDepth 20000 in
theorem ggX4_columnAt_X0_columnOf : GoodIn wsX4_columnAt wsX0_columnOf := goodIn_r _ [36, 18, 28, 37, 27, 19, 20, 21, 22, 58, 59, 60, 61, 62] (by decide +kernel) (by decide +kernel)
set_option maxRecDepth 20000 in
theorem gX4_columnAt_X0_columnOf : GoodIn wsX4_columnAt (wsV RX4 191 RX0 yX0_columnOf wsX0_columnOf) := goodIn_app (goodIn_of _ (by decide +kernel)) ggX4_columnAt_X0_columnOf
theorem dX4_columnAt_0 : decode cX4_columnAt 0 = .ok (.aload_n 0, 1) := by decide +kernel
theorem dX4_columnAt_1 : decode cX4_columnAt 1 = .ok (.getfield 10, 3) := by decide +kernel
theorem dX4_columnAt_4 : decode cX4_columnAt 4 = .ok (.iload_n 1, 1) := by decide +kernel
theorem dX4_columnAt_5 : decode cX4_columnAt 5 = .ok (.invokevirtual 71, 3) := by decide +kernel
theorem dX4_columnAt_8 : decode cX4_columnAt 8 = .ok (.astore_n 3, 1) := by decide +kernel
theorem dX4_columnAt_9 : decode cX4_columnAt 9 = .ok (.aload_n 3, 1) := by decide +kernel
theorem dX4_columnAt_10 : decode cX4_columnAt 10 = .ok (.ifnull 14, 3) := by decide +kernel
theorem dX4_columnAt_13 : decode cX4_columnAt 13 = .ok (.iload_n 2, 1) := by decide +kernel
theorem dX4_columnAt_14 : decode cX4_columnAt 14 = .ok (.iconst 0, 1) := by decide +kernel
theorem dX4_columnAt_15 : decode cX4_columnAt 15 = .ok (.sipush 719, 3) := by decide +kernel
theorem dX4_columnAt_18 : decode cX4_columnAt 18 = .ok (.invokestatic 52, 3) := by decide +kernel
theorem dX4_columnAt_21 : decode cX4_columnAt 21 = .ok (.ifCond .ne 6, 3) := by decide +kernel
theorem dX4_columnAt_24 : decode cX4_columnAt 24 = .ok (.bipush (-101), 2) := by decide +kernel
theorem dX4_columnAt_26 : decode cX4_columnAt 26 = .ok (.ireturn, 1) := by decide +kernel
theorem dX4_columnAt_27 : decode cX4_columnAt 27 = .ok (.aload_n 3, 1) := by decide +kernel
theorem dX4_columnAt_28 : decode cX4_columnAt 28 = .ok (.iload_n 2, 1) := by decide +kernel
theorem dX4_columnAt_29 : decode cX4_columnAt 29 = .ok (.invokevirtual 187, 3) := by decide +kernel
theorem dX4_columnAt_32 : decode cX4_columnAt 32 = .ok (.ifCond .eq 11, 3) := by decide +kernel
theorem dX4_columnAt_35 : decode cX4_columnAt 35 = .ok (.aload_n 3, 1) := by decide +kernel
theorem dX4_columnAt_36 : decode cX4_columnAt 36 = .ok (.iload_n 2, 1) := by decide +kernel
theorem dX4_columnAt_37 : decode cX4_columnAt 37 = .ok (.invokevirtual 191, 3) := by decide +kernel
theorem dX4_columnAt_40 : decode cX4_columnAt 40 = .ok (.goto 5, 3) := by decide +kernel
theorem dX4_columnAt_43 : decode cX4_columnAt 43 = .ok (.bipush (-109), 2) := by decide +kernel
theorem dX4_columnAt_45 : decode cX4_columnAt 45 = .ok (.ireturn, 1) := by decide +kernel
set_option maxRecDepth 20000 in
theorem ggX4_countLit_X2_litAt : GoodIn wsX4_countLit wsX2_litAt := goodIn_r _ [6, 7, 8, 9, 10, 11, 12, 13, 14, 15, 37, 38, 39, 40, 41, 42, 43, 44, 45, 46, 47] (by decide +kernel) (by decide +kernel)
set_option maxRecDepth 20000 in
theorem gX4_countLit_X2_litAt : GoodIn wsX4_countLit (wsV RX4 179 RX2 yX2_litAt wsX2_litAt) := goodIn_app (goodIn_of _ (by decide +kernel)) ggX4_countLit_X2_litAt
set_option maxRecDepth 20000 in
theorem ggX4_countLit_X4_notDark : GoodIn wsX4_countLit wsX4_notDark := goodIn_r _ [19, 20] (by decide +kernel) (by decide +kernel)
set_option maxRecDepth 20000 in
theorem gX4_countLit_X4_notDark : GoodIn wsX4_countLit (va_wsS RX4 195 yX4_notDark wsX4_notDark) := goodIn_app (goodIn_of _ (by decide +kernel)) ggX4_countLit_X4_notDark
set_option maxRecDepth 20000 in
theorem ggX4_countLit_J13_bitCount_95d88 : GoodIn wsX4_countLit wsJ13_bitCount_95d88 := goodIn_r _ [24, 25, 26, 27] (by decide +kernel) (by decide +kernel)
set_option maxRecDepth 20000 in
theorem gX4_countLit_J13_bitCount_95d88 : GoodIn wsX4_countLit (va_wsS RX4 199 yJ13_bitCount_95d88 wsJ13_bitCount_95d88) := goodIn_app (goodIn_of _ (by decide +kernel)) ggX4_countLit_J13_bitCount_95d88
theorem dX4_countLit_0 : decode cX4_countLit 0 = .ok (.iconst 0, 1) := by decide +kernel
theorem dX4_countLit_1 : decode cX4_countLit 1 = .ok (.istore_n 1, 1) := by decide +kernel
theorem dX4_countLit_2 : decode cX4_countLit 2 = .ok (.iconst 0, 1) := by decide +kernel
theorem dX4_countLit_3 : decode cX4_countLit 3 = .ok (.istore_n 2, 1) := by decide +kernel
theorem dX4_countLit_4 : decode cX4_countLit 4 = .ok (.iload_n 2, 1) := by decide +kernel
theorem dX4_countLit_5 : decode cX4_countLit 5 = .ok (.sipush 720, 3) := by decide +kernel
theorem dX4_countLit_8 : decode cX4_countLit 8 = .ok (.if_icmp .ge 27, 3) := by decide +kernel
theorem dX4_countLit_11 : decode cX4_countLit 11 = .ok (.iload_n 1, 1) := by decide +kernel
theorem dX4_countLit_12 : decode cX4_countLit 12 = .ok (.aload_n 0, 1) := by decide +kernel
theorem dX4_countLit_13 : decode cX4_countLit 13 = .ok (.getfield 10, 3) := by decide +kernel
theorem dX4_countLit_16 : decode cX4_countLit 16 = .ok (.iload_n 2, 1) := by decide +kernel
theorem dX4_countLit_17 : decode cX4_countLit 17 = .ok (.iconst 0, 1) := by decide +kernel
theorem dX4_countLit_18 : decode cX4_countLit 18 = .ok (.invokevirtual 179, 3) := by decide +kernel
theorem dX4_countLit_21 : decode cX4_countLit 21 = .ok (.invokestatic 195, 3) := by decide +kernel
theorem dX4_countLit_24 : decode cX4_countLit 24 = .ok (.invokestatic 199, 3) := by decide +kernel
theorem dX4_countLit_27 : decode cX4_countLit 27 = .ok (.iadd, 1) := by decide +kernel
theorem dX4_countLit_28 : decode cX4_countLit 28 = .ok (.istore_n 1, 1) := by decide +kernel
theorem dX4_countLit_29 : decode cX4_countLit 29 = .ok (.iinc 2 1, 3) := by decide +kernel
theorem dX4_countLit_32 : decode cX4_countLit 32 = .ok (.goto (-28), 3) := by decide +kernel
theorem dX4_countLit_35 : decode cX4_countLit 35 = .ok (.iload_n 1, 1) := by decide +kernel
theorem dX4_countLit_36 : decode cX4_countLit 36 = .ok (.ireturn, 1) := by decide +kernel
set_option maxRecDepth 20000 in
theorem ggX4_countNotAsWanted_X2_litAt : GoodIn wsX4_countNotAsWanted wsX2_litAt := goodIn_r _ [6, 7, 8, 9, 10, 11, 12, 13, 14, 15, 72, 73, 74, 75, 76, 77, 78, 79, 80, 81, 82] (by decide +kernel) (by decide +kernel)
set_option maxRecDepth 20000 in
theorem gX4_countNotAsWanted_X2_litAt : GoodIn wsX4_countNotAsWanted (wsV RX4 179 RX2 yX2_litAt wsX2_litAt) := goodIn_app (goodIn_of _ (by decide +kernel)) ggX4_countNotAsWanted_X2_litAt
set_option maxRecDepth 20000 in
theorem ggX4_countNotAsWanted_X2_wantedAt : GoodIn wsX4_countNotAsWanted wsX2_wantedAt := goodIn_r _ [19, 20, 21, 22, 23, 24, 25, 26, 27, 28, 29, 30, 31, 32, 33, 34, 35, 36, 37, 38, 39, 40, 41, 42, 43, 44, 45, 11, 46, 47, 48, 49, 50, 72, 73, 74, 75, 76, 77, 78, 79, 80, 81, 82, 83, 84, 85, 86, 87] (by decide +kernel) (by decide +kernel)
set_option maxRecDepth 20000 in
theorem gX4_countNotAsWanted_X2_wantedAt : GoodIn wsX4_countNotAsWanted (wsV RX4 175 RX2 yX2_wantedAt wsX2_wantedAt) := goodIn_app (goodIn_of _ (by decide +kernel)) ggX4_countNotAsWanted_X2_wantedAt
set_option maxRecDepth 20000 in
theorem ggX4_countNotAsWanted_X4_notDark : GoodIn wsX4_countNotAsWanted wsX4_notDark := goodIn_r _ [54, 55] (by decide +kernel) (by decide +kernel)
set_option maxRecDepth 20000 in
theorem gX4_countNotAsWanted_X4_notDark : GoodIn wsX4_countNotAsWanted (va_wsS RX4 195 yX4_notDark wsX4_notDark) := goodIn_app (goodIn_of _ (by decide +kernel)) ggX4_countNotAsWanted_X4_notDark
set_option maxRecDepth 20000 in
theorem ggX4_countNotAsWanted_J13_bitCount_95d88 : GoodIn wsX4_countNotAsWanted wsJ13_bitCount_95d88 := goodIn_r _ [59, 60, 61, 62] (by decide +kernel) (by decide +kernel)
set_option maxRecDepth 20000 in
theorem gX4_countNotAsWanted_J13_bitCount_95d88 : GoodIn wsX4_countNotAsWanted (va_wsS RX4 199 yJ13_bitCount_95d88 wsJ13_bitCount_95d88) := goodIn_app (goodIn_of _ (by decide +kernel)) ggX4_countNotAsWanted_J13_bitCount_95d88
theorem dX4_countNotAsWanted_0 : decode cX4_countNotAsWanted 0 = .ok (.iconst 0, 1) := by decide +kernel
theorem dX4_countNotAsWanted_1 : decode cX4_countNotAsWanted 1 = .ok (.istore_n 1, 1) := by decide +kernel
theorem dX4_countNotAsWanted_2 : decode cX4_countNotAsWanted 2 = .ok (.iconst 0, 1) := by decide +kernel
theorem dX4_countNotAsWanted_3 : decode cX4_countNotAsWanted 3 = .ok (.istore_n 2, 1) := by decide +kernel
theorem dX4_countNotAsWanted_4 : decode cX4_countNotAsWanted 4 = .ok (.iload_n 2, 1) := by decide +kernel
theorem dX4_countNotAsWanted_5 : decode cX4_countNotAsWanted 5 = .ok (.sipush 720, 3) := by decide +kernel
theorem dX4_countNotAsWanted_8 : decode cX4_countNotAsWanted 8 = .ok (.if_icmp .ge 36, 3) := by decide +kernel
theorem dX4_countNotAsWanted_11 : decode cX4_countNotAsWanted 11 = .ok (.iload_n 1, 1) := by decide +kernel
theorem dX4_countNotAsWanted_12 : decode cX4_countNotAsWanted 12 = .ok (.aload_n 0, 1) := by decide +kernel
theorem dX4_countNotAsWanted_13 : decode cX4_countNotAsWanted 13 = .ok (.getfield 10, 3) := by decide +kernel
theorem dX4_countNotAsWanted_16 : decode cX4_countNotAsWanted 16 = .ok (.iload_n 2, 1) := by decide +kernel
theorem dX4_countNotAsWanted_17 : decode cX4_countNotAsWanted 17 = .ok (.iconst 0, 1) := by decide +kernel
theorem dX4_countNotAsWanted_18 : decode cX4_countNotAsWanted 18 = .ok (.invokevirtual 179, 3) := by decide +kernel
theorem dX4_countNotAsWanted_21 : decode cX4_countNotAsWanted 21 = .ok (.aload_n 0, 1) := by decide +kernel
theorem dX4_countNotAsWanted_22 : decode cX4_countNotAsWanted 22 = .ok (.getfield 10, 3) := by decide +kernel
theorem dX4_countNotAsWanted_25 : decode cX4_countNotAsWanted 25 = .ok (.iload_n 2, 1) := by decide +kernel
theorem dX4_countNotAsWanted_26 : decode cX4_countNotAsWanted 26 = .ok (.invokevirtual 175, 3) := by decide +kernel
theorem dX4_countNotAsWanted_29 : decode cX4_countNotAsWanted 29 = .ok (.lxor, 1) := by decide +kernel
theorem dX4_countNotAsWanted_30 : decode cX4_countNotAsWanted 30 = .ok (.invokestatic 195, 3) := by decide +kernel
theorem dX4_countNotAsWanted_33 : decode cX4_countNotAsWanted 33 = .ok (.invokestatic 199, 3) := by decide +kernel
theorem dX4_countNotAsWanted_36 : decode cX4_countNotAsWanted 36 = .ok (.iadd, 1) := by decide +kernel
theorem dX4_countNotAsWanted_37 : decode cX4_countNotAsWanted 37 = .ok (.istore_n 1, 1) := by decide +kernel
theorem dX4_countNotAsWanted_38 : decode cX4_countNotAsWanted 38 = .ok (.iinc 2 1, 3) := by decide +kernel
theorem dX4_countNotAsWanted_41 : decode cX4_countNotAsWanted 41 = .ok (.goto (-37), 3) := by decide +kernel
theorem dX4_countNotAsWanted_44 : decode cX4_countNotAsWanted 44 = .ok (.iload_n 1, 1) := by decide +kernel
theorem dX4_countNotAsWanted_45 : decode cX4_countNotAsWanted 45 = .ok (.ireturn, 1) := by decide +kernel
theorem dX4_ticksSinceWritten_0 : decode cX4_ticksSinceWritten 0 = .ok (.aload_n 0, 1) := by decide +kernel
theorem dX4_ticksSinceWritten_1 : decode cX4_ticksSinceWritten 1 = .ok (.getfield 10, 3) := by decide +kernel
theorem dX4_ticksSinceWritten_4 : decode cX4_ticksSinceWritten 4 = .ok (.getfield 205, 3) := by decide +kernel
theorem dX4_ticksSinceWritten_7 : decode cX4_ticksSinceWritten 7 = .ok (.iload_n 1, 1) := by decide +kernel
theorem dX4_ticksSinceWritten_8 : decode cX4_ticksSinceWritten 8 = .ok (.bipush 12, 2) := by decide +kernel
theorem dX4_ticksSinceWritten_10 : decode cX4_ticksSinceWritten 10 = .ok (.imul, 1) := by decide +kernel
theorem dX4_ticksSinceWritten_11 : decode cX4_ticksSinceWritten 11 = .ok (.iload_n 2, 1) := by decide +kernel
theorem dX4_ticksSinceWritten_12 : decode cX4_ticksSinceWritten 12 = .ok (.iadd, 1) := by decide +kernel
theorem dX4_ticksSinceWritten_13 : decode cX4_ticksSinceWritten 13 = .ok (.iaload, 1) := by decide +kernel
theorem dX4_ticksSinceWritten_14 : decode cX4_ticksSinceWritten 14 = .ok (.istore_n 3, 1) := by decide +kernel
theorem dX4_ticksSinceWritten_15 : decode cX4_ticksSinceWritten 15 = .ok (.iload_n 3, 1) := by decide +kernel
theorem dX4_ticksSinceWritten_16 : decode cX4_ticksSinceWritten 16 = .ok (.ifCond .ne 8, 3) := by decide +kernel
theorem dX4_ticksSinceWritten_19 : decode cX4_ticksSinceWritten 19 = .ok (.bipush (-109), 2) := by decide +kernel
theorem dX4_ticksSinceWritten_21 : decode cX4_ticksSinceWritten 21 = .ok (.goto 12, 3) := by decide +kernel
theorem dX4_ticksSinceWritten_24 : decode cX4_ticksSinceWritten 24 = .ok (.aload_n 0, 1) := by decide +kernel
theorem dX4_ticksSinceWritten_25 : decode cX4_ticksSinceWritten 25 = .ok (.getfield 10, 3) := by decide +kernel
theorem dX4_ticksSinceWritten_28 : decode cX4_ticksSinceWritten 28 = .ok (.getfield 131, 3) := by decide +kernel
theorem dX4_ticksSinceWritten_31 : decode cX4_ticksSinceWritten 31 = .ok (.iload_n 3, 1) := by decide +kernel
theorem dX4_ticksSinceWritten_32 : decode cX4_ticksSinceWritten 32 = .ok (.isub, 1) := by decide +kernel
theorem dX4_ticksSinceWritten_33 : decode cX4_ticksSinceWritten 33 = .ok (.ireturn, 1) := by decide +kernel
set_option maxRecDepth 20000 in
theorem ggX4_ticksAround_X3_prepare : GoodIn wsX4_ticksAround wsX3_prepare := goodIn_r _ [13, 14, 15, 16, 17, 18, 19, 20, 21, 22, 23, 24, 25, 26, 27, 28, 29, 30, 31, 32, 33, 34, 35, 36, 37, 38, 39, 40, 41, 42, 43, 44, 45, 46, 47, 48, 49, 50, 51, 52, 7, 53, 54, 55, 56, 57, 58, 59, 60, 61, 62, 63, 64, 65, 66, 67, 68, 69, 70, 12, 71, 112, 113, 114, 115, 116, 117, 118, 119, 120, 121, 122, 123, 124, 125, 126, 127, 128, 129, 130, 131, 132, 133, 134, 135, 136, 137, 138] (by decide +kernel) (by decide +kernel)
set_option maxRecDepth 20000 in
theorem gX4_ticksAround_X3_prepare : GoodIn wsX4_ticksAround (wsV RX4 134 RX3 yX3_prepare wsX3_prepare) := goodIn_app (goodIn_of _ (by decide +kernel)) ggX4_ticksAround_X3_prepare
set_option maxRecDepth 20000 in
theorem ggX4_ticksAround_X3_start : GoodIn wsX4_ticksAround wsX3_start := goodIn_r _ [75, 76, 77, 78, 79, 80, 81, 82, 83, 84, 123, 124, 125, 126, 127, 128, 129, 130, 131, 132, 133, 112, 113, 114, 115, 116, 117, 118, 119, 120, 121, 122] (by decide +kernel) (by decide +kernel)
set_option maxRecDepth 20000 in
theorem gX4_ticksAround_X3_start : GoodIn wsX4_ticksAround (wsV RX4 138 RX3 yX3_start wsX3_start) := goodIn_app (goodIn_of _ (by decide +kernel)) ggX4_ticksAround_X3_start
set_option maxRecDepth 20000 in
theorem ggX4_ticksAround_X3_goOn : GoodIn wsX4_ticksAround wsX3_goOn := goodIn_r _ [88, 83, 89, 90, 91, 12, 92, 82, 18, 17, 80, 76, 93, 52, 7, 53, 94, 95, 96, 97, 98, 99, 100, 101, 6, 8, 78, 84, 20, 102, 42, 43, 44, 123, 124, 125, 126, 127, 128, 129, 130, 131, 132, 133] (by decide +kernel) (by decide +kernel)
set_option maxRecDepth 20000 in
theorem gX4_ticksAround_X3_goOn : GoodIn wsX4_ticksAround (wsV RX4 142 RX3 yX3_goOn wsX3_goOn) := goodIn_app (goodIn_of _ (by decide +kernel)) ggX4_ticksAround_X3_goOn
theorem dX4_ticksAround_0 : decode cX4_ticksAround 0 = .ok (.aload_n 0, 1) := by decide +kernel
theorem dX4_ticksAround_1 : decode cX4_ticksAround 1 = .ok (.getfield 44, 3) := by decide +kernel
theorem dX4_ticksAround_4 : decode cX4_ticksAround 4 = .ok (.aload_n 0, 1) := by decide +kernel
theorem dX4_ticksAround_5 : decode cX4_ticksAround 5 = .ok (.getfield 10, 3) := by decide +kernel
theorem dX4_ticksAround_8 : decode cX4_ticksAround 8 = .ok (.invokevirtual 134, 3) := by decide +kernel
theorem dX4_ticksAround_11 : decode cX4_ticksAround 11 = .ok (.aload_n 0, 1) := by decide +kernel
theorem dX4_ticksAround_12 : decode cX4_ticksAround 12 = .ok (.getfield 44, 3) := by decide +kernel
theorem dX4_ticksAround_15 : decode cX4_ticksAround 15 = .ok (.aload_n 0, 1) := by decide +kernel
theorem dX4_ticksAround_16 : decode cX4_ticksAround 16 = .ok (.getfield 10, 3) := by decide +kernel
theorem dX4_ticksAround_19 : decode cX4_ticksAround 19 = .ok (.aload_n 0, 1) := by decide +kernel
theorem dX4_ticksAround_20 : decode cX4_ticksAround 20 = .ok (.getfield 10, 3) := by decide +kernel
theorem dX4_ticksAround_23 : decode cX4_ticksAround 23 = .ok (.getfield 128, 3) := by decide +kernel
theorem dX4_ticksAround_26 : decode cX4_ticksAround 26 = .ok (.iconst 0, 1) := by decide +kernel
theorem dX4_ticksAround_27 : decode cX4_ticksAround 27 = .ok (.iaload, 1) := by decide +kernel
theorem dX4_ticksAround_28 : decode cX4_ticksAround 28 = .ok (.invokevirtual 138, 3) := by decide +kernel
theorem dX4_ticksAround_31 : decode cX4_ticksAround 31 = .ok (.iconst 0, 1) := by decide +kernel
theorem dX4_ticksAround_32 : decode cX4_ticksAround 32 = .ok (.istore_n 1, 1) := by decide +kernel
theorem dX4_ticksAround_33 : decode cX4_ticksAround 33 = .ok (.iconst 1, 1) := by decide +kernel
theorem dX4_ticksAround_34 : decode cX4_ticksAround 34 = .ok (.istore_n 2, 1) := by decide +kernel
theorem dX4_ticksAround_35 : decode cX4_ticksAround 35 = .ok (.iload_n 2, 1) := by decide +kernel
theorem dX4_ticksAround_36 : decode cX4_ticksAround 36 = .ok (.sipush 500, 3) := by decide +kernel
theorem dX4_ticksAround_39 : decode cX4_ticksAround 39 = .ok (.if_icmp .gt 39, 3) := by decide +kernel
theorem dX4_ticksAround_42 : decode cX4_ticksAround 42 = .ok (.aload_n 0, 1) := by decide +kernel
theorem dX4_ticksAround_43 : decode cX4_ticksAround 43 = .ok (.getfield 44, 3) := by decide +kernel
theorem dX4_ticksAround_46 : decode cX4_ticksAround 46 = .ok (.iconst 1, 1) := by decide +kernel
theorem dX4_ticksAround_47 : decode cX4_ticksAround 47 = .ok (.invokevirtual 142, 3) := by decide +kernel
theorem dX4_ticksAround_50 : decode cX4_ticksAround 50 = .ok (.iload_n 1, 1) := by decide +kernel
theorem dX4_ticksAround_51 : decode cX4_ticksAround 51 = .ok (.aload_n 0, 1) := by decide +kernel
theorem dX4_ticksAround_52 : decode cX4_ticksAround 52 = .ok (.getfield 44, 3) := by decide +kernel
theorem dX4_ticksAround_55 : decode cX4_ticksAround 55 = .ok (.getfield 208, 3) := by decide +kernel
theorem dX4_ticksAround_58 : decode cX4_ticksAround 58 = .ok (.invokestatic 209, 3) := by decide +kernel
theorem dX4_ticksAround_61 : decode cX4_ticksAround 61 = .ok (.iadd, 1) := by decide +kernel
theorem dX4_ticksAround_62 : decode cX4_ticksAround 62 = .ok (.istore_n 1, 1) := by decide +kernel
theorem dX4_ticksAround_63 : decode cX4_ticksAround 63 = .ok (.iload_n 1, 1) := by decide +kernel
theorem dX4_ticksAround_64 : decode cX4_ticksAround 64 = .ok (.sipush 720, 3) := by decide +kernel
theorem dX4_ticksAround_67 : decode cX4_ticksAround 67 = .ok (.if_icmp .lt 5, 3) := by decide +kernel
theorem dX4_ticksAround_70 : decode cX4_ticksAround 70 = .ok (.iload_n 2, 1) := by decide +kernel
theorem dX4_ticksAround_71 : decode cX4_ticksAround 71 = .ok (.ireturn, 1) := by decide +kernel
theorem dX4_ticksAround_72 : decode cX4_ticksAround 72 = .ok (.iinc 2 1, 3) := by decide +kernel
theorem dX4_ticksAround_75 : decode cX4_ticksAround 75 = .ok (.goto (-40), 3) := by decide +kernel
theorem dX4_ticksAround_78 : decode cX4_ticksAround 78 = .ok (.bipush (-109), 2) := by decide +kernel
theorem dX4_ticksAround_80 : decode cX4_ticksAround 80 = .ok (.ireturn, 1) := by decide +kernel
set_option maxRecDepth 20000 in
theorem ggX4_gaps_X4_within : GoodIn wsX4_gaps wsX4_within := goodIn_r _ [7] (by decide +kernel) (by decide +kernel)
set_option maxRecDepth 20000 in
theorem gX4_gaps_X4_within : GoodIn wsX4_gaps (va_wsS RX4 52 yX4_within wsX4_within) := goodIn_app (goodIn_of _ (by decide +kernel)) ggX4_gaps_X4_within
set_option maxRecDepth 20000 in
theorem ggX4_gaps_X3_prepare : GoodIn wsX4_gaps wsX3_prepare := goodIn_r _ [12, 13, 14, 15, 16, 17, 18, 19, 20, 21, 22, 23, 24, 25, 26, 27, 28, 29, 30, 31, 32, 33, 34, 35, 36, 37, 38, 39, 40, 41, 42, 43, 44, 45, 46, 47, 48, 49, 50, 51, 52, 53, 54, 55, 56, 57, 58, 6, 59, 60, 61, 62, 63, 64, 65, 66, 67, 68, 69, 11, 70, 127, 128, 129, 130, 131, 132, 133, 134, 135, 136, 137, 138, 139, 140, 141, 142, 143, 144, 145, 146, 147, 148, 149, 150, 151, 152, 153] (by decide +kernel) (by decide +kernel)
set_option maxRecDepth 20000 in
theorem gX4_gaps_X3_prepare : GoodIn wsX4_gaps (wsV RX4 134 RX3 yX3_prepare wsX3_prepare) := goodIn_app (goodIn_of _ (by decide +kernel)) ggX4_gaps_X3_prepare
set_option maxRecDepth 20000 in
theorem ggX4_gaps_X3_start : GoodIn wsX4_gaps wsX3_start := goodIn_r _ [74, 75, 76, 77, 78, 79, 80, 81, 82, 83, 138, 139, 140, 141, 142, 143, 144, 145, 146, 147, 148, 127, 128, 129, 130, 131, 132, 133, 134, 135, 136, 137] (by decide +kernel) (by decide +kernel)
set_option maxRecDepth 20000 in
theorem gX4_gaps_X3_start : GoodIn wsX4_gaps (wsV RX4 138 RX3 yX3_start wsX3_start) := goodIn_app (goodIn_of _ (by decide +kernel)) ggX4_gaps_X3_start
set_option maxRecDepth 20000 in
theorem ggX4_gaps_X3_goOn : GoodIn wsX4_gaps wsX3_goOn := goodIn_r _ [87, 82, 88, 89, 90, 11, 91, 81, 17, 16, 79, 75, 92, 51, 52, 53, 93, 94, 95, 96, 97, 98, 99, 100, 101, 102, 77, 83, 19, 103, 41, 42, 43, 138, 139, 140, 141, 142, 143, 144, 145, 146, 147, 148] (by decide +kernel) (by decide +kernel)
set_option maxRecDepth 20000 in
theorem gX4_gaps_X3_goOn : GoodIn wsX4_gaps (wsV RX4 142 RX3 yX3_goOn wsX3_goOn) := goodIn_app (goodIn_of _ (by decide +kernel)) ggX4_gaps_X3_goOn
set_option maxRecDepth 20000 in
theorem ggX4_gaps_X3_firstArmAt : GoodIn wsX4_gaps wsX3_firstArmAt := goodIn_r _ [107, 83, 138, 139, 140, 141, 142, 143, 144, 145, 146, 147, 148] (by decide +kernel) (by decide +kernel)
set_option maxRecDepth 20000 in
theorem gX4_gaps_X3_firstArmAt : GoodIn wsX4_gaps (wsV RX4 214 RX3 yX3_firstArmAt wsX3_firstArmAt) := goodIn_app (goodIn_of _ (by decide +kernel)) ggX4_gaps_X3_firstArmAt
set_option maxRecDepth 20000 in
theorem ggX4_gaps_X3_secondArmAt : GoodIn wsX4_gaps wsX3_secondArmAt := goodIn_r _ [111, 14, 83, 68, 69, 11, 70, 138, 139, 140, 141, 142, 143, 144, 145, 146, 147, 148] (by decide +kernel) (by decide +kernel)
set_option maxRecDepth 20000 in
theorem gX4_gaps_X3_secondArmAt : GoodIn wsX4_gaps (wsV RX4 217 RX3 yX3_secondArmAt wsX3_secondArmAt) := goodIn_app (goodIn_of _ (by decide +kernel)) ggX4_gaps_X3_secondArmAt
set_option maxRecDepth 20000 in
theorem ggX4_gaps_X2_isCoveredAt : GoodIn wsX4_gaps wsX2_isCoveredAt := goodIn_r _ [115, 26, 27, 116, 117, 36, 37, 31, 38, 39, 40, 41, 42, 43, 44, 45, 46, 47, 48, 49, 50, 51, 52, 53, 127, 128, 129, 130, 131, 132, 133, 134, 135, 136, 137, 149, 150, 151, 152, 153] (by decide +kernel) (by decide +kernel)
set_option maxRecDepth 20000 in
theorem gX4_gaps_X2_isCoveredAt : GoodIn wsX4_gaps (wsV RX4 220 RX2 yX2_isCoveredAt wsX2_isCoveredAt) := goodIn_app (goodIn_of _ (by decide +kernel)) ggX4_gaps_X2_isCoveredAt
theorem dX4_gaps_0 : decode cX4_gaps 0 = .ok (.iload_n 1, 1) := by decide +kernel
theorem dX4_gaps_1 : decode cX4_gaps 1 = .ok (.iconst 0, 1) := by decide +kernel
theorem dX4_gaps_2 : decode cX4_gaps 2 = .ok (.sipush 200, 3) := by decide +kernel
theorem dX4_gaps_5 : decode cX4_gaps 5 = .ok (.invokestatic 52, 3) := by decide +kernel
theorem dX4_gaps_8 : decode cX4_gaps 8 = .ok (.ifCond .ne 6, 3) := by decide +kernel
theorem dX4_gaps_11 : decode cX4_gaps 11 = .ok (.bipush (-101), 2) := by decide +kernel
theorem dX4_gaps_13 : decode cX4_gaps 13 = .ok (.ireturn, 1) := by decide +kernel
theorem dX4_gaps_14 : decode cX4_gaps 14 = .ok (.aload_n 0, 1) := by decide +kernel
theorem dX4_gaps_15 : decode cX4_gaps 15 = .ok (.getfield 44, 3) := by decide +kernel
theorem dX4_gaps_18 : decode cX4_gaps 18 = .ok (.aload_n 0, 1) := by decide +kernel
theorem dX4_gaps_19 : decode cX4_gaps 19 = .ok (.getfield 10, 3) := by decide +kernel
theorem dX4_gaps_22 : decode cX4_gaps 22 = .ok (.invokevirtual 134, 3) := by decide +kernel
theorem dX4_gaps_25 : decode cX4_gaps 25 = .ok (.aload_n 0, 1) := by decide +kernel
theorem dX4_gaps_26 : decode cX4_gaps 26 = .ok (.getfield 44, 3) := by decide +kernel
theorem dX4_gaps_29 : decode cX4_gaps 29 = .ok (.aload_n 0, 1) := by decide +kernel
theorem dX4_gaps_30 : decode cX4_gaps 30 = .ok (.getfield 10, 3) := by decide +kernel
theorem dX4_gaps_33 : decode cX4_gaps 33 = .ok (.aload_n 0, 1) := by decide +kernel
theorem dX4_gaps_34 : decode cX4_gaps 34 = .ok (.getfield 10, 3) := by decide +kernel
theorem dX4_gaps_37 : decode cX4_gaps 37 = .ok (.getfield 128, 3) := by decide +kernel
theorem dX4_gaps_40 : decode cX4_gaps 40 = .ok (.iconst 0, 1) := by decide +kernel
theorem dX4_gaps_41 : decode cX4_gaps 41 = .ok (.iaload, 1) := by decide +kernel
theorem dX4_gaps_42 : decode cX4_gaps 42 = .ok (.invokevirtual 138, 3) := by decide +kernel
theorem dX4_gaps_45 : decode cX4_gaps 45 = .ok (.aload_n 0, 1) := by decide +kernel
theorem dX4_gaps_46 : decode cX4_gaps 46 = .ok (.getfield 44, 3) := by decide +kernel
theorem dX4_gaps_49 : decode cX4_gaps 49 = .ok (.iload_n 1, 1) := by decide +kernel
theorem dX4_gaps_50 : decode cX4_gaps 50 = .ok (.invokevirtual 142, 3) := by decide +kernel
theorem dX4_gaps_53 : decode cX4_gaps 53 = .ok (.iconst 0, 1) := by decide +kernel
theorem dX4_gaps_54 : decode cX4_gaps 54 = .ok (.istore_n 2, 1) := by decide +kernel
theorem dX4_gaps_55 : decode cX4_gaps 55 = .ok (.iconst 0, 1) := by decide +kernel
theorem dX4_gaps_56 : decode cX4_gaps 56 = .ok (.istore_n 3, 1) := by decide +kernel
theorem dX4_gaps_57 : decode cX4_gaps 57 = .ok (.iload_n 3, 1) := by decide +kernel
theorem dX4_gaps_58 : decode cX4_gaps 58 = .ok (.sipush 720, 3) := by decide +kernel
theorem dX4_gaps_61 : decode cX4_gaps 61 = .ok (.if_icmp .ge 57, 3) := by decide +kernel
theorem dX4_gaps_64 : decode cX4_gaps 64 = .ok (.aload_n 0, 1) := by decide +kernel
theorem dX4_gaps_65 : decode cX4_gaps 65 = .ok (.getfield 44, 3) := by decide +kernel
theorem dX4_gaps_68 : decode cX4_gaps 68 = .ok (.iload_n 3, 1) := by decide +kernel
theorem dX4_gaps_69 : decode cX4_gaps 69 = .ok (.invokevirtual 214, 3) := by decide +kernel
theorem dX4_gaps_72 : decode cX4_gaps 72 = .ok (.ifCond .gt 14, 3) := by decide +kernel
theorem dX4_gaps_75 : decode cX4_gaps 75 = .ok (.aload_n 0, 1) := by decide +kernel
theorem dX4_gaps_76 : decode cX4_gaps 76 = .ok (.getfield 44, 3) := by decide +kernel
theorem dX4_gaps_79 : decode cX4_gaps 79 = .ok (.iload_n 3, 1) := by decide +kernel
theorem dX4_gaps_80 : decode cX4_gaps 80 = .ok (.invokevirtual 217, 3) := by decide +kernel
theorem dX4_gaps_83 : decode cX4_gaps 83 = .ok (.ifCond .le 7, 3) := by decide +kernel
theorem dX4_gaps_86 : decode cX4_gaps 86 = .ok (.iconst 1, 1) := by decide +kernel
theorem dX4_gaps_87 : decode cX4_gaps 87 = .ok (.goto 4, 3) := by decide +kernel
theorem dX4_gaps_90 : decode cX4_gaps 90 = .ok (.iconst 0, 1) := by decide +kernel
theorem dX4_gaps_91 : decode cX4_gaps 91 = .ok (.istore 4, 2) := by decide +kernel
theorem dX4_gaps_93 : decode cX4_gaps 93 = .ok (.iload 4, 2) := by decide +kernel
theorem dX4_gaps_95 : decode cX4_gaps 95 = .ok (.ifCond .ne 17, 3) := by decide +kernel
theorem dX4_gaps_98 : decode cX4_gaps 98 = .ok (.aload_n 0, 1) := by decide +kernel
theorem dX4_gaps_99 : decode cX4_gaps 99 = .ok (.getfield 10, 3) := by decide +kernel
theorem dX4_gaps_102 : decode cX4_gaps 102 = .ok (.iload_n 3, 1) := by decide +kernel
theorem dX4_gaps_103 : decode cX4_gaps 103 = .ok (.invokevirtual 220, 3) := by decide +kernel
theorem dX4_gaps_106 : decode cX4_gaps 106 = .ok (.ifCond .eq 6, 3) := by decide +kernel
theorem dX4_gaps_109 : decode cX4_gaps 109 = .ok (.iinc 2 1, 3) := by decide +kernel
theorem dX4_gaps_112 : decode cX4_gaps 112 = .ok (.iinc 3 1, 3) := by decide +kernel
theorem dX4_gaps_115 : decode cX4_gaps 115 = .ok (.goto (-58), 3) := by decide +kernel
theorem dX4_gaps_118 : decode cX4_gaps 118 = .ok (.iload_n 2, 1) := by decide +kernel
theorem dX4_gaps_119 : decode cX4_gaps 119 = .ok (.ireturn, 1) := by decide +kernel
set_option maxRecDepth 20000 in
theorem ggX4_bestSpeed_X4_within : GoodIn wsX4_bestSpeed wsX4_within := goodIn_r _ [12] (by decide +kernel) (by decide +kernel)
set_option maxRecDepth 20000 in
theorem gX4_bestSpeed_X4_within : GoodIn wsX4_bestSpeed (va_wsS RX4 52 yX4_within wsX4_within) := goodIn_app (goodIn_of _ (by decide +kernel)) ggX4_bestSpeed_X4_within
set_option maxRecDepth 20000 in
theorem ggX4_bestSpeed_X3_prepare : GoodIn wsX4_bestSpeed wsX3_prepare := goodIn_r _ [17, 18, 19, 20, 21, 22, 23, 24, 25, 26, 27, 28, 29, 30, 31, 32, 33, 34, 35, 36, 37, 38, 39, 40, 41, 42, 43, 44, 45, 46, 47, 48, 49, 50, 51, 52, 53, 54, 55, 56, 57, 58, 59, 60, 61, 62, 63, 11, 64, 4, 65, 66, 67, 68, 69, 70, 71, 72, 73, 16, 74, 155, 156, 157, 158, 159, 160, 161, 162, 163, 164, 165, 144, 145, 146, 147, 148, 149, 150, 151, 152, 153, 154, 166, 167, 168, 169, 170] (by decide +kernel) (by decide +kernel)
set_option maxRecDepth 20000 in
theorem gX4_bestSpeed_X3_prepare : GoodIn wsX4_bestSpeed (wsV RX4 134 RX3 yX3_prepare wsX3_prepare) := goodIn_app (goodIn_of _ (by decide +kernel)) ggX4_bestSpeed_X3_prepare
set_option maxRecDepth 20000 in
theorem ggX4_bestSpeed_X2_litAt : GoodIn wsX4_bestSpeed wsX2_litAt := goodIn_r _ [78, 79, 80, 81, 82, 57, 83, 84, 85, 86, 155, 156, 157, 158, 159, 160, 161, 162, 163, 164, 165] (by decide +kernel) (by decide +kernel)
set_option maxRecDepth 20000 in
theorem gX4_bestSpeed_X2_litAt : GoodIn wsX4_bestSpeed (wsV RX4 179 RX2 yX2_litAt wsX2_litAt) := goodIn_app (goodIn_of _ (by decide +kernel)) ggX4_bestSpeed_X2_litAt
set_option maxRecDepth 20000 in
theorem ggX4_bestSpeed_X4_notDark : GoodIn wsX4_bestSpeed wsX4_notDark := goodIn_r _ [64, 4] (by decide +kernel) (by decide +kernel)
set_option maxRecDepth 20000 in
theorem gX4_bestSpeed_X4_notDark : GoodIn wsX4_bestSpeed (va_wsS RX4 195 yX4_notDark wsX4_notDark) := goodIn_app (goodIn_of _ (by decide +kernel)) ggX4_bestSpeed_X4_notDark
set_option maxRecDepth 20000 in
theorem ggX4_bestSpeed_X3_start : GoodIn wsX4_bestSpeed wsX3_start := goodIn_r _ [91, 92, 93, 94, 95, 96, 97, 98, 99, 100, 144, 145, 146, 147, 148, 149, 150, 151, 152, 153, 154, 155, 156, 157, 158, 159, 160, 161, 162, 163, 164, 165] (by decide +kernel) (by decide +kernel)
set_option maxRecDepth 20000 in
theorem gX4_bestSpeed_X3_start : GoodIn wsX4_bestSpeed (wsV RX4 138 RX3 yX3_start wsX3_start) := goodIn_app (goodIn_of _ (by decide +kernel)) ggX4_bestSpeed_X3_start
set_option maxRecDepth 20000 in
theorem ggX4_bestSpeed_X3_goOn : GoodIn wsX4_bestSpeed wsX3_goOn := goodIn_r _ [104, 99, 105, 106, 107, 16, 108, 98, 22, 21, 96, 92, 109, 56, 57, 58, 110, 82, 83, 111, 112, 113, 114, 115, 116, 117, 94, 100, 24, 118, 46, 47, 48, 144, 145, 146, 147, 148, 149, 150, 151, 152, 153, 154] (by decide +kernel) (by decide +kernel)
set_option maxRecDepth 20000 in
theorem gX4_bestSpeed_X3_goOn : GoodIn wsX4_bestSpeed (wsV RX4 142 RX3 yX3_goOn wsX3_goOn) := goodIn_app (goodIn_of _ (by decide +kernel)) ggX4_bestSpeed_X3_goOn
set_option maxRecDepth 20000 in
theorem ggX4_bestSpeed_X4_countRight : GoodIn wsX4_bestSpeed wsX4_countRight := goodIn_r _ [122, 2, 123, 124, 82, 57, 83, 1, 125, 3, 126, 127, 128, 16, 129, 100, 130, 131, 132, 133, 19, 72, 73, 74, 134, 66, 67, 68, 69, 70, 71, 135, 136, 137, 138, 139, 140, 141, 142, 143, 155, 156, 157, 158, 159, 160, 161, 162, 163, 164, 165, 144, 145, 146, 147, 148, 149, 150, 151, 152, 153, 154] (by decide +kernel) (by decide +kernel)
set_option maxRecDepth 20000 in
theorem gX4_bestSpeed_X4_countRight : GoodIn wsX4_bestSpeed (wsV RX4 228 RX4 yX4_countRight wsX4_countRight) := goodIn_app (goodIn_of _ (by decide +kernel)) ggX4_bestSpeed_X4_countRight
theorem dX4_bestSpeed_0 : decode cX4_bestSpeed 0 = .ok (.iload_n 1, 1) := by decide +kernel
theorem dX4_bestSpeed_1 : decode cX4_bestSpeed 1 = .ok (.iconst 1, 1) := by decide +kernel
theorem dX4_bestSpeed_2 : decode cX4_bestSpeed 2 = .ok (.bipush 40, 2) := by decide +kernel
theorem dX4_bestSpeed_4 : decode cX4_bestSpeed 4 = .ok (.invokestatic 52, 3) := by decide +kernel
theorem dX4_bestSpeed_7 : decode cX4_bestSpeed 7 = .ok (.ifCond .ne 6, 3) := by decide +kernel
theorem dX4_bestSpeed_10 : decode cX4_bestSpeed 10 = .ok (.bipush (-101), 2) := by decide +kernel
theorem dX4_bestSpeed_12 : decode cX4_bestSpeed 12 = .ok (.ireturn, 1) := by decide +kernel
theorem dX4_bestSpeed_13 : decode cX4_bestSpeed 13 = .ok (.aload_n 0, 1) := by decide +kernel
theorem dX4_bestSpeed_14 : decode cX4_bestSpeed 14 = .ok (.getfield 44, 3) := by decide +kernel
theorem dX4_bestSpeed_17 : decode cX4_bestSpeed 17 = .ok (.aload_n 0, 1) := by decide +kernel
theorem dX4_bestSpeed_18 : decode cX4_bestSpeed 18 = .ok (.getfield 10, 3) := by decide +kernel
theorem dX4_bestSpeed_21 : decode cX4_bestSpeed 21 = .ok (.invokevirtual 134, 3) := by decide +kernel
theorem dX4_bestSpeed_24 : decode cX4_bestSpeed 24 = .ok (.iconst 0, 1) := by decide +kernel
theorem dX4_bestSpeed_25 : decode cX4_bestSpeed 25 = .ok (.istore_n 2, 1) := by decide +kernel
theorem dX4_bestSpeed_26 : decode cX4_bestSpeed 26 = .ok (.iload_n 2, 1) := by decide +kernel
theorem dX4_bestSpeed_27 : decode cX4_bestSpeed 27 = .ok (.sipush 720, 3) := by decide +kernel
theorem dX4_bestSpeed_30 : decode cX4_bestSpeed 30 = .ok (.if_icmp .ge 45, 3) := by decide +kernel
theorem dX4_bestSpeed_33 : decode cX4_bestSpeed 33 = .ok (.aload_n 0, 1) := by decide +kernel
theorem dX4_bestSpeed_34 : decode cX4_bestSpeed 34 = .ok (.getfield 48, 3) := by decide +kernel
theorem dX4_bestSpeed_37 : decode cX4_bestSpeed 37 = .ok (.iload_n 2, 1) := by decide +kernel
theorem dX4_bestSpeed_38 : decode cX4_bestSpeed 38 = .ok (.ldc2_w 223, 3) := by decide +kernel
theorem dX4_bestSpeed_41 : decode cX4_bestSpeed 41 = .ok (.aload_n 0, 1) := by decide +kernel
theorem dX4_bestSpeed_42 : decode cX4_bestSpeed 42 = .ok (.getfield 10, 3) := by decide +kernel
theorem dX4_bestSpeed_45 : decode cX4_bestSpeed 45 = .ok (.iload_n 2, 1) := by decide +kernel
theorem dX4_bestSpeed_46 : decode cX4_bestSpeed 46 = .ok (.iload_n 1, 1) := by decide +kernel
theorem dX4_bestSpeed_47 : decode cX4_bestSpeed 47 = .ok (.invokevirtual 179, 3) := by decide +kernel
theorem dX4_bestSpeed_50 : decode cX4_bestSpeed 50 = .ok (.aload_n 0, 1) := by decide +kernel
theorem dX4_bestSpeed_51 : decode cX4_bestSpeed 51 = .ok (.getfield 44, 3) := by decide +kernel
theorem dX4_bestSpeed_54 : decode cX4_bestSpeed 54 = .ok (.getfield 225, 3) := by decide +kernel
theorem dX4_bestSpeed_57 : decode cX4_bestSpeed 57 = .ok (.iload_n 2, 1) := by decide +kernel
theorem dX4_bestSpeed_58 : decode cX4_bestSpeed 58 = .ok (.laload, 1) := by decide +kernel
theorem dX4_bestSpeed_59 : decode cX4_bestSpeed 59 = .ok (.lxor, 1) := by decide +kernel
theorem dX4_bestSpeed_60 : decode cX4_bestSpeed 60 = .ok (.invokestatic 195, 3) := by decide +kernel
theorem dX4_bestSpeed_63 : decode cX4_bestSpeed 63 = .ok (.ldc2_w 119, 3) := by decide +kernel
theorem dX4_bestSpeed_66 : decode cX4_bestSpeed 66 = .ok (.lxor, 1) := by decide +kernel
theorem dX4_bestSpeed_67 : decode cX4_bestSpeed 67 = .ok (.land, 1) := by decide +kernel
theorem dX4_bestSpeed_68 : decode cX4_bestSpeed 68 = .ok (.lastore, 1) := by decide +kernel
theorem dX4_bestSpeed_69 : decode cX4_bestSpeed 69 = .ok (.iinc 2 1, 3) := by decide +kernel
theorem dX4_bestSpeed_72 : decode cX4_bestSpeed 72 = .ok (.goto (-46), 3) := by decide +kernel
theorem dX4_bestSpeed_75 : decode cX4_bestSpeed 75 = .ok (.getstatic 121, 3) := by decide +kernel
theorem dX4_bestSpeed_78 : decode cX4_bestSpeed 78 = .ok (.iconst 0, 1) := by decide +kernel
theorem dX4_bestSpeed_79 : decode cX4_bestSpeed 79 = .ok (.iaload, 1) := by decide +kernel
theorem dX4_bestSpeed_80 : decode cX4_bestSpeed 80 = .ok (.istore_n 2, 1) := by decide +kernel
theorem dX4_bestSpeed_81 : decode cX4_bestSpeed 81 = .ok (.iconst (-1), 1) := by decide +kernel
theorem dX4_bestSpeed_82 : decode cX4_bestSpeed 82 = .ok (.istore_n 3, 1) := by decide +kernel
theorem dX4_bestSpeed_83 : decode cX4_bestSpeed 83 = .ok (.getstatic 121, 3) := by decide +kernel
theorem dX4_bestSpeed_86 : decode cX4_bestSpeed 86 = .ok (.iconst 0, 1) := by decide +kernel
theorem dX4_bestSpeed_87 : decode cX4_bestSpeed 87 = .ok (.iaload, 1) := by decide +kernel
theorem dX4_bestSpeed_88 : decode cX4_bestSpeed 88 = .ok (.istore 4, 2) := by decide +kernel
theorem dX4_bestSpeed_90 : decode cX4_bestSpeed 90 = .ok (.iload 4, 2) := by decide +kernel
theorem dX4_bestSpeed_92 : decode cX4_bestSpeed 92 = .ok (.getstatic 125, 3) := by decide +kernel
theorem dX4_bestSpeed_95 : decode cX4_bestSpeed 95 = .ok (.iconst 0, 1) := by decide +kernel
theorem dX4_bestSpeed_96 : decode cX4_bestSpeed 96 = .ok (.iaload, 1) := by decide +kernel
theorem dX4_bestSpeed_97 : decode cX4_bestSpeed 97 = .ok (.if_icmp .gt 49, 3) := by decide +kernel
theorem dX4_bestSpeed_100 : decode cX4_bestSpeed 100 = .ok (.aload_n 0, 1) := by decide +kernel
theorem dX4_bestSpeed_101 : decode cX4_bestSpeed 101 = .ok (.getfield 44, 3) := by decide +kernel
theorem dX4_bestSpeed_104 : decode cX4_bestSpeed 104 = .ok (.aload_n 0, 1) := by decide +kernel
theorem dX4_bestSpeed_105 : decode cX4_bestSpeed 105 = .ok (.getfield 10, 3) := by decide +kernel
theorem dX4_bestSpeed_108 : decode cX4_bestSpeed 108 = .ok (.iload 4, 2) := by decide +kernel
theorem dX4_bestSpeed_110 : decode cX4_bestSpeed 110 = .ok (.invokevirtual 138, 3) := by decide +kernel
theorem dX4_bestSpeed_113 : decode cX4_bestSpeed 113 = .ok (.aload_n 0, 1) := by decide +kernel
theorem dX4_bestSpeed_114 : decode cX4_bestSpeed 114 = .ok (.getfield 44, 3) := by decide +kernel
theorem dX4_bestSpeed_117 : decode cX4_bestSpeed 117 = .ok (.iload_n 1, 1) := by decide +kernel
theorem dX4_bestSpeed_118 : decode cX4_bestSpeed 118 = .ok (.invokevirtual 142, 3) := by decide +kernel
theorem dX4_bestSpeed_121 : decode cX4_bestSpeed 121 = .ok (.aload_n 0, 1) := by decide +kernel
theorem dX4_bestSpeed_122 : decode cX4_bestSpeed 122 = .ok (.iload_n 1, 1) := by decide +kernel
theorem dX4_bestSpeed_123 : decode cX4_bestSpeed 123 = .ok (.invokevirtual 228, 3) := by decide +kernel
theorem dX4_bestSpeed_126 : decode cX4_bestSpeed 126 = .ok (.istore 5, 2) := by decide +kernel
theorem dX4_bestSpeed_128 : decode cX4_bestSpeed 128 = .ok (.iload 5, 2) := by decide +kernel
theorem dX4_bestSpeed_130 : decode cX4_bestSpeed 130 = .ok (.iload_n 3, 1) := by decide +kernel
theorem dX4_bestSpeed_131 : decode cX4_bestSpeed 131 = .ok (.if_icmp .le 9, 3) := by decide +kernel
theorem dX4_bestSpeed_134 : decode cX4_bestSpeed 134 = .ok (.iload 5, 2) := by decide +kernel
theorem dX4_bestSpeed_136 : decode cX4_bestSpeed 136 = .ok (.istore_n 3, 1) := by decide +kernel
theorem dX4_bestSpeed_137 : decode cX4_bestSpeed 137 = .ok (.iload 4, 2) := by decide +kernel
theorem dX4_bestSpeed_139 : decode cX4_bestSpeed 139 = .ok (.istore_n 2, 1) := by decide +kernel
theorem dX4_bestSpeed_140 : decode cX4_bestSpeed 140 = .ok (.iinc 4 10, 3) := by decide +kernel
theorem dX4_bestSpeed_143 : decode cX4_bestSpeed 143 = .ok (.goto (-53), 3) := by decide +kernel
theorem dX4_bestSpeed_146 : decode cX4_bestSpeed 146 = .ok (.iload_n 2, 1) := by decide +kernel
theorem dX4_bestSpeed_147 : decode cX4_bestSpeed 147 = .ok (.ireturn, 1) := by decide +kernel
set_option maxRecDepth 20000 in
theorem ggX4_meetings_X2_pictureNumbered : GoodIn wsX4_meetings wsX2_pictureNumbered := goodIn_r _ [6, 7, 8, 9, 10, 11, 62, 63, 64, 65, 66, 67, 68, 69, 70, 71, 72] (by decide +kernel) (by decide +kernel)
set_option maxRecDepth 20000 in
theorem gX4_meetings_X2_pictureNumbered : GoodIn wsX4_meetings (wsV RX4 71 RX2 yX2_pictureNumbered wsX2_pictureNumbered) := goodIn_app (goodIn_of _ (by decide +kernel)) ggX4_meetings_X2_pictureNumbered
set_option maxRecDepth 20000 in
theorem ggX4_meetings_X0_wantedAt : GoodIn wsX4_meetings wsX0_wantedAt := goodIn_r _ [16, 17, 18, 19, 20, 21, 15, 22, 23, 24, 25, 26, 27, 28, 29, 30, 31, 32, 33, 34, 35, 36, 37, 38, 39, 40, 41, 73, 74, 75, 76, 77] (by decide +kernel) (by decide +kernel)
set_option maxRecDepth 20000 in
theorem gX4_meetings_X0_wantedAt : GoodIn wsX4_meetings (wsV RX4 231 RX0 yX0_wantedAt wsX0_wantedAt) := goodIn_app (goodIn_of _ (by decide +kernel)) ggX4_meetings_X0_wantedAt
end
section
set_option maxRecDepth 20000 in
theorem ggX4_meetings_X4_notDark : GoodIn wsX4_meetings wsX4_notDark := goodIn_r _ [44, 45] (by decide +kernel) (by decide +kernel)
set_option maxRecDepth 20000 in
theorem gX4_meetings_X4_notDark : GoodIn wsX4_meetings (va_wsS RX4 195 yX4_notDark wsX4_notDark) := goodIn_app (goodIn_of _ (by decide +kernel)) ggX4_meetings_X4_notDark
set_option maxRecDepth 20000 in
theorem ggX4_meetings_J13_bitCount_95d88 : GoodIn wsX4_meetings wsJ13_bitCount_95d88 := goodIn_r _ [49, 50, 51, 52] (by decide +kernel) (by decide +kernel)
set_option maxRecDepth 20000 in
theorem gX4_meetings_J13_bitCount_95d88 : GoodIn wsX4_meetings (va_wsS RX4 199 yJ13_bitCount_95d88 wsJ13_bitCount_95d88) := goodIn_app (goodIn_of _ (by decide +kernel)) ggX4_meetings_J13_bitCount_95d88
theorem dX4_meetings_0 : decode cX4_meetings 0 = .ok (.aload_n 0, 1) := by decide +kernel
theorem dX4_meetings_1 : decode cX4_meetings 1 = .ok (.getfield 10, 3) := by decide +kernel
theorem dX4_meetings_4 : decode cX4_meetings 4 = .ok (.iload_n 1, 1) := by decide +kernel
theorem dX4_meetings_5 : decode cX4_meetings 5 = .ok (.invokevirtual 71, 3) := by decide +kernel
theorem dX4_meetings_8 : decode cX4_meetings 8 = .ok (.astore_n 3, 1) := by decide +kernel
theorem dX4_meetings_9 : decode cX4_meetings 9 = .ok (.aload_n 0, 1) := by decide +kernel
theorem dX4_meetings_10 : decode cX4_meetings 10 = .ok (.getfield 10, 3) := by decide +kernel
theorem dX4_meetings_13 : decode cX4_meetings 13 = .ok (.iload_n 2, 1) := by decide +kernel
theorem dX4_meetings_14 : decode cX4_meetings 14 = .ok (.invokevirtual 71, 3) := by decide +kernel
theorem dX4_meetings_17 : decode cX4_meetings 17 = .ok (.astore 4, 2) := by decide +kernel
theorem dX4_meetings_19 : decode cX4_meetings 19 = .ok (.aload_n 3, 1) := by decide +kernel
theorem dX4_meetings_20 : decode cX4_meetings 20 = .ok (.ifnull 13, 3) := by decide +kernel
theorem dX4_meetings_23 : decode cX4_meetings 23 = .ok (.aload 4, 2) := by decide +kernel
theorem dX4_meetings_25 : decode cX4_meetings 25 = .ok (.ifnull 8, 3) := by decide +kernel
theorem dX4_meetings_28 : decode cX4_meetings 28 = .ok (.iload_n 1, 1) := by decide +kernel
theorem dX4_meetings_29 : decode cX4_meetings 29 = .ok (.iload_n 2, 1) := by decide +kernel
theorem dX4_meetings_30 : decode cX4_meetings 30 = .ok (.if_icmp .ne 6, 3) := by decide +kernel
theorem dX4_meetings_33 : decode cX4_meetings 33 = .ok (.bipush (-101), 2) := by decide +kernel
theorem dX4_meetings_35 : decode cX4_meetings 35 = .ok (.ireturn, 1) := by decide +kernel
theorem dX4_meetings_36 : decode cX4_meetings 36 = .ok (.iconst 0, 1) := by decide +kernel
theorem dX4_meetings_37 : decode cX4_meetings 37 = .ok (.istore 5, 2) := by decide +kernel
theorem dX4_meetings_39 : decode cX4_meetings 39 = .ok (.iconst 0, 1) := by decide +kernel
theorem dX4_meetings_40 : decode cX4_meetings 40 = .ok (.istore 6, 2) := by decide +kernel
theorem dX4_meetings_42 : decode cX4_meetings 42 = .ok (.iload 6, 2) := by decide +kernel
theorem dX4_meetings_44 : decode cX4_meetings 44 = .ok (.sipush 720, 3) := by decide +kernel
theorem dX4_meetings_47 : decode cX4_meetings 47 = .ok (.if_icmp .ge 37, 3) := by decide +kernel
theorem dX4_meetings_50 : decode cX4_meetings 50 = .ok (.iload 5, 2) := by decide +kernel
theorem dX4_meetings_52 : decode cX4_meetings 52 = .ok (.aload_n 3, 1) := by decide +kernel
theorem dX4_meetings_53 : decode cX4_meetings 53 = .ok (.iload 6, 2) := by decide +kernel
theorem dX4_meetings_55 : decode cX4_meetings 55 = .ok (.invokevirtual 231, 3) := by decide +kernel
theorem dX4_meetings_58 : decode cX4_meetings 58 = .ok (.invokestatic 195, 3) := by decide +kernel
theorem dX4_meetings_61 : decode cX4_meetings 61 = .ok (.aload 4, 2) := by decide +kernel
theorem dX4_meetings_63 : decode cX4_meetings 63 = .ok (.iload 6, 2) := by decide +kernel
theorem dX4_meetings_65 : decode cX4_meetings 65 = .ok (.invokevirtual 231, 3) := by decide +kernel
theorem dX4_meetings_68 : decode cX4_meetings 68 = .ok (.invokestatic 195, 3) := by decide +kernel
theorem dX4_meetings_71 : decode cX4_meetings 71 = .ok (.land, 1) := by decide +kernel
theorem dX4_meetings_72 : decode cX4_meetings 72 = .ok (.invokestatic 199, 3) := by decide +kernel
theorem dX4_meetings_75 : decode cX4_meetings 75 = .ok (.iadd, 1) := by decide +kernel
theorem dX4_meetings_76 : decode cX4_meetings 76 = .ok (.istore 5, 2) := by decide +kernel
theorem dX4_meetings_78 : decode cX4_meetings 78 = .ok (.iinc 6 1, 3) := by decide +kernel
theorem dX4_meetings_81 : decode cX4_meetings 81 = .ok (.goto (-39), 3) := by decide +kernel
theorem dX4_meetings_84 : decode cX4_meetings 84 = .ok (.iload 5, 2) := by decide +kernel
theorem dX4_meetings_86 : decode cX4_meetings 86 = .ok (.ireturn, 1) := by decide +kernel
set_option maxRecDepth 20000 in
theorem ggX4_countRight_X3_firstArmAt : GoodIn wsX4_countRight wsX3_firstArmAt := goodIn_r _ [14, 15, 51, 52, 53, 54, 55, 56, 57, 58, 59, 60, 61] (by decide +kernel) (by decide +kernel)
set_option maxRecDepth 20000 in
theorem gX4_countRight_X3_firstArmAt : GoodIn wsX4_countRight (wsV RX4 214 RX3 yX3_firstArmAt wsX3_firstArmAt) := goodIn_app (goodIn_of _ (by decide +kernel)) ggX4_countRight_X3_firstArmAt
set_option maxRecDepth 20000 in
theorem ggX4_countRight_X3_secondArmAt : GoodIn wsX4_countRight wsX3_secondArmAt := goodIn_r _ [19, 20, 15, 21, 22, 13, 23, 51, 52, 53, 54, 55, 56, 57, 58, 59, 60, 61] (by decide +kernel) (by decide +kernel)
set_option maxRecDepth 20000 in
theorem gX4_countRight_X3_secondArmAt : GoodIn wsX4_countRight (wsV RX4 217 RX3 yX3_secondArmAt wsX3_secondArmAt) := goodIn_app (goodIn_of _ (by decide +kernel)) ggX4_countRight_X3_secondArmAt
set_option maxRecDepth 20000 in
theorem ggX4_countRight_J13_bitCount_95d88 : GoodIn wsX4_countRight wsJ13_bitCount_95d88 := goodIn_r _ [27, 28, 29, 30] (by decide +kernel) (by decide +kernel)
set_option maxRecDepth 20000 in
theorem gX4_countRight_J13_bitCount_95d88 : GoodIn wsX4_countRight (va_wsS RX4 199 yJ13_bitCount_95d88 wsJ13_bitCount_95d88) := goodIn_app (goodIn_of _ (by decide +kernel)) ggX4_countRight_J13_bitCount_95d88
theorem dX4_countRight_0 : decode cX4_countRight 0 = .ok (.iconst 0, 1) := by decide +kernel
theorem dX4_countRight_1 : decode cX4_countRight 1 = .ok (.iload_n 1, 1) := by decide +kernel
theorem dX4_countRight_2 : decode cX4_countRight 2 = .ok (.aload_n 0, 1) := by decide +kernel
theorem dX4_countRight_3 : decode cX4_countRight 3 = .ok (.getfield 10, 3) := by decide +kernel
theorem dX4_countRight_6 : decode cX4_countRight 6 = .ok (.getfield 128, 3) := by decide +kernel
theorem dX4_countRight_9 : decode cX4_countRight 9 = .ok (.iconst 3, 1) := by decide +kernel
theorem dX4_countRight_10 : decode cX4_countRight 10 = .ok (.iaload, 1) := by decide +kernel
theorem dX4_countRight_11 : decode cX4_countRight 11 = .ok (.isub, 1) := by decide +kernel
theorem dX4_countRight_12 : decode cX4_countRight 12 = .ok (.invokestatic 232, 3) := by decide +kernel
theorem dX4_countRight_15 : decode cX4_countRight 15 = .ok (.istore_n 2, 1) := by decide +kernel
theorem dX4_countRight_16 : decode cX4_countRight 16 = .ok (.iconst 0, 1) := by decide +kernel
theorem dX4_countRight_17 : decode cX4_countRight 17 = .ok (.istore_n 3, 1) := by decide +kernel
theorem dX4_countRight_18 : decode cX4_countRight 18 = .ok (.iconst 0, 1) := by decide +kernel
theorem dX4_countRight_19 : decode cX4_countRight 19 = .ok (.istore 4, 2) := by decide +kernel
theorem dX4_countRight_21 : decode cX4_countRight 21 = .ok (.iload 4, 2) := by decide +kernel
theorem dX4_countRight_23 : decode cX4_countRight 23 = .ok (.sipush 720, 3) := by decide +kernel
theorem dX4_countRight_26 : decode cX4_countRight 26 = .ok (.if_icmp .ge 84, 3) := by decide +kernel
theorem dX4_countRight_29 : decode cX4_countRight 29 = .ok (.aload_n 0, 1) := by decide +kernel
theorem dX4_countRight_30 : decode cX4_countRight 30 = .ok (.getfield 44, 3) := by decide +kernel
theorem dX4_countRight_33 : decode cX4_countRight 33 = .ok (.iload 4, 2) := by decide +kernel
theorem dX4_countRight_35 : decode cX4_countRight 35 = .ok (.invokevirtual 214, 3) := by decide +kernel
theorem dX4_countRight_38 : decode cX4_countRight 38 = .ok (.iload_n 2, 1) := by decide +kernel
theorem dX4_countRight_39 : decode cX4_countRight 39 = .ok (.if_icmp .le 15, 3) := by decide +kernel
theorem dX4_countRight_42 : decode cX4_countRight 42 = .ok (.aload_n 0, 1) := by decide +kernel
theorem dX4_countRight_43 : decode cX4_countRight 43 = .ok (.getfield 10, 3) := by decide +kernel
theorem dX4_countRight_46 : decode cX4_countRight 46 = .ok (.getfield 116, 3) := by decide +kernel
theorem dX4_countRight_49 : decode cX4_countRight 49 = .ok (.iconst 0, 1) := by decide +kernel
theorem dX4_countRight_50 : decode cX4_countRight 50 = .ok (.laload, 1) := by decide +kernel
theorem dX4_countRight_51 : decode cX4_countRight 51 = .ok (.goto 4, 3) := by decide +kernel
theorem dX4_countRight_54 : decode cX4_countRight 54 = .ok (.lconst 0, 1) := by decide +kernel
theorem dX4_countRight_55 : decode cX4_countRight 55 = .ok (.lstore 5, 2) := by decide +kernel
theorem dX4_countRight_57 : decode cX4_countRight 57 = .ok (.aload_n 0, 1) := by decide +kernel
theorem dX4_countRight_58 : decode cX4_countRight 58 = .ok (.getfield 44, 3) := by decide +kernel
theorem dX4_countRight_61 : decode cX4_countRight 61 = .ok (.iload 4, 2) := by decide +kernel
theorem dX4_countRight_63 : decode cX4_countRight 63 = .ok (.invokevirtual 217, 3) := by decide +kernel
theorem dX4_countRight_66 : decode cX4_countRight 66 = .ok (.iload_n 2, 1) := by decide +kernel
theorem dX4_countRight_67 : decode cX4_countRight 67 = .ok (.if_icmp .le 15, 3) := by decide +kernel
theorem dX4_countRight_70 : decode cX4_countRight 70 = .ok (.aload_n 0, 1) := by decide +kernel
theorem dX4_countRight_71 : decode cX4_countRight 71 = .ok (.getfield 10, 3) := by decide +kernel
theorem dX4_countRight_74 : decode cX4_countRight 74 = .ok (.getfield 116, 3) := by decide +kernel
theorem dX4_countRight_77 : decode cX4_countRight 77 = .ok (.iconst 1, 1) := by decide +kernel
theorem dX4_countRight_78 : decode cX4_countRight 78 = .ok (.laload, 1) := by decide +kernel
theorem dX4_countRight_79 : decode cX4_countRight 79 = .ok (.goto 4, 3) := by decide +kernel
theorem dX4_countRight_82 : decode cX4_countRight 82 = .ok (.lconst 0, 1) := by decide +kernel
theorem dX4_countRight_83 : decode cX4_countRight 83 = .ok (.lstore 7, 2) := by decide +kernel
theorem dX4_countRight_85 : decode cX4_countRight 85 = .ok (.iload_n 3, 1) := by decide +kernel
theorem dX4_countRight_86 : decode cX4_countRight 86 = .ok (.lload 5, 2) := by decide +kernel
theorem dX4_countRight_88 : decode cX4_countRight 88 = .ok (.lload 7, 2) := by decide +kernel
theorem dX4_countRight_90 : decode cX4_countRight 90 = .ok (.lor, 1) := by decide +kernel
theorem dX4_countRight_91 : decode cX4_countRight 91 = .ok (.aload_n 0, 1) := by decide +kernel
theorem dX4_countRight_92 : decode cX4_countRight 92 = .ok (.getfield 48, 3) := by decide +kernel
theorem dX4_countRight_95 : decode cX4_countRight 95 = .ok (.iload 4, 2) := by decide +kernel
theorem dX4_countRight_97 : decode cX4_countRight 97 = .ok (.laload, 1) := by decide +kernel
theorem dX4_countRight_98 : decode cX4_countRight 98 = .ok (.lor, 1) := by decide +kernel
theorem dX4_countRight_99 : decode cX4_countRight 99 = .ok (.invokestatic 199, 3) := by decide +kernel
theorem dX4_countRight_102 : decode cX4_countRight 102 = .ok (.iadd, 1) := by decide +kernel
theorem dX4_countRight_103 : decode cX4_countRight 103 = .ok (.istore_n 3, 1) := by decide +kernel
theorem dX4_countRight_104 : decode cX4_countRight 104 = .ok (.iinc 4 1, 3) := by decide +kernel
theorem dX4_countRight_107 : decode cX4_countRight 107 = .ok (.goto (-86), 3) := by decide +kernel
theorem dX4_countRight_110 : decode cX4_countRight 110 = .ok (.iload_n 3, 1) := by decide +kernel
theorem dX4_countRight_111 : decode cX4_countRight 111 = .ok (.ireturn, 1) := by decide +kernel
theorem dX4_within_0 : decode cX4_within 0 = .ok (.iload_n 0, 1) := by decide +kernel
theorem dX4_within_1 : decode cX4_within 1 = .ok (.iload_n 1, 1) := by decide +kernel
theorem dX4_within_2 : decode cX4_within 2 = .ok (.if_icmp .lt 12, 3) := by decide +kernel
theorem dX4_within_5 : decode cX4_within 5 = .ok (.iload_n 0, 1) := by decide +kernel
theorem dX4_within_6 : decode cX4_within 6 = .ok (.iload_n 2, 1) := by decide +kernel
theorem dX4_within_7 : decode cX4_within 7 = .ok (.if_icmp .gt 7, 3) := by decide +kernel
theorem dX4_within_10 : decode cX4_within 10 = .ok (.iconst 1, 1) := by decide +kernel
theorem dX4_within_11 : decode cX4_within 11 = .ok (.goto 4, 3) := by decide +kernel
theorem dX4_within_14 : decode cX4_within 14 = .ok (.iconst 0, 1) := by decide +kernel
theorem dX4_within_15 : decode cX4_within 15 = .ok (.ireturn, 1) := by decide +kernel
theorem dX4_colorIn_0 : decode cX4_colorIn 0 = .ok (.lload_n 0, 1) := by decide +kernel
theorem dX4_colorIn_1 : decode cX4_colorIn 1 = .ok (.iload_n 2, 1) := by decide +kernel
theorem dX4_colorIn_2 : decode cX4_colorIn 2 = .ok (.iconst 3, 1) := by decide +kernel
theorem dX4_colorIn_3 : decode cX4_colorIn 3 = .ok (.imul, 1) := by decide +kernel
theorem dX4_colorIn_4 : decode cX4_colorIn 4 = .ok (.lshr, 1) := by decide +kernel
theorem dX4_colorIn_5 : decode cX4_colorIn 5 = .ok (.l2i, 1) := by decide +kernel
theorem dX4_colorIn_6 : decode cX4_colorIn 6 = .ok (.bipush 7, 2) := by decide +kernel
theorem dX4_colorIn_8 : decode cX4_colorIn 8 = .ok (.iand, 1) := by decide +kernel
theorem dX4_colorIn_9 : decode cX4_colorIn 9 = .ok (.ireturn, 1) := by decide +kernel
theorem dX4_withColor_0 : decode cX4_withColor 0 = .ok (.iload_n 2, 1) := by decide +kernel
theorem dX4_withColor_1 : decode cX4_withColor 1 = .ok (.iconst 3, 1) := by decide +kernel
theorem dX4_withColor_2 : decode cX4_withColor 2 = .ok (.imul, 1) := by decide +kernel
theorem dX4_withColor_3 : decode cX4_withColor 3 = .ok (.istore 4, 2) := by decide +kernel
theorem dX4_withColor_5 : decode cX4_withColor 5 = .ok (.lload_n 0, 1) := by decide +kernel
theorem dX4_withColor_6 : decode cX4_withColor 6 = .ok (.ldc2_w 235, 3) := by decide +kernel
theorem dX4_withColor_9 : decode cX4_withColor 9 = .ok (.iload 4, 2) := by decide +kernel
theorem dX4_withColor_11 : decode cX4_withColor 11 = .ok (.lshl, 1) := by decide +kernel
theorem dX4_withColor_12 : decode cX4_withColor 12 = .ok (.ldc2_w 119, 3) := by decide +kernel
theorem dX4_withColor_15 : decode cX4_withColor 15 = .ok (.lxor, 1) := by decide +kernel
theorem dX4_withColor_16 : decode cX4_withColor 16 = .ok (.land, 1) := by decide +kernel
theorem dX4_withColor_17 : decode cX4_withColor 17 = .ok (.iload_n 3, 1) := by decide +kernel
theorem dX4_withColor_18 : decode cX4_withColor 18 = .ok (.i2l, 1) := by decide +kernel
theorem dX4_withColor_19 : decode cX4_withColor 19 = .ok (.iload 4, 2) := by decide +kernel
theorem dX4_withColor_21 : decode cX4_withColor 21 = .ok (.lshl, 1) := by decide +kernel
theorem dX4_withColor_22 : decode cX4_withColor 22 = .ok (.lor, 1) := by decide +kernel
theorem dX4_withColor_23 : decode cX4_withColor 23 = .ok (.lreturn, 1) := by decide +kernel
theorem dX4_notDark_0 : decode cX4_notDark 0 = .ok (.lload_n 0, 1) := by decide +kernel
theorem dX4_notDark_1 : decode cX4_notDark 1 = .ok (.lload_n 0, 1) := by decide +kernel
theorem dX4_notDark_2 : decode cX4_notDark 2 = .ok (.iconst 1, 1) := by decide +kernel
theorem dX4_notDark_3 : decode cX4_notDark 3 = .ok (.lshr, 1) := by decide +kernel
theorem dX4_notDark_4 : decode cX4_notDark 4 = .ok (.lor, 1) := by decide +kernel
theorem dX4_notDark_5 : decode cX4_notDark 5 = .ok (.lload_n 0, 1) := by decide +kernel
theorem dX4_notDark_6 : decode cX4_notDark 6 = .ok (.iconst 2, 1) := by decide +kernel
theorem dX4_notDark_7 : decode cX4_notDark 7 = .ok (.lshr, 1) := by decide +kernel
theorem dX4_notDark_8 : decode cX4_notDark 8 = .ok (.lor, 1) := by decide +kernel
theorem dX4_notDark_9 : decode cX4_notDark 9 = .ok (.ldc2_w 223, 3) := by decide +kernel
theorem dX4_notDark_12 : decode cX4_notDark 12 = .ok (.land, 1) := by decide +kernel
theorem dX4_notDark_13 : decode cX4_notDark 13 = .ok (.lreturn, 1) := by decide +kernel
theorem dX5_init_0 : decode cX5_init 0 = .ok (.aload_n 0, 1) := by decide +kernel
theorem dX5_init_1 : decode cX5_init 1 = .ok (.invokespecial 1, 3) := by decide +kernel
theorem dX5_init_4 : decode cX5_init 4 = .ok (.aload_n 0, 1) := by decide +kernel
theorem dX5_init_5 : decode cX5_init 5 = .ok (.sipush 348, 3) := by decide +kernel
theorem dX5_init_8 : decode cX5_init 8 = .ok (.newarray .int, 2) := by decide +kernel
theorem dX5_init_10 : decode cX5_init 10 = .ok (.putfield 7, 3) := by decide +kernel
theorem dX5_init_13 : decode cX5_init 13 = .ok (.aload_n 0, 1) := by decide +kernel
theorem dX5_init_14 : decode cX5_init 14 = .ok (.sipush 8640, 3) := by decide +kernel
theorem dX5_init_17 : decode cX5_init 17 = .ok (.newarray .int, 2) := by decide +kernel
theorem dX5_init_19 : decode cX5_init 19 = .ok (.putfield 13, 3) := by decide +kernel
theorem dX5_init_22 : decode cX5_init 22 = .ok (.aload_n 0, 1) := by decide +kernel
theorem dX5_init_23 : decode cX5_init 23 = .ok (.sipush 348, 3) := by decide +kernel
theorem dX5_init_26 : decode cX5_init 26 = .ok (.newarray .int, 2) := by decide +kernel
theorem dX5_init_28 : decode cX5_init 28 = .ok (.putfield 16, 3) := by decide +kernel
theorem dX5_init_31 : decode cX5_init 31 = .ok (.aload_n 0, 1) := by decide +kernel
theorem dX5_init_32 : decode cX5_init 32 = .ok (.sipush 8640, 3) := by decide +kernel
theorem dX5_init_35 : decode cX5_init 35 = .ok (.newarray .int, 2) := by decide +kernel
theorem dX5_init_37 : decode cX5_init 37 = .ok (.putfield 19, 3) := by decide +kernel
theorem dX5_init_40 : decode cX5_init 40 = .ok (.aload_n 0, 1) := by decide +kernel
theorem dX5_init_41 : decode cX5_init 41 = .ok (.sipush 18672, 3) := by decide +kernel
theorem dX5_init_44 : decode cX5_init 44 = .ok (.newarray .int, 2) := by decide +kernel
theorem dX5_init_46 : decode cX5_init 46 = .ok (.putfield 22, 3) := by decide +kernel
theorem dX5_init_49 : decode cX5_init 49 = .ok (.aload_n 0, 1) := by decide +kernel
theorem dX5_init_50 : decode cX5_init 50 = .ok (.sipush 4668, 3) := by decide +kernel
theorem dX5_init_53 : decode cX5_init 53 = .ok (.newarray .int, 2) := by decide +kernel
theorem dX5_init_55 : decode cX5_init 55 = .ok (.putfield 25, 3) := by decide +kernel
theorem dX5_init_58 : decode cX5_init 58 = .ok (.aload_n 0, 1) := by decide +kernel
theorem dX5_init_59 : decode cX5_init 59 = .ok (.sipush 160, 3) := by decide +kernel
theorem dX5_init_62 : decode cX5_init 62 = .ok (.newarray .int, 2) := by decide +kernel
theorem dX5_init_64 : decode cX5_init 64 = .ok (.putfield 28, 3) := by decide +kernel
theorem dX5_init_67 : decode cX5_init 67 = .ok (.aload_n 0, 1) := by decide +kernel
theorem dX5_init_68 : decode cX5_init 68 = .ok (.bipush 80, 2) := by decide +kernel
theorem dX5_init_70 : decode cX5_init 70 = .ok (.newarray .int, 2) := by decide +kernel
theorem dX5_init_72 : decode cX5_init 72 = .ok (.putfield 31, 3) := by decide +kernel
theorem dX5_init_75 : decode cX5_init 75 = .ok (.aload_n 0, 1) := by decide +kernel
theorem dX5_init_76 : decode cX5_init 76 = .ok (.sipush 8640, 3) := by decide +kernel
theorem dX5_init_79 : decode cX5_init 79 = .ok (.newarray .int, 2) := by decide +kernel
theorem dX5_init_81 : decode cX5_init 81 = .ok (.putfield 34, 3) := by decide +kernel
theorem dX5_init_84 : decode cX5_init 84 = .ok (.aload_n 0, 1) := by decide +kernel
theorem dX5_init_85 : decode cX5_init 85 = .ok (.sipush 720, 3) := by decide +kernel
theorem dX5_init_88 : decode cX5_init 88 = .ok (.newarray .int, 2) := by decide +kernel
theorem dX5_init_90 : decode cX5_init 90 = .ok (.putfield 37, 3) := by decide +kernel
theorem dX5_init_93 : decode cX5_init 93 = .ok (.aload_n 0, 1) := by decide +kernel
theorem dX5_init_94 : decode cX5_init 94 = .ok (.getfield 7, 3) := by decide +kernel
theorem dX5_init_97 : decode cX5_init 97 = .ok (.iconst 0, 1) := by decide +kernel
theorem dX5_init_98 : decode cX5_init 98 = .ok (.bipush 10, 2) := by decide +kernel
theorem dX5_init_100 : decode cX5_init 100 = .ok (.iastore, 1) := by decide +kernel
theorem dX5_init_101 : decode cX5_init 101 = .ok (.aload_n 0, 1) := by decide +kernel
theorem dX5_init_102 : decode cX5_init 102 = .ok (.getfield 7, 3) := by decide +kernel
theorem dX5_init_105 : decode cX5_init 105 = .ok (.iconst 1, 1) := by decide +kernel
theorem dX5_init_106 : decode cX5_init 106 = .ok (.iconst 5, 1) := by decide +kernel
theorem dX5_init_107 : decode cX5_init 107 = .ok (.iastore, 1) := by decide +kernel
theorem dX5_init_108 : decode cX5_init 108 = .ok (.aload_n 0, 1) := by decide +kernel
theorem dX5_init_109 : decode cX5_init 109 = .ok (.getfield 7, 3) := by decide +kernel
theorem dX5_init_112 : decode cX5_init 112 = .ok (.iconst 2, 1) := by decide +kernel
theorem dX5_init_113 : decode cX5_init 113 = .ok (.sipush 9999, 3) := by decide +kernel
theorem dX5_init_116 : decode cX5_init 116 = .ok (.iastore, 1) := by decide +kernel
theorem dX5_init_117 : decode cX5_init 117 = .ok (.aload_n 0, 1) := by decide +kernel
theorem dX5_init_118 : decode cX5_init 118 = .ok (.getfield 7, 3) := by decide +kernel
theorem dX5_init_121 : decode cX5_init 121 = .ok (.iconst 3, 1) := by decide +kernel
theorem dX5_init_122 : decode cX5_init 122 = .ok (.bipush 20, 2) := by decide +kernel
theorem dX5_init_124 : decode cX5_init 124 = .ok (.iastore, 1) := by decide +kernel
theorem dX5_init_125 : decode cX5_init 125 = .ok (.aload_n 0, 1) := by decide +kernel
theorem dX5_init_126 : decode cX5_init 126 = .ok (.getfield 7, 3) := by decide +kernel
theorem dX5_init_129 : decode cX5_init 129 = .ok (.iconst 5, 1) := by decide +kernel
theorem dX5_init_130 : decode cX5_init 130 = .ok (.bipush 10, 2) := by decide +kernel
theorem dX5_init_132 : decode cX5_init 132 = .ok (.iastore, 1) := by decide +kernel
theorem dX5_init_133 : decode cX5_init 133 = .ok (.return_, 1) := by decide +kernel
theorem dX5_in_0 : decode cX5_in 0 = .ok (.iload_n 0, 1) := by decide +kernel
theorem dX5_in_1 : decode cX5_in 1 = .ok (.iload_n 1, 1) := by decide +kernel
theorem dX5_in_2 : decode cX5_in 2 = .ok (.if_icmp .lt 12, 3) := by decide +kernel
theorem dX5_in_5 : decode cX5_in 5 = .ok (.iload_n 0, 1) := by decide +kernel
theorem dX5_in_6 : decode cX5_in 6 = .ok (.iload_n 2, 1) := by decide +kernel
theorem dX5_in_7 : decode cX5_in 7 = .ok (.if_icmp .gt 7, 3) := by decide +kernel
theorem dX5_in_10 : decode cX5_in 10 = .ok (.iconst 1, 1) := by decide +kernel
theorem dX5_in_11 : decode cX5_in 11 = .ok (.goto 4, 3) := by decide +kernel
theorem dX5_in_14 : decode cX5_in 14 = .ok (.iconst 0, 1) := by decide +kernel
theorem dX5_in_15 : decode cX5_in 15 = .ok (.ireturn, 1) := by decide +kernel
theorem dX5_size_0 : decode cX5_size 0 = .ok (.iload_n 0, 1) := by decide +kernel
theorem dX5_size_1 : decode cX5_size 1 = .ok (.ifCond .ge 8, 3) := by decide +kernel
theorem dX5_size_4 : decode cX5_size 4 = .ok (.iload_n 0, 1) := by decide +kernel
theorem dX5_size_5 : decode cX5_size 5 = .ok (.ineg, 1) := by decide +kernel
theorem dX5_size_6 : decode cX5_size 6 = .ok (.goto 4, 3) := by decide +kernel
theorem dX5_size_9 : decode cX5_size 9 = .ok (.iload_n 0, 1) := by decide +kernel
theorem dX5_size_10 : decode cX5_size 10 = .ok (.ireturn, 1) := by decide +kernel
theorem dX5_lesser_0 : decode cX5_lesser 0 = .ok (.iload_n 0, 1) := by decide +kernel
theorem dX5_lesser_1 : decode cX5_lesser 1 = .ok (.iload_n 1, 1) := by decide +kernel
theorem dX5_lesser_2 : decode cX5_lesser 2 = .ok (.if_icmp .ge 7, 3) := by decide +kernel
theorem dX5_lesser_5 : decode cX5_lesser 5 = .ok (.iload_n 0, 1) := by decide +kernel
theorem dX5_lesser_6 : decode cX5_lesser 6 = .ok (.goto 4, 3) := by decide +kernel
theorem dX5_lesser_9 : decode cX5_lesser 9 = .ok (.iload_n 1, 1) := by decide +kernel
theorem dX5_lesser_10 : decode cX5_lesser 10 = .ok (.ireturn, 1) := by decide +kernel
theorem dX5_around_0 : decode cX5_around 0 = .ok (.iload_n 0, 1) := by decide +kernel
theorem dX5_around_1 : decode cX5_around 1 = .ok (.sipush 720, 3) := by decide +kernel
theorem dX5_around_4 : decode cX5_around 4 = .ok (.iadd, 1) := by decide +kernel
theorem dX5_around_5 : decode cX5_around 5 = .ok (.sipush 720, 3) := by decide +kernel
theorem dX5_around_8 : decode cX5_around 8 = .ok (.irem, 1) := by decide +kernel
theorem dX5_around_9 : decode cX5_around 9 = .ok (.ireturn, 1) := by decide +kernel
theorem dX5_past_0 : decode cX5_past 0 = .ok (.iload_n 1, 1) := by decide +kernel
theorem dX5_past_1 : decode cX5_past 1 = .ok (.iconst 4, 1) := by decide +kernel
theorem dX5_past_2 : decode cX5_past 2 = .ok (.if_icmp .ge 18, 3) := by decide +kernel
theorem dX5_past_5 : decode cX5_past 5 = .ok (.aload_n 0, 1) := by decide +kernel
theorem dX5_past_6 : decode cX5_past 6 = .ok (.getfield 22, 3) := by decide +kernel
theorem dX5_past_9 : decode cX5_past 9 = .ok (.sipush 4668, 3) := by decide +kernel
theorem dX5_past_12 : decode cX5_past 12 = .ok (.iload_n 1, 1) := by decide +kernel
theorem dX5_past_13 : decode cX5_past 13 = .ok (.imul, 1) := by decide +kernel
theorem dX5_past_14 : decode cX5_past 14 = .ok (.iload_n 2, 1) := by decide +kernel
theorem dX5_past_15 : decode cX5_past 15 = .ok (.iadd, 1) := by decide +kernel
theorem dX5_past_16 : decode cX5_past 16 = .ok (.iaload, 1) := by decide +kernel
theorem dX5_past_17 : decode cX5_past 17 = .ok (.goto 9, 3) := by decide +kernel
theorem dX5_past_20 : decode cX5_past 20 = .ok (.aload_n 0, 1) := by decide +kernel
theorem dX5_past_21 : decode cX5_past 21 = .ok (.getfield 25, 3) := by decide +kernel
theorem dX5_past_24 : decode cX5_past 24 = .ok (.iload_n 2, 1) := by decide +kernel
theorem dX5_past_25 : decode cX5_past 25 = .ok (.iaload, 1) := by decide +kernel
theorem dX5_past_26 : decode cX5_past 26 = .ok (.ireturn, 1) := by decide +kernel
theorem dX5_lay_0 : decode cX5_lay 0 = .ok (.iload_n 1, 1) := by decide +kernel
theorem dX5_lay_1 : decode cX5_lay 1 = .ok (.iconst 4, 1) := by decide +kernel
theorem dX5_lay_2 : decode cX5_lay 2 = .ok (.if_icmp .ge 19, 3) := by decide +kernel
theorem dX5_lay_5 : decode cX5_lay 5 = .ok (.aload_n 0, 1) := by decide +kernel
theorem dX5_lay_6 : decode cX5_lay 6 = .ok (.getfield 22, 3) := by decide +kernel
theorem dX5_lay_9 : decode cX5_lay 9 = .ok (.sipush 4668, 3) := by decide +kernel
theorem dX5_lay_12 : decode cX5_lay 12 = .ok (.iload_n 1, 1) := by decide +kernel
theorem dX5_lay_13 : decode cX5_lay 13 = .ok (.imul, 1) := by decide +kernel
theorem dX5_lay_14 : decode cX5_lay 14 = .ok (.iload_n 2, 1) := by decide +kernel
theorem dX5_lay_15 : decode cX5_lay 15 = .ok (.iadd, 1) := by decide +kernel
theorem dX5_lay_16 : decode cX5_lay 16 = .ok (.iload_n 3, 1) := by decide +kernel
theorem dX5_lay_17 : decode cX5_lay 17 = .ok (.iastore, 1) := by decide +kernel
theorem dX5_lay_18 : decode cX5_lay 18 = .ok (.goto 10, 3) := by decide +kernel
theorem dX5_lay_21 : decode cX5_lay 21 = .ok (.aload_n 0, 1) := by decide +kernel
theorem dX5_lay_22 : decode cX5_lay 22 = .ok (.getfield 25, 3) := by decide +kernel
theorem dX5_lay_25 : decode cX5_lay 25 = .ok (.iload_n 2, 1) := by decide +kernel
theorem dX5_lay_26 : decode cX5_lay 26 = .ok (.iload_n 3, 1) := by decide +kernel
theorem dX5_lay_27 : decode cX5_lay 27 = .ok (.iastore, 1) := by decide +kernel
theorem dX5_lay_28 : decode cX5_lay 28 = .ok (.return_, 1) := by decide +kernel
set_option maxRecDepth 20000 in
theorem ggX5_record_X5_lay : GoodIn wsX5_record wsX5_lay := goodIn_r _ [9, 10, 11, 12, 13, 14, 15, 16, 17, 18, 19, 20, 21, 22, 23, 24, 25, 26, 27] (by decide +kernel) (by decide +kernel)
set_option maxRecDepth 20000 in
theorem gX5_record_X5_lay : GoodIn wsX5_record (wsV RX5 47 RX5 yX5_lay wsX5_lay) := goodIn_app (goodIn_of _ (by decide +kernel)) ggX5_record_X5_lay
theorem dX5_record_0 : decode cX5_record 0 = .ok (.aload_n 0, 1) := by decide +kernel
theorem dX5_record_1 : decode cX5_record 1 = .ok (.getfield 40, 3) := by decide +kernel
theorem dX5_record_4 : decode cX5_record 4 = .ok (.iconst 5, 1) := by decide +kernel
theorem dX5_record_5 : decode cX5_record 5 = .ok (.if_icmp .ne 25, 3) := by decide +kernel
theorem dX5_record_8 : decode cX5_record 8 = .ok (.aload_n 0, 1) := by decide +kernel
theorem dX5_record_9 : decode cX5_record 9 = .ok (.aload_n 0, 1) := by decide +kernel
theorem dX5_record_10 : decode cX5_record 10 = .ok (.getfield 44, 3) := by decide +kernel
theorem dX5_record_13 : decode cX5_record 13 = .ok (.iconst 1, 1) := by decide +kernel
theorem dX5_record_14 : decode cX5_record 14 = .ok (.iadd, 1) := by decide +kernel
theorem dX5_record_15 : decode cX5_record 15 = .ok (.iconst 5, 1) := by decide +kernel
theorem dX5_record_16 : decode cX5_record 16 = .ok (.irem, 1) := by decide +kernel
theorem dX5_record_17 : decode cX5_record 17 = .ok (.putfield 44, 3) := by decide +kernel
theorem dX5_record_20 : decode cX5_record 20 = .ok (.aload_n 0, 1) := by decide +kernel
theorem dX5_record_21 : decode cX5_record 21 = .ok (.dup, 1) := by decide +kernel
theorem dX5_record_22 : decode cX5_record 22 = .ok (.getfield 40, 3) := by decide +kernel
theorem dX5_record_25 : decode cX5_record 25 = .ok (.iconst 1, 1) := by decide +kernel
theorem dX5_record_26 : decode cX5_record 26 = .ok (.isub, 1) := by decide +kernel
theorem dX5_record_27 : decode cX5_record 27 = .ok (.putfield 40, 3) := by decide +kernel
theorem dX5_record_30 : decode cX5_record 30 = .ok (.aload_n 0, 1) := by decide +kernel
theorem dX5_record_31 : decode cX5_record 31 = .ok (.getfield 44, 3) := by decide +kernel
theorem dX5_record_34 : decode cX5_record 34 = .ok (.aload_n 0, 1) := by decide +kernel
theorem dX5_record_35 : decode cX5_record 35 = .ok (.getfield 40, 3) := by decide +kernel
theorem dX5_record_38 : decode cX5_record 38 = .ok (.iadd, 1) := by decide +kernel
theorem dX5_record_39 : decode cX5_record 39 = .ok (.iconst 5, 1) := by decide +kernel
theorem dX5_record_40 : decode cX5_record 40 = .ok (.irem, 1) := by decide +kernel
theorem dX5_record_41 : decode cX5_record 41 = .ok (.istore_n 1, 1) := by decide +kernel
theorem dX5_record_42 : decode cX5_record 42 = .ok (.iconst 0, 1) := by decide +kernel
theorem dX5_record_43 : decode cX5_record 43 = .ok (.istore_n 2, 1) := by decide +kernel
theorem dX5_record_44 : decode cX5_record 44 = .ok (.iload_n 2, 1) := by decide +kernel
theorem dX5_record_45 : decode cX5_record 45 = .ok (.sipush 348, 3) := by decide +kernel
theorem dX5_record_48 : decode cX5_record 48 = .ok (.if_icmp .ge 21, 3) := by decide +kernel
theorem dX5_record_51 : decode cX5_record 51 = .ok (.aload_n 0, 1) := by decide +kernel
theorem dX5_record_52 : decode cX5_record 52 = .ok (.iload_n 1, 1) := by decide +kernel
theorem dX5_record_53 : decode cX5_record 53 = .ok (.iload_n 2, 1) := by decide +kernel
theorem dX5_record_54 : decode cX5_record 54 = .ok (.aload_n 0, 1) := by decide +kernel
theorem dX5_record_55 : decode cX5_record 55 = .ok (.getfield 7, 3) := by decide +kernel
theorem dX5_record_58 : decode cX5_record 58 = .ok (.iload_n 2, 1) := by decide +kernel
theorem dX5_record_59 : decode cX5_record 59 = .ok (.iaload, 1) := by decide +kernel
theorem dX5_record_60 : decode cX5_record 60 = .ok (.invokevirtual 47, 3) := by decide +kernel
theorem dX5_record_63 : decode cX5_record 63 = .ok (.iinc 2 1, 3) := by decide +kernel
theorem dX5_record_66 : decode cX5_record 66 = .ok (.goto (-22), 3) := by decide +kernel
theorem dX5_record_69 : decode cX5_record 69 = .ok (.iconst 0, 1) := by decide +kernel
theorem dX5_record_70 : decode cX5_record 70 = .ok (.istore_n 2, 1) := by decide +kernel
theorem dX5_record_71 : decode cX5_record 71 = .ok (.iload_n 2, 1) := by decide +kernel
theorem dX5_record_72 : decode cX5_record 72 = .ok (.sipush 8640, 3) := by decide +kernel
theorem dX5_record_75 : decode cX5_record 75 = .ok (.if_icmp .ge 39, 3) := by decide +kernel
theorem dX5_record_78 : decode cX5_record 78 = .ok (.aload_n 0, 1) := by decide +kernel
theorem dX5_record_79 : decode cX5_record 79 = .ok (.iload_n 1, 1) := by decide +kernel
theorem dX5_record_80 : decode cX5_record 80 = .ok (.sipush 348, 3) := by decide +kernel
theorem dX5_record_83 : decode cX5_record 83 = .ok (.iload_n 2, 1) := by decide +kernel
theorem dX5_record_84 : decode cX5_record 84 = .ok (.iconst 2, 1) := by decide +kernel
theorem dX5_record_85 : decode cX5_record 85 = .ok (.idiv, 1) := by decide +kernel
theorem dX5_record_86 : decode cX5_record 86 = .ok (.iadd, 1) := by decide +kernel
theorem dX5_record_87 : decode cX5_record 87 = .ok (.aload_n 0, 1) := by decide +kernel
theorem dX5_record_88 : decode cX5_record 88 = .ok (.getfield 13, 3) := by decide +kernel
theorem dX5_record_91 : decode cX5_record 91 = .ok (.iload_n 2, 1) := by decide +kernel
theorem dX5_record_92 : decode cX5_record 92 = .ok (.iaload, 1) := by decide +kernel
theorem dX5_record_93 : decode cX5_record 93 = .ok (.aload_n 0, 1) := by decide +kernel
theorem dX5_record_94 : decode cX5_record 94 = .ok (.getfield 13, 3) := by decide +kernel
theorem dX5_record_97 : decode cX5_record 97 = .ok (.iload_n 2, 1) := by decide +kernel
theorem dX5_record_98 : decode cX5_record 98 = .ok (.iconst 1, 1) := by decide +kernel
theorem dX5_record_99 : decode cX5_record 99 = .ok (.iadd, 1) := by decide +kernel
theorem dX5_record_100 : decode cX5_record 100 = .ok (.iaload, 1) := by decide +kernel
theorem dX5_record_101 : decode cX5_record 101 = .ok (.bipush 16, 2) := by decide +kernel
theorem dX5_record_103 : decode cX5_record 103 = .ok (.ishl, 1) := by decide +kernel
theorem dX5_record_104 : decode cX5_record 104 = .ok (.ior, 1) := by decide +kernel
theorem dX5_record_105 : decode cX5_record 105 = .ok (.invokevirtual 47, 3) := by decide +kernel
theorem dX5_record_108 : decode cX5_record 108 = .ok (.iinc 2 2, 3) := by decide +kernel
theorem dX5_record_111 : decode cX5_record 111 = .ok (.goto (-40), 3) := by decide +kernel
theorem dX5_record_114 : decode cX5_record 114 = .ok (.aload_n 0, 1) := by decide +kernel
theorem dX5_record_115 : decode cX5_record 115 = .ok (.dup, 1) := by decide +kernel
theorem dX5_record_116 : decode cX5_record 116 = .ok (.getfield 40, 3) := by decide +kernel
theorem dX5_record_119 : decode cX5_record 119 = .ok (.iconst 1, 1) := by decide +kernel
theorem dX5_record_120 : decode cX5_record 120 = .ok (.iadd, 1) := by decide +kernel
theorem dX5_record_121 : decode cX5_record 121 = .ok (.putfield 40, 3) := by decide +kernel
theorem dX5_record_124 : decode cX5_record 124 = .ok (.return_, 1) := by decide +kernel
set_option maxRecDepth 20000 in
theorem ggX5_undo_X5_past : GoodIn wsX5_undo wsX5_past := goodIn_r _ [10, 11, 12, 13, 14, 15, 16, 17, 18, 19, 20, 21, 22, 23, 24, 25, 26, 27, 28] (by decide +kernel) (by decide +kernel)
set_option maxRecDepth 20000 in
theorem gX5_undo_X5_past : GoodIn wsX5_undo (wsV RX5 51 RX5 yX5_past wsX5_past) := goodIn_app (goodIn_of _ (by decide +kernel)) ggX5_undo_X5_past
theorem dX5_undo_0 : decode cX5_undo 0 = .ok (.aload_n 0, 1) := by decide +kernel
theorem dX5_undo_1 : decode cX5_undo 1 = .ok (.getfield 40, 3) := by decide +kernel
theorem dX5_undo_4 : decode cX5_undo 4 = .ok (.ifCond .ne 6, 3) := by decide +kernel
theorem dX5_undo_7 : decode cX5_undo 7 = .ok (.bipush (-102), 2) := by decide +kernel
theorem dX5_undo_9 : decode cX5_undo 9 = .ok (.ireturn, 1) := by decide +kernel
theorem dX5_undo_10 : decode cX5_undo 10 = .ok (.aload_n 0, 1) := by decide +kernel
theorem dX5_undo_11 : decode cX5_undo 11 = .ok (.dup, 1) := by decide +kernel
theorem dX5_undo_12 : decode cX5_undo 12 = .ok (.getfield 40, 3) := by decide +kernel
theorem dX5_undo_15 : decode cX5_undo 15 = .ok (.iconst 1, 1) := by decide +kernel
theorem dX5_undo_16 : decode cX5_undo 16 = .ok (.isub, 1) := by decide +kernel
theorem dX5_undo_17 : decode cX5_undo 17 = .ok (.putfield 40, 3) := by decide +kernel
theorem dX5_undo_20 : decode cX5_undo 20 = .ok (.aload_n 0, 1) := by decide +kernel
theorem dX5_undo_21 : decode cX5_undo 21 = .ok (.getfield 44, 3) := by decide +kernel
theorem dX5_undo_24 : decode cX5_undo 24 = .ok (.aload_n 0, 1) := by decide +kernel
theorem dX5_undo_25 : decode cX5_undo 25 = .ok (.getfield 40, 3) := by decide +kernel
theorem dX5_undo_28 : decode cX5_undo 28 = .ok (.iadd, 1) := by decide +kernel
theorem dX5_undo_29 : decode cX5_undo 29 = .ok (.iconst 5, 1) := by decide +kernel
theorem dX5_undo_30 : decode cX5_undo 30 = .ok (.irem, 1) := by decide +kernel
theorem dX5_undo_31 : decode cX5_undo 31 = .ok (.istore_n 1, 1) := by decide +kernel
theorem dX5_undo_32 : decode cX5_undo 32 = .ok (.iconst 0, 1) := by decide +kernel
theorem dX5_undo_33 : decode cX5_undo 33 = .ok (.istore_n 2, 1) := by decide +kernel
theorem dX5_undo_34 : decode cX5_undo 34 = .ok (.iload_n 2, 1) := by decide +kernel
theorem dX5_undo_35 : decode cX5_undo 35 = .ok (.sipush 348, 3) := by decide +kernel
theorem dX5_undo_38 : decode cX5_undo 38 = .ok (.if_icmp .ge 21, 3) := by decide +kernel
theorem dX5_undo_41 : decode cX5_undo 41 = .ok (.aload_n 0, 1) := by decide +kernel
theorem dX5_undo_42 : decode cX5_undo 42 = .ok (.getfield 7, 3) := by decide +kernel
theorem dX5_undo_45 : decode cX5_undo 45 = .ok (.iload_n 2, 1) := by decide +kernel
theorem dX5_undo_46 : decode cX5_undo 46 = .ok (.aload_n 0, 1) := by decide +kernel
theorem dX5_undo_47 : decode cX5_undo 47 = .ok (.iload_n 1, 1) := by decide +kernel
theorem dX5_undo_48 : decode cX5_undo 48 = .ok (.iload_n 2, 1) := by decide +kernel
theorem dX5_undo_49 : decode cX5_undo 49 = .ok (.invokevirtual 51, 3) := by decide +kernel
theorem dX5_undo_52 : decode cX5_undo 52 = .ok (.iastore, 1) := by decide +kernel
theorem dX5_undo_53 : decode cX5_undo 53 = .ok (.iinc 2 1, 3) := by decide +kernel
theorem dX5_undo_56 : decode cX5_undo 56 = .ok (.goto (-22), 3) := by decide +kernel
theorem dX5_undo_59 : decode cX5_undo 59 = .ok (.iconst 0, 1) := by decide +kernel
theorem dX5_undo_60 : decode cX5_undo 60 = .ok (.istore_n 2, 1) := by decide +kernel
theorem dX5_undo_61 : decode cX5_undo 61 = .ok (.iload_n 2, 1) := by decide +kernel
theorem dX5_undo_62 : decode cX5_undo 62 = .ok (.sipush 8640, 3) := by decide +kernel
theorem dX5_undo_65 : decode cX5_undo 65 = .ok (.if_icmp .ge 44, 3) := by decide +kernel
theorem dX5_undo_68 : decode cX5_undo 68 = .ok (.aload_n 0, 1) := by decide +kernel
theorem dX5_undo_69 : decode cX5_undo 69 = .ok (.iload_n 1, 1) := by decide +kernel
theorem dX5_undo_70 : decode cX5_undo 70 = .ok (.sipush 348, 3) := by decide +kernel
theorem dX5_undo_73 : decode cX5_undo 73 = .ok (.iload_n 2, 1) := by decide +kernel
theorem dX5_undo_74 : decode cX5_undo 74 = .ok (.iconst 2, 1) := by decide +kernel
theorem dX5_undo_75 : decode cX5_undo 75 = .ok (.idiv, 1) := by decide +kernel
theorem dX5_undo_76 : decode cX5_undo 76 = .ok (.iadd, 1) := by decide +kernel
theorem dX5_undo_77 : decode cX5_undo 77 = .ok (.invokevirtual 51, 3) := by decide +kernel
theorem dX5_undo_80 : decode cX5_undo 80 = .ok (.istore_n 3, 1) := by decide +kernel
theorem dX5_undo_81 : decode cX5_undo 81 = .ok (.aload_n 0, 1) := by decide +kernel
theorem dX5_undo_82 : decode cX5_undo 82 = .ok (.getfield 13, 3) := by decide +kernel
theorem dX5_undo_85 : decode cX5_undo 85 = .ok (.iload_n 2, 1) := by decide +kernel
theorem dX5_undo_86 : decode cX5_undo 86 = .ok (.iload_n 3, 1) := by decide +kernel
theorem dX5_undo_87 : decode cX5_undo 87 = .ok (.ldc 55, 2) := by decide +kernel
theorem dX5_undo_89 : decode cX5_undo 89 = .ok (.iand, 1) := by decide +kernel
theorem dX5_undo_90 : decode cX5_undo 90 = .ok (.iastore, 1) := by decide +kernel
theorem dX5_undo_91 : decode cX5_undo 91 = .ok (.aload_n 0, 1) := by decide +kernel
theorem dX5_undo_92 : decode cX5_undo 92 = .ok (.getfield 13, 3) := by decide +kernel
theorem dX5_undo_95 : decode cX5_undo 95 = .ok (.iload_n 2, 1) := by decide +kernel
theorem dX5_undo_96 : decode cX5_undo 96 = .ok (.iconst 1, 1) := by decide +kernel
theorem dX5_undo_97 : decode cX5_undo 97 = .ok (.iadd, 1) := by decide +kernel
theorem dX5_undo_98 : decode cX5_undo 98 = .ok (.iload_n 3, 1) := by decide +kernel
theorem dX5_undo_99 : decode cX5_undo 99 = .ok (.bipush 16, 2) := by decide +kernel
theorem dX5_undo_101 : decode cX5_undo 101 = .ok (.iushr, 1) := by decide +kernel
theorem dX5_undo_102 : decode cX5_undo 102 = .ok (.iastore, 1) := by decide +kernel
theorem dX5_undo_103 : decode cX5_undo 103 = .ok (.iinc 2 2, 3) := by decide +kernel
theorem dX5_undo_106 : decode cX5_undo 106 = .ok (.goto (-45), 3) := by decide +kernel
theorem dX5_undo_109 : decode cX5_undo 109 = .ok (.aload_n 0, 1) := by decide +kernel
theorem dX5_undo_110 : decode cX5_undo 110 = .ok (.getfield 40, 3) := by decide +kernel
theorem dX5_undo_113 : decode cX5_undo 113 = .ok (.ireturn, 1) := by decide +kernel
theorem dX5_setAside_0 : decode cX5_setAside 0 = .ok (.iconst 0, 1) := by decide +kernel
theorem dX5_setAside_1 : decode cX5_setAside 1 = .ok (.istore_n 1, 1) := by decide +kernel
theorem dX5_setAside_2 : decode cX5_setAside 2 = .ok (.iload_n 1, 1) := by decide +kernel
theorem dX5_setAside_3 : decode cX5_setAside 3 = .ok (.sipush 348, 3) := by decide +kernel
theorem dX5_setAside_6 : decode cX5_setAside 6 = .ok (.if_icmp .ge 21, 3) := by decide +kernel
theorem dX5_setAside_9 : decode cX5_setAside 9 = .ok (.aload_n 0, 1) := by decide +kernel
theorem dX5_setAside_10 : decode cX5_setAside 10 = .ok (.getfield 16, 3) := by decide +kernel
theorem dX5_setAside_13 : decode cX5_setAside 13 = .ok (.iload_n 1, 1) := by decide +kernel
theorem dX5_setAside_14 : decode cX5_setAside 14 = .ok (.aload_n 0, 1) := by decide +kernel
theorem dX5_setAside_15 : decode cX5_setAside 15 = .ok (.getfield 7, 3) := by decide +kernel
theorem dX5_setAside_18 : decode cX5_setAside 18 = .ok (.iload_n 1, 1) := by decide +kernel
theorem dX5_setAside_19 : decode cX5_setAside 19 = .ok (.iaload, 1) := by decide +kernel
theorem dX5_setAside_20 : decode cX5_setAside 20 = .ok (.iastore, 1) := by decide +kernel
theorem dX5_setAside_21 : decode cX5_setAside 21 = .ok (.iinc 1 1, 3) := by decide +kernel
theorem dX5_setAside_24 : decode cX5_setAside 24 = .ok (.goto (-22), 3) := by decide +kernel
theorem dX5_setAside_27 : decode cX5_setAside 27 = .ok (.iconst 0, 1) := by decide +kernel
theorem dX5_setAside_28 : decode cX5_setAside 28 = .ok (.istore_n 1, 1) := by decide +kernel
theorem dX5_setAside_29 : decode cX5_setAside 29 = .ok (.iload_n 1, 1) := by decide +kernel
theorem dX5_setAside_30 : decode cX5_setAside 30 = .ok (.sipush 8640, 3) := by decide +kernel
theorem dX5_setAside_33 : decode cX5_setAside 33 = .ok (.if_icmp .ge 21, 3) := by decide +kernel
theorem dX5_setAside_36 : decode cX5_setAside 36 = .ok (.aload_n 0, 1) := by decide +kernel
theorem dX5_setAside_37 : decode cX5_setAside 37 = .ok (.getfield 19, 3) := by decide +kernel
theorem dX5_setAside_40 : decode cX5_setAside 40 = .ok (.iload_n 1, 1) := by decide +kernel
theorem dX5_setAside_41 : decode cX5_setAside 41 = .ok (.aload_n 0, 1) := by decide +kernel
theorem dX5_setAside_42 : decode cX5_setAside 42 = .ok (.getfield 13, 3) := by decide +kernel
theorem dX5_setAside_45 : decode cX5_setAside 45 = .ok (.iload_n 1, 1) := by decide +kernel
theorem dX5_setAside_46 : decode cX5_setAside 46 = .ok (.iaload, 1) := by decide +kernel
theorem dX5_setAside_47 : decode cX5_setAside 47 = .ok (.iastore, 1) := by decide +kernel
theorem dX5_setAside_48 : decode cX5_setAside 48 = .ok (.iinc 1 1, 3) := by decide +kernel
theorem dX5_setAside_51 : decode cX5_setAside 51 = .ok (.goto (-22), 3) := by decide +kernel
theorem dX5_setAside_54 : decode cX5_setAside 54 = .ok (.return_, 1) := by decide +kernel
theorem dX5_bringBack_0 : decode cX5_bringBack 0 = .ok (.iconst 0, 1) := by decide +kernel
theorem dX5_bringBack_1 : decode cX5_bringBack 1 = .ok (.istore_n 1, 1) := by decide +kernel
theorem dX5_bringBack_2 : decode cX5_bringBack 2 = .ok (.iload_n 1, 1) := by decide +kernel
theorem dX5_bringBack_3 : decode cX5_bringBack 3 = .ok (.sipush 348, 3) := by decide +kernel
theorem dX5_bringBack_6 : decode cX5_bringBack 6 = .ok (.if_icmp .ge 21, 3) := by decide +kernel
theorem dX5_bringBack_9 : decode cX5_bringBack 9 = .ok (.aload_n 0, 1) := by decide +kernel
theorem dX5_bringBack_10 : decode cX5_bringBack 10 = .ok (.getfield 7, 3) := by decide +kernel
theorem dX5_bringBack_13 : decode cX5_bringBack 13 = .ok (.iload_n 1, 1) := by decide +kernel
theorem dX5_bringBack_14 : decode cX5_bringBack 14 = .ok (.aload_n 0, 1) := by decide +kernel
theorem dX5_bringBack_15 : decode cX5_bringBack 15 = .ok (.getfield 16, 3) := by decide +kernel
theorem dX5_bringBack_18 : decode cX5_bringBack 18 = .ok (.iload_n 1, 1) := by decide +kernel
theorem dX5_bringBack_19 : decode cX5_bringBack 19 = .ok (.iaload, 1) := by decide +kernel
theorem dX5_bringBack_20 : decode cX5_bringBack 20 = .ok (.iastore, 1) := by decide +kernel
theorem dX5_bringBack_21 : decode cX5_bringBack 21 = .ok (.iinc 1 1, 3) := by decide +kernel
theorem dX5_bringBack_24 : decode cX5_bringBack 24 = .ok (.goto (-22), 3) := by decide +kernel
theorem dX5_bringBack_27 : decode cX5_bringBack 27 = .ok (.iconst 0, 1) := by decide +kernel
theorem dX5_bringBack_28 : decode cX5_bringBack 28 = .ok (.istore_n 1, 1) := by decide +kernel
theorem dX5_bringBack_29 : decode cX5_bringBack 29 = .ok (.iload_n 1, 1) := by decide +kernel
theorem dX5_bringBack_30 : decode cX5_bringBack 30 = .ok (.sipush 8640, 3) := by decide +kernel
theorem dX5_bringBack_33 : decode cX5_bringBack 33 = .ok (.if_icmp .ge 21, 3) := by decide +kernel
theorem dX5_bringBack_36 : decode cX5_bringBack 36 = .ok (.aload_n 0, 1) := by decide +kernel
theorem dX5_bringBack_37 : decode cX5_bringBack 37 = .ok (.getfield 13, 3) := by decide +kernel
theorem dX5_bringBack_40 : decode cX5_bringBack 40 = .ok (.iload_n 1, 1) := by decide +kernel
theorem dX5_bringBack_41 : decode cX5_bringBack 41 = .ok (.aload_n 0, 1) := by decide +kernel
theorem dX5_bringBack_42 : decode cX5_bringBack 42 = .ok (.getfield 19, 3) := by decide +kernel
theorem dX5_bringBack_45 : decode cX5_bringBack 45 = .ok (.iload_n 1, 1) := by decide +kernel
theorem dX5_bringBack_46 : decode cX5_bringBack 46 = .ok (.iaload, 1) := by decide +kernel
theorem dX5_bringBack_47 : decode cX5_bringBack 47 = .ok (.iastore, 1) := by decide +kernel
theorem dX5_bringBack_48 : decode cX5_bringBack 48 = .ok (.iinc 1 1, 3) := by decide +kernel
theorem dX5_bringBack_51 : decode cX5_bringBack 51 = .ok (.goto (-22), 3) := by decide +kernel
theorem dX5_bringBack_54 : decode cX5_bringBack 54 = .ok (.return_, 1) := by decide +kernel
set_option maxRecDepth 20000 in
theorem ggX5_isPicture_X5_in : GoodIn wsX5_isPicture wsX5_in := goodIn_r _ [5] (by decide +kernel) (by decide +kernel)
set_option maxRecDepth 20000 in
theorem gX5_isPicture_X5_in : GoodIn wsX5_isPicture (va_wsS RX5 56 yX5_in wsX5_in) := goodIn_app (goodIn_of _ (by decide +kernel)) ggX5_isPicture_X5_in
theorem dX5_isPicture_0 : decode cX5_isPicture 0 = .ok (.iload_n 1, 1) := by decide +kernel
theorem dX5_isPicture_1 : decode cX5_isPicture 1 = .ok (.iconst 0, 1) := by decide +kernel
theorem dX5_isPicture_2 : decode cX5_isPicture 2 = .ok (.aload_n 0, 1) := by decide +kernel
theorem dX5_isPicture_3 : decode cX5_isPicture 3 = .ok (.getfield 7, 3) := by decide +kernel
theorem dX5_isPicture_6 : decode cX5_isPicture 6 = .ok (.bipush 11, 2) := by decide +kernel
theorem dX5_isPicture_8 : decode cX5_isPicture 8 = .ok (.iaload, 1) := by decide +kernel
theorem dX5_isPicture_9 : decode cX5_isPicture 9 = .ok (.iconst 1, 1) := by decide +kernel
theorem dX5_isPicture_10 : decode cX5_isPicture 10 = .ok (.isub, 1) := by decide +kernel
theorem dX5_isPicture_11 : decode cX5_isPicture 11 = .ok (.invokestatic 56, 3) := by decide +kernel
theorem dX5_isPicture_14 : decode cX5_isPicture 14 = .ok (.ireturn, 1) := by decide +kernel
theorem dX5_of_0 : decode cX5_of 0 = .ok (.aload_n 0, 1) := by decide +kernel
theorem dX5_of_1 : decode cX5_of 1 = .ok (.getfield 7, 3) := by decide +kernel
theorem dX5_of_4 : decode cX5_of 4 = .ok (.bipush 12, 2) := by decide +kernel
theorem dX5_of_6 : decode cX5_of 6 = .ok (.iconst 4, 1) := by decide +kernel
theorem dX5_of_7 : decode cX5_of 7 = .ok (.iload_n 1, 1) := by decide +kernel
theorem dX5_of_8 : decode cX5_of 8 = .ok (.imul, 1) := by decide +kernel
theorem dX5_of_9 : decode cX5_of 9 = .ok (.iadd, 1) := by decide +kernel
theorem dX5_of_10 : decode cX5_of 10 = .ok (.iload_n 2, 1) := by decide +kernel
theorem dX5_of_11 : decode cX5_of 11 = .ok (.iadd, 1) := by decide +kernel
theorem dX5_of_12 : decode cX5_of 12 = .ok (.iaload, 1) := by decide +kernel
theorem dX5_of_13 : decode cX5_of 13 = .ok (.ireturn, 1) := by decide +kernel
set_option maxRecDepth 20000 in
theorem ggX5_isLight_X5_in : GoodIn wsX5_isLight wsX5_in := goodIn_r _ [4] (by decide +kernel) (by decide +kernel)
set_option maxRecDepth 20000 in
theorem gX5_isLight_X5_in : GoodIn wsX5_isLight (va_wsS RX5 56 yX5_in wsX5_in) := goodIn_app (goodIn_of _ (by decide +kernel)) ggX5_isLight_X5_in
theorem dX5_isLight_0 : decode cX5_isLight 0 = .ok (.iload_n 0, 1) := by decide +kernel
theorem dX5_isLight_1 : decode cX5_isLight 1 = .ok (.iconst 0, 1) := by decide +kernel
theorem dX5_isLight_2 : decode cX5_isLight 2 = .ok (.bipush 11, 2) := by decide +kernel
theorem dX5_isLight_4 : decode cX5_isLight 4 = .ok (.invokestatic 56, 3) := by decide +kernel
theorem dX5_isLight_7 : decode cX5_isLight 7 = .ok (.ireturn, 1) := by decide +kernel
theorem dX5_cellOf_0 : decode cX5_cellOf 0 = .ok (.bipush 28, 2) := by decide +kernel
theorem dX5_cellOf_2 : decode cX5_cellOf 2 = .ok (.bipush 80, 2) := by decide +kernel
theorem dX5_cellOf_4 : decode cX5_cellOf 4 = .ok (.iload_n 0, 1) := by decide +kernel
theorem dX5_cellOf_5 : decode cX5_cellOf 5 = .ok (.imul, 1) := by decide +kernel
theorem dX5_cellOf_6 : decode cX5_cellOf 6 = .ok (.iadd, 1) := by decide +kernel
theorem dX5_cellOf_7 : decode cX5_cellOf 7 = .ok (.iconst 2, 1) := by decide +kernel
theorem dX5_cellOf_8 : decode cX5_cellOf 8 = .ok (.iload_n 1, 1) := by decide +kernel
theorem dX5_cellOf_9 : decode cX5_cellOf 9 = .ok (.imul, 1) := by decide +kernel
theorem dX5_cellOf_10 : decode cX5_cellOf 10 = .ok (.iadd, 1) := by decide +kernel
theorem dX5_cellOf_11 : decode cX5_cellOf 11 = .ok (.iload_n 2, 1) := by decide +kernel
theorem dX5_cellOf_12 : decode cX5_cellOf 12 = .ok (.bipush 6, 2) := by decide +kernel
theorem dX5_cellOf_14 : decode cX5_cellOf 14 = .ok (.idiv, 1) := by decide +kernel
theorem dX5_cellOf_15 : decode cX5_cellOf 15 = .ok (.iadd, 1) := by decide +kernel
theorem dX5_cellOf_16 : decode cX5_cellOf 16 = .ok (.ireturn, 1) := by decide +kernel
set_option maxRecDepth 20000 in
theorem ggX5_colorOf_X5_cellOf : GoodIn wsX5_colorOf wsX5_cellOf := goodIn_r _ [5] (by decide +kernel) (by decide +kernel)
set_option maxRecDepth 20000 in
theorem gX5_colorOf_X5_cellOf : GoodIn wsX5_colorOf (va_wsS RX5 60 yX5_cellOf wsX5_cellOf) := goodIn_app (goodIn_of _ (by decide +kernel)) ggX5_colorOf_X5_cellOf
theorem dX5_colorOf_0 : decode cX5_colorOf 0 = .ok (.aload_n 0, 1) := by decide +kernel
theorem dX5_colorOf_1 : decode cX5_colorOf 1 = .ok (.getfield 7, 3) := by decide +kernel
theorem dX5_colorOf_4 : decode cX5_colorOf 4 = .ok (.iload_n 1, 1) := by decide +kernel
theorem dX5_colorOf_5 : decode cX5_colorOf 5 = .ok (.iload_n 2, 1) := by decide +kernel
theorem dX5_colorOf_6 : decode cX5_colorOf 6 = .ok (.iload_n 3, 1) := by decide +kernel
theorem dX5_colorOf_7 : decode cX5_colorOf 7 = .ok (.invokestatic 60, 3) := by decide +kernel
theorem dX5_colorOf_10 : decode cX5_colorOf 10 = .ok (.iaload, 1) := by decide +kernel
theorem dX5_colorOf_11 : decode cX5_colorOf 11 = .ok (.iconst 3, 1) := by decide +kernel
theorem dX5_colorOf_12 : decode cX5_colorOf 12 = .ok (.iload_n 3, 1) := by decide +kernel
theorem dX5_colorOf_13 : decode cX5_colorOf 13 = .ok (.bipush 6, 2) := by decide +kernel
theorem dX5_colorOf_15 : decode cX5_colorOf 15 = .ok (.irem, 1) := by decide +kernel
theorem dX5_colorOf_16 : decode cX5_colorOf 16 = .ok (.imul, 1) := by decide +kernel
theorem dX5_colorOf_17 : decode cX5_colorOf 17 = .ok (.ishr, 1) := by decide +kernel
theorem dX5_colorOf_18 : decode cX5_colorOf 18 = .ok (.bipush 7, 2) := by decide +kernel
theorem dX5_colorOf_20 : decode cX5_colorOf 20 = .ok (.iand, 1) := by decide +kernel
theorem dX5_colorOf_21 : decode cX5_colorOf 21 = .ok (.ireturn, 1) := by decide +kernel
set_option maxRecDepth 20000 in
theorem ggX5_putColor_X5_cellOf : GoodIn wsX5_putColor wsX5_cellOf := goodIn_r _ [5] (by decide +kernel) (by decide +kernel)
set_option maxRecDepth 20000 in
theorem gX5_putColor_X5_cellOf : GoodIn wsX5_putColor (va_wsS RX5 60 yX5_cellOf wsX5_cellOf) := goodIn_app (goodIn_of _ (by decide +kernel)) ggX5_putColor_X5_cellOf
theorem dX5_putColor_0 : decode cX5_putColor 0 = .ok (.iload_n 1, 1) := by decide +kernel
theorem dX5_putColor_1 : decode cX5_putColor 1 = .ok (.iload_n 2, 1) := by decide +kernel
theorem dX5_putColor_2 : decode cX5_putColor 2 = .ok (.iload_n 3, 1) := by decide +kernel
theorem dX5_putColor_3 : decode cX5_putColor 3 = .ok (.invokestatic 60, 3) := by decide +kernel
theorem dX5_putColor_6 : decode cX5_putColor 6 = .ok (.istore 5, 2) := by decide +kernel
theorem dX5_putColor_8 : decode cX5_putColor 8 = .ok (.iconst 3, 1) := by decide +kernel
theorem dX5_putColor_9 : decode cX5_putColor 9 = .ok (.iload_n 3, 1) := by decide +kernel
theorem dX5_putColor_10 : decode cX5_putColor 10 = .ok (.bipush 6, 2) := by decide +kernel
theorem dX5_putColor_12 : decode cX5_putColor 12 = .ok (.irem, 1) := by decide +kernel
theorem dX5_putColor_13 : decode cX5_putColor 13 = .ok (.imul, 1) := by decide +kernel
theorem dX5_putColor_14 : decode cX5_putColor 14 = .ok (.istore 6, 2) := by decide +kernel
theorem dX5_putColor_16 : decode cX5_putColor 16 = .ok (.aload_n 0, 1) := by decide +kernel
theorem dX5_putColor_17 : decode cX5_putColor 17 = .ok (.getfield 7, 3) := by decide +kernel
theorem dX5_putColor_20 : decode cX5_putColor 20 = .ok (.iload 5, 2) := by decide +kernel
theorem dX5_putColor_22 : decode cX5_putColor 22 = .ok (.aload_n 0, 1) := by decide +kernel
theorem dX5_putColor_23 : decode cX5_putColor 23 = .ok (.getfield 7, 3) := by decide +kernel
theorem dX5_putColor_26 : decode cX5_putColor 26 = .ok (.iload 5, 2) := by decide +kernel
theorem dX5_putColor_28 : decode cX5_putColor 28 = .ok (.iaload, 1) := by decide +kernel
theorem dX5_putColor_29 : decode cX5_putColor 29 = .ok (.bipush 7, 2) := by decide +kernel
theorem dX5_putColor_31 : decode cX5_putColor 31 = .ok (.iload 6, 2) := by decide +kernel
theorem dX5_putColor_33 : decode cX5_putColor 33 = .ok (.ishl, 1) := by decide +kernel
theorem dX5_putColor_34 : decode cX5_putColor 34 = .ok (.iconst (-1), 1) := by decide +kernel
theorem dX5_putColor_35 : decode cX5_putColor 35 = .ok (.ixor, 1) := by decide +kernel
theorem dX5_putColor_36 : decode cX5_putColor 36 = .ok (.iand, 1) := by decide +kernel
theorem dX5_putColor_37 : decode cX5_putColor 37 = .ok (.iload 4, 2) := by decide +kernel
theorem dX5_putColor_39 : decode cX5_putColor 39 = .ok (.iload 6, 2) := by decide +kernel
theorem dX5_putColor_41 : decode cX5_putColor 41 = .ok (.ishl, 1) := by decide +kernel
theorem dX5_putColor_42 : decode cX5_putColor 42 = .ok (.ior, 1) := by decide +kernel
theorem dX5_putColor_43 : decode cX5_putColor 43 = .ok (.iastore, 1) := by decide +kernel
theorem dX5_putColor_44 : decode cX5_putColor 44 = .ok (.return_, 1) := by decide +kernel
set_option maxRecDepth 20000 in
theorem ggX5_covered_X5_of : GoodIn wsX5_covered wsX5_of := goodIn_r _ [5, 6, 10, 11, 12, 13, 14, 15, 16, 17, 18, 19, 20, 21, 22, 23, 24, 25] (by decide +kernel) (by decide +kernel)
set_option maxRecDepth 20000 in
theorem gX5_covered_X5_of : GoodIn wsX5_covered (wsV RX5 64 RX5 yX5_of wsX5_of) := goodIn_app (goodIn_of _ (by decide +kernel)) ggX5_covered_X5_of
set_option maxRecDepth 20000 in
theorem ggX5_covered_X5_lesser : GoodIn wsX5_covered wsX5_lesser := goodIn_r _ [9] (by decide +kernel) (by decide +kernel)
set_option maxRecDepth 20000 in
theorem gX5_covered_X5_lesser : GoodIn wsX5_covered (va_wsS RX5 67 yX5_lesser wsX5_lesser) := goodIn_app (goodIn_of _ (by decide +kernel)) ggX5_covered_X5_lesser
theorem dX5_covered_0 : decode cX5_covered 0 = .ok (.aload_n 0, 1) := by decide +kernel
theorem dX5_covered_1 : decode cX5_covered 1 = .ok (.iload_n 1, 1) := by decide +kernel
theorem dX5_covered_2 : decode cX5_covered 2 = .ok (.iconst 0, 1) := by decide +kernel
theorem dX5_covered_3 : decode cX5_covered 3 = .ok (.invokevirtual 64, 3) := by decide +kernel
theorem dX5_covered_6 : decode cX5_covered 6 = .ok (.aload_n 0, 1) := by decide +kernel
theorem dX5_covered_7 : decode cX5_covered 7 = .ok (.iload_n 1, 1) := by decide +kernel
theorem dX5_covered_8 : decode cX5_covered 8 = .ok (.iconst 2, 1) := by decide +kernel
theorem dX5_covered_9 : decode cX5_covered 9 = .ok (.invokevirtual 64, 3) := by decide +kernel
theorem dX5_covered_12 : decode cX5_covered 12 = .ok (.imul, 1) := by decide +kernel
theorem dX5_covered_13 : decode cX5_covered 13 = .ok (.sipush 720, 3) := by decide +kernel
theorem dX5_covered_16 : decode cX5_covered 16 = .ok (.invokestatic 67, 3) := by decide +kernel
theorem dX5_covered_19 : decode cX5_covered 19 = .ok (.ireturn, 1) := by decide +kernel
set_option maxRecDepth 20000 in
theorem ggX5_columnOf_X5_of : GoodIn wsX5_columnOf wsX5_of := goodIn_r _ [5, 6, 17, 18, 19, 20, 21, 22, 23, 24, 25, 26, 27, 28, 29, 30, 31, 32] (by decide +kernel) (by decide +kernel)
set_option maxRecDepth 20000 in
theorem gX5_columnOf_X5_of : GoodIn wsX5_columnOf (wsV RX5 64 RX5 yX5_of wsX5_of) := goodIn_app (goodIn_of _ (by decide +kernel)) ggX5_columnOf_X5_of
set_option maxRecDepth 20000 in
theorem ggX5_columnOf_X5_around : GoodIn wsX5_columnOf wsX5_around := goodIn_r _ [9] (by decide +kernel) (by decide +kernel)
set_option maxRecDepth 20000 in
theorem gX5_columnOf_X5_around : GoodIn wsX5_columnOf (va_wsS RX5 70 yX5_around wsX5_around) := goodIn_app (goodIn_of _ (by decide +kernel)) ggX5_columnOf_X5_around
set_option maxRecDepth 20000 in
theorem ggX5_columnOf_X5_covered : GoodIn wsX5_columnOf wsX5_covered := goodIn_r _ [13, 1, 2, 3, 4, 5, 6, 14, 15, 16, 17, 18, 19, 20, 21, 22, 23, 24, 25, 26, 27, 28, 29, 30, 31, 32] (by decide +kernel) (by decide +kernel)
set_option maxRecDepth 20000 in
theorem gX5_columnOf_X5_covered : GoodIn wsX5_columnOf (wsV RX5 74 RX5 yX5_covered wsX5_covered) := goodIn_app (goodIn_of _ (by decide +kernel)) ggX5_columnOf_X5_covered
theorem dX5_columnOf_0 : decode cX5_columnOf 0 = .ok (.iload_n 2, 1) := by decide +kernel
theorem dX5_columnOf_1 : decode cX5_columnOf 1 = .ok (.aload_n 0, 1) := by decide +kernel
theorem dX5_columnOf_2 : decode cX5_columnOf 2 = .ok (.iload_n 1, 1) := by decide +kernel
theorem dX5_columnOf_3 : decode cX5_columnOf 3 = .ok (.iconst 1, 1) := by decide +kernel
theorem dX5_columnOf_4 : decode cX5_columnOf 4 = .ok (.invokevirtual 64, 3) := by decide +kernel
theorem dX5_columnOf_7 : decode cX5_columnOf 7 = .ok (.isub, 1) := by decide +kernel
theorem dX5_columnOf_8 : decode cX5_columnOf 8 = .ok (.invokestatic 70, 3) := by decide +kernel
theorem dX5_columnOf_11 : decode cX5_columnOf 11 = .ok (.istore_n 3, 1) := by decide +kernel
theorem dX5_columnOf_12 : decode cX5_columnOf 12 = .ok (.iload_n 3, 1) := by decide +kernel
theorem dX5_columnOf_13 : decode cX5_columnOf 13 = .ok (.aload_n 0, 1) := by decide +kernel
theorem dX5_columnOf_14 : decode cX5_columnOf 14 = .ok (.iload_n 1, 1) := by decide +kernel
theorem dX5_columnOf_15 : decode cX5_columnOf 15 = .ok (.invokevirtual 74, 3) := by decide +kernel
theorem dX5_columnOf_18 : decode cX5_columnOf 18 = .ok (.if_icmp .lt 6, 3) := by decide +kernel
theorem dX5_columnOf_21 : decode cX5_columnOf 21 = .ok (.bipush (-109), 2) := by decide +kernel
theorem dX5_columnOf_23 : decode cX5_columnOf 23 = .ok (.ireturn, 1) := by decide +kernel
theorem dX5_columnOf_24 : decode cX5_columnOf 24 = .ok (.iload_n 3, 1) := by decide +kernel
theorem dX5_columnOf_25 : decode cX5_columnOf 25 = .ok (.aload_n 0, 1) := by decide +kernel
theorem dX5_columnOf_26 : decode cX5_columnOf 26 = .ok (.iload_n 1, 1) := by decide +kernel
theorem dX5_columnOf_27 : decode cX5_columnOf 27 = .ok (.iconst 2, 1) := by decide +kernel
theorem dX5_columnOf_28 : decode cX5_columnOf 28 = .ok (.invokevirtual 64, 3) := by decide +kernel
theorem dX5_columnOf_31 : decode cX5_columnOf 31 = .ok (.idiv, 1) := by decide +kernel
theorem dX5_columnOf_32 : decode cX5_columnOf 32 = .ok (.istore 4, 2) := by decide +kernel
theorem dX5_columnOf_34 : decode cX5_columnOf 34 = .ok (.aload_n 0, 1) := by decide +kernel
theorem dX5_columnOf_35 : decode cX5_columnOf 35 = .ok (.iload_n 1, 1) := by decide +kernel
theorem dX5_columnOf_36 : decode cX5_columnOf 36 = .ok (.iconst 3, 1) := by decide +kernel
theorem dX5_columnOf_37 : decode cX5_columnOf 37 = .ok (.invokevirtual 64, 3) := by decide +kernel
theorem dX5_columnOf_40 : decode cX5_columnOf 40 = .ok (.iconst 1, 1) := by decide +kernel
theorem dX5_columnOf_41 : decode cX5_columnOf 41 = .ok (.if_icmp .ne 17, 3) := by decide +kernel
theorem dX5_columnOf_44 : decode cX5_columnOf 44 = .ok (.aload_n 0, 1) := by decide +kernel
theorem dX5_columnOf_45 : decode cX5_columnOf 45 = .ok (.iload_n 1, 1) := by decide +kernel
theorem dX5_columnOf_46 : decode cX5_columnOf 46 = .ok (.iconst 0, 1) := by decide +kernel
theorem dX5_columnOf_47 : decode cX5_columnOf 47 = .ok (.invokevirtual 64, 3) := by decide +kernel
theorem dX5_columnOf_50 : decode cX5_columnOf 50 = .ok (.iconst 1, 1) := by decide +kernel
theorem dX5_columnOf_51 : decode cX5_columnOf 51 = .ok (.isub, 1) := by decide +kernel
theorem dX5_columnOf_52 : decode cX5_columnOf 52 = .ok (.iload 4, 2) := by decide +kernel
theorem dX5_columnOf_54 : decode cX5_columnOf 54 = .ok (.isub, 1) := by decide +kernel
theorem dX5_columnOf_55 : decode cX5_columnOf 55 = .ok (.goto 5, 3) := by decide +kernel
theorem dX5_columnOf_58 : decode cX5_columnOf 58 = .ok (.iload 4, 2) := by decide +kernel
theorem dX5_columnOf_60 : decode cX5_columnOf 60 = .ok (.ireturn, 1) := by decide +kernel
set_option maxRecDepth 20000 in
theorem ggX5_wanted_X5_of : GoodIn wsX5_wanted wsX5_of := goodIn_r _ [6, 1, 28, 29, 30, 31, 32, 33, 34, 35, 36, 37, 38, 39, 40, 41, 42, 43] (by decide +kernel) (by decide +kernel)
set_option maxRecDepth 20000 in
theorem gX5_wanted_X5_of : GoodIn wsX5_wanted (wsV RX5 64 RX5 yX5_of wsX5_of) := goodIn_app (goodIn_of _ (by decide +kernel)) ggX5_wanted_X5_of
set_option maxRecDepth 20000 in
theorem ggX5_wanted_X5_columnOf : GoodIn wsX5_wanted wsX5_columnOf := goodIn_r _ [10, 2, 3, 4, 5, 6, 1, 11, 12, 13, 14, 15, 16, 17, 18, 19, 20, 28, 29, 30, 31, 32, 33, 34, 35, 36, 37, 38, 39, 40, 41, 42, 43] (by decide +kernel) (by decide +kernel)
set_option maxRecDepth 20000 in
theorem gX5_wanted_X5_columnOf : GoodIn wsX5_wanted (wsV RX5 77 RX5 yX5_columnOf wsX5_columnOf) := goodIn_app (goodIn_of _ (by decide +kernel)) ggX5_wanted_X5_columnOf
set_option maxRecDepth 20000 in
theorem ggX5_wanted_X5_colorOf : GoodIn wsX5_wanted wsX5_colorOf := goodIn_r _ [24, 1, 25, 26, 5, 27, 28, 29, 30, 31, 32, 33, 34, 35, 36, 37, 38, 39, 40, 41, 42, 43] (by decide +kernel) (by decide +kernel)
set_option maxRecDepth 20000 in
theorem gX5_wanted_X5_colorOf : GoodIn wsX5_wanted (wsV RX5 80 RX5 yX5_colorOf wsX5_colorOf) := goodIn_app (goodIn_of _ (by decide +kernel)) ggX5_wanted_X5_colorOf
theorem dX5_wanted_0 : decode cX5_wanted 0 = .ok (.iconst 0, 1) := by decide +kernel
theorem dX5_wanted_1 : decode cX5_wanted 1 = .ok (.istore_n 3, 1) := by decide +kernel
theorem dX5_wanted_2 : decode cX5_wanted 2 = .ok (.iconst 0, 1) := by decide +kernel
theorem dX5_wanted_3 : decode cX5_wanted 3 = .ok (.istore 4, 2) := by decide +kernel
theorem dX5_wanted_5 : decode cX5_wanted 5 = .ok (.iload 4, 2) := by decide +kernel
theorem dX5_wanted_7 : decode cX5_wanted 7 = .ok (.aload_n 0, 1) := by decide +kernel
theorem dX5_wanted_8 : decode cX5_wanted 8 = .ok (.getfield 7, 3) := by decide +kernel
theorem dX5_wanted_11 : decode cX5_wanted 11 = .ok (.bipush 11, 2) := by decide +kernel
theorem dX5_wanted_13 : decode cX5_wanted 13 = .ok (.iaload, 1) := by decide +kernel
theorem dX5_wanted_14 : decode cX5_wanted 14 = .ok (.if_icmp .ge 57, 3) := by decide +kernel
theorem dX5_wanted_17 : decode cX5_wanted 17 = .ok (.aload_n 0, 1) := by decide +kernel
theorem dX5_wanted_18 : decode cX5_wanted 18 = .ok (.iload 4, 2) := by decide +kernel
theorem dX5_wanted_20 : decode cX5_wanted 20 = .ok (.iconst 3, 1) := by decide +kernel
theorem dX5_wanted_21 : decode cX5_wanted 21 = .ok (.invokevirtual 64, 3) := by decide +kernel
theorem dX5_wanted_24 : decode cX5_wanted 24 = .ok (.iconst 2, 1) := by decide +kernel
theorem dX5_wanted_25 : decode cX5_wanted 25 = .ok (.if_icmp .ne 8, 3) := by decide +kernel
theorem dX5_wanted_28 : decode cX5_wanted 28 = .ok (.bipush (-109), 2) := by decide +kernel
theorem dX5_wanted_30 : decode cX5_wanted 30 = .ok (.goto 10, 3) := by decide +kernel
theorem dX5_wanted_33 : decode cX5_wanted 33 = .ok (.aload_n 0, 1) := by decide +kernel
theorem dX5_wanted_34 : decode cX5_wanted 34 = .ok (.iload 4, 2) := by decide +kernel
theorem dX5_wanted_36 : decode cX5_wanted 36 = .ok (.iload_n 1, 1) := by decide +kernel
theorem dX5_wanted_37 : decode cX5_wanted 37 = .ok (.invokevirtual 77, 3) := by decide +kernel
theorem dX5_wanted_40 : decode cX5_wanted 40 = .ok (.istore 5, 2) := by decide +kernel
theorem dX5_wanted_42 : decode cX5_wanted 42 = .ok (.iload_n 3, 1) := by decide +kernel
theorem dX5_wanted_43 : decode cX5_wanted 43 = .ok (.iload 5, 2) := by decide +kernel
theorem dX5_wanted_45 : decode cX5_wanted 45 = .ok (.bipush (-109), 2) := by decide +kernel
theorem dX5_wanted_47 : decode cX5_wanted 47 = .ok (.if_icmp .ne 7, 3) := by decide +kernel
theorem dX5_wanted_50 : decode cX5_wanted 50 = .ok (.iconst 0, 1) := by decide +kernel
theorem dX5_wanted_51 : decode cX5_wanted 51 = .ok (.goto 12, 3) := by decide +kernel
theorem dX5_wanted_54 : decode cX5_wanted 54 = .ok (.aload_n 0, 1) := by decide +kernel
theorem dX5_wanted_55 : decode cX5_wanted 55 = .ok (.iload 4, 2) := by decide +kernel
theorem dX5_wanted_57 : decode cX5_wanted 57 = .ok (.iload 5, 2) := by decide +kernel
theorem dX5_wanted_59 : decode cX5_wanted 59 = .ok (.iload_n 2, 1) := by decide +kernel
theorem dX5_wanted_60 : decode cX5_wanted 60 = .ok (.invokevirtual 80, 3) := by decide +kernel
theorem dX5_wanted_63 : decode cX5_wanted 63 = .ok (.ior, 1) := by decide +kernel
theorem dX5_wanted_64 : decode cX5_wanted 64 = .ok (.istore_n 3, 1) := by decide +kernel
theorem dX5_wanted_65 : decode cX5_wanted 65 = .ok (.iinc 4 1, 3) := by decide +kernel
theorem dX5_wanted_68 : decode cX5_wanted 68 = .ok (.goto (-63), 3) := by decide +kernel
theorem dX5_wanted_71 : decode cX5_wanted 71 = .ok (.iload_n 3, 1) := by decide +kernel
theorem dX5_wanted_72 : decode cX5_wanted 72 = .ok (.ireturn, 1) := by decide +kernel
set_option maxRecDepth 20000 in
theorem ggX5_addPicture_X5_in : GoodIn wsX5_addPicture wsX5_in := goodIn_r _ [5] (by decide +kernel) (by decide +kernel)
set_option maxRecDepth 20000 in
theorem gX5_addPicture_X5_in : GoodIn wsX5_addPicture (va_wsS RX5 56 yX5_in wsX5_in) := goodIn_app (goodIn_of _ (by decide +kernel)) ggX5_addPicture_X5_in
set_option maxRecDepth 20000 in
theorem ggX5_addPicture_X5_record : GoodIn wsX5_addPicture wsX5_record := goodIn_r _ [9, 10, 11, 1, 12, 13, 14, 15, 4, 16, 17, 18, 19, 20, 21, 22, 23, 24, 25, 26, 27, 28, 29, 30, 31, 32, 33, 34] (by decide +kernel) (by decide +kernel)
set_option maxRecDepth 20000 in
theorem gX5_addPicture_X5_record : GoodIn wsX5_addPicture (wsV RX5 83 RX5 yX5_record wsX5_record) := goodIn_app (goodIn_of _ (by decide +kernel)) ggX5_addPicture_X5_record
theorem dX5_addPicture_0 : decode cX5_addPicture 0 = .ok (.iload_n 1, 1) := by decide +kernel
theorem dX5_addPicture_1 : decode cX5_addPicture 1 = .ok (.iconst 1, 1) := by decide +kernel
theorem dX5_addPicture_2 : decode cX5_addPicture 2 = .ok (.bipush 40, 2) := by decide +kernel
theorem dX5_addPicture_4 : decode cX5_addPicture 4 = .ok (.invokestatic 56, 3) := by decide +kernel
theorem dX5_addPicture_7 : decode cX5_addPicture 7 = .ok (.ifCond .ne 6, 3) := by decide +kernel
theorem dX5_addPicture_10 : decode cX5_addPicture 10 = .ok (.bipush (-101), 2) := by decide +kernel
theorem dX5_addPicture_12 : decode cX5_addPicture 12 = .ok (.ireturn, 1) := by decide +kernel
theorem dX5_addPicture_13 : decode cX5_addPicture 13 = .ok (.aload_n 0, 1) := by decide +kernel
theorem dX5_addPicture_14 : decode cX5_addPicture 14 = .ok (.getfield 7, 3) := by decide +kernel
theorem dX5_addPicture_17 : decode cX5_addPicture 17 = .ok (.bipush 11, 2) := by decide +kernel
theorem dX5_addPicture_19 : decode cX5_addPicture 19 = .ok (.iaload, 1) := by decide +kernel
theorem dX5_addPicture_20 : decode cX5_addPicture 20 = .ok (.iconst 4, 1) := by decide +kernel
theorem dX5_addPicture_21 : decode cX5_addPicture 21 = .ok (.if_icmp .ne 6, 3) := by decide +kernel
theorem dX5_addPicture_24 : decode cX5_addPicture 24 = .ok (.bipush (-103), 2) := by decide +kernel
theorem dX5_addPicture_26 : decode cX5_addPicture 26 = .ok (.ireturn, 1) := by decide +kernel
theorem dX5_addPicture_27 : decode cX5_addPicture 27 = .ok (.aload_n 0, 1) := by decide +kernel
theorem dX5_addPicture_28 : decode cX5_addPicture 28 = .ok (.invokevirtual 83, 3) := by decide +kernel
theorem dX5_addPicture_31 : decode cX5_addPicture 31 = .ok (.aload_n 0, 1) := by decide +kernel
theorem dX5_addPicture_32 : decode cX5_addPicture 32 = .ok (.getfield 7, 3) := by decide +kernel
theorem dX5_addPicture_35 : decode cX5_addPicture 35 = .ok (.bipush 11, 2) := by decide +kernel
theorem dX5_addPicture_37 : decode cX5_addPicture 37 = .ok (.iaload, 1) := by decide +kernel
theorem dX5_addPicture_38 : decode cX5_addPicture 38 = .ok (.istore_n 2, 1) := by decide +kernel
theorem dX5_addPicture_39 : decode cX5_addPicture 39 = .ok (.aload_n 0, 1) := by decide +kernel
theorem dX5_addPicture_40 : decode cX5_addPicture 40 = .ok (.getfield 7, 3) := by decide +kernel
theorem dX5_addPicture_43 : decode cX5_addPicture 43 = .ok (.bipush 11, 2) := by decide +kernel
theorem dX5_addPicture_45 : decode cX5_addPicture 45 = .ok (.dup2, 1) := by decide +kernel
theorem dX5_addPicture_46 : decode cX5_addPicture 46 = .ok (.iaload, 1) := by decide +kernel
theorem dX5_addPicture_47 : decode cX5_addPicture 47 = .ok (.iconst 1, 1) := by decide +kernel
theorem dX5_addPicture_48 : decode cX5_addPicture 48 = .ok (.iadd, 1) := by decide +kernel
theorem dX5_addPicture_49 : decode cX5_addPicture 49 = .ok (.iastore, 1) := by decide +kernel
theorem dX5_addPicture_50 : decode cX5_addPicture 50 = .ok (.aload_n 0, 1) := by decide +kernel
theorem dX5_addPicture_51 : decode cX5_addPicture 51 = .ok (.getfield 7, 3) := by decide +kernel
theorem dX5_addPicture_54 : decode cX5_addPicture 54 = .ok (.bipush 12, 2) := by decide +kernel
theorem dX5_addPicture_56 : decode cX5_addPicture 56 = .ok (.iconst 4, 1) := by decide +kernel
theorem dX5_addPicture_57 : decode cX5_addPicture 57 = .ok (.iload_n 2, 1) := by decide +kernel
theorem dX5_addPicture_58 : decode cX5_addPicture 58 = .ok (.imul, 1) := by decide +kernel
theorem dX5_addPicture_59 : decode cX5_addPicture 59 = .ok (.iadd, 1) := by decide +kernel
theorem dX5_addPicture_60 : decode cX5_addPicture 60 = .ok (.iconst 0, 1) := by decide +kernel
theorem dX5_addPicture_61 : decode cX5_addPicture 61 = .ok (.iadd, 1) := by decide +kernel
theorem dX5_addPicture_62 : decode cX5_addPicture 62 = .ok (.iload_n 1, 1) := by decide +kernel
theorem dX5_addPicture_63 : decode cX5_addPicture 63 = .ok (.iastore, 1) := by decide +kernel
theorem dX5_addPicture_64 : decode cX5_addPicture 64 = .ok (.aload_n 0, 1) := by decide +kernel
theorem dX5_addPicture_65 : decode cX5_addPicture 65 = .ok (.getfield 7, 3) := by decide +kernel
theorem dX5_addPicture_68 : decode cX5_addPicture 68 = .ok (.bipush 12, 2) := by decide +kernel
theorem dX5_addPicture_70 : decode cX5_addPicture 70 = .ok (.iconst 4, 1) := by decide +kernel
theorem dX5_addPicture_71 : decode cX5_addPicture 71 = .ok (.iload_n 2, 1) := by decide +kernel
end
section
theorem dX5_addPicture_72 : decode cX5_addPicture 72 = .ok (.imul, 1) := by decide +kernel
theorem dX5_addPicture_73 : decode cX5_addPicture 73 = .ok (.iadd, 1) := by decide +kernel
theorem dX5_addPicture_74 : decode cX5_addPicture 74 = .ok (.iconst 1, 1) := by decide +kernel
theorem dX5_addPicture_75 : decode cX5_addPicture 75 = .ok (.iadd, 1) := by decide +kernel
theorem dX5_addPicture_76 : decode cX5_addPicture 76 = .ok (.iconst 0, 1) := by decide +kernel
theorem dX5_addPicture_77 : decode cX5_addPicture 77 = .ok (.iastore, 1) := by decide +kernel
theorem dX5_addPicture_78 : decode cX5_addPicture 78 = .ok (.aload_n 0, 1) := by decide +kernel
theorem dX5_addPicture_79 : decode cX5_addPicture 79 = .ok (.getfield 7, 3) := by decide +kernel
theorem dX5_addPicture_82 : decode cX5_addPicture 82 = .ok (.bipush 12, 2) := by decide +kernel
theorem dX5_addPicture_84 : decode cX5_addPicture 84 = .ok (.iconst 4, 1) := by decide +kernel
theorem dX5_addPicture_85 : decode cX5_addPicture 85 = .ok (.iload_n 2, 1) := by decide +kernel
theorem dX5_addPicture_86 : decode cX5_addPicture 86 = .ok (.imul, 1) := by decide +kernel
theorem dX5_addPicture_87 : decode cX5_addPicture 87 = .ok (.iadd, 1) := by decide +kernel
theorem dX5_addPicture_88 : decode cX5_addPicture 88 = .ok (.iconst 2, 1) := by decide +kernel
theorem dX5_addPicture_89 : decode cX5_addPicture 89 = .ok (.iadd, 1) := by decide +kernel
theorem dX5_addPicture_90 : decode cX5_addPicture 90 = .ok (.bipush 6, 2) := by decide +kernel
theorem dX5_addPicture_92 : decode cX5_addPicture 92 = .ok (.iastore, 1) := by decide +kernel
theorem dX5_addPicture_93 : decode cX5_addPicture 93 = .ok (.aload_n 0, 1) := by decide +kernel
theorem dX5_addPicture_94 : decode cX5_addPicture 94 = .ok (.getfield 7, 3) := by decide +kernel
theorem dX5_addPicture_97 : decode cX5_addPicture 97 = .ok (.bipush 12, 2) := by decide +kernel
theorem dX5_addPicture_99 : decode cX5_addPicture 99 = .ok (.iconst 4, 1) := by decide +kernel
theorem dX5_addPicture_100 : decode cX5_addPicture 100 = .ok (.iload_n 2, 1) := by decide +kernel
theorem dX5_addPicture_101 : decode cX5_addPicture 101 = .ok (.imul, 1) := by decide +kernel
theorem dX5_addPicture_102 : decode cX5_addPicture 102 = .ok (.iadd, 1) := by decide +kernel
theorem dX5_addPicture_103 : decode cX5_addPicture 103 = .ok (.iconst 3, 1) := by decide +kernel
theorem dX5_addPicture_104 : decode cX5_addPicture 104 = .ok (.iadd, 1) := by decide +kernel
theorem dX5_addPicture_105 : decode cX5_addPicture 105 = .ok (.iconst 0, 1) := by decide +kernel
theorem dX5_addPicture_106 : decode cX5_addPicture 106 = .ok (.iastore, 1) := by decide +kernel
theorem dX5_addPicture_107 : decode cX5_addPicture 107 = .ok (.iconst 0, 1) := by decide +kernel
theorem dX5_addPicture_108 : decode cX5_addPicture 108 = .ok (.istore_n 3, 1) := by decide +kernel
theorem dX5_addPicture_109 : decode cX5_addPicture 109 = .ok (.iload_n 3, 1) := by decide +kernel
theorem dX5_addPicture_110 : decode cX5_addPicture 110 = .ok (.bipush 80, 2) := by decide +kernel
theorem dX5_addPicture_112 : decode cX5_addPicture 112 = .ok (.if_icmp .ge 24, 3) := by decide +kernel
theorem dX5_addPicture_115 : decode cX5_addPicture 115 = .ok (.aload_n 0, 1) := by decide +kernel
theorem dX5_addPicture_116 : decode cX5_addPicture 116 = .ok (.getfield 7, 3) := by decide +kernel
theorem dX5_addPicture_119 : decode cX5_addPicture 119 = .ok (.bipush 28, 2) := by decide +kernel
theorem dX5_addPicture_121 : decode cX5_addPicture 121 = .ok (.bipush 80, 2) := by decide +kernel
theorem dX5_addPicture_123 : decode cX5_addPicture 123 = .ok (.iload_n 2, 1) := by decide +kernel
theorem dX5_addPicture_124 : decode cX5_addPicture 124 = .ok (.imul, 1) := by decide +kernel
theorem dX5_addPicture_125 : decode cX5_addPicture 125 = .ok (.iadd, 1) := by decide +kernel
theorem dX5_addPicture_126 : decode cX5_addPicture 126 = .ok (.iload_n 3, 1) := by decide +kernel
theorem dX5_addPicture_127 : decode cX5_addPicture 127 = .ok (.iadd, 1) := by decide +kernel
theorem dX5_addPicture_128 : decode cX5_addPicture 128 = .ok (.iconst 0, 1) := by decide +kernel
theorem dX5_addPicture_129 : decode cX5_addPicture 129 = .ok (.iastore, 1) := by decide +kernel
theorem dX5_addPicture_130 : decode cX5_addPicture 130 = .ok (.iinc 3 1, 3) := by decide +kernel
theorem dX5_addPicture_133 : decode cX5_addPicture 133 = .ok (.goto (-24), 3) := by decide +kernel
theorem dX5_addPicture_136 : decode cX5_addPicture 136 = .ok (.iload_n 2, 1) := by decide +kernel
theorem dX5_addPicture_137 : decode cX5_addPicture 137 = .ok (.ireturn, 1) := by decide +kernel
set_option maxRecDepth 20000 in
theorem ggX5_paint_X5_isPicture : GoodIn wsX5_paint wsX5_isPicture := goodIn_r _ [5, 6, 7, 8, 4, 9, 41, 42, 43, 44, 45, 46, 47, 48, 49, 50, 51, 52, 53, 54, 55, 56] (by decide +kernel) (by decide +kernel)
set_option maxRecDepth 20000 in
theorem gX5_paint_X5_isPicture : GoodIn wsX5_paint (wsV RX5 86 RX5 yX5_isPicture wsX5_isPicture) := goodIn_app (goodIn_of _ (by decide +kernel)) ggX5_paint_X5_isPicture
set_option maxRecDepth 20000 in
theorem ggX5_paint_X5_of : GoodIn wsX5_paint wsX5_of := goodIn_r _ [13, 6, 41, 42, 43, 44, 45, 46, 47, 48, 49, 50, 51, 52, 53, 54, 55, 56] (by decide +kernel) (by decide +kernel)
set_option maxRecDepth 20000 in
theorem gX5_paint_X5_of : GoodIn wsX5_paint (wsV RX5 64 RX5 yX5_of wsX5_of) := goodIn_app (goodIn_of _ (by decide +kernel)) ggX5_paint_X5_of
set_option maxRecDepth 20000 in
theorem ggX5_paint_X5_in : GoodIn wsX5_paint wsX5_in := goodIn_r _ [9] (by decide +kernel) (by decide +kernel)
set_option maxRecDepth 20000 in
theorem gX5_paint_X5_in : GoodIn wsX5_paint (va_wsS RX5 56 yX5_in wsX5_in) := goodIn_app (goodIn_of _ (by decide +kernel)) ggX5_paint_X5_in
set_option maxRecDepth 20000 in
theorem ggX5_paint_X5_isLight : GoodIn wsX5_paint wsX5_isLight := goodIn_r _ [16, 7, 8, 4, 9] (by decide +kernel) (by decide +kernel)
set_option maxRecDepth 20000 in
theorem gX5_paint_X5_isLight : GoodIn wsX5_paint (va_wsS RX5 90 yX5_isLight wsX5_isLight) := goodIn_app (goodIn_of _ (by decide +kernel)) ggX5_paint_X5_isLight
set_option maxRecDepth 20000 in
theorem ggX5_paint_X5_record : GoodIn wsX5_paint wsX5_record := goodIn_r _ [20, 21, 22, 6, 23, 24, 25, 26, 4, 27, 28, 29, 41, 42, 43, 44, 45, 46, 47, 48, 49, 50, 51, 52, 53, 54, 55, 56] (by decide +kernel) (by decide +kernel)
set_option maxRecDepth 20000 in
theorem gX5_paint_X5_record : GoodIn wsX5_paint (wsV RX5 83 RX5 yX5_record wsX5_record) := goodIn_app (goodIn_of _ (by decide +kernel)) ggX5_paint_X5_record
set_option maxRecDepth 20000 in
theorem ggX5_paint_X5_colorOf : GoodIn wsX5_paint wsX5_colorOf := goodIn_r _ [33, 6, 34, 35, 4, 36, 41, 42, 43, 44, 45, 46, 47, 48, 49, 50, 51, 52, 53, 54, 55, 56] (by decide +kernel) (by decide +kernel)
set_option maxRecDepth 20000 in
theorem gX5_paint_X5_colorOf : GoodIn wsX5_paint (wsV RX5 80 RX5 yX5_colorOf wsX5_colorOf) := goodIn_app (goodIn_of _ (by decide +kernel)) ggX5_paint_X5_colorOf
set_option maxRecDepth 20000 in
theorem ggX5_paint_X5_putColor : GoodIn wsX5_paint wsX5_putColor := goodIn_r _ [40, 6, 34, 35, 4, 36, 41, 42, 43, 44, 45, 46, 47, 48, 49, 50, 51, 52, 53, 54, 55, 56] (by decide +kernel) (by decide +kernel)
set_option maxRecDepth 20000 in
theorem gX5_paint_X5_putColor : GoodIn wsX5_paint (wsV RX5 93 RX5 yX5_putColor wsX5_putColor) := goodIn_app (goodIn_of _ (by decide +kernel)) ggX5_paint_X5_putColor
theorem dX5_paint_0 : decode cX5_paint 0 = .ok (.aload_n 0, 1) := by decide +kernel
theorem dX5_paint_1 : decode cX5_paint 1 = .ok (.iload_n 1, 1) := by decide +kernel
theorem dX5_paint_2 : decode cX5_paint 2 = .ok (.invokevirtual 86, 3) := by decide +kernel
theorem dX5_paint_5 : decode cX5_paint 5 = .ok (.ifCond .eq 37, 3) := by decide +kernel
theorem dX5_paint_8 : decode cX5_paint 8 = .ok (.iload_n 2, 1) := by decide +kernel
theorem dX5_paint_9 : decode cX5_paint 9 = .ok (.iconst 0, 1) := by decide +kernel
theorem dX5_paint_10 : decode cX5_paint 10 = .ok (.aload_n 0, 1) := by decide +kernel
theorem dX5_paint_11 : decode cX5_paint 11 = .ok (.iload_n 1, 1) := by decide +kernel
theorem dX5_paint_12 : decode cX5_paint 12 = .ok (.iconst 0, 1) := by decide +kernel
theorem dX5_paint_13 : decode cX5_paint 13 = .ok (.invokevirtual 64, 3) := by decide +kernel
theorem dX5_paint_16 : decode cX5_paint 16 = .ok (.iconst 1, 1) := by decide +kernel
theorem dX5_paint_17 : decode cX5_paint 17 = .ok (.isub, 1) := by decide +kernel
theorem dX5_paint_18 : decode cX5_paint 18 = .ok (.invokestatic 56, 3) := by decide +kernel
theorem dX5_paint_21 : decode cX5_paint 21 = .ok (.ifCond .eq 21, 3) := by decide +kernel
theorem dX5_paint_24 : decode cX5_paint 24 = .ok (.iload_n 3, 1) := by decide +kernel
theorem dX5_paint_25 : decode cX5_paint 25 = .ok (.invokestatic 90, 3) := by decide +kernel
theorem dX5_paint_28 : decode cX5_paint 28 = .ok (.ifCond .eq 14, 3) := by decide +kernel
theorem dX5_paint_31 : decode cX5_paint 31 = .ok (.iload 4, 2) := by decide +kernel
theorem dX5_paint_33 : decode cX5_paint 33 = .ok (.iconst 0, 1) := by decide +kernel
theorem dX5_paint_34 : decode cX5_paint 34 = .ok (.bipush 7, 2) := by decide +kernel
theorem dX5_paint_36 : decode cX5_paint 36 = .ok (.invokestatic 56, 3) := by decide +kernel
theorem dX5_paint_39 : decode cX5_paint 39 = .ok (.ifCond .ne 6, 3) := by decide +kernel
theorem dX5_paint_42 : decode cX5_paint 42 = .ok (.bipush (-101), 2) := by decide +kernel
theorem dX5_paint_44 : decode cX5_paint 44 = .ok (.ireturn, 1) := by decide +kernel
theorem dX5_paint_45 : decode cX5_paint 45 = .ok (.aload_n 0, 1) := by decide +kernel
theorem dX5_paint_46 : decode cX5_paint 46 = .ok (.invokevirtual 83, 3) := by decide +kernel
theorem dX5_paint_49 : decode cX5_paint 49 = .ok (.aload_n 0, 1) := by decide +kernel
theorem dX5_paint_50 : decode cX5_paint 50 = .ok (.iload_n 1, 1) := by decide +kernel
theorem dX5_paint_51 : decode cX5_paint 51 = .ok (.iload_n 2, 1) := by decide +kernel
theorem dX5_paint_52 : decode cX5_paint 52 = .ok (.iload_n 3, 1) := by decide +kernel
theorem dX5_paint_53 : decode cX5_paint 53 = .ok (.invokevirtual 80, 3) := by decide +kernel
theorem dX5_paint_56 : decode cX5_paint 56 = .ok (.istore 5, 2) := by decide +kernel
theorem dX5_paint_58 : decode cX5_paint 58 = .ok (.aload_n 0, 1) := by decide +kernel
theorem dX5_paint_59 : decode cX5_paint 59 = .ok (.iload_n 1, 1) := by decide +kernel
theorem dX5_paint_60 : decode cX5_paint 60 = .ok (.iload_n 2, 1) := by decide +kernel
theorem dX5_paint_61 : decode cX5_paint 61 = .ok (.iload_n 3, 1) := by decide +kernel
theorem dX5_paint_62 : decode cX5_paint 62 = .ok (.iload 4, 2) := by decide +kernel
theorem dX5_paint_64 : decode cX5_paint 64 = .ok (.invokevirtual 93, 3) := by decide +kernel
theorem dX5_paint_67 : decode cX5_paint 67 = .ok (.iload 5, 2) := by decide +kernel
theorem dX5_paint_69 : decode cX5_paint 69 = .ok (.ireturn, 1) := by decide +kernel
set_option maxRecDepth 20000 in
theorem ggX5_setPlace_X5_isPicture : GoodIn wsX5_setPlace wsX5_isPicture := goodIn_r _ [6, 1, 7, 8, 5, 9, 27, 28, 29, 30, 31, 32, 33, 34, 35, 36, 37, 38, 39, 40, 41, 42] (by decide +kernel) (by decide +kernel)
set_option maxRecDepth 20000 in
theorem gX5_setPlace_X5_isPicture : GoodIn wsX5_setPlace (wsV RX5 86 RX5 yX5_isPicture wsX5_isPicture) := goodIn_app (goodIn_of _ (by decide +kernel)) ggX5_setPlace_X5_isPicture
set_option maxRecDepth 20000 in
theorem ggX5_setPlace_X5_in : GoodIn wsX5_setPlace wsX5_in := goodIn_r _ [9] (by decide +kernel) (by decide +kernel)
set_option maxRecDepth 20000 in
theorem gX5_setPlace_X5_in : GoodIn wsX5_setPlace (va_wsS RX5 56 yX5_in wsX5_in) := goodIn_app (goodIn_of _ (by decide +kernel)) ggX5_setPlace_X5_in
set_option maxRecDepth 20000 in
theorem ggX5_setPlace_X5_record : GoodIn wsX5_setPlace wsX5_record := goodIn_r _ [13, 14, 15, 1, 16, 17, 18, 19, 5, 20, 21, 22, 27, 28, 29, 30, 31, 32, 33, 34, 35, 36, 37, 38, 39, 40, 41, 42] (by decide +kernel) (by decide +kernel)
set_option maxRecDepth 20000 in
theorem gX5_setPlace_X5_record : GoodIn wsX5_setPlace (wsV RX5 83 RX5 yX5_record wsX5_record) := goodIn_app (goodIn_of _ (by decide +kernel)) ggX5_setPlace_X5_record
set_option maxRecDepth 20000 in
theorem ggX5_setPlace_X5_of : GoodIn wsX5_setPlace wsX5_of := goodIn_r _ [26, 1, 27, 28, 29, 30, 31, 32, 33, 34, 35, 36, 37, 38, 39, 40, 41, 42] (by decide +kernel) (by decide +kernel)
set_option maxRecDepth 20000 in
theorem gX5_setPlace_X5_of : GoodIn wsX5_setPlace (wsV RX5 64 RX5 yX5_of wsX5_of) := goodIn_app (goodIn_of _ (by decide +kernel)) ggX5_setPlace_X5_of
theorem dX5_setPlace_0 : decode cX5_setPlace 0 = .ok (.aload_n 0, 1) := by decide +kernel
theorem dX5_setPlace_1 : decode cX5_setPlace 1 = .ok (.iload_n 1, 1) := by decide +kernel
theorem dX5_setPlace_2 : decode cX5_setPlace 2 = .ok (.invokevirtual 86, 3) := by decide +kernel
theorem dX5_setPlace_5 : decode cX5_setPlace 5 = .ok (.ifCond .eq 24, 3) := by decide +kernel
theorem dX5_setPlace_8 : decode cX5_setPlace 8 = .ok (.iload_n 2, 1) := by decide +kernel
theorem dX5_setPlace_9 : decode cX5_setPlace 9 = .ok (.iconst 0, 1) := by decide +kernel
theorem dX5_setPlace_10 : decode cX5_setPlace 10 = .ok (.sipush 719, 3) := by decide +kernel
theorem dX5_setPlace_13 : decode cX5_setPlace 13 = .ok (.invokestatic 56, 3) := by decide +kernel
theorem dX5_setPlace_16 : decode cX5_setPlace 16 = .ok (.ifCond .eq 13, 3) := by decide +kernel
theorem dX5_setPlace_19 : decode cX5_setPlace 19 = .ok (.iload_n 3, 1) := by decide +kernel
theorem dX5_setPlace_20 : decode cX5_setPlace 20 = .ok (.iconst 1, 1) := by decide +kernel
theorem dX5_setPlace_21 : decode cX5_setPlace 21 = .ok (.bipush 18, 2) := by decide +kernel
theorem dX5_setPlace_23 : decode cX5_setPlace 23 = .ok (.invokestatic 56, 3) := by decide +kernel
theorem dX5_setPlace_26 : decode cX5_setPlace 26 = .ok (.ifCond .ne 6, 3) := by decide +kernel
theorem dX5_setPlace_29 : decode cX5_setPlace 29 = .ok (.bipush (-101), 2) := by decide +kernel
theorem dX5_setPlace_31 : decode cX5_setPlace 31 = .ok (.ireturn, 1) := by decide +kernel
theorem dX5_setPlace_32 : decode cX5_setPlace 32 = .ok (.aload_n 0, 1) := by decide +kernel
theorem dX5_setPlace_33 : decode cX5_setPlace 33 = .ok (.invokevirtual 83, 3) := by decide +kernel
theorem dX5_setPlace_36 : decode cX5_setPlace 36 = .ok (.aload_n 0, 1) := by decide +kernel
theorem dX5_setPlace_37 : decode cX5_setPlace 37 = .ok (.iload_n 1, 1) := by decide +kernel
theorem dX5_setPlace_38 : decode cX5_setPlace 38 = .ok (.iconst 1, 1) := by decide +kernel
theorem dX5_setPlace_39 : decode cX5_setPlace 39 = .ok (.invokevirtual 64, 3) := by decide +kernel
theorem dX5_setPlace_42 : decode cX5_setPlace 42 = .ok (.istore 4, 2) := by decide +kernel
theorem dX5_setPlace_44 : decode cX5_setPlace 44 = .ok (.aload_n 0, 1) := by decide +kernel
theorem dX5_setPlace_45 : decode cX5_setPlace 45 = .ok (.getfield 7, 3) := by decide +kernel
theorem dX5_setPlace_48 : decode cX5_setPlace 48 = .ok (.bipush 12, 2) := by decide +kernel
theorem dX5_setPlace_50 : decode cX5_setPlace 50 = .ok (.iconst 4, 1) := by decide +kernel
theorem dX5_setPlace_51 : decode cX5_setPlace 51 = .ok (.iload_n 1, 1) := by decide +kernel
theorem dX5_setPlace_52 : decode cX5_setPlace 52 = .ok (.imul, 1) := by decide +kernel
theorem dX5_setPlace_53 : decode cX5_setPlace 53 = .ok (.iadd, 1) := by decide +kernel
theorem dX5_setPlace_54 : decode cX5_setPlace 54 = .ok (.iconst 1, 1) := by decide +kernel
theorem dX5_setPlace_55 : decode cX5_setPlace 55 = .ok (.iadd, 1) := by decide +kernel
theorem dX5_setPlace_56 : decode cX5_setPlace 56 = .ok (.iload_n 2, 1) := by decide +kernel
theorem dX5_setPlace_57 : decode cX5_setPlace 57 = .ok (.iastore, 1) := by decide +kernel
theorem dX5_setPlace_58 : decode cX5_setPlace 58 = .ok (.aload_n 0, 1) := by decide +kernel
theorem dX5_setPlace_59 : decode cX5_setPlace 59 = .ok (.getfield 7, 3) := by decide +kernel
theorem dX5_setPlace_62 : decode cX5_setPlace 62 = .ok (.bipush 12, 2) := by decide +kernel
theorem dX5_setPlace_64 : decode cX5_setPlace 64 = .ok (.iconst 4, 1) := by decide +kernel
theorem dX5_setPlace_65 : decode cX5_setPlace 65 = .ok (.iload_n 1, 1) := by decide +kernel
theorem dX5_setPlace_66 : decode cX5_setPlace 66 = .ok (.imul, 1) := by decide +kernel
theorem dX5_setPlace_67 : decode cX5_setPlace 67 = .ok (.iadd, 1) := by decide +kernel
theorem dX5_setPlace_68 : decode cX5_setPlace 68 = .ok (.iconst 2, 1) := by decide +kernel
theorem dX5_setPlace_69 : decode cX5_setPlace 69 = .ok (.iadd, 1) := by decide +kernel
theorem dX5_setPlace_70 : decode cX5_setPlace 70 = .ok (.iload_n 3, 1) := by decide +kernel
theorem dX5_setPlace_71 : decode cX5_setPlace 71 = .ok (.iastore, 1) := by decide +kernel
theorem dX5_setPlace_72 : decode cX5_setPlace 72 = .ok (.iload 4, 2) := by decide +kernel
theorem dX5_setPlace_74 : decode cX5_setPlace 74 = .ok (.ireturn, 1) := by decide +kernel
set_option maxRecDepth 20000 in
theorem ggX5_put_X5_record : GoodIn wsX5_put wsX5_record := goodIn_r _ [6, 7, 8, 1, 9, 10, 11, 12, 5, 13, 14, 15, 16, 17, 18, 19, 20, 21, 22, 23, 24, 25, 26, 27, 28, 29, 30, 31] (by decide +kernel) (by decide +kernel)
set_option maxRecDepth 20000 in
theorem gX5_put_X5_record : GoodIn wsX5_put (wsV RX5 83 RX5 yX5_record wsX5_record) := goodIn_app (goodIn_of _ (by decide +kernel)) ggX5_put_X5_record
theorem dX5_put_0 : decode cX5_put 0 = .ok (.aload_n 0, 1) := by decide +kernel
theorem dX5_put_1 : decode cX5_put 1 = .ok (.invokevirtual 83, 3) := by decide +kernel
theorem dX5_put_4 : decode cX5_put 4 = .ok (.aload_n 0, 1) := by decide +kernel
theorem dX5_put_5 : decode cX5_put 5 = .ok (.getfield 7, 3) := by decide +kernel
theorem dX5_put_8 : decode cX5_put 8 = .ok (.iload_n 1, 1) := by decide +kernel
theorem dX5_put_9 : decode cX5_put 9 = .ok (.iaload, 1) := by decide +kernel
theorem dX5_put_10 : decode cX5_put 10 = .ok (.istore_n 3, 1) := by decide +kernel
theorem dX5_put_11 : decode cX5_put 11 = .ok (.aload_n 0, 1) := by decide +kernel
theorem dX5_put_12 : decode cX5_put 12 = .ok (.getfield 7, 3) := by decide +kernel
theorem dX5_put_15 : decode cX5_put 15 = .ok (.iload_n 1, 1) := by decide +kernel
theorem dX5_put_16 : decode cX5_put 16 = .ok (.iload_n 2, 1) := by decide +kernel
theorem dX5_put_17 : decode cX5_put 17 = .ok (.iastore, 1) := by decide +kernel
theorem dX5_put_18 : decode cX5_put 18 = .ok (.iload_n 3, 1) := by decide +kernel
theorem dX5_put_19 : decode cX5_put 19 = .ok (.ireturn, 1) := by decide +kernel
set_option maxRecDepth 20000 in
theorem ggX5_setKind_X5_isPicture : GoodIn wsX5_setKind wsX5_isPicture := goodIn_r _ [5, 6, 7, 8, 4, 9, 27, 28, 29, 30, 31, 32, 33, 34, 35, 36, 37, 38, 39, 40, 41, 42] (by decide +kernel) (by decide +kernel)
set_option maxRecDepth 20000 in
theorem gX5_setKind_X5_isPicture : GoodIn wsX5_setKind (wsV RX5 86 RX5 yX5_isPicture wsX5_isPicture) := goodIn_app (goodIn_of _ (by decide +kernel)) ggX5_setKind_X5_isPicture
set_option maxRecDepth 20000 in
theorem ggX5_setKind_X5_in : GoodIn wsX5_setKind wsX5_in := goodIn_r _ [9] (by decide +kernel) (by decide +kernel)
set_option maxRecDepth 20000 in
theorem gX5_setKind_X5_in : GoodIn wsX5_setKind (va_wsS RX5 56 yX5_in wsX5_in) := goodIn_app (goodIn_of _ (by decide +kernel)) ggX5_setKind_X5_in
set_option maxRecDepth 20000 in
theorem ggX5_setKind_X5_put : GoodIn wsX5_setKind wsX5_put := goodIn_r _ [13, 6, 14, 15, 16, 4, 17, 18, 19, 20, 21, 22, 23, 24, 25, 26, 27, 28, 29, 30, 31, 32, 33, 34, 35, 36, 37, 38, 39, 40, 41, 42] (by decide +kernel) (by decide +kernel)
set_option maxRecDepth 20000 in
theorem gX5_setKind_X5_put : GoodIn wsX5_setKind (wsV RX5 97 RX5 yX5_put wsX5_put) := goodIn_app (goodIn_of _ (by decide +kernel)) ggX5_setKind_X5_put
theorem dX5_setKind_0 : decode cX5_setKind 0 = .ok (.aload_n 0, 1) := by decide +kernel
theorem dX5_setKind_1 : decode cX5_setKind 1 = .ok (.iload_n 1, 1) := by decide +kernel
theorem dX5_setKind_2 : decode cX5_setKind 2 = .ok (.invokevirtual 86, 3) := by decide +kernel
theorem dX5_setKind_5 : decode cX5_setKind 5 = .ok (.ifCond .eq 28, 3) := by decide +kernel
theorem dX5_setKind_8 : decode cX5_setKind 8 = .ok (.iload_n 2, 1) := by decide +kernel
theorem dX5_setKind_9 : decode cX5_setKind 9 = .ok (.iconst 0, 1) := by decide +kernel
theorem dX5_setKind_10 : decode cX5_setKind 10 = .ok (.iconst 2, 1) := by decide +kernel
theorem dX5_setKind_11 : decode cX5_setKind 11 = .ok (.invokestatic 56, 3) := by decide +kernel
theorem dX5_setKind_14 : decode cX5_setKind 14 = .ok (.ifCond .eq 19, 3) := by decide +kernel
theorem dX5_setKind_17 : decode cX5_setKind 17 = .ok (.aload_n 0, 1) := by decide +kernel
theorem dX5_setKind_18 : decode cX5_setKind 18 = .ok (.bipush 12, 2) := by decide +kernel
theorem dX5_setKind_20 : decode cX5_setKind 20 = .ok (.iconst 4, 1) := by decide +kernel
theorem dX5_setKind_21 : decode cX5_setKind 21 = .ok (.iload_n 1, 1) := by decide +kernel
theorem dX5_setKind_22 : decode cX5_setKind 22 = .ok (.imul, 1) := by decide +kernel
theorem dX5_setKind_23 : decode cX5_setKind 23 = .ok (.iadd, 1) := by decide +kernel
theorem dX5_setKind_24 : decode cX5_setKind 24 = .ok (.iconst 3, 1) := by decide +kernel
theorem dX5_setKind_25 : decode cX5_setKind 25 = .ok (.iadd, 1) := by decide +kernel
theorem dX5_setKind_26 : decode cX5_setKind 26 = .ok (.iload_n 2, 1) := by decide +kernel
theorem dX5_setKind_27 : decode cX5_setKind 27 = .ok (.invokevirtual 97, 3) := by decide +kernel
theorem dX5_setKind_30 : decode cX5_setKind 30 = .ok (.goto 5, 3) := by decide +kernel
theorem dX5_setKind_33 : decode cX5_setKind 33 = .ok (.bipush (-101), 2) := by decide +kernel
theorem dX5_setKind_35 : decode cX5_setKind 35 = .ok (.ireturn, 1) := by decide +kernel
set_option maxRecDepth 20000 in
theorem ggX5_append_X5_in : GoodIn wsX5_append wsX5_in := goodIn_r _ [6] (by decide +kernel) (by decide +kernel)
set_option maxRecDepth 20000 in
theorem gX5_append_X5_in : GoodIn wsX5_append (va_wsS RX5 56 yX5_in wsX5_in) := goodIn_app (goodIn_of _ (by decide +kernel)) ggX5_append_X5_in
theorem dX5_append_0 : decode cX5_append 0 = .ok (.iload_n 1, 1) := by decide +kernel
theorem dX5_append_1 : decode cX5_append 1 = .ok (.iconst 1, 1) := by decide +kernel
theorem dX5_append_2 : decode cX5_append 2 = .ok (.sipush 255, 3) := by decide +kernel
theorem dX5_append_5 : decode cX5_append 5 = .ok (.invokestatic 56, 3) := by decide +kernel
theorem dX5_append_8 : decode cX5_append 8 = .ok (.ifCond .ne 6, 3) := by decide +kernel
theorem dX5_append_11 : decode cX5_append 11 = .ok (.bipush (-101), 2) := by decide +kernel
theorem dX5_append_13 : decode cX5_append 13 = .ok (.ireturn, 1) := by decide +kernel
theorem dX5_append_14 : decode cX5_append 14 = .ok (.aload_n 0, 1) := by decide +kernel
theorem dX5_append_15 : decode cX5_append 15 = .ok (.getfield 100, 3) := by decide +kernel
theorem dX5_append_18 : decode cX5_append 18 = .ok (.sipush 160, 3) := by decide +kernel
theorem dX5_append_21 : decode cX5_append 21 = .ok (.if_icmp .ne 6, 3) := by decide +kernel
theorem dX5_append_24 : decode cX5_append 24 = .ok (.bipush (-103), 2) := by decide +kernel
theorem dX5_append_26 : decode cX5_append 26 = .ok (.ireturn, 1) := by decide +kernel
theorem dX5_append_27 : decode cX5_append 27 = .ok (.aload_n 0, 1) := by decide +kernel
theorem dX5_append_28 : decode cX5_append 28 = .ok (.getfield 28, 3) := by decide +kernel
theorem dX5_append_31 : decode cX5_append 31 = .ok (.aload_n 0, 1) := by decide +kernel
theorem dX5_append_32 : decode cX5_append 32 = .ok (.getfield 100, 3) := by decide +kernel
theorem dX5_append_35 : decode cX5_append 35 = .ok (.iload_n 1, 1) := by decide +kernel
theorem dX5_append_36 : decode cX5_append 36 = .ok (.iastore, 1) := by decide +kernel
theorem dX5_append_37 : decode cX5_append 37 = .ok (.aload_n 0, 1) := by decide +kernel
theorem dX5_append_38 : decode cX5_append 38 = .ok (.dup, 1) := by decide +kernel
theorem dX5_append_39 : decode cX5_append 39 = .ok (.getfield 100, 3) := by decide +kernel
theorem dX5_append_42 : decode cX5_append 42 = .ok (.iconst 1, 1) := by decide +kernel
theorem dX5_append_43 : decode cX5_append 43 = .ok (.iadd, 1) := by decide +kernel
theorem dX5_append_44 : decode cX5_append 44 = .ok (.putfield 100, 3) := by decide +kernel
theorem dX5_append_47 : decode cX5_append 47 = .ok (.aload_n 0, 1) := by decide +kernel
theorem dX5_append_48 : decode cX5_append 48 = .ok (.getfield 100, 3) := by decide +kernel
theorem dX5_append_51 : decode cX5_append 51 = .ok (.ireturn, 1) := by decide +kernel
theorem dX5_clearText_0 : decode cX5_clearText 0 = .ok (.aload_n 0, 1) := by decide +kernel
theorem dX5_clearText_1 : decode cX5_clearText 1 = .ok (.getfield 100, 3) := by decide +kernel
theorem dX5_clearText_4 : decode cX5_clearText 4 = .ok (.istore_n 1, 1) := by decide +kernel
theorem dX5_clearText_5 : decode cX5_clearText 5 = .ok (.aload_n 0, 1) := by decide +kernel
theorem dX5_clearText_6 : decode cX5_clearText 6 = .ok (.iconst 0, 1) := by decide +kernel
theorem dX5_clearText_7 : decode cX5_clearText 7 = .ok (.putfield 100, 3) := by decide +kernel
theorem dX5_clearText_10 : decode cX5_clearText 10 = .ok (.iload_n 1, 1) := by decide +kernel
theorem dX5_clearText_11 : decode cX5_clearText 11 = .ok (.ireturn, 1) := by decide +kernel
theorem dX5_here_0 : decode cX5_here 0 = .ok (.aload_n 0, 1) := by decide +kernel
theorem dX5_here_1 : decode cX5_here 1 = .ok (.getfield 103, 3) := by decide +kernel
theorem dX5_here_4 : decode cX5_here 4 = .ok (.aload_n 0, 1) := by decide +kernel
theorem dX5_here_5 : decode cX5_here 5 = .ok (.getfield 100, 3) := by decide +kernel
theorem dX5_here_8 : decode cX5_here 8 = .ok (.if_icmp .ge 15, 3) := by decide +kernel
theorem dX5_here_11 : decode cX5_here 11 = .ok (.aload_n 0, 1) := by decide +kernel
theorem dX5_here_12 : decode cX5_here 12 = .ok (.getfield 28, 3) := by decide +kernel
theorem dX5_here_15 : decode cX5_here 15 = .ok (.aload_n 0, 1) := by decide +kernel
theorem dX5_here_16 : decode cX5_here 16 = .ok (.getfield 103, 3) := by decide +kernel
theorem dX5_here_19 : decode cX5_here 19 = .ok (.iaload, 1) := by decide +kernel
theorem dX5_here_20 : decode cX5_here 20 = .ok (.goto 4, 3) := by decide +kernel
theorem dX5_here_23 : decode cX5_here 23 = .ok (.iconst 0, 1) := by decide +kernel
theorem dX5_here_24 : decode cX5_here 24 = .ok (.ireturn, 1) := by decide +kernel
set_option maxRecDepth 20000 in
theorem ggX5_skip_X5_here : GoodIn wsX5_skip wsX5_here := goodIn_r _ [6, 1, 7, 8, 9, 10, 11, 12, 13, 14, 15, 16, 17, 18, 19, 20, 21, 22, 23, 24] (by decide +kernel) (by decide +kernel)
set_option maxRecDepth 20000 in
theorem gX5_skip_X5_here : GoodIn wsX5_skip (wsV RX5 106 RX5 yX5_here wsX5_here) := goodIn_app (goodIn_of _ (by decide +kernel)) ggX5_skip_X5_here
theorem dX5_skip_0 : decode cX5_skip 0 = .ok (.aload_n 0, 1) := by decide +kernel
theorem dX5_skip_1 : decode cX5_skip 1 = .ok (.invokevirtual 106, 3) := by decide +kernel
theorem dX5_skip_4 : decode cX5_skip 4 = .ok (.bipush 32, 2) := by decide +kernel
theorem dX5_skip_6 : decode cX5_skip 6 = .ok (.if_icmp .ne 16, 3) := by decide +kernel
theorem dX5_skip_9 : decode cX5_skip 9 = .ok (.aload_n 0, 1) := by decide +kernel
theorem dX5_skip_10 : decode cX5_skip 10 = .ok (.dup, 1) := by decide +kernel
theorem dX5_skip_11 : decode cX5_skip 11 = .ok (.getfield 103, 3) := by decide +kernel
theorem dX5_skip_14 : decode cX5_skip 14 = .ok (.iconst 1, 1) := by decide +kernel
theorem dX5_skip_15 : decode cX5_skip 15 = .ok (.iadd, 1) := by decide +kernel
theorem dX5_skip_16 : decode cX5_skip 16 = .ok (.putfield 103, 3) := by decide +kernel
theorem dX5_skip_19 : decode cX5_skip 19 = .ok (.goto (-19), 3) := by decide +kernel
theorem dX5_skip_22 : decode cX5_skip 22 = .ok (.return_, 1) := by decide +kernel
set_option maxRecDepth 20000 in
theorem ggX5_isColor_X5_here : GoodIn wsX5_isColor wsX5_here := goodIn_r _ [5, 6, 7, 8, 12, 13, 14, 15, 16, 17, 18, 19, 20, 21, 22, 23, 24, 25, 26, 27] (by decide +kernel) (by decide +kernel)
set_option maxRecDepth 20000 in
theorem gX5_isColor_X5_here : GoodIn wsX5_isColor (wsV RX5 106 RX5 yX5_here wsX5_here) := goodIn_app (goodIn_of _ (by decide +kernel)) ggX5_isColor_X5_here
set_option maxRecDepth 20000 in
theorem ggX5_isColor_X5_in : GoodIn wsX5_isColor wsX5_in := goodIn_r _ [11] (by decide +kernel) (by decide +kernel)
set_option maxRecDepth 20000 in
theorem gX5_isColor_X5_in : GoodIn wsX5_isColor (va_wsS RX5 56 yX5_in wsX5_in) := goodIn_app (goodIn_of _ (by decide +kernel)) ggX5_isColor_X5_in
theorem dX5_isColor_0 : decode cX5_isColor 0 = .ok (.aload_n 0, 1) := by decide +kernel
theorem dX5_isColor_1 : decode cX5_isColor 1 = .ok (.invokevirtual 106, 3) := by decide +kernel
theorem dX5_isColor_4 : decode cX5_isColor 4 = .ok (.bipush 48, 2) := by decide +kernel
theorem dX5_isColor_6 : decode cX5_isColor 6 = .ok (.bipush 55, 2) := by decide +kernel
theorem dX5_isColor_8 : decode cX5_isColor 8 = .ok (.invokestatic 56, 3) := by decide +kernel
theorem dX5_isColor_11 : decode cX5_isColor 11 = .ok (.ireturn, 1) := by decide +kernel
set_option maxRecDepth 20000 in
theorem ggX5_takeColor_X5_here : GoodIn wsX5_takeColor wsX5_here := goodIn_r _ [9, 4, 10, 11, 12, 13, 14, 15, 16, 17, 18, 19, 20, 21, 22, 23, 24, 25, 26, 27] (by decide +kernel) (by decide +kernel)
set_option maxRecDepth 20000 in
theorem gX5_takeColor_X5_here : GoodIn wsX5_takeColor (wsV RX5 106 RX5 yX5_here wsX5_here) := goodIn_app (goodIn_of _ (by decide +kernel)) ggX5_takeColor_X5_here
theorem dX5_takeColor_0 : decode cX5_takeColor 0 = .ok (.iconst 0, 1) := by decide +kernel
theorem dX5_takeColor_1 : decode cX5_takeColor 1 = .ok (.istore_n 2, 1) := by decide +kernel
theorem dX5_takeColor_2 : decode cX5_takeColor 2 = .ok (.iload_n 2, 1) := by decide +kernel
theorem dX5_takeColor_3 : decode cX5_takeColor 3 = .ok (.iload_n 1, 1) := by decide +kernel
theorem dX5_takeColor_4 : decode cX5_takeColor 4 = .ok (.if_icmp .ge 58, 3) := by decide +kernel
theorem dX5_takeColor_7 : decode cX5_takeColor 7 = .ok (.aload_n 0, 1) := by decide +kernel
theorem dX5_takeColor_8 : decode cX5_takeColor 8 = .ok (.getfield 31, 3) := by decide +kernel
theorem dX5_takeColor_11 : decode cX5_takeColor 11 = .ok (.iconst 2, 1) := by decide +kernel
theorem dX5_takeColor_12 : decode cX5_takeColor 12 = .ok (.aload_n 0, 1) := by decide +kernel
theorem dX5_takeColor_13 : decode cX5_takeColor 13 = .ok (.getfield 110, 3) := by decide +kernel
theorem dX5_takeColor_16 : decode cX5_takeColor 16 = .ok (.imul, 1) := by decide +kernel
theorem dX5_takeColor_17 : decode cX5_takeColor 17 = .ok (.aload_n 0, 1) := by decide +kernel
theorem dX5_takeColor_18 : decode cX5_takeColor 18 = .ok (.getfield 113, 3) := by decide +kernel
theorem dX5_takeColor_21 : decode cX5_takeColor 21 = .ok (.bipush 6, 2) := by decide +kernel
theorem dX5_takeColor_23 : decode cX5_takeColor 23 = .ok (.idiv, 1) := by decide +kernel
theorem dX5_takeColor_24 : decode cX5_takeColor 24 = .ok (.iadd, 1) := by decide +kernel
theorem dX5_takeColor_25 : decode cX5_takeColor 25 = .ok (.dup2, 1) := by decide +kernel
theorem dX5_takeColor_26 : decode cX5_takeColor 26 = .ok (.iaload, 1) := by decide +kernel
theorem dX5_takeColor_27 : decode cX5_takeColor 27 = .ok (.aload_n 0, 1) := by decide +kernel
theorem dX5_takeColor_28 : decode cX5_takeColor 28 = .ok (.invokevirtual 106, 3) := by decide +kernel
theorem dX5_takeColor_31 : decode cX5_takeColor 31 = .ok (.bipush 48, 2) := by decide +kernel
theorem dX5_takeColor_33 : decode cX5_takeColor 33 = .ok (.isub, 1) := by decide +kernel
theorem dX5_takeColor_34 : decode cX5_takeColor 34 = .ok (.iconst 3, 1) := by decide +kernel
theorem dX5_takeColor_35 : decode cX5_takeColor 35 = .ok (.aload_n 0, 1) := by decide +kernel
theorem dX5_takeColor_36 : decode cX5_takeColor 36 = .ok (.getfield 113, 3) := by decide +kernel
theorem dX5_takeColor_39 : decode cX5_takeColor 39 = .ok (.bipush 6, 2) := by decide +kernel
theorem dX5_takeColor_41 : decode cX5_takeColor 41 = .ok (.irem, 1) := by decide +kernel
theorem dX5_takeColor_42 : decode cX5_takeColor 42 = .ok (.imul, 1) := by decide +kernel
theorem dX5_takeColor_43 : decode cX5_takeColor 43 = .ok (.ishl, 1) := by decide +kernel
theorem dX5_takeColor_44 : decode cX5_takeColor 44 = .ok (.ior, 1) := by decide +kernel
theorem dX5_takeColor_45 : decode cX5_takeColor 45 = .ok (.iastore, 1) := by decide +kernel
theorem dX5_takeColor_46 : decode cX5_takeColor 46 = .ok (.aload_n 0, 1) := by decide +kernel
theorem dX5_takeColor_47 : decode cX5_takeColor 47 = .ok (.dup, 1) := by decide +kernel
theorem dX5_takeColor_48 : decode cX5_takeColor 48 = .ok (.getfield 113, 3) := by decide +kernel
theorem dX5_takeColor_51 : decode cX5_takeColor 51 = .ok (.iconst 1, 1) := by decide +kernel
theorem dX5_takeColor_52 : decode cX5_takeColor 52 = .ok (.iadd, 1) := by decide +kernel
theorem dX5_takeColor_53 : decode cX5_takeColor 53 = .ok (.putfield 113, 3) := by decide +kernel
theorem dX5_takeColor_56 : decode cX5_takeColor 56 = .ok (.iinc 2 1, 3) := by decide +kernel
theorem dX5_takeColor_59 : decode cX5_takeColor 59 = .ok (.goto (-57), 3) := by decide +kernel
theorem dX5_takeColor_62 : decode cX5_takeColor 62 = .ok (.aload_n 0, 1) := by decide +kernel
theorem dX5_takeColor_63 : decode cX5_takeColor 63 = .ok (.dup, 1) := by decide +kernel
theorem dX5_takeColor_64 : decode cX5_takeColor 64 = .ok (.getfield 103, 3) := by decide +kernel
theorem dX5_takeColor_67 : decode cX5_takeColor 67 = .ok (.iconst 1, 1) := by decide +kernel
theorem dX5_takeColor_68 : decode cX5_takeColor 68 = .ok (.iadd, 1) := by decide +kernel
theorem dX5_takeColor_69 : decode cX5_takeColor 69 = .ok (.putfield 103, 3) := by decide +kernel
theorem dX5_takeColor_72 : decode cX5_takeColor 72 = .ok (.return_, 1) := by decide +kernel
set_option maxRecDepth 20000 in
theorem ggX5_readNumber_X5_skip : GoodIn wsX5_readNumber wsX5_skip := goodIn_r _ [8, 1, 9, 10, 11, 7, 12, 13, 2, 21, 22, 23, 24, 25, 26, 27, 28, 29, 30, 31, 32, 33, 34, 35, 36] (by decide +kernel) (by decide +kernel)
set_option maxRecDepth 20000 in
theorem gX5_readNumber_X5_skip : GoodIn wsX5_readNumber (wsV RX5 116 RX5 yX5_skip wsX5_skip) := goodIn_app (goodIn_of _ (by decide +kernel)) ggX5_readNumber_X5_skip
set_option maxRecDepth 20000 in
theorem ggX5_readNumber_X5_here : GoodIn wsX5_readNumber wsX5_here := goodIn_r _ [12, 1, 13, 2, 21, 22, 23, 24, 25, 26, 27, 28, 29, 30, 31, 32, 33, 34, 35, 36] (by decide +kernel) (by decide +kernel)
set_option maxRecDepth 20000 in
theorem gX5_readNumber_X5_here : GoodIn wsX5_readNumber (wsV RX5 106 RX5 yX5_here wsX5_here) := goodIn_app (goodIn_of _ (by decide +kernel)) ggX5_readNumber_X5_here
set_option maxRecDepth 20000 in
theorem ggX5_readNumber_X5_in : GoodIn wsX5_readNumber wsX5_in := goodIn_r _ [16] (by decide +kernel) (by decide +kernel)
set_option maxRecDepth 20000 in
theorem gX5_readNumber_X5_in : GoodIn wsX5_readNumber (va_wsS RX5 56 yX5_in wsX5_in) := goodIn_app (goodIn_of _ (by decide +kernel)) ggX5_readNumber_X5_in
set_option maxRecDepth 20000 in
theorem ggX5_readNumber_X5_isColor : GoodIn wsX5_readNumber wsX5_isColor := goodIn_r _ [20, 9, 10, 11, 7, 12, 1, 13, 2, 14, 15, 16, 21, 22, 23, 24, 25, 26, 27, 28, 29, 30, 31, 32, 33, 34, 35, 36] (by decide +kernel) (by decide +kernel)
set_option maxRecDepth 20000 in
theorem gX5_readNumber_X5_isColor : GoodIn wsX5_readNumber (wsV RX5 119 RX5 yX5_isColor wsX5_isColor) := goodIn_app (goodIn_of _ (by decide +kernel)) ggX5_readNumber_X5_isColor
theorem dX5_readNumber_0 : decode cX5_readNumber 0 = .ok (.aload_n 0, 1) := by decide +kernel
theorem dX5_readNumber_1 : decode cX5_readNumber 1 = .ok (.dup, 1) := by decide +kernel
theorem dX5_readNumber_2 : decode cX5_readNumber 2 = .ok (.getfield 103, 3) := by decide +kernel
theorem dX5_readNumber_5 : decode cX5_readNumber 5 = .ok (.iconst 1, 1) := by decide +kernel
theorem dX5_readNumber_6 : decode cX5_readNumber 6 = .ok (.iadd, 1) := by decide +kernel
theorem dX5_readNumber_7 : decode cX5_readNumber 7 = .ok (.putfield 103, 3) := by decide +kernel
theorem dX5_readNumber_10 : decode cX5_readNumber 10 = .ok (.aload_n 0, 1) := by decide +kernel
theorem dX5_readNumber_11 : decode cX5_readNumber 11 = .ok (.invokevirtual 116, 3) := by decide +kernel
theorem dX5_readNumber_14 : decode cX5_readNumber 14 = .ok (.aload_n 0, 1) := by decide +kernel
theorem dX5_readNumber_15 : decode cX5_readNumber 15 = .ok (.getfield 103, 3) := by decide +kernel
theorem dX5_readNumber_18 : decode cX5_readNumber 18 = .ok (.istore_n 1, 1) := by decide +kernel
theorem dX5_readNumber_19 : decode cX5_readNumber 19 = .ok (.iconst 0, 1) := by decide +kernel
theorem dX5_readNumber_20 : decode cX5_readNumber 20 = .ok (.istore_n 2, 1) := by decide +kernel
theorem dX5_readNumber_21 : decode cX5_readNumber 21 = .ok (.aload_n 0, 1) := by decide +kernel
theorem dX5_readNumber_22 : decode cX5_readNumber 22 = .ok (.invokevirtual 106, 3) := by decide +kernel
theorem dX5_readNumber_25 : decode cX5_readNumber 25 = .ok (.bipush 48, 2) := by decide +kernel
theorem dX5_readNumber_27 : decode cX5_readNumber 27 = .ok (.bipush 57, 2) := by decide +kernel
theorem dX5_readNumber_29 : decode cX5_readNumber 29 = .ok (.invokestatic 56, 3) := by decide +kernel
theorem dX5_readNumber_32 : decode cX5_readNumber 32 = .ok (.ifCond .eq 39, 3) := by decide +kernel
theorem dX5_readNumber_35 : decode cX5_readNumber 35 = .ok (.iload_n 2, 1) := by decide +kernel
theorem dX5_readNumber_36 : decode cX5_readNumber 36 = .ok (.bipush 99, 2) := by decide +kernel
theorem dX5_readNumber_38 : decode cX5_readNumber 38 = .ok (.if_icmp .le 7, 3) := by decide +kernel
theorem dX5_readNumber_41 : decode cX5_readNumber 41 = .ok (.iload_n 2, 1) := by decide +kernel
theorem dX5_readNumber_42 : decode cX5_readNumber 42 = .ok (.goto 15, 3) := by decide +kernel
theorem dX5_readNumber_45 : decode cX5_readNumber 45 = .ok (.bipush 10, 2) := by decide +kernel
theorem dX5_readNumber_47 : decode cX5_readNumber 47 = .ok (.iload_n 2, 1) := by decide +kernel
theorem dX5_readNumber_48 : decode cX5_readNumber 48 = .ok (.imul, 1) := by decide +kernel
theorem dX5_readNumber_49 : decode cX5_readNumber 49 = .ok (.aload_n 0, 1) := by decide +kernel
theorem dX5_readNumber_50 : decode cX5_readNumber 50 = .ok (.invokevirtual 106, 3) := by decide +kernel
theorem dX5_readNumber_53 : decode cX5_readNumber 53 = .ok (.iadd, 1) := by decide +kernel
theorem dX5_readNumber_54 : decode cX5_readNumber 54 = .ok (.bipush 48, 2) := by decide +kernel
theorem dX5_readNumber_56 : decode cX5_readNumber 56 = .ok (.isub, 1) := by decide +kernel
theorem dX5_readNumber_57 : decode cX5_readNumber 57 = .ok (.istore_n 2, 1) := by decide +kernel
theorem dX5_readNumber_58 : decode cX5_readNumber 58 = .ok (.aload_n 0, 1) := by decide +kernel
theorem dX5_readNumber_59 : decode cX5_readNumber 59 = .ok (.dup, 1) := by decide +kernel
theorem dX5_readNumber_60 : decode cX5_readNumber 60 = .ok (.getfield 103, 3) := by decide +kernel
theorem dX5_readNumber_63 : decode cX5_readNumber 63 = .ok (.iconst 1, 1) := by decide +kernel
theorem dX5_readNumber_64 : decode cX5_readNumber 64 = .ok (.iadd, 1) := by decide +kernel
theorem dX5_readNumber_65 : decode cX5_readNumber 65 = .ok (.putfield 103, 3) := by decide +kernel
theorem dX5_readNumber_68 : decode cX5_readNumber 68 = .ok (.goto (-47), 3) := by decide +kernel
theorem dX5_readNumber_71 : decode cX5_readNumber 71 = .ok (.aload_n 0, 1) := by decide +kernel
theorem dX5_readNumber_72 : decode cX5_readNumber 72 = .ok (.getfield 103, 3) := by decide +kernel
theorem dX5_readNumber_75 : decode cX5_readNumber 75 = .ok (.iload_n 1, 1) := by decide +kernel
theorem dX5_readNumber_76 : decode cX5_readNumber 76 = .ok (.if_icmp .ne 5, 3) := by decide +kernel
theorem dX5_readNumber_79 : decode cX5_readNumber 79 = .ok (.iconst 0, 1) := by decide +kernel
theorem dX5_readNumber_80 : decode cX5_readNumber 80 = .ok (.ireturn, 1) := by decide +kernel
theorem dX5_readNumber_81 : decode cX5_readNumber 81 = .ok (.aload_n 0, 1) := by decide +kernel
theorem dX5_readNumber_82 : decode cX5_readNumber 82 = .ok (.getfield 28, 3) := by decide +kernel
theorem dX5_readNumber_85 : decode cX5_readNumber 85 = .ok (.iload_n 1, 1) := by decide +kernel
theorem dX5_readNumber_86 : decode cX5_readNumber 86 = .ok (.iaload, 1) := by decide +kernel
theorem dX5_readNumber_87 : decode cX5_readNumber 87 = .ok (.bipush 48, 2) := by decide +kernel
theorem dX5_readNumber_89 : decode cX5_readNumber 89 = .ok (.if_icmp .eq 24, 3) := by decide +kernel
theorem dX5_readNumber_92 : decode cX5_readNumber 92 = .ok (.iload_n 2, 1) := by decide +kernel
theorem dX5_readNumber_93 : decode cX5_readNumber 93 = .ok (.iconst 1, 1) := by decide +kernel
theorem dX5_readNumber_94 : decode cX5_readNumber 94 = .ok (.bipush 12, 2) := by decide +kernel
theorem dX5_readNumber_96 : decode cX5_readNumber 96 = .ok (.invokestatic 56, 3) := by decide +kernel
theorem dX5_readNumber_99 : decode cX5_readNumber 99 = .ok (.ifCond .eq 14, 3) := by decide +kernel
theorem dX5_readNumber_102 : decode cX5_readNumber 102 = .ok (.aload_n 0, 1) := by decide +kernel
theorem dX5_readNumber_103 : decode cX5_readNumber 103 = .ok (.getfield 113, 3) := by decide +kernel
theorem dX5_readNumber_106 : decode cX5_readNumber 106 = .ok (.iload_n 2, 1) := by decide +kernel
theorem dX5_readNumber_107 : decode cX5_readNumber 107 = .ok (.iadd, 1) := by decide +kernel
theorem dX5_readNumber_108 : decode cX5_readNumber 108 = .ok (.bipush 12, 2) := by decide +kernel
theorem dX5_readNumber_110 : decode cX5_readNumber 110 = .ok (.if_icmp .le 10, 3) := by decide +kernel
theorem dX5_readNumber_113 : decode cX5_readNumber 113 = .ok (.aload_n 0, 1) := by decide +kernel
theorem dX5_readNumber_114 : decode cX5_readNumber 114 = .ok (.iload_n 1, 1) := by decide +kernel
theorem dX5_readNumber_115 : decode cX5_readNumber 115 = .ok (.putfield 103, 3) := by decide +kernel
theorem dX5_readNumber_118 : decode cX5_readNumber 118 = .ok (.iconst 0, 1) := by decide +kernel
theorem dX5_readNumber_119 : decode cX5_readNumber 119 = .ok (.ireturn, 1) := by decide +kernel
theorem dX5_readNumber_120 : decode cX5_readNumber 120 = .ok (.aload_n 0, 1) := by decide +kernel
theorem dX5_readNumber_121 : decode cX5_readNumber 121 = .ok (.invokevirtual 116, 3) := by decide +kernel
theorem dX5_readNumber_124 : decode cX5_readNumber 124 = .ok (.aload_n 0, 1) := by decide +kernel
theorem dX5_readNumber_125 : decode cX5_readNumber 125 = .ok (.invokevirtual 106, 3) := by decide +kernel
theorem dX5_readNumber_128 : decode cX5_readNumber 128 = .ok (.bipush 41, 2) := by decide +kernel
theorem dX5_readNumber_130 : decode cX5_readNumber 130 = .ok (.if_icmp .eq 5, 3) := by decide +kernel
theorem dX5_readNumber_133 : decode cX5_readNumber 133 = .ok (.iconst 0, 1) := by decide +kernel
theorem dX5_readNumber_134 : decode cX5_readNumber 134 = .ok (.ireturn, 1) := by decide +kernel
theorem dX5_readNumber_135 : decode cX5_readNumber 135 = .ok (.aload_n 0, 1) := by decide +kernel
theorem dX5_readNumber_136 : decode cX5_readNumber 136 = .ok (.dup, 1) := by decide +kernel
theorem dX5_readNumber_137 : decode cX5_readNumber 137 = .ok (.getfield 103, 3) := by decide +kernel
theorem dX5_readNumber_140 : decode cX5_readNumber 140 = .ok (.iconst 1, 1) := by decide +kernel
theorem dX5_readNumber_141 : decode cX5_readNumber 141 = .ok (.iadd, 1) := by decide +kernel
theorem dX5_readNumber_142 : decode cX5_readNumber 142 = .ok (.putfield 103, 3) := by decide +kernel
theorem dX5_readNumber_145 : decode cX5_readNumber 145 = .ok (.aload_n 0, 1) := by decide +kernel
theorem dX5_readNumber_146 : decode cX5_readNumber 146 = .ok (.invokevirtual 116, 3) := by decide +kernel
theorem dX5_readNumber_149 : decode cX5_readNumber 149 = .ok (.aload_n 0, 1) := by decide +kernel
theorem dX5_readNumber_150 : decode cX5_readNumber 150 = .ok (.invokevirtual 119, 3) := by decide +kernel
theorem dX5_readNumber_153 : decode cX5_readNumber 153 = .ok (.ifCond .eq 7, 3) := by decide +kernel
theorem dX5_readNumber_156 : decode cX5_readNumber 156 = .ok (.iload_n 2, 1) := by decide +kernel
theorem dX5_readNumber_157 : decode cX5_readNumber 157 = .ok (.goto 4, 3) := by decide +kernel
theorem dX5_readNumber_160 : decode cX5_readNumber 160 = .ok (.iconst 0, 1) := by decide +kernel
theorem dX5_readNumber_161 : decode cX5_readNumber 161 = .ok (.ireturn, 1) := by decide +kernel
set_option maxRecDepth 20000 in
theorem ggX5_readPart_X5_here : GoodIn wsX5_readPart wsX5_here := goodIn_r _ [8, 2, 9, 10, 31, 32, 33, 34, 35, 36, 37, 38, 39, 40, 41, 42, 43, 44, 45, 46] (by decide +kernel) (by decide +kernel)
set_option maxRecDepth 20000 in
theorem gX5_readPart_X5_here : GoodIn wsX5_readPart (wsV RX5 106 RX5 yX5_here wsX5_here) := goodIn_app (goodIn_of _ (by decide +kernel)) ggX5_readPart_X5_here
set_option maxRecDepth 20000 in
theorem ggX5_readPart_X5_readNumber : GoodIn wsX5_readPart wsX5_readNumber := goodIn_r _ [14, 2, 10, 3, 15, 16, 17, 7, 18, 4, 5, 6, 8, 9, 19, 20, 21, 22, 23, 24, 25, 31, 32, 33, 34, 35, 36, 37, 38, 39, 40, 41, 42, 43, 44, 45, 46] (by decide +kernel) (by decide +kernel)
set_option maxRecDepth 20000 in
theorem gX5_readPart_X5_readNumber : GoodIn wsX5_readPart (wsV RX5 123 RX5 yX5_readNumber wsX5_readNumber) := goodIn_app (goodIn_of _ (by decide +kernel)) ggX5_readPart_X5_readNumber
set_option maxRecDepth 20000 in
theorem ggX5_readPart_X5_takeColor : GoodIn wsX5_readPart wsX5_takeColor := goodIn_r _ [29, 30, 1, 3, 2, 4, 5, 6, 7, 8, 9, 10, 31, 32, 33, 34, 35, 36, 37, 38, 39, 40, 41, 42, 43, 44, 45, 46] (by decide +kernel) (by decide +kernel)
set_option maxRecDepth 20000 in
theorem gX5_readPart_X5_takeColor : GoodIn wsX5_readPart (wsV RX5 126 RX5 yX5_takeColor wsX5_takeColor) := goodIn_app (goodIn_of _ (by decide +kernel)) ggX5_readPart_X5_takeColor
set_option maxRecDepth 20000 in
theorem ggX5_readPart_X5_isColor : GoodIn wsX5_readPart wsX5_isColor := goodIn_r _ [25, 4, 5, 6, 7, 8, 2, 9, 10, 19, 20, 21, 31, 32, 33, 34, 35, 36, 37, 38, 39, 40, 41, 42, 43, 44, 45, 46] (by decide +kernel) (by decide +kernel)
set_option maxRecDepth 20000 in
theorem gX5_readPart_X5_isColor : GoodIn wsX5_readPart (wsV RX5 119 RX5 yX5_isColor wsX5_isColor) := goodIn_app (goodIn_of _ (by decide +kernel)) ggX5_readPart_X5_isColor
theorem dX5_readPart_0 : decode cX5_readPart 0 = .ok (.aload_n 0, 1) := by decide +kernel
theorem dX5_readPart_1 : decode cX5_readPart 1 = .ok (.invokevirtual 106, 3) := by decide +kernel
theorem dX5_readPart_4 : decode cX5_readPart 4 = .ok (.bipush 59, 2) := by decide +kernel
theorem dX5_readPart_6 : decode cX5_readPart 6 = .ok (.if_icmp .ne 43, 3) := by decide +kernel
theorem dX5_readPart_9 : decode cX5_readPart 9 = .ok (.aload_n 0, 1) := by decide +kernel
theorem dX5_readPart_10 : decode cX5_readPart 10 = .ok (.getfield 110, 3) := by decide +kernel
theorem dX5_readPart_13 : decode cX5_readPart 13 = .ok (.iconst 1, 1) := by decide +kernel
theorem dX5_readPart_14 : decode cX5_readPart 14 = .ok (.iadd, 1) := by decide +kernel
theorem dX5_readPart_15 : decode cX5_readPart 15 = .ok (.bipush 40, 2) := by decide +kernel
theorem dX5_readPart_17 : decode cX5_readPart 17 = .ok (.if_icmp .ne 5, 3) := by decide +kernel
theorem dX5_readPart_20 : decode cX5_readPart 20 = .ok (.iconst 0, 1) := by decide +kernel
theorem dX5_readPart_21 : decode cX5_readPart 21 = .ok (.ireturn, 1) := by decide +kernel
theorem dX5_readPart_22 : decode cX5_readPart 22 = .ok (.aload_n 0, 1) := by decide +kernel
theorem dX5_readPart_23 : decode cX5_readPart 23 = .ok (.dup, 1) := by decide +kernel
theorem dX5_readPart_24 : decode cX5_readPart 24 = .ok (.getfield 103, 3) := by decide +kernel
theorem dX5_readPart_27 : decode cX5_readPart 27 = .ok (.iconst 1, 1) := by decide +kernel
theorem dX5_readPart_28 : decode cX5_readPart 28 = .ok (.iadd, 1) := by decide +kernel
theorem dX5_readPart_29 : decode cX5_readPart 29 = .ok (.putfield 103, 3) := by decide +kernel
theorem dX5_readPart_32 : decode cX5_readPart 32 = .ok (.aload_n 0, 1) := by decide +kernel
theorem dX5_readPart_33 : decode cX5_readPart 33 = .ok (.dup, 1) := by decide +kernel
theorem dX5_readPart_34 : decode cX5_readPart 34 = .ok (.getfield 110, 3) := by decide +kernel
theorem dX5_readPart_37 : decode cX5_readPart 37 = .ok (.iconst 1, 1) := by decide +kernel
theorem dX5_readPart_38 : decode cX5_readPart 38 = .ok (.iadd, 1) := by decide +kernel
theorem dX5_readPart_39 : decode cX5_readPart 39 = .ok (.putfield 110, 3) := by decide +kernel
theorem dX5_readPart_42 : decode cX5_readPart 42 = .ok (.aload_n 0, 1) := by decide +kernel
theorem dX5_readPart_43 : decode cX5_readPart 43 = .ok (.iconst 0, 1) := by decide +kernel
theorem dX5_readPart_44 : decode cX5_readPart 44 = .ok (.putfield 113, 3) := by decide +kernel
theorem dX5_readPart_47 : decode cX5_readPart 47 = .ok (.iconst 1, 1) := by decide +kernel
theorem dX5_readPart_48 : decode cX5_readPart 48 = .ok (.ireturn, 1) := by decide +kernel
theorem dX5_readPart_49 : decode cX5_readPart 49 = .ok (.aload_n 0, 1) := by decide +kernel
theorem dX5_readPart_50 : decode cX5_readPart 50 = .ok (.invokevirtual 106, 3) := by decide +kernel
theorem dX5_readPart_53 : decode cX5_readPart 53 = .ok (.bipush 40, 2) := by decide +kernel
theorem dX5_readPart_55 : decode cX5_readPart 55 = .ok (.if_icmp .ne 27, 3) := by decide +kernel
theorem dX5_readPart_58 : decode cX5_readPart 58 = .ok (.aload_n 0, 1) := by decide +kernel
theorem dX5_readPart_59 : decode cX5_readPart 59 = .ok (.invokevirtual 123, 3) := by decide +kernel
theorem dX5_readPart_62 : decode cX5_readPart 62 = .ok (.istore_n 1, 1) := by decide +kernel
theorem dX5_readPart_63 : decode cX5_readPart 63 = .ok (.iload_n 1, 1) := by decide +kernel
theorem dX5_readPart_64 : decode cX5_readPart 64 = .ok (.ifCond .le 8, 3) := by decide +kernel
theorem dX5_readPart_67 : decode cX5_readPart 67 = .ok (.aload_n 0, 1) := by decide +kernel
theorem dX5_readPart_68 : decode cX5_readPart 68 = .ok (.iload_n 1, 1) := by decide +kernel
theorem dX5_readPart_69 : decode cX5_readPart 69 = .ok (.invokevirtual 126, 3) := by decide +kernel
theorem dX5_readPart_72 : decode cX5_readPart 72 = .ok (.iload_n 1, 1) := by decide +kernel
theorem dX5_readPart_73 : decode cX5_readPart 73 = .ok (.ifCond .le 7, 3) := by decide +kernel
theorem dX5_readPart_76 : decode cX5_readPart 76 = .ok (.iconst 1, 1) := by decide +kernel
theorem dX5_readPart_77 : decode cX5_readPart 77 = .ok (.goto 4, 3) := by decide +kernel
theorem dX5_readPart_80 : decode cX5_readPart 80 = .ok (.iconst 0, 1) := by decide +kernel
theorem dX5_readPart_81 : decode cX5_readPart 81 = .ok (.ireturn, 1) := by decide +kernel
theorem dX5_readPart_82 : decode cX5_readPart 82 = .ok (.aload_n 0, 1) := by decide +kernel
theorem dX5_readPart_83 : decode cX5_readPart 83 = .ok (.invokevirtual 119, 3) := by decide +kernel
theorem dX5_readPart_86 : decode cX5_readPart 86 = .ok (.ifCond .eq 16, 3) := by decide +kernel
theorem dX5_readPart_89 : decode cX5_readPart 89 = .ok (.aload_n 0, 1) := by decide +kernel
theorem dX5_readPart_90 : decode cX5_readPart 90 = .ok (.getfield 113, 3) := by decide +kernel
theorem dX5_readPart_93 : decode cX5_readPart 93 = .ok (.bipush 12, 2) := by decide +kernel
theorem dX5_readPart_95 : decode cX5_readPart 95 = .ok (.if_icmp .ge 7, 3) := by decide +kernel
theorem dX5_readPart_98 : decode cX5_readPart 98 = .ok (.iconst 1, 1) := by decide +kernel
theorem dX5_readPart_99 : decode cX5_readPart 99 = .ok (.goto 4, 3) := by decide +kernel
theorem dX5_readPart_102 : decode cX5_readPart 102 = .ok (.iconst 0, 1) := by decide +kernel
theorem dX5_readPart_103 : decode cX5_readPart 103 = .ok (.istore_n 1, 1) := by decide +kernel
theorem dX5_readPart_104 : decode cX5_readPart 104 = .ok (.iload_n 1, 1) := by decide +kernel
theorem dX5_readPart_105 : decode cX5_readPart 105 = .ok (.ifCond .eq 8, 3) := by decide +kernel
theorem dX5_readPart_108 : decode cX5_readPart 108 = .ok (.aload_n 0, 1) := by decide +kernel
theorem dX5_readPart_109 : decode cX5_readPart 109 = .ok (.iconst 1, 1) := by decide +kernel
theorem dX5_readPart_110 : decode cX5_readPart 110 = .ok (.invokevirtual 126, 3) := by decide +kernel
theorem dX5_readPart_113 : decode cX5_readPart 113 = .ok (.iload_n 1, 1) := by decide +kernel
theorem dX5_readPart_114 : decode cX5_readPart 114 = .ok (.ireturn, 1) := by decide +kernel
set_option maxRecDepth 20000 in
theorem ggX5_readText_X5_skip : GoodIn wsX5_readText wsX5_skip := goodIn_r _ [10, 1, 11, 12, 13, 9, 14, 5, 15, 35, 36, 37, 38, 39, 40, 41, 42, 43, 44, 45, 46, 47, 48, 49, 50] (by decide +kernel) (by decide +kernel)
set_option maxRecDepth 20000 in
theorem gX5_readText_X5_skip : GoodIn wsX5_readText (wsV RX5 116 RX5 yX5_skip wsX5_skip) := goodIn_app (goodIn_of _ (by decide +kernel)) ggX5_readText_X5_skip
set_option maxRecDepth 20000 in
theorem ggX5_readText_X5_readPart : GoodIn wsX5_readText wsX5_readPart := goodIn_r _ [19, 2, 1, 3, 11, 12, 13, 9, 14, 5, 15, 20, 21, 22, 23, 6, 7, 8, 10, 24, 25, 26, 27, 28, 29, 30, 31, 32, 33, 34, 4, 35, 36, 37, 38, 39, 40, 41, 42, 43, 44, 45, 46, 47, 48, 49, 50] (by decide +kernel) (by decide +kernel)
set_option maxRecDepth 20000 in
theorem gX5_readText_X5_readPart : GoodIn wsX5_readText (wsV RX5 130 RX5 yX5_readPart wsX5_readPart) := goodIn_app (goodIn_of _ (by decide +kernel)) ggX5_readText_X5_readPart
theorem dX5_readText_0 : decode cX5_readText 0 = .ok (.aload_n 0, 1) := by decide +kernel
theorem dX5_readText_1 : decode cX5_readText 1 = .ok (.iconst 0, 1) := by decide +kernel
theorem dX5_readText_2 : decode cX5_readText 2 = .ok (.putfield 103, 3) := by decide +kernel
theorem dX5_readText_5 : decode cX5_readText 5 = .ok (.aload_n 0, 1) := by decide +kernel
theorem dX5_readText_6 : decode cX5_readText 6 = .ok (.iconst 0, 1) := by decide +kernel
theorem dX5_readText_7 : decode cX5_readText 7 = .ok (.putfield 110, 3) := by decide +kernel
theorem dX5_readText_10 : decode cX5_readText 10 = .ok (.aload_n 0, 1) := by decide +kernel
theorem dX5_readText_11 : decode cX5_readText 11 = .ok (.iconst 0, 1) := by decide +kernel
theorem dX5_readText_12 : decode cX5_readText 12 = .ok (.putfield 113, 3) := by decide +kernel
theorem dX5_readText_15 : decode cX5_readText 15 = .ok (.iconst 0, 1) := by decide +kernel
theorem dX5_readText_16 : decode cX5_readText 16 = .ok (.istore_n 1, 1) := by decide +kernel
theorem dX5_readText_17 : decode cX5_readText 17 = .ok (.iload_n 1, 1) := by decide +kernel
theorem dX5_readText_18 : decode cX5_readText 18 = .ok (.bipush 80, 2) := by decide +kernel
theorem dX5_readText_20 : decode cX5_readText 20 = .ok (.if_icmp .ge 16, 3) := by decide +kernel
theorem dX5_readText_23 : decode cX5_readText 23 = .ok (.aload_n 0, 1) := by decide +kernel
theorem dX5_readText_24 : decode cX5_readText 24 = .ok (.getfield 31, 3) := by decide +kernel
theorem dX5_readText_27 : decode cX5_readText 27 = .ok (.iload_n 1, 1) := by decide +kernel
theorem dX5_readText_28 : decode cX5_readText 28 = .ok (.iconst 0, 1) := by decide +kernel
theorem dX5_readText_29 : decode cX5_readText 29 = .ok (.iastore, 1) := by decide +kernel
theorem dX5_readText_30 : decode cX5_readText 30 = .ok (.iinc 1 1, 3) := by decide +kernel
theorem dX5_readText_33 : decode cX5_readText 33 = .ok (.goto (-16), 3) := by decide +kernel
theorem dX5_readText_36 : decode cX5_readText 36 = .ok (.aload_n 0, 1) := by decide +kernel
theorem dX5_readText_37 : decode cX5_readText 37 = .ok (.invokevirtual 116, 3) := by decide +kernel
theorem dX5_readText_40 : decode cX5_readText 40 = .ok (.iconst 1, 1) := by decide +kernel
theorem dX5_readText_41 : decode cX5_readText 41 = .ok (.istore_n 1, 1) := by decide +kernel
theorem dX5_readText_42 : decode cX5_readText 42 = .ok (.iload_n 1, 1) := by decide +kernel
theorem dX5_readText_43 : decode cX5_readText 43 = .ok (.ifCond .eq 30, 3) := by decide +kernel
theorem dX5_readText_46 : decode cX5_readText 46 = .ok (.aload_n 0, 1) := by decide +kernel
theorem dX5_readText_47 : decode cX5_readText 47 = .ok (.getfield 103, 3) := by decide +kernel
theorem dX5_readText_50 : decode cX5_readText 50 = .ok (.aload_n 0, 1) := by decide +kernel
theorem dX5_readText_51 : decode cX5_readText 51 = .ok (.getfield 100, 3) := by decide +kernel
theorem dX5_readText_54 : decode cX5_readText 54 = .ok (.if_icmp .ge 19, 3) := by decide +kernel
theorem dX5_readText_57 : decode cX5_readText 57 = .ok (.aload_n 0, 1) := by decide +kernel
theorem dX5_readText_58 : decode cX5_readText 58 = .ok (.invokevirtual 130, 3) := by decide +kernel
theorem dX5_readText_61 : decode cX5_readText 61 = .ok (.istore_n 1, 1) := by decide +kernel
theorem dX5_readText_62 : decode cX5_readText 62 = .ok (.iload_n 1, 1) := by decide +kernel
theorem dX5_readText_63 : decode cX5_readText 63 = .ok (.ifCond .eq (-21), 3) := by decide +kernel
theorem dX5_readText_66 : decode cX5_readText 66 = .ok (.aload_n 0, 1) := by decide +kernel
theorem dX5_readText_67 : decode cX5_readText 67 = .ok (.invokevirtual 116, 3) := by decide +kernel
theorem dX5_readText_70 : decode cX5_readText 70 = .ok (.goto (-28), 3) := by decide +kernel
theorem dX5_readText_73 : decode cX5_readText 73 = .ok (.iload_n 1, 1) := by decide +kernel
theorem dX5_readText_74 : decode cX5_readText 74 = .ok (.ireturn, 1) := by decide +kernel
set_option maxRecDepth 20000 in
theorem ggX5_load_X5_isPicture : GoodIn wsX5_load wsX5_isPicture := goodIn_r _ [10, 3, 11, 12, 9, 13, 57, 58, 59, 60, 61, 62, 63, 64, 65, 66, 67, 68, 69, 70, 71, 72] (by decide +kernel) (by decide +kernel)
set_option maxRecDepth 20000 in
theorem gX5_load_X5_isPicture : GoodIn wsX5_load (wsV RX5 86 RX5 yX5_isPicture wsX5_isPicture) := goodIn_app (goodIn_of _ (by decide +kernel)) ggX5_load_X5_isPicture
set_option maxRecDepth 20000 in
theorem ggX5_load_X5_readText : GoodIn wsX5_load wsX5_readText := goodIn_r _ [17, 1, 4, 18, 5, 2, 19, 20, 21, 9, 22, 23, 24, 25, 26, 27, 28, 29, 30, 31, 32, 33, 34, 35, 11, 12, 13, 36, 37, 38, 39, 40, 41, 42, 43, 57, 58, 59, 60, 61, 62, 63, 64, 65, 66, 67, 68, 69, 70, 71, 72] (by decide +kernel) (by decide +kernel)
set_option maxRecDepth 20000 in
theorem gX5_load_X5_readText : GoodIn wsX5_load (wsV RX5 133 RX5 yX5_readText wsX5_readText) := goodIn_app (goodIn_of _ (by decide +kernel)) ggX5_load_X5_readText
set_option maxRecDepth 20000 in
theorem ggX5_load_X5_record : GoodIn wsX5_load wsX5_record := goodIn_r _ [47, 48, 49, 3, 50, 51, 52, 53, 9, 54, 55, 56, 57, 58, 59, 60, 61, 62, 63, 64, 65, 66, 67, 68, 69, 70, 71, 72] (by decide +kernel) (by decide +kernel)
set_option maxRecDepth 20000 in
theorem gX5_load_X5_record : GoodIn wsX5_load (wsV RX5 83 RX5 yX5_record wsX5_record) := goodIn_app (goodIn_of _ (by decide +kernel)) ggX5_load_X5_record
theorem dX5_load_0 : decode cX5_load 0 = .ok (.aload_n 0, 1) := by decide +kernel
theorem dX5_load_1 : decode cX5_load 1 = .ok (.iload_n 1, 1) := by decide +kernel
theorem dX5_load_2 : decode cX5_load 2 = .ok (.invokevirtual 86, 3) := by decide +kernel
theorem dX5_load_5 : decode cX5_load 5 = .ok (.ifCond .ne 6, 3) := by decide +kernel
theorem dX5_load_8 : decode cX5_load 8 = .ok (.bipush (-101), 2) := by decide +kernel
theorem dX5_load_10 : decode cX5_load 10 = .ok (.ireturn, 1) := by decide +kernel
theorem dX5_load_11 : decode cX5_load 11 = .ok (.aload_n 0, 1) := by decide +kernel
theorem dX5_load_12 : decode cX5_load 12 = .ok (.invokevirtual 133, 3) := by decide +kernel
theorem dX5_load_15 : decode cX5_load 15 = .ok (.ifCond .ne 12, 3) := by decide +kernel
theorem dX5_load_18 : decode cX5_load 18 = .ok (.sipush (-1000), 3) := by decide +kernel
theorem dX5_load_21 : decode cX5_load 21 = .ok (.aload_n 0, 1) := by decide +kernel
theorem dX5_load_22 : decode cX5_load 22 = .ok (.getfield 103, 3) := by decide +kernel
theorem dX5_load_25 : decode cX5_load 25 = .ok (.isub, 1) := by decide +kernel
theorem dX5_load_26 : decode cX5_load 26 = .ok (.ireturn, 1) := by decide +kernel
theorem dX5_load_27 : decode cX5_load 27 = .ok (.aload_n 0, 1) := by decide +kernel
theorem dX5_load_28 : decode cX5_load 28 = .ok (.invokevirtual 83, 3) := by decide +kernel
theorem dX5_load_31 : decode cX5_load 31 = .ok (.aload_n 0, 1) := by decide +kernel
theorem dX5_load_32 : decode cX5_load 32 = .ok (.iconst 0, 1) := by decide +kernel
theorem dX5_load_33 : decode cX5_load 33 = .ok (.putfield 100, 3) := by decide +kernel
theorem dX5_load_36 : decode cX5_load 36 = .ok (.aload_n 0, 1) := by decide +kernel
theorem dX5_load_37 : decode cX5_load 37 = .ok (.getfield 7, 3) := by decide +kernel
theorem dX5_load_40 : decode cX5_load 40 = .ok (.bipush 12, 2) := by decide +kernel
theorem dX5_load_42 : decode cX5_load 42 = .ok (.iconst 4, 1) := by decide +kernel
theorem dX5_load_43 : decode cX5_load 43 = .ok (.iload_n 1, 1) := by decide +kernel
theorem dX5_load_44 : decode cX5_load 44 = .ok (.imul, 1) := by decide +kernel
theorem dX5_load_45 : decode cX5_load 45 = .ok (.iadd, 1) := by decide +kernel
theorem dX5_load_46 : decode cX5_load 46 = .ok (.iconst 0, 1) := by decide +kernel
theorem dX5_load_47 : decode cX5_load 47 = .ok (.iadd, 1) := by decide +kernel
theorem dX5_load_48 : decode cX5_load 48 = .ok (.aload_n 0, 1) := by decide +kernel
theorem dX5_load_49 : decode cX5_load 49 = .ok (.getfield 110, 3) := by decide +kernel
theorem dX5_load_52 : decode cX5_load 52 = .ok (.iconst 1, 1) := by decide +kernel
theorem dX5_load_53 : decode cX5_load 53 = .ok (.iadd, 1) := by decide +kernel
theorem dX5_load_54 : decode cX5_load 54 = .ok (.iastore, 1) := by decide +kernel
theorem dX5_load_55 : decode cX5_load 55 = .ok (.iconst 0, 1) := by decide +kernel
theorem dX5_load_56 : decode cX5_load 56 = .ok (.istore_n 2, 1) := by decide +kernel
theorem dX5_load_57 : decode cX5_load 57 = .ok (.iload_n 2, 1) := by decide +kernel
theorem dX5_load_58 : decode cX5_load 58 = .ok (.bipush 80, 2) := by decide +kernel
theorem dX5_load_60 : decode cX5_load 60 = .ok (.if_icmp .ge 29, 3) := by decide +kernel
theorem dX5_load_63 : decode cX5_load 63 = .ok (.aload_n 0, 1) := by decide +kernel
theorem dX5_load_64 : decode cX5_load 64 = .ok (.getfield 7, 3) := by decide +kernel
theorem dX5_load_67 : decode cX5_load 67 = .ok (.bipush 28, 2) := by decide +kernel
theorem dX5_load_69 : decode cX5_load 69 = .ok (.bipush 80, 2) := by decide +kernel
theorem dX5_load_71 : decode cX5_load 71 = .ok (.iload_n 1, 1) := by decide +kernel
theorem dX5_load_72 : decode cX5_load 72 = .ok (.imul, 1) := by decide +kernel
theorem dX5_load_73 : decode cX5_load 73 = .ok (.iadd, 1) := by decide +kernel
theorem dX5_load_74 : decode cX5_load 74 = .ok (.iload_n 2, 1) := by decide +kernel
theorem dX5_load_75 : decode cX5_load 75 = .ok (.iadd, 1) := by decide +kernel
theorem dX5_load_76 : decode cX5_load 76 = .ok (.aload_n 0, 1) := by decide +kernel
theorem dX5_load_77 : decode cX5_load 77 = .ok (.getfield 31, 3) := by decide +kernel
theorem dX5_load_80 : decode cX5_load 80 = .ok (.iload_n 2, 1) := by decide +kernel
theorem dX5_load_81 : decode cX5_load 81 = .ok (.iaload, 1) := by decide +kernel
theorem dX5_load_82 : decode cX5_load 82 = .ok (.iastore, 1) := by decide +kernel
theorem dX5_load_83 : decode cX5_load 83 = .ok (.iinc 2 1, 3) := by decide +kernel
theorem dX5_load_86 : decode cX5_load 86 = .ok (.goto (-29), 3) := by decide +kernel
theorem dX5_load_89 : decode cX5_load 89 = .ok (.aload_n 0, 1) := by decide +kernel
theorem dX5_load_90 : decode cX5_load 90 = .ok (.getfield 110, 3) := by decide +kernel
theorem dX5_load_93 : decode cX5_load 93 = .ok (.iconst 1, 1) := by decide +kernel
theorem dX5_load_94 : decode cX5_load 94 = .ok (.iadd, 1) := by decide +kernel
theorem dX5_load_95 : decode cX5_load 95 = .ok (.ireturn, 1) := by decide +kernel
set_option maxRecDepth 20000 in
theorem ggX5_setSecondArm_X5_in : GoodIn wsX5_setSecondArm wsX5_in := goodIn_r _ [4] (by decide +kernel) (by decide +kernel)
set_option maxRecDepth 20000 in
theorem gX5_setSecondArm_X5_in : GoodIn wsX5_setSecondArm (va_wsS RX5 56 yX5_in wsX5_in) := goodIn_app (goodIn_of _ (by decide +kernel)) ggX5_setSecondArm_X5_in
set_option maxRecDepth 20000 in
theorem ggX5_setSecondArm_X5_put : GoodIn wsX5_setSecondArm wsX5_put := goodIn_r _ [8, 9, 10, 11, 12, 3, 13, 14, 15, 16, 17, 18, 19, 20, 21, 22, 23, 24, 25, 26, 27, 28, 29, 30, 31, 32, 33, 34, 35, 36, 37, 38] (by decide +kernel) (by decide +kernel)
set_option maxRecDepth 20000 in
theorem gX5_setSecondArm_X5_put : GoodIn wsX5_setSecondArm (wsV RX5 97 RX5 yX5_put wsX5_put) := goodIn_app (goodIn_of _ (by decide +kernel)) ggX5_setSecondArm_X5_put
theorem dX5_setSecondArm_0 : decode cX5_setSecondArm 0 = .ok (.iload_n 1, 1) := by decide +kernel
theorem dX5_setSecondArm_1 : decode cX5_setSecondArm 1 = .ok (.iconst 0, 1) := by decide +kernel
theorem dX5_setSecondArm_2 : decode cX5_setSecondArm 2 = .ok (.iconst 1, 1) := by decide +kernel
theorem dX5_setSecondArm_3 : decode cX5_setSecondArm 3 = .ok (.invokestatic 56, 3) := by decide +kernel
theorem dX5_setSecondArm_6 : decode cX5_setSecondArm 6 = .ok (.ifCond .eq 13, 3) := by decide +kernel
theorem dX5_setSecondArm_9 : decode cX5_setSecondArm 9 = .ok (.aload_n 0, 1) := by decide +kernel
theorem dX5_setSecondArm_10 : decode cX5_setSecondArm 10 = .ok (.bipush 8, 2) := by decide +kernel
theorem dX5_setSecondArm_12 : decode cX5_setSecondArm 12 = .ok (.iload_n 1, 1) := by decide +kernel
theorem dX5_setSecondArm_13 : decode cX5_setSecondArm 13 = .ok (.invokevirtual 97, 3) := by decide +kernel
theorem dX5_setSecondArm_16 : decode cX5_setSecondArm 16 = .ok (.goto 5, 3) := by decide +kernel
theorem dX5_setSecondArm_19 : decode cX5_setSecondArm 19 = .ok (.bipush (-101), 2) := by decide +kernel
theorem dX5_setSecondArm_21 : decode cX5_setSecondArm 21 = .ok (.ireturn, 1) := by decide +kernel
theorem dX5_isBroken_0 : decode cX5_isBroken 0 = .ok (.aload_n 0, 1) := by decide +kernel
theorem dX5_isBroken_1 : decode cX5_isBroken 1 = .ok (.getfield 7, 3) := by decide +kernel
theorem dX5_isBroken_4 : decode cX5_isBroken 4 = .ok (.bipush 9, 2) := by decide +kernel
theorem dX5_isBroken_6 : decode cX5_isBroken 6 = .ok (.iload_n 1, 1) := by decide +kernel
theorem dX5_isBroken_7 : decode cX5_isBroken 7 = .ok (.iadd, 1) := by decide +kernel
theorem dX5_isBroken_8 : decode cX5_isBroken 8 = .ok (.iaload, 1) := by decide +kernel
theorem dX5_isBroken_9 : decode cX5_isBroken 9 = .ok (.iload_n 2, 1) := by decide +kernel
theorem dX5_isBroken_10 : decode cX5_isBroken 10 = .ok (.ishr, 1) := by decide +kernel
theorem dX5_isBroken_11 : decode cX5_isBroken 11 = .ok (.iconst 1, 1) := by decide +kernel
theorem dX5_isBroken_12 : decode cX5_isBroken 12 = .ok (.iand, 1) := by decide +kernel
theorem dX5_isBroken_13 : decode cX5_isBroken 13 = .ok (.iconst 1, 1) := by decide +kernel
theorem dX5_isBroken_14 : decode cX5_isBroken 14 = .ok (.if_icmp .ne 7, 3) := by decide +kernel
theorem dX5_isBroken_17 : decode cX5_isBroken 17 = .ok (.iconst 1, 1) := by decide +kernel
theorem dX5_isBroken_18 : decode cX5_isBroken 18 = .ok (.goto 4, 3) := by decide +kernel
theorem dX5_isBroken_21 : decode cX5_isBroken 21 = .ok (.iconst 0, 1) := by decide +kernel
theorem dX5_isBroken_22 : decode cX5_isBroken 22 = .ok (.ireturn, 1) := by decide +kernel
set_option maxRecDepth 20000 in
theorem ggX5_setBroken_X5_in : GoodIn wsX5_setBroken wsX5_in := goodIn_r _ [5] (by decide +kernel) (by decide +kernel)
set_option maxRecDepth 20000 in
theorem gX5_setBroken_X5_in : GoodIn wsX5_setBroken (va_wsS RX5 56 yX5_in wsX5_in) := goodIn_app (goodIn_of _ (by decide +kernel)) ggX5_setBroken_X5_in
set_option maxRecDepth 20000 in
theorem ggX5_setBroken_X5_isLight : GoodIn wsX5_setBroken wsX5_isLight := goodIn_r _ [8, 2, 3, 4, 5] (by decide +kernel) (by decide +kernel)
set_option maxRecDepth 20000 in
theorem gX5_setBroken_X5_isLight : GoodIn wsX5_setBroken (va_wsS RX5 90 yX5_isLight wsX5_isLight) := goodIn_app (goodIn_of _ (by decide +kernel)) ggX5_setBroken_X5_isLight
set_option maxRecDepth 20000 in
theorem ggX5_setBroken_X5_record : GoodIn wsX5_setBroken wsX5_record := goodIn_r _ [12, 13, 14, 1, 15, 16, 17, 18, 4, 19, 20, 21, 26, 27, 28, 29, 30, 31, 32, 33, 34, 35, 36, 37, 38, 39, 40, 41] (by decide +kernel) (by decide +kernel)
set_option maxRecDepth 20000 in
theorem gX5_setBroken_X5_record : GoodIn wsX5_setBroken (wsV RX5 83 RX5 yX5_record wsX5_record) := goodIn_app (goodIn_of _ (by decide +kernel)) ggX5_setBroken_X5_record
set_option maxRecDepth 20000 in
theorem ggX5_setBroken_X5_isBroken : GoodIn wsX5_setBroken wsX5_isBroken := goodIn_r _ [25, 1, 26, 27, 28, 29, 30, 31, 32, 33, 34, 35, 36, 37, 38, 39, 40, 41] (by decide +kernel) (by decide +kernel)
set_option maxRecDepth 20000 in
theorem gX5_setBroken_X5_isBroken : GoodIn wsX5_setBroken (wsV RX5 136 RX5 yX5_isBroken wsX5_isBroken) := goodIn_app (goodIn_of _ (by decide +kernel)) ggX5_setBroken_X5_isBroken
theorem dX5_setBroken_0 : decode cX5_setBroken 0 = .ok (.iload_n 1, 1) := by decide +kernel
theorem dX5_setBroken_1 : decode cX5_setBroken 1 = .ok (.iconst 0, 1) := by decide +kernel
theorem dX5_setBroken_2 : decode cX5_setBroken 2 = .ok (.iconst 1, 1) := by decide +kernel
theorem dX5_setBroken_3 : decode cX5_setBroken 3 = .ok (.invokestatic 56, 3) := by decide +kernel
theorem dX5_setBroken_6 : decode cX5_setBroken 6 = .ok (.ifCond .eq 19, 3) := by decide +kernel
theorem dX5_setBroken_9 : decode cX5_setBroken 9 = .ok (.iload_n 2, 1) := by decide +kernel
theorem dX5_setBroken_10 : decode cX5_setBroken 10 = .ok (.invokestatic 90, 3) := by decide +kernel
theorem dX5_setBroken_13 : decode cX5_setBroken 13 = .ok (.ifCond .eq 12, 3) := by decide +kernel
theorem dX5_setBroken_16 : decode cX5_setBroken 16 = .ok (.iload_n 3, 1) := by decide +kernel
theorem dX5_setBroken_17 : decode cX5_setBroken 17 = .ok (.iconst 0, 1) := by decide +kernel
theorem dX5_setBroken_18 : decode cX5_setBroken 18 = .ok (.iconst 1, 1) := by decide +kernel
theorem dX5_setBroken_19 : decode cX5_setBroken 19 = .ok (.invokestatic 56, 3) := by decide +kernel
theorem dX5_setBroken_22 : decode cX5_setBroken 22 = .ok (.ifCond .ne 6, 3) := by decide +kernel
theorem dX5_setBroken_25 : decode cX5_setBroken 25 = .ok (.bipush (-101), 2) := by decide +kernel
theorem dX5_setBroken_27 : decode cX5_setBroken 27 = .ok (.ireturn, 1) := by decide +kernel
theorem dX5_setBroken_28 : decode cX5_setBroken 28 = .ok (.aload_n 0, 1) := by decide +kernel
theorem dX5_setBroken_29 : decode cX5_setBroken 29 = .ok (.invokevirtual 83, 3) := by decide +kernel
theorem dX5_setBroken_32 : decode cX5_setBroken 32 = .ok (.aload_n 0, 1) := by decide +kernel
theorem dX5_setBroken_33 : decode cX5_setBroken 33 = .ok (.iload_n 1, 1) := by decide +kernel
theorem dX5_setBroken_34 : decode cX5_setBroken 34 = .ok (.iload_n 2, 1) := by decide +kernel
theorem dX5_setBroken_35 : decode cX5_setBroken 35 = .ok (.invokevirtual 136, 3) := by decide +kernel
theorem dX5_setBroken_38 : decode cX5_setBroken 38 = .ok (.ifCond .eq 7, 3) := by decide +kernel
theorem dX5_setBroken_41 : decode cX5_setBroken 41 = .ok (.iconst 1, 1) := by decide +kernel
theorem dX5_setBroken_42 : decode cX5_setBroken 42 = .ok (.goto 4, 3) := by decide +kernel
theorem dX5_setBroken_45 : decode cX5_setBroken 45 = .ok (.iconst 0, 1) := by decide +kernel
theorem dX5_setBroken_46 : decode cX5_setBroken 46 = .ok (.istore 4, 2) := by decide +kernel
theorem dX5_setBroken_48 : decode cX5_setBroken 48 = .ok (.aload_n 0, 1) := by decide +kernel
theorem dX5_setBroken_49 : decode cX5_setBroken 49 = .ok (.getfield 7, 3) := by decide +kernel
theorem dX5_setBroken_52 : decode cX5_setBroken 52 = .ok (.bipush 9, 2) := by decide +kernel
theorem dX5_setBroken_54 : decode cX5_setBroken 54 = .ok (.iload_n 1, 1) := by decide +kernel
theorem dX5_setBroken_55 : decode cX5_setBroken 55 = .ok (.iadd, 1) := by decide +kernel
theorem dX5_setBroken_56 : decode cX5_setBroken 56 = .ok (.aload_n 0, 1) := by decide +kernel
theorem dX5_setBroken_57 : decode cX5_setBroken 57 = .ok (.getfield 7, 3) := by decide +kernel
theorem dX5_setBroken_60 : decode cX5_setBroken 60 = .ok (.bipush 9, 2) := by decide +kernel
theorem dX5_setBroken_62 : decode cX5_setBroken 62 = .ok (.iload_n 1, 1) := by decide +kernel
theorem dX5_setBroken_63 : decode cX5_setBroken 63 = .ok (.iadd, 1) := by decide +kernel
theorem dX5_setBroken_64 : decode cX5_setBroken 64 = .ok (.iaload, 1) := by decide +kernel
theorem dX5_setBroken_65 : decode cX5_setBroken 65 = .ok (.iconst 1, 1) := by decide +kernel
theorem dX5_setBroken_66 : decode cX5_setBroken 66 = .ok (.iload_n 2, 1) := by decide +kernel
theorem dX5_setBroken_67 : decode cX5_setBroken 67 = .ok (.ishl, 1) := by decide +kernel
theorem dX5_setBroken_68 : decode cX5_setBroken 68 = .ok (.iconst (-1), 1) := by decide +kernel
theorem dX5_setBroken_69 : decode cX5_setBroken 69 = .ok (.ixor, 1) := by decide +kernel
theorem dX5_setBroken_70 : decode cX5_setBroken 70 = .ok (.iand, 1) := by decide +kernel
theorem dX5_setBroken_71 : decode cX5_setBroken 71 = .ok (.iload_n 3, 1) := by decide +kernel
theorem dX5_setBroken_72 : decode cX5_setBroken 72 = .ok (.iload_n 2, 1) := by decide +kernel
theorem dX5_setBroken_73 : decode cX5_setBroken 73 = .ok (.ishl, 1) := by decide +kernel
theorem dX5_setBroken_74 : decode cX5_setBroken 74 = .ok (.ior, 1) := by decide +kernel
theorem dX5_setBroken_75 : decode cX5_setBroken 75 = .ok (.iastore, 1) := by decide +kernel
theorem dX5_setBroken_76 : decode cX5_setBroken 76 = .ok (.iload 4, 2) := by decide +kernel
theorem dX5_setBroken_78 : decode cX5_setBroken 78 = .ok (.ireturn, 1) := by decide +kernel
set_option maxRecDepth 20000 in
theorem ggX5_isSetting_X5_in : GoodIn wsX5_isSetting wsX5_in := goodIn_r _ [4] (by decide +kernel) (by decide +kernel)
set_option maxRecDepth 20000 in
theorem gX5_isSetting_X5_in : GoodIn wsX5_isSetting (va_wsS RX5 56 yX5_in wsX5_in) := goodIn_app (goodIn_of _ (by decide +kernel)) ggX5_isSetting_X5_in
theorem dX5_isSetting_0 : decode cX5_isSetting 0 = .ok (.iload_n 0, 1) := by decide +kernel
theorem dX5_isSetting_1 : decode cX5_isSetting 1 = .ok (.tableswitch 65 0 3 #[31, 40, 48, 57], 31) := by decide +kernel
theorem dX5_isSetting_32 : decode cX5_isSetting 32 = .ok (.iload_n 1, 1) := by decide +kernel
theorem dX5_isSetting_33 : decode cX5_isSetting 33 = .ok (.bipush (-60), 2) := by decide +kernel
theorem dX5_isSetting_35 : decode cX5_isSetting 35 = .ok (.bipush 60, 2) := by decide +kernel
theorem dX5_isSetting_37 : decode cX5_isSetting 37 = .ok (.invokestatic 56, 3) := by decide +kernel
theorem dX5_isSetting_40 : decode cX5_isSetting 40 = .ok (.ireturn, 1) := by decide +kernel
theorem dX5_isSetting_41 : decode cX5_isSetting 41 = .ok (.iload_n 1, 1) := by decide +kernel
theorem dX5_isSetting_42 : decode cX5_isSetting 42 = .ok (.iconst 1, 1) := by decide +kernel
theorem dX5_isSetting_43 : decode cX5_isSetting 43 = .ok (.bipush 20, 2) := by decide +kernel
theorem dX5_isSetting_45 : decode cX5_isSetting 45 = .ok (.invokestatic 56, 3) := by decide +kernel
theorem dX5_isSetting_48 : decode cX5_isSetting 48 = .ok (.ireturn, 1) := by decide +kernel
theorem dX5_isSetting_49 : decode cX5_isSetting 49 = .ok (.iload_n 1, 1) := by decide +kernel
theorem dX5_isSetting_50 : decode cX5_isSetting 50 = .ok (.iconst 1, 1) := by decide +kernel
theorem dX5_isSetting_51 : decode cX5_isSetting 51 = .ok (.sipush 9999, 3) := by decide +kernel
theorem dX5_isSetting_54 : decode cX5_isSetting 54 = .ok (.invokestatic 56, 3) := by decide +kernel
theorem dX5_isSetting_57 : decode cX5_isSetting 57 = .ok (.ireturn, 1) := by decide +kernel
theorem dX5_isSetting_58 : decode cX5_isSetting 58 = .ok (.iload_n 1, 1) := by decide +kernel
theorem dX5_isSetting_59 : decode cX5_isSetting 59 = .ok (.iconst 1, 1) := by decide +kernel
theorem dX5_isSetting_60 : decode cX5_isSetting 60 = .ok (.bipush 99, 2) := by decide +kernel
theorem dX5_isSetting_62 : decode cX5_isSetting 62 = .ok (.invokestatic 56, 3) := by decide +kernel
end
section
theorem dX5_isSetting_65 : decode cX5_isSetting 65 = .ok (.ireturn, 1) := by decide +kernel
theorem dX5_isSetting_66 : decode cX5_isSetting 66 = .ok (.iconst 0, 1) := by decide +kernel
theorem dX5_isSetting_67 : decode cX5_isSetting 67 = .ok (.ireturn, 1) := by decide +kernel
set_option maxRecDepth 20000 in
theorem ggX5_set_X5_isSetting : GoodIn wsX5_set wsX5_isSetting := goodIn_r _ [4, 5, 6, 3, 7] (by decide +kernel) (by decide +kernel)
set_option maxRecDepth 20000 in
theorem gX5_set_X5_isSetting : GoodIn wsX5_set (va_wsS RX5 140 yX5_isSetting wsX5_isSetting) := goodIn_app (goodIn_of _ (by decide +kernel)) ggX5_set_X5_isSetting
set_option maxRecDepth 20000 in
theorem ggX5_set_X5_put : GoodIn wsX5_set wsX5_put := goodIn_r _ [11, 12, 13, 14, 15, 3, 16, 17, 18, 19, 20, 21, 22, 23, 24, 25, 26, 27, 28, 29, 30, 31, 32, 33, 34, 35, 36, 37, 38, 39, 40, 41] (by decide +kernel) (by decide +kernel)
set_option maxRecDepth 20000 in
theorem gX5_set_X5_put : GoodIn wsX5_set (wsV RX5 97 RX5 yX5_put wsX5_put) := goodIn_app (goodIn_of _ (by decide +kernel)) ggX5_set_X5_put
theorem dX5_set_0 : decode cX5_set 0 = .ok (.iload_n 1, 1) := by decide +kernel
theorem dX5_set_1 : decode cX5_set 1 = .ok (.iload_n 2, 1) := by decide +kernel
theorem dX5_set_2 : decode cX5_set 2 = .ok (.invokestatic 140, 3) := by decide +kernel
theorem dX5_set_5 : decode cX5_set 5 = .ok (.ifCond .eq 12, 3) := by decide +kernel
theorem dX5_set_8 : decode cX5_set 8 = .ok (.aload_n 0, 1) := by decide +kernel
theorem dX5_set_9 : decode cX5_set 9 = .ok (.iload_n 1, 1) := by decide +kernel
theorem dX5_set_10 : decode cX5_set 10 = .ok (.iload_n 2, 1) := by decide +kernel
theorem dX5_set_11 : decode cX5_set 11 = .ok (.invokevirtual 97, 3) := by decide +kernel
theorem dX5_set_14 : decode cX5_set 14 = .ok (.goto 5, 3) := by decide +kernel
theorem dX5_set_17 : decode cX5_set 17 = .ok (.bipush (-101), 2) := by decide +kernel
theorem dX5_set_19 : decode cX5_set 19 = .ok (.ireturn, 1) := by decide +kernel
set_option maxRecDepth 20000 in
theorem ggX5_layWants_X5_wanted : GoodIn wsX5_layWants wsX5_wanted := goodIn_r _ [6, 7, 8, 9, 10, 5, 11, 12, 13, 14, 15, 16, 17, 18, 19, 20, 21, 22, 23, 24, 25, 26, 27, 28, 29, 30, 31, 32, 33, 34, 35, 36, 37, 38, 39, 40, 41, 42, 43, 44, 45, 46, 47, 48] (by decide +kernel) (by decide +kernel)
set_option maxRecDepth 20000 in
theorem gX5_layWants_X5_wanted : GoodIn wsX5_layWants (wsV RX5 143 RX5 yX5_wanted wsX5_wanted) := goodIn_app (goodIn_of _ (by decide +kernel)) ggX5_layWants_X5_wanted
theorem dX5_layWants_0 : decode cX5_layWants 0 = .ok (.iconst 0, 1) := by decide +kernel
theorem dX5_layWants_1 : decode cX5_layWants 1 = .ok (.istore_n 1, 1) := by decide +kernel
theorem dX5_layWants_2 : decode cX5_layWants 2 = .ok (.iload_n 1, 1) := by decide +kernel
theorem dX5_layWants_3 : decode cX5_layWants 3 = .ok (.sipush 8640, 3) := by decide +kernel
theorem dX5_layWants_6 : decode cX5_layWants 6 = .ok (.if_icmp .ge 27, 3) := by decide +kernel
theorem dX5_layWants_9 : decode cX5_layWants 9 = .ok (.aload_n 0, 1) := by decide +kernel
theorem dX5_layWants_10 : decode cX5_layWants 10 = .ok (.getfield 34, 3) := by decide +kernel
theorem dX5_layWants_13 : decode cX5_layWants 13 = .ok (.iload_n 1, 1) := by decide +kernel
theorem dX5_layWants_14 : decode cX5_layWants 14 = .ok (.aload_n 0, 1) := by decide +kernel
theorem dX5_layWants_15 : decode cX5_layWants 15 = .ok (.iload_n 1, 1) := by decide +kernel
theorem dX5_layWants_16 : decode cX5_layWants 16 = .ok (.bipush 12, 2) := by decide +kernel
theorem dX5_layWants_18 : decode cX5_layWants 18 = .ok (.idiv, 1) := by decide +kernel
theorem dX5_layWants_19 : decode cX5_layWants 19 = .ok (.iload_n 1, 1) := by decide +kernel
theorem dX5_layWants_20 : decode cX5_layWants 20 = .ok (.bipush 12, 2) := by decide +kernel
theorem dX5_layWants_22 : decode cX5_layWants 22 = .ok (.irem, 1) := by decide +kernel
theorem dX5_layWants_23 : decode cX5_layWants 23 = .ok (.invokevirtual 143, 3) := by decide +kernel
theorem dX5_layWants_26 : decode cX5_layWants 26 = .ok (.iastore, 1) := by decide +kernel
theorem dX5_layWants_27 : decode cX5_layWants 27 = .ok (.iinc 1 1, 3) := by decide +kernel
theorem dX5_layWants_30 : decode cX5_layWants 30 = .ok (.goto (-28), 3) := by decide +kernel
theorem dX5_layWants_33 : decode cX5_layWants 33 = .ok (.return_, 1) := by decide +kernel
theorem dX5_newSpeed_0 : decode cX5_newSpeed 0 = .ok (.aload_n 0, 1) := by decide +kernel
theorem dX5_newSpeed_1 : decode cX5_newSpeed 1 = .ok (.getfield 7, 3) := by decide +kernel
theorem dX5_newSpeed_4 : decode cX5_newSpeed 4 = .ok (.bipush 7, 2) := by decide +kernel
theorem dX5_newSpeed_6 : decode cX5_newSpeed 6 = .ok (.iaload, 1) := by decide +kernel
theorem dX5_newSpeed_7 : decode cX5_newSpeed 7 = .ok (.aload_n 0, 1) := by decide +kernel
theorem dX5_newSpeed_8 : decode cX5_newSpeed 8 = .ok (.getfield 7, 3) := by decide +kernel
theorem dX5_newSpeed_11 : decode cX5_newSpeed 11 = .ok (.iconst 2, 1) := by decide +kernel
theorem dX5_newSpeed_12 : decode cX5_newSpeed 12 = .ok (.iaload, 1) := by decide +kernel
theorem dX5_newSpeed_13 : decode cX5_newSpeed 13 = .ok (.if_icmp .le 14, 3) := by decide +kernel
theorem dX5_newSpeed_16 : decode cX5_newSpeed 16 = .ok (.aload_n 0, 1) := by decide +kernel
theorem dX5_newSpeed_17 : decode cX5_newSpeed 17 = .ok (.getfield 7, 3) := by decide +kernel
theorem dX5_newSpeed_20 : decode cX5_newSpeed 20 = .ok (.iconst 1, 1) := by decide +kernel
theorem dX5_newSpeed_21 : decode cX5_newSpeed 21 = .ok (.iaload, 1) := by decide +kernel
theorem dX5_newSpeed_22 : decode cX5_newSpeed 22 = .ok (.iconst 2, 1) := by decide +kernel
theorem dX5_newSpeed_23 : decode cX5_newSpeed 23 = .ok (.idiv, 1) := by decide +kernel
theorem dX5_newSpeed_24 : decode cX5_newSpeed 24 = .ok (.goto 9, 3) := by decide +kernel
theorem dX5_newSpeed_27 : decode cX5_newSpeed 27 = .ok (.aload_n 0, 1) := by decide +kernel
theorem dX5_newSpeed_28 : decode cX5_newSpeed 28 = .ok (.getfield 7, 3) := by decide +kernel
theorem dX5_newSpeed_31 : decode cX5_newSpeed 31 = .ok (.iconst 1, 1) := by decide +kernel
theorem dX5_newSpeed_32 : decode cX5_newSpeed 32 = .ok (.iaload, 1) := by decide +kernel
theorem dX5_newSpeed_33 : decode cX5_newSpeed 33 = .ok (.istore_n 1, 1) := by decide +kernel
theorem dX5_newSpeed_34 : decode cX5_newSpeed 34 = .ok (.aload_n 0, 1) := by decide +kernel
theorem dX5_newSpeed_35 : decode cX5_newSpeed 35 = .ok (.getfield 7, 3) := by decide +kernel
theorem dX5_newSpeed_38 : decode cX5_newSpeed 38 = .ok (.iconst 0, 1) := by decide +kernel
theorem dX5_newSpeed_39 : decode cX5_newSpeed 39 = .ok (.iaload, 1) := by decide +kernel
theorem dX5_newSpeed_40 : decode cX5_newSpeed 40 = .ok (.aload_n 0, 1) := by decide +kernel
theorem dX5_newSpeed_41 : decode cX5_newSpeed 41 = .ok (.getfield 7, 3) := by decide +kernel
theorem dX5_newSpeed_44 : decode cX5_newSpeed 44 = .ok (.iconst 5, 1) := by decide +kernel
theorem dX5_newSpeed_45 : decode cX5_newSpeed 45 = .ok (.iaload, 1) := by decide +kernel
theorem dX5_newSpeed_46 : decode cX5_newSpeed 46 = .ok (.isub, 1) := by decide +kernel
theorem dX5_newSpeed_47 : decode cX5_newSpeed 47 = .ok (.istore_n 2, 1) := by decide +kernel
theorem dX5_newSpeed_48 : decode cX5_newSpeed 48 = .ok (.aload_n 0, 1) := by decide +kernel
theorem dX5_newSpeed_49 : decode cX5_newSpeed 49 = .ok (.getfield 7, 3) := by decide +kernel
theorem dX5_newSpeed_52 : decode cX5_newSpeed 52 = .ok (.iconst 5, 1) := by decide +kernel
theorem dX5_newSpeed_53 : decode cX5_newSpeed 53 = .ok (.dup2, 1) := by decide +kernel
theorem dX5_newSpeed_54 : decode cX5_newSpeed 54 = .ok (.iaload, 1) := by decide +kernel
theorem dX5_newSpeed_55 : decode cX5_newSpeed 55 = .ok (.iload_n 2, 1) := by decide +kernel
theorem dX5_newSpeed_56 : decode cX5_newSpeed 56 = .ok (.iload_n 1, 1) := by decide +kernel
theorem dX5_newSpeed_57 : decode cX5_newSpeed 57 = .ok (.if_icmp .le 7, 3) := by decide +kernel
theorem dX5_newSpeed_60 : decode cX5_newSpeed 60 = .ok (.iload_n 1, 1) := by decide +kernel
theorem dX5_newSpeed_61 : decode cX5_newSpeed 61 = .ok (.goto 15, 3) := by decide +kernel
theorem dX5_newSpeed_64 : decode cX5_newSpeed 64 = .ok (.iload_n 2, 1) := by decide +kernel
theorem dX5_newSpeed_65 : decode cX5_newSpeed 65 = .ok (.iload_n 1, 1) := by decide +kernel
theorem dX5_newSpeed_66 : decode cX5_newSpeed 66 = .ok (.ineg, 1) := by decide +kernel
theorem dX5_newSpeed_67 : decode cX5_newSpeed 67 = .ok (.if_icmp .ge 8, 3) := by decide +kernel
theorem dX5_newSpeed_70 : decode cX5_newSpeed 70 = .ok (.iload_n 1, 1) := by decide +kernel
theorem dX5_newSpeed_71 : decode cX5_newSpeed 71 = .ok (.ineg, 1) := by decide +kernel
theorem dX5_newSpeed_72 : decode cX5_newSpeed 72 = .ok (.goto 4, 3) := by decide +kernel
theorem dX5_newSpeed_75 : decode cX5_newSpeed 75 = .ok (.iload_n 2, 1) := by decide +kernel
theorem dX5_newSpeed_76 : decode cX5_newSpeed 76 = .ok (.iadd, 1) := by decide +kernel
theorem dX5_newSpeed_77 : decode cX5_newSpeed 77 = .ok (.iastore, 1) := by decide +kernel
theorem dX5_newSpeed_78 : decode cX5_newSpeed 78 = .ok (.return_, 1) := by decide +kernel
set_option maxRecDepth 20000 in
theorem ggX5_writes_X5_isBroken : GoodIn wsX5_writes wsX5_isBroken := goodIn_r _ [8, 3, 9, 10, 11, 12, 13, 14, 15, 16, 17, 18, 19, 20, 21, 22, 23, 24] (by decide +kernel) (by decide +kernel)
set_option maxRecDepth 20000 in
theorem gX5_writes_X5_isBroken : GoodIn wsX5_writes (wsV RX5 136 RX5 yX5_isBroken wsX5_isBroken) := goodIn_app (goodIn_of _ (by decide +kernel)) ggX5_writes_X5_isBroken
theorem dX5_writes_0 : decode cX5_writes 0 = .ok (.iconst 0, 1) := by decide +kernel
theorem dX5_writes_1 : decode cX5_writes 1 = .ok (.istore_n 3, 1) := by decide +kernel
theorem dX5_writes_2 : decode cX5_writes 2 = .ok (.iconst 0, 1) := by decide +kernel
theorem dX5_writes_3 : decode cX5_writes 3 = .ok (.istore 4, 2) := by decide +kernel
theorem dX5_writes_5 : decode cX5_writes 5 = .ok (.iload 4, 2) := by decide +kernel
theorem dX5_writes_7 : decode cX5_writes 7 = .ok (.bipush 12, 2) := by decide +kernel
theorem dX5_writes_9 : decode cX5_writes 9 = .ok (.if_icmp .ge 71, 3) := by decide +kernel
theorem dX5_writes_12 : decode cX5_writes 12 = .ok (.aload_n 0, 1) := by decide +kernel
theorem dX5_writes_13 : decode cX5_writes 13 = .ok (.iload_n 1, 1) := by decide +kernel
theorem dX5_writes_14 : decode cX5_writes 14 = .ok (.iload 4, 2) := by decide +kernel
theorem dX5_writes_16 : decode cX5_writes 16 = .ok (.invokevirtual 136, 3) := by decide +kernel
theorem dX5_writes_19 : decode cX5_writes 19 = .ok (.ifCond .ne 55, 3) := by decide +kernel
theorem dX5_writes_22 : decode cX5_writes 22 = .ok (.aload_n 0, 1) := by decide +kernel
theorem dX5_writes_23 : decode cX5_writes 23 = .ok (.getfield 34, 3) := by decide +kernel
theorem dX5_writes_26 : decode cX5_writes 26 = .ok (.bipush 12, 2) := by decide +kernel
theorem dX5_writes_28 : decode cX5_writes 28 = .ok (.iload_n 2, 1) := by decide +kernel
theorem dX5_writes_29 : decode cX5_writes 29 = .ok (.imul, 1) := by decide +kernel
theorem dX5_writes_30 : decode cX5_writes 30 = .ok (.iload 4, 2) := by decide +kernel
theorem dX5_writes_32 : decode cX5_writes 32 = .ok (.iadd, 1) := by decide +kernel
theorem dX5_writes_33 : decode cX5_writes 33 = .ok (.iaload, 1) := by decide +kernel
theorem dX5_writes_34 : decode cX5_writes 34 = .ok (.istore 5, 2) := by decide +kernel
theorem dX5_writes_36 : decode cX5_writes 36 = .ok (.aload_n 0, 1) := by decide +kernel
theorem dX5_writes_37 : decode cX5_writes 37 = .ok (.getfield 13, 3) := by decide +kernel
theorem dX5_writes_40 : decode cX5_writes 40 = .ok (.bipush 12, 2) := by decide +kernel
theorem dX5_writes_42 : decode cX5_writes 42 = .ok (.iload_n 2, 1) := by decide +kernel
theorem dX5_writes_43 : decode cX5_writes 43 = .ok (.imul, 1) := by decide +kernel
theorem dX5_writes_44 : decode cX5_writes 44 = .ok (.iload 4, 2) := by decide +kernel
theorem dX5_writes_46 : decode cX5_writes 46 = .ok (.iadd, 1) := by decide +kernel
theorem dX5_writes_47 : decode cX5_writes 47 = .ok (.bipush 8, 2) := by decide +kernel
theorem dX5_writes_49 : decode cX5_writes 49 = .ok (.aload_n 0, 1) := by decide +kernel
theorem dX5_writes_50 : decode cX5_writes 50 = .ok (.getfield 7, 3) := by decide +kernel
theorem dX5_writes_53 : decode cX5_writes 53 = .ok (.bipush 6, 2) := by decide +kernel
theorem dX5_writes_55 : decode cX5_writes 55 = .ok (.iaload, 1) := by decide +kernel
theorem dX5_writes_56 : decode cX5_writes 56 = .ok (.imul, 1) := by decide +kernel
theorem dX5_writes_57 : decode cX5_writes 57 = .ok (.iload 5, 2) := by decide +kernel
theorem dX5_writes_59 : decode cX5_writes 59 = .ok (.iadd, 1) := by decide +kernel
theorem dX5_writes_60 : decode cX5_writes 60 = .ok (.iastore, 1) := by decide +kernel
theorem dX5_writes_61 : decode cX5_writes 61 = .ok (.iload_n 3, 1) := by decide +kernel
theorem dX5_writes_62 : decode cX5_writes 62 = .ok (.iload 5, 2) := by decide +kernel
theorem dX5_writes_64 : decode cX5_writes 64 = .ok (.ifCond .ne 7, 3) := by decide +kernel
theorem dX5_writes_67 : decode cX5_writes 67 = .ok (.iconst 0, 1) := by decide +kernel
theorem dX5_writes_68 : decode cX5_writes 68 = .ok (.goto 4, 3) := by decide +kernel
theorem dX5_writes_71 : decode cX5_writes 71 = .ok (.iconst 1, 1) := by decide +kernel
theorem dX5_writes_72 : decode cX5_writes 72 = .ok (.iadd, 1) := by decide +kernel
theorem dX5_writes_73 : decode cX5_writes 73 = .ok (.istore_n 3, 1) := by decide +kernel
theorem dX5_writes_74 : decode cX5_writes 74 = .ok (.iinc 4 1, 3) := by decide +kernel
theorem dX5_writes_77 : decode cX5_writes 77 = .ok (.goto (-72), 3) := by decide +kernel
theorem dX5_writes_80 : decode cX5_writes 80 = .ok (.iload_n 3, 1) := by decide +kernel
theorem dX5_writes_81 : decode cX5_writes 81 = .ok (.ireturn, 1) := by decide +kernel
set_option maxRecDepth 20000 in
theorem ggX5_tick_X5_newSpeed : GoodIn wsX5_tick wsX5_newSpeed := goodIn_r _ [6, 1, 23, 24, 25, 26, 27, 28, 29, 30, 31, 32, 33, 34, 35, 36, 37, 38] (by decide +kernel) (by decide +kernel)
set_option maxRecDepth 20000 in
theorem gX5_tick_X5_newSpeed : GoodIn wsX5_tick (wsV RX5 146 RX5 yX5_newSpeed wsX5_newSpeed) := goodIn_app (goodIn_of _ (by decide +kernel)) ggX5_tick_X5_newSpeed
set_option maxRecDepth 20000 in
theorem ggX5_tick_X5_size : GoodIn wsX5_tick wsX5_size := goodIn_r _ [9] (by decide +kernel) (by decide +kernel)
set_option maxRecDepth 20000 in
theorem gX5_tick_X5_size : GoodIn wsX5_tick (va_wsS RX5 149 yX5_size wsX5_size) := goodIn_app (goodIn_of _ (by decide +kernel)) ggX5_tick_X5_size
set_option maxRecDepth 20000 in
theorem ggX5_tick_X5_around : GoodIn wsX5_tick wsX5_around := goodIn_r _ [12] (by decide +kernel) (by decide +kernel)
set_option maxRecDepth 20000 in
theorem gX5_tick_X5_around : GoodIn wsX5_tick (va_wsS RX5 70 yX5_around wsX5_around) := goodIn_app (goodIn_of _ (by decide +kernel)) ggX5_tick_X5_around
set_option maxRecDepth 20000 in
theorem ggX5_tick_X5_writes : GoodIn wsX5_tick wsX5_writes := goodIn_r _ [16, 17, 18, 1, 19, 20, 21, 5, 22, 23, 24, 25, 26, 27, 28, 29, 30, 31, 32, 33, 34, 35, 36, 37, 38] (by decide +kernel) (by decide +kernel)
set_option maxRecDepth 20000 in
theorem gX5_tick_X5_writes : GoodIn wsX5_tick (wsV RX5 152 RX5 yX5_writes wsX5_writes) := goodIn_app (goodIn_of _ (by decide +kernel)) ggX5_tick_X5_writes
theorem dX5_tick_0 : decode cX5_tick 0 = .ok (.aload_n 0, 1) := by decide +kernel
theorem dX5_tick_1 : decode cX5_tick 1 = .ok (.invokevirtual 146, 3) := by decide +kernel
theorem dX5_tick_4 : decode cX5_tick 4 = .ok (.aload_n 0, 1) := by decide +kernel
theorem dX5_tick_5 : decode cX5_tick 5 = .ok (.getfield 7, 3) := by decide +kernel
theorem dX5_tick_8 : decode cX5_tick 8 = .ok (.bipush 6, 2) := by decide +kernel
theorem dX5_tick_10 : decode cX5_tick 10 = .ok (.dup2, 1) := by decide +kernel
theorem dX5_tick_11 : decode cX5_tick 11 = .ok (.iaload, 1) := by decide +kernel
theorem dX5_tick_12 : decode cX5_tick 12 = .ok (.iconst 1, 1) := by decide +kernel
theorem dX5_tick_13 : decode cX5_tick 13 = .ok (.iadd, 1) := by decide +kernel
theorem dX5_tick_14 : decode cX5_tick 14 = .ok (.iastore, 1) := by decide +kernel
theorem dX5_tick_15 : decode cX5_tick 15 = .ok (.aload_n 0, 1) := by decide +kernel
theorem dX5_tick_16 : decode cX5_tick 16 = .ok (.getfield 7, 3) := by decide +kernel
theorem dX5_tick_19 : decode cX5_tick 19 = .ok (.bipush 7, 2) := by decide +kernel
theorem dX5_tick_21 : decode cX5_tick 21 = .ok (.iconst 0, 1) := by decide +kernel
theorem dX5_tick_22 : decode cX5_tick 22 = .ok (.iastore, 1) := by decide +kernel
theorem dX5_tick_23 : decode cX5_tick 23 = .ok (.aload_n 0, 1) := by decide +kernel
theorem dX5_tick_24 : decode cX5_tick 24 = .ok (.getfield 7, 3) := by decide +kernel
theorem dX5_tick_27 : decode cX5_tick 27 = .ok (.iconst 5, 1) := by decide +kernel
theorem dX5_tick_28 : decode cX5_tick 28 = .ok (.iaload, 1) := by decide +kernel
theorem dX5_tick_29 : decode cX5_tick 29 = .ok (.ifCond .ge 7, 3) := by decide +kernel
theorem dX5_tick_32 : decode cX5_tick 32 = .ok (.iconst (-1), 1) := by decide +kernel
theorem dX5_tick_33 : decode cX5_tick 33 = .ok (.goto 4, 3) := by decide +kernel
theorem dX5_tick_36 : decode cX5_tick 36 = .ok (.iconst 1, 1) := by decide +kernel
theorem dX5_tick_37 : decode cX5_tick 37 = .ok (.istore_n 1, 1) := by decide +kernel
theorem dX5_tick_38 : decode cX5_tick 38 = .ok (.aload_n 0, 1) := by decide +kernel
theorem dX5_tick_39 : decode cX5_tick 39 = .ok (.getfield 7, 3) := by decide +kernel
theorem dX5_tick_42 : decode cX5_tick 42 = .ok (.iconst 5, 1) := by decide +kernel
theorem dX5_tick_43 : decode cX5_tick 43 = .ok (.iaload, 1) := by decide +kernel
theorem dX5_tick_44 : decode cX5_tick 44 = .ok (.invokestatic 149, 3) := by decide +kernel
theorem dX5_tick_47 : decode cX5_tick 47 = .ok (.istore_n 2, 1) := by decide +kernel
theorem dX5_tick_48 : decode cX5_tick 48 = .ok (.iload_n 2, 1) := by decide +kernel
theorem dX5_tick_49 : decode cX5_tick 49 = .ok (.ifCond .le 90, 3) := by decide +kernel
theorem dX5_tick_52 : decode cX5_tick 52 = .ok (.aload_n 0, 1) := by decide +kernel
theorem dX5_tick_53 : decode cX5_tick 53 = .ok (.getfield 7, 3) := by decide +kernel
theorem dX5_tick_56 : decode cX5_tick 56 = .ok (.iconst 4, 1) := by decide +kernel
theorem dX5_tick_57 : decode cX5_tick 57 = .ok (.aload_n 0, 1) := by decide +kernel
theorem dX5_tick_58 : decode cX5_tick 58 = .ok (.getfield 7, 3) := by decide +kernel
theorem dX5_tick_61 : decode cX5_tick 61 = .ok (.iconst 4, 1) := by decide +kernel
theorem dX5_tick_62 : decode cX5_tick 62 = .ok (.iaload, 1) := by decide +kernel
theorem dX5_tick_63 : decode cX5_tick 63 = .ok (.iload_n 1, 1) := by decide +kernel
theorem dX5_tick_64 : decode cX5_tick 64 = .ok (.iadd, 1) := by decide +kernel
theorem dX5_tick_65 : decode cX5_tick 65 = .ok (.invokestatic 70, 3) := by decide +kernel
theorem dX5_tick_68 : decode cX5_tick 68 = .ok (.iastore, 1) := by decide +kernel
theorem dX5_tick_69 : decode cX5_tick 69 = .ok (.aload_n 0, 1) := by decide +kernel
theorem dX5_tick_70 : decode cX5_tick 70 = .ok (.getfield 7, 3) := by decide +kernel
theorem dX5_tick_73 : decode cX5_tick 73 = .ok (.bipush 7, 2) := by decide +kernel
theorem dX5_tick_75 : decode cX5_tick 75 = .ok (.dup2, 1) := by decide +kernel
theorem dX5_tick_76 : decode cX5_tick 76 = .ok (.iaload, 1) := by decide +kernel
theorem dX5_tick_77 : decode cX5_tick 77 = .ok (.aload_n 0, 1) := by decide +kernel
theorem dX5_tick_78 : decode cX5_tick 78 = .ok (.iconst 0, 1) := by decide +kernel
theorem dX5_tick_79 : decode cX5_tick 79 = .ok (.aload_n 0, 1) := by decide +kernel
theorem dX5_tick_80 : decode cX5_tick 80 = .ok (.getfield 7, 3) := by decide +kernel
theorem dX5_tick_83 : decode cX5_tick 83 = .ok (.iconst 4, 1) := by decide +kernel
theorem dX5_tick_84 : decode cX5_tick 84 = .ok (.iaload, 1) := by decide +kernel
theorem dX5_tick_85 : decode cX5_tick 85 = .ok (.invokevirtual 152, 3) := by decide +kernel
theorem dX5_tick_88 : decode cX5_tick 88 = .ok (.iadd, 1) := by decide +kernel
theorem dX5_tick_89 : decode cX5_tick 89 = .ok (.iastore, 1) := by decide +kernel
theorem dX5_tick_90 : decode cX5_tick 90 = .ok (.aload_n 0, 1) := by decide +kernel
theorem dX5_tick_91 : decode cX5_tick 91 = .ok (.getfield 7, 3) := by decide +kernel
theorem dX5_tick_94 : decode cX5_tick 94 = .ok (.bipush 7, 2) := by decide +kernel
theorem dX5_tick_96 : decode cX5_tick 96 = .ok (.dup2, 1) := by decide +kernel
theorem dX5_tick_97 : decode cX5_tick 97 = .ok (.iaload, 1) := by decide +kernel
theorem dX5_tick_98 : decode cX5_tick 98 = .ok (.aload_n 0, 1) := by decide +kernel
theorem dX5_tick_99 : decode cX5_tick 99 = .ok (.getfield 7, 3) := by decide +kernel
theorem dX5_tick_102 : decode cX5_tick 102 = .ok (.bipush 8, 2) := by decide +kernel
theorem dX5_tick_104 : decode cX5_tick 104 = .ok (.iaload, 1) := by decide +kernel
theorem dX5_tick_105 : decode cX5_tick 105 = .ok (.ifCond .ne 7, 3) := by decide +kernel
theorem dX5_tick_108 : decode cX5_tick 108 = .ok (.iconst 0, 1) := by decide +kernel
theorem dX5_tick_109 : decode cX5_tick 109 = .ok (.goto 22, 3) := by decide +kernel
theorem dX5_tick_112 : decode cX5_tick 112 = .ok (.aload_n 0, 1) := by decide +kernel
theorem dX5_tick_113 : decode cX5_tick 113 = .ok (.iconst 1, 1) := by decide +kernel
theorem dX5_tick_114 : decode cX5_tick 114 = .ok (.aload_n 0, 1) := by decide +kernel
theorem dX5_tick_115 : decode cX5_tick 115 = .ok (.getfield 7, 3) := by decide +kernel
theorem dX5_tick_118 : decode cX5_tick 118 = .ok (.iconst 4, 1) := by decide +kernel
theorem dX5_tick_119 : decode cX5_tick 119 = .ok (.iaload, 1) := by decide +kernel
theorem dX5_tick_120 : decode cX5_tick 120 = .ok (.sipush 360, 3) := by decide +kernel
theorem dX5_tick_123 : decode cX5_tick 123 = .ok (.iadd, 1) := by decide +kernel
theorem dX5_tick_124 : decode cX5_tick 124 = .ok (.sipush 720, 3) := by decide +kernel
theorem dX5_tick_127 : decode cX5_tick 127 = .ok (.irem, 1) := by decide +kernel
theorem dX5_tick_128 : decode cX5_tick 128 = .ok (.invokevirtual 152, 3) := by decide +kernel
theorem dX5_tick_131 : decode cX5_tick 131 = .ok (.iadd, 1) := by decide +kernel
theorem dX5_tick_132 : decode cX5_tick 132 = .ok (.iastore, 1) := by decide +kernel
theorem dX5_tick_133 : decode cX5_tick 133 = .ok (.iinc 2 (-1), 3) := by decide +kernel
theorem dX5_tick_136 : decode cX5_tick 136 = .ok (.goto (-88), 3) := by decide +kernel
theorem dX5_tick_139 : decode cX5_tick 139 = .ok (.return_, 1) := by decide +kernel
set_option maxRecDepth 20000 in
theorem ggX5_goOn_X5_tick : GoodIn wsX5_goOn wsX5_tick := goodIn_r _ [5, 6, 7, 8, 9, 4, 10, 11, 12, 13, 14, 15, 16, 17, 18, 19, 20, 21, 22, 23, 24, 25, 26, 27, 28, 29, 30, 31, 32, 33, 34, 35, 36, 37, 38, 39, 40, 41, 42] (by decide +kernel) (by decide +kernel)
set_option maxRecDepth 20000 in
theorem gX5_goOn_X5_tick : GoodIn wsX5_goOn (wsV RX5 155 RX5 yX5_tick wsX5_tick) := goodIn_app (goodIn_of _ (by decide +kernel)) ggX5_goOn_X5_tick
theorem dX5_goOn_0 : decode cX5_goOn 0 = .ok (.iconst 0, 1) := by decide +kernel
theorem dX5_goOn_1 : decode cX5_goOn 1 = .ok (.istore_n 2, 1) := by decide +kernel
theorem dX5_goOn_2 : decode cX5_goOn 2 = .ok (.iload_n 2, 1) := by decide +kernel
theorem dX5_goOn_3 : decode cX5_goOn 3 = .ok (.iload_n 1, 1) := by decide +kernel
theorem dX5_goOn_4 : decode cX5_goOn 4 = .ok (.if_icmp .ge 13, 3) := by decide +kernel
theorem dX5_goOn_7 : decode cX5_goOn 7 = .ok (.aload_n 0, 1) := by decide +kernel
theorem dX5_goOn_8 : decode cX5_goOn 8 = .ok (.invokevirtual 155, 3) := by decide +kernel
theorem dX5_goOn_11 : decode cX5_goOn 11 = .ok (.iinc 2 1, 3) := by decide +kernel
theorem dX5_goOn_14 : decode cX5_goOn 14 = .ok (.goto (-12), 3) := by decide +kernel
theorem dX5_goOn_17 : decode cX5_goOn 17 = .ok (.return_, 1) := by decide +kernel
set_option maxRecDepth 20000 in
theorem ggX5_run_X5_in : GoodIn wsX5_run wsX5_in := goodIn_r _ [5] (by decide +kernel) (by decide +kernel)
set_option maxRecDepth 20000 in
theorem gX5_run_X5_in : GoodIn wsX5_run (va_wsS RX5 56 yX5_in wsX5_in) := goodIn_app (goodIn_of _ (by decide +kernel)) ggX5_run_X5_in
set_option maxRecDepth 20000 in
theorem ggX5_run_X5_record : GoodIn wsX5_run wsX5_record := goodIn_r _ [9, 10, 11, 1, 12, 13, 14, 15, 4, 16, 17, 18, 76, 77, 78, 79, 80, 81, 82, 83, 84, 85, 86, 87, 88, 89, 90, 91] (by decide +kernel) (by decide +kernel)
set_option maxRecDepth 20000 in
theorem gX5_run_X5_record : GoodIn wsX5_run (wsV RX5 83 RX5 yX5_record wsX5_record) := goodIn_app (goodIn_of _ (by decide +kernel)) ggX5_run_X5_record
set_option maxRecDepth 20000 in
theorem ggX5_run_X5_layWants : GoodIn wsX5_run wsX5_layWants := goodIn_r _ [22, 23, 24, 25, 26, 4, 27, 1, 28, 29, 30, 31, 32, 33, 34, 35, 36, 37, 38, 39, 40, 41, 42, 43, 44, 45, 46, 47, 48, 49, 50, 51, 52, 76, 77, 78, 79, 80, 81, 82, 83, 84, 85, 86, 87, 88, 89, 90, 91] (by decide +kernel) (by decide +kernel)
set_option maxRecDepth 20000 in
theorem gX5_run_X5_layWants : GoodIn wsX5_run (wsV RX5 158 RX5 yX5_layWants wsX5_layWants) := goodIn_app (goodIn_of _ (by decide +kernel)) ggX5_run_X5_layWants
set_option maxRecDepth 20000 in
theorem ggX5_run_X5_goOn : GoodIn wsX5_run wsX5_goOn := goodIn_r _ [56, 57, 58, 59, 4, 60, 1, 61, 62, 63, 64, 65, 66, 67, 36, 37, 38, 68, 69, 70, 71, 23, 12, 72, 73, 74, 75, 76, 77, 78, 79, 80, 81, 82, 83, 84, 85, 86, 87, 88, 89, 90, 91] (by decide +kernel) (by decide +kernel)
set_option maxRecDepth 20000 in
theorem gX5_run_X5_goOn : GoodIn wsX5_run (wsV RX5 161 RX5 yX5_goOn wsX5_goOn) := goodIn_app (goodIn_of _ (by decide +kernel)) ggX5_run_X5_goOn
theorem dX5_run_0 : decode cX5_run 0 = .ok (.iload_n 1, 1) := by decide +kernel
theorem dX5_run_1 : decode cX5_run 1 = .ok (.iconst 1, 1) := by decide +kernel
theorem dX5_run_2 : decode cX5_run 2 = .ok (.bipush 100, 2) := by decide +kernel
theorem dX5_run_4 : decode cX5_run 4 = .ok (.invokestatic 56, 3) := by decide +kernel
theorem dX5_run_7 : decode cX5_run 7 = .ok (.ifCond .ne 6, 3) := by decide +kernel
theorem dX5_run_10 : decode cX5_run 10 = .ok (.bipush (-101), 2) := by decide +kernel
theorem dX5_run_12 : decode cX5_run 12 = .ok (.ireturn, 1) := by decide +kernel
theorem dX5_run_13 : decode cX5_run 13 = .ok (.aload_n 0, 1) := by decide +kernel
theorem dX5_run_14 : decode cX5_run 14 = .ok (.getfield 7, 3) := by decide +kernel
theorem dX5_run_17 : decode cX5_run 17 = .ok (.bipush 6, 2) := by decide +kernel
theorem dX5_run_19 : decode cX5_run 19 = .ok (.iaload, 1) := by decide +kernel
theorem dX5_run_20 : decode cX5_run 20 = .ok (.iload_n 1, 1) := by decide +kernel
theorem dX5_run_21 : decode cX5_run 21 = .ok (.iadd, 1) := by decide +kernel
theorem dX5_run_22 : decode cX5_run 22 = .ok (.sipush 5000, 3) := by decide +kernel
theorem dX5_run_25 : decode cX5_run 25 = .ok (.if_icmp .le 6, 3) := by decide +kernel
theorem dX5_run_28 : decode cX5_run 28 = .ok (.bipush (-103), 2) := by decide +kernel
theorem dX5_run_30 : decode cX5_run 30 = .ok (.ireturn, 1) := by decide +kernel
theorem dX5_run_31 : decode cX5_run 31 = .ok (.aload_n 0, 1) := by decide +kernel
theorem dX5_run_32 : decode cX5_run 32 = .ok (.invokevirtual 83, 3) := by decide +kernel
theorem dX5_run_35 : decode cX5_run 35 = .ok (.aload_n 0, 1) := by decide +kernel
theorem dX5_run_36 : decode cX5_run 36 = .ok (.invokevirtual 158, 3) := by decide +kernel
theorem dX5_run_39 : decode cX5_run 39 = .ok (.aload_n 0, 1) := by decide +kernel
theorem dX5_run_40 : decode cX5_run 40 = .ok (.iload_n 1, 1) := by decide +kernel
theorem dX5_run_41 : decode cX5_run 41 = .ok (.invokevirtual 161, 3) := by decide +kernel
theorem dX5_run_44 : decode cX5_run 44 = .ok (.aload_n 0, 1) := by decide +kernel
theorem dX5_run_45 : decode cX5_run 45 = .ok (.getfield 7, 3) := by decide +kernel
theorem dX5_run_48 : decode cX5_run 48 = .ok (.bipush 7, 2) := by decide +kernel
theorem dX5_run_50 : decode cX5_run 50 = .ok (.iaload, 1) := by decide +kernel
theorem dX5_run_51 : decode cX5_run 51 = .ok (.ireturn, 1) := by decide +kernel
theorem dX5_ago_0 : decode cX5_ago 0 = .ok (.aload_n 0, 1) := by decide +kernel
theorem dX5_ago_1 : decode cX5_ago 1 = .ok (.getfield 13, 3) := by decide +kernel
theorem dX5_ago_4 : decode cX5_ago 4 = .ok (.iload_n 1, 1) := by decide +kernel
theorem dX5_ago_5 : decode cX5_ago 5 = .ok (.iaload, 1) := by decide +kernel
theorem dX5_ago_6 : decode cX5_ago 6 = .ok (.ifCond .ne 8, 3) := by decide +kernel
theorem dX5_ago_9 : decode cX5_ago 9 = .ok (.bipush (-109), 2) := by decide +kernel
theorem dX5_ago_11 : decode cX5_ago 11 = .ok (.goto 20, 3) := by decide +kernel
theorem dX5_ago_14 : decode cX5_ago 14 = .ok (.aload_n 0, 1) := by decide +kernel
theorem dX5_ago_15 : decode cX5_ago 15 = .ok (.getfield 7, 3) := by decide +kernel
theorem dX5_ago_18 : decode cX5_ago 18 = .ok (.bipush 6, 2) := by decide +kernel
theorem dX5_ago_20 : decode cX5_ago 20 = .ok (.iaload, 1) := by decide +kernel
theorem dX5_ago_21 : decode cX5_ago 21 = .ok (.aload_n 0, 1) := by decide +kernel
theorem dX5_ago_22 : decode cX5_ago 22 = .ok (.getfield 13, 3) := by decide +kernel
theorem dX5_ago_25 : decode cX5_ago 25 = .ok (.iload_n 1, 1) := by decide +kernel
theorem dX5_ago_26 : decode cX5_ago 26 = .ok (.iaload, 1) := by decide +kernel
theorem dX5_ago_27 : decode cX5_ago 27 = .ok (.bipush 8, 2) := by decide +kernel
theorem dX5_ago_29 : decode cX5_ago 29 = .ok (.idiv, 1) := by decide +kernel
theorem dX5_ago_30 : decode cX5_ago 30 = .ok (.isub, 1) := by decide +kernel
theorem dX5_ago_31 : decode cX5_ago 31 = .ok (.ireturn, 1) := by decide +kernel
set_option maxRecDepth 20000 in
theorem ggX5_lit_X5_ago : GoodIn wsX5_lit wsX5_ago := goodIn_r _ [7, 1, 2, 8, 9, 10, 11, 12, 13, 14, 15, 16, 17, 18, 19, 20, 21, 22, 23] (by decide +kernel) (by decide +kernel)
set_option maxRecDepth 20000 in
theorem gX5_lit_X5_ago : GoodIn wsX5_lit (wsV RX5 164 RX5 yX5_ago wsX5_ago) := goodIn_app (goodIn_of _ (by decide +kernel)) ggX5_lit_X5_ago
theorem dX5_lit_0 : decode cX5_lit 0 = .ok (.aload_n 0, 1) := by decide +kernel
theorem dX5_lit_1 : decode cX5_lit 1 = .ok (.getfield 13, 3) := by decide +kernel
theorem dX5_lit_4 : decode cX5_lit 4 = .ok (.iload_n 1, 1) := by decide +kernel
theorem dX5_lit_5 : decode cX5_lit 5 = .ok (.iaload, 1) := by decide +kernel
theorem dX5_lit_6 : decode cX5_lit 6 = .ok (.ifCond .eq 29, 3) := by decide +kernel
theorem dX5_lit_9 : decode cX5_lit 9 = .ok (.aload_n 0, 1) := by decide +kernel
theorem dX5_lit_10 : decode cX5_lit 10 = .ok (.iload_n 1, 1) := by decide +kernel
theorem dX5_lit_11 : decode cX5_lit 11 = .ok (.invokevirtual 164, 3) := by decide +kernel
theorem dX5_lit_14 : decode cX5_lit 14 = .ok (.aload_n 0, 1) := by decide +kernel
theorem dX5_lit_15 : decode cX5_lit 15 = .ok (.getfield 7, 3) := by decide +kernel
theorem dX5_lit_18 : decode cX5_lit 18 = .ok (.iconst 3, 1) := by decide +kernel
theorem dX5_lit_19 : decode cX5_lit 19 = .ok (.iaload, 1) := by decide +kernel
theorem dX5_lit_20 : decode cX5_lit 20 = .ok (.if_icmp .ge 15, 3) := by decide +kernel
theorem dX5_lit_23 : decode cX5_lit 23 = .ok (.aload_n 0, 1) := by decide +kernel
theorem dX5_lit_24 : decode cX5_lit 24 = .ok (.getfield 13, 3) := by decide +kernel
theorem dX5_lit_27 : decode cX5_lit 27 = .ok (.iload_n 1, 1) := by decide +kernel
theorem dX5_lit_28 : decode cX5_lit 28 = .ok (.iaload, 1) := by decide +kernel
theorem dX5_lit_29 : decode cX5_lit 29 = .ok (.bipush 7, 2) := by decide +kernel
theorem dX5_lit_31 : decode cX5_lit 31 = .ok (.iand, 1) := by decide +kernel
theorem dX5_lit_32 : decode cX5_lit 32 = .ok (.goto 4, 3) := by decide +kernel
theorem dX5_lit_35 : decode cX5_lit 35 = .ok (.iconst 0, 1) := by decide +kernel
theorem dX5_lit_36 : decode cX5_lit 36 = .ok (.ireturn, 1) := by decide +kernel
set_option maxRecDepth 20000 in
theorem ggX5_litPlaces_X5_lit : GoodIn wsX5_litPlaces wsX5_lit := goodIn_r _ [6, 7, 8, 9, 10, 11, 5, 12, 13, 14, 15, 16, 17, 18, 19, 20, 21, 22, 23, 24, 25, 26, 27, 28] (by decide +kernel) (by decide +kernel)
set_option maxRecDepth 20000 in
theorem gX5_litPlaces_X5_lit : GoodIn wsX5_litPlaces (wsV RX5 167 RX5 yX5_lit wsX5_lit) := goodIn_app (goodIn_of _ (by decide +kernel)) ggX5_litPlaces_X5_lit
theorem dX5_litPlaces_0 : decode cX5_litPlaces 0 = .ok (.iconst 0, 1) := by decide +kernel
theorem dX5_litPlaces_1 : decode cX5_litPlaces 1 = .ok (.istore_n 2, 1) := by decide +kernel
theorem dX5_litPlaces_2 : decode cX5_litPlaces 2 = .ok (.iconst 0, 1) := by decide +kernel
theorem dX5_litPlaces_3 : decode cX5_litPlaces 3 = .ok (.istore_n 3, 1) := by decide +kernel
theorem dX5_litPlaces_4 : decode cX5_litPlaces 4 = .ok (.iload_n 3, 1) := by decide +kernel
theorem dX5_litPlaces_5 : decode cX5_litPlaces 5 = .ok (.sipush 8640, 3) := by decide +kernel
theorem dX5_litPlaces_8 : decode cX5_litPlaces 8 = .ok (.if_icmp .ge 46, 3) := by decide +kernel
theorem dX5_litPlaces_11 : decode cX5_litPlaces 11 = .ok (.iload_n 2, 1) := by decide +kernel
theorem dX5_litPlaces_12 : decode cX5_litPlaces 12 = .ok (.iload_n 1, 1) := by decide +kernel
theorem dX5_litPlaces_13 : decode cX5_litPlaces 13 = .ok (.ifCond .eq 20, 3) := by decide +kernel
theorem dX5_litPlaces_16 : decode cX5_litPlaces 16 = .ok (.aload_n 0, 1) := by decide +kernel
theorem dX5_litPlaces_17 : decode cX5_litPlaces 17 = .ok (.iload_n 3, 1) := by decide +kernel
theorem dX5_litPlaces_18 : decode cX5_litPlaces 18 = .ok (.invokevirtual 167, 3) := by decide +kernel
theorem dX5_litPlaces_21 : decode cX5_litPlaces 21 = .ok (.aload_n 0, 1) := by decide +kernel
theorem dX5_litPlaces_22 : decode cX5_litPlaces 22 = .ok (.getfield 34, 3) := by decide +kernel
theorem dX5_litPlaces_25 : decode cX5_litPlaces 25 = .ok (.iload_n 3, 1) := by decide +kernel
theorem dX5_litPlaces_26 : decode cX5_litPlaces 26 = .ok (.iaload, 1) := by decide +kernel
theorem dX5_litPlaces_27 : decode cX5_litPlaces 27 = .ok (.if_icmp .ne 18, 3) := by decide +kernel
theorem dX5_litPlaces_30 : decode cX5_litPlaces 30 = .ok (.goto 11, 3) := by decide +kernel
theorem dX5_litPlaces_33 : decode cX5_litPlaces 33 = .ok (.aload_n 0, 1) := by decide +kernel
theorem dX5_litPlaces_34 : decode cX5_litPlaces 34 = .ok (.iload_n 3, 1) := by decide +kernel
theorem dX5_litPlaces_35 : decode cX5_litPlaces 35 = .ok (.invokevirtual 167, 3) := by decide +kernel
theorem dX5_litPlaces_38 : decode cX5_litPlaces 38 = .ok (.ifCond .eq 7, 3) := by decide +kernel
theorem dX5_litPlaces_41 : decode cX5_litPlaces 41 = .ok (.iconst 1, 1) := by decide +kernel
theorem dX5_litPlaces_42 : decode cX5_litPlaces 42 = .ok (.goto 4, 3) := by decide +kernel
theorem dX5_litPlaces_45 : decode cX5_litPlaces 45 = .ok (.iconst 0, 1) := by decide +kernel
theorem dX5_litPlaces_46 : decode cX5_litPlaces 46 = .ok (.iadd, 1) := by decide +kernel
theorem dX5_litPlaces_47 : decode cX5_litPlaces 47 = .ok (.istore_n 2, 1) := by decide +kernel
theorem dX5_litPlaces_48 : decode cX5_litPlaces 48 = .ok (.iinc 3 1, 3) := by decide +kernel
theorem dX5_litPlaces_51 : decode cX5_litPlaces 51 = .ok (.goto (-47), 3) := by decide +kernel
theorem dX5_litPlaces_54 : decode cX5_litPlaces 54 = .ok (.iload_n 2, 1) := by decide +kernel
theorem dX5_litPlaces_55 : decode cX5_litPlaces 55 = .ok (.ireturn, 1) := by decide +kernel
set_option maxRecDepth 20000 in
theorem ggX5_wrongPlaces_X5_layWants : GoodIn wsX5_wrongPlaces wsX5_layWants := goodIn_r _ [5, 6, 7, 8, 9, 4, 10, 11, 12, 13, 14, 15, 16, 17, 18, 19, 20, 21, 22, 23, 24, 25, 26, 27, 28, 29, 30, 31, 32, 33, 34, 35, 36, 50, 51, 52, 53, 54, 55, 56, 57, 58, 59, 60, 61, 62, 63, 64, 65] (by decide +kernel) (by decide +kernel)
set_option maxRecDepth 20000 in
theorem gX5_wrongPlaces_X5_layWants : GoodIn wsX5_wrongPlaces (wsV RX5 158 RX5 yX5_layWants wsX5_layWants) := goodIn_app (goodIn_of _ (by decide +kernel)) ggX5_wrongPlaces_X5_layWants
set_option maxRecDepth 20000 in
theorem ggX5_wrongPlaces_X5_litPlaces : GoodIn wsX5_wrongPlaces wsX5_litPlaces := goodIn_r _ [40, 6, 41, 42, 43, 4, 44, 45, 11, 46, 47, 48, 49, 50, 51, 52, 53, 54, 55, 56, 57, 58, 59, 60, 61, 62, 63, 64, 65] (by decide +kernel) (by decide +kernel)
set_option maxRecDepth 20000 in
theorem gX5_wrongPlaces_X5_litPlaces : GoodIn wsX5_wrongPlaces (wsV RX5 170 RX5 yX5_litPlaces wsX5_litPlaces) := goodIn_app (goodIn_of _ (by decide +kernel)) ggX5_wrongPlaces_X5_litPlaces
theorem dX5_wrongPlaces_0 : decode cX5_wrongPlaces 0 = .ok (.aload_n 0, 1) := by decide +kernel
theorem dX5_wrongPlaces_1 : decode cX5_wrongPlaces 1 = .ok (.invokevirtual 158, 3) := by decide +kernel
theorem dX5_wrongPlaces_4 : decode cX5_wrongPlaces 4 = .ok (.sipush 8640, 3) := by decide +kernel
theorem dX5_wrongPlaces_7 : decode cX5_wrongPlaces 7 = .ok (.aload_n 0, 1) := by decide +kernel
theorem dX5_wrongPlaces_8 : decode cX5_wrongPlaces 8 = .ok (.iconst 1, 1) := by decide +kernel
theorem dX5_wrongPlaces_9 : decode cX5_wrongPlaces 9 = .ok (.invokevirtual 170, 3) := by decide +kernel
theorem dX5_wrongPlaces_12 : decode cX5_wrongPlaces 12 = .ok (.isub, 1) := by decide +kernel
theorem dX5_wrongPlaces_13 : decode cX5_wrongPlaces 13 = .ok (.ireturn, 1) := by decide +kernel
set_option maxRecDepth 20000 in
theorem ggX5_count_X5_litPlaces : GoodIn wsX5_count wsX5_litPlaces := goodIn_r _ [8, 9, 10, 11, 12, 7, 13, 14, 1, 15, 16, 17, 18, 56, 57, 58, 59, 60, 61, 62, 63, 64, 65, 66, 67, 68, 69, 70, 71] (by decide +kernel) (by decide +kernel)
set_option maxRecDepth 20000 in
theorem gX5_count_X5_litPlaces : GoodIn wsX5_count (wsV RX5 170 RX5 yX5_litPlaces wsX5_litPlaces) := goodIn_app (goodIn_of _ (by decide +kernel)) ggX5_count_X5_litPlaces
set_option maxRecDepth 20000 in
theorem ggX5_count_X5_wrongPlaces : GoodIn wsX5_count wsX5_wrongPlaces := goodIn_r _ [22, 23, 24, 25, 7, 26, 9, 27, 28, 29, 30, 1, 31, 32, 33, 34, 35, 36, 37, 38, 39, 40, 41, 42, 43, 44, 45, 46, 47, 48, 49, 50, 51, 52, 53, 54, 55, 4, 5, 6, 8, 10, 11, 12, 13, 14, 15, 16, 17, 18, 56, 57, 58, 59, 60, 61, 62, 63, 64, 65, 66, 67, 68, 69, 70, 71] (by decide +kernel) (by decide +kernel)
set_option maxRecDepth 20000 in
theorem gX5_count_X5_wrongPlaces : GoodIn wsX5_count (wsV RX5 174 RX5 yX5_wrongPlaces wsX5_wrongPlaces) := goodIn_app (goodIn_of _ (by decide +kernel)) ggX5_count_X5_wrongPlaces
theorem dX5_count_0 : decode cX5_count 0 = .ok (.iload_n 1, 1) := by decide +kernel
theorem dX5_count_1 : decode cX5_count 1 = .ok (.tableswitch 122 0 9 #[55, 63, 70, 77, 85, 93, 99, 104, 112, 117], 55) := by decide +kernel
theorem dX5_count_56 : decode cX5_count 56 = .ok (.aload_n 0, 1) := by decide +kernel
theorem dX5_count_57 : decode cX5_count 57 = .ok (.getfield 7, 3) := by decide +kernel
theorem dX5_count_60 : decode cX5_count 60 = .ok (.bipush 11, 2) := by decide +kernel
theorem dX5_count_62 : decode cX5_count 62 = .ok (.iaload, 1) := by decide +kernel
theorem dX5_count_63 : decode cX5_count 63 = .ok (.ireturn, 1) := by decide +kernel
theorem dX5_count_64 : decode cX5_count 64 = .ok (.aload_n 0, 1) := by decide +kernel
theorem dX5_count_65 : decode cX5_count 65 = .ok (.getfield 7, 3) := by decide +kernel
theorem dX5_count_68 : decode cX5_count 68 = .ok (.iconst 4, 1) := by decide +kernel
theorem dX5_count_69 : decode cX5_count 69 = .ok (.iaload, 1) := by decide +kernel
theorem dX5_count_70 : decode cX5_count 70 = .ok (.ireturn, 1) := by decide +kernel
theorem dX5_count_71 : decode cX5_count 71 = .ok (.aload_n 0, 1) := by decide +kernel
theorem dX5_count_72 : decode cX5_count 72 = .ok (.getfield 7, 3) := by decide +kernel
theorem dX5_count_75 : decode cX5_count 75 = .ok (.iconst 5, 1) := by decide +kernel
theorem dX5_count_76 : decode cX5_count 76 = .ok (.iaload, 1) := by decide +kernel
theorem dX5_count_77 : decode cX5_count 77 = .ok (.ireturn, 1) := by decide +kernel
theorem dX5_count_78 : decode cX5_count 78 = .ok (.aload_n 0, 1) := by decide +kernel
theorem dX5_count_79 : decode cX5_count 79 = .ok (.getfield 7, 3) := by decide +kernel
theorem dX5_count_82 : decode cX5_count 82 = .ok (.bipush 6, 2) := by decide +kernel
theorem dX5_count_84 : decode cX5_count 84 = .ok (.iaload, 1) := by decide +kernel
theorem dX5_count_85 : decode cX5_count 85 = .ok (.ireturn, 1) := by decide +kernel
theorem dX5_count_86 : decode cX5_count 86 = .ok (.aload_n 0, 1) := by decide +kernel
theorem dX5_count_87 : decode cX5_count 87 = .ok (.getfield 7, 3) := by decide +kernel
theorem dX5_count_90 : decode cX5_count 90 = .ok (.bipush 7, 2) := by decide +kernel
theorem dX5_count_92 : decode cX5_count 92 = .ok (.iaload, 1) := by decide +kernel
theorem dX5_count_93 : decode cX5_count 93 = .ok (.ireturn, 1) := by decide +kernel
theorem dX5_count_94 : decode cX5_count 94 = .ok (.aload_n 0, 1) := by decide +kernel
theorem dX5_count_95 : decode cX5_count 95 = .ok (.iconst 0, 1) := by decide +kernel
theorem dX5_count_96 : decode cX5_count 96 = .ok (.invokevirtual 170, 3) := by decide +kernel
theorem dX5_count_99 : decode cX5_count 99 = .ok (.ireturn, 1) := by decide +kernel
theorem dX5_count_100 : decode cX5_count 100 = .ok (.aload_n 0, 1) := by decide +kernel
theorem dX5_count_101 : decode cX5_count 101 = .ok (.invokevirtual 174, 3) := by decide +kernel
theorem dX5_count_104 : decode cX5_count 104 = .ok (.ireturn, 1) := by decide +kernel
theorem dX5_count_105 : decode cX5_count 105 = .ok (.aload_n 0, 1) := by decide +kernel
theorem dX5_count_106 : decode cX5_count 106 = .ok (.getfield 7, 3) := by decide +kernel
theorem dX5_count_109 : decode cX5_count 109 = .ok (.bipush 8, 2) := by decide +kernel
theorem dX5_count_111 : decode cX5_count 111 = .ok (.iaload, 1) := by decide +kernel
theorem dX5_count_112 : decode cX5_count 112 = .ok (.ireturn, 1) := by decide +kernel
theorem dX5_count_113 : decode cX5_count 113 = .ok (.aload_n 0, 1) := by decide +kernel
theorem dX5_count_114 : decode cX5_count 114 = .ok (.getfield 40, 3) := by decide +kernel
theorem dX5_count_117 : decode cX5_count 117 = .ok (.ireturn, 1) := by decide +kernel
theorem dX5_count_118 : decode cX5_count 118 = .ok (.aload_n 0, 1) := by decide +kernel
theorem dX5_count_119 : decode cX5_count 119 = .ok (.getfield 100, 3) := by decide +kernel
theorem dX5_count_122 : decode cX5_count 122 = .ok (.ireturn, 1) := by decide +kernel
theorem dX5_count_123 : decode cX5_count 123 = .ok (.bipush (-101), 2) := by decide +kernel
theorem dX5_count_125 : decode cX5_count 125 = .ok (.ireturn, 1) := by decide +kernel
set_option maxRecDepth 20000 in
theorem ggX5_setting_X5_in : GoodIn wsX5_setting wsX5_in := goodIn_r _ [5] (by decide +kernel) (by decide +kernel)
set_option maxRecDepth 20000 in
theorem gX5_setting_X5_in : GoodIn wsX5_setting (va_wsS RX5 56 yX5_in wsX5_in) := goodIn_app (goodIn_of _ (by decide +kernel)) ggX5_setting_X5_in
theorem dX5_setting_0 : decode cX5_setting 0 = .ok (.iload_n 1, 1) := by decide +kernel
theorem dX5_setting_1 : decode cX5_setting 1 = .ok (.iconst 0, 1) := by decide +kernel
theorem dX5_setting_2 : decode cX5_setting 2 = .ok (.iconst 3, 1) := by decide +kernel
theorem dX5_setting_3 : decode cX5_setting 3 = .ok (.invokestatic 56, 3) := by decide +kernel
theorem dX5_setting_6 : decode cX5_setting 6 = .ok (.ifCond .eq 12, 3) := by decide +kernel
theorem dX5_setting_9 : decode cX5_setting 9 = .ok (.aload_n 0, 1) := by decide +kernel
theorem dX5_setting_10 : decode cX5_setting 10 = .ok (.getfield 7, 3) := by decide +kernel
theorem dX5_setting_13 : decode cX5_setting 13 = .ok (.iload_n 1, 1) := by decide +kernel
theorem dX5_setting_14 : decode cX5_setting 14 = .ok (.iaload, 1) := by decide +kernel
theorem dX5_setting_15 : decode cX5_setting 15 = .ok (.goto 5, 3) := by decide +kernel
theorem dX5_setting_18 : decode cX5_setting 18 = .ok (.bipush (-101), 2) := by decide +kernel
theorem dX5_setting_20 : decode cX5_setting 20 = .ok (.ireturn, 1) := by decide +kernel
set_option maxRecDepth 20000 in
theorem ggX5_bright_X5_of : GoodIn wsX5_bright wsX5_of := goodIn_r _ [5, 6, 14, 15, 16, 17, 18, 19, 20, 21, 22, 23, 24, 25, 26, 27, 28, 29] (by decide +kernel) (by decide +kernel)
set_option maxRecDepth 20000 in
theorem gX5_bright_X5_of : GoodIn wsX5_bright (wsV RX5 64 RX5 yX5_of wsX5_of) := goodIn_app (goodIn_of _ (by decide +kernel)) ggX5_bright_X5_of
set_option maxRecDepth 20000 in
theorem ggX5_bright_X5_colorOf : GoodIn wsX5_bright wsX5_colorOf := goodIn_r _ [10, 6, 11, 12, 4, 13, 14, 15, 16, 17, 18, 19, 20, 21, 22, 23, 24, 25, 26, 27, 28, 29] (by decide +kernel) (by decide +kernel)
set_option maxRecDepth 20000 in
theorem gX5_bright_X5_colorOf : GoodIn wsX5_bright (wsV RX5 80 RX5 yX5_colorOf wsX5_colorOf) := goodIn_app (goodIn_of _ (by decide +kernel)) ggX5_bright_X5_colorOf
theorem dX5_bright_0 : decode cX5_bright 0 = .ok (.iconst 0, 1) := by decide +kernel
theorem dX5_bright_1 : decode cX5_bright 1 = .ok (.istore_n 2, 1) := by decide +kernel
theorem dX5_bright_2 : decode cX5_bright 2 = .ok (.iconst 0, 1) := by decide +kernel
theorem dX5_bright_3 : decode cX5_bright 3 = .ok (.istore_n 3, 1) := by decide +kernel
theorem dX5_bright_4 : decode cX5_bright 4 = .ok (.iload_n 3, 1) := by decide +kernel
theorem dX5_bright_5 : decode cX5_bright 5 = .ok (.bipush 12, 2) := by decide +kernel
theorem dX5_bright_7 : decode cX5_bright 7 = .ok (.aload_n 0, 1) := by decide +kernel
theorem dX5_bright_8 : decode cX5_bright 8 = .ok (.iload_n 1, 1) := by decide +kernel
theorem dX5_bright_9 : decode cX5_bright 9 = .ok (.iconst 0, 1) := by decide +kernel
theorem dX5_bright_10 : decode cX5_bright 10 = .ok (.invokevirtual 64, 3) := by decide +kernel
theorem dX5_bright_13 : decode cX5_bright 13 = .ok (.imul, 1) := by decide +kernel
theorem dX5_bright_14 : decode cX5_bright 14 = .ok (.if_icmp .ge 33, 3) := by decide +kernel
theorem dX5_bright_17 : decode cX5_bright 17 = .ok (.iload_n 2, 1) := by decide +kernel
theorem dX5_bright_18 : decode cX5_bright 18 = .ok (.aload_n 0, 1) := by decide +kernel
theorem dX5_bright_19 : decode cX5_bright 19 = .ok (.iload_n 1, 1) := by decide +kernel
theorem dX5_bright_20 : decode cX5_bright 20 = .ok (.iload_n 3, 1) := by decide +kernel
theorem dX5_bright_21 : decode cX5_bright 21 = .ok (.bipush 12, 2) := by decide +kernel
theorem dX5_bright_23 : decode cX5_bright 23 = .ok (.idiv, 1) := by decide +kernel
theorem dX5_bright_24 : decode cX5_bright 24 = .ok (.iload_n 3, 1) := by decide +kernel
theorem dX5_bright_25 : decode cX5_bright 25 = .ok (.bipush 12, 2) := by decide +kernel
theorem dX5_bright_27 : decode cX5_bright 27 = .ok (.irem, 1) := by decide +kernel
theorem dX5_bright_28 : decode cX5_bright 28 = .ok (.invokevirtual 80, 3) := by decide +kernel
theorem dX5_bright_31 : decode cX5_bright 31 = .ok (.ifCond .ne 7, 3) := by decide +kernel
theorem dX5_bright_34 : decode cX5_bright 34 = .ok (.iconst 0, 1) := by decide +kernel
theorem dX5_bright_35 : decode cX5_bright 35 = .ok (.goto 4, 3) := by decide +kernel
theorem dX5_bright_38 : decode cX5_bright 38 = .ok (.iconst 1, 1) := by decide +kernel
theorem dX5_bright_39 : decode cX5_bright 39 = .ok (.iadd, 1) := by decide +kernel
theorem dX5_bright_40 : decode cX5_bright 40 = .ok (.istore_n 2, 1) := by decide +kernel
theorem dX5_bright_41 : decode cX5_bright 41 = .ok (.iinc 3 1, 3) := by decide +kernel
theorem dX5_bright_44 : decode cX5_bright 44 = .ok (.goto (-40), 3) := by decide +kernel
theorem dX5_bright_47 : decode cX5_bright 47 = .ok (.iload_n 2, 1) := by decide +kernel
theorem dX5_bright_48 : decode cX5_bright 48 = .ok (.ireturn, 1) := by decide +kernel
set_option maxRecDepth 20000 in
theorem ggX5_picture_X5_isPicture : GoodIn wsX5_picture wsX5_isPicture := goodIn_r _ [5, 6, 7, 8, 4, 9, 32, 33, 34, 35, 36, 37, 38, 39, 40, 41, 42, 43, 44, 45, 46, 47] (by decide +kernel) (by decide +kernel)
set_option maxRecDepth 20000 in
theorem gX5_picture_X5_isPicture : GoodIn wsX5_picture (wsV RX5 86 RX5 yX5_isPicture wsX5_isPicture) := goodIn_app (goodIn_of _ (by decide +kernel)) ggX5_picture_X5_isPicture
set_option maxRecDepth 20000 in
theorem ggX5_picture_X5_in : GoodIn wsX5_picture wsX5_in := goodIn_r _ [9] (by decide +kernel) (by decide +kernel)
set_option maxRecDepth 20000 in
theorem gX5_picture_X5_in : GoodIn wsX5_picture (va_wsS RX5 56 yX5_in wsX5_in) := goodIn_app (goodIn_of _ (by decide +kernel)) ggX5_picture_X5_in
set_option maxRecDepth 20000 in
theorem ggX5_picture_X5_of : GoodIn wsX5_picture wsX5_of := goodIn_r _ [13, 6, 32, 33, 34, 35, 36, 37, 38, 39, 40, 41, 42, 43, 44, 45, 46, 47] (by decide +kernel) (by decide +kernel)
set_option maxRecDepth 20000 in
theorem gX5_picture_X5_of : GoodIn wsX5_picture (wsV RX5 64 RX5 yX5_of wsX5_of) := goodIn_app (goodIn_of _ (by decide +kernel)) ggX5_picture_X5_of
set_option maxRecDepth 20000 in
theorem ggX5_picture_X5_bright : GoodIn wsX5_picture wsX5_bright := goodIn_r _ [17, 10, 11, 12, 4, 13, 6, 18, 19, 20, 21, 22, 23, 24, 32, 33, 34, 35, 36, 37, 38, 39, 40, 41, 42, 43, 44, 45, 46, 47] (by decide +kernel) (by decide +kernel)
set_option maxRecDepth 20000 in
theorem gX5_picture_X5_bright : GoodIn wsX5_picture (wsV RX5 177 RX5 yX5_bright wsX5_bright) := goodIn_app (goodIn_of _ (by decide +kernel)) ggX5_picture_X5_bright
set_option maxRecDepth 20000 in
theorem ggX5_picture_X5_covered : GoodIn wsX5_picture wsX5_covered := goodIn_r _ [28, 10, 11, 12, 4, 13, 6, 29, 30, 31, 32, 33, 34, 35, 36, 37, 38, 39, 40, 41, 42, 43, 44, 45, 46, 47] (by decide +kernel) (by decide +kernel)
set_option maxRecDepth 20000 in
theorem gX5_picture_X5_covered : GoodIn wsX5_picture (wsV RX5 74 RX5 yX5_covered wsX5_covered) := goodIn_app (goodIn_of _ (by decide +kernel)) ggX5_picture_X5_covered
theorem dX5_picture_0 : decode cX5_picture 0 = .ok (.aload_n 0, 1) := by decide +kernel
theorem dX5_picture_1 : decode cX5_picture 1 = .ok (.iload_n 1, 1) := by decide +kernel
theorem dX5_picture_2 : decode cX5_picture 2 = .ok (.invokevirtual 86, 3) := by decide +kernel
theorem dX5_picture_5 : decode cX5_picture 5 = .ok (.ifCond .eq 12, 3) := by decide +kernel
theorem dX5_picture_8 : decode cX5_picture 8 = .ok (.iload_n 2, 1) := by decide +kernel
theorem dX5_picture_9 : decode cX5_picture 9 = .ok (.iconst 0, 1) := by decide +kernel
theorem dX5_picture_10 : decode cX5_picture 10 = .ok (.iconst 5, 1) := by decide +kernel
theorem dX5_picture_11 : decode cX5_picture 11 = .ok (.invokestatic 56, 3) := by decide +kernel
theorem dX5_picture_14 : decode cX5_picture 14 = .ok (.ifCond .ne 6, 3) := by decide +kernel
theorem dX5_picture_17 : decode cX5_picture 17 = .ok (.bipush (-101), 2) := by decide +kernel
theorem dX5_picture_19 : decode cX5_picture 19 = .ok (.ireturn, 1) := by decide +kernel
theorem dX5_picture_20 : decode cX5_picture 20 = .ok (.iload_n 2, 1) := by decide +kernel
theorem dX5_picture_21 : decode cX5_picture 21 = .ok (.iconst 4, 1) := by decide +kernel
theorem dX5_picture_22 : decode cX5_picture 22 = .ok (.if_icmp .ge 12, 3) := by decide +kernel
theorem dX5_picture_25 : decode cX5_picture 25 = .ok (.aload_n 0, 1) := by decide +kernel
theorem dX5_picture_26 : decode cX5_picture 26 = .ok (.iload_n 1, 1) := by decide +kernel
theorem dX5_picture_27 : decode cX5_picture 27 = .ok (.iload_n 2, 1) := by decide +kernel
theorem dX5_picture_28 : decode cX5_picture 28 = .ok (.invokevirtual 64, 3) := by decide +kernel
theorem dX5_picture_31 : decode cX5_picture 31 = .ok (.goto 21, 3) := by decide +kernel
theorem dX5_picture_34 : decode cX5_picture 34 = .ok (.iload_n 2, 1) := by decide +kernel
theorem dX5_picture_35 : decode cX5_picture 35 = .ok (.iconst 4, 1) := by decide +kernel
theorem dX5_picture_36 : decode cX5_picture 36 = .ok (.if_icmp .ne 11, 3) := by decide +kernel
theorem dX5_picture_39 : decode cX5_picture 39 = .ok (.aload_n 0, 1) := by decide +kernel
theorem dX5_picture_40 : decode cX5_picture 40 = .ok (.iload_n 1, 1) := by decide +kernel
theorem dX5_picture_41 : decode cX5_picture 41 = .ok (.invokevirtual 177, 3) := by decide +kernel
theorem dX5_picture_44 : decode cX5_picture 44 = .ok (.goto 8, 3) := by decide +kernel
theorem dX5_picture_47 : decode cX5_picture 47 = .ok (.aload_n 0, 1) := by decide +kernel
theorem dX5_picture_48 : decode cX5_picture 48 = .ok (.iload_n 1, 1) := by decide +kernel
theorem dX5_picture_49 : decode cX5_picture 49 = .ok (.invokevirtual 74, 3) := by decide +kernel
theorem dX5_picture_52 : decode cX5_picture 52 = .ok (.ireturn, 1) := by decide +kernel
set_option maxRecDepth 20000 in
theorem ggX5_color_X5_isPicture : GoodIn wsX5_color wsX5_isPicture := goodIn_r _ [5, 6, 7, 8, 4, 9, 24, 25, 26, 27, 28, 29, 30, 31, 32, 33, 34, 35, 36, 37, 38, 39] (by decide +kernel) (by decide +kernel)
set_option maxRecDepth 20000 in
theorem gX5_color_X5_isPicture : GoodIn wsX5_color (wsV RX5 86 RX5 yX5_isPicture wsX5_isPicture) := goodIn_app (goodIn_of _ (by decide +kernel)) ggX5_color_X5_isPicture
set_option maxRecDepth 20000 in
theorem ggX5_color_X5_in : GoodIn wsX5_color wsX5_in := goodIn_r _ [9] (by decide +kernel) (by decide +kernel)
set_option maxRecDepth 20000 in
theorem gX5_color_X5_in : GoodIn wsX5_color (va_wsS RX5 56 yX5_in wsX5_in) := goodIn_app (goodIn_of _ (by decide +kernel)) ggX5_color_X5_in
set_option maxRecDepth 20000 in
theorem ggX5_color_X5_isLight : GoodIn wsX5_color wsX5_isLight := goodIn_r _ [12, 7, 8, 4, 9] (by decide +kernel) (by decide +kernel)
set_option maxRecDepth 20000 in
theorem gX5_color_X5_isLight : GoodIn wsX5_color (va_wsS RX5 90 yX5_isLight wsX5_isLight) := goodIn_app (goodIn_of _ (by decide +kernel)) ggX5_color_X5_isLight
set_option maxRecDepth 20000 in
theorem ggX5_color_X5_of : GoodIn wsX5_color wsX5_of := goodIn_r _ [16, 6, 24, 25, 26, 27, 28, 29, 30, 31, 32, 33, 34, 35, 36, 37, 38, 39] (by decide +kernel) (by decide +kernel)
set_option maxRecDepth 20000 in
theorem gX5_color_X5_of : GoodIn wsX5_color (wsV RX5 64 RX5 yX5_of wsX5_of) := goodIn_app (goodIn_of _ (by decide +kernel)) ggX5_color_X5_of
set_option maxRecDepth 20000 in
theorem ggX5_color_X5_colorOf : GoodIn wsX5_color wsX5_colorOf := goodIn_r _ [20, 6, 21, 22, 4, 23, 24, 25, 26, 27, 28, 29, 30, 31, 32, 33, 34, 35, 36, 37, 38, 39] (by decide +kernel) (by decide +kernel)
set_option maxRecDepth 20000 in
theorem gX5_color_X5_colorOf : GoodIn wsX5_color (wsV RX5 80 RX5 yX5_colorOf wsX5_colorOf) := goodIn_app (goodIn_of _ (by decide +kernel)) ggX5_color_X5_colorOf
theorem dX5_color_0 : decode cX5_color 0 = .ok (.aload_n 0, 1) := by decide +kernel
theorem dX5_color_1 : decode cX5_color 1 = .ok (.iload_n 1, 1) := by decide +kernel
theorem dX5_color_2 : decode cX5_color 2 = .ok (.invokevirtual 86, 3) := by decide +kernel
theorem dX5_color_5 : decode cX5_color 5 = .ok (.ifCond .eq 20, 3) := by decide +kernel
theorem dX5_color_8 : decode cX5_color 8 = .ok (.iload_n 2, 1) := by decide +kernel
theorem dX5_color_9 : decode cX5_color 9 = .ok (.iconst 0, 1) := by decide +kernel
theorem dX5_color_10 : decode cX5_color 10 = .ok (.bipush 39, 2) := by decide +kernel
theorem dX5_color_12 : decode cX5_color 12 = .ok (.invokestatic 56, 3) := by decide +kernel
theorem dX5_color_15 : decode cX5_color 15 = .ok (.ifCond .eq 10, 3) := by decide +kernel
theorem dX5_color_18 : decode cX5_color 18 = .ok (.iload_n 3, 1) := by decide +kernel
theorem dX5_color_19 : decode cX5_color 19 = .ok (.invokestatic 90, 3) := by decide +kernel
theorem dX5_color_22 : decode cX5_color 22 = .ok (.ifCond .ne 6, 3) := by decide +kernel
theorem dX5_color_25 : decode cX5_color 25 = .ok (.bipush (-101), 2) := by decide +kernel
theorem dX5_color_27 : decode cX5_color 27 = .ok (.ireturn, 1) := by decide +kernel
theorem dX5_color_28 : decode cX5_color 28 = .ok (.iload_n 2, 1) := by decide +kernel
theorem dX5_color_29 : decode cX5_color 29 = .ok (.aload_n 0, 1) := by decide +kernel
theorem dX5_color_30 : decode cX5_color 30 = .ok (.iload_n 1, 1) := by decide +kernel
theorem dX5_color_31 : decode cX5_color 31 = .ok (.iconst 0, 1) := by decide +kernel
theorem dX5_color_32 : decode cX5_color 32 = .ok (.invokevirtual 64, 3) := by decide +kernel
theorem dX5_color_35 : decode cX5_color 35 = .ok (.if_icmp .ge 13, 3) := by decide +kernel
theorem dX5_color_38 : decode cX5_color 38 = .ok (.aload_n 0, 1) := by decide +kernel
theorem dX5_color_39 : decode cX5_color 39 = .ok (.iload_n 1, 1) := by decide +kernel
theorem dX5_color_40 : decode cX5_color 40 = .ok (.iload_n 2, 1) := by decide +kernel
theorem dX5_color_41 : decode cX5_color 41 = .ok (.iload_n 3, 1) := by decide +kernel
theorem dX5_color_42 : decode cX5_color 42 = .ok (.invokevirtual 80, 3) := by decide +kernel
theorem dX5_color_45 : decode cX5_color 45 = .ok (.goto 5, 3) := by decide +kernel
theorem dX5_color_48 : decode cX5_color 48 = .ok (.bipush (-109), 2) := by decide +kernel
theorem dX5_color_50 : decode cX5_color 50 = .ok (.ireturn, 1) := by decide +kernel
set_option maxRecDepth 20000 in
theorem ggX5_broken_X5_in : GoodIn wsX5_broken wsX5_in := goodIn_r _ [4] (by decide +kernel) (by decide +kernel)
set_option maxRecDepth 20000 in
theorem gX5_broken_X5_in : GoodIn wsX5_broken (va_wsS RX5 56 yX5_in wsX5_in) := goodIn_app (goodIn_of _ (by decide +kernel)) ggX5_broken_X5_in
set_option maxRecDepth 20000 in
theorem ggX5_broken_X5_isLight : GoodIn wsX5_broken wsX5_isLight := goodIn_r _ [7, 1, 2, 3, 4] (by decide +kernel) (by decide +kernel)
set_option maxRecDepth 20000 in
theorem gX5_broken_X5_isLight : GoodIn wsX5_broken (va_wsS RX5 90 yX5_isLight wsX5_isLight) := goodIn_app (goodIn_of _ (by decide +kernel)) ggX5_broken_X5_isLight
set_option maxRecDepth 20000 in
theorem ggX5_broken_X5_isBroken : GoodIn wsX5_broken wsX5_isBroken := goodIn_r _ [11, 12, 13, 14, 15, 16, 17, 18, 19, 20, 21, 22, 23, 24, 25, 26, 27, 28] (by decide +kernel) (by decide +kernel)
set_option maxRecDepth 20000 in
theorem gX5_broken_X5_isBroken : GoodIn wsX5_broken (wsV RX5 136 RX5 yX5_isBroken wsX5_isBroken) := goodIn_app (goodIn_of _ (by decide +kernel)) ggX5_broken_X5_isBroken
theorem dX5_broken_0 : decode cX5_broken 0 = .ok (.iload_n 1, 1) := by decide +kernel
theorem dX5_broken_1 : decode cX5_broken 1 = .ok (.iconst 0, 1) := by decide +kernel
theorem dX5_broken_2 : decode cX5_broken 2 = .ok (.iconst 1, 1) := by decide +kernel
theorem dX5_broken_3 : decode cX5_broken 3 = .ok (.invokestatic 56, 3) := by decide +kernel
theorem dX5_broken_6 : decode cX5_broken 6 = .ok (.ifCond .eq 10, 3) := by decide +kernel
theorem dX5_broken_9 : decode cX5_broken 9 = .ok (.iload_n 2, 1) := by decide +kernel
theorem dX5_broken_10 : decode cX5_broken 10 = .ok (.invokestatic 90, 3) := by decide +kernel
theorem dX5_broken_13 : decode cX5_broken 13 = .ok (.ifCond .ne 6, 3) := by decide +kernel
theorem dX5_broken_16 : decode cX5_broken 16 = .ok (.bipush (-101), 2) := by decide +kernel
theorem dX5_broken_18 : decode cX5_broken 18 = .ok (.ireturn, 1) := by decide +kernel
theorem dX5_broken_19 : decode cX5_broken 19 = .ok (.aload_n 0, 1) := by decide +kernel
theorem dX5_broken_20 : decode cX5_broken 20 = .ok (.iload_n 1, 1) := by decide +kernel
theorem dX5_broken_21 : decode cX5_broken 21 = .ok (.iload_n 2, 1) := by decide +kernel
theorem dX5_broken_22 : decode cX5_broken 22 = .ok (.invokevirtual 136, 3) := by decide +kernel
theorem dX5_broken_25 : decode cX5_broken 25 = .ok (.ifCond .eq 7, 3) := by decide +kernel
theorem dX5_broken_28 : decode cX5_broken 28 = .ok (.iconst 1, 1) := by decide +kernel
theorem dX5_broken_29 : decode cX5_broken 29 = .ok (.goto 4, 3) := by decide +kernel
theorem dX5_broken_32 : decode cX5_broken 32 = .ok (.iconst 0, 1) := by decide +kernel
theorem dX5_broken_33 : decode cX5_broken 33 = .ok (.ireturn, 1) := by decide +kernel
set_option maxRecDepth 20000 in
theorem ggX5_place_X5_in : GoodIn wsX5_place wsX5_in := goodIn_r _ [4] (by decide +kernel) (by decide +kernel)
set_option maxRecDepth 20000 in
theorem gX5_place_X5_in : GoodIn wsX5_place (va_wsS RX5 56 yX5_in wsX5_in) := goodIn_app (goodIn_of _ (by decide +kernel)) ggX5_place_X5_in
set_option maxRecDepth 20000 in
theorem ggX5_place_X5_isLight : GoodIn wsX5_place wsX5_isLight := goodIn_r _ [7, 1, 2, 3, 4] (by decide +kernel) (by decide +kernel)
set_option maxRecDepth 20000 in
theorem gX5_place_X5_isLight : GoodIn wsX5_place (va_wsS RX5 90 yX5_isLight wsX5_isLight) := goodIn_app (goodIn_of _ (by decide +kernel)) ggX5_place_X5_isLight
set_option maxRecDepth 20000 in
theorem ggX5_place_X5_wanted : GoodIn wsX5_place wsX5_wanted := goodIn_r _ [11, 12, 13, 14, 15, 3, 16, 17, 18, 19, 20, 21, 22, 23, 24, 25, 26, 27, 28, 29, 30, 31, 32, 33, 34, 35, 36, 37, 47, 48, 49, 50, 51, 52, 53, 54, 55, 56, 57, 58, 59, 60, 61, 62] (by decide +kernel) (by decide +kernel)
set_option maxRecDepth 20000 in
theorem gX5_place_X5_wanted : GoodIn wsX5_place (wsV RX5 143 RX5 yX5_wanted wsX5_wanted) := goodIn_app (goodIn_of _ (by decide +kernel)) ggX5_place_X5_wanted
set_option maxRecDepth 20000 in
theorem ggX5_place_X5_lit : GoodIn wsX5_place wsX5_lit := goodIn_r _ [41, 42, 12, 43, 44, 45, 3, 46, 47, 48, 49, 50, 51, 52, 53, 54, 55, 56, 57, 58, 59, 60, 61, 62] (by decide +kernel) (by decide +kernel)
set_option maxRecDepth 20000 in
theorem gX5_place_X5_lit : GoodIn wsX5_place (wsV RX5 167 RX5 yX5_lit wsX5_lit) := goodIn_app (goodIn_of _ (by decide +kernel)) ggX5_place_X5_lit
set_option maxRecDepth 20000 in
theorem ggX5_place_X5_ago : GoodIn wsX5_place wsX5_ago := goodIn_r _ [46, 42, 12, 47, 48, 49, 50, 51, 52, 53, 54, 55, 56, 57, 58, 59, 60, 61, 62] (by decide +kernel) (by decide +kernel)
set_option maxRecDepth 20000 in
theorem gX5_place_X5_ago : GoodIn wsX5_place (wsV RX5 164 RX5 yX5_ago wsX5_ago) := goodIn_app (goodIn_of _ (by decide +kernel)) ggX5_place_X5_ago
theorem dX5_place_0 : decode cX5_place 0 = .ok (.iload_n 1, 1) := by decide +kernel
theorem dX5_place_1 : decode cX5_place 1 = .ok (.iconst 0, 1) := by decide +kernel
theorem dX5_place_2 : decode cX5_place 2 = .ok (.sipush 719, 3) := by decide +kernel
theorem dX5_place_5 : decode cX5_place 5 = .ok (.invokestatic 56, 3) := by decide +kernel
theorem dX5_place_8 : decode cX5_place 8 = .ok (.ifCond .eq 19, 3) := by decide +kernel
theorem dX5_place_11 : decode cX5_place 11 = .ok (.iload_n 2, 1) := by decide +kernel
theorem dX5_place_12 : decode cX5_place 12 = .ok (.invokestatic 90, 3) := by decide +kernel
theorem dX5_place_15 : decode cX5_place 15 = .ok (.ifCond .eq 12, 3) := by decide +kernel
theorem dX5_place_18 : decode cX5_place 18 = .ok (.iload_n 3, 1) := by decide +kernel
theorem dX5_place_19 : decode cX5_place 19 = .ok (.iconst 0, 1) := by decide +kernel
theorem dX5_place_20 : decode cX5_place 20 = .ok (.iconst 2, 1) := by decide +kernel
theorem dX5_place_21 : decode cX5_place 21 = .ok (.invokestatic 56, 3) := by decide +kernel
theorem dX5_place_24 : decode cX5_place 24 = .ok (.ifCond .ne 6, 3) := by decide +kernel
theorem dX5_place_27 : decode cX5_place 27 = .ok (.bipush (-101), 2) := by decide +kernel
theorem dX5_place_29 : decode cX5_place 29 = .ok (.ireturn, 1) := by decide +kernel
theorem dX5_place_30 : decode cX5_place 30 = .ok (.bipush 12, 2) := by decide +kernel
theorem dX5_place_32 : decode cX5_place 32 = .ok (.iload_n 1, 1) := by decide +kernel
theorem dX5_place_33 : decode cX5_place 33 = .ok (.imul, 1) := by decide +kernel
theorem dX5_place_34 : decode cX5_place 34 = .ok (.iload_n 2, 1) := by decide +kernel
theorem dX5_place_35 : decode cX5_place 35 = .ok (.iadd, 1) := by decide +kernel
theorem dX5_place_36 : decode cX5_place 36 = .ok (.istore 4, 2) := by decide +kernel
theorem dX5_place_38 : decode cX5_place 38 = .ok (.iload_n 3, 1) := by decide +kernel
theorem dX5_place_39 : decode cX5_place 39 = .ok (.ifCond .ne 12, 3) := by decide +kernel
theorem dX5_place_42 : decode cX5_place 42 = .ok (.aload_n 0, 1) := by decide +kernel
theorem dX5_place_43 : decode cX5_place 43 = .ok (.iload_n 1, 1) := by decide +kernel
theorem dX5_place_44 : decode cX5_place 44 = .ok (.iload_n 2, 1) := by decide +kernel
theorem dX5_place_45 : decode cX5_place 45 = .ok (.invokevirtual 143, 3) := by decide +kernel
theorem dX5_place_48 : decode cX5_place 48 = .ok (.goto 23, 3) := by decide +kernel
theorem dX5_place_51 : decode cX5_place 51 = .ok (.iload_n 3, 1) := by decide +kernel
theorem dX5_place_52 : decode cX5_place 52 = .ok (.iconst 1, 1) := by decide +kernel
theorem dX5_place_53 : decode cX5_place 53 = .ok (.if_icmp .ne 12, 3) := by decide +kernel
theorem dX5_place_56 : decode cX5_place 56 = .ok (.aload_n 0, 1) := by decide +kernel
theorem dX5_place_57 : decode cX5_place 57 = .ok (.iload 4, 2) := by decide +kernel
theorem dX5_place_59 : decode cX5_place 59 = .ok (.invokevirtual 167, 3) := by decide +kernel
theorem dX5_place_62 : decode cX5_place 62 = .ok (.goto 9, 3) := by decide +kernel
theorem dX5_place_65 : decode cX5_place 65 = .ok (.aload_n 0, 1) := by decide +kernel
theorem dX5_place_66 : decode cX5_place 66 = .ok (.iload 4, 2) := by decide +kernel
theorem dX5_place_68 : decode cX5_place 68 = .ok (.invokevirtual 164, 3) := by decide +kernel
theorem dX5_place_71 : decode cX5_place 71 = .ok (.ireturn, 1) := by decide +kernel
set_option maxRecDepth 20000 in
theorem ggX5_columnAt_X5_isPicture : GoodIn wsX5_columnAt wsX5_isPicture := goodIn_r _ [5, 6, 7, 8, 4, 9, 28, 29, 30, 31, 32, 33, 34, 35, 36, 37, 38, 39, 40, 41, 42, 43] (by decide +kernel) (by decide +kernel)
set_option maxRecDepth 20000 in
theorem gX5_columnAt_X5_isPicture : GoodIn wsX5_columnAt (wsV RX5 86 RX5 yX5_isPicture wsX5_isPicture) := goodIn_app (goodIn_of _ (by decide +kernel)) ggX5_columnAt_X5_isPicture
set_option maxRecDepth 20000 in
theorem ggX5_columnAt_X5_in : GoodIn wsX5_columnAt wsX5_in := goodIn_r _ [9] (by decide +kernel) (by decide +kernel)
set_option maxRecDepth 20000 in
theorem gX5_columnAt_X5_in : GoodIn wsX5_columnAt (va_wsS RX5 56 yX5_in wsX5_in) := goodIn_app (goodIn_of _ (by decide +kernel)) ggX5_columnAt_X5_in
set_option maxRecDepth 20000 in
theorem ggX5_columnAt_X5_columnOf : GoodIn wsX5_columnAt wsX5_columnOf := goodIn_r _ [13, 14, 15, 16, 4, 17, 6, 18, 19, 20, 21, 22, 23, 24, 25, 26, 27, 28, 29, 30, 31, 32, 33, 34, 35, 36, 37, 38, 39, 40, 41, 42, 43] (by decide +kernel) (by decide +kernel)
set_option maxRecDepth 20000 in
theorem gX5_columnAt_X5_columnOf : GoodIn wsX5_columnAt (wsV RX5 77 RX5 yX5_columnOf wsX5_columnOf) := goodIn_app (goodIn_of _ (by decide +kernel)) ggX5_columnAt_X5_columnOf
theorem dX5_columnAt_0 : decode cX5_columnAt 0 = .ok (.aload_n 0, 1) := by decide +kernel
theorem dX5_columnAt_1 : decode cX5_columnAt 1 = .ok (.iload_n 1, 1) := by decide +kernel
theorem dX5_columnAt_2 : decode cX5_columnAt 2 = .ok (.invokevirtual 86, 3) := by decide +kernel
theorem dX5_columnAt_5 : decode cX5_columnAt 5 = .ok (.ifCond .eq 23, 3) := by decide +kernel
theorem dX5_columnAt_8 : decode cX5_columnAt 8 = .ok (.iload_n 2, 1) := by decide +kernel
theorem dX5_columnAt_9 : decode cX5_columnAt 9 = .ok (.iconst 0, 1) := by decide +kernel
theorem dX5_columnAt_10 : decode cX5_columnAt 10 = .ok (.sipush 719, 3) := by decide +kernel
theorem dX5_columnAt_13 : decode cX5_columnAt 13 = .ok (.invokestatic 56, 3) := by decide +kernel
theorem dX5_columnAt_16 : decode cX5_columnAt 16 = .ok (.ifCond .eq 12, 3) := by decide +kernel
theorem dX5_columnAt_19 : decode cX5_columnAt 19 = .ok (.aload_n 0, 1) := by decide +kernel
theorem dX5_columnAt_20 : decode cX5_columnAt 20 = .ok (.iload_n 1, 1) := by decide +kernel
theorem dX5_columnAt_21 : decode cX5_columnAt 21 = .ok (.iload_n 2, 1) := by decide +kernel
theorem dX5_columnAt_22 : decode cX5_columnAt 22 = .ok (.invokevirtual 77, 3) := by decide +kernel
theorem dX5_columnAt_25 : decode cX5_columnAt 25 = .ok (.goto 5, 3) := by decide +kernel
theorem dX5_columnAt_28 : decode cX5_columnAt 28 = .ok (.bipush (-101), 2) := by decide +kernel
theorem dX5_columnAt_30 : decode cX5_columnAt 30 = .ok (.ireturn, 1) := by decide +kernel
set_option maxRecDepth 20000 in
theorem ggX5_ticksAround_X5_setAside : GoodIn wsX5_ticksAround wsX5_setAside := goodIn_r _ [6, 7, 1, 8, 9, 67, 68, 69, 70, 71, 72, 73, 74, 75, 76, 77, 78, 79, 80, 81, 82] (by decide +kernel) (by decide +kernel)
set_option maxRecDepth 20000 in
theorem gX5_ticksAround_X5_setAside : GoodIn wsX5_ticksAround (wsV RX5 180 RX5 yX5_setAside wsX5_setAside) := goodIn_app (goodIn_of _ (by decide +kernel)) ggX5_ticksAround_X5_setAside
set_option maxRecDepth 20000 in
theorem ggX5_ticksAround_X5_layWants : GoodIn wsX5_ticksAround wsX5_layWants := goodIn_r _ [13, 14, 15, 16, 17, 5, 18, 1, 19, 20, 21, 22, 23, 24, 25, 26, 27, 28, 29, 30, 31, 32, 33, 34, 35, 36, 37, 38, 39, 40, 41, 42, 43, 67, 68, 69, 70, 71, 72, 73, 74, 75, 76, 77, 78, 79, 80, 81, 82] (by decide +kernel) (by decide +kernel)
set_option maxRecDepth 20000 in
theorem gX5_ticksAround_X5_layWants : GoodIn wsX5_ticksAround (wsV RX5 158 RX5 yX5_layWants wsX5_layWants) := goodIn_app (goodIn_of _ (by decide +kernel)) ggX5_ticksAround_X5_layWants
set_option maxRecDepth 20000 in
theorem ggX5_ticksAround_X5_tick : GoodIn wsX5_ticksAround wsX5_tick := goodIn_r _ [47, 1, 48, 49, 50, 5, 51, 52, 53, 54, 27, 28, 29, 55, 56, 57, 58, 14, 9, 59, 60, 61, 62, 67, 68, 69, 70, 71, 72, 73, 74, 75, 76, 77, 78, 79, 80, 81, 82] (by decide +kernel) (by decide +kernel)
set_option maxRecDepth 20000 in
theorem gX5_ticksAround_X5_tick : GoodIn wsX5_ticksAround (wsV RX5 155 RX5 yX5_tick wsX5_tick) := goodIn_app (goodIn_of _ (by decide +kernel)) ggX5_ticksAround_X5_tick
set_option maxRecDepth 20000 in
theorem ggX5_ticksAround_X5_size : GoodIn wsX5_ticksAround wsX5_size := goodIn_r _ [54] (by decide +kernel) (by decide +kernel)
set_option maxRecDepth 20000 in
theorem gX5_ticksAround_X5_size : GoodIn wsX5_ticksAround (va_wsS RX5 149 yX5_size wsX5_size) := goodIn_app (goodIn_of _ (by decide +kernel)) ggX5_ticksAround_X5_size
set_option maxRecDepth 20000 in
theorem ggX5_ticksAround_X5_bringBack : GoodIn wsX5_ticksAround wsX5_bringBack := goodIn_r _ [66, 1, 7, 9, 8, 67, 68, 69, 70, 71, 72, 73, 74, 75, 76, 77, 78, 79, 80, 81, 82] (by decide +kernel) (by decide +kernel)
set_option maxRecDepth 20000 in
theorem gX5_ticksAround_X5_bringBack : GoodIn wsX5_ticksAround (wsV RX5 183 RX5 yX5_bringBack wsX5_bringBack) := goodIn_app (goodIn_of _ (by decide +kernel)) ggX5_ticksAround_X5_bringBack
theorem dX5_ticksAround_0 : decode cX5_ticksAround 0 = .ok (.aload_n 0, 1) := by decide +kernel
theorem dX5_ticksAround_1 : decode cX5_ticksAround 1 = .ok (.invokevirtual 180, 3) := by decide +kernel
theorem dX5_ticksAround_4 : decode cX5_ticksAround 4 = .ok (.aload_n 0, 1) := by decide +kernel
theorem dX5_ticksAround_5 : decode cX5_ticksAround 5 = .ok (.invokevirtual 158, 3) := by decide +kernel
theorem dX5_ticksAround_8 : decode cX5_ticksAround 8 = .ok (.iconst 0, 1) := by decide +kernel
theorem dX5_ticksAround_9 : decode cX5_ticksAround 9 = .ok (.istore_n 1, 1) := by decide +kernel
theorem dX5_ticksAround_10 : decode cX5_ticksAround 10 = .ok (.iconst 0, 1) := by decide +kernel
theorem dX5_ticksAround_11 : decode cX5_ticksAround 11 = .ok (.istore_n 2, 1) := by decide +kernel
theorem dX5_ticksAround_12 : decode cX5_ticksAround 12 = .ok (.iload_n 1, 1) := by decide +kernel
theorem dX5_ticksAround_13 : decode cX5_ticksAround 13 = .ok (.sipush 720, 3) := by decide +kernel
theorem dX5_ticksAround_16 : decode cX5_ticksAround 16 = .ok (.if_icmp .ge 32, 3) := by decide +kernel
theorem dX5_ticksAround_19 : decode cX5_ticksAround 19 = .ok (.iload_n 2, 1) := by decide +kernel
theorem dX5_ticksAround_20 : decode cX5_ticksAround 20 = .ok (.sipush 500, 3) := by decide +kernel
theorem dX5_ticksAround_23 : decode cX5_ticksAround 23 = .ok (.if_icmp .ge 25, 3) := by decide +kernel
theorem dX5_ticksAround_26 : decode cX5_ticksAround 26 = .ok (.aload_n 0, 1) := by decide +kernel
theorem dX5_ticksAround_27 : decode cX5_ticksAround 27 = .ok (.invokevirtual 155, 3) := by decide +kernel
theorem dX5_ticksAround_30 : decode cX5_ticksAround 30 = .ok (.iload_n 1, 1) := by decide +kernel
theorem dX5_ticksAround_31 : decode cX5_ticksAround 31 = .ok (.aload_n 0, 1) := by decide +kernel
theorem dX5_ticksAround_32 : decode cX5_ticksAround 32 = .ok (.getfield 7, 3) := by decide +kernel
theorem dX5_ticksAround_35 : decode cX5_ticksAround 35 = .ok (.iconst 5, 1) := by decide +kernel
theorem dX5_ticksAround_36 : decode cX5_ticksAround 36 = .ok (.iaload, 1) := by decide +kernel
theorem dX5_ticksAround_37 : decode cX5_ticksAround 37 = .ok (.invokestatic 149, 3) := by decide +kernel
theorem dX5_ticksAround_40 : decode cX5_ticksAround 40 = .ok (.iadd, 1) := by decide +kernel
theorem dX5_ticksAround_41 : decode cX5_ticksAround 41 = .ok (.istore_n 1, 1) := by decide +kernel
theorem dX5_ticksAround_42 : decode cX5_ticksAround 42 = .ok (.iinc 2 1, 3) := by decide +kernel
theorem dX5_ticksAround_45 : decode cX5_ticksAround 45 = .ok (.goto (-33), 3) := by decide +kernel
theorem dX5_ticksAround_48 : decode cX5_ticksAround 48 = .ok (.aload_n 0, 1) := by decide +kernel
theorem dX5_ticksAround_49 : decode cX5_ticksAround 49 = .ok (.invokevirtual 183, 3) := by decide +kernel
theorem dX5_ticksAround_52 : decode cX5_ticksAround 52 = .ok (.iload_n 1, 1) := by decide +kernel
theorem dX5_ticksAround_53 : decode cX5_ticksAround 53 = .ok (.sipush 720, 3) := by decide +kernel
theorem dX5_ticksAround_56 : decode cX5_ticksAround 56 = .ok (.if_icmp .ge 8, 3) := by decide +kernel
theorem dX5_ticksAround_59 : decode cX5_ticksAround 59 = .ok (.bipush (-109), 2) := by decide +kernel
theorem dX5_ticksAround_61 : decode cX5_ticksAround 61 = .ok (.goto 4, 3) := by decide +kernel
theorem dX5_ticksAround_64 : decode cX5_ticksAround 64 = .ok (.iload_n 2, 1) := by decide +kernel
theorem dX5_ticksAround_65 : decode cX5_ticksAround 65 = .ok (.ireturn, 1) := by decide +kernel
set_option maxRecDepth 20000 in
theorem ggX5_isCovered_X5_of : GoodIn wsX5_isCovered wsX5_of := goodIn_r _ [6, 1, 21, 22, 23, 24, 25, 26, 27, 28, 29, 30, 31, 32, 33, 34, 35, 36] (by decide +kernel) (by decide +kernel)
set_option maxRecDepth 20000 in
theorem gX5_isCovered_X5_of : GoodIn wsX5_isCovered (wsV RX5 64 RX5 yX5_of wsX5_of) := goodIn_app (goodIn_of _ (by decide +kernel)) ggX5_isCovered_X5_of
set_option maxRecDepth 20000 in
theorem ggX5_isCovered_X5_columnOf : GoodIn wsX5_isCovered wsX5_columnOf := goodIn_r _ [10, 2, 3, 4, 5, 6, 1, 11, 12, 13, 14, 15, 16, 17, 18, 19, 20, 21, 22, 23, 24, 25, 26, 27, 28, 29, 30, 31, 32, 33, 34, 35, 36] (by decide +kernel) (by decide +kernel)
set_option maxRecDepth 20000 in
theorem gX5_isCovered_X5_columnOf : GoodIn wsX5_isCovered (wsV RX5 77 RX5 yX5_columnOf wsX5_columnOf) := goodIn_app (goodIn_of _ (by decide +kernel)) ggX5_isCovered_X5_columnOf
theorem dX5_isCovered_0 : decode cX5_isCovered 0 = .ok (.iconst 0, 1) := by decide +kernel
theorem dX5_isCovered_1 : decode cX5_isCovered 1 = .ok (.istore_n 2, 1) := by decide +kernel
end
section
theorem dX5_isCovered_2 : decode cX5_isCovered 2 = .ok (.iconst 0, 1) := by decide +kernel
theorem dX5_isCovered_3 : decode cX5_isCovered 3 = .ok (.istore_n 3, 1) := by decide +kernel
theorem dX5_isCovered_4 : decode cX5_isCovered 4 = .ok (.iload_n 3, 1) := by decide +kernel
theorem dX5_isCovered_5 : decode cX5_isCovered 5 = .ok (.aload_n 0, 1) := by decide +kernel
theorem dX5_isCovered_6 : decode cX5_isCovered 6 = .ok (.getfield 7, 3) := by decide +kernel
theorem dX5_isCovered_9 : decode cX5_isCovered 9 = .ok (.bipush 11, 2) := by decide +kernel
theorem dX5_isCovered_11 : decode cX5_isCovered 11 = .ok (.iaload, 1) := by decide +kernel
theorem dX5_isCovered_12 : decode cX5_isCovered 12 = .ok (.if_icmp .ge 40, 3) := by decide +kernel
theorem dX5_isCovered_15 : decode cX5_isCovered 15 = .ok (.iload_n 2, 1) := by decide +kernel
theorem dX5_isCovered_16 : decode cX5_isCovered 16 = .ok (.ifCond .ne 24, 3) := by decide +kernel
theorem dX5_isCovered_19 : decode cX5_isCovered 19 = .ok (.aload_n 0, 1) := by decide +kernel
theorem dX5_isCovered_20 : decode cX5_isCovered 20 = .ok (.iload_n 3, 1) := by decide +kernel
theorem dX5_isCovered_21 : decode cX5_isCovered 21 = .ok (.iconst 3, 1) := by decide +kernel
theorem dX5_isCovered_22 : decode cX5_isCovered 22 = .ok (.invokevirtual 64, 3) := by decide +kernel
theorem dX5_isCovered_25 : decode cX5_isCovered 25 = .ok (.iconst 2, 1) := by decide +kernel
theorem dX5_isCovered_26 : decode cX5_isCovered 26 = .ok (.if_icmp .eq 18, 3) := by decide +kernel
theorem dX5_isCovered_29 : decode cX5_isCovered 29 = .ok (.aload_n 0, 1) := by decide +kernel
theorem dX5_isCovered_30 : decode cX5_isCovered 30 = .ok (.iload_n 3, 1) := by decide +kernel
theorem dX5_isCovered_31 : decode cX5_isCovered 31 = .ok (.iload_n 1, 1) := by decide +kernel
theorem dX5_isCovered_32 : decode cX5_isCovered 32 = .ok (.invokevirtual 77, 3) := by decide +kernel
theorem dX5_isCovered_35 : decode cX5_isCovered 35 = .ok (.bipush (-109), 2) := by decide +kernel
theorem dX5_isCovered_37 : decode cX5_isCovered 37 = .ok (.if_icmp .eq 7, 3) := by decide +kernel
theorem dX5_isCovered_40 : decode cX5_isCovered 40 = .ok (.iconst 1, 1) := by decide +kernel
theorem dX5_isCovered_41 : decode cX5_isCovered 41 = .ok (.goto 4, 3) := by decide +kernel
theorem dX5_isCovered_44 : decode cX5_isCovered 44 = .ok (.iconst 0, 1) := by decide +kernel
theorem dX5_isCovered_45 : decode cX5_isCovered 45 = .ok (.istore_n 2, 1) := by decide +kernel
theorem dX5_isCovered_46 : decode cX5_isCovered 46 = .ok (.iinc 3 1, 3) := by decide +kernel
theorem dX5_isCovered_49 : decode cX5_isCovered 49 = .ok (.goto (-45), 3) := by decide +kernel
theorem dX5_isCovered_52 : decode cX5_isCovered 52 = .ok (.iload_n 2, 1) := by decide +kernel
theorem dX5_isCovered_53 : decode cX5_isCovered 53 = .ok (.ireturn, 1) := by decide +kernel
set_option maxRecDepth 20000 in
theorem ggX5_mark_X5_tick : GoodIn wsX5_mark wsX5_tick := goodIn_r _ [7, 1, 8, 9, 10, 6, 11, 12, 13, 14, 15, 16, 17, 18, 19, 20, 21, 22, 23, 24, 25, 26, 27, 28, 29, 30, 31, 32, 33, 34, 35, 36, 37, 38, 39, 40, 41, 42, 43] (by decide +kernel) (by decide +kernel)
set_option maxRecDepth 20000 in
theorem gX5_mark_X5_tick : GoodIn wsX5_mark (wsV RX5 155 RX5 yX5_tick wsX5_tick) := goodIn_app (goodIn_of _ (by decide +kernel)) ggX5_mark_X5_tick
set_option maxRecDepth 20000 in
theorem ggX5_mark_X5_around : GoodIn wsX5_mark wsX5_around := goodIn_r _ [17] (by decide +kernel) (by decide +kernel)
set_option maxRecDepth 20000 in
theorem gX5_mark_X5_around : GoodIn wsX5_mark (va_wsS RX5 70 yX5_around wsX5_around) := goodIn_app (goodIn_of _ (by decide +kernel)) ggX5_mark_X5_around
theorem dX5_mark_0 : decode cX5_mark 0 = .ok (.aload_n 0, 1) := by decide +kernel
theorem dX5_mark_1 : decode cX5_mark 1 = .ok (.getfield 7, 3) := by decide +kernel
theorem dX5_mark_4 : decode cX5_mark 4 = .ok (.iconst 4, 1) := by decide +kernel
theorem dX5_mark_5 : decode cX5_mark 5 = .ok (.iaload, 1) := by decide +kernel
theorem dX5_mark_6 : decode cX5_mark 6 = .ok (.istore_n 1, 1) := by decide +kernel
theorem dX5_mark_7 : decode cX5_mark 7 = .ok (.aload_n 0, 1) := by decide +kernel
theorem dX5_mark_8 : decode cX5_mark 8 = .ok (.invokevirtual 155, 3) := by decide +kernel
theorem dX5_mark_11 : decode cX5_mark 11 = .ok (.aload_n 0, 1) := by decide +kernel
theorem dX5_mark_12 : decode cX5_mark 12 = .ok (.getfield 7, 3) := by decide +kernel
theorem dX5_mark_15 : decode cX5_mark 15 = .ok (.iconst 5, 1) := by decide +kernel
theorem dX5_mark_16 : decode cX5_mark 16 = .ok (.iaload, 1) := by decide +kernel
theorem dX5_mark_17 : decode cX5_mark 17 = .ok (.ifCond .ge 7, 3) := by decide +kernel
theorem dX5_mark_20 : decode cX5_mark 20 = .ok (.iconst (-1), 1) := by decide +kernel
theorem dX5_mark_21 : decode cX5_mark 21 = .ok (.goto 4, 3) := by decide +kernel
theorem dX5_mark_24 : decode cX5_mark 24 = .ok (.iconst 1, 1) := by decide +kernel
theorem dX5_mark_25 : decode cX5_mark 25 = .ok (.istore_n 2, 1) := by decide +kernel
theorem dX5_mark_26 : decode cX5_mark 26 = .ok (.iload_n 1, 1) := by decide +kernel
theorem dX5_mark_27 : decode cX5_mark 27 = .ok (.aload_n 0, 1) := by decide +kernel
theorem dX5_mark_28 : decode cX5_mark 28 = .ok (.getfield 7, 3) := by decide +kernel
theorem dX5_mark_31 : decode cX5_mark 31 = .ok (.iconst 4, 1) := by decide +kernel
theorem dX5_mark_32 : decode cX5_mark 32 = .ok (.iaload, 1) := by decide +kernel
theorem dX5_mark_33 : decode cX5_mark 33 = .ok (.if_icmp .eq 44, 3) := by decide +kernel
theorem dX5_mark_36 : decode cX5_mark 36 = .ok (.iload_n 1, 1) := by decide +kernel
theorem dX5_mark_37 : decode cX5_mark 37 = .ok (.iload_n 2, 1) := by decide +kernel
theorem dX5_mark_38 : decode cX5_mark 38 = .ok (.iadd, 1) := by decide +kernel
theorem dX5_mark_39 : decode cX5_mark 39 = .ok (.invokestatic 70, 3) := by decide +kernel
theorem dX5_mark_42 : decode cX5_mark 42 = .ok (.istore_n 1, 1) := by decide +kernel
theorem dX5_mark_43 : decode cX5_mark 43 = .ok (.aload_n 0, 1) := by decide +kernel
theorem dX5_mark_44 : decode cX5_mark 44 = .ok (.getfield 37, 3) := by decide +kernel
theorem dX5_mark_47 : decode cX5_mark 47 = .ok (.iload_n 1, 1) := by decide +kernel
theorem dX5_mark_48 : decode cX5_mark 48 = .ok (.iconst 1, 1) := by decide +kernel
theorem dX5_mark_49 : decode cX5_mark 49 = .ok (.iastore, 1) := by decide +kernel
theorem dX5_mark_50 : decode cX5_mark 50 = .ok (.aload_n 0, 1) := by decide +kernel
theorem dX5_mark_51 : decode cX5_mark 51 = .ok (.getfield 37, 3) := by decide +kernel
theorem dX5_mark_54 : decode cX5_mark 54 = .ok (.iload_n 1, 1) := by decide +kernel
theorem dX5_mark_55 : decode cX5_mark 55 = .ok (.sipush 360, 3) := by decide +kernel
theorem dX5_mark_58 : decode cX5_mark 58 = .ok (.iadd, 1) := by decide +kernel
theorem dX5_mark_59 : decode cX5_mark 59 = .ok (.sipush 720, 3) := by decide +kernel
theorem dX5_mark_62 : decode cX5_mark 62 = .ok (.irem, 1) := by decide +kernel
theorem dX5_mark_63 : decode cX5_mark 63 = .ok (.dup2, 1) := by decide +kernel
theorem dX5_mark_64 : decode cX5_mark 64 = .ok (.iaload, 1) := by decide +kernel
theorem dX5_mark_65 : decode cX5_mark 65 = .ok (.aload_n 0, 1) := by decide +kernel
theorem dX5_mark_66 : decode cX5_mark 66 = .ok (.getfield 7, 3) := by decide +kernel
theorem dX5_mark_69 : decode cX5_mark 69 = .ok (.bipush 8, 2) := by decide +kernel
theorem dX5_mark_71 : decode cX5_mark 71 = .ok (.iaload, 1) := by decide +kernel
theorem dX5_mark_72 : decode cX5_mark 72 = .ok (.ior, 1) := by decide +kernel
theorem dX5_mark_73 : decode cX5_mark 73 = .ok (.iastore, 1) := by decide +kernel
theorem dX5_mark_74 : decode cX5_mark 74 = .ok (.goto (-48), 3) := by decide +kernel
theorem dX5_mark_77 : decode cX5_mark 77 = .ok (.return_, 1) := by decide +kernel
set_option maxRecDepth 20000 in
theorem ggX5_gaps_X5_in : GoodIn wsX5_gaps wsX5_in := goodIn_r _ [5] (by decide +kernel) (by decide +kernel)
set_option maxRecDepth 20000 in
theorem gX5_gaps_X5_in : GoodIn wsX5_gaps (va_wsS RX5 56 yX5_in wsX5_in) := goodIn_app (goodIn_of _ (by decide +kernel)) ggX5_gaps_X5_in
set_option maxRecDepth 20000 in
theorem ggX5_gaps_X5_setAside : GoodIn wsX5_gaps wsX5_setAside := goodIn_r _ [9, 10, 11, 12, 13, 79, 80, 81, 82, 83, 84, 85, 86, 87, 88, 89, 90, 91, 92, 93, 94] (by decide +kernel) (by decide +kernel)
set_option maxRecDepth 20000 in
theorem gX5_gaps_X5_setAside : GoodIn wsX5_gaps (wsV RX5 180 RX5 yX5_setAside wsX5_setAside) := goodIn_app (goodIn_of _ (by decide +kernel)) ggX5_gaps_X5_setAside
set_option maxRecDepth 20000 in
theorem ggX5_gaps_X5_layWants : GoodIn wsX5_gaps wsX5_layWants := goodIn_r _ [17, 18, 19, 20, 21, 4, 22, 11, 23, 24, 25, 26, 27, 28, 29, 30, 31, 32, 33, 34, 35, 36, 37, 38, 39, 40, 41, 42, 43, 44, 45, 46, 47, 79, 80, 81, 82, 83, 84, 85, 86, 87, 88, 89, 90, 91, 92, 93, 94] (by decide +kernel) (by decide +kernel)
set_option maxRecDepth 20000 in
theorem gX5_gaps_X5_layWants : GoodIn wsX5_gaps (wsV RX5 158 RX5 yX5_layWants wsX5_layWants) := goodIn_app (goodIn_of _ (by decide +kernel)) ggX5_gaps_X5_layWants
set_option maxRecDepth 20000 in
theorem ggX5_gaps_X5_mark : GoodIn wsX5_gaps wsX5_mark := goodIn_r _ [51, 11, 1, 52, 53, 54, 4, 55, 56, 57, 58, 59, 60, 61, 62, 31, 32, 33, 63, 64, 65, 66, 18, 13, 67, 68, 69, 70, 79, 80, 81, 82, 83, 84, 85, 86, 87, 88, 89, 90, 91, 92, 93, 94] (by decide +kernel) (by decide +kernel)
set_option maxRecDepth 20000 in
theorem gX5_gaps_X5_mark : GoodIn wsX5_gaps (wsV RX5 186 RX5 yX5_mark wsX5_mark) := goodIn_app (goodIn_of _ (by decide +kernel)) ggX5_gaps_X5_mark
set_option maxRecDepth 20000 in
theorem ggX5_gaps_X5_bringBack : GoodIn wsX5_gaps wsX5_bringBack := goodIn_r _ [74, 11, 10, 13, 12, 79, 80, 81, 82, 83, 84, 85, 86, 87, 88, 89, 90, 91, 92, 93, 94] (by decide +kernel) (by decide +kernel)
set_option maxRecDepth 20000 in
theorem gX5_gaps_X5_bringBack : GoodIn wsX5_gaps (wsV RX5 183 RX5 yX5_bringBack wsX5_bringBack) := goodIn_app (goodIn_of _ (by decide +kernel)) ggX5_gaps_X5_bringBack
set_option maxRecDepth 20000 in
theorem ggX5_gaps_X5_isCovered : GoodIn wsX5_gaps wsX5_isCovered := goodIn_r _ [78, 11, 23, 24, 25, 4, 26, 27, 28, 29, 30, 31, 32, 33, 34, 35, 36, 37, 38, 39, 40, 79, 80, 81, 82, 83, 84, 85, 86, 87, 88, 89, 90, 91, 92, 93, 94] (by decide +kernel) (by decide +kernel)
set_option maxRecDepth 20000 in
theorem gX5_gaps_X5_isCovered : GoodIn wsX5_gaps (wsV RX5 189 RX5 yX5_isCovered wsX5_isCovered) := goodIn_app (goodIn_of _ (by decide +kernel)) ggX5_gaps_X5_isCovered
theorem dX5_gaps_0 : decode cX5_gaps 0 = .ok (.iload_n 1, 1) := by decide +kernel
theorem dX5_gaps_1 : decode cX5_gaps 1 = .ok (.iconst 0, 1) := by decide +kernel
theorem dX5_gaps_2 : decode cX5_gaps 2 = .ok (.sipush 200, 3) := by decide +kernel
theorem dX5_gaps_5 : decode cX5_gaps 5 = .ok (.invokestatic 56, 3) := by decide +kernel
theorem dX5_gaps_8 : decode cX5_gaps 8 = .ok (.ifCond .ne 6, 3) := by decide +kernel
theorem dX5_gaps_11 : decode cX5_gaps 11 = .ok (.bipush (-101), 2) := by decide +kernel
theorem dX5_gaps_13 : decode cX5_gaps 13 = .ok (.ireturn, 1) := by decide +kernel
theorem dX5_gaps_14 : decode cX5_gaps 14 = .ok (.aload_n 0, 1) := by decide +kernel
theorem dX5_gaps_15 : decode cX5_gaps 15 = .ok (.invokevirtual 180, 3) := by decide +kernel
theorem dX5_gaps_18 : decode cX5_gaps 18 = .ok (.aload_n 0, 1) := by decide +kernel
theorem dX5_gaps_19 : decode cX5_gaps 19 = .ok (.invokevirtual 158, 3) := by decide +kernel
theorem dX5_gaps_22 : decode cX5_gaps 22 = .ok (.iconst 0, 1) := by decide +kernel
theorem dX5_gaps_23 : decode cX5_gaps 23 = .ok (.istore_n 2, 1) := by decide +kernel
theorem dX5_gaps_24 : decode cX5_gaps 24 = .ok (.iload_n 2, 1) := by decide +kernel
theorem dX5_gaps_25 : decode cX5_gaps 25 = .ok (.sipush 720, 3) := by decide +kernel
theorem dX5_gaps_28 : decode cX5_gaps 28 = .ok (.if_icmp .ge 16, 3) := by decide +kernel
theorem dX5_gaps_31 : decode cX5_gaps 31 = .ok (.aload_n 0, 1) := by decide +kernel
theorem dX5_gaps_32 : decode cX5_gaps 32 = .ok (.getfield 37, 3) := by decide +kernel
theorem dX5_gaps_35 : decode cX5_gaps 35 = .ok (.iload_n 2, 1) := by decide +kernel
theorem dX5_gaps_36 : decode cX5_gaps 36 = .ok (.iconst 0, 1) := by decide +kernel
theorem dX5_gaps_37 : decode cX5_gaps 37 = .ok (.iastore, 1) := by decide +kernel
theorem dX5_gaps_38 : decode cX5_gaps 38 = .ok (.iinc 2 1, 3) := by decide +kernel
theorem dX5_gaps_41 : decode cX5_gaps 41 = .ok (.goto (-17), 3) := by decide +kernel
theorem dX5_gaps_44 : decode cX5_gaps 44 = .ok (.iconst 0, 1) := by decide +kernel
theorem dX5_gaps_45 : decode cX5_gaps 45 = .ok (.istore_n 2, 1) := by decide +kernel
theorem dX5_gaps_46 : decode cX5_gaps 46 = .ok (.iload_n 2, 1) := by decide +kernel
theorem dX5_gaps_47 : decode cX5_gaps 47 = .ok (.iload_n 1, 1) := by decide +kernel
theorem dX5_gaps_48 : decode cX5_gaps 48 = .ok (.if_icmp .ge 13, 3) := by decide +kernel
theorem dX5_gaps_51 : decode cX5_gaps 51 = .ok (.aload_n 0, 1) := by decide +kernel
theorem dX5_gaps_52 : decode cX5_gaps 52 = .ok (.invokevirtual 186, 3) := by decide +kernel
theorem dX5_gaps_55 : decode cX5_gaps 55 = .ok (.iinc 2 1, 3) := by decide +kernel
theorem dX5_gaps_58 : decode cX5_gaps 58 = .ok (.goto (-12), 3) := by decide +kernel
theorem dX5_gaps_61 : decode cX5_gaps 61 = .ok (.aload_n 0, 1) := by decide +kernel
theorem dX5_gaps_62 : decode cX5_gaps 62 = .ok (.invokevirtual 183, 3) := by decide +kernel
theorem dX5_gaps_65 : decode cX5_gaps 65 = .ok (.iconst 0, 1) := by decide +kernel
theorem dX5_gaps_66 : decode cX5_gaps 66 = .ok (.istore_n 2, 1) := by decide +kernel
theorem dX5_gaps_67 : decode cX5_gaps 67 = .ok (.iconst 0, 1) := by decide +kernel
theorem dX5_gaps_68 : decode cX5_gaps 68 = .ok (.istore_n 3, 1) := by decide +kernel
theorem dX5_gaps_69 : decode cX5_gaps 69 = .ok (.iload_n 3, 1) := by decide +kernel
theorem dX5_gaps_70 : decode cX5_gaps 70 = .ok (.sipush 720, 3) := by decide +kernel
theorem dX5_gaps_73 : decode cX5_gaps 73 = .ok (.if_icmp .ge 34, 3) := by decide +kernel
theorem dX5_gaps_76 : decode cX5_gaps 76 = .ok (.iload_n 2, 1) := by decide +kernel
theorem dX5_gaps_77 : decode cX5_gaps 77 = .ok (.aload_n 0, 1) := by decide +kernel
theorem dX5_gaps_78 : decode cX5_gaps 78 = .ok (.getfield 37, 3) := by decide +kernel
theorem dX5_gaps_81 : decode cX5_gaps 81 = .ok (.iload_n 3, 1) := by decide +kernel
theorem dX5_gaps_82 : decode cX5_gaps 82 = .ok (.iaload, 1) := by decide +kernel
theorem dX5_gaps_83 : decode cX5_gaps 83 = .ok (.ifCond .ne 15, 3) := by decide +kernel
theorem dX5_gaps_86 : decode cX5_gaps 86 = .ok (.aload_n 0, 1) := by decide +kernel
theorem dX5_gaps_87 : decode cX5_gaps 87 = .ok (.iload_n 3, 1) := by decide +kernel
theorem dX5_gaps_88 : decode cX5_gaps 88 = .ok (.invokevirtual 189, 3) := by decide +kernel
theorem dX5_gaps_91 : decode cX5_gaps 91 = .ok (.ifCond .eq 7, 3) := by decide +kernel
theorem dX5_gaps_94 : decode cX5_gaps 94 = .ok (.iconst 1, 1) := by decide +kernel
theorem dX5_gaps_95 : decode cX5_gaps 95 = .ok (.goto 4, 3) := by decide +kernel
theorem dX5_gaps_98 : decode cX5_gaps 98 = .ok (.iconst 0, 1) := by decide +kernel
theorem dX5_gaps_99 : decode cX5_gaps 99 = .ok (.iadd, 1) := by decide +kernel
theorem dX5_gaps_100 : decode cX5_gaps 100 = .ok (.istore_n 2, 1) := by decide +kernel
theorem dX5_gaps_101 : decode cX5_gaps 101 = .ok (.iinc 3 1, 3) := by decide +kernel
theorem dX5_gaps_104 : decode cX5_gaps 104 = .ok (.goto (-35), 3) := by decide +kernel
theorem dX5_gaps_107 : decode cX5_gaps 107 = .ok (.iload_n 2, 1) := by decide +kernel
theorem dX5_gaps_108 : decode cX5_gaps 108 = .ok (.ireturn, 1) := by decide +kernel
set_option maxRecDepth 20000 in
theorem ggX5_bestSpeed_X5_in : GoodIn wsX5_bestSpeed wsX5_in := goodIn_r _ [5] (by decide +kernel) (by decide +kernel)
set_option maxRecDepth 20000 in
theorem gX5_bestSpeed_X5_in : GoodIn wsX5_bestSpeed (va_wsS RX5 56 yX5_in wsX5_in) := goodIn_app (goodIn_of _ (by decide +kernel)) ggX5_bestSpeed_X5_in
set_option maxRecDepth 20000 in
theorem ggX5_bestSpeed_X5_setAside : GoodIn wsX5_bestSpeed wsX5_setAside := goodIn_r _ [9, 10, 1, 11, 12, 86, 87, 88, 89, 90, 91, 92, 93, 94, 95, 96, 97, 98, 99, 100, 101] (by decide +kernel) (by decide +kernel)
set_option maxRecDepth 20000 in
theorem gX5_bestSpeed_X5_setAside : GoodIn wsX5_bestSpeed (wsV RX5 180 RX5 yX5_setAside wsX5_setAside) := goodIn_app (goodIn_of _ (by decide +kernel)) ggX5_bestSpeed_X5_setAside
set_option maxRecDepth 20000 in
theorem ggX5_bestSpeed_X5_layWants : GoodIn wsX5_bestSpeed wsX5_layWants := goodIn_r _ [16, 17, 18, 19, 20, 4, 21, 1, 22, 23, 24, 25, 26, 27, 28, 29, 30, 31, 32, 33, 34, 35, 36, 37, 38, 39, 40, 41, 42, 43, 44, 45, 46, 86, 87, 88, 89, 90, 91, 92, 93, 94, 95, 96, 97, 98, 99, 100, 101] (by decide +kernel) (by decide +kernel)
set_option maxRecDepth 20000 in
theorem gX5_bestSpeed_X5_layWants : GoodIn wsX5_bestSpeed (wsV RX5 158 RX5 yX5_layWants wsX5_layWants) := goodIn_app (goodIn_of _ (by decide +kernel)) ggX5_bestSpeed_X5_layWants
set_option maxRecDepth 20000 in
theorem ggX5_bestSpeed_X5_goOn : GoodIn wsX5_bestSpeed wsX5_goOn := goodIn_r _ [50, 51, 52, 53, 4, 54, 1, 55, 56, 57, 58, 59, 60, 61, 30, 31, 32, 62, 63, 64, 65, 17, 12, 66, 67, 68, 69, 86, 87, 88, 89, 90, 91, 92, 93, 94, 95, 96, 97, 98, 99, 100, 101] (by decide +kernel) (by decide +kernel)
set_option maxRecDepth 20000 in
theorem gX5_bestSpeed_X5_goOn : GoodIn wsX5_bestSpeed (wsV RX5 161 RX5 yX5_goOn wsX5_goOn) := goodIn_app (goodIn_of _ (by decide +kernel)) ggX5_bestSpeed_X5_goOn
set_option maxRecDepth 20000 in
theorem ggX5_bestSpeed_X5_litPlaces : GoodIn wsX5_bestSpeed wsX5_litPlaces := goodIn_r _ [73, 17, 74, 75, 76, 4, 77, 12, 1, 78, 79, 80, 81, 86, 87, 88, 89, 90, 91, 92, 93, 94, 95, 96, 97, 98, 99, 100, 101] (by decide +kernel) (by decide +kernel)
set_option maxRecDepth 20000 in
theorem gX5_bestSpeed_X5_litPlaces : GoodIn wsX5_bestSpeed (wsV RX5 170 RX5 yX5_litPlaces wsX5_litPlaces) := goodIn_app (goodIn_of _ (by decide +kernel)) ggX5_bestSpeed_X5_litPlaces
set_option maxRecDepth 20000 in
theorem ggX5_bestSpeed_X5_bringBack : GoodIn wsX5_bestSpeed wsX5_bringBack := goodIn_r _ [85, 1, 10, 12, 11, 86, 87, 88, 89, 90, 91, 92, 93, 94, 95, 96, 97, 98, 99, 100, 101] (by decide +kernel) (by decide +kernel)
set_option maxRecDepth 20000 in
theorem gX5_bestSpeed_X5_bringBack : GoodIn wsX5_bestSpeed (wsV RX5 183 RX5 yX5_bringBack wsX5_bringBack) := goodIn_app (goodIn_of _ (by decide +kernel)) ggX5_bestSpeed_X5_bringBack
theorem dX5_bestSpeed_0 : decode cX5_bestSpeed 0 = .ok (.iload_n 1, 1) := by decide +kernel
theorem dX5_bestSpeed_1 : decode cX5_bestSpeed 1 = .ok (.iconst 1, 1) := by decide +kernel
theorem dX5_bestSpeed_2 : decode cX5_bestSpeed 2 = .ok (.bipush 40, 2) := by decide +kernel
theorem dX5_bestSpeed_4 : decode cX5_bestSpeed 4 = .ok (.invokestatic 56, 3) := by decide +kernel
theorem dX5_bestSpeed_7 : decode cX5_bestSpeed 7 = .ok (.ifCond .ne 6, 3) := by decide +kernel
theorem dX5_bestSpeed_10 : decode cX5_bestSpeed 10 = .ok (.bipush (-101), 2) := by decide +kernel
theorem dX5_bestSpeed_12 : decode cX5_bestSpeed 12 = .ok (.ireturn, 1) := by decide +kernel
theorem dX5_bestSpeed_13 : decode cX5_bestSpeed 13 = .ok (.aload_n 0, 1) := by decide +kernel
theorem dX5_bestSpeed_14 : decode cX5_bestSpeed 14 = .ok (.invokevirtual 180, 3) := by decide +kernel
theorem dX5_bestSpeed_17 : decode cX5_bestSpeed 17 = .ok (.aload_n 0, 1) := by decide +kernel
theorem dX5_bestSpeed_18 : decode cX5_bestSpeed 18 = .ok (.invokevirtual 158, 3) := by decide +kernel
theorem dX5_bestSpeed_21 : decode cX5_bestSpeed 21 = .ok (.iconst 0, 1) := by decide +kernel
theorem dX5_bestSpeed_22 : decode cX5_bestSpeed 22 = .ok (.istore_n 2, 1) := by decide +kernel
theorem dX5_bestSpeed_23 : decode cX5_bestSpeed 23 = .ok (.iconst (-1), 1) := by decide +kernel
theorem dX5_bestSpeed_24 : decode cX5_bestSpeed 24 = .ok (.istore_n 3, 1) := by decide +kernel
theorem dX5_bestSpeed_25 : decode cX5_bestSpeed 25 = .ok (.bipush (-60), 2) := by decide +kernel
theorem dX5_bestSpeed_27 : decode cX5_bestSpeed 27 = .ok (.istore 4, 2) := by decide +kernel
theorem dX5_bestSpeed_29 : decode cX5_bestSpeed 29 = .ok (.iload 4, 2) := by decide +kernel
theorem dX5_bestSpeed_31 : decode cX5_bestSpeed 31 = .ok (.bipush 60, 2) := by decide +kernel
theorem dX5_bestSpeed_33 : decode cX5_bestSpeed 33 = .ok (.if_icmp .gt 59, 3) := by decide +kernel
theorem dX5_bestSpeed_36 : decode cX5_bestSpeed 36 = .ok (.aload_n 0, 1) := by decide +kernel
theorem dX5_bestSpeed_37 : decode cX5_bestSpeed 37 = .ok (.getfield 7, 3) := by decide +kernel
theorem dX5_bestSpeed_40 : decode cX5_bestSpeed 40 = .ok (.iconst 0, 1) := by decide +kernel
theorem dX5_bestSpeed_41 : decode cX5_bestSpeed 41 = .ok (.iload 4, 2) := by decide +kernel
theorem dX5_bestSpeed_43 : decode cX5_bestSpeed 43 = .ok (.iastore, 1) := by decide +kernel
theorem dX5_bestSpeed_44 : decode cX5_bestSpeed 44 = .ok (.aload_n 0, 1) := by decide +kernel
theorem dX5_bestSpeed_45 : decode cX5_bestSpeed 45 = .ok (.iload_n 1, 1) := by decide +kernel
theorem dX5_bestSpeed_46 : decode cX5_bestSpeed 46 = .ok (.invokevirtual 161, 3) := by decide +kernel
theorem dX5_bestSpeed_49 : decode cX5_bestSpeed 49 = .ok (.aload_n 0, 1) := by decide +kernel
theorem dX5_bestSpeed_50 : decode cX5_bestSpeed 50 = .ok (.iconst 1, 1) := by decide +kernel
theorem dX5_bestSpeed_51 : decode cX5_bestSpeed 51 = .ok (.invokevirtual 170, 3) := by decide +kernel
theorem dX5_bestSpeed_54 : decode cX5_bestSpeed 54 = .ok (.istore 5, 2) := by decide +kernel
theorem dX5_bestSpeed_56 : decode cX5_bestSpeed 56 = .ok (.iload 5, 2) := by decide +kernel
theorem dX5_bestSpeed_58 : decode cX5_bestSpeed 58 = .ok (.iload_n 3, 1) := by decide +kernel
theorem dX5_bestSpeed_59 : decode cX5_bestSpeed 59 = .ok (.if_icmp .le 8, 3) := by decide +kernel
theorem dX5_bestSpeed_62 : decode cX5_bestSpeed 62 = .ok (.iload 4, 2) := by decide +kernel
theorem dX5_bestSpeed_64 : decode cX5_bestSpeed 64 = .ok (.goto 4, 3) := by decide +kernel
theorem dX5_bestSpeed_67 : decode cX5_bestSpeed 67 = .ok (.iload_n 2, 1) := by decide +kernel
theorem dX5_bestSpeed_68 : decode cX5_bestSpeed 68 = .ok (.istore_n 2, 1) := by decide +kernel
theorem dX5_bestSpeed_69 : decode cX5_bestSpeed 69 = .ok (.iload 5, 2) := by decide +kernel
theorem dX5_bestSpeed_71 : decode cX5_bestSpeed 71 = .ok (.iload_n 3, 1) := by decide +kernel
theorem dX5_bestSpeed_72 : decode cX5_bestSpeed 72 = .ok (.if_icmp .le 8, 3) := by decide +kernel
theorem dX5_bestSpeed_75 : decode cX5_bestSpeed 75 = .ok (.iload 5, 2) := by decide +kernel
theorem dX5_bestSpeed_77 : decode cX5_bestSpeed 77 = .ok (.goto 4, 3) := by decide +kernel
theorem dX5_bestSpeed_80 : decode cX5_bestSpeed 80 = .ok (.iload_n 3, 1) := by decide +kernel
theorem dX5_bestSpeed_81 : decode cX5_bestSpeed 81 = .ok (.istore_n 3, 1) := by decide +kernel
theorem dX5_bestSpeed_82 : decode cX5_bestSpeed 82 = .ok (.aload_n 0, 1) := by decide +kernel
theorem dX5_bestSpeed_83 : decode cX5_bestSpeed 83 = .ok (.invokevirtual 183, 3) := by decide +kernel
theorem dX5_bestSpeed_86 : decode cX5_bestSpeed 86 = .ok (.iinc 4 10, 3) := by decide +kernel
theorem dX5_bestSpeed_89 : decode cX5_bestSpeed 89 = .ok (.goto (-60), 3) := by decide +kernel
theorem dX5_bestSpeed_92 : decode cX5_bestSpeed 92 = .ok (.iload_n 2, 1) := by decide +kernel
theorem dX5_bestSpeed_93 : decode cX5_bestSpeed 93 = .ok (.ireturn, 1) := by decide +kernel
set_option maxRecDepth 20000 in
theorem ggX5_meets_X5_columnOf : GoodIn wsX5_meets wsX5_columnOf := goodIn_r _ [5, 6, 7, 8, 4, 9, 10, 11, 12, 13, 14, 15, 16, 17, 18, 19, 20, 28, 29, 30, 31, 32, 33, 34, 35, 36, 37, 38, 39, 40, 41, 42, 43] (by decide +kernel) (by decide +kernel)
set_option maxRecDepth 20000 in
theorem gX5_meets_X5_columnOf : GoodIn wsX5_meets (wsV RX5 77 RX5 yX5_columnOf wsX5_columnOf) := goodIn_app (goodIn_of _ (by decide +kernel)) ggX5_meets_X5_columnOf
set_option maxRecDepth 20000 in
theorem ggX5_meets_X5_colorOf : GoodIn wsX5_meets wsX5_colorOf := goodIn_r _ [24, 10, 25, 26, 4, 27, 28, 29, 30, 31, 32, 33, 34, 35, 36, 37, 38, 39, 40, 41, 42, 43] (by decide +kernel) (by decide +kernel)
set_option maxRecDepth 20000 in
theorem gX5_meets_X5_colorOf : GoodIn wsX5_meets (wsV RX5 80 RX5 yX5_colorOf wsX5_colorOf) := goodIn_app (goodIn_of _ (by decide +kernel)) ggX5_meets_X5_colorOf
theorem dX5_meets_0 : decode cX5_meets 0 = .ok (.aload_n 0, 1) := by decide +kernel
theorem dX5_meets_1 : decode cX5_meets 1 = .ok (.iload_n 1, 1) := by decide +kernel
theorem dX5_meets_2 : decode cX5_meets 2 = .ok (.iload_n 3, 1) := by decide +kernel
theorem dX5_meets_3 : decode cX5_meets 3 = .ok (.invokevirtual 77, 3) := by decide +kernel
theorem dX5_meets_6 : decode cX5_meets 6 = .ok (.istore 5, 2) := by decide +kernel
theorem dX5_meets_8 : decode cX5_meets 8 = .ok (.aload_n 0, 1) := by decide +kernel
theorem dX5_meets_9 : decode cX5_meets 9 = .ok (.iload_n 2, 1) := by decide +kernel
theorem dX5_meets_10 : decode cX5_meets 10 = .ok (.iload_n 3, 1) := by decide +kernel
theorem dX5_meets_11 : decode cX5_meets 11 = .ok (.invokevirtual 77, 3) := by decide +kernel
theorem dX5_meets_14 : decode cX5_meets 14 = .ok (.istore 6, 2) := by decide +kernel
theorem dX5_meets_16 : decode cX5_meets 16 = .ok (.iload 5, 2) := by decide +kernel
theorem dX5_meets_18 : decode cX5_meets 18 = .ok (.bipush (-109), 2) := by decide +kernel
theorem dX5_meets_20 : decode cX5_meets 20 = .ok (.if_icmp .eq 38, 3) := by decide +kernel
theorem dX5_meets_23 : decode cX5_meets 23 = .ok (.iload 6, 2) := by decide +kernel
theorem dX5_meets_25 : decode cX5_meets 25 = .ok (.bipush (-109), 2) := by decide +kernel
theorem dX5_meets_27 : decode cX5_meets 27 = .ok (.if_icmp .eq 31, 3) := by decide +kernel
theorem dX5_meets_30 : decode cX5_meets 30 = .ok (.aload_n 0, 1) := by decide +kernel
theorem dX5_meets_31 : decode cX5_meets 31 = .ok (.iload_n 1, 1) := by decide +kernel
theorem dX5_meets_32 : decode cX5_meets 32 = .ok (.iload 5, 2) := by decide +kernel
theorem dX5_meets_34 : decode cX5_meets 34 = .ok (.iload 4, 2) := by decide +kernel
theorem dX5_meets_36 : decode cX5_meets 36 = .ok (.invokevirtual 80, 3) := by decide +kernel
theorem dX5_meets_39 : decode cX5_meets 39 = .ok (.ifCond .eq 19, 3) := by decide +kernel
theorem dX5_meets_42 : decode cX5_meets 42 = .ok (.aload_n 0, 1) := by decide +kernel
theorem dX5_meets_43 : decode cX5_meets 43 = .ok (.iload_n 2, 1) := by decide +kernel
theorem dX5_meets_44 : decode cX5_meets 44 = .ok (.iload 6, 2) := by decide +kernel
theorem dX5_meets_46 : decode cX5_meets 46 = .ok (.iload 4, 2) := by decide +kernel
theorem dX5_meets_48 : decode cX5_meets 48 = .ok (.invokevirtual 80, 3) := by decide +kernel
theorem dX5_meets_51 : decode cX5_meets 51 = .ok (.ifCond .eq 7, 3) := by decide +kernel
theorem dX5_meets_54 : decode cX5_meets 54 = .ok (.iconst 1, 1) := by decide +kernel
theorem dX5_meets_55 : decode cX5_meets 55 = .ok (.goto 4, 3) := by decide +kernel
theorem dX5_meets_58 : decode cX5_meets 58 = .ok (.iconst 0, 1) := by decide +kernel
theorem dX5_meets_59 : decode cX5_meets 59 = .ok (.ireturn, 1) := by decide +kernel
set_option maxRecDepth 20000 in
theorem ggX5_meetings_X5_isPicture : GoodIn wsX5_meetings wsX5_isPicture := goodIn_r _ [5, 6, 7, 8, 4, 9, 39, 40, 41, 42, 43, 44, 45, 46, 47, 48, 49, 50, 51, 52, 53, 54] (by decide +kernel) (by decide +kernel)
set_option maxRecDepth 20000 in
theorem gX5_meetings_X5_isPicture : GoodIn wsX5_meetings (wsV RX5 86 RX5 yX5_isPicture wsX5_isPicture) := goodIn_app (goodIn_of _ (by decide +kernel)) ggX5_meetings_X5_isPicture
set_option maxRecDepth 20000 in
theorem ggX5_meetings_X5_of : GoodIn wsX5_meetings wsX5_of := goodIn_r _ [13, 6, 39, 40, 41, 42, 43, 44, 45, 46, 47, 48, 49, 50, 51, 52, 53, 54] (by decide +kernel) (by decide +kernel)
set_option maxRecDepth 20000 in
theorem gX5_meetings_X5_of : GoodIn wsX5_meetings (wsV RX5 64 RX5 yX5_of wsX5_of) := goodIn_app (goodIn_of _ (by decide +kernel)) ggX5_meetings_X5_of
set_option maxRecDepth 20000 in
theorem ggX5_meetings_X5_meets : GoodIn wsX5_meetings wsX5_meets := goodIn_r _ [17, 18, 19, 20, 4, 21, 10, 11, 12, 13, 6, 22, 23, 24, 25, 26, 27, 28, 29, 30, 31, 32, 33, 34, 35, 36, 37, 38, 39, 40, 41, 42, 43, 44, 45, 46, 47, 48, 49, 50, 51, 52, 53, 54] (by decide +kernel) (by decide +kernel)
set_option maxRecDepth 20000 in
theorem gX5_meetings_X5_meets : GoodIn wsX5_meetings (wsV RX5 192 RX5 yX5_meets wsX5_meets) := goodIn_app (goodIn_of _ (by decide +kernel)) ggX5_meetings_X5_meets
theorem dX5_meetings_0 : decode cX5_meetings 0 = .ok (.aload_n 0, 1) := by decide +kernel
theorem dX5_meetings_1 : decode cX5_meetings 1 = .ok (.iload_n 1, 1) := by decide +kernel
theorem dX5_meetings_2 : decode cX5_meetings 2 = .ok (.invokevirtual 86, 3) := by decide +kernel
theorem dX5_meetings_5 : decode cX5_meetings 5 = .ok (.ifCond .eq 16, 3) := by decide +kernel
theorem dX5_meetings_8 : decode cX5_meetings 8 = .ok (.aload_n 0, 1) := by decide +kernel
theorem dX5_meetings_9 : decode cX5_meetings 9 = .ok (.iload_n 2, 1) := by decide +kernel
theorem dX5_meetings_10 : decode cX5_meetings 10 = .ok (.invokevirtual 86, 3) := by decide +kernel
theorem dX5_meetings_13 : decode cX5_meetings 13 = .ok (.ifCond .eq 8, 3) := by decide +kernel
theorem dX5_meetings_16 : decode cX5_meetings 16 = .ok (.iload_n 1, 1) := by decide +kernel
theorem dX5_meetings_17 : decode cX5_meetings 17 = .ok (.iload_n 2, 1) := by decide +kernel
theorem dX5_meetings_18 : decode cX5_meetings 18 = .ok (.if_icmp .ne 6, 3) := by decide +kernel
theorem dX5_meetings_21 : decode cX5_meetings 21 = .ok (.bipush (-101), 2) := by decide +kernel
theorem dX5_meetings_23 : decode cX5_meetings 23 = .ok (.ireturn, 1) := by decide +kernel
theorem dX5_meetings_24 : decode cX5_meetings 24 = .ok (.iconst 0, 1) := by decide +kernel
theorem dX5_meetings_25 : decode cX5_meetings 25 = .ok (.istore_n 3, 1) := by decide +kernel
theorem dX5_meetings_26 : decode cX5_meetings 26 = .ok (.aload_n 0, 1) := by decide +kernel
theorem dX5_meetings_27 : decode cX5_meetings 27 = .ok (.iload_n 1, 1) := by decide +kernel
theorem dX5_meetings_28 : decode cX5_meetings 28 = .ok (.iconst 3, 1) := by decide +kernel
theorem dX5_meetings_29 : decode cX5_meetings 29 = .ok (.invokevirtual 64, 3) := by decide +kernel
theorem dX5_meetings_32 : decode cX5_meetings 32 = .ok (.iconst 2, 1) := by decide +kernel
theorem dX5_meetings_33 : decode cX5_meetings 33 = .ok (.if_icmp .eq 17, 3) := by decide +kernel
theorem dX5_meetings_36 : decode cX5_meetings 36 = .ok (.aload_n 0, 1) := by decide +kernel
theorem dX5_meetings_37 : decode cX5_meetings 37 = .ok (.iload_n 2, 1) := by decide +kernel
theorem dX5_meetings_38 : decode cX5_meetings 38 = .ok (.iconst 3, 1) := by decide +kernel
theorem dX5_meetings_39 : decode cX5_meetings 39 = .ok (.invokevirtual 64, 3) := by decide +kernel
theorem dX5_meetings_42 : decode cX5_meetings 42 = .ok (.iconst 2, 1) := by decide +kernel
theorem dX5_meetings_43 : decode cX5_meetings 43 = .ok (.if_icmp .eq 7, 3) := by decide +kernel
theorem dX5_meetings_46 : decode cX5_meetings 46 = .ok (.iconst 1, 1) := by decide +kernel
theorem dX5_meetings_47 : decode cX5_meetings 47 = .ok (.goto 4, 3) := by decide +kernel
theorem dX5_meetings_50 : decode cX5_meetings 50 = .ok (.iconst 0, 1) := by decide +kernel
theorem dX5_meetings_51 : decode cX5_meetings 51 = .ok (.istore 4, 2) := by decide +kernel
theorem dX5_meetings_53 : decode cX5_meetings 53 = .ok (.iconst 0, 1) := by decide +kernel
theorem dX5_meetings_54 : decode cX5_meetings 54 = .ok (.istore 5, 2) := by decide +kernel
theorem dX5_meetings_56 : decode cX5_meetings 56 = .ok (.iload 5, 2) := by decide +kernel
theorem dX5_meetings_58 : decode cX5_meetings 58 = .ok (.sipush 8640, 3) := by decide +kernel
theorem dX5_meetings_61 : decode cX5_meetings 61 = .ok (.if_icmp .ge 41, 3) := by decide +kernel
theorem dX5_meetings_64 : decode cX5_meetings 64 = .ok (.iload 4, 2) := by decide +kernel
theorem dX5_meetings_66 : decode cX5_meetings 66 = .ok (.ifCond .eq 36, 3) := by decide +kernel
theorem dX5_meetings_69 : decode cX5_meetings 69 = .ok (.iload_n 3, 1) := by decide +kernel
theorem dX5_meetings_70 : decode cX5_meetings 70 = .ok (.aload_n 0, 1) := by decide +kernel
theorem dX5_meetings_71 : decode cX5_meetings 71 = .ok (.iload_n 1, 1) := by decide +kernel
theorem dX5_meetings_72 : decode cX5_meetings 72 = .ok (.iload_n 2, 1) := by decide +kernel
theorem dX5_meetings_73 : decode cX5_meetings 73 = .ok (.iload 5, 2) := by decide +kernel
theorem dX5_meetings_75 : decode cX5_meetings 75 = .ok (.bipush 12, 2) := by decide +kernel
theorem dX5_meetings_77 : decode cX5_meetings 77 = .ok (.idiv, 1) := by decide +kernel
theorem dX5_meetings_78 : decode cX5_meetings 78 = .ok (.iload 5, 2) := by decide +kernel
theorem dX5_meetings_80 : decode cX5_meetings 80 = .ok (.bipush 12, 2) := by decide +kernel
theorem dX5_meetings_82 : decode cX5_meetings 82 = .ok (.irem, 1) := by decide +kernel
theorem dX5_meetings_83 : decode cX5_meetings 83 = .ok (.invokevirtual 192, 3) := by decide +kernel
theorem dX5_meetings_86 : decode cX5_meetings 86 = .ok (.ifCond .eq 7, 3) := by decide +kernel
theorem dX5_meetings_89 : decode cX5_meetings 89 = .ok (.iconst 1, 1) := by decide +kernel
theorem dX5_meetings_90 : decode cX5_meetings 90 = .ok (.goto 4, 3) := by decide +kernel
theorem dX5_meetings_93 : decode cX5_meetings 93 = .ok (.iconst 0, 1) := by decide +kernel
theorem dX5_meetings_94 : decode cX5_meetings 94 = .ok (.iadd, 1) := by decide +kernel
theorem dX5_meetings_95 : decode cX5_meetings 95 = .ok (.istore_n 3, 1) := by decide +kernel
theorem dX5_meetings_96 : decode cX5_meetings 96 = .ok (.iinc 5 1, 3) := by decide +kernel
theorem dX5_meetings_99 : decode cX5_meetings 99 = .ok (.goto (-43), 3) := by decide +kernel
theorem dX5_meetings_102 : decode cX5_meetings 102 = .ok (.iload_n 3, 1) := by decide +kernel
theorem dX5_meetings_103 : decode cX5_meetings 103 = .ok (.ireturn, 1) := by decide +kernel
theorem dJ13_bitCount_95d88_0 : decode cJ13_bitCount_95d88 0 = .ok (.lload_n 0, 1) := by decide +kernel
theorem dJ13_bitCount_95d88_1 : decode cJ13_bitCount_95d88 1 = .ok (.lload_n 0, 1) := by decide +kernel
theorem dJ13_bitCount_95d88_2 : decode cJ13_bitCount_95d88 2 = .ok (.iconst 1, 1) := by decide +kernel
theorem dJ13_bitCount_95d88_3 : decode cJ13_bitCount_95d88 3 = .ok (.lushr, 1) := by decide +kernel
theorem dJ13_bitCount_95d88_4 : decode cJ13_bitCount_95d88 4 = .ok (.ldc2_w 314, 3) := by decide +kernel
theorem dJ13_bitCount_95d88_7 : decode cJ13_bitCount_95d88 7 = .ok (.land, 1) := by decide +kernel
theorem dJ13_bitCount_95d88_8 : decode cJ13_bitCount_95d88 8 = .ok (.lsub, 1) := by decide +kernel
theorem dJ13_bitCount_95d88_9 : decode cJ13_bitCount_95d88 9 = .ok (.lstore_n 0, 1) := by decide +kernel
theorem dJ13_bitCount_95d88_10 : decode cJ13_bitCount_95d88 10 = .ok (.lload_n 0, 1) := by decide +kernel
theorem dJ13_bitCount_95d88_11 : decode cJ13_bitCount_95d88 11 = .ok (.ldc2_w 316, 3) := by decide +kernel
theorem dJ13_bitCount_95d88_14 : decode cJ13_bitCount_95d88 14 = .ok (.land, 1) := by decide +kernel
theorem dJ13_bitCount_95d88_15 : decode cJ13_bitCount_95d88 15 = .ok (.lload_n 0, 1) := by decide +kernel
theorem dJ13_bitCount_95d88_16 : decode cJ13_bitCount_95d88 16 = .ok (.iconst 2, 1) := by decide +kernel
theorem dJ13_bitCount_95d88_17 : decode cJ13_bitCount_95d88 17 = .ok (.lushr, 1) := by decide +kernel
theorem dJ13_bitCount_95d88_18 : decode cJ13_bitCount_95d88 18 = .ok (.ldc2_w 316, 3) := by decide +kernel
theorem dJ13_bitCount_95d88_21 : decode cJ13_bitCount_95d88 21 = .ok (.land, 1) := by decide +kernel
theorem dJ13_bitCount_95d88_22 : decode cJ13_bitCount_95d88 22 = .ok (.ladd, 1) := by decide +kernel
theorem dJ13_bitCount_95d88_23 : decode cJ13_bitCount_95d88 23 = .ok (.lstore_n 0, 1) := by decide +kernel
theorem dJ13_bitCount_95d88_24 : decode cJ13_bitCount_95d88 24 = .ok (.lload_n 0, 1) := by decide +kernel
theorem dJ13_bitCount_95d88_25 : decode cJ13_bitCount_95d88 25 = .ok (.lload_n 0, 1) := by decide +kernel
theorem dJ13_bitCount_95d88_26 : decode cJ13_bitCount_95d88 26 = .ok (.iconst 4, 1) := by decide +kernel
theorem dJ13_bitCount_95d88_27 : decode cJ13_bitCount_95d88 27 = .ok (.lushr, 1) := by decide +kernel
theorem dJ13_bitCount_95d88_28 : decode cJ13_bitCount_95d88 28 = .ok (.ladd, 1) := by decide +kernel
theorem dJ13_bitCount_95d88_29 : decode cJ13_bitCount_95d88 29 = .ok (.ldc2_w 318, 3) := by decide +kernel
theorem dJ13_bitCount_95d88_32 : decode cJ13_bitCount_95d88 32 = .ok (.land, 1) := by decide +kernel
theorem dJ13_bitCount_95d88_33 : decode cJ13_bitCount_95d88 33 = .ok (.lstore_n 0, 1) := by decide +kernel
theorem dJ13_bitCount_95d88_34 : decode cJ13_bitCount_95d88 34 = .ok (.lload_n 0, 1) := by decide +kernel
theorem dJ13_bitCount_95d88_35 : decode cJ13_bitCount_95d88 35 = .ok (.lload_n 0, 1) := by decide +kernel
theorem dJ13_bitCount_95d88_36 : decode cJ13_bitCount_95d88 36 = .ok (.bipush 8, 2) := by decide +kernel
theorem dJ13_bitCount_95d88_38 : decode cJ13_bitCount_95d88 38 = .ok (.lushr, 1) := by decide +kernel
theorem dJ13_bitCount_95d88_39 : decode cJ13_bitCount_95d88 39 = .ok (.ladd, 1) := by decide +kernel
theorem dJ13_bitCount_95d88_40 : decode cJ13_bitCount_95d88 40 = .ok (.lstore_n 0, 1) := by decide +kernel
theorem dJ13_bitCount_95d88_41 : decode cJ13_bitCount_95d88 41 = .ok (.lload_n 0, 1) := by decide +kernel
theorem dJ13_bitCount_95d88_42 : decode cJ13_bitCount_95d88 42 = .ok (.lload_n 0, 1) := by decide +kernel
theorem dJ13_bitCount_95d88_43 : decode cJ13_bitCount_95d88 43 = .ok (.bipush 16, 2) := by decide +kernel
theorem dJ13_bitCount_95d88_45 : decode cJ13_bitCount_95d88 45 = .ok (.lushr, 1) := by decide +kernel
theorem dJ13_bitCount_95d88_46 : decode cJ13_bitCount_95d88 46 = .ok (.ladd, 1) := by decide +kernel
theorem dJ13_bitCount_95d88_47 : decode cJ13_bitCount_95d88 47 = .ok (.lstore_n 0, 1) := by decide +kernel
theorem dJ13_bitCount_95d88_48 : decode cJ13_bitCount_95d88 48 = .ok (.lload_n 0, 1) := by decide +kernel
theorem dJ13_bitCount_95d88_49 : decode cJ13_bitCount_95d88 49 = .ok (.lload_n 0, 1) := by decide +kernel
theorem dJ13_bitCount_95d88_50 : decode cJ13_bitCount_95d88 50 = .ok (.bipush 32, 2) := by decide +kernel
theorem dJ13_bitCount_95d88_52 : decode cJ13_bitCount_95d88 52 = .ok (.lushr, 1) := by decide +kernel
theorem dJ13_bitCount_95d88_53 : decode cJ13_bitCount_95d88 53 = .ok (.ladd, 1) := by decide +kernel
theorem dJ13_bitCount_95d88_54 : decode cJ13_bitCount_95d88 54 = .ok (.lstore_n 0, 1) := by decide +kernel
theorem dJ13_bitCount_95d88_55 : decode cJ13_bitCount_95d88 55 = .ok (.lload_n 0, 1) := by decide +kernel
theorem dJ13_bitCount_95d88_56 : decode cJ13_bitCount_95d88 56 = .ok (.l2i, 1) := by decide +kernel
theorem dJ13_bitCount_95d88_57 : decode cJ13_bitCount_95d88 57 = .ok (.bipush 127, 2) := by decide +kernel
theorem dJ13_bitCount_95d88_59 : decode cJ13_bitCount_95d88 59 = .ok (.iand, 1) := by decide +kernel
theorem dJ13_bitCount_95d88_60 : decode cJ13_bitCount_95d88 60 = .ok (.ireturn, 1) := by decide +kernel
theorem dJ9_floorMod_7cf53_0 : decode cJ9_floorMod_7cf53 0 = .ok (.iload_n 0, 1) := by decide +kernel
theorem dJ9_floorMod_7cf53_1 : decode cJ9_floorMod_7cf53 1 = .ok (.iload_n 1, 1) := by decide +kernel
theorem dJ9_floorMod_7cf53_2 : decode cJ9_floorMod_7cf53 2 = .ok (.irem, 1) := by decide +kernel
theorem dJ9_floorMod_7cf53_3 : decode cJ9_floorMod_7cf53 3 = .ok (.istore_n 2, 1) := by decide +kernel
theorem dJ9_floorMod_7cf53_4 : decode cJ9_floorMod_7cf53 4 = .ok (.iload_n 0, 1) := by decide +kernel
theorem dJ9_floorMod_7cf53_5 : decode cJ9_floorMod_7cf53 5 = .ok (.iload_n 1, 1) := by decide +kernel
theorem dJ9_floorMod_7cf53_6 : decode cJ9_floorMod_7cf53 6 = .ok (.ixor, 1) := by decide +kernel
theorem dJ9_floorMod_7cf53_7 : decode cJ9_floorMod_7cf53 7 = .ok (.ifCond .ge 11, 3) := by decide +kernel
theorem dJ9_floorMod_7cf53_10 : decode cJ9_floorMod_7cf53 10 = .ok (.iload_n 2, 1) := by decide +kernel
theorem dJ9_floorMod_7cf53_11 : decode cJ9_floorMod_7cf53 11 = .ok (.ifCond .eq 7, 3) := by decide +kernel
theorem dJ9_floorMod_7cf53_14 : decode cJ9_floorMod_7cf53 14 = .ok (.iload_n 2, 1) := by decide +kernel
theorem dJ9_floorMod_7cf53_15 : decode cJ9_floorMod_7cf53 15 = .ok (.iload_n 1, 1) := by decide +kernel
theorem dJ9_floorMod_7cf53_16 : decode cJ9_floorMod_7cf53 16 = .ok (.iadd, 1) := by decide +kernel
theorem dJ9_floorMod_7cf53_17 : decode cJ9_floorMod_7cf53 17 = .ok (.ireturn, 1) := by decide +kernel
theorem dJ9_floorMod_7cf53_18 : decode cJ9_floorMod_7cf53 18 = .ok (.iload_n 2, 1) := by decide +kernel
theorem dJ9_floorMod_7cf53_19 : decode cJ9_floorMod_7cf53 19 = .ok (.ireturn, 1) := by decide +kernel
theorem dJ9_abs_0f7a4_0 : decode cJ9_abs_0f7a4 0 = .ok (.iload_n 0, 1) := by decide +kernel
theorem dJ9_abs_0f7a4_1 : decode cJ9_abs_0f7a4 1 = .ok (.ifCond .ge 8, 3) := by decide +kernel
theorem dJ9_abs_0f7a4_4 : decode cJ9_abs_0f7a4 4 = .ok (.iload_n 0, 1) := by decide +kernel
theorem dJ9_abs_0f7a4_5 : decode cJ9_abs_0f7a4 5 = .ok (.ineg, 1) := by decide +kernel
theorem dJ9_abs_0f7a4_6 : decode cJ9_abs_0f7a4 6 = .ok (.goto 4, 3) := by decide +kernel
theorem dJ9_abs_0f7a4_9 : decode cJ9_abs_0f7a4 9 = .ok (.iload_n 0, 1) := by decide +kernel
theorem dJ9_abs_0f7a4_10 : decode cJ9_abs_0f7a4 10 = .ok (.ireturn, 1) := by decide +kernel
theorem dJ9_max_7cf53_0 : decode cJ9_max_7cf53 0 = .ok (.iload_n 0, 1) := by decide +kernel
theorem dJ9_max_7cf53_1 : decode cJ9_max_7cf53 1 = .ok (.iload_n 1, 1) := by decide +kernel
theorem dJ9_max_7cf53_2 : decode cJ9_max_7cf53 2 = .ok (.if_icmp .lt 7, 3) := by decide +kernel
theorem dJ9_max_7cf53_5 : decode cJ9_max_7cf53 5 = .ok (.iload_n 0, 1) := by decide +kernel
theorem dJ9_max_7cf53_6 : decode cJ9_max_7cf53 6 = .ok (.goto 4, 3) := by decide +kernel
theorem dJ9_max_7cf53_9 : decode cJ9_max_7cf53 9 = .ok (.iload_n 1, 1) := by decide +kernel
theorem dJ9_max_7cf53_10 : decode cJ9_max_7cf53 10 = .ok (.ireturn, 1) := by decide +kernel
theorem dJ9_min_7cf53_0 : decode cJ9_min_7cf53 0 = .ok (.iload_n 0, 1) := by decide +kernel
theorem dJ9_min_7cf53_1 : decode cJ9_min_7cf53 1 = .ok (.iload_n 1, 1) := by decide +kernel
theorem dJ9_min_7cf53_2 : decode cJ9_min_7cf53 2 = .ok (.if_icmp .gt 7, 3) := by decide +kernel
theorem dJ9_min_7cf53_5 : decode cJ9_min_7cf53 5 = .ok (.iload_n 0, 1) := by decide +kernel
theorem dJ9_min_7cf53_6 : decode cJ9_min_7cf53 6 = .ok (.goto 4, 3) := by decide +kernel
theorem dJ9_min_7cf53_9 : decode cJ9_min_7cf53 9 = .ok (.iload_n 1, 1) := by decide +kernel
theorem dJ9_min_7cf53_10 : decode cJ9_min_7cf53 10 = .ok (.ireturn, 1) := by decide +kernel
set_option maxRecDepth 20000 in
theorem ggL_law_X4_init : GoodIn wsL_law wsX4_init := goodIn_r _ [8, 9, 10, 11, 12, 13, 14, 15, 16, 17, 18, 19, 20, 21, 22, 23, 24, 25, 26, 27, 28, 29, 30, 31, 32, 33, 34, 35, 36, 37, 38, 39, 40, 41, 42, 43, 44, 45, 46, 47, 48, 49, 50, 51, 52, 53, 54, 55, 56, 57, 58, 59, 60, 61, 62, 63, 64, 65, 66, 67, 68, 69, 698, 699, 700, 701, 702, 703, 704, 705, 706, 707, 708, 673, 674, 675, 676, 677, 678, 679, 680, 681, 709, 710, 711, 712, 713, 714, 715, 716, 717, 718, 719, 720, 721, 722, 723, 724, 725, 726, 727, 728, 729, 730] (by decide +kernel) (by decide +kernel)
set_option maxRecDepth 20000 in
theorem gL_law_X4_init : GoodIn wsL_law (wsX4_init) := ggL_law_X4_init
set_option maxRecDepth 20000 in
theorem ggL_law_X5_init : GoodIn wsL_law wsX5_init := goodIn_r _ [72, 73, 10, 11, 44, 74, 75, 76, 77, 78, 79, 80, 81, 82, 83, 682, 683, 684, 685, 686, 687, 688, 689, 690, 691, 692, 693, 694, 695, 696, 697] (by decide +kernel) (by decide +kernel)
set_option maxRecDepth 20000 in
theorem gL_law_X5_init : GoodIn wsL_law (wsX5_init) := ggL_law_X5_init
set_option maxRecDepth 20000 in
theorem ggL_law_X4_addPicture : GoodIn wsL_law wsX4_addPicture := goodIn_r _ [87, 15, 88, 89, 90, 91, 92, 2, 93, 94, 95, 96, 97, 18, 17, 16, 98, 99, 100, 14, 101, 36, 38, 39, 40, 41, 42, 43, 45, 102, 103, 104, 105, 47, 48, 49, 106, 107, 108, 51, 109, 55, 56, 57, 58, 59, 110, 673, 674, 675, 676, 677, 678, 679, 680, 681, 698, 699, 700, 701, 702, 703, 704, 705, 706, 707, 708, 726, 727, 728, 729, 730] (by decide +kernel) (by decide +kernel)
set_option maxRecDepth 20000 in
theorem gL_law_X4_addPicture : GoodIn wsL_law (wsV RL 13 RX4 yX4_addPicture wsX4_addPicture) := goodIn_app (goodIn_of _ (by decide +kernel)) ggL_law_X4_addPicture
set_option maxRecDepth 20000 in
theorem ggL_law_X5_addPicture : GoodIn wsL_law wsX5_addPicture := goodIn_r _ [114, 74, 115, 116, 5, 117, 118, 119, 120, 121, 122, 123, 75, 124, 125, 126, 127, 78, 79, 682, 683, 684, 685, 686, 687, 688, 689, 690, 691, 692, 693, 694, 695, 696, 697] (by decide +kernel) (by decide +kernel)
set_option maxRecDepth 20000 in
theorem gL_law_X5_addPicture : GoodIn wsL_law (wsV RL 17 RX5 yX5_addPicture wsX5_addPicture) := goodIn_app (goodIn_of _ (by decide +kernel)) ggL_law_X5_addPicture
set_option maxRecDepth 20000 in
theorem ggL_law_X4_paint : GoodIn wsL_law wsX4_paint := goodIn_r _ [131, 15, 90, 132, 133, 134, 135, 14, 136, 36, 38, 92, 2, 93, 91, 94, 95, 96, 97, 18, 17, 16, 98, 99, 100, 101, 39, 40, 41, 42, 43, 45, 102, 103, 104, 105, 47, 48, 49, 106, 107, 108, 51, 109, 55, 56, 57, 58, 59, 110, 137, 138, 139, 140, 141, 142, 143, 144, 673, 674, 675, 676, 677, 678, 679, 680, 681, 726, 727, 728, 729, 730, 698, 699, 700, 701, 702, 703, 704, 705, 706, 707, 708] (by decide +kernel) (by decide +kernel)
set_option maxRecDepth 20000 in
theorem gL_law_X4_paint : GoodIn wsL_law (wsV RL 18 RX4 yX4_paint wsX4_paint) := goodIn_app (goodIn_of _ (by decide +kernel)) ggL_law_X4_paint
set_option maxRecDepth 20000 in
theorem ggL_law_X5_paint : GoodIn wsL_law wsX5_paint := goodIn_r _ [148, 149, 150, 151, 5, 152, 74, 115, 116, 117, 153, 154, 155, 156, 157, 158, 159, 118, 119, 120, 121, 122, 123, 75, 124, 125, 126, 127, 78, 79, 160, 161, 162, 163, 164, 165, 166, 167, 168, 169, 170, 682, 683, 684, 685, 686, 687, 688, 689, 690, 691, 692, 693, 694, 695, 696, 697] (by decide +kernel) (by decide +kernel)
set_option maxRecDepth 20000 in
theorem gL_law_X5_paint : GoodIn wsL_law (wsV RL 22 RX5 yX5_paint wsX5_paint) := goodIn_app (goodIn_of _ (by decide +kernel)) ggL_law_X5_paint
set_option maxRecDepth 20000 in
theorem ggL_law_X4_setPlace : GoodIn wsL_law wsX4_setPlace := goodIn_r _ [174, 15, 175, 176, 133, 134, 135, 14, 136, 36, 38, 92, 2, 93, 91, 94, 95, 96, 97, 18, 17, 16, 98, 99, 100, 101, 39, 40, 41, 42, 43, 45, 102, 103, 104, 105, 47, 48, 49, 106, 107, 108, 51, 109, 55, 56, 57, 58, 59, 110, 673, 674, 675, 676, 677, 678, 679, 680, 681, 726, 727, 728, 729, 730, 698, 699, 700, 701, 702, 703, 704, 705, 706, 707, 708] (by decide +kernel) (by decide +kernel)
set_option maxRecDepth 20000 in
theorem gL_law_X4_setPlace : GoodIn wsL_law (wsV RL 23 RX4 yX4_setPlace wsX4_setPlace) := goodIn_app (goodIn_of _ (by decide +kernel)) ggL_law_X4_setPlace
set_option maxRecDepth 20000 in
theorem ggL_law_X5_setPlace : GoodIn wsL_law wsX5_setPlace := goodIn_r _ [180, 74, 149, 150, 151, 5, 152, 115, 116, 117, 118, 119, 120, 121, 122, 123, 75, 124, 125, 126, 127, 78, 79, 153, 154, 155, 156, 682, 683, 684, 685, 686, 687, 688, 689, 690, 691, 692, 693, 694, 695, 696, 697] (by decide +kernel) (by decide +kernel)
set_option maxRecDepth 20000 in
theorem gL_law_X5_setPlace : GoodIn wsL_law (wsV RL 27 RX5 yX5_setPlace wsX5_setPlace) := goodIn_app (goodIn_of _ (by decide +kernel)) ggL_law_X5_setPlace
set_option maxRecDepth 20000 in
theorem ggL_law_X4_setKind : GoodIn wsL_law wsX4_setKind := goodIn_r _ [184, 15, 185, 133, 134, 135, 14, 136, 36, 38, 92, 2, 93, 91, 94, 95, 96, 97, 18, 17, 16, 98, 99, 100, 101, 39, 40, 41, 42, 43, 45, 102, 103, 104, 105, 47, 48, 49, 106, 107, 108, 51, 109, 55, 56, 57, 58, 59, 110, 673, 674, 675, 676, 677, 678, 679, 680, 681, 726, 727, 728, 729, 730, 698, 699, 700, 701, 702, 703, 704, 705, 706, 707, 708] (by decide +kernel) (by decide +kernel)
set_option maxRecDepth 20000 in
theorem gL_law_X4_setKind : GoodIn wsL_law (wsV RL 28 RX4 yX4_setKind wsX4_setKind) := goodIn_app (goodIn_of _ (by decide +kernel)) ggL_law_X4_setKind
set_option maxRecDepth 20000 in
theorem ggL_law_X5_setKind : GoodIn wsL_law wsX5_setKind := goodIn_r _ [189, 149, 150, 151, 5, 152, 74, 115, 116, 117, 190, 191, 192, 193, 118, 119, 120, 121, 122, 123, 75, 124, 125, 126, 127, 78, 79, 682, 683, 684, 685, 686, 687, 688, 689, 690, 691, 692, 693, 694, 695, 696, 697] (by decide +kernel) (by decide +kernel)
set_option maxRecDepth 20000 in
theorem gL_law_X5_setKind : GoodIn wsL_law (wsV RL 32 RX5 yX5_setKind wsX5_setKind) := goodIn_app (goodIn_of _ (by decide +kernel)) ggL_law_X5_setKind
set_option maxRecDepth 20000 in
theorem ggL_law_X4_append : GoodIn wsL_law wsX4_append := goodIn_r _ [197, 21, 20, 91, 92, 2, 93, 673, 674, 675, 676, 677, 678, 679, 680, 681] (by decide +kernel) (by decide +kernel)
set_option maxRecDepth 20000 in
theorem gL_law_X4_append : GoodIn wsL_law (wsV RL 33 RX4 yX4_append wsX4_append) := goodIn_app (goodIn_of _ (by decide +kernel)) ggL_law_X4_append
set_option maxRecDepth 20000 in
theorem ggL_law_X5_append : GoodIn wsL_law wsX5_append := goodIn_r _ [201, 202, 80, 115, 116, 5, 117, 682, 683, 684, 685, 686, 687, 688, 689, 690, 691, 692, 693, 694, 695, 696, 697] (by decide +kernel) (by decide +kernel)
set_option maxRecDepth 20000 in
theorem gL_law_X5_append : GoodIn wsL_law (wsV RL 36 RX5 yX5_append wsX5_append) := goodIn_app (goodIn_of _ (by decide +kernel)) ggL_law_X5_append
set_option maxRecDepth 20000 in
theorem ggL_law_X4_clearText : GoodIn wsL_law wsX4_clearText := goodIn_r _ [206, 21, 673, 674, 675, 676, 677, 678, 679, 680, 681] (by decide +kernel) (by decide +kernel)
set_option maxRecDepth 20000 in
theorem gL_law_X4_clearText : GoodIn wsL_law (wsV RL 37 RX4 yX4_clearText wsX4_clearText) := goodIn_app (goodIn_of _ (by decide +kernel)) ggL_law_X4_clearText
set_option maxRecDepth 20000 in
theorem ggL_law_X5_clearText : GoodIn wsL_law wsX5_clearText := goodIn_r _ [210, 202, 682, 683, 684, 685, 686, 687, 688, 689, 690, 691, 692, 693, 694, 695, 696, 697] (by decide +kernel) (by decide +kernel)
set_option maxRecDepth 20000 in
theorem gL_law_X5_clearText : GoodIn wsL_law (wsV RL 41 RX5 yX5_clearText wsX5_clearText) := goodIn_app (goodIn_of _ (by decide +kernel)) ggL_law_X5_clearText
set_option maxRecDepth 20000 in
theorem ggL_law_X4_load : GoodIn wsL_law wsX4_load := goodIn_r _ [214, 15, 25, 20, 21, 215, 90, 216, 132, 217, 103, 104, 105, 133, 134, 135, 14, 136, 36, 38, 92, 2, 93, 218, 219, 220, 24, 221, 222, 223, 224, 63, 225, 226, 227, 228, 229, 230, 231, 232, 233, 234, 235, 236, 237, 238, 239, 240, 241, 242, 141, 142, 143, 144, 243, 244, 245, 246, 247, 248, 249, 250, 94, 95, 96, 97, 18, 17, 16, 98, 99, 100, 101, 39, 40, 41, 42, 43, 45, 102, 47, 48, 49, 106, 107, 108, 51, 109, 55, 56, 57, 58, 59, 110, 673, 674, 675, 676, 677, 678, 679, 680, 681, 709, 710, 711, 712, 713, 714, 726, 727, 728, 729, 730, 698, 699, 700, 701, 702, 703, 704, 705, 706, 707, 708] (by decide +kernel) (by decide +kernel)
set_option maxRecDepth 20000 in
theorem gL_law_X4_load : GoodIn wsL_law (wsV RL 42 RX4 yX4_load wsX4_load) := goodIn_app (goodIn_of _ (by decide +kernel)) ggL_law_X4_load
set_option maxRecDepth 20000 in
theorem ggL_law_X5_load : GoodIn wsL_law wsX5_load := goodIn_r _ [254, 255, 202, 74, 256, 81, 149, 150, 151, 5, 152, 115, 116, 117, 257, 258, 259, 260, 261, 262, 263, 264, 265, 266, 267, 268, 269, 80, 270, 271, 272, 273, 274, 275, 276, 277, 278, 279, 280, 281, 282, 283, 284, 285, 118, 119, 120, 121, 122, 123, 75, 124, 125, 126, 127, 78, 79, 682, 683, 684, 685, 686, 687, 688, 689, 690, 691, 692, 693, 694, 695, 696, 697] (by decide +kernel) (by decide +kernel)
set_option maxRecDepth 20000 in
theorem gL_law_X5_load : GoodIn wsL_law (wsV RL 45 RX5 yX5_load wsX5_load) := goodIn_app (goodIn_of _ (by decide +kernel)) ggL_law_X5_load
set_option maxRecDepth 20000 in
theorem ggL_law_X4_setSecondArm : GoodIn wsL_law wsX4_setSecondArm := goodIn_r _ [289, 15, 290, 91, 92, 2, 93, 94, 95, 96, 97, 18, 17, 16, 98, 99, 100, 14, 101, 36, 38, 39, 40, 41, 42, 43, 45, 102, 103, 104, 105, 47, 48, 49, 106, 107, 108, 51, 109, 55, 56, 57, 58, 59, 110, 673, 674, 675, 676, 677, 678, 679, 680, 681, 698, 699, 700, 701, 702, 703, 704, 705, 706, 707, 708, 726, 727, 728, 729, 730] (by decide +kernel) (by decide +kernel)
set_option maxRecDepth 20000 in
theorem gL_law_X4_setSecondArm : GoodIn wsL_law (wsV RL 46 RX4 yX4_setSecondArm wsX4_setSecondArm) := goodIn_app (goodIn_of _ (by decide +kernel)) ggL_law_X4_setSecondArm
set_option maxRecDepth 20000 in
theorem ggL_law_X5_setSecondArm : GoodIn wsL_law wsX5_setSecondArm := goodIn_r _ [294, 115, 116, 5, 117, 190, 191, 192, 193, 74, 118, 119, 120, 121, 122, 123, 75, 124, 125, 126, 127, 78, 79, 682, 683, 684, 685, 686, 687, 688, 689, 690, 691, 692, 693, 694, 695, 696, 697] (by decide +kernel) (by decide +kernel)
set_option maxRecDepth 20000 in
theorem gL_law_X5_setSecondArm : GoodIn wsL_law (wsV RL 49 RX5 yX5_setSecondArm wsX5_setSecondArm) := goodIn_app (goodIn_of _ (by decide +kernel)) ggL_law_X5_setSecondArm
set_option maxRecDepth 20000 in
theorem ggL_law_X4_setBroken : GoodIn wsL_law wsX4_setBroken := goodIn_r _ [298, 15, 299, 144, 91, 92, 2, 93, 94, 95, 96, 97, 18, 17, 16, 98, 99, 100, 14, 101, 36, 38, 39, 40, 41, 42, 43, 45, 102, 103, 104, 105, 47, 48, 49, 106, 107, 108, 51, 109, 55, 56, 57, 58, 59, 110, 300, 301, 302, 303, 673, 674, 675, 676, 677, 678, 679, 680, 681, 698, 699, 700, 701, 702, 703, 704, 705, 706, 707, 708, 726, 727, 728, 729, 730] (by decide +kernel) (by decide +kernel)
set_option maxRecDepth 20000 in
theorem gL_law_X4_setBroken : GoodIn wsL_law (wsV RL 50 RX4 yX4_setBroken wsX4_setBroken) := goodIn_app (goodIn_of _ (by decide +kernel)) ggL_law_X4_setBroken
set_option maxRecDepth 20000 in
theorem ggL_law_X5_setBroken : GoodIn wsL_law wsX5_setBroken := goodIn_r _ [307, 74, 115, 116, 5, 117, 157, 158, 159, 118, 119, 120, 121, 122, 123, 75, 124, 125, 126, 127, 78, 79, 308, 309, 310, 311, 682, 683, 684, 685, 686, 687, 688, 689, 690, 691, 692, 693, 694, 695, 696, 697] (by decide +kernel) (by decide +kernel)
set_option maxRecDepth 20000 in
theorem gL_law_X5_setBroken : GoodIn wsL_law (wsV RL 53 RX5 yX5_setBroken wsX5_setBroken) := goodIn_app (goodIn_of _ (by decide +kernel)) ggL_law_X5_setBroken
set_option maxRecDepth 20000 in
theorem ggL_law_X4_set : GoodIn wsL_law wsX4_set := goodIn_r _ [315, 316, 317, 15, 318, 91, 92, 2, 93, 94, 95, 96, 97, 18, 17, 16, 98, 99, 100, 14, 101, 36, 38, 39, 40, 41, 42, 43, 45, 102, 103, 104, 105, 47, 48, 49, 106, 107, 108, 51, 109, 55, 56, 57, 58, 59, 110, 673, 674, 675, 676, 677, 678, 679, 680, 681, 698, 699, 700, 701, 702, 703, 704, 705, 706, 707, 708, 726, 727, 728, 729, 730] (by decide +kernel) (by decide +kernel)
set_option maxRecDepth 20000 in
theorem gL_law_X4_set : GoodIn wsL_law (wsV RL 54 RX4 yX4_set wsX4_set) := goodIn_app (goodIn_of _ (by decide +kernel)) ggL_law_X4_set
set_option maxRecDepth 20000 in
theorem ggL_law_X5_set : GoodIn wsL_law wsX5_set := goodIn_r _ [322, 323, 324, 5, 325, 115, 116, 117, 190, 191, 192, 193, 74, 118, 119, 120, 121, 122, 123, 75, 124, 125, 126, 127, 78, 79, 682, 683, 684, 685, 686, 687, 688, 689, 690, 691, 692, 693, 694, 695, 696, 697] (by decide +kernel) (by decide +kernel)
set_option maxRecDepth 20000 in
theorem gL_law_X5_set : GoodIn wsL_law (wsV RL 57 RX5 yX5_set wsX5_set) := goodIn_app (goodIn_of _ (by decide +kernel)) ggL_law_X5_set
set_option maxRecDepth 20000 in
theorem ggL_law_X4_run : GoodIn wsL_law wsX4_run := goodIn_r _ [329, 15, 330, 29, 318, 331, 91, 92, 2, 93, 94, 95, 96, 97, 18, 17, 16, 98, 99, 100, 14, 101, 36, 38, 39, 40, 41, 42, 43, 45, 102, 103, 104, 105, 47, 48, 49, 106, 107, 108, 51, 109, 55, 56, 57, 58, 59, 110, 332, 333, 334, 28, 335, 336, 337, 338, 339, 340, 67, 68, 341, 342, 343, 344, 345, 346, 347, 348, 349, 350, 351, 352, 353, 354, 355, 356, 357, 358, 359, 360, 361, 362, 363, 364, 365, 366, 367, 368, 369, 370, 371, 372, 373, 374, 375, 376, 377, 378, 379, 380, 381, 382, 383, 384, 385, 386, 387, 388, 389, 390, 391, 392, 393, 394, 69, 395, 396, 397, 398, 399, 400, 401, 402, 403, 404, 405, 406, 407, 408, 409, 410, 411, 412, 413, 414, 415, 416, 417, 418, 419, 420, 421, 422, 423, 424, 425, 426, 427, 428, 429, 430, 431, 432, 433, 434, 435, 301, 302, 303, 436, 437, 438, 439, 673, 674, 675, 676, 677, 678, 679, 680, 681, 698, 699, 700, 701, 702, 703, 704, 705, 706, 707, 708, 726, 727, 728, 729, 730, 715, 716, 717, 718, 719, 720, 721, 722, 723, 724, 725] (by decide +kernel) (by decide +kernel)
set_option maxRecDepth 20000 in
theorem gL_law_X4_run : GoodIn wsL_law (wsV RL 58 RX4 yX4_run wsX4_run) := goodIn_app (goodIn_of _ (by decide +kernel)) ggL_law_X4_run
set_option maxRecDepth 20000 in
theorem ggL_law_X5_run : GoodIn wsL_law wsX5_run := goodIn_r _ [443, 74, 115, 116, 5, 117, 118, 119, 120, 121, 122, 123, 75, 124, 125, 126, 127, 78, 79, 444, 445, 446, 447, 82, 448, 449, 450, 451, 153, 154, 155, 156, 452, 453, 454, 455, 456, 457, 458, 459, 460, 461, 462, 463, 464, 465, 160, 161, 162, 163, 164, 165, 166, 466, 467, 468, 469, 470, 471, 472, 473, 474, 475, 476, 477, 478, 479, 480, 481, 482, 483, 484, 308, 309, 310, 311, 682, 683, 684, 685, 686, 687, 688, 689, 690, 691, 692, 693, 694, 695, 696, 697] (by decide +kernel) (by decide +kernel)
set_option maxRecDepth 20000 in
theorem gL_law_X5_run : GoodIn wsL_law (wsV RL 61 RX5 yX5_run wsX5_run) := goodIn_app (goodIn_of _ (by decide +kernel)) ggL_law_X5_run
set_option maxRecDepth 20000 in
theorem ggL_law_X4_undo : GoodIn wsL_law wsX4_undo := goodIn_r _ [488, 18, 15, 16, 17, 98, 99, 100, 14, 101, 36, 38, 39, 40, 41, 42, 43, 45, 102, 103, 104, 105, 47, 48, 49, 106, 107, 108, 51, 109, 55, 56, 57, 58, 59, 110, 673, 674, 675, 676, 677, 678, 679, 680, 681, 698, 699, 700, 701, 702, 703, 704, 705, 706, 707, 708, 726, 727, 728, 729, 730] (by decide +kernel) (by decide +kernel)
set_option maxRecDepth 20000 in
theorem gL_law_X4_undo : GoodIn wsL_law (wsV RL 62 RX4 yX4_undo wsX4_undo) := goodIn_app (goodIn_of _ (by decide +kernel)) ggL_law_X4_undo
set_option maxRecDepth 20000 in
theorem ggL_law_X5_undo : GoodIn wsL_law wsX5_undo := goodIn_r _ [492, 122, 123, 74, 75, 493, 494, 495, 496, 5, 497, 78, 79, 682, 683, 684, 685, 686, 687, 688, 689, 690, 691, 692, 693, 694, 695, 696, 697] (by decide +kernel) (by decide +kernel)
set_option maxRecDepth 20000 in
theorem gL_law_X5_undo : GoodIn wsL_law (wsV RL 65 RX5 yX5_undo wsX5_undo) := goodIn_app (goodIn_of _ (by decide +kernel)) ggL_law_X5_undo
set_option maxRecDepth 20000 in
theorem ggL_law_X4_count : GoodIn wsL_law wsX4_count := goodIn_r _ [501, 15, 88, 502, 503, 330, 331, 290, 18, 21, 504, 505, 506, 2, 507, 508, 509, 510, 14, 511, 41, 45, 434, 405, 364, 406, 49, 48, 432, 512, 370, 371, 372, 513, 374, 375, 376, 377, 378, 379, 514, 515, 516, 517, 518, 343, 344, 345, 36, 38, 346, 347, 348, 51, 349, 58, 59, 350, 351, 352, 353, 56, 354, 355, 356, 357, 358, 359, 360, 361, 55, 57, 362, 363, 365, 366, 367, 368, 369, 673, 674, 675, 676, 677, 678, 679, 680, 681, 698, 699, 700, 701, 702, 703, 704, 705, 706, 707, 708, 726, 727, 728, 729, 730] (by decide +kernel) (by decide +kernel)
set_option maxRecDepth 20000 in
theorem gL_law_X4_count : GoodIn wsL_law (wsV RL 66 RX4 yX4_count wsX4_count) := goodIn_app (goodIn_of _ (by decide +kernel)) ggL_law_X4_count
set_option maxRecDepth 20000 in
theorem ggL_law_X5_count : GoodIn wsL_law wsX5_count := goodIn_r _ [522, 74, 122, 202, 523, 524, 525, 5, 526, 82, 527, 528, 529, 530, 75, 531, 532, 533, 534, 535, 536, 537, 538, 444, 445, 446, 447, 448, 449, 450, 451, 153, 154, 155, 156, 452, 453, 454, 455, 456, 457, 458, 459, 460, 461, 462, 463, 464, 465, 160, 161, 162, 163, 164, 165, 166, 682, 683, 684, 685, 686, 687, 688, 689, 690, 691, 692, 693, 694, 695, 696, 697] (by decide +kernel) (by decide +kernel)
set_option maxRecDepth 20000 in
theorem gL_law_X5_count : GoodIn wsL_law (wsV RL 69 RX5 yX5_count wsX5_count) := goodIn_app (goodIn_of _ (by decide +kernel)) ggL_law_X5_count
set_option maxRecDepth 20000 in
theorem ggL_law_X4_setting : GoodIn wsL_law wsX4_setting := goodIn_r _ [542, 15, 318, 91, 92, 2, 93, 673, 674, 675, 676, 677, 678, 679, 680, 681, 698, 699, 700, 701, 702, 703, 704, 705, 706, 707, 708] (by decide +kernel) (by decide +kernel)
set_option maxRecDepth 20000 in
theorem gL_law_X4_setting : GoodIn wsL_law (wsV RL 70 RX4 yX4_setting wsX4_setting) := goodIn_app (goodIn_of _ (by decide +kernel)) ggL_law_X4_setting
set_option maxRecDepth 20000 in
theorem ggL_law_X5_setting : GoodIn wsL_law wsX5_setting := goodIn_r _ [546, 74, 115, 116, 5, 117, 682, 683, 684, 685, 686, 687, 688, 689, 690, 691, 692, 693, 694, 695, 696, 697] (by decide +kernel) (by decide +kernel)
set_option maxRecDepth 20000 in
theorem gL_law_X5_setting : GoodIn wsL_law (wsV RL 73 RX5 yX5_setting wsX5_setting) := goodIn_app (goodIn_of _ (by decide +kernel)) ggL_law_X5_setting
set_option maxRecDepth 20000 in
theorem ggL_law_X4_picture : GoodIn wsL_law wsX4_picture := goodIn_r _ [550, 15, 90, 175, 176, 185, 133, 134, 135, 14, 136, 36, 38, 92, 2, 93, 551, 552, 553, 51, 554, 55, 59, 370, 371, 372, 555, 374, 375, 376, 377, 378, 379, 556, 359, 360, 361, 57, 362, 363, 364, 365, 673, 674, 675, 676, 677, 678, 679, 680, 681, 726, 727, 728, 729, 730, 698, 699, 700, 701, 702, 703, 704, 705, 706, 707, 708] (by decide +kernel) (by decide +kernel)
set_option maxRecDepth 20000 in
theorem gL_law_X4_picture : GoodIn wsL_law (wsV RL 74 RX4 yX4_picture wsX4_picture) := goodIn_app (goodIn_of _ (by decide +kernel)) ggL_law_X4_picture
set_option maxRecDepth 20000 in
theorem ggL_law_X5_picture : GoodIn wsL_law wsX5_picture := goodIn_r _ [560, 149, 150, 151, 5, 152, 74, 115, 116, 117, 153, 154, 155, 156, 561, 562, 563, 564, 160, 161, 162, 163, 164, 165, 166, 459, 460, 461, 462, 463, 464, 465, 682, 683, 684, 685, 686, 687, 688, 689, 690, 691, 692, 693, 694, 695, 696, 697] (by decide +kernel) (by decide +kernel)
set_option maxRecDepth 20000 in
theorem gL_law_X5_picture : GoodIn wsL_law (wsV RL 77 RX5 yX5_picture wsX5_picture) := goodIn_app (goodIn_of _ (by decide +kernel)) ggL_law_X5_picture
set_option maxRecDepth 20000 in
theorem ggL_law_X4_color : GoodIn wsL_law wsX4_color := goodIn_r _ [568, 15, 90, 132, 133, 134, 135, 14, 136, 36, 38, 92, 2, 93, 91, 137, 138, 139, 673, 674, 675, 676, 677, 678, 679, 680, 681, 726, 727, 728, 729, 730, 698, 699, 700, 701, 702, 703, 704, 705, 706, 707, 708] (by decide +kernel) (by decide +kernel)
set_option maxRecDepth 20000 in
theorem gL_law_X4_color : GoodIn wsL_law (wsV RL 78 RX4 yX4_color wsX4_color) := goodIn_app (goodIn_of _ (by decide +kernel)) ggL_law_X4_color
set_option maxRecDepth 20000 in
theorem ggL_law_X5_color : GoodIn wsL_law wsX5_color := goodIn_r _ [572, 149, 150, 151, 5, 152, 74, 115, 116, 117, 157, 158, 159, 153, 154, 155, 156, 160, 161, 162, 163, 164, 165, 166, 682, 683, 684, 685, 686, 687, 688, 689, 690, 691, 692, 693, 694, 695, 696, 697] (by decide +kernel) (by decide +kernel)
set_option maxRecDepth 20000 in
theorem gL_law_X5_color : GoodIn wsL_law (wsV RL 81 RX5 yX5_color wsX5_color) := goodIn_app (goodIn_of _ (by decide +kernel)) ggL_law_X5_color
set_option maxRecDepth 20000 in
theorem ggL_law_X4_broken : GoodIn wsL_law wsX4_broken := goodIn_r _ [576, 15, 91, 92, 2, 93, 300, 301, 302, 14, 303, 47, 673, 674, 675, 676, 677, 678, 679, 680, 681, 698, 699, 700, 701, 702, 703, 704, 705, 706, 707, 708] (by decide +kernel) (by decide +kernel)
set_option maxRecDepth 20000 in
theorem gL_law_X4_broken : GoodIn wsL_law (wsV RL 82 RX4 yX4_broken wsX4_broken) := goodIn_app (goodIn_of _ (by decide +kernel)) ggL_law_X4_broken
set_option maxRecDepth 20000 in
theorem ggL_law_X5_broken : GoodIn wsL_law wsX5_broken := goodIn_r _ [580, 115, 116, 5, 117, 157, 158, 159, 308, 309, 310, 311, 74, 682, 683, 684, 685, 686, 687, 688, 689, 690, 691, 692, 693, 694, 695, 696, 697] (by decide +kernel) (by decide +kernel)
set_option maxRecDepth 20000 in
theorem gL_law_X5_broken : GoodIn wsL_law (wsV RL 85 RX5 yX5_broken wsX5_broken) := goodIn_app (goodIn_of _ (by decide +kernel)) ggL_law_X5_broken
set_option maxRecDepth 20000 in
theorem ggL_law_X4_place : GoodIn wsL_law wsX4_place := goodIn_r _ [584, 15, 91, 92, 2, 93, 518, 343, 344, 14, 345, 36, 38, 346, 347, 348, 51, 349, 58, 59, 350, 351, 352, 353, 56, 354, 355, 356, 357, 358, 359, 360, 361, 55, 57, 362, 363, 364, 365, 366, 367, 368, 369, 137, 138, 139, 508, 509, 510, 511, 41, 45, 434, 405, 406, 49, 48, 432, 585, 586, 587, 588, 589, 330, 673, 674, 675, 676, 677, 678, 679, 680, 681, 698, 699, 700, 701, 702, 703, 704, 705, 706, 707, 708, 726, 727, 728, 729, 730] (by decide +kernel) (by decide +kernel)
set_option maxRecDepth 20000 in
theorem gL_law_X4_place : GoodIn wsL_law (wsV RL 86 RX4 yX4_place wsX4_place) := goodIn_app (goodIn_of _ (by decide +kernel)) ggL_law_X4_place
set_option maxRecDepth 20000 in
theorem ggL_law_X5_place : GoodIn wsL_law wsX5_place := goodIn_r _ [593, 115, 116, 5, 117, 157, 158, 159, 448, 449, 450, 451, 74, 153, 154, 155, 156, 452, 453, 454, 455, 456, 457, 458, 459, 460, 461, 462, 463, 464, 465, 160, 161, 162, 163, 164, 165, 166, 527, 528, 529, 530, 75, 531, 532, 533, 534, 682, 683, 684, 685, 686, 687, 688, 689, 690, 691, 692, 693, 694, 695, 696, 697] (by decide +kernel) (by decide +kernel)
set_option maxRecDepth 20000 in
theorem gL_law_X5_place : GoodIn wsL_law (wsV RL 89 RX5 yX5_place wsX5_place) := goodIn_app (goodIn_of _ (by decide +kernel)) ggL_law_X5_place
set_option maxRecDepth 20000 in
theorem ggL_law_X4_columnAt : GoodIn wsL_law wsX4_columnAt := goodIn_r _ [597, 15, 133, 134, 135, 14, 136, 36, 38, 92, 2, 93, 91, 598, 351, 352, 51, 353, 56, 354, 355, 356, 357, 358, 359, 360, 361, 55, 57, 362, 363, 364, 365, 599, 367, 368, 369, 58, 673, 674, 675, 676, 677, 678, 679, 680, 681, 698, 699, 700, 701, 702, 703, 704, 705, 706, 707, 708, 726, 727, 728, 729, 730] (by decide +kernel) (by decide +kernel)
set_option maxRecDepth 20000 in
theorem gL_law_X4_columnAt : GoodIn wsL_law (wsV RL 90 RX4 yX4_columnAt wsX4_columnAt) := goodIn_app (goodIn_of _ (by decide +kernel)) ggL_law_X4_columnAt
set_option maxRecDepth 20000 in
theorem ggL_law_X5_columnAt : GoodIn wsL_law wsX5_columnAt := goodIn_r _ [603, 149, 150, 151, 5, 152, 74, 115, 116, 117, 452, 453, 454, 455, 153, 154, 155, 156, 456, 457, 458, 459, 460, 461, 462, 463, 464, 465, 682, 683, 684, 685, 686, 687, 688, 689, 690, 691, 692, 693, 694, 695, 696, 697] (by decide +kernel) (by decide +kernel)
set_option maxRecDepth 20000 in
theorem gL_law_X5_columnAt : GoodIn wsL_law (wsV RL 93 RX5 yX5_columnAt wsX5_columnAt) := goodIn_app (goodIn_of _ (by decide +kernel)) ggL_law_X5_columnAt
set_option maxRecDepth 20000 in
theorem ggL_law_X4_ticksAround : GoodIn wsL_law wsX4_ticksAround := goodIn_r _ [607, 29, 15, 318, 608, 609, 412, 364, 413, 332, 333, 334, 28, 335, 336, 337, 338, 339, 340, 67, 68, 341, 342, 343, 344, 14, 345, 36, 38, 346, 347, 348, 51, 349, 58, 59, 350, 351, 352, 353, 56, 354, 355, 356, 357, 358, 359, 360, 361, 55, 57, 362, 363, 365, 366, 367, 368, 369, 370, 2, 371, 372, 373, 374, 375, 376, 377, 378, 379, 380, 381, 382, 383, 384, 385, 386, 387, 388, 389, 390, 391, 392, 393, 394, 69, 395, 396, 397, 398, 399, 400, 401, 402, 403, 404, 405, 406, 407, 408, 409, 410, 411, 414, 673, 674, 675, 676, 677, 678, 679, 680, 681, 698, 699, 700, 701, 702, 703, 704, 705, 706, 707, 708, 715, 716, 717, 718, 719, 720, 721, 722, 723, 724, 725, 726, 727, 728, 729, 730] (by decide +kernel) (by decide +kernel)
set_option maxRecDepth 20000 in
theorem gL_law_X4_ticksAround : GoodIn wsL_law (wsV RL 94 RX4 yX4_ticksAround wsX4_ticksAround) := goodIn_app (goodIn_of _ (by decide +kernel)) ggL_law_X4_ticksAround
set_option maxRecDepth 20000 in
theorem ggL_law_X5_ticksAround : GoodIn wsL_law wsX5_ticksAround := goodIn_r _ [613, 74, 614, 615, 616, 5, 617, 76, 77, 75, 444, 445, 446, 447, 82, 448, 449, 450, 451, 153, 154, 155, 156, 452, 453, 454, 455, 456, 457, 458, 459, 460, 461, 462, 463, 464, 465, 160, 161, 162, 163, 164, 165, 166, 470, 471, 472, 473, 474, 475, 476, 477, 478, 479, 480, 481, 482, 483, 484, 308, 309, 310, 311, 618, 619, 620, 621, 682, 683, 684, 685, 686, 687, 688, 689, 690, 691, 692, 693, 694, 695, 696, 697] (by decide +kernel) (by decide +kernel)
set_option maxRecDepth 20000 in
theorem gL_law_X5_ticksAround : GoodIn wsL_law (wsV RL 97 RX5 yX5_ticksAround wsX5_ticksAround) := goodIn_app (goodIn_of _ (by decide +kernel)) ggL_law_X5_ticksAround
set_option maxRecDepth 20000 in
theorem ggL_law_X4_gaps : GoodIn wsL_law wsX4_gaps := goodIn_r _ [625, 29, 15, 318, 91, 92, 2, 93, 332, 333, 334, 28, 335, 336, 337, 338, 339, 340, 67, 68, 341, 342, 343, 344, 14, 345, 36, 38, 346, 347, 348, 51, 349, 58, 59, 350, 351, 352, 353, 56, 354, 355, 356, 357, 358, 359, 360, 361, 55, 57, 362, 363, 364, 365, 366, 367, 368, 369, 370, 371, 372, 373, 374, 375, 376, 377, 378, 379, 380, 381, 382, 383, 384, 385, 386, 387, 388, 389, 390, 391, 392, 393, 394, 69, 395, 396, 397, 398, 399, 400, 401, 402, 403, 404, 405, 406, 407, 408, 409, 410, 411, 412, 413, 414, 626, 425, 426, 427, 627, 437, 438, 439, 628, 629, 630, 631, 632, 633, 673, 674, 675, 676, 677, 678, 679, 680, 681, 698, 699, 700, 701, 702, 703, 704, 705, 706, 707, 708, 715, 716, 717, 718, 719, 720, 721, 722, 723, 724, 725, 726, 727, 728, 729, 730] (by decide +kernel) (by decide +kernel)
set_option maxRecDepth 20000 in
theorem gL_law_X4_gaps : GoodIn wsL_law (wsV RL 98 RX4 yX4_gaps wsX4_gaps) := goodIn_app (goodIn_of _ (by decide +kernel)) ggL_law_X4_gaps
set_option maxRecDepth 20000 in
theorem ggL_law_X5_gaps : GoodIn wsL_law wsX5_gaps := goodIn_r _ [637, 83, 115, 116, 5, 117, 614, 615, 616, 617, 76, 74, 77, 75, 444, 445, 446, 447, 82, 448, 449, 450, 451, 153, 154, 155, 156, 452, 453, 454, 455, 456, 457, 458, 459, 460, 461, 462, 463, 464, 465, 160, 161, 162, 163, 164, 165, 166, 638, 639, 640, 641, 470, 471, 472, 473, 474, 475, 476, 477, 478, 479, 480, 481, 482, 483, 484, 308, 309, 310, 311, 618, 619, 620, 621, 642, 643, 644, 645, 682, 683, 684, 685, 686, 687, 688, 689, 690, 691, 692, 693, 694, 695, 696, 697] (by decide +kernel) (by decide +kernel)
set_option maxRecDepth 20000 in
theorem gL_law_X5_gaps : GoodIn wsL_law (wsV RL 101 RX5 yX5_gaps wsX5_gaps) := goodIn_app (goodIn_of _ (by decide +kernel)) ggL_law_X5_gaps
set_option maxRecDepth 20000 in
theorem ggL_law_X4_bestSpeed : GoodIn wsL_law wsX4_bestSpeed := goodIn_r _ [649, 29, 15, 31, 372, 650, 144, 316, 317, 91, 92, 2, 93, 332, 333, 334, 28, 335, 336, 337, 338, 339, 340, 67, 68, 341, 342, 343, 344, 14, 345, 36, 38, 346, 347, 348, 51, 349, 58, 59, 350, 351, 352, 353, 56, 354, 355, 356, 357, 358, 359, 360, 361, 55, 57, 362, 363, 364, 365, 366, 367, 368, 369, 370, 371, 373, 374, 375, 376, 377, 378, 379, 380, 381, 382, 508, 509, 510, 511, 41, 45, 434, 405, 406, 49, 48, 432, 512, 383, 384, 385, 386, 387, 388, 389, 390, 391, 392, 393, 394, 69, 395, 396, 397, 398, 399, 400, 401, 402, 403, 404, 407, 408, 409, 410, 411, 412, 413, 414, 651, 652, 653, 654, 318, 655, 299, 626, 425, 426, 427, 627, 437, 438, 439, 513, 673, 674, 675, 676, 677, 678, 679, 680, 681, 715, 716, 717, 718, 719, 720, 721, 722, 723, 724, 725, 698, 699, 700, 701, 702, 703, 704, 705, 706, 707, 708, 726, 727, 728, 729, 730] (by decide +kernel) (by decide +kernel)
set_option maxRecDepth 20000 in
theorem gL_law_X4_bestSpeed : GoodIn wsL_law (wsV RL 102 RX4 yX4_bestSpeed wsX4_bestSpeed) := goodIn_app (goodIn_of _ (by decide +kernel)) ggL_law_X4_bestSpeed
set_option maxRecDepth 20000 in
theorem ggL_law_X5_bestSpeed : GoodIn wsL_law wsX5_bestSpeed := goodIn_r _ [659, 74, 115, 116, 5, 117, 614, 615, 616, 617, 76, 77, 75, 444, 445, 446, 447, 82, 448, 449, 450, 451, 153, 154, 155, 156, 452, 453, 454, 455, 456, 457, 458, 459, 460, 461, 462, 463, 464, 465, 160, 161, 162, 163, 164, 165, 166, 466, 467, 468, 469, 470, 471, 472, 473, 474, 475, 476, 477, 478, 479, 480, 481, 482, 483, 484, 308, 309, 310, 311, 523, 524, 525, 526, 527, 528, 529, 530, 531, 532, 533, 534, 618, 619, 620, 621, 682, 683, 684, 685, 686, 687, 688, 689, 690, 691, 692, 693, 694, 695, 696, 697] (by decide +kernel) (by decide +kernel)
set_option maxRecDepth 20000 in
theorem gL_law_X5_bestSpeed : GoodIn wsL_law (wsV RL 105 RX5 yX5_bestSpeed wsX5_bestSpeed) := goodIn_app (goodIn_of _ (by decide +kernel)) ggL_law_X5_bestSpeed
set_option maxRecDepth 20000 in
theorem ggL_law_X4_meetings : GoodIn wsL_law wsX4_meetings := goodIn_r _ [663, 15, 133, 134, 135, 14, 136, 36, 38, 92, 2, 93, 664, 347, 348, 51, 349, 58, 59, 350, 351, 352, 353, 56, 354, 355, 356, 357, 358, 359, 360, 361, 55, 57, 362, 363, 364, 365, 366, 367, 368, 369, 512, 370, 371, 372, 513, 374, 375, 376, 377, 378, 379, 673, 674, 675, 676, 677, 678, 679, 680, 681, 698, 699, 700, 701, 702, 703, 704, 705, 706, 707, 708, 726, 727, 728, 729, 730] (by decide +kernel) (by decide +kernel)
set_option maxRecDepth 20000 in
theorem gL_law_X4_meetings : GoodIn wsL_law (wsV RL 106 RX4 yX4_meetings wsX4_meetings) := goodIn_app (goodIn_of _ (by decide +kernel)) ggL_law_X4_meetings
set_option maxRecDepth 20000 in
theorem ggL_law_X5_meetings : GoodIn wsL_law wsX5_meetings := goodIn_r _ [668, 149, 150, 151, 5, 152, 74, 115, 116, 117, 153, 154, 155, 156, 669, 670, 671, 672, 452, 453, 454, 455, 456, 457, 458, 459, 460, 461, 462, 463, 464, 465, 160, 161, 162, 163, 164, 165, 166, 682, 683, 684, 685, 686, 687, 688, 689, 690, 691, 692, 693, 694, 695, 696, 697] (by decide +kernel) (by decide +kernel)
set_option maxRecDepth 20000 in
theorem gL_law_X5_meetings : GoodIn wsL_law (wsV RL 109 RX5 yX5_meetings wsX5_meetings) := goodIn_app (goodIn_of _ (by decide +kernel)) ggL_law_X5_meetings
theorem dL_law_0 : decode cL_law 0 = .ok (.new 7, 3) := by decide +kernel
theorem dL_law_3 : decode cL_law 3 = .ok (.dup, 1) := by decide +kernel
theorem dL_law_4 : decode cL_law 4 = .ok (.invokespecial 9, 3) := by decide +kernel
theorem dL_law_7 : decode cL_law 7 = .ok (.astore_n 1, 1) := by decide +kernel
theorem dL_law_8 : decode cL_law 8 = .ok (.new 10, 3) := by decide +kernel
theorem dL_law_11 : decode cL_law 11 = .ok (.dup, 1) := by decide +kernel
theorem dL_law_12 : decode cL_law 12 = .ok (.invokespecial 12, 3) := by decide +kernel
theorem dL_law_15 : decode cL_law 15 = .ok (.astore_n 2, 1) := by decide +kernel
theorem dL_law_16 : decode cL_law 16 = .ok (.iconst 0, 1) := by decide +kernel
theorem dL_law_17 : decode cL_law 17 = .ok (.istore_n 3, 1) := by decide +kernel
theorem dL_law_18 : decode cL_law 18 = .ok (.iload_n 3, 1) := by decide +kernel
theorem dL_law_19 : decode cL_law 19 = .ok (.aload_n 0, 1) := by decide +kernel
theorem dL_law_20 : decode cL_law 20 = .ok (.arraylength, 1) := by decide +kernel
theorem dL_law_21 : decode cL_law 21 = .ok (.iconst 5, 1) := by decide +kernel
theorem dL_law_22 : decode cL_law 22 = .ok (.isub, 1) := by decide +kernel
theorem dL_law_23 : decode cL_law 23 = .ok (.if_icmp .gt 792, 3) := by decide +kernel
theorem dL_law_26 : decode cL_law 26 = .ok (.aload_n 0, 1) := by decide +kernel
theorem dL_law_27 : decode cL_law 27 = .ok (.iload_n 3, 1) := by decide +kernel
theorem dL_law_28 : decode cL_law 28 = .ok (.iaload, 1) := by decide +kernel
theorem dL_law_29 : decode cL_law 29 = .ok (.bipush 31, 2) := by decide +kernel
theorem dL_law_31 : decode cL_law 31 = .ok (.iand, 1) := by decide +kernel
theorem dL_law_32 : decode cL_law 32 = .ok (.tableswitch 777 0 22 #[108, 131, 184, 227, 260, 283, 296, 319, 342, 385, 418, 441, 454, 477, 500, 533, 576, 609, 652, 685, 698, 721, 744], 108) := by decide +kernel
theorem dL_law_140 : decode cL_law 140 = .ok (.aload_n 1, 1) := by decide +kernel
theorem dL_law_141 : decode cL_law 141 = .ok (.aload_n 0, 1) := by decide +kernel
theorem dL_law_142 : decode cL_law 142 = .ok (.iload_n 3, 1) := by decide +kernel
theorem dL_law_143 : decode cL_law 143 = .ok (.iconst 1, 1) := by decide +kernel
theorem dL_law_144 : decode cL_law 144 = .ok (.iadd, 1) := by decide +kernel
theorem dL_law_145 : decode cL_law 145 = .ok (.iaload, 1) := by decide +kernel
theorem dL_law_146 : decode cL_law 146 = .ok (.invokevirtual 13, 3) := by decide +kernel
theorem dL_law_149 : decode cL_law 149 = .ok (.aload_n 2, 1) := by decide +kernel
theorem dL_law_150 : decode cL_law 150 = .ok (.aload_n 0, 1) := by decide +kernel
theorem dL_law_151 : decode cL_law 151 = .ok (.iload_n 3, 1) := by decide +kernel
theorem dL_law_152 : decode cL_law 152 = .ok (.iconst 1, 1) := by decide +kernel
theorem dL_law_153 : decode cL_law 153 = .ok (.iadd, 1) := by decide +kernel
theorem dL_law_154 : decode cL_law 154 = .ok (.iaload, 1) := by decide +kernel
theorem dL_law_155 : decode cL_law 155 = .ok (.invokevirtual 17, 3) := by decide +kernel
theorem dL_law_158 : decode cL_law 158 = .ok (.if_icmp .eq 651, 3) := by decide +kernel
theorem dL_law_161 : decode cL_law 161 = .ok (.iconst 0, 1) := by decide +kernel
theorem dL_law_162 : decode cL_law 162 = .ok (.ireturn, 1) := by decide +kernel
theorem dL_law_163 : decode cL_law 163 = .ok (.aload_n 1, 1) := by decide +kernel
theorem dL_law_164 : decode cL_law 164 = .ok (.aload_n 0, 1) := by decide +kernel
theorem dL_law_165 : decode cL_law 165 = .ok (.iload_n 3, 1) := by decide +kernel
theorem dL_law_166 : decode cL_law 166 = .ok (.iconst 1, 1) := by decide +kernel
theorem dL_law_167 : decode cL_law 167 = .ok (.iadd, 1) := by decide +kernel
theorem dL_law_168 : decode cL_law 168 = .ok (.iaload, 1) := by decide +kernel
theorem dL_law_169 : decode cL_law 169 = .ok (.aload_n 0, 1) := by decide +kernel
theorem dL_law_170 : decode cL_law 170 = .ok (.iload_n 3, 1) := by decide +kernel
theorem dL_law_171 : decode cL_law 171 = .ok (.iconst 2, 1) := by decide +kernel
theorem dL_law_172 : decode cL_law 172 = .ok (.iadd, 1) := by decide +kernel
theorem dL_law_173 : decode cL_law 173 = .ok (.iaload, 1) := by decide +kernel
theorem dL_law_174 : decode cL_law 174 = .ok (.aload_n 0, 1) := by decide +kernel
theorem dL_law_175 : decode cL_law 175 = .ok (.iload_n 3, 1) := by decide +kernel
theorem dL_law_176 : decode cL_law 176 = .ok (.iconst 3, 1) := by decide +kernel
theorem dL_law_177 : decode cL_law 177 = .ok (.iadd, 1) := by decide +kernel
theorem dL_law_178 : decode cL_law 178 = .ok (.iaload, 1) := by decide +kernel
theorem dL_law_179 : decode cL_law 179 = .ok (.aload_n 0, 1) := by decide +kernel
theorem dL_law_180 : decode cL_law 180 = .ok (.iload_n 3, 1) := by decide +kernel
theorem dL_law_181 : decode cL_law 181 = .ok (.iconst 4, 1) := by decide +kernel
theorem dL_law_182 : decode cL_law 182 = .ok (.iadd, 1) := by decide +kernel
theorem dL_law_183 : decode cL_law 183 = .ok (.iaload, 1) := by decide +kernel
theorem dL_law_184 : decode cL_law 184 = .ok (.invokevirtual 18, 3) := by decide +kernel
theorem dL_law_187 : decode cL_law 187 = .ok (.aload_n 2, 1) := by decide +kernel
theorem dL_law_188 : decode cL_law 188 = .ok (.aload_n 0, 1) := by decide +kernel
theorem dL_law_189 : decode cL_law 189 = .ok (.iload_n 3, 1) := by decide +kernel
theorem dL_law_190 : decode cL_law 190 = .ok (.iconst 1, 1) := by decide +kernel
theorem dL_law_191 : decode cL_law 191 = .ok (.iadd, 1) := by decide +kernel
theorem dL_law_192 : decode cL_law 192 = .ok (.iaload, 1) := by decide +kernel
theorem dL_law_193 : decode cL_law 193 = .ok (.aload_n 0, 1) := by decide +kernel
theorem dL_law_194 : decode cL_law 194 = .ok (.iload_n 3, 1) := by decide +kernel
theorem dL_law_195 : decode cL_law 195 = .ok (.iconst 2, 1) := by decide +kernel
theorem dL_law_196 : decode cL_law 196 = .ok (.iadd, 1) := by decide +kernel
theorem dL_law_197 : decode cL_law 197 = .ok (.iaload, 1) := by decide +kernel
theorem dL_law_198 : decode cL_law 198 = .ok (.aload_n 0, 1) := by decide +kernel
theorem dL_law_199 : decode cL_law 199 = .ok (.iload_n 3, 1) := by decide +kernel
theorem dL_law_200 : decode cL_law 200 = .ok (.iconst 3, 1) := by decide +kernel
theorem dL_law_201 : decode cL_law 201 = .ok (.iadd, 1) := by decide +kernel
theorem dL_law_202 : decode cL_law 202 = .ok (.iaload, 1) := by decide +kernel
theorem dL_law_203 : decode cL_law 203 = .ok (.aload_n 0, 1) := by decide +kernel
theorem dL_law_204 : decode cL_law 204 = .ok (.iload_n 3, 1) := by decide +kernel
theorem dL_law_205 : decode cL_law 205 = .ok (.iconst 4, 1) := by decide +kernel
theorem dL_law_206 : decode cL_law 206 = .ok (.iadd, 1) := by decide +kernel
theorem dL_law_207 : decode cL_law 207 = .ok (.iaload, 1) := by decide +kernel
theorem dL_law_208 : decode cL_law 208 = .ok (.invokevirtual 22, 3) := by decide +kernel
theorem dL_law_211 : decode cL_law 211 = .ok (.if_icmp .eq 598, 3) := by decide +kernel
theorem dL_law_214 : decode cL_law 214 = .ok (.iconst 0, 1) := by decide +kernel
theorem dL_law_215 : decode cL_law 215 = .ok (.ireturn, 1) := by decide +kernel
theorem dL_law_216 : decode cL_law 216 = .ok (.aload_n 1, 1) := by decide +kernel
theorem dL_law_217 : decode cL_law 217 = .ok (.aload_n 0, 1) := by decide +kernel
theorem dL_law_218 : decode cL_law 218 = .ok (.iload_n 3, 1) := by decide +kernel
theorem dL_law_219 : decode cL_law 219 = .ok (.iconst 1, 1) := by decide +kernel
theorem dL_law_220 : decode cL_law 220 = .ok (.iadd, 1) := by decide +kernel
theorem dL_law_221 : decode cL_law 221 = .ok (.iaload, 1) := by decide +kernel
theorem dL_law_222 : decode cL_law 222 = .ok (.aload_n 0, 1) := by decide +kernel
theorem dL_law_223 : decode cL_law 223 = .ok (.iload_n 3, 1) := by decide +kernel
theorem dL_law_224 : decode cL_law 224 = .ok (.iconst 2, 1) := by decide +kernel
theorem dL_law_225 : decode cL_law 225 = .ok (.iadd, 1) := by decide +kernel
theorem dL_law_226 : decode cL_law 226 = .ok (.iaload, 1) := by decide +kernel
theorem dL_law_227 : decode cL_law 227 = .ok (.aload_n 0, 1) := by decide +kernel
theorem dL_law_228 : decode cL_law 228 = .ok (.iload_n 3, 1) := by decide +kernel
theorem dL_law_229 : decode cL_law 229 = .ok (.iconst 3, 1) := by decide +kernel
theorem dL_law_230 : decode cL_law 230 = .ok (.iadd, 1) := by decide +kernel
theorem dL_law_231 : decode cL_law 231 = .ok (.iaload, 1) := by decide +kernel
theorem dL_law_232 : decode cL_law 232 = .ok (.invokevirtual 23, 3) := by decide +kernel
theorem dL_law_235 : decode cL_law 235 = .ok (.aload_n 2, 1) := by decide +kernel
theorem dL_law_236 : decode cL_law 236 = .ok (.aload_n 0, 1) := by decide +kernel
theorem dL_law_237 : decode cL_law 237 = .ok (.iload_n 3, 1) := by decide +kernel
theorem dL_law_238 : decode cL_law 238 = .ok (.iconst 1, 1) := by decide +kernel
theorem dL_law_239 : decode cL_law 239 = .ok (.iadd, 1) := by decide +kernel
theorem dL_law_240 : decode cL_law 240 = .ok (.iaload, 1) := by decide +kernel
theorem dL_law_241 : decode cL_law 241 = .ok (.aload_n 0, 1) := by decide +kernel
theorem dL_law_242 : decode cL_law 242 = .ok (.iload_n 3, 1) := by decide +kernel
theorem dL_law_243 : decode cL_law 243 = .ok (.iconst 2, 1) := by decide +kernel
theorem dL_law_244 : decode cL_law 244 = .ok (.iadd, 1) := by decide +kernel
theorem dL_law_245 : decode cL_law 245 = .ok (.iaload, 1) := by decide +kernel
theorem dL_law_246 : decode cL_law 246 = .ok (.aload_n 0, 1) := by decide +kernel
theorem dL_law_247 : decode cL_law 247 = .ok (.iload_n 3, 1) := by decide +kernel
theorem dL_law_248 : decode cL_law 248 = .ok (.iconst 3, 1) := by decide +kernel
theorem dL_law_249 : decode cL_law 249 = .ok (.iadd, 1) := by decide +kernel
theorem dL_law_250 : decode cL_law 250 = .ok (.iaload, 1) := by decide +kernel
theorem dL_law_251 : decode cL_law 251 = .ok (.invokevirtual 27, 3) := by decide +kernel
theorem dL_law_254 : decode cL_law 254 = .ok (.if_icmp .eq 555, 3) := by decide +kernel
theorem dL_law_257 : decode cL_law 257 = .ok (.iconst 0, 1) := by decide +kernel
theorem dL_law_258 : decode cL_law 258 = .ok (.ireturn, 1) := by decide +kernel
theorem dL_law_259 : decode cL_law 259 = .ok (.aload_n 1, 1) := by decide +kernel
theorem dL_law_260 : decode cL_law 260 = .ok (.aload_n 0, 1) := by decide +kernel
theorem dL_law_261 : decode cL_law 261 = .ok (.iload_n 3, 1) := by decide +kernel
theorem dL_law_262 : decode cL_law 262 = .ok (.iconst 1, 1) := by decide +kernel
theorem dL_law_263 : decode cL_law 263 = .ok (.iadd, 1) := by decide +kernel
theorem dL_law_264 : decode cL_law 264 = .ok (.iaload, 1) := by decide +kernel
theorem dL_law_265 : decode cL_law 265 = .ok (.aload_n 0, 1) := by decide +kernel
theorem dL_law_266 : decode cL_law 266 = .ok (.iload_n 3, 1) := by decide +kernel
theorem dL_law_267 : decode cL_law 267 = .ok (.iconst 2, 1) := by decide +kernel
theorem dL_law_268 : decode cL_law 268 = .ok (.iadd, 1) := by decide +kernel
theorem dL_law_269 : decode cL_law 269 = .ok (.iaload, 1) := by decide +kernel
theorem dL_law_270 : decode cL_law 270 = .ok (.invokevirtual 28, 3) := by decide +kernel
theorem dL_law_273 : decode cL_law 273 = .ok (.aload_n 2, 1) := by decide +kernel
theorem dL_law_274 : decode cL_law 274 = .ok (.aload_n 0, 1) := by decide +kernel
theorem dL_law_275 : decode cL_law 275 = .ok (.iload_n 3, 1) := by decide +kernel
theorem dL_law_276 : decode cL_law 276 = .ok (.iconst 1, 1) := by decide +kernel
theorem dL_law_277 : decode cL_law 277 = .ok (.iadd, 1) := by decide +kernel
theorem dL_law_278 : decode cL_law 278 = .ok (.iaload, 1) := by decide +kernel
theorem dL_law_279 : decode cL_law 279 = .ok (.aload_n 0, 1) := by decide +kernel
theorem dL_law_280 : decode cL_law 280 = .ok (.iload_n 3, 1) := by decide +kernel
theorem dL_law_281 : decode cL_law 281 = .ok (.iconst 2, 1) := by decide +kernel
theorem dL_law_282 : decode cL_law 282 = .ok (.iadd, 1) := by decide +kernel
theorem dL_law_283 : decode cL_law 283 = .ok (.iaload, 1) := by decide +kernel
theorem dL_law_284 : decode cL_law 284 = .ok (.invokevirtual 32, 3) := by decide +kernel
theorem dL_law_287 : decode cL_law 287 = .ok (.if_icmp .eq 522, 3) := by decide +kernel
theorem dL_law_290 : decode cL_law 290 = .ok (.iconst 0, 1) := by decide +kernel
theorem dL_law_291 : decode cL_law 291 = .ok (.ireturn, 1) := by decide +kernel
theorem dL_law_292 : decode cL_law 292 = .ok (.aload_n 1, 1) := by decide +kernel
theorem dL_law_293 : decode cL_law 293 = .ok (.aload_n 0, 1) := by decide +kernel
theorem dL_law_294 : decode cL_law 294 = .ok (.iload_n 3, 1) := by decide +kernel
theorem dL_law_295 : decode cL_law 295 = .ok (.iconst 1, 1) := by decide +kernel
theorem dL_law_296 : decode cL_law 296 = .ok (.iadd, 1) := by decide +kernel
theorem dL_law_297 : decode cL_law 297 = .ok (.iaload, 1) := by decide +kernel
theorem dL_law_298 : decode cL_law 298 = .ok (.invokevirtual 33, 3) := by decide +kernel
theorem dL_law_301 : decode cL_law 301 = .ok (.aload_n 2, 1) := by decide +kernel
theorem dL_law_302 : decode cL_law 302 = .ok (.aload_n 0, 1) := by decide +kernel
theorem dL_law_303 : decode cL_law 303 = .ok (.iload_n 3, 1) := by decide +kernel
theorem dL_law_304 : decode cL_law 304 = .ok (.iconst 1, 1) := by decide +kernel
theorem dL_law_305 : decode cL_law 305 = .ok (.iadd, 1) := by decide +kernel
theorem dL_law_306 : decode cL_law 306 = .ok (.iaload, 1) := by decide +kernel
theorem dL_law_307 : decode cL_law 307 = .ok (.invokevirtual 36, 3) := by decide +kernel
end
section
theorem dL_law_310 : decode cL_law 310 = .ok (.if_icmp .eq 499, 3) := by decide +kernel
theorem dL_law_313 : decode cL_law 313 = .ok (.iconst 0, 1) := by decide +kernel
theorem dL_law_314 : decode cL_law 314 = .ok (.ireturn, 1) := by decide +kernel
theorem dL_law_315 : decode cL_law 315 = .ok (.aload_n 1, 1) := by decide +kernel
theorem dL_law_316 : decode cL_law 316 = .ok (.invokevirtual 37, 3) := by decide +kernel
theorem dL_law_319 : decode cL_law 319 = .ok (.aload_n 2, 1) := by decide +kernel
theorem dL_law_320 : decode cL_law 320 = .ok (.invokevirtual 41, 3) := by decide +kernel
theorem dL_law_323 : decode cL_law 323 = .ok (.if_icmp .eq 486, 3) := by decide +kernel
theorem dL_law_326 : decode cL_law 326 = .ok (.iconst 0, 1) := by decide +kernel
theorem dL_law_327 : decode cL_law 327 = .ok (.ireturn, 1) := by decide +kernel
theorem dL_law_328 : decode cL_law 328 = .ok (.aload_n 1, 1) := by decide +kernel
theorem dL_law_329 : decode cL_law 329 = .ok (.aload_n 0, 1) := by decide +kernel
theorem dL_law_330 : decode cL_law 330 = .ok (.iload_n 3, 1) := by decide +kernel
theorem dL_law_331 : decode cL_law 331 = .ok (.iconst 1, 1) := by decide +kernel
theorem dL_law_332 : decode cL_law 332 = .ok (.iadd, 1) := by decide +kernel
theorem dL_law_333 : decode cL_law 333 = .ok (.iaload, 1) := by decide +kernel
theorem dL_law_334 : decode cL_law 334 = .ok (.invokevirtual 42, 3) := by decide +kernel
theorem dL_law_337 : decode cL_law 337 = .ok (.aload_n 2, 1) := by decide +kernel
theorem dL_law_338 : decode cL_law 338 = .ok (.aload_n 0, 1) := by decide +kernel
theorem dL_law_339 : decode cL_law 339 = .ok (.iload_n 3, 1) := by decide +kernel
theorem dL_law_340 : decode cL_law 340 = .ok (.iconst 1, 1) := by decide +kernel
theorem dL_law_341 : decode cL_law 341 = .ok (.iadd, 1) := by decide +kernel
theorem dL_law_342 : decode cL_law 342 = .ok (.iaload, 1) := by decide +kernel
theorem dL_law_343 : decode cL_law 343 = .ok (.invokevirtual 45, 3) := by decide +kernel
theorem dL_law_346 : decode cL_law 346 = .ok (.if_icmp .eq 463, 3) := by decide +kernel
theorem dL_law_349 : decode cL_law 349 = .ok (.iconst 0, 1) := by decide +kernel
theorem dL_law_350 : decode cL_law 350 = .ok (.ireturn, 1) := by decide +kernel
theorem dL_law_351 : decode cL_law 351 = .ok (.aload_n 1, 1) := by decide +kernel
theorem dL_law_352 : decode cL_law 352 = .ok (.aload_n 0, 1) := by decide +kernel
theorem dL_law_353 : decode cL_law 353 = .ok (.iload_n 3, 1) := by decide +kernel
theorem dL_law_354 : decode cL_law 354 = .ok (.iconst 1, 1) := by decide +kernel
theorem dL_law_355 : decode cL_law 355 = .ok (.iadd, 1) := by decide +kernel
theorem dL_law_356 : decode cL_law 356 = .ok (.iaload, 1) := by decide +kernel
theorem dL_law_357 : decode cL_law 357 = .ok (.invokevirtual 46, 3) := by decide +kernel
theorem dL_law_360 : decode cL_law 360 = .ok (.aload_n 2, 1) := by decide +kernel
theorem dL_law_361 : decode cL_law 361 = .ok (.aload_n 0, 1) := by decide +kernel
theorem dL_law_362 : decode cL_law 362 = .ok (.iload_n 3, 1) := by decide +kernel
theorem dL_law_363 : decode cL_law 363 = .ok (.iconst 1, 1) := by decide +kernel
theorem dL_law_364 : decode cL_law 364 = .ok (.iadd, 1) := by decide +kernel
theorem dL_law_365 : decode cL_law 365 = .ok (.iaload, 1) := by decide +kernel
theorem dL_law_366 : decode cL_law 366 = .ok (.invokevirtual 49, 3) := by decide +kernel
theorem dL_law_369 : decode cL_law 369 = .ok (.if_icmp .eq 440, 3) := by decide +kernel
theorem dL_law_372 : decode cL_law 372 = .ok (.iconst 0, 1) := by decide +kernel
theorem dL_law_373 : decode cL_law 373 = .ok (.ireturn, 1) := by decide +kernel
theorem dL_law_374 : decode cL_law 374 = .ok (.aload_n 1, 1) := by decide +kernel
theorem dL_law_375 : decode cL_law 375 = .ok (.aload_n 0, 1) := by decide +kernel
theorem dL_law_376 : decode cL_law 376 = .ok (.iload_n 3, 1) := by decide +kernel
theorem dL_law_377 : decode cL_law 377 = .ok (.iconst 1, 1) := by decide +kernel
theorem dL_law_378 : decode cL_law 378 = .ok (.iadd, 1) := by decide +kernel
theorem dL_law_379 : decode cL_law 379 = .ok (.iaload, 1) := by decide +kernel
theorem dL_law_380 : decode cL_law 380 = .ok (.aload_n 0, 1) := by decide +kernel
theorem dL_law_381 : decode cL_law 381 = .ok (.iload_n 3, 1) := by decide +kernel
theorem dL_law_382 : decode cL_law 382 = .ok (.iconst 2, 1) := by decide +kernel
theorem dL_law_383 : decode cL_law 383 = .ok (.iadd, 1) := by decide +kernel
theorem dL_law_384 : decode cL_law 384 = .ok (.iaload, 1) := by decide +kernel
theorem dL_law_385 : decode cL_law 385 = .ok (.aload_n 0, 1) := by decide +kernel
theorem dL_law_386 : decode cL_law 386 = .ok (.iload_n 3, 1) := by decide +kernel
theorem dL_law_387 : decode cL_law 387 = .ok (.iconst 3, 1) := by decide +kernel
theorem dL_law_388 : decode cL_law 388 = .ok (.iadd, 1) := by decide +kernel
theorem dL_law_389 : decode cL_law 389 = .ok (.iaload, 1) := by decide +kernel
theorem dL_law_390 : decode cL_law 390 = .ok (.invokevirtual 50, 3) := by decide +kernel
theorem dL_law_393 : decode cL_law 393 = .ok (.aload_n 2, 1) := by decide +kernel
theorem dL_law_394 : decode cL_law 394 = .ok (.aload_n 0, 1) := by decide +kernel
theorem dL_law_395 : decode cL_law 395 = .ok (.iload_n 3, 1) := by decide +kernel
theorem dL_law_396 : decode cL_law 396 = .ok (.iconst 1, 1) := by decide +kernel
theorem dL_law_397 : decode cL_law 397 = .ok (.iadd, 1) := by decide +kernel
theorem dL_law_398 : decode cL_law 398 = .ok (.iaload, 1) := by decide +kernel
theorem dL_law_399 : decode cL_law 399 = .ok (.aload_n 0, 1) := by decide +kernel
theorem dL_law_400 : decode cL_law 400 = .ok (.iload_n 3, 1) := by decide +kernel
theorem dL_law_401 : decode cL_law 401 = .ok (.iconst 2, 1) := by decide +kernel
theorem dL_law_402 : decode cL_law 402 = .ok (.iadd, 1) := by decide +kernel
theorem dL_law_403 : decode cL_law 403 = .ok (.iaload, 1) := by decide +kernel
theorem dL_law_404 : decode cL_law 404 = .ok (.aload_n 0, 1) := by decide +kernel
theorem dL_law_405 : decode cL_law 405 = .ok (.iload_n 3, 1) := by decide +kernel
theorem dL_law_406 : decode cL_law 406 = .ok (.iconst 3, 1) := by decide +kernel
theorem dL_law_407 : decode cL_law 407 = .ok (.iadd, 1) := by decide +kernel
theorem dL_law_408 : decode cL_law 408 = .ok (.iaload, 1) := by decide +kernel
theorem dL_law_409 : decode cL_law 409 = .ok (.invokevirtual 53, 3) := by decide +kernel
theorem dL_law_412 : decode cL_law 412 = .ok (.if_icmp .eq 397, 3) := by decide +kernel
theorem dL_law_415 : decode cL_law 415 = .ok (.iconst 0, 1) := by decide +kernel
theorem dL_law_416 : decode cL_law 416 = .ok (.ireturn, 1) := by decide +kernel
theorem dL_law_417 : decode cL_law 417 = .ok (.aload_n 1, 1) := by decide +kernel
theorem dL_law_418 : decode cL_law 418 = .ok (.aload_n 0, 1) := by decide +kernel
theorem dL_law_419 : decode cL_law 419 = .ok (.iload_n 3, 1) := by decide +kernel
theorem dL_law_420 : decode cL_law 420 = .ok (.iconst 1, 1) := by decide +kernel
theorem dL_law_421 : decode cL_law 421 = .ok (.iadd, 1) := by decide +kernel
theorem dL_law_422 : decode cL_law 422 = .ok (.iaload, 1) := by decide +kernel
theorem dL_law_423 : decode cL_law 423 = .ok (.aload_n 0, 1) := by decide +kernel
theorem dL_law_424 : decode cL_law 424 = .ok (.iload_n 3, 1) := by decide +kernel
theorem dL_law_425 : decode cL_law 425 = .ok (.iconst 2, 1) := by decide +kernel
theorem dL_law_426 : decode cL_law 426 = .ok (.iadd, 1) := by decide +kernel
theorem dL_law_427 : decode cL_law 427 = .ok (.iaload, 1) := by decide +kernel
theorem dL_law_428 : decode cL_law 428 = .ok (.invokevirtual 54, 3) := by decide +kernel
theorem dL_law_431 : decode cL_law 431 = .ok (.aload_n 2, 1) := by decide +kernel
theorem dL_law_432 : decode cL_law 432 = .ok (.aload_n 0, 1) := by decide +kernel
theorem dL_law_433 : decode cL_law 433 = .ok (.iload_n 3, 1) := by decide +kernel
theorem dL_law_434 : decode cL_law 434 = .ok (.iconst 1, 1) := by decide +kernel
theorem dL_law_435 : decode cL_law 435 = .ok (.iadd, 1) := by decide +kernel
theorem dL_law_436 : decode cL_law 436 = .ok (.iaload, 1) := by decide +kernel
theorem dL_law_437 : decode cL_law 437 = .ok (.aload_n 0, 1) := by decide +kernel
theorem dL_law_438 : decode cL_law 438 = .ok (.iload_n 3, 1) := by decide +kernel
theorem dL_law_439 : decode cL_law 439 = .ok (.iconst 2, 1) := by decide +kernel
theorem dL_law_440 : decode cL_law 440 = .ok (.iadd, 1) := by decide +kernel
theorem dL_law_441 : decode cL_law 441 = .ok (.iaload, 1) := by decide +kernel
theorem dL_law_442 : decode cL_law 442 = .ok (.invokevirtual 57, 3) := by decide +kernel
theorem dL_law_445 : decode cL_law 445 = .ok (.if_icmp .eq 364, 3) := by decide +kernel
theorem dL_law_448 : decode cL_law 448 = .ok (.iconst 0, 1) := by decide +kernel
theorem dL_law_449 : decode cL_law 449 = .ok (.ireturn, 1) := by decide +kernel
theorem dL_law_450 : decode cL_law 450 = .ok (.aload_n 1, 1) := by decide +kernel
theorem dL_law_451 : decode cL_law 451 = .ok (.aload_n 0, 1) := by decide +kernel
theorem dL_law_452 : decode cL_law 452 = .ok (.iload_n 3, 1) := by decide +kernel
theorem dL_law_453 : decode cL_law 453 = .ok (.iconst 1, 1) := by decide +kernel
theorem dL_law_454 : decode cL_law 454 = .ok (.iadd, 1) := by decide +kernel
theorem dL_law_455 : decode cL_law 455 = .ok (.iaload, 1) := by decide +kernel
theorem dL_law_456 : decode cL_law 456 = .ok (.invokevirtual 58, 3) := by decide +kernel
theorem dL_law_459 : decode cL_law 459 = .ok (.aload_n 2, 1) := by decide +kernel
theorem dL_law_460 : decode cL_law 460 = .ok (.aload_n 0, 1) := by decide +kernel
theorem dL_law_461 : decode cL_law 461 = .ok (.iload_n 3, 1) := by decide +kernel
theorem dL_law_462 : decode cL_law 462 = .ok (.iconst 1, 1) := by decide +kernel
theorem dL_law_463 : decode cL_law 463 = .ok (.iadd, 1) := by decide +kernel
theorem dL_law_464 : decode cL_law 464 = .ok (.iaload, 1) := by decide +kernel
theorem dL_law_465 : decode cL_law 465 = .ok (.invokevirtual 61, 3) := by decide +kernel
theorem dL_law_468 : decode cL_law 468 = .ok (.if_icmp .eq 341, 3) := by decide +kernel
theorem dL_law_471 : decode cL_law 471 = .ok (.iconst 0, 1) := by decide +kernel
theorem dL_law_472 : decode cL_law 472 = .ok (.ireturn, 1) := by decide +kernel
theorem dL_law_473 : decode cL_law 473 = .ok (.aload_n 1, 1) := by decide +kernel
theorem dL_law_474 : decode cL_law 474 = .ok (.invokevirtual 62, 3) := by decide +kernel
theorem dL_law_477 : decode cL_law 477 = .ok (.aload_n 2, 1) := by decide +kernel
theorem dL_law_478 : decode cL_law 478 = .ok (.invokevirtual 65, 3) := by decide +kernel
theorem dL_law_481 : decode cL_law 481 = .ok (.if_icmp .eq 328, 3) := by decide +kernel
theorem dL_law_484 : decode cL_law 484 = .ok (.iconst 0, 1) := by decide +kernel
theorem dL_law_485 : decode cL_law 485 = .ok (.ireturn, 1) := by decide +kernel
theorem dL_law_486 : decode cL_law 486 = .ok (.aload_n 1, 1) := by decide +kernel
theorem dL_law_487 : decode cL_law 487 = .ok (.aload_n 0, 1) := by decide +kernel
theorem dL_law_488 : decode cL_law 488 = .ok (.iload_n 3, 1) := by decide +kernel
theorem dL_law_489 : decode cL_law 489 = .ok (.iconst 1, 1) := by decide +kernel
theorem dL_law_490 : decode cL_law 490 = .ok (.iadd, 1) := by decide +kernel
theorem dL_law_491 : decode cL_law 491 = .ok (.iaload, 1) := by decide +kernel
theorem dL_law_492 : decode cL_law 492 = .ok (.invokevirtual 66, 3) := by decide +kernel
theorem dL_law_495 : decode cL_law 495 = .ok (.aload_n 2, 1) := by decide +kernel
theorem dL_law_496 : decode cL_law 496 = .ok (.aload_n 0, 1) := by decide +kernel
theorem dL_law_497 : decode cL_law 497 = .ok (.iload_n 3, 1) := by decide +kernel
theorem dL_law_498 : decode cL_law 498 = .ok (.iconst 1, 1) := by decide +kernel
theorem dL_law_499 : decode cL_law 499 = .ok (.iadd, 1) := by decide +kernel
theorem dL_law_500 : decode cL_law 500 = .ok (.iaload, 1) := by decide +kernel
theorem dL_law_501 : decode cL_law 501 = .ok (.invokevirtual 69, 3) := by decide +kernel
theorem dL_law_504 : decode cL_law 504 = .ok (.if_icmp .eq 305, 3) := by decide +kernel
theorem dL_law_507 : decode cL_law 507 = .ok (.iconst 0, 1) := by decide +kernel
theorem dL_law_508 : decode cL_law 508 = .ok (.ireturn, 1) := by decide +kernel
theorem dL_law_509 : decode cL_law 509 = .ok (.aload_n 1, 1) := by decide +kernel
theorem dL_law_510 : decode cL_law 510 = .ok (.aload_n 0, 1) := by decide +kernel
theorem dL_law_511 : decode cL_law 511 = .ok (.iload_n 3, 1) := by decide +kernel
theorem dL_law_512 : decode cL_law 512 = .ok (.iconst 1, 1) := by decide +kernel
theorem dL_law_513 : decode cL_law 513 = .ok (.iadd, 1) := by decide +kernel
theorem dL_law_514 : decode cL_law 514 = .ok (.iaload, 1) := by decide +kernel
theorem dL_law_515 : decode cL_law 515 = .ok (.invokevirtual 70, 3) := by decide +kernel
theorem dL_law_518 : decode cL_law 518 = .ok (.aload_n 2, 1) := by decide +kernel
theorem dL_law_519 : decode cL_law 519 = .ok (.aload_n 0, 1) := by decide +kernel
theorem dL_law_520 : decode cL_law 520 = .ok (.iload_n 3, 1) := by decide +kernel
theorem dL_law_521 : decode cL_law 521 = .ok (.iconst 1, 1) := by decide +kernel
theorem dL_law_522 : decode cL_law 522 = .ok (.iadd, 1) := by decide +kernel
theorem dL_law_523 : decode cL_law 523 = .ok (.iaload, 1) := by decide +kernel
theorem dL_law_524 : decode cL_law 524 = .ok (.invokevirtual 73, 3) := by decide +kernel
theorem dL_law_527 : decode cL_law 527 = .ok (.if_icmp .eq 282, 3) := by decide +kernel
theorem dL_law_530 : decode cL_law 530 = .ok (.iconst 0, 1) := by decide +kernel
theorem dL_law_531 : decode cL_law 531 = .ok (.ireturn, 1) := by decide +kernel
theorem dL_law_532 : decode cL_law 532 = .ok (.aload_n 1, 1) := by decide +kernel
theorem dL_law_533 : decode cL_law 533 = .ok (.aload_n 0, 1) := by decide +kernel
theorem dL_law_534 : decode cL_law 534 = .ok (.iload_n 3, 1) := by decide +kernel
theorem dL_law_535 : decode cL_law 535 = .ok (.iconst 1, 1) := by decide +kernel
theorem dL_law_536 : decode cL_law 536 = .ok (.iadd, 1) := by decide +kernel
theorem dL_law_537 : decode cL_law 537 = .ok (.iaload, 1) := by decide +kernel
theorem dL_law_538 : decode cL_law 538 = .ok (.aload_n 0, 1) := by decide +kernel
theorem dL_law_539 : decode cL_law 539 = .ok (.iload_n 3, 1) := by decide +kernel
theorem dL_law_540 : decode cL_law 540 = .ok (.iconst 2, 1) := by decide +kernel
theorem dL_law_541 : decode cL_law 541 = .ok (.iadd, 1) := by decide +kernel
theorem dL_law_542 : decode cL_law 542 = .ok (.iaload, 1) := by decide +kernel
theorem dL_law_543 : decode cL_law 543 = .ok (.invokevirtual 74, 3) := by decide +kernel
theorem dL_law_546 : decode cL_law 546 = .ok (.aload_n 2, 1) := by decide +kernel
theorem dL_law_547 : decode cL_law 547 = .ok (.aload_n 0, 1) := by decide +kernel
theorem dL_law_548 : decode cL_law 548 = .ok (.iload_n 3, 1) := by decide +kernel
theorem dL_law_549 : decode cL_law 549 = .ok (.iconst 1, 1) := by decide +kernel
theorem dL_law_550 : decode cL_law 550 = .ok (.iadd, 1) := by decide +kernel
theorem dL_law_551 : decode cL_law 551 = .ok (.iaload, 1) := by decide +kernel
theorem dL_law_552 : decode cL_law 552 = .ok (.aload_n 0, 1) := by decide +kernel
theorem dL_law_553 : decode cL_law 553 = .ok (.iload_n 3, 1) := by decide +kernel
theorem dL_law_554 : decode cL_law 554 = .ok (.iconst 2, 1) := by decide +kernel
theorem dL_law_555 : decode cL_law 555 = .ok (.iadd, 1) := by decide +kernel
theorem dL_law_556 : decode cL_law 556 = .ok (.iaload, 1) := by decide +kernel
theorem dL_law_557 : decode cL_law 557 = .ok (.invokevirtual 77, 3) := by decide +kernel
theorem dL_law_560 : decode cL_law 560 = .ok (.if_icmp .eq 249, 3) := by decide +kernel
theorem dL_law_563 : decode cL_law 563 = .ok (.iconst 0, 1) := by decide +kernel
theorem dL_law_564 : decode cL_law 564 = .ok (.ireturn, 1) := by decide +kernel
theorem dL_law_565 : decode cL_law 565 = .ok (.aload_n 1, 1) := by decide +kernel
theorem dL_law_566 : decode cL_law 566 = .ok (.aload_n 0, 1) := by decide +kernel
theorem dL_law_567 : decode cL_law 567 = .ok (.iload_n 3, 1) := by decide +kernel
theorem dL_law_568 : decode cL_law 568 = .ok (.iconst 1, 1) := by decide +kernel
theorem dL_law_569 : decode cL_law 569 = .ok (.iadd, 1) := by decide +kernel
theorem dL_law_570 : decode cL_law 570 = .ok (.iaload, 1) := by decide +kernel
theorem dL_law_571 : decode cL_law 571 = .ok (.aload_n 0, 1) := by decide +kernel
theorem dL_law_572 : decode cL_law 572 = .ok (.iload_n 3, 1) := by decide +kernel
theorem dL_law_573 : decode cL_law 573 = .ok (.iconst 2, 1) := by decide +kernel
theorem dL_law_574 : decode cL_law 574 = .ok (.iadd, 1) := by decide +kernel
theorem dL_law_575 : decode cL_law 575 = .ok (.iaload, 1) := by decide +kernel
theorem dL_law_576 : decode cL_law 576 = .ok (.aload_n 0, 1) := by decide +kernel
theorem dL_law_577 : decode cL_law 577 = .ok (.iload_n 3, 1) := by decide +kernel
theorem dL_law_578 : decode cL_law 578 = .ok (.iconst 3, 1) := by decide +kernel
theorem dL_law_579 : decode cL_law 579 = .ok (.iadd, 1) := by decide +kernel
theorem dL_law_580 : decode cL_law 580 = .ok (.iaload, 1) := by decide +kernel
theorem dL_law_581 : decode cL_law 581 = .ok (.invokevirtual 78, 3) := by decide +kernel
theorem dL_law_584 : decode cL_law 584 = .ok (.aload_n 2, 1) := by decide +kernel
theorem dL_law_585 : decode cL_law 585 = .ok (.aload_n 0, 1) := by decide +kernel
theorem dL_law_586 : decode cL_law 586 = .ok (.iload_n 3, 1) := by decide +kernel
theorem dL_law_587 : decode cL_law 587 = .ok (.iconst 1, 1) := by decide +kernel
theorem dL_law_588 : decode cL_law 588 = .ok (.iadd, 1) := by decide +kernel
theorem dL_law_589 : decode cL_law 589 = .ok (.iaload, 1) := by decide +kernel
theorem dL_law_590 : decode cL_law 590 = .ok (.aload_n 0, 1) := by decide +kernel
theorem dL_law_591 : decode cL_law 591 = .ok (.iload_n 3, 1) := by decide +kernel
theorem dL_law_592 : decode cL_law 592 = .ok (.iconst 2, 1) := by decide +kernel
theorem dL_law_593 : decode cL_law 593 = .ok (.iadd, 1) := by decide +kernel
theorem dL_law_594 : decode cL_law 594 = .ok (.iaload, 1) := by decide +kernel
theorem dL_law_595 : decode cL_law 595 = .ok (.aload_n 0, 1) := by decide +kernel
theorem dL_law_596 : decode cL_law 596 = .ok (.iload_n 3, 1) := by decide +kernel
theorem dL_law_597 : decode cL_law 597 = .ok (.iconst 3, 1) := by decide +kernel
theorem dL_law_598 : decode cL_law 598 = .ok (.iadd, 1) := by decide +kernel
theorem dL_law_599 : decode cL_law 599 = .ok (.iaload, 1) := by decide +kernel
theorem dL_law_600 : decode cL_law 600 = .ok (.invokevirtual 81, 3) := by decide +kernel
theorem dL_law_603 : decode cL_law 603 = .ok (.if_icmp .eq 206, 3) := by decide +kernel
theorem dL_law_606 : decode cL_law 606 = .ok (.iconst 0, 1) := by decide +kernel
theorem dL_law_607 : decode cL_law 607 = .ok (.ireturn, 1) := by decide +kernel
theorem dL_law_608 : decode cL_law 608 = .ok (.aload_n 1, 1) := by decide +kernel
theorem dL_law_609 : decode cL_law 609 = .ok (.aload_n 0, 1) := by decide +kernel
theorem dL_law_610 : decode cL_law 610 = .ok (.iload_n 3, 1) := by decide +kernel
theorem dL_law_611 : decode cL_law 611 = .ok (.iconst 1, 1) := by decide +kernel
theorem dL_law_612 : decode cL_law 612 = .ok (.iadd, 1) := by decide +kernel
theorem dL_law_613 : decode cL_law 613 = .ok (.iaload, 1) := by decide +kernel
theorem dL_law_614 : decode cL_law 614 = .ok (.aload_n 0, 1) := by decide +kernel
theorem dL_law_615 : decode cL_law 615 = .ok (.iload_n 3, 1) := by decide +kernel
theorem dL_law_616 : decode cL_law 616 = .ok (.iconst 2, 1) := by decide +kernel
theorem dL_law_617 : decode cL_law 617 = .ok (.iadd, 1) := by decide +kernel
theorem dL_law_618 : decode cL_law 618 = .ok (.iaload, 1) := by decide +kernel
theorem dL_law_619 : decode cL_law 619 = .ok (.invokevirtual 82, 3) := by decide +kernel
theorem dL_law_622 : decode cL_law 622 = .ok (.aload_n 2, 1) := by decide +kernel
theorem dL_law_623 : decode cL_law 623 = .ok (.aload_n 0, 1) := by decide +kernel
theorem dL_law_624 : decode cL_law 624 = .ok (.iload_n 3, 1) := by decide +kernel
theorem dL_law_625 : decode cL_law 625 = .ok (.iconst 1, 1) := by decide +kernel
theorem dL_law_626 : decode cL_law 626 = .ok (.iadd, 1) := by decide +kernel
theorem dL_law_627 : decode cL_law 627 = .ok (.iaload, 1) := by decide +kernel
theorem dL_law_628 : decode cL_law 628 = .ok (.aload_n 0, 1) := by decide +kernel
theorem dL_law_629 : decode cL_law 629 = .ok (.iload_n 3, 1) := by decide +kernel
theorem dL_law_630 : decode cL_law 630 = .ok (.iconst 2, 1) := by decide +kernel
theorem dL_law_631 : decode cL_law 631 = .ok (.iadd, 1) := by decide +kernel
theorem dL_law_632 : decode cL_law 632 = .ok (.iaload, 1) := by decide +kernel
theorem dL_law_633 : decode cL_law 633 = .ok (.invokevirtual 85, 3) := by decide +kernel
theorem dL_law_636 : decode cL_law 636 = .ok (.if_icmp .eq 173, 3) := by decide +kernel
theorem dL_law_639 : decode cL_law 639 = .ok (.iconst 0, 1) := by decide +kernel
theorem dL_law_640 : decode cL_law 640 = .ok (.ireturn, 1) := by decide +kernel
theorem dL_law_641 : decode cL_law 641 = .ok (.aload_n 1, 1) := by decide +kernel
theorem dL_law_642 : decode cL_law 642 = .ok (.aload_n 0, 1) := by decide +kernel
theorem dL_law_643 : decode cL_law 643 = .ok (.iload_n 3, 1) := by decide +kernel
theorem dL_law_644 : decode cL_law 644 = .ok (.iconst 1, 1) := by decide +kernel
theorem dL_law_645 : decode cL_law 645 = .ok (.iadd, 1) := by decide +kernel
theorem dL_law_646 : decode cL_law 646 = .ok (.iaload, 1) := by decide +kernel
theorem dL_law_647 : decode cL_law 647 = .ok (.aload_n 0, 1) := by decide +kernel
theorem dL_law_648 : decode cL_law 648 = .ok (.iload_n 3, 1) := by decide +kernel
theorem dL_law_649 : decode cL_law 649 = .ok (.iconst 2, 1) := by decide +kernel
theorem dL_law_650 : decode cL_law 650 = .ok (.iadd, 1) := by decide +kernel
theorem dL_law_651 : decode cL_law 651 = .ok (.iaload, 1) := by decide +kernel
theorem dL_law_652 : decode cL_law 652 = .ok (.aload_n 0, 1) := by decide +kernel
theorem dL_law_653 : decode cL_law 653 = .ok (.iload_n 3, 1) := by decide +kernel
theorem dL_law_654 : decode cL_law 654 = .ok (.iconst 3, 1) := by decide +kernel
theorem dL_law_655 : decode cL_law 655 = .ok (.iadd, 1) := by decide +kernel
theorem dL_law_656 : decode cL_law 656 = .ok (.iaload, 1) := by decide +kernel
theorem dL_law_657 : decode cL_law 657 = .ok (.invokevirtual 86, 3) := by decide +kernel
theorem dL_law_660 : decode cL_law 660 = .ok (.aload_n 2, 1) := by decide +kernel
theorem dL_law_661 : decode cL_law 661 = .ok (.aload_n 0, 1) := by decide +kernel
theorem dL_law_662 : decode cL_law 662 = .ok (.iload_n 3, 1) := by decide +kernel
theorem dL_law_663 : decode cL_law 663 = .ok (.iconst 1, 1) := by decide +kernel
theorem dL_law_664 : decode cL_law 664 = .ok (.iadd, 1) := by decide +kernel
theorem dL_law_665 : decode cL_law 665 = .ok (.iaload, 1) := by decide +kernel
theorem dL_law_666 : decode cL_law 666 = .ok (.aload_n 0, 1) := by decide +kernel
theorem dL_law_667 : decode cL_law 667 = .ok (.iload_n 3, 1) := by decide +kernel
theorem dL_law_668 : decode cL_law 668 = .ok (.iconst 2, 1) := by decide +kernel
theorem dL_law_669 : decode cL_law 669 = .ok (.iadd, 1) := by decide +kernel
theorem dL_law_670 : decode cL_law 670 = .ok (.iaload, 1) := by decide +kernel
theorem dL_law_671 : decode cL_law 671 = .ok (.aload_n 0, 1) := by decide +kernel
theorem dL_law_672 : decode cL_law 672 = .ok (.iload_n 3, 1) := by decide +kernel
theorem dL_law_673 : decode cL_law 673 = .ok (.iconst 3, 1) := by decide +kernel
theorem dL_law_674 : decode cL_law 674 = .ok (.iadd, 1) := by decide +kernel
theorem dL_law_675 : decode cL_law 675 = .ok (.iaload, 1) := by decide +kernel
theorem dL_law_676 : decode cL_law 676 = .ok (.invokevirtual 89, 3) := by decide +kernel
theorem dL_law_679 : decode cL_law 679 = .ok (.if_icmp .eq 130, 3) := by decide +kernel
theorem dL_law_682 : decode cL_law 682 = .ok (.iconst 0, 1) := by decide +kernel
theorem dL_law_683 : decode cL_law 683 = .ok (.ireturn, 1) := by decide +kernel
theorem dL_law_684 : decode cL_law 684 = .ok (.aload_n 1, 1) := by decide +kernel
theorem dL_law_685 : decode cL_law 685 = .ok (.aload_n 0, 1) := by decide +kernel
theorem dL_law_686 : decode cL_law 686 = .ok (.iload_n 3, 1) := by decide +kernel
theorem dL_law_687 : decode cL_law 687 = .ok (.iconst 1, 1) := by decide +kernel
theorem dL_law_688 : decode cL_law 688 = .ok (.iadd, 1) := by decide +kernel
theorem dL_law_689 : decode cL_law 689 = .ok (.iaload, 1) := by decide +kernel
theorem dL_law_690 : decode cL_law 690 = .ok (.aload_n 0, 1) := by decide +kernel
theorem dL_law_691 : decode cL_law 691 = .ok (.iload_n 3, 1) := by decide +kernel
theorem dL_law_692 : decode cL_law 692 = .ok (.iconst 2, 1) := by decide +kernel
theorem dL_law_693 : decode cL_law 693 = .ok (.iadd, 1) := by decide +kernel
theorem dL_law_694 : decode cL_law 694 = .ok (.iaload, 1) := by decide +kernel
theorem dL_law_695 : decode cL_law 695 = .ok (.invokevirtual 90, 3) := by decide +kernel
theorem dL_law_698 : decode cL_law 698 = .ok (.aload_n 2, 1) := by decide +kernel
theorem dL_law_699 : decode cL_law 699 = .ok (.aload_n 0, 1) := by decide +kernel
theorem dL_law_700 : decode cL_law 700 = .ok (.iload_n 3, 1) := by decide +kernel
theorem dL_law_701 : decode cL_law 701 = .ok (.iconst 1, 1) := by decide +kernel
theorem dL_law_702 : decode cL_law 702 = .ok (.iadd, 1) := by decide +kernel
theorem dL_law_703 : decode cL_law 703 = .ok (.iaload, 1) := by decide +kernel
theorem dL_law_704 : decode cL_law 704 = .ok (.aload_n 0, 1) := by decide +kernel
theorem dL_law_705 : decode cL_law 705 = .ok (.iload_n 3, 1) := by decide +kernel
theorem dL_law_706 : decode cL_law 706 = .ok (.iconst 2, 1) := by decide +kernel
theorem dL_law_707 : decode cL_law 707 = .ok (.iadd, 1) := by decide +kernel
theorem dL_law_708 : decode cL_law 708 = .ok (.iaload, 1) := by decide +kernel
theorem dL_law_709 : decode cL_law 709 = .ok (.invokevirtual 93, 3) := by decide +kernel
theorem dL_law_712 : decode cL_law 712 = .ok (.if_icmp .eq 97, 3) := by decide +kernel
theorem dL_law_715 : decode cL_law 715 = .ok (.iconst 0, 1) := by decide +kernel
theorem dL_law_716 : decode cL_law 716 = .ok (.ireturn, 1) := by decide +kernel
theorem dL_law_717 : decode cL_law 717 = .ok (.aload_n 1, 1) := by decide +kernel
theorem dL_law_718 : decode cL_law 718 = .ok (.invokevirtual 94, 3) := by decide +kernel
theorem dL_law_721 : decode cL_law 721 = .ok (.aload_n 2, 1) := by decide +kernel
theorem dL_law_722 : decode cL_law 722 = .ok (.invokevirtual 97, 3) := by decide +kernel
theorem dL_law_725 : decode cL_law 725 = .ok (.if_icmp .eq 84, 3) := by decide +kernel
theorem dL_law_728 : decode cL_law 728 = .ok (.iconst 0, 1) := by decide +kernel
theorem dL_law_729 : decode cL_law 729 = .ok (.ireturn, 1) := by decide +kernel
theorem dL_law_730 : decode cL_law 730 = .ok (.aload_n 1, 1) := by decide +kernel
theorem dL_law_731 : decode cL_law 731 = .ok (.aload_n 0, 1) := by decide +kernel
theorem dL_law_732 : decode cL_law 732 = .ok (.iload_n 3, 1) := by decide +kernel
theorem dL_law_733 : decode cL_law 733 = .ok (.iconst 1, 1) := by decide +kernel
theorem dL_law_734 : decode cL_law 734 = .ok (.iadd, 1) := by decide +kernel
theorem dL_law_735 : decode cL_law 735 = .ok (.iaload, 1) := by decide +kernel
theorem dL_law_736 : decode cL_law 736 = .ok (.invokevirtual 98, 3) := by decide +kernel
theorem dL_law_739 : decode cL_law 739 = .ok (.aload_n 2, 1) := by decide +kernel
theorem dL_law_740 : decode cL_law 740 = .ok (.aload_n 0, 1) := by decide +kernel
theorem dL_law_741 : decode cL_law 741 = .ok (.iload_n 3, 1) := by decide +kernel
theorem dL_law_742 : decode cL_law 742 = .ok (.iconst 1, 1) := by decide +kernel
theorem dL_law_743 : decode cL_law 743 = .ok (.iadd, 1) := by decide +kernel
theorem dL_law_744 : decode cL_law 744 = .ok (.iaload, 1) := by decide +kernel
theorem dL_law_745 : decode cL_law 745 = .ok (.invokevirtual 101, 3) := by decide +kernel
theorem dL_law_748 : decode cL_law 748 = .ok (.if_icmp .eq 61, 3) := by decide +kernel
theorem dL_law_751 : decode cL_law 751 = .ok (.iconst 0, 1) := by decide +kernel
theorem dL_law_752 : decode cL_law 752 = .ok (.ireturn, 1) := by decide +kernel
theorem dL_law_753 : decode cL_law 753 = .ok (.aload_n 1, 1) := by decide +kernel
theorem dL_law_754 : decode cL_law 754 = .ok (.aload_n 0, 1) := by decide +kernel
theorem dL_law_755 : decode cL_law 755 = .ok (.iload_n 3, 1) := by decide +kernel
theorem dL_law_756 : decode cL_law 756 = .ok (.iconst 1, 1) := by decide +kernel
theorem dL_law_757 : decode cL_law 757 = .ok (.iadd, 1) := by decide +kernel
theorem dL_law_758 : decode cL_law 758 = .ok (.iaload, 1) := by decide +kernel
theorem dL_law_759 : decode cL_law 759 = .ok (.invokevirtual 102, 3) := by decide +kernel
theorem dL_law_762 : decode cL_law 762 = .ok (.aload_n 2, 1) := by decide +kernel
theorem dL_law_763 : decode cL_law 763 = .ok (.aload_n 0, 1) := by decide +kernel
theorem dL_law_764 : decode cL_law 764 = .ok (.iload_n 3, 1) := by decide +kernel
theorem dL_law_765 : decode cL_law 765 = .ok (.iconst 1, 1) := by decide +kernel
theorem dL_law_766 : decode cL_law 766 = .ok (.iadd, 1) := by decide +kernel
theorem dL_law_767 : decode cL_law 767 = .ok (.iaload, 1) := by decide +kernel
theorem dL_law_768 : decode cL_law 768 = .ok (.invokevirtual 105, 3) := by decide +kernel
theorem dL_law_771 : decode cL_law 771 = .ok (.if_icmp .eq 38, 3) := by decide +kernel
theorem dL_law_774 : decode cL_law 774 = .ok (.iconst 0, 1) := by decide +kernel
theorem dL_law_775 : decode cL_law 775 = .ok (.ireturn, 1) := by decide +kernel
theorem dL_law_776 : decode cL_law 776 = .ok (.aload_n 1, 1) := by decide +kernel
theorem dL_law_777 : decode cL_law 777 = .ok (.aload_n 0, 1) := by decide +kernel
theorem dL_law_778 : decode cL_law 778 = .ok (.iload_n 3, 1) := by decide +kernel
theorem dL_law_779 : decode cL_law 779 = .ok (.iconst 1, 1) := by decide +kernel
theorem dL_law_780 : decode cL_law 780 = .ok (.iadd, 1) := by decide +kernel
theorem dL_law_781 : decode cL_law 781 = .ok (.iaload, 1) := by decide +kernel
theorem dL_law_782 : decode cL_law 782 = .ok (.aload_n 0, 1) := by decide +kernel
theorem dL_law_783 : decode cL_law 783 = .ok (.iload_n 3, 1) := by decide +kernel
theorem dL_law_784 : decode cL_law 784 = .ok (.iconst 2, 1) := by decide +kernel
theorem dL_law_785 : decode cL_law 785 = .ok (.iadd, 1) := by decide +kernel
theorem dL_law_786 : decode cL_law 786 = .ok (.iaload, 1) := by decide +kernel
theorem dL_law_787 : decode cL_law 787 = .ok (.invokevirtual 106, 3) := by decide +kernel
theorem dL_law_790 : decode cL_law 790 = .ok (.aload_n 2, 1) := by decide +kernel
theorem dL_law_791 : decode cL_law 791 = .ok (.aload_n 0, 1) := by decide +kernel
theorem dL_law_792 : decode cL_law 792 = .ok (.iload_n 3, 1) := by decide +kernel
theorem dL_law_793 : decode cL_law 793 = .ok (.iconst 1, 1) := by decide +kernel
theorem dL_law_794 : decode cL_law 794 = .ok (.iadd, 1) := by decide +kernel
theorem dL_law_795 : decode cL_law 795 = .ok (.iaload, 1) := by decide +kernel
theorem dL_law_796 : decode cL_law 796 = .ok (.aload_n 0, 1) := by decide +kernel
theorem dL_law_797 : decode cL_law 797 = .ok (.iload_n 3, 1) := by decide +kernel
theorem dL_law_798 : decode cL_law 798 = .ok (.iconst 2, 1) := by decide +kernel
theorem dL_law_799 : decode cL_law 799 = .ok (.iadd, 1) := by decide +kernel
theorem dL_law_800 : decode cL_law 800 = .ok (.iaload, 1) := by decide +kernel
theorem dL_law_801 : decode cL_law 801 = .ok (.invokevirtual 109, 3) := by decide +kernel
theorem dL_law_804 : decode cL_law 804 = .ok (.if_icmp .eq 5, 3) := by decide +kernel
theorem dL_law_807 : decode cL_law 807 = .ok (.iconst 0, 1) := by decide +kernel
theorem dL_law_808 : decode cL_law 808 = .ok (.ireturn, 1) := by decide +kernel
theorem dL_law_809 : decode cL_law 809 = .ok (.iinc 3 5, 3) := by decide +kernel
theorem dL_law_812 : decode cL_law 812 = .ok (.goto (-794), 3) := by decide +kernel
theorem dL_law_815 : decode cL_law 815 = .ok (.iconst 1, 1) := by decide +kernel
theorem dL_law_816 : decode cL_law 816 = .ok (.ireturn, 1) := by decide +kernel
abbrev vwCl : List vw_C := [(RX0, TX0, 5), (RX1, TX1, 6), (RX2, TX2, 11), (RX3, TX3, 11), (RX4, TX4, 9), (RX5, TX5, 16)]
end
section
/-! The state of the two classes in our own words: the global context, the worlds, the pre- and postconditions. -/
abbrev GG : Type := va_G × (Nat → ClassId)
abbrev tyG (g : GG) : List (ClassId × FieldType) := [(g.2 0, .int), (g.2 1, .long), (g.2 2, .char), (g.2 3, .object RX0), (g.2 4, .object RX2)]
/-- the links to a nest mate's own members, carried from call to call -/
def NW (U : State) : Prop := va_Nw (.methodLinkNest RX0 55 yX4_notDark RX4) U ∧ va_Nw (.methodLinkNest RX1 52 yX4_withColor RX4) U ∧ va_Nw (.methodLinkNest RX2 63 yX4_within RX4) U ∧ va_Nw (.methodLinkNest RX3 44 yX4_notDark RX4) U ∧ va_Nw (.methodLinkNest RX2 52 yX0_init RX4) U ∧ va_Nw (.methodLinkNest RX4 36 yX1_init RX4) U ∧ va_Nw (.methodLinkNest RX4 43 yX3_init RX4) U ∧ va_AO RX0 U ∧ va_AO RX2 U
theorem NW.moved {s U : State} (hW : s.WarmedH U.vm) (h : NW s) : NW U := ⟨va_Nw.warmM hW h.1, va_Nw.warmM hW h.2.1, va_Nw.warmM hW h.2.2.1, va_Nw.warmM hW h.2.2.2.1, va_Nw.warmM hW h.2.2.2.2.1, va_Nw.warmM hW h.2.2.2.2.2.1, va_Nw.warmM hW h.2.2.2.2.2.2.1, va_AO.moved hW.alike h.2.2.2.2.2.2.2.1, va_AO.moved hW.alike h.2.2.2.2.2.2.2.2⟩
theorem NW.same {u U : State} (e : u.vm = U.vm) (h : NW u) : NW U := ⟨va_Nw.same rfl e h.1, va_Nw.same rfl e h.2.1, va_Nw.same rfl e h.2.2.1, va_Nw.same rfl e h.2.2.2.1, va_Nw.same rfl e h.2.2.2.2.1, va_Nw.same rfl e h.2.2.2.2.2.1, va_Nw.same rfl e h.2.2.2.2.2.2.1, va_AO.moved (by rw [e]; exact Vm.Alike.refl _) h.2.2.2.2.2.2.2.1, va_AO.moved (by rw [e]; exact Vm.Alike.refl _) h.2.2.2.2.2.2.2.2⟩
/-- for the constructors: the array classes are not yet known -/
def K0 (g : GG) (U : State) : Prop := va_K g.1 vwCl [] U ∧ NW U
def KK (g : GG) (U : State) : Prop := va_K g.1 vwCl (tyG g) U ∧ NW U
theorem KK.moved {g : GG} {s U : State} (h : KK g s) (hW : s.WarmedH U.vm) : KK g U := ⟨va_K.moved hW.alike h.1, h.2.moved hW⟩
theorem KK.calling {g : GG} {U : State} {f : JFrame} {mk : MethodId} {a : Array Value} (h : KK g U) : KK g (U.calling f mk a) := ⟨va_K.moved (u := U) (U := U.calling f mk a) (Vm.Alike.refl U.vm) h.1, NW.same (u := U) (U := U.calling f mk a) rfl h.2⟩
/-- before a method that only reads -/
def PreR (g : GG) (av : List Value) (ws : va_W) : Array Value → State → Prop := va_Pc av (fun U => va_P g.1 vwCl ws U.heap ∧ KK g U)
/-- before a method that writes -/
def PreM (g : GG) (av : List Value) (ws : va_W) (sz : Nat) : Array Value → State → Prop := va_Pc av (fun U => U.heap.size = sz ∧ va_P g.1 vwCl ws U.heap ∧ KK g U ∧ va_D (fun _ => True) ws)
theorem PreR_blind {g : GG} {av : List Value} {ws : va_W} : FrameBlind (PreR g av ws) := fun _ _ _ _ h => ⟨h.1, h.2.1, h.2.2.calling⟩
theorem PreM_blind {g : GG} {av : List Value} {ws : va_W} {sz : Nat} : FrameBlind (PreM g av ws sz) := fun _ _ _ _ h => ⟨h.1, h.2.1, h.2.2.1, h.2.2.2.1.calling, h.2.2.2.2⟩
/-- behind a method that writes: its world -/
def PostB (g : GG) (A : Nat → Prop) (wf : va_W) (t : State) : Prop := va_P g.1 vwCl wf t.heap ∧ va_D A wf
theorem preV_R {s : State} {H : Heap} {g : GG} {wc : va_W} {b ci q0 : Nat} {r : vw_C} {fs As : List Value} (hK : KK g s) (hP : va_P g.1 vwCl wc H) (hc : vwCl[ci]? = some r) (he : wc[q0]? = some (b, .inr (ci, fs))) : PreV s H r.1 b (PreR g (.ref b :: As) wc) As :=
  ⟨PreR_blind, va_recv hK.1 hP hc he, fun U hU hW => ⟨rfl, by rw [hU]; exact hP, hK.moved hW⟩⟩
theorem preS_R {s : State} {H : Heap} {g : GG} {wc : va_W} {As : List Value} (hK : KK g s) (hP : va_P g.1 vwCl wc H) : PreS s H (PreR g As wc) As :=
  ⟨PreR_blind, fun U hU hW => ⟨rfl, by rw [hU]; exact hP, hK.moved hW⟩⟩
theorem preV_M {s : State} {H : Heap} {g : GG} {A : Nat → Prop} {wc : va_W} {b ci q0 : Nat} {r : vw_C} {fs As : List Value} (hK : KK g s) (hP : va_P g.1 vwCl wc H) (hD : va_D A wc) (hc : vwCl[ci]? = some r) (he : wc[q0]? = some (b, .inr (ci, fs))) : PreV s H r.1 b (PreM g (.ref b :: As) wc H.size) As :=
  ⟨PreM_blind, va_recv hK.1 hP hc he, fun U hU hW => ⟨rfl, by rw [hU], by rw [hU]; exact hP, hK.moved hW, hD.weaken (fun _ _ _ _ => trivial)⟩⟩
theorem va_P_nil {D : va_G} {cl : List vw_C} {H : Heap} : va_P D cl [] H := fun k q h => by simp at h
/-- behind a call whose world is all of the caller's -/
theorem jn0 {g : GG} {A0 : Nat → Prop} {wc wf : va_W} {H H1 : Heap} {t : State} (hB : PostB g (va_A wc H.size) wf t) (ht : t.heap = H1) (hF : ∀ q, va_A wc H.size q → A0 q) : va_P g.1 vwCl wf H1 ∧ va_D A0 wf :=
  ⟨by rw [← ht]; exact hB.1, hB.2.weaken (fun _ q _ h => hF q.1 h)⟩
/-- behind a call whose world is a part of the caller's -/
theorem jn1 {g : GG} {A0 : Nat → Prop} {ws wc wr wf pl : va_W} {H H1 : Heap} {t : State} (hP : va_P g.1 vwCl (ws ++ pl) H) (hD : va_D A0 (ws ++ pl)) (isC isR : List Nat) (hC : isC.map (fun i => ws[i]?) = wc.map some) (hR : isR.map (fun i => ws[i]?) = wr.map some) (hn : va_nd isR = true) (hdis : ∀ i ∈ isR, i ∉ isC)
    (hk : ∀ q : Nat, q < H.size → ¬ va_A wc H.size q → H1[q]? = H[q]?) (hF : ∀ q, va_A wc H.size q → A0 q) (hB : PostB g (va_A wc H.size) wf t) (ht : t.heap = H1) : va_P g.1 vwCl ((wr ++ wf) ++ pl) H1 ∧ va_D A0 ((wr ++ wf) ++ pl) :=
  va_joinQ hP hD isC isR hC hR hn hdis hk hF (by rw [← ht]; exact hB.1) hB.2
theorem clamp_lt {i : Int32} {n : Nat} (h : vp_in i n) : i.toNatClampNeg < n := Nat.not_le.mp fun q => h (Or.inr q)
theorem pk4 {j : Nat} (h : j < 4) : j = 0 ∨ j = 1 ∨ j = 2 ∨ j = 3 := by omega
theorem pk5 {j : Nat} (h : j < 5) : j = 0 ∨ j = 1 ∨ j = 2 ∨ j = 3 ∨ j = 4 := by omega
theorem sw_of {x : Int32} {n : Nat} (h : ¬ (x.toInt < 0 ∨ (n : Int) < x.toInt)) (hn : n < 2 ^ 31) : ∃ j : Nat, j ≤ n ∧ x = nI j := by
  refine ⟨x.toInt.toNat, by omega, ?_⟩
  apply Int32.toInt_inj.mp
  rw [nI_toInt (by omega)]
  omega
section XR
variable {p : Program} {l : Launch} {e : Env} {R : Room} {s : State} {m : MethodId} {args : Array Value} {below : List Frame} {meth : Method} {c : Code} {H : Heap} {locs : List Loc} {cells slots : Nat} {Q : State → Prop}
variable {cc : ByteArray} {pc : Nat} {ls : Array Slot} {rest : List Value} {D : va_G} {cl : List vw_C} {A : Nat → Prop} {a : Nat} {tys : List (ClassId × FieldType)} {ws : va_W} {H0 : Heap}
theorem xr_iald (hexec : p.tables.exec = Jvm.exec) (hb : c.code = cc) (hK : va_K D cl tys s) (hP : va_P D cl ws H) (q0 t0 : Nat) {cA : ClassId} {n : Nat} {f : Nat → Int32} (ha : ws[q0]? = some (a, .inl (cA, n, .inl f))) (ht : tys[t0]? = some (cA, .int)) {i : Int32} (j : Nat) (hi : i = nI j) (hj : j < n) (hn : n < 2 ^ 31) (hdg : decode cc pc = .ok (.iaload, 1))
    (kk : W p l e R s m args below meth c H locs cells slots Q (F0 m (pc + 1) ls (.int (f j) :: rest))) : W p l e R s m args below meth c H locs cells slots Q (F0 m pc ls (.int i :: .ref a :: rest)) := by
  subst hi
  refine va_iald hexec hb hK hP q0 t0 ha ht (vp_in_nI hj hn) hdg ?_
  rw [nI_clamp (by omega)]
  exact kk
theorem xr_lald (hexec : p.tables.exec = Jvm.exec) (hb : c.code = cc) (hK : va_K D cl tys s) (hP : va_P D cl ws H) (q0 t0 : Nat) {cA : ClassId} {n : Nat} {f : Nat → Int64} (ha : ws[q0]? = some (a, .inl (cA, n, .inr (.inl f)))) (ht : tys[t0]? = some (cA, .long)) {i : Int32} (j : Nat) (hi : i = nI j) (hj : j < n) (hn : n < 2 ^ 31) (hdg : decode cc pc = .ok (.laload, 1))
    (kk : W p l e R s m args below meth c H locs cells slots Q (F0 m (pc + 1) ls (.long (f j) :: rest))) : W p l e R s m args below meth c H locs cells slots Q (F0 m pc ls (.int i :: .ref a :: rest)) := by
  subst hi
  refine va_lald hexec hb hK hP q0 t0 ha ht (vp_in_nI hj hn) hdg ?_
  rw [nI_clamp (by omega)]
  exact kk
theorem xr_aald (hexec : p.tables.exec = Jvm.exec) (hb : c.code = cc) (hK : va_K D cl tys s) (hP : va_P D cl ws H) (q0 t0 : Nat) {cA : ClassId} {C : String} {n : Nat} {f : Nat → Option Nat} (ha : ws[q0]? = some (a, .inl (cA, n, .inr (.inr (.inr (.inr f)))))) (ht : tys[t0]? = some (cA, .object C)) (ad : Nat → Nat) (had : ∀ j, va_rf (f j) = .ref (ad j)) {i : Int32} (hin : vp_in i n) (hdg : decode cc pc = .ok (.aaload, 1))
    (kk : ∀ j : Nat, j < n → i.toNatClampNeg = j → W p l e R s m args below meth c H locs cells slots Q (F0 m (pc + 1) ls (.ref (ad j) :: rest))) : W p l e R s m args below meth c H locs cells slots Q (F0 m pc ls (.int i :: .ref a :: rest)) := by
  refine va_aldq hexec hb hK hP q0 t0 ha ht hin hdg ?_
  rw [had]
  exact kk _ (clamp_lt hin) rfl
theorem xs_iast (hexec : p.tables.exec = Jvm.exec) (hb : c.code = cc) (hK : va_K D cl tys s) (hP : va_P D cl ws H) (hD : va_D A ws) (hS : va_S A H0 H locs) (q0 t0 : Nat) {cA : ClassId} {n : Nat} {f : Nat → Int32} (ha : ws[q0]? = some (a, .inl (cA, n, .inl f))) (ht : tys[t0]? = some (cA, .int)) {i : Int32} {x : Int32} (hin : vp_in i n) (hdg : decode cc pc = .ok (.iastore, 1))
    (kk : ∀ (f1 : Nat → Int32), f1 = upd f i.toNatClampNeg x → ∀ (H1 : Heap) (locs1 : List Loc), va_P D cl (ws.set q0 (a, .inl (cA, n, .inl f1))) H1 → va_D A (ws.set q0 (a, .inl (cA, n, .inl f1))) → va_S A H0 H1 locs1 → W p l e R s m args below meth c H1 locs1 cells slots Q (F0 m (pc + 1) ls rest)) : W p l e R s m args below meth c H locs cells slots Q (F0 m pc ls (.int x :: .int i :: .ref a :: rest)) :=
  va_iast hexec hb hK hP hD hS q0 t0 ha ht hin hdg (fun H1 locs1 h1 h2 h3 => kk _ rfl H1 locs1 h1 h2 h3)
theorem xr_iast (hexec : p.tables.exec = Jvm.exec) (hb : c.code = cc) (hK : va_K D cl tys s) (hP : va_P D cl ws H) (hD : va_D A ws) (hS : va_S A H0 H locs) (q0 t0 : Nat) {cA : ClassId} {n : Nat} {f : Nat → Int32} (ha : ws[q0]? = some (a, .inl (cA, n, .inl f))) (ht : tys[t0]? = some (cA, .int)) {i : Int32} {x : Int32} (j : Nat) (hi : i = nI j) (hj : j < n) (hn : n < 2 ^ 31) (hdg : decode cc pc = .ok (.iastore, 1))
    (kk : ∀ (f1 : Nat → Int32), f1 = upd f j x → ∀ (H1 : Heap) (locs1 : List Loc), va_P D cl (ws.set q0 (a, .inl (cA, n, .inl f1))) H1 → va_D A (ws.set q0 (a, .inl (cA, n, .inl f1))) → va_S A H0 H1 locs1 → W p l e R s m args below meth c H1 locs1 cells slots Q (F0 m (pc + 1) ls rest)) : W p l e R s m args below meth c H locs cells slots Q (F0 m pc ls (.int x :: .int i :: .ref a :: rest)) := by
  subst hi
  exact va_iast hexec hb hK hP hD hS q0 t0 ha ht (vp_in_nI hj hn) hdg (fun H1 locs1 h1 h2 h3 => kk _ (by rw [nI_clamp (by omega)]) H1 locs1 h1 h2 h3)
theorem xs_last (hexec : p.tables.exec = Jvm.exec) (hb : c.code = cc) (hK : va_K D cl tys s) (hP : va_P D cl ws H) (hD : va_D A ws) (hS : va_S A H0 H locs) (q0 t0 : Nat) {cA : ClassId} {n : Nat} {f : Nat → Int64} (ha : ws[q0]? = some (a, .inl (cA, n, .inr (.inl f)))) (ht : tys[t0]? = some (cA, .long)) {i : Int32} {x : Int64} (hin : vp_in i n) (hdg : decode cc pc = .ok (.lastore, 1))
    (kk : ∀ (f1 : Nat → Int64), f1 = vp_updL f i.toNatClampNeg x → ∀ (H1 : Heap) (locs1 : List Loc), va_P D cl (ws.set q0 (a, .inl (cA, n, .inr (.inl f1)))) H1 → va_D A (ws.set q0 (a, .inl (cA, n, .inr (.inl f1)))) → va_S A H0 H1 locs1 → W p l e R s m args below meth c H1 locs1 cells slots Q (F0 m (pc + 1) ls rest)) : W p l e R s m args below meth c H locs cells slots Q (F0 m pc ls (.long x :: .int i :: .ref a :: rest)) :=
  va_last hexec hb hK hP hD hS q0 t0 ha ht hin hdg (fun H1 locs1 h1 h2 h3 => kk _ rfl H1 locs1 h1 h2 h3)
theorem xs_cast (hexec : p.tables.exec = Jvm.exec) (hb : c.code = cc) (hK : va_K D cl tys s) (hP : va_P D cl ws H) (hD : va_D A ws) (hS : va_S A H0 H locs) (q0 t0 : Nat) {cA : ClassId} {n : Nat} {f : Nat → Int32} (ha : ws[q0]? = some (a, .inl (cA, n, .inl f))) (ht : tys[t0]? = some (cA, .char)) {i : Int32} {x : Int32} (hin : vp_in i n) (hdg : decode cc pc = .ok (.castore, 1))
    (kk : ∀ (f1 : Nat → Int32), f1 = upd f i.toNatClampNeg (vp_nar .char x) → ∀ (H1 : Heap) (locs1 : List Loc), va_P D cl (ws.set q0 (a, .inl (cA, n, .inl f1))) H1 → va_D A (ws.set q0 (a, .inl (cA, n, .inl f1))) → va_S A H0 H1 locs1 → W p l e R s m args below meth c H1 locs1 cells slots Q (F0 m (pc + 1) ls rest)) : W p l e R s m args below meth c H locs cells slots Q (F0 m pc ls (.int x :: .int i :: .ref a :: rest)) :=
  va_cast hexec hb hK hP hD hS q0 t0 ha ht hin hdg (fun H1 locs1 h1 h2 h3 => kk _ rfl H1 locs1 h1 h2 h3)
end XR
theorem va_freeA {A0 : Nat → Prop} {ws : va_W} {H0 H : Heap} {locs : List Loc} (hD : va_D A0 ws) (hS : va_S A0 H0 H locs) (hA : ∀ q, H0.size ≤ q → A0 q) : ∀ q, va_A ws H.size q → A0 q := by
  intro q h
  rcases h with ⟨k, e, h⟩ | h
  · exact hD.2 k (q, e) h
  · exact hA q (Nat.le_trans hS.1 h)
/-- behind a call: the callee's cells and the rest, in the caller's order again -/
theorem jn3 {g : GG} {A0 : Nat → Prop} {ws wc wf wz pl : va_W} {H H1 : Heap} {t : State} (hP : va_P g.1 vwCl (ws ++ pl) H) (hD : va_D A0 (ws ++ pl)) (isC isR perm : List Nat) (hC : isC.map (fun i => ws[i]?) = wc.map some) (hR : isR.map (fun i => ws[i]?) = (isR.filterMap (fun i => ws[i]?)).map some) (hn : va_nd isR = true) (hdis : ∀ i ∈ isR, i ∉ isC) (hnp : va_nd perm = true) (hz : perm.map (fun i => (isR.filterMap (fun i => ws[i]?) ++ wf)[i]?) = wz.map some)
    (hk : ∀ q : Nat, q < H.size → ¬ va_A wc H.size q → H1[q]? = H[q]?) (hF : ∀ q, va_A wc H.size q → A0 q) (hB : PostB g (va_A wc H.size) wf t) (ht : t.heap = H1) : va_P g.1 vwCl (wz ++ pl) H1 ∧ va_D A0 (wz ++ pl) := by
  obtain ⟨h1, h2⟩ := jn1 hP hD isC isR hC hR hn hdis hk hF hB ht
  exact ⟨fun k q hq => h1 _ q (va_part perm hz k q hq), h2.part perm hnp hz⟩
section XC
variable {p : Program} {l : Launch} {e : Env} {R : Room} {s : State} {m : MethodId} {args : Array Value} {below : List Frame} {meth : Method} {c : Code} {H : Heap} {locs : List Loc} {cells slots : Nat} {Q : State → Prop}
variable {pc : Nat} {ls : Array Slot} {rest : List Value} {D : va_G} {cl : List vw_C} {A : Nat → Prop} {a : Nat} {tys : List (ClassId × FieldType)} {ws : va_W} {H0 : Heap}
theorem xs_copyi {cc : ByteArray} (hexec : p.tables.exec = Jvm.exec) (hb : c.code = cc) (hml : c.maxLocals = ls.size) {own : String} {index : Nat} (hown : s.vm.findClass own = some m.cls) (hlink : (Cond.methodLink own index arraycopyName).before args s = true) (hnat : (Cond.native arraycopyName).before args s = true) (hstat : (Cond.static arraycopyName).before args s = true) (hini : (Cond.initialized "java/lang/System").before args s = true)
    (hK : va_K D cl tys s) (hP : va_P D cl ws H) (hD : va_D A ws) (hS : va_S A H0 H locs) (q0 q1 t0 t1 : Nat) {a0 : Nat} {c0 c1 : ClassId} {n0 n1 : Nat} {f g : Nat → Int32} (ha0 : ws[q0]? = some (a0, .inl (c0, n0, .inl f))) (ha1 : ws[q1]? = some (a, .inl (c1, n1, .inl g))) (ht0 : tys[t0]? = some (c0, .int)) (ht1 : tys[t1]? = some (c1, .int))
    (nn : Nat) {n : Int32} (hi : n = nI nn) (hn : nn < 2 ^ 31) (h4 : nn ≤ n0) (h5 : nn ≤ n1)
    (hframes : 1 ≤ R.frames) (hlocals : (rest.map fun v => v.category).sum + (nativeFrameWords "java/lang/System" "arraycopy" 5 + 11) ≤ R.locals) (hdg : decode cc pc = .ok (.invokestatic index, 3))
    (kk : ∀ f1 : Nat → Int32, f1 = va_cpy f g 0 0 nn → ∀ (H1 : Heap) (locs1 : List Loc), va_P D cl (ws.set q1 (a, .inl (c1, n1, .inl f1))) H1 → va_D A (ws.set q1 (a, .inl (c1, n1, .inl f1))) → va_S A H0 H1 locs1 → W p l e R s m args below meth c H1 locs1 cells slots Q (F0 m (pc + 3) ls rest)) : W p l e R s m args below meth c H locs cells slots Q (F0 m pc ls (.int n :: .int (0 : Int32) :: .ref a :: .int (0 : Int32) :: .ref a0 :: rest)) := by
  subst hi
  have e0 : (0 : Int32).toNatClampNeg = 0 := by decide
  have e1 : (nI nn).toNatClampNeg = nn := nI_clamp hn
  refine va_copyi hexec hb hml hown hlink hnat hstat hini hK hP hD hS q0 q1 t0 t1 ha0 ha1 ht0 ht1 rfl (by decide) (by decide) (nI_pos hn) (by rw [e0, e1]; omega) (by rw [e0, e1]; omega) (fun _ _ => rfl) hframes hlocals hdg (fun H1 locs1 h1 h2 h3 => ?_)
  rw [e0, e1] at h1 h2
  exact kk _ rfl H1 locs1 h1 h2 h3
theorem xs_copyl {cc : ByteArray} (hexec : p.tables.exec = Jvm.exec) (hb : c.code = cc) (hml : c.maxLocals = ls.size) {own : String} {index : Nat} (hown : s.vm.findClass own = some m.cls) (hlink : (Cond.methodLink own index arraycopyName).before args s = true) (hnat : (Cond.native arraycopyName).before args s = true) (hstat : (Cond.static arraycopyName).before args s = true) (hini : (Cond.initialized "java/lang/System").before args s = true)
    (hK : va_K D cl tys s) (hP : va_P D cl ws H) (hD : va_D A ws) (hS : va_S A H0 H locs) (q0 q1 t0 t1 : Nat) {a0 : Nat} {c0 c1 : ClassId} {n0 n1 : Nat} {f g : Nat → Int64} (ha0 : ws[q0]? = some (a0, .inl (c0, n0, .inr (.inl f)))) (ha1 : ws[q1]? = some (a, .inl (c1, n1, .inr (.inl g)))) (ht0 : tys[t0]? = some (c0, .long)) (ht1 : tys[t1]? = some (c1, .long))
    (nn : Nat) {n : Int32} (hi : n = nI nn) (hn : nn < 2 ^ 31) (h4 : nn ≤ n0) (h5 : nn ≤ n1)
    (hframes : 1 ≤ R.frames) (hlocals : (rest.map fun v => v.category).sum + (nativeFrameWords "java/lang/System" "arraycopy" 5 + 11) ≤ R.locals) (hdg : decode cc pc = .ok (.invokestatic index, 3))
    (kk : ∀ f1 : Nat → Int64, f1 = va_cpy f g 0 0 nn → ∀ (H1 : Heap) (locs1 : List Loc), va_P D cl (ws.set q1 (a, .inl (c1, n1, .inr (.inl f1)))) H1 → va_D A (ws.set q1 (a, .inl (c1, n1, .inr (.inl f1)))) → va_S A H0 H1 locs1 → W p l e R s m args below meth c H1 locs1 cells slots Q (F0 m (pc + 3) ls rest)) : W p l e R s m args below meth c H locs cells slots Q (F0 m pc ls (.int n :: .int (0 : Int32) :: .ref a :: .int (0 : Int32) :: .ref a0 :: rest)) := by
  subst hi
  have e0 : (0 : Int32).toNatClampNeg = 0 := by decide
  have e1 : (nI nn).toNatClampNeg = nn := nI_clamp hn
  refine va_copyl hexec hb hml hown hlink hnat hstat hini hK hP hD hS q0 q1 t0 t1 ha0 ha1 ht0 ht1 rfl (by decide) (by decide) (nI_pos hn) (by rw [e0, e1]; omega) (by rw [e0, e1]; omega) (fun _ _ => rfl) hframes hlocals hdg (fun H1 locs1 h1 h2 h3 => ?_)
  rw [e0, e1] at h1 h2
  exact kk _ rfl H1 locs1 h1 h2 h3
end XC
abbrev wM (g : GG) (q : Nat → Nat) (b_m : Nat → Int32) (b_written : Nat → Int32) (b_spare : Nat → Int32) (b_spareWritten : Nat → Int32) (b_states : Nat → Int32) (b_fifth : Nat → Int32) (b_oldest : Int32) (b_stateCount : Int32) (b_text : Nat → Int32) (b_textLength : Int32) (b_at : Int32) (b_read : Nat → Int32) (b_columns : Int32) (b_told : Int32) (b_wants : Nat → Int32) (b_comes : Nat → Int32) : va_W := [(q 0, .inr (5, [.ref (q 1), .ref (q 2), .ref (q 3), .ref (q 4), .ref (q 5), .ref (q 6), .int b_oldest, .int b_stateCount, .ref (q 7), .int b_textLength, .int b_at, .ref (q 8), .int b_columns, .int b_told, .ref (q 9), .ref (q 10)])), (q 1, .inl (g.2 0, 348, .inl b_m)), (q 2, .inl (g.2 0, 8640, .inl b_written)), (q 3, .inl (g.2 0, 348, .inl b_spare)), (q 4, .inl (g.2 0, 8640, .inl b_spareWritten)), (q 5, .inl (g.2 0, 18672, .inl b_states)), (q 6, .inl (g.2 0, 4668, .inl b_fifth)), (q 7, .inl (g.2 0, 160, .inl b_text)), (q 8, .inl (g.2 0, 80, .inl b_read)), (q 9, .inl (g.2 0, 8640, .inl b_wants)), (q 10, .inl (g.2 0, 720, .inl b_comes))]
abbrev wP (g : GG) (q : Nat → Nat) (p_width : Int32) (p_first : Int32) (p_step : Int32) (p_kind : Int32) (p_columns : Nat → Int64) : va_W := [(q 0, .inr (0, [.int p_width, .int p_first, .int p_step, .int p_kind, .ref (q 1)])), (q 1, .inl (g.2 1, 40, .inr (.inl p_columns)))]
abbrev wR (g : GG) (q : Nat → Nat) (r_columns : Nat → Int64) (r_columnCount : Int32) (r_awaited : Int32) (r_told : Int32) (r_number : Int32) (r_numberStart : Int32) : va_W := [(q 0, .inr (1, [.ref (q 1), .int r_columnCount, .int r_awaited, .int r_told, .int r_number, .int r_numberStart])), (q 1, .inl (g.2 1, 40, .inr (.inl r_columns)))]
abbrev wS (g : GG) (q : Nat → Nat) (n_pictureCount : Int32) (n_angle : Int32) (n_speed : Int32) (n_ticks : Int32) (n_load : Int32) (n_secondArm : Int32) (n_settings : Nat → Int32) (n_working : Nat → Int64) (n_written : Nat → Int64) (n_writtenIn : Nat → Int32) (n_width : Nat → Int32) (n_first : Nat → Int32) (n_step : Nat → Int32) (n_kind : Nat → Int32) (n_columns : Nat → Nat → Int64) : va_W := [(q 0, .inr (2, [.int n_pictureCount, .ref (q 1), .int n_angle, .int n_speed, .int n_ticks, .int n_load, .int n_secondArm, .ref (q 2), .ref (q 3), .ref (q 4), .ref (q 5)])), (q 1, .inl (g.2 3, 4, .inr (.inr (.inr (.inr (fun i => some (q (6 + 2 * i)))))))), (q 2, .inl (g.2 0, 4, .inl n_settings)), (q 3, .inl (g.2 1, 2, .inr (.inl n_working))), (q 4, .inl (g.2 1, 720, .inr (.inl n_written))), (q 5, .inl (g.2 0, 8640, .inl n_writtenIn)), (q 6, .inr (0, [.int (n_width 0), .int (n_first 0), .int (n_step 0), .int (n_kind 0), .ref (q 7)])), (q 7, .inl (g.2 1, 40, .inr (.inl (n_columns 0)))), (q 8, .inr (0, [.int (n_width 1), .int (n_first 1), .int (n_step 1), .int (n_kind 1), .ref (q 9)])), (q 9, .inl (g.2 1, 40, .inr (.inl (n_columns 1)))), (q 10, .inr (0, [.int (n_width 2), .int (n_first 2), .int (n_step 2), .int (n_kind 2), .ref (q 11)])), (q 11, .inl (g.2 1, 40, .inr (.inl (n_columns 2)))), (q 12, .inr (0, [.int (n_width 3), .int (n_first 3), .int (n_step 3), .int (n_kind 3), .ref (q 13)])), (q 13, .inl (g.2 1, 40, .inr (.inl (n_columns 3))))]
abbrev wW (g : GG) (q : Nat → Nat) (w_wanted : Nat → Int64) (w_loadAt : Nat → Int32) (w_passedIn : Nat → Int32) (w_secondArm : Int32) (w_power : Int32) (w_limit : Int32) (w_wantedSpeed : Int32) (w_angle : Int32) (w_speed : Int32) (w_load : Int32) (w_ticks : Int32) : va_W := [(q 0, .inr (3, [.ref (q 1), .ref (q 2), .ref (q 3), .int w_secondArm, .int w_power, .int w_limit, .int w_wantedSpeed, .int w_angle, .int w_speed, .int w_load, .int w_ticks])), (q 1, .inl (g.2 1, 720, .inr (.inl w_wanted))), (q 2, .inl (g.2 0, 720, .inl w_loadAt)), (q 3, .inl (g.2 0, 720, .inl w_passedIn))]
abbrev wL (g : GG) (q : Nat → Nat) (nq rq wq : Nat → Nat) (hq : Nat → Nat → Nat) (l_oldest : Int32) (l_historySize : Int32) (l_text : Nat → Int32) (l_textLength : Int32) (l_rightAlone : Nat → Int64) : va_W := [(q 0, .inr (4, [.ref (nq 0), .ref (q 1), .int l_oldest, .int l_historySize, .ref (q 2), .int l_textLength, .ref (rq 0), .ref (wq 0), .ref (q 3)])), (q 1, .inl (g.2 4, 5, .inr (.inr (.inr (.inr (fun i => some (hq i 0))))))), (q 2, .inl (g.2 2, 160, .inl l_text)), (q 3, .inl (g.2 1, 720, .inr (.inl l_rightAlone)))]
abbrev wT (g : GG) (q : Nat → Nat) (t_text : Nat → Int32) : va_W := [(q 0, .inl (g.2 2, 160, .inl t_text))]
end
section
def PX5_in  (a_1 : Int32) (a_2 : Int32) (a_3 : Int32) (k : Int32 → Prop) : Prop := ((a_1 < a_2 → (k (0 : Int32))) ∧ (¬ a_1 < a_2 → ((a_3 < a_1 → (k (0 : Int32))) ∧ (¬ a_3 < a_1 → (k (1 : Int32))))))
def PX5_size  (a_1 : Int32) (k : Int32 → Prop) : Prop := ((0 ≤ a_1 → (k a_1)) ∧ (¬ 0 ≤ a_1 → (k (-a_1))))
def PX5_lesser  (a_1 : Int32) (a_2 : Int32) (k : Int32 → Prop) : Prop := ((a_2 ≤ a_1 → (k a_2)) ∧ (¬ a_2 ≤ a_1 → (k a_1)))
def PX5_around  (a_1 : Int32) (k : Int32 → Prop) : Prop := (k ((a_1 + (720 : Int32)) - (a_1 + (720 : Int32)) / (720 : Int32) * (720 : Int32)))
def PX5_past (b_states : Nat → Int32) (b_fifth : Nat → Int32) (a_1 : Int32) (a_2 : Int32) (k : Int32 → Prop) : Prop := (((4 : Int32) ≤ a_1 → (vp_in a_2 4668 ∧ (k (b_fifth (Int32.toNatClampNeg a_2))))) ∧ (¬ (4 : Int32) ≤ a_1 → (vp_in (((4668 : Int32) * a_1) + a_2) 18672 ∧ (k (b_states (Int32.toNatClampNeg (((4668 : Int32) * a_1) + a_2)))))))
def PX5_isPicture (b_m : Nat → Int32) (a_1 : Int32) (k : Int32 → Prop) : Prop := PX5_in a_1 (0 : Int32) ((b_m 11) - (1 : Int32)) (fun r11_1 => ((r11_1 = 0 ∨ r11_1 = 1) ∧ k r11_1))
def PX5_of (b_m : Nat → Int32) (a_1 : Int32) (a_2 : Int32) (k : Int32 → Prop) : Prop := (vp_in (((12 : Int32) + ((4 : Int32) * a_1)) + a_2) 348 ∧ (k (b_m (Int32.toNatClampNeg (((12 : Int32) + ((4 : Int32) * a_1)) + a_2)))))
def PX5_isLight  (a_1 : Int32) (k : Int32 → Prop) : Prop := PX5_in a_1 (0 : Int32) (11 : Int32) (fun r4_1 => ((r4_1 = 0 ∨ r4_1 = 1) ∧ k r4_1))
def PX5_cellOf  (a_1 : Int32) (a_2 : Int32) (a_3 : Int32) (k : Int32 → Prop) : Prop := (k ((((28 : Int32) + ((80 : Int32) * a_1)) + ((2 : Int32) * a_2)) + (a_3 / (6 : Int32))))
def PX5_colorOf (b_m : Nat → Int32) (a_1 : Int32) (a_2 : Int32) (a_3 : Int32) (k : Int32 → Prop) : Prop := PX5_cellOf a_1 a_2 a_3 (fun r7_1 => (vp_in r7_1 348 ∧ (k (((b_m (Int32.toNatClampNeg r7_1)) >>> (((3 : Int32) * (a_3 - a_3 / (6 : Int32) * (6 : Int32))) &&& 31)) &&& (7 : Int32)))))
def PX5_covered (b_m : Nat → Int32) (a_1 : Int32) (k : Int32 → Prop) : Prop := PX5_of b_m a_1 (0 : Int32) (fun r3_1 => PX5_of b_m a_1 (2 : Int32) (fun r9_2 => PX5_lesser (r3_1 * r9_2) (720 : Int32) (fun r16_3 => (k r16_3))))
def PX5_columnOf (b_m : Nat → Int32) (a_1 : Int32) (a_2 : Int32) (k : Int32 → Prop) : Prop := PX5_of b_m a_1 (1 : Int32) (fun r4_1 => PX5_around (a_2 - r4_1) (fun r8_2 => PX5_covered b_m a_1 (fun r15_3 => ((r8_2 < r15_3 → PX5_of b_m a_1 (2 : Int32) (fun r28_5 => (¬ r28_5 = 0 ∧ (∀ v4_7 : Int32, v4_7 = (r8_2 / r28_5) → PX5_of b_m a_1 (3 : Int32) (fun r37_8 => ((¬ r37_8 = (1 : Int32) → (k v4_7)) ∧ (r37_8 = (1 : Int32) → PX5_of b_m a_1 (0 : Int32) (fun r47_10 => (k ((r47_10 - (1 : Int32)) - v4_7)))))))))) ∧ (¬ r8_2 < r15_3 → (k (-109 : Int32)))))))
def PX5_wanted_L1 (b_m : Nat → Int32) (a_1 : Int32) (a_2 : Int32) (kx_1 : Int32 → Int32 → Prop) : Nat → Int32 → Int32 → Prop
  | 0, _, _ => False
  | n_1 + 1, v3_1, v4_2 => (((b_m 11) ≤ v4_2 → kx_1 v3_1 v4_2) ∧ (¬ (b_m 11) ≤ v4_2 → PX5_of b_m v4_2 (3 : Int32) (fun r21_4 => ((¬ r21_4 = (2 : Int32) → PX5_columnOf b_m v4_2 a_1 (fun r37_6 => ((¬ r37_6 = (-109 : Int32) → PX5_colorOf b_m v4_2 r37_6 a_2 (fun r60_8 => (∀ v3_9 : Int32, v3_9 = (v3_1 ||| r60_8) → (∀ v4_10 : Int32, v4_10 = v4_2 + (1 : Int32) → PX5_wanted_L1 b_m a_1 a_2 kx_1 n_1 v3_9 v4_10)))) ∧ (r37_6 = (-109 : Int32) → (∀ v3_11 : Int32, v3_11 = (v3_1 ||| (0 : Int32)) → (∀ v4_12 : Int32, v4_12 = v4_2 + (1 : Int32) → PX5_wanted_L1 b_m a_1 a_2 kx_1 n_1 v3_11 v4_12)))))) ∧ (r21_4 = (2 : Int32) → (∀ v3_14 : Int32, v3_14 = (v3_1 ||| (0 : Int32)) → (∀ v4_15 : Int32, v4_15 = v4_2 + (1 : Int32) → PX5_wanted_L1 b_m a_1 a_2 kx_1 n_1 v3_14 v4_15)))))))
def PX5_wanted (b_m : Nat → Int32) (a_1 : Int32) (a_2 : Int32) (k : Int32 → Prop) : Prop := (∃ n_1, PX5_wanted_L1 b_m a_1 a_2 (fun v3_1 v4_2 => (k v3_1)) n_1 (0 : Int32) (0 : Int32))
theorem hdX5_in : yX5_in.cls = RX5 ∧ yX5_in.cls ≠ "java/lang/invoke/MethodHandle" ∧ yX5_in.cls ≠ "java/lang/invoke/VarHandle" ∧ (parseMethodDescriptor yX5_in.desc).map (fun d => d.parameters.length) = some 3 := by decide +kernel
set_option maxHeartbeats 4000000 in
set_option maxRecDepth 100000 in
theorem kX5_in (l : Launch) (g : GG)  (a_1 : Int32) (a_2 : Int32) (a_3 : Int32) (k : Int32 → Prop) (h : PX5_in  a_1 a_2 a_3 k) : Met l yX5_in wsX5_in ({ frames := 0, cells := 0, slots := 0, locals := 0 }) (PreR g [.int a_1, .int a_2, .int a_3] []) (vp_Si k) 0 0 (fun _ => False) := by
  refine Met.ofW (cc := cX5_in) (maxL := 3) (ret := (some .boolean)) (by decide) rfl ?_
  intro p e s m args below meth c s₁ B hml hv
  obtain ⟨rfl, hP, hK⟩ := hv
  have hx := B.exec
  have hb := B.bytes
  have hr := B.returns
  have hts := atoms_spec (ws := wsX5_in) B.pre
  have hown : s.vm.findClass RX5 = some m.cls := findClass_of_methodNamed B.named
  have hlocks := B.notSynchronized
  have hl := lv_entry ([.int a_1, .int a_2, .int a_3]) (n := 3) (Nat.le_of_ble_eq_true rfl)
  rw [lg_entry_eq]
  generalize (lg_sl ([.int a_1, .int a_2, .int a_3]) ++ List.replicate (3 - (lg_sl ([.int a_1, .int a_2, .int a_3])).length) Slot.unset).toArray = ls at hl ⊢
  have hl : lv_has ls 3 [(0, .int a_1), (1, .int a_2), (2, .int a_3)] := hl
  unfold PX5_in at h
  refine lv_iload_n hx hb dX5_in_0 rfl (lv_at hl 0 rfl) ?_
  refine lv_iload_n hx hb dX5_in_1 rfl (lv_at hl 1 rfl) ?_
  refine lv_icmp_lt (tgt := 14) hx hb dX5_in_2 (by decide) (fun c_2_0 => ?_) (fun c_2_0 => ?_)
  · replace h := h.1 c_2_0
    refine lv_iconst (v := (0 : Int32)) hx hb dX5_in_14 (by decide) ?_
    exact W.zret (v := (0 : Int32)) hx hb hr rfl (fun t ht hW => ⟨(0 : Int32), rfl, h, ht⟩) (fun _ h9 => by cases h9) dX5_in_15
  · replace h := h.2 c_2_0
    refine lv_iload_n hx hb dX5_in_5 rfl (lv_at hl 0 rfl) ?_
    refine lv_iload_n hx hb dX5_in_6 rfl (lv_at hl 2 rfl) ?_
    refine lv_icmp_gt (tgt := 14) hx hb dX5_in_7 (by decide) (fun c_7_1 => ?_) (fun c_7_1 => ?_)
    · replace h := h.1 c_7_1
      refine lv_iconst (v := (0 : Int32)) hx hb dX5_in_14 (by decide) ?_
      exact W.zret (v := (0 : Int32)) hx hb hr rfl (fun t ht hW => ⟨(0 : Int32), rfl, h, ht⟩) (fun _ h9 => by cases h9) dX5_in_15
    · replace h := h.2 c_7_1
      refine lv_iconst (v := (1 : Int32)) hx hb dX5_in_10 (by decide) ?_
      refine lv_goto (tgt := 15) hx hb dX5_in_11 (by decide) ?_
      exact W.zret (v := (1 : Int32)) hx hb hr rfl (fun t ht hW => ⟨(1 : Int32), rfl, h, ht⟩) (fun _ h9 => by cases h9) dX5_in_15
theorem hdX5_size : yX5_size.cls = RX5 ∧ yX5_size.cls ≠ "java/lang/invoke/MethodHandle" ∧ yX5_size.cls ≠ "java/lang/invoke/VarHandle" ∧ (parseMethodDescriptor yX5_size.desc).map (fun d => d.parameters.length) = some 1 := by decide +kernel
set_option maxHeartbeats 4000000 in
set_option maxRecDepth 100000 in
theorem kX5_size (l : Launch) (g : GG)  (a_1 : Int32) (k : Int32 → Prop) (h : PX5_size  a_1 k) : Met l yX5_size wsX5_size ({ frames := 0, cells := 0, slots := 0, locals := 0 }) (PreR g [.int a_1] []) (vp_Si k) 0 0 (fun _ => False) := by
  refine Met.ofW (cc := cX5_size) (maxL := 1) (ret := (some .int)) (by decide) rfl ?_
  intro p e s m args below meth c s₁ B hml hv
  obtain ⟨rfl, hP, hK⟩ := hv
  have hx := B.exec
  have hb := B.bytes
  have hr := B.returns
  have hts := atoms_spec (ws := wsX5_size) B.pre
  have hown : s.vm.findClass RX5 = some m.cls := findClass_of_methodNamed B.named
  have hlocks := B.notSynchronized
  have hl := lv_entry ([.int a_1]) (n := 1) (Nat.le_of_ble_eq_true rfl)
  rw [lg_entry_eq]
  generalize (lg_sl ([.int a_1]) ++ List.replicate (1 - (lg_sl ([.int a_1])).length) Slot.unset).toArray = ls at hl ⊢
  have hl : lv_has ls 1 [(0, .int a_1)] := hl
  unfold PX5_size at h
  refine lv_iload_n hx hb dX5_size_0 rfl (lv_at hl 0 rfl) ?_
  refine lv_if_ge (tgt := 9) hx hb dX5_size_1 (by decide) (fun c_1_0 => ?_) (fun c_1_0 => ?_)
  · replace h := h.1 c_1_0
    refine lv_iload_n hx hb dX5_size_9 rfl (lv_at hl 0 rfl) ?_
    exact W.iret hx hb hr (fun t ht hW => ⟨a_1, rfl, h, ht⟩) (fun _ h9 => by cases h9) dX5_size_10
  · replace h := h.2 c_1_0
    refine lv_iload_n hx hb dX5_size_4 rfl (lv_at hl 0 rfl) ?_
    refine lv_ineg hx hb dX5_size_5 ?_
    refine lv_goto (tgt := 10) hx hb dX5_size_6 (by decide) ?_
    exact W.iret hx hb hr (fun t ht hW => ⟨(-a_1), rfl, h, ht⟩) (fun _ h9 => by cases h9) dX5_size_10
theorem hdX5_lesser : yX5_lesser.cls = RX5 ∧ yX5_lesser.cls ≠ "java/lang/invoke/MethodHandle" ∧ yX5_lesser.cls ≠ "java/lang/invoke/VarHandle" ∧ (parseMethodDescriptor yX5_lesser.desc).map (fun d => d.parameters.length) = some 2 := by decide +kernel
set_option maxHeartbeats 4000000 in
set_option maxRecDepth 100000 in
theorem kX5_lesser (l : Launch) (g : GG)  (a_1 : Int32) (a_2 : Int32) (k : Int32 → Prop) (h : PX5_lesser  a_1 a_2 k) : Met l yX5_lesser wsX5_lesser ({ frames := 0, cells := 0, slots := 0, locals := 0 }) (PreR g [.int a_1, .int a_2] []) (vp_Si k) 0 0 (fun _ => False) := by
  refine Met.ofW (cc := cX5_lesser) (maxL := 2) (ret := (some .int)) (by decide) rfl ?_
  intro p e s m args below meth c s₁ B hml hv
  obtain ⟨rfl, hP, hK⟩ := hv
  have hx := B.exec
  have hb := B.bytes
  have hr := B.returns
  have hts := atoms_spec (ws := wsX5_lesser) B.pre
  have hown : s.vm.findClass RX5 = some m.cls := findClass_of_methodNamed B.named
  have hlocks := B.notSynchronized
  have hl := lv_entry ([.int a_1, .int a_2]) (n := 2) (Nat.le_of_ble_eq_true rfl)
  rw [lg_entry_eq]
  generalize (lg_sl ([.int a_1, .int a_2]) ++ List.replicate (2 - (lg_sl ([.int a_1, .int a_2])).length) Slot.unset).toArray = ls at hl ⊢
  have hl : lv_has ls 2 [(0, .int a_1), (1, .int a_2)] := hl
  unfold PX5_lesser at h
  refine lv_iload_n hx hb dX5_lesser_0 rfl (lv_at hl 0 rfl) ?_
  refine lv_iload_n hx hb dX5_lesser_1 rfl (lv_at hl 1 rfl) ?_
  refine lv_icmp_ge (tgt := 9) hx hb dX5_lesser_2 (by decide) (fun c_2_0 => ?_) (fun c_2_0 => ?_)
  · replace h := h.1 c_2_0
    refine lv_iload_n hx hb dX5_lesser_9 rfl (lv_at hl 1 rfl) ?_
    exact W.iret hx hb hr (fun t ht hW => ⟨a_2, rfl, h, ht⟩) (fun _ h9 => by cases h9) dX5_lesser_10
  · replace h := h.2 c_2_0
    refine lv_iload_n hx hb dX5_lesser_5 rfl (lv_at hl 0 rfl) ?_
    refine lv_goto (tgt := 10) hx hb dX5_lesser_6 (by decide) ?_
    exact W.iret hx hb hr (fun t ht hW => ⟨a_1, rfl, h, ht⟩) (fun _ h9 => by cases h9) dX5_lesser_10
theorem hdX5_around : yX5_around.cls = RX5 ∧ yX5_around.cls ≠ "java/lang/invoke/MethodHandle" ∧ yX5_around.cls ≠ "java/lang/invoke/VarHandle" ∧ (parseMethodDescriptor yX5_around.desc).map (fun d => d.parameters.length) = some 1 := by decide +kernel
set_option maxHeartbeats 4000000 in
set_option maxRecDepth 100000 in
theorem kX5_around (l : Launch) (g : GG)  (a_1 : Int32) (k : Int32 → Prop) (h : PX5_around  a_1 k) : Met l yX5_around wsX5_around ({ frames := 0, cells := 0, slots := 0, locals := 0 }) (PreR g [.int a_1] []) (vp_Si k) 0 0 (fun _ => False) := by
  refine Met.ofW (cc := cX5_around) (maxL := 1) (ret := (some .int)) (by decide) rfl ?_
  intro p e s m args below meth c s₁ B hml hv
  obtain ⟨rfl, hP, hK⟩ := hv
  have hx := B.exec
  have hb := B.bytes
  have hr := B.returns
  have hts := atoms_spec (ws := wsX5_around) B.pre
  have hown : s.vm.findClass RX5 = some m.cls := findClass_of_methodNamed B.named
  have hlocks := B.notSynchronized
  have hl := lv_entry ([.int a_1]) (n := 1) (Nat.le_of_ble_eq_true rfl)
  rw [lg_entry_eq]
  generalize (lg_sl ([.int a_1]) ++ List.replicate (1 - (lg_sl ([.int a_1])).length) Slot.unset).toArray = ls at hl ⊢
  have hl : lv_has ls 1 [(0, .int a_1)] := hl
  unfold PX5_around at h
  refine lv_iload_n hx hb dX5_around_0 rfl (lv_at hl 0 rfl) ?_
  refine lv_sipush (v := (720 : Int32)) hx hb dX5_around_1 (by decide) ?_
  refine lv_iadd hx hb dX5_around_4 ?_
  refine lv_sipush (v := (720 : Int32)) hx hb dX5_around_5 (by decide) ?_
  refine lv_irem hx hb dX5_around_8 (by decide) ?_
  exact W.iret hx hb hr (fun t ht hW => ⟨((a_1 + (720 : Int32)) - (a_1 + (720 : Int32)) / (720 : Int32) * (720 : Int32)), rfl, h, ht⟩) (fun _ h9 => by cases h9) dX5_around_9
theorem hdX5_past : yX5_past.cls = RX5 ∧ yX5_past.cls ≠ "java/lang/invoke/MethodHandle" ∧ yX5_past.cls ≠ "java/lang/invoke/VarHandle" ∧ (parseMethodDescriptor yX5_past.desc).map (fun d => d.parameters.length) = some 2 := by decide +kernel
set_option maxHeartbeats 4000000 in
set_option maxRecDepth 100000 in
theorem kX5_past (l : Launch) (g : GG) (q : Nat → Nat) (b_m : Nat → Int32) (b_written : Nat → Int32) (b_spare : Nat → Int32) (b_spareWritten : Nat → Int32) (b_states : Nat → Int32) (b_fifth : Nat → Int32) (b_oldest : Int32) (b_stateCount : Int32) (b_text : Nat → Int32) (b_textLength : Int32) (b_at : Int32) (b_read : Nat → Int32) (b_columns : Int32) (b_told : Int32) (b_wants : Nat → Int32) (b_comes : Nat → Int32) (a_1 : Int32) (a_2 : Int32) (k : Int32 → Prop) (h : PX5_past b_states b_fifth a_1 a_2 k) : Met l yX5_past wsX5_past ({ frames := 0, cells := 0, slots := 0, locals := 0 }) (PreR g [.ref (q 0), .int a_1, .int a_2] (wM g q b_m b_written b_spare b_spareWritten b_states b_fifth b_oldest b_stateCount b_text b_textLength b_at b_read b_columns b_told b_wants b_comes)) (vp_Si k) 0 0 (fun _ => False) := by
  refine Met.ofW (cc := cX5_past) (maxL := 3) (ret := (some .int)) (by decide) rfl ?_
  intro p e s m args below meth c s₁ B hml hv
  obtain ⟨rfl, hP, hK⟩ := hv
  have hx := B.exec
  have hb := B.bytes
  have hr := B.returns
  have hts := atoms_spec (ws := wsX5_past) B.pre
  have hown : s.vm.findClass RX5 = some m.cls := findClass_of_methodNamed B.named
  have hlocks := B.notSynchronized
  have iX5 : ∀ w ∈ wsX50, w ∈ wsX5_past := by decide +kernel
  have hl := lv_entry ([.ref (q 0), .int a_1, .int a_2]) (n := 3) (Nat.le_of_ble_eq_true rfl)
  rw [lg_entry_eq]
  generalize (lg_sl ([.ref (q 0), .int a_1, .int a_2]) ++ List.replicate (3 - (lg_sl ([.ref (q 0), .int a_1, .int a_2])).length) Slot.unset).toArray = ls at hl ⊢
  have hl : lv_has ls 3 [(0, .ref (q 0)), (1, .int a_1), (2, .int a_2)] := hl
  unfold PX5_past at h
  refine lv_iload_n hx hb dX5_past_0 rfl (lv_at hl 1 rfl) ?_
  refine lv_iconst (v := (4 : Int32)) hx hb dX5_past_1 (by decide) ?_
  refine lv_icmp_ge (tgt := 20) hx hb dX5_past_2 (by decide) (fun c_2_0 => ?_) (fun c_2_0 => ?_)
  · replace h := h.1 c_2_0
    refine lv_aload_n hx hb dX5_past_20 rfl (lv_at hl 0 rfl) ?_
    refine va_get (D := g.1) (ci := 5) (v := .ref (q 6)) (C := RX5) (T := TX5) (N := 16) hx hb hts iX5 hown hK.1 hP 0 rfl rfl 5 (by decide) (hts (.fieldLink RX5 25 "LightWheelModel" "fifth" "[I") (by decide +kernel)) (fun _ h9 => h9) rfl dX5_past_21 ?_
    refine lv_iload_n hx hb dX5_past_24 rfl (lv_at hl 2 rfl) ?_
    have o_25_1 := h.1
    replace h := h.2
    refine va_iald hx hb hK.1 hP 6 0 rfl rfl o_25_1 dX5_past_25 ?_
    exact W.iret hx hb hr (fun t ht hW => ⟨(b_fifth (Int32.toNatClampNeg a_2)), rfl, h, ht⟩) (fun _ h9 => by cases h9) dX5_past_26
  · replace h := h.2 c_2_0
    refine lv_aload_n hx hb dX5_past_5 rfl (lv_at hl 0 rfl) ?_
    refine va_get (D := g.1) (ci := 5) (v := .ref (q 5)) (C := RX5) (T := TX5) (N := 16) hx hb hts iX5 hown hK.1 hP 0 rfl rfl 4 (by decide) (hts (.fieldLink RX5 22 "LightWheelModel" "states" "[I") (by decide +kernel)) (fun _ h9 => h9) rfl dX5_past_6 ?_
    refine lv_sipush (v := (4668 : Int32)) hx hb dX5_past_9 (by decide) ?_
    refine lv_iload_n hx hb dX5_past_12 rfl (lv_at hl 1 rfl) ?_
    refine lv_imul hx hb dX5_past_13 ?_
    refine lv_iload_n hx hb dX5_past_14 rfl (lv_at hl 2 rfl) ?_
    refine lv_iadd hx hb dX5_past_15 ?_
    have o_16_2 := h.1
    replace h := h.2
    refine va_iald hx hb hK.1 hP 5 0 rfl rfl o_16_2 dX5_past_16 ?_
    refine lv_goto (tgt := 26) hx hb dX5_past_17 (by decide) ?_
    exact W.iret hx hb hr (fun t ht hW => ⟨(b_states (Int32.toNatClampNeg (((4668 : Int32) * a_1) + a_2))), rfl, h, ht⟩) (fun _ h9 => by cases h9) dX5_past_26
theorem hdX5_isPicture : yX5_isPicture.cls = RX5 ∧ yX5_isPicture.cls ≠ "java/lang/invoke/MethodHandle" ∧ yX5_isPicture.cls ≠ "java/lang/invoke/VarHandle" ∧ (parseMethodDescriptor yX5_isPicture.desc).map (fun d => d.parameters.length) = some 1 := by decide +kernel
set_option maxHeartbeats 4000000 in
set_option maxRecDepth 100000 in
theorem kX5_isPicture (l : Launch) (g : GG) (q : Nat → Nat) (b_m : Nat → Int32) (b_written : Nat → Int32) (b_spare : Nat → Int32) (b_spareWritten : Nat → Int32) (b_states : Nat → Int32) (b_fifth : Nat → Int32) (b_oldest : Int32) (b_stateCount : Int32) (b_text : Nat → Int32) (b_textLength : Int32) (b_at : Int32) (b_read : Nat → Int32) (b_columns : Int32) (b_told : Int32) (b_wants : Nat → Int32) (b_comes : Nat → Int32) (a_1 : Int32) (k : Int32 → Prop) (h : PX5_isPicture b_m a_1 k) : Met l yX5_isPicture wsX5_isPicture ({ frames := 1, cells := 0, slots := 0, locals := 22 }) (PreR g [.ref (q 0), .int a_1] (wM g q b_m b_written b_spare b_spareWritten b_states b_fifth b_oldest b_stateCount b_text b_textLength b_at b_read b_columns b_told b_wants b_comes)) (vp_Si k) 0 0 (fun _ => False) := by
  refine Met.ofW (cc := cX5_isPicture) (maxL := 2) (ret := (some .boolean)) (by decide) rfl ?_
  intro p e s m args below meth c s₁ B hml hv
  obtain ⟨rfl, hP, hK⟩ := hv
  have hx := B.exec
  have hb := B.bytes
  have hr := B.returns
  have hts := atoms_spec (ws := wsX5_isPicture) B.pre
  have hown : s.vm.findClass RX5 = some m.cls := findClass_of_methodNamed B.named
  have hlocks := B.notSynchronized
  have iX5 : ∀ w ∈ wsX50, w ∈ wsX5_isPicture := by decide +kernel
  have hl := lv_entry ([.ref (q 0), .int a_1]) (n := 2) (Nat.le_of_ble_eq_true rfl)
  rw [lg_entry_eq]
  generalize (lg_sl ([.ref (q 0), .int a_1]) ++ List.replicate (2 - (lg_sl ([.ref (q 0), .int a_1])).length) Slot.unset).toArray = ls at hl ⊢
  have hl : lv_has ls 2 [(0, .ref (q 0)), (1, .int a_1)] := hl
  unfold PX5_isPicture at h
  refine lv_iload_n hx hb dX5_isPicture_0 rfl (lv_at hl 1 rfl) ?_
  refine lv_iconst (v := (0 : Int32)) hx hb dX5_isPicture_1 (by decide) ?_
  refine lv_aload_n hx hb dX5_isPicture_2 rfl (lv_at hl 0 rfl) ?_
  refine va_get (D := g.1) (ci := 5) (v := .ref (q 1)) (C := RX5) (T := TX5) (N := 16) hx hb hts iX5 hown hK.1 hP 0 rfl rfl 0 (by decide) (hts (.fieldLink RX5 7 "LightWheelModel" "m" "[I") (by decide +kernel)) (fun _ h9 => h9) rfl dX5_isPicture_3 ?_
  refine lv_bipush (v := (11 : Int32)) hx hb dX5_isPicture_6 (by decide) ?_
  refine xr_iald hx hb hK.1 hP 1 0 rfl rfl 11 rfl (Nat.le_of_ble_eq_true rfl) (Nat.le_of_ble_eq_true rfl) dX5_isPicture_8 ?_
  refine lv_iconst (v := (1 : Int32)) hx hb dX5_isPicture_9 (by decide) ?_
  refine lv_isub hx hb dX5_isPicture_10 ?_
  refine vp_callSi (W.runS (As := [.int a_1, .int (0 : Int32), .int ((b_m 11) - (1 : Int32))]) (rest := []) ⟨hx, hb, hml, hown, hts⟩ (kX5_in l g  a_1 (0 : Int32) ((b_m 11) - (1 : Int32)) _ h) (va_cwS 3 hts gX5_isPicture_X5_in rfl rfl rfl hdX5_in.2 ⟨(Nat.le_of_ble_eq_true rfl), (Nat.le_of_ble_eq_true rfl)⟩) (preS_R hK (va_P_nil (D := g.1) (cl := vwCl))) rfl rfl hl.1 rfl (lv_room (Nat.le_of_ble_eq_true rfl)) dX5_isPicture_11 ⟨(Nat.le_of_ble_eq_true rfl), (Nat.le_of_ble_eq_true rfl)⟩) (fun r11_1 h => ?_)
  have hbz := h.1
  replace h := h.2
  exact W.zret (v := r11_1) hx hb hr (by rcases hbz with e9 | e9 <;> rw [e9] <;> rfl) (fun t ht hW => ⟨r11_1, rfl, h, ht⟩) (fun _ h9 => by cases h9) dX5_isPicture_14
theorem hdX5_of : yX5_of.cls = RX5 ∧ yX5_of.cls ≠ "java/lang/invoke/MethodHandle" ∧ yX5_of.cls ≠ "java/lang/invoke/VarHandle" ∧ (parseMethodDescriptor yX5_of.desc).map (fun d => d.parameters.length) = some 2 := by decide +kernel
set_option maxHeartbeats 4000000 in
set_option maxRecDepth 100000 in
theorem kX5_of (l : Launch) (g : GG) (q : Nat → Nat) (b_m : Nat → Int32) (b_written : Nat → Int32) (b_spare : Nat → Int32) (b_spareWritten : Nat → Int32) (b_states : Nat → Int32) (b_fifth : Nat → Int32) (b_oldest : Int32) (b_stateCount : Int32) (b_text : Nat → Int32) (b_textLength : Int32) (b_at : Int32) (b_read : Nat → Int32) (b_columns : Int32) (b_told : Int32) (b_wants : Nat → Int32) (b_comes : Nat → Int32) (a_1 : Int32) (a_2 : Int32) (k : Int32 → Prop) (h : PX5_of b_m a_1 a_2 k) : Met l yX5_of wsX5_of ({ frames := 0, cells := 0, slots := 0, locals := 0 }) (PreR g [.ref (q 0), .int a_1, .int a_2] (wM g q b_m b_written b_spare b_spareWritten b_states b_fifth b_oldest b_stateCount b_text b_textLength b_at b_read b_columns b_told b_wants b_comes)) (vp_Si k) 0 0 (fun _ => False) := by
  refine Met.ofW (cc := cX5_of) (maxL := 3) (ret := (some .int)) (by decide) rfl ?_
  intro p e s m args below meth c s₁ B hml hv
  obtain ⟨rfl, hP, hK⟩ := hv
  have hx := B.exec
  have hb := B.bytes
  have hr := B.returns
  have hts := atoms_spec (ws := wsX5_of) B.pre
  have hown : s.vm.findClass RX5 = some m.cls := findClass_of_methodNamed B.named
  have hlocks := B.notSynchronized
  have iX5 : ∀ w ∈ wsX50, w ∈ wsX5_of := by decide +kernel
  have hl := lv_entry ([.ref (q 0), .int a_1, .int a_2]) (n := 3) (Nat.le_of_ble_eq_true rfl)
  rw [lg_entry_eq]
  generalize (lg_sl ([.ref (q 0), .int a_1, .int a_2]) ++ List.replicate (3 - (lg_sl ([.ref (q 0), .int a_1, .int a_2])).length) Slot.unset).toArray = ls at hl ⊢
  have hl : lv_has ls 3 [(0, .ref (q 0)), (1, .int a_1), (2, .int a_2)] := hl
  unfold PX5_of at h
  refine lv_aload_n hx hb dX5_of_0 rfl (lv_at hl 0 rfl) ?_
  refine va_get (D := g.1) (ci := 5) (v := .ref (q 1)) (C := RX5) (T := TX5) (N := 16) hx hb hts iX5 hown hK.1 hP 0 rfl rfl 0 (by decide) (hts (.fieldLink RX5 7 "LightWheelModel" "m" "[I") (by decide +kernel)) (fun _ h9 => h9) rfl dX5_of_1 ?_
  refine lv_bipush (v := (12 : Int32)) hx hb dX5_of_4 (by decide) ?_
  refine lv_iconst (v := (4 : Int32)) hx hb dX5_of_6 (by decide) ?_
  refine lv_iload_n hx hb dX5_of_7 rfl (lv_at hl 1 rfl) ?_
  refine lv_imul hx hb dX5_of_8 ?_
  refine lv_iadd hx hb dX5_of_9 ?_
  refine lv_iload_n hx hb dX5_of_10 rfl (lv_at hl 2 rfl) ?_
  refine lv_iadd hx hb dX5_of_11 ?_
  have o_12_0 := h.1
  replace h := h.2
  refine va_iald hx hb hK.1 hP 1 0 rfl rfl o_12_0 dX5_of_12 ?_
  exact W.iret hx hb hr (fun t ht hW => ⟨(b_m (Int32.toNatClampNeg (((12 : Int32) + ((4 : Int32) * a_1)) + a_2))), rfl, h, ht⟩) (fun _ h9 => by cases h9) dX5_of_13
theorem hdX5_isLight : yX5_isLight.cls = RX5 ∧ yX5_isLight.cls ≠ "java/lang/invoke/MethodHandle" ∧ yX5_isLight.cls ≠ "java/lang/invoke/VarHandle" ∧ (parseMethodDescriptor yX5_isLight.desc).map (fun d => d.parameters.length) = some 1 := by decide +kernel
set_option maxHeartbeats 4000000 in
set_option maxRecDepth 100000 in
theorem kX5_isLight (l : Launch) (g : GG)  (a_1 : Int32) (k : Int32 → Prop) (h : PX5_isLight  a_1 k) : Met l yX5_isLight wsX5_isLight ({ frames := 1, cells := 0, slots := 0, locals := 22 }) (PreR g [.int a_1] []) (vp_Si k) 0 0 (fun _ => False) := by
  refine Met.ofW (cc := cX5_isLight) (maxL := 1) (ret := (some .boolean)) (by decide) rfl ?_
  intro p e s m args below meth c s₁ B hml hv
  obtain ⟨rfl, hP, hK⟩ := hv
  have hx := B.exec
  have hb := B.bytes
  have hr := B.returns
  have hts := atoms_spec (ws := wsX5_isLight) B.pre
  have hown : s.vm.findClass RX5 = some m.cls := findClass_of_methodNamed B.named
  have hlocks := B.notSynchronized
  have hl := lv_entry ([.int a_1]) (n := 1) (Nat.le_of_ble_eq_true rfl)
  rw [lg_entry_eq]
  generalize (lg_sl ([.int a_1]) ++ List.replicate (1 - (lg_sl ([.int a_1])).length) Slot.unset).toArray = ls at hl ⊢
  have hl : lv_has ls 1 [(0, .int a_1)] := hl
  unfold PX5_isLight at h
  refine lv_iload_n hx hb dX5_isLight_0 rfl (lv_at hl 0 rfl) ?_
  refine lv_iconst (v := (0 : Int32)) hx hb dX5_isLight_1 (by decide) ?_
  refine lv_bipush (v := (11 : Int32)) hx hb dX5_isLight_2 (by decide) ?_
  refine vp_callSi (W.runS (As := [.int a_1, .int (0 : Int32), .int (11 : Int32)]) (rest := []) ⟨hx, hb, hml, hown, hts⟩ (kX5_in l g  a_1 (0 : Int32) (11 : Int32) _ h) (va_cwS 3 hts gX5_isLight_X5_in rfl rfl rfl hdX5_in.2 ⟨(Nat.le_of_ble_eq_true rfl), (Nat.le_of_ble_eq_true rfl)⟩) (preS_R hK (va_P_nil (D := g.1) (cl := vwCl))) rfl rfl hl.1 rfl (lv_room (Nat.le_of_ble_eq_true rfl)) dX5_isLight_4 ⟨(Nat.le_of_ble_eq_true rfl), (Nat.le_of_ble_eq_true rfl)⟩) (fun r4_1 h => ?_)
  have hbz := h.1
  replace h := h.2
  exact W.zret (v := r4_1) hx hb hr (by rcases hbz with e9 | e9 <;> rw [e9] <;> rfl) (fun t ht hW => ⟨r4_1, rfl, h, ht⟩) (fun _ h9 => by cases h9) dX5_isLight_7
theorem hdX5_cellOf : yX5_cellOf.cls = RX5 ∧ yX5_cellOf.cls ≠ "java/lang/invoke/MethodHandle" ∧ yX5_cellOf.cls ≠ "java/lang/invoke/VarHandle" ∧ (parseMethodDescriptor yX5_cellOf.desc).map (fun d => d.parameters.length) = some 3 := by decide +kernel
set_option maxHeartbeats 4000000 in
set_option maxRecDepth 100000 in
theorem kX5_cellOf (l : Launch) (g : GG)  (a_1 : Int32) (a_2 : Int32) (a_3 : Int32) (k : Int32 → Prop) (h : PX5_cellOf  a_1 a_2 a_3 k) : Met l yX5_cellOf wsX5_cellOf ({ frames := 0, cells := 0, slots := 0, locals := 0 }) (PreR g [.int a_1, .int a_2, .int a_3] []) (vp_Si k) 0 0 (fun _ => False) := by
  refine Met.ofW (cc := cX5_cellOf) (maxL := 3) (ret := (some .int)) (by decide) rfl ?_
  intro p e s m args below meth c s₁ B hml hv
  obtain ⟨rfl, hP, hK⟩ := hv
  have hx := B.exec
  have hb := B.bytes
  have hr := B.returns
  have hts := atoms_spec (ws := wsX5_cellOf) B.pre
  have hown : s.vm.findClass RX5 = some m.cls := findClass_of_methodNamed B.named
  have hlocks := B.notSynchronized
  have hl := lv_entry ([.int a_1, .int a_2, .int a_3]) (n := 3) (Nat.le_of_ble_eq_true rfl)
  rw [lg_entry_eq]
  generalize (lg_sl ([.int a_1, .int a_2, .int a_3]) ++ List.replicate (3 - (lg_sl ([.int a_1, .int a_2, .int a_3])).length) Slot.unset).toArray = ls at hl ⊢
  have hl : lv_has ls 3 [(0, .int a_1), (1, .int a_2), (2, .int a_3)] := hl
  unfold PX5_cellOf at h
  refine lv_bipush (v := (28 : Int32)) hx hb dX5_cellOf_0 (by decide) ?_
  refine lv_bipush (v := (80 : Int32)) hx hb dX5_cellOf_2 (by decide) ?_
  refine lv_iload_n hx hb dX5_cellOf_4 rfl (lv_at hl 0 rfl) ?_
  refine lv_imul hx hb dX5_cellOf_5 ?_
  refine lv_iadd hx hb dX5_cellOf_6 ?_
  refine lv_iconst (v := (2 : Int32)) hx hb dX5_cellOf_7 (by decide) ?_
  refine lv_iload_n hx hb dX5_cellOf_8 rfl (lv_at hl 1 rfl) ?_
  refine lv_imul hx hb dX5_cellOf_9 ?_
  refine lv_iadd hx hb dX5_cellOf_10 ?_
  refine lv_iload_n hx hb dX5_cellOf_11 rfl (lv_at hl 2 rfl) ?_
  refine lv_bipush (v := (6 : Int32)) hx hb dX5_cellOf_12 (by decide) ?_
  refine lv_idiv hx hb dX5_cellOf_14 (by decide) ?_
  refine lv_iadd hx hb dX5_cellOf_15 ?_
  exact W.iret hx hb hr (fun t ht hW => ⟨((((28 : Int32) + ((80 : Int32) * a_1)) + ((2 : Int32) * a_2)) + (a_3 / (6 : Int32))), rfl, h, ht⟩) (fun _ h9 => by cases h9) dX5_cellOf_16
theorem hdX5_colorOf : yX5_colorOf.cls = RX5 ∧ yX5_colorOf.cls ≠ "java/lang/invoke/MethodHandle" ∧ yX5_colorOf.cls ≠ "java/lang/invoke/VarHandle" ∧ (parseMethodDescriptor yX5_colorOf.desc).map (fun d => d.parameters.length) = some 3 := by decide +kernel
set_option maxHeartbeats 4000000 in
set_option maxRecDepth 100000 in
theorem kX5_colorOf (l : Launch) (g : GG) (q : Nat → Nat) (b_m : Nat → Int32) (b_written : Nat → Int32) (b_spare : Nat → Int32) (b_spareWritten : Nat → Int32) (b_states : Nat → Int32) (b_fifth : Nat → Int32) (b_oldest : Int32) (b_stateCount : Int32) (b_text : Nat → Int32) (b_textLength : Int32) (b_at : Int32) (b_read : Nat → Int32) (b_columns : Int32) (b_told : Int32) (b_wants : Nat → Int32) (b_comes : Nat → Int32) (a_1 : Int32) (a_2 : Int32) (a_3 : Int32) (k : Int32 → Prop) (h : PX5_colorOf b_m a_1 a_2 a_3 k) : Met l yX5_colorOf wsX5_colorOf ({ frames := 1, cells := 0, slots := 0, locals := 22 }) (PreR g [.ref (q 0), .int a_1, .int a_2, .int a_3] (wM g q b_m b_written b_spare b_spareWritten b_states b_fifth b_oldest b_stateCount b_text b_textLength b_at b_read b_columns b_told b_wants b_comes)) (vp_Si k) 0 0 (fun _ => False) := by
  refine Met.ofW (cc := cX5_colorOf) (maxL := 4) (ret := (some .int)) (by decide) rfl ?_
  intro p e s m args below meth c s₁ B hml hv
  obtain ⟨rfl, hP, hK⟩ := hv
  have hx := B.exec
  have hb := B.bytes
  have hr := B.returns
  have hts := atoms_spec (ws := wsX5_colorOf) B.pre
  have hown : s.vm.findClass RX5 = some m.cls := findClass_of_methodNamed B.named
  have hlocks := B.notSynchronized
  have iX5 : ∀ w ∈ wsX50, w ∈ wsX5_colorOf := by decide +kernel
  have hl := lv_entry ([.ref (q 0), .int a_1, .int a_2, .int a_3]) (n := 4) (Nat.le_of_ble_eq_true rfl)
  rw [lg_entry_eq]
  generalize (lg_sl ([.ref (q 0), .int a_1, .int a_2, .int a_3]) ++ List.replicate (4 - (lg_sl ([.ref (q 0), .int a_1, .int a_2, .int a_3])).length) Slot.unset).toArray = ls at hl ⊢
  have hl : lv_has ls 4 [(0, .ref (q 0)), (1, .int a_1), (2, .int a_2), (3, .int a_3)] := hl
  unfold PX5_colorOf at h
  refine lv_aload_n hx hb dX5_colorOf_0 rfl (lv_at hl 0 rfl) ?_
  refine va_get (D := g.1) (ci := 5) (v := .ref (q 1)) (C := RX5) (T := TX5) (N := 16) hx hb hts iX5 hown hK.1 hP 0 rfl rfl 0 (by decide) (hts (.fieldLink RX5 7 "LightWheelModel" "m" "[I") (by decide +kernel)) (fun _ h9 => h9) rfl dX5_colorOf_1 ?_
  refine lv_iload_n hx hb dX5_colorOf_4 rfl (lv_at hl 1 rfl) ?_
  refine lv_iload_n hx hb dX5_colorOf_5 rfl (lv_at hl 2 rfl) ?_
  refine lv_iload_n hx hb dX5_colorOf_6 rfl (lv_at hl 3 rfl) ?_
  refine vp_callSi (W.runS (As := [.int a_1, .int a_2, .int a_3]) (rest := [.ref (q 1)]) ⟨hx, hb, hml, hown, hts⟩ (kX5_cellOf l g  a_1 a_2 a_3 _ h) (va_cwS 3 hts gX5_colorOf_X5_cellOf rfl rfl rfl hdX5_cellOf.2 ⟨(Nat.le_of_ble_eq_true rfl), (Nat.le_of_ble_eq_true rfl)⟩) (preS_R hK (va_P_nil (D := g.1) (cl := vwCl))) rfl rfl hl.1 rfl (lv_room (Nat.le_of_ble_eq_true rfl)) dX5_colorOf_7 ⟨(Nat.le_of_ble_eq_true rfl), (Nat.le_of_ble_eq_true rfl)⟩) (fun r7_1 h => ?_)
  have o_10_1 := h.1
  replace h := h.2
  refine va_iald hx hb hK.1 hP 1 0 rfl rfl o_10_1 dX5_colorOf_10 ?_
  refine lv_iconst (v := (3 : Int32)) hx hb dX5_colorOf_11 (by decide) ?_
  refine lv_iload_n hx hb dX5_colorOf_12 rfl (lv_at hl 3 rfl) ?_
  refine lv_bipush (v := (6 : Int32)) hx hb dX5_colorOf_13 (by decide) ?_
  refine lv_irem hx hb dX5_colorOf_15 (by decide) ?_
  refine lv_imul hx hb dX5_colorOf_16 ?_
  refine lv_ishr hx hb dX5_colorOf_17 ?_
  refine lv_bipush (v := (7 : Int32)) hx hb dX5_colorOf_18 (by decide) ?_
  refine lv_iand hx hb dX5_colorOf_20 ?_
  exact W.iret hx hb hr (fun t ht hW => ⟨(((b_m (Int32.toNatClampNeg r7_1)) >>> (((3 : Int32) * (a_3 - a_3 / (6 : Int32) * (6 : Int32))) &&& 31)) &&& (7 : Int32)), rfl, h, ht⟩) (fun _ h9 => by cases h9) dX5_colorOf_21
theorem hdX5_covered : yX5_covered.cls = RX5 ∧ yX5_covered.cls ≠ "java/lang/invoke/MethodHandle" ∧ yX5_covered.cls ≠ "java/lang/invoke/VarHandle" ∧ (parseMethodDescriptor yX5_covered.desc).map (fun d => d.parameters.length) = some 1 := by decide +kernel
set_option maxHeartbeats 4000000 in
set_option maxRecDepth 100000 in
theorem kX5_covered (l : Launch) (g : GG) (q : Nat → Nat) (b_m : Nat → Int32) (b_written : Nat → Int32) (b_spare : Nat → Int32) (b_spareWritten : Nat → Int32) (b_states : Nat → Int32) (b_fifth : Nat → Int32) (b_oldest : Int32) (b_stateCount : Int32) (b_text : Nat → Int32) (b_textLength : Int32) (b_at : Int32) (b_read : Nat → Int32) (b_columns : Int32) (b_told : Int32) (b_wants : Nat → Int32) (b_comes : Nat → Int32) (a_1 : Int32) (k : Int32 → Prop) (h : PX5_covered b_m a_1 k) : Met l yX5_covered wsX5_covered ({ frames := 1, cells := 0, slots := 0, locals := 22 }) (PreR g [.ref (q 0), .int a_1] (wM g q b_m b_written b_spare b_spareWritten b_states b_fifth b_oldest b_stateCount b_text b_textLength b_at b_read b_columns b_told b_wants b_comes)) (vp_Si k) 0 0 (fun _ => False) := by
  refine Met.ofW (cc := cX5_covered) (maxL := 2) (ret := (some .int)) (by decide) rfl ?_
  intro p e s m args below meth c s₁ B hml hv
  obtain ⟨rfl, hP, hK⟩ := hv
  have hx := B.exec
  have hb := B.bytes
  have hr := B.returns
  have hts := atoms_spec (ws := wsX5_covered) B.pre
  have hown : s.vm.findClass RX5 = some m.cls := findClass_of_methodNamed B.named
  have hlocks := B.notSynchronized
  have hl := lv_entry ([.ref (q 0), .int a_1]) (n := 2) (Nat.le_of_ble_eq_true rfl)
  rw [lg_entry_eq]
  generalize (lg_sl ([.ref (q 0), .int a_1]) ++ List.replicate (2 - (lg_sl ([.ref (q 0), .int a_1])).length) Slot.unset).toArray = ls at hl ⊢
  have hl : lv_has ls 2 [(0, .ref (q 0)), (1, .int a_1)] := hl
  unfold PX5_covered at h
  refine lv_aload_n hx hb dX5_covered_0 rfl (lv_at hl 0 rfl) ?_
  refine lv_iload_n hx hb dX5_covered_1 rfl (lv_at hl 1 rfl) ?_
  refine lv_iconst (v := (0 : Int32)) hx hb dX5_covered_2 (by decide) ?_
  refine vp_callSi (W.runV (As := [.int a_1, .int (0 : Int32)]) (rest := []) ⟨hx, hb, hml, hown, hts⟩ (kX5_of l g q b_m b_written b_spare b_spareWritten b_states b_fifth b_oldest b_stateCount b_text b_textLength b_at b_read b_columns b_told b_wants b_comes a_1 (0 : Int32) _ h) (cwV 2 hts gX5_covered_X5_of rfl rfl rfl hdX5_of ⟨(Nat.le_of_ble_eq_true rfl), (Nat.le_of_ble_eq_true rfl)⟩) (preV_R (r := (RX5, TX5, 16)) hK hP (ci := 5) (q0 := 0) rfl rfl) rfl rfl hl.1 rfl (lv_room (Nat.le_of_ble_eq_true rfl)) dX5_covered_3 ⟨(Nat.le_of_ble_eq_true rfl), (Nat.le_of_ble_eq_true rfl)⟩) (fun r3_1 h => ?_)
  refine lv_aload_n hx hb dX5_covered_6 rfl (lv_at hl 0 rfl) ?_
  refine lv_iload_n hx hb dX5_covered_7 rfl (lv_at hl 1 rfl) ?_
  refine lv_iconst (v := (2 : Int32)) hx hb dX5_covered_8 (by decide) ?_
  refine vp_callSi (W.runV (As := [.int a_1, .int (2 : Int32)]) (rest := [.int r3_1]) ⟨hx, hb, hml, hown, hts⟩ (kX5_of l g q b_m b_written b_spare b_spareWritten b_states b_fifth b_oldest b_stateCount b_text b_textLength b_at b_read b_columns b_told b_wants b_comes a_1 (2 : Int32) _ h) (cwV 2 hts gX5_covered_X5_of rfl rfl rfl hdX5_of ⟨(Nat.le_of_ble_eq_true rfl), (Nat.le_of_ble_eq_true rfl)⟩) (preV_R (r := (RX5, TX5, 16)) hK hP (ci := 5) (q0 := 0) rfl rfl) rfl rfl hl.1 rfl (lv_room (Nat.le_of_ble_eq_true rfl)) dX5_covered_9 ⟨(Nat.le_of_ble_eq_true rfl), (Nat.le_of_ble_eq_true rfl)⟩) (fun r9_2 h => ?_)
  refine lv_imul hx hb dX5_covered_12 ?_
  refine lv_sipush (v := (720 : Int32)) hx hb dX5_covered_13 (by decide) ?_
  refine vp_callSi (W.runS (As := [.int (r3_1 * r9_2), .int (720 : Int32)]) (rest := []) ⟨hx, hb, hml, hown, hts⟩ (kX5_lesser l g  (r3_1 * r9_2) (720 : Int32) _ h) (va_cwS 2 hts gX5_covered_X5_lesser rfl rfl rfl hdX5_lesser.2 ⟨(Nat.le_of_ble_eq_true rfl), (Nat.le_of_ble_eq_true rfl)⟩) (preS_R hK (va_P_nil (D := g.1) (cl := vwCl))) rfl rfl hl.1 rfl (lv_room (Nat.le_of_ble_eq_true rfl)) dX5_covered_16 ⟨(Nat.le_of_ble_eq_true rfl), (Nat.le_of_ble_eq_true rfl)⟩) (fun r16_3 h => ?_)
  exact W.iret hx hb hr (fun t ht hW => ⟨r16_3, rfl, h, ht⟩) (fun _ h9 => by cases h9) dX5_covered_19
theorem hdX5_columnOf : yX5_columnOf.cls = RX5 ∧ yX5_columnOf.cls ≠ "java/lang/invoke/MethodHandle" ∧ yX5_columnOf.cls ≠ "java/lang/invoke/VarHandle" ∧ (parseMethodDescriptor yX5_columnOf.desc).map (fun d => d.parameters.length) = some 2 := by decide +kernel
set_option maxHeartbeats 4000000 in
set_option maxRecDepth 100000 in
theorem kX5_columnOf (l : Launch) (g : GG) (q : Nat → Nat) (b_m : Nat → Int32) (b_written : Nat → Int32) (b_spare : Nat → Int32) (b_spareWritten : Nat → Int32) (b_states : Nat → Int32) (b_fifth : Nat → Int32) (b_oldest : Int32) (b_stateCount : Int32) (b_text : Nat → Int32) (b_textLength : Int32) (b_at : Int32) (b_read : Nat → Int32) (b_columns : Int32) (b_told : Int32) (b_wants : Nat → Int32) (b_comes : Nat → Int32) (a_1 : Int32) (a_2 : Int32) (k : Int32 → Prop) (h : PX5_columnOf b_m a_1 a_2 k) : Met l yX5_columnOf wsX5_columnOf ({ frames := 2, cells := 0, slots := 0, locals := 43 }) (PreR g [.ref (q 0), .int a_1, .int a_2] (wM g q b_m b_written b_spare b_spareWritten b_states b_fifth b_oldest b_stateCount b_text b_textLength b_at b_read b_columns b_told b_wants b_comes)) (vp_Si k) 0 0 (fun _ => False) := by
  refine Met.ofW (cc := cX5_columnOf) (maxL := 5) (ret := (some .int)) (by decide) rfl ?_
  intro p e s m args below meth c s₁ B hml hv
  obtain ⟨rfl, hP, hK⟩ := hv
  have hx := B.exec
  have hb := B.bytes
  have hr := B.returns
  have hts := atoms_spec (ws := wsX5_columnOf) B.pre
  have hown : s.vm.findClass RX5 = some m.cls := findClass_of_methodNamed B.named
  have hlocks := B.notSynchronized
  have hl := lv_entry ([.ref (q 0), .int a_1, .int a_2]) (n := 5) (Nat.le_of_ble_eq_true rfl)
  rw [lg_entry_eq]
  generalize (lg_sl ([.ref (q 0), .int a_1, .int a_2]) ++ List.replicate (5 - (lg_sl ([.ref (q 0), .int a_1, .int a_2])).length) Slot.unset).toArray = ls at hl ⊢
  have hl : lv_has ls 5 [(0, .ref (q 0)), (1, .int a_1), (2, .int a_2)] := hl
  unfold PX5_columnOf at h
  refine lv_iload_n hx hb dX5_columnOf_0 rfl (lv_at hl 2 rfl) ?_
  refine lv_aload_n hx hb dX5_columnOf_1 rfl (lv_at hl 0 rfl) ?_
  refine lv_iload_n hx hb dX5_columnOf_2 rfl (lv_at hl 1 rfl) ?_
  refine lv_iconst (v := (1 : Int32)) hx hb dX5_columnOf_3 (by decide) ?_
  refine vp_callSi (W.runV (As := [.int a_1, .int (1 : Int32)]) (rest := [.int a_2]) ⟨hx, hb, hml, hown, hts⟩ (kX5_of l g q b_m b_written b_spare b_spareWritten b_states b_fifth b_oldest b_stateCount b_text b_textLength b_at b_read b_columns b_told b_wants b_comes a_1 (1 : Int32) _ h) (cwV 2 hts gX5_columnOf_X5_of rfl rfl rfl hdX5_of ⟨(Nat.le_of_ble_eq_true rfl), (Nat.le_of_ble_eq_true rfl)⟩) (preV_R (r := (RX5, TX5, 16)) hK hP (ci := 5) (q0 := 0) rfl rfl) rfl rfl hl.1 rfl (lv_room (Nat.le_of_ble_eq_true rfl)) dX5_columnOf_4 ⟨(Nat.le_of_ble_eq_true rfl), (Nat.le_of_ble_eq_true rfl)⟩) (fun r4_1 h => ?_)
  refine lv_isub hx hb dX5_columnOf_7 ?_
  refine vp_callSi (W.runS (As := [.int (a_2 - r4_1)]) (rest := []) ⟨hx, hb, hml, hown, hts⟩ (kX5_around l g  (a_2 - r4_1) _ h) (va_cwS 1 hts gX5_columnOf_X5_around rfl rfl rfl hdX5_around.2 ⟨(Nat.le_of_ble_eq_true rfl), (Nat.le_of_ble_eq_true rfl)⟩) (preS_R hK (va_P_nil (D := g.1) (cl := vwCl))) rfl rfl hl.1 rfl (lv_room (Nat.le_of_ble_eq_true rfl)) dX5_columnOf_8 ⟨(Nat.le_of_ble_eq_true rfl), (Nat.le_of_ble_eq_true rfl)⟩) (fun r8_2 h => ?_)
  refine lv_istore_n (lv' := [(3, .int r8_2), (0, .ref (q 0)), (1, .int a_1), (2, .int a_2)]) hx hb dX5_columnOf_11 rfl hl (by decide) rfl (fun ls hl => ?_)
  refine lv_iload_n hx hb dX5_columnOf_12 rfl (lv_at hl 0 rfl) ?_
  refine lv_aload_n hx hb dX5_columnOf_13 rfl (lv_at hl 1 rfl) ?_
  refine lv_iload_n hx hb dX5_columnOf_14 rfl (lv_at hl 2 rfl) ?_
  refine vp_callSi (W.runV (As := [.int a_1]) (rest := [.int r8_2]) ⟨hx, hb, hml, hown, hts⟩ (kX5_covered l g q b_m b_written b_spare b_spareWritten b_states b_fifth b_oldest b_stateCount b_text b_textLength b_at b_read b_columns b_told b_wants b_comes a_1 _ h) (cwV 1 hts gX5_columnOf_X5_covered rfl rfl rfl hdX5_covered ⟨(Nat.le_of_ble_eq_true rfl), (Nat.le_of_ble_eq_true rfl)⟩) (preV_R (r := (RX5, TX5, 16)) hK hP (ci := 5) (q0 := 0) rfl rfl) rfl rfl hl.1 rfl (lv_room (Nat.le_of_ble_eq_true rfl)) dX5_columnOf_15 ⟨(Nat.le_of_ble_eq_true rfl), (Nat.le_of_ble_eq_true rfl)⟩) (fun r15_3 h => ?_)
  refine lv_icmp_lt (tgt := 24) hx hb dX5_columnOf_18 (by decide) (fun c_18_3 => ?_) (fun c_18_3 => ?_)
  · replace h := h.1 c_18_3
    refine lv_iload_n hx hb dX5_columnOf_24 rfl (lv_at hl 0 rfl) ?_
    refine lv_aload_n hx hb dX5_columnOf_25 rfl (lv_at hl 1 rfl) ?_
    refine lv_iload_n hx hb dX5_columnOf_26 rfl (lv_at hl 2 rfl) ?_
    refine lv_iconst (v := (2 : Int32)) hx hb dX5_columnOf_27 (by decide) ?_
    refine vp_callSi (W.runV (As := [.int a_1, .int (2 : Int32)]) (rest := [.int r8_2]) ⟨hx, hb, hml, hown, hts⟩ (kX5_of l g q b_m b_written b_spare b_spareWritten b_states b_fifth b_oldest b_stateCount b_text b_textLength b_at b_read b_columns b_told b_wants b_comes a_1 (2 : Int32) _ h) (cwV 2 hts gX5_columnOf_X5_of rfl rfl rfl hdX5_of ⟨(Nat.le_of_ble_eq_true rfl), (Nat.le_of_ble_eq_true rfl)⟩) (preV_R (r := (RX5, TX5, 16)) hK hP (ci := 5) (q0 := 0) rfl rfl) rfl rfl hl.1 rfl (lv_room (Nat.le_of_ble_eq_true rfl)) dX5_columnOf_28 ⟨(Nat.le_of_ble_eq_true rfl), (Nat.le_of_ble_eq_true rfl)⟩) (fun r28_5 h => ?_)
    have o_31_5 := h.1
    replace h := h.2
    refine lv_idiv hx hb dX5_columnOf_31 o_31_5 ?_
    refine lv_topi (fun v4_7 e_v4_7 => ?_)
    replace h := h v4_7 e_v4_7
    refine lv_istore (lv' := [(4, .int v4_7), (3, .int r8_2), (0, .ref (q 0)), (1, .int a_1), (2, .int a_2)]) hx hb dX5_columnOf_32 hl (by decide) rfl (fun ls hl => ?_)
    refine lv_aload_n hx hb dX5_columnOf_34 rfl (lv_at hl 2 rfl) ?_
    refine lv_iload_n hx hb dX5_columnOf_35 rfl (lv_at hl 3 rfl) ?_
    refine lv_iconst (v := (3 : Int32)) hx hb dX5_columnOf_36 (by decide) ?_
    refine vp_callSi (W.runV (As := [.int a_1, .int (3 : Int32)]) (rest := []) ⟨hx, hb, hml, hown, hts⟩ (kX5_of l g q b_m b_written b_spare b_spareWritten b_states b_fifth b_oldest b_stateCount b_text b_textLength b_at b_read b_columns b_told b_wants b_comes a_1 (3 : Int32) _ h) (cwV 2 hts gX5_columnOf_X5_of rfl rfl rfl hdX5_of ⟨(Nat.le_of_ble_eq_true rfl), (Nat.le_of_ble_eq_true rfl)⟩) (preV_R (r := (RX5, TX5, 16)) hK hP (ci := 5) (q0 := 0) rfl rfl) rfl rfl hl.1 rfl (lv_room (Nat.le_of_ble_eq_true rfl)) dX5_columnOf_37 ⟨(Nat.le_of_ble_eq_true rfl), (Nat.le_of_ble_eq_true rfl)⟩) (fun r37_8 h => ?_)
    refine lv_iconst (v := (1 : Int32)) hx hb dX5_columnOf_40 (by decide) ?_
    refine lv_icmp_ne (tgt := 58) hx hb dX5_columnOf_41 (by decide) (fun c_41_8 => ?_) (fun c_41_8 => ?_)
    · replace h := h.1 c_41_8
      refine lv_iload hx hb dX5_columnOf_58 (lv_at hl 0 rfl) ?_
      exact W.iret hx hb hr (fun t ht hW => ⟨v4_7, rfl, h, ht⟩) (fun _ h9 => by cases h9) dX5_columnOf_60
    · replace h := h.2 c_41_8
      refine lv_aload_n hx hb dX5_columnOf_44 rfl (lv_at hl 2 rfl) ?_
      refine lv_iload_n hx hb dX5_columnOf_45 rfl (lv_at hl 3 rfl) ?_
      refine lv_iconst (v := (0 : Int32)) hx hb dX5_columnOf_46 (by decide) ?_
      refine vp_callSi (W.runV (As := [.int a_1, .int (0 : Int32)]) (rest := []) ⟨hx, hb, hml, hown, hts⟩ (kX5_of l g q b_m b_written b_spare b_spareWritten b_states b_fifth b_oldest b_stateCount b_text b_textLength b_at b_read b_columns b_told b_wants b_comes a_1 (0 : Int32) _ h) (cwV 2 hts gX5_columnOf_X5_of rfl rfl rfl hdX5_of ⟨(Nat.le_of_ble_eq_true rfl), (Nat.le_of_ble_eq_true rfl)⟩) (preV_R (r := (RX5, TX5, 16)) hK hP (ci := 5) (q0 := 0) rfl rfl) rfl rfl hl.1 rfl (lv_room (Nat.le_of_ble_eq_true rfl)) dX5_columnOf_47 ⟨(Nat.le_of_ble_eq_true rfl), (Nat.le_of_ble_eq_true rfl)⟩) (fun r47_10 h => ?_)
      refine lv_iconst (v := (1 : Int32)) hx hb dX5_columnOf_50 (by decide) ?_
      refine lv_isub hx hb dX5_columnOf_51 ?_
      refine lv_iload hx hb dX5_columnOf_52 (lv_at hl 0 rfl) ?_
      refine lv_isub hx hb dX5_columnOf_54 ?_
      refine lv_goto (tgt := 60) hx hb dX5_columnOf_55 (by decide) ?_
      exact W.iret hx hb hr (fun t ht hW => ⟨((r47_10 - (1 : Int32)) - v4_7), rfl, h, ht⟩) (fun _ h9 => by cases h9) dX5_columnOf_60
  · replace h := h.2 c_18_3
    refine lv_bipush (v := (-109 : Int32)) hx hb dX5_columnOf_21 (by decide) ?_
    exact W.iret hx hb hr (fun t ht hW => ⟨(-109 : Int32), rfl, h, ht⟩) (fun _ h9 => by cases h9) dX5_columnOf_23
theorem hdX5_wanted : yX5_wanted.cls = RX5 ∧ yX5_wanted.cls ≠ "java/lang/invoke/MethodHandle" ∧ yX5_wanted.cls ≠ "java/lang/invoke/VarHandle" ∧ (parseMethodDescriptor yX5_wanted.desc).map (fun d => d.parameters.length) = some 2 := by decide +kernel
set_option maxHeartbeats 4000000 in
set_option maxRecDepth 100000 in
theorem kX5_wanted (l : Launch) (g : GG) (q : Nat → Nat) (b_m : Nat → Int32) (b_written : Nat → Int32) (b_spare : Nat → Int32) (b_spareWritten : Nat → Int32) (b_states : Nat → Int32) (b_fifth : Nat → Int32) (b_oldest : Int32) (b_stateCount : Int32) (b_text : Nat → Int32) (b_textLength : Int32) (b_at : Int32) (b_read : Nat → Int32) (b_columns : Int32) (b_told : Int32) (b_wants : Nat → Int32) (b_comes : Nat → Int32) (a_1 : Int32) (a_2 : Int32) (k : Int32 → Prop) (h : PX5_wanted b_m a_1 a_2 k) : Met l yX5_wanted wsX5_wanted ({ frames := 3, cells := 0, slots := 0, locals := 67 }) (PreR g [.ref (q 0), .int a_1, .int a_2] (wM g q b_m b_written b_spare b_spareWritten b_states b_fifth b_oldest b_stateCount b_text b_textLength b_at b_read b_columns b_told b_wants b_comes)) (vp_Si k) 0 0 (fun _ => False) := by
  refine Met.ofW (cc := cX5_wanted) (maxL := 6) (ret := (some .int)) (by decide) rfl ?_
  intro p e s m args below meth c s₁ B hml hv
  obtain ⟨rfl, hP, hK⟩ := hv
  have hx := B.exec
  have hb := B.bytes
  have hr := B.returns
  have hts := atoms_spec (ws := wsX5_wanted) B.pre
  have hown : s.vm.findClass RX5 = some m.cls := findClass_of_methodNamed B.named
  have hlocks := B.notSynchronized
  have iX5 : ∀ w ∈ wsX50, w ∈ wsX5_wanted := by decide +kernel
  have hl := lv_entry ([.ref (q 0), .int a_1, .int a_2]) (n := 6) (Nat.le_of_ble_eq_true rfl)
  rw [lg_entry_eq]
  generalize (lg_sl ([.ref (q 0), .int a_1, .int a_2]) ++ List.replicate (6 - (lg_sl ([.ref (q 0), .int a_1, .int a_2])).length) Slot.unset).toArray = ls at hl ⊢
  have hl : lv_has ls 6 [(0, .ref (q 0)), (1, .int a_1), (2, .int a_2)] := hl
  unfold PX5_wanted at h
  refine lv_iconst (v := (0 : Int32)) hx hb dX5_wanted_0 (by decide) ?_
  refine lv_istore_n (lv' := [(3, .int (0 : Int32)), (0, .ref (q 0)), (1, .int a_1), (2, .int a_2)]) hx hb dX5_wanted_1 rfl hl (by decide) rfl (fun ls hl => ?_)
  refine lv_iconst (v := (0 : Int32)) hx hb dX5_wanted_2 (by decide) ?_
  refine lv_istore (lv' := [(4, .int (0 : Int32)), (3, .int (0 : Int32)), (0, .ref (q 0)), (1, .int a_1), (2, .int a_2)]) hx hb dX5_wanted_3 hl (by decide) rfl (fun ls hl => ?_)
  have loop_1 : ∀ (kx_1 : Int32 → Int32 → Prop), (∀ (v3_1 : Int32) (v4_2 : Int32) (ls : Array Slot), kx_1 v3_1 v4_2 → lv_has ls 6 [(4, .int v4_2), (3, .int v3_1), (0, .ref (q 0)), (1, .int a_1), (2, .int a_2)] → W p l e (headSpec wsX5_wanted ({ frames := 3, cells := 0, slots := 0, locals := 67 })).room s m ([.ref (q 0), .int a_1, .int a_2] : List Value).toArray below meth c s.heap [] 0 0 (MQ below (vp_Si k) ([.ref (q 0), .int a_1, .int a_2] : List Value).toArray s 0 0 (fun _ => False)) (F0 m 71 ls [])) → ∀ (n_1 : Nat) (v3_1 : Int32) (v4_2 : Int32) (ls : Array Slot), PX5_wanted_L1 b_m a_1 a_2 kx_1 n_1 v3_1 v4_2 → lv_has ls 6 [(4, .int v4_2), (3, .int v3_1), (0, .ref (q 0)), (1, .int a_1), (2, .int a_2)] → W p l e (headSpec wsX5_wanted ({ frames := 3, cells := 0, slots := 0, locals := 67 })).room s m ([.ref (q 0), .int a_1, .int a_2] : List Value).toArray below meth c s.heap [] 0 0 (MQ below (vp_Si k) ([.ref (q 0), .int a_1, .int a_2] : List Value).toArray s 0 0 (fun _ => False)) (F0 m 5 ls []) := by
    intro kx_1 hexit_1 n_1
    induction n_1 with
    | zero => exact fun _ _ _ h _ => (h : False).elim
    | succ n_1 ih_1 =>
      intro v3_1 v4_2 ls h hl
      unfold PX5_wanted_L1 at h
      refine lv_iload hx hb dX5_wanted_5 (lv_at hl 0 rfl) ?_
      refine lv_aload_n hx hb dX5_wanted_7 rfl (lv_at hl 2 rfl) ?_
      refine va_get (D := g.1) (ci := 5) (v := .ref (q 1)) (C := RX5) (T := TX5) (N := 16) hx hb hts iX5 hown hK.1 hP 0 rfl rfl 0 (by decide) (hts (.fieldLink RX5 7 "LightWheelModel" "m" "[I") (by decide +kernel)) (fun _ h9 => h9) rfl dX5_wanted_8 ?_
      refine lv_bipush (v := (11 : Int32)) hx hb dX5_wanted_11 (by decide) ?_
      refine xr_iald hx hb hK.1 hP 1 0 rfl rfl 11 rfl (Nat.le_of_ble_eq_true rfl) (Nat.le_of_ble_eq_true rfl) dX5_wanted_13 ?_
      refine lv_icmp_ge (tgt := 71) hx hb dX5_wanted_14 (by decide) (fun c_14_2 => ?_) (fun c_14_2 => ?_)
      · replace h := h.1 c_14_2
        exact hexit_1 v3_1 v4_2 ls h (lv_sub hl [0, 1, 2, 3, 4] rfl)
      · replace h := h.2 c_14_2
        refine lv_aload_n hx hb dX5_wanted_17 rfl (lv_at hl 2 rfl) ?_
        refine lv_iload hx hb dX5_wanted_18 (lv_at hl 0 rfl) ?_
        refine lv_iconst (v := (3 : Int32)) hx hb dX5_wanted_20 (by decide) ?_
        refine vp_callSi (W.runV (As := [.int v4_2, .int (3 : Int32)]) (rest := []) ⟨hx, hb, hml, hown, hts⟩ (kX5_of l g q b_m b_written b_spare b_spareWritten b_states b_fifth b_oldest b_stateCount b_text b_textLength b_at b_read b_columns b_told b_wants b_comes v4_2 (3 : Int32) _ h) (cwV 2 hts gX5_wanted_X5_of rfl rfl rfl hdX5_of ⟨(Nat.le_of_ble_eq_true rfl), (Nat.le_of_ble_eq_true rfl)⟩) (preV_R (r := (RX5, TX5, 16)) hK hP (ci := 5) (q0 := 0) rfl rfl) rfl rfl hl.1 rfl (lv_room (Nat.le_of_ble_eq_true rfl)) dX5_wanted_21 ⟨(Nat.le_of_ble_eq_true rfl), (Nat.le_of_ble_eq_true rfl)⟩) (fun r21_4 h => ?_)
        refine lv_iconst (v := (2 : Int32)) hx hb dX5_wanted_24 (by decide) ?_
        refine lv_icmp_ne (tgt := 33) hx hb dX5_wanted_25 (by decide) (fun c_25_4 => ?_) (fun c_25_4 => ?_)
        · replace h := h.1 c_25_4
          refine lv_aload_n hx hb dX5_wanted_33 rfl (lv_at hl 2 rfl) ?_
          refine lv_iload hx hb dX5_wanted_34 (lv_at hl 0 rfl) ?_
          refine lv_iload_n hx hb dX5_wanted_36 rfl (lv_at hl 3 rfl) ?_
          refine vp_callSi (W.runV (As := [.int v4_2, .int a_1]) (rest := []) ⟨hx, hb, hml, hown, hts⟩ (kX5_columnOf l g q b_m b_written b_spare b_spareWritten b_states b_fifth b_oldest b_stateCount b_text b_textLength b_at b_read b_columns b_told b_wants b_comes v4_2 a_1 _ h) (cwV 2 hts gX5_wanted_X5_columnOf rfl rfl rfl hdX5_columnOf ⟨(Nat.le_of_ble_eq_true rfl), (Nat.le_of_ble_eq_true rfl)⟩) (preV_R (r := (RX5, TX5, 16)) hK hP (ci := 5) (q0 := 0) rfl rfl) rfl rfl hl.1 rfl (lv_room (Nat.le_of_ble_eq_true rfl)) dX5_wanted_37 ⟨(Nat.le_of_ble_eq_true rfl), (Nat.le_of_ble_eq_true rfl)⟩) (fun r37_6 h => ?_)
          refine lv_istore (lv' := [(5, .int r37_6), (4, .int v4_2), (3, .int v3_1), (0, .ref (q 0)), (1, .int a_1), (2, .int a_2)]) hx hb dX5_wanted_40 hl (by decide) rfl (fun ls hl => ?_)
          refine lv_iload_n hx hb dX5_wanted_42 rfl (lv_at hl 2 rfl) ?_
          refine lv_iload hx hb dX5_wanted_43 (lv_at hl 0 rfl) ?_
          refine lv_bipush (v := (-109 : Int32)) hx hb dX5_wanted_45 (by decide) ?_
          refine lv_icmp_ne (tgt := 54) hx hb dX5_wanted_47 (by decide) (fun c_47_6 => ?_) (fun c_47_6 => ?_)
          · replace h := h.1 c_47_6
            refine lv_aload_n hx hb dX5_wanted_54 rfl (lv_at hl 3 rfl) ?_
            refine lv_iload hx hb dX5_wanted_55 (lv_at hl 1 rfl) ?_
            refine lv_iload hx hb dX5_wanted_57 (lv_at hl 0 rfl) ?_
            refine lv_iload_n hx hb dX5_wanted_59 rfl (lv_at hl 5 rfl) ?_
            refine vp_callSi (W.runV (As := [.int v4_2, .int r37_6, .int a_2]) (rest := [.int v3_1]) ⟨hx, hb, hml, hown, hts⟩ (kX5_colorOf l g q b_m b_written b_spare b_spareWritten b_states b_fifth b_oldest b_stateCount b_text b_textLength b_at b_read b_columns b_told b_wants b_comes v4_2 r37_6 a_2 _ h) (cwV 3 hts gX5_wanted_X5_colorOf rfl rfl rfl hdX5_colorOf ⟨(Nat.le_of_ble_eq_true rfl), (Nat.le_of_ble_eq_true rfl)⟩) (preV_R (r := (RX5, TX5, 16)) hK hP (ci := 5) (q0 := 0) rfl rfl) rfl rfl hl.1 rfl (lv_room (Nat.le_of_ble_eq_true rfl)) dX5_wanted_60 ⟨(Nat.le_of_ble_eq_true rfl), (Nat.le_of_ble_eq_true rfl)⟩) (fun r60_8 h => ?_)
            refine lv_ior hx hb dX5_wanted_63 ?_
            refine lv_topi (fun v3_9 e_v3_9 => ?_)
            replace h := h v3_9 e_v3_9
            refine lv_istore_n (lv' := [(3, .int v3_9), (5, .int r37_6), (4, .int v4_2), (0, .ref (q 0)), (1, .int a_1), (2, .int a_2)]) hx hb dX5_wanted_64 rfl hl (by decide) rfl (fun ls hl => ?_)
            obtain ⟨v4_10, e_v4_10⟩ : ∃ y : Int32, y = v4_2 + (1 : Int32) := ⟨_, rfl⟩
            replace h := h v4_10 e_v4_10
            refine lv_iinc (v := v4_10) (lv' := [(4, .int v4_10), (3, .int v3_9), (5, .int r37_6), (0, .ref (q 0)), (1, .int a_1), (2, .int a_2)]) hx hb dX5_wanted_65 hl (k := 2) rfl (by rw [e_v4_10]; rfl) (by decide) rfl (fun ls hl => ?_)
            refine lv_goto (tgt := 5) hx hb dX5_wanted_68 (by decide) ?_
            exact ih_1 v3_9 v4_10 ls h (lv_sub hl [0, 1, 3, 4, 5] rfl)
          · replace h := h.2 c_47_6
            refine lv_iconst (v := (0 : Int32)) hx hb dX5_wanted_50 (by decide) ?_
            refine lv_goto (tgt := 63) hx hb dX5_wanted_51 (by decide) ?_
            refine lv_ior hx hb dX5_wanted_63 ?_
            refine lv_topi (fun v3_11 e_v3_11 => ?_)
            replace h := h v3_11 e_v3_11
            refine lv_istore_n (lv' := [(3, .int v3_11), (5, .int r37_6), (4, .int v4_2), (0, .ref (q 0)), (1, .int a_1), (2, .int a_2)]) hx hb dX5_wanted_64 rfl hl (by decide) rfl (fun ls hl => ?_)
            obtain ⟨v4_12, e_v4_12⟩ : ∃ y : Int32, y = v4_2 + (1 : Int32) := ⟨_, rfl⟩
            replace h := h v4_12 e_v4_12
            refine lv_iinc (v := v4_12) (lv' := [(4, .int v4_12), (3, .int v3_11), (5, .int r37_6), (0, .ref (q 0)), (1, .int a_1), (2, .int a_2)]) hx hb dX5_wanted_65 hl (k := 2) rfl (by rw [e_v4_12]; rfl) (by decide) rfl (fun ls hl => ?_)
            refine lv_goto (tgt := 5) hx hb dX5_wanted_68 (by decide) ?_
            exact ih_1 v3_11 v4_12 ls h (lv_sub hl [0, 1, 3, 4, 5] rfl)
        · replace h := h.2 c_25_4
          refine lv_bipush (v := (-109 : Int32)) hx hb dX5_wanted_28 (by decide) ?_
          refine lv_goto (tgt := 40) hx hb dX5_wanted_30 (by decide) ?_
          refine lv_istore (lv' := [(5, .int (-109 : Int32)), (4, .int v4_2), (3, .int v3_1), (0, .ref (q 0)), (1, .int a_1), (2, .int a_2)]) hx hb dX5_wanted_40 hl (by decide) rfl (fun ls hl => ?_)
          refine lv_iload_n hx hb dX5_wanted_42 rfl (lv_at hl 2 rfl) ?_
          refine lv_iload hx hb dX5_wanted_43 (lv_at hl 0 rfl) ?_
          refine lv_bipush (v := (-109 : Int32)) hx hb dX5_wanted_45 (by decide) ?_
          refine lv_icmp_ne (tgt := 54) hx hb dX5_wanted_47 (by decide) (fun c_47_12 => absurd c_47_12 (by decide)) (fun _ => ?_)
          refine lv_iconst (v := (0 : Int32)) hx hb dX5_wanted_50 (by decide) ?_
          refine lv_goto (tgt := 63) hx hb dX5_wanted_51 (by decide) ?_
          refine lv_ior hx hb dX5_wanted_63 ?_
          refine lv_topi (fun v3_14 e_v3_14 => ?_)
          replace h := h v3_14 e_v3_14
          refine lv_istore_n (lv' := [(3, .int v3_14), (5, .int (-109 : Int32)), (4, .int v4_2), (0, .ref (q 0)), (1, .int a_1), (2, .int a_2)]) hx hb dX5_wanted_64 rfl hl (by decide) rfl (fun ls hl => ?_)
          obtain ⟨v4_15, e_v4_15⟩ : ∃ y : Int32, y = v4_2 + (1 : Int32) := ⟨_, rfl⟩
          replace h := h v4_15 e_v4_15
          refine lv_iinc (v := v4_15) (lv' := [(4, .int v4_15), (3, .int v3_14), (5, .int (-109 : Int32)), (0, .ref (q 0)), (1, .int a_1), (2, .int a_2)]) hx hb dX5_wanted_65 hl (k := 2) rfl (by rw [e_v4_15]; rfl) (by decide) rfl (fun ls hl => ?_)
          refine lv_goto (tgt := 5) hx hb dX5_wanted_68 (by decide) ?_
          exact ih_1 v3_14 v4_15 ls h (lv_sub hl [0, 1, 3, 4, 5] rfl)
  obtain ⟨n_1, h⟩ := h
  refine loop_1 _ ?_ n_1 (0 : Int32) (0 : Int32) ls h (lv_sub hl [0, 1, 2, 3, 4] rfl)
  intro v3_1 v4_2 ls h hl
  refine lv_iload_n hx hb dX5_wanted_71 rfl (lv_at hl 1 rfl) ?_
  exact W.iret hx hb hr (fun t ht hW => ⟨v3_1, rfl, h, ht⟩) (fun _ h9 => by cases h9) dX5_wanted_72
end

-- ===== PART A: goes FIRST, ahead of the names: the tables' words, and 'selects' of the private methods out of them =====
/-- a private method of a class that the tables say can be made, by its rows of tables_1 -/
def lw_okq (q : MethodName × Nat) : Prop := (q.1.cls ≠ "java/lang/invoke/MethodHandle" ∧ q.1.cls ≠ "java/lang/invoke/VarHandle") ∧ Cond.instantiable q.1.cls q.2 ∈ tables_1 ∧ Cond.privateMethod q.1 ∈ tables_1 ∧ Cond.instanceMethod q.1 ∈ tables_1
theorem lw_p0 : lw_okq (⟨"JudgedTerms$Reader", "peek", "()I"⟩, 15) := ⟨⟨by decide +kernel, by decide +kernel⟩, List.mem_of_getElem? (i := 164) (by decide +kernel), List.mem_of_getElem? (i := 330) (by decide +kernel), List.mem_of_getElem? (i := 331) (by decide +kernel)⟩
theorem lw_p1 : lw_okq (⟨"JudgedTerms$Reader", "fail", "(I)Z"⟩, 15) := ⟨⟨by decide +kernel, by decide +kernel⟩, List.mem_of_getElem? (i := 164) (by decide +kernel), List.mem_of_getElem? (i := 334) (by decide +kernel), List.mem_of_getElem? (i := 335) (by decide +kernel)⟩
theorem lw_p2 : lw_okq (⟨"JudgedTerms$Reader", "readType", "(I)I"⟩, 15) := ⟨⟨by decide +kernel, by decide +kernel⟩, List.mem_of_getElem? (i := 164) (by decide +kernel), List.mem_of_getElem? (i := 338) (by decide +kernel), List.mem_of_getElem? (i := 339) (by decide +kernel)⟩
theorem lw_p3 : lw_okq (⟨"JudgedTerms$Reader", "refuse", "(I)I"⟩, 15) := ⟨⟨by decide +kernel, by decide +kernel⟩, List.mem_of_getElem? (i := 164) (by decide +kernel), List.mem_of_getElem? (i := 346) (by decide +kernel), List.mem_of_getElem? (i := 347) (by decide +kernel)⟩
theorem lw_p4 : lw_okq (⟨"JudgedTerms$Reader", "readBinder", "(III)I"⟩, 15) := ⟨⟨by decide +kernel, by decide +kernel⟩, List.mem_of_getElem? (i := 164) (by decide +kernel), List.mem_of_getElem? (i := 350) (by decide +kernel), List.mem_of_getElem? (i := 351) (by decide +kernel)⟩
theorem lw_p5 : lw_okq (⟨"JudgedTerms$Signs", "partsOf", "(I)I"⟩, 6) := ⟨⟨by decide +kernel, by decide +kernel⟩, List.mem_of_getElem? (i := 105) (by decide +kernel), List.mem_of_getElem? (i := 366) (by decide +kernel), List.mem_of_getElem? (i := 367) (by decide +kernel)⟩
theorem lw_p6 : lw_okq (⟨"JudgedTerms$Reader", "scope", "(I)I"⟩, 15) := ⟨⟨by decide +kernel, by decide +kernel⟩, List.mem_of_getElem? (i := 164) (by decide +kernel), List.mem_of_getElem? (i := 370) (by decide +kernel), List.mem_of_getElem? (i := 371) (by decide +kernel)⟩
theorem lw_p7 : lw_okq (⟨"JudgedTerms$Values", "make", "(III)I"⟩, 7) := ⟨⟨by decide +kernel, by decide +kernel⟩, List.mem_of_getElem? (i := 135) (by decide +kernel), List.mem_of_getElem? (i := 378) (by decide +kernel), List.mem_of_getElem? (i := 379) (by decide +kernel)⟩
theorem lw_p8 : lw_okq (⟨"JudgedTerms$Reader", "bind", "(II)I"⟩, 15) := ⟨⟨by decide +kernel, by decide +kernel⟩, List.mem_of_getElem? (i := 164) (by decide +kernel), List.mem_of_getElem? (i := 382) (by decide +kernel), List.mem_of_getElem? (i := 383) (by decide +kernel)⟩
theorem lw_p9 : lw_okq (⟨"JudgedTerms$Reader", "join", "(IIII)I"⟩, 15) := ⟨⟨by decide +kernel, by decide +kernel⟩, List.mem_of_getElem? (i := 164) (by decide +kernel), List.mem_of_getElem? (i := 394) (by decide +kernel), List.mem_of_getElem? (i := 395) (by decide +kernel)⟩
theorem lw_p10 : lw_okq (⟨"JudgedTerms$Writer", "put", "(I)V"⟩, 4) := ⟨⟨by decide +kernel, by decide +kernel⟩, List.mem_of_getElem? (i := 166) (by decide +kernel), List.mem_of_getElem? (i := 406) (by decide +kernel), List.mem_of_getElem? (i := 407) (by decide +kernel)⟩
theorem lw_p11 : lw_okq (⟨"JudgedTerms$Writer", "putCopy", "(I)V"⟩, 4) := ⟨⟨by decide +kernel, by decide +kernel⟩, List.mem_of_getElem? (i := 166) (by decide +kernel), List.mem_of_getElem? (i := 411) (by decide +kernel), List.mem_of_getElem? (i := 412) (by decide +kernel)⟩
theorem lw_p12 : lw_okq (⟨"JudgedTerms$Reader", "checkTerm", "(II)I"⟩, 15) := ⟨⟨by decide +kernel, by decide +kernel⟩, List.mem_of_getElem? (i := 164) (by decide +kernel), List.mem_of_getElem? (i := 425) (by decide +kernel), List.mem_of_getElem? (i := 426) (by decide +kernel)⟩
theorem lw_p13 : lw_okq (⟨"JudgedTerms$Reader", "readPair", "(II)I"⟩, 15) := ⟨⟨by decide +kernel, by decide +kernel⟩, List.mem_of_getElem? (i := 164) (by decide +kernel), List.mem_of_getElem? (i := 442) (by decide +kernel), List.mem_of_getElem? (i := 443) (by decide +kernel)⟩
theorem lw_p14 : lw_okq (⟨"JudgedTerms$Values", "evaluate", "(III)I"⟩, 7) := ⟨⟨by decide +kernel, by decide +kernel⟩, List.mem_of_getElem? (i := 135) (by decide +kernel), List.mem_of_getElem? (i := 455) (by decide +kernel), List.mem_of_getElem? (i := 456) (by decide +kernel)⟩
theorem lw_p15 : lw_okq (⟨"JudgedTerms$Values", "apply", "(III)I"⟩, 7) := ⟨⟨by decide +kernel, by decide +kernel⟩, List.mem_of_getElem? (i := 135) (by decide +kernel), List.mem_of_getElem? (i := 469) (by decide +kernel), List.mem_of_getElem? (i := 470) (by decide +kernel)⟩
def lw_privs_1 : List (MethodName × Nat) := [(⟨"JudgedTerms$Reader", "peek", "()I"⟩, 15), (⟨"JudgedTerms$Reader", "fail", "(I)Z"⟩, 15), (⟨"JudgedTerms$Reader", "readType", "(I)I"⟩, 15), (⟨"JudgedTerms$Reader", "refuse", "(I)I"⟩, 15), (⟨"JudgedTerms$Reader", "readBinder", "(III)I"⟩, 15), (⟨"JudgedTerms$Signs", "partsOf", "(I)I"⟩, 6), (⟨"JudgedTerms$Reader", "scope", "(I)I"⟩, 15), (⟨"JudgedTerms$Values", "make", "(III)I"⟩, 7), (⟨"JudgedTerms$Reader", "bind", "(II)I"⟩, 15), (⟨"JudgedTerms$Reader", "join", "(IIII)I"⟩, 15), (⟨"JudgedTerms$Writer", "put", "(I)V"⟩, 4), (⟨"JudgedTerms$Writer", "putCopy", "(I)V"⟩, 4), (⟨"JudgedTerms$Reader", "checkTerm", "(II)I"⟩, 15), (⟨"JudgedTerms$Reader", "readPair", "(II)I"⟩, 15), (⟨"JudgedTerms$Values", "evaluate", "(III)I"⟩, 7), (⟨"JudgedTerms$Values", "apply", "(III)I"⟩, 7)]
theorem lw_r1 : ∀ q ∈ lw_privs_1, lw_okq q := List.forall_mem_cons.mpr ⟨lw_p0, List.forall_mem_cons.mpr ⟨lw_p1, List.forall_mem_cons.mpr ⟨lw_p2, List.forall_mem_cons.mpr ⟨lw_p3, List.forall_mem_cons.mpr ⟨lw_p4, List.forall_mem_cons.mpr ⟨lw_p5, List.forall_mem_cons.mpr ⟨lw_p6, List.forall_mem_cons.mpr ⟨lw_p7, List.forall_mem_cons.mpr ⟨lw_p8, List.forall_mem_cons.mpr ⟨lw_p9, List.forall_mem_cons.mpr ⟨lw_p10, List.forall_mem_cons.mpr ⟨lw_p11, List.forall_mem_cons.mpr ⟨lw_p12, List.forall_mem_cons.mpr ⟨lw_p13, List.forall_mem_cons.mpr ⟨lw_p14, List.forall_mem_cons.mpr ⟨lw_p15, fun _ h => absurd h List.not_mem_nil⟩⟩⟩⟩⟩⟩⟩⟩⟩⟩⟩⟩⟩⟩⟩⟩
theorem lw_p16 : lw_okq (⟨"JudgedTerms$Reader", "readFunction", "(II)I"⟩, 15) := ⟨⟨by decide +kernel, by decide +kernel⟩, List.mem_of_getElem? (i := 164) (by decide +kernel), List.mem_of_getElem? (i := 490) (by decide +kernel), List.mem_of_getElem? (i := 491) (by decide +kernel)⟩
theorem lw_p17 : lw_okq (⟨"JudgedTerms$Reader", "checkInferred", "(II)I"⟩, 15) := ⟨⟨by decide +kernel, by decide +kernel⟩, List.mem_of_getElem? (i := 164) (by decide +kernel), List.mem_of_getElem? (i := 494) (by decide +kernel), List.mem_of_getElem? (i := 495) (by decide +kernel)⟩
theorem lw_p18 : lw_okq (⟨"JudgedTerms$Reader", "inferTerm", "(I)I"⟩, 15) := ⟨⟨by decide +kernel, by decide +kernel⟩, List.mem_of_getElem? (i := 164) (by decide +kernel), List.mem_of_getElem? (i := 498) (by decide +kernel), List.mem_of_getElem? (i := 499) (by decide +kernel)⟩
theorem lw_p19 : lw_okq (⟨"JudgedTerms$Reader", "readEntry", "()Z"⟩, 15) := ⟨⟨by decide +kernel, by decide +kernel⟩, List.mem_of_getElem? (i := 164) (by decide +kernel), List.mem_of_getElem? (i := 502) (by decide +kernel), List.mem_of_getElem? (i := 503) (by decide +kernel)⟩
theorem lw_p20 : lw_okq (⟨"JudgedTerms$Reader", "hasRead", "(II)Z"⟩, 15) := ⟨⟨by decide +kernel, by decide +kernel⟩, List.mem_of_getElem? (i := 164) (by decide +kernel), List.mem_of_getElem? (i := 511) (by decide +kernel), List.mem_of_getElem? (i := 512) (by decide +kernel)⟩
theorem lw_p21 : lw_okq (⟨"JudgedTerms$Reader", "readAnnotated", "(I)Z"⟩, 15) := ⟨⟨by decide +kernel, by decide +kernel⟩, List.mem_of_getElem? (i := 164) (by decide +kernel), List.mem_of_getElem? (i := 515) (by decide +kernel), List.mem_of_getElem? (i := 516) (by decide +kernel)⟩
theorem lw_p22 : lw_okq (⟨"JudgedTerms$Reader", "readApplied", "(I)Z"⟩, 15) := ⟨⟨by decide +kernel, by decide +kernel⟩, List.mem_of_getElem? (i := 164) (by decide +kernel), List.mem_of_getElem? (i := 519) (by decide +kernel), List.mem_of_getElem? (i := 520) (by decide +kernel)⟩
theorem lw_p23 : lw_okq (⟨"JudgedTerms$Reader", "readComponent", "(I)Z"⟩, 15) := ⟨⟨by decide +kernel, by decide +kernel⟩, List.mem_of_getElem? (i := 164) (by decide +kernel), List.mem_of_getElem? (i := 524) (by decide +kernel), List.mem_of_getElem? (i := 525) (by decide +kernel)⟩
theorem lw_p24 : lw_okq (⟨"JudgedTerms$Reader", "readName", "(I)Z"⟩, 15) := ⟨⟨by decide +kernel, by decide +kernel⟩, List.mem_of_getElem? (i := 164) (by decide +kernel), List.mem_of_getElem? (i := 530) (by decide +kernel), List.mem_of_getElem? (i := 531) (by decide +kernel)⟩
theorem lw_p25 : lw_okq (⟨"JudgedTerms$Writer", "putType", "(II)V"⟩, 4) := ⟨⟨by decide +kernel, by decide +kernel⟩, List.mem_of_getElem? (i := 166) (by decide +kernel), List.mem_of_getElem? (i := 550) (by decide +kernel), List.mem_of_getElem? (i := 551) (by decide +kernel)⟩
theorem lw_p26 : lw_okq (⟨"JudgedTerms$Writer", "bound", "(II)I"⟩, 4) := ⟨⟨by decide +kernel, by decide +kernel⟩, List.mem_of_getElem? (i := 166) (by decide +kernel), List.mem_of_getElem? (i := 557) (by decide +kernel), List.mem_of_getElem? (i := 558) (by decide +kernel)⟩
theorem lw_p27 : lw_okq (⟨"JudgedTerms$Writer", "putTerm", "(III)V"⟩, 4) := ⟨⟨by decide +kernel, by decide +kernel⟩, List.mem_of_getElem? (i := 166) (by decide +kernel), List.mem_of_getElem? (i := 568) (by decide +kernel), List.mem_of_getElem? (i := 569) (by decide +kernel)⟩
theorem lw_p28 : lw_okq (⟨"JudgedTerms$Writer", "putLeft", "(II)I"⟩, 4) := ⟨⟨by decide +kernel, by decide +kernel⟩, List.mem_of_getElem? (i := 166) (by decide +kernel), List.mem_of_getElem? (i := 575) (by decide +kernel), List.mem_of_getElem? (i := 576) (by decide +kernel)⟩
theorem lw_p29 : lw_okq (⟨"JudgedTerms$Reader", "readEnd", "()Z"⟩, 15) := ⟨⟨by decide +kernel, by decide +kernel⟩, List.mem_of_getElem? (i := 164) (by decide +kernel), List.mem_of_getElem? (i := 668) (by decide +kernel), List.mem_of_getElem? (i := 669) (by decide +kernel)⟩
theorem lw_p30 : lw_okq (⟨"JudgedTermsModel", "lays", "(IIII)I"⟩, 62) := ⟨⟨by decide +kernel, by decide +kernel⟩, List.mem_of_getElem? (i := 800) (by decide +kernel), List.mem_of_getElem? (i := 806) (by decide +kernel), List.mem_of_getElem? (i := 807) (by decide +kernel)⟩
theorem lw_p31 : lw_okq (⟨"JudgedTermsModel", "readsLaws", "()I"⟩, 62) := ⟨⟨by decide +kernel, by decide +kernel⟩, List.mem_of_getElem? (i := 800) (by decide +kernel), List.mem_of_getElem? (i := 1013) (by decide +kernel), List.mem_of_getElem? (i := 1014) (by decide +kernel)⟩
def lw_privs_2 : List (MethodName × Nat) := [(⟨"JudgedTerms$Reader", "readFunction", "(II)I"⟩, 15), (⟨"JudgedTerms$Reader", "checkInferred", "(II)I"⟩, 15), (⟨"JudgedTerms$Reader", "inferTerm", "(I)I"⟩, 15), (⟨"JudgedTerms$Reader", "readEntry", "()Z"⟩, 15), (⟨"JudgedTerms$Reader", "hasRead", "(II)Z"⟩, 15), (⟨"JudgedTerms$Reader", "readAnnotated", "(I)Z"⟩, 15), (⟨"JudgedTerms$Reader", "readApplied", "(I)Z"⟩, 15), (⟨"JudgedTerms$Reader", "readComponent", "(I)Z"⟩, 15), (⟨"JudgedTerms$Reader", "readName", "(I)Z"⟩, 15), (⟨"JudgedTerms$Writer", "putType", "(II)V"⟩, 4), (⟨"JudgedTerms$Writer", "bound", "(II)I"⟩, 4), (⟨"JudgedTerms$Writer", "putTerm", "(III)V"⟩, 4), (⟨"JudgedTerms$Writer", "putLeft", "(II)I"⟩, 4), (⟨"JudgedTerms$Reader", "readEnd", "()Z"⟩, 15), (⟨"JudgedTermsModel", "lays", "(IIII)I"⟩, 62), (⟨"JudgedTermsModel", "readsLaws", "()I"⟩, 62)]
theorem lw_r2 : ∀ q ∈ lw_privs_2, lw_okq q := List.forall_mem_cons.mpr ⟨lw_p16, List.forall_mem_cons.mpr ⟨lw_p17, List.forall_mem_cons.mpr ⟨lw_p18, List.forall_mem_cons.mpr ⟨lw_p19, List.forall_mem_cons.mpr ⟨lw_p20, List.forall_mem_cons.mpr ⟨lw_p21, List.forall_mem_cons.mpr ⟨lw_p22, List.forall_mem_cons.mpr ⟨lw_p23, List.forall_mem_cons.mpr ⟨lw_p24, List.forall_mem_cons.mpr ⟨lw_p25, List.forall_mem_cons.mpr ⟨lw_p26, List.forall_mem_cons.mpr ⟨lw_p27, List.forall_mem_cons.mpr ⟨lw_p28, List.forall_mem_cons.mpr ⟨lw_p29, List.forall_mem_cons.mpr ⟨lw_p30, List.forall_mem_cons.mpr ⟨lw_p31, fun _ h => absurd h List.not_mem_nil⟩⟩⟩⟩⟩⟩⟩⟩⟩⟩⟩⟩⟩⟩⟩⟩
theorem lw_p32 : lw_okq (⟨"JudgedTermsModel", "starts", "()V"⟩, 62) := ⟨⟨by decide +kernel, by decide +kernel⟩, List.mem_of_getElem? (i := 800) (by decide +kernel), List.mem_of_getElem? (i := 1017) (by decide +kernel), List.mem_of_getElem? (i := 1018) (by decide +kernel)⟩
theorem lw_p33 : lw_okq (⟨"JudgedTermsModel", "here", "()I"⟩, 62) := ⟨⟨by decide +kernel, by decide +kernel⟩, List.mem_of_getElem? (i := 800) (by decide +kernel), List.mem_of_getElem? (i := 1021) (by decide +kernel), List.mem_of_getElem? (i := 1022) (by decide +kernel)⟩
theorem lw_p34 : lw_okq (⟨"JudgedTermsModel", "nextFamily", "()V"⟩, 62) := ⟨⟨by decide +kernel, by decide +kernel⟩, List.mem_of_getElem? (i := 800) (by decide +kernel), List.mem_of_getElem? (i := 1025) (by decide +kernel), List.mem_of_getElem? (i := 1026) (by decide +kernel)⟩
theorem lw_p35 : lw_okq (⟨"JudgedTermsModel", "fails", "(I)V"⟩, 62) := ⟨⟨by decide +kernel, by decide +kernel⟩, List.mem_of_getElem? (i := 800) (by decide +kernel), List.mem_of_getElem? (i := 1029) (by decide +kernel), List.mem_of_getElem? (i := 1030) (by decide +kernel)⟩
theorem lw_p36 : lw_okq (⟨"JudgedTermsModel", "wholeType", "()I"⟩, 62) := ⟨⟨by decide +kernel, by decide +kernel⟩, List.mem_of_getElem? (i := 800) (by decide +kernel), List.mem_of_getElem? (i := 1033) (by decide +kernel), List.mem_of_getElem? (i := 1034) (by decide +kernel)⟩
theorem lw_p37 : lw_okq (⟨"JudgedTermsModel", "dueType", "()V"⟩, 62) := ⟨⟨by decide +kernel, by decide +kernel⟩, List.mem_of_getElem? (i := 800) (by decide +kernel), List.mem_of_getElem? (i := 1037) (by decide +kernel), List.mem_of_getElem? (i := 1038) (by decide +kernel)⟩
theorem lw_p38 : lw_okq (⟨"JudgedTermsModel", "readsWhole", "()V"⟩, 62) := ⟨⟨by decide +kernel, by decide +kernel⟩, List.mem_of_getElem? (i := 800) (by decide +kernel), List.mem_of_getElem? (i := 1041) (by decide +kernel), List.mem_of_getElem? (i := 1042) (by decide +kernel)⟩
theorem lw_p39 : lw_okq (⟨"JudgedTermsModel", "reads", "()V"⟩, 62) := ⟨⟨by decide +kernel, by decide +kernel⟩, List.mem_of_getElem? (i := 800) (by decide +kernel), List.mem_of_getElem? (i := 1045) (by decide +kernel), List.mem_of_getElem? (i := 1046) (by decide +kernel)⟩
theorem lw_p40 : lw_okq (⟨"JudgedTermsModel", "readsType", "(I)V"⟩, 62) := ⟨⟨by decide +kernel, by decide +kernel⟩, List.mem_of_getElem? (i := 800) (by decide +kernel), List.mem_of_getElem? (i := 1049) (by decide +kernel), List.mem_of_getElem? (i := 1050) (by decide +kernel)⟩
theorem lw_p41 : lw_okq (⟨"JudgedTermsModel", "begins", "(II)V"⟩, 62) := ⟨⟨by decide +kernel, by decide +kernel⟩, List.mem_of_getElem? (i := 800) (by decide +kernel), List.mem_of_getElem? (i := 1053) (by decide +kernel), List.mem_of_getElem? (i := 1054) (by decide +kernel)⟩
theorem lw_p42 : lw_okq (⟨"JudgedTermsModel", "dueTerm", "(IIII)V"⟩, 62) := ⟨⟨by decide +kernel, by decide +kernel⟩, List.mem_of_getElem? (i := 800) (by decide +kernel), List.mem_of_getElem? (i := 1060) (by decide +kernel), List.mem_of_getElem? (i := 1061) (by decide +kernel)⟩
theorem lw_p43 : lw_okq (⟨"JudgedTermsModel", "puts", "(I)V"⟩, 62) := ⟨⟨by decide +kernel, by decide +kernel⟩, List.mem_of_getElem? (i := 800) (by decide +kernel), List.mem_of_getElem? (i := 1064) (by decide +kernel), List.mem_of_getElem? (i := 1065) (by decide +kernel)⟩
theorem lw_p44 : lw_okq (⟨"JudgedTermsModel", "endsType", "(II)V"⟩, 62) := ⟨⟨by decide +kernel, by decide +kernel⟩, List.mem_of_getElem? (i := 800) (by decide +kernel), List.mem_of_getElem? (i := 1068) (by decide +kernel), List.mem_of_getElem? (i := 1069) (by decide +kernel)⟩
theorem lw_p45 : lw_okq (⟨"JudgedTermsModel", "longOf", "(I)I"⟩, 62) := ⟨⟨by decide +kernel, by decide +kernel⟩, List.mem_of_getElem? (i := 800) (by decide +kernel), List.mem_of_getElem? (i := 1072) (by decide +kernel), List.mem_of_getElem? (i := 1073) (by decide +kernel)⟩
theorem lw_p46 : lw_okq (⟨"JudgedTermsModel", "behind", "(I)I"⟩, 62) := ⟨⟨by decide +kernel, by decide +kernel⟩, List.mem_of_getElem? (i := 800) (by decide +kernel), List.mem_of_getElem? (i := 1076) (by decide +kernel), List.mem_of_getElem? (i := 1077) (by decide +kernel)⟩
theorem lw_p47 : lw_okq (⟨"JudgedTermsModel", "partsOf", "(I)I"⟩, 62) := ⟨⟨by decide +kernel, by decide +kernel⟩, List.mem_of_getElem? (i := 800) (by decide +kernel), List.mem_of_getElem? (i := 1080) (by decide +kernel), List.mem_of_getElem? (i := 1081) (by decide +kernel)⟩
def lw_privs_3 : List (MethodName × Nat) := [(⟨"JudgedTermsModel", "starts", "()V"⟩, 62), (⟨"JudgedTermsModel", "here", "()I"⟩, 62), (⟨"JudgedTermsModel", "nextFamily", "()V"⟩, 62), (⟨"JudgedTermsModel", "fails", "(I)V"⟩, 62), (⟨"JudgedTermsModel", "wholeType", "()I"⟩, 62), (⟨"JudgedTermsModel", "dueType", "()V"⟩, 62), (⟨"JudgedTermsModel", "readsWhole", "()V"⟩, 62), (⟨"JudgedTermsModel", "reads", "()V"⟩, 62), (⟨"JudgedTermsModel", "readsType", "(I)V"⟩, 62), (⟨"JudgedTermsModel", "begins", "(II)V"⟩, 62), (⟨"JudgedTermsModel", "dueTerm", "(IIII)V"⟩, 62), (⟨"JudgedTermsModel", "puts", "(I)V"⟩, 62), (⟨"JudgedTermsModel", "endsType", "(II)V"⟩, 62), (⟨"JudgedTermsModel", "longOf", "(I)I"⟩, 62), (⟨"JudgedTermsModel", "behind", "(I)I"⟩, 62), (⟨"JudgedTermsModel", "partsOf", "(I)I"⟩, 62)]
theorem lw_r3 : ∀ q ∈ lw_privs_3, lw_okq q := List.forall_mem_cons.mpr ⟨lw_p32, List.forall_mem_cons.mpr ⟨lw_p33, List.forall_mem_cons.mpr ⟨lw_p34, List.forall_mem_cons.mpr ⟨lw_p35, List.forall_mem_cons.mpr ⟨lw_p36, List.forall_mem_cons.mpr ⟨lw_p37, List.forall_mem_cons.mpr ⟨lw_p38, List.forall_mem_cons.mpr ⟨lw_p39, List.forall_mem_cons.mpr ⟨lw_p40, List.forall_mem_cons.mpr ⟨lw_p41, List.forall_mem_cons.mpr ⟨lw_p42, List.forall_mem_cons.mpr ⟨lw_p43, List.forall_mem_cons.mpr ⟨lw_p44, List.forall_mem_cons.mpr ⟨lw_p45, List.forall_mem_cons.mpr ⟨lw_p46, List.forall_mem_cons.mpr ⟨lw_p47, fun _ h => absurd h List.not_mem_nil⟩⟩⟩⟩⟩⟩⟩⟩⟩⟩⟩⟩⟩⟩⟩⟩
theorem lw_p48 : lw_okq (⟨"JudgedTermsModel", "readsEntry", "()V"⟩, 62) := ⟨⟨by decide +kernel, by decide +kernel⟩, List.mem_of_getElem? (i := 800) (by decide +kernel), List.mem_of_getElem? (i := 1084) (by decide +kernel), List.mem_of_getElem? (i := 1085) (by decide +kernel)⟩
theorem lw_p49 : lw_okq (⟨"JudgedTermsModel", "typeNow", "(II)I"⟩, 62) := ⟨⟨by decide +kernel, by decide +kernel⟩, List.mem_of_getElem? (i := 800) (by decide +kernel), List.mem_of_getElem? (i := 1088) (by decide +kernel), List.mem_of_getElem? (i := 1089) (by decide +kernel)⟩
theorem lw_p50 : lw_okq (⟨"JudgedTermsModel", "typeBy", "(IIII)I"⟩, 62) := ⟨⟨by decide +kernel, by decide +kernel⟩, List.mem_of_getElem? (i := 800) (by decide +kernel), List.mem_of_getElem? (i := 1092) (by decide +kernel), List.mem_of_getElem? (i := 1093) (by decide +kernel)⟩
theorem lw_p51 : lw_okq (⟨"JudgedTermsModel", "with", "(III)I"⟩, 62) := ⟨⟨by decide +kernel, by decide +kernel⟩, List.mem_of_getElem? (i := 800) (by decide +kernel), List.mem_of_getElem? (i := 1096) (by decide +kernel), List.mem_of_getElem? (i := 1097) (by decide +kernel)⟩
theorem lw_p52 : lw_okq (⟨"JudgedTermsModel", "checks", "(I)V"⟩, 62) := ⟨⟨by decide +kernel, by decide +kernel⟩, List.mem_of_getElem? (i := 800) (by decide +kernel), List.mem_of_getElem? (i := 1103) (by decide +kernel), List.mem_of_getElem? (i := 1104) (by decide +kernel)⟩
theorem lw_p53 : lw_okq (⟨"JudgedTermsModel", "works", "(III)I"⟩, 62) := ⟨⟨by decide +kernel, by decide +kernel⟩, List.mem_of_getElem? (i := 800) (by decide +kernel), List.mem_of_getElem? (i := 1107) (by decide +kernel), List.mem_of_getElem? (i := 1108) (by decide +kernel)⟩
theorem lw_p54 : lw_okq (⟨"JudgedTermsModel", "valueAt", "(III)I"⟩, 62) := ⟨⟨by decide +kernel, by decide +kernel⟩, List.mem_of_getElem? (i := 800) (by decide +kernel), List.mem_of_getElem? (i := 1114) (by decide +kernel), List.mem_of_getElem? (i := 1115) (by decide +kernel)⟩
theorem lw_p55 : lw_okq (⟨"JudgedTermsModel", "taken", "(II)I"⟩, 62) := ⟨⟨by decide +kernel, by decide +kernel⟩, List.mem_of_getElem? (i := 800) (by decide +kernel), List.mem_of_getElem? (i := 1118) (by decide +kernel), List.mem_of_getElem? (i := 1119) (by decide +kernel)⟩
theorem lw_p56 : lw_okq (⟨"JudgedTermsModel", "sortOf", "(I)I"⟩, 62) := ⟨⟨by decide +kernel, by decide +kernel⟩, List.mem_of_getElem? (i := 800) (by decide +kernel), List.mem_of_getElem? (i := 1122) (by decide +kernel), List.mem_of_getElem? (i := 1123) (by decide +kernel)⟩
theorem lw_p57 : lw_okq (⟨"JudgedTermsModel", "aOf", "(I)I"⟩, 62) := ⟨⟨by decide +kernel, by decide +kernel⟩, List.mem_of_getElem? (i := 800) (by decide +kernel), List.mem_of_getElem? (i := 1127) (by decide +kernel), List.mem_of_getElem? (i := 1128) (by decide +kernel)⟩
theorem lw_p58 : lw_okq (⟨"JudgedTermsModel", "bOf", "(I)I"⟩, 62) := ⟨⟨by decide +kernel, by decide +kernel⟩, List.mem_of_getElem? (i := 800) (by decide +kernel), List.mem_of_getElem? (i := 1132) (by decide +kernel), List.mem_of_getElem? (i := 1133) (by decide +kernel)⟩
theorem lw_p59 : lw_okq (⟨"JudgedTermsModel", "gives", "(II)I"⟩, 62) := ⟨⟨by decide +kernel, by decide +kernel⟩, List.mem_of_getElem? (i := 800) (by decide +kernel), List.mem_of_getElem? (i := 1136) (by decide +kernel), List.mem_of_getElem? (i := 1137) (by decide +kernel)⟩
theorem lw_p60 : lw_okq (⟨"JudgedTermsModel", "levelOf", "(I)I"⟩, 62) := ⟨⟨by decide +kernel, by decide +kernel⟩, List.mem_of_getElem? (i := 800) (by decide +kernel), List.mem_of_getElem? (i := 1140) (by decide +kernel), List.mem_of_getElem? (i := 1141) (by decide +kernel)⟩
theorem lw_p61 : lw_okq (⟨"JudgedTermsModel", "worksData", "(III)I"⟩, 62) := ⟨⟨by decide +kernel, by decide +kernel⟩, List.mem_of_getElem? (i := 800) (by decide +kernel), List.mem_of_getElem? (i := 1144) (by decide +kernel), List.mem_of_getElem? (i := 1145) (by decide +kernel)⟩
theorem lw_p62 : lw_okq (⟨"JudgedTermsModel", "tells", "(III)V"⟩, 62) := ⟨⟨by decide +kernel, by decide +kernel⟩, List.mem_of_getElem? (i := 800) (by decide +kernel), List.mem_of_getElem? (i := 1148) (by decide +kernel), List.mem_of_getElem? (i := 1149) (by decide +kernel)⟩
theorem lw_p63 : lw_okq (⟨"JudgedTermsModel", "tellsSign", "(II)V"⟩, 62) := ⟨⟨by decide +kernel, by decide +kernel⟩, List.mem_of_getElem? (i := 800) (by decide +kernel), List.mem_of_getElem? (i := 1152) (by decide +kernel), List.mem_of_getElem? (i := 1153) (by decide +kernel)⟩
def lw_privs_4 : List (MethodName × Nat) := [(⟨"JudgedTermsModel", "readsEntry", "()V"⟩, 62), (⟨"JudgedTermsModel", "typeNow", "(II)I"⟩, 62), (⟨"JudgedTermsModel", "typeBy", "(IIII)I"⟩, 62), (⟨"JudgedTermsModel", "with", "(III)I"⟩, 62), (⟨"JudgedTermsModel", "checks", "(I)V"⟩, 62), (⟨"JudgedTermsModel", "works", "(III)I"⟩, 62), (⟨"JudgedTermsModel", "valueAt", "(III)I"⟩, 62), (⟨"JudgedTermsModel", "taken", "(II)I"⟩, 62), (⟨"JudgedTermsModel", "sortOf", "(I)I"⟩, 62), (⟨"JudgedTermsModel", "aOf", "(I)I"⟩, 62), (⟨"JudgedTermsModel", "bOf", "(I)I"⟩, 62), (⟨"JudgedTermsModel", "gives", "(II)I"⟩, 62), (⟨"JudgedTermsModel", "levelOf", "(I)I"⟩, 62), (⟨"JudgedTermsModel", "worksData", "(III)I"⟩, 62), (⟨"JudgedTermsModel", "tells", "(III)V"⟩, 62), (⟨"JudgedTermsModel", "tellsSign", "(II)V"⟩, 62)]
theorem lw_r4 : ∀ q ∈ lw_privs_4, lw_okq q := List.forall_mem_cons.mpr ⟨lw_p48, List.forall_mem_cons.mpr ⟨lw_p49, List.forall_mem_cons.mpr ⟨lw_p50, List.forall_mem_cons.mpr ⟨lw_p51, List.forall_mem_cons.mpr ⟨lw_p52, List.forall_mem_cons.mpr ⟨lw_p53, List.forall_mem_cons.mpr ⟨lw_p54, List.forall_mem_cons.mpr ⟨lw_p55, List.forall_mem_cons.mpr ⟨lw_p56, List.forall_mem_cons.mpr ⟨lw_p57, List.forall_mem_cons.mpr ⟨lw_p58, List.forall_mem_cons.mpr ⟨lw_p59, List.forall_mem_cons.mpr ⟨lw_p60, List.forall_mem_cons.mpr ⟨lw_p61, List.forall_mem_cons.mpr ⟨lw_p62, List.forall_mem_cons.mpr ⟨lw_p63, fun _ h => absurd h List.not_mem_nil⟩⟩⟩⟩⟩⟩⟩⟩⟩⟩⟩⟩⟩⟩⟩⟩
theorem lw_p64 : lw_okq (⟨"JudgedTermsModel", "told", "(III)I"⟩, 62) := ⟨⟨by decide +kernel, by decide +kernel⟩, List.mem_of_getElem? (i := 800) (by decide +kernel), List.mem_of_getElem? (i := 1156) (by decide +kernel), List.mem_of_getElem? (i := 1157) (by decide +kernel)⟩
theorem lw_p65 : lw_okq (⟨"JudgedTermsModel", "toldValue", "(IIII)I"⟩, 62) := ⟨⟨by decide +kernel, by decide +kernel⟩, List.mem_of_getElem? (i := 800) (by decide +kernel), List.mem_of_getElem? (i := 1160) (by decide +kernel), List.mem_of_getElem? (i := 1161) (by decide +kernel)⟩
theorem lw_p66 : lw_okq (⟨"JudgedTermsModel", "endsFound", "(III)V"⟩, 62) := ⟨⟨by decide +kernel, by decide +kernel⟩, List.mem_of_getElem? (i := 800) (by decide +kernel), List.mem_of_getElem? (i := 1164) (by decide +kernel), List.mem_of_getElem? (i := 1165) (by decide +kernel)⟩
theorem lw_p67 : lw_okq (⟨"JudgedTermsModel", "isNeeded", "(I)Z"⟩, 62) := ⟨⟨by decide +kernel, by decide +kernel⟩, List.mem_of_getElem? (i := 800) (by decide +kernel), List.mem_of_getElem? (i := 1168) (by decide +kernel), List.mem_of_getElem? (i := 1169) (by decide +kernel)⟩
theorem lw_p68 : lw_okq (⟨"JudgedTermsModel", "isSame", "(II)Z"⟩, 62) := ⟨⟨by decide +kernel, by decide +kernel⟩, List.mem_of_getElem? (i := 800) (by decide +kernel), List.mem_of_getElem? (i := 1172) (by decide +kernel), List.mem_of_getElem? (i := 1173) (by decide +kernel)⟩
theorem lw_p69 : lw_okq (⟨"JudgedTermsModel", "canStand", "(I)Z"⟩, 62) := ⟨⟨by decide +kernel, by decide +kernel⟩, List.mem_of_getElem? (i := 800) (by decide +kernel), List.mem_of_getElem? (i := 1176) (by decide +kernel), List.mem_of_getElem? (i := 1177) (by decide +kernel)⟩
theorem lw_p70 : lw_okq (⟨"JudgedTermsModel", "readsFound", "(I)V"⟩, 62) := ⟨⟨by decide +kernel, by decide +kernel⟩, List.mem_of_getElem? (i := 800) (by decide +kernel), List.mem_of_getElem? (i := 1180) (by decide +kernel), List.mem_of_getElem? (i := 1181) (by decide +kernel)⟩
theorem lw_p71 : lw_okq (⟨"JudgedTermsModel", "readsSimple", "(IIII)V"⟩, 62) := ⟨⟨by decide +kernel, by decide +kernel⟩, List.mem_of_getElem? (i := 800) (by decide +kernel), List.mem_of_getElem? (i := 1184) (by decide +kernel), List.mem_of_getElem? (i := 1185) (by decide +kernel)⟩
theorem lw_p72 : lw_okq (⟨"JudgedTermsModel", "longBy", "(III)I"⟩, 62) := ⟨⟨by decide +kernel, by decide +kernel⟩, List.mem_of_getElem? (i := 800) (by decide +kernel), List.mem_of_getElem? (i := 1188) (by decide +kernel), List.mem_of_getElem? (i := 1189) (by decide +kernel)⟩
theorem lw_p73 : lw_okq (⟨"JudgedTermsModel", "spread", "(II)I"⟩, 62) := ⟨⟨by decide +kernel, by decide +kernel⟩, List.mem_of_getElem? (i := 800) (by decide +kernel), List.mem_of_getElem? (i := 1192) (by decide +kernel), List.mem_of_getElem? (i := 1193) (by decide +kernel)⟩
theorem lw_p74 : lw_okq (⟨"JudgedTermsModel", "readsGiven", "(I)Z"⟩, 62) := ⟨⟨by decide +kernel, by decide +kernel⟩, List.mem_of_getElem? (i := 800) (by decide +kernel), List.mem_of_getElem? (i := 1196) (by decide +kernel), List.mem_of_getElem? (i := 1197) (by decide +kernel)⟩
theorem lw_p75 : lw_okq (⟨"JudgedTermsModel", "endsGiven", "(II)V"⟩, 62) := ⟨⟨by decide +kernel, by decide +kernel⟩, List.mem_of_getElem? (i := 800) (by decide +kernel), List.mem_of_getElem? (i := 1200) (by decide +kernel), List.mem_of_getElem? (i := 1201) (by decide +kernel)⟩
theorem lw_p76 : lw_okq (⟨"JudgedTermsModel", "handsType", "()V"⟩, 62) := ⟨⟨by decide +kernel, by decide +kernel⟩, List.mem_of_getElem? (i := 800) (by decide +kernel), List.mem_of_getElem? (i := 1204) (by decide +kernel), List.mem_of_getElem? (i := 1205) (by decide +kernel)⟩
theorem lw_p77 : lw_okq (⟨"JudgedTermsModel", "again", "(I)V"⟩, 62) := ⟨⟨by decide +kernel, by decide +kernel⟩, List.mem_of_getElem? (i := 800) (by decide +kernel), List.mem_of_getElem? (i := 1208) (by decide +kernel), List.mem_of_getElem? (i := 1209) (by decide +kernel)⟩
theorem lw_p78 : lw_okq (⟨"JudgedTermsModel", "namesOne", "(II)V"⟩, 62) := ⟨⟨by decide +kernel, by decide +kernel⟩, List.mem_of_getElem? (i := 800) (by decide +kernel), List.mem_of_getElem? (i := 1212) (by decide +kernel), List.mem_of_getElem? (i := 1213) (by decide +kernel)⟩
theorem lw_p79 : lw_okq (⟨"JudgedTermsModel", "isData", "(I)Z"⟩, 62) := ⟨⟨by decide +kernel, by decide +kernel⟩, List.mem_of_getElem? (i := 800) (by decide +kernel), List.mem_of_getElem? (i := 1216) (by decide +kernel), List.mem_of_getElem? (i := 1217) (by decide +kernel)⟩
def lw_privs_5 : List (MethodName × Nat) := [(⟨"JudgedTermsModel", "told", "(III)I"⟩, 62), (⟨"JudgedTermsModel", "toldValue", "(IIII)I"⟩, 62), (⟨"JudgedTermsModel", "endsFound", "(III)V"⟩, 62), (⟨"JudgedTermsModel", "isNeeded", "(I)Z"⟩, 62), (⟨"JudgedTermsModel", "isSame", "(II)Z"⟩, 62), (⟨"JudgedTermsModel", "canStand", "(I)Z"⟩, 62), (⟨"JudgedTermsModel", "readsFound", "(I)V"⟩, 62), (⟨"JudgedTermsModel", "readsSimple", "(IIII)V"⟩, 62), (⟨"JudgedTermsModel", "longBy", "(III)I"⟩, 62), (⟨"JudgedTermsModel", "spread", "(II)I"⟩, 62), (⟨"JudgedTermsModel", "readsGiven", "(I)Z"⟩, 62), (⟨"JudgedTermsModel", "endsGiven", "(II)V"⟩, 62), (⟨"JudgedTermsModel", "handsType", "()V"⟩, 62), (⟨"JudgedTermsModel", "again", "(I)V"⟩, 62), (⟨"JudgedTermsModel", "namesOne", "(II)V"⟩, 62), (⟨"JudgedTermsModel", "isData", "(I)Z"⟩, 62)]
theorem lw_r5 : ∀ q ∈ lw_privs_5, lw_okq q := List.forall_mem_cons.mpr ⟨lw_p64, List.forall_mem_cons.mpr ⟨lw_p65, List.forall_mem_cons.mpr ⟨lw_p66, List.forall_mem_cons.mpr ⟨lw_p67, List.forall_mem_cons.mpr ⟨lw_p68, List.forall_mem_cons.mpr ⟨lw_p69, List.forall_mem_cons.mpr ⟨lw_p70, List.forall_mem_cons.mpr ⟨lw_p71, List.forall_mem_cons.mpr ⟨lw_p72, List.forall_mem_cons.mpr ⟨lw_p73, List.forall_mem_cons.mpr ⟨lw_p74, List.forall_mem_cons.mpr ⟨lw_p75, List.forall_mem_cons.mpr ⟨lw_p76, List.forall_mem_cons.mpr ⟨lw_p77, List.forall_mem_cons.mpr ⟨lw_p78, List.forall_mem_cons.mpr ⟨lw_p79, fun _ h => absurd h List.not_mem_nil⟩⟩⟩⟩⟩⟩⟩⟩⟩⟩⟩⟩⟩⟩⟩⟩
theorem lw_p80 : lw_okq (⟨"JudgedTermsModel", "joined", "(III)I"⟩, 62) := ⟨⟨by decide +kernel, by decide +kernel⟩, List.mem_of_getElem? (i := 800) (by decide +kernel), List.mem_of_getElem? (i := 1220) (by decide +kernel), List.mem_of_getElem? (i := 1221) (by decide +kernel)⟩
theorem lw_p81 : lw_okq (⟨"JudgedTermsModel", "putsForm", "(I)V"⟩, 62) := ⟨⟨by decide +kernel, by decide +kernel⟩, List.mem_of_getElem? (i := 800) (by decide +kernel), List.mem_of_getElem? (i := 1224) (by decide +kernel), List.mem_of_getElem? (i := 1225) (by decide +kernel)⟩
theorem lw_p82 : lw_okq (⟨"JudgedTermsModel", "handsTerm", "()V"⟩, 62) := ⟨⟨by decide +kernel, by decide +kernel⟩, List.mem_of_getElem? (i := 800) (by decide +kernel), List.mem_of_getElem? (i := 1228) (by decide +kernel), List.mem_of_getElem? (i := 1229) (by decide +kernel)⟩
theorem lw_p83 : lw_okq (⟨"JudgedTermsModel", "handsGiven", "(I)V"⟩, 62) := ⟨⟨by decide +kernel, by decide +kernel⟩, List.mem_of_getElem? (i := 800) (by decide +kernel), List.mem_of_getElem? (i := 1232) (by decide +kernel), List.mem_of_getElem? (i := 1233) (by decide +kernel)⟩
theorem lw_p84 : lw_okq (⟨"JudgedTermsModel", "valueOf", "(I)I"⟩, 62) := ⟨⟨by decide +kernel, by decide +kernel⟩, List.mem_of_getElem? (i := 800) (by decide +kernel), List.mem_of_getElem? (i := 1236) (by decide +kernel), List.mem_of_getElem? (i := 1237) (by decide +kernel)⟩
theorem lw_p85 : lw_okq (⟨"JudgedTermsModel", "handsTaken", "(I)V"⟩, 62) := ⟨⟨by decide +kernel, by decide +kernel⟩, List.mem_of_getElem? (i := 800) (by decide +kernel), List.mem_of_getElem? (i := 1240) (by decide +kernel), List.mem_of_getElem? (i := 1241) (by decide +kernel)⟩
theorem lw_p86 : lw_okq (⟨"JudgedTermsModel", "toSlot", "(II)V"⟩, 62) := ⟨⟨by decide +kernel, by decide +kernel⟩, List.mem_of_getElem? (i := 800) (by decide +kernel), List.mem_of_getElem? (i := 1244) (by decide +kernel), List.mem_of_getElem? (i := 1245) (by decide +kernel)⟩
theorem lw_p87 : lw_okq (⟨"JudgedTermsModel", "nextConstant", "()V"⟩, 62) := ⟨⟨by decide +kernel, by decide +kernel⟩, List.mem_of_getElem? (i := 800) (by decide +kernel), List.mem_of_getElem? (i := 1248) (by decide +kernel), List.mem_of_getElem? (i := 1249) (by decide +kernel)⟩
theorem lw_p88 : lw_okq (⟨"JudgedTermsModel", "wants", "(Z)V"⟩, 62) := ⟨⟨by decide +kernel, by decide +kernel⟩, List.mem_of_getElem? (i := 800) (by decide +kernel), List.mem_of_getElem? (i := 1252) (by decide +kernel), List.mem_of_getElem? (i := 1253) (by decide +kernel)⟩
theorem lw_p89 : lw_okq (⟨"JudgedTermsModel", "signAt", "(II)I"⟩, 62) := ⟨⟨by decide +kernel, by decide +kernel⟩, List.mem_of_getElem? (i := 800) (by decide +kernel), List.mem_of_getElem? (i := 1260) (by decide +kernel), List.mem_of_getElem? (i := 1261) (by decide +kernel)⟩
theorem lw_p90 : lw_okq (⟨"JudgedTermsModel", "readsTerms", "(I)V"⟩, 62) := ⟨⟨by decide +kernel, by decide +kernel⟩, List.mem_of_getElem? (i := 800) (by decide +kernel), List.mem_of_getElem? (i := 1268) (by decide +kernel), List.mem_of_getElem? (i := 1269) (by decide +kernel)⟩
theorem lw_p91 : lw_okq (⟨"JudgedTermsModel", "wholeGiven", "(I)I"⟩, 62) := ⟨⟨by decide +kernel, by decide +kernel⟩, List.mem_of_getElem? (i := 800) (by decide +kernel), List.mem_of_getElem? (i := 1272) (by decide +kernel), List.mem_of_getElem? (i := 1273) (by decide +kernel)⟩
theorem lw_p92 : lw_okq (⟨"JudgedTermsModel", "signOrMany", "(II)I"⟩, 62) := ⟨⟨by decide +kernel, by decide +kernel⟩, List.mem_of_getElem? (i := 800) (by decide +kernel), List.mem_of_getElem? (i := 1276) (by decide +kernel), List.mem_of_getElem? (i := 1277) (by decide +kernel)⟩
theorem lw_p93 : lw_okq (⟨"JudgedTermsModel", "notes", "(II)V"⟩, 62) := ⟨⟨by decide +kernel, by decide +kernel⟩, List.mem_of_getElem? (i := 800) (by decide +kernel), List.mem_of_getElem? (i := 1292) (by decide +kernel), List.mem_of_getElem? (i := 1293) (by decide +kernel)⟩
theorem lw_p94 : lw_okq (⟨"JudgedTermsModel", "isEntry", "(I)Z"⟩, 62) := ⟨⟨by decide +kernel, by decide +kernel⟩, List.mem_of_getElem? (i := 800) (by decide +kernel), List.mem_of_getElem? (i := 1300) (by decide +kernel), List.mem_of_getElem? (i := 1301) (by decide +kernel)⟩
theorem lw_p95 : lw_okq (⟨"JudgedTermsModel", "goes", "(I)V"⟩, 62) := ⟨⟨by decide +kernel, by decide +kernel⟩, List.mem_of_getElem? (i := 800) (by decide +kernel), List.mem_of_getElem? (i := 1304) (by decide +kernel), List.mem_of_getElem? (i := 1305) (by decide +kernel)⟩
def lw_privs_6 : List (MethodName × Nat) := [(⟨"JudgedTermsModel", "joined", "(III)I"⟩, 62), (⟨"JudgedTermsModel", "putsForm", "(I)V"⟩, 62), (⟨"JudgedTermsModel", "handsTerm", "()V"⟩, 62), (⟨"JudgedTermsModel", "handsGiven", "(I)V"⟩, 62), (⟨"JudgedTermsModel", "valueOf", "(I)I"⟩, 62), (⟨"JudgedTermsModel", "handsTaken", "(I)V"⟩, 62), (⟨"JudgedTermsModel", "toSlot", "(II)V"⟩, 62), (⟨"JudgedTermsModel", "nextConstant", "()V"⟩, 62), (⟨"JudgedTermsModel", "wants", "(Z)V"⟩, 62), (⟨"JudgedTermsModel", "signAt", "(II)I"⟩, 62), (⟨"JudgedTermsModel", "readsTerms", "(I)V"⟩, 62), (⟨"JudgedTermsModel", "wholeGiven", "(I)I"⟩, 62), (⟨"JudgedTermsModel", "signOrMany", "(II)I"⟩, 62), (⟨"JudgedTermsModel", "notes", "(II)V"⟩, 62), (⟨"JudgedTermsModel", "isEntry", "(I)Z"⟩, 62), (⟨"JudgedTermsModel", "goes", "(I)V"⟩, 62)]
theorem lw_r6 : ∀ q ∈ lw_privs_6, lw_okq q := List.forall_mem_cons.mpr ⟨lw_p80, List.forall_mem_cons.mpr ⟨lw_p81, List.forall_mem_cons.mpr ⟨lw_p82, List.forall_mem_cons.mpr ⟨lw_p83, List.forall_mem_cons.mpr ⟨lw_p84, List.forall_mem_cons.mpr ⟨lw_p85, List.forall_mem_cons.mpr ⟨lw_p86, List.forall_mem_cons.mpr ⟨lw_p87, List.forall_mem_cons.mpr ⟨lw_p88, List.forall_mem_cons.mpr ⟨lw_p89, List.forall_mem_cons.mpr ⟨lw_p90, List.forall_mem_cons.mpr ⟨lw_p91, List.forall_mem_cons.mpr ⟨lw_p92, List.forall_mem_cons.mpr ⟨lw_p93, List.forall_mem_cons.mpr ⟨lw_p94, List.forall_mem_cons.mpr ⟨lw_p95, fun _ h => absurd h List.not_mem_nil⟩⟩⟩⟩⟩⟩⟩⟩⟩⟩⟩⟩⟩⟩⟩⟩
theorem lw_p96 : lw_okq (⟨"JudgedTermsModel", "likeOf", "(II)I"⟩, 62) := ⟨⟨by decide +kernel, by decide +kernel⟩, List.mem_of_getElem? (i := 800) (by decide +kernel), List.mem_of_getElem? (i := 1320) (by decide +kernel), List.mem_of_getElem? (i := 1321) (by decide +kernel)⟩
def lw_privs_7 : List (MethodName × Nat) := [(⟨"JudgedTermsModel", "likeOf", "(II)I"⟩, 62)]
theorem lw_r7 : ∀ q ∈ lw_privs_7, lw_okq q := List.forall_mem_cons.mpr ⟨lw_p96, fun _ h => absurd h List.not_mem_nil⟩
def lw_privs : List (MethodName × Nat) := lw_privs_1 ++ (lw_privs_2 ++ (lw_privs_3 ++ (lw_privs_4 ++ (lw_privs_5 ++ (lw_privs_6 ++ (lw_privs_7))))))
def lw_tbl : List Cond := k2_sels lw_privs ++ tables_1
theorem lw_privs_ok : ∀ q ∈ lw_privs, lw_okq q := by
  show ∀ q ∈ lw_privs_1 ++ (lw_privs_2 ++ (lw_privs_3 ++ (lw_privs_4 ++ (lw_privs_5 ++ (lw_privs_6 ++ (lw_privs_7)))))), lw_okq q
  exact List.forall_mem_append.mpr ⟨lw_r1, List.forall_mem_append.mpr ⟨lw_r2, List.forall_mem_append.mpr ⟨lw_r3, List.forall_mem_append.mpr ⟨lw_r4, List.forall_mem_append.mpr ⟨lw_r5, List.forall_mem_append.mpr ⟨lw_r6, lw_r7⟩⟩⟩⟩⟩⟩
-- ===== end of PART A; then your names; then what follows =====
def RX0 : String := "JudgedTerms$Entry"
def TX0 : u_T := fun k => match k with
  | 0 => ("JudgedTerms$Entry", "typeForm", "LJudgedTerms$Form;", true)
  | _ => ("JudgedTerms$Entry", "termForm", "LJudgedTerms$Form;", true)
def tyX0 : Nat → FieldType := fun k => match k with
  | 0 => .object "JudgedTerms$Form"
  | _ => .object "JudgedTerms$Form"
theorem nmX0 : ∀ a, a < 2 → ∀ b, b < 2 → a ≠ b → (TX0 a).2.1 ≠ (TX0 b).2.1 := by decide +kernel
theorem tyX0_ok : ∀ k, k < 2 → parseFieldDescriptor (TX0 k).2.2.1 = some (tyX0 k) := by decide +kernel
abbrev cX0_init : ByteArray := prog_2_method_1_code
def yX0_init : MethodName := ⟨RX0, "<init>", "(LJudgedTerms$Form;LJudgedTerms$Form;)V"⟩
abbrev cX0_likeness : ByteArray := prog_2_method_2_code
def yX0_likeness : MethodName := ⟨RX0, "likeness", "(LJudgedTerms$Entry;)I"⟩
def RX1 : String := "JudgedTerms$Form"
def TX1 : u_T := fun k => match k with
  | _ => ("JudgedTerms$Form", "signs", "[I", true)
def tyX1 : Nat → FieldType := fun k => match k with
  | _ => .array .int
theorem nmX1 : ∀ a, a < 1 → ∀ b, b < 1 → a ≠ b → (TX1 a).2.1 ≠ (TX1 b).2.1 := by decide +kernel
theorem tyX1_ok : ∀ k, k < 1 → parseFieldDescriptor (TX1 k).2.2.1 = some (tyX1 k) := by decide +kernel
abbrev cX1_init : ByteArray := prog_3_method_1_code
def yX1_init : MethodName := ⟨RX1, "<init>", "([I)V"⟩
abbrev cX1_signAt : ByteArray := prog_3_method_2_code
def yX1_signAt : MethodName := ⟨RX1, "signAt", "(I)I"⟩
abbrev cX1_equalTo : ByteArray := prog_3_method_3_code
def yX1_equalTo : MethodName := ⟨RX1, "equalTo", "(LJudgedTerms$Form;)Z"⟩
def RX2 : String := "JudgedTerms$History"
def TX2 : u_T := fun k => match k with
  | 0 => ("JudgedTerms$History", "before", "[LJudgedTerms$Shelf;", true)
  | 1 => ("JudgedTerms$History", "newest", "I", false)
  | _ => ("JudgedTerms$History", "size", "I", false)
def tyX2 : Nat → FieldType := fun k => match k with
  | 0 => .array (.object "JudgedTerms$Shelf")
  | 1 => .int
  | _ => .int
theorem nmX2 : ∀ a, a < 3 → ∀ b, b < 3 → a ≠ b → (TX2 a).2.1 ≠ (TX2 b).2.1 := by decide +kernel
theorem tyX2_ok : ∀ k, k < 3 → parseFieldDescriptor (TX2 k).2.2.1 = some (tyX2 k) := by decide +kernel
abbrev cX2_init : ByteArray := prog_4_method_1_code
def yX2_init : MethodName := ⟨RX2, "<init>", "()V"⟩
abbrev cX2_note : ByteArray := prog_4_method_2_code
def yX2_note : MethodName := ⟨RX2, "note", "(LJudgedTerms$Shelf;)V"⟩
abbrev cX2_restore : ByteArray := prog_4_method_3_code
def yX2_restore : MethodName := ⟨RX2, "restore", "(LJudgedTerms$Shelf;)V"⟩
abbrev cX2_empty : ByteArray := prog_4_method_4_code
def yX2_empty : MethodName := ⟨RX2, "empty", "()V"⟩
def RX3 : String := "JudgedTerms$Laws"
def TX3 : u_T := fun k => match k with
  | 0 => ("JudgedTerms$Laws", "index", "[LJudgedTerms$Form;", true)
  | 1 => ("JudgedTerms$Laws", "constant", "[LJudgedTerms$Form;", true)
  | 2 => ("JudgedTerms$Laws", "families", "I", false)
  | _ => ("JudgedTerms$Laws", "constants", "I", false)
def tyX3 : Nat → FieldType := fun k => match k with
  | 0 => .array (.object "JudgedTerms$Form")
  | 1 => .array (.object "JudgedTerms$Form")
  | 2 => .int
  | _ => .int
theorem nmX3 : ∀ a, a < 4 → ∀ b, b < 4 → a ≠ b → (TX3 a).2.1 ≠ (TX3 b).2.1 := by decide +kernel
theorem tyX3_ok : ∀ k, k < 4 → parseFieldDescriptor (TX3 k).2.2.1 = some (tyX3 k) := by decide +kernel
abbrev cX3_init : ByteArray := prog_5_method_1_code
def yX3_init : MethodName := ⟨RX3, "<init>", "()V"⟩
abbrev cX3_addFamily : ByteArray := prog_5_method_2_code
def yX3_addFamily : MethodName := ⟨RX3, "addFamily", "(LJudgedTerms$Form;)V"⟩
abbrev cX3_addConstant : ByteArray := prog_5_method_3_code
def yX3_addConstant : MethodName := ⟨RX3, "addConstant", "(LJudgedTerms$Form;)V"⟩
abbrev cX3_indexForm : ByteArray := prog_5_method_4_code
def yX3_indexForm : MethodName := ⟨RX3, "indexForm", "(I)LJudgedTerms$Form;"⟩
abbrev cX3_constantForm : ByteArray := prog_5_method_5_code
def yX3_constantForm : MethodName := ⟨RX3, "constantForm", "(I)LJudgedTerms$Form;"⟩
def RX4 : String := "JudgedTerms$Reader"
def TX4 : u_T := fun k => match k with
  | 0 => ("JudgedTerms$Reader", "signs", "LJudgedTerms$Signs;", true)
  | 1 => ("JudgedTerms$Reader", "values", "LJudgedTerms$Values;", true)
  | 2 => ("JudgedTerms$Reader", "writer", "LJudgedTerms$Writer;", true)
  | 3 => ("JudgedTerms$Reader", "scopes", "[I", true)
  | 4 => ("JudgedTerms$Reader", "text", "[I", false)
  | 5 => ("JudgedTerms$Reader", "length", "I", false)
  | 6 => ("JudgedTerms$Reader", "entries", "LJudgedTerms$Shelf;", false)
  | 7 => ("JudgedTerms$Reader", "next", "I", false)
  | 8 => ("JudgedTerms$Reader", "fault", "I", false)
  | 9 => ("JudgedTerms$Reader", "inferred", "I", false)
  | 10 => ("JudgedTerms$Reader", "typeRead", "I", false)
  | 11 => ("JudgedTerms$Reader", "valueRead", "I", false)
  | 12 => ("JudgedTerms$Reader", "givenType", "I", false)
  | 13 => ("JudgedTerms$Reader", "term", "I", false)
  | _ => ("JudgedTerms$Reader", "secondTerm", "I", false)
def tyX4 : Nat → FieldType := fun k => match k with
  | 0 => .object "JudgedTerms$Signs"
  | 1 => .object "JudgedTerms$Values"
  | 2 => .object "JudgedTerms$Writer"
  | 3 => .array .int
  | 4 => .array .int
  | 5 => .int
  | 6 => .object "JudgedTerms$Shelf"
  | 7 => .int
  | 8 => .int
  | 9 => .int
  | 10 => .int
  | 11 => .int
  | 12 => .int
  | 13 => .int
  | _ => .int
theorem nmX4 : ∀ a, a < 15 → ∀ b, b < 15 → a ≠ b → (TX4 a).2.1 ≠ (TX4 b).2.1 := by decide +kernel
theorem tyX4_ok : ∀ k, k < 15 → parseFieldDescriptor (TX4 k).2.2.1 = some (tyX4 k) := by decide +kernel
abbrev cX4_init : ByteArray := prog_6_method_1_code
def yX4_init : MethodName := ⟨RX4, "<init>", "(LJudgedTerms$Signs;LJudgedTerms$Values;LJudgedTerms$Writer;)V"⟩
abbrev cX4_begin : ByteArray := prog_6_method_2_code
def yX4_begin : MethodName := ⟨RX4, "begin", "([IILJudgedTerms$Laws;LJudgedTerms$Shelf;)V"⟩
abbrev cX4_readGiven : ByteArray := prog_6_method_3_code
def yX4_readGiven : MethodName := ⟨RX4, "readGiven", "()Z"⟩
abbrev cX4_readTwo : ByteArray := prog_6_method_4_code
def yX4_readTwo : MethodName := ⟨RX4, "readTwo", "()Z"⟩
abbrev cX4_readInferred : ByteArray := prog_6_method_5_code
def yX4_readInferred : MethodName := ⟨RX4, "readInferred", "()Z"⟩
abbrev cX4_entryRead : ByteArray := prog_6_method_6_code
def yX4_entryRead : MethodName := ⟨RX4, "entryRead", "()LJudgedTerms$Entry;"⟩
abbrev cX4_readEnd : ByteArray := prog_6_method_7_code
def yX4_readEnd : MethodName := ⟨RX4, "readEnd", "()Z"⟩
abbrev cX4_hasMore : ByteArray := prog_6_method_8_code
def yX4_hasMore : MethodName := ⟨RX4, "hasMore", "()Z"⟩
abbrev cX4_readItem : ByteArray := prog_6_method_9_code
def yX4_readItem : MethodName := ⟨RX4, "readItem", "()Z"⟩
abbrev cX4_peek : ByteArray := prog_6_method_10_code
def yX4_peek : MethodName := ⟨RX4, "peek", "()I"⟩
abbrev cX4_refuse : ByteArray := prog_6_method_11_code
def yX4_refuse : MethodName := ⟨RX4, "refuse", "(I)I"⟩
abbrev cX4_fail : ByteArray := prog_6_method_12_code
def yX4_fail : MethodName := ⟨RX4, "fail", "(I)Z"⟩
abbrev cX4_join : ByteArray := prog_6_method_13_code
def yX4_join : MethodName := ⟨RX4, "join", "(IIII)I"⟩
abbrev cX4_scope : ByteArray := prog_6_method_14_code
def yX4_scope : MethodName := ⟨RX4, "scope", "(I)I"⟩
abbrev cX4_bind : ByteArray := prog_6_method_15_code
def yX4_bind : MethodName := ⟨RX4, "bind", "(II)I"⟩
abbrev cX4_readType : ByteArray := prog_6_method_16_code
def yX4_readType : MethodName := ⟨RX4, "readType", "(I)I"⟩
abbrev cX4_readBinder : ByteArray := prog_6_method_17_code
def yX4_readBinder : MethodName := ⟨RX4, "readBinder", "(III)I"⟩
abbrev cX4_checkTerm : ByteArray := prog_6_method_18_code
def yX4_checkTerm : MethodName := ⟨RX4, "checkTerm", "(II)I"⟩
abbrev cX4_checkInferred : ByteArray := prog_6_method_19_code
def yX4_checkInferred : MethodName := ⟨RX4, "checkInferred", "(II)I"⟩
abbrev cX4_readPair : ByteArray := prog_6_method_20_code
def yX4_readPair : MethodName := ⟨RX4, "readPair", "(II)I"⟩
abbrev cX4_readFunction : ByteArray := prog_6_method_21_code
def yX4_readFunction : MethodName := ⟨RX4, "readFunction", "(II)I"⟩
abbrev cX4_inferTerm : ByteArray := prog_6_method_22_code
def yX4_inferTerm : MethodName := ⟨RX4, "inferTerm", "(I)I"⟩
abbrev cX4_hasRead : ByteArray := prog_6_method_23_code
def yX4_hasRead : MethodName := ⟨RX4, "hasRead", "(II)Z"⟩
abbrev cX4_readName : ByteArray := prog_6_method_24_code
def yX4_readName : MethodName := ⟨RX4, "readName", "(I)Z"⟩
abbrev cX4_readEntry : ByteArray := prog_6_method_25_code
def yX4_readEntry : MethodName := ⟨RX4, "readEntry", "()Z"⟩
abbrev cX4_readAnnotated : ByteArray := prog_6_method_26_code
def yX4_readAnnotated : MethodName := ⟨RX4, "readAnnotated", "(I)Z"⟩
abbrev cX4_readApplied : ByteArray := prog_6_method_27_code
def yX4_readApplied : MethodName := ⟨RX4, "readApplied", "(I)Z"⟩
abbrev cX4_readComponent : ByteArray := prog_6_method_28_code
def yX4_readComponent : MethodName := ⟨RX4, "readComponent", "(I)Z"⟩
def RX5 : String := "JudgedTerms$Shelf"
def TX5 : u_T := fun k => match k with
  | 0 => ("JudgedTerms$Shelf", "row", "[LJudgedTerms$Entry;", true)
  | _ => ("JudgedTerms$Shelf", "size", "I", false)
def tyX5 : Nat → FieldType := fun k => match k with
  | 0 => .array (.object "JudgedTerms$Entry")
  | _ => .int
theorem nmX5 : ∀ a, a < 2 → ∀ b, b < 2 → a ≠ b → (TX5 a).2.1 ≠ (TX5 b).2.1 := by decide +kernel
theorem tyX5_ok : ∀ k, k < 2 → parseFieldDescriptor (TX5 k).2.2.1 = some (tyX5 k) := by decide +kernel
abbrev cX5_init : ByteArray := prog_7_method_1_code
def yX5_init : MethodName := ⟨RX5, "<init>", "()V"⟩
abbrev cX5_at : ByteArray := prog_7_method_2_code
def yX5_at : MethodName := ⟨RX5, "at", "(I)LJudgedTerms$Entry;"⟩
abbrev cX5_add : ByteArray := prog_7_method_3_code
def yX5_add : MethodName := ⟨RX5, "add", "(LJudgedTerms$Entry;)V"⟩
abbrev cX5_remove : ByteArray := prog_7_method_4_code
def yX5_remove : MethodName := ⟨RX5, "remove", "(I)V"⟩
abbrev cX5_become : ByteArray := prog_7_method_5_code
def yX5_become : MethodName := ⟨RX5, "become", "(LJudgedTerms$Shelf;)V"⟩
abbrev cX5_empty : ByteArray := prog_7_method_6_code
def yX5_empty : MethodName := ⟨RX5, "empty", "()V"⟩
def RX6 : String := "JudgedTerms$Sights"
def TX6 : u_T := fun k => match k with
  | 0 => ("JudgedTerms$Sights", "seen", "[LJudgedTerms$Entry;", true)
  | 1 => ("JudgedTerms$Sights", "likeness", "[I", true)
  | _ => ("JudgedTerms$Sights", "size", "I", false)
def tyX6 : Nat → FieldType := fun k => match k with
  | 0 => .array (.object "JudgedTerms$Entry")
  | 1 => .array .int
  | _ => .int
theorem nmX6 : ∀ a, a < 3 → ∀ b, b < 3 → a ≠ b → (TX6 a).2.1 ≠ (TX6 b).2.1 := by decide +kernel
theorem tyX6_ok : ∀ k, k < 3 → parseFieldDescriptor (TX6 k).2.2.1 = some (tyX6 k) := by decide +kernel
abbrev cX6_init : ByteArray := prog_8_method_1_code
def yX6_init : MethodName := ⟨RX6, "<init>", "()V"⟩
abbrev cX6_add : ByteArray := prog_8_method_2_code
def yX6_add : MethodName := ⟨RX6, "add", "(LJudgedTerms$Entry;I)V"⟩
abbrev cX6_agreeWith : ByteArray := prog_8_method_3_code
def yX6_agreeWith : MethodName := ⟨RX6, "agreeWith", "(LJudgedTerms$Entry;)Z"⟩
abbrev cX6_empty : ByteArray := prog_8_method_4_code
def yX6_empty : MethodName := ⟨RX6, "empty", "()V"⟩
def RX7 : String := "JudgedTerms$Signs"
def TX7 : u_T := fun k => match k with
  | 0 => ("JudgedTerms$Signs", "row", "[I", true)
  | 1 => ("JudgedTerms$Signs", "size", "I", false)
  | 2 => ("JudgedTerms$Signs", "indexPlace", "[I", true)
  | 3 => ("JudgedTerms$Signs", "families", "I", false)
  | 4 => ("JudgedTerms$Signs", "constantPlace", "[I", true)
  | _ => ("JudgedTerms$Signs", "constants", "I", false)
def tyX7 : Nat → FieldType := fun k => match k with
  | 0 => .array .int
  | 1 => .int
  | 2 => .array .int
  | 3 => .int
  | 4 => .array .int
  | _ => .int
theorem nmX7 : ∀ a, a < 6 → ∀ b, b < 6 → a ≠ b → (TX7 a).2.1 ≠ (TX7 b).2.1 := by decide +kernel
theorem tyX7_ok : ∀ k, k < 6 → parseFieldDescriptor (TX7 k).2.2.1 = some (tyX7 k) := by decide +kernel
abbrev cX7_init : ByteArray := prog_9_method_1_code
def yX7_init : MethodName := ⟨RX7, "<init>", "()V"⟩
abbrev cX7_begin : ByteArray := prog_9_method_2_code
def yX7_begin : MethodName := ⟨RX7, "begin", "(LJudgedTerms$Laws;)V"⟩
abbrev cX7_addFamily : ByteArray := prog_9_method_3_code
def yX7_addFamily : MethodName := ⟨RX7, "addFamily", "(I)V"⟩
abbrev cX7_addConstant : ByteArray := prog_9_method_4_code
def yX7_addConstant : MethodName := ⟨RX7, "addConstant", "(I)V"⟩
abbrev cX7_declared : ByteArray := prog_9_method_5_code
def yX7_declared : MethodName := ⟨RX7, "declared", "()LJudgedTerms$Laws;"⟩
abbrev cX7_isFamily : ByteArray := prog_9_method_6_code
def yX7_isFamily : MethodName := ⟨RX7, "isFamily", "(I)Z"⟩
abbrev cX7_isConstant : ByteArray := prog_9_method_7_code
def yX7_isConstant : MethodName := ⟨RX7, "isConstant", "(I)Z"⟩
abbrev cX7_indexTypeOf : ByteArray := prog_9_method_8_code
def yX7_indexTypeOf : MethodName := ⟨RX7, "indexTypeOf", "(I)I"⟩
abbrev cX7_constantTypeOf : ByteArray := prog_9_method_9_code
def yX7_constantTypeOf : MethodName := ⟨RX7, "constantTypeOf", "(I)I"⟩
abbrev cX7_at : ByteArray := prog_9_method_10_code
def yX7_at : MethodName := ⟨RX7, "at", "(I)I"⟩
abbrev cX7_add : ByteArray := prog_9_method_11_code
def yX7_add : MethodName := ⟨RX7, "add", "(I)Z"⟩
abbrev cX7_behind : ByteArray := prog_9_method_12_code
def yX7_behind : MethodName := ⟨RX7, "behind", "(I)I"⟩
abbrev cX7_partsOf : ByteArray := prog_9_method_13_code
def yX7_partsOf : MethodName := ⟨RX7, "partsOf", "(I)I"⟩
abbrev cX7_equal : ByteArray := prog_9_method_14_code
def yX7_equal : MethodName := ⟨RX7, "equal", "(II)Z"⟩
abbrev cX7_isData : ByteArray := prog_9_method_15_code
def yX7_isData : MethodName := ⟨RX7, "isData", "(I)Z"⟩
abbrev cX7_answer : ByteArray := prog_9_method_16_code
def yX7_answer : MethodName := ⟨RX7, "answer", "(II)I"⟩
abbrev cX7_keptForm : ByteArray := prog_9_method_17_code
def yX7_keptForm : MethodName := ⟨RX7, "keptForm", "(I)LJudgedTerms$Form;"⟩
abbrev cX7_copyOf : ByteArray := prog_9_method_18_code
def yX7_copyOf : MethodName := ⟨RX7, "copyOf", "(LJudgedTerms$Form;)I"⟩
def RX8 : String := "JudgedTerms$Values"
def TX8 : u_T := fun k => match k with
  | 0 => ("JudgedTerms$Values", "signs", "LJudgedTerms$Signs;", true)
  | 1 => ("JudgedTerms$Values", "kind", "[I", true)
  | 2 => ("JudgedTerms$Values", "left", "[I", true)
  | 3 => ("JudgedTerms$Values", "right", "[I", true)
  | 4 => ("JudgedTerms$Values", "size", "I", false)
  | 5 => ("JudgedTerms$Values", "variableType", "[I", true)
  | _ => ("JudgedTerms$Values", "behind", "I", false)
def tyX8 : Nat → FieldType := fun k => match k with
  | 0 => .object "JudgedTerms$Signs"
  | 1 => .array .int
  | 2 => .array .int
  | 3 => .array .int
  | 4 => .int
  | 5 => .array .int
  | _ => .int
theorem nmX8 : ∀ a, a < 7 → ∀ b, b < 7 → a ≠ b → (TX8 a).2.1 ≠ (TX8 b).2.1 := by decide +kernel
theorem tyX8_ok : ∀ k, k < 7 → parseFieldDescriptor (TX8 k).2.2.1 = some (tyX8 k) := by decide +kernel
abbrev cX8_init : ByteArray := prog_10_method_1_code
def yX8_init : MethodName := ⟨RX8, "<init>", "(LJudgedTerms$Signs;)V"⟩
abbrev cX8_release : ByteArray := prog_10_method_2_code
def yX8_release : MethodName := ⟨RX8, "release", "(I)V"⟩
abbrev cX8_make : ByteArray := prog_10_method_3_code
def yX8_make : MethodName := ⟨RX8, "make", "(III)I"⟩
abbrev cX8_kindOf : ByteArray := prog_10_method_4_code
def yX8_kindOf : MethodName := ⟨RX8, "kindOf", "(I)I"⟩
abbrev cX8_leftOf : ByteArray := prog_10_method_5_code
def yX8_leftOf : MethodName := ⟨RX8, "leftOf", "(I)I"⟩
abbrev cX8_rightOf : ByteArray := prog_10_method_6_code
def yX8_rightOf : MethodName := ⟨RX8, "rightOf", "(I)I"⟩
abbrev cX8_typeAt : ByteArray := prog_10_method_7_code
def yX8_typeAt : MethodName := ⟨RX8, "typeAt", "(II)I"⟩
abbrev cX8_formOf : ByteArray := prog_10_method_8_code
def yX8_formOf : MethodName := ⟨RX8, "formOf", "(I)I"⟩
abbrev cX8_firstType : ByteArray := prog_10_method_9_code
def yX8_firstType : MethodName := ⟨RX8, "firstType", "(I)I"⟩
abbrev cX8_secondType : ByteArray := prog_10_method_10_code
def yX8_secondType : MethodName := ⟨RX8, "secondType", "(II)I"⟩
abbrev cX8_extended : ByteArray := prog_10_method_11_code
def yX8_extended : MethodName := ⟨RX8, "extended", "(II)I"⟩
abbrev cX8_newVariable : ByteArray := prog_10_method_12_code
def yX8_newVariable : MethodName := ⟨RX8, "newVariable", "(II)I"⟩
abbrev cX8_typeOfVariable : ByteArray := prog_10_method_13_code
def yX8_typeOfVariable : MethodName := ⟨RX8, "typeOfVariable", "(I)I"⟩
abbrev cX8_constantOf : ByteArray := prog_10_method_14_code
def yX8_constantOf : MethodName := ⟨RX8, "constantOf", "(I)I"⟩
abbrev cX8_typeOfConstant : ByteArray := prog_10_method_15_code
def yX8_typeOfConstant : MethodName := ⟨RX8, "typeOfConstant", "(I)I"⟩
abbrev cX8_variableIn : ByteArray := prog_10_method_16_code
def yX8_variableIn : MethodName := ⟨RX8, "variableIn", "(II)I"⟩
abbrev cX8_evaluate : ByteArray := prog_10_method_17_code
def yX8_evaluate : MethodName := ⟨RX8, "evaluate", "(III)I"⟩
abbrev cX8_apply : ByteArray := prog_10_method_18_code
def yX8_apply : MethodName := ⟨RX8, "apply", "(III)I"⟩
abbrev cX8_firstOf : ByteArray := prog_10_method_19_code
def yX8_firstOf : MethodName := ⟨RX8, "firstOf", "(I)I"⟩
abbrev cX8_secondOf : ByteArray := prog_10_method_20_code
def yX8_secondOf : MethodName := ⟨RX8, "secondOf", "(I)I"⟩
def RX9 : String := "JudgedTerms$Writer"
def TX9 : u_T := fun k => match k with
  | 0 => ("JudgedTerms$Writer", "signs", "LJudgedTerms$Signs;", true)
  | 1 => ("JudgedTerms$Writer", "values", "LJudgedTerms$Values;", true)
  | 2 => ("JudgedTerms$Writer", "start", "I", false)
  | _ => ("JudgedTerms$Writer", "tooLarge", "Z", false)
def tyX9 : Nat → FieldType := fun k => match k with
  | 0 => .object "JudgedTerms$Signs"
  | 1 => .object "JudgedTerms$Values"
  | 2 => .int
  | _ => .boolean
theorem nmX9 : ∀ a, a < 4 → ∀ b, b < 4 → a ≠ b → (TX9 a).2.1 ≠ (TX9 b).2.1 := by decide +kernel
theorem tyX9_ok : ∀ k, k < 4 → parseFieldDescriptor (TX9 k).2.2.1 = some (tyX9 k) := by decide +kernel
abbrev cX9_init : ByteArray := prog_11_method_1_code
def yX9_init : MethodName := ⟨RX9, "<init>", "(LJudgedTerms$Signs;LJudgedTerms$Values;)V"⟩
abbrev cX9_join : ByteArray := prog_11_method_2_code
def yX9_join : MethodName := ⟨RX9, "join", "(III)I"⟩
abbrev cX9_begin : ByteArray := prog_11_method_3_code
def yX9_begin : MethodName := ⟨RX9, "begin", "()V"⟩
abbrev cX9_written : ByteArray := prog_11_method_4_code
def yX9_written : MethodName := ⟨RX9, "written", "()I"⟩
abbrev cX9_put : ByteArray := prog_11_method_5_code
def yX9_put : MethodName := ⟨RX9, "put", "(I)V"⟩
abbrev cX9_putCopy : ByteArray := prog_11_method_6_code
def yX9_putCopy : MethodName := ⟨RX9, "putCopy", "(I)V"⟩
abbrev cX9_putType : ByteArray := prog_11_method_7_code
def yX9_putType : MethodName := ⟨RX9, "putType", "(II)V"⟩
abbrev cX9_bound : ByteArray := prog_11_method_8_code
def yX9_bound : MethodName := ⟨RX9, "bound", "(II)I"⟩
abbrev cX9_putTerm : ByteArray := prog_11_method_9_code
def yX9_putTerm : MethodName := ⟨RX9, "putTerm", "(III)V"⟩
abbrev cX9_putLeft : ByteArray := prog_11_method_10_code
def yX9_putLeft : MethodName := ⟨RX9, "putLeft", "(II)I"⟩
def RX10 : String := "JudgedTerms"
def TX10 : u_T := fun k => match k with
  | 0 => ("JudgedTerms", "text", "[I", true)
  | 1 => ("JudgedTerms", "length", "I", false)
  | 2 => ("JudgedTerms", "laws", "LJudgedTerms$Laws;", false)
  | 3 => ("JudgedTerms", "entries", "LJudgedTerms$Shelf;", true)
  | 4 => ("JudgedTerms", "history", "LJudgedTerms$History;", true)
  | 5 => ("JudgedTerms", "sights", "LJudgedTerms$Sights;", true)
  | 6 => ("JudgedTerms", "images", "[LJudgedTerms$Shelf;", true)
  | 7 => ("JudgedTerms", "kept", "[Z", true)
  | _ => ("JudgedTerms", "reader", "LJudgedTerms$Reader;", true)
def tyX10 : Nat → FieldType := fun k => match k with
  | 0 => .array .int
  | 1 => .int
  | 2 => .object "JudgedTerms$Laws"
  | 3 => .object "JudgedTerms$Shelf"
  | 4 => .object "JudgedTerms$History"
  | 5 => .object "JudgedTerms$Sights"
  | 6 => .array (.object "JudgedTerms$Shelf")
  | 7 => .array .boolean
  | _ => .object "JudgedTerms$Reader"
theorem nmX10 : ∀ a, a < 9 → ∀ b, b < 9 → a ≠ b → (TX10 a).2.1 ≠ (TX10 b).2.1 := by decide +kernel
theorem tyX10_ok : ∀ k, k < 9 → parseFieldDescriptor (TX10 k).2.2.1 = some (tyX10 k) := by decide +kernel
abbrev cX10_init : ByteArray := prog_1_method_1_code
def yX10_init : MethodName := ⟨RX10, "<init>", "()V"⟩
abbrev cX10_type : ByteArray := prog_1_method_2_code
def yX10_type : MethodName := ⟨RX10, "type", "(I)I"⟩
abbrev cX10_clear : ByteArray := prog_1_method_3_code
def yX10_clear : MethodName := ⟨RX10, "clear", "()I"⟩
abbrev cX10_laws : ByteArray := prog_1_method_4_code
def yX10_laws : MethodName := ⟨RX10, "laws", "()I"⟩
abbrev cX10_law : ByteArray := prog_1_method_5_code
def yX10_law : MethodName := ⟨RX10, "law", "(III)I"⟩
abbrev cX10_given : ByteArray := prog_1_method_6_code
def yX10_given : MethodName := ⟨RX10, "given", "(I)I"⟩
abbrev cX10_found : ByteArray := prog_1_method_7_code
def yX10_found : MethodName := ⟨RX10, "found", "(I)I"⟩
abbrev cX10_same : ByteArray := prog_1_method_8_code
def yX10_same : MethodName := ⟨RX10, "same", "()I"⟩
abbrev cX10_enters : ByteArray := prog_1_method_9_code
def yX10_enters : MethodName := ⟨RX10, "enters", "()I"⟩
abbrev cX10_drops : ByteArray := prog_1_method_10_code
def yX10_drops : MethodName := ⟨RX10, "drops", "(I)I"⟩
abbrev cX10_undo : ByteArray := prog_1_method_11_code
def yX10_undo : MethodName := ⟨RX10, "undo", "()I"⟩
abbrev cX10_entry : ByteArray := prog_1_method_12_code
def yX10_entry : MethodName := ⟨RX10, "entry", "(III)I"⟩
abbrev cX10_like : ByteArray := prog_1_method_13_code
def yX10_like : MethodName := ⟨RX10, "like", "(II)I"⟩
abbrev cX10_sees : ByteArray := prog_1_method_14_code
def yX10_sees : MethodName := ⟨RX10, "sees", "(I)I"⟩
abbrev cX10_forget : ByteArray := prog_1_method_15_code
def yX10_forget : MethodName := ⟨RX10, "forget", "()I"⟩
abbrev cX10_unseen : ByteArray := prog_1_method_16_code
def yX10_unseen : MethodName := ⟨RX10, "unseen", "()I"⟩
abbrev cX10_keep : ByteArray := prog_1_method_17_code
def yX10_keep : MethodName := ⟨RX10, "keep", "(I)I"⟩
abbrev cX10_back : ByteArray := prog_1_method_18_code
def yX10_back : MethodName := ⟨RX10, "back", "(I)I"⟩
abbrev cX10_count : ByteArray := prog_1_method_19_code
def yX10_count : MethodName := ⟨RX10, "count", "(I)I"⟩
def RX11 : String := "JudgedTermsModel"
def TX11 : u_T := fun k => match k with
  | 0 => ("JudgedTermsModel", "pool", "[I", true)
  | 1 => ("JudgedTermsModel", "top", "I", false)
  | 2 => ("JudgedTermsModel", "text", "[I", true)
  | 3 => ("JudgedTermsModel", "letters", "I", false)
  | 4 => ("JudgedTermsModel", "families", "I", false)
  | 5 => ("JudgedTermsModel", "constants", "I", false)
  | 6 => ("JudgedTermsModel", "isIndexed", "[Z", true)
  | 7 => ("JudgedTermsModel", "lawsAt", "I", false)
  | 8 => ("JudgedTermsModel", "entries", "I", false)
  | 9 => ("JudgedTermsModel", "entriesRead", "I", false)
  | 10 => ("JudgedTermsModel", "seenMany", "I", false)
  | 11 => ("JudgedTermsModel", "seenLike", "[I", true)
  | 12 => ("JudgedTermsModel", "deedSort", "[I", true)
  | 13 => ("JudgedTermsModel", "deedWhich", "[I", true)
  | 14 => ("JudgedTermsModel", "deedSigns", "[I", true)
  | 15 => ("JudgedTermsModel", "deeds", "I", false)
  | 16 => ("JudgedTermsModel", "images", "[I", true)
  | 17 => ("JudgedTermsModel", "imageMany", "[I", true)
  | 18 => ("JudgedTermsModel", "values", "[J", true)
  | 19 => ("JudgedTermsModel", "valuesMany", "I", false)
  | 20 => ("JudgedTermsModel", "envs", "[I", true)
  | 21 => ("JudgedTermsModel", "envsMany", "I", false)
  | 22 => ("JudgedTermsModel", "dataOp", "[I", true)
  | 23 => ("JudgedTermsModel", "dataFirst", "[I", true)
  | 24 => ("JudgedTermsModel", "end", "I", false)
  | 25 => ("JudgedTermsModel", "anyOp", "[I", true)
  | 26 => ("JudgedTermsModel", "anyFirst", "[I", true)
  | 27 => ("JudgedTermsModel", "isBig", "Z", false)
  | 28 => ("JudgedTermsModel", "tellValue", "[I", true)
  | 29 => ("JudgedTermsModel", "tellNames", "[I", true)
  | 30 => ("JudgedTermsModel", "deepOf", "[I", true)
  | 31 => ("JudgedTermsModel", "dataSecond", "[I", true)
  | 32 => ("JudgedTermsModel", "dataHad", "[I", true)
  | 33 => ("JudgedTermsModel", "waitValue", "[I", true)
  | 34 => ("JudgedTermsModel", "waitNames", "[I", true)
  | 35 => ("JudgedTermsModel", "partSort", "[I", true)
  | 36 => ("JudgedTermsModel", "partAt", "[I", true)
  | 37 => ("JudgedTermsModel", "partNames", "[I", true)
  | 38 => ("JudgedTermsModel", "partNeed", "[I", true)
  | 39 => ("JudgedTermsModel", "partType", "[I", true)
  | 40 => ("JudgedTermsModel", "partBase", "[I", true)
  | 41 => ("JudgedTermsModel", "partEnv", "[I", true)
  | 42 => ("JudgedTermsModel", "partOne", "[I", true)
  | 43 => ("JudgedTermsModel", "partTwo", "[I", true)
  | 44 => ("JudgedTermsModel", "parts", "I", false)
  | 45 => ("JudgedTermsModel", "isTypeDue", "Z", false)
  | 46 => ("JudgedTermsModel", "names", "I", false)
  | 47 => ("JudgedTermsModel", "need", "I", false)
  | 48 => ("JudgedTermsModel", "needType", "I", false)
  | 49 => ("JudgedTermsModel", "needBase", "I", false)
  | 50 => ("JudgedTermsModel", "needEnv", "I", false)
  | 51 => ("JudgedTermsModel", "nameType", "[I", true)
  | 52 => ("JudgedTermsModel", "ended", "I", false)
  | 53 => ("JudgedTermsModel", "endedAt", "I", false)
  | 54 => ("JudgedTermsModel", "form", "I", false)
  | 55 => ("JudgedTermsModel", "formType", "I", false)
  | 56 => ("JudgedTermsModel", "at", "I", false)
  | 57 => ("JudgedTermsModel", "fault", "I", false)
  | 58 => ("JudgedTermsModel", "wholeT", "I", false)
  | 59 => ("JudgedTermsModel", "wholeOne", "I", false)
  | 60 => ("JudgedTermsModel", "wholeTwo", "I", false)
  | _ => ("JudgedTermsModel", "wasIndexed", "[Z", true)
def tyX11 : Nat → FieldType := fun k => match k with
  | 0 => .array .int
  | 1 => .int
  | 2 => .array .int
  | 3 => .int
  | 4 => .int
  | 5 => .int
  | 6 => .array .boolean
  | 7 => .int
  | 8 => .int
  | 9 => .int
  | 10 => .int
  | 11 => .array .int
  | 12 => .array .int
  | 13 => .array .int
  | 14 => .array .int
  | 15 => .int
  | 16 => .array .int
  | 17 => .array .int
  | 18 => .array .long
  | 19 => .int
  | 20 => .array .int
  | 21 => .int
  | 22 => .array .int
  | 23 => .array .int
  | 24 => .int
  | 25 => .array .int
  | 26 => .array .int
  | 27 => .boolean
  | 28 => .array .int
  | 29 => .array .int
  | 30 => .array .int
  | 31 => .array .int
  | 32 => .array .int
  | 33 => .array .int
  | 34 => .array .int
  | 35 => .array .int
  | 36 => .array .int
  | 37 => .array .int
  | 38 => .array .int
  | 39 => .array .int
  | 40 => .array .int
  | 41 => .array .int
  | 42 => .array .int
  | 43 => .array .int
  | 44 => .int
  | 45 => .boolean
  | 46 => .int
  | 47 => .int
  | 48 => .int
  | 49 => .int
  | 50 => .int
  | 51 => .array .int
  | 52 => .int
  | 53 => .int
  | 54 => .int
  | 55 => .int
  | 56 => .int
  | 57 => .int
  | 58 => .int
  | 59 => .int
  | 60 => .int
  | _ => .array .boolean
theorem nmX11 : ∀ a, a < 62 → ∀ b, b < 62 → a ≠ b → (TX11 a).2.1 ≠ (TX11 b).2.1 := by decide +kernel
theorem tyX11_ok : ∀ k, k < 62 → parseFieldDescriptor (TX11 k).2.2.1 = some (tyX11 k) := by decide +kernel
abbrev cX11_init : ByteArray := prog_13_method_1_code
def yX11_init : MethodName := ⟨RX11, "<init>", "()V"⟩
abbrev cX11_in : ByteArray := prog_13_method_2_code
def yX11_in : MethodName := ⟨RX11, "in", "(III)Z"⟩
abbrev cX11_bring : ByteArray := prog_13_method_3_code
def yX11_bring : MethodName := ⟨RX11, "bring", "([II[III)V"⟩
abbrev cX11_isFamily : ByteArray := prog_13_method_4_code
def yX11_isFamily : MethodName := ⟨RX11, "isFamily", "(I)Z"⟩
abbrev cX11_partsOf : ByteArray := prog_13_method_5_code
def yX11_partsOf : MethodName := ⟨RX11, "partsOf", "(I)I"⟩
abbrev cX11_behind : ByteArray := prog_13_method_6_code
def yX11_behind : MethodName := ⟨RX11, "behind", "(I)I"⟩
abbrev cX11_longOf : ByteArray := prog_13_method_7_code
def yX11_longOf : MethodName := ⟨RX11, "longOf", "(I)I"⟩
abbrev cX11_isData : ByteArray := prog_13_method_8_code
def yX11_isData : MethodName := ⟨RX11, "isData", "(I)Z"⟩
abbrev cX11_isSame : ByteArray := prog_13_method_9_code
def yX11_isSame : MethodName := ⟨RX11, "isSame", "(II)Z"⟩
abbrev cX11_puts : ByteArray := prog_13_method_10_code
def yX11_puts : MethodName := ⟨RX11, "puts", "(I)V"⟩
abbrev cX11_putsForm : ByteArray := prog_13_method_11_code
def yX11_putsForm : MethodName := ⟨RX11, "putsForm", "(I)V"⟩
abbrev cX11_toSlot : ByteArray := prog_13_method_12_code
def yX11_toSlot : MethodName := ⟨RX11, "toSlot", "(II)V"⟩
abbrev cX11_lays : ByteArray := prog_13_method_13_code
def yX11_lays : MethodName := ⟨RX11, "lays", "(IIII)I"⟩
abbrev cX11_sortOf : ByteArray := prog_13_method_14_code
def yX11_sortOf : MethodName := ⟨RX11, "sortOf", "(I)I"⟩
abbrev cX11_aOf : ByteArray := prog_13_method_15_code
def yX11_aOf : MethodName := ⟨RX11, "aOf", "(I)I"⟩
abbrev cX11_bOf : ByteArray := prog_13_method_16_code
def yX11_bOf : MethodName := ⟨RX11, "bOf", "(I)I"⟩
abbrev cX11_levelOf : ByteArray := prog_13_method_17_code
def yX11_levelOf : MethodName := ⟨RX11, "levelOf", "(I)I"⟩
abbrev cX11_with : ByteArray := prog_13_method_18_code
def yX11_with : MethodName := ⟨RX11, "with", "(III)I"⟩
abbrev cX11_taken : ByteArray := prog_13_method_19_code
def yX11_taken : MethodName := ⟨RX11, "taken", "(II)I"⟩
abbrev cX11_valueAt : ByteArray := prog_13_method_20_code
def yX11_valueAt : MethodName := ⟨RX11, "valueAt", "(III)I"⟩
abbrev cX11_isOpen : ByteArray := prog_13_method_21_code
def yX11_isOpen : MethodName := ⟨RX11, "isOpen", "(I)Z"⟩
abbrev cX11_worksData : ByteArray := prog_13_method_22_code
def yX11_worksData : MethodName := ⟨RX11, "worksData", "(III)I"⟩
abbrev cX11_gives : ByteArray := prog_13_method_23_code
def yX11_gives : MethodName := ⟨RX11, "gives", "(II)I"⟩
abbrev cX11_works : ByteArray := prog_13_method_24_code
def yX11_works : MethodName := ⟨RX11, "works", "(III)I"⟩
abbrev cX11_checks : ByteArray := prog_13_method_25_code
def yX11_checks : MethodName := ⟨RX11, "checks", "(I)V"⟩
abbrev cX11_tells : ByteArray := prog_13_method_26_code
def yX11_tells : MethodName := ⟨RX11, "tells", "(III)V"⟩
abbrev cX11_tellsSign : ByteArray := prog_13_method_27_code
def yX11_tellsSign : MethodName := ⟨RX11, "tellsSign", "(II)V"⟩
abbrev cX11_told : ByteArray := prog_13_method_28_code
def yX11_told : MethodName := ⟨RX11, "told", "(III)I"⟩
abbrev cX11_toldValue : ByteArray := prog_13_method_29_code
def yX11_toldValue : MethodName := ⟨RX11, "toldValue", "(IIII)I"⟩
abbrev cX11_typeBy : ByteArray := prog_13_method_30_code
def yX11_typeBy : MethodName := ⟨RX11, "typeBy", "(IIII)I"⟩
abbrev cX11_spread : ByteArray := prog_13_method_31_code
def yX11_spread : MethodName := ⟨RX11, "spread", "(II)I"⟩
abbrev cX11_longBy : ByteArray := prog_13_method_32_code
def yX11_longBy : MethodName := ⟨RX11, "longBy", "(III)I"⟩
abbrev cX11_fails : ByteArray := prog_13_method_33_code
def yX11_fails : MethodName := ⟨RX11, "fails", "(I)V"⟩
abbrev cX11_here : ByteArray := prog_13_method_34_code
def yX11_here : MethodName := ⟨RX11, "here", "()I"⟩
abbrev cX11_begins : ByteArray := prog_13_method_35_code
def yX11_begins : MethodName := ⟨RX11, "begins", "(II)V"⟩
abbrev cX11_dueType : ByteArray := prog_13_method_36_code
def yX11_dueType : MethodName := ⟨RX11, "dueType", "()V"⟩
abbrev cX11_dueTerm : ByteArray := prog_13_method_37_code
def yX11_dueTerm : MethodName := ⟨RX11, "dueTerm", "(IIII)V"⟩
abbrev cX11_endsType : ByteArray := prog_13_method_38_code
def yX11_endsType : MethodName := ⟨RX11, "endsType", "(II)V"⟩
abbrev cX11_endsGiven : ByteArray := prog_13_method_39_code
def yX11_endsGiven : MethodName := ⟨RX11, "endsGiven", "(II)V"⟩
abbrev cX11_isNeeded : ByteArray := prog_13_method_40_code
def yX11_isNeeded : MethodName := ⟨RX11, "isNeeded", "(I)Z"⟩
abbrev cX11_endsFound : ByteArray := prog_13_method_41_code
def yX11_endsFound : MethodName := ⟨RX11, "endsFound", "(III)V"⟩
abbrev cX11_readsType : ByteArray := prog_13_method_42_code
def yX11_readsType : MethodName := ⟨RX11, "readsType", "(I)V"⟩
abbrev cX11_typeNow : ByteArray := prog_13_method_43_code
def yX11_typeNow : MethodName := ⟨RX11, "typeNow", "(II)I"⟩
abbrev cX11_readsSimple : ByteArray := prog_13_method_44_code
def yX11_readsSimple : MethodName := ⟨RX11, "readsSimple", "(IIII)V"⟩
abbrev cX11_readsEntry : ByteArray := prog_13_method_45_code
def yX11_readsEntry : MethodName := ⟨RX11, "readsEntry", "()V"⟩
abbrev cX11_readsGiven : ByteArray := prog_13_method_46_code
def yX11_readsGiven : MethodName := ⟨RX11, "readsGiven", "(I)Z"⟩
abbrev cX11_readsFound : ByteArray := prog_13_method_47_code
def yX11_readsFound : MethodName := ⟨RX11, "readsFound", "(I)V"⟩
abbrev cX11_canStand : ByteArray := prog_13_method_48_code
def yX11_canStand : MethodName := ⟨RX11, "canStand", "(I)Z"⟩
abbrev cX11_reads : ByteArray := prog_13_method_49_code
def yX11_reads : MethodName := ⟨RX11, "reads", "()V"⟩
abbrev cX11_again : ByteArray := prog_13_method_50_code
def yX11_again : MethodName := ⟨RX11, "again", "(I)V"⟩
abbrev cX11_joined : ByteArray := prog_13_method_51_code
def yX11_joined : MethodName := ⟨RX11, "joined", "(III)I"⟩
abbrev cX11_namesOne : ByteArray := prog_13_method_52_code
def yX11_namesOne : MethodName := ⟨RX11, "namesOne", "(II)V"⟩
abbrev cX11_handsType : ByteArray := prog_13_method_53_code
def yX11_handsType : MethodName := ⟨RX11, "handsType", "()V"⟩
abbrev cX11_valueOf : ByteArray := prog_13_method_54_code
def yX11_valueOf : MethodName := ⟨RX11, "valueOf", "(I)I"⟩
abbrev cX11_handsGiven : ByteArray := prog_13_method_55_code
def yX11_handsGiven : MethodName := ⟨RX11, "handsGiven", "(I)V"⟩
abbrev cX11_handsTaken : ByteArray := prog_13_method_56_code
def yX11_handsTaken : MethodName := ⟨RX11, "handsTaken", "(I)V"⟩
abbrev cX11_handsTerm : ByteArray := prog_13_method_57_code
def yX11_handsTerm : MethodName := ⟨RX11, "handsTerm", "()V"⟩
abbrev cX11_readsWhole : ByteArray := prog_13_method_58_code
def yX11_readsWhole : MethodName := ⟨RX11, "readsWhole", "()V"⟩
abbrev cX11_starts : ByteArray := prog_13_method_59_code
def yX11_starts : MethodName := ⟨RX11, "starts", "()V"⟩
abbrev cX11_wholeType : ByteArray := prog_13_method_60_code
def yX11_wholeType : MethodName := ⟨RX11, "wholeType", "()I"⟩
abbrev cX11_wholeGiven : ByteArray := prog_13_method_61_code
def yX11_wholeGiven : MethodName := ⟨RX11, "wholeGiven", "(I)I"⟩
abbrev cX11_wants : ByteArray := prog_13_method_62_code
def yX11_wants : MethodName := ⟨RX11, "wants", "(Z)V"⟩
abbrev cX11_readsTerms : ByteArray := prog_13_method_63_code
def yX11_readsTerms : MethodName := ⟨RX11, "readsTerms", "(I)V"⟩
abbrev cX11_type : ByteArray := prog_13_method_64_code
def yX11_type : MethodName := ⟨RX11, "type", "(I)I"⟩
abbrev cX11_clear : ByteArray := prog_13_method_65_code
def yX11_clear : MethodName := ⟨RX11, "clear", "()I"⟩
abbrev cX11_nextFamily : ByteArray := prog_13_method_66_code
def yX11_nextFamily : MethodName := ⟨RX11, "nextFamily", "()V"⟩
abbrev cX11_nextConstant : ByteArray := prog_13_method_67_code
def yX11_nextConstant : MethodName := ⟨RX11, "nextConstant", "()V"⟩
abbrev cX11_readsLaws : ByteArray := prog_13_method_68_code
def yX11_readsLaws : MethodName := ⟨RX11, "readsLaws", "()I"⟩
abbrev cX11_laws : ByteArray := prog_13_method_69_code
def yX11_laws : MethodName := ⟨RX11, "laws", "()I"⟩
abbrev cX11_signAt : ByteArray := prog_13_method_70_code
def yX11_signAt : MethodName := ⟨RX11, "signAt", "(II)I"⟩
abbrev cX11_law : ByteArray := prog_13_method_71_code
def yX11_law : MethodName := ⟨RX11, "law", "(III)I"⟩
abbrev cX11_signOrMany : ByteArray := prog_13_method_72_code
def yX11_signOrMany : MethodName := ⟨RX11, "signOrMany", "(II)I"⟩
abbrev cX11_given : ByteArray := prog_13_method_73_code
def yX11_given : MethodName := ⟨RX11, "given", "(I)I"⟩
abbrev cX11_found : ByteArray := prog_13_method_74_code
def yX11_found : MethodName := ⟨RX11, "found", "(I)I"⟩
abbrev cX11_same : ByteArray := prog_13_method_75_code
def yX11_same : MethodName := ⟨RX11, "same", "()I"⟩
abbrev cX11_notes : ByteArray := prog_13_method_76_code
def yX11_notes : MethodName := ⟨RX11, "notes", "(II)V"⟩
abbrev cX11_isEntry : ByteArray := prog_13_method_77_code
def yX11_isEntry : MethodName := ⟨RX11, "isEntry", "(I)Z"⟩
abbrev cX11_enters : ByteArray := prog_13_method_78_code
def yX11_enters : MethodName := ⟨RX11, "enters", "()I"⟩
abbrev cX11_goes : ByteArray := prog_13_method_79_code
def yX11_goes : MethodName := ⟨RX11, "goes", "(I)V"⟩
abbrev cX11_drops : ByteArray := prog_13_method_80_code
def yX11_drops : MethodName := ⟨RX11, "drops", "(I)I"⟩
abbrev cX11_undo : ByteArray := prog_13_method_81_code
def yX11_undo : MethodName := ⟨RX11, "undo", "()I"⟩
abbrev cX11_entry : ByteArray := prog_13_method_82_code
def yX11_entry : MethodName := ⟨RX11, "entry", "(III)I"⟩
abbrev cX11_likeOf : ByteArray := prog_13_method_83_code
def yX11_likeOf : MethodName := ⟨RX11, "likeOf", "(II)I"⟩
abbrev cX11_like : ByteArray := prog_13_method_84_code
def yX11_like : MethodName := ⟨RX11, "like", "(II)I"⟩
abbrev cX11_sees : ByteArray := prog_13_method_85_code
def yX11_sees : MethodName := ⟨RX11, "sees", "(I)I"⟩
abbrev cX11_forget : ByteArray := prog_13_method_86_code
def yX11_forget : MethodName := ⟨RX11, "forget", "()I"⟩
abbrev cX11_unseen : ByteArray := prog_13_method_87_code
def yX11_unseen : MethodName := ⟨RX11, "unseen", "()I"⟩
abbrev cX11_keep : ByteArray := prog_13_method_88_code
def yX11_keep : MethodName := ⟨RX11, "keep", "(I)I"⟩
abbrev cX11_back : ByteArray := prog_13_method_89_code
def yX11_back : MethodName := ⟨RX11, "back", "(I)I"⟩
abbrev cX11_count : ByteArray := prog_13_method_90_code
def yX11_count : MethodName := ⟨RX11, "count", "(I)I"⟩
def RJx8e188 : String := "java/lang/Cloneable"
def TJx8e188 : u_T := fun k => match k with
  | _ => ("", "", "", false)
def tyJx8e188 : Nat → FieldType := fun k => match k with
  | _ => .int
theorem nmJx8e188 : ∀ a, a < 0 → ∀ b, b < 0 → a ≠ b → (TJx8e188 a).2.1 ≠ (TJx8e188 b).2.1 := by decide +kernel
theorem tyJx8e188_ok : ∀ k, k < 0 → parseFieldDescriptor (TJx8e188 k).2.2.1 = some (tyJx8e188 k) := by decide +kernel
def RJ9 : String := "java/lang/Math"
def TJ9 : u_T := fun k => match k with
  | _ => ("", "", "", false)
def tyJ9 : Nat → FieldType := fun k => match k with
  | _ => .int
theorem nmJ9 : ∀ a, a < 0 → ∀ b, b < 0 → a ≠ b → (TJ9 a).2.1 ≠ (TJ9 b).2.1 := by decide +kernel
theorem tyJ9_ok : ∀ k, k < 0 → parseFieldDescriptor (TJ9 k).2.2.1 = some (tyJ9 k) := by decide +kernel
abbrev cJ9_min_7cf53 : ByteArray := prog_15_method_69_code
def yJ9_min_7cf53 : MethodName := ⟨RJ9, "min", "(II)I"⟩
def RJ10 : String := "java/lang/System"
def TJ10 : u_T := fun k => match k with
  | _ => ("", "", "", false)
def tyJ10 : Nat → FieldType := fun k => match k with
  | _ => .int
theorem nmJ10 : ∀ a, a < 0 → ∀ b, b < 0 → a ≠ b → (TJ10 a).2.1 ≠ (TJ10 b).2.1 := by decide +kernel
theorem tyJ10_ok : ∀ k, k < 0 → parseFieldDescriptor (TJ10 k).2.2.1 = some (tyJ10 k) := by decide +kernel
def RJ7 : String := "java/util/Arrays"
def TJ7 : u_T := fun k => match k with
  | _ => ("", "", "", false)
def tyJ7 : Nat → FieldType := fun k => match k with
  | _ => .int
theorem nmJ7 : ∀ a, a < 0 → ∀ b, b < 0 → a ≠ b → (TJ7 a).2.1 ≠ (TJ7 b).2.1 := by decide +kernel
theorem tyJ7_ok : ∀ k, k < 0 → parseFieldDescriptor (TJ7 k).2.2.1 = some (tyJ7 k) := by decide +kernel
abbrev cJ7_checkLength_df160 : ByteArray := prog_17_method_131_code
def yJ7_checkLength_df160 : MethodName := ⟨RJ7, "checkLength", "(II)V"⟩
abbrev cJ7_copyOfRange_feecc : ByteArray := prog_17_method_136_code
def yJ7_copyOfRange_feecc : MethodName := ⟨RJ7, "copyOfRange", "([III)[I"⟩
abbrev cJ7_copyOfRangeInt_feecc : ByteArray := prog_17_method_137_code
def yJ7_copyOfRangeInt_feecc : MethodName := ⟨RJ7, "copyOfRangeInt", "([III)[I"⟩
def RL : String := "JudgedTermsLaw"
abbrev cL_law : ByteArray := code
def yL_law : MethodName := ⟨RL, "law", "([I)Z"⟩
abbrev vwCl : List vw_C := [(RX0, TX0, 2), (RX1, TX1, 1), (RX2, TX2, 3), (RX3, TX3, 4), (RX4, TX4, 15), (RX5, TX5, 2), (RX6, TX6, 3), (RX7, TX7, 6), (RX8, TX8, 7), (RX9, TX9, 4), (RX10, TX10, 9), (RX11, TX11, 62)]
set_option maxRecDepth 20000 in
theorem ixX0 : ∀ w ∈ u_ws RX0 TX0 2, w ∈ lw_tbl.filter goodWord := fun w hw => by
  have hg := List.all_eq_true.mp (show (u_ws RX0 TX0 2).all goodWord = true from by decide +kernel) w hw
  rw [show u_ws RX0 TX0 2 = ([819, 821] : List Nat).filterMap (fun i => lw_tbl[i]?) from by decide +kernel] at hw
  obtain ⟨i, -, hi⟩ := List.mem_filterMap.mp hw
  exact List.mem_filter.mpr ⟨List.mem_of_getElem? hi, hg⟩
set_option maxRecDepth 20000 in
theorem ixX1 : ∀ w ∈ u_ws RX1 TX1 1, w ∈ lw_tbl.filter goodWord := fun w hw => by
  have hg := List.all_eq_true.mp (show (u_ws RX1 TX1 1).all goodWord = true from by decide +kernel) w hw
  rw [show u_ws RX1 TX1 1 = ([704] : List Nat).filterMap (fun i => lw_tbl[i]?) from by decide +kernel] at hw
  obtain ⟨i, -, hi⟩ := List.mem_filterMap.mp hw
  exact List.mem_filter.mpr ⟨List.mem_of_getElem? hi, hg⟩
set_option maxRecDepth 20000 in
theorem ixX2 : ∀ w ∈ u_ws RX2 TX2 3, w ∈ lw_tbl.filter goodWord := fun w hw => by
  have hg := List.all_eq_true.mp (show (u_ws RX2 TX2 3).all goodWord = true from by decide +kernel) w hw
  rw [show u_ws RX2 TX2 3 = ([176, 178, 180] : List Nat).filterMap (fun i => lw_tbl[i]?) from by decide +kernel] at hw
  obtain ⟨i, -, hi⟩ := List.mem_filterMap.mp hw
  exact List.mem_filter.mpr ⟨List.mem_of_getElem? hi, hg⟩
set_option maxRecDepth 20000 in
theorem ixX3 : ∀ w ∈ u_ws RX3 TX3 4, w ∈ lw_tbl.filter goodWord := fun w hw => by
  have hg := List.all_eq_true.mp (show (u_ws RX3 TX3 4).all goodWord = true from by decide +kernel) w hw
  rw [show u_ws RX3 TX3 4 = ([137, 139, 141, 143] : List Nat).filterMap (fun i => lw_tbl[i]?) from by decide +kernel] at hw
  obtain ⟨i, -, hi⟩ := List.mem_filterMap.mp hw
  exact List.mem_filter.mpr ⟨List.mem_of_getElem? hi, hg⟩
set_option maxRecDepth 20000 in
theorem ixX4 : ∀ w ∈ u_ws RX4 TX4 15, w ∈ lw_tbl.filter goodWord := fun w hw => by
  have hg := List.all_eq_true.mp (show (u_ws RX4 TX4 15).all goodWord = true from by decide +kernel) w hw
  rw [show u_ws RX4 TX4 15 = ([307, 309, 311, 313, 315, 317, 319, 321, 323, 325, 327, 329, 331, 333, 335] : List Nat).filterMap (fun i => lw_tbl[i]?) from by decide +kernel] at hw
  obtain ⟨i, -, hi⟩ := List.mem_filterMap.mp hw
  exact List.mem_filter.mpr ⟨List.mem_of_getElem? hi, hg⟩
set_option maxRecDepth 20000 in
theorem ixX5 : ∀ w ∈ u_ws RX5 TX5 2, w ∈ lw_tbl.filter goodWord := fun w hw => by
  have hg := List.all_eq_true.mp (show (u_ws RX5 TX5 2).all goodWord = true from by decide +kernel) w hw
  rw [show u_ws RX5 TX5 2 = ([158, 160] : List Nat).filterMap (fun i => lw_tbl[i]?) from by decide +kernel] at hw
  obtain ⟨i, -, hi⟩ := List.mem_filterMap.mp hw
  exact List.mem_filter.mpr ⟨List.mem_of_getElem? hi, hg⟩
set_option maxRecDepth 20000 in
theorem ixX6 : ∀ w ∈ u_ws RX6 TX6 3, w ∈ lw_tbl.filter goodWord := fun w hw => by
  have hg := List.all_eq_true.mp (show (u_ws RX6 TX6 3).all goodWord = true from by decide +kernel) w hw
  rw [show u_ws RX6 TX6 3 = ([194, 196, 198] : List Nat).filterMap (fun i => lw_tbl[i]?) from by decide +kernel] at hw
  obtain ⟨i, -, hi⟩ := List.mem_filterMap.mp hw
  exact List.mem_filter.mpr ⟨List.mem_of_getElem? hi, hg⟩
set_option maxRecDepth 20000 in
theorem ixX7 : ∀ w ∈ u_ws RX7 TX7 6, w ∈ lw_tbl.filter goodWord := fun w hw => by
  have hg := List.all_eq_true.mp (show (u_ws RX7 TX7 6).all goodWord = true from by decide +kernel) w hw
  rw [show u_ws RX7 TX7 6 = ([217, 219, 221, 223, 225, 227] : List Nat).filterMap (fun i => lw_tbl[i]?) from by decide +kernel] at hw
  obtain ⟨i, -, hi⟩ := List.mem_filterMap.mp hw
  exact List.mem_filter.mpr ⟨List.mem_of_getElem? hi, hg⟩
set_option maxRecDepth 20000 in
theorem ixX8 : ∀ w ∈ u_ws RX8 TX8 7, w ∈ lw_tbl.filter goodWord := fun w hw => by
  have hg := List.all_eq_true.mp (show (u_ws RX8 TX8 7).all goodWord = true from by decide +kernel) w hw
  rw [show u_ws RX8 TX8 7 = ([245, 247, 249, 251, 253, 255, 257] : List Nat).filterMap (fun i => lw_tbl[i]?) from by decide +kernel] at hw
  obtain ⟨i, -, hi⟩ := List.mem_filterMap.mp hw
  exact List.mem_filter.mpr ⟨List.mem_of_getElem? hi, hg⟩
set_option maxRecDepth 20000 in
theorem ixX9 : ∀ w ∈ u_ws RX9 TX9 4, w ∈ lw_tbl.filter goodWord := fun w hw => by
  have hg := List.all_eq_true.mp (show (u_ws RX9 TX9 4).all goodWord = true from by decide +kernel) w hw
  rw [show u_ws RX9 TX9 4 = ([272, 274, 276, 278] : List Nat).filterMap (fun i => lw_tbl[i]?) from by decide +kernel] at hw
  obtain ⟨i, -, hi⟩ := List.mem_filterMap.mp hw
  exact List.mem_filter.mpr ⟨List.mem_of_getElem? hi, hg⟩
set_option maxRecDepth 20000 in
theorem ixX10 : ∀ w ∈ u_ws RX10 TX10 9, w ∈ lw_tbl.filter goodWord := fun w hw => by
  have hg := List.all_eq_true.mp (show (u_ws RX10 TX10 9).all goodWord = true from by decide +kernel) w hw
  rw [show u_ws RX10 TX10 9 = ([347, 349, 351, 353, 355, 357, 359, 361, 363] : List Nat).filterMap (fun i => lw_tbl[i]?) from by decide +kernel] at hw
  obtain ⟨i, -, hi⟩ := List.mem_filterMap.mp hw
  exact List.mem_filter.mpr ⟨List.mem_of_getElem? hi, hg⟩
set_option maxRecDepth 20000 in
theorem ixX11 : ∀ w ∈ u_ws RX11 TX11 62, w ∈ lw_tbl.filter goodWord := fun w hw => by
  have hg := List.all_eq_true.mp (show (u_ws RX11 TX11 62).all goodWord = true from by decide +kernel) w hw
  rw [show u_ws RX11 TX11 62 = ([968, 970, 972, 974, 976, 978, 980, 982, 984, 986, 988, 990, 992, 994, 996, 998, 1000, 1002, 1004, 1006, 1008, 1010, 1012, 1014, 1016, 1018, 1020, 1022, 1024, 1026, 1028, 1030, 1032, 1034, 1036, 1038, 1040, 1042, 1044, 1046, 1048, 1050, 1052, 1054, 1056, 1058, 1060, 1062, 1064, 1066, 1068, 1070, 1072, 1074, 1076, 1078, 1080, 1082, 1084, 1086, 1088, 1090] : List Nat).filterMap (fun i => lw_tbl[i]?) from by decide +kernel] at hw
  obtain ⟨i, -, hi⟩ := List.mem_filterMap.mp hw
  exact List.mem_filter.mpr ⟨List.mem_of_getElem? hi, hg⟩

-- ===== PART A: goes FIRST, ahead of the names: the tables' words, and 'selects' of the private methods out of them =====
/-- a private method of a class that the tables say can be made, by its rows of tables_1 -/
def lw_okq (q : MethodName × Nat) : Prop := (q.1.cls ≠ "java/lang/invoke/MethodHandle" ∧ q.1.cls ≠ "java/lang/invoke/VarHandle") ∧ Cond.instantiable q.1.cls q.2 ∈ tables_1 ∧ Cond.privateMethod q.1 ∈ tables_1 ∧ Cond.instanceMethod q.1 ∈ tables_1
theorem lw_p0 : lw_okq (⟨"ProofLedger$Context", "forgetPairs", "(I)V"⟩, 11) := ⟨⟨by decide +kernel, by decide +kernel⟩, List.mem_of_getElem? (i := 210) (by decide +kernel), List.mem_of_getElem? (i := 414) (by decide +kernel), List.mem_of_getElem? (i := 415) (by decide +kernel)⟩
theorem lw_p1 : lw_okq (⟨"ProofLedger$Text", "scanWord", "()Z"⟩, 8) := ⟨⟨by decide +kernel, by decide +kernel⟩, List.mem_of_getElem? (i := 25) (by decide +kernel), List.mem_of_getElem? (i := 438) (by decide +kernel), List.mem_of_getElem? (i := 439) (by decide +kernel)⟩
theorem lw_p2 : lw_okq (⟨"ProofLedger$Reader", "beginUnlabelled", "(I)I"⟩, 9) := ⟨⟨by decide +kernel, by decide +kernel⟩, List.mem_of_getElem? (i := 204) (by decide +kernel), List.mem_of_getElem? (i := 452) (by decide +kernel), List.mem_of_getElem? (i := 453) (by decide +kernel)⟩
theorem lw_p3 : lw_okq (⟨"ProofLedger$Reader", "beginNames", "(I)I"⟩, 9) := ⟨⟨by decide +kernel, by decide +kernel⟩, List.mem_of_getElem? (i := 204) (by decide +kernel), List.mem_of_getElem? (i := 464) (by decide +kernel), List.mem_of_getElem? (i := 465) (by decide +kernel)⟩
theorem lw_p4 : lw_okq (⟨"ProofLedger$Reader", "endNames", "(I)I"⟩, 9) := ⟨⟨by decide +kernel, by decide +kernel⟩, List.mem_of_getElem? (i := 204) (by decide +kernel), List.mem_of_getElem? (i := 468) (by decide +kernel), List.mem_of_getElem? (i := 469) (by decide +kernel)⟩
theorem lw_p5 : lw_okq (⟨"ProofLedger$Reader", "takeKind", "(I)I"⟩, 9) := ⟨⟨by decide +kernel, by decide +kernel⟩, List.mem_of_getElem? (i := 204) (by decide +kernel), List.mem_of_getElem? (i := 472) (by decide +kernel), List.mem_of_getElem? (i := 473) (by decide +kernel)⟩
theorem lw_p6 : lw_okq (⟨"ProofLedger$Reader", "declare", "()I"⟩, 9) := ⟨⟨by decide +kernel, by decide +kernel⟩, List.mem_of_getElem? (i := 204) (by decide +kernel), List.mem_of_getElem? (i := 476) (by decide +kernel), List.mem_of_getElem? (i := 477) (by decide +kernel)⟩
theorem lw_p7 : lw_okq (⟨"ProofLedger$Reader", "endSymbols", "(I)I"⟩, 9) := ⟨⟨by decide +kernel, by decide +kernel⟩, List.mem_of_getElem? (i := 204) (by decide +kernel), List.mem_of_getElem? (i := 488) (by decide +kernel), List.mem_of_getElem? (i := 489) (by decide +kernel)⟩
theorem lw_p8 : lw_okq (⟨"ProofLedger$Reader", "beginAssertion", "(I)V"⟩, 9) := ⟨⟨by decide +kernel, by decide +kernel⟩, List.mem_of_getElem? (i := 204) (by decide +kernel), List.mem_of_getElem? (i := 492) (by decide +kernel), List.mem_of_getElem? (i := 493) (by decide +kernel)⟩
theorem lw_p9 : lw_okq (⟨"ProofLedger$Reader", "mandatoryVariables", "(I)J"⟩, 9) := ⟨⟨by decide +kernel, by decide +kernel⟩, List.mem_of_getElem? (i := 204) (by decide +kernel), List.mem_of_getElem? (i := 500) (by decide +kernel), List.mem_of_getElem? (i := 501) (by decide +kernel)⟩
theorem lw_p10 : lw_okq (⟨"ProofLedger$Reader", "isActiveHypothesis", "(I)Z"⟩, 9) := ⟨⟨by decide +kernel, by decide +kernel⟩, List.mem_of_getElem? (i := 204) (by decide +kernel), List.mem_of_getElem? (i := 504) (by decide +kernel), List.mem_of_getElem? (i := 505) (by decide +kernel)⟩
theorem lw_p11 : lw_okq (⟨"ProofLedger$Reader", "keepPairs", "(J)V"⟩, 9) := ⟨⟨by decide +kernel, by decide +kernel⟩, List.mem_of_getElem? (i := 204) (by decide +kernel), List.mem_of_getElem? (i := 508) (by decide +kernel), List.mem_of_getElem? (i := 509) (by decide +kernel)⟩
theorem lw_p12 : lw_okq (⟨"ProofLedger$Reader", "endProof", "()I"⟩, 9) := ⟨⟨by decide +kernel, by decide +kernel⟩, List.mem_of_getElem? (i := 204) (by decide +kernel), List.mem_of_getElem? (i := 521) (by decide +kernel), List.mem_of_getElem? (i := 522) (by decide +kernel)⟩
theorem lw_p13 : lw_okq (⟨"ProofLedger$Reader", "takeLabel", "(J)I"⟩, 9) := ⟨⟨by decide +kernel, by decide +kernel⟩, List.mem_of_getElem? (i := 204) (by decide +kernel), List.mem_of_getElem? (i := 541) (by decide +kernel), List.mem_of_getElem? (i := 542) (by decide +kernel)⟩
theorem lw_p14 : lw_okq (⟨"ProofLedger$Reader", "declareConstant", "(J)I"⟩, 9) := ⟨⟨by decide +kernel, by decide +kernel⟩, List.mem_of_getElem? (i := 204) (by decide +kernel), List.mem_of_getElem? (i := 565) (by decide +kernel), List.mem_of_getElem? (i := 566) (by decide +kernel)⟩
theorem lw_p15 : lw_okq (⟨"ProofLedger$Reader", "declareVariable", "(J)I"⟩, 9) := ⟨⟨by decide +kernel, by decide +kernel⟩, List.mem_of_getElem? (i := 204) (by decide +kernel), List.mem_of_getElem? (i := 569) (by decide +kernel), List.mem_of_getElem? (i := 570) (by decide +kernel)⟩
def lw_privs_1 : List (MethodName × Nat) := [(⟨"ProofLedger$Context", "forgetPairs", "(I)V"⟩, 11), (⟨"ProofLedger$Text", "scanWord", "()Z"⟩, 8), (⟨"ProofLedger$Reader", "beginUnlabelled", "(I)I"⟩, 9), (⟨"ProofLedger$Reader", "beginNames", "(I)I"⟩, 9), (⟨"ProofLedger$Reader", "endNames", "(I)I"⟩, 9), (⟨"ProofLedger$Reader", "takeKind", "(I)I"⟩, 9), (⟨"ProofLedger$Reader", "declare", "()I"⟩, 9), (⟨"ProofLedger$Reader", "endSymbols", "(I)I"⟩, 9), (⟨"ProofLedger$Reader", "beginAssertion", "(I)V"⟩, 9), (⟨"ProofLedger$Reader", "mandatoryVariables", "(I)J"⟩, 9), (⟨"ProofLedger$Reader", "isActiveHypothesis", "(I)Z"⟩, 9), (⟨"ProofLedger$Reader", "keepPairs", "(J)V"⟩, 9), (⟨"ProofLedger$Reader", "endProof", "()I"⟩, 9), (⟨"ProofLedger$Reader", "takeLabel", "(J)I"⟩, 9), (⟨"ProofLedger$Reader", "declareConstant", "(J)I"⟩, 9), (⟨"ProofLedger$Reader", "declareVariable", "(J)I"⟩, 9)]
theorem lw_r1 : ∀ q ∈ lw_privs_1, lw_okq q := List.forall_mem_cons.mpr ⟨lw_p0, List.forall_mem_cons.mpr ⟨lw_p1, List.forall_mem_cons.mpr ⟨lw_p2, List.forall_mem_cons.mpr ⟨lw_p3, List.forall_mem_cons.mpr ⟨lw_p4, List.forall_mem_cons.mpr ⟨lw_p5, List.forall_mem_cons.mpr ⟨lw_p6, List.forall_mem_cons.mpr ⟨lw_p7, List.forall_mem_cons.mpr ⟨lw_p8, List.forall_mem_cons.mpr ⟨lw_p9, List.forall_mem_cons.mpr ⟨lw_p10, List.forall_mem_cons.mpr ⟨lw_p11, List.forall_mem_cons.mpr ⟨lw_p12, List.forall_mem_cons.mpr ⟨lw_p13, List.forall_mem_cons.mpr ⟨lw_p14, List.forall_mem_cons.mpr ⟨lw_p15, fun _ h => absurd h List.not_mem_nil⟩⟩⟩⟩⟩⟩⟩⟩⟩⟩⟩⟩⟩⟩⟩⟩
theorem lw_p16 : lw_okq (⟨"ProofLedger$Reader", "isActive", "(I)Z"⟩, 9) := ⟨⟨by decide +kernel, by decide +kernel⟩, List.mem_of_getElem? (i := 204) (by decide +kernel), List.mem_of_getElem? (i := 573) (by decide +kernel), List.mem_of_getElem? (i := 574) (by decide +kernel)⟩
theorem lw_p17 : lw_okq (⟨"ProofLedger$Reader", "takeApart", "(I)I"⟩, 9) := ⟨⟨by decide +kernel, by decide +kernel⟩, List.mem_of_getElem? (i := 204) (by decide +kernel), List.mem_of_getElem? (i := 577) (by decide +kernel), List.mem_of_getElem? (i := 578) (by decide +kernel)⟩
theorem lw_p18 : lw_okq (⟨"ProofLedger$Reader", "meaningOf", "(I)I"⟩, 9) := ⟨⟨by decide +kernel, by decide +kernel⟩, List.mem_of_getElem? (i := 204) (by decide +kernel), List.mem_of_getElem? (i := 581) (by decide +kernel), List.mem_of_getElem? (i := 582) (by decide +kernel)⟩
theorem lw_p19 : lw_okq (⟨"ProofLedger$Reader", "takeType", "(I)I"⟩, 9) := ⟨⟨by decide +kernel, by decide +kernel⟩, List.mem_of_getElem? (i := 204) (by decide +kernel), List.mem_of_getElem? (i := 586) (by decide +kernel), List.mem_of_getElem? (i := 587) (by decide +kernel)⟩
theorem lw_p20 : lw_okq (⟨"ProofLedger$Reader", "takeFloating", "(I)I"⟩, 9) := ⟨⟨by decide +kernel, by decide +kernel⟩, List.mem_of_getElem? (i := 204) (by decide +kernel), List.mem_of_getElem? (i := 594) (by decide +kernel), List.mem_of_getElem? (i := 595) (by decide +kernel)⟩
theorem lw_p21 : lw_okq (⟨"ProofLedger$Reader", "isTyped", "(I)Z"⟩, 9) := ⟨⟨by decide +kernel, by decide +kernel⟩, List.mem_of_getElem? (i := 204) (by decide +kernel), List.mem_of_getElem? (i := 598) (by decide +kernel), List.mem_of_getElem? (i := 599) (by decide +kernel)⟩
theorem lw_p22 : lw_okq (⟨"ProofLedger$Reader", "takeSymbol", "(I)I"⟩, 9) := ⟨⟨by decide +kernel, by decide +kernel⟩, List.mem_of_getElem? (i := 204) (by decide +kernel), List.mem_of_getElem? (i := 602) (by decide +kernel), List.mem_of_getElem? (i := 603) (by decide +kernel)⟩
theorem lw_p23 : lw_okq (⟨"ProofLedger$Reader", "beginSteps", "(J)I"⟩, 9) := ⟨⟨by decide +kernel, by decide +kernel⟩, List.mem_of_getElem? (i := 204) (by decide +kernel), List.mem_of_getElem? (i := 610) (by decide +kernel), List.mem_of_getElem? (i := 611) (by decide +kernel)⟩
theorem lw_p24 : lw_okq (⟨"ProofLedger$Reader", "takeStep", "(J)I"⟩, 9) := ⟨⟨by decide +kernel, by decide +kernel⟩, List.mem_of_getElem? (i := 204) (by decide +kernel), List.mem_of_getElem? (i := 615) (by decide +kernel), List.mem_of_getElem? (i := 616) (by decide +kernel)⟩
theorem lw_p25 : lw_okq (⟨"ProofLedger$Reader", "findUsable", "(J)I"⟩, 9) := ⟨⟨by decide +kernel, by decide +kernel⟩, List.mem_of_getElem? (i := 204) (by decide +kernel), List.mem_of_getElem? (i := 628) (by decide +kernel), List.mem_of_getElem? (i := 629) (by decide +kernel)⟩
theorem lw_p26 : lw_okq (⟨"ProofLedger$Proof", "bind", "(II)Z"⟩, 8) := ⟨⟨by decide +kernel, by decide +kernel⟩, List.mem_of_getElem? (i := 256) (by decide +kernel), List.mem_of_getElem? (i := 662) (by decide +kernel), List.mem_of_getElem? (i := 663) (by decide +kernel)⟩
theorem lw_p27 : lw_okq (⟨"ProofLedger$Proof", "replaceIn", "(I)Z"⟩, 8) := ⟨⟨by decide +kernel, by decide +kernel⟩, List.mem_of_getElem? (i := 256) (by decide +kernel), List.mem_of_getElem? (i := 674) (by decide +kernel), List.mem_of_getElem? (i := 675) (by decide +kernel)⟩
theorem lw_p28 : lw_okq (⟨"ProofLedger$Proof", "keepsApart", "(I)Z"⟩, 8) := ⟨⟨by decide +kernel, by decide +kernel⟩, List.mem_of_getElem? (i := 256) (by decide +kernel), List.mem_of_getElem? (i := 685) (by decide +kernel), List.mem_of_getElem? (i := 686) (by decide +kernel)⟩
theorem lw_p29 : lw_okq (⟨"ProofLedger$Reader", "takeListed", "(J)I"⟩, 9) := ⟨⟨by decide +kernel, by decide +kernel⟩, List.mem_of_getElem? (i := 204) (by decide +kernel), List.mem_of_getElem? (i := 713) (by decide +kernel), List.mem_of_getElem? (i := 714) (by decide +kernel)⟩
theorem lw_p30 : lw_okq (⟨"ProofLedger$Letters", "takeLetter", "(I)I"⟩, 10) := ⟨⟨by decide +kernel, by decide +kernel⟩, List.mem_of_getElem? (i := 291) (by decide +kernel), List.mem_of_getElem? (i := 727) (by decide +kernel), List.mem_of_getElem? (i := 728) (by decide +kernel)⟩
theorem lw_p31 : lw_okq (⟨"ProofLedger$Letters", "addGap", "()I"⟩, 10) := ⟨⟨by decide +kernel, by decide +kernel⟩, List.mem_of_getElem? (i := 291) (by decide +kernel), List.mem_of_getElem? (i := 731) (by decide +kernel), List.mem_of_getElem? (i := 732) (by decide +kernel)⟩
def lw_privs_2 : List (MethodName × Nat) := [(⟨"ProofLedger$Reader", "isActive", "(I)Z"⟩, 9), (⟨"ProofLedger$Reader", "takeApart", "(I)I"⟩, 9), (⟨"ProofLedger$Reader", "meaningOf", "(I)I"⟩, 9), (⟨"ProofLedger$Reader", "takeType", "(I)I"⟩, 9), (⟨"ProofLedger$Reader", "takeFloating", "(I)I"⟩, 9), (⟨"ProofLedger$Reader", "isTyped", "(I)Z"⟩, 9), (⟨"ProofLedger$Reader", "takeSymbol", "(I)I"⟩, 9), (⟨"ProofLedger$Reader", "beginSteps", "(J)I"⟩, 9), (⟨"ProofLedger$Reader", "takeStep", "(J)I"⟩, 9), (⟨"ProofLedger$Reader", "findUsable", "(J)I"⟩, 9), (⟨"ProofLedger$Proof", "bind", "(II)Z"⟩, 8), (⟨"ProofLedger$Proof", "replaceIn", "(I)Z"⟩, 8), (⟨"ProofLedger$Proof", "keepsApart", "(I)Z"⟩, 8), (⟨"ProofLedger$Reader", "takeListed", "(J)I"⟩, 9), (⟨"ProofLedger$Letters", "takeLetter", "(I)I"⟩, 10), (⟨"ProofLedger$Letters", "addGap", "()I"⟩, 10)]
theorem lw_r2 : ∀ q ∈ lw_privs_2, lw_okq q := List.forall_mem_cons.mpr ⟨lw_p16, List.forall_mem_cons.mpr ⟨lw_p17, List.forall_mem_cons.mpr ⟨lw_p18, List.forall_mem_cons.mpr ⟨lw_p19, List.forall_mem_cons.mpr ⟨lw_p20, List.forall_mem_cons.mpr ⟨lw_p21, List.forall_mem_cons.mpr ⟨lw_p22, List.forall_mem_cons.mpr ⟨lw_p23, List.forall_mem_cons.mpr ⟨lw_p24, List.forall_mem_cons.mpr ⟨lw_p25, List.forall_mem_cons.mpr ⟨lw_p26, List.forall_mem_cons.mpr ⟨lw_p27, List.forall_mem_cons.mpr ⟨lw_p28, List.forall_mem_cons.mpr ⟨lw_p29, List.forall_mem_cons.mpr ⟨lw_p30, List.forall_mem_cons.mpr ⟨lw_p31, fun _ h => absurd h List.not_mem_nil⟩⟩⟩⟩⟩⟩⟩⟩⟩⟩⟩⟩⟩⟩⟩⟩
theorem lw_p32 : lw_okq (⟨"ProofLedger$Letters", "addTag", "()I"⟩, 10) := ⟨⟨by decide +kernel, by decide +kernel⟩, List.mem_of_getElem? (i := 291) (by decide +kernel), List.mem_of_getElem? (i := 736) (by decide +kernel), List.mem_of_getElem? (i := 737) (by decide +kernel)⟩
theorem lw_p33 : lw_okq (⟨"ProofLedger$Letters", "stepWithNumber", "()I"⟩, 10) := ⟨⟨by decide +kernel, by decide +kernel⟩, List.mem_of_getElem? (i := 291) (by decide +kernel), List.mem_of_getElem? (i := 741) (by decide +kernel), List.mem_of_getElem? (i := 742) (by decide +kernel)⟩
theorem lw_p34 : lw_okq (⟨"ProofLedgerModel", "findWords", "()V"⟩, 57) := ⟨⟨by decide +kernel, by decide +kernel⟩, List.mem_of_getElem? (i := 821) (by decide +kernel), List.mem_of_getElem? (i := 1012) (by decide +kernel), List.mem_of_getElem? (i := 1013) (by decide +kernel)⟩
theorem lw_p35 : lw_okq (⟨"ProofLedgerModel", "come", "()Z"⟩, 57) := ⟨⟨by decide +kernel, by decide +kernel⟩, List.mem_of_getElem? (i := 821) (by decide +kernel), List.mem_of_getElem? (i := 1016) (by decide +kernel), List.mem_of_getElem? (i := 1017) (by decide +kernel)⟩
theorem lw_p36 : lw_okq (⟨"ProofLedgerModel", "isTwo", "(III)Z"⟩, 57) := ⟨⟨by decide +kernel, by decide +kernel⟩, List.mem_of_getElem? (i := 821) (by decide +kernel), List.mem_of_getElem? (i := 1020) (by decide +kernel), List.mem_of_getElem? (i := 1021) (by decide +kernel)⟩
theorem lw_p37 : lw_okq (⟨"ProofLedgerModel", "letter", "(II)I"⟩, 57) := ⟨⟨by decide +kernel, by decide +kernel⟩, List.mem_of_getElem? (i := 821) (by decide +kernel), List.mem_of_getElem? (i := 1024) (by decide +kernel), List.mem_of_getElem? (i := 1025) (by decide +kernel)⟩
theorem lw_p38 : lw_okq (⟨"ProofLedgerModel", "fail", "(II)V"⟩, 57) := ⟨⟨by decide +kernel, by decide +kernel⟩, List.mem_of_getElem? (i := 821) (by decide +kernel), List.mem_of_getElem? (i := 1028) (by decide +kernel), List.mem_of_getElem? (i := 1029) (by decide +kernel)⟩
theorem lw_p39 : lw_okq (⟨"ProofLedgerModel", "readStatement", "()V"⟩, 57) := ⟨⟨by decide +kernel, by decide +kernel⟩, List.mem_of_getElem? (i := 821) (by decide +kernel), List.mem_of_getElem? (i := 1032) (by decide +kernel), List.mem_of_getElem? (i := 1033) (by decide +kernel)⟩
theorem lw_p40 : lw_okq (⟨"ProofLedgerModel", "whatIs", "(I)I"⟩, 57) := ⟨⟨by decide +kernel, by decide +kernel⟩, List.mem_of_getElem? (i := 821) (by decide +kernel), List.mem_of_getElem? (i := 1036) (by decide +kernel), List.mem_of_getElem? (i := 1037) (by decide +kernel)⟩
theorem lw_p41 : lw_okq (⟨"ProofLedgerModel", "readLabelled", "()V"⟩, 57) := ⟨⟨by decide +kernel, by decide +kernel⟩, List.mem_of_getElem? (i := 821) (by decide +kernel), List.mem_of_getElem? (i := 1040) (by decide +kernel), List.mem_of_getElem? (i := 1041) (by decide +kernel)⟩
theorem lw_p42 : lw_okq (⟨"ProofLedgerModel", "codeOf", "(I)J"⟩, 57) := ⟨⟨by decide +kernel, by decide +kernel⟩, List.mem_of_getElem? (i := 821) (by decide +kernel), List.mem_of_getElem? (i := 1044) (by decide +kernel), List.mem_of_getElem? (i := 1045) (by decide +kernel)⟩
theorem lw_p43 : lw_okq (⟨"ProofLedgerModel", "find", "(J)I"⟩, 57) := ⟨⟨by decide +kernel, by decide +kernel⟩, List.mem_of_getElem? (i := 821) (by decide +kernel), List.mem_of_getElem? (i := 1049) (by decide +kernel), List.mem_of_getElem? (i := 1050) (by decide +kernel)⟩
theorem lw_p44 : lw_okq (⟨"ProofLedgerModel", "need", "()I"⟩, 57) := ⟨⟨by decide +kernel, by decide +kernel⟩, List.mem_of_getElem? (i := 821) (by decide +kernel), List.mem_of_getElem? (i := 1053) (by decide +kernel), List.mem_of_getElem? (i := 1054) (by decide +kernel)⟩
theorem lw_p45 : lw_okq (⟨"ProofLedgerModel", "readFloating", "(J)V"⟩, 57) := ⟨⟨by decide +kernel, by decide +kernel⟩, List.mem_of_getElem? (i := 821) (by decide +kernel), List.mem_of_getElem? (i := 1057) (by decide +kernel), List.mem_of_getElem? (i := 1058) (by decide +kernel)⟩
theorem lw_p46 : lw_okq (⟨"ProofLedgerModel", "readType", "()Z"⟩, 57) := ⟨⟨by decide +kernel, by decide +kernel⟩, List.mem_of_getElem? (i := 821) (by decide +kernel), List.mem_of_getElem? (i := 1061) (by decide +kernel), List.mem_of_getElem? (i := 1062) (by decide +kernel)⟩
theorem lw_p47 : lw_okq (⟨"ProofLedgerModel", "needName", "()Z"⟩, 57) := ⟨⟨by decide +kernel, by decide +kernel⟩, List.mem_of_getElem? (i := 821) (by decide +kernel), List.mem_of_getElem? (i := 1065) (by decide +kernel), List.mem_of_getElem? (i := 1066) (by decide +kernel)⟩
def lw_privs_3 : List (MethodName × Nat) := [(⟨"ProofLedger$Letters", "addTag", "()I"⟩, 10), (⟨"ProofLedger$Letters", "stepWithNumber", "()I"⟩, 10), (⟨"ProofLedgerModel", "findWords", "()V"⟩, 57), (⟨"ProofLedgerModel", "come", "()Z"⟩, 57), (⟨"ProofLedgerModel", "isTwo", "(III)Z"⟩, 57), (⟨"ProofLedgerModel", "letter", "(II)I"⟩, 57), (⟨"ProofLedgerModel", "fail", "(II)V"⟩, 57), (⟨"ProofLedgerModel", "readStatement", "()V"⟩, 57), (⟨"ProofLedgerModel", "whatIs", "(I)I"⟩, 57), (⟨"ProofLedgerModel", "readLabelled", "()V"⟩, 57), (⟨"ProofLedgerModel", "codeOf", "(I)J"⟩, 57), (⟨"ProofLedgerModel", "find", "(J)I"⟩, 57), (⟨"ProofLedgerModel", "need", "()I"⟩, 57), (⟨"ProofLedgerModel", "readFloating", "(J)V"⟩, 57), (⟨"ProofLedgerModel", "readType", "()Z"⟩, 57), (⟨"ProofLedgerModel", "needName", "()Z"⟩, 57)]
theorem lw_r3 : ∀ q ∈ lw_privs_3, lw_okq q := List.forall_mem_cons.mpr ⟨lw_p32, List.forall_mem_cons.mpr ⟨lw_p33, List.forall_mem_cons.mpr ⟨lw_p34, List.forall_mem_cons.mpr ⟨lw_p35, List.forall_mem_cons.mpr ⟨lw_p36, List.forall_mem_cons.mpr ⟨lw_p37, List.forall_mem_cons.mpr ⟨lw_p38, List.forall_mem_cons.mpr ⟨lw_p39, List.forall_mem_cons.mpr ⟨lw_p40, List.forall_mem_cons.mpr ⟨lw_p41, List.forall_mem_cons.mpr ⟨lw_p42, List.forall_mem_cons.mpr ⟨lw_p43, List.forall_mem_cons.mpr ⟨lw_p44, List.forall_mem_cons.mpr ⟨lw_p45, List.forall_mem_cons.mpr ⟨lw_p46, List.forall_mem_cons.mpr ⟨lw_p47, fun _ h => absurd h List.not_mem_nil⟩⟩⟩⟩⟩⟩⟩⟩⟩⟩⟩⟩⟩⟩⟩⟩
theorem lw_p48 : lw_okq (⟨"ProofLedgerModel", "findWord", "()I"⟩, 57) := ⟨⟨by decide +kernel, by decide +kernel⟩, List.mem_of_getElem? (i := 821) (by decide +kernel), List.mem_of_getElem? (i := 1069) (by decide +kernel), List.mem_of_getElem? (i := 1070) (by decide +kernel)⟩
theorem lw_p49 : lw_okq (⟨"ProofLedgerModel", "isConstant", "(I)Z"⟩, 57) := ⟨⟨by decide +kernel, by decide +kernel⟩, List.mem_of_getElem? (i := 821) (by decide +kernel), List.mem_of_getElem? (i := 1073) (by decide +kernel), List.mem_of_getElem? (i := 1074) (by decide +kernel)⟩
theorem lw_p50 : lw_okq (⟨"ProofLedgerModel", "isLive", "(I)Z"⟩, 57) := ⟨⟨by decide +kernel, by decide +kernel⟩, List.mem_of_getElem? (i := 821) (by decide +kernel), List.mem_of_getElem? (i := 1077) (by decide +kernel), List.mem_of_getElem? (i := 1078) (by decide +kernel)⟩
theorem lw_p51 : lw_okq (⟨"ProofLedgerModel", "typeOf", "(I)I"⟩, 57) := ⟨⟨by decide +kernel, by decide +kernel⟩, List.mem_of_getElem? (i := 821) (by decide +kernel), List.mem_of_getElem? (i := 1081) (by decide +kernel), List.mem_of_getElem? (i := 1082) (by decide +kernel)⟩
theorem lw_p52 : lw_okq (⟨"ProofLedgerModel", "declare", "(IJ)I"⟩, 57) := ⟨⟨by decide +kernel, by decide +kernel⟩, List.mem_of_getElem? (i := 821) (by decide +kernel), List.mem_of_getElem? (i := 1085) (by decide +kernel), List.mem_of_getElem? (i := 1086) (by decide +kernel)⟩
theorem lw_p53 : lw_okq (⟨"ProofLedgerModel", "addName", "(J)I"⟩, 57) := ⟨⟨by decide +kernel, by decide +kernel⟩, List.mem_of_getElem? (i := 821) (by decide +kernel), List.mem_of_getElem? (i := 1089) (by decide +kernel), List.mem_of_getElem? (i := 1090) (by decide +kernel)⟩
theorem lw_p54 : lw_okq (⟨"ProofLedgerModel", "readExpression", "(I)Z"⟩, 57) := ⟨⟨by decide +kernel, by decide +kernel⟩, List.mem_of_getElem? (i := 821) (by decide +kernel), List.mem_of_getElem? (i := 1093) (by decide +kernel), List.mem_of_getElem? (i := 1094) (by decide +kernel)⟩
theorem lw_p55 : lw_okq (⟨"ProofLedgerModel", "findNeeds", "()V"⟩, 57) := ⟨⟨by decide +kernel, by decide +kernel⟩, List.mem_of_getElem? (i := 821) (by decide +kernel), List.mem_of_getElem? (i := 1097) (by decide +kernel), List.mem_of_getElem? (i := 1098) (by decide +kernel)⟩
theorem lw_p56 : lw_okq (⟨"ProofLedgerModel", "mark", "(IIZ)V"⟩, 57) := ⟨⟨by decide +kernel, by decide +kernel⟩, List.mem_of_getElem? (i := 821) (by decide +kernel), List.mem_of_getElem? (i := 1101) (by decide +kernel), List.mem_of_getElem? (i := 1102) (by decide +kernel)⟩
theorem lw_p57 : lw_okq (⟨"ProofLedgerModel", "isNeeded", "(III)Z"⟩, 57) := ⟨⟨by decide +kernel, by decide +kernel⟩, List.mem_of_getElem? (i := 821) (by decide +kernel), List.mem_of_getElem? (i := 1105) (by decide +kernel), List.mem_of_getElem? (i := 1106) (by decide +kernel)⟩
theorem lw_p58 : lw_okq (⟨"ProofLedgerModel", "begin", "(I)V"⟩, 57) := ⟨⟨by decide +kernel, by decide +kernel⟩, List.mem_of_getElem? (i := 821) (by decide +kernel), List.mem_of_getElem? (i := 1109) (by decide +kernel), List.mem_of_getElem? (i := 1110) (by decide +kernel)⟩
theorem lw_p59 : lw_okq (⟨"ProofLedgerModel", "readProof", "(I)V"⟩, 57) := ⟨⟨by decide +kernel, by decide +kernel⟩, List.mem_of_getElem? (i := 821) (by decide +kernel), List.mem_of_getElem? (i := 1113) (by decide +kernel), List.mem_of_getElem? (i := 1114) (by decide +kernel)⟩
theorem lw_p60 : lw_okq (⟨"ProofLedgerModel", "isWord", "(I)Z"⟩, 57) := ⟨⟨by decide +kernel, by decide +kernel⟩, List.mem_of_getElem? (i := 821) (by decide +kernel), List.mem_of_getElem? (i := 1117) (by decide +kernel), List.mem_of_getElem? (i := 1118) (by decide +kernel)⟩
theorem lw_p61 : lw_okq (⟨"ProofLedgerModel", "readListed", "(I)V"⟩, 57) := ⟨⟨by decide +kernel, by decide +kernel⟩, List.mem_of_getElem? (i := 821) (by decide +kernel), List.mem_of_getElem? (i := 1121) (by decide +kernel), List.mem_of_getElem? (i := 1122) (by decide +kernel)⟩
theorem lw_p62 : lw_okq (⟨"ProofLedgerModel", "lookUp", "()I"⟩, 57) := ⟨⟨by decide +kernel, by decide +kernel⟩, List.mem_of_getElem? (i := 821) (by decide +kernel), List.mem_of_getElem? (i := 1125) (by decide +kernel), List.mem_of_getElem? (i := 1126) (by decide +kernel)⟩
theorem lw_p63 : lw_okq (⟨"ProofLedgerModel", "isMandatory", "(II)Z"⟩, 57) := ⟨⟨by decide +kernel, by decide +kernel⟩, List.mem_of_getElem? (i := 821) (by decide +kernel), List.mem_of_getElem? (i := 1129) (by decide +kernel), List.mem_of_getElem? (i := 1130) (by decide +kernel)⟩
def lw_privs_4 : List (MethodName × Nat) := [(⟨"ProofLedgerModel", "findWord", "()I"⟩, 57), (⟨"ProofLedgerModel", "isConstant", "(I)Z"⟩, 57), (⟨"ProofLedgerModel", "isLive", "(I)Z"⟩, 57), (⟨"ProofLedgerModel", "typeOf", "(I)I"⟩, 57), (⟨"ProofLedgerModel", "declare", "(IJ)I"⟩, 57), (⟨"ProofLedgerModel", "addName", "(J)I"⟩, 57), (⟨"ProofLedgerModel", "readExpression", "(I)Z"⟩, 57), (⟨"ProofLedgerModel", "findNeeds", "()V"⟩, 57), (⟨"ProofLedgerModel", "mark", "(IIZ)V"⟩, 57), (⟨"ProofLedgerModel", "isNeeded", "(III)Z"⟩, 57), (⟨"ProofLedgerModel", "begin", "(I)V"⟩, 57), (⟨"ProofLedgerModel", "readProof", "(I)V"⟩, 57), (⟨"ProofLedgerModel", "isWord", "(I)Z"⟩, 57), (⟨"ProofLedgerModel", "readListed", "(I)V"⟩, 57), (⟨"ProofLedgerModel", "lookUp", "()I"⟩, 57), (⟨"ProofLedgerModel", "isMandatory", "(II)Z"⟩, 57)]
theorem lw_r4 : ∀ q ∈ lw_privs_4, lw_okq q := List.forall_mem_cons.mpr ⟨lw_p48, List.forall_mem_cons.mpr ⟨lw_p49, List.forall_mem_cons.mpr ⟨lw_p50, List.forall_mem_cons.mpr ⟨lw_p51, List.forall_mem_cons.mpr ⟨lw_p52, List.forall_mem_cons.mpr ⟨lw_p53, List.forall_mem_cons.mpr ⟨lw_p54, List.forall_mem_cons.mpr ⟨lw_p55, List.forall_mem_cons.mpr ⟨lw_p56, List.forall_mem_cons.mpr ⟨lw_p57, List.forall_mem_cons.mpr ⟨lw_p58, List.forall_mem_cons.mpr ⟨lw_p59, List.forall_mem_cons.mpr ⟨lw_p60, List.forall_mem_cons.mpr ⟨lw_p61, List.forall_mem_cons.mpr ⟨lw_p62, List.forall_mem_cons.mpr ⟨lw_p63, fun _ h => absurd h List.not_mem_nil⟩⟩⟩⟩⟩⟩⟩⟩⟩⟩⟩⟩⟩⟩⟩⟩
theorem lw_p64 : lw_okq (⟨"ProofLedgerModel", "readLetters", "(I)V"⟩, 57) := ⟨⟨by decide +kernel, by decide +kernel⟩, List.mem_of_getElem? (i := 821) (by decide +kernel), List.mem_of_getElem? (i := 1133) (by decide +kernel), List.mem_of_getElem? (i := 1134) (by decide +kernel)⟩
theorem lw_p65 : lw_okq (⟨"ProofLedgerModel", "isLetters", "()Z"⟩, 57) := ⟨⟨by decide +kernel, by decide +kernel⟩, List.mem_of_getElem? (i := 821) (by decide +kernel), List.mem_of_getElem? (i := 1137) (by decide +kernel), List.mem_of_getElem? (i := 1138) (by decide +kernel)⟩
theorem lw_p66 : lw_okq (⟨"ProofLedgerModel", "readLetter", "(II)V"⟩, 57) := ⟨⟨by decide +kernel, by decide +kernel⟩, List.mem_of_getElem? (i := 821) (by decide +kernel), List.mem_of_getElem? (i := 1141) (by decide +kernel), List.mem_of_getElem? (i := 1142) (by decide +kernel)⟩
theorem lw_p67 : lw_okq (⟨"ProofLedgerModel", "tag", "()V"⟩, 57) := ⟨⟨by decide +kernel, by decide +kernel⟩, List.mem_of_getElem? (i := 821) (by decide +kernel), List.mem_of_getElem? (i := 1145) (by decide +kernel), List.mem_of_getElem? (i := 1146) (by decide +kernel)⟩
theorem lw_p68 : lw_okq (⟨"ProofLedgerModel", "stepWith", "(II)V"⟩, 57) := ⟨⟨by decide +kernel, by decide +kernel⟩, List.mem_of_getElem? (i := 821) (by decide +kernel), List.mem_of_getElem? (i := 1149) (by decide +kernel), List.mem_of_getElem? (i := 1150) (by decide +kernel)⟩
theorem lw_p69 : lw_okq (⟨"ProofLedgerModel", "step", "(II)V"⟩, 57) := ⟨⟨by decide +kernel, by decide +kernel⟩, List.mem_of_getElem? (i := 821) (by decide +kernel), List.mem_of_getElem? (i := 1153) (by decide +kernel), List.mem_of_getElem? (i := 1154) (by decide +kernel)⟩
theorem lw_p70 : lw_okq (⟨"ProofLedgerModel", "pushHypothesis", "(I)V"⟩, 57) := ⟨⟨by decide +kernel, by decide +kernel⟩, List.mem_of_getElem? (i := 821) (by decide +kernel), List.mem_of_getElem? (i := 1157) (by decide +kernel), List.mem_of_getElem? (i := 1158) (by decide +kernel)⟩
theorem lw_p71 : lw_okq (⟨"ProofLedgerModel", "hasRoom", "()Z"⟩, 57) := ⟨⟨by decide +kernel, by decide +kernel⟩, List.mem_of_getElem? (i := 821) (by decide +kernel), List.mem_of_getElem? (i := 1161) (by decide +kernel), List.mem_of_getElem? (i := 1162) (by decide +kernel)⟩
theorem lw_p72 : lw_okq (⟨"ProofLedgerModel", "apply", "(I)I"⟩, 57) := ⟨⟨by decide +kernel, by decide +kernel⟩, List.mem_of_getElem? (i := 821) (by decide +kernel), List.mem_of_getElem? (i := 1165) (by decide +kernel), List.mem_of_getElem? (i := 1166) (by decide +kernel)⟩
theorem lw_p73 : lw_okq (⟨"ProofLedgerModel", "replace", "(I)I"⟩, 57) := ⟨⟨by decide +kernel, by decide +kernel⟩, List.mem_of_getElem? (i := 821) (by decide +kernel), List.mem_of_getElem? (i := 1169) (by decide +kernel), List.mem_of_getElem? (i := 1170) (by decide +kernel)⟩
theorem lw_p74 : lw_okq (⟨"ProofLedgerModel", "isMade", "(II)Z"⟩, 57) := ⟨⟨by decide +kernel, by decide +kernel⟩, List.mem_of_getElem? (i := 821) (by decide +kernel), List.mem_of_getElem? (i := 1173) (by decide +kernel), List.mem_of_getElem? (i := 1174) (by decide +kernel)⟩
theorem lw_p75 : lw_okq (⟨"ProofLedgerModel", "allApart", "(II)Z"⟩, 57) := ⟨⟨by decide +kernel, by decide +kernel⟩, List.mem_of_getElem? (i := 821) (by decide +kernel), List.mem_of_getElem? (i := 1177) (by decide +kernel), List.mem_of_getElem? (i := 1178) (by decide +kernel)⟩
theorem lw_p76 : lw_okq (⟨"ProofLedgerModel", "areApart", "(II)Z"⟩, 57) := ⟨⟨by decide +kernel, by decide +kernel⟩, List.mem_of_getElem? (i := 821) (by decide +kernel), List.mem_of_getElem? (i := 1181) (by decide +kernel), List.mem_of_getElem? (i := 1182) (by decide +kernel)⟩
theorem lw_p77 : lw_okq (⟨"ProofLedgerModel", "tally", "(I)V"⟩, 57) := ⟨⟨by decide +kernel, by decide +kernel⟩, List.mem_of_getElem? (i := 821) (by decide +kernel), List.mem_of_getElem? (i := 1185) (by decide +kernel), List.mem_of_getElem? (i := 1186) (by decide +kernel)⟩
theorem lw_p78 : lw_okq (⟨"ProofLedgerModel", "pushTagged", "(I)V"⟩, 57) := ⟨⟨by decide +kernel, by decide +kernel⟩, List.mem_of_getElem? (i := 821) (by decide +kernel), List.mem_of_getElem? (i := 1189) (by decide +kernel), List.mem_of_getElem? (i := 1190) (by decide +kernel)⟩
theorem lw_p79 : lw_okq (⟨"ProofLedgerModel", "readSteps", "(I)V"⟩, 57) := ⟨⟨by decide +kernel, by decide +kernel⟩, List.mem_of_getElem? (i := 821) (by decide +kernel), List.mem_of_getElem? (i := 1193) (by decide +kernel), List.mem_of_getElem? (i := 1194) (by decide +kernel)⟩
def lw_privs_5 : List (MethodName × Nat) := [(⟨"ProofLedgerModel", "readLetters", "(I)V"⟩, 57), (⟨"ProofLedgerModel", "isLetters", "()Z"⟩, 57), (⟨"ProofLedgerModel", "readLetter", "(II)V"⟩, 57), (⟨"ProofLedgerModel", "tag", "()V"⟩, 57), (⟨"ProofLedgerModel", "stepWith", "(II)V"⟩, 57), (⟨"ProofLedgerModel", "step", "(II)V"⟩, 57), (⟨"ProofLedgerModel", "pushHypothesis", "(I)V"⟩, 57), (⟨"ProofLedgerModel", "hasRoom", "()Z"⟩, 57), (⟨"ProofLedgerModel", "apply", "(I)I"⟩, 57), (⟨"ProofLedgerModel", "replace", "(I)I"⟩, 57), (⟨"ProofLedgerModel", "isMade", "(II)Z"⟩, 57), (⟨"ProofLedgerModel", "allApart", "(II)Z"⟩, 57), (⟨"ProofLedgerModel", "areApart", "(II)Z"⟩, 57), (⟨"ProofLedgerModel", "tally", "(I)V"⟩, 57), (⟨"ProofLedgerModel", "pushTagged", "(I)V"⟩, 57), (⟨"ProofLedgerModel", "readSteps", "(I)V"⟩, 57)]
theorem lw_r5 : ∀ q ∈ lw_privs_5, lw_okq q := List.forall_mem_cons.mpr ⟨lw_p64, List.forall_mem_cons.mpr ⟨lw_p65, List.forall_mem_cons.mpr ⟨lw_p66, List.forall_mem_cons.mpr ⟨lw_p67, List.forall_mem_cons.mpr ⟨lw_p68, List.forall_mem_cons.mpr ⟨lw_p69, List.forall_mem_cons.mpr ⟨lw_p70, List.forall_mem_cons.mpr ⟨lw_p71, List.forall_mem_cons.mpr ⟨lw_p72, List.forall_mem_cons.mpr ⟨lw_p73, List.forall_mem_cons.mpr ⟨lw_p74, List.forall_mem_cons.mpr ⟨lw_p75, List.forall_mem_cons.mpr ⟨lw_p76, List.forall_mem_cons.mpr ⟨lw_p77, List.forall_mem_cons.mpr ⟨lw_p78, List.forall_mem_cons.mpr ⟨lw_p79, fun _ h => absurd h List.not_mem_nil⟩⟩⟩⟩⟩⟩⟩⟩⟩⟩⟩⟩⟩⟩⟩⟩
theorem lw_p80 : lw_okq (⟨"ProofLedgerModel", "finish", "()V"⟩, 57) := ⟨⟨by decide +kernel, by decide +kernel⟩, List.mem_of_getElem? (i := 821) (by decide +kernel), List.mem_of_getElem? (i := 1197) (by decide +kernel), List.mem_of_getElem? (i := 1198) (by decide +kernel)⟩
theorem lw_p81 : lw_okq (⟨"ProofLedgerModel", "settle", "(I)V"⟩, 57) := ⟨⟨by decide +kernel, by decide +kernel⟩, List.mem_of_getElem? (i := 821) (by decide +kernel), List.mem_of_getElem? (i := 1201) (by decide +kernel), List.mem_of_getElem? (i := 1202) (by decide +kernel)⟩
theorem lw_p82 : lw_okq (⟨"ProofLedgerModel", "readConstants", "()V"⟩, 57) := ⟨⟨by decide +kernel, by decide +kernel⟩, List.mem_of_getElem? (i := 821) (by decide +kernel), List.mem_of_getElem? (i := 1205) (by decide +kernel), List.mem_of_getElem? (i := 1206) (by decide +kernel)⟩
theorem lw_p83 : lw_okq (⟨"ProofLedgerModel", "readVariables", "()V"⟩, 57) := ⟨⟨by decide +kernel, by decide +kernel⟩, List.mem_of_getElem? (i := 821) (by decide +kernel), List.mem_of_getElem? (i := 1209) (by decide +kernel), List.mem_of_getElem? (i := 1210) (by decide +kernel)⟩
theorem lw_p84 : lw_okq (⟨"ProofLedgerModel", "readApart", "()V"⟩, 57) := ⟨⟨by decide +kernel, by decide +kernel⟩, List.mem_of_getElem? (i := 821) (by decide +kernel), List.mem_of_getElem? (i := 1213) (by decide +kernel), List.mem_of_getElem? (i := 1214) (by decide +kernel)⟩
theorem lw_p85 : lw_okq (⟨"ProofLedgerModel", "stoodBefore", "(II)Z"⟩, 57) := ⟨⟨by decide +kernel, by decide +kernel⟩, List.mem_of_getElem? (i := 821) (by decide +kernel), List.mem_of_getElem? (i := 1217) (by decide +kernel), List.mem_of_getElem? (i := 1218) (by decide +kernel)⟩
theorem lw_p86 : lw_okq (⟨"ProofLedgerModel", "closeScope", "()V"⟩, 57) := ⟨⟨by decide +kernel, by decide +kernel⟩, List.mem_of_getElem? (i := 821) (by decide +kernel), List.mem_of_getElem? (i := 1221) (by decide +kernel), List.mem_of_getElem? (i := 1222) (by decide +kernel)⟩
theorem lw_p87 : lw_okq (⟨"ProofLedgerModel", "countNames", "(I)I"⟩, 57) := ⟨⟨by decide +kernel, by decide +kernel⟩, List.mem_of_getElem? (i := 821) (by decide +kernel), List.mem_of_getElem? (i := 1233) (by decide +kernel), List.mem_of_getElem? (i := 1234) (by decide +kernel)⟩
theorem lw_p88 : lw_okq (⟨"ProofLedgerModel", "isAssertion", "(I)Z"⟩, 57) := ⟨⟨by decide +kernel, by decide +kernel⟩, List.mem_of_getElem? (i := 821) (by decide +kernel), List.mem_of_getElem? (i := 1241) (by decide +kernel), List.mem_of_getElem? (i := 1242) (by decide +kernel)⟩
def lw_privs_6 : List (MethodName × Nat) := [(⟨"ProofLedgerModel", "finish", "()V"⟩, 57), (⟨"ProofLedgerModel", "settle", "(I)V"⟩, 57), (⟨"ProofLedgerModel", "readConstants", "()V"⟩, 57), (⟨"ProofLedgerModel", "readVariables", "()V"⟩, 57), (⟨"ProofLedgerModel", "readApart", "()V"⟩, 57), (⟨"ProofLedgerModel", "stoodBefore", "(II)Z"⟩, 57), (⟨"ProofLedgerModel", "closeScope", "()V"⟩, 57), (⟨"ProofLedgerModel", "countNames", "(I)I"⟩, 57), (⟨"ProofLedgerModel", "isAssertion", "(I)Z"⟩, 57)]
theorem lw_r6 : ∀ q ∈ lw_privs_6, lw_okq q := List.forall_mem_cons.mpr ⟨lw_p80, List.forall_mem_cons.mpr ⟨lw_p81, List.forall_mem_cons.mpr ⟨lw_p82, List.forall_mem_cons.mpr ⟨lw_p83, List.forall_mem_cons.mpr ⟨lw_p84, List.forall_mem_cons.mpr ⟨lw_p85, List.forall_mem_cons.mpr ⟨lw_p86, List.forall_mem_cons.mpr ⟨lw_p87, List.forall_mem_cons.mpr ⟨lw_p88, fun _ h => absurd h List.not_mem_nil⟩⟩⟩⟩⟩⟩⟩⟩⟩
def lw_privs : List (MethodName × Nat) := lw_privs_1 ++ (lw_privs_2 ++ (lw_privs_3 ++ (lw_privs_4 ++ (lw_privs_5 ++ (lw_privs_6)))))
def lw_tbl : List Cond := k2_sels lw_privs ++ tables_1
theorem lw_privs_ok : ∀ q ∈ lw_privs, lw_okq q := by
  show ∀ q ∈ lw_privs_1 ++ (lw_privs_2 ++ (lw_privs_3 ++ (lw_privs_4 ++ (lw_privs_5 ++ (lw_privs_6))))), lw_okq q
  exact List.forall_mem_append.mpr ⟨lw_r1, List.forall_mem_append.mpr ⟨lw_r2, List.forall_mem_append.mpr ⟨lw_r3, List.forall_mem_append.mpr ⟨lw_r4, List.forall_mem_append.mpr ⟨lw_r5, lw_r6⟩⟩⟩⟩⟩
/-! ===== the classes and the tables' words that we use ===== -/
def ct_T0 : u_T := fun k => match k with
  | 0 => ("ProofLedger", "text", "LProofLedger$Text;", true)
  | 1 => ("ProofLedger", "names", "LProofLedger$Names;", true)
  | 2 => ("ProofLedger", "statements", "LProofLedger$Statements;", true)
  | 3 => ("ProofLedger", "assertions", "LProofLedger$Assertions;", true)
  | 4 => ("ProofLedger", "reader", "LProofLedger$Reader;", true)
  | _ => ("ProofLedger", "placeOfFault", "I", false)
def ct_ty0 : Nat → FieldType := fun k => match k with
  | 0 => (.object "ProofLedger$Text")
  | 1 => (.object "ProofLedger$Names")
  | 2 => (.object "ProofLedger$Statements")
  | 3 => (.object "ProofLedger$Assertions")
  | 4 => (.object "ProofLedger$Reader")
  | _ => .int
theorem ct_nm0 : ∀ a, a < 6 → ∀ b, b < 6 → a ≠ b → (ct_T0 a).2.1 ≠ (ct_T0 b).2.1 := by decide +kernel
theorem ct_ok0 : ∀ k, k < 6 → parseFieldDescriptor (ct_T0 k).2.2.1 = some (ct_ty0 k) := by decide +kernel
def ct_T1 : u_T := fun k => match k with
  | 0 => ("ProofLedger$Text", "characters", "[B", true)
  | 1 => ("ProofLedger$Text", "length", "I", false)
  | 2 => ("ProofLedger$Text", "words", "I", false)
  | 3 => ("ProofLedger$Text", "start", "I", false)
  | 4 => ("ProofLedger$Text", "end", "I", false)
  | 5 => ("ProofLedger$Text", "code", "J", false)
  | 6 => ("ProofLedger$Text", "marked", "Z", false)
  | _ => ("ProofLedger$Text", "insideComment", "Z", false)
def ct_ty1 : Nat → FieldType := fun k => match k with
  | 0 => (.array .byte)
  | 1 => .int
  | 2 => .int
  | 3 => .int
  | 4 => .int
  | 5 => .long
  | 6 => .boolean
  | _ => .boolean
theorem ct_nm1 : ∀ a, a < 8 → ∀ b, b < 8 → a ≠ b → (ct_T1 a).2.1 ≠ (ct_T1 b).2.1 := by decide +kernel
theorem ct_ok1 : ∀ k, k < 8 → parseFieldDescriptor (ct_T1 k).2.2.1 = some (ct_ty1 k) := by decide +kernel
def ct_T2 : u_T := fun k => match k with
  | 0 => ("ProofLedger$Names", "codes", "[J", true)
  | 1 => ("ProofLedger$Names", "roles", "[I", true)
  | 2 => ("ProofLedger$Names", "statements", "[I", true)
  | 3 => ("ProofLedger$Names", "size", "I", false)
  | 4 => ("ProofLedger$Names", "constants", "I", false)
  | _ => ("ProofLedger$Names", "variables", "J", false)
def ct_ty2 : Nat → FieldType := fun k => match k with
  | 0 => (.array .long)
  | 1 => (.array .int)
  | 2 => (.array .int)
  | 3 => .int
  | 4 => .int
  | _ => .long
theorem ct_nm2 : ∀ a, a < 6 → ∀ b, b < 6 → a ≠ b → (ct_T2 a).2.1 ≠ (ct_T2 b).2.1 := by decide +kernel
theorem ct_ok2 : ∀ k, k < 6 → parseFieldDescriptor (ct_T2 k).2.2.1 = some (ct_ty2 k) := by decide +kernel
def ct_T3 : u_T := fun k => match k with
  | 0 => ("ProofLedger$Statements", "labels", "[J", true)
  | 1 => ("ProofLedger$Statements", "kinds", "[I", true)
  | 2 => ("ProofLedger$Statements", "expressions", "LProofLedger$Expressions;", true)
  | 3 => ("ProofLedger$Statements", "mandatory", "[J", true)
  | _ => ("ProofLedger$Statements", "assertions", "[I", true)
def ct_ty3 : Nat → FieldType := fun k => match k with
  | 0 => (.array .long)
  | 1 => (.array .int)
  | 2 => (.object "ProofLedger$Expressions")
  | 3 => (.array .long)
  | _ => (.array .int)
theorem ct_nm3 : ∀ a, a < 5 → ∀ b, b < 5 → a ≠ b → (ct_T3 a).2.1 ≠ (ct_T3 b).2.1 := by decide +kernel
theorem ct_ok3 : ∀ k, k < 5 → parseFieldDescriptor (ct_T3 k).2.2.1 = some (ct_ty3 k) := by decide +kernel
def ct_T4 : u_T := fun k => match k with
  | 0 => ("ProofLedger$Expressions", "most", "I", true)
  | 1 => ("ProofLedger$Expressions", "symbols", "[I", true)
  | 2 => ("ProofLedger$Expressions", "lengths", "[I", true)
  | 3 => ("ProofLedger$Expressions", "variables", "[J", true)
  | _ => ("ProofLedger$Expressions", "size", "I", false)
def ct_ty4 : Nat → FieldType := fun k => match k with
  | 0 => .int
  | 1 => (.array .int)
  | 2 => (.array .int)
  | 3 => (.array .long)
  | _ => .int
theorem ct_nm4 : ∀ a, a < 5 → ∀ b, b < 5 → a ≠ b → (ct_T4 a).2.1 ≠ (ct_T4 b).2.1 := by decide +kernel
theorem ct_ok4 : ∀ k, k < 5 → parseFieldDescriptor (ct_T4 k).2.2.1 = some (ct_ty4 k) := by decide +kernel
def ct_T5 : u_T := fun k => match k with
  | 0 => ("ProofLedger$Assertions", "statements", "[I", true)
  | 1 => ("ProofLedger$Assertions", "pairCounts", "[I", true)
  | 2 => ("ProofLedger$Assertions", "pairs", "[I", true)
  | 3 => ("ProofLedger$Assertions", "stepCounts", "[I", true)
  | 4 => ("ProofLedger$Assertions", "heights", "[I", true)
  | 5 => ("ProofLedger$Assertions", "useCounts", "[I", true)
  | 6 => ("ProofLedger$Assertions", "incomplete", "[Z", true)
  | 7 => ("ProofLedger$Assertions", "sound", "[Z", true)
  | _ => ("ProofLedger$Assertions", "size", "I", false)
def ct_ty5 : Nat → FieldType := fun k => match k with
  | 0 => (.array .int)
  | 1 => (.array .int)
  | 2 => (.array .int)
  | 3 => (.array .int)
  | 4 => (.array .int)
  | 5 => (.array .int)
  | 6 => (.array .boolean)
  | 7 => (.array .boolean)
  | _ => .int
theorem ct_nm5 : ∀ a, a < 9 → ∀ b, b < 9 → a ≠ b → (ct_T5 a).2.1 ≠ (ct_T5 b).2.1 := by decide +kernel
theorem ct_ok5 : ∀ k, k < 9 → parseFieldDescriptor (ct_T5 k).2.2.1 = some (ct_ty5 k) := by decide +kernel
def ct_T6 : u_T := fun k => match k with
  | 0 => ("ProofLedger$Reader", "names", "LProofLedger$Names;", true)
  | 1 => ("ProofLedger$Reader", "statements", "LProofLedger$Statements;", true)
  | 2 => ("ProofLedger$Reader", "assertions", "LProofLedger$Assertions;", true)
  | 3 => ("ProofLedger$Reader", "context", "LProofLedger$Context;", true)
  | 4 => ("ProofLedger$Reader", "proof", "LProofLedger$Proof;", true)
  | 5 => ("ProofLedger$Reader", "letters", "LProofLedger$Letters;", true)
  | 6 => ("ProofLedger$Reader", "stage", "I", false)
  | 7 => ("ProofLedger$Reader", "taken", "I", false)
  | _ => ("ProofLedger$Reader", "takenVariables", "J", false)
def ct_ty6 : Nat → FieldType := fun k => match k with
  | 0 => (.object "ProofLedger$Names")
  | 1 => (.object "ProofLedger$Statements")
  | 2 => (.object "ProofLedger$Assertions")
  | 3 => (.object "ProofLedger$Context")
  | 4 => (.object "ProofLedger$Proof")
  | 5 => (.object "ProofLedger$Letters")
  | 6 => .int
  | 7 => .int
  | _ => .long
theorem ct_nm6 : ∀ a, a < 9 → ∀ b, b < 9 → a ≠ b → (ct_T6 a).2.1 ≠ (ct_T6 b).2.1 := by decide +kernel
theorem ct_ok6 : ∀ k, k < 9 → parseFieldDescriptor (ct_T6 k).2.2.1 = some (ct_ty6 k) := by decide +kernel
def ct_T7 : u_T := fun k => match k with
  | 0 => ("ProofLedger$Context", "variables", "J", false)
  | 1 => ("ProofLedger$Context", "typed", "J", false)
  | 2 => ("ProofLedger$Context", "hypotheses", "J", false)
  | 3 => ("ProofLedger$Context", "pairs", "[I", true)
  | 4 => ("ProofLedger$Context", "pairCount", "I", false)
  | 5 => ("ProofLedger$Context", "apartFrom", "[J", true)
  | 6 => ("ProofLedger$Context", "scopes", "I", false)
  | 7 => ("ProofLedger$Context", "outerVariables", "[J", true)
  | 8 => ("ProofLedger$Context", "outerTyped", "[J", true)
  | 9 => ("ProofLedger$Context", "outerHypotheses", "[J", true)
  | _ => ("ProofLedger$Context", "outerPairCounts", "[I", true)
def ct_ty7 : Nat → FieldType := fun k => match k with
  | 0 => .long
  | 1 => .long
  | 2 => .long
  | 3 => (.array .int)
  | 4 => .int
  | 5 => (.array .long)
  | 6 => .int
  | 7 => (.array .long)
  | 8 => (.array .long)
  | 9 => (.array .long)
  | _ => (.array .int)
theorem ct_nm7 : ∀ a, a < 11 → ∀ b, b < 11 → a ≠ b → (ct_T7 a).2.1 ≠ (ct_T7 b).2.1 := by decide +kernel
theorem ct_ok7 : ∀ k, k < 11 → parseFieldDescriptor (ct_T7 k).2.2.1 = some (ct_ty7 k) := by decide +kernel
def ct_T8 : u_T := fun k => match k with
  | 0 => ("ProofLedger$Proof", "names", "LProofLedger$Names;", true)
  | 1 => ("ProofLedger$Proof", "statements", "LProofLedger$Statements;", true)
  | 2 => ("ProofLedger$Proof", "assertions", "LProofLedger$Assertions;", true)
  | 3 => ("ProofLedger$Proof", "context", "LProofLedger$Context;", true)
  | 4 => ("ProofLedger$Proof", "stack", "LProofLedger$Expressions;", true)
  | 5 => ("ProofLedger$Proof", "result", "LProofLedger$Expressions;", true)
  | 6 => ("ProofLedger$Proof", "replacements", "[I", true)
  | _ => ("ProofLedger$Proof", "incomplete", "Z", false)
def ct_ty8 : Nat → FieldType := fun k => match k with
  | 0 => (.object "ProofLedger$Names")
  | 1 => (.object "ProofLedger$Statements")
  | 2 => (.object "ProofLedger$Assertions")
  | 3 => (.object "ProofLedger$Context")
  | 4 => (.object "ProofLedger$Expressions")
  | 5 => (.object "ProofLedger$Expressions")
  | 6 => (.array .int)
  | _ => .boolean
theorem ct_nm8 : ∀ a, a < 8 → ∀ b, b < 8 → a ≠ b → (ct_T8 a).2.1 ≠ (ct_T8 b).2.1 := by decide +kernel
theorem ct_ok8 : ∀ k, k < 8 → parseFieldDescriptor (ct_T8 k).2.2.1 = some (ct_ty8 k) := by decide +kernel
def ct_T9 : u_T := fun k => match k with
  | 0 => ("ProofLedger$Letters", "statements", "LProofLedger$Statements;", true)
  | 1 => ("ProofLedger$Letters", "proof", "LProofLedger$Proof;", true)
  | 2 => ("ProofLedger$Letters", "references", "[I", true)
  | 3 => ("ProofLedger$Letters", "referenceCount", "I", false)
  | 4 => ("ProofLedger$Letters", "listed", "I", false)
  | 5 => ("ProofLedger$Letters", "tagged", "LProofLedger$Expressions;", true)
  | 6 => ("ProofLedger$Letters", "tagCount", "I", false)
  | 7 => ("ProofLedger$Letters", "number", "I", false)
  | 8 => ("ProofLedger$Letters", "insideNumber", "Z", false)
  | _ => ("ProofLedger$Letters", "behindNumber", "Z", false)
def ct_ty9 : Nat → FieldType := fun k => match k with
  | 0 => (.object "ProofLedger$Statements")
  | 1 => (.object "ProofLedger$Proof")
  | 2 => (.array .int)
  | 3 => .int
  | 4 => .int
  | 5 => (.object "ProofLedger$Expressions")
  | 6 => .int
  | 7 => .int
  | 8 => .boolean
  | _ => .boolean
theorem ct_nm9 : ∀ a, a < 10 → ∀ b, b < 10 → a ≠ b → (ct_T9 a).2.1 ≠ (ct_T9 b).2.1 := by decide +kernel
theorem ct_ok9 : ∀ k, k < 10 → parseFieldDescriptor (ct_T9 k).2.2.1 = some (ct_ty9 k) := by decide +kernel
def ct_T10 : u_T := fun k => match k with
  | 0 => ("ProofLedgerModel", "text", "[I", true)
  | 1 => ("ProofLedgerModel", "length", "I", false)
  | 2 => ("ProofLedgerModel", "begins", "[I", true)
  | 3 => ("ProofLedgerModel", "lengths", "[I", true)
  | 4 => ("ProofLedgerModel", "words", "I", false)
  | 5 => ("ProofLedgerModel", "w", "I", false)
  | 6 => ("ProofLedgerModel", "fault", "I", false)
  | 7 => ("ProofLedgerModel", "where", "I", false)
  | 8 => ("ProofLedgerModel", "names", "I", false)
  | 9 => ("ProofLedgerModel", "code", "[J", true)
  | 10 => ("ProofLedgerModel", "sort", "[I", true)
  | 11 => ("ProofLedgerModel", "lives", "[Z", true)
  | 12 => ("ProofLedgerModel", "scopeOf", "[I", true)
  | 13 => ("ProofLedgerModel", "labelled", "[I", true)
  | 14 => ("ProofLedgerModel", "scopes", "I", false)
  | 15 => ("ProofLedgerModel", "statements", "I", false)
  | 16 => ("ProofLedgerModel", "kind", "[I", true)
  | 17 => ("ProofLedgerModel", "labelOf", "[I", true)
  | 18 => ("ProofLedgerModel", "symbols", "[I", true)
  | 19 => ("ProofLedgerModel", "sizes", "[I", true)
  | 20 => ("ProofLedgerModel", "holds", "[Z", true)
  | 21 => ("ProofLedgerModel", "scopeAt", "[I", true)
  | 22 => ("ProofLedgerModel", "asAssertion", "[I", true)
  | 23 => ("ProofLedgerModel", "pairs", "I", false)
  | 24 => ("ProofLedgerModel", "left", "[I", true)
  | 25 => ("ProofLedgerModel", "right", "[I", true)
  | 26 => ("ProofLedgerModel", "pairScope", "[I", true)
  | 27 => ("ProofLedgerModel", "assertions", "I", false)
  | 28 => ("ProofLedgerModel", "statementOf", "[I", true)
  | 29 => ("ProofLedgerModel", "needs", "[I", true)
  | 30 => ("ProofLedgerModel", "needed", "[I", true)
  | 31 => ("ProofLedgerModel", "pairLeft", "[I", true)
  | 32 => ("ProofLedgerModel", "pairRight", "[I", true)
  | 33 => ("ProofLedgerModel", "paired", "[I", true)
  | 34 => ("ProofLedgerModel", "stepCount", "[I", true)
  | 35 => ("ProofLedgerModel", "deepest", "[I", true)
  | 36 => ("ProofLedgerModel", "used", "[I", true)
  | 37 => ("ProofLedgerModel", "open", "[Z", true)
  | 38 => ("ProofLedgerModel", "sure", "[Z", true)
  | 39 => ("ProofLedgerModel", "now", "[I", true)
  | 40 => ("ProofLedgerModel", "nows", "I", false)
  | 41 => ("ProofLedgerModel", "occurs", "[Z", true)
  | 42 => ("ProofLedgerModel", "row", "[I", true)
  | 43 => ("ProofLedgerModel", "stack", "[I", true)
  | 44 => ("ProofLedgerModel", "stackSize", "[I", true)
  | 45 => ("ProofLedgerModel", "high", "I", false)
  | 46 => ("ProofLedgerModel", "tagged", "[I", true)
  | 47 => ("ProofLedgerModel", "tagSize", "[I", true)
  | 48 => ("ProofLedgerModel", "tags", "I", false)
  | 49 => ("ProofLedgerModel", "place", "[I", true)
  | 50 => ("ProofLedgerModel", "made", "[I", true)
  | 51 => ("ProofLedgerModel", "gap", "Z", false)
  | 52 => ("ProofLedgerModel", "listed", "[I", true)
  | 53 => ("ProofLedgerModel", "lists", "I", false)
  | 54 => ("ProofLedgerModel", "number", "I", false)
  | 55 => ("ProofLedgerModel", "inside", "Z", false)
  | _ => ("ProofLedgerModel", "ended", "Z", false)
def ct_ty10 : Nat → FieldType := fun k => match k with
  | 0 => (.array .int)
  | 1 => .int
  | 2 => (.array .int)
  | 3 => (.array .int)
  | 4 => .int
  | 5 => .int
  | 6 => .int
  | 7 => .int
  | 8 => .int
  | 9 => (.array .long)
  | 10 => (.array .int)
  | 11 => (.array .boolean)
  | 12 => (.array .int)
  | 13 => (.array .int)
  | 14 => .int
  | 15 => .int
  | 16 => (.array .int)
  | 17 => (.array .int)
  | 18 => (.array .int)
  | 19 => (.array .int)
  | 20 => (.array .boolean)
  | 21 => (.array .int)
  | 22 => (.array .int)
  | 23 => .int
  | 24 => (.array .int)
  | 25 => (.array .int)
  | 26 => (.array .int)
  | 27 => .int
  | 28 => (.array .int)
  | 29 => (.array .int)
  | 30 => (.array .int)
  | 31 => (.array .int)
  | 32 => (.array .int)
  | 33 => (.array .int)
  | 34 => (.array .int)
  | 35 => (.array .int)
  | 36 => (.array .int)
  | 37 => (.array .boolean)
  | 38 => (.array .boolean)
  | 39 => (.array .int)
  | 40 => .int
  | 41 => (.array .boolean)
  | 42 => (.array .int)
  | 43 => (.array .int)
  | 44 => (.array .int)
  | 45 => .int
  | 46 => (.array .int)
  | 47 => (.array .int)
  | 48 => .int
  | 49 => (.array .int)
  | 50 => (.array .int)
  | 51 => .boolean
  | 52 => (.array .int)
  | 53 => .int
  | 54 => .int
  | 55 => .boolean
  | _ => .boolean
theorem ct_nm10 : ∀ a, a < 57 → ∀ b, b < 57 → a ≠ b → (ct_T10 a).2.1 ≠ (ct_T10 b).2.1 := by decide +kernel
theorem ct_ok10 : ∀ k, k < 57 → parseFieldDescriptor (ct_T10 k).2.2.1 = some (ct_ty10 k) := by decide +kernel
def am_cl : List vw_C := [("ProofLedger", ct_T0, 6), ("ProofLedger$Text", ct_T1, 8), ("ProofLedger$Names", ct_T2, 6), ("ProofLedger$Statements", ct_T3, 5), ("ProofLedger$Expressions", ct_T4, 5), ("ProofLedger$Assertions", ct_T5, 9), ("ProofLedger$Reader", ct_T6, 9), ("ProofLedger$Context", ct_T7, 11), ("ProofLedger$Proof", ct_T8, 8), ("ProofLedger$Letters", ct_T9, 10), ("ProofLedgerModel", ct_T10, 57)]
def am_fty (ci k : Nat) : FieldType := match ci with
  | 0 => ct_ty0 k
  | 1 => ct_ty1 k
  | 2 => ct_ty2 k
  | 3 => ct_ty3 k
  | 4 => ct_ty4 k
  | 5 => ct_ty5 k
  | 6 => ct_ty6 k
  | 7 => ct_ty7 k
  | 8 => ct_ty8 k
  | 9 => ct_ty9 k
  | _ => ct_ty10 k
def am_TS : List Jvm.Cond := lw_tbl.filter goodWord
theorem am_TS_good (w : Jvm.Cond) (h : w ∈ am_TS) : goodWord w = true := (List.mem_filter.mp h).2
theorem am_TS_sub (w : Jvm.Cond) (h : w ∈ am_TS) : w ∈ lw_tbl := (List.mem_filter.mp h).1
theorem am_one {w : Jvm.Cond} (p : Nat) (h : lw_tbl[p]? = some w) (g : goodWord w = true) : w ∈ am_TS := List.mem_filter.mpr ⟨List.mem_of_getElem? h, g⟩
theorem am_all (ws : List Jvm.Cond) (ps : List Nat) (h : ws = ps.filterMap (fun i => lw_tbl[i]?)) (g : ws.all goodWord = true) : ∀ w ∈ ws, w ∈ am_TS := by
  intro w hw
  have h1 := List.all_eq_true.mp g w hw
  rw [h] at hw
  obtain ⟨i, -, hi⟩ := List.mem_filterMap.mp hw
  exact am_one i hi h1
set_option maxRecDepth 20000 in
theorem ct_ws0 : ∀ w ∈ u_ws "ProofLedger" ct_T0 6, w ∈ am_TS := am_all _ [453, 455, 457, 459, 461, 463] (by decide +kernel) (by decide +kernel)
theorem ct_inst0 : Jvm.Cond.instantiable "ProofLedger" 6 ∈ am_TS := am_one 106 (by decide +kernel) (by decide +kernel)
set_option maxRecDepth 20000 in
theorem ct_ws1 : ∀ w ∈ u_ws "ProofLedger$Text" ct_T1 8, w ∈ am_TS := am_all _ [134, 136, 138, 140, 142, 144, 146, 148] (by decide +kernel) (by decide +kernel)
theorem ct_inst1 : Jvm.Cond.instantiable "ProofLedger$Text" 8 ∈ am_TS := am_one 114 (by decide +kernel) (by decide +kernel)
set_option maxRecDepth 20000 in
theorem ct_ws2 : ∀ w ∈ u_ws "ProofLedger$Names" ct_T2 6, w ∈ am_TS := am_all _ [171, 173, 175, 177, 179, 181] (by decide +kernel) (by decide +kernel)
theorem ct_inst2 : Jvm.Cond.instantiable "ProofLedger$Names" 6 ∈ am_TS := am_one 153 (by decide +kernel) (by decide +kernel)
set_option maxRecDepth 20000 in
theorem ct_ws3 : ∀ w ∈ u_ws "ProofLedger$Statements" ct_T3 5, w ∈ am_TS := am_all _ [238, 240, 242, 244, 246] (by decide +kernel) (by decide +kernel)
theorem ct_inst3 : Jvm.Cond.instantiable "ProofLedger$Statements" 5 ∈ am_TS := am_one 187 (by decide +kernel) (by decide +kernel)
set_option maxRecDepth 20000 in
theorem ct_ws4 : ∀ w ∈ u_ws "ProofLedger$Expressions" ct_T4 5, w ∈ am_TS := am_all _ [211, 213, 215, 217, 219] (by decide +kernel) (by decide +kernel)
theorem ct_inst4 : Jvm.Cond.instantiable "ProofLedger$Expressions" 5 ∈ am_TS := am_one 193 (by decide +kernel) (by decide +kernel)
set_option maxRecDepth 20000 in
theorem ct_ws5 : ∀ w ∈ u_ws "ProofLedger$Assertions" ct_T5 9, w ∈ am_TS := am_all _ [272, 274, 276, 278, 280, 282, 284, 286, 288] (by decide +kernel) (by decide +kernel)
theorem ct_inst5 : Jvm.Cond.instantiable "ProofLedger$Assertions" 9 ∈ am_TS := am_one 250 (by decide +kernel) (by decide +kernel)
set_option maxRecDepth 20000 in
theorem ct_ws6 : ∀ w ∈ u_ws "ProofLedger$Reader" ct_T6 9, w ∈ am_TS := am_all _ [428, 430, 432, 434, 436, 438, 440, 442, 444] (by decide +kernel) (by decide +kernel)
theorem ct_inst6 : Jvm.Cond.instantiable "ProofLedger$Reader" 9 ∈ am_TS := am_one 293 (by decide +kernel) (by decide +kernel)
set_option maxRecDepth 20000 in
theorem ct_ws7 : ∀ w ∈ u_ws "ProofLedger$Context" ct_T7 11, w ∈ am_TS := am_all _ [321, 323, 325, 327, 329, 331, 333, 335, 337, 339, 341] (by decide +kernel) (by decide +kernel)
theorem ct_inst7 : Jvm.Cond.instantiable "ProofLedger$Context" 11 ∈ am_TS := am_one 299 (by decide +kernel) (by decide +kernel)
set_option maxRecDepth 20000 in
theorem ct_ws8 : ∀ w ∈ u_ws "ProofLedger$Proof" ct_T8 8, w ∈ am_TS := am_all _ [362, 364, 366, 368, 370, 372, 374, 376] (by decide +kernel) (by decide +kernel)
theorem ct_inst8 : Jvm.Cond.instantiable "ProofLedger$Proof" 8 ∈ am_TS := am_one 345 (by decide +kernel) (by decide +kernel)
set_option maxRecDepth 20000 in
theorem ct_ws9 : ∀ w ∈ u_ws "ProofLedger$Letters" ct_T9 10, w ∈ am_TS := am_all _ [398, 400, 402, 404, 406, 408, 410, 412, 414, 416] (by decide +kernel) (by decide +kernel)
theorem ct_inst9 : Jvm.Cond.instantiable "ProofLedger$Letters" 10 ∈ am_TS := am_one 380 (by decide +kernel) (by decide +kernel)
set_option maxRecDepth 20000 in
theorem ct_ws10 : ∀ w ∈ u_ws "ProofLedgerModel" ct_T10 57, w ∈ am_TS := am_all _ [972, 974, 976, 978, 980, 982, 984, 986, 988, 990, 992, 994, 996, 998, 1000, 1002, 1004, 1006, 1008, 1010, 1012, 1014, 1016, 1018, 1020, 1022, 1024, 1026, 1028, 1030, 1032, 1034, 1036, 1038, 1040, 1042, 1044, 1046, 1048, 1050, 1052, 1054, 1056, 1058, 1060, 1062, 1064, 1066, 1068, 1070, 1072, 1074, 1076, 1078, 1080, 1082, 1084] (by decide +kernel) (by decide +kernel)
theorem ct_inst10 : Jvm.Cond.instantiable "ProofLedgerModel" 57 ∈ am_TS := am_one 910 (by decide +kernel) (by decide +kernel)
theorem ct_ini_ProofLedger : Jvm.Cond.initialized "ProofLedger" ∈ am_TS := am_one 90 (by decide +kernel) (by decide +kernel)
theorem ct_ini_ProofLedger_Assertions : Jvm.Cond.initialized "ProofLedger$Assertions" ∈ am_TS := am_one 95 (by decide +kernel) (by decide +kernel)
theorem ct_ini_ProofLedger_Context : Jvm.Cond.initialized "ProofLedger$Context" ∈ am_TS := am_one 97 (by decide +kernel) (by decide +kernel)
theorem ct_ini_ProofLedger_Expressions : Jvm.Cond.initialized "ProofLedger$Expressions" ∈ am_TS := am_one 94 (by decide +kernel) (by decide +kernel)
theorem ct_ini_ProofLedger_Letters : Jvm.Cond.initialized "ProofLedger$Letters" ∈ am_TS := am_one 99 (by decide +kernel) (by decide +kernel)
theorem ct_ini_ProofLedger_Names : Jvm.Cond.initialized "ProofLedger$Names" ∈ am_TS := am_one 92 (by decide +kernel) (by decide +kernel)
theorem ct_ini_ProofLedger_Proof : Jvm.Cond.initialized "ProofLedger$Proof" ∈ am_TS := am_one 98 (by decide +kernel) (by decide +kernel)
theorem ct_ini_ProofLedger_Reader : Jvm.Cond.initialized "ProofLedger$Reader" ∈ am_TS := am_one 96 (by decide +kernel) (by decide +kernel)
theorem ct_ini_ProofLedger_Statements : Jvm.Cond.initialized "ProofLedger$Statements" ∈ am_TS := am_one 93 (by decide +kernel) (by decide +kernel)
theorem ct_ini_ProofLedger_Text : Jvm.Cond.initialized "ProofLedger$Text" ∈ am_TS := am_one 91 (by decide +kernel) (by decide +kernel)
theorem ct_ini_ProofLedgerLaw : Jvm.Cond.initialized "ProofLedgerLaw" ∈ am_TS := am_one 89 (by decide +kernel) (by decide +kernel)
theorem ct_ini_ProofLedgerModel : Jvm.Cond.initialized "ProofLedgerModel" ∈ am_TS := am_one 100 (by decide +kernel) (by decide +kernel)
theorem ct_ini_java_lang_Long : Jvm.Cond.initialized "java/lang/Long" ∈ am_TS := am_one 104 (by decide +kernel) (by decide +kernel)
theorem ct_ini_java_lang_Math : Jvm.Cond.initialized "java/lang/Math" ∈ am_TS := am_one 103 (by decide +kernel) (by decide +kernel)
theorem ct_ini_java_lang_System : Jvm.Cond.initialized "java/lang/System" ∈ am_TS := am_one 102 (by decide +kernel) (by decide +kernel)
theorem ct_ini_java_util_Arrays : Jvm.Cond.initialized "java/util/Arrays" ∈ am_TS := am_one 101 (by decide +kernel) (by decide +kernel)
theorem am_cl_ws {ci : Nat} {C : String} {T : u_T} {N : Nat} (h : am_cl[ci]? = some (C, T, N)) : ∀ w ∈ u_ws C T N, w ∈ am_TS := match ci, h with
  | 0, h => by cases h; exact ct_ws0
  | 1, h => by cases h; exact ct_ws1
  | 2, h => by cases h; exact ct_ws2
  | 3, h => by cases h; exact ct_ws3
  | 4, h => by cases h; exact ct_ws4
  | 5, h => by cases h; exact ct_ws5
  | 6, h => by cases h; exact ct_ws6
  | 7, h => by cases h; exact ct_ws7
  | 8, h => by cases h; exact ct_ws8
  | 9, h => by cases h; exact ct_ws9
  | 10, h => by cases h; exact ct_ws10
  | _ + 11, h => by cases h
theorem am_cl_ty {ci : Nat} {C : String} {T : u_T} {N : Nat} (h : am_cl[ci]? = some (C, T, N)) : ∀ k, k < N → parseFieldDescriptor (T k).2.2.1 = some (am_fty ci k) := match ci, h with
  | 0, h => by cases h; exact ct_ok0
  | 1, h => by cases h; exact ct_ok1
  | 2, h => by cases h; exact ct_ok2
  | 3, h => by cases h; exact ct_ok3
  | 4, h => by cases h; exact ct_ok4
  | 5, h => by cases h; exact ct_ok5
  | 6, h => by cases h; exact ct_ok6
  | 7, h => by cases h; exact ct_ok7
  | 8, h => by cases h; exact ct_ok8
  | 9, h => by cases h; exact ct_ok9
  | 10, h => by cases h; exact ct_ok10
  | _ + 11, h => by cases h
theorem am_cl_nm {ci : Nat} {C : String} {T : u_T} {N : Nat} (h : am_cl[ci]? = some (C, T, N)) : ∀ a, a < N → ∀ b, b < N → a ≠ b → (T a).2.1 ≠ (T b).2.1 := match ci, h with
  | 0, h => by cases h; exact ct_nm0
  | 1, h => by cases h; exact ct_nm1
  | 2, h => by cases h; exact ct_nm2
  | 3, h => by cases h; exact ct_nm3
  | 4, h => by cases h; exact ct_nm4
  | 5, h => by cases h; exact ct_nm5
  | 6, h => by cases h; exact ct_nm6
  | 7, h => by cases h; exact ct_nm7
  | 8, h => by cases h; exact ct_nm8
  | 9, h => by cases h; exact ct_nm9
  | 10, h => by cases h; exact ct_nm10
  | _ + 11, h => by cases h
theorem am_cl_inst {ci : Nat} {C : String} {T : u_T} {N : Nat} (h : am_cl[ci]? = some (C, T, N)) : Jvm.Cond.instantiable C N ∈ am_TS := match ci, h with
  | 0, h => by cases h; exact ct_inst0
  | 1, h => by cases h; exact ct_inst1
  | 2, h => by cases h; exact ct_inst2
  | 3, h => by cases h; exact ct_inst3
  | 4, h => by cases h; exact ct_inst4
  | 5, h => by cases h; exact ct_inst5
  | 6, h => by cases h; exact ct_inst6
  | 7, h => by cases h; exact ct_inst7
  | 8, h => by cases h; exact ct_inst8
  | 9, h => by cases h; exact ct_inst9
  | 10, h => by cases h; exact ct_inst10
  | _ + 11, h => by cases h
theorem am_cl_ini {ci : Nat} {C : String} {T : u_T} {N : Nat} (h : am_cl[ci]? = some (C, T, N)) : Jvm.Cond.initialized C ∈ am_TS := match ci, h with
  | 0, h => by cases h; exact ct_ini_ProofLedger
  | 1, h => by cases h; exact ct_ini_ProofLedger_Text
  | 2, h => by cases h; exact ct_ini_ProofLedger_Names
  | 3, h => by cases h; exact ct_ini_ProofLedger_Statements
  | 4, h => by cases h; exact ct_ini_ProofLedger_Expressions
  | 5, h => by cases h; exact ct_ini_ProofLedger_Assertions
  | 6, h => by cases h; exact ct_ini_ProofLedger_Reader
  | 7, h => by cases h; exact ct_ini_ProofLedger_Context
  | 8, h => by cases h; exact ct_ini_ProofLedger_Proof
  | 9, h => by cases h; exact ct_ini_ProofLedger_Letters
  | 10, h => by cases h; exact ct_ini_ProofLedgerModel
  | _ + 11, h => by cases h
theorem am_TS_o1 : Jvm.Cond.instanceMethod objectInit ∈ am_TS := am_one 111 (by decide +kernel) (by decide +kernel)
theorem am_TS_o2 : Jvm.Cond.code objectInit ⟨#[0xb1]⟩ 1 none ∈ am_TS := am_one 112 (by decide +kernel) (by decide +kernel)
theorem am_TS_c1 : Jvm.Cond.native arraycopyName ∈ am_TS := am_one 736 (by decide +kernel) (by decide +kernel)
theorem am_TS_c2 : Jvm.Cond.static arraycopyName ∈ am_TS := am_one 735 (by decide +kernel) (by decide +kernel)
theorem am_TS_m1 : Jvm.Cond.static Lib.Math.max.name ∈ am_TS := am_one 742 (by decide +kernel) (by decide +kernel)
theorem am_TS_m2 : Jvm.Cond.code Lib.Math.max.name Lib.Math.max.code 2 (some .int) ∈ am_TS := am_one 743 (by decide +kernel) (by decide +kernel)
theorem am_TS_c3 : Jvm.Cond.initialized "java/lang/System" ∈ am_TS := ct_ini_java_lang_System
theorem am_TS_z : Jvm.Cond.arrayClass .boolean ∈ am_TS := am_one 291 (by decide +kernel) (by decide +kernel)
theorem am_TS_b : Jvm.Cond.arrayClass .byte ∈ am_TS := am_one 151 (by decide +kernel) (by decide +kernel)
theorem am_TS_i : Jvm.Cond.arrayClass .int ∈ am_TS := am_one 185 (by decide +kernel) (by decide +kernel)
theorem am_TS_l : Jvm.Cond.arrayClass .long ∈ am_TS := am_one 184 (by decide +kernel) (by decide +kernel)

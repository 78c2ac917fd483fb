section
-- ===== PART A: goes FIRST, ahead of the names: the tables' words, and 'selects' of the private methods out of them =====
/-- a private method of a class that the tables say can be made, by its rows of tables_1 -/
def lw_okq (q : MethodName × Nat) : Prop := (q.1.cls ≠ "java/lang/invoke/MethodHandle" ∧ q.1.cls ≠ "java/lang/invoke/VarHandle") ∧ Cond.instantiable q.1.cls q.2 ∈ tables_1 ∧ Cond.privateMethod q.1 ∈ tables_1 ∧ Cond.instanceMethod q.1 ∈ tables_1
theorem lw_p0 : lw_okq (⟨"ProofLedger$Context", "forgetPairs", "(I)V"⟩, 11) := ⟨⟨by decide +kernel, by decide +kernel⟩, List.mem_of_getElem? (i := 210) (by decide +kernel), List.mem_of_getElem? (i := 414) (by decide +kernel), List.mem_of_getElem? (i := 415) (by decide +kernel)⟩
theorem lw_p1 : lw_okq (⟨"ProofLedger$Text", "scanWord", "()Z"⟩, 8) := ⟨⟨by decide +kernel, by decide +kernel⟩, List.mem_of_getElem? (i := 25) (by decide +kernel), List.mem_of_getElem? (i := 438) (by decide +kernel), List.mem_of_getElem? (i := 439) (by decide +kernel)⟩
theorem lw_p2 : lw_okq (⟨"ProofLedger$Reader", "beginUnlabelled", "(I)I"⟩, 9) := ⟨⟨by decide +kernel, by decide +kernel⟩, List.mem_of_getElem? (i := 204) (by decide +kernel), List.mem_of_getElem? (i := 452) (by decide +kernel), List.mem_of_getElem? (i := 453) (by decide +kernel)⟩
theorem lw_p3 : lw_okq (⟨"ProofLedger$Reader", "beginNames", "(I)I"⟩, 9) := ⟨⟨by decide +kernel, by decide +kernel⟩, List.mem_of_getElem? (i := 204) (by decide +kernel), List.mem_of_getElem? (i := 464) (by decide +kernel), List.mem_of_getElem? (i := 465) (by decide +kernel)⟩
theorem lw_p4 : lw_okq (⟨"ProofLedger$Reader", "endNames", "(I)I"⟩, 9) := ⟨⟨by decide +kernel, by decide +kernel⟩, List.mem_of_getElem? (i := 204) (by decide +kernel), List.mem_of_getElem? (i := 468) (by decide +kernel), List.mem_of_getElem? (i := 469) (by decide +kernel)⟩
theorem lw_p5 : lw_okq (⟨"ProofLedger$Reader", "takeKind", "(I)I"⟩, 9) := ⟨⟨by decide +kernel, by decide +kernel⟩, List.mem_of_getElem? (i := 204) (by decide +kernel), List.mem_of_getElem? (i := 472) (by decide +kernel), List.mem_of_getElem? (i := 473) (by decide +kernel)⟩
theorem lw_p6 : lw_okq (⟨"ProofLedger$Reader", "declare", "()I"⟩, 9) := ⟨⟨by decide +kernel, by decide +kernel⟩, List.mem_of_getElem? (i := 204) (by decide +kernel), List.mem_of_getElem? (i := 476) (by decide +kernel), List.mem_of_getElem? (i := 477) (by decide +kernel)⟩
theorem lw_p7 : lw_okq (⟨"ProofLedger$Reader", "endSymbols", "(I)I"⟩, 9) := ⟨⟨by decide +kernel, by decide +kernel⟩, List.mem_of_getElem? (i := 204) (by decide +kernel), List.mem_of_getElem? (i := 488) (by decide +kernel), List.mem_of_getElem? (i := 489) (by decide +kernel)⟩
theorem lw_p8 : lw_okq (⟨"ProofLedger$Reader", "beginAssertion", "(I)V"⟩, 9) := ⟨⟨by decide +kernel, by decide +kernel⟩, List.mem_of_getElem? (i := 204) (by decide +kernel), List.mem_of_getElem? (i := 492) (by decide +kernel), List.mem_of_getElem? (i := 493) (by decide +kernel)⟩
theorem lw_p9 : lw_okq (⟨"ProofLedger$Reader", "mandatoryVariables", "(I)J"⟩, 9) := ⟨⟨by decide +kernel, by decide +kernel⟩, List.mem_of_getElem? (i := 204) (by decide +kernel), List.mem_of_getElem? (i := 500) (by decide +kernel), List.mem_of_getElem? (i := 501) (by decide +kernel)⟩
theorem lw_p10 : lw_okq (⟨"ProofLedger$Reader", "isActiveHypothesis", "(I)Z"⟩, 9) := ⟨⟨by decide +kernel, by decide +kernel⟩, List.mem_of_getElem? (i := 204) (by decide +kernel), List.mem_of_getElem? (i := 504) (by decide +kernel), List.mem_of_getElem? (i := 505) (by decide +kernel)⟩
theorem lw_p11 : lw_okq (⟨"ProofLedger$Reader", "keepPairs", "(J)V"⟩, 9) := ⟨⟨by decide +kernel, by decide +kernel⟩, List.mem_of_getElem? (i := 204) (by decide +kernel), List.mem_of_getElem? (i := 508) (by decide +kernel), List.mem_of_getElem? (i := 509) (by decide +kernel)⟩
theorem lw_p12 : lw_okq (⟨"ProofLedger$Reader", "endProof", "()I"⟩, 9) := ⟨⟨by decide +kernel, by decide +kernel⟩, List.mem_of_getElem? (i := 204) (by decide +kernel), List.mem_of_getElem? (i := 521) (by decide +kernel), List.mem_of_getElem? (i := 522) (by decide +kernel)⟩
theorem lw_p13 : lw_okq (⟨"ProofLedger$Reader", "takeLabel", "(J)I"⟩, 9) := ⟨⟨by decide +kernel, by decide +kernel⟩, List.mem_of_getElem? (i := 204) (by decide +kernel), List.mem_of_getElem? (i := 541) (by decide +kernel), List.mem_of_getElem? (i := 542) (by decide +kernel)⟩
theorem lw_p14 : lw_okq (⟨"ProofLedger$Reader", "declareConstant", "(J)I"⟩, 9) := ⟨⟨by decide +kernel, by decide +kernel⟩, List.mem_of_getElem? (i := 204) (by decide +kernel), List.mem_of_getElem? (i := 565) (by decide +kernel), List.mem_of_getElem? (i := 566) (by decide +kernel)⟩
theorem lw_p15 : lw_okq (⟨"ProofLedger$Reader", "declareVariable", "(J)I"⟩, 9) := ⟨⟨by decide +kernel, by decide +kernel⟩, List.mem_of_getElem? (i := 204) (by decide +kernel), List.mem_of_getElem? (i := 569) (by decide +kernel), List.mem_of_getElem? (i := 570) (by decide +kernel)⟩
def lw_privs_1 : List (MethodName × Nat) := [(⟨"ProofLedger$Context", "forgetPairs", "(I)V"⟩, 11), (⟨"ProofLedger$Text", "scanWord", "()Z"⟩, 8), (⟨"ProofLedger$Reader", "beginUnlabelled", "(I)I"⟩, 9), (⟨"ProofLedger$Reader", "beginNames", "(I)I"⟩, 9), (⟨"ProofLedger$Reader", "endNames", "(I)I"⟩, 9), (⟨"ProofLedger$Reader", "takeKind", "(I)I"⟩, 9), (⟨"ProofLedger$Reader", "declare", "()I"⟩, 9), (⟨"ProofLedger$Reader", "endSymbols", "(I)I"⟩, 9), (⟨"ProofLedger$Reader", "beginAssertion", "(I)V"⟩, 9), (⟨"ProofLedger$Reader", "mandatoryVariables", "(I)J"⟩, 9), (⟨"ProofLedger$Reader", "isActiveHypothesis", "(I)Z"⟩, 9), (⟨"ProofLedger$Reader", "keepPairs", "(J)V"⟩, 9), (⟨"ProofLedger$Reader", "endProof", "()I"⟩, 9), (⟨"ProofLedger$Reader", "takeLabel", "(J)I"⟩, 9), (⟨"ProofLedger$Reader", "declareConstant", "(J)I"⟩, 9), (⟨"ProofLedger$Reader", "declareVariable", "(J)I"⟩, 9)]
theorem lw_r1 : ∀ q ∈ lw_privs_1, lw_okq q := List.forall_mem_cons.mpr ⟨lw_p0, List.forall_mem_cons.mpr ⟨lw_p1, List.forall_mem_cons.mpr ⟨lw_p2, List.forall_mem_cons.mpr ⟨lw_p3, List.forall_mem_cons.mpr ⟨lw_p4, List.forall_mem_cons.mpr ⟨lw_p5, List.forall_mem_cons.mpr ⟨lw_p6, List.forall_mem_cons.mpr ⟨lw_p7, List.forall_mem_cons.mpr ⟨lw_p8, List.forall_mem_cons.mpr ⟨lw_p9, List.forall_mem_cons.mpr ⟨lw_p10, List.forall_mem_cons.mpr ⟨lw_p11, List.forall_mem_cons.mpr ⟨lw_p12, List.forall_mem_cons.mpr ⟨lw_p13, List.forall_mem_cons.mpr ⟨lw_p14, List.forall_mem_cons.mpr ⟨lw_p15, fun _ h => absurd h List.not_mem_nil⟩⟩⟩⟩⟩⟩⟩⟩⟩⟩⟩⟩⟩⟩⟩⟩
theorem lw_p16 : lw_okq (⟨"ProofLedger$Reader", "isActive", "(I)Z"⟩, 9) := ⟨⟨by decide +kernel, by decide +kernel⟩, List.mem_of_getElem? (i := 204) (by decide +kernel), List.mem_of_getElem? (i := 573) (by decide +kernel), List.mem_of_getElem? (i := 574) (by decide +kernel)⟩
theorem lw_p17 : lw_okq (⟨"ProofLedger$Reader", "takeApart", "(I)I"⟩, 9) := ⟨⟨by decide +kernel, by decide +kernel⟩, List.mem_of_getElem? (i := 204) (by decide +kernel), List.mem_of_getElem? (i := 577) (by decide +kernel), List.mem_of_getElem? (i := 578) (by decide +kernel)⟩
theorem lw_p18 : lw_okq (⟨"ProofLedger$Reader", "meaningOf", "(I)I"⟩, 9) := ⟨⟨by decide +kernel, by decide +kernel⟩, List.mem_of_getElem? (i := 204) (by decide +kernel), List.mem_of_getElem? (i := 581) (by decide +kernel), List.mem_of_getElem? (i := 582) (by decide +kernel)⟩
theorem lw_p19 : lw_okq (⟨"ProofLedger$Reader", "takeType", "(I)I"⟩, 9) := ⟨⟨by decide +kernel, by decide +kernel⟩, List.mem_of_getElem? (i := 204) (by decide +kernel), List.mem_of_getElem? (i := 586) (by decide +kernel), List.mem_of_getElem? (i := 587) (by decide +kernel)⟩
theorem lw_p20 : lw_okq (⟨"ProofLedger$Reader", "takeFloating", "(I)I"⟩, 9) := ⟨⟨by decide +kernel, by decide +kernel⟩, List.mem_of_getElem? (i := 204) (by decide +kernel), List.mem_of_getElem? (i := 594) (by decide +kernel), List.mem_of_getElem? (i := 595) (by decide +kernel)⟩
theorem lw_p21 : lw_okq (⟨"ProofLedger$Reader", "isTyped", "(I)Z"⟩, 9) := ⟨⟨by decide +kernel, by decide +kernel⟩, List.mem_of_getElem? (i := 204) (by decide +kernel), List.mem_of_getElem? (i := 598) (by decide +kernel), List.mem_of_getElem? (i := 599) (by decide +kernel)⟩
theorem lw_p22 : lw_okq (⟨"ProofLedger$Reader", "takeSymbol", "(I)I"⟩, 9) := ⟨⟨by decide +kernel, by decide +kernel⟩, List.mem_of_getElem? (i := 204) (by decide +kernel), List.mem_of_getElem? (i := 602) (by decide +kernel), List.mem_of_getElem? (i := 603) (by decide +kernel)⟩
theorem lw_p23 : lw_okq (⟨"ProofLedger$Reader", "beginSteps", "(J)I"⟩, 9) := ⟨⟨by decide +kernel, by decide +kernel⟩, List.mem_of_getElem? (i := 204) (by decide +kernel), List.mem_of_getElem? (i := 610) (by decide +kernel), List.mem_of_getElem? (i := 611) (by decide +kernel)⟩
theorem lw_p24 : lw_okq (⟨"ProofLedger$Reader", "takeStep", "(J)I"⟩, 9) := ⟨⟨by decide +kernel, by decide +kernel⟩, List.mem_of_getElem? (i := 204) (by decide +kernel), List.mem_of_getElem? (i := 615) (by decide +kernel), List.mem_of_getElem? (i := 616) (by decide +kernel)⟩
theorem lw_p25 : lw_okq (⟨"ProofLedger$Reader", "findUsable", "(J)I"⟩, 9) := ⟨⟨by decide +kernel, by decide +kernel⟩, List.mem_of_getElem? (i := 204) (by decide +kernel), List.mem_of_getElem? (i := 628) (by decide +kernel), List.mem_of_getElem? (i := 629) (by decide +kernel)⟩
theorem lw_p26 : lw_okq (⟨"ProofLedger$Proof", "bind", "(II)Z"⟩, 8) := ⟨⟨by decide +kernel, by decide +kernel⟩, List.mem_of_getElem? (i := 256) (by decide +kernel), List.mem_of_getElem? (i := 662) (by decide +kernel), List.mem_of_getElem? (i := 663) (by decide +kernel)⟩
theorem lw_p27 : lw_okq (⟨"ProofLedger$Proof", "replaceIn", "(I)Z"⟩, 8) := ⟨⟨by decide +kernel, by decide +kernel⟩, List.mem_of_getElem? (i := 256) (by decide +kernel), List.mem_of_getElem? (i := 674) (by decide +kernel), List.mem_of_getElem? (i := 675) (by decide +kernel)⟩
theorem lw_p28 : lw_okq (⟨"ProofLedger$Proof", "keepsApart", "(I)Z"⟩, 8) := ⟨⟨by decide +kernel, by decide +kernel⟩, List.mem_of_getElem? (i := 256) (by decide +kernel), List.mem_of_getElem? (i := 685) (by decide +kernel), List.mem_of_getElem? (i := 686) (by decide +kernel)⟩
theorem lw_p29 : lw_okq (⟨"ProofLedger$Reader", "takeListed", "(J)I"⟩, 9) := ⟨⟨by decide +kernel, by decide +kernel⟩, List.mem_of_getElem? (i := 204) (by decide +kernel), List.mem_of_getElem? (i := 713) (by decide +kernel), List.mem_of_getElem? (i := 714) (by decide +kernel)⟩
theorem lw_p30 : lw_okq (⟨"ProofLedger$Letters", "takeLetter", "(I)I"⟩, 10) := ⟨⟨by decide +kernel, by decide +kernel⟩, List.mem_of_getElem? (i := 291) (by decide +kernel), List.mem_of_getElem? (i := 727) (by decide +kernel), List.mem_of_getElem? (i := 728) (by decide +kernel)⟩
theorem lw_p31 : lw_okq (⟨"ProofLedger$Letters", "addGap", "()I"⟩, 10) := ⟨⟨by decide +kernel, by decide +kernel⟩, List.mem_of_getElem? (i := 291) (by decide +kernel), List.mem_of_getElem? (i := 731) (by decide +kernel), List.mem_of_getElem? (i := 732) (by decide +kernel)⟩
def lw_privs_2 : List (MethodName × Nat) := [(⟨"ProofLedger$Reader", "isActive", "(I)Z"⟩, 9), (⟨"ProofLedger$Reader", "takeApart", "(I)I"⟩, 9), (⟨"ProofLedger$Reader", "meaningOf", "(I)I"⟩, 9), (⟨"ProofLedger$Reader", "takeType", "(I)I"⟩, 9), (⟨"ProofLedger$Reader", "takeFloating", "(I)I"⟩, 9), (⟨"ProofLedger$Reader", "isTyped", "(I)Z"⟩, 9), (⟨"ProofLedger$Reader", "takeSymbol", "(I)I"⟩, 9), (⟨"ProofLedger$Reader", "beginSteps", "(J)I"⟩, 9), (⟨"ProofLedger$Reader", "takeStep", "(J)I"⟩, 9), (⟨"ProofLedger$Reader", "findUsable", "(J)I"⟩, 9), (⟨"ProofLedger$Proof", "bind", "(II)Z"⟩, 8), (⟨"ProofLedger$Proof", "replaceIn", "(I)Z"⟩, 8), (⟨"ProofLedger$Proof", "keepsApart", "(I)Z"⟩, 8), (⟨"ProofLedger$Reader", "takeListed", "(J)I"⟩, 9), (⟨"ProofLedger$Letters", "takeLetter", "(I)I"⟩, 10), (⟨"ProofLedger$Letters", "addGap", "()I"⟩, 10)]
theorem lw_r2 : ∀ q ∈ lw_privs_2, lw_okq q := List.forall_mem_cons.mpr ⟨lw_p16, List.forall_mem_cons.mpr ⟨lw_p17, List.forall_mem_cons.mpr ⟨lw_p18, List.forall_mem_cons.mpr ⟨lw_p19, List.forall_mem_cons.mpr ⟨lw_p20, List.forall_mem_cons.mpr ⟨lw_p21, List.forall_mem_cons.mpr ⟨lw_p22, List.forall_mem_cons.mpr ⟨lw_p23, List.forall_mem_cons.mpr ⟨lw_p24, List.forall_mem_cons.mpr ⟨lw_p25, List.forall_mem_cons.mpr ⟨lw_p26, List.forall_mem_cons.mpr ⟨lw_p27, List.forall_mem_cons.mpr ⟨lw_p28, List.forall_mem_cons.mpr ⟨lw_p29, List.forall_mem_cons.mpr ⟨lw_p30, List.forall_mem_cons.mpr ⟨lw_p31, fun _ h => absurd h List.not_mem_nil⟩⟩⟩⟩⟩⟩⟩⟩⟩⟩⟩⟩⟩⟩⟩⟩
theorem lw_p32 : lw_okq (⟨"ProofLedger$Letters", "addTag", "()I"⟩, 10) := ⟨⟨by decide +kernel, by decide +kernel⟩, List.mem_of_getElem? (i := 291) (by decide +kernel), List.mem_of_getElem? (i := 736) (by decide +kernel), List.mem_of_getElem? (i := 737) (by decide +kernel)⟩
theorem lw_p33 : lw_okq (⟨"ProofLedger$Letters", "stepWithNumber", "()I"⟩, 10) := ⟨⟨by decide +kernel, by decide +kernel⟩, List.mem_of_getElem? (i := 291) (by decide +kernel), List.mem_of_getElem? (i := 741) (by decide +kernel), List.mem_of_getElem? (i := 742) (by decide +kernel)⟩
theorem lw_p34 : lw_okq (⟨"ProofLedgerModel", "findWords", "()V"⟩, 57) := ⟨⟨by decide +kernel, by decide +kernel⟩, List.mem_of_getElem? (i := 821) (by decide +kernel), List.mem_of_getElem? (i := 1012) (by decide +kernel), List.mem_of_getElem? (i := 1013) (by decide +kernel)⟩
theorem lw_p35 : lw_okq (⟨"ProofLedgerModel", "come", "()Z"⟩, 57) := ⟨⟨by decide +kernel, by decide +kernel⟩, List.mem_of_getElem? (i := 821) (by decide +kernel), List.mem_of_getElem? (i := 1016) (by decide +kernel), List.mem_of_getElem? (i := 1017) (by decide +kernel)⟩
theorem lw_p36 : lw_okq (⟨"ProofLedgerModel", "isTwo", "(III)Z"⟩, 57) := ⟨⟨by decide +kernel, by decide +kernel⟩, List.mem_of_getElem? (i := 821) (by decide +kernel), List.mem_of_getElem? (i := 1020) (by decide +kernel), List.mem_of_getElem? (i := 1021) (by decide +kernel)⟩
theorem lw_p37 : lw_okq (⟨"ProofLedgerModel", "letter", "(II)I"⟩, 57) := ⟨⟨by decide +kernel, by decide +kernel⟩, List.mem_of_getElem? (i := 821) (by decide +kernel), List.mem_of_getElem? (i := 1024) (by decide +kernel), List.mem_of_getElem? (i := 1025) (by decide +kernel)⟩
theorem lw_p38 : lw_okq (⟨"ProofLedgerModel", "fail", "(II)V"⟩, 57) := ⟨⟨by decide +kernel, by decide +kernel⟩, List.mem_of_getElem? (i := 821) (by decide +kernel), List.mem_of_getElem? (i := 1028) (by decide +kernel), List.mem_of_getElem? (i := 1029) (by decide +kernel)⟩
theorem lw_p39 : lw_okq (⟨"ProofLedgerModel", "readStatement", "()V"⟩, 57) := ⟨⟨by decide +kernel, by decide +kernel⟩, List.mem_of_getElem? (i := 821) (by decide +kernel), List.mem_of_getElem? (i := 1032) (by decide +kernel), List.mem_of_getElem? (i := 1033) (by decide +kernel)⟩
theorem lw_p40 : lw_okq (⟨"ProofLedgerModel", "whatIs", "(I)I"⟩, 57) := ⟨⟨by decide +kernel, by decide +kernel⟩, List.mem_of_getElem? (i := 821) (by decide +kernel), List.mem_of_getElem? (i := 1036) (by decide +kernel), List.mem_of_getElem? (i := 1037) (by decide +kernel)⟩
theorem lw_p41 : lw_okq (⟨"ProofLedgerModel", "readLabelled", "()V"⟩, 57) := ⟨⟨by decide +kernel, by decide +kernel⟩, List.mem_of_getElem? (i := 821) (by decide +kernel), List.mem_of_getElem? (i := 1040) (by decide +kernel), List.mem_of_getElem? (i := 1041) (by decide +kernel)⟩
theorem lw_p42 : lw_okq (⟨"ProofLedgerModel", "codeOf", "(I)J"⟩, 57) := ⟨⟨by decide +kernel, by decide +kernel⟩, List.mem_of_getElem? (i := 821) (by decide +kernel), List.mem_of_getElem? (i := 1044) (by decide +kernel), List.mem_of_getElem? (i := 1045) (by decide +kernel)⟩
theorem lw_p43 : lw_okq (⟨"ProofLedgerModel", "find", "(J)I"⟩, 57) := ⟨⟨by decide +kernel, by decide +kernel⟩, List.mem_of_getElem? (i := 821) (by decide +kernel), List.mem_of_getElem? (i := 1049) (by decide +kernel), List.mem_of_getElem? (i := 1050) (by decide +kernel)⟩
theorem lw_p44 : lw_okq (⟨"ProofLedgerModel", "need", "()I"⟩, 57) := ⟨⟨by decide +kernel, by decide +kernel⟩, List.mem_of_getElem? (i := 821) (by decide +kernel), List.mem_of_getElem? (i := 1053) (by decide +kernel), List.mem_of_getElem? (i := 1054) (by decide +kernel)⟩
theorem lw_p45 : lw_okq (⟨"ProofLedgerModel", "readFloating", "(J)V"⟩, 57) := ⟨⟨by decide +kernel, by decide +kernel⟩, List.mem_of_getElem? (i := 821) (by decide +kernel), List.mem_of_getElem? (i := 1057) (by decide +kernel), List.mem_of_getElem? (i := 1058) (by decide +kernel)⟩
theorem lw_p46 : lw_okq (⟨"ProofLedgerModel", "readType", "()Z"⟩, 57) := ⟨⟨by decide +kernel, by decide +kernel⟩, List.mem_of_getElem? (i := 821) (by decide +kernel), List.mem_of_getElem? (i := 1061) (by decide +kernel), List.mem_of_getElem? (i := 1062) (by decide +kernel)⟩
theorem lw_p47 : lw_okq (⟨"ProofLedgerModel", "needName", "()Z"⟩, 57) := ⟨⟨by decide +kernel, by decide +kernel⟩, List.mem_of_getElem? (i := 821) (by decide +kernel), List.mem_of_getElem? (i := 1065) (by decide +kernel), List.mem_of_getElem? (i := 1066) (by decide +kernel)⟩
def lw_privs_3 : List (MethodName × Nat) := [(⟨"ProofLedger$Letters", "addTag", "()I"⟩, 10), (⟨"ProofLedger$Letters", "stepWithNumber", "()I"⟩, 10), (⟨"ProofLedgerModel", "findWords", "()V"⟩, 57), (⟨"ProofLedgerModel", "come", "()Z"⟩, 57), (⟨"ProofLedgerModel", "isTwo", "(III)Z"⟩, 57), (⟨"ProofLedgerModel", "letter", "(II)I"⟩, 57), (⟨"ProofLedgerModel", "fail", "(II)V"⟩, 57), (⟨"ProofLedgerModel", "readStatement", "()V"⟩, 57), (⟨"ProofLedgerModel", "whatIs", "(I)I"⟩, 57), (⟨"ProofLedgerModel", "readLabelled", "()V"⟩, 57), (⟨"ProofLedgerModel", "codeOf", "(I)J"⟩, 57), (⟨"ProofLedgerModel", "find", "(J)I"⟩, 57), (⟨"ProofLedgerModel", "need", "()I"⟩, 57), (⟨"ProofLedgerModel", "readFloating", "(J)V"⟩, 57), (⟨"ProofLedgerModel", "readType", "()Z"⟩, 57), (⟨"ProofLedgerModel", "needName", "()Z"⟩, 57)]
theorem lw_r3 : ∀ q ∈ lw_privs_3, lw_okq q := List.forall_mem_cons.mpr ⟨lw_p32, List.forall_mem_cons.mpr ⟨lw_p33, List.forall_mem_cons.mpr ⟨lw_p34, List.forall_mem_cons.mpr ⟨lw_p35, List.forall_mem_cons.mpr ⟨lw_p36, List.forall_mem_cons.mpr ⟨lw_p37, List.forall_mem_cons.mpr ⟨lw_p38, List.forall_mem_cons.mpr ⟨lw_p39, List.forall_mem_cons.mpr ⟨lw_p40, List.forall_mem_cons.mpr ⟨lw_p41, List.forall_mem_cons.mpr ⟨lw_p42, List.forall_mem_cons.mpr ⟨lw_p43, List.forall_mem_cons.mpr ⟨lw_p44, List.forall_mem_cons.mpr ⟨lw_p45, List.forall_mem_cons.mpr ⟨lw_p46, List.forall_mem_cons.mpr ⟨lw_p47, fun _ h => absurd h List.not_mem_nil⟩⟩⟩⟩⟩⟩⟩⟩⟩⟩⟩⟩⟩⟩⟩⟩
theorem lw_p48 : lw_okq (⟨"ProofLedgerModel", "findWord", "()I"⟩, 57) := ⟨⟨by decide +kernel, by decide +kernel⟩, List.mem_of_getElem? (i := 821) (by decide +kernel), List.mem_of_getElem? (i := 1069) (by decide +kernel), List.mem_of_getElem? (i := 1070) (by decide +kernel)⟩
theorem lw_p49 : lw_okq (⟨"ProofLedgerModel", "isConstant", "(I)Z"⟩, 57) := ⟨⟨by decide +kernel, by decide +kernel⟩, List.mem_of_getElem? (i := 821) (by decide +kernel), List.mem_of_getElem? (i := 1073) (by decide +kernel), List.mem_of_getElem? (i := 1074) (by decide +kernel)⟩
theorem lw_p50 : lw_okq (⟨"ProofLedgerModel", "isLive", "(I)Z"⟩, 57) := ⟨⟨by decide +kernel, by decide +kernel⟩, List.mem_of_getElem? (i := 821) (by decide +kernel), List.mem_of_getElem? (i := 1077) (by decide +kernel), List.mem_of_getElem? (i := 1078) (by decide +kernel)⟩
theorem lw_p51 : lw_okq (⟨"ProofLedgerModel", "typeOf", "(I)I"⟩, 57) := ⟨⟨by decide +kernel, by decide +kernel⟩, List.mem_of_getElem? (i := 821) (by decide +kernel), List.mem_of_getElem? (i := 1081) (by decide +kernel), List.mem_of_getElem? (i := 1082) (by decide +kernel)⟩
theorem lw_p52 : lw_okq (⟨"ProofLedgerModel", "declare", "(IJ)I"⟩, 57) := ⟨⟨by decide +kernel, by decide +kernel⟩, List.mem_of_getElem? (i := 821) (by decide +kernel), List.mem_of_getElem? (i := 1085) (by decide +kernel), List.mem_of_getElem? (i := 1086) (by decide +kernel)⟩
theorem lw_p53 : lw_okq (⟨"ProofLedgerModel", "addName", "(J)I"⟩, 57) := ⟨⟨by decide +kernel, by decide +kernel⟩, List.mem_of_getElem? (i := 821) (by decide +kernel), List.mem_of_getElem? (i := 1089) (by decide +kernel), List.mem_of_getElem? (i := 1090) (by decide +kernel)⟩
theorem lw_p54 : lw_okq (⟨"ProofLedgerModel", "readExpression", "(I)Z"⟩, 57) := ⟨⟨by decide +kernel, by decide +kernel⟩, List.mem_of_getElem? (i := 821) (by decide +kernel), List.mem_of_getElem? (i := 1093) (by decide +kernel), List.mem_of_getElem? (i := 1094) (by decide +kernel)⟩
theorem lw_p55 : lw_okq (⟨"ProofLedgerModel", "findNeeds", "()V"⟩, 57) := ⟨⟨by decide +kernel, by decide +kernel⟩, List.mem_of_getElem? (i := 821) (by decide +kernel), List.mem_of_getElem? (i := 1097) (by decide +kernel), List.mem_of_getElem? (i := 1098) (by decide +kernel)⟩
theorem lw_p56 : lw_okq (⟨"ProofLedgerModel", "mark", "(IIZ)V"⟩, 57) := ⟨⟨by decide +kernel, by decide +kernel⟩, List.mem_of_getElem? (i := 821) (by decide +kernel), List.mem_of_getElem? (i := 1101) (by decide +kernel), List.mem_of_getElem? (i := 1102) (by decide +kernel)⟩
theorem lw_p57 : lw_okq (⟨"ProofLedgerModel", "isNeeded", "(III)Z"⟩, 57) := ⟨⟨by decide +kernel, by decide +kernel⟩, List.mem_of_getElem? (i := 821) (by decide +kernel), List.mem_of_getElem? (i := 1105) (by decide +kernel), List.mem_of_getElem? (i := 1106) (by decide +kernel)⟩
theorem lw_p58 : lw_okq (⟨"ProofLedgerModel", "begin", "(I)V"⟩, 57) := ⟨⟨by decide +kernel, by decide +kernel⟩, List.mem_of_getElem? (i := 821) (by decide +kernel), List.mem_of_getElem? (i := 1109) (by decide +kernel), List.mem_of_getElem? (i := 1110) (by decide +kernel)⟩
theorem lw_p59 : lw_okq (⟨"ProofLedgerModel", "readProof", "(I)V"⟩, 57) := ⟨⟨by decide +kernel, by decide +kernel⟩, List.mem_of_getElem? (i := 821) (by decide +kernel), List.mem_of_getElem? (i := 1113) (by decide +kernel), List.mem_of_getElem? (i := 1114) (by decide +kernel)⟩
theorem lw_p60 : lw_okq (⟨"ProofLedgerModel", "isWord", "(I)Z"⟩, 57) := ⟨⟨by decide +kernel, by decide +kernel⟩, List.mem_of_getElem? (i := 821) (by decide +kernel), List.mem_of_getElem? (i := 1117) (by decide +kernel), List.mem_of_getElem? (i := 1118) (by decide +kernel)⟩
theorem lw_p61 : lw_okq (⟨"ProofLedgerModel", "readListed", "(I)V"⟩, 57) := ⟨⟨by decide +kernel, by decide +kernel⟩, List.mem_of_getElem? (i := 821) (by decide +kernel), List.mem_of_getElem? (i := 1121) (by decide +kernel), List.mem_of_getElem? (i := 1122) (by decide +kernel)⟩
theorem lw_p62 : lw_okq (⟨"ProofLedgerModel", "lookUp", "()I"⟩, 57) := ⟨⟨by decide +kernel, by decide +kernel⟩, List.mem_of_getElem? (i := 821) (by decide +kernel), List.mem_of_getElem? (i := 1125) (by decide +kernel), List.mem_of_getElem? (i := 1126) (by decide +kernel)⟩
theorem lw_p63 : lw_okq (⟨"ProofLedgerModel", "isMandatory", "(II)Z"⟩, 57) := ⟨⟨by decide +kernel, by decide +kernel⟩, List.mem_of_getElem? (i := 821) (by decide +kernel), List.mem_of_getElem? (i := 1129) (by decide +kernel), List.mem_of_getElem? (i := 1130) (by decide +kernel)⟩
def lw_privs_4 : List (MethodName × Nat) := [(⟨"ProofLedgerModel", "findWord", "()I"⟩, 57), (⟨"ProofLedgerModel", "isConstant", "(I)Z"⟩, 57), (⟨"ProofLedgerModel", "isLive", "(I)Z"⟩, 57), (⟨"ProofLedgerModel", "typeOf", "(I)I"⟩, 57), (⟨"ProofLedgerModel", "declare", "(IJ)I"⟩, 57), (⟨"ProofLedgerModel", "addName", "(J)I"⟩, 57), (⟨"ProofLedgerModel", "readExpression", "(I)Z"⟩, 57), (⟨"ProofLedgerModel", "findNeeds", "()V"⟩, 57), (⟨"ProofLedgerModel", "mark", "(IIZ)V"⟩, 57), (⟨"ProofLedgerModel", "isNeeded", "(III)Z"⟩, 57), (⟨"ProofLedgerModel", "begin", "(I)V"⟩, 57), (⟨"ProofLedgerModel", "readProof", "(I)V"⟩, 57), (⟨"ProofLedgerModel", "isWord", "(I)Z"⟩, 57), (⟨"ProofLedgerModel", "readListed", "(I)V"⟩, 57), (⟨"ProofLedgerModel", "lookUp", "()I"⟩, 57), (⟨"ProofLedgerModel", "isMandatory", "(II)Z"⟩, 57)]
theorem lw_r4 : ∀ q ∈ lw_privs_4, lw_okq q := List.forall_mem_cons.mpr ⟨lw_p48, List.forall_mem_cons.mpr ⟨lw_p49, List.forall_mem_cons.mpr ⟨lw_p50, List.forall_mem_cons.mpr ⟨lw_p51, List.forall_mem_cons.mpr ⟨lw_p52, List.forall_mem_cons.mpr ⟨lw_p53, List.forall_mem_cons.mpr ⟨lw_p54, List.forall_mem_cons.mpr ⟨lw_p55, List.forall_mem_cons.mpr ⟨lw_p56, List.forall_mem_cons.mpr ⟨lw_p57, List.forall_mem_cons.mpr ⟨lw_p58, List.forall_mem_cons.mpr ⟨lw_p59, List.forall_mem_cons.mpr ⟨lw_p60, List.forall_mem_cons.mpr ⟨lw_p61, List.forall_mem_cons.mpr ⟨lw_p62, List.forall_mem_cons.mpr ⟨lw_p63, fun _ h => absurd h List.not_mem_nil⟩⟩⟩⟩⟩⟩⟩⟩⟩⟩⟩⟩⟩⟩⟩⟩
theorem lw_p64 : lw_okq (⟨"ProofLedgerModel", "readLetters", "(I)V"⟩, 57) := ⟨⟨by decide +kernel, by decide +kernel⟩, List.mem_of_getElem? (i := 821) (by decide +kernel), List.mem_of_getElem? (i := 1133) (by decide +kernel), List.mem_of_getElem? (i := 1134) (by decide +kernel)⟩
theorem lw_p65 : lw_okq (⟨"ProofLedgerModel", "isLetters", "()Z"⟩, 57) := ⟨⟨by decide +kernel, by decide +kernel⟩, List.mem_of_getElem? (i := 821) (by decide +kernel), List.mem_of_getElem? (i := 1137) (by decide +kernel), List.mem_of_getElem? (i := 1138) (by decide +kernel)⟩
theorem lw_p66 : lw_okq (⟨"ProofLedgerModel", "readLetter", "(II)V"⟩, 57) := ⟨⟨by decide +kernel, by decide +kernel⟩, List.mem_of_getElem? (i := 821) (by decide +kernel), List.mem_of_getElem? (i := 1141) (by decide +kernel), List.mem_of_getElem? (i := 1142) (by decide +kernel)⟩
theorem lw_p67 : lw_okq (⟨"ProofLedgerModel", "tag", "()V"⟩, 57) := ⟨⟨by decide +kernel, by decide +kernel⟩, List.mem_of_getElem? (i := 821) (by decide +kernel), List.mem_of_getElem? (i := 1145) (by decide +kernel), List.mem_of_getElem? (i := 1146) (by decide +kernel)⟩
theorem lw_p68 : lw_okq (⟨"ProofLedgerModel", "stepWith", "(II)V"⟩, 57) := ⟨⟨by decide +kernel, by decide +kernel⟩, List.mem_of_getElem? (i := 821) (by decide +kernel), List.mem_of_getElem? (i := 1149) (by decide +kernel), List.mem_of_getElem? (i := 1150) (by decide +kernel)⟩
theorem lw_p69 : lw_okq (⟨"ProofLedgerModel", "step", "(II)V"⟩, 57) := ⟨⟨by decide +kernel, by decide +kernel⟩, List.mem_of_getElem? (i := 821) (by decide +kernel), List.mem_of_getElem? (i := 1153) (by decide +kernel), List.mem_of_getElem? (i := 1154) (by decide +kernel)⟩
theorem lw_p70 : lw_okq (⟨"ProofLedgerModel", "pushHypothesis", "(I)V"⟩, 57) := ⟨⟨by decide +kernel, by decide +kernel⟩, List.mem_of_getElem? (i := 821) (by decide +kernel), List.mem_of_getElem? (i := 1157) (by decide +kernel), List.mem_of_getElem? (i := 1158) (by decide +kernel)⟩
theorem lw_p71 : lw_okq (⟨"ProofLedgerModel", "hasRoom", "()Z"⟩, 57) := ⟨⟨by decide +kernel, by decide +kernel⟩, List.mem_of_getElem? (i := 821) (by decide +kernel), List.mem_of_getElem? (i := 1161) (by decide +kernel), List.mem_of_getElem? (i := 1162) (by decide +kernel)⟩
theorem lw_p72 : lw_okq (⟨"ProofLedgerModel", "apply", "(I)I"⟩, 57) := ⟨⟨by decide +kernel, by decide +kernel⟩, List.mem_of_getElem? (i := 821) (by decide +kernel), List.mem_of_getElem? (i := 1165) (by decide +kernel), List.mem_of_getElem? (i := 1166) (by decide +kernel)⟩
theorem lw_p73 : lw_okq (⟨"ProofLedgerModel", "replace", "(I)I"⟩, 57) := ⟨⟨by decide +kernel, by decide +kernel⟩, List.mem_of_getElem? (i := 821) (by decide +kernel), List.mem_of_getElem? (i := 1169) (by decide +kernel), List.mem_of_getElem? (i := 1170) (by decide +kernel)⟩
theorem lw_p74 : lw_okq (⟨"ProofLedgerModel", "isMade", "(II)Z"⟩, 57) := ⟨⟨by decide +kernel, by decide +kernel⟩, List.mem_of_getElem? (i := 821) (by decide +kernel), List.mem_of_getElem? (i := 1173) (by decide +kernel), List.mem_of_getElem? (i := 1174) (by decide +kernel)⟩
theorem lw_p75 : lw_okq (⟨"ProofLedgerModel", "allApart", "(II)Z"⟩, 57) := ⟨⟨by decide +kernel, by decide +kernel⟩, List.mem_of_getElem? (i := 821) (by decide +kernel), List.mem_of_getElem? (i := 1177) (by decide +kernel), List.mem_of_getElem? (i := 1178) (by decide +kernel)⟩
theorem lw_p76 : lw_okq (⟨"ProofLedgerModel", "areApart", "(II)Z"⟩, 57) := ⟨⟨by decide +kernel, by decide +kernel⟩, List.mem_of_getElem? (i := 821) (by decide +kernel), List.mem_of_getElem? (i := 1181) (by decide +kernel), List.mem_of_getElem? (i := 1182) (by decide +kernel)⟩
theorem lw_p77 : lw_okq (⟨"ProofLedgerModel", "tally", "(I)V"⟩, 57) := ⟨⟨by decide +kernel, by decide +kernel⟩, List.mem_of_getElem? (i := 821) (by decide +kernel), List.mem_of_getElem? (i := 1185) (by decide +kernel), List.mem_of_getElem? (i := 1186) (by decide +kernel)⟩
theorem lw_p78 : lw_okq (⟨"ProofLedgerModel", "pushTagged", "(I)V"⟩, 57) := ⟨⟨by decide +kernel, by decide +kernel⟩, List.mem_of_getElem? (i := 821) (by decide +kernel), List.mem_of_getElem? (i := 1189) (by decide +kernel), List.mem_of_getElem? (i := 1190) (by decide +kernel)⟩
theorem lw_p79 : lw_okq (⟨"ProofLedgerModel", "readSteps", "(I)V"⟩, 57) := ⟨⟨by decide +kernel, by decide +kernel⟩, List.mem_of_getElem? (i := 821) (by decide +kernel), List.mem_of_getElem? (i := 1193) (by decide +kernel), List.mem_of_getElem? (i := 1194) (by decide +kernel)⟩
def lw_privs_5 : List (MethodName × Nat) := [(⟨"ProofLedgerModel", "readLetters", "(I)V"⟩, 57), (⟨"ProofLedgerModel", "isLetters", "()Z"⟩, 57), (⟨"ProofLedgerModel", "readLetter", "(II)V"⟩, 57), (⟨"ProofLedgerModel", "tag", "()V"⟩, 57), (⟨"ProofLedgerModel", "stepWith", "(II)V"⟩, 57), (⟨"ProofLedgerModel", "step", "(II)V"⟩, 57), (⟨"ProofLedgerModel", "pushHypothesis", "(I)V"⟩, 57), (⟨"ProofLedgerModel", "hasRoom", "()Z"⟩, 57), (⟨"ProofLedgerModel", "apply", "(I)I"⟩, 57), (⟨"ProofLedgerModel", "replace", "(I)I"⟩, 57), (⟨"ProofLedgerModel", "isMade", "(II)Z"⟩, 57), (⟨"ProofLedgerModel", "allApart", "(II)Z"⟩, 57), (⟨"ProofLedgerModel", "areApart", "(II)Z"⟩, 57), (⟨"ProofLedgerModel", "tally", "(I)V"⟩, 57), (⟨"ProofLedgerModel", "pushTagged", "(I)V"⟩, 57), (⟨"ProofLedgerModel", "readSteps", "(I)V"⟩, 57)]
theorem lw_r5 : ∀ q ∈ lw_privs_5, lw_okq q := List.forall_mem_cons.mpr ⟨lw_p64, List.forall_mem_cons.mpr ⟨lw_p65, List.forall_mem_cons.mpr ⟨lw_p66, List.forall_mem_cons.mpr ⟨lw_p67, List.forall_mem_cons.mpr ⟨lw_p68, List.forall_mem_cons.mpr ⟨lw_p69, List.forall_mem_cons.mpr ⟨lw_p70, List.forall_mem_cons.mpr ⟨lw_p71, List.forall_mem_cons.mpr ⟨lw_p72, List.forall_mem_cons.mpr ⟨lw_p73, List.forall_mem_cons.mpr ⟨lw_p74, List.forall_mem_cons.mpr ⟨lw_p75, List.forall_mem_cons.mpr ⟨lw_p76, List.forall_mem_cons.mpr ⟨lw_p77, List.forall_mem_cons.mpr ⟨lw_p78, List.forall_mem_cons.mpr ⟨lw_p79, fun _ h => absurd h List.not_mem_nil⟩⟩⟩⟩⟩⟩⟩⟩⟩⟩⟩⟩⟩⟩⟩⟩
theorem lw_p80 : lw_okq (⟨"ProofLedgerModel", "finish", "()V"⟩, 57) := ⟨⟨by decide +kernel, by decide +kernel⟩, List.mem_of_getElem? (i := 821) (by decide +kernel), List.mem_of_getElem? (i := 1197) (by decide +kernel), List.mem_of_getElem? (i := 1198) (by decide +kernel)⟩
theorem lw_p81 : lw_okq (⟨"ProofLedgerModel", "settle", "(I)V"⟩, 57) := ⟨⟨by decide +kernel, by decide +kernel⟩, List.mem_of_getElem? (i := 821) (by decide +kernel), List.mem_of_getElem? (i := 1201) (by decide +kernel), List.mem_of_getElem? (i := 1202) (by decide +kernel)⟩
theorem lw_p82 : lw_okq (⟨"ProofLedgerModel", "readConstants", "()V"⟩, 57) := ⟨⟨by decide +kernel, by decide +kernel⟩, List.mem_of_getElem? (i := 821) (by decide +kernel), List.mem_of_getElem? (i := 1205) (by decide +kernel), List.mem_of_getElem? (i := 1206) (by decide +kernel)⟩
theorem lw_p83 : lw_okq (⟨"ProofLedgerModel", "readVariables", "()V"⟩, 57) := ⟨⟨by decide +kernel, by decide +kernel⟩, List.mem_of_getElem? (i := 821) (by decide +kernel), List.mem_of_getElem? (i := 1209) (by decide +kernel), List.mem_of_getElem? (i := 1210) (by decide +kernel)⟩
theorem lw_p84 : lw_okq (⟨"ProofLedgerModel", "readApart", "()V"⟩, 57) := ⟨⟨by decide +kernel, by decide +kernel⟩, List.mem_of_getElem? (i := 821) (by decide +kernel), List.mem_of_getElem? (i := 1213) (by decide +kernel), List.mem_of_getElem? (i := 1214) (by decide +kernel)⟩
theorem lw_p85 : lw_okq (⟨"ProofLedgerModel", "stoodBefore", "(II)Z"⟩, 57) := ⟨⟨by decide +kernel, by decide +kernel⟩, List.mem_of_getElem? (i := 821) (by decide +kernel), List.mem_of_getElem? (i := 1217) (by decide +kernel), List.mem_of_getElem? (i := 1218) (by decide +kernel)⟩
theorem lw_p86 : lw_okq (⟨"ProofLedgerModel", "closeScope", "()V"⟩, 57) := ⟨⟨by decide +kernel, by decide +kernel⟩, List.mem_of_getElem? (i := 821) (by decide +kernel), List.mem_of_getElem? (i := 1221) (by decide +kernel), List.mem_of_getElem? (i := 1222) (by decide +kernel)⟩
theorem lw_p87 : lw_okq (⟨"ProofLedgerModel", "countNames", "(I)I"⟩, 57) := ⟨⟨by decide +kernel, by decide +kernel⟩, List.mem_of_getElem? (i := 821) (by decide +kernel), List.mem_of_getElem? (i := 1233) (by decide +kernel), List.mem_of_getElem? (i := 1234) (by decide +kernel)⟩
theorem lw_p88 : lw_okq (⟨"ProofLedgerModel", "isAssertion", "(I)Z"⟩, 57) := ⟨⟨by decide +kernel, by decide +kernel⟩, List.mem_of_getElem? (i := 821) (by decide +kernel), List.mem_of_getElem? (i := 1241) (by decide +kernel), List.mem_of_getElem? (i := 1242) (by decide +kernel)⟩
def lw_privs_6 : List (MethodName × Nat) := [(⟨"ProofLedgerModel", "finish", "()V"⟩, 57), (⟨"ProofLedgerModel", "settle", "(I)V"⟩, 57), (⟨"ProofLedgerModel", "readConstants", "()V"⟩, 57), (⟨"ProofLedgerModel", "readVariables", "()V"⟩, 57), (⟨"ProofLedgerModel", "readApart", "()V"⟩, 57), (⟨"ProofLedgerModel", "stoodBefore", "(II)Z"⟩, 57), (⟨"ProofLedgerModel", "closeScope", "()V"⟩, 57), (⟨"ProofLedgerModel", "countNames", "(I)I"⟩, 57), (⟨"ProofLedgerModel", "isAssertion", "(I)Z"⟩, 57)]
theorem lw_r6 : ∀ q ∈ lw_privs_6, lw_okq q := List.forall_mem_cons.mpr ⟨lw_p80, List.forall_mem_cons.mpr ⟨lw_p81, List.forall_mem_cons.mpr ⟨lw_p82, List.forall_mem_cons.mpr ⟨lw_p83, List.forall_mem_cons.mpr ⟨lw_p84, List.forall_mem_cons.mpr ⟨lw_p85, List.forall_mem_cons.mpr ⟨lw_p86, List.forall_mem_cons.mpr ⟨lw_p87, List.forall_mem_cons.mpr ⟨lw_p88, fun _ h => absurd h List.not_mem_nil⟩⟩⟩⟩⟩⟩⟩⟩⟩
def lw_privs : List (MethodName × Nat) := lw_privs_1 ++ (lw_privs_2 ++ (lw_privs_3 ++ (lw_privs_4 ++ (lw_privs_5 ++ (lw_privs_6)))))
def lw_tbl : List Cond := k2_sels lw_privs ++ tables_1
theorem lw_privs_ok : ∀ q ∈ lw_privs, lw_okq q := by
  show ∀ q ∈ lw_privs_1 ++ (lw_privs_2 ++ (lw_privs_3 ++ (lw_privs_4 ++ (lw_privs_5 ++ (lw_privs_6))))), lw_okq q
  exact List.forall_mem_append.mpr ⟨lw_r1, List.forall_mem_append.mpr ⟨lw_r2, List.forall_mem_append.mpr ⟨lw_r3, List.forall_mem_append.mpr ⟨lw_r4, List.forall_mem_append.mpr ⟨lw_r5, lw_r6⟩⟩⟩⟩⟩
/-! ===== the classes and the tables' words that we use ===== -/
def ct_T0 : u_T := fun k => match k with
  | 0 => ("ProofLedger", "text", "LProofLedger$Text;", true)
  | 1 => ("ProofLedger", "names", "LProofLedger$Names;", true)
  | 2 => ("ProofLedger", "statements", "LProofLedger$Statements;", true)
  | 3 => ("ProofLedger", "assertions", "LProofLedger$Assertions;", true)
  | 4 => ("ProofLedger", "reader", "LProofLedger$Reader;", true)
  | _ => ("ProofLedger", "placeOfFault", "I", false)
def ct_ty0 : Nat → FieldType := fun k => match k with
  | 0 => (.object "ProofLedger$Text")
  | 1 => (.object "ProofLedger$Names")
  | 2 => (.object "ProofLedger$Statements")
  | 3 => (.object "ProofLedger$Assertions")
  | 4 => (.object "ProofLedger$Reader")
  | _ => .int
theorem ct_nm0 : ∀ a, a < 6 → ∀ b, b < 6 → a ≠ b → (ct_T0 a).2.1 ≠ (ct_T0 b).2.1 := by decide +kernel
theorem ct_ok0 : ∀ k, k < 6 → parseFieldDescriptor (ct_T0 k).2.2.1 = some (ct_ty0 k) := by decide +kernel
def ct_T1 : u_T := fun k => match k with
  | 0 => ("ProofLedger$Text", "characters", "[B", true)
  | 1 => ("ProofLedger$Text", "length", "I", false)
  | 2 => ("ProofLedger$Text", "words", "I", false)
  | 3 => ("ProofLedger$Text", "start", "I", false)
  | 4 => ("ProofLedger$Text", "end", "I", false)
  | 5 => ("ProofLedger$Text", "code", "J", false)
  | 6 => ("ProofLedger$Text", "marked", "Z", false)
  | _ => ("ProofLedger$Text", "insideComment", "Z", false)
def ct_ty1 : Nat → FieldType := fun k => match k with
  | 0 => (.array .byte)
  | 1 => .int
  | 2 => .int
  | 3 => .int
  | 4 => .int
  | 5 => .long
  | 6 => .boolean
  | _ => .boolean
theorem ct_nm1 : ∀ a, a < 8 → ∀ b, b < 8 → a ≠ b → (ct_T1 a).2.1 ≠ (ct_T1 b).2.1 := by decide +kernel
theorem ct_ok1 : ∀ k, k < 8 → parseFieldDescriptor (ct_T1 k).2.2.1 = some (ct_ty1 k) := by decide +kernel
def ct_T2 : u_T := fun k => match k with
  | 0 => ("ProofLedger$Names", "codes", "[J", true)
  | 1 => ("ProofLedger$Names", "roles", "[I", true)
  | 2 => ("ProofLedger$Names", "statements", "[I", true)
  | 3 => ("ProofLedger$Names", "size", "I", false)
  | 4 => ("ProofLedger$Names", "constants", "I", false)
  | _ => ("ProofLedger$Names", "variables", "J", false)
def ct_ty2 : Nat → FieldType := fun k => match k with
  | 0 => (.array .long)
  | 1 => (.array .int)
  | 2 => (.array .int)
  | 3 => .int
  | 4 => .int
  | _ => .long
theorem ct_nm2 : ∀ a, a < 6 → ∀ b, b < 6 → a ≠ b → (ct_T2 a).2.1 ≠ (ct_T2 b).2.1 := by decide +kernel
theorem ct_ok2 : ∀ k, k < 6 → parseFieldDescriptor (ct_T2 k).2.2.1 = some (ct_ty2 k) := by decide +kernel
def ct_T3 : u_T := fun k => match k with
  | 0 => ("ProofLedger$Statements", "labels", "[J", true)
  | 1 => ("ProofLedger$Statements", "kinds", "[I", true)
  | 2 => ("ProofLedger$Statements", "expressions", "LProofLedger$Expressions;", true)
  | 3 => ("ProofLedger$Statements", "mandatory", "[J", true)
  | _ => ("ProofLedger$Statements", "assertions", "[I", true)
def ct_ty3 : Nat → FieldType := fun k => match k with
  | 0 => (.array .long)
  | 1 => (.array .int)
  | 2 => (.object "ProofLedger$Expressions")
  | 3 => (.array .long)
  | _ => (.array .int)
theorem ct_nm3 : ∀ a, a < 5 → ∀ b, b < 5 → a ≠ b → (ct_T3 a).2.1 ≠ (ct_T3 b).2.1 := by decide +kernel
theorem ct_ok3 : ∀ k, k < 5 → parseFieldDescriptor (ct_T3 k).2.2.1 = some (ct_ty3 k) := by decide +kernel
def ct_T4 : u_T := fun k => match k with
  | 0 => ("ProofLedger$Expressions", "most", "I", true)
  | 1 => ("ProofLedger$Expressions", "symbols", "[I", true)
  | 2 => ("ProofLedger$Expressions", "lengths", "[I", true)
  | 3 => ("ProofLedger$Expressions", "variables", "[J", true)
  | _ => ("ProofLedger$Expressions", "size", "I", false)
def ct_ty4 : Nat → FieldType := fun k => match k with
  | 0 => .int
  | 1 => (.array .int)
  | 2 => (.array .int)
  | 3 => (.array .long)
  | _ => .int
theorem ct_nm4 : ∀ a, a < 5 → ∀ b, b < 5 → a ≠ b → (ct_T4 a).2.1 ≠ (ct_T4 b).2.1 := by decide +kernel
theorem ct_ok4 : ∀ k, k < 5 → parseFieldDescriptor (ct_T4 k).2.2.1 = some (ct_ty4 k) := by decide +kernel
def ct_T5 : u_T := fun k => match k with
  | 0 => ("ProofLedger$Assertions", "statements", "[I", true)
  | 1 => ("ProofLedger$Assertions", "pairCounts", "[I", true)
  | 2 => ("ProofLedger$Assertions", "pairs", "[I", true)
  | 3 => ("ProofLedger$Assertions", "stepCounts", "[I", true)
  | 4 => ("ProofLedger$Assertions", "heights", "[I", true)
  | 5 => ("ProofLedger$Assertions", "useCounts", "[I", true)
  | 6 => ("ProofLedger$Assertions", "incomplete", "[Z", true)
  | 7 => ("ProofLedger$Assertions", "sound", "[Z", true)
  | _ => ("ProofLedger$Assertions", "size", "I", false)
def ct_ty5 : Nat → FieldType := fun k => match k with
  | 0 => (.array .int)
  | 1 => (.array .int)
  | 2 => (.array .int)
  | 3 => (.array .int)
  | 4 => (.array .int)
  | 5 => (.array .int)
  | 6 => (.array .boolean)
  | 7 => (.array .boolean)
  | _ => .int
theorem ct_nm5 : ∀ a, a < 9 → ∀ b, b < 9 → a ≠ b → (ct_T5 a).2.1 ≠ (ct_T5 b).2.1 := by decide +kernel
theorem ct_ok5 : ∀ k, k < 9 → parseFieldDescriptor (ct_T5 k).2.2.1 = some (ct_ty5 k) := by decide +kernel
def ct_T6 : u_T := fun k => match k with
  | 0 => ("ProofLedger$Reader", "names", "LProofLedger$Names;", true)
  | 1 => ("ProofLedger$Reader", "statements", "LProofLedger$Statements;", true)
  | 2 => ("ProofLedger$Reader", "assertions", "LProofLedger$Assertions;", true)
  | 3 => ("ProofLedger$Reader", "context", "LProofLedger$Context;", true)
  | 4 => ("ProofLedger$Reader", "proof", "LProofLedger$Proof;", true)
  | 5 => ("ProofLedger$Reader", "letters", "LProofLedger$Letters;", true)
  | 6 => ("ProofLedger$Reader", "stage", "I", false)
  | 7 => ("ProofLedger$Reader", "taken", "I", false)
  | _ => ("ProofLedger$Reader", "takenVariables", "J", false)
def ct_ty6 : Nat → FieldType := fun k => match k with
  | 0 => (.object "ProofLedger$Names")
  | 1 => (.object "ProofLedger$Statements")
  | 2 => (.object "ProofLedger$Assertions")
  | 3 => (.object "ProofLedger$Context")
  | 4 => (.object "ProofLedger$Proof")
  | 5 => (.object "ProofLedger$Letters")
  | 6 => .int
  | 7 => .int
  | _ => .long
theorem ct_nm6 : ∀ a, a < 9 → ∀ b, b < 9 → a ≠ b → (ct_T6 a).2.1 ≠ (ct_T6 b).2.1 := by decide +kernel
theorem ct_ok6 : ∀ k, k < 9 → parseFieldDescriptor (ct_T6 k).2.2.1 = some (ct_ty6 k) := by decide +kernel
def ct_T7 : u_T := fun k => match k with
  | 0 => ("ProofLedger$Context", "variables", "J", false)
  | 1 => ("ProofLedger$Context", "typed", "J", false)
  | 2 => ("ProofLedger$Context", "hypotheses", "J", false)
  | 3 => ("ProofLedger$Context", "pairs", "[I", true)
  | 4 => ("ProofLedger$Context", "pairCount", "I", false)
  | 5 => ("ProofLedger$Context", "apartFrom", "[J", true)
  | 6 => ("ProofLedger$Context", "scopes", "I", false)
  | 7 => ("ProofLedger$Context", "outerVariables", "[J", true)
  | 8 => ("ProofLedger$Context", "outerTyped", "[J", true)
  | 9 => ("ProofLedger$Context", "outerHypotheses", "[J", true)
  | _ => ("ProofLedger$Context", "outerPairCounts", "[I", true)
def ct_ty7 : Nat → FieldType := fun k => match k with
  | 0 => .long
  | 1 => .long
  | 2 => .long
  | 3 => (.array .int)
  | 4 => .int
  | 5 => (.array .long)
  | 6 => .int
  | 7 => (.array .long)
  | 8 => (.array .long)
  | 9 => (.array .long)
  | _ => (.array .int)
theorem ct_nm7 : ∀ a, a < 11 → ∀ b, b < 11 → a ≠ b → (ct_T7 a).2.1 ≠ (ct_T7 b).2.1 := by decide +kernel
theorem ct_ok7 : ∀ k, k < 11 → parseFieldDescriptor (ct_T7 k).2.2.1 = some (ct_ty7 k) := by decide +kernel
def ct_T8 : u_T := fun k => match k with
  | 0 => ("ProofLedger$Proof", "names", "LProofLedger$Names;", true)
  | 1 => ("ProofLedger$Proof", "statements", "LProofLedger$Statements;", true)
  | 2 => ("ProofLedger$Proof", "assertions", "LProofLedger$Assertions;", true)
  | 3 => ("ProofLedger$Proof", "context", "LProofLedger$Context;", true)
  | 4 => ("ProofLedger$Proof", "stack", "LProofLedger$Expressions;", true)
  | 5 => ("ProofLedger$Proof", "result", "LProofLedger$Expressions;", true)
  | 6 => ("ProofLedger$Proof", "replacements", "[I", true)
  | _ => ("ProofLedger$Proof", "incomplete", "Z", false)
def ct_ty8 : Nat → FieldType := fun k => match k with
  | 0 => (.object "ProofLedger$Names")
  | 1 => (.object "ProofLedger$Statements")
  | 2 => (.object "ProofLedger$Assertions")
  | 3 => (.object "ProofLedger$Context")
  | 4 => (.object "ProofLedger$Expressions")
  | 5 => (.object "ProofLedger$Expressions")
  | 6 => (.array .int)
  | _ => .boolean
theorem ct_nm8 : ∀ a, a < 8 → ∀ b, b < 8 → a ≠ b → (ct_T8 a).2.1 ≠ (ct_T8 b).2.1 := by decide +kernel
theorem ct_ok8 : ∀ k, k < 8 → parseFieldDescriptor (ct_T8 k).2.2.1 = some (ct_ty8 k) := by decide +kernel
def ct_T9 : u_T := fun k => match k with
  | 0 => ("ProofLedger$Letters", "statements", "LProofLedger$Statements;", true)
  | 1 => ("ProofLedger$Letters", "proof", "LProofLedger$Proof;", true)
  | 2 => ("ProofLedger$Letters", "references", "[I", true)
  | 3 => ("ProofLedger$Letters", "referenceCount", "I", false)
  | 4 => ("ProofLedger$Letters", "listed", "I", false)
  | 5 => ("ProofLedger$Letters", "tagged", "LProofLedger$Expressions;", true)
  | 6 => ("ProofLedger$Letters", "tagCount", "I", false)
  | 7 => ("ProofLedger$Letters", "number", "I", false)
  | 8 => ("ProofLedger$Letters", "insideNumber", "Z", false)
  | _ => ("ProofLedger$Letters", "behindNumber", "Z", false)
def ct_ty9 : Nat → FieldType := fun k => match k with
  | 0 => (.object "ProofLedger$Statements")
  | 1 => (.object "ProofLedger$Proof")
  | 2 => (.array .int)
  | 3 => .int
  | 4 => .int
  | 5 => (.object "ProofLedger$Expressions")
  | 6 => .int
  | 7 => .int
  | 8 => .boolean
  | _ => .boolean
theorem ct_nm9 : ∀ a, a < 10 → ∀ b, b < 10 → a ≠ b → (ct_T9 a).2.1 ≠ (ct_T9 b).2.1 := by decide +kernel
theorem ct_ok9 : ∀ k, k < 10 → parseFieldDescriptor (ct_T9 k).2.2.1 = some (ct_ty9 k) := by decide +kernel
def ct_T10 : u_T := fun k => match k with
  | 0 => ("ProofLedgerModel", "text", "[I", true)
  | 1 => ("ProofLedgerModel", "length", "I", false)
  | 2 => ("ProofLedgerModel", "begins", "[I", true)
  | 3 => ("ProofLedgerModel", "lengths", "[I", true)
  | 4 => ("ProofLedgerModel", "words", "I", false)
  | 5 => ("ProofLedgerModel", "w", "I", false)
  | 6 => ("ProofLedgerModel", "fault", "I", false)
  | 7 => ("ProofLedgerModel", "where", "I", false)
  | 8 => ("ProofLedgerModel", "names", "I", false)
  | 9 => ("ProofLedgerModel", "code", "[J", true)
  | 10 => ("ProofLedgerModel", "sort", "[I", true)
  | 11 => ("ProofLedgerModel", "lives", "[Z", true)
  | 12 => ("ProofLedgerModel", "scopeOf", "[I", true)
  | 13 => ("ProofLedgerModel", "labelled", "[I", true)
  | 14 => ("ProofLedgerModel", "scopes", "I", false)
  | 15 => ("ProofLedgerModel", "statements", "I", false)
  | 16 => ("ProofLedgerModel", "kind", "[I", true)
  | 17 => ("ProofLedgerModel", "labelOf", "[I", true)
  | 18 => ("ProofLedgerModel", "symbols", "[I", true)
  | 19 => ("ProofLedgerModel", "sizes", "[I", true)
  | 20 => ("ProofLedgerModel", "holds", "[Z", true)
  | 21 => ("ProofLedgerModel", "scopeAt", "[I", true)
  | 22 => ("ProofLedgerModel", "asAssertion", "[I", true)
  | 23 => ("ProofLedgerModel", "pairs", "I", false)
  | 24 => ("ProofLedgerModel", "left", "[I", true)
  | 25 => ("ProofLedgerModel", "right", "[I", true)
  | 26 => ("ProofLedgerModel", "pairScope", "[I", true)
  | 27 => ("ProofLedgerModel", "assertions", "I", false)
  | 28 => ("ProofLedgerModel", "statementOf", "[I", true)
  | 29 => ("ProofLedgerModel", "needs", "[I", true)
  | 30 => ("ProofLedgerModel", "needed", "[I", true)
  | 31 => ("ProofLedgerModel", "pairLeft", "[I", true)
  | 32 => ("ProofLedgerModel", "pairRight", "[I", true)
  | 33 => ("ProofLedgerModel", "paired", "[I", true)
  | 34 => ("ProofLedgerModel", "stepCount", "[I", true)
  | 35 => ("ProofLedgerModel", "deepest", "[I", true)
  | 36 => ("ProofLedgerModel", "used", "[I", true)
  | 37 => ("ProofLedgerModel", "open", "[Z", true)
  | 38 => ("ProofLedgerModel", "sure", "[Z", true)
  | 39 => ("ProofLedgerModel", "now", "[I", true)
  | 40 => ("ProofLedgerModel", "nows", "I", false)
  | 41 => ("ProofLedgerModel", "occurs", "[Z", true)
  | 42 => ("ProofLedgerModel", "row", "[I", true)
  | 43 => ("ProofLedgerModel", "stack", "[I", true)
  | 44 => ("ProofLedgerModel", "stackSize", "[I", true)
  | 45 => ("ProofLedgerModel", "high", "I", false)
  | 46 => ("ProofLedgerModel", "tagged", "[I", true)
  | 47 => ("ProofLedgerModel", "tagSize", "[I", true)
  | 48 => ("ProofLedgerModel", "tags", "I", false)
  | 49 => ("ProofLedgerModel", "place", "[I", true)
  | 50 => ("ProofLedgerModel", "made", "[I", true)
  | 51 => ("ProofLedgerModel", "gap", "Z", false)
  | 52 => ("ProofLedgerModel", "listed", "[I", true)
  | 53 => ("ProofLedgerModel", "lists", "I", false)
  | 54 => ("ProofLedgerModel", "number", "I", false)
  | 55 => ("ProofLedgerModel", "inside", "Z", false)
  | _ => ("ProofLedgerModel", "ended", "Z", false)
def ct_ty10 : Nat → FieldType := fun k => match k with
  | 0 => (.array .int)
  | 1 => .int
  | 2 => (.array .int)
  | 3 => (.array .int)
  | 4 => .int
  | 5 => .int
  | 6 => .int
  | 7 => .int
  | 8 => .int
  | 9 => (.array .long)
  | 10 => (.array .int)
  | 11 => (.array .boolean)
  | 12 => (.array .int)
  | 13 => (.array .int)
  | 14 => .int
  | 15 => .int
  | 16 => (.array .int)
  | 17 => (.array .int)
  | 18 => (.array .int)
  | 19 => (.array .int)
  | 20 => (.array .boolean)
  | 21 => (.array .int)
  | 22 => (.array .int)
  | 23 => .int
  | 24 => (.array .int)
  | 25 => (.array .int)
  | 26 => (.array .int)
  | 27 => .int
  | 28 => (.array .int)
  | 29 => (.array .int)
  | 30 => (.array .int)
  | 31 => (.array .int)
  | 32 => (.array .int)
  | 33 => (.array .int)
  | 34 => (.array .int)
  | 35 => (.array .int)
  | 36 => (.array .int)
  | 37 => (.array .boolean)
  | 38 => (.array .boolean)
  | 39 => (.array .int)
  | 40 => .int
  | 41 => (.array .boolean)
  | 42 => (.array .int)
  | 43 => (.array .int)
  | 44 => (.array .int)
  | 45 => .int
  | 46 => (.array .int)
  | 47 => (.array .int)
  | 48 => .int
  | 49 => (.array .int)
  | 50 => (.array .int)
  | 51 => .boolean
  | 52 => (.array .int)
  | 53 => .int
  | 54 => .int
  | 55 => .boolean
  | _ => .boolean
theorem ct_nm10 : ∀ a, a < 57 → ∀ b, b < 57 → a ≠ b → (ct_T10 a).2.1 ≠ (ct_T10 b).2.1 := by decide +kernel
theorem ct_ok10 : ∀ k, k < 57 → parseFieldDescriptor (ct_T10 k).2.2.1 = some (ct_ty10 k) := by decide +kernel
def am_cl : List vw_C := [("ProofLedger", ct_T0, 6), ("ProofLedger$Text", ct_T1, 8), ("ProofLedger$Names", ct_T2, 6), ("ProofLedger$Statements", ct_T3, 5), ("ProofLedger$Expressions", ct_T4, 5), ("ProofLedger$Assertions", ct_T5, 9), ("ProofLedger$Reader", ct_T6, 9), ("ProofLedger$Context", ct_T7, 11), ("ProofLedger$Proof", ct_T8, 8), ("ProofLedger$Letters", ct_T9, 10), ("ProofLedgerModel", ct_T10, 57)]
def am_fty (ci k : Nat) : FieldType := match ci with
  | 0 => ct_ty0 k
  | 1 => ct_ty1 k
  | 2 => ct_ty2 k
  | 3 => ct_ty3 k
  | 4 => ct_ty4 k
  | 5 => ct_ty5 k
  | 6 => ct_ty6 k
  | 7 => ct_ty7 k
  | 8 => ct_ty8 k
  | 9 => ct_ty9 k
  | _ => ct_ty10 k
def am_TS : List Jvm.Cond := lw_tbl.filter goodWord
theorem am_TS_good (w : Jvm.Cond) (h : w ∈ am_TS) : goodWord w = true := (List.mem_filter.mp h).2
theorem am_TS_sub (w : Jvm.Cond) (h : w ∈ am_TS) : w ∈ lw_tbl := (List.mem_filter.mp h).1
theorem am_one {w : Jvm.Cond} (p : Nat) (h : lw_tbl[p]? = some w) (g : goodWord w = true) : w ∈ am_TS := List.mem_filter.mpr ⟨List.mem_of_getElem? h, g⟩
theorem am_all (ws : List Jvm.Cond) (ps : List Nat) (h : ws = ps.filterMap (fun i => lw_tbl[i]?)) (g : ws.all goodWord = true) : ∀ w ∈ ws, w ∈ am_TS := by
  intro w hw
  have h1 := List.all_eq_true.mp g w hw
  rw [h] at hw
  obtain ⟨i, -, hi⟩ := List.mem_filterMap.mp hw
  exact am_one i hi h1
set_option maxRecDepth 20000 in
theorem ct_ws0 : ∀ w ∈ u_ws "ProofLedger" ct_T0 6, w ∈ am_TS := am_all _ [453, 455, 457, 459, 461, 463] (by decide +kernel) (by decide +kernel)
theorem ct_inst0 : Jvm.Cond.instantiable "ProofLedger" 6 ∈ am_TS := am_one 106 (by decide +kernel) (by decide +kernel)
set_option maxRecDepth 20000 in
theorem ct_ws1 : ∀ w ∈ u_ws "ProofLedger$Text" ct_T1 8, w ∈ am_TS := am_all _ [134, 136, 138, 140, 142, 144, 146, 148] (by decide +kernel) (by decide +kernel)
theorem ct_inst1 : Jvm.Cond.instantiable "ProofLedger$Text" 8 ∈ am_TS := am_one 114 (by decide +kernel) (by decide +kernel)
set_option maxRecDepth 20000 in
theorem ct_ws2 : ∀ w ∈ u_ws "ProofLedger$Names" ct_T2 6, w ∈ am_TS := am_all _ [171, 173, 175, 177, 179, 181] (by decide +kernel) (by decide +kernel)
theorem ct_inst2 : Jvm.Cond.instantiable "ProofLedger$Names" 6 ∈ am_TS := am_one 153 (by decide +kernel) (by decide +kernel)
set_option maxRecDepth 20000 in
theorem ct_ws3 : ∀ w ∈ u_ws "ProofLedger$Statements" ct_T3 5, w ∈ am_TS := am_all _ [238, 240, 242, 244, 246] (by decide +kernel) (by decide +kernel)
theorem ct_inst3 : Jvm.Cond.instantiable "ProofLedger$Statements" 5 ∈ am_TS := am_one 187 (by decide +kernel) (by decide +kernel)
set_option maxRecDepth 20000 in
theorem ct_ws4 : ∀ w ∈ u_ws "ProofLedger$Expressions" ct_T4 5, w ∈ am_TS := am_all _ [211, 213, 215, 217, 219] (by decide +kernel) (by decide +kernel)
theorem ct_inst4 : Jvm.Cond.instantiable "ProofLedger$Expressions" 5 ∈ am_TS := am_one 193 (by decide +kernel) (by decide +kernel)
set_option maxRecDepth 20000 in
theorem ct_ws5 : ∀ w ∈ u_ws "ProofLedger$Assertions" ct_T5 9, w ∈ am_TS := am_all _ [272, 274, 276, 278, 280, 282, 284, 286, 288] (by decide +kernel) (by decide +kernel)
theorem ct_inst5 : Jvm.Cond.instantiable "ProofLedger$Assertions" 9 ∈ am_TS := am_one 250 (by decide +kernel) (by decide +kernel)
set_option maxRecDepth 20000 in
theorem ct_ws6 : ∀ w ∈ u_ws "ProofLedger$Reader" ct_T6 9, w ∈ am_TS := am_all _ [428, 430, 432, 434, 436, 438, 440, 442, 444] (by decide +kernel) (by decide +kernel)
theorem ct_inst6 : Jvm.Cond.instantiable "ProofLedger$Reader" 9 ∈ am_TS := am_one 293 (by decide +kernel) (by decide +kernel)
set_option maxRecDepth 20000 in
theorem ct_ws7 : ∀ w ∈ u_ws "ProofLedger$Context" ct_T7 11, w ∈ am_TS := am_all _ [321, 323, 325, 327, 329, 331, 333, 335, 337, 339, 341] (by decide +kernel) (by decide +kernel)
theorem ct_inst7 : Jvm.Cond.instantiable "ProofLedger$Context" 11 ∈ am_TS := am_one 299 (by decide +kernel) (by decide +kernel)
set_option maxRecDepth 20000 in
theorem ct_ws8 : ∀ w ∈ u_ws "ProofLedger$Proof" ct_T8 8, w ∈ am_TS := am_all _ [362, 364, 366, 368, 370, 372, 374, 376] (by decide +kernel) (by decide +kernel)
theorem ct_inst8 : Jvm.Cond.instantiable "ProofLedger$Proof" 8 ∈ am_TS := am_one 345 (by decide +kernel) (by decide +kernel)
set_option maxRecDepth 20000 in
theorem ct_ws9 : ∀ w ∈ u_ws "ProofLedger$Letters" ct_T9 10, w ∈ am_TS := am_all _ [398, 400, 402, 404, 406, 408, 410, 412, 414, 416] (by decide +kernel) (by decide +kernel)
theorem ct_inst9 : Jvm.Cond.instantiable "ProofLedger$Letters" 10 ∈ am_TS := am_one 380 (by decide +kernel) (by decide +kernel)
set_option maxRecDepth 20000 in
theorem ct_ws10 : ∀ w ∈ u_ws "ProofLedgerModel" ct_T10 57, w ∈ am_TS := am_all _ [972, 974, 976, 978, 980, 982, 984, 986, 988, 990, 992, 994, 996, 998, 1000, 1002, 1004, 1006, 1008, 1010, 1012, 1014, 1016, 1018, 1020, 1022, 1024, 1026, 1028, 1030, 1032, 1034, 1036, 1038, 1040, 1042, 1044, 1046, 1048, 1050, 1052, 1054, 1056, 1058, 1060, 1062, 1064, 1066, 1068, 1070, 1072, 1074, 1076, 1078, 1080, 1082, 1084] (by decide +kernel) (by decide +kernel)
theorem ct_inst10 : Jvm.Cond.instantiable "ProofLedgerModel" 57 ∈ am_TS := am_one 910 (by decide +kernel) (by decide +kernel)
theorem ct_ini_ProofLedger : Jvm.Cond.initialized "ProofLedger" ∈ am_TS := am_one 90 (by decide +kernel) (by decide +kernel)
theorem ct_ini_ProofLedger_Assertions : Jvm.Cond.initialized "ProofLedger$Assertions" ∈ am_TS := am_one 95 (by decide +kernel) (by decide +kernel)
theorem ct_ini_ProofLedger_Context : Jvm.Cond.initialized "ProofLedger$Context" ∈ am_TS := am_one 97 (by decide +kernel) (by decide +kernel)
theorem ct_ini_ProofLedger_Expressions : Jvm.Cond.initialized "ProofLedger$Expressions" ∈ am_TS := am_one 94 (by decide +kernel) (by decide +kernel)
theorem ct_ini_ProofLedger_Letters : Jvm.Cond.initialized "ProofLedger$Letters" ∈ am_TS := am_one 99 (by decide +kernel) (by decide +kernel)
theorem ct_ini_ProofLedger_Names : Jvm.Cond.initialized "ProofLedger$Names" ∈ am_TS := am_one 92 (by decide +kernel) (by decide +kernel)
theorem ct_ini_ProofLedger_Proof : Jvm.Cond.initialized "ProofLedger$Proof" ∈ am_TS := am_one 98 (by decide +kernel) (by decide +kernel)
theorem ct_ini_ProofLedger_Reader : Jvm.Cond.initialized "ProofLedger$Reader" ∈ am_TS := am_one 96 (by decide +kernel) (by decide +kernel)
theorem ct_ini_ProofLedger_Statements : Jvm.Cond.initialized "ProofLedger$Statements" ∈ am_TS := am_one 93 (by decide +kernel) (by decide +kernel)
theorem ct_ini_ProofLedger_Text : Jvm.Cond.initialized "ProofLedger$Text" ∈ am_TS := am_one 91 (by decide +kernel) (by decide +kernel)
theorem ct_ini_ProofLedgerLaw : Jvm.Cond.initialized "ProofLedgerLaw" ∈ am_TS := am_one 89 (by decide +kernel) (by decide +kernel)
theorem ct_ini_ProofLedgerModel : Jvm.Cond.initialized "ProofLedgerModel" ∈ am_TS := am_one 100 (by decide +kernel) (by decide +kernel)
theorem ct_ini_java_lang_Long : Jvm.Cond.initialized "java/lang/Long" ∈ am_TS := am_one 104 (by decide +kernel) (by decide +kernel)
theorem ct_ini_java_lang_Math : Jvm.Cond.initialized "java/lang/Math" ∈ am_TS := am_one 103 (by decide +kernel) (by decide +kernel)
theorem ct_ini_java_lang_System : Jvm.Cond.initialized "java/lang/System" ∈ am_TS := am_one 102 (by decide +kernel) (by decide +kernel)
theorem ct_ini_java_util_Arrays : Jvm.Cond.initialized "java/util/Arrays" ∈ am_TS := am_one 101 (by decide +kernel) (by decide +kernel)
theorem am_cl_ws {ci : Nat} {C : String} {T : u_T} {N : Nat} (h : am_cl[ci]? = some (C, T, N)) : ∀ w ∈ u_ws C T N, w ∈ am_TS := match ci, h with
  | 0, h => by cases h; exact ct_ws0
  | 1, h => by cases h; exact ct_ws1
  | 2, h => by cases h; exact ct_ws2
  | 3, h => by cases h; exact ct_ws3
  | 4, h => by cases h; exact ct_ws4
  | 5, h => by cases h; exact ct_ws5
  | 6, h => by cases h; exact ct_ws6
  | 7, h => by cases h; exact ct_ws7
  | 8, h => by cases h; exact ct_ws8
  | 9, h => by cases h; exact ct_ws9
  | 10, h => by cases h; exact ct_ws10
  | _ + 11, h => by cases h
theorem am_cl_ty {ci : Nat} {C : String} {T : u_T} {N : Nat} (h : am_cl[ci]? = some (C, T, N)) : ∀ k, k < N → parseFieldDescriptor (T k).2.2.1 = some (am_fty ci k) := match ci, h with
  | 0, h => by cases h; exact ct_ok0
  | 1, h => by cases h; exact ct_ok1
  | 2, h => by cases h; exact ct_ok2
  | 3, h => by cases h; exact ct_ok3
  | 4, h => by cases h; exact ct_ok4
  | 5, h => by cases h; exact ct_ok5
  | 6, h => by cases h; exact ct_ok6
  | 7, h => by cases h; exact ct_ok7
  | 8, h => by cases h; exact ct_ok8
  | 9, h => by cases h; exact ct_ok9
  | 10, h => by cases h; exact ct_ok10
  | _ + 11, h => by cases h
theorem am_cl_nm {ci : Nat} {C : String} {T : u_T} {N : Nat} (h : am_cl[ci]? = some (C, T, N)) : ∀ a, a < N → ∀ b, b < N → a ≠ b → (T a).2.1 ≠ (T b).2.1 := match ci, h with
  | 0, h => by cases h; exact ct_nm0
  | 1, h => by cases h; exact ct_nm1
  | 2, h => by cases h; exact ct_nm2
  | 3, h => by cases h; exact ct_nm3
  | 4, h => by cases h; exact ct_nm4
  | 5, h => by cases h; exact ct_nm5
  | 6, h => by cases h; exact ct_nm6
  | 7, h => by cases h; exact ct_nm7
  | 8, h => by cases h; exact ct_nm8
  | 9, h => by cases h; exact ct_nm9
  | 10, h => by cases h; exact ct_nm10
  | _ + 11, h => by cases h
theorem am_cl_inst {ci : Nat} {C : String} {T : u_T} {N : Nat} (h : am_cl[ci]? = some (C, T, N)) : Jvm.Cond.instantiable C N ∈ am_TS := match ci, h with
  | 0, h => by cases h; exact ct_inst0
  | 1, h => by cases h; exact ct_inst1
  | 2, h => by cases h; exact ct_inst2
  | 3, h => by cases h; exact ct_inst3
  | 4, h => by cases h; exact ct_inst4
  | 5, h => by cases h; exact ct_inst5
  | 6, h => by cases h; exact ct_inst6
  | 7, h => by cases h; exact ct_inst7
  | 8, h => by cases h; exact ct_inst8
  | 9, h => by cases h; exact ct_inst9
  | 10, h => by cases h; exact ct_inst10
  | _ + 11, h => by cases h
theorem am_cl_ini {ci : Nat} {C : String} {T : u_T} {N : Nat} (h : am_cl[ci]? = some (C, T, N)) : Jvm.Cond.initialized C ∈ am_TS := match ci, h with
  | 0, h => by cases h; exact ct_ini_ProofLedger
  | 1, h => by cases h; exact ct_ini_ProofLedger_Text
  | 2, h => by cases h; exact ct_ini_ProofLedger_Names
  | 3, h => by cases h; exact ct_ini_ProofLedger_Statements
  | 4, h => by cases h; exact ct_ini_ProofLedger_Expressions
  | 5, h => by cases h; exact ct_ini_ProofLedger_Assertions
  | 6, h => by cases h; exact ct_ini_ProofLedger_Reader
  | 7, h => by cases h; exact ct_ini_ProofLedger_Context
  | 8, h => by cases h; exact ct_ini_ProofLedger_Proof
  | 9, h => by cases h; exact ct_ini_ProofLedger_Letters
  | 10, h => by cases h; exact ct_ini_ProofLedgerModel
  | _ + 11, h => by cases h
theorem am_TS_o1 : Jvm.Cond.instanceMethod objectInit ∈ am_TS := am_one 111 (by decide +kernel) (by decide +kernel)
theorem am_TS_o2 : Jvm.Cond.code objectInit ⟨#[0xb1]⟩ 1 none ∈ am_TS := am_one 112 (by decide +kernel) (by decide +kernel)
theorem am_TS_c1 : Jvm.Cond.native arraycopyName ∈ am_TS := am_one 736 (by decide +kernel) (by decide +kernel)
theorem am_TS_c2 : Jvm.Cond.static arraycopyName ∈ am_TS := am_one 735 (by decide +kernel) (by decide +kernel)
theorem am_TS_m1 : Jvm.Cond.static Lib.Math.max.name ∈ am_TS := am_one 742 (by decide +kernel) (by decide +kernel)
theorem am_TS_m2 : Jvm.Cond.code Lib.Math.max.name Lib.Math.max.code 2 (some .int) ∈ am_TS := am_one 743 (by decide +kernel) (by decide +kernel)
theorem am_TS_c3 : Jvm.Cond.initialized "java/lang/System" ∈ am_TS := ct_ini_java_lang_System
theorem am_TS_z : Jvm.Cond.arrayClass .boolean ∈ am_TS := am_one 291 (by decide +kernel) (by decide +kernel)
theorem am_TS_b : Jvm.Cond.arrayClass .byte ∈ am_TS := am_one 151 (by decide +kernel) (by decide +kernel)
theorem am_TS_i : Jvm.Cond.arrayClass .int ∈ am_TS := am_one 185 (by decide +kernel) (by decide +kernel)
theorem am_TS_l : Jvm.Cond.arrayClass .long ∈ am_TS := am_one 184 (by decide +kernel) (by decide +kernel)
end
section
/-! The machine in our own words: ints as integers, longs as they are, references as numbers (0: the script, r + 1: our own cell r) -/
abbrev am_V : Type := Int ⊕ (Int64 ⊕ Option Nat)
abbrev am_F : Type := (Nat → Int) ⊕ (Nat → Int64)
abbrev am_A : Type := FieldType × (Nat × am_F)
abbrev am_E : Type := am_A ⊕ (Nat × List am_V)
abbrev am_H : Type := List am_E
abbrev am_L : Type := List (Option am_V)
abbrev vI (z : Int) : am_V := Sum.inl z
abbrev vL (x : Int64) : am_V := Sum.inr (Sum.inl x)
abbrev vR (r : Nat) : am_V := Sum.inr (Sum.inr (some r))
abbrev vN : am_V := Sum.inr (Sum.inr none)
/-- a method: its name, its code, how many locals, what it returns, whether it is a constructor, whether it is the law -/
abbrev am_M : Type := MethodName × ByteArray × Nat × Option FieldType × Bool × Bool
def am_y (m : am_M) : MethodName := m.1
def am_own (m : am_M) : String := m.1.cls
def am_bytes (m : am_M) : ByteArray := m.2.1
def am_maxL (m : am_M) : Nat := m.2.2.1
def am_ret (m : am_M) : Option FieldType := m.2.2.2.1
def am_init (m : am_M) : Bool := m.2.2.2.2.1
def am_law (m : am_M) : Bool := m.2.2.2.2.2
def am_lw : Nat := 42
theorem am_lw20 : 20 ≤ am_lw := by decide
theorem am_lw40 : 40 ≤ am_lw := by decide
/-- an instruction, where the next one stands, and two numbers of its own -/
abbrev am_I : Type := Instr × Nat × Nat × Nat
def am_cat : am_V → Nat
  | .inr (.inl _) => 2
  | _ => 1
def am_c (b z : Nat) : am_V → Value
  | .inl n => .int (Int32.ofInt n)
  | .inr (.inl x) => .long x
  | .inr (.inr none) => .null
  | .inr (.inr (some 0)) => .ref b
  | .inr (.inr (some (r + 1))) => .ref (z + r)
theorem am_c_cat (b z : Nat) (v : am_V) : (am_c b z v).category = am_cat v := match v with
  | .inl _ => rfl
  | .inr (.inl _) => rfl
  | .inr (.inr none) => rfl
  | .inr (.inr (some 0)) => rfl
  | .inr (.inr (some (_ + 1))) => rfl
def am_sz : am_E → Nat
  | .inl a => a.2.1
  | .inr o => o.2.length
def am_sl : am_H → Nat
  | [] => 0
  | e :: t => am_sz e + am_sl t
theorem am_sl_app (h : am_H) (e : am_E) : am_sl (h ++ [e]) = am_sl h + am_sz e := by
  induction h with
  | nil => simp [am_sl]
  | cons a t ih => simp [am_sl, ih]; omega
theorem am_sl_set (h : am_H) (k : Nat) (e e0 : am_E) (h0 : h[k]? = some e0) (hs : am_sz e = am_sz e0) : am_sl (h.set k e) = am_sl h := by
  induction h generalizing k with
  | nil => simp at h0
  | cons a t ih =>
    cases k with
    | zero => simp at h0; subst h0; simp [am_sl, hs]
    | succ k => simp at h0; simp [am_sl, ih k h0]
theorem am_sl_set3 (h : am_H) (k : Nat) (e e0 : am_E) (h0 : h[k]? = some e0) (hs : am_sz e = am_sz e0) {a c : Nat} (hp : am_sl h = a ∧ am_sl h ≤ c) : am_sl (h.set k e) = a ∧ am_sl (h.set k e) ≤ c := by
  rw [am_sl_set h k e e0 h0 hs]; exact hp
def am_ce (b z : Nat) (tA : FieldType → ClassId) : am_E → va_E
  | .inl (ty, n, .inl f) => .inl (tA ty, n, .inl (fun j => Int32.ofInt (f j)))
  | .inl (ty, n, .inr f) => .inl (tA ty, n, .inr (.inl f))
  | .inr (ci, fs) => .inr (ci, fs.map (am_c b z))
def am_cw (b z : Nat) (tA : FieldType → ClassId) : Nat → am_H → va_W
  | _, [] => []
  | i, e :: t => (z + i, am_ce b z tA e) :: am_cw b z tA (i + 1) t
theorem am_cw_get (b z : Nat) (tA : FieldType → ClassId) (h : am_H) : ∀ (i k : Nat), (am_cw b z tA i h)[k]? = (h[k]?).map (fun e => (z + (i + k), am_ce b z tA e)) := by
  induction h with
  | nil => intro i k; simp [am_cw]
  | cons a t ih =>
    intro i k
    cases k with
    | zero => simp [am_cw]
    | succ k =>
      simp only [am_cw, List.getElem?_cons_succ, ih (i + 1) k]
      have e : i + 1 + k = i + (k + 1) := by omega
      rw [e]
theorem am_cw_at {b z : Nat} {tA : FieldType → ClassId} {h : am_H} {k : Nat} {e : am_E} (hk : h[k]? = some e) : (am_cw b z tA 0 h)[k]? = some (z + k, am_ce b z tA e) := by
  rw [am_cw_get, hk]; simp
theorem am_cw_set (b z : Nat) (tA : FieldType → ClassId) (e : am_E) (h : am_H) : ∀ (i k : Nat), (am_cw b z tA i h).set k (z + (i + k), am_ce b z tA e) = am_cw b z tA i (h.set k e) := by
  induction h with
  | nil => intro i k; simp [am_cw]
  | cons a t ih =>
    intro i k
    cases k with
    | zero => simp [am_cw]
    | succ k =>
      simp only [am_cw, List.set_cons_succ]
      have e1 : i + (k + 1) = i + 1 + k := by omega
      rw [e1, ih (i + 1) k]
theorem am_cw_set0 (b z : Nat) (tA : FieldType → ClassId) (e : am_E) (h : am_H) (k : Nat) : (am_cw b z tA 0 h).set k (z + k, am_ce b z tA e) = am_cw b z tA 0 (h.set k e) := by
  have := am_cw_set b z tA e h 0 k
  rwa [Nat.zero_add] at this
theorem am_cw_app (b z : Nat) (tA : FieldType → ClassId) (e : am_E) (h : am_H) : ∀ (i : Nat), am_cw b z tA i (h ++ [e]) = am_cw b z tA i h ++ [(z + (i + h.length), am_ce b z tA e)] := by
  induction h with
  | nil => intro i; simp [am_cw]
  | cons a t ih =>
    intro i
    simp only [List.cons_append, am_cw, ih (i + 1), List.length_cons]
    have e1 : i + 1 + t.length = i + (t.length + 1) := by omega
    rw [e1]
theorem am_cw_len (b z : Nat) (tA : FieldType → ClassId) (h : am_H) : ∀ (i : Nat), (am_cw b z tA i h).length = h.length := by
  induction h with
  | nil => intro i; rfl
  | cons a t ih => intro i; simp [am_cw, ih (i + 1)]
theorem am_cw_D (b z : Nat) (tA : FieldType → ClassId) (h : am_H) : va_D (fun q => z ≤ q) (am_cw b z tA 0 h) := by
  refine ⟨fun i j p q hi hj hpq => ?_, fun k q hk => ?_⟩
  · rw [am_cw_get] at hi hj
    cases h1 : h[i]? with
    | none => rw [h1] at hi; cases hi
    | some x =>
      cases h2 : h[j]? with
      | none => rw [h2] at hj; cases hj
      | some y =>
        rw [h1] at hi; rw [h2] at hj
        cases hi; cases hj
        simp at hpq
        exact hpq
  · rw [am_cw_get] at hk
    cases h1 : h[k]? with
    | none => rw [h1] at hk; cases hk
    | some x => rw [h1] at hk; cases hk; simp
/-! locals -/
def am_lv (b z : Nat) (ls : Array Slot) (lv : am_L) : Prop := lv_wf ls ∧ ls.size = lv.length ∧ ∀ (i : Nat) (v : am_V), lv[i]? = some (some v) → ls[i]? = some (.val (am_c b z v))
def am_lp (b z : Nat) (lv : am_L) : List (Nat × Value) := (List.range lv.length).filterMap (fun i => (lv[i]?.join).map (fun v => (i, am_c b z v)))
theorem am_lp_mem {b z : Nat} {lv : am_L} {q : Nat × Value} : q ∈ am_lp b z lv ↔ ∃ v, lv[q.1]? = some (some v) ∧ q.2 = am_c b z v := by
  obtain ⟨i, w⟩ := q
  unfold am_lp
  rw [List.mem_filterMap]
  constructor
  · rintro ⟨j, hj, hq⟩
    cases h : lv[j]? with
    | none => rw [h] at hq; cases hq
    | some o =>
      cases o with
      | none => rw [h] at hq; cases hq
      | some v => rw [h] at hq; cases hq; exact ⟨v, h, rfl⟩
  · rintro ⟨v, h1, h2⟩
    refine ⟨i, List.mem_range.mpr (List.getElem?_eq_some_iff.mp h1).1, ?_⟩
    dsimp only at h1 h2
    rw [h1, h2]; rfl
theorem am_lv.has {b z : Nat} {ls : Array Slot} {lv : am_L} (h : am_lv b z ls lv) : lv_has ls lv.length (am_lp b z lv) :=
  ⟨h.2.1, h.1, fun q hq => by obtain ⟨v, h1, h2⟩ := am_lp_mem.mp hq; rw [h2]; exact h.2.2 _ v h1⟩
def am_clr1 (lv : am_L) (i : Nat) : am_L := match lv[i]? with
  | some (some (.inr (.inl _))) => lv.set i none
  | _ => lv
def am_clr (lv : am_L) : Nat → am_L
  | 0 => lv
  | i + 1 => am_clr1 lv i
def am_st1 (lv : am_L) (i : Nat) (v : am_V) : am_L := (am_clr lv i).set i (some v)
def am_st2 (lv : am_L) (i : Nat) (v : am_V) : am_L := ((am_clr lv i).set (i + 1) none).set i (some v)
theorem am_clr_len (lv : am_L) (i : Nat) : (am_clr lv i).length = lv.length := by
  cases i with
  | zero => rfl
  | succ i =>
    show (am_clr1 lv i).length = lv.length
    unfold am_clr1; split
    · simp
    · rfl
theorem am_clr_get {lv : am_L} {i j : Nat} {w : am_V} (hj : (am_clr lv i)[j]? = some (some w)) : lv[j]? = some (some w) ∧ ¬ (j + 1 = i ∧ am_cat w = 2) := by
  cases i with
  | zero => exact ⟨hj, by omega⟩
  | succ i =>
    replace hj : (am_clr1 lv i)[j]? = some (some w) := hj
    unfold am_clr1 at hj
    split at hj
    · next x hx =>
      by_cases e : j = i
      · subst e
        rw [List.getElem?_set_self ((List.getElem?_eq_some_iff.mp hx).1)] at hj
        cases hj
      · rw [List.getElem?_set_ne (Ne.symm e)] at hj
        exact ⟨hj, by omega⟩
    · next hx =>
      refine ⟨hj, fun ⟨e, hc⟩ => ?_⟩
      have e2 : j = i := by omega
      subst e2
      match w, hc, hj with
      | .inr (.inl x), _, hj => exact hx x hj
theorem am_lv.st1 {b z : Nat} {ls' : Array Slot} {lv : am_L} {i : Nat} {v : am_V} (hi : i < lv.length) (h : lv_has ls' lv.length ((i, am_c b z v) :: (am_lp b z lv).filter (fun q => !(q.1 == i) && !(q.1 + 1 == i && q.2.category == 2)))) : am_lv b z ls' (am_st1 lv i v) := by
  obtain ⟨h1, h2, h3⟩ := h
  refine ⟨h2, by simp [am_st1, am_clr_len, h1], fun j w hj => ?_⟩
  by_cases hji : j = i
  · subst hji
    rw [am_st1, List.getElem?_set_self (by rw [am_clr_len]; exact hi)] at hj
    cases hj
    exact h3 _ List.mem_cons_self
  · rw [am_st1, List.getElem?_set_ne (Ne.symm hji)] at hj
    obtain ⟨h4, h5⟩ := am_clr_get hj
    refine h3 (j, am_c b z w) (List.mem_cons_of_mem _ (List.mem_filter.mpr ⟨am_lp_mem.mpr ⟨w, h4, rfl⟩, ?_⟩))
    dsimp only
    rw [am_c_cat]
    by_cases h6 : j + 1 = i
    · have h7 : ¬ am_cat w = 2 := fun q => h5 ⟨h6, q⟩
      simp [hji, h7]
    · simp [hji, h6]
theorem am_lv.st2 {b z : Nat} {ls' : Array Slot} {lv : am_L} {i : Nat} {v : am_V} (hi : i + 1 < lv.length) (h : lv_has ls' lv.length ((i, am_c b z v) :: (am_lp b z lv).filter (fun q => !(q.1 == i) && (!(q.1 == i + 1) && !(q.1 + 1 == i && q.2.category == 2))))) : am_lv b z ls' (am_st2 lv i v) := by
  obtain ⟨h1, h2, h3⟩ := h
  refine ⟨h2, by simp [am_st2, am_clr_len, h1], fun j w hj => ?_⟩
  by_cases hji : j = i
  · subst hji
    rw [am_st2, List.getElem?_set_self (by rw [List.length_set, am_clr_len]; omega)] at hj
    cases hj
    exact h3 _ List.mem_cons_self
  · rw [am_st2, List.getElem?_set_ne (Ne.symm hji)] at hj
    by_cases hj2 : j = i + 1
    · subst hj2
      rw [List.getElem?_set_self (by rw [am_clr_len]; exact hi)] at hj
      cases hj
    · rw [List.getElem?_set_ne (Ne.symm hj2)] at hj
      obtain ⟨h4, h5⟩ := am_clr_get hj
      refine h3 (j, am_c b z w) (List.mem_cons_of_mem _ (List.mem_filter.mpr ⟨am_lp_mem.mpr ⟨w, h4, rfl⟩, ?_⟩))
      dsimp only
      rw [am_c_cat]
      by_cases h6 : j + 1 = i
      · have h7 : ¬ am_cat w = 2 := fun q => h5 ⟨h6, q⟩
        simp [hji, hj2, h7]
      · simp [hji, hj2, h6]
/-! the locals with which a method begins -/
def am_ea : List am_V → am_L
  | [] => []
  | .inr (.inl x) :: t => some (vL x) :: none :: am_ea t
  | v :: t => some v :: am_ea t
def am_ent (n : Nat) (as : List am_V) : am_L := am_ea as ++ List.replicate (n - (am_ea as).length) none
theorem am_ea_len (b z : Nat) (as : List am_V) : (lg_sl (as.map (am_c b z))).length = (am_ea as).length := by
  induction as with
  | nil => rfl
  | cons v t ih =>
    match v with
    | .inl _ => simpa [lg_sl, am_ea, am_c, Value.category] using ih
    | .inr (.inl _) => simpa [lg_sl, am_ea, am_c, Value.category] using ih
    | .inr (.inr none) => simpa [lg_sl, am_ea, am_c, Value.category] using ih
    | .inr (.inr (some 0)) => simpa [lg_sl, am_ea, am_c, Value.category] using ih
    | .inr (.inr (some (_ + 1))) => simpa [lg_sl, am_ea, am_c, Value.category] using ih
theorem am_ea_at (b z : Nat) (as : List am_V) : ∀ (k i : Nat) (v : am_V), (am_ea as)[i]? = some (some v) → (k + i, am_c b z v) ∈ lv_args k (as.map (am_c b z)) := by
  induction as with
  | nil => intro k i v h; simp [am_ea] at h
  | cons w t ih =>
    intro k i v h
    have one : am_cat w = 1 → am_ea (w :: t) = some w :: am_ea t := by
      intro hc
      match w, hc with
      | .inl _, _ => rfl
      | .inr (.inr _), _ => rfl
    by_cases hc : am_cat w = 2
    · match w, hc with
      | .inr (.inl x), _ =>
        simp only [am_ea] at h
        simp only [List.map_cons, lv_args]
        match i, h with
        | 0, h => simp at h; subst h; simp
        | 1, h => simp at h
        | i + 2, h =>
          simp at h
          have h2 := ih (k + 2) i v h
          have e : k + 2 + i = k + (i + 2) := by omega
          rw [e] at h2
          exact List.mem_cons_of_mem _ (by simpa [am_c, Value.category] using h2)
    · have hc1 : am_cat w = 1 := by
        match w, hc with
        | .inl _, _ => rfl
        | .inr (.inr _), _ => rfl
      rw [one hc1] at h
      simp only [List.map_cons, lv_args]
      match i, h with
      | 0, h => simp at h; subst h; simp
      | i + 1, h =>
        simp at h
        have h2 := ih (k + 1) i v h
        have e : k + 1 + i = k + (i + 1) := by omega
        rw [e] at h2
        refine List.mem_cons_of_mem _ ?_
        rw [if_neg (by rw [am_c_cat]; exact hc)]
        exact h2
theorem am_ent_lv (b z n : Nat) (as : List am_V) (hn : (am_ea as).length ≤ n) : am_lv b z ((lg_sl (as.map (am_c b z)) ++ List.replicate (n - (lg_sl (as.map (am_c b z))).length) Slot.unset).toArray) (am_ent n as) := by
  have h := lv_entry (as.map (am_c b z)) (n := n) (by rw [am_ea_len]; exact hn)
  refine ⟨h.2.1, ?_, fun i v hi => ?_⟩
  · rw [h.1]; simp [am_ent]; omega
  · unfold am_ent at hi
    by_cases hl : i < (am_ea as).length
    · rw [List.getElem?_append_left hl] at hi
      have h2 := h.2.2 _ (am_ea_at b z as 0 i v hi)
      simpa using h2
    · rw [List.getElem?_append_right (by omega), List.getElem?_replicate] at hi
      split at hi <;> cases hi
/-! numbers -/
def am_in (x : Int) : Prop := -2147483648 ≤ x ∧ x < 2147483648
theorem am_in_toInt {x : Int} (h : am_in x) : (Int32.ofInt x).toInt = x := Int32.toInt_ofInt_of_le (by have := h.1; omega) (by have := h.2; omega)
theorem am_eqI {x y : Int} (hx : am_in x) (hy : am_in y) : Int32.ofInt x = Int32.ofInt y ↔ x = y := by
  rw [← Int32.toInt_inj, am_in_toInt hx, am_in_toInt hy]
theorem am_ltI {x y : Int} (hx : am_in x) (hy : am_in y) : Int32.ofInt x < Int32.ofInt y ↔ x < y := by
  rw [Int32.lt_iff_toInt_lt, am_in_toInt hx, am_in_toInt hy]
theorem am_leI {x y : Int} (hx : am_in x) (hy : am_in y) : Int32.ofInt x ≤ Int32.ofInt y ↔ x ≤ y := by
  rw [Int32.le_iff_toInt_le, am_in_toInt hx, am_in_toInt hy]
theorem am_in_0 : am_in 0 := ⟨by decide, by decide⟩
theorem am_0 : (0 : Int32) = Int32.ofInt 0 := rfl
theorem am_clamp {x : Int} (h0 : 0 ≤ x) (h : x < 2147483648) : (Int32.ofInt x).toNatClampNeg = x.toNat := by
  show (Int32.ofInt x).toInt.toNat = x.toNat
  rw [am_in_toInt ⟨by omega, h⟩]
theorem am_vpin {x : Int} {n : Nat} (h0 : 0 ≤ x) (h : x < n) (hn : (n : Int) < 2147483648) : vp_in (Int32.ofInt x) n := by
  rw [vp_in_iff, am_in_toInt ⟨by omega, by omega⟩]
  exact ⟨h0, h⟩
theorem am_nonneg {x : Int} (h0 : 0 ≤ x) (h : x < 2147483648) : ¬ Int32.ofInt x < 0 := by
  rw [am_0, am_ltI ⟨by omega, h⟩ am_in_0]; omega
def am_upd {α : Type} (f : Nat → α) (k : Nat) (x : α) : Nat → α := fun j => if j = k then x else f j
theorem am_upd_i (f : Nat → Int) (k : Nat) (x : Int) : (fun j => Int32.ofInt (am_upd f k x j)) = upd (fun j => Int32.ofInt (f j)) k (Int32.ofInt x) := by
  funext j; unfold am_upd upd; split <;> rfl
theorem am_upd_l (f : Nat → Int64) (k : Nat) (x : Int64) : am_upd f k x = vp_updL f k x := rfl
def am_cpy {α : Type} (f g : Nat → α) (sp dp n : Nat) : Nat → α := fun k => if dp ≤ k ∧ k < dp + n then f (sp + (k - dp)) else g k
theorem am_cpy_i (f g : Nat → Int) (sp dp n : Nat) : (fun j => Int32.ofInt (am_cpy f g sp dp n j)) = va_cpy (fun j => Int32.ofInt (f j)) (fun j => Int32.ofInt (g j)) sp dp n := by
  funext j; unfold am_cpy va_cpy; split <;> rfl
theorem am_div {x y : Int} (hx : 0 ≤ x) (hx2 : x < 2147483648) (hy : 0 < y) (hy2 : y < 2147483648) : Int32.ofInt x / Int32.ofInt y = Int32.ofInt (x / y) := by
  have h := pk_div (a := x.toNat) (d := y.toNat) (by omega) (by omega) (by omega)
  have ex : Int32.ofInt x = nI x.toNat := by rw [nI, ← Int32.ofInt_eq_ofNat, Int.toNat_of_nonneg hx]
  have ey : Int32.ofInt y = nI y.toNat := by rw [nI, ← Int32.ofInt_eq_ofNat, Int.toNat_of_nonneg (by omega)]
  rw [ex, ey, h, nI, ← Int32.ofInt_eq_ofNat]
  congr 1
  rw [Int.natCast_ediv, Int.toNat_of_nonneg hx, Int.toNat_of_nonneg (by omega)]
theorem am_rem {x y : Int} (hx : 0 ≤ x) (hx2 : x < 2147483648) (hy : 0 < y) (hy2 : y < 2147483648) : Int32.ofInt x - Int32.ofInt x / Int32.ofInt y * Int32.ofInt y = Int32.ofInt (x % y) := by
  rw [am_div hx hx2 hy hy2, ← Int32.ofInt_mul, ← Int32.ofInt_sub]
  congr 1
  have := Int.emod_add_mul_ediv x y
  rw [Int.mul_comm] at this
  omega
def am_cmp (x y : Int64) : Int := if y < x then 1 else if x = y then 0 else -1
theorem am_cmp_c (x y : Int64) : lg_cmp x y = Int32.ofInt (am_cmp x y) := by
  unfold lg_cmp am_cmp
  by_cases h : y < x
  · rw [if_pos h, if_pos h]; rfl
  · rw [if_neg h, if_neg h]
    by_cases h2 : x = y
    · rw [if_pos h2, if_pos h2]; rfl
    · rw [if_neg h2, if_neg h2]; rfl
def am_and (x y : Int) : Int := (Int32.ofInt x &&& Int32.ofInt y).toInt
def am_or (x y : Int) : Int := (Int32.ofInt x ||| Int32.ofInt y).toInt
def am_xor (x y : Int) : Int := (Int32.ofInt x ^^^ Int32.ofInt y).toInt
def am_i2l (x : Int) : Int64 := (Int32.ofInt x).toInt64
def am_l2i (x : Int64) : Int := x.toInt32.toInt
def am_i2b (x : Int) : Int := (Int32.ofInt x).toInt8.toInt32.toInt
def am_shl (x : Int64) (y : Int) : Int64 := x <<< ((Int32.ofInt y).toInt64 &&& 63)
def am_shr (x : Int64) (y : Int) : Int64 := x >>> ((Int32.ofInt y).toInt64 &&& 63)
def am_ushr (x : Int64) (y : Int) : Int64 := (x.toUInt64 >>> ((Int32.ofInt y).toInt64.toUInt64 &&& Int64.toUInt64 63)).toInt64
theorem am_dfl_of {n : Nat} {ty : Nat → FieldType} {fs : List Value} (h : (List.range n).map (fun j => defaultValue (ty j)) = fs) : ∀ j, j < n → defaultValue (ty j) = vp_V fs j := by
  subst h
  intro j hj
  simp [vp_V, hj]
end
section
/-! ===== a new object's fields ===== -/
def am_dfl (ci : Nat) : List am_V := match ci with
  | 0 => [vN, vN, vN, vN, vN, vI 0]
  | 1 => [vN, vI 0, vI 0, vI 0, vI 0, vL 0, vI 0, vI 0]
  | 2 => [vN, vN, vN, vI 0, vI 0, vL 0]
  | 3 => [vN, vN, vN, vN, vN]
  | 4 => [vI 0, vN, vN, vN, vI 0]
  | 5 => [vN, vN, vN, vN, vN, vN, vN, vN, vI 0]
  | 6 => [vN, vN, vN, vN, vN, vN, vI 0, vI 0, vL 0]
  | 7 => [vL 0, vL 0, vL 0, vN, vI 0, vN, vI 0, vN, vN, vN, vN]
  | 8 => [vN, vN, vN, vN, vN, vN, vN, vI 0]
  | 9 => [vN, vN, vN, vI 0, vI 0, vN, vI 0, vI 0, vI 0, vI 0]
  | _ => [vN, vI 0, vN, vN, vI 0, vI 0, vI 0, vI 0, vI 0, vN, vN, vN, vN, vN, vI 0, vI 0, vN, vN, vN, vN, vN, vN, vN, vI 0, vN, vN, vN, vI 0, vN, vN, vN, vN, vN, vN, vN, vN, vN, vN, vN, vN, vI 0, vN, vN, vN, vN, vI 0, vN, vN, vI 0, vN, vN, vI 0, vN, vI 0, vI 0, vI 0, vI 0]
theorem am_cl_len {ci : Nat} {C : String} {T : u_T} {N : Nat} (h : am_cl[ci]? = some (C, T, N)) : (am_dfl ci).length = N := match ci, h with
  | 0, h => by cases h; rfl
  | 1, h => by cases h; rfl
  | 2, h => by cases h; rfl
  | 3, h => by cases h; rfl
  | 4, h => by cases h; rfl
  | 5, h => by cases h; rfl
  | 6, h => by cases h; rfl
  | 7, h => by cases h; rfl
  | 8, h => by cases h; rfl
  | 9, h => by cases h; rfl
  | 10, h => by cases h; rfl
  | _ + 11, h => by cases h
theorem am_cl_dfl {ci : Nat} {C : String} {T : u_T} {N : Nat} (b z : Nat) (h : am_cl[ci]? = some (C, T, N)) : ∀ j, j < N → defaultValue (am_fty ci j) = vp_V ((am_dfl ci).map (am_c b z)) j := match ci, h with
  | 0, h => by cases h; exact am_dfl_of rfl
  | 1, h => by cases h; exact am_dfl_of rfl
  | 2, h => by cases h; exact am_dfl_of rfl
  | 3, h => by cases h; exact am_dfl_of rfl
  | 4, h => by cases h; exact am_dfl_of rfl
  | 5, h => by cases h; exact am_dfl_of rfl
  | 6, h => by cases h; exact am_dfl_of rfl
  | 7, h => by cases h; exact am_dfl_of rfl
  | 8, h => by cases h; exact am_dfl_of rfl
  | 9, h => by cases h; exact am_dfl_of rfl
  | 10, h => by cases h; exact am_dfl_of rfl
  | _ + 11, h => by cases h
end
section
/-! where a method of ours stands, and what it means to go on from there -/
def am_tys (tA : FieldType → ClassId) : List (ClassId × FieldType) := [(tA .int, .int), (tA .long, .long), (tA .byte, .byte), (tA .boolean, .boolean)]
def am_X (d N S L : Nat) (xs : Nat → Int) (mid : am_M) (p : Program) (R : Room) (s : State) (m : MethodId) (args : Array Value) (meth : Method) (c : Code) (b z n0 s0 : Nat) (tA : FieldType → ClassId) (D : va_G) : Prop :=
  p.tables.exec = Jvm.exec ∧ c.code = am_bytes mid ∧ c.maxLocals = am_maxL mid ∧ s.vm.findClass (am_own mid) = some m.cls ∧ (∀ w ∈ am_TS, w.before args s = true) ∧ va_K D am_cl (am_tys tA) s ∧ s.heap.size = z + n0 ∧ (am_init mid = true → meth.name = "<init>") ∧ d + 1 ≤ R.frames ∧ am_lw * (d + 1) ≤ R.locals ∧ N ≤ n0 + R.cells ∧ S ≤ s0 + R.slots ∧ (am_law mid = true → (∃ ys : Nat → Int32, va_X b L ys s s.heap ∧ ∀ j, j < L → ys j = Int32.ofInt (xs j)) ∧ b < z)
def am_W (p : Program) (l : Launch) (e : Env) (R : Room) (s : State) (m : MethodId) (args : Array Value) (below : List Frame) (meth : Method) (c : Code) (Q : State → Prop) (N S b z n0 s0 : Nat) (tA : FieldType → ClassId) (D : va_G) (pc : Nat) (lv : am_L) (st : List am_V) (h : am_H) : Prop :=
  ∀ (H : Heap) (locs : List Loc) (ls : Array Slot) (cells slots : Nat), am_lv b z ls lv → va_P D am_cl (am_cw b z tA 0 h) H → va_S (fun q => z ≤ q) s.heap H locs → (h.length = n0 + cells ∧ h.length ≤ N) → (am_sl h = s0 + slots ∧ am_sl h ≤ S) → W p l e R s m args below meth c H locs cells slots Q (F0 m pc ls (st.map (am_c b z)))
/-- from the first state the machine comes to the second, in a frame of method mid, with d frames more above it, N cells and S slots at most -/
def Go (d N S L : Nat) (xs : Nat → Int) (mid : am_M) (pc : Nat) (lv : am_L) (st : List am_V) (h : am_H) (pc' : Nat) (lv' : am_L) (st' : List am_V) (h' : am_H) : Prop :=
  ∀ (p : Program) (l : Launch) (e : Env) (R : Room) (s : State) (m : MethodId) (args : Array Value) (below : List Frame) (meth : Method) (c : Code) (Q : State → Prop) (b z n0 s0 : Nat) (tA : FieldType → ClassId) (D : va_G), am_X d N S L xs mid p R s m args meth c b z n0 s0 tA D →
    am_W p l e R s m args below meth c Q N S b z n0 s0 tA D pc' lv' st' h' → am_W p l e R s m args below meth c Q N S b z n0 s0 tA D pc lv st h
theorem am_size {p : Program} {l : Launch} {e : Env} {R : Room} {s : State} {m : MethodId} {args : Array Value} {below : List Frame} {meth : Method} {c : Code} {H : Heap} {locs : List Loc} {cells slots : Nat} {Q : State → Prop} {g : JFrame} (k : H.size ≤ s.heap.size + cells → W p l e R s m args below meth c H locs cells slots Q g) : W p l e R s m args below meth c H locs cells slots Q g :=
  fun T hT X => k (by rw [← hT]; exact X.heapSize) T hT X
section GO
variable {d N S L : Nat} {xs : Nat → Int} {mid : am_M} {pc : Nat} {lv : am_L} {st : List am_V} {h : am_H}
theorem Go.rfl' : Go d N S L xs mid pc lv st h pc lv st h := fun _ _ _ _ _ _ _ _ _ _ _ _ _ _ _ _ _ _ k => k
theorem Go.trans {pc1 pc2 : Nat} {lv1 lv2 : am_L} {st1 st2 : List am_V} {h1 h2 : am_H} (g1 : Go d N S L xs mid pc lv st h pc1 lv1 st1 h1) (g2 : Go d N S L xs mid pc1 lv1 st1 h1 pc2 lv2 st2 h2) : Go d N S L xs mid pc lv st h pc2 lv2 st2 h2 :=
  fun p l e R s m args below meth c Q b z n0 s0 tA D X k => g1 p l e R s m args below meth c Q b z n0 s0 tA D X (g2 p l e R s m args below meth c Q b z n0 s0 tA D X k)
/-- an instruction that changes the stack alone -/
theorem go_st {pc' : Nat} {st' : List am_V} (hw : ∀ {p : Program} {l : Launch} {e : Env} {R : Room} {s : State} {m : MethodId} {args : Array Value} {below : List Frame} {meth : Method} {c : Code} {H : Heap} {locs : List Loc} {cells slots : Nat} {Q : State → Prop} {ls : Array Slot} {b z : Nat}, p.tables.exec = Jvm.exec → c.code = am_bytes mid → am_lv b z ls lv → s.vm.findClass (am_own mid) = some m.cls → (∀ w ∈ am_TS, w.before args s = true) →
      W p l e R s m args below meth c H locs cells slots Q (F0 m pc' ls (st'.map (am_c b z))) → W p l e R s m args below meth c H locs cells slots Q (F0 m pc ls (st.map (am_c b z)))) : Go d N S L xs mid pc lv st h pc' lv st' h := by
  intro p l e R s m args below meth c Q b z n0 s0 tA D X kk H locs ls cells slots hl hP hS hc hs
  obtain ⟨hx, hb, hml, hown, hts, -⟩ := X
  exact hw hx hb hl hown hts (kk H locs ls cells slots hl hP hS hc hs)
theorem go_iconst {n : Int} (hd : decode (am_bytes mid) pc = .ok (.iconst n, 1)) : Go d N S L xs mid pc lv st h (pc + 1) lv (vI n :: st) h := go_st fun hx hb _ _ _ k => lv_iconst hx hb hd rfl k
theorem go_bipush {n : Int} (hd : decode (am_bytes mid) pc = .ok (.bipush n, 2)) (h1 : -128 ≤ n) (h2 : n ≤ 127) : Go d N S L xs mid pc lv st h (pc + 2) lv (vI n :: st) h := go_st fun hx hb _ _ _ k => lv_bipush hx hb hd (Int8.toInt32_ofInt h1 h2) k
theorem go_sipush {n : Int} (hd : decode (am_bytes mid) pc = .ok (.sipush n, 3)) (h1 : -32768 ≤ n) (h2 : n ≤ 32767) : Go d N S L xs mid pc lv st h (pc + 3) lv (vI n :: st) h := go_st fun hx hb _ _ _ k => lv_sipush hx hb hd (Int16.toInt32_ofInt h1 h2) k
theorem go_lconst {n : Fin 2} (hd : decode (am_bytes mid) pc = .ok (.lconst n, 1)) : Go d N S L xs mid pc lv st h (pc + 1) lv (vL (Int64.ofNat n) :: st) h := go_st fun hx hb _ _ _ k => lv_lconst hx hb hd rfl k
theorem go_ldc {i : Nat} {v : Int32} {n : Int} (hd : decode (am_bytes mid) pc = .ok (.ldc i, 2)) (hw : Jvm.Cond.constant (am_own mid) i v ∈ am_TS) (hn : v = Int32.ofInt n) : Go d N S L xs mid pc lv st h (pc + 2) lv (vI n :: st) h := go_st fun hx hb _ ho hts k => lv_ldc hx hb ho (hts _ hw) hd (by rw [hn]; exact k)
theorem go_ldc2 {i : Nat} {v : Int64} (hd : decode (am_bytes mid) pc = .ok (.ldc2_w i, 3)) (hw : Jvm.Cond.constantLong (am_own mid) i v ∈ am_TS) : Go d N S L xs mid pc lv st h (pc + 3) lv (vL v :: st) h := go_st fun hx hb _ ho hts k => lv_ldc2 hx hb ho (hts _ hw) hd k
theorem go_iload {i : Nat} {x : Int} (hd : decode (am_bytes mid) pc = .ok (.iload i, 2)) (hi : lv[i]? = some (some (vI x))) : Go d N S L xs mid pc lv st h (pc + 2) lv (vI x :: st) h := go_st fun hx hb hl _ _ k => lv_iload hx hb hd (hl.2.2 i _ hi) k
theorem go_iload_n {i : Fin 4} {x : Int} (hd : decode (am_bytes mid) pc = .ok (.iload_n i, 1)) (hi : lv[i.val]? = some (some (vI x))) : Go d N S L xs mid pc lv st h (pc + 1) lv (vI x :: st) h := go_st fun hx hb hl _ _ k => lv_iload_n hx hb hd rfl (hl.2.2 _ _ hi) k
theorem go_lload {i : Nat} {x : Int64} (hd : decode (am_bytes mid) pc = .ok (.lload i, 2)) (hi : lv[i]? = some (some (vL x))) : Go d N S L xs mid pc lv st h (pc + 2) lv (vL x :: st) h := go_st fun hx hb hl _ _ k => lv_lload hx hb hd (hl.2.2 i _ hi) k
theorem go_lload_n {i : Fin 4} {x : Int64} (hd : decode (am_bytes mid) pc = .ok (.lload_n i, 1)) (hi : lv[i.val]? = some (some (vL x))) : Go d N S L xs mid pc lv st h (pc + 1) lv (vL x :: st) h := go_st fun hx hb hl _ _ k => lv_lload_n hx hb hd rfl (hl.2.2 _ _ hi) k
theorem am_c_ref (b z r : Nat) : ∃ a, am_c b z (vR r) = .ref a := match r with
  | 0 => ⟨b, rfl⟩
  | r + 1 => ⟨z + r, rfl⟩
theorem go_aload {i r : Nat} (hd : decode (am_bytes mid) pc = .ok (.aload i, 2)) (hi : lv[i]? = some (some (vR r))) : Go d N S L xs mid pc lv st h (pc + 2) lv (vR r :: st) h := go_st fun {p l e R s m args below meth c H locs cells slots Q ls b z} hx hb hl _ _ k => by
  obtain ⟨a, ha⟩ := am_c_ref b z r
  exact lv_aload (x := a) hx hb hd (by rw [hl.2.2 i _ hi, ha]) (by rw [List.map_cons, ha] at k; exact k)
theorem go_aload_n {i : Fin 4} {r : Nat} (hd : decode (am_bytes mid) pc = .ok (.aload_n i, 1)) (hi : lv[i.val]? = some (some (vR r))) : Go d N S L xs mid pc lv st h (pc + 1) lv (vR r :: st) h := go_st fun {p l e R s m args below meth c H locs cells slots Q ls b z} hx hb hl _ _ k => by
  obtain ⟨a, ha⟩ := am_c_ref b z r
  exact lv_aload_n (x := a) hx hb hd rfl (by rw [hl.2.2 _ _ hi, ha]) (by rw [List.map_cons, ha] at k; exact k)
/-- an instruction that changes a local, and the stack -/
theorem go_lv {pc' : Nat} {lv' : am_L} {st' : List am_V} (hw : ∀ {p : Program} {l : Launch} {e : Env} {R : Room} {s : State} {m : MethodId} {args : Array Value} {below : List Frame} {meth : Method} {c : Code} {H : Heap} {locs : List Loc} {cells slots : Nat} {Q : State → Prop} {ls : Array Slot} {b z : Nat}, p.tables.exec = Jvm.exec → c.code = am_bytes mid → am_lv b z ls lv →
      (∀ ls' : Array Slot, am_lv b z ls' lv' → W p l e R s m args below meth c H locs cells slots Q (F0 m pc' ls' (st'.map (am_c b z)))) → W p l e R s m args below meth c H locs cells slots Q (F0 m pc ls (st.map (am_c b z)))) : Go d N S L xs mid pc lv st h pc' lv' st' h := by
  intro p l e R s m args below meth c Q b z n0 s0 tA D X kk H locs ls cells slots hl hP hS hc hs
  obtain ⟨hx, hb, -⟩ := X
  exact hw hx hb hl (fun ls' hl' => kk H locs ls' cells slots hl' hP hS hc hs)
theorem go_istore {i : Nat} {x : Int} (hd : decode (am_bytes mid) pc = .ok (.istore i, 2)) (hi : i < lv.length) : Go d N S L xs mid pc lv (vI x :: st) h (pc + 2) (am_st1 lv i (vI x)) st h := go_lv fun hx hb hl k => lv_istore hx hb hd hl.has hi rfl fun ls' h' => k ls' (am_lv.st1 hi h')
theorem go_istore_n {i : Fin 4} {x : Int} (hd : decode (am_bytes mid) pc = .ok (.istore_n i, 1)) (hi : i.val < lv.length) : Go d N S L xs mid pc lv (vI x :: st) h (pc + 1) (am_st1 lv i.val (vI x)) st h := go_lv fun hx hb hl k => lv_istore_n hx hb hd rfl hl.has hi rfl fun ls' h' => k ls' (am_lv.st1 hi h')
theorem go_lstore {i : Nat} {x : Int64} (hd : decode (am_bytes mid) pc = .ok (.lstore i, 2)) (hi : i + 1 < lv.length) : Go d N S L xs mid pc lv (vL x :: st) h (pc + 2) (am_st2 lv i (vL x)) st h := go_lv fun hx hb hl k => lv_lstore hx hb hd hl.has hi rfl fun ls' h' => k ls' (am_lv.st2 hi h')
theorem go_lstore_n {i : Fin 4} {x : Int64} (hd : decode (am_bytes mid) pc = .ok (.lstore_n i, 1)) (hi : i.val + 1 < lv.length) : Go d N S L xs mid pc lv (vL x :: st) h (pc + 1) (am_st2 lv i.val (vL x)) st h := go_lv fun hx hb hl k => lv_lstore_n hx hb hd rfl hl.has hi rfl fun ls' h' => k ls' (am_lv.st2 hi h')
theorem go_astore {i r : Nat} (hd : decode (am_bytes mid) pc = .ok (.astore i, 2)) (hi : i < lv.length) : Go d N S L xs mid pc lv (vR r :: st) h (pc + 2) (am_st1 lv i (vR r)) st h := go_lv fun {p l e R s m args below meth c H locs cells slots Q ls b z} hx hb hl k => by
  obtain ⟨a, ha⟩ := am_c_ref b z r
  rw [List.map_cons, ha]
  exact lv_astore (x := a) hx hb hd hl.has hi rfl fun ls' h' => k ls' (am_lv.st1 hi (by rw [ha]; exact h'))
theorem go_astore_n {i : Fin 4} {r : Nat} (hd : decode (am_bytes mid) pc = .ok (.astore_n i, 1)) (hi : i.val < lv.length) : Go d N S L xs mid pc lv (vR r :: st) h (pc + 1) (am_st1 lv i.val (vR r)) st h := go_lv fun {p l e R s m args below meth c H locs cells slots Q ls b z} hx hb hl k => by
  obtain ⟨a, ha⟩ := am_c_ref b z r
  rw [List.map_cons, ha]
  exact lv_astore_n (x := a) hx hb hd rfl hl.has hi rfl fun ls' h' => k ls' (am_lv.st1 hi (by rw [ha]; exact h'))
theorem go_iinc {i : Nat} {n x : Int} (hd : decode (am_bytes mid) pc = .ok (.iinc i n, 3)) (hi : lv[i]? = some (some (vI x))) : Go d N S L xs mid pc lv st h (pc + 3) (am_st1 lv i (vI (x + n))) st h := go_lv fun {p l e R s m args below meth c H locs cells slots Q ls b z} hx hb hl k => by
  have hil : i < lv.length := (List.getElem?_eq_some_iff.mp hi).1
  obtain ⟨j, hj⟩ := List.getElem?_of_mem (am_lp_mem (b := b) (z := z) (q := (i, am_c b z (vI x))) |>.mpr ⟨vI x, hi, rfl⟩)
  exact lv_iinc (k := j) (x := Int32.ofInt x) hx hb hd hl.has hj (Int32.ofInt_add x n).symm hil rfl fun ls' h' => k ls' (am_lv.st1 hil h')
theorem go_iadd {x y : Int} (hd : decode (am_bytes mid) pc = .ok (.iadd, 1)) : Go d N S L xs mid pc lv (vI y :: vI x :: st) h (pc + 1) lv (vI (x + y) :: st) h := go_st fun hx hb _ _ _ k => lv_iadd hx hb hd (by rw [← Int32.ofInt_add]; exact k)
theorem go_isub {x y : Int} (hd : decode (am_bytes mid) pc = .ok (.isub, 1)) : Go d N S L xs mid pc lv (vI y :: vI x :: st) h (pc + 1) lv (vI (x - y) :: st) h := go_st fun hx hb _ _ _ k => lv_isub hx hb hd (by rw [← Int32.ofInt_sub]; exact k)
theorem go_imul {x y : Int} (hd : decode (am_bytes mid) pc = .ok (.imul, 1)) : Go d N S L xs mid pc lv (vI y :: vI x :: st) h (pc + 1) lv (vI (x * y) :: st) h := go_st fun hx hb _ _ _ k => lv_imul hx hb hd (by rw [← Int32.ofInt_mul]; exact k)
theorem am_ne0 {y : Int} (h1 : 0 < y) (h2 : y < 2147483648) : ¬ Int32.ofInt y = 0 := by
  rw [am_0, am_eqI ⟨by omega, h2⟩ am_in_0]; omega
theorem go_idiv {x y : Int} (hd : decode (am_bytes mid) pc = .ok (.idiv, 1)) (q : 0 ≤ x ∧ x < 2147483648 ∧ 0 < y ∧ y < 2147483648) : Go d N S L xs mid pc lv (vI y :: vI x :: st) h (pc + 1) lv (vI (x / y) :: st) h := go_st fun hx hb _ _ _ k => lv_idiv hx hb hd (am_ne0 q.2.2.1 q.2.2.2) (by rw [am_div q.1 q.2.1 q.2.2.1 q.2.2.2]; exact k)
theorem go_irem {x y : Int} (hd : decode (am_bytes mid) pc = .ok (.irem, 1)) (q : 0 ≤ x ∧ x < 2147483648 ∧ 0 < y ∧ y < 2147483648) : Go d N S L xs mid pc lv (vI y :: vI x :: st) h (pc + 1) lv (vI (x % y) :: st) h := go_st fun hx hb _ _ _ k => lv_irem hx hb hd (am_ne0 q.2.2.1 q.2.2.2) (by rw [am_rem q.1 q.2.1 q.2.2.1 q.2.2.2]; exact k)
theorem go_ineg {x : Int} (hd : decode (am_bytes mid) pc = .ok (.ineg, 1)) : Go d N S L xs mid pc lv (vI x :: st) h (pc + 1) lv (vI (-x) :: st) h := go_st fun hx hb _ _ _ k => lv_ineg hx hb hd (by rw [← Int32.ofInt_neg]; exact k)
theorem go_iand {x y : Int} (hd : decode (am_bytes mid) pc = .ok (.iand, 1)) : Go d N S L xs mid pc lv (vI y :: vI x :: st) h (pc + 1) lv (vI (am_and x y) :: st) h := go_st fun hx hb _ _ _ k => lv_iand hx hb hd (by rw [← Int32.ofInt_toInt (Int32.ofInt _ &&& Int32.ofInt _)]; exact k)
theorem go_ladd {x y : Int64} (hd : decode (am_bytes mid) pc = .ok (.ladd, 1)) : Go d N S L xs mid pc lv (vL y :: vL x :: st) h (pc + 1) lv (vL (x + y) :: st) h := go_st fun hx hb _ _ _ k => lv_ladd hx hb hd k
theorem go_lsub {x y : Int64} (hd : decode (am_bytes mid) pc = .ok (.lsub, 1)) : Go d N S L xs mid pc lv (vL y :: vL x :: st) h (pc + 1) lv (vL (x - y) :: st) h := go_st fun hx hb _ _ _ k => lv_lsub hx hb hd k
theorem go_lmul {x y : Int64} (hd : decode (am_bytes mid) pc = .ok (.lmul, 1)) : Go d N S L xs mid pc lv (vL y :: vL x :: st) h (pc + 1) lv (vL (x * y) :: st) h := go_st fun hx hb _ _ _ k => lv_lmul hx hb hd k
theorem go_land {x y : Int64} (hd : decode (am_bytes mid) pc = .ok (.land, 1)) : Go d N S L xs mid pc lv (vL y :: vL x :: st) h (pc + 1) lv (vL (x &&& y) :: st) h := go_st fun hx hb _ _ _ k => lv_land hx hb hd k
theorem go_lor {x y : Int64} (hd : decode (am_bytes mid) pc = .ok (.lor, 1)) : Go d N S L xs mid pc lv (vL y :: vL x :: st) h (pc + 1) lv (vL (x ||| y) :: st) h := go_st fun hx hb _ _ _ k => lv_lor hx hb hd k
theorem go_lxor {x y : Int64} (hd : decode (am_bytes mid) pc = .ok (.lxor, 1)) : Go d N S L xs mid pc lv (vL y :: vL x :: st) h (pc + 1) lv (vL (x ^^^ y) :: st) h := go_st fun hx hb _ _ _ k => lv_lxor hx hb hd k
theorem go_lshl {x : Int64} {y : Int} (hd : decode (am_bytes mid) pc = .ok (.lshl, 1)) : Go d N S L xs mid pc lv (vI y :: vL x :: st) h (pc + 1) lv (vL (am_shl x y) :: st) h := go_st fun hx hb _ _ _ k => lv_lshl hx hb hd rfl k
theorem go_lshr {x : Int64} {y : Int} (hd : decode (am_bytes mid) pc = .ok (.lshr, 1)) : Go d N S L xs mid pc lv (vI y :: vL x :: st) h (pc + 1) lv (vL (am_shr x y) :: st) h := go_st fun hx hb _ _ _ k => lv_lshr hx hb hd rfl k
theorem go_lushr {x : Int64} {y : Int} (hd : decode (am_bytes mid) pc = .ok (.lushr, 1)) : Go d N S L xs mid pc lv (vI y :: vL x :: st) h (pc + 1) lv (vL (am_ushr x y) :: st) h := go_st fun hx hb _ _ _ k => lv_lushr hx hb hd rfl k
theorem go_i2l {x : Int} (hd : decode (am_bytes mid) pc = .ok (.i2l, 1)) : Go d N S L xs mid pc lv (vI x :: st) h (pc + 1) lv (vL (am_i2l x) :: st) h := go_st fun hx hb _ _ _ k => lv_i2l hx hb hd rfl k
theorem go_l2i {x : Int64} (hd : decode (am_bytes mid) pc = .ok (.l2i, 1)) : Go d N S L xs mid pc lv (vL x :: st) h (pc + 1) lv (vI (am_l2i x) :: st) h := go_st fun hx hb _ _ _ k => lv_l2i hx hb hd (Int32.ofInt_toInt _).symm k
theorem go_i2b {x : Int} (hd : decode (am_bytes mid) pc = .ok (.i2b, 1)) : Go d N S L xs mid pc lv (vI x :: st) h (pc + 1) lv (vI (am_i2b x) :: st) h := go_st fun hx hb _ _ _ k => lv_i2b hx hb hd (Int32.ofInt_toInt _).symm k
theorem go_lcmp {x y : Int64} (hd : decode (am_bytes mid) pc = .ok (.lcmp, 1)) : Go d N S L xs mid pc lv (vL y :: vL x :: st) h (pc + 1) lv (vI (am_cmp x y) :: st) h := go_st fun hx hb _ _ _ k => W.lcmp hx hb hd (by rw [am_cmp_c]; exact k)
theorem go_dup {v : am_V} (hd : decode (am_bytes mid) pc = .ok (.dup, 1)) (hv : am_cat v = 1) : Go d N S L xs mid pc lv (v :: st) h (pc + 1) lv (v :: v :: st) h := go_st fun hx hb _ _ _ k => lv_dup hx hb hd (by rw [am_c_cat]; exact hv) k
theorem go_pop {v : am_V} (hd : decode (am_bytes mid) pc = .ok (.pop, 1)) (hv : am_cat v = 1) : Go d N S L xs mid pc lv (v :: st) h (pc + 1) lv st h := go_st fun hx hb _ _ _ k => lv_pop hx hb hd (by rw [am_c_cat]; exact hv) k
theorem go_dup_x1 {v w : am_V} (hd : decode (am_bytes mid) pc = .ok (.dup_x1, 1)) (hv : am_cat v = 1) (hw : am_cat w = 1) : Go d N S L xs mid pc lv (v :: w :: st) h (pc + 1) lv (v :: w :: v :: st) h := go_st fun hx hb _ _ _ k => lv_dup_x1 hx hb hd (by rw [am_c_cat]; exact hv) (by rw [am_c_cat]; exact hw) k
theorem go_dup_x2 {v w u : am_V} (hd : decode (am_bytes mid) pc = .ok (.dup_x2, 1)) (hv : am_cat v = 1) (hw : am_cat w = 1) (hu : am_cat u = 1) : Go d N S L xs mid pc lv (v :: w :: u :: st) h (pc + 1) lv (v :: w :: u :: v :: st) h := go_st fun hx hb _ _ _ k => lv_dup_x2 hx hb hd (by rw [am_c_cat]; exact hv) (by rw [am_c_cat]; exact hw) (by rw [am_c_cat]; exact hu) k
theorem go_dup2_11 {v w : am_V} (hd : decode (am_bytes mid) pc = .ok (.dup2, 1)) (hv : am_cat v = 1) (hw : am_cat w = 1) : Go d N S L xs mid pc lv (v :: w :: st) h (pc + 1) lv (v :: w :: v :: w :: st) h := go_st fun hx hb _ _ _ k => lv_dup2_11 hx hb hd (by rw [am_c_cat]; exact hv) (by rw [am_c_cat]; exact hw) k
theorem go_dup2_2 {x : Int64} (hd : decode (am_bytes mid) pc = .ok (.dup2, 1)) : Go d N S L xs mid pc lv (vL x :: st) h (pc + 1) lv (vL x :: vL x :: st) h := go_st fun hx hb _ _ _ k => lv_dup2_2 hx hb hd rfl k
theorem go_goto {off : Int} {tgt : Nat} (hd : decode (am_bytes mid) pc = .ok (.goto off, 3)) (ht : (pc : Int) + off = (tgt : Int)) : Go d N S L xs mid pc lv st h tgt lv st h := go_st fun hx hb _ _ _ k => lv_goto hx hb hd ht k
/-! branches -/
def am_cond (c : Jvm.ClassFile.Cond) (x y : Int) : Prop := match c with
  | .eq => x = y
  | .ne => ¬ x = y
  | .lt => x < y
  | .ge => y ≤ x
  | .gt => y < x
  | .le => x ≤ y
theorem go_if {c : Jvm.ClassFile.Cond} {x off : Int} {tgt pc' : Nat} (hd : decode (am_bytes mid) pc = .ok (.ifCond c off, 3)) (ht : (pc : Int) + off = (tgt : Int)) (hx : am_in x) (hc : (am_cond c x 0 ∧ pc' = tgt) ∨ (¬ am_cond c x 0 ∧ pc' = pc + 3)) : Go d N S L xs mid pc lv (vI x :: st) h pc' lv st h := by
  have e := am_eqI hx am_in_0
  have e1 := am_ltI hx am_in_0
  have e2 := am_leI am_in_0 hx
  have e3 := am_ltI am_in_0 hx
  have e4 := am_leI hx am_in_0
  rw [← am_0] at e e1 e2 e3 e4
  refine go_st fun hx hb _ _ _ k => ?_
  cases c
  · refine lv_if_eq hx hb hd ht (fun q => ?_) (fun q => ?_)
    · rcases hc with ⟨-, rfl⟩ | ⟨h1, rfl⟩
      · exact k
      · exact absurd (e.mp q) h1
    · rcases hc with ⟨h1, rfl⟩ | ⟨-, rfl⟩
      · exact absurd (e.mpr h1) q
      · exact k
  · refine lv_if_ne hx hb hd ht (fun q => ?_) (fun q => ?_)
    · rcases hc with ⟨-, rfl⟩ | ⟨h1, rfl⟩
      · exact k
      · exact absurd (fun y => q (e.mpr y)) h1
    · rcases hc with ⟨h1, rfl⟩ | ⟨-, rfl⟩
      · exact absurd (e.mp q) h1
      · exact k
  · refine lv_if_lt hx hb hd ht (fun q => ?_) (fun q => ?_)
    · rcases hc with ⟨-, rfl⟩ | ⟨h1, rfl⟩
      · exact k
      · exact absurd (e1.mp q) h1
    · rcases hc with ⟨h1, rfl⟩ | ⟨-, rfl⟩
      · exact absurd (e1.mpr h1) q
      · exact k
  · refine lv_if_ge hx hb hd ht (fun q => ?_) (fun q => ?_)
    · rcases hc with ⟨-, rfl⟩ | ⟨h1, rfl⟩
      · exact k
      · exact absurd (e2.mp q) h1
    · rcases hc with ⟨h1, rfl⟩ | ⟨-, rfl⟩
      · exact absurd (e2.mpr h1) q
      · exact k
  · refine lv_if_gt hx hb hd ht (fun q => ?_) (fun q => ?_)
    · rcases hc with ⟨-, rfl⟩ | ⟨h1, rfl⟩
      · exact k
      · exact absurd (e3.mp q) h1
    · rcases hc with ⟨h1, rfl⟩ | ⟨-, rfl⟩
      · exact absurd (e3.mpr h1) q
      · exact k
  · refine lv_if_le hx hb hd ht (fun q => ?_) (fun q => ?_)
    · rcases hc with ⟨-, rfl⟩ | ⟨h1, rfl⟩
      · exact k
      · exact absurd (e4.mp q) h1
    · rcases hc with ⟨h1, rfl⟩ | ⟨-, rfl⟩
      · exact absurd (e4.mpr h1) q
      · exact k
theorem go_icmp {c : Jvm.ClassFile.Cond} {x y off : Int} {tgt pc' : Nat} (hd : decode (am_bytes mid) pc = .ok (.if_icmp c off, 3)) (ht : (pc : Int) + off = (tgt : Int)) (hx : am_in x) (hy : am_in y) (hc : (am_cond c x y ∧ pc' = tgt) ∨ (¬ am_cond c x y ∧ pc' = pc + 3)) : Go d N S L xs mid pc lv (vI y :: vI x :: st) h pc' lv st h := by
  have e := am_eqI hx hy
  have e1 := am_ltI hx hy
  have e2 := am_leI hy hx
  have e3 := am_ltI hy hx
  have e4 := am_leI hx hy
  refine go_st fun hx hb _ _ _ k => ?_
  cases c
  · refine lv_icmp_eq hx hb hd ht (fun q => ?_) (fun q => ?_)
    · rcases hc with ⟨-, rfl⟩ | ⟨h1, rfl⟩
      · exact k
      · exact absurd (e.mp q) h1
    · rcases hc with ⟨h1, rfl⟩ | ⟨-, rfl⟩
      · exact absurd (e.mpr h1) q
      · exact k
  · refine lv_icmp_ne hx hb hd ht (fun q => ?_) (fun q => ?_)
    · rcases hc with ⟨-, rfl⟩ | ⟨h1, rfl⟩
      · exact k
      · exact absurd (fun y => q (e.mpr y)) h1
    · rcases hc with ⟨h1, rfl⟩ | ⟨-, rfl⟩
      · exact absurd (e.mp q) h1
      · exact k
  · refine lv_icmp_lt hx hb hd ht (fun q => ?_) (fun q => ?_)
    · rcases hc with ⟨-, rfl⟩ | ⟨h1, rfl⟩
      · exact k
      · exact absurd (e1.mp q) h1
    · rcases hc with ⟨h1, rfl⟩ | ⟨-, rfl⟩
      · exact absurd (e1.mpr h1) q
      · exact k
  · refine lv_icmp_ge hx hb hd ht (fun q => ?_) (fun q => ?_)
    · rcases hc with ⟨-, rfl⟩ | ⟨h1, rfl⟩
      · exact k
      · exact absurd (e2.mp q) h1
    · rcases hc with ⟨h1, rfl⟩ | ⟨-, rfl⟩
      · exact absurd (e2.mpr h1) q
      · exact k
  · refine lv_icmp_gt hx hb hd ht (fun q => ?_) (fun q => ?_)
    · rcases hc with ⟨-, rfl⟩ | ⟨h1, rfl⟩
      · exact k
      · exact absurd (e3.mp q) h1
    · rcases hc with ⟨h1, rfl⟩ | ⟨-, rfl⟩
      · exact absurd (e3.mpr h1) q
      · exact k
  · refine lv_icmp_le hx hb hd ht (fun q => ?_) (fun q => ?_)
    · rcases hc with ⟨-, rfl⟩ | ⟨h1, rfl⟩
      · exact k
      · exact absurd (e4.mp q) h1
    · rcases hc with ⟨h1, rfl⟩ | ⟨-, rfl⟩
      · exact absurd (e4.mpr h1) q
      · exact k
theorem go_tabIn {dflt lo hi x off : Int} {offs : Array Int} {len tgt : Nat} (hd : decode (am_bytes mid) pc = .ok (.tableswitch dflt lo hi offs, len)) (hx : am_in x) (h1 : lo ≤ x) (h2 : x ≤ hi) (ho : offs[(x - lo).toNat]? = some off) (ht : (pc : Int) + off = (tgt : Int)) : Go d N S L xs mid pc lv (vI x :: st) h tgt lv st h :=
  go_st fun h0 hb _ _ _ k => lv_tableIn (x := Int32.ofInt x) h0 hb hd (by rw [am_in_toInt hx]; omega) (by rw [am_in_toInt hx]; omega) (by rw [am_in_toInt hx]; exact ho) ht k
theorem go_tabOut {dflt lo hi x : Int} {offs : Array Int} {len tgt : Nat} (hd : decode (am_bytes mid) pc = .ok (.tableswitch dflt lo hi offs, len)) (hx : am_in x) (h1 : x < lo ∨ hi < x) (ht : (pc : Int) + dflt = (tgt : Int)) : Go d N S L xs mid pc lv (vI x :: st) h tgt lv st h :=
  go_st fun h0 hb _ _ _ k => lv_tableOut (x := Int32.ofInt x) h0 hb hd (by rw [am_in_toInt hx]; exact h1) ht k
theorem go_look {dflt x off : Int} {ps : Array (Int × Int)} {len tgt : Nat} (hd : decode (am_bytes mid) pc = .ok (.lookupswitch dflt ps, len)) (hx : am_in x) (hp : (ps.toList.zip (ps.toList.drop 1)).all (fun (a, next) => a.1 < next.1) = true) (ho : Op.lookupswitch.offset ps.toList dflt x = off) (ht : (pc : Int) + off = (tgt : Int)) : Go d N S L xs mid pc lv (vI x :: st) h tgt lv st h :=
  go_st fun h0 hb _ _ _ k => lv_lookup (x := Int32.ofInt x) h0 hb hd hp (by rw [am_in_toInt hx]; exact ho) ht k
end GO
end
section
/-! fields, arrays, new cells -/
def am_fw (own : String) (idx : Nat) (C : String) (T : u_T) (k : Nat) : Prop := (T k).1 = C ∧ Jvm.Cond.fieldLink own idx C (T k).2.1 (T k).2.2.1 ∈ am_TS
section GH
variable {d N S L : Nat} {xs : Nat → Int} {mid : am_M} {pc : Nat} {lv : am_L} {st : List am_V} {h : am_H}
theorem go_get {idx ci k r nF : Nat} {C : String} {T : u_T} {fs : List am_V} {v : am_V} (hd : decode (am_bytes mid) pc = .ok (.getfield idx, 3)) (hc : am_cl[ci]? = some (C, T, nF)) (hk : k < nF) (hw : am_fw (am_own mid) idx C T k) (hr : h[r]? = some (.inr (ci, fs))) (hv : fs[k]? = some v) : Go d N S L xs mid pc lv (vR (r + 1) :: st) h (pc + 3) lv (v :: st) h := by
  intro p l e R s m args below meth c Q b z n0 s0 tA D X kk H locs ls cells slots hl hP hS hc1 hs
  obtain ⟨hx, hb, hml, hown, hts, hK, -⟩ := X
  have hv' : (fs.map (am_c b z))[k]? = some (am_c b z v) := by rw [List.getElem?_map, hv]; rfl
  obtain ⟨hT, hw⟩ := hw
  exact va_get (v := am_c b z v) hx hb hts (am_cl_ws hc) hown hK hP r (am_cw_at hr) hc k hk (hts _ hw) (fun x hx => by rw [hT] at hx; exact hx) hv' hd (kk H locs ls cells slots hl hP hS hc1 hs)
def am_fit (ty : FieldType) (v : am_V) : Prop := match ty, v with
  | .int, .inl _ => True
  | .boolean, .inl z => z = 0 ∨ z = 1
  | .long, .inr (.inl _) => True
  | .object _, .inr (.inr _) => True
  | .array _, .inr (.inr _) => True
  | _, _ => False
theorem am_fit_ok {b z : Nat} {ty : FieldType} {v : am_V} (h : am_fit ty v) : narrow ty (am_c b z v) = am_c b z v ∧ fits ty (am_c b z v) = true := by
  match ty, v, h with
  | .int, .inl _, _ => exact ⟨rfl, rfl⟩
  | .boolean, .inl z, h =>
    rcases h with rfl | rfl
    · exact ⟨show narrow FieldType.boolean (Value.int (Int32.ofInt 0)) = Value.int (Int32.ofInt 0) by decide, show fits FieldType.boolean (Value.int (Int32.ofInt 0)) = true by decide⟩
    · exact ⟨show narrow FieldType.boolean (Value.int (Int32.ofInt 1)) = Value.int (Int32.ofInt 1) by decide, show fits FieldType.boolean (Value.int (Int32.ofInt 1)) = true by decide⟩
  | .long, .inr (.inl _), _ => exact ⟨rfl, rfl⟩
  | .object _, .inr (.inr none), _ => exact ⟨rfl, rfl⟩
  | .object _, .inr (.inr (some 0)), _ => exact ⟨rfl, rfl⟩
  | .object _, .inr (.inr (some (_ + 1))), _ => exact ⟨rfl, rfl⟩
  | .array _, .inr (.inr none), _ => exact ⟨rfl, rfl⟩
  | .array _, .inr (.inr (some 0)), _ => exact ⟨rfl, rfl⟩
  | .array _, .inr (.inr (some (_ + 1))), _ => exact ⟨rfl, rfl⟩
theorem am_setO (b z : Nat) (tA : FieldType → ClassId) (h : am_H) (r ci k : Nat) (fs : List am_V) (v : am_V) : (am_cw b z tA 0 h).set r (z + r, .inr (ci, (fs.map (am_c b z)).set k (am_c b z v))) = am_cw b z tA 0 (h.set r (.inr (ci, fs.set k v))) := by
  have e := am_cw_set0 b z tA (.inr (ci, fs.set k v)) h r
  rw [← e]
  show _ = (am_cw b z tA 0 h).set r (z + r, .inr (ci, (fs.set k v).map (am_c b z)))
  rw [List.map_set]
theorem go_put {idx ci k r nF : Nat} {C : String} {T : u_T} {fs : List am_V} {v : am_V} (hd : decode (am_bytes mid) pc = .ok (.putfield idx, 3)) (hc : am_cl[ci]? = some (C, T, nF)) (hk : k < nF) (hw : am_fw (am_own mid) idx C T k) (hfin : (T k).2.2.2 = true → am_init mid = true ∧ C = am_own mid) (hr : h[r]? = some (.inr (ci, fs))) (hl0 : k < fs.length) (hf : am_fit (am_fty ci k) v) : Go d N S L xs mid pc lv (v :: vR (r + 1) :: st) h (pc + 3) lv st (h.set r (.inr (ci, fs.set k v))) := by
  intro p l e R s m args below meth c Q b z n0 s0 tA D X kk H locs ls cells slots hl hP hS hc1 hs
  obtain ⟨hx, hb, hml, hown, hts, hK, hz, hini, -⟩ := X
  have hl1 : k < (fs.map (am_c b z)).length := by rw [List.length_map]; exact hl0
  have hlen : (h.set r (.inr (ci, fs.set k v))).length = n0 + cells ∧ (h.set r (.inr (ci, fs.set k v))).length ≤ N := by rw [List.length_set]; exact hc1
  have hsl := am_sl_set3 h r (.inr (ci, fs.set k v)) _ hr (by simp [am_sz]) hs
  obtain ⟨hn, hf2⟩ := am_fit_ok (b := b) (z := z) hf
  obtain ⟨hT, hw⟩ := hw
  by_cases hF : (T k).2.2.2 = true
  · obtain ⟨h1, h2⟩ := hfin hF
    exact va_putF (v := am_c b z v) (ty := am_fty ci k) hx hb hts (am_cl_ws hc) (am_fty ci) (am_cl_ty hc) (am_cl_nm hc) hown hK hP (am_cw_D b z tA h) hS r (am_cw_at hr) hc k hk (hts _ hw) (fun x hx => by rw [hT] at hx; exact hx) hF (hini h1) (by rw [hT]; exact h2) (am_cl_ty hc k hk) hn hf2 hl1 hd
      (fun H1 locs1 hP1 _ hS1 => kk H1 locs1 ls cells slots hl (by rw [← am_setO]; exact hP1) hS1 hlen hsl)
  · have hF : (T k).2.2.2 = false := by simpa using hF
    exact va_put (v := am_c b z v) (ty := am_fty ci k) hx hb hts (am_cl_ws hc) (am_fty ci) (am_cl_ty hc) (am_cl_nm hc) hown hK hP (am_cw_D b z tA h) hS r (am_cw_at hr) hc k hk (hts _ hw) (fun x hx => by rw [hT] at hx; exact hx) hF (am_cl_ty hc k hk) hn hf2 hl1 hd
      (fun H1 locs1 hP1 _ hS1 => kk H1 locs1 ls cells slots hl (by rw [← am_setO]; exact hP1) hS1 hlen hsl)
/-- a place in an array -/
def am_ix (i : Int) (n : Nat) : Prop := 0 ≤ i ∧ i < n ∧ (n : Int) < 2147483648
theorem go_iald {r n : Nat} {f : Nat → Int} {i : Int} (hd : decode (am_bytes mid) pc = .ok (.iaload, 1)) (hr : h[r]? = some (.inl (.int, n, .inl f))) (hi : am_ix i n) : Go d N S L xs mid pc lv (vI i :: vR (r + 1) :: st) h (pc + 1) lv (vI (f i.toNat) :: st) h := by
  intro p l e R s m args below meth c Q b z n0 s0 tA D X kk H locs ls cells slots hl hP hS hc1 hs
  obtain ⟨hx, hb, hml, hown, hts, hK, -⟩ := X
  refine va_iald hx hb hK hP r 0 (am_cw_at hr) rfl (am_vpin hi.1 hi.2.1 hi.2.2) hd ?_
  rw [am_clamp hi.1 (by have := hi.2.1; have := hi.2.2; omega)]
  exact kk H locs ls cells slots hl hP hS hc1 hs
theorem go_lald {r n : Nat} {f : Nat → Int64} {i : Int} (hd : decode (am_bytes mid) pc = .ok (.laload, 1)) (hr : h[r]? = some (.inl (.long, n, .inr f))) (hi : am_ix i n) : Go d N S L xs mid pc lv (vI i :: vR (r + 1) :: st) h (pc + 1) lv (vL (f i.toNat) :: st) h := by
  intro p l e R s m args below meth c Q b z n0 s0 tA D X kk H locs ls cells slots hl hP hS hc1 hs
  obtain ⟨hx, hb, hml, hown, hts, hK, -⟩ := X
  refine va_lald hx hb hK hP r 1 (am_cw_at hr) rfl (am_vpin hi.1 hi.2.1 hi.2.2) hd ?_
  rw [am_clamp hi.1 (by have := hi.2.1; have := hi.2.2; omega)]
  exact kk H locs ls cells slots hl hP hS hc1 hs
theorem go_bald {r n : Nat} {f : Nat → Int} {i : Int} (hd : decode (am_bytes mid) pc = .ok (.baload, 1)) (hr : h[r]? = some (.inl (.byte, n, .inl f))) (hi : am_ix i n) : Go d N S L xs mid pc lv (vI i :: vR (r + 1) :: st) h (pc + 1) lv (vI (f i.toNat) :: st) h := by
  intro p l e R s m args below meth c Q b z n0 s0 tA D X kk H locs ls cells slots hl hP hS hc1 hs
  obtain ⟨hx, hb, hml, hown, hts, hK, -⟩ := X
  refine va_bald hx hb hK hP r 2 (am_cw_at hr) rfl (am_vpin hi.1 hi.2.1 hi.2.2) hd ?_
  rw [am_clamp hi.1 (by have := hi.2.1; have := hi.2.2; omega)]
  exact kk H locs ls cells slots hl hP hS hc1 hs
theorem go_zald {r n : Nat} {f : Nat → Int} {i : Int} (hd : decode (am_bytes mid) pc = .ok (.baload, 1)) (hr : h[r]? = some (.inl (.boolean, n, .inl f))) (hi : am_ix i n) : Go d N S L xs mid pc lv (vI i :: vR (r + 1) :: st) h (pc + 1) lv (vI (f i.toNat) :: st) h := by
  intro p l e R s m args below meth c Q b z n0 s0 tA D X kk H locs ls cells slots hl hP hS hc1 hs
  obtain ⟨hx, hb, hml, hown, hts, hK, -⟩ := X
  refine va_zald hx hb hK hP r 3 (am_cw_at hr) rfl (am_vpin hi.1 hi.2.1 hi.2.2) hd ?_
  rw [am_clamp hi.1 (by have := hi.2.1; have := hi.2.2; omega)]
  exact kk H locs ls cells slots hl hP hS hc1 hs
theorem go_sald {i : Int} (hm : am_law mid = true) (hd : decode (am_bytes mid) pc = .ok (.iaload, 1)) (hi : am_ix i L) : Go d N S L xs mid pc lv (vI i :: vR 0 :: st) h (pc + 1) lv (vI (xs i.toNat) :: st) h := by
  intro p l e R s m args below meth c Q b z n0 s0 tA D X kk H locs ls cells slots hl hP hS hc1 hs
  obtain ⟨hx, hb, hml, hown, hts, hK, hz, hini, hf, hlo, hN, hSS, hscr⟩ := X
  obtain ⟨⟨ys, hX, hy⟩, hbz⟩ := hscr hm
  have hlt : i.toNat < L := by have := hi.1; have := hi.2.1; omega
  refine va_sld (A := fun q => z ≤ q) hx hb hX (by omega) (by omega) hS (am_vpin hi.1 hi.2.1 hi.2.2) hd ?_
  rw [am_clamp hi.1 (by have := hi.2.1; have := hi.2.2; omega), hy _ hlt]
  exact kk H locs ls cells slots hl hP hS hc1 hs
theorem am_setI (b z : Nat) (tA : FieldType → ClassId) (h : am_H) (r n k : Nat) (ty : FieldType) (f : Nat → Int) (x : Int) : (am_cw b z tA 0 h).set r (z + r, .inl (tA ty, n, .inl (upd (fun j => Int32.ofInt (f j)) k (Int32.ofInt x)))) = am_cw b z tA 0 (h.set r (.inl (ty, n, .inl (am_upd f k x)))) := by
  have e := am_cw_set0 b z tA (.inl (ty, n, .inl (am_upd f k x))) h r
  rw [← e]
  show _ = (am_cw b z tA 0 h).set r (z + r, .inl (tA ty, n, .inl (fun j => Int32.ofInt (am_upd f k x j))))
  rw [am_upd_i]
theorem go_iast {r n : Nat} {f : Nat → Int} {i x : Int} (hd : decode (am_bytes mid) pc = .ok (.iastore, 1)) (hr : h[r]? = some (.inl (.int, n, .inl f))) (hi : am_ix i n) : Go d N S L xs mid pc lv (vI x :: vI i :: vR (r + 1) :: st) h (pc + 1) lv st (h.set r (.inl (.int, n, .inl (am_upd f i.toNat x)))) := by
  intro p l e R s m args below meth c Q b z n0 s0 tA D X kk H locs ls cells slots hl hP hS hc1 hs
  obtain ⟨hx, hb, hml, hown, hts, hK, -⟩ := X
  refine va_iast hx hb hK hP (am_cw_D b z tA h) hS r 0 (am_cw_at hr) rfl (am_vpin hi.1 hi.2.1 hi.2.2) hd (fun H1 locs1 hP1 _ hS1 => ?_)
  rw [am_clamp hi.1 (by have := hi.2.1; have := hi.2.2; omega)] at hP1
  exact kk H1 locs1 ls cells slots hl (by rw [← am_setI]; exact hP1) hS1 (by rw [List.length_set]; exact hc1) (am_sl_set3 h r _ _ hr (by rfl) hs)
theorem go_last {r n : Nat} {f : Nat → Int64} {i : Int} {x : Int64} (hd : decode (am_bytes mid) pc = .ok (.lastore, 1)) (hr : h[r]? = some (.inl (.long, n, .inr f))) (hi : am_ix i n) : Go d N S L xs mid pc lv (vL x :: vI i :: vR (r + 1) :: st) h (pc + 1) lv st (h.set r (.inl (.long, n, .inr (am_upd f i.toNat x)))) := by
  intro p l e R s m args below meth c Q b z n0 s0 tA D X kk H locs ls cells slots hl hP hS hc1 hs
  obtain ⟨hx, hb, hml, hown, hts, hK, -⟩ := X
  refine va_last hx hb hK hP (am_cw_D b z tA h) hS r 1 (am_cw_at hr) rfl (am_vpin hi.1 hi.2.1 hi.2.2) hd (fun H1 locs1 hP1 _ hS1 => ?_)
  rw [am_clamp hi.1 (by have := hi.2.1; have := hi.2.2; omega)] at hP1
  exact kk H1 locs1 ls cells slots hl (by rw [← am_cw_set0]; exact hP1) hS1 (by rw [List.length_set]; exact hc1) (am_sl_set3 h r _ _ hr (by rfl) hs)
theorem am_nar_b {x : Int} (h1 : -128 ≤ x) (h2 : x ≤ 127) : vp_nar .byte (Int32.ofInt x) = Int32.ofInt x := by
  rw [vp_nar_byte, Int32.toInt8_ofInt, Int8.toInt32_ofInt h1 h2]
theorem am_nar_z {x : Int} (h : x = 0 ∨ x = 1) : vp_nar .boolean (Int32.ofInt x) = Int32.ofInt x := by
  rcases h with rfl | rfl <;> decide
theorem go_bast {r n : Nat} {f : Nat → Int} {i x : Int} (hd : decode (am_bytes mid) pc = .ok (.bastore, 1)) (hr : h[r]? = some (.inl (.byte, n, .inl f))) (hi : am_ix i n) (hx1 : -128 ≤ x ∧ x ≤ 127) : Go d N S L xs mid pc lv (vI x :: vI i :: vR (r + 1) :: st) h (pc + 1) lv st (h.set r (.inl (.byte, n, .inl (am_upd f i.toNat x)))) := by
  intro p l e R s m args below meth c Q b z n0 s0 tA D X kk H locs ls cells slots hl hP hS hc1 hs
  obtain ⟨hx, hb, hml, hown, hts, hK, -⟩ := X
  refine va_bast hx hb hK hP (am_cw_D b z tA h) hS r 2 (am_cw_at hr) rfl (am_vpin hi.1 hi.2.1 hi.2.2) hd (fun H1 locs1 hP1 _ hS1 => ?_)
  rw [am_clamp hi.1 (by have := hi.2.1; have := hi.2.2; omega), am_nar_b hx1.1 hx1.2] at hP1
  exact kk H1 locs1 ls cells slots hl (by rw [← am_setI]; exact hP1) hS1 (by rw [List.length_set]; exact hc1) (am_sl_set3 h r _ _ hr (by rfl) hs)
theorem go_zast {r n : Nat} {f : Nat → Int} {i x : Int} (hd : decode (am_bytes mid) pc = .ok (.bastore, 1)) (hr : h[r]? = some (.inl (.boolean, n, .inl f))) (hi : am_ix i n) (hx1 : x = 0 ∨ x = 1) : Go d N S L xs mid pc lv (vI x :: vI i :: vR (r + 1) :: st) h (pc + 1) lv st (h.set r (.inl (.boolean, n, .inl (am_upd f i.toNat x)))) := by
  intro p l e R s m args below meth c Q b z n0 s0 tA D X kk H locs ls cells slots hl hP hS hc1 hs
  obtain ⟨hx, hb, hml, hown, hts, hK, -⟩ := X
  refine va_zast hx hb hK hP (am_cw_D b z tA h) hS r 3 (am_cw_at hr) rfl (am_vpin hi.1 hi.2.1 hi.2.2) hd (fun H1 locs1 hP1 _ hS1 => ?_)
  rw [am_clamp hi.1 (by have := hi.2.1; have := hi.2.2; omega), am_nar_z hx1] at hP1
  exact kk H1 locs1 ls cells slots hl (by rw [← am_setI]; exact hP1) hS1 (by rw [List.length_set]; exact hc1) (am_sl_set3 h r _ _ hr (by rfl) hs)
def am_tyN (ty : FieldType) : Option Nat := match ty with
  | .int => some 0
  | .long => some 1
  | .byte => some 2
  | .boolean => some 3
  | _ => none
theorem am_tyN_ok {tA : FieldType → ClassId} {ty : FieldType} {t0 : Nat} (h : am_tyN ty = some t0) : (am_tys tA)[t0]? = some (tA ty, ty) := by
  cases ty <;> simp [am_tyN] at h <;> subst h <;> rfl
theorem go_alen {r n : Nat} {ty : FieldType} {F : am_F} {t0 : Nat} (hd : decode (am_bytes mid) pc = .ok (.arraylength, 1)) (ht : am_tyN ty = some t0) (hr : h[r]? = some (.inl (ty, n, F))) : Go d N S L xs mid pc lv (vR (r + 1) :: st) h (pc + 1) lv (vI n :: st) h := by
  intro p l e R s m args below meth c Q b z n0 s0 tA D X kk H locs ls cells slots hl hP hS hc1 hs
  obtain ⟨hx, hb, hml, hown, hts, hK, -⟩ := X
  rcases F with f | f
  · exact va_alen hx hb hK hP r t0 (am_cw_at hr) (am_tyN_ok ht) (v := Int32.ofInt n) (Int32.ofInt_eq_ofNat).symm hd (kk H locs ls cells slots hl hP hS hc1 hs)
  · exact va_alen hx hb hK hP r t0 (am_cw_at hr) (am_tyN_ok ht) (v := Int32.ofInt n) (Int32.ofInt_eq_ofNat).symm hd (kk H locs ls cells slots hl hP hS hc1 hs)
theorem go_slen (hm : am_law mid = true) (hd : decode (am_bytes mid) pc = .ok (.arraylength, 1)) : Go d N S L xs mid pc lv (vR 0 :: st) h (pc + 1) lv (vI L :: st) h := by
  intro p l e R s m args below meth c Q b z n0 s0 tA D X kk H locs ls cells slots hl hP hS hc1 hs
  obtain ⟨hx, hb, hml, hown, hts, hK, hz, hini, hf, hlo, hN, hSS, hscr⟩ := X
  obtain ⟨⟨ys, hX, hy⟩, hbz⟩ := hscr hm
  refine va_slen (A := fun q => z ≤ q) hx hb hX (by omega) (by omega) hS hd ?_
  rw [← Int32.ofInt_eq_ofNat]
  exact kk H locs ls cells slots hl hP hS hc1 hs
/-- the place of a new cell -/
theorem am_newq {b z : Nat} {tA : FieldType → ClassId} {D : va_G} {H1 : Heap} {q : Nat} {e : va_E} {h : am_H} (hP1 : va_P D am_cl (am_cw b z tA 0 h ++ [(q, e)]) H1) (hD1 : va_D (fun q => z ≤ q) (am_cw b z tA 0 h ++ [(q, e)])) (hsz : H1.size ≤ z + h.length + 1) : q = z + h.length := by
  have hlast : (am_cw b z tA 0 h ++ [(q, e)])[h.length]? = some (q, e) := by
    rw [List.getElem?_append_right (by rw [am_cw_len]; exact Nat.le_refl _), am_cw_len]; simp
  have h1 : q < H1.size := (hP1 _ _ hlast).lt
  have h2 : z ≤ q := hD1.2 _ _ hlast
  by_cases h3 : q = z + h.length
  · exact h3
  · exfalso
    have hi : q - z < h.length := by omega
    have hg : h[q - z]? = some h[q - z] := List.getElem?_eq_getElem hi
    have h4 : (am_cw b z tA 0 h ++ [(q, e)])[q - z]? = some (z + (q - z), am_ce b z tA h[q - z]) := by
      rw [List.getElem?_append_left (by rw [am_cw_len]; exact hi)]
      exact am_cw_at hg
    have h5 := hD1.1 _ _ _ _ h4 hlast (by show z + (q - z) = q; omega)
    omega
theorem go_new {idx ci nF : Nat} {C : String} {T : u_T} (hd : decode (am_bytes mid) pc = .ok (.new idx, 3)) (hc : am_cl[ci]? = some (C, T, nF)) (hw : Jvm.Cond.classLink (am_own mid) idx C ∈ am_TS) (hN : h.length + 1 ≤ N) (hS1 : am_sl h + nF ≤ S) : Go d N S L xs mid pc lv st h (pc + 3) lv (vR (h.length + 1) :: st) (h ++ [.inr (ci, am_dfl ci)]) := by
  intro p l e R s m args below meth c Q b z n0 s0 tA D X kk H locs ls cells slots hl hP hS hc1 hs
  obtain ⟨hx, hb, hml, hown, hts, hK, hz, hini, hf, hlo, hNN, hSS, hscr⟩ := X
  refine va_new hx hb hts (am_cl_ws hc) (am_fty ci) (am_cl_ty hc) hown (hts _ hw) (hts _ (am_cl_inst hc)) (hts _ (am_cl_ini hc)) hK hP (am_cw_D b z tA h) hS (fun q hq => by rw [hz] at hq; omega) hc (fs := (am_dfl ci).map (am_c b z)) (am_cl_dfl b z hc) (by omega) (by omega) hd (fun q H1 hP1 hD1 hS1 => ?_)
  refine am_size (fun hsz => ?_)
  have hq : q = z + h.length := am_newq hP1 hD1 (by omega)
  subst hq
  have e0 := am_cw_app b z tA (.inr (ci, am_dfl ci)) h 0
  rw [Nat.zero_add] at e0
  exact kk H1 locs ls (cells + 1) (slots + nF) hl (by rw [e0]; exact hP1) hS1 ⟨by simp; omega, by simp; omega⟩ (by rw [am_sl_app, show am_sz (.inr (ci, am_dfl ci)) = nF from am_cl_len hc]; omega)
def am_at (a : ArrayType) : Option (FieldType × am_F) := match a with
  | .int => some (.int, .inl (fun _ => 0))
  | .long => some (.long, .inr (fun _ => 0))
  | .byte => some (.byte, .inl (fun _ => 0))
  | .boolean => some (.boolean, .inl (fun _ => 0))
  | _ => none
theorem am_at_ok {a : ArrayType} {ty : FieldType} {F : am_F} (h : am_at a = some (ty, F)) : newarray.typeOf a = ty ∧ (∃ t0, am_tyN ty = some t0) ∧ componentBytes ty ≤ 8 ∧ Jvm.Cond.arrayClass ty ∈ am_TS ∧ ∀ (b z n : Nat) (tA : FieldType → ClassId) (cA : ClassId), ∃ a0 : vp_A, am_ce b z tA (.inl (ty, n, F)) = .inl (tA ty, a0) ∧ vp_cell cA a0 = arrV cA n (fun _ => defaultValue ty) := by
  cases a <;> simp [am_at] at h <;> obtain ⟨rfl, rfl⟩ := h
  · exact ⟨rfl, ⟨_, rfl⟩, by decide, am_TS_z, fun b z n tA cA => ⟨_, rfl, rfl⟩⟩
  · exact ⟨rfl, ⟨_, rfl⟩, by decide, am_TS_b, fun b z n tA cA => ⟨_, rfl, rfl⟩⟩
  · exact ⟨rfl, ⟨_, rfl⟩, by decide, am_TS_i, fun b z n tA cA => ⟨_, rfl, rfl⟩⟩
  · exact ⟨rfl, ⟨_, rfl⟩, by decide, am_TS_l, fun b z n tA cA => ⟨_, rfl, rfl⟩⟩
theorem go_newa {a : ArrayType} {ty : FieldType} {F : am_F} {n : Int} (hd : decode (am_bytes mid) pc = .ok (.newarray a, 2)) (ha : am_at a = some (ty, F)) (hn : 0 ≤ n ∧ n < 10000) (hN : h.length + 1 ≤ N) (hS1 : am_sl h + n.toNat ≤ S) : Go d N S L xs mid pc lv (vI n :: st) h (pc + 2) lv (vR (h.length + 1) :: st) (h ++ [.inl (ty, n.toNat, F)]) := by
  intro p l e R s m args below meth c Q b z n0 s0 tA D X kk H locs ls cells slots hl hP hS hc1 hs
  obtain ⟨hx, hb, hml, hown, hts, hK, hz, hini, hf, hlo, hNN, hSS, hscr⟩ := X
  obtain ⟨hty, ⟨t0, ht0⟩, hcb, hac, hcell⟩ := am_at_ok ha
  obtain ⟨a0, hce, -⟩ := hcell b z n.toNat tA 0
  have ha0 : ∀ cA : ClassId, vp_cell cA a0 = arrV cA n.toNat (fun _ => defaultValue ty) := by
    intro cA
    obtain ⟨a1, h1, h2⟩ := hcell b z n.toNat tA cA
    have e1 := hce.symm.trans h1
    cases e1
    exact h2
  refine va_newa (a0 := a0) (N' := n.toNat) hx hb (by rw [hty]; exact hts _ hac) hty hK hP (am_cw_D b z tA h) hS (fun q hq => by rw [hz] at hq; omega) ha0 (am_nonneg hn.1 (by omega)) (am_clamp hn.1 (by omega)) (Nat.le_trans (Nat.mul_le_mul (show n.toNat ≤ 10000 by omega) hcb) (by decide)) (by omega) (by omega) hd (fun q cA H1 hK1 hP1 hD1 hS1 => ?_)
  refine am_size (fun hsz => ?_)
  have hq : q = z + h.length := am_newq hP1 hD1 (by omega)
  subst hq
  have hA1 := (hK1.2 4 (cA, ty) rfl).2
  have hA2 := (hK.2 t0 _ (am_tyN_ok ht0)).2
  have hcA : cA = tA ty := by
    cases a <;> simp [am_at] at ha <;> obtain ⟨rfl, rfl⟩ := ha <;> exact Option.some.inj (hA1.symm.trans hA2)
  subst hcA
  have e0 := am_cw_app b z tA (.inl (ty, n.toNat, F)) h 0
  rw [Nat.zero_add] at e0
  exact kk H1 locs ls (cells + 1) (slots + n.toNat) hl (by rw [e0, hce]; exact hP1) hS1 ⟨by simp; omega, by simp; omega⟩ (by rw [am_sl_app]; show am_sl h + n.toNat = _ ∧ am_sl h + n.toNat ≤ _; omega)
/-- Object's constructor -/
theorem go_obj {idx r : Nat} (hd : decode (am_bytes mid) pc = .ok (.invokespecial idx, 3)) (hw : Jvm.Cond.methodLink (am_own mid) idx objectInit ∈ am_TS) (hst : (st.map am_cat).sum ≤ 8) (hlv : lv.length = am_maxL mid) : Go d N S L xs mid pc lv (vR r :: st) h (pc + 3) lv st h := by
  intro p l e R s m args below meth c Q b z n0 s0 tA D X kk H locs ls cells slots hl hP hS hc1 hs
  obtain ⟨hx, hb, hml, hown, hts, hK, hz, hini, hf, hlo, hNN, hSS, hscr⟩ := X
  obtain ⟨a, ha⟩ := am_c_ref b z r
  have hsum : ((st.map (am_c b z)).map fun v => v.category).sum ≤ 8 := by
    rw [List.map_map]
    have e : (fun v => Value.category v) ∘ am_c b z = am_cat := funext fun v => am_c_cat b z v
    rw [e]; exact hst
  have h20 : 20 ≤ R.locals := Nat.le_trans (Nat.le_trans am_lw20 (Nat.le_mul_of_pos_right _ (Nat.succ_pos d))) hlo
  rw [List.map_cons, ha]
  refine W.objInit hx hb hown (hts _ hw) (hts _ am_TS_o1) (hts _ am_TS_o2) rfl (by rw [hml, ← hlv]; exact hl.2.1) rfl hd (by omega) ?_ (kk H locs ls cells slots hl hP hS hc1 hs)
  show 2 * 0 + _ + 12 ≤ _
  omega
end GH
end
section
/-! one instruction as a function of the state; Hp: how the heap is told; O: what is done with it -/
abbrev am_O (Hp : Type) : Type := (Hp → Nat → Nat → Nat → Option am_V) × (Hp → Nat → Nat → Nat → am_V → Option Hp) × (Hp → Nat → Option am_A) × (Hp → Nat → am_F → Option Hp) × (Hp → Nat → Nat → Nat → Option (Nat × Hp × Prop)) × (Hp → Nat → Nat → FieldType → Int → am_F → Option (Nat × Hp × Prop)) × (Hp → Nat → Option Nat)
abbrev am_R (Hp : Type) : Type := Nat × am_L × List am_V × Hp × Option Prop
section STEP
variable {Hp : Type} {α : Type}
def am_i1 (st : List am_V) (f : Int → List am_V → Option α) : Option α := match st with
  | .inl x :: r => f x r
  | _ => none
def am_i2 (st : List am_V) (f : Int → Int → List am_V → Option α) : Option α := match st with
  | .inl y :: .inl x :: r => f x y r
  | _ => none
def am_l1 (st : List am_V) (f : Int64 → List am_V → Option α) : Option α := match st with
  | .inr (.inl x) :: r => f x r
  | _ => none
def am_l2 (st : List am_V) (f : Int64 → Int64 → List am_V → Option α) : Option α := match st with
  | .inr (.inl y) :: .inr (.inl x) :: r => f x y r
  | _ => none
def am_li (st : List am_V) (f : Int64 → Int → List am_V → Option α) : Option α := match st with
  | .inl y :: .inr (.inl x) :: r => f x y r
  | _ => none
def am_r1 (st : List am_V) (f : Nat → List am_V → Option α) : Option α := match st with
  | .inr (.inr (some x)) :: r => f x r
  | _ => none
def am_ir (st : List am_V) (f : Nat → Int → List am_V → Option α) : Option α := match st with
  | .inl i :: .inr (.inr (some x)) :: r => f x i r
  | _ => none
def am_vir (st : List am_V) (f : Nat → Int → am_V → List am_V → Option α) : Option α := match st with
  | v :: .inl i :: .inr (.inr (some x)) :: r => f x i v r
  | _ => none
def am_vr (st : List am_V) (f : Nat → am_V → List am_V → Option α) : Option α := match st with
  | v :: .inr (.inr (some x)) :: r => f x v r
  | _ => none
def am_s1 (st : List am_V) (f : am_V → List am_V → Option α) : Option α := match st with
  | v :: r => f v r
  | _ => none
def am_s2 (st : List am_V) (f : am_V → am_V → List am_V → Option α) : Option α := match st with
  | v :: w :: r => f v w r
  | _ => none
def am_s3 (st : List am_V) (f : am_V → am_V → am_V → List am_V → Option α) : Option α := match st with
  | v :: w :: u :: r => f v w u r
  | _ => none
theorem am_i1_inv {st : List am_V} {f : Int → List am_V → Option α} {a : α} (h : am_i1 st f = some a) : ∃ x r, st = vI x :: r ∧ f x r = some a := by
  unfold am_i1 at h; split at h
  · exact ⟨_, _, rfl, h⟩
  · cases h
theorem am_i2_inv {st : List am_V} {f : Int → Int → List am_V → Option α} {a : α} (h : am_i2 st f = some a) : ∃ x y r, st = vI y :: vI x :: r ∧ f x y r = some a := by
  unfold am_i2 at h; split at h
  · exact ⟨_, _, _, rfl, h⟩
  · cases h
theorem am_l1_inv {st : List am_V} {f : Int64 → List am_V → Option α} {a : α} (h : am_l1 st f = some a) : ∃ x r, st = vL x :: r ∧ f x r = some a := by
  unfold am_l1 at h; split at h
  · exact ⟨_, _, rfl, h⟩
  · cases h
theorem am_l2_inv {st : List am_V} {f : Int64 → Int64 → List am_V → Option α} {a : α} (h : am_l2 st f = some a) : ∃ x y r, st = vL y :: vL x :: r ∧ f x y r = some a := by
  unfold am_l2 at h; split at h
  · exact ⟨_, _, _, rfl, h⟩
  · cases h
theorem am_li_inv {st : List am_V} {f : Int64 → Int → List am_V → Option α} {a : α} (h : am_li st f = some a) : ∃ x y r, st = vI y :: vL x :: r ∧ f x y r = some a := by
  unfold am_li at h; split at h
  · exact ⟨_, _, _, rfl, h⟩
  · cases h
theorem am_r1_inv {st : List am_V} {f : Nat → List am_V → Option α} {a : α} (h : am_r1 st f = some a) : ∃ x r, st = vR x :: r ∧ f x r = some a := by
  unfold am_r1 at h; split at h
  · exact ⟨_, _, rfl, h⟩
  · cases h
theorem am_ir_inv {st : List am_V} {f : Nat → Int → List am_V → Option α} {a : α} (h : am_ir st f = some a) : ∃ x i r, st = vI i :: vR x :: r ∧ f x i r = some a := by
  unfold am_ir at h; split at h
  · exact ⟨_, _, _, rfl, h⟩
  · cases h
theorem am_vir_inv {st : List am_V} {f : Nat → Int → am_V → List am_V → Option α} {a : α} (h : am_vir st f = some a) : ∃ x i v r, st = v :: vI i :: vR x :: r ∧ f x i v r = some a := by
  unfold am_vir at h; split at h
  · exact ⟨_, _, _, _, rfl, h⟩
  · cases h
theorem am_vr_inv {st : List am_V} {f : Nat → am_V → List am_V → Option α} {a : α} (h : am_vr st f = some a) : ∃ x v r, st = v :: vR x :: r ∧ f x v r = some a := by
  unfold am_vr at h; split at h
  · exact ⟨_, _, _, rfl, h⟩
  · cases h
theorem am_s1_inv {st : List am_V} {f : am_V → List am_V → Option α} {a : α} (h : am_s1 st f = some a) : ∃ v r, st = v :: r ∧ f v r = some a := by
  unfold am_s1 at h; split at h
  · exact ⟨_, _, rfl, h⟩
  · cases h
theorem am_s2_inv {st : List am_V} {f : am_V → am_V → List am_V → Option α} {a : α} (h : am_s2 st f = some a) : ∃ v w r, st = v :: w :: r ∧ f v w r = some a := by
  unfold am_s2 at h; split at h
  · exact ⟨_, _, _, rfl, h⟩
  · cases h
theorem am_s3_inv {st : List am_V} {f : am_V → am_V → am_V → List am_V → Option α} {a : α} (h : am_s3 st f = some a) : ∃ v w u r, st = v :: w :: u :: r ∧ f v w u r = some a := by
  unfold am_s3 at h; split at h
  · exact ⟨_, _, _, _, rfl, h⟩
  · cases h
def am_ldI (lv : am_L) (i : Nat) (f : Int → Option α) : Option α := match lv[i]? with
  | some (some (.inl x)) => f x
  | _ => none
def am_ldL (lv : am_L) (i : Nat) (f : Int64 → Option α) : Option α := match lv[i]? with
  | some (some (.inr (.inl x))) => f x
  | _ => none
def am_ldR (lv : am_L) (i : Nat) (f : Nat → Option α) : Option α := match lv[i]? with
  | some (some (.inr (.inr (some x)))) => f x
  | _ => none
def am_has (lv : am_L) (i : Nat) (f : Option α) : Option α := match lv[i]? with
  | some _ => f
  | none => none
theorem am_ldI_inv {lv : am_L} {i : Nat} {f : Int → Option α} {a : α} (h : am_ldI lv i f = some a) : ∃ x, lv[i]? = some (some (vI x)) ∧ f x = some a := by
  unfold am_ldI at h; split at h
  · next x hx => exact ⟨x, hx, h⟩
  · cases h
theorem am_ldL_inv {lv : am_L} {i : Nat} {f : Int64 → Option α} {a : α} (h : am_ldL lv i f = some a) : ∃ x, lv[i]? = some (some (vL x)) ∧ f x = some a := by
  unfold am_ldL at h; split at h
  · next x hx => exact ⟨x, hx, h⟩
  · cases h
theorem am_ldR_inv {lv : am_L} {i : Nat} {f : Nat → Option α} {a : α} (h : am_ldR lv i f = some a) : ∃ x, lv[i]? = some (some (vR x)) ∧ f x = some a := by
  unfold am_ldR at h; split at h
  · next x hx => exact ⟨x, hx, h⟩
  · cases h
theorem am_has_inv {lv : am_L} {i : Nat} {f : Option α} {a : α} (h : am_has lv i f = some a) : i < lv.length ∧ f = some a := by
  unfold am_has at h; split at h
  · next x hx => exact ⟨(List.getElem?_eq_some_iff.mp hx).1, h⟩
  · cases h
def am_g1 (v : am_V) (f : Option α) : Option α := match v with
  | .inr (.inl _) => none
  | _ => f
theorem am_g1_inv {v : am_V} {f : Option α} {a : α} (h : am_g1 v f = some a) : am_cat v = 1 ∧ f = some a := match v, h with
  | .inl _, h => ⟨rfl, h⟩
  | .inr (.inr _), h => ⟨rfl, h⟩
/-- which case of a switch -/
def am_lkP : List (Int × Int) → Nat → Int → Prop
  | [], _, _ => True
  | (a, _) :: _, 0, x => x = a
  | (a, _) :: t, k + 1, x => x ≠ a ∧ am_lkP t k x
def am_lkO (dflt : Int) : List (Int × Int) → Nat → Int
  | [], _ => dflt
  | (_, o) :: _, 0 => o
  | _ :: t, k + 1 => am_lkO dflt t k
theorem am_lk_off {dflt x : Int} : ∀ {l : List (Int × Int)} {k : Nat}, am_lkP l k x → Op.lookupswitch.offset l dflt x = am_lkO dflt l k := by
  intro l
  induction l with
  | nil => intro k _; rfl
  | cons a t ih =>
    obtain ⟨a, o⟩ := a
    intro k h
    cases k with
    | zero => rw [Op.lookupswitch.offset_cons, if_pos (show a = x from Eq.symm h)]; rfl
    | succ k => rw [Op.lookupswitch.offset_cons, if_neg (show ¬ a = x from fun q => h.1 q.symm)]; exact ih h.2
/-- a branch: to u, or on to the next -/
def am_br (ch nx u : Nat) (lv : am_L) (st : List am_V) (h : Hp) (P : Prop) (c : Prop) : am_R Hp := match ch with
  | 0 => (nx, lv, st, h, some (P ∧ ¬ c))
  | _ => (u, lv, st, h, some (P ∧ c))
def am_rdI (O : am_O Hp) (L : Nat) (xs : Nat → Int) (law : Bool) (nx : Nat) (lv : am_L) (h : Hp) (r : Nat) (i : Int) (st : List am_V) : Option (am_R Hp) := match r with
  | 0 => match law with
    | true => some (nx, lv, vI (xs i.toNat) :: st, h, some (am_ix i L))
    | false => none
  | r + 1 => match O.2.2.1 h r with
    | some (.int, n, .inl f) => some (nx, lv, vI (f i.toNat) :: st, h, some (am_ix i n))
    | _ => none
def am_rdL (O : am_O Hp) (nx : Nat) (lv : am_L) (h : Hp) (r : Nat) (i : Int) (st : List am_V) : Option (am_R Hp) := match r with
  | 0 => none
  | r + 1 => match O.2.2.1 h r with
    | some (.long, n, .inr f) => some (nx, lv, vL (f i.toNat) :: st, h, some (am_ix i n))
    | _ => none
def am_rdB (O : am_O Hp) (nx : Nat) (lv : am_L) (h : Hp) (r : Nat) (i : Int) (st : List am_V) : Option (am_R Hp) := match r with
  | 0 => none
  | r + 1 => match O.2.2.1 h r with
    | some (.byte, n, .inl f) => some (nx, lv, vI (f i.toNat) :: st, h, some (am_ix i n))
    | some (.boolean, n, .inl f) => some (nx, lv, vI (f i.toNat) :: st, h, some (am_ix i n))
    | _ => none
def am_wrI (O : am_O Hp) (nx : Nat) (lv : am_L) (h : Hp) (r : Nat) (i : Int) (v : am_V) (st : List am_V) : Option (am_R Hp) := match r, v with
  | r + 1, .inl x => match O.2.2.1 h r with
    | some (.int, n, .inl f) => (O.2.2.2.1 h r (.inl (am_upd f i.toNat x))).map fun h' => (nx, lv, st, h', some (am_ix i n))
    | _ => none
  | _, _ => none
def am_wrL (O : am_O Hp) (nx : Nat) (lv : am_L) (h : Hp) (r : Nat) (i : Int) (v : am_V) (st : List am_V) : Option (am_R Hp) := match r, v with
  | r + 1, .inr (.inl x) => match O.2.2.1 h r with
    | some (.long, n, .inr f) => (O.2.2.2.1 h r (.inr (am_upd f i.toNat x))).map fun h' => (nx, lv, st, h', some (am_ix i n))
    | _ => none
  | _, _ => none
def am_wrB (O : am_O Hp) (nx : Nat) (lv : am_L) (h : Hp) (r : Nat) (i : Int) (v : am_V) (st : List am_V) : Option (am_R Hp) := match r, v with
  | r + 1, .inl x => match O.2.2.1 h r with
    | some (.byte, n, .inl f) => (O.2.2.2.1 h r (.inl (am_upd f i.toNat x))).map fun h' => (nx, lv, st, h', some (am_ix i n ∧ (-128 ≤ x ∧ x ≤ 127)))
    | some (.boolean, n, .inl f) => (O.2.2.2.1 h r (.inl (am_upd f i.toNat x))).map fun h' => (nx, lv, st, h', some (am_ix i n ∧ (x = 0 ∨ x = 1)))
    | _ => none
  | _, _ => none
def am_rdN (O : am_O Hp) (L : Nat) (law : Bool) (nx : Nat) (lv : am_L) (h : Hp) (r : Nat) (st : List am_V) : Option (am_R Hp) := match r with
  | 0 => match law with
    | true => some (nx, lv, vI L :: st, h, none)
    | false => none
  | r + 1 => match O.2.2.1 h r with
    | some (ty, n, _) => (am_tyN ty).map fun _ => (nx, lv, vI n :: st, h, none)
    | none => none
def am_rdF (O : am_O Hp) (nx u v : Nat) (lv : am_L) (h : Hp) (r : Nat) (st : List am_V) : Option (am_R Hp) := match r with
  | 0 => none
  | r + 1 => (O.1 h u r v).map fun x => (nx, lv, x :: st, h, none)
def am_fitO (ty : FieldType) (v : am_V) : Option (Option Prop) := match ty, v with
  | .int, .inl _ => some none
  | .boolean, .inl z => some (some (z = 0 ∨ z = 1))
  | .long, .inr (.inl _) => some none
  | .object _, .inr (.inr _) => some none
  | .array _, .inr (.inr _) => some none
  | _, _ => none
theorem am_fitO_ok {ty : FieldType} {v : am_V} {P : Option Prop} (h : am_fitO ty v = some P) (hP : ∀ q, P = some q → q) : am_fit ty v := by
  match ty, v, h with
  | .int, .inl _, _ => exact trivial
  | .boolean, .inl z, h => cases h; exact hP _ rfl
  | .long, .inr (.inl _), _ => exact trivial
  | .object _, .inr (.inr _), _ => exact trivial
  | .array _, .inr (.inr _), _ => exact trivial
def am_wrF (O : am_O Hp) (nx u v : Nat) (lv : am_L) (h : Hp) (r : Nat) (x : am_V) (st : List am_V) : Option (am_R Hp) := match r with
  | 0 => none
  | r + 1 => match am_fitO (am_fty u v) x with
    | some P => (O.2.1 h u r v x).map fun h' => (nx, lv, st, h', P)
    | none => none
def am_sum (st : List am_V) : Nat := (st.map am_cat).sum
/-- arraycopy of ints -/
def am_copy (O : am_O Hp) (nx : Nat) (lv : am_L) (st : List am_V) (h : Hp) : Option (am_R Hp) := match st with
  | .inl n :: .inl dp :: .inr (.inr (some (t + 1))) :: .inl sp :: .inr (.inr (some (r + 1))) :: rest => match O.2.2.1 h r, O.2.2.1 h t with
    | some (.int, n0, .inl f), some (.int, n1, .inl g) => (O.2.2.2.1 h t (.inl (am_cpy f g sp.toNat dp.toNat n.toNat))).map fun h' => (nx, lv, rest, h', some ((0 ≤ sp ∧ 0 ≤ dp ∧ 0 ≤ n ∧ sp + n ≤ n0 ∧ dp + n ≤ n1 ∧ (n0 : Int) < 2147483648 ∧ (n1 : Int) < 2147483648) ∧ am_sum rest ≤ 8))
    | _, _ => none
  | _ => none
def am_max (x y : Int) : Int := if x < y then y else x
def am_isBr (ins : Instr) : Bool := match ins with
  | .ifCond _ _ => true
  | .if_icmp _ _ => true
  | .tableswitch _ _ _ _ => true
  | .lookupswitch _ _ => true
  | _ => false
def am_d2 (nx : Nat) (lv : am_L) (st : List am_V) (h : Hp) : Option (am_R Hp) := match st with
  | .inr (.inl x) :: r => some (nx, lv, vL x :: vL x :: r, h, none)
  | a :: b :: r => am_g1 a (am_g1 b (some (nx, lv, a :: b :: a :: b :: r, h, none)))
  | _ => none
def am_len (ins : Instr) : Nat := match ins with
  | .iconst _ => 1
  | .bipush _ => 2
  | .sipush _ => 3
  | .lconst _ => 1
  | .ldc2_w _ => 3
  | .iload _ => 2
  | .iload_n _ => 1
  | .lload _ => 2
  | .lload_n _ => 1
  | .aload _ => 2
  | .aload_n _ => 1
  | .istore _ => 2
  | .istore_n _ => 1
  | .lstore _ => 2
  | .lstore_n _ => 1
  | .astore _ => 2
  | .astore_n _ => 1
  | .iinc _ _ => 3
  | .goto _ => 3
  | .ifCond _ _ => 3
  | .if_icmp _ _ => 3
  | .getfield _ => 3
  | .putfield _ => 3
  | .new _ => 3
  | .newarray _ => 2
  | .invokespecial _ => 3
  | .invokestatic _ => 3
  | .invokevirtual _ => 3
  | .tableswitch _ _ _ _ => 0
  | .lookupswitch _ _ => 0
  | _ => 1
def am_step (O : am_O Hp) (N S L : Nat) (xs : Nat → Int) (mid : am_M) (ch : Nat) (ins : Instr) (nx u v : Nat) (pc : Nat) (lv : am_L) (st : List am_V) (h : Hp) : Option (am_R Hp) := match ins with
  | .iconst n => some (nx, lv, vI n :: st, h, none)
  | .bipush n => some (nx, lv, vI n :: st, h, none)
  | .sipush n => some (nx, lv, vI n :: st, h, none)
  | .lconst n => some (nx, lv, vL (Int64.ofNat n) :: st, h, none)
  | .ldc2_w _ => some (nx, lv, vL (Int64.ofNat u) :: st, h, none)
  | .iload i => am_ldI lv i fun x => some (nx, lv, vI x :: st, h, none)
  | .iload_n i => am_ldI lv i.val fun x => some (nx, lv, vI x :: st, h, none)
  | .lload i => am_ldL lv i fun x => some (nx, lv, vL x :: st, h, none)
  | .lload_n i => am_ldL lv i.val fun x => some (nx, lv, vL x :: st, h, none)
  | .aload i => am_ldR lv i fun x => some (nx, lv, vR x :: st, h, none)
  | .aload_n i => am_ldR lv i.val fun x => some (nx, lv, vR x :: st, h, none)
  | .istore i => am_i1 st fun x r => am_has lv i (some (nx, am_st1 lv i (vI x), r, h, none))
  | .istore_n i => am_i1 st fun x r => am_has lv i.val (some (nx, am_st1 lv i.val (vI x), r, h, none))
  | .lstore i => am_l1 st fun x r => am_has lv (i + 1) (some (nx, am_st2 lv i (vL x), r, h, none))
  | .lstore_n i => am_l1 st fun x r => am_has lv (i.val + 1) (some (nx, am_st2 lv i.val (vL x), r, h, none))
  | .astore i => am_r1 st fun x r => am_has lv i (some (nx, am_st1 lv i (vR x), r, h, none))
  | .astore_n i => am_r1 st fun x r => am_has lv i.val (some (nx, am_st1 lv i.val (vR x), r, h, none))
  | .iinc i n => am_ldI lv i fun x => some (nx, am_st1 lv i (vI (x + n)), st, h, none)
  | .iadd => am_i2 st fun x y r => some (nx, lv, vI (x + y) :: r, h, none)
  | .isub => am_i2 st fun x y r => some (nx, lv, vI (x - y) :: r, h, none)
  | .imul => am_i2 st fun x y r => some (nx, lv, vI (x * y) :: r, h, none)
  | .idiv => am_i2 st fun x y r => some (nx, lv, vI (x / y) :: r, h, some (0 ≤ x ∧ x < 2147483648 ∧ 0 < y ∧ y < 2147483648))
  | .irem => am_i2 st fun x y r => some (nx, lv, vI (x % y) :: r, h, some (0 ≤ x ∧ x < 2147483648 ∧ 0 < y ∧ y < 2147483648))
  | .iand => am_i2 st fun x y r => some (nx, lv, vI (am_and x y) :: r, h, none)
  | .ladd => am_l2 st fun x y r => some (nx, lv, vL (x + y) :: r, h, none)
  | .lsub => am_l2 st fun x y r => some (nx, lv, vL (x - y) :: r, h, none)
  | .lmul => am_l2 st fun x y r => some (nx, lv, vL (x * y) :: r, h, none)
  | .land => am_l2 st fun x y r => some (nx, lv, vL (x &&& y) :: r, h, none)
  | .lor => am_l2 st fun x y r => some (nx, lv, vL (x ||| y) :: r, h, none)
  | .lxor => am_l2 st fun x y r => some (nx, lv, vL (x ^^^ y) :: r, h, none)
  | .lshl => am_li st fun x y r => some (nx, lv, vL (am_shl x y) :: r, h, none)
  | .lshr => am_li st fun x y r => some (nx, lv, vL (am_shr x y) :: r, h, none)
  | .lushr => am_li st fun x y r => some (nx, lv, vL (am_ushr x y) :: r, h, none)
  | .i2l => am_i1 st fun x r => some (nx, lv, vL (am_i2l x) :: r, h, none)
  | .l2i => am_l1 st fun x r => some (nx, lv, vI (am_l2i x) :: r, h, none)
  | .i2b => am_i1 st fun x r => some (nx, lv, vI (am_i2b x) :: r, h, none)
  | .lcmp => am_l2 st fun x y r => some (nx, lv, vI (am_cmp x y) :: r, h, none)
  | .dup => am_s1 st fun a r => am_g1 a (some (nx, lv, a :: a :: r, h, none))
  | .pop => am_s1 st fun a r => am_g1 a (some (nx, lv, r, h, none))
  | .dup_x1 => am_s2 st fun a b r => am_g1 a (am_g1 b (some (nx, lv, a :: b :: a :: r, h, none)))
  | .dup_x2 => am_s3 st fun a b e r => am_g1 a (am_g1 b (am_g1 e (some (nx, lv, a :: b :: e :: a :: r, h, none))))
  | .dup2 => am_d2 nx lv st h
  | .goto _ => some (u, lv, st, h, none)
  | .ifCond c _ => am_i1 st fun x r => some (am_br ch nx u lv r h (am_in x) (am_cond c x 0))
  | .if_icmp c _ => am_i2 st fun x y r => some (am_br ch nx u lv r h (am_in x ∧ am_in y) (am_cond c x y))
  | .tableswitch dflt lo hi offs => am_i1 st fun x r => match offs[ch]? with
    | some off => some (((pc : Int) + off).toNat, lv, r, h, some (am_in x ∧ x = lo + ch ∧ x ≤ hi ∧ 0 ≤ (pc : Int) + off))
    | none => some (((pc : Int) + dflt).toNat, lv, r, h, some (am_in x ∧ (x < lo ∨ hi < x) ∧ 0 ≤ (pc : Int) + dflt))
  | .lookupswitch dflt ps => am_i1 st fun x r => some (((pc : Int) + am_lkO dflt ps.toList ch).toNat, lv, r, h, some (am_in x ∧ am_lkP ps.toList ch x ∧ 0 ≤ (pc : Int) + am_lkO dflt ps.toList ch))
  | .getfield _ => am_r1 st fun r rest => am_rdF O nx u v lv h r rest
  | .putfield _ => am_vr st fun r x rest => am_wrF O nx u v lv h r x rest
  | .iaload => am_ir st fun r i rest => am_rdI O L xs (am_law mid) nx lv h r i rest
  | .laload => am_ir st fun r i rest => am_rdL O nx lv h r i rest
  | .baload => am_ir st fun r i rest => am_rdB O nx lv h r i rest
  | .iastore => am_vir st fun r i x rest => am_wrI O nx lv h r i x rest
  | .lastore => am_vir st fun r i x rest => am_wrL O nx lv h r i x rest
  | .bastore => am_vir st fun r i x rest => am_wrB O nx lv h r i x rest
  | .arraylength => am_r1 st fun r rest => am_rdN O L (am_law mid) nx lv h r rest
  | .new _ => (O.2.2.2.2.1 h N S u).map fun q => (nx, lv, vR (q.1 + 1) :: st, q.2.1, some q.2.2)
  | .newarray a => am_i1 st fun n r => match am_at a with
    | some (ty, F) => (O.2.2.2.2.2.1 h N S ty n F).map fun q => (nx, lv, vR (q.1 + 1) :: r, q.2.1, some q.2.2)
    | none => none
  | .invokespecial _ => match v with
    | 1 => am_r1 st fun _ rest => some (nx, lv, rest, h, some (am_sum rest ≤ 8))
    | _ => none
  | .invokestatic _ => match v with
    | 1 => am_copy O nx lv st h
    | 2 => am_i2 st fun x y r => some (nx, lv, vI (am_max x y) :: r, h, some (am_in x ∧ am_in y ∧ am_sum r ≤ 8))
    | _ => none
  | _ => none
end STEP
end
section
/-! what the heap's operations must keep -/
def am_Law {Hp : Type} (O : am_O Hp) (toC : Hp → am_H) : Prop :=
  (∀ (h : Hp) (ci r k : Nat) (v : am_V), O.1 h ci r k = some v → ∃ fs, (toC h)[r]? = some (.inr (ci, fs)) ∧ fs[k]? = some v) ∧
  (∀ (h : Hp) (ci r k : Nat) (v : am_V) (h' : Hp), O.2.1 h ci r k v = some h' → ∃ fs, (toC h)[r]? = some (.inr (ci, fs)) ∧ k < fs.length ∧ toC h' = (toC h).set r (.inr (ci, fs.set k v))) ∧
  (∀ (h : Hp) (r : Nat) (a : am_A), O.2.2.1 h r = some a → (toC h)[r]? = some (.inl a)) ∧
  (∀ (h : Hp) (r : Nat) (ty : FieldType) (n : Nat) (F F' : am_F) (h' : Hp), O.2.2.1 h r = some (ty, n, F) → O.2.2.2.1 h r F' = some h' → toC h' = (toC h).set r (.inl (ty, n, F'))) ∧
  (∀ (h : Hp) (N S ci : Nat) (q : Nat × Hp × Prop), O.2.2.2.2.1 h N S ci = some q → q.2.2 → q.1 = (toC h).length ∧ toC q.2.1 = toC h ++ [.inr (ci, am_dfl ci)] ∧ (toC h).length + 1 ≤ N ∧ am_sl (toC h) + (am_dfl ci).length ≤ S) ∧
  (∀ (h : Hp) (N S : Nat) (ty : FieldType) (n : Int) (F : am_F) (q : Nat × Hp × Prop), O.2.2.2.2.2.1 h N S ty n F = some q → q.2.2 → q.1 = (toC h).length ∧ toC q.2.1 = toC h ++ [.inl (ty, n.toNat, F)] ∧ (0 ≤ n ∧ n < 10000) ∧ (toC h).length + 1 ≤ N ∧ am_sl (toC h) + n.toNat ≤ S) ∧
  (∀ (h : Hp) (r ci : Nat), O.2.2.2.2.2.2 h r = some ci → ∃ fs, (toC h)[r]? = some (.inr (ci, fs)))
/-- what an instruction's own numbers must keep -/
def am_lk (mid : am_M) (pc nx : Nat) (ins : Instr) (u v : Nat) : Prop := match ins with
  | .bipush n => -128 ≤ n ∧ n ≤ 127
  | .sipush n => -32768 ≤ n ∧ n ≤ 32767
  | .ldc2_w i => Jvm.Cond.constantLong (am_own mid) i (Int64.ofNat u) ∈ am_TS
  | .goto off => (pc : Int) + off = (u : Int)
  | .ifCond _ off => (pc : Int) + off = (u : Int)
  | .if_icmp _ off => (pc : Int) + off = (u : Int)
  | .lookupswitch _ ps => (ps.toList.zip (ps.toList.drop 1)).all (fun (a, next) => a.1 < next.1) = true
  | .getfield idx => ∃ C T nF, am_cl[u]? = some (C, T, nF) ∧ v < nF ∧ am_fw (am_own mid) idx C T v
  | .putfield idx => ∃ C T nF, am_cl[u]? = some (C, T, nF) ∧ v < nF ∧ am_fw (am_own mid) idx C T v ∧ ((T v).2.2.2 = true → am_init mid = true ∧ C = am_own mid)
  | .new idx => ∃ C T nF, am_cl[u]? = some (C, T, nF) ∧ Jvm.Cond.classLink (am_own mid) idx C ∈ am_TS
  | .invokespecial idx => v = 1 → Jvm.Cond.methodLink (am_own mid) idx objectInit ∈ am_TS
  | .invokestatic idx => (v = 1 → Jvm.Cond.methodLink (am_own mid) idx arraycopyName ∈ am_TS) ∧ (v = 2 → Jvm.Cond.methodLink (am_own mid) idx Lib.Math.max.name ∈ am_TS)
  | _ => True
section SOUND
variable {Hp : Type} {O : am_O Hp} {toC : Hp → am_H} {d N S L : Nat} {xs : Nat → Int} {mid : am_M} {ch nx u v pc pc' : Nat} {lv lv' : am_L} {st st' : List am_V} {h h' : Hp} {P : Option Prop} {ins : Instr}
theorem go_copy {idx r t n0 n1 : Nat} {hh : am_H} {f g : Nat → Int} {n dp sp : Int} (hd : decode (am_bytes mid) pc = .ok (.invokestatic idx, 3)) (hw : Jvm.Cond.methodLink (am_own mid) idx arraycopyName ∈ am_TS) (hr : hh[r]? = some (.inl (.int, n0, .inl f))) (ht : hh[t]? = some (.inl (.int, n1, .inl g))) (hq : (0 ≤ sp ∧ 0 ≤ dp ∧ 0 ≤ n ∧ sp + n ≤ n0 ∧ dp + n ≤ n1 ∧ (n0 : Int) < 2147483648 ∧ (n1 : Int) < 2147483648) ∧ am_sum st ≤ 8) (hlv : lv.length = am_maxL mid) : Go d N S L xs mid pc lv (vI n :: vI dp :: vR (t + 1) :: vI sp :: vR (r + 1) :: st) hh (pc + 3) lv st (hh.set t (.inl (.int, n1, .inl (am_cpy f g sp.toNat dp.toNat n.toNat)))) := by
  intro p l e R s m args below meth c Q b z n0' s0 tA D X kk H locs ls cells slots hl hP hS hc1 hs
  obtain ⟨hx, hb, hml, hown, hts, hK, hz, hini, hf, hlo, hNN, hSS, hscr⟩ := X
  obtain ⟨⟨q1, q2, q3, q4, q5, q6, q7⟩, q8⟩ := hq
  have hsum : ((st.map (am_c b z)).map fun v => v.category).sum ≤ 8 := by
    rw [List.map_map]
    have e : (fun v => Value.category v) ∘ am_c b z = am_cat := funext fun v => am_c_cat b z v
    rw [e]; exact q8
  have h40 : 40 ≤ R.locals := Nat.le_trans (Nat.le_trans am_lw40 (Nat.le_mul_of_pos_right _ (Nat.succ_pos d))) hlo
  have e1 := am_clamp q1 (show sp < 2147483648 by omega)
  have e2 := am_clamp q2 (show dp < 2147483648 by omega)
  have e3 := am_clamp q3 (show n < 2147483648 by omega)
  refine va_copyi (ty := .int) hx hb (by rw [hml, ← hlv]; exact hl.2.1.symm) hown (hts _ hw) (hts _ am_TS_c1) (hts _ am_TS_c2) (hts _ am_TS_c3) hK hP (am_cw_D b z tA hh) hS r t 0 0 (am_cw_at hr) (am_cw_at ht) rfl rfl rfl (am_nonneg q1 (by omega)) (am_nonneg q2 (by omega)) (am_nonneg q3 (by omega)) (by rw [e1, e3]; omega) (by rw [e2, e3]; omega) (fun _ _ => rfl) (by omega) ?_ hd (fun H1 locs1 hP1 _ hS1 => ?_)
  · have : nativeFrameWords "java/lang/System" "arraycopy" 5 + 11 ≤ 30 := by decide
    omega
  · rw [e1, e2, e3] at hP1
    refine kk H1 locs1 ls cells slots hl ?_ hS1 (by rw [List.length_set]; exact hc1) (am_sl_set3 hh t _ _ ht (by rfl) hs)
    rw [← am_cw_set0]
    show va_P D am_cl ((am_cw b z tA 0 hh).set t (z + t, .inl (tA .int, n1, .inl (fun j => Int32.ofInt (am_cpy f g sp.toNat dp.toNat n.toNat j))))) H1
    rw [am_cpy_i]
    exact hP1
theorem go_max {idx : Nat} {hh : am_H} {x y : Int} (hd : decode (am_bytes mid) pc = .ok (.invokestatic idx, 3)) (hw : Jvm.Cond.methodLink (am_own mid) idx Lib.Math.max.name ∈ am_TS) (hq : am_in x ∧ am_in y ∧ am_sum st ≤ 8) (hlv : lv.length = am_maxL mid) : Go d N S L xs mid pc lv (vI y :: vI x :: st) hh (pc + 3) lv (vI (am_max x y) :: st) hh := by
  intro p l e R s m args below meth c Q b z n0' s0 tA D X kk H locs ls cells slots hl hP hS hc1 hs
  obtain ⟨hx, hb, hml, hown, hts, hK, hz, hini, hf, hlo, hNN, hSS, hscr⟩ := X
  have hsum : ((st.map (am_c b z)).map fun v => v.category).sum ≤ 8 := by
    rw [List.map_map]
    have e : (fun v => Value.category v) ∘ am_c b z = am_cat := funext fun v => am_c_cat b z v
    rw [e]; exact hq.2.2
  have h40 : 40 ≤ R.locals := Nat.le_trans (Nat.le_trans am_lw40 (Nat.le_mul_of_pos_right _ (Nat.succ_pos d))) hlo
  refine va_mmax (x := Int32.ofInt x) (y := Int32.ofInt y) hx hb (by rw [hml, ← hlv]; exact hl.2.1.symm) hown (hts _ hw) (hts _ am_TS_m1) (hts _ ct_ini_java_lang_Math) (hts _ am_TS_m2) (by omega) (by omega) (by omega) (by omega) hd ?_
  have e : (if Int32.ofInt x < Int32.ofInt y then Int32.ofInt y else Int32.ofInt x) = Int32.ofInt (am_max x y) := by
    unfold am_max
    by_cases h1 : x < y
    · rw [if_pos h1, if_pos ((am_ltI hq.1 hq.2.1).mpr h1)]
    · rw [if_neg h1, if_neg (fun q => h1 ((am_ltI hq.1 hq.2.1).mp q))]
  rw [e]
  exact kk H locs ls cells slots hl hP hS hc1 hs
set_option maxHeartbeats 4000000 in
theorem am_step_ok (hO : am_Law O toC) (hlv : lv.length = am_maxL mid) (hd0 : decode (am_bytes mid) pc = .ok (ins, nx - pc)) (hnx : am_len ins = 0 ∨ nx = pc + am_len ins) (hk : am_lk mid pc nx ins u v) (hs : am_step O N S L xs mid ch ins nx u v pc lv st h = some (pc', lv', st', h', P)) (hP : ∀ q, P = some q → q) : Go d N S L xs mid pc lv st (toC h) pc' lv' st' (toC h') ∧ lv'.length = am_maxL mid := by
  have hd' : am_len ins ≠ 0 → decode (am_bytes mid) pc = .ok (ins, am_len ins) ∧ nx = pc + am_len ins := by
    intro q
    rcases hnx with h1 | h1
    · exact absurd h1 q
    · rw [h1, Nat.add_sub_cancel_left] at hd0
      exact ⟨hd0, h1⟩
  have hs1 : ∀ i w, (am_st1 lv i w).length = am_maxL mid := fun i w => by simp [am_st1, am_clr_len, hlv]
  have hs2 : ∀ i w, (am_st2 lv i w).length = am_maxL mid := fun i w => by simp [am_st2, am_clr_len, hlv]
  obtain ⟨O1, O2, O3, O4, O5, O6, O7⟩ := hO
  cases ins with
  | iconst n => obtain ⟨hd, rfl⟩ := hd' (Nat.succ_ne_zero _); cases hs; exact ⟨go_iconst hd, hlv⟩
  | bipush n => obtain ⟨hd, rfl⟩ := hd' (Nat.succ_ne_zero _); cases hs; exact ⟨go_bipush hd hk.1 hk.2, hlv⟩
  | sipush n => obtain ⟨hd, rfl⟩ := hd' (Nat.succ_ne_zero _); cases hs; exact ⟨go_sipush hd hk.1 hk.2, hlv⟩
  | lconst n => obtain ⟨hd, rfl⟩ := hd' (Nat.succ_ne_zero _); cases hs; exact ⟨go_lconst hd, hlv⟩
  | ldc2_w i => obtain ⟨hd, rfl⟩ := hd' (Nat.succ_ne_zero _); cases hs; exact ⟨go_ldc2 hd hk, hlv⟩
  | iload i => obtain ⟨hd, rfl⟩ := hd' (Nat.succ_ne_zero _); obtain ⟨x, h1, h2⟩ := am_ldI_inv hs; cases h2; exact ⟨go_iload hd h1, hlv⟩
  | iload_n i => obtain ⟨hd, rfl⟩ := hd' (Nat.succ_ne_zero _); obtain ⟨x, h1, h2⟩ := am_ldI_inv hs; cases h2; exact ⟨go_iload_n hd h1, hlv⟩
  | lload i => obtain ⟨hd, rfl⟩ := hd' (Nat.succ_ne_zero _); obtain ⟨x, h1, h2⟩ := am_ldL_inv hs; cases h2; exact ⟨go_lload hd h1, hlv⟩
  | lload_n i => obtain ⟨hd, rfl⟩ := hd' (Nat.succ_ne_zero _); obtain ⟨x, h1, h2⟩ := am_ldL_inv hs; cases h2; exact ⟨go_lload_n hd h1, hlv⟩
  | aload i => obtain ⟨hd, rfl⟩ := hd' (Nat.succ_ne_zero _); obtain ⟨x, h1, h2⟩ := am_ldR_inv hs; cases h2; exact ⟨go_aload hd h1, hlv⟩
  | aload_n i => obtain ⟨hd, rfl⟩ := hd' (Nat.succ_ne_zero _); obtain ⟨x, h1, h2⟩ := am_ldR_inv hs; cases h2; exact ⟨go_aload_n hd h1, hlv⟩
  | istore i => obtain ⟨hd, rfl⟩ := hd' (Nat.succ_ne_zero _); obtain ⟨x, r, rfl, h1⟩ := am_i1_inv hs; obtain ⟨h2, h3⟩ := am_has_inv h1; cases h3; exact ⟨go_istore hd h2, hs1 _ _⟩
  | istore_n i => obtain ⟨hd, rfl⟩ := hd' (Nat.succ_ne_zero _); obtain ⟨x, r, rfl, h1⟩ := am_i1_inv hs; obtain ⟨h2, h3⟩ := am_has_inv h1; cases h3; exact ⟨go_istore_n hd h2, hs1 _ _⟩
  | lstore i => obtain ⟨hd, rfl⟩ := hd' (Nat.succ_ne_zero _); obtain ⟨x, r, rfl, h1⟩ := am_l1_inv hs; obtain ⟨h2, h3⟩ := am_has_inv h1; cases h3; exact ⟨go_lstore hd h2, hs2 _ _⟩
  | lstore_n i => obtain ⟨hd, rfl⟩ := hd' (Nat.succ_ne_zero _); obtain ⟨x, r, rfl, h1⟩ := am_l1_inv hs; obtain ⟨h2, h3⟩ := am_has_inv h1; cases h3; exact ⟨go_lstore_n hd h2, hs2 _ _⟩
  | astore i => obtain ⟨hd, rfl⟩ := hd' (Nat.succ_ne_zero _); obtain ⟨x, r, rfl, h1⟩ := am_r1_inv hs; obtain ⟨h2, h3⟩ := am_has_inv h1; cases h3; exact ⟨go_astore hd h2, hs1 _ _⟩
  | astore_n i => obtain ⟨hd, rfl⟩ := hd' (Nat.succ_ne_zero _); obtain ⟨x, r, rfl, h1⟩ := am_r1_inv hs; obtain ⟨h2, h3⟩ := am_has_inv h1; cases h3; exact ⟨go_astore_n hd h2, hs1 _ _⟩
  | iinc i n => obtain ⟨hd, rfl⟩ := hd' (Nat.succ_ne_zero _); obtain ⟨x, h1, h2⟩ := am_ldI_inv hs; cases h2; exact ⟨go_iinc hd h1, hs1 _ _⟩
  | iadd => obtain ⟨hd, rfl⟩ := hd' (Nat.succ_ne_zero _); obtain ⟨x, y, r, rfl, h1⟩ := am_i2_inv hs; cases h1; exact ⟨go_iadd hd, hlv⟩
  | isub => obtain ⟨hd, rfl⟩ := hd' (Nat.succ_ne_zero _); obtain ⟨x, y, r, rfl, h1⟩ := am_i2_inv hs; cases h1; exact ⟨go_isub hd, hlv⟩
  | imul => obtain ⟨hd, rfl⟩ := hd' (Nat.succ_ne_zero _); obtain ⟨x, y, r, rfl, h1⟩ := am_i2_inv hs; cases h1; exact ⟨go_imul hd, hlv⟩
  | idiv => obtain ⟨hd, rfl⟩ := hd' (Nat.succ_ne_zero _); obtain ⟨x, y, r, rfl, h1⟩ := am_i2_inv hs; cases h1; exact ⟨go_idiv hd (hP _ rfl), hlv⟩
  | irem => obtain ⟨hd, rfl⟩ := hd' (Nat.succ_ne_zero _); obtain ⟨x, y, r, rfl, h1⟩ := am_i2_inv hs; cases h1; exact ⟨go_irem hd (hP _ rfl), hlv⟩
  | iand => obtain ⟨hd, rfl⟩ := hd' (Nat.succ_ne_zero _); obtain ⟨x, y, r, rfl, h1⟩ := am_i2_inv hs; cases h1; exact ⟨go_iand hd, hlv⟩
  | ladd => obtain ⟨hd, rfl⟩ := hd' (Nat.succ_ne_zero _); obtain ⟨x, y, r, rfl, h1⟩ := am_l2_inv hs; cases h1; exact ⟨go_ladd hd, hlv⟩
  | lsub => obtain ⟨hd, rfl⟩ := hd' (Nat.succ_ne_zero _); obtain ⟨x, y, r, rfl, h1⟩ := am_l2_inv hs; cases h1; exact ⟨go_lsub hd, hlv⟩
  | lmul => obtain ⟨hd, rfl⟩ := hd' (Nat.succ_ne_zero _); obtain ⟨x, y, r, rfl, h1⟩ := am_l2_inv hs; cases h1; exact ⟨go_lmul hd, hlv⟩
  | land => obtain ⟨hd, rfl⟩ := hd' (Nat.succ_ne_zero _); obtain ⟨x, y, r, rfl, h1⟩ := am_l2_inv hs; cases h1; exact ⟨go_land hd, hlv⟩
  | lor => obtain ⟨hd, rfl⟩ := hd' (Nat.succ_ne_zero _); obtain ⟨x, y, r, rfl, h1⟩ := am_l2_inv hs; cases h1; exact ⟨go_lor hd, hlv⟩
  | lxor => obtain ⟨hd, rfl⟩ := hd' (Nat.succ_ne_zero _); obtain ⟨x, y, r, rfl, h1⟩ := am_l2_inv hs; cases h1; exact ⟨go_lxor hd, hlv⟩
  | lshl => obtain ⟨hd, rfl⟩ := hd' (Nat.succ_ne_zero _); obtain ⟨x, y, r, rfl, h1⟩ := am_li_inv hs; cases h1; exact ⟨go_lshl hd, hlv⟩
  | lshr => obtain ⟨hd, rfl⟩ := hd' (Nat.succ_ne_zero _); obtain ⟨x, y, r, rfl, h1⟩ := am_li_inv hs; cases h1; exact ⟨go_lshr hd, hlv⟩
  | lushr => obtain ⟨hd, rfl⟩ := hd' (Nat.succ_ne_zero _); obtain ⟨x, y, r, rfl, h1⟩ := am_li_inv hs; cases h1; exact ⟨go_lushr hd, hlv⟩
  | i2l => obtain ⟨hd, rfl⟩ := hd' (Nat.succ_ne_zero _); obtain ⟨x, r, rfl, h1⟩ := am_i1_inv hs; cases h1; exact ⟨go_i2l hd, hlv⟩
  | l2i => obtain ⟨hd, rfl⟩ := hd' (Nat.succ_ne_zero _); obtain ⟨x, r, rfl, h1⟩ := am_l1_inv hs; cases h1; exact ⟨go_l2i hd, hlv⟩
  | i2b => obtain ⟨hd, rfl⟩ := hd' (Nat.succ_ne_zero _); obtain ⟨x, r, rfl, h1⟩ := am_i1_inv hs; cases h1; exact ⟨go_i2b hd, hlv⟩
  | lcmp => obtain ⟨hd, rfl⟩ := hd' (Nat.succ_ne_zero _); obtain ⟨x, y, r, rfl, h1⟩ := am_l2_inv hs; cases h1; exact ⟨go_lcmp hd, hlv⟩
  | dup => obtain ⟨hd, rfl⟩ := hd' (Nat.succ_ne_zero _); obtain ⟨a, r, rfl, h1⟩ := am_s1_inv hs; obtain ⟨h2, h3⟩ := am_g1_inv h1; cases h3; exact ⟨go_dup hd h2, hlv⟩
  | pop => obtain ⟨hd, rfl⟩ := hd' (Nat.succ_ne_zero _); obtain ⟨a, r, rfl, h1⟩ := am_s1_inv hs; obtain ⟨h2, h3⟩ := am_g1_inv h1; cases h3; exact ⟨go_pop hd h2, hlv⟩
  | dup_x1 => obtain ⟨hd, rfl⟩ := hd' (Nat.succ_ne_zero _); obtain ⟨a, b, r, rfl, h1⟩ := am_s2_inv hs; obtain ⟨h2, h3⟩ := am_g1_inv h1; obtain ⟨h4, h5⟩ := am_g1_inv h3; cases h5; exact ⟨go_dup_x1 hd h2 h4, hlv⟩
  | dup_x2 => obtain ⟨hd, rfl⟩ := hd' (Nat.succ_ne_zero _); obtain ⟨a, b, e, r, rfl, h1⟩ := am_s3_inv hs; obtain ⟨h2, h3⟩ := am_g1_inv h1; obtain ⟨h4, h5⟩ := am_g1_inv h3; obtain ⟨h6, h7⟩ := am_g1_inv h5; cases h7; exact ⟨go_dup_x2 hd h2 h4 h6, hlv⟩
  | dup2 =>
    obtain ⟨hd, rfl⟩ := hd' (Nat.succ_ne_zero _)
    have hs : am_d2 _ lv st h = _ := hs
    unfold am_d2 at hs
    split at hs
    · cases hs; exact ⟨go_dup2_2 hd, hlv⟩
    · obtain ⟨h2, h3⟩ := am_g1_inv hs; obtain ⟨h4, h5⟩ := am_g1_inv h3; cases h5; exact ⟨go_dup2_11 hd h2 h4, hlv⟩
    · cases hs
  | goto off => obtain ⟨hd, -⟩ := hd' (Nat.succ_ne_zero _); cases hs; exact ⟨go_goto hd hk, hlv⟩
  | ifCond c off =>
    obtain ⟨hd, rfl⟩ := hd' (Nat.succ_ne_zero _)
    obtain ⟨x, r, rfl, h1⟩ := am_i1_inv hs
    cases ch with
    | zero => cases h1; have q := hP _ rfl; exact ⟨go_if hd hk q.1 (Or.inr ⟨q.2, rfl⟩), hlv⟩
    | succ ch => cases h1; have q := hP _ rfl; exact ⟨go_if hd hk q.1 (Or.inl ⟨q.2, rfl⟩), hlv⟩
  | if_icmp c off =>
    obtain ⟨hd, rfl⟩ := hd' (Nat.succ_ne_zero _)
    obtain ⟨x, y, r, rfl, h1⟩ := am_i2_inv hs
    cases ch with
    | zero => cases h1; have q := hP _ rfl; exact ⟨go_icmp hd hk q.1.1 q.1.2 (Or.inr ⟨q.2, rfl⟩), hlv⟩
    | succ ch => cases h1; have q := hP _ rfl; exact ⟨go_icmp hd hk q.1.1 q.1.2 (Or.inl ⟨q.2, rfl⟩), hlv⟩
  | tableswitch dflt lo hi offs =>
    obtain ⟨x, r, rfl, h1⟩ := am_i1_inv hs
    cases ho : offs[ch]? with
    | none =>
      rw [ho] at h1
      cases h1
      have q := hP _ rfl
      exact ⟨go_tabOut hd0 q.1 q.2.1 (Int.toNat_of_nonneg q.2.2).symm, hlv⟩
    | some off =>
      rw [ho] at h1
      cases h1
      have q := hP _ rfl
      obtain ⟨q1, q2, q3, q4⟩ := q
      exact ⟨go_tabIn (off := off) hd0 q1 (by omega) q3 (by rw [show (x - lo).toNat = ch by omega]; exact ho) (Int.toNat_of_nonneg q4).symm, hlv⟩
  | lookupswitch dflt ps =>
    obtain ⟨x, r, rfl, h1⟩ := am_i1_inv hs
    cases h1
    have q := hP _ rfl
    exact ⟨go_look hd0 q.1 hk (am_lk_off q.2.1) (Int.toNat_of_nonneg q.2.2).symm, hlv⟩
  | getfield idx =>
    obtain ⟨hd, rfl⟩ := hd' (Nat.succ_ne_zero _)
    obtain ⟨r, rest, rfl, h1⟩ := am_r1_inv hs
    obtain ⟨C, T, nF, k1, k2, k3⟩ := hk
    cases r with
    | zero => cases h1
    | succ r =>
      obtain ⟨x, h2, h3⟩ := Option.map_eq_some_iff.mp (show (O.1 h u r v).map _ = _ from h1)
      cases h3
      obtain ⟨fs, h4, h5⟩ := O1 _ _ _ _ _ h2
      exact ⟨go_get hd k1 k2 k3 h4 h5, hlv⟩
  | putfield idx =>
    obtain ⟨hd, rfl⟩ := hd' (Nat.succ_ne_zero _)
    obtain ⟨r, x, rest, rfl, h1⟩ := am_vr_inv hs
    obtain ⟨C, T, nF, k1, k2, k3, k4⟩ := hk
    cases r with
    | zero => cases h1
    | succ r =>
      have h1 : am_wrF O _ u v lv h (r + 1) x rest = _ := h1
      unfold am_wrF at h1
      dsimp only at h1
      split at h1
      · next P1 hf =>
        obtain ⟨h6, h2, h3⟩ := Option.map_eq_some_iff.mp h1
        cases h3
        obtain ⟨fs, h4, h5, h7⟩ := O2 _ _ _ _ _ _ h2
        rw [h7]
        exact ⟨go_put hd k1 k2 k3 k4 h4 h5 (am_fitO_ok hf hP), hlv⟩
      · cases h1
  | iaload =>
    obtain ⟨hd, rfl⟩ := hd' (Nat.succ_ne_zero _)
    obtain ⟨r, i, rest, rfl, h1⟩ := am_ir_inv hs
    unfold am_rdI at h1
    split at h1
    · split at h1
      · next hm => cases h1; exact ⟨go_sald hm hd (hP _ rfl), hlv⟩
      · cases h1
    · split at h1
      · next hq => cases h1; exact ⟨go_iald hd (O3 _ _ _ hq) (hP _ rfl), hlv⟩
      · cases h1
  | laload =>
    obtain ⟨hd, rfl⟩ := hd' (Nat.succ_ne_zero _)
    obtain ⟨r, i, rest, rfl, h1⟩ := am_ir_inv hs
    unfold am_rdL at h1
    split at h1
    · cases h1
    · split at h1
      · next hq => cases h1; exact ⟨go_lald hd (O3 _ _ _ hq) (hP _ rfl), hlv⟩
      · cases h1
  | baload =>
    obtain ⟨hd, rfl⟩ := hd' (Nat.succ_ne_zero _)
    obtain ⟨r, i, rest, rfl, h1⟩ := am_ir_inv hs
    unfold am_rdB at h1
    split at h1
    · cases h1
    · split at h1
      · next hq => cases h1; exact ⟨go_bald hd (O3 _ _ _ hq) (hP _ rfl), hlv⟩
      · next hq => cases h1; exact ⟨go_zald hd (O3 _ _ _ hq) (hP _ rfl), hlv⟩
      · cases h1
  | iastore =>
    obtain ⟨hd, rfl⟩ := hd' (Nat.succ_ne_zero _)
    obtain ⟨r, i, x, rest, rfl, h1⟩ := am_vir_inv hs
    unfold am_wrI at h1
    split at h1
    · split at h1
      · next hq =>
        obtain ⟨h6, h2, h3⟩ := Option.map_eq_some_iff.mp h1
        cases h3
        rw [O4 _ _ _ _ _ _ _ hq h2]
        exact ⟨go_iast hd (O3 _ _ _ hq) (hP _ rfl), hlv⟩
      · cases h1
    · cases h1
  | lastore =>
    obtain ⟨hd, rfl⟩ := hd' (Nat.succ_ne_zero _)
    obtain ⟨r, i, x, rest, rfl, h1⟩ := am_vir_inv hs
    unfold am_wrL at h1
    split at h1
    · split at h1
      · next hq =>
        obtain ⟨h6, h2, h3⟩ := Option.map_eq_some_iff.mp h1
        cases h3
        rw [O4 _ _ _ _ _ _ _ hq h2]
        exact ⟨go_last hd (O3 _ _ _ hq) (hP _ rfl), hlv⟩
      · cases h1
    · cases h1
  | bastore =>
    obtain ⟨hd, rfl⟩ := hd' (Nat.succ_ne_zero _)
    obtain ⟨r, i, x, rest, rfl, h1⟩ := am_vir_inv hs
    unfold am_wrB at h1
    split at h1
    · split at h1
      · next hq =>
        obtain ⟨h6, h2, h3⟩ := Option.map_eq_some_iff.mp h1
        cases h3
        rw [O4 _ _ _ _ _ _ _ hq h2]
        exact ⟨go_bast hd (O3 _ _ _ hq) (hP _ rfl).1 (hP _ rfl).2, hlv⟩
      · next hq =>
        obtain ⟨h6, h2, h3⟩ := Option.map_eq_some_iff.mp h1
        cases h3
        rw [O4 _ _ _ _ _ _ _ hq h2]
        exact ⟨go_zast hd (O3 _ _ _ hq) (hP _ rfl).1 (hP _ rfl).2, hlv⟩
      · cases h1
    · cases h1
  | arraylength =>
    obtain ⟨hd, rfl⟩ := hd' (Nat.succ_ne_zero _)
    obtain ⟨r, rest, rfl, h1⟩ := am_r1_inv hs
    unfold am_rdN at h1
    split at h1
    · split at h1
      · next hm => cases h1; exact ⟨go_slen hm hd, hlv⟩
      · cases h1
    · split at h1
      · next hq =>
        obtain ⟨t0, h2, h3⟩ := Option.map_eq_some_iff.mp h1
        cases h3
        exact ⟨go_alen hd h2 (O3 _ _ _ hq), hlv⟩
      · cases h1
  | new idx =>
    obtain ⟨hd, rfl⟩ := hd' (Nat.succ_ne_zero _)
    obtain ⟨C, T, nF, k1, k2⟩ := hk
    obtain ⟨q, h1, h2⟩ := Option.map_eq_some_iff.mp (show (O.2.2.2.2.1 h N S u).map _ = _ from hs)
    cases h2
    obtain ⟨h3, h4, h5, h6⟩ := O5 _ _ _ _ _ h1 (hP _ rfl)
    rw [h3, h4]
    exact ⟨go_new hd k1 k2 h5 (by rw [am_cl_len k1] at h6; exact h6), hlv⟩
  | newarray a =>
    obtain ⟨hd, rfl⟩ := hd' (Nat.succ_ne_zero _)
    obtain ⟨n, r, rfl, h1⟩ := am_i1_inv hs
    cases ha : am_at a with
    | none => rw [ha] at h1; cases h1
    | some q =>
      obtain ⟨ty, F⟩ := q
      rw [ha] at h1
      obtain ⟨q, h2, h3⟩ := Option.map_eq_some_iff.mp (show (O.2.2.2.2.2.1 h N S ty n F).map _ = _ from h1)
      cases h3
      obtain ⟨h4, h5, h6, h7, h8⟩ := O6 _ _ _ _ _ _ _ h2 (hP _ rfl)
      rw [h4, h5]
      exact ⟨go_newa hd ha h6 h7 h8, hlv⟩
  | invokespecial idx =>
    obtain ⟨hd, rfl⟩ := hd' (Nat.succ_ne_zero _)
    by_cases hv : v = 1
    · subst hv
      obtain ⟨r, rest, rfl, h1⟩ := am_r1_inv (show am_r1 st _ = _ from hs)
      cases h1
      exact ⟨go_obj hd (hk rfl) (hP _ rfl) hlv, hlv⟩
    · exfalso
      unfold am_step at hs
      dsimp only at hs
      split at hs
      · exact hv rfl
      · cases hs
  | invokestatic idx =>
    obtain ⟨hd, rfl⟩ := hd' (Nat.succ_ne_zero _)
    by_cases hv : v = 1
    · subst hv
      have hs : am_copy O _ lv st h = _ := hs
      unfold am_copy at hs
      split at hs
      · split at hs
        · next hq1 hq2 =>
          obtain ⟨h6, h2, h3⟩ := Option.map_eq_some_iff.mp hs
          cases h3
          rw [O4 _ _ _ _ _ _ _ hq2 h2]
          exact ⟨go_copy hd (hk.1 rfl) (O3 _ _ _ hq1) (O3 _ _ _ hq2) (hP _ rfl) hlv, hlv⟩
        · cases hs
      · cases hs
    · by_cases hv2 : v = 2
      · subst hv2
        obtain ⟨x, y, r, rfl, h1⟩ := am_i2_inv (show am_i2 st _ = _ from hs)
        cases h1
        exact ⟨go_max hd (hk.2 rfl) (hP _ rfl) hlv, hlv⟩
      · exfalso
        unfold am_step at hs
        dsimp only at hs
        split at hs
        · exact hv rfl
        · exact hv2 rfl
        · cases hs
  | _ => cases hs
def am_pand (P : Option Prop) (Q : Prop) : Prop := match P with
  | none => Q
  | some P => P ∧ Q
/-- the code that cd tells is the method's -/
def am_CD (mid : am_M) (cd : Nat → Option am_I) : Prop := ∀ (pc : Nat) (ins : Instr) (nx u v : Nat), cd pc = some (ins, nx, u, v) → decode (am_bytes mid) pc = .ok (ins, nx - pc) ∧ (am_len ins = 0 ∨ nx = pc + am_len ins) ∧ am_lk mid pc nx ins u v
def am_path (cd : Nat → Option am_I) (O : am_O Hp) (N S L : Nat) (xs : Nat → Int) (mid : am_M) : Nat → List Nat → Nat → am_L → List am_V → Hp → Option (Nat × am_L × List am_V × Hp × Prop)
  | 0, _, pc, lv, st, h => some (pc, lv, st, h, True)
  | n + 1, ch, pc, lv, st, h => match cd pc with
    | none => none
    | some (ins, nx, u, v) => match am_step O N S L xs mid (ch.headD 0) ins nx u v pc lv st h with
      | none => none
      | some (pc1, lv1, st1, h1, P1) => match am_path cd O N S L xs mid n (bif am_isBr ins then ch.tail else ch) pc1 lv1 st1 h1 with
        | none => none
        | some (pc2, lv2, st2, h2, P2) => some (pc2, lv2, st2, h2, am_pand P1 P2)
theorem am_path_ok {cd : Nat → Option am_I} (hcd : am_CD mid cd) (hO : am_Law O toC) : ∀ (n : Nat) (ch : List Nat) (pc : Nat) (lv : am_L) (st : List am_V) (h : Hp) (pc' : Nat) (lv' : am_L) (st' : List am_V) (h' : Hp) (P : Prop), lv.length = am_maxL mid → am_path cd O N S L xs mid n ch pc lv st h = some (pc', lv', st', h', P) → P → Go d N S L xs mid pc lv st (toC h) pc' lv' st' (toC h') ∧ lv'.length = am_maxL mid := by
  intro n
  induction n with
  | zero => intro ch pc lv st h pc' lv' st' h' P hl hp _; cases hp; exact ⟨Go.rfl', hl⟩
  | succ n ih =>
    intro ch pc lv st h pc' lv' st' h' P hl hp hP
    unfold am_path at hp
    split at hp
    · cases hp
    · next ins nx u v hc =>
      obtain ⟨c1, c2, c3⟩ := hcd _ _ _ _ _ hc
      split at hp
      · cases hp
      · next pc1 lv1 st1 h1 P1 hs =>
        split at hp
        · cases hp
        · next pc2 lv2 st2 h2 P2 hq =>
          cases hp
          have hP1 : (∀ q, P1 = some q → q) ∧ P2 := by
            cases P1 with
            | none => exact ⟨fun q hq => (by cases hq), hP⟩
            | some Q => exact ⟨fun q hq => (by cases hq; exact hP.1), hP.2⟩
          obtain ⟨g1, l1⟩ := am_step_ok (d := d) hO hl c1 c2 c3 hs hP1.1
          obtain ⟨g2, l2⟩ := ih _ _ _ _ _ _ _ _ _ _ l1 hq hP1.2
          exact ⟨g1.trans g2, l2⟩
theorem Go.path {cd : Nat → Option am_I} (hcd : am_CD mid cd) (hO : am_Law O toC) (n : Nat) (ch : List Nat) {P : Prop} (hp : am_path cd O N S L xs mid n ch pc lv st h = some (pc', lv', st', h', P)) (hP : P) (hl : lv.length = am_maxL mid) : Go d N S L xs mid pc lv st (toC h) pc' lv' st' (toC h') := (am_path_ok hcd hO n ch pc lv st h pc' lv' st' h' P hl hp hP).1
end SOUND
end
section
/-! ===== what the printed lists must keep ===== -/
def am_flok (own : String) (l : List (Nat × Nat × Nat)) : Prop := ∀ e ∈ l, ∃ C T nF, am_cl[e.2.1]? = some (C, T, nF) ∧ e.2.2 < nF ∧ am_fw own e.1 C T e.2.2
def am_fl1 (own : String) (e : Nat × Nat × Nat) (p : Nat) : Bool := match am_cl[e.2.1]? with
  | some (C, T, nF) => decide (e.2.2 < nF) && (decide ((T e.2.2).1 = C) && decide (lw_tbl[p]? = some (Jvm.Cond.fieldLink own e.1 C (T e.2.2).2.1 (T e.2.2).2.2.1)))
  | none => false
def am_flb (own : String) : List (Nat × Nat × Nat) → List Nat → Bool
  | [], _ => true
  | e :: l, p :: ps => am_fl1 own e p && am_flb own l ps
  | _ :: _, [] => false
theorem am_flok_of {own : String} (l : List (Nat × Nat × Nat)) : ∀ (ps : List Nat), am_flb own l ps = true → am_flok own l := by
  induction l with
  | nil => intro ps _ e he; cases he
  | cons a l ih =>
    intro ps h
    cases ps with
    | nil => cases h
    | cons p ps =>
      have h : (am_fl1 own a p && am_flb own l ps) = true := h
      rw [Bool.and_eq_true] at h
      intro e he
      rcases List.mem_cons.mp he with rfl | he
      · have h1 := h.1
        unfold am_fl1 at h1
        split at h1
        · next C T nF hc =>
          simp only [Bool.and_eq_true, decide_eq_true_eq] at h1
          exact ⟨C, T, nF, hc, h1.1, h1.2.1, am_one p h1.2.2 rfl⟩
        · cases h1
      · exact ih ps h.2 e he
def am_cnok (own : String) (l : List (Nat × Nat)) : Prop := ∀ e ∈ l, ∃ C T nF, am_cl[e.2]? = some (C, T, nF) ∧ Jvm.Cond.classLink own e.1 C ∈ am_TS
def am_cn1 (own : String) (e : Nat × Nat) (p : Nat) : Bool := match am_cl[e.2]? with
  | some (C, _, _) => decide (lw_tbl[p]? = some (Jvm.Cond.classLink own e.1 C))
  | none => false
def am_cnb (own : String) : List (Nat × Nat) → List Nat → Bool
  | [], _ => true
  | e :: l, p :: ps => am_cn1 own e p && am_cnb own l ps
  | _ :: _, [] => false
theorem am_cnok_of {own : String} (l : List (Nat × Nat)) : ∀ (ps : List Nat), am_cnb own l ps = true → am_cnok own l := by
  induction l with
  | nil => intro ps _ e he; cases he
  | cons a l ih =>
    intro ps h
    cases ps with
    | nil => cases h
    | cons p ps =>
      have h : (am_cn1 own a p && am_cnb own l ps) = true := h
      rw [Bool.and_eq_true] at h
      intro e he
      rcases List.mem_cons.mp he with rfl | he
      · have h1 := h.1
        unfold am_cn1 at h1
        split at h1
        · next C T nF hc => exact ⟨C, T, nF, hc, am_one p (of_decide_eq_true h1) rfl⟩
        · cases h1
      · exact ih ps h.2 e he
def am_klok (own : String) (l : List (Nat × Nat)) : Prop := ∀ e ∈ l, Jvm.Cond.constantLong own e.1 (Int64.ofNat e.2) ∈ am_TS
def am_klb (own : String) : List (Nat × Nat) → List Nat → Bool
  | [], _ => true
  | e :: l, p :: ps => decide (lw_tbl[p]? = some (Jvm.Cond.constantLong own e.1 (Int64.ofNat e.2))) && am_klb own l ps
  | _ :: _, [] => false
theorem am_klok_of {own : String} (l : List (Nat × Nat)) : ∀ (ps : List Nat), am_klb own l ps = true → am_klok own l := by
  induction l with
  | nil => intro ps _ e he; cases he
  | cons a l ih =>
    intro ps h
    cases ps with
    | nil => cases h
    | cons p ps =>
      have h : (decide (lw_tbl[p]? = some (Jvm.Cond.constantLong own a.1 (Int64.ofNat a.2))) && am_klb own l ps) = true := h
      rw [Bool.and_eq_true] at h
      intro e he
      rcases List.mem_cons.mp he with rfl | he
      · exact am_one p (of_decide_eq_true h.1) rfl
      · exact ih ps h.2 e he
def am_pn (k : Nat) : MethodName := match k with
  | 0 => objectInit
  | 1 => arraycopyName
  | _ => Lib.Math.max.name
def am_plok (own : String) (l : List (Nat × Nat)) : Prop := ∀ e ∈ l, Jvm.Cond.methodLink own e.1 (am_pn e.2) ∈ am_TS
def am_plb (own : String) : List (Nat × Nat) → List Nat → Bool
  | [], _ => true
  | e :: l, p :: ps => decide (lw_tbl[p]? = some (Jvm.Cond.methodLink own e.1 (am_pn e.2))) && am_plb own l ps
  | _ :: _, [] => false
theorem am_plok_of {own : String} (l : List (Nat × Nat)) : ∀ (ps : List Nat), am_plb own l ps = true → am_plok own l := by
  induction l with
  | nil => intro ps _ e he; cases he
  | cons a l ih =>
    intro ps h
    cases ps with
    | nil => cases h
    | cons p ps =>
      have h : (decide (lw_tbl[p]? = some (Jvm.Cond.methodLink own a.1 (am_pn a.2))) && am_plb own l ps) = true := h
      rw [Bool.and_eq_true] at h
      intro e he
      rcases List.mem_cons.mp he with rfl | he
      · exact am_one p (of_decide_eq_true h.1) rfl
      · exact ih ps h.2 e he
def am_lkb (mid : am_M) (fl : List (Nat × Nat × Nat)) (cn kl pl : List (Nat × Nat)) (pc : Nat) (ins : Instr) (u v : Nat) : Bool := match ins with
  | .bipush n => decide (-128 ≤ n) && decide (n ≤ 127)
  | .sipush n => decide (-32768 ≤ n) && decide (n ≤ 32767)
  | .ldc2_w i => decide ((i, u) ∈ kl)
  | .goto off => decide ((pc : Int) + off = (u : Int))
  | .ifCond _ off => decide ((pc : Int) + off = (u : Int))
  | .if_icmp _ off => decide ((pc : Int) + off = (u : Int))
  | .lookupswitch _ ps => (ps.toList.zip (ps.toList.drop 1)).all (fun (a, next) => a.1 < next.1)
  | .getfield idx => decide ((idx, u, v) ∈ fl)
  | .putfield idx => decide ((idx, u, v) ∈ fl) && (match am_cl[u]? with
    | some (C, T, _) => !(T v).2.2.2 || (am_init mid && decide (C = am_own mid))
    | none => false)
  | .new idx => decide ((idx, u) ∈ cn)
  | .invokespecial idx => !(Nat.beq v 1) || decide ((idx, 0) ∈ pl)
  | .invokestatic idx => Nat.beq v 0 || decide ((idx, v) ∈ pl)
  | _ => true
theorem am_lk_of {mid : am_M} {fl : List (Nat × Nat × Nat)} {cn kl pl : List (Nat × Nat)} (h1 : am_flok (am_own mid) fl) (h2 : am_cnok (am_own mid) cn) (h3 : am_klok (am_own mid) kl) (h4 : am_plok (am_own mid) pl) {pc nx : Nat} {ins : Instr} {u v : Nat} (h : am_lkb mid fl cn kl pl pc ins u v = true) : am_lk mid pc nx ins u v := by
  cases ins with
  | bipush n => have h : (decide (-128 ≤ n) && decide (n ≤ 127)) = true := h; simp only [Bool.and_eq_true, decide_eq_true_eq] at h; exact h
  | sipush n => have h : (decide (-32768 ≤ n) && decide (n ≤ 32767)) = true := h; simp only [Bool.and_eq_true, decide_eq_true_eq] at h; exact h
  | ldc2_w i => exact h3 _ (of_decide_eq_true h)
  | goto off => exact (of_decide_eq_true h : (pc : Int) + off = (u : Int))
  | ifCond c off => exact (of_decide_eq_true h : (pc : Int) + off = (u : Int))
  | if_icmp c off => exact (of_decide_eq_true h : (pc : Int) + off = (u : Int))
  | lookupswitch d ps => exact h
  | getfield idx => exact h1 _ (of_decide_eq_true h)
  | putfield idx =>
    have h : (decide ((idx, u, v) ∈ fl) && (match am_cl[u]? with
      | some (C, T, _) => !(T v).2.2.2 || (am_init mid && decide (C = am_own mid))
      | none => false)) = true := h
    rw [Bool.and_eq_true] at h
    obtain ⟨C, T, nF, k1, k2, k3⟩ := h1 _ (of_decide_eq_true h.1)
    have h5 := h.2
    have k1 : am_cl[u]? = some (C, T, nF) := k1
    rw [k1] at h5
    refine ⟨C, T, nF, k1, k2, k3, fun q => ?_⟩
    have h5 : (!(T v).2.2.2 || (am_init mid && decide (C = am_own mid))) = true := h5
    rw [q] at h5
    simpa using h5
  | new idx => exact h2 _ (of_decide_eq_true h)
  | invokespecial idx =>
    intro q
    subst q
    have h : (!(Nat.beq 1 1) || decide ((idx, 0) ∈ pl)) = true := h
    exact h4 (idx, 0) (of_decide_eq_true h)
  | invokestatic idx =>
    refine ⟨fun q => ?_, fun q => ?_⟩
    · subst q
      have h : (Nat.beq 1 0 || decide ((idx, 1) ∈ pl)) = true := h
      exact h4 (idx, 1) (of_decide_eq_true h)
    · subst q
      have h : (Nat.beq 2 0 || decide ((idx, 2) ∈ pl)) = true := h
      exact h4 (idx, 2) (of_decide_eq_true h)
  | _ => exact trivial
def am_cd1 (mid : am_M) (fl : List (Nat × Nat × Nat)) (cn kl pl : List (Nat × Nat)) (pc : Nat) (q : Option am_I) : Bool := match q with
  | none => true
  | some (ins, nx, u, v) => decide (decode (am_bytes mid) pc = .ok (ins, nx - pc)) && ((Nat.beq (am_len ins) 0 || Nat.beq nx (pc + am_len ins)) && am_lkb mid fl cn kl pl pc ins u v)
theorem am_CD_of {mid : am_M} {fl : List (Nat × Nat × Nat)} {cn kl pl : List (Nat × Nat)} {cd : Nat → Option am_I} (n : Nat) (h1 : am_flok (am_own mid) fl) (h2 : am_cnok (am_own mid) cn) (h3 : am_klok (am_own mid) kl) (h4 : am_plok (am_own mid) pl) (hge : ∀ pc, n ≤ pc → cd pc = none) (h : (List.range n).all (fun pc => am_cd1 mid fl cn kl pl pc (cd pc)) = true) : am_CD mid cd := by
  intro pc ins nx u v hc
  have hlt : pc < n := by
    by_cases hlt : pc < n
    · exact hlt
    · rw [hge pc (by omega)] at hc; cases hc
  have h5 := List.all_eq_true.mp h pc (List.mem_range.mpr hlt)
  rw [hc] at h5
  have h5 : (decide (decode (am_bytes mid) pc = .ok (ins, nx - pc)) && ((Nat.beq (am_len ins) 0 || Nat.beq nx (pc + am_len ins)) && am_lkb mid fl cn kl pl pc ins u v)) = true := h5
  rw [Bool.and_eq_true, Bool.and_eq_true, Bool.or_eq_true] at h5
  refine ⟨of_decide_eq_true h5.1, ?_, am_lk_of h1 h2 h3 h4 h5.2.2⟩
  rcases h5.2.1 with q | q
  · exact Or.inl (Nat.eq_of_beq_eq_true q)
  · exact Or.inr (Nat.eq_of_beq_eq_true q)
/-! what is known of a method that is called -/
def am_cfA (m : am_M) (n : Nat) : Prop := (am_maxL m + 19 ≤ am_lw ∧ plainName (am_y m).cls = true) ∧ ((am_y m).cls ≠ "java/lang/invoke/MethodHandle" ∧ (am_y m).cls ≠ "java/lang/invoke/VarHandle" ∧ (parseMethodDescriptor (am_y m).desc).map (fun d => d.parameters.length) = some n)
def am_cfV (m : am_M) (n : Nat) : Prop := Jvm.Cond.code (am_y m) (am_bytes m) (am_maxL m) (am_ret m) ∈ am_TS ∧ Jvm.Cond.instanceMethod (am_y m) ∈ am_TS ∧ Jvm.Cond.selects (am_y m).cls (am_y m) (am_y m) ∈ am_TS ∧ Jvm.Cond.initialized (am_y m).cls ∈ am_TS ∧ am_cfA m n
def am_cfS (m : am_M) (n : Nat) : Prop := Jvm.Cond.code (am_y m) (am_bytes m) (am_maxL m) (am_ret m) ∈ am_TS ∧ Jvm.Cond.static (am_y m) ∈ am_TS ∧ Jvm.Cond.initialized (am_y m).cls ∈ am_TS ∧ am_cfA m n
def am_cfI (m : am_M) (n : Nat) : Prop := Jvm.Cond.code (am_y m) (am_bytes m) (am_maxL m) none ∈ am_TS ∧ Jvm.Cond.instanceMethod (am_y m) ∈ am_TS ∧ Jvm.Cond.initialized (am_y m).cls ∈ am_TS ∧ am_cfA m n ∧ (am_y m).name = "<init>" ∧ am_ret m = none
end
section
/-! a method's contract, and calls -/
def am_ws (mid : am_M) : List Jvm.Cond := Jvm.Cond.code (am_y mid) (am_bytes mid) (am_maxL mid) (am_ret mid) :: am_TS
def am_room (d mc ms : Nat) : Room := { frames := d + 1, cells := mc, slots := ms, locals := am_lw * (d + 1) }
def am_Pc (b z : Nat) (tA : FieldType → ClassId) (D : va_G) (as : List am_V) (h : am_H) : Array Value → State → Prop := fun v U => v = (as.map (am_c b z)).toArray ∧ (U.heap.size = z + h.length ∧ va_P D am_cl (am_cw b z tA 0 h) U.heap ∧ va_K D am_cl (am_tys tA) U)
def am_Qc (b z : Nat) (tA : FieldType → ClassId) (D : va_G) (r : Option am_V) (h' : am_H) : Array Value → State → Outcome → State → Prop := fun _ st oc t => oc = .returned (r.map (am_c b z)) ∧ va_P D am_cl (am_cw b z tA 0 h') t.heap ∧ va_F (fun q => z ≤ q) st t
/-- method mid, called with as over the heap h, returns r and leaves the heap h' -/
def Cl (d : Nat) (mid : am_M) (as : List am_V) (h : am_H) (r : Option am_V) (h' : am_H) : Prop :=
  h.length ≤ h'.length ∧ am_sl h ≤ am_sl h' ∧ ∀ (l : Launch) (b z : Nat) (tA : FieldType → ClassId) (D : va_G), Met l (am_y mid) (am_ws mid) (am_room d (h'.length - h.length) (am_sl h' - am_sl h)) (am_Pc b z tA D as h) (am_Qc b z tA D r h') (h'.length - h.length) (am_sl h' - am_sl h) (fun q => z ≤ q)
theorem am_good {mid mid' : am_M} (hm : Jvm.Cond.code (am_y mid') (am_bytes mid') (am_maxL mid') (am_ret mid') ∈ am_TS) : GoodIn (am_ws mid) (am_ws mid') := by
  intro w hw
  have h1 : w ∈ am_TS := by
    rcases List.mem_cons.mp hw with rfl | hw
    · exact hm
    · exact hw
  exact ⟨List.mem_cons_of_mem _ h1, good_of_word (am_TS_good w h1)⟩
theorem am_good0 {mid' : am_M} (hm : Jvm.Cond.code (am_y mid') (am_bytes mid') (am_maxL mid') (am_ret mid') ∈ am_TS) : GoodIn am_TS (am_ws mid') := by
  intro w hw
  have h1 : w ∈ am_TS := by
    rcases List.mem_cons.mp hw with rfl | hw
    · exact hm
    · exact hw
  exact ⟨h1, good_of_word (am_TS_good w h1)⟩
theorem am_blind (b z : Nat) (tA : FieldType → ClassId) (D : va_G) (as : List am_V) (h : am_H) : FrameBlind (am_Pc b z tA D as h) := fun a U g mk q => by
  obtain ⟨q0, q1, qP, qK⟩ := q
  exact ⟨q0, q1, qP, va_K.moved (u := U) (U := U.calling g mk a) (Vm.Alike.refl U.vm) qK⟩
/-- the body of a method up to its return is its contract -/
theorem Cl.body {d : Nat} {mid : am_M} {as : List am_V} {h h' : am_H} {r : Option am_V} {pc' : Nat} {lv' : am_L} (hy : plainName (am_y mid).cls = true) (hi : am_init mid = true → (am_y mid).name = "<init>") (h0 : am_law mid = false) (hn : (am_ea as).length ≤ am_maxL mid) (hl : h.length ≤ h'.length) (hs : am_sl h ≤ am_sl h')
    (g : Go d h'.length (am_sl h') 0 (fun _ => 0) mid 0 (am_ent (am_maxL mid) as) [] h pc' lv' r.toList h')
    (hret : (r = none ∧ am_ret mid = none ∧ decode (am_bytes mid) pc' = .ok (.return_, 1)) ∨ (∃ x, r = some (vI x) ∧ am_ret mid = some .int ∧ decode (am_bytes mid) pc' = .ok (.ireturn, 1)) ∨ (∃ x, r = some (vI x) ∧ (x = 0 ∨ x = 1) ∧ am_ret mid = some .boolean ∧ decode (am_bytes mid) pc' = .ok (.ireturn, 1)) ∨ (∃ x, r = some (vL x) ∧ am_ret mid = some .long ∧ decode (am_bytes mid) pc' = .ok (.lreturn, 1))) : Cl d mid as h r h' := by
  refine ⟨hl, hs, fun l b z tA D => ?_⟩
  refine Met.ofW (cc := am_bytes mid) (maxL := am_maxL mid) (ret := am_ret mid) hy rfl ?_
  intro p e s m args below meth c s₁ B hml hv
  obtain ⟨rfl, hsz, hP, hK⟩ := hv
  have hx := B.exec
  have hb := B.bytes
  have hr := B.returns
  have hts := atoms_spec (ws := am_ws mid) B.pre
  have hown2 : s.vm.findClass (am_own mid) = some m.cls := findClass_of_methodNamed B.named
  have hlocks := B.notSynchronized
  have hin : am_init mid = true → meth.name = "<init>" := fun q => by rw [(name_of_methodNamed B.named B.method).1]; exact hi q
  rw [lg_entry_eq]
  have hlv := am_ent_lv b z (am_maxL mid) as hn
  refine g p l e _ s m _ below meth c _ b z h.length (am_sl h) tA D ⟨hx, hb, hml, hown2, fun w hw => hts w (List.mem_cons_of_mem _ hw), hK, hsz, hin, Nat.le_refl _, Nat.le_refl _, ?_, ?_, fun q => by rw [h0] at q; cases q⟩ ?_ s.heap [] _ 0 0 hlv hP va_S.rf ⟨rfl, hl⟩ ⟨rfl, hs⟩
  · show h'.length ≤ h.length + (h'.length - h.length)
    omega
  · show am_sl h' ≤ am_sl h + (am_sl h' - am_sl h)
    omega
  · intro H locs ls cells slots hl1 hP1 hS1 hc1 hs1
    have e1 : h'.length - h.length = cells := by omega
    have e2 : am_sl h' - am_sl h = slots := by omega
    rw [e1, e2]
    rcases hret with ⟨rfl, hrt, hd⟩ | ⟨x, rfl, hrt, hd⟩ | ⟨x, rfl, hx01, hrt, hd⟩ | ⟨x, rfl, hrt, hd⟩
    · exact W.vret hx hb (by rw [hr, hrt]) (fun t ht hW => ⟨rfl, by rw [ht]; exact hP1, hS1.F ht⟩) hS1.2.2 hd
    · exact W.iret hx hb (by rw [hr, hrt]) (fun t ht hW => ⟨rfl, by rw [ht]; exact hP1, hS1.F ht⟩) hS1.2.2 hd
    · exact W.zret (ty := .boolean) hx hb (by rw [hr, hrt]) (by rcases hx01 with rfl | rfl <;> decide) (fun t ht hW => ⟨rfl, by rw [ht]; exact hP1, hS1.F ht⟩) hS1.2.2 hd
    · exact W.lret hx hb (by rw [hr, hrt]) (fun t ht hW => ⟨rfl, by rw [ht]; exact hP1, hS1.F ht⟩) hS1.2.2 hd
/-- behind a call -/
theorem am_back {p : Program} {l : Launch} {e : Env} {R : Room} {s : State} {m : MethodId} {args : Array Value} {below : List Frame} {meth : Method} {c : Code} {H : Heap} {locs : List Loc} {cells slots mc ms : Nat} {Q : State → Prop} {pc : Nat} {ls : Array Slot} {st0 rest : List Value} {a : Array Value} {b z : Nat} {tA : FieldType → ClassId} {D : va_G} {r : Option am_V} {h' : am_H}
    (hr : va_Run p l e R s m args below meth c H locs cells slots mc ms (F0 m pc ls st0) rest (am_Qc b z tA D r h' a) (fun q => z ≤ q)) (hS : va_S (fun q => z ≤ q) s.heap H locs)
    (kk : ∀ (H1 : Heap) (locs1 : List Loc), va_P D am_cl (am_cw b z tA 0 h') H1 → va_S (fun q => z ≤ q) s.heap H1 locs1 → W p l e R s m args below meth c H1 locs1 (cells + mc) (slots + ms) Q (F0 m (pc + 3) ls ((r.map (am_c b z)).toList ++ rest))) : W p l e R s m args below meth c H locs cells slots Q (F0 m pc ls st0) := by
  intro T hT X
  obtain ⟨v, st₀, t, T', L, h0, X', hL, e1, e2, ⟨hv, hb, hz, hk⟩, st⟩ := hr T hT X
  cases hv
  rw [h0] at hz hk
  obtain ⟨t2, a1, b1⟩ := kk T'.heap (locs ++ L) (by rw [e1]; exact hb)
    ⟨Nat.le_trans hS.1 (by rw [e1]; exact hz), fun q h1 h2 => by rw [e1, hk q (Nat.lt_of_lt_of_le h1 hS.1) h2]; exact hS.2.1 q h1 h2, fun q hq => by
      rcases List.mem_append.mp hq with h | h
      · exact hS.2.2 q h
      · exact hL q h⟩ T' rfl X'
  exact ⟨t2, st t2 a1, b1⟩
theorem am_heapsize {b z n0 cells : Nat} {tA : FieldType → ClassId} {D : va_G} {h : am_H} {s : State} {H : Heap} {locs : List Loc} (hP : va_P D am_cl (am_cw b z tA 0 h) H) (hS : va_S (fun q => z ≤ q) s.heap H locs) (hz : s.heap.size = z + n0) (hc : h.length = n0 + cells) (hsz : H.size ≤ s.heap.size + cells) : H.size = z + h.length := by
  have h1 := hS.1
  cases hcl : cells with
  | zero => omega
  | succ k =>
    have hlt : h.length - 1 < h.length := by omega
    have hg : h[h.length - 1]? = some h[h.length - 1] := List.getElem?_eq_getElem hlt
    have h2 := (hP _ _ (am_cw_at (b := b) (z := z) (tA := tA) hg)).lt
    dsimp only at h2
    omega
theorem am_sumC (b z : Nat) (st : List am_V) (k : Nat) (h : am_sum st ≤ k) : ((st.map (am_c b z)).map fun v => v.category).sum ≤ k := by
  rw [List.map_map]
  have e : (fun v => Value.category v) ∘ am_c b z = am_cat := funext fun v => am_c_cat b z v
  rw [e]; exact h
section CALL
variable {d N S L : Nat} {xs : Nat → Int} {mid mid' : am_M} {pc idx : Nat} {lv : am_L} {st as : List am_V} {h h' : am_H} {res : Option am_V}
theorem am_rooms {d mc ms : Nat} {R : Room} {mid' : am_M} (hm : am_maxL mid' + 19 ≤ am_lw) (hf : d + 1 + 1 ≤ R.frames) (hlo : am_lw * (d + 1 + 1) ≤ R.locals) : (am_room d mc ms).frames + 1 ≤ R.frames ∧ 8 + (am_maxL mid' + 11) + (am_room d mc ms).locals ≤ R.locals := by
  refine ⟨hf, ?_⟩
  show 8 + (am_maxL mid' + 11) + am_lw * (d + 1) ≤ R.locals
  have e1 : am_lw * (d + 1 + 1) = am_lw * (d + 1) + am_lw := Nat.mul_succ _ _
  omega
/-- a call of an object's method -/
theorem Go.callV {r ci nF : Nat} {T : u_T} {fs : List am_V} (hd : decode (am_bytes mid) pc = .ok (.invokevirtual idx, 3)) (hk : Jvm.Cond.methodLink (am_own mid) idx (am_y mid') ∈ am_TS) (cf : am_cfV mid' as.length) (hc : am_cl[ci]? = some ((am_y mid').cls, T, nF)) (hr : h[r]? = some (.inr (ci, fs)))
    (hcl : Cl d mid' (vR (r + 1) :: as) h res h') (hst : am_sum st ≤ 8) (hlv : lv.length = am_maxL mid) (hN : h'.length ≤ N) (hS : am_sl h' ≤ S) : Go (d + 1) N S L xs mid pc lv (as.reverse ++ vR (r + 1) :: st) h (pc + 3) lv (res.toList ++ st) h' := by
  intro p l e R s m args below meth c Q b z n0 s0 tA D X kk H locs ls cells slots hl hP hS0 hc1 hs
  obtain ⟨hx, hb, hml, hown, hts, hK, hz, hini, hf, hlo, hNN, hSS, hscr⟩ := X
  obtain ⟨hl1, hl2, hM⟩ := hcl
  obtain ⟨f1, f2, f3, f4, f5, f6⟩ := cf
  refine am_size (fun hsz => ?_)
  have hHs := am_heapsize hP hS0 hz hc1.1 hsz
  have hp : PreV s H (am_y mid').cls (z + r) (am_Pc b z tA D (vR (r + 1) :: as) h) (as.map (am_c b z)) :=
    ⟨am_blind b z tA D _ h, va_recv hK hP hc (am_cw_at hr), fun U hU hW => ⟨rfl, by rw [hU]; exact hHs, by rw [hU]; exact hP, va_K.moved hW.alike hK⟩⟩
  have hstk : (as.reverse ++ vR (r + 1) :: st).map (am_c b z) = (as.map (am_c b z)).reverse ++ .ref (z + r) :: st.map (am_c b z) := by
    rw [List.map_append, List.map_reverse]; rfl
  have hrun := va_runV (R := R) (g := F0 m pc ls ((as.reverse ++ vR (r + 1) :: st).map (am_c b z))) (e := e) (below := below) (meth := meth) (locs := locs) (cells := cells) (slots := slots) ⟨hx, hb, hml, hown, hts⟩ (hM l b z tA D)
    ⟨callB_of as.length hts (am_good0 f1) rfl rfl rfl (hts _ f4) (hts _ hk) f6 (am_rooms f5.1 hf hlo), hts _ f2, hts _ f3⟩ hp rfl (by rw [List.length_map]) (by rw [hl.2.1, hlv]) hstk (by show 2 * 0 + _ ≤ 8; have := am_sumC b z st 8 hst; omega) hd (by omega)
  refine am_back hrun hS0 (fun H1 locs1 hP1 hS1 => ?_)
  have hk := kk H1 locs1 ls (cells + (h'.length - h.length)) (slots + (am_sl h' - am_sl h)) hl hP1 hS1 (by omega) (by omega)
  cases res <;> exact hk
/-- a call of a static method -/
theorem Go.callS (hd : decode (am_bytes mid) pc = .ok (.invokestatic idx, 3)) (hk : Jvm.Cond.methodLink (am_own mid) idx (am_y mid') ∈ am_TS) (cf : am_cfS mid' as.length)
    (hcl : Cl d mid' as h res h') (hst : am_sum st ≤ 8) (hlv : lv.length = am_maxL mid) (hN : h'.length ≤ N) (hS : am_sl h' ≤ S) : Go (d + 1) N S L xs mid pc lv (as.reverse ++ st) h (pc + 3) lv (res.toList ++ st) h' := by
  intro p l e R s m args below meth c Q b z n0 s0 tA D X kk H locs ls cells slots hl hP hS0 hc1 hs
  obtain ⟨hx, hb, hml, hown, hts, hK, hz, hini, hf, hlo, hNN, hSS, hscr⟩ := X
  obtain ⟨hl1, hl2, hM⟩ := hcl
  obtain ⟨f1, f2, f4, f5, f6⟩ := cf
  refine am_size (fun hsz => ?_)
  have hHs := am_heapsize hP hS0 hz hc1.1 hsz
  have hp : PreS s H (am_Pc b z tA D as h) (as.map (am_c b z)) :=
    ⟨am_blind b z tA D _ h, fun U hU hW => ⟨rfl, by rw [hU]; exact hHs, by rw [hU]; exact hP, va_K.moved hW.alike hK⟩⟩
  have hstk : (as.reverse ++ st).map (am_c b z) = (as.map (am_c b z)).reverse ++ st.map (am_c b z) := by
    rw [List.map_append, List.map_reverse]
  have hrun := va_runS (R := R) (g := F0 m pc ls ((as.reverse ++ st).map (am_c b z))) (e := e) (below := below) (meth := meth) (locs := locs) (cells := cells) (slots := slots) ⟨hx, hb, hml, hown, hts⟩ (hM l b z tA D)
    ⟨callB_of as.length hts (am_good0 f1) rfl rfl rfl (hts _ f4) (hts _ hk) f6 (am_rooms f5.1 hf hlo), hts _ f2⟩ hp rfl (by rw [List.length_map]) (by rw [hl.2.1, hlv]) hstk (by show 2 * 0 + _ ≤ 8; have := am_sumC b z st 8 hst; omega) hd (by omega)
  refine am_back hrun hS0 (fun H1 locs1 hP1 hS1 => ?_)
  have hk := kk H1 locs1 ls (cells + (h'.length - h.length)) (slots + (am_sl h' - am_sl h)) hl hP1 hS1 (by omega) (by omega)
  cases res <;> exact hk
/-- a call of a constructor -/
theorem Go.callI {r : Nat} (hd : decode (am_bytes mid) pc = .ok (.invokespecial idx, 3)) (hk : Jvm.Cond.methodLink (am_own mid) idx (am_y mid') ∈ am_TS) (cf : am_cfI mid' as.length)
    (hcl : Cl d mid' (vR (r + 1) :: as) h none h') (hst : am_sum st ≤ 8) (hlv : lv.length = am_maxL mid) (hN : h'.length ≤ N) (hS : am_sl h' ≤ S) : Go (d + 1) N S L xs mid pc lv (as.reverse ++ vR (r + 1) :: st) h (pc + 3) lv st h' := by
  intro p l e R s m args below meth c Q b z n0 s0 tA D X kk H locs ls cells slots hl hP hS0 hc1 hs
  obtain ⟨hx, hb, hml, hown, hts, hK, hz, hini, hf, hlo, hNN, hSS, hscr⟩ := X
  obtain ⟨hl1, hl2, hM⟩ := hcl
  obtain ⟨f1, f2, f4, ⟨f5, f6⟩, f7, f8⟩ := cf
  have f1' : Jvm.Cond.code (am_y mid') (am_bytes mid') (am_maxL mid') (am_ret mid') ∈ am_TS := by rw [f8]; exact f1
  refine am_size (fun hsz => ?_)
  have hHs := am_heapsize hP hS0 hz hc1.1 hsz
  have hp : PreS s H (am_Pc b z tA D (vR (r + 1) :: as) h) (.ref (z + r) :: as.map (am_c b z)) :=
    ⟨am_blind b z tA D _ h, fun U hU hW => ⟨rfl, by rw [hU]; exact hHs, by rw [hU]; exact hP, va_K.moved hW.alike hK⟩⟩
  have hstk : (as.reverse ++ vR (r + 1) :: st).map (am_c b z) = (as.map (am_c b z)).reverse ++ .ref (z + r) :: st.map (am_c b z) := by
    rw [List.map_append, List.map_reverse]; rfl
  have hrun := va_runI (R := R) (g := F0 m pc ls ((as.reverse ++ vR (r + 1) :: st).map (am_c b z))) (e := e) (below := below) (meth := meth) (locs := locs) (cells := cells) (slots := slots) ⟨hx, hb, hml, hown, hts⟩ (hM l b z tA D)
    ⟨callB_of as.length hts (am_good0 f1') (by rw [am_ws, f8]) rfl rfl (hts _ f4) (hts _ hk) f6 (am_rooms f5.1 hf hlo), f7, hts _ f2⟩ hp rfl (by rw [List.length_map]) (by rw [hl.2.1, hlv]) hstk (by show 2 * 0 + _ ≤ 8; have := am_sumC b z st 8 hst; omega) hd (by omega)
  exact am_back hrun hS0 (fun H1 locs1 hP1 hS1 => kk H1 locs1 ls (cells + (h'.length - h.length)) (slots + (am_sl h' - am_sl h)) hl hP1 hS1 (by omega) (by omega))
end CALL
end

section
-- ===== PART A: goes FIRST, ahead of the names: the tables' words, and 'selects' of the private methods out of them =====
/-- a private method of a class that the tables say can be made, by its rows of tables_1 -/
def lw_okq (q : MethodName × Nat) : Prop := (q.1.cls ≠ "java/lang/invoke/MethodHandle" ∧ q.1.cls ≠ "java/lang/invoke/VarHandle") ∧ Cond.instantiable q.1.cls q.2 ∈ tables_1 ∧ Cond.privateMethod q.1 ∈ tables_1 ∧ Cond.instanceMethod q.1 ∈ tables_1
theorem lw_p0 : lw_okq (⟨"ProofLedger$Context", "forgetPairs", "(I)V"⟩, 11) := ⟨⟨by decide +kernel, by decide +kernel⟩, List.mem_of_getElem? (i := 210) (by decide +kernel), List.mem_of_getElem? (i := 414) (by decide +kernel), List.mem_of_getElem? (i := 415) (by decide +kernel)⟩
theorem lw_p1 : lw_okq (⟨"ProofLedger$Text", "scanWord", "()Z"⟩, 8) := ⟨⟨by decide +kernel, by decide +kernel⟩, List.mem_of_getElem? (i := 25) (by decide +kernel), List.mem_of_getElem? (i := 438) (by decide +kernel), List.mem_of_getElem? (i := 439) (by decide +kernel)⟩
theorem lw_p2 : lw_okq (⟨"ProofLedger$Reader", "beginUnlabelled", "(I)I"⟩, 9) := ⟨⟨by decide +kernel, by decide +kernel⟩, List.mem_of_getElem? (i := 204) (by decide +kernel), List.mem_of_getElem? (i := 452) (by decide +kernel), List.mem_of_getElem? (i := 453) (by decide +kernel)⟩
theorem lw_p3 : lw_okq (⟨"ProofLedger$Reader", "beginNames", "(I)I"⟩, 9) := ⟨⟨by decide +kernel, by decide +kernel⟩, List.mem_of_getElem? (i := 204) (by decide +kernel), List.mem_of_getElem? (i := 464) (by decide +kernel), List.mem_of_getElem? (i := 465) (by decide +kernel)⟩
theorem lw_p4 : lw_okq (⟨"ProofLedger$Reader", "endNames", "(I)I"⟩, 9) := ⟨⟨by decide +kernel, by decide +kernel⟩, List.mem_of_getElem? (i := 204) (by decide +kernel), List.mem_of_getElem? (i := 468) (by decide +kernel), List.mem_of_getElem? (i := 469) (by decide +kernel)⟩
theorem lw_p5 : lw_okq (⟨"ProofLedger$Reader", "takeKind", "(I)I"⟩, 9) := ⟨⟨by decide +kernel, by decide +kernel⟩, List.mem_of_getElem? (i := 204) (by decide +kernel), List.mem_of_getElem? (i := 472) (by decide +kernel), List.mem_of_getElem? (i := 473) (by decide +kernel)⟩
theorem lw_p6 : lw_okq (⟨"ProofLedger$Reader", "declare", "()I"⟩, 9) := ⟨⟨by decide +kernel, by decide +kernel⟩, List.mem_of_getElem? (i := 204) (by decide +kernel), List.mem_of_getElem? (i := 476) (by decide +kernel), List.mem_of_getElem? (i := 477) (by decide +kernel)⟩
theorem lw_p7 : lw_okq (⟨"ProofLedger$Reader", "endSymbols", "(I)I"⟩, 9) := ⟨⟨by decide +kernel, by decide +kernel⟩, List.mem_of_getElem? (i := 204) (by decide +kernel), List.mem_of_getElem? (i := 488) (by decide +kernel), List.mem_of_getElem? (i := 489) (by decide +kernel)⟩
theorem lw_p8 : lw_okq (⟨"ProofLedger$Reader", "beginAssertion", "(I)V"⟩, 9) := ⟨⟨by decide +kernel, by decide +kernel⟩, List.mem_of_getElem? (i := 204) (by decide +kernel), List.mem_of_getElem? (i := 492) (by decide +kernel), List.mem_of_getElem? (i := 493) (by decide +kernel)⟩
theorem lw_p9 : lw_okq (⟨"ProofLedger$Reader", "mandatoryVariables", "(I)J"⟩, 9) := ⟨⟨by decide +kernel, by decide +kernel⟩, List.mem_of_getElem? (i := 204) (by decide +kernel), List.mem_of_getElem? (i := 500) (by decide +kernel), List.mem_of_getElem? (i := 501) (by decide +kernel)⟩
theorem lw_p10 : lw_okq (⟨"ProofLedger$Reader", "isActiveHypothesis", "(I)Z"⟩, 9) := ⟨⟨by decide +kernel, by decide +kernel⟩, List.mem_of_getElem? (i := 204) (by decide +kernel), List.mem_of_getElem? (i := 504) (by decide +kernel), List.mem_of_getElem? (i := 505) (by decide +kernel)⟩
theorem lw_p11 : lw_okq (⟨"ProofLedger$Reader", "keepPairs", "(J)V"⟩, 9) := ⟨⟨by decide +kernel, by decide +kernel⟩, List.mem_of_getElem? (i := 204) (by decide +kernel), List.mem_of_getElem? (i := 508) (by decide +kernel), List.mem_of_getElem? (i := 509) (by decide +kernel)⟩
theorem lw_p12 : lw_okq (⟨"ProofLedger$Reader", "endProof", "()I"⟩, 9) := ⟨⟨by decide +kernel, by decide +kernel⟩, List.mem_of_getElem? (i := 204) (by decide +kernel), List.mem_of_getElem? (i := 521) (by decide +kernel), List.mem_of_getElem? (i := 522) (by decide +kernel)⟩
theorem lw_p13 : lw_okq (⟨"ProofLedger$Reader", "takeLabel", "(J)I"⟩, 9) := ⟨⟨by decide +kernel, by decide +kernel⟩, List.mem_of_getElem? (i := 204) (by decide +kernel), List.mem_of_getElem? (i := 541) (by decide +kernel), List.mem_of_getElem? (i := 542) (by decide +kernel)⟩
theorem lw_p14 : lw_okq (⟨"ProofLedger$Reader", "declareConstant", "(J)I"⟩, 9) := ⟨⟨by decide +kernel, by decide +kernel⟩, List.mem_of_getElem? (i := 204) (by decide +kernel), List.mem_of_getElem? (i := 565) (by decide +kernel), List.mem_of_getElem? (i := 566) (by decide +kernel)⟩
theorem lw_p15 : lw_okq (⟨"ProofLedger$Reader", "declareVariable", "(J)I"⟩, 9) := ⟨⟨by decide +kernel, by decide +kernel⟩, List.mem_of_getElem? (i := 204) (by decide +kernel), List.mem_of_getElem? (i := 569) (by decide +kernel), List.mem_of_getElem? (i := 570) (by decide +kernel)⟩
def lw_privs_1 : List (MethodName × Nat) := [(⟨"ProofLedger$Context", "forgetPairs", "(I)V"⟩, 11), (⟨"ProofLedger$Text", "scanWord", "()Z"⟩, 8), (⟨"ProofLedger$Reader", "beginUnlabelled", "(I)I"⟩, 9), (⟨"ProofLedger$Reader", "beginNames", "(I)I"⟩, 9), (⟨"ProofLedger$Reader", "endNames", "(I)I"⟩, 9), (⟨"ProofLedger$Reader", "takeKind", "(I)I"⟩, 9), (⟨"ProofLedger$Reader", "declare", "()I"⟩, 9), (⟨"ProofLedger$Reader", "endSymbols", "(I)I"⟩, 9), (⟨"ProofLedger$Reader", "beginAssertion", "(I)V"⟩, 9), (⟨"ProofLedger$Reader", "mandatoryVariables", "(I)J"⟩, 9), (⟨"ProofLedger$Reader", "isActiveHypothesis", "(I)Z"⟩, 9), (⟨"ProofLedger$Reader", "keepPairs", "(J)V"⟩, 9), (⟨"ProofLedger$Reader", "endProof", "()I"⟩, 9), (⟨"ProofLedger$Reader", "takeLabel", "(J)I"⟩, 9), (⟨"ProofLedger$Reader", "declareConstant", "(J)I"⟩, 9), (⟨"ProofLedger$Reader", "declareVariable", "(J)I"⟩, 9)]
theorem lw_r1 : ∀ q ∈ lw_privs_1, lw_okq q := List.forall_mem_cons.mpr ⟨lw_p0, List.forall_mem_cons.mpr ⟨lw_p1, List.forall_mem_cons.mpr ⟨lw_p2, List.forall_mem_cons.mpr ⟨lw_p3, List.forall_mem_cons.mpr ⟨lw_p4, List.forall_mem_cons.mpr ⟨lw_p5, List.forall_mem_cons.mpr ⟨lw_p6, List.forall_mem_cons.mpr ⟨lw_p7, List.forall_mem_cons.mpr ⟨lw_p8, List.forall_mem_cons.mpr ⟨lw_p9, List.forall_mem_cons.mpr ⟨lw_p10, List.forall_mem_cons.mpr ⟨lw_p11, List.forall_mem_cons.mpr ⟨lw_p12, List.forall_mem_cons.mpr ⟨lw_p13, List.forall_mem_cons.mpr ⟨lw_p14, List.forall_mem_cons.mpr ⟨lw_p15, fun _ h => absurd h List.not_mem_nil⟩⟩⟩⟩⟩⟩⟩⟩⟩⟩⟩⟩⟩⟩⟩⟩
theorem lw_p16 : lw_okq (⟨"ProofLedger$Reader", "isActive", "(I)Z"⟩, 9) := ⟨⟨by decide +kernel, by decide +kernel⟩, List.mem_of_getElem? (i := 204) (by decide +kernel), List.mem_of_getElem? (i := 573) (by decide +kernel), List.mem_of_getElem? (i := 574) (by decide +kernel)⟩
theorem lw_p17 : lw_okq (⟨"ProofLedger$Reader", "takeApart", "(I)I"⟩, 9) := ⟨⟨by decide +kernel, by decide +kernel⟩, List.mem_of_getElem? (i := 204) (by decide +kernel), List.mem_of_getElem? (i := 577) (by decide +kernel), List.mem_of_getElem? (i := 578) (by decide +kernel)⟩
theorem lw_p18 : lw_okq (⟨"ProofLedger$Reader", "meaningOf", "(I)I"⟩, 9) := ⟨⟨by decide +kernel, by decide +kernel⟩, List.mem_of_getElem? (i := 204) (by decide +kernel), List.mem_of_getElem? (i := 581) (by decide +kernel), List.mem_of_getElem? (i := 582) (by decide +kernel)⟩
theorem lw_p19 : lw_okq (⟨"ProofLedger$Reader", "takeType", "(I)I"⟩, 9) := ⟨⟨by decide +kernel, by decide +kernel⟩, List.mem_of_getElem? (i := 204) (by decide +kernel), List.mem_of_getElem? (i := 586) (by decide +kernel), List.mem_of_getElem? (i := 587) (by decide +kernel)⟩
theorem lw_p20 : lw_okq (⟨"ProofLedger$Reader", "takeFloating", "(I)I"⟩, 9) := ⟨⟨by decide +kernel, by decide +kernel⟩, List.mem_of_getElem? (i := 204) (by decide +kernel), List.mem_of_getElem? (i := 594) (by decide +kernel), List.mem_of_getElem? (i := 595) (by decide +kernel)⟩
theorem lw_p21 : lw_okq (⟨"ProofLedger$Reader", "isTyped", "(I)Z"⟩, 9) := ⟨⟨by decide +kernel, by decide +kernel⟩, List.mem_of_getElem? (i := 204) (by decide +kernel), List.mem_of_getElem? (i := 598) (by decide +kernel), List.mem_of_getElem? (i := 599) (by decide +kernel)⟩
theorem lw_p22 : lw_okq (⟨"ProofLedger$Reader", "takeSymbol", "(I)I"⟩, 9) := ⟨⟨by decide +kernel, by decide +kernel⟩, List.mem_of_getElem? (i := 204) (by decide +kernel), List.mem_of_getElem? (i := 602) (by decide +kernel), List.mem_of_getElem? (i := 603) (by decide +kernel)⟩
theorem lw_p23 : lw_okq (⟨"ProofLedger$Reader", "beginSteps", "(J)I"⟩, 9) := ⟨⟨by decide +kernel, by decide +kernel⟩, List.mem_of_getElem? (i := 204) (by decide +kernel), List.mem_of_getElem? (i := 610) (by decide +kernel), List.mem_of_getElem? (i := 611) (by decide +kernel)⟩
theorem lw_p24 : lw_okq (⟨"ProofLedger$Reader", "takeStep", "(J)I"⟩, 9) := ⟨⟨by decide +kernel, by decide +kernel⟩, List.mem_of_getElem? (i := 204) (by decide +kernel), List.mem_of_getElem? (i := 615) (by decide +kernel), List.mem_of_getElem? (i := 616) (by decide +kernel)⟩
theorem lw_p25 : lw_okq (⟨"ProofLedger$Reader", "findUsable", "(J)I"⟩, 9) := ⟨⟨by decide +kernel, by decide +kernel⟩, List.mem_of_getElem? (i := 204) (by decide +kernel), List.mem_of_getElem? (i := 628) (by decide +kernel), List.mem_of_getElem? (i := 629) (by decide +kernel)⟩
theorem lw_p26 : lw_okq (⟨"ProofLedger$Proof", "bind", "(II)Z"⟩, 8) := ⟨⟨by decide +kernel, by decide +kernel⟩, List.mem_of_getElem? (i := 256) (by decide +kernel), List.mem_of_getElem? (i := 662) (by decide +kernel), List.mem_of_getElem? (i := 663) (by decide +kernel)⟩
theorem lw_p27 : lw_okq (⟨"ProofLedger$Proof", "replaceIn", "(I)Z"⟩, 8) := ⟨⟨by decide +kernel, by decide +kernel⟩, List.mem_of_getElem? (i := 256) (by decide +kernel), List.mem_of_getElem? (i := 674) (by decide +kernel), List.mem_of_getElem? (i := 675) (by decide +kernel)⟩
theorem lw_p28 : lw_okq (⟨"ProofLedger$Proof", "keepsApart", "(I)Z"⟩, 8) := ⟨⟨by decide +kernel, by decide +kernel⟩, List.mem_of_getElem? (i := 256) (by decide +kernel), List.mem_of_getElem? (i := 685) (by decide +kernel), List.mem_of_getElem? (i := 686) (by decide +kernel)⟩
theorem lw_p29 : lw_okq (⟨"ProofLedger$Reader", "takeListed", "(J)I"⟩, 9) := ⟨⟨by decide +kernel, by decide +kernel⟩, List.mem_of_getElem? (i := 204) (by decide +kernel), List.mem_of_getElem? (i := 713) (by decide +kernel), List.mem_of_getElem? (i := 714) (by decide +kernel)⟩
theorem lw_p30 : lw_okq (⟨"ProofLedger$Letters", "takeLetter", "(I)I"⟩, 10) := ⟨⟨by decide +kernel, by decide +kernel⟩, List.mem_of_getElem? (i := 291) (by decide +kernel), List.mem_of_getElem? (i := 727) (by decide +kernel), List.mem_of_getElem? (i := 728) (by decide +kernel)⟩
theorem lw_p31 : lw_okq (⟨"ProofLedger$Letters", "addGap", "()I"⟩, 10) := ⟨⟨by decide +kernel, by decide +kernel⟩, List.mem_of_getElem? (i := 291) (by decide +kernel), List.mem_of_getElem? (i := 731) (by decide +kernel), List.mem_of_getElem? (i := 732) (by decide +kernel)⟩
def lw_privs_2 : List (MethodName × Nat) := [(⟨"ProofLedger$Reader", "isActive", "(I)Z"⟩, 9), (⟨"ProofLedger$Reader", "takeApart", "(I)I"⟩, 9), (⟨"ProofLedger$Reader", "meaningOf", "(I)I"⟩, 9), (⟨"ProofLedger$Reader", "takeType", "(I)I"⟩, 9), (⟨"ProofLedger$Reader", "takeFloating", "(I)I"⟩, 9), (⟨"ProofLedger$Reader", "isTyped", "(I)Z"⟩, 9), (⟨"ProofLedger$Reader", "takeSymbol", "(I)I"⟩, 9), (⟨"ProofLedger$Reader", "beginSteps", "(J)I"⟩, 9), (⟨"ProofLedger$Reader", "takeStep", "(J)I"⟩, 9), (⟨"ProofLedger$Reader", "findUsable", "(J)I"⟩, 9), (⟨"ProofLedger$Proof", "bind", "(II)Z"⟩, 8), (⟨"ProofLedger$Proof", "replaceIn", "(I)Z"⟩, 8), (⟨"ProofLedger$Proof", "keepsApart", "(I)Z"⟩, 8), (⟨"ProofLedger$Reader", "takeListed", "(J)I"⟩, 9), (⟨"ProofLedger$Letters", "takeLetter", "(I)I"⟩, 10), (⟨"ProofLedger$Letters", "addGap", "()I"⟩, 10)]
theorem lw_r2 : ∀ q ∈ lw_privs_2, lw_okq q := List.forall_mem_cons.mpr ⟨lw_p16, List.forall_mem_cons.mpr ⟨lw_p17, List.forall_mem_cons.mpr ⟨lw_p18, List.forall_mem_cons.mpr ⟨lw_p19, List.forall_mem_cons.mpr ⟨lw_p20, List.forall_mem_cons.mpr ⟨lw_p21, List.forall_mem_cons.mpr ⟨lw_p22, List.forall_mem_cons.mpr ⟨lw_p23, List.forall_mem_cons.mpr ⟨lw_p24, List.forall_mem_cons.mpr ⟨lw_p25, List.forall_mem_cons.mpr ⟨lw_p26, List.forall_mem_cons.mpr ⟨lw_p27, List.forall_mem_cons.mpr ⟨lw_p28, List.forall_mem_cons.mpr ⟨lw_p29, List.forall_mem_cons.mpr ⟨lw_p30, List.forall_mem_cons.mpr ⟨lw_p31, fun _ h => absurd h List.not_mem_nil⟩⟩⟩⟩⟩⟩⟩⟩⟩⟩⟩⟩⟩⟩⟩⟩
theorem lw_p32 : lw_okq (⟨"ProofLedger$Letters", "addTag", "()I"⟩, 10) := ⟨⟨by decide +kernel, by decide +kernel⟩, List.mem_of_getElem? (i := 291) (by decide +kernel), List.mem_of_getElem? (i := 736) (by decide +kernel), List.mem_of_getElem? (i := 737) (by decide +kernel)⟩
theorem lw_p33 : lw_okq (⟨"ProofLedger$Letters", "stepWithNumber", "()I"⟩, 10) := ⟨⟨by decide +kernel, by decide +kernel⟩, List.mem_of_getElem? (i := 291) (by decide +kernel), List.mem_of_getElem? (i := 741) (by decide +kernel), List.mem_of_getElem? (i := 742) (by decide +kernel)⟩
theorem lw_p34 : lw_okq (⟨"ProofLedgerModel", "findWords", "()V"⟩, 57) := ⟨⟨by decide +kernel, by decide +kernel⟩, List.mem_of_getElem? (i := 821) (by decide +kernel), List.mem_of_getElem? (i := 1012) (by decide +kernel), List.mem_of_getElem? (i := 1013) (by decide +kernel)⟩
theorem lw_p35 : lw_okq (⟨"ProofLedgerModel", "come", "()Z"⟩, 57) := ⟨⟨by decide +kernel, by decide +kernel⟩, List.mem_of_getElem? (i := 821) (by decide +kernel), List.mem_of_getElem? (i := 1016) (by decide +kernel), List.mem_of_getElem? (i := 1017) (by decide +kernel)⟩
theorem lw_p36 : lw_okq (⟨"ProofLedgerModel", "isTwo", "(III)Z"⟩, 57) := ⟨⟨by decide +kernel, by decide +kernel⟩, List.mem_of_getElem? (i := 821) (by decide +kernel), List.mem_of_getElem? (i := 1020) (by decide +kernel), List.mem_of_getElem? (i := 1021) (by decide +kernel)⟩
theorem lw_p37 : lw_okq (⟨"ProofLedgerModel", "letter", "(II)I"⟩, 57) := ⟨⟨by decide +kernel, by decide +kernel⟩, List.mem_of_getElem? (i := 821) (by decide +kernel), List.mem_of_getElem? (i := 1024) (by decide +kernel), List.mem_of_getElem? (i := 1025) (by decide +kernel)⟩
theorem lw_p38 : lw_okq (⟨"ProofLedgerModel", "fail", "(II)V"⟩, 57) := ⟨⟨by decide +kernel, by decide +kernel⟩, List.mem_of_getElem? (i := 821) (by decide +kernel), List.mem_of_getElem? (i := 1028) (by decide +kernel), List.mem_of_getElem? (i := 1029) (by decide +kernel)⟩
theorem lw_p39 : lw_okq (⟨"ProofLedgerModel", "readStatement", "()V"⟩, 57) := ⟨⟨by decide +kernel, by decide +kernel⟩, List.mem_of_getElem? (i := 821) (by decide +kernel), List.mem_of_getElem? (i := 1032) (by decide +kernel), List.mem_of_getElem? (i := 1033) (by decide +kernel)⟩
theorem lw_p40 : lw_okq (⟨"ProofLedgerModel", "whatIs", "(I)I"⟩, 57) := ⟨⟨by decide +kernel, by decide +kernel⟩, List.mem_of_getElem? (i := 821) (by decide +kernel), List.mem_of_getElem? (i := 1036) (by decide +kernel), List.mem_of_getElem? (i := 1037) (by decide +kernel)⟩
theorem lw_p41 : lw_okq (⟨"ProofLedgerModel", "readLabelled", "()V"⟩, 57) := ⟨⟨by decide +kernel, by decide +kernel⟩, List.mem_of_getElem? (i := 821) (by decide +kernel), List.mem_of_getElem? (i := 1040) (by decide +kernel), List.mem_of_getElem? (i := 1041) (by decide +kernel)⟩
theorem lw_p42 : lw_okq (⟨"ProofLedgerModel", "codeOf", "(I)J"⟩, 57) := ⟨⟨by decide +kernel, by decide +kernel⟩, List.mem_of_getElem? (i := 821) (by decide +kernel), List.mem_of_getElem? (i := 1044) (by decide +kernel), List.mem_of_getElem? (i := 1045) (by decide +kernel)⟩
theorem lw_p43 : lw_okq (⟨"ProofLedgerModel", "find", "(J)I"⟩, 57) := ⟨⟨by decide +kernel, by decide +kernel⟩, List.mem_of_getElem? (i := 821) (by decide +kernel), List.mem_of_getElem? (i := 1049) (by decide +kernel), List.mem_of_getElem? (i := 1050) (by decide +kernel)⟩
theorem lw_p44 : lw_okq (⟨"ProofLedgerModel", "need", "()I"⟩, 57) := ⟨⟨by decide +kernel, by decide +kernel⟩, List.mem_of_getElem? (i := 821) (by decide +kernel), List.mem_of_getElem? (i := 1053) (by decide +kernel), List.mem_of_getElem? (i := 1054) (by decide +kernel)⟩
theorem lw_p45 : lw_okq (⟨"ProofLedgerModel", "readFloating", "(J)V"⟩, 57) := ⟨⟨by decide +kernel, by decide +kernel⟩, List.mem_of_getElem? (i := 821) (by decide +kernel), List.mem_of_getElem? (i := 1057) (by decide +kernel), List.mem_of_getElem? (i := 1058) (by decide +kernel)⟩
theorem lw_p46 : lw_okq (⟨"ProofLedgerModel", "readType", "()Z"⟩, 57) := ⟨⟨by decide +kernel, by decide +kernel⟩, List.mem_of_getElem? (i := 821) (by decide +kernel), List.mem_of_getElem? (i := 1061) (by decide +kernel), List.mem_of_getElem? (i := 1062) (by decide +kernel)⟩
theorem lw_p47 : lw_okq (⟨"ProofLedgerModel", "needName", "()Z"⟩, 57) := ⟨⟨by decide +kernel, by decide +kernel⟩, List.mem_of_getElem? (i := 821) (by decide +kernel), List.mem_of_getElem? (i := 1065) (by decide +kernel), List.mem_of_getElem? (i := 1066) (by decide +kernel)⟩
def lw_privs_3 : List (MethodName × Nat) := [(⟨"ProofLedger$Letters", "addTag", "()I"⟩, 10), (⟨"ProofLedger$Letters", "stepWithNumber", "()I"⟩, 10), (⟨"ProofLedgerModel", "findWords", "()V"⟩, 57), (⟨"ProofLedgerModel", "come", "()Z"⟩, 57), (⟨"ProofLedgerModel", "isTwo", "(III)Z"⟩, 57), (⟨"ProofLedgerModel", "letter", "(II)I"⟩, 57), (⟨"ProofLedgerModel", "fail", "(II)V"⟩, 57), (⟨"ProofLedgerModel", "readStatement", "()V"⟩, 57), (⟨"ProofLedgerModel", "whatIs", "(I)I"⟩, 57), (⟨"ProofLedgerModel", "readLabelled", "()V"⟩, 57), (⟨"ProofLedgerModel", "codeOf", "(I)J"⟩, 57), (⟨"ProofLedgerModel", "find", "(J)I"⟩, 57), (⟨"ProofLedgerModel", "need", "()I"⟩, 57), (⟨"ProofLedgerModel", "readFloating", "(J)V"⟩, 57), (⟨"ProofLedgerModel", "readType", "()Z"⟩, 57), (⟨"ProofLedgerModel", "needName", "()Z"⟩, 57)]
theorem lw_r3 : ∀ q ∈ lw_privs_3, lw_okq q := List.forall_mem_cons.mpr ⟨lw_p32, List.forall_mem_cons.mpr ⟨lw_p33, List.forall_mem_cons.mpr ⟨lw_p34, List.forall_mem_cons.mpr ⟨lw_p35, List.forall_mem_cons.mpr ⟨lw_p36, List.forall_mem_cons.mpr ⟨lw_p37, List.forall_mem_cons.mpr ⟨lw_p38, List.forall_mem_cons.mpr ⟨lw_p39, List.forall_mem_cons.mpr ⟨lw_p40, List.forall_mem_cons.mpr ⟨lw_p41, List.forall_mem_cons.mpr ⟨lw_p42, List.forall_mem_cons.mpr ⟨lw_p43, List.forall_mem_cons.mpr ⟨lw_p44, List.forall_mem_cons.mpr ⟨lw_p45, List.forall_mem_cons.mpr ⟨lw_p46, List.forall_mem_cons.mpr ⟨lw_p47, fun _ h => absurd h List.not_mem_nil⟩⟩⟩⟩⟩⟩⟩⟩⟩⟩⟩⟩⟩⟩⟩⟩
theorem lw_p48 : lw_okq (⟨"ProofLedgerModel", "findWord", "()I"⟩, 57) := ⟨⟨by decide +kernel, by decide +kernel⟩, List.mem_of_getElem? (i := 821) (by decide +kernel), List.mem_of_getElem? (i := 1069) (by decide +kernel), List.mem_of_getElem? (i := 1070) (by decide +kernel)⟩
theorem lw_p49 : lw_okq (⟨"ProofLedgerModel", "isConstant", "(I)Z"⟩, 57) := ⟨⟨by decide +kernel, by decide +kernel⟩, List.mem_of_getElem? (i := 821) (by decide +kernel), List.mem_of_getElem? (i := 1073) (by decide +kernel), List.mem_of_getElem? (i := 1074) (by decide +kernel)⟩
theorem lw_p50 : lw_okq (⟨"ProofLedgerModel", "isLive", "(I)Z"⟩, 57) := ⟨⟨by decide +kernel, by decide +kernel⟩, List.mem_of_getElem? (i := 821) (by decide +kernel), List.mem_of_getElem? (i := 1077) (by decide +kernel), List.mem_of_getElem? (i := 1078) (by decide +kernel)⟩
theorem lw_p51 : lw_okq (⟨"ProofLedgerModel", "typeOf", "(I)I"⟩, 57) := ⟨⟨by decide +kernel, by decide +kernel⟩, List.mem_of_getElem? (i := 821) (by decide +kernel), List.mem_of_getElem? (i := 1081) (by decide +kernel), List.mem_of_getElem? (i := 1082) (by decide +kernel)⟩
theorem lw_p52 : lw_okq (⟨"ProofLedgerModel", "declare", "(IJ)I"⟩, 57) := ⟨⟨by decide +kernel, by decide +kernel⟩, List.mem_of_getElem? (i := 821) (by decide +kernel), List.mem_of_getElem? (i := 1085) (by decide +kernel), List.mem_of_getElem? (i := 1086) (by decide +kernel)⟩
theorem lw_p53 : lw_okq (⟨"ProofLedgerModel", "addName", "(J)I"⟩, 57) := ⟨⟨by decide +kernel, by decide +kernel⟩, List.mem_of_getElem? (i := 821) (by decide +kernel), List.mem_of_getElem? (i := 1089) (by decide +kernel), List.mem_of_getElem? (i := 1090) (by decide +kernel)⟩
theorem lw_p54 : lw_okq (⟨"ProofLedgerModel", "readExpression", "(I)Z"⟩, 57) := ⟨⟨by decide +kernel, by decide +kernel⟩, List.mem_of_getElem? (i := 821) (by decide +kernel), List.mem_of_getElem? (i := 1093) (by decide +kernel), List.mem_of_getElem? (i := 1094) (by decide +kernel)⟩
theorem lw_p55 : lw_okq (⟨"ProofLedgerModel", "findNeeds", "()V"⟩, 57) := ⟨⟨by decide +kernel, by decide +kernel⟩, List.mem_of_getElem? (i := 821) (by decide +kernel), List.mem_of_getElem? (i := 1097) (by decide +kernel), List.mem_of_getElem? (i := 1098) (by decide +kernel)⟩
theorem lw_p56 : lw_okq (⟨"ProofLedgerModel", "mark", "(IIZ)V"⟩, 57) := ⟨⟨by decide +kernel, by decide +kernel⟩, List.mem_of_getElem? (i := 821) (by decide +kernel), List.mem_of_getElem? (i := 1101) (by decide +kernel), List.mem_of_getElem? (i := 1102) (by decide +kernel)⟩
theorem lw_p57 : lw_okq (⟨"ProofLedgerModel", "isNeeded", "(III)Z"⟩, 57) := ⟨⟨by decide +kernel, by decide +kernel⟩, List.mem_of_getElem? (i := 821) (by decide +kernel), List.mem_of_getElem? (i := 1105) (by decide +kernel), List.mem_of_getElem? (i := 1106) (by decide +kernel)⟩
theorem lw_p58 : lw_okq (⟨"ProofLedgerModel", "begin", "(I)V"⟩, 57) := ⟨⟨by decide +kernel, by decide +kernel⟩, List.mem_of_getElem? (i := 821) (by decide +kernel), List.mem_of_getElem? (i := 1109) (by decide +kernel), List.mem_of_getElem? (i := 1110) (by decide +kernel)⟩
theorem lw_p59 : lw_okq (⟨"ProofLedgerModel", "readProof", "(I)V"⟩, 57) := ⟨⟨by decide +kernel, by decide +kernel⟩, List.mem_of_getElem? (i := 821) (by decide +kernel), List.mem_of_getElem? (i := 1113) (by decide +kernel), List.mem_of_getElem? (i := 1114) (by decide +kernel)⟩
theorem lw_p60 : lw_okq (⟨"ProofLedgerModel", "isWord", "(I)Z"⟩, 57) := ⟨⟨by decide +kernel, by decide +kernel⟩, List.mem_of_getElem? (i := 821) (by decide +kernel), List.mem_of_getElem? (i := 1117) (by decide +kernel), List.mem_of_getElem? (i := 1118) (by decide +kernel)⟩
theorem lw_p61 : lw_okq (⟨"ProofLedgerModel", "readListed", "(I)V"⟩, 57) := ⟨⟨by decide +kernel, by decide +kernel⟩, List.mem_of_getElem? (i := 821) (by decide +kernel), List.mem_of_getElem? (i := 1121) (by decide +kernel), List.mem_of_getElem? (i := 1122) (by decide +kernel)⟩
theorem lw_p62 : lw_okq (⟨"ProofLedgerModel", "lookUp", "()I"⟩, 57) := ⟨⟨by decide +kernel, by decide +kernel⟩, List.mem_of_getElem? (i := 821) (by decide +kernel), List.mem_of_getElem? (i := 1125) (by decide +kernel), List.mem_of_getElem? (i := 1126) (by decide +kernel)⟩
theorem lw_p63 : lw_okq (⟨"ProofLedgerModel", "isMandatory", "(II)Z"⟩, 57) := ⟨⟨by decide +kernel, by decide +kernel⟩, List.mem_of_getElem? (i := 821) (by decide +kernel), List.mem_of_getElem? (i := 1129) (by decide +kernel), List.mem_of_getElem? (i := 1130) (by decide +kernel)⟩
def lw_privs_4 : List (MethodName × Nat) := [(⟨"ProofLedgerModel", "findWord", "()I"⟩, 57), (⟨"ProofLedgerModel", "isConstant", "(I)Z"⟩, 57), (⟨"ProofLedgerModel", "isLive", "(I)Z"⟩, 57), (⟨"ProofLedgerModel", "typeOf", "(I)I"⟩, 57), (⟨"ProofLedgerModel", "declare", "(IJ)I"⟩, 57), (⟨"ProofLedgerModel", "addName", "(J)I"⟩, 57), (⟨"ProofLedgerModel", "readExpression", "(I)Z"⟩, 57), (⟨"ProofLedgerModel", "findNeeds", "()V"⟩, 57), (⟨"ProofLedgerModel", "mark", "(IIZ)V"⟩, 57), (⟨"ProofLedgerModel", "isNeeded", "(III)Z"⟩, 57), (⟨"ProofLedgerModel", "begin", "(I)V"⟩, 57), (⟨"ProofLedgerModel", "readProof", "(I)V"⟩, 57), (⟨"ProofLedgerModel", "isWord", "(I)Z"⟩, 57), (⟨"ProofLedgerModel", "readListed", "(I)V"⟩, 57), (⟨"ProofLedgerModel", "lookUp", "()I"⟩, 57), (⟨"ProofLedgerModel", "isMandatory", "(II)Z"⟩, 57)]
theorem lw_r4 : ∀ q ∈ lw_privs_4, lw_okq q := List.forall_mem_cons.mpr ⟨lw_p48, List.forall_mem_cons.mpr ⟨lw_p49, List.forall_mem_cons.mpr ⟨lw_p50, List.forall_mem_cons.mpr ⟨lw_p51, List.forall_mem_cons.mpr ⟨lw_p52, List.forall_mem_cons.mpr ⟨lw_p53, List.forall_mem_cons.mpr ⟨lw_p54, List.forall_mem_cons.mpr ⟨lw_p55, List.forall_mem_cons.mpr ⟨lw_p56, List.forall_mem_cons.mpr ⟨lw_p57, List.forall_mem_cons.mpr ⟨lw_p58, List.forall_mem_cons.mpr ⟨lw_p59, List.forall_mem_cons.mpr ⟨lw_p60, List.forall_mem_cons.mpr ⟨lw_p61, List.forall_mem_cons.mpr ⟨lw_p62, List.forall_mem_cons.mpr ⟨lw_p63, fun _ h => absurd h List.not_mem_nil⟩⟩⟩⟩⟩⟩⟩⟩⟩⟩⟩⟩⟩⟩⟩⟩
theorem lw_p64 : lw_okq (⟨"ProofLedgerModel", "readLetters", "(I)V"⟩, 57) := ⟨⟨by decide +kernel, by decide +kernel⟩, List.mem_of_getElem? (i := 821) (by decide +kernel), List.mem_of_getElem? (i := 1133) (by decide +kernel), List.mem_of_getElem? (i := 1134) (by decide +kernel)⟩
theorem lw_p65 : lw_okq (⟨"ProofLedgerModel", "isLetters", "()Z"⟩, 57) := ⟨⟨by decide +kernel, by decide +kernel⟩, List.mem_of_getElem? (i := 821) (by decide +kernel), List.mem_of_getElem? (i := 1137) (by decide +kernel), List.mem_of_getElem? (i := 1138) (by decide +kernel)⟩
theorem lw_p66 : lw_okq (⟨"ProofLedgerModel", "readLetter", "(II)V"⟩, 57) := ⟨⟨by decide +kernel, by decide +kernel⟩, List.mem_of_getElem? (i := 821) (by decide +kernel), List.mem_of_getElem? (i := 1141) (by decide +kernel), List.mem_of_getElem? (i := 1142) (by decide +kernel)⟩
theorem lw_p67 : lw_okq (⟨"ProofLedgerModel", "tag", "()V"⟩, 57) := ⟨⟨by decide +kernel, by decide +kernel⟩, List.mem_of_getElem? (i := 821) (by decide +kernel), List.mem_of_getElem? (i := 1145) (by decide +kernel), List.mem_of_getElem? (i := 1146) (by decide +kernel)⟩
theorem lw_p68 : lw_okq (⟨"ProofLedgerModel", "stepWith", "(II)V"⟩, 57) := ⟨⟨by decide +kernel, by decide +kernel⟩, List.mem_of_getElem? (i := 821) (by decide +kernel), List.mem_of_getElem? (i := 1149) (by decide +kernel), List.mem_of_getElem? (i := 1150) (by decide +kernel)⟩
theorem lw_p69 : lw_okq (⟨"ProofLedgerModel", "step", "(II)V"⟩, 57) := ⟨⟨by decide +kernel, by decide +kernel⟩, List.mem_of_getElem? (i := 821) (by decide +kernel), List.mem_of_getElem? (i := 1153) (by decide +kernel), List.mem_of_getElem? (i := 1154) (by decide +kernel)⟩
theorem lw_p70 : lw_okq (⟨"ProofLedgerModel", "pushHypothesis", "(I)V"⟩, 57) := ⟨⟨by decide +kernel, by decide +kernel⟩, List.mem_of_getElem? (i := 821) (by decide +kernel), List.mem_of_getElem? (i := 1157) (by decide +kernel), List.mem_of_getElem? (i := 1158) (by decide +kernel)⟩
theorem lw_p71 : lw_okq (⟨"ProofLedgerModel", "hasRoom", "()Z"⟩, 57) := ⟨⟨by decide +kernel, by decide +kernel⟩, List.mem_of_getElem? (i := 821) (by decide +kernel), List.mem_of_getElem? (i := 1161) (by decide +kernel), List.mem_of_getElem? (i := 1162) (by decide +kernel)⟩
theorem lw_p72 : lw_okq (⟨"ProofLedgerModel", "apply", "(I)I"⟩, 57) := ⟨⟨by decide +kernel, by decide +kernel⟩, List.mem_of_getElem? (i := 821) (by decide +kernel), List.mem_of_getElem? (i := 1165) (by decide +kernel), List.mem_of_getElem? (i := 1166) (by decide +kernel)⟩
theorem lw_p73 : lw_okq (⟨"ProofLedgerModel", "replace", "(I)I"⟩, 57) := ⟨⟨by decide +kernel, by decide +kernel⟩, List.mem_of_getElem? (i := 821) (by decide +kernel), List.mem_of_getElem? (i := 1169) (by decide +kernel), List.mem_of_getElem? (i := 1170) (by decide +kernel)⟩
theorem lw_p74 : lw_okq (⟨"ProofLedgerModel", "isMade", "(II)Z"⟩, 57) := ⟨⟨by decide +kernel, by decide +kernel⟩, List.mem_of_getElem? (i := 821) (by decide +kernel), List.mem_of_getElem? (i := 1173) (by decide +kernel), List.mem_of_getElem? (i := 1174) (by decide +kernel)⟩
theorem lw_p75 : lw_okq (⟨"ProofLedgerModel", "allApart", "(II)Z"⟩, 57) := ⟨⟨by decide +kernel, by decide +kernel⟩, List.mem_of_getElem? (i := 821) (by decide +kernel), List.mem_of_getElem? (i := 1177) (by decide +kernel), List.mem_of_getElem? (i := 1178) (by decide +kernel)⟩
theorem lw_p76 : lw_okq (⟨"ProofLedgerModel", "areApart", "(II)Z"⟩, 57) := ⟨⟨by decide +kernel, by decide +kernel⟩, List.mem_of_getElem? (i := 821) (by decide +kernel), List.mem_of_getElem? (i := 1181) (by decide +kernel), List.mem_of_getElem? (i := 1182) (by decide +kernel)⟩
theorem lw_p77 : lw_okq (⟨"ProofLedgerModel", "tally", "(I)V"⟩, 57) := ⟨⟨by decide +kernel, by decide +kernel⟩, List.mem_of_getElem? (i := 821) (by decide +kernel), List.mem_of_getElem? (i := 1185) (by decide +kernel), List.mem_of_getElem? (i := 1186) (by decide +kernel)⟩
theorem lw_p78 : lw_okq (⟨"ProofLedgerModel", "pushTagged", "(I)V"⟩, 57) := ⟨⟨by decide +kernel, by decide +kernel⟩, List.mem_of_getElem? (i := 821) (by decide +kernel), List.mem_of_getElem? (i := 1189) (by decide +kernel), List.mem_of_getElem? (i := 1190) (by decide +kernel)⟩
theorem lw_p79 : lw_okq (⟨"ProofLedgerModel", "readSteps", "(I)V"⟩, 57) := ⟨⟨by decide +kernel, by decide +kernel⟩, List.mem_of_getElem? (i := 821) (by decide +kernel), List.mem_of_getElem? (i := 1193) (by decide +kernel), List.mem_of_getElem? (i := 1194) (by decide +kernel)⟩
def lw_privs_5 : List (MethodName × Nat) := [(⟨"ProofLedgerModel", "readLetters", "(I)V"⟩, 57), (⟨"ProofLedgerModel", "isLetters", "()Z"⟩, 57), (⟨"ProofLedgerModel", "readLetter", "(II)V"⟩, 57), (⟨"ProofLedgerModel", "tag", "()V"⟩, 57), (⟨"ProofLedgerModel", "stepWith", "(II)V"⟩, 57), (⟨"ProofLedgerModel", "step", "(II)V"⟩, 57), (⟨"ProofLedgerModel", "pushHypothesis", "(I)V"⟩, 57), (⟨"ProofLedgerModel", "hasRoom", "()Z"⟩, 57), (⟨"ProofLedgerModel", "apply", "(I)I"⟩, 57), (⟨"ProofLedgerModel", "replace", "(I)I"⟩, 57), (⟨"ProofLedgerModel", "isMade", "(II)Z"⟩, 57), (⟨"ProofLedgerModel", "allApart", "(II)Z"⟩, 57), (⟨"ProofLedgerModel", "areApart", "(II)Z"⟩, 57), (⟨"ProofLedgerModel", "tally", "(I)V"⟩, 57), (⟨"ProofLedgerModel", "pushTagged", "(I)V"⟩, 57), (⟨"ProofLedgerModel", "readSteps", "(I)V"⟩, 57)]
theorem lw_r5 : ∀ q ∈ lw_privs_5, lw_okq q := List.forall_mem_cons.mpr ⟨lw_p64, List.forall_mem_cons.mpr ⟨lw_p65, List.forall_mem_cons.mpr ⟨lw_p66, List.forall_mem_cons.mpr ⟨lw_p67, List.forall_mem_cons.mpr ⟨lw_p68, List.forall_mem_cons.mpr ⟨lw_p69, List.forall_mem_cons.mpr ⟨lw_p70, List.forall_mem_cons.mpr ⟨lw_p71, List.forall_mem_cons.mpr ⟨lw_p72, List.forall_mem_cons.mpr ⟨lw_p73, List.forall_mem_cons.mpr ⟨lw_p74, List.forall_mem_cons.mpr ⟨lw_p75, List.forall_mem_cons.mpr ⟨lw_p76, List.forall_mem_cons.mpr ⟨lw_p77, List.forall_mem_cons.mpr ⟨lw_p78, List.forall_mem_cons.mpr ⟨lw_p79, fun _ h => absurd h List.not_mem_nil⟩⟩⟩⟩⟩⟩⟩⟩⟩⟩⟩⟩⟩⟩⟩⟩
theorem lw_p80 : lw_okq (⟨"ProofLedgerModel", "finish", "()V"⟩, 57) := ⟨⟨by decide +kernel, by decide +kernel⟩, List.mem_of_getElem? (i := 821) (by decide +kernel), List.mem_of_getElem? (i := 1197) (by decide +kernel), List.mem_of_getElem? (i := 1198) (by decide +kernel)⟩
theorem lw_p81 : lw_okq (⟨"ProofLedgerModel", "settle", "(I)V"⟩, 57) := ⟨⟨by decide +kernel, by decide +kernel⟩, List.mem_of_getElem? (i := 821) (by decide +kernel), List.mem_of_getElem? (i := 1201) (by decide +kernel), List.mem_of_getElem? (i := 1202) (by decide +kernel)⟩
theorem lw_p82 : lw_okq (⟨"ProofLedgerModel", "readConstants", "()V"⟩, 57) := ⟨⟨by decide +kernel, by decide +kernel⟩, List.mem_of_getElem? (i := 821) (by decide +kernel), List.mem_of_getElem? (i := 1205) (by decide +kernel), List.mem_of_getElem? (i := 1206) (by decide +kernel)⟩
theorem lw_p83 : lw_okq (⟨"ProofLedgerModel", "readVariables", "()V"⟩, 57) := ⟨⟨by decide +kernel, by decide +kernel⟩, List.mem_of_getElem? (i := 821) (by decide +kernel), List.mem_of_getElem? (i := 1209) (by decide +kernel), List.mem_of_getElem? (i := 1210) (by decide +kernel)⟩
theorem lw_p84 : lw_okq (⟨"ProofLedgerModel", "readApart", "()V"⟩, 57) := ⟨⟨by decide +kernel, by decide +kernel⟩, List.mem_of_getElem? (i := 821) (by decide +kernel), List.mem_of_getElem? (i := 1213) (by decide +kernel), List.mem_of_getElem? (i := 1214) (by decide +kernel)⟩
theorem lw_p85 : lw_okq (⟨"ProofLedgerModel", "stoodBefore", "(II)Z"⟩, 57) := ⟨⟨by decide +kernel, by decide +kernel⟩, List.mem_of_getElem? (i := 821) (by decide +kernel), List.mem_of_getElem? (i := 1217) (by decide +kernel), List.mem_of_getElem? (i := 1218) (by decide +kernel)⟩
theorem lw_p86 : lw_okq (⟨"ProofLedgerModel", "closeScope", "()V"⟩, 57) := ⟨⟨by decide +kernel, by decide +kernel⟩, List.mem_of_getElem? (i := 821) (by decide +kernel), List.mem_of_getElem? (i := 1221) (by decide +kernel), List.mem_of_getElem? (i := 1222) (by decide +kernel)⟩
theorem lw_p87 : lw_okq (⟨"ProofLedgerModel", "countNames", "(I)I"⟩, 57) := ⟨⟨by decide +kernel, by decide +kernel⟩, List.mem_of_getElem? (i := 821) (by decide +kernel), List.mem_of_getElem? (i := 1233) (by decide +kernel), List.mem_of_getElem? (i := 1234) (by decide +kernel)⟩
theorem lw_p88 : lw_okq (⟨"ProofLedgerModel", "isAssertion", "(I)Z"⟩, 57) := ⟨⟨by decide +kernel, by decide +kernel⟩, List.mem_of_getElem? (i := 821) (by decide +kernel), List.mem_of_getElem? (i := 1241) (by decide +kernel), List.mem_of_getElem? (i := 1242) (by decide +kernel)⟩
def lw_privs_6 : List (MethodName × Nat) := [(⟨"ProofLedgerModel", "finish", "()V"⟩, 57), (⟨"ProofLedgerModel", "settle", "(I)V"⟩, 57), (⟨"ProofLedgerModel", "readConstants", "()V"⟩, 57), (⟨"ProofLedgerModel", "readVariables", "()V"⟩, 57), (⟨"ProofLedgerModel", "readApart", "()V"⟩, 57), (⟨"ProofLedgerModel", "stoodBefore", "(II)Z"⟩, 57), (⟨"ProofLedgerModel", "closeScope", "()V"⟩, 57), (⟨"ProofLedgerModel", "countNames", "(I)I"⟩, 57), (⟨"ProofLedgerModel", "isAssertion", "(I)Z"⟩, 57)]
theorem lw_r6 : ∀ q ∈ lw_privs_6, lw_okq q := List.forall_mem_cons.mpr ⟨lw_p80, List.forall_mem_cons.mpr ⟨lw_p81, List.forall_mem_cons.mpr ⟨lw_p82, List.forall_mem_cons.mpr ⟨lw_p83, List.forall_mem_cons.mpr ⟨lw_p84, List.forall_mem_cons.mpr ⟨lw_p85, List.forall_mem_cons.mpr ⟨lw_p86, List.forall_mem_cons.mpr ⟨lw_p87, List.forall_mem_cons.mpr ⟨lw_p88, fun _ h => absurd h List.not_mem_nil⟩⟩⟩⟩⟩⟩⟩⟩⟩
def lw_privs : List (MethodName × Nat) := lw_privs_1 ++ (lw_privs_2 ++ (lw_privs_3 ++ (lw_privs_4 ++ (lw_privs_5 ++ (lw_privs_6)))))
def lw_tbl : List Cond := k2_sels lw_privs ++ tables_1
theorem lw_privs_ok : ∀ q ∈ lw_privs, lw_okq q := by
  show ∀ q ∈ lw_privs_1 ++ (lw_privs_2 ++ (lw_privs_3 ++ (lw_privs_4 ++ (lw_privs_5 ++ (lw_privs_6))))), lw_okq q
  exact List.forall_mem_append.mpr ⟨lw_r1, List.forall_mem_append.mpr ⟨lw_r2, List.forall_mem_append.mpr ⟨lw_r3, List.forall_mem_append.mpr ⟨lw_r4, List.forall_mem_append.mpr ⟨lw_r5, lw_r6⟩⟩⟩⟩⟩
/-! ===== the classes and the tables' words that we use ===== -/
def ct_T0 : u_T := fun k => match k with
  | 0 => ("ProofLedger", "text", "LProofLedger$Text;", true)
  | 1 => ("ProofLedger", "names", "LProofLedger$Names;", true)
  | 2 => ("ProofLedger", "statements", "LProofLedger$Statements;", true)
  | 3 => ("ProofLedger", "assertions", "LProofLedger$Assertions;", true)
  | 4 => ("ProofLedger", "reader", "LProofLedger$Reader;", true)
  | _ => ("ProofLedger", "placeOfFault", "I", false)
def ct_ty0 : Nat → FieldType := fun k => match k with
  | 0 => (.object "ProofLedger$Text")
  | 1 => (.object "ProofLedger$Names")
  | 2 => (.object "ProofLedger$Statements")
  | 3 => (.object "ProofLedger$Assertions")
  | 4 => (.object "ProofLedger$Reader")
  | _ => .int
theorem ct_nm0 : ∀ a, a < 6 → ∀ b, b < 6 → a ≠ b → (ct_T0 a).2.1 ≠ (ct_T0 b).2.1 := by decide +kernel
theorem ct_ok0 : ∀ k, k < 6 → parseFieldDescriptor (ct_T0 k).2.2.1 = some (ct_ty0 k) := by decide +kernel
def ct_T1 : u_T := fun k => match k with
  | 0 => ("ProofLedger$Text", "characters", "[B", true)
  | 1 => ("ProofLedger$Text", "length", "I", false)
  | 2 => ("ProofLedger$Text", "words", "I", false)
  | 3 => ("ProofLedger$Text", "start", "I", false)
  | 4 => ("ProofLedger$Text", "end", "I", false)
  | 5 => ("ProofLedger$Text", "code", "J", false)
  | 6 => ("ProofLedger$Text", "marked", "Z", false)
  | _ => ("ProofLedger$Text", "insideComment", "Z", false)
def ct_ty1 : Nat → FieldType := fun k => match k with
  | 0 => (.array .byte)
  | 1 => .int
  | 2 => .int
  | 3 => .int
  | 4 => .int
  | 5 => .long
  | 6 => .boolean
  | _ => .boolean
theorem ct_nm1 : ∀ a, a < 8 → ∀ b, b < 8 → a ≠ b → (ct_T1 a).2.1 ≠ (ct_T1 b).2.1 := by decide +kernel
theorem ct_ok1 : ∀ k, k < 8 → parseFieldDescriptor (ct_T1 k).2.2.1 = some (ct_ty1 k) := by decide +kernel
def ct_T2 : u_T := fun k => match k with
  | 0 => ("ProofLedger$Names", "codes", "[J", true)
  | 1 => ("ProofLedger$Names", "roles", "[I", true)
  | 2 => ("ProofLedger$Names", "statements", "[I", true)
  | 3 => ("ProofLedger$Names", "size", "I", false)
  | 4 => ("ProofLedger$Names", "constants", "I", false)
  | _ => ("ProofLedger$Names", "variables", "J", false)
def ct_ty2 : Nat → FieldType := fun k => match k with
  | 0 => (.array .long)
  | 1 => (.array .int)
  | 2 => (.array .int)
  | 3 => .int
  | 4 => .int
  | _ => .long
theorem ct_nm2 : ∀ a, a < 6 → ∀ b, b < 6 → a ≠ b → (ct_T2 a).2.1 ≠ (ct_T2 b).2.1 := by decide +kernel
theorem ct_ok2 : ∀ k, k < 6 → parseFieldDescriptor (ct_T2 k).2.2.1 = some (ct_ty2 k) := by decide +kernel
def ct_T3 : u_T := fun k => match k with
  | 0 => ("ProofLedger$Statements", "labels", "[J", true)
  | 1 => ("ProofLedger$Statements", "kinds", "[I", true)
  | 2 => ("ProofLedger$Statements", "expressions", "LProofLedger$Expressions;", true)
  | 3 => ("ProofLedger$Statements", "mandatory", "[J", true)
  | _ => ("ProofLedger$Statements", "assertions", "[I", true)
def ct_ty3 : Nat → FieldType := fun k => match k with
  | 0 => (.array .long)
  | 1 => (.array .int)
  | 2 => (.object "ProofLedger$Expressions")
  | 3 => (.array .long)
  | _ => (.array .int)
theorem ct_nm3 : ∀ a, a < 5 → ∀ b, b < 5 → a ≠ b → (ct_T3 a).2.1 ≠ (ct_T3 b).2.1 := by decide +kernel
theorem ct_ok3 : ∀ k, k < 5 → parseFieldDescriptor (ct_T3 k).2.2.1 = some (ct_ty3 k) := by decide +kernel
def ct_T4 : u_T := fun k => match k with
  | 0 => ("ProofLedger$Expressions", "most", "I", true)
  | 1 => ("ProofLedger$Expressions", "symbols", "[I", true)
  | 2 => ("ProofLedger$Expressions", "lengths", "[I", true)
  | 3 => ("ProofLedger$Expressions", "variables", "[J", true)
  | _ => ("ProofLedger$Expressions", "size", "I", false)
def ct_ty4 : Nat → FieldType := fun k => match k with
  | 0 => .int
  | 1 => (.array .int)
  | 2 => (.array .int)
  | 3 => (.array .long)
  | _ => .int
theorem ct_nm4 : ∀ a, a < 5 → ∀ b, b < 5 → a ≠ b → (ct_T4 a).2.1 ≠ (ct_T4 b).2.1 := by decide +kernel
theorem ct_ok4 : ∀ k, k < 5 → parseFieldDescriptor (ct_T4 k).2.2.1 = some (ct_ty4 k) := by decide +kernel
def ct_T5 : u_T := fun k => match k with
  | 0 => ("ProofLedger$Assertions", "statements", "[I", true)
  | 1 => ("ProofLedger$Assertions", "pairCounts", "[I", true)
  | 2 => ("ProofLedger$Assertions", "pairs", "[I", true)
  | 3 => ("ProofLedger$Assertions", "stepCounts", "[I", true)
  | 4 => ("ProofLedger$Assertions", "heights", "[I", true)
  | 5 => ("ProofLedger$Assertions", "useCounts", "[I", true)
  | 6 => ("ProofLedger$Assertions", "incomplete", "[Z", true)
  | 7 => ("ProofLedger$Assertions", "sound", "[Z", true)
  | _ => ("ProofLedger$Assertions", "size", "I", false)
def ct_ty5 : Nat → FieldType := fun k => match k with
  | 0 => (.array .int)
  | 1 => (.array .int)
  | 2 => (.array .int)
  | 3 => (.array .int)
  | 4 => (.array .int)
  | 5 => (.array .int)
  | 6 => (.array .boolean)
  | 7 => (.array .boolean)
  | _ => .int
theorem ct_nm5 : ∀ a, a < 9 → ∀ b, b < 9 → a ≠ b → (ct_T5 a).2.1 ≠ (ct_T5 b).2.1 := by decide +kernel
theorem ct_ok5 : ∀ k, k < 9 → parseFieldDescriptor (ct_T5 k).2.2.1 = some (ct_ty5 k) := by decide +kernel
def ct_T6 : u_T := fun k => match k with
  | 0 => ("ProofLedger$Reader", "names", "LProofLedger$Names;", true)
  | 1 => ("ProofLedger$Reader", "statements", "LProofLedger$Statements;", true)
  | 2 => ("ProofLedger$Reader", "assertions", "LProofLedger$Assertions;", true)
  | 3 => ("ProofLedger$Reader", "context", "LProofLedger$Context;", true)
  | 4 => ("ProofLedger$Reader", "proof", "LProofLedger$Proof;", true)
  | 5 => ("ProofLedger$Reader", "letters", "LProofLedger$Letters;", true)
  | 6 => ("ProofLedger$Reader", "stage", "I", false)
  | 7 => ("ProofLedger$Reader", "taken", "I", false)
  | _ => ("ProofLedger$Reader", "takenVariables", "J", false)
def ct_ty6 : Nat → FieldType := fun k => match k with
  | 0 => (.object "ProofLedger$Names")
  | 1 => (.object "ProofLedger$Statements")
  | 2 => (.object "ProofLedger$Assertions")
  | 3 => (.object "ProofLedger$Context")
  | 4 => (.object "ProofLedger$Proof")
  | 5 => (.object "ProofLedger$Letters")
  | 6 => .int
  | 7 => .int
  | _ => .long
theorem ct_nm6 : ∀ a, a < 9 → ∀ b, b < 9 → a ≠ b → (ct_T6 a).2.1 ≠ (ct_T6 b).2.1 := by decide +kernel
theorem ct_ok6 : ∀ k, k < 9 → parseFieldDescriptor (ct_T6 k).2.2.1 = some (ct_ty6 k) := by decide +kernel
def ct_T7 : u_T := fun k => match k with
  | 0 => ("ProofLedger$Context", "variables", "J", false)
  | 1 => ("ProofLedger$Context", "typed", "J", false)
  | 2 => ("ProofLedger$Context", "hypotheses", "J", false)
  | 3 => ("ProofLedger$Context", "pairs", "[I", true)
  | 4 => ("ProofLedger$Context", "pairCount", "I", false)
  | 5 => ("ProofLedger$Context", "apartFrom", "[J", true)
  | 6 => ("ProofLedger$Context", "scopes", "I", false)
  | 7 => ("ProofLedger$Context", "outerVariables", "[J", true)
  | 8 => ("ProofLedger$Context", "outerTyped", "[J", true)
  | 9 => ("ProofLedger$Context", "outerHypotheses", "[J", true)
  | _ => ("ProofLedger$Context", "outerPairCounts", "[I", true)
def ct_ty7 : Nat → FieldType := fun k => match k with
  | 0 => .long
  | 1 => .long
  | 2 => .long
  | 3 => (.array .int)
  | 4 => .int
  | 5 => (.array .long)
  | 6 => .int
  | 7 => (.array .long)
  | 8 => (.array .long)
  | 9 => (.array .long)
  | _ => (.array .int)
theorem ct_nm7 : ∀ a, a < 11 → ∀ b, b < 11 → a ≠ b → (ct_T7 a).2.1 ≠ (ct_T7 b).2.1 := by decide +kernel
theorem ct_ok7 : ∀ k, k < 11 → parseFieldDescriptor (ct_T7 k).2.2.1 = some (ct_ty7 k) := by decide +kernel
def ct_T8 : u_T := fun k => match k with
  | 0 => ("ProofLedger$Proof", "names", "LProofLedger$Names;", true)
  | 1 => ("ProofLedger$Proof", "statements", "LProofLedger$Statements;", true)
  | 2 => ("ProofLedger$Proof", "assertions", "LProofLedger$Assertions;", true)
  | 3 => ("ProofLedger$Proof", "context", "LProofLedger$Context;", true)
  | 4 => ("ProofLedger$Proof", "stack", "LProofLedger$Expressions;", true)
  | 5 => ("ProofLedger$Proof", "result", "LProofLedger$Expressions;", true)
  | 6 => ("ProofLedger$Proof", "replacements", "[I", true)
  | _ => ("ProofLedger$Proof", "incomplete", "Z", false)
def ct_ty8 : Nat → FieldType := fun k => match k with
  | 0 => (.object "ProofLedger$Names")
  | 1 => (.object "ProofLedger$Statements")
  | 2 => (.object "ProofLedger$Assertions")
  | 3 => (.object "ProofLedger$Context")
  | 4 => (.object "ProofLedger$Expressions")
  | 5 => (.object "ProofLedger$Expressions")
  | 6 => (.array .int)
  | _ => .boolean
theorem ct_nm8 : ∀ a, a < 8 → ∀ b, b < 8 → a ≠ b → (ct_T8 a).2.1 ≠ (ct_T8 b).2.1 := by decide +kernel
theorem ct_ok8 : ∀ k, k < 8 → parseFieldDescriptor (ct_T8 k).2.2.1 = some (ct_ty8 k) := by decide +kernel
def ct_T9 : u_T := fun k => match k with
  | 0 => ("ProofLedger$Letters", "statements", "LProofLedger$Statements;", true)
  | 1 => ("ProofLedger$Letters", "proof", "LProofLedger$Proof;", true)
  | 2 => ("ProofLedger$Letters", "references", "[I", true)
  | 3 => ("ProofLedger$Letters", "referenceCount", "I", false)
  | 4 => ("ProofLedger$Letters", "listed", "I", false)
  | 5 => ("ProofLedger$Letters", "tagged", "LProofLedger$Expressions;", true)
  | 6 => ("ProofLedger$Letters", "tagCount", "I", false)
  | 7 => ("ProofLedger$Letters", "number", "I", false)
  | 8 => ("ProofLedger$Letters", "insideNumber", "Z", false)
  | _ => ("ProofLedger$Letters", "behindNumber", "Z", false)
def ct_ty9 : Nat → FieldType := fun k => match k with
  | 0 => (.object "ProofLedger$Statements")
  | 1 => (.object "ProofLedger$Proof")
  | 2 => (.array .int)
  | 3 => .int
  | 4 => .int
  | 5 => (.object "ProofLedger$Expressions")
  | 6 => .int
  | 7 => .int
  | 8 => .boolean
  | _ => .boolean
theorem ct_nm9 : ∀ a, a < 10 → ∀ b, b < 10 → a ≠ b → (ct_T9 a).2.1 ≠ (ct_T9 b).2.1 := by decide +kernel
theorem ct_ok9 : ∀ k, k < 10 → parseFieldDescriptor (ct_T9 k).2.2.1 = some (ct_ty9 k) := by decide +kernel
def ct_T10 : u_T := fun k => match k with
  | 0 => ("ProofLedgerModel", "text", "[I", true)
  | 1 => ("ProofLedgerModel", "length", "I", false)
  | 2 => ("ProofLedgerModel", "begins", "[I", true)
  | 3 => ("ProofLedgerModel", "lengths", "[I", true)
  | 4 => ("ProofLedgerModel", "words", "I", false)
  | 5 => ("ProofLedgerModel", "w", "I", false)
  | 6 => ("ProofLedgerModel", "fault", "I", false)
  | 7 => ("ProofLedgerModel", "where", "I", false)
  | 8 => ("ProofLedgerModel", "names", "I", false)
  | 9 => ("ProofLedgerModel", "code", "[J", true)
  | 10 => ("ProofLedgerModel", "sort", "[I", true)
  | 11 => ("ProofLedgerModel", "lives", "[Z", true)
  | 12 => ("ProofLedgerModel", "scopeOf", "[I", true)
  | 13 => ("ProofLedgerModel", "labelled", "[I", true)
  | 14 => ("ProofLedgerModel", "scopes", "I", false)
  | 15 => ("ProofLedgerModel", "statements", "I", false)
  | 16 => ("ProofLedgerModel", "kind", "[I", true)
  | 17 => ("ProofLedgerModel", "labelOf", "[I", true)
  | 18 => ("ProofLedgerModel", "symbols", "[I", true)
  | 19 => ("ProofLedgerModel", "sizes", "[I", true)
  | 20 => ("ProofLedgerModel", "holds", "[Z", true)
  | 21 => ("ProofLedgerModel", "scopeAt", "[I", true)
  | 22 => ("ProofLedgerModel", "asAssertion", "[I", true)
  | 23 => ("ProofLedgerModel", "pairs", "I", false)
  | 24 => ("ProofLedgerModel", "left", "[I", true)
  | 25 => ("ProofLedgerModel", "right", "[I", true)
  | 26 => ("ProofLedgerModel", "pairScope", "[I", true)
  | 27 => ("ProofLedgerModel", "assertions", "I", false)
  | 28 => ("ProofLedgerModel", "statementOf", "[I", true)
  | 29 => ("ProofLedgerModel", "needs", "[I", true)
  | 30 => ("ProofLedgerModel", "needed", "[I", true)
  | 31 => ("ProofLedgerModel", "pairLeft", "[I", true)
  | 32 => ("ProofLedgerModel", "pairRight", "[I", true)
  | 33 => ("ProofLedgerModel", "paired", "[I", true)
  | 34 => ("ProofLedgerModel", "stepCount", "[I", true)
  | 35 => ("ProofLedgerModel", "deepest", "[I", true)
  | 36 => ("ProofLedgerModel", "used", "[I", true)
  | 37 => ("ProofLedgerModel", "open", "[Z", true)
  | 38 => ("ProofLedgerModel", "sure", "[Z", true)
  | 39 => ("ProofLedgerModel", "now", "[I", true)
  | 40 => ("ProofLedgerModel", "nows", "I", false)
  | 41 => ("ProofLedgerModel", "occurs", "[Z", true)
  | 42 => ("ProofLedgerModel", "row", "[I", true)
  | 43 => ("ProofLedgerModel", "stack", "[I", true)
  | 44 => ("ProofLedgerModel", "stackSize", "[I", true)
  | 45 => ("ProofLedgerModel", "high", "I", false)
  | 46 => ("ProofLedgerModel", "tagged", "[I", true)
  | 47 => ("ProofLedgerModel", "tagSize", "[I", true)
  | 48 => ("ProofLedgerModel", "tags", "I", false)
  | 49 => ("ProofLedgerModel", "place", "[I", true)
  | 50 => ("ProofLedgerModel", "made", "[I", true)
  | 51 => ("ProofLedgerModel", "gap", "Z", false)
  | 52 => ("ProofLedgerModel", "listed", "[I", true)
  | 53 => ("ProofLedgerModel", "lists", "I", false)
  | 54 => ("ProofLedgerModel", "number", "I", false)
  | 55 => ("ProofLedgerModel", "inside", "Z", false)
  | _ => ("ProofLedgerModel", "ended", "Z", false)
def ct_ty10 : Nat → FieldType := fun k => match k with
  | 0 => (.array .int)
  | 1 => .int
  | 2 => (.array .int)
  | 3 => (.array .int)
  | 4 => .int
  | 5 => .int
  | 6 => .int
  | 7 => .int
  | 8 => .int
  | 9 => (.array .long)
  | 10 => (.array .int)
  | 11 => (.array .boolean)
  | 12 => (.array .int)
  | 13 => (.array .int)
  | 14 => .int
  | 15 => .int
  | 16 => (.array .int)
  | 17 => (.array .int)
  | 18 => (.array .int)
  | 19 => (.array .int)
  | 20 => (.array .boolean)
  | 21 => (.array .int)
  | 22 => (.array .int)
  | 23 => .int
  | 24 => (.array .int)
  | 25 => (.array .int)
  | 26 => (.array .int)
  | 27 => .int
  | 28 => (.array .int)
  | 29 => (.array .int)
  | 30 => (.array .int)
  | 31 => (.array .int)
  | 32 => (.array .int)
  | 33 => (.array .int)
  | 34 => (.array .int)
  | 35 => (.array .int)
  | 36 => (.array .int)
  | 37 => (.array .boolean)
  | 38 => (.array .boolean)
  | 39 => (.array .int)
  | 40 => .int
  | 41 => (.array .boolean)
  | 42 => (.array .int)
  | 43 => (.array .int)
  | 44 => (.array .int)
  | 45 => .int
  | 46 => (.array .int)
  | 47 => (.array .int)
  | 48 => .int
  | 49 => (.array .int)
  | 50 => (.array .int)
  | 51 => .boolean
  | 52 => (.array .int)
  | 53 => .int
  | 54 => .int
  | 55 => .boolean
  | _ => .boolean
theorem ct_nm10 : ∀ a, a < 57 → ∀ b, b < 57 → a ≠ b → (ct_T10 a).2.1 ≠ (ct_T10 b).2.1 := by decide +kernel
theorem ct_ok10 : ∀ k, k < 57 → parseFieldDescriptor (ct_T10 k).2.2.1 = some (ct_ty10 k) := by decide +kernel
def am_cl : List vw_C := [("ProofLedger", ct_T0, 6), ("ProofLedger$Text", ct_T1, 8), ("ProofLedger$Names", ct_T2, 6), ("ProofLedger$Statements", ct_T3, 5), ("ProofLedger$Expressions", ct_T4, 5), ("ProofLedger$Assertions", ct_T5, 9), ("ProofLedger$Reader", ct_T6, 9), ("ProofLedger$Context", ct_T7, 11), ("ProofLedger$Proof", ct_T8, 8), ("ProofLedger$Letters", ct_T9, 10), ("ProofLedgerModel", ct_T10, 57)]
def am_fty (ci k : Nat) : FieldType := match ci with
  | 0 => ct_ty0 k
  | 1 => ct_ty1 k
  | 2 => ct_ty2 k
  | 3 => ct_ty3 k
  | 4 => ct_ty4 k
  | 5 => ct_ty5 k
  | 6 => ct_ty6 k
  | 7 => ct_ty7 k
  | 8 => ct_ty8 k
  | 9 => ct_ty9 k
  | _ => ct_ty10 k
def am_TS : List Jvm.Cond := lw_tbl.filter goodWord
theorem am_TS_good (w : Jvm.Cond) (h : w ∈ am_TS) : goodWord w = true := (List.mem_filter.mp h).2
theorem am_TS_sub (w : Jvm.Cond) (h : w ∈ am_TS) : w ∈ lw_tbl := (List.mem_filter.mp h).1
theorem am_one {w : Jvm.Cond} (p : Nat) (h : lw_tbl[p]? = some w) (g : goodWord w = true) : w ∈ am_TS := List.mem_filter.mpr ⟨List.mem_of_getElem? h, g⟩
theorem am_all (ws : List Jvm.Cond) (ps : List Nat) (h : ws = ps.filterMap (fun i => lw_tbl[i]?)) (g : ws.all goodWord = true) : ∀ w ∈ ws, w ∈ am_TS := by
  intro w hw
  have h1 := List.all_eq_true.mp g w hw
  rw [h] at hw
  obtain ⟨i, -, hi⟩ := List.mem_filterMap.mp hw
  exact am_one i hi h1
set_option maxRecDepth 20000 in
theorem ct_ws0 : ∀ w ∈ u_ws "ProofLedger" ct_T0 6, w ∈ am_TS := am_all _ [453, 455, 457, 459, 461, 463] (by decide +kernel) (by decide +kernel)
theorem ct_inst0 : Jvm.Cond.instantiable "ProofLedger" 6 ∈ am_TS := am_one 106 (by decide +kernel) (by decide +kernel)
set_option maxRecDepth 20000 in
theorem ct_ws1 : ∀ w ∈ u_ws "ProofLedger$Text" ct_T1 8, w ∈ am_TS := am_all _ [134, 136, 138, 140, 142, 144, 146, 148] (by decide +kernel) (by decide +kernel)
theorem ct_inst1 : Jvm.Cond.instantiable "ProofLedger$Text" 8 ∈ am_TS := am_one 114 (by decide +kernel) (by decide +kernel)
set_option maxRecDepth 20000 in
theorem ct_ws2 : ∀ w ∈ u_ws "ProofLedger$Names" ct_T2 6, w ∈ am_TS := am_all _ [171, 173, 175, 177, 179, 181] (by decide +kernel) (by decide +kernel)
theorem ct_inst2 : Jvm.Cond.instantiable "ProofLedger$Names" 6 ∈ am_TS := am_one 153 (by decide +kernel) (by decide +kernel)
set_option maxRecDepth 20000 in
theorem ct_ws3 : ∀ w ∈ u_ws "ProofLedger$Statements" ct_T3 5, w ∈ am_TS := am_all _ [238, 240, 242, 244, 246] (by decide +kernel) (by decide +kernel)
theorem ct_inst3 : Jvm.Cond.instantiable "ProofLedger$Statements" 5 ∈ am_TS := am_one 187 (by decide +kernel) (by decide +kernel)
set_option maxRecDepth 20000 in
theorem ct_ws4 : ∀ w ∈ u_ws "ProofLedger$Expressions" ct_T4 5, w ∈ am_TS := am_all _ [211, 213, 215, 217, 219] (by decide +kernel) (by decide +kernel)
theorem ct_inst4 : Jvm.Cond.instantiable "ProofLedger$Expressions" 5 ∈ am_TS := am_one 193 (by decide +kernel) (by decide +kernel)
set_option maxRecDepth 20000 in
theorem ct_ws5 : ∀ w ∈ u_ws "ProofLedger$Assertions" ct_T5 9, w ∈ am_TS := am_all _ [272, 274, 276, 278, 280, 282, 284, 286, 288] (by decide +kernel) (by decide +kernel)
theorem ct_inst5 : Jvm.Cond.instantiable "ProofLedger$Assertions" 9 ∈ am_TS := am_one 250 (by decide +kernel) (by decide +kernel)
set_option maxRecDepth 20000 in
theorem ct_ws6 : ∀ w ∈ u_ws "ProofLedger$Reader" ct_T6 9, w ∈ am_TS := am_all _ [428, 430, 432, 434, 436, 438, 440, 442, 444] (by decide +kernel) (by decide +kernel)
theorem ct_inst6 : Jvm.Cond.instantiable "ProofLedger$Reader" 9 ∈ am_TS := am_one 293 (by decide +kernel) (by decide +kernel)
set_option maxRecDepth 20000 in
theorem ct_ws7 : ∀ w ∈ u_ws "ProofLedger$Context" ct_T7 11, w ∈ am_TS := am_all _ [321, 323, 325, 327, 329, 331, 333, 335, 337, 339, 341] (by decide +kernel) (by decide +kernel)
theorem ct_inst7 : Jvm.Cond.instantiable "ProofLedger$Context" 11 ∈ am_TS := am_one 299 (by decide +kernel) (by decide +kernel)
set_option maxRecDepth 20000 in
theorem ct_ws8 : ∀ w ∈ u_ws "ProofLedger$Proof" ct_T8 8, w ∈ am_TS := am_all _ [362, 364, 366, 368, 370, 372, 374, 376] (by decide +kernel) (by decide +kernel)
theorem ct_inst8 : Jvm.Cond.instantiable "ProofLedger$Proof" 8 ∈ am_TS := am_one 345 (by decide +kernel) (by decide +kernel)
set_option maxRecDepth 20000 in
theorem ct_ws9 : ∀ w ∈ u_ws "ProofLedger$Letters" ct_T9 10, w ∈ am_TS := am_all _ [398, 400, 402, 404, 406, 408, 410, 412, 414, 416] (by decide +kernel) (by decide +kernel)
theorem ct_inst9 : Jvm.Cond.instantiable "ProofLedger$Letters" 10 ∈ am_TS := am_one 380 (by decide +kernel) (by decide +kernel)
set_option maxRecDepth 20000 in
theorem ct_ws10 : ∀ w ∈ u_ws "ProofLedgerModel" ct_T10 57, w ∈ am_TS := am_all _ [972, 974, 976, 978, 980, 982, 984, 986, 988, 990, 992, 994, 996, 998, 1000, 1002, 1004, 1006, 1008, 1010, 1012, 1014, 1016, 1018, 1020, 1022, 1024, 1026, 1028, 1030, 1032, 1034, 1036, 1038, 1040, 1042, 1044, 1046, 1048, 1050, 1052, 1054, 1056, 1058, 1060, 1062, 1064, 1066, 1068, 1070, 1072, 1074, 1076, 1078, 1080, 1082, 1084] (by decide +kernel) (by decide +kernel)
theorem ct_inst10 : Jvm.Cond.instantiable "ProofLedgerModel" 57 ∈ am_TS := am_one 910 (by decide +kernel) (by decide +kernel)
theorem ct_ini_ProofLedger : Jvm.Cond.initialized "ProofLedger" ∈ am_TS := am_one 90 (by decide +kernel) (by decide +kernel)
theorem ct_ini_ProofLedger_Assertions : Jvm.Cond.initialized "ProofLedger$Assertions" ∈ am_TS := am_one 95 (by decide +kernel) (by decide +kernel)
theorem ct_ini_ProofLedger_Context : Jvm.Cond.initialized "ProofLedger$Context" ∈ am_TS := am_one 97 (by decide +kernel) (by decide +kernel)
theorem ct_ini_ProofLedger_Expressions : Jvm.Cond.initialized "ProofLedger$Expressions" ∈ am_TS := am_one 94 (by decide +kernel) (by decide +kernel)
theorem ct_ini_ProofLedger_Letters : Jvm.Cond.initialized "ProofLedger$Letters" ∈ am_TS := am_one 99 (by decide +kernel) (by decide +kernel)
theorem ct_ini_ProofLedger_Names : Jvm.Cond.initialized "ProofLedger$Names" ∈ am_TS := am_one 92 (by decide +kernel) (by decide +kernel)
theorem ct_ini_ProofLedger_Proof : Jvm.Cond.initialized "ProofLedger$Proof" ∈ am_TS := am_one 98 (by decide +kernel) (by decide +kernel)
theorem ct_ini_ProofLedger_Reader : Jvm.Cond.initialized "ProofLedger$Reader" ∈ am_TS := am_one 96 (by decide +kernel) (by decide +kernel)
theorem ct_ini_ProofLedger_Statements : Jvm.Cond.initialized "ProofLedger$Statements" ∈ am_TS := am_one 93 (by decide +kernel) (by decide +kernel)
theorem ct_ini_ProofLedger_Text : Jvm.Cond.initialized "ProofLedger$Text" ∈ am_TS := am_one 91 (by decide +kernel) (by decide +kernel)
theorem ct_ini_ProofLedgerLaw : Jvm.Cond.initialized "ProofLedgerLaw" ∈ am_TS := am_one 89 (by decide +kernel) (by decide +kernel)
theorem ct_ini_ProofLedgerModel : Jvm.Cond.initialized "ProofLedgerModel" ∈ am_TS := am_one 100 (by decide +kernel) (by decide +kernel)
theorem ct_ini_java_lang_Long : Jvm.Cond.initialized "java/lang/Long" ∈ am_TS := am_one 104 (by decide +kernel) (by decide +kernel)
theorem ct_ini_java_lang_Math : Jvm.Cond.initialized "java/lang/Math" ∈ am_TS := am_one 103 (by decide +kernel) (by decide +kernel)
theorem ct_ini_java_lang_System : Jvm.Cond.initialized "java/lang/System" ∈ am_TS := am_one 102 (by decide +kernel) (by decide +kernel)
theorem ct_ini_java_util_Arrays : Jvm.Cond.initialized "java/util/Arrays" ∈ am_TS := am_one 101 (by decide +kernel) (by decide +kernel)
theorem am_cl_ws {ci : Nat} {C : String} {T : u_T} {N : Nat} (h : am_cl[ci]? = some (C, T, N)) : ∀ w ∈ u_ws C T N, w ∈ am_TS := match ci, h with
  | 0, h => by cases h; exact ct_ws0
  | 1, h => by cases h; exact ct_ws1
  | 2, h => by cases h; exact ct_ws2
  | 3, h => by cases h; exact ct_ws3
  | 4, h => by cases h; exact ct_ws4
  | 5, h => by cases h; exact ct_ws5
  | 6, h => by cases h; exact ct_ws6
  | 7, h => by cases h; exact ct_ws7
  | 8, h => by cases h; exact ct_ws8
  | 9, h => by cases h; exact ct_ws9
  | 10, h => by cases h; exact ct_ws10
  | _ + 11, h => by cases h
theorem am_cl_ty {ci : Nat} {C : String} {T : u_T} {N : Nat} (h : am_cl[ci]? = some (C, T, N)) : ∀ k, k < N → parseFieldDescriptor (T k).2.2.1 = some (am_fty ci k) := match ci, h with
  | 0, h => by cases h; exact ct_ok0
  | 1, h => by cases h; exact ct_ok1
  | 2, h => by cases h; exact ct_ok2
  | 3, h => by cases h; exact ct_ok3
  | 4, h => by cases h; exact ct_ok4
  | 5, h => by cases h; exact ct_ok5
  | 6, h => by cases h; exact ct_ok6
  | 7, h => by cases h; exact ct_ok7
  | 8, h => by cases h; exact ct_ok8
  | 9, h => by cases h; exact ct_ok9
  | 10, h => by cases h; exact ct_ok10
  | _ + 11, h => by cases h
theorem am_cl_nm {ci : Nat} {C : String} {T : u_T} {N : Nat} (h : am_cl[ci]? = some (C, T, N)) : ∀ a, a < N → ∀ b, b < N → a ≠ b → (T a).2.1 ≠ (T b).2.1 := match ci, h with
  | 0, h => by cases h; exact ct_nm0
  | 1, h => by cases h; exact ct_nm1
  | 2, h => by cases h; exact ct_nm2
  | 3, h => by cases h; exact ct_nm3
  | 4, h => by cases h; exact ct_nm4
  | 5, h => by cases h; exact ct_nm5
  | 6, h => by cases h; exact ct_nm6
  | 7, h => by cases h; exact ct_nm7
  | 8, h => by cases h; exact ct_nm8
  | 9, h => by cases h; exact ct_nm9
  | 10, h => by cases h; exact ct_nm10
  | _ + 11, h => by cases h
theorem am_cl_inst {ci : Nat} {C : String} {T : u_T} {N : Nat} (h : am_cl[ci]? = some (C, T, N)) : Jvm.Cond.instantiable C N ∈ am_TS := match ci, h with
  | 0, h => by cases h; exact ct_inst0
  | 1, h => by cases h; exact ct_inst1
  | 2, h => by cases h; exact ct_inst2
  | 3, h => by cases h; exact ct_inst3
  | 4, h => by cases h; exact ct_inst4
  | 5, h => by cases h; exact ct_inst5
  | 6, h => by cases h; exact ct_inst6
  | 7, h => by cases h; exact ct_inst7
  | 8, h => by cases h; exact ct_inst8
  | 9, h => by cases h; exact ct_inst9
  | 10, h => by cases h; exact ct_inst10
  | _ + 11, h => by cases h
theorem am_cl_ini {ci : Nat} {C : String} {T : u_T} {N : Nat} (h : am_cl[ci]? = some (C, T, N)) : Jvm.Cond.initialized C ∈ am_TS := match ci, h with
  | 0, h => by cases h; exact ct_ini_ProofLedger
  | 1, h => by cases h; exact ct_ini_ProofLedger_Text
  | 2, h => by cases h; exact ct_ini_ProofLedger_Names
  | 3, h => by cases h; exact ct_ini_ProofLedger_Statements
  | 4, h => by cases h; exact ct_ini_ProofLedger_Expressions
  | 5, h => by cases h; exact ct_ini_ProofLedger_Assertions
  | 6, h => by cases h; exact ct_ini_ProofLedger_Reader
  | 7, h => by cases h; exact ct_ini_ProofLedger_Context
  | 8, h => by cases h; exact ct_ini_ProofLedger_Proof
  | 9, h => by cases h; exact ct_ini_ProofLedger_Letters
  | 10, h => by cases h; exact ct_ini_ProofLedgerModel
  | _ + 11, h => by cases h
theorem am_TS_o1 : Jvm.Cond.instanceMethod objectInit ∈ am_TS := am_one 111 (by decide +kernel) (by decide +kernel)
theorem am_TS_o2 : Jvm.Cond.code objectInit ⟨#[0xb1]⟩ 1 none ∈ am_TS := am_one 112 (by decide +kernel) (by decide +kernel)
theorem am_TS_c1 : Jvm.Cond.native arraycopyName ∈ am_TS := am_one 736 (by decide +kernel) (by decide +kernel)
theorem am_TS_c2 : Jvm.Cond.static arraycopyName ∈ am_TS := am_one 735 (by decide +kernel) (by decide +kernel)
theorem am_TS_m1 : Jvm.Cond.static Lib.Math.max.name ∈ am_TS := am_one 742 (by decide +kernel) (by decide +kernel)
theorem am_TS_m2 : Jvm.Cond.code Lib.Math.max.name Lib.Math.max.code 2 (some .int) ∈ am_TS := am_one 743 (by decide +kernel) (by decide +kernel)
theorem am_TS_c3 : Jvm.Cond.initialized "java/lang/System" ∈ am_TS := ct_ini_java_lang_System
theorem am_TS_z : Jvm.Cond.arrayClass .boolean ∈ am_TS := am_one 291 (by decide +kernel) (by decide +kernel)
theorem am_TS_b : Jvm.Cond.arrayClass .byte ∈ am_TS := am_one 151 (by decide +kernel) (by decide +kernel)
theorem am_TS_i : Jvm.Cond.arrayClass .int ∈ am_TS := am_one 185 (by decide +kernel) (by decide +kernel)
theorem am_TS_l : Jvm.Cond.arrayClass .long ∈ am_TS := am_one 184 (by decide +kernel) (by decide +kernel)
end
section
/-! The machine in our own words: ints as integers, longs as they are, references as numbers (0: the script, r + 1: our own cell r) -/
abbrev am_V : Type := Int ⊕ (Int64 ⊕ Option Nat)
abbrev am_F : Type := (Nat → Int) ⊕ (Nat → Int64)
abbrev am_A : Type := FieldType × (Nat × am_F)
abbrev am_E : Type := am_A ⊕ (Nat × List am_V)
abbrev am_H : Type := List am_E
abbrev am_L : Type := List (Option am_V)
abbrev vI (z : Int) : am_V := Sum.inl z
abbrev vL (x : Int64) : am_V := Sum.inr (Sum.inl x)
abbrev vR (r : Nat) : am_V := Sum.inr (Sum.inr (some r))
abbrev vN : am_V := Sum.inr (Sum.inr none)
/-- a method: its name, its code, how many locals, what it returns, whether it is a constructor, whether it is the law -/
abbrev am_M : Type := MethodName × ByteArray × Nat × Option FieldType × Bool × Bool
def am_y (m : am_M) : MethodName := m.1
def am_own (m : am_M) : String := m.1.cls
def am_bytes (m : am_M) : ByteArray := m.2.1
def am_maxL (m : am_M) : Nat := m.2.2.1
def am_ret (m : am_M) : Option FieldType := m.2.2.2.1
def am_init (m : am_M) : Bool := m.2.2.2.2.1
def am_law (m : am_M) : Bool := m.2.2.2.2.2
def am_lw : Nat := 42
theorem am_lw20 : 20 ≤ am_lw := by decide
theorem am_lw40 : 40 ≤ am_lw := by decide
/-- an instruction, where the next one stands, and two numbers of its own -/
abbrev am_I : Type := Instr × Nat × Nat × Nat
def am_cat : am_V → Nat
  | .inr (.inl _) => 2
  | _ => 1
def am_c (b z : Nat) : am_V → Value
  | .inl n => .int (Int32.ofInt n)
  | .inr (.inl x) => .long x
  | .inr (.inr none) => .null
  | .inr (.inr (some 0)) => .ref b
  | .inr (.inr (some (r + 1))) => .ref (z + r)
theorem am_c_cat (b z : Nat) (v : am_V) : (am_c b z v).category = am_cat v := match v with
  | .inl _ => rfl
  | .inr (.inl _) => rfl
  | .inr (.inr none) => rfl
  | .inr (.inr (some 0)) => rfl
  | .inr (.inr (some (_ + 1))) => rfl
def am_sz : am_E → Nat
  | .inl a => a.2.1
  | .inr o => o.2.length
def am_sl : am_H → Nat
  | [] => 0
  | e :: t => am_sz e + am_sl t
theorem am_sl_app (h : am_H) (e : am_E) : am_sl (h ++ [e]) = am_sl h + am_sz e := by
  induction h with
  | nil => simp [am_sl]
  | cons a t ih => simp [am_sl, ih]; omega
theorem am_sl_set (h : am_H) (k : Nat) (e e0 : am_E) (h0 : h[k]? = some e0) (hs : am_sz e = am_sz e0) : am_sl (h.set k e) = am_sl h := by
  induction h generalizing k with
  | nil => simp at h0
  | cons a t ih =>
    cases k with
    | zero => simp at h0; subst h0; simp [am_sl, hs]
    | succ k => simp at h0; simp [am_sl, ih k h0]
theorem am_sl_set3 (h : am_H) (k : Nat) (e e0 : am_E) (h0 : h[k]? = some e0) (hs : am_sz e = am_sz e0) {a c : Nat} (hp : am_sl h = a ∧ am_sl h ≤ c) : am_sl (h.set k e) = a ∧ am_sl (h.set k e) ≤ c := by
  rw [am_sl_set h k e e0 h0 hs]; exact hp
def am_ce (b z : Nat) (tA : FieldType → ClassId) : am_E → va_E
  | .inl (ty, n, .inl f) => .inl (tA ty, n, .inl (fun j => Int32.ofInt (f j)))
  | .inl (ty, n, .inr f) => .inl (tA ty, n, .inr (.inl f))
  | .inr (ci, fs) => .inr (ci, fs.map (am_c b z))
def am_cw (b z : Nat) (tA : FieldType → ClassId) : Nat → am_H → va_W
  | _, [] => []
  | i, e :: t => (z + i, am_ce b z tA e) :: am_cw b z tA (i + 1) t
theorem am_cw_get (b z : Nat) (tA : FieldType → ClassId) (h : am_H) : ∀ (i k : Nat), (am_cw b z tA i h)[k]? = (h[k]?).map (fun e => (z + (i + k), am_ce b z tA e)) := by
  induction h with
  | nil => intro i k; simp [am_cw]
  | cons a t ih =>
    intro i k
    cases k with
    | zero => simp [am_cw]
    | succ k =>
      simp only [am_cw, List.getElem?_cons_succ, ih (i + 1) k]
      have e : i + 1 + k = i + (k + 1) := by omega
      rw [e]
theorem am_cw_at {b z : Nat} {tA : FieldType → ClassId} {h : am_H} {k : Nat} {e : am_E} (hk : h[k]? = some e) : (am_cw b z tA 0 h)[k]? = some (z + k, am_ce b z tA e) := by
  rw [am_cw_get, hk]; simp
theorem am_cw_set (b z : Nat) (tA : FieldType → ClassId) (e : am_E) (h : am_H) : ∀ (i k : Nat), (am_cw b z tA i h).set k (z + (i + k), am_ce b z tA e) = am_cw b z tA i (h.set k e) := by
  induction h with
  | nil => intro i k; simp [am_cw]
  | cons a t ih =>
    intro i k
    cases k with
    | zero => simp [am_cw]
    | succ k =>
      simp only [am_cw, List.set_cons_succ]
      have e1 : i + (k + 1) = i + 1 + k := by omega
      rw [e1, ih (i + 1) k]
theorem am_cw_set0 (b z : Nat) (tA : FieldType → ClassId) (e : am_E) (h : am_H) (k : Nat) : (am_cw b z tA 0 h).set k (z + k, am_ce b z tA e) = am_cw b z tA 0 (h.set k e) := by
  have := am_cw_set b z tA e h 0 k
  rwa [Nat.zero_add] at this
theorem am_cw_app (b z : Nat) (tA : FieldType → ClassId) (e : am_E) (h : am_H) : ∀ (i : Nat), am_cw b z tA i (h ++ [e]) = am_cw b z tA i h ++ [(z + (i + h.length), am_ce b z tA e)] := by
  induction h with
  | nil => intro i; simp [am_cw]
  | cons a t ih =>
    intro i
    simp only [List.cons_append, am_cw, ih (i + 1), List.length_cons]
    have e1 : i + 1 + t.length = i + (t.length + 1) := by omega
    rw [e1]
theorem am_cw_len (b z : Nat) (tA : FieldType → ClassId) (h : am_H) : ∀ (i : Nat), (am_cw b z tA i h).length = h.length := by
  induction h with
  | nil => intro i; rfl
  | cons a t ih => intro i; simp [am_cw, ih (i + 1)]
theorem am_cw_D (b z : Nat) (tA : FieldType → ClassId) (h : am_H) : va_D (fun q => z ≤ q) (am_cw b z tA 0 h) := by
  refine ⟨fun i j p q hi hj hpq => ?_, fun k q hk => ?_⟩
  · rw [am_cw_get] at hi hj
    cases h1 : h[i]? with
    | none => rw [h1] at hi; cases hi
    | some x =>
      cases h2 : h[j]? with
      | none => rw [h2] at hj; cases hj
      | some y =>
        rw [h1] at hi; rw [h2] at hj
        cases hi; cases hj
        simp at hpq
        exact hpq
  · rw [am_cw_get] at hk
    cases h1 : h[k]? with
    | none => rw [h1] at hk; cases hk
    | some x => rw [h1] at hk; cases hk; simp
/-! locals -/
def am_lv (b z : Nat) (ls : Array Slot) (lv : am_L) : Prop := lv_wf ls ∧ ls.size = lv.length ∧ ∀ (i : Nat) (v : am_V), lv[i]? = some (some v) → ls[i]? = some (.val (am_c b z v))
def am_lp (b z : Nat) (lv : am_L) : List (Nat × Value) := (List.range lv.length).filterMap (fun i => (lv[i]?.join).map (fun v => (i, am_c b z v)))
theorem am_lp_mem {b z : Nat} {lv : am_L} {q : Nat × Value} : q ∈ am_lp b z lv ↔ ∃ v, lv[q.1]? = some (some v) ∧ q.2 = am_c b z v := by
  obtain ⟨i, w⟩ := q
  unfold am_lp
  rw [List.mem_filterMap]
  constructor
  · rintro ⟨j, hj, hq⟩
    cases h : lv[j]? with
    | none => rw [h] at hq; cases hq
    | some o =>
      cases o with
      | none => rw [h] at hq; cases hq
      | some v => rw [h] at hq; cases hq; exact ⟨v, h, rfl⟩
  · rintro ⟨v, h1, h2⟩
    refine ⟨i, List.mem_range.mpr (List.getElem?_eq_some_iff.mp h1).1, ?_⟩
    dsimp only at h1 h2
    rw [h1, h2]; rfl
theorem am_lv.has {b z : Nat} {ls : Array Slot} {lv : am_L} (h : am_lv b z ls lv) : lv_has ls lv.length (am_lp b z lv) :=
  ⟨h.2.1, h.1, fun q hq => by obtain ⟨v, h1, h2⟩ := am_lp_mem.mp hq; rw [h2]; exact h.2.2 _ v h1⟩
def am_clr1 (lv : am_L) (i : Nat) : am_L := match lv[i]? with
  | some (some (.inr (.inl _))) => lv.set i none
  | _ => lv
def am_clr (lv : am_L) : Nat → am_L
  | 0 => lv
  | i + 1 => am_clr1 lv i
def am_st1 (lv : am_L) (i : Nat) (v : am_V) : am_L := (am_clr lv i).set i (some v)
def am_st2 (lv : am_L) (i : Nat) (v : am_V) : am_L := ((am_clr lv i).set (i + 1) none).set i (some v)
theorem am_clr_len (lv : am_L) (i : Nat) : (am_clr lv i).length = lv.length := by
  cases i with
  | zero => rfl
  | succ i =>
    show (am_clr1 lv i).length = lv.length
    unfold am_clr1; split
    · simp
    · rfl
theorem am_clr_get {lv : am_L} {i j : Nat} {w : am_V} (hj : (am_clr lv i)[j]? = some (some w)) : lv[j]? = some (some w) ∧ ¬ (j + 1 = i ∧ am_cat w = 2) := by
  cases i with
  | zero => exact ⟨hj, by omega⟩
  | succ i =>
    replace hj : (am_clr1 lv i)[j]? = some (some w) := hj
    unfold am_clr1 at hj
    split at hj
    · next x hx =>
      by_cases e : j = i
      · subst e
        rw [List.getElem?_set_self ((List.getElem?_eq_some_iff.mp hx).1)] at hj
        cases hj
      · rw [List.getElem?_set_ne (Ne.symm e)] at hj
        exact ⟨hj, by omega⟩
    · next hx =>
      refine ⟨hj, fun ⟨e, hc⟩ => ?_⟩
      have e2 : j = i := by omega
      subst e2
      match w, hc, hj with
      | .inr (.inl x), _, hj => exact hx x hj
theorem am_lv.st1 {b z : Nat} {ls' : Array Slot} {lv : am_L} {i : Nat} {v : am_V} (hi : i < lv.length) (h : lv_has ls' lv.length ((i, am_c b z v) :: (am_lp b z lv).filter (fun q => !(q.1 == i) && !(q.1 + 1 == i && q.2.category == 2)))) : am_lv b z ls' (am_st1 lv i v) := by
  obtain ⟨h1, h2, h3⟩ := h
  refine ⟨h2, by simp [am_st1, am_clr_len, h1], fun j w hj => ?_⟩
  by_cases hji : j = i
  · subst hji
    rw [am_st1, List.getElem?_set_self (by rw [am_clr_len]; exact hi)] at hj
    cases hj
    exact h3 _ List.mem_cons_self
  · rw [am_st1, List.getElem?_set_ne (Ne.symm hji)] at hj
    obtain ⟨h4, h5⟩ := am_clr_get hj
    refine h3 (j, am_c b z w) (List.mem_cons_of_mem _ (List.mem_filter.mpr ⟨am_lp_mem.mpr ⟨w, h4, rfl⟩, ?_⟩))
    dsimp only
    rw [am_c_cat]
    by_cases h6 : j + 1 = i
    · have h7 : ¬ am_cat w = 2 := fun q => h5 ⟨h6, q⟩
      simp [hji, h7]
    · simp [hji, h6]
theorem am_lv.st2 {b z : Nat} {ls' : Array Slot} {lv : am_L} {i : Nat} {v : am_V} (hi : i + 1 < lv.length) (h : lv_has ls' lv.length ((i, am_c b z v) :: (am_lp b z lv).filter (fun q => !(q.1 == i) && (!(q.1 == i + 1) && !(q.1 + 1 == i && q.2.category == 2))))) : am_lv b z ls' (am_st2 lv i v) := by
  obtain ⟨h1, h2, h3⟩ := h
  refine ⟨h2, by simp [am_st2, am_clr_len, h1], fun j w hj => ?_⟩
  by_cases hji : j = i
  · subst hji
    rw [am_st2, List.getElem?_set_self (by rw [List.length_set, am_clr_len]; omega)] at hj
    cases hj
    exact h3 _ List.mem_cons_self
  · rw [am_st2, List.getElem?_set_ne (Ne.symm hji)] at hj
    by_cases hj2 : j = i + 1
    · subst hj2
      rw [List.getElem?_set_self (by rw [am_clr_len]; exact hi)] at hj
      cases hj
    · rw [List.getElem?_set_ne (Ne.symm hj2)] at hj
      obtain ⟨h4, h5⟩ := am_clr_get hj
      refine h3 (j, am_c b z w) (List.mem_cons_of_mem _ (List.mem_filter.mpr ⟨am_lp_mem.mpr ⟨w, h4, rfl⟩, ?_⟩))
      dsimp only
      rw [am_c_cat]
      by_cases h6 : j + 1 = i
      · have h7 : ¬ am_cat w = 2 := fun q => h5 ⟨h6, q⟩
        simp [hji, hj2, h7]
      · simp [hji, hj2, h6]
/-! the locals with which a method begins -/
def am_ea : List am_V → am_L
  | [] => []
  | .inr (.inl x) :: t => some (vL x) :: none :: am_ea t
  | v :: t => some v :: am_ea t
def am_ent (n : Nat) (as : List am_V) : am_L := am_ea as ++ List.replicate (n - (am_ea as).length) none
theorem am_ea_len (b z : Nat) (as : List am_V) : (lg_sl (as.map (am_c b z))).length = (am_ea as).length := by
  induction as with
  | nil => rfl
  | cons v t ih =>
    match v with
    | .inl _ => simpa [lg_sl, am_ea, am_c, Value.category] using ih
    | .inr (.inl _) => simpa [lg_sl, am_ea, am_c, Value.category] using ih
    | .inr (.inr none) => simpa [lg_sl, am_ea, am_c, Value.category] using ih
    | .inr (.inr (some 0)) => simpa [lg_sl, am_ea, am_c, Value.category] using ih
    | .inr (.inr (some (_ + 1))) => simpa [lg_sl, am_ea, am_c, Value.category] using ih
theorem am_ea_at (b z : Nat) (as : List am_V) : ∀ (k i : Nat) (v : am_V), (am_ea as)[i]? = some (some v) → (k + i, am_c b z v) ∈ lv_args k (as.map (am_c b z)) := by
  induction as with
  | nil => intro k i v h; simp [am_ea] at h
  | cons w t ih =>
    intro k i v h
    have one : am_cat w = 1 → am_ea (w :: t) = some w :: am_ea t := by
      intro hc
      match w, hc with
      | .inl _, _ => rfl
      | .inr (.inr _), _ => rfl
    by_cases hc : am_cat w = 2
    · match w, hc with
      | .inr (.inl x), _ =>
        simp only [am_ea] at h
        simp only [List.map_cons, lv_args]
        match i, h with
        | 0, h => simp at h; subst h; simp
        | 1, h => simp at h
        | i + 2, h =>
          simp at h
          have h2 := ih (k + 2) i v h
          have e : k + 2 + i = k + (i + 2) := by omega
          rw [e] at h2
          exact List.mem_cons_of_mem _ (by simpa [am_c, Value.category] using h2)
    · have hc1 : am_cat w = 1 := by
        match w, hc with
        | .inl _, _ => rfl
        | .inr (.inr _), _ => rfl
      rw [one hc1] at h
      simp only [List.map_cons, lv_args]
      match i, h with
      | 0, h => simp at h; subst h; simp
      | i + 1, h =>
        simp at h
        have h2 := ih (k + 1) i v h
        have e : k + 1 + i = k + (i + 1) := by omega
        rw [e] at h2
        refine List.mem_cons_of_mem _ ?_
        rw [if_neg (by rw [am_c_cat]; exact hc)]
        exact h2
theorem am_ent_lv (b z n : Nat) (as : List am_V) (hn : (am_ea as).length ≤ n) : am_lv b z ((lg_sl (as.map (am_c b z)) ++ List.replicate (n - (lg_sl (as.map (am_c b z))).length) Slot.unset).toArray) (am_ent n as) := by
  have h := lv_entry (as.map (am_c b z)) (n := n) (by rw [am_ea_len]; exact hn)
  refine ⟨h.2.1, ?_, fun i v hi => ?_⟩
  · rw [h.1]; simp [am_ent]; omega
  · unfold am_ent at hi
    by_cases hl : i < (am_ea as).length
    · rw [List.getElem?_append_left hl] at hi
      have h2 := h.2.2 _ (am_ea_at b z as 0 i v hi)
      simpa using h2
    · rw [List.getElem?_append_right (by omega), List.getElem?_replicate] at hi
      split at hi <;> cases hi
/-! numbers -/
def am_in (x : Int) : Prop := -2147483648 ≤ x ∧ x < 2147483648
theorem am_in_toInt {x : Int} (h : am_in x) : (Int32.ofInt x).toInt = x := Int32.toInt_ofInt_of_le (by have := h.1; omega) (by have := h.2; omega)
theorem am_eqI {x y : Int} (hx : am_in x) (hy : am_in y) : Int32.ofInt x = Int32.ofInt y ↔ x = y := by
  rw [← Int32.toInt_inj, am_in_toInt hx, am_in_toInt hy]
theorem am_ltI {x y : Int} (hx : am_in x) (hy : am_in y) : Int32.ofInt x < Int32.ofInt y ↔ x < y := by
  rw [Int32.lt_iff_toInt_lt, am_in_toInt hx, am_in_toInt hy]
theorem am_leI {x y : Int} (hx : am_in x) (hy : am_in y) : Int32.ofInt x ≤ Int32.ofInt y ↔ x ≤ y := by
  rw [Int32.le_iff_toInt_le, am_in_toInt hx, am_in_toInt hy]
theorem am_in_0 : am_in 0 := ⟨by decide, by decide⟩
theorem am_0 : (0 : Int32) = Int32.ofInt 0 := rfl
theorem am_clamp {x : Int} (h0 : 0 ≤ x) (h : x < 2147483648) : (Int32.ofInt x).toNatClampNeg = x.toNat := by
  show (Int32.ofInt x).toInt.toNat = x.toNat
  rw [am_in_toInt ⟨by omega, h⟩]
theorem am_vpin {x : Int} {n : Nat} (h0 : 0 ≤ x) (h : x < n) (hn : (n : Int) < 2147483648) : vp_in (Int32.ofInt x) n := by
  rw [vp_in_iff, am_in_toInt ⟨by omega, by omega⟩]
  exact ⟨h0, h⟩
theorem am_nonneg {x : Int} (h0 : 0 ≤ x) (h : x < 2147483648) : ¬ Int32.ofInt x < 0 := by
  rw [am_0, am_ltI ⟨by omega, h⟩ am_in_0]; omega
def am_upd {α : Type} (f : Nat → α) (k : Nat) (x : α) : Nat → α := fun j => if j = k then x else f j
theorem am_upd_i (f : Nat → Int) (k : Nat) (x : Int) : (fun j => Int32.ofInt (am_upd f k x j)) = upd (fun j => Int32.ofInt (f j)) k (Int32.ofInt x) := by
  funext j; unfold am_upd upd; split <;> rfl
theorem am_upd_l (f : Nat → Int64) (k : Nat) (x : Int64) : am_upd f k x = vp_updL f k x := rfl
def am_cpy {α : Type} (f g : Nat → α) (sp dp n : Nat) : Nat → α := fun k => if dp ≤ k ∧ k < dp + n then f (sp + (k - dp)) else g k
theorem am_cpy_i (f g : Nat → Int) (sp dp n : Nat) : (fun j => Int32.ofInt (am_cpy f g sp dp n j)) = va_cpy (fun j => Int32.ofInt (f j)) (fun j => Int32.ofInt (g j)) sp dp n := by
  funext j; unfold am_cpy va_cpy; split <;> rfl
theorem am_div {x y : Int} (hx : 0 ≤ x) (hx2 : x < 2147483648) (hy : 0 < y) (hy2 : y < 2147483648) : Int32.ofInt x / Int32.ofInt y = Int32.ofInt (x / y) := by
  have h := pk_div (a := x.toNat) (d := y.toNat) (by omega) (by omega) (by omega)
  have ex : Int32.ofInt x = nI x.toNat := by rw [nI, ← Int32.ofInt_eq_ofNat, Int.toNat_of_nonneg hx]
  have ey : Int32.ofInt y = nI y.toNat := by rw [nI, ← Int32.ofInt_eq_ofNat, Int.toNat_of_nonneg (by omega)]
  rw [ex, ey, h, nI, ← Int32.ofInt_eq_ofNat]
  congr 1
  rw [Int.natCast_ediv, Int.toNat_of_nonneg hx, Int.toNat_of_nonneg (by omega)]
theorem am_rem {x y : Int} (hx : 0 ≤ x) (hx2 : x < 2147483648) (hy : 0 < y) (hy2 : y < 2147483648) : Int32.ofInt x - Int32.ofInt x / Int32.ofInt y * Int32.ofInt y = Int32.ofInt (x % y) := by
  rw [am_div hx hx2 hy hy2, ← Int32.ofInt_mul, ← Int32.ofInt_sub]
  congr 1
  have := Int.emod_add_mul_ediv x y
  rw [Int.mul_comm] at this
  omega
def am_cmp (x y : Int64) : Int := if y < x then 1 else if x = y then 0 else -1
theorem am_cmp_c (x y : Int64) : lg_cmp x y = Int32.ofInt (am_cmp x y) := by
  unfold lg_cmp am_cmp
  by_cases h : y < x
  · rw [if_pos h, if_pos h]; rfl
  · rw [if_neg h, if_neg h]
    by_cases h2 : x = y
    · rw [if_pos h2, if_pos h2]; rfl
    · rw [if_neg h2, if_neg h2]; rfl
def am_and (x y : Int) : Int := (Int32.ofInt x &&& Int32.ofInt y).toInt
def am_or (x y : Int) : Int := (Int32.ofInt x ||| Int32.ofInt y).toInt
def am_xor (x y : Int) : Int := (Int32.ofInt x ^^^ Int32.ofInt y).toInt
def am_i2l (x : Int) : Int64 := (Int32.ofInt x).toInt64
def am_l2i (x : Int64) : Int := x.toInt32.toInt
def am_i2b (x : Int) : Int := (Int32.ofInt x).toInt8.toInt32.toInt
def am_shl (x : Int64) (y : Int) : Int64 := x <<< ((Int32.ofInt y).toInt64 &&& 63)
def am_shr (x : Int64) (y : Int) : Int64 := x >>> ((Int32.ofInt y).toInt64 &&& 63)
def am_ushr (x : Int64) (y : Int) : Int64 := (x.toUInt64 >>> ((Int32.ofInt y).toInt64.toUInt64 &&& Int64.toUInt64 63)).toInt64
theorem am_dfl_of {n : Nat} {ty : Nat → FieldType} {fs : List Value} (h : (List.range n).map (fun j => defaultValue (ty j)) = fs) : ∀ j, j < n → defaultValue (ty j) = vp_V fs j := by
  subst h
  intro j hj
  simp [vp_V, hj]
end
section
/-! ===== a new object's fields ===== -/
def am_dfl (ci : Nat) : List am_V := match ci with
  | 0 => [vN, vN, vN, vN, vN, vI 0]
  | 1 => [vN, vI 0, vI 0, vI 0, vI 0, vL 0, vI 0, vI 0]
  | 2 => [vN, vN, vN, vI 0, vI 0, vL 0]
  | 3 => [vN, vN, vN, vN, vN]
  | 4 => [vI 0, vN, vN, vN, vI 0]
  | 5 => [vN, vN, vN, vN, vN, vN, vN, vN, vI 0]
  | 6 => [vN, vN, vN, vN, vN, vN, vI 0, vI 0, vL 0]
  | 7 => [vL 0, vL 0, vL 0, vN, vI 0, vN, vI 0, vN, vN, vN, vN]
  | 8 => [vN, vN, vN, vN, vN, vN, vN, vI 0]
  | 9 => [vN, vN, vN, vI 0, vI 0, vN, vI 0, vI 0, vI 0, vI 0]
  | _ => [vN, vI 0, vN, vN, vI 0, vI 0, vI 0, vI 0, vI 0, vN, vN, vN, vN, vN, vI 0, vI 0, vN, vN, vN, vN, vN, vN, vN, vI 0, vN, vN, vN, vI 0, vN, vN, vN, vN, vN, vN, vN, vN, vN, vN, vN, vN, vI 0, vN, vN, vN, vN, vI 0, vN, vN, vI 0, vN, vN, vI 0, vN, vI 0, vI 0, vI 0, vI 0]
theorem am_cl_len {ci : Nat} {C : String} {T : u_T} {N : Nat} (h : am_cl[ci]? = some (C, T, N)) : (am_dfl ci).length = N := match ci, h with
  | 0, h => by cases h; rfl
  | 1, h => by cases h; rfl
  | 2, h => by cases h; rfl
  | 3, h => by cases h; rfl
  | 4, h => by cases h; rfl
  | 5, h => by cases h; rfl
  | 6, h => by cases h; rfl
  | 7, h => by cases h; rfl
  | 8, h => by cases h; rfl
  | 9, h => by cases h; rfl
  | 10, h => by cases h; rfl
  | _ + 11, h => by cases h
theorem am_cl_dfl {ci : Nat} {C : String} {T : u_T} {N : Nat} (b z : Nat) (h : am_cl[ci]? = some (C, T, N)) : ∀ j, j < N → defaultValue (am_fty ci j) = vp_V ((am_dfl ci).map (am_c b z)) j := match ci, h with
  | 0, h => by cases h; exact am_dfl_of rfl
  | 1, h => by cases h; exact am_dfl_of rfl
  | 2, h => by cases h; exact am_dfl_of rfl
  | 3, h => by cases h; exact am_dfl_of rfl
  | 4, h => by cases h; exact am_dfl_of rfl
  | 5, h => by cases h; exact am_dfl_of rfl
  | 6, h => by cases h; exact am_dfl_of rfl
  | 7, h => by cases h; exact am_dfl_of rfl
  | 8, h => by cases h; exact am_dfl_of rfl
  | 9, h => by cases h; exact am_dfl_of rfl
  | 10, h => by cases h; exact am_dfl_of rfl
  | _ + 11, h => by cases h
end
section
/-! what is known of a method that is called -/
def am_cfA (m : am_M) (n : Nat) : Prop := (am_maxL m + 19 ≤ am_lw ∧ plainName (am_y m).cls = true) ∧ ((am_y m).cls ≠ "java/lang/invoke/MethodHandle" ∧ (am_y m).cls ≠ "java/lang/invoke/VarHandle" ∧ (parseMethodDescriptor (am_y m).desc).map (fun d => d.parameters.length) = some n)
def am_cfV (m : am_M) (n : Nat) : Prop := Jvm.Cond.code (am_y m) (am_bytes m) (am_maxL m) (am_ret m) ∈ am_TS ∧ Jvm.Cond.instanceMethod (am_y m) ∈ am_TS ∧ Jvm.Cond.selects (am_y m).cls (am_y m) (am_y m) ∈ am_TS ∧ Jvm.Cond.initialized (am_y m).cls ∈ am_TS ∧ am_cfA m n
def am_cfS (m : am_M) (n : Nat) : Prop := Jvm.Cond.code (am_y m) (am_bytes m) (am_maxL m) (am_ret m) ∈ am_TS ∧ Jvm.Cond.static (am_y m) ∈ am_TS ∧ Jvm.Cond.initialized (am_y m).cls ∈ am_TS ∧ am_cfA m n
def am_cfI (m : am_M) (n : Nat) : Prop := Jvm.Cond.code (am_y m) (am_bytes m) (am_maxL m) none ∈ am_TS ∧ Jvm.Cond.instanceMethod (am_y m) ∈ am_TS ∧ Jvm.Cond.initialized (am_y m).cls ∈ am_TS ∧ am_cfA m n ∧ (am_y m).name = "<init>" ∧ am_ret m = none
end
section
/-! ===== the methods ===== -/
def m_L_init : am_M := (⟨"ProofLedger", "<init>", "()V"⟩, prog_1_method_1_code, 1, none, true, false)
theorem cf_L_init : am_cfI m_L_init 0 := ⟨am_one 109 (by decide +kernel) (by decide +kernel), am_one 108 (by decide +kernel) (by decide +kernel), ct_ini_ProofLedger, ⟨by decide +kernel, by decide +kernel⟩, rfl, rfl⟩
def m_Text_init : am_M := (⟨"ProofLedger$Text", "<init>", "()V"⟩, prog_10_method_1_code, 1, none, true, false)
theorem cf_Text_init : am_cfI m_Text_init 0 := ⟨am_one 117 (by decide +kernel) (by decide +kernel), am_one 116 (by decide +kernel) (by decide +kernel), ct_ini_ProofLedger_Text, ⟨by decide +kernel, by decide +kernel⟩, rfl, rfl⟩
def m_Names_init : am_M := (⟨"ProofLedger$Names", "<init>", "()V"⟩, prog_6_method_1_code, 1, none, true, false)
theorem cf_Names_init : am_cfI m_Names_init 0 := ⟨am_one 156 (by decide +kernel) (by decide +kernel), am_one 155 (by decide +kernel) (by decide +kernel), ct_ini_ProofLedger_Names, ⟨by decide +kernel, by decide +kernel⟩, rfl, rfl⟩
def m_Statements_init : am_M := (⟨"ProofLedger$Statements", "<init>", "()V"⟩, prog_9_method_1_code, 1, none, true, false)
theorem cf_Statements_init : am_cfI m_Statements_init 0 := ⟨am_one 190 (by decide +kernel) (by decide +kernel), am_one 189 (by decide +kernel) (by decide +kernel), ct_ini_ProofLedger_Statements, ⟨by decide +kernel, by decide +kernel⟩, rfl, rfl⟩
def m_Expressions_init : am_M := (⟨"ProofLedger$Expressions", "<init>", "(I)V"⟩, prog_4_method_1_code, 2, none, true, false)
theorem cf_Expressions_init : am_cfI m_Expressions_init 1 := ⟨am_one 196 (by decide +kernel) (by decide +kernel), am_one 195 (by decide +kernel) (by decide +kernel), ct_ini_ProofLedger_Expressions, ⟨by decide +kernel, by decide +kernel⟩, rfl, rfl⟩
def m_Assertions_init : am_M := (⟨"ProofLedger$Assertions", "<init>", "()V"⟩, prog_2_method_1_code, 1, none, true, false)
theorem cf_Assertions_init : am_cfI m_Assertions_init 0 := ⟨am_one 253 (by decide +kernel) (by decide +kernel), am_one 252 (by decide +kernel) (by decide +kernel), ct_ini_ProofLedger_Assertions, ⟨by decide +kernel, by decide +kernel⟩, rfl, rfl⟩
def m_Reader_init : am_M := (⟨"ProofLedger$Reader", "<init>", "(LProofLedger$Names;LProofLedger$Statements;LProofLedger$Assertions;)V"⟩, prog_8_method_1_code, 4, none, true, false)
theorem cf_Reader_init : am_cfI m_Reader_init 3 := ⟨am_one 296 (by decide +kernel) (by decide +kernel), am_one 295 (by decide +kernel) (by decide +kernel), ct_ini_ProofLedger_Reader, ⟨by decide +kernel, by decide +kernel⟩, rfl, rfl⟩
def m_Context_init : am_M := (⟨"ProofLedger$Context", "<init>", "()V"⟩, prog_3_method_1_code, 1, none, true, false)
theorem cf_Context_init : am_cfI m_Context_init 0 := ⟨am_one 302 (by decide +kernel) (by decide +kernel), am_one 301 (by decide +kernel) (by decide +kernel), ct_ini_ProofLedger_Context, ⟨by decide +kernel, by decide +kernel⟩, rfl, rfl⟩
def m_Proof_init : am_M := (⟨"ProofLedger$Proof", "<init>", "(LProofLedger$Names;LProofLedger$Statements;LProofLedger$Assertions;LProofLedger$Context;)V"⟩, prog_7_method_1_code, 5, none, true, false)
theorem cf_Proof_init : am_cfI m_Proof_init 4 := ⟨am_one 348 (by decide +kernel) (by decide +kernel), am_one 347 (by decide +kernel) (by decide +kernel), ct_ini_ProofLedger_Proof, ⟨by decide +kernel, by decide +kernel⟩, rfl, rfl⟩
def m_Letters_init : am_M := (⟨"ProofLedger$Letters", "<init>", "(LProofLedger$Statements;LProofLedger$Proof;)V"⟩, prog_5_method_1_code, 3, none, true, false)
theorem cf_Letters_init : am_cfI m_Letters_init 2 := ⟨am_one 383 (by decide +kernel) (by decide +kernel), am_one 382 (by decide +kernel) (by decide +kernel), ct_ini_ProofLedger_Letters, ⟨by decide +kernel, by decide +kernel⟩, rfl, rfl⟩
def m_L_feed : am_M := (⟨"ProofLedger", "feed", "(JI)I"⟩, prog_1_method_2_code, 4, (some .int), false, false)
theorem cf_L_feed : am_cfV m_L_feed 2 := ⟨am_one 469 (by decide +kernel) (by decide +kernel), am_one 467 (by decide +kernel) (by decide +kernel), am_one 468 (by decide +kernel) (by decide +kernel), ct_ini_ProofLedger, ⟨by decide +kernel, by decide +kernel⟩⟩
def m_Text_append : am_M := (⟨"ProofLedger$Text", "append", "(JI)I"⟩, prog_10_method_2_code, 6, (some .int), false, false)
theorem cf_Text_append : am_cfV m_Text_append 2 := ⟨am_one 473 (by decide +kernel) (by decide +kernel), am_one 471 (by decide +kernel) (by decide +kernel), am_one 472 (by decide +kernel) (by decide +kernel), ct_ini_ProofLedger_Text, ⟨by decide +kernel, by decide +kernel⟩⟩
def m_L_clear : am_M := (⟨"ProofLedger", "clear", "()I"⟩, prog_1_method_3_code, 1, (some .int), false, false)
theorem cf_L_clear : am_cfV m_L_clear 0 := ⟨am_one 477 (by decide +kernel) (by decide +kernel), am_one 475 (by decide +kernel) (by decide +kernel), am_one 476 (by decide +kernel) (by decide +kernel), ct_ini_ProofLedger, ⟨by decide +kernel, by decide +kernel⟩⟩
def m_Text_empty : am_M := (⟨"ProofLedger$Text", "empty", "()I"⟩, prog_10_method_3_code, 2, (some .int), false, false)
theorem cf_Text_empty : am_cfV m_Text_empty 0 := ⟨am_one 481 (by decide +kernel) (by decide +kernel), am_one 479 (by decide +kernel) (by decide +kernel), am_one 480 (by decide +kernel) (by decide +kernel), ct_ini_ProofLedger_Text, ⟨by decide +kernel, by decide +kernel⟩⟩
def m_L_read : am_M := (⟨"ProofLedger", "read", "()I"⟩, prog_1_method_4_code, 3, (some .int), false, false)
theorem cf_L_read : am_cfV m_L_read 0 := ⟨am_one 485 (by decide +kernel) (by decide +kernel), am_one 483 (by decide +kernel) (by decide +kernel), am_one 484 (by decide +kernel) (by decide +kernel), ct_ini_ProofLedger, ⟨by decide +kernel, by decide +kernel⟩⟩
def m_Text_rewind : am_M := (⟨"ProofLedger$Text", "rewind", "()V"⟩, prog_10_method_4_code, 1, none, false, false)
theorem cf_Text_rewind : am_cfV m_Text_rewind 0 := ⟨am_one 489 (by decide +kernel) (by decide +kernel), am_one 487 (by decide +kernel) (by decide +kernel), am_one 488 (by decide +kernel) (by decide +kernel), ct_ini_ProofLedger_Text, ⟨by decide +kernel, by decide +kernel⟩⟩
def m_Reader_begin : am_M := (⟨"ProofLedger$Reader", "begin", "()V"⟩, prog_8_method_2_code, 1, none, false, false)
theorem cf_Reader_begin : am_cfV m_Reader_begin 0 := ⟨am_one 493 (by decide +kernel) (by decide +kernel), am_one 491 (by decide +kernel) (by decide +kernel), am_one 492 (by decide +kernel) (by decide +kernel), ct_ini_ProofLedger_Reader, ⟨by decide +kernel, by decide +kernel⟩⟩
def m_Names_begin : am_M := (⟨"ProofLedger$Names", "begin", "()V"⟩, prog_6_method_2_code, 1, none, false, false)
theorem cf_Names_begin : am_cfV m_Names_begin 0 := ⟨am_one 497 (by decide +kernel) (by decide +kernel), am_one 495 (by decide +kernel) (by decide +kernel), am_one 496 (by decide +kernel) (by decide +kernel), ct_ini_ProofLedger_Names, ⟨by decide +kernel, by decide +kernel⟩⟩
def m_Context_begin : am_M := (⟨"ProofLedger$Context", "begin", "()V"⟩, prog_3_method_5_code, 1, none, false, false)
theorem cf_Context_begin : am_cfV m_Context_begin 0 := ⟨am_one 501 (by decide +kernel) (by decide +kernel), am_one 499 (by decide +kernel) (by decide +kernel), am_one 500 (by decide +kernel) (by decide +kernel), ct_ini_ProofLedger_Context, ⟨by decide +kernel, by decide +kernel⟩⟩
def m_Context_forgetPairs : am_M := (⟨"ProofLedger$Context", "forgetPairs", "(I)V"⟩, prog_3_method_8_code, 3, none, false, false)
theorem cf_Context_forgetPairs : am_cfV m_Context_forgetPairs 1 := ⟨am_one 505 (by decide +kernel) (by decide +kernel), am_one 504 (by decide +kernel) (by decide +kernel), am_one 0 (by decide +kernel) (by decide +kernel), ct_ini_ProofLedger_Context, ⟨by decide +kernel, by decide +kernel⟩⟩
def m_J_fill : am_M := (⟨"java/util/Arrays", "fill", "([JJ)V"⟩, prog_16_method_101_code, 5, none, false, false)
theorem cf_J_fill : am_cfS m_J_fill 2 := ⟨am_one 508 (by decide +kernel) (by decide +kernel), am_one 507 (by decide +kernel) (by decide +kernel), ct_ini_java_util_Arrays, ⟨by decide +kernel, by decide +kernel⟩⟩
def m_Context_firstOf : am_M := (⟨"ProofLedger$Context", "firstOf", "(I)I"⟩, prog_3_method_3_code, 1, (some .int), false, false)
theorem cf_Context_firstOf : am_cfS m_Context_firstOf 1 := ⟨am_one 511 (by decide +kernel) (by decide +kernel), am_one 510 (by decide +kernel) (by decide +kernel), ct_ini_ProofLedger_Context, ⟨by decide +kernel, by decide +kernel⟩⟩
def m_Context_secondOf : am_M := (⟨"ProofLedger$Context", "secondOf", "(I)I"⟩, prog_3_method_4_code, 1, (some .int), false, false)
theorem cf_Context_secondOf : am_cfS m_Context_secondOf 1 := ⟨am_one 514 (by decide +kernel) (by decide +kernel), am_one 513 (by decide +kernel) (by decide +kernel), ct_ini_ProofLedger_Context, ⟨by decide +kernel, by decide +kernel⟩⟩
def m_Context_addPair : am_M := (⟨"ProofLedger$Context", "addPair", "(II)V"⟩, prog_3_method_9_code, 3, none, false, false)
theorem cf_Context_addPair : am_cfV m_Context_addPair 2 := ⟨am_one 518 (by decide +kernel) (by decide +kernel), am_one 516 (by decide +kernel) (by decide +kernel), am_one 517 (by decide +kernel) (by decide +kernel), ct_ini_ProofLedger_Context, ⟨by decide +kernel, by decide +kernel⟩⟩
def m_Context_pairOf : am_M := (⟨"ProofLedger$Context", "pairOf", "(II)I"⟩, prog_3_method_2_code, 2, (some .int), false, false)
theorem cf_Context_pairOf : am_cfS m_Context_pairOf 2 := ⟨am_one 521 (by decide +kernel) (by decide +kernel), am_one 520 (by decide +kernel) (by decide +kernel), ct_ini_ProofLedger_Context, ⟨by decide +kernel, by decide +kernel⟩⟩
def m_Text_advance : am_M := (⟨"ProofLedger$Text", "advance", "()Z"⟩, prog_10_method_5_code, 3, (some .boolean), false, false)
theorem cf_Text_advance : am_cfV m_Text_advance 0 := ⟨am_one 525 (by decide +kernel) (by decide +kernel), am_one 523 (by decide +kernel) (by decide +kernel), am_one 524 (by decide +kernel) (by decide +kernel), ct_ini_ProofLedger_Text, ⟨by decide +kernel, by decide +kernel⟩⟩
def m_Text_scanWord : am_M := (⟨"ProofLedger$Text", "scanWord", "()Z"⟩, prog_10_method_6_code, 1, (some .boolean), false, false)
theorem cf_Text_scanWord : am_cfV m_Text_scanWord 0 := ⟨am_one 529 (by decide +kernel) (by decide +kernel), am_one 528 (by decide +kernel) (by decide +kernel), am_one 1 (by decide +kernel) (by decide +kernel), ct_ini_ProofLedger_Text, ⟨by decide +kernel, by decide +kernel⟩⟩
def m_Text_keyword : am_M := (⟨"ProofLedger$Text", "keyword", "()I"⟩, prog_10_method_8_code, 1, (some .int), false, false)
theorem cf_Text_keyword : am_cfV m_Text_keyword 0 := ⟨am_one 534 (by decide +kernel) (by decide +kernel), am_one 532 (by decide +kernel) (by decide +kernel), am_one 533 (by decide +kernel) (by decide +kernel), ct_ini_ProofLedger_Text, ⟨by decide +kernel, by decide +kernel⟩⟩
def m_Reader_takeKeyword : am_M := (⟨"ProofLedger$Reader", "takeKeyword", "(LProofLedger$Text;)I"⟩, prog_8_method_4_code, 3, (some .int), false, false)
theorem cf_Reader_takeKeyword : am_cfV m_Reader_takeKeyword 1 := ⟨am_one 538 (by decide +kernel) (by decide +kernel), am_one 536 (by decide +kernel) (by decide +kernel), am_one 537 (by decide +kernel) (by decide +kernel), ct_ini_ProofLedger_Reader, ⟨by decide +kernel, by decide +kernel⟩⟩
def m_Reader_beginUnlabelled : am_M := (⟨"ProofLedger$Reader", "beginUnlabelled", "(I)I"⟩, prog_8_method_6_code, 2, (some .int), false, false)
theorem cf_Reader_beginUnlabelled : am_cfV m_Reader_beginUnlabelled 1 := ⟨am_one 543 (by decide +kernel) (by decide +kernel), am_one 542 (by decide +kernel) (by decide +kernel), am_one 2 (by decide +kernel) (by decide +kernel), ct_ini_ProofLedger_Reader, ⟨by decide +kernel, by decide +kernel⟩⟩
def m_Context_openScope : am_M := (⟨"ProofLedger$Context", "openScope", "()I"⟩, prog_3_method_6_code, 1, (some .int), false, false)
theorem cf_Context_openScope : am_cfV m_Context_openScope 0 := ⟨am_one 547 (by decide +kernel) (by decide +kernel), am_one 545 (by decide +kernel) (by decide +kernel), am_one 546 (by decide +kernel) (by decide +kernel), ct_ini_ProofLedger_Context, ⟨by decide +kernel, by decide +kernel⟩⟩
def m_Context_closeScope : am_M := (⟨"ProofLedger$Context", "closeScope", "()I"⟩, prog_3_method_7_code, 1, (some .int), false, false)
theorem cf_Context_closeScope : am_cfV m_Context_closeScope 0 := ⟨am_one 551 (by decide +kernel) (by decide +kernel), am_one 549 (by decide +kernel) (by decide +kernel), am_one 550 (by decide +kernel) (by decide +kernel), ct_ini_ProofLedger_Context, ⟨by decide +kernel, by decide +kernel⟩⟩
def m_Reader_beginNames : am_M := (⟨"ProofLedger$Reader", "beginNames", "(I)I"⟩, prog_8_method_7_code, 2, (some .int), false, false)
theorem cf_Reader_beginNames : am_cfV m_Reader_beginNames 1 := ⟨am_one 555 (by decide +kernel) (by decide +kernel), am_one 554 (by decide +kernel) (by decide +kernel), am_one 3 (by decide +kernel) (by decide +kernel), ct_ini_ProofLedger_Reader, ⟨by decide +kernel, by decide +kernel⟩⟩
def m_Reader_endNames : am_M := (⟨"ProofLedger$Reader", "endNames", "(I)I"⟩, prog_8_method_8_code, 3, (some .int), false, false)
theorem cf_Reader_endNames : am_cfV m_Reader_endNames 1 := ⟨am_one 559 (by decide +kernel) (by decide +kernel), am_one 558 (by decide +kernel) (by decide +kernel), am_one 4 (by decide +kernel) (by decide +kernel), ct_ini_ProofLedger_Reader, ⟨by decide +kernel, by decide +kernel⟩⟩
def m_Reader_takeKind : am_M := (⟨"ProofLedger$Reader", "takeKind", "(I)I"⟩, prog_8_method_16_code, 3, (some .int), false, false)
theorem cf_Reader_takeKind : am_cfV m_Reader_takeKind 1 := ⟨am_one 563 (by decide +kernel) (by decide +kernel), am_one 562 (by decide +kernel) (by decide +kernel), am_one 5 (by decide +kernel) (by decide +kernel), ct_ini_ProofLedger_Reader, ⟨by decide +kernel, by decide +kernel⟩⟩
def m_Reader_declare : am_M := (⟨"ProofLedger$Reader", "declare", "()I"⟩, prog_8_method_30_code, 3, (some .int), false, false)
theorem cf_Reader_declare : am_cfV m_Reader_declare 0 := ⟨am_one 567 (by decide +kernel) (by decide +kernel), am_one 566 (by decide +kernel) (by decide +kernel), am_one 6 (by decide +kernel) (by decide +kernel), ct_ini_ProofLedger_Reader, ⟨by decide +kernel, by decide +kernel⟩⟩
def m_Names_add : am_M := (⟨"ProofLedger$Names", "add", "(JI)I"⟩, prog_6_method_5_code, 5, (some .int), false, false)
theorem cf_Names_add : am_cfV m_Names_add 2 := ⟨am_one 571 (by decide +kernel) (by decide +kernel), am_one 569 (by decide +kernel) (by decide +kernel), am_one 570 (by decide +kernel) (by decide +kernel), ct_ini_ProofLedger_Names, ⟨by decide +kernel, by decide +kernel⟩⟩
def m_Statements_isHypothesis : am_M := (⟨"ProofLedger$Statements", "isHypothesis", "(I)Z"⟩, prog_9_method_3_code, 2, (some .boolean), false, false)
theorem cf_Statements_isHypothesis : am_cfV m_Statements_isHypothesis 1 := ⟨am_one 575 (by decide +kernel) (by decide +kernel), am_one 573 (by decide +kernel) (by decide +kernel), am_one 574 (by decide +kernel) (by decide +kernel), ct_ini_ProofLedger_Statements, ⟨by decide +kernel, by decide +kernel⟩⟩
def m_Reader_endSymbols : am_M := (⟨"ProofLedger$Reader", "endSymbols", "(I)I"⟩, prog_8_method_20_code, 4, (some .int), false, false)
theorem cf_Reader_endSymbols : am_cfV m_Reader_endSymbols 1 := ⟨am_one 579 (by decide +kernel) (by decide +kernel), am_one 578 (by decide +kernel) (by decide +kernel), am_one 7 (by decide +kernel) (by decide +kernel), ct_ini_ProofLedger_Reader, ⟨by decide +kernel, by decide +kernel⟩⟩
def m_Reader_beginAssertion : am_M := (⟨"ProofLedger$Reader", "beginAssertion", "(I)V"⟩, prog_8_method_21_code, 7, none, false, false)
theorem cf_Reader_beginAssertion : am_cfV m_Reader_beginAssertion 1 := ⟨am_one 583 (by decide +kernel) (by decide +kernel), am_one 582 (by decide +kernel) (by decide +kernel), am_one 8 (by decide +kernel) (by decide +kernel), ct_ini_ProofLedger_Reader, ⟨by decide +kernel, by decide +kernel⟩⟩
def m_Assertions_start : am_M := (⟨"ProofLedger$Assertions", "start", "(I)V"⟩, prog_2_method_3_code, 3, none, false, false)
theorem cf_Assertions_start : am_cfV m_Assertions_start 1 := ⟨am_one 587 (by decide +kernel) (by decide +kernel), am_one 585 (by decide +kernel) (by decide +kernel), am_one 586 (by decide +kernel) (by decide +kernel), ct_ini_ProofLedger_Assertions, ⟨by decide +kernel, by decide +kernel⟩⟩
def m_Reader_mandatoryVariables : am_M := (⟨"ProofLedger$Reader", "mandatoryVariables", "(I)J"⟩, prog_8_method_22_code, 5, (some .long), false, false)
theorem cf_Reader_mandatoryVariables : am_cfV m_Reader_mandatoryVariables 1 := ⟨am_one 591 (by decide +kernel) (by decide +kernel), am_one 590 (by decide +kernel) (by decide +kernel), am_one 9 (by decide +kernel) (by decide +kernel), ct_ini_ProofLedger_Reader, ⟨by decide +kernel, by decide +kernel⟩⟩
def m_Reader_isActiveHypothesis : am_M := (⟨"ProofLedger$Reader", "isActiveHypothesis", "(I)Z"⟩, prog_8_method_23_code, 2, (some .boolean), false, false)
theorem cf_Reader_isActiveHypothesis : am_cfV m_Reader_isActiveHypothesis 1 := ⟨am_one 595 (by decide +kernel) (by decide +kernel), am_one 594 (by decide +kernel) (by decide +kernel), am_one 10 (by decide +kernel) (by decide +kernel), ct_ini_ProofLedger_Reader, ⟨by decide +kernel, by decide +kernel⟩⟩
def m_Reader_keepPairs : am_M := (⟨"ProofLedger$Reader", "keepPairs", "(J)V"⟩, prog_8_method_24_code, 7, none, false, false)
theorem cf_Reader_keepPairs : am_cfV m_Reader_keepPairs 1 := ⟨am_one 599 (by decide +kernel) (by decide +kernel), am_one 598 (by decide +kernel) (by decide +kernel), am_one 11 (by decide +kernel) (by decide +kernel), ct_ini_ProofLedger_Reader, ⟨by decide +kernel, by decide +kernel⟩⟩
def m_Assertions_addPair : am_M := (⟨"ProofLedger$Assertions", "addPair", "(I)V"⟩, prog_2_method_4_code, 2, none, false, false)
theorem cf_Assertions_addPair : am_cfV m_Assertions_addPair 1 := ⟨am_one 604 (by decide +kernel) (by decide +kernel), am_one 602 (by decide +kernel) (by decide +kernel), am_one 603 (by decide +kernel) (by decide +kernel), ct_ini_ProofLedger_Assertions, ⟨by decide +kernel, by decide +kernel⟩⟩
def m_Proof_begin : am_M := (⟨"ProofLedger$Proof", "begin", "()V"⟩, prog_7_method_2_code, 1, none, false, false)
theorem cf_Proof_begin : am_cfV m_Proof_begin 0 := ⟨am_one 608 (by decide +kernel) (by decide +kernel), am_one 606 (by decide +kernel) (by decide +kernel), am_one 607 (by decide +kernel) (by decide +kernel), ct_ini_ProofLedger_Proof, ⟨by decide +kernel, by decide +kernel⟩⟩
def m_Reader_endProof : am_M := (⟨"ProofLedger$Reader", "endProof", "()I"⟩, prog_8_method_29_code, 2, (some .int), false, false)
theorem cf_Reader_endProof : am_cfV m_Reader_endProof 0 := ⟨am_one 612 (by decide +kernel) (by decide +kernel), am_one 611 (by decide +kernel) (by decide +kernel), am_one 12 (by decide +kernel) (by decide +kernel), ct_ini_ProofLedger_Reader, ⟨by decide +kernel, by decide +kernel⟩⟩
def m_Proof_finish : am_M := (⟨"ProofLedger$Proof", "finish", "(I)I"⟩, prog_7_method_9_code, 2, (some .int), false, false)
theorem cf_Proof_finish : am_cfV m_Proof_finish 1 := ⟨am_one 616 (by decide +kernel) (by decide +kernel), am_one 614 (by decide +kernel) (by decide +kernel), am_one 615 (by decide +kernel) (by decide +kernel), ct_ini_ProofLedger_Proof, ⟨by decide +kernel, by decide +kernel⟩⟩
def m_Expressions_isSame : am_M := (⟨"ProofLedger$Expressions", "isSame", "(ILProofLedger$Expressions;I)Z"⟩, prog_4_method_9_code, 5, (some .boolean), false, false)
theorem cf_Expressions_isSame : am_cfV m_Expressions_isSame 3 := ⟨am_one 620 (by decide +kernel) (by decide +kernel), am_one 618 (by decide +kernel) (by decide +kernel), am_one 619 (by decide +kernel) (by decide +kernel), ct_ini_ProofLedger_Expressions, ⟨by decide +kernel, by decide +kernel⟩⟩
def m_Reader_takeName : am_M := (⟨"ProofLedger$Reader", "takeName", "(LProofLedger$Text;)I"⟩, prog_8_method_5_code, 2, (some .int), false, false)
theorem cf_Reader_takeName : am_cfV m_Reader_takeName 1 := ⟨am_one 624 (by decide +kernel) (by decide +kernel), am_one 622 (by decide +kernel) (by decide +kernel), am_one 623 (by decide +kernel) (by decide +kernel), ct_ini_ProofLedger_Reader, ⟨by decide +kernel, by decide +kernel⟩⟩
def m_Text_isTooLong : am_M := (⟨"ProofLedger$Text", "isTooLong", "()Z"⟩, prog_10_method_7_code, 1, (some .boolean), false, false)
theorem cf_Text_isTooLong : am_cfV m_Text_isTooLong 0 := ⟨am_one 628 (by decide +kernel) (by decide +kernel), am_one 626 (by decide +kernel) (by decide +kernel), am_one 627 (by decide +kernel) (by decide +kernel), ct_ini_ProofLedger_Text, ⟨by decide +kernel, by decide +kernel⟩⟩
def m_Reader_takeLabel : am_M := (⟨"ProofLedger$Reader", "takeLabel", "(J)I"⟩, prog_8_method_15_code, 3, (some .int), false, false)
theorem cf_Reader_takeLabel : am_cfV m_Reader_takeLabel 1 := ⟨am_one 632 (by decide +kernel) (by decide +kernel), am_one 631 (by decide +kernel) (by decide +kernel), am_one 13 (by decide +kernel) (by decide +kernel), ct_ini_ProofLedger_Reader, ⟨by decide +kernel, by decide +kernel⟩⟩
def m_Names_find : am_M := (⟨"ProofLedger$Names", "find", "(J)I"⟩, prog_6_method_4_code, 4, (some .int), false, false)
theorem cf_Names_find : am_cfV m_Names_find 1 := ⟨am_one 636 (by decide +kernel) (by decide +kernel), am_one 634 (by decide +kernel) (by decide +kernel), am_one 635 (by decide +kernel) (by decide +kernel), ct_ini_ProofLedger_Names, ⟨by decide +kernel, by decide +kernel⟩⟩
def m_Names_isFull : am_M := (⟨"ProofLedger$Names", "isFull", "()Z"⟩, prog_6_method_3_code, 1, (some .boolean), false, false)
theorem cf_Names_isFull : am_cfV m_Names_isFull 0 := ⟨am_one 640 (by decide +kernel) (by decide +kernel), am_one 638 (by decide +kernel) (by decide +kernel), am_one 639 (by decide +kernel) (by decide +kernel), ct_ini_ProofLedger_Names, ⟨by decide +kernel, by decide +kernel⟩⟩
def m_Expressions_isFull : am_M := (⟨"ProofLedger$Expressions", "isFull", "()Z"⟩, prog_4_method_2_code, 1, (some .boolean), false, false)
theorem cf_Expressions_isFull : am_cfV m_Expressions_isFull 0 := ⟨am_one 644 (by decide +kernel) (by decide +kernel), am_one 642 (by decide +kernel) (by decide +kernel), am_one 643 (by decide +kernel) (by decide +kernel), ct_ini_ProofLedger_Expressions, ⟨by decide +kernel, by decide +kernel⟩⟩
def m_Statements_start : am_M := (⟨"ProofLedger$Statements", "start", "(J)V"⟩, prog_9_method_2_code, 3, none, false, false)
theorem cf_Statements_start : am_cfV m_Statements_start 1 := ⟨am_one 648 (by decide +kernel) (by decide +kernel), am_one 646 (by decide +kernel) (by decide +kernel), am_one 647 (by decide +kernel) (by decide +kernel), ct_ini_ProofLedger_Statements, ⟨by decide +kernel, by decide +kernel⟩⟩
def m_Expressions_startRow : am_M := (⟨"ProofLedger$Expressions", "startRow", "()V"⟩, prog_4_method_4_code, 1, none, false, false)
theorem cf_Expressions_startRow : am_cfV m_Expressions_startRow 0 := ⟨am_one 652 (by decide +kernel) (by decide +kernel), am_one 650 (by decide +kernel) (by decide +kernel), am_one 651 (by decide +kernel) (by decide +kernel), ct_ini_ProofLedger_Expressions, ⟨by decide +kernel, by decide +kernel⟩⟩
def m_Reader_declareConstant : am_M := (⟨"ProofLedger$Reader", "declareConstant", "(J)I"⟩, prog_8_method_9_code, 3, (some .int), false, false)
theorem cf_Reader_declareConstant : am_cfV m_Reader_declareConstant 1 := ⟨am_one 656 (by decide +kernel) (by decide +kernel), am_one 655 (by decide +kernel) (by decide +kernel), am_one 14 (by decide +kernel) (by decide +kernel), ct_ini_ProofLedger_Reader, ⟨by decide +kernel, by decide +kernel⟩⟩
def m_Reader_declareVariable : am_M := (⟨"ProofLedger$Reader", "declareVariable", "(J)I"⟩, prog_8_method_10_code, 4, (some .int), false, false)
theorem cf_Reader_declareVariable : am_cfV m_Reader_declareVariable 1 := ⟨am_one 660 (by decide +kernel) (by decide +kernel), am_one 659 (by decide +kernel) (by decide +kernel), am_one 15 (by decide +kernel) (by decide +kernel), ct_ini_ProofLedger_Reader, ⟨by decide +kernel, by decide +kernel⟩⟩
def m_Reader_isActive : am_M := (⟨"ProofLedger$Reader", "isActive", "(I)Z"⟩, prog_8_method_11_code, 2, (some .boolean), false, false)
theorem cf_Reader_isActive : am_cfV m_Reader_isActive 1 := ⟨am_one 664 (by decide +kernel) (by decide +kernel), am_one 663 (by decide +kernel) (by decide +kernel), am_one 16 (by decide +kernel) (by decide +kernel), ct_ini_ProofLedger_Reader, ⟨by decide +kernel, by decide +kernel⟩⟩
def m_Reader_takeApart : am_M := (⟨"ProofLedger$Reader", "takeApart", "(I)I"⟩, prog_8_method_14_code, 4, (some .int), false, false)
theorem cf_Reader_takeApart : am_cfV m_Reader_takeApart 1 := ⟨am_one 668 (by decide +kernel) (by decide +kernel), am_one 667 (by decide +kernel) (by decide +kernel), am_one 17 (by decide +kernel) (by decide +kernel), ct_ini_ProofLedger_Reader, ⟨by decide +kernel, by decide +kernel⟩⟩
def m_Reader_meaningOf : am_M := (⟨"ProofLedger$Reader", "meaningOf", "(I)I"⟩, prog_8_method_13_code, 2, (some .int), false, false)
theorem cf_Reader_meaningOf : am_cfV m_Reader_meaningOf 1 := ⟨am_one 672 (by decide +kernel) (by decide +kernel), am_one 671 (by decide +kernel) (by decide +kernel), am_one 18 (by decide +kernel) (by decide +kernel), ct_ini_ProofLedger_Reader, ⟨by decide +kernel, by decide +kernel⟩⟩
def m_Reader_takeType : am_M := (⟨"ProofLedger$Reader", "takeType", "(I)I"⟩, prog_8_method_17_code, 3, (some .int), false, false)
theorem cf_Reader_takeType : am_cfV m_Reader_takeType 1 := ⟨am_one 677 (by decide +kernel) (by decide +kernel), am_one 676 (by decide +kernel) (by decide +kernel), am_one 19 (by decide +kernel) (by decide +kernel), ct_ini_ProofLedger_Reader, ⟨by decide +kernel, by decide +kernel⟩⟩
def m_Expressions_append : am_M := (⟨"ProofLedger$Expressions", "append", "(IZ)V"⟩, prog_4_method_6_code, 3, none, false, false)
theorem cf_Expressions_append : am_cfV m_Expressions_append 2 := ⟨am_one 681 (by decide +kernel) (by decide +kernel), am_one 679 (by decide +kernel) (by decide +kernel), am_one 680 (by decide +kernel) (by decide +kernel), ct_ini_ProofLedger_Expressions, ⟨by decide +kernel, by decide +kernel⟩⟩
def m_Reader_takeFloating : am_M := (⟨"ProofLedger$Reader", "takeFloating", "(I)I"⟩, prog_8_method_18_code, 3, (some .int), false, false)
theorem cf_Reader_takeFloating : am_cfV m_Reader_takeFloating 1 := ⟨am_one 685 (by decide +kernel) (by decide +kernel), am_one 684 (by decide +kernel) (by decide +kernel), am_one 20 (by decide +kernel) (by decide +kernel), ct_ini_ProofLedger_Reader, ⟨by decide +kernel, by decide +kernel⟩⟩
def m_Reader_isTyped : am_M := (⟨"ProofLedger$Reader", "isTyped", "(I)Z"⟩, prog_8_method_12_code, 2, (some .boolean), false, false)
theorem cf_Reader_isTyped : am_cfV m_Reader_isTyped 1 := ⟨am_one 689 (by decide +kernel) (by decide +kernel), am_one 688 (by decide +kernel) (by decide +kernel), am_one 21 (by decide +kernel) (by decide +kernel), ct_ini_ProofLedger_Reader, ⟨by decide +kernel, by decide +kernel⟩⟩
def m_Reader_takeSymbol : am_M := (⟨"ProofLedger$Reader", "takeSymbol", "(I)I"⟩, prog_8_method_19_code, 3, (some .int), false, false)
theorem cf_Reader_takeSymbol : am_cfV m_Reader_takeSymbol 1 := ⟨am_one 693 (by decide +kernel) (by decide +kernel), am_one 692 (by decide +kernel) (by decide +kernel), am_one 22 (by decide +kernel) (by decide +kernel), ct_ini_ProofLedger_Reader, ⟨by decide +kernel, by decide +kernel⟩⟩
def m_Expressions_rowHasRoom : am_M := (⟨"ProofLedger$Expressions", "rowHasRoom", "(I)Z"⟩, prog_4_method_5_code, 2, (some .boolean), false, false)
theorem cf_Expressions_rowHasRoom : am_cfV m_Expressions_rowHasRoom 1 := ⟨am_one 697 (by decide +kernel) (by decide +kernel), am_one 695 (by decide +kernel) (by decide +kernel), am_one 696 (by decide +kernel) (by decide +kernel), ct_ini_ProofLedger_Expressions, ⟨by decide +kernel, by decide +kernel⟩⟩
def m_Reader_beginSteps : am_M := (⟨"ProofLedger$Reader", "beginSteps", "(J)I"⟩, prog_8_method_25_code, 3, (some .int), false, false)
theorem cf_Reader_beginSteps : am_cfV m_Reader_beginSteps 1 := ⟨am_one 701 (by decide +kernel) (by decide +kernel), am_one 700 (by decide +kernel) (by decide +kernel), am_one 23 (by decide +kernel) (by decide +kernel), ct_ini_ProofLedger_Reader, ⟨by decide +kernel, by decide +kernel⟩⟩
def m_Reader_takeStep : am_M := (⟨"ProofLedger$Reader", "takeStep", "(J)I"⟩, prog_8_method_26_code, 4, (some .int), false, false)
theorem cf_Reader_takeStep : am_cfV m_Reader_takeStep 1 := ⟨am_one 706 (by decide +kernel) (by decide +kernel), am_one 705 (by decide +kernel) (by decide +kernel), am_one 24 (by decide +kernel) (by decide +kernel), ct_ini_ProofLedger_Reader, ⟨by decide +kernel, by decide +kernel⟩⟩
def m_Proof_leaveGap : am_M := (⟨"ProofLedger$Proof", "leaveGap", "()V"⟩, prog_7_method_3_code, 1, none, false, false)
theorem cf_Proof_leaveGap : am_cfV m_Proof_leaveGap 0 := ⟨am_one 711 (by decide +kernel) (by decide +kernel), am_one 709 (by decide +kernel) (by decide +kernel), am_one 710 (by decide +kernel) (by decide +kernel), ct_ini_ProofLedger_Proof, ⟨by decide +kernel, by decide +kernel⟩⟩
def m_Assertions_noteGap : am_M := (⟨"ProofLedger$Assertions", "noteGap", "()V"⟩, prog_2_method_7_code, 1, none, false, false)
theorem cf_Assertions_noteGap : am_cfV m_Assertions_noteGap 0 := ⟨am_one 715 (by decide +kernel) (by decide +kernel), am_one 713 (by decide +kernel) (by decide +kernel), am_one 714 (by decide +kernel) (by decide +kernel), ct_ini_ProofLedger_Assertions, ⟨by decide +kernel, by decide +kernel⟩⟩
def m_Reader_findUsable : am_M := (⟨"ProofLedger$Reader", "findUsable", "(J)I"⟩, prog_8_method_28_code, 5, (some .int), false, false)
theorem cf_Reader_findUsable : am_cfV m_Reader_findUsable 1 := ⟨am_one 719 (by decide +kernel) (by decide +kernel), am_one 718 (by decide +kernel) (by decide +kernel), am_one 25 (by decide +kernel) (by decide +kernel), ct_ini_ProofLedger_Reader, ⟨by decide +kernel, by decide +kernel⟩⟩
def m_Proof_stepWith : am_M := (⟨"ProofLedger$Proof", "stepWith", "(I)I"⟩, prog_7_method_4_code, 3, (some .int), false, false)
theorem cf_Proof_stepWith : am_cfV m_Proof_stepWith 1 := ⟨am_one 723 (by decide +kernel) (by decide +kernel), am_one 721 (by decide +kernel) (by decide +kernel), am_one 722 (by decide +kernel) (by decide +kernel), ct_ini_ProofLedger_Proof, ⟨by decide +kernel, by decide +kernel⟩⟩
def m_Proof_put : am_M := (⟨"ProofLedger$Proof", "put", "(LProofLedger$Expressions;I)I"⟩, prog_7_method_5_code, 3, (some .int), false, false)
theorem cf_Proof_put : am_cfV m_Proof_put 2 := ⟨am_one 728 (by decide +kernel) (by decide +kernel), am_one 726 (by decide +kernel) (by decide +kernel), am_one 727 (by decide +kernel) (by decide +kernel), ct_ini_ProofLedger_Proof, ⟨by decide +kernel, by decide +kernel⟩⟩
def m_Expressions_addCopy : am_M := (⟨"ProofLedger$Expressions", "addCopy", "(LProofLedger$Expressions;I)V"⟩, prog_4_method_8_code, 3, none, false, false)
theorem cf_Expressions_addCopy : am_cfV m_Expressions_addCopy 2 := ⟨am_one 733 (by decide +kernel) (by decide +kernel), am_one 731 (by decide +kernel) (by decide +kernel), am_one 732 (by decide +kernel) (by decide +kernel), ct_ini_ProofLedger_Expressions, ⟨by decide +kernel, by decide +kernel⟩⟩
def m_Assertions_noteStep : am_M := (⟨"ProofLedger$Assertions", "noteStep", "(I)V"⟩, prog_2_method_5_code, 2, none, false, false)
theorem cf_Assertions_noteStep : am_cfV m_Assertions_noteStep 1 := ⟨am_one 740 (by decide +kernel) (by decide +kernel), am_one 738 (by decide +kernel) (by decide +kernel), am_one 739 (by decide +kernel) (by decide +kernel), ct_ini_ProofLedger_Assertions, ⟨by decide +kernel, by decide +kernel⟩⟩
def m_J_bitCount : am_M := (⟨"java/lang/Long", "bitCount", "(J)I"⟩, prog_13_method_50_code, 2, (some .int), false, false)
theorem cf_J_bitCount : am_cfS m_J_bitCount 1 := ⟨am_one 746 (by decide +kernel) (by decide +kernel), am_one 745 (by decide +kernel) (by decide +kernel), ct_ini_java_lang_Long, ⟨by decide +kernel, by decide +kernel⟩⟩
def m_Proof_bind : am_M := (⟨"ProofLedger$Proof", "bind", "(II)Z"⟩, prog_7_method_6_code, 6, (some .boolean), false, false)
theorem cf_Proof_bind : am_cfV m_Proof_bind 2 := ⟨am_one 753 (by decide +kernel) (by decide +kernel), am_one 752 (by decide +kernel) (by decide +kernel), am_one 26 (by decide +kernel) (by decide +kernel), ct_ini_ProofLedger_Proof, ⟨by decide +kernel, by decide +kernel⟩⟩
def m_Statements_isMandatory : am_M := (⟨"ProofLedger$Statements", "isMandatory", "(II)Z"⟩, prog_9_method_5_code, 3, (some .boolean), false, false)
theorem cf_Statements_isMandatory : am_cfV m_Statements_isMandatory 2 := ⟨am_one 757 (by decide +kernel) (by decide +kernel), am_one 755 (by decide +kernel) (by decide +kernel), am_one 756 (by decide +kernel) (by decide +kernel), ct_ini_ProofLedger_Statements, ⟨by decide +kernel, by decide +kernel⟩⟩
def m_Expressions_symbolAt : am_M := (⟨"ProofLedger$Expressions", "symbolAt", "(II)I"⟩, prog_4_method_3_code, 3, (some .int), false, false)
theorem cf_Expressions_symbolAt : am_cfV m_Expressions_symbolAt 2 := ⟨am_one 761 (by decide +kernel) (by decide +kernel), am_one 759 (by decide +kernel) (by decide +kernel), am_one 760 (by decide +kernel) (by decide +kernel), ct_ini_ProofLedger_Expressions, ⟨by decide +kernel, by decide +kernel⟩⟩
def m_Proof_replaceIn : am_M := (⟨"ProofLedger$Proof", "replaceIn", "(I)Z"⟩, prog_7_method_7_code, 6, (some .boolean), false, false)
theorem cf_Proof_replaceIn : am_cfV m_Proof_replaceIn 1 := ⟨am_one 765 (by decide +kernel) (by decide +kernel), am_one 764 (by decide +kernel) (by decide +kernel), am_one 27 (by decide +kernel) (by decide +kernel), ct_ini_ProofLedger_Proof, ⟨by decide +kernel, by decide +kernel⟩⟩
def m_Expressions_appendBody : am_M := (⟨"ProofLedger$Expressions", "appendBody", "(LProofLedger$Expressions;I)V"⟩, prog_4_method_7_code, 4, none, false, false)
theorem cf_Expressions_appendBody : am_cfV m_Expressions_appendBody 2 := ⟨am_one 771 (by decide +kernel) (by decide +kernel), am_one 769 (by decide +kernel) (by decide +kernel), am_one 770 (by decide +kernel) (by decide +kernel), ct_ini_ProofLedger_Expressions, ⟨by decide +kernel, by decide +kernel⟩⟩
def m_Proof_keepsApart : am_M := (⟨"ProofLedger$Proof", "keepsApart", "(I)Z"⟩, prog_7_method_8_code, 5, (some .boolean), false, false)
theorem cf_Proof_keepsApart : am_cfV m_Proof_keepsApart 1 := ⟨am_one 776 (by decide +kernel) (by decide +kernel), am_one 775 (by decide +kernel) (by decide +kernel), am_one 28 (by decide +kernel) (by decide +kernel), ct_ini_ProofLedger_Proof, ⟨by decide +kernel, by decide +kernel⟩⟩
def m_Assertions_firstOfPair : am_M := (⟨"ProofLedger$Assertions", "firstOfPair", "(II)I"⟩, prog_2_method_8_code, 3, (some .int), false, false)
theorem cf_Assertions_firstOfPair : am_cfV m_Assertions_firstOfPair 2 := ⟨am_one 780 (by decide +kernel) (by decide +kernel), am_one 778 (by decide +kernel) (by decide +kernel), am_one 779 (by decide +kernel) (by decide +kernel), ct_ini_ProofLedger_Assertions, ⟨by decide +kernel, by decide +kernel⟩⟩
def m_Assertions_secondOfPair : am_M := (⟨"ProofLedger$Assertions", "secondOfPair", "(II)I"⟩, prog_2_method_9_code, 3, (some .int), false, false)
theorem cf_Assertions_secondOfPair : am_cfV m_Assertions_secondOfPair 2 := ⟨am_one 785 (by decide +kernel) (by decide +kernel), am_one 783 (by decide +kernel) (by decide +kernel), am_one 784 (by decide +kernel) (by decide +kernel), ct_ini_ProofLedger_Assertions, ⟨by decide +kernel, by decide +kernel⟩⟩
def m_Context_areApart : am_M := (⟨"ProofLedger$Context", "areApart", "(JJ)Z"⟩, prog_3_method_10_code, 6, (some .boolean), false, false)
theorem cf_Context_areApart : am_cfV m_Context_areApart 2 := ⟨am_one 790 (by decide +kernel) (by decide +kernel), am_one 788 (by decide +kernel) (by decide +kernel), am_one 789 (by decide +kernel) (by decide +kernel), ct_ini_ProofLedger_Context, ⟨by decide +kernel, by decide +kernel⟩⟩
def m_Assertions_noteUse : am_M := (⟨"ProofLedger$Assertions", "noteUse", "(I)V"⟩, prog_2_method_6_code, 2, none, false, false)
theorem cf_Assertions_noteUse : am_cfV m_Assertions_noteUse 1 := ⟨am_one 795 (by decide +kernel) (by decide +kernel), am_one 793 (by decide +kernel) (by decide +kernel), am_one 794 (by decide +kernel) (by decide +kernel), ct_ini_ProofLedger_Assertions, ⟨by decide +kernel, by decide +kernel⟩⟩
def m_Letters_begin : am_M := (⟨"ProofLedger$Letters", "begin", "(I)V"⟩, prog_5_method_2_code, 3, none, false, false)
theorem cf_Letters_begin : am_cfV m_Letters_begin 1 := ⟨am_one 799 (by decide +kernel) (by decide +kernel), am_one 797 (by decide +kernel) (by decide +kernel), am_one 798 (by decide +kernel) (by decide +kernel), ct_ini_ProofLedger_Letters, ⟨by decide +kernel, by decide +kernel⟩⟩
def m_Reader_takeListed : am_M := (⟨"ProofLedger$Reader", "takeListed", "(J)I"⟩, prog_8_method_27_code, 4, (some .int), false, false)
theorem cf_Reader_takeListed : am_cfV m_Reader_takeListed 1 := ⟨am_one 804 (by decide +kernel) (by decide +kernel), am_one 803 (by decide +kernel) (by decide +kernel), am_one 29 (by decide +kernel) (by decide +kernel), ct_ini_ProofLedger_Reader, ⟨by decide +kernel, by decide +kernel⟩⟩
def m_Letters_addListed : am_M := (⟨"ProofLedger$Letters", "addListed", "(I)I"⟩, prog_5_method_3_code, 2, (some .int), false, false)
theorem cf_Letters_addListed : am_cfV m_Letters_addListed 1 := ⟨am_one 810 (by decide +kernel) (by decide +kernel), am_one 808 (by decide +kernel) (by decide +kernel), am_one 809 (by decide +kernel) (by decide +kernel), ct_ini_ProofLedger_Letters, ⟨by decide +kernel, by decide +kernel⟩⟩
def m_Letters_takeLetters : am_M := (⟨"ProofLedger$Letters", "takeLetters", "(LProofLedger$Text;)I"⟩, prog_5_method_4_code, 4, (some .int), false, false)
theorem cf_Letters_takeLetters : am_cfV m_Letters_takeLetters 1 := ⟨am_one 814 (by decide +kernel) (by decide +kernel), am_one 812 (by decide +kernel) (by decide +kernel), am_one 813 (by decide +kernel) (by decide +kernel), ct_ini_ProofLedger_Letters, ⟨by decide +kernel, by decide +kernel⟩⟩
def m_Letters_takeLetter : am_M := (⟨"ProofLedger$Letters", "takeLetter", "(I)I"⟩, prog_5_method_5_code, 3, (some .int), false, false)
theorem cf_Letters_takeLetter : am_cfV m_Letters_takeLetter 1 := ⟨am_one 818 (by decide +kernel) (by decide +kernel), am_one 817 (by decide +kernel) (by decide +kernel), am_one 30 (by decide +kernel) (by decide +kernel), ct_ini_ProofLedger_Letters, ⟨by decide +kernel, by decide +kernel⟩⟩
def m_Letters_addGap : am_M := (⟨"ProofLedger$Letters", "addGap", "()I"⟩, prog_5_method_7_code, 1, (some .int), false, false)
theorem cf_Letters_addGap : am_cfV m_Letters_addGap 0 := ⟨am_one 822 (by decide +kernel) (by decide +kernel), am_one 821 (by decide +kernel) (by decide +kernel), am_one 31 (by decide +kernel) (by decide +kernel), ct_ini_ProofLedger_Letters, ⟨by decide +kernel, by decide +kernel⟩⟩
def m_Letters_addTag : am_M := (⟨"ProofLedger$Letters", "addTag", "()I"⟩, prog_5_method_8_code, 1, (some .int), false, false)
theorem cf_Letters_addTag : am_cfV m_Letters_addTag 0 := ⟨am_one 827 (by decide +kernel) (by decide +kernel), am_one 826 (by decide +kernel) (by decide +kernel), am_one 32 (by decide +kernel) (by decide +kernel), ct_ini_ProofLedger_Letters, ⟨by decide +kernel, by decide +kernel⟩⟩
def m_Letters_stepWithNumber : am_M := (⟨"ProofLedger$Letters", "stepWithNumber", "()I"⟩, prog_5_method_6_code, 2, (some .int), false, false)
theorem cf_Letters_stepWithNumber : am_cfV m_Letters_stepWithNumber 0 := ⟨am_one 832 (by decide +kernel) (by decide +kernel), am_one 831 (by decide +kernel) (by decide +kernel), am_one 33 (by decide +kernel) (by decide +kernel), ct_ini_ProofLedger_Letters, ⟨by decide +kernel, by decide +kernel⟩⟩
def m_Reader_isInside : am_M := (⟨"ProofLedger$Reader", "isInside", "()Z"⟩, prog_8_method_3_code, 1, (some .boolean), false, false)
theorem cf_Reader_isInside : am_cfV m_Reader_isInside 0 := ⟨am_one 838 (by decide +kernel) (by decide +kernel), am_one 836 (by decide +kernel) (by decide +kernel), am_one 837 (by decide +kernel) (by decide +kernel), ct_ini_ProofLedger_Reader, ⟨by decide +kernel, by decide +kernel⟩⟩
def m_L_place : am_M := (⟨"ProofLedger", "place", "()I"⟩, prog_1_method_5_code, 1, (some .int), false, false)
theorem cf_L_place : am_cfV m_L_place 0 := ⟨am_one 842 (by decide +kernel) (by decide +kernel), am_one 840 (by decide +kernel) (by decide +kernel), am_one 841 (by decide +kernel) (by decide +kernel), ct_ini_ProofLedger, ⟨by decide +kernel, by decide +kernel⟩⟩
def m_L_count : am_M := (⟨"ProofLedger", "count", "(I)I"⟩, prog_1_method_6_code, 2, (some .int), false, false)
theorem cf_L_count : am_cfV m_L_count 1 := ⟨am_one 846 (by decide +kernel) (by decide +kernel), am_one 844 (by decide +kernel) (by decide +kernel), am_one 845 (by decide +kernel) (by decide +kernel), ct_ini_ProofLedger, ⟨by decide +kernel, by decide +kernel⟩⟩
def m_Statements_countKind : am_M := (⟨"ProofLedger$Statements", "countKind", "(I)I"⟩, prog_9_method_4_code, 4, (some .int), false, false)
theorem cf_Statements_countKind : am_cfV m_Statements_countKind 1 := ⟨am_one 851 (by decide +kernel) (by decide +kernel), am_one 849 (by decide +kernel) (by decide +kernel), am_one 850 (by decide +kernel) (by decide +kernel), ct_ini_ProofLedger_Statements, ⟨by decide +kernel, by decide +kernel⟩⟩
def m_Assertions_countIncomplete : am_M := (⟨"ProofLedger$Assertions", "countIncomplete", "()I"⟩, prog_2_method_11_code, 3, (some .int), false, false)
theorem cf_Assertions_countIncomplete : am_cfV m_Assertions_countIncomplete 0 := ⟨am_one 855 (by decide +kernel) (by decide +kernel), am_one 853 (by decide +kernel) (by decide +kernel), am_one 854 (by decide +kernel) (by decide +kernel), ct_ini_ProofLedger_Assertions, ⟨by decide +kernel, by decide +kernel⟩⟩
def m_L_label : am_M := (⟨"ProofLedger", "label", "(I)J"⟩, prog_1_method_7_code, 2, (some .long), false, false)
theorem cf_L_label : am_cfV m_L_label 1 := ⟨am_one 859 (by decide +kernel) (by decide +kernel), am_one 857 (by decide +kernel) (by decide +kernel), am_one 858 (by decide +kernel) (by decide +kernel), ct_ini_ProofLedger, ⟨by decide +kernel, by decide +kernel⟩⟩
def m_Assertions_has : am_M := (⟨"ProofLedger$Assertions", "has", "(I)Z"⟩, prog_2_method_2_code, 2, (some .boolean), false, false)
theorem cf_Assertions_has : am_cfV m_Assertions_has 1 := ⟨am_one 863 (by decide +kernel) (by decide +kernel), am_one 861 (by decide +kernel) (by decide +kernel), am_one 862 (by decide +kernel) (by decide +kernel), ct_ini_ProofLedger_Assertions, ⟨by decide +kernel, by decide +kernel⟩⟩
def m_L_symbol : am_M := (⟨"ProofLedger", "symbol", "(II)J"⟩, prog_1_method_8_code, 4, (some .long), false, false)
theorem cf_L_symbol : am_cfV m_L_symbol 2 := ⟨am_one 868 (by decide +kernel) (by decide +kernel), am_one 866 (by decide +kernel) (by decide +kernel), am_one 867 (by decide +kernel) (by decide +kernel), ct_ini_ProofLedger, ⟨by decide +kernel, by decide +kernel⟩⟩
def m_L_hypothesis : am_M := (⟨"ProofLedger", "hypothesis", "(II)J"⟩, prog_1_method_9_code, 4, (some .long), false, false)
theorem cf_L_hypothesis : am_cfV m_L_hypothesis 2 := ⟨am_one 873 (by decide +kernel) (by decide +kernel), am_one 871 (by decide +kernel) (by decide +kernel), am_one 872 (by decide +kernel) (by decide +kernel), ct_ini_ProofLedger, ⟨by decide +kernel, by decide +kernel⟩⟩
def m_Statements_findMandatory : am_M := (⟨"ProofLedger$Statements", "findMandatory", "(II)I"⟩, prog_9_method_6_code, 5, (some .int), false, false)
theorem cf_Statements_findMandatory : am_cfV m_Statements_findMandatory 2 := ⟨am_one 877 (by decide +kernel) (by decide +kernel), am_one 875 (by decide +kernel) (by decide +kernel), am_one 876 (by decide +kernel) (by decide +kernel), ct_ini_ProofLedger_Statements, ⟨by decide +kernel, by decide +kernel⟩⟩
def m_L_pairs : am_M := (⟨"ProofLedger", "pairs", "(I)I"⟩, prog_1_method_10_code, 2, (some .int), false, false)
theorem cf_L_pairs : am_cfV m_L_pairs 1 := ⟨am_one 882 (by decide +kernel) (by decide +kernel), am_one 880 (by decide +kernel) (by decide +kernel), am_one 881 (by decide +kernel) (by decide +kernel), ct_ini_ProofLedger, ⟨by decide +kernel, by decide +kernel⟩⟩
def m_L_apart : am_M := (⟨"ProofLedger", "apart", "(IJJ)Z"⟩, prog_1_method_11_code, 11, (some .boolean), false, false)
theorem cf_L_apart : am_cfV m_L_apart 3 := ⟨am_one 886 (by decide +kernel) (by decide +kernel), am_one 884 (by decide +kernel) (by decide +kernel), am_one 885 (by decide +kernel) (by decide +kernel), ct_ini_ProofLedger, ⟨by decide +kernel, by decide +kernel⟩⟩
def m_L_steps : am_M := (⟨"ProofLedger", "steps", "(I)I"⟩, prog_1_method_12_code, 2, (some .int), false, false)
theorem cf_L_steps : am_cfV m_L_steps 1 := ⟨am_one 892 (by decide +kernel) (by decide +kernel), am_one 890 (by decide +kernel) (by decide +kernel), am_one 891 (by decide +kernel) (by decide +kernel), ct_ini_ProofLedger, ⟨by decide +kernel, by decide +kernel⟩⟩
def m_L_depth : am_M := (⟨"ProofLedger", "depth", "(I)I"⟩, prog_1_method_13_code, 2, (some .int), false, false)
theorem cf_L_depth : am_cfV m_L_depth 1 := ⟨am_one 896 (by decide +kernel) (by decide +kernel), am_one 894 (by decide +kernel) (by decide +kernel), am_one 895 (by decide +kernel) (by decide +kernel), ct_ini_ProofLedger, ⟨by decide +kernel, by decide +kernel⟩⟩
def m_L_uses : am_M := (⟨"ProofLedger", "uses", "(II)I"⟩, prog_1_method_14_code, 3, (some .int), false, false)
theorem cf_L_uses : am_cfV m_L_uses 2 := ⟨am_one 900 (by decide +kernel) (by decide +kernel), am_one 898 (by decide +kernel) (by decide +kernel), am_one 899 (by decide +kernel) (by decide +kernel), ct_ini_ProofLedger, ⟨by decide +kernel, by decide +kernel⟩⟩
def m_Assertions_countUses : am_M := (⟨"ProofLedger$Assertions", "countUses", "(II)I"⟩, prog_2_method_10_code, 3, (some .int), false, false)
theorem cf_Assertions_countUses : am_cfV m_Assertions_countUses 2 := ⟨am_one 904 (by decide +kernel) (by decide +kernel), am_one 902 (by decide +kernel) (by decide +kernel), am_one 903 (by decide +kernel) (by decide +kernel), ct_ini_ProofLedger_Assertions, ⟨by decide +kernel, by decide +kernel⟩⟩
def m_L_proved : am_M := (⟨"ProofLedger", "proved", "(I)Z"⟩, prog_1_method_15_code, 2, (some .boolean), false, false)
theorem cf_L_proved : am_cfV m_L_proved 1 := ⟨am_one 908 (by decide +kernel) (by decide +kernel), am_one 906 (by decide +kernel) (by decide +kernel), am_one 907 (by decide +kernel) (by decide +kernel), ct_ini_ProofLedger, ⟨by decide +kernel, by decide +kernel⟩⟩
def m_M_init : am_M := (⟨"ProofLedgerModel", "<init>", "()V"⟩, prog_12_method_1_code, 1, none, true, false)
theorem cf_M_init : am_cfI m_M_init 0 := ⟨am_one 913 (by decide +kernel) (by decide +kernel), am_one 912 (by decide +kernel) (by decide +kernel), ct_ini_ProofLedgerModel, ⟨by decide +kernel, by decide +kernel⟩, rfl, rfl⟩
def m_M_feed : am_M := (⟨"ProofLedgerModel", "feed", "(JI)I"⟩, prog_12_method_2_code, 6, (some .int), false, false)
theorem cf_M_feed : am_cfV m_M_feed 2 := ⟨am_one 1090 (by decide +kernel) (by decide +kernel), am_one 1088 (by decide +kernel) (by decide +kernel), am_one 1089 (by decide +kernel) (by decide +kernel), ct_ini_ProofLedgerModel, ⟨by decide +kernel, by decide +kernel⟩⟩
def m_M_clear : am_M := (⟨"ProofLedgerModel", "clear", "()I"⟩, prog_12_method_3_code, 2, (some .int), false, false)
theorem cf_M_clear : am_cfV m_M_clear 0 := ⟨am_one 1095 (by decide +kernel) (by decide +kernel), am_one 1093 (by decide +kernel) (by decide +kernel), am_one 1094 (by decide +kernel) (by decide +kernel), ct_ini_ProofLedgerModel, ⟨by decide +kernel, by decide +kernel⟩⟩
def m_M_read : am_M := (⟨"ProofLedgerModel", "read", "()I"⟩, prog_12_method_57_code, 1, (some .int), false, false)
theorem cf_M_read : am_cfV m_M_read 0 := ⟨am_one 1099 (by decide +kernel) (by decide +kernel), am_one 1097 (by decide +kernel) (by decide +kernel), am_one 1098 (by decide +kernel) (by decide +kernel), ct_ini_ProofLedgerModel, ⟨by decide +kernel, by decide +kernel⟩⟩
def m_M_findWords : am_M := (⟨"ProofLedgerModel", "findWords", "()V"⟩, prog_12_method_4_code, 3, none, false, false)
theorem cf_M_findWords : am_cfV m_M_findWords 0 := ⟨am_one 1103 (by decide +kernel) (by decide +kernel), am_one 1102 (by decide +kernel) (by decide +kernel), am_one 34 (by decide +kernel) (by decide +kernel), ct_ini_ProofLedgerModel, ⟨by decide +kernel, by decide +kernel⟩⟩
def m_M_come : am_M := (⟨"ProofLedgerModel", "come", "()Z"⟩, prog_12_method_10_code, 1, (some .boolean), false, false)
theorem cf_M_come : am_cfV m_M_come 0 := ⟨am_one 1107 (by decide +kernel) (by decide +kernel), am_one 1106 (by decide +kernel) (by decide +kernel), am_one 35 (by decide +kernel) (by decide +kernel), ct_ini_ProofLedgerModel, ⟨by decide +kernel, by decide +kernel⟩⟩
def m_M_isTwo : am_M := (⟨"ProofLedgerModel", "isTwo", "(III)Z"⟩, prog_12_method_6_code, 4, (some .boolean), false, false)
theorem cf_M_isTwo : am_cfV m_M_isTwo 3 := ⟨am_one 1111 (by decide +kernel) (by decide +kernel), am_one 1110 (by decide +kernel) (by decide +kernel), am_one 36 (by decide +kernel) (by decide +kernel), ct_ini_ProofLedgerModel, ⟨by decide +kernel, by decide +kernel⟩⟩
def m_M_letter : am_M := (⟨"ProofLedgerModel", "letter", "(II)I"⟩, prog_12_method_5_code, 3, (some .int), false, false)
theorem cf_M_letter : am_cfV m_M_letter 2 := ⟨am_one 1115 (by decide +kernel) (by decide +kernel), am_one 1114 (by decide +kernel) (by decide +kernel), am_one 37 (by decide +kernel) (by decide +kernel), ct_ini_ProofLedgerModel, ⟨by decide +kernel, by decide +kernel⟩⟩
def m_M_fail : am_M := (⟨"ProofLedgerModel", "fail", "(II)V"⟩, prog_12_method_9_code, 3, none, false, false)
theorem cf_M_fail : am_cfV m_M_fail 2 := ⟨am_one 1119 (by decide +kernel) (by decide +kernel), am_one 1118 (by decide +kernel) (by decide +kernel), am_one 38 (by decide +kernel) (by decide +kernel), ct_ini_ProofLedgerModel, ⟨by decide +kernel, by decide +kernel⟩⟩
def m_M_readStatement : am_M := (⟨"ProofLedgerModel", "readStatement", "()V"⟩, prog_12_method_56_code, 1, none, false, false)
theorem cf_M_readStatement : am_cfV m_M_readStatement 0 := ⟨am_one 1123 (by decide +kernel) (by decide +kernel), am_one 1122 (by decide +kernel) (by decide +kernel), am_one 39 (by decide +kernel) (by decide +kernel), ct_ini_ProofLedgerModel, ⟨by decide +kernel, by decide +kernel⟩⟩
def m_M_whatIs : am_M := (⟨"ProofLedgerModel", "whatIs", "(I)I"⟩, prog_12_method_8_code, 4, (some .int), false, false)
theorem cf_M_whatIs : am_cfV m_M_whatIs 1 := ⟨am_one 1127 (by decide +kernel) (by decide +kernel), am_one 1126 (by decide +kernel) (by decide +kernel), am_one 40 (by decide +kernel) (by decide +kernel), ct_ini_ProofLedgerModel, ⟨by decide +kernel, by decide +kernel⟩⟩
def m_M_readLabelled : am_M := (⟨"ProofLedgerModel", "readLabelled", "()V"⟩, prog_12_method_31_code, 6, none, false, false)
theorem cf_M_readLabelled : am_cfV m_M_readLabelled 0 := ⟨am_one 1131 (by decide +kernel) (by decide +kernel), am_one 1130 (by decide +kernel) (by decide +kernel), am_one 41 (by decide +kernel) (by decide +kernel), ct_ini_ProofLedgerModel, ⟨by decide +kernel, by decide +kernel⟩⟩
def m_M_codeOf : am_M := (⟨"ProofLedgerModel", "codeOf", "(I)J"⟩, prog_12_method_7_code, 5, (some .long), false, false)
theorem cf_M_codeOf : am_cfV m_M_codeOf 1 := ⟨am_one 1135 (by decide +kernel) (by decide +kernel), am_one 1134 (by decide +kernel) (by decide +kernel), am_one 42 (by decide +kernel) (by decide +kernel), ct_ini_ProofLedgerModel, ⟨by decide +kernel, by decide +kernel⟩⟩
def m_M_find : am_M := (⟨"ProofLedgerModel", "find", "(J)I"⟩, prog_12_method_13_code, 4, (some .int), false, false)
theorem cf_M_find : am_cfV m_M_find 1 := ⟨am_one 1140 (by decide +kernel) (by decide +kernel), am_one 1139 (by decide +kernel) (by decide +kernel), am_one 43 (by decide +kernel) (by decide +kernel), ct_ini_ProofLedgerModel, ⟨by decide +kernel, by decide +kernel⟩⟩
def m_M_need : am_M := (⟨"ProofLedgerModel", "need", "()I"⟩, prog_12_method_11_code, 1, (some .int), false, false)
theorem cf_M_need : am_cfV m_M_need 0 := ⟨am_one 1144 (by decide +kernel) (by decide +kernel), am_one 1143 (by decide +kernel) (by decide +kernel), am_one 44 (by decide +kernel) (by decide +kernel), ct_ini_ProofLedgerModel, ⟨by decide +kernel, by decide +kernel⟩⟩
def m_M_readFloating : am_M := (⟨"ProofLedgerModel", "readFloating", "(J)V"⟩, prog_12_method_26_code, 6, none, false, false)
theorem cf_M_readFloating : am_cfV m_M_readFloating 1 := ⟨am_one 1148 (by decide +kernel) (by decide +kernel), am_one 1147 (by decide +kernel) (by decide +kernel), am_one 45 (by decide +kernel) (by decide +kernel), ct_ini_ProofLedgerModel, ⟨by decide +kernel, by decide +kernel⟩⟩
def m_M_readType : am_M := (⟨"ProofLedgerModel", "readType", "()Z"⟩, prog_12_method_25_code, 2, (some .boolean), false, false)
theorem cf_M_readType : am_cfV m_M_readType 0 := ⟨am_one 1152 (by decide +kernel) (by decide +kernel), am_one 1151 (by decide +kernel) (by decide +kernel), am_one 46 (by decide +kernel) (by decide +kernel), ct_ini_ProofLedgerModel, ⟨by decide +kernel, by decide +kernel⟩⟩
def m_M_needName : am_M := (⟨"ProofLedgerModel", "needName", "()Z"⟩, prog_12_method_12_code, 2, (some .boolean), false, false)
theorem cf_M_needName : am_cfV m_M_needName 0 := ⟨am_one 1156 (by decide +kernel) (by decide +kernel), am_one 1155 (by decide +kernel) (by decide +kernel), am_one 47 (by decide +kernel) (by decide +kernel), ct_ini_ProofLedgerModel, ⟨by decide +kernel, by decide +kernel⟩⟩
def m_M_findWord : am_M := (⟨"ProofLedgerModel", "findWord", "()I"⟩, prog_12_method_14_code, 1, (some .int), false, false)
theorem cf_M_findWord : am_cfV m_M_findWord 0 := ⟨am_one 1160 (by decide +kernel) (by decide +kernel), am_one 1159 (by decide +kernel) (by decide +kernel), am_one 48 (by decide +kernel) (by decide +kernel), ct_ini_ProofLedgerModel, ⟨by decide +kernel, by decide +kernel⟩⟩
def m_M_isConstant : am_M := (⟨"ProofLedgerModel", "isConstant", "(I)Z"⟩, prog_12_method_16_code, 2, (some .boolean), false, false)
theorem cf_M_isConstant : am_cfV m_M_isConstant 1 := ⟨am_one 1164 (by decide +kernel) (by decide +kernel), am_one 1163 (by decide +kernel) (by decide +kernel), am_one 49 (by decide +kernel) (by decide +kernel), ct_ini_ProofLedgerModel, ⟨by decide +kernel, by decide +kernel⟩⟩
def m_M_isLive : am_M := (⟨"ProofLedgerModel", "isLive", "(I)Z"⟩, prog_12_method_17_code, 2, (some .boolean), false, false)
theorem cf_M_isLive : am_cfV m_M_isLive 1 := ⟨am_one 1168 (by decide +kernel) (by decide +kernel), am_one 1167 (by decide +kernel) (by decide +kernel), am_one 50 (by decide +kernel) (by decide +kernel), ct_ini_ProofLedgerModel, ⟨by decide +kernel, by decide +kernel⟩⟩
def m_M_typeOf : am_M := (⟨"ProofLedgerModel", "typeOf", "(I)I"⟩, prog_12_method_18_code, 3, (some .int), false, false)
theorem cf_M_typeOf : am_cfV m_M_typeOf 1 := ⟨am_one 1172 (by decide +kernel) (by decide +kernel), am_one 1171 (by decide +kernel) (by decide +kernel), am_one 51 (by decide +kernel) (by decide +kernel), ct_ini_ProofLedgerModel, ⟨by decide +kernel, by decide +kernel⟩⟩
def m_M_declare : am_M := (⟨"ProofLedgerModel", "declare", "(IJ)I"⟩, prog_12_method_24_code, 7, (some .int), false, false)
theorem cf_M_declare : am_cfV m_M_declare 2 := ⟨am_one 1176 (by decide +kernel) (by decide +kernel), am_one 1175 (by decide +kernel) (by decide +kernel), am_one 52 (by decide +kernel) (by decide +kernel), ct_ini_ProofLedgerModel, ⟨by decide +kernel, by decide +kernel⟩⟩
def m_M_addName : am_M := (⟨"ProofLedgerModel", "addName", "(J)I"⟩, prog_12_method_15_code, 3, (some .int), false, false)
theorem cf_M_addName : am_cfV m_M_addName 1 := ⟨am_one 1180 (by decide +kernel) (by decide +kernel), am_one 1179 (by decide +kernel) (by decide +kernel), am_one 53 (by decide +kernel) (by decide +kernel), ct_ini_ProofLedgerModel, ⟨by decide +kernel, by decide +kernel⟩⟩
def m_M_readExpression : am_M := (⟨"ProofLedgerModel", "readExpression", "(I)Z"⟩, prog_12_method_27_code, 4, (some .boolean), false, false)
theorem cf_M_readExpression : am_cfV m_M_readExpression 1 := ⟨am_one 1184 (by decide +kernel) (by decide +kernel), am_one 1183 (by decide +kernel) (by decide +kernel), am_one 54 (by decide +kernel) (by decide +kernel), ct_ini_ProofLedgerModel, ⟨by decide +kernel, by decide +kernel⟩⟩
def m_M_findNeeds : am_M := (⟨"ProofLedgerModel", "findNeeds", "()V"⟩, prog_12_method_29_code, 4, none, false, false)
theorem cf_M_findNeeds : am_cfV m_M_findNeeds 0 := ⟨am_one 1188 (by decide +kernel) (by decide +kernel), am_one 1187 (by decide +kernel) (by decide +kernel), am_one 55 (by decide +kernel) (by decide +kernel), ct_ini_ProofLedgerModel, ⟨by decide +kernel, by decide +kernel⟩⟩
def m_M_mark : am_M := (⟨"ProofLedgerModel", "mark", "(IIZ)V"⟩, prog_12_method_28_code, 6, none, false, false)
theorem cf_M_mark : am_cfV m_M_mark 3 := ⟨am_one 1192 (by decide +kernel) (by decide +kernel), am_one 1191 (by decide +kernel) (by decide +kernel), am_one 56 (by decide +kernel) (by decide +kernel), ct_ini_ProofLedgerModel, ⟨by decide +kernel, by decide +kernel⟩⟩
def m_M_isNeeded : am_M := (⟨"ProofLedgerModel", "isNeeded", "(III)Z"⟩, prog_12_method_30_code, 5, (some .boolean), false, false)
theorem cf_M_isNeeded : am_cfV m_M_isNeeded 3 := ⟨am_one 1196 (by decide +kernel) (by decide +kernel), am_one 1195 (by decide +kernel) (by decide +kernel), am_one 57 (by decide +kernel) (by decide +kernel), ct_ini_ProofLedgerModel, ⟨by decide +kernel, by decide +kernel⟩⟩
def m_M_begin : am_M := (⟨"ProofLedgerModel", "begin", "(I)V"⟩, prog_12_method_32_code, 3, none, false, false)
theorem cf_M_begin : am_cfV m_M_begin 1 := ⟨am_one 1200 (by decide +kernel) (by decide +kernel), am_one 1199 (by decide +kernel) (by decide +kernel), am_one 58 (by decide +kernel) (by decide +kernel), ct_ini_ProofLedgerModel, ⟨by decide +kernel, by decide +kernel⟩⟩
def m_M_readProof : am_M := (⟨"ProofLedgerModel", "readProof", "(I)V"⟩, prog_12_method_46_code, 3, none, false, false)
theorem cf_M_readProof : am_cfV m_M_readProof 1 := ⟨am_one 1204 (by decide +kernel) (by decide +kernel), am_one 1203 (by decide +kernel) (by decide +kernel), am_one 59 (by decide +kernel) (by decide +kernel), ct_ini_ProofLedgerModel, ⟨by decide +kernel, by decide +kernel⟩⟩
def m_M_isWord : am_M := (⟨"ProofLedgerModel", "isWord", "(I)Z"⟩, prog_12_method_45_code, 2, (some .boolean), false, false)
theorem cf_M_isWord : am_cfV m_M_isWord 1 := ⟨am_one 1208 (by decide +kernel) (by decide +kernel), am_one 1207 (by decide +kernel) (by decide +kernel), am_one 60 (by decide +kernel) (by decide +kernel), ct_ini_ProofLedgerModel, ⟨by decide +kernel, by decide +kernel⟩⟩
def m_M_readListed : am_M := (⟨"ProofLedgerModel", "readListed", "(I)V"⟩, prog_12_method_50_code, 3, none, false, false)
theorem cf_M_readListed : am_cfV m_M_readListed 1 := ⟨am_one 1212 (by decide +kernel) (by decide +kernel), am_one 1211 (by decide +kernel) (by decide +kernel), am_one 61 (by decide +kernel) (by decide +kernel), ct_ini_ProofLedgerModel, ⟨by decide +kernel, by decide +kernel⟩⟩
def m_M_lookUp : am_M := (⟨"ProofLedgerModel", "lookUp", "()I"⟩, prog_12_method_44_code, 3, (some .int), false, false)
theorem cf_M_lookUp : am_cfV m_M_lookUp 0 := ⟨am_one 1216 (by decide +kernel) (by decide +kernel), am_one 1215 (by decide +kernel) (by decide +kernel), am_one 62 (by decide +kernel) (by decide +kernel), ct_ini_ProofLedgerModel, ⟨by decide +kernel, by decide +kernel⟩⟩
def m_M_isMandatory : am_M := (⟨"ProofLedgerModel", "isMandatory", "(II)Z"⟩, prog_12_method_49_code, 4, (some .boolean), false, false)
theorem cf_M_isMandatory : am_cfV m_M_isMandatory 2 := ⟨am_one 1220 (by decide +kernel) (by decide +kernel), am_one 1219 (by decide +kernel) (by decide +kernel), am_one 63 (by decide +kernel) (by decide +kernel), ct_ini_ProofLedgerModel, ⟨by decide +kernel, by decide +kernel⟩⟩
def m_M_readLetters : am_M := (⟨"ProofLedgerModel", "readLetters", "(I)V"⟩, prog_12_method_52_code, 4, none, false, false)
theorem cf_M_readLetters : am_cfV m_M_readLetters 1 := ⟨am_one 1224 (by decide +kernel) (by decide +kernel), am_one 1223 (by decide +kernel) (by decide +kernel), am_one 64 (by decide +kernel) (by decide +kernel), ct_ini_ProofLedgerModel, ⟨by decide +kernel, by decide +kernel⟩⟩
def m_M_isLetters : am_M := (⟨"ProofLedgerModel", "isLetters", "()Z"⟩, prog_12_method_51_code, 3, (some .boolean), false, false)
theorem cf_M_isLetters : am_cfV m_M_isLetters 0 := ⟨am_one 1228 (by decide +kernel) (by decide +kernel), am_one 1227 (by decide +kernel) (by decide +kernel), am_one 65 (by decide +kernel) (by decide +kernel), ct_ini_ProofLedgerModel, ⟨by decide +kernel, by decide +kernel⟩⟩
def m_M_readLetter : am_M := (⟨"ProofLedgerModel", "readLetter", "(II)V"⟩, prog_12_method_53_code, 4, none, false, false)
theorem cf_M_readLetter : am_cfV m_M_readLetter 2 := ⟨am_one 1232 (by decide +kernel) (by decide +kernel), am_one 1231 (by decide +kernel) (by decide +kernel), am_one 66 (by decide +kernel) (by decide +kernel), ct_ini_ProofLedgerModel, ⟨by decide +kernel, by decide +kernel⟩⟩
def m_M_tag : am_M := (⟨"ProofLedgerModel", "tag", "()V"⟩, prog_12_method_54_code, 2, none, false, false)
theorem cf_M_tag : am_cfV m_M_tag 0 := ⟨am_one 1236 (by decide +kernel) (by decide +kernel), am_one 1235 (by decide +kernel) (by decide +kernel), am_one 67 (by decide +kernel) (by decide +kernel), ct_ini_ProofLedgerModel, ⟨by decide +kernel, by decide +kernel⟩⟩
def m_M_stepWith : am_M := (⟨"ProofLedgerModel", "stepWith", "(II)V"⟩, prog_12_method_55_code, 3, none, false, false)
theorem cf_M_stepWith : am_cfV m_M_stepWith 2 := ⟨am_one 1240 (by decide +kernel) (by decide +kernel), am_one 1239 (by decide +kernel) (by decide +kernel), am_one 68 (by decide +kernel) (by decide +kernel), ct_ini_ProofLedgerModel, ⟨by decide +kernel, by decide +kernel⟩⟩
def m_M_step : am_M := (⟨"ProofLedgerModel", "step", "(II)V"⟩, prog_12_method_43_code, 4, none, false, false)
theorem cf_M_step : am_cfV m_M_step 2 := ⟨am_one 1244 (by decide +kernel) (by decide +kernel), am_one 1243 (by decide +kernel) (by decide +kernel), am_one 69 (by decide +kernel) (by decide +kernel), ct_ini_ProofLedgerModel, ⟨by decide +kernel, by decide +kernel⟩⟩
def m_M_pushHypothesis : am_M := (⟨"ProofLedgerModel", "pushHypothesis", "(I)V"⟩, prog_12_method_36_code, 3, none, false, false)
theorem cf_M_pushHypothesis : am_cfV m_M_pushHypothesis 1 := ⟨am_one 1248 (by decide +kernel) (by decide +kernel), am_one 1247 (by decide +kernel) (by decide +kernel), am_one 70 (by decide +kernel) (by decide +kernel), ct_ini_ProofLedgerModel, ⟨by decide +kernel, by decide +kernel⟩⟩
def m_M_hasRoom : am_M := (⟨"ProofLedgerModel", "hasRoom", "()Z"⟩, prog_12_method_35_code, 1, (some .boolean), false, false)
theorem cf_M_hasRoom : am_cfV m_M_hasRoom 0 := ⟨am_one 1252 (by decide +kernel) (by decide +kernel), am_one 1251 (by decide +kernel) (by decide +kernel), am_one 71 (by decide +kernel) (by decide +kernel), ct_ini_ProofLedgerModel, ⟨by decide +kernel, by decide +kernel⟩⟩
def m_M_apply : am_M := (⟨"ProofLedgerModel", "apply", "(I)I"⟩, prog_12_method_42_code, 7, (some .int), false, false)
theorem cf_M_apply : am_cfV m_M_apply 1 := ⟨am_one 1256 (by decide +kernel) (by decide +kernel), am_one 1255 (by decide +kernel) (by decide +kernel), am_one 72 (by decide +kernel) (by decide +kernel), ct_ini_ProofLedgerModel, ⟨by decide +kernel, by decide +kernel⟩⟩
def m_M_replace : am_M := (⟨"ProofLedgerModel", "replace", "(I)I"⟩, prog_12_method_38_code, 7, (some .int), false, false)
theorem cf_M_replace : am_cfV m_M_replace 1 := ⟨am_one 1260 (by decide +kernel) (by decide +kernel), am_one 1259 (by decide +kernel) (by decide +kernel), am_one 73 (by decide +kernel) (by decide +kernel), ct_ini_ProofLedgerModel, ⟨by decide +kernel, by decide +kernel⟩⟩
def m_M_isMade : am_M := (⟨"ProofLedgerModel", "isMade", "(II)Z"⟩, prog_12_method_39_code, 5, (some .boolean), false, false)
theorem cf_M_isMade : am_cfV m_M_isMade 2 := ⟨am_one 1264 (by decide +kernel) (by decide +kernel), am_one 1263 (by decide +kernel) (by decide +kernel), am_one 74 (by decide +kernel) (by decide +kernel), ct_ini_ProofLedgerModel, ⟨by decide +kernel, by decide +kernel⟩⟩
def m_M_allApart : am_M := (⟨"ProofLedgerModel", "allApart", "(II)Z"⟩, prog_12_method_41_code, 7, (some .boolean), false, false)
theorem cf_M_allApart : am_cfV m_M_allApart 2 := ⟨am_one 1268 (by decide +kernel) (by decide +kernel), am_one 1267 (by decide +kernel) (by decide +kernel), am_one 75 (by decide +kernel) (by decide +kernel), ct_ini_ProofLedgerModel, ⟨by decide +kernel, by decide +kernel⟩⟩
def m_M_areApart : am_M := (⟨"ProofLedgerModel", "areApart", "(II)Z"⟩, prog_12_method_40_code, 4, (some .boolean), false, false)
theorem cf_M_areApart : am_cfV m_M_areApart 2 := ⟨am_one 1272 (by decide +kernel) (by decide +kernel), am_one 1271 (by decide +kernel) (by decide +kernel), am_one 76 (by decide +kernel) (by decide +kernel), ct_ini_ProofLedgerModel, ⟨by decide +kernel, by decide +kernel⟩⟩
def m_M_tally : am_M := (⟨"ProofLedgerModel", "tally", "(I)V"⟩, prog_12_method_34_code, 2, none, false, false)
theorem cf_M_tally : am_cfV m_M_tally 1 := ⟨am_one 1276 (by decide +kernel) (by decide +kernel), am_one 1275 (by decide +kernel) (by decide +kernel), am_one 77 (by decide +kernel) (by decide +kernel), ct_ini_ProofLedgerModel, ⟨by decide +kernel, by decide +kernel⟩⟩
def m_M_pushTagged : am_M := (⟨"ProofLedgerModel", "pushTagged", "(I)V"⟩, prog_12_method_37_code, 3, none, false, false)
theorem cf_M_pushTagged : am_cfV m_M_pushTagged 1 := ⟨am_one 1280 (by decide +kernel) (by decide +kernel), am_one 1279 (by decide +kernel) (by decide +kernel), am_one 78 (by decide +kernel) (by decide +kernel), ct_ini_ProofLedgerModel, ⟨by decide +kernel, by decide +kernel⟩⟩
def m_M_readSteps : am_M := (⟨"ProofLedgerModel", "readSteps", "(I)V"⟩, prog_12_method_47_code, 4, none, false, false)
theorem cf_M_readSteps : am_cfV m_M_readSteps 1 := ⟨am_one 1284 (by decide +kernel) (by decide +kernel), am_one 1283 (by decide +kernel) (by decide +kernel), am_one 79 (by decide +kernel) (by decide +kernel), ct_ini_ProofLedgerModel, ⟨by decide +kernel, by decide +kernel⟩⟩
def m_M_finish : am_M := (⟨"ProofLedgerModel", "finish", "()V"⟩, prog_12_method_48_code, 3, none, false, false)
theorem cf_M_finish : am_cfV m_M_finish 0 := ⟨am_one 1288 (by decide +kernel) (by decide +kernel), am_one 1287 (by decide +kernel) (by decide +kernel), am_one 80 (by decide +kernel) (by decide +kernel), ct_ini_ProofLedgerModel, ⟨by decide +kernel, by decide +kernel⟩⟩
def m_M_settle : am_M := (⟨"ProofLedgerModel", "settle", "(I)V"⟩, prog_12_method_33_code, 3, none, false, false)
theorem cf_M_settle : am_cfV m_M_settle 1 := ⟨am_one 1292 (by decide +kernel) (by decide +kernel), am_one 1291 (by decide +kernel) (by decide +kernel), am_one 81 (by decide +kernel) (by decide +kernel), ct_ini_ProofLedgerModel, ⟨by decide +kernel, by decide +kernel⟩⟩
def m_M_readConstants : am_M := (⟨"ProofLedgerModel", "readConstants", "()V"⟩, prog_12_method_19_code, 3, none, false, false)
theorem cf_M_readConstants : am_cfV m_M_readConstants 0 := ⟨am_one 1296 (by decide +kernel) (by decide +kernel), am_one 1295 (by decide +kernel) (by decide +kernel), am_one 82 (by decide +kernel) (by decide +kernel), ct_ini_ProofLedgerModel, ⟨by decide +kernel, by decide +kernel⟩⟩
def m_M_readVariables : am_M := (⟨"ProofLedgerModel", "readVariables", "()V"⟩, prog_12_method_20_code, 4, none, false, false)
theorem cf_M_readVariables : am_cfV m_M_readVariables 0 := ⟨am_one 1300 (by decide +kernel) (by decide +kernel), am_one 1299 (by decide +kernel) (by decide +kernel), am_one 83 (by decide +kernel) (by decide +kernel), ct_ini_ProofLedgerModel, ⟨by decide +kernel, by decide +kernel⟩⟩
def m_M_readApart : am_M := (⟨"ProofLedgerModel", "readApart", "()V"⟩, prog_12_method_22_code, 5, none, false, false)
theorem cf_M_readApart : am_cfV m_M_readApart 0 := ⟨am_one 1304 (by decide +kernel) (by decide +kernel), am_one 1303 (by decide +kernel) (by decide +kernel), am_one 84 (by decide +kernel) (by decide +kernel), ct_ini_ProofLedgerModel, ⟨by decide +kernel, by decide +kernel⟩⟩
def m_M_stoodBefore : am_M := (⟨"ProofLedgerModel", "stoodBefore", "(II)Z"⟩, prog_12_method_21_code, 4, (some .boolean), false, false)
theorem cf_M_stoodBefore : am_cfV m_M_stoodBefore 2 := ⟨am_one 1308 (by decide +kernel) (by decide +kernel), am_one 1307 (by decide +kernel) (by decide +kernel), am_one 85 (by decide +kernel) (by decide +kernel), ct_ini_ProofLedgerModel, ⟨by decide +kernel, by decide +kernel⟩⟩
def m_M_closeScope : am_M := (⟨"ProofLedgerModel", "closeScope", "()V"⟩, prog_12_method_23_code, 2, none, false, false)
theorem cf_M_closeScope : am_cfV m_M_closeScope 0 := ⟨am_one 1312 (by decide +kernel) (by decide +kernel), am_one 1311 (by decide +kernel) (by decide +kernel), am_one 86 (by decide +kernel) (by decide +kernel), ct_ini_ProofLedgerModel, ⟨by decide +kernel, by decide +kernel⟩⟩
def m_M_place : am_M := (⟨"ProofLedgerModel", "place", "()I"⟩, prog_12_method_58_code, 1, (some .int), false, false)
theorem cf_M_place : am_cfV m_M_place 0 := ⟨am_one 1316 (by decide +kernel) (by decide +kernel), am_one 1314 (by decide +kernel) (by decide +kernel), am_one 1315 (by decide +kernel) (by decide +kernel), ct_ini_ProofLedgerModel, ⟨by decide +kernel, by decide +kernel⟩⟩
def m_M_count : am_M := (⟨"ProofLedgerModel", "count", "(I)I"⟩, prog_12_method_60_code, 5, (some .int), false, false)
theorem cf_M_count : am_cfV m_M_count 1 := ⟨am_one 1320 (by decide +kernel) (by decide +kernel), am_one 1318 (by decide +kernel) (by decide +kernel), am_one 1319 (by decide +kernel) (by decide +kernel), ct_ini_ProofLedgerModel, ⟨by decide +kernel, by decide +kernel⟩⟩
def m_M_countNames : am_M := (⟨"ProofLedgerModel", "countNames", "(I)I"⟩, prog_12_method_59_code, 4, (some .int), false, false)
theorem cf_M_countNames : am_cfV m_M_countNames 1 := ⟨am_one 1324 (by decide +kernel) (by decide +kernel), am_one 1323 (by decide +kernel) (by decide +kernel), am_one 87 (by decide +kernel) (by decide +kernel), ct_ini_ProofLedgerModel, ⟨by decide +kernel, by decide +kernel⟩⟩
def m_M_label : am_M := (⟨"ProofLedgerModel", "label", "(I)J"⟩, prog_12_method_62_code, 2, (some .long), false, false)
theorem cf_M_label : am_cfV m_M_label 1 := ⟨am_one 1328 (by decide +kernel) (by decide +kernel), am_one 1326 (by decide +kernel) (by decide +kernel), am_one 1327 (by decide +kernel) (by decide +kernel), ct_ini_ProofLedgerModel, ⟨by decide +kernel, by decide +kernel⟩⟩
def m_M_isAssertion : am_M := (⟨"ProofLedgerModel", "isAssertion", "(I)Z"⟩, prog_12_method_61_code, 2, (some .boolean), false, false)
theorem cf_M_isAssertion : am_cfV m_M_isAssertion 1 := ⟨am_one 1332 (by decide +kernel) (by decide +kernel), am_one 1331 (by decide +kernel) (by decide +kernel), am_one 88 (by decide +kernel) (by decide +kernel), ct_ini_ProofLedgerModel, ⟨by decide +kernel, by decide +kernel⟩⟩
def m_M_symbol : am_M := (⟨"ProofLedgerModel", "symbol", "(II)J"⟩, prog_12_method_63_code, 3, (some .long), false, false)
theorem cf_M_symbol : am_cfV m_M_symbol 2 := ⟨am_one 1337 (by decide +kernel) (by decide +kernel), am_one 1335 (by decide +kernel) (by decide +kernel), am_one 1336 (by decide +kernel) (by decide +kernel), ct_ini_ProofLedgerModel, ⟨by decide +kernel, by decide +kernel⟩⟩
def m_M_hypothesis : am_M := (⟨"ProofLedgerModel", "hypothesis", "(II)J"⟩, prog_12_method_64_code, 3, (some .long), false, false)
theorem cf_M_hypothesis : am_cfV m_M_hypothesis 2 := ⟨am_one 1341 (by decide +kernel) (by decide +kernel), am_one 1339 (by decide +kernel) (by decide +kernel), am_one 1340 (by decide +kernel) (by decide +kernel), ct_ini_ProofLedgerModel, ⟨by decide +kernel, by decide +kernel⟩⟩
def m_M_pairs : am_M := (⟨"ProofLedgerModel", "pairs", "(I)I"⟩, prog_12_method_65_code, 2, (some .int), false, false)
theorem cf_M_pairs : am_cfV m_M_pairs 1 := ⟨am_one 1345 (by decide +kernel) (by decide +kernel), am_one 1343 (by decide +kernel) (by decide +kernel), am_one 1344 (by decide +kernel) (by decide +kernel), ct_ini_ProofLedgerModel, ⟨by decide +kernel, by decide +kernel⟩⟩
def m_M_apart : am_M := (⟨"ProofLedgerModel", "apart", "(IJJ)Z"⟩, prog_12_method_66_code, 8, (some .boolean), false, false)
theorem cf_M_apart : am_cfV m_M_apart 3 := ⟨am_one 1349 (by decide +kernel) (by decide +kernel), am_one 1347 (by decide +kernel) (by decide +kernel), am_one 1348 (by decide +kernel) (by decide +kernel), ct_ini_ProofLedgerModel, ⟨by decide +kernel, by decide +kernel⟩⟩
def m_M_steps : am_M := (⟨"ProofLedgerModel", "steps", "(I)I"⟩, prog_12_method_67_code, 2, (some .int), false, false)
theorem cf_M_steps : am_cfV m_M_steps 1 := ⟨am_one 1353 (by decide +kernel) (by decide +kernel), am_one 1351 (by decide +kernel) (by decide +kernel), am_one 1352 (by decide +kernel) (by decide +kernel), ct_ini_ProofLedgerModel, ⟨by decide +kernel, by decide +kernel⟩⟩
def m_M_depth : am_M := (⟨"ProofLedgerModel", "depth", "(I)I"⟩, prog_12_method_68_code, 2, (some .int), false, false)
theorem cf_M_depth : am_cfV m_M_depth 1 := ⟨am_one 1357 (by decide +kernel) (by decide +kernel), am_one 1355 (by decide +kernel) (by decide +kernel), am_one 1356 (by decide +kernel) (by decide +kernel), ct_ini_ProofLedgerModel, ⟨by decide +kernel, by decide +kernel⟩⟩
def m_M_uses : am_M := (⟨"ProofLedgerModel", "uses", "(II)I"⟩, prog_12_method_69_code, 3, (some .int), false, false)
theorem cf_M_uses : am_cfV m_M_uses 2 := ⟨am_one 1361 (by decide +kernel) (by decide +kernel), am_one 1359 (by decide +kernel) (by decide +kernel), am_one 1360 (by decide +kernel) (by decide +kernel), ct_ini_ProofLedgerModel, ⟨by decide +kernel, by decide +kernel⟩⟩
def m_M_proved : am_M := (⟨"ProofLedgerModel", "proved", "(I)Z"⟩, prog_12_method_70_code, 2, (some .boolean), false, false)
theorem cf_M_proved : am_cfV m_M_proved 1 := ⟨am_one 1365 (by decide +kernel) (by decide +kernel), am_one 1363 (by decide +kernel) (by decide +kernel), am_one 1364 (by decide +kernel) (by decide +kernel), ct_ini_ProofLedgerModel, ⟨by decide +kernel, by decide +kernel⟩⟩
def m_law : am_M := (x, code, maxLocals, ret, false, true)
theorem ml_L_9 : Jvm.Cond.methodLink "ProofLedger" 9 (am_y m_Text_init) ∈ am_TS := am_one 115 (by decide +kernel) (by decide +kernel)
theorem ml_L_18 : Jvm.Cond.methodLink "ProofLedger" 18 (am_y m_Names_init) ∈ am_TS := am_one 154 (by decide +kernel) (by decide +kernel)
theorem ml_L_25 : Jvm.Cond.methodLink "ProofLedger" 25 (am_y m_Statements_init) ∈ am_TS := am_one 188 (by decide +kernel) (by decide +kernel)
theorem ml_L_32 : Jvm.Cond.methodLink "ProofLedger" 32 (am_y m_Assertions_init) ∈ am_TS := am_one 251 (by decide +kernel) (by decide +kernel)
theorem ml_L_39 : Jvm.Cond.methodLink "ProofLedger" 39 (am_y m_Reader_init) ∈ am_TS := am_one 294 (by decide +kernel) (by decide +kernel)
theorem ml_L_50 : Jvm.Cond.methodLink "ProofLedger" 50 (am_y m_Text_append) ∈ am_TS := am_one 470 (by decide +kernel) (by decide +kernel)
theorem ml_L_54 : Jvm.Cond.methodLink "ProofLedger" 54 (am_y m_Text_empty) ∈ am_TS := am_one 478 (by decide +kernel) (by decide +kernel)
theorem ml_L_58 : Jvm.Cond.methodLink "ProofLedger" 58 (am_y m_Text_rewind) ∈ am_TS := am_one 486 (by decide +kernel) (by decide +kernel)
theorem ml_L_61 : Jvm.Cond.methodLink "ProofLedger" 61 (am_y m_Reader_begin) ∈ am_TS := am_one 490 (by decide +kernel) (by decide +kernel)
theorem ml_L_64 : Jvm.Cond.methodLink "ProofLedger" 64 (am_y m_Text_advance) ∈ am_TS := am_one 522 (by decide +kernel) (by decide +kernel)
theorem ml_L_72 : Jvm.Cond.methodLink "ProofLedger" 72 (am_y m_Reader_takeKeyword) ∈ am_TS := am_one 535 (by decide +kernel) (by decide +kernel)
theorem ml_L_76 : Jvm.Cond.methodLink "ProofLedger" 76 (am_y m_Reader_takeName) ∈ am_TS := am_one 621 (by decide +kernel) (by decide +kernel)
theorem ml_L_85 : Jvm.Cond.methodLink "ProofLedger" 85 (am_y m_Reader_isInside) ∈ am_TS := am_one 835 (by decide +kernel) (by decide +kernel)
theorem ml_L_98 : Jvm.Cond.methodLink "ProofLedger" 98 (am_y m_J_bitCount) ∈ am_TS := am_one 847 (by decide +kernel) (by decide +kernel)
theorem ml_L_104 : Jvm.Cond.methodLink "ProofLedger" 104 (am_y m_Statements_countKind) ∈ am_TS := am_one 848 (by decide +kernel) (by decide +kernel)
theorem ml_L_108 : Jvm.Cond.methodLink "ProofLedger" 108 (am_y m_Assertions_countIncomplete) ∈ am_TS := am_one 852 (by decide +kernel) (by decide +kernel)
theorem ml_L_111 : Jvm.Cond.methodLink "ProofLedger" 111 (am_y m_Assertions_has) ∈ am_TS := am_one 860 (by decide +kernel) (by decide +kernel)
theorem ml_L_136 : Jvm.Cond.methodLink "ProofLedger" 136 (am_y m_Expressions_symbolAt) ∈ am_TS := am_one 869 (by decide +kernel) (by decide +kernel)
theorem ml_L_140 : Jvm.Cond.methodLink "ProofLedger" 140 (am_y m_Statements_findMandatory) ∈ am_TS := am_one 874 (by decide +kernel) (by decide +kernel)
theorem ml_L_146 : Jvm.Cond.methodLink "ProofLedger" 146 (am_y m_Assertions_firstOfPair) ∈ am_TS := am_one 887 (by decide +kernel) (by decide +kernel)
theorem ml_L_149 : Jvm.Cond.methodLink "ProofLedger" 149 (am_y m_Assertions_secondOfPair) ∈ am_TS := am_one 888 (by decide +kernel) (by decide +kernel)
theorem ml_L_158 : Jvm.Cond.methodLink "ProofLedger" 158 (am_y m_Assertions_countUses) ∈ am_TS := am_one 901 (by decide +kernel) (by decide +kernel)
theorem ml_Assertions_49 : Jvm.Cond.methodLink "ProofLedger$Assertions" 49 (am_y m_Context_firstOf) ∈ am_TS := am_one 781 (by decide +kernel) (by decide +kernel)
theorem ml_Assertions_53 : Jvm.Cond.methodLink "ProofLedger$Assertions" 53 (am_y m_Context_secondOf) ∈ am_TS := am_one 786 (by decide +kernel) (by decide +kernel)
theorem ml_Context_47 : Jvm.Cond.methodLink "ProofLedger$Context" 47 (am_y m_Context_forgetPairs) ∈ am_TS := am_one 502 (by decide +kernel) (by decide +kernel)
theorem ml_Context_54 : Jvm.Cond.methodLink "ProofLedger$Context" 54 (am_y m_J_fill) ∈ am_TS := am_one 506 (by decide +kernel) (by decide +kernel)
theorem ml_Context_60 : Jvm.Cond.methodLink "ProofLedger$Context" 60 (am_y m_Context_firstOf) ∈ am_TS := am_one 509 (by decide +kernel) (by decide +kernel)
theorem ml_Context_64 : Jvm.Cond.methodLink "ProofLedger$Context" 64 (am_y m_Context_secondOf) ∈ am_TS := am_one 512 (by decide +kernel) (by decide +kernel)
theorem ml_Context_67 : Jvm.Cond.methodLink "ProofLedger$Context" 67 (am_y m_Context_addPair) ∈ am_TS := am_one 515 (by decide +kernel) (by decide +kernel)
theorem ml_Context_71 : Jvm.Cond.methodLink "ProofLedger$Context" 71 (am_y m_Context_pairOf) ∈ am_TS := am_one 519 (by decide +kernel) (by decide +kernel)
theorem ml_Letters_27 : Jvm.Cond.methodLink "ProofLedger$Letters" 27 (am_y m_Expressions_init) ∈ am_TS := am_one 386 (by decide +kernel) (by decide +kernel)
theorem ml_Letters_38 : Jvm.Cond.methodLink "ProofLedger$Letters" 38 (am_y m_Statements_isMandatory) ∈ am_TS := am_one 800 (by decide +kernel) (by decide +kernel)
theorem ml_Letters_70 : Jvm.Cond.methodLink "ProofLedger$Letters" 70 (am_y m_Letters_takeLetter) ∈ am_TS := am_one 815 (by decide +kernel) (by decide +kernel)
theorem ml_Letters_74 : Jvm.Cond.methodLink "ProofLedger$Letters" 74 (am_y m_Letters_stepWithNumber) ∈ am_TS := am_one 829 (by decide +kernel) (by decide +kernel)
theorem ml_Letters_78 : Jvm.Cond.methodLink "ProofLedger$Letters" 78 (am_y m_Letters_addGap) ∈ am_TS := am_one 819 (by decide +kernel) (by decide +kernel)
theorem ml_Letters_81 : Jvm.Cond.methodLink "ProofLedger$Letters" 81 (am_y m_Letters_addTag) ∈ am_TS := am_one 824 (by decide +kernel) (by decide +kernel)
theorem ml_Letters_87 : Jvm.Cond.methodLink "ProofLedger$Letters" 87 (am_y m_Proof_stepWith) ∈ am_TS := am_one 833 (by decide +kernel) (by decide +kernel)
theorem ml_Letters_95 : Jvm.Cond.methodLink "ProofLedger$Letters" 95 (am_y m_Proof_put) ∈ am_TS := am_one 834 (by decide +kernel) (by decide +kernel)
theorem ml_Letters_99 : Jvm.Cond.methodLink "ProofLedger$Letters" 99 (am_y m_Proof_leaveGap) ∈ am_TS := am_one 823 (by decide +kernel) (by decide +kernel)
theorem ml_Letters_105 : Jvm.Cond.methodLink "ProofLedger$Letters" 105 (am_y m_Expressions_addCopy) ∈ am_TS := am_one 828 (by decide +kernel) (by decide +kernel)
theorem ml_Proof_29 : Jvm.Cond.methodLink "ProofLedger$Proof" 29 (am_y m_Expressions_init) ∈ am_TS := am_one 351 (by decide +kernel) (by decide +kernel)
theorem ml_Proof_53 : Jvm.Cond.methodLink "ProofLedger$Proof" 53 (am_y m_Assertions_noteGap) ∈ am_TS := am_one 712 (by decide +kernel) (by decide +kernel)
theorem ml_Proof_58 : Jvm.Cond.methodLink "ProofLedger$Proof" 58 (am_y m_Statements_isHypothesis) ∈ am_TS := am_one 724 (by decide +kernel) (by decide +kernel)
theorem ml_Proof_67 : Jvm.Cond.methodLink "ProofLedger$Proof" 67 (am_y m_Proof_put) ∈ am_TS := am_one 725 (by decide +kernel) (by decide +kernel)
theorem ml_Proof_75 : Jvm.Cond.methodLink "ProofLedger$Proof" 75 (am_y m_J_bitCount) ∈ am_TS := am_one 744 (by decide +kernel) (by decide +kernel)
theorem ml_Proof_81 : Jvm.Cond.methodLink "ProofLedger$Proof" 81 (am_y m_Proof_bind) ∈ am_TS := am_one 750 (by decide +kernel) (by decide +kernel)
theorem ml_Proof_87 : Jvm.Cond.methodLink "ProofLedger$Proof" 87 (am_y m_Proof_keepsApart) ∈ am_TS := am_one 773 (by decide +kernel) (by decide +kernel)
theorem ml_Proof_90 : Jvm.Cond.methodLink "ProofLedger$Proof" 90 (am_y m_Proof_replaceIn) ∈ am_TS := am_one 762 (by decide +kernel) (by decide +kernel)
theorem ml_Proof_93 : Jvm.Cond.methodLink "ProofLedger$Proof" 93 (am_y m_Assertions_noteUse) ∈ am_TS := am_one 792 (by decide +kernel) (by decide +kernel)
theorem ml_Proof_96 : Jvm.Cond.methodLink "ProofLedger$Proof" 96 (am_y m_Expressions_isFull) ∈ am_TS := am_one 729 (by decide +kernel) (by decide +kernel)
theorem ml_Proof_100 : Jvm.Cond.methodLink "ProofLedger$Proof" 100 (am_y m_Expressions_addCopy) ∈ am_TS := am_one 730 (by decide +kernel) (by decide +kernel)
theorem ml_Proof_104 : Jvm.Cond.methodLink "ProofLedger$Proof" 104 (am_y m_Assertions_noteStep) ∈ am_TS := am_one 737 (by decide +kernel) (by decide +kernel)
theorem ml_Proof_107 : Jvm.Cond.methodLink "ProofLedger$Proof" 107 (am_y m_Statements_isMandatory) ∈ am_TS := am_one 754 (by decide +kernel) (by decide +kernel)
theorem ml_Proof_113 : Jvm.Cond.methodLink "ProofLedger$Proof" 113 (am_y m_Expressions_symbolAt) ∈ am_TS := am_one 758 (by decide +kernel) (by decide +kernel)
theorem ml_Proof_117 : Jvm.Cond.methodLink "ProofLedger$Proof" 117 (am_y m_Expressions_isSame) ∈ am_TS := am_one 617 (by decide +kernel) (by decide +kernel)
theorem ml_Proof_121 : Jvm.Cond.methodLink "ProofLedger$Proof" 121 (am_y m_Expressions_startRow) ∈ am_TS := am_one 766 (by decide +kernel) (by decide +kernel)
theorem ml_Proof_130 : Jvm.Cond.methodLink "ProofLedger$Proof" 130 (am_y m_Expressions_rowHasRoom) ∈ am_TS := am_one 767 (by decide +kernel) (by decide +kernel)
theorem ml_Proof_133 : Jvm.Cond.methodLink "ProofLedger$Proof" 133 (am_y m_Expressions_appendBody) ∈ am_TS := am_one 768 (by decide +kernel) (by decide +kernel)
theorem ml_Proof_136 : Jvm.Cond.methodLink "ProofLedger$Proof" 136 (am_y m_Expressions_append) ∈ am_TS := am_one 772 (by decide +kernel) (by decide +kernel)
theorem ml_Proof_143 : Jvm.Cond.methodLink "ProofLedger$Proof" 143 (am_y m_Assertions_firstOfPair) ∈ am_TS := am_one 777 (by decide +kernel) (by decide +kernel)
theorem ml_Proof_146 : Jvm.Cond.methodLink "ProofLedger$Proof" 146 (am_y m_Assertions_secondOfPair) ∈ am_TS := am_one 782 (by decide +kernel) (by decide +kernel)
theorem ml_Proof_152 : Jvm.Cond.methodLink "ProofLedger$Proof" 152 (am_y m_Context_areApart) ∈ am_TS := am_one 787 (by decide +kernel) (by decide +kernel)
theorem ml_Reader_25 : Jvm.Cond.methodLink "ProofLedger$Reader" 25 (am_y m_Context_init) ∈ am_TS := am_one 300 (by decide +kernel) (by decide +kernel)
theorem ml_Reader_32 : Jvm.Cond.methodLink "ProofLedger$Reader" 32 (am_y m_Proof_init) ∈ am_TS := am_one 346 (by decide +kernel) (by decide +kernel)
theorem ml_Reader_41 : Jvm.Cond.methodLink "ProofLedger$Reader" 41 (am_y m_Letters_init) ∈ am_TS := am_one 381 (by decide +kernel) (by decide +kernel)
theorem ml_Reader_48 : Jvm.Cond.methodLink "ProofLedger$Reader" 48 (am_y m_Names_begin) ∈ am_TS := am_one 494 (by decide +kernel) (by decide +kernel)
theorem ml_Reader_68 : Jvm.Cond.methodLink "ProofLedger$Reader" 68 (am_y m_Context_begin) ∈ am_TS := am_one 498 (by decide +kernel) (by decide +kernel)
theorem ml_Reader_75 : Jvm.Cond.methodLink "ProofLedger$Reader" 75 (am_y m_Text_keyword) ∈ am_TS := am_one 539 (by decide +kernel) (by decide +kernel)
theorem ml_Reader_81 : Jvm.Cond.methodLink "ProofLedger$Reader" 81 (am_y m_Reader_beginUnlabelled) ∈ am_TS := am_one 540 (by decide +kernel) (by decide +kernel)
theorem ml_Reader_85 : Jvm.Cond.methodLink "ProofLedger$Reader" 85 (am_y m_Reader_endNames) ∈ am_TS := am_one 556 (by decide +kernel) (by decide +kernel)
theorem ml_Reader_88 : Jvm.Cond.methodLink "ProofLedger$Reader" 88 (am_y m_Reader_takeKind) ∈ am_TS := am_one 560 (by decide +kernel) (by decide +kernel)
theorem ml_Reader_91 : Jvm.Cond.methodLink "ProofLedger$Reader" 91 (am_y m_Reader_declare) ∈ am_TS := am_one 564 (by decide +kernel) (by decide +kernel)
theorem ml_Reader_94 : Jvm.Cond.methodLink "ProofLedger$Reader" 94 (am_y m_Reader_endSymbols) ∈ am_TS := am_one 576 (by decide +kernel) (by decide +kernel)
theorem ml_Reader_97 : Jvm.Cond.methodLink "ProofLedger$Reader" 97 (am_y m_Reader_endProof) ∈ am_TS := am_one 609 (by decide +kernel) (by decide +kernel)
theorem ml_Reader_100 : Jvm.Cond.methodLink "ProofLedger$Reader" 100 (am_y m_Text_isTooLong) ∈ am_TS := am_one 625 (by decide +kernel) (by decide +kernel)
theorem ml_Reader_108 : Jvm.Cond.methodLink "ProofLedger$Reader" 108 (am_y m_Reader_takeLabel) ∈ am_TS := am_one 629 (by decide +kernel) (by decide +kernel)
theorem ml_Reader_112 : Jvm.Cond.methodLink "ProofLedger$Reader" 112 (am_y m_Reader_declareConstant) ∈ am_TS := am_one 653 (by decide +kernel) (by decide +kernel)
theorem ml_Reader_115 : Jvm.Cond.methodLink "ProofLedger$Reader" 115 (am_y m_Reader_declareVariable) ∈ am_TS := am_one 657 (by decide +kernel) (by decide +kernel)
theorem ml_Reader_118 : Jvm.Cond.methodLink "ProofLedger$Reader" 118 (am_y m_Names_find) ∈ am_TS := am_one 633 (by decide +kernel) (by decide +kernel)
theorem ml_Reader_121 : Jvm.Cond.methodLink "ProofLedger$Reader" 121 (am_y m_Reader_takeApart) ∈ am_TS := am_one 665 (by decide +kernel) (by decide +kernel)
theorem ml_Reader_124 : Jvm.Cond.methodLink "ProofLedger$Reader" 124 (am_y m_Reader_takeType) ∈ am_TS := am_one 674 (by decide +kernel) (by decide +kernel)
theorem ml_Reader_127 : Jvm.Cond.methodLink "ProofLedger$Reader" 127 (am_y m_Reader_takeFloating) ∈ am_TS := am_one 682 (by decide +kernel) (by decide +kernel)
theorem ml_Reader_130 : Jvm.Cond.methodLink "ProofLedger$Reader" 130 (am_y m_Reader_takeSymbol) ∈ am_TS := am_one 690 (by decide +kernel) (by decide +kernel)
theorem ml_Reader_133 : Jvm.Cond.methodLink "ProofLedger$Reader" 133 (am_y m_Reader_beginSteps) ∈ am_TS := am_one 698 (by decide +kernel) (by decide +kernel)
theorem ml_Reader_136 : Jvm.Cond.methodLink "ProofLedger$Reader" 136 (am_y m_Reader_takeStep) ∈ am_TS := am_one 703 (by decide +kernel) (by decide +kernel)
theorem ml_Reader_139 : Jvm.Cond.methodLink "ProofLedger$Reader" 139 (am_y m_Reader_takeListed) ∈ am_TS := am_one 801 (by decide +kernel) (by decide +kernel)
theorem ml_Reader_142 : Jvm.Cond.methodLink "ProofLedger$Reader" 142 (am_y m_Letters_takeLetters) ∈ am_TS := am_one 811 (by decide +kernel) (by decide +kernel)
theorem ml_Reader_146 : Jvm.Cond.methodLink "ProofLedger$Reader" 146 (am_y m_Context_openScope) ∈ am_TS := am_one 544 (by decide +kernel) (by decide +kernel)
theorem ml_Reader_149 : Jvm.Cond.methodLink "ProofLedger$Reader" 149 (am_y m_Context_closeScope) ∈ am_TS := am_one 548 (by decide +kernel) (by decide +kernel)
theorem ml_Reader_152 : Jvm.Cond.methodLink "ProofLedger$Reader" 152 (am_y m_Reader_beginNames) ∈ am_TS := am_one 552 (by decide +kernel) (by decide +kernel)
theorem ml_Reader_161 : Jvm.Cond.methodLink "ProofLedger$Reader" 161 (am_y m_Names_isFull) ∈ am_TS := am_one 637 (by decide +kernel) (by decide +kernel)
theorem ml_Reader_164 : Jvm.Cond.methodLink "ProofLedger$Reader" 164 (am_y m_Names_add) ∈ am_TS := am_one 568 (by decide +kernel) (by decide +kernel)
theorem ml_Reader_172 : Jvm.Cond.methodLink "ProofLedger$Reader" 172 (am_y m_Reader_isActive) ∈ am_TS := am_one 661 (by decide +kernel) (by decide +kernel)
theorem ml_Reader_182 : Jvm.Cond.methodLink "ProofLedger$Reader" 182 (am_y m_Reader_meaningOf) ∈ am_TS := am_one 669 (by decide +kernel) (by decide +kernel)
theorem ml_Reader_189 : Jvm.Cond.methodLink "ProofLedger$Reader" 189 (am_y m_Context_addPair) ∈ am_TS := am_one 673 (by decide +kernel) (by decide +kernel)
theorem ml_Reader_193 : Jvm.Cond.methodLink "ProofLedger$Reader" 193 (am_y m_Expressions_isFull) ∈ am_TS := am_one 641 (by decide +kernel) (by decide +kernel)
theorem ml_Reader_194 : Jvm.Cond.methodLink "ProofLedger$Reader" 194 (am_y m_Statements_start) ∈ am_TS := am_one 645 (by decide +kernel) (by decide +kernel)
theorem ml_Reader_201 : Jvm.Cond.methodLink "ProofLedger$Reader" 201 (am_y m_Expressions_append) ∈ am_TS := am_one 678 (by decide +kernel) (by decide +kernel)
theorem ml_Reader_205 : Jvm.Cond.methodLink "ProofLedger$Reader" 205 (am_y m_Reader_isTyped) ∈ am_TS := am_one 686 (by decide +kernel) (by decide +kernel)
theorem ml_Reader_208 : Jvm.Cond.methodLink "ProofLedger$Reader" 208 (am_y m_Expressions_rowHasRoom) ∈ am_TS := am_one 694 (by decide +kernel) (by decide +kernel)
theorem ml_Reader_211 : Jvm.Cond.methodLink "ProofLedger$Reader" 211 (am_y m_Statements_isHypothesis) ∈ am_TS := am_one 572 (by decide +kernel) (by decide +kernel)
theorem ml_Reader_214 : Jvm.Cond.methodLink "ProofLedger$Reader" 214 (am_y m_Reader_beginAssertion) ∈ am_TS := am_one 580 (by decide +kernel) (by decide +kernel)
theorem ml_Reader_218 : Jvm.Cond.methodLink "ProofLedger$Reader" 218 (am_y m_Proof_begin) ∈ am_TS := am_one 605 (by decide +kernel) (by decide +kernel)
theorem ml_Reader_219 : Jvm.Cond.methodLink "ProofLedger$Reader" 219 (am_y m_Assertions_start) ∈ am_TS := am_one 584 (by decide +kernel) (by decide +kernel)
theorem ml_Reader_223 : Jvm.Cond.methodLink "ProofLedger$Reader" 223 (am_y m_Reader_mandatoryVariables) ∈ am_TS := am_one 588 (by decide +kernel) (by decide +kernel)
theorem ml_Reader_233 : Jvm.Cond.methodLink "ProofLedger$Reader" 233 (am_y m_Reader_isActiveHypothesis) ∈ am_TS := am_one 592 (by decide +kernel) (by decide +kernel)
theorem ml_Reader_236 : Jvm.Cond.methodLink "ProofLedger$Reader" 236 (am_y m_Reader_keepPairs) ∈ am_TS := am_one 596 (by decide +kernel) (by decide +kernel)
theorem ml_Reader_245 : Jvm.Cond.methodLink "ProofLedger$Reader" 245 (am_y m_Context_pairOf) ∈ am_TS := am_one 600 (by decide +kernel) (by decide +kernel)
theorem ml_Reader_249 : Jvm.Cond.methodLink "ProofLedger$Reader" 249 (am_y m_Assertions_addPair) ∈ am_TS := am_one 601 (by decide +kernel) (by decide +kernel)
theorem ml_Reader_253 : Jvm.Cond.methodLink "ProofLedger$Reader" 253 (am_y m_Letters_begin) ∈ am_TS := am_one 796 (by decide +kernel) (by decide +kernel)
theorem ml_Reader_257 : Jvm.Cond.methodLink "ProofLedger$Reader" 257 (am_y m_Proof_leaveGap) ∈ am_TS := am_one 708 (by decide +kernel) (by decide +kernel)
theorem ml_Reader_260 : Jvm.Cond.methodLink "ProofLedger$Reader" 260 (am_y m_Reader_findUsable) ∈ am_TS := am_one 716 (by decide +kernel) (by decide +kernel)
theorem ml_Reader_263 : Jvm.Cond.methodLink "ProofLedger$Reader" 263 (am_y m_Proof_stepWith) ∈ am_TS := am_one 720 (by decide +kernel) (by decide +kernel)
theorem ml_Reader_268 : Jvm.Cond.methodLink "ProofLedger$Reader" 268 (am_y m_Statements_isMandatory) ∈ am_TS := am_one 806 (by decide +kernel) (by decide +kernel)
theorem ml_Reader_272 : Jvm.Cond.methodLink "ProofLedger$Reader" 272 (am_y m_Letters_addListed) ∈ am_TS := am_one 807 (by decide +kernel) (by decide +kernel)
theorem ml_Reader_281 : Jvm.Cond.methodLink "ProofLedger$Reader" 281 (am_y m_Proof_finish) ∈ am_TS := am_one 613 (by decide +kernel) (by decide +kernel)
theorem ml_Statements_21 : Jvm.Cond.methodLink "ProofLedger$Statements" 21 (am_y m_Expressions_init) ∈ am_TS := am_one 194 (by decide +kernel) (by decide +kernel)
theorem ml_Statements_38 : Jvm.Cond.methodLink "ProofLedger$Statements" 38 (am_y m_Expressions_startRow) ∈ am_TS := am_one 649 (by decide +kernel) (by decide +kernel)
theorem ml_Statements_41 : Jvm.Cond.methodLink "ProofLedger$Statements" 41 (am_y m_Statements_isMandatory) ∈ am_TS := am_one 878 (by decide +kernel) (by decide +kernel)
theorem ml_Text_29 : Jvm.Cond.methodLink "ProofLedger$Text" 29 (am_y m_Text_scanWord) ∈ am_TS := am_one 526 (by decide +kernel) (by decide +kernel)
theorem ml_Text_33 : Jvm.Cond.methodLink "ProofLedger$Text" 33 (am_y m_Text_keyword) ∈ am_TS := am_one 531 (by decide +kernel) (by decide +kernel)
theorem ml_W_9 : Jvm.Cond.methodLink "ProofLedgerLaw" 9 (am_y m_L_init) ∈ am_TS := am_one 107 (by decide +kernel) (by decide +kernel)
theorem ml_W_12 : Jvm.Cond.methodLink "ProofLedgerLaw" 12 (am_y m_M_init) ∈ am_TS := am_one 911 (by decide +kernel) (by decide +kernel)
theorem ml_W_15 : Jvm.Cond.methodLink "ProofLedgerLaw" 15 (am_y m_L_feed) ∈ am_TS := am_one 466 (by decide +kernel) (by decide +kernel)
theorem ml_W_19 : Jvm.Cond.methodLink "ProofLedgerLaw" 19 (am_y m_M_feed) ∈ am_TS := am_one 1087 (by decide +kernel) (by decide +kernel)
theorem ml_W_20 : Jvm.Cond.methodLink "ProofLedgerLaw" 20 (am_y m_L_clear) ∈ am_TS := am_one 474 (by decide +kernel) (by decide +kernel)
theorem ml_W_24 : Jvm.Cond.methodLink "ProofLedgerLaw" 24 (am_y m_M_clear) ∈ am_TS := am_one 1092 (by decide +kernel) (by decide +kernel)
theorem ml_W_25 : Jvm.Cond.methodLink "ProofLedgerLaw" 25 (am_y m_L_read) ∈ am_TS := am_one 482 (by decide +kernel) (by decide +kernel)
theorem ml_W_28 : Jvm.Cond.methodLink "ProofLedgerLaw" 28 (am_y m_M_read) ∈ am_TS := am_one 1096 (by decide +kernel) (by decide +kernel)
theorem ml_W_29 : Jvm.Cond.methodLink "ProofLedgerLaw" 29 (am_y m_L_place) ∈ am_TS := am_one 839 (by decide +kernel) (by decide +kernel)
theorem ml_W_32 : Jvm.Cond.methodLink "ProofLedgerLaw" 32 (am_y m_M_place) ∈ am_TS := am_one 1313 (by decide +kernel) (by decide +kernel)
theorem ml_W_33 : Jvm.Cond.methodLink "ProofLedgerLaw" 33 (am_y m_L_count) ∈ am_TS := am_one 843 (by decide +kernel) (by decide +kernel)
theorem ml_W_37 : Jvm.Cond.methodLink "ProofLedgerLaw" 37 (am_y m_M_count) ∈ am_TS := am_one 1317 (by decide +kernel) (by decide +kernel)
theorem ml_W_38 : Jvm.Cond.methodLink "ProofLedgerLaw" 38 (am_y m_L_label) ∈ am_TS := am_one 856 (by decide +kernel) (by decide +kernel)
theorem ml_W_42 : Jvm.Cond.methodLink "ProofLedgerLaw" 42 (am_y m_M_label) ∈ am_TS := am_one 1325 (by decide +kernel) (by decide +kernel)
theorem ml_W_43 : Jvm.Cond.methodLink "ProofLedgerLaw" 43 (am_y m_L_symbol) ∈ am_TS := am_one 865 (by decide +kernel) (by decide +kernel)
theorem ml_W_47 : Jvm.Cond.methodLink "ProofLedgerLaw" 47 (am_y m_M_symbol) ∈ am_TS := am_one 1334 (by decide +kernel) (by decide +kernel)
theorem ml_W_48 : Jvm.Cond.methodLink "ProofLedgerLaw" 48 (am_y m_L_hypothesis) ∈ am_TS := am_one 870 (by decide +kernel) (by decide +kernel)
theorem ml_W_51 : Jvm.Cond.methodLink "ProofLedgerLaw" 51 (am_y m_M_hypothesis) ∈ am_TS := am_one 1338 (by decide +kernel) (by decide +kernel)
theorem ml_W_52 : Jvm.Cond.methodLink "ProofLedgerLaw" 52 (am_y m_L_pairs) ∈ am_TS := am_one 879 (by decide +kernel) (by decide +kernel)
theorem ml_W_55 : Jvm.Cond.methodLink "ProofLedgerLaw" 55 (am_y m_M_pairs) ∈ am_TS := am_one 1342 (by decide +kernel) (by decide +kernel)
theorem ml_W_56 : Jvm.Cond.methodLink "ProofLedgerLaw" 56 (am_y m_L_apart) ∈ am_TS := am_one 883 (by decide +kernel) (by decide +kernel)
theorem ml_W_60 : Jvm.Cond.methodLink "ProofLedgerLaw" 60 (am_y m_M_apart) ∈ am_TS := am_one 1346 (by decide +kernel) (by decide +kernel)
theorem ml_W_61 : Jvm.Cond.methodLink "ProofLedgerLaw" 61 (am_y m_L_steps) ∈ am_TS := am_one 889 (by decide +kernel) (by decide +kernel)
theorem ml_W_64 : Jvm.Cond.methodLink "ProofLedgerLaw" 64 (am_y m_M_steps) ∈ am_TS := am_one 1350 (by decide +kernel) (by decide +kernel)
theorem ml_W_65 : Jvm.Cond.methodLink "ProofLedgerLaw" 65 (am_y m_L_depth) ∈ am_TS := am_one 893 (by decide +kernel) (by decide +kernel)
theorem ml_W_68 : Jvm.Cond.methodLink "ProofLedgerLaw" 68 (am_y m_M_depth) ∈ am_TS := am_one 1354 (by decide +kernel) (by decide +kernel)
theorem ml_W_69 : Jvm.Cond.methodLink "ProofLedgerLaw" 69 (am_y m_L_uses) ∈ am_TS := am_one 897 (by decide +kernel) (by decide +kernel)
theorem ml_W_73 : Jvm.Cond.methodLink "ProofLedgerLaw" 73 (am_y m_M_uses) ∈ am_TS := am_one 1358 (by decide +kernel) (by decide +kernel)
theorem ml_W_74 : Jvm.Cond.methodLink "ProofLedgerLaw" 74 (am_y m_L_proved) ∈ am_TS := am_one 905 (by decide +kernel) (by decide +kernel)
theorem ml_W_78 : Jvm.Cond.methodLink "ProofLedgerLaw" 78 (am_y m_M_proved) ∈ am_TS := am_one 1362 (by decide +kernel) (by decide +kernel)
theorem ml_M_141 : Jvm.Cond.methodLink "ProofLedgerModel" 141 (am_y m_M_letter) ∈ am_TS := am_one 1112 (by decide +kernel) (by decide +kernel)
theorem ml_M_153 : Jvm.Cond.methodLink "ProofLedgerModel" 153 (am_y m_M_isTwo) ∈ am_TS := am_one 1108 (by decide +kernel) (by decide +kernel)
theorem ml_M_157 : Jvm.Cond.methodLink "ProofLedgerModel" 157 (am_y m_M_fail) ∈ am_TS := am_one 1116 (by decide +kernel) (by decide +kernel)
theorem ml_M_161 : Jvm.Cond.methodLink "ProofLedgerModel" 161 (am_y m_M_come) ∈ am_TS := am_one 1104 (by decide +kernel) (by decide +kernel)
theorem ml_M_165 : Jvm.Cond.methodLink "ProofLedgerModel" 165 (am_y m_M_whatIs) ∈ am_TS := am_one 1124 (by decide +kernel) (by decide +kernel)
theorem ml_M_169 : Jvm.Cond.methodLink "ProofLedgerModel" 169 (am_y m_M_need) ∈ am_TS := am_one 1141 (by decide +kernel) (by decide +kernel)
theorem ml_M_176 : Jvm.Cond.methodLink "ProofLedgerModel" 176 (am_y m_M_codeOf) ∈ am_TS := am_one 1132 (by decide +kernel) (by decide +kernel)
theorem ml_M_180 : Jvm.Cond.methodLink "ProofLedgerModel" 180 (am_y m_M_find) ∈ am_TS := am_one 1137 (by decide +kernel) (by decide +kernel)
theorem ml_M_190 : Jvm.Cond.methodLink "ProofLedgerModel" 190 (am_y m_M_findWord) ∈ am_TS := am_one 1157 (by decide +kernel) (by decide +kernel)
theorem ml_M_193 : Jvm.Cond.methodLink "ProofLedgerModel" 193 (am_y m_M_addName) ∈ am_TS := am_one 1177 (by decide +kernel) (by decide +kernel)
theorem ml_M_196 : Jvm.Cond.methodLink "ProofLedgerModel" 196 (am_y m_M_isConstant) ∈ am_TS := am_one 1161 (by decide +kernel) (by decide +kernel)
theorem ml_M_200 : Jvm.Cond.methodLink "ProofLedgerModel" 200 (am_y m_M_isLive) ∈ am_TS := am_one 1165 (by decide +kernel) (by decide +kernel)
theorem ml_M_203 : Jvm.Cond.methodLink "ProofLedgerModel" 203 (am_y m_M_stoodBefore) ∈ am_TS := am_one 1305 (by decide +kernel) (by decide +kernel)
theorem ml_M_213 : Jvm.Cond.methodLink "ProofLedgerModel" 213 (am_y m_M_needName) ∈ am_TS := am_one 1153 (by decide +kernel) (by decide +kernel)
theorem ml_M_216 : Jvm.Cond.methodLink "ProofLedgerModel" 216 (am_y m_M_readType) ∈ am_TS := am_one 1149 (by decide +kernel) (by decide +kernel)
theorem ml_M_219 : Jvm.Cond.methodLink "ProofLedgerModel" 219 (am_y m_M_typeOf) ∈ am_TS := am_one 1169 (by decide +kernel) (by decide +kernel)
theorem ml_M_222 : Jvm.Cond.methodLink "ProofLedgerModel" 222 (am_y m_M_declare) ∈ am_TS := am_one 1173 (by decide +kernel) (by decide +kernel)
theorem ml_M_229 : Jvm.Cond.methodLink "ProofLedgerModel" 229 (am_y m_M_mark) ∈ am_TS := am_one 1189 (by decide +kernel) (by decide +kernel)
theorem ml_M_233 : Jvm.Cond.methodLink "ProofLedgerModel" 233 (am_y m_M_isNeeded) ∈ am_TS := am_one 1193 (by decide +kernel) (by decide +kernel)
theorem ml_M_236 : Jvm.Cond.methodLink "ProofLedgerModel" 236 (am_y m_M_readFloating) ∈ am_TS := am_one 1145 (by decide +kernel) (by decide +kernel)
theorem ml_M_240 : Jvm.Cond.methodLink "ProofLedgerModel" 240 (am_y m_M_readExpression) ∈ am_TS := am_one 1181 (by decide +kernel) (by decide +kernel)
theorem ml_M_243 : Jvm.Cond.methodLink "ProofLedgerModel" 243 (am_y m_M_findNeeds) ∈ am_TS := am_one 1185 (by decide +kernel) (by decide +kernel)
theorem ml_M_246 : Jvm.Cond.methodLink "ProofLedgerModel" 246 (am_y m_M_begin) ∈ am_TS := am_one 1197 (by decide +kernel) (by decide +kernel)
theorem ml_M_250 : Jvm.Cond.methodLink "ProofLedgerModel" 250 (am_y m_M_readProof) ∈ am_TS := am_one 1201 (by decide +kernel) (by decide +kernel)
theorem ml_M_253 : Jvm.Cond.methodLink "ProofLedgerModel" 253 (am_y m_M_settle) ∈ am_TS := am_one 1289 (by decide +kernel) (by decide +kernel)
theorem ml_M_266 : Jvm.Cond.methodLink "ProofLedgerModel" 266 (am_y m_M_hasRoom) ∈ am_TS := am_one 1249 (by decide +kernel) (by decide +kernel)
theorem ml_M_269 : Jvm.Cond.methodLink "ProofLedgerModel" 269 (am_y m_M_areApart) ∈ am_TS := am_one 1269 (by decide +kernel) (by decide +kernel)
theorem ml_M_272 : Jvm.Cond.methodLink "ProofLedgerModel" 272 (am_y m_M_replace) ∈ am_TS := am_one 1257 (by decide +kernel) (by decide +kernel)
theorem ml_M_275 : Jvm.Cond.methodLink "ProofLedgerModel" 275 (am_y m_M_isMade) ∈ am_TS := am_one 1261 (by decide +kernel) (by decide +kernel)
theorem ml_M_278 : Jvm.Cond.methodLink "ProofLedgerModel" 278 (am_y m_M_allApart) ∈ am_TS := am_one 1265 (by decide +kernel) (by decide +kernel)
theorem ml_M_281 : Jvm.Cond.methodLink "ProofLedgerModel" 281 (am_y m_M_pushHypothesis) ∈ am_TS := am_one 1245 (by decide +kernel) (by decide +kernel)
theorem ml_M_284 : Jvm.Cond.methodLink "ProofLedgerModel" 284 (am_y m_M_apply) ∈ am_TS := am_one 1253 (by decide +kernel) (by decide +kernel)
theorem ml_M_287 : Jvm.Cond.methodLink "ProofLedgerModel" 287 (am_y m_M_tally) ∈ am_TS := am_one 1273 (by decide +kernel) (by decide +kernel)
theorem ml_M_290 : Jvm.Cond.methodLink "ProofLedgerModel" 290 (am_y m_M_isWord) ∈ am_TS := am_one 1205 (by decide +kernel) (by decide +kernel)
theorem ml_M_293 : Jvm.Cond.methodLink "ProofLedgerModel" 293 (am_y m_M_readListed) ∈ am_TS := am_one 1209 (by decide +kernel) (by decide +kernel)
theorem ml_M_296 : Jvm.Cond.methodLink "ProofLedgerModel" 296 (am_y m_M_readLetters) ∈ am_TS := am_one 1221 (by decide +kernel) (by decide +kernel)
theorem ml_M_299 : Jvm.Cond.methodLink "ProofLedgerModel" 299 (am_y m_M_readSteps) ∈ am_TS := am_one 1281 (by decide +kernel) (by decide +kernel)
theorem ml_M_302 : Jvm.Cond.methodLink "ProofLedgerModel" 302 (am_y m_M_finish) ∈ am_TS := am_one 1285 (by decide +kernel) (by decide +kernel)
theorem ml_M_305 : Jvm.Cond.methodLink "ProofLedgerModel" 305 (am_y m_M_lookUp) ∈ am_TS := am_one 1213 (by decide +kernel) (by decide +kernel)
theorem ml_M_308 : Jvm.Cond.methodLink "ProofLedgerModel" 308 (am_y m_M_step) ∈ am_TS := am_one 1241 (by decide +kernel) (by decide +kernel)
theorem ml_M_314 : Jvm.Cond.methodLink "ProofLedgerModel" 314 (am_y m_M_isMandatory) ∈ am_TS := am_one 1217 (by decide +kernel) (by decide +kernel)
theorem ml_M_326 : Jvm.Cond.methodLink "ProofLedgerModel" 326 (am_y m_M_isLetters) ∈ am_TS := am_one 1225 (by decide +kernel) (by decide +kernel)
theorem ml_M_329 : Jvm.Cond.methodLink "ProofLedgerModel" 329 (am_y m_M_readLetter) ∈ am_TS := am_one 1229 (by decide +kernel) (by decide +kernel)
theorem ml_M_332 : Jvm.Cond.methodLink "ProofLedgerModel" 332 (am_y m_M_tag) ∈ am_TS := am_one 1233 (by decide +kernel) (by decide +kernel)
theorem ml_M_335 : Jvm.Cond.methodLink "ProofLedgerModel" 335 (am_y m_M_stepWith) ∈ am_TS := am_one 1237 (by decide +kernel) (by decide +kernel)
theorem ml_M_338 : Jvm.Cond.methodLink "ProofLedgerModel" 338 (am_y m_M_pushTagged) ∈ am_TS := am_one 1277 (by decide +kernel) (by decide +kernel)
theorem ml_M_341 : Jvm.Cond.methodLink "ProofLedgerModel" 341 (am_y m_M_readLabelled) ∈ am_TS := am_one 1128 (by decide +kernel) (by decide +kernel)
theorem ml_M_344 : Jvm.Cond.methodLink "ProofLedgerModel" 344 (am_y m_M_readConstants) ∈ am_TS := am_one 1293 (by decide +kernel) (by decide +kernel)
theorem ml_M_347 : Jvm.Cond.methodLink "ProofLedgerModel" 347 (am_y m_M_readVariables) ∈ am_TS := am_one 1297 (by decide +kernel) (by decide +kernel)
theorem ml_M_350 : Jvm.Cond.methodLink "ProofLedgerModel" 350 (am_y m_M_readApart) ∈ am_TS := am_one 1301 (by decide +kernel) (by decide +kernel)
theorem ml_M_353 : Jvm.Cond.methodLink "ProofLedgerModel" 353 (am_y m_M_closeScope) ∈ am_TS := am_one 1309 (by decide +kernel) (by decide +kernel)
theorem ml_M_356 : Jvm.Cond.methodLink "ProofLedgerModel" 356 (am_y m_M_findWords) ∈ am_TS := am_one 1100 (by decide +kernel) (by decide +kernel)
theorem ml_M_359 : Jvm.Cond.methodLink "ProofLedgerModel" 359 (am_y m_M_readStatement) ∈ am_TS := am_one 1120 (by decide +kernel) (by decide +kernel)
theorem ml_M_362 : Jvm.Cond.methodLink "ProofLedgerModel" 362 (am_y m_M_countNames) ∈ am_TS := am_one 1321 (by decide +kernel) (by decide +kernel)
theorem ml_M_365 : Jvm.Cond.methodLink "ProofLedgerModel" 365 (am_y m_M_isAssertion) ∈ am_TS := am_one 1329 (by decide +kernel) (by decide +kernel)
end
section
/-! where a method of ours stands, and what it means to go on from there -/
def am_tys (tA : FieldType → ClassId) : List (ClassId × FieldType) := [(tA .int, .int), (tA .long, .long), (tA .byte, .byte), (tA .boolean, .boolean)]
def am_X (d N S L : Nat) (xs : Nat → Int) (mid : am_M) (p : Program) (R : Room) (s : State) (m : MethodId) (args : Array Value) (meth : Method) (c : Code) (b z n0 s0 : Nat) (tA : FieldType → ClassId) (D : va_G) : Prop :=
  p.tables.exec = Jvm.exec ∧ c.code = am_bytes mid ∧ c.maxLocals = am_maxL mid ∧ s.vm.findClass (am_own mid) = some m.cls ∧ (∀ w ∈ am_TS, w.before args s = true) ∧ va_K D am_cl (am_tys tA) s ∧ s.heap.size = z + n0 ∧ (am_init mid = true → meth.name = "<init>") ∧ d + 1 ≤ R.frames ∧ am_lw * (d + 1) ≤ R.locals ∧ N ≤ n0 + R.cells ∧ S ≤ s0 + R.slots ∧ (am_law mid = true → (∃ ys : Nat → Int32, va_X b L ys s s.heap ∧ ∀ j, j < L → ys j = Int32.ofInt (xs j)) ∧ b < z)
def am_W (p : Program) (l : Launch) (e : Env) (R : Room) (s : State) (m : MethodId) (args : Array Value) (below : List Frame) (meth : Method) (c : Code) (Q : State → Prop) (N S b z n0 s0 : Nat) (tA : FieldType → ClassId) (D : va_G) (pc : Nat) (lv : am_L) (st : List am_V) (h : am_H) : Prop :=
  ∀ (H : Heap) (locs : List Loc) (ls : Array Slot) (cells slots : Nat), am_lv b z ls lv → va_P D am_cl (am_cw b z tA 0 h) H → va_S (fun q => z ≤ q) s.heap H locs → (h.length = n0 + cells ∧ h.length ≤ N) → (am_sl h = s0 + slots ∧ am_sl h ≤ S) → W p l e R s m args below meth c H locs cells slots Q (F0 m pc ls (st.map (am_c b z)))
/-- from the first state the machine comes to the second, in a frame of method mid, with d frames more above it, N cells and S slots at most -/
def Go (d N S L : Nat) (xs : Nat → Int) (mid : am_M) (pc : Nat) (lv : am_L) (st : List am_V) (h : am_H) (pc' : Nat) (lv' : am_L) (st' : List am_V) (h' : am_H) : Prop :=
  ∀ (p : Program) (l : Launch) (e : Env) (R : Room) (s : State) (m : MethodId) (args : Array Value) (below : List Frame) (meth : Method) (c : Code) (Q : State → Prop) (b z n0 s0 : Nat) (tA : FieldType → ClassId) (D : va_G), am_X d N S L xs mid p R s m args meth c b z n0 s0 tA D →
    am_W p l e R s m args below meth c Q N S b z n0 s0 tA D pc' lv' st' h' → am_W p l e R s m args below meth c Q N S b z n0 s0 tA D pc lv st h
theorem am_size {p : Program} {l : Launch} {e : Env} {R : Room} {s : State} {m : MethodId} {args : Array Value} {below : List Frame} {meth : Method} {c : Code} {H : Heap} {locs : List Loc} {cells slots : Nat} {Q : State → Prop} {g : JFrame} (k : H.size ≤ s.heap.size + cells → W p l e R s m args below meth c H locs cells slots Q g) : W p l e R s m args below meth c H locs cells slots Q g :=
  fun T hT X => k (by rw [← hT]; exact X.heapSize) T hT X
section GO
variable {d N S L : Nat} {xs : Nat → Int} {mid : am_M} {pc : Nat} {lv : am_L} {st : List am_V} {h : am_H}
theorem Go.rfl' : Go d N S L xs mid pc lv st h pc lv st h := fun _ _ _ _ _ _ _ _ _ _ _ _ _ _ _ _ _ _ k => k
theorem Go.trans {pc1 pc2 : Nat} {lv1 lv2 : am_L} {st1 st2 : List am_V} {h1 h2 : am_H} (g1 : Go d N S L xs mid pc lv st h pc1 lv1 st1 h1) (g2 : Go d N S L xs mid pc1 lv1 st1 h1 pc2 lv2 st2 h2) : Go d N S L xs mid pc lv st h pc2 lv2 st2 h2 :=
  fun p l e R s m args below meth c Q b z n0 s0 tA D X k => g1 p l e R s m args below meth c Q b z n0 s0 tA D X (g2 p l e R s m args below meth c Q b z n0 s0 tA D X k)
/-- an instruction that changes the stack alone -/
theorem go_st {pc' : Nat} {st' : List am_V} (hw : ∀ {p : Program} {l : Launch} {e : Env} {R : Room} {s : State} {m : MethodId} {args : Array Value} {below : List Frame} {meth : Method} {c : Code} {H : Heap} {locs : List Loc} {cells slots : Nat} {Q : State → Prop} {ls : Array Slot} {b z : Nat}, p.tables.exec = Jvm.exec → c.code = am_bytes mid → am_lv b z ls lv → s.vm.findClass (am_own mid) = some m.cls → (∀ w ∈ am_TS, w.before args s = true) →
      W p l e R s m args below meth c H locs cells slots Q (F0 m pc' ls (st'.map (am_c b z))) → W p l e R s m args below meth c H locs cells slots Q (F0 m pc ls (st.map (am_c b z)))) : Go d N S L xs mid pc lv st h pc' lv st' h := by
  intro p l e R s m args below meth c Q b z n0 s0 tA D X kk H locs ls cells slots hl hP hS hc hs
  obtain ⟨hx, hb, hml, hown, hts, -⟩ := X
  exact hw hx hb hl hown hts (kk H locs ls cells slots hl hP hS hc hs)
theorem go_iconst {n : Int} (hd : decode (am_bytes mid) pc = .ok (.iconst n, 1)) : Go d N S L xs mid pc lv st h (pc + 1) lv (vI n :: st) h := go_st fun hx hb _ _ _ k => lv_iconst hx hb hd rfl k
theorem go_bipush {n : Int} (hd : decode (am_bytes mid) pc = .ok (.bipush n, 2)) (h1 : -128 ≤ n) (h2 : n ≤ 127) : Go d N S L xs mid pc lv st h (pc + 2) lv (vI n :: st) h := go_st fun hx hb _ _ _ k => lv_bipush hx hb hd (Int8.toInt32_ofInt h1 h2) k
theorem go_sipush {n : Int} (hd : decode (am_bytes mid) pc = .ok (.sipush n, 3)) (h1 : -32768 ≤ n) (h2 : n ≤ 32767) : Go d N S L xs mid pc lv st h (pc + 3) lv (vI n :: st) h := go_st fun hx hb _ _ _ k => lv_sipush hx hb hd (Int16.toInt32_ofInt h1 h2) k
theorem go_lconst {n : Fin 2} (hd : decode (am_bytes mid) pc = .ok (.lconst n, 1)) : Go d N S L xs mid pc lv st h (pc + 1) lv (vL (Int64.ofNat n) :: st) h := go_st fun hx hb _ _ _ k => lv_lconst hx hb hd rfl k
theorem go_ldc {i : Nat} {v : Int32} {n : Int} (hd : decode (am_bytes mid) pc = .ok (.ldc i, 2)) (hw : Jvm.Cond.constant (am_own mid) i v ∈ am_TS) (hn : v = Int32.ofInt n) : Go d N S L xs mid pc lv st h (pc + 2) lv (vI n :: st) h := go_st fun hx hb _ ho hts k => lv_ldc hx hb ho (hts _ hw) hd (by rw [hn]; exact k)
theorem go_ldc2 {i : Nat} {v : Int64} (hd : decode (am_bytes mid) pc = .ok (.ldc2_w i, 3)) (hw : Jvm.Cond.constantLong (am_own mid) i v ∈ am_TS) : Go d N S L xs mid pc lv st h (pc + 3) lv (vL v :: st) h := go_st fun hx hb _ ho hts k => lv_ldc2 hx hb ho (hts _ hw) hd k
theorem go_iload {i : Nat} {x : Int} (hd : decode (am_bytes mid) pc = .ok (.iload i, 2)) (hi : lv[i]? = some (some (vI x))) : Go d N S L xs mid pc lv st h (pc + 2) lv (vI x :: st) h := go_st fun hx hb hl _ _ k => lv_iload hx hb hd (hl.2.2 i _ hi) k
theorem go_iload_n {i : Fin 4} {x : Int} (hd : decode (am_bytes mid) pc = .ok (.iload_n i, 1)) (hi : lv[i.val]? = some (some (vI x))) : Go d N S L xs mid pc lv st h (pc + 1) lv (vI x :: st) h := go_st fun hx hb hl _ _ k => lv_iload_n hx hb hd rfl (hl.2.2 _ _ hi) k
theorem go_lload {i : Nat} {x : Int64} (hd : decode (am_bytes mid) pc = .ok (.lload i, 2)) (hi : lv[i]? = some (some (vL x))) : Go d N S L xs mid pc lv st h (pc + 2) lv (vL x :: st) h := go_st fun hx hb hl _ _ k => lv_lload hx hb hd (hl.2.2 i _ hi) k
theorem go_lload_n {i : Fin 4} {x : Int64} (hd : decode (am_bytes mid) pc = .ok (.lload_n i, 1)) (hi : lv[i.val]? = some (some (vL x))) : Go d N S L xs mid pc lv st h (pc + 1) lv (vL x :: st) h := go_st fun hx hb hl _ _ k => lv_lload_n hx hb hd rfl (hl.2.2 _ _ hi) k
theorem am_c_ref (b z r : Nat) : ∃ a, am_c b z (vR r) = .ref a := match r with
  | 0 => ⟨b, rfl⟩
  | r + 1 => ⟨z + r, rfl⟩
theorem go_aload {i r : Nat} (hd : decode (am_bytes mid) pc = .ok (.aload i, 2)) (hi : lv[i]? = some (some (vR r))) : Go d N S L xs mid pc lv st h (pc + 2) lv (vR r :: st) h := go_st fun {p l e R s m args below meth c H locs cells slots Q ls b z} hx hb hl _ _ k => by
  obtain ⟨a, ha⟩ := am_c_ref b z r
  exact lv_aload (x := a) hx hb hd (by rw [hl.2.2 i _ hi, ha]) (by rw [List.map_cons, ha] at k; exact k)
theorem go_aload_n {i : Fin 4} {r : Nat} (hd : decode (am_bytes mid) pc = .ok (.aload_n i, 1)) (hi : lv[i.val]? = some (some (vR r))) : Go d N S L xs mid pc lv st h (pc + 1) lv (vR r :: st) h := go_st fun {p l e R s m args below meth c H locs cells slots Q ls b z} hx hb hl _ _ k => by
  obtain ⟨a, ha⟩ := am_c_ref b z r
  exact lv_aload_n (x := a) hx hb hd rfl (by rw [hl.2.2 _ _ hi, ha]) (by rw [List.map_cons, ha] at k; exact k)
/-- an instruction that changes a local, and the stack -/
theorem go_lv {pc' : Nat} {lv' : am_L} {st' : List am_V} (hw : ∀ {p : Program} {l : Launch} {e : Env} {R : Room} {s : State} {m : MethodId} {args : Array Value} {below : List Frame} {meth : Method} {c : Code} {H : Heap} {locs : List Loc} {cells slots : Nat} {Q : State → Prop} {ls : Array Slot} {b z : Nat}, p.tables.exec = Jvm.exec → c.code = am_bytes mid → am_lv b z ls lv →
      (∀ ls' : Array Slot, am_lv b z ls' lv' → W p l e R s m args below meth c H locs cells slots Q (F0 m pc' ls' (st'.map (am_c b z)))) → W p l e R s m args below meth c H locs cells slots Q (F0 m pc ls (st.map (am_c b z)))) : Go d N S L xs mid pc lv st h pc' lv' st' h := by
  intro p l e R s m args below meth c Q b z n0 s0 tA D X kk H locs ls cells slots hl hP hS hc hs
  obtain ⟨hx, hb, -⟩ := X
  exact hw hx hb hl (fun ls' hl' => kk H locs ls' cells slots hl' hP hS hc hs)
theorem go_istore {i : Nat} {x : Int} (hd : decode (am_bytes mid) pc = .ok (.istore i, 2)) (hi : i < lv.length) : Go d N S L xs mid pc lv (vI x :: st) h (pc + 2) (am_st1 lv i (vI x)) st h := go_lv fun hx hb hl k => lv_istore hx hb hd hl.has hi rfl fun ls' h' => k ls' (am_lv.st1 hi h')
theorem go_istore_n {i : Fin 4} {x : Int} (hd : decode (am_bytes mid) pc = .ok (.istore_n i, 1)) (hi : i.val < lv.length) : Go d N S L xs mid pc lv (vI x :: st) h (pc + 1) (am_st1 lv i.val (vI x)) st h := go_lv fun hx hb hl k => lv_istore_n hx hb hd rfl hl.has hi rfl fun ls' h' => k ls' (am_lv.st1 hi h')
theorem go_lstore {i : Nat} {x : Int64} (hd : decode (am_bytes mid) pc = .ok (.lstore i, 2)) (hi : i + 1 < lv.length) : Go d N S L xs mid pc lv (vL x :: st) h (pc + 2) (am_st2 lv i (vL x)) st h := go_lv fun hx hb hl k => lv_lstore hx hb hd hl.has hi rfl fun ls' h' => k ls' (am_lv.st2 hi h')
theorem go_lstore_n {i : Fin 4} {x : Int64} (hd : decode (am_bytes mid) pc = .ok (.lstore_n i, 1)) (hi : i.val + 1 < lv.length) : Go d N S L xs mid pc lv (vL x :: st) h (pc + 1) (am_st2 lv i.val (vL x)) st h := go_lv fun hx hb hl k => lv_lstore_n hx hb hd rfl hl.has hi rfl fun ls' h' => k ls' (am_lv.st2 hi h')
theorem go_astore {i r : Nat} (hd : decode (am_bytes mid) pc = .ok (.astore i, 2)) (hi : i < lv.length) : Go d N S L xs mid pc lv (vR r :: st) h (pc + 2) (am_st1 lv i (vR r)) st h := go_lv fun {p l e R s m args below meth c H locs cells slots Q ls b z} hx hb hl k => by
  obtain ⟨a, ha⟩ := am_c_ref b z r
  rw [List.map_cons, ha]
  exact lv_astore (x := a) hx hb hd hl.has hi rfl fun ls' h' => k ls' (am_lv.st1 hi (by rw [ha]; exact h'))
theorem go_astore_n {i : Fin 4} {r : Nat} (hd : decode (am_bytes mid) pc = .ok (.astore_n i, 1)) (hi : i.val < lv.length) : Go d N S L xs mid pc lv (vR r :: st) h (pc + 1) (am_st1 lv i.val (vR r)) st h := go_lv fun {p l e R s m args below meth c H locs cells slots Q ls b z} hx hb hl k => by
  obtain ⟨a, ha⟩ := am_c_ref b z r
  rw [List.map_cons, ha]
  exact lv_astore_n (x := a) hx hb hd rfl hl.has hi rfl fun ls' h' => k ls' (am_lv.st1 hi (by rw [ha]; exact h'))
theorem go_iinc {i : Nat} {n x : Int} (hd : decode (am_bytes mid) pc = .ok (.iinc i n, 3)) (hi : lv[i]? = some (some (vI x))) : Go d N S L xs mid pc lv st h (pc + 3) (am_st1 lv i (vI (x + n))) st h := go_lv fun {p l e R s m args below meth c H locs cells slots Q ls b z} hx hb hl k => by
  have hil : i < lv.length := (List.getElem?_eq_some_iff.mp hi).1
  obtain ⟨j, hj⟩ := List.getElem?_of_mem (am_lp_mem (b := b) (z := z) (q := (i, am_c b z (vI x))) |>.mpr ⟨vI x, hi, rfl⟩)
  exact lv_iinc (k := j) (x := Int32.ofInt x) hx hb hd hl.has hj (Int32.ofInt_add x n).symm hil rfl fun ls' h' => k ls' (am_lv.st1 hil h')
theorem go_iadd {x y : Int} (hd : decode (am_bytes mid) pc = .ok (.iadd, 1)) : Go d N S L xs mid pc lv (vI y :: vI x :: st) h (pc + 1) lv (vI (x + y) :: st) h := go_st fun hx hb _ _ _ k => lv_iadd hx hb hd (by rw [← Int32.ofInt_add]; exact k)
theorem go_isub {x y : Int} (hd : decode (am_bytes mid) pc = .ok (.isub, 1)) : Go d N S L xs mid pc lv (vI y :: vI x :: st) h (pc + 1) lv (vI (x - y) :: st) h := go_st fun hx hb _ _ _ k => lv_isub hx hb hd (by rw [← Int32.ofInt_sub]; exact k)
theorem go_imul {x y : Int} (hd : decode (am_bytes mid) pc = .ok (.imul, 1)) : Go d N S L xs mid pc lv (vI y :: vI x :: st) h (pc + 1) lv (vI (x * y) :: st) h := go_st fun hx hb _ _ _ k => lv_imul hx hb hd (by rw [← Int32.ofInt_mul]; exact k)
theorem am_ne0 {y : Int} (h1 : 0 < y) (h2 : y < 2147483648) : ¬ Int32.ofInt y = 0 := by
  rw [am_0, am_eqI ⟨by omega, h2⟩ am_in_0]; omega
theorem go_idiv {x y : Int} (hd : decode (am_bytes mid) pc = .ok (.idiv, 1)) (q : 0 ≤ x ∧ x < 2147483648 ∧ 0 < y ∧ y < 2147483648) : Go d N S L xs mid pc lv (vI y :: vI x :: st) h (pc + 1) lv (vI (x / y) :: st) h := go_st fun hx hb _ _ _ k => lv_idiv hx hb hd (am_ne0 q.2.2.1 q.2.2.2) (by rw [am_div q.1 q.2.1 q.2.2.1 q.2.2.2]; exact k)
theorem go_irem {x y : Int} (hd : decode (am_bytes mid) pc = .ok (.irem, 1)) (q : 0 ≤ x ∧ x < 2147483648 ∧ 0 < y ∧ y < 2147483648) : Go d N S L xs mid pc lv (vI y :: vI x :: st) h (pc + 1) lv (vI (x % y) :: st) h := go_st fun hx hb _ _ _ k => lv_irem hx hb hd (am_ne0 q.2.2.1 q.2.2.2) (by rw [am_rem q.1 q.2.1 q.2.2.1 q.2.2.2]; exact k)
theorem go_ineg {x : Int} (hd : decode (am_bytes mid) pc = .ok (.ineg, 1)) : Go d N S L xs mid pc lv (vI x :: st) h (pc + 1) lv (vI (-x) :: st) h := go_st fun hx hb _ _ _ k => lv_ineg hx hb hd (by rw [← Int32.ofInt_neg]; exact k)
theorem go_iand {x y : Int} (hd : decode (am_bytes mid) pc = .ok (.iand, 1)) : Go d N S L xs mid pc lv (vI y :: vI x :: st) h (pc + 1) lv (vI (am_and x y) :: st) h := go_st fun hx hb _ _ _ k => lv_iand hx hb hd (by rw [← Int32.ofInt_toInt (Int32.ofInt _ &&& Int32.ofInt _)]; exact k)
theorem go_ladd {x y : Int64} (hd : decode (am_bytes mid) pc = .ok (.ladd, 1)) : Go d N S L xs mid pc lv (vL y :: vL x :: st) h (pc + 1) lv (vL (x + y) :: st) h := go_st fun hx hb _ _ _ k => lv_ladd hx hb hd k
theorem go_lsub {x y : Int64} (hd : decode (am_bytes mid) pc = .ok (.lsub, 1)) : Go d N S L xs mid pc lv (vL y :: vL x :: st) h (pc + 1) lv (vL (x - y) :: st) h := go_st fun hx hb _ _ _ k => lv_lsub hx hb hd k
theorem go_lmul {x y : Int64} (hd : decode (am_bytes mid) pc = .ok (.lmul, 1)) : Go d N S L xs mid pc lv (vL y :: vL x :: st) h (pc + 1) lv (vL (x * y) :: st) h := go_st fun hx hb _ _ _ k => lv_lmul hx hb hd k
theorem go_land {x y : Int64} (hd : decode (am_bytes mid) pc = .ok (.land, 1)) : Go d N S L xs mid pc lv (vL y :: vL x :: st) h (pc + 1) lv (vL (x &&& y) :: st) h := go_st fun hx hb _ _ _ k => lv_land hx hb hd k
theorem go_lor {x y : Int64} (hd : decode (am_bytes mid) pc = .ok (.lor, 1)) : Go d N S L xs mid pc lv (vL y :: vL x :: st) h (pc + 1) lv (vL (x ||| y) :: st) h := go_st fun hx hb _ _ _ k => lv_lor hx hb hd k
theorem go_lxor {x y : Int64} (hd : decode (am_bytes mid) pc = .ok (.lxor, 1)) : Go d N S L xs mid pc lv (vL y :: vL x :: st) h (pc + 1) lv (vL (x ^^^ y) :: st) h := go_st fun hx hb _ _ _ k => lv_lxor hx hb hd k
theorem go_lshl {x : Int64} {y : Int} (hd : decode (am_bytes mid) pc = .ok (.lshl, 1)) : Go d N S L xs mid pc lv (vI y :: vL x :: st) h (pc + 1) lv (vL (am_shl x y) :: st) h := go_st fun hx hb _ _ _ k => lv_lshl hx hb hd rfl k
theorem go_lshr {x : Int64} {y : Int} (hd : decode (am_bytes mid) pc = .ok (.lshr, 1)) : Go d N S L xs mid pc lv (vI y :: vL x :: st) h (pc + 1) lv (vL (am_shr x y) :: st) h := go_st fun hx hb _ _ _ k => lv_lshr hx hb hd rfl k
theorem go_lushr {x : Int64} {y : Int} (hd : decode (am_bytes mid) pc = .ok (.lushr, 1)) : Go d N S L xs mid pc lv (vI y :: vL x :: st) h (pc + 1) lv (vL (am_ushr x y) :: st) h := go_st fun hx hb _ _ _ k => lv_lushr hx hb hd rfl k
theorem go_i2l {x : Int} (hd : decode (am_bytes mid) pc = .ok (.i2l, 1)) : Go d N S L xs mid pc lv (vI x :: st) h (pc + 1) lv (vL (am_i2l x) :: st) h := go_st fun hx hb _ _ _ k => lv_i2l hx hb hd rfl k
theorem go_l2i {x : Int64} (hd : decode (am_bytes mid) pc = .ok (.l2i, 1)) : Go d N S L xs mid pc lv (vL x :: st) h (pc + 1) lv (vI (am_l2i x) :: st) h := go_st fun hx hb _ _ _ k => lv_l2i hx hb hd (Int32.ofInt_toInt _).symm k
theorem go_i2b {x : Int} (hd : decode (am_bytes mid) pc = .ok (.i2b, 1)) : Go d N S L xs mid pc lv (vI x :: st) h (pc + 1) lv (vI (am_i2b x) :: st) h := go_st fun hx hb _ _ _ k => lv_i2b hx hb hd (Int32.ofInt_toInt _).symm k
theorem go_lcmp {x y : Int64} (hd : decode (am_bytes mid) pc = .ok (.lcmp, 1)) : Go d N S L xs mid pc lv (vL y :: vL x :: st) h (pc + 1) lv (vI (am_cmp x y) :: st) h := go_st fun hx hb _ _ _ k => W.lcmp hx hb hd (by rw [am_cmp_c]; exact k)
theorem go_dup {v : am_V} (hd : decode (am_bytes mid) pc = .ok (.dup, 1)) (hv : am_cat v = 1) : Go d N S L xs mid pc lv (v :: st) h (pc + 1) lv (v :: v :: st) h := go_st fun hx hb _ _ _ k => lv_dup hx hb hd (by rw [am_c_cat]; exact hv) k
theorem go_pop {v : am_V} (hd : decode (am_bytes mid) pc = .ok (.pop, 1)) (hv : am_cat v = 1) : Go d N S L xs mid pc lv (v :: st) h (pc + 1) lv st h := go_st fun hx hb _ _ _ k => lv_pop hx hb hd (by rw [am_c_cat]; exact hv) k
theorem go_dup_x1 {v w : am_V} (hd : decode (am_bytes mid) pc = .ok (.dup_x1, 1)) (hv : am_cat v = 1) (hw : am_cat w = 1) : Go d N S L xs mid pc lv (v :: w :: st) h (pc + 1) lv (v :: w :: v :: st) h := go_st fun hx hb _ _ _ k => lv_dup_x1 hx hb hd (by rw [am_c_cat]; exact hv) (by rw [am_c_cat]; exact hw) k
theorem go_dup_x2 {v w u : am_V} (hd : decode (am_bytes mid) pc = .ok (.dup_x2, 1)) (hv : am_cat v = 1) (hw : am_cat w = 1) (hu : am_cat u = 1) : Go d N S L xs mid pc lv (v :: w :: u :: st) h (pc + 1) lv (v :: w :: u :: v :: st) h := go_st fun hx hb _ _ _ k => lv_dup_x2 hx hb hd (by rw [am_c_cat]; exact hv) (by rw [am_c_cat]; exact hw) (by rw [am_c_cat]; exact hu) k
theorem go_dup2_11 {v w : am_V} (hd : decode (am_bytes mid) pc = .ok (.dup2, 1)) (hv : am_cat v = 1) (hw : am_cat w = 1) : Go d N S L xs mid pc lv (v :: w :: st) h (pc + 1) lv (v :: w :: v :: w :: st) h := go_st fun hx hb _ _ _ k => lv_dup2_11 hx hb hd (by rw [am_c_cat]; exact hv) (by rw [am_c_cat]; exact hw) k
theorem go_dup2_2 {x : Int64} (hd : decode (am_bytes mid) pc = .ok (.dup2, 1)) : Go d N S L xs mid pc lv (vL x :: st) h (pc + 1) lv (vL x :: vL x :: st) h := go_st fun hx hb _ _ _ k => lv_dup2_2 hx hb hd rfl k
theorem go_goto {off : Int} {tgt : Nat} (hd : decode (am_bytes mid) pc = .ok (.goto off, 3)) (ht : (pc : Int) + off = (tgt : Int)) : Go d N S L xs mid pc lv st h tgt lv st h := go_st fun hx hb _ _ _ k => lv_goto hx hb hd ht k
/-! branches -/
def am_cond (c : Jvm.ClassFile.Cond) (x y : Int) : Prop := match c with
  | .eq => x = y
  | .ne => ¬ x = y
  | .lt => x < y
  | .ge => y ≤ x
  | .gt => y < x
  | .le => x ≤ y
theorem go_if {c : Jvm.ClassFile.Cond} {x off : Int} {tgt pc' : Nat} (hd : decode (am_bytes mid) pc = .ok (.ifCond c off, 3)) (ht : (pc : Int) + off = (tgt : Int)) (hx : am_in x) (hc : (am_cond c x 0 ∧ pc' = tgt) ∨ (¬ am_cond c x 0 ∧ pc' = pc + 3)) : Go d N S L xs mid pc lv (vI x :: st) h pc' lv st h := by
  have e := am_eqI hx am_in_0
  have e1 := am_ltI hx am_in_0
  have e2 := am_leI am_in_0 hx
  have e3 := am_ltI am_in_0 hx
  have e4 := am_leI hx am_in_0
  rw [← am_0] at e e1 e2 e3 e4
  refine go_st fun hx hb _ _ _ k => ?_
  cases c
  · refine lv_if_eq hx hb hd ht (fun q => ?_) (fun q => ?_)
    · rcases hc with ⟨-, rfl⟩ | ⟨h1, rfl⟩
      · exact k
      · exact absurd (e.mp q) h1
    · rcases hc with ⟨h1, rfl⟩ | ⟨-, rfl⟩
      · exact absurd (e.mpr h1) q
      · exact k
  · refine lv_if_ne hx hb hd ht (fun q => ?_) (fun q => ?_)
    · rcases hc with ⟨-, rfl⟩ | ⟨h1, rfl⟩
      · exact k
      · exact absurd (fun y => q (e.mpr y)) h1
    · rcases hc with ⟨h1, rfl⟩ | ⟨-, rfl⟩
      · exact absurd (e.mp q) h1
      · exact k
  · refine lv_if_lt hx hb hd ht (fun q => ?_) (fun q => ?_)
    · rcases hc with ⟨-, rfl⟩ | ⟨h1, rfl⟩
      · exact k
      · exact absurd (e1.mp q) h1
    · rcases hc with ⟨h1, rfl⟩ | ⟨-, rfl⟩
      · exact absurd (e1.mpr h1) q
      · exact k
  · refine lv_if_ge hx hb hd ht (fun q => ?_) (fun q => ?_)
    · rcases hc with ⟨-, rfl⟩ | ⟨h1, rfl⟩
      · exact k
      · exact absurd (e2.mp q) h1
    · rcases hc with ⟨h1, rfl⟩ | ⟨-, rfl⟩
      · exact absurd (e2.mpr h1) q
      · exact k
  · refine lv_if_gt hx hb hd ht (fun q => ?_) (fun q => ?_)
    · rcases hc with ⟨-, rfl⟩ | ⟨h1, rfl⟩
      · exact k
      · exact absurd (e3.mp q) h1
    · rcases hc with ⟨h1, rfl⟩ | ⟨-, rfl⟩
      · exact absurd (e3.mpr h1) q
      · exact k
  · refine lv_if_le hx hb hd ht (fun q => ?_) (fun q => ?_)
    · rcases hc with ⟨-, rfl⟩ | ⟨h1, rfl⟩
      · exact k
      · exact absurd (e4.mp q) h1
    · rcases hc with ⟨h1, rfl⟩ | ⟨-, rfl⟩
      · exact absurd (e4.mpr h1) q
      · exact k
theorem go_icmp {c : Jvm.ClassFile.Cond} {x y off : Int} {tgt pc' : Nat} (hd : decode (am_bytes mid) pc = .ok (.if_icmp c off, 3)) (ht : (pc : Int) + off = (tgt : Int)) (hx : am_in x) (hy : am_in y) (hc : (am_cond c x y ∧ pc' = tgt) ∨ (¬ am_cond c x y ∧ pc' = pc + 3)) : Go d N S L xs mid pc lv (vI y :: vI x :: st) h pc' lv st h := by
  have e := am_eqI hx hy
  have e1 := am_ltI hx hy
  have e2 := am_leI hy hx
  have e3 := am_ltI hy hx
  have e4 := am_leI hx hy
  refine go_st fun hx hb _ _ _ k => ?_
  cases c
  · refine lv_icmp_eq hx hb hd ht (fun q => ?_) (fun q => ?_)
    · rcases hc with ⟨-, rfl⟩ | ⟨h1, rfl⟩
      · exact k
      · exact absurd (e.mp q) h1
    · rcases hc with ⟨h1, rfl⟩ | ⟨-, rfl⟩
      · exact absurd (e.mpr h1) q
      · exact k
  · refine lv_icmp_ne hx hb hd ht (fun q => ?_) (fun q => ?_)
    · rcases hc with ⟨-, rfl⟩ | ⟨h1, rfl⟩
      · exact k
      · exact absurd (fun y => q (e.mpr y)) h1
    · rcases hc with ⟨h1, rfl⟩ | ⟨-, rfl⟩
      · exact absurd (e.mp q) h1
      · exact k
  · refine lv_icmp_lt hx hb hd ht (fun q => ?_) (fun q => ?_)
    · rcases hc with ⟨-, rfl⟩ | ⟨h1, rfl⟩
      · exact k
      · exact absurd (e1.mp q) h1
    · rcases hc with ⟨h1, rfl⟩ | ⟨-, rfl⟩
      · exact absurd (e1.mpr h1) q
      · exact k
  · refine lv_icmp_ge hx hb hd ht (fun q => ?_) (fun q => ?_)
    · rcases hc with ⟨-, rfl⟩ | ⟨h1, rfl⟩
      · exact k
      · exact absurd (e2.mp q) h1
    · rcases hc with ⟨h1, rfl⟩ | ⟨-, rfl⟩
      · exact absurd (e2.mpr h1) q
      · exact k
  · refine lv_icmp_gt hx hb hd ht (fun q => ?_) (fun q => ?_)
    · rcases hc with ⟨-, rfl⟩ | ⟨h1, rfl⟩
      · exact k
      · exact absurd (e3.mp q) h1
    · rcases hc with ⟨h1, rfl⟩ | ⟨-, rfl⟩
      · exact absurd (e3.mpr h1) q
      · exact k
  · refine lv_icmp_le hx hb hd ht (fun q => ?_) (fun q => ?_)
    · rcases hc with ⟨-, rfl⟩ | ⟨h1, rfl⟩
      · exact k
      · exact absurd (e4.mp q) h1
    · rcases hc with ⟨h1, rfl⟩ | ⟨-, rfl⟩
      · exact absurd (e4.mpr h1) q
      · exact k
theorem go_tabIn {dflt lo hi x off : Int} {offs : Array Int} {len tgt : Nat} (hd : decode (am_bytes mid) pc = .ok (.tableswitch dflt lo hi offs, len)) (hx : am_in x) (h1 : lo ≤ x) (h2 : x ≤ hi) (ho : offs[(x - lo).toNat]? = some off) (ht : (pc : Int) + off = (tgt : Int)) : Go d N S L xs mid pc lv (vI x :: st) h tgt lv st h :=
  go_st fun h0 hb _ _ _ k => lv_tableIn (x := Int32.ofInt x) h0 hb hd (by rw [am_in_toInt hx]; omega) (by rw [am_in_toInt hx]; omega) (by rw [am_in_toInt hx]; exact ho) ht k
theorem go_tabOut {dflt lo hi x : Int} {offs : Array Int} {len tgt : Nat} (hd : decode (am_bytes mid) pc = .ok (.tableswitch dflt lo hi offs, len)) (hx : am_in x) (h1 : x < lo ∨ hi < x) (ht : (pc : Int) + dflt = (tgt : Int)) : Go d N S L xs mid pc lv (vI x :: st) h tgt lv st h :=
  go_st fun h0 hb _ _ _ k => lv_tableOut (x := Int32.ofInt x) h0 hb hd (by rw [am_in_toInt hx]; exact h1) ht k
theorem go_look {dflt x off : Int} {ps : Array (Int × Int)} {len tgt : Nat} (hd : decode (am_bytes mid) pc = .ok (.lookupswitch dflt ps, len)) (hx : am_in x) (hp : (ps.toList.zip (ps.toList.drop 1)).all (fun (a, next) => a.1 < next.1) = true) (ho : Op.lookupswitch.offset ps.toList dflt x = off) (ht : (pc : Int) + off = (tgt : Int)) : Go d N S L xs mid pc lv (vI x :: st) h tgt lv st h :=
  go_st fun h0 hb _ _ _ k => lv_lookup (x := Int32.ofInt x) h0 hb hd hp (by rw [am_in_toInt hx]; exact ho) ht k
end GO
end
section
/-! fields, arrays, new cells -/
def am_fw (own : String) (idx : Nat) (C : String) (T : u_T) (k : Nat) : Prop := (T k).1 = C ∧ Jvm.Cond.fieldLink own idx C (T k).2.1 (T k).2.2.1 ∈ am_TS
section GH
variable {d N S L : Nat} {xs : Nat → Int} {mid : am_M} {pc : Nat} {lv : am_L} {st : List am_V} {h : am_H}
theorem go_get {idx ci k r nF : Nat} {C : String} {T : u_T} {fs : List am_V} {v : am_V} (hd : decode (am_bytes mid) pc = .ok (.getfield idx, 3)) (hc : am_cl[ci]? = some (C, T, nF)) (hk : k < nF) (hw : am_fw (am_own mid) idx C T k) (hr : h[r]? = some (.inr (ci, fs))) (hv : fs[k]? = some v) : Go d N S L xs mid pc lv (vR (r + 1) :: st) h (pc + 3) lv (v :: st) h := by
  intro p l e R s m args below meth c Q b z n0 s0 tA D X kk H locs ls cells slots hl hP hS hc1 hs
  obtain ⟨hx, hb, hml, hown, hts, hK, -⟩ := X
  have hv' : (fs.map (am_c b z))[k]? = some (am_c b z v) := by rw [List.getElem?_map, hv]; rfl
  obtain ⟨hT, hw⟩ := hw
  exact va_get (v := am_c b z v) hx hb hts (am_cl_ws hc) hown hK hP r (am_cw_at hr) hc k hk (hts _ hw) (fun x hx => by rw [hT] at hx; exact hx) hv' hd (kk H locs ls cells slots hl hP hS hc1 hs)
def am_fit (ty : FieldType) (v : am_V) : Prop := match ty, v with
  | .int, .inl _ => True
  | .boolean, .inl z => z = 0 ∨ z = 1
  | .long, .inr (.inl _) => True
  | .object _, .inr (.inr _) => True
  | .array _, .inr (.inr _) => True
  | _, _ => False
theorem am_fit_ok {b z : Nat} {ty : FieldType} {v : am_V} (h : am_fit ty v) : narrow ty (am_c b z v) = am_c b z v ∧ fits ty (am_c b z v) = true := by
  match ty, v, h with
  | .int, .inl _, _ => exact ⟨rfl, rfl⟩
  | .boolean, .inl z, h =>
    rcases h with rfl | rfl
    · exact ⟨show narrow FieldType.boolean (Value.int (Int32.ofInt 0)) = Value.int (Int32.ofInt 0) by decide, show fits FieldType.boolean (Value.int (Int32.ofInt 0)) = true by decide⟩
    · exact ⟨show narrow FieldType.boolean (Value.int (Int32.ofInt 1)) = Value.int (Int32.ofInt 1) by decide, show fits FieldType.boolean (Value.int (Int32.ofInt 1)) = true by decide⟩
  | .long, .inr (.inl _), _ => exact ⟨rfl, rfl⟩
  | .object _, .inr (.inr none), _ => exact ⟨rfl, rfl⟩
  | .object _, .inr (.inr (some 0)), _ => exact ⟨rfl, rfl⟩
  | .object _, .inr (.inr (some (_ + 1))), _ => exact ⟨rfl, rfl⟩
  | .array _, .inr (.inr none), _ => exact ⟨rfl, rfl⟩
  | .array _, .inr (.inr (some 0)), _ => exact ⟨rfl, rfl⟩
  | .array _, .inr (.inr (some (_ + 1))), _ => exact ⟨rfl, rfl⟩
theorem am_setO (b z : Nat) (tA : FieldType → ClassId) (h : am_H) (r ci k : Nat) (fs : List am_V) (v : am_V) : (am_cw b z tA 0 h).set r (z + r, .inr (ci, (fs.map (am_c b z)).set k (am_c b z v))) = am_cw b z tA 0 (h.set r (.inr (ci, fs.set k v))) := by
  have e := am_cw_set0 b z tA (.inr (ci, fs.set k v)) h r
  rw [← e]
  show _ = (am_cw b z tA 0 h).set r (z + r, .inr (ci, (fs.set k v).map (am_c b z)))
  rw [List.map_set]
theorem go_put {idx ci k r nF : Nat} {C : String} {T : u_T} {fs : List am_V} {v : am_V} (hd : decode (am_bytes mid) pc = .ok (.putfield idx, 3)) (hc : am_cl[ci]? = some (C, T, nF)) (hk : k < nF) (hw : am_fw (am_own mid) idx C T k) (hfin : (T k).2.2.2 = true → am_init mid = true ∧ C = am_own mid) (hr : h[r]? = some (.inr (ci, fs))) (hl0 : k < fs.length) (hf : am_fit (am_fty ci k) v) : Go d N S L xs mid pc lv (v :: vR (r + 1) :: st) h (pc + 3) lv st (h.set r (.inr (ci, fs.set k v))) := by
  intro p l e R s m args below meth c Q b z n0 s0 tA D X kk H locs ls cells slots hl hP hS hc1 hs
  obtain ⟨hx, hb, hml, hown, hts, hK, hz, hini, -⟩ := X
  have hl1 : k < (fs.map (am_c b z)).length := by rw [List.length_map]; exact hl0
  have hlen : (h.set r (.inr (ci, fs.set k v))).length = n0 + cells ∧ (h.set r (.inr (ci, fs.set k v))).length ≤ N := by rw [List.length_set]; exact hc1
  have hsl := am_sl_set3 h r (.inr (ci, fs.set k v)) _ hr (by simp [am_sz]) hs
  obtain ⟨hn, hf2⟩ := am_fit_ok (b := b) (z := z) hf
  obtain ⟨hT, hw⟩ := hw
  by_cases hF : (T k).2.2.2 = true
  · obtain ⟨h1, h2⟩ := hfin hF
    exact va_putF (v := am_c b z v) (ty := am_fty ci k) hx hb hts (am_cl_ws hc) (am_fty ci) (am_cl_ty hc) (am_cl_nm hc) hown hK hP (am_cw_D b z tA h) hS r (am_cw_at hr) hc k hk (hts _ hw) (fun x hx => by rw [hT] at hx; exact hx) hF (hini h1) (by rw [hT]; exact h2) (am_cl_ty hc k hk) hn hf2 hl1 hd
      (fun H1 locs1 hP1 _ hS1 => kk H1 locs1 ls cells slots hl (by rw [← am_setO]; exact hP1) hS1 hlen hsl)
  · have hF : (T k).2.2.2 = false := by simpa using hF
    exact va_put (v := am_c b z v) (ty := am_fty ci k) hx hb hts (am_cl_ws hc) (am_fty ci) (am_cl_ty hc) (am_cl_nm hc) hown hK hP (am_cw_D b z tA h) hS r (am_cw_at hr) hc k hk (hts _ hw) (fun x hx => by rw [hT] at hx; exact hx) hF (am_cl_ty hc k hk) hn hf2 hl1 hd
      (fun H1 locs1 hP1 _ hS1 => kk H1 locs1 ls cells slots hl (by rw [← am_setO]; exact hP1) hS1 hlen hsl)
/-- a place in an array -/
def am_ix (i : Int) (n : Nat) : Prop := 0 ≤ i ∧ i < n ∧ (n : Int) < 2147483648
theorem go_iald {r n : Nat} {f : Nat → Int} {i : Int} (hd : decode (am_bytes mid) pc = .ok (.iaload, 1)) (hr : h[r]? = some (.inl (.int, n, .inl f))) (hi : am_ix i n) : Go d N S L xs mid pc lv (vI i :: vR (r + 1) :: st) h (pc + 1) lv (vI (f i.toNat) :: st) h := by
  intro p l e R s m args below meth c Q b z n0 s0 tA D X kk H locs ls cells slots hl hP hS hc1 hs
  obtain ⟨hx, hb, hml, hown, hts, hK, -⟩ := X
  refine va_iald hx hb hK hP r 0 (am_cw_at hr) rfl (am_vpin hi.1 hi.2.1 hi.2.2) hd ?_
  rw [am_clamp hi.1 (by have := hi.2.1; have := hi.2.2; omega)]
  exact kk H locs ls cells slots hl hP hS hc1 hs
theorem go_lald {r n : Nat} {f : Nat → Int64} {i : Int} (hd : decode (am_bytes mid) pc = .ok (.laload, 1)) (hr : h[r]? = some (.inl (.long, n, .inr f))) (hi : am_ix i n) : Go d N S L xs mid pc lv (vI i :: vR (r + 1) :: st) h (pc + 1) lv (vL (f i.toNat) :: st) h := by
  intro p l e R s m args below meth c Q b z n0 s0 tA D X kk H locs ls cells slots hl hP hS hc1 hs
  obtain ⟨hx, hb, hml, hown, hts, hK, -⟩ := X
  refine va_lald hx hb hK hP r 1 (am_cw_at hr) rfl (am_vpin hi.1 hi.2.1 hi.2.2) hd ?_
  rw [am_clamp hi.1 (by have := hi.2.1; have := hi.2.2; omega)]
  exact kk H locs ls cells slots hl hP hS hc1 hs
theorem go_bald {r n : Nat} {f : Nat → Int} {i : Int} (hd : decode (am_bytes mid) pc = .ok (.baload, 1)) (hr : h[r]? = some (.inl (.byte, n, .inl f))) (hi : am_ix i n) : Go d N S L xs mid pc lv (vI i :: vR (r + 1) :: st) h (pc + 1) lv (vI (f i.toNat) :: st) h := by
  intro p l e R s m args below meth c Q b z n0 s0 tA D X kk H locs ls cells slots hl hP hS hc1 hs
  obtain ⟨hx, hb, hml, hown, hts, hK, -⟩ := X
  refine va_bald hx hb hK hP r 2 (am_cw_at hr) rfl (am_vpin hi.1 hi.2.1 hi.2.2) hd ?_
  rw [am_clamp hi.1 (by have := hi.2.1; have := hi.2.2; omega)]
  exact kk H locs ls cells slots hl hP hS hc1 hs
theorem go_zald {r n : Nat} {f : Nat → Int} {i : Int} (hd : decode (am_bytes mid) pc = .ok (.baload, 1)) (hr : h[r]? = some (.inl (.boolean, n, .inl f))) (hi : am_ix i n) : Go d N S L xs mid pc lv (vI i :: vR (r + 1) :: st) h (pc + 1) lv (vI (f i.toNat) :: st) h := by
  intro p l e R s m args below meth c Q b z n0 s0 tA D X kk H locs ls cells slots hl hP hS hc1 hs
  obtain ⟨hx, hb, hml, hown, hts, hK, -⟩ := X
  refine va_zald hx hb hK hP r 3 (am_cw_at hr) rfl (am_vpin hi.1 hi.2.1 hi.2.2) hd ?_
  rw [am_clamp hi.1 (by have := hi.2.1; have := hi.2.2; omega)]
  exact kk H locs ls cells slots hl hP hS hc1 hs
theorem go_sald {i : Int} (hm : am_law mid = true) (hd : decode (am_bytes mid) pc = .ok (.iaload, 1)) (hi : am_ix i L) : Go d N S L xs mid pc lv (vI i :: vR 0 :: st) h (pc + 1) lv (vI (xs i.toNat) :: st) h := by
  intro p l e R s m args below meth c Q b z n0 s0 tA D X kk H locs ls cells slots hl hP hS hc1 hs
  obtain ⟨hx, hb, hml, hown, hts, hK, hz, hini, hf, hlo, hN, hSS, hscr⟩ := X
  obtain ⟨⟨ys, hX, hy⟩, hbz⟩ := hscr hm
  have hlt : i.toNat < L := by have := hi.1; have := hi.2.1; omega
  refine va_sld (A := fun q => z ≤ q) hx hb hX (by omega) (by omega) hS (am_vpin hi.1 hi.2.1 hi.2.2) hd ?_
  rw [am_clamp hi.1 (by have := hi.2.1; have := hi.2.2; omega), hy _ hlt]
  exact kk H locs ls cells slots hl hP hS hc1 hs
theorem am_setI (b z : Nat) (tA : FieldType → ClassId) (h : am_H) (r n k : Nat) (ty : FieldType) (f : Nat → Int) (x : Int) : (am_cw b z tA 0 h).set r (z + r, .inl (tA ty, n, .inl (upd (fun j => Int32.ofInt (f j)) k (Int32.ofInt x)))) = am_cw b z tA 0 (h.set r (.inl (ty, n, .inl (am_upd f k x)))) := by
  have e := am_cw_set0 b z tA (.inl (ty, n, .inl (am_upd f k x))) h r
  rw [← e]
  show _ = (am_cw b z tA 0 h).set r (z + r, .inl (tA ty, n, .inl (fun j => Int32.ofInt (am_upd f k x j))))
  rw [am_upd_i]
theorem go_iast {r n : Nat} {f : Nat → Int} {i x : Int} (hd : decode (am_bytes mid) pc = .ok (.iastore, 1)) (hr : h[r]? = some (.inl (.int, n, .inl f))) (hi : am_ix i n) : Go d N S L xs mid pc lv (vI x :: vI i :: vR (r + 1) :: st) h (pc + 1) lv st (h.set r (.inl (.int, n, .inl (am_upd f i.toNat x)))) := by
  intro p l e R s m args below meth c Q b z n0 s0 tA D X kk H locs ls cells slots hl hP hS hc1 hs
  obtain ⟨hx, hb, hml, hown, hts, hK, -⟩ := X
  refine va_iast hx hb hK hP (am_cw_D b z tA h) hS r 0 (am_cw_at hr) rfl (am_vpin hi.1 hi.2.1 hi.2.2) hd (fun H1 locs1 hP1 _ hS1 => ?_)
  rw [am_clamp hi.1 (by have := hi.2.1; have := hi.2.2; omega)] at hP1
  exact kk H1 locs1 ls cells slots hl (by rw [← am_setI]; exact hP1) hS1 (by rw [List.length_set]; exact hc1) (am_sl_set3 h r _ _ hr (by rfl) hs)
theorem go_last {r n : Nat} {f : Nat → Int64} {i : Int} {x : Int64} (hd : decode (am_bytes mid) pc = .ok (.lastore, 1)) (hr : h[r]? = some (.inl (.long, n, .inr f))) (hi : am_ix i n) : Go d N S L xs mid pc lv (vL x :: vI i :: vR (r + 1) :: st) h (pc + 1) lv st (h.set r (.inl (.long, n, .inr (am_upd f i.toNat x)))) := by
  intro p l e R s m args below meth c Q b z n0 s0 tA D X kk H locs ls cells slots hl hP hS hc1 hs
  obtain ⟨hx, hb, hml, hown, hts, hK, -⟩ := X
  refine va_last hx hb hK hP (am_cw_D b z tA h) hS r 1 (am_cw_at hr) rfl (am_vpin hi.1 hi.2.1 hi.2.2) hd (fun H1 locs1 hP1 _ hS1 => ?_)
  rw [am_clamp hi.1 (by have := hi.2.1; have := hi.2.2; omega)] at hP1
  exact kk H1 locs1 ls cells slots hl (by rw [← am_cw_set0]; exact hP1) hS1 (by rw [List.length_set]; exact hc1) (am_sl_set3 h r _ _ hr (by rfl) hs)
theorem am_nar_b {x : Int} (h1 : -128 ≤ x) (h2 : x ≤ 127) : vp_nar .byte (Int32.ofInt x) = Int32.ofInt x := by
  rw [vp_nar_byte, Int32.toInt8_ofInt, Int8.toInt32_ofInt h1 h2]
theorem am_nar_z {x : Int} (h : x = 0 ∨ x = 1) : vp_nar .boolean (Int32.ofInt x) = Int32.ofInt x := by
  rcases h with rfl | rfl <;> decide
theorem go_bast {r n : Nat} {f : Nat → Int} {i x : Int} (hd : decode (am_bytes mid) pc = .ok (.bastore, 1)) (hr : h[r]? = some (.inl (.byte, n, .inl f))) (hi : am_ix i n) (hx1 : -128 ≤ x ∧ x ≤ 127) : Go d N S L xs mid pc lv (vI x :: vI i :: vR (r + 1) :: st) h (pc + 1) lv st (h.set r (.inl (.byte, n, .inl (am_upd f i.toNat x)))) := by
  intro p l e R s m args below meth c Q b z n0 s0 tA D X kk H locs ls cells slots hl hP hS hc1 hs
  obtain ⟨hx, hb, hml, hown, hts, hK, -⟩ := X
  refine va_bast hx hb hK hP (am_cw_D b z tA h) hS r 2 (am_cw_at hr) rfl (am_vpin hi.1 hi.2.1 hi.2.2) hd (fun H1 locs1 hP1 _ hS1 => ?_)
  rw [am_clamp hi.1 (by have := hi.2.1; have := hi.2.2; omega), am_nar_b hx1.1 hx1.2] at hP1
  exact kk H1 locs1 ls cells slots hl (by rw [← am_setI]; exact hP1) hS1 (by rw [List.length_set]; exact hc1) (am_sl_set3 h r _ _ hr (by rfl) hs)
theorem go_zast {r n : Nat} {f : Nat → Int} {i x : Int} (hd : decode (am_bytes mid) pc = .ok (.bastore, 1)) (hr : h[r]? = some (.inl (.boolean, n, .inl f))) (hi : am_ix i n) (hx1 : x = 0 ∨ x = 1) : Go d N S L xs mid pc lv (vI x :: vI i :: vR (r + 1) :: st) h (pc + 1) lv st (h.set r (.inl (.boolean, n, .inl (am_upd f i.toNat x)))) := by
  intro p l e R s m args below meth c Q b z n0 s0 tA D X kk H locs ls cells slots hl hP hS hc1 hs
  obtain ⟨hx, hb, hml, hown, hts, hK, -⟩ := X
  refine va_zast hx hb hK hP (am_cw_D b z tA h) hS r 3 (am_cw_at hr) rfl (am_vpin hi.1 hi.2.1 hi.2.2) hd (fun H1 locs1 hP1 _ hS1 => ?_)
  rw [am_clamp hi.1 (by have := hi.2.1; have := hi.2.2; omega), am_nar_z hx1] at hP1
  exact kk H1 locs1 ls cells slots hl (by rw [← am_setI]; exact hP1) hS1 (by rw [List.length_set]; exact hc1) (am_sl_set3 h r _ _ hr (by rfl) hs)
def am_tyN (ty : FieldType) : Option Nat := match ty with
  | .int => some 0
  | .long => some 1
  | .byte => some 2
  | .boolean => some 3
  | _ => none
theorem am_tyN_ok {tA : FieldType → ClassId} {ty : FieldType} {t0 : Nat} (h : am_tyN ty = some t0) : (am_tys tA)[t0]? = some (tA ty, ty) := by
  cases ty <;> simp [am_tyN] at h <;> subst h <;> rfl
theorem go_alen {r n : Nat} {ty : FieldType} {F : am_F} {t0 : Nat} (hd : decode (am_bytes mid) pc = .ok (.arraylength, 1)) (ht : am_tyN ty = some t0) (hr : h[r]? = some (.inl (ty, n, F))) : Go d N S L xs mid pc lv (vR (r + 1) :: st) h (pc + 1) lv (vI n :: st) h := by
  intro p l e R s m args below meth c Q b z n0 s0 tA D X kk H locs ls cells slots hl hP hS hc1 hs
  obtain ⟨hx, hb, hml, hown, hts, hK, -⟩ := X
  rcases F with f | f
  · exact va_alen hx hb hK hP r t0 (am_cw_at hr) (am_tyN_ok ht) (v := Int32.ofInt n) (Int32.ofInt_eq_ofNat).symm hd (kk H locs ls cells slots hl hP hS hc1 hs)
  · exact va_alen hx hb hK hP r t0 (am_cw_at hr) (am_tyN_ok ht) (v := Int32.ofInt n) (Int32.ofInt_eq_ofNat).symm hd (kk H locs ls cells slots hl hP hS hc1 hs)
theorem go_slen (hm : am_law mid = true) (hd : decode (am_bytes mid) pc = .ok (.arraylength, 1)) : Go d N S L xs mid pc lv (vR 0 :: st) h (pc + 1) lv (vI L :: st) h := by
  intro p l e R s m args below meth c Q b z n0 s0 tA D X kk H locs ls cells slots hl hP hS hc1 hs
  obtain ⟨hx, hb, hml, hown, hts, hK, hz, hini, hf, hlo, hN, hSS, hscr⟩ := X
  obtain ⟨⟨ys, hX, hy⟩, hbz⟩ := hscr hm
  refine va_slen (A := fun q => z ≤ q) hx hb hX (by omega) (by omega) hS hd ?_
  rw [← Int32.ofInt_eq_ofNat]
  exact kk H locs ls cells slots hl hP hS hc1 hs
/-- the place of a new cell -/
theorem am_newq {b z : Nat} {tA : FieldType → ClassId} {D : va_G} {H1 : Heap} {q : Nat} {e : va_E} {h : am_H} (hP1 : va_P D am_cl (am_cw b z tA 0 h ++ [(q, e)]) H1) (hD1 : va_D (fun q => z ≤ q) (am_cw b z tA 0 h ++ [(q, e)])) (hsz : H1.size ≤ z + h.length + 1) : q = z + h.length := by
  have hlast : (am_cw b z tA 0 h ++ [(q, e)])[h.length]? = some (q, e) := by
    rw [List.getElem?_append_right (by rw [am_cw_len]; exact Nat.le_refl _), am_cw_len]; simp
  have h1 : q < H1.size := (hP1 _ _ hlast).lt
  have h2 : z ≤ q := hD1.2 _ _ hlast
  by_cases h3 : q = z + h.length
  · exact h3
  · exfalso
    have hi : q - z < h.length := by omega
    have hg : h[q - z]? = some h[q - z] := List.getElem?_eq_getElem hi
    have h4 : (am_cw b z tA 0 h ++ [(q, e)])[q - z]? = some (z + (q - z), am_ce b z tA h[q - z]) := by
      rw [List.getElem?_append_left (by rw [am_cw_len]; exact hi)]
      exact am_cw_at hg
    have h5 := hD1.1 _ _ _ _ h4 hlast (by show z + (q - z) = q; omega)
    omega
theorem go_new {idx ci nF : Nat} {C : String} {T : u_T} (hd : decode (am_bytes mid) pc = .ok (.new idx, 3)) (hc : am_cl[ci]? = some (C, T, nF)) (hw : Jvm.Cond.classLink (am_own mid) idx C ∈ am_TS) (hN : h.length + 1 ≤ N) (hS1 : am_sl h + nF ≤ S) : Go d N S L xs mid pc lv st h (pc + 3) lv (vR (h.length + 1) :: st) (h ++ [.inr (ci, am_dfl ci)]) := by
  intro p l e R s m args below meth c Q b z n0 s0 tA D X kk H locs ls cells slots hl hP hS hc1 hs
  obtain ⟨hx, hb, hml, hown, hts, hK, hz, hini, hf, hlo, hNN, hSS, hscr⟩ := X
  refine va_new hx hb hts (am_cl_ws hc) (am_fty ci) (am_cl_ty hc) hown (hts _ hw) (hts _ (am_cl_inst hc)) (hts _ (am_cl_ini hc)) hK hP (am_cw_D b z tA h) hS (fun q hq => by rw [hz] at hq; omega) hc (fs := (am_dfl ci).map (am_c b z)) (am_cl_dfl b z hc) (by omega) (by omega) hd (fun q H1 hP1 hD1 hS1 => ?_)
  refine am_size (fun hsz => ?_)
  have hq : q = z + h.length := am_newq hP1 hD1 (by omega)
  subst hq
  have e0 := am_cw_app b z tA (.inr (ci, am_dfl ci)) h 0
  rw [Nat.zero_add] at e0
  exact kk H1 locs ls (cells + 1) (slots + nF) hl (by rw [e0]; exact hP1) hS1 ⟨by simp; omega, by simp; omega⟩ (by rw [am_sl_app, show am_sz (.inr (ci, am_dfl ci)) = nF from am_cl_len hc]; omega)
def am_at (a : ArrayType) : Option (FieldType × am_F) := match a with
  | .int => some (.int, .inl (fun _ => 0))
  | .long => some (.long, .inr (fun _ => 0))
  | .byte => some (.byte, .inl (fun _ => 0))
  | .boolean => some (.boolean, .inl (fun _ => 0))
  | _ => none
theorem am_at_ok {a : ArrayType} {ty : FieldType} {F : am_F} (h : am_at a = some (ty, F)) : newarray.typeOf a = ty ∧ (∃ t0, am_tyN ty = some t0) ∧ componentBytes ty ≤ 8 ∧ Jvm.Cond.arrayClass ty ∈ am_TS ∧ ∀ (b z n : Nat) (tA : FieldType → ClassId) (cA : ClassId), ∃ a0 : vp_A, am_ce b z tA (.inl (ty, n, F)) = .inl (tA ty, a0) ∧ vp_cell cA a0 = arrV cA n (fun _ => defaultValue ty) := by
  cases a <;> simp [am_at] at h <;> obtain ⟨rfl, rfl⟩ := h
  · exact ⟨rfl, ⟨_, rfl⟩, by decide, am_TS_z, fun b z n tA cA => ⟨_, rfl, rfl⟩⟩
  · exact ⟨rfl, ⟨_, rfl⟩, by decide, am_TS_b, fun b z n tA cA => ⟨_, rfl, rfl⟩⟩
  · exact ⟨rfl, ⟨_, rfl⟩, by decide, am_TS_i, fun b z n tA cA => ⟨_, rfl, rfl⟩⟩
  · exact ⟨rfl, ⟨_, rfl⟩, by decide, am_TS_l, fun b z n tA cA => ⟨_, rfl, rfl⟩⟩
theorem go_newa {a : ArrayType} {ty : FieldType} {F : am_F} {n : Int} (hd : decode (am_bytes mid) pc = .ok (.newarray a, 2)) (ha : am_at a = some (ty, F)) (hn : 0 ≤ n ∧ n < 10000) (hN : h.length + 1 ≤ N) (hS1 : am_sl h + n.toNat ≤ S) : Go d N S L xs mid pc lv (vI n :: st) h (pc + 2) lv (vR (h.length + 1) :: st) (h ++ [.inl (ty, n.toNat, F)]) := by
  intro p l e R s m args below meth c Q b z n0 s0 tA D X kk H locs ls cells slots hl hP hS hc1 hs
  obtain ⟨hx, hb, hml, hown, hts, hK, hz, hini, hf, hlo, hNN, hSS, hscr⟩ := X
  obtain ⟨hty, ⟨t0, ht0⟩, hcb, hac, hcell⟩ := am_at_ok ha
  obtain ⟨a0, hce, -⟩ := hcell b z n.toNat tA 0
  have ha0 : ∀ cA : ClassId, vp_cell cA a0 = arrV cA n.toNat (fun _ => defaultValue ty) := by
    intro cA
    obtain ⟨a1, h1, h2⟩ := hcell b z n.toNat tA cA
    have e1 := hce.symm.trans h1
    cases e1
    exact h2
  refine va_newa (a0 := a0) (N' := n.toNat) hx hb (by rw [hty]; exact hts _ hac) hty hK hP (am_cw_D b z tA h) hS (fun q hq => by rw [hz] at hq; omega) ha0 (am_nonneg hn.1 (by omega)) (am_clamp hn.1 (by omega)) (Nat.le_trans (Nat.mul_le_mul (show n.toNat ≤ 10000 by omega) hcb) (by decide)) (by omega) (by omega) hd (fun q cA H1 hK1 hP1 hD1 hS1 => ?_)
  refine am_size (fun hsz => ?_)
  have hq : q = z + h.length := am_newq hP1 hD1 (by omega)
  subst hq
  have hA1 := (hK1.2 4 (cA, ty) rfl).2
  have hA2 := (hK.2 t0 _ (am_tyN_ok ht0)).2
  have hcA : cA = tA ty := by
    cases a <;> simp [am_at] at ha <;> obtain ⟨rfl, rfl⟩ := ha <;> exact Option.some.inj (hA1.symm.trans hA2)
  subst hcA
  have e0 := am_cw_app b z tA (.inl (ty, n.toNat, F)) h 0
  rw [Nat.zero_add] at e0
  exact kk H1 locs ls (cells + 1) (slots + n.toNat) hl (by rw [e0, hce]; exact hP1) hS1 ⟨by simp; omega, by simp; omega⟩ (by rw [am_sl_app]; show am_sl h + n.toNat = _ ∧ am_sl h + n.toNat ≤ _; omega)
/-- Object's constructor -/
theorem go_obj {idx r : Nat} (hd : decode (am_bytes mid) pc = .ok (.invokespecial idx, 3)) (hw : Jvm.Cond.methodLink (am_own mid) idx objectInit ∈ am_TS) (hst : (st.map am_cat).sum ≤ 8) (hlv : lv.length = am_maxL mid) : Go d N S L xs mid pc lv (vR r :: st) h (pc + 3) lv st h := by
  intro p l e R s m args below meth c Q b z n0 s0 tA D X kk H locs ls cells slots hl hP hS hc1 hs
  obtain ⟨hx, hb, hml, hown, hts, hK, hz, hini, hf, hlo, hNN, hSS, hscr⟩ := X
  obtain ⟨a, ha⟩ := am_c_ref b z r
  have hsum : ((st.map (am_c b z)).map fun v => v.category).sum ≤ 8 := by
    rw [List.map_map]
    have e : (fun v => Value.category v) ∘ am_c b z = am_cat := funext fun v => am_c_cat b z v
    rw [e]; exact hst
  have h20 : 20 ≤ R.locals := Nat.le_trans (Nat.le_trans am_lw20 (Nat.le_mul_of_pos_right _ (Nat.succ_pos d))) hlo
  rw [List.map_cons, ha]
  refine W.objInit hx hb hown (hts _ hw) (hts _ am_TS_o1) (hts _ am_TS_o2) rfl (by rw [hml, ← hlv]; exact hl.2.1) rfl hd (by omega) ?_ (kk H locs ls cells slots hl hP hS hc1 hs)
  show 2 * 0 + _ + 12 ≤ _
  omega
end GH
end
section
/-! one instruction as a function of the state; Hp: how the heap is told; O: what is done with it -/
abbrev am_O (Hp : Type) : Type := (Hp → Nat → Nat → Nat → Option am_V) × (Hp → Nat → Nat → Nat → am_V → Option Hp) × (Hp → Nat → Option am_A) × (Hp → Nat → am_F → Option Hp) × (Hp → Nat → Nat → Nat → Option (Nat × Hp × Prop)) × (Hp → Nat → Nat → FieldType → Int → am_F → Option (Nat × Hp × Prop)) × (Hp → Nat → Option Nat)
abbrev am_R (Hp : Type) : Type := Nat × am_L × List am_V × Hp × Option Prop
section STEP
variable {Hp : Type} {α : Type}
def am_i1 (st : List am_V) (f : Int → List am_V → Option α) : Option α := match st with
  | .inl x :: r => f x r
  | _ => none
def am_i2 (st : List am_V) (f : Int → Int → List am_V → Option α) : Option α := match st with
  | .inl y :: .inl x :: r => f x y r
  | _ => none
def am_l1 (st : List am_V) (f : Int64 → List am_V → Option α) : Option α := match st with
  | .inr (.inl x) :: r => f x r
  | _ => none
def am_l2 (st : List am_V) (f : Int64 → Int64 → List am_V → Option α) : Option α := match st with
  | .inr (.inl y) :: .inr (.inl x) :: r => f x y r
  | _ => none
def am_li (st : List am_V) (f : Int64 → Int → List am_V → Option α) : Option α := match st with
  | .inl y :: .inr (.inl x) :: r => f x y r
  | _ => none
def am_r1 (st : List am_V) (f : Nat → List am_V → Option α) : Option α := match st with
  | .inr (.inr (some x)) :: r => f x r
  | _ => none
def am_ir (st : List am_V) (f : Nat → Int → List am_V → Option α) : Option α := match st with
  | .inl i :: .inr (.inr (some x)) :: r => f x i r
  | _ => none
def am_vir (st : List am_V) (f : Nat → Int → am_V → List am_V → Option α) : Option α := match st with
  | v :: .inl i :: .inr (.inr (some x)) :: r => f x i v r
  | _ => none
def am_vr (st : List am_V) (f : Nat → am_V → List am_V → Option α) : Option α := match st with
  | v :: .inr (.inr (some x)) :: r => f x v r
  | _ => none
def am_s1 (st : List am_V) (f : am_V → List am_V → Option α) : Option α := match st with
  | v :: r => f v r
  | _ => none
def am_s2 (st : List am_V) (f : am_V → am_V → List am_V → Option α) : Option α := match st with
  | v :: w :: r => f v w r
  | _ => none
def am_s3 (st : List am_V) (f : am_V → am_V → am_V → List am_V → Option α) : Option α := match st with
  | v :: w :: u :: r => f v w u r
  | _ => none
theorem am_i1_inv {st : List am_V} {f : Int → List am_V → Option α} {a : α} (h : am_i1 st f = some a) : ∃ x r, st = vI x :: r ∧ f x r = some a := by
  unfold am_i1 at h; split at h
  · exact ⟨_, _, rfl, h⟩
  · cases h
theorem am_i2_inv {st : List am_V} {f : Int → Int → List am_V → Option α} {a : α} (h : am_i2 st f = some a) : ∃ x y r, st = vI y :: vI x :: r ∧ f x y r = some a := by
  unfold am_i2 at h; split at h
  · exact ⟨_, _, _, rfl, h⟩
  · cases h
theorem am_l1_inv {st : List am_V} {f : Int64 → List am_V → Option α} {a : α} (h : am_l1 st f = some a) : ∃ x r, st = vL x :: r ∧ f x r = some a := by
  unfold am_l1 at h; split at h
  · exact ⟨_, _, rfl, h⟩
  · cases h
theorem am_l2_inv {st : List am_V} {f : Int64 → Int64 → List am_V → Option α} {a : α} (h : am_l2 st f = some a) : ∃ x y r, st = vL y :: vL x :: r ∧ f x y r = some a := by
  unfold am_l2 at h; split at h
  · exact ⟨_, _, _, rfl, h⟩
  · cases h
theorem am_li_inv {st : List am_V} {f : Int64 → Int → List am_V → Option α} {a : α} (h : am_li st f = some a) : ∃ x y r, st = vI y :: vL x :: r ∧ f x y r = some a := by
  unfold am_li at h; split at h
  · exact ⟨_, _, _, rfl, h⟩
  · cases h
theorem am_r1_inv {st : List am_V} {f : Nat → List am_V → Option α} {a : α} (h : am_r1 st f = some a) : ∃ x r, st = vR x :: r ∧ f x r = some a := by
  unfold am_r1 at h; split at h
  · exact ⟨_, _, rfl, h⟩
  · cases h
theorem am_ir_inv {st : List am_V} {f : Nat → Int → List am_V → Option α} {a : α} (h : am_ir st f = some a) : ∃ x i r, st = vI i :: vR x :: r ∧ f x i r = some a := by
  unfold am_ir at h; split at h
  · exact ⟨_, _, _, rfl, h⟩
  · cases h
theorem am_vir_inv {st : List am_V} {f : Nat → Int → am_V → List am_V → Option α} {a : α} (h : am_vir st f = some a) : ∃ x i v r, st = v :: vI i :: vR x :: r ∧ f x i v r = some a := by
  unfold am_vir at h; split at h
  · exact ⟨_, _, _, _, rfl, h⟩
  · cases h
theorem am_vr_inv {st : List am_V} {f : Nat → am_V → List am_V → Option α} {a : α} (h : am_vr st f = some a) : ∃ x v r, st = v :: vR x :: r ∧ f x v r = some a := by
  unfold am_vr at h; split at h
  · exact ⟨_, _, _, rfl, h⟩
  · cases h
theorem am_s1_inv {st : List am_V} {f : am_V → List am_V → Option α} {a : α} (h : am_s1 st f = some a) : ∃ v r, st = v :: r ∧ f v r = some a := by
  unfold am_s1 at h; split at h
  · exact ⟨_, _, rfl, h⟩
  · cases h
theorem am_s2_inv {st : List am_V} {f : am_V → am_V → List am_V → Option α} {a : α} (h : am_s2 st f = some a) : ∃ v w r, st = v :: w :: r ∧ f v w r = some a := by
  unfold am_s2 at h; split at h
  · exact ⟨_, _, _, rfl, h⟩
  · cases h
theorem am_s3_inv {st : List am_V} {f : am_V → am_V → am_V → List am_V → Option α} {a : α} (h : am_s3 st f = some a) : ∃ v w u r, st = v :: w :: u :: r ∧ f v w u r = some a := by
  unfold am_s3 at h; split at h
  · exact ⟨_, _, _, _, rfl, h⟩
  · cases h
def am_ldI (lv : am_L) (i : Nat) (f : Int → Option α) : Option α := match lv[i]? with
  | some (some (.inl x)) => f x
  | _ => none
def am_ldL (lv : am_L) (i : Nat) (f : Int64 → Option α) : Option α := match lv[i]? with
  | some (some (.inr (.inl x))) => f x
  | _ => none
def am_ldR (lv : am_L) (i : Nat) (f : Nat → Option α) : Option α := match lv[i]? with
  | some (some (.inr (.inr (some x)))) => f x
  | _ => none
def am_has (lv : am_L) (i : Nat) (f : Option α) : Option α := match lv[i]? with
  | some _ => f
  | none => none
theorem am_ldI_inv {lv : am_L} {i : Nat} {f : Int → Option α} {a : α} (h : am_ldI lv i f = some a) : ∃ x, lv[i]? = some (some (vI x)) ∧ f x = some a := by
  unfold am_ldI at h; split at h
  · next x hx => exact ⟨x, hx, h⟩
  · cases h
theorem am_ldL_inv {lv : am_L} {i : Nat} {f : Int64 → Option α} {a : α} (h : am_ldL lv i f = some a) : ∃ x, lv[i]? = some (some (vL x)) ∧ f x = some a := by
  unfold am_ldL at h; split at h
  · next x hx => exact ⟨x, hx, h⟩
  · cases h
theorem am_ldR_inv {lv : am_L} {i : Nat} {f : Nat → Option α} {a : α} (h : am_ldR lv i f = some a) : ∃ x, lv[i]? = some (some (vR x)) ∧ f x = some a := by
  unfold am_ldR at h; split at h
  · next x hx => exact ⟨x, hx, h⟩
  · cases h
theorem am_has_inv {lv : am_L} {i : Nat} {f : Option α} {a : α} (h : am_has lv i f = some a) : i < lv.length ∧ f = some a := by
  unfold am_has at h; split at h
  · next x hx => exact ⟨(List.getElem?_eq_some_iff.mp hx).1, h⟩
  · cases h
def am_g1 (v : am_V) (f : Option α) : Option α := match v with
  | .inr (.inl _) => none
  | _ => f
theorem am_g1_inv {v : am_V} {f : Option α} {a : α} (h : am_g1 v f = some a) : am_cat v = 1 ∧ f = some a := match v, h with
  | .inl _, h => ⟨rfl, h⟩
  | .inr (.inr _), h => ⟨rfl, h⟩
/-- which case of a switch -/
def am_lkP : List (Int × Int) → Nat → Int → Prop
  | [], _, _ => True
  | (a, _) :: _, 0, x => x = a
  | (a, _) :: t, k + 1, x => x ≠ a ∧ am_lkP t k x
def am_lkO (dflt : Int) : List (Int × Int) → Nat → Int
  | [], _ => dflt
  | (_, o) :: _, 0 => o
  | _ :: t, k + 1 => am_lkO dflt t k
theorem am_lk_off {dflt x : Int} : ∀ {l : List (Int × Int)} {k : Nat}, am_lkP l k x → Op.lookupswitch.offset l dflt x = am_lkO dflt l k := by
  intro l
  induction l with
  | nil => intro k _; rfl
  | cons a t ih =>
    obtain ⟨a, o⟩ := a
    intro k h
    cases k with
    | zero => rw [Op.lookupswitch.offset_cons, if_pos (show a = x from Eq.symm h)]; rfl
    | succ k => rw [Op.lookupswitch.offset_cons, if_neg (show ¬ a = x from fun q => h.1 q.symm)]; exact ih h.2
/-- a branch: to u, or on to the next -/
def am_br (ch nx u : Nat) (lv : am_L) (st : List am_V) (h : Hp) (P c cn : Prop) : am_R Hp := match ch with
  | 0 => (nx, lv, st, h, some (P ∧ cn))
  | _ => (u, lv, st, h, some (P ∧ c))
def am_brc (k : Jvm.ClassFile.Cond) (ch nx u : Nat) (lv : am_L) (st : List am_V) (h : Hp) (P : Prop) (x y : Int) : am_R Hp := match k with
  | .eq => am_br ch nx u lv st h P (x = y) (¬ x = y)
  | .ne => am_br ch nx u lv st h P (¬ x = y) (x = y)
  | .lt => am_br ch nx u lv st h P (x < y) (y ≤ x)
  | .ge => am_br ch nx u lv st h P (y ≤ x) (x < y)
  | .gt => am_br ch nx u lv st h P (y < x) (x ≤ y)
  | .le => am_br ch nx u lv st h P (x ≤ y) (y < x)
def am_rdI (O : am_O Hp) (L : Nat) (xs : Nat → Int) (law : Bool) (nx : Nat) (lv : am_L) (h : Hp) (r : Nat) (i : Int) (st : List am_V) : Option (am_R Hp) := match r with
  | 0 => match law with
    | true => some (nx, lv, vI (xs i.toNat) :: st, h, some (0 ≤ i ∧ i < (L : Int) ∧ (L : Int) < 2147483648))
    | false => none
  | r + 1 => match O.2.2.1 h r with
    | some (.int, n, .inl f) => some (nx, lv, vI (f i.toNat) :: st, h, some (0 ≤ i ∧ i < (n : Int) ∧ (n : Int) < 2147483648))
    | _ => none
def am_rdL (O : am_O Hp) (nx : Nat) (lv : am_L) (h : Hp) (r : Nat) (i : Int) (st : List am_V) : Option (am_R Hp) := match r with
  | 0 => none
  | r + 1 => match O.2.2.1 h r with
    | some (.long, n, .inr f) => some (nx, lv, vL (f i.toNat) :: st, h, some (0 ≤ i ∧ i < (n : Int) ∧ (n : Int) < 2147483648))
    | _ => none
def am_rdB (O : am_O Hp) (nx : Nat) (lv : am_L) (h : Hp) (r : Nat) (i : Int) (st : List am_V) : Option (am_R Hp) := match r with
  | 0 => none
  | r + 1 => match O.2.2.1 h r with
    | some (.byte, n, .inl f) => some (nx, lv, vI (f i.toNat) :: st, h, some (0 ≤ i ∧ i < (n : Int) ∧ (n : Int) < 2147483648))
    | some (.boolean, n, .inl f) => some (nx, lv, vI (f i.toNat) :: st, h, some (0 ≤ i ∧ i < (n : Int) ∧ (n : Int) < 2147483648))
    | _ => none
def am_wrI (O : am_O Hp) (nx : Nat) (lv : am_L) (h : Hp) (r : Nat) (i : Int) (v : am_V) (st : List am_V) : Option (am_R Hp) := match r, v with
  | r + 1, .inl x => match O.2.2.1 h r with
    | some (.int, n, .inl f) => (O.2.2.2.1 h r (.inl (am_upd f i.toNat x))).map fun h' => (nx, lv, st, h', some (0 ≤ i ∧ i < (n : Int) ∧ (n : Int) < 2147483648))
    | _ => none
  | _, _ => none
def am_wrL (O : am_O Hp) (nx : Nat) (lv : am_L) (h : Hp) (r : Nat) (i : Int) (v : am_V) (st : List am_V) : Option (am_R Hp) := match r, v with
  | r + 1, .inr (.inl x) => match O.2.2.1 h r with
    | some (.long, n, .inr f) => (O.2.2.2.1 h r (.inr (am_upd f i.toNat x))).map fun h' => (nx, lv, st, h', some (0 ≤ i ∧ i < (n : Int) ∧ (n : Int) < 2147483648))
    | _ => none
  | _, _ => none
def am_wrB (O : am_O Hp) (nx : Nat) (lv : am_L) (h : Hp) (r : Nat) (i : Int) (v : am_V) (st : List am_V) : Option (am_R Hp) := match r, v with
  | r + 1, .inl x => match O.2.2.1 h r with
    | some (.byte, n, .inl f) => (O.2.2.2.1 h r (.inl (am_upd f i.toNat x))).map fun h' => (nx, lv, st, h', some ((0 ≤ i ∧ i < (n : Int) ∧ (n : Int) < 2147483648) ∧ (-128 ≤ x ∧ x ≤ 127)))
    | some (.boolean, n, .inl f) => (O.2.2.2.1 h r (.inl (am_upd f i.toNat x))).map fun h' => (nx, lv, st, h', some ((0 ≤ i ∧ i < (n : Int) ∧ (n : Int) < 2147483648) ∧ (x = 0 ∨ x = 1)))
    | _ => none
  | _, _ => none
def am_rdN (O : am_O Hp) (L : Nat) (law : Bool) (nx : Nat) (lv : am_L) (h : Hp) (r : Nat) (st : List am_V) : Option (am_R Hp) := match r with
  | 0 => match law with
    | true => some (nx, lv, vI L :: st, h, none)
    | false => none
  | r + 1 => match O.2.2.1 h r with
    | some (ty, n, _) => (am_tyN ty).map fun _ => (nx, lv, vI n :: st, h, none)
    | none => none
def am_rdF (O : am_O Hp) (nx u v : Nat) (lv : am_L) (h : Hp) (r : Nat) (st : List am_V) : Option (am_R Hp) := match r with
  | 0 => none
  | r + 1 => (O.1 h u r v).map fun x => (nx, lv, x :: st, h, none)
def am_fitO (ty : FieldType) (v : am_V) : Option (Option Prop) := match ty, v with
  | .int, .inl _ => some none
  | .boolean, .inl z => some (some (z = 0 ∨ z = 1))
  | .long, .inr (.inl _) => some none
  | .object _, .inr (.inr _) => some none
  | .array _, .inr (.inr _) => some none
  | _, _ => none
theorem am_fitO_ok {ty : FieldType} {v : am_V} {P : Option Prop} (h : am_fitO ty v = some P) (hP : ∀ q, P = some q → q) : am_fit ty v := by
  match ty, v, h with
  | .int, .inl _, _ => exact trivial
  | .boolean, .inl z, h => cases h; exact hP _ rfl
  | .long, .inr (.inl _), _ => exact trivial
  | .object _, .inr (.inr _), _ => exact trivial
  | .array _, .inr (.inr _), _ => exact trivial
def am_wrF (O : am_O Hp) (nx u v : Nat) (lv : am_L) (h : Hp) (r : Nat) (x : am_V) (st : List am_V) : Option (am_R Hp) := match r with
  | 0 => none
  | r + 1 => match am_fitO (am_fty u v) x with
    | some P => (O.2.1 h u r v x).map fun h' => (nx, lv, st, h', P)
    | none => none
def am_sum (st : List am_V) : Nat := (st.map am_cat).sum
/-- arraycopy of ints -/
def am_copy (O : am_O Hp) (nx : Nat) (lv : am_L) (st : List am_V) (h : Hp) : Option (am_R Hp) := match st with
  | .inl n :: .inl dp :: .inr (.inr (some (t + 1))) :: .inl sp :: .inr (.inr (some (r + 1))) :: rest => match O.2.2.1 h r, O.2.2.1 h t with
    | some (.int, n0, .inl f), some (.int, n1, .inl g) => (O.2.2.2.1 h t (.inl (am_cpy f g sp.toNat dp.toNat n.toNat))).map fun h' => (nx, lv, rest, h', some ((0 ≤ sp ∧ 0 ≤ dp ∧ 0 ≤ n ∧ sp + n ≤ n0 ∧ dp + n ≤ n1 ∧ (n0 : Int) < 2147483648 ∧ (n1 : Int) < 2147483648) ∧ am_sum rest ≤ 8))
    | _, _ => none
  | _ => none
def am_max (x y : Int) : Int := if x < y then y else x
def am_isBr (ins : Instr) : Bool := match ins with
  | .ifCond _ _ => true
  | .if_icmp _ _ => true
  | .tableswitch _ _ _ _ => true
  | .lookupswitch _ _ => true
  | _ => false
def am_d2 (nx : Nat) (lv : am_L) (st : List am_V) (h : Hp) : Option (am_R Hp) := match st with
  | .inr (.inl x) :: r => some (nx, lv, vL x :: vL x :: r, h, none)
  | a :: b :: r => am_g1 a (am_g1 b (some (nx, lv, a :: b :: a :: b :: r, h, none)))
  | _ => none
def am_len (ins : Instr) : Nat := match ins with
  | .iconst _ => 1
  | .bipush _ => 2
  | .sipush _ => 3
  | .lconst _ => 1
  | .ldc2_w _ => 3
  | .iload _ => 2
  | .iload_n _ => 1
  | .lload _ => 2
  | .lload_n _ => 1
  | .aload _ => 2
  | .aload_n _ => 1
  | .istore _ => 2
  | .istore_n _ => 1
  | .lstore _ => 2
  | .lstore_n _ => 1
  | .astore _ => 2
  | .astore_n _ => 1
  | .iinc _ _ => 3
  | .goto _ => 3
  | .ifCond _ _ => 3
  | .if_icmp _ _ => 3
  | .getfield _ => 3
  | .putfield _ => 3
  | .new _ => 3
  | .newarray _ => 2
  | .invokespecial _ => 3
  | .invokestatic _ => 3
  | .invokevirtual _ => 3
  | .tableswitch _ _ _ _ => 0
  | .lookupswitch _ _ => 0
  | _ => 1
def am_step (O : am_O Hp) (N S L : Nat) (xs : Nat → Int) (mid : am_M) (ch : Nat) (ins : Instr) (nx u v : Nat) (pc : Nat) (lv : am_L) (st : List am_V) (h : Hp) : Option (am_R Hp) := match ins with
  | .iconst n => some (nx, lv, vI n :: st, h, none)
  | .bipush n => some (nx, lv, vI n :: st, h, none)
  | .sipush n => some (nx, lv, vI n :: st, h, none)
  | .lconst n => some (nx, lv, vL (Int64.ofNat n) :: st, h, none)
  | .ldc2_w _ => some (nx, lv, vL (Int64.ofNat u) :: st, h, none)
  | .iload i => am_ldI lv i fun x => some (nx, lv, vI x :: st, h, none)
  | .iload_n i => am_ldI lv i.val fun x => some (nx, lv, vI x :: st, h, none)
  | .lload i => am_ldL lv i fun x => some (nx, lv, vL x :: st, h, none)
  | .lload_n i => am_ldL lv i.val fun x => some (nx, lv, vL x :: st, h, none)
  | .aload i => am_ldR lv i fun x => some (nx, lv, vR x :: st, h, none)
  | .aload_n i => am_ldR lv i.val fun x => some (nx, lv, vR x :: st, h, none)
  | .istore i => am_i1 st fun x r => am_has lv i (some (nx, am_st1 lv i (vI x), r, h, none))
  | .istore_n i => am_i1 st fun x r => am_has lv i.val (some (nx, am_st1 lv i.val (vI x), r, h, none))
  | .lstore i => am_l1 st fun x r => am_has lv (i + 1) (some (nx, am_st2 lv i (vL x), r, h, none))
  | .lstore_n i => am_l1 st fun x r => am_has lv (i.val + 1) (some (nx, am_st2 lv i.val (vL x), r, h, none))
  | .astore i => am_r1 st fun x r => am_has lv i (some (nx, am_st1 lv i (vR x), r, h, none))
  | .astore_n i => am_r1 st fun x r => am_has lv i.val (some (nx, am_st1 lv i.val (vR x), r, h, none))
  | .iinc i n => am_ldI lv i fun x => some (nx, am_st1 lv i (vI (x + n)), st, h, none)
  | .iadd => am_i2 st fun x y r => some (nx, lv, vI (x + y) :: r, h, none)
  | .isub => am_i2 st fun x y r => some (nx, lv, vI (x - y) :: r, h, none)
  | .imul => am_i2 st fun x y r => some (nx, lv, vI (x * y) :: r, h, none)
  | .idiv => am_i2 st fun x y r => some (nx, lv, vI (x / y) :: r, h, some (0 ≤ x ∧ x < 2147483648 ∧ 0 < y ∧ y < 2147483648))
  | .irem => am_i2 st fun x y r => some (nx, lv, vI (x % y) :: r, h, some (0 ≤ x ∧ x < 2147483648 ∧ 0 < y ∧ y < 2147483648))
  | .iand => am_i2 st fun x y r => some (nx, lv, vI (am_and x y) :: r, h, none)
  | .ladd => am_l2 st fun x y r => some (nx, lv, vL (x + y) :: r, h, none)
  | .lsub => am_l2 st fun x y r => some (nx, lv, vL (x - y) :: r, h, none)
  | .lmul => am_l2 st fun x y r => some (nx, lv, vL (x * y) :: r, h, none)
  | .land => am_l2 st fun x y r => some (nx, lv, vL (x &&& y) :: r, h, none)
  | .lor => am_l2 st fun x y r => some (nx, lv, vL (x ||| y) :: r, h, none)
  | .lxor => am_l2 st fun x y r => some (nx, lv, vL (x ^^^ y) :: r, h, none)
  | .lshl => am_li st fun x y r => some (nx, lv, vL (am_shl x y) :: r, h, none)
  | .lshr => am_li st fun x y r => some (nx, lv, vL (am_shr x y) :: r, h, none)
  | .lushr => am_li st fun x y r => some (nx, lv, vL (am_ushr x y) :: r, h, none)
  | .i2l => am_i1 st fun x r => some (nx, lv, vL (am_i2l x) :: r, h, none)
  | .l2i => am_l1 st fun x r => some (nx, lv, vI (am_l2i x) :: r, h, none)
  | .i2b => am_i1 st fun x r => some (nx, lv, vI (am_i2b x) :: r, h, none)
  | .lcmp => am_l2 st fun x y r => some (nx, lv, vI (am_cmp x y) :: r, h, none)
  | .dup => am_s1 st fun a r => am_g1 a (some (nx, lv, a :: a :: r, h, none))
  | .pop => am_s1 st fun a r => am_g1 a (some (nx, lv, r, h, none))
  | .dup_x1 => am_s2 st fun a b r => am_g1 a (am_g1 b (some (nx, lv, a :: b :: a :: r, h, none)))
  | .dup_x2 => am_s3 st fun a b e r => am_g1 a (am_g1 b (am_g1 e (some (nx, lv, a :: b :: e :: a :: r, h, none))))
  | .dup2 => am_d2 nx lv st h
  | .goto _ => some (u, lv, st, h, none)
  | .ifCond c _ => am_i1 st fun x r => some (am_brc c ch nx u lv r h (-2147483648 ≤ x ∧ x < 2147483648) x 0)
  | .if_icmp c _ => am_i2 st fun x y r => some (am_brc c ch nx u lv r h ((-2147483648 ≤ x ∧ x < 2147483648) ∧ (-2147483648 ≤ y ∧ y < 2147483648)) x y)
  | .tableswitch dflt lo hi offs => am_i1 st fun x r => match offs[ch]? with
    | some off => some (((pc : Int) + off).toNat, lv, r, h, some ((-2147483648 ≤ x ∧ x < 2147483648) ∧ x = lo + ch ∧ x ≤ hi ∧ 0 ≤ (pc : Int) + off))
    | none => some (((pc : Int) + dflt).toNat, lv, r, h, some ((-2147483648 ≤ x ∧ x < 2147483648) ∧ (x < lo ∨ hi < x) ∧ 0 ≤ (pc : Int) + dflt))
  | .lookupswitch dflt ps => am_i1 st fun x r => some (((pc : Int) + am_lkO dflt ps.toList ch).toNat, lv, r, h, some ((-2147483648 ≤ x ∧ x < 2147483648) ∧ am_lkP ps.toList ch x ∧ 0 ≤ (pc : Int) + am_lkO dflt ps.toList ch))
  | .getfield _ => am_r1 st fun r rest => am_rdF O nx u v lv h r rest
  | .putfield _ => am_vr st fun r x rest => am_wrF O nx u v lv h r x rest
  | .iaload => am_ir st fun r i rest => am_rdI O L xs (am_law mid) nx lv h r i rest
  | .laload => am_ir st fun r i rest => am_rdL O nx lv h r i rest
  | .baload => am_ir st fun r i rest => am_rdB O nx lv h r i rest
  | .iastore => am_vir st fun r i x rest => am_wrI O nx lv h r i x rest
  | .lastore => am_vir st fun r i x rest => am_wrL O nx lv h r i x rest
  | .bastore => am_vir st fun r i x rest => am_wrB O nx lv h r i x rest
  | .arraylength => am_r1 st fun r rest => am_rdN O L (am_law mid) nx lv h r rest
  | .new _ => (O.2.2.2.2.1 h N S u).map fun q => (nx, lv, vR (q.1 + 1) :: st, q.2.1, some q.2.2)
  | .newarray a => am_i1 st fun n r => match am_at a with
    | some (ty, F) => (O.2.2.2.2.2.1 h N S ty n F).map fun q => (nx, lv, vR (q.1 + 1) :: r, q.2.1, some q.2.2)
    | none => none
  | .invokespecial _ => match v with
    | 1 => am_r1 st fun _ rest => some (nx, lv, rest, h, some (am_sum rest ≤ 8))
    | _ => none
  | .invokestatic _ => match v with
    | 1 => am_copy O nx lv st h
    | 2 => am_i2 st fun x y r => some (nx, lv, vI (am_max x y) :: r, h, some ((-2147483648 ≤ x ∧ x < 2147483648) ∧ (-2147483648 ≤ y ∧ y < 2147483648) ∧ am_sum r ≤ 8))
    | _ => none
  | _ => none
end STEP
end
section
/-! what the heap's operations must keep -/
def am_Law {Hp : Type} (O : am_O Hp) (toC : Hp → am_H) : Prop :=
  (∀ (h : Hp) (ci r k : Nat) (v : am_V), O.1 h ci r k = some v → ∃ fs, (toC h)[r]? = some (.inr (ci, fs)) ∧ fs[k]? = some v) ∧
  (∀ (h : Hp) (ci r k : Nat) (v : am_V) (h' : Hp), O.2.1 h ci r k v = some h' → ∃ fs, (toC h)[r]? = some (.inr (ci, fs)) ∧ k < fs.length ∧ toC h' = (toC h).set r (.inr (ci, fs.set k v))) ∧
  (∀ (h : Hp) (r : Nat) (a : am_A), O.2.2.1 h r = some a → (toC h)[r]? = some (.inl a)) ∧
  (∀ (h : Hp) (r : Nat) (ty : FieldType) (n : Nat) (F F' : am_F) (h' : Hp), O.2.2.1 h r = some (ty, n, F) → O.2.2.2.1 h r F' = some h' → toC h' = (toC h).set r (.inl (ty, n, F'))) ∧
  (∀ (h : Hp) (N S ci : Nat) (q : Nat × Hp × Prop), O.2.2.2.2.1 h N S ci = some q → q.2.2 → q.1 = (toC h).length ∧ toC q.2.1 = toC h ++ [.inr (ci, am_dfl ci)] ∧ (toC h).length + 1 ≤ N ∧ am_sl (toC h) + (am_dfl ci).length ≤ S) ∧
  (∀ (h : Hp) (N S : Nat) (ty : FieldType) (n : Int) (F : am_F) (q : Nat × Hp × Prop), O.2.2.2.2.2.1 h N S ty n F = some q → q.2.2 → q.1 = (toC h).length ∧ toC q.2.1 = toC h ++ [.inl (ty, n.toNat, F)] ∧ (0 ≤ n ∧ n < 10000) ∧ (toC h).length + 1 ≤ N ∧ am_sl (toC h) + n.toNat ≤ S) ∧
  (∀ (h : Hp) (r ci : Nat), O.2.2.2.2.2.2 h r = some ci → ∃ fs, (toC h)[r]? = some (.inr (ci, fs)))
/-- what an instruction's own numbers must keep -/
def am_lk (mid : am_M) (pc nx : Nat) (ins : Instr) (u v : Nat) : Prop := match ins with
  | .bipush n => -128 ≤ n ∧ n ≤ 127
  | .sipush n => -32768 ≤ n ∧ n ≤ 32767
  | .ldc2_w i => Jvm.Cond.constantLong (am_own mid) i (Int64.ofNat u) ∈ am_TS
  | .goto off => (pc : Int) + off = (u : Int)
  | .ifCond _ off => (pc : Int) + off = (u : Int)
  | .if_icmp _ off => (pc : Int) + off = (u : Int)
  | .lookupswitch _ ps => (ps.toList.zip (ps.toList.drop 1)).all (fun (a, next) => a.1 < next.1) = true
  | .getfield idx => ∃ C T nF, am_cl[u]? = some (C, T, nF) ∧ v < nF ∧ am_fw (am_own mid) idx C T v
  | .putfield idx => ∃ C T nF, am_cl[u]? = some (C, T, nF) ∧ v < nF ∧ am_fw (am_own mid) idx C T v ∧ ((T v).2.2.2 = true → am_init mid = true ∧ C = am_own mid)
  | .new idx => ∃ C T nF, am_cl[u]? = some (C, T, nF) ∧ Jvm.Cond.classLink (am_own mid) idx C ∈ am_TS
  | .invokespecial idx => v = 1 → Jvm.Cond.methodLink (am_own mid) idx objectInit ∈ am_TS
  | .invokestatic idx => (v = 1 → Jvm.Cond.methodLink (am_own mid) idx arraycopyName ∈ am_TS) ∧ (v = 2 → Jvm.Cond.methodLink (am_own mid) idx Lib.Math.max.name ∈ am_TS)
  | _ => True
section SOUND
variable {Hp : Type} {O : am_O Hp} {toC : Hp → am_H} {d N S L : Nat} {xs : Nat → Int} {mid : am_M} {ch nx u v pc pc' : Nat} {lv lv' : am_L} {st st' : List am_V} {h h' : Hp} {P : Option Prop} {ins : Instr}
theorem go_copy {idx r t n0 n1 : Nat} {hh : am_H} {f g : Nat → Int} {n dp sp : Int} (hd : decode (am_bytes mid) pc = .ok (.invokestatic idx, 3)) (hw : Jvm.Cond.methodLink (am_own mid) idx arraycopyName ∈ am_TS) (hr : hh[r]? = some (.inl (.int, n0, .inl f))) (ht : hh[t]? = some (.inl (.int, n1, .inl g))) (hq : (0 ≤ sp ∧ 0 ≤ dp ∧ 0 ≤ n ∧ sp + n ≤ n0 ∧ dp + n ≤ n1 ∧ (n0 : Int) < 2147483648 ∧ (n1 : Int) < 2147483648) ∧ am_sum st ≤ 8) (hlv : lv.length = am_maxL mid) : Go d N S L xs mid pc lv (vI n :: vI dp :: vR (t + 1) :: vI sp :: vR (r + 1) :: st) hh (pc + 3) lv st (hh.set t (.inl (.int, n1, .inl (am_cpy f g sp.toNat dp.toNat n.toNat)))) := by
  intro p l e R s m args below meth c Q b z n0' s0 tA D X kk H locs ls cells slots hl hP hS hc1 hs
  obtain ⟨hx, hb, hml, hown, hts, hK, hz, hini, hf, hlo, hNN, hSS, hscr⟩ := X
  obtain ⟨⟨q1, q2, q3, q4, q5, q6, q7⟩, q8⟩ := hq
  have hsum : ((st.map (am_c b z)).map fun v => v.category).sum ≤ 8 := by
    rw [List.map_map]
    have e : (fun v => Value.category v) ∘ am_c b z = am_cat := funext fun v => am_c_cat b z v
    rw [e]; exact q8
  have h40 : 40 ≤ R.locals := Nat.le_trans (Nat.le_trans am_lw40 (Nat.le_mul_of_pos_right _ (Nat.succ_pos d))) hlo
  have e1 := am_clamp q1 (show sp < 2147483648 by omega)
  have e2 := am_clamp q2 (show dp < 2147483648 by omega)
  have e3 := am_clamp q3 (show n < 2147483648 by omega)
  refine va_copyi (ty := .int) hx hb (by rw [hml, ← hlv]; exact hl.2.1.symm) hown (hts _ hw) (hts _ am_TS_c1) (hts _ am_TS_c2) (hts _ am_TS_c3) hK hP (am_cw_D b z tA hh) hS r t 0 0 (am_cw_at hr) (am_cw_at ht) rfl rfl rfl (am_nonneg q1 (by omega)) (am_nonneg q2 (by omega)) (am_nonneg q3 (by omega)) (by rw [e1, e3]; omega) (by rw [e2, e3]; omega) (fun _ _ => rfl) (by omega) ?_ hd (fun H1 locs1 hP1 _ hS1 => ?_)
  · have : nativeFrameWords "java/lang/System" "arraycopy" 5 + 11 ≤ 30 := by decide
    omega
  · rw [e1, e2, e3] at hP1
    refine kk H1 locs1 ls cells slots hl ?_ hS1 (by rw [List.length_set]; exact hc1) (am_sl_set3 hh t _ _ ht (by rfl) hs)
    rw [← am_cw_set0]
    show va_P D am_cl ((am_cw b z tA 0 hh).set t (z + t, .inl (tA .int, n1, .inl (fun j => Int32.ofInt (am_cpy f g sp.toNat dp.toNat n.toNat j))))) H1
    rw [am_cpy_i]
    exact hP1
theorem go_max {idx : Nat} {hh : am_H} {x y : Int} (hd : decode (am_bytes mid) pc = .ok (.invokestatic idx, 3)) (hw : Jvm.Cond.methodLink (am_own mid) idx Lib.Math.max.name ∈ am_TS) (hq : am_in x ∧ am_in y ∧ am_sum st ≤ 8) (hlv : lv.length = am_maxL mid) : Go d N S L xs mid pc lv (vI y :: vI x :: st) hh (pc + 3) lv (vI (am_max x y) :: st) hh := by
  intro p l e R s m args below meth c Q b z n0' s0 tA D X kk H locs ls cells slots hl hP hS hc1 hs
  obtain ⟨hx, hb, hml, hown, hts, hK, hz, hini, hf, hlo, hNN, hSS, hscr⟩ := X
  have hsum : ((st.map (am_c b z)).map fun v => v.category).sum ≤ 8 := by
    rw [List.map_map]
    have e : (fun v => Value.category v) ∘ am_c b z = am_cat := funext fun v => am_c_cat b z v
    rw [e]; exact hq.2.2
  have h40 : 40 ≤ R.locals := Nat.le_trans (Nat.le_trans am_lw40 (Nat.le_mul_of_pos_right _ (Nat.succ_pos d))) hlo
  refine va_mmax (x := Int32.ofInt x) (y := Int32.ofInt y) hx hb (by rw [hml, ← hlv]; exact hl.2.1.symm) hown (hts _ hw) (hts _ am_TS_m1) (hts _ ct_ini_java_lang_Math) (hts _ am_TS_m2) (by omega) (by omega) (by omega) (by omega) hd ?_
  have e : (if Int32.ofInt x < Int32.ofInt y then Int32.ofInt y else Int32.ofInt x) = Int32.ofInt (am_max x y) := by
    unfold am_max
    by_cases h1 : x < y
    · rw [if_pos h1, if_pos ((am_ltI hq.1 hq.2.1).mpr h1)]
    · rw [if_neg h1, if_neg (fun q => h1 ((am_ltI hq.1 hq.2.1).mp q))]
  rw [e]
  exact kk H locs ls cells slots hl hP hS hc1 hs
set_option maxHeartbeats 4000000 in
theorem am_step_ok (hO : am_Law O toC) (hlv : lv.length = am_maxL mid) (hd0 : decode (am_bytes mid) pc = .ok (ins, nx - pc)) (hnx : am_len ins = 0 ∨ nx = pc + am_len ins) (hk : am_lk mid pc nx ins u v) (hs : am_step O N S L xs mid ch ins nx u v pc lv st h = some (pc', lv', st', h', P)) (hP : ∀ q, P = some q → q) : Go d N S L xs mid pc lv st (toC h) pc' lv' st' (toC h') ∧ lv'.length = am_maxL mid := by
  have hd' : am_len ins ≠ 0 → decode (am_bytes mid) pc = .ok (ins, am_len ins) ∧ nx = pc + am_len ins := by
    intro q
    rcases hnx with h1 | h1
    · exact absurd h1 q
    · rw [h1, Nat.add_sub_cancel_left] at hd0
      exact ⟨hd0, h1⟩
  have hs1 : ∀ i w, (am_st1 lv i w).length = am_maxL mid := fun i w => by simp [am_st1, am_clr_len, hlv]
  have hs2 : ∀ i w, (am_st2 lv i w).length = am_maxL mid := fun i w => by simp [am_st2, am_clr_len, hlv]
  obtain ⟨O1, O2, O3, O4, O5, O6, O7⟩ := hO
  cases ins with
  | iconst n => obtain ⟨hd, rfl⟩ := hd' (Nat.succ_ne_zero _); cases hs; exact ⟨go_iconst hd, hlv⟩
  | bipush n => obtain ⟨hd, rfl⟩ := hd' (Nat.succ_ne_zero _); cases hs; exact ⟨go_bipush hd hk.1 hk.2, hlv⟩
  | sipush n => obtain ⟨hd, rfl⟩ := hd' (Nat.succ_ne_zero _); cases hs; exact ⟨go_sipush hd hk.1 hk.2, hlv⟩
  | lconst n => obtain ⟨hd, rfl⟩ := hd' (Nat.succ_ne_zero _); cases hs; exact ⟨go_lconst hd, hlv⟩
  | ldc2_w i => obtain ⟨hd, rfl⟩ := hd' (Nat.succ_ne_zero _); cases hs; exact ⟨go_ldc2 hd hk, hlv⟩
  | iload i => obtain ⟨hd, rfl⟩ := hd' (Nat.succ_ne_zero _); obtain ⟨x, h1, h2⟩ := am_ldI_inv hs; cases h2; exact ⟨go_iload hd h1, hlv⟩
  | iload_n i => obtain ⟨hd, rfl⟩ := hd' (Nat.succ_ne_zero _); obtain ⟨x, h1, h2⟩ := am_ldI_inv hs; cases h2; exact ⟨go_iload_n hd h1, hlv⟩
  | lload i => obtain ⟨hd, rfl⟩ := hd' (Nat.succ_ne_zero _); obtain ⟨x, h1, h2⟩ := am_ldL_inv hs; cases h2; exact ⟨go_lload hd h1, hlv⟩
  | lload_n i => obtain ⟨hd, rfl⟩ := hd' (Nat.succ_ne_zero _); obtain ⟨x, h1, h2⟩ := am_ldL_inv hs; cases h2; exact ⟨go_lload_n hd h1, hlv⟩
  | aload i => obtain ⟨hd, rfl⟩ := hd' (Nat.succ_ne_zero _); obtain ⟨x, h1, h2⟩ := am_ldR_inv hs; cases h2; exact ⟨go_aload hd h1, hlv⟩
  | aload_n i => obtain ⟨hd, rfl⟩ := hd' (Nat.succ_ne_zero _); obtain ⟨x, h1, h2⟩ := am_ldR_inv hs; cases h2; exact ⟨go_aload_n hd h1, hlv⟩
  | istore i => obtain ⟨hd, rfl⟩ := hd' (Nat.succ_ne_zero _); obtain ⟨x, r, rfl, h1⟩ := am_i1_inv hs; obtain ⟨h2, h3⟩ := am_has_inv h1; cases h3; exact ⟨go_istore hd h2, hs1 _ _⟩
  | istore_n i => obtain ⟨hd, rfl⟩ := hd' (Nat.succ_ne_zero _); obtain ⟨x, r, rfl, h1⟩ := am_i1_inv hs; obtain ⟨h2, h3⟩ := am_has_inv h1; cases h3; exact ⟨go_istore_n hd h2, hs1 _ _⟩
  | lstore i => obtain ⟨hd, rfl⟩ := hd' (Nat.succ_ne_zero _); obtain ⟨x, r, rfl, h1⟩ := am_l1_inv hs; obtain ⟨h2, h3⟩ := am_has_inv h1; cases h3; exact ⟨go_lstore hd h2, hs2 _ _⟩
  | lstore_n i => obtain ⟨hd, rfl⟩ := hd' (Nat.succ_ne_zero _); obtain ⟨x, r, rfl, h1⟩ := am_l1_inv hs; obtain ⟨h2, h3⟩ := am_has_inv h1; cases h3; exact ⟨go_lstore_n hd h2, hs2 _ _⟩
  | astore i => obtain ⟨hd, rfl⟩ := hd' (Nat.succ_ne_zero _); obtain ⟨x, r, rfl, h1⟩ := am_r1_inv hs; obtain ⟨h2, h3⟩ := am_has_inv h1; cases h3; exact ⟨go_astore hd h2, hs1 _ _⟩
  | astore_n i => obtain ⟨hd, rfl⟩ := hd' (Nat.succ_ne_zero _); obtain ⟨x, r, rfl, h1⟩ := am_r1_inv hs; obtain ⟨h2, h3⟩ := am_has_inv h1; cases h3; exact ⟨go_astore_n hd h2, hs1 _ _⟩
  | iinc i n => obtain ⟨hd, rfl⟩ := hd' (Nat.succ_ne_zero _); obtain ⟨x, h1, h2⟩ := am_ldI_inv hs; cases h2; exact ⟨go_iinc hd h1, hs1 _ _⟩
  | iadd => obtain ⟨hd, rfl⟩ := hd' (Nat.succ_ne_zero _); obtain ⟨x, y, r, rfl, h1⟩ := am_i2_inv hs; cases h1; exact ⟨go_iadd hd, hlv⟩
  | isub => obtain ⟨hd, rfl⟩ := hd' (Nat.succ_ne_zero _); obtain ⟨x, y, r, rfl, h1⟩ := am_i2_inv hs; cases h1; exact ⟨go_isub hd, hlv⟩
  | imul => obtain ⟨hd, rfl⟩ := hd' (Nat.succ_ne_zero _); obtain ⟨x, y, r, rfl, h1⟩ := am_i2_inv hs; cases h1; exact ⟨go_imul hd, hlv⟩
  | idiv => obtain ⟨hd, rfl⟩ := hd' (Nat.succ_ne_zero _); obtain ⟨x, y, r, rfl, h1⟩ := am_i2_inv hs; cases h1; exact ⟨go_idiv hd (hP _ rfl), hlv⟩
  | irem => obtain ⟨hd, rfl⟩ := hd' (Nat.succ_ne_zero _); obtain ⟨x, y, r, rfl, h1⟩ := am_i2_inv hs; cases h1; exact ⟨go_irem hd (hP _ rfl), hlv⟩
  | iand => obtain ⟨hd, rfl⟩ := hd' (Nat.succ_ne_zero _); obtain ⟨x, y, r, rfl, h1⟩ := am_i2_inv hs; cases h1; exact ⟨go_iand hd, hlv⟩
  | ladd => obtain ⟨hd, rfl⟩ := hd' (Nat.succ_ne_zero _); obtain ⟨x, y, r, rfl, h1⟩ := am_l2_inv hs; cases h1; exact ⟨go_ladd hd, hlv⟩
  | lsub => obtain ⟨hd, rfl⟩ := hd' (Nat.succ_ne_zero _); obtain ⟨x, y, r, rfl, h1⟩ := am_l2_inv hs; cases h1; exact ⟨go_lsub hd, hlv⟩
  | lmul => obtain ⟨hd, rfl⟩ := hd' (Nat.succ_ne_zero _); obtain ⟨x, y, r, rfl, h1⟩ := am_l2_inv hs; cases h1; exact ⟨go_lmul hd, hlv⟩
  | land => obtain ⟨hd, rfl⟩ := hd' (Nat.succ_ne_zero _); obtain ⟨x, y, r, rfl, h1⟩ := am_l2_inv hs; cases h1; exact ⟨go_land hd, hlv⟩
  | lor => obtain ⟨hd, rfl⟩ := hd' (Nat.succ_ne_zero _); obtain ⟨x, y, r, rfl, h1⟩ := am_l2_inv hs; cases h1; exact ⟨go_lor hd, hlv⟩
  | lxor => obtain ⟨hd, rfl⟩ := hd' (Nat.succ_ne_zero _); obtain ⟨x, y, r, rfl, h1⟩ := am_l2_inv hs; cases h1; exact ⟨go_lxor hd, hlv⟩
  | lshl => obtain ⟨hd, rfl⟩ := hd' (Nat.succ_ne_zero _); obtain ⟨x, y, r, rfl, h1⟩ := am_li_inv hs; cases h1; exact ⟨go_lshl hd, hlv⟩
  | lshr => obtain ⟨hd, rfl⟩ := hd' (Nat.succ_ne_zero _); obtain ⟨x, y, r, rfl, h1⟩ := am_li_inv hs; cases h1; exact ⟨go_lshr hd, hlv⟩
  | lushr => obtain ⟨hd, rfl⟩ := hd' (Nat.succ_ne_zero _); obtain ⟨x, y, r, rfl, h1⟩ := am_li_inv hs; cases h1; exact ⟨go_lushr hd, hlv⟩
  | i2l => obtain ⟨hd, rfl⟩ := hd' (Nat.succ_ne_zero _); obtain ⟨x, r, rfl, h1⟩ := am_i1_inv hs; cases h1; exact ⟨go_i2l hd, hlv⟩
  | l2i => obtain ⟨hd, rfl⟩ := hd' (Nat.succ_ne_zero _); obtain ⟨x, r, rfl, h1⟩ := am_l1_inv hs; cases h1; exact ⟨go_l2i hd, hlv⟩
  | i2b => obtain ⟨hd, rfl⟩ := hd' (Nat.succ_ne_zero _); obtain ⟨x, r, rfl, h1⟩ := am_i1_inv hs; cases h1; exact ⟨go_i2b hd, hlv⟩
  | lcmp => obtain ⟨hd, rfl⟩ := hd' (Nat.succ_ne_zero _); obtain ⟨x, y, r, rfl, h1⟩ := am_l2_inv hs; cases h1; exact ⟨go_lcmp hd, hlv⟩
  | dup => obtain ⟨hd, rfl⟩ := hd' (Nat.succ_ne_zero _); obtain ⟨a, r, rfl, h1⟩ := am_s1_inv hs; obtain ⟨h2, h3⟩ := am_g1_inv h1; cases h3; exact ⟨go_dup hd h2, hlv⟩
  | pop => obtain ⟨hd, rfl⟩ := hd' (Nat.succ_ne_zero _); obtain ⟨a, r, rfl, h1⟩ := am_s1_inv hs; obtain ⟨h2, h3⟩ := am_g1_inv h1; cases h3; exact ⟨go_pop hd h2, hlv⟩
  | dup_x1 => obtain ⟨hd, rfl⟩ := hd' (Nat.succ_ne_zero _); obtain ⟨a, b, r, rfl, h1⟩ := am_s2_inv hs; obtain ⟨h2, h3⟩ := am_g1_inv h1; obtain ⟨h4, h5⟩ := am_g1_inv h3; cases h5; exact ⟨go_dup_x1 hd h2 h4, hlv⟩
  | dup_x2 => obtain ⟨hd, rfl⟩ := hd' (Nat.succ_ne_zero _); obtain ⟨a, b, e, r, rfl, h1⟩ := am_s3_inv hs; obtain ⟨h2, h3⟩ := am_g1_inv h1; obtain ⟨h4, h5⟩ := am_g1_inv h3; obtain ⟨h6, h7⟩ := am_g1_inv h5; cases h7; exact ⟨go_dup_x2 hd h2 h4 h6, hlv⟩
  | dup2 =>
    obtain ⟨hd, rfl⟩ := hd' (Nat.succ_ne_zero _)
    have hs : am_d2 _ lv st h = _ := hs
    unfold am_d2 at hs
    split at hs
    · cases hs; exact ⟨go_dup2_2 hd, hlv⟩
    · obtain ⟨h2, h3⟩ := am_g1_inv hs; obtain ⟨h4, h5⟩ := am_g1_inv h3; cases h5; exact ⟨go_dup2_11 hd h2 h4, hlv⟩
    · cases hs
  | goto off => obtain ⟨hd, -⟩ := hd' (Nat.succ_ne_zero _); cases hs; exact ⟨go_goto hd hk, hlv⟩
  | ifCond c off =>
    obtain ⟨hd, rfl⟩ := hd' (Nat.succ_ne_zero _)
    obtain ⟨x, r, rfl, h1⟩ := am_i1_inv hs
    have key : ∀ (cn : Prop), (cn → ¬ am_cond c x 0) → some (am_br ch (pc + 3) u lv r h (-2147483648 ≤ x ∧ x < 2147483648) (am_cond c x 0) cn) = some (pc', lv', st', h', P) → Go d N S L xs mid pc lv (vI x :: r) (toC h) pc' lv' st' (toC h') ∧ lv'.length = am_maxL mid := by
      intro cn hcn h1
      cases ch with
      | zero => cases h1; have q := hP _ rfl; exact ⟨go_if hd hk q.1 (Or.inr ⟨hcn q.2, rfl⟩), hlv⟩
      | succ ch => cases h1; have q := hP _ rfl; exact ⟨go_if hd hk q.1 (Or.inl ⟨q.2, rfl⟩), hlv⟩
    cases c
    · exact key _ id h1
    · exact key (x = 0) (fun q y => y q) h1
    · exact key (0 ≤ x) (fun q y => by have y : x < 0 := y; omega) h1
    · exact key (x < 0) (fun q y => by have y : 0 ≤ x := y; omega) h1
    · exact key (x ≤ 0) (fun q y => by have y : 0 < x := y; omega) h1
    · exact key (0 < x) (fun q y => by have y : x ≤ 0 := y; omega) h1
  | if_icmp c off =>
    obtain ⟨hd, rfl⟩ := hd' (Nat.succ_ne_zero _)
    obtain ⟨x, y, r, rfl, h1⟩ := am_i2_inv hs
    have key : ∀ (cn : Prop), (cn → ¬ am_cond c x y) → some (am_br ch (pc + 3) u lv r h ((-2147483648 ≤ x ∧ x < 2147483648) ∧ (-2147483648 ≤ y ∧ y < 2147483648)) (am_cond c x y) cn) = some (pc', lv', st', h', P) → Go d N S L xs mid pc lv (vI y :: vI x :: r) (toC h) pc' lv' st' (toC h') ∧ lv'.length = am_maxL mid := by
      intro cn hcn h1
      cases ch with
      | zero => cases h1; have q := hP _ rfl; exact ⟨go_icmp hd hk q.1.1 q.1.2 (Or.inr ⟨hcn q.2, rfl⟩), hlv⟩
      | succ ch => cases h1; have q := hP _ rfl; exact ⟨go_icmp hd hk q.1.1 q.1.2 (Or.inl ⟨q.2, rfl⟩), hlv⟩
    cases c
    · exact key _ id h1
    · exact key (x = y) (fun q z => z q) h1
    · exact key (y ≤ x) (fun q z => by have z : x < y := z; omega) h1
    · exact key (x < y) (fun q z => by have z : y ≤ x := z; omega) h1
    · exact key (x ≤ y) (fun q z => by have z : y < x := z; omega) h1
    · exact key (y < x) (fun q z => by have z : x ≤ y := z; omega) h1
  | tableswitch dflt lo hi offs =>
    obtain ⟨x, r, rfl, h1⟩ := am_i1_inv hs
    cases ho : offs[ch]? with
    | none =>
      rw [ho] at h1
      cases h1
      have q := hP _ rfl
      exact ⟨go_tabOut hd0 q.1 q.2.1 (Int.toNat_of_nonneg q.2.2).symm, hlv⟩
    | some off =>
      rw [ho] at h1
      cases h1
      have q := hP _ rfl
      obtain ⟨q1, q2, q3, q4⟩ := q
      exact ⟨go_tabIn (off := off) hd0 q1 (by omega) q3 (by rw [show (x - lo).toNat = ch by omega]; exact ho) (Int.toNat_of_nonneg q4).symm, hlv⟩
  | lookupswitch dflt ps =>
    obtain ⟨x, r, rfl, h1⟩ := am_i1_inv hs
    cases h1
    have q := hP _ rfl
    exact ⟨go_look hd0 q.1 hk (am_lk_off q.2.1) (Int.toNat_of_nonneg q.2.2).symm, hlv⟩
  | getfield idx =>
    obtain ⟨hd, rfl⟩ := hd' (Nat.succ_ne_zero _)
    obtain ⟨r, rest, rfl, h1⟩ := am_r1_inv hs
    obtain ⟨C, T, nF, k1, k2, k3⟩ := hk
    cases r with
    | zero => cases h1
    | succ r =>
      obtain ⟨x, h2, h3⟩ := Option.map_eq_some_iff.mp (show (O.1 h u r v).map _ = _ from h1)
      cases h3
      obtain ⟨fs, h4, h5⟩ := O1 _ _ _ _ _ h2
      exact ⟨go_get hd k1 k2 k3 h4 h5, hlv⟩
  | putfield idx =>
    obtain ⟨hd, rfl⟩ := hd' (Nat.succ_ne_zero _)
    obtain ⟨r, x, rest, rfl, h1⟩ := am_vr_inv hs
    obtain ⟨C, T, nF, k1, k2, k3, k4⟩ := hk
    cases r with
    | zero => cases h1
    | succ r =>
      have h1 : am_wrF O _ u v lv h (r + 1) x rest = _ := h1
      unfold am_wrF at h1
      dsimp only at h1
      split at h1
      · next P1 hf =>
        obtain ⟨h6, h2, h3⟩ := Option.map_eq_some_iff.mp h1
        cases h3
        obtain ⟨fs, h4, h5, h7⟩ := O2 _ _ _ _ _ _ h2
        rw [h7]
        exact ⟨go_put hd k1 k2 k3 k4 h4 h5 (am_fitO_ok hf hP), hlv⟩
      · cases h1
  | iaload =>
    obtain ⟨hd, rfl⟩ := hd' (Nat.succ_ne_zero _)
    obtain ⟨r, i, rest, rfl, h1⟩ := am_ir_inv hs
    unfold am_rdI at h1
    split at h1
    · split at h1
      · next hm => cases h1; exact ⟨go_sald hm hd (hP _ rfl), hlv⟩
      · cases h1
    · split at h1
      · next hq => cases h1; exact ⟨go_iald hd (O3 _ _ _ hq) (hP _ rfl), hlv⟩
      · cases h1
  | laload =>
    obtain ⟨hd, rfl⟩ := hd' (Nat.succ_ne_zero _)
    obtain ⟨r, i, rest, rfl, h1⟩ := am_ir_inv hs
    unfold am_rdL at h1
    split at h1
    · cases h1
    · split at h1
      · next hq => cases h1; exact ⟨go_lald hd (O3 _ _ _ hq) (hP _ rfl), hlv⟩
      · cases h1
  | baload =>
    obtain ⟨hd, rfl⟩ := hd' (Nat.succ_ne_zero _)
    obtain ⟨r, i, rest, rfl, h1⟩ := am_ir_inv hs
    unfold am_rdB at h1
    split at h1
    · cases h1
    · split at h1
      · next hq => cases h1; exact ⟨go_bald hd (O3 _ _ _ hq) (hP _ rfl), hlv⟩
      · next hq => cases h1; exact ⟨go_zald hd (O3 _ _ _ hq) (hP _ rfl), hlv⟩
      · cases h1
  | iastore =>
    obtain ⟨hd, rfl⟩ := hd' (Nat.succ_ne_zero _)
    obtain ⟨r, i, x, rest, rfl, h1⟩ := am_vir_inv hs
    unfold am_wrI at h1
    split at h1
    · split at h1
      · next hq =>
        obtain ⟨h6, h2, h3⟩ := Option.map_eq_some_iff.mp h1
        cases h3
        rw [O4 _ _ _ _ _ _ _ hq h2]
        exact ⟨go_iast hd (O3 _ _ _ hq) (hP _ rfl), hlv⟩
      · cases h1
    · cases h1
  | lastore =>
    obtain ⟨hd, rfl⟩ := hd' (Nat.succ_ne_zero _)
    obtain ⟨r, i, x, rest, rfl, h1⟩ := am_vir_inv hs
    unfold am_wrL at h1
    split at h1
    · split at h1
      · next hq =>
        obtain ⟨h6, h2, h3⟩ := Option.map_eq_some_iff.mp h1
        cases h3
        rw [O4 _ _ _ _ _ _ _ hq h2]
        exact ⟨go_last hd (O3 _ _ _ hq) (hP _ rfl), hlv⟩
      · cases h1
    · cases h1
  | bastore =>
    obtain ⟨hd, rfl⟩ := hd' (Nat.succ_ne_zero _)
    obtain ⟨r, i, x, rest, rfl, h1⟩ := am_vir_inv hs
    unfold am_wrB at h1
    split at h1
    · split at h1
      · next hq =>
        obtain ⟨h6, h2, h3⟩ := Option.map_eq_some_iff.mp h1
        cases h3
        rw [O4 _ _ _ _ _ _ _ hq h2]
        exact ⟨go_bast hd (O3 _ _ _ hq) (hP _ rfl).1 (hP _ rfl).2, hlv⟩
      · next hq =>
        obtain ⟨h6, h2, h3⟩ := Option.map_eq_some_iff.mp h1
        cases h3
        rw [O4 _ _ _ _ _ _ _ hq h2]
        exact ⟨go_zast hd (O3 _ _ _ hq) (hP _ rfl).1 (hP _ rfl).2, hlv⟩
      · cases h1
    · cases h1
  | arraylength =>
    obtain ⟨hd, rfl⟩ := hd' (Nat.succ_ne_zero _)
    obtain ⟨r, rest, rfl, h1⟩ := am_r1_inv hs
    unfold am_rdN at h1
    split at h1
    · split at h1
      · next hm => cases h1; exact ⟨go_slen hm hd, hlv⟩
      · cases h1
    · split at h1
      · next hq =>
        obtain ⟨t0, h2, h3⟩ := Option.map_eq_some_iff.mp h1
        cases h3
        exact ⟨go_alen hd h2 (O3 _ _ _ hq), hlv⟩
      · cases h1
  | new idx =>
    obtain ⟨hd, rfl⟩ := hd' (Nat.succ_ne_zero _)
    obtain ⟨C, T, nF, k1, k2⟩ := hk
    obtain ⟨q, h1, h2⟩ := Option.map_eq_some_iff.mp (show (O.2.2.2.2.1 h N S u).map _ = _ from hs)
    cases h2
    obtain ⟨h3, h4, h5, h6⟩ := O5 _ _ _ _ _ h1 (hP _ rfl)
    rw [h3, h4]
    exact ⟨go_new hd k1 k2 h5 (by rw [am_cl_len k1] at h6; exact h6), hlv⟩
  | newarray a =>
    obtain ⟨hd, rfl⟩ := hd' (Nat.succ_ne_zero _)
    obtain ⟨n, r, rfl, h1⟩ := am_i1_inv hs
    cases ha : am_at a with
    | none => rw [ha] at h1; cases h1
    | some q =>
      obtain ⟨ty, F⟩ := q
      rw [ha] at h1
      obtain ⟨q, h2, h3⟩ := Option.map_eq_some_iff.mp (show (O.2.2.2.2.2.1 h N S ty n F).map _ = _ from h1)
      cases h3
      obtain ⟨h4, h5, h6, h7, h8⟩ := O6 _ _ _ _ _ _ _ h2 (hP _ rfl)
      rw [h4, h5]
      exact ⟨go_newa hd ha h6 h7 h8, hlv⟩
  | invokespecial idx =>
    obtain ⟨hd, rfl⟩ := hd' (Nat.succ_ne_zero _)
    by_cases hv : v = 1
    · subst hv
      obtain ⟨r, rest, rfl, h1⟩ := am_r1_inv (show am_r1 st _ = _ from hs)
      cases h1
      exact ⟨go_obj hd (hk rfl) (hP _ rfl) hlv, hlv⟩
    · exfalso
      unfold am_step at hs
      dsimp only at hs
      split at hs
      · exact hv rfl
      · cases hs
  | invokestatic idx =>
    obtain ⟨hd, rfl⟩ := hd' (Nat.succ_ne_zero _)
    by_cases hv : v = 1
    · subst hv
      have hs : am_copy O _ lv st h = _ := hs
      unfold am_copy at hs
      split at hs
      · split at hs
        · next hq1 hq2 =>
          obtain ⟨h6, h2, h3⟩ := Option.map_eq_some_iff.mp hs
          cases h3
          rw [O4 _ _ _ _ _ _ _ hq2 h2]
          exact ⟨go_copy hd (hk.1 rfl) (O3 _ _ _ hq1) (O3 _ _ _ hq2) (hP _ rfl) hlv, hlv⟩
        · cases hs
      · cases hs
    · by_cases hv2 : v = 2
      · subst hv2
        obtain ⟨x, y, r, rfl, h1⟩ := am_i2_inv (show am_i2 st _ = _ from hs)
        cases h1
        exact ⟨go_max hd (hk.2 rfl) (hP _ rfl) hlv, hlv⟩
      · exfalso
        unfold am_step at hs
        dsimp only at hs
        split at hs
        · exact hv rfl
        · exact hv2 rfl
        · cases hs
  | _ => cases hs
def am_pand (P : Option Prop) (Q : Prop) : Prop := match P with
  | none => Q
  | some P => P ∧ Q
/-- the code that cd tells is the method's -/
def am_CD (mid : am_M) (cd : Nat → Option am_I) : Prop := ∀ (pc : Nat) (ins : Instr) (nx u v : Nat), cd pc = some (ins, nx, u, v) → decode (am_bytes mid) pc = .ok (ins, nx - pc) ∧ (am_len ins = 0 ∨ nx = pc + am_len ins) ∧ am_lk mid pc nx ins u v
def am_path (cd : Nat → Option am_I) (O : am_O Hp) (N S L : Nat) (xs : Nat → Int) (mid : am_M) : Nat → List Nat → Nat → am_L → List am_V → Hp → Option (Nat × am_L × List am_V × Hp × Prop)
  | 0, _, pc, lv, st, h => some (pc, lv, st, h, True)
  | n + 1, ch, pc, lv, st, h => match cd pc with
    | none => none
    | some (ins, nx, u, v) => match am_step O N S L xs mid (ch.headD 0) ins nx u v pc lv st h with
      | none => none
      | some (pc1, lv1, st1, h1, P1) => match am_path cd O N S L xs mid n (bif am_isBr ins then ch.tail else ch) pc1 lv1 st1 h1 with
        | none => none
        | some (pc2, lv2, st2, h2, P2) => some (pc2, lv2, st2, h2, am_pand P1 P2)
theorem am_path_ok {cd : Nat → Option am_I} (hcd : am_CD mid cd) (hO : am_Law O toC) : ∀ (n : Nat) (ch : List Nat) (pc : Nat) (lv : am_L) (st : List am_V) (h : Hp) (pc' : Nat) (lv' : am_L) (st' : List am_V) (h' : Hp) (P : Prop), lv.length = am_maxL mid → am_path cd O N S L xs mid n ch pc lv st h = some (pc', lv', st', h', P) → P → Go d N S L xs mid pc lv st (toC h) pc' lv' st' (toC h') ∧ lv'.length = am_maxL mid := by
  intro n
  induction n with
  | zero => intro ch pc lv st h pc' lv' st' h' P hl hp _; cases hp; exact ⟨Go.rfl', hl⟩
  | succ n ih =>
    intro ch pc lv st h pc' lv' st' h' P hl hp hP
    unfold am_path at hp
    split at hp
    · cases hp
    · next ins nx u v hc =>
      obtain ⟨c1, c2, c3⟩ := hcd _ _ _ _ _ hc
      split at hp
      · cases hp
      · next pc1 lv1 st1 h1 P1 hs =>
        split at hp
        · cases hp
        · next pc2 lv2 st2 h2 P2 hq =>
          cases hp
          have hP1 : (∀ q, P1 = some q → q) ∧ P2 := by
            cases P1 with
            | none => exact ⟨fun q hq => (by cases hq), hP⟩
            | some Q => exact ⟨fun q hq => (by cases hq; exact hP.1), hP.2⟩
          obtain ⟨g1, l1⟩ := am_step_ok (d := d) hO hl c1 c2 c3 hs hP1.1
          obtain ⟨g2, l2⟩ := ih _ _ _ _ _ _ _ _ _ _ l1 hq hP1.2
          exact ⟨g1.trans g2, l2⟩
theorem Go.path {cd : Nat → Option am_I} (hcd : am_CD mid cd) (hO : am_Law O toC) (n : Nat) (ch : List Nat) {P : Prop} (hp : am_path cd O N S L xs mid n ch pc lv st h = some (pc', lv', st', h', P)) (hP : P) (hl : lv.length = am_maxL mid) : Go d N S L xs mid pc lv st (toC h) pc' lv' st' (toC h') := (am_path_ok hcd hO n ch pc lv st h pc' lv' st' h' P hl hp hP).1
end SOUND
end
section
/-! ===== what the printed lists must keep ===== -/
def am_flok (own : String) (l : List (Nat × Nat × Nat)) : Prop := ∀ e ∈ l, ∃ C T nF, am_cl[e.2.1]? = some (C, T, nF) ∧ e.2.2 < nF ∧ am_fw own e.1 C T e.2.2
def am_fl1 (own : String) (e : Nat × Nat × Nat) (p : Nat) : Bool := match am_cl[e.2.1]? with
  | some (C, T, nF) => decide (e.2.2 < nF) && (decide ((T e.2.2).1 = C) && decide (lw_tbl[p]? = some (Jvm.Cond.fieldLink own e.1 C (T e.2.2).2.1 (T e.2.2).2.2.1)))
  | none => false
def am_flb (own : String) : List (Nat × Nat × Nat) → List Nat → Bool
  | [], _ => true
  | e :: l, p :: ps => am_fl1 own e p && am_flb own l ps
  | _ :: _, [] => false
theorem am_flok_of {own : String} (l : List (Nat × Nat × Nat)) : ∀ (ps : List Nat), am_flb own l ps = true → am_flok own l := by
  induction l with
  | nil => intro ps _ e he; cases he
  | cons a l ih =>
    intro ps h
    cases ps with
    | nil => cases h
    | cons p ps =>
      have h : (am_fl1 own a p && am_flb own l ps) = true := h
      rw [Bool.and_eq_true] at h
      intro e he
      rcases List.mem_cons.mp he with rfl | he
      · have h1 := h.1
        unfold am_fl1 at h1
        split at h1
        · next C T nF hc =>
          simp only [Bool.and_eq_true, decide_eq_true_eq] at h1
          exact ⟨C, T, nF, hc, h1.1, h1.2.1, am_one p h1.2.2 rfl⟩
        · cases h1
      · exact ih ps h.2 e he
def am_cnok (own : String) (l : List (Nat × Nat)) : Prop := ∀ e ∈ l, ∃ C T nF, am_cl[e.2]? = some (C, T, nF) ∧ Jvm.Cond.classLink own e.1 C ∈ am_TS
def am_cn1 (own : String) (e : Nat × Nat) (p : Nat) : Bool := match am_cl[e.2]? with
  | some (C, _, _) => decide (lw_tbl[p]? = some (Jvm.Cond.classLink own e.1 C))
  | none => false
def am_cnb (own : String) : List (Nat × Nat) → List Nat → Bool
  | [], _ => true
  | e :: l, p :: ps => am_cn1 own e p && am_cnb own l ps
  | _ :: _, [] => false
theorem am_cnok_of {own : String} (l : List (Nat × Nat)) : ∀ (ps : List Nat), am_cnb own l ps = true → am_cnok own l := by
  induction l with
  | nil => intro ps _ e he; cases he
  | cons a l ih =>
    intro ps h
    cases ps with
    | nil => cases h
    | cons p ps =>
      have h : (am_cn1 own a p && am_cnb own l ps) = true := h
      rw [Bool.and_eq_true] at h
      intro e he
      rcases List.mem_cons.mp he with rfl | he
      · have h1 := h.1
        unfold am_cn1 at h1
        split at h1
        · next C T nF hc => exact ⟨C, T, nF, hc, am_one p (of_decide_eq_true h1) rfl⟩
        · cases h1
      · exact ih ps h.2 e he
def am_klok (own : String) (l : List (Nat × Nat)) : Prop := ∀ e ∈ l, Jvm.Cond.constantLong own e.1 (Int64.ofNat e.2) ∈ am_TS
def am_klb (own : String) : List (Nat × Nat) → List Nat → Bool
  | [], _ => true
  | e :: l, p :: ps => decide (lw_tbl[p]? = some (Jvm.Cond.constantLong own e.1 (Int64.ofNat e.2))) && am_klb own l ps
  | _ :: _, [] => false
theorem am_klok_of {own : String} (l : List (Nat × Nat)) : ∀ (ps : List Nat), am_klb own l ps = true → am_klok own l := by
  induction l with
  | nil => intro ps _ e he; cases he
  | cons a l ih =>
    intro ps h
    cases ps with
    | nil => cases h
    | cons p ps =>
      have h : (decide (lw_tbl[p]? = some (Jvm.Cond.constantLong own a.1 (Int64.ofNat a.2))) && am_klb own l ps) = true := h
      rw [Bool.and_eq_true] at h
      intro e he
      rcases List.mem_cons.mp he with rfl | he
      · exact am_one p (of_decide_eq_true h.1) rfl
      · exact ih ps h.2 e he
def am_pn (k : Nat) : MethodName := match k with
  | 0 => objectInit
  | 1 => arraycopyName
  | _ => Lib.Math.max.name
def am_plok (own : String) (l : List (Nat × Nat)) : Prop := ∀ e ∈ l, Jvm.Cond.methodLink own e.1 (am_pn e.2) ∈ am_TS
def am_plb (own : String) : List (Nat × Nat) → List Nat → Bool
  | [], _ => true
  | e :: l, p :: ps => decide (lw_tbl[p]? = some (Jvm.Cond.methodLink own e.1 (am_pn e.2))) && am_plb own l ps
  | _ :: _, [] => false
theorem am_plok_of {own : String} (l : List (Nat × Nat)) : ∀ (ps : List Nat), am_plb own l ps = true → am_plok own l := by
  induction l with
  | nil => intro ps _ e he; cases he
  | cons a l ih =>
    intro ps h
    cases ps with
    | nil => cases h
    | cons p ps =>
      have h : (decide (lw_tbl[p]? = some (Jvm.Cond.methodLink own a.1 (am_pn a.2))) && am_plb own l ps) = true := h
      rw [Bool.and_eq_true] at h
      intro e he
      rcases List.mem_cons.mp he with rfl | he
      · exact am_one p (of_decide_eq_true h.1) rfl
      · exact ih ps h.2 e he
def am_lkb (mid : am_M) (fl : List (Nat × Nat × Nat)) (cn kl pl : List (Nat × Nat)) (pc : Nat) (ins : Instr) (u v : Nat) : Bool := match ins with
  | .bipush n => decide (-128 ≤ n) && decide (n ≤ 127)
  | .sipush n => decide (-32768 ≤ n) && decide (n ≤ 32767)
  | .ldc2_w i => decide ((i, u) ∈ kl)
  | .goto off => decide ((pc : Int) + off = (u : Int))
  | .ifCond _ off => decide ((pc : Int) + off = (u : Int))
  | .if_icmp _ off => decide ((pc : Int) + off = (u : Int))
  | .lookupswitch _ ps => (ps.toList.zip (ps.toList.drop 1)).all (fun (a, next) => a.1 < next.1)
  | .getfield idx => decide ((idx, u, v) ∈ fl)
  | .putfield idx => decide ((idx, u, v) ∈ fl) && (match am_cl[u]? with
    | some (C, T, _) => !(T v).2.2.2 || (am_init mid && decide (C = am_own mid))
    | none => false)
  | .new idx => decide ((idx, u) ∈ cn)
  | .invokespecial idx => !(Nat.beq v 1) || decide ((idx, 0) ∈ pl)
  | .invokestatic idx => Nat.beq v 0 || decide ((idx, v) ∈ pl)
  | _ => true
theorem am_lk_of {mid : am_M} {fl : List (Nat × Nat × Nat)} {cn kl pl : List (Nat × Nat)} (h1 : am_flok (am_own mid) fl) (h2 : am_cnok (am_own mid) cn) (h3 : am_klok (am_own mid) kl) (h4 : am_plok (am_own mid) pl) {pc nx : Nat} {ins : Instr} {u v : Nat} (h : am_lkb mid fl cn kl pl pc ins u v = true) : am_lk mid pc nx ins u v := by
  cases ins with
  | bipush n => have h : (decide (-128 ≤ n) && decide (n ≤ 127)) = true := h; simp only [Bool.and_eq_true, decide_eq_true_eq] at h; exact h
  | sipush n => have h : (decide (-32768 ≤ n) && decide (n ≤ 32767)) = true := h; simp only [Bool.and_eq_true, decide_eq_true_eq] at h; exact h
  | ldc2_w i => exact h3 _ (of_decide_eq_true h)
  | goto off => exact (of_decide_eq_true h : (pc : Int) + off = (u : Int))
  | ifCond c off => exact (of_decide_eq_true h : (pc : Int) + off = (u : Int))
  | if_icmp c off => exact (of_decide_eq_true h : (pc : Int) + off = (u : Int))
  | lookupswitch d ps => exact h
  | getfield idx => exact h1 _ (of_decide_eq_true h)
  | putfield idx =>
    have h : (decide ((idx, u, v) ∈ fl) && (match am_cl[u]? with
      | some (C, T, _) => !(T v).2.2.2 || (am_init mid && decide (C = am_own mid))
      | none => false)) = true := h
    rw [Bool.and_eq_true] at h
    obtain ⟨C, T, nF, k1, k2, k3⟩ := h1 _ (of_decide_eq_true h.1)
    have h5 := h.2
    have k1 : am_cl[u]? = some (C, T, nF) := k1
    rw [k1] at h5
    refine ⟨C, T, nF, k1, k2, k3, fun q => ?_⟩
    have h5 : (!(T v).2.2.2 || (am_init mid && decide (C = am_own mid))) = true := h5
    rw [q] at h5
    simpa using h5
  | new idx => exact h2 _ (of_decide_eq_true h)
  | invokespecial idx =>
    intro q
    subst q
    have h : (!(Nat.beq 1 1) || decide ((idx, 0) ∈ pl)) = true := h
    exact h4 (idx, 0) (of_decide_eq_true h)
  | invokestatic idx =>
    refine ⟨fun q => ?_, fun q => ?_⟩
    · subst q
      have h : (Nat.beq 1 0 || decide ((idx, 1) ∈ pl)) = true := h
      exact h4 (idx, 1) (of_decide_eq_true h)
    · subst q
      have h : (Nat.beq 2 0 || decide ((idx, 2) ∈ pl)) = true := h
      exact h4 (idx, 2) (of_decide_eq_true h)
  | _ => exact trivial
def am_cd1 (mid : am_M) (fl : List (Nat × Nat × Nat)) (cn kl pl : List (Nat × Nat)) (pc : Nat) (q : Option am_I) : Bool := match q with
  | none => true
  | some (ins, nx, u, v) => decide (decode (am_bytes mid) pc = .ok (ins, nx - pc)) && ((Nat.beq (am_len ins) 0 || Nat.beq nx (pc + am_len ins)) && am_lkb mid fl cn kl pl pc ins u v)
theorem am_CD_of {mid : am_M} {fl : List (Nat × Nat × Nat)} {cn kl pl : List (Nat × Nat)} {cd : Nat → Option am_I} (n : Nat) (h1 : am_flok (am_own mid) fl) (h2 : am_cnok (am_own mid) cn) (h3 : am_klok (am_own mid) kl) (h4 : am_plok (am_own mid) pl) (hge : ∀ pc, n ≤ pc → cd pc = none) (h : (List.range n).all (fun pc => am_cd1 mid fl cn kl pl pc (cd pc)) = true) : am_CD mid cd := by
  intro pc ins nx u v hc
  have hlt : pc < n := by
    by_cases hlt : pc < n
    · exact hlt
    · rw [hge pc (by omega)] at hc; cases hc
  have h5 := List.all_eq_true.mp h pc (List.mem_range.mpr hlt)
  rw [hc] at h5
  have h5 : (decide (decode (am_bytes mid) pc = .ok (ins, nx - pc)) && ((Nat.beq (am_len ins) 0 || Nat.beq nx (pc + am_len ins)) && am_lkb mid fl cn kl pl pc ins u v)) = true := h5
  rw [Bool.and_eq_true, Bool.and_eq_true, Bool.or_eq_true] at h5
  refine ⟨of_decide_eq_true h5.1, ?_, am_lk_of h1 h2 h3 h4 h5.2.2⟩
  rcases h5.2.1 with q | q
  · exact Or.inl (Nat.eq_of_beq_eq_true q)
  · exact Or.inr (Nat.eq_of_beq_eq_true q)
end
section
/-! a method's contract, and calls -/
def am_ws (mid : am_M) : List Jvm.Cond := Jvm.Cond.code (am_y mid) (am_bytes mid) (am_maxL mid) (am_ret mid) :: am_TS
def am_room (d mc ms : Nat) : Room := { frames := d + 1, cells := mc, slots := ms, locals := am_lw * (d + 1) }
def am_Pc (b z : Nat) (tA : FieldType → ClassId) (D : va_G) (as : List am_V) (h : am_H) : Array Value → State → Prop := fun v U => v = (as.map (am_c b z)).toArray ∧ (U.heap.size = z + h.length ∧ va_P D am_cl (am_cw b z tA 0 h) U.heap ∧ va_K D am_cl (am_tys tA) U)
def am_Qc (b z : Nat) (tA : FieldType → ClassId) (D : va_G) (r : Option am_V) (h' : am_H) : Array Value → State → Outcome → State → Prop := fun _ st oc t => oc = .returned (r.map (am_c b z)) ∧ va_P D am_cl (am_cw b z tA 0 h') t.heap ∧ va_F (fun q => z ≤ q) st t
/-- method mid, called with as over the heap h, returns r and leaves the heap h' -/
def Cl (d : Nat) (mid : am_M) (as : List am_V) (h : am_H) (r : Option am_V) (h' : am_H) : Prop :=
  h.length ≤ h'.length ∧ am_sl h ≤ am_sl h' ∧ ∀ (l : Launch) (b z : Nat) (tA : FieldType → ClassId) (D : va_G), Met l (am_y mid) (am_ws mid) (am_room d (h'.length - h.length) (am_sl h' - am_sl h)) (am_Pc b z tA D as h) (am_Qc b z tA D r h') (h'.length - h.length) (am_sl h' - am_sl h) (fun q => z ≤ q)
theorem am_good {mid mid' : am_M} (hm : Jvm.Cond.code (am_y mid') (am_bytes mid') (am_maxL mid') (am_ret mid') ∈ am_TS) : GoodIn (am_ws mid) (am_ws mid') := by
  intro w hw
  have h1 : w ∈ am_TS := by
    rcases List.mem_cons.mp hw with rfl | hw
    · exact hm
    · exact hw
  exact ⟨List.mem_cons_of_mem _ h1, good_of_word (am_TS_good w h1)⟩
theorem am_good0 {mid' : am_M} (hm : Jvm.Cond.code (am_y mid') (am_bytes mid') (am_maxL mid') (am_ret mid') ∈ am_TS) : GoodIn am_TS (am_ws mid') := by
  intro w hw
  have h1 : w ∈ am_TS := by
    rcases List.mem_cons.mp hw with rfl | hw
    · exact hm
    · exact hw
  exact ⟨h1, good_of_word (am_TS_good w h1)⟩
theorem am_blind (b z : Nat) (tA : FieldType → ClassId) (D : va_G) (as : List am_V) (h : am_H) : FrameBlind (am_Pc b z tA D as h) := fun a U g mk q => by
  obtain ⟨q0, q1, qP, qK⟩ := q
  exact ⟨q0, q1, qP, va_K.moved (u := U) (U := U.calling g mk a) (Vm.Alike.refl U.vm) qK⟩
/-- the body of a method up to its return is its contract -/
theorem Cl.body {d : Nat} {mid : am_M} {as : List am_V} {h h' : am_H} {r : Option am_V} {pc' : Nat} {lv' : am_L} (hy : plainName (am_y mid).cls = true) (hi : am_init mid = true → (am_y mid).name = "<init>") (h0 : am_law mid = false) (hn : (am_ea as).length ≤ am_maxL mid) (hl : h.length ≤ h'.length) (hs : am_sl h ≤ am_sl h')
    (g : Go d h'.length (am_sl h') 0 (fun _ => 0) mid 0 (am_ent (am_maxL mid) as) [] h pc' lv' r.toList h')
    (hret : (r = none ∧ am_ret mid = none ∧ decode (am_bytes mid) pc' = .ok (.return_, 1)) ∨ (∃ x, r = some (vI x) ∧ am_ret mid = some .int ∧ decode (am_bytes mid) pc' = .ok (.ireturn, 1)) ∨ (∃ x, r = some (vI x) ∧ (x = 0 ∨ x = 1) ∧ am_ret mid = some .boolean ∧ decode (am_bytes mid) pc' = .ok (.ireturn, 1)) ∨ (∃ x, r = some (vL x) ∧ am_ret mid = some .long ∧ decode (am_bytes mid) pc' = .ok (.lreturn, 1))) : Cl d mid as h r h' := by
  refine ⟨hl, hs, fun l b z tA D => ?_⟩
  refine Met.ofW (cc := am_bytes mid) (maxL := am_maxL mid) (ret := am_ret mid) hy rfl ?_
  intro p e s m args below meth c s₁ B hml hv
  obtain ⟨rfl, hsz, hP, hK⟩ := hv
  have hx := B.exec
  have hb := B.bytes
  have hr := B.returns
  have hts := atoms_spec (ws := am_ws mid) B.pre
  have hown2 : s.vm.findClass (am_own mid) = some m.cls := findClass_of_methodNamed B.named
  have hlocks := B.notSynchronized
  have hin : am_init mid = true → meth.name = "<init>" := fun q => by rw [(name_of_methodNamed B.named B.method).1]; exact hi q
  rw [lg_entry_eq]
  have hlv := am_ent_lv b z (am_maxL mid) as hn
  refine g p l e _ s m _ below meth c _ b z h.length (am_sl h) tA D ⟨hx, hb, hml, hown2, fun w hw => hts w (List.mem_cons_of_mem _ hw), hK, hsz, hin, Nat.le_refl _, Nat.le_refl _, ?_, ?_, fun q => by rw [h0] at q; cases q⟩ ?_ s.heap [] _ 0 0 hlv hP va_S.rf ⟨rfl, hl⟩ ⟨rfl, hs⟩
  · show h'.length ≤ h.length + (h'.length - h.length)
    omega
  · show am_sl h' ≤ am_sl h + (am_sl h' - am_sl h)
    omega
  · intro H locs ls cells slots hl1 hP1 hS1 hc1 hs1
    have e1 : h'.length - h.length = cells := by omega
    have e2 : am_sl h' - am_sl h = slots := by omega
    rw [e1, e2]
    rcases hret with ⟨rfl, hrt, hd⟩ | ⟨x, rfl, hrt, hd⟩ | ⟨x, rfl, hx01, hrt, hd⟩ | ⟨x, rfl, hrt, hd⟩
    · exact W.vret hx hb (by rw [hr, hrt]) (fun t ht hW => ⟨rfl, by rw [ht]; exact hP1, hS1.F ht⟩) hS1.2.2 hd
    · exact W.iret hx hb (by rw [hr, hrt]) (fun t ht hW => ⟨rfl, by rw [ht]; exact hP1, hS1.F ht⟩) hS1.2.2 hd
    · exact W.zret (ty := .boolean) hx hb (by rw [hr, hrt]) (by rcases hx01 with rfl | rfl <;> decide) (fun t ht hW => ⟨rfl, by rw [ht]; exact hP1, hS1.F ht⟩) hS1.2.2 hd
    · exact W.lret hx hb (by rw [hr, hrt]) (fun t ht hW => ⟨rfl, by rw [ht]; exact hP1, hS1.F ht⟩) hS1.2.2 hd
/-- behind a call -/
theorem am_back {p : Program} {l : Launch} {e : Env} {R : Room} {s : State} {m : MethodId} {args : Array Value} {below : List Frame} {meth : Method} {c : Code} {H : Heap} {locs : List Loc} {cells slots mc ms : Nat} {Q : State → Prop} {pc : Nat} {ls : Array Slot} {st0 rest : List Value} {a : Array Value} {b z : Nat} {tA : FieldType → ClassId} {D : va_G} {r : Option am_V} {h' : am_H}
    (hr : va_Run p l e R s m args below meth c H locs cells slots mc ms (F0 m pc ls st0) rest (am_Qc b z tA D r h' a) (fun q => z ≤ q)) (hS : va_S (fun q => z ≤ q) s.heap H locs)
    (kk : ∀ (H1 : Heap) (locs1 : List Loc), va_P D am_cl (am_cw b z tA 0 h') H1 → va_S (fun q => z ≤ q) s.heap H1 locs1 → W p l e R s m args below meth c H1 locs1 (cells + mc) (slots + ms) Q (F0 m (pc + 3) ls ((r.map (am_c b z)).toList ++ rest))) : W p l e R s m args below meth c H locs cells slots Q (F0 m pc ls st0) := by
  intro T hT X
  obtain ⟨v, st₀, t, T', L, h0, X', hL, e1, e2, ⟨hv, hb, hz, hk⟩, st⟩ := hr T hT X
  cases hv
  rw [h0] at hz hk
  obtain ⟨t2, a1, b1⟩ := kk T'.heap (locs ++ L) (by rw [e1]; exact hb)
    ⟨Nat.le_trans hS.1 (by rw [e1]; exact hz), fun q h1 h2 => by rw [e1, hk q (Nat.lt_of_lt_of_le h1 hS.1) h2]; exact hS.2.1 q h1 h2, fun q hq => by
      rcases List.mem_append.mp hq with h | h
      · exact hS.2.2 q h
      · exact hL q h⟩ T' rfl X'
  exact ⟨t2, st t2 a1, b1⟩
theorem am_heapsize {b z n0 cells : Nat} {tA : FieldType → ClassId} {D : va_G} {h : am_H} {s : State} {H : Heap} {locs : List Loc} (hP : va_P D am_cl (am_cw b z tA 0 h) H) (hS : va_S (fun q => z ≤ q) s.heap H locs) (hz : s.heap.size = z + n0) (hc : h.length = n0 + cells) (hsz : H.size ≤ s.heap.size + cells) : H.size = z + h.length := by
  have h1 := hS.1
  cases hcl : cells with
  | zero => omega
  | succ k =>
    have hlt : h.length - 1 < h.length := by omega
    have hg : h[h.length - 1]? = some h[h.length - 1] := List.getElem?_eq_getElem hlt
    have h2 := (hP _ _ (am_cw_at (b := b) (z := z) (tA := tA) hg)).lt
    dsimp only at h2
    omega
theorem am_sumC (b z : Nat) (st : List am_V) (k : Nat) (h : am_sum st ≤ k) : ((st.map (am_c b z)).map fun v => v.category).sum ≤ k := by
  rw [List.map_map]
  have e : (fun v => Value.category v) ∘ am_c b z = am_cat := funext fun v => am_c_cat b z v
  rw [e]; exact h
section CALL
variable {d N S L : Nat} {xs : Nat → Int} {mid mid' : am_M} {pc idx : Nat} {lv : am_L} {st as : List am_V} {h h' : am_H} {res : Option am_V}
theorem am_rooms {d mc ms : Nat} {R : Room} {mid' : am_M} (hm : am_maxL mid' + 19 ≤ am_lw) (hf : d + 1 + 1 ≤ R.frames) (hlo : am_lw * (d + 1 + 1) ≤ R.locals) : (am_room d mc ms).frames + 1 ≤ R.frames ∧ 8 + (am_maxL mid' + 11) + (am_room d mc ms).locals ≤ R.locals := by
  refine ⟨hf, ?_⟩
  show 8 + (am_maxL mid' + 11) + am_lw * (d + 1) ≤ R.locals
  have e1 : am_lw * (d + 1 + 1) = am_lw * (d + 1) + am_lw := Nat.mul_succ _ _
  omega
/-- a call of an object's method -/
theorem Go.callV {r ci nF : Nat} {T : u_T} {fs : List am_V} (hd : decode (am_bytes mid) pc = .ok (.invokevirtual idx, 3)) (hk : Jvm.Cond.methodLink (am_own mid) idx (am_y mid') ∈ am_TS) (cf : am_cfV mid' as.length) (hc : am_cl[ci]? = some ((am_y mid').cls, T, nF)) (hr : h[r]? = some (.inr (ci, fs)))
    (hcl : Cl d mid' (vR (r + 1) :: as) h res h') (hst : am_sum st ≤ 8) (hlv : lv.length = am_maxL mid) (hN : h'.length ≤ N) (hS : am_sl h' ≤ S) : Go (d + 1) N S L xs mid pc lv (as.reverse ++ vR (r + 1) :: st) h (pc + 3) lv (res.toList ++ st) h' := by
  intro p l e R s m args below meth c Q b z n0 s0 tA D X kk H locs ls cells slots hl hP hS0 hc1 hs
  obtain ⟨hx, hb, hml, hown, hts, hK, hz, hini, hf, hlo, hNN, hSS, hscr⟩ := X
  obtain ⟨hl1, hl2, hM⟩ := hcl
  obtain ⟨f1, f2, f3, f4, f5, f6⟩ := cf
  refine am_size (fun hsz => ?_)
  have hHs := am_heapsize hP hS0 hz hc1.1 hsz
  have hp : PreV s H (am_y mid').cls (z + r) (am_Pc b z tA D (vR (r + 1) :: as) h) (as.map (am_c b z)) :=
    ⟨am_blind b z tA D _ h, va_recv hK hP hc (am_cw_at hr), fun U hU hW => ⟨rfl, by rw [hU]; exact hHs, by rw [hU]; exact hP, va_K.moved hW.alike hK⟩⟩
  have hstk : (as.reverse ++ vR (r + 1) :: st).map (am_c b z) = (as.map (am_c b z)).reverse ++ .ref (z + r) :: st.map (am_c b z) := by
    rw [List.map_append, List.map_reverse]; rfl
  have hrun := va_runV (R := R) (g := F0 m pc ls ((as.reverse ++ vR (r + 1) :: st).map (am_c b z))) (e := e) (below := below) (meth := meth) (locs := locs) (cells := cells) (slots := slots) ⟨hx, hb, hml, hown, hts⟩ (hM l b z tA D)
    ⟨callB_of as.length hts (am_good0 f1) rfl rfl rfl (hts _ f4) (hts _ hk) f6 (am_rooms f5.1 hf hlo), hts _ f2, hts _ f3⟩ hp rfl (by rw [List.length_map]) (by rw [hl.2.1, hlv]) hstk (by show 2 * 0 + _ ≤ 8; have := am_sumC b z st 8 hst; omega) hd (by omega)
  refine am_back hrun hS0 (fun H1 locs1 hP1 hS1 => ?_)
  have hk := kk H1 locs1 ls (cells + (h'.length - h.length)) (slots + (am_sl h' - am_sl h)) hl hP1 hS1 (by omega) (by omega)
  cases res <;> exact hk
/-- a call of a static method -/
theorem Go.callS (hd : decode (am_bytes mid) pc = .ok (.invokestatic idx, 3)) (hk : Jvm.Cond.methodLink (am_own mid) idx (am_y mid') ∈ am_TS) (cf : am_cfS mid' as.length)
    (hcl : Cl d mid' as h res h') (hst : am_sum st ≤ 8) (hlv : lv.length = am_maxL mid) (hN : h'.length ≤ N) (hS : am_sl h' ≤ S) : Go (d + 1) N S L xs mid pc lv (as.reverse ++ st) h (pc + 3) lv (res.toList ++ st) h' := by
  intro p l e R s m args below meth c Q b z n0 s0 tA D X kk H locs ls cells slots hl hP hS0 hc1 hs
  obtain ⟨hx, hb, hml, hown, hts, hK, hz, hini, hf, hlo, hNN, hSS, hscr⟩ := X
  obtain ⟨hl1, hl2, hM⟩ := hcl
  obtain ⟨f1, f2, f4, f5, f6⟩ := cf
  refine am_size (fun hsz => ?_)
  have hHs := am_heapsize hP hS0 hz hc1.1 hsz
  have hp : PreS s H (am_Pc b z tA D as h) (as.map (am_c b z)) :=
    ⟨am_blind b z tA D _ h, fun U hU hW => ⟨rfl, by rw [hU]; exact hHs, by rw [hU]; exact hP, va_K.moved hW.alike hK⟩⟩
  have hstk : (as.reverse ++ st).map (am_c b z) = (as.map (am_c b z)).reverse ++ st.map (am_c b z) := by
    rw [List.map_append, List.map_reverse]
  have hrun := va_runS (R := R) (g := F0 m pc ls ((as.reverse ++ st).map (am_c b z))) (e := e) (below := below) (meth := meth) (locs := locs) (cells := cells) (slots := slots) ⟨hx, hb, hml, hown, hts⟩ (hM l b z tA D)
    ⟨callB_of as.length hts (am_good0 f1) rfl rfl rfl (hts _ f4) (hts _ hk) f6 (am_rooms f5.1 hf hlo), hts _ f2⟩ hp rfl (by rw [List.length_map]) (by rw [hl.2.1, hlv]) hstk (by show 2 * 0 + _ ≤ 8; have := am_sumC b z st 8 hst; omega) hd (by omega)
  refine am_back hrun hS0 (fun H1 locs1 hP1 hS1 => ?_)
  have hk := kk H1 locs1 ls (cells + (h'.length - h.length)) (slots + (am_sl h' - am_sl h)) hl hP1 hS1 (by omega) (by omega)
  cases res <;> exact hk
/-- a call of a constructor -/
theorem Go.callI {r : Nat} (hd : decode (am_bytes mid) pc = .ok (.invokespecial idx, 3)) (hk : Jvm.Cond.methodLink (am_own mid) idx (am_y mid') ∈ am_TS) (cf : am_cfI mid' as.length)
    (hcl : Cl d mid' (vR (r + 1) :: as) h none h') (hst : am_sum st ≤ 8) (hlv : lv.length = am_maxL mid) (hN : h'.length ≤ N) (hS : am_sl h' ≤ S) : Go (d + 1) N S L xs mid pc lv (as.reverse ++ vR (r + 1) :: st) h (pc + 3) lv st h' := by
  intro p l e R s m args below meth c Q b z n0 s0 tA D X kk H locs ls cells slots hl hP hS0 hc1 hs
  obtain ⟨hx, hb, hml, hown, hts, hK, hz, hini, hf, hlo, hNN, hSS, hscr⟩ := X
  obtain ⟨hl1, hl2, hM⟩ := hcl
  obtain ⟨f1, f2, f4, ⟨f5, f6⟩, f7, f8⟩ := cf
  have f1' : Jvm.Cond.code (am_y mid') (am_bytes mid') (am_maxL mid') (am_ret mid') ∈ am_TS := by rw [f8]; exact f1
  refine am_size (fun hsz => ?_)
  have hHs := am_heapsize hP hS0 hz hc1.1 hsz
  have hp : PreS s H (am_Pc b z tA D (vR (r + 1) :: as) h) (.ref (z + r) :: as.map (am_c b z)) :=
    ⟨am_blind b z tA D _ h, fun U hU hW => ⟨rfl, by rw [hU]; exact hHs, by rw [hU]; exact hP, va_K.moved hW.alike hK⟩⟩
  have hstk : (as.reverse ++ vR (r + 1) :: st).map (am_c b z) = (as.map (am_c b z)).reverse ++ .ref (z + r) :: st.map (am_c b z) := by
    rw [List.map_append, List.map_reverse]; rfl
  have hrun := va_runI (R := R) (g := F0 m pc ls ((as.reverse ++ vR (r + 1) :: st).map (am_c b z))) (e := e) (below := below) (meth := meth) (locs := locs) (cells := cells) (slots := slots) ⟨hx, hb, hml, hown, hts⟩ (hM l b z tA D)
    ⟨callB_of as.length hts (am_good0 f1') (by rw [am_ws, f8]) rfl rfl (hts _ f4) (hts _ hk) f6 (am_rooms f5.1 hf hlo), f7, hts _ f2⟩ hp rfl (by rw [List.length_map]) (by rw [hl.2.1, hlv]) hstk (by show 2 * 0 + _ ≤ 8; have := am_sumC b z st 8 hst; omega) hd (by omega)
  exact am_back hrun hS0 (fun H1 locs1 hP1 hS1 => kk H1 locs1 ls (cells + (h'.length - h.length)) (slots + (am_sl h' - am_sl h)) hl hP1 hS1 (by omega) (by omega))
end CALL
end
section
/-! ===== link rows ===== -/
def fl_L : List (Nat × Nat × Nat) := [(10, 0, 0), (19, 0, 1), (26, 0, 2), (33, 0, 3), (42, 0, 4), (46, 0, 5), (68, 1, 6), (79, 1, 2), (82, 1, 7), (88, 5, 8), (91, 2, 4), (94, 2, 5), (115, 3, 0), (119, 5, 0), (124, 3, 2), (128, 4, 2), (133, 2, 0), (143, 5, 1), (152, 5, 3), (155, 5, 4), (161, 5, 7)]
set_option maxRecDepth 20000 in
theorem fl_L_ok : am_flok "ProofLedger" fl_L := am_flok_of _ [447, 448, 449, 450, 451, 452, 130, 123, 133, 271, 168, 170, 223, 256, 231, 202, 159, 259, 262, 264, 268] (by decide +kernel)
def cn_L : List (Nat × Nat) := [(7, 1), (16, 2), (23, 3), (30, 5), (37, 6)]
set_option maxRecDepth 20000 in
theorem cn_L_ok : am_cnok "ProofLedger" cn_L := am_cnok_of _ [113, 152, 186, 249, 292] (by decide +kernel)
def kl_L : List (Nat × Nat) := [(122, 18446744073709551615)]
set_option maxRecDepth 20000 in
theorem kl_L_ok : am_klok "ProofLedger" kl_L := am_klok_of _ [864] (by decide +kernel)
def pl_L : List (Nat × Nat) := [(1, 0)]
set_option maxRecDepth 20000 in
theorem pl_L_ok : am_plok "ProofLedger" pl_L := am_plok_of _ [110] (by decide +kernel)
def fl_Assertions : List (Nat × Nat × Nat) := [(9, 5, 0), (15, 5, 1), (20, 5, 2), (23, 5, 3), (26, 5, 4), (29, 5, 5), (32, 5, 6), (36, 5, 7), (39, 5, 8)]
set_option maxRecDepth 20000 in
theorem fl_Assertions_ok : am_flok "ProofLedger$Assertions" fl_Assertions := am_flok_of _ [255, 257, 260, 261, 263, 265, 266, 267, 269] (by decide +kernel)
def cn_Assertions : List (Nat × Nat) := []
set_option maxRecDepth 20000 in
theorem cn_Assertions_ok : am_cnok "ProofLedger$Assertions" cn_Assertions := am_cnok_of _ [] (by decide +kernel)
def kl_Assertions : List (Nat × Nat) := []
set_option maxRecDepth 20000 in
theorem kl_Assertions_ok : am_klok "ProofLedger$Assertions" kl_Assertions := am_klok_of _ [] (by decide +kernel)
def pl_Assertions : List (Nat × Nat) := [(1, 0), (43, 2)]
set_option maxRecDepth 20000 in
theorem pl_Assertions_ok : am_plok "ProofLedger$Assertions" pl_Assertions := am_plok_of _ [254, 741] (by decide +kernel)
def fl_Context : List (Nat × Nat × Nat) := [(11, 7, 3), (17, 7, 5), (21, 7, 7), (24, 7, 8), (27, 7, 9), (30, 7, 10), (33, 7, 0), (37, 7, 1), (40, 7, 2), (43, 7, 6), (51, 7, 4)]
set_option maxRecDepth 20000 in
theorem fl_Context_ok : am_flok "ProofLedger$Context" fl_Context := am_flok_of _ [310, 313, 317, 318, 319, 320, 304, 306, 308, 316, 311] (by decide +kernel)
def cn_Context : List (Nat × Nat) := []
set_option maxRecDepth 20000 in
theorem cn_Context_ok : am_cnok "ProofLedger$Context" cn_Context := am_cnok_of _ [] (by decide +kernel)
def kl_Context : List (Nat × Nat) := [(75, 18446744073709551615)]
set_option maxRecDepth 20000 in
theorem kl_Context_ok : am_klok "ProofLedger$Context" kl_Context := am_klok_of _ [791] (by decide +kernel)
def pl_Context : List (Nat × Nat) := [(3, 0)]
set_option maxRecDepth 20000 in
theorem pl_Context_ok : am_plok "ProofLedger$Context" pl_Context := am_plok_of _ [303] (by decide +kernel)
def fl_Expressions : List (Nat × Nat × Nat) := [(7, 4, 0), (13, 4, 1), (17, 4, 2), (20, 4, 3), (24, 4, 4)]
set_option maxRecDepth 20000 in
theorem fl_Expressions_ok : am_flok "ProofLedger$Expressions" fl_Expressions := am_flok_of _ [198, 199, 200, 203, 206] (by decide +kernel)
def cn_Expressions : List (Nat × Nat) := []
set_option maxRecDepth 20000 in
theorem cn_Expressions_ok : am_cnok "ProofLedger$Expressions" cn_Expressions := am_cnok_of _ [] (by decide +kernel)
def kl_Expressions : List (Nat × Nat) := []
set_option maxRecDepth 20000 in
theorem kl_Expressions_ok : am_klok "ProofLedger$Expressions" kl_Expressions := am_klok_of _ [] (by decide +kernel)
def pl_Expressions : List (Nat × Nat) := [(1, 0), (27, 1)]
set_option maxRecDepth 20000 in
theorem pl_Expressions_ok : am_plok "ProofLedger$Expressions" pl_Expressions := am_plok_of _ [197, 734] (by decide +kernel)
def fl_Letters : List (Nat × Nat × Nat) := [(9, 9, 0), (15, 9, 1), (21, 9, 2), (30, 9, 5), (34, 9, 3), (42, 9, 4), (45, 4, 4), (48, 9, 6), (51, 9, 8), (55, 9, 9), (58, 1, 3), (63, 1, 4), (66, 1, 0), (84, 9, 7), (92, 8, 7), (102, 8, 4)]
set_option maxRecDepth 20000 in
theorem fl_Letters_ok : am_flok "ProofLedger$Letters" fl_Letters := am_flok_of _ [387, 388, 389, 392, 390, 391, 210, 393, 395, 397, 124, 127, 120, 394, 361, 357] (by decide +kernel)
def cn_Letters : List (Nat × Nat) := [(25, 4)]
set_option maxRecDepth 20000 in
theorem cn_Letters_ok : am_cnok "ProofLedger$Letters" cn_Letters := am_cnok_of _ [385] (by decide +kernel)
def kl_Letters : List (Nat × Nat) := []
set_option maxRecDepth 20000 in
theorem kl_Letters_ok : am_klok "ProofLedger$Letters" kl_Letters := am_klok_of _ [] (by decide +kernel)
def pl_Letters : List (Nat × Nat) := [(3, 0)]
set_option maxRecDepth 20000 in
theorem pl_Letters_ok : am_plok "ProofLedger$Letters" pl_Letters := am_plok_of _ [384] (by decide +kernel)
def fl_Names : List (Nat × Nat × Nat) := [(11, 2, 0), (15, 2, 1), (19, 2, 2), (22, 2, 3), (26, 2, 4), (29, 2, 5)]
set_option maxRecDepth 20000 in
theorem fl_Names_ok : am_flok "ProofLedger$Names" fl_Names := am_flok_of _ [158, 160, 163, 165, 167, 169] (by decide +kernel)
def cn_Names : List (Nat × Nat) := []
set_option maxRecDepth 20000 in
theorem cn_Names_ok : am_cnok "ProofLedger$Names" cn_Names := am_cnok_of _ [] (by decide +kernel)
def kl_Names : List (Nat × Nat) := []
set_option maxRecDepth 20000 in
theorem kl_Names_ok : am_klok "ProofLedger$Names" kl_Names := am_klok_of _ [] (by decide +kernel)
def pl_Names : List (Nat × Nat) := [(3, 0)]
set_option maxRecDepth 20000 in
theorem pl_Names_ok : am_plok "ProofLedger$Names" pl_Names := am_plok_of _ [157] (by decide +kernel)
def fl_Proof : List (Nat × Nat × Nat) := [(9, 8, 0), (15, 8, 1), (19, 8, 2), (23, 8, 3), (32, 8, 4), (36, 8, 5), (41, 8, 6), (45, 4, 4), (49, 8, 7), (64, 3, 2), (71, 3, 3), (85, 3, 4), (110, 3, 1), (124, 4, 2), (127, 2, 1), (140, 5, 1), (149, 4, 3)]
set_option maxRecDepth 20000 in
theorem fl_Proof_ok : am_flok "ProofLedger$Proof" fl_Proof := am_flok_of _ [352, 353, 354, 355, 356, 358, 359, 207, 360, 230, 233, 236, 226, 201, 161, 258, 204] (by decide +kernel)
def cn_Proof : List (Nat × Nat) := [(27, 4)]
set_option maxRecDepth 20000 in
theorem cn_Proof_ok : am_cnok "ProofLedger$Proof" cn_Proof := am_cnok_of _ [350] (by decide +kernel)
def kl_Proof : List (Nat × Nat) := []
set_option maxRecDepth 20000 in
theorem kl_Proof_ok : am_klok "ProofLedger$Proof" kl_Proof := am_klok_of _ [] (by decide +kernel)
def pl_Proof : List (Nat × Nat) := [(3, 0)]
set_option maxRecDepth 20000 in
theorem pl_Proof_ok : am_plok "ProofLedger$Proof" pl_Proof := am_plok_of _ [349] (by decide +kernel)
def fl_Reader : List (Nat × Nat × Nat) := [(9, 6, 0), (15, 6, 1), (19, 6, 2), (26, 6, 3), (35, 6, 4), (44, 6, 5), (53, 3, 2), (59, 4, 4), (65, 5, 8), (69, 6, 6), (72, 7, 6), (104, 1, 5), (155, 6, 7), (158, 6, 8), (168, 2, 1), (176, 7, 0), (179, 7, 1), (185, 7, 4), (188, 2, 3), (198, 3, 1), (221, 3, 4), (227, 3, 3), (231, 4, 3), (239, 7, 2), (242, 7, 5), (275, 2, 2), (277, 9, 8), (284, 3, 0)]
set_option maxRecDepth 20000 in
theorem fl_Reader_ok : am_flok "ProofLedger$Reader" fl_Reader := am_flok_of _ [419, 420, 421, 422, 423, 424, 229, 209, 270, 425, 315, 128, 426, 427, 162, 305, 307, 312, 166, 227, 237, 234, 205, 309, 314, 164, 396, 224] (by decide +kernel)
def cn_Reader : List (Nat × Nat) := [(23, 7), (30, 8), (39, 9)]
set_option maxRecDepth 20000 in
theorem cn_Reader_ok : am_cnok "ProofLedger$Reader" cn_Reader := am_cnok_of _ [298, 344, 379] (by decide +kernel)
def kl_Reader : List (Nat × Nat) := [(251, 40), (255, 63), (266, 41)]
set_option maxRecDepth 20000 in
theorem kl_Reader_ok : am_klok "ProofLedger$Reader" kl_Reader := am_klok_of _ [702, 707, 805] (by decide +kernel)
def pl_Reader : List (Nat × Nat) := [(3, 0)]
set_option maxRecDepth 20000 in
theorem pl_Reader_ok : am_plok "ProofLedger$Reader" pl_Reader := am_plok_of _ [297] (by decide +kernel)
def fl_Statements : List (Nat × Nat × Nat) := [(11, 3, 0), (15, 3, 1), (24, 3, 2), (28, 3, 3), (31, 3, 4), (34, 4, 4)]
set_option maxRecDepth 20000 in
theorem fl_Statements_ok : am_flok "ProofLedger$Statements" fl_Statements := am_flok_of _ [222, 225, 228, 232, 235, 208] (by decide +kernel)
def cn_Statements : List (Nat × Nat) := [(19, 4)]
set_option maxRecDepth 20000 in
theorem cn_Statements_ok : am_cnok "ProofLedger$Statements" cn_Statements := am_cnok_of _ [192] (by decide +kernel)
def kl_Statements : List (Nat × Nat) := []
set_option maxRecDepth 20000 in
theorem kl_Statements_ok : am_klok "ProofLedger$Statements" kl_Statements := am_klok_of _ [] (by decide +kernel)
def pl_Statements : List (Nat × Nat) := [(3, 0)]
set_option maxRecDepth 20000 in
theorem pl_Statements_ok : am_plok "ProofLedger$Statements" pl_Statements := am_plok_of _ [191] (by decide +kernel)
def fl_Text : List (Nat × Nat × Nat) := [(11, 1, 0), (15, 1, 1), (19, 1, 2), (22, 1, 4), (25, 1, 7), (37, 1, 3), (40, 1, 5), (44, 1, 6)]
set_option maxRecDepth 20000 in
theorem fl_Text_ok : am_flok "ProofLedger$Text" fl_Text := am_flok_of _ [119, 121, 122, 126, 132, 125, 129, 131] (by decide +kernel)
def cn_Text : List (Nat × Nat) := []
set_option maxRecDepth 20000 in
theorem cn_Text_ok : am_cnok "ProofLedger$Text" cn_Text := am_cnok_of _ [] (by decide +kernel)
def kl_Text : List (Nat × Nat) := [(47, 128)]
set_option maxRecDepth 20000 in
theorem kl_Text_ok : am_klok "ProofLedger$Text" kl_Text := am_klok_of _ [530] (by decide +kernel)
def pl_Text : List (Nat × Nat) := [(3, 0)]
set_option maxRecDepth 20000 in
theorem pl_Text_ok : am_plok "ProofLedger$Text" pl_Text := am_plok_of _ [118] (by decide +kernel)
def fl_W : List (Nat × Nat × Nat) := []
set_option maxRecDepth 20000 in
theorem fl_W_ok : am_flok "ProofLedgerLaw" fl_W := am_flok_of _ [] (by decide +kernel)
def cn_W : List (Nat × Nat) := [(7, 0), (10, 10)]
set_option maxRecDepth 20000 in
theorem cn_W_ok : am_cnok "ProofLedgerLaw" cn_W := am_cnok_of _ [105, 909] (by decide +kernel)
def kl_W : List (Nat × Nat) := [(13, 4294967295)]
set_option maxRecDepth 20000 in
theorem kl_W_ok : am_klok "ProofLedgerLaw" kl_W := am_klok_of _ [1366] (by decide +kernel)
def pl_W : List (Nat × Nat) := []
set_option maxRecDepth 20000 in
theorem pl_W_ok : am_plok "ProofLedgerLaw" pl_W := am_plok_of _ [] (by decide +kernel)
def fl_M : List (Nat × Nat × Nat) := [(7, 10, 0), (13, 10, 2), (16, 10, 3), (19, 10, 7), (23, 10, 9), (27, 10, 10), (30, 10, 11), (34, 10, 12), (37, 10, 13), (40, 10, 16), (43, 10, 17), (46, 10, 18), (49, 10, 19), (52, 10, 20), (55, 10, 21), (58, 10, 22), (61, 10, 24), (64, 10, 25), (67, 10, 26), (70, 10, 28), (73, 10, 29), (76, 10, 30), (79, 10, 31), (82, 10, 32), (85, 10, 33), (88, 10, 34), (91, 10, 35), (94, 10, 36), (97, 10, 37), (100, 10, 38), (103, 10, 39), (106, 10, 41), (109, 10, 42), (112, 10, 43), (115, 10, 44), (118, 10, 46), (121, 10, 47), (124, 10, 49), (127, 10, 50), (130, 10, 52), (133, 10, 1), (138, 10, 4), (147, 10, 6), (150, 10, 5), (173, 10, 8), (184, 10, 15), (187, 10, 14), (207, 10, 23), (210, 10, 40), (226, 10, 27), (256, 10, 45), (259, 10, 48), (262, 10, 51), (311, 10, 53), (317, 10, 54), (320, 10, 55), (323, 10, 56)]
set_option maxRecDepth 20000 in
theorem fl_M_ok : am_flok "ProofLedgerModel" fl_M := am_flok_of _ [915, 917, 918, 922, 924, 925, 926, 927, 928, 931, 932, 933, 934, 935, 936, 937, 939, 940, 941, 943, 944, 945, 946, 947, 948, 949, 950, 951, 952, 953, 954, 956, 957, 958, 959, 961, 962, 964, 965, 967, 916, 919, 921, 920, 923, 930, 929, 938, 955, 942, 960, 963, 966, 968, 969, 970, 971] (by decide +kernel)
def cn_M : List (Nat × Nat) := []
set_option maxRecDepth 20000 in
theorem cn_M_ok : am_cnok "ProofLedgerModel" cn_M := am_cnok_of _ [] (by decide +kernel)
def kl_M : List (Nat × Nat) := [(136, 255), (145, 128), (368, 18446744073709551615)]
set_option maxRecDepth 20000 in
theorem kl_M_ok : am_klok "ProofLedgerModel" kl_M := am_klok_of _ [1091, 1136, 1333] (by decide +kernel)
def pl_M : List (Nat × Nat) := [(1, 0)]
set_option maxRecDepth 20000 in
theorem pl_M_ok : am_plok "ProofLedgerModel" pl_M := am_plok_of _ [914] (by decide +kernel)
def fl_java_lang_Long : List (Nat × Nat × Nat) := []
set_option maxRecDepth 20000 in
theorem fl_java_lang_Long_ok : am_flok "java/lang/Long" fl_java_lang_Long := am_flok_of _ [] (by decide +kernel)
def cn_java_lang_Long : List (Nat × Nat) := []
set_option maxRecDepth 20000 in
theorem cn_java_lang_Long_ok : am_cnok "java/lang/Long" cn_java_lang_Long := am_cnok_of _ [] (by decide +kernel)
def kl_java_lang_Long : List (Nat × Nat) := [(314, 6148914691236517205), (316, 3689348814741910323), (318, 1085102592571150095)]
set_option maxRecDepth 20000 in
theorem kl_java_lang_Long_ok : am_klok "java/lang/Long" kl_java_lang_Long := am_klok_of _ [747, 748, 749] (by decide +kernel)
def pl_java_lang_Long : List (Nat × Nat) := []
set_option maxRecDepth 20000 in
theorem pl_java_lang_Long_ok : am_plok "java/lang/Long" pl_java_lang_Long := am_plok_of _ [] (by decide +kernel)
def fl_java_util_Arrays : List (Nat × Nat × Nat) := []
set_option maxRecDepth 20000 in
theorem fl_java_util_Arrays_ok : am_flok "java/util/Arrays" fl_java_util_Arrays := am_flok_of _ [] (by decide +kernel)
def cn_java_util_Arrays : List (Nat × Nat) := []
set_option maxRecDepth 20000 in
theorem cn_java_util_Arrays_ok : am_cnok "java/util/Arrays" cn_java_util_Arrays := am_cnok_of _ [] (by decide +kernel)
def kl_java_util_Arrays : List (Nat × Nat) := []
set_option maxRecDepth 20000 in
theorem kl_java_util_Arrays_ok : am_klok "java/util/Arrays" kl_java_util_Arrays := am_klok_of _ [] (by decide +kernel)
def pl_java_util_Arrays : List (Nat × Nat) := []
set_option maxRecDepth 20000 in
theorem pl_java_util_Arrays_ok : am_plok "java/util/Arrays" pl_java_util_Arrays := am_plok_of _ [] (by decide +kernel)
end
section
def cd_L_init (pc : Nat) : Option am_I := bif Nat.ble 77 pc then none else (bif Nat.ble pc 37 then (bif Nat.ble pc 16 then (bif Nat.ble pc 5 then (bif Nat.ble pc 1 then (bif Nat.beq pc 0 then some (.aload_n 0, 1, 0, 0) else bif Nat.beq pc 1 then some (.invokespecial 1, 4, 0, 1) else none) else (bif Nat.beq pc 4 then some (.aload_n 0, 5, 0, 0) else bif Nat.beq pc 5 then some (.new 7, 8, 1, 0) else none)) else (bif Nat.ble pc 9 then (bif Nat.beq pc 8 then some (.dup, 9, 0, 0) else bif Nat.beq pc 9 then some (.invokespecial 9, 12, 0, 0) else none) else (bif Nat.beq pc 12 then some (.putfield 10, 15, 0, 0) else bif Nat.beq pc 15 then some (.aload_n 0, 16, 0, 0) else bif Nat.beq pc 16 then some (.new 16, 19, 2, 0) else none))) else (bif Nat.ble pc 26 then (bif Nat.ble pc 20 then (bif Nat.beq pc 19 then some (.dup, 20, 0, 0) else bif Nat.beq pc 20 then some (.invokespecial 18, 23, 0, 0) else none) else (bif Nat.beq pc 23 then some (.putfield 19, 26, 0, 1) else bif Nat.beq pc 26 then some (.aload_n 0, 27, 0, 0) else none)) else (bif Nat.ble pc 30 then (bif Nat.beq pc 27 then some (.new 23, 30, 3, 0) else bif Nat.beq pc 30 then some (.dup, 31, 0, 0) else none) else (bif Nat.beq pc 31 then some (.invokespecial 25, 34, 0, 0) else bif Nat.beq pc 34 then some (.putfield 26, 37, 0, 2) else bif Nat.beq pc 37 then some (.aload_n 0, 38, 0, 0) else none)))) else (bif Nat.ble pc 54 then (bif Nat.ble pc 45 then (bif Nat.ble pc 41 then (bif Nat.beq pc 38 then some (.new 30, 41, 5, 0) else bif Nat.beq pc 41 then some (.dup, 42, 0, 0) else none) else (bif Nat.beq pc 42 then some (.invokespecial 32, 45, 0, 0) else bif Nat.beq pc 45 then some (.putfield 33, 48, 0, 3) else none)) else (bif Nat.ble pc 49 then (bif Nat.beq pc 48 then some (.aload_n 0, 49, 0, 0) else bif Nat.beq pc 49 then some (.new 37, 52, 6, 0) else none) else (bif Nat.beq pc 52 then some (.dup, 53, 0, 0) else bif Nat.beq pc 53 then some (.aload_n 0, 54, 0, 0) else bif Nat.beq pc 54 then some (.getfield 19, 57, 0, 1) else none))) else (bif Nat.ble pc 65 then (bif Nat.ble pc 58 then (bif Nat.beq pc 57 then some (.aload_n 0, 58, 0, 0) else bif Nat.beq pc 58 then some (.getfield 26, 61, 0, 2) else none) else (bif Nat.beq pc 61 then some (.aload_n 0, 62, 0, 0) else bif Nat.beq pc 62 then some (.getfield 33, 65, 0, 3) else bif Nat.beq pc 65 then some (.invokespecial 39, 68, 0, 0) else none)) else (bif Nat.ble pc 71 then (bif Nat.beq pc 68 then some (.putfield 42, 71, 0, 4) else bif Nat.beq pc 71 then some (.aload_n 0, 72, 0, 0) else none) else (bif Nat.beq pc 72 then some (.iconst (-1), 73, 0, 0) else bif Nat.beq pc 73 then some (.putfield 46, 76, 0, 5) else bif Nat.beq pc 76 then some (.return_, 77, 0, 0) else none)))))
set_option maxRecDepth 100000 in
set_option maxHeartbeats 4000000 in
theorem ok_L_init : am_CD m_L_init cd_L_init := am_CD_of 77 fl_L_ok cn_L_ok kl_L_ok pl_L_ok (by intro pc h; unfold cd_L_init; rw [Nat.ble_eq_true_of_le h]; rfl) (by decide +kernel)
def cd_Text_init (pc : Nat) : Option am_I := bif Nat.ble 14 pc then none else (bif Nat.ble pc 4 then (bif Nat.beq pc 0 then some (.aload_n 0, 1, 0, 0) else bif Nat.beq pc 1 then some (.invokespecial 3, 4, 0, 1) else bif Nat.beq pc 4 then some (.aload_n 0, 5, 0, 0) else none) else (bif Nat.ble pc 8 then (bif Nat.beq pc 5 then some (.sipush 1600, 8, 0, 0) else bif Nat.beq pc 8 then some (.newarray .byte, 10, 0, 0) else none) else (bif Nat.beq pc 10 then some (.putfield 11, 13, 1, 0) else bif Nat.beq pc 13 then some (.return_, 14, 0, 0) else none)))
set_option maxRecDepth 100000 in
set_option maxHeartbeats 4000000 in
theorem ok_Text_init : am_CD m_Text_init cd_Text_init := am_CD_of 14 fl_Text_ok cn_Text_ok kl_Text_ok pl_Text_ok (by intro pc h; unfold cd_Text_init; rw [Nat.ble_eq_true_of_le h]; rfl) (by decide +kernel)
def cd_Names_init (pc : Nat) : Option am_I := bif Nat.ble 29 pc then none else (bif Nat.ble pc 12 then (bif Nat.ble pc 4 then (bif Nat.beq pc 0 then some (.aload_n 0, 1, 0, 0) else bif Nat.beq pc 1 then some (.invokespecial 3, 4, 0, 1) else bif Nat.beq pc 4 then some (.aload_n 0, 5, 0, 0) else none) else (bif Nat.ble pc 7 then (bif Nat.beq pc 5 then some (.bipush 60, 7, 0, 0) else bif Nat.beq pc 7 then some (.newarray .long, 9, 0, 0) else none) else (bif Nat.beq pc 9 then some (.putfield 11, 12, 2, 0) else bif Nat.beq pc 12 then some (.aload_n 0, 13, 0, 0) else none))) else (bif Nat.ble pc 20 then (bif Nat.ble pc 15 then (bif Nat.beq pc 13 then some (.bipush 60, 15, 0, 0) else bif Nat.beq pc 15 then some (.newarray .int, 17, 0, 0) else none) else (bif Nat.beq pc 17 then some (.putfield 15, 20, 2, 1) else bif Nat.beq pc 20 then some (.aload_n 0, 21, 0, 0) else none)) else (bif Nat.ble pc 23 then (bif Nat.beq pc 21 then some (.bipush 60, 23, 0, 0) else bif Nat.beq pc 23 then some (.newarray .int, 25, 0, 0) else none) else (bif Nat.beq pc 25 then some (.putfield 19, 28, 2, 2) else bif Nat.beq pc 28 then some (.return_, 29, 0, 0) else none))))
set_option maxRecDepth 100000 in
set_option maxHeartbeats 4000000 in
theorem ok_Names_init : am_CD m_Names_init cd_Names_init := am_CD_of 29 fl_Names_ok cn_Names_ok kl_Names_ok pl_Names_ok (by intro pc h; unfold cd_Names_init; rw [Nat.ble_eq_true_of_le h]; rfl) (by decide +kernel)
def cd_Statements_init (pc : Nat) : Option am_I := bif Nat.ble 50 pc then none else (bif Nat.ble pc 21 then (bif Nat.ble pc 9 then (bif Nat.ble pc 4 then (bif Nat.beq pc 0 then some (.aload_n 0, 1, 0, 0) else bif Nat.beq pc 1 then some (.invokespecial 3, 4, 0, 1) else bif Nat.beq pc 4 then some (.aload_n 0, 5, 0, 0) else none) else (bif Nat.beq pc 5 then some (.bipush 40, 7, 0, 0) else bif Nat.beq pc 7 then some (.newarray .long, 9, 0, 0) else bif Nat.beq pc 9 then some (.putfield 11, 12, 3, 0) else none)) else (bif Nat.ble pc 15 then (bif Nat.beq pc 12 then some (.aload_n 0, 13, 0, 0) else bif Nat.beq pc 13 then some (.bipush 40, 15, 0, 0) else bif Nat.beq pc 15 then some (.newarray .int, 17, 0, 0) else none) else (bif Nat.beq pc 17 then some (.putfield 15, 20, 3, 1) else bif Nat.beq pc 20 then some (.aload_n 0, 21, 0, 0) else bif Nat.beq pc 21 then some (.new 19, 24, 4, 0) else none))) else (bif Nat.ble pc 34 then (bif Nat.ble pc 27 then (bif Nat.beq pc 24 then some (.dup, 25, 0, 0) else bif Nat.beq pc 25 then some (.bipush 40, 27, 0, 0) else bif Nat.beq pc 27 then some (.invokespecial 21, 30, 0, 0) else none) else (bif Nat.beq pc 30 then some (.putfield 24, 33, 3, 2) else bif Nat.beq pc 33 then some (.aload_n 0, 34, 0, 0) else bif Nat.beq pc 34 then some (.bipush 40, 36, 0, 0) else none)) else (bif Nat.ble pc 41 then (bif Nat.beq pc 36 then some (.newarray .long, 38, 0, 0) else bif Nat.beq pc 38 then some (.putfield 28, 41, 3, 3) else bif Nat.beq pc 41 then some (.aload_n 0, 42, 0, 0) else none) else (bif Nat.ble pc 44 then (bif Nat.beq pc 42 then some (.bipush 40, 44, 0, 0) else bif Nat.beq pc 44 then some (.newarray .int, 46, 0, 0) else none) else (bif Nat.beq pc 46 then some (.putfield 31, 49, 3, 4) else bif Nat.beq pc 49 then some (.return_, 50, 0, 0) else none)))))
set_option maxRecDepth 100000 in
set_option maxHeartbeats 4000000 in
theorem ok_Statements_init : am_CD m_Statements_init cd_Statements_init := am_CD_of 50 fl_Statements_ok cn_Statements_ok kl_Statements_ok pl_Statements_ok (by intro pc h; unfold cd_Statements_init; rw [Nat.ble_eq_true_of_le h]; rfl) (by decide +kernel)
def cd_Expressions_init (pc : Nat) : Option am_I := bif Nat.ble 34 pc then none else (bif Nat.ble pc 14 then (bif Nat.ble pc 6 then (bif Nat.ble pc 1 then (bif Nat.beq pc 0 then some (.aload_n 0, 1, 0, 0) else bif Nat.beq pc 1 then some (.invokespecial 1, 4, 0, 1) else none) else (bif Nat.beq pc 4 then some (.aload_n 0, 5, 0, 0) else bif Nat.beq pc 5 then some (.iload_n 1, 6, 0, 0) else bif Nat.beq pc 6 then some (.putfield 7, 9, 4, 0) else none)) else (bif Nat.ble pc 10 then (bif Nat.beq pc 9 then some (.aload_n 0, 10, 0, 0) else bif Nat.beq pc 10 then some (.iload_n 1, 11, 0, 0) else none) else (bif Nat.beq pc 11 then some (.bipush 24, 13, 0, 0) else bif Nat.beq pc 13 then some (.imul, 14, 0, 0) else bif Nat.beq pc 14 then some (.newarray .int, 16, 0, 0) else none))) else (bif Nat.ble pc 23 then (bif Nat.ble pc 19 then (bif Nat.beq pc 16 then some (.putfield 13, 19, 4, 1) else bif Nat.beq pc 19 then some (.aload_n 0, 20, 0, 0) else none) else (bif Nat.beq pc 20 then some (.iload_n 1, 21, 0, 0) else bif Nat.beq pc 21 then some (.newarray .int, 23, 0, 0) else bif Nat.beq pc 23 then some (.putfield 17, 26, 4, 2) else none)) else (bif Nat.ble pc 27 then (bif Nat.beq pc 26 then some (.aload_n 0, 27, 0, 0) else bif Nat.beq pc 27 then some (.iload_n 1, 28, 0, 0) else none) else (bif Nat.beq pc 28 then some (.newarray .long, 30, 0, 0) else bif Nat.beq pc 30 then some (.putfield 20, 33, 4, 3) else bif Nat.beq pc 33 then some (.return_, 34, 0, 0) else none))))
set_option maxRecDepth 100000 in
set_option maxHeartbeats 4000000 in
theorem ok_Expressions_init : am_CD m_Expressions_init cd_Expressions_init := am_CD_of 34 fl_Expressions_ok cn_Expressions_ok kl_Expressions_ok pl_Expressions_ok (by intro pc h; unfold cd_Expressions_init; rw [Nat.ble_eq_true_of_le h]; rfl) (by decide +kernel)
def cd_Assertions_init (pc : Nat) : Option am_I := bif Nat.ble 71 pc then none else (bif Nat.ble pc 32 then (bif Nat.ble pc 13 then (bif Nat.ble pc 5 then (bif Nat.ble pc 1 then (bif Nat.beq pc 0 then some (.aload_n 0, 1, 0, 0) else bif Nat.beq pc 1 then some (.invokespecial 1, 4, 0, 1) else none) else (bif Nat.beq pc 4 then some (.aload_n 0, 5, 0, 0) else bif Nat.beq pc 5 then some (.bipush 40, 7, 0, 0) else none)) else (bif Nat.ble pc 9 then (bif Nat.beq pc 7 then some (.newarray .int, 9, 0, 0) else bif Nat.beq pc 9 then some (.putfield 9, 12, 5, 0) else none) else (bif Nat.beq pc 12 then some (.aload_n 0, 13, 0, 0) else bif Nat.beq pc 13 then some (.bipush 40, 15, 0, 0) else none))) else (bif Nat.ble pc 21 then (bif Nat.ble pc 17 then (bif Nat.beq pc 15 then some (.newarray .int, 17, 0, 0) else bif Nat.beq pc 17 then some (.putfield 15, 20, 5, 1) else none) else (bif Nat.beq pc 20 then some (.aload_n 0, 21, 0, 0) else bif Nat.beq pc 21 then some (.sipush 1600, 24, 0, 0) else none)) else (bif Nat.ble pc 26 then (bif Nat.beq pc 24 then some (.newarray .int, 26, 0, 0) else bif Nat.beq pc 26 then some (.putfield 20, 29, 5, 2) else none) else (bif Nat.beq pc 29 then some (.aload_n 0, 30, 0, 0) else bif Nat.beq pc 30 then some (.bipush 40, 32, 0, 0) else bif Nat.beq pc 32 then some (.newarray .int, 34, 0, 0) else none)))) else (bif Nat.ble pc 51 then (bif Nat.ble pc 40 then (bif Nat.ble pc 37 then (bif Nat.beq pc 34 then some (.putfield 23, 37, 5, 3) else bif Nat.beq pc 37 then some (.aload_n 0, 38, 0, 0) else none) else (bif Nat.beq pc 38 then some (.bipush 40, 40, 0, 0) else bif Nat.beq pc 40 then some (.newarray .int, 42, 0, 0) else none)) else (bif Nat.ble pc 45 then (bif Nat.beq pc 42 then some (.putfield 26, 45, 5, 4) else bif Nat.beq pc 45 then some (.aload_n 0, 46, 0, 0) else none) else (bif Nat.beq pc 46 then some (.sipush 1600, 49, 0, 0) else bif Nat.beq pc 49 then some (.newarray .int, 51, 0, 0) else bif Nat.beq pc 51 then some (.putfield 29, 54, 5, 5) else none))) else (bif Nat.ble pc 59 then (bif Nat.ble pc 55 then (bif Nat.beq pc 54 then some (.aload_n 0, 55, 0, 0) else bif Nat.beq pc 55 then some (.bipush 40, 57, 0, 0) else none) else (bif Nat.beq pc 57 then some (.newarray .boolean, 59, 0, 0) else bif Nat.beq pc 59 then some (.putfield 32, 62, 5, 6) else none)) else (bif Nat.ble pc 63 then (bif Nat.beq pc 62 then some (.aload_n 0, 63, 0, 0) else bif Nat.beq pc 63 then some (.bipush 40, 65, 0, 0) else none) else (bif Nat.beq pc 65 then some (.newarray .boolean, 67, 0, 0) else bif Nat.beq pc 67 then some (.putfield 36, 70, 5, 7) else bif Nat.beq pc 70 then some (.return_, 71, 0, 0) else none)))))
set_option maxRecDepth 100000 in
set_option maxHeartbeats 4000000 in
theorem ok_Assertions_init : am_CD m_Assertions_init cd_Assertions_init := am_CD_of 71 fl_Assertions_ok cn_Assertions_ok kl_Assertions_ok pl_Assertions_ok (by intro pc h; unfold cd_Assertions_init; rw [Nat.ble_eq_true_of_le h]; rfl) (by decide +kernel)
def cd_Reader_init (pc : Nat) : Option am_I := bif Nat.ble 65 pc then none else (bif Nat.ble pc 30 then (bif Nat.ble pc 11 then (bif Nat.ble pc 5 then (bif Nat.ble pc 1 then (bif Nat.beq pc 0 then some (.aload_n 0, 1, 0, 0) else bif Nat.beq pc 1 then some (.invokespecial 3, 4, 0, 1) else none) else (bif Nat.beq pc 4 then some (.aload_n 0, 5, 0, 0) else bif Nat.beq pc 5 then some (.aload_n 1, 6, 0, 0) else none)) else (bif Nat.ble pc 9 then (bif Nat.beq pc 6 then some (.putfield 9, 9, 6, 0) else bif Nat.beq pc 9 then some (.aload_n 0, 10, 0, 0) else none) else (bif Nat.beq pc 10 then some (.aload_n 2, 11, 0, 0) else bif Nat.beq pc 11 then some (.putfield 15, 14, 6, 1) else none))) else (bif Nat.ble pc 19 then (bif Nat.ble pc 15 then (bif Nat.beq pc 14 then some (.aload_n 0, 15, 0, 0) else bif Nat.beq pc 15 then some (.aload_n 3, 16, 0, 0) else none) else (bif Nat.beq pc 16 then some (.putfield 19, 19, 6, 2) else bif Nat.beq pc 19 then some (.aload_n 0, 20, 0, 0) else none)) else (bif Nat.ble pc 23 then (bif Nat.beq pc 20 then some (.new 23, 23, 7, 0) else bif Nat.beq pc 23 then some (.dup, 24, 0, 0) else none) else (bif Nat.beq pc 24 then some (.invokespecial 25, 27, 0, 0) else bif Nat.beq pc 27 then some (.putfield 26, 30, 6, 3) else bif Nat.beq pc 30 then some (.aload_n 0, 31, 0, 0) else none)))) else (bif Nat.ble pc 45 then (bif Nat.ble pc 36 then (bif Nat.ble pc 34 then (bif Nat.beq pc 31 then some (.new 30, 34, 8, 0) else bif Nat.beq pc 34 then some (.dup, 35, 0, 0) else none) else (bif Nat.beq pc 35 then some (.aload_n 1, 36, 0, 0) else bif Nat.beq pc 36 then some (.aload_n 2, 37, 0, 0) else none)) else (bif Nat.ble pc 38 then (bif Nat.beq pc 37 then some (.aload_n 3, 38, 0, 0) else bif Nat.beq pc 38 then some (.aload_n 0, 39, 0, 0) else none) else (bif Nat.beq pc 39 then some (.getfield 26, 42, 6, 3) else bif Nat.beq pc 42 then some (.invokespecial 32, 45, 0, 0) else bif Nat.beq pc 45 then some (.putfield 35, 48, 6, 4) else none))) else (bif Nat.ble pc 53 then (bif Nat.ble pc 49 then (bif Nat.beq pc 48 then some (.aload_n 0, 49, 0, 0) else bif Nat.beq pc 49 then some (.new 39, 52, 9, 0) else none) else (bif Nat.beq pc 52 then some (.dup, 53, 0, 0) else bif Nat.beq pc 53 then some (.aload_n 2, 54, 0, 0) else none)) else (bif Nat.ble pc 55 then (bif Nat.beq pc 54 then some (.aload_n 0, 55, 0, 0) else bif Nat.beq pc 55 then some (.getfield 35, 58, 6, 4) else none) else (bif Nat.beq pc 58 then some (.invokespecial 41, 61, 0, 0) else bif Nat.beq pc 61 then some (.putfield 44, 64, 6, 5) else bif Nat.beq pc 64 then some (.return_, 65, 0, 0) else none)))))
set_option maxRecDepth 100000 in
set_option maxHeartbeats 4000000 in
theorem ok_Reader_init : am_CD m_Reader_init cd_Reader_init := am_CD_of 65 fl_Reader_ok cn_Reader_ok kl_Reader_ok pl_Reader_ok (by intro pc h; unfold cd_Reader_init; rw [Nat.ble_eq_true_of_le h]; rfl) (by decide +kernel)
def cd_Context_init (pc : Nat) : Option am_I := bif Nat.ble 53 pc then none else (bif Nat.ble pc 23 then (bif Nat.ble pc 9 then (bif Nat.ble pc 4 then (bif Nat.beq pc 0 then some (.aload_n 0, 1, 0, 0) else bif Nat.beq pc 1 then some (.invokespecial 3, 4, 0, 1) else bif Nat.beq pc 4 then some (.aload_n 0, 5, 0, 0) else none) else (bif Nat.beq pc 5 then some (.bipush 40, 7, 0, 0) else bif Nat.beq pc 7 then some (.newarray .int, 9, 0, 0) else bif Nat.beq pc 9 then some (.putfield 11, 12, 7, 3) else none)) else (bif Nat.ble pc 15 then (bif Nat.beq pc 12 then some (.aload_n 0, 13, 0, 0) else bif Nat.beq pc 13 then some (.bipush 60, 15, 0, 0) else bif Nat.beq pc 15 then some (.newarray .long, 17, 0, 0) else none) else (bif Nat.ble pc 20 then (bif Nat.beq pc 17 then some (.putfield 17, 20, 7, 5) else bif Nat.beq pc 20 then some (.aload_n 0, 21, 0, 0) else none) else (bif Nat.beq pc 21 then some (.bipush 6, 23, 0, 0) else bif Nat.beq pc 23 then some (.newarray .long, 25, 0, 0) else none)))) else (bif Nat.ble pc 37 then (bif Nat.ble pc 29 then (bif Nat.beq pc 25 then some (.putfield 21, 28, 7, 7) else bif Nat.beq pc 28 then some (.aload_n 0, 29, 0, 0) else bif Nat.beq pc 29 then some (.bipush 6, 31, 0, 0) else none) else (bif Nat.ble pc 33 then (bif Nat.beq pc 31 then some (.newarray .long, 33, 0, 0) else bif Nat.beq pc 33 then some (.putfield 24, 36, 7, 8) else none) else (bif Nat.beq pc 36 then some (.aload_n 0, 37, 0, 0) else bif Nat.beq pc 37 then some (.bipush 6, 39, 0, 0) else none))) else (bif Nat.ble pc 44 then (bif Nat.beq pc 39 then some (.newarray .long, 41, 0, 0) else bif Nat.beq pc 41 then some (.putfield 27, 44, 7, 9) else bif Nat.beq pc 44 then some (.aload_n 0, 45, 0, 0) else none) else (bif Nat.ble pc 47 then (bif Nat.beq pc 45 then some (.bipush 6, 47, 0, 0) else bif Nat.beq pc 47 then some (.newarray .int, 49, 0, 0) else none) else (bif Nat.beq pc 49 then some (.putfield 30, 52, 7, 10) else bif Nat.beq pc 52 then some (.return_, 53, 0, 0) else none)))))
set_option maxRecDepth 100000 in
set_option maxHeartbeats 4000000 in
theorem ok_Context_init : am_CD m_Context_init cd_Context_init := am_CD_of 53 fl_Context_ok cn_Context_ok kl_Context_ok pl_Context_ok (by intro pc h; unfold cd_Context_init; rw [Nat.ble_eq_true_of_le h]; rfl) (by decide +kernel)
def cd_Proof_init (pc : Nat) : Option am_I := bif Nat.ble 59 pc then none else (bif Nat.ble pc 25 then (bif Nat.ble pc 10 then (bif Nat.ble pc 4 then (bif Nat.beq pc 0 then some (.aload_n 0, 1, 0, 0) else bif Nat.beq pc 1 then some (.invokespecial 3, 4, 0, 1) else bif Nat.beq pc 4 then some (.aload_n 0, 5, 0, 0) else none) else (bif Nat.ble pc 6 then (bif Nat.beq pc 5 then some (.aload_n 1, 6, 0, 0) else bif Nat.beq pc 6 then some (.putfield 9, 9, 8, 0) else none) else (bif Nat.beq pc 9 then some (.aload_n 0, 10, 0, 0) else bif Nat.beq pc 10 then some (.aload_n 2, 11, 0, 0) else none))) else (bif Nat.ble pc 16 then (bif Nat.ble pc 14 then (bif Nat.beq pc 11 then some (.putfield 15, 14, 8, 1) else bif Nat.beq pc 14 then some (.aload_n 0, 15, 0, 0) else none) else (bif Nat.beq pc 15 then some (.aload_n 3, 16, 0, 0) else bif Nat.beq pc 16 then some (.putfield 19, 19, 8, 2) else none)) else (bif Nat.ble pc 20 then (bif Nat.beq pc 19 then some (.aload_n 0, 20, 0, 0) else bif Nat.beq pc 20 then some (.aload 4, 22, 0, 0) else none) else (bif Nat.beq pc 22 then some (.putfield 23, 25, 8, 3) else bif Nat.beq pc 25 then some (.aload_n 0, 26, 0, 0) else none)))) else (bif Nat.ble pc 42 then (bif Nat.ble pc 32 then (bif Nat.ble pc 29 then (bif Nat.beq pc 26 then some (.new 27, 29, 4, 0) else bif Nat.beq pc 29 then some (.dup, 30, 0, 0) else none) else (bif Nat.beq pc 30 then some (.bipush 16, 32, 0, 0) else bif Nat.beq pc 32 then some (.invokespecial 29, 35, 0, 0) else none)) else (bif Nat.ble pc 38 then (bif Nat.beq pc 35 then some (.putfield 32, 38, 8, 4) else bif Nat.beq pc 38 then some (.aload_n 0, 39, 0, 0) else none) else (bif Nat.beq pc 39 then some (.new 27, 42, 4, 0) else bif Nat.beq pc 42 then some (.dup, 43, 0, 0) else none))) else (bif Nat.ble pc 50 then (bif Nat.ble pc 44 then (bif Nat.beq pc 43 then some (.iconst 1, 44, 0, 0) else bif Nat.beq pc 44 then some (.invokespecial 29, 47, 0, 0) else none) else (bif Nat.beq pc 47 then some (.putfield 36, 50, 8, 5) else bif Nat.beq pc 50 then some (.aload_n 0, 51, 0, 0) else none)) else (bif Nat.ble pc 53 then (bif Nat.beq pc 51 then some (.bipush 60, 53, 0, 0) else bif Nat.beq pc 53 then some (.newarray .int, 55, 0, 0) else none) else (bif Nat.beq pc 55 then some (.putfield 41, 58, 8, 6) else bif Nat.beq pc 58 then some (.return_, 59, 0, 0) else none)))))
set_option maxRecDepth 100000 in
set_option maxHeartbeats 4000000 in
theorem ok_Proof_init : am_CD m_Proof_init cd_Proof_init := am_CD_of 59 fl_Proof_ok cn_Proof_ok kl_Proof_ok pl_Proof_ok (by intro pc h; unfold cd_Proof_init; rw [Nat.ble_eq_true_of_le h]; rfl) (by decide +kernel)
def cd_Letters_init (pc : Nat) : Option am_I := bif Nat.ble 36 pc then none else (bif Nat.ble pc 14 then (bif Nat.ble pc 5 then (bif Nat.ble pc 1 then (bif Nat.beq pc 0 then some (.aload_n 0, 1, 0, 0) else bif Nat.beq pc 1 then some (.invokespecial 3, 4, 0, 1) else none) else (bif Nat.beq pc 4 then some (.aload_n 0, 5, 0, 0) else bif Nat.beq pc 5 then some (.aload_n 1, 6, 0, 0) else none)) else (bif Nat.ble pc 9 then (bif Nat.beq pc 6 then some (.putfield 9, 9, 9, 0) else bif Nat.beq pc 9 then some (.aload_n 0, 10, 0, 0) else none) else (bif Nat.beq pc 10 then some (.aload_n 2, 11, 0, 0) else bif Nat.beq pc 11 then some (.putfield 15, 14, 9, 1) else bif Nat.beq pc 14 then some (.aload_n 0, 15, 0, 0) else none))) else (bif Nat.ble pc 23 then (bif Nat.ble pc 17 then (bif Nat.beq pc 15 then some (.bipush 60, 17, 0, 0) else bif Nat.beq pc 17 then some (.newarray .int, 19, 0, 0) else none) else (bif Nat.beq pc 19 then some (.putfield 21, 22, 9, 2) else bif Nat.beq pc 22 then some (.aload_n 0, 23, 0, 0) else bif Nat.beq pc 23 then some (.new 25, 26, 4, 0) else none)) else (bif Nat.ble pc 27 then (bif Nat.beq pc 26 then some (.dup, 27, 0, 0) else bif Nat.beq pc 27 then some (.bipush 16, 29, 0, 0) else none) else (bif Nat.beq pc 29 then some (.invokespecial 27, 32, 0, 0) else bif Nat.beq pc 32 then some (.putfield 30, 35, 9, 5) else bif Nat.beq pc 35 then some (.return_, 36, 0, 0) else none))))
set_option maxRecDepth 100000 in
set_option maxHeartbeats 4000000 in
theorem ok_Letters_init : am_CD m_Letters_init cd_Letters_init := am_CD_of 36 fl_Letters_ok cn_Letters_ok kl_Letters_ok pl_Letters_ok (by intro pc h; unfold cd_Letters_init; rw [Nat.ble_eq_true_of_le h]; rfl) (by decide +kernel)
def cd_L_feed (pc : Nat) : Option am_I := bif Nat.ble 10 pc then none else (bif Nat.ble pc 4 then (bif Nat.beq pc 0 then some (.aload_n 0, 1, 0, 0) else bif Nat.beq pc 1 then some (.getfield 10, 4, 0, 0) else bif Nat.beq pc 4 then some (.lload_n 1, 5, 0, 0) else none) else (bif Nat.beq pc 5 then some (.iload_n 3, 6, 0, 0) else bif Nat.beq pc 6 then some (.invokevirtual 50, 9, 0, 0) else bif Nat.beq pc 9 then some (.ireturn, 10, 0, 0) else none))
set_option maxRecDepth 100000 in
set_option maxHeartbeats 4000000 in
theorem ok_L_feed : am_CD m_L_feed cd_L_feed := am_CD_of 10 fl_L_ok cn_L_ok kl_L_ok pl_L_ok (by intro pc h; unfold cd_L_feed; rw [Nat.ble_eq_true_of_le h]; rfl) (by decide +kernel)
def cd_Text_append (pc : Nat) : Option am_I := bif Nat.ble 125 pc then none else (bif Nat.ble pc 63 then (bif Nat.ble pc 30 then (bif Nat.ble pc 15 then (bif Nat.ble pc 5 then (bif Nat.ble pc 1 then (bif Nat.beq pc 0 then some (.iload_n 3, 1, 0, 0) else bif Nat.beq pc 1 then some (.iconst 1, 2, 0, 0) else none) else (bif Nat.beq pc 2 then some (.if_icmp .lt 21, 5, 23, 0) else bif Nat.beq pc 5 then some (.iload_n 3, 6, 0, 0) else none)) else (bif Nat.ble pc 8 then (bif Nat.beq pc 6 then some (.bipush 8, 8, 0, 0) else bif Nat.beq pc 8 then some (.if_icmp .gt 15, 11, 23, 0) else none) else (bif Nat.beq pc 11 then some (.aload_n 0, 12, 0, 0) else bif Nat.beq pc 12 then some (.getfield 15, 15, 1, 1) else bif Nat.beq pc 15 then some (.iload_n 3, 16, 0, 0) else none))) else (bif Nat.ble pc 23 then (bif Nat.ble pc 17 then (bif Nat.beq pc 16 then some (.iadd, 17, 0, 0) else bif Nat.beq pc 17 then some (.sipush 1600, 20, 0, 0) else none) else (bif Nat.beq pc 20 then some (.if_icmp .le 5, 23, 25, 0) else bif Nat.beq pc 23 then some (.iconst (-1), 24, 0, 0) else none)) else (bif Nat.ble pc 25 then (bif Nat.beq pc 24 then some (.ireturn, 25, 0, 0) else bif Nat.beq pc 25 then some (.iconst 0, 26, 0, 0) else none) else (bif Nat.beq pc 26 then some (.istore 4, 28, 0, 0) else bif Nat.beq pc 28 then some (.iload 4, 30, 0, 0) else bif Nat.beq pc 30 then some (.iload_n 3, 31, 0, 0) else none)))) else (bif Nat.ble pc 45 then (bif Nat.ble pc 37 then (bif Nat.ble pc 34 then (bif Nat.beq pc 31 then some (.if_icmp .ge 39, 34, 70, 0) else bif Nat.beq pc 34 then some (.lload_n 1, 35, 0, 0) else none) else (bif Nat.beq pc 35 then some (.bipush 8, 37, 0, 0) else bif Nat.beq pc 37 then some (.iload 4, 39, 0, 0) else none)) else (bif Nat.ble pc 40 then (bif Nat.beq pc 39 then some (.imul, 40, 0, 0) else bif Nat.beq pc 40 then some (.lushr, 41, 0, 0) else none) else (bif Nat.beq pc 41 then some (.l2i, 42, 0, 0) else bif Nat.beq pc 42 then some (.sipush 255, 45, 0, 0) else bif Nat.beq pc 45 then some (.iand, 46, 0, 0) else none))) else (bif Nat.ble pc 52 then (bif Nat.ble pc 48 then (bif Nat.beq pc 46 then some (.istore 5, 48, 0, 0) else bif Nat.beq pc 48 then some (.iload 5, 50, 0, 0) else none) else (bif Nat.beq pc 50 then some (.bipush 32, 52, 0, 0) else bif Nat.beq pc 52 then some (.if_icmp .lt 10, 55, 62, 0) else none)) else (bif Nat.ble pc 57 then (bif Nat.beq pc 55 then some (.iload 5, 57, 0, 0) else bif Nat.beq pc 57 then some (.bipush 126, 59, 0, 0) else none) else (bif Nat.beq pc 59 then some (.if_icmp .le 5, 62, 64, 0) else bif Nat.beq pc 62 then some (.iconst (-1), 63, 0, 0) else bif Nat.beq pc 63 then some (.ireturn, 64, 0, 0) else none))))) else (bif Nat.ble pc 95 then (bif Nat.ble pc 80 then (bif Nat.ble pc 71 then (bif Nat.ble pc 67 then (bif Nat.beq pc 64 then some (.iinc 4 1, 67, 0, 0) else bif Nat.beq pc 67 then some (.goto (-39), 70, 28, 0) else none) else (bif Nat.beq pc 70 then some (.iconst 0, 71, 0, 0) else bif Nat.beq pc 71 then some (.istore 4, 73, 0, 0) else none)) else (bif Nat.ble pc 75 then (bif Nat.beq pc 73 then some (.iload 4, 75, 0, 0) else bif Nat.beq pc 75 then some (.iload_n 3, 76, 0, 0) else none) else (bif Nat.beq pc 76 then some (.if_icmp .ge 34, 79, 110, 0) else bif Nat.beq pc 79 then some (.aload_n 0, 80, 0, 0) else bif Nat.beq pc 80 then some (.getfield 11, 83, 1, 0) else none))) else (bif Nat.ble pc 89 then (bif Nat.ble pc 84 then (bif Nat.beq pc 83 then some (.aload_n 0, 84, 0, 0) else bif Nat.beq pc 84 then some (.getfield 15, 87, 1, 1) else none) else (bif Nat.beq pc 87 then some (.iload 4, 89, 0, 0) else bif Nat.beq pc 89 then some (.iadd, 90, 0, 0) else none)) else (bif Nat.ble pc 91 then (bif Nat.beq pc 90 then some (.lload_n 1, 91, 0, 0) else bif Nat.beq pc 91 then some (.bipush 8, 93, 0, 0) else none) else (bif Nat.beq pc 93 then some (.iload_n 3, 94, 0, 0) else bif Nat.beq pc 94 then some (.iconst 1, 95, 0, 0) else bif Nat.beq pc 95 then some (.isub, 96, 0, 0) else none)))) else (bif Nat.ble pc 107 then (bif Nat.ble pc 100 then (bif Nat.ble pc 98 then (bif Nat.beq pc 96 then some (.iload 4, 98, 0, 0) else bif Nat.beq pc 98 then some (.isub, 99, 0, 0) else none) else (bif Nat.beq pc 99 then some (.imul, 100, 0, 0) else bif Nat.beq pc 100 then some (.lushr, 101, 0, 0) else none)) else (bif Nat.ble pc 102 then (bif Nat.beq pc 101 then some (.l2i, 102, 0, 0) else bif Nat.beq pc 102 then some (.i2b, 103, 0, 0) else none) else (bif Nat.beq pc 103 then some (.bastore, 104, 0, 0) else bif Nat.beq pc 104 then some (.iinc 4 1, 107, 0, 0) else bif Nat.beq pc 107 then some (.goto (-34), 110, 73, 0) else none))) else (bif Nat.ble pc 115 then (bif Nat.ble pc 111 then (bif Nat.beq pc 110 then some (.aload_n 0, 111, 0, 0) else bif Nat.beq pc 111 then some (.dup, 112, 0, 0) else none) else (bif Nat.beq pc 112 then some (.getfield 15, 115, 1, 1) else bif Nat.beq pc 115 then some (.iload_n 3, 116, 0, 0) else none)) else (bif Nat.ble pc 117 then (bif Nat.beq pc 116 then some (.iadd, 117, 0, 0) else bif Nat.beq pc 117 then some (.putfield 15, 120, 1, 1) else none) else (bif Nat.beq pc 120 then some (.aload_n 0, 121, 0, 0) else bif Nat.beq pc 121 then some (.getfield 15, 124, 1, 1) else bif Nat.beq pc 124 then some (.ireturn, 125, 0, 0) else none))))))
set_option maxRecDepth 100000 in
set_option maxHeartbeats 4000000 in
theorem ok_Text_append : am_CD m_Text_append cd_Text_append := am_CD_of 125 fl_Text_ok cn_Text_ok kl_Text_ok pl_Text_ok (by intro pc h; unfold cd_Text_append; rw [Nat.ble_eq_true_of_le h]; rfl) (by decide +kernel)
def cd_L_clear (pc : Nat) : Option am_I := bif Nat.ble 8 pc then none else (bif Nat.ble pc 1 then (bif Nat.beq pc 0 then some (.aload_n 0, 1, 0, 0) else bif Nat.beq pc 1 then some (.getfield 10, 4, 0, 0) else none) else (bif Nat.beq pc 4 then some (.invokevirtual 54, 7, 0, 0) else bif Nat.beq pc 7 then some (.ireturn, 8, 0, 0) else none))
set_option maxRecDepth 100000 in
set_option maxHeartbeats 4000000 in
theorem ok_L_clear : am_CD m_L_clear cd_L_clear := am_CD_of 8 fl_L_ok cn_L_ok kl_L_ok pl_L_ok (by intro pc h; unfold cd_L_clear; rw [Nat.ble_eq_true_of_le h]; rfl) (by decide +kernel)
def cd_Text_empty (pc : Nat) : Option am_I := bif Nat.ble 12 pc then none else (bif Nat.ble pc 5 then (bif Nat.ble pc 1 then (bif Nat.beq pc 0 then some (.aload_n 0, 1, 0, 0) else bif Nat.beq pc 1 then some (.getfield 15, 4, 1, 1) else none) else (bif Nat.beq pc 4 then some (.istore_n 1, 5, 0, 0) else bif Nat.beq pc 5 then some (.aload_n 0, 6, 0, 0) else none)) else (bif Nat.ble pc 7 then (bif Nat.beq pc 6 then some (.iconst 0, 7, 0, 0) else bif Nat.beq pc 7 then some (.putfield 15, 10, 1, 1) else none) else (bif Nat.beq pc 10 then some (.iload_n 1, 11, 0, 0) else bif Nat.beq pc 11 then some (.ireturn, 12, 0, 0) else none)))
set_option maxRecDepth 100000 in
set_option maxHeartbeats 4000000 in
theorem ok_Text_empty : am_CD m_Text_empty cd_Text_empty := am_CD_of 12 fl_Text_ok cn_Text_ok kl_Text_ok pl_Text_ok (by intro pc h; unfold cd_Text_empty; rw [Nat.ble_eq_true_of_le h]; rfl) (by decide +kernel)
def cd_L_read (pc : Nat) : Option am_I := bif Nat.ble 156 pc then none else (bif Nat.ble pc 75 then (bif Nat.ble pc 33 then (bif Nat.ble pc 16 then (bif Nat.ble pc 7 then (bif Nat.ble pc 1 then (bif Nat.beq pc 0 then some (.aload_n 0, 1, 0, 0) else bif Nat.beq pc 1 then some (.getfield 10, 4, 0, 0) else none) else (bif Nat.beq pc 4 then some (.invokevirtual 58, 7, 0, 0) else bif Nat.beq pc 7 then some (.aload_n 0, 8, 0, 0) else none)) else (bif Nat.ble pc 11 then (bif Nat.beq pc 8 then some (.getfield 42, 11, 0, 4) else bif Nat.beq pc 11 then some (.invokevirtual 61, 14, 0, 0) else none) else (bif Nat.beq pc 14 then some (.iconst 0, 15, 0, 0) else bif Nat.beq pc 15 then some (.istore_n 1, 16, 0, 0) else bif Nat.beq pc 16 then some (.iconst 0, 17, 0, 0) else none))) else (bif Nat.ble pc 22 then (bif Nat.ble pc 18 then (bif Nat.beq pc 17 then some (.istore_n 2, 18, 0, 0) else bif Nat.beq pc 18 then some (.iload_n 2, 19, 0, 0) else none) else (bif Nat.beq pc 19 then some (.sipush 1600, 22, 0, 0) else bif Nat.beq pc 22 then some (.if_icmp .ge 59, 25, 81, 0) else none)) else (bif Nat.ble pc 26 then (bif Nat.beq pc 25 then some (.iload_n 1, 26, 0, 0) else bif Nat.beq pc 26 then some (.ifCond .ne 55, 29, 81, 0) else none) else (bif Nat.beq pc 29 then some (.aload_n 0, 30, 0, 0) else bif Nat.beq pc 30 then some (.getfield 10, 33, 0, 0) else bif Nat.beq pc 33 then some (.invokevirtual 64, 36, 0, 0) else none)))) else (bif Nat.ble pc 54 then (bif Nat.ble pc 43 then (bif Nat.ble pc 39 then (bif Nat.beq pc 36 then some (.ifCond .eq 45, 39, 81, 0) else bif Nat.beq pc 39 then some (.aload_n 0, 40, 0, 0) else none) else (bif Nat.beq pc 40 then some (.getfield 10, 43, 0, 0) else bif Nat.beq pc 43 then some (.getfield 68, 46, 1, 6) else none)) else (bif Nat.ble pc 49 then (bif Nat.beq pc 46 then some (.ifCond .eq 17, 49, 63, 0) else bif Nat.beq pc 49 then some (.aload_n 0, 50, 0, 0) else none) else (bif Nat.beq pc 50 then some (.getfield 42, 53, 0, 4) else bif Nat.beq pc 53 then some (.aload_n 0, 54, 0, 0) else bif Nat.beq pc 54 then some (.getfield 10, 57, 0, 0) else none))) else (bif Nat.ble pc 64 then (bif Nat.ble pc 60 then (bif Nat.beq pc 57 then some (.invokevirtual 72, 60, 0, 0) else bif Nat.beq pc 60 then some (.goto 14, 63, 74, 0) else none) else (bif Nat.beq pc 63 then some (.aload_n 0, 64, 0, 0) else bif Nat.beq pc 64 then some (.getfield 42, 67, 0, 4) else none)) else (bif Nat.ble pc 68 then (bif Nat.beq pc 67 then some (.aload_n 0, 68, 0, 0) else bif Nat.beq pc 68 then some (.getfield 10, 71, 0, 0) else none) else (bif Nat.beq pc 71 then some (.invokevirtual 76, 74, 0, 0) else bif Nat.beq pc 74 then some (.istore_n 1, 75, 0, 0) else bif Nat.beq pc 75 then some (.iinc 2 1, 78, 0, 0) else none))))) else (bif Nat.ble pc 113 then (bif Nat.ble pc 94 then (bif Nat.ble pc 83 then (bif Nat.ble pc 81 then (bif Nat.beq pc 78 then some (.goto (-60), 81, 18, 0) else bif Nat.beq pc 81 then some (.aload_n 0, 82, 0, 0) else none) else (bif Nat.beq pc 82 then some (.iload_n 1, 83, 0, 0) else bif Nat.beq pc 83 then some (.ifCond .ne 7, 86, 90, 0) else none)) else (bif Nat.ble pc 87 then (bif Nat.beq pc 86 then some (.iconst (-1), 87, 0, 0) else bif Nat.beq pc 87 then some (.goto 12, 90, 99, 0) else none) else (bif Nat.beq pc 90 then some (.aload_n 0, 91, 0, 0) else bif Nat.beq pc 91 then some (.getfield 10, 94, 0, 0) else bif Nat.beq pc 94 then some (.getfield 79, 97, 1, 2) else none))) else (bif Nat.ble pc 102 then (bif Nat.ble pc 98 then (bif Nat.beq pc 97 then some (.iconst 1, 98, 0, 0) else bif Nat.beq pc 98 then some (.isub, 99, 0, 0) else none) else (bif Nat.beq pc 99 then some (.putfield 46, 102, 0, 5) else bif Nat.beq pc 102 then some (.iload_n 1, 103, 0, 0) else none)) else (bif Nat.ble pc 106 then (bif Nat.beq pc 103 then some (.ifCond .ne 37, 106, 140, 0) else bif Nat.beq pc 106 then some (.aload_n 0, 107, 0, 0) else none) else (bif Nat.beq pc 107 then some (.getfield 10, 110, 0, 0) else bif Nat.beq pc 110 then some (.getfield 82, 113, 1, 7) else bif Nat.beq pc 113 then some (.ifCond .ne 13, 116, 126, 0) else none)))) else (bif Nat.ble pc 131 then (bif Nat.ble pc 123 then (bif Nat.ble pc 117 then (bif Nat.beq pc 116 then some (.aload_n 0, 117, 0, 0) else bif Nat.beq pc 117 then some (.getfield 42, 120, 0, 4) else none) else (bif Nat.beq pc 120 then some (.invokevirtual 85, 123, 0, 0) else bif Nat.beq pc 123 then some (.ifCond .eq 17, 126, 140, 0) else none)) else (bif Nat.ble pc 128 then (bif Nat.beq pc 126 then some (.bipush (-2), 128, 0, 0) else bif Nat.beq pc 128 then some (.istore_n 1, 129, 0, 0) else none) else (bif Nat.beq pc 129 then some (.aload_n 0, 130, 0, 0) else bif Nat.beq pc 130 then some (.aload_n 0, 131, 0, 0) else bif Nat.beq pc 131 then some (.getfield 10, 134, 0, 0) else none))) else (bif Nat.ble pc 144 then (bif Nat.ble pc 137 then (bif Nat.beq pc 134 then some (.getfield 79, 137, 1, 2) else bif Nat.beq pc 137 then some (.putfield 46, 140, 0, 5) else none) else (bif Nat.beq pc 140 then some (.iload_n 1, 141, 0, 0) else bif Nat.beq pc 141 then some (.ifCond .ne 13, 144, 154, 0) else bif Nat.beq pc 144 then some (.aload_n 0, 145, 0, 0) else none)) else (bif Nat.ble pc 148 then (bif Nat.beq pc 145 then some (.getfield 33, 148, 0, 3) else bif Nat.beq pc 148 then some (.getfield 88, 151, 5, 8) else none) else (bif Nat.beq pc 151 then some (.goto 4, 154, 155, 0) else bif Nat.beq pc 154 then some (.iload_n 1, 155, 0, 0) else bif Nat.beq pc 155 then some (.ireturn, 156, 0, 0) else none))))))
set_option maxRecDepth 100000 in
set_option maxHeartbeats 4000000 in
theorem ok_L_read : am_CD m_L_read cd_L_read := am_CD_of 156 fl_L_ok cn_L_ok kl_L_ok pl_L_ok (by intro pc h; unfold cd_L_read; rw [Nat.ble_eq_true_of_le h]; rfl) (by decide +kernel)
def cd_Text_rewind (pc : Nat) : Option am_I := bif Nat.ble 16 pc then none else (bif Nat.ble pc 6 then (bif Nat.ble pc 1 then (bif Nat.beq pc 0 then some (.aload_n 0, 1, 0, 0) else bif Nat.beq pc 1 then some (.iconst 0, 2, 0, 0) else none) else (bif Nat.beq pc 2 then some (.putfield 19, 5, 1, 2) else bif Nat.beq pc 5 then some (.aload_n 0, 6, 0, 0) else bif Nat.beq pc 6 then some (.iconst 0, 7, 0, 0) else none)) else (bif Nat.ble pc 10 then (bif Nat.beq pc 7 then some (.putfield 22, 10, 1, 4) else bif Nat.beq pc 10 then some (.aload_n 0, 11, 0, 0) else none) else (bif Nat.beq pc 11 then some (.iconst 0, 12, 0, 0) else bif Nat.beq pc 12 then some (.putfield 25, 15, 1, 7) else bif Nat.beq pc 15 then some (.return_, 16, 0, 0) else none)))
set_option maxRecDepth 100000 in
set_option maxHeartbeats 4000000 in
theorem ok_Text_rewind : am_CD m_Text_rewind cd_Text_rewind := am_CD_of 16 fl_Text_ok cn_Text_ok kl_Text_ok pl_Text_ok (by intro pc h; unfold cd_Text_rewind; rw [Nat.ble_eq_true_of_le h]; rfl) (by decide +kernel)
def cd_Reader_begin (pc : Nat) : Option am_I := bif Nat.ble 39 pc then none else (bif Nat.ble pc 18 then (bif Nat.ble pc 7 then (bif Nat.ble pc 1 then (bif Nat.beq pc 0 then some (.aload_n 0, 1, 0, 0) else bif Nat.beq pc 1 then some (.getfield 9, 4, 6, 0) else none) else (bif Nat.beq pc 4 then some (.invokevirtual 48, 7, 0, 0) else bif Nat.beq pc 7 then some (.aload_n 0, 8, 0, 0) else none)) else (bif Nat.ble pc 11 then (bif Nat.beq pc 8 then some (.getfield 15, 11, 6, 1) else bif Nat.beq pc 11 then some (.getfield 53, 14, 3, 2) else none) else (bif Nat.beq pc 14 then some (.iconst 0, 15, 0, 0) else bif Nat.beq pc 15 then some (.putfield 59, 18, 4, 4) else bif Nat.beq pc 18 then some (.aload_n 0, 19, 0, 0) else none))) else (bif Nat.ble pc 27 then (bif Nat.ble pc 22 then (bif Nat.beq pc 19 then some (.getfield 19, 22, 6, 2) else bif Nat.beq pc 22 then some (.iconst 0, 23, 0, 0) else none) else (bif Nat.beq pc 23 then some (.putfield 65, 26, 5, 8) else bif Nat.beq pc 26 then some (.aload_n 0, 27, 0, 0) else bif Nat.beq pc 27 then some (.getfield 26, 30, 6, 3) else none)) else (bif Nat.ble pc 33 then (bif Nat.beq pc 30 then some (.invokevirtual 68, 33, 0, 0) else bif Nat.beq pc 33 then some (.aload_n 0, 34, 0, 0) else none) else (bif Nat.beq pc 34 then some (.iconst 0, 35, 0, 0) else bif Nat.beq pc 35 then some (.putfield 69, 38, 6, 6) else bif Nat.beq pc 38 then some (.return_, 39, 0, 0) else none))))
set_option maxRecDepth 100000 in
set_option maxHeartbeats 4000000 in
theorem ok_Reader_begin : am_CD m_Reader_begin cd_Reader_begin := am_CD_of 39 fl_Reader_ok cn_Reader_ok kl_Reader_ok pl_Reader_ok (by intro pc h; unfold cd_Reader_begin; rw [Nat.ble_eq_true_of_le h]; rfl) (by decide +kernel)
def cd_Names_begin (pc : Nat) : Option am_I := bif Nat.ble 16 pc then none else (bif Nat.ble pc 6 then (bif Nat.ble pc 1 then (bif Nat.beq pc 0 then some (.aload_n 0, 1, 0, 0) else bif Nat.beq pc 1 then some (.iconst 0, 2, 0, 0) else none) else (bif Nat.beq pc 2 then some (.putfield 22, 5, 2, 3) else bif Nat.beq pc 5 then some (.aload_n 0, 6, 0, 0) else bif Nat.beq pc 6 then some (.iconst 0, 7, 0, 0) else none)) else (bif Nat.ble pc 10 then (bif Nat.beq pc 7 then some (.putfield 26, 10, 2, 4) else bif Nat.beq pc 10 then some (.aload_n 0, 11, 0, 0) else none) else (bif Nat.beq pc 11 then some (.lconst 0, 12, 0, 0) else bif Nat.beq pc 12 then some (.putfield 29, 15, 2, 5) else bif Nat.beq pc 15 then some (.return_, 16, 0, 0) else none)))
set_option maxRecDepth 100000 in
set_option maxHeartbeats 4000000 in
theorem ok_Names_begin : am_CD m_Names_begin cd_Names_begin := am_CD_of 16 fl_Names_ok cn_Names_ok kl_Names_ok pl_Names_ok (by intro pc h; unfold cd_Names_begin; rw [Nat.ble_eq_true_of_le h]; rfl) (by decide +kernel)
def cd_Context_begin (pc : Nat) : Option am_I := bif Nat.ble 26 pc then none else (bif Nat.ble pc 11 then (bif Nat.ble pc 5 then (bif Nat.ble pc 1 then (bif Nat.beq pc 0 then some (.aload_n 0, 1, 0, 0) else bif Nat.beq pc 1 then some (.lconst 0, 2, 0, 0) else none) else (bif Nat.beq pc 2 then some (.putfield 33, 5, 7, 0) else bif Nat.beq pc 5 then some (.aload_n 0, 6, 0, 0) else none)) else (bif Nat.ble pc 7 then (bif Nat.beq pc 6 then some (.lconst 0, 7, 0, 0) else bif Nat.beq pc 7 then some (.putfield 37, 10, 7, 1) else none) else (bif Nat.beq pc 10 then some (.aload_n 0, 11, 0, 0) else bif Nat.beq pc 11 then some (.lconst 0, 12, 0, 0) else none))) else (bif Nat.ble pc 17 then (bif Nat.ble pc 15 then (bif Nat.beq pc 12 then some (.putfield 40, 15, 7, 2) else bif Nat.beq pc 15 then some (.aload_n 0, 16, 0, 0) else none) else (bif Nat.beq pc 16 then some (.iconst 0, 17, 0, 0) else bif Nat.beq pc 17 then some (.putfield 43, 20, 7, 6) else none)) else (bif Nat.ble pc 21 then (bif Nat.beq pc 20 then some (.aload_n 0, 21, 0, 0) else bif Nat.beq pc 21 then some (.iconst 0, 22, 0, 0) else none) else (bif Nat.beq pc 22 then some (.invokevirtual 47, 25, 0, 0) else bif Nat.beq pc 25 then some (.return_, 26, 0, 0) else none))))
set_option maxRecDepth 100000 in
set_option maxHeartbeats 4000000 in
theorem ok_Context_begin : am_CD m_Context_begin cd_Context_begin := am_CD_of 26 fl_Context_ok cn_Context_ok kl_Context_ok pl_Context_ok (by intro pc h; unfold cd_Context_begin; rw [Nat.ble_eq_true_of_le h]; rfl) (by decide +kernel)
def cd_Context_forgetPairs (pc : Nat) : Option am_I := bif Nat.ble 49 pc then none else (bif Nat.ble pc 20 then (bif Nat.ble pc 9 then (bif Nat.ble pc 2 then (bif Nat.beq pc 0 then some (.aload_n 0, 1, 0, 0) else bif Nat.beq pc 1 then some (.iconst 0, 2, 0, 0) else bif Nat.beq pc 2 then some (.putfield 51, 5, 7, 4) else none) else (bif Nat.beq pc 5 then some (.aload_n 0, 6, 0, 0) else bif Nat.beq pc 6 then some (.getfield 17, 9, 7, 5) else bif Nat.beq pc 9 then some (.lconst 0, 10, 0, 0) else none)) else (bif Nat.ble pc 14 then (bif Nat.beq pc 10 then some (.invokestatic 54, 13, 0, 0) else bif Nat.beq pc 13 then some (.iconst 0, 14, 0, 0) else bif Nat.beq pc 14 then some (.istore_n 2, 15, 0, 0) else none) else (bif Nat.ble pc 16 then (bif Nat.beq pc 15 then some (.iload_n 2, 16, 0, 0) else bif Nat.beq pc 16 then some (.iload_n 1, 17, 0, 0) else none) else (bif Nat.beq pc 17 then some (.if_icmp .ge 31, 20, 48, 0) else bif Nat.beq pc 20 then some (.aload_n 0, 21, 0, 0) else none)))) else (bif Nat.ble pc 31 then (bif Nat.ble pc 25 then (bif Nat.beq pc 21 then some (.aload_n 0, 22, 0, 0) else bif Nat.beq pc 22 then some (.getfield 11, 25, 7, 3) else bif Nat.beq pc 25 then some (.iload_n 2, 26, 0, 0) else none) else (bif Nat.ble pc 27 then (bif Nat.beq pc 26 then some (.iaload, 27, 0, 0) else bif Nat.beq pc 27 then some (.invokestatic 60, 30, 0, 0) else none) else (bif Nat.beq pc 30 then some (.aload_n 0, 31, 0, 0) else bif Nat.beq pc 31 then some (.getfield 11, 34, 7, 3) else none))) else (bif Nat.ble pc 36 then (bif Nat.beq pc 34 then some (.iload_n 2, 35, 0, 0) else bif Nat.beq pc 35 then some (.iaload, 36, 0, 0) else bif Nat.beq pc 36 then some (.invokestatic 64, 39, 0, 0) else none) else (bif Nat.ble pc 42 then (bif Nat.beq pc 39 then some (.invokevirtual 67, 42, 0, 0) else bif Nat.beq pc 42 then some (.iinc 2 1, 45, 0, 0) else none) else (bif Nat.beq pc 45 then some (.goto (-30), 48, 15, 0) else bif Nat.beq pc 48 then some (.return_, 49, 0, 0) else none)))))
set_option maxRecDepth 100000 in
set_option maxHeartbeats 4000000 in
theorem ok_Context_forgetPairs : am_CD m_Context_forgetPairs cd_Context_forgetPairs := am_CD_of 49 fl_Context_ok cn_Context_ok kl_Context_ok pl_Context_ok (by intro pc h; unfold cd_Context_forgetPairs; rw [Nat.ble_eq_true_of_le h]; rfl) (by decide +kernel)
def cd_J_fill (pc : Nat) : Option am_I := bif Nat.ble 23 pc then none else (bif Nat.ble pc 7 then (bif Nat.ble pc 2 then (bif Nat.beq pc 0 then some (.iconst 0, 1, 0, 0) else bif Nat.beq pc 1 then some (.istore_n 3, 2, 0, 0) else bif Nat.beq pc 2 then some (.aload_n 0, 3, 0, 0) else none) else (bif Nat.ble pc 4 then (bif Nat.beq pc 3 then some (.arraylength, 4, 0, 0) else bif Nat.beq pc 4 then some (.istore 4, 6, 0, 0) else none) else (bif Nat.beq pc 6 then some (.iload_n 3, 7, 0, 0) else bif Nat.beq pc 7 then some (.iload 4, 9, 0, 0) else none))) else (bif Nat.ble pc 14 then (bif Nat.ble pc 12 then (bif Nat.beq pc 9 then some (.if_icmp .ge 13, 12, 22, 0) else bif Nat.beq pc 12 then some (.aload_n 0, 13, 0, 0) else none) else (bif Nat.beq pc 13 then some (.iload_n 3, 14, 0, 0) else bif Nat.beq pc 14 then some (.lload_n 1, 15, 0, 0) else none)) else (bif Nat.ble pc 16 then (bif Nat.beq pc 15 then some (.lastore, 16, 0, 0) else bif Nat.beq pc 16 then some (.iinc 3 1, 19, 0, 0) else none) else (bif Nat.beq pc 19 then some (.goto (-13), 22, 6, 0) else bif Nat.beq pc 22 then some (.return_, 23, 0, 0) else none))))
set_option maxRecDepth 100000 in
set_option maxHeartbeats 4000000 in
theorem ok_J_fill : am_CD m_J_fill cd_J_fill := am_CD_of 23 fl_java_util_Arrays_ok cn_java_util_Arrays_ok kl_java_util_Arrays_ok pl_java_util_Arrays_ok (by intro pc h; unfold cd_J_fill; rw [Nat.ble_eq_true_of_le h]; rfl) (by decide +kernel)
end
section
def cd_Context_firstOf (pc : Nat) : Option am_I := bif Nat.ble 5 pc then none else (bif Nat.ble pc 1 then (bif Nat.beq pc 0 then some (.iload_n 0, 1, 0, 0) else bif Nat.beq pc 1 then some (.bipush 60, 3, 0, 0) else none) else (bif Nat.beq pc 3 then some (.idiv, 4, 0, 0) else bif Nat.beq pc 4 then some (.ireturn, 5, 0, 0) else none))
set_option maxRecDepth 100000 in
set_option maxHeartbeats 4000000 in
theorem ok_Context_firstOf : am_CD m_Context_firstOf cd_Context_firstOf := am_CD_of 5 fl_Context_ok cn_Context_ok kl_Context_ok pl_Context_ok (by intro pc h; unfold cd_Context_firstOf; rw [Nat.ble_eq_true_of_le h]; rfl) (by decide +kernel)
def cd_Context_secondOf (pc : Nat) : Option am_I := bif Nat.ble 5 pc then none else (bif Nat.ble pc 1 then (bif Nat.beq pc 0 then some (.iload_n 0, 1, 0, 0) else bif Nat.beq pc 1 then some (.bipush 60, 3, 0, 0) else none) else (bif Nat.beq pc 3 then some (.irem, 4, 0, 0) else bif Nat.beq pc 4 then some (.ireturn, 5, 0, 0) else none))
set_option maxRecDepth 100000 in
set_option maxHeartbeats 4000000 in
theorem ok_Context_secondOf : am_CD m_Context_secondOf cd_Context_secondOf := am_CD_of 5 fl_Context_ok cn_Context_ok kl_Context_ok pl_Context_ok (by intro pc h; unfold cd_Context_secondOf; rw [Nat.ble_eq_true_of_le h]; rfl) (by decide +kernel)
def cd_Context_addPair (pc : Nat) : Option am_I := bif Nat.ble 49 pc then none else (bif Nat.ble pc 28 then (bif Nat.ble pc 13 then (bif Nat.ble pc 5 then (bif Nat.ble pc 1 then (bif Nat.beq pc 0 then some (.aload_n 0, 1, 0, 0) else bif Nat.beq pc 1 then some (.getfield 11, 4, 7, 3) else none) else (bif Nat.beq pc 4 then some (.aload_n 0, 5, 0, 0) else bif Nat.beq pc 5 then some (.getfield 51, 8, 7, 4) else none)) else (bif Nat.ble pc 9 then (bif Nat.beq pc 8 then some (.iload_n 1, 9, 0, 0) else bif Nat.beq pc 9 then some (.iload_n 2, 10, 0, 0) else none) else (bif Nat.beq pc 10 then some (.invokestatic 71, 13, 0, 0) else bif Nat.beq pc 13 then some (.iastore, 14, 0, 0) else none))) else (bif Nat.ble pc 19 then (bif Nat.ble pc 15 then (bif Nat.beq pc 14 then some (.aload_n 0, 15, 0, 0) else bif Nat.beq pc 15 then some (.dup, 16, 0, 0) else none) else (bif Nat.beq pc 16 then some (.getfield 51, 19, 7, 4) else bif Nat.beq pc 19 then some (.iconst 1, 20, 0, 0) else none)) else (bif Nat.ble pc 21 then (bif Nat.beq pc 20 then some (.iadd, 21, 0, 0) else bif Nat.beq pc 21 then some (.putfield 51, 24, 7, 4) else none) else (bif Nat.beq pc 24 then some (.aload_n 0, 25, 0, 0) else bif Nat.beq pc 25 then some (.getfield 17, 28, 7, 5) else bif Nat.beq pc 28 then some (.iload_n 1, 29, 0, 0) else none)))) else (bif Nat.ble pc 37 then (bif Nat.ble pc 32 then (bif Nat.ble pc 30 then (bif Nat.beq pc 29 then some (.dup2, 30, 0, 0) else bif Nat.beq pc 30 then some (.laload, 31, 0, 0) else none) else (bif Nat.beq pc 31 then some (.lconst 1, 32, 0, 0) else bif Nat.beq pc 32 then some (.iload_n 2, 33, 0, 0) else none)) else (bif Nat.ble pc 34 then (bif Nat.beq pc 33 then some (.lshl, 34, 0, 0) else bif Nat.beq pc 34 then some (.lor, 35, 0, 0) else none) else (bif Nat.beq pc 35 then some (.lastore, 36, 0, 0) else bif Nat.beq pc 36 then some (.aload_n 0, 37, 0, 0) else bif Nat.beq pc 37 then some (.getfield 17, 40, 7, 5) else none))) else (bif Nat.ble pc 43 then (bif Nat.ble pc 41 then (bif Nat.beq pc 40 then some (.iload_n 2, 41, 0, 0) else bif Nat.beq pc 41 then some (.dup2, 42, 0, 0) else none) else (bif Nat.beq pc 42 then some (.laload, 43, 0, 0) else bif Nat.beq pc 43 then some (.lconst 1, 44, 0, 0) else none)) else (bif Nat.ble pc 45 then (bif Nat.beq pc 44 then some (.iload_n 1, 45, 0, 0) else bif Nat.beq pc 45 then some (.lshl, 46, 0, 0) else none) else (bif Nat.beq pc 46 then some (.lor, 47, 0, 0) else bif Nat.beq pc 47 then some (.lastore, 48, 0, 0) else bif Nat.beq pc 48 then some (.return_, 49, 0, 0) else none)))))
set_option maxRecDepth 100000 in
set_option maxHeartbeats 4000000 in
theorem ok_Context_addPair : am_CD m_Context_addPair cd_Context_addPair := am_CD_of 49 fl_Context_ok cn_Context_ok kl_Context_ok pl_Context_ok (by intro pc h; unfold cd_Context_addPair; rw [Nat.ble_eq_true_of_le h]; rfl) (by decide +kernel)
def cd_Context_pairOf (pc : Nat) : Option am_I := bif Nat.ble 7 pc then none else (bif Nat.ble pc 3 then (bif Nat.beq pc 0 then some (.iload_n 0, 1, 0, 0) else bif Nat.beq pc 1 then some (.bipush 60, 3, 0, 0) else bif Nat.beq pc 3 then some (.imul, 4, 0, 0) else none) else (bif Nat.beq pc 4 then some (.iload_n 1, 5, 0, 0) else bif Nat.beq pc 5 then some (.iadd, 6, 0, 0) else bif Nat.beq pc 6 then some (.ireturn, 7, 0, 0) else none))
set_option maxRecDepth 100000 in
set_option maxHeartbeats 4000000 in
theorem ok_Context_pairOf : am_CD m_Context_pairOf cd_Context_pairOf := am_CD_of 7 fl_Context_ok cn_Context_ok kl_Context_ok pl_Context_ok (by intro pc h; unfold cd_Context_pairOf; rw [Nat.ble_eq_true_of_le h]; rfl) (by decide +kernel)
def cd_Text_advance (pc : Nat) : Option am_I := bif Nat.ble 70 pc then none else (bif Nat.ble pc 32 then (bif Nat.ble pc 16 then (bif Nat.ble pc 3 then (bif Nat.ble pc 1 then (bif Nat.beq pc 0 then some (.iconst 0, 1, 0, 0) else bif Nat.beq pc 1 then some (.istore_n 1, 2, 0, 0) else none) else (bif Nat.beq pc 2 then some (.iload_n 1, 3, 0, 0) else bif Nat.beq pc 3 then some (.sipush 1600, 6, 0, 0) else none)) else (bif Nat.ble pc 9 then (bif Nat.beq pc 6 then some (.if_icmp .ge 62, 9, 68, 0) else bif Nat.beq pc 9 then some (.aload_n 0, 10, 0, 0) else none) else (bif Nat.beq pc 10 then some (.invokevirtual 29, 13, 0, 0) else bif Nat.beq pc 13 then some (.ifCond .eq 55, 16, 68, 0) else bif Nat.beq pc 16 then some (.aload_n 0, 17, 0, 0) else none))) else (bif Nat.ble pc 22 then (bif Nat.ble pc 20 then (bif Nat.beq pc 17 then some (.invokevirtual 33, 20, 0, 0) else bif Nat.beq pc 20 then some (.istore_n 2, 21, 0, 0) else none) else (bif Nat.beq pc 21 then some (.aload_n 0, 22, 0, 0) else bif Nat.beq pc 22 then some (.getfield 25, 25, 1, 7) else none)) else (bif Nat.ble pc 28 then (bif Nat.beq pc 25 then some (.ifCond .eq 21, 28, 46, 0) else bif Nat.beq pc 28 then some (.aload_n 0, 29, 0, 0) else none) else (bif Nat.beq pc 29 then some (.iload_n 2, 30, 0, 0) else bif Nat.beq pc 30 then some (.bipush 41, 32, 0, 0) else bif Nat.beq pc 32 then some (.if_icmp .eq 7, 35, 39, 0) else none)))) else (bif Nat.ble pc 52 then (bif Nat.ble pc 40 then (bif Nat.ble pc 36 then (bif Nat.beq pc 35 then some (.iconst 1, 36, 0, 0) else bif Nat.beq pc 36 then some (.goto 4, 39, 40, 0) else none) else (bif Nat.beq pc 39 then some (.iconst 0, 40, 0, 0) else bif Nat.beq pc 40 then some (.putfield 25, 43, 1, 7) else none)) else (bif Nat.ble pc 46 then (bif Nat.beq pc 43 then some (.goto 19, 46, 62, 0) else bif Nat.beq pc 46 then some (.iload_n 2, 47, 0, 0) else none) else (bif Nat.beq pc 47 then some (.bipush 40, 49, 0, 0) else bif Nat.beq pc 49 then some (.if_icmp .ne 11, 52, 60, 0) else bif Nat.beq pc 52 then some (.aload_n 0, 53, 0, 0) else none))) else (bif Nat.ble pc 60 then (bif Nat.ble pc 54 then (bif Nat.beq pc 53 then some (.iconst 1, 54, 0, 0) else bif Nat.beq pc 54 then some (.putfield 25, 57, 1, 7) else none) else (bif Nat.beq pc 57 then some (.goto 5, 60, 62, 0) else bif Nat.beq pc 60 then some (.iconst 1, 61, 0, 0) else none)) else (bif Nat.ble pc 62 then (bif Nat.beq pc 61 then some (.ireturn, 62, 0, 0) else bif Nat.beq pc 62 then some (.iinc 1 1, 65, 0, 0) else none) else (bif Nat.beq pc 65 then some (.goto (-63), 68, 2, 0) else bif Nat.beq pc 68 then some (.iconst 0, 69, 0, 0) else bif Nat.beq pc 69 then some (.ireturn, 70, 0, 0) else none)))))
set_option maxRecDepth 100000 in
set_option maxHeartbeats 4000000 in
theorem ok_Text_advance : am_CD m_Text_advance cd_Text_advance := am_CD_of 70 fl_Text_ok cn_Text_ok kl_Text_ok pl_Text_ok (by intro pc h; unfold cd_Text_advance; rw [Nat.ble_eq_true_of_le h]; rfl) (by decide +kernel)
def cd_Text_scanWord (pc : Nat) : Option am_I := bif Nat.ble 180 pc then none else (bif Nat.ble pc 90 then (bif Nat.ble pc 43 then (bif Nat.ble pc 20 then (bif Nat.ble pc 8 then (bif Nat.ble pc 1 then (bif Nat.beq pc 0 then some (.aload_n 0, 1, 0, 0) else bif Nat.beq pc 1 then some (.aload_n 0, 2, 0, 0) else none) else (bif Nat.beq pc 2 then some (.getfield 22, 5, 1, 4) else bif Nat.beq pc 5 then some (.putfield 37, 8, 1, 3) else bif Nat.beq pc 8 then some (.aload_n 0, 9, 0, 0) else none)) else (bif Nat.ble pc 13 then (bif Nat.beq pc 9 then some (.getfield 37, 12, 1, 3) else bif Nat.beq pc 12 then some (.aload_n 0, 13, 0, 0) else bif Nat.beq pc 13 then some (.getfield 15, 16, 1, 1) else none) else (bif Nat.beq pc 16 then some (.if_icmp .ge 30, 19, 46, 0) else bif Nat.beq pc 19 then some (.aload_n 0, 20, 0, 0) else bif Nat.beq pc 20 then some (.getfield 11, 23, 1, 0) else none))) else (bif Nat.ble pc 33 then (bif Nat.ble pc 27 then (bif Nat.beq pc 23 then some (.aload_n 0, 24, 0, 0) else bif Nat.beq pc 24 then some (.getfield 37, 27, 1, 3) else bif Nat.beq pc 27 then some (.baload, 28, 0, 0) else none) else (bif Nat.beq pc 28 then some (.bipush 32, 30, 0, 0) else bif Nat.beq pc 30 then some (.if_icmp .ne 16, 33, 46, 0) else bif Nat.beq pc 33 then some (.aload_n 0, 34, 0, 0) else none)) else (bif Nat.ble pc 38 then (bif Nat.beq pc 34 then some (.dup, 35, 0, 0) else bif Nat.beq pc 35 then some (.getfield 37, 38, 1, 3) else bif Nat.beq pc 38 then some (.iconst 1, 39, 0, 0) else none) else (bif Nat.beq pc 39 then some (.iadd, 40, 0, 0) else bif Nat.beq pc 40 then some (.putfield 37, 43, 1, 3) else bif Nat.beq pc 43 then some (.goto (-35), 46, 8, 0) else none)))) else (bif Nat.ble pc 65 then (bif Nat.ble pc 55 then (bif Nat.ble pc 48 then (bif Nat.beq pc 46 then some (.aload_n 0, 47, 0, 0) else bif Nat.beq pc 47 then some (.aload_n 0, 48, 0, 0) else bif Nat.beq pc 48 then some (.getfield 37, 51, 1, 3) else none) else (bif Nat.beq pc 51 then some (.putfield 22, 54, 1, 4) else bif Nat.beq pc 54 then some (.aload_n 0, 55, 0, 0) else bif Nat.beq pc 55 then some (.lconst 0, 56, 0, 0) else none)) else (bif Nat.ble pc 60 then (bif Nat.beq pc 56 then some (.putfield 40, 59, 1, 5) else bif Nat.beq pc 59 then some (.aload_n 0, 60, 0, 0) else bif Nat.beq pc 60 then some (.iconst 0, 61, 0, 0) else none) else (bif Nat.beq pc 61 then some (.putfield 44, 64, 1, 6) else bif Nat.beq pc 64 then some (.aload_n 0, 65, 0, 0) else bif Nat.beq pc 65 then some (.getfield 22, 68, 1, 4) else none))) else (bif Nat.ble pc 79 then (bif Nat.ble pc 72 then (bif Nat.beq pc 68 then some (.aload_n 0, 69, 0, 0) else bif Nat.beq pc 69 then some (.getfield 15, 72, 1, 1) else bif Nat.beq pc 72 then some (.if_icmp .ge 83, 75, 155, 0) else none) else (bif Nat.beq pc 75 then some (.aload_n 0, 76, 0, 0) else bif Nat.beq pc 76 then some (.getfield 11, 79, 1, 0) else bif Nat.beq pc 79 then some (.aload_n 0, 80, 0, 0) else none)) else (bif Nat.ble pc 84 then (bif Nat.beq pc 80 then some (.getfield 22, 83, 1, 4) else bif Nat.beq pc 83 then some (.baload, 84, 0, 0) else bif Nat.beq pc 84 then some (.bipush 32, 86, 0, 0) else none) else (bif Nat.beq pc 86 then some (.if_icmp .eq 69, 89, 155, 0) else bif Nat.beq pc 89 then some (.aload_n 0, 90, 0, 0) else bif Nat.beq pc 90 then some (.aload_n 0, 91, 0, 0) else none))))) else (bif Nat.ble pc 135 then (bif Nat.ble pc 112 then (bif Nat.ble pc 102 then (bif Nat.ble pc 97 then (bif Nat.beq pc 91 then some (.getfield 40, 94, 1, 5) else bif Nat.beq pc 94 then some (.ldc2_w 47, 97, 128, 0) else bif Nat.beq pc 97 then some (.lmul, 98, 0, 0) else none) else (bif Nat.beq pc 98 then some (.aload_n 0, 99, 0, 0) else bif Nat.beq pc 99 then some (.getfield 11, 102, 1, 0) else bif Nat.beq pc 102 then some (.aload_n 0, 103, 0, 0) else none)) else (bif Nat.ble pc 107 then (bif Nat.beq pc 103 then some (.getfield 22, 106, 1, 4) else bif Nat.beq pc 106 then some (.baload, 107, 0, 0) else bif Nat.beq pc 107 then some (.i2l, 108, 0, 0) else none) else (bif Nat.beq pc 108 then some (.ladd, 109, 0, 0) else bif Nat.beq pc 109 then some (.putfield 40, 112, 1, 5) else bif Nat.beq pc 112 then some (.aload_n 0, 113, 0, 0) else none))) else (bif Nat.ble pc 124 then (bif Nat.ble pc 117 then (bif Nat.beq pc 113 then some (.aload_n 0, 114, 0, 0) else bif Nat.beq pc 114 then some (.getfield 44, 117, 1, 6) else bif Nat.beq pc 117 then some (.ifCond .ne 17, 120, 134, 0) else none) else (bif Nat.beq pc 120 then some (.aload_n 0, 121, 0, 0) else bif Nat.beq pc 121 then some (.getfield 11, 124, 1, 0) else bif Nat.beq pc 124 then some (.aload_n 0, 125, 0, 0) else none)) else (bif Nat.ble pc 129 then (bif Nat.beq pc 125 then some (.getfield 22, 128, 1, 4) else bif Nat.beq pc 128 then some (.baload, 129, 0, 0) else bif Nat.beq pc 129 then some (.bipush 36, 131, 0, 0) else none) else (bif Nat.beq pc 131 then some (.if_icmp .ne 7, 134, 138, 0) else bif Nat.beq pc 134 then some (.iconst 1, 135, 0, 0) else bif Nat.beq pc 135 then some (.goto 4, 138, 139, 0) else none)))) else (bif Nat.ble pc 159 then (bif Nat.ble pc 147 then (bif Nat.ble pc 142 then (bif Nat.beq pc 138 then some (.iconst 0, 139, 0, 0) else bif Nat.beq pc 139 then some (.putfield 44, 142, 1, 6) else bif Nat.beq pc 142 then some (.aload_n 0, 143, 0, 0) else none) else (bif Nat.beq pc 143 then some (.dup, 144, 0, 0) else bif Nat.beq pc 144 then some (.getfield 22, 147, 1, 4) else bif Nat.beq pc 147 then some (.iconst 1, 148, 0, 0) else none)) else (bif Nat.ble pc 152 then (bif Nat.beq pc 148 then some (.iadd, 149, 0, 0) else bif Nat.beq pc 149 then some (.putfield 22, 152, 1, 4) else bif Nat.beq pc 152 then some (.goto (-88), 155, 64, 0) else none) else (bif Nat.beq pc 155 then some (.aload_n 0, 156, 0, 0) else bif Nat.beq pc 156 then some (.getfield 37, 159, 1, 3) else bif Nat.beq pc 159 then some (.aload_n 0, 160, 0, 0) else none))) else (bif Nat.ble pc 169 then (bif Nat.ble pc 166 then (bif Nat.beq pc 160 then some (.getfield 22, 163, 1, 4) else bif Nat.beq pc 163 then some (.if_icmp .ne 5, 166, 168, 0) else bif Nat.beq pc 166 then some (.iconst 0, 167, 0, 0) else none) else (bif Nat.beq pc 167 then some (.ireturn, 168, 0, 0) else bif Nat.beq pc 168 then some (.aload_n 0, 169, 0, 0) else bif Nat.beq pc 169 then some (.dup, 170, 0, 0) else none)) else (bif Nat.ble pc 174 then (bif Nat.beq pc 170 then some (.getfield 19, 173, 1, 2) else bif Nat.beq pc 173 then some (.iconst 1, 174, 0, 0) else bif Nat.beq pc 174 then some (.iadd, 175, 0, 0) else none) else (bif Nat.beq pc 175 then some (.putfield 19, 178, 1, 2) else bif Nat.beq pc 178 then some (.iconst 1, 179, 0, 0) else bif Nat.beq pc 179 then some (.ireturn, 180, 0, 0) else none))))))
set_option maxRecDepth 100000 in
set_option maxHeartbeats 4000000 in
theorem ok_Text_scanWord : am_CD m_Text_scanWord cd_Text_scanWord := am_CD_of 180 fl_Text_ok cn_Text_ok kl_Text_ok pl_Text_ok (by intro pc h; unfold cd_Text_scanWord; rw [Nat.ble_eq_true_of_le h]; rfl) (by decide +kernel)
def cd_Text_keyword (pc : Nat) : Option am_I := bif Nat.ble 43 pc then none else (bif Nat.ble pc 21 then (bif Nat.ble pc 9 then (bif Nat.ble pc 4 then (bif Nat.beq pc 0 then some (.aload_n 0, 1, 0, 0) else bif Nat.beq pc 1 then some (.getfield 22, 4, 1, 4) else bif Nat.beq pc 4 then some (.aload_n 0, 5, 0, 0) else none) else (bif Nat.beq pc 5 then some (.getfield 37, 8, 1, 3) else bif Nat.beq pc 8 then some (.isub, 9, 0, 0) else bif Nat.beq pc 9 then some (.iconst 2, 10, 0, 0) else none)) else (bif Nat.ble pc 14 then (bif Nat.beq pc 10 then some (.if_icmp .ne 31, 13, 41, 0) else bif Nat.beq pc 13 then some (.aload_n 0, 14, 0, 0) else bif Nat.beq pc 14 then some (.getfield 11, 17, 1, 0) else none) else (bif Nat.beq pc 17 then some (.aload_n 0, 18, 0, 0) else bif Nat.beq pc 18 then some (.getfield 37, 21, 1, 3) else bif Nat.beq pc 21 then some (.baload, 22, 0, 0) else none))) else (bif Nat.ble pc 32 then (bif Nat.ble pc 27 then (bif Nat.beq pc 22 then some (.bipush 36, 24, 0, 0) else bif Nat.beq pc 24 then some (.if_icmp .ne 17, 27, 41, 0) else bif Nat.beq pc 27 then some (.aload_n 0, 28, 0, 0) else none) else (bif Nat.beq pc 28 then some (.getfield 11, 31, 1, 0) else bif Nat.beq pc 31 then some (.aload_n 0, 32, 0, 0) else bif Nat.beq pc 32 then some (.getfield 37, 35, 1, 3) else none)) else (bif Nat.ble pc 37 then (bif Nat.beq pc 35 then some (.iconst 1, 36, 0, 0) else bif Nat.beq pc 36 then some (.iadd, 37, 0, 0) else bif Nat.beq pc 37 then some (.baload, 38, 0, 0) else none) else (bif Nat.beq pc 38 then some (.goto 4, 41, 42, 0) else bif Nat.beq pc 41 then some (.iconst 0, 42, 0, 0) else bif Nat.beq pc 42 then some (.ireturn, 43, 0, 0) else none))))
set_option maxRecDepth 100000 in
set_option maxHeartbeats 4000000 in
theorem ok_Text_keyword : am_CD m_Text_keyword cd_Text_keyword := am_CD_of 43 fl_Text_ok cn_Text_ok kl_Text_ok pl_Text_ok (by intro pc h; unfold cd_Text_keyword; rw [Nat.ble_eq_true_of_le h]; rfl) (by decide +kernel)
def cd_Reader_takeKeyword (pc : Nat) : Option am_I := bif Nat.ble 139 pc then none else (bif Nat.ble pc 99 then (bif Nat.ble pc 85 then (bif Nat.ble pc 6 then (bif Nat.ble pc 1 then (bif Nat.beq pc 0 then some (.aload_n 1, 1, 0, 0) else bif Nat.beq pc 1 then some (.invokevirtual 75, 4, 0, 0) else none) else (bif Nat.beq pc 4 then some (.istore_n 2, 5, 0, 0) else bif Nat.beq pc 5 then some (.aload_n 0, 6, 0, 0) else bif Nat.beq pc 6 then some (.getfield 69, 9, 6, 6) else none)) else (bif Nat.ble pc 80 then (bif Nat.beq pc 9 then some (.tableswitch 127 0 13 #[71, 77, 77, 77, 83, 127, 127, 89, 127, 105, 111, 111, 127, 111], 80, 0, 0) else bif Nat.beq pc 80 then some (.aload_n 0, 81, 0, 0) else none) else (bif Nat.beq pc 81 then some (.iload_n 2, 82, 0, 0) else bif Nat.beq pc 82 then some (.invokevirtual 81, 85, 0, 0) else bif Nat.beq pc 85 then some (.ireturn, 86, 0, 0) else none))) else (bif Nat.ble pc 92 then (bif Nat.ble pc 87 then (bif Nat.beq pc 86 then some (.aload_n 0, 87, 0, 0) else bif Nat.beq pc 87 then some (.iload_n 2, 88, 0, 0) else none) else (bif Nat.beq pc 88 then some (.invokevirtual 85, 91, 0, 0) else bif Nat.beq pc 91 then some (.ireturn, 92, 0, 0) else bif Nat.beq pc 92 then some (.aload_n 0, 93, 0, 0) else none)) else (bif Nat.ble pc 94 then (bif Nat.beq pc 93 then some (.iload_n 2, 94, 0, 0) else bif Nat.beq pc 94 then some (.invokevirtual 88, 97, 0, 0) else none) else (bif Nat.beq pc 97 then some (.ireturn, 98, 0, 0) else bif Nat.beq pc 98 then some (.iload_n 2, 99, 0, 0) else bif Nat.beq pc 99 then some (.bipush 46, 101, 0, 0) else none)))) else (bif Nat.ble pc 119 then (bif Nat.ble pc 111 then (bif Nat.ble pc 104 then (bif Nat.beq pc 101 then some (.if_icmp .ne 10, 104, 111, 0) else bif Nat.beq pc 104 then some (.aload_n 0, 105, 0, 0) else none) else (bif Nat.beq pc 105 then some (.invokevirtual 91, 108, 0, 0) else bif Nat.beq pc 108 then some (.goto 5, 111, 113, 0) else bif Nat.beq pc 111 then some (.bipush (-3), 113, 0, 0) else none)) else (bif Nat.ble pc 114 then (bif Nat.beq pc 113 then some (.ireturn, 114, 0, 0) else bif Nat.beq pc 114 then some (.aload_n 0, 115, 0, 0) else none) else (bif Nat.beq pc 115 then some (.iload_n 2, 116, 0, 0) else bif Nat.beq pc 116 then some (.invokevirtual 94, 119, 0, 0) else bif Nat.beq pc 119 then some (.ireturn, 120, 0, 0) else none))) else (bif Nat.ble pc 127 then (bif Nat.ble pc 121 then (bif Nat.beq pc 120 then some (.iload_n 2, 121, 0, 0) else bif Nat.beq pc 121 then some (.bipush 46, 123, 0, 0) else none) else (bif Nat.beq pc 123 then some (.if_icmp .ne 10, 126, 133, 0) else bif Nat.beq pc 126 then some (.aload_n 0, 127, 0, 0) else bif Nat.beq pc 127 then some (.invokevirtual 97, 130, 0, 0) else none)) else (bif Nat.ble pc 133 then (bif Nat.beq pc 130 then some (.goto 5, 133, 135, 0) else bif Nat.beq pc 133 then some (.bipush (-3), 135, 0, 0) else none) else (bif Nat.beq pc 135 then some (.ireturn, 136, 0, 0) else bif Nat.beq pc 136 then some (.bipush (-3), 138, 0, 0) else bif Nat.beq pc 138 then some (.ireturn, 139, 0, 0) else none)))))
set_option maxRecDepth 100000 in
set_option maxHeartbeats 4000000 in
theorem ok_Reader_takeKeyword : am_CD m_Reader_takeKeyword cd_Reader_takeKeyword := am_CD_of 139 fl_Reader_ok cn_Reader_ok kl_Reader_ok pl_Reader_ok (by intro pc h; unfold cd_Reader_takeKeyword; rw [Nat.ble_eq_true_of_le h]; rfl) (by decide +kernel)
def cd_Reader_beginUnlabelled (pc : Nat) : Option am_I := bif Nat.ble 104 pc then none else (bif Nat.ble pc 78 then (bif Nat.ble pc 60 then (bif Nat.ble pc 52 then (bif Nat.beq pc 0 then some (.iload_n 1, 1, 0, 0) else bif Nat.beq pc 1 then some (.lookupswitch 100 #[(99, 67), (100, 94), (118, 88), (123, 51), (125, 59)], 52, 0, 0) else bif Nat.beq pc 52 then some (.aload_n 0, 53, 0, 0) else none) else (bif Nat.ble pc 56 then (bif Nat.beq pc 53 then some (.getfield 26, 56, 6, 3) else bif Nat.beq pc 56 then some (.invokevirtual 146, 59, 0, 0) else none) else (bif Nat.beq pc 59 then some (.ireturn, 60, 0, 0) else bif Nat.beq pc 60 then some (.aload_n 0, 61, 0, 0) else none))) else (bif Nat.ble pc 68 then (bif Nat.ble pc 64 then (bif Nat.beq pc 61 then some (.getfield 26, 64, 6, 3) else bif Nat.beq pc 64 then some (.invokevirtual 149, 67, 0, 0) else none) else (bif Nat.beq pc 67 then some (.ireturn, 68, 0, 0) else bif Nat.beq pc 68 then some (.aload_n 0, 69, 0, 0) else none)) else (bif Nat.ble pc 72 then (bif Nat.beq pc 69 then some (.getfield 26, 72, 6, 3) else bif Nat.beq pc 72 then some (.getfield 72, 75, 7, 6) else none) else (bif Nat.beq pc 75 then some (.ifCond .le 8, 78, 83, 0) else bif Nat.beq pc 78 then some (.bipush (-5), 80, 0, 0) else none)))) else (bif Nat.ble pc 90 then (bif Nat.ble pc 84 then (bif Nat.beq pc 80 then some (.goto 8, 83, 88, 0) else bif Nat.beq pc 83 then some (.aload_n 0, 84, 0, 0) else bif Nat.beq pc 84 then some (.iconst 1, 85, 0, 0) else none) else (bif Nat.ble pc 88 then (bif Nat.beq pc 85 then some (.invokevirtual 152, 88, 0, 0) else bif Nat.beq pc 88 then some (.ireturn, 89, 0, 0) else none) else (bif Nat.beq pc 89 then some (.aload_n 0, 90, 0, 0) else bif Nat.beq pc 90 then some (.iconst 2, 91, 0, 0) else none))) else (bif Nat.ble pc 96 then (bif Nat.ble pc 94 then (bif Nat.beq pc 91 then some (.invokevirtual 152, 94, 0, 0) else bif Nat.beq pc 94 then some (.ireturn, 95, 0, 0) else none) else (bif Nat.beq pc 95 then some (.aload_n 0, 96, 0, 0) else bif Nat.beq pc 96 then some (.iconst 3, 97, 0, 0) else none)) else (bif Nat.ble pc 100 then (bif Nat.beq pc 97 then some (.invokevirtual 152, 100, 0, 0) else bif Nat.beq pc 100 then some (.ireturn, 101, 0, 0) else none) else (bif Nat.beq pc 101 then some (.bipush (-3), 103, 0, 0) else bif Nat.beq pc 103 then some (.ireturn, 104, 0, 0) else none)))))
set_option maxRecDepth 100000 in
set_option maxHeartbeats 4000000 in
theorem ok_Reader_beginUnlabelled : am_CD m_Reader_beginUnlabelled cd_Reader_beginUnlabelled := am_CD_of 104 fl_Reader_ok cn_Reader_ok kl_Reader_ok pl_Reader_ok (by intro pc h; unfold cd_Reader_beginUnlabelled; rw [Nat.ble_eq_true_of_le h]; rfl) (by decide +kernel)
def cd_Context_openScope (pc : Nat) : Option am_I := bif Nat.ble 76 pc then none else (bif Nat.ble pc 38 then (bif Nat.ble pc 17 then (bif Nat.ble pc 9 then (bif Nat.ble pc 1 then (bif Nat.beq pc 0 then some (.aload_n 0, 1, 0, 0) else bif Nat.beq pc 1 then some (.getfield 43, 4, 7, 6) else none) else (bif Nat.beq pc 4 then some (.bipush 6, 6, 0, 0) else bif Nat.beq pc 6 then some (.if_icmp .lt 6, 9, 12, 0) else bif Nat.beq pc 9 then some (.bipush (-7), 11, 0, 0) else none)) else (bif Nat.ble pc 12 then (bif Nat.beq pc 11 then some (.ireturn, 12, 0, 0) else bif Nat.beq pc 12 then some (.aload_n 0, 13, 0, 0) else none) else (bif Nat.beq pc 13 then some (.getfield 21, 16, 7, 7) else bif Nat.beq pc 16 then some (.aload_n 0, 17, 0, 0) else bif Nat.beq pc 17 then some (.getfield 43, 20, 7, 6) else none))) else (bif Nat.ble pc 26 then (bif Nat.ble pc 21 then (bif Nat.beq pc 20 then some (.aload_n 0, 21, 0, 0) else bif Nat.beq pc 21 then some (.getfield 33, 24, 7, 0) else none) else (bif Nat.beq pc 24 then some (.lastore, 25, 0, 0) else bif Nat.beq pc 25 then some (.aload_n 0, 26, 0, 0) else bif Nat.beq pc 26 then some (.getfield 24, 29, 7, 8) else none)) else (bif Nat.ble pc 33 then (bif Nat.beq pc 29 then some (.aload_n 0, 30, 0, 0) else bif Nat.beq pc 30 then some (.getfield 43, 33, 7, 6) else bif Nat.beq pc 33 then some (.aload_n 0, 34, 0, 0) else none) else (bif Nat.beq pc 34 then some (.getfield 37, 37, 7, 1) else bif Nat.beq pc 37 then some (.lastore, 38, 0, 0) else bif Nat.beq pc 38 then some (.aload_n 0, 39, 0, 0) else none)))) else (bif Nat.ble pc 56 then (bif Nat.ble pc 47 then (bif Nat.ble pc 42 then (bif Nat.beq pc 39 then some (.getfield 27, 42, 7, 9) else bif Nat.beq pc 42 then some (.aload_n 0, 43, 0, 0) else none) else (bif Nat.beq pc 43 then some (.getfield 43, 46, 7, 6) else bif Nat.beq pc 46 then some (.aload_n 0, 47, 0, 0) else bif Nat.beq pc 47 then some (.getfield 40, 50, 7, 2) else none)) else (bif Nat.ble pc 51 then (bif Nat.beq pc 50 then some (.lastore, 51, 0, 0) else bif Nat.beq pc 51 then some (.aload_n 0, 52, 0, 0) else none) else (bif Nat.beq pc 52 then some (.getfield 30, 55, 7, 10) else bif Nat.beq pc 55 then some (.aload_n 0, 56, 0, 0) else bif Nat.beq pc 56 then some (.getfield 43, 59, 7, 6) else none))) else (bif Nat.ble pc 65 then (bif Nat.ble pc 60 then (bif Nat.beq pc 59 then some (.aload_n 0, 60, 0, 0) else bif Nat.beq pc 60 then some (.getfield 51, 63, 7, 4) else none) else (bif Nat.beq pc 63 then some (.iastore, 64, 0, 0) else bif Nat.beq pc 64 then some (.aload_n 0, 65, 0, 0) else bif Nat.beq pc 65 then some (.dup, 66, 0, 0) else none)) else (bif Nat.ble pc 70 then (bif Nat.beq pc 66 then some (.getfield 43, 69, 7, 6) else bif Nat.beq pc 69 then some (.iconst 1, 70, 0, 0) else bif Nat.beq pc 70 then some (.iadd, 71, 0, 0) else none) else (bif Nat.beq pc 71 then some (.putfield 43, 74, 7, 6) else bif Nat.beq pc 74 then some (.iconst 0, 75, 0, 0) else bif Nat.beq pc 75 then some (.ireturn, 76, 0, 0) else none)))))
set_option maxRecDepth 100000 in
set_option maxHeartbeats 4000000 in
theorem ok_Context_openScope : am_CD m_Context_openScope cd_Context_openScope := am_CD_of 76 fl_Context_ok cn_Context_ok kl_Context_ok pl_Context_ok (by intro pc h; unfold cd_Context_openScope; rw [Nat.ble_eq_true_of_le h]; rfl) (by decide +kernel)
def cd_Context_closeScope (pc : Nat) : Option am_I := bif Nat.ble 74 pc then none else (bif Nat.ble pc 34 then (bif Nat.ble pc 16 then (bif Nat.ble pc 9 then (bif Nat.ble pc 1 then (bif Nat.beq pc 0 then some (.aload_n 0, 1, 0, 0) else bif Nat.beq pc 1 then some (.getfield 43, 4, 7, 6) else none) else (bif Nat.beq pc 4 then some (.ifCond .ne 6, 7, 10, 0) else bif Nat.beq pc 7 then some (.bipush (-5), 9, 0, 0) else bif Nat.beq pc 9 then some (.ireturn, 10, 0, 0) else none)) else (bif Nat.ble pc 11 then (bif Nat.beq pc 10 then some (.aload_n 0, 11, 0, 0) else bif Nat.beq pc 11 then some (.dup, 12, 0, 0) else none) else (bif Nat.beq pc 12 then some (.getfield 43, 15, 7, 6) else bif Nat.beq pc 15 then some (.iconst 1, 16, 0, 0) else bif Nat.beq pc 16 then some (.isub, 17, 0, 0) else none))) else (bif Nat.ble pc 25 then (bif Nat.ble pc 20 then (bif Nat.beq pc 17 then some (.putfield 43, 20, 7, 6) else bif Nat.beq pc 20 then some (.aload_n 0, 21, 0, 0) else none) else (bif Nat.beq pc 21 then some (.aload_n 0, 22, 0, 0) else bif Nat.beq pc 22 then some (.getfield 21, 25, 7, 7) else bif Nat.beq pc 25 then some (.aload_n 0, 26, 0, 0) else none)) else (bif Nat.ble pc 29 then (bif Nat.beq pc 26 then some (.getfield 43, 29, 7, 6) else bif Nat.beq pc 29 then some (.laload, 30, 0, 0) else none) else (bif Nat.beq pc 30 then some (.putfield 33, 33, 7, 0) else bif Nat.beq pc 33 then some (.aload_n 0, 34, 0, 0) else bif Nat.beq pc 34 then some (.aload_n 0, 35, 0, 0) else none)))) else (bif Nat.ble pc 52 then (bif Nat.ble pc 43 then (bif Nat.ble pc 38 then (bif Nat.beq pc 35 then some (.getfield 24, 38, 7, 8) else bif Nat.beq pc 38 then some (.aload_n 0, 39, 0, 0) else none) else (bif Nat.beq pc 39 then some (.getfield 43, 42, 7, 6) else bif Nat.beq pc 42 then some (.laload, 43, 0, 0) else bif Nat.beq pc 43 then some (.putfield 37, 46, 7, 1) else none)) else (bif Nat.ble pc 47 then (bif Nat.beq pc 46 then some (.aload_n 0, 47, 0, 0) else bif Nat.beq pc 47 then some (.aload_n 0, 48, 0, 0) else none) else (bif Nat.beq pc 48 then some (.getfield 27, 51, 7, 9) else bif Nat.beq pc 51 then some (.aload_n 0, 52, 0, 0) else bif Nat.beq pc 52 then some (.getfield 43, 55, 7, 6) else none))) else (bif Nat.ble pc 61 then (bif Nat.ble pc 56 then (bif Nat.beq pc 55 then some (.laload, 56, 0, 0) else bif Nat.beq pc 56 then some (.putfield 40, 59, 7, 2) else none) else (bif Nat.beq pc 59 then some (.aload_n 0, 60, 0, 0) else bif Nat.beq pc 60 then some (.aload_n 0, 61, 0, 0) else bif Nat.beq pc 61 then some (.getfield 30, 64, 7, 10) else none)) else (bif Nat.ble pc 68 then (bif Nat.beq pc 64 then some (.aload_n 0, 65, 0, 0) else bif Nat.beq pc 65 then some (.getfield 43, 68, 7, 6) else bif Nat.beq pc 68 then some (.iaload, 69, 0, 0) else none) else (bif Nat.beq pc 69 then some (.invokevirtual 47, 72, 0, 0) else bif Nat.beq pc 72 then some (.iconst 0, 73, 0, 0) else bif Nat.beq pc 73 then some (.ireturn, 74, 0, 0) else none)))))
set_option maxRecDepth 100000 in
set_option maxHeartbeats 4000000 in
theorem ok_Context_closeScope : am_CD m_Context_closeScope cd_Context_closeScope := am_CD_of 74 fl_Context_ok cn_Context_ok kl_Context_ok pl_Context_ok (by intro pc h; unfold cd_Context_closeScope; rw [Nat.ble_eq_true_of_le h]; rfl) (by decide +kernel)
def cd_Reader_beginNames (pc : Nat) : Option am_I := bif Nat.ble 17 pc then none else (bif Nat.ble pc 6 then (bif Nat.ble pc 1 then (bif Nat.beq pc 0 then some (.aload_n 0, 1, 0, 0) else bif Nat.beq pc 1 then some (.iload_n 1, 2, 0, 0) else none) else (bif Nat.beq pc 2 then some (.putfield 69, 5, 6, 6) else bif Nat.beq pc 5 then some (.aload_n 0, 6, 0, 0) else bif Nat.beq pc 6 then some (.iconst 0, 7, 0, 0) else none)) else (bif Nat.ble pc 11 then (bif Nat.beq pc 7 then some (.putfield 155, 10, 6, 7) else bif Nat.beq pc 10 then some (.aload_n 0, 11, 0, 0) else bif Nat.beq pc 11 then some (.lconst 0, 12, 0, 0) else none) else (bif Nat.beq pc 12 then some (.putfield 158, 15, 6, 8) else bif Nat.beq pc 15 then some (.iconst 0, 16, 0, 0) else bif Nat.beq pc 16 then some (.ireturn, 17, 0, 0) else none)))
set_option maxRecDepth 100000 in
set_option maxHeartbeats 4000000 in
theorem ok_Reader_beginNames : am_CD m_Reader_beginNames cd_Reader_beginNames := am_CD_of 17 fl_Reader_ok cn_Reader_ok kl_Reader_ok pl_Reader_ok (by intro pc h; unfold cd_Reader_beginNames; rw [Nat.ble_eq_true_of_le h]; rfl) (by decide +kernel)
def cd_Reader_endNames (pc : Nat) : Option am_I := bif Nat.ble 38 pc then none else (bif Nat.ble pc 17 then (bif Nat.ble pc 8 then (bif Nat.ble pc 1 then (bif Nat.beq pc 0 then some (.aload_n 0, 1, 0, 0) else bif Nat.beq pc 1 then some (.getfield 69, 4, 6, 6) else none) else (bif Nat.beq pc 4 then some (.iconst 3, 5, 0, 0) else bif Nat.beq pc 5 then some (.if_icmp .ne 7, 8, 12, 0) else bif Nat.beq pc 8 then some (.iconst 2, 9, 0, 0) else none)) else (bif Nat.ble pc 13 then (bif Nat.beq pc 9 then some (.goto 4, 12, 13, 0) else bif Nat.beq pc 12 then some (.iconst 1, 13, 0, 0) else bif Nat.beq pc 13 then some (.istore_n 2, 14, 0, 0) else none) else (bif Nat.beq pc 14 then some (.iload_n 1, 15, 0, 0) else bif Nat.beq pc 15 then some (.bipush 46, 17, 0, 0) else bif Nat.beq pc 17 then some (.if_icmp .ne 11, 20, 28, 0) else none))) else (bif Nat.ble pc 28 then (bif Nat.ble pc 21 then (bif Nat.beq pc 20 then some (.aload_n 0, 21, 0, 0) else bif Nat.beq pc 21 then some (.getfield 155, 24, 6, 7) else none) else (bif Nat.beq pc 24 then some (.iload_n 2, 25, 0, 0) else bif Nat.beq pc 25 then some (.if_icmp .ge 6, 28, 31, 0) else bif Nat.beq pc 28 then some (.bipush (-3), 30, 0, 0) else none)) else (bif Nat.ble pc 32 then (bif Nat.beq pc 30 then some (.ireturn, 31, 0, 0) else bif Nat.beq pc 31 then some (.aload_n 0, 32, 0, 0) else bif Nat.beq pc 32 then some (.iconst 0, 33, 0, 0) else none) else (bif Nat.beq pc 33 then some (.putfield 69, 36, 6, 6) else bif Nat.beq pc 36 then some (.iconst 0, 37, 0, 0) else bif Nat.beq pc 37 then some (.ireturn, 38, 0, 0) else none))))
set_option maxRecDepth 100000 in
set_option maxHeartbeats 4000000 in
theorem ok_Reader_endNames : am_CD m_Reader_endNames cd_Reader_endNames := am_CD_of 38 fl_Reader_ok cn_Reader_ok kl_Reader_ok pl_Reader_ok (by intro pc h; unfold cd_Reader_endNames; rw [Nat.ble_eq_true_of_le h]; rfl) (by decide +kernel)
def cd_Reader_takeKind (pc : Nat) : Option am_I := bif Nat.ble 129 pc then none else (bif Nat.ble pc 83 then (bif Nat.ble pc 63 then (bif Nat.ble pc 10 then (bif Nat.ble pc 1 then (bif Nat.beq pc 0 then some (.aload_n 0, 1, 0, 0) else bif Nat.beq pc 1 then some (.getfield 15, 4, 6, 1) else none) else (bif Nat.beq pc 4 then some (.getfield 53, 7, 3, 2) else bif Nat.beq pc 7 then some (.getfield 59, 10, 4, 4) else bif Nat.beq pc 10 then some (.istore_n 2, 11, 0, 0) else none)) else (bif Nat.ble pc 56 then (bif Nat.beq pc 11 then some (.iload_n 1, 12, 0, 0) else bif Nat.beq pc 12 then some (.lookupswitch 96 #[(97, 70), (101, 57), (102, 44), (112, 83)], 56, 0, 0) else bif Nat.beq pc 56 then some (.aload_n 0, 57, 0, 0) else none) else (bif Nat.beq pc 57 then some (.getfield 15, 60, 6, 1) else bif Nat.beq pc 60 then some (.getfield 198, 63, 3, 1) else bif Nat.beq pc 63 then some (.iload_n 2, 64, 0, 0) else none))) else (bif Nat.ble pc 73 then (bif Nat.ble pc 66 then (bif Nat.beq pc 64 then some (.iconst 0, 65, 0, 0) else bif Nat.beq pc 65 then some (.iastore, 66, 0, 0) else bif Nat.beq pc 66 then some (.goto 45, 69, 111, 0) else none) else (bif Nat.beq pc 69 then some (.aload_n 0, 70, 0, 0) else bif Nat.beq pc 70 then some (.getfield 15, 73, 6, 1) else bif Nat.beq pc 73 then some (.getfield 198, 76, 3, 1) else none)) else (bif Nat.ble pc 78 then (bif Nat.beq pc 76 then some (.iload_n 2, 77, 0, 0) else bif Nat.beq pc 77 then some (.iconst 1, 78, 0, 0) else bif Nat.beq pc 78 then some (.iastore, 79, 0, 0) else none) else (bif Nat.beq pc 79 then some (.goto 32, 82, 111, 0) else bif Nat.beq pc 82 then some (.aload_n 0, 83, 0, 0) else bif Nat.beq pc 83 then some (.getfield 15, 86, 6, 1) else none)))) else (bif Nat.ble pc 105 then (bif Nat.ble pc 95 then (bif Nat.ble pc 90 then (bif Nat.beq pc 86 then some (.getfield 198, 89, 3, 1) else bif Nat.beq pc 89 then some (.iload_n 2, 90, 0, 0) else bif Nat.beq pc 90 then some (.iconst 2, 91, 0, 0) else none) else (bif Nat.beq pc 91 then some (.iastore, 92, 0, 0) else bif Nat.beq pc 92 then some (.goto 19, 95, 111, 0) else bif Nat.beq pc 95 then some (.aload_n 0, 96, 0, 0) else none)) else (bif Nat.ble pc 102 then (bif Nat.beq pc 96 then some (.getfield 15, 99, 6, 1) else bif Nat.beq pc 99 then some (.getfield 198, 102, 3, 1) else bif Nat.beq pc 102 then some (.iload_n 2, 103, 0, 0) else none) else (bif Nat.beq pc 103 then some (.iconst 3, 104, 0, 0) else bif Nat.beq pc 104 then some (.iastore, 105, 0, 0) else bif Nat.beq pc 105 then some (.goto 6, 108, 111, 0) else none))) else (bif Nat.ble pc 115 then (bif Nat.ble pc 111 then (bif Nat.beq pc 108 then some (.bipush (-3), 110, 0, 0) else bif Nat.beq pc 110 then some (.ireturn, 111, 0, 0) else bif Nat.beq pc 111 then some (.aload_n 0, 112, 0, 0) else none) else (bif Nat.beq pc 112 then some (.iload_n 1, 113, 0, 0) else bif Nat.beq pc 113 then some (.bipush 102, 115, 0, 0) else bif Nat.beq pc 115 then some (.if_icmp .ne 7, 118, 122, 0) else none)) else (bif Nat.ble pc 122 then (bif Nat.beq pc 118 then some (.iconst 5, 119, 0, 0) else bif Nat.beq pc 119 then some (.goto 5, 122, 124, 0) else bif Nat.beq pc 122 then some (.bipush 8, 124, 0, 0) else none) else (bif Nat.beq pc 124 then some (.putfield 69, 127, 6, 6) else bif Nat.beq pc 127 then some (.iconst 0, 128, 0, 0) else bif Nat.beq pc 128 then some (.ireturn, 129, 0, 0) else none)))))
set_option maxRecDepth 100000 in
set_option maxHeartbeats 4000000 in
theorem ok_Reader_takeKind : am_CD m_Reader_takeKind cd_Reader_takeKind := am_CD_of 129 fl_Reader_ok cn_Reader_ok kl_Reader_ok pl_Reader_ok (by intro pc h; unfold cd_Reader_takeKind; rw [Nat.ble_eq_true_of_le h]; rfl) (by decide +kernel)
def cd_Reader_declare (pc : Nat) : Option am_I := bif Nat.ble 140 pc then none else (bif Nat.ble pc 68 then (bif Nat.ble pc 33 then (bif Nat.ble pc 16 then (bif Nat.ble pc 7 then (bif Nat.ble pc 1 then (bif Nat.beq pc 0 then some (.aload_n 0, 1, 0, 0) else bif Nat.beq pc 1 then some (.getfield 15, 4, 6, 1) else none) else (bif Nat.beq pc 4 then some (.getfield 53, 7, 3, 2) else bif Nat.beq pc 7 then some (.getfield 59, 10, 4, 4) else none)) else (bif Nat.ble pc 11 then (bif Nat.beq pc 10 then some (.istore_n 1, 11, 0, 0) else bif Nat.beq pc 11 then some (.aload_n 0, 12, 0, 0) else none) else (bif Nat.beq pc 12 then some (.getfield 9, 15, 6, 0) else bif Nat.beq pc 15 then some (.aload_n 0, 16, 0, 0) else bif Nat.beq pc 16 then some (.getfield 15, 19, 6, 1) else none))) else (bif Nat.ble pc 24 then (bif Nat.ble pc 22 then (bif Nat.beq pc 19 then some (.getfield 284, 22, 3, 0) else bif Nat.beq pc 22 then some (.iload_n 1, 23, 0, 0) else none) else (bif Nat.beq pc 23 then some (.laload, 24, 0, 0) else bif Nat.beq pc 24 then some (.iconst 2, 25, 0, 0) else none)) else (bif Nat.ble pc 28 then (bif Nat.beq pc 25 then some (.invokevirtual 164, 28, 0, 0) else bif Nat.beq pc 28 then some (.istore_n 2, 29, 0, 0) else none) else (bif Nat.beq pc 29 then some (.aload_n 0, 30, 0, 0) else bif Nat.beq pc 30 then some (.getfield 9, 33, 6, 0) else bif Nat.beq pc 33 then some (.getfield 275, 36, 2, 2) else none)))) else (bif Nat.ble pc 50 then (bif Nat.ble pc 39 then (bif Nat.ble pc 37 then (bif Nat.beq pc 36 then some (.iload_n 2, 37, 0, 0) else bif Nat.beq pc 37 then some (.iload_n 1, 38, 0, 0) else none) else (bif Nat.beq pc 38 then some (.iastore, 39, 0, 0) else bif Nat.beq pc 39 then some (.aload_n 0, 40, 0, 0) else none)) else (bif Nat.ble pc 43 then (bif Nat.beq pc 40 then some (.getfield 15, 43, 6, 1) else bif Nat.beq pc 43 then some (.iload_n 1, 44, 0, 0) else none) else (bif Nat.beq pc 44 then some (.invokevirtual 211, 47, 0, 0) else bif Nat.beq pc 47 then some (.ifCond .eq 21, 50, 68, 0) else bif Nat.beq pc 50 then some (.aload_n 0, 51, 0, 0) else none))) else (bif Nat.ble pc 59 then (bif Nat.ble pc 54 then (bif Nat.beq pc 51 then some (.getfield 26, 54, 6, 3) else bif Nat.beq pc 54 then some (.dup, 55, 0, 0) else none) else (bif Nat.beq pc 55 then some (.getfield 239, 58, 7, 2) else bif Nat.beq pc 58 then some (.lconst 1, 59, 0, 0) else bif Nat.beq pc 59 then some (.iload_n 1, 60, 0, 0) else none)) else (bif Nat.ble pc 61 then (bif Nat.beq pc 60 then some (.lshl, 61, 0, 0) else bif Nat.beq pc 61 then some (.lor, 62, 0, 0) else none) else (bif Nat.beq pc 62 then some (.putfield 239, 65, 7, 2) else bif Nat.beq pc 65 then some (.goto 16, 68, 81, 0) else bif Nat.beq pc 68 then some (.aload_n 0, 69, 0, 0) else none))))) else (bif Nat.ble pc 102 then (bif Nat.ble pc 85 then (bif Nat.ble pc 76 then (bif Nat.ble pc 72 then (bif Nat.beq pc 69 then some (.getfield 19, 72, 6, 2) else bif Nat.beq pc 72 then some (.dup, 73, 0, 0) else none) else (bif Nat.beq pc 73 then some (.getfield 65, 76, 5, 8) else bif Nat.beq pc 76 then some (.iconst 1, 77, 0, 0) else none)) else (bif Nat.ble pc 78 then (bif Nat.beq pc 77 then some (.iadd, 78, 0, 0) else bif Nat.beq pc 78 then some (.putfield 65, 81, 5, 8) else none) else (bif Nat.beq pc 81 then some (.aload_n 0, 82, 0, 0) else bif Nat.beq pc 82 then some (.getfield 15, 85, 6, 1) else bif Nat.beq pc 85 then some (.getfield 198, 88, 3, 1) else none))) else (bif Nat.ble pc 93 then (bif Nat.ble pc 89 then (bif Nat.beq pc 88 then some (.iload_n 1, 89, 0, 0) else bif Nat.beq pc 89 then some (.iaload, 90, 0, 0) else none) else (bif Nat.beq pc 90 then some (.ifCond .ne 27, 93, 117, 0) else bif Nat.beq pc 93 then some (.aload_n 0, 94, 0, 0) else none)) else (bif Nat.ble pc 97 then (bif Nat.beq pc 94 then some (.getfield 26, 97, 6, 3) else bif Nat.beq pc 97 then some (.dup, 98, 0, 0) else none) else (bif Nat.beq pc 98 then some (.getfield 179, 101, 7, 1) else bif Nat.beq pc 101 then some (.aload_n 0, 102, 0, 0) else bif Nat.beq pc 102 then some (.getfield 15, 105, 6, 1) else none)))) else (bif Nat.ble pc 121 then (bif Nat.ble pc 112 then (bif Nat.ble pc 108 then (bif Nat.beq pc 105 then some (.getfield 53, 108, 3, 2) else bif Nat.beq pc 108 then some (.getfield 231, 111, 4, 3) else none) else (bif Nat.beq pc 111 then some (.iload_n 1, 112, 0, 0) else bif Nat.beq pc 112 then some (.laload, 113, 0, 0) else none)) else (bif Nat.ble pc 114 then (bif Nat.beq pc 113 then some (.lor, 114, 0, 0) else bif Nat.beq pc 114 then some (.putfield 179, 117, 7, 1) else none) else (bif Nat.beq pc 117 then some (.aload_n 0, 118, 0, 0) else bif Nat.beq pc 118 then some (.getfield 15, 121, 6, 1) else bif Nat.beq pc 121 then some (.getfield 53, 124, 3, 2) else none))) else (bif Nat.ble pc 130 then (bif Nat.ble pc 125 then (bif Nat.beq pc 124 then some (.dup, 125, 0, 0) else bif Nat.beq pc 125 then some (.getfield 59, 128, 4, 4) else none) else (bif Nat.beq pc 128 then some (.iconst 1, 129, 0, 0) else bif Nat.beq pc 129 then some (.iadd, 130, 0, 0) else bif Nat.beq pc 130 then some (.putfield 59, 133, 4, 4) else none)) else (bif Nat.ble pc 134 then (bif Nat.beq pc 133 then some (.aload_n 0, 134, 0, 0) else bif Nat.beq pc 134 then some (.iconst 0, 135, 0, 0) else none) else (bif Nat.beq pc 135 then some (.putfield 69, 138, 6, 6) else bif Nat.beq pc 138 then some (.iconst 0, 139, 0, 0) else bif Nat.beq pc 139 then some (.ireturn, 140, 0, 0) else none))))))
set_option maxRecDepth 100000 in
set_option maxHeartbeats 4000000 in
theorem ok_Reader_declare : am_CD m_Reader_declare cd_Reader_declare := am_CD_of 140 fl_Reader_ok cn_Reader_ok kl_Reader_ok pl_Reader_ok (by intro pc h; unfold cd_Reader_declare; rw [Nat.ble_eq_true_of_le h]; rfl) (by decide +kernel)
end
section
def cd_Names_add (pc : Nat) : Option am_I := bif Nat.ble 70 pc then none else (bif Nat.ble pc 32 then (bif Nat.ble pc 15 then (bif Nat.ble pc 7 then (bif Nat.ble pc 1 then (bif Nat.beq pc 0 then some (.aload_n 0, 1, 0, 0) else bif Nat.beq pc 1 then some (.getfield 22, 4, 2, 3) else none) else (bif Nat.beq pc 4 then some (.istore 4, 6, 0, 0) else bif Nat.beq pc 6 then some (.aload_n 0, 7, 0, 0) else bif Nat.beq pc 7 then some (.getfield 11, 10, 2, 0) else none)) else (bif Nat.ble pc 12 then (bif Nat.beq pc 10 then some (.iload 4, 12, 0, 0) else bif Nat.beq pc 12 then some (.lload_n 1, 13, 0, 0) else none) else (bif Nat.beq pc 13 then some (.lastore, 14, 0, 0) else bif Nat.beq pc 14 then some (.aload_n 0, 15, 0, 0) else bif Nat.beq pc 15 then some (.getfield 15, 18, 2, 1) else none))) else (bif Nat.ble pc 23 then (bif Nat.ble pc 20 then (bif Nat.beq pc 18 then some (.iload 4, 20, 0, 0) else bif Nat.beq pc 20 then some (.iload_n 3, 21, 0, 0) else none) else (bif Nat.beq pc 21 then some (.iastore, 22, 0, 0) else bif Nat.beq pc 22 then some (.aload_n 0, 23, 0, 0) else bif Nat.beq pc 23 then some (.dup, 24, 0, 0) else none)) else (bif Nat.ble pc 27 then (bif Nat.beq pc 24 then some (.getfield 22, 27, 2, 3) else bif Nat.beq pc 27 then some (.iconst 1, 28, 0, 0) else none) else (bif Nat.beq pc 28 then some (.iadd, 29, 0, 0) else bif Nat.beq pc 29 then some (.putfield 22, 32, 2, 3) else bif Nat.beq pc 32 then some (.iload_n 3, 33, 0, 0) else none)))) else (bif Nat.ble pc 50 then (bif Nat.ble pc 41 then (bif Nat.ble pc 36 then (bif Nat.beq pc 33 then some (.ifCond .ne 16, 36, 49, 0) else bif Nat.beq pc 36 then some (.aload_n 0, 37, 0, 0) else none) else (bif Nat.beq pc 37 then some (.dup, 38, 0, 0) else bif Nat.beq pc 38 then some (.getfield 26, 41, 2, 4) else bif Nat.beq pc 41 then some (.iconst 1, 42, 0, 0) else none)) else (bif Nat.ble pc 43 then (bif Nat.beq pc 42 then some (.iadd, 43, 0, 0) else bif Nat.beq pc 43 then some (.putfield 26, 46, 2, 4) else none) else (bif Nat.beq pc 46 then some (.goto 21, 49, 67, 0) else bif Nat.beq pc 49 then some (.iload_n 3, 50, 0, 0) else bif Nat.beq pc 50 then some (.iconst 1, 51, 0, 0) else none))) else (bif Nat.ble pc 59 then (bif Nat.ble pc 54 then (bif Nat.beq pc 51 then some (.if_icmp .ne 16, 54, 67, 0) else bif Nat.beq pc 54 then some (.aload_n 0, 55, 0, 0) else none) else (bif Nat.beq pc 55 then some (.dup, 56, 0, 0) else bif Nat.beq pc 56 then some (.getfield 29, 59, 2, 5) else bif Nat.beq pc 59 then some (.lconst 1, 60, 0, 0) else none)) else (bif Nat.ble pc 63 then (bif Nat.beq pc 60 then some (.iload 4, 62, 0, 0) else bif Nat.beq pc 62 then some (.lshl, 63, 0, 0) else bif Nat.beq pc 63 then some (.lor, 64, 0, 0) else none) else (bif Nat.beq pc 64 then some (.putfield 29, 67, 2, 5) else bif Nat.beq pc 67 then some (.iload 4, 69, 0, 0) else bif Nat.beq pc 69 then some (.ireturn, 70, 0, 0) else none)))))
set_option maxRecDepth 100000 in
set_option maxHeartbeats 4000000 in
theorem ok_Names_add : am_CD m_Names_add cd_Names_add := am_CD_of 70 fl_Names_ok cn_Names_ok kl_Names_ok pl_Names_ok (by intro pc h; unfold cd_Names_add; rw [Nat.ble_eq_true_of_le h]; rfl) (by decide +kernel)
def cd_Statements_isHypothesis (pc : Nat) : Option am_I := bif Nat.ble 25 pc then none else (bif Nat.ble pc 10 then (bif Nat.ble pc 4 then (bif Nat.beq pc 0 then some (.aload_n 0, 1, 0, 0) else bif Nat.beq pc 1 then some (.getfield 15, 4, 3, 1) else bif Nat.beq pc 4 then some (.iload_n 1, 5, 0, 0) else none) else (bif Nat.ble pc 6 then (bif Nat.beq pc 5 then some (.iaload, 6, 0, 0) else bif Nat.beq pc 6 then some (.ifCond .eq 13, 9, 19, 0) else none) else (bif Nat.beq pc 9 then some (.aload_n 0, 10, 0, 0) else bif Nat.beq pc 10 then some (.getfield 15, 13, 3, 1) else none))) else (bif Nat.ble pc 16 then (bif Nat.ble pc 14 then (bif Nat.beq pc 13 then some (.iload_n 1, 14, 0, 0) else bif Nat.beq pc 14 then some (.iaload, 15, 0, 0) else none) else (bif Nat.beq pc 15 then some (.iconst 1, 16, 0, 0) else bif Nat.beq pc 16 then some (.if_icmp .ne 7, 19, 23, 0) else none)) else (bif Nat.ble pc 20 then (bif Nat.beq pc 19 then some (.iconst 1, 20, 0, 0) else bif Nat.beq pc 20 then some (.goto 4, 23, 24, 0) else none) else (bif Nat.beq pc 23 then some (.iconst 0, 24, 0, 0) else bif Nat.beq pc 24 then some (.ireturn, 25, 0, 0) else none))))
set_option maxRecDepth 100000 in
set_option maxHeartbeats 4000000 in
theorem ok_Statements_isHypothesis : am_CD m_Statements_isHypothesis cd_Statements_isHypothesis := am_CD_of 25 fl_Statements_ok cn_Statements_ok kl_Statements_ok pl_Statements_ok (by intro pc h; unfold cd_Statements_isHypothesis; rw [Nat.ble_eq_true_of_le h]; rfl) (by decide +kernel)
def cd_Reader_endSymbols (pc : Nat) : Option am_I := bif Nat.ble 88 pc then none else (bif Nat.ble pc 42 then (bif Nat.ble pc 20 then (bif Nat.ble pc 10 then (bif Nat.ble pc 1 then (bif Nat.beq pc 0 then some (.aload_n 0, 1, 0, 0) else bif Nat.beq pc 1 then some (.getfield 15, 4, 6, 1) else none) else (bif Nat.beq pc 4 then some (.getfield 53, 7, 3, 2) else bif Nat.beq pc 7 then some (.getfield 59, 10, 4, 4) else bif Nat.beq pc 10 then some (.istore_n 2, 11, 0, 0) else none)) else (bif Nat.ble pc 15 then (bif Nat.beq pc 11 then some (.aload_n 0, 12, 0, 0) else bif Nat.beq pc 12 then some (.getfield 15, 15, 6, 1) else bif Nat.beq pc 15 then some (.getfield 198, 18, 3, 1) else none) else (bif Nat.beq pc 18 then some (.iload_n 2, 19, 0, 0) else bif Nat.beq pc 19 then some (.iaload, 20, 0, 0) else bif Nat.beq pc 20 then some (.iconst 3, 21, 0, 0) else none))) else (bif Nat.ble pc 30 then (bif Nat.ble pc 25 then (bif Nat.beq pc 21 then some (.if_icmp .ne 7, 24, 28, 0) else bif Nat.beq pc 24 then some (.iconst 1, 25, 0, 0) else bif Nat.beq pc 25 then some (.goto 4, 28, 29, 0) else none) else (bif Nat.beq pc 28 then some (.iconst 0, 29, 0, 0) else bif Nat.beq pc 29 then some (.istore_n 3, 30, 0, 0) else bif Nat.beq pc 30 then some (.iload_n 1, 31, 0, 0) else none)) else (bif Nat.ble pc 35 then (bif Nat.beq pc 31 then some (.iload_n 3, 32, 0, 0) else bif Nat.beq pc 32 then some (.ifCond .eq 8, 35, 40, 0) else bif Nat.beq pc 35 then some (.bipush 61, 37, 0, 0) else none) else (bif Nat.beq pc 37 then some (.goto 5, 40, 42, 0) else bif Nat.beq pc 40 then some (.bipush 46, 42, 0, 0) else bif Nat.beq pc 42 then some (.if_icmp .eq 6, 45, 48, 0) else none)))) else (bif Nat.ble pc 64 then (bif Nat.ble pc 52 then (bif Nat.ble pc 47 then (bif Nat.beq pc 45 then some (.bipush (-3), 47, 0, 0) else bif Nat.beq pc 47 then some (.ireturn, 48, 0, 0) else none) else (bif Nat.beq pc 48 then some (.aload_n 0, 49, 0, 0) else bif Nat.beq pc 49 then some (.getfield 15, 52, 6, 1) else bif Nat.beq pc 52 then some (.iload_n 2, 53, 0, 0) else none)) else (bif Nat.ble pc 59 then (bif Nat.beq pc 53 then some (.invokevirtual 211, 56, 0, 0) else bif Nat.beq pc 56 then some (.ifCond .ne 8, 59, 64, 0) else bif Nat.beq pc 59 then some (.aload_n 0, 60, 0, 0) else none) else (bif Nat.beq pc 60 then some (.iload_n 2, 61, 0, 0) else bif Nat.beq pc 61 then some (.invokevirtual 214, 64, 0, 0) else bif Nat.beq pc 64 then some (.iload_n 3, 65, 0, 0) else none))) else (bif Nat.ble pc 74 then (bif Nat.ble pc 69 then (bif Nat.beq pc 65 then some (.ifCond .ne 8, 68, 73, 0) else bif Nat.beq pc 68 then some (.aload_n 0, 69, 0, 0) else bif Nat.beq pc 69 then some (.invokevirtual 91, 72, 0, 0) else none) else (bif Nat.beq pc 72 then some (.ireturn, 73, 0, 0) else bif Nat.beq pc 73 then some (.aload_n 0, 74, 0, 0) else bif Nat.beq pc 74 then some (.getfield 35, 77, 6, 4) else none)) else (bif Nat.ble pc 81 then (bif Nat.beq pc 77 then some (.invokevirtual 218, 80, 0, 0) else bif Nat.beq pc 80 then some (.aload_n 0, 81, 0, 0) else bif Nat.beq pc 81 then some (.bipush 10, 83, 0, 0) else none) else (bif Nat.beq pc 83 then some (.putfield 69, 86, 6, 6) else bif Nat.beq pc 86 then some (.iconst 0, 87, 0, 0) else bif Nat.beq pc 87 then some (.ireturn, 88, 0, 0) else none)))))
set_option maxRecDepth 100000 in
set_option maxHeartbeats 4000000 in
theorem ok_Reader_endSymbols : am_CD m_Reader_endSymbols cd_Reader_endSymbols := am_CD_of 88 fl_Reader_ok cn_Reader_ok kl_Reader_ok pl_Reader_ok (by intro pc h; unfold cd_Reader_endSymbols; rw [Nat.ble_eq_true_of_le h]; rfl) (by decide +kernel)
def cd_Reader_beginAssertion (pc : Nat) : Option am_I := bif Nat.ble 144 pc then none else (bif Nat.ble pc 69 then (bif Nat.ble pc 34 then (bif Nat.ble pc 16 then (bif Nat.ble pc 5 then (bif Nat.ble pc 1 then (bif Nat.beq pc 0 then some (.aload_n 0, 1, 0, 0) else bif Nat.beq pc 1 then some (.getfield 19, 4, 6, 2) else none) else (bif Nat.beq pc 4 then some (.iload_n 1, 5, 0, 0) else bif Nat.beq pc 5 then some (.invokevirtual 219, 8, 0, 0) else none)) else (bif Nat.ble pc 9 then (bif Nat.beq pc 8 then some (.aload_n 0, 9, 0, 0) else bif Nat.beq pc 9 then some (.getfield 15, 12, 6, 1) else none) else (bif Nat.beq pc 12 then some (.getfield 221, 15, 3, 4) else bif Nat.beq pc 15 then some (.iload_n 1, 16, 0, 0) else bif Nat.beq pc 16 then some (.aload_n 0, 17, 0, 0) else none))) else (bif Nat.ble pc 25 then (bif Nat.ble pc 20 then (bif Nat.beq pc 17 then some (.getfield 19, 20, 6, 2) else bif Nat.beq pc 20 then some (.getfield 65, 23, 5, 8) else none) else (bif Nat.beq pc 23 then some (.iastore, 24, 0, 0) else bif Nat.beq pc 24 then some (.aload_n 0, 25, 0, 0) else bif Nat.beq pc 25 then some (.iload_n 1, 26, 0, 0) else none)) else (bif Nat.ble pc 29 then (bif Nat.beq pc 26 then some (.invokevirtual 223, 29, 0, 0) else bif Nat.beq pc 29 then some (.lstore_n 2, 30, 0, 0) else none) else (bif Nat.beq pc 30 then some (.aload_n 0, 31, 0, 0) else bif Nat.beq pc 31 then some (.getfield 15, 34, 6, 1) else bif Nat.beq pc 34 then some (.getfield 227, 37, 3, 3) else none)))) else (bif Nat.ble pc 50 then (bif Nat.ble pc 41 then (bif Nat.ble pc 38 then (bif Nat.beq pc 37 then some (.iload_n 1, 38, 0, 0) else bif Nat.beq pc 38 then some (.lconst 0, 39, 0, 0) else none) else (bif Nat.beq pc 39 then some (.lastore, 40, 0, 0) else bif Nat.beq pc 40 then some (.iconst 0, 41, 0, 0) else bif Nat.beq pc 41 then some (.istore 4, 43, 0, 0) else none)) else (bif Nat.ble pc 45 then (bif Nat.beq pc 43 then some (.iload 4, 45, 0, 0) else bif Nat.beq pc 45 then some (.iload_n 1, 46, 0, 0) else none) else (bif Nat.beq pc 46 then some (.if_icmp .ge 92, 49, 138, 0) else bif Nat.beq pc 49 then some (.aload_n 0, 50, 0, 0) else bif Nat.beq pc 50 then some (.getfield 15, 53, 6, 1) else none))) else (bif Nat.ble pc 62 then (bif Nat.ble pc 56 then (bif Nat.beq pc 53 then some (.getfield 53, 56, 3, 2) else bif Nat.beq pc 56 then some (.getfield 231, 59, 4, 3) else none) else (bif Nat.beq pc 59 then some (.iload 4, 61, 0, 0) else bif Nat.beq pc 61 then some (.laload, 62, 0, 0) else bif Nat.beq pc 62 then some (.lload_n 2, 63, 0, 0) else none)) else (bif Nat.ble pc 64 then (bif Nat.beq pc 63 then some (.land, 64, 0, 0) else bif Nat.beq pc 64 then some (.lconst 0, 65, 0, 0) else none) else (bif Nat.beq pc 65 then some (.lcmp, 66, 0, 0) else bif Nat.beq pc 66 then some (.ifCond .eq 7, 69, 73, 0) else bif Nat.beq pc 69 then some (.iconst 1, 70, 0, 0) else none))))) else (bif Nat.ble pc 106 then (bif Nat.ble pc 86 then (bif Nat.ble pc 76 then (bif Nat.ble pc 73 then (bif Nat.beq pc 70 then some (.goto 4, 73, 74, 0) else bif Nat.beq pc 73 then some (.iconst 0, 74, 0, 0) else none) else (bif Nat.beq pc 74 then some (.istore 5, 76, 0, 0) else bif Nat.beq pc 76 then some (.aload_n 0, 77, 0, 0) else none)) else (bif Nat.ble pc 80 then (bif Nat.beq pc 77 then some (.getfield 15, 80, 6, 1) else bif Nat.beq pc 80 then some (.getfield 198, 83, 3, 1) else none) else (bif Nat.beq pc 83 then some (.iload 4, 85, 0, 0) else bif Nat.beq pc 85 then some (.iaload, 86, 0, 0) else bif Nat.beq pc 86 then some (.iconst 1, 87, 0, 0) else none))) else (bif Nat.ble pc 95 then (bif Nat.ble pc 90 then (bif Nat.beq pc 87 then some (.if_icmp .ne 7, 90, 94, 0) else bif Nat.beq pc 90 then some (.iconst 1, 91, 0, 0) else none) else (bif Nat.beq pc 91 then some (.goto 4, 94, 95, 0) else bif Nat.beq pc 94 then some (.iconst 0, 95, 0, 0) else bif Nat.beq pc 95 then some (.istore 6, 97, 0, 0) else none)) else (bif Nat.ble pc 98 then (bif Nat.beq pc 97 then some (.aload_n 0, 98, 0, 0) else bif Nat.beq pc 98 then some (.iload 4, 100, 0, 0) else none) else (bif Nat.beq pc 100 then some (.invokevirtual 233, 103, 0, 0) else bif Nat.beq pc 103 then some (.ifCond .eq 29, 106, 132, 0) else bif Nat.beq pc 106 then some (.iload 6, 108, 0, 0) else none)))) else (bif Nat.ble pc 126 then (bif Nat.ble pc 117 then (bif Nat.ble pc 111 then (bif Nat.beq pc 108 then some (.ifCond .ne 8, 111, 116, 0) else bif Nat.beq pc 111 then some (.iload 5, 113, 0, 0) else none) else (bif Nat.beq pc 113 then some (.ifCond .eq 19, 116, 132, 0) else bif Nat.beq pc 116 then some (.aload_n 0, 117, 0, 0) else bif Nat.beq pc 117 then some (.getfield 15, 120, 6, 1) else none)) else (bif Nat.ble pc 123 then (bif Nat.beq pc 120 then some (.getfield 227, 123, 3, 3) else bif Nat.beq pc 123 then some (.iload_n 1, 124, 0, 0) else none) else (bif Nat.beq pc 124 then some (.dup2, 125, 0, 0) else bif Nat.beq pc 125 then some (.laload, 126, 0, 0) else bif Nat.beq pc 126 then some (.lconst 1, 127, 0, 0) else none))) else (bif Nat.ble pc 132 then (bif Nat.ble pc 129 then (bif Nat.beq pc 127 then some (.iload 4, 129, 0, 0) else bif Nat.beq pc 129 then some (.lshl, 130, 0, 0) else none) else (bif Nat.beq pc 130 then some (.lor, 131, 0, 0) else bif Nat.beq pc 131 then some (.lastore, 132, 0, 0) else bif Nat.beq pc 132 then some (.iinc 4 1, 135, 0, 0) else none)) else (bif Nat.ble pc 138 then (bif Nat.beq pc 135 then some (.goto (-92), 138, 43, 0) else bif Nat.beq pc 138 then some (.aload_n 0, 139, 0, 0) else none) else (bif Nat.beq pc 139 then some (.lload_n 2, 140, 0, 0) else bif Nat.beq pc 140 then some (.invokevirtual 236, 143, 0, 0) else bif Nat.beq pc 143 then some (.return_, 144, 0, 0) else none))))))
set_option maxRecDepth 100000 in
set_option maxHeartbeats 4000000 in
theorem ok_Reader_beginAssertion : am_CD m_Reader_beginAssertion cd_Reader_beginAssertion := am_CD_of 144 fl_Reader_ok cn_Reader_ok kl_Reader_ok pl_Reader_ok (by intro pc h; unfold cd_Reader_beginAssertion; rw [Nat.ble_eq_true_of_le h]; rfl) (by decide +kernel)
def cd_Assertions_start (pc : Nat) : Option am_I := bif Nat.ble 90 pc then none else (bif Nat.ble pc 44 then (bif Nat.ble pc 20 then (bif Nat.ble pc 9 then (bif Nat.ble pc 4 then (bif Nat.beq pc 0 then some (.aload_n 0, 1, 0, 0) else bif Nat.beq pc 1 then some (.getfield 9, 4, 5, 0) else bif Nat.beq pc 4 then some (.aload_n 0, 5, 0, 0) else none) else (bif Nat.beq pc 5 then some (.getfield 39, 8, 5, 8) else bif Nat.beq pc 8 then some (.iload_n 1, 9, 0, 0) else bif Nat.beq pc 9 then some (.iastore, 10, 0, 0) else none)) else (bif Nat.ble pc 14 then (bif Nat.beq pc 10 then some (.aload_n 0, 11, 0, 0) else bif Nat.beq pc 11 then some (.getfield 15, 14, 5, 1) else bif Nat.beq pc 14 then some (.aload_n 0, 15, 0, 0) else none) else (bif Nat.ble pc 18 then (bif Nat.beq pc 15 then some (.getfield 39, 18, 5, 8) else bif Nat.beq pc 18 then some (.iconst 0, 19, 0, 0) else none) else (bif Nat.beq pc 19 then some (.iastore, 20, 0, 0) else bif Nat.beq pc 20 then some (.aload_n 0, 21, 0, 0) else none)))) else (bif Nat.ble pc 31 then (bif Nat.ble pc 25 then (bif Nat.beq pc 21 then some (.getfield 23, 24, 5, 3) else bif Nat.beq pc 24 then some (.aload_n 0, 25, 0, 0) else bif Nat.beq pc 25 then some (.getfield 39, 28, 5, 8) else none) else (bif Nat.ble pc 29 then (bif Nat.beq pc 28 then some (.iconst 0, 29, 0, 0) else bif Nat.beq pc 29 then some (.iastore, 30, 0, 0) else none) else (bif Nat.beq pc 30 then some (.aload_n 0, 31, 0, 0) else bif Nat.beq pc 31 then some (.getfield 26, 34, 5, 4) else none))) else (bif Nat.ble pc 38 then (bif Nat.beq pc 34 then some (.aload_n 0, 35, 0, 0) else bif Nat.beq pc 35 then some (.getfield 39, 38, 5, 8) else bif Nat.beq pc 38 then some (.iconst 0, 39, 0, 0) else none) else (bif Nat.ble pc 40 then (bif Nat.beq pc 39 then some (.iastore, 40, 0, 0) else bif Nat.beq pc 40 then some (.aload_n 0, 41, 0, 0) else none) else (bif Nat.beq pc 41 then some (.getfield 32, 44, 5, 6) else bif Nat.beq pc 44 then some (.aload_n 0, 45, 0, 0) else none))))) else (bif Nat.ble pc 63 then (bif Nat.ble pc 54 then (bif Nat.ble pc 49 then (bif Nat.beq pc 45 then some (.getfield 39, 48, 5, 8) else bif Nat.beq pc 48 then some (.iconst 0, 49, 0, 0) else bif Nat.beq pc 49 then some (.bastore, 50, 0, 0) else none) else (bif Nat.beq pc 50 then some (.aload_n 0, 51, 0, 0) else bif Nat.beq pc 51 then some (.getfield 36, 54, 5, 7) else bif Nat.beq pc 54 then some (.aload_n 0, 55, 0, 0) else none)) else (bif Nat.ble pc 59 then (bif Nat.beq pc 55 then some (.getfield 39, 58, 5, 8) else bif Nat.beq pc 58 then some (.iconst 1, 59, 0, 0) else bif Nat.beq pc 59 then some (.bastore, 60, 0, 0) else none) else (bif Nat.ble pc 61 then (bif Nat.beq pc 60 then some (.iconst 0, 61, 0, 0) else bif Nat.beq pc 61 then some (.istore_n 2, 62, 0, 0) else none) else (bif Nat.beq pc 62 then some (.iload_n 2, 63, 0, 0) else bif Nat.beq pc 63 then some (.bipush 40, 65, 0, 0) else none)))) else (bif Nat.ble pc 78 then (bif Nat.ble pc 69 then (bif Nat.beq pc 65 then some (.if_icmp .ge 24, 68, 89, 0) else bif Nat.beq pc 68 then some (.aload_n 0, 69, 0, 0) else bif Nat.beq pc 69 then some (.getfield 29, 72, 5, 5) else none) else (bif Nat.ble pc 73 then (bif Nat.beq pc 72 then some (.aload_n 0, 73, 0, 0) else bif Nat.beq pc 73 then some (.getfield 39, 76, 5, 8) else none) else (bif Nat.beq pc 76 then some (.bipush 40, 78, 0, 0) else bif Nat.beq pc 78 then some (.imul, 79, 0, 0) else none))) else (bif Nat.ble pc 81 then (bif Nat.beq pc 79 then some (.iload_n 2, 80, 0, 0) else bif Nat.beq pc 80 then some (.iadd, 81, 0, 0) else bif Nat.beq pc 81 then some (.iconst 0, 82, 0, 0) else none) else (bif Nat.ble pc 83 then (bif Nat.beq pc 82 then some (.iastore, 83, 0, 0) else bif Nat.beq pc 83 then some (.iinc 2 1, 86, 0, 0) else none) else (bif Nat.beq pc 86 then some (.goto (-24), 89, 62, 0) else bif Nat.beq pc 89 then some (.return_, 90, 0, 0) else none))))))
set_option maxRecDepth 100000 in
set_option maxHeartbeats 4000000 in
theorem ok_Assertions_start : am_CD m_Assertions_start cd_Assertions_start := am_CD_of 90 fl_Assertions_ok cn_Assertions_ok kl_Assertions_ok pl_Assertions_ok (by intro pc h; unfold cd_Assertions_start; rw [Nat.ble_eq_true_of_le h]; rfl) (by decide +kernel)
def cd_Reader_mandatoryVariables (pc : Nat) : Option am_I := bif Nat.ble 69 pc then none else (bif Nat.ble pc 32 then (bif Nat.ble pc 14 then (bif Nat.ble pc 7 then (bif Nat.ble pc 1 then (bif Nat.beq pc 0 then some (.aload_n 0, 1, 0, 0) else bif Nat.beq pc 1 then some (.getfield 15, 4, 6, 1) else none) else (bif Nat.beq pc 4 then some (.getfield 53, 7, 3, 2) else bif Nat.beq pc 7 then some (.getfield 231, 10, 4, 3) else none)) else (bif Nat.ble pc 11 then (bif Nat.beq pc 10 then some (.iload_n 1, 11, 0, 0) else bif Nat.beq pc 11 then some (.laload, 12, 0, 0) else none) else (bif Nat.beq pc 12 then some (.lstore_n 2, 13, 0, 0) else bif Nat.beq pc 13 then some (.iconst 0, 14, 0, 0) else bif Nat.beq pc 14 then some (.istore 4, 16, 0, 0) else none))) else (bif Nat.ble pc 22 then (bif Nat.ble pc 18 then (bif Nat.beq pc 16 then some (.iload 4, 18, 0, 0) else bif Nat.beq pc 18 then some (.iload_n 1, 19, 0, 0) else none) else (bif Nat.beq pc 19 then some (.if_icmp .ge 48, 22, 67, 0) else bif Nat.beq pc 22 then some (.aload_n 0, 23, 0, 0) else none)) else (bif Nat.ble pc 25 then (bif Nat.beq pc 23 then some (.iload 4, 25, 0, 0) else bif Nat.beq pc 25 then some (.invokevirtual 233, 28, 0, 0) else none) else (bif Nat.beq pc 28 then some (.ifCond .eq 33, 31, 61, 0) else bif Nat.beq pc 31 then some (.aload_n 0, 32, 0, 0) else bif Nat.beq pc 32 then some (.getfield 15, 35, 6, 1) else none)))) else (bif Nat.ble pc 50 then (bif Nat.ble pc 41 then (bif Nat.ble pc 38 then (bif Nat.beq pc 35 then some (.getfield 198, 38, 3, 1) else bif Nat.beq pc 38 then some (.iload 4, 40, 0, 0) else none) else (bif Nat.beq pc 40 then some (.iaload, 41, 0, 0) else bif Nat.beq pc 41 then some (.iconst 1, 42, 0, 0) else none)) else (bif Nat.ble pc 45 then (bif Nat.beq pc 42 then some (.if_icmp .ne 19, 45, 61, 0) else bif Nat.beq pc 45 then some (.lload_n 2, 46, 0, 0) else none) else (bif Nat.beq pc 46 then some (.aload_n 0, 47, 0, 0) else bif Nat.beq pc 47 then some (.getfield 15, 50, 6, 1) else bif Nat.beq pc 50 then some (.getfield 53, 53, 3, 2) else none))) else (bif Nat.ble pc 59 then (bif Nat.ble pc 56 then (bif Nat.beq pc 53 then some (.getfield 231, 56, 4, 3) else bif Nat.beq pc 56 then some (.iload 4, 58, 0, 0) else none) else (bif Nat.beq pc 58 then some (.laload, 59, 0, 0) else bif Nat.beq pc 59 then some (.lor, 60, 0, 0) else none)) else (bif Nat.ble pc 61 then (bif Nat.beq pc 60 then some (.lstore_n 2, 61, 0, 0) else bif Nat.beq pc 61 then some (.iinc 4 1, 64, 0, 0) else none) else (bif Nat.beq pc 64 then some (.goto (-48), 67, 16, 0) else bif Nat.beq pc 67 then some (.lload_n 2, 68, 0, 0) else bif Nat.beq pc 68 then some (.lreturn, 69, 0, 0) else none)))))
set_option maxRecDepth 100000 in
set_option maxHeartbeats 4000000 in
theorem ok_Reader_mandatoryVariables : am_CD m_Reader_mandatoryVariables cd_Reader_mandatoryVariables := am_CD_of 69 fl_Reader_ok cn_Reader_ok kl_Reader_ok pl_Reader_ok (by intro pc h; unfold cd_Reader_mandatoryVariables; rw [Nat.ble_eq_true_of_le h]; rfl) (by decide +kernel)
def cd_Reader_isActiveHypothesis (pc : Nat) : Option am_I := bif Nat.ble 22 pc then none else (bif Nat.ble pc 10 then (bif Nat.ble pc 4 then (bif Nat.beq pc 0 then some (.aload_n 0, 1, 0, 0) else bif Nat.beq pc 1 then some (.getfield 26, 4, 6, 3) else bif Nat.beq pc 4 then some (.getfield 239, 7, 7, 2) else none) else (bif Nat.ble pc 8 then (bif Nat.beq pc 7 then some (.iload_n 1, 8, 0, 0) else bif Nat.beq pc 8 then some (.lushr, 9, 0, 0) else none) else (bif Nat.beq pc 9 then some (.lconst 1, 10, 0, 0) else bif Nat.beq pc 10 then some (.land, 11, 0, 0) else none))) else (bif Nat.ble pc 13 then (bif Nat.beq pc 11 then some (.lconst 0, 12, 0, 0) else bif Nat.beq pc 12 then some (.lcmp, 13, 0, 0) else bif Nat.beq pc 13 then some (.ifCond .eq 7, 16, 20, 0) else none) else (bif Nat.ble pc 17 then (bif Nat.beq pc 16 then some (.iconst 1, 17, 0, 0) else bif Nat.beq pc 17 then some (.goto 4, 20, 21, 0) else none) else (bif Nat.beq pc 20 then some (.iconst 0, 21, 0, 0) else bif Nat.beq pc 21 then some (.ireturn, 22, 0, 0) else none))))
set_option maxRecDepth 100000 in
set_option maxHeartbeats 4000000 in
theorem ok_Reader_isActiveHypothesis : am_CD m_Reader_isActiveHypothesis cd_Reader_isActiveHypothesis := am_CD_of 22 fl_Reader_ok cn_Reader_ok kl_Reader_ok pl_Reader_ok (by intro pc h; unfold cd_Reader_isActiveHypothesis; rw [Nat.ble_eq_true_of_le h]; rfl) (by decide +kernel)
def cd_Reader_keepPairs (pc : Nat) : Option am_I := bif Nat.ble 102 pc then none else (bif Nat.ble pc 42 then (bif Nat.ble pc 19 then (bif Nat.ble pc 10 then (bif Nat.ble pc 2 then (bif Nat.beq pc 0 then some (.iconst 0, 1, 0, 0) else bif Nat.beq pc 1 then some (.istore_n 3, 2, 0, 0) else bif Nat.beq pc 2 then some (.iload_n 3, 3, 0, 0) else none) else (bif Nat.ble pc 4 then (bif Nat.beq pc 3 then some (.aload_n 0, 4, 0, 0) else bif Nat.beq pc 4 then some (.getfield 9, 7, 6, 0) else none) else (bif Nat.beq pc 7 then some (.getfield 188, 10, 2, 3) else bif Nat.beq pc 10 then some (.if_icmp .ge 91, 13, 101, 0) else none))) else (bif Nat.ble pc 15 then (bif Nat.beq pc 13 then some (.lload_n 1, 14, 0, 0) else bif Nat.beq pc 14 then some (.iload_n 3, 15, 0, 0) else bif Nat.beq pc 15 then some (.lushr, 16, 0, 0) else none) else (bif Nat.ble pc 17 then (bif Nat.beq pc 16 then some (.lconst 1, 17, 0, 0) else bif Nat.beq pc 17 then some (.land, 18, 0, 0) else none) else (bif Nat.beq pc 18 then some (.lconst 0, 19, 0, 0) else bif Nat.beq pc 19 then some (.lcmp, 20, 0, 0) else none)))) else (bif Nat.ble pc 32 then (bif Nat.ble pc 24 then (bif Nat.beq pc 20 then some (.ifCond .eq 17, 23, 37, 0) else bif Nat.beq pc 23 then some (.aload_n 0, 24, 0, 0) else bif Nat.beq pc 24 then some (.getfield 26, 27, 6, 3) else none) else (bif Nat.ble pc 30 then (bif Nat.beq pc 27 then some (.getfield 242, 30, 7, 5) else bif Nat.beq pc 30 then some (.iload_n 3, 31, 0, 0) else none) else (bif Nat.beq pc 31 then some (.laload, 32, 0, 0) else bif Nat.beq pc 32 then some (.lload_n 1, 33, 0, 0) else none))) else (bif Nat.ble pc 37 then (bif Nat.beq pc 33 then some (.land, 34, 0, 0) else bif Nat.beq pc 34 then some (.goto 4, 37, 38, 0) else bif Nat.beq pc 37 then some (.lconst 0, 38, 0, 0) else none) else (bif Nat.ble pc 40 then (bif Nat.beq pc 38 then some (.lstore 4, 40, 0, 0) else bif Nat.beq pc 40 then some (.iload_n 3, 41, 0, 0) else none) else (bif Nat.beq pc 41 then some (.iconst 1, 42, 0, 0) else bif Nat.beq pc 42 then some (.iadd, 43, 0, 0) else none))))) else (bif Nat.ble pc 69 then (bif Nat.ble pc 57 then (bif Nat.ble pc 47 then (bif Nat.beq pc 43 then some (.istore 6, 45, 0, 0) else bif Nat.beq pc 45 then some (.iload 6, 47, 0, 0) else bif Nat.beq pc 47 then some (.aload_n 0, 48, 0, 0) else none) else (bif Nat.ble pc 51 then (bif Nat.beq pc 48 then some (.getfield 9, 51, 6, 0) else bif Nat.beq pc 51 then some (.getfield 188, 54, 2, 3) else none) else (bif Nat.beq pc 54 then some (.if_icmp .ge 41, 57, 95, 0) else bif Nat.beq pc 57 then some (.lload 4, 59, 0, 0) else none))) else (bif Nat.ble pc 61 then (bif Nat.beq pc 59 then some (.lconst 0, 60, 0, 0) else bif Nat.beq pc 60 then some (.lcmp, 61, 0, 0) else bif Nat.beq pc 61 then some (.ifCond .eq 34, 64, 95, 0) else none) else (bif Nat.ble pc 66 then (bif Nat.beq pc 64 then some (.lload 4, 66, 0, 0) else bif Nat.beq pc 66 then some (.iload 6, 68, 0, 0) else none) else (bif Nat.beq pc 68 then some (.lushr, 69, 0, 0) else bif Nat.beq pc 69 then some (.lconst 1, 70, 0, 0) else none)))) else (bif Nat.ble pc 80 then (bif Nat.ble pc 72 then (bif Nat.beq pc 70 then some (.land, 71, 0, 0) else bif Nat.beq pc 71 then some (.lconst 0, 72, 0, 0) else bif Nat.beq pc 72 then some (.lcmp, 73, 0, 0) else none) else (bif Nat.ble pc 76 then (bif Nat.beq pc 73 then some (.ifCond .eq 16, 76, 89, 0) else bif Nat.beq pc 76 then some (.aload_n 0, 77, 0, 0) else none) else (bif Nat.beq pc 77 then some (.getfield 19, 80, 6, 2) else bif Nat.beq pc 80 then some (.iload_n 3, 81, 0, 0) else none))) else (bif Nat.ble pc 89 then (bif Nat.ble pc 83 then (bif Nat.beq pc 81 then some (.iload 6, 83, 0, 0) else bif Nat.beq pc 83 then some (.invokestatic 245, 86, 0, 0) else none) else (bif Nat.beq pc 86 then some (.invokevirtual 249, 89, 0, 0) else bif Nat.beq pc 89 then some (.iinc 6 1, 92, 0, 0) else none)) else (bif Nat.ble pc 95 then (bif Nat.beq pc 92 then some (.goto (-47), 95, 45, 0) else bif Nat.beq pc 95 then some (.iinc 3 1, 98, 0, 0) else none) else (bif Nat.beq pc 98 then some (.goto (-96), 101, 2, 0) else bif Nat.beq pc 101 then some (.return_, 102, 0, 0) else none))))))
set_option maxRecDepth 100000 in
set_option maxHeartbeats 4000000 in
theorem ok_Reader_keepPairs : am_CD m_Reader_keepPairs cd_Reader_keepPairs := am_CD_of 102 fl_Reader_ok cn_Reader_ok kl_Reader_ok pl_Reader_ok (by intro pc h; unfold cd_Reader_keepPairs; rw [Nat.ble_eq_true_of_le h]; rfl) (by decide +kernel)
def cd_Assertions_addPair (pc : Nat) : Option am_I := bif Nat.ble 37 pc then none else (bif Nat.ble pc 20 then (bif Nat.ble pc 10 then (bif Nat.ble pc 4 then (bif Nat.beq pc 0 then some (.aload_n 0, 1, 0, 0) else bif Nat.beq pc 1 then some (.getfield 20, 4, 5, 2) else bif Nat.beq pc 4 then some (.aload_n 0, 5, 0, 0) else none) else (bif Nat.beq pc 5 then some (.getfield 39, 8, 5, 8) else bif Nat.beq pc 8 then some (.bipush 40, 10, 0, 0) else bif Nat.beq pc 10 then some (.imul, 11, 0, 0) else none)) else (bif Nat.ble pc 15 then (bif Nat.beq pc 11 then some (.aload_n 0, 12, 0, 0) else bif Nat.beq pc 12 then some (.getfield 15, 15, 5, 1) else bif Nat.beq pc 15 then some (.aload_n 0, 16, 0, 0) else none) else (bif Nat.beq pc 16 then some (.getfield 39, 19, 5, 8) else bif Nat.beq pc 19 then some (.iaload, 20, 0, 0) else bif Nat.beq pc 20 then some (.iadd, 21, 0, 0) else none))) else (bif Nat.ble pc 28 then (bif Nat.ble pc 23 then (bif Nat.beq pc 21 then some (.iload_n 1, 22, 0, 0) else bif Nat.beq pc 22 then some (.iastore, 23, 0, 0) else bif Nat.beq pc 23 then some (.aload_n 0, 24, 0, 0) else none) else (bif Nat.beq pc 24 then some (.getfield 15, 27, 5, 1) else bif Nat.beq pc 27 then some (.aload_n 0, 28, 0, 0) else bif Nat.beq pc 28 then some (.getfield 39, 31, 5, 8) else none)) else (bif Nat.ble pc 33 then (bif Nat.beq pc 31 then some (.dup2, 32, 0, 0) else bif Nat.beq pc 32 then some (.iaload, 33, 0, 0) else bif Nat.beq pc 33 then some (.iconst 1, 34, 0, 0) else none) else (bif Nat.beq pc 34 then some (.iadd, 35, 0, 0) else bif Nat.beq pc 35 then some (.iastore, 36, 0, 0) else bif Nat.beq pc 36 then some (.return_, 37, 0, 0) else none))))
set_option maxRecDepth 100000 in
set_option maxHeartbeats 4000000 in
theorem ok_Assertions_addPair : am_CD m_Assertions_addPair cd_Assertions_addPair := am_CD_of 37 fl_Assertions_ok cn_Assertions_ok kl_Assertions_ok pl_Assertions_ok (by intro pc h; unfold cd_Assertions_addPair; rw [Nat.ble_eq_true_of_le h]; rfl) (by decide +kernel)
def cd_Proof_begin (pc : Nat) : Option am_I := bif Nat.ble 14 pc then none else (bif Nat.ble pc 5 then (bif Nat.ble pc 1 then (bif Nat.beq pc 0 then some (.aload_n 0, 1, 0, 0) else bif Nat.beq pc 1 then some (.getfield 32, 4, 8, 4) else none) else (bif Nat.beq pc 4 then some (.iconst 0, 5, 0, 0) else bif Nat.beq pc 5 then some (.putfield 45, 8, 4, 4) else none)) else (bif Nat.ble pc 9 then (bif Nat.beq pc 8 then some (.aload_n 0, 9, 0, 0) else bif Nat.beq pc 9 then some (.iconst 0, 10, 0, 0) else none) else (bif Nat.beq pc 10 then some (.putfield 49, 13, 8, 7) else bif Nat.beq pc 13 then some (.return_, 14, 0, 0) else none)))
set_option maxRecDepth 100000 in
set_option maxHeartbeats 4000000 in
theorem ok_Proof_begin : am_CD m_Proof_begin cd_Proof_begin := am_CD_of 14 fl_Proof_ok cn_Proof_ok kl_Proof_ok pl_Proof_ok (by intro pc h; unfold cd_Proof_begin; rw [Nat.ble_eq_true_of_le h]; rfl) (by decide +kernel)
def cd_Reader_endProof (pc : Nat) : Option am_I := bif Nat.ble 53 pc then none else (bif Nat.ble pc 23 then (bif Nat.ble pc 10 then (bif Nat.ble pc 4 then (bif Nat.beq pc 0 then some (.aload_n 0, 1, 0, 0) else bif Nat.beq pc 1 then some (.getfield 69, 4, 6, 6) else bif Nat.beq pc 4 then some (.bipush 13, 6, 0, 0) else none) else (bif Nat.beq pc 6 then some (.if_icmp .ne 16, 9, 22, 0) else bif Nat.beq pc 9 then some (.aload_n 0, 10, 0, 0) else bif Nat.beq pc 10 then some (.getfield 44, 13, 6, 5) else none)) else (bif Nat.ble pc 19 then (bif Nat.beq pc 13 then some (.getfield 277, 16, 9, 8) else bif Nat.beq pc 16 then some (.ifCond .eq 6, 19, 22, 0) else bif Nat.beq pc 19 then some (.bipush (-8), 21, 0, 0) else none) else (bif Nat.beq pc 21 then some (.ireturn, 22, 0, 0) else bif Nat.beq pc 22 then some (.aload_n 0, 23, 0, 0) else bif Nat.beq pc 23 then some (.getfield 35, 26, 6, 4) else none))) else (bif Nat.ble pc 39 then (bif Nat.ble pc 30 then (bif Nat.beq pc 26 then some (.aload_n 0, 27, 0, 0) else bif Nat.beq pc 27 then some (.getfield 15, 30, 6, 1) else bif Nat.beq pc 30 then some (.getfield 53, 33, 3, 2) else none) else (bif Nat.beq pc 33 then some (.getfield 59, 36, 4, 4) else bif Nat.beq pc 36 then some (.invokevirtual 281, 39, 0, 0) else bif Nat.beq pc 39 then some (.istore_n 1, 40, 0, 0) else none)) else (bif Nat.ble pc 44 then (bif Nat.beq pc 40 then some (.iload_n 1, 41, 0, 0) else bif Nat.beq pc 41 then some (.ifCond .ne 10, 44, 51, 0) else bif Nat.beq pc 44 then some (.aload_n 0, 45, 0, 0) else none) else (bif Nat.ble pc 48 then (bif Nat.beq pc 45 then some (.invokevirtual 91, 48, 0, 0) else bif Nat.beq pc 48 then some (.goto 4, 51, 52, 0) else none) else (bif Nat.beq pc 51 then some (.iload_n 1, 52, 0, 0) else bif Nat.beq pc 52 then some (.ireturn, 53, 0, 0) else none)))))
set_option maxRecDepth 100000 in
set_option maxHeartbeats 4000000 in
theorem ok_Reader_endProof : am_CD m_Reader_endProof cd_Reader_endProof := am_CD_of 53 fl_Reader_ok cn_Reader_ok kl_Reader_ok pl_Reader_ok (by intro pc h; unfold cd_Reader_endProof; rw [Nat.ble_eq_true_of_le h]; rfl) (by decide +kernel)
def cd_Proof_finish (pc : Nat) : Option am_I := bif Nat.ble 49 pc then none else (bif Nat.ble pc 22 then (bif Nat.ble pc 9 then (bif Nat.ble pc 4 then (bif Nat.beq pc 0 then some (.aload_n 0, 1, 0, 0) else bif Nat.beq pc 1 then some (.getfield 49, 4, 8, 7) else bif Nat.beq pc 4 then some (.ifCond .eq 5, 7, 9, 0) else none) else (bif Nat.beq pc 7 then some (.iconst 0, 8, 0, 0) else bif Nat.beq pc 8 then some (.ireturn, 9, 0, 0) else bif Nat.beq pc 9 then some (.aload_n 0, 10, 0, 0) else none)) else (bif Nat.ble pc 16 then (bif Nat.beq pc 10 then some (.getfield 32, 13, 8, 4) else bif Nat.beq pc 13 then some (.getfield 45, 16, 4, 4) else bif Nat.beq pc 16 then some (.iconst 1, 17, 0, 0) else none) else (bif Nat.beq pc 17 then some (.if_icmp .eq 6, 20, 23, 0) else bif Nat.beq pc 20 then some (.bipush (-9), 22, 0, 0) else bif Nat.beq pc 22 then some (.ireturn, 23, 0, 0) else none))) else (bif Nat.ble pc 32 then (bif Nat.ble pc 27 then (bif Nat.beq pc 23 then some (.aload_n 0, 24, 0, 0) else bif Nat.beq pc 24 then some (.getfield 32, 27, 8, 4) else bif Nat.beq pc 27 then some (.iconst 0, 28, 0, 0) else none) else (bif Nat.beq pc 28 then some (.aload_n 0, 29, 0, 0) else bif Nat.beq pc 29 then some (.getfield 15, 32, 8, 1) else bif Nat.beq pc 32 then some (.getfield 64, 35, 3, 2) else none)) else (bif Nat.ble pc 39 then (bif Nat.beq pc 35 then some (.iload_n 1, 36, 0, 0) else bif Nat.beq pc 36 then some (.invokevirtual 117, 39, 0, 0) else bif Nat.beq pc 39 then some (.ifCond .eq 7, 42, 46, 0) else none) else (bif Nat.ble pc 43 then (bif Nat.beq pc 42 then some (.iconst 0, 43, 0, 0) else bif Nat.beq pc 43 then some (.goto 5, 46, 48, 0) else none) else (bif Nat.beq pc 46 then some (.bipush (-10), 48, 0, 0) else bif Nat.beq pc 48 then some (.ireturn, 49, 0, 0) else none)))))
set_option maxRecDepth 100000 in
set_option maxHeartbeats 4000000 in
theorem ok_Proof_finish : am_CD m_Proof_finish cd_Proof_finish := am_CD_of 49 fl_Proof_ok cn_Proof_ok kl_Proof_ok pl_Proof_ok (by intro pc h; unfold cd_Proof_finish; rw [Nat.ble_eq_true_of_le h]; rfl) (by decide +kernel)
def cd_Expressions_isSame (pc : Nat) : Option am_I := bif Nat.ble 68 pc then none else (bif Nat.ble pc 32 then (bif Nat.ble pc 15 then (bif Nat.ble pc 6 then (bif Nat.ble pc 1 then (bif Nat.beq pc 0 then some (.aload_n 0, 1, 0, 0) else bif Nat.beq pc 1 then some (.getfield 17, 4, 4, 2) else none) else (bif Nat.beq pc 4 then some (.iload_n 1, 5, 0, 0) else bif Nat.beq pc 5 then some (.iaload, 6, 0, 0) else bif Nat.beq pc 6 then some (.aload_n 2, 7, 0, 0) else none)) else (bif Nat.ble pc 10 then (bif Nat.beq pc 7 then some (.getfield 17, 10, 4, 2) else bif Nat.beq pc 10 then some (.iload_n 3, 11, 0, 0) else none) else (bif Nat.beq pc 11 then some (.iaload, 12, 0, 0) else bif Nat.beq pc 12 then some (.if_icmp .eq 5, 15, 17, 0) else bif Nat.beq pc 15 then some (.iconst 0, 16, 0, 0) else none))) else (bif Nat.ble pc 22 then (bif Nat.ble pc 17 then (bif Nat.beq pc 16 then some (.ireturn, 17, 0, 0) else bif Nat.beq pc 17 then some (.iconst 0, 18, 0, 0) else none) else (bif Nat.beq pc 18 then some (.istore 4, 20, 0, 0) else bif Nat.beq pc 20 then some (.iload 4, 22, 0, 0) else bif Nat.beq pc 22 then some (.aload_n 0, 23, 0, 0) else none)) else (bif Nat.ble pc 27 then (bif Nat.beq pc 23 then some (.getfield 17, 26, 4, 2) else bif Nat.beq pc 26 then some (.iload_n 1, 27, 0, 0) else bif Nat.beq pc 27 then some (.iaload, 28, 0, 0) else none) else (bif Nat.beq pc 28 then some (.if_icmp .ge 38, 31, 66, 0) else bif Nat.beq pc 31 then some (.aload_n 0, 32, 0, 0) else bif Nat.beq pc 32 then some (.getfield 13, 35, 4, 1) else none)))) else (bif Nat.ble pc 48 then (bif Nat.ble pc 41 then (bif Nat.ble pc 36 then (bif Nat.beq pc 35 then some (.iload_n 1, 36, 0, 0) else bif Nat.beq pc 36 then some (.bipush 24, 38, 0, 0) else none) else (bif Nat.beq pc 38 then some (.imul, 39, 0, 0) else bif Nat.beq pc 39 then some (.iload 4, 41, 0, 0) else bif Nat.beq pc 41 then some (.iadd, 42, 0, 0) else none)) else (bif Nat.ble pc 43 then (bif Nat.beq pc 42 then some (.iaload, 43, 0, 0) else bif Nat.beq pc 43 then some (.aload_n 2, 44, 0, 0) else none) else (bif Nat.beq pc 44 then some (.getfield 13, 47, 4, 1) else bif Nat.beq pc 47 then some (.iload_n 3, 48, 0, 0) else bif Nat.beq pc 48 then some (.bipush 24, 50, 0, 0) else none))) else (bif Nat.ble pc 55 then (bif Nat.ble pc 51 then (bif Nat.beq pc 50 then some (.imul, 51, 0, 0) else bif Nat.beq pc 51 then some (.iload 4, 53, 0, 0) else none) else (bif Nat.beq pc 53 then some (.iadd, 54, 0, 0) else bif Nat.beq pc 54 then some (.iaload, 55, 0, 0) else bif Nat.beq pc 55 then some (.if_icmp .eq 5, 58, 60, 0) else none)) else (bif Nat.ble pc 60 then (bif Nat.beq pc 58 then some (.iconst 0, 59, 0, 0) else bif Nat.beq pc 59 then some (.ireturn, 60, 0, 0) else bif Nat.beq pc 60 then some (.iinc 4 1, 63, 0, 0) else none) else (bif Nat.beq pc 63 then some (.goto (-43), 66, 20, 0) else bif Nat.beq pc 66 then some (.iconst 1, 67, 0, 0) else bif Nat.beq pc 67 then some (.ireturn, 68, 0, 0) else none)))))
set_option maxRecDepth 100000 in
set_option maxHeartbeats 4000000 in
theorem ok_Expressions_isSame : am_CD m_Expressions_isSame cd_Expressions_isSame := am_CD_of 68 fl_Expressions_ok cn_Expressions_ok kl_Expressions_ok pl_Expressions_ok (by intro pc h; unfold cd_Expressions_isSame; rw [Nat.ble_eq_true_of_le h]; rfl) (by decide +kernel)
def cd_Reader_takeName (pc : Nat) : Option am_I := bif Nat.ble 214 pc then none else (bif Nat.ble pc 139 then (bif Nat.ble pc 102 then (bif Nat.ble pc 84 then (bif Nat.ble pc 7 then (bif Nat.ble pc 1 then (bif Nat.beq pc 0 then some (.aload_n 1, 1, 0, 0) else bif Nat.beq pc 1 then some (.invokevirtual 100, 4, 0, 0) else none) else (bif Nat.beq pc 4 then some (.ifCond .eq 6, 7, 10, 0) else bif Nat.beq pc 7 then some (.bipush (-3), 9, 0, 0) else none)) else (bif Nat.ble pc 10 then (bif Nat.beq pc 9 then some (.ireturn, 10, 0, 0) else bif Nat.beq pc 10 then some (.aload_n 0, 11, 0, 0) else none) else (bif Nat.beq pc 11 then some (.getfield 69, 14, 6, 6) else bif Nat.beq pc 14 then some (.tableswitch 197 0 13 #[70, 79, 88, 97, 197, 113, 129, 197, 113, 145, 161, 170, 179, 188], 84, 0, 0) else bif Nat.beq pc 84 then some (.aload_n 0, 85, 0, 0) else none))) else (bif Nat.ble pc 93 then (bif Nat.ble pc 86 then (bif Nat.beq pc 85 then some (.aload_n 1, 86, 0, 0) else bif Nat.beq pc 86 then some (.getfield 104, 89, 1, 5) else none) else (bif Nat.beq pc 89 then some (.invokevirtual 108, 92, 0, 0) else bif Nat.beq pc 92 then some (.ireturn, 93, 0, 0) else bif Nat.beq pc 93 then some (.aload_n 0, 94, 0, 0) else none)) else (bif Nat.ble pc 95 then (bif Nat.beq pc 94 then some (.aload_n 1, 95, 0, 0) else bif Nat.beq pc 95 then some (.getfield 104, 98, 1, 5) else none) else (bif Nat.beq pc 98 then some (.invokevirtual 112, 101, 0, 0) else bif Nat.beq pc 101 then some (.ireturn, 102, 0, 0) else bif Nat.beq pc 102 then some (.aload_n 0, 103, 0, 0) else none)))) else (bif Nat.ble pc 117 then (bif Nat.ble pc 110 then (bif Nat.ble pc 104 then (bif Nat.beq pc 103 then some (.aload_n 1, 104, 0, 0) else bif Nat.beq pc 104 then some (.getfield 104, 107, 1, 5) else none) else (bif Nat.beq pc 107 then some (.invokevirtual 115, 110, 0, 0) else bif Nat.beq pc 110 then some (.ireturn, 111, 0, 0) else none)) else (bif Nat.ble pc 112 then (bif Nat.beq pc 111 then some (.aload_n 0, 112, 0, 0) else bif Nat.beq pc 112 then some (.aload_n 0, 113, 0, 0) else none) else (bif Nat.beq pc 113 then some (.getfield 9, 116, 6, 0) else bif Nat.beq pc 116 then some (.aload_n 1, 117, 0, 0) else bif Nat.beq pc 117 then some (.getfield 104, 120, 1, 5) else none))) else (bif Nat.ble pc 128 then (bif Nat.ble pc 123 then (bif Nat.beq pc 120 then some (.invokevirtual 118, 123, 0, 0) else bif Nat.beq pc 123 then some (.invokevirtual 121, 126, 0, 0) else none) else (bif Nat.beq pc 126 then some (.ireturn, 127, 0, 0) else bif Nat.beq pc 127 then some (.aload_n 0, 128, 0, 0) else bif Nat.beq pc 128 then some (.aload_n 0, 129, 0, 0) else none)) else (bif Nat.ble pc 132 then (bif Nat.beq pc 129 then some (.getfield 9, 132, 6, 0) else bif Nat.beq pc 132 then some (.aload_n 1, 133, 0, 0) else none) else (bif Nat.beq pc 133 then some (.getfield 104, 136, 1, 5) else bif Nat.beq pc 136 then some (.invokevirtual 118, 139, 0, 0) else bif Nat.beq pc 139 then some (.invokevirtual 124, 142, 0, 0) else none))))) else (bif Nat.ble pc 176 then (bif Nat.ble pc 158 then (bif Nat.ble pc 145 then (bif Nat.ble pc 143 then (bif Nat.beq pc 142 then some (.ireturn, 143, 0, 0) else bif Nat.beq pc 143 then some (.aload_n 0, 144, 0, 0) else none) else (bif Nat.beq pc 144 then some (.aload_n 0, 145, 0, 0) else bif Nat.beq pc 145 then some (.getfield 9, 148, 6, 0) else none)) else (bif Nat.ble pc 149 then (bif Nat.beq pc 148 then some (.aload_n 1, 149, 0, 0) else bif Nat.beq pc 149 then some (.getfield 104, 152, 1, 5) else none) else (bif Nat.beq pc 152 then some (.invokevirtual 118, 155, 0, 0) else bif Nat.beq pc 155 then some (.invokevirtual 127, 158, 0, 0) else bif Nat.beq pc 158 then some (.ireturn, 159, 0, 0) else none))) else (bif Nat.ble pc 165 then (bif Nat.ble pc 160 then (bif Nat.beq pc 159 then some (.aload_n 0, 160, 0, 0) else bif Nat.beq pc 160 then some (.aload_n 0, 161, 0, 0) else none) else (bif Nat.beq pc 161 then some (.getfield 9, 164, 6, 0) else bif Nat.beq pc 164 then some (.aload_n 1, 165, 0, 0) else bif Nat.beq pc 165 then some (.getfield 104, 168, 1, 5) else none)) else (bif Nat.ble pc 171 then (bif Nat.beq pc 168 then some (.invokevirtual 118, 171, 0, 0) else bif Nat.beq pc 171 then some (.invokevirtual 130, 174, 0, 0) else none) else (bif Nat.beq pc 174 then some (.ireturn, 175, 0, 0) else bif Nat.beq pc 175 then some (.aload_n 0, 176, 0, 0) else bif Nat.beq pc 176 then some (.aload_n 1, 177, 0, 0) else none)))) else (bif Nat.ble pc 194 then (bif Nat.ble pc 185 then (bif Nat.ble pc 180 then (bif Nat.beq pc 177 then some (.getfield 104, 180, 1, 5) else bif Nat.beq pc 180 then some (.invokevirtual 133, 183, 0, 0) else none) else (bif Nat.beq pc 183 then some (.ireturn, 184, 0, 0) else bif Nat.beq pc 184 then some (.aload_n 0, 185, 0, 0) else bif Nat.beq pc 185 then some (.aload_n 1, 186, 0, 0) else none)) else (bif Nat.ble pc 189 then (bif Nat.beq pc 186 then some (.getfield 104, 189, 1, 5) else bif Nat.beq pc 189 then some (.invokevirtual 136, 192, 0, 0) else none) else (bif Nat.beq pc 192 then some (.ireturn, 193, 0, 0) else bif Nat.beq pc 193 then some (.aload_n 0, 194, 0, 0) else bif Nat.beq pc 194 then some (.aload_n 1, 195, 0, 0) else none))) else (bif Nat.ble pc 203 then (bif Nat.ble pc 198 then (bif Nat.beq pc 195 then some (.getfield 104, 198, 1, 5) else bif Nat.beq pc 198 then some (.invokevirtual 139, 201, 0, 0) else none) else (bif Nat.beq pc 201 then some (.ireturn, 202, 0, 0) else bif Nat.beq pc 202 then some (.aload_n 0, 203, 0, 0) else bif Nat.beq pc 203 then some (.getfield 44, 206, 6, 5) else none)) else (bif Nat.ble pc 207 then (bif Nat.beq pc 206 then some (.aload_n 1, 207, 0, 0) else bif Nat.beq pc 207 then some (.invokevirtual 142, 210, 0, 0) else none) else (bif Nat.beq pc 210 then some (.ireturn, 211, 0, 0) else bif Nat.beq pc 211 then some (.bipush (-3), 213, 0, 0) else bif Nat.beq pc 213 then some (.ireturn, 214, 0, 0) else none))))))
set_option maxRecDepth 100000 in
set_option maxHeartbeats 4000000 in
theorem ok_Reader_takeName : am_CD m_Reader_takeName cd_Reader_takeName := am_CD_of 214 fl_Reader_ok cn_Reader_ok kl_Reader_ok pl_Reader_ok (by intro pc h; unfold cd_Reader_takeName; rw [Nat.ble_eq_true_of_le h]; rfl) (by decide +kernel)
end
section
def cd_Text_isTooLong (pc : Nat) : Option am_I := bif Nat.ble 20 pc then none else (bif Nat.ble pc 8 then (bif Nat.ble pc 1 then (bif Nat.beq pc 0 then some (.aload_n 0, 1, 0, 0) else bif Nat.beq pc 1 then some (.getfield 22, 4, 1, 4) else none) else (bif Nat.beq pc 4 then some (.aload_n 0, 5, 0, 0) else bif Nat.beq pc 5 then some (.getfield 37, 8, 1, 3) else bif Nat.beq pc 8 then some (.isub, 9, 0, 0) else none)) else (bif Nat.ble pc 14 then (bif Nat.beq pc 9 then some (.bipush 8, 11, 0, 0) else bif Nat.beq pc 11 then some (.if_icmp .le 7, 14, 18, 0) else bif Nat.beq pc 14 then some (.iconst 1, 15, 0, 0) else none) else (bif Nat.beq pc 15 then some (.goto 4, 18, 19, 0) else bif Nat.beq pc 18 then some (.iconst 0, 19, 0, 0) else bif Nat.beq pc 19 then some (.ireturn, 20, 0, 0) else none)))
set_option maxRecDepth 100000 in
set_option maxHeartbeats 4000000 in
theorem ok_Text_isTooLong : am_CD m_Text_isTooLong cd_Text_isTooLong := am_CD_of 20 fl_Text_ok cn_Text_ok kl_Text_ok pl_Text_ok (by intro pc h; unfold cd_Text_isTooLong; rw [Nat.ble_eq_true_of_le h]; rfl) (by decide +kernel)
def cd_Reader_takeLabel (pc : Nat) : Option am_I := bif Nat.ble 56 pc then none else (bif Nat.ble pc 26 then (bif Nat.ble pc 12 then (bif Nat.ble pc 4 then (bif Nat.beq pc 0 then some (.aload_n 0, 1, 0, 0) else bif Nat.beq pc 1 then some (.getfield 9, 4, 6, 0) else bif Nat.beq pc 4 then some (.lload_n 1, 5, 0, 0) else none) else (bif Nat.ble pc 8 then (bif Nat.beq pc 5 then some (.invokevirtual 118, 8, 0, 0) else bif Nat.beq pc 8 then some (.iconst (-1), 9, 0, 0) else none) else (bif Nat.beq pc 9 then some (.if_icmp .eq 6, 12, 15, 0) else bif Nat.beq pc 12 then some (.bipush (-4), 14, 0, 0) else none))) else (bif Nat.ble pc 16 then (bif Nat.beq pc 14 then some (.ireturn, 15, 0, 0) else bif Nat.beq pc 15 then some (.aload_n 0, 16, 0, 0) else bif Nat.beq pc 16 then some (.getfield 9, 19, 6, 0) else none) else (bif Nat.ble pc 22 then (bif Nat.beq pc 19 then some (.invokevirtual 161, 22, 0, 0) else bif Nat.beq pc 22 then some (.ifCond .ne 16, 25, 38, 0) else none) else (bif Nat.beq pc 25 then some (.aload_n 0, 26, 0, 0) else bif Nat.beq pc 26 then some (.getfield 15, 29, 6, 1) else none)))) else (bif Nat.ble pc 42 then (bif Nat.ble pc 35 then (bif Nat.beq pc 29 then some (.getfield 53, 32, 3, 2) else bif Nat.beq pc 32 then some (.invokevirtual 193, 35, 0, 0) else bif Nat.beq pc 35 then some (.ifCond .eq 6, 38, 41, 0) else none) else (bif Nat.ble pc 40 then (bif Nat.beq pc 38 then some (.bipush (-7), 40, 0, 0) else bif Nat.beq pc 40 then some (.ireturn, 41, 0, 0) else none) else (bif Nat.beq pc 41 then some (.aload_n 0, 42, 0, 0) else bif Nat.beq pc 42 then some (.getfield 15, 45, 6, 1) else none))) else (bif Nat.ble pc 49 then (bif Nat.beq pc 45 then some (.lload_n 1, 46, 0, 0) else bif Nat.beq pc 46 then some (.invokevirtual 194, 49, 0, 0) else bif Nat.beq pc 49 then some (.aload_n 0, 50, 0, 0) else none) else (bif Nat.ble pc 51 then (bif Nat.beq pc 50 then some (.iconst 4, 51, 0, 0) else bif Nat.beq pc 51 then some (.putfield 69, 54, 6, 6) else none) else (bif Nat.beq pc 54 then some (.iconst 0, 55, 0, 0) else bif Nat.beq pc 55 then some (.ireturn, 56, 0, 0) else none)))))
set_option maxRecDepth 100000 in
set_option maxHeartbeats 4000000 in
theorem ok_Reader_takeLabel : am_CD m_Reader_takeLabel cd_Reader_takeLabel := am_CD_of 56 fl_Reader_ok cn_Reader_ok kl_Reader_ok pl_Reader_ok (by intro pc h; unfold cd_Reader_takeLabel; rw [Nat.ble_eq_true_of_le h]; rfl) (by decide +kernel)
def cd_Names_find (pc : Nat) : Option am_I := bif Nat.ble 31 pc then none else (bif Nat.ble pc 14 then (bif Nat.ble pc 3 then (bif Nat.ble pc 1 then (bif Nat.beq pc 0 then some (.iconst 0, 1, 0, 0) else bif Nat.beq pc 1 then some (.istore_n 3, 2, 0, 0) else none) else (bif Nat.beq pc 2 then some (.iload_n 3, 3, 0, 0) else bif Nat.beq pc 3 then some (.aload_n 0, 4, 0, 0) else none)) else (bif Nat.ble pc 7 then (bif Nat.beq pc 4 then some (.getfield 22, 7, 2, 3) else bif Nat.beq pc 7 then some (.if_icmp .ge 22, 10, 29, 0) else none) else (bif Nat.beq pc 10 then some (.aload_n 0, 11, 0, 0) else bif Nat.beq pc 11 then some (.getfield 11, 14, 2, 0) else bif Nat.beq pc 14 then some (.iload_n 3, 15, 0, 0) else none))) else (bif Nat.ble pc 21 then (bif Nat.ble pc 16 then (bif Nat.beq pc 15 then some (.laload, 16, 0, 0) else bif Nat.beq pc 16 then some (.lload_n 1, 17, 0, 0) else none) else (bif Nat.beq pc 17 then some (.lcmp, 18, 0, 0) else bif Nat.beq pc 18 then some (.ifCond .ne 5, 21, 23, 0) else bif Nat.beq pc 21 then some (.iload_n 3, 22, 0, 0) else none)) else (bif Nat.ble pc 23 then (bif Nat.beq pc 22 then some (.ireturn, 23, 0, 0) else bif Nat.beq pc 23 then some (.iinc 3 1, 26, 0, 0) else none) else (bif Nat.beq pc 26 then some (.goto (-24), 29, 2, 0) else bif Nat.beq pc 29 then some (.iconst (-1), 30, 0, 0) else bif Nat.beq pc 30 then some (.ireturn, 31, 0, 0) else none))))
set_option maxRecDepth 100000 in
set_option maxHeartbeats 4000000 in
theorem ok_Names_find : am_CD m_Names_find cd_Names_find := am_CD_of 31 fl_Names_ok cn_Names_ok kl_Names_ok pl_Names_ok (by intro pc h; unfold cd_Names_find; rw [Nat.ble_eq_true_of_le h]; rfl) (by decide +kernel)
def cd_Names_isFull (pc : Nat) : Option am_I := bif Nat.ble 15 pc then none else (bif Nat.ble pc 6 then (bif Nat.ble pc 1 then (bif Nat.beq pc 0 then some (.aload_n 0, 1, 0, 0) else bif Nat.beq pc 1 then some (.getfield 22, 4, 2, 3) else none) else (bif Nat.beq pc 4 then some (.bipush 60, 6, 0, 0) else bif Nat.beq pc 6 then some (.if_icmp .lt 7, 9, 13, 0) else none)) else (bif Nat.ble pc 10 then (bif Nat.beq pc 9 then some (.iconst 1, 10, 0, 0) else bif Nat.beq pc 10 then some (.goto 4, 13, 14, 0) else none) else (bif Nat.beq pc 13 then some (.iconst 0, 14, 0, 0) else bif Nat.beq pc 14 then some (.ireturn, 15, 0, 0) else none)))
set_option maxRecDepth 100000 in
set_option maxHeartbeats 4000000 in
theorem ok_Names_isFull : am_CD m_Names_isFull cd_Names_isFull := am_CD_of 15 fl_Names_ok cn_Names_ok kl_Names_ok pl_Names_ok (by intro pc h; unfold cd_Names_isFull; rw [Nat.ble_eq_true_of_le h]; rfl) (by decide +kernel)
def cd_Expressions_isFull (pc : Nat) : Option am_I := bif Nat.ble 17 pc then none else (bif Nat.ble pc 5 then (bif Nat.ble pc 1 then (bif Nat.beq pc 0 then some (.aload_n 0, 1, 0, 0) else bif Nat.beq pc 1 then some (.getfield 24, 4, 4, 4) else none) else (bif Nat.beq pc 4 then some (.aload_n 0, 5, 0, 0) else bif Nat.beq pc 5 then some (.getfield 7, 8, 4, 0) else none)) else (bif Nat.ble pc 11 then (bif Nat.beq pc 8 then some (.if_icmp .lt 7, 11, 15, 0) else bif Nat.beq pc 11 then some (.iconst 1, 12, 0, 0) else none) else (bif Nat.beq pc 12 then some (.goto 4, 15, 16, 0) else bif Nat.beq pc 15 then some (.iconst 0, 16, 0, 0) else bif Nat.beq pc 16 then some (.ireturn, 17, 0, 0) else none)))
set_option maxRecDepth 100000 in
set_option maxHeartbeats 4000000 in
theorem ok_Expressions_isFull : am_CD m_Expressions_isFull cd_Expressions_isFull := am_CD_of 17 fl_Expressions_ok cn_Expressions_ok kl_Expressions_ok pl_Expressions_ok (by intro pc h; unfold cd_Expressions_isFull; rw [Nat.ble_eq_true_of_le h]; rfl) (by decide +kernel)
def cd_Statements_start (pc : Nat) : Option am_I := bif Nat.ble 21 pc then none else (bif Nat.ble pc 8 then (bif Nat.ble pc 1 then (bif Nat.beq pc 0 then some (.aload_n 0, 1, 0, 0) else bif Nat.beq pc 1 then some (.getfield 11, 4, 3, 0) else none) else (bif Nat.beq pc 4 then some (.aload_n 0, 5, 0, 0) else bif Nat.beq pc 5 then some (.getfield 24, 8, 3, 2) else bif Nat.beq pc 8 then some (.getfield 34, 11, 4, 4) else none)) else (bif Nat.ble pc 13 then (bif Nat.beq pc 11 then some (.lload_n 1, 12, 0, 0) else bif Nat.beq pc 12 then some (.lastore, 13, 0, 0) else bif Nat.beq pc 13 then some (.aload_n 0, 14, 0, 0) else none) else (bif Nat.beq pc 14 then some (.getfield 24, 17, 3, 2) else bif Nat.beq pc 17 then some (.invokevirtual 38, 20, 0, 0) else bif Nat.beq pc 20 then some (.return_, 21, 0, 0) else none)))
set_option maxRecDepth 100000 in
set_option maxHeartbeats 4000000 in
theorem ok_Statements_start : am_CD m_Statements_start cd_Statements_start := am_CD_of 21 fl_Statements_ok cn_Statements_ok kl_Statements_ok pl_Statements_ok (by intro pc h; unfold cd_Statements_start; rw [Nat.ble_eq_true_of_le h]; rfl) (by decide +kernel)
def cd_Expressions_startRow (pc : Nat) : Option am_I := bif Nat.ble 21 pc then none else (bif Nat.ble pc 9 then (bif Nat.ble pc 4 then (bif Nat.beq pc 0 then some (.aload_n 0, 1, 0, 0) else bif Nat.beq pc 1 then some (.getfield 17, 4, 4, 2) else bif Nat.beq pc 4 then some (.aload_n 0, 5, 0, 0) else none) else (bif Nat.beq pc 5 then some (.getfield 24, 8, 4, 4) else bif Nat.beq pc 8 then some (.iconst 0, 9, 0, 0) else bif Nat.beq pc 9 then some (.iastore, 10, 0, 0) else none)) else (bif Nat.ble pc 14 then (bif Nat.beq pc 10 then some (.aload_n 0, 11, 0, 0) else bif Nat.beq pc 11 then some (.getfield 20, 14, 4, 3) else bif Nat.beq pc 14 then some (.aload_n 0, 15, 0, 0) else none) else (bif Nat.ble pc 18 then (bif Nat.beq pc 15 then some (.getfield 24, 18, 4, 4) else bif Nat.beq pc 18 then some (.lconst 0, 19, 0, 0) else none) else (bif Nat.beq pc 19 then some (.lastore, 20, 0, 0) else bif Nat.beq pc 20 then some (.return_, 21, 0, 0) else none))))
set_option maxRecDepth 100000 in
set_option maxHeartbeats 4000000 in
theorem ok_Expressions_startRow : am_CD m_Expressions_startRow cd_Expressions_startRow := am_CD_of 21 fl_Expressions_ok cn_Expressions_ok kl_Expressions_ok pl_Expressions_ok (by intro pc h; unfold cd_Expressions_startRow; rw [Nat.ble_eq_true_of_le h]; rfl) (by decide +kernel)
def cd_Reader_declareConstant (pc : Nat) : Option am_I := bif Nat.ble 50 pc then none else (bif Nat.ble pc 27 then (bif Nat.ble pc 12 then (bif Nat.ble pc 4 then (bif Nat.beq pc 0 then some (.aload_n 0, 1, 0, 0) else bif Nat.beq pc 1 then some (.getfield 9, 4, 6, 0) else bif Nat.beq pc 4 then some (.lload_n 1, 5, 0, 0) else none) else (bif Nat.ble pc 8 then (bif Nat.beq pc 5 then some (.invokevirtual 118, 8, 0, 0) else bif Nat.beq pc 8 then some (.iconst (-1), 9, 0, 0) else none) else (bif Nat.beq pc 9 then some (.if_icmp .eq 6, 12, 15, 0) else bif Nat.beq pc 12 then some (.bipush (-4), 14, 0, 0) else none))) else (bif Nat.ble pc 16 then (bif Nat.beq pc 14 then some (.ireturn, 15, 0, 0) else bif Nat.beq pc 15 then some (.aload_n 0, 16, 0, 0) else bif Nat.beq pc 16 then some (.getfield 9, 19, 6, 0) else none) else (bif Nat.ble pc 22 then (bif Nat.beq pc 19 then some (.invokevirtual 161, 22, 0, 0) else bif Nat.beq pc 22 then some (.ifCond .eq 6, 25, 28, 0) else none) else (bif Nat.beq pc 25 then some (.bipush (-7), 27, 0, 0) else bif Nat.beq pc 27 then some (.ireturn, 28, 0, 0) else none)))) else (bif Nat.ble pc 38 then (bif Nat.ble pc 32 then (bif Nat.beq pc 28 then some (.aload_n 0, 29, 0, 0) else bif Nat.beq pc 29 then some (.getfield 9, 32, 6, 0) else bif Nat.beq pc 32 then some (.lload_n 1, 33, 0, 0) else none) else (bif Nat.ble pc 34 then (bif Nat.beq pc 33 then some (.iconst 0, 34, 0, 0) else bif Nat.beq pc 34 then some (.invokevirtual 164, 37, 0, 0) else none) else (bif Nat.beq pc 37 then some (.pop, 38, 0, 0) else bif Nat.beq pc 38 then some (.aload_n 0, 39, 0, 0) else none))) else (bif Nat.ble pc 43 then (bif Nat.beq pc 39 then some (.dup, 40, 0, 0) else bif Nat.beq pc 40 then some (.getfield 155, 43, 6, 7) else bif Nat.beq pc 43 then some (.iconst 1, 44, 0, 0) else none) else (bif Nat.ble pc 45 then (bif Nat.beq pc 44 then some (.iadd, 45, 0, 0) else bif Nat.beq pc 45 then some (.putfield 155, 48, 6, 7) else none) else (bif Nat.beq pc 48 then some (.iconst 0, 49, 0, 0) else bif Nat.beq pc 49 then some (.ireturn, 50, 0, 0) else none)))))
set_option maxRecDepth 100000 in
set_option maxHeartbeats 4000000 in
theorem ok_Reader_declareConstant : am_CD m_Reader_declareConstant cd_Reader_declareConstant := am_CD_of 50 fl_Reader_ok cn_Reader_ok kl_Reader_ok pl_Reader_ok (by intro pc h; unfold cd_Reader_declareConstant; rw [Nat.ble_eq_true_of_le h]; rfl) (by decide +kernel)
def cd_Reader_declareVariable (pc : Nat) : Option am_I := bif Nat.ble 96 pc then none else (bif Nat.ble pc 49 then (bif Nat.ble pc 24 then (bif Nat.ble pc 9 then (bif Nat.ble pc 4 then (bif Nat.beq pc 0 then some (.aload_n 0, 1, 0, 0) else bif Nat.beq pc 1 then some (.getfield 9, 4, 6, 0) else bif Nat.beq pc 4 then some (.lload_n 1, 5, 0, 0) else none) else (bif Nat.beq pc 5 then some (.invokevirtual 118, 8, 0, 0) else bif Nat.beq pc 8 then some (.istore_n 3, 9, 0, 0) else bif Nat.beq pc 9 then some (.iload_n 3, 10, 0, 0) else none)) else (bif Nat.ble pc 14 then (bif Nat.beq pc 10 then some (.iconst (-1), 11, 0, 0) else bif Nat.beq pc 11 then some (.if_icmp .ne 16, 14, 27, 0) else bif Nat.beq pc 14 then some (.aload_n 0, 15, 0, 0) else none) else (bif Nat.ble pc 18 then (bif Nat.beq pc 15 then some (.getfield 9, 18, 6, 0) else bif Nat.beq pc 18 then some (.invokevirtual 161, 21, 0, 0) else none) else (bif Nat.beq pc 21 then some (.ifCond .eq 6, 24, 27, 0) else bif Nat.beq pc 24 then some (.bipush (-7), 26, 0, 0) else none)))) else (bif Nat.ble pc 36 then (bif Nat.ble pc 28 then (bif Nat.beq pc 26 then some (.ireturn, 27, 0, 0) else bif Nat.beq pc 27 then some (.iload_n 3, 28, 0, 0) else bif Nat.beq pc 28 then some (.iconst (-1), 29, 0, 0) else none) else (bif Nat.ble pc 32 then (bif Nat.beq pc 29 then some (.if_icmp .ne 16, 32, 45, 0) else bif Nat.beq pc 32 then some (.aload_n 0, 33, 0, 0) else none) else (bif Nat.beq pc 33 then some (.getfield 9, 36, 6, 0) else bif Nat.beq pc 36 then some (.lload_n 1, 37, 0, 0) else none))) else (bif Nat.ble pc 41 then (bif Nat.beq pc 37 then some (.iconst 1, 38, 0, 0) else bif Nat.beq pc 38 then some (.invokevirtual 164, 41, 0, 0) else bif Nat.beq pc 41 then some (.istore_n 3, 42, 0, 0) else none) else (bif Nat.ble pc 45 then (bif Nat.beq pc 42 then some (.goto 27, 45, 69, 0) else bif Nat.beq pc 45 then some (.aload_n 0, 46, 0, 0) else none) else (bif Nat.beq pc 46 then some (.getfield 9, 49, 6, 0) else bif Nat.beq pc 49 then some (.getfield 168, 52, 2, 1) else none))))) else (bif Nat.ble pc 73 then (bif Nat.ble pc 59 then (bif Nat.ble pc 54 then (bif Nat.beq pc 52 then some (.iload_n 3, 53, 0, 0) else bif Nat.beq pc 53 then some (.iaload, 54, 0, 0) else bif Nat.beq pc 54 then some (.iconst 1, 55, 0, 0) else none) else (bif Nat.beq pc 55 then some (.if_icmp .ne 11, 58, 66, 0) else bif Nat.beq pc 58 then some (.aload_n 0, 59, 0, 0) else bif Nat.beq pc 59 then some (.iload_n 3, 60, 0, 0) else none)) else (bif Nat.ble pc 66 then (bif Nat.beq pc 60 then some (.invokevirtual 172, 63, 0, 0) else bif Nat.beq pc 63 then some (.ifCond .eq 6, 66, 69, 0) else bif Nat.beq pc 66 then some (.bipush (-4), 68, 0, 0) else none) else (bif Nat.ble pc 69 then (bif Nat.beq pc 68 then some (.ireturn, 69, 0, 0) else bif Nat.beq pc 69 then some (.aload_n 0, 70, 0, 0) else none) else (bif Nat.beq pc 70 then some (.getfield 26, 73, 6, 3) else bif Nat.beq pc 73 then some (.dup, 74, 0, 0) else none)))) else (bif Nat.ble pc 84 then (bif Nat.ble pc 78 then (bif Nat.beq pc 74 then some (.getfield 176, 77, 7, 0) else bif Nat.beq pc 77 then some (.lconst 1, 78, 0, 0) else bif Nat.beq pc 78 then some (.iload_n 3, 79, 0, 0) else none) else (bif Nat.ble pc 80 then (bif Nat.beq pc 79 then some (.lshl, 80, 0, 0) else bif Nat.beq pc 80 then some (.lor, 81, 0, 0) else none) else (bif Nat.beq pc 81 then some (.putfield 176, 84, 7, 0) else bif Nat.beq pc 84 then some (.aload_n 0, 85, 0, 0) else none))) else (bif Nat.ble pc 89 then (bif Nat.beq pc 85 then some (.dup, 86, 0, 0) else bif Nat.beq pc 86 then some (.getfield 155, 89, 6, 7) else bif Nat.beq pc 89 then some (.iconst 1, 90, 0, 0) else none) else (bif Nat.ble pc 91 then (bif Nat.beq pc 90 then some (.iadd, 91, 0, 0) else bif Nat.beq pc 91 then some (.putfield 155, 94, 6, 7) else none) else (bif Nat.beq pc 94 then some (.iconst 0, 95, 0, 0) else bif Nat.beq pc 95 then some (.ireturn, 96, 0, 0) else none))))))
set_option maxRecDepth 100000 in
set_option maxHeartbeats 4000000 in
theorem ok_Reader_declareVariable : am_CD m_Reader_declareVariable cd_Reader_declareVariable := am_CD_of 96 fl_Reader_ok cn_Reader_ok kl_Reader_ok pl_Reader_ok (by intro pc h; unfold cd_Reader_declareVariable; rw [Nat.ble_eq_true_of_le h]; rfl) (by decide +kernel)
def cd_Reader_isActive (pc : Nat) : Option am_I := bif Nat.ble 22 pc then none else (bif Nat.ble pc 10 then (bif Nat.ble pc 4 then (bif Nat.beq pc 0 then some (.aload_n 0, 1, 0, 0) else bif Nat.beq pc 1 then some (.getfield 26, 4, 6, 3) else bif Nat.beq pc 4 then some (.getfield 176, 7, 7, 0) else none) else (bif Nat.ble pc 8 then (bif Nat.beq pc 7 then some (.iload_n 1, 8, 0, 0) else bif Nat.beq pc 8 then some (.lushr, 9, 0, 0) else none) else (bif Nat.beq pc 9 then some (.lconst 1, 10, 0, 0) else bif Nat.beq pc 10 then some (.land, 11, 0, 0) else none))) else (bif Nat.ble pc 13 then (bif Nat.beq pc 11 then some (.lconst 0, 12, 0, 0) else bif Nat.beq pc 12 then some (.lcmp, 13, 0, 0) else bif Nat.beq pc 13 then some (.ifCond .eq 7, 16, 20, 0) else none) else (bif Nat.ble pc 17 then (bif Nat.beq pc 16 then some (.iconst 1, 17, 0, 0) else bif Nat.beq pc 17 then some (.goto 4, 20, 21, 0) else none) else (bif Nat.beq pc 20 then some (.iconst 0, 21, 0, 0) else bif Nat.beq pc 21 then some (.ireturn, 22, 0, 0) else none))))
set_option maxRecDepth 100000 in
set_option maxHeartbeats 4000000 in
theorem ok_Reader_isActive : am_CD m_Reader_isActive cd_Reader_isActive := am_CD_of 22 fl_Reader_ok cn_Reader_ok kl_Reader_ok pl_Reader_ok (by intro pc h; unfold cd_Reader_isActive; rw [Nat.ble_eq_true_of_le h]; rfl) (by decide +kernel)
def cd_Reader_takeApart (pc : Nat) : Option am_I := bif Nat.ble 125 pc then none else (bif Nat.ble pc 61 then (bif Nat.ble pc 29 then (bif Nat.ble pc 12 then (bif Nat.ble pc 5 then (bif Nat.ble pc 1 then (bif Nat.beq pc 0 then some (.aload_n 0, 1, 0, 0) else bif Nat.beq pc 1 then some (.iload_n 1, 2, 0, 0) else none) else (bif Nat.beq pc 2 then some (.invokevirtual 182, 5, 0, 0) else bif Nat.beq pc 5 then some (.istore_n 2, 6, 0, 0) else none)) else (bif Nat.ble pc 7 then (bif Nat.beq pc 6 then some (.iload_n 2, 7, 0, 0) else bif Nat.beq pc 7 then some (.iconst 1, 8, 0, 0) else none) else (bif Nat.beq pc 8 then some (.if_icmp .eq 16, 11, 24, 0) else bif Nat.beq pc 11 then some (.iload_n 2, 12, 0, 0) else bif Nat.beq pc 12 then some (.iconst (-1), 13, 0, 0) else none))) else (bif Nat.ble pc 21 then (bif Nat.ble pc 16 then (bif Nat.beq pc 13 then some (.if_icmp .ne 8, 16, 21, 0) else bif Nat.beq pc 16 then some (.bipush (-4), 18, 0, 0) else none) else (bif Nat.beq pc 18 then some (.goto 5, 21, 23, 0) else bif Nat.beq pc 21 then some (.bipush (-6), 23, 0, 0) else none)) else (bif Nat.ble pc 24 then (bif Nat.beq pc 23 then some (.ireturn, 24, 0, 0) else bif Nat.beq pc 24 then some (.aload_n 0, 25, 0, 0) else none) else (bif Nat.beq pc 25 then some (.getfield 158, 28, 6, 8) else bif Nat.beq pc 28 then some (.iload_n 1, 29, 0, 0) else bif Nat.beq pc 29 then some (.lushr, 30, 0, 0) else none)))) else (bif Nat.ble pc 41 then (bif Nat.ble pc 33 then (bif Nat.ble pc 31 then (bif Nat.beq pc 30 then some (.lconst 1, 31, 0, 0) else bif Nat.beq pc 31 then some (.land, 32, 0, 0) else none) else (bif Nat.beq pc 32 then some (.lconst 0, 33, 0, 0) else bif Nat.beq pc 33 then some (.lcmp, 34, 0, 0) else none)) else (bif Nat.ble pc 37 then (bif Nat.beq pc 34 then some (.ifCond .eq 6, 37, 40, 0) else bif Nat.beq pc 37 then some (.bipush (-4), 39, 0, 0) else none) else (bif Nat.beq pc 39 then some (.ireturn, 40, 0, 0) else bif Nat.beq pc 40 then some (.aload_n 0, 41, 0, 0) else bif Nat.beq pc 41 then some (.getfield 26, 44, 6, 3) else none))) else (bif Nat.ble pc 52 then (bif Nat.ble pc 47 then (bif Nat.beq pc 44 then some (.getfield 185, 47, 7, 4) else bif Nat.beq pc 47 then some (.aload_n 0, 48, 0, 0) else none) else (bif Nat.beq pc 48 then some (.getfield 155, 51, 6, 7) else bif Nat.beq pc 51 then some (.iadd, 52, 0, 0) else bif Nat.beq pc 52 then some (.bipush 40, 54, 0, 0) else none)) else (bif Nat.ble pc 57 then (bif Nat.beq pc 54 then some (.if_icmp .le 6, 57, 60, 0) else bif Nat.beq pc 57 then some (.bipush (-7), 59, 0, 0) else none) else (bif Nat.beq pc 59 then some (.ireturn, 60, 0, 0) else bif Nat.beq pc 60 then some (.iconst 0, 61, 0, 0) else bif Nat.beq pc 61 then some (.istore_n 3, 62, 0, 0) else none))))) else (bif Nat.ble pc 91 then (bif Nat.ble pc 78 then (bif Nat.ble pc 67 then (bif Nat.ble pc 63 then (bif Nat.beq pc 62 then some (.iload_n 3, 63, 0, 0) else bif Nat.beq pc 63 then some (.aload_n 0, 64, 0, 0) else none) else (bif Nat.beq pc 64 then some (.getfield 9, 67, 6, 0) else bif Nat.beq pc 67 then some (.getfield 188, 70, 2, 3) else none)) else (bif Nat.ble pc 73 then (bif Nat.beq pc 70 then some (.if_icmp .ge 31, 73, 101, 0) else bif Nat.beq pc 73 then some (.aload_n 0, 74, 0, 0) else none) else (bif Nat.beq pc 74 then some (.getfield 158, 77, 6, 8) else bif Nat.beq pc 77 then some (.iload_n 3, 78, 0, 0) else bif Nat.beq pc 78 then some (.lushr, 79, 0, 0) else none))) else (bif Nat.ble pc 82 then (bif Nat.ble pc 80 then (bif Nat.beq pc 79 then some (.lconst 1, 80, 0, 0) else bif Nat.beq pc 80 then some (.land, 81, 0, 0) else none) else (bif Nat.beq pc 81 then some (.lconst 0, 82, 0, 0) else bif Nat.beq pc 82 then some (.lcmp, 83, 0, 0) else none)) else (bif Nat.ble pc 86 then (bif Nat.beq pc 83 then some (.ifCond .eq 12, 86, 95, 0) else bif Nat.beq pc 86 then some (.aload_n 0, 87, 0, 0) else none) else (bif Nat.beq pc 87 then some (.getfield 26, 90, 6, 3) else bif Nat.beq pc 90 then some (.iload_n 3, 91, 0, 0) else bif Nat.beq pc 91 then some (.iload_n 1, 92, 0, 0) else none)))) else (bif Nat.ble pc 108 then (bif Nat.ble pc 101 then (bif Nat.ble pc 95 then (bif Nat.beq pc 92 then some (.invokevirtual 189, 95, 0, 0) else bif Nat.beq pc 95 then some (.iinc 3 1, 98, 0, 0) else none) else (bif Nat.beq pc 98 then some (.goto (-36), 101, 62, 0) else bif Nat.beq pc 101 then some (.aload_n 0, 102, 0, 0) else none)) else (bif Nat.ble pc 103 then (bif Nat.beq pc 102 then some (.dup, 103, 0, 0) else bif Nat.beq pc 103 then some (.getfield 158, 106, 6, 8) else none) else (bif Nat.beq pc 106 then some (.lconst 1, 107, 0, 0) else bif Nat.beq pc 107 then some (.iload_n 1, 108, 0, 0) else bif Nat.beq pc 108 then some (.lshl, 109, 0, 0) else none))) else (bif Nat.ble pc 115 then (bif Nat.ble pc 110 then (bif Nat.beq pc 109 then some (.lor, 110, 0, 0) else bif Nat.beq pc 110 then some (.putfield 158, 113, 6, 8) else none) else (bif Nat.beq pc 113 then some (.aload_n 0, 114, 0, 0) else bif Nat.beq pc 114 then some (.dup, 115, 0, 0) else bif Nat.beq pc 115 then some (.getfield 155, 118, 6, 7) else none)) else (bif Nat.ble pc 119 then (bif Nat.beq pc 118 then some (.iconst 1, 119, 0, 0) else bif Nat.beq pc 119 then some (.iadd, 120, 0, 0) else none) else (bif Nat.beq pc 120 then some (.putfield 155, 123, 6, 7) else bif Nat.beq pc 123 then some (.iconst 0, 124, 0, 0) else bif Nat.beq pc 124 then some (.ireturn, 125, 0, 0) else none))))))
set_option maxRecDepth 100000 in
set_option maxHeartbeats 4000000 in
theorem ok_Reader_takeApart : am_CD m_Reader_takeApart cd_Reader_takeApart := am_CD_of 125 fl_Reader_ok cn_Reader_ok kl_Reader_ok pl_Reader_ok (by intro pc h; unfold cd_Reader_takeApart; rw [Nat.ble_eq_true_of_le h]; rfl) (by decide +kernel)
def cd_Reader_meaningOf (pc : Nat) : Option am_I := bif Nat.ble 35 pc then none else (bif Nat.ble pc 15 then (bif Nat.ble pc 6 then (bif Nat.ble pc 1 then (bif Nat.beq pc 0 then some (.iload_n 1, 1, 0, 0) else bif Nat.beq pc 1 then some (.iconst (-1), 2, 0, 0) else none) else (bif Nat.beq pc 2 then some (.if_icmp .ne 5, 5, 7, 0) else bif Nat.beq pc 5 then some (.iconst (-1), 6, 0, 0) else bif Nat.beq pc 6 then some (.ireturn, 7, 0, 0) else none)) else (bif Nat.ble pc 8 then (bif Nat.beq pc 7 then some (.aload_n 0, 8, 0, 0) else bif Nat.beq pc 8 then some (.getfield 9, 11, 6, 0) else none) else (bif Nat.beq pc 11 then some (.getfield 168, 14, 2, 1) else bif Nat.beq pc 14 then some (.iload_n 1, 15, 0, 0) else bif Nat.beq pc 15 then some (.iaload, 16, 0, 0) else none))) else (bif Nat.ble pc 22 then (bif Nat.ble pc 19 then (bif Nat.beq pc 16 then some (.ifCond .ne 5, 19, 21, 0) else bif Nat.beq pc 19 then some (.iconst 0, 20, 0, 0) else none) else (bif Nat.beq pc 20 then some (.ireturn, 21, 0, 0) else bif Nat.beq pc 21 then some (.aload_n 0, 22, 0, 0) else bif Nat.beq pc 22 then some (.iload_n 1, 23, 0, 0) else none)) else (bif Nat.ble pc 29 then (bif Nat.beq pc 23 then some (.invokevirtual 172, 26, 0, 0) else bif Nat.beq pc 26 then some (.ifCond .eq 7, 29, 33, 0) else bif Nat.beq pc 29 then some (.iconst 1, 30, 0, 0) else none) else (bif Nat.beq pc 30 then some (.goto 4, 33, 34, 0) else bif Nat.beq pc 33 then some (.iconst (-1), 34, 0, 0) else bif Nat.beq pc 34 then some (.ireturn, 35, 0, 0) else none))))
set_option maxRecDepth 100000 in
set_option maxHeartbeats 4000000 in
theorem ok_Reader_meaningOf : am_CD m_Reader_meaningOf cd_Reader_meaningOf := am_CD_of 35 fl_Reader_ok cn_Reader_ok kl_Reader_ok pl_Reader_ok (by intro pc h; unfold cd_Reader_meaningOf; rw [Nat.ble_eq_true_of_le h]; rfl) (by decide +kernel)
def cd_Reader_takeType (pc : Nat) : Option am_I := bif Nat.ble 56 pc then none else (bif Nat.ble pc 24 then (bif Nat.ble pc 10 then (bif Nat.ble pc 2 then (bif Nat.beq pc 0 then some (.aload_n 0, 1, 0, 0) else bif Nat.beq pc 1 then some (.iload_n 1, 2, 0, 0) else bif Nat.beq pc 2 then some (.invokevirtual 182, 5, 0, 0) else none) else (bif Nat.ble pc 6 then (bif Nat.beq pc 5 then some (.istore_n 2, 6, 0, 0) else bif Nat.beq pc 6 then some (.iload_n 2, 7, 0, 0) else none) else (bif Nat.beq pc 7 then some (.ifCond .eq 16, 10, 23, 0) else bif Nat.beq pc 10 then some (.iload_n 2, 11, 0, 0) else none))) else (bif Nat.ble pc 17 then (bif Nat.ble pc 12 then (bif Nat.beq pc 11 then some (.iconst (-1), 12, 0, 0) else bif Nat.beq pc 12 then some (.if_icmp .ne 8, 15, 20, 0) else none) else (bif Nat.beq pc 15 then some (.bipush (-4), 17, 0, 0) else bif Nat.beq pc 17 then some (.goto 5, 20, 22, 0) else none)) else (bif Nat.ble pc 22 then (bif Nat.beq pc 20 then some (.bipush (-6), 22, 0, 0) else bif Nat.beq pc 22 then some (.ireturn, 23, 0, 0) else none) else (bif Nat.beq pc 23 then some (.aload_n 0, 24, 0, 0) else bif Nat.beq pc 24 then some (.getfield 15, 27, 6, 1) else none)))) else (bif Nat.ble pc 37 then (bif Nat.ble pc 31 then (bif Nat.beq pc 27 then some (.getfield 53, 30, 3, 2) else bif Nat.beq pc 30 then some (.iload_n 1, 31, 0, 0) else bif Nat.beq pc 31 then some (.iconst 0, 32, 0, 0) else none) else (bif Nat.ble pc 35 then (bif Nat.beq pc 32 then some (.invokevirtual 201, 35, 0, 0) else bif Nat.beq pc 35 then some (.aload_n 0, 36, 0, 0) else none) else (bif Nat.beq pc 36 then some (.aload_n 0, 37, 0, 0) else bif Nat.beq pc 37 then some (.getfield 69, 40, 6, 6) else none))) else (bif Nat.ble pc 46 then (bif Nat.ble pc 41 then (bif Nat.beq pc 40 then some (.iconst 5, 41, 0, 0) else bif Nat.beq pc 41 then some (.if_icmp .ne 8, 44, 49, 0) else none) else (bif Nat.beq pc 44 then some (.bipush 6, 46, 0, 0) else bif Nat.beq pc 46 then some (.goto 5, 49, 51, 0) else none)) else (bif Nat.ble pc 51 then (bif Nat.beq pc 49 then some (.bipush 9, 51, 0, 0) else bif Nat.beq pc 51 then some (.putfield 69, 54, 6, 6) else none) else (bif Nat.beq pc 54 then some (.iconst 0, 55, 0, 0) else bif Nat.beq pc 55 then some (.ireturn, 56, 0, 0) else none)))))
set_option maxRecDepth 100000 in
set_option maxHeartbeats 4000000 in
theorem ok_Reader_takeType : am_CD m_Reader_takeType cd_Reader_takeType := am_CD_of 56 fl_Reader_ok cn_Reader_ok kl_Reader_ok pl_Reader_ok (by intro pc h; unfold cd_Reader_takeType; rw [Nat.ble_eq_true_of_le h]; rfl) (by decide +kernel)
def cd_Expressions_append (pc : Nat) : Option am_I := bif Nat.ble 56 pc then none else (bif Nat.ble pc 28 then (bif Nat.ble pc 15 then (bif Nat.ble pc 5 then (bif Nat.ble pc 1 then (bif Nat.beq pc 0 then some (.aload_n 0, 1, 0, 0) else bif Nat.beq pc 1 then some (.getfield 13, 4, 4, 1) else none) else (bif Nat.beq pc 4 then some (.aload_n 0, 5, 0, 0) else bif Nat.beq pc 5 then some (.getfield 24, 8, 4, 4) else none)) else (bif Nat.ble pc 10 then (bif Nat.beq pc 8 then some (.bipush 24, 10, 0, 0) else bif Nat.beq pc 10 then some (.imul, 11, 0, 0) else none) else (bif Nat.beq pc 11 then some (.aload_n 0, 12, 0, 0) else bif Nat.beq pc 12 then some (.getfield 17, 15, 4, 2) else bif Nat.beq pc 15 then some (.aload_n 0, 16, 0, 0) else none))) else (bif Nat.ble pc 21 then (bif Nat.ble pc 19 then (bif Nat.beq pc 16 then some (.getfield 24, 19, 4, 4) else bif Nat.beq pc 19 then some (.iaload, 20, 0, 0) else none) else (bif Nat.beq pc 20 then some (.iadd, 21, 0, 0) else bif Nat.beq pc 21 then some (.iload_n 1, 22, 0, 0) else none)) else (bif Nat.ble pc 23 then (bif Nat.beq pc 22 then some (.iastore, 23, 0, 0) else bif Nat.beq pc 23 then some (.aload_n 0, 24, 0, 0) else none) else (bif Nat.beq pc 24 then some (.getfield 17, 27, 4, 2) else bif Nat.beq pc 27 then some (.aload_n 0, 28, 0, 0) else bif Nat.beq pc 28 then some (.getfield 24, 31, 4, 4) else none)))) else (bif Nat.ble pc 41 then (bif Nat.ble pc 34 then (bif Nat.ble pc 32 then (bif Nat.beq pc 31 then some (.dup2, 32, 0, 0) else bif Nat.beq pc 32 then some (.iaload, 33, 0, 0) else none) else (bif Nat.beq pc 33 then some (.iconst 1, 34, 0, 0) else bif Nat.beq pc 34 then some (.iadd, 35, 0, 0) else none)) else (bif Nat.ble pc 36 then (bif Nat.beq pc 35 then some (.iastore, 36, 0, 0) else bif Nat.beq pc 36 then some (.iload_n 2, 37, 0, 0) else none) else (bif Nat.beq pc 37 then some (.ifCond .eq 18, 40, 55, 0) else bif Nat.beq pc 40 then some (.aload_n 0, 41, 0, 0) else bif Nat.beq pc 41 then some (.getfield 20, 44, 4, 3) else none))) else (bif Nat.ble pc 50 then (bif Nat.ble pc 45 then (bif Nat.beq pc 44 then some (.aload_n 0, 45, 0, 0) else bif Nat.beq pc 45 then some (.getfield 24, 48, 4, 4) else none) else (bif Nat.beq pc 48 then some (.dup2, 49, 0, 0) else bif Nat.beq pc 49 then some (.laload, 50, 0, 0) else bif Nat.beq pc 50 then some (.lconst 1, 51, 0, 0) else none)) else (bif Nat.ble pc 52 then (bif Nat.beq pc 51 then some (.iload_n 1, 52, 0, 0) else bif Nat.beq pc 52 then some (.lshl, 53, 0, 0) else none) else (bif Nat.beq pc 53 then some (.lor, 54, 0, 0) else bif Nat.beq pc 54 then some (.lastore, 55, 0, 0) else bif Nat.beq pc 55 then some (.return_, 56, 0, 0) else none)))))
set_option maxRecDepth 100000 in
set_option maxHeartbeats 4000000 in
theorem ok_Expressions_append : am_CD m_Expressions_append cd_Expressions_append := am_CD_of 56 fl_Expressions_ok cn_Expressions_ok kl_Expressions_ok pl_Expressions_ok (by intro pc h; unfold cd_Expressions_append; rw [Nat.ble_eq_true_of_le h]; rfl) (by decide +kernel)
def cd_Reader_takeFloating (pc : Nat) : Option am_I := bif Nat.ble 55 pc then none else (bif Nat.ble pc 24 then (bif Nat.ble pc 8 then (bif Nat.ble pc 2 then (bif Nat.beq pc 0 then some (.aload_n 0, 1, 0, 0) else bif Nat.beq pc 1 then some (.iload_n 1, 2, 0, 0) else bif Nat.beq pc 2 then some (.invokevirtual 182, 5, 0, 0) else none) else (bif Nat.ble pc 6 then (bif Nat.beq pc 5 then some (.istore_n 2, 6, 0, 0) else bif Nat.beq pc 6 then some (.iload_n 2, 7, 0, 0) else none) else (bif Nat.beq pc 7 then some (.iconst 1, 8, 0, 0) else bif Nat.beq pc 8 then some (.if_icmp .eq 16, 11, 24, 0) else none))) else (bif Nat.ble pc 16 then (bif Nat.ble pc 12 then (bif Nat.beq pc 11 then some (.iload_n 2, 12, 0, 0) else bif Nat.beq pc 12 then some (.iconst (-1), 13, 0, 0) else none) else (bif Nat.beq pc 13 then some (.if_icmp .ne 8, 16, 21, 0) else bif Nat.beq pc 16 then some (.bipush (-4), 18, 0, 0) else none)) else (bif Nat.ble pc 21 then (bif Nat.beq pc 18 then some (.goto 5, 21, 23, 0) else bif Nat.beq pc 21 then some (.bipush (-6), 23, 0, 0) else none) else (bif Nat.beq pc 23 then some (.ireturn, 24, 0, 0) else bif Nat.beq pc 24 then some (.aload_n 0, 25, 0, 0) else none)))) else (bif Nat.ble pc 39 then (bif Nat.ble pc 32 then (bif Nat.ble pc 26 then (bif Nat.beq pc 25 then some (.iload_n 1, 26, 0, 0) else bif Nat.beq pc 26 then some (.invokevirtual 205, 29, 0, 0) else none) else (bif Nat.beq pc 29 then some (.ifCond .eq 6, 32, 35, 0) else bif Nat.beq pc 32 then some (.bipush (-4), 34, 0, 0) else none)) else (bif Nat.ble pc 35 then (bif Nat.beq pc 34 then some (.ireturn, 35, 0, 0) else bif Nat.beq pc 35 then some (.aload_n 0, 36, 0, 0) else none) else (bif Nat.beq pc 36 then some (.getfield 15, 39, 6, 1) else bif Nat.beq pc 39 then some (.getfield 53, 42, 3, 2) else none))) else (bif Nat.ble pc 47 then (bif Nat.ble pc 43 then (bif Nat.beq pc 42 then some (.iload_n 1, 43, 0, 0) else bif Nat.beq pc 43 then some (.iconst 1, 44, 0, 0) else none) else (bif Nat.beq pc 44 then some (.invokevirtual 201, 47, 0, 0) else bif Nat.beq pc 47 then some (.aload_n 0, 48, 0, 0) else none)) else (bif Nat.ble pc 50 then (bif Nat.beq pc 48 then some (.bipush 7, 50, 0, 0) else bif Nat.beq pc 50 then some (.putfield 69, 53, 6, 6) else none) else (bif Nat.beq pc 53 then some (.iconst 0, 54, 0, 0) else bif Nat.beq pc 54 then some (.ireturn, 55, 0, 0) else none)))))
set_option maxRecDepth 100000 in
set_option maxHeartbeats 4000000 in
theorem ok_Reader_takeFloating : am_CD m_Reader_takeFloating cd_Reader_takeFloating := am_CD_of 55 fl_Reader_ok cn_Reader_ok kl_Reader_ok pl_Reader_ok (by intro pc h; unfold cd_Reader_takeFloating; rw [Nat.ble_eq_true_of_le h]; rfl) (by decide +kernel)
def cd_Reader_isTyped (pc : Nat) : Option am_I := bif Nat.ble 22 pc then none else (bif Nat.ble pc 10 then (bif Nat.ble pc 4 then (bif Nat.beq pc 0 then some (.aload_n 0, 1, 0, 0) else bif Nat.beq pc 1 then some (.getfield 26, 4, 6, 3) else bif Nat.beq pc 4 then some (.getfield 179, 7, 7, 1) else none) else (bif Nat.ble pc 8 then (bif Nat.beq pc 7 then some (.iload_n 1, 8, 0, 0) else bif Nat.beq pc 8 then some (.lushr, 9, 0, 0) else none) else (bif Nat.beq pc 9 then some (.lconst 1, 10, 0, 0) else bif Nat.beq pc 10 then some (.land, 11, 0, 0) else none))) else (bif Nat.ble pc 13 then (bif Nat.beq pc 11 then some (.lconst 0, 12, 0, 0) else bif Nat.beq pc 12 then some (.lcmp, 13, 0, 0) else bif Nat.beq pc 13 then some (.ifCond .eq 7, 16, 20, 0) else none) else (bif Nat.ble pc 17 then (bif Nat.beq pc 16 then some (.iconst 1, 17, 0, 0) else bif Nat.beq pc 17 then some (.goto 4, 20, 21, 0) else none) else (bif Nat.beq pc 20 then some (.iconst 0, 21, 0, 0) else bif Nat.beq pc 21 then some (.ireturn, 22, 0, 0) else none))))
set_option maxRecDepth 100000 in
set_option maxHeartbeats 4000000 in
theorem ok_Reader_isTyped : am_CD m_Reader_isTyped cd_Reader_isTyped := am_CD_of 22 fl_Reader_ok cn_Reader_ok kl_Reader_ok pl_Reader_ok (by intro pc h; unfold cd_Reader_isTyped; rw [Nat.ble_eq_true_of_le h]; rfl) (by decide +kernel)
def cd_Reader_takeSymbol (pc : Nat) : Option am_I := bif Nat.ble 67 pc then none else (bif Nat.ble pc 28 then (bif Nat.ble pc 12 then (bif Nat.ble pc 5 then (bif Nat.ble pc 1 then (bif Nat.beq pc 0 then some (.aload_n 0, 1, 0, 0) else bif Nat.beq pc 1 then some (.iload_n 1, 2, 0, 0) else none) else (bif Nat.beq pc 2 then some (.invokevirtual 182, 5, 0, 0) else bif Nat.beq pc 5 then some (.istore_n 2, 6, 0, 0) else none)) else (bif Nat.ble pc 7 then (bif Nat.beq pc 6 then some (.iload_n 2, 7, 0, 0) else bif Nat.beq pc 7 then some (.iconst (-1), 8, 0, 0) else none) else (bif Nat.beq pc 8 then some (.if_icmp .eq 16, 11, 24, 0) else bif Nat.beq pc 11 then some (.iload_n 2, 12, 0, 0) else bif Nat.beq pc 12 then some (.iconst 1, 13, 0, 0) else none))) else (bif Nat.ble pc 18 then (bif Nat.ble pc 16 then (bif Nat.beq pc 13 then some (.if_icmp .ne 14, 16, 27, 0) else bif Nat.beq pc 16 then some (.aload_n 0, 17, 0, 0) else none) else (bif Nat.beq pc 17 then some (.iload_n 1, 18, 0, 0) else bif Nat.beq pc 18 then some (.invokevirtual 205, 21, 0, 0) else none)) else (bif Nat.ble pc 24 then (bif Nat.beq pc 21 then some (.ifCond .ne 6, 24, 27, 0) else bif Nat.beq pc 24 then some (.bipush (-4), 26, 0, 0) else none) else (bif Nat.beq pc 26 then some (.ireturn, 27, 0, 0) else bif Nat.beq pc 27 then some (.aload_n 0, 28, 0, 0) else bif Nat.beq pc 28 then some (.getfield 15, 31, 6, 1) else none)))) else (bif Nat.ble pc 48 then (bif Nat.ble pc 38 then (bif Nat.ble pc 34 then (bif Nat.beq pc 31 then some (.getfield 53, 34, 3, 2) else bif Nat.beq pc 34 then some (.iconst 1, 35, 0, 0) else none) else (bif Nat.beq pc 35 then some (.invokevirtual 208, 38, 0, 0) else bif Nat.beq pc 38 then some (.ifCond .ne 6, 41, 44, 0) else none)) else (bif Nat.ble pc 43 then (bif Nat.beq pc 41 then some (.bipush (-7), 43, 0, 0) else bif Nat.beq pc 43 then some (.ireturn, 44, 0, 0) else none) else (bif Nat.beq pc 44 then some (.aload_n 0, 45, 0, 0) else bif Nat.beq pc 45 then some (.getfield 15, 48, 6, 1) else bif Nat.beq pc 48 then some (.getfield 53, 51, 3, 2) else none))) else (bif Nat.ble pc 57 then (bif Nat.ble pc 52 then (bif Nat.beq pc 51 then some (.iload_n 1, 52, 0, 0) else bif Nat.beq pc 52 then some (.iload_n 2, 53, 0, 0) else none) else (bif Nat.beq pc 53 then some (.iconst 1, 54, 0, 0) else bif Nat.beq pc 54 then some (.if_icmp .ne 7, 57, 61, 0) else bif Nat.beq pc 57 then some (.iconst 1, 58, 0, 0) else none)) else (bif Nat.ble pc 61 then (bif Nat.beq pc 58 then some (.goto 4, 61, 62, 0) else bif Nat.beq pc 61 then some (.iconst 0, 62, 0, 0) else none) else (bif Nat.beq pc 62 then some (.invokevirtual 201, 65, 0, 0) else bif Nat.beq pc 65 then some (.iconst 0, 66, 0, 0) else bif Nat.beq pc 66 then some (.ireturn, 67, 0, 0) else none)))))
set_option maxRecDepth 100000 in
set_option maxHeartbeats 4000000 in
theorem ok_Reader_takeSymbol : am_CD m_Reader_takeSymbol cd_Reader_takeSymbol := am_CD_of 67 fl_Reader_ok cn_Reader_ok kl_Reader_ok pl_Reader_ok (by intro pc h; unfold cd_Reader_takeSymbol; rw [Nat.ble_eq_true_of_le h]; rfl) (by decide +kernel)
def cd_Expressions_rowHasRoom (pc : Nat) : Option am_I := bif Nat.ble 22 pc then none else (bif Nat.ble pc 9 then (bif Nat.ble pc 4 then (bif Nat.beq pc 0 then some (.aload_n 0, 1, 0, 0) else bif Nat.beq pc 1 then some (.getfield 17, 4, 4, 2) else bif Nat.beq pc 4 then some (.aload_n 0, 5, 0, 0) else none) else (bif Nat.beq pc 5 then some (.getfield 24, 8, 4, 4) else bif Nat.beq pc 8 then some (.iaload, 9, 0, 0) else bif Nat.beq pc 9 then some (.iload_n 1, 10, 0, 0) else none)) else (bif Nat.ble pc 13 then (bif Nat.beq pc 10 then some (.iadd, 11, 0, 0) else bif Nat.beq pc 11 then some (.bipush 24, 13, 0, 0) else bif Nat.beq pc 13 then some (.if_icmp .gt 7, 16, 20, 0) else none) else (bif Nat.ble pc 17 then (bif Nat.beq pc 16 then some (.iconst 1, 17, 0, 0) else bif Nat.beq pc 17 then some (.goto 4, 20, 21, 0) else none) else (bif Nat.beq pc 20 then some (.iconst 0, 21, 0, 0) else bif Nat.beq pc 21 then some (.ireturn, 22, 0, 0) else none))))
set_option maxRecDepth 100000 in
set_option maxHeartbeats 4000000 in
theorem ok_Expressions_rowHasRoom : am_CD m_Expressions_rowHasRoom cd_Expressions_rowHasRoom := am_CD_of 22 fl_Expressions_ok cn_Expressions_ok kl_Expressions_ok pl_Expressions_ok (by intro pc h; unfold cd_Expressions_rowHasRoom; rw [Nat.ble_eq_true_of_le h]; rfl) (by decide +kernel)
def cd_Reader_beginSteps (pc : Nat) : Option am_I := bif Nat.ble 45 pc then none else (bif Nat.ble pc 19 then (bif Nat.ble pc 8 then (bif Nat.ble pc 1 then (bif Nat.beq pc 0 then some (.lload_n 1, 1, 0, 0) else bif Nat.beq pc 1 then some (.ldc2_w 251, 4, 40, 0) else none) else (bif Nat.beq pc 4 then some (.lcmp, 5, 0, 0) else bif Nat.beq pc 5 then some (.ifCond .eq 15, 8, 20, 0) else bif Nat.beq pc 8 then some (.aload_n 0, 9, 0, 0) else none)) else (bif Nat.ble pc 14 then (bif Nat.beq pc 9 then some (.bipush 11, 11, 0, 0) else bif Nat.beq pc 11 then some (.putfield 69, 14, 6, 6) else bif Nat.beq pc 14 then some (.aload_n 0, 15, 0, 0) else none) else (bif Nat.beq pc 15 then some (.lload_n 1, 16, 0, 0) else bif Nat.beq pc 16 then some (.invokevirtual 136, 19, 0, 0) else bif Nat.beq pc 19 then some (.ireturn, 20, 0, 0) else none))) else (bif Nat.ble pc 31 then (bif Nat.ble pc 24 then (bif Nat.beq pc 20 then some (.aload_n 0, 21, 0, 0) else bif Nat.beq pc 21 then some (.getfield 44, 24, 6, 5) else bif Nat.beq pc 24 then some (.aload_n 0, 25, 0, 0) else none) else (bif Nat.beq pc 25 then some (.getfield 15, 28, 6, 1) else bif Nat.beq pc 28 then some (.getfield 53, 31, 3, 2) else bif Nat.beq pc 31 then some (.getfield 59, 34, 4, 4) else none)) else (bif Nat.ble pc 38 then (bif Nat.beq pc 34 then some (.invokevirtual 253, 37, 0, 0) else bif Nat.beq pc 37 then some (.aload_n 0, 38, 0, 0) else bif Nat.beq pc 38 then some (.bipush 12, 40, 0, 0) else none) else (bif Nat.beq pc 40 then some (.putfield 69, 43, 6, 6) else bif Nat.beq pc 43 then some (.iconst 0, 44, 0, 0) else bif Nat.beq pc 44 then some (.ireturn, 45, 0, 0) else none))))
set_option maxRecDepth 100000 in
set_option maxHeartbeats 4000000 in
theorem ok_Reader_beginSteps : am_CD m_Reader_beginSteps cd_Reader_beginSteps := am_CD_of 45 fl_Reader_ok cn_Reader_ok kl_Reader_ok pl_Reader_ok (by intro pc h; unfold cd_Reader_beginSteps; rw [Nat.ble_eq_true_of_le h]; rfl) (by decide +kernel)
def cd_Reader_takeStep (pc : Nat) : Option am_I := bif Nat.ble 42 pc then none else (bif Nat.ble pc 18 then (bif Nat.ble pc 8 then (bif Nat.ble pc 1 then (bif Nat.beq pc 0 then some (.lload_n 1, 1, 0, 0) else bif Nat.beq pc 1 then some (.ldc2_w 255, 4, 63, 0) else none) else (bif Nat.beq pc 4 then some (.lcmp, 5, 0, 0) else bif Nat.beq pc 5 then some (.ifCond .ne 12, 8, 17, 0) else bif Nat.beq pc 8 then some (.aload_n 0, 9, 0, 0) else none)) else (bif Nat.ble pc 15 then (bif Nat.beq pc 9 then some (.getfield 35, 12, 6, 4) else bif Nat.beq pc 12 then some (.invokevirtual 257, 15, 0, 0) else bif Nat.beq pc 15 then some (.iconst 0, 16, 0, 0) else none) else (bif Nat.beq pc 16 then some (.ireturn, 17, 0, 0) else bif Nat.beq pc 17 then some (.aload_n 0, 18, 0, 0) else bif Nat.beq pc 18 then some (.lload_n 1, 19, 0, 0) else none))) else (bif Nat.ble pc 28 then (bif Nat.ble pc 23 then (bif Nat.beq pc 19 then some (.invokevirtual 260, 22, 0, 0) else bif Nat.beq pc 22 then some (.istore_n 3, 23, 0, 0) else bif Nat.beq pc 23 then some (.iload_n 3, 24, 0, 0) else none) else (bif Nat.beq pc 24 then some (.iconst (-1), 25, 0, 0) else bif Nat.beq pc 25 then some (.if_icmp .ne 8, 28, 33, 0) else bif Nat.beq pc 28 then some (.bipush (-8), 30, 0, 0) else none)) else (bif Nat.ble pc 34 then (bif Nat.beq pc 30 then some (.goto 11, 33, 41, 0) else bif Nat.beq pc 33 then some (.aload_n 0, 34, 0, 0) else bif Nat.beq pc 34 then some (.getfield 35, 37, 6, 4) else none) else (bif Nat.beq pc 37 then some (.iload_n 3, 38, 0, 0) else bif Nat.beq pc 38 then some (.invokevirtual 263, 41, 0, 0) else bif Nat.beq pc 41 then some (.ireturn, 42, 0, 0) else none))))
set_option maxRecDepth 100000 in
set_option maxHeartbeats 4000000 in
theorem ok_Reader_takeStep : am_CD m_Reader_takeStep cd_Reader_takeStep := am_CD_of 42 fl_Reader_ok cn_Reader_ok kl_Reader_ok pl_Reader_ok (by intro pc h; unfold cd_Reader_takeStep; rw [Nat.ble_eq_true_of_le h]; rfl) (by decide +kernel)
def cd_Proof_leaveGap (pc : Nat) : Option am_I := bif Nat.ble 13 pc then none else (bif Nat.ble pc 2 then (bif Nat.beq pc 0 then some (.aload_n 0, 1, 0, 0) else bif Nat.beq pc 1 then some (.iconst 1, 2, 0, 0) else bif Nat.beq pc 2 then some (.putfield 49, 5, 8, 7) else none) else (bif Nat.ble pc 6 then (bif Nat.beq pc 5 then some (.aload_n 0, 6, 0, 0) else bif Nat.beq pc 6 then some (.getfield 19, 9, 8, 2) else none) else (bif Nat.beq pc 9 then some (.invokevirtual 53, 12, 0, 0) else bif Nat.beq pc 12 then some (.return_, 13, 0, 0) else none)))
set_option maxRecDepth 100000 in
set_option maxHeartbeats 4000000 in
theorem ok_Proof_leaveGap : am_CD m_Proof_leaveGap cd_Proof_leaveGap := am_CD_of 13 fl_Proof_ok cn_Proof_ok kl_Proof_ok pl_Proof_ok (by intro pc h; unfold cd_Proof_leaveGap; rw [Nat.ble_eq_true_of_le h]; rfl) (by decide +kernel)
end
section
def cd_Assertions_noteGap (pc : Nat) : Option am_I := bif Nat.ble 21 pc then none else (bif Nat.ble pc 9 then (bif Nat.ble pc 4 then (bif Nat.beq pc 0 then some (.aload_n 0, 1, 0, 0) else bif Nat.beq pc 1 then some (.getfield 32, 4, 5, 6) else bif Nat.beq pc 4 then some (.aload_n 0, 5, 0, 0) else none) else (bif Nat.beq pc 5 then some (.getfield 39, 8, 5, 8) else bif Nat.beq pc 8 then some (.iconst 1, 9, 0, 0) else bif Nat.beq pc 9 then some (.bastore, 10, 0, 0) else none)) else (bif Nat.ble pc 14 then (bif Nat.beq pc 10 then some (.aload_n 0, 11, 0, 0) else bif Nat.beq pc 11 then some (.getfield 36, 14, 5, 7) else bif Nat.beq pc 14 then some (.aload_n 0, 15, 0, 0) else none) else (bif Nat.ble pc 18 then (bif Nat.beq pc 15 then some (.getfield 39, 18, 5, 8) else bif Nat.beq pc 18 then some (.iconst 0, 19, 0, 0) else none) else (bif Nat.beq pc 19 then some (.bastore, 20, 0, 0) else bif Nat.beq pc 20 then some (.return_, 21, 0, 0) else none))))
set_option maxRecDepth 100000 in
set_option maxHeartbeats 4000000 in
theorem ok_Assertions_noteGap : am_CD m_Assertions_noteGap cd_Assertions_noteGap := am_CD_of 21 fl_Assertions_ok cn_Assertions_ok kl_Assertions_ok pl_Assertions_ok (by intro pc h; unfold cd_Assertions_noteGap; rw [Nat.ble_eq_true_of_le h]; rfl) (by decide +kernel)
def cd_Reader_findUsable (pc : Nat) : Option am_I := bif Nat.ble 68 pc then none else (bif Nat.ble pc 29 then (bif Nat.ble pc 14 then (bif Nat.ble pc 5 then (bif Nat.ble pc 1 then (bif Nat.beq pc 0 then some (.aload_n 0, 1, 0, 0) else bif Nat.beq pc 1 then some (.getfield 9, 4, 6, 0) else none) else (bif Nat.beq pc 4 then some (.lload_n 1, 5, 0, 0) else bif Nat.beq pc 5 then some (.invokevirtual 118, 8, 0, 0) else none)) else (bif Nat.ble pc 9 then (bif Nat.beq pc 8 then some (.istore_n 3, 9, 0, 0) else bif Nat.beq pc 9 then some (.iload_n 3, 10, 0, 0) else none) else (bif Nat.beq pc 10 then some (.iconst (-1), 11, 0, 0) else bif Nat.beq pc 11 then some (.if_icmp .eq 16, 14, 27, 0) else bif Nat.beq pc 14 then some (.aload_n 0, 15, 0, 0) else none))) else (bif Nat.ble pc 22 then (bif Nat.ble pc 18 then (bif Nat.beq pc 15 then some (.getfield 9, 18, 6, 0) else bif Nat.beq pc 18 then some (.getfield 168, 21, 2, 1) else none) else (bif Nat.beq pc 21 then some (.iload_n 3, 22, 0, 0) else bif Nat.beq pc 22 then some (.iaload, 23, 0, 0) else none)) else (bif Nat.ble pc 24 then (bif Nat.beq pc 23 then some (.iconst 2, 24, 0, 0) else bif Nat.beq pc 24 then some (.if_icmp .eq 5, 27, 29, 0) else none) else (bif Nat.beq pc 27 then some (.iconst (-1), 28, 0, 0) else bif Nat.beq pc 28 then some (.ireturn, 29, 0, 0) else bif Nat.beq pc 29 then some (.aload_n 0, 30, 0, 0) else none)))) else (bif Nat.ble pc 46 then (bif Nat.ble pc 37 then (bif Nat.ble pc 33 then (bif Nat.beq pc 30 then some (.getfield 9, 33, 6, 0) else bif Nat.beq pc 33 then some (.getfield 275, 36, 2, 2) else none) else (bif Nat.beq pc 36 then some (.iload_n 3, 37, 0, 0) else bif Nat.beq pc 37 then some (.iaload, 38, 0, 0) else none)) else (bif Nat.ble pc 40 then (bif Nat.beq pc 38 then some (.istore 4, 40, 0, 0) else bif Nat.beq pc 40 then some (.aload_n 0, 41, 0, 0) else none) else (bif Nat.beq pc 41 then some (.getfield 15, 44, 6, 1) else bif Nat.beq pc 44 then some (.iload 4, 46, 0, 0) else bif Nat.beq pc 46 then some (.invokevirtual 211, 49, 0, 0) else none))) else (bif Nat.ble pc 55 then (bif Nat.ble pc 52 then (bif Nat.beq pc 49 then some (.ifCond .eq 16, 52, 65, 0) else bif Nat.beq pc 52 then some (.aload_n 0, 53, 0, 0) else none) else (bif Nat.beq pc 53 then some (.iload 4, 55, 0, 0) else bif Nat.beq pc 55 then some (.invokevirtual 233, 58, 0, 0) else none)) else (bif Nat.ble pc 61 then (bif Nat.beq pc 58 then some (.ifCond .ne 7, 61, 65, 0) else bif Nat.beq pc 61 then some (.iconst (-1), 62, 0, 0) else none) else (bif Nat.beq pc 62 then some (.goto 5, 65, 67, 0) else bif Nat.beq pc 65 then some (.iload 4, 67, 0, 0) else bif Nat.beq pc 67 then some (.ireturn, 68, 0, 0) else none)))))
set_option maxRecDepth 100000 in
set_option maxHeartbeats 4000000 in
theorem ok_Reader_findUsable : am_CD m_Reader_findUsable cd_Reader_findUsable := am_CD_of 68 fl_Reader_ok cn_Reader_ok kl_Reader_ok pl_Reader_ok (by intro pc h; unfold cd_Reader_findUsable; rw [Nat.ble_eq_true_of_le h]; rfl) (by decide +kernel)
def cd_Proof_stepWith (pc : Nat) : Option am_I := bif Nat.ble 137 pc then none else (bif Nat.ble pc 64 then (bif Nat.ble pc 33 then (bif Nat.ble pc 14 then (bif Nat.ble pc 7 then (bif Nat.ble pc 1 then (bif Nat.beq pc 0 then some (.aload_n 0, 1, 0, 0) else bif Nat.beq pc 1 then some (.getfield 49, 4, 8, 7) else none) else (bif Nat.beq pc 4 then some (.ifCond .eq 5, 7, 9, 0) else bif Nat.beq pc 7 then some (.iconst 0, 8, 0, 0) else none)) else (bif Nat.ble pc 9 then (bif Nat.beq pc 8 then some (.ireturn, 9, 0, 0) else bif Nat.beq pc 9 then some (.aload_n 0, 10, 0, 0) else none) else (bif Nat.beq pc 10 then some (.getfield 15, 13, 8, 1) else bif Nat.beq pc 13 then some (.iload_n 1, 14, 0, 0) else bif Nat.beq pc 14 then some (.invokevirtual 58, 17, 0, 0) else none))) else (bif Nat.ble pc 22 then (bif Nat.ble pc 20 then (bif Nat.beq pc 17 then some (.ifCond .eq 16, 20, 33, 0) else bif Nat.beq pc 20 then some (.aload_n 0, 21, 0, 0) else none) else (bif Nat.beq pc 21 then some (.aload_n 0, 22, 0, 0) else bif Nat.beq pc 22 then some (.getfield 15, 25, 8, 1) else none)) else (bif Nat.ble pc 28 then (bif Nat.beq pc 25 then some (.getfield 64, 28, 3, 2) else bif Nat.beq pc 28 then some (.iload_n 1, 29, 0, 0) else none) else (bif Nat.beq pc 29 then some (.invokevirtual 67, 32, 0, 0) else bif Nat.beq pc 32 then some (.ireturn, 33, 0, 0) else bif Nat.beq pc 33 then some (.aload_n 0, 34, 0, 0) else none)))) else (bif Nat.ble pc 52 then (bif Nat.ble pc 41 then (bif Nat.ble pc 37 then (bif Nat.beq pc 34 then some (.getfield 32, 37, 8, 4) else bif Nat.beq pc 37 then some (.getfield 45, 40, 4, 4) else none) else (bif Nat.beq pc 40 then some (.aload_n 0, 41, 0, 0) else bif Nat.beq pc 41 then some (.getfield 15, 44, 8, 1) else none)) else (bif Nat.ble pc 47 then (bif Nat.beq pc 44 then some (.getfield 71, 47, 3, 3) else bif Nat.beq pc 47 then some (.iload_n 1, 48, 0, 0) else none) else (bif Nat.beq pc 48 then some (.laload, 49, 0, 0) else bif Nat.beq pc 49 then some (.invokestatic 75, 52, 0, 0) else bif Nat.beq pc 52 then some (.isub, 53, 0, 0) else none))) else (bif Nat.ble pc 58 then (bif Nat.ble pc 54 then (bif Nat.beq pc 53 then some (.istore_n 2, 54, 0, 0) else bif Nat.beq pc 54 then some (.iload_n 2, 55, 0, 0) else none) else (bif Nat.beq pc 55 then some (.ifCond .ge 6, 58, 61, 0) else bif Nat.beq pc 58 then some (.bipush (-9), 60, 0, 0) else none)) else (bif Nat.ble pc 61 then (bif Nat.beq pc 60 then some (.ireturn, 61, 0, 0) else bif Nat.beq pc 61 then some (.aload_n 0, 62, 0, 0) else none) else (bif Nat.beq pc 62 then some (.iload_n 1, 63, 0, 0) else bif Nat.beq pc 63 then some (.iload_n 2, 64, 0, 0) else bif Nat.beq pc 64 then some (.invokevirtual 81, 67, 0, 0) else none))))) else (bif Nat.ble pc 100 then (bif Nat.ble pc 82 then (bif Nat.ble pc 73 then (bif Nat.ble pc 70 then (bif Nat.beq pc 67 then some (.ifCond .ne 6, 70, 73, 0) else bif Nat.beq pc 70 then some (.bipush (-10), 72, 0, 0) else none) else (bif Nat.beq pc 72 then some (.ireturn, 73, 0, 0) else bif Nat.beq pc 73 then some (.aload_n 0, 74, 0, 0) else none)) else (bif Nat.ble pc 75 then (bif Nat.beq pc 74 then some (.aload_n 0, 75, 0, 0) else bif Nat.beq pc 75 then some (.getfield 15, 78, 8, 1) else none) else (bif Nat.beq pc 78 then some (.getfield 85, 81, 3, 4) else bif Nat.beq pc 81 then some (.iload_n 1, 82, 0, 0) else bif Nat.beq pc 82 then some (.iaload, 83, 0, 0) else none))) else (bif Nat.ble pc 91 then (bif Nat.ble pc 86 then (bif Nat.beq pc 83 then some (.invokevirtual 87, 86, 0, 0) else bif Nat.beq pc 86 then some (.ifCond .ne 6, 89, 92, 0) else none) else (bif Nat.beq pc 89 then some (.bipush (-11), 91, 0, 0) else bif Nat.beq pc 91 then some (.ireturn, 92, 0, 0) else none)) else (bif Nat.ble pc 93 then (bif Nat.beq pc 92 then some (.aload_n 0, 93, 0, 0) else bif Nat.beq pc 93 then some (.iload_n 1, 94, 0, 0) else none) else (bif Nat.beq pc 94 then some (.invokevirtual 90, 97, 0, 0) else bif Nat.beq pc 97 then some (.ifCond .ne 6, 100, 103, 0) else bif Nat.beq pc 100 then some (.bipush (-7), 102, 0, 0) else none)))) else (bif Nat.ble pc 116 then (bif Nat.ble pc 107 then (bif Nat.ble pc 103 then (bif Nat.beq pc 102 then some (.ireturn, 103, 0, 0) else bif Nat.beq pc 103 then some (.aload_n 0, 104, 0, 0) else none) else (bif Nat.beq pc 104 then some (.getfield 32, 107, 8, 4) else bif Nat.beq pc 107 then some (.iload_n 2, 108, 0, 0) else none)) else (bif Nat.ble pc 111 then (bif Nat.beq pc 108 then some (.putfield 45, 111, 4, 4) else bif Nat.beq pc 111 then some (.aload_n 0, 112, 0, 0) else none) else (bif Nat.beq pc 112 then some (.getfield 19, 115, 8, 2) else bif Nat.beq pc 115 then some (.aload_n 0, 116, 0, 0) else bif Nat.beq pc 116 then some (.getfield 15, 119, 8, 1) else none))) else (bif Nat.ble pc 127 then (bif Nat.ble pc 122 then (bif Nat.beq pc 119 then some (.getfield 85, 122, 3, 4) else bif Nat.beq pc 122 then some (.iload_n 1, 123, 0, 0) else none) else (bif Nat.beq pc 123 then some (.iaload, 124, 0, 0) else bif Nat.beq pc 124 then some (.invokevirtual 93, 127, 0, 0) else bif Nat.beq pc 127 then some (.aload_n 0, 128, 0, 0) else none)) else (bif Nat.ble pc 129 then (bif Nat.beq pc 128 then some (.aload_n 0, 129, 0, 0) else bif Nat.beq pc 129 then some (.getfield 36, 132, 8, 5) else none) else (bif Nat.beq pc 132 then some (.iconst 0, 133, 0, 0) else bif Nat.beq pc 133 then some (.invokevirtual 67, 136, 0, 0) else bif Nat.beq pc 136 then some (.ireturn, 137, 0, 0) else none))))))
set_option maxRecDepth 100000 in
set_option maxHeartbeats 4000000 in
theorem ok_Proof_stepWith : am_CD m_Proof_stepWith cd_Proof_stepWith := am_CD_of 137 fl_Proof_ok cn_Proof_ok kl_Proof_ok pl_Proof_ok (by intro pc h; unfold cd_Proof_stepWith; rw [Nat.ble_eq_true_of_le h]; rfl) (by decide +kernel)
def cd_Proof_put (pc : Nat) : Option am_I := bif Nat.ble 38 pc then none else (bif Nat.ble pc 17 then (bif Nat.ble pc 7 then (bif Nat.ble pc 1 then (bif Nat.beq pc 0 then some (.aload_n 0, 1, 0, 0) else bif Nat.beq pc 1 then some (.getfield 32, 4, 8, 4) else none) else (bif Nat.beq pc 4 then some (.invokevirtual 96, 7, 0, 0) else bif Nat.beq pc 7 then some (.ifCond .eq 6, 10, 13, 0) else none)) else (bif Nat.ble pc 12 then (bif Nat.beq pc 10 then some (.bipush (-7), 12, 0, 0) else bif Nat.beq pc 12 then some (.ireturn, 13, 0, 0) else none) else (bif Nat.beq pc 13 then some (.aload_n 0, 14, 0, 0) else bif Nat.beq pc 14 then some (.getfield 32, 17, 8, 4) else bif Nat.beq pc 17 then some (.aload_n 1, 18, 0, 0) else none))) else (bif Nat.ble pc 26 then (bif Nat.ble pc 19 then (bif Nat.beq pc 18 then some (.iload_n 2, 19, 0, 0) else bif Nat.beq pc 19 then some (.invokevirtual 100, 22, 0, 0) else none) else (bif Nat.beq pc 22 then some (.aload_n 0, 23, 0, 0) else bif Nat.beq pc 23 then some (.getfield 19, 26, 8, 2) else bif Nat.beq pc 26 then some (.aload_n 0, 27, 0, 0) else none)) else (bif Nat.ble pc 30 then (bif Nat.beq pc 27 then some (.getfield 32, 30, 8, 4) else bif Nat.beq pc 30 then some (.getfield 45, 33, 4, 4) else none) else (bif Nat.beq pc 33 then some (.invokevirtual 104, 36, 0, 0) else bif Nat.beq pc 36 then some (.iconst 0, 37, 0, 0) else bif Nat.beq pc 37 then some (.ireturn, 38, 0, 0) else none))))
set_option maxRecDepth 100000 in
set_option maxHeartbeats 4000000 in
theorem ok_Proof_put : am_CD m_Proof_put cd_Proof_put := am_CD_of 38 fl_Proof_ok cn_Proof_ok kl_Proof_ok pl_Proof_ok (by intro pc h; unfold cd_Proof_put; rw [Nat.ble_eq_true_of_le h]; rfl) (by decide +kernel)
def cd_Expressions_addCopy (pc : Nat) : Option am_I := bif Nat.ble 69 pc then none else (bif Nat.ble pc 33 then (bif Nat.ble pc 16 then (bif Nat.ble pc 7 then (bif Nat.ble pc 1 then (bif Nat.beq pc 0 then some (.aload_n 1, 1, 0, 0) else bif Nat.beq pc 1 then some (.getfield 13, 4, 4, 1) else none) else (bif Nat.beq pc 4 then some (.iload_n 2, 5, 0, 0) else bif Nat.beq pc 5 then some (.bipush 24, 7, 0, 0) else bif Nat.beq pc 7 then some (.imul, 8, 0, 0) else none)) else (bif Nat.ble pc 9 then (bif Nat.beq pc 8 then some (.aload_n 0, 9, 0, 0) else bif Nat.beq pc 9 then some (.getfield 13, 12, 4, 1) else none) else (bif Nat.beq pc 12 then some (.aload_n 0, 13, 0, 0) else bif Nat.beq pc 13 then some (.getfield 24, 16, 4, 4) else bif Nat.beq pc 16 then some (.bipush 24, 18, 0, 0) else none))) else (bif Nat.ble pc 24 then (bif Nat.ble pc 19 then (bif Nat.beq pc 18 then some (.imul, 19, 0, 0) else bif Nat.beq pc 19 then some (.aload_n 1, 20, 0, 0) else none) else (bif Nat.beq pc 20 then some (.getfield 17, 23, 4, 2) else bif Nat.beq pc 23 then some (.iload_n 2, 24, 0, 0) else bif Nat.beq pc 24 then some (.iaload, 25, 0, 0) else none)) else (bif Nat.ble pc 28 then (bif Nat.beq pc 25 then some (.invokestatic 27, 28, 0, 1) else bif Nat.beq pc 28 then some (.aload_n 0, 29, 0, 0) else none) else (bif Nat.beq pc 29 then some (.getfield 17, 32, 4, 2) else bif Nat.beq pc 32 then some (.aload_n 0, 33, 0, 0) else bif Nat.beq pc 33 then some (.getfield 24, 36, 4, 4) else none)))) else (bif Nat.ble pc 51 then (bif Nat.ble pc 42 then (bif Nat.ble pc 37 then (bif Nat.beq pc 36 then some (.aload_n 1, 37, 0, 0) else bif Nat.beq pc 37 then some (.getfield 17, 40, 4, 2) else none) else (bif Nat.beq pc 40 then some (.iload_n 2, 41, 0, 0) else bif Nat.beq pc 41 then some (.iaload, 42, 0, 0) else bif Nat.beq pc 42 then some (.iastore, 43, 0, 0) else none)) else (bif Nat.ble pc 44 then (bif Nat.beq pc 43 then some (.aload_n 0, 44, 0, 0) else bif Nat.beq pc 44 then some (.getfield 20, 47, 4, 3) else none) else (bif Nat.beq pc 47 then some (.aload_n 0, 48, 0, 0) else bif Nat.beq pc 48 then some (.getfield 24, 51, 4, 4) else bif Nat.beq pc 51 then some (.aload_n 1, 52, 0, 0) else none))) else (bif Nat.ble pc 58 then (bif Nat.ble pc 55 then (bif Nat.beq pc 52 then some (.getfield 20, 55, 4, 3) else bif Nat.beq pc 55 then some (.iload_n 2, 56, 0, 0) else none) else (bif Nat.beq pc 56 then some (.laload, 57, 0, 0) else bif Nat.beq pc 57 then some (.lastore, 58, 0, 0) else bif Nat.beq pc 58 then some (.aload_n 0, 59, 0, 0) else none)) else (bif Nat.ble pc 63 then (bif Nat.beq pc 59 then some (.dup, 60, 0, 0) else bif Nat.beq pc 60 then some (.getfield 24, 63, 4, 4) else bif Nat.beq pc 63 then some (.iconst 1, 64, 0, 0) else none) else (bif Nat.beq pc 64 then some (.iadd, 65, 0, 0) else bif Nat.beq pc 65 then some (.putfield 24, 68, 4, 4) else bif Nat.beq pc 68 then some (.return_, 69, 0, 0) else none)))))
set_option maxRecDepth 100000 in
set_option maxHeartbeats 4000000 in
theorem ok_Expressions_addCopy : am_CD m_Expressions_addCopy cd_Expressions_addCopy := am_CD_of 69 fl_Expressions_ok cn_Expressions_ok kl_Expressions_ok pl_Expressions_ok (by intro pc h; unfold cd_Expressions_addCopy; rw [Nat.ble_eq_true_of_le h]; rfl) (by decide +kernel)
def cd_Assertions_noteStep (pc : Nat) : Option am_I := bif Nat.ble 36 pc then none else (bif Nat.ble pc 14 then (bif Nat.ble pc 8 then (bif Nat.ble pc 1 then (bif Nat.beq pc 0 then some (.aload_n 0, 1, 0, 0) else bif Nat.beq pc 1 then some (.getfield 23, 4, 5, 3) else none) else (bif Nat.beq pc 4 then some (.aload_n 0, 5, 0, 0) else bif Nat.beq pc 5 then some (.getfield 39, 8, 5, 8) else bif Nat.beq pc 8 then some (.dup2, 9, 0, 0) else none)) else (bif Nat.ble pc 11 then (bif Nat.beq pc 9 then some (.iaload, 10, 0, 0) else bif Nat.beq pc 10 then some (.iconst 1, 11, 0, 0) else bif Nat.beq pc 11 then some (.iadd, 12, 0, 0) else none) else (bif Nat.beq pc 12 then some (.iastore, 13, 0, 0) else bif Nat.beq pc 13 then some (.aload_n 0, 14, 0, 0) else bif Nat.beq pc 14 then some (.getfield 26, 17, 5, 4) else none))) else (bif Nat.ble pc 25 then (bif Nat.ble pc 18 then (bif Nat.beq pc 17 then some (.aload_n 0, 18, 0, 0) else bif Nat.beq pc 18 then some (.getfield 39, 21, 5, 8) else none) else (bif Nat.beq pc 21 then some (.aload_n 0, 22, 0, 0) else bif Nat.beq pc 22 then some (.getfield 26, 25, 5, 4) else bif Nat.beq pc 25 then some (.aload_n 0, 26, 0, 0) else none)) else (bif Nat.ble pc 30 then (bif Nat.beq pc 26 then some (.getfield 39, 29, 5, 8) else bif Nat.beq pc 29 then some (.iaload, 30, 0, 0) else bif Nat.beq pc 30 then some (.iload_n 1, 31, 0, 0) else none) else (bif Nat.beq pc 31 then some (.invokestatic 43, 34, 0, 2) else bif Nat.beq pc 34 then some (.iastore, 35, 0, 0) else bif Nat.beq pc 35 then some (.return_, 36, 0, 0) else none))))
set_option maxRecDepth 100000 in
set_option maxHeartbeats 4000000 in
theorem ok_Assertions_noteStep : am_CD m_Assertions_noteStep cd_Assertions_noteStep := am_CD_of 36 fl_Assertions_ok cn_Assertions_ok kl_Assertions_ok pl_Assertions_ok (by intro pc h; unfold cd_Assertions_noteStep; rw [Nat.ble_eq_true_of_le h]; rfl) (by decide +kernel)
def cd_J_bitCount (pc : Nat) : Option am_I := bif Nat.ble 61 pc then none else (bif Nat.ble pc 29 then (bif Nat.ble pc 15 then (bif Nat.ble pc 7 then (bif Nat.ble pc 2 then (bif Nat.beq pc 0 then some (.lload_n 0, 1, 0, 0) else bif Nat.beq pc 1 then some (.lload_n 0, 2, 0, 0) else bif Nat.beq pc 2 then some (.iconst 1, 3, 0, 0) else none) else (bif Nat.beq pc 3 then some (.lushr, 4, 0, 0) else bif Nat.beq pc 4 then some (.ldc2_w 314, 7, 6148914691236517205, 0) else bif Nat.beq pc 7 then some (.land, 8, 0, 0) else none)) else (bif Nat.ble pc 10 then (bif Nat.beq pc 8 then some (.lsub, 9, 0, 0) else bif Nat.beq pc 9 then some (.lstore_n 0, 10, 0, 0) else bif Nat.beq pc 10 then some (.lload_n 0, 11, 0, 0) else none) else (bif Nat.beq pc 11 then some (.ldc2_w 316, 14, 3689348814741910323, 0) else bif Nat.beq pc 14 then some (.land, 15, 0, 0) else bif Nat.beq pc 15 then some (.lload_n 0, 16, 0, 0) else none))) else (bif Nat.ble pc 23 then (bif Nat.ble pc 18 then (bif Nat.beq pc 16 then some (.iconst 2, 17, 0, 0) else bif Nat.beq pc 17 then some (.lushr, 18, 0, 0) else bif Nat.beq pc 18 then some (.ldc2_w 316, 21, 3689348814741910323, 0) else none) else (bif Nat.beq pc 21 then some (.land, 22, 0, 0) else bif Nat.beq pc 22 then some (.ladd, 23, 0, 0) else bif Nat.beq pc 23 then some (.lstore_n 0, 24, 0, 0) else none)) else (bif Nat.ble pc 26 then (bif Nat.beq pc 24 then some (.lload_n 0, 25, 0, 0) else bif Nat.beq pc 25 then some (.lload_n 0, 26, 0, 0) else bif Nat.beq pc 26 then some (.iconst 4, 27, 0, 0) else none) else (bif Nat.beq pc 27 then some (.lushr, 28, 0, 0) else bif Nat.beq pc 28 then some (.ladd, 29, 0, 0) else bif Nat.beq pc 29 then some (.ldc2_w 318, 32, 1085102592571150095, 0) else none)))) else (bif Nat.ble pc 45 then (bif Nat.ble pc 38 then (bif Nat.ble pc 34 then (bif Nat.beq pc 32 then some (.land, 33, 0, 0) else bif Nat.beq pc 33 then some (.lstore_n 0, 34, 0, 0) else bif Nat.beq pc 34 then some (.lload_n 0, 35, 0, 0) else none) else (bif Nat.beq pc 35 then some (.lload_n 0, 36, 0, 0) else bif Nat.beq pc 36 then some (.bipush 8, 38, 0, 0) else bif Nat.beq pc 38 then some (.lushr, 39, 0, 0) else none)) else (bif Nat.ble pc 41 then (bif Nat.beq pc 39 then some (.ladd, 40, 0, 0) else bif Nat.beq pc 40 then some (.lstore_n 0, 41, 0, 0) else bif Nat.beq pc 41 then some (.lload_n 0, 42, 0, 0) else none) else (bif Nat.beq pc 42 then some (.lload_n 0, 43, 0, 0) else bif Nat.beq pc 43 then some (.bipush 16, 45, 0, 0) else bif Nat.beq pc 45 then some (.lushr, 46, 0, 0) else none))) else (bif Nat.ble pc 52 then (bif Nat.ble pc 48 then (bif Nat.beq pc 46 then some (.ladd, 47, 0, 0) else bif Nat.beq pc 47 then some (.lstore_n 0, 48, 0, 0) else bif Nat.beq pc 48 then some (.lload_n 0, 49, 0, 0) else none) else (bif Nat.beq pc 49 then some (.lload_n 0, 50, 0, 0) else bif Nat.beq pc 50 then some (.bipush 32, 52, 0, 0) else bif Nat.beq pc 52 then some (.lushr, 53, 0, 0) else none)) else (bif Nat.ble pc 55 then (bif Nat.beq pc 53 then some (.ladd, 54, 0, 0) else bif Nat.beq pc 54 then some (.lstore_n 0, 55, 0, 0) else bif Nat.beq pc 55 then some (.lload_n 0, 56, 0, 0) else none) else (bif Nat.ble pc 57 then (bif Nat.beq pc 56 then some (.l2i, 57, 0, 0) else bif Nat.beq pc 57 then some (.bipush 127, 59, 0, 0) else none) else (bif Nat.beq pc 59 then some (.iand, 60, 0, 0) else bif Nat.beq pc 60 then some (.ireturn, 61, 0, 0) else none))))))
set_option maxRecDepth 100000 in
set_option maxHeartbeats 4000000 in
theorem ok_J_bitCount : am_CD m_J_bitCount cd_J_bitCount := am_CD_of 61 fl_java_lang_Long_ok cn_java_lang_Long_ok kl_java_lang_Long_ok pl_java_lang_Long_ok (by intro pc h; unfold cd_J_bitCount; rw [Nat.ble_eq_true_of_le h]; rfl) (by decide +kernel)
def cd_Proof_bind (pc : Nat) : Option am_I := bif Nat.ble 127 pc then none else (bif Nat.ble pc 62 then (bif Nat.ble pc 27 then (bif Nat.ble pc 12 then (bif Nat.ble pc 7 then (bif Nat.ble pc 1 then (bif Nat.beq pc 0 then some (.aload_n 0, 1, 0, 0) else bif Nat.beq pc 1 then some (.getfield 15, 4, 8, 1) else none) else (bif Nat.beq pc 4 then some (.getfield 64, 7, 3, 2) else bif Nat.beq pc 7 then some (.astore_n 3, 8, 0, 0) else none)) else (bif Nat.ble pc 9 then (bif Nat.beq pc 8 then some (.iload_n 2, 9, 0, 0) else bif Nat.beq pc 9 then some (.istore 4, 11, 0, 0) else none) else (bif Nat.beq pc 11 then some (.iconst 0, 12, 0, 0) else bif Nat.beq pc 12 then some (.istore 5, 14, 0, 0) else none))) else (bif Nat.ble pc 20 then (bif Nat.ble pc 16 then (bif Nat.beq pc 14 then some (.iload 5, 16, 0, 0) else bif Nat.beq pc 16 then some (.iload_n 1, 17, 0, 0) else none) else (bif Nat.beq pc 17 then some (.if_icmp .ge 108, 20, 125, 0) else bif Nat.beq pc 20 then some (.aload_n 0, 21, 0, 0) else none)) else (bif Nat.ble pc 24 then (bif Nat.beq pc 21 then some (.getfield 15, 24, 8, 1) else bif Nat.beq pc 24 then some (.iload_n 1, 25, 0, 0) else none) else (bif Nat.beq pc 25 then some (.iload 5, 27, 0, 0) else bif Nat.beq pc 27 then some (.invokevirtual 107, 30, 0, 0) else none)))) else (bif Nat.ble pc 46 then (bif Nat.ble pc 37 then (bif Nat.ble pc 33 then (bif Nat.beq pc 30 then some (.ifCond .ne 6, 33, 36, 0) else bif Nat.beq pc 33 then some (.goto 86, 36, 119, 0) else none) else (bif Nat.beq pc 36 then some (.aload_n 0, 37, 0, 0) else bif Nat.beq pc 37 then some (.getfield 15, 40, 8, 1) else none)) else (bif Nat.ble pc 43 then (bif Nat.beq pc 40 then some (.getfield 110, 43, 3, 1) else bif Nat.beq pc 43 then some (.iload 5, 45, 0, 0) else none) else (bif Nat.beq pc 45 then some (.iaload, 46, 0, 0) else bif Nat.beq pc 46 then some (.ifCond .ne 42, 49, 88, 0) else none))) else (bif Nat.ble pc 55 then (bif Nat.ble pc 50 then (bif Nat.beq pc 49 then some (.aload_n 0, 50, 0, 0) else bif Nat.beq pc 50 then some (.getfield 32, 53, 8, 4) else none) else (bif Nat.beq pc 53 then some (.iload 4, 55, 0, 0) else bif Nat.beq pc 55 then some (.iconst 0, 56, 0, 0) else none)) else (bif Nat.ble pc 59 then (bif Nat.beq pc 56 then some (.invokevirtual 113, 59, 0, 0) else bif Nat.beq pc 59 then some (.aload_n 3, 60, 0, 0) else none) else (bif Nat.beq pc 60 then some (.iload 5, 62, 0, 0) else bif Nat.beq pc 62 then some (.iconst 0, 63, 0, 0) else none))))) else (bif Nat.ble pc 91 then (bif Nat.ble pc 76 then (bif Nat.ble pc 70 then (bif Nat.ble pc 66 then (bif Nat.beq pc 63 then some (.invokevirtual 113, 66, 0, 0) else bif Nat.beq pc 66 then some (.if_icmp .eq 5, 69, 71, 0) else none) else (bif Nat.beq pc 69 then some (.iconst 0, 70, 0, 0) else bif Nat.beq pc 70 then some (.ireturn, 71, 0, 0) else none)) else (bif Nat.ble pc 72 then (bif Nat.beq pc 71 then some (.aload_n 0, 72, 0, 0) else bif Nat.beq pc 72 then some (.getfield 41, 75, 8, 6) else none) else (bif Nat.beq pc 75 then some (.aload_n 3, 76, 0, 0) else bif Nat.beq pc 76 then some (.iload 5, 78, 0, 0) else none))) else (bif Nat.ble pc 84 then (bif Nat.ble pc 79 then (bif Nat.beq pc 78 then some (.iconst 1, 79, 0, 0) else bif Nat.beq pc 79 then some (.invokevirtual 113, 82, 0, 0) else none) else (bif Nat.beq pc 82 then some (.iload 4, 84, 0, 0) else bif Nat.beq pc 84 then some (.iastore, 85, 0, 0) else none)) else (bif Nat.ble pc 88 then (bif Nat.beq pc 85 then some (.goto 31, 88, 116, 0) else bif Nat.beq pc 88 then some (.aload_n 0, 89, 0, 0) else none) else (bif Nat.beq pc 89 then some (.iload 5, 91, 0, 0) else bif Nat.beq pc 91 then some (.invokevirtual 90, 94, 0, 0) else none)))) else (bif Nat.ble pc 108 then (bif Nat.ble pc 101 then (bif Nat.ble pc 97 then (bif Nat.beq pc 94 then some (.ifCond .eq 20, 97, 114, 0) else bif Nat.beq pc 97 then some (.aload_n 0, 98, 0, 0) else none) else (bif Nat.beq pc 98 then some (.getfield 32, 101, 8, 4) else bif Nat.beq pc 101 then some (.iload 4, 103, 0, 0) else none)) else (bif Nat.ble pc 104 then (bif Nat.beq pc 103 then some (.aload_n 0, 104, 0, 0) else bif Nat.beq pc 104 then some (.getfield 36, 107, 8, 5) else none) else (bif Nat.beq pc 107 then some (.iconst 0, 108, 0, 0) else bif Nat.beq pc 108 then some (.invokevirtual 117, 111, 0, 0) else none))) else (bif Nat.ble pc 116 then (bif Nat.ble pc 114 then (bif Nat.beq pc 111 then some (.ifCond .ne 5, 114, 116, 0) else bif Nat.beq pc 114 then some (.iconst 0, 115, 0, 0) else none) else (bif Nat.beq pc 115 then some (.ireturn, 116, 0, 0) else bif Nat.beq pc 116 then some (.iinc 4 1, 119, 0, 0) else none)) else (bif Nat.ble pc 122 then (bif Nat.beq pc 119 then some (.iinc 5 1, 122, 0, 0) else bif Nat.beq pc 122 then some (.goto (-108), 125, 14, 0) else none) else (bif Nat.beq pc 125 then some (.iconst 1, 126, 0, 0) else bif Nat.beq pc 126 then some (.ireturn, 127, 0, 0) else none))))))
set_option maxRecDepth 100000 in
set_option maxHeartbeats 4000000 in
theorem ok_Proof_bind : am_CD m_Proof_bind cd_Proof_bind := am_CD_of 127 fl_Proof_ok cn_Proof_ok kl_Proof_ok pl_Proof_ok (by intro pc h; unfold cd_Proof_bind; rw [Nat.ble_eq_true_of_le h]; rfl) (by decide +kernel)
def cd_Statements_isMandatory (pc : Nat) : Option am_I := bif Nat.ble 21 pc then none else (bif Nat.ble pc 8 then (bif Nat.ble pc 4 then (bif Nat.beq pc 0 then some (.aload_n 0, 1, 0, 0) else bif Nat.beq pc 1 then some (.getfield 28, 4, 3, 3) else bif Nat.beq pc 4 then some (.iload_n 1, 5, 0, 0) else none) else (bif Nat.ble pc 6 then (bif Nat.beq pc 5 then some (.laload, 6, 0, 0) else bif Nat.beq pc 6 then some (.iload_n 2, 7, 0, 0) else none) else (bif Nat.beq pc 7 then some (.lushr, 8, 0, 0) else bif Nat.beq pc 8 then some (.lconst 1, 9, 0, 0) else none))) else (bif Nat.ble pc 12 then (bif Nat.ble pc 10 then (bif Nat.beq pc 9 then some (.land, 10, 0, 0) else bif Nat.beq pc 10 then some (.lconst 0, 11, 0, 0) else none) else (bif Nat.beq pc 11 then some (.lcmp, 12, 0, 0) else bif Nat.beq pc 12 then some (.ifCond .eq 7, 15, 19, 0) else none)) else (bif Nat.ble pc 16 then (bif Nat.beq pc 15 then some (.iconst 1, 16, 0, 0) else bif Nat.beq pc 16 then some (.goto 4, 19, 20, 0) else none) else (bif Nat.beq pc 19 then some (.iconst 0, 20, 0, 0) else bif Nat.beq pc 20 then some (.ireturn, 21, 0, 0) else none))))
set_option maxRecDepth 100000 in
set_option maxHeartbeats 4000000 in
theorem ok_Statements_isMandatory : am_CD m_Statements_isMandatory cd_Statements_isMandatory := am_CD_of 21 fl_Statements_ok cn_Statements_ok kl_Statements_ok pl_Statements_ok (by intro pc h; unfold cd_Statements_isMandatory; rw [Nat.ble_eq_true_of_le h]; rfl) (by decide +kernel)
def cd_Expressions_symbolAt (pc : Nat) : Option am_I := bif Nat.ble 12 pc then none else (bif Nat.ble pc 5 then (bif Nat.ble pc 1 then (bif Nat.beq pc 0 then some (.aload_n 0, 1, 0, 0) else bif Nat.beq pc 1 then some (.getfield 13, 4, 4, 1) else none) else (bif Nat.beq pc 4 then some (.iload_n 1, 5, 0, 0) else bif Nat.beq pc 5 then some (.bipush 24, 7, 0, 0) else none)) else (bif Nat.ble pc 8 then (bif Nat.beq pc 7 then some (.imul, 8, 0, 0) else bif Nat.beq pc 8 then some (.iload_n 2, 9, 0, 0) else none) else (bif Nat.beq pc 9 then some (.iadd, 10, 0, 0) else bif Nat.beq pc 10 then some (.iaload, 11, 0, 0) else bif Nat.beq pc 11 then some (.ireturn, 12, 0, 0) else none)))
set_option maxRecDepth 100000 in
set_option maxHeartbeats 4000000 in
theorem ok_Expressions_symbolAt : am_CD m_Expressions_symbolAt cd_Expressions_symbolAt := am_CD_of 12 fl_Expressions_ok cn_Expressions_ok kl_Expressions_ok pl_Expressions_ok (by intro pc h; unfold cd_Expressions_symbolAt; rw [Nat.ble_eq_true_of_le h]; rfl) (by decide +kernel)
def cd_Proof_replaceIn (pc : Nat) : Option am_I := bif Nat.ble 138 pc then none else (bif Nat.ble pc 65 then (bif Nat.ble pc 29 then (bif Nat.ble pc 16 then (bif Nat.ble pc 7 then (bif Nat.ble pc 1 then (bif Nat.beq pc 0 then some (.aload_n 0, 1, 0, 0) else bif Nat.beq pc 1 then some (.getfield 15, 4, 8, 1) else none) else (bif Nat.beq pc 4 then some (.getfield 64, 7, 3, 2) else bif Nat.beq pc 7 then some (.astore_n 2, 8, 0, 0) else none)) else (bif Nat.ble pc 9 then (bif Nat.beq pc 8 then some (.aload_n 0, 9, 0, 0) else bif Nat.beq pc 9 then some (.getfield 36, 12, 8, 5) else none) else (bif Nat.beq pc 12 then some (.invokevirtual 121, 15, 0, 0) else bif Nat.beq pc 15 then some (.iconst 0, 16, 0, 0) else bif Nat.beq pc 16 then some (.istore_n 3, 17, 0, 0) else none))) else (bif Nat.ble pc 22 then (bif Nat.ble pc 18 then (bif Nat.beq pc 17 then some (.iload_n 3, 18, 0, 0) else bif Nat.beq pc 18 then some (.aload_n 2, 19, 0, 0) else none) else (bif Nat.beq pc 19 then some (.getfield 124, 22, 4, 2) else bif Nat.beq pc 22 then some (.iload_n 1, 23, 0, 0) else none)) else (bif Nat.ble pc 24 then (bif Nat.beq pc 23 then some (.iaload, 24, 0, 0) else bif Nat.beq pc 24 then some (.if_icmp .ge 112, 27, 136, 0) else none) else (bif Nat.beq pc 27 then some (.aload_n 2, 28, 0, 0) else bif Nat.beq pc 28 then some (.iload_n 1, 29, 0, 0) else bif Nat.beq pc 29 then some (.iload_n 3, 30, 0, 0) else none)))) else (bif Nat.ble pc 46 then (bif Nat.ble pc 36 then (bif Nat.ble pc 33 then (bif Nat.beq pc 30 then some (.invokevirtual 113, 33, 0, 0) else bif Nat.beq pc 33 then some (.istore 4, 35, 0, 0) else none) else (bif Nat.beq pc 35 then some (.aload_n 0, 36, 0, 0) else bif Nat.beq pc 36 then some (.getfield 9, 39, 8, 0) else none)) else (bif Nat.ble pc 42 then (bif Nat.beq pc 39 then some (.getfield 127, 42, 2, 1) else bif Nat.beq pc 42 then some (.iload 4, 44, 0, 0) else none) else (bif Nat.beq pc 44 then some (.iaload, 45, 0, 0) else bif Nat.beq pc 45 then some (.iconst 1, 46, 0, 0) else bif Nat.beq pc 46 then some (.if_icmp .ne 7, 49, 53, 0) else none))) else (bif Nat.ble pc 54 then (bif Nat.ble pc 50 then (bif Nat.beq pc 49 then some (.iconst 1, 50, 0, 0) else bif Nat.beq pc 50 then some (.goto 4, 53, 54, 0) else none) else (bif Nat.beq pc 53 then some (.iconst 0, 54, 0, 0) else bif Nat.beq pc 54 then some (.istore 5, 56, 0, 0) else none)) else (bif Nat.ble pc 57 then (bif Nat.beq pc 56 then some (.aload_n 0, 57, 0, 0) else bif Nat.beq pc 57 then some (.getfield 36, 60, 8, 5) else none) else (bif Nat.beq pc 60 then some (.iload 5, 62, 0, 0) else bif Nat.beq pc 62 then some (.ifCond .eq 23, 65, 85, 0) else bif Nat.beq pc 65 then some (.aload_n 0, 66, 0, 0) else none))))) else (bif Nat.ble pc 99 then (bif Nat.ble pc 81 then (bif Nat.ble pc 73 then (bif Nat.ble pc 69 then (bif Nat.beq pc 66 then some (.getfield 32, 69, 8, 4) else bif Nat.beq pc 69 then some (.getfield 124, 72, 4, 2) else none) else (bif Nat.beq pc 72 then some (.aload_n 0, 73, 0, 0) else bif Nat.beq pc 73 then some (.getfield 41, 76, 8, 6) else none)) else (bif Nat.ble pc 78 then (bif Nat.beq pc 76 then some (.iload 4, 78, 0, 0) else bif Nat.beq pc 78 then some (.iaload, 79, 0, 0) else none) else (bif Nat.beq pc 79 then some (.iaload, 80, 0, 0) else bif Nat.beq pc 80 then some (.iconst 1, 81, 0, 0) else bif Nat.beq pc 81 then some (.isub, 82, 0, 0) else none))) else (bif Nat.ble pc 89 then (bif Nat.ble pc 85 then (bif Nat.beq pc 82 then some (.goto 4, 85, 86, 0) else bif Nat.beq pc 85 then some (.iconst 1, 86, 0, 0) else none) else (bif Nat.beq pc 86 then some (.invokevirtual 130, 89, 0, 0) else bif Nat.beq pc 89 then some (.ifCond .ne 5, 92, 94, 0) else none)) else (bif Nat.ble pc 93 then (bif Nat.beq pc 92 then some (.iconst 0, 93, 0, 0) else bif Nat.beq pc 93 then some (.ireturn, 94, 0, 0) else none) else (bif Nat.beq pc 94 then some (.iload 5, 96, 0, 0) else bif Nat.beq pc 96 then some (.ifCond .eq 24, 99, 120, 0) else bif Nat.beq pc 99 then some (.aload_n 0, 100, 0, 0) else none)))) else (bif Nat.ble pc 117 then (bif Nat.ble pc 107 then (bif Nat.ble pc 103 then (bif Nat.beq pc 100 then some (.getfield 36, 103, 8, 5) else bif Nat.beq pc 103 then some (.aload_n 0, 104, 0, 0) else none) else (bif Nat.beq pc 104 then some (.getfield 32, 107, 8, 4) else bif Nat.beq pc 107 then some (.aload_n 0, 108, 0, 0) else none)) else (bif Nat.ble pc 111 then (bif Nat.beq pc 108 then some (.getfield 41, 111, 8, 6) else bif Nat.beq pc 111 then some (.iload 4, 113, 0, 0) else none) else (bif Nat.beq pc 113 then some (.iaload, 114, 0, 0) else bif Nat.beq pc 114 then some (.invokevirtual 133, 117, 0, 0) else bif Nat.beq pc 117 then some (.goto 13, 120, 130, 0) else none))) else (bif Nat.ble pc 126 then (bif Nat.ble pc 121 then (bif Nat.beq pc 120 then some (.aload_n 0, 121, 0, 0) else bif Nat.beq pc 121 then some (.getfield 36, 124, 8, 5) else none) else (bif Nat.beq pc 124 then some (.iload 4, 126, 0, 0) else bif Nat.beq pc 126 then some (.iconst 0, 127, 0, 0) else none)) else (bif Nat.ble pc 130 then (bif Nat.beq pc 127 then some (.invokevirtual 136, 130, 0, 0) else bif Nat.beq pc 130 then some (.iinc 3 1, 133, 0, 0) else none) else (bif Nat.beq pc 133 then some (.goto (-116), 136, 17, 0) else bif Nat.beq pc 136 then some (.iconst 1, 137, 0, 0) else bif Nat.beq pc 137 then some (.ireturn, 138, 0, 0) else none))))))
set_option maxRecDepth 100000 in
set_option maxHeartbeats 4000000 in
theorem ok_Proof_replaceIn : am_CD m_Proof_replaceIn cd_Proof_replaceIn := am_CD_of 138 fl_Proof_ok cn_Proof_ok kl_Proof_ok pl_Proof_ok (by intro pc h; unfold cd_Proof_replaceIn; rw [Nat.ble_eq_true_of_le h]; rfl) (by decide +kernel)
def cd_Expressions_appendBody (pc : Nat) : Option am_I := bif Nat.ble 83 pc then none else (bif Nat.ble pc 41 then (bif Nat.ble pc 20 then (bif Nat.ble pc 7 then (bif Nat.ble pc 2 then (bif Nat.beq pc 0 then some (.iconst 1, 1, 0, 0) else bif Nat.beq pc 1 then some (.istore_n 3, 2, 0, 0) else bif Nat.beq pc 2 then some (.iload_n 3, 3, 0, 0) else none) else (bif Nat.beq pc 3 then some (.aload_n 1, 4, 0, 0) else bif Nat.beq pc 4 then some (.getfield 17, 7, 4, 2) else bif Nat.beq pc 7 then some (.iload_n 2, 8, 0, 0) else none)) else (bif Nat.ble pc 12 then (bif Nat.beq pc 8 then some (.iaload, 9, 0, 0) else bif Nat.beq pc 9 then some (.if_icmp .ge 55, 12, 64, 0) else bif Nat.beq pc 12 then some (.aload_n 0, 13, 0, 0) else none) else (bif Nat.ble pc 16 then (bif Nat.beq pc 13 then some (.getfield 13, 16, 4, 1) else bif Nat.beq pc 16 then some (.aload_n 0, 17, 0, 0) else none) else (bif Nat.beq pc 17 then some (.getfield 24, 20, 4, 4) else bif Nat.beq pc 20 then some (.bipush 24, 22, 0, 0) else none)))) else (bif Nat.ble pc 31 then (bif Nat.ble pc 24 then (bif Nat.beq pc 22 then some (.imul, 23, 0, 0) else bif Nat.beq pc 23 then some (.aload_n 0, 24, 0, 0) else bif Nat.beq pc 24 then some (.getfield 17, 27, 4, 2) else none) else (bif Nat.beq pc 27 then some (.aload_n 0, 28, 0, 0) else bif Nat.beq pc 28 then some (.getfield 24, 31, 4, 4) else bif Nat.beq pc 31 then some (.iaload, 32, 0, 0) else none)) else (bif Nat.ble pc 34 then (bif Nat.beq pc 32 then some (.iadd, 33, 0, 0) else bif Nat.beq pc 33 then some (.aload_n 1, 34, 0, 0) else bif Nat.beq pc 34 then some (.getfield 13, 37, 4, 1) else none) else (bif Nat.ble pc 38 then (bif Nat.beq pc 37 then some (.iload_n 2, 38, 0, 0) else bif Nat.beq pc 38 then some (.bipush 24, 40, 0, 0) else none) else (bif Nat.beq pc 40 then some (.imul, 41, 0, 0) else bif Nat.beq pc 41 then some (.iload_n 3, 42, 0, 0) else none))))) else (bif Nat.ble pc 58 then (bif Nat.ble pc 49 then (bif Nat.ble pc 44 then (bif Nat.beq pc 42 then some (.iadd, 43, 0, 0) else bif Nat.beq pc 43 then some (.iaload, 44, 0, 0) else bif Nat.beq pc 44 then some (.iastore, 45, 0, 0) else none) else (bif Nat.beq pc 45 then some (.aload_n 0, 46, 0, 0) else bif Nat.beq pc 46 then some (.getfield 17, 49, 4, 2) else bif Nat.beq pc 49 then some (.aload_n 0, 50, 0, 0) else none)) else (bif Nat.ble pc 54 then (bif Nat.beq pc 50 then some (.getfield 24, 53, 4, 4) else bif Nat.beq pc 53 then some (.dup2, 54, 0, 0) else bif Nat.beq pc 54 then some (.iaload, 55, 0, 0) else none) else (bif Nat.ble pc 56 then (bif Nat.beq pc 55 then some (.iconst 1, 56, 0, 0) else bif Nat.beq pc 56 then some (.iadd, 57, 0, 0) else none) else (bif Nat.beq pc 57 then some (.iastore, 58, 0, 0) else bif Nat.beq pc 58 then some (.iinc 3 1, 61, 0, 0) else none)))) else (bif Nat.ble pc 73 then (bif Nat.ble pc 65 then (bif Nat.beq pc 61 then some (.goto (-59), 64, 2, 0) else bif Nat.beq pc 64 then some (.aload_n 0, 65, 0, 0) else bif Nat.beq pc 65 then some (.getfield 20, 68, 4, 3) else none) else (bif Nat.ble pc 69 then (bif Nat.beq pc 68 then some (.aload_n 0, 69, 0, 0) else bif Nat.beq pc 69 then some (.getfield 24, 72, 4, 4) else none) else (bif Nat.beq pc 72 then some (.dup2, 73, 0, 0) else bif Nat.beq pc 73 then some (.laload, 74, 0, 0) else none))) else (bif Nat.ble pc 78 then (bif Nat.beq pc 74 then some (.aload_n 1, 75, 0, 0) else bif Nat.beq pc 75 then some (.getfield 20, 78, 4, 3) else bif Nat.beq pc 78 then some (.iload_n 2, 79, 0, 0) else none) else (bif Nat.ble pc 80 then (bif Nat.beq pc 79 then some (.laload, 80, 0, 0) else bif Nat.beq pc 80 then some (.lor, 81, 0, 0) else none) else (bif Nat.beq pc 81 then some (.lastore, 82, 0, 0) else bif Nat.beq pc 82 then some (.return_, 83, 0, 0) else none))))))
set_option maxRecDepth 100000 in
set_option maxHeartbeats 4000000 in
theorem ok_Expressions_appendBody : am_CD m_Expressions_appendBody cd_Expressions_appendBody := am_CD_of 83 fl_Expressions_ok cn_Expressions_ok kl_Expressions_ok pl_Expressions_ok (by intro pc h; unfold cd_Expressions_appendBody; rw [Nat.ble_eq_true_of_le h]; rfl) (by decide +kernel)
def cd_Proof_keepsApart (pc : Nat) : Option am_I := bif Nat.ble 85 pc then none else (bif Nat.ble pc 38 then (bif Nat.ble pc 16 then (bif Nat.ble pc 4 then (bif Nat.ble pc 1 then (bif Nat.beq pc 0 then some (.iconst 0, 1, 0, 0) else bif Nat.beq pc 1 then some (.istore_n 2, 2, 0, 0) else none) else (bif Nat.beq pc 2 then some (.iload_n 2, 3, 0, 0) else bif Nat.beq pc 3 then some (.aload_n 0, 4, 0, 0) else bif Nat.beq pc 4 then some (.getfield 19, 7, 8, 2) else none)) else (bif Nat.ble pc 11 then (bif Nat.beq pc 7 then some (.getfield 140, 10, 5, 1) else bif Nat.beq pc 10 then some (.iload_n 1, 11, 0, 0) else bif Nat.beq pc 11 then some (.iaload, 12, 0, 0) else none) else (bif Nat.beq pc 12 then some (.if_icmp .ge 71, 15, 83, 0) else bif Nat.beq pc 15 then some (.aload_n 0, 16, 0, 0) else bif Nat.beq pc 16 then some (.getfield 41, 19, 8, 6) else none))) else (bif Nat.ble pc 28 then (bif Nat.ble pc 23 then (bif Nat.beq pc 19 then some (.aload_n 0, 20, 0, 0) else bif Nat.beq pc 20 then some (.getfield 19, 23, 8, 2) else bif Nat.beq pc 23 then some (.iload_n 1, 24, 0, 0) else none) else (bif Nat.beq pc 24 then some (.iload_n 2, 25, 0, 0) else bif Nat.beq pc 25 then some (.invokevirtual 143, 28, 0, 0) else bif Nat.beq pc 28 then some (.iaload, 29, 0, 0) else none)) else (bif Nat.ble pc 31 then (bif Nat.beq pc 29 then some (.istore_n 3, 30, 0, 0) else bif Nat.beq pc 30 then some (.aload_n 0, 31, 0, 0) else bif Nat.beq pc 31 then some (.getfield 41, 34, 8, 6) else none) else (bif Nat.beq pc 34 then some (.aload_n 0, 35, 0, 0) else bif Nat.beq pc 35 then some (.getfield 19, 38, 8, 2) else bif Nat.beq pc 38 then some (.iload_n 1, 39, 0, 0) else none)))) else (bif Nat.ble pc 59 then (bif Nat.ble pc 47 then (bif Nat.ble pc 43 then (bif Nat.beq pc 39 then some (.iload_n 2, 40, 0, 0) else bif Nat.beq pc 40 then some (.invokevirtual 146, 43, 0, 0) else bif Nat.beq pc 43 then some (.iaload, 44, 0, 0) else none) else (bif Nat.beq pc 44 then some (.istore 4, 46, 0, 0) else bif Nat.beq pc 46 then some (.aload_n 0, 47, 0, 0) else bif Nat.beq pc 47 then some (.getfield 23, 50, 8, 3) else none)) else (bif Nat.ble pc 54 then (bif Nat.beq pc 50 then some (.aload_n 0, 51, 0, 0) else bif Nat.beq pc 51 then some (.getfield 32, 54, 8, 4) else bif Nat.beq pc 54 then some (.getfield 149, 57, 4, 3) else none) else (bif Nat.beq pc 57 then some (.iload_n 3, 58, 0, 0) else bif Nat.beq pc 58 then some (.laload, 59, 0, 0) else bif Nat.beq pc 59 then some (.aload_n 0, 60, 0, 0) else none))) else (bif Nat.ble pc 72 then (bif Nat.ble pc 66 then (bif Nat.beq pc 60 then some (.getfield 32, 63, 8, 4) else bif Nat.beq pc 63 then some (.getfield 149, 66, 4, 3) else bif Nat.beq pc 66 then some (.iload 4, 68, 0, 0) else none) else (bif Nat.beq pc 68 then some (.laload, 69, 0, 0) else bif Nat.beq pc 69 then some (.invokevirtual 152, 72, 0, 0) else bif Nat.beq pc 72 then some (.ifCond .ne 5, 75, 77, 0) else none)) else (bif Nat.ble pc 77 then (bif Nat.beq pc 75 then some (.iconst 0, 76, 0, 0) else bif Nat.beq pc 76 then some (.ireturn, 77, 0, 0) else bif Nat.beq pc 77 then some (.iinc 2 1, 80, 0, 0) else none) else (bif Nat.beq pc 80 then some (.goto (-78), 83, 2, 0) else bif Nat.beq pc 83 then some (.iconst 1, 84, 0, 0) else bif Nat.beq pc 84 then some (.ireturn, 85, 0, 0) else none)))))
set_option maxRecDepth 100000 in
set_option maxHeartbeats 4000000 in
theorem ok_Proof_keepsApart : am_CD m_Proof_keepsApart cd_Proof_keepsApart := am_CD_of 85 fl_Proof_ok cn_Proof_ok kl_Proof_ok pl_Proof_ok (by intro pc h; unfold cd_Proof_keepsApart; rw [Nat.ble_eq_true_of_le h]; rfl) (by decide +kernel)
end
section
def cd_Assertions_firstOfPair (pc : Nat) : Option am_I := bif Nat.ble 15 pc then none else (bif Nat.ble pc 7 then (bif Nat.ble pc 1 then (bif Nat.beq pc 0 then some (.aload_n 0, 1, 0, 0) else bif Nat.beq pc 1 then some (.getfield 20, 4, 5, 2) else none) else (bif Nat.beq pc 4 then some (.iload_n 1, 5, 0, 0) else bif Nat.beq pc 5 then some (.bipush 40, 7, 0, 0) else bif Nat.beq pc 7 then some (.imul, 8, 0, 0) else none)) else (bif Nat.ble pc 9 then (bif Nat.beq pc 8 then some (.iload_n 2, 9, 0, 0) else bif Nat.beq pc 9 then some (.iadd, 10, 0, 0) else none) else (bif Nat.beq pc 10 then some (.iaload, 11, 0, 0) else bif Nat.beq pc 11 then some (.invokestatic 49, 14, 0, 0) else bif Nat.beq pc 14 then some (.ireturn, 15, 0, 0) else none)))
set_option maxRecDepth 100000 in
set_option maxHeartbeats 4000000 in
theorem ok_Assertions_firstOfPair : am_CD m_Assertions_firstOfPair cd_Assertions_firstOfPair := am_CD_of 15 fl_Assertions_ok cn_Assertions_ok kl_Assertions_ok pl_Assertions_ok (by intro pc h; unfold cd_Assertions_firstOfPair; rw [Nat.ble_eq_true_of_le h]; rfl) (by decide +kernel)
def cd_Assertions_secondOfPair (pc : Nat) : Option am_I := bif Nat.ble 15 pc then none else (bif Nat.ble pc 7 then (bif Nat.ble pc 1 then (bif Nat.beq pc 0 then some (.aload_n 0, 1, 0, 0) else bif Nat.beq pc 1 then some (.getfield 20, 4, 5, 2) else none) else (bif Nat.beq pc 4 then some (.iload_n 1, 5, 0, 0) else bif Nat.beq pc 5 then some (.bipush 40, 7, 0, 0) else bif Nat.beq pc 7 then some (.imul, 8, 0, 0) else none)) else (bif Nat.ble pc 9 then (bif Nat.beq pc 8 then some (.iload_n 2, 9, 0, 0) else bif Nat.beq pc 9 then some (.iadd, 10, 0, 0) else none) else (bif Nat.beq pc 10 then some (.iaload, 11, 0, 0) else bif Nat.beq pc 11 then some (.invokestatic 53, 14, 0, 0) else bif Nat.beq pc 14 then some (.ireturn, 15, 0, 0) else none)))
set_option maxRecDepth 100000 in
set_option maxHeartbeats 4000000 in
theorem ok_Assertions_secondOfPair : am_CD m_Assertions_secondOfPair cd_Assertions_secondOfPair := am_CD_of 15 fl_Assertions_ok cn_Assertions_ok kl_Assertions_ok pl_Assertions_ok (by intro pc h; unfold cd_Assertions_secondOfPair; rw [Nat.ble_eq_true_of_le h]; rfl) (by decide +kernel)
def cd_Context_areApart (pc : Nat) : Option am_I := bif Nat.ble 58 pc then none else (bif Nat.ble pc 26 then (bif Nat.ble pc 14 then (bif Nat.ble pc 5 then (bif Nat.ble pc 1 then (bif Nat.beq pc 0 then some (.iconst 0, 1, 0, 0) else bif Nat.beq pc 1 then some (.istore 5, 3, 0, 0) else none) else (bif Nat.beq pc 3 then some (.iload 5, 5, 0, 0) else bif Nat.beq pc 5 then some (.bipush 60, 7, 0, 0) else none)) else (bif Nat.ble pc 10 then (bif Nat.beq pc 7 then some (.if_icmp .ge 49, 10, 56, 0) else bif Nat.beq pc 10 then some (.lload_n 1, 11, 0, 0) else none) else (bif Nat.beq pc 11 then some (.iload 5, 13, 0, 0) else bif Nat.beq pc 13 then some (.lushr, 14, 0, 0) else bif Nat.beq pc 14 then some (.lconst 0, 15, 0, 0) else none))) else (bif Nat.ble pc 20 then (bif Nat.ble pc 16 then (bif Nat.beq pc 15 then some (.lcmp, 16, 0, 0) else bif Nat.beq pc 16 then some (.ifCond .eq 40, 19, 56, 0) else none) else (bif Nat.beq pc 19 then some (.lload_n 1, 20, 0, 0) else bif Nat.beq pc 20 then some (.iload 5, 22, 0, 0) else none)) else (bif Nat.ble pc 23 then (bif Nat.beq pc 22 then some (.lushr, 23, 0, 0) else bif Nat.beq pc 23 then some (.lconst 1, 24, 0, 0) else none) else (bif Nat.beq pc 24 then some (.land, 25, 0, 0) else bif Nat.beq pc 25 then some (.lconst 0, 26, 0, 0) else bif Nat.beq pc 26 then some (.lcmp, 27, 0, 0) else none)))) else (bif Nat.ble pc 42 then (bif Nat.ble pc 32 then (bif Nat.ble pc 30 then (bif Nat.beq pc 27 then some (.ifCond .eq 23, 30, 50, 0) else bif Nat.beq pc 30 then some (.lload_n 3, 31, 0, 0) else none) else (bif Nat.beq pc 31 then some (.aload_n 0, 32, 0, 0) else bif Nat.beq pc 32 then some (.getfield 17, 35, 7, 5) else none)) else (bif Nat.ble pc 37 then (bif Nat.beq pc 35 then some (.iload 5, 37, 0, 0) else bif Nat.beq pc 37 then some (.laload, 38, 0, 0) else none) else (bif Nat.beq pc 38 then some (.ldc2_w 75, 41, 18446744073709551615, 0) else bif Nat.beq pc 41 then some (.lxor, 42, 0, 0) else bif Nat.beq pc 42 then some (.land, 43, 0, 0) else none))) else (bif Nat.ble pc 48 then (bif Nat.ble pc 44 then (bif Nat.beq pc 43 then some (.lconst 0, 44, 0, 0) else bif Nat.beq pc 44 then some (.lcmp, 45, 0, 0) else none) else (bif Nat.beq pc 45 then some (.ifCond .eq 5, 48, 50, 0) else bif Nat.beq pc 48 then some (.iconst 0, 49, 0, 0) else none)) else (bif Nat.ble pc 50 then (bif Nat.beq pc 49 then some (.ireturn, 50, 0, 0) else bif Nat.beq pc 50 then some (.iinc 5 1, 53, 0, 0) else none) else (bif Nat.beq pc 53 then some (.goto (-50), 56, 3, 0) else bif Nat.beq pc 56 then some (.iconst 1, 57, 0, 0) else bif Nat.beq pc 57 then some (.ireturn, 58, 0, 0) else none)))))
set_option maxRecDepth 100000 in
set_option maxHeartbeats 4000000 in
theorem ok_Context_areApart : am_CD m_Context_areApart cd_Context_areApart := am_CD_of 58 fl_Context_ok cn_Context_ok kl_Context_ok pl_Context_ok (by intro pc h; unfold cd_Context_areApart; rw [Nat.ble_eq_true_of_le h]; rfl) (by decide +kernel)
def cd_Assertions_noteUse (pc : Nat) : Option am_I := bif Nat.ble 54 pc then none else (bif Nat.ble pc 22 then (bif Nat.ble pc 12 then (bif Nat.ble pc 5 then (bif Nat.ble pc 1 then (bif Nat.beq pc 0 then some (.aload_n 0, 1, 0, 0) else bif Nat.beq pc 1 then some (.getfield 29, 4, 5, 5) else none) else (bif Nat.beq pc 4 then some (.aload_n 0, 5, 0, 0) else bif Nat.beq pc 5 then some (.getfield 39, 8, 5, 8) else none)) else (bif Nat.ble pc 10 then (bif Nat.beq pc 8 then some (.bipush 40, 10, 0, 0) else bif Nat.beq pc 10 then some (.imul, 11, 0, 0) else none) else (bif Nat.beq pc 11 then some (.iload_n 1, 12, 0, 0) else bif Nat.beq pc 12 then some (.iadd, 13, 0, 0) else none))) else (bif Nat.ble pc 16 then (bif Nat.ble pc 14 then (bif Nat.beq pc 13 then some (.dup2, 14, 0, 0) else bif Nat.beq pc 14 then some (.iaload, 15, 0, 0) else none) else (bif Nat.beq pc 15 then some (.iconst 1, 16, 0, 0) else bif Nat.beq pc 16 then some (.iadd, 17, 0, 0) else none)) else (bif Nat.ble pc 18 then (bif Nat.beq pc 17 then some (.iastore, 18, 0, 0) else bif Nat.beq pc 18 then some (.aload_n 0, 19, 0, 0) else none) else (bif Nat.beq pc 19 then some (.getfield 36, 22, 5, 7) else bif Nat.beq pc 22 then some (.aload_n 0, 23, 0, 0) else none)))) else (bif Nat.ble pc 38 then (bif Nat.ble pc 30 then (bif Nat.ble pc 26 then (bif Nat.beq pc 23 then some (.getfield 39, 26, 5, 8) else bif Nat.beq pc 26 then some (.aload_n 0, 27, 0, 0) else none) else (bif Nat.beq pc 27 then some (.getfield 36, 30, 5, 7) else bif Nat.beq pc 30 then some (.aload_n 0, 31, 0, 0) else none)) else (bif Nat.ble pc 34 then (bif Nat.beq pc 31 then some (.getfield 39, 34, 5, 8) else bif Nat.beq pc 34 then some (.baload, 35, 0, 0) else none) else (bif Nat.beq pc 35 then some (.ifCond .eq 16, 38, 51, 0) else bif Nat.beq pc 38 then some (.aload_n 0, 39, 0, 0) else none))) else (bif Nat.ble pc 44 then (bif Nat.ble pc 42 then (bif Nat.beq pc 39 then some (.getfield 36, 42, 5, 7) else bif Nat.beq pc 42 then some (.iload_n 1, 43, 0, 0) else none) else (bif Nat.beq pc 43 then some (.baload, 44, 0, 0) else bif Nat.beq pc 44 then some (.ifCond .eq 7, 47, 51, 0) else none)) else (bif Nat.ble pc 48 then (bif Nat.beq pc 47 then some (.iconst 1, 48, 0, 0) else bif Nat.beq pc 48 then some (.goto 4, 51, 52, 0) else none) else (bif Nat.beq pc 51 then some (.iconst 0, 52, 0, 0) else bif Nat.beq pc 52 then some (.bastore, 53, 0, 0) else bif Nat.beq pc 53 then some (.return_, 54, 0, 0) else none)))))
set_option maxRecDepth 100000 in
set_option maxHeartbeats 4000000 in
theorem ok_Assertions_noteUse : am_CD m_Assertions_noteUse cd_Assertions_noteUse := am_CD_of 54 fl_Assertions_ok cn_Assertions_ok kl_Assertions_ok pl_Assertions_ok (by intro pc h; unfold cd_Assertions_noteUse; rw [Nat.ble_eq_true_of_le h]; rfl) (by decide +kernel)
def cd_Letters_begin (pc : Nat) : Option am_I := bif Nat.ble 79 pc then none else (bif Nat.ble pc 35 then (bif Nat.ble pc 16 then (bif Nat.ble pc 6 then (bif Nat.ble pc 1 then (bif Nat.beq pc 0 then some (.aload_n 0, 1, 0, 0) else bif Nat.beq pc 1 then some (.iconst 0, 2, 0, 0) else none) else (bif Nat.beq pc 2 then some (.putfield 34, 5, 9, 3) else bif Nat.beq pc 5 then some (.iconst 0, 6, 0, 0) else bif Nat.beq pc 6 then some (.istore_n 2, 7, 0, 0) else none)) else (bif Nat.ble pc 9 then (bif Nat.beq pc 7 then some (.iload_n 2, 8, 0, 0) else bif Nat.beq pc 8 then some (.iload_n 1, 9, 0, 0) else bif Nat.beq pc 9 then some (.if_icmp .ge 41, 12, 50, 0) else none) else (bif Nat.beq pc 12 then some (.aload_n 0, 13, 0, 0) else bif Nat.beq pc 13 then some (.getfield 9, 16, 9, 0) else bif Nat.beq pc 16 then some (.iload_n 1, 17, 0, 0) else none))) else (bif Nat.ble pc 25 then (bif Nat.ble pc 18 then (bif Nat.beq pc 17 then some (.iload_n 2, 18, 0, 0) else bif Nat.beq pc 18 then some (.invokevirtual 38, 21, 0, 0) else none) else (bif Nat.beq pc 21 then some (.ifCond .eq 23, 24, 44, 0) else bif Nat.beq pc 24 then some (.aload_n 0, 25, 0, 0) else bif Nat.beq pc 25 then some (.getfield 21, 28, 9, 2) else none)) else (bif Nat.ble pc 32 then (bif Nat.beq pc 28 then some (.aload_n 0, 29, 0, 0) else bif Nat.beq pc 29 then some (.getfield 34, 32, 9, 3) else bif Nat.beq pc 32 then some (.iload_n 2, 33, 0, 0) else none) else (bif Nat.beq pc 33 then some (.iastore, 34, 0, 0) else bif Nat.beq pc 34 then some (.aload_n 0, 35, 0, 0) else bif Nat.beq pc 35 then some (.dup, 36, 0, 0) else none)))) else (bif Nat.ble pc 56 then (bif Nat.ble pc 44 then (bif Nat.ble pc 39 then (bif Nat.beq pc 36 then some (.getfield 34, 39, 9, 3) else bif Nat.beq pc 39 then some (.iconst 1, 40, 0, 0) else none) else (bif Nat.beq pc 40 then some (.iadd, 41, 0, 0) else bif Nat.beq pc 41 then some (.putfield 34, 44, 9, 3) else bif Nat.beq pc 44 then some (.iinc 2 1, 47, 0, 0) else none)) else (bif Nat.ble pc 51 then (bif Nat.beq pc 47 then some (.goto (-40), 50, 7, 0) else bif Nat.beq pc 50 then some (.aload_n 0, 51, 0, 0) else bif Nat.beq pc 51 then some (.iconst 0, 52, 0, 0) else none) else (bif Nat.beq pc 52 then some (.putfield 42, 55, 9, 4) else bif Nat.beq pc 55 then some (.aload_n 0, 56, 0, 0) else bif Nat.beq pc 56 then some (.getfield 30, 59, 9, 5) else none))) else (bif Nat.ble pc 68 then (bif Nat.ble pc 63 then (bif Nat.beq pc 59 then some (.iconst 0, 60, 0, 0) else bif Nat.beq pc 60 then some (.putfield 45, 63, 4, 4) else bif Nat.beq pc 63 then some (.aload_n 0, 64, 0, 0) else none) else (bif Nat.beq pc 64 then some (.iconst 0, 65, 0, 0) else bif Nat.beq pc 65 then some (.putfield 48, 68, 9, 6) else bif Nat.beq pc 68 then some (.aload_n 0, 69, 0, 0) else none)) else (bif Nat.ble pc 73 then (bif Nat.beq pc 69 then some (.iconst 0, 70, 0, 0) else bif Nat.beq pc 70 then some (.putfield 51, 73, 9, 8) else bif Nat.beq pc 73 then some (.aload_n 0, 74, 0, 0) else none) else (bif Nat.beq pc 74 then some (.iconst 0, 75, 0, 0) else bif Nat.beq pc 75 then some (.putfield 55, 78, 9, 9) else bif Nat.beq pc 78 then some (.return_, 79, 0, 0) else none)))))
set_option maxRecDepth 100000 in
set_option maxHeartbeats 4000000 in
theorem ok_Letters_begin : am_CD m_Letters_begin cd_Letters_begin := am_CD_of 79 fl_Letters_ok cn_Letters_ok kl_Letters_ok pl_Letters_ok (by intro pc h; unfold cd_Letters_begin; rw [Nat.ble_eq_true_of_le h]; rfl) (by decide +kernel)
def cd_Reader_takeListed (pc : Nat) : Option am_I := bif Nat.ble 60 pc then none else (bif Nat.ble pc 24 then (bif Nat.ble pc 14 then (bif Nat.ble pc 5 then (bif Nat.ble pc 1 then (bif Nat.beq pc 0 then some (.lload_n 1, 1, 0, 0) else bif Nat.beq pc 1 then some (.ldc2_w 266, 4, 41, 0) else none) else (bif Nat.beq pc 4 then some (.lcmp, 5, 0, 0) else bif Nat.beq pc 5 then some (.ifCond .ne 11, 8, 16, 0) else none)) else (bif Nat.ble pc 9 then (bif Nat.beq pc 8 then some (.aload_n 0, 9, 0, 0) else bif Nat.beq pc 9 then some (.bipush 13, 11, 0, 0) else none) else (bif Nat.beq pc 11 then some (.putfield 69, 14, 6, 6) else bif Nat.beq pc 14 then some (.iconst 0, 15, 0, 0) else none))) else (bif Nat.ble pc 18 then (bif Nat.ble pc 16 then (bif Nat.beq pc 15 then some (.ireturn, 16, 0, 0) else bif Nat.beq pc 16 then some (.aload_n 0, 17, 0, 0) else none) else (bif Nat.beq pc 17 then some (.lload_n 1, 18, 0, 0) else bif Nat.beq pc 18 then some (.invokevirtual 260, 21, 0, 0) else none)) else (bif Nat.ble pc 22 then (bif Nat.beq pc 21 then some (.istore_n 3, 22, 0, 0) else bif Nat.beq pc 22 then some (.iload_n 3, 23, 0, 0) else none) else (bif Nat.beq pc 23 then some (.iconst (-1), 24, 0, 0) else bif Nat.beq pc 24 then some (.if_icmp .eq 24, 27, 48, 0) else none)))) else (bif Nat.ble pc 42 then (bif Nat.ble pc 32 then (bif Nat.ble pc 28 then (bif Nat.beq pc 27 then some (.aload_n 0, 28, 0, 0) else bif Nat.beq pc 28 then some (.getfield 15, 31, 6, 1) else none) else (bif Nat.beq pc 31 then some (.aload_n 0, 32, 0, 0) else bif Nat.beq pc 32 then some (.getfield 15, 35, 6, 1) else none)) else (bif Nat.ble pc 38 then (bif Nat.beq pc 35 then some (.getfield 53, 38, 3, 2) else bif Nat.beq pc 38 then some (.getfield 59, 41, 4, 4) else none) else (bif Nat.beq pc 41 then some (.iload_n 3, 42, 0, 0) else bif Nat.beq pc 42 then some (.invokevirtual 268, 45, 0, 0) else none))) else (bif Nat.ble pc 51 then (bif Nat.ble pc 48 then (bif Nat.beq pc 45 then some (.ifCond .eq 6, 48, 51, 0) else bif Nat.beq pc 48 then some (.bipush (-8), 50, 0, 0) else none) else (bif Nat.beq pc 50 then some (.ireturn, 51, 0, 0) else bif Nat.beq pc 51 then some (.aload_n 0, 52, 0, 0) else none)) else (bif Nat.ble pc 55 then (bif Nat.beq pc 52 then some (.getfield 44, 55, 6, 5) else bif Nat.beq pc 55 then some (.iload_n 3, 56, 0, 0) else none) else (bif Nat.beq pc 56 then some (.invokevirtual 272, 59, 0, 0) else bif Nat.beq pc 59 then some (.ireturn, 60, 0, 0) else none)))))
set_option maxRecDepth 100000 in
set_option maxHeartbeats 4000000 in
theorem ok_Reader_takeListed : am_CD m_Reader_takeListed cd_Reader_takeListed := am_CD_of 60 fl_Reader_ok cn_Reader_ok kl_Reader_ok pl_Reader_ok (by intro pc h; unfold cd_Reader_takeListed; rw [Nat.ble_eq_true_of_le h]; rfl) (by decide +kernel)
def cd_Letters_addListed (pc : Nat) : Option am_I := bif Nat.ble 44 pc then none else (bif Nat.ble pc 22 then (bif Nat.ble pc 11 then (bif Nat.ble pc 4 then (bif Nat.beq pc 0 then some (.aload_n 0, 1, 0, 0) else bif Nat.beq pc 1 then some (.getfield 42, 4, 9, 4) else bif Nat.beq pc 4 then some (.bipush 20, 6, 0, 0) else none) else (bif Nat.beq pc 6 then some (.if_icmp .lt 6, 9, 12, 0) else bif Nat.beq pc 9 then some (.bipush (-7), 11, 0, 0) else bif Nat.beq pc 11 then some (.ireturn, 12, 0, 0) else none)) else (bif Nat.ble pc 16 then (bif Nat.beq pc 12 then some (.aload_n 0, 13, 0, 0) else bif Nat.beq pc 13 then some (.getfield 21, 16, 9, 2) else bif Nat.beq pc 16 then some (.aload_n 0, 17, 0, 0) else none) else (bif Nat.ble pc 20 then (bif Nat.beq pc 17 then some (.getfield 34, 20, 9, 3) else bif Nat.beq pc 20 then some (.iload_n 1, 21, 0, 0) else none) else (bif Nat.beq pc 21 then some (.iastore, 22, 0, 0) else bif Nat.beq pc 22 then some (.aload_n 0, 23, 0, 0) else none)))) else (bif Nat.ble pc 32 then (bif Nat.ble pc 27 then (bif Nat.beq pc 23 then some (.dup, 24, 0, 0) else bif Nat.beq pc 24 then some (.getfield 34, 27, 9, 3) else bif Nat.beq pc 27 then some (.iconst 1, 28, 0, 0) else none) else (bif Nat.beq pc 28 then some (.iadd, 29, 0, 0) else bif Nat.beq pc 29 then some (.putfield 34, 32, 9, 3) else bif Nat.beq pc 32 then some (.aload_n 0, 33, 0, 0) else none)) else (bif Nat.ble pc 37 then (bif Nat.beq pc 33 then some (.dup, 34, 0, 0) else bif Nat.beq pc 34 then some (.getfield 42, 37, 9, 4) else bif Nat.beq pc 37 then some (.iconst 1, 38, 0, 0) else none) else (bif Nat.ble pc 39 then (bif Nat.beq pc 38 then some (.iadd, 39, 0, 0) else bif Nat.beq pc 39 then some (.putfield 42, 42, 9, 4) else none) else (bif Nat.beq pc 42 then some (.iconst 0, 43, 0, 0) else bif Nat.beq pc 43 then some (.ireturn, 44, 0, 0) else none)))))
set_option maxRecDepth 100000 in
set_option maxHeartbeats 4000000 in
theorem ok_Letters_addListed : am_CD m_Letters_addListed cd_Letters_addListed := am_CD_of 44 fl_Letters_ok cn_Letters_ok kl_Letters_ok pl_Letters_ok (by intro pc h; unfold cd_Letters_addListed; rw [Nat.ble_eq_true_of_le h]; rfl) (by decide +kernel)
def cd_Letters_takeLetters (pc : Nat) : Option am_I := bif Nat.ble 101 pc then none else (bif Nat.ble pc 48 then (bif Nat.ble pc 20 then (bif Nat.ble pc 7 then (bif Nat.ble pc 4 then (bif Nat.beq pc 0 then some (.aload_n 1, 1, 0, 0) else bif Nat.beq pc 1 then some (.getfield 58, 4, 1, 3) else bif Nat.beq pc 4 then some (.istore_n 2, 5, 0, 0) else none) else (bif Nat.beq pc 5 then some (.iload_n 2, 6, 0, 0) else bif Nat.beq pc 6 then some (.aload_n 1, 7, 0, 0) else bif Nat.beq pc 7 then some (.getfield 63, 10, 1, 4) else none)) else (bif Nat.ble pc 14 then (bif Nat.beq pc 10 then some (.if_icmp .ge 37, 13, 47, 0) else bif Nat.beq pc 13 then some (.aload_n 1, 14, 0, 0) else bif Nat.beq pc 14 then some (.getfield 66, 17, 1, 0) else none) else (bif Nat.ble pc 18 then (bif Nat.beq pc 17 then some (.iload_n 2, 18, 0, 0) else bif Nat.beq pc 18 then some (.baload, 19, 0, 0) else none) else (bif Nat.beq pc 19 then some (.istore_n 3, 20, 0, 0) else bif Nat.beq pc 20 then some (.iload_n 3, 21, 0, 0) else none)))) else (bif Nat.ble pc 33 then (bif Nat.ble pc 26 then (bif Nat.beq pc 21 then some (.bipush 63, 23, 0, 0) else bif Nat.beq pc 23 then some (.if_icmp .eq 18, 26, 41, 0) else bif Nat.beq pc 26 then some (.iload_n 3, 27, 0, 0) else none) else (bif Nat.ble pc 29 then (bif Nat.beq pc 27 then some (.bipush 65, 29, 0, 0) else bif Nat.beq pc 29 then some (.if_icmp .lt 9, 32, 38, 0) else none) else (bif Nat.beq pc 32 then some (.iload_n 3, 33, 0, 0) else bif Nat.beq pc 33 then some (.bipush 90, 35, 0, 0) else none))) else (bif Nat.ble pc 40 then (bif Nat.beq pc 35 then some (.if_icmp .le 6, 38, 41, 0) else bif Nat.beq pc 38 then some (.bipush (-3), 40, 0, 0) else bif Nat.beq pc 40 then some (.ireturn, 41, 0, 0) else none) else (bif Nat.ble pc 44 then (bif Nat.beq pc 41 then some (.iinc 2 1, 44, 0, 0) else bif Nat.beq pc 44 then some (.goto (-39), 47, 5, 0) else none) else (bif Nat.beq pc 47 then some (.iconst 0, 48, 0, 0) else bif Nat.beq pc 48 then some (.istore_n 2, 49, 0, 0) else none))))) else (bif Nat.ble pc 72 then (bif Nat.ble pc 59 then (bif Nat.ble pc 53 then (bif Nat.beq pc 49 then some (.aload_n 1, 50, 0, 0) else bif Nat.beq pc 50 then some (.getfield 58, 53, 1, 3) else bif Nat.beq pc 53 then some (.istore_n 3, 54, 0, 0) else none) else (bif Nat.ble pc 55 then (bif Nat.beq pc 54 then some (.iload_n 3, 55, 0, 0) else bif Nat.beq pc 55 then some (.aload_n 1, 56, 0, 0) else none) else (bif Nat.beq pc 56 then some (.getfield 63, 59, 1, 4) else bif Nat.beq pc 59 then some (.if_icmp .ge 40, 62, 99, 0) else none))) else (bif Nat.ble pc 66 then (bif Nat.beq pc 62 then some (.iload_n 2, 63, 0, 0) else bif Nat.beq pc 63 then some (.ifCond .ne 36, 66, 99, 0) else bif Nat.beq pc 66 then some (.aload_n 0, 67, 0, 0) else none) else (bif Nat.ble pc 68 then (bif Nat.beq pc 67 then some (.aload_n 1, 68, 0, 0) else bif Nat.beq pc 68 then some (.getfield 66, 71, 1, 0) else none) else (bif Nat.beq pc 71 then some (.iload_n 3, 72, 0, 0) else bif Nat.beq pc 72 then some (.baload, 73, 0, 0) else none)))) else (bif Nat.ble pc 85 then (bif Nat.ble pc 77 then (bif Nat.beq pc 73 then some (.invokevirtual 70, 76, 0, 0) else bif Nat.beq pc 76 then some (.istore_n 2, 77, 0, 0) else bif Nat.beq pc 77 then some (.iload_n 2, 78, 0, 0) else none) else (bif Nat.ble pc 81 then (bif Nat.beq pc 78 then some (.ifCond .ne 15, 81, 93, 0) else bif Nat.beq pc 81 then some (.aload_n 0, 82, 0, 0) else none) else (bif Nat.beq pc 82 then some (.getfield 55, 85, 9, 9) else bif Nat.beq pc 85 then some (.ifCond .eq 8, 88, 93, 0) else none))) else (bif Nat.ble pc 92 then (bif Nat.beq pc 88 then some (.aload_n 0, 89, 0, 0) else bif Nat.beq pc 89 then some (.invokevirtual 74, 92, 0, 0) else bif Nat.beq pc 92 then some (.istore_n 2, 93, 0, 0) else none) else (bif Nat.ble pc 96 then (bif Nat.beq pc 93 then some (.iinc 3 1, 96, 0, 0) else bif Nat.beq pc 96 then some (.goto (-42), 99, 54, 0) else none) else (bif Nat.beq pc 99 then some (.iload_n 2, 100, 0, 0) else bif Nat.beq pc 100 then some (.ireturn, 101, 0, 0) else none))))))
set_option maxRecDepth 100000 in
set_option maxHeartbeats 4000000 in
theorem ok_Letters_takeLetters : am_CD m_Letters_takeLetters cd_Letters_takeLetters := am_CD_of 101 fl_Letters_ok cn_Letters_ok kl_Letters_ok pl_Letters_ok (by intro pc h; unfold cd_Letters_takeLetters; rw [Nat.ble_eq_true_of_le h]; rfl) (by decide +kernel)
def cd_Letters_takeLetter (pc : Nat) : Option am_I := bif Nat.ble 121 pc then none else (bif Nat.ble pc 62 then (bif Nat.ble pc 30 then (bif Nat.ble pc 12 then (bif Nat.ble pc 6 then (bif Nat.ble pc 1 then (bif Nat.beq pc 0 then some (.iload_n 1, 1, 0, 0) else bif Nat.beq pc 1 then some (.bipush 63, 3, 0, 0) else none) else (bif Nat.beq pc 3 then some (.if_icmp .ne 8, 6, 11, 0) else bif Nat.beq pc 6 then some (.aload_n 0, 7, 0, 0) else none)) else (bif Nat.ble pc 10 then (bif Nat.beq pc 7 then some (.invokevirtual 78, 10, 0, 0) else bif Nat.beq pc 10 then some (.ireturn, 11, 0, 0) else none) else (bif Nat.beq pc 11 then some (.iload_n 1, 12, 0, 0) else bif Nat.beq pc 12 then some (.bipush 90, 14, 0, 0) else none))) else (bif Nat.ble pc 21 then (bif Nat.ble pc 17 then (bif Nat.beq pc 14 then some (.if_icmp .ne 8, 17, 22, 0) else bif Nat.beq pc 17 then some (.aload_n 0, 18, 0, 0) else none) else (bif Nat.beq pc 18 then some (.invokevirtual 81, 21, 0, 0) else bif Nat.beq pc 21 then some (.ireturn, 22, 0, 0) else none)) else (bif Nat.ble pc 23 then (bif Nat.beq pc 22 then some (.aload_n 0, 23, 0, 0) else bif Nat.beq pc 23 then some (.getfield 51, 26, 9, 8) else none) else (bif Nat.beq pc 26 then some (.ifCond .eq 10, 29, 36, 0) else bif Nat.beq pc 29 then some (.aload_n 0, 30, 0, 0) else bif Nat.beq pc 30 then some (.getfield 84, 33, 9, 7) else none)))) else (bif Nat.ble pc 45 then (bif Nat.ble pc 38 then (bif Nat.ble pc 36 then (bif Nat.beq pc 33 then some (.goto 4, 36, 37, 0) else bif Nat.beq pc 36 then some (.iconst 0, 37, 0, 0) else none) else (bif Nat.beq pc 37 then some (.istore_n 2, 38, 0, 0) else bif Nat.beq pc 38 then some (.aload_n 0, 39, 0, 0) else none)) else (bif Nat.ble pc 40 then (bif Nat.beq pc 39 then some (.iload_n 1, 40, 0, 0) else bif Nat.beq pc 40 then some (.bipush 85, 42, 0, 0) else none) else (bif Nat.beq pc 42 then some (.if_icmp .lt 7, 45, 49, 0) else bif Nat.beq pc 45 then some (.iconst 1, 46, 0, 0) else none))) else (bif Nat.ble pc 53 then (bif Nat.ble pc 49 then (bif Nat.beq pc 46 then some (.goto 4, 49, 50, 0) else bif Nat.beq pc 49 then some (.iconst 0, 50, 0, 0) else none) else (bif Nat.beq pc 50 then some (.putfield 51, 53, 9, 8) else bif Nat.beq pc 53 then some (.aload_n 0, 54, 0, 0) else none)) else (bif Nat.ble pc 55 then (bif Nat.beq pc 54 then some (.aload_n 0, 55, 0, 0) else bif Nat.beq pc 55 then some (.getfield 51, 58, 9, 8) else none) else (bif Nat.beq pc 58 then some (.ifCond .ne 7, 61, 65, 0) else bif Nat.beq pc 61 then some (.iconst 1, 62, 0, 0) else bif Nat.beq pc 62 then some (.goto 4, 65, 66, 0) else none))))) else (bif Nat.ble pc 90 then (bif Nat.ble pc 78 then (bif Nat.ble pc 70 then (bif Nat.ble pc 66 then (bif Nat.beq pc 65 then some (.iconst 0, 66, 0, 0) else bif Nat.beq pc 66 then some (.putfield 55, 69, 9, 9) else none) else (bif Nat.beq pc 69 then some (.aload_n 0, 70, 0, 0) else bif Nat.beq pc 70 then some (.aload_n 0, 71, 0, 0) else none)) else (bif Nat.ble pc 74 then (bif Nat.beq pc 71 then some (.getfield 51, 74, 9, 8) else bif Nat.beq pc 74 then some (.ifCond .eq 16, 77, 90, 0) else none) else (bif Nat.beq pc 77 then some (.iconst 5, 78, 0, 0) else bif Nat.beq pc 78 then some (.iload_n 2, 79, 0, 0) else none))) else (bif Nat.ble pc 82 then (bif Nat.ble pc 80 then (bif Nat.beq pc 79 then some (.imul, 80, 0, 0) else bif Nat.beq pc 80 then some (.iload_n 1, 81, 0, 0) else none) else (bif Nat.beq pc 81 then some (.iadd, 82, 0, 0) else bif Nat.beq pc 82 then some (.bipush 85, 84, 0, 0) else none)) else (bif Nat.ble pc 85 then (bif Nat.beq pc 84 then some (.isub, 85, 0, 0) else bif Nat.beq pc 85 then some (.iconst 1, 86, 0, 0) else none) else (bif Nat.beq pc 86 then some (.iadd, 87, 0, 0) else bif Nat.beq pc 87 then some (.goto 14, 90, 101, 0) else bif Nat.beq pc 90 then some (.bipush 20, 92, 0, 0) else none)))) else (bif Nat.ble pc 100 then (bif Nat.ble pc 95 then (bif Nat.ble pc 93 then (bif Nat.beq pc 92 then some (.iload_n 2, 93, 0, 0) else bif Nat.beq pc 93 then some (.imul, 94, 0, 0) else none) else (bif Nat.beq pc 94 then some (.iload_n 1, 95, 0, 0) else bif Nat.beq pc 95 then some (.iadd, 96, 0, 0) else none)) else (bif Nat.ble pc 98 then (bif Nat.beq pc 96 then some (.bipush 65, 98, 0, 0) else bif Nat.beq pc 98 then some (.isub, 99, 0, 0) else none) else (bif Nat.beq pc 99 then some (.iconst 1, 100, 0, 0) else bif Nat.beq pc 100 then some (.iadd, 101, 0, 0) else none))) else (bif Nat.ble pc 108 then (bif Nat.ble pc 104 then (bif Nat.beq pc 101 then some (.putfield 84, 104, 9, 7) else bif Nat.beq pc 104 then some (.aload_n 0, 105, 0, 0) else none) else (bif Nat.beq pc 105 then some (.getfield 84, 108, 9, 7) else bif Nat.beq pc 108 then some (.sipush 9999, 111, 0, 0) else none)) else (bif Nat.ble pc 114 then (bif Nat.beq pc 111 then some (.if_icmp .le 8, 114, 119, 0) else bif Nat.beq pc 114 then some (.bipush (-7), 116, 0, 0) else none) else (bif Nat.beq pc 116 then some (.goto 4, 119, 120, 0) else bif Nat.beq pc 119 then some (.iconst 0, 120, 0, 0) else bif Nat.beq pc 120 then some (.ireturn, 121, 0, 0) else none))))))
set_option maxRecDepth 100000 in
set_option maxHeartbeats 4000000 in
theorem ok_Letters_takeLetter : am_CD m_Letters_takeLetter cd_Letters_takeLetter := am_CD_of 121 fl_Letters_ok cn_Letters_ok kl_Letters_ok pl_Letters_ok (by intro pc h; unfold cd_Letters_takeLetter; rw [Nat.ble_eq_true_of_le h]; rfl) (by decide +kernel)
def cd_Letters_addGap (pc : Nat) : Option am_I := bif Nat.ble 24 pc then none else (bif Nat.ble pc 10 then (bif Nat.ble pc 4 then (bif Nat.beq pc 0 then some (.aload_n 0, 1, 0, 0) else bif Nat.beq pc 1 then some (.getfield 51, 4, 9, 8) else bif Nat.beq pc 4 then some (.ifCond .eq 6, 7, 10, 0) else none) else (bif Nat.beq pc 7 then some (.bipush (-8), 9, 0, 0) else bif Nat.beq pc 9 then some (.ireturn, 10, 0, 0) else bif Nat.beq pc 10 then some (.aload_n 0, 11, 0, 0) else none)) else (bif Nat.ble pc 15 then (bif Nat.beq pc 11 then some (.iconst 0, 12, 0, 0) else bif Nat.beq pc 12 then some (.putfield 55, 15, 9, 9) else bif Nat.beq pc 15 then some (.aload_n 0, 16, 0, 0) else none) else (bif Nat.ble pc 19 then (bif Nat.beq pc 16 then some (.getfield 15, 19, 9, 1) else bif Nat.beq pc 19 then some (.invokevirtual 99, 22, 0, 0) else none) else (bif Nat.beq pc 22 then some (.iconst 0, 23, 0, 0) else bif Nat.beq pc 23 then some (.ireturn, 24, 0, 0) else none))))
set_option maxRecDepth 100000 in
set_option maxHeartbeats 4000000 in
theorem ok_Letters_addGap : am_CD m_Letters_addGap cd_Letters_addGap := am_CD_of 24 fl_Letters_ok cn_Letters_ok kl_Letters_ok pl_Letters_ok (by intro pc h; unfold cd_Letters_addGap; rw [Nat.ble_eq_true_of_le h]; rfl) (by decide +kernel)
def cd_Letters_addTag (pc : Nat) : Option am_I := bif Nat.ble 75 pc then none else (bif Nat.ble pc 33 then (bif Nat.ble pc 16 then (bif Nat.ble pc 7 then (bif Nat.ble pc 1 then (bif Nat.beq pc 0 then some (.aload_n 0, 1, 0, 0) else bif Nat.beq pc 1 then some (.getfield 55, 4, 9, 9) else none) else (bif Nat.beq pc 4 then some (.ifCond .ne 6, 7, 10, 0) else bif Nat.beq pc 7 then some (.bipush (-8), 9, 0, 0) else none)) else (bif Nat.ble pc 10 then (bif Nat.beq pc 9 then some (.ireturn, 10, 0, 0) else bif Nat.beq pc 10 then some (.aload_n 0, 11, 0, 0) else none) else (bif Nat.beq pc 11 then some (.getfield 48, 14, 9, 6) else bif Nat.beq pc 14 then some (.bipush 16, 16, 0, 0) else bif Nat.beq pc 16 then some (.if_icmp .lt 6, 19, 22, 0) else none))) else (bif Nat.ble pc 24 then (bif Nat.ble pc 21 then (bif Nat.beq pc 19 then some (.bipush (-7), 21, 0, 0) else bif Nat.beq pc 21 then some (.ireturn, 22, 0, 0) else none) else (bif Nat.beq pc 22 then some (.aload_n 0, 23, 0, 0) else bif Nat.beq pc 23 then some (.iconst 0, 24, 0, 0) else bif Nat.beq pc 24 then some (.putfield 55, 27, 9, 9) else none)) else (bif Nat.ble pc 28 then (bif Nat.beq pc 27 then some (.aload_n 0, 28, 0, 0) else bif Nat.beq pc 28 then some (.dup, 29, 0, 0) else none) else (bif Nat.beq pc 29 then some (.getfield 48, 32, 9, 6) else bif Nat.beq pc 32 then some (.iconst 1, 33, 0, 0) else bif Nat.beq pc 33 then some (.iadd, 34, 0, 0) else none)))) else (bif Nat.ble pc 52 then (bif Nat.ble pc 41 then (bif Nat.ble pc 37 then (bif Nat.beq pc 34 then some (.putfield 48, 37, 9, 6) else bif Nat.beq pc 37 then some (.aload_n 0, 38, 0, 0) else none) else (bif Nat.beq pc 38 then some (.getfield 15, 41, 9, 1) else bif Nat.beq pc 41 then some (.getfield 92, 44, 8, 7) else none)) else (bif Nat.ble pc 47 then (bif Nat.beq pc 44 then some (.ifCond .ne 29, 47, 73, 0) else bif Nat.beq pc 47 then some (.aload_n 0, 48, 0, 0) else none) else (bif Nat.beq pc 48 then some (.getfield 30, 51, 9, 5) else bif Nat.beq pc 51 then some (.aload_n 0, 52, 0, 0) else bif Nat.beq pc 52 then some (.getfield 15, 55, 9, 1) else none))) else (bif Nat.ble pc 65 then (bif Nat.ble pc 58 then (bif Nat.beq pc 55 then some (.getfield 102, 58, 8, 4) else bif Nat.beq pc 58 then some (.aload_n 0, 59, 0, 0) else none) else (bif Nat.beq pc 59 then some (.getfield 15, 62, 9, 1) else bif Nat.beq pc 62 then some (.getfield 102, 65, 8, 4) else bif Nat.beq pc 65 then some (.getfield 45, 68, 4, 4) else none)) else (bif Nat.ble pc 69 then (bif Nat.beq pc 68 then some (.iconst 1, 69, 0, 0) else bif Nat.beq pc 69 then some (.isub, 70, 0, 0) else none) else (bif Nat.beq pc 70 then some (.invokevirtual 105, 73, 0, 0) else bif Nat.beq pc 73 then some (.iconst 0, 74, 0, 0) else bif Nat.beq pc 74 then some (.ireturn, 75, 0, 0) else none)))))
set_option maxRecDepth 100000 in
set_option maxHeartbeats 4000000 in
theorem ok_Letters_addTag : am_CD m_Letters_addTag cd_Letters_addTag := am_CD_of 75 fl_Letters_ok cn_Letters_ok kl_Letters_ok pl_Letters_ok (by intro pc h; unfold cd_Letters_addTag; rw [Nat.ble_eq_true_of_le h]; rfl) (by decide +kernel)
def cd_Letters_stepWithNumber (pc : Nat) : Option am_I := bif Nat.ble 80 pc then none else (bif Nat.ble pc 38 then (bif Nat.ble pc 19 then (bif Nat.ble pc 8 then (bif Nat.ble pc 1 then (bif Nat.beq pc 0 then some (.aload_n 0, 1, 0, 0) else bif Nat.beq pc 1 then some (.getfield 84, 4, 9, 7) else none) else (bif Nat.beq pc 4 then some (.aload_n 0, 5, 0, 0) else bif Nat.beq pc 5 then some (.getfield 34, 8, 9, 3) else bif Nat.beq pc 8 then some (.if_icmp .gt 22, 11, 30, 0) else none)) else (bif Nat.ble pc 12 then (bif Nat.beq pc 11 then some (.aload_n 0, 12, 0, 0) else bif Nat.beq pc 12 then some (.getfield 15, 15, 9, 1) else none) else (bif Nat.beq pc 15 then some (.aload_n 0, 16, 0, 0) else bif Nat.beq pc 16 then some (.getfield 21, 19, 9, 2) else bif Nat.beq pc 19 then some (.aload_n 0, 20, 0, 0) else none))) else (bif Nat.ble pc 26 then (bif Nat.ble pc 23 then (bif Nat.beq pc 20 then some (.getfield 84, 23, 9, 7) else bif Nat.beq pc 23 then some (.iconst 1, 24, 0, 0) else none) else (bif Nat.beq pc 24 then some (.isub, 25, 0, 0) else bif Nat.beq pc 25 then some (.iaload, 26, 0, 0) else bif Nat.beq pc 26 then some (.invokevirtual 87, 29, 0, 0) else none)) else (bif Nat.ble pc 31 then (bif Nat.beq pc 29 then some (.ireturn, 30, 0, 0) else bif Nat.beq pc 30 then some (.aload_n 0, 31, 0, 0) else bif Nat.beq pc 31 then some (.getfield 84, 34, 9, 7) else none) else (bif Nat.beq pc 34 then some (.aload_n 0, 35, 0, 0) else bif Nat.beq pc 35 then some (.getfield 34, 38, 9, 3) else bif Nat.beq pc 38 then some (.isub, 39, 0, 0) else none)))) else (bif Nat.ble pc 54 then (bif Nat.ble pc 43 then (bif Nat.ble pc 40 then (bif Nat.beq pc 39 then some (.iconst 1, 40, 0, 0) else bif Nat.beq pc 40 then some (.isub, 41, 0, 0) else none) else (bif Nat.beq pc 41 then some (.istore_n 1, 42, 0, 0) else bif Nat.beq pc 42 then some (.iload_n 1, 43, 0, 0) else bif Nat.beq pc 43 then some (.aload_n 0, 44, 0, 0) else none)) else (bif Nat.ble pc 50 then (bif Nat.beq pc 44 then some (.getfield 48, 47, 9, 6) else bif Nat.beq pc 47 then some (.if_icmp .lt 6, 50, 53, 0) else bif Nat.beq pc 50 then some (.bipush (-8), 52, 0, 0) else none) else (bif Nat.beq pc 52 then some (.ireturn, 53, 0, 0) else bif Nat.beq pc 53 then some (.aload_n 0, 54, 0, 0) else bif Nat.beq pc 54 then some (.getfield 15, 57, 9, 1) else none))) else (bif Nat.ble pc 67 then (bif Nat.ble pc 60 then (bif Nat.beq pc 57 then some (.getfield 92, 60, 8, 7) else bif Nat.beq pc 60 then some (.ifCond .eq 7, 63, 67, 0) else none) else (bif Nat.beq pc 63 then some (.iconst 0, 64, 0, 0) else bif Nat.beq pc 64 then some (.goto 15, 67, 79, 0) else bif Nat.beq pc 67 then some (.aload_n 0, 68, 0, 0) else none)) else (bif Nat.ble pc 72 then (bif Nat.beq pc 68 then some (.getfield 15, 71, 9, 1) else bif Nat.beq pc 71 then some (.aload_n 0, 72, 0, 0) else bif Nat.beq pc 72 then some (.getfield 30, 75, 9, 5) else none) else (bif Nat.beq pc 75 then some (.iload_n 1, 76, 0, 0) else bif Nat.beq pc 76 then some (.invokevirtual 95, 79, 0, 0) else bif Nat.beq pc 79 then some (.ireturn, 80, 0, 0) else none)))))
set_option maxRecDepth 100000 in
set_option maxHeartbeats 4000000 in
theorem ok_Letters_stepWithNumber : am_CD m_Letters_stepWithNumber cd_Letters_stepWithNumber := am_CD_of 80 fl_Letters_ok cn_Letters_ok kl_Letters_ok pl_Letters_ok (by intro pc h; unfold cd_Letters_stepWithNumber; rw [Nat.ble_eq_true_of_le h]; rfl) (by decide +kernel)
def cd_Reader_isInside (pc : Nat) : Option am_I := bif Nat.ble 23 pc then none else (bif Nat.ble pc 8 then (bif Nat.ble pc 1 then (bif Nat.beq pc 0 then some (.aload_n 0, 1, 0, 0) else bif Nat.beq pc 1 then some (.getfield 69, 4, 6, 6) else none) else (bif Nat.beq pc 4 then some (.ifCond .ne 13, 7, 17, 0) else bif Nat.beq pc 7 then some (.aload_n 0, 8, 0, 0) else bif Nat.beq pc 8 then some (.getfield 26, 11, 6, 3) else none)) else (bif Nat.ble pc 17 then (bif Nat.beq pc 11 then some (.getfield 72, 14, 7, 6) else bif Nat.beq pc 14 then some (.ifCond .le 7, 17, 21, 0) else bif Nat.beq pc 17 then some (.iconst 1, 18, 0, 0) else none) else (bif Nat.beq pc 18 then some (.goto 4, 21, 22, 0) else bif Nat.beq pc 21 then some (.iconst 0, 22, 0, 0) else bif Nat.beq pc 22 then some (.ireturn, 23, 0, 0) else none)))
set_option maxRecDepth 100000 in
set_option maxHeartbeats 4000000 in
theorem ok_Reader_isInside : am_CD m_Reader_isInside cd_Reader_isInside := am_CD_of 23 fl_Reader_ok cn_Reader_ok kl_Reader_ok pl_Reader_ok (by intro pc h; unfold cd_Reader_isInside; rw [Nat.ble_eq_true_of_le h]; rfl) (by decide +kernel)
def cd_L_place (pc : Nat) : Option am_I := bif Nat.ble 5 pc then none else (bif Nat.beq pc 0 then some (.aload_n 0, 1, 0, 0) else bif Nat.beq pc 1 then some (.getfield 46, 4, 0, 5) else bif Nat.beq pc 4 then some (.ireturn, 5, 0, 0) else none)
set_option maxRecDepth 100000 in
set_option maxHeartbeats 4000000 in
theorem ok_L_place : am_CD m_L_place cd_L_place := am_CD_of 5 fl_L_ok cn_L_ok kl_L_ok pl_L_ok (by intro pc h; unfold cd_L_place; rw [Nat.ble_eq_true_of_le h]; rfl) (by decide +kernel)
def cd_L_count (pc : Nat) : Option am_I := bif Nat.ble 109 pc then none else (bif Nat.ble pc 73 then (bif Nat.ble pc 56 then (bif Nat.ble pc 45 then (bif Nat.ble pc 1 then (bif Nat.beq pc 0 then some (.iload_n 1, 1, 0, 0) else bif Nat.beq pc 1 then some (.tableswitch 106 0 6 #[43, 51, 62, 71, 80, 89, 98], 44, 0, 0) else none) else (bif Nat.beq pc 44 then some (.aload_n 0, 45, 0, 0) else bif Nat.beq pc 45 then some (.getfield 19, 48, 0, 1) else none)) else (bif Nat.ble pc 51 then (bif Nat.beq pc 48 then some (.getfield 91, 51, 2, 4) else bif Nat.beq pc 51 then some (.ireturn, 52, 0, 0) else none) else (bif Nat.beq pc 52 then some (.aload_n 0, 53, 0, 0) else bif Nat.beq pc 53 then some (.getfield 19, 56, 0, 1) else bif Nat.beq pc 56 then some (.getfield 94, 59, 2, 5) else none))) else (bif Nat.ble pc 64 then (bif Nat.ble pc 62 then (bif Nat.beq pc 59 then some (.invokestatic 98, 62, 0, 0) else bif Nat.beq pc 62 then some (.ireturn, 63, 0, 0) else none) else (bif Nat.beq pc 63 then some (.aload_n 0, 64, 0, 0) else bif Nat.beq pc 64 then some (.getfield 26, 67, 0, 2) else none)) else (bif Nat.ble pc 68 then (bif Nat.beq pc 67 then some (.iconst 0, 68, 0, 0) else bif Nat.beq pc 68 then some (.invokevirtual 104, 71, 0, 0) else none) else (bif Nat.beq pc 71 then some (.ireturn, 72, 0, 0) else bif Nat.beq pc 72 then some (.aload_n 0, 73, 0, 0) else bif Nat.beq pc 73 then some (.getfield 26, 76, 0, 2) else none)))) else (bif Nat.ble pc 90 then (bif Nat.ble pc 81 then (bif Nat.ble pc 77 then (bif Nat.beq pc 76 then some (.iconst 1, 77, 0, 0) else bif Nat.beq pc 77 then some (.invokevirtual 104, 80, 0, 0) else none) else (bif Nat.beq pc 80 then some (.ireturn, 81, 0, 0) else bif Nat.beq pc 81 then some (.aload_n 0, 82, 0, 0) else none)) else (bif Nat.ble pc 85 then (bif Nat.beq pc 82 then some (.getfield 26, 85, 0, 2) else bif Nat.beq pc 85 then some (.iconst 2, 86, 0, 0) else none) else (bif Nat.beq pc 86 then some (.invokevirtual 104, 89, 0, 0) else bif Nat.beq pc 89 then some (.ireturn, 90, 0, 0) else bif Nat.beq pc 90 then some (.aload_n 0, 91, 0, 0) else none))) else (bif Nat.ble pc 99 then (bif Nat.ble pc 94 then (bif Nat.beq pc 91 then some (.getfield 26, 94, 0, 2) else bif Nat.beq pc 94 then some (.iconst 3, 95, 0, 0) else none) else (bif Nat.beq pc 95 then some (.invokevirtual 104, 98, 0, 0) else bif Nat.beq pc 98 then some (.ireturn, 99, 0, 0) else bif Nat.beq pc 99 then some (.aload_n 0, 100, 0, 0) else none)) else (bif Nat.ble pc 103 then (bif Nat.beq pc 100 then some (.getfield 33, 103, 0, 3) else bif Nat.beq pc 103 then some (.invokevirtual 108, 106, 0, 0) else none) else (bif Nat.beq pc 106 then some (.ireturn, 107, 0, 0) else bif Nat.beq pc 107 then some (.iconst (-1), 108, 0, 0) else bif Nat.beq pc 108 then some (.ireturn, 109, 0, 0) else none)))))
set_option maxRecDepth 100000 in
set_option maxHeartbeats 4000000 in
theorem ok_L_count : am_CD m_L_count cd_L_count := am_CD_of 109 fl_L_ok cn_L_ok kl_L_ok pl_L_ok (by intro pc h; unfold cd_L_count; rw [Nat.ble_eq_true_of_le h]; rfl) (by decide +kernel)
def cd_Statements_countKind (pc : Nat) : Option am_I := bif Nat.ble 36 pc then none else (bif Nat.ble pc 15 then (bif Nat.ble pc 4 then (bif Nat.ble pc 1 then (bif Nat.beq pc 0 then some (.iconst 0, 1, 0, 0) else bif Nat.beq pc 1 then some (.istore_n 2, 2, 0, 0) else none) else (bif Nat.beq pc 2 then some (.iconst 0, 3, 0, 0) else bif Nat.beq pc 3 then some (.istore_n 3, 4, 0, 0) else bif Nat.beq pc 4 then some (.iload_n 3, 5, 0, 0) else none)) else (bif Nat.ble pc 6 then (bif Nat.beq pc 5 then some (.aload_n 0, 6, 0, 0) else bif Nat.beq pc 6 then some (.getfield 24, 9, 3, 2) else none) else (bif Nat.beq pc 9 then some (.getfield 34, 12, 4, 4) else bif Nat.beq pc 12 then some (.if_icmp .ge 22, 15, 34, 0) else bif Nat.beq pc 15 then some (.aload_n 0, 16, 0, 0) else none))) else (bif Nat.ble pc 22 then (bif Nat.ble pc 19 then (bif Nat.beq pc 16 then some (.getfield 15, 19, 3, 1) else bif Nat.beq pc 19 then some (.iload_n 3, 20, 0, 0) else none) else (bif Nat.beq pc 20 then some (.iaload, 21, 0, 0) else bif Nat.beq pc 21 then some (.iload_n 1, 22, 0, 0) else bif Nat.beq pc 22 then some (.if_icmp .ne 6, 25, 28, 0) else none)) else (bif Nat.ble pc 28 then (bif Nat.beq pc 25 then some (.iinc 2 1, 28, 0, 0) else bif Nat.beq pc 28 then some (.iinc 3 1, 31, 0, 0) else none) else (bif Nat.beq pc 31 then some (.goto (-27), 34, 4, 0) else bif Nat.beq pc 34 then some (.iload_n 2, 35, 0, 0) else bif Nat.beq pc 35 then some (.ireturn, 36, 0, 0) else none))))
set_option maxRecDepth 100000 in
set_option maxHeartbeats 4000000 in
theorem ok_Statements_countKind : am_CD m_Statements_countKind cd_Statements_countKind := am_CD_of 36 fl_Statements_ok cn_Statements_ok kl_Statements_ok pl_Statements_ok (by intro pc h; unfold cd_Statements_countKind; rw [Nat.ble_eq_true_of_le h]; rfl) (by decide +kernel)
def cd_Assertions_countIncomplete (pc : Nat) : Option am_I := bif Nat.ble 32 pc then none else (bif Nat.ble pc 12 then (bif Nat.ble pc 3 then (bif Nat.ble pc 1 then (bif Nat.beq pc 0 then some (.iconst 0, 1, 0, 0) else bif Nat.beq pc 1 then some (.istore_n 1, 2, 0, 0) else none) else (bif Nat.beq pc 2 then some (.iconst 0, 3, 0, 0) else bif Nat.beq pc 3 then some (.istore_n 2, 4, 0, 0) else none)) else (bif Nat.ble pc 5 then (bif Nat.beq pc 4 then some (.iload_n 2, 5, 0, 0) else bif Nat.beq pc 5 then some (.aload_n 0, 6, 0, 0) else none) else (bif Nat.beq pc 6 then some (.getfield 39, 9, 5, 8) else bif Nat.beq pc 9 then some (.if_icmp .ge 21, 12, 30, 0) else bif Nat.beq pc 12 then some (.aload_n 0, 13, 0, 0) else none))) else (bif Nat.ble pc 18 then (bif Nat.ble pc 16 then (bif Nat.beq pc 13 then some (.getfield 32, 16, 5, 6) else bif Nat.beq pc 16 then some (.iload_n 2, 17, 0, 0) else none) else (bif Nat.beq pc 17 then some (.baload, 18, 0, 0) else bif Nat.beq pc 18 then some (.ifCond .eq 6, 21, 24, 0) else none)) else (bif Nat.ble pc 24 then (bif Nat.beq pc 21 then some (.iinc 1 1, 24, 0, 0) else bif Nat.beq pc 24 then some (.iinc 2 1, 27, 0, 0) else none) else (bif Nat.beq pc 27 then some (.goto (-23), 30, 4, 0) else bif Nat.beq pc 30 then some (.iload_n 1, 31, 0, 0) else bif Nat.beq pc 31 then some (.ireturn, 32, 0, 0) else none))))
set_option maxRecDepth 100000 in
set_option maxHeartbeats 4000000 in
theorem ok_Assertions_countIncomplete : am_CD m_Assertions_countIncomplete cd_Assertions_countIncomplete := am_CD_of 32 fl_Assertions_ok cn_Assertions_ok kl_Assertions_ok pl_Assertions_ok (by intro pc h; unfold cd_Assertions_countIncomplete; rw [Nat.ble_eq_true_of_le h]; rfl) (by decide +kernel)
def cd_L_label (pc : Nat) : Option am_I := bif Nat.ble 35 pc then none else (bif Nat.ble pc 15 then (bif Nat.ble pc 5 then (bif Nat.ble pc 1 then (bif Nat.beq pc 0 then some (.aload_n 0, 1, 0, 0) else bif Nat.beq pc 1 then some (.getfield 33, 4, 0, 3) else none) else (bif Nat.beq pc 4 then some (.iload_n 1, 5, 0, 0) else bif Nat.beq pc 5 then some (.invokevirtual 111, 8, 0, 0) else none)) else (bif Nat.ble pc 11 then (bif Nat.beq pc 8 then some (.ifCond .eq 23, 11, 31, 0) else bif Nat.beq pc 11 then some (.aload_n 0, 12, 0, 0) else none) else (bif Nat.beq pc 12 then some (.getfield 26, 15, 0, 2) else bif Nat.beq pc 15 then some (.getfield 115, 18, 3, 0) else none))) else (bif Nat.ble pc 25 then (bif Nat.ble pc 19 then (bif Nat.beq pc 18 then some (.aload_n 0, 19, 0, 0) else bif Nat.beq pc 19 then some (.getfield 33, 22, 0, 3) else none) else (bif Nat.beq pc 22 then some (.getfield 119, 25, 5, 0) else bif Nat.beq pc 25 then some (.iload_n 1, 26, 0, 0) else none)) else (bif Nat.ble pc 27 then (bif Nat.beq pc 26 then some (.iaload, 27, 0, 0) else bif Nat.beq pc 27 then some (.laload, 28, 0, 0) else none) else (bif Nat.beq pc 28 then some (.goto 6, 31, 34, 0) else bif Nat.beq pc 31 then some (.ldc2_w 122, 34, 18446744073709551615, 0) else bif Nat.beq pc 34 then some (.lreturn, 35, 0, 0) else none))))
set_option maxRecDepth 100000 in
set_option maxHeartbeats 4000000 in
theorem ok_L_label : am_CD m_L_label cd_L_label := am_CD_of 35 fl_L_ok cn_L_ok kl_L_ok pl_L_ok (by intro pc h; unfold cd_L_label; rw [Nat.ble_eq_true_of_le h]; rfl) (by decide +kernel)
end
section
def cd_Assertions_has (pc : Nat) : Option am_I := bif Nat.ble 18 pc then none else (bif Nat.ble pc 6 then (bif Nat.ble pc 1 then (bif Nat.beq pc 0 then some (.iload_n 1, 1, 0, 0) else bif Nat.beq pc 1 then some (.ifCond .lt 15, 4, 16, 0) else none) else (bif Nat.beq pc 4 then some (.iload_n 1, 5, 0, 0) else bif Nat.beq pc 5 then some (.aload_n 0, 6, 0, 0) else bif Nat.beq pc 6 then some (.getfield 39, 9, 5, 8) else none)) else (bif Nat.ble pc 12 then (bif Nat.beq pc 9 then some (.if_icmp .ge 7, 12, 16, 0) else bif Nat.beq pc 12 then some (.iconst 1, 13, 0, 0) else none) else (bif Nat.beq pc 13 then some (.goto 4, 16, 17, 0) else bif Nat.beq pc 16 then some (.iconst 0, 17, 0, 0) else bif Nat.beq pc 17 then some (.ireturn, 18, 0, 0) else none)))
set_option maxRecDepth 100000 in
set_option maxHeartbeats 4000000 in
theorem ok_Assertions_has : am_CD m_Assertions_has cd_Assertions_has := am_CD_of 18 fl_Assertions_ok cn_Assertions_ok kl_Assertions_ok pl_Assertions_ok (by intro pc h; unfold cd_Assertions_has; rw [Nat.ble_eq_true_of_le h]; rfl) (by decide +kernel)
def cd_L_symbol (pc : Nat) : Option am_I := bif Nat.ble 70 pc then none else (bif Nat.ble pc 31 then (bif Nat.ble pc 16 then (bif Nat.ble pc 5 then (bif Nat.ble pc 1 then (bif Nat.beq pc 0 then some (.aload_n 0, 1, 0, 0) else bif Nat.beq pc 1 then some (.getfield 33, 4, 0, 3) else none) else (bif Nat.beq pc 4 then some (.iload_n 1, 5, 0, 0) else bif Nat.beq pc 5 then some (.invokevirtual 111, 8, 0, 0) else none)) else (bif Nat.ble pc 11 then (bif Nat.beq pc 8 then some (.ifCond .ne 7, 11, 15, 0) else bif Nat.beq pc 11 then some (.ldc2_w 122, 14, 18446744073709551615, 0) else none) else (bif Nat.beq pc 14 then some (.lreturn, 15, 0, 0) else bif Nat.beq pc 15 then some (.aload_n 0, 16, 0, 0) else bif Nat.beq pc 16 then some (.getfield 33, 19, 0, 3) else none))) else (bif Nat.ble pc 24 then (bif Nat.ble pc 22 then (bif Nat.beq pc 19 then some (.getfield 119, 22, 5, 0) else bif Nat.beq pc 22 then some (.iload_n 1, 23, 0, 0) else none) else (bif Nat.beq pc 23 then some (.iaload, 24, 0, 0) else bif Nat.beq pc 24 then some (.istore_n 3, 25, 0, 0) else none)) else (bif Nat.ble pc 26 then (bif Nat.beq pc 25 then some (.iload_n 2, 26, 0, 0) else bif Nat.beq pc 26 then some (.ifCond .lt 19, 29, 45, 0) else none) else (bif Nat.beq pc 29 then some (.iload_n 2, 30, 0, 0) else bif Nat.beq pc 30 then some (.aload_n 0, 31, 0, 0) else bif Nat.beq pc 31 then some (.getfield 26, 34, 0, 2) else none)))) else (bif Nat.ble pc 50 then (bif Nat.ble pc 41 then (bif Nat.ble pc 37 then (bif Nat.beq pc 34 then some (.getfield 124, 37, 3, 2) else bif Nat.beq pc 37 then some (.getfield 128, 40, 4, 2) else none) else (bif Nat.beq pc 40 then some (.iload_n 3, 41, 0, 0) else bif Nat.beq pc 41 then some (.iaload, 42, 0, 0) else none)) else (bif Nat.ble pc 45 then (bif Nat.beq pc 42 then some (.if_icmp .lt 7, 45, 49, 0) else bif Nat.beq pc 45 then some (.ldc2_w 122, 48, 18446744073709551615, 0) else none) else (bif Nat.beq pc 48 then some (.lreturn, 49, 0, 0) else bif Nat.beq pc 49 then some (.aload_n 0, 50, 0, 0) else bif Nat.beq pc 50 then some (.getfield 19, 53, 0, 1) else none))) else (bif Nat.ble pc 60 then (bif Nat.ble pc 56 then (bif Nat.beq pc 53 then some (.getfield 133, 56, 2, 0) else bif Nat.beq pc 56 then some (.aload_n 0, 57, 0, 0) else none) else (bif Nat.beq pc 57 then some (.getfield 26, 60, 0, 2) else bif Nat.beq pc 60 then some (.getfield 124, 63, 3, 2) else none)) else (bif Nat.ble pc 64 then (bif Nat.beq pc 63 then some (.iload_n 3, 64, 0, 0) else bif Nat.beq pc 64 then some (.iload_n 2, 65, 0, 0) else none) else (bif Nat.beq pc 65 then some (.invokevirtual 136, 68, 0, 0) else bif Nat.beq pc 68 then some (.laload, 69, 0, 0) else bif Nat.beq pc 69 then some (.lreturn, 70, 0, 0) else none)))))
set_option maxRecDepth 100000 in
set_option maxHeartbeats 4000000 in
theorem ok_L_symbol : am_CD m_L_symbol cd_L_symbol := am_CD_of 70 fl_L_ok cn_L_ok kl_L_ok pl_L_ok (by intro pc h; unfold cd_L_symbol; rw [Nat.ble_eq_true_of_le h]; rfl) (by decide +kernel)
def cd_L_hypothesis (pc : Nat) : Option am_I := bif Nat.ble 53 pc then none else (bif Nat.ble pc 26 then (bif Nat.ble pc 11 then (bif Nat.ble pc 4 then (bif Nat.beq pc 0 then some (.aload_n 0, 1, 0, 0) else bif Nat.beq pc 1 then some (.getfield 33, 4, 0, 3) else bif Nat.beq pc 4 then some (.iload_n 1, 5, 0, 0) else none) else (bif Nat.beq pc 5 then some (.invokevirtual 111, 8, 0, 0) else bif Nat.beq pc 8 then some (.ifCond .ne 7, 11, 15, 0) else bif Nat.beq pc 11 then some (.ldc2_w 122, 14, 18446744073709551615, 0) else none)) else (bif Nat.ble pc 16 then (bif Nat.beq pc 14 then some (.lreturn, 15, 0, 0) else bif Nat.beq pc 15 then some (.aload_n 0, 16, 0, 0) else bif Nat.beq pc 16 then some (.getfield 26, 19, 0, 2) else none) else (bif Nat.ble pc 20 then (bif Nat.beq pc 19 then some (.aload_n 0, 20, 0, 0) else bif Nat.beq pc 20 then some (.getfield 33, 23, 0, 3) else none) else (bif Nat.beq pc 23 then some (.getfield 119, 26, 5, 0) else bif Nat.beq pc 26 then some (.iload_n 1, 27, 0, 0) else none)))) else (bif Nat.ble pc 37 then (bif Nat.ble pc 29 then (bif Nat.beq pc 27 then some (.iaload, 28, 0, 0) else bif Nat.beq pc 28 then some (.iload_n 2, 29, 0, 0) else bif Nat.beq pc 29 then some (.invokevirtual 140, 32, 0, 0) else none) else (bif Nat.ble pc 33 then (bif Nat.beq pc 32 then some (.istore_n 3, 33, 0, 0) else bif Nat.beq pc 33 then some (.iload_n 3, 34, 0, 0) else none) else (bif Nat.beq pc 34 then some (.ifCond .ge 9, 37, 43, 0) else bif Nat.beq pc 37 then some (.ldc2_w 122, 40, 18446744073709551615, 0) else none))) else (bif Nat.ble pc 44 then (bif Nat.beq pc 40 then some (.goto 12, 43, 52, 0) else bif Nat.beq pc 43 then some (.aload_n 0, 44, 0, 0) else bif Nat.beq pc 44 then some (.getfield 26, 47, 0, 2) else none) else (bif Nat.ble pc 50 then (bif Nat.beq pc 47 then some (.getfield 115, 50, 3, 0) else bif Nat.beq pc 50 then some (.iload_n 3, 51, 0, 0) else none) else (bif Nat.beq pc 51 then some (.laload, 52, 0, 0) else bif Nat.beq pc 52 then some (.lreturn, 53, 0, 0) else none)))))
set_option maxRecDepth 100000 in
set_option maxHeartbeats 4000000 in
theorem ok_L_hypothesis : am_CD m_L_hypothesis cd_L_hypothesis := am_CD_of 53 fl_L_ok cn_L_ok kl_L_ok pl_L_ok (by intro pc h; unfold cd_L_hypothesis; rw [Nat.ble_eq_true_of_le h]; rfl) (by decide +kernel)
def cd_Statements_findMandatory (pc : Nat) : Option am_I := bif Nat.ble 40 pc then none else (bif Nat.ble pc 15 then (bif Nat.ble pc 5 then (bif Nat.ble pc 1 then (bif Nat.beq pc 0 then some (.iconst 0, 1, 0, 0) else bif Nat.beq pc 1 then some (.istore_n 3, 2, 0, 0) else none) else (bif Nat.beq pc 2 then some (.iconst 0, 3, 0, 0) else bif Nat.beq pc 3 then some (.istore 4, 5, 0, 0) else bif Nat.beq pc 5 then some (.iload 4, 7, 0, 0) else none)) else (bif Nat.ble pc 11 then (bif Nat.beq pc 7 then some (.iload_n 1, 8, 0, 0) else bif Nat.beq pc 8 then some (.if_icmp .ge 30, 11, 38, 0) else bif Nat.beq pc 11 then some (.aload_n 0, 12, 0, 0) else none) else (bif Nat.beq pc 12 then some (.iload_n 1, 13, 0, 0) else bif Nat.beq pc 13 then some (.iload 4, 15, 0, 0) else bif Nat.beq pc 15 then some (.invokevirtual 41, 18, 0, 0) else none))) else (bif Nat.ble pc 26 then (bif Nat.ble pc 21 then (bif Nat.beq pc 18 then some (.ifCond .eq 14, 21, 32, 0) else bif Nat.beq pc 21 then some (.iload_n 3, 22, 0, 0) else none) else (bif Nat.beq pc 22 then some (.iload_n 2, 23, 0, 0) else bif Nat.beq pc 23 then some (.if_icmp .ne 6, 26, 29, 0) else bif Nat.beq pc 26 then some (.iload 4, 28, 0, 0) else none)) else (bif Nat.ble pc 32 then (bif Nat.beq pc 28 then some (.ireturn, 29, 0, 0) else bif Nat.beq pc 29 then some (.iinc 3 1, 32, 0, 0) else bif Nat.beq pc 32 then some (.iinc 4 1, 35, 0, 0) else none) else (bif Nat.beq pc 35 then some (.goto (-30), 38, 5, 0) else bif Nat.beq pc 38 then some (.iconst (-1), 39, 0, 0) else bif Nat.beq pc 39 then some (.ireturn, 40, 0, 0) else none))))
set_option maxRecDepth 100000 in
set_option maxHeartbeats 4000000 in
theorem ok_Statements_findMandatory : am_CD m_Statements_findMandatory cd_Statements_findMandatory := am_CD_of 40 fl_Statements_ok cn_Statements_ok kl_Statements_ok pl_Statements_ok (by intro pc h; unfold cd_Statements_findMandatory; rw [Nat.ble_eq_true_of_le h]; rfl) (by decide +kernel)
def cd_L_pairs (pc : Nat) : Option am_I := bif Nat.ble 25 pc then none else (bif Nat.ble pc 11 then (bif Nat.ble pc 4 then (bif Nat.beq pc 0 then some (.aload_n 0, 1, 0, 0) else bif Nat.beq pc 1 then some (.getfield 33, 4, 0, 3) else bif Nat.beq pc 4 then some (.iload_n 1, 5, 0, 0) else none) else (bif Nat.beq pc 5 then some (.invokevirtual 111, 8, 0, 0) else bif Nat.beq pc 8 then some (.ifCond .eq 15, 11, 23, 0) else bif Nat.beq pc 11 then some (.aload_n 0, 12, 0, 0) else none)) else (bif Nat.ble pc 18 then (bif Nat.beq pc 12 then some (.getfield 33, 15, 0, 3) else bif Nat.beq pc 15 then some (.getfield 143, 18, 5, 1) else bif Nat.beq pc 18 then some (.iload_n 1, 19, 0, 0) else none) else (bif Nat.ble pc 20 then (bif Nat.beq pc 19 then some (.iaload, 20, 0, 0) else bif Nat.beq pc 20 then some (.goto 4, 23, 24, 0) else none) else (bif Nat.beq pc 23 then some (.iconst (-1), 24, 0, 0) else bif Nat.beq pc 24 then some (.ireturn, 25, 0, 0) else none))))
set_option maxRecDepth 100000 in
set_option maxHeartbeats 4000000 in
theorem ok_L_pairs : am_CD m_L_pairs cd_L_pairs := am_CD_of 25 fl_L_ok cn_L_ok kl_L_ok pl_L_ok (by intro pc h; unfold cd_L_pairs; rw [Nat.ble_eq_true_of_le h]; rfl) (by decide +kernel)
def cd_L_apart (pc : Nat) : Option am_I := bif Nat.ble 110 pc then none else (bif Nat.ble pc 54 then (bif Nat.ble pc 25 then (bif Nat.ble pc 12 then (bif Nat.ble pc 4 then (bif Nat.beq pc 0 then some (.aload_n 0, 1, 0, 0) else bif Nat.beq pc 1 then some (.getfield 33, 4, 0, 3) else bif Nat.beq pc 4 then some (.iload_n 1, 5, 0, 0) else none) else (bif Nat.ble pc 8 then (bif Nat.beq pc 5 then some (.invokevirtual 111, 8, 0, 0) else bif Nat.beq pc 8 then some (.ifCond .ne 5, 11, 13, 0) else none) else (bif Nat.beq pc 11 then some (.iconst 0, 12, 0, 0) else bif Nat.beq pc 12 then some (.ireturn, 13, 0, 0) else none))) else (bif Nat.ble pc 16 then (bif Nat.beq pc 13 then some (.iconst 0, 14, 0, 0) else bif Nat.beq pc 14 then some (.istore 6, 16, 0, 0) else bif Nat.beq pc 16 then some (.iload 6, 18, 0, 0) else none) else (bif Nat.ble pc 19 then (bif Nat.beq pc 18 then some (.aload_n 0, 19, 0, 0) else bif Nat.beq pc 19 then some (.getfield 33, 22, 0, 3) else none) else (bif Nat.beq pc 22 then some (.getfield 143, 25, 5, 1) else bif Nat.beq pc 25 then some (.iload_n 1, 26, 0, 0) else none)))) else (bif Nat.ble pc 38 then (bif Nat.ble pc 30 then (bif Nat.beq pc 26 then some (.iaload, 27, 0, 0) else bif Nat.beq pc 27 then some (.if_icmp .ge 81, 30, 108, 0) else bif Nat.beq pc 30 then some (.aload_n 0, 31, 0, 0) else none) else (bif Nat.ble pc 34 then (bif Nat.beq pc 31 then some (.getfield 19, 34, 0, 1) else bif Nat.beq pc 34 then some (.getfield 133, 37, 2, 0) else none) else (bif Nat.beq pc 37 then some (.aload_n 0, 38, 0, 0) else bif Nat.beq pc 38 then some (.getfield 33, 41, 0, 3) else none))) else (bif Nat.ble pc 47 then (bif Nat.ble pc 42 then (bif Nat.beq pc 41 then some (.iload_n 1, 42, 0, 0) else bif Nat.beq pc 42 then some (.iload 6, 44, 0, 0) else none) else (bif Nat.beq pc 44 then some (.invokevirtual 146, 47, 0, 0) else bif Nat.beq pc 47 then some (.laload, 48, 0, 0) else none)) else (bif Nat.ble pc 50 then (bif Nat.beq pc 48 then some (.lstore 7, 50, 0, 0) else bif Nat.beq pc 50 then some (.aload_n 0, 51, 0, 0) else none) else (bif Nat.beq pc 51 then some (.getfield 19, 54, 0, 1) else bif Nat.beq pc 54 then some (.getfield 133, 57, 2, 0) else none))))) else (bif Nat.ble pc 81 then (bif Nat.ble pc 68 then (bif Nat.ble pc 61 then (bif Nat.beq pc 57 then some (.aload_n 0, 58, 0, 0) else bif Nat.beq pc 58 then some (.getfield 33, 61, 0, 3) else bif Nat.beq pc 61 then some (.iload_n 1, 62, 0, 0) else none) else (bif Nat.ble pc 64 then (bif Nat.beq pc 62 then some (.iload 6, 64, 0, 0) else bif Nat.beq pc 64 then some (.invokevirtual 149, 67, 0, 0) else none) else (bif Nat.beq pc 67 then some (.laload, 68, 0, 0) else bif Nat.beq pc 68 then some (.lstore 9, 70, 0, 0) else none))) else (bif Nat.ble pc 73 then (bif Nat.beq pc 70 then some (.lload 7, 72, 0, 0) else bif Nat.beq pc 72 then some (.lload_n 2, 73, 0, 0) else bif Nat.beq pc 73 then some (.lcmp, 74, 0, 0) else none) else (bif Nat.ble pc 77 then (bif Nat.beq pc 74 then some (.ifCond .ne 11, 77, 85, 0) else bif Nat.beq pc 77 then some (.lload 9, 79, 0, 0) else none) else (bif Nat.beq pc 79 then some (.lload 4, 81, 0, 0) else bif Nat.beq pc 81 then some (.lcmp, 82, 0, 0) else none)))) else (bif Nat.ble pc 95 then (bif Nat.ble pc 87 then (bif Nat.beq pc 82 then some (.ifCond .eq 18, 85, 100, 0) else bif Nat.beq pc 85 then some (.lload 7, 87, 0, 0) else bif Nat.beq pc 87 then some (.lload 4, 89, 0, 0) else none) else (bif Nat.ble pc 90 then (bif Nat.beq pc 89 then some (.lcmp, 90, 0, 0) else bif Nat.beq pc 90 then some (.ifCond .ne 12, 93, 102, 0) else none) else (bif Nat.beq pc 93 then some (.lload 9, 95, 0, 0) else bif Nat.beq pc 95 then some (.lload_n 2, 96, 0, 0) else none))) else (bif Nat.ble pc 101 then (bif Nat.ble pc 97 then (bif Nat.beq pc 96 then some (.lcmp, 97, 0, 0) else bif Nat.beq pc 97 then some (.ifCond .ne 5, 100, 102, 0) else none) else (bif Nat.beq pc 100 then some (.iconst 1, 101, 0, 0) else bif Nat.beq pc 101 then some (.ireturn, 102, 0, 0) else none)) else (bif Nat.ble pc 105 then (bif Nat.beq pc 102 then some (.iinc 6 1, 105, 0, 0) else bif Nat.beq pc 105 then some (.goto (-89), 108, 16, 0) else none) else (bif Nat.beq pc 108 then some (.iconst 0, 109, 0, 0) else bif Nat.beq pc 109 then some (.ireturn, 110, 0, 0) else none))))))
set_option maxRecDepth 100000 in
set_option maxHeartbeats 4000000 in
theorem ok_L_apart : am_CD m_L_apart cd_L_apart := am_CD_of 110 fl_L_ok cn_L_ok kl_L_ok pl_L_ok (by intro pc h; unfold cd_L_apart; rw [Nat.ble_eq_true_of_le h]; rfl) (by decide +kernel)
def cd_L_steps (pc : Nat) : Option am_I := bif Nat.ble 25 pc then none else (bif Nat.ble pc 11 then (bif Nat.ble pc 4 then (bif Nat.beq pc 0 then some (.aload_n 0, 1, 0, 0) else bif Nat.beq pc 1 then some (.getfield 33, 4, 0, 3) else bif Nat.beq pc 4 then some (.iload_n 1, 5, 0, 0) else none) else (bif Nat.beq pc 5 then some (.invokevirtual 111, 8, 0, 0) else bif Nat.beq pc 8 then some (.ifCond .eq 15, 11, 23, 0) else bif Nat.beq pc 11 then some (.aload_n 0, 12, 0, 0) else none)) else (bif Nat.ble pc 18 then (bif Nat.beq pc 12 then some (.getfield 33, 15, 0, 3) else bif Nat.beq pc 15 then some (.getfield 152, 18, 5, 3) else bif Nat.beq pc 18 then some (.iload_n 1, 19, 0, 0) else none) else (bif Nat.ble pc 20 then (bif Nat.beq pc 19 then some (.iaload, 20, 0, 0) else bif Nat.beq pc 20 then some (.goto 4, 23, 24, 0) else none) else (bif Nat.beq pc 23 then some (.iconst (-1), 24, 0, 0) else bif Nat.beq pc 24 then some (.ireturn, 25, 0, 0) else none))))
set_option maxRecDepth 100000 in
set_option maxHeartbeats 4000000 in
theorem ok_L_steps : am_CD m_L_steps cd_L_steps := am_CD_of 25 fl_L_ok cn_L_ok kl_L_ok pl_L_ok (by intro pc h; unfold cd_L_steps; rw [Nat.ble_eq_true_of_le h]; rfl) (by decide +kernel)
def cd_L_depth (pc : Nat) : Option am_I := bif Nat.ble 25 pc then none else (bif Nat.ble pc 11 then (bif Nat.ble pc 4 then (bif Nat.beq pc 0 then some (.aload_n 0, 1, 0, 0) else bif Nat.beq pc 1 then some (.getfield 33, 4, 0, 3) else bif Nat.beq pc 4 then some (.iload_n 1, 5, 0, 0) else none) else (bif Nat.beq pc 5 then some (.invokevirtual 111, 8, 0, 0) else bif Nat.beq pc 8 then some (.ifCond .eq 15, 11, 23, 0) else bif Nat.beq pc 11 then some (.aload_n 0, 12, 0, 0) else none)) else (bif Nat.ble pc 18 then (bif Nat.beq pc 12 then some (.getfield 33, 15, 0, 3) else bif Nat.beq pc 15 then some (.getfield 155, 18, 5, 4) else bif Nat.beq pc 18 then some (.iload_n 1, 19, 0, 0) else none) else (bif Nat.ble pc 20 then (bif Nat.beq pc 19 then some (.iaload, 20, 0, 0) else bif Nat.beq pc 20 then some (.goto 4, 23, 24, 0) else none) else (bif Nat.beq pc 23 then some (.iconst (-1), 24, 0, 0) else bif Nat.beq pc 24 then some (.ireturn, 25, 0, 0) else none))))
set_option maxRecDepth 100000 in
set_option maxHeartbeats 4000000 in
theorem ok_L_depth : am_CD m_L_depth cd_L_depth := am_CD_of 25 fl_L_ok cn_L_ok kl_L_ok pl_L_ok (by intro pc h; unfold cd_L_depth; rw [Nat.ble_eq_true_of_le h]; rfl) (by decide +kernel)
def cd_L_uses (pc : Nat) : Option am_I := bif Nat.ble 38 pc then none else (bif Nat.ble pc 17 then (bif Nat.ble pc 8 then (bif Nat.ble pc 1 then (bif Nat.beq pc 0 then some (.aload_n 0, 1, 0, 0) else bif Nat.beq pc 1 then some (.getfield 33, 4, 0, 3) else none) else (bif Nat.beq pc 4 then some (.iload_n 1, 5, 0, 0) else bif Nat.beq pc 5 then some (.invokevirtual 111, 8, 0, 0) else bif Nat.beq pc 8 then some (.ifCond .ne 5, 11, 13, 0) else none)) else (bif Nat.ble pc 12 then (bif Nat.beq pc 11 then some (.iconst (-1), 12, 0, 0) else bif Nat.beq pc 12 then some (.ireturn, 13, 0, 0) else none) else (bif Nat.beq pc 13 then some (.aload_n 0, 14, 0, 0) else bif Nat.beq pc 14 then some (.getfield 33, 17, 0, 3) else bif Nat.beq pc 17 then some (.iload_n 2, 18, 0, 0) else none))) else (bif Nat.ble pc 28 then (bif Nat.ble pc 21 then (bif Nat.beq pc 18 then some (.invokevirtual 111, 21, 0, 0) else bif Nat.beq pc 21 then some (.ifCond .eq 15, 24, 36, 0) else none) else (bif Nat.beq pc 24 then some (.aload_n 0, 25, 0, 0) else bif Nat.beq pc 25 then some (.getfield 33, 28, 0, 3) else bif Nat.beq pc 28 then some (.iload_n 1, 29, 0, 0) else none)) else (bif Nat.ble pc 30 then (bif Nat.beq pc 29 then some (.iload_n 2, 30, 0, 0) else bif Nat.beq pc 30 then some (.invokevirtual 158, 33, 0, 0) else none) else (bif Nat.beq pc 33 then some (.goto 4, 36, 37, 0) else bif Nat.beq pc 36 then some (.iconst 0, 37, 0, 0) else bif Nat.beq pc 37 then some (.ireturn, 38, 0, 0) else none))))
set_option maxRecDepth 100000 in
set_option maxHeartbeats 4000000 in
theorem ok_L_uses : am_CD m_L_uses cd_L_uses := am_CD_of 38 fl_L_ok cn_L_ok kl_L_ok pl_L_ok (by intro pc h; unfold cd_L_uses; rw [Nat.ble_eq_true_of_le h]; rfl) (by decide +kernel)
def cd_Assertions_countUses (pc : Nat) : Option am_I := bif Nat.ble 12 pc then none else (bif Nat.ble pc 5 then (bif Nat.ble pc 1 then (bif Nat.beq pc 0 then some (.aload_n 0, 1, 0, 0) else bif Nat.beq pc 1 then some (.getfield 29, 4, 5, 5) else none) else (bif Nat.beq pc 4 then some (.iload_n 1, 5, 0, 0) else bif Nat.beq pc 5 then some (.bipush 40, 7, 0, 0) else none)) else (bif Nat.ble pc 8 then (bif Nat.beq pc 7 then some (.imul, 8, 0, 0) else bif Nat.beq pc 8 then some (.iload_n 2, 9, 0, 0) else none) else (bif Nat.beq pc 9 then some (.iadd, 10, 0, 0) else bif Nat.beq pc 10 then some (.iaload, 11, 0, 0) else bif Nat.beq pc 11 then some (.ireturn, 12, 0, 0) else none)))
set_option maxRecDepth 100000 in
set_option maxHeartbeats 4000000 in
theorem ok_Assertions_countUses : am_CD m_Assertions_countUses cd_Assertions_countUses := am_CD_of 12 fl_Assertions_ok cn_Assertions_ok kl_Assertions_ok pl_Assertions_ok (by intro pc h; unfold cd_Assertions_countUses; rw [Nat.ble_eq_true_of_le h]; rfl) (by decide +kernel)
def cd_L_proved (pc : Nat) : Option am_I := bif Nat.ble 29 pc then none else (bif Nat.ble pc 12 then (bif Nat.ble pc 4 then (bif Nat.beq pc 0 then some (.aload_n 0, 1, 0, 0) else bif Nat.beq pc 1 then some (.getfield 33, 4, 0, 3) else bif Nat.beq pc 4 then some (.iload_n 1, 5, 0, 0) else none) else (bif Nat.ble pc 8 then (bif Nat.beq pc 5 then some (.invokevirtual 111, 8, 0, 0) else bif Nat.beq pc 8 then some (.ifCond .eq 19, 11, 27, 0) else none) else (bif Nat.beq pc 11 then some (.aload_n 0, 12, 0, 0) else bif Nat.beq pc 12 then some (.getfield 33, 15, 0, 3) else none))) else (bif Nat.ble pc 20 then (bif Nat.ble pc 18 then (bif Nat.beq pc 15 then some (.getfield 161, 18, 5, 7) else bif Nat.beq pc 18 then some (.iload_n 1, 19, 0, 0) else none) else (bif Nat.beq pc 19 then some (.baload, 20, 0, 0) else bif Nat.beq pc 20 then some (.ifCond .eq 7, 23, 27, 0) else none)) else (bif Nat.ble pc 24 then (bif Nat.beq pc 23 then some (.iconst 1, 24, 0, 0) else bif Nat.beq pc 24 then some (.goto 4, 27, 28, 0) else none) else (bif Nat.beq pc 27 then some (.iconst 0, 28, 0, 0) else bif Nat.beq pc 28 then some (.ireturn, 29, 0, 0) else none))))
set_option maxRecDepth 100000 in
set_option maxHeartbeats 4000000 in
theorem ok_L_proved : am_CD m_L_proved cd_L_proved := am_CD_of 29 fl_L_ok cn_L_ok kl_L_ok pl_L_ok (by intro pc h; unfold cd_L_proved; rw [Nat.ble_eq_true_of_le h]; rfl) (by decide +kernel)
def cd_M_init (pc : Nat) : Option am_I := bif Nat.ble 333 pc then none else (bif Nat.ble pc 162 then (bif Nat.ble pc 79 then (bif Nat.ble pc 39 then (bif Nat.ble pc 19 then (bif Nat.ble pc 8 then (bif Nat.ble pc 1 then (bif Nat.beq pc 0 then some (.aload_n 0, 1, 0, 0) else bif Nat.beq pc 1 then some (.invokespecial 1, 4, 0, 1) else none) else (bif Nat.beq pc 4 then some (.aload_n 0, 5, 0, 0) else bif Nat.beq pc 5 then some (.sipush 1600, 8, 0, 0) else bif Nat.beq pc 8 then some (.newarray .int, 10, 0, 0) else none)) else (bif Nat.ble pc 13 then (bif Nat.beq pc 10 then some (.putfield 7, 13, 10, 0) else bif Nat.beq pc 13 then some (.aload_n 0, 14, 0, 0) else none) else (bif Nat.beq pc 14 then some (.sipush 801, 17, 0, 0) else bif Nat.beq pc 17 then some (.newarray .int, 19, 0, 0) else bif Nat.beq pc 19 then some (.putfield 13, 22, 10, 2) else none))) else (bif Nat.ble pc 31 then (bif Nat.ble pc 23 then (bif Nat.beq pc 22 then some (.aload_n 0, 23, 0, 0) else bif Nat.beq pc 23 then some (.sipush 801, 26, 0, 0) else none) else (bif Nat.beq pc 26 then some (.newarray .int, 28, 0, 0) else bif Nat.beq pc 28 then some (.putfield 16, 31, 10, 3) else bif Nat.beq pc 31 then some (.aload_n 0, 32, 0, 0) else none)) else (bif Nat.ble pc 33 then (bif Nat.beq pc 32 then some (.iconst (-1), 33, 0, 0) else bif Nat.beq pc 33 then some (.putfield 19, 36, 10, 7) else none) else (bif Nat.beq pc 36 then some (.aload_n 0, 37, 0, 0) else bif Nat.beq pc 37 then some (.bipush 60, 39, 0, 0) else bif Nat.beq pc 39 then some (.newarray .long, 41, 0, 0) else none)))) else (bif Nat.ble pc 60 then (bif Nat.ble pc 49 then (bif Nat.ble pc 44 then (bif Nat.beq pc 41 then some (.putfield 23, 44, 10, 9) else bif Nat.beq pc 44 then some (.aload_n 0, 45, 0, 0) else none) else (bif Nat.beq pc 45 then some (.bipush 60, 47, 0, 0) else bif Nat.beq pc 47 then some (.newarray .int, 49, 0, 0) else bif Nat.beq pc 49 then some (.putfield 27, 52, 10, 10) else none)) else (bif Nat.ble pc 53 then (bif Nat.beq pc 52 then some (.aload_n 0, 53, 0, 0) else bif Nat.beq pc 53 then some (.bipush 60, 55, 0, 0) else none) else (bif Nat.beq pc 55 then some (.newarray .boolean, 57, 0, 0) else bif Nat.beq pc 57 then some (.putfield 30, 60, 10, 11) else bif Nat.beq pc 60 then some (.aload_n 0, 61, 0, 0) else none))) else (bif Nat.ble pc 69 then (bif Nat.ble pc 63 then (bif Nat.beq pc 61 then some (.bipush 60, 63, 0, 0) else bif Nat.beq pc 63 then some (.newarray .int, 65, 0, 0) else none) else (bif Nat.beq pc 65 then some (.putfield 34, 68, 10, 12) else bif Nat.beq pc 68 then some (.aload_n 0, 69, 0, 0) else bif Nat.beq pc 69 then some (.bipush 60, 71, 0, 0) else none)) else (bif Nat.ble pc 73 then (bif Nat.beq pc 71 then some (.newarray .int, 73, 0, 0) else bif Nat.beq pc 73 then some (.putfield 37, 76, 10, 13) else none) else (bif Nat.beq pc 76 then some (.aload_n 0, 77, 0, 0) else bif Nat.beq pc 77 then some (.bipush 40, 79, 0, 0) else bif Nat.beq pc 79 then some (.newarray .int, 81, 0, 0) else none))))) else (bif Nat.ble pc 120 then (bif Nat.ble pc 101 then (bif Nat.ble pc 89 then (bif Nat.ble pc 84 then (bif Nat.beq pc 81 then some (.putfield 40, 84, 10, 16) else bif Nat.beq pc 84 then some (.aload_n 0, 85, 0, 0) else none) else (bif Nat.beq pc 85 then some (.bipush 40, 87, 0, 0) else bif Nat.beq pc 87 then some (.newarray .int, 89, 0, 0) else bif Nat.beq pc 89 then some (.putfield 43, 92, 10, 17) else none)) else (bif Nat.ble pc 93 then (bif Nat.beq pc 92 then some (.aload_n 0, 93, 0, 0) else bif Nat.beq pc 93 then some (.sipush 960, 96, 0, 0) else none) else (bif Nat.beq pc 96 then some (.newarray .int, 98, 0, 0) else bif Nat.beq pc 98 then some (.putfield 46, 101, 10, 18) else bif Nat.beq pc 101 then some (.aload_n 0, 102, 0, 0) else none))) else (bif Nat.ble pc 110 then (bif Nat.ble pc 104 then (bif Nat.beq pc 102 then some (.bipush 40, 104, 0, 0) else bif Nat.beq pc 104 then some (.newarray .int, 106, 0, 0) else none) else (bif Nat.beq pc 106 then some (.putfield 49, 109, 10, 19) else bif Nat.beq pc 109 then some (.aload_n 0, 110, 0, 0) else bif Nat.beq pc 110 then some (.bipush 40, 112, 0, 0) else none)) else (bif Nat.ble pc 114 then (bif Nat.beq pc 112 then some (.newarray .boolean, 114, 0, 0) else bif Nat.beq pc 114 then some (.putfield 52, 117, 10, 20) else none) else (bif Nat.beq pc 117 then some (.aload_n 0, 118, 0, 0) else bif Nat.beq pc 118 then some (.bipush 40, 120, 0, 0) else bif Nat.beq pc 120 then some (.newarray .int, 122, 0, 0) else none)))) else (bif Nat.ble pc 141 then (bif Nat.ble pc 130 then (bif Nat.ble pc 125 then (bif Nat.beq pc 122 then some (.putfield 55, 125, 10, 21) else bif Nat.beq pc 125 then some (.aload_n 0, 126, 0, 0) else none) else (bif Nat.beq pc 126 then some (.bipush 40, 128, 0, 0) else bif Nat.beq pc 128 then some (.newarray .int, 130, 0, 0) else bif Nat.beq pc 130 then some (.putfield 58, 133, 10, 22) else none)) else (bif Nat.ble pc 134 then (bif Nat.beq pc 133 then some (.aload_n 0, 134, 0, 0) else bif Nat.beq pc 134 then some (.bipush 40, 136, 0, 0) else none) else (bif Nat.beq pc 136 then some (.newarray .int, 138, 0, 0) else bif Nat.beq pc 138 then some (.putfield 61, 141, 10, 24) else bif Nat.beq pc 141 then some (.aload_n 0, 142, 0, 0) else none))) else (bif Nat.ble pc 150 then (bif Nat.ble pc 144 then (bif Nat.beq pc 142 then some (.bipush 40, 144, 0, 0) else bif Nat.beq pc 144 then some (.newarray .int, 146, 0, 0) else none) else (bif Nat.beq pc 146 then some (.putfield 64, 149, 10, 25) else bif Nat.beq pc 149 then some (.aload_n 0, 150, 0, 0) else bif Nat.beq pc 150 then some (.bipush 40, 152, 0, 0) else none)) else (bif Nat.ble pc 157 then (bif Nat.beq pc 152 then some (.newarray .int, 154, 0, 0) else bif Nat.beq pc 154 then some (.putfield 67, 157, 10, 26) else bif Nat.beq pc 157 then some (.aload_n 0, 158, 0, 0) else none) else (bif Nat.beq pc 158 then some (.bipush 41, 160, 0, 0) else bif Nat.beq pc 160 then some (.newarray .int, 162, 0, 0) else bif Nat.beq pc 162 then some (.putfield 70, 165, 10, 28) else none)))))) else (bif Nat.ble pc 246 then (bif Nat.ble pc 205 then (bif Nat.ble pc 183 then (bif Nat.ble pc 174 then (bif Nat.ble pc 166 then (bif Nat.beq pc 165 then some (.aload_n 0, 166, 0, 0) else bif Nat.beq pc 166 then some (.sipush 1640, 169, 0, 0) else none) else (bif Nat.beq pc 169 then some (.newarray .int, 171, 0, 0) else bif Nat.beq pc 171 then some (.putfield 73, 174, 10, 29) else bif Nat.beq pc 174 then some (.aload_n 0, 175, 0, 0) else none)) else (bif Nat.ble pc 177 then (bif Nat.beq pc 175 then some (.bipush 41, 177, 0, 0) else bif Nat.beq pc 177 then some (.newarray .int, 179, 0, 0) else none) else (bif Nat.beq pc 179 then some (.putfield 76, 182, 10, 30) else bif Nat.beq pc 182 then some (.aload_n 0, 183, 0, 0) else bif Nat.beq pc 183 then some (.sipush 1640, 186, 0, 0) else none))) else (bif Nat.ble pc 195 then (bif Nat.ble pc 188 then (bif Nat.beq pc 186 then some (.newarray .int, 188, 0, 0) else bif Nat.beq pc 188 then some (.putfield 79, 191, 10, 31) else none) else (bif Nat.beq pc 191 then some (.aload_n 0, 192, 0, 0) else bif Nat.beq pc 192 then some (.sipush 1640, 195, 0, 0) else bif Nat.beq pc 195 then some (.newarray .int, 197, 0, 0) else none)) else (bif Nat.ble pc 200 then (bif Nat.beq pc 197 then some (.putfield 82, 200, 10, 32) else bif Nat.beq pc 200 then some (.aload_n 0, 201, 0, 0) else none) else (bif Nat.beq pc 201 then some (.bipush 41, 203, 0, 0) else bif Nat.beq pc 203 then some (.newarray .int, 205, 0, 0) else bif Nat.beq pc 205 then some (.putfield 85, 208, 10, 33) else none)))) else (bif Nat.ble pc 225 then (bif Nat.ble pc 216 then (bif Nat.ble pc 209 then (bif Nat.beq pc 208 then some (.aload_n 0, 209, 0, 0) else bif Nat.beq pc 209 then some (.bipush 41, 211, 0, 0) else none) else (bif Nat.beq pc 211 then some (.newarray .int, 213, 0, 0) else bif Nat.beq pc 213 then some (.putfield 88, 216, 10, 34) else bif Nat.beq pc 216 then some (.aload_n 0, 217, 0, 0) else none)) else (bif Nat.ble pc 219 then (bif Nat.beq pc 217 then some (.bipush 41, 219, 0, 0) else bif Nat.beq pc 219 then some (.newarray .int, 221, 0, 0) else none) else (bif Nat.beq pc 221 then some (.putfield 91, 224, 10, 35) else bif Nat.beq pc 224 then some (.aload_n 0, 225, 0, 0) else bif Nat.beq pc 225 then some (.sipush 1640, 228, 0, 0) else none))) else (bif Nat.ble pc 236 then (bif Nat.ble pc 230 then (bif Nat.beq pc 228 then some (.newarray .int, 230, 0, 0) else bif Nat.beq pc 230 then some (.putfield 94, 233, 10, 36) else none) else (bif Nat.beq pc 233 then some (.aload_n 0, 234, 0, 0) else bif Nat.beq pc 234 then some (.bipush 41, 236, 0, 0) else bif Nat.beq pc 236 then some (.newarray .boolean, 238, 0, 0) else none)) else (bif Nat.ble pc 241 then (bif Nat.beq pc 238 then some (.putfield 97, 241, 10, 37) else bif Nat.beq pc 241 then some (.aload_n 0, 242, 0, 0) else none) else (bif Nat.beq pc 242 then some (.bipush 41, 244, 0, 0) else bif Nat.beq pc 244 then some (.newarray .boolean, 246, 0, 0) else bif Nat.beq pc 246 then some (.putfield 100, 249, 10, 38) else none))))) else (bif Nat.ble pc 287 then (bif Nat.ble pc 266 then (bif Nat.ble pc 257 then (bif Nat.ble pc 250 then (bif Nat.beq pc 249 then some (.aload_n 0, 250, 0, 0) else bif Nat.beq pc 250 then some (.bipush 24, 252, 0, 0) else none) else (bif Nat.beq pc 252 then some (.newarray .int, 254, 0, 0) else bif Nat.beq pc 254 then some (.putfield 103, 257, 10, 39) else bif Nat.beq pc 257 then some (.aload_n 0, 258, 0, 0) else none)) else (bif Nat.ble pc 260 then (bif Nat.beq pc 258 then some (.bipush 60, 260, 0, 0) else bif Nat.beq pc 260 then some (.newarray .boolean, 262, 0, 0) else none) else (bif Nat.beq pc 262 then some (.putfield 106, 265, 10, 41) else bif Nat.beq pc 265 then some (.aload_n 0, 266, 0, 0) else bif Nat.beq pc 266 then some (.bipush 60, 268, 0, 0) else none))) else (bif Nat.ble pc 277 then (bif Nat.ble pc 270 then (bif Nat.beq pc 268 then some (.newarray .int, 270, 0, 0) else bif Nat.beq pc 270 then some (.putfield 109, 273, 10, 42) else none) else (bif Nat.beq pc 273 then some (.aload_n 0, 274, 0, 0) else bif Nat.beq pc 274 then some (.sipush 384, 277, 0, 0) else bif Nat.beq pc 277 then some (.newarray .int, 279, 0, 0) else none)) else (bif Nat.ble pc 282 then (bif Nat.beq pc 279 then some (.putfield 112, 282, 10, 43) else bif Nat.beq pc 282 then some (.aload_n 0, 283, 0, 0) else none) else (bif Nat.beq pc 283 then some (.bipush 16, 285, 0, 0) else bif Nat.beq pc 285 then some (.newarray .int, 287, 0, 0) else bif Nat.beq pc 287 then some (.putfield 115, 290, 10, 44) else none)))) else (bif Nat.ble pc 308 then (bif Nat.ble pc 299 then (bif Nat.ble pc 291 then (bif Nat.beq pc 290 then some (.aload_n 0, 291, 0, 0) else bif Nat.beq pc 291 then some (.sipush 384, 294, 0, 0) else none) else (bif Nat.beq pc 294 then some (.newarray .int, 296, 0, 0) else bif Nat.beq pc 296 then some (.putfield 118, 299, 10, 46) else bif Nat.beq pc 299 then some (.aload_n 0, 300, 0, 0) else none)) else (bif Nat.ble pc 302 then (bif Nat.beq pc 300 then some (.bipush 16, 302, 0, 0) else bif Nat.beq pc 302 then some (.newarray .int, 304, 0, 0) else none) else (bif Nat.beq pc 304 then some (.putfield 121, 307, 10, 47) else bif Nat.beq pc 307 then some (.aload_n 0, 308, 0, 0) else bif Nat.beq pc 308 then some (.bipush 60, 310, 0, 0) else none))) else (bif Nat.ble pc 319 then (bif Nat.ble pc 312 then (bif Nat.beq pc 310 then some (.newarray .int, 312, 0, 0) else bif Nat.beq pc 312 then some (.putfield 124, 315, 10, 49) else none) else (bif Nat.beq pc 315 then some (.aload_n 0, 316, 0, 0) else bif Nat.beq pc 316 then some (.sipush 600, 319, 0, 0) else bif Nat.beq pc 319 then some (.newarray .int, 321, 0, 0) else none)) else (bif Nat.ble pc 325 then (bif Nat.beq pc 321 then some (.putfield 127, 324, 10, 50) else bif Nat.beq pc 324 then some (.aload_n 0, 325, 0, 0) else bif Nat.beq pc 325 then some (.bipush 20, 327, 0, 0) else none) else (bif Nat.beq pc 327 then some (.newarray .int, 329, 0, 0) else bif Nat.beq pc 329 then some (.putfield 130, 332, 10, 52) else bif Nat.beq pc 332 then some (.return_, 333, 0, 0) else none)))))))
set_option maxRecDepth 100000 in
set_option maxHeartbeats 4000000 in
theorem ok_M_init : am_CD m_M_init cd_M_init := am_CD_of 333 fl_M_ok cn_M_ok kl_M_ok pl_M_ok (by intro pc h; unfold cd_M_init; rw [Nat.ble_eq_true_of_le h]; rfl) (by decide +kernel)
def cd_M_feed (pc : Nat) : Option am_I := bif Nat.ble 122 pc then none else (bif Nat.ble pc 59 then (bif Nat.ble pc 28 then (bif Nat.ble pc 12 then (bif Nat.ble pc 5 then (bif Nat.ble pc 1 then (bif Nat.beq pc 0 then some (.iload_n 3, 1, 0, 0) else bif Nat.beq pc 1 then some (.iconst 1, 2, 0, 0) else none) else (bif Nat.beq pc 2 then some (.if_icmp .lt 21, 5, 23, 0) else bif Nat.beq pc 5 then some (.iload_n 3, 6, 0, 0) else none)) else (bif Nat.ble pc 8 then (bif Nat.beq pc 6 then some (.bipush 8, 8, 0, 0) else bif Nat.beq pc 8 then some (.if_icmp .gt 15, 11, 23, 0) else none) else (bif Nat.beq pc 11 then some (.aload_n 0, 12, 0, 0) else bif Nat.beq pc 12 then some (.getfield 133, 15, 10, 1) else none))) else (bif Nat.ble pc 20 then (bif Nat.ble pc 16 then (bif Nat.beq pc 15 then some (.iload_n 3, 16, 0, 0) else bif Nat.beq pc 16 then some (.iadd, 17, 0, 0) else none) else (bif Nat.beq pc 17 then some (.sipush 1600, 20, 0, 0) else bif Nat.beq pc 20 then some (.if_icmp .le 5, 23, 25, 0) else none)) else (bif Nat.ble pc 24 then (bif Nat.beq pc 23 then some (.iconst (-1), 24, 0, 0) else bif Nat.beq pc 24 then some (.ireturn, 25, 0, 0) else none) else (bif Nat.beq pc 25 then some (.iconst 0, 26, 0, 0) else bif Nat.beq pc 26 then some (.istore 4, 28, 0, 0) else bif Nat.beq pc 28 then some (.iload 4, 30, 0, 0) else none)))) else (bif Nat.ble pc 41 then (bif Nat.ble pc 35 then (bif Nat.ble pc 31 then (bif Nat.beq pc 30 then some (.iload_n 3, 31, 0, 0) else bif Nat.beq pc 31 then some (.if_icmp .ge 39, 34, 70, 0) else none) else (bif Nat.beq pc 34 then some (.lload_n 1, 35, 0, 0) else bif Nat.beq pc 35 then some (.bipush 8, 37, 0, 0) else none)) else (bif Nat.ble pc 39 then (bif Nat.beq pc 37 then some (.iload 4, 39, 0, 0) else bif Nat.beq pc 39 then some (.imul, 40, 0, 0) else none) else (bif Nat.beq pc 40 then some (.lshr, 41, 0, 0) else bif Nat.beq pc 41 then some (.ldc2_w 136, 44, 255, 0) else none))) else (bif Nat.ble pc 48 then (bif Nat.ble pc 45 then (bif Nat.beq pc 44 then some (.land, 45, 0, 0) else bif Nat.beq pc 45 then some (.l2i, 46, 0, 0) else none) else (bif Nat.beq pc 46 then some (.istore 5, 48, 0, 0) else bif Nat.beq pc 48 then some (.iload 5, 50, 0, 0) else none)) else (bif Nat.ble pc 52 then (bif Nat.beq pc 50 then some (.bipush 32, 52, 0, 0) else bif Nat.beq pc 52 then some (.if_icmp .lt 10, 55, 62, 0) else none) else (bif Nat.beq pc 55 then some (.iload 5, 57, 0, 0) else bif Nat.beq pc 57 then some (.bipush 126, 59, 0, 0) else bif Nat.beq pc 59 then some (.if_icmp .le 5, 62, 64, 0) else none))))) else (bif Nat.ble pc 91 then (bif Nat.ble pc 73 then (bif Nat.ble pc 67 then (bif Nat.ble pc 63 then (bif Nat.beq pc 62 then some (.iconst (-1), 63, 0, 0) else bif Nat.beq pc 63 then some (.ireturn, 64, 0, 0) else none) else (bif Nat.beq pc 64 then some (.iinc 4 1, 67, 0, 0) else bif Nat.beq pc 67 then some (.goto (-39), 70, 28, 0) else none)) else (bif Nat.ble pc 71 then (bif Nat.beq pc 70 then some (.iload_n 3, 71, 0, 0) else bif Nat.beq pc 71 then some (.iconst 1, 72, 0, 0) else none) else (bif Nat.beq pc 72 then some (.isub, 73, 0, 0) else bif Nat.beq pc 73 then some (.istore 4, 75, 0, 0) else none))) else (bif Nat.ble pc 81 then (bif Nat.ble pc 77 then (bif Nat.beq pc 75 then some (.iload 4, 77, 0, 0) else bif Nat.beq pc 77 then some (.ifCond .lt 40, 80, 117, 0) else none) else (bif Nat.beq pc 80 then some (.aload_n 0, 81, 0, 0) else bif Nat.beq pc 81 then some (.getfield 7, 84, 10, 0) else none)) else (bif Nat.ble pc 85 then (bif Nat.beq pc 84 then some (.aload_n 0, 85, 0, 0) else bif Nat.beq pc 85 then some (.getfield 133, 88, 10, 1) else none) else (bif Nat.beq pc 88 then some (.lload_n 1, 89, 0, 0) else bif Nat.beq pc 89 then some (.bipush 8, 91, 0, 0) else bif Nat.beq pc 91 then some (.iload 4, 93, 0, 0) else none)))) else (bif Nat.ble pc 102 then (bif Nat.ble pc 98 then (bif Nat.ble pc 94 then (bif Nat.beq pc 93 then some (.imul, 94, 0, 0) else bif Nat.beq pc 94 then some (.lshr, 95, 0, 0) else none) else (bif Nat.beq pc 95 then some (.ldc2_w 136, 98, 255, 0) else bif Nat.beq pc 98 then some (.land, 99, 0, 0) else none)) else (bif Nat.ble pc 100 then (bif Nat.beq pc 99 then some (.l2i, 100, 0, 0) else bif Nat.beq pc 100 then some (.iastore, 101, 0, 0) else none) else (bif Nat.beq pc 101 then some (.aload_n 0, 102, 0, 0) else bif Nat.beq pc 102 then some (.dup, 103, 0, 0) else none))) else (bif Nat.ble pc 108 then (bif Nat.ble pc 106 then (bif Nat.beq pc 103 then some (.getfield 133, 106, 10, 1) else bif Nat.beq pc 106 then some (.iconst 1, 107, 0, 0) else none) else (bif Nat.beq pc 107 then some (.iadd, 108, 0, 0) else bif Nat.beq pc 108 then some (.putfield 133, 111, 10, 1) else none)) else (bif Nat.ble pc 114 then (bif Nat.beq pc 111 then some (.iinc 4 (-1), 114, 0, 0) else bif Nat.beq pc 114 then some (.goto (-39), 117, 75, 0) else none) else (bif Nat.beq pc 117 then some (.aload_n 0, 118, 0, 0) else bif Nat.beq pc 118 then some (.getfield 133, 121, 10, 1) else bif Nat.beq pc 121 then some (.ireturn, 122, 0, 0) else none))))))
set_option maxRecDepth 100000 in
set_option maxHeartbeats 4000000 in
theorem ok_M_feed : am_CD m_M_feed cd_M_feed := am_CD_of 122 fl_M_ok cn_M_ok kl_M_ok pl_M_ok (by intro pc h; unfold cd_M_feed; rw [Nat.ble_eq_true_of_le h]; rfl) (by decide +kernel)
def cd_M_clear (pc : Nat) : Option am_I := bif Nat.ble 12 pc then none else (bif Nat.ble pc 5 then (bif Nat.ble pc 1 then (bif Nat.beq pc 0 then some (.aload_n 0, 1, 0, 0) else bif Nat.beq pc 1 then some (.getfield 133, 4, 10, 1) else none) else (bif Nat.beq pc 4 then some (.istore_n 1, 5, 0, 0) else bif Nat.beq pc 5 then some (.aload_n 0, 6, 0, 0) else none)) else (bif Nat.ble pc 7 then (bif Nat.beq pc 6 then some (.iconst 0, 7, 0, 0) else bif Nat.beq pc 7 then some (.putfield 133, 10, 10, 1) else none) else (bif Nat.beq pc 10 then some (.iload_n 1, 11, 0, 0) else bif Nat.beq pc 11 then some (.ireturn, 12, 0, 0) else none)))
set_option maxRecDepth 100000 in
set_option maxHeartbeats 4000000 in
theorem ok_M_clear : am_CD m_M_clear cd_M_clear := am_CD_of 12 fl_M_ok cn_M_ok kl_M_ok pl_M_ok (by intro pc h; unfold cd_M_clear; rw [Nat.ble_eq_true_of_le h]; rfl) (by decide +kernel)
def cd_M_read (pc : Nat) : Option am_I := bif Nat.ble 108 pc then none else (bif Nat.ble pc 44 then (bif Nat.ble pc 20 then (bif Nat.ble pc 9 then (bif Nat.ble pc 4 then (bif Nat.beq pc 0 then some (.aload_n 0, 1, 0, 0) else bif Nat.beq pc 1 then some (.invokevirtual 356, 4, 0, 0) else bif Nat.beq pc 4 then some (.aload_n 0, 5, 0, 0) else none) else (bif Nat.beq pc 5 then some (.iconst 0, 6, 0, 0) else bif Nat.beq pc 6 then some (.putfield 150, 9, 10, 5) else bif Nat.beq pc 9 then some (.aload_n 0, 10, 0, 0) else none)) else (bif Nat.ble pc 14 then (bif Nat.beq pc 10 then some (.iconst 0, 11, 0, 0) else bif Nat.beq pc 11 then some (.putfield 147, 14, 10, 6) else bif Nat.beq pc 14 then some (.aload_n 0, 15, 0, 0) else none) else (bif Nat.ble pc 16 then (bif Nat.beq pc 15 then some (.iconst (-1), 16, 0, 0) else bif Nat.beq pc 16 then some (.putfield 19, 19, 10, 7) else none) else (bif Nat.beq pc 19 then some (.aload_n 0, 20, 0, 0) else bif Nat.beq pc 20 then some (.iconst 0, 21, 0, 0) else none)))) else (bif Nat.ble pc 31 then (bif Nat.ble pc 25 then (bif Nat.beq pc 21 then some (.putfield 173, 24, 10, 8) else bif Nat.beq pc 24 then some (.aload_n 0, 25, 0, 0) else bif Nat.beq pc 25 then some (.iconst 0, 26, 0, 0) else none) else (bif Nat.ble pc 29 then (bif Nat.beq pc 26 then some (.putfield 187, 29, 10, 14) else bif Nat.beq pc 29 then some (.aload_n 0, 30, 0, 0) else none) else (bif Nat.beq pc 30 then some (.iconst 0, 31, 0, 0) else bif Nat.beq pc 31 then some (.putfield 184, 34, 10, 15) else none))) else (bif Nat.ble pc 36 then (bif Nat.beq pc 34 then some (.aload_n 0, 35, 0, 0) else bif Nat.beq pc 35 then some (.iconst 0, 36, 0, 0) else bif Nat.beq pc 36 then some (.putfield 207, 39, 10, 23) else none) else (bif Nat.ble pc 40 then (bif Nat.beq pc 39 then some (.aload_n 0, 40, 0, 0) else bif Nat.beq pc 40 then some (.iconst 0, 41, 0, 0) else none) else (bif Nat.beq pc 41 then some (.putfield 226, 44, 10, 27) else bif Nat.beq pc 44 then some (.aload_n 0, 45, 0, 0) else none))))) else (bif Nat.ble pc 76 then (bif Nat.ble pc 59 then (bif Nat.ble pc 51 then (bif Nat.beq pc 45 then some (.getfield 147, 48, 10, 6) else bif Nat.beq pc 48 then some (.ifCond .ne 17, 51, 65, 0) else bif Nat.beq pc 51 then some (.aload_n 0, 52, 0, 0) else none) else (bif Nat.ble pc 55 then (bif Nat.beq pc 52 then some (.invokevirtual 161, 55, 0, 0) else bif Nat.beq pc 55 then some (.ifCond .eq 10, 58, 65, 0) else none) else (bif Nat.beq pc 58 then some (.aload_n 0, 59, 0, 0) else bif Nat.beq pc 59 then some (.invokevirtual 359, 62, 0, 0) else none))) else (bif Nat.ble pc 66 then (bif Nat.beq pc 62 then some (.goto (-18), 65, 44, 0) else bif Nat.beq pc 65 then some (.aload_n 0, 66, 0, 0) else bif Nat.beq pc 66 then some (.getfield 147, 69, 10, 6) else none) else (bif Nat.ble pc 72 then (bif Nat.beq pc 69 then some (.ifCond .ne 20, 72, 89, 0) else bif Nat.beq pc 72 then some (.aload_n 0, 73, 0, 0) else none) else (bif Nat.beq pc 73 then some (.getfield 187, 76, 10, 14) else bif Nat.beq pc 76 then some (.ifCond .le 13, 79, 89, 0) else none)))) else (bif Nat.ble pc 90 then (bif Nat.ble pc 82 then (bif Nat.beq pc 79 then some (.aload_n 0, 80, 0, 0) else bif Nat.beq pc 80 then some (.bipush (-2), 82, 0, 0) else bif Nat.beq pc 82 then some (.aload_n 0, 83, 0, 0) else none) else (bif Nat.ble pc 86 then (bif Nat.beq pc 83 then some (.getfield 138, 86, 10, 4) else bif Nat.beq pc 86 then some (.invokevirtual 157, 89, 0, 0) else none) else (bif Nat.beq pc 89 then some (.aload_n 0, 90, 0, 0) else bif Nat.beq pc 90 then some (.getfield 147, 93, 10, 6) else none))) else (bif Nat.ble pc 97 then (bif Nat.beq pc 93 then some (.ifCond .ne 10, 96, 103, 0) else bif Nat.beq pc 96 then some (.aload_n 0, 97, 0, 0) else bif Nat.beq pc 97 then some (.getfield 226, 100, 10, 27) else none) else (bif Nat.ble pc 103 then (bif Nat.beq pc 100 then some (.goto 7, 103, 107, 0) else bif Nat.beq pc 103 then some (.aload_n 0, 104, 0, 0) else none) else (bif Nat.beq pc 104 then some (.getfield 147, 107, 10, 6) else bif Nat.beq pc 107 then some (.ireturn, 108, 0, 0) else none))))))
set_option maxRecDepth 100000 in
set_option maxHeartbeats 4000000 in
theorem ok_M_read : am_CD m_M_read cd_M_read := am_CD_of 108 fl_M_ok cn_M_ok kl_M_ok pl_M_ok (by intro pc h; unfold cd_M_read; rw [Nat.ble_eq_true_of_le h]; rfl) (by decide +kernel)
end
section
def cd_M_findWords (pc : Nat) : Option am_I := bif Nat.ble 91 pc then none else (bif Nat.ble pc 46 then (bif Nat.ble pc 21 then (bif Nat.ble pc 8 then (bif Nat.ble pc 2 then (bif Nat.beq pc 0 then some (.aload_n 0, 1, 0, 0) else bif Nat.beq pc 1 then some (.iconst 0, 2, 0, 0) else bif Nat.beq pc 2 then some (.putfield 138, 5, 10, 4) else none) else (bif Nat.ble pc 6 then (bif Nat.beq pc 5 then some (.iconst 0, 6, 0, 0) else bif Nat.beq pc 6 then some (.istore_n 1, 7, 0, 0) else none) else (bif Nat.beq pc 7 then some (.iconst 0, 8, 0, 0) else bif Nat.beq pc 8 then some (.istore_n 2, 9, 0, 0) else none))) else (bif Nat.ble pc 11 then (bif Nat.beq pc 9 then some (.iload_n 2, 10, 0, 0) else bif Nat.beq pc 10 then some (.aload_n 0, 11, 0, 0) else bif Nat.beq pc 11 then some (.getfield 133, 14, 10, 1) else none) else (bif Nat.ble pc 17 then (bif Nat.beq pc 14 then some (.if_icmp .ge 76, 17, 90, 0) else bif Nat.beq pc 17 then some (.aload_n 0, 18, 0, 0) else none) else (bif Nat.beq pc 18 then some (.getfield 7, 21, 10, 0) else bif Nat.beq pc 21 then some (.iload_n 2, 22, 0, 0) else none)))) else (bif Nat.ble pc 33 then (bif Nat.ble pc 25 then (bif Nat.beq pc 22 then some (.iaload, 23, 0, 0) else bif Nat.beq pc 23 then some (.bipush 32, 25, 0, 0) else bif Nat.beq pc 25 then some (.if_icmp .ne 8, 28, 33, 0) else none) else (bif Nat.ble pc 29 then (bif Nat.beq pc 28 then some (.iconst 0, 29, 0, 0) else bif Nat.beq pc 29 then some (.istore_n 1, 30, 0, 0) else none) else (bif Nat.beq pc 30 then some (.goto 54, 33, 84, 0) else bif Nat.beq pc 33 then some (.iload_n 1, 34, 0, 0) else none))) else (bif Nat.ble pc 38 then (bif Nat.beq pc 34 then some (.ifCond .ne 33, 37, 67, 0) else bif Nat.beq pc 37 then some (.aload_n 0, 38, 0, 0) else bif Nat.beq pc 38 then some (.getfield 13, 41, 10, 2) else none) else (bif Nat.ble pc 42 then (bif Nat.beq pc 41 then some (.aload_n 0, 42, 0, 0) else bif Nat.beq pc 42 then some (.getfield 138, 45, 10, 4) else none) else (bif Nat.beq pc 45 then some (.iload_n 2, 46, 0, 0) else bif Nat.beq pc 46 then some (.iastore, 47, 0, 0) else none))))) else (bif Nat.ble pc 68 then (bif Nat.ble pc 57 then (bif Nat.ble pc 51 then (bif Nat.beq pc 47 then some (.aload_n 0, 48, 0, 0) else bif Nat.beq pc 48 then some (.getfield 16, 51, 10, 3) else bif Nat.beq pc 51 then some (.aload_n 0, 52, 0, 0) else none) else (bif Nat.ble pc 55 then (bif Nat.beq pc 52 then some (.getfield 138, 55, 10, 4) else bif Nat.beq pc 55 then some (.iconst 0, 56, 0, 0) else none) else (bif Nat.beq pc 56 then some (.iastore, 57, 0, 0) else bif Nat.beq pc 57 then some (.aload_n 0, 58, 0, 0) else none))) else (bif Nat.ble pc 62 then (bif Nat.beq pc 58 then some (.dup, 59, 0, 0) else bif Nat.beq pc 59 then some (.getfield 138, 62, 10, 4) else bif Nat.beq pc 62 then some (.iconst 1, 63, 0, 0) else none) else (bif Nat.ble pc 64 then (bif Nat.beq pc 63 then some (.iadd, 64, 0, 0) else bif Nat.beq pc 64 then some (.putfield 138, 67, 10, 4) else none) else (bif Nat.beq pc 67 then some (.iconst 1, 68, 0, 0) else bif Nat.beq pc 68 then some (.istore_n 1, 69, 0, 0) else none)))) else (bif Nat.ble pc 79 then (bif Nat.ble pc 73 then (bif Nat.beq pc 69 then some (.aload_n 0, 70, 0, 0) else bif Nat.beq pc 70 then some (.getfield 16, 73, 10, 3) else bif Nat.beq pc 73 then some (.aload_n 0, 74, 0, 0) else none) else (bif Nat.ble pc 77 then (bif Nat.beq pc 74 then some (.getfield 138, 77, 10, 4) else bif Nat.beq pc 77 then some (.iconst 1, 78, 0, 0) else none) else (bif Nat.beq pc 78 then some (.isub, 79, 0, 0) else bif Nat.beq pc 79 then some (.dup2, 80, 0, 0) else none))) else (bif Nat.ble pc 82 then (bif Nat.beq pc 80 then some (.iaload, 81, 0, 0) else bif Nat.beq pc 81 then some (.iconst 1, 82, 0, 0) else bif Nat.beq pc 82 then some (.iadd, 83, 0, 0) else none) else (bif Nat.ble pc 84 then (bif Nat.beq pc 83 then some (.iastore, 84, 0, 0) else bif Nat.beq pc 84 then some (.iinc 2 1, 87, 0, 0) else none) else (bif Nat.beq pc 87 then some (.goto (-78), 90, 9, 0) else bif Nat.beq pc 90 then some (.return_, 91, 0, 0) else none))))))
set_option maxRecDepth 100000 in
set_option maxHeartbeats 4000000 in
theorem ok_M_findWords : am_CD m_M_findWords cd_M_findWords := am_CD_of 91 fl_M_ok cn_M_ok kl_M_ok pl_M_ok (by intro pc h; unfold cd_M_findWords; rw [Nat.ble_eq_true_of_le h]; rfl) (by decide +kernel)
def cd_M_come (pc : Nat) : Option am_I := bif Nat.ble 155 pc then none else (bif Nat.ble pc 79 then (bif Nat.ble pc 38 then (bif Nat.ble pc 16 then (bif Nat.ble pc 5 then (bif Nat.ble pc 1 then (bif Nat.beq pc 0 then some (.aload_n 0, 1, 0, 0) else bif Nat.beq pc 1 then some (.getfield 150, 4, 10, 5) else none) else (bif Nat.beq pc 4 then some (.aload_n 0, 5, 0, 0) else bif Nat.beq pc 5 then some (.getfield 138, 8, 10, 4) else none)) else (bif Nat.ble pc 11 then (bif Nat.beq pc 8 then some (.if_icmp .ge 93, 11, 101, 0) else bif Nat.beq pc 11 then some (.aload_n 0, 12, 0, 0) else none) else (bif Nat.beq pc 12 then some (.aload_n 0, 13, 0, 0) else bif Nat.beq pc 13 then some (.getfield 150, 16, 10, 5) else bif Nat.beq pc 16 then some (.bipush 36, 18, 0, 0) else none))) else (bif Nat.ble pc 27 then (bif Nat.ble pc 20 then (bif Nat.beq pc 18 then some (.bipush 40, 20, 0, 0) else bif Nat.beq pc 20 then some (.invokevirtual 153, 23, 0, 0) else none) else (bif Nat.beq pc 23 then some (.ifCond .eq 78, 26, 101, 0) else bif Nat.beq pc 26 then some (.aload_n 0, 27, 0, 0) else bif Nat.beq pc 27 then some (.getfield 150, 30, 10, 5) else none)) else (bif Nat.ble pc 31 then (bif Nat.beq pc 30 then some (.aload_n 0, 31, 0, 0) else bif Nat.beq pc 31 then some (.getfield 138, 34, 10, 4) else none) else (bif Nat.beq pc 34 then some (.if_icmp .ge 31, 37, 65, 0) else bif Nat.beq pc 37 then some (.aload_n 0, 38, 0, 0) else bif Nat.beq pc 38 then some (.aload_n 0, 39, 0, 0) else none)))) else (bif Nat.ble pc 58 then (bif Nat.ble pc 49 then (bif Nat.ble pc 42 then (bif Nat.beq pc 39 then some (.getfield 150, 42, 10, 5) else bif Nat.beq pc 42 then some (.bipush 36, 44, 0, 0) else none) else (bif Nat.beq pc 44 then some (.bipush 41, 46, 0, 0) else bif Nat.beq pc 46 then some (.invokevirtual 153, 49, 0, 0) else bif Nat.beq pc 49 then some (.ifCond .ne 16, 52, 65, 0) else none)) else (bif Nat.ble pc 53 then (bif Nat.beq pc 52 then some (.aload_n 0, 53, 0, 0) else bif Nat.beq pc 53 then some (.dup, 54, 0, 0) else none) else (bif Nat.beq pc 54 then some (.getfield 150, 57, 10, 5) else bif Nat.beq pc 57 then some (.iconst 1, 58, 0, 0) else bif Nat.beq pc 58 then some (.iadd, 59, 0, 0) else none))) else (bif Nat.ble pc 69 then (bif Nat.ble pc 62 then (bif Nat.beq pc 59 then some (.putfield 150, 62, 10, 5) else bif Nat.beq pc 62 then some (.goto (-36), 65, 26, 0) else none) else (bif Nat.beq pc 65 then some (.aload_n 0, 66, 0, 0) else bif Nat.beq pc 66 then some (.getfield 150, 69, 10, 5) else bif Nat.beq pc 69 then some (.aload_n 0, 70, 0, 0) else none)) else (bif Nat.ble pc 73 then (bif Nat.beq pc 70 then some (.getfield 138, 73, 10, 4) else bif Nat.beq pc 73 then some (.if_icmp .ne 15, 76, 88, 0) else none) else (bif Nat.beq pc 76 then some (.aload_n 0, 77, 0, 0) else bif Nat.beq pc 77 then some (.bipush (-2), 79, 0, 0) else bif Nat.beq pc 79 then some (.aload_n 0, 80, 0, 0) else none))))) else (bif Nat.ble pc 116 then (bif Nat.ble pc 94 then (bif Nat.ble pc 87 then (bif Nat.ble pc 83 then (bif Nat.beq pc 80 then some (.getfield 138, 83, 10, 4) else bif Nat.beq pc 83 then some (.invokevirtual 157, 86, 0, 0) else none) else (bif Nat.beq pc 86 then some (.iconst 0, 87, 0, 0) else bif Nat.beq pc 87 then some (.ireturn, 88, 0, 0) else none)) else (bif Nat.ble pc 89 then (bif Nat.beq pc 88 then some (.aload_n 0, 89, 0, 0) else bif Nat.beq pc 89 then some (.dup, 90, 0, 0) else none) else (bif Nat.beq pc 90 then some (.getfield 150, 93, 10, 5) else bif Nat.beq pc 93 then some (.iconst 1, 94, 0, 0) else bif Nat.beq pc 94 then some (.iadd, 95, 0, 0) else none))) else (bif Nat.ble pc 105 then (bif Nat.ble pc 98 then (bif Nat.beq pc 95 then some (.putfield 150, 98, 10, 5) else bif Nat.beq pc 98 then some (.goto (-98), 101, 0, 0) else none) else (bif Nat.beq pc 101 then some (.aload_n 0, 102, 0, 0) else bif Nat.beq pc 102 then some (.getfield 150, 105, 10, 5) else bif Nat.beq pc 105 then some (.aload_n 0, 106, 0, 0) else none)) else (bif Nat.ble pc 109 then (bif Nat.beq pc 106 then some (.getfield 138, 109, 10, 4) else bif Nat.beq pc 109 then some (.if_icmp .ge 29, 112, 138, 0) else none) else (bif Nat.beq pc 112 then some (.aload_n 0, 113, 0, 0) else bif Nat.beq pc 113 then some (.getfield 16, 116, 10, 3) else bif Nat.beq pc 116 then some (.aload_n 0, 117, 0, 0) else none)))) else (bif Nat.ble pc 136 then (bif Nat.ble pc 126 then (bif Nat.ble pc 120 then (bif Nat.beq pc 117 then some (.getfield 150, 120, 10, 5) else bif Nat.beq pc 120 then some (.iaload, 121, 0, 0) else none) else (bif Nat.beq pc 121 then some (.bipush 8, 123, 0, 0) else bif Nat.beq pc 123 then some (.if_icmp .le 15, 126, 138, 0) else bif Nat.beq pc 126 then some (.aload_n 0, 127, 0, 0) else none)) else (bif Nat.ble pc 129 then (bif Nat.beq pc 127 then some (.bipush (-3), 129, 0, 0) else bif Nat.beq pc 129 then some (.aload_n 0, 130, 0, 0) else none) else (bif Nat.beq pc 130 then some (.getfield 150, 133, 10, 5) else bif Nat.beq pc 133 then some (.invokevirtual 157, 136, 0, 0) else bif Nat.beq pc 136 then some (.iconst 0, 137, 0, 0) else none))) else (bif Nat.ble pc 143 then (bif Nat.ble pc 138 then (bif Nat.beq pc 137 then some (.ireturn, 138, 0, 0) else bif Nat.beq pc 138 then some (.aload_n 0, 139, 0, 0) else none) else (bif Nat.beq pc 139 then some (.getfield 150, 142, 10, 5) else bif Nat.beq pc 142 then some (.aload_n 0, 143, 0, 0) else bif Nat.beq pc 143 then some (.getfield 138, 146, 10, 4) else none)) else (bif Nat.ble pc 149 then (bif Nat.beq pc 146 then some (.if_icmp .ge 7, 149, 153, 0) else bif Nat.beq pc 149 then some (.iconst 1, 150, 0, 0) else none) else (bif Nat.beq pc 150 then some (.goto 4, 153, 154, 0) else bif Nat.beq pc 153 then some (.iconst 0, 154, 0, 0) else bif Nat.beq pc 154 then some (.ireturn, 155, 0, 0) else none))))))
set_option maxRecDepth 100000 in
set_option maxHeartbeats 4000000 in
theorem ok_M_come : am_CD m_M_come cd_M_come := am_CD_of 155 fl_M_ok cn_M_ok kl_M_ok pl_M_ok (by intro pc h; unfold cd_M_come; rw [Nat.ble_eq_true_of_le h]; rfl) (by decide +kernel)
def cd_M_isTwo (pc : Nat) : Option am_I := bif Nat.ble 36 pc then none else (bif Nat.ble pc 16 then (bif Nat.ble pc 6 then (bif Nat.ble pc 1 then (bif Nat.beq pc 0 then some (.aload_n 0, 1, 0, 0) else bif Nat.beq pc 1 then some (.getfield 16, 4, 10, 3) else none) else (bif Nat.beq pc 4 then some (.iload_n 1, 5, 0, 0) else bif Nat.beq pc 5 then some (.iaload, 6, 0, 0) else bif Nat.beq pc 6 then some (.iconst 2, 7, 0, 0) else none)) else (bif Nat.ble pc 11 then (bif Nat.beq pc 7 then some (.if_icmp .ne 27, 10, 34, 0) else bif Nat.beq pc 10 then some (.aload_n 0, 11, 0, 0) else bif Nat.beq pc 11 then some (.iload_n 1, 12, 0, 0) else none) else (bif Nat.beq pc 12 then some (.iconst 0, 13, 0, 0) else bif Nat.beq pc 13 then some (.invokevirtual 141, 16, 0, 0) else bif Nat.beq pc 16 then some (.iload_n 2, 17, 0, 0) else none))) else (bif Nat.ble pc 23 then (bif Nat.ble pc 20 then (bif Nat.beq pc 17 then some (.if_icmp .ne 17, 20, 34, 0) else bif Nat.beq pc 20 then some (.aload_n 0, 21, 0, 0) else none) else (bif Nat.beq pc 21 then some (.iload_n 1, 22, 0, 0) else bif Nat.beq pc 22 then some (.iconst 1, 23, 0, 0) else bif Nat.beq pc 23 then some (.invokevirtual 141, 26, 0, 0) else none)) else (bif Nat.ble pc 30 then (bif Nat.beq pc 26 then some (.iload_n 3, 27, 0, 0) else bif Nat.beq pc 27 then some (.if_icmp .ne 7, 30, 34, 0) else bif Nat.beq pc 30 then some (.iconst 1, 31, 0, 0) else none) else (bif Nat.beq pc 31 then some (.goto 4, 34, 35, 0) else bif Nat.beq pc 34 then some (.iconst 0, 35, 0, 0) else bif Nat.beq pc 35 then some (.ireturn, 36, 0, 0) else none))))
set_option maxRecDepth 100000 in
set_option maxHeartbeats 4000000 in
theorem ok_M_isTwo : am_CD m_M_isTwo cd_M_isTwo := am_CD_of 36 fl_M_ok cn_M_ok kl_M_ok pl_M_ok (by intro pc h; unfold cd_M_isTwo; rw [Nat.ble_eq_true_of_le h]; rfl) (by decide +kernel)
def cd_M_letter (pc : Nat) : Option am_I := bif Nat.ble 28 pc then none else (bif Nat.ble pc 14 then (bif Nat.ble pc 5 then (bif Nat.ble pc 1 then (bif Nat.beq pc 0 then some (.iload_n 2, 1, 0, 0) else bif Nat.beq pc 1 then some (.aload_n 0, 2, 0, 0) else none) else (bif Nat.beq pc 2 then some (.getfield 16, 5, 10, 3) else bif Nat.beq pc 5 then some (.iload_n 1, 6, 0, 0) else none)) else (bif Nat.ble pc 7 then (bif Nat.beq pc 6 then some (.iaload, 7, 0, 0) else bif Nat.beq pc 7 then some (.if_icmp .ge 19, 10, 26, 0) else none) else (bif Nat.beq pc 10 then some (.aload_n 0, 11, 0, 0) else bif Nat.beq pc 11 then some (.getfield 7, 14, 10, 0) else bif Nat.beq pc 14 then some (.aload_n 0, 15, 0, 0) else none))) else (bif Nat.ble pc 20 then (bif Nat.ble pc 18 then (bif Nat.beq pc 15 then some (.getfield 13, 18, 10, 2) else bif Nat.beq pc 18 then some (.iload_n 1, 19, 0, 0) else none) else (bif Nat.beq pc 19 then some (.iaload, 20, 0, 0) else bif Nat.beq pc 20 then some (.iload_n 2, 21, 0, 0) else none)) else (bif Nat.ble pc 22 then (bif Nat.beq pc 21 then some (.iadd, 22, 0, 0) else bif Nat.beq pc 22 then some (.iaload, 23, 0, 0) else none) else (bif Nat.beq pc 23 then some (.goto 4, 26, 27, 0) else bif Nat.beq pc 26 then some (.iconst 0, 27, 0, 0) else bif Nat.beq pc 27 then some (.ireturn, 28, 0, 0) else none))))
set_option maxRecDepth 100000 in
set_option maxHeartbeats 4000000 in
theorem ok_M_letter : am_CD m_M_letter cd_M_letter := am_CD_of 28 fl_M_ok cn_M_ok kl_M_ok pl_M_ok (by intro pc h; unfold cd_M_letter; rw [Nat.ble_eq_true_of_le h]; rfl) (by decide +kernel)
def cd_M_fail (pc : Nat) : Option am_I := bif Nat.ble 18 pc then none else (bif Nat.ble pc 8 then (bif Nat.ble pc 1 then (bif Nat.beq pc 0 then some (.aload_n 0, 1, 0, 0) else bif Nat.beq pc 1 then some (.getfield 147, 4, 10, 6) else none) else (bif Nat.beq pc 4 then some (.ifCond .ne 13, 7, 17, 0) else bif Nat.beq pc 7 then some (.aload_n 0, 8, 0, 0) else bif Nat.beq pc 8 then some (.iload_n 1, 9, 0, 0) else none)) else (bif Nat.ble pc 12 then (bif Nat.beq pc 9 then some (.putfield 147, 12, 10, 6) else bif Nat.beq pc 12 then some (.aload_n 0, 13, 0, 0) else none) else (bif Nat.beq pc 13 then some (.iload_n 2, 14, 0, 0) else bif Nat.beq pc 14 then some (.putfield 19, 17, 10, 7) else bif Nat.beq pc 17 then some (.return_, 18, 0, 0) else none)))
set_option maxRecDepth 100000 in
set_option maxHeartbeats 4000000 in
theorem ok_M_fail : am_CD m_M_fail cd_M_fail := am_CD_of 18 fl_M_ok cn_M_ok kl_M_ok pl_M_ok (by intro pc h; unfold cd_M_fail; rw [Nat.ble_eq_true_of_le h]; rfl) (by decide +kernel)
def cd_M_readStatement (pc : Nat) : Option am_I := bif Nat.ble 181 pc then none else (bif Nat.ble pc 120 then (bif Nat.ble pc 88 then (bif Nat.ble pc 76 then (bif Nat.ble pc 5 then (bif Nat.ble pc 1 then (bif Nat.beq pc 0 then some (.aload_n 0, 1, 0, 0) else bif Nat.beq pc 1 then some (.aload_n 0, 2, 0, 0) else none) else (bif Nat.beq pc 2 then some (.getfield 150, 5, 10, 5) else bif Nat.beq pc 5 then some (.invokevirtual 165, 8, 0, 0) else none)) else (bif Nat.ble pc 72 then (bif Nat.beq pc 8 then some (.tableswitch 162 0 11 #[64, 69, 74, 79, 162, 162, 162, 162, 162, 162, 84, 127], 72, 0, 0) else bif Nat.beq pc 72 then some (.aload_n 0, 73, 0, 0) else none) else (bif Nat.beq pc 73 then some (.invokevirtual 341, 76, 0, 0) else bif Nat.beq pc 76 then some (.return_, 77, 0, 0) else none))) else (bif Nat.ble pc 82 then (bif Nat.ble pc 78 then (bif Nat.beq pc 77 then some (.aload_n 0, 78, 0, 0) else bif Nat.beq pc 78 then some (.invokevirtual 344, 81, 0, 0) else none) else (bif Nat.beq pc 81 then some (.return_, 82, 0, 0) else bif Nat.beq pc 82 then some (.aload_n 0, 83, 0, 0) else none)) else (bif Nat.ble pc 86 then (bif Nat.beq pc 83 then some (.invokevirtual 347, 86, 0, 0) else bif Nat.beq pc 86 then some (.return_, 87, 0, 0) else none) else (bif Nat.beq pc 87 then some (.aload_n 0, 88, 0, 0) else bif Nat.beq pc 88 then some (.invokevirtual 350, 91, 0, 0) else none)))) else (bif Nat.ble pc 104 then (bif Nat.ble pc 96 then (bif Nat.ble pc 92 then (bif Nat.beq pc 91 then some (.return_, 92, 0, 0) else bif Nat.beq pc 92 then some (.aload_n 0, 93, 0, 0) else none) else (bif Nat.beq pc 93 then some (.getfield 187, 96, 10, 14) else bif Nat.beq pc 96 then some (.bipush 6, 98, 0, 0) else none)) else (bif Nat.ble pc 101 then (bif Nat.beq pc 98 then some (.if_icmp .ne 16, 101, 114, 0) else bif Nat.beq pc 101 then some (.aload_n 0, 102, 0, 0) else none) else (bif Nat.beq pc 102 then some (.bipush (-7), 104, 0, 0) else bif Nat.beq pc 104 then some (.aload_n 0, 105, 0, 0) else none))) else (bif Nat.ble pc 114 then (bif Nat.ble pc 108 then (bif Nat.beq pc 105 then some (.getfield 150, 108, 10, 5) else bif Nat.beq pc 108 then some (.invokevirtual 157, 111, 0, 0) else none) else (bif Nat.beq pc 111 then some (.goto 23, 114, 134, 0) else bif Nat.beq pc 114 then some (.aload_n 0, 115, 0, 0) else none)) else (bif Nat.ble pc 116 then (bif Nat.beq pc 115 then some (.dup, 116, 0, 0) else bif Nat.beq pc 116 then some (.getfield 187, 119, 10, 14) else none) else (bif Nat.beq pc 119 then some (.iconst 1, 120, 0, 0) else bif Nat.beq pc 120 then some (.iadd, 121, 0, 0) else none))))) else (bif Nat.ble pc 149 then (bif Nat.ble pc 134 then (bif Nat.ble pc 126 then (bif Nat.ble pc 124 then (bif Nat.beq pc 121 then some (.putfield 187, 124, 10, 14) else bif Nat.beq pc 124 then some (.aload_n 0, 125, 0, 0) else none) else (bif Nat.beq pc 125 then some (.dup, 126, 0, 0) else bif Nat.beq pc 126 then some (.getfield 150, 129, 10, 5) else none)) else (bif Nat.ble pc 130 then (bif Nat.beq pc 129 then some (.iconst 1, 130, 0, 0) else bif Nat.beq pc 130 then some (.iadd, 131, 0, 0) else none) else (bif Nat.beq pc 131 then some (.putfield 150, 134, 10, 5) else bif Nat.beq pc 134 then some (.return_, 135, 0, 0) else none))) else (bif Nat.ble pc 142 then (bif Nat.ble pc 136 then (bif Nat.beq pc 135 then some (.aload_n 0, 136, 0, 0) else bif Nat.beq pc 136 then some (.getfield 187, 139, 10, 14) else none) else (bif Nat.beq pc 139 then some (.ifCond .ne 16, 142, 155, 0) else bif Nat.beq pc 142 then some (.aload_n 0, 143, 0, 0) else none)) else (bif Nat.ble pc 145 then (bif Nat.beq pc 143 then some (.bipush (-5), 145, 0, 0) else bif Nat.beq pc 145 then some (.aload_n 0, 146, 0, 0) else none) else (bif Nat.beq pc 146 then some (.getfield 150, 149, 10, 5) else bif Nat.beq pc 149 then some (.invokevirtual 157, 152, 0, 0) else none)))) else (bif Nat.ble pc 165 then (bif Nat.ble pc 159 then (bif Nat.ble pc 155 then (bif Nat.beq pc 152 then some (.goto 17, 155, 169, 0) else bif Nat.beq pc 155 then some (.aload_n 0, 156, 0, 0) else none) else (bif Nat.beq pc 156 then some (.invokevirtual 353, 159, 0, 0) else bif Nat.beq pc 159 then some (.aload_n 0, 160, 0, 0) else none)) else (bif Nat.ble pc 161 then (bif Nat.beq pc 160 then some (.dup, 161, 0, 0) else bif Nat.beq pc 161 then some (.getfield 150, 164, 10, 5) else none) else (bif Nat.beq pc 164 then some (.iconst 1, 165, 0, 0) else bif Nat.beq pc 165 then some (.iadd, 166, 0, 0) else none))) else (bif Nat.ble pc 171 then (bif Nat.ble pc 169 then (bif Nat.beq pc 166 then some (.putfield 150, 169, 10, 5) else bif Nat.beq pc 169 then some (.return_, 170, 0, 0) else none) else (bif Nat.beq pc 170 then some (.aload_n 0, 171, 0, 0) else bif Nat.beq pc 171 then some (.bipush (-3), 173, 0, 0) else none)) else (bif Nat.ble pc 174 then (bif Nat.beq pc 173 then some (.aload_n 0, 174, 0, 0) else bif Nat.beq pc 174 then some (.getfield 150, 177, 10, 5) else none) else (bif Nat.beq pc 177 then some (.invokevirtual 157, 180, 0, 0) else bif Nat.beq pc 180 then some (.return_, 181, 0, 0) else none))))))
set_option maxRecDepth 100000 in
set_option maxHeartbeats 4000000 in
theorem ok_M_readStatement : am_CD m_M_readStatement cd_M_readStatement := am_CD_of 181 fl_M_ok cn_M_ok kl_M_ok pl_M_ok (by intro pc h; unfold cd_M_readStatement; rw [Nat.ble_eq_true_of_le h]; rfl) (by decide +kernel)
def cd_M_whatIs (pc : Nat) : Option am_I := bif Nat.ble 203 pc then none else (bif Nat.ble pc 55 then (bif Nat.ble pc 25 then (bif Nat.ble pc 9 then (bif Nat.ble pc 3 then (bif Nat.ble pc 1 then (bif Nat.beq pc 0 then some (.iconst 0, 1, 0, 0) else bif Nat.beq pc 1 then some (.istore_n 2, 2, 0, 0) else none) else (bif Nat.beq pc 2 then some (.iconst 0, 3, 0, 0) else bif Nat.beq pc 3 then some (.istore_n 3, 4, 0, 0) else none)) else (bif Nat.ble pc 5 then (bif Nat.beq pc 4 then some (.iload_n 3, 5, 0, 0) else bif Nat.beq pc 5 then some (.aload_n 0, 6, 0, 0) else none) else (bif Nat.beq pc 6 then some (.getfield 16, 9, 10, 3) else bif Nat.beq pc 9 then some (.iload_n 1, 10, 0, 0) else none))) else (bif Nat.ble pc 15 then (bif Nat.ble pc 11 then (bif Nat.beq pc 10 then some (.iaload, 11, 0, 0) else bif Nat.beq pc 11 then some (.if_icmp .ge 28, 14, 39, 0) else none) else (bif Nat.beq pc 14 then some (.aload_n 0, 15, 0, 0) else bif Nat.beq pc 15 then some (.iload_n 1, 16, 0, 0) else none)) else (bif Nat.ble pc 17 then (bif Nat.beq pc 16 then some (.iload_n 3, 17, 0, 0) else bif Nat.beq pc 17 then some (.invokevirtual 141, 20, 0, 0) else none) else (bif Nat.beq pc 20 then some (.bipush 36, 22, 0, 0) else bif Nat.beq pc 22 then some (.if_icmp .ne 9, 25, 31, 0) else bif Nat.beq pc 25 then some (.iload_n 2, 26, 0, 0) else none)))) else (bif Nat.ble pc 40 then (bif Nat.ble pc 31 then (bif Nat.ble pc 27 then (bif Nat.beq pc 26 then some (.iconst 1, 27, 0, 0) else bif Nat.beq pc 27 then some (.iadd, 28, 0, 0) else none) else (bif Nat.beq pc 28 then some (.goto 4, 31, 32, 0) else bif Nat.beq pc 31 then some (.iload_n 2, 32, 0, 0) else none)) else (bif Nat.ble pc 33 then (bif Nat.beq pc 32 then some (.istore_n 2, 33, 0, 0) else bif Nat.beq pc 33 then some (.iinc 3 1, 36, 0, 0) else none) else (bif Nat.beq pc 36 then some (.goto (-32), 39, 4, 0) else bif Nat.beq pc 39 then some (.iload_n 2, 40, 0, 0) else bif Nat.beq pc 40 then some (.ifCond .ne 5, 43, 45, 0) else none))) else (bif Nat.ble pc 46 then (bif Nat.ble pc 44 then (bif Nat.beq pc 43 then some (.iconst 0, 44, 0, 0) else bif Nat.beq pc 44 then some (.ireturn, 45, 0, 0) else none) else (bif Nat.beq pc 45 then some (.aload_n 0, 46, 0, 0) else bif Nat.beq pc 46 then some (.getfield 16, 49, 10, 3) else none)) else (bif Nat.ble pc 50 then (bif Nat.beq pc 49 then some (.iload_n 1, 50, 0, 0) else bif Nat.beq pc 50 then some (.iaload, 51, 0, 0) else none) else (bif Nat.beq pc 51 then some (.iconst 2, 52, 0, 0) else bif Nat.beq pc 52 then some (.if_icmp .ne 14, 55, 66, 0) else bif Nat.beq pc 55 then some (.aload_n 0, 56, 0, 0) else none))))) else (bif Nat.ble pc 177 then (bif Nat.ble pc 70 then (bif Nat.ble pc 61 then (bif Nat.ble pc 57 then (bif Nat.beq pc 56 then some (.iload_n 1, 57, 0, 0) else bif Nat.beq pc 57 then some (.iconst 0, 58, 0, 0) else none) else (bif Nat.beq pc 58 then some (.invokevirtual 141, 61, 0, 0) else bif Nat.beq pc 61 then some (.bipush 36, 63, 0, 0) else none)) else (bif Nat.ble pc 66 then (bif Nat.beq pc 63 then some (.if_icmp .eq 6, 66, 69, 0) else bif Nat.beq pc 66 then some (.bipush 12, 68, 0, 0) else none) else (bif Nat.beq pc 68 then some (.ireturn, 69, 0, 0) else bif Nat.beq pc 69 then some (.aload_n 0, 70, 0, 0) else bif Nat.beq pc 70 then some (.iload_n 1, 71, 0, 0) else none))) else (bif Nat.ble pc 172 then (bif Nat.ble pc 72 then (bif Nat.beq pc 71 then some (.iconst 1, 72, 0, 0) else bif Nat.beq pc 72 then some (.invokevirtual 141, 75, 0, 0) else none) else (bif Nat.beq pc 75 then some (.lookupswitch 125 #[(46, 116), (61, 113), (97, 107), (99, 97), (100, 101), (101, 105), (102, 103), (112, 110), (118, 99), (123, 119), (125, 122)], 172, 0, 0) else bif Nat.beq pc 172 then some (.iconst 1, 173, 0, 0) else none)) else (bif Nat.ble pc 174 then (bif Nat.beq pc 173 then some (.ireturn, 174, 0, 0) else bif Nat.beq pc 174 then some (.iconst 2, 175, 0, 0) else none) else (bif Nat.beq pc 175 then some (.ireturn, 176, 0, 0) else bif Nat.beq pc 176 then some (.iconst 3, 177, 0, 0) else bif Nat.beq pc 177 then some (.ireturn, 178, 0, 0) else none)))) else (bif Nat.ble pc 188 then (bif Nat.ble pc 181 then (bif Nat.ble pc 179 then (bif Nat.beq pc 178 then some (.iconst 4, 179, 0, 0) else bif Nat.beq pc 179 then some (.ireturn, 180, 0, 0) else none) else (bif Nat.beq pc 180 then some (.iconst 5, 181, 0, 0) else bif Nat.beq pc 181 then some (.ireturn, 182, 0, 0) else none)) else (bif Nat.ble pc 184 then (bif Nat.beq pc 182 then some (.bipush 6, 184, 0, 0) else bif Nat.beq pc 184 then some (.ireturn, 185, 0, 0) else none) else (bif Nat.beq pc 185 then some (.bipush 7, 187, 0, 0) else bif Nat.beq pc 187 then some (.ireturn, 188, 0, 0) else bif Nat.beq pc 188 then some (.bipush 8, 190, 0, 0) else none))) else (bif Nat.ble pc 194 then (bif Nat.ble pc 191 then (bif Nat.beq pc 190 then some (.ireturn, 191, 0, 0) else bif Nat.beq pc 191 then some (.bipush 9, 193, 0, 0) else none) else (bif Nat.beq pc 193 then some (.ireturn, 194, 0, 0) else bif Nat.beq pc 194 then some (.bipush 10, 196, 0, 0) else none)) else (bif Nat.ble pc 197 then (bif Nat.beq pc 196 then some (.ireturn, 197, 0, 0) else bif Nat.beq pc 197 then some (.bipush 11, 199, 0, 0) else none) else (bif Nat.beq pc 199 then some (.ireturn, 200, 0, 0) else bif Nat.beq pc 200 then some (.bipush 12, 202, 0, 0) else bif Nat.beq pc 202 then some (.ireturn, 203, 0, 0) else none))))))
set_option maxRecDepth 100000 in
set_option maxHeartbeats 4000000 in
theorem ok_M_whatIs : am_CD m_M_whatIs cd_M_whatIs := am_CD_of 203 fl_M_ok cn_M_ok kl_M_ok pl_M_ok (by intro pc h; unfold cd_M_whatIs; rw [Nat.ble_eq_true_of_le h]; rfl) (by decide +kernel)
def cd_M_readLabelled (pc : Nat) : Option am_I := bif Nat.ble 229 pc then none else (bif Nat.ble pc 109 then (bif Nat.ble pc 57 then (bif Nat.ble pc 27 then (bif Nat.ble pc 10 then (bif Nat.ble pc 2 then (bif Nat.beq pc 0 then some (.aload_n 0, 1, 0, 0) else bif Nat.beq pc 1 then some (.aload_n 0, 2, 0, 0) else bif Nat.beq pc 2 then some (.getfield 150, 5, 10, 5) else none) else (bif Nat.ble pc 8 then (bif Nat.beq pc 5 then some (.invokevirtual 176, 8, 0, 0) else bif Nat.beq pc 8 then some (.lstore_n 1, 9, 0, 0) else none) else (bif Nat.beq pc 9 then some (.aload_n 0, 10, 0, 0) else bif Nat.beq pc 10 then some (.lload_n 1, 11, 0, 0) else none))) else (bif Nat.ble pc 18 then (bif Nat.ble pc 14 then (bif Nat.beq pc 11 then some (.invokevirtual 180, 14, 0, 0) else bif Nat.beq pc 14 then some (.ifCond .lt 14, 17, 28, 0) else none) else (bif Nat.beq pc 17 then some (.aload_n 0, 18, 0, 0) else bif Nat.beq pc 18 then some (.bipush (-4), 20, 0, 0) else none)) else (bif Nat.ble pc 21 then (bif Nat.beq pc 20 then some (.aload_n 0, 21, 0, 0) else bif Nat.beq pc 21 then some (.getfield 150, 24, 10, 5) else none) else (bif Nat.beq pc 24 then some (.invokevirtual 157, 27, 0, 0) else bif Nat.beq pc 27 then some (.return_, 28, 0, 0) else none)))) else (bif Nat.ble pc 41 then (bif Nat.ble pc 32 then (bif Nat.beq pc 28 then some (.aload_n 0, 29, 0, 0) else bif Nat.beq pc 29 then some (.getfield 173, 32, 10, 8) else bif Nat.beq pc 32 then some (.bipush 60, 34, 0, 0) else none) else (bif Nat.ble pc 37 then (bif Nat.beq pc 34 then some (.if_icmp .eq 12, 37, 46, 0) else bif Nat.beq pc 37 then some (.aload_n 0, 38, 0, 0) else none) else (bif Nat.beq pc 38 then some (.getfield 184, 41, 10, 15) else bif Nat.beq pc 41 then some (.bipush 40, 43, 0, 0) else none))) else (bif Nat.ble pc 49 then (bif Nat.ble pc 46 then (bif Nat.beq pc 43 then some (.if_icmp .ne 14, 46, 57, 0) else bif Nat.beq pc 46 then some (.aload_n 0, 47, 0, 0) else none) else (bif Nat.beq pc 47 then some (.bipush (-7), 49, 0, 0) else bif Nat.beq pc 49 then some (.aload_n 0, 50, 0, 0) else none)) else (bif Nat.ble pc 53 then (bif Nat.beq pc 50 then some (.getfield 150, 53, 10, 5) else bif Nat.beq pc 53 then some (.invokevirtual 157, 56, 0, 0) else none) else (bif Nat.beq pc 56 then some (.return_, 57, 0, 0) else bif Nat.beq pc 57 then some (.aload_n 0, 58, 0, 0) else none))))) else (bif Nat.ble pc 82 then (bif Nat.ble pc 68 then (bif Nat.ble pc 62 then (bif Nat.beq pc 58 then some (.dup, 59, 0, 0) else bif Nat.beq pc 59 then some (.getfield 150, 62, 10, 5) else bif Nat.beq pc 62 then some (.iconst 1, 63, 0, 0) else none) else (bif Nat.ble pc 64 then (bif Nat.beq pc 63 then some (.iadd, 64, 0, 0) else bif Nat.beq pc 64 then some (.putfield 150, 67, 10, 5) else none) else (bif Nat.beq pc 67 then some (.aload_n 0, 68, 0, 0) else bif Nat.beq pc 68 then some (.invokevirtual 169, 71, 0, 0) else none))) else (bif Nat.ble pc 76 then (bif Nat.ble pc 72 then (bif Nat.beq pc 71 then some (.istore_n 3, 72, 0, 0) else bif Nat.beq pc 72 then some (.iload_n 3, 73, 0, 0) else none) else (bif Nat.beq pc 73 then some (.ifCond .ge 4, 76, 77, 0) else bif Nat.beq pc 76 then some (.return_, 77, 0, 0) else none)) else (bif Nat.ble pc 78 then (bif Nat.beq pc 77 then some (.iload_n 3, 78, 0, 0) else bif Nat.beq pc 78 then some (.iconst 4, 79, 0, 0) else none) else (bif Nat.beq pc 79 then some (.if_icmp .ne 11, 82, 90, 0) else bif Nat.beq pc 82 then some (.aload_n 0, 83, 0, 0) else none)))) else (bif Nat.ble pc 95 then (bif Nat.ble pc 87 then (bif Nat.beq pc 83 then some (.lload_n 1, 84, 0, 0) else bif Nat.beq pc 84 then some (.invokevirtual 236, 87, 0, 0) else bif Nat.beq pc 87 then some (.goto 141, 90, 228, 0) else none) else (bif Nat.ble pc 91 then (bif Nat.beq pc 90 then some (.iload_n 3, 91, 0, 0) else bif Nat.beq pc 91 then some (.iconst 5, 92, 0, 0) else none) else (bif Nat.beq pc 92 then some (.if_icmp .eq 15, 95, 107, 0) else bif Nat.beq pc 95 then some (.iload_n 3, 96, 0, 0) else none))) else (bif Nat.ble pc 102 then (bif Nat.ble pc 98 then (bif Nat.beq pc 96 then some (.bipush 6, 98, 0, 0) else bif Nat.beq pc 98 then some (.if_icmp .eq 9, 101, 107, 0) else none) else (bif Nat.beq pc 101 then some (.iload_n 3, 102, 0, 0) else bif Nat.beq pc 102 then some (.bipush 7, 104, 0, 0) else none)) else (bif Nat.ble pc 107 then (bif Nat.beq pc 104 then some (.if_icmp .ne 114, 107, 218, 0) else bif Nat.beq pc 107 then some (.aload_n 0, 108, 0, 0) else none) else (bif Nat.beq pc 108 then some (.iload_n 3, 109, 0, 0) else bif Nat.beq pc 109 then some (.bipush 7, 111, 0, 0) else none)))))) else (bif Nat.ble pc 170 then (bif Nat.ble pc 140 then (bif Nat.ble pc 127 then (bif Nat.ble pc 116 then (bif Nat.beq pc 111 then some (.if_icmp .ne 8, 114, 119, 0) else bif Nat.beq pc 114 then some (.bipush 8, 116, 0, 0) else bif Nat.beq pc 116 then some (.goto 5, 119, 121, 0) else none) else (bif Nat.ble pc 121 then (bif Nat.beq pc 119 then some (.bipush 9, 121, 0, 0) else bif Nat.beq pc 121 then some (.invokevirtual 240, 124, 0, 0) else none) else (bif Nat.beq pc 124 then some (.ifCond .ne 4, 127, 128, 0) else bif Nat.beq pc 127 then some (.return_, 128, 0, 0) else none))) else (bif Nat.ble pc 134 then (bif Nat.ble pc 129 then (bif Nat.beq pc 128 then some (.aload_n 0, 129, 0, 0) else bif Nat.beq pc 129 then some (.getfield 226, 132, 10, 27) else none) else (bif Nat.beq pc 132 then some (.istore 4, 134, 0, 0) else bif Nat.beq pc 134 then some (.iload_n 3, 135, 0, 0) else none)) else (bif Nat.ble pc 136 then (bif Nat.beq pc 135 then some (.iconst 5, 136, 0, 0) else bif Nat.beq pc 136 then some (.if_icmp .eq 25, 139, 161, 0) else none) else (bif Nat.beq pc 139 then some (.aload_n 0, 140, 0, 0) else bif Nat.beq pc 140 then some (.invokevirtual 243, 143, 0, 0) else none)))) else (bif Nat.ble pc 155 then (bif Nat.ble pc 146 then (bif Nat.beq pc 143 then some (.aload_n 0, 144, 0, 0) else bif Nat.beq pc 144 then some (.iload 4, 146, 0, 0) else bif Nat.beq pc 146 then some (.invokevirtual 246, 149, 0, 0) else none) else (bif Nat.ble pc 150 then (bif Nat.beq pc 149 then some (.iload_n 3, 150, 0, 0) else bif Nat.beq pc 150 then some (.bipush 7, 152, 0, 0) else none) else (bif Nat.beq pc 152 then some (.if_icmp .ne 9, 155, 161, 0) else bif Nat.beq pc 155 then some (.aload_n 0, 156, 0, 0) else none))) else (bif Nat.ble pc 162 then (bif Nat.ble pc 158 then (bif Nat.beq pc 156 then some (.iload 4, 158, 0, 0) else bif Nat.beq pc 158 then some (.invokevirtual 250, 161, 0, 0) else none) else (bif Nat.beq pc 161 then some (.aload_n 0, 162, 0, 0) else bif Nat.beq pc 162 then some (.getfield 147, 165, 10, 6) else none)) else (bif Nat.ble pc 168 then (bif Nat.beq pc 165 then some (.ifCond .ne 50, 168, 215, 0) else bif Nat.beq pc 168 then some (.aload_n 0, 169, 0, 0) else none) else (bif Nat.beq pc 169 then some (.iload_n 3, 170, 0, 0) else bif Nat.beq pc 170 then some (.lload_n 1, 171, 0, 0) else none))))) else (bif Nat.ble pc 198 then (bif Nat.ble pc 182 then (bif Nat.ble pc 176 then (bif Nat.beq pc 171 then some (.invokevirtual 222, 174, 0, 0) else bif Nat.beq pc 174 then some (.istore 5, 176, 0, 0) else bif Nat.beq pc 176 then some (.iload_n 3, 177, 0, 0) else none) else (bif Nat.ble pc 178 then (bif Nat.beq pc 177 then some (.iconst 5, 178, 0, 0) else bif Nat.beq pc 178 then some (.if_icmp .eq 37, 181, 215, 0) else none) else (bif Nat.beq pc 181 then some (.aload_n 0, 182, 0, 0) else bif Nat.beq pc 182 then some (.getfield 58, 185, 10, 22) else none))) else (bif Nat.ble pc 190 then (bif Nat.ble pc 187 then (bif Nat.beq pc 185 then some (.iload 5, 187, 0, 0) else bif Nat.beq pc 187 then some (.iload 4, 189, 0, 0) else none) else (bif Nat.beq pc 189 then some (.iastore, 190, 0, 0) else bif Nat.beq pc 190 then some (.aload_n 0, 191, 0, 0) else none)) else (bif Nat.ble pc 194 then (bif Nat.beq pc 191 then some (.getfield 70, 194, 10, 28) else bif Nat.beq pc 194 then some (.iload 4, 196, 0, 0) else none) else (bif Nat.beq pc 196 then some (.iload 5, 198, 0, 0) else bif Nat.beq pc 198 then some (.iastore, 199, 0, 0) else none)))) else (bif Nat.ble pc 211 then (bif Nat.ble pc 205 then (bif Nat.ble pc 200 then (bif Nat.beq pc 199 then some (.aload_n 0, 200, 0, 0) else bif Nat.beq pc 200 then some (.iload 4, 202, 0, 0) else none) else (bif Nat.beq pc 202 then some (.invokevirtual 253, 205, 0, 0) else bif Nat.beq pc 205 then some (.aload_n 0, 206, 0, 0) else none)) else (bif Nat.ble pc 207 then (bif Nat.beq pc 206 then some (.dup, 207, 0, 0) else bif Nat.beq pc 207 then some (.getfield 226, 210, 10, 27) else none) else (bif Nat.beq pc 210 then some (.iconst 1, 211, 0, 0) else bif Nat.beq pc 211 then some (.iadd, 212, 0, 0) else none))) else (bif Nat.ble pc 219 then (bif Nat.ble pc 215 then (bif Nat.beq pc 212 then some (.putfield 226, 215, 10, 27) else bif Nat.beq pc 215 then some (.goto 13, 218, 228, 0) else none) else (bif Nat.beq pc 218 then some (.aload_n 0, 219, 0, 0) else bif Nat.beq pc 219 then some (.bipush (-3), 221, 0, 0) else none)) else (bif Nat.ble pc 222 then (bif Nat.beq pc 221 then some (.aload_n 0, 222, 0, 0) else bif Nat.beq pc 222 then some (.getfield 150, 225, 10, 5) else none) else (bif Nat.beq pc 225 then some (.invokevirtual 157, 228, 0, 0) else bif Nat.beq pc 228 then some (.return_, 229, 0, 0) else none)))))))
set_option maxRecDepth 100000 in
set_option maxHeartbeats 4000000 in
theorem ok_M_readLabelled : am_CD m_M_readLabelled cd_M_readLabelled := am_CD_of 229 fl_M_ok cn_M_ok kl_M_ok pl_M_ok (by intro pc h; unfold cd_M_readLabelled; rw [Nat.ble_eq_true_of_le h]; rfl) (by decide +kernel)
def cd_M_codeOf (pc : Nat) : Option am_I := bif Nat.ble 39 pc then none else (bif Nat.ble pc 17 then (bif Nat.ble pc 7 then (bif Nat.ble pc 2 then (bif Nat.beq pc 0 then some (.lconst 0, 1, 0, 0) else bif Nat.beq pc 1 then some (.lstore_n 2, 2, 0, 0) else bif Nat.beq pc 2 then some (.iconst 0, 3, 0, 0) else none) else (bif Nat.beq pc 3 then some (.istore 4, 5, 0, 0) else bif Nat.beq pc 5 then some (.iload 4, 7, 0, 0) else bif Nat.beq pc 7 then some (.aload_n 0, 8, 0, 0) else none)) else (bif Nat.ble pc 12 then (bif Nat.beq pc 8 then some (.getfield 16, 11, 10, 3) else bif Nat.beq pc 11 then some (.iload_n 1, 12, 0, 0) else bif Nat.beq pc 12 then some (.iaload, 13, 0, 0) else none) else (bif Nat.beq pc 13 then some (.if_icmp .ge 24, 16, 37, 0) else bif Nat.beq pc 16 then some (.lload_n 2, 17, 0, 0) else bif Nat.beq pc 17 then some (.ldc2_w 145, 20, 128, 0) else none))) else (bif Nat.ble pc 28 then (bif Nat.ble pc 22 then (bif Nat.beq pc 20 then some (.lmul, 21, 0, 0) else bif Nat.beq pc 21 then some (.aload_n 0, 22, 0, 0) else bif Nat.beq pc 22 then some (.iload_n 1, 23, 0, 0) else none) else (bif Nat.beq pc 23 then some (.iload 4, 25, 0, 0) else bif Nat.beq pc 25 then some (.invokevirtual 141, 28, 0, 0) else bif Nat.beq pc 28 then some (.i2l, 29, 0, 0) else none)) else (bif Nat.ble pc 31 then (bif Nat.beq pc 29 then some (.ladd, 30, 0, 0) else bif Nat.beq pc 30 then some (.lstore_n 2, 31, 0, 0) else bif Nat.beq pc 31 then some (.iinc 4 1, 34, 0, 0) else none) else (bif Nat.beq pc 34 then some (.goto (-29), 37, 5, 0) else bif Nat.beq pc 37 then some (.lload_n 2, 38, 0, 0) else bif Nat.beq pc 38 then some (.lreturn, 39, 0, 0) else none))))
set_option maxRecDepth 100000 in
set_option maxHeartbeats 4000000 in
theorem ok_M_codeOf : am_CD m_M_codeOf cd_M_codeOf := am_CD_of 39 fl_M_ok cn_M_ok kl_M_ok pl_M_ok (by intro pc h; unfold cd_M_codeOf; rw [Nat.ble_eq_true_of_le h]; rfl) (by decide +kernel)
def cd_M_find (pc : Nat) : Option am_I := bif Nat.ble 31 pc then none else (bif Nat.ble pc 14 then (bif Nat.ble pc 3 then (bif Nat.ble pc 1 then (bif Nat.beq pc 0 then some (.iconst 0, 1, 0, 0) else bif Nat.beq pc 1 then some (.istore_n 3, 2, 0, 0) else none) else (bif Nat.beq pc 2 then some (.iload_n 3, 3, 0, 0) else bif Nat.beq pc 3 then some (.aload_n 0, 4, 0, 0) else none)) else (bif Nat.ble pc 7 then (bif Nat.beq pc 4 then some (.getfield 173, 7, 10, 8) else bif Nat.beq pc 7 then some (.if_icmp .ge 22, 10, 29, 0) else none) else (bif Nat.beq pc 10 then some (.aload_n 0, 11, 0, 0) else bif Nat.beq pc 11 then some (.getfield 23, 14, 10, 9) else bif Nat.beq pc 14 then some (.iload_n 3, 15, 0, 0) else none))) else (bif Nat.ble pc 21 then (bif Nat.ble pc 16 then (bif Nat.beq pc 15 then some (.laload, 16, 0, 0) else bif Nat.beq pc 16 then some (.lload_n 1, 17, 0, 0) else none) else (bif Nat.beq pc 17 then some (.lcmp, 18, 0, 0) else bif Nat.beq pc 18 then some (.ifCond .ne 5, 21, 23, 0) else bif Nat.beq pc 21 then some (.iload_n 3, 22, 0, 0) else none)) else (bif Nat.ble pc 23 then (bif Nat.beq pc 22 then some (.ireturn, 23, 0, 0) else bif Nat.beq pc 23 then some (.iinc 3 1, 26, 0, 0) else none) else (bif Nat.beq pc 26 then some (.goto (-24), 29, 2, 0) else bif Nat.beq pc 29 then some (.iconst (-1), 30, 0, 0) else bif Nat.beq pc 30 then some (.ireturn, 31, 0, 0) else none))))
set_option maxRecDepth 100000 in
set_option maxHeartbeats 4000000 in
theorem ok_M_find : am_CD m_M_find cd_M_find := am_CD_of 31 fl_M_ok cn_M_ok kl_M_ok pl_M_ok (by intro pc h; unfold cd_M_find; rw [Nat.ble_eq_true_of_le h]; rfl) (by decide +kernel)
def cd_M_need (pc : Nat) : Option am_I := bif Nat.ble 28 pc then none else (bif Nat.ble pc 11 then (bif Nat.ble pc 4 then (bif Nat.beq pc 0 then some (.aload_n 0, 1, 0, 0) else bif Nat.beq pc 1 then some (.invokevirtual 161, 4, 0, 0) else bif Nat.beq pc 4 then some (.ifCond .ne 15, 7, 19, 0) else none) else (bif Nat.ble pc 8 then (bif Nat.beq pc 7 then some (.aload_n 0, 8, 0, 0) else bif Nat.beq pc 8 then some (.bipush (-2), 10, 0, 0) else none) else (bif Nat.beq pc 10 then some (.aload_n 0, 11, 0, 0) else bif Nat.beq pc 11 then some (.getfield 138, 14, 10, 4) else none))) else (bif Nat.ble pc 19 then (bif Nat.ble pc 17 then (bif Nat.beq pc 14 then some (.invokevirtual 157, 17, 0, 0) else bif Nat.beq pc 17 then some (.iconst (-1), 18, 0, 0) else none) else (bif Nat.beq pc 18 then some (.ireturn, 19, 0, 0) else bif Nat.beq pc 19 then some (.aload_n 0, 20, 0, 0) else none)) else (bif Nat.ble pc 21 then (bif Nat.beq pc 20 then some (.aload_n 0, 21, 0, 0) else bif Nat.beq pc 21 then some (.getfield 150, 24, 10, 5) else none) else (bif Nat.beq pc 24 then some (.invokevirtual 165, 27, 0, 0) else bif Nat.beq pc 27 then some (.ireturn, 28, 0, 0) else none))))
set_option maxRecDepth 100000 in
set_option maxHeartbeats 4000000 in
theorem ok_M_need : am_CD m_M_need cd_M_need := am_CD_of 28 fl_M_ok cn_M_ok kl_M_ok pl_M_ok (by intro pc h; unfold cd_M_need; rw [Nat.ble_eq_true_of_le h]; rfl) (by decide +kernel)
def cd_M_readFloating (pc : Nat) : Option am_I := bif Nat.ble 146 pc then none else (bif Nat.ble pc 75 then (bif Nat.ble pc 35 then (bif Nat.ble pc 16 then (bif Nat.ble pc 7 then (bif Nat.ble pc 1 then (bif Nat.beq pc 0 then some (.aload_n 0, 1, 0, 0) else bif Nat.beq pc 1 then some (.invokevirtual 216, 4, 0, 0) else none) else (bif Nat.beq pc 4 then some (.ifCond .eq 10, 7, 14, 0) else bif Nat.beq pc 7 then some (.aload_n 0, 8, 0, 0) else none)) else (bif Nat.ble pc 11 then (bif Nat.beq pc 8 then some (.invokevirtual 213, 11, 0, 0) else bif Nat.beq pc 11 then some (.ifCond .ne 4, 14, 15, 0) else none) else (bif Nat.beq pc 14 then some (.return_, 15, 0, 0) else bif Nat.beq pc 15 then some (.aload_n 0, 16, 0, 0) else bif Nat.beq pc 16 then some (.invokevirtual 190, 19, 0, 0) else none))) else (bif Nat.ble pc 25 then (bif Nat.ble pc 20 then (bif Nat.beq pc 19 then some (.istore_n 3, 20, 0, 0) else bif Nat.beq pc 20 then some (.aload_n 0, 21, 0, 0) else none) else (bif Nat.beq pc 21 then some (.iload_n 3, 22, 0, 0) else bif Nat.beq pc 22 then some (.invokevirtual 196, 25, 0, 0) else bif Nat.beq pc 25 then some (.ifCond .eq 16, 28, 41, 0) else none)) else (bif Nat.ble pc 29 then (bif Nat.beq pc 28 then some (.aload_n 0, 29, 0, 0) else bif Nat.beq pc 29 then some (.bipush (-6), 31, 0, 0) else none) else (bif Nat.beq pc 31 then some (.aload_n 0, 32, 0, 0) else bif Nat.beq pc 32 then some (.getfield 150, 35, 10, 5) else bif Nat.beq pc 35 then some (.invokevirtual 157, 38, 0, 0) else none)))) else (bif Nat.ble pc 54 then (bif Nat.ble pc 43 then (bif Nat.ble pc 41 then (bif Nat.beq pc 38 then some (.goto 107, 41, 145, 0) else bif Nat.beq pc 41 then some (.aload_n 0, 42, 0, 0) else none) else (bif Nat.beq pc 42 then some (.iload_n 3, 43, 0, 0) else bif Nat.beq pc 43 then some (.invokevirtual 200, 46, 0, 0) else none)) else (bif Nat.ble pc 49 then (bif Nat.beq pc 46 then some (.ifCond .eq 11, 49, 57, 0) else bif Nat.beq pc 49 then some (.aload_n 0, 50, 0, 0) else none) else (bif Nat.beq pc 50 then some (.iload_n 3, 51, 0, 0) else bif Nat.beq pc 51 then some (.invokevirtual 219, 54, 0, 0) else bif Nat.beq pc 54 then some (.ifCond .lt 16, 57, 70, 0) else none))) else (bif Nat.ble pc 64 then (bif Nat.ble pc 58 then (bif Nat.beq pc 57 then some (.aload_n 0, 58, 0, 0) else bif Nat.beq pc 58 then some (.bipush (-4), 60, 0, 0) else none) else (bif Nat.beq pc 60 then some (.aload_n 0, 61, 0, 0) else bif Nat.beq pc 61 then some (.getfield 150, 64, 10, 5) else bif Nat.beq pc 64 then some (.invokevirtual 157, 67, 0, 0) else none)) else (bif Nat.ble pc 70 then (bif Nat.beq pc 67 then some (.goto 78, 70, 145, 0) else bif Nat.beq pc 70 then some (.aload_n 0, 71, 0, 0) else none) else (bif Nat.beq pc 71 then some (.getfield 103, 74, 10, 39) else bif Nat.beq pc 74 then some (.iconst 1, 75, 0, 0) else bif Nat.beq pc 75 then some (.iload_n 3, 76, 0, 0) else none))))) else (bif Nat.ble pc 110 then (bif Nat.ble pc 88 then (bif Nat.ble pc 79 then (bif Nat.ble pc 77 then (bif Nat.beq pc 76 then some (.iastore, 77, 0, 0) else bif Nat.beq pc 77 then some (.aload_n 0, 78, 0, 0) else none) else (bif Nat.beq pc 78 then some (.iconst 2, 79, 0, 0) else bif Nat.beq pc 79 then some (.putfield 210, 82, 10, 40) else none)) else (bif Nat.ble pc 83 then (bif Nat.beq pc 82 then some (.aload_n 0, 83, 0, 0) else bif Nat.beq pc 83 then some (.dup, 84, 0, 0) else none) else (bif Nat.beq pc 84 then some (.getfield 150, 87, 10, 5) else bif Nat.beq pc 87 then some (.iconst 1, 88, 0, 0) else bif Nat.beq pc 88 then some (.iadd, 89, 0, 0) else none))) else (bif Nat.ble pc 98 then (bif Nat.ble pc 92 then (bif Nat.beq pc 89 then some (.putfield 150, 92, 10, 5) else bif Nat.beq pc 92 then some (.aload_n 0, 93, 0, 0) else none) else (bif Nat.beq pc 93 then some (.invokevirtual 169, 96, 0, 0) else bif Nat.beq pc 96 then some (.istore 4, 98, 0, 0) else bif Nat.beq pc 98 then some (.iload 4, 100, 0, 0) else none)) else (bif Nat.ble pc 103 then (bif Nat.beq pc 100 then some (.ifCond .lt 20, 103, 120, 0) else bif Nat.beq pc 103 then some (.iload 4, 105, 0, 0) else none) else (bif Nat.beq pc 105 then some (.bipush 9, 107, 0, 0) else bif Nat.beq pc 107 then some (.if_icmp .eq 13, 110, 120, 0) else bif Nat.beq pc 110 then some (.aload_n 0, 111, 0, 0) else none)))) else (bif Nat.ble pc 128 then (bif Nat.ble pc 117 then (bif Nat.ble pc 113 then (bif Nat.beq pc 111 then some (.bipush (-3), 113, 0, 0) else bif Nat.beq pc 113 then some (.aload_n 0, 114, 0, 0) else none) else (bif Nat.beq pc 114 then some (.getfield 150, 117, 10, 5) else bif Nat.beq pc 117 then some (.invokevirtual 157, 120, 0, 0) else none)) else (bif Nat.ble pc 121 then (bif Nat.beq pc 120 then some (.aload_n 0, 121, 0, 0) else bif Nat.beq pc 121 then some (.getfield 147, 124, 10, 6) else none) else (bif Nat.beq pc 124 then some (.ifCond .ne 21, 127, 145, 0) else bif Nat.beq pc 127 then some (.aload_n 0, 128, 0, 0) else bif Nat.beq pc 128 then some (.dup, 129, 0, 0) else none))) else (bif Nat.ble pc 137 then (bif Nat.ble pc 132 then (bif Nat.beq pc 129 then some (.getfield 150, 132, 10, 5) else bif Nat.beq pc 132 then some (.iconst 1, 133, 0, 0) else none) else (bif Nat.beq pc 133 then some (.iadd, 134, 0, 0) else bif Nat.beq pc 134 then some (.putfield 150, 137, 10, 5) else bif Nat.beq pc 137 then some (.aload_n 0, 138, 0, 0) else none)) else (bif Nat.ble pc 139 then (bif Nat.beq pc 138 then some (.iconst 4, 139, 0, 0) else bif Nat.beq pc 139 then some (.lload_n 1, 140, 0, 0) else none) else (bif Nat.beq pc 140 then some (.invokevirtual 222, 143, 0, 0) else bif Nat.beq pc 143 then some (.istore 5, 145, 0, 0) else bif Nat.beq pc 145 then some (.return_, 146, 0, 0) else none))))))
set_option maxRecDepth 100000 in
set_option maxHeartbeats 4000000 in
theorem ok_M_readFloating : am_CD m_M_readFloating cd_M_readFloating := am_CD_of 146 fl_M_ok cn_M_ok kl_M_ok pl_M_ok (by intro pc h; unfold cd_M_readFloating; rw [Nat.ble_eq_true_of_le h]; rfl) (by decide +kernel)
end
section
def cd_M_readType (pc : Nat) : Option am_I := bif Nat.ble 81 pc then none else (bif Nat.ble pc 38 then (bif Nat.ble pc 18 then (bif Nat.ble pc 6 then (bif Nat.ble pc 1 then (bif Nat.beq pc 0 then some (.aload_n 0, 1, 0, 0) else bif Nat.beq pc 1 then some (.dup, 2, 0, 0) else none) else (bif Nat.beq pc 2 then some (.getfield 150, 5, 10, 5) else bif Nat.beq pc 5 then some (.iconst 1, 6, 0, 0) else bif Nat.beq pc 6 then some (.iadd, 7, 0, 0) else none)) else (bif Nat.ble pc 11 then (bif Nat.beq pc 7 then some (.putfield 150, 10, 10, 5) else bif Nat.beq pc 10 then some (.aload_n 0, 11, 0, 0) else bif Nat.beq pc 11 then some (.invokevirtual 213, 14, 0, 0) else none) else (bif Nat.beq pc 14 then some (.ifCond .ne 5, 17, 19, 0) else bif Nat.beq pc 17 then some (.iconst 0, 18, 0, 0) else bif Nat.beq pc 18 then some (.ireturn, 19, 0, 0) else none))) else (bif Nat.ble pc 26 then (bif Nat.ble pc 23 then (bif Nat.beq pc 19 then some (.aload_n 0, 20, 0, 0) else bif Nat.beq pc 20 then some (.invokevirtual 190, 23, 0, 0) else bif Nat.beq pc 23 then some (.istore_n 1, 24, 0, 0) else none) else (bif Nat.beq pc 24 then some (.aload_n 0, 25, 0, 0) else bif Nat.beq pc 25 then some (.iload_n 1, 26, 0, 0) else bif Nat.beq pc 26 then some (.invokevirtual 196, 29, 0, 0) else none)) else (bif Nat.ble pc 33 then (bif Nat.beq pc 29 then some (.ifCond .ne 28, 32, 57, 0) else bif Nat.beq pc 32 then some (.aload_n 0, 33, 0, 0) else bif Nat.beq pc 33 then some (.aload_n 0, 34, 0, 0) else none) else (bif Nat.beq pc 34 then some (.iload_n 1, 35, 0, 0) else bif Nat.beq pc 35 then some (.invokevirtual 200, 38, 0, 0) else bif Nat.beq pc 38 then some (.ifCond .eq 8, 41, 46, 0) else none)))) else (bif Nat.ble pc 62 then (bif Nat.ble pc 52 then (bif Nat.ble pc 46 then (bif Nat.beq pc 41 then some (.bipush (-6), 43, 0, 0) else bif Nat.beq pc 43 then some (.goto 5, 46, 48, 0) else bif Nat.beq pc 46 then some (.bipush (-4), 48, 0, 0) else none) else (bif Nat.beq pc 48 then some (.aload_n 0, 49, 0, 0) else bif Nat.beq pc 49 then some (.getfield 150, 52, 10, 5) else bif Nat.beq pc 52 then some (.invokevirtual 157, 55, 0, 0) else none)) else (bif Nat.ble pc 57 then (bif Nat.beq pc 55 then some (.iconst 0, 56, 0, 0) else bif Nat.beq pc 56 then some (.ireturn, 57, 0, 0) else bif Nat.beq pc 57 then some (.aload_n 0, 58, 0, 0) else none) else (bif Nat.beq pc 58 then some (.getfield 103, 61, 10, 39) else bif Nat.beq pc 61 then some (.iconst 0, 62, 0, 0) else bif Nat.beq pc 62 then some (.iload_n 1, 63, 0, 0) else none))) else (bif Nat.ble pc 70 then (bif Nat.ble pc 65 then (bif Nat.beq pc 63 then some (.iastore, 64, 0, 0) else bif Nat.beq pc 64 then some (.aload_n 0, 65, 0, 0) else bif Nat.beq pc 65 then some (.iconst 1, 66, 0, 0) else none) else (bif Nat.beq pc 66 then some (.putfield 210, 69, 10, 40) else bif Nat.beq pc 69 then some (.aload_n 0, 70, 0, 0) else bif Nat.beq pc 70 then some (.dup, 71, 0, 0) else none)) else (bif Nat.ble pc 75 then (bif Nat.beq pc 71 then some (.getfield 150, 74, 10, 5) else bif Nat.beq pc 74 then some (.iconst 1, 75, 0, 0) else bif Nat.beq pc 75 then some (.iadd, 76, 0, 0) else none) else (bif Nat.beq pc 76 then some (.putfield 150, 79, 10, 5) else bif Nat.beq pc 79 then some (.iconst 1, 80, 0, 0) else bif Nat.beq pc 80 then some (.ireturn, 81, 0, 0) else none)))))
set_option maxRecDepth 100000 in
set_option maxHeartbeats 4000000 in
theorem ok_M_readType : am_CD m_M_readType cd_M_readType := am_CD_of 81 fl_M_ok cn_M_ok kl_M_ok pl_M_ok (by intro pc h; unfold cd_M_readType; rw [Nat.ble_eq_true_of_le h]; rfl) (by decide +kernel)
def cd_M_needName (pc : Nat) : Option am_I := bif Nat.ble 29 pc then none else (bif Nat.ble pc 12 then (bif Nat.ble pc 5 then (bif Nat.ble pc 1 then (bif Nat.beq pc 0 then some (.aload_n 0, 1, 0, 0) else bif Nat.beq pc 1 then some (.invokevirtual 169, 4, 0, 0) else none) else (bif Nat.beq pc 4 then some (.istore_n 1, 5, 0, 0) else bif Nat.beq pc 5 then some (.iload_n 1, 6, 0, 0) else none)) else (bif Nat.ble pc 9 then (bif Nat.beq pc 6 then some (.ifCond .le 13, 9, 19, 0) else bif Nat.beq pc 9 then some (.aload_n 0, 10, 0, 0) else none) else (bif Nat.beq pc 10 then some (.bipush (-3), 12, 0, 0) else bif Nat.beq pc 12 then some (.aload_n 0, 13, 0, 0) else none))) else (bif Nat.ble pc 20 then (bif Nat.ble pc 16 then (bif Nat.beq pc 13 then some (.getfield 150, 16, 10, 5) else bif Nat.beq pc 16 then some (.invokevirtual 157, 19, 0, 0) else none) else (bif Nat.beq pc 19 then some (.iload_n 1, 20, 0, 0) else bif Nat.beq pc 20 then some (.ifCond .ne 7, 23, 27, 0) else none)) else (bif Nat.ble pc 24 then (bif Nat.beq pc 23 then some (.iconst 1, 24, 0, 0) else bif Nat.beq pc 24 then some (.goto 4, 27, 28, 0) else none) else (bif Nat.beq pc 27 then some (.iconst 0, 28, 0, 0) else bif Nat.beq pc 28 then some (.ireturn, 29, 0, 0) else none))))
set_option maxRecDepth 100000 in
set_option maxHeartbeats 4000000 in
theorem ok_M_needName : am_CD m_M_needName cd_M_needName := am_CD_of 29 fl_M_ok cn_M_ok kl_M_ok pl_M_ok (by intro pc h; unfold cd_M_needName; rw [Nat.ble_eq_true_of_le h]; rfl) (by decide +kernel)
def cd_M_findWord (pc : Nat) : Option am_I := bif Nat.ble 13 pc then none else (bif Nat.ble pc 2 then (bif Nat.beq pc 0 then some (.aload_n 0, 1, 0, 0) else bif Nat.beq pc 1 then some (.aload_n 0, 2, 0, 0) else bif Nat.beq pc 2 then some (.aload_n 0, 3, 0, 0) else none) else (bif Nat.ble pc 6 then (bif Nat.beq pc 3 then some (.getfield 150, 6, 10, 5) else bif Nat.beq pc 6 then some (.invokevirtual 176, 9, 0, 0) else none) else (bif Nat.beq pc 9 then some (.invokevirtual 180, 12, 0, 0) else bif Nat.beq pc 12 then some (.ireturn, 13, 0, 0) else none)))
set_option maxRecDepth 100000 in
set_option maxHeartbeats 4000000 in
theorem ok_M_findWord : am_CD m_M_findWord cd_M_findWord := am_CD_of 13 fl_M_ok cn_M_ok kl_M_ok pl_M_ok (by intro pc h; unfold cd_M_findWord; rw [Nat.ble_eq_true_of_le h]; rfl) (by decide +kernel)
def cd_M_isConstant (pc : Nat) : Option am_I := bif Nat.ble 20 pc then none else (bif Nat.ble pc 9 then (bif Nat.ble pc 4 then (bif Nat.beq pc 0 then some (.iload_n 1, 1, 0, 0) else bif Nat.beq pc 1 then some (.ifCond .lt 17, 4, 18, 0) else bif Nat.beq pc 4 then some (.aload_n 0, 5, 0, 0) else none) else (bif Nat.beq pc 5 then some (.getfield 27, 8, 10, 10) else bif Nat.beq pc 8 then some (.iload_n 1, 9, 0, 0) else bif Nat.beq pc 9 then some (.iaload, 10, 0, 0) else none)) else (bif Nat.ble pc 14 then (bif Nat.beq pc 10 then some (.iconst 1, 11, 0, 0) else bif Nat.beq pc 11 then some (.if_icmp .ne 7, 14, 18, 0) else bif Nat.beq pc 14 then some (.iconst 1, 15, 0, 0) else none) else (bif Nat.beq pc 15 then some (.goto 4, 18, 19, 0) else bif Nat.beq pc 18 then some (.iconst 0, 19, 0, 0) else bif Nat.beq pc 19 then some (.ireturn, 20, 0, 0) else none)))
set_option maxRecDepth 100000 in
set_option maxHeartbeats 4000000 in
theorem ok_M_isConstant : am_CD m_M_isConstant cd_M_isConstant := am_CD_of 20 fl_M_ok cn_M_ok kl_M_ok pl_M_ok (by intro pc h; unfold cd_M_isConstant; rw [Nat.ble_eq_true_of_le h]; rfl) (by decide +kernel)
def cd_M_isLive (pc : Nat) : Option am_I := bif Nat.ble 29 pc then none else (bif Nat.ble pc 11 then (bif Nat.ble pc 5 then (bif Nat.ble pc 1 then (bif Nat.beq pc 0 then some (.iload_n 1, 1, 0, 0) else bif Nat.beq pc 1 then some (.ifCond .lt 26, 4, 27, 0) else none) else (bif Nat.beq pc 4 then some (.aload_n 0, 5, 0, 0) else bif Nat.beq pc 5 then some (.getfield 27, 8, 10, 10) else none)) else (bif Nat.ble pc 9 then (bif Nat.beq pc 8 then some (.iload_n 1, 9, 0, 0) else bif Nat.beq pc 9 then some (.iaload, 10, 0, 0) else none) else (bif Nat.beq pc 10 then some (.iconst 2, 11, 0, 0) else bif Nat.beq pc 11 then some (.if_icmp .ne 16, 14, 27, 0) else none))) else (bif Nat.ble pc 19 then (bif Nat.ble pc 15 then (bif Nat.beq pc 14 then some (.aload_n 0, 15, 0, 0) else bif Nat.beq pc 15 then some (.getfield 30, 18, 10, 11) else none) else (bif Nat.beq pc 18 then some (.iload_n 1, 19, 0, 0) else bif Nat.beq pc 19 then some (.baload, 20, 0, 0) else none)) else (bif Nat.ble pc 23 then (bif Nat.beq pc 20 then some (.ifCond .eq 7, 23, 27, 0) else bif Nat.beq pc 23 then some (.iconst 1, 24, 0, 0) else none) else (bif Nat.beq pc 24 then some (.goto 4, 27, 28, 0) else bif Nat.beq pc 27 then some (.iconst 0, 28, 0, 0) else bif Nat.beq pc 28 then some (.ireturn, 29, 0, 0) else none))))
set_option maxRecDepth 100000 in
set_option maxHeartbeats 4000000 in
theorem ok_M_isLive : am_CD m_M_isLive cd_M_isLive := am_CD_of 29 fl_M_ok cn_M_ok kl_M_ok pl_M_ok (by intro pc h; unfold cd_M_isLive; rw [Nat.ble_eq_true_of_le h]; rfl) (by decide +kernel)
def cd_M_typeOf (pc : Nat) : Option am_I := bif Nat.ble 54 pc then none else (bif Nat.ble pc 25 then (bif Nat.ble pc 11 then (bif Nat.ble pc 3 then (bif Nat.ble pc 1 then (bif Nat.beq pc 0 then some (.iconst 0, 1, 0, 0) else bif Nat.beq pc 1 then some (.istore_n 2, 2, 0, 0) else none) else (bif Nat.beq pc 2 then some (.iload_n 2, 3, 0, 0) else bif Nat.beq pc 3 then some (.aload_n 0, 4, 0, 0) else none)) else (bif Nat.ble pc 7 then (bif Nat.beq pc 4 then some (.getfield 184, 7, 10, 15) else bif Nat.beq pc 7 then some (.if_icmp .ge 45, 10, 52, 0) else none) else (bif Nat.beq pc 10 then some (.aload_n 0, 11, 0, 0) else bif Nat.beq pc 11 then some (.getfield 40, 14, 10, 16) else none))) else (bif Nat.ble pc 17 then (bif Nat.ble pc 15 then (bif Nat.beq pc 14 then some (.iload_n 2, 15, 0, 0) else bif Nat.beq pc 15 then some (.iaload, 16, 0, 0) else none) else (bif Nat.beq pc 16 then some (.iconst 4, 17, 0, 0) else bif Nat.beq pc 17 then some (.if_icmp .ne 29, 20, 46, 0) else none)) else (bif Nat.ble pc 21 then (bif Nat.beq pc 20 then some (.aload_n 0, 21, 0, 0) else bif Nat.beq pc 21 then some (.getfield 52, 24, 10, 20) else none) else (bif Nat.beq pc 24 then some (.iload_n 2, 25, 0, 0) else bif Nat.beq pc 25 then some (.baload, 26, 0, 0) else none)))) else (bif Nat.ble pc 38 then (bif Nat.ble pc 33 then (bif Nat.ble pc 29 then (bif Nat.beq pc 26 then some (.ifCond .eq 20, 29, 46, 0) else bif Nat.beq pc 29 then some (.aload_n 0, 30, 0, 0) else none) else (bif Nat.beq pc 30 then some (.getfield 46, 33, 10, 18) else bif Nat.beq pc 33 then some (.bipush 24, 35, 0, 0) else none)) else (bif Nat.ble pc 36 then (bif Nat.beq pc 35 then some (.iload_n 2, 36, 0, 0) else bif Nat.beq pc 36 then some (.imul, 37, 0, 0) else none) else (bif Nat.beq pc 37 then some (.iconst 1, 38, 0, 0) else bif Nat.beq pc 38 then some (.iadd, 39, 0, 0) else none))) else (bif Nat.ble pc 44 then (bif Nat.ble pc 40 then (bif Nat.beq pc 39 then some (.iaload, 40, 0, 0) else bif Nat.beq pc 40 then some (.iload_n 1, 41, 0, 0) else none) else (bif Nat.beq pc 41 then some (.if_icmp .ne 5, 44, 46, 0) else bif Nat.beq pc 44 then some (.iload_n 2, 45, 0, 0) else none)) else (bif Nat.ble pc 46 then (bif Nat.beq pc 45 then some (.ireturn, 46, 0, 0) else bif Nat.beq pc 46 then some (.iinc 2 1, 49, 0, 0) else none) else (bif Nat.beq pc 49 then some (.goto (-47), 52, 2, 0) else bif Nat.beq pc 52 then some (.iconst (-1), 53, 0, 0) else bif Nat.beq pc 53 then some (.ireturn, 54, 0, 0) else none)))))
set_option maxRecDepth 100000 in
set_option maxHeartbeats 4000000 in
theorem ok_M_typeOf : am_CD m_M_typeOf cd_M_typeOf := am_CD_of 54 fl_M_ok cn_M_ok kl_M_ok pl_M_ok (by intro pc h; unfold cd_M_typeOf; rw [Nat.ble_eq_true_of_le h]; rfl) (by decide +kernel)
def cd_M_declare (pc : Nat) : Option am_I := bif Nat.ble 142 pc then none else (bif Nat.ble pc 71 then (bif Nat.ble pc 34 then (bif Nat.ble pc 17 then (bif Nat.ble pc 7 then (bif Nat.ble pc 1 then (bif Nat.beq pc 0 then some (.aload_n 0, 1, 0, 0) else bif Nat.beq pc 1 then some (.getfield 184, 4, 10, 15) else none) else (bif Nat.beq pc 4 then some (.istore 4, 6, 0, 0) else bif Nat.beq pc 6 then some (.aload_n 0, 7, 0, 0) else bif Nat.beq pc 7 then some (.lload_n 2, 8, 0, 0) else none)) else (bif Nat.ble pc 11 then (bif Nat.beq pc 8 then some (.invokevirtual 193, 11, 0, 0) else bif Nat.beq pc 11 then some (.istore 5, 13, 0, 0) else none) else (bif Nat.beq pc 13 then some (.aload_n 0, 14, 0, 0) else bif Nat.beq pc 14 then some (.getfield 37, 17, 10, 13) else bif Nat.beq pc 17 then some (.iload 5, 19, 0, 0) else none))) else (bif Nat.ble pc 26 then (bif Nat.ble pc 21 then (bif Nat.beq pc 19 then some (.iload 4, 21, 0, 0) else bif Nat.beq pc 21 then some (.iastore, 22, 0, 0) else none) else (bif Nat.beq pc 22 then some (.aload_n 0, 23, 0, 0) else bif Nat.beq pc 23 then some (.getfield 40, 26, 10, 16) else bif Nat.beq pc 26 then some (.iload 4, 28, 0, 0) else none)) else (bif Nat.ble pc 29 then (bif Nat.beq pc 28 then some (.iload_n 1, 29, 0, 0) else bif Nat.beq pc 29 then some (.iastore, 30, 0, 0) else none) else (bif Nat.beq pc 30 then some (.aload_n 0, 31, 0, 0) else bif Nat.beq pc 31 then some (.getfield 43, 34, 10, 17) else bif Nat.beq pc 34 then some (.iload 4, 36, 0, 0) else none)))) else (bif Nat.ble pc 51 then (bif Nat.ble pc 43 then (bif Nat.ble pc 38 then (bif Nat.beq pc 36 then some (.iload 5, 38, 0, 0) else bif Nat.beq pc 38 then some (.iastore, 39, 0, 0) else none) else (bif Nat.beq pc 39 then some (.aload_n 0, 40, 0, 0) else bif Nat.beq pc 40 then some (.getfield 49, 43, 10, 19) else bif Nat.beq pc 43 then some (.iload 4, 45, 0, 0) else none)) else (bif Nat.ble pc 46 then (bif Nat.beq pc 45 then some (.aload_n 0, 46, 0, 0) else bif Nat.beq pc 46 then some (.getfield 210, 49, 10, 40) else none) else (bif Nat.beq pc 49 then some (.iastore, 50, 0, 0) else bif Nat.beq pc 50 then some (.iconst 0, 51, 0, 0) else bif Nat.beq pc 51 then some (.istore 6, 53, 0, 0) else none))) else (bif Nat.ble pc 62 then (bif Nat.ble pc 55 then (bif Nat.beq pc 53 then some (.iload 6, 55, 0, 0) else bif Nat.beq pc 55 then some (.aload_n 0, 56, 0, 0) else none) else (bif Nat.beq pc 56 then some (.getfield 210, 59, 10, 40) else bif Nat.beq pc 59 then some (.if_icmp .ge 29, 62, 88, 0) else bif Nat.beq pc 62 then some (.aload_n 0, 63, 0, 0) else none)) else (bif Nat.ble pc 66 then (bif Nat.beq pc 63 then some (.getfield 46, 66, 10, 18) else bif Nat.beq pc 66 then some (.bipush 24, 68, 0, 0) else none) else (bif Nat.beq pc 68 then some (.iload 4, 70, 0, 0) else bif Nat.beq pc 70 then some (.imul, 71, 0, 0) else bif Nat.beq pc 71 then some (.iload 6, 73, 0, 0) else none))))) else (bif Nat.ble pc 108 then (bif Nat.ble pc 89 then (bif Nat.ble pc 80 then (bif Nat.ble pc 74 then (bif Nat.beq pc 73 then some (.iadd, 74, 0, 0) else bif Nat.beq pc 74 then some (.aload_n 0, 75, 0, 0) else none) else (bif Nat.beq pc 75 then some (.getfield 103, 78, 10, 39) else bif Nat.beq pc 78 then some (.iload 6, 80, 0, 0) else bif Nat.beq pc 80 then some (.iaload, 81, 0, 0) else none)) else (bif Nat.ble pc 82 then (bif Nat.beq pc 81 then some (.iastore, 82, 0, 0) else bif Nat.beq pc 82 then some (.iinc 6 1, 85, 0, 0) else none) else (bif Nat.beq pc 85 then some (.goto (-32), 88, 53, 0) else bif Nat.beq pc 88 then some (.aload_n 0, 89, 0, 0) else bif Nat.beq pc 89 then some (.getfield 52, 92, 10, 20) else none))) else (bif Nat.ble pc 99 then (bif Nat.ble pc 94 then (bif Nat.beq pc 92 then some (.iload 4, 94, 0, 0) else bif Nat.beq pc 94 then some (.iload_n 1, 95, 0, 0) else none) else (bif Nat.beq pc 95 then some (.iconst 4, 96, 0, 0) else bif Nat.beq pc 96 then some (.if_icmp .eq 8, 99, 104, 0) else bif Nat.beq pc 99 then some (.iload_n 1, 100, 0, 0) else none)) else (bif Nat.ble pc 101 then (bif Nat.beq pc 100 then some (.iconst 5, 101, 0, 0) else bif Nat.beq pc 101 then some (.if_icmp .ne 7, 104, 108, 0) else none) else (bif Nat.beq pc 104 then some (.iconst 1, 105, 0, 0) else bif Nat.beq pc 105 then some (.goto 4, 108, 109, 0) else bif Nat.beq pc 108 then some (.iconst 0, 109, 0, 0) else none)))) else (bif Nat.ble pc 125 then (bif Nat.ble pc 116 then (bif Nat.ble pc 110 then (bif Nat.beq pc 109 then some (.bastore, 110, 0, 0) else bif Nat.beq pc 110 then some (.aload_n 0, 111, 0, 0) else none) else (bif Nat.beq pc 111 then some (.getfield 55, 114, 10, 21) else bif Nat.beq pc 114 then some (.iload 4, 116, 0, 0) else bif Nat.beq pc 116 then some (.aload_n 0, 117, 0, 0) else none)) else (bif Nat.ble pc 120 then (bif Nat.beq pc 117 then some (.getfield 187, 120, 10, 14) else bif Nat.beq pc 120 then some (.iastore, 121, 0, 0) else none) else (bif Nat.beq pc 121 then some (.aload_n 0, 122, 0, 0) else bif Nat.beq pc 122 then some (.getfield 58, 125, 10, 22) else bif Nat.beq pc 125 then some (.iload 4, 127, 0, 0) else none))) else (bif Nat.ble pc 131 then (bif Nat.ble pc 128 then (bif Nat.beq pc 127 then some (.iconst (-1), 128, 0, 0) else bif Nat.beq pc 128 then some (.iastore, 129, 0, 0) else none) else (bif Nat.beq pc 129 then some (.aload_n 0, 130, 0, 0) else bif Nat.beq pc 130 then some (.dup, 131, 0, 0) else bif Nat.beq pc 131 then some (.getfield 184, 134, 10, 15) else none)) else (bif Nat.ble pc 135 then (bif Nat.beq pc 134 then some (.iconst 1, 135, 0, 0) else bif Nat.beq pc 135 then some (.iadd, 136, 0, 0) else none) else (bif Nat.beq pc 136 then some (.putfield 184, 139, 10, 15) else bif Nat.beq pc 139 then some (.iload 4, 141, 0, 0) else bif Nat.beq pc 141 then some (.ireturn, 142, 0, 0) else none))))))
set_option maxRecDepth 100000 in
set_option maxHeartbeats 4000000 in
theorem ok_M_declare : am_CD m_M_declare cd_M_declare := am_CD_of 142 fl_M_ok cn_M_ok kl_M_ok pl_M_ok (by intro pc h; unfold cd_M_declare; rw [Nat.ble_eq_true_of_le h]; rfl) (by decide +kernel)
def cd_M_addName (pc : Nat) : Option am_I := bif Nat.ble 57 pc then none else (bif Nat.ble pc 28 then (bif Nat.ble pc 11 then (bif Nat.ble pc 5 then (bif Nat.ble pc 1 then (bif Nat.beq pc 0 then some (.aload_n 0, 1, 0, 0) else bif Nat.beq pc 1 then some (.getfield 23, 4, 10, 9) else none) else (bif Nat.beq pc 4 then some (.aload_n 0, 5, 0, 0) else bif Nat.beq pc 5 then some (.getfield 173, 8, 10, 8) else none)) else (bif Nat.ble pc 9 then (bif Nat.beq pc 8 then some (.lload_n 1, 9, 0, 0) else bif Nat.beq pc 9 then some (.lastore, 10, 0, 0) else none) else (bif Nat.beq pc 10 then some (.aload_n 0, 11, 0, 0) else bif Nat.beq pc 11 then some (.getfield 27, 14, 10, 10) else none))) else (bif Nat.ble pc 19 then (bif Nat.ble pc 15 then (bif Nat.beq pc 14 then some (.aload_n 0, 15, 0, 0) else bif Nat.beq pc 15 then some (.getfield 173, 18, 10, 8) else none) else (bif Nat.beq pc 18 then some (.iconst 0, 19, 0, 0) else bif Nat.beq pc 19 then some (.iastore, 20, 0, 0) else none)) else (bif Nat.ble pc 21 then (bif Nat.beq pc 20 then some (.aload_n 0, 21, 0, 0) else bif Nat.beq pc 21 then some (.getfield 30, 24, 10, 11) else none) else (bif Nat.beq pc 24 then some (.aload_n 0, 25, 0, 0) else bif Nat.beq pc 25 then some (.getfield 173, 28, 10, 8) else bif Nat.beq pc 28 then some (.iconst 0, 29, 0, 0) else none)))) else (bif Nat.ble pc 41 then (bif Nat.ble pc 34 then (bif Nat.ble pc 30 then (bif Nat.beq pc 29 then some (.bastore, 30, 0, 0) else bif Nat.beq pc 30 then some (.aload_n 0, 31, 0, 0) else none) else (bif Nat.beq pc 31 then some (.getfield 37, 34, 10, 13) else bif Nat.beq pc 34 then some (.aload_n 0, 35, 0, 0) else none)) else (bif Nat.ble pc 38 then (bif Nat.beq pc 35 then some (.getfield 173, 38, 10, 8) else bif Nat.beq pc 38 then some (.iconst (-1), 39, 0, 0) else none) else (bif Nat.beq pc 39 then some (.iastore, 40, 0, 0) else bif Nat.beq pc 40 then some (.aload_n 0, 41, 0, 0) else bif Nat.beq pc 41 then some (.dup, 42, 0, 0) else none))) else (bif Nat.ble pc 47 then (bif Nat.ble pc 45 then (bif Nat.beq pc 42 then some (.getfield 173, 45, 10, 8) else bif Nat.beq pc 45 then some (.iconst 1, 46, 0, 0) else none) else (bif Nat.beq pc 46 then some (.iadd, 47, 0, 0) else bif Nat.beq pc 47 then some (.putfield 173, 50, 10, 8) else none)) else (bif Nat.ble pc 51 then (bif Nat.beq pc 50 then some (.aload_n 0, 51, 0, 0) else bif Nat.beq pc 51 then some (.getfield 173, 54, 10, 8) else none) else (bif Nat.beq pc 54 then some (.iconst 1, 55, 0, 0) else bif Nat.beq pc 55 then some (.isub, 56, 0, 0) else bif Nat.beq pc 56 then some (.ireturn, 57, 0, 0) else none)))))
set_option maxRecDepth 100000 in
set_option maxHeartbeats 4000000 in
theorem ok_M_addName : am_CD m_M_addName cd_M_addName := am_CD_of 57 fl_M_ok cn_M_ok kl_M_ok pl_M_ok (by intro pc h; unfold cd_M_addName; rw [Nat.ble_eq_true_of_le h]; rfl) (by decide +kernel)
def cd_M_readExpression (pc : Nat) : Option am_I := bif Nat.ble 153 pc then none else (bif Nat.ble pc 69 then (bif Nat.ble pc 33 then (bif Nat.ble pc 17 then (bif Nat.ble pc 8 then (bif Nat.ble pc 1 then (bif Nat.beq pc 0 then some (.aload_n 0, 1, 0, 0) else bif Nat.beq pc 1 then some (.invokevirtual 216, 4, 0, 0) else none) else (bif Nat.beq pc 4 then some (.ifCond .ne 5, 7, 9, 0) else bif Nat.beq pc 7 then some (.iconst 0, 8, 0, 0) else bif Nat.beq pc 8 then some (.ireturn, 9, 0, 0) else none)) else (bif Nat.ble pc 10 then (bif Nat.beq pc 9 then some (.aload_n 0, 10, 0, 0) else bif Nat.beq pc 10 then some (.getfield 147, 13, 10, 6) else none) else (bif Nat.beq pc 13 then some (.ifCond .ne 138, 16, 151, 0) else bif Nat.beq pc 16 then some (.aload_n 0, 17, 0, 0) else bif Nat.beq pc 17 then some (.invokevirtual 169, 20, 0, 0) else none))) else (bif Nat.ble pc 26 then (bif Nat.ble pc 21 then (bif Nat.beq pc 20 then some (.istore_n 2, 21, 0, 0) else bif Nat.beq pc 21 then some (.iload_n 2, 22, 0, 0) else none) else (bif Nat.beq pc 22 then some (.iload_n 1, 23, 0, 0) else bif Nat.beq pc 23 then some (.if_icmp .ne 15, 26, 38, 0) else bif Nat.beq pc 26 then some (.aload_n 0, 27, 0, 0) else none)) else (bif Nat.ble pc 28 then (bif Nat.beq pc 27 then some (.dup, 28, 0, 0) else bif Nat.beq pc 28 then some (.getfield 150, 31, 10, 5) else none) else (bif Nat.beq pc 31 then some (.iconst 1, 32, 0, 0) else bif Nat.beq pc 32 then some (.iadd, 33, 0, 0) else bif Nat.beq pc 33 then some (.putfield 150, 36, 10, 5) else none)))) else (bif Nat.ble pc 52 then (bif Nat.ble pc 42 then (bif Nat.ble pc 37 then (bif Nat.beq pc 36 then some (.iconst 1, 37, 0, 0) else bif Nat.beq pc 37 then some (.ireturn, 38, 0, 0) else none) else (bif Nat.beq pc 38 then some (.iload_n 2, 39, 0, 0) else bif Nat.beq pc 39 then some (.ifCond .eq 15, 42, 54, 0) else bif Nat.beq pc 42 then some (.aload_n 0, 43, 0, 0) else none)) else (bif Nat.ble pc 45 then (bif Nat.beq pc 43 then some (.bipush (-3), 45, 0, 0) else bif Nat.beq pc 45 then some (.aload_n 0, 46, 0, 0) else none) else (bif Nat.beq pc 46 then some (.getfield 150, 49, 10, 5) else bif Nat.beq pc 49 then some (.invokevirtual 157, 52, 0, 0) else bif Nat.beq pc 52 then some (.iconst 0, 53, 0, 0) else none))) else (bif Nat.ble pc 59 then (bif Nat.ble pc 54 then (bif Nat.beq pc 53 then some (.ireturn, 54, 0, 0) else bif Nat.beq pc 54 then some (.aload_n 0, 55, 0, 0) else none) else (bif Nat.beq pc 55 then some (.invokevirtual 190, 58, 0, 0) else bif Nat.beq pc 58 then some (.istore_n 3, 59, 0, 0) else bif Nat.beq pc 59 then some (.aload_n 0, 60, 0, 0) else none)) else (bif Nat.ble pc 64 then (bif Nat.beq pc 60 then some (.iload_n 3, 61, 0, 0) else bif Nat.beq pc 61 then some (.invokevirtual 196, 64, 0, 0) else bif Nat.beq pc 64 then some (.ifCond .ne 32, 67, 96, 0) else none) else (bif Nat.beq pc 67 then some (.aload_n 0, 68, 0, 0) else bif Nat.beq pc 68 then some (.iload_n 3, 69, 0, 0) else bif Nat.beq pc 69 then some (.invokevirtual 200, 72, 0, 0) else none))))) else (bif Nat.ble pc 115 then (bif Nat.ble pc 90 then (bif Nat.ble pc 80 then (bif Nat.ble pc 75 then (bif Nat.beq pc 72 then some (.ifCond .eq 11, 75, 83, 0) else bif Nat.beq pc 75 then some (.aload_n 0, 76, 0, 0) else none) else (bif Nat.beq pc 76 then some (.iload_n 3, 77, 0, 0) else bif Nat.beq pc 77 then some (.invokevirtual 219, 80, 0, 0) else bif Nat.beq pc 80 then some (.ifCond .ge 16, 83, 96, 0) else none)) else (bif Nat.ble pc 84 then (bif Nat.beq pc 83 then some (.aload_n 0, 84, 0, 0) else bif Nat.beq pc 84 then some (.bipush (-4), 86, 0, 0) else none) else (bif Nat.beq pc 86 then some (.aload_n 0, 87, 0, 0) else bif Nat.beq pc 87 then some (.getfield 150, 90, 10, 5) else bif Nat.beq pc 90 then some (.invokevirtual 157, 93, 0, 0) else none))) else (bif Nat.ble pc 102 then (bif Nat.ble pc 96 then (bif Nat.beq pc 93 then some (.goto 55, 96, 148, 0) else bif Nat.beq pc 96 then some (.aload_n 0, 97, 0, 0) else none) else (bif Nat.beq pc 97 then some (.getfield 210, 100, 10, 40) else bif Nat.beq pc 100 then some (.bipush 24, 102, 0, 0) else bif Nat.beq pc 102 then some (.if_icmp .ne 16, 105, 118, 0) else none)) else (bif Nat.ble pc 108 then (bif Nat.beq pc 105 then some (.aload_n 0, 106, 0, 0) else bif Nat.beq pc 106 then some (.bipush (-7), 108, 0, 0) else bif Nat.beq pc 108 then some (.aload_n 0, 109, 0, 0) else none) else (bif Nat.beq pc 109 then some (.getfield 150, 112, 10, 5) else bif Nat.beq pc 112 then some (.invokevirtual 157, 115, 0, 0) else bif Nat.beq pc 115 then some (.goto 33, 118, 148, 0) else none)))) else (bif Nat.ble pc 133 then (bif Nat.ble pc 126 then (bif Nat.ble pc 119 then (bif Nat.beq pc 118 then some (.aload_n 0, 119, 0, 0) else bif Nat.beq pc 119 then some (.getfield 103, 122, 10, 39) else none) else (bif Nat.beq pc 122 then some (.aload_n 0, 123, 0, 0) else bif Nat.beq pc 123 then some (.getfield 210, 126, 10, 40) else bif Nat.beq pc 126 then some (.iload_n 3, 127, 0, 0) else none)) else (bif Nat.ble pc 128 then (bif Nat.beq pc 127 then some (.iastore, 128, 0, 0) else bif Nat.beq pc 128 then some (.aload_n 0, 129, 0, 0) else none) else (bif Nat.beq pc 129 then some (.dup, 130, 0, 0) else bif Nat.beq pc 130 then some (.getfield 210, 133, 10, 40) else bif Nat.beq pc 133 then some (.iconst 1, 134, 0, 0) else none))) else (bif Nat.ble pc 140 then (bif Nat.ble pc 135 then (bif Nat.beq pc 134 then some (.iadd, 135, 0, 0) else bif Nat.beq pc 135 then some (.putfield 210, 138, 10, 40) else none) else (bif Nat.beq pc 138 then some (.aload_n 0, 139, 0, 0) else bif Nat.beq pc 139 then some (.dup, 140, 0, 0) else bif Nat.beq pc 140 then some (.getfield 150, 143, 10, 5) else none)) else (bif Nat.ble pc 145 then (bif Nat.beq pc 143 then some (.iconst 1, 144, 0, 0) else bif Nat.beq pc 144 then some (.iadd, 145, 0, 0) else bif Nat.beq pc 145 then some (.putfield 150, 148, 10, 5) else none) else (bif Nat.beq pc 148 then some (.goto (-139), 151, 9, 0) else bif Nat.beq pc 151 then some (.iconst 0, 152, 0, 0) else bif Nat.beq pc 152 then some (.ireturn, 153, 0, 0) else none))))))
set_option maxRecDepth 100000 in
set_option maxHeartbeats 4000000 in
theorem ok_M_readExpression : am_CD m_M_readExpression cd_M_readExpression := am_CD_of 153 fl_M_ok cn_M_ok kl_M_ok pl_M_ok (by intro pc h; unfold cd_M_readExpression; rw [Nat.ble_eq_true_of_le h]; rfl) (by decide +kernel)
def cd_M_findNeeds (pc : Nat) : Option am_I := bif Nat.ble 312 pc then none else (bif Nat.ble pc 158 then (bif Nat.ble pc 78 then (bif Nat.ble pc 39 then (bif Nat.ble pc 19 then (bif Nat.ble pc 7 then (bif Nat.ble pc 4 then (bif Nat.beq pc 0 then some (.aload_n 0, 1, 0, 0) else bif Nat.beq pc 1 then some (.getfield 226, 4, 10, 27) else bif Nat.beq pc 4 then some (.istore_n 1, 5, 0, 0) else none) else (bif Nat.beq pc 5 then some (.iconst 0, 6, 0, 0) else bif Nat.beq pc 6 then some (.istore_n 2, 7, 0, 0) else bif Nat.beq pc 7 then some (.iload_n 2, 8, 0, 0) else none)) else (bif Nat.ble pc 12 then (bif Nat.beq pc 8 then some (.aload_n 0, 9, 0, 0) else bif Nat.beq pc 9 then some (.getfield 173, 12, 10, 8) else bif Nat.beq pc 12 then some (.if_icmp .ge 16, 15, 28, 0) else none) else (bif Nat.beq pc 15 then some (.aload_n 0, 16, 0, 0) else bif Nat.beq pc 16 then some (.getfield 106, 19, 10, 41) else bif Nat.beq pc 19 then some (.iload_n 2, 20, 0, 0) else none))) else (bif Nat.ble pc 29 then (bif Nat.ble pc 22 then (bif Nat.beq pc 20 then some (.iconst 0, 21, 0, 0) else bif Nat.beq pc 21 then some (.bastore, 22, 0, 0) else bif Nat.beq pc 22 then some (.iinc 2 1, 25, 0, 0) else none) else (bif Nat.beq pc 25 then some (.goto (-18), 28, 7, 0) else bif Nat.beq pc 28 then some (.aload_n 0, 29, 0, 0) else bif Nat.beq pc 29 then some (.iconst 0, 30, 0, 0) else none)) else (bif Nat.ble pc 34 then (bif Nat.beq pc 30 then some (.aload_n 0, 31, 0, 0) else bif Nat.beq pc 31 then some (.getfield 210, 34, 10, 40) else bif Nat.beq pc 34 then some (.iconst 1, 35, 0, 0) else none) else (bif Nat.beq pc 35 then some (.invokevirtual 229, 38, 0, 0) else bif Nat.beq pc 38 then some (.iconst 0, 39, 0, 0) else bif Nat.beq pc 39 then some (.istore_n 2, 40, 0, 0) else none)))) else (bif Nat.ble pc 61 then (bif Nat.ble pc 49 then (bif Nat.ble pc 42 then (bif Nat.beq pc 40 then some (.iload_n 2, 41, 0, 0) else bif Nat.beq pc 41 then some (.aload_n 0, 42, 0, 0) else bif Nat.beq pc 42 then some (.getfield 184, 45, 10, 15) else none) else (bif Nat.beq pc 45 then some (.if_icmp .ge 43, 48, 88, 0) else bif Nat.beq pc 48 then some (.aload_n 0, 49, 0, 0) else bif Nat.beq pc 49 then some (.getfield 52, 52, 10, 20) else none)) else (bif Nat.ble pc 54 then (bif Nat.beq pc 52 then some (.iload_n 2, 53, 0, 0) else bif Nat.beq pc 53 then some (.baload, 54, 0, 0) else bif Nat.beq pc 54 then some (.ifCond .eq 28, 57, 82, 0) else none) else (bif Nat.beq pc 57 then some (.aload_n 0, 58, 0, 0) else bif Nat.beq pc 58 then some (.getfield 40, 61, 10, 16) else bif Nat.beq pc 61 then some (.iload_n 2, 62, 0, 0) else none))) else (bif Nat.ble pc 70 then (bif Nat.ble pc 64 then (bif Nat.beq pc 62 then some (.iaload, 63, 0, 0) else bif Nat.beq pc 63 then some (.iconst 5, 64, 0, 0) else bif Nat.beq pc 64 then some (.if_icmp .ne 18, 67, 82, 0) else none) else (bif Nat.beq pc 67 then some (.aload_n 0, 68, 0, 0) else bif Nat.beq pc 68 then some (.bipush 24, 70, 0, 0) else bif Nat.beq pc 70 then some (.iload_n 2, 71, 0, 0) else none)) else (bif Nat.ble pc 73 then (bif Nat.beq pc 71 then some (.imul, 72, 0, 0) else bif Nat.beq pc 72 then some (.aload_n 0, 73, 0, 0) else bif Nat.beq pc 73 then some (.getfield 49, 76, 10, 19) else none) else (bif Nat.beq pc 76 then some (.iload_n 2, 77, 0, 0) else bif Nat.beq pc 77 then some (.iaload, 78, 0, 0) else bif Nat.beq pc 78 then some (.iconst 0, 79, 0, 0) else none))))) else (bif Nat.ble pc 120 then (bif Nat.ble pc 98 then (bif Nat.ble pc 92 then (bif Nat.ble pc 85 then (bif Nat.beq pc 79 then some (.invokevirtual 229, 82, 0, 0) else bif Nat.beq pc 82 then some (.iinc 2 1, 85, 0, 0) else bif Nat.beq pc 85 then some (.goto (-45), 88, 40, 0) else none) else (bif Nat.beq pc 88 then some (.aload_n 0, 89, 0, 0) else bif Nat.beq pc 89 then some (.getfield 76, 92, 10, 30) else bif Nat.beq pc 92 then some (.iload_n 1, 93, 0, 0) else none)) else (bif Nat.ble pc 95 then (bif Nat.beq pc 93 then some (.iconst 0, 94, 0, 0) else bif Nat.beq pc 94 then some (.iastore, 95, 0, 0) else bif Nat.beq pc 95 then some (.iconst 0, 96, 0, 0) else none) else (bif Nat.beq pc 96 then some (.istore_n 2, 97, 0, 0) else bif Nat.beq pc 97 then some (.iload_n 2, 98, 0, 0) else bif Nat.beq pc 98 then some (.aload_n 0, 99, 0, 0) else none))) else (bif Nat.ble pc 110 then (bif Nat.ble pc 105 then (bif Nat.beq pc 99 then some (.getfield 184, 102, 10, 15) else bif Nat.beq pc 102 then some (.if_icmp .ge 74, 105, 176, 0) else bif Nat.beq pc 105 then some (.aload_n 0, 106, 0, 0) else none) else (bif Nat.beq pc 106 then some (.getfield 52, 109, 10, 20) else bif Nat.beq pc 109 then some (.iload_n 2, 110, 0, 0) else bif Nat.beq pc 110 then some (.baload, 111, 0, 0) else none)) else (bif Nat.ble pc 115 then (bif Nat.beq pc 111 then some (.ifCond .eq 59, 114, 170, 0) else bif Nat.beq pc 114 then some (.aload_n 0, 115, 0, 0) else bif Nat.beq pc 115 then some (.getfield 40, 118, 10, 16) else none) else (bif Nat.beq pc 118 then some (.iload_n 2, 119, 0, 0) else bif Nat.beq pc 119 then some (.iaload, 120, 0, 0) else bif Nat.beq pc 120 then some (.iconst 5, 121, 0, 0) else none)))) else (bif Nat.ble pc 139 then (bif Nat.ble pc 132 then (bif Nat.ble pc 125 then (bif Nat.beq pc 121 then some (.if_icmp .eq 22, 124, 143, 0) else bif Nat.beq pc 124 then some (.aload_n 0, 125, 0, 0) else bif Nat.beq pc 125 then some (.getfield 106, 128, 10, 41) else none) else (bif Nat.beq pc 128 then some (.aload_n 0, 129, 0, 0) else bif Nat.beq pc 129 then some (.getfield 46, 132, 10, 18) else bif Nat.beq pc 132 then some (.bipush 24, 134, 0, 0) else none)) else (bif Nat.ble pc 136 then (bif Nat.beq pc 134 then some (.iload_n 2, 135, 0, 0) else bif Nat.beq pc 135 then some (.imul, 136, 0, 0) else bif Nat.beq pc 136 then some (.iconst 1, 137, 0, 0) else none) else (bif Nat.beq pc 137 then some (.iadd, 138, 0, 0) else bif Nat.beq pc 138 then some (.iaload, 139, 0, 0) else bif Nat.beq pc 139 then some (.baload, 140, 0, 0) else none))) else (bif Nat.ble pc 150 then (bif Nat.ble pc 144 then (bif Nat.beq pc 140 then some (.ifCond .eq 30, 143, 170, 0) else bif Nat.beq pc 143 then some (.aload_n 0, 144, 0, 0) else bif Nat.beq pc 144 then some (.getfield 73, 147, 10, 29) else none) else (bif Nat.beq pc 147 then some (.bipush 40, 149, 0, 0) else bif Nat.beq pc 149 then some (.iload_n 1, 150, 0, 0) else bif Nat.beq pc 150 then some (.imul, 151, 0, 0) else none)) else (bif Nat.ble pc 155 then (bif Nat.beq pc 151 then some (.aload_n 0, 152, 0, 0) else bif Nat.beq pc 152 then some (.getfield 76, 155, 10, 30) else bif Nat.beq pc 155 then some (.iload_n 1, 156, 0, 0) else none) else (bif Nat.beq pc 156 then some (.iaload, 157, 0, 0) else bif Nat.beq pc 157 then some (.iadd, 158, 0, 0) else bif Nat.beq pc 158 then some (.iload_n 2, 159, 0, 0) else none)))))) else (bif Nat.ble pc 234 then (bif Nat.ble pc 194 then (bif Nat.ble pc 176 then (bif Nat.ble pc 166 then (bif Nat.ble pc 161 then (bif Nat.beq pc 159 then some (.iastore, 160, 0, 0) else bif Nat.beq pc 160 then some (.aload_n 0, 161, 0, 0) else bif Nat.beq pc 161 then some (.getfield 76, 164, 10, 30) else none) else (bif Nat.beq pc 164 then some (.iload_n 1, 165, 0, 0) else bif Nat.beq pc 165 then some (.dup2, 166, 0, 0) else bif Nat.beq pc 166 then some (.iaload, 167, 0, 0) else none)) else (bif Nat.ble pc 169 then (bif Nat.beq pc 167 then some (.iconst 1, 168, 0, 0) else bif Nat.beq pc 168 then some (.iadd, 169, 0, 0) else bif Nat.beq pc 169 then some (.iastore, 170, 0, 0) else none) else (bif Nat.beq pc 170 then some (.iinc 2 1, 173, 0, 0) else bif Nat.beq pc 173 then some (.goto (-76), 176, 97, 0) else bif Nat.beq pc 176 then some (.aload_n 0, 177, 0, 0) else none))) else (bif Nat.ble pc 184 then (bif Nat.ble pc 181 then (bif Nat.beq pc 177 then some (.getfield 85, 180, 10, 33) else bif Nat.beq pc 180 then some (.iload_n 1, 181, 0, 0) else bif Nat.beq pc 181 then some (.iconst 0, 182, 0, 0) else none) else (bif Nat.beq pc 182 then some (.iastore, 183, 0, 0) else bif Nat.beq pc 183 then some (.iconst 0, 184, 0, 0) else bif Nat.beq pc 184 then some (.istore_n 2, 185, 0, 0) else none)) else (bif Nat.ble pc 187 then (bif Nat.beq pc 185 then some (.iload_n 2, 186, 0, 0) else bif Nat.beq pc 186 then some (.aload_n 0, 187, 0, 0) else bif Nat.beq pc 187 then some (.getfield 207, 190, 10, 23) else none) else (bif Nat.beq pc 190 then some (.if_icmp .ge 121, 193, 311, 0) else bif Nat.beq pc 193 then some (.aload_n 0, 194, 0, 0) else bif Nat.beq pc 194 then some (.getfield 106, 197, 10, 41) else none)))) else (bif Nat.ble pc 216 then (bif Nat.ble pc 204 then (bif Nat.ble pc 201 then (bif Nat.beq pc 197 then some (.aload_n 0, 198, 0, 0) else bif Nat.beq pc 198 then some (.getfield 61, 201, 10, 24) else bif Nat.beq pc 201 then some (.iload_n 2, 202, 0, 0) else none) else (bif Nat.beq pc 202 then some (.iaload, 203, 0, 0) else bif Nat.beq pc 203 then some (.baload, 204, 0, 0) else bif Nat.beq pc 204 then some (.ifCond .eq 21, 207, 225, 0) else none)) else (bif Nat.ble pc 211 then (bif Nat.beq pc 207 then some (.aload_n 0, 208, 0, 0) else bif Nat.beq pc 208 then some (.getfield 106, 211, 10, 41) else bif Nat.beq pc 211 then some (.aload_n 0, 212, 0, 0) else none) else (bif Nat.beq pc 212 then some (.getfield 64, 215, 10, 25) else bif Nat.beq pc 215 then some (.iload_n 2, 216, 0, 0) else bif Nat.beq pc 216 then some (.iaload, 217, 0, 0) else none))) else (bif Nat.ble pc 226 then (bif Nat.ble pc 221 then (bif Nat.beq pc 217 then some (.baload, 218, 0, 0) else bif Nat.beq pc 218 then some (.ifCond .eq 7, 221, 225, 0) else bif Nat.beq pc 221 then some (.iconst 1, 222, 0, 0) else none) else (bif Nat.beq pc 222 then some (.goto 4, 225, 226, 0) else bif Nat.beq pc 225 then some (.iconst 0, 226, 0, 0) else bif Nat.beq pc 226 then some (.istore_n 3, 227, 0, 0) else none)) else (bif Nat.ble pc 231 then (bif Nat.beq pc 227 then some (.iload_n 3, 228, 0, 0) else bif Nat.beq pc 228 then some (.ifCond .eq 77, 231, 305, 0) else bif Nat.beq pc 231 then some (.aload_n 0, 232, 0, 0) else none) else (bif Nat.beq pc 232 then some (.iload_n 1, 233, 0, 0) else bif Nat.beq pc 233 then some (.aload_n 0, 234, 0, 0) else bif Nat.beq pc 234 then some (.getfield 61, 237, 10, 24) else none))))) else (bif Nat.ble pc 273 then (bif Nat.ble pc 257 then (bif Nat.ble pc 244 then (bif Nat.ble pc 239 then (bif Nat.beq pc 237 then some (.iload_n 2, 238, 0, 0) else bif Nat.beq pc 238 then some (.iaload, 239, 0, 0) else bif Nat.beq pc 239 then some (.aload_n 0, 240, 0, 0) else none) else (bif Nat.beq pc 240 then some (.getfield 64, 243, 10, 25) else bif Nat.beq pc 243 then some (.iload_n 2, 244, 0, 0) else bif Nat.beq pc 244 then some (.iaload, 245, 0, 0) else none)) else (bif Nat.ble pc 251 then (bif Nat.beq pc 245 then some (.invokevirtual 233, 248, 0, 0) else bif Nat.beq pc 248 then some (.ifCond .ne 57, 251, 305, 0) else bif Nat.beq pc 251 then some (.aload_n 0, 252, 0, 0) else none) else (bif Nat.beq pc 252 then some (.getfield 79, 255, 10, 31) else bif Nat.beq pc 255 then some (.bipush 40, 257, 0, 0) else bif Nat.beq pc 257 then some (.iload_n 1, 258, 0, 0) else none))) else (bif Nat.ble pc 265 then (bif Nat.ble pc 260 then (bif Nat.beq pc 258 then some (.imul, 259, 0, 0) else bif Nat.beq pc 259 then some (.aload_n 0, 260, 0, 0) else bif Nat.beq pc 260 then some (.getfield 85, 263, 10, 33) else none) else (bif Nat.beq pc 263 then some (.iload_n 1, 264, 0, 0) else bif Nat.beq pc 264 then some (.iaload, 265, 0, 0) else bif Nat.beq pc 265 then some (.iadd, 266, 0, 0) else none)) else (bif Nat.ble pc 270 then (bif Nat.beq pc 266 then some (.aload_n 0, 267, 0, 0) else bif Nat.beq pc 267 then some (.getfield 61, 270, 10, 24) else bif Nat.beq pc 270 then some (.iload_n 2, 271, 0, 0) else none) else (bif Nat.beq pc 271 then some (.iaload, 272, 0, 0) else bif Nat.beq pc 272 then some (.iastore, 273, 0, 0) else bif Nat.beq pc 273 then some (.aload_n 0, 274, 0, 0) else none)))) else (bif Nat.ble pc 292 then (bif Nat.ble pc 282 then (bif Nat.ble pc 279 then (bif Nat.beq pc 274 then some (.getfield 82, 277, 10, 32) else bif Nat.beq pc 277 then some (.bipush 40, 279, 0, 0) else bif Nat.beq pc 279 then some (.iload_n 1, 280, 0, 0) else none) else (bif Nat.beq pc 280 then some (.imul, 281, 0, 0) else bif Nat.beq pc 281 then some (.aload_n 0, 282, 0, 0) else bif Nat.beq pc 282 then some (.getfield 85, 285, 10, 33) else none)) else (bif Nat.ble pc 287 then (bif Nat.beq pc 285 then some (.iload_n 1, 286, 0, 0) else bif Nat.beq pc 286 then some (.iaload, 287, 0, 0) else bif Nat.beq pc 287 then some (.iadd, 288, 0, 0) else none) else (bif Nat.beq pc 288 then some (.aload_n 0, 289, 0, 0) else bif Nat.beq pc 289 then some (.getfield 64, 292, 10, 25) else bif Nat.beq pc 292 then some (.iload_n 2, 293, 0, 0) else none))) else (bif Nat.ble pc 300 then (bif Nat.ble pc 295 then (bif Nat.beq pc 293 then some (.iaload, 294, 0, 0) else bif Nat.beq pc 294 then some (.iastore, 295, 0, 0) else bif Nat.beq pc 295 then some (.aload_n 0, 296, 0, 0) else none) else (bif Nat.beq pc 296 then some (.getfield 85, 299, 10, 33) else bif Nat.beq pc 299 then some (.iload_n 1, 300, 0, 0) else bif Nat.beq pc 300 then some (.dup2, 301, 0, 0) else none)) else (bif Nat.ble pc 303 then (bif Nat.beq pc 301 then some (.iaload, 302, 0, 0) else bif Nat.beq pc 302 then some (.iconst 1, 303, 0, 0) else bif Nat.beq pc 303 then some (.iadd, 304, 0, 0) else none) else (bif Nat.ble pc 305 then (bif Nat.beq pc 304 then some (.iastore, 305, 0, 0) else bif Nat.beq pc 305 then some (.iinc 2 1, 308, 0, 0) else none) else (bif Nat.beq pc 308 then some (.goto (-123), 311, 185, 0) else bif Nat.beq pc 311 then some (.return_, 312, 0, 0) else none))))))))
set_option maxRecDepth 100000 in
set_option maxHeartbeats 4000000 in
theorem ok_M_findNeeds : am_CD m_M_findNeeds cd_M_findNeeds := am_CD_of 312 fl_M_ok cn_M_ok kl_M_ok pl_M_ok (by intro pc h; unfold cd_M_findNeeds; rw [Nat.ble_eq_true_of_le h]; rfl) (by decide +kernel)
end
section
def cd_M_mark (pc : Nat) : Option am_I := bif Nat.ble 74 pc then none else (bif Nat.ble pc 34 then (bif Nat.ble pc 17 then (bif Nat.ble pc 6 then (bif Nat.ble pc 1 then (bif Nat.beq pc 0 then some (.iconst 0, 1, 0, 0) else bif Nat.beq pc 1 then some (.istore 4, 3, 0, 0) else none) else (bif Nat.beq pc 3 then some (.iload 4, 5, 0, 0) else bif Nat.beq pc 5 then some (.iload_n 2, 6, 0, 0) else bif Nat.beq pc 6 then some (.if_icmp .ge 67, 9, 73, 0) else none)) else (bif Nat.ble pc 10 then (bif Nat.beq pc 9 then some (.iload_n 3, 10, 0, 0) else bif Nat.beq pc 10 then some (.ifCond .eq 13, 13, 23, 0) else none) else (bif Nat.beq pc 13 then some (.aload_n 0, 14, 0, 0) else bif Nat.beq pc 14 then some (.getfield 103, 17, 10, 39) else bif Nat.beq pc 17 then some (.iload 4, 19, 0, 0) else none))) else (bif Nat.ble pc 27 then (bif Nat.ble pc 20 then (bif Nat.beq pc 19 then some (.iaload, 20, 0, 0) else bif Nat.beq pc 20 then some (.goto 12, 23, 32, 0) else none) else (bif Nat.beq pc 23 then some (.aload_n 0, 24, 0, 0) else bif Nat.beq pc 24 then some (.getfield 46, 27, 10, 18) else bif Nat.beq pc 27 then some (.iload_n 1, 28, 0, 0) else none)) else (bif Nat.ble pc 30 then (bif Nat.beq pc 28 then some (.iload 4, 30, 0, 0) else bif Nat.beq pc 30 then some (.iadd, 31, 0, 0) else none) else (bif Nat.beq pc 31 then some (.iaload, 32, 0, 0) else bif Nat.beq pc 32 then some (.istore 5, 34, 0, 0) else bif Nat.beq pc 34 then some (.aload_n 0, 35, 0, 0) else none)))) else (bif Nat.ble pc 54 then (bif Nat.ble pc 44 then (bif Nat.ble pc 38 then (bif Nat.beq pc 35 then some (.getfield 106, 38, 10, 41) else bif Nat.beq pc 38 then some (.iload 5, 40, 0, 0) else none) else (bif Nat.beq pc 40 then some (.aload_n 0, 41, 0, 0) else bif Nat.beq pc 41 then some (.getfield 106, 44, 10, 41) else bif Nat.beq pc 44 then some (.iload 5, 46, 0, 0) else none)) else (bif Nat.ble pc 47 then (bif Nat.beq pc 46 then some (.baload, 47, 0, 0) else bif Nat.beq pc 47 then some (.ifCond .ne 14, 50, 61, 0) else none) else (bif Nat.beq pc 50 then some (.aload_n 0, 51, 0, 0) else bif Nat.beq pc 51 then some (.getfield 27, 54, 10, 10) else bif Nat.beq pc 54 then some (.iload 5, 56, 0, 0) else none))) else (bif Nat.ble pc 62 then (bif Nat.ble pc 57 then (bif Nat.beq pc 56 then some (.iaload, 57, 0, 0) else bif Nat.beq pc 57 then some (.iconst 2, 58, 0, 0) else none) else (bif Nat.beq pc 58 then some (.if_icmp .ne 7, 61, 65, 0) else bif Nat.beq pc 61 then some (.iconst 1, 62, 0, 0) else bif Nat.beq pc 62 then some (.goto 4, 65, 66, 0) else none)) else (bif Nat.ble pc 66 then (bif Nat.beq pc 65 then some (.iconst 0, 66, 0, 0) else bif Nat.beq pc 66 then some (.bastore, 67, 0, 0) else none) else (bif Nat.beq pc 67 then some (.iinc 4 1, 70, 0, 0) else bif Nat.beq pc 70 then some (.goto (-67), 73, 3, 0) else bif Nat.beq pc 73 then some (.return_, 74, 0, 0) else none)))))
set_option maxRecDepth 100000 in
set_option maxHeartbeats 4000000 in
theorem ok_M_mark : am_CD m_M_mark cd_M_mark := am_CD_of 74 fl_M_ok cn_M_ok kl_M_ok pl_M_ok (by intro pc h; unfold cd_M_mark; rw [Nat.ble_eq_true_of_le h]; rfl) (by decide +kernel)
def cd_M_isNeeded (pc : Nat) : Option am_I := bif Nat.ble 76 pc then none else (bif Nat.ble pc 34 then (bif Nat.ble pc 16 then (bif Nat.ble pc 6 then (bif Nat.ble pc 2 then (bif Nat.beq pc 0 then some (.bipush 40, 2, 0, 0) else bif Nat.beq pc 2 then some (.iload_n 1, 3, 0, 0) else none) else (bif Nat.beq pc 3 then some (.imul, 4, 0, 0) else bif Nat.beq pc 4 then some (.istore 4, 6, 0, 0) else bif Nat.beq pc 6 then some (.iload 4, 8, 0, 0) else none)) else (bif Nat.ble pc 11 then (bif Nat.beq pc 8 then some (.bipush 40, 10, 0, 0) else bif Nat.beq pc 10 then some (.iload_n 1, 11, 0, 0) else bif Nat.beq pc 11 then some (.imul, 12, 0, 0) else none) else (bif Nat.beq pc 12 then some (.aload_n 0, 13, 0, 0) else bif Nat.beq pc 13 then some (.getfield 85, 16, 10, 33) else bif Nat.beq pc 16 then some (.iload_n 1, 17, 0, 0) else none))) else (bif Nat.ble pc 23 then (bif Nat.ble pc 18 then (bif Nat.beq pc 17 then some (.iaload, 18, 0, 0) else bif Nat.beq pc 18 then some (.iadd, 19, 0, 0) else none) else (bif Nat.beq pc 19 then some (.if_icmp .ge 55, 22, 74, 0) else bif Nat.beq pc 22 then some (.aload_n 0, 23, 0, 0) else bif Nat.beq pc 23 then some (.getfield 79, 26, 10, 31) else none)) else (bif Nat.ble pc 29 then (bif Nat.beq pc 26 then some (.iload 4, 28, 0, 0) else bif Nat.beq pc 28 then some (.iaload, 29, 0, 0) else bif Nat.beq pc 29 then some (.iload_n 2, 30, 0, 0) else none) else (bif Nat.beq pc 30 then some (.if_icmp .ne 14, 33, 44, 0) else bif Nat.beq pc 33 then some (.aload_n 0, 34, 0, 0) else bif Nat.beq pc 34 then some (.getfield 82, 37, 10, 32) else none)))) else (bif Nat.ble pc 55 then (bif Nat.ble pc 44 then (bif Nat.ble pc 39 then (bif Nat.beq pc 37 then some (.iload 4, 39, 0, 0) else bif Nat.beq pc 39 then some (.iaload, 40, 0, 0) else none) else (bif Nat.beq pc 40 then some (.iload_n 3, 41, 0, 0) else bif Nat.beq pc 41 then some (.if_icmp .eq 25, 44, 66, 0) else bif Nat.beq pc 44 then some (.aload_n 0, 45, 0, 0) else none)) else (bif Nat.ble pc 50 then (bif Nat.beq pc 45 then some (.getfield 79, 48, 10, 31) else bif Nat.beq pc 48 then some (.iload 4, 50, 0, 0) else bif Nat.beq pc 50 then some (.iaload, 51, 0, 0) else none) else (bif Nat.beq pc 51 then some (.iload_n 3, 52, 0, 0) else bif Nat.beq pc 52 then some (.if_icmp .ne 16, 55, 68, 0) else bif Nat.beq pc 55 then some (.aload_n 0, 56, 0, 0) else none))) else (bif Nat.ble pc 63 then (bif Nat.ble pc 59 then (bif Nat.beq pc 56 then some (.getfield 82, 59, 10, 32) else bif Nat.beq pc 59 then some (.iload 4, 61, 0, 0) else none) else (bif Nat.beq pc 61 then some (.iaload, 62, 0, 0) else bif Nat.beq pc 62 then some (.iload_n 2, 63, 0, 0) else bif Nat.beq pc 63 then some (.if_icmp .ne 5, 66, 68, 0) else none)) else (bif Nat.ble pc 68 then (bif Nat.beq pc 66 then some (.iconst 1, 67, 0, 0) else bif Nat.beq pc 67 then some (.ireturn, 68, 0, 0) else bif Nat.beq pc 68 then some (.iinc 4 1, 71, 0, 0) else none) else (bif Nat.beq pc 71 then some (.goto (-65), 74, 6, 0) else bif Nat.beq pc 74 then some (.iconst 0, 75, 0, 0) else bif Nat.beq pc 75 then some (.ireturn, 76, 0, 0) else none)))))
set_option maxRecDepth 100000 in
set_option maxHeartbeats 4000000 in
theorem ok_M_isNeeded : am_CD m_M_isNeeded cd_M_isNeeded := am_CD_of 76 fl_M_ok cn_M_ok kl_M_ok pl_M_ok (by intro pc h; unfold cd_M_isNeeded; rw [Nat.ble_eq_true_of_le h]; rfl) (by decide +kernel)
def cd_M_begin (pc : Nat) : Option am_I := bif Nat.ble 63 pc then none else (bif Nat.ble pc 26 then (bif Nat.ble pc 13 then (bif Nat.ble pc 6 then (bif Nat.ble pc 1 then (bif Nat.beq pc 0 then some (.aload_n 0, 1, 0, 0) else bif Nat.beq pc 1 then some (.getfield 88, 4, 10, 34) else none) else (bif Nat.beq pc 4 then some (.iload_n 1, 5, 0, 0) else bif Nat.beq pc 5 then some (.iconst 0, 6, 0, 0) else bif Nat.beq pc 6 then some (.iastore, 7, 0, 0) else none)) else (bif Nat.ble pc 8 then (bif Nat.beq pc 7 then some (.aload_n 0, 8, 0, 0) else bif Nat.beq pc 8 then some (.getfield 91, 11, 10, 35) else none) else (bif Nat.beq pc 11 then some (.iload_n 1, 12, 0, 0) else bif Nat.beq pc 12 then some (.iconst 0, 13, 0, 0) else bif Nat.beq pc 13 then some (.iastore, 14, 0, 0) else none))) else (bif Nat.ble pc 20 then (bif Nat.ble pc 15 then (bif Nat.beq pc 14 then some (.aload_n 0, 15, 0, 0) else bif Nat.beq pc 15 then some (.getfield 97, 18, 10, 37) else none) else (bif Nat.beq pc 18 then some (.iload_n 1, 19, 0, 0) else bif Nat.beq pc 19 then some (.iconst 0, 20, 0, 0) else bif Nat.beq pc 20 then some (.bastore, 21, 0, 0) else none)) else (bif Nat.ble pc 22 then (bif Nat.beq pc 21 then some (.iconst 0, 22, 0, 0) else bif Nat.beq pc 22 then some (.istore_n 2, 23, 0, 0) else none) else (bif Nat.beq pc 23 then some (.iload_n 2, 24, 0, 0) else bif Nat.beq pc 24 then some (.bipush 40, 26, 0, 0) else bif Nat.beq pc 26 then some (.if_icmp .ge 21, 29, 47, 0) else none)))) else (bif Nat.ble pc 41 then (bif Nat.ble pc 36 then (bif Nat.ble pc 30 then (bif Nat.beq pc 29 then some (.aload_n 0, 30, 0, 0) else bif Nat.beq pc 30 then some (.getfield 94, 33, 10, 36) else none) else (bif Nat.beq pc 33 then some (.bipush 40, 35, 0, 0) else bif Nat.beq pc 35 then some (.iload_n 1, 36, 0, 0) else bif Nat.beq pc 36 then some (.imul, 37, 0, 0) else none)) else (bif Nat.ble pc 38 then (bif Nat.beq pc 37 then some (.iload_n 2, 38, 0, 0) else bif Nat.beq pc 38 then some (.iadd, 39, 0, 0) else none) else (bif Nat.beq pc 39 then some (.iconst 0, 40, 0, 0) else bif Nat.beq pc 40 then some (.iastore, 41, 0, 0) else bif Nat.beq pc 41 then some (.iinc 2 1, 44, 0, 0) else none))) else (bif Nat.ble pc 52 then (bif Nat.ble pc 47 then (bif Nat.beq pc 44 then some (.goto (-21), 47, 23, 0) else bif Nat.beq pc 47 then some (.aload_n 0, 48, 0, 0) else none) else (bif Nat.beq pc 48 then some (.iconst 0, 49, 0, 0) else bif Nat.beq pc 49 then some (.putfield 256, 52, 10, 45) else bif Nat.beq pc 52 then some (.aload_n 0, 53, 0, 0) else none)) else (bif Nat.ble pc 57 then (bif Nat.beq pc 53 then some (.iconst 0, 54, 0, 0) else bif Nat.beq pc 54 then some (.putfield 259, 57, 10, 48) else bif Nat.beq pc 57 then some (.aload_n 0, 58, 0, 0) else none) else (bif Nat.beq pc 58 then some (.iconst 0, 59, 0, 0) else bif Nat.beq pc 59 then some (.putfield 262, 62, 10, 51) else bif Nat.beq pc 62 then some (.return_, 63, 0, 0) else none)))))
set_option maxRecDepth 100000 in
set_option maxHeartbeats 4000000 in
theorem ok_M_begin : am_CD m_M_begin cd_M_begin := am_CD_of 63 fl_M_ok cn_M_ok kl_M_ok pl_M_ok (by intro pc h; unfold cd_M_begin; rw [Nat.ble_eq_true_of_le h]; rfl) (by decide +kernel)
def cd_M_readProof (pc : Nat) : Option am_I := bif Nat.ble 65 pc then none else (bif Nat.ble pc 29 then (bif Nat.ble pc 12 then (bif Nat.ble pc 5 then (bif Nat.ble pc 1 then (bif Nat.beq pc 0 then some (.aload_n 0, 1, 0, 0) else bif Nat.beq pc 1 then some (.invokevirtual 169, 4, 0, 0) else none) else (bif Nat.beq pc 4 then some (.istore_n 2, 5, 0, 0) else bif Nat.beq pc 5 then some (.iload_n 2, 6, 0, 0) else none)) else (bif Nat.ble pc 9 then (bif Nat.beq pc 6 then some (.ifCond .ne 42, 9, 48, 0) else bif Nat.beq pc 9 then some (.aload_n 0, 10, 0, 0) else none) else (bif Nat.beq pc 10 then some (.bipush 40, 12, 0, 0) else bif Nat.beq pc 12 then some (.invokevirtual 290, 15, 0, 0) else none))) else (bif Nat.ble pc 20 then (bif Nat.ble pc 18 then (bif Nat.beq pc 15 then some (.ifCond .eq 33, 18, 48, 0) else bif Nat.beq pc 18 then some (.aload_n 0, 19, 0, 0) else none) else (bif Nat.beq pc 19 then some (.dup, 20, 0, 0) else bif Nat.beq pc 20 then some (.getfield 150, 23, 10, 5) else none)) else (bif Nat.ble pc 24 then (bif Nat.beq pc 23 then some (.iconst 1, 24, 0, 0) else bif Nat.beq pc 24 then some (.iadd, 25, 0, 0) else none) else (bif Nat.beq pc 25 then some (.putfield 150, 28, 10, 5) else bif Nat.beq pc 28 then some (.aload_n 0, 29, 0, 0) else bif Nat.beq pc 29 then some (.iload_n 1, 30, 0, 0) else none)))) else (bif Nat.ble pc 45 then (bif Nat.ble pc 37 then (bif Nat.ble pc 33 then (bif Nat.beq pc 30 then some (.invokevirtual 293, 33, 0, 0) else bif Nat.beq pc 33 then some (.aload_n 0, 34, 0, 0) else none) else (bif Nat.beq pc 34 then some (.getfield 147, 37, 10, 6) else bif Nat.beq pc 37 then some (.ifCond .ne 16, 40, 53, 0) else none)) else (bif Nat.ble pc 41 then (bif Nat.beq pc 40 then some (.aload_n 0, 41, 0, 0) else bif Nat.beq pc 41 then some (.iload_n 1, 42, 0, 0) else none) else (bif Nat.beq pc 42 then some (.invokevirtual 296, 45, 0, 0) else bif Nat.beq pc 45 then some (.goto 8, 48, 53, 0) else none))) else (bif Nat.ble pc 53 then (bif Nat.ble pc 49 then (bif Nat.beq pc 48 then some (.aload_n 0, 49, 0, 0) else bif Nat.beq pc 49 then some (.iload_n 1, 50, 0, 0) else none) else (bif Nat.beq pc 50 then some (.invokevirtual 299, 53, 0, 0) else bif Nat.beq pc 53 then some (.aload_n 0, 54, 0, 0) else none)) else (bif Nat.ble pc 57 then (bif Nat.beq pc 54 then some (.getfield 147, 57, 10, 6) else bif Nat.beq pc 57 then some (.ifCond .ne 7, 60, 64, 0) else none) else (bif Nat.beq pc 60 then some (.aload_n 0, 61, 0, 0) else bif Nat.beq pc 61 then some (.invokevirtual 302, 64, 0, 0) else bif Nat.beq pc 64 then some (.return_, 65, 0, 0) else none)))))
set_option maxRecDepth 100000 in
set_option maxHeartbeats 4000000 in
theorem ok_M_readProof : am_CD m_M_readProof cd_M_readProof := am_CD_of 65 fl_M_ok cn_M_ok kl_M_ok pl_M_ok (by intro pc h; unfold cd_M_readProof; rw [Nat.ble_eq_true_of_le h]; rfl) (by decide +kernel)
def cd_M_isWord (pc : Nat) : Option am_I := bif Nat.ble 32 pc then none else (bif Nat.ble pc 14 then (bif Nat.ble pc 5 then (bif Nat.ble pc 1 then (bif Nat.beq pc 0 then some (.aload_n 0, 1, 0, 0) else bif Nat.beq pc 1 then some (.getfield 16, 4, 10, 3) else none) else (bif Nat.beq pc 4 then some (.aload_n 0, 5, 0, 0) else bif Nat.beq pc 5 then some (.getfield 150, 8, 10, 5) else none)) else (bif Nat.ble pc 9 then (bif Nat.beq pc 8 then some (.iaload, 9, 0, 0) else bif Nat.beq pc 9 then some (.iconst 1, 10, 0, 0) else none) else (bif Nat.beq pc 10 then some (.if_icmp .ne 20, 13, 30, 0) else bif Nat.beq pc 13 then some (.aload_n 0, 14, 0, 0) else bif Nat.beq pc 14 then some (.aload_n 0, 15, 0, 0) else none))) else (bif Nat.ble pc 22 then (bif Nat.ble pc 18 then (bif Nat.beq pc 15 then some (.getfield 150, 18, 10, 5) else bif Nat.beq pc 18 then some (.iconst 0, 19, 0, 0) else none) else (bif Nat.beq pc 19 then some (.invokevirtual 141, 22, 0, 0) else bif Nat.beq pc 22 then some (.iload_n 1, 23, 0, 0) else none)) else (bif Nat.ble pc 26 then (bif Nat.beq pc 23 then some (.if_icmp .ne 7, 26, 30, 0) else bif Nat.beq pc 26 then some (.iconst 1, 27, 0, 0) else none) else (bif Nat.beq pc 27 then some (.goto 4, 30, 31, 0) else bif Nat.beq pc 30 then some (.iconst 0, 31, 0, 0) else bif Nat.beq pc 31 then some (.ireturn, 32, 0, 0) else none))))
set_option maxRecDepth 100000 in
set_option maxHeartbeats 4000000 in
theorem ok_M_isWord : am_CD m_M_isWord cd_M_isWord := am_CD_of 32 fl_M_ok cn_M_ok kl_M_ok pl_M_ok (by intro pc h; unfold cd_M_isWord; rw [Nat.ble_eq_true_of_le h]; rfl) (by decide +kernel)
def cd_M_readListed (pc : Nat) : Option am_I := bif Nat.ble 135 pc then none else (bif Nat.ble pc 62 then (bif Nat.ble pc 31 then (bif Nat.ble pc 13 then (bif Nat.ble pc 5 then (bif Nat.ble pc 1 then (bif Nat.beq pc 0 then some (.aload_n 0, 1, 0, 0) else bif Nat.beq pc 1 then some (.iconst 0, 2, 0, 0) else none) else (bif Nat.beq pc 2 then some (.putfield 311, 5, 10, 53) else bif Nat.beq pc 5 then some (.aload_n 0, 6, 0, 0) else none)) else (bif Nat.ble pc 9 then (bif Nat.beq pc 6 then some (.getfield 147, 9, 10, 6) else bif Nat.beq pc 9 then some (.ifCond .ne 125, 12, 134, 0) else none) else (bif Nat.beq pc 12 then some (.aload_n 0, 13, 0, 0) else bif Nat.beq pc 13 then some (.invokevirtual 213, 16, 0, 0) else none))) else (bif Nat.ble pc 21 then (bif Nat.ble pc 19 then (bif Nat.beq pc 16 then some (.ifCond .ne 4, 19, 20, 0) else bif Nat.beq pc 19 then some (.return_, 20, 0, 0) else none) else (bif Nat.beq pc 20 then some (.aload_n 0, 21, 0, 0) else bif Nat.beq pc 21 then some (.bipush 41, 23, 0, 0) else none)) else (bif Nat.ble pc 26 then (bif Nat.beq pc 23 then some (.invokevirtual 290, 26, 0, 0) else bif Nat.beq pc 26 then some (.ifCond .eq 14, 29, 40, 0) else none) else (bif Nat.beq pc 29 then some (.aload_n 0, 30, 0, 0) else bif Nat.beq pc 30 then some (.dup, 31, 0, 0) else bif Nat.beq pc 31 then some (.getfield 150, 34, 10, 5) else none)))) else (bif Nat.ble pc 46 then (bif Nat.ble pc 39 then (bif Nat.ble pc 35 then (bif Nat.beq pc 34 then some (.iconst 1, 35, 0, 0) else bif Nat.beq pc 35 then some (.iadd, 36, 0, 0) else none) else (bif Nat.beq pc 36 then some (.putfield 150, 39, 10, 5) else bif Nat.beq pc 39 then some (.return_, 40, 0, 0) else none)) else (bif Nat.ble pc 41 then (bif Nat.beq pc 40 then some (.aload_n 0, 41, 0, 0) else bif Nat.beq pc 41 then some (.invokevirtual 305, 44, 0, 0) else none) else (bif Nat.beq pc 44 then some (.istore_n 2, 45, 0, 0) else bif Nat.beq pc 45 then some (.iload_n 2, 46, 0, 0) else bif Nat.beq pc 46 then some (.ifCond .lt 25, 49, 71, 0) else none))) else (bif Nat.ble pc 52 then (bif Nat.ble pc 50 then (bif Nat.beq pc 49 then some (.aload_n 0, 50, 0, 0) else bif Nat.beq pc 50 then some (.iload_n 1, 51, 0, 0) else none) else (bif Nat.beq pc 51 then some (.iload_n 2, 52, 0, 0) else bif Nat.beq pc 52 then some (.invokevirtual 314, 55, 0, 0) else none)) else (bif Nat.ble pc 58 then (bif Nat.beq pc 55 then some (.ifCond .eq 16, 58, 71, 0) else bif Nat.beq pc 58 then some (.aload_n 0, 59, 0, 0) else none) else (bif Nat.beq pc 59 then some (.bipush (-8), 61, 0, 0) else bif Nat.beq pc 61 then some (.aload_n 0, 62, 0, 0) else bif Nat.beq pc 62 then some (.getfield 150, 65, 10, 5) else none))))) else (bif Nat.ble pc 102 then (bif Nat.ble pc 84 then (bif Nat.ble pc 72 then (bif Nat.ble pc 68 then (bif Nat.beq pc 65 then some (.invokevirtual 157, 68, 0, 0) else bif Nat.beq pc 68 then some (.goto 53, 71, 121, 0) else none) else (bif Nat.beq pc 71 then some (.iload_n 2, 72, 0, 0) else bif Nat.beq pc 72 then some (.ifCond .lt 25, 75, 97, 0) else none)) else (bif Nat.ble pc 76 then (bif Nat.beq pc 75 then some (.aload_n 0, 76, 0, 0) else bif Nat.beq pc 76 then some (.getfield 311, 79, 10, 53) else none) else (bif Nat.beq pc 79 then some (.bipush 20, 81, 0, 0) else bif Nat.beq pc 81 then some (.if_icmp .ne 16, 84, 97, 0) else bif Nat.beq pc 84 then some (.aload_n 0, 85, 0, 0) else none))) else (bif Nat.ble pc 91 then (bif Nat.ble pc 87 then (bif Nat.beq pc 85 then some (.bipush (-7), 87, 0, 0) else bif Nat.beq pc 87 then some (.aload_n 0, 88, 0, 0) else none) else (bif Nat.beq pc 88 then some (.getfield 150, 91, 10, 5) else bif Nat.beq pc 91 then some (.invokevirtual 157, 94, 0, 0) else none)) else (bif Nat.ble pc 97 then (bif Nat.beq pc 94 then some (.goto 27, 97, 121, 0) else bif Nat.beq pc 97 then some (.iload_n 2, 98, 0, 0) else none) else (bif Nat.beq pc 98 then some (.ifCond .lt 23, 101, 121, 0) else bif Nat.beq pc 101 then some (.aload_n 0, 102, 0, 0) else bif Nat.beq pc 102 then some (.getfield 130, 105, 10, 52) else none)))) else (bif Nat.ble pc 117 then (bif Nat.ble pc 110 then (bif Nat.ble pc 106 then (bif Nat.beq pc 105 then some (.aload_n 0, 106, 0, 0) else bif Nat.beq pc 106 then some (.getfield 311, 109, 10, 53) else none) else (bif Nat.beq pc 109 then some (.iload_n 2, 110, 0, 0) else bif Nat.beq pc 110 then some (.iastore, 111, 0, 0) else none)) else (bif Nat.ble pc 112 then (bif Nat.beq pc 111 then some (.aload_n 0, 112, 0, 0) else bif Nat.beq pc 112 then some (.dup, 113, 0, 0) else none) else (bif Nat.beq pc 113 then some (.getfield 311, 116, 10, 53) else bif Nat.beq pc 116 then some (.iconst 1, 117, 0, 0) else bif Nat.beq pc 117 then some (.iadd, 118, 0, 0) else none))) else (bif Nat.ble pc 123 then (bif Nat.ble pc 121 then (bif Nat.beq pc 118 then some (.putfield 311, 121, 10, 53) else bif Nat.beq pc 121 then some (.aload_n 0, 122, 0, 0) else none) else (bif Nat.beq pc 122 then some (.dup, 123, 0, 0) else bif Nat.beq pc 123 then some (.getfield 150, 126, 10, 5) else none)) else (bif Nat.ble pc 127 then (bif Nat.beq pc 126 then some (.iconst 1, 127, 0, 0) else bif Nat.beq pc 127 then some (.iadd, 128, 0, 0) else none) else (bif Nat.beq pc 128 then some (.putfield 150, 131, 10, 5) else bif Nat.beq pc 131 then some (.goto (-126), 134, 5, 0) else bif Nat.beq pc 134 then some (.return_, 135, 0, 0) else none))))))
set_option maxRecDepth 100000 in
set_option maxHeartbeats 4000000 in
theorem ok_M_readListed : am_CD m_M_readListed cd_M_readListed := am_CD_of 135 fl_M_ok cn_M_ok kl_M_ok pl_M_ok (by intro pc h; unfold cd_M_readListed; rw [Nat.ble_eq_true_of_le h]; rfl) (by decide +kernel)
def cd_M_lookUp (pc : Nat) : Option am_I := bif Nat.ble 56 pc then none else (bif Nat.ble pc 25 then (bif Nat.ble pc 13 then (bif Nat.ble pc 5 then (bif Nat.ble pc 1 then (bif Nat.beq pc 0 then some (.aload_n 0, 1, 0, 0) else bif Nat.beq pc 1 then some (.invokevirtual 190, 4, 0, 0) else none) else (bif Nat.beq pc 4 then some (.istore_n 1, 5, 0, 0) else bif Nat.beq pc 5 then some (.iload_n 1, 6, 0, 0) else none)) else (bif Nat.ble pc 9 then (bif Nat.beq pc 6 then some (.ifCond .ge 7, 9, 13, 0) else bif Nat.beq pc 9 then some (.iconst (-1), 10, 0, 0) else none) else (bif Nat.beq pc 10 then some (.goto 9, 13, 19, 0) else bif Nat.beq pc 13 then some (.aload_n 0, 14, 0, 0) else none))) else (bif Nat.ble pc 19 then (bif Nat.ble pc 17 then (bif Nat.beq pc 14 then some (.getfield 37, 17, 10, 13) else bif Nat.beq pc 17 then some (.iload_n 1, 18, 0, 0) else none) else (bif Nat.beq pc 18 then some (.iaload, 19, 0, 0) else bif Nat.beq pc 19 then some (.istore_n 2, 20, 0, 0) else none)) else (bif Nat.ble pc 21 then (bif Nat.beq pc 20 then some (.iload_n 2, 21, 0, 0) else bif Nat.beq pc 21 then some (.ifCond .lt 21, 24, 42, 0) else none) else (bif Nat.beq pc 24 then some (.aload_n 0, 25, 0, 0) else bif Nat.beq pc 25 then some (.getfield 58, 28, 10, 22) else none)))) else (bif Nat.ble pc 39 then (bif Nat.ble pc 33 then (bif Nat.ble pc 29 then (bif Nat.beq pc 28 then some (.iload_n 2, 29, 0, 0) else bif Nat.beq pc 29 then some (.iaload, 30, 0, 0) else none) else (bif Nat.beq pc 30 then some (.ifCond .ge 24, 33, 54, 0) else bif Nat.beq pc 33 then some (.aload_n 0, 34, 0, 0) else none)) else (bif Nat.ble pc 37 then (bif Nat.beq pc 34 then some (.getfield 52, 37, 10, 20) else bif Nat.beq pc 37 then some (.iload_n 2, 38, 0, 0) else none) else (bif Nat.beq pc 38 then some (.baload, 39, 0, 0) else bif Nat.beq pc 39 then some (.ifCond .ne 15, 42, 54, 0) else none))) else (bif Nat.ble pc 46 then (bif Nat.ble pc 43 then (bif Nat.beq pc 42 then some (.aload_n 0, 43, 0, 0) else bif Nat.beq pc 43 then some (.bipush (-8), 45, 0, 0) else none) else (bif Nat.beq pc 45 then some (.aload_n 0, 46, 0, 0) else bif Nat.beq pc 46 then some (.getfield 150, 49, 10, 5) else none)) else (bif Nat.ble pc 52 then (bif Nat.beq pc 49 then some (.invokevirtual 157, 52, 0, 0) else bif Nat.beq pc 52 then some (.iconst (-1), 53, 0, 0) else none) else (bif Nat.beq pc 53 then some (.ireturn, 54, 0, 0) else bif Nat.beq pc 54 then some (.iload_n 2, 55, 0, 0) else bif Nat.beq pc 55 then some (.ireturn, 56, 0, 0) else none)))))
set_option maxRecDepth 100000 in
set_option maxHeartbeats 4000000 in
theorem ok_M_lookUp : am_CD m_M_lookUp cd_M_lookUp := am_CD_of 56 fl_M_ok cn_M_ok kl_M_ok pl_M_ok (by intro pc h; unfold cd_M_lookUp; rw [Nat.ble_eq_true_of_le h]; rfl) (by decide +kernel)
def cd_M_isMandatory (pc : Nat) : Option am_I := bif Nat.ble 37 pc then none else (bif Nat.ble pc 18 then (bif Nat.ble pc 7 then (bif Nat.ble pc 2 then (bif Nat.beq pc 0 then some (.iconst 0, 1, 0, 0) else bif Nat.beq pc 1 then some (.istore_n 3, 2, 0, 0) else bif Nat.beq pc 2 then some (.iload_n 3, 3, 0, 0) else none) else (bif Nat.beq pc 3 then some (.aload_n 0, 4, 0, 0) else bif Nat.beq pc 4 then some (.getfield 76, 7, 10, 30) else bif Nat.beq pc 7 then some (.iload_n 1, 8, 0, 0) else none)) else (bif Nat.ble pc 12 then (bif Nat.beq pc 8 then some (.iaload, 9, 0, 0) else bif Nat.beq pc 9 then some (.if_icmp .ge 26, 12, 35, 0) else bif Nat.beq pc 12 then some (.aload_n 0, 13, 0, 0) else none) else (bif Nat.beq pc 13 then some (.getfield 73, 16, 10, 29) else bif Nat.beq pc 16 then some (.bipush 40, 18, 0, 0) else bif Nat.beq pc 18 then some (.iload_n 1, 19, 0, 0) else none))) else (bif Nat.ble pc 24 then (bif Nat.ble pc 21 then (bif Nat.beq pc 19 then some (.imul, 20, 0, 0) else bif Nat.beq pc 20 then some (.iload_n 3, 21, 0, 0) else bif Nat.beq pc 21 then some (.iadd, 22, 0, 0) else none) else (bif Nat.beq pc 22 then some (.iaload, 23, 0, 0) else bif Nat.beq pc 23 then some (.iload_n 2, 24, 0, 0) else bif Nat.beq pc 24 then some (.if_icmp .ne 5, 27, 29, 0) else none)) else (bif Nat.ble pc 29 then (bif Nat.beq pc 27 then some (.iconst 1, 28, 0, 0) else bif Nat.beq pc 28 then some (.ireturn, 29, 0, 0) else bif Nat.beq pc 29 then some (.iinc 3 1, 32, 0, 0) else none) else (bif Nat.beq pc 32 then some (.goto (-30), 35, 2, 0) else bif Nat.beq pc 35 then some (.iconst 0, 36, 0, 0) else bif Nat.beq pc 36 then some (.ireturn, 37, 0, 0) else none))))
set_option maxRecDepth 100000 in
set_option maxHeartbeats 4000000 in
theorem ok_M_isMandatory : am_CD m_M_isMandatory cd_M_isMandatory := am_CD_of 37 fl_M_ok cn_M_ok kl_M_ok pl_M_ok (by intro pc h; unfold cd_M_isMandatory; rw [Nat.ble_eq_true_of_le h]; rfl) (by decide +kernel)
def cd_M_readLetters (pc : Nat) : Option am_I := bif Nat.ble 128 pc then none else (bif Nat.ble pc 62 then (bif Nat.ble pc 27 then (bif Nat.ble pc 11 then (bif Nat.ble pc 5 then (bif Nat.ble pc 1 then (bif Nat.beq pc 0 then some (.aload_n 0, 1, 0, 0) else bif Nat.beq pc 1 then some (.iconst 0, 2, 0, 0) else none) else (bif Nat.beq pc 2 then some (.putfield 317, 5, 10, 54) else bif Nat.beq pc 5 then some (.aload_n 0, 6, 0, 0) else none)) else (bif Nat.ble pc 7 then (bif Nat.beq pc 6 then some (.iconst 0, 7, 0, 0) else bif Nat.beq pc 7 then some (.putfield 320, 10, 10, 55) else none) else (bif Nat.beq pc 10 then some (.aload_n 0, 11, 0, 0) else bif Nat.beq pc 11 then some (.iconst 0, 12, 0, 0) else none))) else (bif Nat.ble pc 19 then (bif Nat.ble pc 15 then (bif Nat.beq pc 12 then some (.putfield 323, 15, 10, 56) else bif Nat.beq pc 15 then some (.aload_n 0, 16, 0, 0) else none) else (bif Nat.beq pc 16 then some (.getfield 147, 19, 10, 6) else bif Nat.beq pc 19 then some (.ifCond .ne 108, 22, 127, 0) else none)) else (bif Nat.ble pc 23 then (bif Nat.beq pc 22 then some (.aload_n 0, 23, 0, 0) else bif Nat.beq pc 23 then some (.invokevirtual 169, 26, 0, 0) else none) else (bif Nat.beq pc 26 then some (.istore_n 2, 27, 0, 0) else bif Nat.beq pc 27 then some (.iload_n 2, 28, 0, 0) else none)))) else (bif Nat.ble pc 43 then (bif Nat.ble pc 34 then (bif Nat.ble pc 30 then (bif Nat.beq pc 28 then some (.bipush 9, 30, 0, 0) else bif Nat.beq pc 30 then some (.if_icmp .ne 21, 33, 51, 0) else none) else (bif Nat.beq pc 33 then some (.aload_n 0, 34, 0, 0) else bif Nat.beq pc 34 then some (.getfield 320, 37, 10, 55) else none)) else (bif Nat.ble pc 40 then (bif Nat.beq pc 37 then some (.ifCond .eq 13, 40, 50, 0) else bif Nat.beq pc 40 then some (.aload_n 0, 41, 0, 0) else none) else (bif Nat.beq pc 41 then some (.bipush (-8), 43, 0, 0) else bif Nat.beq pc 43 then some (.aload_n 0, 44, 0, 0) else none))) else (bif Nat.ble pc 51 then (bif Nat.ble pc 47 then (bif Nat.beq pc 44 then some (.getfield 150, 47, 10, 5) else bif Nat.beq pc 47 then some (.invokevirtual 157, 50, 0, 0) else none) else (bif Nat.beq pc 50 then some (.return_, 51, 0, 0) else bif Nat.beq pc 51 then some (.iload_n 2, 52, 0, 0) else none)) else (bif Nat.ble pc 55 then (bif Nat.beq pc 52 then some (.ifCond .ne 10, 55, 62, 0) else bif Nat.beq pc 55 then some (.aload_n 0, 56, 0, 0) else none) else (bif Nat.beq pc 56 then some (.invokevirtual 326, 59, 0, 0) else bif Nat.beq pc 59 then some (.ifCond .ne 13, 62, 72, 0) else bif Nat.beq pc 62 then some (.aload_n 0, 63, 0, 0) else none))))) else (bif Nat.ble pc 94 then (bif Nat.ble pc 75 then (bif Nat.ble pc 69 then (bif Nat.ble pc 65 then (bif Nat.beq pc 63 then some (.bipush (-3), 65, 0, 0) else bif Nat.beq pc 65 then some (.aload_n 0, 66, 0, 0) else none) else (bif Nat.beq pc 66 then some (.getfield 150, 69, 10, 5) else bif Nat.beq pc 69 then some (.invokevirtual 157, 72, 0, 0) else none)) else (bif Nat.ble pc 73 then (bif Nat.beq pc 72 then some (.iconst 0, 73, 0, 0) else bif Nat.beq pc 73 then some (.istore_n 3, 74, 0, 0) else none) else (bif Nat.beq pc 74 then some (.aload_n 0, 75, 0, 0) else bif Nat.beq pc 75 then some (.getfield 147, 78, 10, 6) else none))) else (bif Nat.ble pc 83 then (bif Nat.ble pc 81 then (bif Nat.beq pc 78 then some (.ifCond .ne 36, 81, 114, 0) else bif Nat.beq pc 81 then some (.iload_n 3, 82, 0, 0) else none) else (bif Nat.beq pc 82 then some (.aload_n 0, 83, 0, 0) else bif Nat.beq pc 83 then some (.getfield 16, 86, 10, 3) else none)) else (bif Nat.ble pc 87 then (bif Nat.beq pc 86 then some (.aload_n 0, 87, 0, 0) else bif Nat.beq pc 87 then some (.getfield 150, 90, 10, 5) else none) else (bif Nat.beq pc 90 then some (.iaload, 91, 0, 0) else bif Nat.beq pc 91 then some (.if_icmp .ge 23, 94, 114, 0) else bif Nat.beq pc 94 then some (.aload_n 0, 95, 0, 0) else none)))) else (bif Nat.ble pc 108 then (bif Nat.ble pc 98 then (bif Nat.ble pc 96 then (bif Nat.beq pc 95 then some (.iload_n 1, 96, 0, 0) else bif Nat.beq pc 96 then some (.aload_n 0, 97, 0, 0) else none) else (bif Nat.beq pc 97 then some (.aload_n 0, 98, 0, 0) else bif Nat.beq pc 98 then some (.getfield 150, 101, 10, 5) else none)) else (bif Nat.ble pc 102 then (bif Nat.beq pc 101 then some (.iload_n 3, 102, 0, 0) else bif Nat.beq pc 102 then some (.invokevirtual 141, 105, 0, 0) else none) else (bif Nat.beq pc 105 then some (.invokevirtual 329, 108, 0, 0) else bif Nat.beq pc 108 then some (.iinc 3 1, 111, 0, 0) else none))) else (bif Nat.ble pc 116 then (bif Nat.ble pc 114 then (bif Nat.beq pc 111 then some (.goto (-37), 114, 74, 0) else bif Nat.beq pc 114 then some (.aload_n 0, 115, 0, 0) else none) else (bif Nat.beq pc 115 then some (.dup, 116, 0, 0) else bif Nat.beq pc 116 then some (.getfield 150, 119, 10, 5) else none)) else (bif Nat.ble pc 120 then (bif Nat.beq pc 119 then some (.iconst 1, 120, 0, 0) else bif Nat.beq pc 120 then some (.iadd, 121, 0, 0) else none) else (bif Nat.beq pc 121 then some (.putfield 150, 124, 10, 5) else bif Nat.beq pc 124 then some (.goto (-109), 127, 15, 0) else bif Nat.beq pc 127 then some (.return_, 128, 0, 0) else none))))))
set_option maxRecDepth 100000 in
set_option maxHeartbeats 4000000 in
theorem ok_M_readLetters : am_CD m_M_readLetters cd_M_readLetters := am_CD_of 128 fl_M_ok cn_M_ok kl_M_ok pl_M_ok (by intro pc h; unfold cd_M_readLetters; rw [Nat.ble_eq_true_of_le h]; rfl) (by decide +kernel)
def cd_M_isLetters (pc : Nat) : Option am_I := bif Nat.ble 53 pc then none else (bif Nat.ble pc 24 then (bif Nat.ble pc 8 then (bif Nat.ble pc 2 then (bif Nat.beq pc 0 then some (.iconst 0, 1, 0, 0) else bif Nat.beq pc 1 then some (.istore_n 1, 2, 0, 0) else bif Nat.beq pc 2 then some (.iload_n 1, 3, 0, 0) else none) else (bif Nat.ble pc 4 then (bif Nat.beq pc 3 then some (.aload_n 0, 4, 0, 0) else bif Nat.beq pc 4 then some (.getfield 16, 7, 10, 3) else none) else (bif Nat.beq pc 7 then some (.aload_n 0, 8, 0, 0) else bif Nat.beq pc 8 then some (.getfield 150, 11, 10, 5) else none))) else (bif Nat.ble pc 16 then (bif Nat.ble pc 12 then (bif Nat.beq pc 11 then some (.iaload, 12, 0, 0) else bif Nat.beq pc 12 then some (.if_icmp .ge 39, 15, 51, 0) else none) else (bif Nat.beq pc 15 then some (.aload_n 0, 16, 0, 0) else bif Nat.beq pc 16 then some (.aload_n 0, 17, 0, 0) else none)) else (bif Nat.ble pc 20 then (bif Nat.beq pc 17 then some (.getfield 150, 20, 10, 5) else bif Nat.beq pc 20 then some (.iload_n 1, 21, 0, 0) else none) else (bif Nat.beq pc 21 then some (.invokevirtual 141, 24, 0, 0) else bif Nat.beq pc 24 then some (.istore_n 2, 25, 0, 0) else none)))) else (bif Nat.ble pc 37 then (bif Nat.ble pc 28 then (bif Nat.beq pc 25 then some (.iload_n 2, 26, 0, 0) else bif Nat.beq pc 26 then some (.bipush 63, 28, 0, 0) else bif Nat.beq pc 28 then some (.if_icmp .eq 17, 31, 45, 0) else none) else (bif Nat.ble pc 32 then (bif Nat.beq pc 31 then some (.iload_n 2, 32, 0, 0) else bif Nat.beq pc 32 then some (.bipush 65, 34, 0, 0) else none) else (bif Nat.beq pc 34 then some (.if_icmp .lt 9, 37, 43, 0) else bif Nat.beq pc 37 then some (.iload_n 2, 38, 0, 0) else none))) else (bif Nat.ble pc 44 then (bif Nat.ble pc 40 then (bif Nat.beq pc 38 then some (.bipush 90, 40, 0, 0) else bif Nat.beq pc 40 then some (.if_icmp .le 5, 43, 45, 0) else none) else (bif Nat.beq pc 43 then some (.iconst 0, 44, 0, 0) else bif Nat.beq pc 44 then some (.ireturn, 45, 0, 0) else none)) else (bif Nat.ble pc 48 then (bif Nat.beq pc 45 then some (.iinc 1 1, 48, 0, 0) else bif Nat.beq pc 48 then some (.goto (-46), 51, 2, 0) else none) else (bif Nat.beq pc 51 then some (.iconst 1, 52, 0, 0) else bif Nat.beq pc 52 then some (.ireturn, 53, 0, 0) else none)))))
set_option maxRecDepth 100000 in
set_option maxHeartbeats 4000000 in
theorem ok_M_isLetters : am_CD m_M_isLetters cd_M_isLetters := am_CD_of 53 fl_M_ok cn_M_ok kl_M_ok pl_M_ok (by intro pc h; unfold cd_M_isLetters; rw [Nat.ble_eq_true_of_le h]; rfl) (by decide +kernel)
def cd_M_readLetter (pc : Nat) : Option am_I := bif Nat.ble 206 pc then none else (bif Nat.ble pc 108 then (bif Nat.ble pc 52 then (bif Nat.ble pc 24 then (bif Nat.ble pc 10 then (bif Nat.ble pc 3 then (bif Nat.beq pc 0 then some (.iload_n 2, 1, 0, 0) else bif Nat.beq pc 1 then some (.bipush 63, 3, 0, 0) else bif Nat.beq pc 3 then some (.if_icmp .ne 33, 6, 36, 0) else none) else (bif Nat.beq pc 6 then some (.aload_n 0, 7, 0, 0) else bif Nat.beq pc 7 then some (.getfield 320, 10, 10, 55) else bif Nat.beq pc 10 then some (.ifCond .eq 13, 13, 23, 0) else none)) else (bif Nat.ble pc 16 then (bif Nat.beq pc 13 then some (.aload_n 0, 14, 0, 0) else bif Nat.beq pc 14 then some (.bipush (-8), 16, 0, 0) else bif Nat.beq pc 16 then some (.aload_n 0, 17, 0, 0) else none) else (bif Nat.ble pc 20 then (bif Nat.beq pc 17 then some (.getfield 150, 20, 10, 5) else bif Nat.beq pc 20 then some (.invokevirtual 157, 23, 0, 0) else none) else (bif Nat.beq pc 23 then some (.aload_n 0, 24, 0, 0) else bif Nat.beq pc 24 then some (.iconst 1, 25, 0, 0) else none)))) else (bif Nat.ble pc 37 then (bif Nat.ble pc 29 then (bif Nat.beq pc 25 then some (.putfield 262, 28, 10, 51) else bif Nat.beq pc 28 then some (.aload_n 0, 29, 0, 0) else bif Nat.beq pc 29 then some (.iconst 0, 30, 0, 0) else none) else (bif Nat.ble pc 33 then (bif Nat.beq pc 30 then some (.putfield 323, 33, 10, 56) else bif Nat.beq pc 33 then some (.goto 172, 36, 205, 0) else none) else (bif Nat.beq pc 36 then some (.iload_n 2, 37, 0, 0) else bif Nat.beq pc 37 then some (.bipush 90, 39, 0, 0) else none))) else (bif Nat.ble pc 43 then (bif Nat.beq pc 39 then some (.if_icmp .ne 57, 42, 96, 0) else bif Nat.beq pc 42 then some (.aload_n 0, 43, 0, 0) else bif Nat.beq pc 43 then some (.getfield 323, 46, 10, 56) else none) else (bif Nat.ble pc 49 then (bif Nat.beq pc 46 then some (.ifCond .ne 16, 49, 62, 0) else bif Nat.beq pc 49 then some (.aload_n 0, 50, 0, 0) else none) else (bif Nat.beq pc 50 then some (.bipush (-8), 52, 0, 0) else bif Nat.beq pc 52 then some (.aload_n 0, 53, 0, 0) else none))))) else (bif Nat.ble pc 81 then (bif Nat.ble pc 66 then (bif Nat.ble pc 59 then (bif Nat.beq pc 53 then some (.getfield 150, 56, 10, 5) else bif Nat.beq pc 56 then some (.invokevirtual 157, 59, 0, 0) else bif Nat.beq pc 59 then some (.goto 29, 62, 88, 0) else none) else (bif Nat.beq pc 62 then some (.aload_n 0, 63, 0, 0) else bif Nat.beq pc 63 then some (.getfield 259, 66, 10, 48) else bif Nat.beq pc 66 then some (.bipush 16, 68, 0, 0) else none)) else (bif Nat.ble pc 72 then (bif Nat.beq pc 68 then some (.if_icmp .ne 16, 71, 84, 0) else bif Nat.beq pc 71 then some (.aload_n 0, 72, 0, 0) else bif Nat.beq pc 72 then some (.bipush (-7), 74, 0, 0) else none) else (bif Nat.ble pc 75 then (bif Nat.beq pc 74 then some (.aload_n 0, 75, 0, 0) else bif Nat.beq pc 75 then some (.getfield 150, 78, 10, 5) else none) else (bif Nat.beq pc 78 then some (.invokevirtual 157, 81, 0, 0) else bif Nat.beq pc 81 then some (.goto 7, 84, 88, 0) else none)))) else (bif Nat.ble pc 96 then (bif Nat.ble pc 88 then (bif Nat.beq pc 84 then some (.aload_n 0, 85, 0, 0) else bif Nat.beq pc 85 then some (.invokevirtual 332, 88, 0, 0) else bif Nat.beq pc 88 then some (.aload_n 0, 89, 0, 0) else none) else (bif Nat.ble pc 90 then (bif Nat.beq pc 89 then some (.iconst 0, 90, 0, 0) else bif Nat.beq pc 90 then some (.putfield 323, 93, 10, 56) else none) else (bif Nat.beq pc 93 then some (.goto 112, 96, 205, 0) else bif Nat.beq pc 96 then some (.iload_n 2, 97, 0, 0) else none))) else (bif Nat.ble pc 102 then (bif Nat.beq pc 97 then some (.bipush 85, 99, 0, 0) else bif Nat.beq pc 99 then some (.if_icmp .lt 7, 102, 106, 0) else bif Nat.beq pc 102 then some (.iconst 1, 103, 0, 0) else none) else (bif Nat.ble pc 106 then (bif Nat.beq pc 103 then some (.goto 4, 106, 107, 0) else bif Nat.beq pc 106 then some (.iconst 0, 107, 0, 0) else none) else (bif Nat.beq pc 107 then some (.istore_n 3, 108, 0, 0) else bif Nat.beq pc 108 then some (.aload_n 0, 109, 0, 0) else none)))))) else (bif Nat.ble pc 148 then (bif Nat.ble pc 126 then (bif Nat.ble pc 118 then (bif Nat.ble pc 113 then (bif Nat.beq pc 109 then some (.iload_n 3, 110, 0, 0) else bif Nat.beq pc 110 then some (.ifCond .eq 19, 113, 129, 0) else bif Nat.beq pc 113 then some (.iconst 5, 114, 0, 0) else none) else (bif Nat.beq pc 114 then some (.aload_n 0, 115, 0, 0) else bif Nat.beq pc 115 then some (.getfield 317, 118, 10, 54) else bif Nat.beq pc 118 then some (.imul, 119, 0, 0) else none)) else (bif Nat.ble pc 121 then (bif Nat.beq pc 119 then some (.iload_n 2, 120, 0, 0) else bif Nat.beq pc 120 then some (.iadd, 121, 0, 0) else bif Nat.beq pc 121 then some (.bipush 85, 123, 0, 0) else none) else (bif Nat.ble pc 124 then (bif Nat.beq pc 123 then some (.isub, 124, 0, 0) else bif Nat.beq pc 124 then some (.iconst 1, 125, 0, 0) else none) else (bif Nat.beq pc 125 then some (.iadd, 126, 0, 0) else bif Nat.beq pc 126 then some (.goto 17, 129, 143, 0) else none)))) else (bif Nat.ble pc 138 then (bif Nat.ble pc 132 then (bif Nat.beq pc 129 then some (.bipush 20, 131, 0, 0) else bif Nat.beq pc 131 then some (.aload_n 0, 132, 0, 0) else bif Nat.beq pc 132 then some (.getfield 317, 135, 10, 54) else none) else (bif Nat.ble pc 136 then (bif Nat.beq pc 135 then some (.imul, 136, 0, 0) else bif Nat.beq pc 136 then some (.iload_n 2, 137, 0, 0) else none) else (bif Nat.beq pc 137 then some (.iadd, 138, 0, 0) else bif Nat.beq pc 138 then some (.bipush 65, 140, 0, 0) else none))) else (bif Nat.ble pc 142 then (bif Nat.beq pc 140 then some (.isub, 141, 0, 0) else bif Nat.beq pc 141 then some (.iconst 1, 142, 0, 0) else bif Nat.beq pc 142 then some (.iadd, 143, 0, 0) else none) else (bif Nat.ble pc 146 then (bif Nat.beq pc 143 then some (.putfield 317, 146, 10, 54) else bif Nat.beq pc 146 then some (.aload_n 0, 147, 0, 0) else none) else (bif Nat.beq pc 147 then some (.iload_n 3, 148, 0, 0) else bif Nat.beq pc 148 then some (.putfield 320, 151, 10, 55) else none))))) else (bif Nat.ble pc 177 then (bif Nat.ble pc 161 then (bif Nat.ble pc 153 then (bif Nat.beq pc 151 then some (.aload_n 0, 152, 0, 0) else bif Nat.beq pc 152 then some (.iload_n 3, 153, 0, 0) else bif Nat.beq pc 153 then some (.ifCond .ne 7, 156, 160, 0) else none) else (bif Nat.ble pc 157 then (bif Nat.beq pc 156 then some (.iconst 1, 157, 0, 0) else bif Nat.beq pc 157 then some (.goto 4, 160, 161, 0) else none) else (bif Nat.beq pc 160 then some (.iconst 0, 161, 0, 0) else bif Nat.beq pc 161 then some (.putfield 323, 164, 10, 56) else none))) else (bif Nat.ble pc 168 then (bif Nat.beq pc 164 then some (.aload_n 0, 165, 0, 0) else bif Nat.beq pc 165 then some (.getfield 317, 168, 10, 54) else bif Nat.beq pc 168 then some (.sipush 9999, 171, 0, 0) else none) else (bif Nat.ble pc 174 then (bif Nat.beq pc 171 then some (.if_icmp .le 16, 174, 187, 0) else bif Nat.beq pc 174 then some (.aload_n 0, 175, 0, 0) else none) else (bif Nat.beq pc 175 then some (.bipush (-7), 177, 0, 0) else bif Nat.beq pc 177 then some (.aload_n 0, 178, 0, 0) else none)))) else (bif Nat.ble pc 192 then (bif Nat.ble pc 184 then (bif Nat.beq pc 178 then some (.getfield 150, 181, 10, 5) else bif Nat.beq pc 181 then some (.invokevirtual 157, 184, 0, 0) else bif Nat.beq pc 184 then some (.goto 21, 187, 205, 0) else none) else (bif Nat.ble pc 188 then (bif Nat.beq pc 187 then some (.iload_n 3, 188, 0, 0) else bif Nat.beq pc 188 then some (.ifCond .ne 17, 191, 205, 0) else none) else (bif Nat.beq pc 191 then some (.aload_n 0, 192, 0, 0) else bif Nat.beq pc 192 then some (.iload_n 1, 193, 0, 0) else none))) else (bif Nat.ble pc 197 then (bif Nat.beq pc 193 then some (.aload_n 0, 194, 0, 0) else bif Nat.beq pc 194 then some (.getfield 317, 197, 10, 54) else bif Nat.beq pc 197 then some (.invokevirtual 335, 200, 0, 0) else none) else (bif Nat.ble pc 201 then (bif Nat.beq pc 200 then some (.aload_n 0, 201, 0, 0) else bif Nat.beq pc 201 then some (.iconst 0, 202, 0, 0) else none) else (bif Nat.beq pc 202 then some (.putfield 317, 205, 10, 54) else bif Nat.beq pc 205 then some (.return_, 206, 0, 0) else none)))))))
set_option maxRecDepth 100000 in
set_option maxHeartbeats 4000000 in
theorem ok_M_readLetter : am_CD m_M_readLetter cd_M_readLetter := am_CD_of 206 fl_M_ok cn_M_ok kl_M_ok pl_M_ok (by intro pc h; unfold cd_M_readLetter; rw [Nat.ble_eq_true_of_le h]; rfl) (by decide +kernel)
end
section
def cd_M_tag (pc : Nat) : Option am_I := bif Nat.ble 102 pc then none else (bif Nat.ble pc 49 then (bif Nat.ble pc 24 then (bif Nat.ble pc 10 then (bif Nat.ble pc 2 then (bif Nat.beq pc 0 then some (.iconst 0, 1, 0, 0) else bif Nat.beq pc 1 then some (.istore_n 1, 2, 0, 0) else bif Nat.beq pc 2 then some (.aload_n 0, 3, 0, 0) else none) else (bif Nat.ble pc 6 then (bif Nat.beq pc 3 then some (.getfield 262, 6, 10, 51) else bif Nat.beq pc 6 then some (.ifCond .ne 54, 9, 60, 0) else none) else (bif Nat.beq pc 9 then some (.iload_n 1, 10, 0, 0) else bif Nat.beq pc 10 then some (.aload_n 0, 11, 0, 0) else none))) else (bif Nat.ble pc 18 then (bif Nat.ble pc 14 then (bif Nat.beq pc 11 then some (.getfield 115, 14, 10, 44) else bif Nat.beq pc 14 then some (.aload_n 0, 15, 0, 0) else none) else (bif Nat.beq pc 15 then some (.getfield 256, 18, 10, 45) else bif Nat.beq pc 18 then some (.iconst 1, 19, 0, 0) else none)) else (bif Nat.ble pc 20 then (bif Nat.beq pc 19 then some (.isub, 20, 0, 0) else bif Nat.beq pc 20 then some (.iaload, 21, 0, 0) else none) else (bif Nat.beq pc 21 then some (.if_icmp .ge 39, 24, 60, 0) else bif Nat.beq pc 24 then some (.aload_n 0, 25, 0, 0) else none)))) else (bif Nat.ble pc 36 then (bif Nat.ble pc 30 then (bif Nat.beq pc 25 then some (.getfield 118, 28, 10, 46) else bif Nat.beq pc 28 then some (.bipush 24, 30, 0, 0) else bif Nat.beq pc 30 then some (.aload_n 0, 31, 0, 0) else none) else (bif Nat.ble pc 34 then (bif Nat.beq pc 31 then some (.getfield 259, 34, 10, 48) else bif Nat.beq pc 34 then some (.imul, 35, 0, 0) else none) else (bif Nat.beq pc 35 then some (.iload_n 1, 36, 0, 0) else bif Nat.beq pc 36 then some (.iadd, 37, 0, 0) else none))) else (bif Nat.ble pc 43 then (bif Nat.ble pc 38 then (bif Nat.beq pc 37 then some (.aload_n 0, 38, 0, 0) else bif Nat.beq pc 38 then some (.getfield 112, 41, 10, 43) else none) else (bif Nat.beq pc 41 then some (.bipush 24, 43, 0, 0) else bif Nat.beq pc 43 then some (.aload_n 0, 44, 0, 0) else none)) else (bif Nat.ble pc 47 then (bif Nat.beq pc 44 then some (.getfield 256, 47, 10, 45) else bif Nat.beq pc 47 then some (.iconst 1, 48, 0, 0) else none) else (bif Nat.beq pc 48 then some (.isub, 49, 0, 0) else bif Nat.beq pc 49 then some (.imul, 50, 0, 0) else none))))) else (bif Nat.ble pc 76 then (bif Nat.ble pc 60 then (bif Nat.ble pc 52 then (bif Nat.beq pc 50 then some (.iload_n 1, 51, 0, 0) else bif Nat.beq pc 51 then some (.iadd, 52, 0, 0) else bif Nat.beq pc 52 then some (.iaload, 53, 0, 0) else none) else (bif Nat.ble pc 54 then (bif Nat.beq pc 53 then some (.iastore, 54, 0, 0) else bif Nat.beq pc 54 then some (.iinc 1 1, 57, 0, 0) else none) else (bif Nat.beq pc 57 then some (.goto (-55), 60, 2, 0) else bif Nat.beq pc 60 then some (.aload_n 0, 61, 0, 0) else none))) else (bif Nat.ble pc 68 then (bif Nat.ble pc 64 then (bif Nat.beq pc 61 then some (.getfield 121, 64, 10, 47) else bif Nat.beq pc 64 then some (.aload_n 0, 65, 0, 0) else none) else (bif Nat.beq pc 65 then some (.getfield 259, 68, 10, 48) else bif Nat.beq pc 68 then some (.aload_n 0, 69, 0, 0) else none)) else (bif Nat.ble pc 72 then (bif Nat.beq pc 69 then some (.getfield 262, 72, 10, 51) else bif Nat.beq pc 72 then some (.ifCond .eq 7, 75, 79, 0) else none) else (bif Nat.beq pc 75 then some (.iconst 0, 76, 0, 0) else bif Nat.beq pc 76 then some (.goto 14, 79, 90, 0) else none)))) else (bif Nat.ble pc 89 then (bif Nat.ble pc 83 then (bif Nat.beq pc 79 then some (.aload_n 0, 80, 0, 0) else bif Nat.beq pc 80 then some (.getfield 115, 83, 10, 44) else bif Nat.beq pc 83 then some (.aload_n 0, 84, 0, 0) else none) else (bif Nat.ble pc 87 then (bif Nat.beq pc 84 then some (.getfield 256, 87, 10, 45) else bif Nat.beq pc 87 then some (.iconst 1, 88, 0, 0) else none) else (bif Nat.beq pc 88 then some (.isub, 89, 0, 0) else bif Nat.beq pc 89 then some (.iaload, 90, 0, 0) else none))) else (bif Nat.ble pc 93 then (bif Nat.ble pc 91 then (bif Nat.beq pc 90 then some (.iastore, 91, 0, 0) else bif Nat.beq pc 91 then some (.aload_n 0, 92, 0, 0) else none) else (bif Nat.beq pc 92 then some (.dup, 93, 0, 0) else bif Nat.beq pc 93 then some (.getfield 259, 96, 10, 48) else none)) else (bif Nat.ble pc 97 then (bif Nat.beq pc 96 then some (.iconst 1, 97, 0, 0) else bif Nat.beq pc 97 then some (.iadd, 98, 0, 0) else none) else (bif Nat.beq pc 98 then some (.putfield 259, 101, 10, 48) else bif Nat.beq pc 101 then some (.return_, 102, 0, 0) else none))))))
set_option maxRecDepth 100000 in
set_option maxHeartbeats 4000000 in
theorem ok_M_tag : am_CD m_M_tag cd_M_tag := am_CD_of 102 fl_M_ok cn_M_ok kl_M_ok pl_M_ok (by intro pc h; unfold cd_M_tag; rw [Nat.ble_eq_true_of_le h]; rfl) (by decide +kernel)
def cd_M_stepWith (pc : Nat) : Option am_I := bif Nat.ble 134 pc then none else (bif Nat.ble pc 61 then (bif Nat.ble pc 28 then (bif Nat.ble pc 13 then (bif Nat.ble pc 6 then (bif Nat.ble pc 1 then (bif Nat.beq pc 0 then some (.iload_n 2, 1, 0, 0) else bif Nat.beq pc 1 then some (.aload_n 0, 2, 0, 0) else none) else (bif Nat.beq pc 2 then some (.getfield 76, 5, 10, 30) else bif Nat.beq pc 5 then some (.iload_n 1, 6, 0, 0) else bif Nat.beq pc 6 then some (.iaload, 7, 0, 0) else none)) else (bif Nat.ble pc 10 then (bif Nat.beq pc 7 then some (.if_icmp .gt 24, 10, 31, 0) else bif Nat.beq pc 10 then some (.aload_n 0, 11, 0, 0) else none) else (bif Nat.beq pc 11 then some (.iload_n 1, 12, 0, 0) else bif Nat.beq pc 12 then some (.aload_n 0, 13, 0, 0) else bif Nat.beq pc 13 then some (.getfield 73, 16, 10, 29) else none))) else (bif Nat.ble pc 21 then (bif Nat.ble pc 18 then (bif Nat.beq pc 16 then some (.bipush 40, 18, 0, 0) else bif Nat.beq pc 18 then some (.iload_n 1, 19, 0, 0) else none) else (bif Nat.beq pc 19 then some (.imul, 20, 0, 0) else bif Nat.beq pc 20 then some (.iload_n 2, 21, 0, 0) else bif Nat.beq pc 21 then some (.iadd, 22, 0, 0) else none)) else (bif Nat.ble pc 23 then (bif Nat.beq pc 22 then some (.iconst 1, 23, 0, 0) else bif Nat.beq pc 23 then some (.isub, 24, 0, 0) else none) else (bif Nat.beq pc 24 then some (.iaload, 25, 0, 0) else bif Nat.beq pc 25 then some (.invokevirtual 308, 28, 0, 0) else bif Nat.beq pc 28 then some (.goto 105, 31, 133, 0) else none)))) else (bif Nat.ble pc 46 then (bif Nat.ble pc 37 then (bif Nat.ble pc 32 then (bif Nat.beq pc 31 then some (.iload_n 2, 32, 0, 0) else bif Nat.beq pc 32 then some (.aload_n 0, 33, 0, 0) else none) else (bif Nat.beq pc 33 then some (.getfield 76, 36, 10, 30) else bif Nat.beq pc 36 then some (.iload_n 1, 37, 0, 0) else bif Nat.beq pc 37 then some (.iaload, 38, 0, 0) else none)) else (bif Nat.ble pc 39 then (bif Nat.beq pc 38 then some (.aload_n 0, 39, 0, 0) else bif Nat.beq pc 39 then some (.getfield 311, 42, 10, 53) else none) else (bif Nat.beq pc 42 then some (.iadd, 43, 0, 0) else bif Nat.beq pc 43 then some (.if_icmp .gt 26, 46, 69, 0) else bif Nat.beq pc 46 then some (.aload_n 0, 47, 0, 0) else none))) else (bif Nat.ble pc 53 then (bif Nat.ble pc 48 then (bif Nat.beq pc 47 then some (.iload_n 1, 48, 0, 0) else bif Nat.beq pc 48 then some (.aload_n 0, 49, 0, 0) else none) else (bif Nat.beq pc 49 then some (.getfield 130, 52, 10, 52) else bif Nat.beq pc 52 then some (.iload_n 2, 53, 0, 0) else bif Nat.beq pc 53 then some (.aload_n 0, 54, 0, 0) else none)) else (bif Nat.ble pc 58 then (bif Nat.beq pc 54 then some (.getfield 76, 57, 10, 30) else bif Nat.beq pc 57 then some (.iload_n 1, 58, 0, 0) else bif Nat.beq pc 58 then some (.iaload, 59, 0, 0) else none) else (bif Nat.beq pc 59 then some (.isub, 60, 0, 0) else bif Nat.beq pc 60 then some (.iconst 1, 61, 0, 0) else bif Nat.beq pc 61 then some (.isub, 62, 0, 0) else none))))) else (bif Nat.ble pc 97 then (bif Nat.ble pc 77 then (bif Nat.ble pc 70 then (bif Nat.ble pc 63 then (bif Nat.beq pc 62 then some (.iaload, 63, 0, 0) else bif Nat.beq pc 63 then some (.invokevirtual 308, 66, 0, 0) else none) else (bif Nat.beq pc 66 then some (.goto 67, 69, 133, 0) else bif Nat.beq pc 69 then some (.iload_n 2, 70, 0, 0) else bif Nat.beq pc 70 then some (.aload_n 0, 71, 0, 0) else none)) else (bif Nat.ble pc 74 then (bif Nat.beq pc 71 then some (.getfield 76, 74, 10, 30) else bif Nat.beq pc 74 then some (.iload_n 1, 75, 0, 0) else none) else (bif Nat.beq pc 75 then some (.iaload, 76, 0, 0) else bif Nat.beq pc 76 then some (.aload_n 0, 77, 0, 0) else bif Nat.beq pc 77 then some (.getfield 311, 80, 10, 53) else none))) else (bif Nat.ble pc 86 then (bif Nat.ble pc 81 then (bif Nat.beq pc 80 then some (.iadd, 81, 0, 0) else bif Nat.beq pc 81 then some (.aload_n 0, 82, 0, 0) else none) else (bif Nat.beq pc 82 then some (.getfield 259, 85, 10, 48) else bif Nat.beq pc 85 then some (.iadd, 86, 0, 0) else bif Nat.beq pc 86 then some (.if_icmp .gt 37, 89, 123, 0) else none)) else (bif Nat.ble pc 90 then (bif Nat.beq pc 89 then some (.aload_n 0, 90, 0, 0) else bif Nat.beq pc 90 then some (.getfield 262, 93, 10, 51) else none) else (bif Nat.beq pc 93 then some (.ifCond .ne 40, 96, 133, 0) else bif Nat.beq pc 96 then some (.aload_n 0, 97, 0, 0) else bif Nat.beq pc 97 then some (.iload_n 2, 98, 0, 0) else none)))) else (bif Nat.ble pc 111 then (bif Nat.ble pc 104 then (bif Nat.ble pc 99 then (bif Nat.beq pc 98 then some (.aload_n 0, 99, 0, 0) else bif Nat.beq pc 99 then some (.getfield 76, 102, 10, 30) else none) else (bif Nat.beq pc 102 then some (.iload_n 1, 103, 0, 0) else bif Nat.beq pc 103 then some (.iaload, 104, 0, 0) else bif Nat.beq pc 104 then some (.isub, 105, 0, 0) else none)) else (bif Nat.ble pc 106 then (bif Nat.beq pc 105 then some (.aload_n 0, 106, 0, 0) else bif Nat.beq pc 106 then some (.getfield 311, 109, 10, 53) else none) else (bif Nat.beq pc 109 then some (.isub, 110, 0, 0) else bif Nat.beq pc 110 then some (.iconst 1, 111, 0, 0) else bif Nat.beq pc 111 then some (.isub, 112, 0, 0) else none))) else (bif Nat.ble pc 120 then (bif Nat.ble pc 115 then (bif Nat.beq pc 112 then some (.invokevirtual 338, 115, 0, 0) else bif Nat.beq pc 115 then some (.aload_n 0, 116, 0, 0) else none) else (bif Nat.beq pc 116 then some (.iload_n 1, 117, 0, 0) else bif Nat.beq pc 117 then some (.invokevirtual 287, 120, 0, 0) else bif Nat.beq pc 120 then some (.goto 13, 123, 133, 0) else none)) else (bif Nat.ble pc 126 then (bif Nat.beq pc 123 then some (.aload_n 0, 124, 0, 0) else bif Nat.beq pc 124 then some (.bipush (-8), 126, 0, 0) else bif Nat.beq pc 126 then some (.aload_n 0, 127, 0, 0) else none) else (bif Nat.beq pc 127 then some (.getfield 150, 130, 10, 5) else bif Nat.beq pc 130 then some (.invokevirtual 157, 133, 0, 0) else bif Nat.beq pc 133 then some (.return_, 134, 0, 0) else none))))))
set_option maxRecDepth 100000 in
set_option maxHeartbeats 4000000 in
theorem ok_M_stepWith : am_CD m_M_stepWith cd_M_stepWith := am_CD_of 134 fl_M_ok cn_M_ok kl_M_ok pl_M_ok (by intro pc h; unfold cd_M_stepWith; rw [Nat.ble_eq_true_of_le h]; rfl) (by decide +kernel)
def cd_M_step (pc : Nat) : Option am_I := bif Nat.ble 75 pc then none else (bif Nat.ble pc 40 then (bif Nat.ble pc 18 then (bif Nat.ble pc 8 then (bif Nat.ble pc 1 then (bif Nat.beq pc 0 then some (.aload_n 0, 1, 0, 0) else bif Nat.beq pc 1 then some (.getfield 262, 4, 10, 51) else none) else (bif Nat.beq pc 4 then some (.ifCond .eq 4, 7, 8, 0) else bif Nat.beq pc 7 then some (.return_, 8, 0, 0) else bif Nat.beq pc 8 then some (.aload_n 0, 9, 0, 0) else none)) else (bif Nat.ble pc 13 then (bif Nat.beq pc 9 then some (.getfield 58, 12, 10, 22) else bif Nat.beq pc 12 then some (.iload_n 2, 13, 0, 0) else bif Nat.beq pc 13 then some (.iaload, 14, 0, 0) else none) else (bif Nat.beq pc 14 then some (.ifCond .ge 11, 17, 25, 0) else bif Nat.beq pc 17 then some (.aload_n 0, 18, 0, 0) else bif Nat.beq pc 18 then some (.iload_n 2, 19, 0, 0) else none))) else (bif Nat.ble pc 30 then (bif Nat.ble pc 25 then (bif Nat.beq pc 19 then some (.invokevirtual 281, 22, 0, 0) else bif Nat.beq pc 22 then some (.goto 47, 25, 69, 0) else bif Nat.beq pc 25 then some (.aload_n 0, 26, 0, 0) else none) else (bif Nat.beq pc 26 then some (.aload_n 0, 27, 0, 0) else bif Nat.beq pc 27 then some (.getfield 58, 30, 10, 22) else bif Nat.beq pc 30 then some (.iload_n 2, 31, 0, 0) else none)) else (bif Nat.ble pc 35 then (bif Nat.beq pc 31 then some (.iaload, 32, 0, 0) else bif Nat.beq pc 32 then some (.invokevirtual 284, 35, 0, 0) else bif Nat.beq pc 35 then some (.istore_n 3, 36, 0, 0) else none) else (bif Nat.beq pc 36 then some (.iload_n 3, 37, 0, 0) else bif Nat.beq pc 37 then some (.ifCond .eq 12, 40, 49, 0) else bif Nat.beq pc 40 then some (.aload_n 0, 41, 0, 0) else none)))) else (bif Nat.ble pc 58 then (bif Nat.ble pc 49 then (bif Nat.ble pc 42 then (bif Nat.beq pc 41 then some (.iload_n 3, 42, 0, 0) else bif Nat.beq pc 42 then some (.aload_n 0, 43, 0, 0) else none) else (bif Nat.beq pc 43 then some (.getfield 150, 46, 10, 5) else bif Nat.beq pc 46 then some (.invokevirtual 157, 49, 0, 0) else bif Nat.beq pc 49 then some (.aload_n 0, 50, 0, 0) else none)) else (bif Nat.ble pc 55 then (bif Nat.beq pc 50 then some (.getfield 94, 53, 10, 36) else bif Nat.beq pc 53 then some (.bipush 40, 55, 0, 0) else bif Nat.beq pc 55 then some (.iload_n 1, 56, 0, 0) else none) else (bif Nat.beq pc 56 then some (.imul, 57, 0, 0) else bif Nat.beq pc 57 then some (.aload_n 0, 58, 0, 0) else bif Nat.beq pc 58 then some (.getfield 58, 61, 10, 22) else none))) else (bif Nat.ble pc 66 then (bif Nat.ble pc 63 then (bif Nat.beq pc 61 then some (.iload_n 2, 62, 0, 0) else bif Nat.beq pc 62 then some (.iaload, 63, 0, 0) else bif Nat.beq pc 63 then some (.iadd, 64, 0, 0) else none) else (bif Nat.beq pc 64 then some (.dup2, 65, 0, 0) else bif Nat.beq pc 65 then some (.iaload, 66, 0, 0) else bif Nat.beq pc 66 then some (.iconst 1, 67, 0, 0) else none)) else (bif Nat.ble pc 69 then (bif Nat.beq pc 67 then some (.iadd, 68, 0, 0) else bif Nat.beq pc 68 then some (.iastore, 69, 0, 0) else bif Nat.beq pc 69 then some (.aload_n 0, 70, 0, 0) else none) else (bif Nat.beq pc 70 then some (.iload_n 1, 71, 0, 0) else bif Nat.beq pc 71 then some (.invokevirtual 287, 74, 0, 0) else bif Nat.beq pc 74 then some (.return_, 75, 0, 0) else none)))))
set_option maxRecDepth 100000 in
set_option maxHeartbeats 4000000 in
theorem ok_M_step : am_CD m_M_step cd_M_step := am_CD_of 75 fl_M_ok cn_M_ok kl_M_ok pl_M_ok (by intro pc h; unfold cd_M_step; rw [Nat.ble_eq_true_of_le h]; rfl) (by decide +kernel)
def cd_M_pushHypothesis (pc : Nat) : Option am_I := bif Nat.ble 76 pc then none else (bif Nat.ble pc 38 then (bif Nat.ble pc 16 then (bif Nat.ble pc 8 then (bif Nat.ble pc 1 then (bif Nat.beq pc 0 then some (.aload_n 0, 1, 0, 0) else bif Nat.beq pc 1 then some (.invokevirtual 266, 4, 0, 0) else none) else (bif Nat.beq pc 4 then some (.ifCond .eq 71, 7, 75, 0) else bif Nat.beq pc 7 then some (.iconst 0, 8, 0, 0) else bif Nat.beq pc 8 then some (.istore_n 2, 9, 0, 0) else none)) else (bif Nat.ble pc 11 then (bif Nat.beq pc 9 then some (.iload_n 2, 10, 0, 0) else bif Nat.beq pc 10 then some (.aload_n 0, 11, 0, 0) else bif Nat.beq pc 11 then some (.getfield 49, 14, 10, 19) else none) else (bif Nat.beq pc 14 then some (.iload_n 1, 15, 0, 0) else bif Nat.beq pc 15 then some (.iaload, 16, 0, 0) else bif Nat.beq pc 16 then some (.if_icmp .ge 34, 19, 50, 0) else none))) else (bif Nat.ble pc 29 then (bif Nat.ble pc 23 then (bif Nat.beq pc 19 then some (.aload_n 0, 20, 0, 0) else bif Nat.beq pc 20 then some (.getfield 112, 23, 10, 43) else bif Nat.beq pc 23 then some (.bipush 24, 25, 0, 0) else none) else (bif Nat.beq pc 25 then some (.aload_n 0, 26, 0, 0) else bif Nat.beq pc 26 then some (.getfield 256, 29, 10, 45) else bif Nat.beq pc 29 then some (.imul, 30, 0, 0) else none)) else (bif Nat.ble pc 32 then (bif Nat.beq pc 30 then some (.iload_n 2, 31, 0, 0) else bif Nat.beq pc 31 then some (.iadd, 32, 0, 0) else bif Nat.beq pc 32 then some (.aload_n 0, 33, 0, 0) else none) else (bif Nat.beq pc 33 then some (.getfield 46, 36, 10, 18) else bif Nat.beq pc 36 then some (.bipush 24, 38, 0, 0) else bif Nat.beq pc 38 then some (.iload_n 1, 39, 0, 0) else none)))) else (bif Nat.ble pc 55 then (bif Nat.ble pc 43 then (bif Nat.ble pc 40 then (bif Nat.beq pc 39 then some (.imul, 40, 0, 0) else bif Nat.beq pc 40 then some (.iload_n 2, 41, 0, 0) else none) else (bif Nat.beq pc 41 then some (.iadd, 42, 0, 0) else bif Nat.beq pc 42 then some (.iaload, 43, 0, 0) else bif Nat.beq pc 43 then some (.iastore, 44, 0, 0) else none)) else (bif Nat.ble pc 50 then (bif Nat.beq pc 44 then some (.iinc 2 1, 47, 0, 0) else bif Nat.beq pc 47 then some (.goto (-38), 50, 9, 0) else bif Nat.beq pc 50 then some (.aload_n 0, 51, 0, 0) else none) else (bif Nat.beq pc 51 then some (.getfield 115, 54, 10, 44) else bif Nat.beq pc 54 then some (.aload_n 0, 55, 0, 0) else bif Nat.beq pc 55 then some (.getfield 256, 58, 10, 45) else none))) else (bif Nat.ble pc 65 then (bif Nat.ble pc 62 then (bif Nat.beq pc 58 then some (.aload_n 0, 59, 0, 0) else bif Nat.beq pc 59 then some (.getfield 49, 62, 10, 19) else bif Nat.beq pc 62 then some (.iload_n 1, 63, 0, 0) else none) else (bif Nat.beq pc 63 then some (.iaload, 64, 0, 0) else bif Nat.beq pc 64 then some (.iastore, 65, 0, 0) else bif Nat.beq pc 65 then some (.aload_n 0, 66, 0, 0) else none)) else (bif Nat.ble pc 70 then (bif Nat.beq pc 66 then some (.dup, 67, 0, 0) else bif Nat.beq pc 67 then some (.getfield 256, 70, 10, 45) else bif Nat.beq pc 70 then some (.iconst 1, 71, 0, 0) else none) else (bif Nat.beq pc 71 then some (.iadd, 72, 0, 0) else bif Nat.beq pc 72 then some (.putfield 256, 75, 10, 45) else bif Nat.beq pc 75 then some (.return_, 76, 0, 0) else none)))))
set_option maxRecDepth 100000 in
set_option maxHeartbeats 4000000 in
theorem ok_M_pushHypothesis : am_CD m_M_pushHypothesis cd_M_pushHypothesis := am_CD_of 76 fl_M_ok cn_M_ok kl_M_ok pl_M_ok (by intro pc h; unfold cd_M_pushHypothesis; rw [Nat.ble_eq_true_of_le h]; rfl) (by decide +kernel)
def cd_M_hasRoom (pc : Nat) : Option am_I := bif Nat.ble 34 pc then none else (bif Nat.ble pc 13 then (bif Nat.ble pc 6 then (bif Nat.ble pc 1 then (bif Nat.beq pc 0 then some (.aload_n 0, 1, 0, 0) else bif Nat.beq pc 1 then some (.getfield 256, 4, 10, 45) else none) else (bif Nat.beq pc 4 then some (.bipush 16, 6, 0, 0) else bif Nat.beq pc 6 then some (.if_icmp .ne 13, 9, 19, 0) else none)) else (bif Nat.ble pc 10 then (bif Nat.beq pc 9 then some (.aload_n 0, 10, 0, 0) else bif Nat.beq pc 10 then some (.bipush (-7), 12, 0, 0) else none) else (bif Nat.beq pc 12 then some (.aload_n 0, 13, 0, 0) else bif Nat.beq pc 13 then some (.getfield 150, 16, 10, 5) else none))) else (bif Nat.ble pc 23 then (bif Nat.ble pc 19 then (bif Nat.beq pc 16 then some (.invokevirtual 157, 19, 0, 0) else bif Nat.beq pc 19 then some (.aload_n 0, 20, 0, 0) else none) else (bif Nat.beq pc 20 then some (.getfield 256, 23, 10, 45) else bif Nat.beq pc 23 then some (.bipush 16, 25, 0, 0) else none)) else (bif Nat.ble pc 28 then (bif Nat.beq pc 25 then some (.if_icmp .ge 7, 28, 32, 0) else bif Nat.beq pc 28 then some (.iconst 1, 29, 0, 0) else none) else (bif Nat.beq pc 29 then some (.goto 4, 32, 33, 0) else bif Nat.beq pc 32 then some (.iconst 0, 33, 0, 0) else bif Nat.beq pc 33 then some (.ireturn, 34, 0, 0) else none))))
set_option maxRecDepth 100000 in
set_option maxHeartbeats 4000000 in
theorem ok_M_hasRoom : am_CD m_M_hasRoom cd_M_hasRoom := am_CD_of 34 fl_M_ok cn_M_ok kl_M_ok pl_M_ok (by intro pc h; unfold cd_M_hasRoom; rw [Nat.ble_eq_true_of_le h]; rfl) (by decide +kernel)
def cd_M_apply (pc : Nat) : Option am_I := bif Nat.ble 283 pc then none else (bif Nat.ble pc 135 then (bif Nat.ble pc 66 then (bif Nat.ble pc 30 then (bif Nat.ble pc 15 then (bif Nat.ble pc 6 then (bif Nat.ble pc 1 then (bif Nat.beq pc 0 then some (.aload_n 0, 1, 0, 0) else bif Nat.beq pc 1 then some (.getfield 76, 4, 10, 30) else none) else (bif Nat.beq pc 4 then some (.iload_n 1, 5, 0, 0) else bif Nat.beq pc 5 then some (.iaload, 6, 0, 0) else bif Nat.beq pc 6 then some (.istore_n 2, 7, 0, 0) else none)) else (bif Nat.ble pc 8 then (bif Nat.beq pc 7 then some (.aload_n 0, 8, 0, 0) else bif Nat.beq pc 8 then some (.getfield 256, 11, 10, 45) else none) else (bif Nat.beq pc 11 then some (.iload_n 2, 12, 0, 0) else bif Nat.beq pc 12 then some (.if_icmp .ge 6, 15, 18, 0) else bif Nat.beq pc 15 then some (.bipush (-9), 17, 0, 0) else none))) else (bif Nat.ble pc 23 then (bif Nat.ble pc 18 then (bif Nat.beq pc 17 then some (.ireturn, 18, 0, 0) else bif Nat.beq pc 18 then some (.aload_n 0, 19, 0, 0) else none) else (bif Nat.beq pc 19 then some (.getfield 256, 22, 10, 45) else bif Nat.beq pc 22 then some (.iload_n 2, 23, 0, 0) else bif Nat.beq pc 23 then some (.isub, 24, 0, 0) else none)) else (bif Nat.ble pc 25 then (bif Nat.beq pc 24 then some (.istore_n 3, 25, 0, 0) else bif Nat.beq pc 25 then some (.iconst 0, 26, 0, 0) else none) else (bif Nat.beq pc 26 then some (.istore 4, 28, 0, 0) else bif Nat.beq pc 28 then some (.iload 4, 30, 0, 0) else bif Nat.beq pc 30 then some (.iload_n 2, 31, 0, 0) else none)))) else (bif Nat.ble pc 46 then (bif Nat.ble pc 40 then (bif Nat.ble pc 34 then (bif Nat.beq pc 31 then some (.if_icmp .ge 110, 34, 141, 0) else bif Nat.beq pc 34 then some (.aload_n 0, 35, 0, 0) else none) else (bif Nat.beq pc 35 then some (.getfield 73, 38, 10, 29) else bif Nat.beq pc 38 then some (.bipush 40, 40, 0, 0) else bif Nat.beq pc 40 then some (.iload_n 1, 41, 0, 0) else none)) else (bif Nat.ble pc 42 then (bif Nat.beq pc 41 then some (.imul, 42, 0, 0) else bif Nat.beq pc 42 then some (.iload 4, 44, 0, 0) else none) else (bif Nat.beq pc 44 then some (.iadd, 45, 0, 0) else bif Nat.beq pc 45 then some (.iaload, 46, 0, 0) else bif Nat.beq pc 46 then some (.istore 5, 48, 0, 0) else none))) else (bif Nat.ble pc 55 then (bif Nat.ble pc 49 then (bif Nat.beq pc 48 then some (.aload_n 0, 49, 0, 0) else bif Nat.beq pc 49 then some (.getfield 40, 52, 10, 16) else none) else (bif Nat.beq pc 52 then some (.iload 5, 54, 0, 0) else bif Nat.beq pc 54 then some (.iaload, 55, 0, 0) else bif Nat.beq pc 55 then some (.iconst 4, 56, 0, 0) else none)) else (bif Nat.ble pc 60 then (bif Nat.beq pc 56 then some (.if_icmp .ne 55, 59, 111, 0) else bif Nat.beq pc 59 then some (.aload_n 0, 60, 0, 0) else bif Nat.beq pc 60 then some (.getfield 112, 63, 10, 43) else none) else (bif Nat.beq pc 63 then some (.bipush 24, 65, 0, 0) else bif Nat.beq pc 65 then some (.iload_n 3, 66, 0, 0) else bif Nat.beq pc 66 then some (.iload 4, 68, 0, 0) else none))))) else (bif Nat.ble pc 100 then (bif Nat.ble pc 81 then (bif Nat.ble pc 72 then (bif Nat.ble pc 69 then (bif Nat.beq pc 68 then some (.iadd, 69, 0, 0) else bif Nat.beq pc 69 then some (.imul, 70, 0, 0) else none) else (bif Nat.beq pc 70 then some (.iaload, 71, 0, 0) else bif Nat.beq pc 71 then some (.aload_n 0, 72, 0, 0) else bif Nat.beq pc 72 then some (.getfield 46, 75, 10, 18) else none)) else (bif Nat.ble pc 77 then (bif Nat.beq pc 75 then some (.bipush 24, 77, 0, 0) else bif Nat.beq pc 77 then some (.iload 5, 79, 0, 0) else none) else (bif Nat.beq pc 79 then some (.imul, 80, 0, 0) else bif Nat.beq pc 80 then some (.iaload, 81, 0, 0) else bif Nat.beq pc 81 then some (.if_icmp .eq 6, 84, 87, 0) else none))) else (bif Nat.ble pc 91 then (bif Nat.ble pc 86 then (bif Nat.beq pc 84 then some (.bipush (-10), 86, 0, 0) else bif Nat.beq pc 86 then some (.ireturn, 87, 0, 0) else none) else (bif Nat.beq pc 87 then some (.aload_n 0, 88, 0, 0) else bif Nat.beq pc 88 then some (.getfield 124, 91, 10, 49) else bif Nat.beq pc 91 then some (.aload_n 0, 92, 0, 0) else none)) else (bif Nat.ble pc 95 then (bif Nat.beq pc 92 then some (.getfield 46, 95, 10, 18) else bif Nat.beq pc 95 then some (.bipush 24, 97, 0, 0) else none) else (bif Nat.beq pc 97 then some (.iload 5, 99, 0, 0) else bif Nat.beq pc 99 then some (.imul, 100, 0, 0) else bif Nat.beq pc 100 then some (.iconst 1, 101, 0, 0) else none)))) else (bif Nat.ble pc 114 then (bif Nat.ble pc 106 then (bif Nat.ble pc 102 then (bif Nat.beq pc 101 then some (.iadd, 102, 0, 0) else bif Nat.beq pc 102 then some (.iaload, 103, 0, 0) else none) else (bif Nat.beq pc 103 then some (.iload_n 3, 104, 0, 0) else bif Nat.beq pc 104 then some (.iload 4, 106, 0, 0) else bif Nat.beq pc 106 then some (.iadd, 107, 0, 0) else none)) else (bif Nat.ble pc 108 then (bif Nat.beq pc 107 then some (.iastore, 108, 0, 0) else bif Nat.beq pc 108 then some (.goto 27, 111, 135, 0) else none) else (bif Nat.beq pc 111 then some (.aload_n 0, 112, 0, 0) else bif Nat.beq pc 112 then some (.iload 5, 114, 0, 0) else bif Nat.beq pc 114 then some (.invokevirtual 272, 117, 0, 0) else none))) else (bif Nat.ble pc 123 then (bif Nat.ble pc 119 then (bif Nat.beq pc 117 then some (.istore 6, 119, 0, 0) else bif Nat.beq pc 119 then some (.aload_n 0, 120, 0, 0) else none) else (bif Nat.beq pc 120 then some (.iload_n 3, 121, 0, 0) else bif Nat.beq pc 121 then some (.iload 4, 123, 0, 0) else bif Nat.beq pc 123 then some (.iadd, 124, 0, 0) else none)) else (bif Nat.ble pc 129 then (bif Nat.beq pc 124 then some (.iload 6, 126, 0, 0) else bif Nat.beq pc 126 then some (.invokevirtual 275, 129, 0, 0) else bif Nat.beq pc 129 then some (.ifCond .ne 6, 132, 135, 0) else none) else (bif Nat.beq pc 132 then some (.bipush (-10), 134, 0, 0) else bif Nat.beq pc 134 then some (.ireturn, 135, 0, 0) else bif Nat.beq pc 135 then some (.iinc 4 1, 138, 0, 0) else none)))))) else (bif Nat.ble pc 209 then (bif Nat.ble pc 169 then (bif Nat.ble pc 153 then (bif Nat.ble pc 145 then (bif Nat.ble pc 141 then (bif Nat.beq pc 138 then some (.goto (-110), 141, 28, 0) else bif Nat.beq pc 141 then some (.bipush 40, 143, 0, 0) else none) else (bif Nat.beq pc 143 then some (.iload_n 1, 144, 0, 0) else bif Nat.beq pc 144 then some (.imul, 145, 0, 0) else bif Nat.beq pc 145 then some (.istore 4, 147, 0, 0) else none)) else (bif Nat.ble pc 149 then (bif Nat.beq pc 147 then some (.iload 4, 149, 0, 0) else bif Nat.beq pc 149 then some (.bipush 40, 151, 0, 0) else none) else (bif Nat.beq pc 151 then some (.iload_n 1, 152, 0, 0) else bif Nat.beq pc 152 then some (.imul, 153, 0, 0) else bif Nat.beq pc 153 then some (.aload_n 0, 154, 0, 0) else none))) else (bif Nat.ble pc 160 then (bif Nat.ble pc 157 then (bif Nat.beq pc 154 then some (.getfield 85, 157, 10, 33) else bif Nat.beq pc 157 then some (.iload_n 1, 158, 0, 0) else none) else (bif Nat.beq pc 158 then some (.iaload, 159, 0, 0) else bif Nat.beq pc 159 then some (.iadd, 160, 0, 0) else bif Nat.beq pc 160 then some (.if_icmp .ge 43, 163, 203, 0) else none)) else (bif Nat.ble pc 164 then (bif Nat.beq pc 163 then some (.aload_n 0, 164, 0, 0) else bif Nat.beq pc 164 then some (.aload_n 0, 165, 0, 0) else none) else (bif Nat.beq pc 165 then some (.getfield 124, 168, 10, 49) else bif Nat.beq pc 168 then some (.aload_n 0, 169, 0, 0) else bif Nat.beq pc 169 then some (.getfield 79, 172, 10, 31) else none)))) else (bif Nat.ble pc 187 then (bif Nat.ble pc 177 then (bif Nat.ble pc 174 then (bif Nat.beq pc 172 then some (.iload 4, 174, 0, 0) else bif Nat.beq pc 174 then some (.iaload, 175, 0, 0) else none) else (bif Nat.beq pc 175 then some (.iaload, 176, 0, 0) else bif Nat.beq pc 176 then some (.aload_n 0, 177, 0, 0) else bif Nat.beq pc 177 then some (.getfield 124, 180, 10, 49) else none)) else (bif Nat.ble pc 181 then (bif Nat.beq pc 180 then some (.aload_n 0, 181, 0, 0) else bif Nat.beq pc 181 then some (.getfield 82, 184, 10, 32) else none) else (bif Nat.beq pc 184 then some (.iload 4, 186, 0, 0) else bif Nat.beq pc 186 then some (.iaload, 187, 0, 0) else bif Nat.beq pc 187 then some (.iaload, 188, 0, 0) else none))) else (bif Nat.ble pc 197 then (bif Nat.ble pc 191 then (bif Nat.beq pc 188 then some (.invokevirtual 278, 191, 0, 0) else bif Nat.beq pc 191 then some (.ifCond .ne 6, 194, 197, 0) else none) else (bif Nat.beq pc 194 then some (.bipush (-11), 196, 0, 0) else bif Nat.beq pc 196 then some (.ireturn, 197, 0, 0) else bif Nat.beq pc 197 then some (.iinc 4 1, 200, 0, 0) else none)) else (bif Nat.ble pc 204 then (bif Nat.beq pc 200 then some (.goto (-53), 203, 147, 0) else bif Nat.beq pc 203 then some (.aload_n 0, 204, 0, 0) else bif Nat.beq pc 204 then some (.aload_n 0, 205, 0, 0) else none) else (bif Nat.beq pc 205 then some (.getfield 70, 208, 10, 28) else bif Nat.beq pc 208 then some (.iload_n 1, 209, 0, 0) else bif Nat.beq pc 209 then some (.iaload, 210, 0, 0) else none))))) else (bif Nat.ble pc 248 then (bif Nat.ble pc 230 then (bif Nat.ble pc 219 then (bif Nat.ble pc 213 then (bif Nat.beq pc 210 then some (.invokevirtual 272, 213, 0, 0) else bif Nat.beq pc 213 then some (.istore 4, 215, 0, 0) else none) else (bif Nat.beq pc 215 then some (.iload 4, 217, 0, 0) else bif Nat.beq pc 217 then some (.bipush 24, 219, 0, 0) else bif Nat.beq pc 219 then some (.if_icmp .gt 9, 222, 228, 0) else none)) else (bif Nat.ble pc 223 then (bif Nat.beq pc 222 then some (.iload_n 3, 223, 0, 0) else bif Nat.beq pc 223 then some (.bipush 16, 225, 0, 0) else none) else (bif Nat.beq pc 225 then some (.if_icmp .ne 6, 228, 231, 0) else bif Nat.beq pc 228 then some (.bipush (-7), 230, 0, 0) else bif Nat.beq pc 230 then some (.ireturn, 231, 0, 0) else none))) else (bif Nat.ble pc 238 then (bif Nat.ble pc 232 then (bif Nat.beq pc 231 then some (.iconst 0, 232, 0, 0) else bif Nat.beq pc 232 then some (.istore 5, 234, 0, 0) else none) else (bif Nat.beq pc 234 then some (.iload 5, 236, 0, 0) else bif Nat.beq pc 236 then some (.iload 4, 238, 0, 0) else bif Nat.beq pc 238 then some (.if_icmp .ge 28, 241, 266, 0) else none)) else (bif Nat.ble pc 242 then (bif Nat.beq pc 241 then some (.aload_n 0, 242, 0, 0) else bif Nat.beq pc 242 then some (.getfield 112, 245, 10, 43) else none) else (bif Nat.beq pc 245 then some (.bipush 24, 247, 0, 0) else bif Nat.beq pc 247 then some (.iload_n 3, 248, 0, 0) else bif Nat.beq pc 248 then some (.imul, 249, 0, 0) else none)))) else (bif Nat.ble pc 266 then (bif Nat.ble pc 256 then (bif Nat.ble pc 251 then (bif Nat.beq pc 249 then some (.iload 5, 251, 0, 0) else bif Nat.beq pc 251 then some (.iadd, 252, 0, 0) else none) else (bif Nat.beq pc 252 then some (.aload_n 0, 253, 0, 0) else bif Nat.beq pc 253 then some (.getfield 127, 256, 10, 50) else bif Nat.beq pc 256 then some (.iload 5, 258, 0, 0) else none)) else (bif Nat.ble pc 259 then (bif Nat.beq pc 258 then some (.iaload, 259, 0, 0) else bif Nat.beq pc 259 then some (.iastore, 260, 0, 0) else none) else (bif Nat.beq pc 260 then some (.iinc 5 1, 263, 0, 0) else bif Nat.beq pc 263 then some (.goto (-29), 266, 234, 0) else bif Nat.beq pc 266 then some (.aload_n 0, 267, 0, 0) else none))) else (bif Nat.ble pc 274 then (bif Nat.ble pc 270 then (bif Nat.beq pc 267 then some (.getfield 115, 270, 10, 44) else bif Nat.beq pc 270 then some (.iload_n 3, 271, 0, 0) else none) else (bif Nat.beq pc 271 then some (.iload 4, 273, 0, 0) else bif Nat.beq pc 273 then some (.iastore, 274, 0, 0) else bif Nat.beq pc 274 then some (.aload_n 0, 275, 0, 0) else none)) else (bif Nat.ble pc 277 then (bif Nat.beq pc 275 then some (.iload_n 3, 276, 0, 0) else bif Nat.beq pc 276 then some (.iconst 1, 277, 0, 0) else bif Nat.beq pc 277 then some (.iadd, 278, 0, 0) else none) else (bif Nat.beq pc 278 then some (.putfield 256, 281, 10, 45) else bif Nat.beq pc 281 then some (.iconst 0, 282, 0, 0) else bif Nat.beq pc 282 then some (.ireturn, 283, 0, 0) else none)))))))
set_option maxRecDepth 100000 in
set_option maxHeartbeats 4000000 in
theorem ok_M_apply : am_CD m_M_apply cd_M_apply := am_CD_of 283 fl_M_ok cn_M_ok kl_M_ok pl_M_ok (by intro pc h; unfold cd_M_apply; rw [Nat.ble_eq_true_of_le h]; rfl) (by decide +kernel)
def cd_M_replace (pc : Nat) : Option am_I := bif Nat.ble 112 pc then none else (bif Nat.ble pc 48 then (bif Nat.ble pc 22 then (bif Nat.ble pc 9 then (bif Nat.ble pc 3 then (bif Nat.ble pc 1 then (bif Nat.beq pc 0 then some (.iconst 0, 1, 0, 0) else bif Nat.beq pc 1 then some (.istore_n 2, 2, 0, 0) else none) else (bif Nat.beq pc 2 then some (.iconst 0, 3, 0, 0) else bif Nat.beq pc 3 then some (.istore_n 3, 4, 0, 0) else none)) else (bif Nat.ble pc 5 then (bif Nat.beq pc 4 then some (.iload_n 3, 5, 0, 0) else bif Nat.beq pc 5 then some (.aload_n 0, 6, 0, 0) else none) else (bif Nat.beq pc 6 then some (.getfield 49, 9, 10, 19) else bif Nat.beq pc 9 then some (.iload_n 1, 10, 0, 0) else none))) else (bif Nat.ble pc 15 then (bif Nat.ble pc 11 then (bif Nat.beq pc 10 then some (.iaload, 11, 0, 0) else bif Nat.beq pc 11 then some (.if_icmp .ge 99, 14, 110, 0) else none) else (bif Nat.beq pc 14 then some (.aload_n 0, 15, 0, 0) else bif Nat.beq pc 15 then some (.getfield 46, 18, 10, 18) else none)) else (bif Nat.ble pc 20 then (bif Nat.beq pc 18 then some (.bipush 24, 20, 0, 0) else bif Nat.beq pc 20 then some (.iload_n 1, 21, 0, 0) else none) else (bif Nat.beq pc 21 then some (.imul, 22, 0, 0) else bif Nat.beq pc 22 then some (.iload_n 3, 23, 0, 0) else none)))) else (bif Nat.ble pc 34 then (bif Nat.ble pc 27 then (bif Nat.ble pc 24 then (bif Nat.beq pc 23 then some (.iadd, 24, 0, 0) else bif Nat.beq pc 24 then some (.iaload, 25, 0, 0) else none) else (bif Nat.beq pc 25 then some (.istore 4, 27, 0, 0) else bif Nat.beq pc 27 then some (.aload_n 0, 28, 0, 0) else none)) else (bif Nat.ble pc 31 then (bif Nat.beq pc 28 then some (.getfield 27, 31, 10, 10) else bif Nat.beq pc 31 then some (.iload 4, 33, 0, 0) else none) else (bif Nat.beq pc 33 then some (.iaload, 34, 0, 0) else bif Nat.beq pc 34 then some (.iconst 2, 35, 0, 0) else none))) else (bif Nat.ble pc 42 then (bif Nat.ble pc 38 then (bif Nat.beq pc 35 then some (.if_icmp .ne 58, 38, 93, 0) else bif Nat.beq pc 38 then some (.aload_n 0, 39, 0, 0) else none) else (bif Nat.beq pc 39 then some (.getfield 124, 42, 10, 49) else bif Nat.beq pc 42 then some (.iload 4, 44, 0, 0) else none)) else (bif Nat.ble pc 45 then (bif Nat.beq pc 44 then some (.iaload, 45, 0, 0) else bif Nat.beq pc 45 then some (.istore 5, 47, 0, 0) else none) else (bif Nat.beq pc 47 then some (.iconst 1, 48, 0, 0) else bif Nat.beq pc 48 then some (.istore 6, 50, 0, 0) else none))))) else (bif Nat.ble pc 78 then (bif Nat.ble pc 63 then (bif Nat.ble pc 56 then (bif Nat.ble pc 52 then (bif Nat.beq pc 50 then some (.iload 6, 52, 0, 0) else bif Nat.beq pc 52 then some (.aload_n 0, 53, 0, 0) else none) else (bif Nat.beq pc 53 then some (.getfield 115, 56, 10, 44) else bif Nat.beq pc 56 then some (.iload 5, 58, 0, 0) else none)) else (bif Nat.ble pc 59 then (bif Nat.beq pc 58 then some (.iaload, 59, 0, 0) else bif Nat.beq pc 59 then some (.if_icmp .ge 31, 62, 90, 0) else none) else (bif Nat.beq pc 62 then some (.aload_n 0, 63, 0, 0) else bif Nat.beq pc 63 then some (.getfield 127, 66, 10, 50) else none))) else (bif Nat.ble pc 71 then (bif Nat.ble pc 67 then (bif Nat.beq pc 66 then some (.iload_n 2, 67, 0, 0) else bif Nat.beq pc 67 then some (.aload_n 0, 68, 0, 0) else none) else (bif Nat.beq pc 68 then some (.getfield 112, 71, 10, 43) else bif Nat.beq pc 71 then some (.bipush 24, 73, 0, 0) else none)) else (bif Nat.ble pc 75 then (bif Nat.beq pc 73 then some (.iload 5, 75, 0, 0) else bif Nat.beq pc 75 then some (.imul, 76, 0, 0) else none) else (bif Nat.beq pc 76 then some (.iload 6, 78, 0, 0) else bif Nat.beq pc 78 then some (.iadd, 79, 0, 0) else none)))) else (bif Nat.ble pc 94 then (bif Nat.ble pc 84 then (bif Nat.ble pc 80 then (bif Nat.beq pc 79 then some (.iaload, 80, 0, 0) else bif Nat.beq pc 80 then some (.iastore, 81, 0, 0) else none) else (bif Nat.beq pc 81 then some (.iinc 2 1, 84, 0, 0) else bif Nat.beq pc 84 then some (.iinc 6 1, 87, 0, 0) else none)) else (bif Nat.ble pc 90 then (bif Nat.beq pc 87 then some (.goto (-37), 90, 50, 0) else bif Nat.beq pc 90 then some (.goto 14, 93, 104, 0) else none) else (bif Nat.beq pc 93 then some (.aload_n 0, 94, 0, 0) else bif Nat.beq pc 94 then some (.getfield 127, 97, 10, 50) else none))) else (bif Nat.ble pc 101 then (bif Nat.ble pc 98 then (bif Nat.beq pc 97 then some (.iload_n 2, 98, 0, 0) else bif Nat.beq pc 98 then some (.iload 4, 100, 0, 0) else none) else (bif Nat.beq pc 100 then some (.iastore, 101, 0, 0) else bif Nat.beq pc 101 then some (.iinc 2 1, 104, 0, 0) else none)) else (bif Nat.ble pc 107 then (bif Nat.beq pc 104 then some (.iinc 3 1, 107, 0, 0) else bif Nat.beq pc 107 then some (.goto (-103), 110, 4, 0) else none) else (bif Nat.beq pc 110 then some (.iload_n 2, 111, 0, 0) else bif Nat.beq pc 111 then some (.ireturn, 112, 0, 0) else none))))))
set_option maxRecDepth 100000 in
set_option maxHeartbeats 4000000 in
theorem ok_M_replace : am_CD m_M_replace cd_M_replace := am_CD_of 112 fl_M_ok cn_M_ok kl_M_ok pl_M_ok (by intro pc h; unfold cd_M_replace; rw [Nat.ble_eq_true_of_le h]; rfl) (by decide +kernel)
def cd_M_isMade (pc : Nat) : Option am_I := bif Nat.ble 65 pc then none else (bif Nat.ble pc 30 then (bif Nat.ble pc 14 then (bif Nat.ble pc 5 then (bif Nat.ble pc 1 then (bif Nat.beq pc 0 then some (.aload_n 0, 1, 0, 0) else bif Nat.beq pc 1 then some (.getfield 115, 4, 10, 44) else none) else (bif Nat.beq pc 4 then some (.iload_n 1, 5, 0, 0) else bif Nat.beq pc 5 then some (.iaload, 6, 0, 0) else none)) else (bif Nat.ble pc 7 then (bif Nat.beq pc 6 then some (.iload_n 2, 7, 0, 0) else bif Nat.beq pc 7 then some (.if_icmp .ne 7, 10, 14, 0) else none) else (bif Nat.beq pc 10 then some (.iconst 1, 11, 0, 0) else bif Nat.beq pc 11 then some (.goto 4, 14, 15, 0) else bif Nat.beq pc 14 then some (.iconst 0, 15, 0, 0) else none))) else (bif Nat.ble pc 21 then (bif Nat.ble pc 16 then (bif Nat.beq pc 15 then some (.istore_n 3, 16, 0, 0) else bif Nat.beq pc 16 then some (.iconst 0, 17, 0, 0) else none) else (bif Nat.beq pc 17 then some (.istore 4, 19, 0, 0) else bif Nat.beq pc 19 then some (.iload 4, 21, 0, 0) else bif Nat.beq pc 21 then some (.iload_n 2, 22, 0, 0) else none)) else (bif Nat.ble pc 25 then (bif Nat.beq pc 22 then some (.if_icmp .ge 41, 25, 63, 0) else bif Nat.beq pc 25 then some (.iload_n 3, 26, 0, 0) else none) else (bif Nat.beq pc 26 then some (.ifCond .eq 37, 29, 63, 0) else bif Nat.beq pc 29 then some (.aload_n 0, 30, 0, 0) else bif Nat.beq pc 30 then some (.getfield 112, 33, 10, 43) else none)))) else (bif Nat.ble pc 45 then (bif Nat.ble pc 37 then (bif Nat.ble pc 35 then (bif Nat.beq pc 33 then some (.bipush 24, 35, 0, 0) else bif Nat.beq pc 35 then some (.iload_n 1, 36, 0, 0) else none) else (bif Nat.beq pc 36 then some (.imul, 37, 0, 0) else bif Nat.beq pc 37 then some (.iload 4, 39, 0, 0) else none)) else (bif Nat.ble pc 40 then (bif Nat.beq pc 39 then some (.iadd, 40, 0, 0) else bif Nat.beq pc 40 then some (.iaload, 41, 0, 0) else none) else (bif Nat.beq pc 41 then some (.aload_n 0, 42, 0, 0) else bif Nat.beq pc 42 then some (.getfield 127, 45, 10, 50) else bif Nat.beq pc 45 then some (.iload 4, 47, 0, 0) else none))) else (bif Nat.ble pc 55 then (bif Nat.ble pc 48 then (bif Nat.beq pc 47 then some (.iaload, 48, 0, 0) else bif Nat.beq pc 48 then some (.if_icmp .ne 7, 51, 55, 0) else none) else (bif Nat.beq pc 51 then some (.iconst 1, 52, 0, 0) else bif Nat.beq pc 52 then some (.goto 4, 55, 56, 0) else bif Nat.beq pc 55 then some (.iconst 0, 56, 0, 0) else none)) else (bif Nat.ble pc 57 then (bif Nat.beq pc 56 then some (.istore_n 3, 57, 0, 0) else bif Nat.beq pc 57 then some (.iinc 4 1, 60, 0, 0) else none) else (bif Nat.beq pc 60 then some (.goto (-41), 63, 19, 0) else bif Nat.beq pc 63 then some (.iload_n 3, 64, 0, 0) else bif Nat.beq pc 64 then some (.ireturn, 65, 0, 0) else none)))))
set_option maxRecDepth 100000 in
set_option maxHeartbeats 4000000 in
theorem ok_M_isMade : am_CD m_M_isMade cd_M_isMade := am_CD_of 65 fl_M_ok cn_M_ok kl_M_ok pl_M_ok (by intro pc h; unfold cd_M_isMade; rw [Nat.ble_eq_true_of_le h]; rfl) (by decide +kernel)
end
section
def cd_M_allApart (pc : Nat) : Option am_I := bif Nat.ble 109 pc then none else (bif Nat.ble pc 47 then (bif Nat.ble pc 22 then (bif Nat.ble pc 8 then (bif Nat.ble pc 2 then (bif Nat.beq pc 0 then some (.iconst 1, 1, 0, 0) else bif Nat.beq pc 1 then some (.istore_n 3, 2, 0, 0) else bif Nat.beq pc 2 then some (.iload_n 3, 3, 0, 0) else none) else (bif Nat.ble pc 4 then (bif Nat.beq pc 3 then some (.aload_n 0, 4, 0, 0) else bif Nat.beq pc 4 then some (.getfield 115, 7, 10, 44) else none) else (bif Nat.beq pc 7 then some (.iload_n 1, 8, 0, 0) else bif Nat.beq pc 8 then some (.iaload, 9, 0, 0) else none))) else (bif Nat.ble pc 15 then (bif Nat.ble pc 12 then (bif Nat.beq pc 9 then some (.if_icmp .ge 98, 12, 107, 0) else bif Nat.beq pc 12 then some (.iconst 1, 13, 0, 0) else none) else (bif Nat.beq pc 13 then some (.istore 4, 15, 0, 0) else bif Nat.beq pc 15 then some (.iload 4, 17, 0, 0) else none)) else (bif Nat.ble pc 18 then (bif Nat.beq pc 17 then some (.aload_n 0, 18, 0, 0) else bif Nat.beq pc 18 then some (.getfield 115, 21, 10, 44) else none) else (bif Nat.beq pc 21 then some (.iload_n 2, 22, 0, 0) else bif Nat.beq pc 22 then some (.iaload, 23, 0, 0) else none)))) else (bif Nat.ble pc 35 then (bif Nat.ble pc 30 then (bif Nat.ble pc 26 then (bif Nat.beq pc 23 then some (.if_icmp .ge 78, 26, 101, 0) else bif Nat.beq pc 26 then some (.aload_n 0, 27, 0, 0) else none) else (bif Nat.beq pc 27 then some (.getfield 112, 30, 10, 43) else bif Nat.beq pc 30 then some (.bipush 24, 32, 0, 0) else none)) else (bif Nat.ble pc 33 then (bif Nat.beq pc 32 then some (.iload_n 1, 33, 0, 0) else bif Nat.beq pc 33 then some (.imul, 34, 0, 0) else none) else (bif Nat.beq pc 34 then some (.iload_n 3, 35, 0, 0) else bif Nat.beq pc 35 then some (.iadd, 36, 0, 0) else none))) else (bif Nat.ble pc 40 then (bif Nat.ble pc 37 then (bif Nat.beq pc 36 then some (.iaload, 37, 0, 0) else bif Nat.beq pc 37 then some (.istore 5, 39, 0, 0) else none) else (bif Nat.beq pc 39 then some (.aload_n 0, 40, 0, 0) else bif Nat.beq pc 40 then some (.getfield 112, 43, 10, 43) else none)) else (bif Nat.ble pc 45 then (bif Nat.beq pc 43 then some (.bipush 24, 45, 0, 0) else bif Nat.beq pc 45 then some (.iload_n 2, 46, 0, 0) else none) else (bif Nat.beq pc 46 then some (.imul, 47, 0, 0) else bif Nat.beq pc 47 then some (.iload 4, 49, 0, 0) else none))))) else (bif Nat.ble pc 72 then (bif Nat.ble pc 59 then (bif Nat.ble pc 51 then (bif Nat.beq pc 49 then some (.iadd, 50, 0, 0) else bif Nat.beq pc 50 then some (.iaload, 51, 0, 0) else bif Nat.beq pc 51 then some (.istore 6, 53, 0, 0) else none) else (bif Nat.ble pc 54 then (bif Nat.beq pc 53 then some (.aload_n 0, 54, 0, 0) else bif Nat.beq pc 54 then some (.getfield 27, 57, 10, 10) else none) else (bif Nat.beq pc 57 then some (.iload 5, 59, 0, 0) else bif Nat.beq pc 59 then some (.iaload, 60, 0, 0) else none))) else (bif Nat.ble pc 65 then (bif Nat.ble pc 61 then (bif Nat.beq pc 60 then some (.iconst 2, 61, 0, 0) else bif Nat.beq pc 61 then some (.if_icmp .ne 34, 64, 95, 0) else none) else (bif Nat.beq pc 64 then some (.aload_n 0, 65, 0, 0) else bif Nat.beq pc 65 then some (.getfield 27, 68, 10, 10) else none)) else (bif Nat.ble pc 70 then (bif Nat.beq pc 68 then some (.iload 6, 70, 0, 0) else bif Nat.beq pc 70 then some (.iaload, 71, 0, 0) else none) else (bif Nat.beq pc 71 then some (.iconst 2, 72, 0, 0) else bif Nat.beq pc 72 then some (.if_icmp .ne 23, 75, 95, 0) else none)))) else (bif Nat.ble pc 90 then (bif Nat.ble pc 82 then (bif Nat.ble pc 77 then (bif Nat.beq pc 75 then some (.iload 5, 77, 0, 0) else bif Nat.beq pc 77 then some (.iload 6, 79, 0, 0) else none) else (bif Nat.beq pc 79 then some (.if_icmp .eq 14, 82, 93, 0) else bif Nat.beq pc 82 then some (.aload_n 0, 83, 0, 0) else none)) else (bif Nat.ble pc 85 then (bif Nat.beq pc 83 then some (.iload 5, 85, 0, 0) else bif Nat.beq pc 85 then some (.iload 6, 87, 0, 0) else none) else (bif Nat.beq pc 87 then some (.invokevirtual 269, 90, 0, 0) else bif Nat.beq pc 90 then some (.ifCond .ne 5, 93, 95, 0) else none))) else (bif Nat.ble pc 98 then (bif Nat.ble pc 94 then (bif Nat.beq pc 93 then some (.iconst 0, 94, 0, 0) else bif Nat.beq pc 94 then some (.ireturn, 95, 0, 0) else none) else (bif Nat.beq pc 95 then some (.iinc 4 1, 98, 0, 0) else bif Nat.beq pc 98 then some (.goto (-83), 101, 15, 0) else none)) else (bif Nat.ble pc 104 then (bif Nat.beq pc 101 then some (.iinc 3 1, 104, 0, 0) else bif Nat.beq pc 104 then some (.goto (-102), 107, 2, 0) else none) else (bif Nat.beq pc 107 then some (.iconst 1, 108, 0, 0) else bif Nat.beq pc 108 then some (.ireturn, 109, 0, 0) else none))))))
set_option maxRecDepth 100000 in
set_option maxHeartbeats 4000000 in
theorem ok_M_allApart : am_CD m_M_allApart cd_M_allApart := am_CD_of 109 fl_M_ok cn_M_ok kl_M_ok pl_M_ok (by intro pc h; unfold cd_M_allApart; rw [Nat.ble_eq_true_of_le h]; rfl) (by decide +kernel)
def cd_M_areApart (pc : Nat) : Option am_I := bif Nat.ble 60 pc then none else (bif Nat.ble pc 27 then (bif Nat.ble pc 14 then (bif Nat.ble pc 3 then (bif Nat.ble pc 1 then (bif Nat.beq pc 0 then some (.iconst 0, 1, 0, 0) else bif Nat.beq pc 1 then some (.istore_n 3, 2, 0, 0) else none) else (bif Nat.beq pc 2 then some (.iload_n 3, 3, 0, 0) else bif Nat.beq pc 3 then some (.aload_n 0, 4, 0, 0) else none)) else (bif Nat.ble pc 7 then (bif Nat.beq pc 4 then some (.getfield 207, 7, 10, 23) else bif Nat.beq pc 7 then some (.if_icmp .ge 51, 10, 58, 0) else none) else (bif Nat.beq pc 10 then some (.aload_n 0, 11, 0, 0) else bif Nat.beq pc 11 then some (.getfield 61, 14, 10, 24) else bif Nat.beq pc 14 then some (.iload_n 3, 15, 0, 0) else none))) else (bif Nat.ble pc 20 then (bif Nat.ble pc 16 then (bif Nat.beq pc 15 then some (.iaload, 16, 0, 0) else bif Nat.beq pc 16 then some (.iload_n 1, 17, 0, 0) else none) else (bif Nat.beq pc 17 then some (.if_icmp .ne 13, 20, 30, 0) else bif Nat.beq pc 20 then some (.aload_n 0, 21, 0, 0) else none)) else (bif Nat.ble pc 24 then (bif Nat.beq pc 21 then some (.getfield 64, 24, 10, 25) else bif Nat.beq pc 24 then some (.iload_n 3, 25, 0, 0) else none) else (bif Nat.beq pc 25 then some (.iaload, 26, 0, 0) else bif Nat.beq pc 26 then some (.iload_n 2, 27, 0, 0) else bif Nat.beq pc 27 then some (.if_icmp .eq 23, 30, 50, 0) else none)))) else (bif Nat.ble pc 44 then (bif Nat.ble pc 35 then (bif Nat.ble pc 31 then (bif Nat.beq pc 30 then some (.aload_n 0, 31, 0, 0) else bif Nat.beq pc 31 then some (.getfield 61, 34, 10, 24) else none) else (bif Nat.beq pc 34 then some (.iload_n 3, 35, 0, 0) else bif Nat.beq pc 35 then some (.iaload, 36, 0, 0) else none)) else (bif Nat.ble pc 37 then (bif Nat.beq pc 36 then some (.iload_n 2, 37, 0, 0) else bif Nat.beq pc 37 then some (.if_icmp .ne 15, 40, 52, 0) else none) else (bif Nat.beq pc 40 then some (.aload_n 0, 41, 0, 0) else bif Nat.beq pc 41 then some (.getfield 64, 44, 10, 25) else bif Nat.beq pc 44 then some (.iload_n 3, 45, 0, 0) else none))) else (bif Nat.ble pc 50 then (bif Nat.ble pc 46 then (bif Nat.beq pc 45 then some (.iaload, 46, 0, 0) else bif Nat.beq pc 46 then some (.iload_n 1, 47, 0, 0) else none) else (bif Nat.beq pc 47 then some (.if_icmp .ne 5, 50, 52, 0) else bif Nat.beq pc 50 then some (.iconst 1, 51, 0, 0) else none)) else (bif Nat.ble pc 52 then (bif Nat.beq pc 51 then some (.ireturn, 52, 0, 0) else bif Nat.beq pc 52 then some (.iinc 3 1, 55, 0, 0) else none) else (bif Nat.beq pc 55 then some (.goto (-53), 58, 2, 0) else bif Nat.beq pc 58 then some (.iconst 0, 59, 0, 0) else bif Nat.beq pc 59 then some (.ireturn, 60, 0, 0) else none)))))
set_option maxRecDepth 100000 in
set_option maxHeartbeats 4000000 in
theorem ok_M_areApart : am_CD m_M_areApart cd_M_areApart := am_CD_of 60 fl_M_ok cn_M_ok kl_M_ok pl_M_ok (by intro pc h; unfold cd_M_areApart; rw [Nat.ble_eq_true_of_le h]; rfl) (by decide +kernel)
def cd_M_tally (pc : Nat) : Option am_I := bif Nat.ble 43 pc then none else (bif Nat.ble pc 16 then (bif Nat.ble pc 7 then (bif Nat.ble pc 4 then (bif Nat.beq pc 0 then some (.aload_n 0, 1, 0, 0) else bif Nat.beq pc 1 then some (.getfield 88, 4, 10, 34) else bif Nat.beq pc 4 then some (.iload_n 1, 5, 0, 0) else none) else (bif Nat.beq pc 5 then some (.dup2, 6, 0, 0) else bif Nat.beq pc 6 then some (.iaload, 7, 0, 0) else bif Nat.beq pc 7 then some (.iconst 1, 8, 0, 0) else none)) else (bif Nat.ble pc 10 then (bif Nat.beq pc 8 then some (.iadd, 9, 0, 0) else bif Nat.beq pc 9 then some (.iastore, 10, 0, 0) else bif Nat.beq pc 10 then some (.aload_n 0, 11, 0, 0) else none) else (bif Nat.ble pc 14 then (bif Nat.beq pc 11 then some (.getfield 91, 14, 10, 35) else bif Nat.beq pc 14 then some (.iload_n 1, 15, 0, 0) else none) else (bif Nat.beq pc 15 then some (.aload_n 0, 16, 0, 0) else bif Nat.beq pc 16 then some (.getfield 256, 19, 10, 45) else none)))) else (bif Nat.ble pc 29 then (bif Nat.ble pc 23 then (bif Nat.beq pc 19 then some (.aload_n 0, 20, 0, 0) else bif Nat.beq pc 20 then some (.getfield 91, 23, 10, 35) else bif Nat.beq pc 23 then some (.iload_n 1, 24, 0, 0) else none) else (bif Nat.ble pc 25 then (bif Nat.beq pc 24 then some (.iaload, 25, 0, 0) else bif Nat.beq pc 25 then some (.if_icmp .le 10, 28, 35, 0) else none) else (bif Nat.beq pc 28 then some (.aload_n 0, 29, 0, 0) else bif Nat.beq pc 29 then some (.getfield 256, 32, 10, 45) else none))) else (bif Nat.ble pc 36 then (bif Nat.beq pc 32 then some (.goto 9, 35, 41, 0) else bif Nat.beq pc 35 then some (.aload_n 0, 36, 0, 0) else bif Nat.beq pc 36 then some (.getfield 91, 39, 10, 35) else none) else (bif Nat.ble pc 40 then (bif Nat.beq pc 39 then some (.iload_n 1, 40, 0, 0) else bif Nat.beq pc 40 then some (.iaload, 41, 0, 0) else none) else (bif Nat.beq pc 41 then some (.iastore, 42, 0, 0) else bif Nat.beq pc 42 then some (.return_, 43, 0, 0) else none)))))
set_option maxRecDepth 100000 in
set_option maxHeartbeats 4000000 in
theorem ok_M_tally : am_CD m_M_tally cd_M_tally := am_CD_of 43 fl_M_ok cn_M_ok kl_M_ok pl_M_ok (by intro pc h; unfold cd_M_tally; rw [Nat.ble_eq_true_of_le h]; rfl) (by decide +kernel)
def cd_M_pushTagged (pc : Nat) : Option am_I := bif Nat.ble 76 pc then none else (bif Nat.ble pc 38 then (bif Nat.ble pc 16 then (bif Nat.ble pc 8 then (bif Nat.ble pc 1 then (bif Nat.beq pc 0 then some (.aload_n 0, 1, 0, 0) else bif Nat.beq pc 1 then some (.invokevirtual 266, 4, 0, 0) else none) else (bif Nat.beq pc 4 then some (.ifCond .eq 71, 7, 75, 0) else bif Nat.beq pc 7 then some (.iconst 0, 8, 0, 0) else bif Nat.beq pc 8 then some (.istore_n 2, 9, 0, 0) else none)) else (bif Nat.ble pc 11 then (bif Nat.beq pc 9 then some (.iload_n 2, 10, 0, 0) else bif Nat.beq pc 10 then some (.aload_n 0, 11, 0, 0) else bif Nat.beq pc 11 then some (.getfield 121, 14, 10, 47) else none) else (bif Nat.beq pc 14 then some (.iload_n 1, 15, 0, 0) else bif Nat.beq pc 15 then some (.iaload, 16, 0, 0) else bif Nat.beq pc 16 then some (.if_icmp .ge 34, 19, 50, 0) else none))) else (bif Nat.ble pc 29 then (bif Nat.ble pc 23 then (bif Nat.beq pc 19 then some (.aload_n 0, 20, 0, 0) else bif Nat.beq pc 20 then some (.getfield 112, 23, 10, 43) else bif Nat.beq pc 23 then some (.bipush 24, 25, 0, 0) else none) else (bif Nat.beq pc 25 then some (.aload_n 0, 26, 0, 0) else bif Nat.beq pc 26 then some (.getfield 256, 29, 10, 45) else bif Nat.beq pc 29 then some (.imul, 30, 0, 0) else none)) else (bif Nat.ble pc 32 then (bif Nat.beq pc 30 then some (.iload_n 2, 31, 0, 0) else bif Nat.beq pc 31 then some (.iadd, 32, 0, 0) else bif Nat.beq pc 32 then some (.aload_n 0, 33, 0, 0) else none) else (bif Nat.beq pc 33 then some (.getfield 118, 36, 10, 46) else bif Nat.beq pc 36 then some (.bipush 24, 38, 0, 0) else bif Nat.beq pc 38 then some (.iload_n 1, 39, 0, 0) else none)))) else (bif Nat.ble pc 55 then (bif Nat.ble pc 43 then (bif Nat.ble pc 40 then (bif Nat.beq pc 39 then some (.imul, 40, 0, 0) else bif Nat.beq pc 40 then some (.iload_n 2, 41, 0, 0) else none) else (bif Nat.beq pc 41 then some (.iadd, 42, 0, 0) else bif Nat.beq pc 42 then some (.iaload, 43, 0, 0) else bif Nat.beq pc 43 then some (.iastore, 44, 0, 0) else none)) else (bif Nat.ble pc 50 then (bif Nat.beq pc 44 then some (.iinc 2 1, 47, 0, 0) else bif Nat.beq pc 47 then some (.goto (-38), 50, 9, 0) else bif Nat.beq pc 50 then some (.aload_n 0, 51, 0, 0) else none) else (bif Nat.beq pc 51 then some (.getfield 115, 54, 10, 44) else bif Nat.beq pc 54 then some (.aload_n 0, 55, 0, 0) else bif Nat.beq pc 55 then some (.getfield 256, 58, 10, 45) else none))) else (bif Nat.ble pc 65 then (bif Nat.ble pc 62 then (bif Nat.beq pc 58 then some (.aload_n 0, 59, 0, 0) else bif Nat.beq pc 59 then some (.getfield 121, 62, 10, 47) else bif Nat.beq pc 62 then some (.iload_n 1, 63, 0, 0) else none) else (bif Nat.beq pc 63 then some (.iaload, 64, 0, 0) else bif Nat.beq pc 64 then some (.iastore, 65, 0, 0) else bif Nat.beq pc 65 then some (.aload_n 0, 66, 0, 0) else none)) else (bif Nat.ble pc 70 then (bif Nat.beq pc 66 then some (.dup, 67, 0, 0) else bif Nat.beq pc 67 then some (.getfield 256, 70, 10, 45) else bif Nat.beq pc 70 then some (.iconst 1, 71, 0, 0) else none) else (bif Nat.beq pc 71 then some (.iadd, 72, 0, 0) else bif Nat.beq pc 72 then some (.putfield 256, 75, 10, 45) else bif Nat.beq pc 75 then some (.return_, 76, 0, 0) else none)))))
set_option maxRecDepth 100000 in
set_option maxHeartbeats 4000000 in
theorem ok_M_pushTagged : am_CD m_M_pushTagged cd_M_pushTagged := am_CD_of 76 fl_M_ok cn_M_ok kl_M_ok pl_M_ok (by intro pc h; unfold cd_M_pushTagged; rw [Nat.ble_eq_true_of_le h]; rfl) (by decide +kernel)
def cd_M_readSteps (pc : Nat) : Option am_I := bif Nat.ble 82 pc then none else (bif Nat.ble pc 39 then (bif Nat.ble pc 18 then (bif Nat.ble pc 8 then (bif Nat.ble pc 1 then (bif Nat.beq pc 0 then some (.aload_n 0, 1, 0, 0) else bif Nat.beq pc 1 then some (.getfield 147, 4, 10, 6) else none) else (bif Nat.beq pc 4 then some (.ifCond .ne 77, 7, 81, 0) else bif Nat.beq pc 7 then some (.aload_n 0, 8, 0, 0) else bif Nat.beq pc 8 then some (.invokevirtual 169, 11, 0, 0) else none)) else (bif Nat.ble pc 12 then (bif Nat.beq pc 11 then some (.istore_n 2, 12, 0, 0) else bif Nat.beq pc 12 then some (.iload_n 2, 13, 0, 0) else none) else (bif Nat.beq pc 13 then some (.bipush 9, 15, 0, 0) else bif Nat.beq pc 15 then some (.if_icmp .ne 4, 18, 19, 0) else bif Nat.beq pc 18 then some (.return_, 19, 0, 0) else none))) else (bif Nat.ble pc 26 then (bif Nat.ble pc 20 then (bif Nat.beq pc 19 then some (.iload_n 2, 20, 0, 0) else bif Nat.beq pc 20 then some (.ifCond .eq 16, 23, 36, 0) else none) else (bif Nat.beq pc 23 then some (.aload_n 0, 24, 0, 0) else bif Nat.beq pc 24 then some (.bipush (-3), 26, 0, 0) else bif Nat.beq pc 26 then some (.aload_n 0, 27, 0, 0) else none)) else (bif Nat.ble pc 33 then (bif Nat.beq pc 27 then some (.getfield 150, 30, 10, 5) else bif Nat.beq pc 30 then some (.invokevirtual 157, 33, 0, 0) else bif Nat.beq pc 33 then some (.goto 45, 36, 78, 0) else none) else (bif Nat.beq pc 36 then some (.aload_n 0, 37, 0, 0) else bif Nat.beq pc 37 then some (.bipush 63, 39, 0, 0) else bif Nat.beq pc 39 then some (.invokevirtual 290, 42, 0, 0) else none)))) else (bif Nat.ble pc 62 then (bif Nat.ble pc 50 then (bif Nat.ble pc 45 then (bif Nat.beq pc 42 then some (.ifCond .eq 11, 45, 53, 0) else bif Nat.beq pc 45 then some (.aload_n 0, 46, 0, 0) else none) else (bif Nat.beq pc 46 then some (.iconst 1, 47, 0, 0) else bif Nat.beq pc 47 then some (.putfield 262, 50, 10, 51) else bif Nat.beq pc 50 then some (.goto 18, 53, 68, 0) else none)) else (bif Nat.ble pc 57 then (bif Nat.beq pc 53 then some (.aload_n 0, 54, 0, 0) else bif Nat.beq pc 54 then some (.invokevirtual 305, 57, 0, 0) else bif Nat.beq pc 57 then some (.istore_n 3, 58, 0, 0) else none) else (bif Nat.beq pc 58 then some (.iload_n 3, 59, 0, 0) else bif Nat.beq pc 59 then some (.ifCond .lt 9, 62, 68, 0) else bif Nat.beq pc 62 then some (.aload_n 0, 63, 0, 0) else none))) else (bif Nat.ble pc 69 then (bif Nat.ble pc 64 then (bif Nat.beq pc 63 then some (.iload_n 1, 64, 0, 0) else bif Nat.beq pc 64 then some (.iload_n 3, 65, 0, 0) else none) else (bif Nat.beq pc 65 then some (.invokevirtual 308, 68, 0, 0) else bif Nat.beq pc 68 then some (.aload_n 0, 69, 0, 0) else bif Nat.beq pc 69 then some (.dup, 70, 0, 0) else none)) else (bif Nat.ble pc 74 then (bif Nat.beq pc 70 then some (.getfield 150, 73, 10, 5) else bif Nat.beq pc 73 then some (.iconst 1, 74, 0, 0) else bif Nat.beq pc 74 then some (.iadd, 75, 0, 0) else none) else (bif Nat.beq pc 75 then some (.putfield 150, 78, 10, 5) else bif Nat.beq pc 78 then some (.goto (-78), 81, 0, 0) else bif Nat.beq pc 81 then some (.return_, 82, 0, 0) else none)))))
set_option maxRecDepth 100000 in
set_option maxHeartbeats 4000000 in
theorem ok_M_readSteps : am_CD m_M_readSteps cd_M_readSteps := am_CD_of 82 fl_M_ok cn_M_ok kl_M_ok pl_M_ok (by intro pc h; unfold cd_M_readSteps; rw [Nat.ble_eq_true_of_le h]; rfl) (by decide +kernel)
def cd_M_finish (pc : Nat) : Option am_I := bif Nat.ble 111 pc then none else (bif Nat.ble pc 52 then (bif Nat.ble pc 27 then (bif Nat.ble pc 12 then (bif Nat.ble pc 4 then (bif Nat.beq pc 0 then some (.aload_n 0, 1, 0, 0) else bif Nat.beq pc 1 then some (.getfield 262, 4, 10, 51) else bif Nat.beq pc 4 then some (.ifCond .ne 96, 7, 100, 0) else none) else (bif Nat.ble pc 8 then (bif Nat.beq pc 7 then some (.aload_n 0, 8, 0, 0) else bif Nat.beq pc 8 then some (.getfield 256, 11, 10, 45) else none) else (bif Nat.beq pc 11 then some (.iconst 1, 12, 0, 0) else bif Nat.beq pc 12 then some (.if_icmp .eq 14, 15, 26, 0) else none))) else (bif Nat.ble pc 19 then (bif Nat.ble pc 16 then (bif Nat.beq pc 15 then some (.aload_n 0, 16, 0, 0) else bif Nat.beq pc 16 then some (.bipush (-9), 18, 0, 0) else none) else (bif Nat.beq pc 18 then some (.aload_n 0, 19, 0, 0) else bif Nat.beq pc 19 then some (.getfield 150, 22, 10, 5) else none)) else (bif Nat.ble pc 25 then (bif Nat.beq pc 22 then some (.invokevirtual 157, 25, 0, 0) else bif Nat.beq pc 25 then some (.return_, 26, 0, 0) else none) else (bif Nat.beq pc 26 then some (.aload_n 0, 27, 0, 0) else bif Nat.beq pc 27 then some (.getfield 115, 30, 10, 44) else none)))) else (bif Nat.ble pc 40 then (bif Nat.ble pc 32 then (bif Nat.beq pc 30 then some (.iconst 0, 31, 0, 0) else bif Nat.beq pc 31 then some (.iaload, 32, 0, 0) else bif Nat.beq pc 32 then some (.aload_n 0, 33, 0, 0) else none) else (bif Nat.ble pc 36 then (bif Nat.beq pc 33 then some (.getfield 210, 36, 10, 40) else bif Nat.beq pc 36 then some (.if_icmp .ne 7, 39, 43, 0) else none) else (bif Nat.beq pc 39 then some (.iconst 1, 40, 0, 0) else bif Nat.beq pc 40 then some (.goto 4, 43, 44, 0) else none))) else (bif Nat.ble pc 46 then (bif Nat.ble pc 44 then (bif Nat.beq pc 43 then some (.iconst 0, 44, 0, 0) else bif Nat.beq pc 44 then some (.istore_n 1, 45, 0, 0) else none) else (bif Nat.beq pc 45 then some (.iconst 0, 46, 0, 0) else bif Nat.beq pc 46 then some (.istore_n 2, 47, 0, 0) else none)) else (bif Nat.ble pc 48 then (bif Nat.beq pc 47 then some (.iload_n 2, 48, 0, 0) else bif Nat.beq pc 48 then some (.aload_n 0, 49, 0, 0) else none) else (bif Nat.beq pc 49 then some (.getfield 210, 52, 10, 40) else bif Nat.beq pc 52 then some (.if_icmp .ge 34, 55, 86, 0) else none))))) else (bif Nat.ble pc 79 then (bif Nat.ble pc 65 then (bif Nat.ble pc 59 then (bif Nat.beq pc 55 then some (.iload_n 1, 56, 0, 0) else bif Nat.beq pc 56 then some (.ifCond .eq 30, 59, 86, 0) else bif Nat.beq pc 59 then some (.aload_n 0, 60, 0, 0) else none) else (bif Nat.ble pc 63 then (bif Nat.beq pc 60 then some (.getfield 112, 63, 10, 43) else bif Nat.beq pc 63 then some (.iload_n 2, 64, 0, 0) else none) else (bif Nat.beq pc 64 then some (.iaload, 65, 0, 0) else bif Nat.beq pc 65 then some (.aload_n 0, 66, 0, 0) else none))) else (bif Nat.ble pc 71 then (bif Nat.ble pc 69 then (bif Nat.beq pc 66 then some (.getfield 103, 69, 10, 39) else bif Nat.beq pc 69 then some (.iload_n 2, 70, 0, 0) else none) else (bif Nat.beq pc 70 then some (.iaload, 71, 0, 0) else bif Nat.beq pc 71 then some (.if_icmp .ne 7, 74, 78, 0) else none)) else (bif Nat.ble pc 75 then (bif Nat.beq pc 74 then some (.iconst 1, 75, 0, 0) else bif Nat.beq pc 75 then some (.goto 4, 78, 79, 0) else none) else (bif Nat.beq pc 78 then some (.iconst 0, 79, 0, 0) else bif Nat.beq pc 79 then some (.istore_n 1, 80, 0, 0) else none)))) else (bif Nat.ble pc 94 then (bif Nat.ble pc 87 then (bif Nat.ble pc 83 then (bif Nat.beq pc 80 then some (.iinc 2 1, 83, 0, 0) else bif Nat.beq pc 83 then some (.goto (-36), 86, 47, 0) else none) else (bif Nat.beq pc 86 then some (.iload_n 1, 87, 0, 0) else bif Nat.beq pc 87 then some (.ifCond .ne 13, 90, 100, 0) else none)) else (bif Nat.ble pc 91 then (bif Nat.beq pc 90 then some (.aload_n 0, 91, 0, 0) else bif Nat.beq pc 91 then some (.bipush (-10), 93, 0, 0) else none) else (bif Nat.beq pc 93 then some (.aload_n 0, 94, 0, 0) else bif Nat.beq pc 94 then some (.getfield 150, 97, 10, 5) else none))) else (bif Nat.ble pc 102 then (bif Nat.ble pc 100 then (bif Nat.beq pc 97 then some (.invokevirtual 157, 100, 0, 0) else bif Nat.beq pc 100 then some (.aload_n 0, 101, 0, 0) else none) else (bif Nat.beq pc 101 then some (.dup, 102, 0, 0) else bif Nat.beq pc 102 then some (.getfield 150, 105, 10, 5) else none)) else (bif Nat.ble pc 106 then (bif Nat.beq pc 105 then some (.iconst 1, 106, 0, 0) else bif Nat.beq pc 106 then some (.iadd, 107, 0, 0) else none) else (bif Nat.beq pc 107 then some (.putfield 150, 110, 10, 5) else bif Nat.beq pc 110 then some (.return_, 111, 0, 0) else none))))))
set_option maxRecDepth 100000 in
set_option maxHeartbeats 4000000 in
theorem ok_M_finish : am_CD m_M_finish cd_M_finish := am_CD_of 111 fl_M_ok cn_M_ok kl_M_ok pl_M_ok (by intro pc h; unfold cd_M_finish; rw [Nat.ble_eq_true_of_le h]; rfl) (by decide +kernel)
def cd_M_settle (pc : Nat) : Option am_I := bif Nat.ble 85 pc then none else (bif Nat.ble pc 40 then (bif Nat.ble pc 19 then (bif Nat.ble pc 9 then (bif Nat.ble pc 4 then (bif Nat.beq pc 0 then some (.aload_n 0, 1, 0, 0) else bif Nat.beq pc 1 then some (.getfield 97, 4, 10, 37) else bif Nat.beq pc 4 then some (.iload_n 1, 5, 0, 0) else none) else (bif Nat.beq pc 5 then some (.aload_n 0, 6, 0, 0) else bif Nat.beq pc 6 then some (.getfield 262, 9, 10, 51) else bif Nat.beq pc 9 then some (.bastore, 10, 0, 0) else none)) else (bif Nat.ble pc 14 then (bif Nat.beq pc 10 then some (.aload_n 0, 11, 0, 0) else bif Nat.beq pc 11 then some (.getfield 100, 14, 10, 38) else bif Nat.beq pc 14 then some (.iload_n 1, 15, 0, 0) else none) else (bif Nat.beq pc 15 then some (.aload_n 0, 16, 0, 0) else bif Nat.beq pc 16 then some (.getfield 262, 19, 10, 51) else bif Nat.beq pc 19 then some (.ifCond .ne 7, 22, 26, 0) else none))) else (bif Nat.ble pc 29 then (bif Nat.ble pc 26 then (bif Nat.beq pc 22 then some (.iconst 1, 23, 0, 0) else bif Nat.beq pc 23 then some (.goto 4, 26, 27, 0) else bif Nat.beq pc 26 then some (.iconst 0, 27, 0, 0) else none) else (bif Nat.beq pc 27 then some (.bastore, 28, 0, 0) else bif Nat.beq pc 28 then some (.iconst 0, 29, 0, 0) else bif Nat.beq pc 29 then some (.istore_n 2, 30, 0, 0) else none)) else (bif Nat.ble pc 32 then (bif Nat.beq pc 30 then some (.iload_n 2, 31, 0, 0) else bif Nat.beq pc 31 then some (.iload_n 1, 32, 0, 0) else bif Nat.beq pc 32 then some (.if_icmp .ge 52, 35, 84, 0) else none) else (bif Nat.ble pc 36 then (bif Nat.beq pc 35 then some (.aload_n 0, 36, 0, 0) else bif Nat.beq pc 36 then some (.getfield 100, 39, 10, 38) else none) else (bif Nat.beq pc 39 then some (.iload_n 1, 40, 0, 0) else bif Nat.beq pc 40 then some (.aload_n 0, 41, 0, 0) else none))))) else (bif Nat.ble pc 59 then (bif Nat.ble pc 50 then (bif Nat.ble pc 45 then (bif Nat.beq pc 41 then some (.getfield 100, 44, 10, 38) else bif Nat.beq pc 44 then some (.iload_n 1, 45, 0, 0) else bif Nat.beq pc 45 then some (.baload, 46, 0, 0) else none) else (bif Nat.beq pc 46 then some (.ifCond .eq 30, 49, 76, 0) else bif Nat.beq pc 49 then some (.aload_n 0, 50, 0, 0) else bif Nat.beq pc 50 then some (.getfield 94, 53, 10, 36) else none)) else (bif Nat.ble pc 56 then (bif Nat.beq pc 53 then some (.bipush 40, 55, 0, 0) else bif Nat.beq pc 55 then some (.iload_n 1, 56, 0, 0) else bif Nat.beq pc 56 then some (.imul, 57, 0, 0) else none) else (bif Nat.beq pc 57 then some (.iload_n 2, 58, 0, 0) else bif Nat.beq pc 58 then some (.iadd, 59, 0, 0) else bif Nat.beq pc 59 then some (.iaload, 60, 0, 0) else none))) else (bif Nat.ble pc 69 then (bif Nat.ble pc 64 then (bif Nat.beq pc 60 then some (.ifCond .eq 12, 63, 72, 0) else bif Nat.beq pc 63 then some (.aload_n 0, 64, 0, 0) else bif Nat.beq pc 64 then some (.getfield 100, 67, 10, 38) else none) else (bif Nat.beq pc 67 then some (.iload_n 2, 68, 0, 0) else bif Nat.beq pc 68 then some (.baload, 69, 0, 0) else bif Nat.beq pc 69 then some (.ifCond .eq 7, 72, 76, 0) else none)) else (bif Nat.ble pc 76 then (bif Nat.beq pc 72 then some (.iconst 1, 73, 0, 0) else bif Nat.beq pc 73 then some (.goto 4, 76, 77, 0) else bif Nat.beq pc 76 then some (.iconst 0, 77, 0, 0) else none) else (bif Nat.ble pc 78 then (bif Nat.beq pc 77 then some (.bastore, 78, 0, 0) else bif Nat.beq pc 78 then some (.iinc 2 1, 81, 0, 0) else none) else (bif Nat.beq pc 81 then some (.goto (-51), 84, 30, 0) else bif Nat.beq pc 84 then some (.return_, 85, 0, 0) else none))))))
set_option maxRecDepth 100000 in
set_option maxHeartbeats 4000000 in
theorem ok_M_settle : am_CD m_M_settle cd_M_settle := am_CD_of 85 fl_M_ok cn_M_ok kl_M_ok pl_M_ok (by intro pc h; unfold cd_M_settle; rw [Nat.ble_eq_true_of_le h]; rfl) (by decide +kernel)
def cd_M_readConstants (pc : Nat) : Option am_I := bif Nat.ble 155 pc then none else (bif Nat.ble pc 70 then (bif Nat.ble pc 34 then (bif Nat.ble pc 18 then (bif Nat.ble pc 8 then (bif Nat.ble pc 1 then (bif Nat.beq pc 0 then some (.aload_n 0, 1, 0, 0) else bif Nat.beq pc 1 then some (.getfield 187, 4, 10, 14) else none) else (bif Nat.beq pc 4 then some (.ifCond .le 14, 7, 18, 0) else bif Nat.beq pc 7 then some (.aload_n 0, 8, 0, 0) else bif Nat.beq pc 8 then some (.bipush (-5), 10, 0, 0) else none)) else (bif Nat.ble pc 11 then (bif Nat.beq pc 10 then some (.aload_n 0, 11, 0, 0) else bif Nat.beq pc 11 then some (.getfield 150, 14, 10, 5) else none) else (bif Nat.beq pc 14 then some (.invokevirtual 157, 17, 0, 0) else bif Nat.beq pc 17 then some (.return_, 18, 0, 0) else bif Nat.beq pc 18 then some (.aload_n 0, 19, 0, 0) else none))) else (bif Nat.ble pc 25 then (bif Nat.ble pc 20 then (bif Nat.beq pc 19 then some (.dup, 20, 0, 0) else bif Nat.beq pc 20 then some (.getfield 150, 23, 10, 5) else none) else (bif Nat.beq pc 23 then some (.iconst 1, 24, 0, 0) else bif Nat.beq pc 24 then some (.iadd, 25, 0, 0) else bif Nat.beq pc 25 then some (.putfield 150, 28, 10, 5) else none)) else (bif Nat.ble pc 29 then (bif Nat.beq pc 28 then some (.iconst 0, 29, 0, 0) else bif Nat.beq pc 29 then some (.istore_n 1, 30, 0, 0) else none) else (bif Nat.beq pc 30 then some (.aload_n 0, 31, 0, 0) else bif Nat.beq pc 31 then some (.getfield 147, 34, 10, 6) else bif Nat.beq pc 34 then some (.ifCond .ne 120, 37, 154, 0) else none)))) else (bif Nat.ble pc 53 then (bif Nat.ble pc 43 then (bif Nat.ble pc 38 then (bif Nat.beq pc 37 then some (.aload_n 0, 38, 0, 0) else bif Nat.beq pc 38 then some (.invokevirtual 169, 41, 0, 0) else none) else (bif Nat.beq pc 41 then some (.istore_n 2, 42, 0, 0) else bif Nat.beq pc 42 then some (.iload_n 2, 43, 0, 0) else bif Nat.beq pc 43 then some (.bipush 9, 45, 0, 0) else none)) else (bif Nat.ble pc 48 then (bif Nat.beq pc 45 then some (.if_icmp .ne 18, 48, 63, 0) else bif Nat.beq pc 48 then some (.iload_n 1, 49, 0, 0) else none) else (bif Nat.beq pc 49 then some (.ifCond .le 14, 52, 63, 0) else bif Nat.beq pc 52 then some (.aload_n 0, 53, 0, 0) else bif Nat.beq pc 53 then some (.dup, 54, 0, 0) else none))) else (bif Nat.ble pc 62 then (bif Nat.ble pc 57 then (bif Nat.beq pc 54 then some (.getfield 150, 57, 10, 5) else bif Nat.beq pc 57 then some (.iconst 1, 58, 0, 0) else none) else (bif Nat.beq pc 58 then some (.iadd, 59, 0, 0) else bif Nat.beq pc 59 then some (.putfield 150, 62, 10, 5) else bif Nat.beq pc 62 then some (.return_, 63, 0, 0) else none)) else (bif Nat.ble pc 64 then (bif Nat.beq pc 63 then some (.iload_n 2, 64, 0, 0) else bif Nat.beq pc 64 then some (.ifCond .eq 14, 67, 78, 0) else none) else (bif Nat.beq pc 67 then some (.aload_n 0, 68, 0, 0) else bif Nat.beq pc 68 then some (.bipush (-3), 70, 0, 0) else bif Nat.beq pc 70 then some (.aload_n 0, 71, 0, 0) else none))))) else (bif Nat.ble pc 111 then (bif Nat.ble pc 89 then (bif Nat.ble pc 79 then (bif Nat.ble pc 74 then (bif Nat.beq pc 71 then some (.getfield 150, 74, 10, 5) else bif Nat.beq pc 74 then some (.invokevirtual 157, 77, 0, 0) else none) else (bif Nat.beq pc 77 then some (.return_, 78, 0, 0) else bif Nat.beq pc 78 then some (.aload_n 0, 79, 0, 0) else bif Nat.beq pc 79 then some (.invokevirtual 190, 82, 0, 0) else none)) else (bif Nat.ble pc 85 then (bif Nat.beq pc 82 then some (.ifCond .lt 16, 85, 98, 0) else bif Nat.beq pc 85 then some (.aload_n 0, 86, 0, 0) else none) else (bif Nat.beq pc 86 then some (.bipush (-4), 88, 0, 0) else bif Nat.beq pc 88 then some (.aload_n 0, 89, 0, 0) else bif Nat.beq pc 89 then some (.getfield 150, 92, 10, 5) else none))) else (bif Nat.ble pc 102 then (bif Nat.ble pc 95 then (bif Nat.beq pc 92 then some (.invokevirtual 157, 95, 0, 0) else bif Nat.beq pc 95 then some (.goto 43, 98, 138, 0) else none) else (bif Nat.beq pc 98 then some (.aload_n 0, 99, 0, 0) else bif Nat.beq pc 99 then some (.getfield 173, 102, 10, 8) else bif Nat.beq pc 102 then some (.bipush 60, 104, 0, 0) else none)) else (bif Nat.ble pc 107 then (bif Nat.beq pc 104 then some (.if_icmp .ne 16, 107, 120, 0) else bif Nat.beq pc 107 then some (.aload_n 0, 108, 0, 0) else none) else (bif Nat.beq pc 108 then some (.bipush (-7), 110, 0, 0) else bif Nat.beq pc 110 then some (.aload_n 0, 111, 0, 0) else bif Nat.beq pc 111 then some (.getfield 150, 114, 10, 5) else none)))) else (bif Nat.ble pc 133 then (bif Nat.ble pc 124 then (bif Nat.ble pc 117 then (bif Nat.beq pc 114 then some (.invokevirtual 157, 117, 0, 0) else bif Nat.beq pc 117 then some (.goto 21, 120, 138, 0) else none) else (bif Nat.beq pc 120 then some (.aload_n 0, 121, 0, 0) else bif Nat.beq pc 121 then some (.getfield 27, 124, 10, 10) else bif Nat.beq pc 124 then some (.aload_n 0, 125, 0, 0) else none)) else (bif Nat.ble pc 126 then (bif Nat.beq pc 125 then some (.aload_n 0, 126, 0, 0) else bif Nat.beq pc 126 then some (.aload_n 0, 127, 0, 0) else none) else (bif Nat.beq pc 127 then some (.getfield 150, 130, 10, 5) else bif Nat.beq pc 130 then some (.invokevirtual 176, 133, 0, 0) else bif Nat.beq pc 133 then some (.invokevirtual 193, 136, 0, 0) else none))) else (bif Nat.ble pc 142 then (bif Nat.ble pc 137 then (bif Nat.beq pc 136 then some (.iconst 1, 137, 0, 0) else bif Nat.beq pc 137 then some (.iastore, 138, 0, 0) else none) else (bif Nat.beq pc 138 then some (.iinc 1 1, 141, 0, 0) else bif Nat.beq pc 141 then some (.aload_n 0, 142, 0, 0) else bif Nat.beq pc 142 then some (.dup, 143, 0, 0) else none)) else (bif Nat.ble pc 147 then (bif Nat.beq pc 143 then some (.getfield 150, 146, 10, 5) else bif Nat.beq pc 146 then some (.iconst 1, 147, 0, 0) else bif Nat.beq pc 147 then some (.iadd, 148, 0, 0) else none) else (bif Nat.beq pc 148 then some (.putfield 150, 151, 10, 5) else bif Nat.beq pc 151 then some (.goto (-121), 154, 30, 0) else bif Nat.beq pc 154 then some (.return_, 155, 0, 0) else none))))))
set_option maxRecDepth 100000 in
set_option maxHeartbeats 4000000 in
theorem ok_M_readConstants : am_CD m_M_readConstants cd_M_readConstants := am_CD_of 155 fl_M_ok cn_M_ok kl_M_ok pl_M_ok (by intro pc h; unfold cd_M_readConstants; rw [Nat.ble_eq_true_of_le h]; rfl) (by decide +kernel)
def cd_M_readVariables (pc : Nat) : Option am_I := bif Nat.ble 189 pc then none else (bif Nat.ble pc 89 then (bif Nat.ble pc 44 then (bif Nat.ble pc 20 then (bif Nat.ble pc 7 then (bif Nat.ble pc 2 then (bif Nat.beq pc 0 then some (.aload_n 0, 1, 0, 0) else bif Nat.beq pc 1 then some (.dup, 2, 0, 0) else bif Nat.beq pc 2 then some (.getfield 150, 5, 10, 5) else none) else (bif Nat.beq pc 5 then some (.iconst 1, 6, 0, 0) else bif Nat.beq pc 6 then some (.iadd, 7, 0, 0) else bif Nat.beq pc 7 then some (.putfield 150, 10, 10, 5) else none)) else (bif Nat.ble pc 12 then (bif Nat.beq pc 10 then some (.iconst 0, 11, 0, 0) else bif Nat.beq pc 11 then some (.istore_n 1, 12, 0, 0) else bif Nat.beq pc 12 then some (.aload_n 0, 13, 0, 0) else none) else (bif Nat.ble pc 16 then (bif Nat.beq pc 13 then some (.getfield 147, 16, 10, 6) else bif Nat.beq pc 16 then some (.ifCond .ne 172, 19, 188, 0) else none) else (bif Nat.beq pc 19 then some (.aload_n 0, 20, 0, 0) else bif Nat.beq pc 20 then some (.invokevirtual 169, 23, 0, 0) else none)))) else (bif Nat.ble pc 31 then (bif Nat.ble pc 25 then (bif Nat.beq pc 23 then some (.istore_n 2, 24, 0, 0) else bif Nat.beq pc 24 then some (.iload_n 2, 25, 0, 0) else bif Nat.beq pc 25 then some (.bipush 9, 27, 0, 0) else none) else (bif Nat.beq pc 27 then some (.if_icmp .ne 18, 30, 45, 0) else bif Nat.beq pc 30 then some (.iload_n 1, 31, 0, 0) else bif Nat.beq pc 31 then some (.ifCond .le 14, 34, 45, 0) else none)) else (bif Nat.ble pc 36 then (bif Nat.beq pc 34 then some (.aload_n 0, 35, 0, 0) else bif Nat.beq pc 35 then some (.dup, 36, 0, 0) else bif Nat.beq pc 36 then some (.getfield 150, 39, 10, 5) else none) else (bif Nat.ble pc 40 then (bif Nat.beq pc 39 then some (.iconst 1, 40, 0, 0) else bif Nat.beq pc 40 then some (.iadd, 41, 0, 0) else none) else (bif Nat.beq pc 41 then some (.putfield 150, 44, 10, 5) else bif Nat.beq pc 44 then some (.return_, 45, 0, 0) else none))))) else (bif Nat.ble pc 66 then (bif Nat.ble pc 53 then (bif Nat.ble pc 49 then (bif Nat.beq pc 45 then some (.iload_n 2, 46, 0, 0) else bif Nat.beq pc 46 then some (.ifCond .eq 14, 49, 60, 0) else bif Nat.beq pc 49 then some (.aload_n 0, 50, 0, 0) else none) else (bif Nat.beq pc 50 then some (.bipush (-3), 52, 0, 0) else bif Nat.beq pc 52 then some (.aload_n 0, 53, 0, 0) else bif Nat.beq pc 53 then some (.getfield 150, 56, 10, 5) else none)) else (bif Nat.ble pc 60 then (bif Nat.beq pc 56 then some (.invokevirtual 157, 59, 0, 0) else bif Nat.beq pc 59 then some (.return_, 60, 0, 0) else bif Nat.beq pc 60 then some (.aload_n 0, 61, 0, 0) else none) else (bif Nat.ble pc 64 then (bif Nat.beq pc 61 then some (.invokevirtual 190, 64, 0, 0) else bif Nat.beq pc 64 then some (.istore_n 3, 65, 0, 0) else none) else (bif Nat.beq pc 65 then some (.iload_n 3, 66, 0, 0) else bif Nat.beq pc 66 then some (.ifCond .lt 35, 69, 101, 0) else none)))) else (bif Nat.ble pc 76 then (bif Nat.ble pc 73 then (bif Nat.beq pc 69 then some (.aload_n 0, 70, 0, 0) else bif Nat.beq pc 70 then some (.getfield 27, 73, 10, 10) else bif Nat.beq pc 73 then some (.iload_n 3, 74, 0, 0) else none) else (bif Nat.beq pc 74 then some (.iaload, 75, 0, 0) else bif Nat.beq pc 75 then some (.iconst 2, 76, 0, 0) else bif Nat.beq pc 76 then some (.if_icmp .ne 12, 79, 88, 0) else none)) else (bif Nat.ble pc 83 then (bif Nat.beq pc 79 then some (.aload_n 0, 80, 0, 0) else bif Nat.beq pc 80 then some (.getfield 30, 83, 10, 11) else bif Nat.beq pc 83 then some (.iload_n 3, 84, 0, 0) else none) else (bif Nat.ble pc 85 then (bif Nat.beq pc 84 then some (.baload, 85, 0, 0) else bif Nat.beq pc 85 then some (.ifCond .eq 16, 88, 101, 0) else none) else (bif Nat.beq pc 88 then some (.aload_n 0, 89, 0, 0) else bif Nat.beq pc 89 then some (.bipush (-4), 91, 0, 0) else none)))))) else (bif Nat.ble pc 146 then (bif Nat.ble pc 117 then (bif Nat.ble pc 102 then (bif Nat.ble pc 95 then (bif Nat.beq pc 91 then some (.aload_n 0, 92, 0, 0) else bif Nat.beq pc 92 then some (.getfield 150, 95, 10, 5) else bif Nat.beq pc 95 then some (.invokevirtual 157, 98, 0, 0) else none) else (bif Nat.beq pc 98 then some (.goto 74, 101, 172, 0) else bif Nat.beq pc 101 then some (.iload_n 3, 102, 0, 0) else bif Nat.beq pc 102 then some (.ifCond .ge 25, 105, 127, 0) else none)) else (bif Nat.ble pc 109 then (bif Nat.beq pc 105 then some (.aload_n 0, 106, 0, 0) else bif Nat.beq pc 106 then some (.getfield 173, 109, 10, 8) else bif Nat.beq pc 109 then some (.bipush 60, 111, 0, 0) else none) else (bif Nat.ble pc 114 then (bif Nat.beq pc 111 then some (.if_icmp .ne 16, 114, 127, 0) else bif Nat.beq pc 114 then some (.aload_n 0, 115, 0, 0) else none) else (bif Nat.beq pc 115 then some (.bipush (-7), 117, 0, 0) else bif Nat.beq pc 117 then some (.aload_n 0, 118, 0, 0) else none)))) else (bif Nat.ble pc 131 then (bif Nat.ble pc 124 then (bif Nat.beq pc 118 then some (.getfield 150, 121, 10, 5) else bif Nat.beq pc 121 then some (.invokevirtual 157, 124, 0, 0) else bif Nat.beq pc 124 then some (.goto 48, 127, 172, 0) else none) else (bif Nat.beq pc 127 then some (.iload_n 3, 128, 0, 0) else bif Nat.beq pc 128 then some (.ifCond .ge 18, 131, 146, 0) else bif Nat.beq pc 131 then some (.aload_n 0, 132, 0, 0) else none)) else (bif Nat.ble pc 134 then (bif Nat.beq pc 132 then some (.aload_n 0, 133, 0, 0) else bif Nat.beq pc 133 then some (.aload_n 0, 134, 0, 0) else bif Nat.beq pc 134 then some (.getfield 150, 137, 10, 5) else none) else (bif Nat.ble pc 140 then (bif Nat.beq pc 137 then some (.invokevirtual 176, 140, 0, 0) else bif Nat.beq pc 140 then some (.invokevirtual 193, 143, 0, 0) else none) else (bif Nat.beq pc 143 then some (.goto 4, 146, 147, 0) else bif Nat.beq pc 146 then some (.iload_n 3, 147, 0, 0) else none))))) else (bif Nat.ble pc 163 then (bif Nat.ble pc 154 then (bif Nat.ble pc 149 then (bif Nat.beq pc 147 then some (.istore_n 3, 148, 0, 0) else bif Nat.beq pc 148 then some (.aload_n 0, 149, 0, 0) else bif Nat.beq pc 149 then some (.getfield 27, 152, 10, 10) else none) else (bif Nat.beq pc 152 then some (.iload_n 3, 153, 0, 0) else bif Nat.beq pc 153 then some (.iconst 2, 154, 0, 0) else bif Nat.beq pc 154 then some (.iastore, 155, 0, 0) else none)) else (bif Nat.ble pc 159 then (bif Nat.beq pc 155 then some (.aload_n 0, 156, 0, 0) else bif Nat.beq pc 156 then some (.getfield 30, 159, 10, 11) else bif Nat.beq pc 159 then some (.iload_n 3, 160, 0, 0) else none) else (bif Nat.ble pc 161 then (bif Nat.beq pc 160 then some (.iconst 1, 161, 0, 0) else bif Nat.beq pc 161 then some (.bastore, 162, 0, 0) else none) else (bif Nat.beq pc 162 then some (.aload_n 0, 163, 0, 0) else bif Nat.beq pc 163 then some (.getfield 34, 166, 10, 12) else none)))) else (bif Nat.ble pc 175 then (bif Nat.ble pc 168 then (bif Nat.beq pc 166 then some (.iload_n 3, 167, 0, 0) else bif Nat.beq pc 167 then some (.aload_n 0, 168, 0, 0) else bif Nat.beq pc 168 then some (.getfield 187, 171, 10, 14) else none) else (bif Nat.beq pc 171 then some (.iastore, 172, 0, 0) else bif Nat.beq pc 172 then some (.iinc 1 1, 175, 0, 0) else bif Nat.beq pc 175 then some (.aload_n 0, 176, 0, 0) else none)) else (bif Nat.ble pc 180 then (bif Nat.beq pc 176 then some (.dup, 177, 0, 0) else bif Nat.beq pc 177 then some (.getfield 150, 180, 10, 5) else bif Nat.beq pc 180 then some (.iconst 1, 181, 0, 0) else none) else (bif Nat.ble pc 182 then (bif Nat.beq pc 181 then some (.iadd, 182, 0, 0) else bif Nat.beq pc 182 then some (.putfield 150, 185, 10, 5) else none) else (bif Nat.beq pc 185 then some (.goto (-173), 188, 12, 0) else bif Nat.beq pc 188 then some (.return_, 189, 0, 0) else none)))))))
set_option maxRecDepth 100000 in
set_option maxHeartbeats 4000000 in
theorem ok_M_readVariables : am_CD m_M_readVariables cd_M_readVariables := am_CD_of 189 fl_M_ok cn_M_ok kl_M_ok pl_M_ok (by intro pc h; unfold cd_M_readVariables; rw [Nat.ble_eq_true_of_le h]; rfl) (by decide +kernel)
end
section
def cd_M_readApart (pc : Nat) : Option am_I := bif Nat.ble 252 pc then none else (bif Nat.ble pc 122 then (bif Nat.ble pc 54 then (bif Nat.ble pc 25 then (bif Nat.ble pc 11 then (bif Nat.ble pc 5 then (bif Nat.ble pc 1 then (bif Nat.beq pc 0 then some (.aload_n 0, 1, 0, 0) else bif Nat.beq pc 1 then some (.dup, 2, 0, 0) else none) else (bif Nat.beq pc 2 then some (.getfield 150, 5, 10, 5) else bif Nat.beq pc 5 then some (.iconst 1, 6, 0, 0) else none)) else (bif Nat.ble pc 7 then (bif Nat.beq pc 6 then some (.iadd, 7, 0, 0) else bif Nat.beq pc 7 then some (.putfield 150, 10, 10, 5) else none) else (bif Nat.beq pc 10 then some (.iconst 0, 11, 0, 0) else bif Nat.beq pc 11 then some (.istore_n 1, 12, 0, 0) else none))) else (bif Nat.ble pc 19 then (bif Nat.ble pc 13 then (bif Nat.beq pc 12 then some (.aload_n 0, 13, 0, 0) else bif Nat.beq pc 13 then some (.getfield 147, 16, 10, 6) else none) else (bif Nat.beq pc 16 then some (.ifCond .ne 235, 19, 251, 0) else bif Nat.beq pc 19 then some (.aload_n 0, 20, 0, 0) else none)) else (bif Nat.ble pc 23 then (bif Nat.beq pc 20 then some (.invokevirtual 169, 23, 0, 0) else bif Nat.beq pc 23 then some (.istore_n 2, 24, 0, 0) else none) else (bif Nat.beq pc 24 then some (.iload_n 2, 25, 0, 0) else bif Nat.beq pc 25 then some (.bipush 9, 27, 0, 0) else none)))) else (bif Nat.ble pc 40 then (bif Nat.ble pc 32 then (bif Nat.ble pc 30 then (bif Nat.beq pc 27 then some (.if_icmp .ne 19, 30, 46, 0) else bif Nat.beq pc 30 then some (.iload_n 1, 31, 0, 0) else none) else (bif Nat.beq pc 31 then some (.iconst 1, 32, 0, 0) else bif Nat.beq pc 32 then some (.if_icmp .le 14, 35, 46, 0) else none)) else (bif Nat.ble pc 36 then (bif Nat.beq pc 35 then some (.aload_n 0, 36, 0, 0) else bif Nat.beq pc 36 then some (.dup, 37, 0, 0) else none) else (bif Nat.beq pc 37 then some (.getfield 150, 40, 10, 5) else bif Nat.beq pc 40 then some (.iconst 1, 41, 0, 0) else none))) else (bif Nat.ble pc 46 then (bif Nat.ble pc 42 then (bif Nat.beq pc 41 then some (.iadd, 42, 0, 0) else bif Nat.beq pc 42 then some (.putfield 150, 45, 10, 5) else none) else (bif Nat.beq pc 45 then some (.return_, 46, 0, 0) else bif Nat.beq pc 46 then some (.iload_n 2, 47, 0, 0) else none)) else (bif Nat.ble pc 50 then (bif Nat.beq pc 47 then some (.ifCond .eq 14, 50, 61, 0) else bif Nat.beq pc 50 then some (.aload_n 0, 51, 0, 0) else none) else (bif Nat.beq pc 51 then some (.bipush (-3), 53, 0, 0) else bif Nat.beq pc 53 then some (.aload_n 0, 54, 0, 0) else bif Nat.beq pc 54 then some (.getfield 150, 57, 10, 5) else none))))) else (bif Nat.ble pc 86 then (bif Nat.ble pc 68 then (bif Nat.ble pc 62 then (bif Nat.ble pc 60 then (bif Nat.beq pc 57 then some (.invokevirtual 157, 60, 0, 0) else bif Nat.beq pc 60 then some (.return_, 61, 0, 0) else none) else (bif Nat.beq pc 61 then some (.aload_n 0, 62, 0, 0) else bif Nat.beq pc 62 then some (.invokevirtual 190, 65, 0, 0) else none)) else (bif Nat.ble pc 66 then (bif Nat.beq pc 65 then some (.istore_n 3, 66, 0, 0) else bif Nat.beq pc 66 then some (.aload_n 0, 67, 0, 0) else none) else (bif Nat.beq pc 67 then some (.iload_n 3, 68, 0, 0) else bif Nat.beq pc 68 then some (.invokevirtual 196, 71, 0, 0) else none))) else (bif Nat.ble pc 76 then (bif Nat.ble pc 74 then (bif Nat.beq pc 71 then some (.ifCond .ne 24, 74, 95, 0) else bif Nat.beq pc 74 then some (.aload_n 0, 75, 0, 0) else none) else (bif Nat.beq pc 75 then some (.iload_n 3, 76, 0, 0) else bif Nat.beq pc 76 then some (.invokevirtual 200, 79, 0, 0) else none)) else (bif Nat.ble pc 82 then (bif Nat.beq pc 79 then some (.ifCond .ne 16, 82, 95, 0) else bif Nat.beq pc 82 then some (.aload_n 0, 83, 0, 0) else none) else (bif Nat.beq pc 83 then some (.bipush (-4), 85, 0, 0) else bif Nat.beq pc 85 then some (.aload_n 0, 86, 0, 0) else bif Nat.beq pc 86 then some (.getfield 150, 89, 10, 5) else none)))) else (bif Nat.ble pc 104 then (bif Nat.ble pc 96 then (bif Nat.ble pc 92 then (bif Nat.beq pc 89 then some (.invokevirtual 157, 92, 0, 0) else bif Nat.beq pc 92 then some (.goto 43, 95, 135, 0) else none) else (bif Nat.beq pc 95 then some (.aload_n 0, 96, 0, 0) else bif Nat.beq pc 96 then some (.iload_n 3, 97, 0, 0) else none)) else (bif Nat.ble pc 100 then (bif Nat.beq pc 97 then some (.invokevirtual 196, 100, 0, 0) else bif Nat.beq pc 100 then some (.ifCond .eq 16, 103, 116, 0) else none) else (bif Nat.beq pc 103 then some (.aload_n 0, 104, 0, 0) else bif Nat.beq pc 104 then some (.bipush (-6), 106, 0, 0) else none))) else (bif Nat.ble pc 113 then (bif Nat.ble pc 107 then (bif Nat.beq pc 106 then some (.aload_n 0, 107, 0, 0) else bif Nat.beq pc 107 then some (.getfield 150, 110, 10, 5) else none) else (bif Nat.beq pc 110 then some (.invokevirtual 157, 113, 0, 0) else bif Nat.beq pc 113 then some (.goto 22, 116, 135, 0) else none)) else (bif Nat.ble pc 117 then (bif Nat.beq pc 116 then some (.aload_n 0, 117, 0, 0) else bif Nat.beq pc 117 then some (.iload_n 3, 118, 0, 0) else none) else (bif Nat.beq pc 118 then some (.iload_n 1, 119, 0, 0) else bif Nat.beq pc 119 then some (.invokevirtual 203, 122, 0, 0) else bif Nat.beq pc 122 then some (.ifCond .eq 13, 125, 135, 0) else none)))))) else (bif Nat.ble pc 189 then (bif Nat.ble pc 155 then (bif Nat.ble pc 138 then (bif Nat.ble pc 129 then (bif Nat.ble pc 126 then (bif Nat.beq pc 125 then some (.aload_n 0, 126, 0, 0) else bif Nat.beq pc 126 then some (.bipush (-4), 128, 0, 0) else none) else (bif Nat.beq pc 128 then some (.aload_n 0, 129, 0, 0) else bif Nat.beq pc 129 then some (.getfield 150, 132, 10, 5) else none)) else (bif Nat.ble pc 135 then (bif Nat.beq pc 132 then some (.invokevirtual 157, 135, 0, 0) else bif Nat.beq pc 135 then some (.iconst 0, 136, 0, 0) else none) else (bif Nat.beq pc 136 then some (.istore 4, 138, 0, 0) else bif Nat.beq pc 138 then some (.iload 4, 140, 0, 0) else none))) else (bif Nat.ble pc 145 then (bif Nat.ble pc 141 then (bif Nat.beq pc 140 then some (.iload_n 1, 141, 0, 0) else bif Nat.beq pc 141 then some (.if_icmp .ge 87, 144, 228, 0) else none) else (bif Nat.beq pc 144 then some (.aload_n 0, 145, 0, 0) else bif Nat.beq pc 145 then some (.getfield 147, 148, 10, 6) else none)) else (bif Nat.ble pc 151 then (bif Nat.beq pc 148 then some (.ifCond .ne 80, 151, 228, 0) else bif Nat.beq pc 151 then some (.aload_n 0, 152, 0, 0) else none) else (bif Nat.beq pc 152 then some (.getfield 207, 155, 10, 23) else bif Nat.beq pc 155 then some (.bipush 40, 157, 0, 0) else none)))) else (bif Nat.ble pc 173 then (bif Nat.ble pc 163 then (bif Nat.ble pc 160 then (bif Nat.beq pc 157 then some (.if_icmp .ne 16, 160, 173, 0) else bif Nat.beq pc 160 then some (.aload_n 0, 161, 0, 0) else none) else (bif Nat.beq pc 161 then some (.bipush (-7), 163, 0, 0) else bif Nat.beq pc 163 then some (.aload_n 0, 164, 0, 0) else none)) else (bif Nat.ble pc 167 then (bif Nat.beq pc 164 then some (.getfield 150, 167, 10, 5) else bif Nat.beq pc 167 then some (.invokevirtual 157, 170, 0, 0) else none) else (bif Nat.beq pc 170 then some (.goto 52, 173, 222, 0) else bif Nat.beq pc 173 then some (.aload_n 0, 174, 0, 0) else none))) else (bif Nat.ble pc 181 then (bif Nat.ble pc 177 then (bif Nat.beq pc 174 then some (.getfield 61, 177, 10, 24) else bif Nat.beq pc 177 then some (.aload_n 0, 178, 0, 0) else none) else (bif Nat.beq pc 178 then some (.getfield 207, 181, 10, 23) else bif Nat.beq pc 181 then some (.aload_n 0, 182, 0, 0) else none)) else (bif Nat.ble pc 185 then (bif Nat.beq pc 182 then some (.getfield 109, 185, 10, 42) else bif Nat.beq pc 185 then some (.iload 4, 187, 0, 0) else none) else (bif Nat.beq pc 187 then some (.iaload, 188, 0, 0) else bif Nat.beq pc 188 then some (.iastore, 189, 0, 0) else bif Nat.beq pc 189 then some (.aload_n 0, 190, 0, 0) else none))))) else (bif Nat.ble pc 218 then (bif Nat.ble pc 203 then (bif Nat.ble pc 197 then (bif Nat.ble pc 193 then (bif Nat.beq pc 190 then some (.getfield 64, 193, 10, 25) else bif Nat.beq pc 193 then some (.aload_n 0, 194, 0, 0) else none) else (bif Nat.beq pc 194 then some (.getfield 207, 197, 10, 23) else bif Nat.beq pc 197 then some (.iload_n 3, 198, 0, 0) else none)) else (bif Nat.ble pc 199 then (bif Nat.beq pc 198 then some (.iastore, 199, 0, 0) else bif Nat.beq pc 199 then some (.aload_n 0, 200, 0, 0) else none) else (bif Nat.beq pc 200 then some (.getfield 67, 203, 10, 26) else bif Nat.beq pc 203 then some (.aload_n 0, 204, 0, 0) else none))) else (bif Nat.ble pc 211 then (bif Nat.ble pc 207 then (bif Nat.beq pc 204 then some (.getfield 207, 207, 10, 23) else bif Nat.beq pc 207 then some (.aload_n 0, 208, 0, 0) else none) else (bif Nat.beq pc 208 then some (.getfield 187, 211, 10, 14) else bif Nat.beq pc 211 then some (.iastore, 212, 0, 0) else none)) else (bif Nat.ble pc 213 then (bif Nat.beq pc 212 then some (.aload_n 0, 213, 0, 0) else bif Nat.beq pc 213 then some (.dup, 214, 0, 0) else none) else (bif Nat.beq pc 214 then some (.getfield 207, 217, 10, 23) else bif Nat.beq pc 217 then some (.iconst 1, 218, 0, 0) else bif Nat.beq pc 218 then some (.iadd, 219, 0, 0) else none)))) else (bif Nat.ble pc 234 then (bif Nat.ble pc 228 then (bif Nat.ble pc 222 then (bif Nat.beq pc 219 then some (.putfield 207, 222, 10, 23) else bif Nat.beq pc 222 then some (.iinc 4 1, 225, 0, 0) else none) else (bif Nat.beq pc 225 then some (.goto (-87), 228, 138, 0) else bif Nat.beq pc 228 then some (.aload_n 0, 229, 0, 0) else none)) else (bif Nat.ble pc 232 then (bif Nat.beq pc 229 then some (.getfield 109, 232, 10, 42) else bif Nat.beq pc 232 then some (.iload_n 1, 233, 0, 0) else none) else (bif Nat.beq pc 233 then some (.iload_n 3, 234, 0, 0) else bif Nat.beq pc 234 then some (.iastore, 235, 0, 0) else none))) else (bif Nat.ble pc 240 then (bif Nat.ble pc 238 then (bif Nat.beq pc 235 then some (.iinc 1 1, 238, 0, 0) else bif Nat.beq pc 238 then some (.aload_n 0, 239, 0, 0) else none) else (bif Nat.beq pc 239 then some (.dup, 240, 0, 0) else bif Nat.beq pc 240 then some (.getfield 150, 243, 10, 5) else none)) else (bif Nat.ble pc 244 then (bif Nat.beq pc 243 then some (.iconst 1, 244, 0, 0) else bif Nat.beq pc 244 then some (.iadd, 245, 0, 0) else none) else (bif Nat.beq pc 245 then some (.putfield 150, 248, 10, 5) else bif Nat.beq pc 248 then some (.goto (-236), 251, 12, 0) else bif Nat.beq pc 251 then some (.return_, 252, 0, 0) else none)))))))
set_option maxRecDepth 100000 in
set_option maxHeartbeats 4000000 in
theorem ok_M_readApart : am_CD m_M_readApart cd_M_readApart := am_CD_of 252 fl_M_ok cn_M_ok kl_M_ok pl_M_ok (by intro pc h; unfold cd_M_readApart; rw [Nat.ble_eq_true_of_le h]; rfl) (by decide +kernel)
def cd_M_stoodBefore (pc : Nat) : Option am_I := bif Nat.ble 27 pc then none else (bif Nat.ble pc 11 then (bif Nat.ble pc 3 then (bif Nat.ble pc 1 then (bif Nat.beq pc 0 then some (.iconst 0, 1, 0, 0) else bif Nat.beq pc 1 then some (.istore_n 3, 2, 0, 0) else none) else (bif Nat.beq pc 2 then some (.iload_n 3, 3, 0, 0) else bif Nat.beq pc 3 then some (.iload_n 2, 4, 0, 0) else none)) else (bif Nat.ble pc 7 then (bif Nat.beq pc 4 then some (.if_icmp .ge 21, 7, 25, 0) else bif Nat.beq pc 7 then some (.aload_n 0, 8, 0, 0) else none) else (bif Nat.beq pc 8 then some (.getfield 109, 11, 10, 42) else bif Nat.beq pc 11 then some (.iload_n 3, 12, 0, 0) else none))) else (bif Nat.ble pc 17 then (bif Nat.ble pc 13 then (bif Nat.beq pc 12 then some (.iaload, 13, 0, 0) else bif Nat.beq pc 13 then some (.iload_n 1, 14, 0, 0) else none) else (bif Nat.beq pc 14 then some (.if_icmp .ne 5, 17, 19, 0) else bif Nat.beq pc 17 then some (.iconst 1, 18, 0, 0) else none)) else (bif Nat.ble pc 19 then (bif Nat.beq pc 18 then some (.ireturn, 19, 0, 0) else bif Nat.beq pc 19 then some (.iinc 3 1, 22, 0, 0) else none) else (bif Nat.beq pc 22 then some (.goto (-20), 25, 2, 0) else bif Nat.beq pc 25 then some (.iconst 0, 26, 0, 0) else bif Nat.beq pc 26 then some (.ireturn, 27, 0, 0) else none))))
set_option maxRecDepth 100000 in
set_option maxHeartbeats 4000000 in
theorem ok_M_stoodBefore : am_CD m_M_stoodBefore cd_M_stoodBefore := am_CD_of 27 fl_M_ok cn_M_ok kl_M_ok pl_M_ok (by intro pc h; unfold cd_M_stoodBefore; rw [Nat.ble_eq_true_of_le h]; rfl) (by decide +kernel)
def cd_M_closeScope (pc : Nat) : Option am_I := bif Nat.ble 147 pc then none else (bif Nat.ble pc 69 then (bif Nat.ble pc 31 then (bif Nat.ble pc 15 then (bif Nat.ble pc 4 then (bif Nat.ble pc 1 then (bif Nat.beq pc 0 then some (.iconst 0, 1, 0, 0) else bif Nat.beq pc 1 then some (.istore_n 1, 2, 0, 0) else none) else (bif Nat.beq pc 2 then some (.iload_n 1, 3, 0, 0) else bif Nat.beq pc 3 then some (.aload_n 0, 4, 0, 0) else bif Nat.beq pc 4 then some (.getfield 173, 7, 10, 8) else none)) else (bif Nat.ble pc 10 then (bif Nat.beq pc 7 then some (.if_icmp .ge 42, 10, 49, 0) else bif Nat.beq pc 10 then some (.aload_n 0, 11, 0, 0) else none) else (bif Nat.beq pc 11 then some (.getfield 30, 14, 10, 11) else bif Nat.beq pc 14 then some (.iload_n 1, 15, 0, 0) else bif Nat.beq pc 15 then some (.aload_n 0, 16, 0, 0) else none))) else (bif Nat.ble pc 24 then (bif Nat.ble pc 19 then (bif Nat.beq pc 16 then some (.getfield 30, 19, 10, 11) else bif Nat.beq pc 19 then some (.iload_n 1, 20, 0, 0) else none) else (bif Nat.beq pc 20 then some (.baload, 21, 0, 0) else bif Nat.beq pc 21 then some (.ifCond .eq 20, 24, 41, 0) else bif Nat.beq pc 24 then some (.aload_n 0, 25, 0, 0) else none)) else (bif Nat.ble pc 28 then (bif Nat.beq pc 25 then some (.getfield 34, 28, 10, 12) else bif Nat.beq pc 28 then some (.iload_n 1, 29, 0, 0) else none) else (bif Nat.beq pc 29 then some (.iaload, 30, 0, 0) else bif Nat.beq pc 30 then some (.aload_n 0, 31, 0, 0) else bif Nat.beq pc 31 then some (.getfield 187, 34, 10, 14) else none)))) else (bif Nat.ble pc 51 then (bif Nat.ble pc 42 then (bif Nat.ble pc 37 then (bif Nat.beq pc 34 then some (.if_icmp .ge 7, 37, 41, 0) else bif Nat.beq pc 37 then some (.iconst 1, 38, 0, 0) else none) else (bif Nat.beq pc 38 then some (.goto 4, 41, 42, 0) else bif Nat.beq pc 41 then some (.iconst 0, 42, 0, 0) else bif Nat.beq pc 42 then some (.bastore, 43, 0, 0) else none)) else (bif Nat.ble pc 46 then (bif Nat.beq pc 43 then some (.iinc 1 1, 46, 0, 0) else bif Nat.beq pc 46 then some (.goto (-44), 49, 2, 0) else none) else (bif Nat.beq pc 49 then some (.iconst 0, 50, 0, 0) else bif Nat.beq pc 50 then some (.istore_n 1, 51, 0, 0) else bif Nat.beq pc 51 then some (.iload_n 1, 52, 0, 0) else none))) else (bif Nat.ble pc 60 then (bif Nat.ble pc 53 then (bif Nat.beq pc 52 then some (.aload_n 0, 53, 0, 0) else bif Nat.beq pc 53 then some (.getfield 184, 56, 10, 15) else none) else (bif Nat.beq pc 56 then some (.if_icmp .ge 42, 59, 98, 0) else bif Nat.beq pc 59 then some (.aload_n 0, 60, 0, 0) else bif Nat.beq pc 60 then some (.getfield 52, 63, 10, 20) else none)) else (bif Nat.ble pc 64 then (bif Nat.beq pc 63 then some (.iload_n 1, 64, 0, 0) else bif Nat.beq pc 64 then some (.aload_n 0, 65, 0, 0) else none) else (bif Nat.beq pc 65 then some (.getfield 52, 68, 10, 20) else bif Nat.beq pc 68 then some (.iload_n 1, 69, 0, 0) else bif Nat.beq pc 69 then some (.baload, 70, 0, 0) else none))))) else (bif Nat.ble pc 109 then (bif Nat.ble pc 87 then (bif Nat.ble pc 78 then (bif Nat.ble pc 73 then (bif Nat.beq pc 70 then some (.ifCond .eq 20, 73, 90, 0) else bif Nat.beq pc 73 then some (.aload_n 0, 74, 0, 0) else none) else (bif Nat.beq pc 74 then some (.getfield 55, 77, 10, 21) else bif Nat.beq pc 77 then some (.iload_n 1, 78, 0, 0) else bif Nat.beq pc 78 then some (.iaload, 79, 0, 0) else none)) else (bif Nat.ble pc 80 then (bif Nat.beq pc 79 then some (.aload_n 0, 80, 0, 0) else bif Nat.beq pc 80 then some (.getfield 187, 83, 10, 14) else none) else (bif Nat.beq pc 83 then some (.if_icmp .ge 7, 86, 90, 0) else bif Nat.beq pc 86 then some (.iconst 1, 87, 0, 0) else bif Nat.beq pc 87 then some (.goto 4, 90, 91, 0) else none))) else (bif Nat.ble pc 98 then (bif Nat.ble pc 91 then (bif Nat.beq pc 90 then some (.iconst 0, 91, 0, 0) else bif Nat.beq pc 91 then some (.bastore, 92, 0, 0) else none) else (bif Nat.beq pc 92 then some (.iinc 1 1, 95, 0, 0) else bif Nat.beq pc 95 then some (.goto (-44), 98, 51, 0) else bif Nat.beq pc 98 then some (.aload_n 0, 99, 0, 0) else none)) else (bif Nat.ble pc 102 then (bif Nat.beq pc 99 then some (.getfield 207, 102, 10, 23) else bif Nat.beq pc 102 then some (.ifCond .le 34, 105, 136, 0) else none) else (bif Nat.beq pc 105 then some (.aload_n 0, 106, 0, 0) else bif Nat.beq pc 106 then some (.getfield 67, 109, 10, 26) else bif Nat.beq pc 109 then some (.aload_n 0, 110, 0, 0) else none)))) else (bif Nat.ble pc 125 then (bif Nat.ble pc 116 then (bif Nat.ble pc 113 then (bif Nat.beq pc 110 then some (.getfield 207, 113, 10, 23) else bif Nat.beq pc 113 then some (.iconst 1, 114, 0, 0) else none) else (bif Nat.beq pc 114 then some (.isub, 115, 0, 0) else bif Nat.beq pc 115 then some (.iaload, 116, 0, 0) else bif Nat.beq pc 116 then some (.aload_n 0, 117, 0, 0) else none)) else (bif Nat.ble pc 120 then (bif Nat.beq pc 117 then some (.getfield 187, 120, 10, 14) else bif Nat.beq pc 120 then some (.if_icmp .ne 16, 123, 136, 0) else none) else (bif Nat.beq pc 123 then some (.aload_n 0, 124, 0, 0) else bif Nat.beq pc 124 then some (.dup, 125, 0, 0) else bif Nat.beq pc 125 then some (.getfield 207, 128, 10, 23) else none))) else (bif Nat.ble pc 136 then (bif Nat.ble pc 129 then (bif Nat.beq pc 128 then some (.iconst 1, 129, 0, 0) else bif Nat.beq pc 129 then some (.isub, 130, 0, 0) else none) else (bif Nat.beq pc 130 then some (.putfield 207, 133, 10, 23) else bif Nat.beq pc 133 then some (.goto (-35), 136, 98, 0) else bif Nat.beq pc 136 then some (.aload_n 0, 137, 0, 0) else none)) else (bif Nat.ble pc 141 then (bif Nat.beq pc 137 then some (.dup, 138, 0, 0) else bif Nat.beq pc 138 then some (.getfield 187, 141, 10, 14) else bif Nat.beq pc 141 then some (.iconst 1, 142, 0, 0) else none) else (bif Nat.beq pc 142 then some (.isub, 143, 0, 0) else bif Nat.beq pc 143 then some (.putfield 187, 146, 10, 14) else bif Nat.beq pc 146 then some (.return_, 147, 0, 0) else none))))))
set_option maxRecDepth 100000 in
set_option maxHeartbeats 4000000 in
theorem ok_M_closeScope : am_CD m_M_closeScope cd_M_closeScope := am_CD_of 147 fl_M_ok cn_M_ok kl_M_ok pl_M_ok (by intro pc h; unfold cd_M_closeScope; rw [Nat.ble_eq_true_of_le h]; rfl) (by decide +kernel)
def cd_M_place (pc : Nat) : Option am_I := bif Nat.ble 5 pc then none else (bif Nat.beq pc 0 then some (.aload_n 0, 1, 0, 0) else bif Nat.beq pc 1 then some (.getfield 19, 4, 10, 7) else bif Nat.beq pc 4 then some (.ireturn, 5, 0, 0) else none)
set_option maxRecDepth 100000 in
set_option maxHeartbeats 4000000 in
theorem ok_M_place : am_CD m_M_place cd_M_place := am_CD_of 5 fl_M_ok cn_M_ok kl_M_ok pl_M_ok (by intro pc h; unfold cd_M_place; rw [Nat.ble_eq_true_of_le h]; rfl) (by decide +kernel)
def cd_M_count (pc : Nat) : Option am_I := bif Nat.ble 116 pc then none else (bif Nat.ble pc 54 then (bif Nat.ble pc 25 then (bif Nat.ble pc 12 then (bif Nat.ble pc 5 then (bif Nat.ble pc 1 then (bif Nat.beq pc 0 then some (.iload_n 1, 1, 0, 0) else bif Nat.beq pc 1 then some (.ifCond .lt 9, 4, 10, 0) else none) else (bif Nat.beq pc 4 then some (.iload_n 1, 5, 0, 0) else bif Nat.beq pc 5 then some (.bipush 6, 7, 0, 0) else none)) else (bif Nat.ble pc 10 then (bif Nat.beq pc 7 then some (.if_icmp .le 5, 10, 12, 0) else bif Nat.beq pc 10 then some (.iconst (-1), 11, 0, 0) else none) else (bif Nat.beq pc 11 then some (.ireturn, 12, 0, 0) else bif Nat.beq pc 12 then some (.iload_n 1, 13, 0, 0) else none))) else (bif Nat.ble pc 18 then (bif Nat.ble pc 14 then (bif Nat.beq pc 13 then some (.iconst 2, 14, 0, 0) else bif Nat.beq pc 14 then some (.if_icmp .ge 11, 17, 25, 0) else none) else (bif Nat.beq pc 17 then some (.aload_n 0, 18, 0, 0) else bif Nat.beq pc 18 then some (.iload_n 1, 19, 0, 0) else none)) else (bif Nat.ble pc 20 then (bif Nat.beq pc 19 then some (.iconst 1, 20, 0, 0) else bif Nat.beq pc 20 then some (.iadd, 21, 0, 0) else none) else (bif Nat.beq pc 21 then some (.invokevirtual 362, 24, 0, 0) else bif Nat.beq pc 24 then some (.ireturn, 25, 0, 0) else bif Nat.beq pc 25 then some (.iconst 0, 26, 0, 0) else none)))) else (bif Nat.ble pc 37 then (bif Nat.ble pc 29 then (bif Nat.ble pc 27 then (bif Nat.beq pc 26 then some (.istore_n 2, 27, 0, 0) else bif Nat.beq pc 27 then some (.iconst 0, 28, 0, 0) else none) else (bif Nat.beq pc 28 then some (.istore_n 3, 29, 0, 0) else bif Nat.beq pc 29 then some (.iload_n 3, 30, 0, 0) else none)) else (bif Nat.ble pc 31 then (bif Nat.beq pc 30 then some (.aload_n 0, 31, 0, 0) else bif Nat.beq pc 31 then some (.getfield 184, 34, 10, 15) else none) else (bif Nat.beq pc 34 then some (.if_icmp .ge 80, 37, 114, 0) else bif Nat.beq pc 37 then some (.iload_n 1, 38, 0, 0) else none))) else (bif Nat.ble pc 44 then (bif Nat.ble pc 40 then (bif Nat.beq pc 38 then some (.bipush 6, 40, 0, 0) else bif Nat.beq pc 40 then some (.if_icmp .ne 36, 43, 76, 0) else none) else (bif Nat.beq pc 43 then some (.aload_n 0, 44, 0, 0) else bif Nat.beq pc 44 then some (.getfield 40, 47, 10, 16) else none)) else (bif Nat.ble pc 48 then (bif Nat.beq pc 47 then some (.iload_n 3, 48, 0, 0) else bif Nat.beq pc 48 then some (.iaload, 49, 0, 0) else none) else (bif Nat.beq pc 49 then some (.bipush 7, 51, 0, 0) else bif Nat.beq pc 51 then some (.if_icmp .ne 21, 54, 72, 0) else bif Nat.beq pc 54 then some (.aload_n 0, 55, 0, 0) else none))))) else (bif Nat.ble pc 83 then (bif Nat.ble pc 68 then (bif Nat.ble pc 62 then (bif Nat.ble pc 58 then (bif Nat.beq pc 55 then some (.getfield 97, 58, 10, 37) else bif Nat.beq pc 58 then some (.aload_n 0, 59, 0, 0) else none) else (bif Nat.beq pc 59 then some (.getfield 58, 62, 10, 22) else bif Nat.beq pc 62 then some (.iload_n 3, 63, 0, 0) else none)) else (bif Nat.ble pc 64 then (bif Nat.beq pc 63 then some (.iaload, 64, 0, 0) else bif Nat.beq pc 64 then some (.baload, 65, 0, 0) else none) else (bif Nat.beq pc 65 then some (.ifCond .eq 7, 68, 72, 0) else bif Nat.beq pc 68 then some (.iconst 1, 69, 0, 0) else none))) else (bif Nat.ble pc 76 then (bif Nat.ble pc 72 then (bif Nat.beq pc 69 then some (.goto 24, 72, 93, 0) else bif Nat.beq pc 72 then some (.iconst 0, 73, 0, 0) else none) else (bif Nat.beq pc 73 then some (.goto 20, 76, 93, 0) else bif Nat.beq pc 76 then some (.aload_n 0, 77, 0, 0) else none)) else (bif Nat.ble pc 80 then (bif Nat.beq pc 77 then some (.getfield 40, 80, 10, 16) else bif Nat.beq pc 80 then some (.iload_n 3, 81, 0, 0) else none) else (bif Nat.beq pc 81 then some (.iaload, 82, 0, 0) else bif Nat.beq pc 82 then some (.iload_n 1, 83, 0, 0) else bif Nat.beq pc 83 then some (.iconst 2, 84, 0, 0) else none)))) else (bif Nat.ble pc 100 then (bif Nat.ble pc 89 then (bif Nat.ble pc 85 then (bif Nat.beq pc 84 then some (.iadd, 85, 0, 0) else bif Nat.beq pc 85 then some (.if_icmp .ne 7, 88, 92, 0) else none) else (bif Nat.beq pc 88 then some (.iconst 1, 89, 0, 0) else bif Nat.beq pc 89 then some (.goto 4, 92, 93, 0) else none)) else (bif Nat.ble pc 93 then (bif Nat.beq pc 92 then some (.iconst 0, 93, 0, 0) else bif Nat.beq pc 93 then some (.istore 4, 95, 0, 0) else none) else (bif Nat.beq pc 95 then some (.iload 4, 97, 0, 0) else bif Nat.beq pc 97 then some (.ifCond .eq 9, 100, 106, 0) else bif Nat.beq pc 100 then some (.iload_n 2, 101, 0, 0) else none))) else (bif Nat.ble pc 106 then (bif Nat.ble pc 102 then (bif Nat.beq pc 101 then some (.iconst 1, 102, 0, 0) else bif Nat.beq pc 102 then some (.iadd, 103, 0, 0) else none) else (bif Nat.beq pc 103 then some (.goto 4, 106, 107, 0) else bif Nat.beq pc 106 then some (.iload_n 2, 107, 0, 0) else none)) else (bif Nat.ble pc 108 then (bif Nat.beq pc 107 then some (.istore_n 2, 108, 0, 0) else bif Nat.beq pc 108 then some (.iinc 3 1, 111, 0, 0) else none) else (bif Nat.beq pc 111 then some (.goto (-82), 114, 29, 0) else bif Nat.beq pc 114 then some (.iload_n 2, 115, 0, 0) else bif Nat.beq pc 115 then some (.ireturn, 116, 0, 0) else none))))))
set_option maxRecDepth 100000 in
set_option maxHeartbeats 4000000 in
theorem ok_M_count : am_CD m_M_count cd_M_count := am_CD_of 116 fl_M_ok cn_M_ok kl_M_ok pl_M_ok (by intro pc h; unfold cd_M_count; rw [Nat.ble_eq_true_of_le h]; rfl) (by decide +kernel)
def cd_M_countNames (pc : Nat) : Option am_I := bif Nat.ble 38 pc then none else (bif Nat.ble pc 17 then (bif Nat.ble pc 5 then (bif Nat.ble pc 2 then (bif Nat.beq pc 0 then some (.iconst 0, 1, 0, 0) else bif Nat.beq pc 1 then some (.istore_n 2, 2, 0, 0) else bif Nat.beq pc 2 then some (.iconst 0, 3, 0, 0) else none) else (bif Nat.beq pc 3 then some (.istore_n 3, 4, 0, 0) else bif Nat.beq pc 4 then some (.iload_n 3, 5, 0, 0) else bif Nat.beq pc 5 then some (.aload_n 0, 6, 0, 0) else none)) else (bif Nat.ble pc 12 then (bif Nat.beq pc 6 then some (.getfield 173, 9, 10, 8) else bif Nat.beq pc 9 then some (.if_icmp .ge 27, 12, 36, 0) else bif Nat.beq pc 12 then some (.aload_n 0, 13, 0, 0) else none) else (bif Nat.beq pc 13 then some (.getfield 27, 16, 10, 10) else bif Nat.beq pc 16 then some (.iload_n 3, 17, 0, 0) else bif Nat.beq pc 17 then some (.iaload, 18, 0, 0) else none))) else (bif Nat.ble pc 25 then (bif Nat.ble pc 22 then (bif Nat.beq pc 18 then some (.iload_n 1, 19, 0, 0) else bif Nat.beq pc 19 then some (.if_icmp .ne 9, 22, 28, 0) else bif Nat.beq pc 22 then some (.iload_n 2, 23, 0, 0) else none) else (bif Nat.beq pc 23 then some (.iconst 1, 24, 0, 0) else bif Nat.beq pc 24 then some (.iadd, 25, 0, 0) else bif Nat.beq pc 25 then some (.goto 4, 28, 29, 0) else none)) else (bif Nat.ble pc 30 then (bif Nat.beq pc 28 then some (.iload_n 2, 29, 0, 0) else bif Nat.beq pc 29 then some (.istore_n 2, 30, 0, 0) else bif Nat.beq pc 30 then some (.iinc 3 1, 33, 0, 0) else none) else (bif Nat.beq pc 33 then some (.goto (-29), 36, 4, 0) else bif Nat.beq pc 36 then some (.iload_n 2, 37, 0, 0) else bif Nat.beq pc 37 then some (.ireturn, 38, 0, 0) else none))))
set_option maxRecDepth 100000 in
set_option maxHeartbeats 4000000 in
theorem ok_M_countNames : am_CD m_M_countNames cd_M_countNames := am_CD_of 38 fl_M_ok cn_M_ok kl_M_ok pl_M_ok (by intro pc h; unfold cd_M_countNames; rw [Nat.ble_eq_true_of_le h]; rfl) (by decide +kernel)
def cd_M_label (pc : Nat) : Option am_I := bif Nat.ble 31 pc then none else (bif Nat.ble pc 13 then (bif Nat.ble pc 5 then (bif Nat.ble pc 1 then (bif Nat.beq pc 0 then some (.aload_n 0, 1, 0, 0) else bif Nat.beq pc 1 then some (.iload_n 1, 2, 0, 0) else none) else (bif Nat.beq pc 2 then some (.invokevirtual 365, 5, 0, 0) else bif Nat.beq pc 5 then some (.ifCond .eq 22, 8, 27, 0) else none)) else (bif Nat.ble pc 9 then (bif Nat.beq pc 8 then some (.aload_n 0, 9, 0, 0) else bif Nat.beq pc 9 then some (.getfield 23, 12, 10, 9) else none) else (bif Nat.beq pc 12 then some (.aload_n 0, 13, 0, 0) else bif Nat.beq pc 13 then some (.getfield 43, 16, 10, 17) else none))) else (bif Nat.ble pc 21 then (bif Nat.ble pc 17 then (bif Nat.beq pc 16 then some (.aload_n 0, 17, 0, 0) else bif Nat.beq pc 17 then some (.getfield 70, 20, 10, 28) else none) else (bif Nat.beq pc 20 then some (.iload_n 1, 21, 0, 0) else bif Nat.beq pc 21 then some (.iaload, 22, 0, 0) else none)) else (bif Nat.ble pc 23 then (bif Nat.beq pc 22 then some (.iaload, 23, 0, 0) else bif Nat.beq pc 23 then some (.laload, 24, 0, 0) else none) else (bif Nat.beq pc 24 then some (.goto 6, 27, 30, 0) else bif Nat.beq pc 27 then some (.ldc2_w 368, 30, 18446744073709551615, 0) else bif Nat.beq pc 30 then some (.lreturn, 31, 0, 0) else none))))
set_option maxRecDepth 100000 in
set_option maxHeartbeats 4000000 in
theorem ok_M_label : am_CD m_M_label cd_M_label := am_CD_of 31 fl_M_ok cn_M_ok kl_M_ok pl_M_ok (by intro pc h; unfold cd_M_label; rw [Nat.ble_eq_true_of_le h]; rfl) (by decide +kernel)
def cd_M_isAssertion (pc : Nat) : Option am_I := bif Nat.ble 18 pc then none else (bif Nat.ble pc 6 then (bif Nat.ble pc 1 then (bif Nat.beq pc 0 then some (.iload_n 1, 1, 0, 0) else bif Nat.beq pc 1 then some (.ifCond .lt 15, 4, 16, 0) else none) else (bif Nat.beq pc 4 then some (.iload_n 1, 5, 0, 0) else bif Nat.beq pc 5 then some (.aload_n 0, 6, 0, 0) else bif Nat.beq pc 6 then some (.getfield 226, 9, 10, 27) else none)) else (bif Nat.ble pc 12 then (bif Nat.beq pc 9 then some (.if_icmp .ge 7, 12, 16, 0) else bif Nat.beq pc 12 then some (.iconst 1, 13, 0, 0) else none) else (bif Nat.beq pc 13 then some (.goto 4, 16, 17, 0) else bif Nat.beq pc 16 then some (.iconst 0, 17, 0, 0) else bif Nat.beq pc 17 then some (.ireturn, 18, 0, 0) else none)))
set_option maxRecDepth 100000 in
set_option maxHeartbeats 4000000 in
theorem ok_M_isAssertion : am_CD m_M_isAssertion cd_M_isAssertion := am_CD_of 18 fl_M_ok cn_M_ok kl_M_ok pl_M_ok (by intro pc h; unfold cd_M_isAssertion; rw [Nat.ble_eq_true_of_le h]; rfl) (by decide +kernel)
def cd_M_symbol (pc : Nat) : Option am_I := bif Nat.ble 53 pc then none else (bif Nat.ble pc 27 then (bif Nat.ble pc 13 then (bif Nat.ble pc 5 then (bif Nat.ble pc 1 then (bif Nat.beq pc 0 then some (.aload_n 0, 1, 0, 0) else bif Nat.beq pc 1 then some (.iload_n 1, 2, 0, 0) else none) else (bif Nat.beq pc 2 then some (.invokevirtual 365, 5, 0, 0) else bif Nat.beq pc 5 then some (.ifCond .eq 22, 8, 27, 0) else none)) else (bif Nat.ble pc 9 then (bif Nat.beq pc 8 then some (.iload_n 2, 9, 0, 0) else bif Nat.beq pc 9 then some (.ifCond .lt 18, 12, 27, 0) else none) else (bif Nat.beq pc 12 then some (.iload_n 2, 13, 0, 0) else bif Nat.beq pc 13 then some (.aload_n 0, 14, 0, 0) else none))) else (bif Nat.ble pc 21 then (bif Nat.ble pc 17 then (bif Nat.beq pc 14 then some (.getfield 49, 17, 10, 19) else bif Nat.beq pc 17 then some (.aload_n 0, 18, 0, 0) else none) else (bif Nat.beq pc 18 then some (.getfield 70, 21, 10, 28) else bif Nat.beq pc 21 then some (.iload_n 1, 22, 0, 0) else none)) else (bif Nat.ble pc 23 then (bif Nat.beq pc 22 then some (.iaload, 23, 0, 0) else bif Nat.beq pc 23 then some (.iaload, 24, 0, 0) else none) else (bif Nat.beq pc 24 then some (.if_icmp .lt 7, 27, 31, 0) else bif Nat.beq pc 27 then some (.ldc2_w 368, 30, 18446744073709551615, 0) else none)))) else (bif Nat.ble pc 42 then (bif Nat.ble pc 35 then (bif Nat.ble pc 31 then (bif Nat.beq pc 30 then some (.lreturn, 31, 0, 0) else bif Nat.beq pc 31 then some (.aload_n 0, 32, 0, 0) else none) else (bif Nat.beq pc 32 then some (.getfield 23, 35, 10, 9) else bif Nat.beq pc 35 then some (.aload_n 0, 36, 0, 0) else none)) else (bif Nat.ble pc 39 then (bif Nat.beq pc 36 then some (.getfield 46, 39, 10, 18) else bif Nat.beq pc 39 then some (.bipush 24, 41, 0, 0) else none) else (bif Nat.beq pc 41 then some (.aload_n 0, 42, 0, 0) else bif Nat.beq pc 42 then some (.getfield 70, 45, 10, 28) else none))) else (bif Nat.ble pc 48 then (bif Nat.ble pc 46 then (bif Nat.beq pc 45 then some (.iload_n 1, 46, 0, 0) else bif Nat.beq pc 46 then some (.iaload, 47, 0, 0) else none) else (bif Nat.beq pc 47 then some (.imul, 48, 0, 0) else bif Nat.beq pc 48 then some (.iload_n 2, 49, 0, 0) else none)) else (bif Nat.ble pc 50 then (bif Nat.beq pc 49 then some (.iadd, 50, 0, 0) else bif Nat.beq pc 50 then some (.iaload, 51, 0, 0) else none) else (bif Nat.beq pc 51 then some (.laload, 52, 0, 0) else bif Nat.beq pc 52 then some (.lreturn, 53, 0, 0) else none)))))
set_option maxRecDepth 100000 in
set_option maxHeartbeats 4000000 in
theorem ok_M_symbol : am_CD m_M_symbol cd_M_symbol := am_CD_of 53 fl_M_ok cn_M_ok kl_M_ok pl_M_ok (by intro pc h; unfold cd_M_symbol; rw [Nat.ble_eq_true_of_le h]; rfl) (by decide +kernel)
def cd_M_hypothesis (pc : Nat) : Option am_I := bif Nat.ble 48 pc then none else (bif Nat.ble pc 25 then (bif Nat.ble pc 12 then (bif Nat.ble pc 2 then (bif Nat.beq pc 0 then some (.aload_n 0, 1, 0, 0) else bif Nat.beq pc 1 then some (.iload_n 1, 2, 0, 0) else bif Nat.beq pc 2 then some (.invokevirtual 365, 5, 0, 0) else none) else (bif Nat.ble pc 8 then (bif Nat.beq pc 5 then some (.ifCond .eq 17, 8, 22, 0) else bif Nat.beq pc 8 then some (.iload_n 2, 9, 0, 0) else none) else (bif Nat.beq pc 9 then some (.ifCond .lt 13, 12, 22, 0) else bif Nat.beq pc 12 then some (.iload_n 2, 13, 0, 0) else none))) else (bif Nat.ble pc 17 then (bif Nat.beq pc 13 then some (.aload_n 0, 14, 0, 0) else bif Nat.beq pc 14 then some (.getfield 76, 17, 10, 30) else bif Nat.beq pc 17 then some (.iload_n 1, 18, 0, 0) else none) else (bif Nat.ble pc 19 then (bif Nat.beq pc 18 then some (.iaload, 19, 0, 0) else bif Nat.beq pc 19 then some (.if_icmp .lt 7, 22, 26, 0) else none) else (bif Nat.beq pc 22 then some (.ldc2_w 368, 25, 18446744073709551615, 0) else bif Nat.beq pc 25 then some (.lreturn, 26, 0, 0) else none)))) else (bif Nat.ble pc 38 then (bif Nat.ble pc 30 then (bif Nat.beq pc 26 then some (.aload_n 0, 27, 0, 0) else bif Nat.beq pc 27 then some (.getfield 23, 30, 10, 9) else bif Nat.beq pc 30 then some (.aload_n 0, 31, 0, 0) else none) else (bif Nat.ble pc 34 then (bif Nat.beq pc 31 then some (.getfield 43, 34, 10, 17) else bif Nat.beq pc 34 then some (.aload_n 0, 35, 0, 0) else none) else (bif Nat.beq pc 35 then some (.getfield 73, 38, 10, 29) else bif Nat.beq pc 38 then some (.bipush 40, 40, 0, 0) else none))) else (bif Nat.ble pc 43 then (bif Nat.ble pc 41 then (bif Nat.beq pc 40 then some (.iload_n 1, 41, 0, 0) else bif Nat.beq pc 41 then some (.imul, 42, 0, 0) else none) else (bif Nat.beq pc 42 then some (.iload_n 2, 43, 0, 0) else bif Nat.beq pc 43 then some (.iadd, 44, 0, 0) else none)) else (bif Nat.ble pc 45 then (bif Nat.beq pc 44 then some (.iaload, 45, 0, 0) else bif Nat.beq pc 45 then some (.iaload, 46, 0, 0) else none) else (bif Nat.beq pc 46 then some (.laload, 47, 0, 0) else bif Nat.beq pc 47 then some (.lreturn, 48, 0, 0) else none)))))
set_option maxRecDepth 100000 in
set_option maxHeartbeats 4000000 in
theorem ok_M_hypothesis : am_CD m_M_hypothesis cd_M_hypothesis := am_CD_of 48 fl_M_ok cn_M_ok kl_M_ok pl_M_ok (by intro pc h; unfold cd_M_hypothesis; rw [Nat.ble_eq_true_of_le h]; rfl) (by decide +kernel)
def cd_M_pairs (pc : Nat) : Option am_I := bif Nat.ble 19 pc then none else (bif Nat.ble pc 8 then (bif Nat.ble pc 1 then (bif Nat.beq pc 0 then some (.aload_n 0, 1, 0, 0) else bif Nat.beq pc 1 then some (.iload_n 1, 2, 0, 0) else none) else (bif Nat.beq pc 2 then some (.invokevirtual 365, 5, 0, 0) else bif Nat.beq pc 5 then some (.ifCond .eq 12, 8, 17, 0) else bif Nat.beq pc 8 then some (.aload_n 0, 9, 0, 0) else none)) else (bif Nat.ble pc 13 then (bif Nat.beq pc 9 then some (.getfield 85, 12, 10, 33) else bif Nat.beq pc 12 then some (.iload_n 1, 13, 0, 0) else bif Nat.beq pc 13 then some (.iaload, 14, 0, 0) else none) else (bif Nat.beq pc 14 then some (.goto 4, 17, 18, 0) else bif Nat.beq pc 17 then some (.iconst (-1), 18, 0, 0) else bif Nat.beq pc 18 then some (.ireturn, 19, 0, 0) else none)))
set_option maxRecDepth 100000 in
set_option maxHeartbeats 4000000 in
theorem ok_M_pairs : am_CD m_M_pairs cd_M_pairs := am_CD_of 19 fl_M_ok cn_M_ok kl_M_ok pl_M_ok (by intro pc h; unfold cd_M_pairs; rw [Nat.ble_eq_true_of_le h]; rfl) (by decide +kernel)
def cd_M_apart (pc : Nat) : Option am_I := bif Nat.ble 51 pc then none else (bif Nat.ble pc 23 then (bif Nat.ble pc 8 then (bif Nat.ble pc 2 then (bif Nat.beq pc 0 then some (.aload_n 0, 1, 0, 0) else bif Nat.beq pc 1 then some (.lload_n 2, 2, 0, 0) else bif Nat.beq pc 2 then some (.invokevirtual 180, 5, 0, 0) else none) else (bif Nat.beq pc 5 then some (.istore 6, 7, 0, 0) else bif Nat.beq pc 7 then some (.aload_n 0, 8, 0, 0) else bif Nat.beq pc 8 then some (.lload 4, 10, 0, 0) else none)) else (bif Nat.ble pc 15 then (bif Nat.beq pc 10 then some (.invokevirtual 180, 13, 0, 0) else bif Nat.beq pc 13 then some (.istore 7, 15, 0, 0) else bif Nat.beq pc 15 then some (.aload_n 0, 16, 0, 0) else none) else (bif Nat.ble pc 17 then (bif Nat.beq pc 16 then some (.iload_n 1, 17, 0, 0) else bif Nat.beq pc 17 then some (.invokevirtual 365, 20, 0, 0) else none) else (bif Nat.beq pc 20 then some (.ifCond .eq 29, 23, 49, 0) else bif Nat.beq pc 23 then some (.iload 6, 25, 0, 0) else none)))) else (bif Nat.ble pc 35 then (bif Nat.ble pc 30 then (bif Nat.beq pc 25 then some (.ifCond .lt 24, 28, 49, 0) else bif Nat.beq pc 28 then some (.iload 7, 30, 0, 0) else bif Nat.beq pc 30 then some (.ifCond .lt 19, 33, 49, 0) else none) else (bif Nat.beq pc 33 then some (.aload_n 0, 34, 0, 0) else bif Nat.beq pc 34 then some (.iload_n 1, 35, 0, 0) else bif Nat.beq pc 35 then some (.iload 6, 37, 0, 0) else none)) else (bif Nat.ble pc 42 then (bif Nat.beq pc 37 then some (.iload 7, 39, 0, 0) else bif Nat.beq pc 39 then some (.invokevirtual 233, 42, 0, 0) else bif Nat.beq pc 42 then some (.ifCond .eq 7, 45, 49, 0) else none) else (bif Nat.ble pc 46 then (bif Nat.beq pc 45 then some (.iconst 1, 46, 0, 0) else bif Nat.beq pc 46 then some (.goto 4, 49, 50, 0) else none) else (bif Nat.beq pc 49 then some (.iconst 0, 50, 0, 0) else bif Nat.beq pc 50 then some (.ireturn, 51, 0, 0) else none)))))
set_option maxRecDepth 100000 in
set_option maxHeartbeats 4000000 in
theorem ok_M_apart : am_CD m_M_apart cd_M_apart := am_CD_of 51 fl_M_ok cn_M_ok kl_M_ok pl_M_ok (by intro pc h; unfold cd_M_apart; rw [Nat.ble_eq_true_of_le h]; rfl) (by decide +kernel)
def cd_M_steps (pc : Nat) : Option am_I := bif Nat.ble 19 pc then none else (bif Nat.ble pc 8 then (bif Nat.ble pc 1 then (bif Nat.beq pc 0 then some (.aload_n 0, 1, 0, 0) else bif Nat.beq pc 1 then some (.iload_n 1, 2, 0, 0) else none) else (bif Nat.beq pc 2 then some (.invokevirtual 365, 5, 0, 0) else bif Nat.beq pc 5 then some (.ifCond .eq 12, 8, 17, 0) else bif Nat.beq pc 8 then some (.aload_n 0, 9, 0, 0) else none)) else (bif Nat.ble pc 13 then (bif Nat.beq pc 9 then some (.getfield 88, 12, 10, 34) else bif Nat.beq pc 12 then some (.iload_n 1, 13, 0, 0) else bif Nat.beq pc 13 then some (.iaload, 14, 0, 0) else none) else (bif Nat.beq pc 14 then some (.goto 4, 17, 18, 0) else bif Nat.beq pc 17 then some (.iconst (-1), 18, 0, 0) else bif Nat.beq pc 18 then some (.ireturn, 19, 0, 0) else none)))
set_option maxRecDepth 100000 in
set_option maxHeartbeats 4000000 in
theorem ok_M_steps : am_CD m_M_steps cd_M_steps := am_CD_of 19 fl_M_ok cn_M_ok kl_M_ok pl_M_ok (by intro pc h; unfold cd_M_steps; rw [Nat.ble_eq_true_of_le h]; rfl) (by decide +kernel)
def cd_M_depth (pc : Nat) : Option am_I := bif Nat.ble 19 pc then none else (bif Nat.ble pc 8 then (bif Nat.ble pc 1 then (bif Nat.beq pc 0 then some (.aload_n 0, 1, 0, 0) else bif Nat.beq pc 1 then some (.iload_n 1, 2, 0, 0) else none) else (bif Nat.beq pc 2 then some (.invokevirtual 365, 5, 0, 0) else bif Nat.beq pc 5 then some (.ifCond .eq 12, 8, 17, 0) else bif Nat.beq pc 8 then some (.aload_n 0, 9, 0, 0) else none)) else (bif Nat.ble pc 13 then (bif Nat.beq pc 9 then some (.getfield 91, 12, 10, 35) else bif Nat.beq pc 12 then some (.iload_n 1, 13, 0, 0) else bif Nat.beq pc 13 then some (.iaload, 14, 0, 0) else none) else (bif Nat.beq pc 14 then some (.goto 4, 17, 18, 0) else bif Nat.beq pc 17 then some (.iconst (-1), 18, 0, 0) else bif Nat.beq pc 18 then some (.ireturn, 19, 0, 0) else none)))
set_option maxRecDepth 100000 in
set_option maxHeartbeats 4000000 in
theorem ok_M_depth : am_CD m_M_depth cd_M_depth := am_CD_of 19 fl_M_ok cn_M_ok kl_M_ok pl_M_ok (by intro pc h; unfold cd_M_depth; rw [Nat.ble_eq_true_of_le h]; rfl) (by decide +kernel)
def cd_M_uses (pc : Nat) : Option am_I := bif Nat.ble 36 pc then none else (bif Nat.ble pc 17 then (bif Nat.ble pc 8 then (bif Nat.ble pc 1 then (bif Nat.beq pc 0 then some (.aload_n 0, 1, 0, 0) else bif Nat.beq pc 1 then some (.iload_n 1, 2, 0, 0) else none) else (bif Nat.beq pc 2 then some (.invokevirtual 365, 5, 0, 0) else bif Nat.beq pc 5 then some (.ifCond .ne 7, 8, 12, 0) else bif Nat.beq pc 8 then some (.iconst (-1), 9, 0, 0) else none)) else (bif Nat.ble pc 12 then (bif Nat.beq pc 9 then some (.goto 26, 12, 35, 0) else bif Nat.beq pc 12 then some (.aload_n 0, 13, 0, 0) else none) else (bif Nat.beq pc 13 then some (.iload_n 2, 14, 0, 0) else bif Nat.beq pc 14 then some (.invokevirtual 365, 17, 0, 0) else bif Nat.beq pc 17 then some (.ifCond .eq 17, 20, 34, 0) else none))) else (bif Nat.ble pc 27 then (bif Nat.ble pc 21 then (bif Nat.beq pc 20 then some (.aload_n 0, 21, 0, 0) else bif Nat.beq pc 21 then some (.getfield 94, 24, 10, 36) else none) else (bif Nat.beq pc 24 then some (.bipush 40, 26, 0, 0) else bif Nat.beq pc 26 then some (.iload_n 1, 27, 0, 0) else bif Nat.beq pc 27 then some (.imul, 28, 0, 0) else none)) else (bif Nat.ble pc 30 then (bif Nat.beq pc 28 then some (.iload_n 2, 29, 0, 0) else bif Nat.beq pc 29 then some (.iadd, 30, 0, 0) else bif Nat.beq pc 30 then some (.iaload, 31, 0, 0) else none) else (bif Nat.beq pc 31 then some (.goto 4, 34, 35, 0) else bif Nat.beq pc 34 then some (.iconst 0, 35, 0, 0) else bif Nat.beq pc 35 then some (.ireturn, 36, 0, 0) else none))))
set_option maxRecDepth 100000 in
set_option maxHeartbeats 4000000 in
theorem ok_M_uses : am_CD m_M_uses cd_M_uses := am_CD_of 36 fl_M_ok cn_M_ok kl_M_ok pl_M_ok (by intro pc h; unfold cd_M_uses; rw [Nat.ble_eq_true_of_le h]; rfl) (by decide +kernel)
def cd_M_proved (pc : Nat) : Option am_I := bif Nat.ble 23 pc then none else (bif Nat.ble pc 9 then (bif Nat.ble pc 2 then (bif Nat.beq pc 0 then some (.aload_n 0, 1, 0, 0) else bif Nat.beq pc 1 then some (.iload_n 1, 2, 0, 0) else bif Nat.beq pc 2 then some (.invokevirtual 365, 5, 0, 0) else none) else (bif Nat.beq pc 5 then some (.ifCond .eq 16, 8, 21, 0) else bif Nat.beq pc 8 then some (.aload_n 0, 9, 0, 0) else bif Nat.beq pc 9 then some (.getfield 100, 12, 10, 38) else none)) else (bif Nat.ble pc 14 then (bif Nat.beq pc 12 then some (.iload_n 1, 13, 0, 0) else bif Nat.beq pc 13 then some (.baload, 14, 0, 0) else bif Nat.beq pc 14 then some (.ifCond .eq 7, 17, 21, 0) else none) else (bif Nat.ble pc 18 then (bif Nat.beq pc 17 then some (.iconst 1, 18, 0, 0) else bif Nat.beq pc 18 then some (.goto 4, 21, 22, 0) else none) else (bif Nat.beq pc 21 then some (.iconst 0, 22, 0, 0) else bif Nat.beq pc 22 then some (.ireturn, 23, 0, 0) else none))))
set_option maxRecDepth 100000 in
set_option maxHeartbeats 4000000 in
theorem ok_M_proved : am_CD m_M_proved cd_M_proved := am_CD_of 23 fl_M_ok cn_M_ok kl_M_ok pl_M_ok (by intro pc h; unfold cd_M_proved; rw [Nat.ble_eq_true_of_le h]; rfl) (by decide +kernel)
end
section
def cd_law (pc : Nat) : Option am_I := bif Nat.ble 557 pc then none else (bif Nat.ble pc 319 then (bif Nat.ble pc 201 then (bif Nat.ble pc 130 then (bif Nat.ble pc 104 then (bif Nat.ble pc 18 then (bif Nat.ble pc 8 then (bif Nat.ble pc 3 then (bif Nat.beq pc 0 then some (.new 7, 3, 0, 0) else bif Nat.beq pc 3 then some (.dup, 4, 0, 0) else none) else (bif Nat.beq pc 4 then some (.invokespecial 9, 7, 0, 0) else bif Nat.beq pc 7 then some (.astore_n 1, 8, 0, 0) else bif Nat.beq pc 8 then some (.new 10, 11, 10, 0) else none)) else (bif Nat.ble pc 15 then (bif Nat.beq pc 11 then some (.dup, 12, 0, 0) else bif Nat.beq pc 12 then some (.invokespecial 12, 15, 0, 0) else bif Nat.beq pc 15 then some (.astore_n 2, 16, 0, 0) else none) else (bif Nat.beq pc 16 then some (.iconst 0, 17, 0, 0) else bif Nat.beq pc 17 then some (.istore_n 3, 18, 0, 0) else bif Nat.beq pc 18 then some (.iload_n 3, 19, 0, 0) else none))) else (bif Nat.ble pc 27 then (bif Nat.ble pc 21 then (bif Nat.beq pc 19 then some (.aload_n 0, 20, 0, 0) else bif Nat.beq pc 20 then some (.arraylength, 21, 0, 0) else bif Nat.beq pc 21 then some (.bipush 6, 23, 0, 0) else none) else (bif Nat.beq pc 23 then some (.isub, 24, 0, 0) else bif Nat.beq pc 24 then some (.if_icmp .gt 531, 27, 555, 0) else bif Nat.beq pc 27 then some (.aload_n 0, 28, 0, 0) else none)) else (bif Nat.ble pc 30 then (bif Nat.beq pc 28 then some (.iload_n 3, 29, 0, 0) else bif Nat.beq pc 29 then some (.iaload, 30, 0, 0) else bif Nat.beq pc 30 then some (.bipush 15, 32, 0, 0) else none) else (bif Nat.beq pc 32 then some (.iand, 33, 0, 0) else bif Nat.beq pc 33 then some (.tableswitch 516 0 13 #[71, 134, 147, 160, 173, 196, 220, 254, 288, 311, 414, 437, 460, 493], 104, 0, 0) else bif Nat.beq pc 104 then some (.aload_n 1, 105, 0, 0) else none)))) else (bif Nat.ble pc 116 then (bif Nat.ble pc 109 then (bif Nat.ble pc 106 then (bif Nat.beq pc 105 then some (.aload_n 0, 106, 0, 0) else bif Nat.beq pc 106 then some (.iload_n 3, 107, 0, 0) else none) else (bif Nat.beq pc 107 then some (.iconst 1, 108, 0, 0) else bif Nat.beq pc 108 then some (.iadd, 109, 0, 0) else bif Nat.beq pc 109 then some (.iaload, 110, 0, 0) else none)) else (bif Nat.ble pc 113 then (bif Nat.beq pc 110 then some (.i2l, 111, 0, 0) else bif Nat.beq pc 111 then some (.bipush 32, 113, 0, 0) else bif Nat.beq pc 113 then some (.lshl, 114, 0, 0) else none) else (bif Nat.beq pc 114 then some (.aload_n 0, 115, 0, 0) else bif Nat.beq pc 115 then some (.iload_n 3, 116, 0, 0) else bif Nat.beq pc 116 then some (.iconst 2, 117, 0, 0) else none))) else (bif Nat.ble pc 124 then (bif Nat.ble pc 119 then (bif Nat.beq pc 117 then some (.iadd, 118, 0, 0) else bif Nat.beq pc 118 then some (.iaload, 119, 0, 0) else bif Nat.beq pc 119 then some (.i2l, 120, 0, 0) else none) else (bif Nat.beq pc 120 then some (.ldc2_w 13, 123, 4294967295, 0) else bif Nat.beq pc 123 then some (.land, 124, 0, 0) else bif Nat.beq pc 124 then some (.lor, 125, 0, 0) else none)) else (bif Nat.ble pc 127 then (bif Nat.beq pc 125 then some (.aload_n 0, 126, 0, 0) else bif Nat.beq pc 126 then some (.iload_n 3, 127, 0, 0) else bif Nat.beq pc 127 then some (.iconst 3, 128, 0, 0) else none) else (bif Nat.beq pc 128 then some (.iadd, 129, 0, 0) else bif Nat.beq pc 129 then some (.iaload, 130, 0, 0) else bif Nat.beq pc 130 then some (.invokevirtual 15, 133, 0, 0) else none))))) else (bif Nat.ble pc 158 then (bif Nat.ble pc 144 then (bif Nat.ble pc 137 then (bif Nat.ble pc 134 then (bif Nat.beq pc 133 then some (.aload_n 2, 134, 0, 0) else bif Nat.beq pc 134 then some (.aload_n 0, 135, 0, 0) else none) else (bif Nat.beq pc 135 then some (.iload_n 3, 136, 0, 0) else bif Nat.beq pc 136 then some (.iconst 1, 137, 0, 0) else bif Nat.beq pc 137 then some (.iadd, 138, 0, 0) else none)) else (bif Nat.ble pc 140 then (bif Nat.beq pc 138 then some (.iaload, 139, 0, 0) else bif Nat.beq pc 139 then some (.i2l, 140, 0, 0) else bif Nat.beq pc 140 then some (.bipush 32, 142, 0, 0) else none) else (bif Nat.beq pc 142 then some (.lshl, 143, 0, 0) else bif Nat.beq pc 143 then some (.aload_n 0, 144, 0, 0) else bif Nat.beq pc 144 then some (.iload_n 3, 145, 0, 0) else none))) else (bif Nat.ble pc 152 then (bif Nat.ble pc 147 then (bif Nat.beq pc 145 then some (.iconst 2, 146, 0, 0) else bif Nat.beq pc 146 then some (.iadd, 147, 0, 0) else bif Nat.beq pc 147 then some (.iaload, 148, 0, 0) else none) else (bif Nat.beq pc 148 then some (.i2l, 149, 0, 0) else bif Nat.beq pc 149 then some (.ldc2_w 13, 152, 4294967295, 0) else bif Nat.beq pc 152 then some (.land, 153, 0, 0) else none)) else (bif Nat.ble pc 155 then (bif Nat.beq pc 153 then some (.lor, 154, 0, 0) else bif Nat.beq pc 154 then some (.aload_n 0, 155, 0, 0) else bif Nat.beq pc 155 then some (.iload_n 3, 156, 0, 0) else none) else (bif Nat.beq pc 156 then some (.iconst 3, 157, 0, 0) else bif Nat.beq pc 157 then some (.iadd, 158, 0, 0) else bif Nat.beq pc 158 then some (.iaload, 159, 0, 0) else none)))) else (bif Nat.ble pc 179 then (bif Nat.ble pc 167 then (bif Nat.ble pc 162 then (bif Nat.beq pc 159 then some (.invokevirtual 19, 162, 0, 0) else bif Nat.beq pc 162 then some (.if_icmp .eq 387, 165, 549, 0) else none) else (bif Nat.beq pc 165 then some (.iconst 0, 166, 0, 0) else bif Nat.beq pc 166 then some (.ireturn, 167, 0, 0) else bif Nat.beq pc 167 then some (.aload_n 1, 168, 0, 0) else none)) else (bif Nat.ble pc 172 then (bif Nat.beq pc 168 then some (.invokevirtual 20, 171, 0, 0) else bif Nat.beq pc 171 then some (.aload_n 2, 172, 0, 0) else bif Nat.beq pc 172 then some (.invokevirtual 24, 175, 0, 0) else none) else (bif Nat.beq pc 175 then some (.if_icmp .eq 374, 178, 549, 0) else bif Nat.beq pc 178 then some (.iconst 0, 179, 0, 0) else bif Nat.beq pc 179 then some (.ireturn, 180, 0, 0) else none))) else (bif Nat.ble pc 191 then (bif Nat.ble pc 184 then (bif Nat.beq pc 180 then some (.aload_n 1, 181, 0, 0) else bif Nat.beq pc 181 then some (.invokevirtual 25, 184, 0, 0) else bif Nat.beq pc 184 then some (.aload_n 2, 185, 0, 0) else none) else (bif Nat.beq pc 185 then some (.invokevirtual 28, 188, 0, 0) else bif Nat.beq pc 188 then some (.if_icmp .eq 361, 191, 549, 0) else bif Nat.beq pc 191 then some (.iconst 0, 192, 0, 0) else none)) else (bif Nat.ble pc 194 then (bif Nat.beq pc 192 then some (.ireturn, 193, 0, 0) else bif Nat.beq pc 193 then some (.aload_n 1, 194, 0, 0) else bif Nat.beq pc 194 then some (.invokevirtual 29, 197, 0, 0) else none) else (bif Nat.beq pc 197 then some (.aload_n 2, 198, 0, 0) else bif Nat.beq pc 198 then some (.invokevirtual 32, 201, 0, 0) else bif Nat.beq pc 201 then some (.if_icmp .eq 348, 204, 549, 0) else none)))))) else (bif Nat.ble pc 261 then (bif Nat.ble pc 232 then (bif Nat.ble pc 216 then (bif Nat.ble pc 208 then (bif Nat.ble pc 205 then (bif Nat.beq pc 204 then some (.iconst 0, 205, 0, 0) else bif Nat.beq pc 205 then some (.ireturn, 206, 0, 0) else none) else (bif Nat.beq pc 206 then some (.aload_n 1, 207, 0, 0) else bif Nat.beq pc 207 then some (.aload_n 0, 208, 0, 0) else bif Nat.beq pc 208 then some (.iload_n 3, 209, 0, 0) else none)) else (bif Nat.ble pc 211 then (bif Nat.beq pc 209 then some (.iconst 1, 210, 0, 0) else bif Nat.beq pc 210 then some (.iadd, 211, 0, 0) else bif Nat.beq pc 211 then some (.iaload, 212, 0, 0) else none) else (bif Nat.beq pc 212 then some (.invokevirtual 33, 215, 0, 0) else bif Nat.beq pc 215 then some (.aload_n 2, 216, 0, 0) else bif Nat.beq pc 216 then some (.aload_n 0, 217, 0, 0) else none))) else (bif Nat.ble pc 224 then (bif Nat.ble pc 219 then (bif Nat.beq pc 217 then some (.iload_n 3, 218, 0, 0) else bif Nat.beq pc 218 then some (.iconst 1, 219, 0, 0) else bif Nat.beq pc 219 then some (.iadd, 220, 0, 0) else none) else (bif Nat.beq pc 220 then some (.iaload, 221, 0, 0) else bif Nat.beq pc 221 then some (.invokevirtual 37, 224, 0, 0) else bif Nat.beq pc 224 then some (.if_icmp .eq 325, 227, 549, 0) else none)) else (bif Nat.ble pc 229 then (bif Nat.beq pc 227 then some (.iconst 0, 228, 0, 0) else bif Nat.beq pc 228 then some (.ireturn, 229, 0, 0) else bif Nat.beq pc 229 then some (.aload_n 1, 230, 0, 0) else none) else (bif Nat.beq pc 230 then some (.aload_n 0, 231, 0, 0) else bif Nat.beq pc 231 then some (.iload_n 3, 232, 0, 0) else bif Nat.beq pc 232 then some (.iconst 1, 233, 0, 0) else none)))) else (bif Nat.ble pc 247 then (bif Nat.ble pc 239 then (bif Nat.ble pc 234 then (bif Nat.beq pc 233 then some (.iadd, 234, 0, 0) else bif Nat.beq pc 234 then some (.iaload, 235, 0, 0) else none) else (bif Nat.beq pc 235 then some (.invokevirtual 38, 238, 0, 0) else bif Nat.beq pc 238 then some (.aload_n 2, 239, 0, 0) else bif Nat.beq pc 239 then some (.aload_n 0, 240, 0, 0) else none)) else (bif Nat.ble pc 242 then (bif Nat.beq pc 240 then some (.iload_n 3, 241, 0, 0) else bif Nat.beq pc 241 then some (.iconst 1, 242, 0, 0) else bif Nat.beq pc 242 then some (.iadd, 243, 0, 0) else none) else (bif Nat.beq pc 243 then some (.iaload, 244, 0, 0) else bif Nat.beq pc 244 then some (.invokevirtual 42, 247, 0, 0) else bif Nat.beq pc 247 then some (.lcmp, 248, 0, 0) else none))) else (bif Nat.ble pc 255 then (bif Nat.ble pc 252 then (bif Nat.beq pc 248 then some (.ifCond .eq 301, 251, 549, 0) else bif Nat.beq pc 251 then some (.iconst 0, 252, 0, 0) else bif Nat.beq pc 252 then some (.ireturn, 253, 0, 0) else none) else (bif Nat.beq pc 253 then some (.aload_n 1, 254, 0, 0) else bif Nat.beq pc 254 then some (.aload_n 0, 255, 0, 0) else bif Nat.beq pc 255 then some (.iload_n 3, 256, 0, 0) else none)) else (bif Nat.ble pc 258 then (bif Nat.beq pc 256 then some (.iconst 1, 257, 0, 0) else bif Nat.beq pc 257 then some (.iadd, 258, 0, 0) else bif Nat.beq pc 258 then some (.iaload, 259, 0, 0) else none) else (bif Nat.beq pc 259 then some (.aload_n 0, 260, 0, 0) else bif Nat.beq pc 260 then some (.iload_n 3, 261, 0, 0) else bif Nat.beq pc 261 then some (.iconst 2, 262, 0, 0) else none))))) else (bif Nat.ble pc 290 then (bif Nat.ble pc 274 then (bif Nat.ble pc 268 then (bif Nat.ble pc 263 then (bif Nat.beq pc 262 then some (.iadd, 263, 0, 0) else bif Nat.beq pc 263 then some (.iaload, 264, 0, 0) else none) else (bif Nat.beq pc 264 then some (.invokevirtual 43, 267, 0, 0) else bif Nat.beq pc 267 then some (.aload_n 2, 268, 0, 0) else bif Nat.beq pc 268 then some (.aload_n 0, 269, 0, 0) else none)) else (bif Nat.ble pc 271 then (bif Nat.beq pc 269 then some (.iload_n 3, 270, 0, 0) else bif Nat.beq pc 270 then some (.iconst 1, 271, 0, 0) else bif Nat.beq pc 271 then some (.iadd, 272, 0, 0) else none) else (bif Nat.beq pc 272 then some (.iaload, 273, 0, 0) else bif Nat.beq pc 273 then some (.aload_n 0, 274, 0, 0) else bif Nat.beq pc 274 then some (.iload_n 3, 275, 0, 0) else none))) else (bif Nat.ble pc 282 then (bif Nat.ble pc 277 then (bif Nat.beq pc 275 then some (.iconst 2, 276, 0, 0) else bif Nat.beq pc 276 then some (.iadd, 277, 0, 0) else bif Nat.beq pc 277 then some (.iaload, 278, 0, 0) else none) else (bif Nat.beq pc 278 then some (.invokevirtual 47, 281, 0, 0) else bif Nat.beq pc 281 then some (.lcmp, 282, 0, 0) else bif Nat.beq pc 282 then some (.ifCond .eq 267, 285, 549, 0) else none)) else (bif Nat.ble pc 287 then (bif Nat.beq pc 285 then some (.iconst 0, 286, 0, 0) else bif Nat.beq pc 286 then some (.ireturn, 287, 0, 0) else bif Nat.beq pc 287 then some (.aload_n 1, 288, 0, 0) else none) else (bif Nat.beq pc 288 then some (.aload_n 0, 289, 0, 0) else bif Nat.beq pc 289 then some (.iload_n 3, 290, 0, 0) else bif Nat.beq pc 290 then some (.iconst 1, 291, 0, 0) else none)))) else (bif Nat.ble pc 303 then (bif Nat.ble pc 295 then (bif Nat.ble pc 292 then (bif Nat.beq pc 291 then some (.iadd, 292, 0, 0) else bif Nat.beq pc 292 then some (.iaload, 293, 0, 0) else none) else (bif Nat.beq pc 293 then some (.aload_n 0, 294, 0, 0) else bif Nat.beq pc 294 then some (.iload_n 3, 295, 0, 0) else bif Nat.beq pc 295 then some (.iconst 2, 296, 0, 0) else none)) else (bif Nat.ble pc 298 then (bif Nat.beq pc 296 then some (.iadd, 297, 0, 0) else bif Nat.beq pc 297 then some (.iaload, 298, 0, 0) else bif Nat.beq pc 298 then some (.invokevirtual 48, 301, 0, 0) else none) else (bif Nat.beq pc 301 then some (.aload_n 2, 302, 0, 0) else bif Nat.beq pc 302 then some (.aload_n 0, 303, 0, 0) else bif Nat.beq pc 303 then some (.iload_n 3, 304, 0, 0) else none))) else (bif Nat.ble pc 309 then (bif Nat.ble pc 306 then (bif Nat.beq pc 304 then some (.iconst 1, 305, 0, 0) else bif Nat.beq pc 305 then some (.iadd, 306, 0, 0) else bif Nat.beq pc 306 then some (.iaload, 307, 0, 0) else none) else (bif Nat.beq pc 307 then some (.aload_n 0, 308, 0, 0) else bif Nat.beq pc 308 then some (.iload_n 3, 309, 0, 0) else bif Nat.beq pc 309 then some (.iconst 2, 310, 0, 0) else none)) else (bif Nat.ble pc 312 then (bif Nat.beq pc 310 then some (.iadd, 311, 0, 0) else bif Nat.beq pc 311 then some (.iaload, 312, 0, 0) else bif Nat.beq pc 312 then some (.invokevirtual 51, 315, 0, 0) else none) else (bif Nat.beq pc 315 then some (.lcmp, 316, 0, 0) else bif Nat.beq pc 316 then some (.ifCond .eq 233, 319, 549, 0) else bif Nat.beq pc 319 then some (.iconst 0, 320, 0, 0) else none))))))) else (bif Nat.ble pc 429 then (bif Nat.ble pc 374 then (bif Nat.ble pc 348 then (bif Nat.ble pc 332 then (bif Nat.ble pc 324 then (bif Nat.ble pc 321 then (bif Nat.beq pc 320 then some (.ireturn, 321, 0, 0) else bif Nat.beq pc 321 then some (.aload_n 1, 322, 0, 0) else none) else (bif Nat.beq pc 322 then some (.aload_n 0, 323, 0, 0) else bif Nat.beq pc 323 then some (.iload_n 3, 324, 0, 0) else bif Nat.beq pc 324 then some (.iconst 1, 325, 0, 0) else none)) else (bif Nat.ble pc 327 then (bif Nat.beq pc 325 then some (.iadd, 326, 0, 0) else bif Nat.beq pc 326 then some (.iaload, 327, 0, 0) else bif Nat.beq pc 327 then some (.invokevirtual 52, 330, 0, 0) else none) else (bif Nat.beq pc 330 then some (.aload_n 2, 331, 0, 0) else bif Nat.beq pc 331 then some (.aload_n 0, 332, 0, 0) else bif Nat.beq pc 332 then some (.iload_n 3, 333, 0, 0) else none))) else (bif Nat.ble pc 342 then (bif Nat.ble pc 335 then (bif Nat.beq pc 333 then some (.iconst 1, 334, 0, 0) else bif Nat.beq pc 334 then some (.iadd, 335, 0, 0) else bif Nat.beq pc 335 then some (.iaload, 336, 0, 0) else none) else (bif Nat.beq pc 336 then some (.invokevirtual 55, 339, 0, 0) else bif Nat.beq pc 339 then some (.if_icmp .eq 210, 342, 549, 0) else bif Nat.beq pc 342 then some (.iconst 0, 343, 0, 0) else none)) else (bif Nat.ble pc 345 then (bif Nat.beq pc 343 then some (.ireturn, 344, 0, 0) else bif Nat.beq pc 344 then some (.aload_n 1, 345, 0, 0) else bif Nat.beq pc 345 then some (.aload_n 0, 346, 0, 0) else none) else (bif Nat.beq pc 346 then some (.iload_n 3, 347, 0, 0) else bif Nat.beq pc 347 then some (.iconst 1, 348, 0, 0) else bif Nat.beq pc 348 then some (.iadd, 349, 0, 0) else none)))) else (bif Nat.ble pc 360 then (bif Nat.ble pc 353 then (bif Nat.ble pc 350 then (bif Nat.beq pc 349 then some (.iaload, 350, 0, 0) else bif Nat.beq pc 350 then some (.aload_n 0, 351, 0, 0) else none) else (bif Nat.beq pc 351 then some (.iload_n 3, 352, 0, 0) else bif Nat.beq pc 352 then some (.iconst 2, 353, 0, 0) else bif Nat.beq pc 353 then some (.iadd, 354, 0, 0) else none)) else (bif Nat.ble pc 356 then (bif Nat.beq pc 354 then some (.iaload, 355, 0, 0) else bif Nat.beq pc 355 then some (.i2l, 356, 0, 0) else bif Nat.beq pc 356 then some (.bipush 32, 358, 0, 0) else none) else (bif Nat.beq pc 358 then some (.lshl, 359, 0, 0) else bif Nat.beq pc 359 then some (.aload_n 0, 360, 0, 0) else bif Nat.beq pc 360 then some (.iload_n 3, 361, 0, 0) else none))) else (bif Nat.ble pc 368 then (bif Nat.ble pc 363 then (bif Nat.beq pc 361 then some (.iconst 3, 362, 0, 0) else bif Nat.beq pc 362 then some (.iadd, 363, 0, 0) else bif Nat.beq pc 363 then some (.iaload, 364, 0, 0) else none) else (bif Nat.beq pc 364 then some (.i2l, 365, 0, 0) else bif Nat.beq pc 365 then some (.ldc2_w 13, 368, 4294967295, 0) else bif Nat.beq pc 368 then some (.land, 369, 0, 0) else none)) else (bif Nat.ble pc 371 then (bif Nat.beq pc 369 then some (.lor, 370, 0, 0) else bif Nat.beq pc 370 then some (.aload_n 0, 371, 0, 0) else bif Nat.beq pc 371 then some (.iload_n 3, 372, 0, 0) else none) else (bif Nat.beq pc 372 then some (.iconst 4, 373, 0, 0) else bif Nat.beq pc 373 then some (.iadd, 374, 0, 0) else bif Nat.beq pc 374 then some (.iaload, 375, 0, 0) else none))))) else (bif Nat.ble pc 402 then (bif Nat.ble pc 388 then (bif Nat.ble pc 380 then (bif Nat.ble pc 376 then (bif Nat.beq pc 375 then some (.i2l, 376, 0, 0) else bif Nat.beq pc 376 then some (.bipush 32, 378, 0, 0) else none) else (bif Nat.beq pc 378 then some (.lshl, 379, 0, 0) else bif Nat.beq pc 379 then some (.aload_n 0, 380, 0, 0) else bif Nat.beq pc 380 then some (.iload_n 3, 381, 0, 0) else none)) else (bif Nat.ble pc 383 then (bif Nat.beq pc 381 then some (.iconst 5, 382, 0, 0) else bif Nat.beq pc 382 then some (.iadd, 383, 0, 0) else bif Nat.beq pc 383 then some (.iaload, 384, 0, 0) else none) else (bif Nat.beq pc 384 then some (.i2l, 385, 0, 0) else bif Nat.beq pc 385 then some (.ldc2_w 13, 388, 4294967295, 0) else bif Nat.beq pc 388 then some (.land, 389, 0, 0) else none))) else (bif Nat.ble pc 396 then (bif Nat.ble pc 393 then (bif Nat.beq pc 389 then some (.lor, 390, 0, 0) else bif Nat.beq pc 390 then some (.invokevirtual 56, 393, 0, 0) else bif Nat.beq pc 393 then some (.aload_n 2, 394, 0, 0) else none) else (bif Nat.beq pc 394 then some (.aload_n 0, 395, 0, 0) else bif Nat.beq pc 395 then some (.iload_n 3, 396, 0, 0) else bif Nat.beq pc 396 then some (.iconst 1, 397, 0, 0) else none)) else (bif Nat.ble pc 399 then (bif Nat.beq pc 397 then some (.iadd, 398, 0, 0) else bif Nat.beq pc 398 then some (.iaload, 399, 0, 0) else bif Nat.beq pc 399 then some (.aload_n 0, 400, 0, 0) else none) else (bif Nat.beq pc 400 then some (.iload_n 3, 401, 0, 0) else bif Nat.beq pc 401 then some (.iconst 2, 402, 0, 0) else bif Nat.beq pc 402 then some (.iadd, 403, 0, 0) else none)))) else (bif Nat.ble pc 414 then (bif Nat.ble pc 408 then (bif Nat.ble pc 404 then (bif Nat.beq pc 403 then some (.iaload, 404, 0, 0) else bif Nat.beq pc 404 then some (.i2l, 405, 0, 0) else none) else (bif Nat.beq pc 405 then some (.bipush 32, 407, 0, 0) else bif Nat.beq pc 407 then some (.lshl, 408, 0, 0) else bif Nat.beq pc 408 then some (.aload_n 0, 409, 0, 0) else none)) else (bif Nat.ble pc 411 then (bif Nat.beq pc 409 then some (.iload_n 3, 410, 0, 0) else bif Nat.beq pc 410 then some (.iconst 3, 411, 0, 0) else bif Nat.beq pc 411 then some (.iadd, 412, 0, 0) else none) else (bif Nat.beq pc 412 then some (.iaload, 413, 0, 0) else bif Nat.beq pc 413 then some (.i2l, 414, 0, 0) else bif Nat.beq pc 414 then some (.ldc2_w 13, 417, 4294967295, 0) else none))) else (bif Nat.ble pc 422 then (bif Nat.ble pc 419 then (bif Nat.beq pc 417 then some (.land, 418, 0, 0) else bif Nat.beq pc 418 then some (.lor, 419, 0, 0) else bif Nat.beq pc 419 then some (.aload_n 0, 420, 0, 0) else none) else (bif Nat.beq pc 420 then some (.iload_n 3, 421, 0, 0) else bif Nat.beq pc 421 then some (.iconst 4, 422, 0, 0) else bif Nat.beq pc 422 then some (.iadd, 423, 0, 0) else none)) else (bif Nat.ble pc 425 then (bif Nat.beq pc 423 then some (.iaload, 424, 0, 0) else bif Nat.beq pc 424 then some (.i2l, 425, 0, 0) else bif Nat.beq pc 425 then some (.bipush 32, 427, 0, 0) else none) else (bif Nat.beq pc 427 then some (.lshl, 428, 0, 0) else bif Nat.beq pc 428 then some (.aload_n 0, 429, 0, 0) else bif Nat.beq pc 429 then some (.iload_n 3, 430, 0, 0) else none)))))) else (bif Nat.ble pc 493 then (bif Nat.ble pc 460 then (bif Nat.ble pc 446 then (bif Nat.ble pc 434 then (bif Nat.ble pc 431 then (bif Nat.beq pc 430 then some (.iconst 5, 431, 0, 0) else bif Nat.beq pc 431 then some (.iadd, 432, 0, 0) else none) else (bif Nat.beq pc 432 then some (.iaload, 433, 0, 0) else bif Nat.beq pc 433 then some (.i2l, 434, 0, 0) else bif Nat.beq pc 434 then some (.ldc2_w 13, 437, 4294967295, 0) else none)) else (bif Nat.ble pc 439 then (bif Nat.beq pc 437 then some (.land, 438, 0, 0) else bif Nat.beq pc 438 then some (.lor, 439, 0, 0) else bif Nat.beq pc 439 then some (.invokevirtual 60, 442, 0, 0) else none) else (bif Nat.beq pc 442 then some (.if_icmp .eq 107, 445, 549, 0) else bif Nat.beq pc 445 then some (.iconst 0, 446, 0, 0) else bif Nat.beq pc 446 then some (.ireturn, 447, 0, 0) else none))) else (bif Nat.ble pc 452 then (bif Nat.ble pc 449 then (bif Nat.beq pc 447 then some (.aload_n 1, 448, 0, 0) else bif Nat.beq pc 448 then some (.aload_n 0, 449, 0, 0) else bif Nat.beq pc 449 then some (.iload_n 3, 450, 0, 0) else none) else (bif Nat.beq pc 450 then some (.iconst 1, 451, 0, 0) else bif Nat.beq pc 451 then some (.iadd, 452, 0, 0) else bif Nat.beq pc 452 then some (.iaload, 453, 0, 0) else none)) else (bif Nat.ble pc 457 then (bif Nat.beq pc 453 then some (.invokevirtual 61, 456, 0, 0) else bif Nat.beq pc 456 then some (.aload_n 2, 457, 0, 0) else bif Nat.beq pc 457 then some (.aload_n 0, 458, 0, 0) else none) else (bif Nat.beq pc 458 then some (.iload_n 3, 459, 0, 0) else bif Nat.beq pc 459 then some (.iconst 1, 460, 0, 0) else bif Nat.beq pc 460 then some (.iadd, 461, 0, 0) else none)))) else (bif Nat.ble pc 475 then (bif Nat.ble pc 469 then (bif Nat.ble pc 462 then (bif Nat.beq pc 461 then some (.iaload, 462, 0, 0) else bif Nat.beq pc 462 then some (.invokevirtual 64, 465, 0, 0) else none) else (bif Nat.beq pc 465 then some (.if_icmp .eq 84, 468, 549, 0) else bif Nat.beq pc 468 then some (.iconst 0, 469, 0, 0) else bif Nat.beq pc 469 then some (.ireturn, 470, 0, 0) else none)) else (bif Nat.ble pc 472 then (bif Nat.beq pc 470 then some (.aload_n 1, 471, 0, 0) else bif Nat.beq pc 471 then some (.aload_n 0, 472, 0, 0) else bif Nat.beq pc 472 then some (.iload_n 3, 473, 0, 0) else none) else (bif Nat.beq pc 473 then some (.iconst 1, 474, 0, 0) else bif Nat.beq pc 474 then some (.iadd, 475, 0, 0) else bif Nat.beq pc 475 then some (.iaload, 476, 0, 0) else none))) else (bif Nat.ble pc 483 then (bif Nat.ble pc 480 then (bif Nat.beq pc 476 then some (.invokevirtual 65, 479, 0, 0) else bif Nat.beq pc 479 then some (.aload_n 2, 480, 0, 0) else bif Nat.beq pc 480 then some (.aload_n 0, 481, 0, 0) else none) else (bif Nat.beq pc 481 then some (.iload_n 3, 482, 0, 0) else bif Nat.beq pc 482 then some (.iconst 1, 483, 0, 0) else bif Nat.beq pc 483 then some (.iadd, 484, 0, 0) else none)) else (bif Nat.ble pc 488 then (bif Nat.beq pc 484 then some (.iaload, 485, 0, 0) else bif Nat.beq pc 485 then some (.invokevirtual 68, 488, 0, 0) else bif Nat.beq pc 488 then some (.if_icmp .eq 61, 491, 549, 0) else none) else (bif Nat.beq pc 491 then some (.iconst 0, 492, 0, 0) else bif Nat.beq pc 492 then some (.ireturn, 493, 0, 0) else bif Nat.beq pc 493 then some (.aload_n 1, 494, 0, 0) else none))))) else (bif Nat.ble pc 518 then (bif Nat.ble pc 504 then (bif Nat.ble pc 498 then (bif Nat.ble pc 495 then (bif Nat.beq pc 494 then some (.aload_n 0, 495, 0, 0) else bif Nat.beq pc 495 then some (.iload_n 3, 496, 0, 0) else none) else (bif Nat.beq pc 496 then some (.iconst 1, 497, 0, 0) else bif Nat.beq pc 497 then some (.iadd, 498, 0, 0) else bif Nat.beq pc 498 then some (.iaload, 499, 0, 0) else none)) else (bif Nat.ble pc 501 then (bif Nat.beq pc 499 then some (.aload_n 0, 500, 0, 0) else bif Nat.beq pc 500 then some (.iload_n 3, 501, 0, 0) else bif Nat.beq pc 501 then some (.iconst 2, 502, 0, 0) else none) else (bif Nat.beq pc 502 then some (.iadd, 503, 0, 0) else bif Nat.beq pc 503 then some (.iaload, 504, 0, 0) else bif Nat.beq pc 504 then some (.invokevirtual 69, 507, 0, 0) else none))) else (bif Nat.ble pc 512 then (bif Nat.ble pc 509 then (bif Nat.beq pc 507 then some (.aload_n 2, 508, 0, 0) else bif Nat.beq pc 508 then some (.aload_n 0, 509, 0, 0) else bif Nat.beq pc 509 then some (.iload_n 3, 510, 0, 0) else none) else (bif Nat.beq pc 510 then some (.iconst 1, 511, 0, 0) else bif Nat.beq pc 511 then some (.iadd, 512, 0, 0) else bif Nat.beq pc 512 then some (.iaload, 513, 0, 0) else none)) else (bif Nat.ble pc 515 then (bif Nat.beq pc 513 then some (.aload_n 0, 514, 0, 0) else bif Nat.beq pc 514 then some (.iload_n 3, 515, 0, 0) else bif Nat.beq pc 515 then some (.iconst 2, 516, 0, 0) else none) else (bif Nat.beq pc 516 then some (.iadd, 517, 0, 0) else bif Nat.beq pc 517 then some (.iaload, 518, 0, 0) else bif Nat.beq pc 518 then some (.invokevirtual 73, 521, 0, 0) else none)))) else (bif Nat.ble pc 536 then (bif Nat.ble pc 528 then (bif Nat.ble pc 525 then (bif Nat.beq pc 521 then some (.if_icmp .eq 28, 524, 549, 0) else bif Nat.beq pc 524 then some (.iconst 0, 525, 0, 0) else bif Nat.beq pc 525 then some (.ireturn, 526, 0, 0) else none) else (bif Nat.beq pc 526 then some (.aload_n 1, 527, 0, 0) else bif Nat.beq pc 527 then some (.aload_n 0, 528, 0, 0) else bif Nat.beq pc 528 then some (.iload_n 3, 529, 0, 0) else none)) else (bif Nat.ble pc 531 then (bif Nat.beq pc 529 then some (.iconst 1, 530, 0, 0) else bif Nat.beq pc 530 then some (.iadd, 531, 0, 0) else bif Nat.beq pc 531 then some (.iaload, 532, 0, 0) else none) else (bif Nat.beq pc 532 then some (.invokevirtual 74, 535, 0, 0) else bif Nat.beq pc 535 then some (.aload_n 2, 536, 0, 0) else bif Nat.beq pc 536 then some (.aload_n 0, 537, 0, 0) else none))) else (bif Nat.ble pc 544 then (bif Nat.ble pc 539 then (bif Nat.beq pc 537 then some (.iload_n 3, 538, 0, 0) else bif Nat.beq pc 538 then some (.iconst 1, 539, 0, 0) else bif Nat.beq pc 539 then some (.iadd, 540, 0, 0) else none) else (bif Nat.beq pc 540 then some (.iaload, 541, 0, 0) else bif Nat.beq pc 541 then some (.invokevirtual 78, 544, 0, 0) else bif Nat.beq pc 544 then some (.if_icmp .eq 5, 547, 549, 0) else none)) else (bif Nat.ble pc 549 then (bif Nat.beq pc 547 then some (.iconst 0, 548, 0, 0) else bif Nat.beq pc 548 then some (.ireturn, 549, 0, 0) else bif Nat.beq pc 549 then some (.iinc 3 6, 552, 0, 0) else none) else (bif Nat.beq pc 552 then some (.goto (-534), 555, 18, 0) else bif Nat.beq pc 555 then some (.iconst 1, 556, 0, 0) else bif Nat.beq pc 556 then some (.ireturn, 557, 0, 0) else none))))))))
set_option maxRecDepth 100000 in
set_option maxHeartbeats 4000000 in
theorem ok_law : am_CD m_law cd_law := am_CD_of 557 fl_W_ok cn_W_ok kl_W_ok pl_W_ok (by intro pc h; unfold cd_law; rw [Nat.ble_eq_true_of_le h]; rfl) (by decide +kernel)
end
section
/-! ===== the heap behind the constructors, told by four tables of numbers: ints and longs in the fields (cell, field), ints and longs in the arrays (cell, place) ===== -/
abbrev am_LF : Type := Nat ⊕ (Nat ⊕ Int)
abbrev am_LC : Type := (FieldType × Nat × Nat) ⊕ (Nat × Nat × List am_LF)
abbrev G2 : Type := (Nat → Nat → Int) × (Nat → Nat → Int64) × (Nat → Nat → Int) × (Nat → Nat → Int64)
def ly_v (g : G2) (i k : Nat) : am_LF → am_V
  | .inl 0 => vI (g.1 i k)
  | .inl (_ + 1) => vL (g.2.1 i k)
  | .inr (.inl r) => vR r
  | .inr (.inr c) => vI c
def ly_f (g : G2) (i : Nat) : Nat → List am_LF → List am_V
  | _, [] => []
  | k, f :: t => ly_v g i k f :: ly_f g i (k + 1) t
/-- a cell: an array with its length, or an object with its class; each with its own place -/
def ly_c (g : G2) : am_LC → am_E
  | .inl (.long, n, i) => .inl (.long, n, .inr (g.2.2.2 i))
  | .inl (ty, n, i) => .inl (ty, n, .inl (g.2.2.1 i))
  | .inr (ci, i, fs) => .inr (ci, ly_f g i 0 fs)
def ly_i : am_LC → Nat
  | .inl a => a.2.2
  | .inr o => o.2.1
theorem ly_f_get (g : G2) (i : Nat) (l : List am_LF) : ∀ (k r : Nat), (ly_f g i k l)[r]? = (l[r]?).map (ly_v g i (k + r)) := by
  induction l with
  | nil => intro k r; simp [ly_f]
  | cons a t ih =>
    intro k r
    cases r with
    | zero => simp [ly_f]
    | succ r =>
      simp only [ly_f, List.getElem?_cons_succ, ih (k + 1) r]
      have e : k + 1 + r = k + (r + 1) := by omega
      rw [e]
theorem ly_f_len (g : G2) (i : Nat) (l : List am_LF) : ∀ k, (ly_f g i k l).length = l.length := by
  induction l with
  | nil => intro k; rfl
  | cons a t ih => intro k; simp [ly_f, ih (k + 1)]
theorem ly_f_same {g g' : G2} {i : Nat} (h1 : g'.1 i = g.1 i) (h2 : g'.2.1 i = g.2.1 i) (l : List am_LF) : ∀ k, ly_f g' i k l = ly_f g i k l := by
  induction l with
  | nil => intro k; rfl
  | cons a t ih =>
    intro k
    simp only [ly_f, ih (k + 1)]
    congr 1
    match a with
    | .inl 0 => simp [ly_v, h1]
    | .inl (_ + 1) => simp [ly_v, h2]
    | .inr (.inl _) => rfl
    | .inr (.inr _) => rfl
/-- only the cell r differs -/
def ly_but (r : Nat) (g g' : G2) : Prop := ∀ i, i ≠ r → g'.1 i = g.1 i ∧ g'.2.1 i = g.2.1 i ∧ g'.2.2.1 i = g.2.2.1 i ∧ g'.2.2.2 i = g.2.2.2 i
theorem ly_c_same {r : Nat} {g g' : G2} (hb : ly_but r g g') (c : am_LC) (hc : ly_i c ≠ r) : ly_c g' c = ly_c g c := by
  match c, hc with
  | .inr (ci, i, fs), hc =>
    obtain ⟨h1, h2, h3, h4⟩ := hb i hc
    show Sum.inr (ci, ly_f g' i 0 fs) = Sum.inr (ci, ly_f g i 0 fs)
    rw [ly_f_same h1 h2]
  | .inl (ty, n, i), hc =>
    obtain ⟨h1, h2, h3, h4⟩ := hb i hc
    cases ty <;> simp [ly_c, h3, h4]
theorem ly_f_setI {g : G2} {i k0 : Nat} {z : Int} (l : List am_LF) : ∀ (k r : Nat), k + r = k0 → l[r]? = some (.inl 0) → ly_f (am_upd g.1 i (am_upd (g.1 i) k0 z), g.2) i k l = (ly_f g i k l).set r (vI z) := by
  induction l with
  | nil => intro k r _ h; simp at h
  | cons a t ih =>
    intro k r hk hc
    cases r with
    | zero =>
      simp at hc
      subst hc
      have e : k = k0 := by omega
      subst e
      simp only [ly_f, List.set_cons_zero]
      have e1 : ly_v (am_upd g.1 i (am_upd (g.1 i) k z), g.2) i k (.inl 0) = vI z := by simp [ly_v, am_upd]
      rw [e1]
      congr 1
      clear ih
      have key : ∀ (t : List am_LF) (j : Nat), k < j → ly_f (am_upd g.1 i (am_upd (g.1 i) k z), g.2) i j t = ly_f g i j t := by
        intro t
        induction t with
        | nil => intro j _; rfl
        | cons b t ih =>
          intro j hj
          simp only [ly_f, ih (j + 1) (by omega)]
          congr 1
          match b with
          | .inl 0 => simp [ly_v, am_upd]; omega
          | .inl (_ + 1) => rfl
          | .inr (.inl _) => rfl
          | .inr (.inr _) => rfl
      exact key t (k + 1) (by omega)
    | succ r =>
      simp at hc
      simp only [ly_f, List.set_cons_succ]
      rw [ih (k + 1) r (by omega) hc]
      congr 1
      match a with
      | .inl 0 => simp [ly_v, am_upd]; omega
      | .inl (_ + 1) => rfl
      | .inr (.inl _) => rfl
      | .inr (.inr _) => rfl
theorem ly_f_setJ {g : G2} {i k0 q : Nat} {z : Int64} (l : List am_LF) : ∀ (k r : Nat), k + r = k0 → l[r]? = some (.inl (q + 1)) → ly_f (g.1, am_upd g.2.1 i (am_upd (g.2.1 i) k0 z), g.2.2) i k l = (ly_f g i k l).set r (vL z) := by
  induction l with
  | nil => intro k r _ h; simp at h
  | cons a t ih =>
    intro k r hk hc
    cases r with
    | zero =>
      simp at hc
      subst hc
      have e : k = k0 := by omega
      subst e
      simp only [ly_f, List.set_cons_zero]
      have e1 : ly_v (g.1, am_upd g.2.1 i (am_upd (g.2.1 i) k z), g.2.2) i k (.inl (q + 1)) = vL z := by simp [ly_v, am_upd]
      rw [e1]
      congr 1
      clear ih
      have key : ∀ (t : List am_LF) (j : Nat), k < j → ly_f (g.1, am_upd g.2.1 i (am_upd (g.2.1 i) k z), g.2.2) i j t = ly_f g i j t := by
        intro t
        induction t with
        | nil => intro j _; rfl
        | cons b t ih =>
          intro j hj
          simp only [ly_f, ih (j + 1) (by omega)]
          congr 1
          match b with
          | .inl 0 => rfl
          | .inl (_ + 1) => simp [ly_v, am_upd]; omega
          | .inr (.inl _) => rfl
          | .inr (.inr _) => rfl
      exact key t (k + 1) (by omega)
    | succ r =>
      simp at hc
      simp only [ly_f, List.set_cons_succ]
      rw [ih (k + 1) r (by omega) hc]
      congr 1
      match a with
      | .inl 0 => rfl
      | .inl (_ + 1) => simp [ly_v, am_upd]; omega
      | .inr (.inl _) => rfl
      | .inr (.inr _) => rfl
/-! ===== the cells that the two constructors leave, in the order of their making: what is fixed in them ===== -/
def ly_L : List am_LC := [.inr (0, 0, [.inr (.inl 2), .inr (.inl 4), .inr (.inl 8), .inr (.inl 17), .inr (.inl 26), .inl 0]), .inr (1, 1, [.inr (.inl 3), .inl 0, .inl 0, .inl 0, .inl 0, .inl 1, .inl 0, .inl 0]), .inl (.byte, 1600, 2), .inr (2, 3, [.inr (.inl 5), .inr (.inl 6), .inr (.inl 7), .inl 0, .inl 0, .inl 1]), .inl (.long, 60, 4), .inl (.int, 60, 5), .inl (.int, 60, 6), .inr (3, 7, [.inr (.inl 9), .inr (.inl 10), .inr (.inl 11), .inr (.inl 15), .inr (.inl 16)]), .inl (.long, 40, 8), .inl (.int, 40, 9), .inr (4, 10, [.inr (.inr 40), .inr (.inl 12), .inr (.inl 13), .inr (.inl 14), .inl 0]), .inl (.int, 960, 11), .inl (.int, 40, 12), .inl (.long, 40, 13), .inl (.long, 40, 14), .inl (.int, 40, 15), .inr (5, 16, [.inr (.inl 18), .inr (.inl 19), .inr (.inl 20), .inr (.inl 21), .inr (.inl 22), .inr (.inl 23), .inr (.inl 24), .inr (.inl 25), .inl 0]), .inl (.int, 40, 17), .inl (.int, 40, 18), .inl (.int, 1600, 19), .inl (.int, 40, 20), .inl (.int, 40, 21), .inl (.int, 1600, 22), .inl (.boolean, 40, 23), .inl (.boolean, 40, 24), .inr (6, 25, [.inr (.inl 4), .inr (.inl 8), .inr (.inl 17), .inr (.inl 27), .inr (.inl 34), .inr (.inl 44), .inl 0, .inl 0, .inl 1]), .inr (7, 26, [.inl 1, .inl 1, .inl 1, .inr (.inl 28), .inl 0, .inr (.inl 29), .inl 0, .inr (.inl 30), .inr (.inl 31), .inr (.inl 32), .inr (.inl 33)]), .inl (.int, 40, 27), .inl (.long, 60, 28), .inl (.long, 6, 29), .inl (.long, 6, 30), .inl (.long, 6, 31), .inl (.int, 6, 32), .inr (8, 33, [.inr (.inl 4), .inr (.inl 8), .inr (.inl 17), .inr (.inl 27), .inr (.inl 35), .inr (.inl 39), .inr (.inl 43), .inl 0]), .inr (4, 34, [.inr (.inr 16), .inr (.inl 36), .inr (.inl 37), .inr (.inl 38), .inl 0]), .inl (.int, 384, 35), .inl (.int, 16, 36), .inl (.long, 16, 37), .inr (4, 38, [.inr (.inr 1), .inr (.inl 40), .inr (.inl 41), .inr (.inl 42), .inl 0]), .inl (.int, 24, 39), .inl (.int, 1, 40), .inl (.long, 1, 41), .inl (.int, 60, 42), .inr (9, 43, [.inr (.inl 8), .inr (.inl 34), .inr (.inl 45), .inl 0, .inl 0, .inr (.inl 46), .inl 0, .inl 0, .inl 0, .inl 0]), .inl (.int, 60, 44), .inr (4, 45, [.inr (.inr 16), .inr (.inl 47), .inr (.inl 48), .inr (.inl 49), .inl 0]), .inl (.int, 384, 46), .inl (.int, 16, 47), .inl (.long, 16, 48), .inr (10, 49, [.inr (.inl 51), .inl 0, .inr (.inl 52), .inr (.inl 53), .inl 0, .inl 0, .inl 0, .inl 0, .inl 0, .inr (.inl 54), .inr (.inl 55), .inr (.inl 56), .inr (.inl 57), .inr (.inl 58), .inl 0, .inl 0, .inr (.inl 59), .inr (.inl 60), .inr (.inl 61), .inr (.inl 62), .inr (.inl 63), .inr (.inl 64), .inr (.inl 65), .inl 0, .inr (.inl 66), .inr (.inl 67), .inr (.inl 68), .inl 0, .inr (.inl 69), .inr (.inl 70), .inr (.inl 71), .inr (.inl 72), .inr (.inl 73), .inr (.inl 74), .inr (.inl 75), .inr (.inl 76), .inr (.inl 77), .inr (.inl 78), .inr (.inl 79), .inr (.inl 80), .inl 0, .inr (.inl 81), .inr (.inl 82), .inr (.inl 83), .inr (.inl 84), .inl 0, .inr (.inl 85), .inr (.inl 86), .inl 0, .inr (.inl 87), .inr (.inl 88), .inl 0, .inr (.inl 89), .inl 0, .inl 0, .inl 0, .inl 0]), .inl (.int, 1600, 50), .inl (.int, 801, 51), .inl (.int, 801, 52), .inl (.long, 60, 53), .inl (.int, 60, 54), .inl (.boolean, 60, 55), .inl (.int, 60, 56), .inl (.int, 60, 57), .inl (.int, 40, 58), .inl (.int, 40, 59), .inl (.int, 960, 60), .inl (.int, 40, 61), .inl (.boolean, 40, 62), .inl (.int, 40, 63), .inl (.int, 40, 64), .inl (.int, 40, 65), .inl (.int, 40, 66), .inl (.int, 40, 67), .inl (.int, 41, 68), .inl (.int, 1640, 69), .inl (.int, 41, 70), .inl (.int, 1640, 71), .inl (.int, 1640, 72), .inl (.int, 41, 73), .inl (.int, 41, 74), .inl (.int, 41, 75), .inl (.int, 1640, 76), .inl (.boolean, 41, 77), .inl (.boolean, 41, 78), .inl (.int, 24, 79), .inl (.boolean, 60, 80), .inl (.int, 60, 81), .inl (.int, 384, 82), .inl (.int, 16, 83), .inl (.int, 384, 84), .inl (.int, 16, 85), .inl (.int, 60, 86), .inl (.int, 600, 87), .inl (.int, 20, 88)]
def ly_F (r : Nat) : Option am_LC := bif Nat.ble 89 r then none else (bif Nat.ble r 43 then (bif Nat.ble r 21 then (bif Nat.ble r 10 then (bif Nat.ble r 4 then (bif Nat.ble r 1 then (bif Nat.beq r 0 then some (.inr (0, 0, [.inr (.inl 2), .inr (.inl 4), .inr (.inl 8), .inr (.inl 17), .inr (.inl 26), .inl 0])) else bif Nat.beq r 1 then some (.inr (1, 1, [.inr (.inl 3), .inl 0, .inl 0, .inl 0, .inl 0, .inl 1, .inl 0, .inl 0])) else none) else (bif Nat.ble r 2 then (bif Nat.beq r 2 then some (.inl (.byte, 1600, 2)) else none) else (bif Nat.beq r 3 then some (.inr (2, 3, [.inr (.inl 5), .inr (.inl 6), .inr (.inl 7), .inl 0, .inl 0, .inl 1])) else bif Nat.beq r 4 then some (.inl (.long, 60, 4)) else none))) else (bif Nat.ble r 7 then (bif Nat.ble r 5 then (bif Nat.beq r 5 then some (.inl (.int, 60, 5)) else none) else (bif Nat.beq r 6 then some (.inl (.int, 60, 6)) else bif Nat.beq r 7 then some (.inr (3, 7, [.inr (.inl 9), .inr (.inl 10), .inr (.inl 11), .inr (.inl 15), .inr (.inl 16)])) else none)) else (bif Nat.ble r 8 then (bif Nat.beq r 8 then some (.inl (.long, 40, 8)) else none) else (bif Nat.beq r 9 then some (.inl (.int, 40, 9)) else bif Nat.beq r 10 then some (.inr (4, 10, [.inr (.inr 40), .inr (.inl 12), .inr (.inl 13), .inr (.inl 14), .inl 0])) else none)))) else (bif Nat.ble r 15 then (bif Nat.ble r 12 then (bif Nat.beq r 11 then some (.inl (.int, 960, 11)) else bif Nat.beq r 12 then some (.inl (.int, 40, 12)) else none) else (bif Nat.ble r 13 then (bif Nat.beq r 13 then some (.inl (.long, 40, 13)) else none) else (bif Nat.beq r 14 then some (.inl (.long, 40, 14)) else bif Nat.beq r 15 then some (.inl (.int, 40, 15)) else none))) else (bif Nat.ble r 18 then (bif Nat.ble r 16 then (bif Nat.beq r 16 then some (.inr (5, 16, [.inr (.inl 18), .inr (.inl 19), .inr (.inl 20), .inr (.inl 21), .inr (.inl 22), .inr (.inl 23), .inr (.inl 24), .inr (.inl 25), .inl 0])) else none) else (bif Nat.beq r 17 then some (.inl (.int, 40, 17)) else bif Nat.beq r 18 then some (.inl (.int, 40, 18)) else none)) else (bif Nat.ble r 19 then (bif Nat.beq r 19 then some (.inl (.int, 1600, 19)) else none) else (bif Nat.beq r 20 then some (.inl (.int, 40, 20)) else bif Nat.beq r 21 then some (.inl (.int, 40, 21)) else none))))) else (bif Nat.ble r 32 then (bif Nat.ble r 26 then (bif Nat.ble r 23 then (bif Nat.beq r 22 then some (.inl (.int, 1600, 22)) else bif Nat.beq r 23 then some (.inl (.boolean, 40, 23)) else none) else (bif Nat.ble r 24 then (bif Nat.beq r 24 then some (.inl (.boolean, 40, 24)) else none) else (bif Nat.beq r 25 then some (.inr (6, 25, [.inr (.inl 4), .inr (.inl 8), .inr (.inl 17), .inr (.inl 27), .inr (.inl 34), .inr (.inl 44), .inl 0, .inl 0, .inl 1])) else bif Nat.beq r 26 then some (.inr (7, 26, [.inl 1, .inl 1, .inl 1, .inr (.inl 28), .inl 0, .inr (.inl 29), .inl 0, .inr (.inl 30), .inr (.inl 31), .inr (.inl 32), .inr (.inl 33)])) else none))) else (bif Nat.ble r 29 then (bif Nat.ble r 27 then (bif Nat.beq r 27 then some (.inl (.int, 40, 27)) else none) else (bif Nat.beq r 28 then some (.inl (.long, 60, 28)) else bif Nat.beq r 29 then some (.inl (.long, 6, 29)) else none)) else (bif Nat.ble r 30 then (bif Nat.beq r 30 then some (.inl (.long, 6, 30)) else none) else (bif Nat.beq r 31 then some (.inl (.long, 6, 31)) else bif Nat.beq r 32 then some (.inl (.int, 6, 32)) else none)))) else (bif Nat.ble r 37 then (bif Nat.ble r 34 then (bif Nat.beq r 33 then some (.inr (8, 33, [.inr (.inl 4), .inr (.inl 8), .inr (.inl 17), .inr (.inl 27), .inr (.inl 35), .inr (.inl 39), .inr (.inl 43), .inl 0])) else bif Nat.beq r 34 then some (.inr (4, 34, [.inr (.inr 16), .inr (.inl 36), .inr (.inl 37), .inr (.inl 38), .inl 0])) else none) else (bif Nat.ble r 35 then (bif Nat.beq r 35 then some (.inl (.int, 384, 35)) else none) else (bif Nat.beq r 36 then some (.inl (.int, 16, 36)) else bif Nat.beq r 37 then some (.inl (.long, 16, 37)) else none))) else (bif Nat.ble r 40 then (bif Nat.ble r 38 then (bif Nat.beq r 38 then some (.inr (4, 38, [.inr (.inr 1), .inr (.inl 40), .inr (.inl 41), .inr (.inl 42), .inl 0])) else none) else (bif Nat.beq r 39 then some (.inl (.int, 24, 39)) else bif Nat.beq r 40 then some (.inl (.int, 1, 40)) else none)) else (bif Nat.ble r 41 then (bif Nat.beq r 41 then some (.inl (.long, 1, 41)) else none) else (bif Nat.beq r 42 then some (.inl (.int, 60, 42)) else bif Nat.beq r 43 then some (.inr (9, 43, [.inr (.inl 8), .inr (.inl 34), .inr (.inl 45), .inl 0, .inl 0, .inr (.inl 46), .inl 0, .inl 0, .inl 0, .inl 0])) else none)))))) else (bif Nat.ble r 65 then (bif Nat.ble r 54 then (bif Nat.ble r 48 then (bif Nat.ble r 45 then (bif Nat.beq r 44 then some (.inl (.int, 60, 44)) else bif Nat.beq r 45 then some (.inr (4, 45, [.inr (.inr 16), .inr (.inl 47), .inr (.inl 48), .inr (.inl 49), .inl 0])) else none) else (bif Nat.ble r 46 then (bif Nat.beq r 46 then some (.inl (.int, 384, 46)) else none) else (bif Nat.beq r 47 then some (.inl (.int, 16, 47)) else bif Nat.beq r 48 then some (.inl (.long, 16, 48)) else none))) else (bif Nat.ble r 51 then (bif Nat.ble r 49 then (bif Nat.beq r 49 then some (.inr (10, 49, [.inr (.inl 51), .inl 0, .inr (.inl 52), .inr (.inl 53), .inl 0, .inl 0, .inl 0, .inl 0, .inl 0, .inr (.inl 54), .inr (.inl 55), .inr (.inl 56), .inr (.inl 57), .inr (.inl 58), .inl 0, .inl 0, .inr (.inl 59), .inr (.inl 60), .inr (.inl 61), .inr (.inl 62), .inr (.inl 63), .inr (.inl 64), .inr (.inl 65), .inl 0, .inr (.inl 66), .inr (.inl 67), .inr (.inl 68), .inl 0, .inr (.inl 69), .inr (.inl 70), .inr (.inl 71), .inr (.inl 72), .inr (.inl 73), .inr (.inl 74), .inr (.inl 75), .inr (.inl 76), .inr (.inl 77), .inr (.inl 78), .inr (.inl 79), .inr (.inl 80), .inl 0, .inr (.inl 81), .inr (.inl 82), .inr (.inl 83), .inr (.inl 84), .inl 0, .inr (.inl 85), .inr (.inl 86), .inl 0, .inr (.inl 87), .inr (.inl 88), .inl 0, .inr (.inl 89), .inl 0, .inl 0, .inl 0, .inl 0])) else none) else (bif Nat.beq r 50 then some (.inl (.int, 1600, 50)) else bif Nat.beq r 51 then some (.inl (.int, 801, 51)) else none)) else (bif Nat.ble r 52 then (bif Nat.beq r 52 then some (.inl (.int, 801, 52)) else none) else (bif Nat.beq r 53 then some (.inl (.long, 60, 53)) else bif Nat.beq r 54 then some (.inl (.int, 60, 54)) else none)))) else (bif Nat.ble r 59 then (bif Nat.ble r 56 then (bif Nat.beq r 55 then some (.inl (.boolean, 60, 55)) else bif Nat.beq r 56 then some (.inl (.int, 60, 56)) else none) else (bif Nat.ble r 57 then (bif Nat.beq r 57 then some (.inl (.int, 60, 57)) else none) else (bif Nat.beq r 58 then some (.inl (.int, 40, 58)) else bif Nat.beq r 59 then some (.inl (.int, 40, 59)) else none))) else (bif Nat.ble r 62 then (bif Nat.ble r 60 then (bif Nat.beq r 60 then some (.inl (.int, 960, 60)) else none) else (bif Nat.beq r 61 then some (.inl (.int, 40, 61)) else bif Nat.beq r 62 then some (.inl (.boolean, 40, 62)) else none)) else (bif Nat.ble r 63 then (bif Nat.beq r 63 then some (.inl (.int, 40, 63)) else none) else (bif Nat.beq r 64 then some (.inl (.int, 40, 64)) else bif Nat.beq r 65 then some (.inl (.int, 40, 65)) else none))))) else (bif Nat.ble r 76 then (bif Nat.ble r 70 then (bif Nat.ble r 67 then (bif Nat.beq r 66 then some (.inl (.int, 40, 66)) else bif Nat.beq r 67 then some (.inl (.int, 40, 67)) else none) else (bif Nat.ble r 68 then (bif Nat.beq r 68 then some (.inl (.int, 41, 68)) else none) else (bif Nat.beq r 69 then some (.inl (.int, 1640, 69)) else bif Nat.beq r 70 then some (.inl (.int, 41, 70)) else none))) else (bif Nat.ble r 73 then (bif Nat.ble r 71 then (bif Nat.beq r 71 then some (.inl (.int, 1640, 71)) else none) else (bif Nat.beq r 72 then some (.inl (.int, 1640, 72)) else bif Nat.beq r 73 then some (.inl (.int, 41, 73)) else none)) else (bif Nat.ble r 74 then (bif Nat.beq r 74 then some (.inl (.int, 41, 74)) else none) else (bif Nat.beq r 75 then some (.inl (.int, 41, 75)) else bif Nat.beq r 76 then some (.inl (.int, 1640, 76)) else none)))) else (bif Nat.ble r 82 then (bif Nat.ble r 79 then (bif Nat.ble r 77 then (bif Nat.beq r 77 then some (.inl (.boolean, 41, 77)) else none) else (bif Nat.beq r 78 then some (.inl (.boolean, 41, 78)) else bif Nat.beq r 79 then some (.inl (.int, 24, 79)) else none)) else (bif Nat.ble r 80 then (bif Nat.beq r 80 then some (.inl (.boolean, 60, 80)) else none) else (bif Nat.beq r 81 then some (.inl (.int, 60, 81)) else bif Nat.beq r 82 then some (.inl (.int, 384, 82)) else none))) else (bif Nat.ble r 85 then (bif Nat.ble r 83 then (bif Nat.beq r 83 then some (.inl (.int, 16, 83)) else none) else (bif Nat.beq r 84 then some (.inl (.int, 384, 84)) else bif Nat.beq r 85 then some (.inl (.int, 16, 85)) else none)) else (bif Nat.ble r 86 then (bif Nat.beq r 86 then some (.inl (.int, 60, 86)) else none) else (bif Nat.beq r 87 then some (.inl (.int, 600, 87)) else bif Nat.beq r 88 then some (.inl (.int, 20, 88)) else none)))))))
theorem ly_ok : ∀ r, r < 89 → ly_F r = ly_L[r]? ∧ (ly_F r).map ly_i = some r := fun r h => match r, h with
  | 0, _ => ⟨rfl, rfl⟩
  | 1, _ => ⟨rfl, rfl⟩
  | 2, _ => ⟨rfl, rfl⟩
  | 3, _ => ⟨rfl, rfl⟩
  | 4, _ => ⟨rfl, rfl⟩
  | 5, _ => ⟨rfl, rfl⟩
  | 6, _ => ⟨rfl, rfl⟩
  | 7, _ => ⟨rfl, rfl⟩
  | 8, _ => ⟨rfl, rfl⟩
  | 9, _ => ⟨rfl, rfl⟩
  | 10, _ => ⟨rfl, rfl⟩
  | 11, _ => ⟨rfl, rfl⟩
  | 12, _ => ⟨rfl, rfl⟩
  | 13, _ => ⟨rfl, rfl⟩
  | 14, _ => ⟨rfl, rfl⟩
  | 15, _ => ⟨rfl, rfl⟩
  | 16, _ => ⟨rfl, rfl⟩
  | 17, _ => ⟨rfl, rfl⟩
  | 18, _ => ⟨rfl, rfl⟩
  | 19, _ => ⟨rfl, rfl⟩
  | 20, _ => ⟨rfl, rfl⟩
  | 21, _ => ⟨rfl, rfl⟩
  | 22, _ => ⟨rfl, rfl⟩
  | 23, _ => ⟨rfl, rfl⟩
  | 24, _ => ⟨rfl, rfl⟩
  | 25, _ => ⟨rfl, rfl⟩
  | 26, _ => ⟨rfl, rfl⟩
  | 27, _ => ⟨rfl, rfl⟩
  | 28, _ => ⟨rfl, rfl⟩
  | 29, _ => ⟨rfl, rfl⟩
  | 30, _ => ⟨rfl, rfl⟩
  | 31, _ => ⟨rfl, rfl⟩
  | 32, _ => ⟨rfl, rfl⟩
  | 33, _ => ⟨rfl, rfl⟩
  | 34, _ => ⟨rfl, rfl⟩
  | 35, _ => ⟨rfl, rfl⟩
  | 36, _ => ⟨rfl, rfl⟩
  | 37, _ => ⟨rfl, rfl⟩
  | 38, _ => ⟨rfl, rfl⟩
  | 39, _ => ⟨rfl, rfl⟩
  | 40, _ => ⟨rfl, rfl⟩
  | 41, _ => ⟨rfl, rfl⟩
  | 42, _ => ⟨rfl, rfl⟩
  | 43, _ => ⟨rfl, rfl⟩
  | 44, _ => ⟨rfl, rfl⟩
  | 45, _ => ⟨rfl, rfl⟩
  | 46, _ => ⟨rfl, rfl⟩
  | 47, _ => ⟨rfl, rfl⟩
  | 48, _ => ⟨rfl, rfl⟩
  | 49, _ => ⟨rfl, rfl⟩
  | 50, _ => ⟨rfl, rfl⟩
  | 51, _ => ⟨rfl, rfl⟩
  | 52, _ => ⟨rfl, rfl⟩
  | 53, _ => ⟨rfl, rfl⟩
  | 54, _ => ⟨rfl, rfl⟩
  | 55, _ => ⟨rfl, rfl⟩
  | 56, _ => ⟨rfl, rfl⟩
  | 57, _ => ⟨rfl, rfl⟩
  | 58, _ => ⟨rfl, rfl⟩
  | 59, _ => ⟨rfl, rfl⟩
  | 60, _ => ⟨rfl, rfl⟩
  | 61, _ => ⟨rfl, rfl⟩
  | 62, _ => ⟨rfl, rfl⟩
  | 63, _ => ⟨rfl, rfl⟩
  | 64, _ => ⟨rfl, rfl⟩
  | 65, _ => ⟨rfl, rfl⟩
  | 66, _ => ⟨rfl, rfl⟩
  | 67, _ => ⟨rfl, rfl⟩
  | 68, _ => ⟨rfl, rfl⟩
  | 69, _ => ⟨rfl, rfl⟩
  | 70, _ => ⟨rfl, rfl⟩
  | 71, _ => ⟨rfl, rfl⟩
  | 72, _ => ⟨rfl, rfl⟩
  | 73, _ => ⟨rfl, rfl⟩
  | 74, _ => ⟨rfl, rfl⟩
  | 75, _ => ⟨rfl, rfl⟩
  | 76, _ => ⟨rfl, rfl⟩
  | 77, _ => ⟨rfl, rfl⟩
  | 78, _ => ⟨rfl, rfl⟩
  | 79, _ => ⟨rfl, rfl⟩
  | 80, _ => ⟨rfl, rfl⟩
  | 81, _ => ⟨rfl, rfl⟩
  | 82, _ => ⟨rfl, rfl⟩
  | 83, _ => ⟨rfl, rfl⟩
  | 84, _ => ⟨rfl, rfl⟩
  | 85, _ => ⟨rfl, rfl⟩
  | 86, _ => ⟨rfl, rfl⟩
  | 87, _ => ⟨rfl, rfl⟩
  | 88, _ => ⟨rfl, rfl⟩
  | n + 89, h => absurd h (by omega)
theorem ly_big (r : Nat) (h : 89 ≤ r) : ly_F r = none := by unfold ly_F; rw [Nat.ble_eq_true_of_le h]; rfl
theorem ly_at {r : Nat} {c : am_LC} (h : ly_F r = some c) : ly_L[r]? = some c ∧ ly_i c = r := by
  by_cases hr : r < 89
  · obtain ⟨h2, h3⟩ := ly_ok r hr
    rw [h] at h2 h3
    exact ⟨h2.symm, Option.some.inj h3⟩
  · rw [ly_big r (by omega)] at h; cases h
/-- the heap of g -/
def hp (g : G2) : am_H := ly_L.map (ly_c g)
theorem hp_at {g : G2} {r : Nat} {c : am_LC} (h : ly_F r = some c) : (hp g)[r]? = some (ly_c g c) := by
  unfold hp
  rw [List.getElem?_map, (ly_at h).1]; rfl
theorem hp_len (g : G2) : (hp g).length = 89 := by
  unfold hp; rw [List.length_map]; rfl
theorem ly_pl {r : Nat} {c : am_LC} (h : ly_L[r]? = some c) : ly_i c = r := by
  have hr : r < 89 := (List.getElem?_eq_some_iff.mp h).1
  obtain ⟨h2, h3⟩ := ly_ok r hr
  rw [h] at h2
  exact (ly_at h2).2
def o2_get (g : G2) (ci r k : Nat) : Option am_V := match ly_F r with
  | some (.inr (c, i, fs)) => bif Nat.beq c ci then (fs[k]?).map (ly_v g i k) else none
  | _ => none
def o2_putv (g : G2) (r k : Nat) (f : Option am_LF) (v : am_V) : Option G2 := match f, v with
  | some (.inl 0), .inl z => some (am_upd g.1 r (am_upd (g.1 r) k z), g.2)
  | some (.inl (_ + 1)), .inr (.inl x) => some (g.1, am_upd g.2.1 r (am_upd (g.2.1 r) k x), g.2.2)
  | _, _ => none
def o2_put (g : G2) (ci r k : Nat) (v : am_V) : Option G2 := match ly_F r with
  | some (.inr (c, i, fs)) => bif Nat.beq c ci then o2_putv g i k fs[k]? v else none
  | _ => none
def o2_arr (g : G2) (r : Nat) : Option am_A := match ly_F r with
  | some (.inl (.long, n, i)) => some (.long, n, .inr (g.2.2.2 i))
  | some (.inl (ty, n, i)) => some (ty, n, .inl (g.2.2.1 i))
  | _ => none
def o2_sarr (g : G2) (r : Nat) (F : am_F) : Option G2 := match ly_F r, F with
  | some (.inl (.long, _, i)), .inr f => some (g.1, g.2.1, g.2.2.1, am_upd g.2.2.2 i f)
  | some (.inl (.int, _, i)), .inl f => some (g.1, g.2.1, am_upd g.2.2.1 i f, g.2.2.2)
  | some (.inl (.byte, _, i)), .inl f => some (g.1, g.2.1, am_upd g.2.2.1 i f, g.2.2.2)
  | some (.inl (.boolean, _, i)), .inl f => some (g.1, g.2.1, am_upd g.2.2.1 i f, g.2.2.2)
  | _, _ => none
def o2_cls (_ : G2) (r : Nat) : Option Nat := match ly_F r with
  | some (.inr (c, _, _)) => some c
  | _ => none
def O2 : am_O G2 := (o2_get, o2_put, o2_arr, o2_sarr, (fun _ _ _ _ => none), (fun _ _ _ _ _ _ => none), o2_cls)
theorem ly_but_A (g : G2) (r : Nat) (f : Nat → Int) : ly_but r g (g.1, g.2.1, am_upd g.2.2.1 r f, g.2.2.2) := fun i hi => ⟨rfl, rfl, by simp [am_upd, hi], rfl⟩
theorem hp_sarr {g g' : G2} {r : Nat} {c : am_LC} (hc : ly_F r = some c) (hb : ly_but r g g') : hp g' = (hp g).set r (ly_c g' c) := by
  have hlt : r < (hp g).length := by
    have h1 := (List.getElem?_eq_some_iff.mp (hp_at (g := g) hc)).1
    exact h1
  refine List.ext_getElem? (fun j => ?_)
  by_cases hj : j = r
  · subst hj
    rw [List.getElem?_set_self hlt, hp_at hc]
  · rw [List.getElem?_set_ne (Ne.symm hj)]
    unfold hp
    rw [List.getElem?_map, List.getElem?_map]
    cases hq : ly_L[j]? with
    | none => rfl
    | some e =>
      show some (ly_c g' e) = some (ly_c g e)
      rw [ly_c_same hb e (by rw [ly_pl hq]; exact hj)]
theorem O2_law : am_Law O2 hp := by
  refine ⟨?_, ?_, ?_, ?_, ?_, ?_, ?_⟩
  · intro g ci r k v h
    replace h : o2_get g ci r k = some v := h
    unfold o2_get at h
    split at h
    · next c i fs hc =>
      cases hb : Nat.beq c ci with
      | false => rw [hb] at h; cases h
      | true =>
        rw [hb] at h
        have e := Nat.eq_of_beq_eq_true hb
        subst e
        refine ⟨ly_f g i 0 fs, hp_at hc, ?_⟩
        rw [ly_f_get, Nat.zero_add]
        exact h
    · cases h
  · intro g ci r k v g' h
    replace h : o2_put g ci r k v = some g' := h
    unfold o2_put at h
    split at h
    · next c i fs hc =>
      have hi : i = r := (ly_at hc).2
      subst hi
      cases hb : Nat.beq c ci with
      | false => rw [hb] at h; cases h
      | true =>
        rw [hb] at h
        have e := Nat.eq_of_beq_eq_true hb
        subst e
        replace h : o2_putv g i k fs[k]? v = some g' := h
        unfold o2_putv at h
        split at h
        · next z hf =>
          cases h
          refine ⟨ly_f g i 0 fs, hp_at hc, by rw [ly_f_len]; exact (List.getElem?_eq_some_iff.mp hf).1, ?_⟩
          rw [hp_sarr (g := g) (g' := (am_upd g.1 i (am_upd (g.1 i) k z), g.2)) hc (fun j hj => ⟨by simp [am_upd, hj], rfl, rfl, rfl⟩)]
          show (hp g).set i (.inr (c, ly_f _ i 0 fs)) = _
          rw [ly_f_setI fs 0 k (by omega) hf]
        · next q x hf =>
          cases h
          refine ⟨ly_f g i 0 fs, hp_at hc, by rw [ly_f_len]; exact (List.getElem?_eq_some_iff.mp hf).1, ?_⟩
          rw [hp_sarr (g := g) (g' := (g.1, am_upd g.2.1 i (am_upd (g.2.1 i) k x), g.2.2)) hc (fun j hj => ⟨rfl, by simp [am_upd, hj], rfl, rfl⟩)]
          show (hp g).set i (.inr (c, ly_f _ i 0 fs)) = _
          rw [ly_f_setJ fs 0 k (by omega) hf]
        · cases h
    · cases h
  · intro g r a h
    replace h : o2_arr g r = some a := h
    unfold o2_arr at h
    split at h
    · next n i hc => cases h; exact hp_at hc
    · next ty n i hno hc =>
      cases h
      rw [hp_at hc]
      cases ty <;> first | rfl | exact absurd rfl hno
    · cases h
  · intro g r ty n F F' g' h1 h2
    replace h1 : o2_arr g r = some (ty, n, F) := h1
    replace h2 : o2_sarr g r F' = some g' := h2
    unfold o2_sarr at h2
    unfold o2_arr at h1
    split at h2
    · next m i f hc =>
      have hi : i = r := (ly_at hc).2
      subst hi
      rw [hc] at h1
      cases h1
      cases h2
      rw [hp_sarr (g := g) (g' := (g.1, g.2.1, g.2.2.1, am_upd g.2.2.2 i f)) hc (fun j hj => ⟨rfl, rfl, rfl, by simp [am_upd, hj]⟩)]
      show (hp g).set i (.inl (.long, n, .inr (am_upd g.2.2.2 i f i))) = _
      simp [am_upd]
    · next m i f hc =>
      have hi : i = r := (ly_at hc).2
      subst hi
      rw [hc] at h1
      cases h1
      cases h2
      rw [hp_sarr (g := g) hc (ly_but_A g i f)]
      show (hp g).set i (.inl (.int, n, .inl (am_upd g.2.2.1 i f i))) = _
      simp [am_upd]
    · next m i f hc =>
      have hi : i = r := (ly_at hc).2
      subst hi
      rw [hc] at h1
      cases h1
      cases h2
      rw [hp_sarr (g := g) hc (ly_but_A g i f)]
      show (hp g).set i (.inl (.byte, n, .inl (am_upd g.2.2.1 i f i))) = _
      simp [am_upd]
    · next m i f hc =>
      have hi : i = r := (ly_at hc).2
      subst hi
      rw [hc] at h1
      cases h1
      cases h2
      rw [hp_sarr (g := g) hc (ly_but_A g i f)]
      show (hp g).set i (.inl (.boolean, n, .inl (am_upd g.2.2.1 i f i))) = _
      simp [am_upd]
    · cases h2
  · intro g N S ci q h; cases h
  · intro g N S ty n F q h; cases h
  · intro g r ci h
    replace h : o2_cls g r = some ci := h
    unfold o2_cls at h
    split at h
    · next c i fs hc => cases h; exact ⟨_, hp_at hc⟩
    · cases h
theorem ly_sz {g g' : G2} (l : List am_LC) : am_sl (l.map (ly_c g)) = am_sl (l.map (ly_c g')) := by
  induction l with
  | nil => rfl
  | cons a t ih =>
    simp only [List.map_cons, am_sl, ih]
    congr 1
    match a with
    | .inr (ci, i, fs) => simp [ly_c, am_sz, ly_f_len]
    | .inl (ty, n, i) => cases ty <;> simp [ly_c, am_sz]
def g2_0 : G2 := (fun _ _ => 0, fun _ _ => 0, fun _ _ => 0, fun _ _ => 0)
theorem hp_sl (g : G2) : am_sl (hp g) = 20964 := by
  unfold hp
  rw [ly_sz (g' := g2_0)]
  decide +kernel
end
section
/-! ===== contracts over the tables of numbers ===== -/
def z0 : Nat → Int := fun _ => 0
/-- method mid, called with as, returns r and turns g into g' -/
def C2 (d : Nat) (mid : am_M) (as : List am_V) (g : G2) (r : Option am_V) (g' : G2) : Prop := Cl d mid as (hp g) r (hp g')
def am_rt (mid : am_M) (pc : Nat) (r : Option am_V) : Prop := (r = none ∧ am_ret mid = none ∧ decode (am_bytes mid) pc = .ok (.return_, 1)) ∨ (∃ x, r = some (vI x) ∧ am_ret mid = some .int ∧ decode (am_bytes mid) pc = .ok (.ireturn, 1)) ∨ (∃ x, r = some (vI x) ∧ (x = 0 ∨ x = 1) ∧ am_ret mid = some .boolean ∧ decode (am_bytes mid) pc = .ok (.ireturn, 1)) ∨ (∃ x, r = some (vL x) ∧ am_ret mid = some .long ∧ decode (am_bytes mid) pc = .ok (.lreturn, 1))
/-- from here the method returns r, and leaves g' -/
def Rt (d : Nat) (mid : am_M) (pc : Nat) (lv : am_L) (st : List am_V) (g : G2) (r : Option am_V) (g' : G2) : Prop := lv.length = am_maxL mid → ∃ pc' lv', am_rt mid pc' r ∧ Go d 89 20964 0 z0 mid pc lv st (hp g) pc' lv' r.toList (hp g')
section RT
variable {d : Nat} {mid mid' : am_M} {cd : Nat → Option am_I} {pc pc' nx u v : Nat} {lv lv' : am_L} {st st' : List am_V} {g g1 g' : G2} {r res : Option am_V} {P : Prop}
theorem Rt.path (hcd : am_CD mid cd) (n : Nat) (ch : List Nat) (hp : am_path cd O2 89 20964 0 z0 mid n ch pc lv st g = some (pc', lv', st', g1, P)) (hP : P) (k : Rt d mid pc' lv' st' g1 r g') : Rt d mid pc lv st g r g' := by
  intro hl
  obtain ⟨g2, l2⟩ := am_path_ok (d := d) hcd O2_law n ch pc lv st g pc' lv' st' g1 P hl hp hP
  obtain ⟨pc2, lv2, h1, h2⟩ := k l2
  exact ⟨pc2, lv2, h1, g2.trans h2⟩
theorem am_dec1 (hcd : am_CD mid cd) {ins : Instr} (hc : cd pc = some (ins, nx, u, v)) (hn : am_len ins ≠ 0) : decode (am_bytes mid) pc = .ok (ins, am_len ins) ∧ nx = pc + am_len ins := by
  obtain ⟨h1, h2, -⟩ := hcd _ _ _ _ _ hc
  rcases h2 with h2 | h2
  · exact absurd h2 hn
  · rw [h2, Nat.add_sub_cancel_left] at h1
    exact ⟨h1, h2⟩
theorem Rt.retI (hcd : am_CD mid cd) {x : Int} (hc : cd pc = some (.ireturn, nx, u, v)) (hr : am_ret mid = some .int) : Rt d mid pc lv [vI x] g (some (vI x)) g := fun _ => ⟨pc, lv, Or.inr (Or.inl ⟨x, rfl, hr, (am_dec1 hcd hc (Nat.succ_ne_zero _)).1⟩), Go.rfl'⟩
theorem Rt.retZ (hcd : am_CD mid cd) {x : Int} (hx : x = 0 ∨ x = 1) (hc : cd pc = some (.ireturn, nx, u, v)) (hr : am_ret mid = some .boolean) : Rt d mid pc lv [vI x] g (some (vI x)) g := fun _ => ⟨pc, lv, Or.inr (Or.inr (Or.inl ⟨x, rfl, hx, hr, (am_dec1 hcd hc (Nat.succ_ne_zero _)).1⟩)), Go.rfl'⟩
theorem Rt.retL (hcd : am_CD mid cd) {x : Int64} (hc : cd pc = some (.lreturn, nx, u, v)) (hr : am_ret mid = some .long) : Rt d mid pc lv [vL x] g (some (vL x)) g := fun _ => ⟨pc, lv, Or.inr (Or.inr (Or.inr ⟨x, rfl, hr, (am_dec1 hcd hc (Nat.succ_ne_zero _)).1⟩)), Go.rfl'⟩
theorem Rt.retV (hcd : am_CD mid cd) (hc : cd pc = some (.return_, nx, u, v)) (hr : am_ret mid = none) : Rt d mid pc lv [] g none g := fun _ => ⟨pc, lv, Or.inl ⟨rfl, hr, (am_dec1 hcd hc (Nat.succ_ne_zero _)).1⟩, Go.rfl'⟩
theorem Rt.callV (hcd : am_CD mid cd) {idx : Nat} (hc : cd pc = some (.invokevirtual idx, nx, u, v)) (hk : Jvm.Cond.methodLink (am_own mid) idx (am_y mid') ∈ am_TS) (as : List am_V) (cf : am_cfV mid' as.length) {k ci nF : Nat} {T : u_T} (ho : o2_cls g k = some ci) (hcl : am_cl[ci]? = some ((am_y mid').cls, T, nF)) (C : C2 d mid' (vR (k + 1) :: as) g res g1) (hst : am_sum st ≤ 8) (kk : Rt (d + 1) mid nx lv (res.toList ++ st) g1 r g') : Rt (d + 1) mid pc lv (as.reverse ++ vR (k + 1) :: st) g r g' := by
  intro hl
  obtain ⟨h1, h2⟩ := am_dec1 hcd hc (Nat.succ_ne_zero _)
  obtain ⟨fs, hf⟩ := O2_law.2.2.2.2.2.2 g k ci ho
  obtain ⟨pc2, lv2, h3, h4⟩ := kk hl
  refine ⟨pc2, lv2, h3, (Go.callV h1 hk cf hcl hf C hst hl (by rw [hp_len]; exact Nat.le_refl _) (by rw [hp_sl]; exact Nat.le_refl _)).trans ?_⟩
  have h2 : nx = pc + 3 := h2
  rw [← h2]; exact h4
theorem Rt.callS (hcd : am_CD mid cd) {idx : Nat} (hc : cd pc = some (.invokestatic idx, nx, u, v)) (hk : Jvm.Cond.methodLink (am_own mid) idx (am_y mid') ∈ am_TS) (as : List am_V) (cf : am_cfS mid' as.length) (C : C2 d mid' as g res g1) (hst : am_sum st ≤ 8) (kk : Rt (d + 1) mid nx lv (res.toList ++ st) g1 r g') : Rt (d + 1) mid pc lv (as.reverse ++ st) g r g' := by
  intro hl
  obtain ⟨h1, h2⟩ := am_dec1 hcd hc (Nat.succ_ne_zero _)
  obtain ⟨pc2, lv2, h3, h4⟩ := kk hl
  refine ⟨pc2, lv2, h3, (Go.callS h1 hk cf C hst hl (by rw [hp_len]; exact Nat.le_refl _) (by rw [hp_sl]; exact Nat.le_refl _)).trans ?_⟩
  have h2 : nx = pc + 3 := h2
  rw [← h2]; exact h4
theorem C2.of {as : List am_V} (hy : plainName (am_y mid).cls = true) (hi : am_init mid = false) (h0 : am_law mid = false) (hn : (am_ea as).length ≤ am_maxL mid) (k : Rt d mid 0 (am_ent (am_maxL mid) as) [] g r g') : C2 d mid as g r g' := by
  have hlen : (am_ent (am_maxL mid) as).length = am_maxL mid := by simp [am_ent]; omega
  obtain ⟨pc2, lv2, h1, h2⟩ := k hlen
  refine Cl.body (lv' := lv2) hy (fun q => by rw [hi] at q; cases q) h0 hn (by rw [hp_len, hp_len]; exact Nat.le_refl _) (by rw [hp_sl, hp_sl]; exact Nat.le_refl _) ?_ h1
  rw [hp_len, hp_sl]
  exact h2
end RT
end
section
/-! ===== reads and writes of the tables; fewer locals ===== -/
abbrev ir (x : Int) : Prop := -2147483648 ≤ x ∧ x < 2147483648
abbrev rI (g : G2) (r k : Nat) : Int := g.1 r k
abbrev rJ (g : G2) (r k : Nat) : Int64 := g.2.1 r k
abbrev rA (g : G2) (r : Nat) (i : Int) : Int := g.2.2.1 r i.toNat
abbrev rB (g : G2) (r : Nat) (i : Int) : Int64 := g.2.2.2 r i.toNat
def gI (g : G2) (r k : Nat) (v : Int) : G2 := (am_upd g.1 r (am_upd (g.1 r) k v), g.2)
def gJ (g : G2) (r k : Nat) (v : Int64) : G2 := (g.1, am_upd g.2.1 r (am_upd (g.2.1 r) k v), g.2.2)
def gA (g : G2) (r : Nat) (i : Int) (v : Int) : G2 := (g.1, g.2.1, am_upd g.2.2.1 r (am_upd (g.2.2.1 r) i.toNat v), g.2.2.2)
def gB (g : G2) (r : Nat) (i : Int) (v : Int64) : G2 := (g.1, g.2.1, g.2.2.1, am_upd g.2.2.2 r (am_upd (g.2.2.2 r) i.toNat v))
def gC (g : G2) (s t : Nat) (sp dp n : Int) : G2 := (g.1, g.2.1, am_upd g.2.2.1 t (am_cpy (g.2.2.1 s) (g.2.2.1 t) sp.toNat dp.toNat n.toNat), g.2.2.2)
theorem am_cmp0 {x y : Int64} : am_cmp x y = 0 ↔ x = y := by
  unfold am_cmp
  by_cases h : y < x
  · rw [if_pos h]
    constructor
    · intro q; cases q
    · intro q; subst q; exact absurd h Int64.lt_irrefl
  · rw [if_neg h]
    by_cases h2 : x = y
    · simp [h2]
    · simp [h2]
theorem am_cmpIn (x y : Int64) : am_in (am_cmp x y) := by
  unfold am_cmp am_in
  split
  · omega
  · split <;> omega
theorem am_i32In (x : Int32) : am_in x.toInt := ⟨by have := x.le_toInt; omega, by have := x.toInt_lt; omega⟩
theorem am_andIn (x y : Int) : am_in (am_and x y) := am_i32In _
theorem am_l2iIn (x : Int64) : am_in (am_l2i x) := am_i32In _
theorem am_i2bIn (x : Int) : am_in (am_i2b x) := am_i32In _
/-- b knows at least what a knows -/
def am_le : am_L → am_L → Prop
  | [], [] => True
  | none :: a, _ :: b => am_le a b
  | some x :: a, some y :: b => x = y ∧ am_le a b
  | _, _ => False
theorem am_le_len : ∀ {a b : am_L}, am_le a b → a.length = b.length
  | [], [], _ => rfl
  | none :: a, _ :: b, h => by simp [am_le_len (show am_le a b from h)]
  | some _ :: a, some _ :: b, h => by simp [am_le_len h.2]
theorem am_le_at : ∀ {a b : am_L}, am_le a b → ∀ (i : Nat) (v : am_V), a[i]? = some (some v) → b[i]? = some (some v)
  | [], [], _, i, v, h => by simp at h
  | none :: a, _ :: b, h, i, v, hi => by
    cases i with
    | zero => simp at hi
    | succ i => simp at hi; simpa using am_le_at (show am_le a b from h) i v hi
  | some x :: a, some y :: b, h, i, v, hi => by
    cases i with
    | zero => simp at hi; subst hi; simp [h.1]
    | succ i => simp at hi; simpa using am_le_at h.2 i v hi
theorem Go.weak {d N S L : Nat} {xs : Nat → Int} {mid : am_M} {pc : Nat} {lv lv0 : am_L} {st : List am_V} {h : am_H} (hle : am_le lv0 lv) : Go d N S L xs mid pc lv st h pc lv0 st h :=
  fun _ _ _ _ _ _ _ _ _ _ _ _ _ _ _ _ _ _ kk H locs ls cells slots hl hP hS hc hs => kk H locs ls cells slots ⟨hl.1, by rw [hl.2.1, am_le_len hle], fun i v q => hl.2.2 i v (am_le_at hle i v q)⟩ hP hS hc hs
theorem Rt.weak {d : Nat} {mid : am_M} {pc : Nat} {lv lv0 : am_L} {st : List am_V} {g g' : G2} {r : Option am_V} (k : Rt d mid pc lv0 st g r g') (hle : am_le lv0 lv) : Rt d mid pc lv st g r g' := by
  intro hl
  obtain ⟨pc2, lv2, h1, h2⟩ := k (by rw [am_le_len hle]; exact hl)
  exact ⟨pc2, lv2, h1, (Go.weak hle).trans h2⟩
end
section
def b_Text_append_2_0 (L : Nat → Int64 → Int → Int → G2 → Option (Int × G2)) (l1 : Int64) (i3 : Int) (i4 : Int) (g : G2) : Option (Int × G2) :=
  if ir i4 then
  if ir i3 then
  if i4 < i3 then
    if (am_and (am_l2i (am_ushr l1 (8 * i4))) 255) < 32 then
      some ((-1), g)
    else
      if 126 < (am_and (am_l2i (am_ushr l1 (8 * i4))) 255) then
        some ((-1), g)
      else
        L 0 l1 i3 (i4 + 1) g
  else
    L 1 l1 i3 0 g
  else none
  else none
def b_Text_append_2_1 (L : Nat → Int64 → Int → Int → G2 → Option (Int × G2)) (l1 : Int64) (i3 : Int) (i4 : Int) (g : G2) : Option (Int × G2) :=
  if ir i4 then
  if ir i3 then
  if i4 < i3 then
    if 0 ≤ ((rI g 1 1) + i4) ∧ ((rI g 1 1) + i4) < ((1600 : Nat) : Int) ∧ ((1600 : Nat) : Int) < 2147483648 then
    if -128 ≤ (am_i2b (am_l2i (am_ushr l1 (8 * ((i3 - 1) - i4))))) ∧ (am_i2b (am_l2i (am_ushr l1 (8 * ((i3 - 1) - i4))))) ≤ 127 then
    L 1 l1 i3 (i4 + 1) (gA g 2 ((rI g 1 1) + i4) (am_i2b (am_l2i (am_ushr l1 (8 * ((i3 - 1) - i4))))))
    else none
    else none
  else
    some (((rI g 1 1) + i3), (gI g 1 1 ((rI g 1 1) + i3)))
  else none
  else none
def l_Text_append_2 : Nat → Nat → Int64 → Int → Int → G2 → Option (Int × G2)
  | 0 => fun _ _ _ _ _ => none
  | n + 1 => fun t l1 i3 i4 g => match t with
    | 0 => b_Text_append_2_0 (l_Text_append_2 n) l1 i3 i4 g
    | _ => b_Text_append_2_1 (l_Text_append_2 n) l1 i3 i4 g
set_option maxHeartbeats 4000000 in
set_option maxRecDepth 100000 in
theorem rl_Text_append_2 (d : Nat) : ∀ (n : Nat) (l1 : Int64) (i3 : Int) (i4 : Int) (g : G2) (r : Int) (g' : G2), (l_Text_append_2 n 0 l1 i3 i4 g = some (r, g') → Rt d m_Text_append 28 [some (vR 2), some (vL l1), none, some (vI i3), some (vI i4), none] [] g (some (vI r)) g') ∧ (l_Text_append_2 n 1 l1 i3 i4 g = some (r, g') → Rt d m_Text_append 73 [some (vR 2), some (vL l1), none, some (vI i3), some (vI i4), none] [] g (some (vI r)) g') := by
  intro n
  induction n with
  | zero => intro l1 i3 i4 g r g'; exact ⟨fun hf => (by cases hf), fun hf => (by cases hf)⟩
  | succ n ih =>
    intro l1 i3 i4 g r g'
    refine ⟨?_, ?_⟩
    · intro hf
      replace hf : b_Text_append_2_0 (l_Text_append_2 n) l1 i3 i4 g = some (r, g') := hf
      unfold b_Text_append_2_0 at hf
      have h6 : ir i4 := by
        by_cases q : ir i4
        · exact q
        · rw [if_neg q] at hf; cases hf
      rw [if_pos h6] at hf
      have h7 : ir i3 := by
        by_cases q : ir i3
        · exact q
        · rw [if_neg q] at hf; cases hf
      rw [if_pos h7] at hf
      by_cases h8 : i4 < i3
      · rw [if_pos h8] at hf
        refine Rt.path ok_Text_append 3 [0] rfl ⟨⟨⟨h6, h7⟩, h8⟩, trivial⟩ ?_
        by_cases h9 : (am_and (am_l2i (am_ushr l1 (8 * i4))) 255) < 32
        · rw [if_pos h9] at hf
          refine Rt.path ok_Text_append 12 [1] rfl ⟨⟨⟨(am_andIn _ _), ⟨by decide, by decide⟩⟩, h9⟩, trivial⟩ ?_
          cases hf
          refine Rt.path ok_Text_append 1 [] rfl trivial ?_
          exact Rt.retI ok_Text_append rfl rfl
        · rw [if_neg h9] at hf
          refine Rt.path ok_Text_append 12 [0] rfl ⟨⟨⟨(am_andIn _ _), ⟨by decide, by decide⟩⟩, (Int.not_lt.mp h9)⟩, trivial⟩ ?_
          by_cases h10 : 126 < (am_and (am_l2i (am_ushr l1 (8 * i4))) 255)
          · rw [if_pos h10] at hf
            refine Rt.path ok_Text_append 3 [0] rfl ⟨⟨⟨(am_andIn _ _), ⟨by decide, by decide⟩⟩, h10⟩, trivial⟩ ?_
            cases hf
            refine Rt.path ok_Text_append 1 [] rfl trivial ?_
            exact Rt.retI ok_Text_append rfl rfl
          · rw [if_neg h10] at hf
            refine Rt.path ok_Text_append 3 [1] rfl ⟨⟨⟨(am_andIn _ _), ⟨by decide, by decide⟩⟩, (Int.not_lt.mp h10)⟩, trivial⟩ ?_
            refine Rt.path ok_Text_append 2 [] rfl trivial ?_
            exact Rt.weak ((ih _ _ _ _ _ _).1 hf) ⟨rfl, rfl, rfl, rfl, trivial⟩
      · rw [if_neg h8] at hf
        refine Rt.path ok_Text_append 3 [1] rfl ⟨⟨⟨h6, h7⟩, (Int.not_lt.mp h8)⟩, trivial⟩ ?_
        refine Rt.path ok_Text_append 2 [] rfl trivial ?_
        exact Rt.weak ((ih _ _ _ _ _ _).2 hf) ⟨rfl, rfl, rfl, rfl, trivial⟩
    · intro hf
      replace hf : b_Text_append_2_1 (l_Text_append_2 n) l1 i3 i4 g = some (r, g') := hf
      unfold b_Text_append_2_1 at hf
      have h11 : ir i4 := by
        by_cases q : ir i4
        · exact q
        · rw [if_neg q] at hf; cases hf
      rw [if_pos h11] at hf
      have h12 : ir i3 := by
        by_cases q : ir i3
        · exact q
        · rw [if_neg q] at hf; cases hf
      rw [if_pos h12] at hf
      by_cases h13 : i4 < i3
      · rw [if_pos h13] at hf
        refine Rt.path ok_Text_append 3 [0] rfl ⟨⟨⟨h11, h12⟩, h13⟩, trivial⟩ ?_
        have h14 : 0 ≤ ((rI g 1 1) + i4) ∧ ((rI g 1 1) + i4) < ((1600 : Nat) : Int) ∧ ((1600 : Nat) : Int) < 2147483648 := by
          by_cases q : 0 ≤ ((rI g 1 1) + i4) ∧ ((rI g 1 1) + i4) < ((1600 : Nat) : Int) ∧ ((1600 : Nat) : Int) < 2147483648
          · exact q
          · rw [if_neg q] at hf; cases hf
        rw [if_pos h14] at hf
        have h15 : -128 ≤ (am_i2b (am_l2i (am_ushr l1 (8 * ((i3 - 1) - i4))))) ∧ (am_i2b (am_l2i (am_ushr l1 (8 * ((i3 - 1) - i4))))) ≤ 127 := by
          by_cases q : -128 ≤ (am_i2b (am_l2i (am_ushr l1 (8 * ((i3 - 1) - i4))))) ∧ (am_i2b (am_l2i (am_ushr l1 (8 * ((i3 - 1) - i4))))) ≤ 127
          · exact q
          · rw [if_neg q] at hf; cases hf
        rw [if_pos h15] at hf
        refine Rt.path ok_Text_append 20 [] rfl ⟨⟨h14, h15⟩, trivial⟩ ?_
        exact Rt.weak ((ih _ _ _ _ _ _).2 hf) ⟨rfl, rfl, rfl, rfl, trivial⟩
      · rw [if_neg h13] at hf
        refine Rt.path ok_Text_append 3 [1] rfl ⟨⟨⟨h11, h12⟩, (Int.not_lt.mp h13)⟩, trivial⟩ ?_
        cases hf
        refine Rt.path ok_Text_append 8 [] rfl trivial ?_
        exact Rt.retI ok_Text_append rfl rfl
def f_Text_append_2 (a1 : Int64) (a3 : Int) (g : G2) : Option (Int × G2) :=
  if ir a3 then
  if a3 < 1 then
    some ((-1), g)
  else
    if 8 < a3 then
      some ((-1), g)
    else
      if ir ((rI g 1 1) + a3) then
      if 1600 < ((rI g 1 1) + a3) then
        some ((-1), g)
      else
        l_Text_append_2 20000 0 a1 a3 0 g
      else none
  else none
set_option maxHeartbeats 4000000 in
set_option maxRecDepth 100000 in
theorem c_Text_append_2 (d : Nat) (a1 : Int64) (a3 : Int) (g : G2) (r : Int) (g' : G2) (hf : f_Text_append_2 a1 a3 g = some (r, g')) : C2 d m_Text_append [vR 2, vL a1, vI a3] g (some (vI r)) g' := by
  unfold f_Text_append_2 at hf
  refine C2.of rfl rfl rfl (Nat.le_of_ble_eq_true rfl) ?_
  have h1 : ir a3 := by
    by_cases q : ir a3
    · exact q
    · rw [if_neg q] at hf; cases hf
  rw [if_pos h1] at hf
  by_cases h2 : a3 < 1
  · rw [if_pos h2] at hf
    refine Rt.path ok_Text_append 3 [1] rfl ⟨⟨⟨h1, ⟨by decide, by decide⟩⟩, h2⟩, trivial⟩ ?_
    cases hf
    refine Rt.path ok_Text_append 1 [] rfl trivial ?_
    exact Rt.retI ok_Text_append rfl rfl
  · rw [if_neg h2] at hf
    refine Rt.path ok_Text_append 3 [0] rfl ⟨⟨⟨h1, ⟨by decide, by decide⟩⟩, (Int.not_lt.mp h2)⟩, trivial⟩ ?_
    by_cases h3 : 8 < a3
    · rw [if_pos h3] at hf
      refine Rt.path ok_Text_append 3 [1] rfl ⟨⟨⟨h1, ⟨by decide, by decide⟩⟩, h3⟩, trivial⟩ ?_
      cases hf
      refine Rt.path ok_Text_append 1 [] rfl trivial ?_
      exact Rt.retI ok_Text_append rfl rfl
    · rw [if_neg h3] at hf
      refine Rt.path ok_Text_append 3 [0] rfl ⟨⟨⟨h1, ⟨by decide, by decide⟩⟩, (Int.not_lt.mp h3)⟩, trivial⟩ ?_
      have h4 : ir ((rI g 1 1) + a3) := by
        by_cases q : ir ((rI g 1 1) + a3)
        · exact q
        · rw [if_neg q] at hf; cases hf
      rw [if_pos h4] at hf
      by_cases h5 : 1600 < ((rI g 1 1) + a3)
      · rw [if_pos h5] at hf
        refine Rt.path ok_Text_append 6 [0] rfl ⟨⟨⟨h4, ⟨by decide, by decide⟩⟩, h5⟩, trivial⟩ ?_
        cases hf
        refine Rt.path ok_Text_append 1 [] rfl trivial ?_
        exact Rt.retI ok_Text_append rfl rfl
      · rw [if_neg h5] at hf
        refine Rt.path ok_Text_append 6 [1] rfl ⟨⟨⟨h4, ⟨by decide, by decide⟩⟩, (Int.not_lt.mp h5)⟩, trivial⟩ ?_
        refine Rt.path ok_Text_append 2 [] rfl trivial ?_
        exact Rt.weak ((rl_Text_append_2 d _ _ _ _ _ _ _).1 hf) ⟨rfl, rfl, rfl, rfl, trivial⟩
def f_L_feed_1 (a1 : Int64) (a3 : Int) (g : G2) : Option (Int × G2) :=
  (f_Text_append_2 a1 a3 g).bind fun q1 =>
  some (q1.1, q1.2)
set_option maxHeartbeats 4000000 in
set_option maxRecDepth 100000 in
theorem c_L_feed_1 (d : Nat) (a1 : Int64) (a3 : Int) (g : G2) (r : Int) (g' : G2) (hf : f_L_feed_1 a1 a3 g = some (r, g')) : C2 (d + 1) m_L_feed [vR 1, vL a1, vI a3] g (some (vI r)) g' := by
  unfold f_L_feed_1 at hf
  refine C2.of rfl rfl rfl (Nat.le_of_ble_eq_true rfl) ?_
  obtain ⟨q1, e1, hf⟩ := Option.bind_eq_some_iff.mp hf
  refine Rt.path ok_L_feed 4 [] rfl trivial ?_
  refine Rt.callV ok_L_feed rfl ml_L_50 [vL _, vI _] cf_Text_append rfl rfl (c_Text_append_2 d _ _ _ _ _ e1) (Nat.le_of_ble_eq_true rfl) ?_
  cases hf
  exact Rt.retI ok_L_feed rfl rfl
def f_Text_empty_2  (g : G2) : Option (Int × G2) :=
  some ((rI g 1 1), (gI g 1 1 0))
set_option maxHeartbeats 4000000 in
set_option maxRecDepth 100000 in
theorem c_Text_empty_2 (d : Nat)  (g : G2) (r : Int) (g' : G2) (hf : f_Text_empty_2 g = some (r, g')) : C2 d m_Text_empty [vR 2] g (some (vI r)) g' := by
  unfold f_Text_empty_2 at hf
  refine C2.of rfl rfl rfl (Nat.le_of_ble_eq_true rfl) ?_
  cases hf
  refine Rt.path ok_Text_empty 7 [] rfl trivial ?_
  exact Rt.retI ok_Text_empty rfl rfl
def f_L_clear_1  (g : G2) : Option (Int × G2) :=
  (f_Text_empty_2 g).bind fun q1 =>
  some (q1.1, q1.2)
set_option maxHeartbeats 4000000 in
set_option maxRecDepth 100000 in
theorem c_L_clear_1 (d : Nat)  (g : G2) (r : Int) (g' : G2) (hf : f_L_clear_1 g = some (r, g')) : C2 (d + 1) m_L_clear [vR 1] g (some (vI r)) g' := by
  unfold f_L_clear_1 at hf
  refine C2.of rfl rfl rfl (Nat.le_of_ble_eq_true rfl) ?_
  obtain ⟨q1, e1, hf⟩ := Option.bind_eq_some_iff.mp hf
  refine Rt.path ok_L_clear 2 [] rfl trivial ?_
  refine Rt.callV ok_L_clear rfl ml_L_54 [] cf_Text_empty rfl rfl (c_Text_empty_2 d _ _ _ e1) (Nat.le_of_ble_eq_true rfl) ?_
  cases hf
  exact Rt.retI ok_L_clear rfl rfl
def f_Text_rewind_2  (g : G2) : Option (G2) :=
  some (gI (gI (gI g 1 2 0) 1 4 0) 1 7 0)
set_option maxHeartbeats 4000000 in
set_option maxRecDepth 100000 in
theorem c_Text_rewind_2 (d : Nat)  (g : G2) (g' : G2) (hf : f_Text_rewind_2 g = some g') : C2 d m_Text_rewind [vR 2] g none g' := by
  unfold f_Text_rewind_2 at hf
  refine C2.of rfl rfl rfl (Nat.le_of_ble_eq_true rfl) ?_
  cases hf
  refine Rt.path ok_Text_rewind 9 [] rfl ⟨(by omega), trivial⟩ ?_
  exact Rt.retV ok_Text_rewind rfl rfl
def f_Names_begin_4  (g : G2) : Option (G2) :=
  some (gJ (gI (gI g 3 3 0) 3 4 0) 3 5 (Int64.ofNat 0))
set_option maxHeartbeats 4000000 in
set_option maxRecDepth 100000 in
theorem c_Names_begin_4 (d : Nat)  (g : G2) (g' : G2) (hf : f_Names_begin_4 g = some g') : C2 d m_Names_begin [vR 4] g none g' := by
  unfold f_Names_begin_4 at hf
  refine C2.of rfl rfl rfl (Nat.le_of_ble_eq_true rfl) ?_
  cases hf
  refine Rt.path ok_Names_begin 9 [] rfl trivial ?_
  exact Rt.retV ok_Names_begin rfl rfl
def b_J_fill_29_0 (L : Nat → Int64 → Int → Int → G2 → Option (G2)) (l1 : Int64) (i3 : Int) (i4 : Int) (g : G2) : Option (G2) :=
  if ir i3 then
  if ir i4 then
  if i3 < i4 then
    if 0 ≤ i3 ∧ i3 < ((60 : Nat) : Int) ∧ ((60 : Nat) : Int) < 2147483648 then
    L 0 l1 (i3 + 1) i4 (gB g 28 i3 l1)
    else none
  else
    some g
  else none
  else none
def l_J_fill_29 : Nat → Nat → Int64 → Int → Int → G2 → Option (G2)
  | 0 => fun _ _ _ _ _ => none
  | n + 1 => fun t l1 i3 i4 g => match t with
    | _ => b_J_fill_29_0 (l_J_fill_29 n) l1 i3 i4 g
set_option maxHeartbeats 4000000 in
set_option maxRecDepth 100000 in
theorem rl_J_fill_29 (d : Nat) : ∀ (n : Nat) (l1 : Int64) (i3 : Int) (i4 : Int) (g : G2) (g' : G2), (l_J_fill_29 n 0 l1 i3 i4 g = some g' → Rt d m_J_fill 6 [some (vR 29), some (vL l1), none, some (vI i3), some (vI i4)] [] g none g') := by
  intro n
  induction n with
  | zero => intro l1 i3 i4 g g'; exact fun hf => by cases hf
  | succ n ih =>
    intro l1 i3 i4 g g'
    intro hf
    replace hf : b_J_fill_29_0 (l_J_fill_29 n) l1 i3 i4 g = some g' := hf
    unfold b_J_fill_29_0 at hf
    have h1 : ir i3 := by
      by_cases q : ir i3
      · exact q
      · rw [if_neg q] at hf; cases hf
    rw [if_pos h1] at hf
    have h2 : ir i4 := by
      by_cases q : ir i4
      · exact q
      · rw [if_neg q] at hf; cases hf
    rw [if_pos h2] at hf
    by_cases h3 : i3 < i4
    · rw [if_pos h3] at hf
      refine Rt.path ok_J_fill 3 [0] rfl ⟨⟨⟨h1, h2⟩, h3⟩, trivial⟩ ?_
      have h4 : 0 ≤ i3 ∧ i3 < ((60 : Nat) : Int) ∧ ((60 : Nat) : Int) < 2147483648 := by
        by_cases q : 0 ≤ i3 ∧ i3 < ((60 : Nat) : Int) ∧ ((60 : Nat) : Int) < 2147483648
        · exact q
        · rw [if_neg q] at hf; cases hf
      rw [if_pos h4] at hf
      refine Rt.path ok_J_fill 6 [] rfl ⟨h4, trivial⟩ ?_
      exact Rt.weak ((ih _ _ _ _ _) hf) ⟨rfl, rfl, rfl, rfl, trivial⟩
    · rw [if_neg h3] at hf
      refine Rt.path ok_J_fill 3 [1] rfl ⟨⟨⟨h1, h2⟩, (Int.not_lt.mp h3)⟩, trivial⟩ ?_
      cases hf
      exact Rt.retV ok_J_fill rfl rfl
def f_J_fill_29 (a1 : Int64) (g : G2) : Option (G2) :=
  l_J_fill_29 20000 0 a1 0 60 g
set_option maxHeartbeats 4000000 in
set_option maxRecDepth 100000 in
theorem c_J_fill_29 (d : Nat) (a1 : Int64) (g : G2) (g' : G2) (hf : f_J_fill_29 a1 g = some g') : C2 d m_J_fill [vR 29, vL a1] g none g' := by
  unfold f_J_fill_29 at hf
  refine C2.of rfl rfl rfl (Nat.le_of_ble_eq_true rfl) ?_
  refine Rt.path ok_J_fill 5 [] rfl trivial ?_
  exact Rt.weak ((rl_J_fill_29 d _ _ _ _ _ _) hf) ⟨rfl, rfl, rfl, rfl, trivial⟩
def f_Context_firstOf (a0 : Int) (g : G2) : Option (Int × G2) :=
  if 0 ≤ a0 ∧ a0 < 2147483648 ∧ 0 < 60 ∧ 60 < 2147483648 then
  some ((a0 / 60), g)
  else none
set_option maxHeartbeats 4000000 in
set_option maxRecDepth 100000 in
theorem c_Context_firstOf (d : Nat) (a0 : Int) (g : G2) (r : Int) (g' : G2) (hf : f_Context_firstOf a0 g = some (r, g')) : C2 d m_Context_firstOf [vI a0] g (some (vI r)) g' := by
  unfold f_Context_firstOf at hf
  refine C2.of rfl rfl rfl (Nat.le_of_ble_eq_true rfl) ?_
  have h1 : 0 ≤ a0 ∧ a0 < 2147483648 ∧ 0 < 60 ∧ 60 < 2147483648 := by
    by_cases q : 0 ≤ a0 ∧ a0 < 2147483648 ∧ 0 < 60 ∧ 60 < 2147483648
    · exact q
    · rw [if_neg q] at hf; cases hf
  rw [if_pos h1] at hf
  cases hf
  refine Rt.path ok_Context_firstOf 3 [] rfl ⟨h1, trivial⟩ ?_
  exact Rt.retI ok_Context_firstOf rfl rfl
def f_Context_secondOf (a0 : Int) (g : G2) : Option (Int × G2) :=
  if 0 ≤ a0 ∧ a0 < 2147483648 ∧ 0 < 60 ∧ 60 < 2147483648 then
  some ((a0 % 60), g)
  else none
set_option maxHeartbeats 4000000 in
set_option maxRecDepth 100000 in
theorem c_Context_secondOf (d : Nat) (a0 : Int) (g : G2) (r : Int) (g' : G2) (hf : f_Context_secondOf a0 g = some (r, g')) : C2 d m_Context_secondOf [vI a0] g (some (vI r)) g' := by
  unfold f_Context_secondOf at hf
  refine C2.of rfl rfl rfl (Nat.le_of_ble_eq_true rfl) ?_
  have h1 : 0 ≤ a0 ∧ a0 < 2147483648 ∧ 0 < 60 ∧ 60 < 2147483648 := by
    by_cases q : 0 ≤ a0 ∧ a0 < 2147483648 ∧ 0 < 60 ∧ 60 < 2147483648
    · exact q
    · rw [if_neg q] at hf; cases hf
  rw [if_pos h1] at hf
  cases hf
  refine Rt.path ok_Context_secondOf 3 [] rfl ⟨h1, trivial⟩ ?_
  exact Rt.retI ok_Context_secondOf rfl rfl
def f_Context_pairOf (a0 : Int) (a1 : Int) (g : G2) : Option (Int × G2) :=
  some (((a0 * 60) + a1), g)
set_option maxHeartbeats 4000000 in
set_option maxRecDepth 100000 in
theorem c_Context_pairOf (d : Nat) (a0 : Int) (a1 : Int) (g : G2) (r : Int) (g' : G2) (hf : f_Context_pairOf a0 a1 g = some (r, g')) : C2 d m_Context_pairOf [vI a0, vI a1] g (some (vI r)) g' := by
  unfold f_Context_pairOf at hf
  refine C2.of rfl rfl rfl (Nat.le_of_ble_eq_true rfl) ?_
  cases hf
  refine Rt.path ok_Context_pairOf 5 [] rfl trivial ?_
  exact Rt.retI ok_Context_pairOf rfl rfl
def f_Context_addPair_27 (a1 : Int) (a2 : Int) (g : G2) : Option (G2) :=
  (f_Context_pairOf a1 a2 g).bind fun q1 =>
  if 0 ≤ (rI g 26 4) ∧ (rI g 26 4) < ((40 : Nat) : Int) ∧ ((40 : Nat) : Int) < 2147483648 then
  if 0 ≤ a1 ∧ a1 < ((60 : Nat) : Int) ∧ ((60 : Nat) : Int) < 2147483648 then
  if 0 ≤ a2 ∧ a2 < ((60 : Nat) : Int) ∧ ((60 : Nat) : Int) < 2147483648 then
  some (gB (gB (gI (gA q1.2 27 (rI g 26 4) q1.1) 26 4 ((rI (gA q1.2 27 (rI g 26 4) q1.1) 26 4) + 1)) 28 a1 ((rB (gI (gA q1.2 27 (rI g 26 4) q1.1) 26 4 ((rI (gA q1.2 27 (rI g 26 4) q1.1) 26 4) + 1)) 28 a1) ||| (am_shl (Int64.ofNat 1) a2))) 28 a2 ((rB (gB (gI (gA q1.2 27 (rI g 26 4) q1.1) 26 4 ((rI (gA q1.2 27 (rI g 26 4) q1.1) 26 4) + 1)) 28 a1 ((rB (gI (gA q1.2 27 (rI g 26 4) q1.1) 26 4 ((rI (gA q1.2 27 (rI g 26 4) q1.1) 26 4) + 1)) 28 a1) ||| (am_shl (Int64.ofNat 1) a2))) 28 a2) ||| (am_shl (Int64.ofNat 1) a1)))
  else none
  else none
  else none
set_option maxHeartbeats 4000000 in
set_option maxRecDepth 100000 in
theorem c_Context_addPair_27 (d : Nat) (a1 : Int) (a2 : Int) (g : G2) (g' : G2) (hf : f_Context_addPair_27 a1 a2 g = some g') : C2 (d + 1) m_Context_addPair [vR 27, vI a1, vI a2] g none g' := by
  unfold f_Context_addPair_27 at hf
  refine C2.of rfl rfl rfl (Nat.le_of_ble_eq_true rfl) ?_
  obtain ⟨q1, e1, hf⟩ := Option.bind_eq_some_iff.mp hf
  refine Rt.path ok_Context_addPair 6 [] rfl trivial ?_
  refine Rt.callS ok_Context_addPair rfl ml_Context_71 [vI _, vI _] cf_Context_pairOf (c_Context_pairOf d _ _ _ _ _ e1) (Nat.le_of_ble_eq_true rfl) ?_
  have h2 : 0 ≤ (rI g 26 4) ∧ (rI g 26 4) < ((40 : Nat) : Int) ∧ ((40 : Nat) : Int) < 2147483648 := by
    by_cases q : 0 ≤ (rI g 26 4) ∧ (rI g 26 4) < ((40 : Nat) : Int) ∧ ((40 : Nat) : Int) < 2147483648
    · exact q
    · rw [if_neg q] at hf; cases hf
  rw [if_pos h2] at hf
  have h3 : 0 ≤ a1 ∧ a1 < ((60 : Nat) : Int) ∧ ((60 : Nat) : Int) < 2147483648 := by
    by_cases q : 0 ≤ a1 ∧ a1 < ((60 : Nat) : Int) ∧ ((60 : Nat) : Int) < 2147483648
    · exact q
    · rw [if_neg q] at hf; cases hf
  rw [if_pos h3] at hf
  have h4 : 0 ≤ a2 ∧ a2 < ((60 : Nat) : Int) ∧ ((60 : Nat) : Int) < 2147483648 := by
    by_cases q : 0 ≤ a2 ∧ a2 < ((60 : Nat) : Int) ∧ ((60 : Nat) : Int) < 2147483648
    · exact q
    · rw [if_neg q] at hf; cases hf
  rw [if_pos h4] at hf
  cases hf
  refine Rt.path ok_Context_addPair 27 [] rfl ⟨h2, h3, h3, h4, h4, trivial⟩ ?_
  exact Rt.retV ok_Context_addPair rfl rfl
def b_Context_forgetPairs_27_0 (L : Nat → Int → Int → G2 → Option (G2)) (i1 : Int) (i2 : Int) (g : G2) : Option (G2) :=
  if ir i2 then
  if ir i1 then
  if i2 < i1 then
    if 0 ≤ i2 ∧ i2 < ((40 : Nat) : Int) ∧ ((40 : Nat) : Int) < 2147483648 then
    (f_Context_firstOf (rA g 27 i2) g).bind fun q6 =>
    (f_Context_secondOf (rA q6.2 27 i2) q6.2).bind fun q7 =>
    (f_Context_addPair_27 q6.1 q7.1 q7.2).bind fun q8 =>
    L 0 i1 (i2 + 1) q8
    else none
  else
    some g
  else none
  else none
def l_Context_forgetPairs_27 : Nat → Nat → Int → Int → G2 → Option (G2)
  | 0 => fun _ _ _ _ => none
  | n + 1 => fun t i1 i2 g => match t with
    | _ => b_Context_forgetPairs_27_0 (l_Context_forgetPairs_27 n) i1 i2 g
set_option maxHeartbeats 4000000 in
set_option maxRecDepth 100000 in
theorem rl_Context_forgetPairs_27 (d : Nat) : ∀ (n : Nat) (i1 : Int) (i2 : Int) (g : G2) (g' : G2), (l_Context_forgetPairs_27 n 0 i1 i2 g = some g' → Rt (d + 2) m_Context_forgetPairs 15 [some (vR 27), some (vI i1), some (vI i2)] [] g none g') := by
  intro n
  induction n with
  | zero => intro i1 i2 g g'; exact fun hf => by cases hf
  | succ n ih =>
    intro i1 i2 g g'
    intro hf
    replace hf : b_Context_forgetPairs_27_0 (l_Context_forgetPairs_27 n) i1 i2 g = some g' := hf
    unfold b_Context_forgetPairs_27_0 at hf
    have h2 : ir i2 := by
      by_cases q : ir i2
      · exact q
      · rw [if_neg q] at hf; cases hf
    rw [if_pos h2] at hf
    have h3 : ir i1 := by
      by_cases q : ir i1
      · exact q
      · rw [if_neg q] at hf; cases hf
    rw [if_pos h3] at hf
    by_cases h4 : i2 < i1
    · rw [if_pos h4] at hf
      refine Rt.path ok_Context_forgetPairs 3 [0] rfl ⟨⟨⟨h2, h3⟩, h4⟩, trivial⟩ ?_
      have h5 : 0 ≤ i2 ∧ i2 < ((40 : Nat) : Int) ∧ ((40 : Nat) : Int) < 2147483648 := by
        by_cases q : 0 ≤ i2 ∧ i2 < ((40 : Nat) : Int) ∧ ((40 : Nat) : Int) < 2147483648
        · exact q
        · rw [if_neg q] at hf; cases hf
      rw [if_pos h5] at hf
      obtain ⟨q6, e6, hf⟩ := Option.bind_eq_some_iff.mp hf
      refine Rt.path ok_Context_forgetPairs 5 [] rfl ⟨h5, trivial⟩ ?_
      refine Rt.callS ok_Context_forgetPairs rfl ml_Context_60 [vI _] cf_Context_firstOf (c_Context_firstOf (d + 1) _ _ _ _ e6) (Nat.le_of_ble_eq_true rfl) ?_
      obtain ⟨q7, e7, hf⟩ := Option.bind_eq_some_iff.mp hf
      refine Rt.path ok_Context_forgetPairs 4 [] rfl ⟨h5, trivial⟩ ?_
      refine Rt.callS ok_Context_forgetPairs rfl ml_Context_64 [vI _] cf_Context_secondOf (c_Context_secondOf (d + 1) _ _ _ _ e7) (Nat.le_of_ble_eq_true rfl) ?_
      obtain ⟨q8, e8, hf⟩ := Option.bind_eq_some_iff.mp hf
      refine Rt.callV ok_Context_forgetPairs rfl ml_Context_67 [vI _, vI _] cf_Context_addPair rfl rfl (c_Context_addPair_27 d _ _ _ _ e8) (Nat.le_of_ble_eq_true rfl) ?_
      refine Rt.path ok_Context_forgetPairs 2 [] rfl trivial ?_
      exact Rt.weak ((ih _ _ _ _) hf) ⟨rfl, rfl, rfl, trivial⟩
    · rw [if_neg h4] at hf
      refine Rt.path ok_Context_forgetPairs 3 [1] rfl ⟨⟨⟨h2, h3⟩, (Int.not_lt.mp h4)⟩, trivial⟩ ?_
      cases hf
      exact Rt.retV ok_Context_forgetPairs rfl rfl
def f_Context_forgetPairs_27 (a1 : Int) (g : G2) : Option (G2) :=
  (f_J_fill_29 (Int64.ofNat 0) (gI g 26 4 0)).bind fun q1 =>
  l_Context_forgetPairs_27 20000 0 a1 0 q1
set_option maxHeartbeats 4000000 in
set_option maxRecDepth 100000 in
theorem c_Context_forgetPairs_27 (d : Nat) (a1 : Int) (g : G2) (g' : G2) (hf : f_Context_forgetPairs_27 a1 g = some g') : C2 (d + 2) m_Context_forgetPairs [vR 27, vI a1] g none g' := by
  unfold f_Context_forgetPairs_27 at hf
  refine C2.of rfl rfl rfl (Nat.le_of_ble_eq_true rfl) ?_
  obtain ⟨q1, e1, hf⟩ := Option.bind_eq_some_iff.mp hf
  refine Rt.path ok_Context_forgetPairs 6 [] rfl trivial ?_
  refine Rt.callS ok_Context_forgetPairs rfl ml_Context_54 [vR 29, vL _] cf_J_fill (c_J_fill_29 (d + 1) _ _ _ e1) (Nat.le_of_ble_eq_true rfl) ?_
  refine Rt.path ok_Context_forgetPairs 2 [] rfl trivial ?_
  exact Rt.weak ((rl_Context_forgetPairs_27 d _ _ _ _ _) hf) ⟨rfl, rfl, rfl, trivial⟩
def f_Context_begin_27  (g : G2) : Option (G2) :=
  (f_Context_forgetPairs_27 0 (gI (gJ (gJ (gJ g 26 0 (Int64.ofNat 0)) 26 1 (Int64.ofNat 0)) 26 2 (Int64.ofNat 0)) 26 6 0)).bind fun q1 =>
  some q1
set_option maxHeartbeats 4000000 in
set_option maxRecDepth 100000 in
theorem c_Context_begin_27 (d : Nat)  (g : G2) (g' : G2) (hf : f_Context_begin_27 g = some g') : C2 (d + 3) m_Context_begin [vR 27] g none g' := by
  unfold f_Context_begin_27 at hf
  refine C2.of rfl rfl rfl (Nat.le_of_ble_eq_true rfl) ?_
  obtain ⟨q1, e1, hf⟩ := Option.bind_eq_some_iff.mp hf
  refine Rt.path ok_Context_begin 14 [] rfl trivial ?_
  refine Rt.callV ok_Context_begin rfl ml_Context_47 [vI _] cf_Context_forgetPairs rfl rfl (c_Context_forgetPairs_27 d _ _ _ e1) (Nat.le_of_ble_eq_true rfl) ?_
  cases hf
  exact Rt.retV ok_Context_begin rfl rfl
def f_Reader_begin_26  (g : G2) : Option (G2) :=
  (f_Names_begin_4 g).bind fun q1 =>
  (f_Context_begin_27 (gI (gI q1 10 4 0) 16 8 0)).bind fun q2 =>
  some (gI q2 25 6 0)
set_option maxHeartbeats 4000000 in
set_option maxRecDepth 100000 in
theorem c_Reader_begin_26 (d : Nat)  (g : G2) (g' : G2) (hf : f_Reader_begin_26 g = some g') : C2 (d + 4) m_Reader_begin [vR 26] g none g' := by
  unfold f_Reader_begin_26 at hf
  refine C2.of rfl rfl rfl (Nat.le_of_ble_eq_true rfl) ?_
  obtain ⟨q1, e1, hf⟩ := Option.bind_eq_some_iff.mp hf
  refine Rt.path ok_Reader_begin 2 [] rfl trivial ?_
  refine Rt.callV ok_Reader_begin rfl ml_Reader_48 [] cf_Names_begin rfl rfl (c_Names_begin_4 (d + 3) _ _ e1) (Nat.le_of_ble_eq_true rfl) ?_
  obtain ⟨q2, e2, hf⟩ := Option.bind_eq_some_iff.mp hf
  refine Rt.path ok_Reader_begin 11 [] rfl trivial ?_
  refine Rt.callV ok_Reader_begin rfl ml_Reader_68 [] cf_Context_begin rfl rfl (c_Context_begin_27 d _ _ e2) (Nat.le_of_ble_eq_true rfl) ?_
  cases hf
  refine Rt.path ok_Reader_begin 3 [] rfl trivial ?_
  exact Rt.retV ok_Reader_begin rfl rfl
def b_Text_scanWord_2_0 (L : Nat → G2 → Option (Int × G2))  (g : G2) : Option (Int × G2) :=
  if ir (rI g 1 3) then
  if ir (rI g 1 1) then
  if (rI g 1 3) < (rI g 1 1) then
    if 0 ≤ (rI g 1 3) ∧ (rI g 1 3) < ((1600 : Nat) : Int) ∧ ((1600 : Nat) : Int) < 2147483648 then
    if ir (rA g 2 (rI g 1 3)) then
    if (rA g 2 (rI g 1 3)) = 32 then
      L 0 (gI g 1 3 ((rI g 1 3) + 1))
    else
      L 1 g
    else none
    else none
  else
    L 1 g
  else none
  else none
def b_Text_scanWord_2_1 (L : Nat → G2 → Option (Int × G2))  (g : G2) : Option (Int × G2) :=
  L 2 (gI (gJ (gI g 1 4 (rI g 1 3)) 1 5 (Int64.ofNat 0)) 1 6 0)
def b_Text_scanWord_2_2 (L : Nat → G2 → Option (Int × G2))  (g : G2) : Option (Int × G2) :=
  if ir (rI g 1 4) then
  if ir (rI g 1 1) then
  if (rI g 1 4) < (rI g 1 1) then
    if 0 ≤ (rI g 1 4) ∧ (rI g 1 4) < ((1600 : Nat) : Int) ∧ ((1600 : Nat) : Int) < 2147483648 then
    if ir (rA g 2 (rI g 1 4)) then
    if (rA g 2 (rI g 1 4)) = 32 then
      L 3 g
    else
      if ir (rI (gJ g 1 5 (((rJ g 1 5) * (Int64.ofNat 128)) + (am_i2l (rA g 2 (rI g 1 4))))) 1 6) then
      if (rI (gJ g 1 5 (((rJ g 1 5) * (Int64.ofNat 128)) + (am_i2l (rA g 2 (rI g 1 4))))) 1 6) = 0 then
        if 0 ≤ (rI (gJ g 1 5 (((rJ g 1 5) * (Int64.ofNat 128)) + (am_i2l (rA g 2 (rI g 1 4))))) 1 4) ∧ (rI (gJ g 1 5 (((rJ g 1 5) * (Int64.ofNat 128)) + (am_i2l (rA g 2 (rI g 1 4))))) 1 4) < ((1600 : Nat) : Int) ∧ ((1600 : Nat) : Int) < 2147483648 then
        if ir (rA (gJ g 1 5 (((rJ g 1 5) * (Int64.ofNat 128)) + (am_i2l (rA g 2 (rI g 1 4))))) 2 (rI (gJ g 1 5 (((rJ g 1 5) * (Int64.ofNat 128)) + (am_i2l (rA g 2 (rI g 1 4))))) 1 4)) then
        if (rA (gJ g 1 5 (((rJ g 1 5) * (Int64.ofNat 128)) + (am_i2l (rA g 2 (rI g 1 4))))) 2 (rI (gJ g 1 5 (((rJ g 1 5) * (Int64.ofNat 128)) + (am_i2l (rA g 2 (rI g 1 4))))) 1 4)) = 36 then
          L 2 (gI (gI (gJ g 1 5 (((rJ g 1 5) * (Int64.ofNat 128)) + (am_i2l (rA g 2 (rI g 1 4))))) 1 6 1) 1 4 ((rI (gI (gJ g 1 5 (((rJ g 1 5) * (Int64.ofNat 128)) + (am_i2l (rA g 2 (rI g 1 4))))) 1 6 1) 1 4) + 1))
        else
          L 2 (gI (gI (gJ g 1 5 (((rJ g 1 5) * (Int64.ofNat 128)) + (am_i2l (rA g 2 (rI g 1 4))))) 1 6 0) 1 4 ((rI (gI (gJ g 1 5 (((rJ g 1 5) * (Int64.ofNat 128)) + (am_i2l (rA g 2 (rI g 1 4))))) 1 6 0) 1 4) + 1))
        else none
        else none
      else
        L 2 (gI (gI (gJ g 1 5 (((rJ g 1 5) * (Int64.ofNat 128)) + (am_i2l (rA g 2 (rI g 1 4))))) 1 6 1) 1 4 ((rI (gI (gJ g 1 5 (((rJ g 1 5) * (Int64.ofNat 128)) + (am_i2l (rA g 2 (rI g 1 4))))) 1 6 1) 1 4) + 1))
      else none
    else none
    else none
  else
    L 3 g
  else none
  else none
def b_Text_scanWord_2_3 (L : Nat → G2 → Option (Int × G2))  (g : G2) : Option (Int × G2) :=
  if ir (rI g 1 3) then
  if ir (rI g 1 4) then
  if (rI g 1 3) = (rI g 1 4) then
    some (0, g)
  else
    some (1, (gI g 1 2 ((rI g 1 2) + 1)))
  else none
  else none
def l_Text_scanWord_2 : Nat → Nat → G2 → Option (Int × G2)
  | 0 => fun _ _ => none
  | n + 1 => fun t g => match t with
    | 0 => b_Text_scanWord_2_0 (l_Text_scanWord_2 n) g
    | 1 => b_Text_scanWord_2_1 (l_Text_scanWord_2 n) g
    | 2 => b_Text_scanWord_2_2 (l_Text_scanWord_2 n) g
    | _ => b_Text_scanWord_2_3 (l_Text_scanWord_2 n) g
set_option maxHeartbeats 4000000 in
set_option maxRecDepth 100000 in
theorem rl_Text_scanWord_2 (d : Nat) : ∀ (n : Nat)  (g : G2) (r : Int) (g' : G2), (l_Text_scanWord_2 n 0 g = some (r, g') → Rt d m_Text_scanWord 8 [some (vR 2)] [] g (some (vI r)) g') ∧ (l_Text_scanWord_2 n 1 g = some (r, g') → Rt d m_Text_scanWord 46 [some (vR 2)] [] g (some (vI r)) g') ∧ (l_Text_scanWord_2 n 2 g = some (r, g') → Rt d m_Text_scanWord 64 [some (vR 2)] [] g (some (vI r)) g') ∧ (l_Text_scanWord_2 n 3 g = some (r, g') → Rt d m_Text_scanWord 155 [some (vR 2)] [] g (some (vI r)) g') := by
  intro n
  induction n with
  | zero => intro  g r g'; exact ⟨fun hf => (by cases hf), fun hf => (by cases hf), fun hf => (by cases hf), fun hf => (by cases hf)⟩
  | succ n ih =>
    intro  g r g'
    refine ⟨?_, ?_, ?_, ?_⟩
    · intro hf
      replace hf : b_Text_scanWord_2_0 (l_Text_scanWord_2 n) g = some (r, g') := hf
      unfold b_Text_scanWord_2_0 at hf
      have h1 : ir (rI g 1 3) := by
        by_cases q : ir (rI g 1 3)
        · exact q
        · rw [if_neg q] at hf; cases hf
      rw [if_pos h1] at hf
      have h2 : ir (rI g 1 1) := by
        by_cases q : ir (rI g 1 1)
        · exact q
        · rw [if_neg q] at hf; cases hf
      rw [if_pos h2] at hf
      by_cases h3 : (rI g 1 3) < (rI g 1 1)
      · rw [if_pos h3] at hf
        refine Rt.path ok_Text_scanWord 5 [0] rfl ⟨⟨⟨h1, h2⟩, h3⟩, trivial⟩ ?_
        have h4 : 0 ≤ (rI g 1 3) ∧ (rI g 1 3) < ((1600 : Nat) : Int) ∧ ((1600 : Nat) : Int) < 2147483648 := by
          by_cases q : 0 ≤ (rI g 1 3) ∧ (rI g 1 3) < ((1600 : Nat) : Int) ∧ ((1600 : Nat) : Int) < 2147483648
          · exact q
          · rw [if_neg q] at hf; cases hf
        rw [if_pos h4] at hf
        have h5 : ir (rA g 2 (rI g 1 3)) := by
          by_cases q : ir (rA g 2 (rI g 1 3))
          · exact q
          · rw [if_neg q] at hf; cases hf
        rw [if_pos h5] at hf
        by_cases h6 : (rA g 2 (rI g 1 3)) = 32
        · rw [if_pos h6] at hf
          refine Rt.path ok_Text_scanWord 7 [0] rfl ⟨h4, ⟨⟨h5, ⟨by decide, by decide⟩⟩, h6⟩, trivial⟩ ?_
          refine Rt.path ok_Text_scanWord 7 [] rfl trivial ?_
          exact Rt.weak ((ih _ _ _).1 hf) ⟨rfl, trivial⟩
        · rw [if_neg h6] at hf
          refine Rt.path ok_Text_scanWord 7 [1] rfl ⟨h4, ⟨⟨h5, ⟨by decide, by decide⟩⟩, h6⟩, trivial⟩ ?_
          exact Rt.weak ((ih _ _ _).2.1 hf) ⟨rfl, trivial⟩
      · rw [if_neg h3] at hf
        refine Rt.path ok_Text_scanWord 5 [1] rfl ⟨⟨⟨h1, h2⟩, (Int.not_lt.mp h3)⟩, trivial⟩ ?_
        exact Rt.weak ((ih _ _ _).2.1 hf) ⟨rfl, trivial⟩
    · intro hf
      replace hf : b_Text_scanWord_2_1 (l_Text_scanWord_2 n) g = some (r, g') := hf
      unfold b_Text_scanWord_2_1 at hf
      refine Rt.path ok_Text_scanWord 10 [] rfl ⟨(by omega), trivial⟩ ?_
      exact Rt.weak ((ih _ _ _).2.2.1 hf) ⟨rfl, trivial⟩
    · intro hf
      replace hf : b_Text_scanWord_2_2 (l_Text_scanWord_2 n) g = some (r, g') := hf
      unfold b_Text_scanWord_2_2 at hf
      have h7 : ir (rI g 1 4) := by
        by_cases q : ir (rI g 1 4)
        · exact q
        · rw [if_neg q] at hf; cases hf
      rw [if_pos h7] at hf
      have h8 : ir (rI g 1 1) := by
        by_cases q : ir (rI g 1 1)
        · exact q
        · rw [if_neg q] at hf; cases hf
      rw [if_pos h8] at hf
      by_cases h9 : (rI g 1 4) < (rI g 1 1)
      · rw [if_pos h9] at hf
        refine Rt.path ok_Text_scanWord 5 [0] rfl ⟨⟨⟨h7, h8⟩, h9⟩, trivial⟩ ?_
        have h10 : 0 ≤ (rI g 1 4) ∧ (rI g 1 4) < ((1600 : Nat) : Int) ∧ ((1600 : Nat) : Int) < 2147483648 := by
          by_cases q : 0 ≤ (rI g 1 4) ∧ (rI g 1 4) < ((1600 : Nat) : Int) ∧ ((1600 : Nat) : Int) < 2147483648
          · exact q
          · rw [if_neg q] at hf; cases hf
        rw [if_pos h10] at hf
        have h11 : ir (rA g 2 (rI g 1 4)) := by
          by_cases q : ir (rA g 2 (rI g 1 4))
          · exact q
          · rw [if_neg q] at hf; cases hf
        rw [if_pos h11] at hf
        by_cases h12 : (rA g 2 (rI g 1 4)) = 32
        · rw [if_pos h12] at hf
          refine Rt.path ok_Text_scanWord 7 [1] rfl ⟨h10, ⟨⟨h11, ⟨by decide, by decide⟩⟩, h12⟩, trivial⟩ ?_
          exact Rt.weak ((ih _ _ _).2.2.2 hf) ⟨rfl, trivial⟩
        · rw [if_neg h12] at hf
          refine Rt.path ok_Text_scanWord 7 [0] rfl ⟨h10, ⟨⟨h11, ⟨by decide, by decide⟩⟩, h12⟩, trivial⟩ ?_
          have h13 : ir (rI (gJ g 1 5 (((rJ g 1 5) * (Int64.ofNat 128)) + (am_i2l (rA g 2 (rI g 1 4))))) 1 6) := by
            by_cases q : ir (rI (gJ g 1 5 (((rJ g 1 5) * (Int64.ofNat 128)) + (am_i2l (rA g 2 (rI g 1 4))))) 1 6)
            · exact q
            · rw [if_neg q] at hf; cases hf
          rw [if_pos h13] at hf
          by_cases h14 : (rI (gJ g 1 5 (((rJ g 1 5) * (Int64.ofNat 128)) + (am_i2l (rA g 2 (rI g 1 4))))) 1 6) = 0
          · rw [if_pos h14] at hf
            refine Rt.path ok_Text_scanWord 17 [0] rfl ⟨h10, ⟨h13, h14⟩, trivial⟩ ?_
            have h15 : 0 ≤ (rI (gJ g 1 5 (((rJ g 1 5) * (Int64.ofNat 128)) + (am_i2l (rA g 2 (rI g 1 4))))) 1 4) ∧ (rI (gJ g 1 5 (((rJ g 1 5) * (Int64.ofNat 128)) + (am_i2l (rA g 2 (rI g 1 4))))) 1 4) < ((1600 : Nat) : Int) ∧ ((1600 : Nat) : Int) < 2147483648 := by
              by_cases q : 0 ≤ (rI (gJ g 1 5 (((rJ g 1 5) * (Int64.ofNat 128)) + (am_i2l (rA g 2 (rI g 1 4))))) 1 4) ∧ (rI (gJ g 1 5 (((rJ g 1 5) * (Int64.ofNat 128)) + (am_i2l (rA g 2 (rI g 1 4))))) 1 4) < ((1600 : Nat) : Int) ∧ ((1600 : Nat) : Int) < 2147483648
              · exact q
              · rw [if_neg q] at hf; cases hf
            rw [if_pos h15] at hf
            have h16 : ir (rA (gJ g 1 5 (((rJ g 1 5) * (Int64.ofNat 128)) + (am_i2l (rA g 2 (rI g 1 4))))) 2 (rI (gJ g 1 5 (((rJ g 1 5) * (Int64.ofNat 128)) + (am_i2l (rA g 2 (rI g 1 4))))) 1 4)) := by
              by_cases q : ir (rA (gJ g 1 5 (((rJ g 1 5) * (Int64.ofNat 128)) + (am_i2l (rA g 2 (rI g 1 4))))) 2 (rI (gJ g 1 5 (((rJ g 1 5) * (Int64.ofNat 128)) + (am_i2l (rA g 2 (rI g 1 4))))) 1 4))
              · exact q
              · rw [if_neg q] at hf; cases hf
            rw [if_pos h16] at hf
            by_cases h17 : (rA (gJ g 1 5 (((rJ g 1 5) * (Int64.ofNat 128)) + (am_i2l (rA g 2 (rI g 1 4))))) 2 (rI (gJ g 1 5 (((rJ g 1 5) * (Int64.ofNat 128)) + (am_i2l (rA g 2 (rI g 1 4))))) 1 4)) = 36
            · rw [if_pos h17] at hf
              refine Rt.path ok_Text_scanWord 7 [0] rfl ⟨h15, ⟨⟨h16, ⟨by decide, by decide⟩⟩, h17⟩, trivial⟩ ?_
              refine Rt.path ok_Text_scanWord 10 [] rfl ⟨(by omega), trivial⟩ ?_
              exact Rt.weak ((ih _ _ _).2.2.1 hf) ⟨rfl, trivial⟩
            · rw [if_neg h17] at hf
              refine Rt.path ok_Text_scanWord 7 [1] rfl ⟨h15, ⟨⟨h16, ⟨by decide, by decide⟩⟩, h17⟩, trivial⟩ ?_
              refine Rt.path ok_Text_scanWord 9 [] rfl ⟨(by omega), trivial⟩ ?_
              exact Rt.weak ((ih _ _ _).2.2.1 hf) ⟨rfl, trivial⟩
          · rw [if_neg h14] at hf
            refine Rt.path ok_Text_scanWord 17 [1] rfl ⟨h10, ⟨h13, h14⟩, trivial⟩ ?_
            refine Rt.path ok_Text_scanWord 10 [] rfl ⟨(by omega), trivial⟩ ?_
            exact Rt.weak ((ih _ _ _).2.2.1 hf) ⟨rfl, trivial⟩
      · rw [if_neg h9] at hf
        refine Rt.path ok_Text_scanWord 5 [1] rfl ⟨⟨⟨h7, h8⟩, (Int.not_lt.mp h9)⟩, trivial⟩ ?_
        exact Rt.weak ((ih _ _ _).2.2.2 hf) ⟨rfl, trivial⟩
    · intro hf
      replace hf : b_Text_scanWord_2_3 (l_Text_scanWord_2 n) g = some (r, g') := hf
      unfold b_Text_scanWord_2_3 at hf
      have h18 : ir (rI g 1 3) := by
        by_cases q : ir (rI g 1 3)
        · exact q
        · rw [if_neg q] at hf; cases hf
      rw [if_pos h18] at hf
      have h19 : ir (rI g 1 4) := by
        by_cases q : ir (rI g 1 4)
        · exact q
        · rw [if_neg q] at hf; cases hf
      rw [if_pos h19] at hf
      by_cases h20 : (rI g 1 3) = (rI g 1 4)
      · rw [if_pos h20] at hf
        refine Rt.path ok_Text_scanWord 5 [0] rfl ⟨⟨⟨h18, h19⟩, h20⟩, trivial⟩ ?_
        cases hf
        refine Rt.path ok_Text_scanWord 1 [] rfl trivial ?_
        exact Rt.retZ ok_Text_scanWord (by omega) rfl rfl
      · rw [if_neg h20] at hf
        refine Rt.path ok_Text_scanWord 5 [1] rfl ⟨⟨⟨h18, h19⟩, h20⟩, trivial⟩ ?_
        cases hf
        refine Rt.path ok_Text_scanWord 7 [] rfl trivial ?_
        exact Rt.retZ ok_Text_scanWord (by omega) rfl rfl
def f_Text_scanWord_2  (g : G2) : Option (Int × G2) :=
  l_Text_scanWord_2 20000 0 (gI g 1 3 (rI g 1 4))
set_option maxHeartbeats 4000000 in
set_option maxRecDepth 100000 in
theorem c_Text_scanWord_2 (d : Nat)  (g : G2) (r : Int) (g' : G2) (hf : f_Text_scanWord_2 g = some (r, g')) : C2 d m_Text_scanWord [vR 2] g (some (vI r)) g' := by
  unfold f_Text_scanWord_2 at hf
  refine C2.of rfl rfl rfl (Nat.le_of_ble_eq_true rfl) ?_
  refine Rt.path ok_Text_scanWord 4 [] rfl trivial ?_
  exact Rt.weak ((rl_Text_scanWord_2 d _ _ _ _).1 hf) ⟨rfl, trivial⟩
def f_Text_keyword_2  (g : G2) : Option (Int × G2) :=
  if ir ((rI g 1 4) - (rI g 1 3)) then
  if ((rI g 1 4) - (rI g 1 3)) = 2 then
    if 0 ≤ (rI g 1 3) ∧ (rI g 1 3) < ((1600 : Nat) : Int) ∧ ((1600 : Nat) : Int) < 2147483648 then
    if ir (rA g 2 (rI g 1 3)) then
    if (rA g 2 (rI g 1 3)) = 36 then
      if 0 ≤ ((rI g 1 3) + 1) ∧ ((rI g 1 3) + 1) < ((1600 : Nat) : Int) ∧ ((1600 : Nat) : Int) < 2147483648 then
      some ((rA g 2 ((rI g 1 3) + 1)), g)
      else none
    else
      some (0, g)
    else none
    else none
  else
    some (0, g)
  else none
set_option maxHeartbeats 4000000 in
set_option maxRecDepth 100000 in
theorem c_Text_keyword_2 (d : Nat)  (g : G2) (r : Int) (g' : G2) (hf : f_Text_keyword_2 g = some (r, g')) : C2 d m_Text_keyword [vR 2] g (some (vI r)) g' := by
  unfold f_Text_keyword_2 at hf
  refine C2.of rfl rfl rfl (Nat.le_of_ble_eq_true rfl) ?_
  have h1 : ir ((rI g 1 4) - (rI g 1 3)) := by
    by_cases q : ir ((rI g 1 4) - (rI g 1 3))
    · exact q
    · rw [if_neg q] at hf; cases hf
  rw [if_pos h1] at hf
  by_cases h2 : ((rI g 1 4) - (rI g 1 3)) = 2
  · rw [if_pos h2] at hf
    refine Rt.path ok_Text_keyword 7 [0] rfl ⟨⟨⟨h1, ⟨by decide, by decide⟩⟩, h2⟩, trivial⟩ ?_
    have h3 : 0 ≤ (rI g 1 3) ∧ (rI g 1 3) < ((1600 : Nat) : Int) ∧ ((1600 : Nat) : Int) < 2147483648 := by
      by_cases q : 0 ≤ (rI g 1 3) ∧ (rI g 1 3) < ((1600 : Nat) : Int) ∧ ((1600 : Nat) : Int) < 2147483648
      · exact q
      · rw [if_neg q] at hf; cases hf
    rw [if_pos h3] at hf
    have h4 : ir (rA g 2 (rI g 1 3)) := by
      by_cases q : ir (rA g 2 (rI g 1 3))
      · exact q
      · rw [if_neg q] at hf; cases hf
    rw [if_pos h4] at hf
    by_cases h5 : (rA g 2 (rI g 1 3)) = 36
    · rw [if_pos h5] at hf
      refine Rt.path ok_Text_keyword 7 [0] rfl ⟨h3, ⟨⟨h4, ⟨by decide, by decide⟩⟩, h5⟩, trivial⟩ ?_
      have h6 : 0 ≤ ((rI g 1 3) + 1) ∧ ((rI g 1 3) + 1) < ((1600 : Nat) : Int) ∧ ((1600 : Nat) : Int) < 2147483648 := by
        by_cases q : 0 ≤ ((rI g 1 3) + 1) ∧ ((rI g 1 3) + 1) < ((1600 : Nat) : Int) ∧ ((1600 : Nat) : Int) < 2147483648
        · exact q
        · rw [if_neg q] at hf; cases hf
      rw [if_pos h6] at hf
      cases hf
      refine Rt.path ok_Text_keyword 8 [] rfl ⟨h6, trivial⟩ ?_
      exact Rt.retI ok_Text_keyword rfl rfl
    · rw [if_neg h5] at hf
      refine Rt.path ok_Text_keyword 7 [1] rfl ⟨h3, ⟨⟨h4, ⟨by decide, by decide⟩⟩, h5⟩, trivial⟩ ?_
      cases hf
      refine Rt.path ok_Text_keyword 1 [] rfl trivial ?_
      exact Rt.retI ok_Text_keyword rfl rfl
  · rw [if_neg h2] at hf
    refine Rt.path ok_Text_keyword 7 [1] rfl ⟨⟨⟨h1, ⟨by decide, by decide⟩⟩, h2⟩, trivial⟩ ?_
    cases hf
    refine Rt.path ok_Text_keyword 1 [] rfl trivial ?_
    exact Rt.retI ok_Text_keyword rfl rfl
def b_Text_advance_2_0 (L : Nat → Int → G2 → Option (Int × G2)) (i1 : Int) (g : G2) : Option (Int × G2) :=
  if ir i1 then
  if i1 < 1600 then
    (f_Text_scanWord_2 g).bind fun q3 =>
    if ir q3.1 then
    if q3.1 = 0 then
      some (0, q3.2)
    else
      (f_Text_keyword_2 q3.2).bind fun q6 =>
      if ir (rI q6.2 1 7) then
      if (rI q6.2 1 7) = 0 then
        if ir q6.1 then
        if q6.1 = 40 then
          L 0 (i1 + 1) (gI q6.2 1 7 1)
        else
          some (1, q6.2)
        else none
      else
        if ir q6.1 then
        if q6.1 = 41 then
          L 0 (i1 + 1) (gI q6.2 1 7 0)
        else
          L 0 (i1 + 1) (gI q6.2 1 7 1)
        else none
      else none
    else none
  else
    some (0, g)
  else none
def l_Text_advance_2 : Nat → Nat → Int → G2 → Option (Int × G2)
  | 0 => fun _ _ _ => none
  | n + 1 => fun t i1 g => match t with
    | _ => b_Text_advance_2_0 (l_Text_advance_2 n) i1 g
set_option maxHeartbeats 4000000 in
set_option maxRecDepth 100000 in
theorem rl_Text_advance_2 (d : Nat) : ∀ (n : Nat) (i1 : Int) (g : G2) (r : Int) (g' : G2), (l_Text_advance_2 n 0 i1 g = some (r, g') → Rt (d + 1) m_Text_advance 2 [some (vR 2), some (vI i1), none] [] g (some (vI r)) g') := by
  intro n
  induction n with
  | zero => intro i1 g r g'; exact fun hf => by cases hf
  | succ n ih =>
    intro i1 g r g'
    intro hf
    replace hf : b_Text_advance_2_0 (l_Text_advance_2 n) i1 g = some (r, g') := hf
    unfold b_Text_advance_2_0 at hf
    have h1 : ir i1 := by
      by_cases q : ir i1
      · exact q
      · rw [if_neg q] at hf; cases hf
    rw [if_pos h1] at hf
    by_cases h2 : i1 < 1600
    · rw [if_pos h2] at hf
      refine Rt.path ok_Text_advance 3 [0] rfl ⟨⟨⟨h1, ⟨by decide, by decide⟩⟩, h2⟩, trivial⟩ ?_
      obtain ⟨q3, e3, hf⟩ := Option.bind_eq_some_iff.mp hf
      refine Rt.path ok_Text_advance 1 [] rfl trivial ?_
      refine Rt.callV ok_Text_advance rfl ml_Text_29 [] cf_Text_scanWord rfl rfl (c_Text_scanWord_2 d _ _ _ e3) (Nat.le_of_ble_eq_true rfl) ?_
      have h4 : ir q3.1 := by
        by_cases q : ir q3.1
        · exact q
        · rw [if_neg q] at hf; cases hf
      rw [if_pos h4] at hf
      by_cases h5 : q3.1 = 0
      · rw [if_pos h5] at hf
        refine Rt.path ok_Text_advance 1 [1] rfl ⟨⟨h4, h5⟩, trivial⟩ ?_
        cases hf
        refine Rt.path ok_Text_advance 1 [] rfl trivial ?_
        exact Rt.retZ ok_Text_advance (by omega) rfl rfl
      · rw [if_neg h5] at hf
        refine Rt.path ok_Text_advance 1 [0] rfl ⟨⟨h4, h5⟩, trivial⟩ ?_
        obtain ⟨q6, e6, hf⟩ := Option.bind_eq_some_iff.mp hf
        refine Rt.path ok_Text_advance 1 [] rfl trivial ?_
        refine Rt.callV ok_Text_advance rfl ml_Text_33 [] cf_Text_keyword rfl rfl (c_Text_keyword_2 d _ _ _ e6) (Nat.le_of_ble_eq_true rfl) ?_
        have h7 : ir (rI q6.2 1 7) := by
          by_cases q : ir (rI q6.2 1 7)
          · exact q
          · rw [if_neg q] at hf; cases hf
        rw [if_pos h7] at hf
        by_cases h8 : (rI q6.2 1 7) = 0
        · rw [if_pos h8] at hf
          refine Rt.path ok_Text_advance 4 [1] rfl ⟨⟨h7, h8⟩, trivial⟩ ?_
          have h9 : ir q6.1 := by
            by_cases q : ir q6.1
            · exact q
            · rw [if_neg q] at hf; cases hf
          rw [if_pos h9] at hf
          by_cases h10 : q6.1 = 40
          · rw [if_pos h10] at hf
            refine Rt.path ok_Text_advance 3 [0] rfl ⟨⟨⟨h9, ⟨by decide, by decide⟩⟩, h10⟩, trivial⟩ ?_
            refine Rt.path ok_Text_advance 6 [] rfl ⟨(by omega), trivial⟩ ?_
            exact Rt.weak ((ih _ _ _ _) hf) ⟨rfl, rfl, trivial⟩
          · rw [if_neg h10] at hf
            refine Rt.path ok_Text_advance 3 [1] rfl ⟨⟨⟨h9, ⟨by decide, by decide⟩⟩, h10⟩, trivial⟩ ?_
            cases hf
            refine Rt.path ok_Text_advance 1 [] rfl trivial ?_
            exact Rt.retZ ok_Text_advance (by omega) rfl rfl
        · rw [if_neg h8] at hf
          refine Rt.path ok_Text_advance 4 [0] rfl ⟨⟨h7, h8⟩, trivial⟩ ?_
          have h11 : ir q6.1 := by
            by_cases q : ir q6.1
            · exact q
            · rw [if_neg q] at hf; cases hf
          rw [if_pos h11] at hf
          by_cases h12 : q6.1 = 41
          · rw [if_pos h12] at hf
            refine Rt.path ok_Text_advance 4 [1] rfl ⟨⟨⟨h11, ⟨by decide, by decide⟩⟩, h12⟩, trivial⟩ ?_
            refine Rt.path ok_Text_advance 5 [] rfl ⟨(by omega), trivial⟩ ?_
            exact Rt.weak ((ih _ _ _ _) hf) ⟨rfl, rfl, trivial⟩
          · rw [if_neg h12] at hf
            refine Rt.path ok_Text_advance 4 [0] rfl ⟨⟨⟨h11, ⟨by decide, by decide⟩⟩, h12⟩, trivial⟩ ?_
            refine Rt.path ok_Text_advance 6 [] rfl ⟨(by omega), trivial⟩ ?_
            exact Rt.weak ((ih _ _ _ _) hf) ⟨rfl, rfl, trivial⟩
    · rw [if_neg h2] at hf
      refine Rt.path ok_Text_advance 3 [1] rfl ⟨⟨⟨h1, ⟨by decide, by decide⟩⟩, (Int.not_lt.mp h2)⟩, trivial⟩ ?_
      cases hf
      refine Rt.path ok_Text_advance 1 [] rfl trivial ?_
      exact Rt.retZ ok_Text_advance (by omega) rfl rfl
def f_Text_advance_2  (g : G2) : Option (Int × G2) :=
  l_Text_advance_2 20000 0 0 g
set_option maxHeartbeats 4000000 in
set_option maxRecDepth 100000 in
theorem c_Text_advance_2 (d : Nat)  (g : G2) (r : Int) (g' : G2) (hf : f_Text_advance_2 g = some (r, g')) : C2 (d + 1) m_Text_advance [vR 2] g (some (vI r)) g' := by
  unfold f_Text_advance_2 at hf
  refine C2.of rfl rfl rfl (Nat.le_of_ble_eq_true rfl) ?_
  refine Rt.path ok_Text_advance 2 [] rfl trivial ?_
  exact Rt.weak ((rl_Text_advance_2 d _ _ _ _ _) hf) ⟨rfl, rfl, trivial⟩
def f_Reader_isInside_26  (g : G2) : Option (Int × G2) :=
  if ir (rI g 25 6) then
  if (rI g 25 6) = 0 then
    if ir (rI g 26 6) then
    if 0 < (rI g 26 6) then
      some (1, g)
    else
      some (0, g)
    else none
  else
    some (1, g)
  else none
set_option maxHeartbeats 4000000 in
set_option maxRecDepth 100000 in
theorem c_Reader_isInside_26 (d : Nat)  (g : G2) (r : Int) (g' : G2) (hf : f_Reader_isInside_26 g = some (r, g')) : C2 d m_Reader_isInside [vR 26] g (some (vI r)) g' := by
  unfold f_Reader_isInside_26 at hf
  refine C2.of rfl rfl rfl (Nat.le_of_ble_eq_true rfl) ?_
  have h1 : ir (rI g 25 6) := by
    by_cases q : ir (rI g 25 6)
    · exact q
    · rw [if_neg q] at hf; cases hf
  rw [if_pos h1] at hf
  by_cases h2 : (rI g 25 6) = 0
  · rw [if_pos h2] at hf
    refine Rt.path ok_Reader_isInside 3 [0] rfl ⟨⟨h1, h2⟩, trivial⟩ ?_
    have h3 : ir (rI g 26 6) := by
      by_cases q : ir (rI g 26 6)
      · exact q
      · rw [if_neg q] at hf; cases hf
    rw [if_pos h3] at hf
    by_cases h4 : 0 < (rI g 26 6)
    · rw [if_pos h4] at hf
      refine Rt.path ok_Reader_isInside 4 [0] rfl ⟨⟨h3, h4⟩, trivial⟩ ?_
      cases hf
      refine Rt.path ok_Reader_isInside 2 [] rfl trivial ?_
      exact Rt.retZ ok_Reader_isInside (by omega) rfl rfl
    · rw [if_neg h4] at hf
      refine Rt.path ok_Reader_isInside 4 [1] rfl ⟨⟨h3, (Int.not_lt.mp h4)⟩, trivial⟩ ?_
      cases hf
      refine Rt.path ok_Reader_isInside 1 [] rfl trivial ?_
      exact Rt.retZ ok_Reader_isInside (by omega) rfl rfl
  · rw [if_neg h2] at hf
    refine Rt.path ok_Reader_isInside 3 [1] rfl ⟨⟨h1, h2⟩, trivial⟩ ?_
    cases hf
    refine Rt.path ok_Reader_isInside 2 [] rfl trivial ?_
    exact Rt.retZ ok_Reader_isInside (by omega) rfl rfl
def f_Text_isTooLong_2  (g : G2) : Option (Int × G2) :=
  if ir ((rI g 1 4) - (rI g 1 3)) then
  if 8 < ((rI g 1 4) - (rI g 1 3)) then
    some (1, g)
  else
    some (0, g)
  else none
set_option maxHeartbeats 4000000 in
set_option maxRecDepth 100000 in
theorem c_Text_isTooLong_2 (d : Nat)  (g : G2) (r : Int) (g' : G2) (hf : f_Text_isTooLong_2 g = some (r, g')) : C2 d m_Text_isTooLong [vR 2] g (some (vI r)) g' := by
  unfold f_Text_isTooLong_2 at hf
  refine C2.of rfl rfl rfl (Nat.le_of_ble_eq_true rfl) ?_
  have h1 : ir ((rI g 1 4) - (rI g 1 3)) := by
    by_cases q : ir ((rI g 1 4) - (rI g 1 3))
    · exact q
    · rw [if_neg q] at hf; cases hf
  rw [if_pos h1] at hf
  by_cases h2 : 8 < ((rI g 1 4) - (rI g 1 3))
  · rw [if_pos h2] at hf
    refine Rt.path ok_Text_isTooLong 7 [0] rfl ⟨⟨⟨h1, ⟨by decide, by decide⟩⟩, h2⟩, trivial⟩ ?_
    cases hf
    refine Rt.path ok_Text_isTooLong 2 [] rfl trivial ?_
    exact Rt.retZ ok_Text_isTooLong (by omega) rfl rfl
  · rw [if_neg h2] at hf
    refine Rt.path ok_Text_isTooLong 7 [1] rfl ⟨⟨⟨h1, ⟨by decide, by decide⟩⟩, (Int.not_lt.mp h2)⟩, trivial⟩ ?_
    cases hf
    refine Rt.path ok_Text_isTooLong 1 [] rfl trivial ?_
    exact Rt.retZ ok_Text_isTooLong (by omega) rfl rfl
def b_Names_find_4_0 (L : Nat → Int64 → Int → G2 → Option (Int × G2)) (l1 : Int64) (i3 : Int) (g : G2) : Option (Int × G2) :=
  if ir i3 then
  if ir (rI g 3 3) then
  if i3 < (rI g 3 3) then
    if 0 ≤ i3 ∧ i3 < ((60 : Nat) : Int) ∧ ((60 : Nat) : Int) < 2147483648 then
    if (rB g 4 i3) = l1 then
      some (i3, g)
    else
      L 0 l1 (i3 + 1) g
    else none
  else
    some ((-1), g)
  else none
  else none
def l_Names_find_4 : Nat → Nat → Int64 → Int → G2 → Option (Int × G2)
  | 0 => fun _ _ _ _ => none
  | n + 1 => fun t l1 i3 g => match t with
    | _ => b_Names_find_4_0 (l_Names_find_4 n) l1 i3 g
set_option maxHeartbeats 4000000 in
set_option maxRecDepth 100000 in
theorem rl_Names_find_4 (d : Nat) : ∀ (n : Nat) (l1 : Int64) (i3 : Int) (g : G2) (r : Int) (g' : G2), (l_Names_find_4 n 0 l1 i3 g = some (r, g') → Rt d m_Names_find 2 [some (vR 4), some (vL l1), none, some (vI i3)] [] g (some (vI r)) g') := by
  intro n
  induction n with
  | zero => intro l1 i3 g r g'; exact fun hf => by cases hf
  | succ n ih =>
    intro l1 i3 g r g'
    intro hf
    replace hf : b_Names_find_4_0 (l_Names_find_4 n) l1 i3 g = some (r, g') := hf
    unfold b_Names_find_4_0 at hf
    have h1 : ir i3 := by
      by_cases q : ir i3
      · exact q
      · rw [if_neg q] at hf; cases hf
    rw [if_pos h1] at hf
    have h2 : ir (rI g 3 3) := by
      by_cases q : ir (rI g 3 3)
      · exact q
      · rw [if_neg q] at hf; cases hf
    rw [if_pos h2] at hf
    by_cases h3 : i3 < (rI g 3 3)
    · rw [if_pos h3] at hf
      refine Rt.path ok_Names_find 4 [0] rfl ⟨⟨⟨h1, h2⟩, h3⟩, trivial⟩ ?_
      have h4 : 0 ≤ i3 ∧ i3 < ((60 : Nat) : Int) ∧ ((60 : Nat) : Int) < 2147483648 := by
        by_cases q : 0 ≤ i3 ∧ i3 < ((60 : Nat) : Int) ∧ ((60 : Nat) : Int) < 2147483648
        · exact q
        · rw [if_neg q] at hf; cases hf
      rw [if_pos h4] at hf
      by_cases h5 : (rB g 4 i3) = l1
      · rw [if_pos h5] at hf
        refine Rt.path ok_Names_find 7 [0] rfl ⟨h4, ⟨(am_cmpIn _ _), (am_cmp0.mpr h5)⟩, trivial⟩ ?_
        cases hf
        refine Rt.path ok_Names_find 1 [] rfl trivial ?_
        exact Rt.retI ok_Names_find rfl rfl
      · rw [if_neg h5] at hf
        refine Rt.path ok_Names_find 7 [1] rfl ⟨h4, ⟨(am_cmpIn _ _), (fun q => h5 (am_cmp0.mp q))⟩, trivial⟩ ?_
        refine Rt.path ok_Names_find 2 [] rfl trivial ?_
        exact Rt.weak ((ih _ _ _ _ _) hf) ⟨rfl, rfl, rfl, trivial⟩
    · rw [if_neg h3] at hf
      refine Rt.path ok_Names_find 4 [1] rfl ⟨⟨⟨h1, h2⟩, (Int.not_lt.mp h3)⟩, trivial⟩ ?_
      cases hf
      refine Rt.path ok_Names_find 1 [] rfl trivial ?_
      exact Rt.retI ok_Names_find rfl rfl
def f_Names_find_4 (a1 : Int64) (g : G2) : Option (Int × G2) :=
  l_Names_find_4 20000 0 a1 0 g
set_option maxHeartbeats 4000000 in
set_option maxRecDepth 100000 in
theorem c_Names_find_4 (d : Nat) (a1 : Int64) (g : G2) (r : Int) (g' : G2) (hf : f_Names_find_4 a1 g = some (r, g')) : C2 d m_Names_find [vR 4, vL a1] g (some (vI r)) g' := by
  unfold f_Names_find_4 at hf
  refine C2.of rfl rfl rfl (Nat.le_of_ble_eq_true rfl) ?_
  refine Rt.path ok_Names_find 2 [] rfl trivial ?_
  exact Rt.weak ((rl_Names_find_4 d _ _ _ _ _ _) hf) ⟨rfl, rfl, rfl, trivial⟩
def f_Names_isFull_4  (g : G2) : Option (Int × G2) :=
  if ir (rI g 3 3) then
  if (rI g 3 3) < 60 then
    some (0, g)
  else
    some (1, g)
  else none
set_option maxHeartbeats 4000000 in
set_option maxRecDepth 100000 in
theorem c_Names_isFull_4 (d : Nat)  (g : G2) (r : Int) (g' : G2) (hf : f_Names_isFull_4 g = some (r, g')) : C2 d m_Names_isFull [vR 4] g (some (vI r)) g' := by
  unfold f_Names_isFull_4 at hf
  refine C2.of rfl rfl rfl (Nat.le_of_ble_eq_true rfl) ?_
  have h1 : ir (rI g 3 3) := by
    by_cases q : ir (rI g 3 3)
    · exact q
    · rw [if_neg q] at hf; cases hf
  rw [if_pos h1] at hf
  by_cases h2 : (rI g 3 3) < 60
  · rw [if_pos h2] at hf
    refine Rt.path ok_Names_isFull 4 [1] rfl ⟨⟨⟨h1, ⟨by decide, by decide⟩⟩, h2⟩, trivial⟩ ?_
    cases hf
    refine Rt.path ok_Names_isFull 1 [] rfl trivial ?_
    exact Rt.retZ ok_Names_isFull (by omega) rfl rfl
  · rw [if_neg h2] at hf
    refine Rt.path ok_Names_isFull 4 [0] rfl ⟨⟨⟨h1, ⟨by decide, by decide⟩⟩, (Int.not_lt.mp h2)⟩, trivial⟩ ?_
    cases hf
    refine Rt.path ok_Names_isFull 2 [] rfl trivial ?_
    exact Rt.retZ ok_Names_isFull (by omega) rfl rfl
def f_Expressions_isFull_11  (g : G2) : Option (Int × G2) :=
  if ir (rI g 10 4) then
  if (rI g 10 4) < 40 then
    some (0, g)
  else
    some (1, g)
  else none
set_option maxHeartbeats 4000000 in
set_option maxRecDepth 100000 in
theorem c_Expressions_isFull_11 (d : Nat)  (g : G2) (r : Int) (g' : G2) (hf : f_Expressions_isFull_11 g = some (r, g')) : C2 d m_Expressions_isFull [vR 11] g (some (vI r)) g' := by
  unfold f_Expressions_isFull_11 at hf
  refine C2.of rfl rfl rfl (Nat.le_of_ble_eq_true rfl) ?_
  have h1 : ir (rI g 10 4) := by
    by_cases q : ir (rI g 10 4)
    · exact q
    · rw [if_neg q] at hf; cases hf
  rw [if_pos h1] at hf
  by_cases h2 : (rI g 10 4) < 40
  · rw [if_pos h2] at hf
    refine Rt.path ok_Expressions_isFull 5 [1] rfl ⟨⟨⟨h1, ⟨by decide, by decide⟩⟩, h2⟩, trivial⟩ ?_
    cases hf
    refine Rt.path ok_Expressions_isFull 1 [] rfl trivial ?_
    exact Rt.retZ ok_Expressions_isFull (by omega) rfl rfl
  · rw [if_neg h2] at hf
    refine Rt.path ok_Expressions_isFull 5 [0] rfl ⟨⟨⟨h1, ⟨by decide, by decide⟩⟩, (Int.not_lt.mp h2)⟩, trivial⟩ ?_
    cases hf
    refine Rt.path ok_Expressions_isFull 2 [] rfl trivial ?_
    exact Rt.retZ ok_Expressions_isFull (by omega) rfl rfl
def f_Expressions_startRow_11  (g : G2) : Option (G2) :=
  if 0 ≤ (rI g 10 4) ∧ (rI g 10 4) < ((40 : Nat) : Int) ∧ ((40 : Nat) : Int) < 2147483648 then
  if 0 ≤ (rI (gA g 12 (rI g 10 4) 0) 10 4) ∧ (rI (gA g 12 (rI g 10 4) 0) 10 4) < ((40 : Nat) : Int) ∧ ((40 : Nat) : Int) < 2147483648 then
  some (gB (gA g 12 (rI g 10 4) 0) 13 (rI (gA g 12 (rI g 10 4) 0) 10 4) (Int64.ofNat 0))
  else none
  else none
set_option maxHeartbeats 4000000 in
set_option maxRecDepth 100000 in
theorem c_Expressions_startRow_11 (d : Nat)  (g : G2) (g' : G2) (hf : f_Expressions_startRow_11 g = some g') : C2 d m_Expressions_startRow [vR 11] g none g' := by
  unfold f_Expressions_startRow_11 at hf
  refine C2.of rfl rfl rfl (Nat.le_of_ble_eq_true rfl) ?_
  have h1 : 0 ≤ (rI g 10 4) ∧ (rI g 10 4) < ((40 : Nat) : Int) ∧ ((40 : Nat) : Int) < 2147483648 := by
    by_cases q : 0 ≤ (rI g 10 4) ∧ (rI g 10 4) < ((40 : Nat) : Int) ∧ ((40 : Nat) : Int) < 2147483648
    · exact q
    · rw [if_neg q] at hf; cases hf
  rw [if_pos h1] at hf
  have h2 : 0 ≤ (rI (gA g 12 (rI g 10 4) 0) 10 4) ∧ (rI (gA g 12 (rI g 10 4) 0) 10 4) < ((40 : Nat) : Int) ∧ ((40 : Nat) : Int) < 2147483648 := by
    by_cases q : 0 ≤ (rI (gA g 12 (rI g 10 4) 0) 10 4) ∧ (rI (gA g 12 (rI g 10 4) 0) 10 4) < ((40 : Nat) : Int) ∧ ((40 : Nat) : Int) < 2147483648
    · exact q
    · rw [if_neg q] at hf; cases hf
  rw [if_pos h2] at hf
  cases hf
  refine Rt.path ok_Expressions_startRow 12 [] rfl ⟨h1, h2, trivial⟩ ?_
  exact Rt.retV ok_Expressions_startRow rfl rfl
def f_Statements_start_8 (a1 : Int64) (g : G2) : Option (G2) :=
  if 0 ≤ (rI g 10 4) ∧ (rI g 10 4) < ((40 : Nat) : Int) ∧ ((40 : Nat) : Int) < 2147483648 then
  (f_Expressions_startRow_11 (gB g 8 (rI g 10 4) a1)).bind fun q2 =>
  some q2
  else none
set_option maxHeartbeats 4000000 in
set_option maxRecDepth 100000 in
theorem c_Statements_start_8 (d : Nat) (a1 : Int64) (g : G2) (g' : G2) (hf : f_Statements_start_8 a1 g = some g') : C2 (d + 1) m_Statements_start [vR 8, vL a1] g none g' := by
  unfold f_Statements_start_8 at hf
  refine C2.of rfl rfl rfl (Nat.le_of_ble_eq_true rfl) ?_
  have h1 : 0 ≤ (rI g 10 4) ∧ (rI g 10 4) < ((40 : Nat) : Int) ∧ ((40 : Nat) : Int) < 2147483648 := by
    by_cases q : 0 ≤ (rI g 10 4) ∧ (rI g 10 4) < ((40 : Nat) : Int) ∧ ((40 : Nat) : Int) < 2147483648
    · exact q
    · rw [if_neg q] at hf; cases hf
  rw [if_pos h1] at hf
  obtain ⟨q2, e2, hf⟩ := Option.bind_eq_some_iff.mp hf
  refine Rt.path ok_Statements_start 9 [] rfl ⟨h1, trivial⟩ ?_
  refine Rt.callV ok_Statements_start rfl ml_Statements_38 [] cf_Expressions_startRow rfl rfl (c_Expressions_startRow_11 d _ _ e2) (Nat.le_of_ble_eq_true rfl) ?_
  cases hf
  exact Rt.retV ok_Statements_start rfl rfl
def f_Reader_takeLabel_26 (a1 : Int64) (g : G2) : Option (Int × G2) :=
  (f_Names_find_4 a1 g).bind fun q1 =>
  if ir q1.1 then
  if q1.1 = (-1) then
    (f_Names_isFull_4 q1.2).bind fun q4 =>
    if ir q4.1 then
    if q4.1 = 0 then
      (f_Expressions_isFull_11 q4.2).bind fun q7 =>
      if ir q7.1 then
      if q7.1 = 0 then
        (f_Statements_start_8 a1 q7.2).bind fun q10 =>
        some (0, (gI q10 25 6 4))
      else
        some ((-7), q7.2)
      else none
    else
      some ((-7), q4.2)
    else none
  else
    some ((-4), q1.2)
  else none
set_option maxHeartbeats 4000000 in
set_option maxRecDepth 100000 in
theorem c_Reader_takeLabel_26 (d : Nat) (a1 : Int64) (g : G2) (r : Int) (g' : G2) (hf : f_Reader_takeLabel_26 a1 g = some (r, g')) : C2 (d + 2) m_Reader_takeLabel [vR 26, vL a1] g (some (vI r)) g' := by
  unfold f_Reader_takeLabel_26 at hf
  refine C2.of rfl rfl rfl (Nat.le_of_ble_eq_true rfl) ?_
  obtain ⟨q1, e1, hf⟩ := Option.bind_eq_some_iff.mp hf
  refine Rt.path ok_Reader_takeLabel 3 [] rfl trivial ?_
  refine Rt.callV ok_Reader_takeLabel rfl ml_Reader_118 [vL _] cf_Names_find rfl rfl (c_Names_find_4 (d + 1) _ _ _ _ e1) (Nat.le_of_ble_eq_true rfl) ?_
  have h2 : ir q1.1 := by
    by_cases q : ir q1.1
    · exact q
    · rw [if_neg q] at hf; cases hf
  rw [if_pos h2] at hf
  by_cases h3 : q1.1 = (-1)
  · rw [if_pos h3] at hf
    refine Rt.path ok_Reader_takeLabel 2 [1] rfl ⟨⟨⟨h2, ⟨by decide, by decide⟩⟩, h3⟩, trivial⟩ ?_
    obtain ⟨q4, e4, hf⟩ := Option.bind_eq_some_iff.mp hf
    refine Rt.path ok_Reader_takeLabel 2 [] rfl trivial ?_
    refine Rt.callV ok_Reader_takeLabel rfl ml_Reader_161 [] cf_Names_isFull rfl rfl (c_Names_isFull_4 (d + 1) _ _ _ e4) (Nat.le_of_ble_eq_true rfl) ?_
    have h5 : ir q4.1 := by
      by_cases q : ir q4.1
      · exact q
      · rw [if_neg q] at hf; cases hf
    rw [if_pos h5] at hf
    by_cases h6 : q4.1 = 0
    · rw [if_pos h6] at hf
      refine Rt.path ok_Reader_takeLabel 1 [0] rfl ⟨⟨h5, h6⟩, trivial⟩ ?_
      obtain ⟨q7, e7, hf⟩ := Option.bind_eq_some_iff.mp hf
      refine Rt.path ok_Reader_takeLabel 3 [] rfl trivial ?_
      refine Rt.callV ok_Reader_takeLabel rfl ml_Reader_193 [] cf_Expressions_isFull rfl rfl (c_Expressions_isFull_11 (d + 1) _ _ _ e7) (Nat.le_of_ble_eq_true rfl) ?_
      have h8 : ir q7.1 := by
        by_cases q : ir q7.1
        · exact q
        · rw [if_neg q] at hf; cases hf
      rw [if_pos h8] at hf
      by_cases h9 : q7.1 = 0
      · rw [if_pos h9] at hf
        refine Rt.path ok_Reader_takeLabel 1 [1] rfl ⟨⟨h8, h9⟩, trivial⟩ ?_
        obtain ⟨q10, e10, hf⟩ := Option.bind_eq_some_iff.mp hf
        refine Rt.path ok_Reader_takeLabel 3 [] rfl trivial ?_
        refine Rt.callV ok_Reader_takeLabel rfl ml_Reader_194 [vL _] cf_Statements_start rfl rfl (c_Statements_start_8 d _ _ _ e10) (Nat.le_of_ble_eq_true rfl) ?_
        cases hf
        refine Rt.path ok_Reader_takeLabel 4 [] rfl trivial ?_
        exact Rt.retI ok_Reader_takeLabel rfl rfl
      · rw [if_neg h9] at hf
        refine Rt.path ok_Reader_takeLabel 1 [0] rfl ⟨⟨h8, h9⟩, trivial⟩ ?_
        cases hf
        refine Rt.path ok_Reader_takeLabel 1 [] rfl trivial ?_
        exact Rt.retI ok_Reader_takeLabel rfl rfl
    · rw [if_neg h6] at hf
      refine Rt.path ok_Reader_takeLabel 1 [1] rfl ⟨⟨h5, h6⟩, trivial⟩ ?_
      cases hf
      refine Rt.path ok_Reader_takeLabel 1 [] rfl trivial ?_
      exact Rt.retI ok_Reader_takeLabel rfl rfl
  · rw [if_neg h3] at hf
    refine Rt.path ok_Reader_takeLabel 2 [0] rfl ⟨⟨⟨h2, ⟨by decide, by decide⟩⟩, h3⟩, trivial⟩ ?_
    cases hf
    refine Rt.path ok_Reader_takeLabel 1 [] rfl trivial ?_
    exact Rt.retI ok_Reader_takeLabel rfl rfl
end

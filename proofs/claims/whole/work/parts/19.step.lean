/-! ===== one step of each loop text ===== -/
theorem s_Text_append_2_0  (n : Nat) (l1 : Int64) (i3 : Int) (i4 : Int) (g : G2) : l_Text_append_2 (n + 1) 0 l1 i3 i4 g = b_Text_append_2_0 (l_Text_append_2 n) l1 i3 i4 g := rfl
theorem s_Text_append_2_1  (n : Nat) (l1 : Int64) (i3 : Int) (i4 : Int) (g : G2) : l_Text_append_2 (n + 1) 1 l1 i3 i4 g = b_Text_append_2_1 (l_Text_append_2 n) l1 i3 i4 g := rfl
theorem s_J_fill_29_0  (n : Nat) (l1 : Int64) (i3 : Int) (i4 : Int) (g : G2) : l_J_fill_29 (n + 1) 0 l1 i3 i4 g = b_J_fill_29_0 (l_J_fill_29 n) l1 i3 i4 g := rfl
theorem s_Context_forgetPairs_27_0  (n : Nat) (i1 : Int) (i2 : Int) (g : G2) : l_Context_forgetPairs_27 (n + 1) 0 i1 i2 g = b_Context_forgetPairs_27_0 (l_Context_forgetPairs_27 n) i1 i2 g := rfl
theorem s_Text_scanWord_2_0  (n : Nat) (g : G2) : l_Text_scanWord_2 (n + 1) 0 g = b_Text_scanWord_2_0 (l_Text_scanWord_2 n) g := rfl
theorem s_Text_scanWord_2_1  (n : Nat) (g : G2) : l_Text_scanWord_2 (n + 1) 1 g = b_Text_scanWord_2_1 (l_Text_scanWord_2 n) g := rfl
theorem s_Text_scanWord_2_2  (n : Nat) (g : G2) : l_Text_scanWord_2 (n + 1) 2 g = b_Text_scanWord_2_2 (l_Text_scanWord_2 n) g := rfl
theorem s_Text_scanWord_2_3  (n : Nat) (g : G2) : l_Text_scanWord_2 (n + 1) 3 g = b_Text_scanWord_2_3 (l_Text_scanWord_2 n) g := rfl
theorem s_Text_advance_2_0  (n : Nat) (i1 : Int) (g : G2) : l_Text_advance_2 (n + 1) 0 i1 g = b_Text_advance_2_0 (l_Text_advance_2 n) i1 g := rfl
theorem s_Names_find_4_0  (n : Nat) (l1 : Int64) (i3 : Int) (g : G2) : l_Names_find_4 (n + 1) 0 l1 i3 g = b_Names_find_4_0 (l_Names_find_4 n) l1 i3 g := rfl
theorem s_Reader_takeApart_26_0  (n : Nat) (i1 : Int) (i3 : Int) (g : G2) : l_Reader_takeApart_26 (n + 1) 0 i1 i3 g = b_Reader_takeApart_26_0 (l_Reader_takeApart_26 n) i1 i3 g := rfl
theorem s_Letters_begin_44_0  (n : Nat) (i1 : Int) (i2 : Int) (g : G2) : l_Letters_begin_44 (n + 1) 0 i1 i2 g = b_Letters_begin_44_0 (l_Letters_begin_44 n) i1 i2 g := rfl
theorem s_Expressions_appendBody_39_35_0  (n : Nat) (i2 : Int) (i3 : Int) (g : G2) : l_Expressions_appendBody_39_35 (n + 1) 0 i2 i3 g = b_Expressions_appendBody_39_35_0 (l_Expressions_appendBody_39_35 n) i2 i3 g := rfl
theorem s_Proof_replaceIn_34_0  (n : Nat) (i1 : Int) (i3 : Int) (g : G2) : l_Proof_replaceIn_34 (n + 1) 0 i1 i3 g = b_Proof_replaceIn_34_0 (l_Proof_replaceIn_34 n) i1 i3 g := rfl
theorem s_Expressions_isSame_35_39_0  (n : Nat) (i1 : Int) (i3 : Int) (i4 : Int) (g : G2) : l_Expressions_isSame_35_39 (n + 1) 0 i1 i3 i4 g = b_Expressions_isSame_35_39_0 (l_Expressions_isSame_35_39 n) i1 i3 i4 g := rfl
theorem s_Proof_bind_34_0  (n : Nat) (i1 : Int) (i4 : Int) (i5 : Int) (g : G2) : l_Proof_bind_34 (n + 1) 0 i1 i4 i5 g = b_Proof_bind_34_0 (l_Proof_bind_34 n) i1 i4 i5 g := rfl
theorem s_Context_areApart_27_0  (n : Nat) (l1 : Int64) (l3 : Int64) (i5 : Int) (g : G2) : l_Context_areApart_27 (n + 1) 0 l1 l3 i5 g = b_Context_areApart_27_0 (l_Context_areApart_27 n) l1 l3 i5 g := rfl
theorem s_Proof_keepsApart_34_0  (n : Nat) (i1 : Int) (i2 : Int) (g : G2) : l_Proof_keepsApart_34 (n + 1) 0 i1 i2 g = b_Proof_keepsApart_34_0 (l_Proof_keepsApart_34 n) i1 i2 g := rfl
theorem s_Letters_takeLetters_44_2_0  (n : Nat) (i2 : Int) (i3 : Int) (g : G2) : l_Letters_takeLetters_44_2 (n + 1) 0 i2 i3 g = b_Letters_takeLetters_44_2_0 (l_Letters_takeLetters_44_2 n) i2 i3 g := rfl
theorem s_Letters_takeLetters_44_2_1  (n : Nat) (i2 : Int) (i3 : Int) (g : G2) : l_Letters_takeLetters_44_2 (n + 1) 1 i2 i3 g = b_Letters_takeLetters_44_2_1 (l_Letters_takeLetters_44_2 n) i2 i3 g := rfl
theorem s_Letters_takeLetters_44_2_2  (n : Nat) (i2 : Int) (i3 : Int) (g : G2) : l_Letters_takeLetters_44_2 (n + 1) 2 i2 i3 g = b_Letters_takeLetters_44_2_2 (l_Letters_takeLetters_44_2 n) i2 i3 g := rfl
theorem s_Letters_takeLetters_44_2_3  (n : Nat) (i2 : Int) (i3 : Int) (g : G2) : l_Letters_takeLetters_44_2 (n + 1) 3 i2 i3 g = b_Letters_takeLetters_44_2_3 (l_Letters_takeLetters_44_2 n) i2 i3 g := rfl
theorem s_Letters_takeLetters_44_2_4  (n : Nat) (i2 : Int) (i3 : Int) (g : G2) : l_Letters_takeLetters_44_2 (n + 1) 4 i2 i3 g = b_Letters_takeLetters_44_2_4 (l_Letters_takeLetters_44_2 n) i2 i3 g := rfl
theorem s_Letters_takeLetters_44_2_5  (n : Nat) (i2 : Int) (i3 : Int) (g : G2) : l_Letters_takeLetters_44_2 (n + 1) 5 i2 i3 g = b_Letters_takeLetters_44_2_5 (l_Letters_takeLetters_44_2 n) i2 i3 g := rfl
theorem s_Assertions_start_17_0  (n : Nat) (i2 : Int) (g : G2) : l_Assertions_start_17 (n + 1) 0 i2 g = b_Assertions_start_17_0 (l_Assertions_start_17 n) i2 g := rfl
theorem s_Reader_mandatoryVariables_26_0  (n : Nat) (i1 : Int) (l2 : Int64) (i4 : Int) (g : G2) : l_Reader_mandatoryVariables_26 (n + 1) 0 i1 l2 i4 g = b_Reader_mandatoryVariables_26_0 (l_Reader_mandatoryVariables_26 n) i1 l2 i4 g := rfl
theorem s_Reader_keepPairs_26_0  (n : Nat) (l1 : Int64) (i3 : Int) (l4 : Int64) (i6 : Int) (g : G2) : l_Reader_keepPairs_26 (n + 1) 0 l1 i3 l4 i6 g = b_Reader_keepPairs_26_0 (l_Reader_keepPairs_26 n) l1 i3 l4 i6 g := rfl
theorem s_Reader_keepPairs_26_1  (n : Nat) (l1 : Int64) (i3 : Int) (l4 : Int64) (i6 : Int) (g : G2) : l_Reader_keepPairs_26 (n + 1) 1 l1 i3 l4 i6 g = b_Reader_keepPairs_26_1 (l_Reader_keepPairs_26 n) l1 i3 l4 i6 g := rfl
theorem s_Reader_beginAssertion_26_0  (n : Nat) (i1 : Int) (l2 : Int64) (i4 : Int) (g : G2) : l_Reader_beginAssertion_26 (n + 1) 0 i1 l2 i4 g = b_Reader_beginAssertion_26_0 (l_Reader_beginAssertion_26 n) i1 l2 i4 g := rfl
theorem s_Reader_beginAssertion_26_1  (n : Nat) (i1 : Int) (l2 : Int64) (i4 : Int) (g : G2) : l_Reader_beginAssertion_26 (n + 1) 1 i1 l2 i4 g = b_Reader_beginAssertion_26_1 (l_Reader_beginAssertion_26 n) i1 l2 i4 g := rfl
theorem s_Reader_beginAssertion_26_2  (n : Nat) (i1 : Int) (l2 : Int64) (i4 : Int) (g : G2) : l_Reader_beginAssertion_26 (n + 1) 2 i1 l2 i4 g = b_Reader_beginAssertion_26_2 (l_Reader_beginAssertion_26 n) i1 l2 i4 g := rfl
theorem s_Expressions_isSame_35_11_0  (n : Nat) (i1 : Int) (i3 : Int) (i4 : Int) (g : G2) : l_Expressions_isSame_35_11 (n + 1) 0 i1 i3 i4 g = b_Expressions_isSame_35_11_0 (l_Expressions_isSame_35_11 n) i1 i3 i4 g := rfl
theorem s_L_read_1_0  (n : Nat) (i1 : Int) (i2 : Int) (g : G2) : l_L_read_1 (n + 1) 0 i1 i2 g = b_L_read_1_0 (l_L_read_1 n) i1 i2 g := rfl
theorem s_L_read_1_1  (n : Nat) (i1 : Int) (i2 : Int) (g : G2) : l_L_read_1 (n + 1) 1 i1 i2 g = b_L_read_1_1 (l_L_read_1 n) i1 i2 g := rfl
theorem s_L_read_1_2  (n : Nat) (i1 : Int) (i2 : Int) (g : G2) : l_L_read_1 (n + 1) 2 i1 i2 g = b_L_read_1_2 (l_L_read_1 n) i1 i2 g := rfl
theorem s_L_read_1_3  (n : Nat) (i1 : Int) (i2 : Int) (g : G2) : l_L_read_1 (n + 1) 3 i1 i2 g = b_L_read_1_3 (l_L_read_1 n) i1 i2 g := rfl
theorem s_Statements_countKind_8_0  (n : Nat) (i1 : Int) (i2 : Int) (i3 : Int) (g : G2) : l_Statements_countKind_8 (n + 1) 0 i1 i2 i3 g = b_Statements_countKind_8_0 (l_Statements_countKind_8 n) i1 i2 i3 g := rfl
theorem s_Assertions_countIncomplete_17_0  (n : Nat) (i1 : Int) (i2 : Int) (g : G2) : l_Assertions_countIncomplete_17 (n + 1) 0 i1 i2 g = b_Assertions_countIncomplete_17_0 (l_Assertions_countIncomplete_17 n) i1 i2 g := rfl
theorem s_Statements_findMandatory_8_0  (n : Nat) (i1 : Int) (i2 : Int) (i3 : Int) (i4 : Int) (g : G2) : l_Statements_findMandatory_8 (n + 1) 0 i1 i2 i3 i4 g = b_Statements_findMandatory_8_0 (l_Statements_findMandatory_8 n) i1 i2 i3 i4 g := rfl
theorem s_L_apart_1_0  (n : Nat) (i1 : Int) (l2 : Int64) (l4 : Int64) (i6 : Int) (g : G2) : l_L_apart_1 (n + 1) 0 i1 l2 l4 i6 g = b_L_apart_1_0 (l_L_apart_1 n) i1 l2 l4 i6 g := rfl
theorem s_M_feed_50_0  (n : Nat) (l1 : Int64) (i3 : Int) (i4 : Int) (g : G2) : l_M_feed_50 (n + 1) 0 l1 i3 i4 g = b_M_feed_50_0 (l_M_feed_50 n) l1 i3 i4 g := rfl
theorem s_M_feed_50_1  (n : Nat) (l1 : Int64) (i3 : Int) (i4 : Int) (g : G2) : l_M_feed_50 (n + 1) 1 l1 i3 i4 g = b_M_feed_50_1 (l_M_feed_50 n) l1 i3 i4 g := rfl
theorem s_M_findWords_50_0  (n : Nat) (i1 : Int) (i2 : Int) (g : G2) : l_M_findWords_50 (n + 1) 0 i1 i2 g = b_M_findWords_50_0 (l_M_findWords_50 n) i1 i2 g := rfl
theorem s_M_come_50_0  (n : Nat) (g : G2) : l_M_come_50 (n + 1) 0 g = b_M_come_50_0 (l_M_come_50 n) g := rfl
theorem s_M_come_50_1  (n : Nat) (g : G2) : l_M_come_50 (n + 1) 1 g = b_M_come_50_1 (l_M_come_50 n) g := rfl
theorem s_M_come_50_2  (n : Nat) (g : G2) : l_M_come_50 (n + 1) 2 g = b_M_come_50_2 (l_M_come_50 n) g := rfl
theorem s_M_come_50_3  (n : Nat) (g : G2) : l_M_come_50 (n + 1) 3 g = b_M_come_50_3 (l_M_come_50 n) g := rfl
theorem s_M_come_50_4  (n : Nat) (g : G2) : l_M_come_50 (n + 1) 4 g = b_M_come_50_4 (l_M_come_50 n) g := rfl
theorem s_M_whatIs_50_0  (n : Nat) (i1 : Int) (i2 : Int) (i3 : Int) (g : G2) : l_M_whatIs_50 (n + 1) 0 i1 i2 i3 g = b_M_whatIs_50_0 (l_M_whatIs_50 n) i1 i2 i3 g := rfl
theorem s_M_whatIs_50_1  (n : Nat) (i1 : Int) (i2 : Int) (i3 : Int) (g : G2) : l_M_whatIs_50 (n + 1) 1 i1 i2 i3 g = b_M_whatIs_50_1 (l_M_whatIs_50 n) i1 i2 i3 g := rfl
theorem s_M_codeOf_50_0  (n : Nat) (i1 : Int) (l2 : Int64) (i4 : Int) (g : G2) : l_M_codeOf_50 (n + 1) 0 i1 l2 i4 g = b_M_codeOf_50_0 (l_M_codeOf_50 n) i1 l2 i4 g := rfl
theorem s_M_find_50_0  (n : Nat) (l1 : Int64) (i3 : Int) (g : G2) : l_M_find_50 (n + 1) 0 l1 i3 g = b_M_find_50_0 (l_M_find_50 n) l1 i3 g := rfl
theorem s_M_typeOf_50_0  (n : Nat) (i1 : Int) (i2 : Int) (g : G2) : l_M_typeOf_50 (n + 1) 0 i1 i2 g = b_M_typeOf_50_0 (l_M_typeOf_50 n) i1 i2 g := rfl
theorem s_M_declare_50_0  (n : Nat) (i1 : Int) (i4 : Int) (i6 : Int) (g : G2) : l_M_declare_50 (n + 1) 0 i1 i4 i6 g = b_M_declare_50_0 (l_M_declare_50 n) i1 i4 i6 g := rfl
theorem s_M_readFloating_50_0  (n : Nat) (l1 : Int64) (g : G2) : l_M_readFloating_50 (n + 1) 0 l1 g = b_M_readFloating_50_0 (l_M_readFloating_50 n) l1 g := rfl
theorem s_M_readFloating_50_1  (n : Nat) (l1 : Int64) (g : G2) : l_M_readFloating_50 (n + 1) 1 l1 g = b_M_readFloating_50_1 (l_M_readFloating_50 n) l1 g := rfl
theorem s_M_readFloating_50_2  (n : Nat) (l1 : Int64) (g : G2) : l_M_readFloating_50 (n + 1) 2 l1 g = b_M_readFloating_50_2 (l_M_readFloating_50 n) l1 g := rfl
theorem s_M_readFloating_50_3  (n : Nat) (l1 : Int64) (g : G2) : l_M_readFloating_50 (n + 1) 3 l1 g = b_M_readFloating_50_3 (l_M_readFloating_50 n) l1 g := rfl
theorem s_M_readExpression_50_0  (n : Nat) (i1 : Int) (i3 : Int) (g : G2) : l_M_readExpression_50 (n + 1) 0 i1 i3 g = b_M_readExpression_50_0 (l_M_readExpression_50 n) i1 i3 g := rfl
theorem s_M_readExpression_50_1  (n : Nat) (i1 : Int) (i3 : Int) (g : G2) : l_M_readExpression_50 (n + 1) 1 i1 i3 g = b_M_readExpression_50_1 (l_M_readExpression_50 n) i1 i3 g := rfl
theorem s_M_readExpression_50_2  (n : Nat) (i1 : Int) (i3 : Int) (g : G2) : l_M_readExpression_50 (n + 1) 2 i1 i3 g = b_M_readExpression_50_2 (l_M_readExpression_50 n) i1 i3 g := rfl
theorem s_M_readExpression_50_3  (n : Nat) (i1 : Int) (i3 : Int) (g : G2) : l_M_readExpression_50 (n + 1) 3 i1 i3 g = b_M_readExpression_50_3 (l_M_readExpression_50 n) i1 i3 g := rfl
theorem s_M_settle_50_0  (n : Nat) (i1 : Int) (i2 : Int) (g : G2) : l_M_settle_50 (n + 1) 0 i1 i2 g = b_M_settle_50_0 (l_M_settle_50 n) i1 i2 g := rfl
theorem s_M_mark_50_0  (n : Nat) (i1 : Int) (i2 : Int) (i3 : Int) (i4 : Int) (g : G2) : l_M_mark_50 (n + 1) 0 i1 i2 i3 i4 g = b_M_mark_50_0 (l_M_mark_50 n) i1 i2 i3 i4 g := rfl
theorem s_M_isNeeded_50_0  (n : Nat) (i1 : Int) (i2 : Int) (i3 : Int) (i4 : Int) (g : G2) : l_M_isNeeded_50 (n + 1) 0 i1 i2 i3 i4 g = b_M_isNeeded_50_0 (l_M_isNeeded_50 n) i1 i2 i3 i4 g := rfl
theorem s_M_findNeeds_50_0  (n : Nat) (i1 : Int) (i2 : Int) (g : G2) : l_M_findNeeds_50 (n + 1) 0 i1 i2 g = b_M_findNeeds_50_0 (l_M_findNeeds_50 n) i1 i2 g := rfl
theorem s_M_findNeeds_50_1  (n : Nat) (i1 : Int) (i2 : Int) (g : G2) : l_M_findNeeds_50 (n + 1) 1 i1 i2 g = b_M_findNeeds_50_1 (l_M_findNeeds_50 n) i1 i2 g := rfl
theorem s_M_findNeeds_50_2  (n : Nat) (i1 : Int) (i2 : Int) (g : G2) : l_M_findNeeds_50 (n + 1) 2 i1 i2 g = b_M_findNeeds_50_2 (l_M_findNeeds_50 n) i1 i2 g := rfl
theorem s_M_findNeeds_50_3  (n : Nat) (i1 : Int) (i2 : Int) (g : G2) : l_M_findNeeds_50 (n + 1) 3 i1 i2 g = b_M_findNeeds_50_3 (l_M_findNeeds_50 n) i1 i2 g := rfl
theorem s_M_findNeeds_50_4  (n : Nat) (i1 : Int) (i2 : Int) (g : G2) : l_M_findNeeds_50 (n + 1) 4 i1 i2 g = b_M_findNeeds_50_4 (l_M_findNeeds_50 n) i1 i2 g := rfl
theorem s_M_findNeeds_50_5  (n : Nat) (i1 : Int) (i2 : Int) (g : G2) : l_M_findNeeds_50 (n + 1) 5 i1 i2 g = b_M_findNeeds_50_5 (l_M_findNeeds_50 n) i1 i2 g := rfl
theorem s_M_findNeeds_50_6  (n : Nat) (i1 : Int) (i2 : Int) (g : G2) : l_M_findNeeds_50 (n + 1) 6 i1 i2 g = b_M_findNeeds_50_6 (l_M_findNeeds_50 n) i1 i2 g := rfl
theorem s_M_findNeeds_50_7  (n : Nat) (i1 : Int) (i2 : Int) (g : G2) : l_M_findNeeds_50 (n + 1) 7 i1 i2 g = b_M_findNeeds_50_7 (l_M_findNeeds_50 n) i1 i2 g := rfl
theorem s_M_findNeeds_50_8  (n : Nat) (i1 : Int) (i2 : Int) (g : G2) : l_M_findNeeds_50 (n + 1) 8 i1 i2 g = b_M_findNeeds_50_8 (l_M_findNeeds_50 n) i1 i2 g := rfl
theorem s_M_begin_50_0  (n : Nat) (i1 : Int) (i2 : Int) (g : G2) : l_M_begin_50 (n + 1) 0 i1 i2 g = b_M_begin_50_0 (l_M_begin_50 n) i1 i2 g := rfl
theorem s_M_pushHypothesis_50_0  (n : Nat) (i1 : Int) (i2 : Int) (g : G2) : l_M_pushHypothesis_50 (n + 1) 0 i1 i2 g = b_M_pushHypothesis_50_0 (l_M_pushHypothesis_50 n) i1 i2 g := rfl
theorem s_M_replace_50_0  (n : Nat) (i1 : Int) (i2 : Int) (i3 : Int) (i5 : Int) (i6 : Int) (g : G2) : l_M_replace_50 (n + 1) 0 i1 i2 i3 i5 i6 g = b_M_replace_50_0 (l_M_replace_50 n) i1 i2 i3 i5 i6 g := rfl
theorem s_M_replace_50_1  (n : Nat) (i1 : Int) (i2 : Int) (i3 : Int) (i5 : Int) (i6 : Int) (g : G2) : l_M_replace_50 (n + 1) 1 i1 i2 i3 i5 i6 g = b_M_replace_50_1 (l_M_replace_50 n) i1 i2 i3 i5 i6 g := rfl
theorem s_M_isMade_50_0  (n : Nat) (i1 : Int) (i2 : Int) (i3 : Int) (i4 : Int) (g : G2) : l_M_isMade_50 (n + 1) 0 i1 i2 i3 i4 g = b_M_isMade_50_0 (l_M_isMade_50 n) i1 i2 i3 i4 g := rfl
theorem s_M_areApart_50_0  (n : Nat) (i1 : Int) (i2 : Int) (i3 : Int) (g : G2) : l_M_areApart_50 (n + 1) 0 i1 i2 i3 g = b_M_areApart_50_0 (l_M_areApart_50 n) i1 i2 i3 g := rfl
theorem s_M_allApart_50_0  (n : Nat) (i1 : Int) (i2 : Int) (i3 : Int) (i4 : Int) (g : G2) : l_M_allApart_50 (n + 1) 0 i1 i2 i3 i4 g = b_M_allApart_50_0 (l_M_allApart_50 n) i1 i2 i3 i4 g := rfl
theorem s_M_allApart_50_1  (n : Nat) (i1 : Int) (i2 : Int) (i3 : Int) (i4 : Int) (g : G2) : l_M_allApart_50 (n + 1) 1 i1 i2 i3 i4 g = b_M_allApart_50_1 (l_M_allApart_50 n) i1 i2 i3 i4 g := rfl
theorem s_M_allApart_50_2  (n : Nat) (i1 : Int) (i2 : Int) (i3 : Int) (i4 : Int) (g : G2) : l_M_allApart_50 (n + 1) 2 i1 i2 i3 i4 g = b_M_allApart_50_2 (l_M_allApart_50 n) i1 i2 i3 i4 g := rfl
theorem s_M_allApart_50_3  (n : Nat) (i1 : Int) (i2 : Int) (i3 : Int) (i4 : Int) (g : G2) : l_M_allApart_50 (n + 1) 3 i1 i2 i3 i4 g = b_M_allApart_50_3 (l_M_allApart_50 n) i1 i2 i3 i4 g := rfl
theorem s_M_apply_50_0  (n : Nat) (i1 : Int) (i2 : Int) (i3 : Int) (i4 : Int) (i5 : Int) (g : G2) : l_M_apply_50 (n + 1) 0 i1 i2 i3 i4 i5 g = b_M_apply_50_0 (l_M_apply_50 n) i1 i2 i3 i4 i5 g := rfl
theorem s_M_apply_50_1  (n : Nat) (i1 : Int) (i2 : Int) (i3 : Int) (i4 : Int) (i5 : Int) (g : G2) : l_M_apply_50 (n + 1) 1 i1 i2 i3 i4 i5 g = b_M_apply_50_1 (l_M_apply_50 n) i1 i2 i3 i4 i5 g := rfl
theorem s_M_apply_50_2  (n : Nat) (i1 : Int) (i2 : Int) (i3 : Int) (i4 : Int) (i5 : Int) (g : G2) : l_M_apply_50 (n + 1) 2 i1 i2 i3 i4 i5 g = b_M_apply_50_2 (l_M_apply_50 n) i1 i2 i3 i4 i5 g := rfl
theorem s_M_apply_50_3  (n : Nat) (i1 : Int) (i2 : Int) (i3 : Int) (i4 : Int) (i5 : Int) (g : G2) : l_M_apply_50 (n + 1) 3 i1 i2 i3 i4 i5 g = b_M_apply_50_3 (l_M_apply_50 n) i1 i2 i3 i4 i5 g := rfl
theorem s_M_apply_50_4  (n : Nat) (i1 : Int) (i2 : Int) (i3 : Int) (i4 : Int) (i5 : Int) (g : G2) : l_M_apply_50 (n + 1) 4 i1 i2 i3 i4 i5 g = b_M_apply_50_4 (l_M_apply_50 n) i1 i2 i3 i4 i5 g := rfl
theorem s_M_readSteps_50_0  (n : Nat) (i1 : Int) (g : G2) : l_M_readSteps_50 (n + 1) 0 i1 g = b_M_readSteps_50_0 (l_M_readSteps_50 n) i1 g := rfl
theorem s_M_finish_50_0  (n : Nat) (i1 : Int) (i2 : Int) (g : G2) : l_M_finish_50 (n + 1) 0 i1 i2 g = b_M_finish_50_0 (l_M_finish_50 n) i1 i2 g := rfl
theorem s_M_isMandatory_50_0  (n : Nat) (i1 : Int) (i2 : Int) (i3 : Int) (g : G2) : l_M_isMandatory_50 (n + 1) 0 i1 i2 i3 g = b_M_isMandatory_50_0 (l_M_isMandatory_50 n) i1 i2 i3 g := rfl
theorem s_M_readListed_50_0  (n : Nat) (i1 : Int) (i2 : Int) (g : G2) : l_M_readListed_50 (n + 1) 0 i1 i2 g = b_M_readListed_50_0 (l_M_readListed_50 n) i1 i2 g := rfl
theorem s_M_readListed_50_1  (n : Nat) (i1 : Int) (i2 : Int) (g : G2) : l_M_readListed_50 (n + 1) 1 i1 i2 g = b_M_readListed_50_1 (l_M_readListed_50 n) i1 i2 g := rfl
theorem s_M_readListed_50_2  (n : Nat) (i1 : Int) (i2 : Int) (g : G2) : l_M_readListed_50 (n + 1) 2 i1 i2 g = b_M_readListed_50_2 (l_M_readListed_50 n) i1 i2 g := rfl
theorem s_M_readListed_50_3  (n : Nat) (i1 : Int) (i2 : Int) (g : G2) : l_M_readListed_50 (n + 1) 3 i1 i2 g = b_M_readListed_50_3 (l_M_readListed_50 n) i1 i2 g := rfl
theorem s_M_isLetters_50_0  (n : Nat) (i1 : Int) (g : G2) : l_M_isLetters_50 (n + 1) 0 i1 g = b_M_isLetters_50_0 (l_M_isLetters_50 n) i1 g := rfl
theorem s_M_tag_50_0  (n : Nat) (i1 : Int) (g : G2) : l_M_tag_50 (n + 1) 0 i1 g = b_M_tag_50_0 (l_M_tag_50 n) i1 g := rfl
theorem s_M_pushTagged_50_0  (n : Nat) (i1 : Int) (i2 : Int) (g : G2) : l_M_pushTagged_50 (n + 1) 0 i1 i2 g = b_M_pushTagged_50_0 (l_M_pushTagged_50 n) i1 i2 g := rfl
theorem s_M_readLetter_50_0  (n : Nat) (g : G2) : l_M_readLetter_50 (n + 1) 0 g = b_M_readLetter_50_0 (l_M_readLetter_50 n) g := rfl
theorem s_M_readLetter_50_1  (n : Nat) (g : G2) : l_M_readLetter_50 (n + 1) 1 g = b_M_readLetter_50_1 (l_M_readLetter_50 n) g := rfl
theorem s_M_readLetter_50_2  (n : Nat) (g : G2) : l_M_readLetter_50 (n + 1) 2 g = b_M_readLetter_50_2 (l_M_readLetter_50 n) g := rfl
theorem s_M_readLetters_50_0  (n : Nat) (i1 : Int) (i3 : Int) (g : G2) : l_M_readLetters_50 (n + 1) 0 i1 i3 g = b_M_readLetters_50_0 (l_M_readLetters_50 n) i1 i3 g := rfl
theorem s_M_readLetters_50_1  (n : Nat) (i1 : Int) (i3 : Int) (g : G2) : l_M_readLetters_50 (n + 1) 1 i1 i3 g = b_M_readLetters_50_1 (l_M_readLetters_50 n) i1 i3 g := rfl
theorem s_M_readLetters_50_2  (n : Nat) (i1 : Int) (i3 : Int) (g : G2) : l_M_readLetters_50 (n + 1) 2 i1 i3 g = b_M_readLetters_50_2 (l_M_readLetters_50 n) i1 i3 g := rfl
theorem s_M_readLetters_50_3  (n : Nat) (i1 : Int) (i3 : Int) (g : G2) : l_M_readLetters_50 (n + 1) 3 i1 i3 g = b_M_readLetters_50_3 (l_M_readLetters_50 n) i1 i3 g := rfl
theorem s_M_readLetters_50_4  (n : Nat) (i1 : Int) (i3 : Int) (g : G2) : l_M_readLetters_50 (n + 1) 4 i1 i3 g = b_M_readLetters_50_4 (l_M_readLetters_50 n) i1 i3 g := rfl
theorem s_M_readLetters_50_5  (n : Nat) (i1 : Int) (i3 : Int) (g : G2) : l_M_readLetters_50 (n + 1) 5 i1 i3 g = b_M_readLetters_50_5 (l_M_readLetters_50 n) i1 i3 g := rfl
theorem s_M_readLabelled_50_0  (n : Nat) (l1 : Int64) (i3 : Int) (i4 : Int) (g : G2) : l_M_readLabelled_50 (n + 1) 0 l1 i3 i4 g = b_M_readLabelled_50_0 (l_M_readLabelled_50 n) l1 i3 i4 g := rfl
theorem s_M_readLabelled_50_1  (n : Nat) (l1 : Int64) (i3 : Int) (i4 : Int) (g : G2) : l_M_readLabelled_50 (n + 1) 1 l1 i3 i4 g = b_M_readLabelled_50_1 (l_M_readLabelled_50 n) l1 i3 i4 g := rfl
theorem s_M_readLabelled_50_2  (n : Nat) (l1 : Int64) (i3 : Int) (i4 : Int) (g : G2) : l_M_readLabelled_50 (n + 1) 2 l1 i3 i4 g = b_M_readLabelled_50_2 (l_M_readLabelled_50 n) l1 i3 i4 g := rfl
theorem s_M_readLabelled_50_3  (n : Nat) (l1 : Int64) (i3 : Int) (i4 : Int) (g : G2) : l_M_readLabelled_50 (n + 1) 3 l1 i3 i4 g = b_M_readLabelled_50_3 (l_M_readLabelled_50 n) l1 i3 i4 g := rfl
theorem s_M_readLabelled_50_4  (n : Nat) (l1 : Int64) (i3 : Int) (i4 : Int) (g : G2) : l_M_readLabelled_50 (n + 1) 4 l1 i3 i4 g = b_M_readLabelled_50_4 (l_M_readLabelled_50 n) l1 i3 i4 g := rfl
theorem s_M_readConstants_50_0  (n : Nat) (i1 : Int) (i2 : Int) (g : G2) : l_M_readConstants_50 (n + 1) 0 i1 i2 g = b_M_readConstants_50_0 (l_M_readConstants_50 n) i1 i2 g := rfl
theorem s_M_readConstants_50_1  (n : Nat) (i1 : Int) (i2 : Int) (g : G2) : l_M_readConstants_50 (n + 1) 1 i1 i2 g = b_M_readConstants_50_1 (l_M_readConstants_50 n) i1 i2 g := rfl
theorem s_M_readConstants_50_2  (n : Nat) (i1 : Int) (i2 : Int) (g : G2) : l_M_readConstants_50 (n + 1) 2 i1 i2 g = b_M_readConstants_50_2 (l_M_readConstants_50 n) i1 i2 g := rfl
theorem s_M_readVariables_50_0  (n : Nat) (i1 : Int) (i2 : Int) (i3 : Int) (g : G2) : l_M_readVariables_50 (n + 1) 0 i1 i2 i3 g = b_M_readVariables_50_0 (l_M_readVariables_50 n) i1 i2 i3 g := rfl
theorem s_M_readVariables_50_1  (n : Nat) (i1 : Int) (i2 : Int) (i3 : Int) (g : G2) : l_M_readVariables_50 (n + 1) 1 i1 i2 i3 g = b_M_readVariables_50_1 (l_M_readVariables_50 n) i1 i2 i3 g := rfl
theorem s_M_readVariables_50_2  (n : Nat) (i1 : Int) (i2 : Int) (i3 : Int) (g : G2) : l_M_readVariables_50 (n + 1) 2 i1 i2 i3 g = b_M_readVariables_50_2 (l_M_readVariables_50 n) i1 i2 i3 g := rfl
theorem s_M_readVariables_50_3  (n : Nat) (i1 : Int) (i2 : Int) (i3 : Int) (g : G2) : l_M_readVariables_50 (n + 1) 3 i1 i2 i3 g = b_M_readVariables_50_3 (l_M_readVariables_50 n) i1 i2 i3 g := rfl
theorem s_M_readVariables_50_4  (n : Nat) (i1 : Int) (i2 : Int) (i3 : Int) (g : G2) : l_M_readVariables_50 (n + 1) 4 i1 i2 i3 g = b_M_readVariables_50_4 (l_M_readVariables_50 n) i1 i2 i3 g := rfl
theorem s_M_readVariables_50_5  (n : Nat) (i1 : Int) (i2 : Int) (i3 : Int) (g : G2) : l_M_readVariables_50 (n + 1) 5 i1 i2 i3 g = b_M_readVariables_50_5 (l_M_readVariables_50 n) i1 i2 i3 g := rfl
theorem s_M_stoodBefore_50_0  (n : Nat) (i1 : Int) (i2 : Int) (i3 : Int) (g : G2) : l_M_stoodBefore_50 (n + 1) 0 i1 i2 i3 g = b_M_stoodBefore_50_0 (l_M_stoodBefore_50 n) i1 i2 i3 g := rfl
theorem s_M_readApart_50_0  (n : Nat) (i1 : Int) (i2 : Int) (i3 : Int) (i4 : Int) (g : G2) : l_M_readApart_50 (n + 1) 0 i1 i2 i3 i4 g = b_M_readApart_50_0 (l_M_readApart_50 n) i1 i2 i3 i4 g := rfl
theorem s_M_readApart_50_1  (n : Nat) (i1 : Int) (i2 : Int) (i3 : Int) (i4 : Int) (g : G2) : l_M_readApart_50 (n + 1) 1 i1 i2 i3 i4 g = b_M_readApart_50_1 (l_M_readApart_50 n) i1 i2 i3 i4 g := rfl
theorem s_M_readApart_50_2  (n : Nat) (i1 : Int) (i2 : Int) (i3 : Int) (i4 : Int) (g : G2) : l_M_readApart_50 (n + 1) 2 i1 i2 i3 i4 g = b_M_readApart_50_2 (l_M_readApart_50 n) i1 i2 i3 i4 g := rfl
theorem s_M_readApart_50_3  (n : Nat) (i1 : Int) (i2 : Int) (i3 : Int) (i4 : Int) (g : G2) : l_M_readApart_50 (n + 1) 3 i1 i2 i3 i4 g = b_M_readApart_50_3 (l_M_readApart_50 n) i1 i2 i3 i4 g := rfl
theorem s_M_readApart_50_4  (n : Nat) (i1 : Int) (i2 : Int) (i3 : Int) (i4 : Int) (g : G2) : l_M_readApart_50 (n + 1) 4 i1 i2 i3 i4 g = b_M_readApart_50_4 (l_M_readApart_50 n) i1 i2 i3 i4 g := rfl
theorem s_M_readApart_50_5  (n : Nat) (i1 : Int) (i2 : Int) (i3 : Int) (i4 : Int) (g : G2) : l_M_readApart_50 (n + 1) 5 i1 i2 i3 i4 g = b_M_readApart_50_5 (l_M_readApart_50 n) i1 i2 i3 i4 g := rfl
theorem s_M_readApart_50_6  (n : Nat) (i1 : Int) (i2 : Int) (i3 : Int) (i4 : Int) (g : G2) : l_M_readApart_50 (n + 1) 6 i1 i2 i3 i4 g = b_M_readApart_50_6 (l_M_readApart_50 n) i1 i2 i3 i4 g := rfl
theorem s_M_closeScope_50_0  (n : Nat) (i1 : Int) (g : G2) : l_M_closeScope_50 (n + 1) 0 i1 g = b_M_closeScope_50_0 (l_M_closeScope_50 n) i1 g := rfl
theorem s_M_closeScope_50_1  (n : Nat) (i1 : Int) (g : G2) : l_M_closeScope_50 (n + 1) 1 i1 g = b_M_closeScope_50_1 (l_M_closeScope_50 n) i1 g := rfl
theorem s_M_closeScope_50_2  (n : Nat) (i1 : Int) (g : G2) : l_M_closeScope_50 (n + 1) 2 i1 g = b_M_closeScope_50_2 (l_M_closeScope_50 n) i1 g := rfl
theorem s_M_closeScope_50_3  (n : Nat) (i1 : Int) (g : G2) : l_M_closeScope_50 (n + 1) 3 i1 g = b_M_closeScope_50_3 (l_M_closeScope_50 n) i1 g := rfl
theorem s_M_readStatement_50_0  (n : Nat) (g : G2) : l_M_readStatement_50 (n + 1) 0 g = b_M_readStatement_50_0 (l_M_readStatement_50 n) g := rfl
theorem s_M_readStatement_50_1  (n : Nat) (g : G2) : l_M_readStatement_50 (n + 1) 1 g = b_M_readStatement_50_1 (l_M_readStatement_50 n) g := rfl
theorem s_M_read_50_0  (n : Nat) (g : G2) : l_M_read_50 (n + 1) 0 g = b_M_read_50_0 (l_M_read_50 n) g := rfl
theorem s_M_read_50_1  (n : Nat) (g : G2) : l_M_read_50 (n + 1) 1 g = b_M_read_50_1 (l_M_read_50 n) g := rfl
theorem s_M_read_50_2  (n : Nat) (g : G2) : l_M_read_50 (n + 1) 2 g = b_M_read_50_2 (l_M_read_50 n) g := rfl
theorem s_M_countNames_50_0  (n : Nat) (i1 : Int) (i2 : Int) (i3 : Int) (g : G2) : l_M_countNames_50 (n + 1) 0 i1 i2 i3 g = b_M_countNames_50_0 (l_M_countNames_50 n) i1 i2 i3 g := rfl
theorem s_M_count_50_0  (n : Nat) (i1 : Int) (i2 : Int) (i3 : Int) (g : G2) : l_M_count_50 (n + 1) 0 i1 i2 i3 g = b_M_count_50_0 (l_M_count_50 n) i1 i2 i3 g := rfl
theorem s_law_0 (L : Nat) (xs : Nat → Int) (n : Nat) (i3 : Int) (g : G2) : l_law L xs (n + 1) 0 i3 g = b_law_0 L xs (l_law L xs n) i3 g := rfl

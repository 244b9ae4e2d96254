section
-- ===== PART A: goes FIRST, ahead of the names: the tables' words, and 'selects' of the private methods out of them =====
/-- a private method of a class that the tables say can be made, by its rows of tables_1 -/
def lw_okq (q : MethodName × Nat) : Prop := (q.1.cls ≠ "java/lang/invoke/MethodHandle" ∧ q.1.cls ≠ "java/lang/invoke/VarHandle") ∧ Cond.instantiable q.1.cls q.2 ∈ tables_1 ∧ Cond.privateMethod q.1 ∈ tables_1 ∧ Cond.instanceMethod q.1 ∈ tables_1
theorem lw_p0 : lw_okq (⟨"TokenFrames$Tape", "takeRow", "()V"⟩, 7) := ⟨⟨by decide +kernel, by decide +kernel⟩, List.mem_of_getElem? (i := 37) (by decide +kernel), List.mem_of_getElem? (i := 297) (by decide +kernel), List.mem_of_getElem? (i := 298) (by decide +kernel)⟩
theorem lw_p1 : lw_okq (⟨"TokenFrames$Reader", "takeBeginning", "()V"⟩, 13) := ⟨⟨by decide +kernel, by decide +kernel⟩, List.mem_of_getElem? (i := 31) (by decide +kernel), List.mem_of_getElem? (i := 404) (by decide +kernel), List.mem_of_getElem? (i := 405) (by decide +kernel)⟩
theorem lw_p2 : lw_okq (⟨"TokenFrames$Reader", "fail", "()V"⟩, 13) := ⟨⟨by decide +kernel, by decide +kernel⟩, List.mem_of_getElem? (i := 31) (by decide +kernel), List.mem_of_getElem? (i := 412) (by decide +kernel), List.mem_of_getElem? (i := 413) (by decide +kernel)⟩
theorem lw_p3 : lw_okq (⟨"TokenFrames$Reader", "addLeaf", "(II)V"⟩, 13) := ⟨⟨by decide +kernel, by decide +kernel⟩, List.mem_of_getElem? (i := 31) (by decide +kernel), List.mem_of_getElem? (i := 416) (by decide +kernel), List.mem_of_getElem? (i := 417) (by decide +kernel)⟩
theorem lw_p4 : lw_okq (⟨"TokenFrames$Reader", "takeName", "()V"⟩, 13) := ⟨⟨by decide +kernel, by decide +kernel⟩, List.mem_of_getElem? (i := 31) (by decide +kernel), List.mem_of_getElem? (i := 424) (by decide +kernel), List.mem_of_getElem? (i := 425) (by decide +kernel)⟩
theorem lw_p5 : lw_okq (⟨"TokenFrames$Reader", "beginPart", "(II)I"⟩, 13) := ⟨⟨by decide +kernel, by decide +kernel⟩, List.mem_of_getElem? (i := 31) (by decide +kernel), List.mem_of_getElem? (i := 432) (by decide +kernel), List.mem_of_getElem? (i := 433) (by decide +kernel)⟩
theorem lw_p6 : lw_okq (⟨"TokenFrames$Reader", "begin", "(II)V"⟩, 13) := ⟨⟨by decide +kernel, by decide +kernel⟩, List.mem_of_getElem? (i := 31) (by decide +kernel), List.mem_of_getElem? (i := 436) (by decide +kernel), List.mem_of_getElem? (i := 437) (by decide +kernel)⟩
theorem lw_p7 : lw_okq (⟨"TokenFrames$Reader", "keepName", "(I)V"⟩, 13) := ⟨⟨by decide +kernel, by decide +kernel⟩, List.mem_of_getElem? (i := 31) (by decide +kernel), List.mem_of_getElem? (i := 440) (by decide +kernel), List.mem_of_getElem? (i := 441) (by decide +kernel)⟩
theorem lw_p8 : lw_okq (⟨"TokenFrames$Reader", "letNamed", "(J)I"⟩, 13) := ⟨⟨by decide +kernel, by decide +kernel⟩, List.mem_of_getElem? (i := 31) (by decide +kernel), List.mem_of_getElem? (i := 444) (by decide +kernel), List.mem_of_getElem? (i := 445) (by decide +kernel)⟩
theorem lw_p9 : lw_okq (⟨"TokenFrames$Reader", "argumentNamed", "(J)I"⟩, 13) := ⟨⟨by decide +kernel, by decide +kernel⟩, List.mem_of_getElem? (i := 31) (by decide +kernel), List.mem_of_getElem? (i := 448) (by decide +kernel), List.mem_of_getElem? (i := 449) (by decide +kernel)⟩
theorem lw_p10 : lw_okq (⟨"TokenFrames$Reader", "takeIfOrLet", "()V"⟩, 13) := ⟨⟨by decide +kernel, by decide +kernel⟩, List.mem_of_getElem? (i := 31) (by decide +kernel), List.mem_of_getElem? (i := 452) (by decide +kernel), List.mem_of_getElem? (i := 453) (by decide +kernel)⟩
theorem lw_p11 : lw_okq (⟨"TokenFrames$Reader", "innermost", "()I"⟩, 13) := ⟨⟨by decide +kernel, by decide +kernel⟩, List.mem_of_getElem? (i := 31) (by decide +kernel), List.mem_of_getElem? (i := 456) (by decide +kernel), List.mem_of_getElem? (i := 457) (by decide +kernel)⟩
theorem lw_p12 : lw_okq (⟨"TokenFrames$Reader", "levelOf", "(I)I"⟩, 13) := ⟨⟨by decide +kernel, by decide +kernel⟩, List.mem_of_getElem? (i := 31) (by decide +kernel), List.mem_of_getElem? (i := 460) (by decide +kernel), List.mem_of_getElem? (i := 461) (by decide +kernel)⟩
theorem lw_p13 : lw_okq (⟨"TokenFrames$Reader", "takeParenthesis", "()V"⟩, 13) := ⟨⟨by decide +kernel, by decide +kernel⟩, List.mem_of_getElem? (i := 31) (by decide +kernel), List.mem_of_getElem? (i := 467) (by decide +kernel), List.mem_of_getElem? (i := 468) (by decide +kernel)⟩
theorem lw_p14 : lw_okq (⟨"TokenFrames$Reader", "takeContinuation", "()V"⟩, 13) := ⟨⟨by decide +kernel, by decide +kernel⟩, List.mem_of_getElem? (i := 31) (by decide +kernel), List.mem_of_getElem? (i := 471) (by decide +kernel), List.mem_of_getElem? (i := 472) (by decide +kernel)⟩
theorem lw_p15 : lw_okq (⟨"TokenFrames$Reader", "takeSign", "(I)V"⟩, 13) := ⟨⟨by decide +kernel, by decide +kernel⟩, List.mem_of_getElem? (i := 31) (by decide +kernel), List.mem_of_getElem? (i := 475) (by decide +kernel), List.mem_of_getElem? (i := 476) (by decide +kernel)⟩
def lw_privs_1 : List (MethodName × Nat) := [(⟨"TokenFrames$Tape", "takeRow", "()V"⟩, 7), (⟨"TokenFrames$Reader", "takeBeginning", "()V"⟩, 13), (⟨"TokenFrames$Reader", "fail", "()V"⟩, 13), (⟨"TokenFrames$Reader", "addLeaf", "(II)V"⟩, 13), (⟨"TokenFrames$Reader", "takeName", "()V"⟩, 13), (⟨"TokenFrames$Reader", "beginPart", "(II)I"⟩, 13), (⟨"TokenFrames$Reader", "begin", "(II)V"⟩, 13), (⟨"TokenFrames$Reader", "keepName", "(I)V"⟩, 13), (⟨"TokenFrames$Reader", "letNamed", "(J)I"⟩, 13), (⟨"TokenFrames$Reader", "argumentNamed", "(J)I"⟩, 13), (⟨"TokenFrames$Reader", "takeIfOrLet", "()V"⟩, 13), (⟨"TokenFrames$Reader", "innermost", "()I"⟩, 13), (⟨"TokenFrames$Reader", "levelOf", "(I)I"⟩, 13), (⟨"TokenFrames$Reader", "takeParenthesis", "()V"⟩, 13), (⟨"TokenFrames$Reader", "takeContinuation", "()V"⟩, 13), (⟨"TokenFrames$Reader", "takeSign", "(I)V"⟩, 13)]
theorem lw_r1 : ∀ q ∈ lw_privs_1, lw_okq q := List.forall_mem_cons.mpr ⟨lw_p0, List.forall_mem_cons.mpr ⟨lw_p1, List.forall_mem_cons.mpr ⟨lw_p2, List.forall_mem_cons.mpr ⟨lw_p3, List.forall_mem_cons.mpr ⟨lw_p4, List.forall_mem_cons.mpr ⟨lw_p5, List.forall_mem_cons.mpr ⟨lw_p6, List.forall_mem_cons.mpr ⟨lw_p7, List.forall_mem_cons.mpr ⟨lw_p8, List.forall_mem_cons.mpr ⟨lw_p9, List.forall_mem_cons.mpr ⟨lw_p10, List.forall_mem_cons.mpr ⟨lw_p11, List.forall_mem_cons.mpr ⟨lw_p12, List.forall_mem_cons.mpr ⟨lw_p13, List.forall_mem_cons.mpr ⟨lw_p14, List.forall_mem_cons.mpr ⟨lw_p15, fun _ h => absurd h List.not_mem_nil⟩⟩⟩⟩⟩⟩⟩⟩⟩⟩⟩⟩⟩⟩⟩⟩
theorem lw_p16 : lw_okq (⟨"TokenFrames$Reader", "endSigns", "(I)V"⟩, 13) := ⟨⟨by decide +kernel, by decide +kernel⟩, List.mem_of_getElem? (i := 31) (by decide +kernel), List.mem_of_getElem? (i := 480) (by decide +kernel), List.mem_of_getElem? (i := 481) (by decide +kernel)⟩
theorem lw_p17 : lw_okq (⟨"TokenFrames$Reader", "endWithLatest", "()V"⟩, 13) := ⟨⟨by decide +kernel, by decide +kernel⟩, List.mem_of_getElem? (i := 31) (by decide +kernel), List.mem_of_getElem? (i := 484) (by decide +kernel), List.mem_of_getElem? (i := 485) (by decide +kernel)⟩
theorem lw_p18 : lw_okq (⟨"TokenFrames$Reader", "end", "()V"⟩, 13) := ⟨⟨by decide +kernel, by decide +kernel⟩, List.mem_of_getElem? (i := 31) (by decide +kernel), List.mem_of_getElem? (i := 492) (by decide +kernel), List.mem_of_getElem? (i := 493) (by decide +kernel)⟩
theorem lw_p19 : lw_okq (⟨"TokenFrames$Reader", "beginPartBehind", "(I)V"⟩, 13) := ⟨⟨by decide +kernel, by decide +kernel⟩, List.mem_of_getElem? (i := 31) (by decide +kernel), List.mem_of_getElem? (i := 496) (by decide +kernel), List.mem_of_getElem? (i := 497) (by decide +kernel)⟩
theorem lw_p20 : lw_okq (⟨"TokenFrames$Reader", "endExpression", "()V"⟩, 13) := ⟨⟨by decide +kernel, by decide +kernel⟩, List.mem_of_getElem? (i := 31) (by decide +kernel), List.mem_of_getElem? (i := 500) (by decide +kernel), List.mem_of_getElem? (i := 501) (by decide +kernel)⟩
theorem lw_p21 : lw_okq (⟨"TokenFrames$Reader", "isInLastExpression", "(I)Z"⟩, 13) := ⟨⟨by decide +kernel, by decide +kernel⟩, List.mem_of_getElem? (i := 31) (by decide +kernel), List.mem_of_getElem? (i := 504) (by decide +kernel), List.mem_of_getElem? (i := 505) (by decide +kernel)⟩
theorem lw_p22 : lw_okq (⟨"TokenFrames$Reader", "endBody", "()V"⟩, 13) := ⟨⟨by decide +kernel, by decide +kernel⟩, List.mem_of_getElem? (i := 31) (by decide +kernel), List.mem_of_getElem? (i := 508) (by decide +kernel), List.mem_of_getElem? (i := 509) (by decide +kernel)⟩
theorem lw_p23 : lw_okq (⟨"TokenFrames$Reader", "expect", "(II)V"⟩, 13) := ⟨⟨by decide +kernel, by decide +kernel⟩, List.mem_of_getElem? (i := 31) (by decide +kernel), List.mem_of_getElem? (i := 512) (by decide +kernel), List.mem_of_getElem? (i := 513) (by decide +kernel)⟩
theorem lw_p24 : lw_okq (⟨"TokenFrames$Reader", "endParentheses", "()V"⟩, 13) := ⟨⟨by decide +kernel, by decide +kernel⟩, List.mem_of_getElem? (i := 31) (by decide +kernel), List.mem_of_getElem? (i := 516) (by decide +kernel), List.mem_of_getElem? (i := 517) (by decide +kernel)⟩
theorem lw_p25 : lw_okq (⟨"TokenFrames$Reader", "endExpressionIn", "(I)V"⟩, 13) := ⟨⟨by decide +kernel, by decide +kernel⟩, List.mem_of_getElem? (i := 31) (by decide +kernel), List.mem_of_getElem? (i := 520) (by decide +kernel), List.mem_of_getElem? (i := 521) (by decide +kernel)⟩
theorem lw_p26 : lw_okq (⟨"TokenFrames$Reader", "wordBehind", "(I)I"⟩, 13) := ⟨⟨by decide +kernel, by decide +kernel⟩, List.mem_of_getElem? (i := 31) (by decide +kernel), List.mem_of_getElem? (i := 524) (by decide +kernel), List.mem_of_getElem? (i := 525) (by decide +kernel)⟩
theorem lw_p27 : lw_okq (⟨"TokenFrames$Reader", "takeOfHead", "()V"⟩, 13) := ⟨⟨by decide +kernel, by decide +kernel⟩, List.mem_of_getElem? (i := 31) (by decide +kernel), List.mem_of_getElem? (i := 528) (by decide +kernel), List.mem_of_getElem? (i := 529) (by decide +kernel)⟩
theorem lw_p28 : lw_okq (⟨"TokenFrames$Reader", "takeDefinitionName", "()V"⟩, 13) := ⟨⟨by decide +kernel, by decide +kernel⟩, List.mem_of_getElem? (i := 31) (by decide +kernel), List.mem_of_getElem? (i := 532) (by decide +kernel), List.mem_of_getElem? (i := 533) (by decide +kernel)⟩
theorem lw_p29 : lw_okq (⟨"TokenFrames$Reader", "definitionNamed", "(J)I"⟩, 13) := ⟨⟨by decide +kernel, by decide +kernel⟩, List.mem_of_getElem? (i := 31) (by decide +kernel), List.mem_of_getElem? (i := 536) (by decide +kernel), List.mem_of_getElem? (i := 537) (by decide +kernel)⟩
theorem lw_p30 : lw_okq (⟨"TokenFrames$Reader", "takeArgumentName", "()V"⟩, 13) := ⟨⟨by decide +kernel, by decide +kernel⟩, List.mem_of_getElem? (i := 31) (by decide +kernel), List.mem_of_getElem? (i := 540) (by decide +kernel), List.mem_of_getElem? (i := 541) (by decide +kernel)⟩
theorem lw_p31 : lw_okq (⟨"TokenFrames$Reader", "takeOfCallMakeLet", "()V"⟩, 13) := ⟨⟨by decide +kernel, by decide +kernel⟩, List.mem_of_getElem? (i := 31) (by decide +kernel), List.mem_of_getElem? (i := 544) (by decide +kernel), List.mem_of_getElem? (i := 545) (by decide +kernel)⟩
def lw_privs_2 : List (MethodName × Nat) := [(⟨"TokenFrames$Reader", "endSigns", "(I)V"⟩, 13), (⟨"TokenFrames$Reader", "endWithLatest", "()V"⟩, 13), (⟨"TokenFrames$Reader", "end", "()V"⟩, 13), (⟨"TokenFrames$Reader", "beginPartBehind", "(I)V"⟩, 13), (⟨"TokenFrames$Reader", "endExpression", "()V"⟩, 13), (⟨"TokenFrames$Reader", "isInLastExpression", "(I)Z"⟩, 13), (⟨"TokenFrames$Reader", "endBody", "()V"⟩, 13), (⟨"TokenFrames$Reader", "expect", "(II)V"⟩, 13), (⟨"TokenFrames$Reader", "endParentheses", "()V"⟩, 13), (⟨"TokenFrames$Reader", "endExpressionIn", "(I)V"⟩, 13), (⟨"TokenFrames$Reader", "wordBehind", "(I)I"⟩, 13), (⟨"TokenFrames$Reader", "takeOfHead", "()V"⟩, 13), (⟨"TokenFrames$Reader", "takeDefinitionName", "()V"⟩, 13), (⟨"TokenFrames$Reader", "definitionNamed", "(J)I"⟩, 13), (⟨"TokenFrames$Reader", "takeArgumentName", "()V"⟩, 13), (⟨"TokenFrames$Reader", "takeOfCallMakeLet", "()V"⟩, 13)]
theorem lw_r2 : ∀ q ∈ lw_privs_2, lw_okq q := List.forall_mem_cons.mpr ⟨lw_p16, List.forall_mem_cons.mpr ⟨lw_p17, List.forall_mem_cons.mpr ⟨lw_p18, List.forall_mem_cons.mpr ⟨lw_p19, List.forall_mem_cons.mpr ⟨lw_p20, List.forall_mem_cons.mpr ⟨lw_p21, List.forall_mem_cons.mpr ⟨lw_p22, List.forall_mem_cons.mpr ⟨lw_p23, List.forall_mem_cons.mpr ⟨lw_p24, List.forall_mem_cons.mpr ⟨lw_p25, List.forall_mem_cons.mpr ⟨lw_p26, List.forall_mem_cons.mpr ⟨lw_p27, List.forall_mem_cons.mpr ⟨lw_p28, List.forall_mem_cons.mpr ⟨lw_p29, List.forall_mem_cons.mpr ⟨lw_p30, List.forall_mem_cons.mpr ⟨lw_p31, fun _ h => absurd h List.not_mem_nil⟩⟩⟩⟩⟩⟩⟩⟩⟩⟩⟩⟩⟩⟩⟩⟩
theorem lw_p32 : lw_okq (⟨"TokenFrames$Reader", "bindCalls", "()V"⟩, 13) := ⟨⟨by decide +kernel, by decide +kernel⟩, List.mem_of_getElem? (i := 31) (by decide +kernel), List.mem_of_getElem? (i := 549) (by decide +kernel), List.mem_of_getElem? (i := 550) (by decide +kernel)⟩
theorem lw_p33 : lw_okq (⟨"TokenFrames$Reader", "bindCall", "(I)V"⟩, 13) := ⟨⟨by decide +kernel, by decide +kernel⟩, List.mem_of_getElem? (i := 31) (by decide +kernel), List.mem_of_getElem? (i := 553) (by decide +kernel), List.mem_of_getElem? (i := 554) (by decide +kernel)⟩
theorem lw_p34 : lw_okq (⟨"TokenFrames", "forgetRun", "()V"⟩, 4) := ⟨⟨by decide +kernel, by decide +kernel⟩, List.mem_of_getElem? (i := 23) (by decide +kernel), List.mem_of_getElem? (i := 574) (by decide +kernel), List.mem_of_getElem? (i := 575) (by decide +kernel)⟩
theorem lw_p35 : lw_okq (⟨"java/lang/Throwable", "fillInStackTrace", "(I)Ljava/lang/Throwable;"⟩, 6) := ⟨⟨by decide +kernel, by decide +kernel⟩, List.mem_of_getElem? (i := 626) (by decide +kernel), List.mem_of_getElem? (i := 624) (by decide +kernel), List.mem_of_getElem? (i := 625) (by decide +kernel)⟩
theorem lw_p36 : lw_okq (⟨"TokenFrames$Machine", "beginCall", "(III)I"⟩, 12) := ⟨⟨by decide +kernel, by decide +kernel⟩, List.mem_of_getElem? (i := 159) (by decide +kernel), List.mem_of_getElem? (i := 714) (by decide +kernel), List.mem_of_getElem? (i := 715) (by decide +kernel)⟩
theorem lw_p37 : lw_okq (⟨"TokenFrames$Machine", "rootOf", "(I)I"⟩, 12) := ⟨⟨by decide +kernel, by decide +kernel⟩, List.mem_of_getElem? (i := 159) (by decide +kernel), List.mem_of_getElem? (i := 722) (by decide +kernel), List.mem_of_getElem? (i := 723) (by decide +kernel)⟩
theorem lw_p38 : lw_okq (⟨"TokenFrames$Bag", "chance", "()I"⟩, 5) := ⟨⟨by decide +kernel, by decide +kernel⟩, List.mem_of_getElem? (i := 171) (by decide +kernel), List.mem_of_getElem? (i := 743) (by decide +kernel), List.mem_of_getElem? (i := 744) (by decide +kernel)⟩
theorem lw_p39 : lw_okq (⟨"TokenFrames$Machine", "lookAt", "(I)V"⟩, 12) := ⟨⟨by decide +kernel, by decide +kernel⟩, List.mem_of_getElem? (i := 159) (by decide +kernel), List.mem_of_getElem? (i := 748) (by decide +kernel), List.mem_of_getElem? (i := 749) (by decide +kernel)⟩
theorem lw_p40 : lw_okq (⟨"TokenFrames$Machine", "partOf", "(I)I"⟩, 12) := ⟨⟨by decide +kernel, by decide +kernel⟩, List.mem_of_getElem? (i := 159) (by decide +kernel), List.mem_of_getElem? (i := 752) (by decide +kernel), List.mem_of_getElem? (i := 753) (by decide +kernel)⟩
theorem lw_p41 : lw_okq (⟨"TokenFrames$Machine", "reachInside", "(II)V"⟩, 12) := ⟨⟨by decide +kernel, by decide +kernel⟩, List.mem_of_getElem? (i := 159) (by decide +kernel), List.mem_of_getElem? (i := 760) (by decide +kernel), List.mem_of_getElem? (i := 761) (by decide +kernel)⟩
theorem lw_p42 : lw_okq (⟨"TokenFrames$Machine", "inside", "(III)I"⟩, 12) := ⟨⟨by decide +kernel, by decide +kernel⟩, List.mem_of_getElem? (i := 159) (by decide +kernel), List.mem_of_getElem? (i := 764) (by decide +kernel), List.mem_of_getElem? (i := 765) (by decide +kernel)⟩
theorem lw_p43 : lw_okq (⟨"TokenFrames$Machine", "workOutArgument", "(II)V"⟩, 12) := ⟨⟨by decide +kernel, by decide +kernel⟩, List.mem_of_getElem? (i := 159) (by decide +kernel), List.mem_of_getElem? (i := 776) (by decide +kernel), List.mem_of_getElem? (i := 777) (by decide +kernel)⟩
theorem lw_p44 : lw_okq (⟨"TokenFrames$Machine", "negate", "(II)V"⟩, 12) := ⟨⟨by decide +kernel, by decide +kernel⟩, List.mem_of_getElem? (i := 159) (by decide +kernel), List.mem_of_getElem? (i := 789) (by decide +kernel), List.mem_of_getElem? (i := 790) (by decide +kernel)⟩
theorem lw_p45 : lw_okq (⟨"TokenFrames$Machine", "choose", "(II)V"⟩, 12) := ⟨⟨by decide +kernel, by decide +kernel⟩, List.mem_of_getElem? (i := 159) (by decide +kernel), List.mem_of_getElem? (i := 798) (by decide +kernel), List.mem_of_getElem? (i := 799) (by decide +kernel)⟩
theorem lw_p46 : lw_okq (⟨"TokenFrames$Machine", "makeCells", "(II)V"⟩, 12) := ⟨⟨by decide +kernel, by decide +kernel⟩, List.mem_of_getElem? (i := 159) (by decide +kernel), List.mem_of_getElem? (i := 802) (by decide +kernel), List.mem_of_getElem? (i := 803) (by decide +kernel)⟩
theorem lw_p47 : lw_okq (⟨"TokenFrames$Machine", "fetch", "(III)V"⟩, 12) := ⟨⟨by decide +kernel, by decide +kernel⟩, List.mem_of_getElem? (i := 159) (by decide +kernel), List.mem_of_getElem? (i := 807) (by decide +kernel), List.mem_of_getElem? (i := 808) (by decide +kernel)⟩
def lw_privs_3 : List (MethodName × Nat) := [(⟨"TokenFrames$Reader", "bindCalls", "()V"⟩, 13), (⟨"TokenFrames$Reader", "bindCall", "(I)V"⟩, 13), (⟨"TokenFrames", "forgetRun", "()V"⟩, 4), (⟨"java/lang/Throwable", "fillInStackTrace", "(I)Ljava/lang/Throwable;"⟩, 6), (⟨"TokenFrames$Machine", "beginCall", "(III)I"⟩, 12), (⟨"TokenFrames$Machine", "rootOf", "(I)I"⟩, 12), (⟨"TokenFrames$Bag", "chance", "()I"⟩, 5), (⟨"TokenFrames$Machine", "lookAt", "(I)V"⟩, 12), (⟨"TokenFrames$Machine", "partOf", "(I)I"⟩, 12), (⟨"TokenFrames$Machine", "reachInside", "(II)V"⟩, 12), (⟨"TokenFrames$Machine", "inside", "(III)I"⟩, 12), (⟨"TokenFrames$Machine", "workOutArgument", "(II)V"⟩, 12), (⟨"TokenFrames$Machine", "negate", "(II)V"⟩, 12), (⟨"TokenFrames$Machine", "choose", "(II)V"⟩, 12), (⟨"TokenFrames$Machine", "makeCells", "(II)V"⟩, 12), (⟨"TokenFrames$Machine", "fetch", "(III)V"⟩, 12)]
theorem lw_r3 : ∀ q ∈ lw_privs_3, lw_okq q := List.forall_mem_cons.mpr ⟨lw_p32, List.forall_mem_cons.mpr ⟨lw_p33, List.forall_mem_cons.mpr ⟨lw_p34, List.forall_mem_cons.mpr ⟨lw_p35, List.forall_mem_cons.mpr ⟨lw_p36, List.forall_mem_cons.mpr ⟨lw_p37, List.forall_mem_cons.mpr ⟨lw_p38, List.forall_mem_cons.mpr ⟨lw_p39, List.forall_mem_cons.mpr ⟨lw_p40, List.forall_mem_cons.mpr ⟨lw_p41, List.forall_mem_cons.mpr ⟨lw_p42, List.forall_mem_cons.mpr ⟨lw_p43, List.forall_mem_cons.mpr ⟨lw_p44, List.forall_mem_cons.mpr ⟨lw_p45, List.forall_mem_cons.mpr ⟨lw_p46, List.forall_mem_cons.mpr ⟨lw_p47, fun _ h => absurd h List.not_mem_nil⟩⟩⟩⟩⟩⟩⟩⟩⟩⟩⟩⟩⟩⟩⟩⟩
theorem lw_p48 : lw_okq (⟨"TokenFrames$Machine", "combine", "(II)V"⟩, 12) := ⟨⟨by decide +kernel, by decide +kernel⟩, List.mem_of_getElem? (i := 159) (by decide +kernel), List.mem_of_getElem? (i := 815) (by decide +kernel), List.mem_of_getElem? (i := 816) (by decide +kernel)⟩
theorem lw_p49 : lw_okq (⟨"TokenFramesModel", "look", "()V"⟩, 55) := ⟨⟨by decide +kernel, by decide +kernel⟩, List.mem_of_getElem? (i := 868) (by decide +kernel), List.mem_of_getElem? (i := 1053) (by decide +kernel), List.mem_of_getElem? (i := 1054) (by decide +kernel)⟩
theorem lw_p50 : lw_okq (⟨"TokenFramesModel", "isRow", "(I)Z"⟩, 55) := ⟨⟨by decide +kernel, by decide +kernel⟩, List.mem_of_getElem? (i := 868) (by decide +kernel), List.mem_of_getElem? (i := 1060) (by decide +kernel), List.mem_of_getElem? (i := 1061) (by decide +kernel)⟩
theorem lw_p51 : lw_okq (⟨"TokenFramesModel", "wordOf", "()I"⟩, 55) := ⟨⟨by decide +kernel, by decide +kernel⟩, List.mem_of_getElem? (i := 868) (by decide +kernel), List.mem_of_getElem? (i := 1073) (by decide +kernel), List.mem_of_getElem? (i := 1074) (by decide +kernel)⟩
theorem lw_p52 : lw_okq (⟨"TokenFramesModel", "is", "(IIII)Z"⟩, 55) := ⟨⟨by decide +kernel, by decide +kernel⟩, List.mem_of_getElem? (i := 868) (by decide +kernel), List.mem_of_getElem? (i := 1077) (by decide +kernel), List.mem_of_getElem? (i := 1078) (by decide +kernel)⟩
theorem lw_p53 : lw_okq (⟨"TokenFramesModel", "readDefinition", "()V"⟩, 55) := ⟨⟨by decide +kernel, by decide +kernel⟩, List.mem_of_getElem? (i := 868) (by decide +kernel), List.mem_of_getElem? (i := 1081) (by decide +kernel), List.mem_of_getElem? (i := 1082) (by decide +kernel)⟩
theorem lw_p54 : lw_okq (⟨"TokenFramesModel", "need", "(Z)V"⟩, 55) := ⟨⟨by decide +kernel, by decide +kernel⟩, List.mem_of_getElem? (i := 868) (by decide +kernel), List.mem_of_getElem? (i := 1085) (by decide +kernel), List.mem_of_getElem? (i := 1086) (by decide +kernel)⟩
theorem lw_p55 : lw_okq (⟨"TokenFramesModel", "nameOf", "()J"⟩, 55) := ⟨⟨by decide +kernel, by decide +kernel⟩, List.mem_of_getElem? (i := 868) (by decide +kernel), List.mem_of_getElem? (i := 1089) (by decide +kernel), List.mem_of_getElem? (i := 1090) (by decide +kernel)⟩
theorem lw_p56 : lw_okq (⟨"TokenFramesModel", "isTaken", "(J)Z"⟩, 55) := ⟨⟨by decide +kernel, by decide +kernel⟩, List.mem_of_getElem? (i := 868) (by decide +kernel), List.mem_of_getElem? (i := 1095) (by decide +kernel), List.mem_of_getElem? (i := 1096) (by decide +kernel)⟩
theorem lw_p57 : lw_okq (⟨"TokenFramesModel", "go", "()V"⟩, 55) := ⟨⟨by decide +kernel, by decide +kernel⟩, List.mem_of_getElem? (i := 868) (by decide +kernel), List.mem_of_getElem? (i := 1099) (by decide +kernel), List.mem_of_getElem? (i := 1100) (by decide +kernel)⟩
theorem lw_p58 : lw_okq (⟨"TokenFramesModel", "needSign", "(I)V"⟩, 55) := ⟨⟨by decide +kernel, by decide +kernel⟩, List.mem_of_getElem? (i := 868) (by decide +kernel), List.mem_of_getElem? (i := 1103) (by decide +kernel), List.mem_of_getElem? (i := 1104) (by decide +kernel)⟩
theorem lw_p59 : lw_okq (⟨"TokenFramesModel", "isSign", "(I)Z"⟩, 55) := ⟨⟨by decide +kernel, by decide +kernel⟩, List.mem_of_getElem? (i := 868) (by decide +kernel), List.mem_of_getElem? (i := 1107) (by decide +kernel), List.mem_of_getElem? (i := 1108) (by decide +kernel)⟩
theorem lw_p60 : lw_okq (⟨"TokenFramesModel", "readArguments", "()V"⟩, 55) := ⟨⟨by decide +kernel, by decide +kernel⟩, List.mem_of_getElem? (i := 868) (by decide +kernel), List.mem_of_getElem? (i := 1111) (by decide +kernel), List.mem_of_getElem? (i := 1112) (by decide +kernel)⟩
theorem lw_p61 : lw_okq (⟨"TokenFramesModel", "take", "(I)Z"⟩, 55) := ⟨⟨by decide +kernel, by decide +kernel⟩, List.mem_of_getElem? (i := 868) (by decide +kernel), List.mem_of_getElem? (i := 1115) (by decide +kernel), List.mem_of_getElem? (i := 1116) (by decide +kernel)⟩
theorem lw_p62 : lw_okq (⟨"TokenFramesModel", "readExpression", "()V"⟩, 55) := ⟨⟨by decide +kernel, by decide +kernel⟩, List.mem_of_getElem? (i := 868) (by decide +kernel), List.mem_of_getElem? (i := 1119) (by decide +kernel), List.mem_of_getElem? (i := 1120) (by decide +kernel)⟩
theorem lw_p63 : lw_okq (⟨"TokenFramesModel", "later", "(II)V"⟩, 55) := ⟨⟨by decide +kernel, by decide +kernel⟩, List.mem_of_getElem? (i := 868) (by decide +kernel), List.mem_of_getElem? (i := 1123) (by decide +kernel), List.mem_of_getElem? (i := 1124) (by decide +kernel)⟩
def lw_privs_4 : List (MethodName × Nat) := [(⟨"TokenFrames$Machine", "combine", "(II)V"⟩, 12), (⟨"TokenFramesModel", "look", "()V"⟩, 55), (⟨"TokenFramesModel", "isRow", "(I)Z"⟩, 55), (⟨"TokenFramesModel", "wordOf", "()I"⟩, 55), (⟨"TokenFramesModel", "is", "(IIII)Z"⟩, 55), (⟨"TokenFramesModel", "readDefinition", "()V"⟩, 55), (⟨"TokenFramesModel", "need", "(Z)V"⟩, 55), (⟨"TokenFramesModel", "nameOf", "()J"⟩, 55), (⟨"TokenFramesModel", "isTaken", "(J)Z"⟩, 55), (⟨"TokenFramesModel", "go", "()V"⟩, 55), (⟨"TokenFramesModel", "needSign", "(I)V"⟩, 55), (⟨"TokenFramesModel", "isSign", "(I)Z"⟩, 55), (⟨"TokenFramesModel", "readArguments", "()V"⟩, 55), (⟨"TokenFramesModel", "take", "(I)Z"⟩, 55), (⟨"TokenFramesModel", "readExpression", "()V"⟩, 55), (⟨"TokenFramesModel", "later", "(II)V"⟩, 55)]
theorem lw_r4 : ∀ q ∈ lw_privs_4, lw_okq q := List.forall_mem_cons.mpr ⟨lw_p48, List.forall_mem_cons.mpr ⟨lw_p49, List.forall_mem_cons.mpr ⟨lw_p50, List.forall_mem_cons.mpr ⟨lw_p51, List.forall_mem_cons.mpr ⟨lw_p52, List.forall_mem_cons.mpr ⟨lw_p53, List.forall_mem_cons.mpr ⟨lw_p54, List.forall_mem_cons.mpr ⟨lw_p55, List.forall_mem_cons.mpr ⟨lw_p56, List.forall_mem_cons.mpr ⟨lw_p57, List.forall_mem_cons.mpr ⟨lw_p58, List.forall_mem_cons.mpr ⟨lw_p59, List.forall_mem_cons.mpr ⟨lw_p60, List.forall_mem_cons.mpr ⟨lw_p61, List.forall_mem_cons.mpr ⟨lw_p62, List.forall_mem_cons.mpr ⟨lw_p63, fun _ h => absurd h List.not_mem_nil⟩⟩⟩⟩⟩⟩⟩⟩⟩⟩⟩⟩⟩⟩⟩⟩
theorem lw_p64 : lw_okq (⟨"TokenFramesModel", "step", "(II)V"⟩, 55) := ⟨⟨by decide +kernel, by decide +kernel⟩, List.mem_of_getElem? (i := 868) (by decide +kernel), List.mem_of_getElem? (i := 1127) (by decide +kernel), List.mem_of_getElem? (i := 1128) (by decide +kernel)⟩
theorem lw_p65 : lw_okq (⟨"TokenFramesModel", "expression", "()V"⟩, 55) := ⟨⟨by decide +kernel, by decide +kernel⟩, List.mem_of_getElem? (i := 868) (by decide +kernel), List.mem_of_getElem? (i := 1131) (by decide +kernel), List.mem_of_getElem? (i := 1132) (by decide +kernel)⟩
theorem lw_p66 : lw_okq (⟨"TokenFramesModel", "part", "(II)I"⟩, 55) := ⟨⟨by decide +kernel, by decide +kernel⟩, List.mem_of_getElem? (i := 868) (by decide +kernel), List.mem_of_getElem? (i := 1135) (by decide +kernel), List.mem_of_getElem? (i := 1136) (by decide +kernel)⟩
theorem lw_p67 : lw_okq (⟨"TokenFramesModel", "part0", "()I"⟩, 55) := ⟨⟨by decide +kernel, by decide +kernel⟩, List.mem_of_getElem? (i := 868) (by decide +kernel), List.mem_of_getElem? (i := 1139) (by decide +kernel), List.mem_of_getElem? (i := 1140) (by decide +kernel)⟩
theorem lw_p68 : lw_okq (⟨"TokenFramesModel", "got", "()I"⟩, 55) := ⟨⟨by decide +kernel, by decide +kernel⟩, List.mem_of_getElem? (i := 868) (by decide +kernel), List.mem_of_getElem? (i := 1143) (by decide +kernel), List.mem_of_getElem? (i := 1144) (by decide +kernel)⟩
theorem lw_p69 : lw_okq (⟨"TokenFramesModel", "give", "(I)V"⟩, 55) := ⟨⟨by decide +kernel, by decide +kernel⟩, List.mem_of_getElem? (i := 868) (by decide +kernel), List.mem_of_getElem? (i := 1147) (by decide +kernel), List.mem_of_getElem? (i := 1148) (by decide +kernel)⟩
theorem lw_p70 : lw_okq (⟨"TokenFramesModel", "second", "(I)V"⟩, 55) := ⟨⟨by decide +kernel, by decide +kernel⟩, List.mem_of_getElem? (i := 868) (by decide +kernel), List.mem_of_getElem? (i := 1151) (by decide +kernel), List.mem_of_getElem? (i := 1152) (by decide +kernel)⟩
theorem lw_p71 : lw_okq (⟨"TokenFramesModel", "more", "(II)V"⟩, 55) := ⟨⟨by decide +kernel, by decide +kernel⟩, List.mem_of_getElem? (i := 868) (by decide +kernel), List.mem_of_getElem? (i := 1155) (by decide +kernel), List.mem_of_getElem? (i := 1156) (by decide +kernel)⟩
theorem lw_p72 : lw_okq (⟨"TokenFramesModel", "operator", "(I)I"⟩, 55) := ⟨⟨by decide +kernel, by decide +kernel⟩, List.mem_of_getElem? (i := 868) (by decide +kernel), List.mem_of_getElem? (i := 1159) (by decide +kernel), List.mem_of_getElem? (i := 1160) (by decide +kernel)⟩
theorem lw_p73 : lw_okq (⟨"TokenFramesModel", "rest", "(II)V"⟩, 55) := ⟨⟨by decide +kernel, by decide +kernel⟩, List.mem_of_getElem? (i := 868) (by decide +kernel), List.mem_of_getElem? (i := 1163) (by decide +kernel), List.mem_of_getElem? (i := 1164) (by decide +kernel)⟩
theorem lw_p74 : lw_okq (⟨"TokenFramesModel", "factor", "()V"⟩, 55) := ⟨⟨by decide +kernel, by decide +kernel⟩, List.mem_of_getElem? (i := 868) (by decide +kernel), List.mem_of_getElem? (i := 1167) (by decide +kernel), List.mem_of_getElem? (i := 1168) (by decide +kernel)⟩
theorem lw_p75 : lw_okq (⟨"TokenFramesModel", "named", "()V"⟩, 55) := ⟨⟨by decide +kernel, by decide +kernel⟩, List.mem_of_getElem? (i := 868) (by decide +kernel), List.mem_of_getElem? (i := 1171) (by decide +kernel), List.mem_of_getElem? (i := 1172) (by decide +kernel)⟩
theorem lw_p76 : lw_okq (⟨"TokenFramesModel", "variable", "()I"⟩, 55) := ⟨⟨by decide +kernel, by decide +kernel⟩, List.mem_of_getElem? (i := 868) (by decide +kernel), List.mem_of_getElem? (i := 1175) (by decide +kernel), List.mem_of_getElem? (i := 1176) (by decide +kernel)⟩
theorem lw_p77 : lw_okq (⟨"TokenFramesModel", "closed", "(II)V"⟩, 55) := ⟨⟨by decide +kernel, by decide +kernel⟩, List.mem_of_getElem? (i := 868) (by decide +kernel), List.mem_of_getElem? (i := 1179) (by decide +kernel), List.mem_of_getElem? (i := 1180) (by decide +kernel)⟩
theorem lw_p78 : lw_okq (⟨"TokenFramesModel", "listed", "(II)V"⟩, 55) := ⟨⟨by decide +kernel, by decide +kernel⟩, List.mem_of_getElem? (i := 868) (by decide +kernel), List.mem_of_getElem? (i := 1183) (by decide +kernel), List.mem_of_getElem? (i := 1184) (by decide +kernel)⟩
theorem lw_p79 : lw_okq (⟨"TokenFramesModel", "addArgument", "(II)V"⟩, 55) := ⟨⟨by decide +kernel, by decide +kernel⟩, List.mem_of_getElem? (i := 868) (by decide +kernel), List.mem_of_getElem? (i := 1187) (by decide +kernel), List.mem_of_getElem? (i := 1188) (by decide +kernel)⟩
def lw_privs_5 : List (MethodName × Nat) := [(⟨"TokenFramesModel", "step", "(II)V"⟩, 55), (⟨"TokenFramesModel", "expression", "()V"⟩, 55), (⟨"TokenFramesModel", "part", "(II)I"⟩, 55), (⟨"TokenFramesModel", "part0", "()I"⟩, 55), (⟨"TokenFramesModel", "got", "()I"⟩, 55), (⟨"TokenFramesModel", "give", "(I)V"⟩, 55), (⟨"TokenFramesModel", "second", "(I)V"⟩, 55), (⟨"TokenFramesModel", "more", "(II)V"⟩, 55), (⟨"TokenFramesModel", "operator", "(I)I"⟩, 55), (⟨"TokenFramesModel", "rest", "(II)V"⟩, 55), (⟨"TokenFramesModel", "factor", "()V"⟩, 55), (⟨"TokenFramesModel", "named", "()V"⟩, 55), (⟨"TokenFramesModel", "variable", "()I"⟩, 55), (⟨"TokenFramesModel", "closed", "(II)V"⟩, 55), (⟨"TokenFramesModel", "listed", "(II)V"⟩, 55), (⟨"TokenFramesModel", "addArgument", "(II)V"⟩, 55)]
theorem lw_r5 : ∀ q ∈ lw_privs_5, lw_okq q := List.forall_mem_cons.mpr ⟨lw_p64, List.forall_mem_cons.mpr ⟨lw_p65, List.forall_mem_cons.mpr ⟨lw_p66, List.forall_mem_cons.mpr ⟨lw_p67, List.forall_mem_cons.mpr ⟨lw_p68, List.forall_mem_cons.mpr ⟨lw_p69, List.forall_mem_cons.mpr ⟨lw_p70, List.forall_mem_cons.mpr ⟨lw_p71, List.forall_mem_cons.mpr ⟨lw_p72, List.forall_mem_cons.mpr ⟨lw_p73, List.forall_mem_cons.mpr ⟨lw_p74, List.forall_mem_cons.mpr ⟨lw_p75, List.forall_mem_cons.mpr ⟨lw_p76, List.forall_mem_cons.mpr ⟨lw_p77, List.forall_mem_cons.mpr ⟨lw_p78, List.forall_mem_cons.mpr ⟨lw_p79, fun _ h => absurd h List.not_mem_nil⟩⟩⟩⟩⟩⟩⟩⟩⟩⟩⟩⟩⟩⟩⟩⟩
theorem lw_p80 : lw_okq (⟨"TokenFramesModel", "link", "(I)I"⟩, 55) := ⟨⟨by decide +kernel, by decide +kernel⟩, List.mem_of_getElem? (i := 868) (by decide +kernel), List.mem_of_getElem? (i := 1191) (by decide +kernel), List.mem_of_getElem? (i := 1192) (by decide +kernel)⟩
theorem lw_p81 : lw_okq (⟨"TokenFramesModel", "call", "(I)I"⟩, 55) := ⟨⟨by decide +kernel, by decide +kernel⟩, List.mem_of_getElem? (i := 868) (by decide +kernel), List.mem_of_getElem? (i := 1199) (by decide +kernel), List.mem_of_getElem? (i := 1200) (by decide +kernel)⟩
theorem lw_p82 : lw_okq (⟨"TokenFramesModel", "argument", "(IIIII)V"⟩, 55) := ⟨⟨by decide +kernel, by decide +kernel⟩, List.mem_of_getElem? (i := 868) (by decide +kernel), List.mem_of_getElem? (i := 1203) (by decide +kernel), List.mem_of_getElem? (i := 1204) (by decide +kernel)⟩
theorem lw_p83 : lw_okq (⟨"TokenFramesModel", "rootOf", "(I)I"⟩, 55) := ⟨⟨by decide +kernel, by decide +kernel⟩, List.mem_of_getElem? (i := 868) (by decide +kernel), List.mem_of_getElem? (i := 1207) (by decide +kernel), List.mem_of_getElem? (i := 1208) (by decide +kernel)⟩
theorem lw_p84 : lw_okq (⟨"TokenFramesModel", "reach", "(I)V"⟩, 55) := ⟨⟨by decide +kernel, by decide +kernel⟩, List.mem_of_getElem? (i := 868) (by decide +kernel), List.mem_of_getElem? (i := 1211) (by decide +kernel), List.mem_of_getElem? (i := 1212) (by decide +kernel)⟩
theorem lw_p85 : lw_okq (⟨"TokenFramesModel", "work", "(I)V"⟩, 55) := ⟨⟨by decide +kernel, by decide +kernel⟩, List.mem_of_getElem? (i := 868) (by decide +kernel), List.mem_of_getElem? (i := 1215) (by decide +kernel), List.mem_of_getElem? (i := 1216) (by decide +kernel)⟩
theorem lw_p86 : lw_okq (⟨"TokenFramesModel", "partOf", "(I)I"⟩, 55) := ⟨⟨by decide +kernel, by decide +kernel⟩, List.mem_of_getElem? (i := 868) (by decide +kernel), List.mem_of_getElem? (i := 1219) (by decide +kernel), List.mem_of_getElem? (i := 1220) (by decide +kernel)⟩
theorem lw_p87 : lw_okq (⟨"TokenFramesModel", "know", "(III)V"⟩, 55) := ⟨⟨by decide +kernel, by decide +kernel⟩, List.mem_of_getElem? (i := 868) (by decide +kernel), List.mem_of_getElem? (i := 1223) (by decide +kernel), List.mem_of_getElem? (i := 1224) (by decide +kernel)⟩
theorem lw_p88 : lw_okq (⟨"TokenFramesModel", "workArgument", "(II)V"⟩, 55) := ⟨⟨by decide +kernel, by decide +kernel⟩, List.mem_of_getElem? (i := 868) (by decide +kernel), List.mem_of_getElem? (i := 1227) (by decide +kernel), List.mem_of_getElem? (i := 1228) (by decide +kernel)⟩
theorem lw_p89 : lw_okq (⟨"TokenFramesModel", "same", "(II)V"⟩, 55) := ⟨⟨by decide +kernel, by decide +kernel⟩, List.mem_of_getElem? (i := 868) (by decide +kernel), List.mem_of_getElem? (i := 1231) (by decide +kernel), List.mem_of_getElem? (i := 1232) (by decide +kernel)⟩
theorem lw_p90 : lw_okq (⟨"TokenFramesModel", "here", "(II)I"⟩, 55) := ⟨⟨by decide +kernel, by decide +kernel⟩, List.mem_of_getElem? (i := 868) (by decide +kernel), List.mem_of_getElem? (i := 1235) (by decide +kernel), List.mem_of_getElem? (i := 1236) (by decide +kernel)⟩
theorem lw_p91 : lw_okq (⟨"TokenFramesModel", "numberOf", "(I)I"⟩, 55) := ⟨⟨by decide +kernel, by decide +kernel⟩, List.mem_of_getElem? (i := 868) (by decide +kernel), List.mem_of_getElem? (i := 1239) (by decide +kernel), List.mem_of_getElem? (i := 1240) (by decide +kernel)⟩
theorem lw_p92 : lw_okq (⟨"TokenFramesModel", "workIf", "(II)V"⟩, 55) := ⟨⟨by decide +kernel, by decide +kernel⟩, List.mem_of_getElem? (i := 868) (by decide +kernel), List.mem_of_getElem? (i := 1246) (by decide +kernel), List.mem_of_getElem? (i := 1247) (by decide +kernel)⟩
theorem lw_p93 : lw_okq (⟨"TokenFramesModel", "workCall", "(II)V"⟩, 55) := ⟨⟨by decide +kernel, by decide +kernel⟩, List.mem_of_getElem? (i := 868) (by decide +kernel), List.mem_of_getElem? (i := 1250) (by decide +kernel), List.mem_of_getElem? (i := 1251) (by decide +kernel)⟩
theorem lw_p94 : lw_okq (⟨"TokenFramesModel", "reachArguments", "(I)V"⟩, 55) := ⟨⟨by decide +kernel, by decide +kernel⟩, List.mem_of_getElem? (i := 868) (by decide +kernel), List.mem_of_getElem? (i := 1254) (by decide +kernel), List.mem_of_getElem? (i := 1255) (by decide +kernel)⟩
theorem lw_p95 : lw_okq (⟨"TokenFramesModel", "hand", "(III)V"⟩, 55) := ⟨⟨by decide +kernel, by decide +kernel⟩, List.mem_of_getElem? (i := 868) (by decide +kernel), List.mem_of_getElem? (i := 1258) (by decide +kernel), List.mem_of_getElem? (i := 1259) (by decide +kernel)⟩
def lw_privs_6 : List (MethodName × Nat) := [(⟨"TokenFramesModel", "link", "(I)I"⟩, 55), (⟨"TokenFramesModel", "call", "(I)I"⟩, 55), (⟨"TokenFramesModel", "argument", "(IIIII)V"⟩, 55), (⟨"TokenFramesModel", "rootOf", "(I)I"⟩, 55), (⟨"TokenFramesModel", "reach", "(I)V"⟩, 55), (⟨"TokenFramesModel", "work", "(I)V"⟩, 55), (⟨"TokenFramesModel", "partOf", "(I)I"⟩, 55), (⟨"TokenFramesModel", "know", "(III)V"⟩, 55), (⟨"TokenFramesModel", "workArgument", "(II)V"⟩, 55), (⟨"TokenFramesModel", "same", "(II)V"⟩, 55), (⟨"TokenFramesModel", "here", "(II)I"⟩, 55), (⟨"TokenFramesModel", "numberOf", "(I)I"⟩, 55), (⟨"TokenFramesModel", "workIf", "(II)V"⟩, 55), (⟨"TokenFramesModel", "workCall", "(II)V"⟩, 55), (⟨"TokenFramesModel", "reachArguments", "(I)V"⟩, 55), (⟨"TokenFramesModel", "hand", "(III)V"⟩, 55)]
theorem lw_r6 : ∀ q ∈ lw_privs_6, lw_okq q := List.forall_mem_cons.mpr ⟨lw_p80, List.forall_mem_cons.mpr ⟨lw_p81, List.forall_mem_cons.mpr ⟨lw_p82, List.forall_mem_cons.mpr ⟨lw_p83, List.forall_mem_cons.mpr ⟨lw_p84, List.forall_mem_cons.mpr ⟨lw_p85, List.forall_mem_cons.mpr ⟨lw_p86, List.forall_mem_cons.mpr ⟨lw_p87, List.forall_mem_cons.mpr ⟨lw_p88, List.forall_mem_cons.mpr ⟨lw_p89, List.forall_mem_cons.mpr ⟨lw_p90, List.forall_mem_cons.mpr ⟨lw_p91, List.forall_mem_cons.mpr ⟨lw_p92, List.forall_mem_cons.mpr ⟨lw_p93, List.forall_mem_cons.mpr ⟨lw_p94, List.forall_mem_cons.mpr ⟨lw_p95, fun _ h => absurd h List.not_mem_nil⟩⟩⟩⟩⟩⟩⟩⟩⟩⟩⟩⟩⟩⟩⟩⟩
theorem lw_p96 : lw_okq (⟨"TokenFramesModel", "workMake", "(II)V"⟩, 55) := ⟨⟨by decide +kernel, by decide +kernel⟩, List.mem_of_getElem? (i := 868) (by decide +kernel), List.mem_of_getElem? (i := 1262) (by decide +kernel), List.mem_of_getElem? (i := 1263) (by decide +kernel)⟩
theorem lw_p97 : lw_okq (⟨"TokenFramesModel", "workFetch", "(II)V"⟩, 55) := ⟨⟨by decide +kernel, by decide +kernel⟩, List.mem_of_getElem? (i := 868) (by decide +kernel), List.mem_of_getElem? (i := 1266) (by decide +kernel), List.mem_of_getElem? (i := 1267) (by decide +kernel)⟩
theorem lw_p98 : lw_okq (⟨"TokenFramesModel", "tell", "()V"⟩, 55) := ⟨⟨by decide +kernel, by decide +kernel⟩, List.mem_of_getElem? (i := 868) (by decide +kernel), List.mem_of_getElem? (i := 1270) (by decide +kernel), List.mem_of_getElem? (i := 1271) (by decide +kernel)⟩
def lw_privs_7 : List (MethodName × Nat) := [(⟨"TokenFramesModel", "workMake", "(II)V"⟩, 55), (⟨"TokenFramesModel", "workFetch", "(II)V"⟩, 55), (⟨"TokenFramesModel", "tell", "()V"⟩, 55)]
theorem lw_r7 : ∀ q ∈ lw_privs_7, lw_okq q := List.forall_mem_cons.mpr ⟨lw_p96, List.forall_mem_cons.mpr ⟨lw_p97, List.forall_mem_cons.mpr ⟨lw_p98, fun _ h => absurd h List.not_mem_nil⟩⟩⟩
def lw_privs : List (MethodName × Nat) := lw_privs_1 ++ (lw_privs_2 ++ (lw_privs_3 ++ (lw_privs_4 ++ (lw_privs_5 ++ (lw_privs_6 ++ (lw_privs_7))))))
def lw_tbl : List Cond := k2_sels lw_privs ++ tables_1
theorem lw_privs_ok : ∀ q ∈ lw_privs, lw_okq q := by
  show ∀ q ∈ lw_privs_1 ++ (lw_privs_2 ++ (lw_privs_3 ++ (lw_privs_4 ++ (lw_privs_5 ++ (lw_privs_6 ++ (lw_privs_7)))))), lw_okq q
  exact List.forall_mem_append.mpr ⟨lw_r1, List.forall_mem_append.mpr ⟨lw_r2, List.forall_mem_append.mpr ⟨lw_r3, List.forall_mem_append.mpr ⟨lw_r4, List.forall_mem_append.mpr ⟨lw_r5, List.forall_mem_append.mpr ⟨lw_r6, lw_r7⟩⟩⟩⟩⟩⟩
-- ===== end of PART A; then your names; then what follows =====
end
section
/-! ===== BEGIN words of one list among another's, by their places ===== -/
theorem goodIn_r {big : List Cond} (ws : List Cond) (ps : List Nat) (hp : ws = ps.filterMap (fun i => big[i]?)) (h : ws.all goodWord = true) : GoodIn big ws := by
  intro w hw
  have h1 := List.all_eq_true.mp h w hw
  rw [hp] at hw
  obtain ⟨i, -, hi⟩ := List.mem_filterMap.mp hw
  have hm : w ∈ big := by first | exact List.mem_of_getElem? hi | exact List.getElem?_mem hi
  exact ⟨hm, good_of_word h1⟩
theorem goodIn_app {big a b : List Cond} (ha : GoodIn big a) (hb : GoodIn big b) : GoodIn big (a ++ b) := fun w h => (List.mem_append.mp h).elim (ha w) (hb w)
theorem goodIn_ca {big a b : List Cond} {c : Cond} (ha : GoodIn big (c :: a)) (hb : GoodIn big b) : GoodIn big (c :: (a ++ b)) := fun w h => (List.mem_cons.mp h).elim (fun e => ha w (List.mem_cons.mpr (Or.inl e))) (fun h => (List.mem_append.mp h).elim (fun h => ha w (List.mem_cons.mpr (Or.inr h))) (hb w))
theorem goodIn_sub {big ws : List Cond} (hm : ∀ w ∈ ws, w ∈ big) (h : ws.all goodWord = true) : GoodIn big ws := fun w hw => ⟨hm w hw, good_of_word (List.all_eq_true.mp h w hw)⟩
/-! ===== END ===== -/

/-! ===== BEGIN exceptions that leave a method, and their catching by the caller (launches without stack traces) ===== -/
section VXA
/-! The laws vx_back, vx_callV, vx_callS, vx_callSW, vx_throw0, vx_throwS follow proofs of the library, with one case more: JvmDerived/Free/Laws.lean (Back.of_free), Shelf42/LK1.lean (callV, callS), Shelf/KitTraced.lean (throwNew0V, throwNewS). -/
/-- where a method has thrown q: the class by its name, the cell, what was written, the world -/
def vx_T (XC : String → State → State → Prop) (st : State) (q : Addr) (t : State) (mc ms : Nat) (free : Addr → Prop) : Prop :=
  ∃ (E : String) (ce : Cell) (L : List Loc), XC E st t ∧ t.heap[q]? = some ce ∧ ce.vm = .none ∧ st.vm.findClass E = some ce.cls ∧ st.WarmedH t.vm ∧ st.sameButNew ({ t with vm := st.vm } : State) L mc ms ∧ ∀ z ∈ L, free z.base
def vx_Q (Qc : Array Value → State → Outcome → State → Prop) (XC : String → State → State → Prop) (mc ms : Nat) (free : Addr → Prop) : Array Value → State → Outcome → State → Prop := fun a st o t =>
  (Qc a st o t ∧ ∃ L, FrameEnd st o t L mc ms ∧ ∀ q ∈ L, free q.base) ∨ ∃ q, o = .threw q ∧ vx_T XC st q t mc ms free
/-- a callee that returns or throws -/
def vx_Met (l : Launch) (y : MethodName) (ws : List Cond) (rm : Room) (Pc : Array Value → State → Prop) (Qc : Array Value → State → Outcome → State → Prop) (XC : String → State → State → Prop) (mc ms : Nat) (free : Addr → Prop) : Prop :=
  MetFree l y (headSpec ws rm) Pc (fun _ _ _ _ _ => True) (vx_Q Qc XC mc ms free)
def vx_Post (XC : String → State → State → Prop) (mc ms : Nat) (free : Addr → Prop) : Pt → Array Value → Addr → Pt → Prop := fun A a q B =>
  ∃ (g : JFrame) (mk : MethodId) (t : State) (L : List Loc) (E : String) (ce : Cell), B.U.heap = t.heap ∧ B.U.vm = t.vm ∧ XC E (A.U.calling g mk a) t ∧ t.heap[q]? = some ce ∧ ce.vm = .none ∧ A.U.vm.findClass E = some ce.cls ∧ B.locs = A.locs ++ L ∧ (∀ z ∈ L, free z.base) ∧ B.cells = A.cells + mc ∧ B.slots = A.slots + ms
def vx_Back (l : Launch) (R : Room) (p : Program) (e : Env) (below : List Frame) (s : State) (sargs : Array Value) (y : MethodName) (len W9 : Nat)
    (Pre : Pt → Array Value → Prop) (Post : Pt → Array Value → Option Value → Pt → Prop) (PostX : Pt → Array Value → Addr → Pt → Prop) : Prop :=
  ∀ (m : MethodId) (meth : Method) (c : Code) (A : Pt) (g : JFrame) (ig : Instr) (mk : MethodId) (a : Array Value),
    Stand p l e R s m sargs below meth c A.U A.locs A.cells A.slots → g.method = m → g.locals.size = c.maxLocals → decode c.code g.pc = .ok (ig, len) →
    2 * g.monitorRoom + (g.stack.map fun v => v.category).sum ≤ W9 → A.U.methodNamed? y = some mk → Pre A a →
    (∃ (v : Option Value) (B : Pt), Stand p l e R s m sargs below meth c B.U B.locs B.cells B.slots ∧ Post A a v B ∧
      Steps p.tables e below (doInvoke e (A.U.setTop g) [] mk a).1 (B.U.setTop { g with pc := g.pc + len, stack := v.toList ++ g.stack })) ∨
    (∃ (q : Addr) (B : Pt), Stand p l e R s m sargs below meth c B.U B.locs B.cells B.slots ∧ PostX A a q B ∧
      Steps p.tables e below (doInvoke e (A.U.setTop g) [] mk a).1 ((B.U.setTop g).pushFrame (.throwing q)))
section Payer
variable {l : Launch} {R : Room} {p : Program} {e : Env} {below : List Frame} {s : State} {sargs : Array Value} {y : MethodName} {len W9 : Nat}
theorem vx_back {ws : List Cond} {rm : Room} {Pc : Array Value → State → Prop} {Qc : Array Value → State → Outcome → State → Prop} {XC : String → State → State → Prop} {mc ms : Nat} {free : Addr → Prop} {bytes : ByteArray} {maxL : Nat} {ret : Option FieldType}
    (hM : vx_Met l y ws rm Pc Qc XC mc ms free) (hblind : FrameBlind Pc) (hrc : rm.cells = mc) (hrs : rm.slots = ms)
    (hframes : rm.frames + 1 ≤ R.frames) (hlocals : W9 + (maxL + 11) + rm.locals ≤ R.locals)
    (hws : ∀ w ∈ ws, ∀ a' U, s.WarmedH U.vm → w.before a' U = true) (hcode : Cond.code y bytes maxL ret ∈ ws) (hinit : ∀ a' U, s.WarmedH U.vm → (Cond.initialized y.cls).before a' U = true) :
    vx_Back l R p e below s sargs y len W9 (PreOf R mc ms Pc) (PostOf Qc mc ms free) (vx_Post XC mc ms free) := by
  intro m meth c A g ig mk a X hg hsize hdg hW hn hp
  have h1 : (headSpec ws rm).pre.before a A.U = true := atoms_intro fun w hw => hws w hw _ _ X.warmed
  have h2 : (Cond.code y bytes maxL ret).before a A.U = true := hws _ hcode _ _ X.warmed
  have h3 : (Cond.initialized y.cls).before a A.U = true := hinit _ _ X.warmed
  have h4 : A.cells + (headSpec ws rm).room.cells ≤ R.cells := by rw [show (headSpec ws rm).room.cells = mc from hrc]; exact hp.1
  have h5 : A.slots + (headSpec ws rm).room.slots ≤ R.slots := by rw [show (headSpec ws rm).room.slots = ms from hrs]; exact hp.2.1
  have hPc : Pc a (A.U.calling g mk a) := hblind _ _ _ _ hp.2.2
  obtain ⟨U, Ls, c0, s0⟩ := A
  dsimp only [Pt.U, Pt.locs, Pt.cells, Pt.slots] at h1 h2 h3 h4 h5 X hn hPc ⊢
  obtain ⟨methY, cY, hmY, hcY, -, hlY, -, -, -, -⟩ := Cond.code_spec hn h2
  obtain ⟨kY, hkY, -⟩ := className_of_methodNamed hn
  have hinitY : kY.init = .initialized := Cond.initialized_spec (findClass_of_methodNamed hn) hkY h3
  have h : At U g.method c below := by rw [hg]; exact X.here
  have hlocals9 : W9 + (maxL + 11) + (headSpec ws rm).room.locals ≤ R.locals := hlocals
  have happ : (headSpec ws rm).appliesLoose y e.platform (U.calling g mk a) = true :=
    Spec.appliesLoose_calling (g := g) h hdg hn hkY hinitY
      (X.room_calling (g := g) (R' := (headSpec ws rm).room) hsize hmY hcY hframes (by rw [hlY]; omega) h4 h5) h1
  obtain ⟨mid, hmid⟩ := h.above
  have hfr : (U.setTop g).frames = (.java g :: mid) ++ below := by rw [State.frames_setTop' g h.top, hmid]; rfl
  obtain ⟨o, s₂, hsteps, -, hend, hq⟩ := Steps.callFree hM p X.admits X.cas X.clock (acts := []) hfr happ hPc trivial
  have hq' : vx_Q Qc XC mc ms free a (U.calling g mk a) o s₂ := hq
  rw [State.frames_setTop' g h.top] at hend
  obtain ⟨g₀, hg0⟩ := Option.isSome_iff_exists.mp h.top
  obtain ⟨r, hr⟩ := State.topJava?_eq_some.mp hg0
  have hr' : (({ U with heap := s₂.heap, slotsUsed := s₂.slotsUsed } : State).setVm s₂.vm).frames = .java g₀ :: r := hr
  rcases hq' with ⟨hqc, L, hfe, hL⟩ | ⟨q, rfl, E, ce, L, hx, hce, hcv, hcl, hW₂, hsm, hL⟩
  · obtain ⟨⟨v, rfl⟩, hW₂, e2, q2, q3, q4, q5, q6⟩ := id hfe
    have e3 : s₂ = ({ (U.calling g mk a).setFrames s₂.frames with heap := s₂.heap, slotsUsed := s₂.slotsUsed } : State).setVm s₂.vm := by
      have : s₂ = ({ s₂ with vm := (U.calling g mk a).vm } : State).setVm s₂.vm := rfl
      rw [e2] at this
      exact this
    obtain ⟨c₂, i₂, len₂, hc₂, hd₂, hf₂⟩ := hend
    have hW' : U.WarmedH s₂.vm := hW₂
    have hcc : c₂ = c := by
      have h1 : s₂.code? g.method = U.code? g.method := by
        rw [State.code?_eq, State.code?_eq, hW'.alike.method?]
      exact Option.some.inj (hc₂.symm.trans (h1.trans h.code))
    subst hcc
    have hlen : len₂ = len := by rw [hdg] at hd₂; cases hd₂; rfl
    subst hlen
    have hs₂ : s₂ = (({ U with heap := s₂.heap, slotsUsed := s₂.slotsUsed } : State).setVm s₂.vm).setTop { g with pc := g.pc + len₂, stack := v.toList ++ g.stack } := by
      refine e3.trans ?_
      rw [hf₂, State.calling_eq h.top, State.setFrames_setFrames, State.setTop_of_frames _ hr', hr]
      rfl
    have hsame : U.sameButNew ({ U with heap := s₂.heap, slotsUsed := s₂.slotsUsed } : State) L mc ms := by
      refine ⟨?_, q2, q3, q4, q5, q6⟩
      obtain ⟨t, ht, -⟩ := State.frames_cons hr
      show ({ U with heap := s₂.heap, slotsUsed := s₂.slotsUsed } : State) = { U.setFrames U.frames with heap := s₂.heap, slotsUsed := s₂.slotsUsed }
      rw [State.setFrames_self ht]
    subst hg
    refine Or.inl ⟨v, ⟨(({ U with heap := s₂.heap, slotsUsed := s₂.slotsUsed } : State).setVm s₂.vm), Ls ++ L, c0 + mc, s0 + ms⟩,
      ⟨X.admits, X.cas, X.clock, X.frames, X.room, X.hears, X.method, X.code, (X.here.setHeapUsed s₂.heap s₂.slotsUsed).setVm hW'.alike, X.tail, State.WarmedH.trans X.warmed hW', X.limits, X.bytes, X.same.trans (hsame.setVm s.vm)⟩,
      ⟨g, mk, s₂, L, rfl, rfl, hqc, rfl, hL, rfl, rfl⟩, ?_⟩
    show Steps p.tables e below _ ((({ U with heap := s₂.heap, slotsUsed := s₂.slotsUsed } : State).setVm s₂.vm).setTop { g with pc := g.pc + len₂, stack := v.toList ++ g.stack })
    rw [← hs₂]
    exact hsteps
  · obtain ⟨e2, q2, q3, q4, q5, q6⟩ := id hsm
    have e3 : s₂ = ({ (U.calling g mk a).setFrames s₂.frames with heap := s₂.heap, slotsUsed := s₂.slotsUsed } : State).setVm s₂.vm := by
      have : s₂ = ({ s₂ with vm := (U.calling g mk a).vm } : State).setVm s₂.vm := rfl
      rw [e2] at this
      exact this
    have hf₂ : s₂.frames = .throwing q :: .java g :: U.frames.tail := hend
    have hW' : U.WarmedH s₂.vm := hW₂
    have hs₂ : s₂ = ((({ U with heap := s₂.heap, slotsUsed := s₂.slotsUsed } : State).setVm s₂.vm).setTop g).pushFrame (.throwing q) := by
      refine e3.trans ?_
      rw [hf₂, State.calling_eq h.top, State.setFrames_setFrames, State.pushFrame, State.frames_setTop _ hr', State.setTop_of_frames _ hr', State.setFrames_setFrames, hr]
      rfl
    have hsame : U.sameButNew ({ U with heap := s₂.heap, slotsUsed := s₂.slotsUsed } : State) L mc ms := by
      refine ⟨?_, q2, q3, q4, q5, q6⟩
      obtain ⟨t, ht, -⟩ := State.frames_cons hr
      show ({ U with heap := s₂.heap, slotsUsed := s₂.slotsUsed } : State) = { U.setFrames U.frames with heap := s₂.heap, slotsUsed := s₂.slotsUsed }
      rw [State.setFrames_self ht]
    subst hg
    refine Or.inr ⟨q, ⟨(({ U with heap := s₂.heap, slotsUsed := s₂.slotsUsed } : State).setVm s₂.vm), Ls ++ L, c0 + mc, s0 + ms⟩,
      ⟨X.admits, X.cas, X.clock, X.frames, X.room, X.hears, X.method, X.code, (X.here.setHeapUsed s₂.heap s₂.slotsUsed).setVm hW'.alike, X.tail, State.WarmedH.trans X.warmed hW', X.limits, X.bytes, X.same.trans (hsame.setVm s.vm)⟩,
      ⟨g, mk, s₂, L, E, ce, rfl, rfl, hx, hce, hcv, hcl, rfl, hL, rfl, rfl⟩, ?_⟩
    show Steps p.tables e below _ (((({ U with heap := s₂.heap, slotsUsed := s₂.slotsUsed } : State).setVm s₂.vm).setTop g).pushFrame (.throwing q))
    rw [← hs₂]
    exact hsteps
end Payer
section Calls
variable {p : Program} {l : Launch} {e : Env} {R : Room} {s : State} {m : MethodId} {args : Array Value} {below : List Frame} {meth : Method} {c : Code} {T : State} {locs : List Loc} {cells slots : Nat}
theorem vx_callV (X : Stand p l e R s m args below meth c T locs cells slots) (hexec : p.tables.exec = Jvm.exec) {own C : String} {index : Nat} {y : MethodName} {bytes : ByteArray} {maxL : Nat} {ret : Option FieldType}
    (hown : s.vm.findClass own = some m.cls) (hlink : (Cond.methodLink own index y).before args s = true) (hinst : (Cond.instanceMethod y).before args s = true) (hsel : (Cond.selects C y y).before args s = true)
    (hcode : (Cond.code y bytes maxL ret).before args s = true) (hy : y.cls ≠ "java/lang/invoke/MethodHandle" ∧ y.cls ≠ "java/lang/invoke/VarHandle")
    {W9 : Nat} {Pre : Pt → Array Value → Prop} {Post : Pt → Array Value → Option Value → Pt → Prop} {PostX : Pt → Array Value → Addr → Pt → Prop} (hK : vx_Back l R p e below s args y 3 W9 Pre Post PostX)
    {b : Addr} {cellB : Cell} (hcell : T.heap[b]? = some cellB) (hobj : cellB.vm.isStatics = false) (hcls : s.vm.findClass C = some cellB.cls)
    {g : JFrame} (hg : g.method = m) (hsize : g.locals.size = c.maxLocals) {argsL rest : List Value} (hlen : ∀ sig, parseMethodDescriptor y.desc = some sig → argsL.length = sig.parameters.length)
    (hstack : g.stack = argsL.reverse ++ .ref b :: rest) (hW : 2 * g.monitorRoom + (rest.map fun v => v.category).sum ≤ W9) (hdg : decode c.code g.pc = .ok (.invokevirtual index, 3))
    (hpre : ∀ vm₁, s.WarmedH vm₁ → Pre ⟨T.setVm vm₁, locs, cells, slots⟩ (Value.ref b :: argsL).toArray) :
    (∃ (v : Option Value) (vm₁ : Vm) (B : Pt), s.WarmedH vm₁ ∧ Stand p l e R s m args below meth c B.U B.locs B.cells B.slots ∧ Post ⟨T.setVm vm₁, locs, cells, slots⟩ (Value.ref b :: argsL).toArray v B ∧
      ∀ target, Steps p.tables e below (B.U.setTop { g with pc := g.pc + 3, stack := v.toList ++ rest }) target → Steps p.tables e below (T.setTop g) target) ∨
    (∃ (q : Addr) (vm₁ : Vm) (B : Pt), s.WarmedH vm₁ ∧ Stand p l e R s m args below meth c B.U B.locs B.cells B.slots ∧ PostX ⟨T.setVm vm₁, locs, cells, slots⟩ (Value.ref b :: argsL).toArray q B ∧
      Steps p.tables e below (T.setTop g) ((B.U.setTop { g with stack := rest }).pushFrame (.throwing q))) := by
  obtain ⟨mk, methM, hnamed, hmethM, hstM, habM⟩ := Cond.instanceMethod_spec hinst
  obtain ⟨methM', cM, hmethM', -, -, -, -, -, -, hsigM⟩ := Cond.code_spec hnamed hcode
  cases hmethM.symm.trans hmethM'
  obtain ⟨c2, r2, m2, q1, q2, q3, q4, kP, hkP, hkPi⟩ := Cond.selects_spec hsel
  cases hcls.symm.trans q1
  cases (State.methodFound?_of_named hnamed hy).symm.trans q2
  cases hnamed.symm.trans q3
  have hselP : selectMethod e.platform s.vm cellB.cls mk = .method mk := by rw [Launch.admits_selectMethod X.admits]; exact q4
  obtain ⟨vm₁, X₁, hstep₁⟩ := X.invokevirtual hexec hown hlink hnamed hmethM hstM hkP hkPi hy (a := b) (cell := cellB) hcell
    (fun z h => by rw [h] at hobj; cases hobj) hselP hmethM habM hkP hkPi (g := g) hg (argsL := argsL) (rest := rest) (hlen _ hsigM) hstack hdg
  rcases hK m meth c ⟨T.setVm vm₁, locs, cells, slots⟩ { g with stack := rest } (.invokevirtual index) mk (Value.ref b :: argsL).toArray X₁ hg hsize hdg hW (X₁.named hnamed) (hpre vm₁ X₁.warmed) with ⟨v, B, X', hpost, hsteps⟩ | ⟨q, B, X', hpost, hsteps⟩
  · exact Or.inl ⟨v, vm₁, B, X₁.warmed, X', hpost, fun target h => hstep₁ _ fun acts => by rw [doInvoke_state]; exact hsteps.trans h⟩
  · exact Or.inr ⟨q, vm₁, B, X₁.warmed, X', hpost, hstep₁ _ fun acts => by rw [doInvoke_state]; exact hsteps⟩
theorem vx_callS (X : Stand p l e R s m args below meth c T locs cells slots) (hexec : p.tables.exec = Jvm.exec) {own : String} {index : Nat} {y : MethodName} {bytes : ByteArray} {maxL : Nat} {ret : Option FieldType}
    (hown : s.vm.findClass own = some m.cls) (hlink : (Cond.methodLink own index y).before args s = true) (hstat : (Cond.static y).before args s = true) (hinit : (Cond.initialized y.cls).before args s = true)
    (hcode : (Cond.code y bytes maxL ret).before args s = true) (hy : y.cls ≠ "java/lang/invoke/MethodHandle" ∧ y.cls ≠ "java/lang/invoke/VarHandle")
    {W9 : Nat} {Pre : Pt → Array Value → Prop} {Post : Pt → Array Value → Option Value → Pt → Prop} {PostX : Pt → Array Value → Addr → Pt → Prop} (hK : vx_Back l R p e below s args y 3 W9 Pre Post PostX)
    {g : JFrame} (hg : g.method = m) (hsize : g.locals.size = c.maxLocals) {argsL rest : List Value} (hlen : ∀ sig, parseMethodDescriptor y.desc = some sig → argsL.length = sig.parameters.length)
    (hstack : g.stack = argsL.reverse ++ rest) (hW : 2 * g.monitorRoom + (rest.map fun v => v.category).sum ≤ W9) (hdg : decode c.code g.pc = .ok (.invokestatic index, 3))
    (hpre : ∀ vm₁, s.WarmedH vm₁ → Pre ⟨T.setVm vm₁, locs, cells, slots⟩ argsL.toArray) :
    (∃ (v : Option Value) (vm₁ : Vm) (B : Pt), s.WarmedH vm₁ ∧ Stand p l e R s m args below meth c B.U B.locs B.cells B.slots ∧ Post ⟨T.setVm vm₁, locs, cells, slots⟩ argsL.toArray v B ∧
      ∀ target, Steps p.tables e below (B.U.setTop { g with pc := g.pc + 3, stack := v.toList ++ rest }) target → Steps p.tables e below (T.setTop g) target) ∨
    (∃ (q : Addr) (vm₁ : Vm) (B : Pt), s.WarmedH vm₁ ∧ Stand p l e R s m args below meth c B.U B.locs B.cells B.slots ∧ PostX ⟨T.setVm vm₁, locs, cells, slots⟩ argsL.toArray q B ∧
      Steps p.tables e below (T.setTop g) ((B.U.setTop { g with stack := rest }).pushFrame (.throwing q))) := by
  obtain ⟨mk, hnamed⟩ := Cond.code_named hcode
  obtain ⟨methM, cM, hmethM, -, -, -, -, -, -, hsigM⟩ := Cond.code_spec hnamed hcode
  have hstatic : methM.isStatic = true := Cond.static_spec hnamed hmethM hstat
  obtain ⟨kP, hkP, -⟩ := className_of_methodNamed hnamed
  have hinitP : kP.init = .initialized := Cond.initialized_spec (findClass_of_methodNamed hnamed) hkP hinit
  obtain ⟨vm₁, X₁, hstep₁⟩ := X.invokestatic hexec hown hlink hnamed hmethM hstatic hkP hinitP hy (g := g) hg (argsL := argsL) (rest := rest) (hlen _ hsigM) hstack hdg
  rcases hK m meth c ⟨T.setVm vm₁, locs, cells, slots⟩ { g with stack := rest } (.invokestatic index) mk argsL.toArray X₁ hg hsize hdg hW (X₁.named hnamed) (hpre vm₁ X₁.warmed) with ⟨v, B, X', hpost, hsteps⟩ | ⟨q, B, X', hpost, hsteps⟩
  · exact Or.inl ⟨v, vm₁, B, X₁.warmed, X', hpost, fun target h => hstep₁ _ fun acts => by rw [doInvoke_state]; exact hsteps.trans h⟩
  · exact Or.inr ⟨q, vm₁, B, X₁.warmed, X', hpost, hstep₁ _ fun acts => by rw [doInvoke_state]; exact hsteps⟩
end Calls
theorem vx_cls {s : State} {T : State} {vm₁ : Vm} {E : String} {k : ClassId} (hW : s.WarmedH vm₁) (h : (T.setVm vm₁).vm.findClass E = some k) : s.vm.findClass E = some k := by
  have h1 : vm₁.findClass E = some k := h
  rw [hW.alike.findClass] at h1
  exact h1
/-- the method's frame g, with q thrown over it -/
def vx_W (p : Program) (l : Launch) (e : Env) (R : Room) (s : State) (m : MethodId) (args : Array Value) (below : List Frame) (meth : Method) (c : Code) (H : Heap) (locs : List Loc) (cells slots : Nat) (Q : State → Prop) (g : JFrame) (q : Addr) : Prop :=
  ∀ T : State, T.heap = H → Stand p l e R s m args below meth c T locs cells slots → ∃ t, Steps p.tables e below ((T.setTop g).pushFrame (.throwing q)) t ∧ Q t
def vx_Run (p : Program) (l : Launch) (e : Env) (R : Room) (s : State) (m : MethodId) (args : Array Value) (below : List Frame) (meth : Method) (c : Code) (H : Heap) (locs : List Loc) (cells slots mc ms : Nat) (g : JFrame) (rest : List Value) (Qa : State → Outcome → State → Prop) (XC : String → State → State → Prop) (free : Addr → Prop) : Prop :=
  ∀ T : State, T.heap = H → Stand p l e R s m args below meth c T locs cells slots →
    (∃ (v : Option Value) (st₀ t T' : State) (L : List Loc), st₀.heap = H ∧ Stand p l e R s m args below meth c T' (locs ++ L) (cells + mc) (slots + ms) ∧ (∀ q ∈ L, free q.base) ∧ T'.heap = t.heap ∧ T'.vm = t.vm ∧ Qa st₀ (.returned v) t ∧
      Goes p e below T g T' { g with pc := g.pc + 3, stack := v.toList ++ rest }) ∨
    (∃ (q : Addr) (st₀ t T' : State) (L : List Loc) (E : String) (ce : Cell), st₀.heap = H ∧ Stand p l e R s m args below meth c T' (locs ++ L) (cells + mc) (slots + ms) ∧ (∀ z ∈ L, free z.base) ∧ T'.heap = t.heap ∧ T'.vm = t.vm ∧ XC E st₀ t ∧ t.heap[q]? = some ce ∧ ce.vm = .none ∧ s.vm.findClass E = some ce.cls ∧
      Steps p.tables e below (T.setTop g) ((T'.setTop { g with stack := rest }).pushFrame (.throwing q)))
def vx_X {S : Type} (px : S → Prop) (B : String → S → State → Prop) (A : Nat → Prop) : String → State → State → Prop := fun E st t => ∃ u : S, px u ∧ B E u t ∧ va_F A st t
section Runs
variable {p : Program} {l : Launch} {e : Env} {R : Room} {s : State} {m : MethodId} {args : Array Value} {below : List Frame} {meth : Method} {c : Code} {H : Heap} {locs : List Loc} {cells slots : Nat}
variable {y : MethodName} {bytes cc : ByteArray} {maxL nL mc ms n index : Nat} {ret : Option FieldType} {ws : List Cond} {rm : Room} {Pc : Array Value → State → Prop} {Qc : Array Value → State → Outcome → State → Prop} {XC : String → State → State → Prop} {free : Addr → Prop} {Ts : List Cond} {own C : String} {b : Addr} {As rest : List Value} {g : JFrame}
theorem vx_callBack (cb : CallB R s args own index y bytes maxL ret ws rm mc ms n) (hM : vx_Met l y ws rm Pc Qc XC mc ms free) (hbl : FrameBlind Pc) : vx_Back l R p e below s args y 3 8 (PreOf R mc ms Pc) (PostOf Qc mc ms free) (vx_Post XC mc ms free) := by
  obtain ⟨hrc, hrs, hfr, hlo, hws, hcw, -, hini, -⟩ := cb
  exact vx_back (bytes := bytes) (maxL := maxL) (ret := ret) hM hbl hrc hrs hfr hlo hws hcw (fun a' U hW => word_at hW (Or.inl (by first | rfl | simp [Cond.onTables, Cond.keeps, Cond.steady])) hini)
theorem vx_runV (S : CallFix p m c cc nL s args Ts own) (hM : vx_Met l y ws rm Pc Qc XC mc ms free) (cw : CallW R s args own C index y bytes maxL ret ws rm mc ms n) (hp : PreV s H C b Pc As)
    (hg : g.method = m) (hn : As.length = n) (hsize : g.locals.size = nL) (hstack : g.stack = As.reverse ++ .ref b :: rest) (hW : 2 * g.monitorRoom + (rest.map fun v => v.category).sum ≤ 8) (hdg : decode cc g.pc = .ok (.invokevirtual index, 3)) (hf : cells + mc ≤ R.cells ∧ slots + ms ≤ R.slots) :
    vx_Run p l e R s m args below meth c H locs cells slots mc ms g rest (Qc (Value.ref b :: As).toArray) XC free := by
  have hK : vx_Back l R p e below s args y 3 8 (PreOf R mc ms Pc) (PostOf Qc mc ms free) (vx_Post XC mc ms free) := vx_callBack cw.1 hM hp.1
  obtain ⟨⟨-, -, -, -, -, -, hcode, -, hy, hlen, hl⟩, hin, hse⟩ := cw
  obtain ⟨hx, hb, hml, ho, -⟩ := S
  obtain ⟨-, ⟨cellB, hcB, hoB, hclB⟩, hPc⟩ := hp
  intro T hT X
  rcases vx_callV X hx (C := C) (bytes := bytes) (maxL := maxL) (ret := ret) ho hl hin hse hcode hy hK (by rw [hT]; exact hcB) hoB hclB hg (hsize.trans hml.symm) (argsL := As) (rest := rest) (fun sig h => hn.trans (hlen sig h)) hstack hW (by rw [hb]; exact hdg)
    (fun vm₁ hW₁ => ⟨hf.1, hf.2, hPc (T.setVm vm₁) hT hW₁⟩) with ⟨v, vm₁, ⟨U', l2, c2, s2⟩, hW₁, X', ⟨g', mk, t, L, e1, e2, hq, h1, hL, h2, h3⟩, st⟩ | ⟨q, vm₁, ⟨U', l2, c2, s2⟩, hW₁, X', ⟨g', mk, t, L, E, ce, e1, e2, hq, hce, hcv, hcl, h1, hL, h2, h3⟩, st⟩
  · dsimp only [Pt.U, Pt.locs, Pt.cells, Pt.slots] at X' e1 e2 h1 h2 h3 st
    subst h1; subst h2; subst h3
    exact Or.inl ⟨v, (T.setVm vm₁).calling g' mk (Value.ref b :: As).toArray, t, U', L, hT, X', hL, e1, e2, hq, st⟩
  · dsimp only [Pt.U, Pt.locs, Pt.cells, Pt.slots] at X' e1 e2 h1 h2 h3 st hcl
    subst h1; subst h2; subst h3
    exact Or.inr ⟨q, (T.setVm vm₁).calling g' mk (Value.ref b :: As).toArray, t, U', L, E, ce, hT, X', hL, e1, e2, hq, hce, hcv, vx_cls hW₁ hcl, st⟩
theorem vx_runS (S : CallFix p m c cc nL s args Ts own) (hM : vx_Met l y ws rm Pc Qc XC mc ms free) (cw : CallB R s args own index y bytes maxL ret ws rm mc ms n ∧ (Cond.static y).before args s = true) (hp : PreS s H Pc As)
    (hg : g.method = m) (hn : As.length = n) (hsize : g.locals.size = nL) (hstack : g.stack = As.reverse ++ rest) (hW : 2 * g.monitorRoom + (rest.map fun v => v.category).sum ≤ 8) (hdg : decode cc g.pc = .ok (.invokestatic index, 3)) (hf : cells + mc ≤ R.cells ∧ slots + ms ≤ R.slots) :
    vx_Run p l e R s m args below meth c H locs cells slots mc ms g rest (Qc As.toArray) XC free := by
  have hK : vx_Back l R p e below s args y 3 8 (PreOf R mc ms Pc) (PostOf Qc mc ms free) (vx_Post XC mc ms free) := vx_callBack cw.1 hM hp.1
  obtain ⟨⟨-, -, -, -, -, -, hcode, hini, hy, hlen, hl⟩, hstt⟩ := cw
  obtain ⟨hx, hb, hml, ho, -⟩ := S
  intro T hT X
  rcases vx_callS X hx (bytes := bytes) (maxL := maxL) (ret := ret) ho hl hstt hini hcode hy hK hg (hsize.trans hml.symm) (argsL := As) (rest := rest) (fun sig h => hn.trans (hlen sig h)) hstack hW (by rw [hb]; exact hdg)
    (fun vm₁ hW₁ => ⟨hf.1, hf.2, hp.2 (T.setVm vm₁) hT hW₁⟩) with ⟨v, vm₁, ⟨U', l2, c2, s2⟩, hW₁, X', ⟨g', mk, t, L, e1, e2, hq, h1, hL, h2, h3⟩, st⟩ | ⟨q, vm₁, ⟨U', l2, c2, s2⟩, hW₁, X', ⟨g', mk, t, L, E, ce, e1, e2, hq, hce, hcv, hcl, h1, hL, h2, h3⟩, st⟩
  · dsimp only [Pt.U, Pt.locs, Pt.cells, Pt.slots] at X' e1 e2 h1 h2 h3 st
    subst h1; subst h2; subst h3
    exact Or.inl ⟨v, (T.setVm vm₁).calling g' mk As.toArray, t, U', L, hT, X', hL, e1, e2, hq, st⟩
  · dsimp only [Pt.U, Pt.locs, Pt.cells, Pt.slots] at X' e1 e2 h1 h2 h3 st hcl
    subst h1; subst h2; subst h3
    exact Or.inr ⟨q, (T.setVm vm₁).calling g' mk As.toArray, t, U', L, E, ce, hT, X', hL, e1, e2, hq, hce, hcv, vx_cls hW₁ hcl, st⟩
end Runs
section Rows
variable {p : Program} {l : Launch} {e : Env} {R : Room} {s : State} {m : MethodId} {args : Array Value} {below : List Frame} {meth : Method} {c : Code} {H : Heap} {locs : List Loc} {cells slots : Nat} {Q : State → Prop}
variable {mc ms : Nat} {free : Addr → Prop} {A0 A1 : Nat → Prop} {H0 : Heap} {a : Array Value} {pc : Nat} {ls : Array Slot} {st0 rest : List Value}
theorem vx_keep {st₀ t T' : State} {L : List Loc} (h0 : st₀.heap = H) (e1 : T'.heap = t.heap) (hS : va_S A0 H0 H locs) (hA : ∀ q, q < H.size → A1 q → A0 q) (hf : ∀ q, free q → A0 q) (hL : ∀ q ∈ L, free q.base) (hF : va_F A1 st₀ t) :
    H.size ≤ T'.heap.size ∧ (∀ q : Nat, q < H.size → ¬ A1 q → T'.heap[q]? = H[q]?) ∧ va_S A0 H0 T'.heap (locs ++ L) := by
  obtain ⟨hz, hk⟩ := hF
  rw [h0] at hz hk
  exact ⟨by rw [e1]; exact hz, fun q h1 h2 => by rw [e1]; exact hk q h1 h2,
    ⟨Nat.le_trans hS.1 (by rw [e1]; exact hz), fun q h1 h2 => by rw [e1, hk q (Nat.lt_of_lt_of_le h1 hS.1) (fun z => h2 (hA q (Nat.lt_of_lt_of_le h1 hS.1) z))]; exact hS.2.1 q h1 h2, fun q hq => by
      rcases List.mem_append.mp hq with h | h
      · exact hS.2.2 q h
      · exact hf _ (hL q h)⟩⟩
theorem vx_calli {S SX : Type} {post : Int32 → S → Prop} {px : SX → Prop} {B : S → State → Prop} {BX : String → SX → State → Prop} {AX : Nat → Prop} (hr : vx_Run p l e R s m args below meth c H locs cells slots mc ms (F0 m pc ls st0) rest (va_Qi post B A1 a) (vx_X px BX AX) free) (hS : va_S A0 H0 H locs) (hA : ∀ q, q < H.size → A1 q → A0 q) (hf : ∀ q, free q → A0 q) (hAX : ∀ q, q < H.size → AX q → A0 q)
    (kx : ∀ (E : String) (ce : Cell) (q9 : Addr) (u : SX) (t : State) (H1 : Heap) (locs1 : List Loc), t.heap = H1 → s.vm.Alike t.vm → px u → BX E u t → H.size ≤ H1.size → (∀ q : Nat, q < H.size → ¬ AX q → H1[q]? = H[q]?) → va_S A0 H0 H1 locs1 → H1[q9]? = some ce → ce.vm = .none → s.vm.findClass E = some ce.cls → vx_W p l e R s m args below meth c H1 locs1 (cells + mc) (slots + ms) Q (F0 m pc ls rest) q9)
    (kk : ∀ (r : Int32) (u : S) (t : State) (H1 : Heap) (locs1 : List Loc), t.heap = H1 → s.vm.Alike t.vm → post r u → B u t → H.size ≤ H1.size → (∀ q : Nat, q < H.size → ¬ A1 q → H1[q]? = H[q]?) → va_S A0 H0 H1 locs1 → W p l e R s m args below meth c H1 locs1 (cells + mc) (slots + ms) Q (F0 m (pc + 3) ls (.int r :: rest))) : W p l e R s m args below meth c H locs cells slots Q (F0 m pc ls st0) := by
  intro T hT X
  rcases hr T hT X with ⟨v, st₀, t, T', L, h0, X', hL, e1, e2, ⟨⟨r, u, hv, hp, hb⟩, hF⟩, st⟩ | ⟨q, st₀, t, T', L, E, ce, h0, X', hL, e1, e2, ⟨u, hp, hb, hF⟩, hce, hcv, hcl, st⟩
  · cases hv
    obtain ⟨k1, k2, k3⟩ := vx_keep h0 e1 hS hA hf hL hF
    obtain ⟨t2, a1, b1⟩ := kk r u t T'.heap (locs ++ L) e1.symm (by rw [← e2]; exact X'.warmed.alike) hp hb k1 k2 k3 T' rfl X'
    exact ⟨t2, st t2 a1, b1⟩
  · obtain ⟨k1, k2, k3⟩ := vx_keep h0 e1 hS hAX hf hL hF
    obtain ⟨t2, a1, b1⟩ := kx E ce q u t T'.heap (locs ++ L) e1.symm (by rw [← e2]; exact X'.warmed.alike) hp hb k1 k2 k3 (by rw [e1]; exact hce) hcv hcl T' rfl X'
    exact ⟨t2, st.trans a1, b1⟩
theorem vx_calll {S SX : Type} {post : Int64 → S → Prop} {px : SX → Prop} {B : S → State → Prop} {BX : String → SX → State → Prop} {AX : Nat → Prop} (hr : vx_Run p l e R s m args below meth c H locs cells slots mc ms (F0 m pc ls st0) rest (va_Ql post B A1 a) (vx_X px BX AX) free) (hS : va_S A0 H0 H locs) (hA : ∀ q, q < H.size → A1 q → A0 q) (hf : ∀ q, free q → A0 q) (hAX : ∀ q, q < H.size → AX q → A0 q)
    (kx : ∀ (E : String) (ce : Cell) (q9 : Addr) (u : SX) (t : State) (H1 : Heap) (locs1 : List Loc), t.heap = H1 → s.vm.Alike t.vm → px u → BX E u t → H.size ≤ H1.size → (∀ q : Nat, q < H.size → ¬ AX q → H1[q]? = H[q]?) → va_S A0 H0 H1 locs1 → H1[q9]? = some ce → ce.vm = .none → s.vm.findClass E = some ce.cls → vx_W p l e R s m args below meth c H1 locs1 (cells + mc) (slots + ms) Q (F0 m pc ls rest) q9)
    (kk : ∀ (r : Int64) (u : S) (t : State) (H1 : Heap) (locs1 : List Loc), t.heap = H1 → s.vm.Alike t.vm → post r u → B u t → H.size ≤ H1.size → (∀ q : Nat, q < H.size → ¬ A1 q → H1[q]? = H[q]?) → va_S A0 H0 H1 locs1 → W p l e R s m args below meth c H1 locs1 (cells + mc) (slots + ms) Q (F0 m (pc + 3) ls (.long r :: rest))) : W p l e R s m args below meth c H locs cells slots Q (F0 m pc ls st0) := by
  intro T hT X
  rcases hr T hT X with ⟨v, st₀, t, T', L, h0, X', hL, e1, e2, ⟨⟨r, u, hv, hp, hb⟩, hF⟩, st⟩ | ⟨q, st₀, t, T', L, E, ce, h0, X', hL, e1, e2, ⟨u, hp, hb, hF⟩, hce, hcv, hcl, st⟩
  · cases hv
    obtain ⟨k1, k2, k3⟩ := vx_keep h0 e1 hS hA hf hL hF
    obtain ⟨t2, a1, b1⟩ := kk r u t T'.heap (locs ++ L) e1.symm (by rw [← e2]; exact X'.warmed.alike) hp hb k1 k2 k3 T' rfl X'
    exact ⟨t2, st t2 a1, b1⟩
  · obtain ⟨k1, k2, k3⟩ := vx_keep h0 e1 hS hAX hf hL hF
    obtain ⟨t2, a1, b1⟩ := kx E ce q u t T'.heap (locs ++ L) e1.symm (by rw [← e2]; exact X'.warmed.alike) hp hb k1 k2 k3 (by rw [e1]; exact hce) hcv hcl T' rfl X'
    exact ⟨t2, st.trans a1, b1⟩
theorem vx_callf {S SX : Type} {post : UInt32 → S → Prop} {px : SX → Prop} {B : S → State → Prop} {BX : String → SX → State → Prop} {AX : Nat → Prop} (hr : vx_Run p l e R s m args below meth c H locs cells slots mc ms (F0 m pc ls st0) rest (va_Qf post B A1 a) (vx_X px BX AX) free) (hS : va_S A0 H0 H locs) (hA : ∀ q, q < H.size → A1 q → A0 q) (hf : ∀ q, free q → A0 q) (hAX : ∀ q, q < H.size → AX q → A0 q)
    (kx : ∀ (E : String) (ce : Cell) (q9 : Addr) (u : SX) (t : State) (H1 : Heap) (locs1 : List Loc), t.heap = H1 → s.vm.Alike t.vm → px u → BX E u t → H.size ≤ H1.size → (∀ q : Nat, q < H.size → ¬ AX q → H1[q]? = H[q]?) → va_S A0 H0 H1 locs1 → H1[q9]? = some ce → ce.vm = .none → s.vm.findClass E = some ce.cls → vx_W p l e R s m args below meth c H1 locs1 (cells + mc) (slots + ms) Q (F0 m pc ls rest) q9)
    (kk : ∀ (r : UInt32) (u : S) (t : State) (H1 : Heap) (locs1 : List Loc), t.heap = H1 → s.vm.Alike t.vm → post r u → B u t → H.size ≤ H1.size → (∀ q : Nat, q < H.size → ¬ A1 q → H1[q]? = H[q]?) → va_S A0 H0 H1 locs1 → W p l e R s m args below meth c H1 locs1 (cells + mc) (slots + ms) Q (F0 m (pc + 3) ls (.float r :: rest))) : W p l e R s m args below meth c H locs cells slots Q (F0 m pc ls st0) := by
  intro T hT X
  rcases hr T hT X with ⟨v, st₀, t, T', L, h0, X', hL, e1, e2, ⟨⟨r, u, hv, hp, hb⟩, hF⟩, st⟩ | ⟨q, st₀, t, T', L, E, ce, h0, X', hL, e1, e2, ⟨u, hp, hb, hF⟩, hce, hcv, hcl, st⟩
  · cases hv
    obtain ⟨k1, k2, k3⟩ := vx_keep h0 e1 hS hA hf hL hF
    obtain ⟨t2, a1, b1⟩ := kk r u t T'.heap (locs ++ L) e1.symm (by rw [← e2]; exact X'.warmed.alike) hp hb k1 k2 k3 T' rfl X'
    exact ⟨t2, st t2 a1, b1⟩
  · obtain ⟨k1, k2, k3⟩ := vx_keep h0 e1 hS hAX hf hL hF
    obtain ⟨t2, a1, b1⟩ := kx E ce q u t T'.heap (locs ++ L) e1.symm (by rw [← e2]; exact X'.warmed.alike) hp hb k1 k2 k3 (by rw [e1]; exact hce) hcv hcl T' rfl X'
    exact ⟨t2, st.trans a1, b1⟩
theorem vx_calld {S SX : Type} {post : UInt64 → S → Prop} {px : SX → Prop} {B : S → State → Prop} {BX : String → SX → State → Prop} {AX : Nat → Prop} (hr : vx_Run p l e R s m args below meth c H locs cells slots mc ms (F0 m pc ls st0) rest (va_Qd post B A1 a) (vx_X px BX AX) free) (hS : va_S A0 H0 H locs) (hA : ∀ q, q < H.size → A1 q → A0 q) (hf : ∀ q, free q → A0 q) (hAX : ∀ q, q < H.size → AX q → A0 q)
    (kx : ∀ (E : String) (ce : Cell) (q9 : Addr) (u : SX) (t : State) (H1 : Heap) (locs1 : List Loc), t.heap = H1 → s.vm.Alike t.vm → px u → BX E u t → H.size ≤ H1.size → (∀ q : Nat, q < H.size → ¬ AX q → H1[q]? = H[q]?) → va_S A0 H0 H1 locs1 → H1[q9]? = some ce → ce.vm = .none → s.vm.findClass E = some ce.cls → vx_W p l e R s m args below meth c H1 locs1 (cells + mc) (slots + ms) Q (F0 m pc ls rest) q9)
    (kk : ∀ (r : UInt64) (u : S) (t : State) (H1 : Heap) (locs1 : List Loc), t.heap = H1 → s.vm.Alike t.vm → post r u → B u t → H.size ≤ H1.size → (∀ q : Nat, q < H.size → ¬ A1 q → H1[q]? = H[q]?) → va_S A0 H0 H1 locs1 → W p l e R s m args below meth c H1 locs1 (cells + mc) (slots + ms) Q (F0 m (pc + 3) ls (.double r :: rest))) : W p l e R s m args below meth c H locs cells slots Q (F0 m pc ls st0) := by
  intro T hT X
  rcases hr T hT X with ⟨v, st₀, t, T', L, h0, X', hL, e1, e2, ⟨⟨r, u, hv, hp, hb⟩, hF⟩, st⟩ | ⟨q, st₀, t, T', L, E, ce, h0, X', hL, e1, e2, ⟨u, hp, hb, hF⟩, hce, hcv, hcl, st⟩
  · cases hv
    obtain ⟨k1, k2, k3⟩ := vx_keep h0 e1 hS hA hf hL hF
    obtain ⟨t2, a1, b1⟩ := kk r u t T'.heap (locs ++ L) e1.symm (by rw [← e2]; exact X'.warmed.alike) hp hb k1 k2 k3 T' rfl X'
    exact ⟨t2, st t2 a1, b1⟩
  · obtain ⟨k1, k2, k3⟩ := vx_keep h0 e1 hS hAX hf hL hF
    obtain ⟨t2, a1, b1⟩ := kx E ce q u t T'.heap (locs ++ L) e1.symm (by rw [← e2]; exact X'.warmed.alike) hp hb k1 k2 k3 (by rw [e1]; exact hce) hcv hcl T' rfl X'
    exact ⟨t2, st.trans a1, b1⟩
theorem vx_callv {S SX : Type} {post : S → Prop} {px : SX → Prop} {B : S → State → Prop} {BX : String → SX → State → Prop} {AX : Nat → Prop} (hr : vx_Run p l e R s m args below meth c H locs cells slots mc ms (F0 m pc ls st0) rest (va_Qv post B A1 a) (vx_X px BX AX) free) (hS : va_S A0 H0 H locs) (hA : ∀ q, q < H.size → A1 q → A0 q) (hf : ∀ q, free q → A0 q) (hAX : ∀ q, q < H.size → AX q → A0 q)
    (kx : ∀ (E : String) (ce : Cell) (q9 : Addr) (u : SX) (t : State) (H1 : Heap) (locs1 : List Loc), t.heap = H1 → s.vm.Alike t.vm → px u → BX E u t → H.size ≤ H1.size → (∀ q : Nat, q < H.size → ¬ AX q → H1[q]? = H[q]?) → va_S A0 H0 H1 locs1 → H1[q9]? = some ce → ce.vm = .none → s.vm.findClass E = some ce.cls → vx_W p l e R s m args below meth c H1 locs1 (cells + mc) (slots + ms) Q (F0 m pc ls rest) q9)
    (kk : ∀ (u : S) (t : State) (H1 : Heap) (locs1 : List Loc), t.heap = H1 → s.vm.Alike t.vm → post u → B u t → H.size ≤ H1.size → (∀ q : Nat, q < H.size → ¬ A1 q → H1[q]? = H[q]?) → va_S A0 H0 H1 locs1 → W p l e R s m args below meth c H1 locs1 (cells + mc) (slots + ms) Q (F0 m (pc + 3) ls (rest))) : W p l e R s m args below meth c H locs cells slots Q (F0 m pc ls st0) := by
  intro T hT X
  rcases hr T hT X with ⟨v, st₀, t, T', L, h0, X', hL, e1, e2, ⟨⟨u, hv, hp, hb⟩, hF⟩, st⟩ | ⟨q, st₀, t, T', L, E, ce, h0, X', hL, e1, e2, ⟨u, hp, hb, hF⟩, hce, hcv, hcl, st⟩
  · cases hv
    obtain ⟨k1, k2, k3⟩ := vx_keep h0 e1 hS hA hf hL hF
    obtain ⟨t2, a1, b1⟩ := kk u t T'.heap (locs ++ L) e1.symm (by rw [← e2]; exact X'.warmed.alike) hp hb k1 k2 k3 T' rfl X'
    exact ⟨t2, st t2 a1, b1⟩
  · obtain ⟨k1, k2, k3⟩ := vx_keep h0 e1 hS hAX hf hL hF
    obtain ⟨t2, a1, b1⟩ := kx E ce q u t T'.heap (locs ++ L) e1.symm (by rw [← e2]; exact X'.warmed.alike) hp hb k1 k2 k3 (by rw [e1]; exact hce) hcv hcl T' rfl X'
    exact ⟨t2, st.trans a1, b1⟩
/-- caught by the row x of this method's table; the rows ahead don't take it -/
theorem vx_catch {own name : String} {E : String} {ce : Cell} {q : Addr} (hown : s.vm.findClass own = some m.cls) (pre : List ExceptionTableEntry) (x : ExceptionTableEntry) (suf : List ExceptionTableEntry) (hsplit : c.exceptionTable.toList = pre ++ x :: suf)
    (hpass : ∀ z ∈ pre, covers z pc = false ∨ (z.catchType ≠ 0 ∧ ∃ nm : String, (Cond.classLink own z.catchType nm).before args s = true ∧ va_Nc E nm s)) (hx : covers x pc = true) (h0 : x.catchType ≠ 0)
    (hlink : (Cond.classLink own x.catchType name).before args s = true) (hcast : (Cond.castable E name).before args s = true) (hcell : H[q]? = some ce) (hv : ce.vm = .none) (hcl : s.vm.findClass E = some ce.cls)
    (kk : W p l e R s m args below meth c H locs cells slots Q (F0 m x.handlerPc ls [.ref q])) : vx_W p l e R s m args below meth c H locs cells slots Q (F0 m pc ls rest) q := by
  sorry
end Rows
section Ends
variable {p : Program} {l : Launch} {e : Env} {R : Room} {s : State} {m : MethodId} {args : Array Value} {below : List Frame} {meth : Method} {c : Code} {H : Heap} {locs : List Loc} {cells slots : Nat} {Q : State → Prop}
variable {mc ms : Nat} {free : Addr → Prop} {A0 A1 : Nat → Prop} {H0 : Heap} {a : Array Value} {ls : Array Slot} {st0 rest : List Value}
variable {Qc : Array Value → State → Outcome → State → Prop} {XC : String → State → State → Prop}
/-- what a body that may throw owes at its end -/
def vx_MQ (below : List Frame) (Qc : Array Value → State → Outcome → State → Prop) (XC : String → State → State → Prop) (a : Array Value) (s : State) (mc ms : Nat) (free : Addr → Prop) : State → Prop := fun t =>
  ∃ o, t.status = .running ∧ Ended t below o ∧ vx_Q Qc XC mc ms free a s o t
theorem vx_ret {g : JFrame} {mc ms : Nat} (k : W p l e R s m args below meth c H locs cells slots (MQ below Qc args s mc ms free) g) : W p l e R s m args below meth c H locs cells slots (vx_MQ below Qc XC args s mc ms free) g := by
  intro T hT X
  obtain ⟨t, a1, o, b1, b2, b3, b4⟩ := k T hT X
  exact ⟨t, a1, o, b1, b2, Or.inl ⟨b3, b4⟩⟩
/-- not caught here: it goes on to the caller -/
theorem vx_widen {g : JFrame} {q : Addr} {k n : Nat} (h1 : cells ≤ k) (h2 : slots ≤ n) (kk : vx_W p l e R s m args below meth c H locs k n Q g q) : vx_W p l e R s m args below meth c H locs cells slots Q g q := fun T hT X => kk T hT (stand_widen X h1 h2)
theorem vx_out {pc : Nat} {E : String} {ce : Cell} {q : Addr} {mc ms : Nat} (hout : ∀ x ∈ c.exceptionTable.toList, covers x pc = false) (hlocks : meth.locks = false) (hcell : H[q]? = some ce) (hv : ce.vm = .none) (hcl : s.vm.findClass E = some ce.cls)
    (hx : ∀ t : State, t.heap = H → s.vm.Alike t.vm → XC E s t) (hf : ∀ z ∈ locs, free z.base) (hc : cells ≤ mc) (hs : slots ≤ ms) :
    vx_W p l e R s m args below meth c H locs cells slots (vx_MQ below Qc XC args s mc ms free) (F0 m pc ls rest) q := by
  intro T hT X
  obtain ⟨st1, hrun, hend, hW, hsm⟩ := X.leaveThrown q (g := F0 m pc ls rest) rfl rfl rfl hout hlocks
  have hcell9 : (T.setFrames (.throwing q :: below)).heap[q]? = some ce := by
    show T.heap[q]? = some ce
    rw [hT]; exact hcell
  exact ⟨_, st1, .threw q, hrun, hend, Or.inr ⟨q, rfl, E, ce, locs, hx _ hT hW.alike, hcell9, hv, hcl, hW, hsm.mono hc hs, hf⟩⟩
theorem vx_frame {U : State} {k n : Nat} (h : s.sameButNew ({ U with vm := s.vm } : State) locs k n) : s.heap.size ≤ U.heap.size ∧ ∀ q : Nat, q < s.heap.size → (∀ z ∈ locs, z.base ≠ q) → U.heap[q]? = s.heap[q]? := by
  obtain ⟨-, h2, -, -, -, h6⟩ := h
  refine ⟨h2, fun q hq hz => ?_⟩
  obtain ⟨c9, e1, e2, e3, e4⟩ := h6 q _ (Array.getElem?_eq_getElem hq)
  have hs : c9.slots = (s.heap[q]).slots := Array.ext_getElem? fun i => e4 i fun hm => hz _ hm rfl
  have h9 : c9 = s.heap[q] := by
    rw [hs] at e2
    exact e2
  have e5 : U.heap[q]? = some c9 := e1
  rw [e5, h9, Array.getElem?_eq_getElem hq]
/-- the words of a throw but the four that speak of the heap -/
def vx_no (w : Cond) : Bool := decide (w ≠ .isRef (.static Bundle.tN "UNASSIGNED_STACK" Bundle.steD)) && decide (w ≠ .isRef (.static Bundle.tN "SUPPRESSED_SENTINEL" Bundle.listD)) && decide (w ≠ .laysStatic Bundle.tN "UNASSIGNED_STACK" Bundle.steD) && decide (w ≠ .laysStatic Bundle.tN "SUPPRESSED_SENTINEL" Bundle.listD)
def vx_at0 (own : String) (ic : Nat) (X : String) (names : List String) : List Cond := (Bundle.ownAtoms0 own ic X names).filter vx_no
def vx_atS (own : String) (ic : Nat) (X : String) (names : List String) : List Cond := (Bundle.ownAtoms own ic X names).filter vx_no
/-- a word that the tables alone decide, or a good one -/
def vx_ot (w : Cond) : Bool := w.onTables || goodWord w
theorem vx_ot_at {args a' : Array Value} {s U : State} {w : Cond} (hW : s.WarmedH U.vm) (hvm : s.vm = U.vm) (hg : vx_ot w = true) (h : w.before args s = true) : w.before a' U = true := by
  simp only [vx_ot, Bool.or_eq_true] at hg
  rcases hg with hg | hg
  · exact va_tabs hg hvm h
  · exact word_at hW (good_of_word hg) h
/-- a list's words: the good ones out of the method's own list, the others by premises of their own -/
theorem vx_hat {args : Array Value} {s : State} {L B : List Cond} (h1 : ∀ w ∈ L.filter goodWord, w.before args s = true) (h2 : ∀ w ∈ L.filter (fun w => !goodWord w), w ∈ B) (h3 : ∀ w ∈ B, w.before args s = true) : ∀ w ∈ L, w.before args s = true := by
  intro w hw
  by_cases g : goodWord w = true
  · exact h1 w (List.mem_filter.mpr ⟨hw, g⟩)
  · refine h3 w (h2 w (List.mem_filter.mpr ⟨hw, ?_⟩))
    show (!goodWord w) = true
    cases hgw : goodWord w
    · rfl
    · exact absurd hgw g
theorem vx_c {args : Array Value} {s : State} {w : Cond} {B : List Cond} (h : w.before args s = true) (t : ∀ w ∈ B, w.before args s = true) : ∀ w' ∈ w :: B, w'.before args s = true := fun w' h' => (List.mem_cons.mp h').elim (fun e => by rw [e]; exact h) (t w')
theorem vx_n {args : Array Value} {s : State} : ∀ w ∈ ([] : List Cond), w.before args s = true := fun _ h => nomatch h
theorem vx_own {args : Array Value} {s : State} {L : List Cond} (h1 : ∀ w ∈ L.filter vx_no, w.before args s = true)
    (hU : (Cond.isRef (.static Bundle.tN "UNASSIGNED_STACK" Bundle.steD)).before args s = true) (hN : (Cond.isRef (.static Bundle.tN "SUPPRESSED_SENTINEL" Bundle.listD)).before args s = true)
    (lU : (Cond.laysStatic Bundle.tN "UNASSIGNED_STACK" Bundle.steD).before args s = true) (lN : (Cond.laysStatic Bundle.tN "SUPPRESSED_SENTINEL" Bundle.listD).before args s = true) : ∀ w ∈ L, w.before args s = true := by
  intro w hw
  by_cases e1 : w = .isRef (.static Bundle.tN "UNASSIGNED_STACK" Bundle.steD)
  · rw [e1]; exact hU
  · by_cases e2 : w = .isRef (.static Bundle.tN "SUPPRESSED_SENTINEL" Bundle.listD)
    · rw [e2]; exact hN
    · by_cases e3 : w = .laysStatic Bundle.tN "UNASSIGNED_STACK" Bundle.steD
      · rw [e3]; exact lU
      · by_cases e4 : w = .laysStatic Bundle.tN "SUPPRESSED_SENTINEL" Bundle.listD
        · rw [e4]; exact lN
        · exact h1 w (List.mem_filter.mpr ⟨hw, by unfold vx_no; rw [decide_eq_true e1, decide_eq_true e2, decide_eq_true e3, decide_eq_true e4]; rfl⟩)
/-- where a static field lies, its class's statics cell in H -/
def vx_L (C n d : String) (A : Nat → Prop) (U : State) (H : Heap) : Prop := ∃ (c : ClassId) (k : Class) (i : Nat) (f : Field) (a : Nat) (cell : Cell), U.vm.findClass C = some c ∧ U.fieldFound? C n d = some (c, k, i, f) ∧ f.isStatic = true ∧ k.statics = some a ∧ H[a]? = some cell ∧ cell.vm.isStatics = true ∧ cell.cls = c ∧ f.slot < cell.slots.size ∧ k.staticTypes[f.slot]? = some f.type ∧ ¬ A a
theorem vx_L.moved {C n d : String} {A : Nat → Prop} {u U : State} {H : Heap} (hvm : u.vm.Alike U.vm) (h : vx_L C n d A u H) : vx_L C n d A U H := by
  obtain ⟨c, k, i, f, a, cell, h1, h2, h3, h4, h5, h6, h7, h8, h9, h10⟩ := h
  obtain ⟨k', hi', he⟩ := State.fieldFound?_setVm hvm h2
  exact ⟨c, k', i, f, a, cell, by rw [hvm.findClass]; exact h1, hi', h3, by rw [he]; exact h4, h5, h6, h7, h8, by rw [he]; exact h9, h10⟩
theorem vx_L.kept {C n d : String} {A : Nat → Prop} {U : State} {H H1 : Heap} (h : vx_L C n d A U H) (hq : ∀ a : Nat, a < H.size → ¬ A a → H1[a]? = H[a]?) : vx_L C n d A U H1 := by
  obtain ⟨c, k, i, f, a, cell, h1, h2, h3, h4, h5, h6, h7, h8, h9, h10⟩ := h
  exact ⟨c, k, i, f, a, cell, h1, h2, h3, h4, by rw [hq a (Array.getElem?_eq_some_iff.mp h5).1 h10]; exact h5, h6, h7, h8, h9, h10⟩
theorem vx_L.narrow {C n d : String} {A B : Nat → Prop} {U : State} {H : Heap} (h : vx_L C n d A U H) (hAB : ∀ q, B q → A q) : vx_L C n d B U H := by
  obtain ⟨c, k, i, f, a, cell, h1, h2, h3, h4, h5, h6, h7, h8, h9, h10⟩ := h
  exact ⟨c, k, i, f, a, cell, h1, h2, h3, h4, h5, h6, h7, h8, h9, fun z => h10 (hAB _ z)⟩
theorem vx_L.word {C n d : String} {A : Nat → Prop} {s : State} {args : Array Value} (h : vx_L C n d A s s.heap) : (Cond.laysStatic C n d).before args s = true := by
  obtain ⟨c, k, i, f, a, cell, h1, h2, h3, h4, h5, h6, h7, h8, h9, -⟩ := h
  show (Cond.laysStatic C n d).holds args s none s [] = true
  exact Cond.laysStatic_of h1 h2 h3 h4 h5 h6 h7 h8 h9
/-- .. and what it holds: null or some reference -/
def vx_Zq (C n d : String) (A : Nat → Prop) (U : State) (H : Heap) : Prop := va_Zq C n d A U H ∧ vx_L C n d A U H
theorem vx_Zq.moved {C n d : String} {A : Nat → Prop} {u U : State} {H : Heap} (hvm : u.vm.Alike U.vm) (h : vx_Zq C n d A u H) : vx_Zq C n d A U H := ⟨va_Zq.moved hvm h.1, vx_L.moved hvm h.2⟩
theorem vx_Zq.kept {C n d : String} {A : Nat → Prop} {U : State} {H H1 : Heap} (h : vx_Zq C n d A U H) (hq : ∀ a : Nat, a < H.size → ¬ A a → H1[a]? = H[a]?) : vx_Zq C n d A U H1 := ⟨va_Zq.kept h.1 hq, vx_L.kept h.2 hq⟩
theorem vx_Zq.narrow {C n d : String} {A B : Nat → Prop} {U : State} {H : Heap} (h : vx_Zq C n d A U H) (hAB : ∀ q, B q → A q) : vx_Zq C n d B U H := ⟨va_Zq.narrow h.1 hAB, vx_L.narrow h.2 hAB⟩
theorem vx_Zqof {args : Array Value} {s : State} {C n d : String} {A : Nat → Prop} (hl : (Cond.laysStatic C n d).before args s = true) (hini : (Cond.initialized C).before args s = true) (h : (Cond.isRef (.static C n d)).before args s = true) (hA : ∀ a : Nat, a < s.heap.size → ¬ A a) : vx_Zq C n d A s s.heap := by
  refine ⟨va_Zqof hl hini h hA, ?_⟩
  obtain ⟨c, k, i, f, a, cell, h1, h2, h3, h4, h5, h6, h7, h8, h9⟩ := Cond.laysStatic_spec hl
  exact ⟨c, k, i, f, a, cell, h1, h2, h3, h4, h5, h6, h7, h8, h9, hA a (Array.getElem?_eq_some_iff.mp h5).1⟩
theorem vx_isRef {C n d : String} {v : Value} {A : Nat → Prop} {s : State} {args : Array Value} (h : va_Z C n d v A s s.heap) (hv : v.isRef = true) : (Cond.isRef (.static C n d)).before args s = true := by
  obtain ⟨cf, kf, fi, f, a, cell, h1, h2, h3, h4, h5, h6, h7, -⟩ := h
  have he : (Term.static C n d).eval args s none [] s = some v := by
    simp [Term.eval, State.fieldNamed?, h1, h2, h4, h5, h6, h7]
  simp only [Cond.before, Cond.holds, Cond.value, he]
  cases v <;> simp_all [Value.isRef]
theorem vx_isRefq {C n d : String} {A : Nat → Prop} {s : State} {args : Array Value} (h : va_Zq C n d A s s.heap) : (Cond.isRef (.static C n d)).before args s = true := by
  rcases h with h | ⟨t, h⟩
  · exact vx_isRef h rfl
  · exact vx_isRef h rfl
/-- the same frame, seen from here: as if the method were called anew in this heap -/
theorem vx_rebase {T : State} (X : Stand p l e R s m args below meth c T locs cells slots) {R' : Room} (hf : R'.frames ≤ R.frames) (hl : R'.locals ≤ R.locals) (hc : cells + R'.cells ≤ R.cells) (hs : slots + R'.slots ≤ R.slots) :
    Stand p l e R' ((T.setVm s.vm).setFrames (.invoking m args :: below)) m args below meth c T [] 0 0 := by
  have htop : (T.setVm s.vm).topJava?.isSome := X.here.top
  have hF : ((T.setVm s.vm).setFrames (.invoking m args :: below)).frames = .invoking m args :: below := State.frames_setFrames _ (State.cur_lt_of_top htop)
  obtain ⟨g₀, hg0⟩ := Option.isSome_iff_exists.mp htop
  obtain ⟨r, hr⟩ := State.topJava?_eq_some.mp hg0
  have hl9 : e.platform.stackLimits (T.setVm s.vm).me = e.platform.stackLimits s.me := X.limits
  have hb9 : (T.setVm s.vm).me.stackBytes = s.me.stackBytes := X.bytes
  refine ⟨X.admits, X.cas, X.clock, hF, ?_, X.hears, X.method, X.code, X.here, X.tail, X.warmed, ?_, ?_, ?_⟩
  · have h := X.room
    have hU : ((T.setVm s.vm).setFrames (.invoking m args :: below)).localsInUse = s.localsInUse := by
      rw [State.localsInUse_invoking hF (meth := meth) (c := c) X.method X.code, State.localsInUse_invoking X.frames X.method X.code]
    simp only [State.hasRoom, Bool.and_eq_true, decide_eq_true_eq] at h ⊢
    obtain ⟨⟨⟨⟨h1, h2, h3, h4, h5, h6⟩, h7⟩, h8⟩, h9⟩ := h
    rw [X.frames, List.length_cons] at h2 h3
    have q1 := X.heapSize
    have q2 := X.used
    simp only [hF, hU, List.length_cons, State.stackLimits_setFrames, State.stackBytes_setFrames, hl9, hb9]
    refine ⟨⟨⟨⟨by omega, by omega, by omega, by omega, by omega, h6⟩, ?_⟩, ?_⟩, X.book⟩
    · show T.heap.size + R'.cells ≤ e.platform.maxCells
      omega
    · show T.slotsUsed + R'.slots ≤ e.platform.maxSlots
      omega
  · rw [State.stackLimits_setFrames]; rfl
  · rw [State.stackBytes_setFrames]; rfl
  · refine ⟨?_, Nat.le_refl _, Nat.le_refl _, ?_, ?_, fun a c9 h9 => ⟨c9, h9, rfl, rfl, fun _ _ => rfl⟩⟩
    · obtain ⟨t, ht, -⟩ := State.frames_cons hr
      show T.setVm s.vm = { ((T.setVm s.vm).setFrames (.invoking m args :: below)).setFrames (T.setVm s.vm).frames with heap := T.heap, slotsUsed := T.slotsUsed }
      rw [State.setFrames_setFrames, State.setFrames_self ht]
      rfl
    · show T.slotsUsed = T.slotsUsed + ((T.heap.toList.drop T.heap.size).map (·.slots.size)).sum
      rw [List.drop_eq_nil_of_le (Nat.le_of_eq Array.length_toList)]
      rfl
    · show ((T.heap.toList.drop T.heap.size).map (·.slots.size)).sum ≤ 0
      rw [List.drop_eq_nil_of_le (Nat.le_of_eq Array.length_toList)]
      exact Nat.le_refl _
/-- 'throw new E()': new; dup; invokespecial; athrow -/
theorem vx_throw0 {cc : ByteArray} {pc : Nat} (hexec : p.tables.exec = Jvm.exec) (hb : c.code = cc) (hl : l.stackTraces = false) {own cls : String} {names : List String} {ik ic mc ms : Nat} {A : Nat → Prop}
    (hown : s.vm.findClass own = some m.cls) (hcls : Bundle.fit cls = true) (hnames : ∀ n ∈ names, Bundle.fit n = true)
    (hk : (Cond.classLink own ik cls).before args s = true) (hini : (Cond.initialized cls).before args s = true) (hat : ∀ w ∈ vx_at0 own ic cls names, w.before args s = true)
    (hgood : ∀ w ∈ Cond.classLink own ik cls :: Cond.initialized cls :: vx_at0 own ic cls names, vx_ot w = true)
    (hU : vx_Zq Bundle.tN "UNASSIGNED_STACK" Bundle.steD A s s.heap) (hN : vx_Zq Bundle.tN "SUPPRESSED_SENTINEL" Bundle.listD A s s.heap) (hS : va_S A s.heap H locs) (hsize : ls.size = c.maxLocals)
    (d0 : decode cc pc = .ok (.new ik, 3)) (d3 : decode cc (pc + 3) = .ok (.dup, 1)) (d4 : decode cc (pc + 4) = .ok (.invokespecial ic, 3)) (d7 : decode cc (pc + 7) = .ok (.athrow, 1))
    (hout : ∀ x ∈ c.exceptionTable.toList, covers x (pc + 7) = false)
    (hRframes : names.length + 3 < R.frames) (hRlocals : (rest.map fun v => v.category).sum + (13 * (names.length + 1) + 42) ≤ R.locals) (hRcells : cells + 1 ≤ R.cells) (hRslots : slots + 6 ≤ R.slots) (hlocks : meth.locks = false)
    (hx : ∀ t : State, s.vm.Alike t.vm → H.size ≤ t.heap.size → (∀ q : Nat, q < H.size → t.heap[q]? = H[q]?) → XC cls s t)
    (hf : ∀ z ∈ locs, free z.base) (hc : cells + 1 ≤ mc) (hs : slots + 6 ≤ ms) :
    W p l e R s m args below meth c H locs cells slots (vx_MQ below Qc XC args s mc ms free) (F0 m pc ls rest) := by
  intro T hT X
  have htr : e.platform.stackTraces = false := (show e.platform.stackTraces = l.stackTraces by rw [X.admits.platform]).trans hl
  have Y := vx_rebase X (R' := { frames := R.frames, locals := R.locals, cells := 1, slots := 6 }) (Nat.le_refl _) (Nat.le_refl _) hRcells hRslots
  obtain ⟨s', hA⟩ : ∃ z, z = (T.setVm s.vm).setFrames (.invoking m args :: below) := ⟨_, rfl⟩
  rw [← hA] at Y
  have hvm : s'.vm = s.vm := by rw [hA]; rfl
  have hhp : s'.heap = H := by rw [hA]; exact hT
  have hW0 : s.WarmedH s'.vm := by rw [hvm]; exact State.WarmedH.refl s
  have hat' : ∀ w ∈ vx_at0 own ic cls names, w.before args s' = true := fun w hw => vx_ot_at hW0 hvm.symm (hgood w (List.mem_cons_of_mem _ (List.mem_cons_of_mem _ hw))) (hat w hw)
  have hk' : (Cond.classLink own ik cls).before args s' = true := vx_ot_at hW0 hvm.symm (hgood _ List.mem_cons_self) hk
  have hini' : (Cond.initialized cls).before args s' = true := vx_ot_at hW0 hvm.symm (hgood _ (List.mem_cons_of_mem _ List.mem_cons_self)) hini
  have hU' : vx_Zq Bundle.tN "UNASSIGNED_STACK" Bundle.steD A s' s'.heap := by rw [hhp]; exact vx_Zq.moved hW0.alike (hU.kept hS.2.1)
  have hN' : vx_Zq Bundle.tN "SUPPRESSED_SENTINEL" Bundle.listD A s' s'.heap := by rw [hhp]; exact vx_Zq.moved hW0.alike (hN.kept hS.2.1)
  have h : ∀ w ∈ Bundle.ownAtoms0 own ic cls names, w.before args s' = true := vx_own hat' (vx_isRefq hU'.1) (vx_isRefq hN'.1) hU'.2.word hN'.2.word
  have hown' : s'.vm.findClass own = some m.cls := by rw [hvm]; exact hown
  have hins : (Cond.instantiable cls 6).before args s' = true := h _ (by simp [Bundle.ownAtoms0])
  obtain ⟨vm₁, cX, kX, hfX, hkX, -, -, X₁, st1⟩ := Y.newCold hexec (own := own) (C := cls) (index := ik) (n := 6) hown' hk' hins hini'
    (g := F0 m pc ls rest) rfl (by rw [hb]; exact d0) (Nat.le_refl _) (Nat.le_refl _)
  generalize hT1 : (T.setVm vm₁).pushCell { cls := cX, slots := kX.instanceTypes.map defaultValue, vm := .none } = T1 at X₁ st1
  have hcat : (Value.ref T.heap.size).category = 1 := rfl
  have hcellA : T1.heap[T.heap.size]? = some (freshCell cX kX) := by rw [← hT1]; exact State.heap_pushCell_size _ _
  have d3' : decode c.code (pc + 3) = .ok (.dup, 1) := by rw [hb]; exact d3
  obtain ⟨U, hsteps, hrun, hend, hW, hsame, ce, hce, hO⟩ := X₁.ctorThrow0 hexec htr (own := own) (cls := cls) (names := names) (ic := ic) hown' hcls hnames h (fun x hx => nomatch hx) hfX hkX hcellA (by rw [hhp, hT]; exact Nat.le_refl _)
    (g := { method := m, pc := pc + 4, locals := ls, stack := .ref T.heap.size :: .ref T.heap.size :: rest, locked := none }) rfl hsize rfl rfl (rest := rest) rfl
    (by rw [hb]; exact d4) (by rw [hb]; exact d7) hout hRframes (by simp only [List.map_cons, List.sum_cons, hcat]; omega) hlocks
  obtain ⟨f1, f2⟩ := vx_frame hsame
  rw [hhp] at f1 f2
  have hWs : s.WarmedH U.vm := State.WarmedH.trans hW0 hW
  have hcl : s.vm.findClass cls = some ce.cls := by
    have h9 := hO.cls
    rw [hvm] at h9
    exact h9
  have hall : s.sameButNew ({ U with vm := s.vm } : State) locs mc ms := by
    subst hA
    obtain ⟨e1, e2⟩ := hsame
    rw [State.setFrames_setFrames] at e1
    have h2 : (T.setVm s.vm).sameButNew ({ U with vm := s.vm } : State) [] (0 + 1) (0 + 6) := ⟨e1, e2⟩
    have h3 := X.same.trans h2
    rw [List.append_nil] at h3
    exact h3.mono hc hs
  refine ⟨U, ?_, .threw T.heap.size, hrun, hend, Or.inr ⟨T.heap.size, rfl, cls, ce, locs, hx U hWs.alike f1 (fun q hq => f2 q hq (fun z hz => nomatch hz)), hce, hO.vm, hcl, hWs, hall, hf⟩⟩
  refine st1 _ ?_
  show Steps p.tables e below (T1.setTop { method := m, pc := pc + 3, locals := ls, stack := .ref T.heap.size :: rest, locked := none }) _
  jvm_step X₁.here [X₁.here.top, hexec, d3', Value.category]
  exact hsteps
/-- 'throw new E("text")': new; dup; ldc; invokespecial; athrow -/
theorem vx_throwS {cc : ByteArray} {pc : Nat} (hexec : p.tables.exec = Jvm.exec) (hb : c.code = cc) (hl : l.stackTraces = false) {own cls text : String} {names : List String} {ik is ic mc ms sa : Nat} {A : Nat → Prop}
    (hown : s.vm.findClass own = some m.cls) (hcls : Bundle.fit cls = true) (hnames : ∀ n ∈ names, Bundle.fit n = true)
    (hk : (Cond.classLink own ik cls).before args s = true) (hini : (Cond.initialized cls).before args s = true) (hstr : vk_R own is text sa s) (hat : ∀ w ∈ vx_atS own ic cls names, w.before args s = true)
    (hgood : ∀ w ∈ Cond.classLink own ik cls :: Cond.initialized cls :: vx_atS own ic cls names, vx_ot w = true)
    (hU : vx_Zq Bundle.tN "UNASSIGNED_STACK" Bundle.steD A s s.heap) (hN : vx_Zq Bundle.tN "SUPPRESSED_SENTINEL" Bundle.listD A s s.heap) (hS : va_S A s.heap H locs) (hsize : ls.size = c.maxLocals)
    (d0 : decode cc pc = .ok (.new ik, 3)) (d3 : decode cc (pc + 3) = .ok (.dup, 1)) (d4 : decode cc (pc + 4) = .ok (.ldc is, 2)) (d6 : decode cc (pc + 6) = .ok (.invokespecial ic, 3)) (d9 : decode cc (pc + 9) = .ok (.athrow, 1))
    (hout : ∀ x ∈ c.exceptionTable.toList, covers x (pc + 9) = false)
    (hRframes : names.length + 3 < R.frames) (hRlocals : (rest.map fun v => v.category).sum + (13 * (names.length + 1) + 43) ≤ R.locals) (hRcells : cells + 1 ≤ R.cells) (hRslots : slots + 6 ≤ R.slots) (hlocks : meth.locks = false)
    (hx : ∀ t : State, s.vm.Alike t.vm → H.size ≤ t.heap.size → (∀ q : Nat, q < H.size → t.heap[q]? = H[q]?) → XC cls s t)
    (hf : ∀ z ∈ locs, free z.base) (hc : cells + 1 ≤ mc) (hs : slots + 6 ≤ ms) :
    W p l e R s m args below meth c H locs cells slots (vx_MQ below Qc XC args s mc ms free) (F0 m pc ls rest) := by
  intro T hT X
  have htr : e.platform.stackTraces = false := (show e.platform.stackTraces = l.stackTraces by rw [X.admits.platform]).trans hl
  have Y := vx_rebase X (R' := { frames := R.frames, locals := R.locals, cells := 1, slots := 6 }) (Nat.le_refl _) (Nat.le_refl _) hRcells hRslots
  obtain ⟨s', hA⟩ : ∃ z, z = (T.setVm s.vm).setFrames (.invoking m args :: below) := ⟨_, rfl⟩
  rw [← hA] at Y
  have hvm : s'.vm = s.vm := by rw [hA]; rfl
  have hhp : s'.heap = H := by rw [hA]; exact hT
  have hW0 : s.WarmedH s'.vm := by rw [hvm]; exact State.WarmedH.refl s
  have hat' : ∀ w ∈ vx_atS own ic cls names, w.before args s' = true := fun w hw => vx_ot_at hW0 hvm.symm (hgood w (List.mem_cons_of_mem _ (List.mem_cons_of_mem _ hw))) (hat w hw)
  have hk' : (Cond.classLink own ik cls).before args s' = true := vx_ot_at hW0 hvm.symm (hgood _ List.mem_cons_self) hk
  have hini' : (Cond.initialized cls).before args s' = true := vx_ot_at hW0 hvm.symm (hgood _ (List.mem_cons_of_mem _ List.mem_cons_self)) hini
  have hU' : vx_Zq Bundle.tN "UNASSIGNED_STACK" Bundle.steD A s' s'.heap := by rw [hhp]; exact vx_Zq.moved hW0.alike (hU.kept hS.2.1)
  have hN' : vx_Zq Bundle.tN "SUPPRESSED_SENTINEL" Bundle.listD A s' s'.heap := by rw [hhp]; exact vx_Zq.moved hW0.alike (hN.kept hS.2.1)
  have h : ∀ w ∈ Bundle.ownAtoms own ic cls names, w.before args s' = true := vx_own hat' (vx_isRefq hU'.1) (vx_isRefq hN'.1) hU'.2.word hN'.2.word
  have hown' : s'.vm.findClass own = some m.cls := by rw [hvm]; exact hown
  have hins : (Cond.instantiable cls 6).before args s' = true := h _ (by simp [Bundle.ownAtoms])
  obtain ⟨vm₁, cX, kX, hfX, hkX, -, -, X₁, st1⟩ := Y.newCold hexec (own := own) (C := cls) (index := ik) (n := 6) hown' hk' hins hini'
    (g := F0 m pc ls rest) rfl (by rw [hb]; exact d0) (Nat.le_refl _) (Nat.le_refl _)
  generalize hT1 : (T.setVm vm₁).pushCell { cls := cX, slots := kX.instanceTypes.map defaultValue, vm := .none } = T1 at X₁ st1
  have hcat : (Value.ref T.heap.size).category = 1 := rfl
  have hcellA : T1.heap[T.heap.size]? = some (freshCell cX kX) := by rw [← hT1]; exact State.heap_pushCell_size _ _
  have d3' : decode c.code (pc + 3) = .ok (.dup, 1) := by rw [hb]; exact d3
  have d4' : decode c.code (pc + 4) = .ok (.ldc is, 2) := by rw [hb]; exact d4
  have hstr' : vk_R own is text sa s' := vk_R.warm hW0 hstr
  obtain ⟨U, hsteps, hrun, hend, hW, hsame, ce, hce, hO⟩ := X₁.ctorThrowS hexec htr (own := own) (cls := cls) (names := names) (ic := ic) hown' hcls hnames h (fun x hx => nomatch hx) hfX hkX hcellA (by rw [hhp, hT]; exact Nat.le_refl _) (msg := .ref sa) rfl
    (g := { method := m, pc := pc + 6, locals := ls, stack := .ref sa :: .ref T.heap.size :: .ref T.heap.size :: rest, locked := none }) rfl hsize rfl rfl (rest := rest) rfl
    (by rw [hb]; exact d6) (by rw [hb]; exact d9) hout hRframes (by simp only [List.map_cons, List.sum_cons, hcat]; omega) hlocks
  obtain ⟨f1, f2⟩ := vx_frame hsame
  rw [hhp] at f1 f2
  have hWs : s.WarmedH U.vm := State.WarmedH.trans hW0 hW
  have hcl : s.vm.findClass cls = some ce.cls := by
    have h9 := hO.cls
    rw [hvm] at h9
    exact h9
  have hall : s.sameButNew ({ U with vm := s.vm } : State) locs mc ms := by
    subst hA
    obtain ⟨e1, e2⟩ := hsame
    rw [State.setFrames_setFrames] at e1
    have h2 : (T.setVm s.vm).sameButNew ({ U with vm := s.vm } : State) [] (0 + 1) (0 + 6) := ⟨e1, e2⟩
    have h3 := X.same.trans h2
    rw [List.append_nil] at h3
    exact h3.mono hc hs
  refine ⟨U, ?_, .threw T.heap.size, hrun, hend, Or.inr ⟨T.heap.size, rfl, cls, ce, locs, hx U hWs.alike f1 (fun q hq => f2 q hq (fun z hz => nomatch hz)), hce, hO.vm, hcl, hWs, hall, hf⟩⟩
  refine st1 _ ?_
  show Steps p.tables e below (T1.setTop { method := m, pc := pc + 3, locals := ls, stack := .ref T.heap.size :: rest, locked := none }) _
  jvm_step X₁.here [X₁.here.top, hexec, d3', Value.category]
  exact X₁.ldcString hexec (own := own) (text := text) (index := is) (a := sa) hown' hstr'.1 hstr'.2
    (g := { method := m, pc := pc + 4, locals := ls, stack := .ref T.heap.size :: .ref T.heap.size :: rest, locked := none }) rfl d4' _ hsteps
/-- 'throw new E("text")', the text by a wide index -/
theorem vx_throwSW {cc : ByteArray} {pc : Nat} (hexec : p.tables.exec = Jvm.exec) (hb : c.code = cc) (hl : l.stackTraces = false) {own cls text : String} {names : List String} {ik is ic mc ms sa : Nat} {A : Nat → Prop}
    (hown : s.vm.findClass own = some m.cls) (hcls : Bundle.fit cls = true) (hnames : ∀ n ∈ names, Bundle.fit n = true)
    (hk : (Cond.classLink own ik cls).before args s = true) (hini : (Cond.initialized cls).before args s = true) (hstr : vk_R own is text sa s) (hat : ∀ w ∈ vx_atS own ic cls names, w.before args s = true)
    (hgood : ∀ w ∈ Cond.classLink own ik cls :: Cond.initialized cls :: vx_atS own ic cls names, vx_ot w = true)
    (hU : vx_Zq Bundle.tN "UNASSIGNED_STACK" Bundle.steD A s s.heap) (hN : vx_Zq Bundle.tN "SUPPRESSED_SENTINEL" Bundle.listD A s s.heap) (hS : va_S A s.heap H locs) (hsize : ls.size = c.maxLocals)
    (d0 : decode cc pc = .ok (.new ik, 3)) (d3 : decode cc (pc + 3) = .ok (.dup, 1)) (d4 : decode cc (pc + 4) = .ok (.ldc_w is, 3)) (d7 : decode cc (pc + 7) = .ok (.invokespecial ic, 3)) (d10 : decode cc (pc + 10) = .ok (.athrow, 1))
    (hout : ∀ x ∈ c.exceptionTable.toList, covers x (pc + 10) = false)
    (hRframes : names.length + 3 < R.frames) (hRlocals : (rest.map fun v => v.category).sum + (13 * (names.length + 1) + 43) ≤ R.locals) (hRcells : cells + 1 ≤ R.cells) (hRslots : slots + 6 ≤ R.slots) (hlocks : meth.locks = false)
    (hx : ∀ t : State, s.vm.Alike t.vm → H.size ≤ t.heap.size → (∀ q : Nat, q < H.size → t.heap[q]? = H[q]?) → XC cls s t)
    (hf : ∀ z ∈ locs, free z.base) (hc : cells + 1 ≤ mc) (hs : slots + 6 ≤ ms) :
    W p l e R s m args below meth c H locs cells slots (vx_MQ below Qc XC args s mc ms free) (F0 m pc ls rest) := by
  intro T hT X
  have htr : e.platform.stackTraces = false := (show e.platform.stackTraces = l.stackTraces by rw [X.admits.platform]).trans hl
  have Y := vx_rebase X (R' := { frames := R.frames, locals := R.locals, cells := 1, slots := 6 }) (Nat.le_refl _) (Nat.le_refl _) hRcells hRslots
  obtain ⟨s', hA⟩ : ∃ z, z = (T.setVm s.vm).setFrames (.invoking m args :: below) := ⟨_, rfl⟩
  rw [← hA] at Y
  have hvm : s'.vm = s.vm := by rw [hA]; rfl
  have hhp : s'.heap = H := by rw [hA]; exact hT
  have hW0 : s.WarmedH s'.vm := by rw [hvm]; exact State.WarmedH.refl s
  have hat' : ∀ w ∈ vx_atS own ic cls names, w.before args s' = true := fun w hw => vx_ot_at hW0 hvm.symm (hgood w (List.mem_cons_of_mem _ (List.mem_cons_of_mem _ hw))) (hat w hw)
  have hk' : (Cond.classLink own ik cls).before args s' = true := vx_ot_at hW0 hvm.symm (hgood _ List.mem_cons_self) hk
  have hini' : (Cond.initialized cls).before args s' = true := vx_ot_at hW0 hvm.symm (hgood _ (List.mem_cons_of_mem _ List.mem_cons_self)) hini
  have hU' : vx_Zq Bundle.tN "UNASSIGNED_STACK" Bundle.steD A s' s'.heap := by rw [hhp]; exact vx_Zq.moved hW0.alike (hU.kept hS.2.1)
  have hN' : vx_Zq Bundle.tN "SUPPRESSED_SENTINEL" Bundle.listD A s' s'.heap := by rw [hhp]; exact vx_Zq.moved hW0.alike (hN.kept hS.2.1)
  have h : ∀ w ∈ Bundle.ownAtoms own ic cls names, w.before args s' = true := vx_own hat' (vx_isRefq hU'.1) (vx_isRefq hN'.1) hU'.2.word hN'.2.word
  have hown' : s'.vm.findClass own = some m.cls := by rw [hvm]; exact hown
  have hins : (Cond.instantiable cls 6).before args s' = true := h _ (by simp [Bundle.ownAtoms])
  obtain ⟨vm₁, cX, kX, hfX, hkX, -, -, X₁, st1⟩ := Y.newCold hexec (own := own) (C := cls) (index := ik) (n := 6) hown' hk' hins hini'
    (g := F0 m pc ls rest) rfl (by rw [hb]; exact d0) (Nat.le_refl _) (Nat.le_refl _)
  generalize hT1 : (T.setVm vm₁).pushCell { cls := cX, slots := kX.instanceTypes.map defaultValue, vm := .none } = T1 at X₁ st1
  have hcat : (Value.ref T.heap.size).category = 1 := rfl
  have hcellA : T1.heap[T.heap.size]? = some (freshCell cX kX) := by rw [← hT1]; exact State.heap_pushCell_size _ _
  have d3' : decode c.code (pc + 3) = .ok (.dup, 1) := by rw [hb]; exact d3
  have d4' : decode c.code (pc + 4) = .ok (.ldc_w is, 3) := by rw [hb]; exact d4
  have hstr' : vk_R own is text sa s' := vk_R.warm hW0 hstr
  obtain ⟨U, hsteps, hrun, hend, hW, hsame, ce, hce, hO⟩ := X₁.ctorThrowS hexec htr (own := own) (cls := cls) (names := names) (ic := ic) hown' hcls hnames h (fun x hx => nomatch hx) hfX hkX hcellA (by rw [hhp, hT]; exact Nat.le_refl _) (msg := .ref sa) rfl
    (g := { method := m, pc := pc + 7, locals := ls, stack := .ref sa :: .ref T.heap.size :: .ref T.heap.size :: rest, locked := none }) rfl hsize rfl rfl (rest := rest) rfl
    (by rw [hb]; exact d7) (by rw [hb]; exact d10) hout hRframes (by simp only [List.map_cons, List.sum_cons, hcat]; omega) hlocks
  obtain ⟨f1, f2⟩ := vx_frame hsame
  rw [hhp] at f1 f2
  have hWs : s.WarmedH U.vm := State.WarmedH.trans hW0 hW
  have hcl : s.vm.findClass cls = some ce.cls := by
    have h9 := hO.cls
    rw [hvm] at h9
    exact h9
  have hall : s.sameButNew ({ U with vm := s.vm } : State) locs mc ms := by
    subst hA
    obtain ⟨e1, e2⟩ := hsame
    rw [State.setFrames_setFrames] at e1
    have h2 : (T.setVm s.vm).sameButNew ({ U with vm := s.vm } : State) [] (0 + 1) (0 + 6) := ⟨e1, e2⟩
    have h3 := X.same.trans h2
    rw [List.append_nil] at h3
    exact h3.mono hc hs
  refine ⟨U, ?_, .threw T.heap.size, hrun, hend, Or.inr ⟨T.heap.size, rfl, cls, ce, locs, hx U hWs.alike f1 (fun q hq => f2 q hq (fun z hz => nomatch hz)), hce, hO.vm, hcl, hWs, hall, hf⟩⟩
  refine st1 _ ?_
  show Steps p.tables e below (T1.setTop { method := m, pc := pc + 3, locals := ls, stack := .ref T.heap.size :: rest, locked := none }) _
  jvm_step X₁.here [X₁.here.top, hexec, d3', Value.category]
  exact X₁.ldcStringW hexec (own := own) (text := text) (index := is) (a := sa) hown' hstr'.1 hstr'.2
    (g := { method := m, pc := pc + 4, locals := ls, stack := .ref T.heap.size :: .ref T.heap.size :: rest, locked := none }) rfl d4' _ hsteps
end Ends
section Bodies
variable {l : Launch}
theorem vx_ofW {y : MethodName} {ws ws' : List Cond} {rm : Room} {Pc : Array Value → State → Prop} {Qc : Array Value → State → Outcome → State → Prop} {XC : String → State → State → Prop} {mc ms : Nat} {free : Addr → Prop} {cc : ByteArray} {maxL : Nat} {ret : Option FieldType}
    (hy : plainName y.cls = true) (hw : ws = Cond.code y cc maxL ret :: ws')
    (body : ∀ p e s m args below meth c s₁, BodyLoose p l y (headSpec ws rm) cc maxL ret e s m args below meth c s₁ → c.maxLocals = maxL → (∀ x ∈ c.exceptionTable.toList, False) → Pc args s →
      W p l e (headSpec ws rm).room s m args below meth c s.heap [] 0 0 (vx_MQ below Qc XC args s mc ms free) (entryFrame m args maxL)) : vx_Met l y ws rm Pc Qc XC mc ms free := by
  refine MetFree.of_bodyS (code := cc) (maxLocals := maxL) (ret := ret) hy ?_ ?_
  · intro args s m h hn
    obtain ⟨meth, c, h1, h2, h3, h4, h5, h6, -, -⟩ := Cond.code_spec hn (atoms_spec (ws := ws) h _ (by rw [hw]; exact List.mem_cons_self))
    exact ⟨meth, c, h1, h2, h3, h4, h5, h6⟩
  · intro p e s m args below meth c s₁ B hml hP _
    have hh0 : s₁.heap = s.heap := by rw [B.state]; rfl
    have ht : ∀ x ∈ c.exceptionTable.toList, False := by
      obtain ⟨meth9, c9, h1, h2, -, -, -, -, h7, -⟩ := Cond.code_spec B.named (atoms_spec (ws := ws) B.pre _ (by rw [hw]; exact List.mem_cons_self))
      cases Option.some.inj (h1.symm.trans B.method)
      cases Option.some.inj (h2.symm.trans (Stand.of_body B).code)
      intro x hx
      rw [Array.isEmpty_iff.mp h7] at hx
      cases hx
    obtain ⟨t, a1, o, b1, b2, b3⟩ := body p e s m args below meth c s₁ B hml ht hP s₁ hh0 (Stand.of_body B)
    exact ⟨t, o, a1, b1, b2, b3⟩
/-- the table of a body with handlers -/
theorem vx_table {p : Program} {x y : MethodName} {S : Spec} {cc bytes : ByteArray} {maxL maxL' : Nat} {ret ret' : Option FieldType} {e : Env} {s s₁ : State} {m : MethodId} {args : Array Value} {below : List Frame} {meth : Method} {c : Code} {hh : List (Nat × Nat × Nat × Nat)}
    (B : BodyLoose p l y S cc maxL ret e s m args below meth c s₁) (h : (Cond.codeWith y bytes maxL' ret' hh).before args s = true) : c.exceptionTable.toList = tableOf hh := by
  obtain ⟨m9, meth9, c9, hn9, h1, h2, -, -, h6, -⟩ := Cond.codeWith_spec h
  cases Option.some.inj (hn9.symm.trans B.named)
  cases Option.some.inj (h1.symm.trans B.method)
  cases Option.some.inj (h2.symm.trans (Stand.of_body B).code)
  rw [← h6, table_eq]
end Bodies
end VXA
/-! ===== END ===== -/
/-! ===== BEGIN a static call of a method with an exception table ===== -/
section VXS
variable {p : Program} {l : Launch} {e : Env} {R : Room} {s : State} {m : MethodId} {args : Array Value} {below : List Frame} {meth : Method} {c : Code} {T : State} {H : Heap} {locs : List Loc} {cells slots : Nat}
abbrev vx_CSW (R : Room) (s : State) (args : Array Value) (own : String) (index : Nat) (y : MethodName) (bytes : ByteArray) (maxL : Nat) (ret : Option FieldType) (hh : List (Nat × Nat × Nat × Nat)) (ws : List Cond) (rm : Room) (mc ms n : Nat) : Prop :=
  (rm.cells = mc ∧ rm.slots = ms ∧ rm.frames + 1 ≤ R.frames ∧ 8 + (maxL + 11) + rm.locals ≤ R.locals ∧ (∀ w ∈ ws, ∀ (a' : Array Value) (U : State), s.WarmedH U.vm → w.before a' U = true) ∧ Cond.codeWith y bytes maxL ret hh ∈ ws) ∧
  (Cond.codeWith y bytes maxL ret hh).before args s = true ∧ (Cond.initialized y.cls).before args s = true ∧ (y.cls ≠ "java/lang/invoke/MethodHandle" ∧ y.cls ≠ "java/lang/invoke/VarHandle") ∧
  (∀ sig, parseMethodDescriptor y.desc = some sig → n = sig.parameters.length) ∧ (Cond.methodLink own index y).before args s = true ∧ (Cond.static y).before args s = true
theorem vx_cwSW {own : String} {index maxL mc ms : Nat} {y : MethodName} {bytes : ByteArray} {ret : Option FieldType} {hh : List (Nat × Nat × Nat × Nat)} {Ts ws ws' : List Cond} {rm : Room} (n : Nat) (ht : ∀ w ∈ Ts, w.before args s = true) (hT : GoodIn Ts (va_wsS own index y ws)) (hw : ws = Cond.codeWith y bytes maxL ret hh :: ws') (hrc : rm.cells = mc) (hrs : rm.slots = ms)
    (hd : y.cls ≠ "java/lang/invoke/MethodHandle" ∧ y.cls ≠ "java/lang/invoke/VarHandle" ∧ (parseMethodDescriptor y.desc).map (fun d => d.parameters.length) = some n) (hR : rm.frames + 1 ≤ R.frames ∧ 8 + (maxL + 11) + rm.locals ≤ R.locals) :
    vx_CSW R s args own index y bytes maxL ret hh ws rm mc ms n := by
  have ok : ∀ w ∈ va_wsS own index y ws, w.before args s = true := fun w h => ht w (hT w h).1
  have hG : GoodIn Ts ws := fun w h => hT w (by unfold va_wsS; exact List.mem_append_right _ h)
  have hc : Cond.codeWith y bytes maxL ret hh ∈ ws := by rw [hw]; exact List.mem_cons_self
  refine ⟨⟨hrc, hrs, hR.1, hR.2, pay_in ht hG, hc⟩, ht _ (hG _ hc).1, ok _ (by simp [va_wsS]), ⟨hd.1, hd.2.1⟩, fun sig h => ?_, ok _ (by simp [va_wsS]), ok _ (by simp [va_wsS])⟩
  have h2 := hd.2.2
  rw [h] at h2
  exact (Option.some.inj h2).symm
theorem vx_callSW (X : Stand p l e R s m args below meth c T locs cells slots) (hexec : p.tables.exec = Jvm.exec) {own : String} {index : Nat} {y : MethodName} {bytes : ByteArray} {maxL : Nat} {ret : Option FieldType} {hh : List (Nat × Nat × Nat × Nat)}
    (hown : s.vm.findClass own = some m.cls) (hlink : (Cond.methodLink own index y).before args s = true) (hstat : (Cond.static y).before args s = true) (hinit : (Cond.initialized y.cls).before args s = true)
    (hcode : (Cond.codeWith y bytes maxL ret hh).before args s = true) (hy : y.cls ≠ "java/lang/invoke/MethodHandle" ∧ y.cls ≠ "java/lang/invoke/VarHandle")
    {W9 : Nat} {Pre : Pt → Array Value → Prop} {Post : Pt → Array Value → Option Value → Pt → Prop} (hK : Back l R p e below s args y 3 W9 Pre Post)
    {g : JFrame} (hg : g.method = m) (hsize : g.locals.size = c.maxLocals) {argsL rest : List Value} (hlen : ∀ sig, parseMethodDescriptor y.desc = some sig → argsL.length = sig.parameters.length)
    (hstack : g.stack = argsL.reverse ++ rest) (hW : 2 * g.monitorRoom + (rest.map fun v => v.category).sum ≤ W9) (hdg : decode c.code g.pc = .ok (.invokestatic index, 3))
    (hpre : ∀ vm₁, s.WarmedH vm₁ → Pre ⟨T.setVm vm₁, locs, cells, slots⟩ argsL.toArray) :
    ∃ (v : Option Value) (vm₁ : Vm) (B : Pt), s.WarmedH vm₁ ∧ Stand p l e R s m args below meth c B.U B.locs B.cells B.slots ∧ Post ⟨T.setVm vm₁, locs, cells, slots⟩ argsL.toArray v B ∧
      ∀ target, Steps p.tables e below (B.U.setTop { g with pc := g.pc + 3, stack := v.toList ++ rest }) target → Steps p.tables e below (T.setTop g) target := by
  obtain ⟨mk, methM, cM, hnamed, hmethM, -, -, -, -, -, -, hsigM⟩ := Cond.codeWith_spec hcode
  have hstatic : methM.isStatic = true := Cond.static_spec hnamed hmethM hstat
  obtain ⟨kP, hkP, -⟩ := className_of_methodNamed hnamed
  have hinitP : kP.init = .initialized := Cond.initialized_spec (findClass_of_methodNamed hnamed) hkP hinit
  obtain ⟨vm₁, X₁, hstep₁⟩ := X.invokestatic hexec hown hlink hnamed hmethM hstatic hkP hinitP hy (g := g) hg (argsL := argsL) (rest := rest) (hlen _ hsigM) hstack hdg
  obtain ⟨v, B, X', hpost, hsteps⟩ := hK m meth c ⟨T.setVm vm₁, locs, cells, slots⟩ { g with stack := rest } (.invokestatic index) mk argsL.toArray X₁ hg hsize hdg hW (X₁.named hnamed) (hpre vm₁ X₁.warmed)
  exact ⟨v, vm₁, B, X₁.warmed, X', hpost, fun target h => hstep₁ _ fun acts => by rw [doInvoke_state]; exact hsteps.trans h⟩
theorem vx_runSW {y : MethodName} {bytes cc : ByteArray} {maxL nL mc ms n index : Nat} {ret : Option FieldType} {hh : List (Nat × Nat × Nat × Nat)} {ws : List Cond} {rm : Room} {Pc : Array Value → State → Prop} {Qc : Array Value → State → Outcome → State → Prop} {free : Addr → Prop} {Ts : List Cond} {own : String} {As rest : List Value} {g : JFrame}
    (S : CallFix p m c cc nL s args Ts own) (hM : Met l y ws rm Pc Qc mc ms free) (cw : vx_CSW R s args own index y bytes maxL ret hh ws rm mc ms n) (hp : PreS s H Pc As)
    (hg : g.method = m) (hn : As.length = n) (hsize : g.locals.size = nL) (hstack : g.stack = As.reverse ++ rest) (hW : 2 * g.monitorRoom + (rest.map fun v => v.category).sum ≤ 8) (hdg : decode cc g.pc = .ok (.invokestatic index, 3)) (hf : cells + mc ≤ R.cells ∧ slots + ms ≤ R.slots) :
    va_Run p l e R s m args below meth c H locs cells slots mc ms g rest (Qc As.toArray) (free) := by
  obtain ⟨⟨hrc, hrs, hfr, hlo, hws, hcw⟩, hcode, hini, hy, hlen, hl, hstt⟩ := cw
  have hK : Back l R p e below s args y 3 8 (PreOf R mc ms Pc) (PostOf Qc mc ms free) := va_backW (hh := hh) (bytes := bytes) (maxL := maxL) (ret := ret) hM hp.1 hrc hrs hfr hlo hws hcw (fun a' U hW => word_at hW (Or.inl (by first | rfl | simp [Cond.onTables, Cond.keeps, Cond.steady])) hini)
  obtain ⟨hx, hb, hml, ho, -⟩ := S
  intro T hT X
  obtain ⟨v, vm₁, ⟨U', l2, c2, s2⟩, hW₁, X', ⟨g', mk, t, L, e1, e2, hq, h1, hL, h2, h3⟩, st⟩ := vx_callSW X hx (hh := hh) (bytes := bytes) (maxL := maxL) (ret := ret) ho hl hstt hini hcode hy hK hg (hsize.trans hml.symm) (argsL := As) (rest := rest) (fun sig h => hn.trans (hlen sig h)) hstack hW (by rw [hb]; exact hdg)
    (fun vm₁ hW₁ => ⟨hf.1, hf.2, hp.2 (T.setVm vm₁) hT hW₁⟩)
  dsimp only [Pt.U, Pt.locs, Pt.cells, Pt.slots] at X' e1 e2 h1 h2 h3 st
  subst h1; subst h2; subst h3
  exact ⟨v, (T.setVm vm₁).calling g' mk As.toArray, t, U', L, hT, X', hL, e1, e2, hq, st⟩
/-- a thing of a world lies in the heap -/
theorem vx_lt {D : va_G} {cl : List vw_C} {ws : va_W} {H1 : Heap} (h : va_P D cl ws H1) {k : Nat} {q : Nat × va_E} (hk : ws[k]? = some q) : q.1 < H1.size := (h k q hk).lt
end VXS
/-! ===== END ===== -/
/-! ===== BEGIN methods with a table of their own: called by a name, returning or throwing ===== -/
section VXH
/-! vx_backW, vx_callVX, vx_callSX, vx_callVW, vx_runVW, vx_runVX, vx_runSX, vx_ofWH follow the same proofs as their sisters above (Free/Laws.lean, Shelf42/LK1.lean); vx_outP calls Shelf42/NT130.lean (outThrough). -/
section
variable {l : Launch} {R : Room} {p : Program} {e : Env} {below : List Frame} {s : State} {sargs : Array Value} {y : MethodName} {len W9 : Nat}
theorem vx_backW {ws : List Cond} {rm : Room} {Pc : Array Value → State → Prop} {Qc : Array Value → State → Outcome → State → Prop} {XC : String → State → State → Prop} {mc ms : Nat} {free : Addr → Prop} {bytes : ByteArray} {maxL : Nat} {ret : Option FieldType} {hh : List (Nat × Nat × Nat × Nat)}
    (hM : vx_Met l y ws rm Pc Qc XC mc ms free) (hblind : FrameBlind Pc) (hrc : rm.cells = mc) (hrs : rm.slots = ms)
    (hframes : rm.frames + 1 ≤ R.frames) (hlocals : W9 + (maxL + 11) + rm.locals ≤ R.locals)
    (hws : ∀ w ∈ ws, ∀ a' U, s.WarmedH U.vm → w.before a' U = true) (hcode : Cond.codeWith y bytes maxL ret hh ∈ ws) (hinit : ∀ a' U, s.WarmedH U.vm → (Cond.initialized y.cls).before a' U = true) :
    vx_Back l R p e below s sargs y len W9 (PreOf R mc ms Pc) (PostOf Qc mc ms free) (vx_Post XC mc ms free) := by
  intro m meth c A g ig mk a X hg hsize hdg hW hn hp
  have h1 : (headSpec ws rm).pre.before a A.U = true := atoms_intro fun w hw => hws w hw _ _ X.warmed
  have h2 : (Cond.codeWith y bytes maxL ret hh).before a A.U = true := hws _ hcode _ _ X.warmed
  have h3 : (Cond.initialized y.cls).before a A.U = true := hinit _ _ X.warmed
  have h4 : A.cells + (headSpec ws rm).room.cells ≤ R.cells := by rw [show (headSpec ws rm).room.cells = mc from hrc]; exact hp.1
  have h5 : A.slots + (headSpec ws rm).room.slots ≤ R.slots := by rw [show (headSpec ws rm).room.slots = ms from hrs]; exact hp.2.1
  have hPc : Pc a (A.U.calling g mk a) := hblind _ _ _ _ hp.2.2
  obtain ⟨U, Ls, c0, s0⟩ := A
  dsimp only [Pt.U, Pt.locs, Pt.cells, Pt.slots] at h1 h2 h3 h4 h5 X hn hPc ⊢
  obtain ⟨m9, methY, cY, hn9, hmY, hcY, -, hlY, -⟩ := Cond.codeWith_spec h2
  cases Option.some.inj (hn9.symm.trans hn)
  obtain ⟨kY, hkY, -⟩ := className_of_methodNamed hn
  have hinitY : kY.init = .initialized := Cond.initialized_spec (findClass_of_methodNamed hn) hkY h3
  have h : At U g.method c below := by rw [hg]; exact X.here
  have hlocals9 : W9 + (maxL + 11) + (headSpec ws rm).room.locals ≤ R.locals := hlocals
  have happ : (headSpec ws rm).appliesLoose y e.platform (U.calling g mk a) = true :=
    Spec.appliesLoose_calling (g := g) h hdg hn hkY hinitY
      (X.room_calling (g := g) (R' := (headSpec ws rm).room) hsize hmY hcY hframes (by rw [hlY]; omega) h4 h5) h1
  obtain ⟨mid, hmid⟩ := h.above
  have hfr : (U.setTop g).frames = (.java g :: mid) ++ below := by rw [State.frames_setTop' g h.top, hmid]; rfl
  obtain ⟨o, s₂, hsteps, -, hend, hq⟩ := Steps.callFree hM p X.admits X.cas X.clock (acts := []) hfr happ hPc trivial
  have hq' : vx_Q Qc XC mc ms free a (U.calling g mk a) o s₂ := hq
  rw [State.frames_setTop' g h.top] at hend
  obtain ⟨g₀, hg0⟩ := Option.isSome_iff_exists.mp h.top
  obtain ⟨r, hr⟩ := State.topJava?_eq_some.mp hg0
  have hr' : (({ U with heap := s₂.heap, slotsUsed := s₂.slotsUsed } : State).setVm s₂.vm).frames = .java g₀ :: r := hr
  rcases hq' with ⟨hqc, L, hfe, hL⟩ | ⟨q, rfl, E, ce, L, hx, hce, hcv, hcl, hW₂, hsm, hL⟩
  · obtain ⟨⟨v, rfl⟩, hW₂, e2, q2, q3, q4, q5, q6⟩ := id hfe
    have e3 : s₂ = ({ (U.calling g mk a).setFrames s₂.frames with heap := s₂.heap, slotsUsed := s₂.slotsUsed } : State).setVm s₂.vm := by
      have : s₂ = ({ s₂ with vm := (U.calling g mk a).vm } : State).setVm s₂.vm := rfl
      rw [e2] at this
      exact this
    obtain ⟨c₂, i₂, len₂, hc₂, hd₂, hf₂⟩ := hend
    have hW' : U.WarmedH s₂.vm := hW₂
    have hcc : c₂ = c := by
      have h1 : s₂.code? g.method = U.code? g.method := by
        rw [State.code?_eq, State.code?_eq, hW'.alike.method?]
      exact Option.some.inj (hc₂.symm.trans (h1.trans h.code))
    subst hcc
    have hlen : len₂ = len := by rw [hdg] at hd₂; cases hd₂; rfl
    subst hlen
    have hs₂ : s₂ = (({ U with heap := s₂.heap, slotsUsed := s₂.slotsUsed } : State).setVm s₂.vm).setTop { g with pc := g.pc + len₂, stack := v.toList ++ g.stack } := by
      refine e3.trans ?_
      rw [hf₂, State.calling_eq h.top, State.setFrames_setFrames, State.setTop_of_frames _ hr', hr]
      rfl
    have hsame : U.sameButNew ({ U with heap := s₂.heap, slotsUsed := s₂.slotsUsed } : State) L mc ms := by
      refine ⟨?_, q2, q3, q4, q5, q6⟩
      obtain ⟨t, ht, -⟩ := State.frames_cons hr
      show ({ U with heap := s₂.heap, slotsUsed := s₂.slotsUsed } : State) = { U.setFrames U.frames with heap := s₂.heap, slotsUsed := s₂.slotsUsed }
      rw [State.setFrames_self ht]
    subst hg
    refine Or.inl ⟨v, ⟨(({ U with heap := s₂.heap, slotsUsed := s₂.slotsUsed } : State).setVm s₂.vm), Ls ++ L, c0 + mc, s0 + ms⟩,
      ⟨X.admits, X.cas, X.clock, X.frames, X.room, X.hears, X.method, X.code, (X.here.setHeapUsed s₂.heap s₂.slotsUsed).setVm hW'.alike, X.tail, State.WarmedH.trans X.warmed hW', X.limits, X.bytes, X.same.trans (hsame.setVm s.vm)⟩,
      ⟨g, mk, s₂, L, rfl, rfl, hqc, rfl, hL, rfl, rfl⟩, ?_⟩
    show Steps p.tables e below _ ((({ U with heap := s₂.heap, slotsUsed := s₂.slotsUsed } : State).setVm s₂.vm).setTop { g with pc := g.pc + len₂, stack := v.toList ++ g.stack })
    rw [← hs₂]
    exact hsteps
  · obtain ⟨e2, q2, q3, q4, q5, q6⟩ := id hsm
    have e3 : s₂ = ({ (U.calling g mk a).setFrames s₂.frames with heap := s₂.heap, slotsUsed := s₂.slotsUsed } : State).setVm s₂.vm := by
      have : s₂ = ({ s₂ with vm := (U.calling g mk a).vm } : State).setVm s₂.vm := rfl
      rw [e2] at this
      exact this
    have hf₂ : s₂.frames = .throwing q :: .java g :: U.frames.tail := hend
    have hW' : U.WarmedH s₂.vm := hW₂
    have hs₂ : s₂ = ((({ U with heap := s₂.heap, slotsUsed := s₂.slotsUsed } : State).setVm s₂.vm).setTop g).pushFrame (.throwing q) := by
      refine e3.trans ?_
      rw [hf₂, State.calling_eq h.top, State.setFrames_setFrames, State.pushFrame, State.frames_setTop _ hr', State.setTop_of_frames _ hr', State.setFrames_setFrames, hr]
      rfl
    have hsame : U.sameButNew ({ U with heap := s₂.heap, slotsUsed := s₂.slotsUsed } : State) L mc ms := by
      refine ⟨?_, q2, q3, q4, q5, q6⟩
      obtain ⟨t, ht, -⟩ := State.frames_cons hr
      show ({ U with heap := s₂.heap, slotsUsed := s₂.slotsUsed } : State) = { U.setFrames U.frames with heap := s₂.heap, slotsUsed := s₂.slotsUsed }
      rw [State.setFrames_self ht]
    subst hg
    refine Or.inr ⟨q, ⟨(({ U with heap := s₂.heap, slotsUsed := s₂.slotsUsed } : State).setVm s₂.vm), Ls ++ L, c0 + mc, s0 + ms⟩,
      ⟨X.admits, X.cas, X.clock, X.frames, X.room, X.hears, X.method, X.code, (X.here.setHeapUsed s₂.heap s₂.slotsUsed).setVm hW'.alike, X.tail, State.WarmedH.trans X.warmed hW', X.limits, X.bytes, X.same.trans (hsame.setVm s.vm)⟩,
      ⟨g, mk, s₂, L, E, ce, rfl, rfl, hx, hce, hcv, hcl, rfl, hL, rfl, rfl⟩, ?_⟩
    show Steps p.tables e below _ (((({ U with heap := s₂.heap, slotsUsed := s₂.slotsUsed } : State).setVm s₂.vm).setTop g).pushFrame (.throwing q))
    rw [← hs₂]
    exact hsteps
end
variable {p : Program} {l : Launch} {e : Env} {R : Room} {s : State} {m : MethodId} {args : Array Value} {below : List Frame} {meth : Method} {c : Code} {T : State} {H : Heap} {locs : List Loc} {cells slots : Nat}
theorem vx_callVX (X : Stand p l e R s m args below meth c T locs cells slots) (hexec : p.tables.exec = Jvm.exec) {own C : String} {index : Nat} {y : MethodName} {bytes : ByteArray} {maxL : Nat} {ret : Option FieldType} {hh : List (Nat × Nat × Nat × Nat)}
    (hown : s.vm.findClass own = some m.cls) (hlink : (Cond.methodLink own index y).before args s = true) (hinst : (Cond.instanceMethod y).before args s = true) (hsel : (Cond.selects C y y).before args s = true)
    (hcode : (Cond.codeWith y bytes maxL ret hh).before args s = true) (hy : y.cls ≠ "java/lang/invoke/MethodHandle" ∧ y.cls ≠ "java/lang/invoke/VarHandle")
    {W9 : Nat} {Pre : Pt → Array Value → Prop} {Post : Pt → Array Value → Option Value → Pt → Prop} {PostX : Pt → Array Value → Addr → Pt → Prop} (hK : vx_Back l R p e below s args y 3 W9 Pre Post PostX)
    {b : Addr} {cellB : Cell} (hcell : T.heap[b]? = some cellB) (hobj : cellB.vm.isStatics = false) (hcls : s.vm.findClass C = some cellB.cls)
    {g : JFrame} (hg : g.method = m) (hsize : g.locals.size = c.maxLocals) {argsL rest : List Value} (hlen : ∀ sig, parseMethodDescriptor y.desc = some sig → argsL.length = sig.parameters.length)
    (hstack : g.stack = argsL.reverse ++ .ref b :: rest) (hW : 2 * g.monitorRoom + (rest.map fun v => v.category).sum ≤ W9) (hdg : decode c.code g.pc = .ok (.invokevirtual index, 3))
    (hpre : ∀ vm₁, s.WarmedH vm₁ → Pre ⟨T.setVm vm₁, locs, cells, slots⟩ (Value.ref b :: argsL).toArray) :
    (∃ (v : Option Value) (vm₁ : Vm) (B : Pt), s.WarmedH vm₁ ∧ Stand p l e R s m args below meth c B.U B.locs B.cells B.slots ∧ Post ⟨T.setVm vm₁, locs, cells, slots⟩ (Value.ref b :: argsL).toArray v B ∧
      ∀ target, Steps p.tables e below (B.U.setTop { g with pc := g.pc + 3, stack := v.toList ++ rest }) target → Steps p.tables e below (T.setTop g) target) ∨
    (∃ (q : Addr) (vm₁ : Vm) (B : Pt), s.WarmedH vm₁ ∧ Stand p l e R s m args below meth c B.U B.locs B.cells B.slots ∧ PostX ⟨T.setVm vm₁, locs, cells, slots⟩ (Value.ref b :: argsL).toArray q B ∧
      Steps p.tables e below (T.setTop g) ((B.U.setTop { g with stack := rest }).pushFrame (.throwing q))) := by
  obtain ⟨mk, methM, hnamed, hmethM, hstM, habM⟩ := Cond.instanceMethod_spec hinst
  obtain ⟨m8, methM', cM, hn8, hmethM', -, -, -, -, -, -, hsigM⟩ := Cond.codeWith_spec hcode
  cases Option.some.inj (hn8.symm.trans hnamed)
  cases hmethM.symm.trans hmethM'
  obtain ⟨c2, r2, m2, q1, q2, q3, q4, kP, hkP, hkPi⟩ := Cond.selects_spec hsel
  cases hcls.symm.trans q1
  cases (State.methodFound?_of_named hnamed hy).symm.trans q2
  cases hnamed.symm.trans q3
  have hselP : selectMethod e.platform s.vm cellB.cls mk = .method mk := by rw [Launch.admits_selectMethod X.admits]; exact q4
  obtain ⟨vm₁, X₁, hstep₁⟩ := X.invokevirtual hexec hown hlink hnamed hmethM hstM hkP hkPi hy (a := b) (cell := cellB) hcell
    (fun z h => by rw [h] at hobj; cases hobj) hselP hmethM habM hkP hkPi (g := g) hg (argsL := argsL) (rest := rest) (hlen _ hsigM) hstack hdg
  rcases hK m meth c ⟨T.setVm vm₁, locs, cells, slots⟩ { g with stack := rest } (.invokevirtual index) mk (Value.ref b :: argsL).toArray X₁ hg hsize hdg hW (X₁.named hnamed) (hpre vm₁ X₁.warmed) with ⟨v, B, X', hpost, hsteps⟩ | ⟨q, B, X', hpost, hsteps⟩
  · exact Or.inl ⟨v, vm₁, B, X₁.warmed, X', hpost, fun target h => hstep₁ _ fun acts => by rw [doInvoke_state]; exact hsteps.trans h⟩
  · exact Or.inr ⟨q, vm₁, B, X₁.warmed, X', hpost, hstep₁ _ fun acts => by rw [doInvoke_state]; exact hsteps⟩
theorem vx_callSX (X : Stand p l e R s m args below meth c T locs cells slots) (hexec : p.tables.exec = Jvm.exec) {own : String} {index : Nat} {y : MethodName} {bytes : ByteArray} {maxL : Nat} {ret : Option FieldType} {hh : List (Nat × Nat × Nat × Nat)}
    (hown : s.vm.findClass own = some m.cls) (hlink : (Cond.methodLink own index y).before args s = true) (hstat : (Cond.static y).before args s = true) (hinit : (Cond.initialized y.cls).before args s = true)
    (hcode : (Cond.codeWith y bytes maxL ret hh).before args s = true) (hy : y.cls ≠ "java/lang/invoke/MethodHandle" ∧ y.cls ≠ "java/lang/invoke/VarHandle")
    {W9 : Nat} {Pre : Pt → Array Value → Prop} {Post : Pt → Array Value → Option Value → Pt → Prop} {PostX : Pt → Array Value → Addr → Pt → Prop} (hK : vx_Back l R p e below s args y 3 W9 Pre Post PostX)
    {g : JFrame} (hg : g.method = m) (hsize : g.locals.size = c.maxLocals) {argsL rest : List Value} (hlen : ∀ sig, parseMethodDescriptor y.desc = some sig → argsL.length = sig.parameters.length)
    (hstack : g.stack = argsL.reverse ++ rest) (hW : 2 * g.monitorRoom + (rest.map fun v => v.category).sum ≤ W9) (hdg : decode c.code g.pc = .ok (.invokestatic index, 3))
    (hpre : ∀ vm₁, s.WarmedH vm₁ → Pre ⟨T.setVm vm₁, locs, cells, slots⟩ argsL.toArray) :
    (∃ (v : Option Value) (vm₁ : Vm) (B : Pt), s.WarmedH vm₁ ∧ Stand p l e R s m args below meth c B.U B.locs B.cells B.slots ∧ Post ⟨T.setVm vm₁, locs, cells, slots⟩ argsL.toArray v B ∧
      ∀ target, Steps p.tables e below (B.U.setTop { g with pc := g.pc + 3, stack := v.toList ++ rest }) target → Steps p.tables e below (T.setTop g) target) ∨
    (∃ (q : Addr) (vm₁ : Vm) (B : Pt), s.WarmedH vm₁ ∧ Stand p l e R s m args below meth c B.U B.locs B.cells B.slots ∧ PostX ⟨T.setVm vm₁, locs, cells, slots⟩ argsL.toArray q B ∧
      Steps p.tables e below (T.setTop g) ((B.U.setTop { g with stack := rest }).pushFrame (.throwing q))) := by
  obtain ⟨mk, methM, cM, hnamed, hmethM, -, -, -, -, -, -, hsigM⟩ := Cond.codeWith_spec hcode
  have hstatic : methM.isStatic = true := Cond.static_spec hnamed hmethM hstat
  obtain ⟨kP, hkP, -⟩ := className_of_methodNamed hnamed
  have hinitP : kP.init = .initialized := Cond.initialized_spec (findClass_of_methodNamed hnamed) hkP hinit
  obtain ⟨vm₁, X₁, hstep₁⟩ := X.invokestatic hexec hown hlink hnamed hmethM hstatic hkP hinitP hy (g := g) hg (argsL := argsL) (rest := rest) (hlen _ hsigM) hstack hdg
  rcases hK m meth c ⟨T.setVm vm₁, locs, cells, slots⟩ { g with stack := rest } (.invokestatic index) mk argsL.toArray X₁ hg hsize hdg hW (X₁.named hnamed) (hpre vm₁ X₁.warmed) with ⟨v, B, X', hpost, hsteps⟩ | ⟨q, B, X', hpost, hsteps⟩
  · exact Or.inl ⟨v, vm₁, B, X₁.warmed, X', hpost, fun target h => hstep₁ _ fun acts => by rw [doInvoke_state]; exact hsteps.trans h⟩
  · exact Or.inr ⟨q, vm₁, B, X₁.warmed, X', hpost, hstep₁ _ fun acts => by rw [doInvoke_state]; exact hsteps⟩
theorem vx_callVW (X : Stand p l e R s m args below meth c T locs cells slots) (hexec : p.tables.exec = Jvm.exec) {own C : String} {index : Nat} {y : MethodName} {bytes : ByteArray} {maxL : Nat} {ret : Option FieldType} {hh : List (Nat × Nat × Nat × Nat)}
    (hown : s.vm.findClass own = some m.cls) (hlink : (Cond.methodLink own index y).before args s = true) (hinst : (Cond.instanceMethod y).before args s = true) (hsel : (Cond.selects C y y).before args s = true)
    (hcode : (Cond.codeWith y bytes maxL ret hh).before args s = true) (hy : y.cls ≠ "java/lang/invoke/MethodHandle" ∧ y.cls ≠ "java/lang/invoke/VarHandle")
    {W9 : Nat} {Pre : Pt → Array Value → Prop} {Post : Pt → Array Value → Option Value → Pt → Prop} (hK : Back l R p e below s args y 3 W9 Pre Post)
    {b : Addr} {cellB : Cell} (hcell : T.heap[b]? = some cellB) (hobj : cellB.vm.isStatics = false) (hcls : s.vm.findClass C = some cellB.cls)
    {g : JFrame} (hg : g.method = m) (hsize : g.locals.size = c.maxLocals) {argsL rest : List Value} (hlen : ∀ sig, parseMethodDescriptor y.desc = some sig → argsL.length = sig.parameters.length)
    (hstack : g.stack = argsL.reverse ++ .ref b :: rest) (hW : 2 * g.monitorRoom + (rest.map fun v => v.category).sum ≤ W9) (hdg : decode c.code g.pc = .ok (.invokevirtual index, 3))
    (hpre : ∀ vm₁, s.WarmedH vm₁ → Pre ⟨T.setVm vm₁, locs, cells, slots⟩ (Value.ref b :: argsL).toArray) :
    ∃ (v : Option Value) (vm₁ : Vm) (B : Pt), s.WarmedH vm₁ ∧ Stand p l e R s m args below meth c B.U B.locs B.cells B.slots ∧ Post ⟨T.setVm vm₁, locs, cells, slots⟩ (Value.ref b :: argsL).toArray v B ∧
      ∀ target, Steps p.tables e below (B.U.setTop { g with pc := g.pc + 3, stack := v.toList ++ rest }) target → Steps p.tables e below (T.setTop g) target := by
  obtain ⟨mk, methM, hnamed, hmethM, hstM, habM⟩ := Cond.instanceMethod_spec hinst
  obtain ⟨m8, methM', cM, hn8, hmethM', -, -, -, -, -, -, hsigM⟩ := Cond.codeWith_spec hcode
  cases Option.some.inj (hn8.symm.trans hnamed)
  cases hmethM.symm.trans hmethM'
  obtain ⟨c2, r2, m2, q1, q2, q3, q4, kP, hkP, hkPi⟩ := Cond.selects_spec hsel
  cases hcls.symm.trans q1
  cases (State.methodFound?_of_named hnamed hy).symm.trans q2
  cases hnamed.symm.trans q3
  have hselP : selectMethod e.platform s.vm cellB.cls mk = .method mk := by rw [Launch.admits_selectMethod X.admits]; exact q4
  obtain ⟨vm₁, X₁, hstep₁⟩ := X.invokevirtual hexec hown hlink hnamed hmethM hstM hkP hkPi hy (a := b) (cell := cellB) hcell
    (fun z h => by rw [h] at hobj; cases hobj) hselP hmethM habM hkP hkPi (g := g) hg (argsL := argsL) (rest := rest) (hlen _ hsigM) hstack hdg
  obtain ⟨v, B, X', hpost, hsteps⟩ := hK m meth c ⟨T.setVm vm₁, locs, cells, slots⟩ { g with stack := rest } (.invokevirtual index) mk (Value.ref b :: argsL).toArray X₁ hg hsize hdg hW (X₁.named hnamed) (hpre vm₁ X₁.warmed)
  exact ⟨v, vm₁, B, X₁.warmed, X', hpost, fun target h => hstep₁ _ fun acts => by rw [doInvoke_state]; exact hsteps.trans h⟩
abbrev vx_CVW (R : Room) (s : State) (args : Array Value) (own C : String) (index : Nat) (y : MethodName) (bytes : ByteArray) (maxL : Nat) (ret : Option FieldType) (hh : List (Nat × Nat × Nat × Nat)) (ws : List Cond) (rm : Room) (mc ms n : Nat) : Prop :=
  (rm.cells = mc ∧ rm.slots = ms ∧ rm.frames + 1 ≤ R.frames ∧ 8 + (maxL + 11) + rm.locals ≤ R.locals ∧ (∀ w ∈ ws, ∀ (a' : Array Value) (U : State), s.WarmedH U.vm → w.before a' U = true) ∧ Cond.codeWith y bytes maxL ret hh ∈ ws) ∧
  (Cond.codeWith y bytes maxL ret hh).before args s = true ∧ (Cond.initialized y.cls).before args s = true ∧ (y.cls ≠ "java/lang/invoke/MethodHandle" ∧ y.cls ≠ "java/lang/invoke/VarHandle") ∧
  (∀ sig, parseMethodDescriptor y.desc = some sig → n = sig.parameters.length) ∧ (Cond.methodLink own index y).before args s = true ∧ (Cond.instanceMethod y).before args s = true ∧ (Cond.selects C y y).before args s = true
theorem vx_cwVW {own C : String} {index maxL mc ms : Nat} {y : MethodName} {bytes : ByteArray} {ret : Option FieldType} {hh : List (Nat × Nat × Nat × Nat)} {Ts ws ws' : List Cond} {rm : Room} (n : Nat) (ht : ∀ w ∈ Ts, w.before args s = true) (hT : GoodIn Ts (wsV own index C y ws)) (hw : ws = Cond.codeWith y bytes maxL ret hh :: ws') (hrc : rm.cells = mc) (hrs : rm.slots = ms)
    (hd : y.cls = C ∧ y.cls ≠ "java/lang/invoke/MethodHandle" ∧ y.cls ≠ "java/lang/invoke/VarHandle" ∧ (parseMethodDescriptor y.desc).map (fun d => d.parameters.length) = some n) (hR : rm.frames + 1 ≤ R.frames ∧ 8 + (maxL + 11) + rm.locals ≤ R.locals) :
    vx_CVW R s args own C index y bytes maxL ret hh ws rm mc ms n := by
  obtain ⟨hC, hd⟩ := hd
  subst hC
  have ok : ∀ w ∈ wsV own index y.cls y ws, w.before args s = true := fun w h => ht w (hT w h).1
  have hG : GoodIn Ts ws := fun w h => hT w (by unfold wsV; exact List.mem_append_right _ h)
  have hc : Cond.codeWith y bytes maxL ret hh ∈ ws := by rw [hw]; exact List.mem_cons_self
  refine ⟨⟨hrc, hrs, hR.1, hR.2, pay_in ht hG, hc⟩, ht _ (hG _ hc).1, ok _ (by simp [wsV]), ⟨hd.1, hd.2.1⟩, fun sig h => ?_, ok _ (by simp [wsV]), ok _ (by simp [wsV]), ok _ (by simp [wsV])⟩
  have h2 := hd.2.2
  rw [h] at h2
  exact (Option.some.inj h2).symm
theorem vx_runVW {y : MethodName} {bytes cc : ByteArray} {maxL nL mc ms n index : Nat} {ret : Option FieldType} {hh : List (Nat × Nat × Nat × Nat)} {ws : List Cond} {rm : Room} {Pc : Array Value → State → Prop} {Qc : Array Value → State → Outcome → State → Prop} {free : Addr → Prop} {Ts : List Cond} {own C : String} {b : Addr} {As rest : List Value} {g : JFrame}
    (S : CallFix p m c cc nL s args Ts own) (hM : Met l y ws rm Pc Qc mc ms free) (cw : vx_CVW R s args own C index y bytes maxL ret hh ws rm mc ms n) (hp : PreV s H C b Pc As)
    (hg : g.method = m) (hn : As.length = n) (hsize : g.locals.size = nL) (hstack : g.stack = As.reverse ++ .ref b :: rest) (hW : 2 * g.monitorRoom + (rest.map fun v => v.category).sum ≤ 8) (hdg : decode cc g.pc = .ok (.invokevirtual index, 3)) (hf : cells + mc ≤ R.cells ∧ slots + ms ≤ R.slots) :
    va_Run p l e R s m args below meth c H locs cells slots mc ms g rest (Qc (Value.ref b :: As).toArray) free := by
  obtain ⟨⟨hrc, hrs, hfr, hlo, hws, hcw⟩, hcode, hini, hy, hlen, hl, hin, hse⟩ := cw
  have hK : Back l R p e below s args y 3 8 (PreOf R mc ms Pc) (PostOf Qc mc ms free) := va_backW (hh := hh) (bytes := bytes) (maxL := maxL) (ret := ret) hM hp.1 hrc hrs hfr hlo hws hcw (fun a' U hW => word_at hW (Or.inl (by first | rfl | simp [Cond.onTables, Cond.keeps, Cond.steady])) hini)
  obtain ⟨hx, hb, hml, ho, -⟩ := S
  obtain ⟨-, ⟨cellB, hcB, hoB, hclB⟩, hPc⟩ := hp
  intro T hT X
  obtain ⟨v, vm₁, ⟨U', l2, c2, s2⟩, hW₁, X', ⟨g', mk, t, L, e1, e2, hq, h1, hL, h2, h3⟩, st⟩ := vx_callVW X hx (C := C) (hh := hh) (bytes := bytes) (maxL := maxL) (ret := ret) ho hl hin hse hcode hy hK (by rw [hT]; exact hcB) hoB hclB hg (hsize.trans hml.symm) (argsL := As) (rest := rest) (fun sig h => hn.trans (hlen sig h)) hstack hW (by rw [hb]; exact hdg)
    (fun vm₁ hW₁ => ⟨hf.1, hf.2, hPc (T.setVm vm₁) hT hW₁⟩)
  dsimp only [Pt.U, Pt.locs, Pt.cells, Pt.slots] at X' e1 e2 h1 h2 h3 st
  subst h1; subst h2; subst h3
  exact ⟨v, (T.setVm vm₁).calling g' mk (Value.ref b :: As).toArray, t, U', L, hT, X', hL, e1, e2, hq, st⟩
section
variable {y : MethodName} {bytes cc : ByteArray} {maxL nL mc ms n index : Nat} {ret : Option FieldType} {ws : List Cond} {rm : Room} {Pc : Array Value → State → Prop} {Qc : Array Value → State → Outcome → State → Prop} {XC : String → State → State → Prop} {free : Addr → Prop} {Ts : List Cond} {own C : String} {b : Addr} {As rest : List Value} {g : JFrame}
theorem vx_runVX {hh : List (Nat × Nat × Nat × Nat)} (S : CallFix p m c cc nL s args Ts own) (hM : vx_Met l y ws rm Pc Qc XC mc ms free) (cw : vx_CVW R s args own C index y bytes maxL ret hh ws rm mc ms n) (hp : PreV s H C b Pc As)
    (hg : g.method = m) (hn : As.length = n) (hsize : g.locals.size = nL) (hstack : g.stack = As.reverse ++ .ref b :: rest) (hW : 2 * g.monitorRoom + (rest.map fun v => v.category).sum ≤ 8) (hdg : decode cc g.pc = .ok (.invokevirtual index, 3)) (hf : cells + mc ≤ R.cells ∧ slots + ms ≤ R.slots) :
    vx_Run p l e R s m args below meth c H locs cells slots mc ms g rest (Qc (Value.ref b :: As).toArray) XC free := by
  obtain ⟨⟨hrc, hrs, hfr, hlo, hws, hcw⟩, hcode, hini, hy, hlen, hl, hin, hse⟩ := cw
  have hK : vx_Back l R p e below s args y 3 8 (PreOf R mc ms Pc) (PostOf Qc mc ms free) (vx_Post XC mc ms free) := vx_backW (hh := hh) (bytes := bytes) (maxL := maxL) (ret := ret) hM hp.1 hrc hrs hfr hlo hws hcw (fun a' U hW => word_at hW (Or.inl (by first | rfl | simp [Cond.onTables, Cond.keeps, Cond.steady])) hini)
  obtain ⟨hx, hb, hml, ho, -⟩ := S
  obtain ⟨-, ⟨cellB, hcB, hoB, hclB⟩, hPc⟩ := hp
  intro T hT X
  rcases vx_callVX X hx (C := C) (hh := hh) (bytes := bytes) (maxL := maxL) (ret := ret) ho hl hin hse hcode hy hK (by rw [hT]; exact hcB) hoB hclB hg (hsize.trans hml.symm) (argsL := As) (rest := rest) (fun sig h => hn.trans (hlen sig h)) hstack hW (by rw [hb]; exact hdg)
    (fun vm₁ hW₁ => ⟨hf.1, hf.2, hPc (T.setVm vm₁) hT hW₁⟩) with ⟨v, vm₁, ⟨U', l2, c2, s2⟩, hW₁, X', ⟨g', mk, t, L, e1, e2, hq, h1, hL, h2, h3⟩, st⟩ | ⟨q, vm₁, ⟨U', l2, c2, s2⟩, hW₁, X', ⟨g', mk, t, L, E, ce, e1, e2, hq, hce, hcv, hcl, h1, hL, h2, h3⟩, st⟩
  · dsimp only [Pt.U, Pt.locs, Pt.cells, Pt.slots] at X' e1 e2 h1 h2 h3 st
    subst h1; subst h2; subst h3
    exact Or.inl ⟨v, (T.setVm vm₁).calling g' mk (Value.ref b :: As).toArray, t, U', L, hT, X', hL, e1, e2, hq, st⟩
  · dsimp only [Pt.U, Pt.locs, Pt.cells, Pt.slots] at X' e1 e2 h1 h2 h3 st hcl
    subst h1; subst h2; subst h3
    exact Or.inr ⟨q, (T.setVm vm₁).calling g' mk (Value.ref b :: As).toArray, t, U', L, E, ce, hT, X', hL, e1, e2, hq, hce, hcv, vx_cls hW₁ hcl, st⟩
theorem vx_runSX {hh : List (Nat × Nat × Nat × Nat)} (S : CallFix p m c cc nL s args Ts own) (hM : vx_Met l y ws rm Pc Qc XC mc ms free) (cw : vx_CSW R s args own index y bytes maxL ret hh ws rm mc ms n) (hp : PreS s H Pc As)
    (hg : g.method = m) (hn : As.length = n) (hsize : g.locals.size = nL) (hstack : g.stack = As.reverse ++ rest) (hW : 2 * g.monitorRoom + (rest.map fun v => v.category).sum ≤ 8) (hdg : decode cc g.pc = .ok (.invokestatic index, 3)) (hf : cells + mc ≤ R.cells ∧ slots + ms ≤ R.slots) :
    vx_Run p l e R s m args below meth c H locs cells slots mc ms g rest (Qc As.toArray) XC free := by
  obtain ⟨⟨hrc, hrs, hfr, hlo, hws, hcw⟩, hcode, hini, hy, hlen, hl, hstt⟩ := cw
  have hK : vx_Back l R p e below s args y 3 8 (PreOf R mc ms Pc) (PostOf Qc mc ms free) (vx_Post XC mc ms free) := vx_backW (hh := hh) (bytes := bytes) (maxL := maxL) (ret := ret) hM hp.1 hrc hrs hfr hlo hws hcw (fun a' U hW => word_at hW (Or.inl (by first | rfl | simp [Cond.onTables, Cond.keeps, Cond.steady])) hini)
  obtain ⟨hx, hb, hml, ho, -⟩ := S
  intro T hT X
  rcases vx_callSX X hx (hh := hh) (bytes := bytes) (maxL := maxL) (ret := ret) ho hl hstt hini hcode hy hK hg (hsize.trans hml.symm) (argsL := As) (rest := rest) (fun sig h => hn.trans (hlen sig h)) hstack hW (by rw [hb]; exact hdg)
    (fun vm₁ hW₁ => ⟨hf.1, hf.2, hp.2 (T.setVm vm₁) hT hW₁⟩) with ⟨v, vm₁, ⟨U', l2, c2, s2⟩, hW₁, X', ⟨g', mk, t, L, e1, e2, hq, h1, hL, h2, h3⟩, st⟩ | ⟨q, vm₁, ⟨U', l2, c2, s2⟩, hW₁, X', ⟨g', mk, t, L, E, ce, e1, e2, hq, hce, hcv, hcl, h1, hL, h2, h3⟩, st⟩
  · dsimp only [Pt.U, Pt.locs, Pt.cells, Pt.slots] at X' e1 e2 h1 h2 h3 st
    subst h1; subst h2; subst h3
    exact Or.inl ⟨v, (T.setVm vm₁).calling g' mk As.toArray, t, U', L, hT, X', hL, e1, e2, hq, st⟩
  · dsimp only [Pt.U, Pt.locs, Pt.cells, Pt.slots] at X' e1 e2 h1 h2 h3 st hcl
    subst h1; subst h2; subst h3
    exact Or.inr ⟨q, (T.setVm vm₁).calling g' mk As.toArray, t, U', L, E, ce, hT, X', hL, e1, e2, hq, hce, hcv, vx_cls hW₁ hcl, st⟩
end
end VXH
theorem vx_ofWH {l : Launch} {y : MethodName} {ws ws' : List Cond} {rm : Room} {Pc : Array Value → State → Prop} {Qc : Array Value → State → Outcome → State → Prop} {XC : String → State → State → Prop} {mc ms : Nat} {free : Addr → Prop} {cc : ByteArray} {maxL : Nat} {ret : Option FieldType} {hh : List (Nat × Nat × Nat × Nat)}
    (hy : plainName y.cls = true) (hw : ws = Cond.codeWith y cc maxL ret hh :: ws')
    (body : ∀ p e s m args below meth c s₁, BodyLoose p l y (headSpec ws rm) cc maxL ret e s m args below meth c s₁ → c.maxLocals = maxL → Pc args s →
      W p l e (headSpec ws rm).room s m args below meth c s.heap [] 0 0 (vx_MQ below Qc XC args s mc ms free) (entryFrame m args maxL)) : vx_Met l y ws rm Pc Qc XC mc ms free := by
  refine MetFree.of_bodyS (code := cc) (maxLocals := maxL) (ret := ret) hy ?_ ?_
  · intro args s m h hn
    obtain ⟨m9, meth, c, hn9, h1, h2, h3, h4, -, h5, h6, -⟩ := Cond.codeWith_spec (atoms_spec (ws := ws) h _ (by rw [hw]; exact List.mem_cons_self))
    cases hn.symm.trans hn9
    exact ⟨meth, c, h1, h2, h3, h4, h5, h6⟩
  · intro p e s m args below meth c s₁ B hml hP _
    have hh0 : s₁.heap = s.heap := by rw [B.state]; rfl
    obtain ⟨t, a1, o, b1, b2, b3⟩ := body p e s m args below meth c s₁ B hml hP s₁ hh0 (Stand.of_body B)
    exact ⟨t, o, a1, b1, b2, b3⟩
/-! ===== END ===== -/
end
section
/-! ===== BEGIN printed: names, fields, word lists, decode rows ===== -/
def RX0 : String := "TokenFrames$Bag"
def TX0 : u_T := fun k => match k with
  | 0 => ("TokenFrames$Bag", "tokens", "[I", true)
  | 1 => ("TokenFrames$Bag", "oldest", "I", false)
  | 2 => ("TokenFrames$Bag", "held", "I", false)
  | 3 => ("TokenFrames$Bag", "order", "I", false)
  | _ => ("TokenFrames$Bag", "seed", "I", false)
def tyX0 : Nat → FieldType := fun k => match k with
  | 0 => .array .int
  | 1 => .int
  | 2 => .int
  | 3 => .int
  | _ => .int
abbrev wsX00 : List Cond := u_ws RX0 TX0 5
theorem nmX0 : ∀ a, a < 5 → ∀ b, b < 5 → a ≠ b → (TX0 a).2.1 ≠ (TX0 b).2.1 := by decide +kernel
theorem tyX0_ok : ∀ k, k < 5 → parseFieldDescriptor (TX0 k).2.2.1 = some (tyX0 k) := by decide +kernel
abbrev cX0_init : ByteArray := prog_2_method_1_code
def yX0_init : MethodName := ⟨RX0, "<init>", "()V"⟩
abbrev cX0_emptyFor : ByteArray := prog_2_method_2_code
def yX0_emptyFor : MethodName := ⟨RX0, "emptyFor", "(I)V"⟩
abbrev cX0_isEmpty : ByteArray := prog_2_method_3_code
def yX0_isEmpty : MethodName := ⟨RX0, "isEmpty", "()Z"⟩
abbrev cX0_put : ByteArray := prog_2_method_4_code
def yX0_put : MethodName := ⟨RX0, "put", "(I)V"⟩
abbrev cX0_take : ByteArray := prog_2_method_5_code
def yX0_take : MethodName := ⟨RX0, "take", "()I"⟩
abbrev cX0_chance : ByteArray := prog_2_method_6_code
def yX0_chance : MethodName := ⟨RX0, "chance", "()I"⟩
def RX1 : String := "TokenFrames$Machine"
def TX1 : u_T := fun k => match k with
  | 0 => ("TokenFrames$Machine", "slots", "LTokenFrames$Slots;", true)
  | 1 => ("TokenFrames$Machine", "made", "[I", true)
  | 2 => ("TokenFrames$Machine", "definitionOf", "[I", true)
  | 3 => ("TokenFrames$Machine", "makerOf", "[I", true)
  | 4 => ("TokenFrames$Machine", "cellOf", "[I", true)
  | 5 => ("TokenFrames$Machine", "program", "LTokenFrames$Program;", false)
  | 6 => ("TokenFrames$Machine", "firstTold", "I", false)
  | 7 => ("TokenFrames$Machine", "secondTold", "I", false)
  | 8 => ("TokenFrames$Machine", "mostCalls", "I", false)
  | 9 => ("TokenFrames$Machine", "tooMany", "Z", false)
  | 10 => ("TokenFrames$Machine", "calls", "I", false)
  | _ => ("TokenFrames$Machine", "cells", "I", false)
def tyX1 : Nat → FieldType := fun k => match k with
  | 0 => .object "TokenFrames$Slots"
  | 1 => .array .int
  | 2 => .array .int
  | 3 => .array .int
  | 4 => .array .int
  | 5 => .object "TokenFrames$Program"
  | 6 => .int
  | 7 => .int
  | 8 => .int
  | 9 => .boolean
  | 10 => .int
  | _ => .int
abbrev wsX10 : List Cond := u_ws RX1 TX1 12
theorem nmX1 : ∀ a, a < 12 → ∀ b, b < 12 → a ≠ b → (TX1 a).2.1 ≠ (TX1 b).2.1 := by decide +kernel
theorem tyX1_ok : ∀ k, k < 12 → parseFieldDescriptor (TX1 k).2.2.1 = some (tyX1 k) := by decide +kernel
abbrev cX1_init : ByteArray := prog_3_method_1_code
def yX1_init : MethodName := ⟨RX1, "<init>", "()V"⟩
abbrev cX1_prepare : ByteArray := prog_3_method_2_code
def yX1_prepare : MethodName := ⟨RX1, "prepare", "(IIII)V"⟩
abbrev cX1_workOutAll : ByteArray := prog_3_method_3_code
def yX1_workOutAll : MethodName := ⟨RX1, "workOutAll", "()I"⟩
abbrev cX1_outcomeNumber : ByteArray := prog_3_method_4_code
def yX1_outcomeNumber : MethodName := ⟨RX1, "outcomeNumber", "()I"⟩
abbrev cX1_knownParts : ByteArray := prog_3_method_5_code
def yX1_knownParts : MethodName := ⟨RX1, "knownParts", "()I"⟩
abbrev cX1_knownCells : ByteArray := prog_3_method_6_code
def yX1_knownCells : MethodName := ⟨RX1, "knownCells", "()I"⟩
abbrev cX1_beginCall : ByteArray := prog_3_method_7_code
def yX1_beginCall : MethodName := ⟨RX1, "beginCall", "(III)I"⟩
abbrev cX1_lookAt : ByteArray := prog_3_method_8_code
def yX1_lookAt : MethodName := ⟨RX1, "lookAt", "(I)V"⟩
abbrev cX1_reachInside : ByteArray := prog_3_method_9_code
def yX1_reachInside : MethodName := ⟨RX1, "reachInside", "(II)V"⟩
abbrev cX1_workOutArgument : ByteArray := prog_3_method_10_code
def yX1_workOutArgument : MethodName := ⟨RX1, "workOutArgument", "(II)V"⟩
abbrev cX1_negate : ByteArray := prog_3_method_11_code
def yX1_negate : MethodName := ⟨RX1, "negate", "(II)V"⟩
abbrev cX1_choose : ByteArray := prog_3_method_12_code
def yX1_choose : MethodName := ⟨RX1, "choose", "(II)V"⟩
abbrev cX1_makeCells : ByteArray := prog_3_method_13_code
def yX1_makeCells : MethodName := ⟨RX1, "makeCells", "(II)V"⟩
abbrev cX1_fetch : ByteArray := prog_3_method_14_code
def yX1_fetch : MethodName := ⟨RX1, "fetch", "(III)V"⟩
abbrev cX1_combine : ByteArray := prog_3_method_15_code
def yX1_combine : MethodName := ⟨RX1, "combine", "(II)V"⟩
abbrev cX1_combined : ByteArray := prog_3_method_16_code
def yX1_combined : MethodName := ⟨RX1, "combined", "(III)I"⟩
abbrev cX1_partOf : ByteArray := prog_3_method_17_code
def yX1_partOf : MethodName := ⟨RX1, "partOf", "(I)I"⟩
abbrev cX1_rootOf : ByteArray := prog_3_method_18_code
def yX1_rootOf : MethodName := ⟨RX1, "rootOf", "(I)I"⟩
abbrev cX1_inside : ByteArray := prog_3_method_19_code
def yX1_inside : MethodName := ⟨RX1, "inside", "(III)I"⟩
def RX2 : String := "TokenFrames$Program"
def TX2 : u_T := fun k => match k with
  | 0 => ("TokenFrames$Program", "definitions", "I", false)
  | 1 => ("TokenFrames$Program", "arguments", "[I", true)
  | 2 => ("TokenFrames$Program", "parts", "[I", true)
  | 3 => ("TokenFrames$Program", "root", "[I", true)
  | 4 => ("TokenFrames$Program", "kind", "[I", true)
  | 5 => ("TokenFrames$Program", "number", "[I", true)
  | 6 => ("TokenFrames$Program", "children", "[I", true)
  | _ => ("TokenFrames$Program", "child", "[I", true)
def tyX2 : Nat → FieldType := fun k => match k with
  | 0 => .int
  | 1 => .array .int
  | 2 => .array .int
  | 3 => .array .int
  | 4 => .array .int
  | 5 => .array .int
  | 6 => .array .int
  | _ => .array .int
abbrev wsX20 : List Cond := u_ws RX2 TX2 8
theorem nmX2 : ∀ a, a < 8 → ∀ b, b < 8 → a ≠ b → (TX2 a).2.1 ≠ (TX2 b).2.1 := by decide +kernel
theorem tyX2_ok : ∀ k, k < 8 → parseFieldDescriptor (TX2 k).2.2.1 = some (tyX2 k) := by decide +kernel
abbrev cX2_init : ByteArray := prog_4_method_1_code
def yX2_init : MethodName := ⟨RX2, "<init>", "()V"⟩
abbrev cX2_isFull : ByteArray := prog_4_method_2_code
def yX2_isFull : MethodName := ⟨RX2, "isFull", "(I)Z"⟩
abbrev cX2_addPart : ByteArray := prog_4_method_3_code
def yX2_addPart : MethodName := ⟨RX2, "addPart", "(III)I"⟩
abbrev cX2_attach : ByteArray := prog_4_method_4_code
def yX2_attach : MethodName := ⟨RX2, "attach", "(II)V"⟩
abbrev cX2_childOf : ByteArray := prog_4_method_5_code
def yX2_childOf : MethodName := ⟨RX2, "childOf", "(II)I"⟩
def RX3 : String := "TokenFrames$Reader"
def TX3 : u_T := fun k => match k with
  | 0 => ("TokenFrames$Reader", "tape", "LTokenFrames$Tape;", true)
  | 1 => ("TokenFrames$Reader", "definitionNames", "[J", true)
  | 2 => ("TokenFrames$Reader", "argumentNames", "[J", true)
  | 3 => ("TokenFrames$Reader", "partNames", "[J", true)
  | 4 => ("TokenFrames$Reader", "partPlaces", "[I", true)
  | 5 => ("TokenFrames$Reader", "open", "[I", true)
  | 6 => ("TokenFrames$Reader", "program", "LTokenFrames$Program;", false)
  | 7 => ("TokenFrames$Reader", "current", "I", false)
  | 8 => ("TokenFrames$Reader", "opened", "I", false)
  | 9 => ("TokenFrames$Reader", "parentheses", "I", false)
  | 10 => ("TokenFrames$Reader", "latest", "I", false)
  | 11 => ("TokenFrames$Reader", "due", "I", false)
  | _ => ("TokenFrames$Reader", "fault", "I", false)
def tyX3 : Nat → FieldType := fun k => match k with
  | 0 => .object "TokenFrames$Tape"
  | 1 => .array .long
  | 2 => .array .long
  | 3 => .array .long
  | 4 => .array .int
  | 5 => .array .int
  | 6 => .object "TokenFrames$Program"
  | 7 => .int
  | 8 => .int
  | 9 => .int
  | 10 => .int
  | 11 => .int
  | _ => .int
abbrev wsX30 : List Cond := u_ws RX3 TX3 13
theorem nmX3 : ∀ a, a < 13 → ∀ b, b < 13 → a ≠ b → (TX3 a).2.1 ≠ (TX3 b).2.1 := by decide +kernel
theorem tyX3_ok : ∀ k, k < 13 → parseFieldDescriptor (TX3 k).2.2.1 = some (tyX3 k) := by decide +kernel
abbrev cX3_init : ByteArray := prog_5_method_1_code
def yX3_init : MethodName := ⟨RX3, "<init>", "()V"⟩
abbrev cX3_readText : ByteArray := prog_5_method_2_code
def yX3_readText : MethodName := ⟨RX3, "readText", "()I"⟩
abbrev cX3_exchangeFor : ByteArray := prog_5_method_3_code
def yX3_exchangeFor : MethodName := ⟨RX3, "exchangeFor", "(LTokenFrames$Program;)LTokenFrames$Program;"⟩
abbrev cX3_takeOfHead : ByteArray := prog_5_method_4_code
def yX3_takeOfHead : MethodName := ⟨RX3, "takeOfHead", "()V"⟩
abbrev cX3_takeDefinitionName : ByteArray := prog_5_method_5_code
def yX3_takeDefinitionName : MethodName := ⟨RX3, "takeDefinitionName", "()V"⟩
abbrev cX3_takeArgumentName : ByteArray := prog_5_method_6_code
def yX3_takeArgumentName : MethodName := ⟨RX3, "takeArgumentName", "()V"⟩
abbrev cX3_takeBeginning : ByteArray := prog_5_method_7_code
def yX3_takeBeginning : MethodName := ⟨RX3, "takeBeginning", "()V"⟩
abbrev cX3_takeName : ByteArray := prog_5_method_8_code
def yX3_takeName : MethodName := ⟨RX3, "takeName", "()V"⟩
abbrev cX3_takeIfOrLet : ByteArray := prog_5_method_9_code
def yX3_takeIfOrLet : MethodName := ⟨RX3, "takeIfOrLet", "()V"⟩
abbrev cX3_takeParenthesis : ByteArray := prog_5_method_10_code
def yX3_takeParenthesis : MethodName := ⟨RX3, "takeParenthesis", "()V"⟩
abbrev cX3_takeOfCallMakeLet : ByteArray := prog_5_method_11_code
def yX3_takeOfCallMakeLet : MethodName := ⟨RX3, "takeOfCallMakeLet", "()V"⟩
abbrev cX3_takeContinuation : ByteArray := prog_5_method_12_code
def yX3_takeContinuation : MethodName := ⟨RX3, "takeContinuation", "()V"⟩
abbrev cX3_takeSign : ByteArray := prog_5_method_13_code
def yX3_takeSign : MethodName := ⟨RX3, "takeSign", "(I)V"⟩
abbrev cX3_endExpression : ByteArray := prog_5_method_14_code
def yX3_endExpression : MethodName := ⟨RX3, "endExpression", "()V"⟩
abbrev cX3_endBody : ByteArray := prog_5_method_15_code
def yX3_endBody : MethodName := ⟨RX3, "endBody", "()V"⟩
abbrev cX3_endParentheses : ByteArray := prog_5_method_16_code
def yX3_endParentheses : MethodName := ⟨RX3, "endParentheses", "()V"⟩
abbrev cX3_endExpressionIn : ByteArray := prog_5_method_17_code
def yX3_endExpressionIn : MethodName := ⟨RX3, "endExpressionIn", "(I)V"⟩
abbrev cX3_wordBehind : ByteArray := prog_5_method_18_code
def yX3_wordBehind : MethodName := ⟨RX3, "wordBehind", "(I)I"⟩
abbrev cX3_isInLastExpression : ByteArray := prog_5_method_19_code
def yX3_isInLastExpression : MethodName := ⟨RX3, "isInLastExpression", "(I)Z"⟩
abbrev cX3_addLeaf : ByteArray := prog_5_method_20_code
def yX3_addLeaf : MethodName := ⟨RX3, "addLeaf", "(II)V"⟩
abbrev cX3_beginPart : ByteArray := prog_5_method_21_code
def yX3_beginPart : MethodName := ⟨RX3, "beginPart", "(II)I"⟩
abbrev cX3_beginPartBehind : ByteArray := prog_5_method_22_code
def yX3_beginPartBehind : MethodName := ⟨RX3, "beginPartBehind", "(I)V"⟩
abbrev cX3_begin : ByteArray := prog_5_method_23_code
def yX3_begin : MethodName := ⟨RX3, "begin", "(II)V"⟩
abbrev cX3_end : ByteArray := prog_5_method_24_code
def yX3_end : MethodName := ⟨RX3, "end", "()V"⟩
abbrev cX3_endWithLatest : ByteArray := prog_5_method_25_code
def yX3_endWithLatest : MethodName := ⟨RX3, "endWithLatest", "()V"⟩
abbrev cX3_endSigns : ByteArray := prog_5_method_26_code
def yX3_endSigns : MethodName := ⟨RX3, "endSigns", "(I)V"⟩
abbrev cX3_innermost : ByteArray := prog_5_method_27_code
def yX3_innermost : MethodName := ⟨RX3, "innermost", "()I"⟩
abbrev cX3_levelOf : ByteArray := prog_5_method_28_code
def yX3_levelOf : MethodName := ⟨RX3, "levelOf", "(I)I"⟩
abbrev cX3_levelOfSign : ByteArray := prog_5_method_29_code
def yX3_levelOfSign : MethodName := ⟨RX3, "levelOfSign", "(I)I"⟩
abbrev cX3_keepName : ByteArray := prog_5_method_30_code
def yX3_keepName : MethodName := ⟨RX3, "keepName", "(I)V"⟩
abbrev cX3_letNamed : ByteArray := prog_5_method_31_code
def yX3_letNamed : MethodName := ⟨RX3, "letNamed", "(J)I"⟩
abbrev cX3_argumentNamed : ByteArray := prog_5_method_32_code
def yX3_argumentNamed : MethodName := ⟨RX3, "argumentNamed", "(J)I"⟩
abbrev cX3_definitionNamed : ByteArray := prog_5_method_33_code
def yX3_definitionNamed : MethodName := ⟨RX3, "definitionNamed", "(J)I"⟩
abbrev cX3_bindCalls : ByteArray := prog_5_method_34_code
def yX3_bindCalls : MethodName := ⟨RX3, "bindCalls", "()V"⟩
abbrev cX3_bindCall : ByteArray := prog_5_method_35_code
def yX3_bindCall : MethodName := ⟨RX3, "bindCall", "(I)V"⟩
abbrev cX3_expect : ByteArray := prog_5_method_36_code
def yX3_expect : MethodName := ⟨RX3, "expect", "(II)V"⟩
abbrev cX3_fail : ByteArray := prog_5_method_37_code
def yX3_fail : MethodName := ⟨RX3, "fail", "()V"⟩
def RX4 : String := "TokenFrames$Slots"
def TX4 : u_T := fun k => match k with
  | 0 => ("TokenFrames$Slots", "bag", "LTokenFrames$Bag;", true)
  | 1 => ("TokenFrames$Slots", "state", "[I", true)
  | 2 => ("TokenFrames$Slots", "number", "[I", true)
  | 3 => ("TokenFrames$Slots", "array", "[I", true)
  | 4 => ("TokenFrames$Slots", "firstWaiting", "[I", true)
  | 5 => ("TokenFrames$Slots", "nextWaiting", "[I", true)
  | _ => ("TokenFrames$Slots", "known", "I", false)
def tyX4 : Nat → FieldType := fun k => match k with
  | 0 => .object "TokenFrames$Bag"
  | 1 => .array .int
  | 2 => .array .int
  | 3 => .array .int
  | 4 => .array .int
  | 5 => .array .int
  | _ => .int
abbrev wsX40 : List Cond := u_ws RX4 TX4 7
theorem nmX4 : ∀ a, a < 7 → ∀ b, b < 7 → a ≠ b → (TX4 a).2.1 ≠ (TX4 b).2.1 := by decide +kernel
theorem tyX4_ok : ∀ k, k < 7 → parseFieldDescriptor (TX4 k).2.2.1 = some (tyX4 k) := by decide +kernel
abbrev cX4_init : ByteArray := prog_6_method_1_code
def yX4_init : MethodName := ⟨RX4, "<init>", "()V"⟩
abbrev cX4_emptyFor : ByteArray := prog_6_method_2_code
def yX4_emptyFor : MethodName := ⟨RX4, "emptyFor", "(I)V"⟩
abbrev cX4_forget : ByteArray := prog_6_method_3_code
def yX4_forget : MethodName := ⟨RX4, "forget", "(II)V"⟩
abbrev cX4_reach : ByteArray := prog_6_method_4_code
def yX4_reach : MethodName := ⟨RX4, "reach", "(I)V"⟩
abbrev cX4_see : ByteArray := prog_6_method_5_code
def yX4_see : MethodName := ⟨RX4, "see", "(I)Z"⟩
abbrev cX4_isKnown : ByteArray := prog_6_method_6_code
def yX4_isKnown : MethodName := ⟨RX4, "isKnown", "(I)Z"⟩
abbrev cX4_numberAt : ByteArray := prog_6_method_7_code
def yX4_numberAt : MethodName := ⟨RX4, "numberAt", "(I)I"⟩
abbrev cX4_arrayAt : ByteArray := prog_6_method_8_code
def yX4_arrayAt : MethodName := ⟨RX4, "arrayAt", "(I)I"⟩
abbrev cX4_settle : ByteArray := prog_6_method_9_code
def yX4_settle : MethodName := ⟨RX4, "settle", "(III)V"⟩
abbrev cX4_has : ByteArray := prog_6_method_10_code
def yX4_has : MethodName := ⟨RX4, "has", "(II)Z"⟩
abbrev cX4_follow : ByteArray := prog_6_method_11_code
def yX4_follow : MethodName := ⟨RX4, "follow", "(II)V"⟩
def RX5 : String := "TokenFrames$Tape"
def TX5 : u_T := fun k => match k with
  | 0 => ("TokenFrames$Tape", "bytes", "[I", true)
  | 1 => ("TokenFrames$Tape", "next", "I", false)
  | 2 => ("TokenFrames$Tape", "length", "I", false)
  | 3 => ("TokenFrames$Tape", "kind", "I", false)
  | 4 => ("TokenFrames$Tape", "place", "I", false)
  | 5 => ("TokenFrames$Tape", "name", "J", false)
  | _ => ("TokenFrames$Tape", "number", "I", false)
def tyX5 : Nat → FieldType := fun k => match k with
  | 0 => .array .int
  | 1 => .int
  | 2 => .int
  | 3 => .int
  | 4 => .int
  | 5 => .long
  | _ => .int
abbrev wsX50 : List Cond := u_ws RX5 TX5 7
theorem nmX5 : ∀ a, a < 7 → ∀ b, b < 7 → a ≠ b → (TX5 a).2.1 ≠ (TX5 b).2.1 := by decide +kernel
theorem tyX5_ok : ∀ k, k < 7 → parseFieldDescriptor (TX5 k).2.2.1 = some (tyX5 k) := by decide +kernel
abbrev cX5_init : ByteArray := prog_7_method_1_code
def yX5_init : MethodName := ⟨RX5, "<init>", "()V"⟩
abbrev cX5_room : ByteArray := prog_7_method_2_code
def yX5_room : MethodName := ⟨RX5, "room", "()I"⟩
abbrev cX5_add : ByteArray := prog_7_method_3_code
def yX5_add : MethodName := ⟨RX5, "add", "(I)V"⟩
abbrev cX5_makeEmpty : ByteArray := prog_7_method_4_code
def yX5_makeEmpty : MethodName := ⟨RX5, "makeEmpty", "()V"⟩
abbrev cX5_goToFirst : ByteArray := prog_7_method_5_code
def yX5_goToFirst : MethodName := ⟨RX5, "goToFirst", "()V"⟩
abbrev cX5_advance : ByteArray := prog_7_method_6_code
def yX5_advance : MethodName := ⟨RX5, "advance", "()V"⟩
abbrev cX5_isParenthesisNext : ByteArray := prog_7_method_7_code
def yX5_isParenthesisNext : MethodName := ⟨RX5, "isParenthesisNext", "()Z"⟩
abbrev cX5_takeRow : ByteArray := prog_7_method_8_code
def yX5_takeRow : MethodName := ⟨RX5, "takeRow", "()V"⟩
abbrev cX5_wordOrName : ByteArray := prog_7_method_9_code
def yX5_wordOrName : MethodName := ⟨RX5, "wordOrName", "(J)I"⟩
abbrev cX5_isBlank : ByteArray := prog_7_method_10_code
def yX5_isBlank : MethodName := ⟨RX5, "isBlank", "(I)Z"⟩
abbrev cX5_isLetter : ByteArray := prog_7_method_11_code
def yX5_isLetter : MethodName := ⟨RX5, "isLetter", "(I)Z"⟩
abbrev cX5_isDigit : ByteArray := prog_7_method_12_code
def yX5_isDigit : MethodName := ⟨RX5, "isDigit", "(I)Z"⟩
def RX6 : String := "TokenFrames"
def TX6 : u_T := fun k => match k with
  | 0 => ("TokenFrames", "reader", "LTokenFrames$Reader;", true)
  | 1 => ("TokenFrames", "machine", "LTokenFrames$Machine;", true)
  | 2 => ("TokenFrames", "latestCounts", "[I", true)
  | _ => ("TokenFrames", "latestValue", "I", false)
def tyX6 : Nat → FieldType := fun k => match k with
  | 0 => .object "TokenFrames$Reader"
  | 1 => .object "TokenFrames$Machine"
  | 2 => .array .int
  | _ => .int
abbrev wsX60 : List Cond := u_ws RX6 TX6 4
theorem nmX6 : ∀ a, a < 4 → ∀ b, b < 4 → a ≠ b → (TX6 a).2.1 ≠ (TX6 b).2.1 := by decide +kernel
theorem tyX6_ok : ∀ k, k < 4 → parseFieldDescriptor (TX6 k).2.2.1 = some (tyX6 k) := by decide +kernel
abbrev cX6_init : ByteArray := prog_1_method_1_code
def yX6_init : MethodName := ⟨RX6, "<init>", "()V"⟩
abbrev cX6_feed : ByteArray := prog_1_method_2_code
def yX6_feed : MethodName := ⟨RX6, "feed", "(IIIII)I"⟩
abbrev cX6_read : ByteArray := prog_1_method_3_code
def yX6_read : MethodName := ⟨RX6, "read", "()I"⟩
abbrev cX6_run : ByteArray := prog_1_method_4_code
def yX6_run : MethodName := ⟨RX6, "run", "(IIII)I"⟩
abbrev cX6_value : ByteArray := prog_1_method_5_code
def yX6_value : MethodName := ⟨RX6, "value", "()I"⟩
abbrev cX6_count : ByteArray := prog_1_method_6_code
def yX6_count : MethodName := ⟨RX6, "count", "(I)I"⟩
abbrev cX6_definition : ByteArray := prog_1_method_7_code
def yX6_definition : MethodName := ⟨RX6, "definition", "(II)I"⟩
abbrev cX6_clear : ByteArray := prog_1_method_8_code
def yX6_clear : MethodName := ⟨RX6, "clear", "()V"⟩
abbrev cX6_forgetRun : ByteArray := prog_1_method_9_code
def yX6_forgetRun : MethodName := ⟨RX6, "forgetRun", "()V"⟩
def RX7 : String := "TokenFramesModel"
def TX7 : u_T := fun k => match k with
  | 0 => ("TokenFramesModel", "code", "I", false)
  | 1 => ("TokenFramesModel", "tape", "[B", true)
  | 2 => ("TokenFramesModel", "size", "I", false)
  | 3 => ("TokenFramesModel", "bank", "I", false)
  | 4 => ("TokenFramesModel", "definitions", "I", false)
  | 5 => ("TokenFramesModel", "arities", "[I", true)
  | 6 => ("TokenFramesModel", "partCounts", "[I", true)
  | 7 => ("TokenFramesModel", "roots", "[I", true)
  | 8 => ("TokenFramesModel", "kinds", "[I", true)
  | 9 => ("TokenFramesModel", "signs", "[I", true)
  | 10 => ("TokenFramesModel", "firsts", "[I", true)
  | 11 => ("TokenFramesModel", "seconds", "[I", true)
  | 12 => ("TokenFramesModel", "thirds", "[I", true)
  | 13 => ("TokenFramesModel", "argumentRows", "[I", true)
  | 14 => ("TokenFramesModel", "nextArguments", "[I", true)
  | 15 => ("TokenFramesModel", "places", "[I", true)
  | 16 => ("TokenFramesModel", "calledArities", "[I", true)
  | 17 => ("TokenFramesModel", "targets", "[I", true)
  | 18 => ("TokenFramesModel", "at", "I", false)
  | 19 => ("TokenFramesModel", "end", "I", false)
  | 20 => ("TokenFramesModel", "token", "I", false)
  | 21 => ("TokenFramesModel", "word", "I", false)
  | 22 => ("TokenFramesModel", "number", "J", false)
  | 23 => ("TokenFramesModel", "definitionNames", "[J", true)
  | 24 => ("TokenFramesModel", "argumentNames", "[J", true)
  | 25 => ("TokenFramesModel", "letNames", "[J", true)
  | 26 => ("TokenFramesModel", "letParts", "[I", true)
  | 27 => ("TokenFramesModel", "lets", "I", false)
  | 28 => ("TokenFramesModel", "parts", "I", false)
  | 29 => ("TokenFramesModel", "definition", "I", false)
  | 30 => ("TokenFramesModel", "calledNames", "[J", true)
  | 31 => ("TokenFramesModel", "todo", "[I", true)
  | 32 => ("TokenFramesModel", "with", "[I", true)
  | 33 => ("TokenFramesModel", "depth", "I", false)
  | 34 => ("TokenFramesModel", "values", "[I", true)
  | 35 => ("TokenFramesModel", "valueCount", "I", false)
  | 36 => ("TokenFramesModel", "right", "Z", false)
  | 37 => ("TokenFramesModel", "brackets", "I", false)
  | 38 => ("TokenFramesModel", "callDefinitions", "[I", true)
  | 39 => ("TokenFramesModel", "argumentParts", "[I", true)
  | 40 => ("TokenFramesModel", "argumentNumbers", "[I", true)
  | 41 => ("TokenFramesModel", "argumentArrays", "[I", true)
  | 42 => ("TokenFramesModel", "calls", "I", false)
  | 43 => ("TokenFramesModel", "most", "I", false)
  | 44 => ("TokenFramesModel", "over", "Z", false)
  | 45 => ("TokenFramesModel", "reached", "[Z", true)
  | 46 => ("TokenFramesModel", "known", "[Z", true)
  | 47 => ("TokenFramesModel", "numbers", "[I", true)
  | 48 => ("TokenFramesModel", "arrays", "[I", true)
  | 49 => ("TokenFramesModel", "made", "[I", true)
  | 50 => ("TokenFramesModel", "cellCounts", "[I", true)
  | 51 => ("TokenFramesModel", "changed", "Z", false)
  | 52 => ("TokenFramesModel", "outcome", "I", false)
  | 53 => ("TokenFramesModel", "result", "I", false)
  | _ => ("TokenFramesModel", "told", "[I", true)
def tyX7 : Nat → FieldType := fun k => match k with
  | 0 => .int
  | 1 => .array .byte
  | 2 => .int
  | 3 => .int
  | 4 => .int
  | 5 => .array .int
  | 6 => .array .int
  | 7 => .array .int
  | 8 => .array .int
  | 9 => .array .int
  | 10 => .array .int
  | 11 => .array .int
  | 12 => .array .int
  | 13 => .array .int
  | 14 => .array .int
  | 15 => .array .int
  | 16 => .array .int
  | 17 => .array .int
  | 18 => .int
  | 19 => .int
  | 20 => .int
  | 21 => .int
  | 22 => .long
  | 23 => .array .long
  | 24 => .array .long
  | 25 => .array .long
  | 26 => .array .int
  | 27 => .int
  | 28 => .int
  | 29 => .int
  | 30 => .array .long
  | 31 => .array .int
  | 32 => .array .int
  | 33 => .int
  | 34 => .array .int
  | 35 => .int
  | 36 => .boolean
  | 37 => .int
  | 38 => .array .int
  | 39 => .array .int
  | 40 => .array .int
  | 41 => .array .int
  | 42 => .int
  | 43 => .int
  | 44 => .boolean
  | 45 => .array .boolean
  | 46 => .array .boolean
  | 47 => .array .int
  | 48 => .array .int
  | 49 => .array .int
  | 50 => .array .int
  | 51 => .boolean
  | 52 => .int
  | 53 => .int
  | _ => .array .int
abbrev wsX70 : List Cond := u_ws RX7 TX7 55
theorem nmX7 : ∀ a, a < 55 → ∀ b, b < 55 → a ≠ b → (TX7 a).2.1 ≠ (TX7 b).2.1 := by decide +kernel
theorem tyX7_ok : ∀ k, k < 55 → parseFieldDescriptor (TX7 k).2.2.1 = some (tyX7 k) := by decide +kernel
abbrev cX7_init : ByteArray := prog_9_method_1_code
def yX7_init : MethodName := ⟨RX7, "<init>", "()V"⟩
abbrev cX7_thrown : ByteArray := prog_9_method_2_code
def yX7_thrown : MethodName := ⟨RX7, "thrown", "()I"⟩
abbrev cX7_feed : ByteArray := prog_9_method_3_code
def yX7_feed : MethodName := ⟨RX7, "feed", "(IIIII)I"⟩
abbrev cX7_isBlank : ByteArray := prog_9_method_4_code
def yX7_isBlank : MethodName := ⟨RX7, "isBlank", "(I)Z"⟩
abbrev cX7_isLetter : ByteArray := prog_9_method_5_code
def yX7_isLetter : MethodName := ⟨RX7, "isLetter", "(I)Z"⟩
abbrev cX7_isDigit : ByteArray := prog_9_method_6_code
def yX7_isDigit : MethodName := ⟨RX7, "isDigit", "(I)Z"⟩
abbrev cX7_isRow : ByteArray := prog_9_method_7_code
def yX7_isRow : MethodName := ⟨RX7, "isRow", "(I)Z"⟩
abbrev cX7_is : ByteArray := prog_9_method_8_code
def yX7_is : MethodName := ⟨RX7, "is", "(IIII)Z"⟩
abbrev cX7_wordOf : ByteArray := prog_9_method_9_code
def yX7_wordOf : MethodName := ⟨RX7, "wordOf", "()I"⟩
abbrev cX7_look : ByteArray := prog_9_method_10_code
def yX7_look : MethodName := ⟨RX7, "look", "()V"⟩
abbrev cX7_go : ByteArray := prog_9_method_11_code
def yX7_go : MethodName := ⟨RX7, "go", "()V"⟩
abbrev cX7_isSign : ByteArray := prog_9_method_12_code
def yX7_isSign : MethodName := ⟨RX7, "isSign", "(I)Z"⟩
abbrev cX7_take : ByteArray := prog_9_method_13_code
def yX7_take : MethodName := ⟨RX7, "take", "(I)Z"⟩
abbrev cX7_nameOf : ByteArray := prog_9_method_15_code
def yX7_nameOf : MethodName := ⟨RX7, "nameOf", "()J"⟩
abbrev cX7_part0 : ByteArray := prog_9_method_16_code
def yX7_part0 : MethodName := ⟨RX7, "part0", "()I"⟩
abbrev cX7_need : ByteArray := prog_9_method_17_code
def yX7_need : MethodName := ⟨RX7, "need", "(Z)V"⟩
abbrev cX7_part : ByteArray := prog_9_method_18_code
def yX7_part : MethodName := ⟨RX7, "part", "(II)I"⟩
abbrev cX7_later : ByteArray := prog_9_method_19_code
def yX7_later : MethodName := ⟨RX7, "later", "(II)V"⟩
abbrev cX7_give : ByteArray := prog_9_method_20_code
def yX7_give : MethodName := ⟨RX7, "give", "(I)V"⟩
abbrev cX7_got : ByteArray := prog_9_method_21_code
def yX7_got : MethodName := ⟨RX7, "got", "()I"⟩
abbrev cX7_variable : ByteArray := prog_9_method_22_code
def yX7_variable : MethodName := ⟨RX7, "variable", "()I"⟩
abbrev cX7_addArgument : ByteArray := prog_9_method_23_code
def yX7_addArgument : MethodName := ⟨RX7, "addArgument", "(II)V"⟩
abbrev cX7_expression : ByteArray := prog_9_method_24_code
def yX7_expression : MethodName := ⟨RX7, "expression", "()V"⟩
abbrev cX7_factor : ByteArray := prog_9_method_25_code
def yX7_factor : MethodName := ⟨RX7, "factor", "()V"⟩
abbrev cX7_named : ByteArray := prog_9_method_26_code
def yX7_named : MethodName := ⟨RX7, "named", "()V"⟩
abbrev cX7_listed : ByteArray := prog_9_method_27_code
def yX7_listed : MethodName := ⟨RX7, "listed", "(II)V"⟩
abbrev cX7_closed : ByteArray := prog_9_method_28_code
def yX7_closed : MethodName := ⟨RX7, "closed", "(II)V"⟩
abbrev cX7_operator : ByteArray := prog_9_method_29_code
def yX7_operator : MethodName := ⟨RX7, "operator", "(I)I"⟩
abbrev cX7_second : ByteArray := prog_9_method_30_code
def yX7_second : MethodName := ⟨RX7, "second", "(I)V"⟩
abbrev cX7_step : ByteArray := prog_9_method_31_code
def yX7_step : MethodName := ⟨RX7, "step", "(II)V"⟩
abbrev cX7_more : ByteArray := prog_9_method_32_code
def yX7_more : MethodName := ⟨RX7, "more", "(II)V"⟩
abbrev cX7_rest : ByteArray := prog_9_method_33_code
def yX7_rest : MethodName := ⟨RX7, "rest", "(II)V"⟩
abbrev cX7_readExpression : ByteArray := prog_9_method_34_code
def yX7_readExpression : MethodName := ⟨RX7, "readExpression", "()V"⟩
abbrev cX7_isTaken : ByteArray := prog_9_method_35_code
def yX7_isTaken : MethodName := ⟨RX7, "isTaken", "(J)Z"⟩
abbrev cX7_readArguments : ByteArray := prog_9_method_36_code
def yX7_readArguments : MethodName := ⟨RX7, "readArguments", "()V"⟩
abbrev cX7_needSign : ByteArray := prog_9_method_37_code
def yX7_needSign : MethodName := ⟨RX7, "needSign", "(I)V"⟩
abbrev cX7_readDefinition : ByteArray := prog_9_method_38_code
def yX7_readDefinition : MethodName := ⟨RX7, "readDefinition", "()V"⟩
abbrev cX7_link : ByteArray := prog_9_method_39_code
def yX7_link : MethodName := ⟨RX7, "link", "(I)I"⟩
abbrev cX7_read : ByteArray := prog_9_method_40_code
def yX7_read : MethodName := ⟨RX7, "read", "()I"⟩
abbrev cX7_partOf : ByteArray := prog_9_method_41_code
def yX7_partOf : MethodName := ⟨RX7, "partOf", "(I)I"⟩
abbrev cX7_here : ByteArray := prog_9_method_42_code
def yX7_here : MethodName := ⟨RX7, "here", "(II)I"⟩
abbrev cX7_rootOf : ByteArray := prog_9_method_43_code
def yX7_rootOf : MethodName := ⟨RX7, "rootOf", "(I)I"⟩
abbrev cX7_reach : ByteArray := prog_9_method_44_code
def yX7_reach : MethodName := ⟨RX7, "reach", "(I)V"⟩
abbrev cX7_know : ByteArray := prog_9_method_45_code
def yX7_know : MethodName := ⟨RX7, "know", "(III)V"⟩
abbrev cX7_same : ByteArray := prog_9_method_46_code
def yX7_same : MethodName := ⟨RX7, "same", "(II)V"⟩
abbrev cX7_numberOf : ByteArray := prog_9_method_47_code
def yX7_numberOf : MethodName := ⟨RX7, "numberOf", "(I)I"⟩
abbrev cX7_call : ByteArray := prog_9_method_48_code
def yX7_call : MethodName := ⟨RX7, "call", "(I)I"⟩
abbrev cX7_argument : ByteArray := prog_9_method_49_code
def yX7_argument : MethodName := ⟨RX7, "argument", "(IIIII)V"⟩
abbrev cX7_hand : ByteArray := prog_9_method_50_code
def yX7_hand : MethodName := ⟨RX7, "hand", "(III)V"⟩
abbrev cX7_reachArguments : ByteArray := prog_9_method_51_code
def yX7_reachArguments : MethodName := ⟨RX7, "reachArguments", "(I)V"⟩
abbrev cX7_operate : ByteArray := prog_9_method_52_code
def yX7_operate : MethodName := ⟨RX7, "operate", "(III)I"⟩
abbrev cX7_workCall : ByteArray := prog_9_method_53_code
def yX7_workCall : MethodName := ⟨RX7, "workCall", "(II)V"⟩
abbrev cX7_workMake : ByteArray := prog_9_method_54_code
def yX7_workMake : MethodName := ⟨RX7, "workMake", "(II)V"⟩
abbrev cX7_workFetch : ByteArray := prog_9_method_55_code
def yX7_workFetch : MethodName := ⟨RX7, "workFetch", "(II)V"⟩
abbrev cX7_workIf : ByteArray := prog_9_method_56_code
def yX7_workIf : MethodName := ⟨RX7, "workIf", "(II)V"⟩
abbrev cX7_workArgument : ByteArray := prog_9_method_57_code
def yX7_workArgument : MethodName := ⟨RX7, "workArgument", "(II)V"⟩
abbrev cX7_work : ByteArray := prog_9_method_58_code
def yX7_work : MethodName := ⟨RX7, "work", "(I)V"⟩
abbrev cX7_run : ByteArray := prog_9_method_59_code
def yX7_run : MethodName := ⟨RX7, "run", "(IIII)I"⟩
abbrev cX7_tell : ByteArray := prog_9_method_60_code
def yX7_tell : MethodName := ⟨RX7, "tell", "()V"⟩
abbrev cX7_value : ByteArray := prog_9_method_61_code
def yX7_value : MethodName := ⟨RX7, "value", "()I"⟩
abbrev cX7_count : ByteArray := prog_9_method_62_code
def yX7_count : MethodName := ⟨RX7, "count", "(I)I"⟩
abbrev cX7_definition : ByteArray := prog_9_method_63_code
def yX7_definition : MethodName := ⟨RX7, "definition", "(II)I"⟩
abbrev cX7_clear : ByteArray := prog_9_method_64_code
def yX7_clear : MethodName := ⟨RX7, "clear", "()V"⟩
def RJ11 : String := "java/lang/Character"
def TJ11 : u_T := fun k => match k with
  | _ => ("", "", "", false)
def tyJ11 : Nat → FieldType := fun k => match k with
  | _ => .int
abbrev wsJ110 : List Cond := u_ws RJ11 TJ11 0
theorem nmJ11 : ∀ a, a < 0 → ∀ b, b < 0 → a ≠ b → (TJ11 a).2.1 ≠ (TJ11 b).2.1 := by decide +kernel
theorem tyJ11_ok : ∀ k, k < 0 → parseFieldDescriptor (TJ11 k).2.2.1 = some (tyJ11 k) := by decide +kernel
abbrev cJ11_isValidCodePoint_9a6ad : ByteArray := prog_10_method_11_code
def yJ11_isValidCodePoint_9a6ad : MethodName := ⟨RJ11, "isValidCodePoint", "(I)Z"⟩
abbrev cJ11_highSurrogate_5068e : ByteArray := prog_10_method_28_code
def yJ11_highSurrogate_5068e : MethodName := ⟨RJ11, "highSurrogate", "(I)C"⟩
abbrev cJ11_lowSurrogate_5068e : ByteArray := prog_10_method_29_code
def yJ11_lowSurrogate_5068e : MethodName := ⟨RJ11, "lowSurrogate", "(I)C"⟩
def RJ9 : String := "java/lang/Math"
def TJ9 : u_T := fun k => match k with
  | _ => ("", "", "", false)
def tyJ9 : Nat → FieldType := fun k => match k with
  | _ => .int
abbrev wsJ90 : List Cond := u_ws RJ9 TJ9 0
theorem nmJ9 : ∀ a, a < 0 → ∀ b, b < 0 → a ≠ b → (TJ9 a).2.1 ≠ (TJ9 b).2.1 := by decide +kernel
theorem tyJ9_ok : ∀ k, k < 0 → parseFieldDescriptor (TJ9 k).2.2.1 = some (tyJ9 k) := by decide +kernel
abbrev cJ9_max_7cf53 : ByteArray := prog_15_method_65_code
def yJ9_max_7cf53 : MethodName := ⟨RJ9, "max", "(II)I"⟩
abbrev cJ9_min_7cf53 : ByteArray := prog_15_method_69_code
def yJ9_min_7cf53 : MethodName := ⟨RJ9, "min", "(II)I"⟩
abbrev cJ9_min_f86c9 : ByteArray := prog_15_method_70_code
def yJ9_min_f86c9 : MethodName := ⟨RJ9, "min", "(JJ)J"⟩
def RJ0 : String := "java/lang/String"
def TJ0 : u_T := fun k => match k with
  | _ => ("", "", "", false)
def tyJ0 : Nat → FieldType := fun k => match k with
  | _ => .int
abbrev wsJ00 : List Cond := u_ws RJ0 TJ0 0
theorem nmJ0 : ∀ a, a < 0 → ∀ b, b < 0 → a ≠ b → (TJ0 a).2.1 ≠ (TJ0 b).2.1 := by decide +kernel
theorem tyJ0_ok : ∀ k, k < 0 → parseFieldDescriptor (TJ0 k).2.2.1 = some (tyJ0 k) := by decide +kernel
abbrev cJ0_length_8abf5 : ByteArray := prog_17_method_54_code
def yJ0_length_8abf5 : MethodName := ⟨RJ0, "length", "()I"⟩
abbrev cJ0_indexOf_0f7a4 : ByteArray := prog_17_method_79_code
def yJ0_indexOf_0f7a4 : MethodName := ⟨RJ0, "indexOf", "(I)I"⟩
abbrev cJ0_indexOf_7cf53 : ByteArray := prog_17_method_80_code
def yJ0_indexOf_7cf53 : MethodName := ⟨RJ0, "indexOf", "(II)I"⟩
abbrev cJ0_coder_7d493 : ByteArray := prog_17_method_152_code
def yJ0_coder_7d493 : MethodName := ⟨RJ0, "coder", "()B"⟩
abbrev cJ0_isLatin1_aae02 : ByteArray := prog_17_method_154_code
def yJ0_isLatin1_aae02 : MethodName := ⟨RJ0, "isLatin1", "()Z"⟩
abbrev cJ0_checkBoundsBeginEnd_23922 : ByteArray := prog_17_method_158_code
def yJ0_checkBoundsBeginEnd_23922 : MethodName := ⟨RJ0, "checkBoundsBeginEnd", "(III)V"⟩
def RJ1 : String := "java/lang/StringLatin1"
def TJ1 : u_T := fun k => match k with
  | _ => ("", "", "", false)
def tyJ1 : Nat → FieldType := fun k => match k with
  | _ => .int
abbrev wsJ10 : List Cond := u_ws RJ1 TJ1 0
theorem nmJ1 : ∀ a, a < 0 → ∀ b, b < 0 → a ≠ b → (TJ1 a).2.1 ≠ (TJ1 b).2.1 := by decide +kernel
theorem tyJ1_ok : ∀ k, k < 0 → parseFieldDescriptor (TJ1 k).2.2.1 = some (tyJ1 k) := by decide +kernel
abbrev cJ1_canEncode_9a6ad : ByteArray := prog_18_method_4_code
def yJ1_canEncode_9a6ad : MethodName := ⟨RJ1, "canEncode", "(I)Z"⟩
abbrev cJ1_indexOf_4cfef : ByteArray := prog_18_method_22_code
def yJ1_indexOf_4cfef : MethodName := ⟨RJ1, "indexOf", "([BIII)I"⟩
abbrev cJ1_indexOfChar_4cfef : ByteArray := prog_18_method_23_code
def yJ1_indexOfChar_4cfef : MethodName := ⟨RJ1, "indexOfChar", "([BIII)I"⟩
def RJ2 : String := "java/lang/StringUTF16"
def TJ2 : u_T := fun k => match k with
  | _ => ("", "", "", false)
def tyJ2 : Nat → FieldType := fun k => match k with
  | _ => .int
abbrev wsJ20 : List Cond := u_ws RJ2 TJ2 0
theorem nmJ2 : ∀ a, a < 0 → ∀ b, b < 0 → a ≠ b → (TJ2 a).2.1 ≠ (TJ2 b).2.1 := by decide +kernel
theorem tyJ2_ok : ∀ k, k < 0 → parseFieldDescriptor (TJ2 k).2.2.1 = some (tyJ2 k) := by decide +kernel
abbrev cJ2_getChar_3b067 : ByteArray := prog_19_method_5_code
def yJ2_getChar_3b067 : MethodName := ⟨RJ2, "getChar", "([BI)C"⟩
abbrev cJ2_length_9d52b : ByteArray := prog_19_method_6_code
def yJ2_length_9d52b : MethodName := ⟨RJ2, "length", "([B)I"⟩
abbrev cJ2_indexOf_4cfef : ByteArray := prog_19_method_40_code
def yJ2_indexOf_4cfef : MethodName := ⟨RJ2, "indexOf", "([BIII)I"⟩
abbrev cJ2_indexOfChar_4cfef : ByteArray := prog_19_method_47_code
def yJ2_indexOfChar_4cfef : MethodName := ⟨RJ2, "indexOfChar", "([BIII)I"⟩
abbrev cJ2_indexOfCharUnsafe_4cfef : ByteArray := prog_19_method_48_code
def yJ2_indexOfCharUnsafe_4cfef : MethodName := ⟨RJ2, "indexOfCharUnsafe", "([BIII)I"⟩
abbrev cJ2_indexOfSupplementary_4cfef : ByteArray := prog_19_method_49_code
def yJ2_indexOfSupplementary_4cfef : MethodName := ⟨RJ2, "indexOfSupplementary", "([BIII)I"⟩
abbrev cJ2_checkBoundsBeginEnd_d044e : ByteArray := prog_19_method_93_code
def yJ2_checkBoundsBeginEnd_d044e : MethodName := ⟨RJ2, "checkBoundsBeginEnd", "(II[B)V"⟩
def RJ3 : String := "jdk/internal/util/Preconditions"
def TJ3 : u_T := fun k => match k with
  | _ => ("", "", "", false)
def tyJ3 : Nat → FieldType := fun k => match k with
  | _ => .int
abbrev wsJ30 : List Cond := u_ws RJ3 TJ3 0
theorem nmJ3 : ∀ a, a < 0 → ∀ b, b < 0 → a ≠ b → (TJ3 a).2.1 ≠ (TJ3 b).2.1 := by decide +kernel
theorem tyJ3_ok : ∀ k, k < 0 → parseFieldDescriptor (TJ3 k).2.2.1 = some (tyJ3 k) := by decide +kernel
abbrev cJ3_checkFromToIndex_8c36e : ByteArray := prog_22_method_12_code
def yJ3_checkFromToIndex_8c36e : MethodName := ⟨RJ3, "checkFromToIndex", "(IIILjava/util/function/BiFunction;)I"⟩
def RL : String := "TokenFramesLaw"
abbrev cL_feed : ByteArray := method_3_code
def yL_feed : MethodName := ⟨RL, "feed", "(LTokenFrames;IIIII[J)I"⟩
abbrev cL_run : ByteArray := method_4_code
def yL_run : MethodName := ⟨RL, "run", "(LTokenFrames;IIII[J)I"⟩
abbrev cL_count : ByteArray := method_5_code
def yL_count : MethodName := ⟨RL, "count", "(LTokenFrames;I[J)I"⟩
abbrev cL_definition : ByteArray := method_6_code
def yL_definition : MethodName := ⟨RL, "definition", "(LTokenFrames;II[J)I"⟩
abbrev cL_law : ByteArray := code
def yL_law : MethodName := ⟨RL, "law", "([I)Z"⟩
set_option maxRecDepth 20000 in
abbrev vwCl : List vw_C := [(RX0, TX0, 5), (RX1, TX1, 12), (RX2, TX2, 8), (RX3, TX3, 13), (RX4, TX4, 7), (RX5, TX5, 7), (RX6, TX6, 4), (RX7, TX7, 55)]
end
section
theorem dX0_init_0 : decode cX0_init 0 = .ok (.aload_n 0, 1) := by decide +kernel
theorem dX0_init_1 : decode cX0_init 1 = .ok (.invokespecial 1, 3) := by decide +kernel
theorem dX0_init_4 : decode cX0_init 4 = .ok (.aload_n 0, 1) := by decide +kernel
theorem dX0_init_5 : decode cX0_init 5 = .ok (.sipush 18000, 3) := by decide +kernel
theorem dX0_init_8 : decode cX0_init 8 = .ok (.newarray .int, 2) := by decide +kernel
theorem dX0_init_10 : decode cX0_init 10 = .ok (.putfield 9, 3) := by decide +kernel
theorem dX0_init_13 : decode cX0_init 13 = .ok (.return_, 1) := by decide +kernel
theorem dX0_emptyFor_0 : decode cX0_emptyFor 0 = .ok (.aload_n 0, 1) := by decide +kernel
theorem dX0_emptyFor_1 : decode cX0_emptyFor 1 = .ok (.iconst 0, 1) := by decide +kernel
theorem dX0_emptyFor_2 : decode cX0_emptyFor 2 = .ok (.putfield 15, 3) := by decide +kernel
theorem dX0_emptyFor_5 : decode cX0_emptyFor 5 = .ok (.aload_n 0, 1) := by decide +kernel
theorem dX0_emptyFor_6 : decode cX0_emptyFor 6 = .ok (.iconst 0, 1) := by decide +kernel
theorem dX0_emptyFor_7 : decode cX0_emptyFor 7 = .ok (.putfield 19, 3) := by decide +kernel
theorem dX0_emptyFor_10 : decode cX0_emptyFor 10 = .ok (.aload_n 0, 1) := by decide +kernel
theorem dX0_emptyFor_11 : decode cX0_emptyFor 11 = .ok (.iload_n 1, 1) := by decide +kernel
theorem dX0_emptyFor_12 : decode cX0_emptyFor 12 = .ok (.putfield 22, 3) := by decide +kernel
theorem dX0_emptyFor_15 : decode cX0_emptyFor 15 = .ok (.aload_n 0, 1) := by decide +kernel
theorem dX0_emptyFor_16 : decode cX0_emptyFor 16 = .ok (.iload_n 1, 1) := by decide +kernel
theorem dX0_emptyFor_17 : decode cX0_emptyFor 17 = .ok (.putfield 25, 3) := by decide +kernel
theorem dX0_emptyFor_20 : decode cX0_emptyFor 20 = .ok (.return_, 1) := by decide +kernel
theorem dX0_isEmpty_0 : decode cX0_isEmpty 0 = .ok (.aload_n 0, 1) := by decide +kernel
theorem dX0_isEmpty_1 : decode cX0_isEmpty 1 = .ok (.getfield 19, 3) := by decide +kernel
theorem dX0_isEmpty_4 : decode cX0_isEmpty 4 = .ok (.ifCond .ne 7, 3) := by decide +kernel
theorem dX0_isEmpty_7 : decode cX0_isEmpty 7 = .ok (.iconst 1, 1) := by decide +kernel
theorem dX0_isEmpty_8 : decode cX0_isEmpty 8 = .ok (.goto 4, 3) := by decide +kernel
theorem dX0_isEmpty_11 : decode cX0_isEmpty 11 = .ok (.iconst 0, 1) := by decide +kernel
theorem dX0_isEmpty_12 : decode cX0_isEmpty 12 = .ok (.ireturn, 1) := by decide +kernel
theorem dX0_put_0 : decode cX0_put 0 = .ok (.aload_n 0, 1) := by decide +kernel
theorem dX0_put_1 : decode cX0_put 1 = .ok (.getfield 19, 3) := by decide +kernel
theorem dX0_put_4 : decode cX0_put 4 = .ok (.aload_n 0, 1) := by decide +kernel
theorem dX0_put_5 : decode cX0_put 5 = .ok (.getfield 9, 3) := by decide +kernel
theorem dX0_put_8 : decode cX0_put 8 = .ok (.arraylength, 1) := by decide +kernel
theorem dX0_put_9 : decode cX0_put 9 = .ok (.if_icmp .ge 34, 3) := by decide +kernel
theorem dX0_put_12 : decode cX0_put 12 = .ok (.aload_n 0, 1) := by decide +kernel
theorem dX0_put_13 : decode cX0_put 13 = .ok (.getfield 9, 3) := by decide +kernel
theorem dX0_put_16 : decode cX0_put 16 = .ok (.aload_n 0, 1) := by decide +kernel
theorem dX0_put_17 : decode cX0_put 17 = .ok (.getfield 15, 3) := by decide +kernel
theorem dX0_put_20 : decode cX0_put 20 = .ok (.aload_n 0, 1) := by decide +kernel
theorem dX0_put_21 : decode cX0_put 21 = .ok (.getfield 19, 3) := by decide +kernel
theorem dX0_put_24 : decode cX0_put 24 = .ok (.iadd, 1) := by decide +kernel
theorem dX0_put_25 : decode cX0_put 25 = .ok (.aload_n 0, 1) := by decide +kernel
theorem dX0_put_26 : decode cX0_put 26 = .ok (.getfield 9, 3) := by decide +kernel
theorem dX0_put_29 : decode cX0_put 29 = .ok (.arraylength, 1) := by decide +kernel
theorem dX0_put_30 : decode cX0_put 30 = .ok (.irem, 1) := by decide +kernel
theorem dX0_put_31 : decode cX0_put 31 = .ok (.iload_n 1, 1) := by decide +kernel
theorem dX0_put_32 : decode cX0_put 32 = .ok (.iastore, 1) := by decide +kernel
theorem dX0_put_33 : decode cX0_put 33 = .ok (.aload_n 0, 1) := by decide +kernel
theorem dX0_put_34 : decode cX0_put 34 = .ok (.dup, 1) := by decide +kernel
theorem dX0_put_35 : decode cX0_put 35 = .ok (.getfield 19, 3) := by decide +kernel
theorem dX0_put_38 : decode cX0_put 38 = .ok (.iconst 1, 1) := by decide +kernel
theorem dX0_put_39 : decode cX0_put 39 = .ok (.iadd, 1) := by decide +kernel
theorem dX0_put_40 : decode cX0_put 40 = .ok (.putfield 19, 3) := by decide +kernel
theorem dX0_put_43 : decode cX0_put 43 = .ok (.return_, 1) := by decide +kernel
theorem dX0_take_0 : decode cX0_take 0 = .ok (.aload_n 0, 1) := by decide +kernel
theorem dX0_take_1 : decode cX0_take 1 = .ok (.getfield 15, 3) := by decide +kernel
theorem dX0_take_4 : decode cX0_take 4 = .ok (.istore_n 1, 1) := by decide +kernel
theorem dX0_take_5 : decode cX0_take 5 = .ok (.aload_n 0, 1) := by decide +kernel
theorem dX0_take_6 : decode cX0_take 6 = .ok (.getfield 15, 3) := by decide +kernel
theorem dX0_take_9 : decode cX0_take 9 = .ok (.aload_n 0, 1) := by decide +kernel
theorem dX0_take_10 : decode cX0_take 10 = .ok (.getfield 19, 3) := by decide +kernel
theorem dX0_take_13 : decode cX0_take 13 = .ok (.iadd, 1) := by decide +kernel
theorem dX0_take_14 : decode cX0_take 14 = .ok (.iconst 1, 1) := by decide +kernel
theorem dX0_take_15 : decode cX0_take 15 = .ok (.isub, 1) := by decide +kernel
theorem dX0_take_16 : decode cX0_take 16 = .ok (.aload_n 0, 1) := by decide +kernel
theorem dX0_take_17 : decode cX0_take 17 = .ok (.getfield 9, 3) := by decide +kernel
theorem dX0_take_20 : decode cX0_take 20 = .ok (.arraylength, 1) := by decide +kernel
theorem dX0_take_21 : decode cX0_take 21 = .ok (.irem, 1) := by decide +kernel
theorem dX0_take_22 : decode cX0_take 22 = .ok (.istore_n 2, 1) := by decide +kernel
theorem dX0_take_23 : decode cX0_take 23 = .ok (.aload_n 0, 1) := by decide +kernel
theorem dX0_take_24 : decode cX0_take 24 = .ok (.dup, 1) := by decide +kernel
theorem dX0_take_25 : decode cX0_take 25 = .ok (.getfield 19, 3) := by decide +kernel
theorem dX0_take_28 : decode cX0_take 28 = .ok (.iconst 1, 1) := by decide +kernel
theorem dX0_take_29 : decode cX0_take 29 = .ok (.isub, 1) := by decide +kernel
theorem dX0_take_30 : decode cX0_take 30 = .ok (.putfield 19, 3) := by decide +kernel
theorem dX0_take_33 : decode cX0_take 33 = .ok (.aload_n 0, 1) := by decide +kernel
theorem dX0_take_34 : decode cX0_take 34 = .ok (.getfield 22, 3) := by decide +kernel
theorem dX0_take_37 : decode cX0_take 37 = .ok (.ifCond .ne 26, 3) := by decide +kernel
theorem dX0_take_40 : decode cX0_take 40 = .ok (.aload_n 0, 1) := by decide +kernel
theorem dX0_take_41 : decode cX0_take 41 = .ok (.aload_n 0, 1) := by decide +kernel
theorem dX0_take_42 : decode cX0_take 42 = .ok (.getfield 15, 3) := by decide +kernel
theorem dX0_take_45 : decode cX0_take 45 = .ok (.iconst 1, 1) := by decide +kernel
theorem dX0_take_46 : decode cX0_take 46 = .ok (.iadd, 1) := by decide +kernel
theorem dX0_take_47 : decode cX0_take 47 = .ok (.aload_n 0, 1) := by decide +kernel
theorem dX0_take_48 : decode cX0_take 48 = .ok (.getfield 9, 3) := by decide +kernel
theorem dX0_take_51 : decode cX0_take 51 = .ok (.arraylength, 1) := by decide +kernel
theorem dX0_take_52 : decode cX0_take 52 = .ok (.irem, 1) := by decide +kernel
theorem dX0_take_53 : decode cX0_take 53 = .ok (.putfield 15, 3) := by decide +kernel
theorem dX0_take_56 : decode cX0_take 56 = .ok (.aload_n 0, 1) := by decide +kernel
theorem dX0_take_57 : decode cX0_take 57 = .ok (.getfield 9, 3) := by decide +kernel
theorem dX0_take_60 : decode cX0_take 60 = .ok (.iload_n 1, 1) := by decide +kernel
theorem dX0_take_61 : decode cX0_take 61 = .ok (.iaload, 1) := by decide +kernel
theorem dX0_take_62 : decode cX0_take 62 = .ok (.ireturn, 1) := by decide +kernel
theorem dX0_take_63 : decode cX0_take 63 = .ok (.aload_n 0, 1) := by decide +kernel
theorem dX0_take_64 : decode cX0_take 64 = .ok (.getfield 22, 3) := by decide +kernel
theorem dX0_take_67 : decode cX0_take 67 = .ok (.iconst 1, 1) := by decide +kernel
theorem dX0_take_68 : decode cX0_take 68 = .ok (.if_icmp .ne 7, 3) := by decide +kernel
theorem dX0_take_71 : decode cX0_take 71 = .ok (.iload_n 2, 1) := by decide +kernel
theorem dX0_take_72 : decode cX0_take 72 = .ok (.goto 15, 3) := by decide +kernel
theorem dX0_take_75 : decode cX0_take 75 = .ok (.iload_n 1, 1) := by decide +kernel
theorem dX0_take_76 : decode cX0_take 76 = .ok (.aload_n 0, 1) := by decide +kernel
theorem dX0_take_77 : decode cX0_take 77 = .ok (.invokevirtual 28, 3) := by decide +kernel
theorem dX0_take_80 : decode cX0_take 80 = .ok (.iadd, 1) := by decide +kernel
theorem dX0_take_81 : decode cX0_take 81 = .ok (.aload_n 0, 1) := by decide +kernel
theorem dX0_take_82 : decode cX0_take 82 = .ok (.getfield 9, 3) := by decide +kernel
theorem dX0_take_85 : decode cX0_take 85 = .ok (.arraylength, 1) := by decide +kernel
theorem dX0_take_86 : decode cX0_take 86 = .ok (.irem, 1) := by decide +kernel
theorem dX0_take_87 : decode cX0_take 87 = .ok (.istore_n 3, 1) := by decide +kernel
theorem dX0_take_88 : decode cX0_take 88 = .ok (.aload_n 0, 1) := by decide +kernel
theorem dX0_take_89 : decode cX0_take 89 = .ok (.getfield 9, 3) := by decide +kernel
theorem dX0_take_92 : decode cX0_take 92 = .ok (.iload_n 3, 1) := by decide +kernel
theorem dX0_take_93 : decode cX0_take 93 = .ok (.iaload, 1) := by decide +kernel
theorem dX0_take_94 : decode cX0_take 94 = .ok (.istore 4, 2) := by decide +kernel
theorem dX0_take_96 : decode cX0_take 96 = .ok (.aload_n 0, 1) := by decide +kernel
theorem dX0_take_97 : decode cX0_take 97 = .ok (.getfield 9, 3) := by decide +kernel
theorem dX0_take_100 : decode cX0_take 100 = .ok (.iload_n 3, 1) := by decide +kernel
theorem dX0_take_101 : decode cX0_take 101 = .ok (.aload_n 0, 1) := by decide +kernel
theorem dX0_take_102 : decode cX0_take 102 = .ok (.getfield 9, 3) := by decide +kernel
theorem dX0_take_105 : decode cX0_take 105 = .ok (.iload_n 2, 1) := by decide +kernel
theorem dX0_take_106 : decode cX0_take 106 = .ok (.iaload, 1) := by decide +kernel
theorem dX0_take_107 : decode cX0_take 107 = .ok (.iastore, 1) := by decide +kernel
theorem dX0_take_108 : decode cX0_take 108 = .ok (.iload 4, 2) := by decide +kernel
theorem dX0_take_110 : decode cX0_take 110 = .ok (.ireturn, 1) := by decide +kernel
theorem dX0_chance_0 : decode cX0_chance 0 = .ok (.aload_n 0, 1) := by decide +kernel
theorem dX0_chance_1 : decode cX0_chance 1 = .ok (.aload_n 0, 1) := by decide +kernel
theorem dX0_chance_2 : decode cX0_chance 2 = .ok (.getfield 25, 3) := by decide +kernel
theorem dX0_chance_5 : decode cX0_chance 5 = .ok (.ldc 32, 2) := by decide +kernel
theorem dX0_chance_7 : decode cX0_chance 7 = .ok (.imul, 1) := by decide +kernel
theorem dX0_chance_8 : decode cX0_chance 8 = .ok (.sipush 12345, 3) := by decide +kernel
theorem dX0_chance_11 : decode cX0_chance 11 = .ok (.iadd, 1) := by decide +kernel
theorem dX0_chance_12 : decode cX0_chance 12 = .ok (.putfield 25, 3) := by decide +kernel
theorem dX0_chance_15 : decode cX0_chance 15 = .ok (.aload_n 0, 1) := by decide +kernel
theorem dX0_chance_16 : decode cX0_chance 16 = .ok (.getfield 25, 3) := by decide +kernel
theorem dX0_chance_19 : decode cX0_chance 19 = .ok (.bipush 8, 2) := by decide +kernel
theorem dX0_chance_21 : decode cX0_chance 21 = .ok (.iushr, 1) := by decide +kernel
theorem dX0_chance_22 : decode cX0_chance 22 = .ok (.aload_n 0, 1) := by decide +kernel
theorem dX0_chance_23 : decode cX0_chance 23 = .ok (.getfield 19, 3) := by decide +kernel
theorem dX0_chance_26 : decode cX0_chance 26 = .ok (.iconst 1, 1) := by decide +kernel
theorem dX0_chance_27 : decode cX0_chance 27 = .ok (.iadd, 1) := by decide +kernel
theorem dX0_chance_28 : decode cX0_chance 28 = .ok (.irem, 1) := by decide +kernel
theorem dX0_chance_29 : decode cX0_chance 29 = .ok (.ireturn, 1) := by decide +kernel
theorem dX1_init_0 : decode cX1_init 0 = .ok (.aload_n 0, 1) := by decide +kernel
theorem dX1_init_1 : decode cX1_init 1 = .ok (.invokespecial 3, 3) := by decide +kernel
theorem dX1_init_4 : decode cX1_init 4 = .ok (.aload_n 0, 1) := by decide +kernel
theorem dX1_init_5 : decode cX1_init 5 = .ok (.new 9, 3) := by decide +kernel
theorem dX1_init_8 : decode cX1_init 8 = .ok (.dup, 1) := by decide +kernel
theorem dX1_init_9 : decode cX1_init 9 = .ok (.invokespecial 11, 3) := by decide +kernel
theorem dX1_init_12 : decode cX1_init 12 = .ok (.putfield 12, 3) := by decide +kernel
theorem dX1_init_15 : decode cX1_init 15 = .ok (.aload_n 0, 1) := by decide +kernel
theorem dX1_init_16 : decode cX1_init 16 = .ok (.sipush 18000, 3) := by decide +kernel
theorem dX1_init_19 : decode cX1_init 19 = .ok (.newarray .int, 2) := by decide +kernel
theorem dX1_init_21 : decode cX1_init 21 = .ok (.putfield 18, 3) := by decide +kernel
theorem dX1_init_24 : decode cX1_init 24 = .ok (.aload_n 0, 1) := by decide +kernel
theorem dX1_init_25 : decode cX1_init 25 = .ok (.sipush 300, 3) := by decide +kernel
theorem dX1_init_28 : decode cX1_init 28 = .ok (.newarray .int, 2) := by decide +kernel
theorem dX1_init_30 : decode cX1_init 30 = .ok (.putfield 22, 3) := by decide +kernel
theorem dX1_init_33 : decode cX1_init 33 = .ok (.aload_n 0, 1) := by decide +kernel
theorem dX1_init_34 : decode cX1_init 34 = .ok (.sipush 300, 3) := by decide +kernel
theorem dX1_init_37 : decode cX1_init 37 = .ok (.newarray .int, 2) := by decide +kernel
theorem dX1_init_39 : decode cX1_init 39 = .ok (.putfield 25, 3) := by decide +kernel
theorem dX1_init_42 : decode cX1_init 42 = .ok (.aload_n 0, 1) := by decide +kernel
theorem dX1_init_43 : decode cX1_init 43 = .ok (.sipush 300, 3) := by decide +kernel
theorem dX1_init_46 : decode cX1_init 46 = .ok (.newarray .int, 2) := by decide +kernel
theorem dX1_init_48 : decode cX1_init 48 = .ok (.putfield 28, 3) := by decide +kernel
theorem dX1_init_51 : decode cX1_init 51 = .ok (.aload_n 0, 1) := by decide +kernel
theorem dX1_init_52 : decode cX1_init 52 = .ok (.new 31, 3) := by decide +kernel
theorem dX1_init_55 : decode cX1_init 55 = .ok (.dup, 1) := by decide +kernel
theorem dX1_init_56 : decode cX1_init 56 = .ok (.invokespecial 33, 3) := by decide +kernel
theorem dX1_init_59 : decode cX1_init 59 = .ok (.putfield 34, 3) := by decide +kernel
theorem dX1_init_62 : decode cX1_init 62 = .ok (.return_, 1) := by decide +kernel
theorem dX1_prepare_0 : decode cX1_prepare 0 = .ok (.aload_n 0, 1) := by decide +kernel
theorem dX1_prepare_1 : decode cX1_prepare 1 = .ok (.iload_n 1, 1) := by decide +kernel
theorem dX1_prepare_2 : decode cX1_prepare 2 = .ok (.putfield 38, 3) := by decide +kernel
theorem dX1_prepare_5 : decode cX1_prepare 5 = .ok (.aload_n 0, 1) := by decide +kernel
theorem dX1_prepare_6 : decode cX1_prepare 6 = .ok (.iload_n 2, 1) := by decide +kernel
theorem dX1_prepare_7 : decode cX1_prepare 7 = .ok (.putfield 42, 3) := by decide +kernel
theorem dX1_prepare_10 : decode cX1_prepare 10 = .ok (.aload_n 0, 1) := by decide +kernel
theorem dX1_prepare_11 : decode cX1_prepare 11 = .ok (.iload_n 3, 1) := by decide +kernel
theorem dX1_prepare_12 : decode cX1_prepare 12 = .ok (.sipush 300, 3) := by decide +kernel
theorem dX1_prepare_15 : decode cX1_prepare 15 = .ok (.invokestatic 45, 3) := by decide +kernel
theorem dX1_prepare_18 : decode cX1_prepare 18 = .ok (.putfield 51, 3) := by decide +kernel
theorem dX1_prepare_21 : decode cX1_prepare 21 = .ok (.aload_n 0, 1) := by decide +kernel
theorem dX1_prepare_22 : decode cX1_prepare 22 = .ok (.iconst 0, 1) := by decide +kernel
theorem dX1_prepare_23 : decode cX1_prepare 23 = .ok (.putfield 54, 3) := by decide +kernel
theorem dX1_prepare_26 : decode cX1_prepare 26 = .ok (.aload_n 0, 1) := by decide +kernel
theorem dX1_prepare_27 : decode cX1_prepare 27 = .ok (.iconst 0, 1) := by decide +kernel
theorem dX1_prepare_28 : decode cX1_prepare 28 = .ok (.putfield 58, 3) := by decide +kernel
theorem dX1_prepare_31 : decode cX1_prepare 31 = .ok (.aload_n 0, 1) := by decide +kernel
theorem dX1_prepare_32 : decode cX1_prepare 32 = .ok (.iconst 0, 1) := by decide +kernel
theorem dX1_prepare_33 : decode cX1_prepare 33 = .ok (.putfield 61, 3) := by decide +kernel
theorem dX1_prepare_36 : decode cX1_prepare 36 = .ok (.aload_n 0, 1) := by decide +kernel
theorem dX1_prepare_37 : decode cX1_prepare 37 = .ok (.getfield 12, 3) := by decide +kernel
theorem dX1_prepare_40 : decode cX1_prepare 40 = .ok (.iload 4, 2) := by decide +kernel
theorem dX1_prepare_42 : decode cX1_prepare 42 = .ok (.invokevirtual 64, 3) := by decide +kernel
theorem dX1_prepare_45 : decode cX1_prepare 45 = .ok (.return_, 1) := by decide +kernel
theorem dX1_workOutAll_0 : decode cX1_workOutAll 0 = .ok (.aload_n 0, 1) := by decide +kernel
theorem dX1_workOutAll_1 : decode cX1_workOutAll 1 = .ok (.iconst 0, 1) := by decide +kernel
theorem dX1_workOutAll_2 : decode cX1_workOutAll 2 = .ok (.iconst (-1), 1) := by decide +kernel
theorem dX1_workOutAll_3 : decode cX1_workOutAll 3 = .ok (.iconst (-1), 1) := by decide +kernel
theorem dX1_workOutAll_4 : decode cX1_workOutAll 4 = .ok (.invokevirtual 68, 3) := by decide +kernel
theorem dX1_workOutAll_7 : decode cX1_workOutAll 7 = .ok (.pop, 1) := by decide +kernel
theorem dX1_workOutAll_8 : decode cX1_workOutAll 8 = .ok (.iconst 0, 1) := by decide +kernel
theorem dX1_workOutAll_9 : decode cX1_workOutAll 9 = .ok (.istore_n 1, 1) := by decide +kernel
theorem dX1_workOutAll_10 : decode cX1_workOutAll 10 = .ok (.iload_n 1, 1) := by decide +kernel
theorem dX1_workOutAll_11 : decode cX1_workOutAll 11 = .ok (.ldc 72, 2) := by decide +kernel
theorem dX1_workOutAll_13 : decode cX1_workOutAll 13 = .ok (.if_icmp .ge 43, 3) := by decide +kernel
theorem dX1_workOutAll_16 : decode cX1_workOutAll 16 = .ok (.aload_n 0, 1) := by decide +kernel
theorem dX1_workOutAll_17 : decode cX1_workOutAll 17 = .ok (.getfield 54, 3) := by decide +kernel
theorem dX1_workOutAll_20 : decode cX1_workOutAll 20 = .ok (.ifCond .ne 36, 3) := by decide +kernel
theorem dX1_workOutAll_23 : decode cX1_workOutAll 23 = .ok (.aload_n 0, 1) := by decide +kernel
theorem dX1_workOutAll_24 : decode cX1_workOutAll 24 = .ok (.getfield 12, 3) := by decide +kernel
theorem dX1_workOutAll_27 : decode cX1_workOutAll 27 = .ok (.getfield 73, 3) := by decide +kernel
theorem dX1_workOutAll_30 : decode cX1_workOutAll 30 = .ok (.invokevirtual 77, 3) := by decide +kernel
theorem dX1_workOutAll_33 : decode cX1_workOutAll 33 = .ok (.ifCond .ne 23, 3) := by decide +kernel
theorem dX1_workOutAll_36 : decode cX1_workOutAll 36 = .ok (.aload_n 0, 1) := by decide +kernel
theorem dX1_workOutAll_37 : decode cX1_workOutAll 37 = .ok (.aload_n 0, 1) := by decide +kernel
theorem dX1_workOutAll_38 : decode cX1_workOutAll 38 = .ok (.getfield 12, 3) := by decide +kernel
theorem dX1_workOutAll_41 : decode cX1_workOutAll 41 = .ok (.getfield 73, 3) := by decide +kernel
theorem dX1_workOutAll_44 : decode cX1_workOutAll 44 = .ok (.invokevirtual 83, 3) := by decide +kernel
theorem dX1_workOutAll_47 : decode cX1_workOutAll 47 = .ok (.invokevirtual 87, 3) := by decide +kernel
theorem dX1_workOutAll_50 : decode cX1_workOutAll 50 = .ok (.iinc 1 1, 3) := by decide +kernel
theorem dX1_workOutAll_53 : decode cX1_workOutAll 53 = .ok (.goto (-43), 3) := by decide +kernel
theorem dX1_workOutAll_56 : decode cX1_workOutAll 56 = .ok (.aload_n 0, 1) := by decide +kernel
theorem dX1_workOutAll_57 : decode cX1_workOutAll 57 = .ok (.getfield 54, 3) := by decide +kernel
theorem dX1_workOutAll_60 : decode cX1_workOutAll 60 = .ok (.ifCond .eq 5, 3) := by decide +kernel
theorem dX1_workOutAll_63 : decode cX1_workOutAll 63 = .ok (.iconst 2, 1) := by decide +kernel
theorem dX1_workOutAll_64 : decode cX1_workOutAll 64 = .ok (.ireturn, 1) := by decide +kernel
theorem dX1_workOutAll_65 : decode cX1_workOutAll 65 = .ok (.aload_n 0, 1) := by decide +kernel
theorem dX1_workOutAll_66 : decode cX1_workOutAll 66 = .ok (.getfield 12, 3) := by decide +kernel
theorem dX1_workOutAll_69 : decode cX1_workOutAll 69 = .ok (.aload_n 0, 1) := by decide +kernel
theorem dX1_workOutAll_70 : decode cX1_workOutAll 70 = .ok (.iconst 0, 1) := by decide +kernel
theorem dX1_workOutAll_71 : decode cX1_workOutAll 71 = .ok (.invokevirtual 90, 3) := by decide +kernel
theorem dX1_workOutAll_74 : decode cX1_workOutAll 74 = .ok (.invokevirtual 94, 3) := by decide +kernel
theorem dX1_workOutAll_77 : decode cX1_workOutAll 77 = .ok (.ifCond .eq 7, 3) := by decide +kernel
theorem dX1_workOutAll_80 : decode cX1_workOutAll 80 = .ok (.iconst 0, 1) := by decide +kernel
theorem dX1_workOutAll_81 : decode cX1_workOutAll 81 = .ok (.goto 4, 3) := by decide +kernel
theorem dX1_workOutAll_84 : decode cX1_workOutAll 84 = .ok (.iconst 1, 1) := by decide +kernel
theorem dX1_workOutAll_85 : decode cX1_workOutAll 85 = .ok (.ireturn, 1) := by decide +kernel
theorem dX1_outcomeNumber_0 : decode cX1_outcomeNumber 0 = .ok (.aload_n 0, 1) := by decide +kernel
theorem dX1_outcomeNumber_1 : decode cX1_outcomeNumber 1 = .ok (.getfield 12, 3) := by decide +kernel
theorem dX1_outcomeNumber_4 : decode cX1_outcomeNumber 4 = .ok (.aload_n 0, 1) := by decide +kernel
theorem dX1_outcomeNumber_5 : decode cX1_outcomeNumber 5 = .ok (.iconst 0, 1) := by decide +kernel
theorem dX1_outcomeNumber_6 : decode cX1_outcomeNumber 6 = .ok (.invokevirtual 90, 3) := by decide +kernel
theorem dX1_outcomeNumber_9 : decode cX1_outcomeNumber 9 = .ok (.invokevirtual 98, 3) := by decide +kernel
theorem dX1_outcomeNumber_12 : decode cX1_outcomeNumber 12 = .ok (.ireturn, 1) := by decide +kernel
theorem dX1_knownParts_0 : decode cX1_knownParts 0 = .ok (.aload_n 0, 1) := by decide +kernel
theorem dX1_knownParts_1 : decode cX1_knownParts 1 = .ok (.getfield 12, 3) := by decide +kernel
theorem dX1_knownParts_4 : decode cX1_knownParts 4 = .ok (.getfield 101, 3) := by decide +kernel
theorem dX1_knownParts_7 : decode cX1_knownParts 7 = .ok (.ireturn, 1) := by decide +kernel
theorem dX1_knownCells_0 : decode cX1_knownCells 0 = .ok (.iconst 0, 1) := by decide +kernel
theorem dX1_knownCells_1 : decode cX1_knownCells 1 = .ok (.istore_n 1, 1) := by decide +kernel
theorem dX1_knownCells_2 : decode cX1_knownCells 2 = .ok (.iconst 0, 1) := by decide +kernel
theorem dX1_knownCells_3 : decode cX1_knownCells 3 = .ok (.istore_n 2, 1) := by decide +kernel
theorem dX1_knownCells_4 : decode cX1_knownCells 4 = .ok (.iload_n 2, 1) := by decide +kernel
theorem dX1_knownCells_5 : decode cX1_knownCells 5 = .ok (.aload_n 0, 1) := by decide +kernel
theorem dX1_knownCells_6 : decode cX1_knownCells 6 = .ok (.getfield 58, 3) := by decide +kernel
theorem dX1_knownCells_9 : decode cX1_knownCells 9 = .ok (.if_icmp .ge 37, 3) := by decide +kernel
theorem dX1_knownCells_12 : decode cX1_knownCells 12 = .ok (.aload_n 0, 1) := by decide +kernel
theorem dX1_knownCells_13 : decode cX1_knownCells 13 = .ok (.getfield 28, 3) := by decide +kernel
theorem dX1_knownCells_16 : decode cX1_knownCells 16 = .ok (.iload_n 2, 1) := by decide +kernel
theorem dX1_knownCells_17 : decode cX1_knownCells 17 = .ok (.iaload, 1) := by decide +kernel
theorem dX1_knownCells_18 : decode cX1_knownCells 18 = .ok (.iconst (-1), 1) := by decide +kernel
theorem dX1_knownCells_19 : decode cX1_knownCells 19 = .ok (.if_icmp .eq 21, 3) := by decide +kernel
theorem dX1_knownCells_22 : decode cX1_knownCells 22 = .ok (.aload_n 0, 1) := by decide +kernel
theorem dX1_knownCells_23 : decode cX1_knownCells 23 = .ok (.getfield 12, 3) := by decide +kernel
theorem dX1_knownCells_26 : decode cX1_knownCells 26 = .ok (.aload_n 0, 1) := by decide +kernel
theorem dX1_knownCells_27 : decode cX1_knownCells 27 = .ok (.iload_n 2, 1) := by decide +kernel
theorem dX1_knownCells_28 : decode cX1_knownCells 28 = .ok (.invokevirtual 90, 3) := by decide +kernel
theorem dX1_knownCells_31 : decode cX1_knownCells 31 = .ok (.invokevirtual 94, 3) := by decide +kernel
theorem dX1_knownCells_34 : decode cX1_knownCells 34 = .ok (.ifCond .eq 6, 3) := by decide +kernel
theorem dX1_knownCells_37 : decode cX1_knownCells 37 = .ok (.iinc 1 1, 3) := by decide +kernel
theorem dX1_knownCells_40 : decode cX1_knownCells 40 = .ok (.iinc 2 1, 3) := by decide +kernel
theorem dX1_knownCells_43 : decode cX1_knownCells 43 = .ok (.goto (-39), 3) := by decide +kernel
theorem dX1_knownCells_46 : decode cX1_knownCells 46 = .ok (.iload_n 1, 1) := by decide +kernel
theorem dX1_knownCells_47 : decode cX1_knownCells 47 = .ok (.ireturn, 1) := by decide +kernel
theorem dX1_beginCall_0 : decode cX1_beginCall 0 = .ok (.aload_n 0, 1) := by decide +kernel
theorem dX1_beginCall_1 : decode cX1_beginCall 1 = .ok (.getfield 58, 3) := by decide +kernel
theorem dX1_beginCall_4 : decode cX1_beginCall 4 = .ok (.aload_n 0, 1) := by decide +kernel
theorem dX1_beginCall_5 : decode cX1_beginCall 5 = .ok (.getfield 51, 3) := by decide +kernel
theorem dX1_beginCall_8 : decode cX1_beginCall 8 = .ok (.if_icmp .lt 10, 3) := by decide +kernel
theorem dX1_beginCall_11 : decode cX1_beginCall 11 = .ok (.aload_n 0, 1) := by decide +kernel
theorem dX1_beginCall_12 : decode cX1_beginCall 12 = .ok (.iconst 1, 1) := by decide +kernel
theorem dX1_beginCall_13 : decode cX1_beginCall 13 = .ok (.putfield 54, 3) := by decide +kernel
theorem dX1_beginCall_16 : decode cX1_beginCall 16 = .ok (.iconst (-1), 1) := by decide +kernel
theorem dX1_beginCall_17 : decode cX1_beginCall 17 = .ok (.ireturn, 1) := by decide +kernel
theorem dX1_beginCall_18 : decode cX1_beginCall 18 = .ok (.aload_n 0, 1) := by decide +kernel
theorem dX1_beginCall_19 : decode cX1_beginCall 19 = .ok (.getfield 58, 3) := by decide +kernel
theorem dX1_beginCall_22 : decode cX1_beginCall 22 = .ok (.istore 4, 2) := by decide +kernel
theorem dX1_beginCall_24 : decode cX1_beginCall 24 = .ok (.aload_n 0, 1) := by decide +kernel
theorem dX1_beginCall_25 : decode cX1_beginCall 25 = .ok (.dup, 1) := by decide +kernel
theorem dX1_beginCall_26 : decode cX1_beginCall 26 = .ok (.getfield 58, 3) := by decide +kernel
theorem dX1_beginCall_29 : decode cX1_beginCall 29 = .ok (.iconst 1, 1) := by decide +kernel
theorem dX1_beginCall_30 : decode cX1_beginCall 30 = .ok (.iadd, 1) := by decide +kernel
theorem dX1_beginCall_31 : decode cX1_beginCall 31 = .ok (.putfield 58, 3) := by decide +kernel
theorem dX1_beginCall_34 : decode cX1_beginCall 34 = .ok (.aload_n 0, 1) := by decide +kernel
theorem dX1_beginCall_35 : decode cX1_beginCall 35 = .ok (.getfield 22, 3) := by decide +kernel
theorem dX1_beginCall_38 : decode cX1_beginCall 38 = .ok (.iload 4, 2) := by decide +kernel
theorem dX1_beginCall_40 : decode cX1_beginCall 40 = .ok (.iload_n 1, 1) := by decide +kernel
theorem dX1_beginCall_41 : decode cX1_beginCall 41 = .ok (.iastore, 1) := by decide +kernel
theorem dX1_beginCall_42 : decode cX1_beginCall 42 = .ok (.aload_n 0, 1) := by decide +kernel
theorem dX1_beginCall_43 : decode cX1_beginCall 43 = .ok (.getfield 25, 3) := by decide +kernel
theorem dX1_beginCall_46 : decode cX1_beginCall 46 = .ok (.iload 4, 2) := by decide +kernel
theorem dX1_beginCall_48 : decode cX1_beginCall 48 = .ok (.iload_n 2, 1) := by decide +kernel
theorem dX1_beginCall_49 : decode cX1_beginCall 49 = .ok (.iastore, 1) := by decide +kernel
theorem dX1_beginCall_50 : decode cX1_beginCall 50 = .ok (.aload_n 0, 1) := by decide +kernel
theorem dX1_beginCall_51 : decode cX1_beginCall 51 = .ok (.getfield 28, 3) := by decide +kernel
theorem dX1_beginCall_54 : decode cX1_beginCall 54 = .ok (.iload 4, 2) := by decide +kernel
theorem dX1_beginCall_56 : decode cX1_beginCall 56 = .ok (.iload_n 3, 1) := by decide +kernel
theorem dX1_beginCall_57 : decode cX1_beginCall 57 = .ok (.iastore, 1) := by decide +kernel
theorem dX1_beginCall_58 : decode cX1_beginCall 58 = .ok (.aload_n 0, 1) := by decide +kernel
theorem dX1_beginCall_59 : decode cX1_beginCall 59 = .ok (.getfield 12, 3) := by decide +kernel
theorem dX1_beginCall_62 : decode cX1_beginCall 62 = .ok (.iload 4, 2) := by decide +kernel
theorem dX1_beginCall_64 : decode cX1_beginCall 64 = .ok (.bipush 60, 2) := by decide +kernel
theorem dX1_beginCall_66 : decode cX1_beginCall 66 = .ok (.imul, 1) := by decide +kernel
theorem dX1_beginCall_67 : decode cX1_beginCall 67 = .ok (.aload_n 0, 1) := by decide +kernel
theorem dX1_beginCall_68 : decode cX1_beginCall 68 = .ok (.getfield 34, 3) := by decide +kernel
theorem dX1_beginCall_71 : decode cX1_beginCall 71 = .ok (.getfield 104, 3) := by decide +kernel
theorem dX1_beginCall_74 : decode cX1_beginCall 74 = .ok (.iload_n 1, 1) := by decide +kernel
theorem dX1_beginCall_75 : decode cX1_beginCall 75 = .ok (.iaload, 1) := by decide +kernel
theorem dX1_beginCall_76 : decode cX1_beginCall 76 = .ok (.invokevirtual 107, 3) := by decide +kernel
theorem dX1_beginCall_79 : decode cX1_beginCall 79 = .ok (.aload_n 0, 1) := by decide +kernel
theorem dX1_beginCall_80 : decode cX1_beginCall 80 = .ok (.getfield 12, 3) := by decide +kernel
theorem dX1_beginCall_83 : decode cX1_beginCall 83 = .ok (.aload_n 0, 1) := by decide +kernel
theorem dX1_beginCall_84 : decode cX1_beginCall 84 = .ok (.iload 4, 2) := by decide +kernel
theorem dX1_beginCall_86 : decode cX1_beginCall 86 = .ok (.invokevirtual 90, 3) := by decide +kernel
theorem dX1_beginCall_89 : decode cX1_beginCall 89 = .ok (.invokevirtual 111, 3) := by decide +kernel
theorem dX1_beginCall_92 : decode cX1_beginCall 92 = .ok (.iload 4, 2) := by decide +kernel
theorem dX1_beginCall_94 : decode cX1_beginCall 94 = .ok (.ireturn, 1) := by decide +kernel
theorem dX1_lookAt_0 : decode cX1_lookAt 0 = .ok (.aload_n 0, 1) := by decide +kernel
theorem dX1_lookAt_1 : decode cX1_lookAt 1 = .ok (.iload_n 1, 1) := by decide +kernel
theorem dX1_lookAt_2 : decode cX1_lookAt 2 = .ok (.invokevirtual 114, 3) := by decide +kernel
theorem dX1_lookAt_5 : decode cX1_lookAt 5 = .ok (.istore_n 2, 1) := by decide +kernel
theorem dX1_lookAt_6 : decode cX1_lookAt 6 = .ok (.aload_n 0, 1) := by decide +kernel
theorem dX1_lookAt_7 : decode cX1_lookAt 7 = .ok (.getfield 12, 3) := by decide +kernel
theorem dX1_lookAt_10 : decode cX1_lookAt 10 = .ok (.iload_n 1, 1) := by decide +kernel
theorem dX1_lookAt_11 : decode cX1_lookAt 11 = .ok (.invokevirtual 117, 3) := by decide +kernel
theorem dX1_lookAt_14 : decode cX1_lookAt 14 = .ok (.ifCond .eq 9, 3) := by decide +kernel
theorem dX1_lookAt_17 : decode cX1_lookAt 17 = .ok (.aload_n 0, 1) := by decide +kernel
theorem dX1_lookAt_18 : decode cX1_lookAt 18 = .ok (.iload_n 1, 1) := by decide +kernel
theorem dX1_lookAt_19 : decode cX1_lookAt 19 = .ok (.iload_n 2, 1) := by decide +kernel
theorem dX1_lookAt_20 : decode cX1_lookAt 20 = .ok (.invokevirtual 120, 3) := by decide +kernel
theorem dX1_lookAt_23 : decode cX1_lookAt 23 = .ok (.aload_n 0, 1) := by decide +kernel
theorem dX1_lookAt_24 : decode cX1_lookAt 24 = .ok (.getfield 54, 3) := by decide +kernel
theorem dX1_lookAt_27 : decode cX1_lookAt 27 = .ok (.ifCond .eq 4, 3) := by decide +kernel
theorem dX1_lookAt_30 : decode cX1_lookAt 30 = .ok (.return_, 1) := by decide +kernel
theorem dX1_lookAt_31 : decode cX1_lookAt 31 = .ok (.aload_n 0, 1) := by decide +kernel
theorem dX1_lookAt_32 : decode cX1_lookAt 32 = .ok (.getfield 34, 3) := by decide +kernel
theorem dX1_lookAt_35 : decode cX1_lookAt 35 = .ok (.getfield 123, 3) := by decide +kernel
theorem dX1_lookAt_38 : decode cX1_lookAt 38 = .ok (.iload_n 2, 1) := by decide +kernel
theorem dX1_lookAt_39 : decode cX1_lookAt 39 = .ok (.iaload, 1) := by decide +kernel
theorem dX1_lookAt_40 : decode cX1_lookAt 40 = .ok (.tableswitch 210 1 9 #[52, 73, 90, 116, 131, 140, 158, 179, 188], 52) := by decide +kernel
theorem dX1_lookAt_92 : decode cX1_lookAt 92 = .ok (.aload_n 0, 1) := by decide +kernel
theorem dX1_lookAt_93 : decode cX1_lookAt 93 = .ok (.getfield 12, 3) := by decide +kernel
theorem dX1_lookAt_96 : decode cX1_lookAt 96 = .ok (.iload_n 1, 1) := by decide +kernel
theorem dX1_lookAt_97 : decode cX1_lookAt 97 = .ok (.aload_n 0, 1) := by decide +kernel
theorem dX1_lookAt_98 : decode cX1_lookAt 98 = .ok (.getfield 34, 3) := by decide +kernel
theorem dX1_lookAt_101 : decode cX1_lookAt 101 = .ok (.getfield 126, 3) := by decide +kernel
theorem dX1_lookAt_104 : decode cX1_lookAt 104 = .ok (.iload_n 2, 1) := by decide +kernel
theorem dX1_lookAt_105 : decode cX1_lookAt 105 = .ok (.iaload, 1) := by decide +kernel
theorem dX1_lookAt_106 : decode cX1_lookAt 106 = .ok (.iconst (-1), 1) := by decide +kernel
theorem dX1_lookAt_107 : decode cX1_lookAt 107 = .ok (.invokevirtual 129, 3) := by decide +kernel
theorem dX1_lookAt_110 : decode cX1_lookAt 110 = .ok (.goto 146, 3) := by decide +kernel
theorem dX1_lookAt_113 : decode cX1_lookAt 113 = .ok (.aload_n 0, 1) := by decide +kernel
theorem dX1_lookAt_114 : decode cX1_lookAt 114 = .ok (.iload_n 1, 1) := by decide +kernel
theorem dX1_lookAt_115 : decode cX1_lookAt 115 = .ok (.aload_n 0, 1) := by decide +kernel
theorem dX1_lookAt_116 : decode cX1_lookAt 116 = .ok (.getfield 34, 3) := by decide +kernel
theorem dX1_lookAt_119 : decode cX1_lookAt 119 = .ok (.getfield 126, 3) := by decide +kernel
theorem dX1_lookAt_122 : decode cX1_lookAt 122 = .ok (.iload_n 2, 1) := by decide +kernel
theorem dX1_lookAt_123 : decode cX1_lookAt 123 = .ok (.iaload, 1) := by decide +kernel
theorem dX1_lookAt_124 : decode cX1_lookAt 124 = .ok (.invokevirtual 133, 3) := by decide +kernel
theorem dX1_lookAt_127 : decode cX1_lookAt 127 = .ok (.goto 129, 3) := by decide +kernel
theorem dX1_lookAt_130 : decode cX1_lookAt 130 = .ok (.aload_n 0, 1) := by decide +kernel
theorem dX1_lookAt_131 : decode cX1_lookAt 131 = .ok (.getfield 12, 3) := by decide +kernel
theorem dX1_lookAt_134 : decode cX1_lookAt 134 = .ok (.iload_n 1, 1) := by decide +kernel
theorem dX1_lookAt_135 : decode cX1_lookAt 135 = .ok (.aload_n 0, 1) := by decide +kernel
theorem dX1_lookAt_136 : decode cX1_lookAt 136 = .ok (.iload_n 1, 1) := by decide +kernel
theorem dX1_lookAt_137 : decode cX1_lookAt 137 = .ok (.aload_n 0, 1) := by decide +kernel
theorem dX1_lookAt_138 : decode cX1_lookAt 138 = .ok (.getfield 34, 3) := by decide +kernel
theorem dX1_lookAt_141 : decode cX1_lookAt 141 = .ok (.getfield 126, 3) := by decide +kernel
theorem dX1_lookAt_144 : decode cX1_lookAt 144 = .ok (.iload_n 2, 1) := by decide +kernel
theorem dX1_lookAt_145 : decode cX1_lookAt 145 = .ok (.iaload, 1) := by decide +kernel
theorem dX1_lookAt_146 : decode cX1_lookAt 146 = .ok (.iconst 0, 1) := by decide +kernel
theorem dX1_lookAt_147 : decode cX1_lookAt 147 = .ok (.invokevirtual 136, 3) := by decide +kernel
theorem dX1_lookAt_150 : decode cX1_lookAt 150 = .ok (.invokevirtual 139, 3) := by decide +kernel
theorem dX1_lookAt_153 : decode cX1_lookAt 153 = .ok (.goto 103, 3) := by decide +kernel
theorem dX1_lookAt_156 : decode cX1_lookAt 156 = .ok (.aload_n 0, 1) := by decide +kernel
theorem dX1_lookAt_157 : decode cX1_lookAt 157 = .ok (.iload_n 1, 1) := by decide +kernel
theorem dX1_lookAt_158 : decode cX1_lookAt 158 = .ok (.aload_n 0, 1) := by decide +kernel
theorem dX1_lookAt_159 : decode cX1_lookAt 159 = .ok (.iload_n 1, 1) := by decide +kernel
theorem dX1_lookAt_160 : decode cX1_lookAt 160 = .ok (.iload_n 2, 1) := by decide +kernel
theorem dX1_lookAt_161 : decode cX1_lookAt 161 = .ok (.iconst 0, 1) := by decide +kernel
theorem dX1_lookAt_162 : decode cX1_lookAt 162 = .ok (.invokevirtual 136, 3) := by decide +kernel
theorem dX1_lookAt_165 : decode cX1_lookAt 165 = .ok (.invokevirtual 142, 3) := by decide +kernel
theorem dX1_lookAt_168 : decode cX1_lookAt 168 = .ok (.goto 88, 3) := by decide +kernel
theorem dX1_lookAt_171 : decode cX1_lookAt 171 = .ok (.aload_n 0, 1) := by decide +kernel
theorem dX1_lookAt_172 : decode cX1_lookAt 172 = .ok (.iload_n 1, 1) := by decide +kernel
theorem dX1_lookAt_173 : decode cX1_lookAt 173 = .ok (.iload_n 2, 1) := by decide +kernel
theorem dX1_lookAt_174 : decode cX1_lookAt 174 = .ok (.invokevirtual 145, 3) := by decide +kernel
theorem dX1_lookAt_177 : decode cX1_lookAt 177 = .ok (.goto 79, 3) := by decide +kernel
theorem dX1_lookAt_180 : decode cX1_lookAt 180 = .ok (.aload_n 0, 1) := by decide +kernel
theorem dX1_lookAt_181 : decode cX1_lookAt 181 = .ok (.getfield 12, 3) := by decide +kernel
theorem dX1_lookAt_184 : decode cX1_lookAt 184 = .ok (.iload_n 1, 1) := by decide +kernel
theorem dX1_lookAt_185 : decode cX1_lookAt 185 = .ok (.aload_n 0, 1) := by decide +kernel
theorem dX1_lookAt_186 : decode cX1_lookAt 186 = .ok (.iload_n 1, 1) := by decide +kernel
theorem dX1_lookAt_187 : decode cX1_lookAt 187 = .ok (.iload_n 2, 1) := by decide +kernel
theorem dX1_lookAt_188 : decode cX1_lookAt 188 = .ok (.iconst 1, 1) := by decide +kernel
theorem dX1_lookAt_189 : decode cX1_lookAt 189 = .ok (.invokevirtual 136, 3) := by decide +kernel
theorem dX1_lookAt_192 : decode cX1_lookAt 192 = .ok (.invokevirtual 139, 3) := by decide +kernel
theorem dX1_lookAt_195 : decode cX1_lookAt 195 = .ok (.goto 61, 3) := by decide +kernel
theorem dX1_lookAt_198 : decode cX1_lookAt 198 = .ok (.aload_n 0, 1) := by decide +kernel
theorem dX1_lookAt_199 : decode cX1_lookAt 199 = .ok (.getfield 12, 3) := by decide +kernel
theorem dX1_lookAt_202 : decode cX1_lookAt 202 = .ok (.iload_n 1, 1) := by decide +kernel
theorem dX1_lookAt_203 : decode cX1_lookAt 203 = .ok (.aload_n 0, 1) := by decide +kernel
theorem dX1_lookAt_204 : decode cX1_lookAt 204 = .ok (.aload_n 0, 1) := by decide +kernel
theorem dX1_lookAt_205 : decode cX1_lookAt 205 = .ok (.getfield 18, 3) := by decide +kernel
theorem dX1_lookAt_208 : decode cX1_lookAt 208 = .ok (.iload_n 1, 1) := by decide +kernel
theorem dX1_lookAt_209 : decode cX1_lookAt 209 = .ok (.iaload, 1) := by decide +kernel
theorem dX1_lookAt_210 : decode cX1_lookAt 210 = .ok (.invokevirtual 90, 3) := by decide +kernel
theorem dX1_lookAt_213 : decode cX1_lookAt 213 = .ok (.invokevirtual 139, 3) := by decide +kernel
theorem dX1_lookAt_216 : decode cX1_lookAt 216 = .ok (.goto 40, 3) := by decide +kernel
theorem dX1_lookAt_219 : decode cX1_lookAt 219 = .ok (.aload_n 0, 1) := by decide +kernel
theorem dX1_lookAt_220 : decode cX1_lookAt 220 = .ok (.iload_n 1, 1) := by decide +kernel
theorem dX1_lookAt_221 : decode cX1_lookAt 221 = .ok (.iload_n 2, 1) := by decide +kernel
theorem dX1_lookAt_222 : decode cX1_lookAt 222 = .ok (.invokevirtual 148, 3) := by decide +kernel
theorem dX1_lookAt_225 : decode cX1_lookAt 225 = .ok (.goto 31, 3) := by decide +kernel
theorem dX1_lookAt_228 : decode cX1_lookAt 228 = .ok (.aload_n 0, 1) := by decide +kernel
theorem dX1_lookAt_229 : decode cX1_lookAt 229 = .ok (.iload_n 1, 1) := by decide +kernel
theorem dX1_lookAt_230 : decode cX1_lookAt 230 = .ok (.aload_n 0, 1) := by decide +kernel
theorem dX1_lookAt_231 : decode cX1_lookAt 231 = .ok (.iload_n 1, 1) := by decide +kernel
theorem dX1_lookAt_232 : decode cX1_lookAt 232 = .ok (.iload_n 2, 1) := by decide +kernel
theorem dX1_lookAt_233 : decode cX1_lookAt 233 = .ok (.iconst 0, 1) := by decide +kernel
theorem dX1_lookAt_234 : decode cX1_lookAt 234 = .ok (.invokevirtual 136, 3) := by decide +kernel
theorem dX1_lookAt_237 : decode cX1_lookAt 237 = .ok (.aload_n 0, 1) := by decide +kernel
theorem dX1_lookAt_238 : decode cX1_lookAt 238 = .ok (.iload_n 1, 1) := by decide +kernel
theorem dX1_lookAt_239 : decode cX1_lookAt 239 = .ok (.iload_n 2, 1) := by decide +kernel
theorem dX1_lookAt_240 : decode cX1_lookAt 240 = .ok (.iconst 1, 1) := by decide +kernel
theorem dX1_lookAt_241 : decode cX1_lookAt 241 = .ok (.invokevirtual 136, 3) := by decide +kernel
theorem dX1_lookAt_244 : decode cX1_lookAt 244 = .ok (.invokevirtual 151, 3) := by decide +kernel
theorem dX1_lookAt_247 : decode cX1_lookAt 247 = .ok (.goto 9, 3) := by decide +kernel
theorem dX1_lookAt_250 : decode cX1_lookAt 250 = .ok (.aload_n 0, 1) := by decide +kernel
theorem dX1_lookAt_251 : decode cX1_lookAt 251 = .ok (.iload_n 1, 1) := by decide +kernel
theorem dX1_lookAt_252 : decode cX1_lookAt 252 = .ok (.iload_n 2, 1) := by decide +kernel
theorem dX1_lookAt_253 : decode cX1_lookAt 253 = .ok (.invokevirtual 154, 3) := by decide +kernel
theorem dX1_lookAt_256 : decode cX1_lookAt 256 = .ok (.return_, 1) := by decide +kernel
theorem dX1_reachInside_0 : decode cX1_reachInside 0 = .ok (.aload_n 0, 1) := by decide +kernel
theorem dX1_reachInside_1 : decode cX1_reachInside 1 = .ok (.getfield 34, 3) := by decide +kernel
theorem dX1_reachInside_4 : decode cX1_reachInside 4 = .ok (.getfield 123, 3) := by decide +kernel
theorem dX1_reachInside_7 : decode cX1_reachInside 7 = .ok (.iload_n 2, 1) := by decide +kernel
theorem dX1_reachInside_8 : decode cX1_reachInside 8 = .ok (.iaload, 1) := by decide +kernel
theorem dX1_reachInside_9 : decode cX1_reachInside 9 = .ok (.istore_n 3, 1) := by decide +kernel
theorem dX1_reachInside_10 : decode cX1_reachInside 10 = .ok (.iload_n 3, 1) := by decide +kernel
theorem dX1_reachInside_11 : decode cX1_reachInside 11 = .ok (.iconst 5, 1) := by decide +kernel
theorem dX1_reachInside_12 : decode cX1_reachInside 12 = .ok (.if_icmp .ne 7, 3) := by decide +kernel
theorem dX1_reachInside_15 : decode cX1_reachInside 15 = .ok (.iconst 1, 1) := by decide +kernel
theorem dX1_reachInside_16 : decode cX1_reachInside 16 = .ok (.goto 12, 3) := by decide +kernel
theorem dX1_reachInside_19 : decode cX1_reachInside 19 = .ok (.aload_n 0, 1) := by decide +kernel
theorem dX1_reachInside_20 : decode cX1_reachInside 20 = .ok (.getfield 34, 3) := by decide +kernel
theorem dX1_reachInside_23 : decode cX1_reachInside 23 = .ok (.getfield 157, 3) := by decide +kernel
theorem dX1_reachInside_26 : decode cX1_reachInside 26 = .ok (.iload_n 2, 1) := by decide +kernel
theorem dX1_reachInside_27 : decode cX1_reachInside 27 = .ok (.iaload, 1) := by decide +kernel
theorem dX1_reachInside_28 : decode cX1_reachInside 28 = .ok (.istore 4, 2) := by decide +kernel
theorem dX1_reachInside_30 : decode cX1_reachInside 30 = .ok (.iconst 0, 1) := by decide +kernel
theorem dX1_reachInside_31 : decode cX1_reachInside 31 = .ok (.istore 5, 2) := by decide +kernel
theorem dX1_reachInside_33 : decode cX1_reachInside 33 = .ok (.iload 5, 2) := by decide +kernel
theorem dX1_reachInside_35 : decode cX1_reachInside 35 = .ok (.iload 4, 2) := by decide +kernel
theorem dX1_reachInside_37 : decode cX1_reachInside 37 = .ok (.if_icmp .ge 24, 3) := by decide +kernel
theorem dX1_reachInside_40 : decode cX1_reachInside 40 = .ok (.aload_n 0, 1) := by decide +kernel
theorem dX1_reachInside_41 : decode cX1_reachInside 41 = .ok (.getfield 12, 3) := by decide +kernel
theorem dX1_reachInside_44 : decode cX1_reachInside 44 = .ok (.aload_n 0, 1) := by decide +kernel
theorem dX1_reachInside_45 : decode cX1_reachInside 45 = .ok (.iload_n 1, 1) := by decide +kernel
theorem dX1_reachInside_46 : decode cX1_reachInside 46 = .ok (.iload_n 2, 1) := by decide +kernel
theorem dX1_reachInside_47 : decode cX1_reachInside 47 = .ok (.iload 5, 2) := by decide +kernel
theorem dX1_reachInside_49 : decode cX1_reachInside 49 = .ok (.invokevirtual 136, 3) := by decide +kernel
theorem dX1_reachInside_52 : decode cX1_reachInside 52 = .ok (.invokevirtual 111, 3) := by decide +kernel
theorem dX1_reachInside_55 : decode cX1_reachInside 55 = .ok (.iinc 5 1, 3) := by decide +kernel
theorem dX1_reachInside_58 : decode cX1_reachInside 58 = .ok (.goto (-25), 3) := by decide +kernel
theorem dX1_reachInside_61 : decode cX1_reachInside 61 = .ok (.iload_n 3, 1) := by decide +kernel
theorem dX1_reachInside_62 : decode cX1_reachInside 62 = .ok (.bipush 7, 2) := by decide +kernel
theorem dX1_reachInside_64 : decode cX1_reachInside 64 = .ok (.if_icmp .ne 24, 3) := by decide +kernel
theorem dX1_reachInside_67 : decode cX1_reachInside 67 = .ok (.aload_n 0, 1) := by decide +kernel
theorem dX1_reachInside_68 : decode cX1_reachInside 68 = .ok (.getfield 18, 3) := by decide +kernel
theorem dX1_reachInside_71 : decode cX1_reachInside 71 = .ok (.iload_n 1, 1) := by decide +kernel
theorem dX1_reachInside_72 : decode cX1_reachInside 72 = .ok (.aload_n 0, 1) := by decide +kernel
theorem dX1_reachInside_73 : decode cX1_reachInside 73 = .ok (.aload_n 0, 1) := by decide +kernel
theorem dX1_reachInside_74 : decode cX1_reachInside 74 = .ok (.getfield 34, 3) := by decide +kernel
theorem dX1_reachInside_77 : decode cX1_reachInside 77 = .ok (.getfield 126, 3) := by decide +kernel
theorem dX1_reachInside_80 : decode cX1_reachInside 80 = .ok (.iload_n 2, 1) := by decide +kernel
theorem dX1_reachInside_81 : decode cX1_reachInside 81 = .ok (.iaload, 1) := by decide +kernel
theorem dX1_reachInside_82 : decode cX1_reachInside 82 = .ok (.iload_n 1, 1) := by decide +kernel
theorem dX1_reachInside_83 : decode cX1_reachInside 83 = .ok (.iconst (-1), 1) := by decide +kernel
theorem dX1_reachInside_84 : decode cX1_reachInside 84 = .ok (.invokevirtual 68, 3) := by decide +kernel
theorem dX1_reachInside_87 : decode cX1_reachInside 87 = .ok (.iastore, 1) := by decide +kernel
theorem dX1_reachInside_88 : decode cX1_reachInside 88 = .ok (.return_, 1) := by decide +kernel
theorem dX1_workOutArgument_0 : decode cX1_workOutArgument 0 = .ok (.iload_n 1, 1) := by decide +kernel
theorem dX1_workOutArgument_1 : decode cX1_workOutArgument 1 = .ok (.bipush 60, 2) := by decide +kernel
theorem dX1_workOutArgument_3 : decode cX1_workOutArgument 3 = .ok (.idiv, 1) := by decide +kernel
theorem dX1_workOutArgument_4 : decode cX1_workOutArgument 4 = .ok (.istore_n 3, 1) := by decide +kernel
theorem dX1_workOutArgument_5 : decode cX1_workOutArgument 5 = .ok (.aload_n 0, 1) := by decide +kernel
theorem dX1_workOutArgument_6 : decode cX1_workOutArgument 6 = .ok (.getfield 25, 3) := by decide +kernel
theorem dX1_workOutArgument_9 : decode cX1_workOutArgument 9 = .ok (.iload_n 3, 1) := by decide +kernel
theorem dX1_workOutArgument_10 : decode cX1_workOutArgument 10 = .ok (.iaload, 1) := by decide +kernel
theorem dX1_workOutArgument_11 : decode cX1_workOutArgument 11 = .ok (.istore 4, 2) := by decide +kernel
theorem dX1_workOutArgument_13 : decode cX1_workOutArgument 13 = .ok (.iload 4, 2) := by decide +kernel
theorem dX1_workOutArgument_15 : decode cX1_workOutArgument 15 = .ok (.iconst (-1), 1) := by decide +kernel
theorem dX1_workOutArgument_16 : decode cX1_workOutArgument 16 = .ok (.if_icmp .ne 39, 3) := by decide +kernel
theorem dX1_workOutArgument_19 : decode cX1_workOutArgument 19 = .ok (.aload_n 0, 1) := by decide +kernel
theorem dX1_workOutArgument_20 : decode cX1_workOutArgument 20 = .ok (.getfield 12, 3) := by decide +kernel
theorem dX1_workOutArgument_23 : decode cX1_workOutArgument 23 = .ok (.iload_n 1, 1) := by decide +kernel
theorem dX1_workOutArgument_24 : decode cX1_workOutArgument 24 = .ok (.iload_n 2, 1) := by decide +kernel
theorem dX1_workOutArgument_25 : decode cX1_workOutArgument 25 = .ok (.ifCond .ne 10, 3) := by decide +kernel
theorem dX1_workOutArgument_28 : decode cX1_workOutArgument 28 = .ok (.aload_n 0, 1) := by decide +kernel
theorem dX1_workOutArgument_29 : decode cX1_workOutArgument 29 = .ok (.getfield 38, 3) := by decide +kernel
theorem dX1_workOutArgument_32 : decode cX1_workOutArgument 32 = .ok (.goto 16, 3) := by decide +kernel
theorem dX1_workOutArgument_35 : decode cX1_workOutArgument 35 = .ok (.iload_n 2, 1) := by decide +kernel
theorem dX1_workOutArgument_36 : decode cX1_workOutArgument 36 = .ok (.iconst 1, 1) := by decide +kernel
theorem dX1_workOutArgument_37 : decode cX1_workOutArgument 37 = .ok (.if_icmp .ne 10, 3) := by decide +kernel
theorem dX1_workOutArgument_40 : decode cX1_workOutArgument 40 = .ok (.aload_n 0, 1) := by decide +kernel
theorem dX1_workOutArgument_41 : decode cX1_workOutArgument 41 = .ok (.getfield 42, 3) := by decide +kernel
theorem dX1_workOutArgument_44 : decode cX1_workOutArgument 44 = .ok (.goto 4, 3) := by decide +kernel
theorem dX1_workOutArgument_47 : decode cX1_workOutArgument 47 = .ok (.iconst 0, 1) := by decide +kernel
theorem dX1_workOutArgument_48 : decode cX1_workOutArgument 48 = .ok (.iconst (-1), 1) := by decide +kernel
theorem dX1_workOutArgument_49 : decode cX1_workOutArgument 49 = .ok (.invokevirtual 129, 3) := by decide +kernel
theorem dX1_workOutArgument_52 : decode cX1_workOutArgument 52 = .ok (.goto 100, 3) := by decide +kernel
theorem dX1_workOutArgument_55 : decode cX1_workOutArgument 55 = .ok (.aload_n 0, 1) := by decide +kernel
theorem dX1_workOutArgument_56 : decode cX1_workOutArgument 56 = .ok (.getfield 28, 3) := by decide +kernel
theorem dX1_workOutArgument_59 : decode cX1_workOutArgument 59 = .ok (.iload_n 3, 1) := by decide +kernel
theorem dX1_workOutArgument_60 : decode cX1_workOutArgument 60 = .ok (.iaload, 1) := by decide +kernel
theorem dX1_workOutArgument_61 : decode cX1_workOutArgument 61 = .ok (.iconst (-1), 1) := by decide +kernel
theorem dX1_workOutArgument_62 : decode cX1_workOutArgument 62 = .ok (.if_icmp .ne 27, 3) := by decide +kernel
theorem dX1_workOutArgument_65 : decode cX1_workOutArgument 65 = .ok (.aload_n 0, 1) := by decide +kernel
theorem dX1_workOutArgument_66 : decode cX1_workOutArgument 66 = .ok (.getfield 12, 3) := by decide +kernel
theorem dX1_workOutArgument_69 : decode cX1_workOutArgument 69 = .ok (.iload_n 1, 1) := by decide +kernel
theorem dX1_workOutArgument_70 : decode cX1_workOutArgument 70 = .ok (.aload_n 0, 1) := by decide +kernel
theorem dX1_workOutArgument_71 : decode cX1_workOutArgument 71 = .ok (.iload 4, 2) := by decide +kernel
theorem dX1_workOutArgument_73 : decode cX1_workOutArgument 73 = .ok (.aload_n 0, 1) := by decide +kernel
theorem dX1_workOutArgument_74 : decode cX1_workOutArgument 74 = .ok (.iload 4, 2) := by decide +kernel
theorem dX1_workOutArgument_76 : decode cX1_workOutArgument 76 = .ok (.invokevirtual 114, 3) := by decide +kernel
theorem dX1_workOutArgument_79 : decode cX1_workOutArgument 79 = .ok (.iload_n 2, 1) := by decide +kernel
theorem dX1_workOutArgument_80 : decode cX1_workOutArgument 80 = .ok (.invokevirtual 136, 3) := by decide +kernel
theorem dX1_workOutArgument_83 : decode cX1_workOutArgument 83 = .ok (.invokevirtual 139, 3) := by decide +kernel
theorem dX1_workOutArgument_86 : decode cX1_workOutArgument 86 = .ok (.goto 66, 3) := by decide +kernel
theorem dX1_workOutArgument_89 : decode cX1_workOutArgument 89 = .ok (.iload_n 2, 1) := by decide +kernel
theorem dX1_workOutArgument_90 : decode cX1_workOutArgument 90 = .ok (.ifCond .ne 21, 3) := by decide +kernel
theorem dX1_workOutArgument_93 : decode cX1_workOutArgument 93 = .ok (.aload_n 0, 1) := by decide +kernel
theorem dX1_workOutArgument_94 : decode cX1_workOutArgument 94 = .ok (.getfield 12, 3) := by decide +kernel
theorem dX1_workOutArgument_97 : decode cX1_workOutArgument 97 = .ok (.iload_n 1, 1) := by decide +kernel
theorem dX1_workOutArgument_98 : decode cX1_workOutArgument 98 = .ok (.aload_n 0, 1) := by decide +kernel
theorem dX1_workOutArgument_99 : decode cX1_workOutArgument 99 = .ok (.getfield 28, 3) := by decide +kernel
theorem dX1_workOutArgument_102 : decode cX1_workOutArgument 102 = .ok (.iload_n 3, 1) := by decide +kernel
theorem dX1_workOutArgument_103 : decode cX1_workOutArgument 103 = .ok (.iaload, 1) := by decide +kernel
theorem dX1_workOutArgument_104 : decode cX1_workOutArgument 104 = .ok (.iconst (-1), 1) := by decide +kernel
theorem dX1_workOutArgument_105 : decode cX1_workOutArgument 105 = .ok (.invokevirtual 129, 3) := by decide +kernel
theorem dX1_workOutArgument_108 : decode cX1_workOutArgument 108 = .ok (.goto 44, 3) := by decide +kernel
theorem dX1_workOutArgument_111 : decode cX1_workOutArgument 111 = .ok (.iload_n 2, 1) := by decide +kernel
theorem dX1_workOutArgument_112 : decode cX1_workOutArgument 112 = .ok (.iconst 1, 1) := by decide +kernel
theorem dX1_workOutArgument_113 : decode cX1_workOutArgument 113 = .ok (.if_icmp .ne 16, 3) := by decide +kernel
theorem dX1_workOutArgument_116 : decode cX1_workOutArgument 116 = .ok (.aload_n 0, 1) := by decide +kernel
theorem dX1_workOutArgument_117 : decode cX1_workOutArgument 117 = .ok (.getfield 12, 3) := by decide +kernel
theorem dX1_workOutArgument_120 : decode cX1_workOutArgument 120 = .ok (.iload_n 1, 1) := by decide +kernel
theorem dX1_workOutArgument_121 : decode cX1_workOutArgument 121 = .ok (.iload 4, 2) := by decide +kernel
theorem dX1_workOutArgument_123 : decode cX1_workOutArgument 123 = .ok (.invokevirtual 139, 3) := by decide +kernel
theorem dX1_workOutArgument_126 : decode cX1_workOutArgument 126 = .ok (.goto 26, 3) := by decide +kernel
theorem dX1_workOutArgument_129 : decode cX1_workOutArgument 129 = .ok (.aload_n 0, 1) := by decide +kernel
theorem dX1_workOutArgument_130 : decode cX1_workOutArgument 130 = .ok (.getfield 12, 3) := by decide +kernel
theorem dX1_workOutArgument_133 : decode cX1_workOutArgument 133 = .ok (.iload_n 1, 1) := by decide +kernel
theorem dX1_workOutArgument_134 : decode cX1_workOutArgument 134 = .ok (.aload_n 0, 1) := by decide +kernel
theorem dX1_workOutArgument_135 : decode cX1_workOutArgument 135 = .ok (.iload 4, 2) := by decide +kernel
theorem dX1_workOutArgument_137 : decode cX1_workOutArgument 137 = .ok (.aload_n 0, 1) := by decide +kernel
theorem dX1_workOutArgument_138 : decode cX1_workOutArgument 138 = .ok (.iload 4, 2) := by decide +kernel
theorem dX1_workOutArgument_140 : decode cX1_workOutArgument 140 = .ok (.invokevirtual 114, 3) := by decide +kernel
theorem dX1_workOutArgument_143 : decode cX1_workOutArgument 143 = .ok (.iload_n 2, 1) := by decide +kernel
theorem dX1_workOutArgument_144 : decode cX1_workOutArgument 144 = .ok (.iconst 1, 1) := by decide +kernel
theorem dX1_workOutArgument_145 : decode cX1_workOutArgument 145 = .ok (.isub, 1) := by decide +kernel
theorem dX1_workOutArgument_146 : decode cX1_workOutArgument 146 = .ok (.invokevirtual 136, 3) := by decide +kernel
theorem dX1_workOutArgument_149 : decode cX1_workOutArgument 149 = .ok (.invokevirtual 139, 3) := by decide +kernel
theorem dX1_workOutArgument_152 : decode cX1_workOutArgument 152 = .ok (.return_, 1) := by decide +kernel
theorem dX1_negate_0 : decode cX1_negate 0 = .ok (.aload_n 0, 1) := by decide +kernel
theorem dX1_negate_1 : decode cX1_negate 1 = .ok (.getfield 12, 3) := by decide +kernel
theorem dX1_negate_4 : decode cX1_negate 4 = .ok (.iload_n 1, 1) := by decide +kernel
theorem dX1_negate_5 : decode cX1_negate 5 = .ok (.iload_n 2, 1) := by decide +kernel
theorem dX1_negate_6 : decode cX1_negate 6 = .ok (.invokevirtual 160, 3) := by decide +kernel
theorem dX1_negate_9 : decode cX1_negate 9 = .ok (.ifCond .eq 21, 3) := by decide +kernel
theorem dX1_negate_12 : decode cX1_negate 12 = .ok (.aload_n 0, 1) := by decide +kernel
theorem dX1_negate_13 : decode cX1_negate 13 = .ok (.getfield 12, 3) := by decide +kernel
theorem dX1_negate_16 : decode cX1_negate 16 = .ok (.iload_n 1, 1) := by decide +kernel
theorem dX1_negate_17 : decode cX1_negate 17 = .ok (.aload_n 0, 1) := by decide +kernel
theorem dX1_negate_18 : decode cX1_negate 18 = .ok (.getfield 12, 3) := by decide +kernel
theorem dX1_negate_21 : decode cX1_negate 21 = .ok (.iload_n 2, 1) := by decide +kernel
theorem dX1_negate_22 : decode cX1_negate 22 = .ok (.invokevirtual 98, 3) := by decide +kernel
theorem dX1_negate_25 : decode cX1_negate 25 = .ok (.ineg, 1) := by decide +kernel
theorem dX1_negate_26 : decode cX1_negate 26 = .ok (.iconst (-1), 1) := by decide +kernel
theorem dX1_negate_27 : decode cX1_negate 27 = .ok (.invokevirtual 129, 3) := by decide +kernel
theorem dX1_negate_30 : decode cX1_negate 30 = .ok (.return_, 1) := by decide +kernel
theorem dX1_choose_0 : decode cX1_choose 0 = .ok (.aload_n 0, 1) := by decide +kernel
theorem dX1_choose_1 : decode cX1_choose 1 = .ok (.iload_n 1, 1) := by decide +kernel
theorem dX1_choose_2 : decode cX1_choose 2 = .ok (.iload_n 2, 1) := by decide +kernel
theorem dX1_choose_3 : decode cX1_choose 3 = .ok (.iconst 0, 1) := by decide +kernel
theorem dX1_choose_4 : decode cX1_choose 4 = .ok (.invokevirtual 136, 3) := by decide +kernel
theorem dX1_choose_7 : decode cX1_choose 7 = .ok (.istore_n 3, 1) := by decide +kernel
theorem dX1_choose_8 : decode cX1_choose 8 = .ok (.aload_n 0, 1) := by decide +kernel
theorem dX1_choose_9 : decode cX1_choose 9 = .ok (.getfield 12, 3) := by decide +kernel
theorem dX1_choose_12 : decode cX1_choose 12 = .ok (.iload_n 1, 1) := by decide +kernel
theorem dX1_choose_13 : decode cX1_choose 13 = .ok (.iload_n 3, 1) := by decide +kernel
theorem dX1_choose_14 : decode cX1_choose 14 = .ok (.invokevirtual 160, 3) := by decide +kernel
theorem dX1_choose_17 : decode cX1_choose 17 = .ok (.ifCond .eq 46, 3) := by decide +kernel
theorem dX1_choose_20 : decode cX1_choose 20 = .ok (.aload_n 0, 1) := by decide +kernel
theorem dX1_choose_21 : decode cX1_choose 21 = .ok (.iload_n 1, 1) := by decide +kernel
theorem dX1_choose_22 : decode cX1_choose 22 = .ok (.iload_n 2, 1) := by decide +kernel
theorem dX1_choose_23 : decode cX1_choose 23 = .ok (.aload_n 0, 1) := by decide +kernel
theorem dX1_choose_24 : decode cX1_choose 24 = .ok (.getfield 12, 3) := by decide +kernel
theorem dX1_choose_27 : decode cX1_choose 27 = .ok (.iload_n 3, 1) := by decide +kernel
theorem dX1_choose_28 : decode cX1_choose 28 = .ok (.invokevirtual 98, 3) := by decide +kernel
theorem dX1_choose_31 : decode cX1_choose 31 = .ok (.ifCond .eq 7, 3) := by decide +kernel
theorem dX1_choose_34 : decode cX1_choose 34 = .ok (.iconst 1, 1) := by decide +kernel
theorem dX1_choose_35 : decode cX1_choose 35 = .ok (.goto 4, 3) := by decide +kernel
theorem dX1_choose_38 : decode cX1_choose 38 = .ok (.iconst 2, 1) := by decide +kernel
theorem dX1_choose_39 : decode cX1_choose 39 = .ok (.invokevirtual 136, 3) := by decide +kernel
theorem dX1_choose_42 : decode cX1_choose 42 = .ok (.istore 4, 2) := by decide +kernel
theorem dX1_choose_44 : decode cX1_choose 44 = .ok (.aload_n 0, 1) := by decide +kernel
theorem dX1_choose_45 : decode cX1_choose 45 = .ok (.getfield 12, 3) := by decide +kernel
theorem dX1_choose_48 : decode cX1_choose 48 = .ok (.iload 4, 2) := by decide +kernel
theorem dX1_choose_50 : decode cX1_choose 50 = .ok (.invokevirtual 111, 3) := by decide +kernel
theorem dX1_choose_53 : decode cX1_choose 53 = .ok (.aload_n 0, 1) := by decide +kernel
theorem dX1_choose_54 : decode cX1_choose 54 = .ok (.getfield 12, 3) := by decide +kernel
theorem dX1_choose_57 : decode cX1_choose 57 = .ok (.iload_n 1, 1) := by decide +kernel
theorem dX1_choose_58 : decode cX1_choose 58 = .ok (.iload 4, 2) := by decide +kernel
theorem dX1_choose_60 : decode cX1_choose 60 = .ok (.invokevirtual 139, 3) := by decide +kernel
theorem dX1_choose_63 : decode cX1_choose 63 = .ok (.return_, 1) := by decide +kernel
theorem dX1_makeCells_0 : decode cX1_makeCells 0 = .ok (.aload_n 0, 1) := by decide +kernel
theorem dX1_makeCells_1 : decode cX1_makeCells 1 = .ok (.iload_n 1, 1) := by decide +kernel
theorem dX1_makeCells_2 : decode cX1_makeCells 2 = .ok (.iload_n 2, 1) := by decide +kernel
theorem dX1_makeCells_3 : decode cX1_makeCells 3 = .ok (.iconst 0, 1) := by decide +kernel
theorem dX1_makeCells_4 : decode cX1_makeCells 4 = .ok (.invokevirtual 136, 3) := by decide +kernel
theorem dX1_makeCells_7 : decode cX1_makeCells 7 = .ok (.istore_n 3, 1) := by decide +kernel
theorem dX1_makeCells_8 : decode cX1_makeCells 8 = .ok (.aload_n 0, 1) := by decide +kernel
theorem dX1_makeCells_9 : decode cX1_makeCells 9 = .ok (.getfield 12, 3) := by decide +kernel
theorem dX1_makeCells_12 : decode cX1_makeCells 12 = .ok (.iload_n 1, 1) := by decide +kernel
theorem dX1_makeCells_13 : decode cX1_makeCells 13 = .ok (.iload_n 3, 1) := by decide +kernel
theorem dX1_makeCells_14 : decode cX1_makeCells 14 = .ok (.invokevirtual 160, 3) := by decide +kernel
theorem dX1_makeCells_17 : decode cX1_makeCells 17 = .ok (.ifCond .ne 4, 3) := by decide +kernel
theorem dX1_makeCells_20 : decode cX1_makeCells 20 = .ok (.return_, 1) := by decide +kernel
theorem dX1_makeCells_21 : decode cX1_makeCells 21 = .ok (.iconst 0, 1) := by decide +kernel
theorem dX1_makeCells_22 : decode cX1_makeCells 22 = .ok (.aload_n 0, 1) := by decide +kernel
theorem dX1_makeCells_23 : decode cX1_makeCells 23 = .ok (.getfield 12, 3) := by decide +kernel
theorem dX1_makeCells_26 : decode cX1_makeCells 26 = .ok (.iload_n 3, 1) := by decide +kernel
theorem dX1_makeCells_27 : decode cX1_makeCells 27 = .ok (.invokevirtual 98, 3) := by decide +kernel
theorem dX1_makeCells_30 : decode cX1_makeCells 30 = .ok (.bipush 40, 2) := by decide +kernel
theorem dX1_makeCells_32 : decode cX1_makeCells 32 = .ok (.invokestatic 45, 3) := by decide +kernel
theorem dX1_makeCells_35 : decode cX1_makeCells 35 = .ok (.invokestatic 164, 3) := by decide +kernel
theorem dX1_makeCells_38 : decode cX1_makeCells 38 = .ok (.istore 4, 2) := by decide +kernel
theorem dX1_makeCells_40 : decode cX1_makeCells 40 = .ok (.aload_n 0, 1) := by decide +kernel
theorem dX1_makeCells_41 : decode cX1_makeCells 41 = .ok (.getfield 58, 3) := by decide +kernel
theorem dX1_makeCells_44 : decode cX1_makeCells 44 = .ok (.istore 5, 2) := by decide +kernel
theorem dX1_makeCells_46 : decode cX1_makeCells 46 = .ok (.iconst 0, 1) := by decide +kernel
theorem dX1_makeCells_47 : decode cX1_makeCells 47 = .ok (.istore 6, 2) := by decide +kernel
theorem dX1_makeCells_49 : decode cX1_makeCells 49 = .ok (.iload 6, 2) := by decide +kernel
theorem dX1_makeCells_51 : decode cX1_makeCells 51 = .ok (.iload 4, 2) := by decide +kernel
theorem dX1_makeCells_53 : decode cX1_makeCells 53 = .ok (.if_icmp .ge 33, 3) := by decide +kernel
theorem dX1_makeCells_56 : decode cX1_makeCells 56 = .ok (.aload_n 0, 1) := by decide +kernel
theorem dX1_makeCells_57 : decode cX1_makeCells 57 = .ok (.getfield 54, 3) := by decide +kernel
theorem dX1_makeCells_60 : decode cX1_makeCells 60 = .ok (.ifCond .ne 26, 3) := by decide +kernel
theorem dX1_makeCells_63 : decode cX1_makeCells 63 = .ok (.aload_n 0, 1) := by decide +kernel
theorem dX1_makeCells_64 : decode cX1_makeCells 64 = .ok (.aload_n 0, 1) := by decide +kernel
theorem dX1_makeCells_65 : decode cX1_makeCells 65 = .ok (.getfield 34, 3) := by decide +kernel
theorem dX1_makeCells_68 : decode cX1_makeCells 68 = .ok (.getfield 126, 3) := by decide +kernel
theorem dX1_makeCells_71 : decode cX1_makeCells 71 = .ok (.iload_n 2, 1) := by decide +kernel
theorem dX1_makeCells_72 : decode cX1_makeCells 72 = .ok (.iaload, 1) := by decide +kernel
theorem dX1_makeCells_73 : decode cX1_makeCells 73 = .ok (.iload_n 1, 1) := by decide +kernel
theorem dX1_makeCells_74 : decode cX1_makeCells 74 = .ok (.iload 6, 2) := by decide +kernel
theorem dX1_makeCells_76 : decode cX1_makeCells 76 = .ok (.invokevirtual 68, 3) := by decide +kernel
theorem dX1_makeCells_79 : decode cX1_makeCells 79 = .ok (.pop, 1) := by decide +kernel
theorem dX1_makeCells_80 : decode cX1_makeCells 80 = .ok (.iinc 6 1, 3) := by decide +kernel
theorem dX1_makeCells_83 : decode cX1_makeCells 83 = .ok (.goto (-34), 3) := by decide +kernel
theorem dX1_makeCells_86 : decode cX1_makeCells 86 = .ok (.aload_n 0, 1) := by decide +kernel
theorem dX1_makeCells_87 : decode cX1_makeCells 87 = .ok (.dup, 1) := by decide +kernel
theorem dX1_makeCells_88 : decode cX1_makeCells 88 = .ok (.getfield 61, 3) := by decide +kernel
theorem dX1_makeCells_91 : decode cX1_makeCells 91 = .ok (.iload 4, 2) := by decide +kernel
theorem dX1_makeCells_93 : decode cX1_makeCells 93 = .ok (.iadd, 1) := by decide +kernel
theorem dX1_makeCells_94 : decode cX1_makeCells 94 = .ok (.putfield 61, 3) := by decide +kernel
theorem dX1_makeCells_97 : decode cX1_makeCells 97 = .ok (.aload_n 0, 1) := by decide +kernel
theorem dX1_makeCells_98 : decode cX1_makeCells 98 = .ok (.getfield 12, 3) := by decide +kernel
theorem dX1_makeCells_101 : decode cX1_makeCells 101 = .ok (.iload_n 1, 1) := by decide +kernel
theorem dX1_makeCells_102 : decode cX1_makeCells 102 = .ok (.iload 4, 2) := by decide +kernel
theorem dX1_makeCells_104 : decode cX1_makeCells 104 = .ok (.iload 5, 2) := by decide +kernel
theorem dX1_makeCells_106 : decode cX1_makeCells 106 = .ok (.invokevirtual 129, 3) := by decide +kernel
theorem dX1_makeCells_109 : decode cX1_makeCells 109 = .ok (.return_, 1) := by decide +kernel
theorem dX1_fetch_0 : decode cX1_fetch 0 = .ok (.aload_n 0, 1) := by decide +kernel
theorem dX1_fetch_1 : decode cX1_fetch 1 = .ok (.getfield 12, 3) := by decide +kernel
theorem dX1_fetch_4 : decode cX1_fetch 4 = .ok (.iload_n 1, 1) := by decide +kernel
theorem dX1_fetch_5 : decode cX1_fetch 5 = .ok (.iload_n 2, 1) := by decide +kernel
theorem dX1_fetch_6 : decode cX1_fetch 6 = .ok (.invokevirtual 160, 3) := by decide +kernel
theorem dX1_fetch_9 : decode cX1_fetch 9 = .ok (.ifCond .eq 15, 3) := by decide +kernel
theorem dX1_fetch_12 : decode cX1_fetch 12 = .ok (.aload_n 0, 1) := by decide +kernel
theorem dX1_fetch_13 : decode cX1_fetch 13 = .ok (.getfield 12, 3) := by decide +kernel
theorem dX1_fetch_16 : decode cX1_fetch 16 = .ok (.iload_n 1, 1) := by decide +kernel
theorem dX1_fetch_17 : decode cX1_fetch 17 = .ok (.iload_n 3, 1) := by decide +kernel
theorem dX1_fetch_18 : decode cX1_fetch 18 = .ok (.invokevirtual 160, 3) := by decide +kernel
theorem dX1_fetch_21 : decode cX1_fetch 21 = .ok (.ifCond .ne 4, 3) := by decide +kernel
theorem dX1_fetch_24 : decode cX1_fetch 24 = .ok (.return_, 1) := by decide +kernel
theorem dX1_fetch_25 : decode cX1_fetch 25 = .ok (.aload_n 0, 1) := by decide +kernel
theorem dX1_fetch_26 : decode cX1_fetch 26 = .ok (.getfield 12, 3) := by decide +kernel
theorem dX1_fetch_29 : decode cX1_fetch 29 = .ok (.iload_n 3, 1) := by decide +kernel
theorem dX1_fetch_30 : decode cX1_fetch 30 = .ok (.invokevirtual 98, 3) := by decide +kernel
theorem dX1_fetch_33 : decode cX1_fetch 33 = .ok (.istore 4, 2) := by decide +kernel
theorem dX1_fetch_35 : decode cX1_fetch 35 = .ok (.aload_n 0, 1) := by decide +kernel
theorem dX1_fetch_36 : decode cX1_fetch 36 = .ok (.getfield 12, 3) := by decide +kernel
theorem dX1_fetch_39 : decode cX1_fetch 39 = .ok (.iload_n 2, 1) := by decide +kernel
theorem dX1_fetch_40 : decode cX1_fetch 40 = .ok (.invokevirtual 167, 3) := by decide +kernel
theorem dX1_fetch_43 : decode cX1_fetch 43 = .ok (.iconst (-1), 1) := by decide +kernel
theorem dX1_fetch_44 : decode cX1_fetch 44 = .ok (.if_icmp .eq 25, 3) := by decide +kernel
theorem dX1_fetch_47 : decode cX1_fetch 47 = .ok (.iload 4, 2) := by decide +kernel
theorem dX1_fetch_49 : decode cX1_fetch 49 = .ok (.ifCond .lt 20, 3) := by decide +kernel
theorem dX1_fetch_52 : decode cX1_fetch 52 = .ok (.iload 4, 2) := by decide +kernel
theorem dX1_fetch_54 : decode cX1_fetch 54 = .ok (.aload_n 0, 1) := by decide +kernel
theorem dX1_fetch_55 : decode cX1_fetch 55 = .ok (.getfield 12, 3) := by decide +kernel
theorem dX1_fetch_58 : decode cX1_fetch 58 = .ok (.iload_n 2, 1) := by decide +kernel
theorem dX1_fetch_59 : decode cX1_fetch 59 = .ok (.invokevirtual 98, 3) := by decide +kernel
theorem dX1_fetch_62 : decode cX1_fetch 62 = .ok (.if_icmp .ge 7, 3) := by decide +kernel
theorem dX1_fetch_65 : decode cX1_fetch 65 = .ok (.iconst 1, 1) := by decide +kernel
theorem dX1_fetch_66 : decode cX1_fetch 66 = .ok (.goto 4, 3) := by decide +kernel
theorem dX1_fetch_69 : decode cX1_fetch 69 = .ok (.iconst 0, 1) := by decide +kernel
theorem dX1_fetch_70 : decode cX1_fetch 70 = .ok (.istore 5, 2) := by decide +kernel
theorem dX1_fetch_72 : decode cX1_fetch 72 = .ok (.iload 5, 2) := by decide +kernel
theorem dX1_fetch_74 : decode cX1_fetch 74 = .ok (.ifCond .eq 29, 3) := by decide +kernel
theorem dX1_fetch_77 : decode cX1_fetch 77 = .ok (.aload_n 0, 1) := by decide +kernel
theorem dX1_fetch_78 : decode cX1_fetch 78 = .ok (.getfield 12, 3) := by decide +kernel
theorem dX1_fetch_81 : decode cX1_fetch 81 = .ok (.iload_n 1, 1) := by decide +kernel
theorem dX1_fetch_82 : decode cX1_fetch 82 = .ok (.aload_n 0, 1) := by decide +kernel
theorem dX1_fetch_83 : decode cX1_fetch 83 = .ok (.aload_n 0, 1) := by decide +kernel
theorem dX1_fetch_84 : decode cX1_fetch 84 = .ok (.getfield 12, 3) := by decide +kernel
theorem dX1_fetch_87 : decode cX1_fetch 87 = .ok (.iload_n 2, 1) := by decide +kernel
theorem dX1_fetch_88 : decode cX1_fetch 88 = .ok (.invokevirtual 167, 3) := by decide +kernel
theorem dX1_fetch_91 : decode cX1_fetch 91 = .ok (.iload 4, 2) := by decide +kernel
theorem dX1_fetch_93 : decode cX1_fetch 93 = .ok (.iadd, 1) := by decide +kernel
theorem dX1_fetch_94 : decode cX1_fetch 94 = .ok (.invokevirtual 90, 3) := by decide +kernel
theorem dX1_fetch_97 : decode cX1_fetch 97 = .ok (.invokevirtual 139, 3) := by decide +kernel
theorem dX1_fetch_100 : decode cX1_fetch 100 = .ok (.goto 13, 3) := by decide +kernel
theorem dX1_fetch_103 : decode cX1_fetch 103 = .ok (.aload_n 0, 1) := by decide +kernel
theorem dX1_fetch_104 : decode cX1_fetch 104 = .ok (.getfield 12, 3) := by decide +kernel
theorem dX1_fetch_107 : decode cX1_fetch 107 = .ok (.iload_n 1, 1) := by decide +kernel
theorem dX1_fetch_108 : decode cX1_fetch 108 = .ok (.iconst 0, 1) := by decide +kernel
theorem dX1_fetch_109 : decode cX1_fetch 109 = .ok (.iconst (-1), 1) := by decide +kernel
theorem dX1_fetch_110 : decode cX1_fetch 110 = .ok (.invokevirtual 129, 3) := by decide +kernel
theorem dX1_fetch_113 : decode cX1_fetch 113 = .ok (.return_, 1) := by decide +kernel
theorem dX1_combine_0 : decode cX1_combine 0 = .ok (.aload_n 0, 1) := by decide +kernel
theorem dX1_combine_1 : decode cX1_combine 1 = .ok (.iload_n 1, 1) := by decide +kernel
theorem dX1_combine_2 : decode cX1_combine 2 = .ok (.iload_n 2, 1) := by decide +kernel
theorem dX1_combine_3 : decode cX1_combine 3 = .ok (.iconst 0, 1) := by decide +kernel
theorem dX1_combine_4 : decode cX1_combine 4 = .ok (.invokevirtual 136, 3) := by decide +kernel
theorem dX1_combine_7 : decode cX1_combine 7 = .ok (.istore_n 3, 1) := by decide +kernel
theorem dX1_combine_8 : decode cX1_combine 8 = .ok (.aload_n 0, 1) := by decide +kernel
theorem dX1_combine_9 : decode cX1_combine 9 = .ok (.iload_n 1, 1) := by decide +kernel
theorem dX1_combine_10 : decode cX1_combine 10 = .ok (.iload_n 2, 1) := by decide +kernel
theorem dX1_combine_11 : decode cX1_combine 11 = .ok (.iconst 1, 1) := by decide +kernel
theorem dX1_combine_12 : decode cX1_combine 12 = .ok (.invokevirtual 136, 3) := by decide +kernel
theorem dX1_combine_15 : decode cX1_combine 15 = .ok (.istore 4, 2) := by decide +kernel
theorem dX1_combine_17 : decode cX1_combine 17 = .ok (.aload_n 0, 1) := by decide +kernel
theorem dX1_combine_18 : decode cX1_combine 18 = .ok (.getfield 12, 3) := by decide +kernel
theorem dX1_combine_21 : decode cX1_combine 21 = .ok (.iload_n 1, 1) := by decide +kernel
theorem dX1_combine_22 : decode cX1_combine 22 = .ok (.iload_n 3, 1) := by decide +kernel
theorem dX1_combine_23 : decode cX1_combine 23 = .ok (.invokevirtual 160, 3) := by decide +kernel
theorem dX1_combine_26 : decode cX1_combine 26 = .ok (.ifCond .eq 62, 3) := by decide +kernel
theorem dX1_combine_29 : decode cX1_combine 29 = .ok (.aload_n 0, 1) := by decide +kernel
theorem dX1_combine_30 : decode cX1_combine 30 = .ok (.getfield 12, 3) := by decide +kernel
theorem dX1_combine_33 : decode cX1_combine 33 = .ok (.iload_n 1, 1) := by decide +kernel
theorem dX1_combine_34 : decode cX1_combine 34 = .ok (.iload 4, 2) := by decide +kernel
theorem dX1_combine_36 : decode cX1_combine 36 = .ok (.invokevirtual 160, 3) := by decide +kernel
theorem dX1_combine_39 : decode cX1_combine 39 = .ok (.ifCond .eq 49, 3) := by decide +kernel
theorem dX1_combine_42 : decode cX1_combine 42 = .ok (.aload_n 0, 1) := by decide +kernel
theorem dX1_combine_43 : decode cX1_combine 43 = .ok (.getfield 12, 3) := by decide +kernel
theorem dX1_combine_46 : decode cX1_combine 46 = .ok (.iload_n 3, 1) := by decide +kernel
theorem dX1_combine_47 : decode cX1_combine 47 = .ok (.invokevirtual 98, 3) := by decide +kernel
theorem dX1_combine_50 : decode cX1_combine 50 = .ok (.istore 5, 2) := by decide +kernel
theorem dX1_combine_52 : decode cX1_combine 52 = .ok (.aload_n 0, 1) := by decide +kernel
theorem dX1_combine_53 : decode cX1_combine 53 = .ok (.getfield 12, 3) := by decide +kernel
theorem dX1_combine_56 : decode cX1_combine 56 = .ok (.iload 4, 2) := by decide +kernel
theorem dX1_combine_58 : decode cX1_combine 58 = .ok (.invokevirtual 98, 3) := by decide +kernel
theorem dX1_combine_61 : decode cX1_combine 61 = .ok (.istore 6, 2) := by decide +kernel
theorem dX1_combine_63 : decode cX1_combine 63 = .ok (.aload_n 0, 1) := by decide +kernel
theorem dX1_combine_64 : decode cX1_combine 64 = .ok (.getfield 12, 3) := by decide +kernel
theorem dX1_combine_67 : decode cX1_combine 67 = .ok (.iload_n 1, 1) := by decide +kernel
theorem dX1_combine_68 : decode cX1_combine 68 = .ok (.aload_n 0, 1) := by decide +kernel
theorem dX1_combine_69 : decode cX1_combine 69 = .ok (.getfield 34, 3) := by decide +kernel
theorem dX1_combine_72 : decode cX1_combine 72 = .ok (.getfield 123, 3) := by decide +kernel
theorem dX1_combine_75 : decode cX1_combine 75 = .ok (.iload_n 2, 1) := by decide +kernel
theorem dX1_combine_76 : decode cX1_combine 76 = .ok (.iaload, 1) := by decide +kernel
theorem dX1_combine_77 : decode cX1_combine 77 = .ok (.iload 5, 2) := by decide +kernel
theorem dX1_combine_79 : decode cX1_combine 79 = .ok (.iload 6, 2) := by decide +kernel
theorem dX1_combine_81 : decode cX1_combine 81 = .ok (.invokestatic 170, 3) := by decide +kernel
theorem dX1_combine_84 : decode cX1_combine 84 = .ok (.iconst (-1), 1) := by decide +kernel
theorem dX1_combine_85 : decode cX1_combine 85 = .ok (.invokevirtual 129, 3) := by decide +kernel
theorem dX1_combine_88 : decode cX1_combine 88 = .ok (.return_, 1) := by decide +kernel
theorem dX1_combined_0 : decode cX1_combined 0 = .ok (.iload_n 0, 1) := by decide +kernel
theorem dX1_combined_1 : decode cX1_combined 1 = .ok (.lookupswitch 125 #[(37, 91), (42, 75), (43, 67), (45, 71), (47, 79), (60, 103), (62, 114)], 67) := by decide +kernel
theorem dX1_combined_68 : decode cX1_combined 68 = .ok (.iload_n 1, 1) := by decide +kernel
theorem dX1_combined_69 : decode cX1_combined 69 = .ok (.iload_n 2, 1) := by decide +kernel
theorem dX1_combined_70 : decode cX1_combined 70 = .ok (.iadd, 1) := by decide +kernel
theorem dX1_combined_71 : decode cX1_combined 71 = .ok (.ireturn, 1) := by decide +kernel
theorem dX1_combined_72 : decode cX1_combined 72 = .ok (.iload_n 1, 1) := by decide +kernel
theorem dX1_combined_73 : decode cX1_combined 73 = .ok (.iload_n 2, 1) := by decide +kernel
theorem dX1_combined_74 : decode cX1_combined 74 = .ok (.isub, 1) := by decide +kernel
theorem dX1_combined_75 : decode cX1_combined 75 = .ok (.ireturn, 1) := by decide +kernel
theorem dX1_combined_76 : decode cX1_combined 76 = .ok (.iload_n 1, 1) := by decide +kernel
theorem dX1_combined_77 : decode cX1_combined 77 = .ok (.iload_n 2, 1) := by decide +kernel
theorem dX1_combined_78 : decode cX1_combined 78 = .ok (.imul, 1) := by decide +kernel
theorem dX1_combined_79 : decode cX1_combined 79 = .ok (.ireturn, 1) := by decide +kernel
theorem dX1_combined_80 : decode cX1_combined 80 = .ok (.iload_n 2, 1) := by decide +kernel
theorem dX1_combined_81 : decode cX1_combined 81 = .ok (.ifCond .ne 7, 3) := by decide +kernel
theorem dX1_combined_84 : decode cX1_combined 84 = .ok (.iconst 0, 1) := by decide +kernel
theorem dX1_combined_85 : decode cX1_combined 85 = .ok (.goto 6, 3) := by decide +kernel
theorem dX1_combined_88 : decode cX1_combined 88 = .ok (.iload_n 1, 1) := by decide +kernel
theorem dX1_combined_89 : decode cX1_combined 89 = .ok (.iload_n 2, 1) := by decide +kernel
theorem dX1_combined_90 : decode cX1_combined 90 = .ok (.idiv, 1) := by decide +kernel
theorem dX1_combined_91 : decode cX1_combined 91 = .ok (.ireturn, 1) := by decide +kernel
theorem dX1_combined_92 : decode cX1_combined 92 = .ok (.iload_n 2, 1) := by decide +kernel
theorem dX1_combined_93 : decode cX1_combined 93 = .ok (.ifCond .ne 7, 3) := by decide +kernel
theorem dX1_combined_96 : decode cX1_combined 96 = .ok (.iconst 0, 1) := by decide +kernel
theorem dX1_combined_97 : decode cX1_combined 97 = .ok (.goto 6, 3) := by decide +kernel
theorem dX1_combined_100 : decode cX1_combined 100 = .ok (.iload_n 1, 1) := by decide +kernel
theorem dX1_combined_101 : decode cX1_combined 101 = .ok (.iload_n 2, 1) := by decide +kernel
theorem dX1_combined_102 : decode cX1_combined 102 = .ok (.irem, 1) := by decide +kernel
theorem dX1_combined_103 : decode cX1_combined 103 = .ok (.ireturn, 1) := by decide +kernel
theorem dX1_combined_104 : decode cX1_combined 104 = .ok (.iload_n 1, 1) := by decide +kernel
theorem dX1_combined_105 : decode cX1_combined 105 = .ok (.iload_n 2, 1) := by decide +kernel
theorem dX1_combined_106 : decode cX1_combined 106 = .ok (.if_icmp .ge 7, 3) := by decide +kernel
theorem dX1_combined_109 : decode cX1_combined 109 = .ok (.iconst 1, 1) := by decide +kernel
theorem dX1_combined_110 : decode cX1_combined 110 = .ok (.goto 4, 3) := by decide +kernel
theorem dX1_combined_113 : decode cX1_combined 113 = .ok (.iconst 0, 1) := by decide +kernel
theorem dX1_combined_114 : decode cX1_combined 114 = .ok (.ireturn, 1) := by decide +kernel
theorem dX1_combined_115 : decode cX1_combined 115 = .ok (.iload_n 1, 1) := by decide +kernel
theorem dX1_combined_116 : decode cX1_combined 116 = .ok (.iload_n 2, 1) := by decide +kernel
theorem dX1_combined_117 : decode cX1_combined 117 = .ok (.if_icmp .le 7, 3) := by decide +kernel
theorem dX1_combined_120 : decode cX1_combined 120 = .ok (.iconst 1, 1) := by decide +kernel
theorem dX1_combined_121 : decode cX1_combined 121 = .ok (.goto 4, 3) := by decide +kernel
theorem dX1_combined_124 : decode cX1_combined 124 = .ok (.iconst 0, 1) := by decide +kernel
theorem dX1_combined_125 : decode cX1_combined 125 = .ok (.ireturn, 1) := by decide +kernel
theorem dX1_combined_126 : decode cX1_combined 126 = .ok (.iload_n 1, 1) := by decide +kernel
theorem dX1_combined_127 : decode cX1_combined 127 = .ok (.iload_n 2, 1) := by decide +kernel
theorem dX1_combined_128 : decode cX1_combined 128 = .ok (.if_icmp .ne 7, 3) := by decide +kernel
theorem dX1_combined_131 : decode cX1_combined 131 = .ok (.iconst 1, 1) := by decide +kernel
theorem dX1_combined_132 : decode cX1_combined 132 = .ok (.goto 4, 3) := by decide +kernel
theorem dX1_combined_135 : decode cX1_combined 135 = .ok (.iconst 0, 1) := by decide +kernel
theorem dX1_combined_136 : decode cX1_combined 136 = .ok (.ireturn, 1) := by decide +kernel
theorem dX1_partOf_0 : decode cX1_partOf 0 = .ok (.aload_n 0, 1) := by decide +kernel
theorem dX1_partOf_1 : decode cX1_partOf 1 = .ok (.getfield 22, 3) := by decide +kernel
theorem dX1_partOf_4 : decode cX1_partOf 4 = .ok (.iload_n 1, 1) := by decide +kernel
theorem dX1_partOf_5 : decode cX1_partOf 5 = .ok (.bipush 60, 2) := by decide +kernel
theorem dX1_partOf_7 : decode cX1_partOf 7 = .ok (.idiv, 1) := by decide +kernel
theorem dX1_partOf_8 : decode cX1_partOf 8 = .ok (.iaload, 1) := by decide +kernel
theorem dX1_partOf_9 : decode cX1_partOf 9 = .ok (.bipush 60, 2) := by decide +kernel
theorem dX1_partOf_11 : decode cX1_partOf 11 = .ok (.imul, 1) := by decide +kernel
theorem dX1_partOf_12 : decode cX1_partOf 12 = .ok (.iload_n 1, 1) := by decide +kernel
theorem dX1_partOf_13 : decode cX1_partOf 13 = .ok (.bipush 60, 2) := by decide +kernel
theorem dX1_partOf_15 : decode cX1_partOf 15 = .ok (.irem, 1) := by decide +kernel
theorem dX1_partOf_16 : decode cX1_partOf 16 = .ok (.iadd, 1) := by decide +kernel
theorem dX1_partOf_17 : decode cX1_partOf 17 = .ok (.ireturn, 1) := by decide +kernel
theorem dX1_rootOf_0 : decode cX1_rootOf 0 = .ok (.iload_n 1, 1) := by decide +kernel
theorem dX1_rootOf_1 : decode cX1_rootOf 1 = .ok (.bipush 60, 2) := by decide +kernel
theorem dX1_rootOf_3 : decode cX1_rootOf 3 = .ok (.imul, 1) := by decide +kernel
theorem dX1_rootOf_4 : decode cX1_rootOf 4 = .ok (.aload_n 0, 1) := by decide +kernel
theorem dX1_rootOf_5 : decode cX1_rootOf 5 = .ok (.getfield 34, 3) := by decide +kernel
theorem dX1_rootOf_8 : decode cX1_rootOf 8 = .ok (.getfield 173, 3) := by decide +kernel
theorem dX1_rootOf_11 : decode cX1_rootOf 11 = .ok (.aload_n 0, 1) := by decide +kernel
theorem dX1_rootOf_12 : decode cX1_rootOf 12 = .ok (.getfield 22, 3) := by decide +kernel
theorem dX1_rootOf_15 : decode cX1_rootOf 15 = .ok (.iload_n 1, 1) := by decide +kernel
theorem dX1_rootOf_16 : decode cX1_rootOf 16 = .ok (.iaload, 1) := by decide +kernel
theorem dX1_rootOf_17 : decode cX1_rootOf 17 = .ok (.iaload, 1) := by decide +kernel
theorem dX1_rootOf_18 : decode cX1_rootOf 18 = .ok (.bipush 60, 2) := by decide +kernel
theorem dX1_rootOf_20 : decode cX1_rootOf 20 = .ok (.irem, 1) := by decide +kernel
theorem dX1_rootOf_21 : decode cX1_rootOf 21 = .ok (.iadd, 1) := by decide +kernel
theorem dX1_rootOf_22 : decode cX1_rootOf 22 = .ok (.ireturn, 1) := by decide +kernel
theorem dX1_inside_0 : decode cX1_inside 0 = .ok (.iload_n 1, 1) := by decide +kernel
theorem dX1_inside_1 : decode cX1_inside 1 = .ok (.iload_n 1, 1) := by decide +kernel
theorem dX1_inside_2 : decode cX1_inside 2 = .ok (.bipush 60, 2) := by decide +kernel
theorem dX1_inside_4 : decode cX1_inside 4 = .ok (.irem, 1) := by decide +kernel
theorem dX1_inside_5 : decode cX1_inside 5 = .ok (.isub, 1) := by decide +kernel
theorem dX1_inside_6 : decode cX1_inside 6 = .ok (.istore 4, 2) := by decide +kernel
theorem dX1_inside_8 : decode cX1_inside 8 = .ok (.iload 4, 2) := by decide +kernel
theorem dX1_inside_10 : decode cX1_inside 10 = .ok (.aload_n 0, 1) := by decide +kernel
theorem dX1_inside_11 : decode cX1_inside 11 = .ok (.getfield 34, 3) := by decide +kernel
theorem dX1_inside_14 : decode cX1_inside 14 = .ok (.iload_n 2, 1) := by decide +kernel
theorem dX1_inside_15 : decode cX1_inside 15 = .ok (.iload_n 3, 1) := by decide +kernel
theorem dX1_inside_16 : decode cX1_inside 16 = .ok (.invokevirtual 176, 3) := by decide +kernel
theorem dX1_inside_19 : decode cX1_inside 19 = .ok (.bipush 60, 2) := by decide +kernel
theorem dX1_inside_21 : decode cX1_inside 21 = .ok (.irem, 1) := by decide +kernel
theorem dX1_inside_22 : decode cX1_inside 22 = .ok (.iadd, 1) := by decide +kernel
theorem dX1_inside_23 : decode cX1_inside 23 = .ok (.ireturn, 1) := by decide +kernel
theorem dX2_init_0 : decode cX2_init 0 = .ok (.aload_n 0, 1) := by decide +kernel
theorem dX2_init_1 : decode cX2_init 1 = .ok (.invokespecial 3, 3) := by decide +kernel
theorem dX2_init_4 : decode cX2_init 4 = .ok (.aload_n 0, 1) := by decide +kernel
theorem dX2_init_5 : decode cX2_init 5 = .ok (.bipush 12, 2) := by decide +kernel
theorem dX2_init_7 : decode cX2_init 7 = .ok (.newarray .int, 2) := by decide +kernel
theorem dX2_init_9 : decode cX2_init 9 = .ok (.putfield 9, 3) := by decide +kernel
theorem dX2_init_12 : decode cX2_init 12 = .ok (.aload_n 0, 1) := by decide +kernel
theorem dX2_init_13 : decode cX2_init 13 = .ok (.bipush 12, 2) := by decide +kernel
theorem dX2_init_15 : decode cX2_init 15 = .ok (.newarray .int, 2) := by decide +kernel
theorem dX2_init_17 : decode cX2_init 17 = .ok (.putfield 13, 3) := by decide +kernel
theorem dX2_init_20 : decode cX2_init 20 = .ok (.aload_n 0, 1) := by decide +kernel
theorem dX2_init_21 : decode cX2_init 21 = .ok (.bipush 12, 2) := by decide +kernel
theorem dX2_init_23 : decode cX2_init 23 = .ok (.newarray .int, 2) := by decide +kernel
theorem dX2_init_25 : decode cX2_init 25 = .ok (.putfield 16, 3) := by decide +kernel
theorem dX2_init_28 : decode cX2_init 28 = .ok (.aload_n 0, 1) := by decide +kernel
theorem dX2_init_29 : decode cX2_init 29 = .ok (.sipush 720, 3) := by decide +kernel
theorem dX2_init_32 : decode cX2_init 32 = .ok (.newarray .int, 2) := by decide +kernel
theorem dX2_init_34 : decode cX2_init 34 = .ok (.putfield 19, 3) := by decide +kernel
theorem dX2_init_37 : decode cX2_init 37 = .ok (.aload_n 0, 1) := by decide +kernel
theorem dX2_init_38 : decode cX2_init 38 = .ok (.sipush 720, 3) := by decide +kernel
theorem dX2_init_41 : decode cX2_init 41 = .ok (.newarray .int, 2) := by decide +kernel
theorem dX2_init_43 : decode cX2_init 43 = .ok (.putfield 22, 3) := by decide +kernel
theorem dX2_init_46 : decode cX2_init 46 = .ok (.aload_n 0, 1) := by decide +kernel
theorem dX2_init_47 : decode cX2_init 47 = .ok (.sipush 720, 3) := by decide +kernel
theorem dX2_init_50 : decode cX2_init 50 = .ok (.newarray .int, 2) := by decide +kernel
theorem dX2_init_52 : decode cX2_init 52 = .ok (.putfield 25, 3) := by decide +kernel
theorem dX2_init_55 : decode cX2_init 55 = .ok (.aload_n 0, 1) := by decide +kernel
theorem dX2_init_56 : decode cX2_init 56 = .ok (.sipush 4320, 3) := by decide +kernel
theorem dX2_init_59 : decode cX2_init 59 = .ok (.newarray .int, 2) := by decide +kernel
theorem dX2_init_61 : decode cX2_init 61 = .ok (.putfield 28, 3) := by decide +kernel
theorem dX2_init_64 : decode cX2_init 64 = .ok (.return_, 1) := by decide +kernel
theorem dX2_isFull_0 : decode cX2_isFull 0 = .ok (.aload_n 0, 1) := by decide +kernel
theorem dX2_isFull_1 : decode cX2_isFull 1 = .ok (.getfield 13, 3) := by decide +kernel
theorem dX2_isFull_4 : decode cX2_isFull 4 = .ok (.iload_n 1, 1) := by decide +kernel
theorem dX2_isFull_5 : decode cX2_isFull 5 = .ok (.iaload, 1) := by decide +kernel
theorem dX2_isFull_6 : decode cX2_isFull 6 = .ok (.bipush 60, 2) := by decide +kernel
theorem dX2_isFull_8 : decode cX2_isFull 8 = .ok (.if_icmp .lt 7, 3) := by decide +kernel
theorem dX2_isFull_11 : decode cX2_isFull 11 = .ok (.iconst 1, 1) := by decide +kernel
theorem dX2_isFull_12 : decode cX2_isFull 12 = .ok (.goto 4, 3) := by decide +kernel
theorem dX2_isFull_15 : decode cX2_isFull 15 = .ok (.iconst 0, 1) := by decide +kernel
theorem dX2_isFull_16 : decode cX2_isFull 16 = .ok (.ireturn, 1) := by decide +kernel
theorem dX2_addPart_0 : decode cX2_addPart 0 = .ok (.iload_n 1, 1) := by decide +kernel
theorem dX2_addPart_1 : decode cX2_addPart 1 = .ok (.bipush 60, 2) := by decide +kernel
theorem dX2_addPart_3 : decode cX2_addPart 3 = .ok (.imul, 1) := by decide +kernel
theorem dX2_addPart_4 : decode cX2_addPart 4 = .ok (.aload_n 0, 1) := by decide +kernel
theorem dX2_addPart_5 : decode cX2_addPart 5 = .ok (.getfield 13, 3) := by decide +kernel
theorem dX2_addPart_8 : decode cX2_addPart 8 = .ok (.iload_n 1, 1) := by decide +kernel
theorem dX2_addPart_9 : decode cX2_addPart 9 = .ok (.iaload, 1) := by decide +kernel
theorem dX2_addPart_10 : decode cX2_addPart 10 = .ok (.iadd, 1) := by decide +kernel
theorem dX2_addPart_11 : decode cX2_addPart 11 = .ok (.istore 4, 2) := by decide +kernel
theorem dX2_addPart_13 : decode cX2_addPart 13 = .ok (.aload_n 0, 1) := by decide +kernel
theorem dX2_addPart_14 : decode cX2_addPart 14 = .ok (.getfield 13, 3) := by decide +kernel
theorem dX2_addPart_17 : decode cX2_addPart 17 = .ok (.iload_n 1, 1) := by decide +kernel
theorem dX2_addPart_18 : decode cX2_addPart 18 = .ok (.dup2, 1) := by decide +kernel
theorem dX2_addPart_19 : decode cX2_addPart 19 = .ok (.iaload, 1) := by decide +kernel
theorem dX2_addPart_20 : decode cX2_addPart 20 = .ok (.iconst 1, 1) := by decide +kernel
theorem dX2_addPart_21 : decode cX2_addPart 21 = .ok (.iadd, 1) := by decide +kernel
theorem dX2_addPart_22 : decode cX2_addPart 22 = .ok (.iastore, 1) := by decide +kernel
theorem dX2_addPart_23 : decode cX2_addPart 23 = .ok (.aload_n 0, 1) := by decide +kernel
theorem dX2_addPart_24 : decode cX2_addPart 24 = .ok (.getfield 19, 3) := by decide +kernel
theorem dX2_addPart_27 : decode cX2_addPart 27 = .ok (.iload 4, 2) := by decide +kernel
theorem dX2_addPart_29 : decode cX2_addPart 29 = .ok (.iload_n 2, 1) := by decide +kernel
theorem dX2_addPart_30 : decode cX2_addPart 30 = .ok (.iastore, 1) := by decide +kernel
theorem dX2_addPart_31 : decode cX2_addPart 31 = .ok (.aload_n 0, 1) := by decide +kernel
theorem dX2_addPart_32 : decode cX2_addPart 32 = .ok (.getfield 22, 3) := by decide +kernel
theorem dX2_addPart_35 : decode cX2_addPart 35 = .ok (.iload 4, 2) := by decide +kernel
theorem dX2_addPart_37 : decode cX2_addPart 37 = .ok (.iload_n 3, 1) := by decide +kernel
theorem dX2_addPart_38 : decode cX2_addPart 38 = .ok (.iastore, 1) := by decide +kernel
theorem dX2_addPart_39 : decode cX2_addPart 39 = .ok (.aload_n 0, 1) := by decide +kernel
theorem dX2_addPart_40 : decode cX2_addPart 40 = .ok (.getfield 25, 3) := by decide +kernel
theorem dX2_addPart_43 : decode cX2_addPart 43 = .ok (.iload 4, 2) := by decide +kernel
theorem dX2_addPart_45 : decode cX2_addPart 45 = .ok (.iconst 0, 1) := by decide +kernel
theorem dX2_addPart_46 : decode cX2_addPart 46 = .ok (.iastore, 1) := by decide +kernel
theorem dX2_addPart_47 : decode cX2_addPart 47 = .ok (.iload 4, 2) := by decide +kernel
theorem dX2_addPart_49 : decode cX2_addPart 49 = .ok (.ireturn, 1) := by decide +kernel
theorem dX2_attach_0 : decode cX2_attach 0 = .ok (.aload_n 0, 1) := by decide +kernel
theorem dX2_attach_1 : decode cX2_attach 1 = .ok (.getfield 25, 3) := by decide +kernel
theorem dX2_attach_4 : decode cX2_attach 4 = .ok (.iload_n 1, 1) := by decide +kernel
theorem dX2_attach_5 : decode cX2_attach 5 = .ok (.iaload, 1) := by decide +kernel
theorem dX2_attach_6 : decode cX2_attach 6 = .ok (.bipush 6, 2) := by decide +kernel
theorem dX2_attach_8 : decode cX2_attach 8 = .ok (.if_icmp .ge 20, 3) := by decide +kernel
theorem dX2_attach_11 : decode cX2_attach 11 = .ok (.aload_n 0, 1) := by decide +kernel
theorem dX2_attach_12 : decode cX2_attach 12 = .ok (.getfield 28, 3) := by decide +kernel
theorem dX2_attach_15 : decode cX2_attach 15 = .ok (.iload_n 1, 1) := by decide +kernel
theorem dX2_attach_16 : decode cX2_attach 16 = .ok (.bipush 6, 2) := by decide +kernel
theorem dX2_attach_18 : decode cX2_attach 18 = .ok (.imul, 1) := by decide +kernel
theorem dX2_attach_19 : decode cX2_attach 19 = .ok (.aload_n 0, 1) := by decide +kernel
theorem dX2_attach_20 : decode cX2_attach 20 = .ok (.getfield 25, 3) := by decide +kernel
theorem dX2_attach_23 : decode cX2_attach 23 = .ok (.iload_n 1, 1) := by decide +kernel
theorem dX2_attach_24 : decode cX2_attach 24 = .ok (.iaload, 1) := by decide +kernel
theorem dX2_attach_25 : decode cX2_attach 25 = .ok (.iadd, 1) := by decide +kernel
theorem dX2_attach_26 : decode cX2_attach 26 = .ok (.iload_n 2, 1) := by decide +kernel
theorem dX2_attach_27 : decode cX2_attach 27 = .ok (.iastore, 1) := by decide +kernel
theorem dX2_attach_28 : decode cX2_attach 28 = .ok (.aload_n 0, 1) := by decide +kernel
theorem dX2_attach_29 : decode cX2_attach 29 = .ok (.getfield 25, 3) := by decide +kernel
theorem dX2_attach_32 : decode cX2_attach 32 = .ok (.iload_n 1, 1) := by decide +kernel
theorem dX2_attach_33 : decode cX2_attach 33 = .ok (.dup2, 1) := by decide +kernel
theorem dX2_attach_34 : decode cX2_attach 34 = .ok (.iaload, 1) := by decide +kernel
theorem dX2_attach_35 : decode cX2_attach 35 = .ok (.iconst 1, 1) := by decide +kernel
theorem dX2_attach_36 : decode cX2_attach 36 = .ok (.iadd, 1) := by decide +kernel
theorem dX2_attach_37 : decode cX2_attach 37 = .ok (.iastore, 1) := by decide +kernel
theorem dX2_attach_38 : decode cX2_attach 38 = .ok (.return_, 1) := by decide +kernel
theorem dX2_childOf_0 : decode cX2_childOf 0 = .ok (.aload_n 0, 1) := by decide +kernel
theorem dX2_childOf_1 : decode cX2_childOf 1 = .ok (.getfield 28, 3) := by decide +kernel
theorem dX2_childOf_4 : decode cX2_childOf 4 = .ok (.iload_n 1, 1) := by decide +kernel
theorem dX2_childOf_5 : decode cX2_childOf 5 = .ok (.bipush 6, 2) := by decide +kernel
theorem dX2_childOf_7 : decode cX2_childOf 7 = .ok (.imul, 1) := by decide +kernel
theorem dX2_childOf_8 : decode cX2_childOf 8 = .ok (.iload_n 2, 1) := by decide +kernel
theorem dX2_childOf_9 : decode cX2_childOf 9 = .ok (.iadd, 1) := by decide +kernel
theorem dX2_childOf_10 : decode cX2_childOf 10 = .ok (.iaload, 1) := by decide +kernel
theorem dX2_childOf_11 : decode cX2_childOf 11 = .ok (.ireturn, 1) := by decide +kernel
theorem dX3_init_0 : decode cX3_init 0 = .ok (.aload_n 0, 1) := by decide +kernel
theorem dX3_init_1 : decode cX3_init 1 = .ok (.invokespecial 7, 3) := by decide +kernel
theorem dX3_init_4 : decode cX3_init 4 = .ok (.aload_n 0, 1) := by decide +kernel
theorem dX3_init_5 : decode cX3_init 5 = .ok (.new 13, 3) := by decide +kernel
theorem dX3_init_8 : decode cX3_init 8 = .ok (.dup, 1) := by decide +kernel
theorem dX3_init_9 : decode cX3_init 9 = .ok (.invokespecial 15, 3) := by decide +kernel
theorem dX3_init_12 : decode cX3_init 12 = .ok (.putfield 16, 3) := by decide +kernel
theorem dX3_init_15 : decode cX3_init 15 = .ok (.aload_n 0, 1) := by decide +kernel
theorem dX3_init_16 : decode cX3_init 16 = .ok (.bipush 12, 2) := by decide +kernel
theorem dX3_init_18 : decode cX3_init 18 = .ok (.newarray .long, 2) := by decide +kernel
theorem dX3_init_20 : decode cX3_init 20 = .ok (.putfield 20, 3) := by decide +kernel
theorem dX3_init_23 : decode cX3_init 23 = .ok (.aload_n 0, 1) := by decide +kernel
theorem dX3_init_24 : decode cX3_init 24 = .ok (.bipush 6, 2) := by decide +kernel
theorem dX3_init_26 : decode cX3_init 26 = .ok (.newarray .long, 2) := by decide +kernel
theorem dX3_init_28 : decode cX3_init 28 = .ok (.putfield 24, 3) := by decide +kernel
theorem dX3_init_31 : decode cX3_init 31 = .ok (.aload_n 0, 1) := by decide +kernel
theorem dX3_init_32 : decode cX3_init 32 = .ok (.sipush 720, 3) := by decide +kernel
theorem dX3_init_35 : decode cX3_init 35 = .ok (.newarray .long, 2) := by decide +kernel
theorem dX3_init_37 : decode cX3_init 37 = .ok (.putfield 27, 3) := by decide +kernel
theorem dX3_init_40 : decode cX3_init 40 = .ok (.aload_n 0, 1) := by decide +kernel
theorem dX3_init_41 : decode cX3_init 41 = .ok (.sipush 720, 3) := by decide +kernel
theorem dX3_init_44 : decode cX3_init 44 = .ok (.newarray .int, 2) := by decide +kernel
theorem dX3_init_46 : decode cX3_init 46 = .ok (.putfield 30, 3) := by decide +kernel
theorem dX3_init_49 : decode cX3_init 49 = .ok (.aload_n 0, 1) := by decide +kernel
theorem dX3_init_50 : decode cX3_init 50 = .ok (.bipush 81, 2) := by decide +kernel
theorem dX3_init_52 : decode cX3_init 52 = .ok (.newarray .int, 2) := by decide +kernel
theorem dX3_init_54 : decode cX3_init 54 = .ok (.putfield 34, 3) := by decide +kernel
theorem dX3_init_57 : decode cX3_init 57 = .ok (.aload_n 0, 1) := by decide +kernel
theorem dX3_init_58 : decode cX3_init 58 = .ok (.new 1, 3) := by decide +kernel
theorem dX3_init_61 : decode cX3_init 61 = .ok (.dup, 1) := by decide +kernel
theorem dX3_init_62 : decode cX3_init 62 = .ok (.invokespecial 37, 3) := by decide +kernel
theorem dX3_init_65 : decode cX3_init 65 = .ok (.putfield 38, 3) := by decide +kernel
theorem dX3_init_68 : decode cX3_init 68 = .ok (.return_, 1) := by decide +kernel
theorem dX3_readText_0 : decode cX3_readText 0 = .ok (.aload_n 0, 1) := by decide +kernel
theorem dX3_readText_1 : decode cX3_readText 1 = .ok (.getfield 38, 3) := by decide +kernel
theorem dX3_readText_4 : decode cX3_readText 4 = .ok (.iconst 0, 1) := by decide +kernel
theorem dX3_readText_5 : decode cX3_readText 5 = .ok (.putfield 42, 3) := by decide +kernel
theorem dX3_readText_8 : decode cX3_readText 8 = .ok (.aload_n 0, 1) := by decide +kernel
theorem dX3_readText_9 : decode cX3_readText 9 = .ok (.iconst 0, 1) := by decide +kernel
theorem dX3_readText_10 : decode cX3_readText 10 = .ok (.putfield 46, 3) := by decide +kernel
theorem dX3_readText_13 : decode cX3_readText 13 = .ok (.aload_n 0, 1) := by decide +kernel
theorem dX3_readText_14 : decode cX3_readText 14 = .ok (.iconst (-1), 1) := by decide +kernel
theorem dX3_readText_15 : decode cX3_readText 15 = .ok (.putfield 49, 3) := by decide +kernel
theorem dX3_readText_18 : decode cX3_readText 18 = .ok (.aload_n 0, 1) := by decide +kernel
theorem dX3_readText_19 : decode cX3_readText 19 = .ok (.getfield 16, 3) := by decide +kernel
theorem dX3_readText_22 : decode cX3_readText 22 = .ok (.invokevirtual 52, 3) := by decide +kernel
theorem dX3_readText_25 : decode cX3_readText 25 = .ok (.iconst 0, 1) := by decide +kernel
theorem dX3_readText_26 : decode cX3_readText 26 = .ok (.istore_n 1, 1) := by decide +kernel
theorem dX3_readText_27 : decode cX3_readText 27 = .ok (.iload_n 1, 1) := by decide +kernel
theorem dX3_readText_28 : decode cX3_readText 28 = .ok (.aload_n 0, 1) := by decide +kernel
theorem dX3_readText_29 : decode cX3_readText 29 = .ok (.getfield 16, 3) := by decide +kernel
theorem dX3_readText_32 : decode cX3_readText 32 = .ok (.getfield 55, 3) := by decide +kernel
theorem dX3_readText_35 : decode cX3_readText 35 = .ok (.if_icmp .ge 94, 3) := by decide +kernel
theorem dX3_readText_38 : decode cX3_readText 38 = .ok (.aload_n 0, 1) := by decide +kernel
theorem dX3_readText_39 : decode cX3_readText 39 = .ok (.getfield 49, 3) := by decide +kernel
theorem dX3_readText_42 : decode cX3_readText 42 = .ok (.iconst (-1), 1) := by decide +kernel
theorem dX3_readText_43 : decode cX3_readText 43 = .ok (.if_icmp .ne 86, 3) := by decide +kernel
theorem dX3_readText_46 : decode cX3_readText 46 = .ok (.aload_n 0, 1) := by decide +kernel
theorem dX3_readText_47 : decode cX3_readText 47 = .ok (.getfield 16, 3) := by decide +kernel
theorem dX3_readText_50 : decode cX3_readText 50 = .ok (.getfield 58, 3) := by decide +kernel
theorem dX3_readText_53 : decode cX3_readText 53 = .ok (.ifCond .eq 76, 3) := by decide +kernel
theorem dX3_readText_56 : decode cX3_readText 56 = .ok (.aload_n 0, 1) := by decide +kernel
theorem dX3_readText_57 : decode cX3_readText 57 = .ok (.getfield 46, 3) := by decide +kernel
theorem dX3_readText_60 : decode cX3_readText 60 = .ok (.bipush 6, 2) := by decide +kernel
theorem dX3_readText_62 : decode cX3_readText 62 = .ok (.if_icmp .ne 10, 3) := by decide +kernel
theorem dX3_readText_65 : decode cX3_readText 65 = .ok (.aload_n 0, 1) := by decide +kernel
theorem dX3_readText_66 : decode cX3_readText 66 = .ok (.invokevirtual 61, 3) := by decide +kernel
theorem dX3_readText_69 : decode cX3_readText 69 = .ok (.goto 39, 3) := by decide +kernel
theorem dX3_readText_72 : decode cX3_readText 72 = .ok (.aload_n 0, 1) := by decide +kernel
theorem dX3_readText_73 : decode cX3_readText 73 = .ok (.getfield 46, 3) := by decide +kernel
theorem dX3_readText_76 : decode cX3_readText 76 = .ok (.bipush 7, 2) := by decide +kernel
theorem dX3_readText_78 : decode cX3_readText 78 = .ok (.if_icmp .ne 10, 3) := by decide +kernel
theorem dX3_readText_81 : decode cX3_readText 81 = .ok (.aload_n 0, 1) := by decide +kernel
theorem dX3_readText_82 : decode cX3_readText 82 = .ok (.invokevirtual 64, 3) := by decide +kernel
theorem dX3_readText_85 : decode cX3_readText 85 = .ok (.goto 23, 3) := by decide +kernel
theorem dX3_readText_88 : decode cX3_readText 88 = .ok (.aload_n 0, 1) := by decide +kernel
theorem dX3_readText_89 : decode cX3_readText 89 = .ok (.getfield 46, 3) := by decide +kernel
theorem dX3_readText_92 : decode cX3_readText 92 = .ok (.bipush 6, 2) := by decide +kernel
theorem dX3_readText_94 : decode cX3_readText 94 = .ok (.if_icmp .ge 10, 3) := by decide +kernel
theorem dX3_readText_97 : decode cX3_readText 97 = .ok (.aload_n 0, 1) := by decide +kernel
theorem dX3_readText_98 : decode cX3_readText 98 = .ok (.invokevirtual 67, 3) := by decide +kernel
theorem dX3_readText_101 : decode cX3_readText 101 = .ok (.goto 7, 3) := by decide +kernel
theorem dX3_readText_104 : decode cX3_readText 104 = .ok (.aload_n 0, 1) := by decide +kernel
theorem dX3_readText_105 : decode cX3_readText 105 = .ok (.invokevirtual 70, 3) := by decide +kernel
theorem dX3_readText_108 : decode cX3_readText 108 = .ok (.aload_n 0, 1) := by decide +kernel
theorem dX3_readText_109 : decode cX3_readText 109 = .ok (.getfield 49, 3) := by decide +kernel
theorem dX3_readText_112 : decode cX3_readText 112 = .ok (.iconst (-1), 1) := by decide +kernel
theorem dX3_readText_113 : decode cX3_readText 113 = .ok (.if_icmp .ne 10, 3) := by decide +kernel
theorem dX3_readText_116 : decode cX3_readText 116 = .ok (.aload_n 0, 1) := by decide +kernel
theorem dX3_readText_117 : decode cX3_readText 117 = .ok (.getfield 16, 3) := by decide +kernel
theorem dX3_readText_120 : decode cX3_readText 120 = .ok (.invokevirtual 73, 3) := by decide +kernel
theorem dX3_readText_123 : decode cX3_readText 123 = .ok (.iinc 1 1, 3) := by decide +kernel
theorem dX3_readText_126 : decode cX3_readText 126 = .ok (.goto (-99), 3) := by decide +kernel
theorem dX3_readText_129 : decode cX3_readText 129 = .ok (.aload_n 0, 1) := by decide +kernel
theorem dX3_readText_130 : decode cX3_readText 130 = .ok (.getfield 46, 3) := by decide +kernel
theorem dX3_readText_133 : decode cX3_readText 133 = .ok (.ifCond .ne 17, 3) := by decide +kernel
theorem dX3_readText_136 : decode cX3_readText 136 = .ok (.aload_n 0, 1) := by decide +kernel
theorem dX3_readText_137 : decode cX3_readText 137 = .ok (.getfield 38, 3) := by decide +kernel
theorem dX3_readText_140 : decode cX3_readText 140 = .ok (.getfield 42, 3) := by decide +kernel
theorem dX3_readText_143 : decode cX3_readText 143 = .ok (.ifCond .le 7, 3) := by decide +kernel
theorem dX3_readText_146 : decode cX3_readText 146 = .ok (.iconst 1, 1) := by decide +kernel
theorem dX3_readText_147 : decode cX3_readText 147 = .ok (.goto 4, 3) := by decide +kernel
theorem dX3_readText_150 : decode cX3_readText 150 = .ok (.iconst 0, 1) := by decide +kernel
theorem dX3_readText_151 : decode cX3_readText 151 = .ok (.istore_n 1, 1) := by decide +kernel
theorem dX3_readText_152 : decode cX3_readText 152 = .ok (.aload_n 0, 1) := by decide +kernel
theorem dX3_readText_153 : decode cX3_readText 153 = .ok (.getfield 49, 3) := by decide +kernel
theorem dX3_readText_156 : decode cX3_readText 156 = .ok (.iconst (-1), 1) := by decide +kernel
theorem dX3_readText_157 : decode cX3_readText 157 = .ok (.if_icmp .ne 11, 3) := by decide +kernel
theorem dX3_readText_160 : decode cX3_readText 160 = .ok (.iload_n 1, 1) := by decide +kernel
theorem dX3_readText_161 : decode cX3_readText 161 = .ok (.ifCond .ne 7, 3) := by decide +kernel
theorem dX3_readText_164 : decode cX3_readText 164 = .ok (.aload_n 0, 1) := by decide +kernel
theorem dX3_readText_165 : decode cX3_readText 165 = .ok (.invokevirtual 76, 3) := by decide +kernel
theorem dX3_readText_168 : decode cX3_readText 168 = .ok (.aload_n 0, 1) := by decide +kernel
theorem dX3_readText_169 : decode cX3_readText 169 = .ok (.getfield 49, 3) := by decide +kernel
theorem dX3_readText_172 : decode cX3_readText 172 = .ok (.iconst (-1), 1) := by decide +kernel
theorem dX3_readText_173 : decode cX3_readText 173 = .ok (.if_icmp .ne 7, 3) := by decide +kernel
theorem dX3_readText_176 : decode cX3_readText 176 = .ok (.aload_n 0, 1) := by decide +kernel
theorem dX3_readText_177 : decode cX3_readText 177 = .ok (.invokevirtual 79, 3) := by decide +kernel
theorem dX3_readText_180 : decode cX3_readText 180 = .ok (.aload_n 0, 1) := by decide +kernel
theorem dX3_readText_181 : decode cX3_readText 181 = .ok (.getfield 49, 3) := by decide +kernel
theorem dX3_readText_184 : decode cX3_readText 184 = .ok (.ireturn, 1) := by decide +kernel
theorem dX3_exchangeFor_0 : decode cX3_exchangeFor 0 = .ok (.aload_n 0, 1) := by decide +kernel
theorem dX3_exchangeFor_1 : decode cX3_exchangeFor 1 = .ok (.getfield 38, 3) := by decide +kernel
theorem dX3_exchangeFor_4 : decode cX3_exchangeFor 4 = .ok (.astore_n 2, 1) := by decide +kernel
theorem dX3_exchangeFor_5 : decode cX3_exchangeFor 5 = .ok (.aload_n 0, 1) := by decide +kernel
theorem dX3_exchangeFor_6 : decode cX3_exchangeFor 6 = .ok (.aload_n 1, 1) := by decide +kernel
theorem dX3_exchangeFor_7 : decode cX3_exchangeFor 7 = .ok (.putfield 38, 3) := by decide +kernel
theorem dX3_exchangeFor_10 : decode cX3_exchangeFor 10 = .ok (.aload_n 2, 1) := by decide +kernel
theorem dX3_exchangeFor_11 : decode cX3_exchangeFor 11 = .ok (.areturn, 1) := by decide +kernel
theorem dX3_takeOfHead_0 : decode cX3_takeOfHead 0 = .ok (.aload_n 0, 1) := by decide +kernel
theorem dX3_takeOfHead_1 : decode cX3_takeOfHead 1 = .ok (.getfield 46, 3) := by decide +kernel
theorem dX3_takeOfHead_4 : decode cX3_takeOfHead 4 = .ok (.tableswitch 117 0 4 #[36, 43, 53, 80, 87], 36) := by decide +kernel
theorem dX3_takeOfHead_40 : decode cX3_takeOfHead 40 = .ok (.aload_n 0, 1) := by decide +kernel
theorem dX3_takeOfHead_41 : decode cX3_takeOfHead 41 = .ok (.invokevirtual 82, 3) := by decide +kernel
theorem dX3_takeOfHead_44 : decode cX3_takeOfHead 44 = .ok (.goto 85, 3) := by decide +kernel
theorem dX3_takeOfHead_47 : decode cX3_takeOfHead 47 = .ok (.aload_n 0, 1) := by decide +kernel
theorem dX3_takeOfHead_48 : decode cX3_takeOfHead 48 = .ok (.bipush 40, 2) := by decide +kernel
theorem dX3_takeOfHead_50 : decode cX3_takeOfHead 50 = .ok (.iconst 2, 1) := by decide +kernel
theorem dX3_takeOfHead_51 : decode cX3_takeOfHead 51 = .ok (.invokevirtual 85, 3) := by decide +kernel
theorem dX3_takeOfHead_54 : decode cX3_takeOfHead 54 = .ok (.goto 75, 3) := by decide +kernel
theorem dX3_takeOfHead_57 : decode cX3_takeOfHead 57 = .ok (.aload_n 0, 1) := by decide +kernel
theorem dX3_takeOfHead_58 : decode cX3_takeOfHead 58 = .ok (.getfield 16, 3) := by decide +kernel
theorem dX3_takeOfHead_61 : decode cX3_takeOfHead 61 = .ok (.getfield 58, 3) := by decide +kernel
theorem dX3_takeOfHead_64 : decode cX3_takeOfHead 64 = .ok (.bipush 41, 2) := by decide +kernel
theorem dX3_takeOfHead_66 : decode cX3_takeOfHead 66 = .ok (.if_icmp .ne 11, 3) := by decide +kernel
theorem dX3_takeOfHead_69 : decode cX3_takeOfHead 69 = .ok (.aload_n 0, 1) := by decide +kernel
theorem dX3_takeOfHead_70 : decode cX3_takeOfHead 70 = .ok (.iconst 5, 1) := by decide +kernel
theorem dX3_takeOfHead_71 : decode cX3_takeOfHead 71 = .ok (.putfield 46, 3) := by decide +kernel
theorem dX3_takeOfHead_74 : decode cX3_takeOfHead 74 = .ok (.goto 55, 3) := by decide +kernel
theorem dX3_takeOfHead_77 : decode cX3_takeOfHead 77 = .ok (.aload_n 0, 1) := by decide +kernel
theorem dX3_takeOfHead_78 : decode cX3_takeOfHead 78 = .ok (.invokevirtual 89, 3) := by decide +kernel
theorem dX3_takeOfHead_81 : decode cX3_takeOfHead 81 = .ok (.goto 48, 3) := by decide +kernel
theorem dX3_takeOfHead_84 : decode cX3_takeOfHead 84 = .ok (.aload_n 0, 1) := by decide +kernel
theorem dX3_takeOfHead_85 : decode cX3_takeOfHead 85 = .ok (.invokevirtual 89, 3) := by decide +kernel
theorem dX3_takeOfHead_88 : decode cX3_takeOfHead 88 = .ok (.goto 41, 3) := by decide +kernel
theorem dX3_takeOfHead_91 : decode cX3_takeOfHead 91 = .ok (.aload_n 0, 1) := by decide +kernel
theorem dX3_takeOfHead_92 : decode cX3_takeOfHead 92 = .ok (.getfield 16, 3) := by decide +kernel
theorem dX3_takeOfHead_95 : decode cX3_takeOfHead 95 = .ok (.getfield 58, 3) := by decide +kernel
theorem dX3_takeOfHead_98 : decode cX3_takeOfHead 98 = .ok (.bipush 44, 2) := by decide +kernel
theorem dX3_takeOfHead_100 : decode cX3_takeOfHead 100 = .ok (.if_icmp .ne 11, 3) := by decide +kernel
theorem dX3_takeOfHead_103 : decode cX3_takeOfHead 103 = .ok (.aload_n 0, 1) := by decide +kernel
theorem dX3_takeOfHead_104 : decode cX3_takeOfHead 104 = .ok (.iconst 3, 1) := by decide +kernel
theorem dX3_takeOfHead_105 : decode cX3_takeOfHead 105 = .ok (.putfield 46, 3) := by decide +kernel
theorem dX3_takeOfHead_108 : decode cX3_takeOfHead 108 = .ok (.goto 21, 3) := by decide +kernel
theorem dX3_takeOfHead_111 : decode cX3_takeOfHead 111 = .ok (.aload_n 0, 1) := by decide +kernel
theorem dX3_takeOfHead_112 : decode cX3_takeOfHead 112 = .ok (.bipush 41, 2) := by decide +kernel
theorem dX3_takeOfHead_114 : decode cX3_takeOfHead 114 = .ok (.iconst 5, 1) := by decide +kernel
theorem dX3_takeOfHead_115 : decode cX3_takeOfHead 115 = .ok (.invokevirtual 85, 3) := by decide +kernel
theorem dX3_takeOfHead_118 : decode cX3_takeOfHead 118 = .ok (.goto 11, 3) := by decide +kernel
theorem dX3_takeOfHead_121 : decode cX3_takeOfHead 121 = .ok (.aload_n 0, 1) := by decide +kernel
theorem dX3_takeOfHead_122 : decode cX3_takeOfHead 122 = .ok (.bipush 61, 2) := by decide +kernel
theorem dX3_takeOfHead_124 : decode cX3_takeOfHead 124 = .ok (.bipush 6, 2) := by decide +kernel
theorem dX3_takeOfHead_126 : decode cX3_takeOfHead 126 = .ok (.invokevirtual 85, 3) := by decide +kernel
theorem dX3_takeOfHead_129 : decode cX3_takeOfHead 129 = .ok (.return_, 1) := by decide +kernel
theorem dX3_takeDefinitionName_0 : decode cX3_takeDefinitionName 0 = .ok (.aload_n 0, 1) := by decide +kernel
theorem dX3_takeDefinitionName_1 : decode cX3_takeDefinitionName 1 = .ok (.aload_n 0, 1) := by decide +kernel
theorem dX3_takeDefinitionName_2 : decode cX3_takeDefinitionName 2 = .ok (.getfield 38, 3) := by decide +kernel
theorem dX3_takeDefinitionName_5 : decode cX3_takeDefinitionName 5 = .ok (.getfield 42, 3) := by decide +kernel
theorem dX3_takeDefinitionName_8 : decode cX3_takeDefinitionName 8 = .ok (.putfield 92, 3) := by decide +kernel
theorem dX3_takeDefinitionName_11 : decode cX3_takeDefinitionName 11 = .ok (.aload_n 0, 1) := by decide +kernel
theorem dX3_takeDefinitionName_12 : decode cX3_takeDefinitionName 12 = .ok (.getfield 16, 3) := by decide +kernel
theorem dX3_takeDefinitionName_15 : decode cX3_takeDefinitionName 15 = .ok (.getfield 58, 3) := by decide +kernel
theorem dX3_takeDefinitionName_18 : decode cX3_takeDefinitionName 18 = .ok (.iconst 2, 1) := by decide +kernel
theorem dX3_takeDefinitionName_19 : decode cX3_takeDefinitionName 19 = .ok (.if_icmp .ne 27, 3) := by decide +kernel
theorem dX3_takeDefinitionName_22 : decode cX3_takeDefinitionName 22 = .ok (.aload_n 0, 1) := by decide +kernel
theorem dX3_takeDefinitionName_23 : decode cX3_takeDefinitionName 23 = .ok (.getfield 92, 3) := by decide +kernel
theorem dX3_takeDefinitionName_26 : decode cX3_takeDefinitionName 26 = .ok (.bipush 12, 2) := by decide +kernel
theorem dX3_takeDefinitionName_28 : decode cX3_takeDefinitionName 28 = .ok (.if_icmp .eq 18, 3) := by decide +kernel
theorem dX3_takeDefinitionName_31 : decode cX3_takeDefinitionName 31 = .ok (.aload_n 0, 1) := by decide +kernel
theorem dX3_takeDefinitionName_32 : decode cX3_takeDefinitionName 32 = .ok (.aload_n 0, 1) := by decide +kernel
theorem dX3_takeDefinitionName_33 : decode cX3_takeDefinitionName 33 = .ok (.getfield 16, 3) := by decide +kernel
theorem dX3_takeDefinitionName_36 : decode cX3_takeDefinitionName 36 = .ok (.getfield 95, 3) := by decide +kernel
theorem dX3_takeDefinitionName_39 : decode cX3_takeDefinitionName 39 = .ok (.invokevirtual 99, 3) := by decide +kernel
theorem dX3_takeDefinitionName_42 : decode cX3_takeDefinitionName 42 = .ok (.iconst (-1), 1) := by decide +kernel
theorem dX3_takeDefinitionName_43 : decode cX3_takeDefinitionName 43 = .ok (.if_icmp .eq 8, 3) := by decide +kernel
theorem dX3_takeDefinitionName_46 : decode cX3_takeDefinitionName 46 = .ok (.aload_n 0, 1) := by decide +kernel
theorem dX3_takeDefinitionName_47 : decode cX3_takeDefinitionName 47 = .ok (.invokevirtual 76, 3) := by decide +kernel
theorem dX3_takeDefinitionName_50 : decode cX3_takeDefinitionName 50 = .ok (.return_, 1) := by decide +kernel
theorem dX3_takeDefinitionName_51 : decode cX3_takeDefinitionName 51 = .ok (.aload_n 0, 1) := by decide +kernel
theorem dX3_takeDefinitionName_52 : decode cX3_takeDefinitionName 52 = .ok (.getfield 20, 3) := by decide +kernel
theorem dX3_takeDefinitionName_55 : decode cX3_takeDefinitionName 55 = .ok (.aload_n 0, 1) := by decide +kernel
theorem dX3_takeDefinitionName_56 : decode cX3_takeDefinitionName 56 = .ok (.getfield 92, 3) := by decide +kernel
theorem dX3_takeDefinitionName_59 : decode cX3_takeDefinitionName 59 = .ok (.aload_n 0, 1) := by decide +kernel
theorem dX3_takeDefinitionName_60 : decode cX3_takeDefinitionName 60 = .ok (.getfield 16, 3) := by decide +kernel
theorem dX3_takeDefinitionName_63 : decode cX3_takeDefinitionName 63 = .ok (.getfield 95, 3) := by decide +kernel
theorem dX3_takeDefinitionName_66 : decode cX3_takeDefinitionName 66 = .ok (.lastore, 1) := by decide +kernel
theorem dX3_takeDefinitionName_67 : decode cX3_takeDefinitionName 67 = .ok (.aload_n 0, 1) := by decide +kernel
theorem dX3_takeDefinitionName_68 : decode cX3_takeDefinitionName 68 = .ok (.getfield 38, 3) := by decide +kernel
theorem dX3_takeDefinitionName_71 : decode cX3_takeDefinitionName 71 = .ok (.getfield 103, 3) := by decide +kernel
theorem dX3_takeDefinitionName_74 : decode cX3_takeDefinitionName 74 = .ok (.aload_n 0, 1) := by decide +kernel
theorem dX3_takeDefinitionName_75 : decode cX3_takeDefinitionName 75 = .ok (.getfield 92, 3) := by decide +kernel
theorem dX3_takeDefinitionName_78 : decode cX3_takeDefinitionName 78 = .ok (.iconst 0, 1) := by decide +kernel
theorem dX3_takeDefinitionName_79 : decode cX3_takeDefinitionName 79 = .ok (.iastore, 1) := by decide +kernel
theorem dX3_takeDefinitionName_80 : decode cX3_takeDefinitionName 80 = .ok (.aload_n 0, 1) := by decide +kernel
theorem dX3_takeDefinitionName_81 : decode cX3_takeDefinitionName 81 = .ok (.getfield 38, 3) := by decide +kernel
theorem dX3_takeDefinitionName_84 : decode cX3_takeDefinitionName 84 = .ok (.getfield 106, 3) := by decide +kernel
theorem dX3_takeDefinitionName_87 : decode cX3_takeDefinitionName 87 = .ok (.aload_n 0, 1) := by decide +kernel
theorem dX3_takeDefinitionName_88 : decode cX3_takeDefinitionName 88 = .ok (.getfield 92, 3) := by decide +kernel
theorem dX3_takeDefinitionName_91 : decode cX3_takeDefinitionName 91 = .ok (.iconst 0, 1) := by decide +kernel
theorem dX3_takeDefinitionName_92 : decode cX3_takeDefinitionName 92 = .ok (.iastore, 1) := by decide +kernel
theorem dX3_takeDefinitionName_93 : decode cX3_takeDefinitionName 93 = .ok (.aload_n 0, 1) := by decide +kernel
theorem dX3_takeDefinitionName_94 : decode cX3_takeDefinitionName 94 = .ok (.iconst 0, 1) := by decide +kernel
theorem dX3_takeDefinitionName_95 : decode cX3_takeDefinitionName 95 = .ok (.putfield 109, 3) := by decide +kernel
theorem dX3_takeDefinitionName_98 : decode cX3_takeDefinitionName 98 = .ok (.aload_n 0, 1) := by decide +kernel
theorem dX3_takeDefinitionName_99 : decode cX3_takeDefinitionName 99 = .ok (.iconst 0, 1) := by decide +kernel
theorem dX3_takeDefinitionName_100 : decode cX3_takeDefinitionName 100 = .ok (.putfield 112, 3) := by decide +kernel
theorem dX3_takeDefinitionName_103 : decode cX3_takeDefinitionName 103 = .ok (.aload_n 0, 1) := by decide +kernel
theorem dX3_takeDefinitionName_104 : decode cX3_takeDefinitionName 104 = .ok (.iconst (-1), 1) := by decide +kernel
theorem dX3_takeDefinitionName_105 : decode cX3_takeDefinitionName 105 = .ok (.iconst 1, 1) := by decide +kernel
theorem dX3_takeDefinitionName_106 : decode cX3_takeDefinitionName 106 = .ok (.invokevirtual 115, 3) := by decide +kernel
theorem dX3_takeDefinitionName_109 : decode cX3_takeDefinitionName 109 = .ok (.return_, 1) := by decide +kernel
theorem dX3_takeArgumentName_0 : decode cX3_takeArgumentName 0 = .ok (.aload_n 0, 1) := by decide +kernel
theorem dX3_takeArgumentName_1 : decode cX3_takeArgumentName 1 = .ok (.getfield 38, 3) := by decide +kernel
theorem dX3_takeArgumentName_4 : decode cX3_takeArgumentName 4 = .ok (.getfield 103, 3) := by decide +kernel
theorem dX3_takeArgumentName_7 : decode cX3_takeArgumentName 7 = .ok (.aload_n 0, 1) := by decide +kernel
theorem dX3_takeArgumentName_8 : decode cX3_takeArgumentName 8 = .ok (.getfield 92, 3) := by decide +kernel
theorem dX3_takeArgumentName_11 : decode cX3_takeArgumentName 11 = .ok (.iaload, 1) := by decide +kernel
theorem dX3_takeArgumentName_12 : decode cX3_takeArgumentName 12 = .ok (.istore_n 1, 1) := by decide +kernel
theorem dX3_takeArgumentName_13 : decode cX3_takeArgumentName 13 = .ok (.aload_n 0, 1) := by decide +kernel
theorem dX3_takeArgumentName_14 : decode cX3_takeArgumentName 14 = .ok (.getfield 16, 3) := by decide +kernel
theorem dX3_takeArgumentName_17 : decode cX3_takeArgumentName 17 = .ok (.getfield 58, 3) := by decide +kernel
theorem dX3_takeArgumentName_20 : decode cX3_takeArgumentName 20 = .ok (.iconst 2, 1) := by decide +kernel
theorem dX3_takeArgumentName_21 : decode cX3_takeArgumentName 21 = .ok (.if_icmp .ne 24, 3) := by decide +kernel
theorem dX3_takeArgumentName_24 : decode cX3_takeArgumentName 24 = .ok (.iload_n 1, 1) := by decide +kernel
theorem dX3_takeArgumentName_25 : decode cX3_takeArgumentName 25 = .ok (.bipush 6, 2) := by decide +kernel
theorem dX3_takeArgumentName_27 : decode cX3_takeArgumentName 27 = .ok (.if_icmp .eq 18, 3) := by decide +kernel
theorem dX3_takeArgumentName_30 : decode cX3_takeArgumentName 30 = .ok (.aload_n 0, 1) := by decide +kernel
theorem dX3_takeArgumentName_31 : decode cX3_takeArgumentName 31 = .ok (.aload_n 0, 1) := by decide +kernel
theorem dX3_takeArgumentName_32 : decode cX3_takeArgumentName 32 = .ok (.getfield 16, 3) := by decide +kernel
theorem dX3_takeArgumentName_35 : decode cX3_takeArgumentName 35 = .ok (.getfield 95, 3) := by decide +kernel
theorem dX3_takeArgumentName_38 : decode cX3_takeArgumentName 38 = .ok (.invokevirtual 118, 3) := by decide +kernel
theorem dX3_takeArgumentName_41 : decode cX3_takeArgumentName 41 = .ok (.iconst (-1), 1) := by decide +kernel
theorem dX3_takeArgumentName_42 : decode cX3_takeArgumentName 42 = .ok (.if_icmp .eq 8, 3) := by decide +kernel
theorem dX3_takeArgumentName_45 : decode cX3_takeArgumentName 45 = .ok (.aload_n 0, 1) := by decide +kernel
theorem dX3_takeArgumentName_46 : decode cX3_takeArgumentName 46 = .ok (.invokevirtual 76, 3) := by decide +kernel
theorem dX3_takeArgumentName_49 : decode cX3_takeArgumentName 49 = .ok (.return_, 1) := by decide +kernel
theorem dX3_takeArgumentName_50 : decode cX3_takeArgumentName 50 = .ok (.aload_n 0, 1) := by decide +kernel
theorem dX3_takeArgumentName_51 : decode cX3_takeArgumentName 51 = .ok (.getfield 24, 3) := by decide +kernel
theorem dX3_takeArgumentName_54 : decode cX3_takeArgumentName 54 = .ok (.iload_n 1, 1) := by decide +kernel
theorem dX3_takeArgumentName_55 : decode cX3_takeArgumentName 55 = .ok (.aload_n 0, 1) := by decide +kernel
theorem dX3_takeArgumentName_56 : decode cX3_takeArgumentName 56 = .ok (.getfield 16, 3) := by decide +kernel
theorem dX3_takeArgumentName_59 : decode cX3_takeArgumentName 59 = .ok (.getfield 95, 3) := by decide +kernel
theorem dX3_takeArgumentName_62 : decode cX3_takeArgumentName 62 = .ok (.lastore, 1) := by decide +kernel
theorem dX3_takeArgumentName_63 : decode cX3_takeArgumentName 63 = .ok (.aload_n 0, 1) := by decide +kernel
theorem dX3_takeArgumentName_64 : decode cX3_takeArgumentName 64 = .ok (.getfield 38, 3) := by decide +kernel
theorem dX3_takeArgumentName_67 : decode cX3_takeArgumentName 67 = .ok (.getfield 103, 3) := by decide +kernel
theorem dX3_takeArgumentName_70 : decode cX3_takeArgumentName 70 = .ok (.aload_n 0, 1) := by decide +kernel
theorem dX3_takeArgumentName_71 : decode cX3_takeArgumentName 71 = .ok (.getfield 92, 3) := by decide +kernel
theorem dX3_takeArgumentName_74 : decode cX3_takeArgumentName 74 = .ok (.dup2, 1) := by decide +kernel
theorem dX3_takeArgumentName_75 : decode cX3_takeArgumentName 75 = .ok (.iaload, 1) := by decide +kernel
theorem dX3_takeArgumentName_76 : decode cX3_takeArgumentName 76 = .ok (.iconst 1, 1) := by decide +kernel
theorem dX3_takeArgumentName_77 : decode cX3_takeArgumentName 77 = .ok (.iadd, 1) := by decide +kernel
theorem dX3_takeArgumentName_78 : decode cX3_takeArgumentName 78 = .ok (.iastore, 1) := by decide +kernel
theorem dX3_takeArgumentName_79 : decode cX3_takeArgumentName 79 = .ok (.aload_n 0, 1) := by decide +kernel
theorem dX3_takeArgumentName_80 : decode cX3_takeArgumentName 80 = .ok (.iconst 4, 1) := by decide +kernel
theorem dX3_takeArgumentName_81 : decode cX3_takeArgumentName 81 = .ok (.putfield 46, 3) := by decide +kernel
theorem dX3_takeArgumentName_84 : decode cX3_takeArgumentName 84 = .ok (.return_, 1) := by decide +kernel
theorem dX3_takeBeginning_0 : decode cX3_takeBeginning 0 = .ok (.aload_n 0, 1) := by decide +kernel
theorem dX3_takeBeginning_1 : decode cX3_takeBeginning 1 = .ok (.getfield 16, 3) := by decide +kernel
theorem dX3_takeBeginning_4 : decode cX3_takeBeginning 4 = .ok (.getfield 58, 3) := by decide +kernel
theorem dX3_takeBeginning_7 : decode cX3_takeBeginning 7 = .ok (.bipush 40, 2) := by decide +kernel
theorem dX3_takeBeginning_9 : decode cX3_takeBeginning 9 = .ok (.if_icmp .eq 22, 3) := by decide +kernel
theorem dX3_takeBeginning_12 : decode cX3_takeBeginning 12 = .ok (.aload_n 0, 1) := by decide +kernel
theorem dX3_takeBeginning_13 : decode cX3_takeBeginning 13 = .ok (.getfield 38, 3) := by decide +kernel
theorem dX3_takeBeginning_16 : decode cX3_takeBeginning 16 = .ok (.aload_n 0, 1) := by decide +kernel
theorem dX3_takeBeginning_17 : decode cX3_takeBeginning 17 = .ok (.getfield 92, 3) := by decide +kernel
theorem dX3_takeBeginning_20 : decode cX3_takeBeginning 20 = .ok (.invokevirtual 121, 3) := by decide +kernel
theorem dX3_takeBeginning_23 : decode cX3_takeBeginning 23 = .ok (.ifCond .eq 8, 3) := by decide +kernel
theorem dX3_takeBeginning_26 : decode cX3_takeBeginning 26 = .ok (.aload_n 0, 1) := by decide +kernel
theorem dX3_takeBeginning_27 : decode cX3_takeBeginning 27 = .ok (.invokevirtual 76, 3) := by decide +kernel
theorem dX3_takeBeginning_30 : decode cX3_takeBeginning 30 = .ok (.return_, 1) := by decide +kernel
theorem dX3_takeBeginning_31 : decode cX3_takeBeginning 31 = .ok (.aload_n 0, 1) := by decide +kernel
theorem dX3_takeBeginning_32 : decode cX3_takeBeginning 32 = .ok (.getfield 16, 3) := by decide +kernel
theorem dX3_takeBeginning_35 : decode cX3_takeBeginning 35 = .ok (.getfield 58, 3) := by decide +kernel
theorem dX3_takeBeginning_38 : decode cX3_takeBeginning 38 = .ok (.lookupswitch 125 #[(2, 81), (3, 66), (4, 100), (7, 100), (9, 88), (40, 118), (45, 107)], 66) := by decide +kernel
theorem dX3_takeBeginning_104 : decode cX3_takeBeginning 104 = .ok (.aload_n 0, 1) := by decide +kernel
theorem dX3_takeBeginning_105 : decode cX3_takeBeginning 105 = .ok (.iconst 1, 1) := by decide +kernel
theorem dX3_takeBeginning_106 : decode cX3_takeBeginning 106 = .ok (.aload_n 0, 1) := by decide +kernel
theorem dX3_takeBeginning_107 : decode cX3_takeBeginning 107 = .ok (.getfield 16, 3) := by decide +kernel
theorem dX3_takeBeginning_110 : decode cX3_takeBeginning 110 = .ok (.getfield 125, 3) := by decide +kernel
theorem dX3_takeBeginning_113 : decode cX3_takeBeginning 113 = .ok (.invokevirtual 128, 3) := by decide +kernel
theorem dX3_takeBeginning_116 : decode cX3_takeBeginning 116 = .ok (.goto 51, 3) := by decide +kernel
theorem dX3_takeBeginning_119 : decode cX3_takeBeginning 119 = .ok (.aload_n 0, 1) := by decide +kernel
theorem dX3_takeBeginning_120 : decode cX3_takeBeginning 120 = .ok (.invokevirtual 131, 3) := by decide +kernel
theorem dX3_takeBeginning_123 : decode cX3_takeBeginning 123 = .ok (.goto 44, 3) := by decide +kernel
theorem dX3_takeBeginning_126 : decode cX3_takeBeginning 126 = .ok (.aload_n 0, 1) := by decide +kernel
theorem dX3_takeBeginning_127 : decode cX3_takeBeginning 127 = .ok (.bipush 8, 2) := by decide +kernel
theorem dX3_takeBeginning_129 : decode cX3_takeBeginning 129 = .ok (.bipush 10, 2) := by decide +kernel
theorem dX3_takeBeginning_131 : decode cX3_takeBeginning 131 = .ok (.invokevirtual 134, 3) := by decide +kernel
theorem dX3_takeBeginning_134 : decode cX3_takeBeginning 134 = .ok (.pop, 1) := by decide +kernel
theorem dX3_takeBeginning_135 : decode cX3_takeBeginning 135 = .ok (.goto 32, 3) := by decide +kernel
theorem dX3_takeBeginning_138 : decode cX3_takeBeginning 138 = .ok (.aload_n 0, 1) := by decide +kernel
theorem dX3_takeBeginning_139 : decode cX3_takeBeginning 139 = .ok (.invokevirtual 138, 3) := by decide +kernel
theorem dX3_takeBeginning_142 : decode cX3_takeBeginning 142 = .ok (.goto 25, 3) := by decide +kernel
theorem dX3_takeBeginning_145 : decode cX3_takeBeginning 145 = .ok (.aload_n 0, 1) := by decide +kernel
theorem dX3_takeBeginning_146 : decode cX3_takeBeginning 146 = .ok (.iconst 4, 1) := by decide +kernel
theorem dX3_takeBeginning_147 : decode cX3_takeBeginning 147 = .ok (.bipush 6, 2) := by decide +kernel
theorem dX3_takeBeginning_149 : decode cX3_takeBeginning 149 = .ok (.invokevirtual 134, 3) := by decide +kernel
theorem dX3_takeBeginning_152 : decode cX3_takeBeginning 152 = .ok (.pop, 1) := by decide +kernel
theorem dX3_takeBeginning_153 : decode cX3_takeBeginning 153 = .ok (.goto 14, 3) := by decide +kernel
theorem dX3_takeBeginning_156 : decode cX3_takeBeginning 156 = .ok (.aload_n 0, 1) := by decide +kernel
theorem dX3_takeBeginning_157 : decode cX3_takeBeginning 157 = .ok (.invokevirtual 141, 3) := by decide +kernel
theorem dX3_takeBeginning_160 : decode cX3_takeBeginning 160 = .ok (.goto 7, 3) := by decide +kernel
theorem dX3_takeBeginning_163 : decode cX3_takeBeginning 163 = .ok (.aload_n 0, 1) := by decide +kernel
theorem dX3_takeBeginning_164 : decode cX3_takeBeginning 164 = .ok (.invokevirtual 76, 3) := by decide +kernel
theorem dX3_takeBeginning_167 : decode cX3_takeBeginning 167 = .ok (.return_, 1) := by decide +kernel
theorem dX3_takeName_0 : decode cX3_takeName 0 = .ok (.aload_n 0, 1) := by decide +kernel
theorem dX3_takeName_1 : decode cX3_takeName 1 = .ok (.getfield 16, 3) := by decide +kernel
theorem dX3_takeName_4 : decode cX3_takeName 4 = .ok (.invokevirtual 144, 3) := by decide +kernel
theorem dX3_takeName_7 : decode cX3_takeName 7 = .ok (.ifCond .eq 18, 3) := by decide +kernel
theorem dX3_takeName_10 : decode cX3_takeName 10 = .ok (.aload_n 0, 1) := by decide +kernel
theorem dX3_takeName_11 : decode cX3_takeName 11 = .ok (.bipush 7, 2) := by decide +kernel
theorem dX3_takeName_13 : decode cX3_takeName 13 = .ok (.bipush 8, 2) := by decide +kernel
theorem dX3_takeName_15 : decode cX3_takeName 15 = .ok (.invokevirtual 134, 3) := by decide +kernel
theorem dX3_takeName_18 : decode cX3_takeName 18 = .ok (.istore_n 1, 1) := by decide +kernel
theorem dX3_takeName_19 : decode cX3_takeName 19 = .ok (.aload_n 0, 1) := by decide +kernel
theorem dX3_takeName_20 : decode cX3_takeName 20 = .ok (.iload_n 1, 1) := by decide +kernel
theorem dX3_takeName_21 : decode cX3_takeName 21 = .ok (.invokevirtual 148, 3) := by decide +kernel
theorem dX3_takeName_24 : decode cX3_takeName 24 = .ok (.return_, 1) := by decide +kernel
theorem dX3_takeName_25 : decode cX3_takeName 25 = .ok (.aload_n 0, 1) := by decide +kernel
theorem dX3_takeName_26 : decode cX3_takeName 26 = .ok (.aload_n 0, 1) := by decide +kernel
theorem dX3_takeName_27 : decode cX3_takeName 27 = .ok (.getfield 16, 3) := by decide +kernel
theorem dX3_takeName_30 : decode cX3_takeName 30 = .ok (.getfield 95, 3) := by decide +kernel
theorem dX3_takeName_33 : decode cX3_takeName 33 = .ok (.invokevirtual 152, 3) := by decide +kernel
theorem dX3_takeName_36 : decode cX3_takeName 36 = .ok (.istore_n 1, 1) := by decide +kernel
theorem dX3_takeName_37 : decode cX3_takeName 37 = .ok (.aload_n 0, 1) := by decide +kernel
theorem dX3_takeName_38 : decode cX3_takeName 38 = .ok (.aload_n 0, 1) := by decide +kernel
theorem dX3_takeName_39 : decode cX3_takeName 39 = .ok (.getfield 16, 3) := by decide +kernel
theorem dX3_takeName_42 : decode cX3_takeName 42 = .ok (.getfield 95, 3) := by decide +kernel
theorem dX3_takeName_45 : decode cX3_takeName 45 = .ok (.invokevirtual 118, 3) := by decide +kernel
theorem dX3_takeName_48 : decode cX3_takeName 48 = .ok (.istore_n 2, 1) := by decide +kernel
theorem dX3_takeName_49 : decode cX3_takeName 49 = .ok (.iload_n 1, 1) := by decide +kernel
theorem dX3_takeName_50 : decode cX3_takeName 50 = .ok (.iconst (-1), 1) := by decide +kernel
theorem dX3_takeName_51 : decode cX3_takeName 51 = .ok (.if_icmp .eq 12, 3) := by decide +kernel
theorem dX3_takeName_54 : decode cX3_takeName 54 = .ok (.aload_n 0, 1) := by decide +kernel
theorem dX3_takeName_55 : decode cX3_takeName 55 = .ok (.iconst 3, 1) := by decide +kernel
theorem dX3_takeName_56 : decode cX3_takeName 56 = .ok (.iload_n 1, 1) := by decide +kernel
theorem dX3_takeName_57 : decode cX3_takeName 57 = .ok (.invokevirtual 128, 3) := by decide +kernel
theorem dX3_takeName_60 : decode cX3_takeName 60 = .ok (.goto 21, 3) := by decide +kernel
theorem dX3_takeName_63 : decode cX3_takeName 63 = .ok (.iload_n 2, 1) := by decide +kernel
theorem dX3_takeName_64 : decode cX3_takeName 64 = .ok (.iconst (-1), 1) := by decide +kernel
theorem dX3_takeName_65 : decode cX3_takeName 65 = .ok (.if_icmp .eq 12, 3) := by decide +kernel
theorem dX3_takeName_68 : decode cX3_takeName 68 = .ok (.aload_n 0, 1) := by decide +kernel
theorem dX3_takeName_69 : decode cX3_takeName 69 = .ok (.iconst 2, 1) := by decide +kernel
theorem dX3_takeName_70 : decode cX3_takeName 70 = .ok (.iload_n 2, 1) := by decide +kernel
theorem dX3_takeName_71 : decode cX3_takeName 71 = .ok (.invokevirtual 128, 3) := by decide +kernel
theorem dX3_takeName_74 : decode cX3_takeName 74 = .ok (.goto 7, 3) := by decide +kernel
theorem dX3_takeName_77 : decode cX3_takeName 77 = .ok (.aload_n 0, 1) := by decide +kernel
theorem dX3_takeName_78 : decode cX3_takeName 78 = .ok (.invokevirtual 76, 3) := by decide +kernel
theorem dX3_takeName_81 : decode cX3_takeName 81 = .ok (.return_, 1) := by decide +kernel
theorem dX3_takeIfOrLet_0 : decode cX3_takeIfOrLet 0 = .ok (.aload_n 0, 1) := by decide +kernel
theorem dX3_takeIfOrLet_1 : decode cX3_takeIfOrLet 1 = .ok (.aload_n 0, 1) := by decide +kernel
theorem dX3_takeIfOrLet_2 : decode cX3_takeIfOrLet 2 = .ok (.invokevirtual 155, 3) := by decide +kernel
theorem dX3_takeIfOrLet_5 : decode cX3_takeIfOrLet 5 = .ok (.invokevirtual 159, 3) := by decide +kernel
theorem dX3_takeIfOrLet_8 : decode cX3_takeIfOrLet 8 = .ok (.ifCond .le 7, 3) := by decide +kernel
theorem dX3_takeIfOrLet_11 : decode cX3_takeIfOrLet 11 = .ok (.iconst 1, 1) := by decide +kernel
theorem dX3_takeIfOrLet_12 : decode cX3_takeIfOrLet 12 = .ok (.goto 4, 3) := by decide +kernel
theorem dX3_takeIfOrLet_15 : decode cX3_takeIfOrLet 15 = .ok (.iconst 0, 1) := by decide +kernel
theorem dX3_takeIfOrLet_16 : decode cX3_takeIfOrLet 16 = .ok (.istore_n 1, 1) := by decide +kernel
theorem dX3_takeIfOrLet_17 : decode cX3_takeIfOrLet 17 = .ok (.iload_n 1, 1) := by decide +kernel
theorem dX3_takeIfOrLet_18 : decode cX3_takeIfOrLet 18 = .ok (.ifCond .eq 10, 3) := by decide +kernel
theorem dX3_takeIfOrLet_21 : decode cX3_takeIfOrLet 21 = .ok (.aload_n 0, 1) := by decide +kernel
theorem dX3_takeIfOrLet_22 : decode cX3_takeIfOrLet 22 = .ok (.invokevirtual 76, 3) := by decide +kernel
theorem dX3_takeIfOrLet_25 : decode cX3_takeIfOrLet 25 = .ok (.goto 34, 3) := by decide +kernel
theorem dX3_takeIfOrLet_28 : decode cX3_takeIfOrLet 28 = .ok (.aload_n 0, 1) := by decide +kernel
theorem dX3_takeIfOrLet_29 : decode cX3_takeIfOrLet 29 = .ok (.getfield 16, 3) := by decide +kernel
theorem dX3_takeIfOrLet_32 : decode cX3_takeIfOrLet 32 = .ok (.getfield 58, 3) := by decide +kernel
theorem dX3_takeIfOrLet_35 : decode cX3_takeIfOrLet 35 = .ok (.iconst 4, 1) := by decide +kernel
theorem dX3_takeIfOrLet_36 : decode cX3_takeIfOrLet 36 = .ok (.if_icmp .ne 14, 3) := by decide +kernel
theorem dX3_takeIfOrLet_39 : decode cX3_takeIfOrLet 39 = .ok (.aload_n 0, 1) := by decide +kernel
theorem dX3_takeIfOrLet_40 : decode cX3_takeIfOrLet 40 = .ok (.iconst 5, 1) := by decide +kernel
theorem dX3_takeIfOrLet_41 : decode cX3_takeIfOrLet 41 = .ok (.bipush 6, 2) := by decide +kernel
theorem dX3_takeIfOrLet_43 : decode cX3_takeIfOrLet 43 = .ok (.invokevirtual 134, 3) := by decide +kernel
theorem dX3_takeIfOrLet_46 : decode cX3_takeIfOrLet 46 = .ok (.pop, 1) := by decide +kernel
theorem dX3_takeIfOrLet_47 : decode cX3_takeIfOrLet 47 = .ok (.goto 12, 3) := by decide +kernel
theorem dX3_takeIfOrLet_50 : decode cX3_takeIfOrLet 50 = .ok (.aload_n 0, 1) := by decide +kernel
theorem dX3_takeIfOrLet_51 : decode cX3_takeIfOrLet 51 = .ok (.bipush 6, 2) := by decide +kernel
theorem dX3_takeIfOrLet_53 : decode cX3_takeIfOrLet 53 = .ok (.bipush 13, 2) := by decide +kernel
theorem dX3_takeIfOrLet_55 : decode cX3_takeIfOrLet 55 = .ok (.invokevirtual 134, 3) := by decide +kernel
theorem dX3_takeIfOrLet_58 : decode cX3_takeIfOrLet 58 = .ok (.pop, 1) := by decide +kernel
theorem dX3_takeIfOrLet_59 : decode cX3_takeIfOrLet 59 = .ok (.return_, 1) := by decide +kernel
theorem dX3_takeParenthesis_0 : decode cX3_takeParenthesis 0 = .ok (.aload_n 0, 1) := by decide +kernel
theorem dX3_takeParenthesis_1 : decode cX3_takeParenthesis 1 = .ok (.getfield 112, 3) := by decide +kernel
theorem dX3_takeParenthesis_4 : decode cX3_takeParenthesis 4 = .ok (.bipush 20, 2) := by decide +kernel
theorem dX3_takeParenthesis_6 : decode cX3_takeParenthesis 6 = .ok (.if_icmp .ne 8, 3) := by decide +kernel
theorem dX3_takeParenthesis_9 : decode cX3_takeParenthesis 9 = .ok (.aload_n 0, 1) := by decide +kernel
theorem dX3_takeParenthesis_10 : decode cX3_takeParenthesis 10 = .ok (.invokevirtual 76, 3) := by decide +kernel
theorem dX3_takeParenthesis_13 : decode cX3_takeParenthesis 13 = .ok (.return_, 1) := by decide +kernel
theorem dX3_takeParenthesis_14 : decode cX3_takeParenthesis 14 = .ok (.aload_n 0, 1) := by decide +kernel
theorem dX3_takeParenthesis_15 : decode cX3_takeParenthesis 15 = .ok (.dup, 1) := by decide +kernel
theorem dX3_takeParenthesis_16 : decode cX3_takeParenthesis 16 = .ok (.getfield 112, 3) := by decide +kernel
theorem dX3_takeParenthesis_19 : decode cX3_takeParenthesis 19 = .ok (.iconst 1, 1) := by decide +kernel
theorem dX3_takeParenthesis_20 : decode cX3_takeParenthesis 20 = .ok (.iadd, 1) := by decide +kernel
theorem dX3_takeParenthesis_21 : decode cX3_takeParenthesis 21 = .ok (.putfield 112, 3) := by decide +kernel
theorem dX3_takeParenthesis_24 : decode cX3_takeParenthesis 24 = .ok (.aload_n 0, 1) := by decide +kernel
theorem dX3_takeParenthesis_25 : decode cX3_takeParenthesis 25 = .ok (.bipush (-2), 2) := by decide +kernel
theorem dX3_takeParenthesis_27 : decode cX3_takeParenthesis 27 = .ok (.bipush 6, 2) := by decide +kernel
theorem dX3_takeParenthesis_29 : decode cX3_takeParenthesis 29 = .ok (.invokevirtual 115, 3) := by decide +kernel
theorem dX3_takeParenthesis_32 : decode cX3_takeParenthesis 32 = .ok (.return_, 1) := by decide +kernel
theorem dX3_takeOfCallMakeLet_0 : decode cX3_takeOfCallMakeLet 0 = .ok (.aload_n 0, 1) := by decide +kernel
theorem dX3_takeOfCallMakeLet_1 : decode cX3_takeOfCallMakeLet 1 = .ok (.getfield 46, 3) := by decide +kernel
theorem dX3_takeOfCallMakeLet_4 : decode cX3_takeOfCallMakeLet 4 = .ok (.tableswitch 154 8 13 #[40, 51, 77, 88, 106, 136], 40) := by decide +kernel
theorem dX3_takeOfCallMakeLet_44 : decode cX3_takeOfCallMakeLet 44 = .ok (.aload_n 0, 1) := by decide +kernel
theorem dX3_takeOfCallMakeLet_45 : decode cX3_takeOfCallMakeLet 45 = .ok (.bipush 40, 2) := by decide +kernel
theorem dX3_takeOfCallMakeLet_47 : decode cX3_takeOfCallMakeLet 47 = .ok (.bipush 9, 2) := by decide +kernel
theorem dX3_takeOfCallMakeLet_49 : decode cX3_takeOfCallMakeLet 49 = .ok (.invokevirtual 85, 3) := by decide +kernel
theorem dX3_takeOfCallMakeLet_52 : decode cX3_takeOfCallMakeLet 52 = .ok (.goto 114, 3) := by decide +kernel
theorem dX3_takeOfCallMakeLet_55 : decode cX3_takeOfCallMakeLet 55 = .ok (.aload_n 0, 1) := by decide +kernel
theorem dX3_takeOfCallMakeLet_56 : decode cX3_takeOfCallMakeLet 56 = .ok (.getfield 16, 3) := by decide +kernel
theorem dX3_takeOfCallMakeLet_59 : decode cX3_takeOfCallMakeLet 59 = .ok (.getfield 58, 3) := by decide +kernel
theorem dX3_takeOfCallMakeLet_62 : decode cX3_takeOfCallMakeLet 62 = .ok (.bipush 41, 2) := by decide +kernel
theorem dX3_takeOfCallMakeLet_64 : decode cX3_takeOfCallMakeLet 64 = .ok (.if_icmp .ne 10, 3) := by decide +kernel
theorem dX3_takeOfCallMakeLet_67 : decode cX3_takeOfCallMakeLet 67 = .ok (.aload_n 0, 1) := by decide +kernel
theorem dX3_takeOfCallMakeLet_68 : decode cX3_takeOfCallMakeLet 68 = .ok (.invokevirtual 163, 3) := by decide +kernel
theorem dX3_takeOfCallMakeLet_71 : decode cX3_takeOfCallMakeLet 71 = .ok (.goto 95, 3) := by decide +kernel
theorem dX3_takeOfCallMakeLet_74 : decode cX3_takeOfCallMakeLet 74 = .ok (.aload_n 0, 1) := by decide +kernel
theorem dX3_takeOfCallMakeLet_75 : decode cX3_takeOfCallMakeLet 75 = .ok (.invokevirtual 61, 3) := by decide +kernel
theorem dX3_takeOfCallMakeLet_78 : decode cX3_takeOfCallMakeLet 78 = .ok (.goto 88, 3) := by decide +kernel
theorem dX3_takeOfCallMakeLet_81 : decode cX3_takeOfCallMakeLet 81 = .ok (.aload_n 0, 1) := by decide +kernel
theorem dX3_takeOfCallMakeLet_82 : decode cX3_takeOfCallMakeLet 82 = .ok (.bipush 40, 2) := by decide +kernel
theorem dX3_takeOfCallMakeLet_84 : decode cX3_takeOfCallMakeLet 84 = .ok (.bipush 6, 2) := by decide +kernel
theorem dX3_takeOfCallMakeLet_86 : decode cX3_takeOfCallMakeLet 86 = .ok (.invokevirtual 85, 3) := by decide +kernel
theorem dX3_takeOfCallMakeLet_89 : decode cX3_takeOfCallMakeLet 89 = .ok (.goto 77, 3) := by decide +kernel
theorem dX3_takeOfCallMakeLet_92 : decode cX3_takeOfCallMakeLet 92 = .ok (.aload_n 0, 1) := by decide +kernel
theorem dX3_takeOfCallMakeLet_93 : decode cX3_takeOfCallMakeLet 93 = .ok (.aload_n 0, 1) := by decide +kernel
theorem dX3_takeOfCallMakeLet_94 : decode cX3_takeOfCallMakeLet 94 = .ok (.invokevirtual 155, 3) := by decide +kernel
theorem dX3_takeOfCallMakeLet_97 : decode cX3_takeOfCallMakeLet 97 = .ok (.invokevirtual 148, 3) := by decide +kernel
theorem dX3_takeOfCallMakeLet_100 : decode cX3_takeOfCallMakeLet 100 = .ok (.aload_n 0, 1) := by decide +kernel
theorem dX3_takeOfCallMakeLet_101 : decode cX3_takeOfCallMakeLet 101 = .ok (.iconst 2, 1) := by decide +kernel
theorem dX3_takeOfCallMakeLet_102 : decode cX3_takeOfCallMakeLet 102 = .ok (.bipush 12, 2) := by decide +kernel
theorem dX3_takeOfCallMakeLet_104 : decode cX3_takeOfCallMakeLet 104 = .ok (.invokevirtual 85, 3) := by decide +kernel
theorem dX3_takeOfCallMakeLet_107 : decode cX3_takeOfCallMakeLet 107 = .ok (.goto 59, 3) := by decide +kernel
theorem dX3_takeOfCallMakeLet_110 : decode cX3_takeOfCallMakeLet 110 = .ok (.aload_n 0, 1) := by decide +kernel
theorem dX3_takeOfCallMakeLet_111 : decode cX3_takeOfCallMakeLet 111 = .ok (.getfield 16, 3) := by decide +kernel
theorem dX3_takeOfCallMakeLet_114 : decode cX3_takeOfCallMakeLet 114 = .ok (.getfield 58, 3) := by decide +kernel
theorem dX3_takeOfCallMakeLet_117 : decode cX3_takeOfCallMakeLet 117 = .ok (.bipush 41, 2) := by decide +kernel
theorem dX3_takeOfCallMakeLet_119 : decode cX3_takeOfCallMakeLet 119 = .ok (.if_icmp .ne 10, 3) := by decide +kernel
theorem dX3_takeOfCallMakeLet_122 : decode cX3_takeOfCallMakeLet 122 = .ok (.aload_n 0, 1) := by decide +kernel
theorem dX3_takeOfCallMakeLet_123 : decode cX3_takeOfCallMakeLet 123 = .ok (.invokevirtual 163, 3) := by decide +kernel
theorem dX3_takeOfCallMakeLet_126 : decode cX3_takeOfCallMakeLet 126 = .ok (.goto 40, 3) := by decide +kernel
theorem dX3_takeOfCallMakeLet_129 : decode cX3_takeOfCallMakeLet 129 = .ok (.aload_n 0, 1) := by decide +kernel
theorem dX3_takeOfCallMakeLet_130 : decode cX3_takeOfCallMakeLet 130 = .ok (.bipush 44, 2) := by decide +kernel
theorem dX3_takeOfCallMakeLet_132 : decode cX3_takeOfCallMakeLet 132 = .ok (.bipush 6, 2) := by decide +kernel
theorem dX3_takeOfCallMakeLet_134 : decode cX3_takeOfCallMakeLet 134 = .ok (.invokevirtual 85, 3) := by decide +kernel
theorem dX3_takeOfCallMakeLet_137 : decode cX3_takeOfCallMakeLet 137 = .ok (.goto 29, 3) := by decide +kernel
theorem dX3_takeOfCallMakeLet_140 : decode cX3_takeOfCallMakeLet 140 = .ok (.aload_n 0, 1) := by decide +kernel
theorem dX3_takeOfCallMakeLet_141 : decode cX3_takeOfCallMakeLet 141 = .ok (.aload_n 0, 1) := by decide +kernel
theorem dX3_takeOfCallMakeLet_142 : decode cX3_takeOfCallMakeLet 142 = .ok (.invokevirtual 155, 3) := by decide +kernel
theorem dX3_takeOfCallMakeLet_145 : decode cX3_takeOfCallMakeLet 145 = .ok (.invokevirtual 148, 3) := by decide +kernel
theorem dX3_takeOfCallMakeLet_148 : decode cX3_takeOfCallMakeLet 148 = .ok (.aload_n 0, 1) := by decide +kernel
theorem dX3_takeOfCallMakeLet_149 : decode cX3_takeOfCallMakeLet 149 = .ok (.iconst 2, 1) := by decide +kernel
theorem dX3_takeOfCallMakeLet_150 : decode cX3_takeOfCallMakeLet 150 = .ok (.bipush 14, 2) := by decide +kernel
theorem dX3_takeOfCallMakeLet_152 : decode cX3_takeOfCallMakeLet 152 = .ok (.invokevirtual 85, 3) := by decide +kernel
theorem dX3_takeOfCallMakeLet_155 : decode cX3_takeOfCallMakeLet 155 = .ok (.goto 11, 3) := by decide +kernel
theorem dX3_takeOfCallMakeLet_158 : decode cX3_takeOfCallMakeLet 158 = .ok (.aload_n 0, 1) := by decide +kernel
theorem dX3_takeOfCallMakeLet_159 : decode cX3_takeOfCallMakeLet 159 = .ok (.bipush 61, 2) := by decide +kernel
theorem dX3_takeOfCallMakeLet_161 : decode cX3_takeOfCallMakeLet 161 = .ok (.bipush 6, 2) := by decide +kernel
theorem dX3_takeOfCallMakeLet_163 : decode cX3_takeOfCallMakeLet 163 = .ok (.invokevirtual 85, 3) := by decide +kernel
theorem dX3_takeOfCallMakeLet_166 : decode cX3_takeOfCallMakeLet 166 = .ok (.return_, 1) := by decide +kernel
theorem dX3_takeContinuation_0 : decode cX3_takeContinuation 0 = .ok (.aload_n 0, 1) := by decide +kernel
theorem dX3_takeContinuation_1 : decode cX3_takeContinuation 1 = .ok (.getfield 16, 3) := by decide +kernel
theorem dX3_takeContinuation_4 : decode cX3_takeContinuation 4 = .ok (.getfield 58, 3) := by decide +kernel
theorem dX3_takeContinuation_7 : decode cX3_takeContinuation 7 = .ok (.invokestatic 166, 3) := by decide +kernel
theorem dX3_takeContinuation_10 : decode cX3_takeContinuation 10 = .ok (.istore_n 1, 1) := by decide +kernel
theorem dX3_takeContinuation_11 : decode cX3_takeContinuation 11 = .ok (.iload_n 1, 1) := by decide +kernel
theorem dX3_takeContinuation_12 : decode cX3_takeContinuation 12 = .ok (.ifCond .le 11, 3) := by decide +kernel
theorem dX3_takeContinuation_15 : decode cX3_takeContinuation 15 = .ok (.aload_n 0, 1) := by decide +kernel
theorem dX3_takeContinuation_16 : decode cX3_takeContinuation 16 = .ok (.iload_n 1, 1) := by decide +kernel
theorem dX3_takeContinuation_17 : decode cX3_takeContinuation 17 = .ok (.invokevirtual 169, 3) := by decide +kernel
theorem dX3_takeContinuation_20 : decode cX3_takeContinuation 20 = .ok (.goto 49, 3) := by decide +kernel
theorem dX3_takeContinuation_23 : decode cX3_takeContinuation 23 = .ok (.aload_n 0, 1) := by decide +kernel
theorem dX3_takeContinuation_24 : decode cX3_takeContinuation 24 = .ok (.getfield 16, 3) := by decide +kernel
theorem dX3_takeContinuation_27 : decode cX3_takeContinuation 27 = .ok (.getfield 58, 3) := by decide +kernel
theorem dX3_takeContinuation_30 : decode cX3_takeContinuation 30 = .ok (.bipush 91, 2) := by decide +kernel
theorem dX3_takeContinuation_32 : decode cX3_takeContinuation 32 = .ok (.if_icmp .eq 10, 3) := by decide +kernel
theorem dX3_takeContinuation_35 : decode cX3_takeContinuation 35 = .ok (.aload_n 0, 1) := by decide +kernel
theorem dX3_takeContinuation_36 : decode cX3_takeContinuation 36 = .ok (.invokevirtual 172, 3) := by decide +kernel
theorem dX3_takeContinuation_39 : decode cX3_takeContinuation 39 = .ok (.goto 30, 3) := by decide +kernel
theorem dX3_takeContinuation_42 : decode cX3_takeContinuation 42 = .ok (.aload_n 0, 1) := by decide +kernel
theorem dX3_takeContinuation_43 : decode cX3_takeContinuation 43 = .ok (.getfield 38, 3) := by decide +kernel
theorem dX3_takeContinuation_46 : decode cX3_takeContinuation 46 = .ok (.aload_n 0, 1) := by decide +kernel
theorem dX3_takeContinuation_47 : decode cX3_takeContinuation 47 = .ok (.getfield 92, 3) := by decide +kernel
theorem dX3_takeContinuation_50 : decode cX3_takeContinuation 50 = .ok (.invokevirtual 121, 3) := by decide +kernel
theorem dX3_takeContinuation_53 : decode cX3_takeContinuation 53 = .ok (.ifCond .eq 10, 3) := by decide +kernel
theorem dX3_takeContinuation_56 : decode cX3_takeContinuation 56 = .ok (.aload_n 0, 1) := by decide +kernel
theorem dX3_takeContinuation_57 : decode cX3_takeContinuation 57 = .ok (.invokevirtual 76, 3) := by decide +kernel
theorem dX3_takeContinuation_60 : decode cX3_takeContinuation 60 = .ok (.goto 9, 3) := by decide +kernel
theorem dX3_takeContinuation_63 : decode cX3_takeContinuation 63 = .ok (.aload_n 0, 1) := by decide +kernel
theorem dX3_takeContinuation_64 : decode cX3_takeContinuation 64 = .ok (.bipush 9, 2) := by decide +kernel
theorem dX3_takeContinuation_66 : decode cX3_takeContinuation 66 = .ok (.invokevirtual 175, 3) := by decide +kernel
theorem dX3_takeContinuation_69 : decode cX3_takeContinuation 69 = .ok (.return_, 1) := by decide +kernel
theorem dX3_takeSign_0 : decode cX3_takeSign 0 = .ok (.aload_n 0, 1) := by decide +kernel
theorem dX3_takeSign_1 : decode cX3_takeSign 1 = .ok (.iload_n 1, 1) := by decide +kernel
theorem dX3_takeSign_2 : decode cX3_takeSign 2 = .ok (.iconst 2, 1) := by decide +kernel
theorem dX3_takeSign_3 : decode cX3_takeSign 3 = .ok (.invokestatic 178, 3) := by decide +kernel
theorem dX3_takeSign_6 : decode cX3_takeSign 6 = .ok (.invokevirtual 183, 3) := by decide +kernel
theorem dX3_takeSign_9 : decode cX3_takeSign 9 = .ok (.iload_n 1, 1) := by decide +kernel
theorem dX3_takeSign_10 : decode cX3_takeSign 10 = .ok (.iconst 1, 1) := by decide +kernel
theorem dX3_takeSign_11 : decode cX3_takeSign 11 = .ok (.if_icmp .ne 19, 3) := by decide +kernel
theorem dX3_takeSign_14 : decode cX3_takeSign 14 = .ok (.aload_n 0, 1) := by decide +kernel
theorem dX3_takeSign_15 : decode cX3_takeSign 15 = .ok (.aload_n 0, 1) := by decide +kernel
theorem dX3_takeSign_16 : decode cX3_takeSign 16 = .ok (.invokevirtual 155, 3) := by decide +kernel
theorem dX3_takeSign_19 : decode cX3_takeSign 19 = .ok (.invokevirtual 159, 3) := by decide +kernel
theorem dX3_takeSign_22 : decode cX3_takeSign 22 = .ok (.iconst 1, 1) := by decide +kernel
theorem dX3_takeSign_23 : decode cX3_takeSign 23 = .ok (.if_icmp .ne 7, 3) := by decide +kernel
theorem dX3_takeSign_26 : decode cX3_takeSign 26 = .ok (.iconst 1, 1) := by decide +kernel
theorem dX3_takeSign_27 : decode cX3_takeSign 27 = .ok (.goto 4, 3) := by decide +kernel
theorem dX3_takeSign_30 : decode cX3_takeSign 30 = .ok (.iconst 0, 1) := by decide +kernel
theorem dX3_takeSign_31 : decode cX3_takeSign 31 = .ok (.istore_n 2, 1) := by decide +kernel
theorem dX3_takeSign_32 : decode cX3_takeSign 32 = .ok (.iload_n 2, 1) := by decide +kernel
theorem dX3_takeSign_33 : decode cX3_takeSign 33 = .ok (.ifCond .ne 17, 3) := by decide +kernel
theorem dX3_takeSign_36 : decode cX3_takeSign 36 = .ok (.aload_n 0, 1) := by decide +kernel
theorem dX3_takeSign_37 : decode cX3_takeSign 37 = .ok (.getfield 38, 3) := by decide +kernel
theorem dX3_takeSign_40 : decode cX3_takeSign 40 = .ok (.aload_n 0, 1) := by decide +kernel
theorem dX3_takeSign_41 : decode cX3_takeSign 41 = .ok (.getfield 92, 3) := by decide +kernel
theorem dX3_takeSign_44 : decode cX3_takeSign 44 = .ok (.invokevirtual 121, 3) := by decide +kernel
theorem dX3_takeSign_47 : decode cX3_takeSign 47 = .ok (.ifCond .eq 10, 3) := by decide +kernel
theorem dX3_takeSign_50 : decode cX3_takeSign 50 = .ok (.aload_n 0, 1) := by decide +kernel
theorem dX3_takeSign_51 : decode cX3_takeSign 51 = .ok (.invokevirtual 76, 3) := by decide +kernel
theorem dX3_takeSign_54 : decode cX3_takeSign 54 = .ok (.goto 14, 3) := by decide +kernel
theorem dX3_takeSign_57 : decode cX3_takeSign 57 = .ok (.aload_n 0, 1) := by decide +kernel
theorem dX3_takeSign_58 : decode cX3_takeSign 58 = .ok (.aload_n 0, 1) := by decide +kernel
theorem dX3_takeSign_59 : decode cX3_takeSign 59 = .ok (.getfield 16, 3) := by decide +kernel
theorem dX3_takeSign_62 : decode cX3_takeSign 62 = .ok (.getfield 58, 3) := by decide +kernel
theorem dX3_takeSign_65 : decode cX3_takeSign 65 = .ok (.invokevirtual 175, 3) := by decide +kernel
theorem dX3_takeSign_68 : decode cX3_takeSign 68 = .ok (.return_, 1) := by decide +kernel
theorem dX3_endExpression_0 : decode cX3_endExpression 0 = .ok (.aload_n 0, 1) := by decide +kernel
theorem dX3_endExpression_1 : decode cX3_endExpression 1 = .ok (.iconst 1, 1) := by decide +kernel
theorem dX3_endExpression_2 : decode cX3_endExpression 2 = .ok (.invokevirtual 183, 3) := by decide +kernel
theorem dX3_endExpression_5 : decode cX3_endExpression 5 = .ok (.aload_n 0, 1) := by decide +kernel
theorem dX3_endExpression_6 : decode cX3_endExpression 6 = .ok (.getfield 109, 3) := by decide +kernel
theorem dX3_endExpression_9 : decode cX3_endExpression 9 = .ok (.istore_n 1, 1) := by decide +kernel
theorem dX3_endExpression_10 : decode cX3_endExpression 10 = .ok (.iload_n 1, 1) := by decide +kernel
theorem dX3_endExpression_11 : decode cX3_endExpression 11 = .ok (.ifCond .le 24, 3) := by decide +kernel
theorem dX3_endExpression_14 : decode cX3_endExpression 14 = .ok (.aload_n 0, 1) := by decide +kernel
theorem dX3_endExpression_15 : decode cX3_endExpression 15 = .ok (.aload_n 0, 1) := by decide +kernel
theorem dX3_endExpression_16 : decode cX3_endExpression 16 = .ok (.invokevirtual 155, 3) := by decide +kernel
theorem dX3_endExpression_19 : decode cX3_endExpression 19 = .ok (.invokevirtual 186, 3) := by decide +kernel
theorem dX3_endExpression_22 : decode cX3_endExpression 22 = .ok (.ifCond .eq 13, 3) := by decide +kernel
theorem dX3_endExpression_25 : decode cX3_endExpression 25 = .ok (.aload_n 0, 1) := by decide +kernel
theorem dX3_endExpression_26 : decode cX3_endExpression 26 = .ok (.invokevirtual 189, 3) := by decide +kernel
theorem dX3_endExpression_29 : decode cX3_endExpression 29 = .ok (.iinc 1 (-1), 3) := by decide +kernel
theorem dX3_endExpression_32 : decode cX3_endExpression 32 = .ok (.goto (-22), 3) := by decide +kernel
theorem dX3_endExpression_35 : decode cX3_endExpression 35 = .ok (.aload_n 0, 1) := by decide +kernel
theorem dX3_endExpression_36 : decode cX3_endExpression 36 = .ok (.invokevirtual 155, 3) := by decide +kernel
theorem dX3_endExpression_39 : decode cX3_endExpression 39 = .ok (.istore_n 1, 1) := by decide +kernel
theorem dX3_endExpression_40 : decode cX3_endExpression 40 = .ok (.iload_n 1, 1) := by decide +kernel
theorem dX3_endExpression_41 : decode cX3_endExpression 41 = .ok (.iconst (-1), 1) := by decide +kernel
theorem dX3_endExpression_42 : decode cX3_endExpression 42 = .ok (.if_icmp .ne 10, 3) := by decide +kernel
theorem dX3_endExpression_45 : decode cX3_endExpression 45 = .ok (.aload_n 0, 1) := by decide +kernel
theorem dX3_endExpression_46 : decode cX3_endExpression 46 = .ok (.invokevirtual 192, 3) := by decide +kernel
theorem dX3_endExpression_49 : decode cX3_endExpression 49 = .ok (.goto 21, 3) := by decide +kernel
theorem dX3_endExpression_52 : decode cX3_endExpression 52 = .ok (.iload_n 1, 1) := by decide +kernel
theorem dX3_endExpression_53 : decode cX3_endExpression 53 = .ok (.bipush (-2), 2) := by decide +kernel
theorem dX3_endExpression_55 : decode cX3_endExpression 55 = .ok (.if_icmp .ne 10, 3) := by decide +kernel
theorem dX3_endExpression_58 : decode cX3_endExpression 58 = .ok (.aload_n 0, 1) := by decide +kernel
theorem dX3_endExpression_59 : decode cX3_endExpression 59 = .ok (.invokevirtual 195, 3) := by decide +kernel
theorem dX3_endExpression_62 : decode cX3_endExpression 62 = .ok (.goto 8, 3) := by decide +kernel
theorem dX3_endExpression_65 : decode cX3_endExpression 65 = .ok (.aload_n 0, 1) := by decide +kernel
theorem dX3_endExpression_66 : decode cX3_endExpression 66 = .ok (.iload_n 1, 1) := by decide +kernel
theorem dX3_endExpression_67 : decode cX3_endExpression 67 = .ok (.invokevirtual 198, 3) := by decide +kernel
theorem dX3_endExpression_70 : decode cX3_endExpression 70 = .ok (.return_, 1) := by decide +kernel
theorem dX3_endBody_0 : decode cX3_endBody 0 = .ok (.aload_n 0, 1) := by decide +kernel
theorem dX3_endBody_1 : decode cX3_endBody 1 = .ok (.getfield 38, 3) := by decide +kernel
theorem dX3_endBody_4 : decode cX3_endBody 4 = .ok (.getfield 201, 3) := by decide +kernel
theorem dX3_endBody_7 : decode cX3_endBody 7 = .ok (.aload_n 0, 1) := by decide +kernel
theorem dX3_endBody_8 : decode cX3_endBody 8 = .ok (.getfield 92, 3) := by decide +kernel
theorem dX3_endBody_11 : decode cX3_endBody 11 = .ok (.aload_n 0, 1) := by decide +kernel
theorem dX3_endBody_12 : decode cX3_endBody 12 = .ok (.getfield 204, 3) := by decide +kernel
theorem dX3_endBody_15 : decode cX3_endBody 15 = .ok (.iastore, 1) := by decide +kernel
theorem dX3_endBody_16 : decode cX3_endBody 16 = .ok (.aload_n 0, 1) := by decide +kernel
theorem dX3_endBody_17 : decode cX3_endBody 17 = .ok (.getfield 38, 3) := by decide +kernel
theorem dX3_endBody_20 : decode cX3_endBody 20 = .ok (.dup, 1) := by decide +kernel
theorem dX3_endBody_21 : decode cX3_endBody 21 = .ok (.getfield 42, 3) := by decide +kernel
theorem dX3_endBody_24 : decode cX3_endBody 24 = .ok (.iconst 1, 1) := by decide +kernel
theorem dX3_endBody_25 : decode cX3_endBody 25 = .ok (.iadd, 1) := by decide +kernel
theorem dX3_endBody_26 : decode cX3_endBody 26 = .ok (.putfield 42, 3) := by decide +kernel
theorem dX3_endBody_29 : decode cX3_endBody 29 = .ok (.aload_n 0, 1) := by decide +kernel
theorem dX3_endBody_30 : decode cX3_endBody 30 = .ok (.bipush 59, 2) := by decide +kernel
theorem dX3_endBody_32 : decode cX3_endBody 32 = .ok (.iconst 0, 1) := by decide +kernel
theorem dX3_endBody_33 : decode cX3_endBody 33 = .ok (.invokevirtual 85, 3) := by decide +kernel
theorem dX3_endBody_36 : decode cX3_endBody 36 = .ok (.return_, 1) := by decide +kernel
theorem dX3_endParentheses_0 : decode cX3_endParentheses 0 = .ok (.aload_n 0, 1) := by decide +kernel
theorem dX3_endParentheses_1 : decode cX3_endParentheses 1 = .ok (.dup, 1) := by decide +kernel
theorem dX3_endParentheses_2 : decode cX3_endParentheses 2 = .ok (.getfield 109, 3) := by decide +kernel
theorem dX3_endParentheses_5 : decode cX3_endParentheses 5 = .ok (.iconst 1, 1) := by decide +kernel
theorem dX3_endParentheses_6 : decode cX3_endParentheses 6 = .ok (.isub, 1) := by decide +kernel
theorem dX3_endParentheses_7 : decode cX3_endParentheses 7 = .ok (.putfield 109, 3) := by decide +kernel
theorem dX3_endParentheses_10 : decode cX3_endParentheses 10 = .ok (.aload_n 0, 1) := by decide +kernel
theorem dX3_endParentheses_11 : decode cX3_endParentheses 11 = .ok (.dup, 1) := by decide +kernel
theorem dX3_endParentheses_12 : decode cX3_endParentheses 12 = .ok (.getfield 112, 3) := by decide +kernel
theorem dX3_endParentheses_15 : decode cX3_endParentheses 15 = .ok (.iconst 1, 1) := by decide +kernel
theorem dX3_endParentheses_16 : decode cX3_endParentheses 16 = .ok (.isub, 1) := by decide +kernel
theorem dX3_endParentheses_17 : decode cX3_endParentheses 17 = .ok (.putfield 112, 3) := by decide +kernel
theorem dX3_endParentheses_20 : decode cX3_endParentheses 20 = .ok (.aload_n 0, 1) := by decide +kernel
theorem dX3_endParentheses_21 : decode cX3_endParentheses 21 = .ok (.bipush 41, 2) := by decide +kernel
theorem dX3_endParentheses_23 : decode cX3_endParentheses 23 = .ok (.bipush 7, 2) := by decide +kernel
theorem dX3_endParentheses_25 : decode cX3_endParentheses 25 = .ok (.invokevirtual 85, 3) := by decide +kernel
theorem dX3_endParentheses_28 : decode cX3_endParentheses 28 = .ok (.return_, 1) := by decide +kernel
theorem dX3_endExpressionIn_0 : decode cX3_endExpressionIn 0 = .ok (.aload_n 0, 1) := by decide +kernel
theorem dX3_endExpressionIn_1 : decode cX3_endExpressionIn 1 = .ok (.getfield 38, 3) := by decide +kernel
theorem dX3_endExpressionIn_4 : decode cX3_endExpressionIn 4 = .ok (.getfield 207, 3) := by decide +kernel
theorem dX3_endExpressionIn_7 : decode cX3_endExpressionIn 7 = .ok (.iload_n 1, 1) := by decide +kernel
theorem dX3_endExpressionIn_8 : decode cX3_endExpressionIn 8 = .ok (.iaload, 1) := by decide +kernel
theorem dX3_endExpressionIn_9 : decode cX3_endExpressionIn 9 = .ok (.istore_n 2, 1) := by decide +kernel
theorem dX3_endExpressionIn_10 : decode cX3_endExpressionIn 10 = .ok (.iload_n 2, 1) := by decide +kernel
theorem dX3_endExpressionIn_11 : decode cX3_endExpressionIn 11 = .ok (.bipush 8, 2) := by decide +kernel
theorem dX3_endExpressionIn_13 : decode cX3_endExpressionIn 13 = .ok (.if_icmp .ne 19, 3) := by decide +kernel
theorem dX3_endExpressionIn_16 : decode cX3_endExpressionIn 16 = .ok (.aload_n 0, 1) := by decide +kernel
theorem dX3_endExpressionIn_17 : decode cX3_endExpressionIn 17 = .ok (.getfield 38, 3) := by decide +kernel
theorem dX3_endExpressionIn_20 : decode cX3_endExpressionIn 20 = .ok (.getfield 209, 3) := by decide +kernel
theorem dX3_endExpressionIn_23 : decode cX3_endExpressionIn 23 = .ok (.iload_n 1, 1) := by decide +kernel
theorem dX3_endExpressionIn_24 : decode cX3_endExpressionIn 24 = .ok (.iaload, 1) := by decide +kernel
theorem dX3_endExpressionIn_25 : decode cX3_endExpressionIn 25 = .ok (.ifCond .ne 7, 3) := by decide +kernel
theorem dX3_endExpressionIn_28 : decode cX3_endExpressionIn 28 = .ok (.iconst 1, 1) := by decide +kernel
theorem dX3_endExpressionIn_29 : decode cX3_endExpressionIn 29 = .ok (.goto 4, 3) := by decide +kernel
theorem dX3_endExpressionIn_32 : decode cX3_endExpressionIn 32 = .ok (.iconst 0, 1) := by decide +kernel
theorem dX3_endExpressionIn_33 : decode cX3_endExpressionIn 33 = .ok (.istore_n 3, 1) := by decide +kernel
theorem dX3_endExpressionIn_34 : decode cX3_endExpressionIn 34 = .ok (.iload_n 2, 1) := by decide +kernel
theorem dX3_endExpressionIn_35 : decode cX3_endExpressionIn 35 = .ok (.bipush 7, 2) := by decide +kernel
theorem dX3_endExpressionIn_37 : decode cX3_endExpressionIn 37 = .ok (.if_icmp .eq 13, 3) := by decide +kernel
theorem dX3_endExpressionIn_40 : decode cX3_endExpressionIn 40 = .ok (.iload_n 2, 1) := by decide +kernel
theorem dX3_endExpressionIn_41 : decode cX3_endExpressionIn 41 = .ok (.bipush 8, 2) := by decide +kernel
theorem dX3_endExpressionIn_43 : decode cX3_endExpressionIn 43 = .ok (.if_icmp .ne 11, 3) := by decide +kernel
theorem dX3_endExpressionIn_46 : decode cX3_endExpressionIn 46 = .ok (.iload_n 3, 1) := by decide +kernel
theorem dX3_endExpressionIn_47 : decode cX3_endExpressionIn 47 = .ok (.ifCond .ne 7, 3) := by decide +kernel
theorem dX3_endExpressionIn_50 : decode cX3_endExpressionIn 50 = .ok (.iconst 1, 1) := by decide +kernel
theorem dX3_endExpressionIn_51 : decode cX3_endExpressionIn 51 = .ok (.goto 4, 3) := by decide +kernel
theorem dX3_endExpressionIn_54 : decode cX3_endExpressionIn 54 = .ok (.iconst 0, 1) := by decide +kernel
theorem dX3_endExpressionIn_55 : decode cX3_endExpressionIn 55 = .ok (.istore 4, 2) := by decide +kernel
theorem dX3_endExpressionIn_57 : decode cX3_endExpressionIn 57 = .ok (.iload 4, 2) := by decide +kernel
theorem dX3_endExpressionIn_59 : decode cX3_endExpressionIn 59 = .ok (.ifCond .eq 15, 3) := by decide +kernel
theorem dX3_endExpressionIn_62 : decode cX3_endExpressionIn 62 = .ok (.aload_n 0, 1) := by decide +kernel
theorem dX3_endExpressionIn_63 : decode cX3_endExpressionIn 63 = .ok (.getfield 16, 3) := by decide +kernel
theorem dX3_endExpressionIn_66 : decode cX3_endExpressionIn 66 = .ok (.getfield 58, 3) := by decide +kernel
theorem dX3_endExpressionIn_69 : decode cX3_endExpressionIn 69 = .ok (.bipush 41, 2) := by decide +kernel
theorem dX3_endExpressionIn_71 : decode cX3_endExpressionIn 71 = .ok (.if_icmp .eq 21, 3) := by decide +kernel
theorem dX3_endExpressionIn_74 : decode cX3_endExpressionIn 74 = .ok (.iload_n 2, 1) := by decide +kernel
theorem dX3_endExpressionIn_75 : decode cX3_endExpressionIn 75 = .ok (.bipush 9, 2) := by decide +kernel
theorem dX3_endExpressionIn_77 : decode cX3_endExpressionIn 77 = .ok (.if_icmp .ne 22, 3) := by decide +kernel
theorem dX3_endExpressionIn_80 : decode cX3_endExpressionIn 80 = .ok (.aload_n 0, 1) := by decide +kernel
theorem dX3_endExpressionIn_81 : decode cX3_endExpressionIn 81 = .ok (.getfield 16, 3) := by decide +kernel
theorem dX3_endExpressionIn_84 : decode cX3_endExpressionIn 84 = .ok (.getfield 58, 3) := by decide +kernel
theorem dX3_endExpressionIn_87 : decode cX3_endExpressionIn 87 = .ok (.bipush 93, 2) := by decide +kernel
theorem dX3_endExpressionIn_89 : decode cX3_endExpressionIn 89 = .ok (.if_icmp .ne 10, 3) := by decide +kernel
theorem dX3_endExpressionIn_92 : decode cX3_endExpressionIn 92 = .ok (.aload_n 0, 1) := by decide +kernel
theorem dX3_endExpressionIn_93 : decode cX3_endExpressionIn 93 = .ok (.invokevirtual 189, 3) := by decide +kernel
theorem dX3_endExpressionIn_96 : decode cX3_endExpressionIn 96 = .ok (.goto 97, 3) := by decide +kernel
theorem dX3_endExpressionIn_99 : decode cX3_endExpressionIn 99 = .ok (.iload_n 3, 1) := by decide +kernel
theorem dX3_endExpressionIn_100 : decode cX3_endExpressionIn 100 = .ok (.ifCond .eq 36, 3) := by decide +kernel
theorem dX3_endExpressionIn_103 : decode cX3_endExpressionIn 103 = .ok (.aload_n 0, 1) := by decide +kernel
theorem dX3_endExpressionIn_104 : decode cX3_endExpressionIn 104 = .ok (.getfield 16, 3) := by decide +kernel
theorem dX3_endExpressionIn_107 : decode cX3_endExpressionIn 107 = .ok (.getfield 58, 3) := by decide +kernel
theorem dX3_endExpressionIn_110 : decode cX3_endExpressionIn 110 = .ok (.bipush 44, 2) := by decide +kernel
theorem dX3_endExpressionIn_112 : decode cX3_endExpressionIn 112 = .ok (.if_icmp .ne 24, 3) := by decide +kernel
theorem dX3_endExpressionIn_115 : decode cX3_endExpressionIn 115 = .ok (.aload_n 0, 1) := by decide +kernel
theorem dX3_endExpressionIn_116 : decode cX3_endExpressionIn 116 = .ok (.getfield 38, 3) := by decide +kernel
theorem dX3_endExpressionIn_119 : decode cX3_endExpressionIn 119 = .ok (.iload_n 1, 1) := by decide +kernel
theorem dX3_endExpressionIn_120 : decode cX3_endExpressionIn 120 = .ok (.aload_n 0, 1) := by decide +kernel
theorem dX3_endExpressionIn_121 : decode cX3_endExpressionIn 121 = .ok (.getfield 204, 3) := by decide +kernel
theorem dX3_endExpressionIn_124 : decode cX3_endExpressionIn 124 = .ok (.invokevirtual 212, 3) := by decide +kernel
theorem dX3_endExpressionIn_127 : decode cX3_endExpressionIn 127 = .ok (.aload_n 0, 1) := by decide +kernel
theorem dX3_endExpressionIn_128 : decode cX3_endExpressionIn 128 = .ok (.bipush 11, 2) := by decide +kernel
theorem dX3_endExpressionIn_130 : decode cX3_endExpressionIn 130 = .ok (.putfield 46, 3) := by decide +kernel
theorem dX3_endExpressionIn_133 : decode cX3_endExpressionIn 133 = .ok (.goto 60, 3) := by decide +kernel
theorem dX3_endExpressionIn_136 : decode cX3_endExpressionIn 136 = .ok (.iload 4, 2) := by decide +kernel
theorem dX3_endExpressionIn_138 : decode cX3_endExpressionIn 138 = .ok (.ifCond .eq 15, 3) := by decide +kernel
theorem dX3_endExpressionIn_141 : decode cX3_endExpressionIn 141 = .ok (.aload_n 0, 1) := by decide +kernel
theorem dX3_endExpressionIn_142 : decode cX3_endExpressionIn 142 = .ok (.getfield 16, 3) := by decide +kernel
theorem dX3_endExpressionIn_145 : decode cX3_endExpressionIn 145 = .ok (.getfield 58, 3) := by decide +kernel
theorem dX3_endExpressionIn_148 : decode cX3_endExpressionIn 148 = .ok (.bipush 44, 2) := by decide +kernel
theorem dX3_endExpressionIn_150 : decode cX3_endExpressionIn 150 = .ok (.if_icmp .eq 18, 3) := by decide +kernel
theorem dX3_endExpressionIn_153 : decode cX3_endExpressionIn 153 = .ok (.aload_n 0, 1) := by decide +kernel
theorem dX3_endExpressionIn_154 : decode cX3_endExpressionIn 154 = .ok (.getfield 16, 3) := by decide +kernel
theorem dX3_endExpressionIn_157 : decode cX3_endExpressionIn 157 = .ok (.getfield 58, 3) := by decide +kernel
theorem dX3_endExpressionIn_160 : decode cX3_endExpressionIn 160 = .ok (.aload_n 0, 1) := by decide +kernel
theorem dX3_endExpressionIn_161 : decode cX3_endExpressionIn 161 = .ok (.iload_n 1, 1) := by decide +kernel
theorem dX3_endExpressionIn_162 : decode cX3_endExpressionIn 162 = .ok (.invokevirtual 215, 3) := by decide +kernel
theorem dX3_endExpressionIn_165 : decode cX3_endExpressionIn 165 = .ok (.if_icmp .ne 24, 3) := by decide +kernel
theorem dX3_endExpressionIn_168 : decode cX3_endExpressionIn 168 = .ok (.aload_n 0, 1) := by decide +kernel
theorem dX3_endExpressionIn_169 : decode cX3_endExpressionIn 169 = .ok (.getfield 38, 3) := by decide +kernel
theorem dX3_endExpressionIn_172 : decode cX3_endExpressionIn 172 = .ok (.iload_n 1, 1) := by decide +kernel
theorem dX3_endExpressionIn_173 : decode cX3_endExpressionIn 173 = .ok (.aload_n 0, 1) := by decide +kernel
theorem dX3_endExpressionIn_174 : decode cX3_endExpressionIn 174 = .ok (.getfield 204, 3) := by decide +kernel
theorem dX3_endExpressionIn_177 : decode cX3_endExpressionIn 177 = .ok (.invokevirtual 212, 3) := by decide +kernel
theorem dX3_endExpressionIn_180 : decode cX3_endExpressionIn 180 = .ok (.aload_n 0, 1) := by decide +kernel
theorem dX3_endExpressionIn_181 : decode cX3_endExpressionIn 181 = .ok (.bipush 6, 2) := by decide +kernel
theorem dX3_endExpressionIn_183 : decode cX3_endExpressionIn 183 = .ok (.putfield 46, 3) := by decide +kernel
theorem dX3_endExpressionIn_186 : decode cX3_endExpressionIn 186 = .ok (.goto 7, 3) := by decide +kernel
theorem dX3_endExpressionIn_189 : decode cX3_endExpressionIn 189 = .ok (.aload_n 0, 1) := by decide +kernel
theorem dX3_endExpressionIn_190 : decode cX3_endExpressionIn 190 = .ok (.invokevirtual 76, 3) := by decide +kernel
theorem dX3_endExpressionIn_193 : decode cX3_endExpressionIn 193 = .ok (.return_, 1) := by decide +kernel
theorem dX3_wordBehind_0 : decode cX3_wordBehind 0 = .ok (.aload_n 0, 1) := by decide +kernel
theorem dX3_wordBehind_1 : decode cX3_wordBehind 1 = .ok (.getfield 38, 3) := by decide +kernel
theorem dX3_wordBehind_4 : decode cX3_wordBehind 4 = .ok (.getfield 207, 3) := by decide +kernel
theorem dX3_wordBehind_7 : decode cX3_wordBehind 7 = .ok (.iload_n 1, 1) := by decide +kernel
theorem dX3_wordBehind_8 : decode cX3_wordBehind 8 = .ok (.iaload, 1) := by decide +kernel
theorem dX3_wordBehind_9 : decode cX3_wordBehind 9 = .ok (.bipush 6, 2) := by decide +kernel
theorem dX3_wordBehind_11 : decode cX3_wordBehind 11 = .ok (.if_icmp .ne 6, 3) := by decide +kernel
theorem dX3_wordBehind_14 : decode cX3_wordBehind 14 = .ok (.bipush 8, 2) := by decide +kernel
theorem dX3_wordBehind_16 : decode cX3_wordBehind 16 = .ok (.ireturn, 1) := by decide +kernel
theorem dX3_wordBehind_17 : decode cX3_wordBehind 17 = .ok (.aload_n 0, 1) := by decide +kernel
theorem dX3_wordBehind_18 : decode cX3_wordBehind 18 = .ok (.getfield 38, 3) := by decide +kernel
theorem dX3_wordBehind_21 : decode cX3_wordBehind 21 = .ok (.getfield 207, 3) := by decide +kernel
theorem dX3_wordBehind_24 : decode cX3_wordBehind 24 = .ok (.iload_n 1, 1) := by decide +kernel
theorem dX3_wordBehind_25 : decode cX3_wordBehind 25 = .ok (.iaload, 1) := by decide +kernel
theorem dX3_wordBehind_26 : decode cX3_wordBehind 26 = .ok (.iconst 5, 1) := by decide +kernel
theorem dX3_wordBehind_27 : decode cX3_wordBehind 27 = .ok (.if_icmp .ne 22, 3) := by decide +kernel
theorem dX3_wordBehind_30 : decode cX3_wordBehind 30 = .ok (.aload_n 0, 1) := by decide +kernel
theorem dX3_wordBehind_31 : decode cX3_wordBehind 31 = .ok (.getfield 38, 3) := by decide +kernel
theorem dX3_wordBehind_34 : decode cX3_wordBehind 34 = .ok (.getfield 209, 3) := by decide +kernel
theorem dX3_wordBehind_37 : decode cX3_wordBehind 37 = .ok (.iload_n 1, 1) := by decide +kernel
theorem dX3_wordBehind_38 : decode cX3_wordBehind 38 = .ok (.iaload, 1) := by decide +kernel
theorem dX3_wordBehind_39 : decode cX3_wordBehind 39 = .ok (.ifCond .ne 7, 3) := by decide +kernel
theorem dX3_wordBehind_42 : decode cX3_wordBehind 42 = .ok (.iconst 5, 1) := by decide +kernel
theorem dX3_wordBehind_43 : decode cX3_wordBehind 43 = .ok (.goto 5, 3) := by decide +kernel
theorem dX3_wordBehind_46 : decode cX3_wordBehind 46 = .ok (.bipush 6, 2) := by decide +kernel
theorem dX3_wordBehind_48 : decode cX3_wordBehind 48 = .ok (.ireturn, 1) := by decide +kernel
theorem dX3_wordBehind_49 : decode cX3_wordBehind 49 = .ok (.iconst (-1), 1) := by decide +kernel
theorem dX3_wordBehind_50 : decode cX3_wordBehind 50 = .ok (.ireturn, 1) := by decide +kernel
theorem dX3_isInLastExpression_0 : decode cX3_isInLastExpression 0 = .ok (.iload_n 1, 1) := by decide +kernel
theorem dX3_isInLastExpression_1 : decode cX3_isInLastExpression 1 = .ok (.ifCond .ge 5, 3) := by decide +kernel
theorem dX3_isInLastExpression_4 : decode cX3_isInLastExpression 4 = .ok (.iconst 0, 1) := by decide +kernel
theorem dX3_isInLastExpression_5 : decode cX3_isInLastExpression 5 = .ok (.ireturn, 1) := by decide +kernel
theorem dX3_isInLastExpression_6 : decode cX3_isInLastExpression 6 = .ok (.aload_n 0, 1) := by decide +kernel
theorem dX3_isInLastExpression_7 : decode cX3_isInLastExpression 7 = .ok (.getfield 38, 3) := by decide +kernel
theorem dX3_isInLastExpression_10 : decode cX3_isInLastExpression 10 = .ok (.getfield 207, 3) := by decide +kernel
theorem dX3_isInLastExpression_13 : decode cX3_isInLastExpression 13 = .ok (.iload_n 1, 1) := by decide +kernel
theorem dX3_isInLastExpression_14 : decode cX3_isInLastExpression 14 = .ok (.iaload, 1) := by decide +kernel
theorem dX3_isInLastExpression_15 : decode cX3_isInLastExpression 15 = .ok (.istore_n 2, 1) := by decide +kernel
theorem dX3_isInLastExpression_16 : decode cX3_isInLastExpression 16 = .ok (.iload_n 2, 1) := by decide +kernel
theorem dX3_isInLastExpression_17 : decode cX3_isInLastExpression 17 = .ok (.iconst 5, 1) := by decide +kernel
theorem dX3_isInLastExpression_18 : decode cX3_isInLastExpression 18 = .ok (.if_icmp .ne 16, 3) := by decide +kernel
theorem dX3_isInLastExpression_21 : decode cX3_isInLastExpression 21 = .ok (.aload_n 0, 1) := by decide +kernel
theorem dX3_isInLastExpression_22 : decode cX3_isInLastExpression 22 = .ok (.getfield 38, 3) := by decide +kernel
theorem dX3_isInLastExpression_25 : decode cX3_isInLastExpression 25 = .ok (.getfield 209, 3) := by decide +kernel
theorem dX3_isInLastExpression_28 : decode cX3_isInLastExpression 28 = .ok (.iload_n 1, 1) := by decide +kernel
theorem dX3_isInLastExpression_29 : decode cX3_isInLastExpression 29 = .ok (.iaload, 1) := by decide +kernel
theorem dX3_isInLastExpression_30 : decode cX3_isInLastExpression 30 = .ok (.iconst 2, 1) := by decide +kernel
theorem dX3_isInLastExpression_31 : decode cX3_isInLastExpression 31 = .ok (.if_icmp .eq 22, 3) := by decide +kernel
theorem dX3_isInLastExpression_34 : decode cX3_isInLastExpression 34 = .ok (.iload_n 2, 1) := by decide +kernel
theorem dX3_isInLastExpression_35 : decode cX3_isInLastExpression 35 = .ok (.bipush 6, 2) := by decide +kernel
theorem dX3_isInLastExpression_37 : decode cX3_isInLastExpression 37 = .ok (.if_icmp .ne 20, 3) := by decide +kernel
theorem dX3_isInLastExpression_40 : decode cX3_isInLastExpression 40 = .ok (.aload_n 0, 1) := by decide +kernel
theorem dX3_isInLastExpression_41 : decode cX3_isInLastExpression 41 = .ok (.getfield 38, 3) := by decide +kernel
theorem dX3_isInLastExpression_44 : decode cX3_isInLastExpression 44 = .ok (.getfield 209, 3) := by decide +kernel
theorem dX3_isInLastExpression_47 : decode cX3_isInLastExpression 47 = .ok (.iload_n 1, 1) := by decide +kernel
theorem dX3_isInLastExpression_48 : decode cX3_isInLastExpression 48 = .ok (.iaload, 1) := by decide +kernel
theorem dX3_isInLastExpression_49 : decode cX3_isInLastExpression 49 = .ok (.iconst 1, 1) := by decide +kernel
theorem dX3_isInLastExpression_50 : decode cX3_isInLastExpression 50 = .ok (.if_icmp .ne 7, 3) := by decide +kernel
theorem dX3_isInLastExpression_53 : decode cX3_isInLastExpression 53 = .ok (.iconst 1, 1) := by decide +kernel
theorem dX3_isInLastExpression_54 : decode cX3_isInLastExpression 54 = .ok (.goto 4, 3) := by decide +kernel
theorem dX3_isInLastExpression_57 : decode cX3_isInLastExpression 57 = .ok (.iconst 0, 1) := by decide +kernel
theorem dX3_isInLastExpression_58 : decode cX3_isInLastExpression 58 = .ok (.ireturn, 1) := by decide +kernel
theorem dX3_addLeaf_0 : decode cX3_addLeaf 0 = .ok (.aload_n 0, 1) := by decide +kernel
theorem dX3_addLeaf_1 : decode cX3_addLeaf 1 = .ok (.aload_n 0, 1) := by decide +kernel
theorem dX3_addLeaf_2 : decode cX3_addLeaf 2 = .ok (.getfield 38, 3) := by decide +kernel
theorem dX3_addLeaf_5 : decode cX3_addLeaf 5 = .ok (.aload_n 0, 1) := by decide +kernel
theorem dX3_addLeaf_6 : decode cX3_addLeaf 6 = .ok (.getfield 92, 3) := by decide +kernel
theorem dX3_addLeaf_9 : decode cX3_addLeaf 9 = .ok (.iload_n 1, 1) := by decide +kernel
theorem dX3_addLeaf_10 : decode cX3_addLeaf 10 = .ok (.iload_n 2, 1) := by decide +kernel
theorem dX3_addLeaf_11 : decode cX3_addLeaf 11 = .ok (.invokevirtual 218, 3) := by decide +kernel
theorem dX3_addLeaf_14 : decode cX3_addLeaf 14 = .ok (.putfield 204, 3) := by decide +kernel
theorem dX3_addLeaf_17 : decode cX3_addLeaf 17 = .ok (.aload_n 0, 1) := by decide +kernel
theorem dX3_addLeaf_18 : decode cX3_addLeaf 18 = .ok (.bipush 7, 2) := by decide +kernel
theorem dX3_addLeaf_20 : decode cX3_addLeaf 20 = .ok (.putfield 46, 3) := by decide +kernel
theorem dX3_addLeaf_23 : decode cX3_addLeaf 23 = .ok (.return_, 1) := by decide +kernel
theorem dX3_beginPart_0 : decode cX3_beginPart 0 = .ok (.aload_n 0, 1) := by decide +kernel
theorem dX3_beginPart_1 : decode cX3_beginPart 1 = .ok (.getfield 38, 3) := by decide +kernel
theorem dX3_beginPart_4 : decode cX3_beginPart 4 = .ok (.aload_n 0, 1) := by decide +kernel
theorem dX3_beginPart_5 : decode cX3_beginPart 5 = .ok (.getfield 92, 3) := by decide +kernel
theorem dX3_beginPart_8 : decode cX3_beginPart 8 = .ok (.iload_n 1, 1) := by decide +kernel
theorem dX3_beginPart_9 : decode cX3_beginPart 9 = .ok (.iconst 0, 1) := by decide +kernel
theorem dX3_beginPart_10 : decode cX3_beginPart 10 = .ok (.invokevirtual 218, 3) := by decide +kernel
theorem dX3_beginPart_13 : decode cX3_beginPart 13 = .ok (.istore_n 3, 1) := by decide +kernel
theorem dX3_beginPart_14 : decode cX3_beginPart 14 = .ok (.aload_n 0, 1) := by decide +kernel
theorem dX3_beginPart_15 : decode cX3_beginPart 15 = .ok (.iload_n 3, 1) := by decide +kernel
theorem dX3_beginPart_16 : decode cX3_beginPart 16 = .ok (.iload_n 2, 1) := by decide +kernel
theorem dX3_beginPart_17 : decode cX3_beginPart 17 = .ok (.invokevirtual 115, 3) := by decide +kernel
theorem dX3_beginPart_20 : decode cX3_beginPart 20 = .ok (.iload_n 3, 1) := by decide +kernel
theorem dX3_beginPart_21 : decode cX3_beginPart 21 = .ok (.ireturn, 1) := by decide +kernel
theorem dX3_beginPartBehind_0 : decode cX3_beginPartBehind 0 = .ok (.aload_n 0, 1) := by decide +kernel
theorem dX3_beginPartBehind_1 : decode cX3_beginPartBehind 1 = .ok (.getfield 204, 3) := by decide +kernel
theorem dX3_beginPartBehind_4 : decode cX3_beginPartBehind 4 = .ok (.istore_n 2, 1) := by decide +kernel
theorem dX3_beginPartBehind_5 : decode cX3_beginPartBehind 5 = .ok (.aload_n 0, 1) := by decide +kernel
theorem dX3_beginPartBehind_6 : decode cX3_beginPartBehind 6 = .ok (.getfield 38, 3) := by decide +kernel
theorem dX3_beginPartBehind_9 : decode cX3_beginPartBehind 9 = .ok (.aload_n 0, 1) := by decide +kernel
theorem dX3_beginPartBehind_10 : decode cX3_beginPartBehind 10 = .ok (.iload_n 1, 1) := by decide +kernel
theorem dX3_beginPartBehind_11 : decode cX3_beginPartBehind 11 = .ok (.bipush 6, 2) := by decide +kernel
theorem dX3_beginPartBehind_13 : decode cX3_beginPartBehind 13 = .ok (.invokevirtual 134, 3) := by decide +kernel
theorem dX3_beginPartBehind_16 : decode cX3_beginPartBehind 16 = .ok (.iload_n 2, 1) := by decide +kernel
theorem dX3_beginPartBehind_17 : decode cX3_beginPartBehind 17 = .ok (.invokevirtual 212, 3) := by decide +kernel
theorem dX3_beginPartBehind_20 : decode cX3_beginPartBehind 20 = .ok (.return_, 1) := by decide +kernel
theorem dX3_begin_0 : decode cX3_begin 0 = .ok (.aload_n 0, 1) := by decide +kernel
theorem dX3_begin_1 : decode cX3_begin 1 = .ok (.getfield 34, 3) := by decide +kernel
theorem dX3_begin_4 : decode cX3_begin 4 = .ok (.aload_n 0, 1) := by decide +kernel
theorem dX3_begin_5 : decode cX3_begin 5 = .ok (.getfield 109, 3) := by decide +kernel
theorem dX3_begin_8 : decode cX3_begin 8 = .ok (.iload_n 1, 1) := by decide +kernel
theorem dX3_begin_9 : decode cX3_begin 9 = .ok (.iastore, 1) := by decide +kernel
theorem dX3_begin_10 : decode cX3_begin 10 = .ok (.aload_n 0, 1) := by decide +kernel
theorem dX3_begin_11 : decode cX3_begin 11 = .ok (.dup, 1) := by decide +kernel
theorem dX3_begin_12 : decode cX3_begin 12 = .ok (.getfield 109, 3) := by decide +kernel
theorem dX3_begin_15 : decode cX3_begin 15 = .ok (.iconst 1, 1) := by decide +kernel
theorem dX3_begin_16 : decode cX3_begin 16 = .ok (.iadd, 1) := by decide +kernel
theorem dX3_begin_17 : decode cX3_begin 17 = .ok (.putfield 109, 3) := by decide +kernel
theorem dX3_begin_20 : decode cX3_begin 20 = .ok (.aload_n 0, 1) := by decide +kernel
theorem dX3_begin_21 : decode cX3_begin 21 = .ok (.iload_n 2, 1) := by decide +kernel
theorem dX3_begin_22 : decode cX3_begin 22 = .ok (.putfield 46, 3) := by decide +kernel
theorem dX3_begin_25 : decode cX3_begin 25 = .ok (.return_, 1) := by decide +kernel
theorem dX3_end_0 : decode cX3_end 0 = .ok (.aload_n 0, 1) := by decide +kernel
theorem dX3_end_1 : decode cX3_end 1 = .ok (.dup, 1) := by decide +kernel
theorem dX3_end_2 : decode cX3_end 2 = .ok (.getfield 109, 3) := by decide +kernel
theorem dX3_end_5 : decode cX3_end 5 = .ok (.iconst 1, 1) := by decide +kernel
theorem dX3_end_6 : decode cX3_end 6 = .ok (.isub, 1) := by decide +kernel
theorem dX3_end_7 : decode cX3_end 7 = .ok (.putfield 109, 3) := by decide +kernel
theorem dX3_end_10 : decode cX3_end 10 = .ok (.aload_n 0, 1) := by decide +kernel
theorem dX3_end_11 : decode cX3_end 11 = .ok (.aload_n 0, 1) := by decide +kernel
theorem dX3_end_12 : decode cX3_end 12 = .ok (.getfield 34, 3) := by decide +kernel
theorem dX3_end_15 : decode cX3_end 15 = .ok (.aload_n 0, 1) := by decide +kernel
theorem dX3_end_16 : decode cX3_end 16 = .ok (.getfield 109, 3) := by decide +kernel
theorem dX3_end_19 : decode cX3_end 19 = .ok (.iaload, 1) := by decide +kernel
theorem dX3_end_20 : decode cX3_end 20 = .ok (.putfield 204, 3) := by decide +kernel
theorem dX3_end_23 : decode cX3_end 23 = .ok (.aload_n 0, 1) := by decide +kernel
theorem dX3_end_24 : decode cX3_end 24 = .ok (.bipush 7, 2) := by decide +kernel
theorem dX3_end_26 : decode cX3_end 26 = .ok (.putfield 46, 3) := by decide +kernel
theorem dX3_end_29 : decode cX3_end 29 = .ok (.return_, 1) := by decide +kernel
theorem dX3_endWithLatest_0 : decode cX3_endWithLatest 0 = .ok (.aload_n 0, 1) := by decide +kernel
theorem dX3_endWithLatest_1 : decode cX3_endWithLatest 1 = .ok (.getfield 38, 3) := by decide +kernel
theorem dX3_endWithLatest_4 : decode cX3_endWithLatest 4 = .ok (.aload_n 0, 1) := by decide +kernel
theorem dX3_endWithLatest_5 : decode cX3_endWithLatest 5 = .ok (.invokevirtual 155, 3) := by decide +kernel
theorem dX3_endWithLatest_8 : decode cX3_endWithLatest 8 = .ok (.aload_n 0, 1) := by decide +kernel
theorem dX3_endWithLatest_9 : decode cX3_endWithLatest 9 = .ok (.getfield 204, 3) := by decide +kernel
theorem dX3_endWithLatest_12 : decode cX3_endWithLatest 12 = .ok (.invokevirtual 212, 3) := by decide +kernel
theorem dX3_endWithLatest_15 : decode cX3_endWithLatest 15 = .ok (.aload_n 0, 1) := by decide +kernel
theorem dX3_endWithLatest_16 : decode cX3_endWithLatest 16 = .ok (.invokevirtual 163, 3) := by decide +kernel
theorem dX3_endWithLatest_19 : decode cX3_endWithLatest 19 = .ok (.return_, 1) := by decide +kernel
theorem dX3_endSigns_0 : decode cX3_endSigns 0 = .ok (.aload_n 0, 1) := by decide +kernel
theorem dX3_endSigns_1 : decode cX3_endSigns 1 = .ok (.getfield 109, 3) := by decide +kernel
theorem dX3_endSigns_4 : decode cX3_endSigns 4 = .ok (.istore_n 2, 1) := by decide +kernel
theorem dX3_endSigns_5 : decode cX3_endSigns 5 = .ok (.iload_n 2, 1) := by decide +kernel
theorem dX3_endSigns_6 : decode cX3_endSigns 6 = .ok (.ifCond .le 25, 3) := by decide +kernel
theorem dX3_endSigns_9 : decode cX3_endSigns 9 = .ok (.aload_n 0, 1) := by decide +kernel
theorem dX3_endSigns_10 : decode cX3_endSigns 10 = .ok (.aload_n 0, 1) := by decide +kernel
theorem dX3_endSigns_11 : decode cX3_endSigns 11 = .ok (.invokevirtual 155, 3) := by decide +kernel
theorem dX3_endSigns_14 : decode cX3_endSigns 14 = .ok (.invokevirtual 159, 3) := by decide +kernel
theorem dX3_endSigns_17 : decode cX3_endSigns 17 = .ok (.iload_n 1, 1) := by decide +kernel
theorem dX3_endSigns_18 : decode cX3_endSigns 18 = .ok (.if_icmp .lt 13, 3) := by decide +kernel
theorem dX3_endSigns_21 : decode cX3_endSigns 21 = .ok (.aload_n 0, 1) := by decide +kernel
theorem dX3_endSigns_22 : decode cX3_endSigns 22 = .ok (.invokevirtual 189, 3) := by decide +kernel
theorem dX3_endSigns_25 : decode cX3_endSigns 25 = .ok (.iinc 2 (-1), 3) := by decide +kernel
theorem dX3_endSigns_28 : decode cX3_endSigns 28 = .ok (.goto (-23), 3) := by decide +kernel
theorem dX3_endSigns_31 : decode cX3_endSigns 31 = .ok (.return_, 1) := by decide +kernel
theorem dX3_innermost_0 : decode cX3_innermost 0 = .ok (.aload_n 0, 1) := by decide +kernel
theorem dX3_innermost_1 : decode cX3_innermost 1 = .ok (.getfield 109, 3) := by decide +kernel
theorem dX3_innermost_4 : decode cX3_innermost 4 = .ok (.ifCond .le 17, 3) := by decide +kernel
theorem dX3_innermost_7 : decode cX3_innermost 7 = .ok (.aload_n 0, 1) := by decide +kernel
theorem dX3_innermost_8 : decode cX3_innermost 8 = .ok (.getfield 34, 3) := by decide +kernel
theorem dX3_innermost_11 : decode cX3_innermost 11 = .ok (.aload_n 0, 1) := by decide +kernel
theorem dX3_innermost_12 : decode cX3_innermost 12 = .ok (.getfield 109, 3) := by decide +kernel
theorem dX3_innermost_15 : decode cX3_innermost 15 = .ok (.iconst 1, 1) := by decide +kernel
theorem dX3_innermost_16 : decode cX3_innermost 16 = .ok (.isub, 1) := by decide +kernel
theorem dX3_innermost_17 : decode cX3_innermost 17 = .ok (.iaload, 1) := by decide +kernel
theorem dX3_innermost_18 : decode cX3_innermost 18 = .ok (.goto 4, 3) := by decide +kernel
theorem dX3_innermost_21 : decode cX3_innermost 21 = .ok (.iconst (-1), 1) := by decide +kernel
theorem dX3_innermost_22 : decode cX3_innermost 22 = .ok (.ireturn, 1) := by decide +kernel
theorem dX3_levelOf_0 : decode cX3_levelOf 0 = .ok (.iload_n 1, 1) := by decide +kernel
theorem dX3_levelOf_1 : decode cX3_levelOf 1 = .ok (.ifCond .ge 5, 3) := by decide +kernel
theorem dX3_levelOf_4 : decode cX3_levelOf 4 = .ok (.iconst 0, 1) := by decide +kernel
theorem dX3_levelOf_5 : decode cX3_levelOf 5 = .ok (.ireturn, 1) := by decide +kernel
theorem dX3_levelOf_6 : decode cX3_levelOf 6 = .ok (.aload_n 0, 1) := by decide +kernel
theorem dX3_levelOf_7 : decode cX3_levelOf 7 = .ok (.getfield 38, 3) := by decide +kernel
theorem dX3_levelOf_10 : decode cX3_levelOf 10 = .ok (.getfield 207, 3) := by decide +kernel
theorem dX3_levelOf_13 : decode cX3_levelOf 13 = .ok (.iload_n 1, 1) := by decide +kernel
theorem dX3_levelOf_14 : decode cX3_levelOf 14 = .ok (.iaload, 1) := by decide +kernel
theorem dX3_levelOf_15 : decode cX3_levelOf 15 = .ok (.istore_n 2, 1) := by decide +kernel
theorem dX3_levelOf_16 : decode cX3_levelOf 16 = .ok (.iload_n 2, 1) := by decide +kernel
theorem dX3_levelOf_17 : decode cX3_levelOf 17 = .ok (.iconst 4, 1) := by decide +kernel
theorem dX3_levelOf_18 : decode cX3_levelOf 18 = .ok (.if_icmp .ne 7, 3) := by decide +kernel
theorem dX3_levelOf_21 : decode cX3_levelOf 21 = .ok (.iconst 4, 1) := by decide +kernel
theorem dX3_levelOf_22 : decode cX3_levelOf 22 = .ok (.goto 7, 3) := by decide +kernel
theorem dX3_levelOf_25 : decode cX3_levelOf 25 = .ok (.iload_n 2, 1) := by decide +kernel
theorem dX3_levelOf_26 : decode cX3_levelOf 26 = .ok (.invokestatic 166, 3) := by decide +kernel
theorem dX3_levelOf_29 : decode cX3_levelOf 29 = .ok (.ireturn, 1) := by decide +kernel
theorem dX3_levelOfSign_0 : decode cX3_levelOfSign 0 = .ok (.iload_n 0, 1) := by decide +kernel
theorem dX3_levelOfSign_1 : decode cX3_levelOfSign 1 = .ok (.tableswitch 125 37 62 #[123, 125, 125, 125, 125, 123, 121, 125, 121, 125, 123, 125, 125, 125, 125, 125, 125, 125, 125, 125, 125, 125, 125, 119, 119, 119], 119) := by decide +kernel
theorem dX3_levelOfSign_120 : decode cX3_levelOfSign 120 = .ok (.iconst 1, 1) := by decide +kernel
theorem dX3_levelOfSign_121 : decode cX3_levelOfSign 121 = .ok (.ireturn, 1) := by decide +kernel
theorem dX3_levelOfSign_122 : decode cX3_levelOfSign 122 = .ok (.iconst 2, 1) := by decide +kernel
theorem dX3_levelOfSign_123 : decode cX3_levelOfSign 123 = .ok (.ireturn, 1) := by decide +kernel
theorem dX3_levelOfSign_124 : decode cX3_levelOfSign 124 = .ok (.iconst 3, 1) := by decide +kernel
theorem dX3_levelOfSign_125 : decode cX3_levelOfSign 125 = .ok (.ireturn, 1) := by decide +kernel
theorem dX3_levelOfSign_126 : decode cX3_levelOfSign 126 = .ok (.iconst 0, 1) := by decide +kernel
theorem dX3_levelOfSign_127 : decode cX3_levelOfSign 127 = .ok (.ireturn, 1) := by decide +kernel
theorem dX3_keepName_0 : decode cX3_keepName 0 = .ok (.iload_n 1, 1) := by decide +kernel
theorem dX3_keepName_1 : decode cX3_keepName 1 = .ok (.ifCond .lt 29, 3) := by decide +kernel
theorem dX3_keepName_4 : decode cX3_keepName 4 = .ok (.aload_n 0, 1) := by decide +kernel
theorem dX3_keepName_5 : decode cX3_keepName 5 = .ok (.getfield 27, 3) := by decide +kernel
theorem dX3_keepName_8 : decode cX3_keepName 8 = .ok (.iload_n 1, 1) := by decide +kernel
theorem dX3_keepName_9 : decode cX3_keepName 9 = .ok (.aload_n 0, 1) := by decide +kernel
theorem dX3_keepName_10 : decode cX3_keepName 10 = .ok (.getfield 16, 3) := by decide +kernel
theorem dX3_keepName_13 : decode cX3_keepName 13 = .ok (.getfield 95, 3) := by decide +kernel
theorem dX3_keepName_16 : decode cX3_keepName 16 = .ok (.lastore, 1) := by decide +kernel
theorem dX3_keepName_17 : decode cX3_keepName 17 = .ok (.aload_n 0, 1) := by decide +kernel
theorem dX3_keepName_18 : decode cX3_keepName 18 = .ok (.getfield 30, 3) := by decide +kernel
theorem dX3_keepName_21 : decode cX3_keepName 21 = .ok (.iload_n 1, 1) := by decide +kernel
theorem dX3_keepName_22 : decode cX3_keepName 22 = .ok (.aload_n 0, 1) := by decide +kernel
theorem dX3_keepName_23 : decode cX3_keepName 23 = .ok (.getfield 16, 3) := by decide +kernel
theorem dX3_keepName_26 : decode cX3_keepName 26 = .ok (.getfield 222, 3) := by decide +kernel
theorem dX3_keepName_29 : decode cX3_keepName 29 = .ok (.iastore, 1) := by decide +kernel
theorem dX3_keepName_30 : decode cX3_keepName 30 = .ok (.return_, 1) := by decide +kernel
theorem dX3_letNamed_0 : decode cX3_letNamed 0 = .ok (.aload_n 0, 1) := by decide +kernel
theorem dX3_letNamed_1 : decode cX3_letNamed 1 = .ok (.getfield 109, 3) := by decide +kernel
theorem dX3_letNamed_4 : decode cX3_letNamed 4 = .ok (.iconst 1, 1) := by decide +kernel
theorem dX3_letNamed_5 : decode cX3_letNamed 5 = .ok (.isub, 1) := by decide +kernel
theorem dX3_letNamed_6 : decode cX3_letNamed 6 = .ok (.istore_n 3, 1) := by decide +kernel
theorem dX3_letNamed_7 : decode cX3_letNamed 7 = .ok (.iload_n 3, 1) := by decide +kernel
theorem dX3_letNamed_8 : decode cX3_letNamed 8 = .ok (.ifCond .lt 66, 3) := by decide +kernel
theorem dX3_letNamed_11 : decode cX3_letNamed 11 = .ok (.aload_n 0, 1) := by decide +kernel
theorem dX3_letNamed_12 : decode cX3_letNamed 12 = .ok (.getfield 34, 3) := by decide +kernel
theorem dX3_letNamed_15 : decode cX3_letNamed 15 = .ok (.iload_n 3, 1) := by decide +kernel
theorem dX3_letNamed_16 : decode cX3_letNamed 16 = .ok (.iaload, 1) := by decide +kernel
theorem dX3_letNamed_17 : decode cX3_letNamed 17 = .ok (.istore 4, 2) := by decide +kernel
theorem dX3_letNamed_19 : decode cX3_letNamed 19 = .ok (.iload 4, 2) := by decide +kernel
theorem dX3_letNamed_21 : decode cX3_letNamed 21 = .ok (.ifCond .lt 47, 3) := by decide +kernel
theorem dX3_letNamed_24 : decode cX3_letNamed 24 = .ok (.aload_n 0, 1) := by decide +kernel
theorem dX3_letNamed_25 : decode cX3_letNamed 25 = .ok (.getfield 38, 3) := by decide +kernel
theorem dX3_letNamed_28 : decode cX3_letNamed 28 = .ok (.getfield 207, 3) := by decide +kernel
theorem dX3_letNamed_31 : decode cX3_letNamed 31 = .ok (.iload 4, 2) := by decide +kernel
theorem dX3_letNamed_33 : decode cX3_letNamed 33 = .ok (.iaload, 1) := by decide +kernel
theorem dX3_letNamed_34 : decode cX3_letNamed 34 = .ok (.bipush 6, 2) := by decide +kernel
theorem dX3_letNamed_36 : decode cX3_letNamed 36 = .ok (.if_icmp .ne 32, 3) := by decide +kernel
theorem dX3_letNamed_39 : decode cX3_letNamed 39 = .ok (.aload_n 0, 1) := by decide +kernel
theorem dX3_letNamed_40 : decode cX3_letNamed 40 = .ok (.getfield 38, 3) := by decide +kernel
theorem dX3_letNamed_43 : decode cX3_letNamed 43 = .ok (.getfield 209, 3) := by decide +kernel
theorem dX3_letNamed_46 : decode cX3_letNamed 46 = .ok (.iload 4, 2) := by decide +kernel
theorem dX3_letNamed_48 : decode cX3_letNamed 48 = .ok (.iaload, 1) := by decide +kernel
theorem dX3_letNamed_49 : decode cX3_letNamed 49 = .ok (.iconst 1, 1) := by decide +kernel
theorem dX3_letNamed_50 : decode cX3_letNamed 50 = .ok (.if_icmp .ne 18, 3) := by decide +kernel
theorem dX3_letNamed_53 : decode cX3_letNamed 53 = .ok (.aload_n 0, 1) := by decide +kernel
theorem dX3_letNamed_54 : decode cX3_letNamed 54 = .ok (.getfield 27, 3) := by decide +kernel
theorem dX3_letNamed_57 : decode cX3_letNamed 57 = .ok (.iload 4, 2) := by decide +kernel
theorem dX3_letNamed_59 : decode cX3_letNamed 59 = .ok (.laload, 1) := by decide +kernel
theorem dX3_letNamed_60 : decode cX3_letNamed 60 = .ok (.lload_n 1, 1) := by decide +kernel
theorem dX3_letNamed_61 : decode cX3_letNamed 61 = .ok (.lcmp, 1) := by decide +kernel
theorem dX3_letNamed_62 : decode cX3_letNamed 62 = .ok (.ifCond .ne 6, 3) := by decide +kernel
theorem dX3_letNamed_65 : decode cX3_letNamed 65 = .ok (.iload 4, 2) := by decide +kernel
theorem dX3_letNamed_67 : decode cX3_letNamed 67 = .ok (.ireturn, 1) := by decide +kernel
theorem dX3_letNamed_68 : decode cX3_letNamed 68 = .ok (.iinc 3 (-1), 3) := by decide +kernel
theorem dX3_letNamed_71 : decode cX3_letNamed 71 = .ok (.goto (-64), 3) := by decide +kernel
theorem dX3_letNamed_74 : decode cX3_letNamed 74 = .ok (.iconst (-1), 1) := by decide +kernel
theorem dX3_letNamed_75 : decode cX3_letNamed 75 = .ok (.ireturn, 1) := by decide +kernel
theorem dX3_argumentNamed_0 : decode cX3_argumentNamed 0 = .ok (.iconst 0, 1) := by decide +kernel
theorem dX3_argumentNamed_1 : decode cX3_argumentNamed 1 = .ok (.istore_n 3, 1) := by decide +kernel
theorem dX3_argumentNamed_2 : decode cX3_argumentNamed 2 = .ok (.iload_n 3, 1) := by decide +kernel
theorem dX3_argumentNamed_3 : decode cX3_argumentNamed 3 = .ok (.aload_n 0, 1) := by decide +kernel
theorem dX3_argumentNamed_4 : decode cX3_argumentNamed 4 = .ok (.getfield 38, 3) := by decide +kernel
theorem dX3_argumentNamed_7 : decode cX3_argumentNamed 7 = .ok (.getfield 103, 3) := by decide +kernel
theorem dX3_argumentNamed_10 : decode cX3_argumentNamed 10 = .ok (.aload_n 0, 1) := by decide +kernel
theorem dX3_argumentNamed_11 : decode cX3_argumentNamed 11 = .ok (.getfield 92, 3) := by decide +kernel
theorem dX3_argumentNamed_14 : decode cX3_argumentNamed 14 = .ok (.iaload, 1) := by decide +kernel
theorem dX3_argumentNamed_15 : decode cX3_argumentNamed 15 = .ok (.if_icmp .ge 22, 3) := by decide +kernel
theorem dX3_argumentNamed_18 : decode cX3_argumentNamed 18 = .ok (.aload_n 0, 1) := by decide +kernel
theorem dX3_argumentNamed_19 : decode cX3_argumentNamed 19 = .ok (.getfield 24, 3) := by decide +kernel
theorem dX3_argumentNamed_22 : decode cX3_argumentNamed 22 = .ok (.iload_n 3, 1) := by decide +kernel
theorem dX3_argumentNamed_23 : decode cX3_argumentNamed 23 = .ok (.laload, 1) := by decide +kernel
theorem dX3_argumentNamed_24 : decode cX3_argumentNamed 24 = .ok (.lload_n 1, 1) := by decide +kernel
theorem dX3_argumentNamed_25 : decode cX3_argumentNamed 25 = .ok (.lcmp, 1) := by decide +kernel
theorem dX3_argumentNamed_26 : decode cX3_argumentNamed 26 = .ok (.ifCond .ne 5, 3) := by decide +kernel
theorem dX3_argumentNamed_29 : decode cX3_argumentNamed 29 = .ok (.iload_n 3, 1) := by decide +kernel
theorem dX3_argumentNamed_30 : decode cX3_argumentNamed 30 = .ok (.ireturn, 1) := by decide +kernel
theorem dX3_argumentNamed_31 : decode cX3_argumentNamed 31 = .ok (.iinc 3 1, 3) := by decide +kernel
theorem dX3_argumentNamed_34 : decode cX3_argumentNamed 34 = .ok (.goto (-32), 3) := by decide +kernel
theorem dX3_argumentNamed_37 : decode cX3_argumentNamed 37 = .ok (.iconst (-1), 1) := by decide +kernel
theorem dX3_argumentNamed_38 : decode cX3_argumentNamed 38 = .ok (.ireturn, 1) := by decide +kernel
theorem dX3_definitionNamed_0 : decode cX3_definitionNamed 0 = .ok (.iconst 0, 1) := by decide +kernel
theorem dX3_definitionNamed_1 : decode cX3_definitionNamed 1 = .ok (.istore_n 3, 1) := by decide +kernel
theorem dX3_definitionNamed_2 : decode cX3_definitionNamed 2 = .ok (.iload_n 3, 1) := by decide +kernel
theorem dX3_definitionNamed_3 : decode cX3_definitionNamed 3 = .ok (.aload_n 0, 1) := by decide +kernel
theorem dX3_definitionNamed_4 : decode cX3_definitionNamed 4 = .ok (.getfield 38, 3) := by decide +kernel
theorem dX3_definitionNamed_7 : decode cX3_definitionNamed 7 = .ok (.getfield 42, 3) := by decide +kernel
theorem dX3_definitionNamed_10 : decode cX3_definitionNamed 10 = .ok (.if_icmp .ge 22, 3) := by decide +kernel
theorem dX3_definitionNamed_13 : decode cX3_definitionNamed 13 = .ok (.aload_n 0, 1) := by decide +kernel
theorem dX3_definitionNamed_14 : decode cX3_definitionNamed 14 = .ok (.getfield 20, 3) := by decide +kernel
theorem dX3_definitionNamed_17 : decode cX3_definitionNamed 17 = .ok (.iload_n 3, 1) := by decide +kernel
theorem dX3_definitionNamed_18 : decode cX3_definitionNamed 18 = .ok (.laload, 1) := by decide +kernel
theorem dX3_definitionNamed_19 : decode cX3_definitionNamed 19 = .ok (.lload_n 1, 1) := by decide +kernel
theorem dX3_definitionNamed_20 : decode cX3_definitionNamed 20 = .ok (.lcmp, 1) := by decide +kernel
theorem dX3_definitionNamed_21 : decode cX3_definitionNamed 21 = .ok (.ifCond .ne 5, 3) := by decide +kernel
theorem dX3_definitionNamed_24 : decode cX3_definitionNamed 24 = .ok (.iload_n 3, 1) := by decide +kernel
theorem dX3_definitionNamed_25 : decode cX3_definitionNamed 25 = .ok (.ireturn, 1) := by decide +kernel
theorem dX3_definitionNamed_26 : decode cX3_definitionNamed 26 = .ok (.iinc 3 1, 3) := by decide +kernel
theorem dX3_definitionNamed_29 : decode cX3_definitionNamed 29 = .ok (.goto (-27), 3) := by decide +kernel
theorem dX3_definitionNamed_32 : decode cX3_definitionNamed 32 = .ok (.iconst (-1), 1) := by decide +kernel
theorem dX3_definitionNamed_33 : decode cX3_definitionNamed 33 = .ok (.ireturn, 1) := by decide +kernel
theorem dX3_bindCalls_0 : decode cX3_bindCalls 0 = .ok (.iconst 0, 1) := by decide +kernel
theorem dX3_bindCalls_1 : decode cX3_bindCalls 1 = .ok (.istore_n 1, 1) := by decide +kernel
theorem dX3_bindCalls_2 : decode cX3_bindCalls 2 = .ok (.iload_n 1, 1) := by decide +kernel
theorem dX3_bindCalls_3 : decode cX3_bindCalls 3 = .ok (.aload_n 0, 1) := by decide +kernel
theorem dX3_bindCalls_4 : decode cX3_bindCalls 4 = .ok (.getfield 38, 3) := by decide +kernel
theorem dX3_bindCalls_7 : decode cX3_bindCalls 7 = .ok (.getfield 42, 3) := by decide +kernel
theorem dX3_bindCalls_10 : decode cX3_bindCalls 10 = .ok (.if_icmp .ge 70, 3) := by decide +kernel
theorem dX3_bindCalls_13 : decode cX3_bindCalls 13 = .ok (.iload_n 1, 1) := by decide +kernel
theorem dX3_bindCalls_14 : decode cX3_bindCalls 14 = .ok (.bipush 60, 2) := by decide +kernel
theorem dX3_bindCalls_16 : decode cX3_bindCalls 16 = .ok (.imul, 1) := by decide +kernel
theorem dX3_bindCalls_17 : decode cX3_bindCalls 17 = .ok (.istore_n 2, 1) := by decide +kernel
theorem dX3_bindCalls_18 : decode cX3_bindCalls 18 = .ok (.iload_n 2, 1) := by decide +kernel
theorem dX3_bindCalls_19 : decode cX3_bindCalls 19 = .ok (.istore_n 3, 1) := by decide +kernel
theorem dX3_bindCalls_20 : decode cX3_bindCalls 20 = .ok (.iload_n 3, 1) := by decide +kernel
theorem dX3_bindCalls_21 : decode cX3_bindCalls 21 = .ok (.iload_n 2, 1) := by decide +kernel
theorem dX3_bindCalls_22 : decode cX3_bindCalls 22 = .ok (.aload_n 0, 1) := by decide +kernel
theorem dX3_bindCalls_23 : decode cX3_bindCalls 23 = .ok (.getfield 38, 3) := by decide +kernel
theorem dX3_bindCalls_26 : decode cX3_bindCalls 26 = .ok (.getfield 106, 3) := by decide +kernel
theorem dX3_bindCalls_29 : decode cX3_bindCalls 29 = .ok (.iload_n 1, 1) := by decide +kernel
theorem dX3_bindCalls_30 : decode cX3_bindCalls 30 = .ok (.iaload, 1) := by decide +kernel
theorem dX3_bindCalls_31 : decode cX3_bindCalls 31 = .ok (.iadd, 1) := by decide +kernel
theorem dX3_bindCalls_32 : decode cX3_bindCalls 32 = .ok (.if_icmp .ge 42, 3) := by decide +kernel
theorem dX3_bindCalls_35 : decode cX3_bindCalls 35 = .ok (.aload_n 0, 1) := by decide +kernel
theorem dX3_bindCalls_36 : decode cX3_bindCalls 36 = .ok (.getfield 38, 3) := by decide +kernel
theorem dX3_bindCalls_39 : decode cX3_bindCalls 39 = .ok (.getfield 207, 3) := by decide +kernel
theorem dX3_bindCalls_42 : decode cX3_bindCalls 42 = .ok (.iload_n 3, 1) := by decide +kernel
theorem dX3_bindCalls_43 : decode cX3_bindCalls 43 = .ok (.iaload, 1) := by decide +kernel
theorem dX3_bindCalls_44 : decode cX3_bindCalls 44 = .ok (.bipush 7, 2) := by decide +kernel
theorem dX3_bindCalls_46 : decode cX3_bindCalls 46 = .ok (.if_icmp .eq 17, 3) := by decide +kernel
theorem dX3_bindCalls_49 : decode cX3_bindCalls 49 = .ok (.aload_n 0, 1) := by decide +kernel
theorem dX3_bindCalls_50 : decode cX3_bindCalls 50 = .ok (.getfield 38, 3) := by decide +kernel
theorem dX3_bindCalls_53 : decode cX3_bindCalls 53 = .ok (.getfield 207, 3) := by decide +kernel
theorem dX3_bindCalls_56 : decode cX3_bindCalls 56 = .ok (.iload_n 3, 1) := by decide +kernel
theorem dX3_bindCalls_57 : decode cX3_bindCalls 57 = .ok (.iaload, 1) := by decide +kernel
theorem dX3_bindCalls_58 : decode cX3_bindCalls 58 = .ok (.bipush 8, 2) := by decide +kernel
theorem dX3_bindCalls_60 : decode cX3_bindCalls 60 = .ok (.if_icmp .ne 8, 3) := by decide +kernel
theorem dX3_bindCalls_63 : decode cX3_bindCalls 63 = .ok (.aload_n 0, 1) := by decide +kernel
theorem dX3_bindCalls_64 : decode cX3_bindCalls 64 = .ok (.iload_n 3, 1) := by decide +kernel
theorem dX3_bindCalls_65 : decode cX3_bindCalls 65 = .ok (.invokevirtual 225, 3) := by decide +kernel
theorem dX3_bindCalls_68 : decode cX3_bindCalls 68 = .ok (.iinc 3 1, 3) := by decide +kernel
theorem dX3_bindCalls_71 : decode cX3_bindCalls 71 = .ok (.goto (-51), 3) := by decide +kernel
theorem dX3_bindCalls_74 : decode cX3_bindCalls 74 = .ok (.iinc 1 1, 3) := by decide +kernel
theorem dX3_bindCalls_77 : decode cX3_bindCalls 77 = .ok (.goto (-75), 3) := by decide +kernel
theorem dX3_bindCalls_80 : decode cX3_bindCalls 80 = .ok (.return_, 1) := by decide +kernel
theorem dX3_bindCall_0 : decode cX3_bindCall 0 = .ok (.aload_n 0, 1) := by decide +kernel
theorem dX3_bindCall_1 : decode cX3_bindCall 1 = .ok (.getfield 38, 3) := by decide +kernel
theorem dX3_bindCall_4 : decode cX3_bindCall 4 = .ok (.getfield 209, 3) := by decide +kernel
theorem dX3_bindCall_7 : decode cX3_bindCall 7 = .ok (.iload_n 1, 1) := by decide +kernel
theorem dX3_bindCall_8 : decode cX3_bindCall 8 = .ok (.iaload, 1) := by decide +kernel
theorem dX3_bindCall_9 : decode cX3_bindCall 9 = .ok (.aload_n 0, 1) := by decide +kernel
theorem dX3_bindCall_10 : decode cX3_bindCall 10 = .ok (.getfield 38, 3) := by decide +kernel
theorem dX3_bindCall_13 : decode cX3_bindCall 13 = .ok (.getfield 207, 3) := by decide +kernel
theorem dX3_bindCall_16 : decode cX3_bindCall 16 = .ok (.iload_n 1, 1) := by decide +kernel
theorem dX3_bindCall_17 : decode cX3_bindCall 17 = .ok (.iaload, 1) := by decide +kernel
theorem dX3_bindCall_18 : decode cX3_bindCall 18 = .ok (.bipush 8, 2) := by decide +kernel
theorem dX3_bindCall_20 : decode cX3_bindCall 20 = .ok (.if_icmp .ne 7, 3) := by decide +kernel
theorem dX3_bindCall_23 : decode cX3_bindCall 23 = .ok (.iconst 1, 1) := by decide +kernel
theorem dX3_bindCall_24 : decode cX3_bindCall 24 = .ok (.goto 4, 3) := by decide +kernel
theorem dX3_bindCall_27 : decode cX3_bindCall 27 = .ok (.iconst 0, 1) := by decide +kernel
theorem dX3_bindCall_28 : decode cX3_bindCall 28 = .ok (.iadd, 1) := by decide +kernel
theorem dX3_bindCall_29 : decode cX3_bindCall 29 = .ok (.istore_n 2, 1) := by decide +kernel
theorem dX3_bindCall_30 : decode cX3_bindCall 30 = .ok (.aload_n 0, 1) := by decide +kernel
theorem dX3_bindCall_31 : decode cX3_bindCall 31 = .ok (.aload_n 0, 1) := by decide +kernel
theorem dX3_bindCall_32 : decode cX3_bindCall 32 = .ok (.getfield 27, 3) := by decide +kernel
theorem dX3_bindCall_35 : decode cX3_bindCall 35 = .ok (.iload_n 1, 1) := by decide +kernel
theorem dX3_bindCall_36 : decode cX3_bindCall 36 = .ok (.laload, 1) := by decide +kernel
theorem dX3_bindCall_37 : decode cX3_bindCall 37 = .ok (.invokevirtual 99, 3) := by decide +kernel
theorem dX3_bindCall_40 : decode cX3_bindCall 40 = .ok (.istore_n 3, 1) := by decide +kernel
theorem dX3_bindCall_41 : decode cX3_bindCall 41 = .ok (.iload_n 3, 1) := by decide +kernel
theorem dX3_bindCall_42 : decode cX3_bindCall 42 = .ok (.iconst (-1), 1) := by decide +kernel
theorem dX3_bindCall_43 : decode cX3_bindCall 43 = .ok (.if_icmp .eq 29, 3) := by decide +kernel
theorem dX3_bindCall_46 : decode cX3_bindCall 46 = .ok (.aload_n 0, 1) := by decide +kernel
theorem dX3_bindCall_47 : decode cX3_bindCall 47 = .ok (.getfield 38, 3) := by decide +kernel
theorem dX3_bindCall_50 : decode cX3_bindCall 50 = .ok (.getfield 103, 3) := by decide +kernel
theorem dX3_bindCall_53 : decode cX3_bindCall 53 = .ok (.iload_n 3, 1) := by decide +kernel
theorem dX3_bindCall_54 : decode cX3_bindCall 54 = .ok (.iaload, 1) := by decide +kernel
theorem dX3_bindCall_55 : decode cX3_bindCall 55 = .ok (.iload_n 2, 1) := by decide +kernel
theorem dX3_bindCall_56 : decode cX3_bindCall 56 = .ok (.if_icmp .ne 16, 3) := by decide +kernel
theorem dX3_bindCall_59 : decode cX3_bindCall 59 = .ok (.aload_n 0, 1) := by decide +kernel
theorem dX3_bindCall_60 : decode cX3_bindCall 60 = .ok (.getfield 38, 3) := by decide +kernel
theorem dX3_bindCall_63 : decode cX3_bindCall 63 = .ok (.getfield 228, 3) := by decide +kernel
theorem dX3_bindCall_66 : decode cX3_bindCall 66 = .ok (.iload_n 1, 1) := by decide +kernel
theorem dX3_bindCall_67 : decode cX3_bindCall 67 = .ok (.iload_n 3, 1) := by decide +kernel
theorem dX3_bindCall_68 : decode cX3_bindCall 68 = .ok (.iastore, 1) := by decide +kernel
theorem dX3_bindCall_69 : decode cX3_bindCall 69 = .ok (.goto 34, 3) := by decide +kernel
theorem dX3_bindCall_72 : decode cX3_bindCall 72 = .ok (.aload_n 0, 1) := by decide +kernel
theorem dX3_bindCall_73 : decode cX3_bindCall 73 = .ok (.getfield 49, 3) := by decide +kernel
theorem dX3_bindCall_76 : decode cX3_bindCall 76 = .ok (.iconst (-1), 1) := by decide +kernel
theorem dX3_bindCall_77 : decode cX3_bindCall 77 = .ok (.if_icmp .eq 16, 3) := by decide +kernel
theorem dX3_bindCall_80 : decode cX3_bindCall 80 = .ok (.aload_n 0, 1) := by decide +kernel
theorem dX3_bindCall_81 : decode cX3_bindCall 81 = .ok (.getfield 30, 3) := by decide +kernel
theorem dX3_bindCall_84 : decode cX3_bindCall 84 = .ok (.iload_n 1, 1) := by decide +kernel
theorem dX3_bindCall_85 : decode cX3_bindCall 85 = .ok (.iaload, 1) := by decide +kernel
theorem dX3_bindCall_86 : decode cX3_bindCall 86 = .ok (.aload_n 0, 1) := by decide +kernel
theorem dX3_bindCall_87 : decode cX3_bindCall 87 = .ok (.getfield 49, 3) := by decide +kernel
theorem dX3_bindCall_90 : decode cX3_bindCall 90 = .ok (.if_icmp .ge 13, 3) := by decide +kernel
theorem dX3_bindCall_93 : decode cX3_bindCall 93 = .ok (.aload_n 0, 1) := by decide +kernel
theorem dX3_bindCall_94 : decode cX3_bindCall 94 = .ok (.aload_n 0, 1) := by decide +kernel
theorem dX3_bindCall_95 : decode cX3_bindCall 95 = .ok (.getfield 30, 3) := by decide +kernel
theorem dX3_bindCall_98 : decode cX3_bindCall 98 = .ok (.iload_n 1, 1) := by decide +kernel
theorem dX3_bindCall_99 : decode cX3_bindCall 99 = .ok (.iaload, 1) := by decide +kernel
theorem dX3_bindCall_100 : decode cX3_bindCall 100 = .ok (.putfield 49, 3) := by decide +kernel
theorem dX3_bindCall_103 : decode cX3_bindCall 103 = .ok (.return_, 1) := by decide +kernel
theorem dX3_expect_0 : decode cX3_expect 0 = .ok (.aload_n 0, 1) := by decide +kernel
theorem dX3_expect_1 : decode cX3_expect 1 = .ok (.getfield 16, 3) := by decide +kernel
theorem dX3_expect_4 : decode cX3_expect 4 = .ok (.getfield 58, 3) := by decide +kernel
theorem dX3_expect_7 : decode cX3_expect 7 = .ok (.iload_n 1, 1) := by decide +kernel
theorem dX3_expect_8 : decode cX3_expect 8 = .ok (.if_icmp .ne 11, 3) := by decide +kernel
theorem dX3_expect_11 : decode cX3_expect 11 = .ok (.aload_n 0, 1) := by decide +kernel
theorem dX3_expect_12 : decode cX3_expect 12 = .ok (.iload_n 2, 1) := by decide +kernel
theorem dX3_expect_13 : decode cX3_expect 13 = .ok (.putfield 46, 3) := by decide +kernel
theorem dX3_expect_16 : decode cX3_expect 16 = .ok (.goto 7, 3) := by decide +kernel
theorem dX3_expect_19 : decode cX3_expect 19 = .ok (.aload_n 0, 1) := by decide +kernel
theorem dX3_expect_20 : decode cX3_expect 20 = .ok (.invokevirtual 76, 3) := by decide +kernel
theorem dX3_expect_23 : decode cX3_expect 23 = .ok (.return_, 1) := by decide +kernel
theorem dX3_fail_0 : decode cX3_fail 0 = .ok (.aload_n 0, 1) := by decide +kernel
theorem dX3_fail_1 : decode cX3_fail 1 = .ok (.aload_n 0, 1) := by decide +kernel
theorem dX3_fail_2 : decode cX3_fail 2 = .ok (.getfield 16, 3) := by decide +kernel
theorem dX3_fail_5 : decode cX3_fail 5 = .ok (.getfield 222, 3) := by decide +kernel
theorem dX3_fail_8 : decode cX3_fail 8 = .ok (.putfield 49, 3) := by decide +kernel
theorem dX3_fail_11 : decode cX3_fail 11 = .ok (.return_, 1) := by decide +kernel
theorem dX4_init_0 : decode cX4_init 0 = .ok (.aload_n 0, 1) := by decide +kernel
theorem dX4_init_1 : decode cX4_init 1 = .ok (.invokespecial 7, 3) := by decide +kernel
theorem dX4_init_4 : decode cX4_init 4 = .ok (.aload_n 0, 1) := by decide +kernel
theorem dX4_init_5 : decode cX4_init 5 = .ok (.new 13, 3) := by decide +kernel
theorem dX4_init_8 : decode cX4_init 8 = .ok (.dup, 1) := by decide +kernel
theorem dX4_init_9 : decode cX4_init 9 = .ok (.invokespecial 15, 3) := by decide +kernel
theorem dX4_init_12 : decode cX4_init 12 = .ok (.putfield 16, 3) := by decide +kernel
theorem dX4_init_15 : decode cX4_init 15 = .ok (.aload_n 0, 1) := by decide +kernel
theorem dX4_init_16 : decode cX4_init 16 = .ok (.sipush 18000, 3) := by decide +kernel
theorem dX4_init_19 : decode cX4_init 19 = .ok (.newarray .int, 2) := by decide +kernel
theorem dX4_init_21 : decode cX4_init 21 = .ok (.putfield 22, 3) := by decide +kernel
theorem dX4_init_24 : decode cX4_init 24 = .ok (.aload_n 0, 1) := by decide +kernel
theorem dX4_init_25 : decode cX4_init 25 = .ok (.sipush 18000, 3) := by decide +kernel
theorem dX4_init_28 : decode cX4_init 28 = .ok (.newarray .int, 2) := by decide +kernel
theorem dX4_init_30 : decode cX4_init 30 = .ok (.putfield 26, 3) := by decide +kernel
theorem dX4_init_33 : decode cX4_init 33 = .ok (.aload_n 0, 1) := by decide +kernel
theorem dX4_init_34 : decode cX4_init 34 = .ok (.sipush 18000, 3) := by decide +kernel
theorem dX4_init_37 : decode cX4_init 37 = .ok (.newarray .int, 2) := by decide +kernel
theorem dX4_init_39 : decode cX4_init 39 = .ok (.putfield 29, 3) := by decide +kernel
theorem dX4_init_42 : decode cX4_init 42 = .ok (.aload_n 0, 1) := by decide +kernel
theorem dX4_init_43 : decode cX4_init 43 = .ok (.sipush 18000, 3) := by decide +kernel
theorem dX4_init_46 : decode cX4_init 46 = .ok (.newarray .int, 2) := by decide +kernel
theorem dX4_init_48 : decode cX4_init 48 = .ok (.putfield 32, 3) := by decide +kernel
theorem dX4_init_51 : decode cX4_init 51 = .ok (.aload_n 0, 1) := by decide +kernel
theorem dX4_init_52 : decode cX4_init 52 = .ok (.sipush 18000, 3) := by decide +kernel
theorem dX4_init_55 : decode cX4_init 55 = .ok (.newarray .int, 2) := by decide +kernel
theorem dX4_init_57 : decode cX4_init 57 = .ok (.putfield 35, 3) := by decide +kernel
theorem dX4_init_60 : decode cX4_init 60 = .ok (.return_, 1) := by decide +kernel
theorem dX4_emptyFor_0 : decode cX4_emptyFor 0 = .ok (.aload_n 0, 1) := by decide +kernel
theorem dX4_emptyFor_1 : decode cX4_emptyFor 1 = .ok (.getfield 16, 3) := by decide +kernel
theorem dX4_emptyFor_4 : decode cX4_emptyFor 4 = .ok (.iload_n 1, 1) := by decide +kernel
theorem dX4_emptyFor_5 : decode cX4_emptyFor 5 = .ok (.invokevirtual 38, 3) := by decide +kernel
theorem dX4_emptyFor_8 : decode cX4_emptyFor 8 = .ok (.aload_n 0, 1) := by decide +kernel
theorem dX4_emptyFor_9 : decode cX4_emptyFor 9 = .ok (.iconst 0, 1) := by decide +kernel
theorem dX4_emptyFor_10 : decode cX4_emptyFor 10 = .ok (.putfield 42, 3) := by decide +kernel
theorem dX4_emptyFor_13 : decode cX4_emptyFor 13 = .ok (.return_, 1) := by decide +kernel
theorem dX4_forget_0 : decode cX4_forget 0 = .ok (.iload_n 1, 1) := by decide +kernel
theorem dX4_forget_1 : decode cX4_forget 1 = .ok (.istore_n 3, 1) := by decide +kernel
theorem dX4_forget_2 : decode cX4_forget 2 = .ok (.iload_n 3, 1) := by decide +kernel
theorem dX4_forget_3 : decode cX4_forget 3 = .ok (.iload_n 1, 1) := by decide +kernel
theorem dX4_forget_4 : decode cX4_forget 4 = .ok (.iload_n 2, 1) := by decide +kernel
theorem dX4_forget_5 : decode cX4_forget 5 = .ok (.iadd, 1) := by decide +kernel
theorem dX4_forget_6 : decode cX4_forget 6 = .ok (.if_icmp .ge 16, 3) := by decide +kernel
theorem dX4_forget_9 : decode cX4_forget 9 = .ok (.aload_n 0, 1) := by decide +kernel
theorem dX4_forget_10 : decode cX4_forget 10 = .ok (.getfield 22, 3) := by decide +kernel
theorem dX4_forget_13 : decode cX4_forget 13 = .ok (.iload_n 3, 1) := by decide +kernel
theorem dX4_forget_14 : decode cX4_forget 14 = .ok (.iconst 0, 1) := by decide +kernel
theorem dX4_forget_15 : decode cX4_forget 15 = .ok (.iastore, 1) := by decide +kernel
theorem dX4_forget_16 : decode cX4_forget 16 = .ok (.iinc 3 1, 3) := by decide +kernel
theorem dX4_forget_19 : decode cX4_forget 19 = .ok (.goto (-17), 3) := by decide +kernel
theorem dX4_forget_22 : decode cX4_forget 22 = .ok (.return_, 1) := by decide +kernel
theorem dX4_reach_0 : decode cX4_reach 0 = .ok (.aload_n 0, 1) := by decide +kernel
theorem dX4_reach_1 : decode cX4_reach 1 = .ok (.getfield 22, 3) := by decide +kernel
theorem dX4_reach_4 : decode cX4_reach 4 = .ok (.iload_n 1, 1) := by decide +kernel
theorem dX4_reach_5 : decode cX4_reach 5 = .ok (.iaload, 1) := by decide +kernel
theorem dX4_reach_6 : decode cX4_reach 6 = .ok (.ifCond .ne 25, 3) := by decide +kernel
theorem dX4_reach_9 : decode cX4_reach 9 = .ok (.aload_n 0, 1) := by decide +kernel
theorem dX4_reach_10 : decode cX4_reach 10 = .ok (.getfield 22, 3) := by decide +kernel
theorem dX4_reach_13 : decode cX4_reach 13 = .ok (.iload_n 1, 1) := by decide +kernel
theorem dX4_reach_14 : decode cX4_reach 14 = .ok (.iconst 1, 1) := by decide +kernel
theorem dX4_reach_15 : decode cX4_reach 15 = .ok (.iastore, 1) := by decide +kernel
theorem dX4_reach_16 : decode cX4_reach 16 = .ok (.aload_n 0, 1) := by decide +kernel
theorem dX4_reach_17 : decode cX4_reach 17 = .ok (.getfield 32, 3) := by decide +kernel
theorem dX4_reach_20 : decode cX4_reach 20 = .ok (.iload_n 1, 1) := by decide +kernel
theorem dX4_reach_21 : decode cX4_reach 21 = .ok (.iconst (-1), 1) := by decide +kernel
theorem dX4_reach_22 : decode cX4_reach 22 = .ok (.iastore, 1) := by decide +kernel
theorem dX4_reach_23 : decode cX4_reach 23 = .ok (.aload_n 0, 1) := by decide +kernel
theorem dX4_reach_24 : decode cX4_reach 24 = .ok (.getfield 16, 3) := by decide +kernel
theorem dX4_reach_27 : decode cX4_reach 27 = .ok (.iload_n 1, 1) := by decide +kernel
theorem dX4_reach_28 : decode cX4_reach 28 = .ok (.invokevirtual 46, 3) := by decide +kernel
theorem dX4_reach_31 : decode cX4_reach 31 = .ok (.return_, 1) := by decide +kernel
theorem dX4_see_0 : decode cX4_see 0 = .ok (.aload_n 0, 1) := by decide +kernel
theorem dX4_see_1 : decode cX4_see 1 = .ok (.getfield 22, 3) := by decide +kernel
theorem dX4_see_4 : decode cX4_see 4 = .ok (.iload_n 1, 1) := by decide +kernel
theorem dX4_see_5 : decode cX4_see 5 = .ok (.iaload, 1) := by decide +kernel
theorem dX4_see_6 : decode cX4_see 6 = .ok (.iconst 1, 1) := by decide +kernel
theorem dX4_see_7 : decode cX4_see 7 = .ok (.if_icmp .ne 7, 3) := by decide +kernel
theorem dX4_see_10 : decode cX4_see 10 = .ok (.iconst 1, 1) := by decide +kernel
theorem dX4_see_11 : decode cX4_see 11 = .ok (.goto 4, 3) := by decide +kernel
theorem dX4_see_14 : decode cX4_see 14 = .ok (.iconst 0, 1) := by decide +kernel
theorem dX4_see_15 : decode cX4_see 15 = .ok (.istore_n 2, 1) := by decide +kernel
theorem dX4_see_16 : decode cX4_see 16 = .ok (.aload_n 0, 1) := by decide +kernel
theorem dX4_see_17 : decode cX4_see 17 = .ok (.getfield 22, 3) := by decide +kernel
theorem dX4_see_20 : decode cX4_see 20 = .ok (.iload_n 1, 1) := by decide +kernel
theorem dX4_see_21 : decode cX4_see 21 = .ok (.iconst 2, 1) := by decide +kernel
theorem dX4_see_22 : decode cX4_see 22 = .ok (.iastore, 1) := by decide +kernel
theorem dX4_see_23 : decode cX4_see 23 = .ok (.iload_n 2, 1) := by decide +kernel
theorem dX4_see_24 : decode cX4_see 24 = .ok (.ireturn, 1) := by decide +kernel
theorem dX4_isKnown_0 : decode cX4_isKnown 0 = .ok (.aload_n 0, 1) := by decide +kernel
theorem dX4_isKnown_1 : decode cX4_isKnown 1 = .ok (.getfield 22, 3) := by decide +kernel
theorem dX4_isKnown_4 : decode cX4_isKnown 4 = .ok (.iload_n 1, 1) := by decide +kernel
theorem dX4_isKnown_5 : decode cX4_isKnown 5 = .ok (.iaload, 1) := by decide +kernel
theorem dX4_isKnown_6 : decode cX4_isKnown 6 = .ok (.iconst 3, 1) := by decide +kernel
theorem dX4_isKnown_7 : decode cX4_isKnown 7 = .ok (.if_icmp .ne 7, 3) := by decide +kernel
theorem dX4_isKnown_10 : decode cX4_isKnown 10 = .ok (.iconst 1, 1) := by decide +kernel
theorem dX4_isKnown_11 : decode cX4_isKnown 11 = .ok (.goto 4, 3) := by decide +kernel
theorem dX4_isKnown_14 : decode cX4_isKnown 14 = .ok (.iconst 0, 1) := by decide +kernel
theorem dX4_isKnown_15 : decode cX4_isKnown 15 = .ok (.ireturn, 1) := by decide +kernel
theorem dX4_numberAt_0 : decode cX4_numberAt 0 = .ok (.aload_n 0, 1) := by decide +kernel
theorem dX4_numberAt_1 : decode cX4_numberAt 1 = .ok (.getfield 26, 3) := by decide +kernel
theorem dX4_numberAt_4 : decode cX4_numberAt 4 = .ok (.iload_n 1, 1) := by decide +kernel
theorem dX4_numberAt_5 : decode cX4_numberAt 5 = .ok (.iaload, 1) := by decide +kernel
theorem dX4_numberAt_6 : decode cX4_numberAt 6 = .ok (.ireturn, 1) := by decide +kernel
theorem dX4_arrayAt_0 : decode cX4_arrayAt 0 = .ok (.aload_n 0, 1) := by decide +kernel
theorem dX4_arrayAt_1 : decode cX4_arrayAt 1 = .ok (.getfield 29, 3) := by decide +kernel
theorem dX4_arrayAt_4 : decode cX4_arrayAt 4 = .ok (.iload_n 1, 1) := by decide +kernel
theorem dX4_arrayAt_5 : decode cX4_arrayAt 5 = .ok (.iaload, 1) := by decide +kernel
theorem dX4_arrayAt_6 : decode cX4_arrayAt 6 = .ok (.ireturn, 1) := by decide +kernel
theorem dX4_settle_0 : decode cX4_settle 0 = .ok (.aload_n 0, 1) := by decide +kernel
theorem dX4_settle_1 : decode cX4_settle 1 = .ok (.getfield 22, 3) := by decide +kernel
theorem dX4_settle_4 : decode cX4_settle 4 = .ok (.iload_n 1, 1) := by decide +kernel
theorem dX4_settle_5 : decode cX4_settle 5 = .ok (.iconst 3, 1) := by decide +kernel
theorem dX4_settle_6 : decode cX4_settle 6 = .ok (.iastore, 1) := by decide +kernel
theorem dX4_settle_7 : decode cX4_settle 7 = .ok (.aload_n 0, 1) := by decide +kernel
theorem dX4_settle_8 : decode cX4_settle 8 = .ok (.getfield 26, 3) := by decide +kernel
theorem dX4_settle_11 : decode cX4_settle 11 = .ok (.iload_n 1, 1) := by decide +kernel
theorem dX4_settle_12 : decode cX4_settle 12 = .ok (.iload_n 2, 1) := by decide +kernel
theorem dX4_settle_13 : decode cX4_settle 13 = .ok (.iastore, 1) := by decide +kernel
theorem dX4_settle_14 : decode cX4_settle 14 = .ok (.aload_n 0, 1) := by decide +kernel
theorem dX4_settle_15 : decode cX4_settle 15 = .ok (.getfield 29, 3) := by decide +kernel
theorem dX4_settle_18 : decode cX4_settle 18 = .ok (.iload_n 1, 1) := by decide +kernel
theorem dX4_settle_19 : decode cX4_settle 19 = .ok (.iload_n 3, 1) := by decide +kernel
theorem dX4_settle_20 : decode cX4_settle 20 = .ok (.iastore, 1) := by decide +kernel
theorem dX4_settle_21 : decode cX4_settle 21 = .ok (.aload_n 0, 1) := by decide +kernel
theorem dX4_settle_22 : decode cX4_settle 22 = .ok (.dup, 1) := by decide +kernel
theorem dX4_settle_23 : decode cX4_settle 23 = .ok (.getfield 42, 3) := by decide +kernel
theorem dX4_settle_26 : decode cX4_settle 26 = .ok (.iconst 1, 1) := by decide +kernel
theorem dX4_settle_27 : decode cX4_settle 27 = .ok (.iadd, 1) := by decide +kernel
theorem dX4_settle_28 : decode cX4_settle 28 = .ok (.putfield 42, 3) := by decide +kernel
theorem dX4_settle_31 : decode cX4_settle 31 = .ok (.aload_n 0, 1) := by decide +kernel
theorem dX4_settle_32 : decode cX4_settle 32 = .ok (.getfield 32, 3) := by decide +kernel
theorem dX4_settle_35 : decode cX4_settle 35 = .ok (.iload_n 1, 1) := by decide +kernel
theorem dX4_settle_36 : decode cX4_settle 36 = .ok (.iaload, 1) := by decide +kernel
theorem dX4_settle_37 : decode cX4_settle 37 = .ok (.istore 4, 2) := by decide +kernel
theorem dX4_settle_39 : decode cX4_settle 39 = .ok (.iconst 0, 1) := by decide +kernel
theorem dX4_settle_40 : decode cX4_settle 40 = .ok (.istore 5, 2) := by decide +kernel
theorem dX4_settle_42 : decode cX4_settle 42 = .ok (.iload 5, 2) := by decide +kernel
theorem dX4_settle_44 : decode cX4_settle 44 = .ok (.sipush 18000, 3) := by decide +kernel
theorem dX4_settle_47 : decode cX4_settle 47 = .ok (.if_icmp .ge 33, 3) := by decide +kernel
theorem dX4_settle_50 : decode cX4_settle 50 = .ok (.iload 4, 2) := by decide +kernel
theorem dX4_settle_52 : decode cX4_settle 52 = .ok (.iconst (-1), 1) := by decide +kernel
theorem dX4_settle_53 : decode cX4_settle 53 = .ok (.if_icmp .eq 27, 3) := by decide +kernel
theorem dX4_settle_56 : decode cX4_settle 56 = .ok (.aload_n 0, 1) := by decide +kernel
theorem dX4_settle_57 : decode cX4_settle 57 = .ok (.getfield 16, 3) := by decide +kernel
theorem dX4_settle_60 : decode cX4_settle 60 = .ok (.iload 4, 2) := by decide +kernel
theorem dX4_settle_62 : decode cX4_settle 62 = .ok (.invokevirtual 46, 3) := by decide +kernel
theorem dX4_settle_65 : decode cX4_settle 65 = .ok (.aload_n 0, 1) := by decide +kernel
theorem dX4_settle_66 : decode cX4_settle 66 = .ok (.getfield 35, 3) := by decide +kernel
theorem dX4_settle_69 : decode cX4_settle 69 = .ok (.iload 4, 2) := by decide +kernel
theorem dX4_settle_71 : decode cX4_settle 71 = .ok (.iaload, 1) := by decide +kernel
theorem dX4_settle_72 : decode cX4_settle 72 = .ok (.istore 4, 2) := by decide +kernel
theorem dX4_settle_74 : decode cX4_settle 74 = .ok (.iinc 5 1, 3) := by decide +kernel
theorem dX4_settle_77 : decode cX4_settle 77 = .ok (.goto (-35), 3) := by decide +kernel
theorem dX4_settle_80 : decode cX4_settle 80 = .ok (.return_, 1) := by decide +kernel
theorem dX4_has_0 : decode cX4_has 0 = .ok (.aload_n 0, 1) := by decide +kernel
theorem dX4_has_1 : decode cX4_has 1 = .ok (.getfield 22, 3) := by decide +kernel
theorem dX4_has_4 : decode cX4_has 4 = .ok (.iload_n 2, 1) := by decide +kernel
theorem dX4_has_5 : decode cX4_has 5 = .ok (.iaload, 1) := by decide +kernel
theorem dX4_has_6 : decode cX4_has 6 = .ok (.iconst 3, 1) := by decide +kernel
theorem dX4_has_7 : decode cX4_has 7 = .ok (.if_icmp .ne 5, 3) := by decide +kernel
theorem dX4_has_10 : decode cX4_has 10 = .ok (.iconst 1, 1) := by decide +kernel
theorem dX4_has_11 : decode cX4_has 11 = .ok (.ireturn, 1) := by decide +kernel
theorem dX4_has_12 : decode cX4_has 12 = .ok (.aload_n 0, 1) := by decide +kernel
theorem dX4_has_13 : decode cX4_has 13 = .ok (.getfield 35, 3) := by decide +kernel
theorem dX4_has_16 : decode cX4_has 16 = .ok (.iload_n 1, 1) := by decide +kernel
theorem dX4_has_17 : decode cX4_has 17 = .ok (.aload_n 0, 1) := by decide +kernel
theorem dX4_has_18 : decode cX4_has 18 = .ok (.getfield 32, 3) := by decide +kernel
theorem dX4_has_21 : decode cX4_has 21 = .ok (.iload_n 2, 1) := by decide +kernel
theorem dX4_has_22 : decode cX4_has 22 = .ok (.iaload, 1) := by decide +kernel
theorem dX4_has_23 : decode cX4_has 23 = .ok (.iastore, 1) := by decide +kernel
theorem dX4_has_24 : decode cX4_has 24 = .ok (.aload_n 0, 1) := by decide +kernel
theorem dX4_has_25 : decode cX4_has 25 = .ok (.getfield 32, 3) := by decide +kernel
theorem dX4_has_28 : decode cX4_has 28 = .ok (.iload_n 2, 1) := by decide +kernel
theorem dX4_has_29 : decode cX4_has 29 = .ok (.iload_n 1, 1) := by decide +kernel
theorem dX4_has_30 : decode cX4_has 30 = .ok (.iastore, 1) := by decide +kernel
theorem dX4_has_31 : decode cX4_has 31 = .ok (.iconst 0, 1) := by decide +kernel
theorem dX4_has_32 : decode cX4_has 32 = .ok (.ireturn, 1) := by decide +kernel
theorem dX4_follow_0 : decode cX4_follow 0 = .ok (.aload_n 0, 1) := by decide +kernel
theorem dX4_follow_1 : decode cX4_follow 1 = .ok (.iload_n 1, 1) := by decide +kernel
theorem dX4_follow_2 : decode cX4_follow 2 = .ok (.iload_n 2, 1) := by decide +kernel
theorem dX4_follow_3 : decode cX4_follow 3 = .ok (.invokevirtual 49, 3) := by decide +kernel
theorem dX4_follow_6 : decode cX4_follow 6 = .ok (.ifCond .eq 20, 3) := by decide +kernel
theorem dX4_follow_9 : decode cX4_follow 9 = .ok (.aload_n 0, 1) := by decide +kernel
theorem dX4_follow_10 : decode cX4_follow 10 = .ok (.iload_n 1, 1) := by decide +kernel
theorem dX4_follow_11 : decode cX4_follow 11 = .ok (.aload_n 0, 1) := by decide +kernel
theorem dX4_follow_12 : decode cX4_follow 12 = .ok (.getfield 26, 3) := by decide +kernel
theorem dX4_follow_15 : decode cX4_follow 15 = .ok (.iload_n 2, 1) := by decide +kernel
theorem dX4_follow_16 : decode cX4_follow 16 = .ok (.iaload, 1) := by decide +kernel
theorem dX4_follow_17 : decode cX4_follow 17 = .ok (.aload_n 0, 1) := by decide +kernel
theorem dX4_follow_18 : decode cX4_follow 18 = .ok (.getfield 29, 3) := by decide +kernel
theorem dX4_follow_21 : decode cX4_follow 21 = .ok (.iload_n 2, 1) := by decide +kernel
theorem dX4_follow_22 : decode cX4_follow 22 = .ok (.iaload, 1) := by decide +kernel
theorem dX4_follow_23 : decode cX4_follow 23 = .ok (.invokevirtual 53, 3) := by decide +kernel
theorem dX4_follow_26 : decode cX4_follow 26 = .ok (.return_, 1) := by decide +kernel
theorem dX5_init_0 : decode cX5_init 0 = .ok (.aload_n 0, 1) := by decide +kernel
theorem dX5_init_1 : decode cX5_init 1 = .ok (.invokespecial 1, 3) := by decide +kernel
theorem dX5_init_4 : decode cX5_init 4 = .ok (.aload_n 0, 1) := by decide +kernel
theorem dX5_init_5 : decode cX5_init 5 = .ok (.sipush 1500, 3) := by decide +kernel
theorem dX5_init_8 : decode cX5_init 8 = .ok (.newarray .int, 2) := by decide +kernel
theorem dX5_init_10 : decode cX5_init 10 = .ok (.putfield 9, 3) := by decide +kernel
theorem dX5_init_13 : decode cX5_init 13 = .ok (.return_, 1) := by decide +kernel
theorem dX5_room_0 : decode cX5_room 0 = .ok (.sipush 1500, 3) := by decide +kernel
theorem dX5_room_3 : decode cX5_room 3 = .ok (.aload_n 0, 1) := by decide +kernel
theorem dX5_room_4 : decode cX5_room 4 = .ok (.getfield 13, 3) := by decide +kernel
theorem dX5_room_7 : decode cX5_room 7 = .ok (.isub, 1) := by decide +kernel
theorem dX5_room_8 : decode cX5_room 8 = .ok (.ireturn, 1) := by decide +kernel
theorem dX5_add_0 : decode cX5_add 0 = .ok (.aload_n 0, 1) := by decide +kernel
theorem dX5_add_1 : decode cX5_add 1 = .ok (.getfield 13, 3) := by decide +kernel
theorem dX5_add_4 : decode cX5_add 4 = .ok (.sipush 1500, 3) := by decide +kernel
theorem dX5_add_7 : decode cX5_add 7 = .ok (.if_icmp .ge 23, 3) := by decide +kernel
theorem dX5_add_10 : decode cX5_add 10 = .ok (.aload_n 0, 1) := by decide +kernel
theorem dX5_add_11 : decode cX5_add 11 = .ok (.getfield 9, 3) := by decide +kernel
theorem dX5_add_14 : decode cX5_add 14 = .ok (.aload_n 0, 1) := by decide +kernel
theorem dX5_add_15 : decode cX5_add 15 = .ok (.getfield 13, 3) := by decide +kernel
theorem dX5_add_18 : decode cX5_add 18 = .ok (.iload_n 1, 1) := by decide +kernel
theorem dX5_add_19 : decode cX5_add 19 = .ok (.iastore, 1) := by decide +kernel
theorem dX5_add_20 : decode cX5_add 20 = .ok (.aload_n 0, 1) := by decide +kernel
theorem dX5_add_21 : decode cX5_add 21 = .ok (.dup, 1) := by decide +kernel
theorem dX5_add_22 : decode cX5_add 22 = .ok (.getfield 13, 3) := by decide +kernel
theorem dX5_add_25 : decode cX5_add 25 = .ok (.iconst 1, 1) := by decide +kernel
theorem dX5_add_26 : decode cX5_add 26 = .ok (.iadd, 1) := by decide +kernel
theorem dX5_add_27 : decode cX5_add 27 = .ok (.putfield 13, 3) := by decide +kernel
theorem dX5_add_30 : decode cX5_add 30 = .ok (.return_, 1) := by decide +kernel
theorem dX5_makeEmpty_0 : decode cX5_makeEmpty 0 = .ok (.aload_n 0, 1) := by decide +kernel
theorem dX5_makeEmpty_1 : decode cX5_makeEmpty 1 = .ok (.iconst 0, 1) := by decide +kernel
theorem dX5_makeEmpty_2 : decode cX5_makeEmpty 2 = .ok (.putfield 13, 3) := by decide +kernel
theorem dX5_makeEmpty_5 : decode cX5_makeEmpty 5 = .ok (.return_, 1) := by decide +kernel
theorem dX5_goToFirst_0 : decode cX5_goToFirst 0 = .ok (.aload_n 0, 1) := by decide +kernel
theorem dX5_goToFirst_1 : decode cX5_goToFirst 1 = .ok (.iconst 0, 1) := by decide +kernel
theorem dX5_goToFirst_2 : decode cX5_goToFirst 2 = .ok (.putfield 17, 3) := by decide +kernel
theorem dX5_goToFirst_5 : decode cX5_goToFirst 5 = .ok (.aload_n 0, 1) := by decide +kernel
theorem dX5_goToFirst_6 : decode cX5_goToFirst 6 = .ok (.invokevirtual 20, 3) := by decide +kernel
theorem dX5_goToFirst_9 : decode cX5_goToFirst 9 = .ok (.return_, 1) := by decide +kernel
theorem dX5_advance_0 : decode cX5_advance 0 = .ok (.aload_n 0, 1) := by decide +kernel
theorem dX5_advance_1 : decode cX5_advance 1 = .ok (.getfield 17, 3) := by decide +kernel
theorem dX5_advance_4 : decode cX5_advance 4 = .ok (.aload_n 0, 1) := by decide +kernel
theorem dX5_advance_5 : decode cX5_advance 5 = .ok (.getfield 13, 3) := by decide +kernel
theorem dX5_advance_8 : decode cX5_advance 8 = .ok (.if_icmp .ge 31, 3) := by decide +kernel
theorem dX5_advance_11 : decode cX5_advance 11 = .ok (.aload_n 0, 1) := by decide +kernel
theorem dX5_advance_12 : decode cX5_advance 12 = .ok (.getfield 9, 3) := by decide +kernel
theorem dX5_advance_15 : decode cX5_advance 15 = .ok (.aload_n 0, 1) := by decide +kernel
theorem dX5_advance_16 : decode cX5_advance 16 = .ok (.getfield 17, 3) := by decide +kernel
theorem dX5_advance_19 : decode cX5_advance 19 = .ok (.iaload, 1) := by decide +kernel
theorem dX5_advance_20 : decode cX5_advance 20 = .ok (.invokestatic 23, 3) := by decide +kernel
theorem dX5_advance_23 : decode cX5_advance 23 = .ok (.ifCond .eq 16, 3) := by decide +kernel
theorem dX5_advance_26 : decode cX5_advance 26 = .ok (.aload_n 0, 1) := by decide +kernel
theorem dX5_advance_27 : decode cX5_advance 27 = .ok (.dup, 1) := by decide +kernel
theorem dX5_advance_28 : decode cX5_advance 28 = .ok (.getfield 17, 3) := by decide +kernel
theorem dX5_advance_31 : decode cX5_advance 31 = .ok (.iconst 1, 1) := by decide +kernel
theorem dX5_advance_32 : decode cX5_advance 32 = .ok (.iadd, 1) := by decide +kernel
theorem dX5_advance_33 : decode cX5_advance 33 = .ok (.putfield 17, 3) := by decide +kernel
theorem dX5_advance_36 : decode cX5_advance 36 = .ok (.goto (-36), 3) := by decide +kernel
theorem dX5_advance_39 : decode cX5_advance 39 = .ok (.aload_n 0, 1) := by decide +kernel
theorem dX5_advance_40 : decode cX5_advance 40 = .ok (.aload_n 0, 1) := by decide +kernel
theorem dX5_advance_41 : decode cX5_advance 41 = .ok (.getfield 17, 3) := by decide +kernel
theorem dX5_advance_44 : decode cX5_advance 44 = .ok (.putfield 27, 3) := by decide +kernel
theorem dX5_advance_47 : decode cX5_advance 47 = .ok (.aload_n 0, 1) := by decide +kernel
theorem dX5_advance_48 : decode cX5_advance 48 = .ok (.getfield 17, 3) := by decide +kernel
theorem dX5_advance_51 : decode cX5_advance 51 = .ok (.aload_n 0, 1) := by decide +kernel
theorem dX5_advance_52 : decode cX5_advance 52 = .ok (.getfield 13, 3) := by decide +kernel
theorem dX5_advance_55 : decode cX5_advance 55 = .ok (.if_icmp .lt 11, 3) := by decide +kernel
theorem dX5_advance_58 : decode cX5_advance 58 = .ok (.aload_n 0, 1) := by decide +kernel
theorem dX5_advance_59 : decode cX5_advance 59 = .ok (.iconst 0, 1) := by decide +kernel
theorem dX5_advance_60 : decode cX5_advance 60 = .ok (.putfield 30, 3) := by decide +kernel
theorem dX5_advance_63 : decode cX5_advance 63 = .ok (.goto 85, 3) := by decide +kernel
theorem dX5_advance_66 : decode cX5_advance 66 = .ok (.aload_n 0, 1) := by decide +kernel
theorem dX5_advance_67 : decode cX5_advance 67 = .ok (.getfield 9, 3) := by decide +kernel
theorem dX5_advance_70 : decode cX5_advance 70 = .ok (.aload_n 0, 1) := by decide +kernel
theorem dX5_advance_71 : decode cX5_advance 71 = .ok (.getfield 17, 3) := by decide +kernel
theorem dX5_advance_74 : decode cX5_advance 74 = .ok (.iaload, 1) := by decide +kernel
theorem dX5_advance_75 : decode cX5_advance 75 = .ok (.invokestatic 33, 3) := by decide +kernel
theorem dX5_advance_78 : decode cX5_advance 78 = .ok (.ifCond .ne 18, 3) := by decide +kernel
theorem dX5_advance_81 : decode cX5_advance 81 = .ok (.aload_n 0, 1) := by decide +kernel
theorem dX5_advance_82 : decode cX5_advance 82 = .ok (.getfield 9, 3) := by decide +kernel
theorem dX5_advance_85 : decode cX5_advance 85 = .ok (.aload_n 0, 1) := by decide +kernel
theorem dX5_advance_86 : decode cX5_advance 86 = .ok (.getfield 17, 3) := by decide +kernel
theorem dX5_advance_89 : decode cX5_advance 89 = .ok (.iaload, 1) := by decide +kernel
theorem dX5_advance_90 : decode cX5_advance 90 = .ok (.invokestatic 36, 3) := by decide +kernel
theorem dX5_advance_93 : decode cX5_advance 93 = .ok (.ifCond .eq 10, 3) := by decide +kernel
theorem dX5_advance_96 : decode cX5_advance 96 = .ok (.aload_n 0, 1) := by decide +kernel
theorem dX5_advance_97 : decode cX5_advance 97 = .ok (.invokevirtual 39, 3) := by decide +kernel
theorem dX5_advance_100 : decode cX5_advance 100 = .ok (.goto 48, 3) := by decide +kernel
theorem dX5_advance_103 : decode cX5_advance 103 = .ok (.aload_n 0, 1) := by decide +kernel
theorem dX5_advance_104 : decode cX5_advance 104 = .ok (.ldc 42, 2) := by decide +kernel
theorem dX5_advance_106 : decode cX5_advance 106 = .ok (.aload_n 0, 1) := by decide +kernel
theorem dX5_advance_107 : decode cX5_advance 107 = .ok (.getfield 9, 3) := by decide +kernel
theorem dX5_advance_110 : decode cX5_advance 110 = .ok (.aload_n 0, 1) := by decide +kernel
theorem dX5_advance_111 : decode cX5_advance 111 = .ok (.getfield 17, 3) := by decide +kernel
theorem dX5_advance_114 : decode cX5_advance 114 = .ok (.iaload, 1) := by decide +kernel
theorem dX5_advance_115 : decode cX5_advance 115 = .ok (.i2c, 1) := by decide +kernel
theorem dX5_advance_116 : decode cX5_advance 116 = .ok (.invokevirtual 44, 3) := by decide +kernel
theorem dX5_advance_119 : decode cX5_advance 119 = .ok (.ifCond .lt 15, 3) := by decide +kernel
theorem dX5_advance_122 : decode cX5_advance 122 = .ok (.aload_n 0, 1) := by decide +kernel
theorem dX5_advance_123 : decode cX5_advance 123 = .ok (.getfield 9, 3) := by decide +kernel
theorem dX5_advance_126 : decode cX5_advance 126 = .ok (.aload_n 0, 1) := by decide +kernel
theorem dX5_advance_127 : decode cX5_advance 127 = .ok (.getfield 17, 3) := by decide +kernel
theorem dX5_advance_130 : decode cX5_advance 130 = .ok (.iaload, 1) := by decide +kernel
theorem dX5_advance_131 : decode cX5_advance 131 = .ok (.goto 4, 3) := by decide +kernel
theorem dX5_advance_134 : decode cX5_advance 134 = .ok (.iconst 1, 1) := by decide +kernel
theorem dX5_advance_135 : decode cX5_advance 135 = .ok (.putfield 30, 3) := by decide +kernel
theorem dX5_advance_138 : decode cX5_advance 138 = .ok (.aload_n 0, 1) := by decide +kernel
theorem dX5_advance_139 : decode cX5_advance 139 = .ok (.dup, 1) := by decide +kernel
theorem dX5_advance_140 : decode cX5_advance 140 = .ok (.getfield 17, 3) := by decide +kernel
theorem dX5_advance_143 : decode cX5_advance 143 = .ok (.iconst 1, 1) := by decide +kernel
theorem dX5_advance_144 : decode cX5_advance 144 = .ok (.iadd, 1) := by decide +kernel
theorem dX5_advance_145 : decode cX5_advance 145 = .ok (.putfield 17, 3) := by decide +kernel
theorem dX5_advance_148 : decode cX5_advance 148 = .ok (.return_, 1) := by decide +kernel
theorem dX5_isParenthesisNext_0 : decode cX5_isParenthesisNext 0 = .ok (.aload_n 0, 1) := by decide +kernel
theorem dX5_isParenthesisNext_1 : decode cX5_isParenthesisNext 1 = .ok (.getfield 17, 3) := by decide +kernel
theorem dX5_isParenthesisNext_4 : decode cX5_isParenthesisNext 4 = .ok (.istore_n 1, 1) := by decide +kernel
theorem dX5_isParenthesisNext_5 : decode cX5_isParenthesisNext 5 = .ok (.iload_n 1, 1) := by decide +kernel
theorem dX5_isParenthesisNext_6 : decode cX5_isParenthesisNext 6 = .ok (.aload_n 0, 1) := by decide +kernel
theorem dX5_isParenthesisNext_7 : decode cX5_isParenthesisNext 7 = .ok (.getfield 13, 3) := by decide +kernel
theorem dX5_isParenthesisNext_10 : decode cX5_isParenthesisNext 10 = .ok (.if_icmp .ge 21, 3) := by decide +kernel
theorem dX5_isParenthesisNext_13 : decode cX5_isParenthesisNext 13 = .ok (.aload_n 0, 1) := by decide +kernel
theorem dX5_isParenthesisNext_14 : decode cX5_isParenthesisNext 14 = .ok (.getfield 9, 3) := by decide +kernel
theorem dX5_isParenthesisNext_17 : decode cX5_isParenthesisNext 17 = .ok (.iload_n 1, 1) := by decide +kernel
theorem dX5_isParenthesisNext_18 : decode cX5_isParenthesisNext 18 = .ok (.iaload, 1) := by decide +kernel
theorem dX5_isParenthesisNext_19 : decode cX5_isParenthesisNext 19 = .ok (.invokestatic 23, 3) := by decide +kernel
theorem dX5_isParenthesisNext_22 : decode cX5_isParenthesisNext 22 = .ok (.ifCond .eq 9, 3) := by decide +kernel
theorem dX5_isParenthesisNext_25 : decode cX5_isParenthesisNext 25 = .ok (.iinc 1 1, 3) := by decide +kernel
theorem dX5_isParenthesisNext_28 : decode cX5_isParenthesisNext 28 = .ok (.goto (-23), 3) := by decide +kernel
theorem dX5_isParenthesisNext_31 : decode cX5_isParenthesisNext 31 = .ok (.iload_n 1, 1) := by decide +kernel
theorem dX5_isParenthesisNext_32 : decode cX5_isParenthesisNext 32 = .ok (.aload_n 0, 1) := by decide +kernel
theorem dX5_isParenthesisNext_33 : decode cX5_isParenthesisNext 33 = .ok (.getfield 13, 3) := by decide +kernel
theorem dX5_isParenthesisNext_36 : decode cX5_isParenthesisNext 36 = .ok (.if_icmp .ge 18, 3) := by decide +kernel
theorem dX5_isParenthesisNext_39 : decode cX5_isParenthesisNext 39 = .ok (.aload_n 0, 1) := by decide +kernel
theorem dX5_isParenthesisNext_40 : decode cX5_isParenthesisNext 40 = .ok (.getfield 9, 3) := by decide +kernel
theorem dX5_isParenthesisNext_43 : decode cX5_isParenthesisNext 43 = .ok (.iload_n 1, 1) := by decide +kernel
theorem dX5_isParenthesisNext_44 : decode cX5_isParenthesisNext 44 = .ok (.iaload, 1) := by decide +kernel
theorem dX5_isParenthesisNext_45 : decode cX5_isParenthesisNext 45 = .ok (.bipush 40, 2) := by decide +kernel
theorem dX5_isParenthesisNext_47 : decode cX5_isParenthesisNext 47 = .ok (.if_icmp .ne 7, 3) := by decide +kernel
theorem dX5_isParenthesisNext_50 : decode cX5_isParenthesisNext 50 = .ok (.iconst 1, 1) := by decide +kernel
theorem dX5_isParenthesisNext_51 : decode cX5_isParenthesisNext 51 = .ok (.goto 4, 3) := by decide +kernel
theorem dX5_isParenthesisNext_54 : decode cX5_isParenthesisNext 54 = .ok (.iconst 0, 1) := by decide +kernel
theorem dX5_isParenthesisNext_55 : decode cX5_isParenthesisNext 55 = .ok (.ireturn, 1) := by decide +kernel
theorem dX5_takeRow_0 : decode cX5_takeRow 0 = .ok (.iconst 0, 1) := by decide +kernel
theorem dX5_takeRow_1 : decode cX5_takeRow 1 = .ok (.istore_n 1, 1) := by decide +kernel
theorem dX5_takeRow_2 : decode cX5_takeRow 2 = .ok (.lconst 0, 1) := by decide +kernel
theorem dX5_takeRow_3 : decode cX5_takeRow 3 = .ok (.lstore_n 2, 1) := by decide +kernel
theorem dX5_takeRow_4 : decode cX5_takeRow 4 = .ok (.lconst 0, 1) := by decide +kernel
theorem dX5_takeRow_5 : decode cX5_takeRow 5 = .ok (.lstore 4, 2) := by decide +kernel
theorem dX5_takeRow_7 : decode cX5_takeRow 7 = .ok (.aload_n 0, 1) := by decide +kernel
theorem dX5_takeRow_8 : decode cX5_takeRow 8 = .ok (.getfield 17, 3) := by decide +kernel
theorem dX5_takeRow_11 : decode cX5_takeRow 11 = .ok (.aload_n 0, 1) := by decide +kernel
theorem dX5_takeRow_12 : decode cX5_takeRow 12 = .ok (.getfield 13, 3) := by decide +kernel
theorem dX5_takeRow_15 : decode cX5_takeRow 15 = .ok (.if_icmp .ge 102, 3) := by decide +kernel
theorem dX5_takeRow_18 : decode cX5_takeRow 18 = .ok (.aload_n 0, 1) := by decide +kernel
theorem dX5_takeRow_19 : decode cX5_takeRow 19 = .ok (.getfield 9, 3) := by decide +kernel
theorem dX5_takeRow_22 : decode cX5_takeRow 22 = .ok (.aload_n 0, 1) := by decide +kernel
theorem dX5_takeRow_23 : decode cX5_takeRow 23 = .ok (.getfield 17, 3) := by decide +kernel
theorem dX5_takeRow_26 : decode cX5_takeRow 26 = .ok (.iaload, 1) := by decide +kernel
theorem dX5_takeRow_27 : decode cX5_takeRow 27 = .ok (.invokestatic 33, 3) := by decide +kernel
theorem dX5_takeRow_30 : decode cX5_takeRow 30 = .ok (.ifCond .ne 18, 3) := by decide +kernel
theorem dX5_takeRow_33 : decode cX5_takeRow 33 = .ok (.aload_n 0, 1) := by decide +kernel
theorem dX5_takeRow_34 : decode cX5_takeRow 34 = .ok (.getfield 9, 3) := by decide +kernel
theorem dX5_takeRow_37 : decode cX5_takeRow 37 = .ok (.aload_n 0, 1) := by decide +kernel
theorem dX5_takeRow_38 : decode cX5_takeRow 38 = .ok (.getfield 17, 3) := by decide +kernel
theorem dX5_takeRow_41 : decode cX5_takeRow 41 = .ok (.iaload, 1) := by decide +kernel
theorem dX5_takeRow_42 : decode cX5_takeRow 42 = .ok (.invokestatic 36, 3) := by decide +kernel
theorem dX5_takeRow_45 : decode cX5_takeRow 45 = .ok (.ifCond .eq 72, 3) := by decide +kernel
theorem dX5_takeRow_48 : decode cX5_takeRow 48 = .ok (.aload_n 0, 1) := by decide +kernel
theorem dX5_takeRow_49 : decode cX5_takeRow 49 = .ok (.getfield 9, 3) := by decide +kernel
theorem dX5_takeRow_52 : decode cX5_takeRow 52 = .ok (.aload_n 0, 1) := by decide +kernel
theorem dX5_takeRow_53 : decode cX5_takeRow 53 = .ok (.getfield 17, 3) := by decide +kernel
theorem dX5_takeRow_56 : decode cX5_takeRow 56 = .ok (.iaload, 1) := by decide +kernel
theorem dX5_takeRow_57 : decode cX5_takeRow 57 = .ok (.istore 6, 2) := by decide +kernel
theorem dX5_takeRow_59 : decode cX5_takeRow 59 = .ok (.iload 6, 2) := by decide +kernel
theorem dX5_takeRow_61 : decode cX5_takeRow 61 = .ok (.invokestatic 33, 3) := by decide +kernel
theorem dX5_takeRow_64 : decode cX5_takeRow 64 = .ok (.ifCond .eq 18, 3) := by decide +kernel
theorem dX5_takeRow_67 : decode cX5_takeRow 67 = .ok (.iinc 1 1, 3) := by decide +kernel
theorem dX5_takeRow_70 : decode cX5_takeRow 70 = .ok (.lload_n 2, 1) := by decide +kernel
theorem dX5_takeRow_71 : decode cX5_takeRow 71 = .ok (.bipush 8, 2) := by decide +kernel
theorem dX5_takeRow_73 : decode cX5_takeRow 73 = .ok (.lshl, 1) := by decide +kernel
theorem dX5_takeRow_74 : decode cX5_takeRow 74 = .ok (.iload 6, 2) := by decide +kernel
theorem dX5_takeRow_76 : decode cX5_takeRow 76 = .ok (.i2l, 1) := by decide +kernel
theorem dX5_takeRow_77 : decode cX5_takeRow 77 = .ok (.lor, 1) := by decide +kernel
theorem dX5_takeRow_78 : decode cX5_takeRow 78 = .ok (.lstore_n 2, 1) := by decide +kernel
theorem dX5_takeRow_79 : decode cX5_takeRow 79 = .ok (.goto 25, 3) := by decide +kernel
theorem dX5_takeRow_82 : decode cX5_takeRow 82 = .ok (.lload 4, 2) := by decide +kernel
theorem dX5_takeRow_84 : decode cX5_takeRow 84 = .ok (.ldc2_w 50, 3) := by decide +kernel
theorem dX5_takeRow_87 : decode cX5_takeRow 87 = .ok (.lmul, 1) := by decide +kernel
theorem dX5_takeRow_88 : decode cX5_takeRow 88 = .ok (.iload 6, 2) := by decide +kernel
theorem dX5_takeRow_90 : decode cX5_takeRow 90 = .ok (.i2l, 1) := by decide +kernel
theorem dX5_takeRow_91 : decode cX5_takeRow 91 = .ok (.ladd, 1) := by decide +kernel
theorem dX5_takeRow_92 : decode cX5_takeRow 92 = .ok (.ldc2_w 52, 3) := by decide +kernel
theorem dX5_takeRow_95 : decode cX5_takeRow 95 = .ok (.lsub, 1) := by decide +kernel
theorem dX5_takeRow_96 : decode cX5_takeRow 96 = .ok (.ldc2_w 54, 3) := by decide +kernel
theorem dX5_takeRow_99 : decode cX5_takeRow 99 = .ok (.invokestatic 56, 3) := by decide +kernel
theorem dX5_takeRow_102 : decode cX5_takeRow 102 = .ok (.lstore 4, 2) := by decide +kernel
theorem dX5_takeRow_104 : decode cX5_takeRow 104 = .ok (.aload_n 0, 1) := by decide +kernel
theorem dX5_takeRow_105 : decode cX5_takeRow 105 = .ok (.dup, 1) := by decide +kernel
theorem dX5_takeRow_106 : decode cX5_takeRow 106 = .ok (.getfield 17, 3) := by decide +kernel
theorem dX5_takeRow_109 : decode cX5_takeRow 109 = .ok (.iconst 1, 1) := by decide +kernel
theorem dX5_takeRow_110 : decode cX5_takeRow 110 = .ok (.iadd, 1) := by decide +kernel
theorem dX5_takeRow_111 : decode cX5_takeRow 111 = .ok (.putfield 17, 3) := by decide +kernel
theorem dX5_takeRow_114 : decode cX5_takeRow 114 = .ok (.goto (-107), 3) := by decide +kernel
theorem dX5_takeRow_117 : decode cX5_takeRow 117 = .ok (.iload_n 1, 1) := by decide +kernel
theorem dX5_takeRow_118 : decode cX5_takeRow 118 = .ok (.aload_n 0, 1) := by decide +kernel
theorem dX5_takeRow_119 : decode cX5_takeRow 119 = .ok (.getfield 17, 3) := by decide +kernel
theorem dX5_takeRow_122 : decode cX5_takeRow 122 = .ok (.aload_n 0, 1) := by decide +kernel
theorem dX5_takeRow_123 : decode cX5_takeRow 123 = .ok (.getfield 27, 3) := by decide +kernel
theorem dX5_takeRow_126 : decode cX5_takeRow 126 = .ok (.isub, 1) := by decide +kernel
theorem dX5_takeRow_127 : decode cX5_takeRow 127 = .ok (.if_icmp .ne 25, 3) := by decide +kernel
theorem dX5_takeRow_130 : decode cX5_takeRow 130 = .ok (.iload_n 1, 1) := by decide +kernel
theorem dX5_takeRow_131 : decode cX5_takeRow 131 = .ok (.bipush 8, 2) := by decide +kernel
theorem dX5_takeRow_133 : decode cX5_takeRow 133 = .ok (.if_icmp .gt 19, 3) := by decide +kernel
theorem dX5_takeRow_136 : decode cX5_takeRow 136 = .ok (.aload_n 0, 1) := by decide +kernel
theorem dX5_takeRow_137 : decode cX5_takeRow 137 = .ok (.lload_n 2, 1) := by decide +kernel
theorem dX5_takeRow_138 : decode cX5_takeRow 138 = .ok (.putfield 62, 3) := by decide +kernel
theorem dX5_takeRow_141 : decode cX5_takeRow 141 = .ok (.aload_n 0, 1) := by decide +kernel
theorem dX5_takeRow_142 : decode cX5_takeRow 142 = .ok (.lload_n 2, 1) := by decide +kernel
theorem dX5_takeRow_143 : decode cX5_takeRow 143 = .ok (.invokestatic 66, 3) := by decide +kernel
theorem dX5_takeRow_146 : decode cX5_takeRow 146 = .ok (.putfield 30, 3) := by decide +kernel
theorem dX5_takeRow_149 : decode cX5_takeRow 149 = .ok (.goto 36, 3) := by decide +kernel
theorem dX5_takeRow_152 : decode cX5_takeRow 152 = .ok (.iload_n 1, 1) := by decide +kernel
theorem dX5_takeRow_153 : decode cX5_takeRow 153 = .ok (.ifCond .ne 27, 3) := by decide +kernel
theorem dX5_takeRow_156 : decode cX5_takeRow 156 = .ok (.lload 4, 2) := by decide +kernel
theorem dX5_takeRow_158 : decode cX5_takeRow 158 = .ok (.ldc2_w 70, 3) := by decide +kernel
theorem dX5_takeRow_161 : decode cX5_takeRow 161 = .ok (.lcmp, 1) := by decide +kernel
theorem dX5_takeRow_162 : decode cX5_takeRow 162 = .ok (.ifCond .gt 18, 3) := by decide +kernel
theorem dX5_takeRow_165 : decode cX5_takeRow 165 = .ok (.aload_n 0, 1) := by decide +kernel
theorem dX5_takeRow_166 : decode cX5_takeRow 166 = .ok (.lload 4, 2) := by decide +kernel
theorem dX5_takeRow_168 : decode cX5_takeRow 168 = .ok (.l2i, 1) := by decide +kernel
theorem dX5_takeRow_169 : decode cX5_takeRow 169 = .ok (.putfield 72, 3) := by decide +kernel
theorem dX5_takeRow_172 : decode cX5_takeRow 172 = .ok (.aload_n 0, 1) := by decide +kernel
theorem dX5_takeRow_173 : decode cX5_takeRow 173 = .ok (.iconst 3, 1) := by decide +kernel
theorem dX5_takeRow_174 : decode cX5_takeRow 174 = .ok (.putfield 30, 3) := by decide +kernel
theorem dX5_takeRow_177 : decode cX5_takeRow 177 = .ok (.goto 8, 3) := by decide +kernel
theorem dX5_takeRow_180 : decode cX5_takeRow 180 = .ok (.aload_n 0, 1) := by decide +kernel
theorem dX5_takeRow_181 : decode cX5_takeRow 181 = .ok (.iconst 1, 1) := by decide +kernel
theorem dX5_takeRow_182 : decode cX5_takeRow 182 = .ok (.putfield 30, 3) := by decide +kernel
theorem dX5_takeRow_185 : decode cX5_takeRow 185 = .ok (.return_, 1) := by decide +kernel
theorem dX5_wordOrName_0 : decode cX5_wordOrName 0 = .ok (.lload_n 0, 1) := by decide +kernel
theorem dX5_wordOrName_1 : decode cX5_wordOrName 1 = .ok (.ldc2_w 75, 3) := by decide +kernel
theorem dX5_wordOrName_4 : decode cX5_wordOrName 4 = .ok (.lcmp, 1) := by decide +kernel
theorem dX5_wordOrName_5 : decode cX5_wordOrName 5 = .ok (.ifCond .ne 5, 3) := by decide +kernel
theorem dX5_wordOrName_8 : decode cX5_wordOrName 8 = .ok (.iconst 4, 1) := by decide +kernel
theorem dX5_wordOrName_9 : decode cX5_wordOrName 9 = .ok (.ireturn, 1) := by decide +kernel
theorem dX5_wordOrName_10 : decode cX5_wordOrName 10 = .ok (.lload_n 0, 1) := by decide +kernel
theorem dX5_wordOrName_11 : decode cX5_wordOrName 11 = .ok (.ldc2_w 77, 3) := by decide +kernel
theorem dX5_wordOrName_14 : decode cX5_wordOrName 14 = .ok (.lcmp, 1) := by decide +kernel
theorem dX5_wordOrName_15 : decode cX5_wordOrName 15 = .ok (.ifCond .ne 5, 3) := by decide +kernel
theorem dX5_wordOrName_18 : decode cX5_wordOrName 18 = .ok (.iconst 5, 1) := by decide +kernel
theorem dX5_wordOrName_19 : decode cX5_wordOrName 19 = .ok (.ireturn, 1) := by decide +kernel
theorem dX5_wordOrName_20 : decode cX5_wordOrName 20 = .ok (.lload_n 0, 1) := by decide +kernel
theorem dX5_wordOrName_21 : decode cX5_wordOrName 21 = .ok (.ldc2_w 79, 3) := by decide +kernel
theorem dX5_wordOrName_24 : decode cX5_wordOrName 24 = .ok (.lcmp, 1) := by decide +kernel
theorem dX5_wordOrName_25 : decode cX5_wordOrName 25 = .ok (.ifCond .ne 6, 3) := by decide +kernel
theorem dX5_wordOrName_28 : decode cX5_wordOrName 28 = .ok (.bipush 6, 2) := by decide +kernel
theorem dX5_wordOrName_30 : decode cX5_wordOrName 30 = .ok (.ireturn, 1) := by decide +kernel
theorem dX5_wordOrName_31 : decode cX5_wordOrName 31 = .ok (.lload_n 0, 1) := by decide +kernel
theorem dX5_wordOrName_32 : decode cX5_wordOrName 32 = .ok (.ldc2_w 81, 3) := by decide +kernel
theorem dX5_wordOrName_35 : decode cX5_wordOrName 35 = .ok (.lcmp, 1) := by decide +kernel
theorem dX5_wordOrName_36 : decode cX5_wordOrName 36 = .ok (.ifCond .ne 6, 3) := by decide +kernel
theorem dX5_wordOrName_39 : decode cX5_wordOrName 39 = .ok (.bipush 7, 2) := by decide +kernel
theorem dX5_wordOrName_41 : decode cX5_wordOrName 41 = .ok (.ireturn, 1) := by decide +kernel
theorem dX5_wordOrName_42 : decode cX5_wordOrName 42 = .ok (.lload_n 0, 1) := by decide +kernel
theorem dX5_wordOrName_43 : decode cX5_wordOrName 43 = .ok (.ldc2_w 83, 3) := by decide +kernel
theorem dX5_wordOrName_46 : decode cX5_wordOrName 46 = .ok (.lcmp, 1) := by decide +kernel
theorem dX5_wordOrName_47 : decode cX5_wordOrName 47 = .ok (.ifCond .ne 6, 3) := by decide +kernel
theorem dX5_wordOrName_50 : decode cX5_wordOrName 50 = .ok (.bipush 8, 2) := by decide +kernel
theorem dX5_wordOrName_52 : decode cX5_wordOrName 52 = .ok (.ireturn, 1) := by decide +kernel
theorem dX5_wordOrName_53 : decode cX5_wordOrName 53 = .ok (.lload_n 0, 1) := by decide +kernel
theorem dX5_wordOrName_54 : decode cX5_wordOrName 54 = .ok (.ldc2_w 85, 3) := by decide +kernel
theorem dX5_wordOrName_57 : decode cX5_wordOrName 57 = .ok (.lcmp, 1) := by decide +kernel
theorem dX5_wordOrName_58 : decode cX5_wordOrName 58 = .ok (.ifCond .ne 8, 3) := by decide +kernel
theorem dX5_wordOrName_61 : decode cX5_wordOrName 61 = .ok (.bipush 9, 2) := by decide +kernel
theorem dX5_wordOrName_63 : decode cX5_wordOrName 63 = .ok (.goto 4, 3) := by decide +kernel
theorem dX5_wordOrName_66 : decode cX5_wordOrName 66 = .ok (.iconst 2, 1) := by decide +kernel
theorem dX5_wordOrName_67 : decode cX5_wordOrName 67 = .ok (.ireturn, 1) := by decide +kernel
theorem dX5_isBlank_0 : decode cX5_isBlank 0 = .ok (.iload_n 0, 1) := by decide +kernel
theorem dX5_isBlank_1 : decode cX5_isBlank 1 = .ok (.bipush 9, 2) := by decide +kernel
theorem dX5_isBlank_3 : decode cX5_isBlank 3 = .ok (.if_icmp .eq 21, 3) := by decide +kernel
theorem dX5_isBlank_6 : decode cX5_isBlank 6 = .ok (.iload_n 0, 1) := by decide +kernel
theorem dX5_isBlank_7 : decode cX5_isBlank 7 = .ok (.bipush 10, 2) := by decide +kernel
theorem dX5_isBlank_9 : decode cX5_isBlank 9 = .ok (.if_icmp .eq 15, 3) := by decide +kernel
theorem dX5_isBlank_12 : decode cX5_isBlank 12 = .ok (.iload_n 0, 1) := by decide +kernel
theorem dX5_isBlank_13 : decode cX5_isBlank 13 = .ok (.bipush 13, 2) := by decide +kernel
theorem dX5_isBlank_15 : decode cX5_isBlank 15 = .ok (.if_icmp .eq 9, 3) := by decide +kernel
theorem dX5_isBlank_18 : decode cX5_isBlank 18 = .ok (.iload_n 0, 1) := by decide +kernel
theorem dX5_isBlank_19 : decode cX5_isBlank 19 = .ok (.bipush 32, 2) := by decide +kernel
theorem dX5_isBlank_21 : decode cX5_isBlank 21 = .ok (.if_icmp .ne 7, 3) := by decide +kernel
theorem dX5_isBlank_24 : decode cX5_isBlank 24 = .ok (.iconst 1, 1) := by decide +kernel
theorem dX5_isBlank_25 : decode cX5_isBlank 25 = .ok (.goto 4, 3) := by decide +kernel
theorem dX5_isBlank_28 : decode cX5_isBlank 28 = .ok (.iconst 0, 1) := by decide +kernel
theorem dX5_isBlank_29 : decode cX5_isBlank 29 = .ok (.ireturn, 1) := by decide +kernel
theorem dX5_isLetter_0 : decode cX5_isLetter 0 = .ok (.iload_n 0, 1) := by decide +kernel
theorem dX5_isLetter_1 : decode cX5_isLetter 1 = .ok (.bipush 97, 2) := by decide +kernel
theorem dX5_isLetter_3 : decode cX5_isLetter 3 = .ok (.if_icmp .lt 13, 3) := by decide +kernel
theorem dX5_isLetter_6 : decode cX5_isLetter 6 = .ok (.iload_n 0, 1) := by decide +kernel
theorem dX5_isLetter_7 : decode cX5_isLetter 7 = .ok (.bipush 122, 2) := by decide +kernel
theorem dX5_isLetter_9 : decode cX5_isLetter 9 = .ok (.if_icmp .gt 7, 3) := by decide +kernel
theorem dX5_isLetter_12 : decode cX5_isLetter 12 = .ok (.iconst 1, 1) := by decide +kernel
theorem dX5_isLetter_13 : decode cX5_isLetter 13 = .ok (.goto 4, 3) := by decide +kernel
theorem dX5_isLetter_16 : decode cX5_isLetter 16 = .ok (.iconst 0, 1) := by decide +kernel
theorem dX5_isLetter_17 : decode cX5_isLetter 17 = .ok (.ireturn, 1) := by decide +kernel
theorem dX5_isDigit_0 : decode cX5_isDigit 0 = .ok (.iload_n 0, 1) := by decide +kernel
theorem dX5_isDigit_1 : decode cX5_isDigit 1 = .ok (.bipush 48, 2) := by decide +kernel
theorem dX5_isDigit_3 : decode cX5_isDigit 3 = .ok (.if_icmp .lt 13, 3) := by decide +kernel
theorem dX5_isDigit_6 : decode cX5_isDigit 6 = .ok (.iload_n 0, 1) := by decide +kernel
theorem dX5_isDigit_7 : decode cX5_isDigit 7 = .ok (.bipush 57, 2) := by decide +kernel
theorem dX5_isDigit_9 : decode cX5_isDigit 9 = .ok (.if_icmp .gt 7, 3) := by decide +kernel
theorem dX5_isDigit_12 : decode cX5_isDigit 12 = .ok (.iconst 1, 1) := by decide +kernel
theorem dX5_isDigit_13 : decode cX5_isDigit 13 = .ok (.goto 4, 3) := by decide +kernel
theorem dX5_isDigit_16 : decode cX5_isDigit 16 = .ok (.iconst 0, 1) := by decide +kernel
theorem dX5_isDigit_17 : decode cX5_isDigit 17 = .ok (.ireturn, 1) := by decide +kernel
theorem dX6_init_0 : decode cX6_init 0 = .ok (.aload_n 0, 1) := by decide +kernel
theorem dX6_init_1 : decode cX6_init 1 = .ok (.invokespecial 1, 3) := by decide +kernel
theorem dX6_init_4 : decode cX6_init 4 = .ok (.aload_n 0, 1) := by decide +kernel
theorem dX6_init_5 : decode cX6_init 5 = .ok (.new 7, 3) := by decide +kernel
theorem dX6_init_8 : decode cX6_init 8 = .ok (.dup, 1) := by decide +kernel
theorem dX6_init_9 : decode cX6_init 9 = .ok (.invokespecial 9, 3) := by decide +kernel
theorem dX6_init_12 : decode cX6_init 12 = .ok (.putfield 10, 3) := by decide +kernel
theorem dX6_init_15 : decode cX6_init 15 = .ok (.aload_n 0, 1) := by decide +kernel
theorem dX6_init_16 : decode cX6_init 16 = .ok (.new 16, 3) := by decide +kernel
theorem dX6_init_19 : decode cX6_init 19 = .ok (.dup, 1) := by decide +kernel
theorem dX6_init_20 : decode cX6_init 20 = .ok (.invokespecial 18, 3) := by decide +kernel
theorem dX6_init_23 : decode cX6_init 23 = .ok (.putfield 19, 3) := by decide +kernel
theorem dX6_init_26 : decode cX6_init 26 = .ok (.aload_n 0, 1) := by decide +kernel
theorem dX6_init_27 : decode cX6_init 27 = .ok (.iconst 4, 1) := by decide +kernel
theorem dX6_init_28 : decode cX6_init 28 = .ok (.newarray .int, 2) := by decide +kernel
theorem dX6_init_30 : decode cX6_init 30 = .ok (.putfield 23, 3) := by decide +kernel
theorem dX6_init_33 : decode cX6_init 33 = .ok (.return_, 1) := by decide +kernel
theorem dX6_feed_0 : decode cX6_feed 0 = .ok (.iload 5, 2) := by decide +kernel
theorem dX6_feed_2 : decode cX6_feed 2 = .ok (.iconst 1, 1) := by decide +kernel
theorem dX6_feed_3 : decode cX6_feed 3 = .ok (.if_icmp .lt 10, 3) := by decide +kernel
theorem dX6_feed_6 : decode cX6_feed 6 = .ok (.iload 5, 2) := by decide +kernel
theorem dX6_feed_8 : decode cX6_feed 8 = .ok (.bipush 16, 2) := by decide +kernel
theorem dX6_feed_10 : decode cX6_feed 10 = .ok (.if_icmp .le 11, 3) := by decide +kernel
theorem dX6_feed_13 : decode cX6_feed 13 = .ok (.new 27, 3) := by decide +kernel
theorem dX6_feed_16 : decode cX6_feed 16 = .ok (.dup, 1) := by decide +kernel
theorem dX6_feed_17 : decode cX6_feed 17 = .ok (.invokespecial 29, 3) := by decide +kernel
theorem dX6_feed_20 : decode cX6_feed 20 = .ok (.athrow, 1) := by decide +kernel
theorem dX6_feed_21 : decode cX6_feed 21 = .ok (.iload 5, 2) := by decide +kernel
theorem dX6_feed_23 : decode cX6_feed 23 = .ok (.aload_n 0, 1) := by decide +kernel
theorem dX6_feed_24 : decode cX6_feed 24 = .ok (.getfield 10, 3) := by decide +kernel
theorem dX6_feed_27 : decode cX6_feed 27 = .ok (.getfield 30, 3) := by decide +kernel
theorem dX6_feed_30 : decode cX6_feed 30 = .ok (.invokevirtual 34, 3) := by decide +kernel
theorem dX6_feed_33 : decode cX6_feed 33 = .ok (.if_icmp .le 11, 3) := by decide +kernel
theorem dX6_feed_36 : decode cX6_feed 36 = .ok (.new 40, 3) := by decide +kernel
theorem dX6_feed_39 : decode cX6_feed 39 = .ok (.dup, 1) := by decide +kernel
theorem dX6_feed_40 : decode cX6_feed 40 = .ok (.invokespecial 42, 3) := by decide +kernel
theorem dX6_feed_43 : decode cX6_feed 43 = .ok (.athrow, 1) := by decide +kernel
theorem dX6_feed_44 : decode cX6_feed 44 = .ok (.iconst 0, 1) := by decide +kernel
theorem dX6_feed_45 : decode cX6_feed 45 = .ok (.istore 6, 2) := by decide +kernel
theorem dX6_feed_47 : decode cX6_feed 47 = .ok (.iload 6, 2) := by decide +kernel
theorem dX6_feed_49 : decode cX6_feed 49 = .ok (.iload 5, 2) := by decide +kernel
theorem dX6_feed_51 : decode cX6_feed 51 = .ok (.if_icmp .ge 72, 3) := by decide +kernel
theorem dX6_feed_54 : decode cX6_feed 54 = .ok (.iload 6, 2) := by decide +kernel
theorem dX6_feed_56 : decode cX6_feed 56 = .ok (.iconst 4, 1) := by decide +kernel
theorem dX6_feed_57 : decode cX6_feed 57 = .ok (.if_icmp .ge 7, 3) := by decide +kernel
theorem dX6_feed_60 : decode cX6_feed 60 = .ok (.iload_n 1, 1) := by decide +kernel
theorem dX6_feed_61 : decode cX6_feed 61 = .ok (.goto 27, 3) := by decide +kernel
theorem dX6_feed_64 : decode cX6_feed 64 = .ok (.iload 6, 2) := by decide +kernel
theorem dX6_feed_66 : decode cX6_feed 66 = .ok (.bipush 8, 2) := by decide +kernel
theorem dX6_feed_68 : decode cX6_feed 68 = .ok (.if_icmp .ge 7, 3) := by decide +kernel
theorem dX6_feed_71 : decode cX6_feed 71 = .ok (.iload_n 2, 1) := by decide +kernel
theorem dX6_feed_72 : decode cX6_feed 72 = .ok (.goto 16, 3) := by decide +kernel
theorem dX6_feed_75 : decode cX6_feed 75 = .ok (.iload 6, 2) := by decide +kernel
theorem dX6_feed_77 : decode cX6_feed 77 = .ok (.bipush 12, 2) := by decide +kernel
theorem dX6_feed_79 : decode cX6_feed 79 = .ok (.if_icmp .ge 7, 3) := by decide +kernel
theorem dX6_feed_82 : decode cX6_feed 82 = .ok (.iload_n 3, 1) := by decide +kernel
theorem dX6_feed_83 : decode cX6_feed 83 = .ok (.goto 5, 3) := by decide +kernel
theorem dX6_feed_86 : decode cX6_feed 86 = .ok (.iload 4, 2) := by decide +kernel
theorem dX6_feed_88 : decode cX6_feed 88 = .ok (.istore 7, 2) := by decide +kernel
theorem dX6_feed_90 : decode cX6_feed 90 = .ok (.aload_n 0, 1) := by decide +kernel
theorem dX6_feed_91 : decode cX6_feed 91 = .ok (.getfield 10, 3) := by decide +kernel
theorem dX6_feed_94 : decode cX6_feed 94 = .ok (.getfield 30, 3) := by decide +kernel
theorem dX6_feed_97 : decode cX6_feed 97 = .ok (.iload 7, 2) := by decide +kernel
theorem dX6_feed_99 : decode cX6_feed 99 = .ok (.bipush 24, 2) := by decide +kernel
theorem dX6_feed_101 : decode cX6_feed 101 = .ok (.bipush 8, 2) := by decide +kernel
theorem dX6_feed_103 : decode cX6_feed 103 = .ok (.iload 6, 2) := by decide +kernel
theorem dX6_feed_105 : decode cX6_feed 105 = .ok (.iconst 4, 1) := by decide +kernel
theorem dX6_feed_106 : decode cX6_feed 106 = .ok (.irem, 1) := by decide +kernel
theorem dX6_feed_107 : decode cX6_feed 107 = .ok (.imul, 1) := by decide +kernel
theorem dX6_feed_108 : decode cX6_feed 108 = .ok (.isub, 1) := by decide +kernel
theorem dX6_feed_109 : decode cX6_feed 109 = .ok (.iushr, 1) := by decide +kernel
theorem dX6_feed_110 : decode cX6_feed 110 = .ok (.sipush 255, 3) := by decide +kernel
theorem dX6_feed_113 : decode cX6_feed 113 = .ok (.iand, 1) := by decide +kernel
theorem dX6_feed_114 : decode cX6_feed 114 = .ok (.invokevirtual 43, 3) := by decide +kernel
theorem dX6_feed_117 : decode cX6_feed 117 = .ok (.iinc 6 1, 3) := by decide +kernel
theorem dX6_feed_120 : decode cX6_feed 120 = .ok (.goto (-73), 3) := by decide +kernel
theorem dX6_feed_123 : decode cX6_feed 123 = .ok (.aload_n 0, 1) := by decide +kernel
theorem dX6_feed_124 : decode cX6_feed 124 = .ok (.getfield 10, 3) := by decide +kernel
theorem dX6_feed_127 : decode cX6_feed 127 = .ok (.getfield 30, 3) := by decide +kernel
theorem dX6_feed_130 : decode cX6_feed 130 = .ok (.getfield 47, 3) := by decide +kernel
theorem dX6_feed_133 : decode cX6_feed 133 = .ok (.ireturn, 1) := by decide +kernel
theorem dX6_read_0 : decode cX6_read 0 = .ok (.aload_n 0, 1) := by decide +kernel
theorem dX6_read_1 : decode cX6_read 1 = .ok (.getfield 10, 3) := by decide +kernel
theorem dX6_read_4 : decode cX6_read 4 = .ok (.invokevirtual 51, 3) := by decide +kernel
theorem dX6_read_7 : decode cX6_read 7 = .ok (.istore_n 1, 1) := by decide +kernel
theorem dX6_read_8 : decode cX6_read 8 = .ok (.aload_n 0, 1) := by decide +kernel
theorem dX6_read_9 : decode cX6_read 9 = .ok (.getfield 10, 3) := by decide +kernel
theorem dX6_read_12 : decode cX6_read 12 = .ok (.getfield 30, 3) := by decide +kernel
theorem dX6_read_15 : decode cX6_read 15 = .ok (.invokevirtual 54, 3) := by decide +kernel
theorem dX6_read_18 : decode cX6_read 18 = .ok (.iload_n 1, 1) := by decide +kernel
theorem dX6_read_19 : decode cX6_read 19 = .ok (.iconst (-1), 1) := by decide +kernel
theorem dX6_read_20 : decode cX6_read 20 = .ok (.if_icmp .eq 7, 3) := by decide +kernel
theorem dX6_read_23 : decode cX6_read 23 = .ok (.iconst (-1), 1) := by decide +kernel
theorem dX6_read_24 : decode cX6_read 24 = .ok (.iload_n 1, 1) := by decide +kernel
theorem dX6_read_25 : decode cX6_read 25 = .ok (.isub, 1) := by decide +kernel
theorem dX6_read_26 : decode cX6_read 26 = .ok (.ireturn, 1) := by decide +kernel
theorem dX6_read_27 : decode cX6_read 27 = .ok (.aload_n 0, 1) := by decide +kernel
theorem dX6_read_28 : decode cX6_read 28 = .ok (.getfield 19, 3) := by decide +kernel
theorem dX6_read_31 : decode cX6_read 31 = .ok (.aload_n 0, 1) := by decide +kernel
theorem dX6_read_32 : decode cX6_read 32 = .ok (.getfield 10, 3) := by decide +kernel
theorem dX6_read_35 : decode cX6_read 35 = .ok (.aload_n 0, 1) := by decide +kernel
theorem dX6_read_36 : decode cX6_read 36 = .ok (.getfield 19, 3) := by decide +kernel
theorem dX6_read_39 : decode cX6_read 39 = .ok (.getfield 57, 3) := by decide +kernel
theorem dX6_read_42 : decode cX6_read 42 = .ok (.invokevirtual 61, 3) := by decide +kernel
theorem dX6_read_45 : decode cX6_read 45 = .ok (.putfield 57, 3) := by decide +kernel
theorem dX6_read_48 : decode cX6_read 48 = .ok (.aload_n 0, 1) := by decide +kernel
theorem dX6_read_49 : decode cX6_read 49 = .ok (.getfield 19, 3) := by decide +kernel
theorem dX6_read_52 : decode cX6_read 52 = .ok (.getfield 57, 3) := by decide +kernel
theorem dX6_read_55 : decode cX6_read 55 = .ok (.getfield 65, 3) := by decide +kernel
theorem dX6_read_58 : decode cX6_read 58 = .ok (.ireturn, 1) := by decide +kernel
theorem dX6_run_0 : decode cX6_run 0 = .ok (.aload_n 0, 1) := by decide +kernel
theorem dX6_run_1 : decode cX6_run 1 = .ok (.getfield 19, 3) := by decide +kernel
theorem dX6_run_4 : decode cX6_run 4 = .ok (.getfield 57, 3) := by decide +kernel
theorem dX6_run_7 : decode cX6_run 7 = .ok (.getfield 65, 3) := by decide +kernel
theorem dX6_run_10 : decode cX6_run 10 = .ok (.ifCond .ne 11, 3) := by decide +kernel
theorem dX6_run_13 : decode cX6_run 13 = .ok (.new 70, 3) := by decide +kernel
theorem dX6_run_16 : decode cX6_run 16 = .ok (.dup, 1) := by decide +kernel
theorem dX6_run_17 : decode cX6_run 17 = .ok (.invokespecial 72, 3) := by decide +kernel
theorem dX6_run_20 : decode cX6_run 20 = .ok (.athrow, 1) := by decide +kernel
theorem dX6_run_21 : decode cX6_run 21 = .ok (.iload_n 3, 1) := by decide +kernel
theorem dX6_run_22 : decode cX6_run 22 = .ok (.iconst 1, 1) := by decide +kernel
theorem dX6_run_23 : decode cX6_run 23 = .ok (.if_icmp .lt 10, 3) := by decide +kernel
theorem dX6_run_26 : decode cX6_run 26 = .ok (.iload_n 3, 1) := by decide +kernel
theorem dX6_run_27 : decode cX6_run 27 = .ok (.sipush 300, 3) := by decide +kernel
theorem dX6_run_30 : decode cX6_run 30 = .ok (.if_icmp .le 11, 3) := by decide +kernel
theorem dX6_run_33 : decode cX6_run 33 = .ok (.new 27, 3) := by decide +kernel
theorem dX6_run_36 : decode cX6_run 36 = .ok (.dup, 1) := by decide +kernel
theorem dX6_run_37 : decode cX6_run 37 = .ok (.invokespecial 29, 3) := by decide +kernel
theorem dX6_run_40 : decode cX6_run 40 = .ok (.athrow, 1) := by decide +kernel
theorem dX6_run_41 : decode cX6_run 41 = .ok (.aload_n 0, 1) := by decide +kernel
theorem dX6_run_42 : decode cX6_run 42 = .ok (.getfield 19, 3) := by decide +kernel
theorem dX6_run_45 : decode cX6_run 45 = .ok (.iload_n 1, 1) := by decide +kernel
theorem dX6_run_46 : decode cX6_run 46 = .ok (.iload_n 2, 1) := by decide +kernel
theorem dX6_run_47 : decode cX6_run 47 = .ok (.iload_n 3, 1) := by decide +kernel
theorem dX6_run_48 : decode cX6_run 48 = .ok (.iload 4, 2) := by decide +kernel
theorem dX6_run_50 : decode cX6_run 50 = .ok (.invokevirtual 73, 3) := by decide +kernel
theorem dX6_run_53 : decode cX6_run 53 = .ok (.aload_n 0, 1) := by decide +kernel
theorem dX6_run_54 : decode cX6_run 54 = .ok (.getfield 19, 3) := by decide +kernel
theorem dX6_run_57 : decode cX6_run 57 = .ok (.invokevirtual 77, 3) := by decide +kernel
theorem dX6_run_60 : decode cX6_run 60 = .ok (.istore 5, 2) := by decide +kernel
theorem dX6_run_62 : decode cX6_run 62 = .ok (.aload_n 0, 1) := by decide +kernel
theorem dX6_run_63 : decode cX6_run 63 = .ok (.invokevirtual 80, 3) := by decide +kernel
theorem dX6_run_66 : decode cX6_run 66 = .ok (.iload 5, 2) := by decide +kernel
theorem dX6_run_68 : decode cX6_run 68 = .ok (.iconst 2, 1) := by decide +kernel
theorem dX6_run_69 : decode cX6_run 69 = .ok (.if_icmp .eq 75, 3) := by decide +kernel
theorem dX6_run_72 : decode cX6_run 72 = .ok (.aload_n 0, 1) := by decide +kernel
theorem dX6_run_73 : decode cX6_run 73 = .ok (.iload 5, 2) := by decide +kernel
theorem dX6_run_75 : decode cX6_run 75 = .ok (.ifCond .ne 13, 3) := by decide +kernel
theorem dX6_run_78 : decode cX6_run 78 = .ok (.aload_n 0, 1) := by decide +kernel
theorem dX6_run_79 : decode cX6_run 79 = .ok (.getfield 19, 3) := by decide +kernel
theorem dX6_run_82 : decode cX6_run 82 = .ok (.invokevirtual 83, 3) := by decide +kernel
theorem dX6_run_85 : decode cX6_run 85 = .ok (.goto 4, 3) := by decide +kernel
theorem dX6_run_88 : decode cX6_run 88 = .ok (.iconst 0, 1) := by decide +kernel
theorem dX6_run_89 : decode cX6_run 89 = .ok (.putfield 86, 3) := by decide +kernel
theorem dX6_run_92 : decode cX6_run 92 = .ok (.aload_n 0, 1) := by decide +kernel
theorem dX6_run_93 : decode cX6_run 93 = .ok (.getfield 23, 3) := by decide +kernel
theorem dX6_run_96 : decode cX6_run 96 = .ok (.iconst 0, 1) := by decide +kernel
theorem dX6_run_97 : decode cX6_run 97 = .ok (.aload_n 0, 1) := by decide +kernel
theorem dX6_run_98 : decode cX6_run 98 = .ok (.getfield 19, 3) := by decide +kernel
theorem dX6_run_101 : decode cX6_run 101 = .ok (.getfield 89, 3) := by decide +kernel
theorem dX6_run_104 : decode cX6_run 104 = .ok (.iastore, 1) := by decide +kernel
theorem dX6_run_105 : decode cX6_run 105 = .ok (.aload_n 0, 1) := by decide +kernel
theorem dX6_run_106 : decode cX6_run 106 = .ok (.getfield 23, 3) := by decide +kernel
theorem dX6_run_109 : decode cX6_run 109 = .ok (.iconst 1, 1) := by decide +kernel
theorem dX6_run_110 : decode cX6_run 110 = .ok (.aload_n 0, 1) := by decide +kernel
theorem dX6_run_111 : decode cX6_run 111 = .ok (.getfield 19, 3) := by decide +kernel
theorem dX6_run_114 : decode cX6_run 114 = .ok (.invokevirtual 92, 3) := by decide +kernel
theorem dX6_run_117 : decode cX6_run 117 = .ok (.iastore, 1) := by decide +kernel
theorem dX6_run_118 : decode cX6_run 118 = .ok (.aload_n 0, 1) := by decide +kernel
theorem dX6_run_119 : decode cX6_run 119 = .ok (.getfield 23, 3) := by decide +kernel
theorem dX6_run_122 : decode cX6_run 122 = .ok (.iconst 2, 1) := by decide +kernel
theorem dX6_run_123 : decode cX6_run 123 = .ok (.aload_n 0, 1) := by decide +kernel
theorem dX6_run_124 : decode cX6_run 124 = .ok (.getfield 19, 3) := by decide +kernel
theorem dX6_run_127 : decode cX6_run 127 = .ok (.invokevirtual 95, 3) := by decide +kernel
theorem dX6_run_130 : decode cX6_run 130 = .ok (.iastore, 1) := by decide +kernel
theorem dX6_run_131 : decode cX6_run 131 = .ok (.aload_n 0, 1) := by decide +kernel
theorem dX6_run_132 : decode cX6_run 132 = .ok (.getfield 23, 3) := by decide +kernel
theorem dX6_run_135 : decode cX6_run 135 = .ok (.iconst 3, 1) := by decide +kernel
theorem dX6_run_136 : decode cX6_run 136 = .ok (.aload_n 0, 1) := by decide +kernel
theorem dX6_run_137 : decode cX6_run 137 = .ok (.getfield 19, 3) := by decide +kernel
theorem dX6_run_140 : decode cX6_run 140 = .ok (.getfield 98, 3) := by decide +kernel
theorem dX6_run_143 : decode cX6_run 143 = .ok (.iastore, 1) := by decide +kernel
theorem dX6_run_144 : decode cX6_run 144 = .ok (.iload 5, 2) := by decide +kernel
theorem dX6_run_146 : decode cX6_run 146 = .ok (.ireturn, 1) := by decide +kernel
theorem dX6_value_0 : decode cX6_value 0 = .ok (.aload_n 0, 1) := by decide +kernel
theorem dX6_value_1 : decode cX6_value 1 = .ok (.getfield 86, 3) := by decide +kernel
theorem dX6_value_4 : decode cX6_value 4 = .ok (.ireturn, 1) := by decide +kernel
theorem dX6_count_0 : decode cX6_count 0 = .ok (.iload_n 1, 1) := by decide +kernel
theorem dX6_count_1 : decode cX6_count 1 = .ok (.ifCond .lt 8, 3) := by decide +kernel
theorem dX6_count_4 : decode cX6_count 4 = .ok (.iload_n 1, 1) := by decide +kernel
theorem dX6_count_5 : decode cX6_count 5 = .ok (.iconst 5, 1) := by decide +kernel
theorem dX6_count_6 : decode cX6_count 6 = .ok (.if_icmp .le 11, 3) := by decide +kernel
theorem dX6_count_9 : decode cX6_count 9 = .ok (.new 101, 3) := by decide +kernel
theorem dX6_count_12 : decode cX6_count 12 = .ok (.dup, 1) := by decide +kernel
theorem dX6_count_13 : decode cX6_count 13 = .ok (.invokespecial 103, 3) := by decide +kernel
theorem dX6_count_16 : decode cX6_count 16 = .ok (.athrow, 1) := by decide +kernel
theorem dX6_count_17 : decode cX6_count 17 = .ok (.iload_n 1, 1) := by decide +kernel
theorem dX6_count_18 : decode cX6_count 18 = .ok (.iconst 5, 1) := by decide +kernel
theorem dX6_count_19 : decode cX6_count 19 = .ok (.if_icmp .ne 14, 3) := by decide +kernel
theorem dX6_count_22 : decode cX6_count 22 = .ok (.aload_n 0, 1) := by decide +kernel
theorem dX6_count_23 : decode cX6_count 23 = .ok (.getfield 10, 3) := by decide +kernel
theorem dX6_count_26 : decode cX6_count 26 = .ok (.getfield 30, 3) := by decide +kernel
theorem dX6_count_29 : decode cX6_count 29 = .ok (.getfield 47, 3) := by decide +kernel
theorem dX6_count_32 : decode cX6_count 32 = .ok (.ireturn, 1) := by decide +kernel
theorem dX6_count_33 : decode cX6_count 33 = .ok (.iload_n 1, 1) := by decide +kernel
theorem dX6_count_34 : decode cX6_count 34 = .ok (.iconst 4, 1) := by decide +kernel
theorem dX6_count_35 : decode cX6_count 35 = .ok (.if_icmp .ne 16, 3) := by decide +kernel
theorem dX6_count_38 : decode cX6_count 38 = .ok (.aload_n 0, 1) := by decide +kernel
theorem dX6_count_39 : decode cX6_count 39 = .ok (.getfield 19, 3) := by decide +kernel
theorem dX6_count_42 : decode cX6_count 42 = .ok (.getfield 57, 3) := by decide +kernel
theorem dX6_count_45 : decode cX6_count 45 = .ok (.getfield 65, 3) := by decide +kernel
theorem dX6_count_48 : decode cX6_count 48 = .ok (.goto 9, 3) := by decide +kernel
theorem dX6_count_51 : decode cX6_count 51 = .ok (.aload_n 0, 1) := by decide +kernel
theorem dX6_count_52 : decode cX6_count 52 = .ok (.getfield 23, 3) := by decide +kernel
theorem dX6_count_55 : decode cX6_count 55 = .ok (.iload_n 1, 1) := by decide +kernel
theorem dX6_count_56 : decode cX6_count 56 = .ok (.iaload, 1) := by decide +kernel
theorem dX6_count_57 : decode cX6_count 57 = .ok (.ireturn, 1) := by decide +kernel
theorem dX6_definition_0 : decode cX6_definition 0 = .ok (.iload_n 1, 1) := by decide +kernel
theorem dX6_definition_1 : decode cX6_definition 1 = .ok (.ifCond .lt 26, 3) := by decide +kernel
theorem dX6_definition_4 : decode cX6_definition 4 = .ok (.iload_n 1, 1) := by decide +kernel
theorem dX6_definition_5 : decode cX6_definition 5 = .ok (.aload_n 0, 1) := by decide +kernel
theorem dX6_definition_6 : decode cX6_definition 6 = .ok (.getfield 19, 3) := by decide +kernel
theorem dX6_definition_9 : decode cX6_definition 9 = .ok (.getfield 57, 3) := by decide +kernel
theorem dX6_definition_12 : decode cX6_definition 12 = .ok (.getfield 65, 3) := by decide +kernel
theorem dX6_definition_15 : decode cX6_definition 15 = .ok (.if_icmp .ge 12, 3) := by decide +kernel
theorem dX6_definition_18 : decode cX6_definition 18 = .ok (.iload_n 2, 1) := by decide +kernel
theorem dX6_definition_19 : decode cX6_definition 19 = .ok (.ifCond .lt 8, 3) := by decide +kernel
theorem dX6_definition_22 : decode cX6_definition 22 = .ok (.iload_n 2, 1) := by decide +kernel
theorem dX6_definition_23 : decode cX6_definition 23 = .ok (.iconst 1, 1) := by decide +kernel
theorem dX6_definition_24 : decode cX6_definition 24 = .ok (.if_icmp .le 11, 3) := by decide +kernel
theorem dX6_definition_27 : decode cX6_definition 27 = .ok (.new 101, 3) := by decide +kernel
theorem dX6_definition_30 : decode cX6_definition 30 = .ok (.dup, 1) := by decide +kernel
theorem dX6_definition_31 : decode cX6_definition 31 = .ok (.invokespecial 103, 3) := by decide +kernel
theorem dX6_definition_34 : decode cX6_definition 34 = .ok (.athrow, 1) := by decide +kernel
theorem dX6_definition_35 : decode cX6_definition 35 = .ok (.iload_n 2, 1) := by decide +kernel
theorem dX6_definition_36 : decode cX6_definition 36 = .ok (.ifCond .ne 18, 3) := by decide +kernel
theorem dX6_definition_39 : decode cX6_definition 39 = .ok (.aload_n 0, 1) := by decide +kernel
theorem dX6_definition_40 : decode cX6_definition 40 = .ok (.getfield 19, 3) := by decide +kernel
theorem dX6_definition_43 : decode cX6_definition 43 = .ok (.getfield 57, 3) := by decide +kernel
theorem dX6_definition_46 : decode cX6_definition 46 = .ok (.getfield 104, 3) := by decide +kernel
theorem dX6_definition_49 : decode cX6_definition 49 = .ok (.iload_n 1, 1) := by decide +kernel
theorem dX6_definition_50 : decode cX6_definition 50 = .ok (.iaload, 1) := by decide +kernel
theorem dX6_definition_51 : decode cX6_definition 51 = .ok (.goto 15, 3) := by decide +kernel
theorem dX6_definition_54 : decode cX6_definition 54 = .ok (.aload_n 0, 1) := by decide +kernel
theorem dX6_definition_55 : decode cX6_definition 55 = .ok (.getfield 19, 3) := by decide +kernel
theorem dX6_definition_58 : decode cX6_definition 58 = .ok (.getfield 57, 3) := by decide +kernel
theorem dX6_definition_61 : decode cX6_definition 61 = .ok (.getfield 107, 3) := by decide +kernel
theorem dX6_definition_64 : decode cX6_definition 64 = .ok (.iload_n 1, 1) := by decide +kernel
theorem dX6_definition_65 : decode cX6_definition 65 = .ok (.iaload, 1) := by decide +kernel
theorem dX6_definition_66 : decode cX6_definition 66 = .ok (.ireturn, 1) := by decide +kernel
theorem dX6_clear_0 : decode cX6_clear 0 = .ok (.aload_n 0, 1) := by decide +kernel
theorem dX6_clear_1 : decode cX6_clear 1 = .ok (.getfield 19, 3) := by decide +kernel
theorem dX6_clear_4 : decode cX6_clear 4 = .ok (.getfield 57, 3) := by decide +kernel
theorem dX6_clear_7 : decode cX6_clear 7 = .ok (.iconst 0, 1) := by decide +kernel
theorem dX6_clear_8 : decode cX6_clear 8 = .ok (.putfield 65, 3) := by decide +kernel
theorem dX6_clear_11 : decode cX6_clear 11 = .ok (.aload_n 0, 1) := by decide +kernel
theorem dX6_clear_12 : decode cX6_clear 12 = .ok (.getfield 10, 3) := by decide +kernel
theorem dX6_clear_15 : decode cX6_clear 15 = .ok (.getfield 30, 3) := by decide +kernel
theorem dX6_clear_18 : decode cX6_clear 18 = .ok (.invokevirtual 54, 3) := by decide +kernel
theorem dX6_clear_21 : decode cX6_clear 21 = .ok (.aload_n 0, 1) := by decide +kernel
theorem dX6_clear_22 : decode cX6_clear 22 = .ok (.invokevirtual 80, 3) := by decide +kernel
theorem dX6_clear_25 : decode cX6_clear 25 = .ok (.return_, 1) := by decide +kernel
theorem dX6_forgetRun_0 : decode cX6_forgetRun 0 = .ok (.aload_n 0, 1) := by decide +kernel
theorem dX6_forgetRun_1 : decode cX6_forgetRun 1 = .ok (.iconst 0, 1) := by decide +kernel
theorem dX6_forgetRun_2 : decode cX6_forgetRun 2 = .ok (.putfield 86, 3) := by decide +kernel
theorem dX6_forgetRun_5 : decode cX6_forgetRun 5 = .ok (.iconst 0, 1) := by decide +kernel
theorem dX6_forgetRun_6 : decode cX6_forgetRun 6 = .ok (.istore_n 1, 1) := by decide +kernel
theorem dX6_forgetRun_7 : decode cX6_forgetRun 7 = .ok (.iload_n 1, 1) := by decide +kernel
theorem dX6_forgetRun_8 : decode cX6_forgetRun 8 = .ok (.iconst 4, 1) := by decide +kernel
theorem dX6_forgetRun_9 : decode cX6_forgetRun 9 = .ok (.if_icmp .ge 16, 3) := by decide +kernel
theorem dX6_forgetRun_12 : decode cX6_forgetRun 12 = .ok (.aload_n 0, 1) := by decide +kernel
theorem dX6_forgetRun_13 : decode cX6_forgetRun 13 = .ok (.getfield 23, 3) := by decide +kernel
theorem dX6_forgetRun_16 : decode cX6_forgetRun 16 = .ok (.iload_n 1, 1) := by decide +kernel
theorem dX6_forgetRun_17 : decode cX6_forgetRun 17 = .ok (.iconst 0, 1) := by decide +kernel
theorem dX6_forgetRun_18 : decode cX6_forgetRun 18 = .ok (.iastore, 1) := by decide +kernel
theorem dX6_forgetRun_19 : decode cX6_forgetRun 19 = .ok (.iinc 1 1, 3) := by decide +kernel
theorem dX6_forgetRun_22 : decode cX6_forgetRun 22 = .ok (.goto (-15), 3) := by decide +kernel
theorem dX6_forgetRun_25 : decode cX6_forgetRun 25 = .ok (.return_, 1) := by decide +kernel
end
section
theorem dX7_init_0 : decode cX7_init 0 = .ok (.aload_n 0, 1) := by decide +kernel
theorem dX7_init_1 : decode cX7_init 1 = .ok (.invokespecial 1, 3) := by decide +kernel
theorem dX7_init_4 : decode cX7_init 4 = .ok (.aload_n 0, 1) := by decide +kernel
theorem dX7_init_5 : decode cX7_init 5 = .ok (.sipush 1500, 3) := by decide +kernel
theorem dX7_init_8 : decode cX7_init 8 = .ok (.newarray .byte, 2) := by decide +kernel
theorem dX7_init_10 : decode cX7_init 10 = .ok (.putfield 7, 3) := by decide +kernel
theorem dX7_init_13 : decode cX7_init 13 = .ok (.aload_n 0, 1) := by decide +kernel
theorem dX7_init_14 : decode cX7_init 14 = .ok (.bipush 24, 2) := by decide +kernel
theorem dX7_init_16 : decode cX7_init 16 = .ok (.newarray .int, 2) := by decide +kernel
theorem dX7_init_18 : decode cX7_init 18 = .ok (.putfield 13, 3) := by decide +kernel
theorem dX7_init_21 : decode cX7_init 21 = .ok (.aload_n 0, 1) := by decide +kernel
theorem dX7_init_22 : decode cX7_init 22 = .ok (.bipush 24, 2) := by decide +kernel
theorem dX7_init_24 : decode cX7_init 24 = .ok (.newarray .int, 2) := by decide +kernel
theorem dX7_init_26 : decode cX7_init 26 = .ok (.putfield 17, 3) := by decide +kernel
theorem dX7_init_29 : decode cX7_init 29 = .ok (.aload_n 0, 1) := by decide +kernel
theorem dX7_init_30 : decode cX7_init 30 = .ok (.bipush 24, 2) := by decide +kernel
theorem dX7_init_32 : decode cX7_init 32 = .ok (.newarray .int, 2) := by decide +kernel
theorem dX7_init_34 : decode cX7_init 34 = .ok (.putfield 20, 3) := by decide +kernel
theorem dX7_init_37 : decode cX7_init 37 = .ok (.aload_n 0, 1) := by decide +kernel
theorem dX7_init_38 : decode cX7_init 38 = .ok (.sipush 1440, 3) := by decide +kernel
theorem dX7_init_41 : decode cX7_init 41 = .ok (.newarray .int, 2) := by decide +kernel
theorem dX7_init_43 : decode cX7_init 43 = .ok (.putfield 23, 3) := by decide +kernel
theorem dX7_init_46 : decode cX7_init 46 = .ok (.aload_n 0, 1) := by decide +kernel
theorem dX7_init_47 : decode cX7_init 47 = .ok (.sipush 1440, 3) := by decide +kernel
theorem dX7_init_50 : decode cX7_init 50 = .ok (.newarray .int, 2) := by decide +kernel
theorem dX7_init_52 : decode cX7_init 52 = .ok (.putfield 26, 3) := by decide +kernel
theorem dX7_init_55 : decode cX7_init 55 = .ok (.aload_n 0, 1) := by decide +kernel
theorem dX7_init_56 : decode cX7_init 56 = .ok (.sipush 1440, 3) := by decide +kernel
theorem dX7_init_59 : decode cX7_init 59 = .ok (.newarray .int, 2) := by decide +kernel
theorem dX7_init_61 : decode cX7_init 61 = .ok (.putfield 29, 3) := by decide +kernel
theorem dX7_init_64 : decode cX7_init 64 = .ok (.aload_n 0, 1) := by decide +kernel
theorem dX7_init_65 : decode cX7_init 65 = .ok (.sipush 1440, 3) := by decide +kernel
theorem dX7_init_68 : decode cX7_init 68 = .ok (.newarray .int, 2) := by decide +kernel
theorem dX7_init_70 : decode cX7_init 70 = .ok (.putfield 32, 3) := by decide +kernel
theorem dX7_init_73 : decode cX7_init 73 = .ok (.aload_n 0, 1) := by decide +kernel
theorem dX7_init_74 : decode cX7_init 74 = .ok (.sipush 1440, 3) := by decide +kernel
theorem dX7_init_77 : decode cX7_init 77 = .ok (.newarray .int, 2) := by decide +kernel
theorem dX7_init_79 : decode cX7_init 79 = .ok (.putfield 35, 3) := by decide +kernel
theorem dX7_init_82 : decode cX7_init 82 = .ok (.aload_n 0, 1) := by decide +kernel
theorem dX7_init_83 : decode cX7_init 83 = .ok (.sipush 1440, 3) := by decide +kernel
theorem dX7_init_86 : decode cX7_init 86 = .ok (.newarray .int, 2) := by decide +kernel
theorem dX7_init_88 : decode cX7_init 88 = .ok (.putfield 38, 3) := by decide +kernel
theorem dX7_init_91 : decode cX7_init 91 = .ok (.aload_n 0, 1) := by decide +kernel
theorem dX7_init_92 : decode cX7_init 92 = .ok (.sipush 1440, 3) := by decide +kernel
theorem dX7_init_95 : decode cX7_init 95 = .ok (.newarray .int, 2) := by decide +kernel
theorem dX7_init_97 : decode cX7_init 97 = .ok (.putfield 41, 3) := by decide +kernel
theorem dX7_init_100 : decode cX7_init 100 = .ok (.aload_n 0, 1) := by decide +kernel
theorem dX7_init_101 : decode cX7_init 101 = .ok (.sipush 1440, 3) := by decide +kernel
theorem dX7_init_104 : decode cX7_init 104 = .ok (.newarray .int, 2) := by decide +kernel
theorem dX7_init_106 : decode cX7_init 106 = .ok (.putfield 44, 3) := by decide +kernel
theorem dX7_init_109 : decode cX7_init 109 = .ok (.aload_n 0, 1) := by decide +kernel
theorem dX7_init_110 : decode cX7_init 110 = .ok (.sipush 1440, 3) := by decide +kernel
theorem dX7_init_113 : decode cX7_init 113 = .ok (.newarray .int, 2) := by decide +kernel
theorem dX7_init_115 : decode cX7_init 115 = .ok (.putfield 47, 3) := by decide +kernel
theorem dX7_init_118 : decode cX7_init 118 = .ok (.aload_n 0, 1) := by decide +kernel
theorem dX7_init_119 : decode cX7_init 119 = .ok (.sipush 1440, 3) := by decide +kernel
theorem dX7_init_122 : decode cX7_init 122 = .ok (.newarray .int, 2) := by decide +kernel
theorem dX7_init_124 : decode cX7_init 124 = .ok (.putfield 50, 3) := by decide +kernel
theorem dX7_init_127 : decode cX7_init 127 = .ok (.aload_n 0, 1) := by decide +kernel
theorem dX7_init_128 : decode cX7_init 128 = .ok (.bipush 24, 2) := by decide +kernel
theorem dX7_init_130 : decode cX7_init 130 = .ok (.newarray .long, 2) := by decide +kernel
theorem dX7_init_132 : decode cX7_init 132 = .ok (.putfield 53, 3) := by decide +kernel
theorem dX7_init_135 : decode cX7_init 135 = .ok (.aload_n 0, 1) := by decide +kernel
theorem dX7_init_136 : decode cX7_init 136 = .ok (.bipush 6, 2) := by decide +kernel
theorem dX7_init_138 : decode cX7_init 138 = .ok (.newarray .long, 2) := by decide +kernel
theorem dX7_init_140 : decode cX7_init 140 = .ok (.putfield 57, 3) := by decide +kernel
theorem dX7_init_143 : decode cX7_init 143 = .ok (.aload_n 0, 1) := by decide +kernel
theorem dX7_init_144 : decode cX7_init 144 = .ok (.bipush 61, 2) := by decide +kernel
theorem dX7_init_146 : decode cX7_init 146 = .ok (.newarray .long, 2) := by decide +kernel
theorem dX7_init_148 : decode cX7_init 148 = .ok (.putfield 60, 3) := by decide +kernel
theorem dX7_init_151 : decode cX7_init 151 = .ok (.aload_n 0, 1) := by decide +kernel
theorem dX7_init_152 : decode cX7_init 152 = .ok (.bipush 61, 2) := by decide +kernel
theorem dX7_init_154 : decode cX7_init 154 = .ok (.newarray .int, 2) := by decide +kernel
theorem dX7_init_156 : decode cX7_init 156 = .ok (.putfield 63, 3) := by decide +kernel
theorem dX7_init_159 : decode cX7_init 159 = .ok (.aload_n 0, 1) := by decide +kernel
theorem dX7_init_160 : decode cX7_init 160 = .ok (.sipush 1440, 3) := by decide +kernel
theorem dX7_init_163 : decode cX7_init 163 = .ok (.newarray .long, 2) := by decide +kernel
theorem dX7_init_165 : decode cX7_init 165 = .ok (.putfield 66, 3) := by decide +kernel
theorem dX7_init_168 : decode cX7_init 168 = .ok (.aload_n 0, 1) := by decide +kernel
theorem dX7_init_169 : decode cX7_init 169 = .ok (.sipush 12000, 3) := by decide +kernel
theorem dX7_init_172 : decode cX7_init 172 = .ok (.newarray .int, 2) := by decide +kernel
theorem dX7_init_174 : decode cX7_init 174 = .ok (.putfield 69, 3) := by decide +kernel
theorem dX7_init_177 : decode cX7_init 177 = .ok (.aload_n 0, 1) := by decide +kernel
theorem dX7_init_178 : decode cX7_init 178 = .ok (.sipush 12000, 3) := by decide +kernel
theorem dX7_init_181 : decode cX7_init 181 = .ok (.newarray .int, 2) := by decide +kernel
theorem dX7_init_183 : decode cX7_init 183 = .ok (.putfield 72, 3) := by decide +kernel
theorem dX7_init_186 : decode cX7_init 186 = .ok (.aload_n 0, 1) := by decide +kernel
theorem dX7_init_187 : decode cX7_init 187 = .ok (.sipush 2000, 3) := by decide +kernel
theorem dX7_init_190 : decode cX7_init 190 = .ok (.newarray .int, 2) := by decide +kernel
theorem dX7_init_192 : decode cX7_init 192 = .ok (.putfield 75, 3) := by decide +kernel
theorem dX7_init_195 : decode cX7_init 195 = .ok (.aload_n 0, 1) := by decide +kernel
theorem dX7_init_196 : decode cX7_init 196 = .ok (.sipush 300, 3) := by decide +kernel
theorem dX7_init_199 : decode cX7_init 199 = .ok (.newarray .int, 2) := by decide +kernel
theorem dX7_init_201 : decode cX7_init 201 = .ok (.putfield 78, 3) := by decide +kernel
theorem dX7_init_204 : decode cX7_init 204 = .ok (.aload_n 0, 1) := by decide +kernel
theorem dX7_init_205 : decode cX7_init 205 = .ok (.sipush 1800, 3) := by decide +kernel
theorem dX7_init_208 : decode cX7_init 208 = .ok (.newarray .int, 2) := by decide +kernel
theorem dX7_init_210 : decode cX7_init 210 = .ok (.putfield 81, 3) := by decide +kernel
theorem dX7_init_213 : decode cX7_init 213 = .ok (.aload_n 0, 1) := by decide +kernel
theorem dX7_init_214 : decode cX7_init 214 = .ok (.sipush 1800, 3) := by decide +kernel
theorem dX7_init_217 : decode cX7_init 217 = .ok (.newarray .int, 2) := by decide +kernel
theorem dX7_init_219 : decode cX7_init 219 = .ok (.putfield 84, 3) := by decide +kernel
theorem dX7_init_222 : decode cX7_init 222 = .ok (.aload_n 0, 1) := by decide +kernel
theorem dX7_init_223 : decode cX7_init 223 = .ok (.sipush 1800, 3) := by decide +kernel
theorem dX7_init_226 : decode cX7_init 226 = .ok (.newarray .int, 2) := by decide +kernel
theorem dX7_init_228 : decode cX7_init 228 = .ok (.putfield 87, 3) := by decide +kernel
theorem dX7_init_231 : decode cX7_init 231 = .ok (.aload_n 0, 1) := by decide +kernel
theorem dX7_init_232 : decode cX7_init 232 = .ok (.sipush 18000, 3) := by decide +kernel
theorem dX7_init_235 : decode cX7_init 235 = .ok (.newarray .boolean, 2) := by decide +kernel
theorem dX7_init_237 : decode cX7_init 237 = .ok (.putfield 90, 3) := by decide +kernel
theorem dX7_init_240 : decode cX7_init 240 = .ok (.aload_n 0, 1) := by decide +kernel
theorem dX7_init_241 : decode cX7_init 241 = .ok (.sipush 18000, 3) := by decide +kernel
theorem dX7_init_244 : decode cX7_init 244 = .ok (.newarray .boolean, 2) := by decide +kernel
theorem dX7_init_246 : decode cX7_init 246 = .ok (.putfield 94, 3) := by decide +kernel
theorem dX7_init_249 : decode cX7_init 249 = .ok (.aload_n 0, 1) := by decide +kernel
theorem dX7_init_250 : decode cX7_init 250 = .ok (.sipush 18000, 3) := by decide +kernel
theorem dX7_init_253 : decode cX7_init 253 = .ok (.newarray .int, 2) := by decide +kernel
theorem dX7_init_255 : decode cX7_init 255 = .ok (.putfield 97, 3) := by decide +kernel
theorem dX7_init_258 : decode cX7_init 258 = .ok (.aload_n 0, 1) := by decide +kernel
theorem dX7_init_259 : decode cX7_init 259 = .ok (.sipush 18000, 3) := by decide +kernel
theorem dX7_init_262 : decode cX7_init 262 = .ok (.newarray .int, 2) := by decide +kernel
theorem dX7_init_264 : decode cX7_init 264 = .ok (.putfield 100, 3) := by decide +kernel
theorem dX7_init_267 : decode cX7_init 267 = .ok (.aload_n 0, 1) := by decide +kernel
theorem dX7_init_268 : decode cX7_init 268 = .ok (.sipush 18000, 3) := by decide +kernel
theorem dX7_init_271 : decode cX7_init 271 = .ok (.newarray .int, 2) := by decide +kernel
theorem dX7_init_273 : decode cX7_init 273 = .ok (.putfield 103, 3) := by decide +kernel
theorem dX7_init_276 : decode cX7_init 276 = .ok (.aload_n 0, 1) := by decide +kernel
theorem dX7_init_277 : decode cX7_init 277 = .ok (.sipush 18000, 3) := by decide +kernel
theorem dX7_init_280 : decode cX7_init 280 = .ok (.newarray .int, 2) := by decide +kernel
theorem dX7_init_282 : decode cX7_init 282 = .ok (.putfield 106, 3) := by decide +kernel
theorem dX7_init_285 : decode cX7_init 285 = .ok (.aload_n 0, 1) := by decide +kernel
theorem dX7_init_286 : decode cX7_init 286 = .ok (.iconst (-1), 1) := by decide +kernel
theorem dX7_init_287 : decode cX7_init 287 = .ok (.putfield 109, 3) := by decide +kernel
theorem dX7_init_290 : decode cX7_init 290 = .ok (.aload_n 0, 1) := by decide +kernel
theorem dX7_init_291 : decode cX7_init 291 = .ok (.iconst 4, 1) := by decide +kernel
theorem dX7_init_292 : decode cX7_init 292 = .ok (.newarray .int, 2) := by decide +kernel
theorem dX7_init_294 : decode cX7_init 294 = .ok (.putfield 113, 3) := by decide +kernel
theorem dX7_init_297 : decode cX7_init 297 = .ok (.return_, 1) := by decide +kernel
theorem dX7_thrown_0 : decode cX7_thrown 0 = .ok (.aload_n 0, 1) := by decide +kernel
theorem dX7_thrown_1 : decode cX7_thrown 1 = .ok (.getfield 116, 3) := by decide +kernel
theorem dX7_thrown_4 : decode cX7_thrown 4 = .ok (.ireturn, 1) := by decide +kernel
theorem dX7_feed_0 : decode cX7_feed 0 = .ok (.aload_n 0, 1) := by decide +kernel
theorem dX7_feed_1 : decode cX7_feed 1 = .ok (.iload 5, 2) := by decide +kernel
theorem dX7_feed_3 : decode cX7_feed 3 = .ok (.iconst 1, 1) := by decide +kernel
theorem dX7_feed_4 : decode cX7_feed 4 = .ok (.if_icmp .lt 10, 3) := by decide +kernel
theorem dX7_feed_7 : decode cX7_feed 7 = .ok (.iload 5, 2) := by decide +kernel
theorem dX7_feed_9 : decode cX7_feed 9 = .ok (.bipush 16, 2) := by decide +kernel
theorem dX7_feed_11 : decode cX7_feed 11 = .ok (.if_icmp .le 7, 3) := by decide +kernel
theorem dX7_feed_14 : decode cX7_feed 14 = .ok (.iconst 1, 1) := by decide +kernel
theorem dX7_feed_15 : decode cX7_feed 15 = .ok (.goto 21, 3) := by decide +kernel
theorem dX7_feed_18 : decode cX7_feed 18 = .ok (.aload_n 0, 1) := by decide +kernel
theorem dX7_feed_19 : decode cX7_feed 19 = .ok (.getfield 119, 3) := by decide +kernel
theorem dX7_feed_22 : decode cX7_feed 22 = .ok (.iload 5, 2) := by decide +kernel
theorem dX7_feed_24 : decode cX7_feed 24 = .ok (.iadd, 1) := by decide +kernel
theorem dX7_feed_25 : decode cX7_feed 25 = .ok (.sipush 1500, 3) := by decide +kernel
theorem dX7_feed_28 : decode cX7_feed 28 = .ok (.if_icmp .le 7, 3) := by decide +kernel
theorem dX7_feed_31 : decode cX7_feed 31 = .ok (.iconst 2, 1) := by decide +kernel
theorem dX7_feed_32 : decode cX7_feed 32 = .ok (.goto 4, 3) := by decide +kernel
theorem dX7_feed_35 : decode cX7_feed 35 = .ok (.iconst 0, 1) := by decide +kernel
theorem dX7_feed_36 : decode cX7_feed 36 = .ok (.putfield 116, 3) := by decide +kernel
theorem dX7_feed_39 : decode cX7_feed 39 = .ok (.iconst 0, 1) := by decide +kernel
theorem dX7_feed_40 : decode cX7_feed 40 = .ok (.istore 6, 2) := by decide +kernel
theorem dX7_feed_42 : decode cX7_feed 42 = .ok (.iload 6, 2) := by decide +kernel
theorem dX7_feed_44 : decode cX7_feed 44 = .ok (.iload 5, 2) := by decide +kernel
theorem dX7_feed_46 : decode cX7_feed 46 = .ok (.if_icmp .ge 85, 3) := by decide +kernel
theorem dX7_feed_49 : decode cX7_feed 49 = .ok (.aload_n 0, 1) := by decide +kernel
theorem dX7_feed_50 : decode cX7_feed 50 = .ok (.getfield 116, 3) := by decide +kernel
theorem dX7_feed_53 : decode cX7_feed 53 = .ok (.ifCond .ne 78, 3) := by decide +kernel
theorem dX7_feed_56 : decode cX7_feed 56 = .ok (.iload 6, 2) := by decide +kernel
theorem dX7_feed_58 : decode cX7_feed 58 = .ok (.iconst 4, 1) := by decide +kernel
theorem dX7_feed_59 : decode cX7_feed 59 = .ok (.if_icmp .ge 7, 3) := by decide +kernel
theorem dX7_feed_62 : decode cX7_feed 62 = .ok (.iload_n 1, 1) := by decide +kernel
theorem dX7_feed_63 : decode cX7_feed 63 = .ok (.goto 27, 3) := by decide +kernel
theorem dX7_feed_66 : decode cX7_feed 66 = .ok (.iload 6, 2) := by decide +kernel
theorem dX7_feed_68 : decode cX7_feed 68 = .ok (.bipush 8, 2) := by decide +kernel
theorem dX7_feed_70 : decode cX7_feed 70 = .ok (.if_icmp .ge 7, 3) := by decide +kernel
theorem dX7_feed_73 : decode cX7_feed 73 = .ok (.iload_n 2, 1) := by decide +kernel
theorem dX7_feed_74 : decode cX7_feed 74 = .ok (.goto 16, 3) := by decide +kernel
theorem dX7_feed_77 : decode cX7_feed 77 = .ok (.iload 6, 2) := by decide +kernel
theorem dX7_feed_79 : decode cX7_feed 79 = .ok (.bipush 12, 2) := by decide +kernel
theorem dX7_feed_81 : decode cX7_feed 81 = .ok (.if_icmp .ge 7, 3) := by decide +kernel
theorem dX7_feed_84 : decode cX7_feed 84 = .ok (.iload_n 3, 1) := by decide +kernel
theorem dX7_feed_85 : decode cX7_feed 85 = .ok (.goto 5, 3) := by decide +kernel
theorem dX7_feed_88 : decode cX7_feed 88 = .ok (.iload 4, 2) := by decide +kernel
theorem dX7_feed_90 : decode cX7_feed 90 = .ok (.istore 7, 2) := by decide +kernel
theorem dX7_feed_92 : decode cX7_feed 92 = .ok (.aload_n 0, 1) := by decide +kernel
theorem dX7_feed_93 : decode cX7_feed 93 = .ok (.getfield 7, 3) := by decide +kernel
theorem dX7_feed_96 : decode cX7_feed 96 = .ok (.aload_n 0, 1) := by decide +kernel
theorem dX7_feed_97 : decode cX7_feed 97 = .ok (.getfield 119, 3) := by decide +kernel
theorem dX7_feed_100 : decode cX7_feed 100 = .ok (.iload 7, 2) := by decide +kernel
theorem dX7_feed_102 : decode cX7_feed 102 = .ok (.bipush 24, 2) := by decide +kernel
theorem dX7_feed_104 : decode cX7_feed 104 = .ok (.bipush 8, 2) := by decide +kernel
theorem dX7_feed_106 : decode cX7_feed 106 = .ok (.iload 6, 2) := by decide +kernel
theorem dX7_feed_108 : decode cX7_feed 108 = .ok (.iconst 4, 1) := by decide +kernel
theorem dX7_feed_109 : decode cX7_feed 109 = .ok (.irem, 1) := by decide +kernel
theorem dX7_feed_110 : decode cX7_feed 110 = .ok (.imul, 1) := by decide +kernel
theorem dX7_feed_111 : decode cX7_feed 111 = .ok (.isub, 1) := by decide +kernel
theorem dX7_feed_112 : decode cX7_feed 112 = .ok (.ishr, 1) := by decide +kernel
theorem dX7_feed_113 : decode cX7_feed 113 = .ok (.i2b, 1) := by decide +kernel
theorem dX7_feed_114 : decode cX7_feed 114 = .ok (.bastore, 1) := by decide +kernel
theorem dX7_feed_115 : decode cX7_feed 115 = .ok (.aload_n 0, 1) := by decide +kernel
theorem dX7_feed_116 : decode cX7_feed 116 = .ok (.dup, 1) := by decide +kernel
theorem dX7_feed_117 : decode cX7_feed 117 = .ok (.getfield 119, 3) := by decide +kernel
theorem dX7_feed_120 : decode cX7_feed 120 = .ok (.iconst 1, 1) := by decide +kernel
theorem dX7_feed_121 : decode cX7_feed 121 = .ok (.iadd, 1) := by decide +kernel
theorem dX7_feed_122 : decode cX7_feed 122 = .ok (.putfield 119, 3) := by decide +kernel
theorem dX7_feed_125 : decode cX7_feed 125 = .ok (.iinc 6 1, 3) := by decide +kernel
theorem dX7_feed_128 : decode cX7_feed 128 = .ok (.goto (-86), 3) := by decide +kernel
theorem dX7_feed_131 : decode cX7_feed 131 = .ok (.aload_n 0, 1) := by decide +kernel
theorem dX7_feed_132 : decode cX7_feed 132 = .ok (.getfield 116, 3) := by decide +kernel
theorem dX7_feed_135 : decode cX7_feed 135 = .ok (.ifCond .le 7, 3) := by decide +kernel
theorem dX7_feed_138 : decode cX7_feed 138 = .ok (.iconst 0, 1) := by decide +kernel
theorem dX7_feed_139 : decode cX7_feed 139 = .ok (.goto 7, 3) := by decide +kernel
theorem dX7_feed_142 : decode cX7_feed 142 = .ok (.aload_n 0, 1) := by decide +kernel
theorem dX7_feed_143 : decode cX7_feed 143 = .ok (.getfield 119, 3) := by decide +kernel
theorem dX7_feed_146 : decode cX7_feed 146 = .ok (.ireturn, 1) := by decide +kernel
theorem dX7_isBlank_0 : decode cX7_isBlank 0 = .ok (.iload_n 0, 1) := by decide +kernel
theorem dX7_isBlank_1 : decode cX7_isBlank 1 = .ok (.bipush 9, 2) := by decide +kernel
theorem dX7_isBlank_3 : decode cX7_isBlank 3 = .ok (.if_icmp .eq 21, 3) := by decide +kernel
theorem dX7_isBlank_6 : decode cX7_isBlank 6 = .ok (.iload_n 0, 1) := by decide +kernel
theorem dX7_isBlank_7 : decode cX7_isBlank 7 = .ok (.bipush 10, 2) := by decide +kernel
theorem dX7_isBlank_9 : decode cX7_isBlank 9 = .ok (.if_icmp .eq 15, 3) := by decide +kernel
theorem dX7_isBlank_12 : decode cX7_isBlank 12 = .ok (.iload_n 0, 1) := by decide +kernel
theorem dX7_isBlank_13 : decode cX7_isBlank 13 = .ok (.bipush 13, 2) := by decide +kernel
theorem dX7_isBlank_15 : decode cX7_isBlank 15 = .ok (.if_icmp .eq 9, 3) := by decide +kernel
theorem dX7_isBlank_18 : decode cX7_isBlank 18 = .ok (.iload_n 0, 1) := by decide +kernel
theorem dX7_isBlank_19 : decode cX7_isBlank 19 = .ok (.bipush 32, 2) := by decide +kernel
theorem dX7_isBlank_21 : decode cX7_isBlank 21 = .ok (.if_icmp .ne 7, 3) := by decide +kernel
theorem dX7_isBlank_24 : decode cX7_isBlank 24 = .ok (.iconst 1, 1) := by decide +kernel
theorem dX7_isBlank_25 : decode cX7_isBlank 25 = .ok (.goto 4, 3) := by decide +kernel
theorem dX7_isBlank_28 : decode cX7_isBlank 28 = .ok (.iconst 0, 1) := by decide +kernel
theorem dX7_isBlank_29 : decode cX7_isBlank 29 = .ok (.ireturn, 1) := by decide +kernel
theorem dX7_isLetter_0 : decode cX7_isLetter 0 = .ok (.iload_n 0, 1) := by decide +kernel
theorem dX7_isLetter_1 : decode cX7_isLetter 1 = .ok (.bipush 97, 2) := by decide +kernel
theorem dX7_isLetter_3 : decode cX7_isLetter 3 = .ok (.if_icmp .lt 13, 3) := by decide +kernel
theorem dX7_isLetter_6 : decode cX7_isLetter 6 = .ok (.iload_n 0, 1) := by decide +kernel
theorem dX7_isLetter_7 : decode cX7_isLetter 7 = .ok (.bipush 122, 2) := by decide +kernel
theorem dX7_isLetter_9 : decode cX7_isLetter 9 = .ok (.if_icmp .gt 7, 3) := by decide +kernel
theorem dX7_isLetter_12 : decode cX7_isLetter 12 = .ok (.iconst 1, 1) := by decide +kernel
theorem dX7_isLetter_13 : decode cX7_isLetter 13 = .ok (.goto 4, 3) := by decide +kernel
theorem dX7_isLetter_16 : decode cX7_isLetter 16 = .ok (.iconst 0, 1) := by decide +kernel
theorem dX7_isLetter_17 : decode cX7_isLetter 17 = .ok (.ireturn, 1) := by decide +kernel
theorem dX7_isDigit_0 : decode cX7_isDigit 0 = .ok (.iload_n 0, 1) := by decide +kernel
theorem dX7_isDigit_1 : decode cX7_isDigit 1 = .ok (.bipush 48, 2) := by decide +kernel
theorem dX7_isDigit_3 : decode cX7_isDigit 3 = .ok (.if_icmp .lt 13, 3) := by decide +kernel
theorem dX7_isDigit_6 : decode cX7_isDigit 6 = .ok (.iload_n 0, 1) := by decide +kernel
theorem dX7_isDigit_7 : decode cX7_isDigit 7 = .ok (.bipush 57, 2) := by decide +kernel
theorem dX7_isDigit_9 : decode cX7_isDigit 9 = .ok (.if_icmp .gt 7, 3) := by decide +kernel
theorem dX7_isDigit_12 : decode cX7_isDigit 12 = .ok (.iconst 1, 1) := by decide +kernel
theorem dX7_isDigit_13 : decode cX7_isDigit 13 = .ok (.goto 4, 3) := by decide +kernel
theorem dX7_isDigit_16 : decode cX7_isDigit 16 = .ok (.iconst 0, 1) := by decide +kernel
theorem dX7_isDigit_17 : decode cX7_isDigit 17 = .ok (.ireturn, 1) := by decide +kernel
theorem dX7_isRow_0 : decode cX7_isRow 0 = .ok (.iload_n 1, 1) := by decide +kernel
theorem dX7_isRow_1 : decode cX7_isRow 1 = .ok (.aload_n 0, 1) := by decide +kernel
theorem dX7_isRow_2 : decode cX7_isRow 2 = .ok (.getfield 119, 3) := by decide +kernel
theorem dX7_isRow_5 : decode cX7_isRow 5 = .ok (.if_icmp .ge 31, 3) := by decide +kernel
theorem dX7_isRow_8 : decode cX7_isRow 8 = .ok (.aload_n 0, 1) := by decide +kernel
theorem dX7_isRow_9 : decode cX7_isRow 9 = .ok (.getfield 7, 3) := by decide +kernel
theorem dX7_isRow_12 : decode cX7_isRow 12 = .ok (.iload_n 1, 1) := by decide +kernel
theorem dX7_isRow_13 : decode cX7_isRow 13 = .ok (.baload, 1) := by decide +kernel
theorem dX7_isRow_14 : decode cX7_isRow 14 = .ok (.invokestatic 122, 3) := by decide +kernel
theorem dX7_isRow_17 : decode cX7_isRow 17 = .ok (.ifCond .ne 15, 3) := by decide +kernel
theorem dX7_isRow_20 : decode cX7_isRow 20 = .ok (.aload_n 0, 1) := by decide +kernel
theorem dX7_isRow_21 : decode cX7_isRow 21 = .ok (.getfield 7, 3) := by decide +kernel
theorem dX7_isRow_24 : decode cX7_isRow 24 = .ok (.iload_n 1, 1) := by decide +kernel
theorem dX7_isRow_25 : decode cX7_isRow 25 = .ok (.baload, 1) := by decide +kernel
theorem dX7_isRow_26 : decode cX7_isRow 26 = .ok (.invokestatic 126, 3) := by decide +kernel
theorem dX7_isRow_29 : decode cX7_isRow 29 = .ok (.ifCond .eq 7, 3) := by decide +kernel
theorem dX7_isRow_32 : decode cX7_isRow 32 = .ok (.iconst 1, 1) := by decide +kernel
theorem dX7_isRow_33 : decode cX7_isRow 33 = .ok (.goto 4, 3) := by decide +kernel
theorem dX7_isRow_36 : decode cX7_isRow 36 = .ok (.iconst 0, 1) := by decide +kernel
theorem dX7_isRow_37 : decode cX7_isRow 37 = .ok (.ireturn, 1) := by decide +kernel
theorem dX7_is_0 : decode cX7_is 0 = .ok (.iload_n 1, 1) := by decide +kernel
theorem dX7_is_1 : decode cX7_is 1 = .ok (.ifCond .ne 7, 3) := by decide +kernel
theorem dX7_is_4 : decode cX7_is 4 = .ok (.iconst 0, 1) := by decide +kernel
theorem dX7_is_5 : decode cX7_is 5 = .ok (.goto 29, 3) := by decide +kernel
theorem dX7_is_8 : decode cX7_is 8 = .ok (.iload_n 2, 1) := by decide +kernel
theorem dX7_is_9 : decode cX7_is 9 = .ok (.ifCond .ne 7, 3) := by decide +kernel
theorem dX7_is_12 : decode cX7_is 12 = .ok (.iconst 1, 1) := by decide +kernel
theorem dX7_is_13 : decode cX7_is 13 = .ok (.goto 21, 3) := by decide +kernel
theorem dX7_is_16 : decode cX7_is 16 = .ok (.iload_n 3, 1) := by decide +kernel
theorem dX7_is_17 : decode cX7_is 17 = .ok (.ifCond .ne 7, 3) := by decide +kernel
theorem dX7_is_20 : decode cX7_is 20 = .ok (.iconst 2, 1) := by decide +kernel
theorem dX7_is_21 : decode cX7_is 21 = .ok (.goto 13, 3) := by decide +kernel
theorem dX7_is_24 : decode cX7_is 24 = .ok (.iload 4, 2) := by decide +kernel
theorem dX7_is_26 : decode cX7_is 26 = .ok (.ifCond .ne 7, 3) := by decide +kernel
theorem dX7_is_29 : decode cX7_is 29 = .ok (.iconst 3, 1) := by decide +kernel
theorem dX7_is_30 : decode cX7_is 30 = .ok (.goto 4, 3) := by decide +kernel
theorem dX7_is_33 : decode cX7_is 33 = .ok (.iconst 4, 1) := by decide +kernel
theorem dX7_is_34 : decode cX7_is 34 = .ok (.istore 5, 2) := by decide +kernel
theorem dX7_is_36 : decode cX7_is 36 = .ok (.aload_n 0, 1) := by decide +kernel
theorem dX7_is_37 : decode cX7_is 37 = .ok (.getfield 129, 3) := by decide +kernel
theorem dX7_is_40 : decode cX7_is 40 = .ok (.aload_n 0, 1) := by decide +kernel
theorem dX7_is_41 : decode cX7_is 41 = .ok (.getfield 132, 3) := by decide +kernel
theorem dX7_is_44 : decode cX7_is 44 = .ok (.isub, 1) := by decide +kernel
theorem dX7_is_45 : decode cX7_is 45 = .ok (.iload 5, 2) := by decide +kernel
theorem dX7_is_47 : decode cX7_is 47 = .ok (.if_icmp .ne 84, 3) := by decide +kernel
theorem dX7_is_50 : decode cX7_is 50 = .ok (.aload_n 0, 1) := by decide +kernel
theorem dX7_is_51 : decode cX7_is 51 = .ok (.getfield 7, 3) := by decide +kernel
theorem dX7_is_54 : decode cX7_is 54 = .ok (.aload_n 0, 1) := by decide +kernel
theorem dX7_is_55 : decode cX7_is 55 = .ok (.getfield 132, 3) := by decide +kernel
theorem dX7_is_58 : decode cX7_is 58 = .ok (.baload, 1) := by decide +kernel
theorem dX7_is_59 : decode cX7_is 59 = .ok (.iload_n 1, 1) := by decide +kernel
theorem dX7_is_60 : decode cX7_is 60 = .ok (.if_icmp .ne 71, 3) := by decide +kernel
theorem dX7_is_63 : decode cX7_is 63 = .ok (.iload 5, 2) := by decide +kernel
theorem dX7_is_65 : decode cX7_is 65 = .ok (.iconst 2, 1) := by decide +kernel
theorem dX7_is_66 : decode cX7_is 66 = .ok (.if_icmp .lt 18, 3) := by decide +kernel
theorem dX7_is_69 : decode cX7_is 69 = .ok (.aload_n 0, 1) := by decide +kernel
theorem dX7_is_70 : decode cX7_is 70 = .ok (.getfield 7, 3) := by decide +kernel
theorem dX7_is_73 : decode cX7_is 73 = .ok (.aload_n 0, 1) := by decide +kernel
theorem dX7_is_74 : decode cX7_is 74 = .ok (.getfield 132, 3) := by decide +kernel
theorem dX7_is_77 : decode cX7_is 77 = .ok (.iconst 1, 1) := by decide +kernel
theorem dX7_is_78 : decode cX7_is 78 = .ok (.iadd, 1) := by decide +kernel
theorem dX7_is_79 : decode cX7_is 79 = .ok (.baload, 1) := by decide +kernel
theorem dX7_is_80 : decode cX7_is 80 = .ok (.iload_n 2, 1) := by decide +kernel
theorem dX7_is_81 : decode cX7_is 81 = .ok (.if_icmp .ne 50, 3) := by decide +kernel
theorem dX7_is_84 : decode cX7_is 84 = .ok (.iload 5, 2) := by decide +kernel
theorem dX7_is_86 : decode cX7_is 86 = .ok (.iconst 3, 1) := by decide +kernel
theorem dX7_is_87 : decode cX7_is 87 = .ok (.if_icmp .lt 18, 3) := by decide +kernel
theorem dX7_is_90 : decode cX7_is 90 = .ok (.aload_n 0, 1) := by decide +kernel
theorem dX7_is_91 : decode cX7_is 91 = .ok (.getfield 7, 3) := by decide +kernel
theorem dX7_is_94 : decode cX7_is 94 = .ok (.aload_n 0, 1) := by decide +kernel
theorem dX7_is_95 : decode cX7_is 95 = .ok (.getfield 132, 3) := by decide +kernel
theorem dX7_is_98 : decode cX7_is 98 = .ok (.iconst 2, 1) := by decide +kernel
theorem dX7_is_99 : decode cX7_is 99 = .ok (.iadd, 1) := by decide +kernel
theorem dX7_is_100 : decode cX7_is 100 = .ok (.baload, 1) := by decide +kernel
theorem dX7_is_101 : decode cX7_is 101 = .ok (.iload_n 3, 1) := by decide +kernel
theorem dX7_is_102 : decode cX7_is 102 = .ok (.if_icmp .ne 29, 3) := by decide +kernel
theorem dX7_is_105 : decode cX7_is 105 = .ok (.iload 5, 2) := by decide +kernel
theorem dX7_is_107 : decode cX7_is 107 = .ok (.iconst 4, 1) := by decide +kernel
theorem dX7_is_108 : decode cX7_is 108 = .ok (.if_icmp .lt 19, 3) := by decide +kernel
theorem dX7_is_111 : decode cX7_is 111 = .ok (.aload_n 0, 1) := by decide +kernel
theorem dX7_is_112 : decode cX7_is 112 = .ok (.getfield 7, 3) := by decide +kernel
theorem dX7_is_115 : decode cX7_is 115 = .ok (.aload_n 0, 1) := by decide +kernel
theorem dX7_is_116 : decode cX7_is 116 = .ok (.getfield 132, 3) := by decide +kernel
theorem dX7_is_119 : decode cX7_is 119 = .ok (.iconst 3, 1) := by decide +kernel
theorem dX7_is_120 : decode cX7_is 120 = .ok (.iadd, 1) := by decide +kernel
theorem dX7_is_121 : decode cX7_is 121 = .ok (.baload, 1) := by decide +kernel
theorem dX7_is_122 : decode cX7_is 122 = .ok (.iload 4, 2) := by decide +kernel
theorem dX7_is_124 : decode cX7_is 124 = .ok (.if_icmp .ne 7, 3) := by decide +kernel
theorem dX7_is_127 : decode cX7_is 127 = .ok (.iconst 1, 1) := by decide +kernel
theorem dX7_is_128 : decode cX7_is 128 = .ok (.goto 4, 3) := by decide +kernel
theorem dX7_is_131 : decode cX7_is 131 = .ok (.iconst 0, 1) := by decide +kernel
theorem dX7_is_132 : decode cX7_is 132 = .ok (.ireturn, 1) := by decide +kernel
theorem dX7_wordOf_0 : decode cX7_wordOf 0 = .ok (.aload_n 0, 1) := by decide +kernel
theorem dX7_wordOf_1 : decode cX7_wordOf 1 = .ok (.bipush 105, 2) := by decide +kernel
theorem dX7_wordOf_3 : decode cX7_wordOf 3 = .ok (.bipush 102, 2) := by decide +kernel
theorem dX7_wordOf_5 : decode cX7_wordOf 5 = .ok (.iconst 0, 1) := by decide +kernel
theorem dX7_wordOf_6 : decode cX7_wordOf 6 = .ok (.iconst 0, 1) := by decide +kernel
theorem dX7_wordOf_7 : decode cX7_wordOf 7 = .ok (.invokevirtual 135, 3) := by decide +kernel
theorem dX7_wordOf_10 : decode cX7_wordOf 10 = .ok (.ifCond .eq 7, 3) := by decide +kernel
theorem dX7_wordOf_13 : decode cX7_wordOf 13 = .ok (.iconst 1, 1) := by decide +kernel
theorem dX7_wordOf_14 : decode cX7_wordOf 14 = .ok (.goto 97, 3) := by decide +kernel
theorem dX7_wordOf_17 : decode cX7_wordOf 17 = .ok (.aload_n 0, 1) := by decide +kernel
theorem dX7_wordOf_18 : decode cX7_wordOf 18 = .ok (.bipush 116, 2) := by decide +kernel
theorem dX7_wordOf_20 : decode cX7_wordOf 20 = .ok (.bipush 104, 2) := by decide +kernel
theorem dX7_wordOf_22 : decode cX7_wordOf 22 = .ok (.bipush 101, 2) := by decide +kernel
theorem dX7_wordOf_24 : decode cX7_wordOf 24 = .ok (.bipush 110, 2) := by decide +kernel
theorem dX7_wordOf_26 : decode cX7_wordOf 26 = .ok (.invokevirtual 135, 3) := by decide +kernel
theorem dX7_wordOf_29 : decode cX7_wordOf 29 = .ok (.ifCond .eq 7, 3) := by decide +kernel
theorem dX7_wordOf_32 : decode cX7_wordOf 32 = .ok (.iconst 2, 1) := by decide +kernel
theorem dX7_wordOf_33 : decode cX7_wordOf 33 = .ok (.goto 78, 3) := by decide +kernel
theorem dX7_wordOf_36 : decode cX7_wordOf 36 = .ok (.aload_n 0, 1) := by decide +kernel
theorem dX7_wordOf_37 : decode cX7_wordOf 37 = .ok (.bipush 101, 2) := by decide +kernel
theorem dX7_wordOf_39 : decode cX7_wordOf 39 = .ok (.bipush 108, 2) := by decide +kernel
theorem dX7_wordOf_41 : decode cX7_wordOf 41 = .ok (.bipush 115, 2) := by decide +kernel
theorem dX7_wordOf_43 : decode cX7_wordOf 43 = .ok (.bipush 101, 2) := by decide +kernel
theorem dX7_wordOf_45 : decode cX7_wordOf 45 = .ok (.invokevirtual 135, 3) := by decide +kernel
theorem dX7_wordOf_48 : decode cX7_wordOf 48 = .ok (.ifCond .eq 7, 3) := by decide +kernel
theorem dX7_wordOf_51 : decode cX7_wordOf 51 = .ok (.iconst 3, 1) := by decide +kernel
theorem dX7_wordOf_52 : decode cX7_wordOf 52 = .ok (.goto 59, 3) := by decide +kernel
theorem dX7_wordOf_55 : decode cX7_wordOf 55 = .ok (.aload_n 0, 1) := by decide +kernel
theorem dX7_wordOf_56 : decode cX7_wordOf 56 = .ok (.bipush 108, 2) := by decide +kernel
theorem dX7_wordOf_58 : decode cX7_wordOf 58 = .ok (.bipush 101, 2) := by decide +kernel
theorem dX7_wordOf_60 : decode cX7_wordOf 60 = .ok (.bipush 116, 2) := by decide +kernel
theorem dX7_wordOf_62 : decode cX7_wordOf 62 = .ok (.iconst 0, 1) := by decide +kernel
theorem dX7_wordOf_63 : decode cX7_wordOf 63 = .ok (.invokevirtual 135, 3) := by decide +kernel
theorem dX7_wordOf_66 : decode cX7_wordOf 66 = .ok (.ifCond .eq 7, 3) := by decide +kernel
theorem dX7_wordOf_69 : decode cX7_wordOf 69 = .ok (.iconst 4, 1) := by decide +kernel
theorem dX7_wordOf_70 : decode cX7_wordOf 70 = .ok (.goto 41, 3) := by decide +kernel
theorem dX7_wordOf_73 : decode cX7_wordOf 73 = .ok (.aload_n 0, 1) := by decide +kernel
theorem dX7_wordOf_74 : decode cX7_wordOf 74 = .ok (.bipush 105, 2) := by decide +kernel
theorem dX7_wordOf_76 : decode cX7_wordOf 76 = .ok (.bipush 110, 2) := by decide +kernel
theorem dX7_wordOf_78 : decode cX7_wordOf 78 = .ok (.iconst 0, 1) := by decide +kernel
theorem dX7_wordOf_79 : decode cX7_wordOf 79 = .ok (.iconst 0, 1) := by decide +kernel
theorem dX7_wordOf_80 : decode cX7_wordOf 80 = .ok (.invokevirtual 135, 3) := by decide +kernel
theorem dX7_wordOf_83 : decode cX7_wordOf 83 = .ok (.ifCond .eq 7, 3) := by decide +kernel
theorem dX7_wordOf_86 : decode cX7_wordOf 86 = .ok (.iconst 5, 1) := by decide +kernel
theorem dX7_wordOf_87 : decode cX7_wordOf 87 = .ok (.goto 24, 3) := by decide +kernel
theorem dX7_wordOf_90 : decode cX7_wordOf 90 = .ok (.aload_n 0, 1) := by decide +kernel
theorem dX7_wordOf_91 : decode cX7_wordOf 91 = .ok (.bipush 109, 2) := by decide +kernel
theorem dX7_wordOf_93 : decode cX7_wordOf 93 = .ok (.bipush 97, 2) := by decide +kernel
theorem dX7_wordOf_95 : decode cX7_wordOf 95 = .ok (.bipush 107, 2) := by decide +kernel
theorem dX7_wordOf_97 : decode cX7_wordOf 97 = .ok (.bipush 101, 2) := by decide +kernel
theorem dX7_wordOf_99 : decode cX7_wordOf 99 = .ok (.invokevirtual 135, 3) := by decide +kernel
theorem dX7_wordOf_102 : decode cX7_wordOf 102 = .ok (.ifCond .eq 8, 3) := by decide +kernel
theorem dX7_wordOf_105 : decode cX7_wordOf 105 = .ok (.bipush 6, 2) := by decide +kernel
theorem dX7_wordOf_107 : decode cX7_wordOf 107 = .ok (.goto 4, 3) := by decide +kernel
theorem dX7_wordOf_110 : decode cX7_wordOf 110 = .ok (.iconst 0, 1) := by decide +kernel
theorem dX7_wordOf_111 : decode cX7_wordOf 111 = .ok (.ireturn, 1) := by decide +kernel
theorem dX7_look_0 : decode cX7_look 0 = .ok (.aload_n 0, 1) := by decide +kernel
theorem dX7_look_1 : decode cX7_look 1 = .ok (.getfield 132, 3) := by decide +kernel
theorem dX7_look_4 : decode cX7_look 4 = .ok (.aload_n 0, 1) := by decide +kernel
theorem dX7_look_5 : decode cX7_look 5 = .ok (.getfield 119, 3) := by decide +kernel
theorem dX7_look_8 : decode cX7_look 8 = .ok (.if_icmp .ge 31, 3) := by decide +kernel
theorem dX7_look_11 : decode cX7_look 11 = .ok (.aload_n 0, 1) := by decide +kernel
theorem dX7_look_12 : decode cX7_look 12 = .ok (.getfield 7, 3) := by decide +kernel
theorem dX7_look_15 : decode cX7_look 15 = .ok (.aload_n 0, 1) := by decide +kernel
theorem dX7_look_16 : decode cX7_look 16 = .ok (.getfield 132, 3) := by decide +kernel
theorem dX7_look_19 : decode cX7_look 19 = .ok (.baload, 1) := by decide +kernel
theorem dX7_look_20 : decode cX7_look 20 = .ok (.invokestatic 139, 3) := by decide +kernel
theorem dX7_look_23 : decode cX7_look 23 = .ok (.ifCond .eq 16, 3) := by decide +kernel
theorem dX7_look_26 : decode cX7_look 26 = .ok (.aload_n 0, 1) := by decide +kernel
theorem dX7_look_27 : decode cX7_look 27 = .ok (.dup, 1) := by decide +kernel
theorem dX7_look_28 : decode cX7_look 28 = .ok (.getfield 132, 3) := by decide +kernel
theorem dX7_look_31 : decode cX7_look 31 = .ok (.iconst 1, 1) := by decide +kernel
theorem dX7_look_32 : decode cX7_look 32 = .ok (.iadd, 1) := by decide +kernel
theorem dX7_look_33 : decode cX7_look 33 = .ok (.putfield 132, 3) := by decide +kernel
theorem dX7_look_36 : decode cX7_look 36 = .ok (.goto (-36), 3) := by decide +kernel
theorem dX7_look_39 : decode cX7_look 39 = .ok (.aload_n 0, 1) := by decide +kernel
theorem dX7_look_40 : decode cX7_look 40 = .ok (.aload_n 0, 1) := by decide +kernel
theorem dX7_look_41 : decode cX7_look 41 = .ok (.getfield 132, 3) := by decide +kernel
theorem dX7_look_44 : decode cX7_look 44 = .ok (.putfield 129, 3) := by decide +kernel
theorem dX7_look_47 : decode cX7_look 47 = .ok (.aload_n 0, 1) := by decide +kernel
theorem dX7_look_48 : decode cX7_look 48 = .ok (.getfield 132, 3) := by decide +kernel
theorem dX7_look_51 : decode cX7_look 51 = .ok (.aload_n 0, 1) := by decide +kernel
theorem dX7_look_52 : decode cX7_look 52 = .ok (.getfield 119, 3) := by decide +kernel
theorem dX7_look_55 : decode cX7_look 55 = .ok (.if_icmp .ne 9, 3) := by decide +kernel
theorem dX7_look_58 : decode cX7_look 58 = .ok (.aload_n 0, 1) := by decide +kernel
theorem dX7_look_59 : decode cX7_look 59 = .ok (.iconst 0, 1) := by decide +kernel
theorem dX7_look_60 : decode cX7_look 60 = .ok (.putfield 142, 3) := by decide +kernel
theorem dX7_look_63 : decode cX7_look 63 = .ok (.return_, 1) := by decide +kernel
theorem dX7_look_64 : decode cX7_look 64 = .ok (.aload_n 0, 1) := by decide +kernel
theorem dX7_look_65 : decode cX7_look 65 = .ok (.aload_n 0, 1) := by decide +kernel
theorem dX7_look_66 : decode cX7_look 66 = .ok (.getfield 132, 3) := by decide +kernel
theorem dX7_look_69 : decode cX7_look 69 = .ok (.invokevirtual 145, 3) := by decide +kernel
theorem dX7_look_72 : decode cX7_look 72 = .ok (.ifCond .ne 117, 3) := by decide +kernel
theorem dX7_look_75 : decode cX7_look 75 = .ok (.aload_n 0, 1) := by decide +kernel
theorem dX7_look_76 : decode cX7_look 76 = .ok (.getfield 7, 3) := by decide +kernel
theorem dX7_look_79 : decode cX7_look 79 = .ok (.aload_n 0, 1) := by decide +kernel
theorem dX7_look_80 : decode cX7_look 80 = .ok (.getfield 132, 3) := by decide +kernel
theorem dX7_look_83 : decode cX7_look 83 = .ok (.baload, 1) := by decide +kernel
theorem dX7_look_84 : decode cX7_look 84 = .ok (.istore_n 1, 1) := by decide +kernel
theorem dX7_look_85 : decode cX7_look 85 = .ok (.aload_n 0, 1) := by decide +kernel
theorem dX7_look_86 : decode cX7_look 86 = .ok (.aload_n 0, 1) := by decide +kernel
theorem dX7_look_87 : decode cX7_look 87 = .ok (.getfield 132, 3) := by decide +kernel
theorem dX7_look_90 : decode cX7_look 90 = .ok (.iconst 1, 1) := by decide +kernel
theorem dX7_look_91 : decode cX7_look 91 = .ok (.iadd, 1) := by decide +kernel
theorem dX7_look_92 : decode cX7_look 92 = .ok (.putfield 129, 3) := by decide +kernel
theorem dX7_look_95 : decode cX7_look 95 = .ok (.aload_n 0, 1) := by decide +kernel
theorem dX7_look_96 : decode cX7_look 96 = .ok (.iload_n 1, 1) := by decide +kernel
theorem dX7_look_97 : decode cX7_look 97 = .ok (.bipush 40, 2) := by decide +kernel
theorem dX7_look_99 : decode cX7_look 99 = .ok (.if_icmp .eq 81, 3) := by decide +kernel
theorem dX7_look_102 : decode cX7_look 102 = .ok (.iload_n 1, 1) := by decide +kernel
theorem dX7_look_103 : decode cX7_look 103 = .ok (.bipush 41, 2) := by decide +kernel
theorem dX7_look_105 : decode cX7_look 105 = .ok (.if_icmp .eq 75, 3) := by decide +kernel
theorem dX7_look_108 : decode cX7_look 108 = .ok (.iload_n 1, 1) := by decide +kernel
theorem dX7_look_109 : decode cX7_look 109 = .ok (.bipush 44, 2) := by decide +kernel
theorem dX7_look_111 : decode cX7_look 111 = .ok (.if_icmp .eq 69, 3) := by decide +kernel
theorem dX7_look_114 : decode cX7_look 114 = .ok (.iload_n 1, 1) := by decide +kernel
theorem dX7_look_115 : decode cX7_look 115 = .ok (.bipush 61, 2) := by decide +kernel
theorem dX7_look_117 : decode cX7_look 117 = .ok (.if_icmp .eq 63, 3) := by decide +kernel
theorem dX7_look_120 : decode cX7_look 120 = .ok (.iload_n 1, 1) := by decide +kernel
theorem dX7_look_121 : decode cX7_look 121 = .ok (.bipush 59, 2) := by decide +kernel
theorem dX7_look_123 : decode cX7_look 123 = .ok (.if_icmp .eq 57, 3) := by decide +kernel
theorem dX7_look_126 : decode cX7_look 126 = .ok (.iload_n 1, 1) := by decide +kernel
theorem dX7_look_127 : decode cX7_look 127 = .ok (.bipush 60, 2) := by decide +kernel
theorem dX7_look_129 : decode cX7_look 129 = .ok (.if_icmp .eq 51, 3) := by decide +kernel
theorem dX7_look_132 : decode cX7_look 132 = .ok (.iload_n 1, 1) := by decide +kernel
theorem dX7_look_133 : decode cX7_look 133 = .ok (.bipush 62, 2) := by decide +kernel
theorem dX7_look_135 : decode cX7_look 135 = .ok (.if_icmp .eq 45, 3) := by decide +kernel
theorem dX7_look_138 : decode cX7_look 138 = .ok (.iload_n 1, 1) := by decide +kernel
theorem dX7_look_139 : decode cX7_look 139 = .ok (.bipush 43, 2) := by decide +kernel
theorem dX7_look_141 : decode cX7_look 141 = .ok (.if_icmp .eq 39, 3) := by decide +kernel
theorem dX7_look_144 : decode cX7_look 144 = .ok (.iload_n 1, 1) := by decide +kernel
theorem dX7_look_145 : decode cX7_look 145 = .ok (.bipush 45, 2) := by decide +kernel
theorem dX7_look_147 : decode cX7_look 147 = .ok (.if_icmp .eq 33, 3) := by decide +kernel
theorem dX7_look_150 : decode cX7_look 150 = .ok (.iload_n 1, 1) := by decide +kernel
theorem dX7_look_151 : decode cX7_look 151 = .ok (.bipush 42, 2) := by decide +kernel
theorem dX7_look_153 : decode cX7_look 153 = .ok (.if_icmp .eq 27, 3) := by decide +kernel
theorem dX7_look_156 : decode cX7_look 156 = .ok (.iload_n 1, 1) := by decide +kernel
theorem dX7_look_157 : decode cX7_look 157 = .ok (.bipush 47, 2) := by decide +kernel
theorem dX7_look_159 : decode cX7_look 159 = .ok (.if_icmp .eq 21, 3) := by decide +kernel
theorem dX7_look_162 : decode cX7_look 162 = .ok (.iload_n 1, 1) := by decide +kernel
theorem dX7_look_163 : decode cX7_look 163 = .ok (.bipush 37, 2) := by decide +kernel
theorem dX7_look_165 : decode cX7_look 165 = .ok (.if_icmp .eq 15, 3) := by decide +kernel
theorem dX7_look_168 : decode cX7_look 168 = .ok (.iload_n 1, 1) := by decide +kernel
theorem dX7_look_169 : decode cX7_look 169 = .ok (.bipush 91, 2) := by decide +kernel
theorem dX7_look_171 : decode cX7_look 171 = .ok (.if_icmp .eq 9, 3) := by decide +kernel
theorem dX7_look_174 : decode cX7_look 174 = .ok (.iload_n 1, 1) := by decide +kernel
theorem dX7_look_175 : decode cX7_look 175 = .ok (.bipush 93, 2) := by decide +kernel
theorem dX7_look_177 : decode cX7_look 177 = .ok (.if_icmp .ne 7, 3) := by decide +kernel
theorem dX7_look_180 : decode cX7_look 180 = .ok (.iconst 4, 1) := by decide +kernel
theorem dX7_look_181 : decode cX7_look 181 = .ok (.goto 4, 3) := by decide +kernel
theorem dX7_look_184 : decode cX7_look 184 = .ok (.iconst 5, 1) := by decide +kernel
theorem dX7_look_185 : decode cX7_look 185 = .ok (.putfield 142, 3) := by decide +kernel
theorem dX7_look_188 : decode cX7_look 188 = .ok (.return_, 1) := by decide +kernel
theorem dX7_look_189 : decode cX7_look 189 = .ok (.iconst 1, 1) := by decide +kernel
theorem dX7_look_190 : decode cX7_look 190 = .ok (.istore_n 1, 1) := by decide +kernel
theorem dX7_look_191 : decode cX7_look 191 = .ok (.iconst 1, 1) := by decide +kernel
theorem dX7_look_192 : decode cX7_look 192 = .ok (.istore_n 2, 1) := by decide +kernel
theorem dX7_look_193 : decode cX7_look 193 = .ok (.aload_n 0, 1) := by decide +kernel
theorem dX7_look_194 : decode cX7_look 194 = .ok (.lconst 0, 1) := by decide +kernel
theorem dX7_look_195 : decode cX7_look 195 = .ok (.putfield 148, 3) := by decide +kernel
theorem dX7_look_198 : decode cX7_look 198 = .ok (.aload_n 0, 1) := by decide +kernel
theorem dX7_look_199 : decode cX7_look 199 = .ok (.aload_n 0, 1) := by decide +kernel
theorem dX7_look_200 : decode cX7_look 200 = .ok (.getfield 129, 3) := by decide +kernel
theorem dX7_look_203 : decode cX7_look 203 = .ok (.invokevirtual 145, 3) := by decide +kernel
theorem dX7_look_206 : decode cX7_look 206 = .ok (.ifCond .eq 111, 3) := by decide +kernel
theorem dX7_look_209 : decode cX7_look 209 = .ok (.iload_n 1, 1) := by decide +kernel
theorem dX7_look_210 : decode cX7_look 210 = .ok (.ifCond .eq 22, 3) := by decide +kernel
theorem dX7_look_213 : decode cX7_look 213 = .ok (.aload_n 0, 1) := by decide +kernel
theorem dX7_look_214 : decode cX7_look 214 = .ok (.getfield 7, 3) := by decide +kernel
theorem dX7_look_217 : decode cX7_look 217 = .ok (.aload_n 0, 1) := by decide +kernel
theorem dX7_look_218 : decode cX7_look 218 = .ok (.getfield 129, 3) := by decide +kernel
theorem dX7_look_221 : decode cX7_look 221 = .ok (.baload, 1) := by decide +kernel
theorem dX7_look_222 : decode cX7_look 222 = .ok (.invokestatic 122, 3) := by decide +kernel
theorem dX7_look_225 : decode cX7_look 225 = .ok (.ifCond .eq 7, 3) := by decide +kernel
theorem dX7_look_228 : decode cX7_look 228 = .ok (.iconst 1, 1) := by decide +kernel
theorem dX7_look_229 : decode cX7_look 229 = .ok (.goto 4, 3) := by decide +kernel
theorem dX7_look_232 : decode cX7_look 232 = .ok (.iconst 0, 1) := by decide +kernel
theorem dX7_look_233 : decode cX7_look 233 = .ok (.istore_n 1, 1) := by decide +kernel
theorem dX7_look_234 : decode cX7_look 234 = .ok (.iload_n 2, 1) := by decide +kernel
theorem dX7_look_235 : decode cX7_look 235 = .ok (.ifCond .eq 22, 3) := by decide +kernel
theorem dX7_look_238 : decode cX7_look 238 = .ok (.aload_n 0, 1) := by decide +kernel
theorem dX7_look_239 : decode cX7_look 239 = .ok (.getfield 7, 3) := by decide +kernel
theorem dX7_look_242 : decode cX7_look 242 = .ok (.aload_n 0, 1) := by decide +kernel
theorem dX7_look_243 : decode cX7_look 243 = .ok (.getfield 129, 3) := by decide +kernel
theorem dX7_look_246 : decode cX7_look 246 = .ok (.baload, 1) := by decide +kernel
theorem dX7_look_247 : decode cX7_look 247 = .ok (.invokestatic 126, 3) := by decide +kernel
theorem dX7_look_250 : decode cX7_look 250 = .ok (.ifCond .eq 7, 3) := by decide +kernel
theorem dX7_look_253 : decode cX7_look 253 = .ok (.iconst 1, 1) := by decide +kernel
theorem dX7_look_254 : decode cX7_look 254 = .ok (.goto 4, 3) := by decide +kernel
theorem dX7_look_257 : decode cX7_look 257 = .ok (.iconst 0, 1) := by decide +kernel
theorem dX7_look_258 : decode cX7_look 258 = .ok (.istore_n 2, 1) := by decide +kernel
theorem dX7_look_259 : decode cX7_look 259 = .ok (.aload_n 0, 1) := by decide +kernel
theorem dX7_look_260 : decode cX7_look 260 = .ok (.aload_n 0, 1) := by decide +kernel
theorem dX7_look_261 : decode cX7_look 261 = .ok (.getfield 148, 3) := by decide +kernel
theorem dX7_look_264 : decode cX7_look 264 = .ok (.ldc2_w 152, 3) := by decide +kernel
theorem dX7_look_267 : decode cX7_look 267 = .ok (.lcmp, 1) := by decide +kernel
theorem dX7_look_268 : decode cX7_look 268 = .ok (.ifCond .le 10, 3) := by decide +kernel
theorem dX7_look_271 : decode cX7_look 271 = .ok (.aload_n 0, 1) := by decide +kernel
theorem dX7_look_272 : decode cX7_look 272 = .ok (.getfield 148, 3) := by decide +kernel
theorem dX7_look_275 : decode cX7_look 275 = .ok (.goto 26, 3) := by decide +kernel
theorem dX7_look_278 : decode cX7_look 278 = .ok (.ldc2_w 154, 3) := by decide +kernel
theorem dX7_look_281 : decode cX7_look 281 = .ok (.aload_n 0, 1) := by decide +kernel
theorem dX7_look_282 : decode cX7_look 282 = .ok (.getfield 148, 3) := by decide +kernel
theorem dX7_look_285 : decode cX7_look 285 = .ok (.lmul, 1) := by decide +kernel
theorem dX7_look_286 : decode cX7_look 286 = .ok (.aload_n 0, 1) := by decide +kernel
theorem dX7_look_287 : decode cX7_look 287 = .ok (.getfield 7, 3) := by decide +kernel
theorem dX7_look_290 : decode cX7_look 290 = .ok (.aload_n 0, 1) := by decide +kernel
theorem dX7_look_291 : decode cX7_look 291 = .ok (.getfield 129, 3) := by decide +kernel
theorem dX7_look_294 : decode cX7_look 294 = .ok (.baload, 1) := by decide +kernel
theorem dX7_look_295 : decode cX7_look 295 = .ok (.i2l, 1) := by decide +kernel
theorem dX7_look_296 : decode cX7_look 296 = .ok (.ladd, 1) := by decide +kernel
theorem dX7_look_297 : decode cX7_look 297 = .ok (.ldc2_w 156, 3) := by decide +kernel
theorem dX7_look_300 : decode cX7_look 300 = .ok (.lsub, 1) := by decide +kernel
theorem dX7_look_301 : decode cX7_look 301 = .ok (.putfield 148, 3) := by decide +kernel
theorem dX7_look_304 : decode cX7_look 304 = .ok (.aload_n 0, 1) := by decide +kernel
theorem dX7_look_305 : decode cX7_look 305 = .ok (.dup, 1) := by decide +kernel
theorem dX7_look_306 : decode cX7_look 306 = .ok (.getfield 129, 3) := by decide +kernel
theorem dX7_look_309 : decode cX7_look 309 = .ok (.iconst 1, 1) := by decide +kernel
theorem dX7_look_310 : decode cX7_look 310 = .ok (.iadd, 1) := by decide +kernel
theorem dX7_look_311 : decode cX7_look 311 = .ok (.putfield 129, 3) := by decide +kernel
theorem dX7_look_314 : decode cX7_look 314 = .ok (.goto (-116), 3) := by decide +kernel
theorem dX7_look_317 : decode cX7_look 317 = .ok (.aload_n 0, 1) := by decide +kernel
theorem dX7_look_318 : decode cX7_look 318 = .ok (.iload_n 1, 1) := by decide +kernel
theorem dX7_look_319 : decode cX7_look 319 = .ok (.ifCond .eq 10, 3) := by decide +kernel
theorem dX7_look_322 : decode cX7_look 322 = .ok (.aload_n 0, 1) := by decide +kernel
theorem dX7_look_323 : decode cX7_look 323 = .ok (.invokevirtual 158, 3) := by decide +kernel
theorem dX7_look_326 : decode cX7_look 326 = .ok (.goto 4, 3) := by decide +kernel
theorem dX7_look_329 : decode cX7_look 329 = .ok (.iconst 0, 1) := by decide +kernel
theorem dX7_look_330 : decode cX7_look 330 = .ok (.putfield 162, 3) := by decide +kernel
theorem dX7_look_333 : decode cX7_look 333 = .ok (.aload_n 0, 1) := by decide +kernel
theorem dX7_look_334 : decode cX7_look 334 = .ok (.aload_n 0, 1) := by decide +kernel
theorem dX7_look_335 : decode cX7_look 335 = .ok (.getfield 162, 3) := by decide +kernel
theorem dX7_look_338 : decode cX7_look 338 = .ok (.ifCond .le 7, 3) := by decide +kernel
theorem dX7_look_341 : decode cX7_look 341 = .ok (.iconst 3, 1) := by decide +kernel
theorem dX7_look_342 : decode cX7_look 342 = .ok (.goto 45, 3) := by decide +kernel
theorem dX7_look_345 : decode cX7_look 345 = .ok (.iload_n 1, 1) := by decide +kernel
theorem dX7_look_346 : decode cX7_look 346 = .ok (.ifCond .eq 21, 3) := by decide +kernel
theorem dX7_look_349 : decode cX7_look 349 = .ok (.aload_n 0, 1) := by decide +kernel
theorem dX7_look_350 : decode cX7_look 350 = .ok (.getfield 129, 3) := by decide +kernel
theorem dX7_look_353 : decode cX7_look 353 = .ok (.aload_n 0, 1) := by decide +kernel
theorem dX7_look_354 : decode cX7_look 354 = .ok (.getfield 132, 3) := by decide +kernel
theorem dX7_look_357 : decode cX7_look 357 = .ok (.isub, 1) := by decide +kernel
theorem dX7_look_358 : decode cX7_look 358 = .ok (.bipush 8, 2) := by decide +kernel
theorem dX7_look_360 : decode cX7_look 360 = .ok (.if_icmp .gt 7, 3) := by decide +kernel
theorem dX7_look_363 : decode cX7_look 363 = .ok (.iconst 1, 1) := by decide +kernel
theorem dX7_look_364 : decode cX7_look 364 = .ok (.goto 23, 3) := by decide +kernel
theorem dX7_look_367 : decode cX7_look 367 = .ok (.iload_n 2, 1) := by decide +kernel
theorem dX7_look_368 : decode cX7_look 368 = .ok (.ifCond .eq 18, 3) := by decide +kernel
theorem dX7_look_371 : decode cX7_look 371 = .ok (.aload_n 0, 1) := by decide +kernel
theorem dX7_look_372 : decode cX7_look 372 = .ok (.getfield 148, 3) := by decide +kernel
theorem dX7_look_375 : decode cX7_look 375 = .ok (.ldc2_w 152, 3) := by decide +kernel
theorem dX7_look_378 : decode cX7_look 378 = .ok (.lcmp, 1) := by decide +kernel
theorem dX7_look_379 : decode cX7_look 379 = .ok (.ifCond .gt 7, 3) := by decide +kernel
theorem dX7_look_382 : decode cX7_look 382 = .ok (.iconst 2, 1) := by decide +kernel
theorem dX7_look_383 : decode cX7_look 383 = .ok (.goto 4, 3) := by decide +kernel
theorem dX7_look_386 : decode cX7_look 386 = .ok (.iconst 5, 1) := by decide +kernel
theorem dX7_look_387 : decode cX7_look 387 = .ok (.putfield 142, 3) := by decide +kernel
theorem dX7_look_390 : decode cX7_look 390 = .ok (.return_, 1) := by decide +kernel
theorem dX7_go_0 : decode cX7_go 0 = .ok (.aload_n 0, 1) := by decide +kernel
theorem dX7_go_1 : decode cX7_go 1 = .ok (.getfield 165, 3) := by decide +kernel
theorem dX7_go_4 : decode cX7_go 4 = .ok (.ifCond .eq 15, 3) := by decide +kernel
theorem dX7_go_7 : decode cX7_go 7 = .ok (.aload_n 0, 1) := by decide +kernel
theorem dX7_go_8 : decode cX7_go 8 = .ok (.aload_n 0, 1) := by decide +kernel
theorem dX7_go_9 : decode cX7_go 9 = .ok (.getfield 129, 3) := by decide +kernel
theorem dX7_go_12 : decode cX7_go 12 = .ok (.putfield 132, 3) := by decide +kernel
theorem dX7_go_15 : decode cX7_go 15 = .ok (.aload_n 0, 1) := by decide +kernel
theorem dX7_go_16 : decode cX7_go 16 = .ok (.invokevirtual 169, 3) := by decide +kernel
theorem dX7_go_19 : decode cX7_go 19 = .ok (.return_, 1) := by decide +kernel
theorem dX7_isSign_0 : decode cX7_isSign 0 = .ok (.aload_n 0, 1) := by decide +kernel
theorem dX7_isSign_1 : decode cX7_isSign 1 = .ok (.getfield 142, 3) := by decide +kernel
theorem dX7_isSign_4 : decode cX7_isSign 4 = .ok (.iconst 4, 1) := by decide +kernel
theorem dX7_isSign_5 : decode cX7_isSign 5 = .ok (.if_icmp .ne 20, 3) := by decide +kernel
theorem dX7_isSign_8 : decode cX7_isSign 8 = .ok (.aload_n 0, 1) := by decide +kernel
theorem dX7_isSign_9 : decode cX7_isSign 9 = .ok (.getfield 7, 3) := by decide +kernel
theorem dX7_isSign_12 : decode cX7_isSign 12 = .ok (.aload_n 0, 1) := by decide +kernel
theorem dX7_isSign_13 : decode cX7_isSign 13 = .ok (.getfield 132, 3) := by decide +kernel
theorem dX7_isSign_16 : decode cX7_isSign 16 = .ok (.baload, 1) := by decide +kernel
theorem dX7_isSign_17 : decode cX7_isSign 17 = .ok (.iload_n 1, 1) := by decide +kernel
theorem dX7_isSign_18 : decode cX7_isSign 18 = .ok (.if_icmp .ne 7, 3) := by decide +kernel
theorem dX7_isSign_21 : decode cX7_isSign 21 = .ok (.iconst 1, 1) := by decide +kernel
theorem dX7_isSign_22 : decode cX7_isSign 22 = .ok (.goto 4, 3) := by decide +kernel
theorem dX7_isSign_25 : decode cX7_isSign 25 = .ok (.iconst 0, 1) := by decide +kernel
theorem dX7_isSign_26 : decode cX7_isSign 26 = .ok (.ireturn, 1) := by decide +kernel
theorem dX7_take_0 : decode cX7_take 0 = .ok (.aload_n 0, 1) := by decide +kernel
theorem dX7_take_1 : decode cX7_take 1 = .ok (.iload_n 1, 1) := by decide +kernel
theorem dX7_take_2 : decode cX7_take 2 = .ok (.invokevirtual 172, 3) := by decide +kernel
theorem dX7_take_5 : decode cX7_take 5 = .ok (.istore_n 2, 1) := by decide +kernel
theorem dX7_take_6 : decode cX7_take 6 = .ok (.iload_n 2, 1) := by decide +kernel
theorem dX7_take_7 : decode cX7_take 7 = .ok (.ifCond .eq 7, 3) := by decide +kernel
theorem dX7_take_10 : decode cX7_take 10 = .ok (.aload_n 0, 1) := by decide +kernel
theorem dX7_take_11 : decode cX7_take 11 = .ok (.invokevirtual 175, 3) := by decide +kernel
theorem dX7_take_14 : decode cX7_take 14 = .ok (.iload_n 2, 1) := by decide +kernel
theorem dX7_take_15 : decode cX7_take 15 = .ok (.ireturn, 1) := by decide +kernel
theorem dX7_nameOf_0 : decode cX7_nameOf 0 = .ok (.lconst 0, 1) := by decide +kernel
theorem dX7_nameOf_1 : decode cX7_nameOf 1 = .ok (.lstore_n 1, 1) := by decide +kernel
theorem dX7_nameOf_2 : decode cX7_nameOf 2 = .ok (.aload_n 0, 1) := by decide +kernel
theorem dX7_nameOf_3 : decode cX7_nameOf 3 = .ok (.getfield 132, 3) := by decide +kernel
theorem dX7_nameOf_6 : decode cX7_nameOf 6 = .ok (.istore_n 3, 1) := by decide +kernel
theorem dX7_nameOf_7 : decode cX7_nameOf 7 = .ok (.iload_n 3, 1) := by decide +kernel
theorem dX7_nameOf_8 : decode cX7_nameOf 8 = .ok (.aload_n 0, 1) := by decide +kernel
theorem dX7_nameOf_9 : decode cX7_nameOf 9 = .ok (.getfield 129, 3) := by decide +kernel
theorem dX7_nameOf_12 : decode cX7_nameOf 12 = .ok (.if_icmp .ge 29, 3) := by decide +kernel
theorem dX7_nameOf_15 : decode cX7_nameOf 15 = .ok (.ldc2_w 178, 3) := by decide +kernel
theorem dX7_nameOf_18 : decode cX7_nameOf 18 = .ok (.lload_n 1, 1) := by decide +kernel
theorem dX7_nameOf_19 : decode cX7_nameOf 19 = .ok (.lmul, 1) := by decide +kernel
theorem dX7_nameOf_20 : decode cX7_nameOf 20 = .ok (.aload_n 0, 1) := by decide +kernel
theorem dX7_nameOf_21 : decode cX7_nameOf 21 = .ok (.getfield 7, 3) := by decide +kernel
theorem dX7_nameOf_24 : decode cX7_nameOf 24 = .ok (.iload_n 3, 1) := by decide +kernel
theorem dX7_nameOf_25 : decode cX7_nameOf 25 = .ok (.baload, 1) := by decide +kernel
theorem dX7_nameOf_26 : decode cX7_nameOf 26 = .ok (.i2l, 1) := by decide +kernel
theorem dX7_nameOf_27 : decode cX7_nameOf 27 = .ok (.ladd, 1) := by decide +kernel
theorem dX7_nameOf_28 : decode cX7_nameOf 28 = .ok (.ldc2_w 180, 3) := by decide +kernel
theorem dX7_nameOf_31 : decode cX7_nameOf 31 = .ok (.lsub, 1) := by decide +kernel
theorem dX7_nameOf_32 : decode cX7_nameOf 32 = .ok (.lconst 1, 1) := by decide +kernel
theorem dX7_nameOf_33 : decode cX7_nameOf 33 = .ok (.ladd, 1) := by decide +kernel
theorem dX7_nameOf_34 : decode cX7_nameOf 34 = .ok (.lstore_n 1, 1) := by decide +kernel
theorem dX7_nameOf_35 : decode cX7_nameOf 35 = .ok (.iinc 3 1, 3) := by decide +kernel
theorem dX7_nameOf_38 : decode cX7_nameOf 38 = .ok (.goto (-31), 3) := by decide +kernel
theorem dX7_nameOf_41 : decode cX7_nameOf 41 = .ok (.lload_n 1, 1) := by decide +kernel
theorem dX7_nameOf_42 : decode cX7_nameOf 42 = .ok (.lreturn, 1) := by decide +kernel
theorem dX7_part0_0 : decode cX7_part0 0 = .ok (.bipush 60, 2) := by decide +kernel
theorem dX7_part0_2 : decode cX7_part0 2 = .ok (.bipush 12, 2) := by decide +kernel
theorem dX7_part0_4 : decode cX7_part0 4 = .ok (.aload_n 0, 1) := by decide +kernel
theorem dX7_part0_5 : decode cX7_part0 5 = .ok (.getfield 182, 3) := by decide +kernel
theorem dX7_part0_8 : decode cX7_part0 8 = .ok (.imul, 1) := by decide +kernel
theorem dX7_part0_9 : decode cX7_part0 9 = .ok (.aload_n 0, 1) := by decide +kernel
theorem dX7_part0_10 : decode cX7_part0 10 = .ok (.getfield 185, 3) := by decide +kernel
theorem dX7_part0_13 : decode cX7_part0 13 = .ok (.iadd, 1) := by decide +kernel
theorem dX7_part0_14 : decode cX7_part0 14 = .ok (.imul, 1) := by decide +kernel
theorem dX7_part0_15 : decode cX7_part0 15 = .ok (.ireturn, 1) := by decide +kernel
theorem dX7_need_0 : decode cX7_need 0 = .ok (.aload_n 0, 1) := by decide +kernel
theorem dX7_need_1 : decode cX7_need 1 = .ok (.aload_n 0, 1) := by decide +kernel
theorem dX7_need_2 : decode cX7_need 2 = .ok (.getfield 165, 3) := by decide +kernel
theorem dX7_need_5 : decode cX7_need 5 = .ok (.ifCond .eq 11, 3) := by decide +kernel
theorem dX7_need_8 : decode cX7_need 8 = .ok (.iload_n 1, 1) := by decide +kernel
theorem dX7_need_9 : decode cX7_need 9 = .ok (.ifCond .eq 7, 3) := by decide +kernel
theorem dX7_need_12 : decode cX7_need 12 = .ok (.iconst 1, 1) := by decide +kernel
theorem dX7_need_13 : decode cX7_need 13 = .ok (.goto 4, 3) := by decide +kernel
theorem dX7_need_16 : decode cX7_need 16 = .ok (.iconst 0, 1) := by decide +kernel
theorem dX7_need_17 : decode cX7_need 17 = .ok (.putfield 165, 3) := by decide +kernel
theorem dX7_need_20 : decode cX7_need 20 = .ok (.return_, 1) := by decide +kernel
theorem dX7_part_0 : decode cX7_part 0 = .ok (.aload_n 0, 1) := by decide +kernel
theorem dX7_part_1 : decode cX7_part 1 = .ok (.aload_n 0, 1) := by decide +kernel
theorem dX7_part_2 : decode cX7_part 2 = .ok (.getfield 188, 3) := by decide +kernel
theorem dX7_part_5 : decode cX7_part 5 = .ok (.bipush 60, 2) := by decide +kernel
theorem dX7_part_7 : decode cX7_part 7 = .ok (.if_icmp .ge 7, 3) := by decide +kernel
theorem dX7_part_10 : decode cX7_part 10 = .ok (.iconst 1, 1) := by decide +kernel
theorem dX7_part_11 : decode cX7_part 11 = .ok (.goto 4, 3) := by decide +kernel
theorem dX7_part_14 : decode cX7_part 14 = .ok (.iconst 0, 1) := by decide +kernel
theorem dX7_part_15 : decode cX7_part 15 = .ok (.invokevirtual 191, 3) := by decide +kernel
theorem dX7_part_18 : decode cX7_part 18 = .ok (.aload_n 0, 1) := by decide +kernel
theorem dX7_part_19 : decode cX7_part 19 = .ok (.getfield 165, 3) := by decide +kernel
theorem dX7_part_22 : decode cX7_part 22 = .ok (.ifCond .ne 5, 3) := by decide +kernel
theorem dX7_part_25 : decode cX7_part 25 = .ok (.iconst 0, 1) := by decide +kernel
theorem dX7_part_26 : decode cX7_part 26 = .ok (.ireturn, 1) := by decide +kernel
theorem dX7_part_27 : decode cX7_part 27 = .ok (.aload_n 0, 1) := by decide +kernel
theorem dX7_part_28 : decode cX7_part 28 = .ok (.invokevirtual 195, 3) := by decide +kernel
theorem dX7_part_31 : decode cX7_part 31 = .ok (.aload_n 0, 1) := by decide +kernel
theorem dX7_part_32 : decode cX7_part 32 = .ok (.getfield 188, 3) := by decide +kernel
theorem dX7_part_35 : decode cX7_part 35 = .ok (.iadd, 1) := by decide +kernel
theorem dX7_part_36 : decode cX7_part 36 = .ok (.istore_n 3, 1) := by decide +kernel
theorem dX7_part_37 : decode cX7_part 37 = .ok (.aload_n 0, 1) := by decide +kernel
theorem dX7_part_38 : decode cX7_part 38 = .ok (.getfield 23, 3) := by decide +kernel
theorem dX7_part_41 : decode cX7_part 41 = .ok (.iload_n 3, 1) := by decide +kernel
theorem dX7_part_42 : decode cX7_part 42 = .ok (.iload_n 1, 1) := by decide +kernel
theorem dX7_part_43 : decode cX7_part 43 = .ok (.iastore, 1) := by decide +kernel
theorem dX7_part_44 : decode cX7_part 44 = .ok (.aload_n 0, 1) := by decide +kernel
theorem dX7_part_45 : decode cX7_part 45 = .ok (.getfield 26, 3) := by decide +kernel
theorem dX7_part_48 : decode cX7_part 48 = .ok (.iload_n 3, 1) := by decide +kernel
theorem dX7_part_49 : decode cX7_part 49 = .ok (.iload_n 2, 1) := by decide +kernel
theorem dX7_part_50 : decode cX7_part 50 = .ok (.iastore, 1) := by decide +kernel
theorem dX7_part_51 : decode cX7_part 51 = .ok (.aload_n 0, 1) := by decide +kernel
theorem dX7_part_52 : decode cX7_part 52 = .ok (.getfield 38, 3) := by decide +kernel
theorem dX7_part_55 : decode cX7_part 55 = .ok (.iload_n 3, 1) := by decide +kernel
theorem dX7_part_56 : decode cX7_part 56 = .ok (.iconst (-1), 1) := by decide +kernel
theorem dX7_part_57 : decode cX7_part 57 = .ok (.iastore, 1) := by decide +kernel
theorem dX7_part_58 : decode cX7_part 58 = .ok (.aload_n 0, 1) := by decide +kernel
theorem dX7_part_59 : decode cX7_part 59 = .ok (.getfield 41, 3) := by decide +kernel
theorem dX7_part_62 : decode cX7_part 62 = .ok (.iload_n 3, 1) := by decide +kernel
theorem dX7_part_63 : decode cX7_part 63 = .ok (.iconst (-1), 1) := by decide +kernel
theorem dX7_part_64 : decode cX7_part 64 = .ok (.iastore, 1) := by decide +kernel
theorem dX7_part_65 : decode cX7_part 65 = .ok (.aload_n 0, 1) := by decide +kernel
theorem dX7_part_66 : decode cX7_part 66 = .ok (.getfield 44, 3) := by decide +kernel
theorem dX7_part_69 : decode cX7_part 69 = .ok (.iload_n 3, 1) := by decide +kernel
theorem dX7_part_70 : decode cX7_part 70 = .ok (.aload_n 0, 1) := by decide +kernel
theorem dX7_part_71 : decode cX7_part 71 = .ok (.getfield 132, 3) := by decide +kernel
theorem dX7_part_74 : decode cX7_part 74 = .ok (.iastore, 1) := by decide +kernel
theorem dX7_part_75 : decode cX7_part 75 = .ok (.aload_n 0, 1) := by decide +kernel
theorem dX7_part_76 : decode cX7_part 76 = .ok (.getfield 47, 3) := by decide +kernel
theorem dX7_part_79 : decode cX7_part 79 = .ok (.iload_n 3, 1) := by decide +kernel
theorem dX7_part_80 : decode cX7_part 80 = .ok (.iconst 0, 1) := by decide +kernel
theorem dX7_part_81 : decode cX7_part 81 = .ok (.iastore, 1) := by decide +kernel
theorem dX7_part_82 : decode cX7_part 82 = .ok (.aload_n 0, 1) := by decide +kernel
theorem dX7_part_83 : decode cX7_part 83 = .ok (.getfield 50, 3) := by decide +kernel
theorem dX7_part_86 : decode cX7_part 86 = .ok (.iload_n 3, 1) := by decide +kernel
theorem dX7_part_87 : decode cX7_part 87 = .ok (.iconst (-1), 1) := by decide +kernel
theorem dX7_part_88 : decode cX7_part 88 = .ok (.iastore, 1) := by decide +kernel
theorem dX7_part_89 : decode cX7_part 89 = .ok (.aload_n 0, 1) := by decide +kernel
theorem dX7_part_90 : decode cX7_part 90 = .ok (.dup, 1) := by decide +kernel
theorem dX7_part_91 : decode cX7_part 91 = .ok (.getfield 188, 3) := by decide +kernel
theorem dX7_part_94 : decode cX7_part 94 = .ok (.iconst 1, 1) := by decide +kernel
theorem dX7_part_95 : decode cX7_part 95 = .ok (.iadd, 1) := by decide +kernel
theorem dX7_part_96 : decode cX7_part 96 = .ok (.putfield 188, 3) := by decide +kernel
theorem dX7_part_99 : decode cX7_part 99 = .ok (.iload_n 3, 1) := by decide +kernel
theorem dX7_part_100 : decode cX7_part 100 = .ok (.ireturn, 1) := by decide +kernel
theorem dX7_later_0 : decode cX7_later 0 = .ok (.aload_n 0, 1) := by decide +kernel
theorem dX7_later_1 : decode cX7_later 1 = .ok (.getfield 69, 3) := by decide +kernel
theorem dX7_later_4 : decode cX7_later 4 = .ok (.aload_n 0, 1) := by decide +kernel
theorem dX7_later_5 : decode cX7_later 5 = .ok (.getfield 198, 3) := by decide +kernel
theorem dX7_later_8 : decode cX7_later 8 = .ok (.iload_n 1, 1) := by decide +kernel
theorem dX7_later_9 : decode cX7_later 9 = .ok (.iastore, 1) := by decide +kernel
theorem dX7_later_10 : decode cX7_later 10 = .ok (.aload_n 0, 1) := by decide +kernel
theorem dX7_later_11 : decode cX7_later 11 = .ok (.getfield 72, 3) := by decide +kernel
theorem dX7_later_14 : decode cX7_later 14 = .ok (.aload_n 0, 1) := by decide +kernel
theorem dX7_later_15 : decode cX7_later 15 = .ok (.getfield 198, 3) := by decide +kernel
theorem dX7_later_18 : decode cX7_later 18 = .ok (.iload_n 2, 1) := by decide +kernel
theorem dX7_later_19 : decode cX7_later 19 = .ok (.iastore, 1) := by decide +kernel
theorem dX7_later_20 : decode cX7_later 20 = .ok (.aload_n 0, 1) := by decide +kernel
theorem dX7_later_21 : decode cX7_later 21 = .ok (.dup, 1) := by decide +kernel
theorem dX7_later_22 : decode cX7_later 22 = .ok (.getfield 198, 3) := by decide +kernel
theorem dX7_later_25 : decode cX7_later 25 = .ok (.iconst 1, 1) := by decide +kernel
theorem dX7_later_26 : decode cX7_later 26 = .ok (.iadd, 1) := by decide +kernel
theorem dX7_later_27 : decode cX7_later 27 = .ok (.putfield 198, 3) := by decide +kernel
theorem dX7_later_30 : decode cX7_later 30 = .ok (.return_, 1) := by decide +kernel
theorem dX7_give_0 : decode cX7_give 0 = .ok (.aload_n 0, 1) := by decide +kernel
theorem dX7_give_1 : decode cX7_give 1 = .ok (.getfield 75, 3) := by decide +kernel
theorem dX7_give_4 : decode cX7_give 4 = .ok (.aload_n 0, 1) := by decide +kernel
theorem dX7_give_5 : decode cX7_give 5 = .ok (.getfield 201, 3) := by decide +kernel
theorem dX7_give_8 : decode cX7_give 8 = .ok (.iload_n 1, 1) := by decide +kernel
theorem dX7_give_9 : decode cX7_give 9 = .ok (.iastore, 1) := by decide +kernel
theorem dX7_give_10 : decode cX7_give 10 = .ok (.aload_n 0, 1) := by decide +kernel
theorem dX7_give_11 : decode cX7_give 11 = .ok (.dup, 1) := by decide +kernel
theorem dX7_give_12 : decode cX7_give 12 = .ok (.getfield 201, 3) := by decide +kernel
theorem dX7_give_15 : decode cX7_give 15 = .ok (.iconst 1, 1) := by decide +kernel
theorem dX7_give_16 : decode cX7_give 16 = .ok (.iadd, 1) := by decide +kernel
theorem dX7_give_17 : decode cX7_give 17 = .ok (.putfield 201, 3) := by decide +kernel
theorem dX7_give_20 : decode cX7_give 20 = .ok (.return_, 1) := by decide +kernel
theorem dX7_got_0 : decode cX7_got 0 = .ok (.aload_n 0, 1) := by decide +kernel
theorem dX7_got_1 : decode cX7_got 1 = .ok (.dup, 1) := by decide +kernel
theorem dX7_got_2 : decode cX7_got 2 = .ok (.getfield 201, 3) := by decide +kernel
theorem dX7_got_5 : decode cX7_got 5 = .ok (.iconst 1, 1) := by decide +kernel
theorem dX7_got_6 : decode cX7_got 6 = .ok (.isub, 1) := by decide +kernel
theorem dX7_got_7 : decode cX7_got 7 = .ok (.putfield 201, 3) := by decide +kernel
theorem dX7_got_10 : decode cX7_got 10 = .ok (.aload_n 0, 1) := by decide +kernel
theorem dX7_got_11 : decode cX7_got 11 = .ok (.getfield 75, 3) := by decide +kernel
theorem dX7_got_14 : decode cX7_got 14 = .ok (.aload_n 0, 1) := by decide +kernel
theorem dX7_got_15 : decode cX7_got 15 = .ok (.getfield 201, 3) := by decide +kernel
theorem dX7_got_18 : decode cX7_got 18 = .ok (.iaload, 1) := by decide +kernel
theorem dX7_got_19 : decode cX7_got 19 = .ok (.ireturn, 1) := by decide +kernel
theorem dX7_variable_0 : decode cX7_variable 0 = .ok (.aload_n 0, 1) := by decide +kernel
theorem dX7_variable_1 : decode cX7_variable 1 = .ok (.invokevirtual 204, 3) := by decide +kernel
theorem dX7_variable_4 : decode cX7_variable 4 = .ok (.lstore_n 1, 1) := by decide +kernel
theorem dX7_variable_5 : decode cX7_variable 5 = .ok (.aload_n 0, 1) := by decide +kernel
theorem dX7_variable_6 : decode cX7_variable 6 = .ok (.getfield 208, 3) := by decide +kernel
theorem dX7_variable_9 : decode cX7_variable 9 = .ok (.iconst 1, 1) := by decide +kernel
theorem dX7_variable_10 : decode cX7_variable 10 = .ok (.isub, 1) := by decide +kernel
theorem dX7_variable_11 : decode cX7_variable 11 = .ok (.istore_n 3, 1) := by decide +kernel
theorem dX7_variable_12 : decode cX7_variable 12 = .ok (.iload_n 3, 1) := by decide +kernel
theorem dX7_variable_13 : decode cX7_variable 13 = .ok (.ifCond .lt 51, 3) := by decide +kernel
theorem dX7_variable_16 : decode cX7_variable 16 = .ok (.aload_n 0, 1) := by decide +kernel
theorem dX7_variable_17 : decode cX7_variable 17 = .ok (.getfield 60, 3) := by decide +kernel
theorem dX7_variable_20 : decode cX7_variable 20 = .ok (.iload_n 3, 1) := by decide +kernel
theorem dX7_variable_21 : decode cX7_variable 21 = .ok (.laload, 1) := by decide +kernel
theorem dX7_variable_22 : decode cX7_variable 22 = .ok (.lload_n 1, 1) := by decide +kernel
theorem dX7_variable_23 : decode cX7_variable 23 = .ok (.lcmp, 1) := by decide +kernel
theorem dX7_variable_24 : decode cX7_variable 24 = .ok (.ifCond .ne 34, 3) := by decide +kernel
theorem dX7_variable_27 : decode cX7_variable 27 = .ok (.aload_n 0, 1) := by decide +kernel
theorem dX7_variable_28 : decode cX7_variable 28 = .ok (.iconst 3, 1) := by decide +kernel
theorem dX7_variable_29 : decode cX7_variable 29 = .ok (.iconst 0, 1) := by decide +kernel
theorem dX7_variable_30 : decode cX7_variable 30 = .ok (.invokevirtual 211, 3) := by decide +kernel
theorem dX7_variable_33 : decode cX7_variable 33 = .ok (.istore 4, 2) := by decide +kernel
theorem dX7_variable_35 : decode cX7_variable 35 = .ok (.aload_n 0, 1) := by decide +kernel
theorem dX7_variable_36 : decode cX7_variable 36 = .ok (.getfield 165, 3) := by decide +kernel
theorem dX7_variable_39 : decode cX7_variable 39 = .ok (.ifCond .eq 16, 3) := by decide +kernel
theorem dX7_variable_42 : decode cX7_variable 42 = .ok (.aload_n 0, 1) := by decide +kernel
theorem dX7_variable_43 : decode cX7_variable 43 = .ok (.getfield 29, 3) := by decide +kernel
theorem dX7_variable_46 : decode cX7_variable 46 = .ok (.iload 4, 2) := by decide +kernel
theorem dX7_variable_48 : decode cX7_variable 48 = .ok (.aload_n 0, 1) := by decide +kernel
theorem dX7_variable_49 : decode cX7_variable 49 = .ok (.getfield 63, 3) := by decide +kernel
theorem dX7_variable_52 : decode cX7_variable 52 = .ok (.iload_n 3, 1) := by decide +kernel
theorem dX7_variable_53 : decode cX7_variable 53 = .ok (.iaload, 1) := by decide +kernel
theorem dX7_variable_54 : decode cX7_variable 54 = .ok (.iastore, 1) := by decide +kernel
theorem dX7_variable_55 : decode cX7_variable 55 = .ok (.iload 4, 2) := by decide +kernel
theorem dX7_variable_57 : decode cX7_variable 57 = .ok (.ireturn, 1) := by decide +kernel
theorem dX7_variable_58 : decode cX7_variable 58 = .ok (.iinc 3 (-1), 3) := by decide +kernel
theorem dX7_variable_61 : decode cX7_variable 61 = .ok (.goto (-49), 3) := by decide +kernel
theorem dX7_variable_64 : decode cX7_variable 64 = .ok (.iconst 0, 1) := by decide +kernel
theorem dX7_variable_65 : decode cX7_variable 65 = .ok (.istore_n 3, 1) := by decide +kernel
theorem dX7_variable_66 : decode cX7_variable 66 = .ok (.iload_n 3, 1) := by decide +kernel
theorem dX7_variable_67 : decode cX7_variable 67 = .ok (.aload_n 0, 1) := by decide +kernel
theorem dX7_variable_68 : decode cX7_variable 68 = .ok (.getfield 13, 3) := by decide +kernel
theorem dX7_variable_71 : decode cX7_variable 71 = .ok (.bipush 12, 2) := by decide +kernel
theorem dX7_variable_73 : decode cX7_variable 73 = .ok (.aload_n 0, 1) := by decide +kernel
theorem dX7_variable_74 : decode cX7_variable 74 = .ok (.getfield 182, 3) := by decide +kernel
theorem dX7_variable_77 : decode cX7_variable 77 = .ok (.imul, 1) := by decide +kernel
theorem dX7_variable_78 : decode cX7_variable 78 = .ok (.aload_n 0, 1) := by decide +kernel
theorem dX7_variable_79 : decode cX7_variable 79 = .ok (.getfield 185, 3) := by decide +kernel
theorem dX7_variable_82 : decode cX7_variable 82 = .ok (.iadd, 1) := by decide +kernel
theorem dX7_variable_83 : decode cX7_variable 83 = .ok (.iaload, 1) := by decide +kernel
theorem dX7_variable_84 : decode cX7_variable 84 = .ok (.if_icmp .ge 27, 3) := by decide +kernel
theorem dX7_variable_87 : decode cX7_variable 87 = .ok (.aload_n 0, 1) := by decide +kernel
theorem dX7_variable_88 : decode cX7_variable 88 = .ok (.getfield 57, 3) := by decide +kernel
theorem dX7_variable_91 : decode cX7_variable 91 = .ok (.iload_n 3, 1) := by decide +kernel
theorem dX7_variable_92 : decode cX7_variable 92 = .ok (.laload, 1) := by decide +kernel
theorem dX7_variable_93 : decode cX7_variable 93 = .ok (.lload_n 1, 1) := by decide +kernel
theorem dX7_variable_94 : decode cX7_variable 94 = .ok (.lcmp, 1) := by decide +kernel
theorem dX7_variable_95 : decode cX7_variable 95 = .ok (.ifCond .ne 10, 3) := by decide +kernel
theorem dX7_variable_98 : decode cX7_variable 98 = .ok (.aload_n 0, 1) := by decide +kernel
theorem dX7_variable_99 : decode cX7_variable 99 = .ok (.iconst 2, 1) := by decide +kernel
theorem dX7_variable_100 : decode cX7_variable 100 = .ok (.iload_n 3, 1) := by decide +kernel
theorem dX7_variable_101 : decode cX7_variable 101 = .ok (.invokevirtual 211, 3) := by decide +kernel
theorem dX7_variable_104 : decode cX7_variable 104 = .ok (.ireturn, 1) := by decide +kernel
theorem dX7_variable_105 : decode cX7_variable 105 = .ok (.iinc 3 1, 3) := by decide +kernel
theorem dX7_variable_108 : decode cX7_variable 108 = .ok (.goto (-42), 3) := by decide +kernel
theorem dX7_variable_111 : decode cX7_variable 111 = .ok (.aload_n 0, 1) := by decide +kernel
theorem dX7_variable_112 : decode cX7_variable 112 = .ok (.iconst 0, 1) := by decide +kernel
theorem dX7_variable_113 : decode cX7_variable 113 = .ok (.invokevirtual 191, 3) := by decide +kernel
theorem dX7_variable_116 : decode cX7_variable 116 = .ok (.iconst 0, 1) := by decide +kernel
theorem dX7_variable_117 : decode cX7_variable 117 = .ok (.ireturn, 1) := by decide +kernel
theorem dX7_addArgument_0 : decode cX7_addArgument 0 = .ok (.aload_n 0, 1) := by decide +kernel
theorem dX7_addArgument_1 : decode cX7_addArgument 1 = .ok (.getfield 47, 3) := by decide +kernel
theorem dX7_addArgument_4 : decode cX7_addArgument 4 = .ok (.iload_n 1, 1) := by decide +kernel
theorem dX7_addArgument_5 : decode cX7_addArgument 5 = .ok (.dup2, 1) := by decide +kernel
theorem dX7_addArgument_6 : decode cX7_addArgument 6 = .ok (.iaload, 1) := by decide +kernel
theorem dX7_addArgument_7 : decode cX7_addArgument 7 = .ok (.iconst 1, 1) := by decide +kernel
theorem dX7_addArgument_8 : decode cX7_addArgument 8 = .ok (.iadd, 1) := by decide +kernel
theorem dX7_addArgument_9 : decode cX7_addArgument 9 = .ok (.iastore, 1) := by decide +kernel
theorem dX7_addArgument_10 : decode cX7_addArgument 10 = .ok (.aload_n 0, 1) := by decide +kernel
theorem dX7_addArgument_11 : decode cX7_addArgument 11 = .ok (.getfield 38, 3) := by decide +kernel
theorem dX7_addArgument_14 : decode cX7_addArgument 14 = .ok (.iload_n 1, 1) := by decide +kernel
theorem dX7_addArgument_15 : decode cX7_addArgument 15 = .ok (.iaload, 1) := by decide +kernel
theorem dX7_addArgument_16 : decode cX7_addArgument 16 = .ok (.iconst (-1), 1) := by decide +kernel
theorem dX7_addArgument_17 : decode cX7_addArgument 17 = .ok (.if_icmp .ne 11, 3) := by decide +kernel
theorem dX7_addArgument_20 : decode cX7_addArgument 20 = .ok (.aload_n 0, 1) := by decide +kernel
theorem dX7_addArgument_21 : decode cX7_addArgument 21 = .ok (.getfield 38, 3) := by decide +kernel
theorem dX7_addArgument_24 : decode cX7_addArgument 24 = .ok (.iload_n 1, 1) := by decide +kernel
theorem dX7_addArgument_25 : decode cX7_addArgument 25 = .ok (.iload_n 2, 1) := by decide +kernel
theorem dX7_addArgument_26 : decode cX7_addArgument 26 = .ok (.iastore, 1) := by decide +kernel
theorem dX7_addArgument_27 : decode cX7_addArgument 27 = .ok (.return_, 1) := by decide +kernel
theorem dX7_addArgument_28 : decode cX7_addArgument 28 = .ok (.aload_n 0, 1) := by decide +kernel
theorem dX7_addArgument_29 : decode cX7_addArgument 29 = .ok (.getfield 38, 3) := by decide +kernel
theorem dX7_addArgument_32 : decode cX7_addArgument 32 = .ok (.iload_n 1, 1) := by decide +kernel
theorem dX7_addArgument_33 : decode cX7_addArgument 33 = .ok (.iaload, 1) := by decide +kernel
theorem dX7_addArgument_34 : decode cX7_addArgument 34 = .ok (.istore_n 3, 1) := by decide +kernel
theorem dX7_addArgument_35 : decode cX7_addArgument 35 = .ok (.aload_n 0, 1) := by decide +kernel
theorem dX7_addArgument_36 : decode cX7_addArgument 36 = .ok (.getfield 41, 3) := by decide +kernel
theorem dX7_addArgument_39 : decode cX7_addArgument 39 = .ok (.iload_n 3, 1) := by decide +kernel
theorem dX7_addArgument_40 : decode cX7_addArgument 40 = .ok (.iaload, 1) := by decide +kernel
theorem dX7_addArgument_41 : decode cX7_addArgument 41 = .ok (.iconst (-1), 1) := by decide +kernel
theorem dX7_addArgument_42 : decode cX7_addArgument 42 = .ok (.if_icmp .eq 13, 3) := by decide +kernel
theorem dX7_addArgument_45 : decode cX7_addArgument 45 = .ok (.aload_n 0, 1) := by decide +kernel
theorem dX7_addArgument_46 : decode cX7_addArgument 46 = .ok (.getfield 41, 3) := by decide +kernel
theorem dX7_addArgument_49 : decode cX7_addArgument 49 = .ok (.iload_n 3, 1) := by decide +kernel
theorem dX7_addArgument_50 : decode cX7_addArgument 50 = .ok (.iaload, 1) := by decide +kernel
theorem dX7_addArgument_51 : decode cX7_addArgument 51 = .ok (.istore_n 3, 1) := by decide +kernel
theorem dX7_addArgument_52 : decode cX7_addArgument 52 = .ok (.goto (-17), 3) := by decide +kernel
theorem dX7_addArgument_55 : decode cX7_addArgument 55 = .ok (.aload_n 0, 1) := by decide +kernel
theorem dX7_addArgument_56 : decode cX7_addArgument 56 = .ok (.getfield 41, 3) := by decide +kernel
theorem dX7_addArgument_59 : decode cX7_addArgument 59 = .ok (.iload_n 3, 1) := by decide +kernel
theorem dX7_addArgument_60 : decode cX7_addArgument 60 = .ok (.iload_n 2, 1) := by decide +kernel
theorem dX7_addArgument_61 : decode cX7_addArgument 61 = .ok (.iastore, 1) := by decide +kernel
theorem dX7_addArgument_62 : decode cX7_addArgument 62 = .ok (.return_, 1) := by decide +kernel
theorem dX7_expression_0 : decode cX7_expression 0 = .ok (.aload_n 0, 1) := by decide +kernel
theorem dX7_expression_1 : decode cX7_expression 1 = .ok (.getfield 142, 3) := by decide +kernel
theorem dX7_expression_4 : decode cX7_expression 4 = .ok (.iconst 3, 1) := by decide +kernel
theorem dX7_expression_5 : decode cX7_expression 5 = .ok (.if_icmp .ne 38, 3) := by decide +kernel
theorem dX7_expression_8 : decode cX7_expression 8 = .ok (.aload_n 0, 1) := by decide +kernel
theorem dX7_expression_9 : decode cX7_expression 9 = .ok (.getfield 162, 3) := by decide +kernel
theorem dX7_expression_12 : decode cX7_expression 12 = .ok (.iconst 1, 1) := by decide +kernel
theorem dX7_expression_13 : decode cX7_expression 13 = .ok (.if_icmp .ne 30, 3) := by decide +kernel
theorem dX7_expression_16 : decode cX7_expression 16 = .ok (.aload_n 0, 1) := by decide +kernel
theorem dX7_expression_17 : decode cX7_expression 17 = .ok (.bipush 6, 2) := by decide +kernel
theorem dX7_expression_19 : decode cX7_expression 19 = .ok (.iconst 0, 1) := by decide +kernel
theorem dX7_expression_20 : decode cX7_expression 20 = .ok (.invokevirtual 211, 3) := by decide +kernel
theorem dX7_expression_23 : decode cX7_expression 23 = .ok (.istore_n 1, 1) := by decide +kernel
theorem dX7_expression_24 : decode cX7_expression 24 = .ok (.aload_n 0, 1) := by decide +kernel
theorem dX7_expression_25 : decode cX7_expression 25 = .ok (.invokevirtual 175, 3) := by decide +kernel
theorem dX7_expression_28 : decode cX7_expression 28 = .ok (.aload_n 0, 1) := by decide +kernel
theorem dX7_expression_29 : decode cX7_expression 29 = .ok (.iconst 2, 1) := by decide +kernel
theorem dX7_expression_30 : decode cX7_expression 30 = .ok (.iload_n 1, 1) := by decide +kernel
theorem dX7_expression_31 : decode cX7_expression 31 = .ok (.invokevirtual 215, 3) := by decide +kernel
theorem dX7_expression_34 : decode cX7_expression 34 = .ok (.aload_n 0, 1) := by decide +kernel
theorem dX7_expression_35 : decode cX7_expression 35 = .ok (.iconst 1, 1) := by decide +kernel
theorem dX7_expression_36 : decode cX7_expression 36 = .ok (.iconst 0, 1) := by decide +kernel
theorem dX7_expression_37 : decode cX7_expression 37 = .ok (.invokevirtual 215, 3) := by decide +kernel
theorem dX7_expression_40 : decode cX7_expression 40 = .ok (.goto 119, 3) := by decide +kernel
theorem dX7_expression_43 : decode cX7_expression 43 = .ok (.aload_n 0, 1) := by decide +kernel
theorem dX7_expression_44 : decode cX7_expression 44 = .ok (.getfield 142, 3) := by decide +kernel
theorem dX7_expression_47 : decode cX7_expression 47 = .ok (.iconst 3, 1) := by decide +kernel
theorem dX7_expression_48 : decode cX7_expression 48 = .ok (.if_icmp .ne 97, 3) := by decide +kernel
theorem dX7_expression_51 : decode cX7_expression 51 = .ok (.aload_n 0, 1) := by decide +kernel
theorem dX7_expression_52 : decode cX7_expression 52 = .ok (.getfield 162, 3) := by decide +kernel
theorem dX7_expression_55 : decode cX7_expression 55 = .ok (.iconst 4, 1) := by decide +kernel
theorem dX7_expression_56 : decode cX7_expression 56 = .ok (.if_icmp .ne 89, 3) := by decide +kernel
theorem dX7_expression_59 : decode cX7_expression 59 = .ok (.aload_n 0, 1) := by decide +kernel
theorem dX7_expression_60 : decode cX7_expression 60 = .ok (.bipush 7, 2) := by decide +kernel
theorem dX7_expression_62 : decode cX7_expression 62 = .ok (.iconst 0, 1) := by decide +kernel
theorem dX7_expression_63 : decode cX7_expression 63 = .ok (.invokevirtual 211, 3) := by decide +kernel
theorem dX7_expression_66 : decode cX7_expression 66 = .ok (.istore_n 1, 1) := by decide +kernel
theorem dX7_expression_67 : decode cX7_expression 67 = .ok (.aload_n 0, 1) := by decide +kernel
theorem dX7_expression_68 : decode cX7_expression 68 = .ok (.invokevirtual 175, 3) := by decide +kernel
theorem dX7_expression_71 : decode cX7_expression 71 = .ok (.aload_n 0, 1) := by decide +kernel
theorem dX7_expression_72 : decode cX7_expression 72 = .ok (.aload_n 0, 1) := by decide +kernel
theorem dX7_expression_73 : decode cX7_expression 73 = .ok (.getfield 142, 3) := by decide +kernel
theorem dX7_expression_76 : decode cX7_expression 76 = .ok (.iconst 1, 1) := by decide +kernel
theorem dX7_expression_77 : decode cX7_expression 77 = .ok (.if_icmp .ne 7, 3) := by decide +kernel
theorem dX7_expression_80 : decode cX7_expression 80 = .ok (.iconst 1, 1) := by decide +kernel
theorem dX7_expression_81 : decode cX7_expression 81 = .ok (.goto 4, 3) := by decide +kernel
theorem dX7_expression_84 : decode cX7_expression 84 = .ok (.iconst 0, 1) := by decide +kernel
theorem dX7_expression_85 : decode cX7_expression 85 = .ok (.invokevirtual 191, 3) := by decide +kernel
theorem dX7_expression_88 : decode cX7_expression 88 = .ok (.aload_n 0, 1) := by decide +kernel
theorem dX7_expression_89 : decode cX7_expression 89 = .ok (.getfield 165, 3) := by decide +kernel
theorem dX7_expression_92 : decode cX7_expression 92 = .ok (.ifCond .eq 17, 3) := by decide +kernel
theorem dX7_expression_95 : decode cX7_expression 95 = .ok (.aload_n 0, 1) := by decide +kernel
theorem dX7_expression_96 : decode cX7_expression 96 = .ok (.getfield 66, 3) := by decide +kernel
theorem dX7_expression_99 : decode cX7_expression 99 = .ok (.iload_n 1, 1) := by decide +kernel
theorem dX7_expression_100 : decode cX7_expression 100 = .ok (.aload_n 0, 1) := by decide +kernel
theorem dX7_expression_101 : decode cX7_expression 101 = .ok (.invokevirtual 204, 3) := by decide +kernel
theorem dX7_expression_104 : decode cX7_expression 104 = .ok (.lastore, 1) := by decide +kernel
theorem dX7_expression_105 : decode cX7_expression 105 = .ok (.aload_n 0, 1) := by decide +kernel
theorem dX7_expression_106 : decode cX7_expression 106 = .ok (.invokevirtual 175, 3) := by decide +kernel
theorem dX7_expression_109 : decode cX7_expression 109 = .ok (.aload_n 0, 1) := by decide +kernel
theorem dX7_expression_110 : decode cX7_expression 110 = .ok (.aload_n 0, 1) := by decide +kernel
theorem dX7_expression_111 : decode cX7_expression 111 = .ok (.bipush 61, 2) := by decide +kernel
theorem dX7_expression_113 : decode cX7_expression 113 = .ok (.invokevirtual 172, 3) := by decide +kernel
theorem dX7_expression_116 : decode cX7_expression 116 = .ok (.invokevirtual 191, 3) := by decide +kernel
theorem dX7_expression_119 : decode cX7_expression 119 = .ok (.aload_n 0, 1) := by decide +kernel
theorem dX7_expression_120 : decode cX7_expression 120 = .ok (.getfield 165, 3) := by decide +kernel
theorem dX7_expression_123 : decode cX7_expression 123 = .ok (.ifCond .eq 19, 3) := by decide +kernel
theorem dX7_expression_126 : decode cX7_expression 126 = .ok (.aload_n 0, 1) := by decide +kernel
theorem dX7_expression_127 : decode cX7_expression 127 = .ok (.invokevirtual 175, 3) := by decide +kernel
theorem dX7_expression_130 : decode cX7_expression 130 = .ok (.aload_n 0, 1) := by decide +kernel
theorem dX7_expression_131 : decode cX7_expression 131 = .ok (.iconst 5, 1) := by decide +kernel
theorem dX7_expression_132 : decode cX7_expression 132 = .ok (.iload_n 1, 1) := by decide +kernel
theorem dX7_expression_133 : decode cX7_expression 133 = .ok (.invokevirtual 215, 3) := by decide +kernel
theorem dX7_expression_136 : decode cX7_expression 136 = .ok (.aload_n 0, 1) := by decide +kernel
theorem dX7_expression_137 : decode cX7_expression 137 = .ok (.iconst 1, 1) := by decide +kernel
theorem dX7_expression_138 : decode cX7_expression 138 = .ok (.iconst 0, 1) := by decide +kernel
theorem dX7_expression_139 : decode cX7_expression 139 = .ok (.invokevirtual 215, 3) := by decide +kernel
theorem dX7_expression_142 : decode cX7_expression 142 = .ok (.goto 17, 3) := by decide +kernel
theorem dX7_expression_145 : decode cX7_expression 145 = .ok (.aload_n 0, 1) := by decide +kernel
theorem dX7_expression_146 : decode cX7_expression 146 = .ok (.bipush 7, 2) := by decide +kernel
theorem dX7_expression_148 : decode cX7_expression 148 = .ok (.iconst 0, 1) := by decide +kernel
theorem dX7_expression_149 : decode cX7_expression 149 = .ok (.invokevirtual 215, 3) := by decide +kernel
theorem dX7_expression_152 : decode cX7_expression 152 = .ok (.aload_n 0, 1) := by decide +kernel
theorem dX7_expression_153 : decode cX7_expression 153 = .ok (.bipush 9, 2) := by decide +kernel
theorem dX7_expression_155 : decode cX7_expression 155 = .ok (.iconst 0, 1) := by decide +kernel
theorem dX7_expression_156 : decode cX7_expression 156 = .ok (.invokevirtual 215, 3) := by decide +kernel
theorem dX7_expression_159 : decode cX7_expression 159 = .ok (.return_, 1) := by decide +kernel
theorem dX7_factor_0 : decode cX7_factor 0 = .ok (.aload_n 0, 1) := by decide +kernel
theorem dX7_factor_1 : decode cX7_factor 1 = .ok (.bipush 45, 2) := by decide +kernel
theorem dX7_factor_3 : decode cX7_factor 3 = .ok (.invokevirtual 172, 3) := by decide +kernel
theorem dX7_factor_6 : decode cX7_factor 6 = .ok (.ifCond .eq 31, 3) := by decide +kernel
theorem dX7_factor_9 : decode cX7_factor 9 = .ok (.aload_n 0, 1) := by decide +kernel
theorem dX7_factor_10 : decode cX7_factor 10 = .ok (.iconst 4, 1) := by decide +kernel
theorem dX7_factor_11 : decode cX7_factor 11 = .ok (.iconst 0, 1) := by decide +kernel
theorem dX7_factor_12 : decode cX7_factor 12 = .ok (.invokevirtual 211, 3) := by decide +kernel
theorem dX7_factor_15 : decode cX7_factor 15 = .ok (.istore_n 1, 1) := by decide +kernel
theorem dX7_factor_16 : decode cX7_factor 16 = .ok (.aload_n 0, 1) := by decide +kernel
theorem dX7_factor_17 : decode cX7_factor 17 = .ok (.invokevirtual 175, 3) := by decide +kernel
theorem dX7_factor_20 : decode cX7_factor 20 = .ok (.aload_n 0, 1) := by decide +kernel
theorem dX7_factor_21 : decode cX7_factor 21 = .ok (.bipush 16, 2) := by decide +kernel
theorem dX7_factor_23 : decode cX7_factor 23 = .ok (.iload_n 1, 1) := by decide +kernel
theorem dX7_factor_24 : decode cX7_factor 24 = .ok (.invokevirtual 215, 3) := by decide +kernel
theorem dX7_factor_27 : decode cX7_factor 27 = .ok (.aload_n 0, 1) := by decide +kernel
theorem dX7_factor_28 : decode cX7_factor 28 = .ok (.bipush 15, 2) := by decide +kernel
theorem dX7_factor_30 : decode cX7_factor 30 = .ok (.iconst 0, 1) := by decide +kernel
theorem dX7_factor_31 : decode cX7_factor 31 = .ok (.invokevirtual 215, 3) := by decide +kernel
theorem dX7_factor_34 : decode cX7_factor 34 = .ok (.goto 190, 3) := by decide +kernel
theorem dX7_factor_37 : decode cX7_factor 37 = .ok (.aload_n 0, 1) := by decide +kernel
theorem dX7_factor_38 : decode cX7_factor 38 = .ok (.bipush 40, 2) := by decide +kernel
theorem dX7_factor_40 : decode cX7_factor 40 = .ok (.invokevirtual 172, 3) := by decide +kernel
theorem dX7_factor_43 : decode cX7_factor 43 = .ok (.ifCond .eq 51, 3) := by decide +kernel
theorem dX7_factor_46 : decode cX7_factor 46 = .ok (.aload_n 0, 1) := by decide +kernel
theorem dX7_factor_47 : decode cX7_factor 47 = .ok (.aload_n 0, 1) := by decide +kernel
theorem dX7_factor_48 : decode cX7_factor 48 = .ok (.getfield 219, 3) := by decide +kernel
theorem dX7_factor_51 : decode cX7_factor 51 = .ok (.bipush 20, 2) := by decide +kernel
theorem dX7_factor_53 : decode cX7_factor 53 = .ok (.if_icmp .ge 7, 3) := by decide +kernel
theorem dX7_factor_56 : decode cX7_factor 56 = .ok (.iconst 1, 1) := by decide +kernel
theorem dX7_factor_57 : decode cX7_factor 57 = .ok (.goto 4, 3) := by decide +kernel
theorem dX7_factor_60 : decode cX7_factor 60 = .ok (.iconst 0, 1) := by decide +kernel
theorem dX7_factor_61 : decode cX7_factor 61 = .ok (.invokevirtual 191, 3) := by decide +kernel
theorem dX7_factor_64 : decode cX7_factor 64 = .ok (.aload_n 0, 1) := by decide +kernel
theorem dX7_factor_65 : decode cX7_factor 65 = .ok (.dup, 1) := by decide +kernel
theorem dX7_factor_66 : decode cX7_factor 66 = .ok (.getfield 219, 3) := by decide +kernel
theorem dX7_factor_69 : decode cX7_factor 69 = .ok (.iconst 1, 1) := by decide +kernel
theorem dX7_factor_70 : decode cX7_factor 70 = .ok (.iadd, 1) := by decide +kernel
theorem dX7_factor_71 : decode cX7_factor 71 = .ok (.putfield 219, 3) := by decide +kernel
theorem dX7_factor_74 : decode cX7_factor 74 = .ok (.aload_n 0, 1) := by decide +kernel
theorem dX7_factor_75 : decode cX7_factor 75 = .ok (.invokevirtual 175, 3) := by decide +kernel
theorem dX7_factor_78 : decode cX7_factor 78 = .ok (.aload_n 0, 1) := by decide +kernel
theorem dX7_factor_79 : decode cX7_factor 79 = .ok (.bipush 17, 2) := by decide +kernel
theorem dX7_factor_81 : decode cX7_factor 81 = .ok (.iconst 0, 1) := by decide +kernel
theorem dX7_factor_82 : decode cX7_factor 82 = .ok (.invokevirtual 215, 3) := by decide +kernel
theorem dX7_factor_85 : decode cX7_factor 85 = .ok (.aload_n 0, 1) := by decide +kernel
theorem dX7_factor_86 : decode cX7_factor 86 = .ok (.iconst 1, 1) := by decide +kernel
theorem dX7_factor_87 : decode cX7_factor 87 = .ok (.iconst 0, 1) := by decide +kernel
theorem dX7_factor_88 : decode cX7_factor 88 = .ok (.invokevirtual 215, 3) := by decide +kernel
theorem dX7_factor_91 : decode cX7_factor 91 = .ok (.goto 133, 3) := by decide +kernel
theorem dX7_factor_94 : decode cX7_factor 94 = .ok (.aload_n 0, 1) := by decide +kernel
theorem dX7_factor_95 : decode cX7_factor 95 = .ok (.getfield 142, 3) := by decide +kernel
theorem dX7_factor_98 : decode cX7_factor 98 = .ok (.iconst 2, 1) := by decide +kernel
theorem dX7_factor_99 : decode cX7_factor 99 = .ok (.if_icmp .ne 31, 3) := by decide +kernel
theorem dX7_factor_102 : decode cX7_factor 102 = .ok (.aload_n 0, 1) := by decide +kernel
theorem dX7_factor_103 : decode cX7_factor 103 = .ok (.aload_n 0, 1) := by decide +kernel
theorem dX7_factor_104 : decode cX7_factor 104 = .ok (.iconst 1, 1) := by decide +kernel
theorem dX7_factor_105 : decode cX7_factor 105 = .ok (.aload_n 0, 1) := by decide +kernel
theorem dX7_factor_106 : decode cX7_factor 106 = .ok (.getfield 148, 3) := by decide +kernel
theorem dX7_factor_109 : decode cX7_factor 109 = .ok (.l2i, 1) := by decide +kernel
theorem dX7_factor_110 : decode cX7_factor 110 = .ok (.invokevirtual 211, 3) := by decide +kernel
theorem dX7_factor_113 : decode cX7_factor 113 = .ok (.invokevirtual 222, 3) := by decide +kernel
theorem dX7_factor_116 : decode cX7_factor 116 = .ok (.aload_n 0, 1) := by decide +kernel
theorem dX7_factor_117 : decode cX7_factor 117 = .ok (.invokevirtual 175, 3) := by decide +kernel
theorem dX7_factor_120 : decode cX7_factor 120 = .ok (.aload_n 0, 1) := by decide +kernel
theorem dX7_factor_121 : decode cX7_factor 121 = .ok (.bipush 18, 2) := by decide +kernel
theorem dX7_factor_123 : decode cX7_factor 123 = .ok (.iconst 0, 1) := by decide +kernel
theorem dX7_factor_124 : decode cX7_factor 124 = .ok (.invokevirtual 215, 3) := by decide +kernel
theorem dX7_factor_127 : decode cX7_factor 127 = .ok (.goto 97, 3) := by decide +kernel
theorem dX7_factor_130 : decode cX7_factor 130 = .ok (.aload_n 0, 1) := by decide +kernel
theorem dX7_factor_131 : decode cX7_factor 131 = .ok (.getfield 142, 3) := by decide +kernel
theorem dX7_factor_134 : decode cX7_factor 134 = .ok (.iconst 3, 1) := by decide +kernel
theorem dX7_factor_135 : decode cX7_factor 135 = .ok (.if_icmp .ne 61, 3) := by decide +kernel
theorem dX7_factor_138 : decode cX7_factor 138 = .ok (.aload_n 0, 1) := by decide +kernel
theorem dX7_factor_139 : decode cX7_factor 139 = .ok (.getfield 162, 3) := by decide +kernel
theorem dX7_factor_142 : decode cX7_factor 142 = .ok (.bipush 6, 2) := by decide +kernel
theorem dX7_factor_144 : decode cX7_factor 144 = .ok (.if_icmp .ne 52, 3) := by decide +kernel
theorem dX7_factor_147 : decode cX7_factor 147 = .ok (.aload_n 0, 1) := by decide +kernel
theorem dX7_factor_148 : decode cX7_factor 148 = .ok (.bipush 9, 2) := by decide +kernel
theorem dX7_factor_150 : decode cX7_factor 150 = .ok (.iconst 0, 1) := by decide +kernel
theorem dX7_factor_151 : decode cX7_factor 151 = .ok (.invokevirtual 211, 3) := by decide +kernel
theorem dX7_factor_154 : decode cX7_factor 154 = .ok (.istore_n 1, 1) := by decide +kernel
theorem dX7_factor_155 : decode cX7_factor 155 = .ok (.aload_n 0, 1) := by decide +kernel
theorem dX7_factor_156 : decode cX7_factor 156 = .ok (.invokevirtual 175, 3) := by decide +kernel
theorem dX7_factor_159 : decode cX7_factor 159 = .ok (.aload_n 0, 1) := by decide +kernel
theorem dX7_factor_160 : decode cX7_factor 160 = .ok (.aload_n 0, 1) := by decide +kernel
theorem dX7_factor_161 : decode cX7_factor 161 = .ok (.bipush 40, 2) := by decide +kernel
theorem dX7_factor_163 : decode cX7_factor 163 = .ok (.invokevirtual 172, 3) := by decide +kernel
theorem dX7_factor_166 : decode cX7_factor 166 = .ok (.invokevirtual 191, 3) := by decide +kernel
theorem dX7_factor_169 : decode cX7_factor 169 = .ok (.aload_n 0, 1) := by decide +kernel
theorem dX7_factor_170 : decode cX7_factor 170 = .ok (.getfield 165, 3) := by decide +kernel
theorem dX7_factor_173 : decode cX7_factor 173 = .ok (.ifCond .eq 20, 3) := by decide +kernel
theorem dX7_factor_176 : decode cX7_factor 176 = .ok (.aload_n 0, 1) := by decide +kernel
theorem dX7_factor_177 : decode cX7_factor 177 = .ok (.invokevirtual 175, 3) := by decide +kernel
theorem dX7_factor_180 : decode cX7_factor 180 = .ok (.aload_n 0, 1) := by decide +kernel
theorem dX7_factor_181 : decode cX7_factor 181 = .ok (.bipush 20, 2) := by decide +kernel
theorem dX7_factor_183 : decode cX7_factor 183 = .ok (.iload_n 1, 1) := by decide +kernel
theorem dX7_factor_184 : decode cX7_factor 184 = .ok (.invokevirtual 215, 3) := by decide +kernel
theorem dX7_factor_187 : decode cX7_factor 187 = .ok (.aload_n 0, 1) := by decide +kernel
theorem dX7_factor_188 : decode cX7_factor 188 = .ok (.iconst 1, 1) := by decide +kernel
theorem dX7_factor_189 : decode cX7_factor 189 = .ok (.iconst 0, 1) := by decide +kernel
theorem dX7_factor_190 : decode cX7_factor 190 = .ok (.invokevirtual 215, 3) := by decide +kernel
theorem dX7_factor_193 : decode cX7_factor 193 = .ok (.goto 31, 3) := by decide +kernel
theorem dX7_factor_196 : decode cX7_factor 196 = .ok (.aload_n 0, 1) := by decide +kernel
theorem dX7_factor_197 : decode cX7_factor 197 = .ok (.aload_n 0, 1) := by decide +kernel
theorem dX7_factor_198 : decode cX7_factor 198 = .ok (.getfield 142, 3) := by decide +kernel
theorem dX7_factor_201 : decode cX7_factor 201 = .ok (.iconst 1, 1) := by decide +kernel
theorem dX7_factor_202 : decode cX7_factor 202 = .ok (.if_icmp .ne 7, 3) := by decide +kernel
theorem dX7_factor_205 : decode cX7_factor 205 = .ok (.iconst 1, 1) := by decide +kernel
theorem dX7_factor_206 : decode cX7_factor 206 = .ok (.goto 4, 3) := by decide +kernel
theorem dX7_factor_209 : decode cX7_factor 209 = .ok (.iconst 0, 1) := by decide +kernel
theorem dX7_factor_210 : decode cX7_factor 210 = .ok (.invokevirtual 191, 3) := by decide +kernel
theorem dX7_factor_213 : decode cX7_factor 213 = .ok (.aload_n 0, 1) := by decide +kernel
theorem dX7_factor_214 : decode cX7_factor 214 = .ok (.getfield 165, 3) := by decide +kernel
theorem dX7_factor_217 : decode cX7_factor 217 = .ok (.ifCond .eq 7, 3) := by decide +kernel
theorem dX7_factor_220 : decode cX7_factor 220 = .ok (.aload_n 0, 1) := by decide +kernel
theorem dX7_factor_221 : decode cX7_factor 221 = .ok (.invokevirtual 226, 3) := by decide +kernel
theorem dX7_factor_224 : decode cX7_factor 224 = .ok (.return_, 1) := by decide +kernel
theorem dX7_named_0 : decode cX7_named 0 = .ok (.aload_n 0, 1) := by decide +kernel
theorem dX7_named_1 : decode cX7_named 1 = .ok (.getfield 129, 3) := by decide +kernel
theorem dX7_named_4 : decode cX7_named 4 = .ok (.istore_n 1, 1) := by decide +kernel
theorem dX7_named_5 : decode cX7_named 5 = .ok (.iload_n 1, 1) := by decide +kernel
theorem dX7_named_6 : decode cX7_named 6 = .ok (.aload_n 0, 1) := by decide +kernel
theorem dX7_named_7 : decode cX7_named 7 = .ok (.getfield 119, 3) := by decide +kernel
theorem dX7_named_10 : decode cX7_named 10 = .ok (.if_icmp .ge 21, 3) := by decide +kernel
theorem dX7_named_13 : decode cX7_named 13 = .ok (.aload_n 0, 1) := by decide +kernel
theorem dX7_named_14 : decode cX7_named 14 = .ok (.getfield 7, 3) := by decide +kernel
theorem dX7_named_17 : decode cX7_named 17 = .ok (.iload_n 1, 1) := by decide +kernel
theorem dX7_named_18 : decode cX7_named 18 = .ok (.baload, 1) := by decide +kernel
theorem dX7_named_19 : decode cX7_named 19 = .ok (.invokestatic 139, 3) := by decide +kernel
theorem dX7_named_22 : decode cX7_named 22 = .ok (.ifCond .eq 9, 3) := by decide +kernel
theorem dX7_named_25 : decode cX7_named 25 = .ok (.iinc 1 1, 3) := by decide +kernel
theorem dX7_named_28 : decode cX7_named 28 = .ok (.goto (-23), 3) := by decide +kernel
theorem dX7_named_31 : decode cX7_named 31 = .ok (.iload_n 1, 1) := by decide +kernel
theorem dX7_named_32 : decode cX7_named 32 = .ok (.aload_n 0, 1) := by decide +kernel
theorem dX7_named_33 : decode cX7_named 33 = .ok (.getfield 119, 3) := by decide +kernel
theorem dX7_named_36 : decode cX7_named 36 = .ok (.if_icmp .eq 14, 3) := by decide +kernel
theorem dX7_named_39 : decode cX7_named 39 = .ok (.aload_n 0, 1) := by decide +kernel
theorem dX7_named_40 : decode cX7_named 40 = .ok (.getfield 7, 3) := by decide +kernel
theorem dX7_named_43 : decode cX7_named 43 = .ok (.iload_n 1, 1) := by decide +kernel
theorem dX7_named_44 : decode cX7_named 44 = .ok (.baload, 1) := by decide +kernel
theorem dX7_named_45 : decode cX7_named 45 = .ok (.bipush 40, 2) := by decide +kernel
theorem dX7_named_47 : decode cX7_named 47 = .ok (.if_icmp .eq 32, 3) := by decide +kernel
theorem dX7_named_50 : decode cX7_named 50 = .ok (.aload_n 0, 1) := by decide +kernel
theorem dX7_named_51 : decode cX7_named 51 = .ok (.invokevirtual 229, 3) := by decide +kernel
theorem dX7_named_54 : decode cX7_named 54 = .ok (.istore_n 2, 1) := by decide +kernel
theorem dX7_named_55 : decode cX7_named 55 = .ok (.aload_n 0, 1) := by decide +kernel
theorem dX7_named_56 : decode cX7_named 56 = .ok (.iload_n 2, 1) := by decide +kernel
theorem dX7_named_57 : decode cX7_named 57 = .ok (.invokevirtual 222, 3) := by decide +kernel
theorem dX7_named_60 : decode cX7_named 60 = .ok (.aload_n 0, 1) := by decide +kernel
theorem dX7_named_61 : decode cX7_named 61 = .ok (.getfield 165, 3) := by decide +kernel
theorem dX7_named_64 : decode cX7_named 64 = .ok (.ifCond .eq 14, 3) := by decide +kernel
theorem dX7_named_67 : decode cX7_named 67 = .ok (.aload_n 0, 1) := by decide +kernel
theorem dX7_named_68 : decode cX7_named 68 = .ok (.invokevirtual 175, 3) := by decide +kernel
theorem dX7_named_71 : decode cX7_named 71 = .ok (.aload_n 0, 1) := by decide +kernel
theorem dX7_named_72 : decode cX7_named 72 = .ok (.bipush 18, 2) := by decide +kernel
theorem dX7_named_74 : decode cX7_named 74 = .ok (.iconst 0, 1) := by decide +kernel
theorem dX7_named_75 : decode cX7_named 75 = .ok (.invokevirtual 215, 3) := by decide +kernel
theorem dX7_named_78 : decode cX7_named 78 = .ok (.return_, 1) := by decide +kernel
theorem dX7_named_79 : decode cX7_named 79 = .ok (.aload_n 0, 1) := by decide +kernel
theorem dX7_named_80 : decode cX7_named 80 = .ok (.bipush 8, 2) := by decide +kernel
theorem dX7_named_82 : decode cX7_named 82 = .ok (.iconst 0, 1) := by decide +kernel
theorem dX7_named_83 : decode cX7_named 83 = .ok (.invokevirtual 211, 3) := by decide +kernel
theorem dX7_named_86 : decode cX7_named 86 = .ok (.istore_n 2, 1) := by decide +kernel
theorem dX7_named_87 : decode cX7_named 87 = .ok (.aload_n 0, 1) := by decide +kernel
theorem dX7_named_88 : decode cX7_named 88 = .ok (.getfield 165, 3) := by decide +kernel
theorem dX7_named_91 : decode cX7_named 91 = .ok (.ifCond .ne 4, 3) := by decide +kernel
theorem dX7_named_94 : decode cX7_named 94 = .ok (.return_, 1) := by decide +kernel
theorem dX7_named_95 : decode cX7_named 95 = .ok (.aload_n 0, 1) := by decide +kernel
theorem dX7_named_96 : decode cX7_named 96 = .ok (.getfield 66, 3) := by decide +kernel
theorem dX7_named_99 : decode cX7_named 99 = .ok (.iload_n 2, 1) := by decide +kernel
theorem dX7_named_100 : decode cX7_named 100 = .ok (.aload_n 0, 1) := by decide +kernel
theorem dX7_named_101 : decode cX7_named 101 = .ok (.invokevirtual 204, 3) := by decide +kernel
theorem dX7_named_104 : decode cX7_named 104 = .ok (.lastore, 1) := by decide +kernel
theorem dX7_named_105 : decode cX7_named 105 = .ok (.aload_n 0, 1) := by decide +kernel
theorem dX7_named_106 : decode cX7_named 106 = .ok (.invokevirtual 175, 3) := by decide +kernel
theorem dX7_named_109 : decode cX7_named 109 = .ok (.aload_n 0, 1) := by decide +kernel
theorem dX7_named_110 : decode cX7_named 110 = .ok (.invokevirtual 175, 3) := by decide +kernel
theorem dX7_named_113 : decode cX7_named 113 = .ok (.aload_n 0, 1) := by decide +kernel
theorem dX7_named_114 : decode cX7_named 114 = .ok (.bipush 41, 2) := by decide +kernel
theorem dX7_named_116 : decode cX7_named 116 = .ok (.invokevirtual 232, 3) := by decide +kernel
theorem dX7_named_119 : decode cX7_named 119 = .ok (.ifCond .eq 18, 3) := by decide +kernel
theorem dX7_named_122 : decode cX7_named 122 = .ok (.aload_n 0, 1) := by decide +kernel
theorem dX7_named_123 : decode cX7_named 123 = .ok (.iload_n 2, 1) := by decide +kernel
theorem dX7_named_124 : decode cX7_named 124 = .ok (.invokevirtual 222, 3) := by decide +kernel
theorem dX7_named_127 : decode cX7_named 127 = .ok (.aload_n 0, 1) := by decide +kernel
theorem dX7_named_128 : decode cX7_named 128 = .ok (.bipush 18, 2) := by decide +kernel
theorem dX7_named_130 : decode cX7_named 130 = .ok (.iconst 0, 1) := by decide +kernel
theorem dX7_named_131 : decode cX7_named 131 = .ok (.invokevirtual 215, 3) := by decide +kernel
theorem dX7_named_134 : decode cX7_named 134 = .ok (.goto 16, 3) := by decide +kernel
theorem dX7_named_137 : decode cX7_named 137 = .ok (.aload_n 0, 1) := by decide +kernel
theorem dX7_named_138 : decode cX7_named 138 = .ok (.bipush 22, 2) := by decide +kernel
theorem dX7_named_140 : decode cX7_named 140 = .ok (.iload_n 2, 1) := by decide +kernel
theorem dX7_named_141 : decode cX7_named 141 = .ok (.invokevirtual 215, 3) := by decide +kernel
theorem dX7_named_144 : decode cX7_named 144 = .ok (.aload_n 0, 1) := by decide +kernel
theorem dX7_named_145 : decode cX7_named 145 = .ok (.iconst 1, 1) := by decide +kernel
theorem dX7_named_146 : decode cX7_named 146 = .ok (.iconst 0, 1) := by decide +kernel
theorem dX7_named_147 : decode cX7_named 147 = .ok (.invokevirtual 215, 3) := by decide +kernel
theorem dX7_named_150 : decode cX7_named 150 = .ok (.return_, 1) := by decide +kernel
theorem dX7_listed_0 : decode cX7_listed 0 = .ok (.aload_n 0, 1) := by decide +kernel
theorem dX7_listed_1 : decode cX7_listed 1 = .ok (.iload_n 1, 1) := by decide +kernel
theorem dX7_listed_2 : decode cX7_listed 2 = .ok (.aload_n 0, 1) := by decide +kernel
theorem dX7_listed_3 : decode cX7_listed 3 = .ok (.invokevirtual 235, 3) := by decide +kernel
theorem dX7_listed_6 : decode cX7_listed 6 = .ok (.invokevirtual 238, 3) := by decide +kernel
theorem dX7_listed_9 : decode cX7_listed 9 = .ok (.aload_n 0, 1) := by decide +kernel
theorem dX7_listed_10 : decode cX7_listed 10 = .ok (.iload_n 1, 1) := by decide +kernel
theorem dX7_listed_11 : decode cX7_listed 11 = .ok (.iload_n 2, 1) := by decide +kernel
theorem dX7_listed_12 : decode cX7_listed 12 = .ok (.invokevirtual 241, 3) := by decide +kernel
theorem dX7_listed_15 : decode cX7_listed 15 = .ok (.return_, 1) := by decide +kernel
theorem dX7_closed_0 : decode cX7_closed 0 = .ok (.aload_n 0, 1) := by decide +kernel
theorem dX7_closed_1 : decode cX7_closed 1 = .ok (.bipush 44, 2) := by decide +kernel
theorem dX7_closed_3 : decode cX7_closed 3 = .ok (.invokevirtual 232, 3) := by decide +kernel
theorem dX7_closed_6 : decode cX7_closed 6 = .ok (.ifCond .eq 16, 3) := by decide +kernel
theorem dX7_closed_9 : decode cX7_closed 9 = .ok (.aload_n 0, 1) := by decide +kernel
theorem dX7_closed_10 : decode cX7_closed 10 = .ok (.iload_n 2, 1) := by decide +kernel
theorem dX7_closed_11 : decode cX7_closed 11 = .ok (.iload_n 1, 1) := by decide +kernel
theorem dX7_closed_12 : decode cX7_closed 12 = .ok (.invokevirtual 215, 3) := by decide +kernel
theorem dX7_closed_15 : decode cX7_closed 15 = .ok (.aload_n 0, 1) := by decide +kernel
theorem dX7_closed_16 : decode cX7_closed 16 = .ok (.iconst 1, 1) := by decide +kernel
theorem dX7_closed_17 : decode cX7_closed 17 = .ok (.iconst 0, 1) := by decide +kernel
theorem dX7_closed_18 : decode cX7_closed 18 = .ok (.invokevirtual 215, 3) := by decide +kernel
theorem dX7_closed_21 : decode cX7_closed 21 = .ok (.return_, 1) := by decide +kernel
theorem dX7_closed_22 : decode cX7_closed 22 = .ok (.aload_n 0, 1) := by decide +kernel
theorem dX7_closed_23 : decode cX7_closed 23 = .ok (.aload_n 0, 1) := by decide +kernel
theorem dX7_closed_24 : decode cX7_closed 24 = .ok (.bipush 41, 2) := by decide +kernel
theorem dX7_closed_26 : decode cX7_closed 26 = .ok (.invokevirtual 172, 3) := by decide +kernel
theorem dX7_closed_29 : decode cX7_closed 29 = .ok (.invokevirtual 191, 3) := by decide +kernel
theorem dX7_closed_32 : decode cX7_closed 32 = .ok (.aload_n 0, 1) := by decide +kernel
theorem dX7_closed_33 : decode cX7_closed 33 = .ok (.getfield 165, 3) := by decide +kernel
theorem dX7_closed_36 : decode cX7_closed 36 = .ok (.ifCond .eq 19, 3) := by decide +kernel
theorem dX7_closed_39 : decode cX7_closed 39 = .ok (.aload_n 0, 1) := by decide +kernel
theorem dX7_closed_40 : decode cX7_closed 40 = .ok (.invokevirtual 175, 3) := by decide +kernel
theorem dX7_closed_43 : decode cX7_closed 43 = .ok (.aload_n 0, 1) := by decide +kernel
theorem dX7_closed_44 : decode cX7_closed 44 = .ok (.iload_n 1, 1) := by decide +kernel
theorem dX7_closed_45 : decode cX7_closed 45 = .ok (.invokevirtual 222, 3) := by decide +kernel
theorem dX7_closed_48 : decode cX7_closed 48 = .ok (.aload_n 0, 1) := by decide +kernel
theorem dX7_closed_49 : decode cX7_closed 49 = .ok (.bipush 18, 2) := by decide +kernel
theorem dX7_closed_51 : decode cX7_closed 51 = .ok (.iconst 0, 1) := by decide +kernel
theorem dX7_closed_52 : decode cX7_closed 52 = .ok (.invokevirtual 215, 3) := by decide +kernel
theorem dX7_closed_55 : decode cX7_closed 55 = .ok (.return_, 1) := by decide +kernel
theorem dX7_operator_0 : decode cX7_operator 0 = .ok (.aload_n 0, 1) := by decide +kernel
theorem dX7_operator_1 : decode cX7_operator 1 = .ok (.iconst 5, 1) := by decide +kernel
theorem dX7_operator_2 : decode cX7_operator 2 = .ok (.iload_n 1, 1) := by decide +kernel
theorem dX7_operator_3 : decode cX7_operator 3 = .ok (.invokevirtual 211, 3) := by decide +kernel
theorem dX7_operator_6 : decode cX7_operator 6 = .ok (.istore_n 2, 1) := by decide +kernel
theorem dX7_operator_7 : decode cX7_operator 7 = .ok (.aload_n 0, 1) := by decide +kernel
theorem dX7_operator_8 : decode cX7_operator 8 = .ok (.getfield 165, 3) := by decide +kernel
theorem dX7_operator_11 : decode cX7_operator 11 = .ok (.ifCond .eq 13, 3) := by decide +kernel
theorem dX7_operator_14 : decode cX7_operator 14 = .ok (.aload_n 0, 1) := by decide +kernel
theorem dX7_operator_15 : decode cX7_operator 15 = .ok (.getfield 29, 3) := by decide +kernel
theorem dX7_operator_18 : decode cX7_operator 18 = .ok (.iload_n 2, 1) := by decide +kernel
theorem dX7_operator_19 : decode cX7_operator 19 = .ok (.aload_n 0, 1) := by decide +kernel
theorem dX7_operator_20 : decode cX7_operator 20 = .ok (.invokevirtual 235, 3) := by decide +kernel
theorem dX7_operator_23 : decode cX7_operator 23 = .ok (.iastore, 1) := by decide +kernel
theorem dX7_operator_24 : decode cX7_operator 24 = .ok (.iload_n 2, 1) := by decide +kernel
theorem dX7_operator_25 : decode cX7_operator 25 = .ok (.ireturn, 1) := by decide +kernel
theorem dX7_second_0 : decode cX7_second 0 = .ok (.aload_n 0, 1) := by decide +kernel
theorem dX7_second_1 : decode cX7_second 1 = .ok (.getfield 32, 3) := by decide +kernel
theorem dX7_second_4 : decode cX7_second 4 = .ok (.iload_n 1, 1) := by decide +kernel
theorem dX7_second_5 : decode cX7_second 5 = .ok (.aload_n 0, 1) := by decide +kernel
theorem dX7_second_6 : decode cX7_second 6 = .ok (.invokevirtual 235, 3) := by decide +kernel
theorem dX7_second_9 : decode cX7_second 9 = .ok (.iastore, 1) := by decide +kernel
theorem dX7_second_10 : decode cX7_second 10 = .ok (.aload_n 0, 1) := by decide +kernel
theorem dX7_second_11 : decode cX7_second 11 = .ok (.iload_n 1, 1) := by decide +kernel
theorem dX7_second_12 : decode cX7_second 12 = .ok (.invokevirtual 222, 3) := by decide +kernel
theorem dX7_second_15 : decode cX7_second 15 = .ok (.return_, 1) := by decide +kernel
theorem dX7_step_0 : decode cX7_step 0 = .ok (.iload_n 1, 1) := by decide +kernel
theorem dX7_step_1 : decode cX7_step 1 = .ok (.iconst 1, 1) := by decide +kernel
theorem dX7_step_2 : decode cX7_step 2 = .ok (.if_icmp .ne 10, 3) := by decide +kernel
theorem dX7_step_5 : decode cX7_step 5 = .ok (.aload_n 0, 1) := by decide +kernel
theorem dX7_step_6 : decode cX7_step 6 = .ok (.invokevirtual 244, 3) := by decide +kernel
theorem dX7_step_9 : decode cX7_step 9 = .ok (.goto 263, 3) := by decide +kernel
theorem dX7_step_12 : decode cX7_step 12 = .ok (.iload_n 1, 1) := by decide +kernel
theorem dX7_step_13 : decode cX7_step 13 = .ok (.iconst 2, 1) := by decide +kernel
theorem dX7_step_14 : decode cX7_step 14 = .ok (.if_icmp .eq 8, 3) := by decide +kernel
theorem dX7_step_17 : decode cX7_step 17 = .ok (.iload_n 1, 1) := by decide +kernel
theorem dX7_step_18 : decode cX7_step 18 = .ok (.iconst 3, 1) := by decide +kernel
theorem dX7_step_19 : decode cX7_step 19 = .ok (.if_icmp .ne 93, 3) := by decide +kernel
theorem dX7_step_22 : decode cX7_step 22 = .ok (.aload_n 0, 1) := by decide +kernel
theorem dX7_step_23 : decode cX7_step 23 = .ok (.aload_n 0, 1) := by decide +kernel
theorem dX7_step_24 : decode cX7_step 24 = .ok (.getfield 142, 3) := by decide +kernel
theorem dX7_step_27 : decode cX7_step 27 = .ok (.iconst 3, 1) := by decide +kernel
theorem dX7_step_28 : decode cX7_step 28 = .ok (.if_icmp .ne 24, 3) := by decide +kernel
theorem dX7_step_31 : decode cX7_step 31 = .ok (.aload_n 0, 1) := by decide +kernel
theorem dX7_step_32 : decode cX7_step 32 = .ok (.getfield 162, 3) := by decide +kernel
theorem dX7_step_35 : decode cX7_step 35 = .ok (.iload_n 1, 1) := by decide +kernel
theorem dX7_step_36 : decode cX7_step 36 = .ok (.iconst 2, 1) := by decide +kernel
theorem dX7_step_37 : decode cX7_step 37 = .ok (.if_icmp .ne 7, 3) := by decide +kernel
theorem dX7_step_40 : decode cX7_step 40 = .ok (.iconst 2, 1) := by decide +kernel
theorem dX7_step_41 : decode cX7_step 41 = .ok (.goto 4, 3) := by decide +kernel
theorem dX7_step_44 : decode cX7_step 44 = .ok (.iconst 3, 1) := by decide +kernel
theorem dX7_step_45 : decode cX7_step 45 = .ok (.if_icmp .ne 7, 3) := by decide +kernel
theorem dX7_step_48 : decode cX7_step 48 = .ok (.iconst 1, 1) := by decide +kernel
theorem dX7_step_49 : decode cX7_step 49 = .ok (.goto 4, 3) := by decide +kernel
theorem dX7_step_52 : decode cX7_step 52 = .ok (.iconst 0, 1) := by decide +kernel
theorem dX7_step_53 : decode cX7_step 53 = .ok (.invokevirtual 191, 3) := by decide +kernel
theorem dX7_step_56 : decode cX7_step 56 = .ok (.aload_n 0, 1) := by decide +kernel
theorem dX7_step_57 : decode cX7_step 57 = .ok (.getfield 165, 3) := by decide +kernel
theorem dX7_step_60 : decode cX7_step 60 = .ok (.ifCond .eq 212, 3) := by decide +kernel
theorem dX7_step_63 : decode cX7_step 63 = .ok (.aload_n 0, 1) := by decide +kernel
theorem dX7_step_64 : decode cX7_step 64 = .ok (.invokevirtual 175, 3) := by decide +kernel
theorem dX7_step_67 : decode cX7_step 67 = .ok (.iload_n 1, 1) := by decide +kernel
theorem dX7_step_68 : decode cX7_step 68 = .ok (.iconst 2, 1) := by decide +kernel
theorem dX7_step_69 : decode cX7_step 69 = .ok (.if_icmp .ne 16, 3) := by decide +kernel
theorem dX7_step_72 : decode cX7_step 72 = .ok (.aload_n 0, 1) := by decide +kernel
theorem dX7_step_73 : decode cX7_step 73 = .ok (.getfield 29, 3) := by decide +kernel
theorem dX7_step_76 : decode cX7_step 76 = .ok (.iload_n 2, 1) := by decide +kernel
theorem dX7_step_77 : decode cX7_step 77 = .ok (.aload_n 0, 1) := by decide +kernel
theorem dX7_step_78 : decode cX7_step 78 = .ok (.invokevirtual 235, 3) := by decide +kernel
theorem dX7_step_81 : decode cX7_step 81 = .ok (.iastore, 1) := by decide +kernel
theorem dX7_step_82 : decode cX7_step 82 = .ok (.goto 13, 3) := by decide +kernel
theorem dX7_step_85 : decode cX7_step 85 = .ok (.aload_n 0, 1) := by decide +kernel
theorem dX7_step_86 : decode cX7_step 86 = .ok (.getfield 32, 3) := by decide +kernel
theorem dX7_step_89 : decode cX7_step 89 = .ok (.iload_n 2, 1) := by decide +kernel
theorem dX7_step_90 : decode cX7_step 90 = .ok (.aload_n 0, 1) := by decide +kernel
theorem dX7_step_91 : decode cX7_step 91 = .ok (.invokevirtual 235, 3) := by decide +kernel
theorem dX7_step_94 : decode cX7_step 94 = .ok (.iastore, 1) := by decide +kernel
theorem dX7_step_95 : decode cX7_step 95 = .ok (.aload_n 0, 1) := by decide +kernel
theorem dX7_step_96 : decode cX7_step 96 = .ok (.iload_n 1, 1) := by decide +kernel
theorem dX7_step_97 : decode cX7_step 97 = .ok (.iconst 1, 1) := by decide +kernel
theorem dX7_step_98 : decode cX7_step 98 = .ok (.iadd, 1) := by decide +kernel
theorem dX7_step_99 : decode cX7_step 99 = .ok (.iload_n 2, 1) := by decide +kernel
theorem dX7_step_100 : decode cX7_step 100 = .ok (.invokevirtual 215, 3) := by decide +kernel
theorem dX7_step_103 : decode cX7_step 103 = .ok (.aload_n 0, 1) := by decide +kernel
theorem dX7_step_104 : decode cX7_step 104 = .ok (.iconst 1, 1) := by decide +kernel
theorem dX7_step_105 : decode cX7_step 105 = .ok (.iconst 0, 1) := by decide +kernel
theorem dX7_step_106 : decode cX7_step 106 = .ok (.invokevirtual 215, 3) := by decide +kernel
theorem dX7_step_109 : decode cX7_step 109 = .ok (.goto 163, 3) := by decide +kernel
theorem dX7_step_112 : decode cX7_step 112 = .ok (.iload_n 1, 1) := by decide +kernel
theorem dX7_step_113 : decode cX7_step 113 = .ok (.iconst 4, 1) := by decide +kernel
theorem dX7_step_114 : decode cX7_step 114 = .ok (.if_icmp .ne 21, 3) := by decide +kernel
theorem dX7_step_117 : decode cX7_step 117 = .ok (.aload_n 0, 1) := by decide +kernel
theorem dX7_step_118 : decode cX7_step 118 = .ok (.getfield 35, 3) := by decide +kernel
theorem dX7_step_121 : decode cX7_step 121 = .ok (.iload_n 2, 1) := by decide +kernel
theorem dX7_step_122 : decode cX7_step 122 = .ok (.aload_n 0, 1) := by decide +kernel
theorem dX7_step_123 : decode cX7_step 123 = .ok (.invokevirtual 235, 3) := by decide +kernel
theorem dX7_step_126 : decode cX7_step 126 = .ok (.iastore, 1) := by decide +kernel
theorem dX7_step_127 : decode cX7_step 127 = .ok (.aload_n 0, 1) := by decide +kernel
theorem dX7_step_128 : decode cX7_step 128 = .ok (.iload_n 2, 1) := by decide +kernel
theorem dX7_step_129 : decode cX7_step 129 = .ok (.invokevirtual 222, 3) := by decide +kernel
theorem dX7_step_132 : decode cX7_step 132 = .ok (.goto 140, 3) := by decide +kernel
theorem dX7_step_135 : decode cX7_step 135 = .ok (.iload_n 1, 1) := by decide +kernel
theorem dX7_step_136 : decode cX7_step 136 = .ok (.iconst 5, 1) := by decide +kernel
theorem dX7_step_137 : decode cX7_step 137 = .ok (.if_icmp .ne 105, 3) := by decide +kernel
theorem dX7_step_140 : decode cX7_step 140 = .ok (.aload_n 0, 1) := by decide +kernel
theorem dX7_step_141 : decode cX7_step 141 = .ok (.aload_n 0, 1) := by decide +kernel
theorem dX7_step_142 : decode cX7_step 142 = .ok (.getfield 142, 3) := by decide +kernel
theorem dX7_step_145 : decode cX7_step 145 = .ok (.iconst 3, 1) := by decide +kernel
theorem dX7_step_146 : decode cX7_step 146 = .ok (.if_icmp .ne 15, 3) := by decide +kernel
theorem dX7_step_149 : decode cX7_step 149 = .ok (.aload_n 0, 1) := by decide +kernel
theorem dX7_step_150 : decode cX7_step 150 = .ok (.getfield 162, 3) := by decide +kernel
theorem dX7_step_153 : decode cX7_step 153 = .ok (.iconst 5, 1) := by decide +kernel
theorem dX7_step_154 : decode cX7_step 154 = .ok (.if_icmp .ne 7, 3) := by decide +kernel
theorem dX7_step_157 : decode cX7_step 157 = .ok (.iconst 1, 1) := by decide +kernel
theorem dX7_step_158 : decode cX7_step 158 = .ok (.goto 4, 3) := by decide +kernel
theorem dX7_step_161 : decode cX7_step 161 = .ok (.iconst 0, 1) := by decide +kernel
theorem dX7_step_162 : decode cX7_step 162 = .ok (.invokevirtual 191, 3) := by decide +kernel
theorem dX7_step_165 : decode cX7_step 165 = .ok (.aload_n 0, 1) := by decide +kernel
theorem dX7_step_166 : decode cX7_step 166 = .ok (.getfield 165, 3) := by decide +kernel
theorem dX7_step_169 : decode cX7_step 169 = .ok (.ifCond .eq 103, 3) := by decide +kernel
theorem dX7_step_172 : decode cX7_step 172 = .ok (.aload_n 0, 1) := by decide +kernel
theorem dX7_step_173 : decode cX7_step 173 = .ok (.invokevirtual 175, 3) := by decide +kernel
theorem dX7_step_176 : decode cX7_step 176 = .ok (.aload_n 0, 1) := by decide +kernel
theorem dX7_step_177 : decode cX7_step 177 = .ok (.getfield 29, 3) := by decide +kernel
theorem dX7_step_180 : decode cX7_step 180 = .ok (.iload_n 2, 1) := by decide +kernel
theorem dX7_step_181 : decode cX7_step 181 = .ok (.aload_n 0, 1) := by decide +kernel
theorem dX7_step_182 : decode cX7_step 182 = .ok (.invokevirtual 235, 3) := by decide +kernel
theorem dX7_step_185 : decode cX7_step 185 = .ok (.iastore, 1) := by decide +kernel
theorem dX7_step_186 : decode cX7_step 186 = .ok (.aload_n 0, 1) := by decide +kernel
theorem dX7_step_187 : decode cX7_step 187 = .ok (.getfield 60, 3) := by decide +kernel
theorem dX7_step_190 : decode cX7_step 190 = .ok (.aload_n 0, 1) := by decide +kernel
theorem dX7_step_191 : decode cX7_step 191 = .ok (.getfield 208, 3) := by decide +kernel
theorem dX7_step_194 : decode cX7_step 194 = .ok (.aload_n 0, 1) := by decide +kernel
theorem dX7_step_195 : decode cX7_step 195 = .ok (.getfield 66, 3) := by decide +kernel
theorem dX7_step_198 : decode cX7_step 198 = .ok (.iload_n 2, 1) := by decide +kernel
theorem dX7_step_199 : decode cX7_step 199 = .ok (.laload, 1) := by decide +kernel
theorem dX7_step_200 : decode cX7_step 200 = .ok (.lastore, 1) := by decide +kernel
theorem dX7_step_201 : decode cX7_step 201 = .ok (.aload_n 0, 1) := by decide +kernel
theorem dX7_step_202 : decode cX7_step 202 = .ok (.getfield 63, 3) := by decide +kernel
theorem dX7_step_205 : decode cX7_step 205 = .ok (.aload_n 0, 1) := by decide +kernel
theorem dX7_step_206 : decode cX7_step 206 = .ok (.getfield 208, 3) := by decide +kernel
theorem dX7_step_209 : decode cX7_step 209 = .ok (.aload_n 0, 1) := by decide +kernel
theorem dX7_step_210 : decode cX7_step 210 = .ok (.getfield 29, 3) := by decide +kernel
theorem dX7_step_213 : decode cX7_step 213 = .ok (.iload_n 2, 1) := by decide +kernel
theorem dX7_step_214 : decode cX7_step 214 = .ok (.iaload, 1) := by decide +kernel
theorem dX7_step_215 : decode cX7_step 215 = .ok (.iastore, 1) := by decide +kernel
theorem dX7_step_216 : decode cX7_step 216 = .ok (.aload_n 0, 1) := by decide +kernel
theorem dX7_step_217 : decode cX7_step 217 = .ok (.dup, 1) := by decide +kernel
theorem dX7_step_218 : decode cX7_step 218 = .ok (.getfield 208, 3) := by decide +kernel
theorem dX7_step_221 : decode cX7_step 221 = .ok (.iconst 1, 1) := by decide +kernel
theorem dX7_step_222 : decode cX7_step 222 = .ok (.iadd, 1) := by decide +kernel
theorem dX7_step_223 : decode cX7_step 223 = .ok (.putfield 208, 3) := by decide +kernel
theorem dX7_step_226 : decode cX7_step 226 = .ok (.aload_n 0, 1) := by decide +kernel
theorem dX7_step_227 : decode cX7_step 227 = .ok (.bipush 6, 2) := by decide +kernel
theorem dX7_step_229 : decode cX7_step 229 = .ok (.iload_n 2, 1) := by decide +kernel
theorem dX7_step_230 : decode cX7_step 230 = .ok (.invokevirtual 215, 3) := by decide +kernel
theorem dX7_step_233 : decode cX7_step 233 = .ok (.aload_n 0, 1) := by decide +kernel
theorem dX7_step_234 : decode cX7_step 234 = .ok (.iconst 1, 1) := by decide +kernel
theorem dX7_step_235 : decode cX7_step 235 = .ok (.iconst 0, 1) := by decide +kernel
theorem dX7_step_236 : decode cX7_step 236 = .ok (.invokevirtual 215, 3) := by decide +kernel
theorem dX7_step_239 : decode cX7_step 239 = .ok (.goto 33, 3) := by decide +kernel
theorem dX7_step_242 : decode cX7_step 242 = .ok (.iload_n 1, 1) := by decide +kernel
theorem dX7_step_243 : decode cX7_step 243 = .ok (.bipush 6, 2) := by decide +kernel
theorem dX7_step_245 : decode cX7_step 245 = .ok (.if_icmp .ne 21, 3) := by decide +kernel
theorem dX7_step_248 : decode cX7_step 248 = .ok (.aload_n 0, 1) := by decide +kernel
theorem dX7_step_249 : decode cX7_step 249 = .ok (.dup, 1) := by decide +kernel
theorem dX7_step_250 : decode cX7_step 250 = .ok (.getfield 208, 3) := by decide +kernel
theorem dX7_step_253 : decode cX7_step 253 = .ok (.iconst 1, 1) := by decide +kernel
theorem dX7_step_254 : decode cX7_step 254 = .ok (.isub, 1) := by decide +kernel
theorem dX7_step_255 : decode cX7_step 255 = .ok (.putfield 208, 3) := by decide +kernel
theorem dX7_step_258 : decode cX7_step 258 = .ok (.aload_n 0, 1) := by decide +kernel
theorem dX7_step_259 : decode cX7_step 259 = .ok (.iload_n 2, 1) := by decide +kernel
theorem dX7_step_260 : decode cX7_step 260 = .ok (.invokevirtual 247, 3) := by decide +kernel
theorem dX7_step_263 : decode cX7_step 263 = .ok (.goto 9, 3) := by decide +kernel
theorem dX7_step_266 : decode cX7_step 266 = .ok (.aload_n 0, 1) := by decide +kernel
theorem dX7_step_267 : decode cX7_step 267 = .ok (.iload_n 1, 1) := by decide +kernel
theorem dX7_step_268 : decode cX7_step 268 = .ok (.iload_n 2, 1) := by decide +kernel
theorem dX7_step_269 : decode cX7_step 269 = .ok (.invokevirtual 250, 3) := by decide +kernel
theorem dX7_step_272 : decode cX7_step 272 = .ok (.return_, 1) := by decide +kernel
theorem dX7_more_0 : decode cX7_more 0 = .ok (.iload_n 1, 1) := by decide +kernel
theorem dX7_more_1 : decode cX7_more 1 = .ok (.bipush 7, 2) := by decide +kernel
theorem dX7_more_3 : decode cX7_more 3 = .ok (.if_icmp .ne 65, 3) := by decide +kernel
theorem dX7_more_6 : decode cX7_more 6 = .ok (.aload_n 0, 1) := by decide +kernel
theorem dX7_more_7 : decode cX7_more 7 = .ok (.bipush 60, 2) := by decide +kernel
theorem dX7_more_9 : decode cX7_more 9 = .ok (.invokevirtual 172, 3) := by decide +kernel
theorem dX7_more_12 : decode cX7_more 12 = .ok (.ifCond .ne 21, 3) := by decide +kernel
theorem dX7_more_15 : decode cX7_more 15 = .ok (.aload_n 0, 1) := by decide +kernel
theorem dX7_more_16 : decode cX7_more 16 = .ok (.bipush 61, 2) := by decide +kernel
theorem dX7_more_18 : decode cX7_more 18 = .ok (.invokevirtual 172, 3) := by decide +kernel
theorem dX7_more_21 : decode cX7_more 21 = .ok (.ifCond .ne 12, 3) := by decide +kernel
theorem dX7_more_24 : decode cX7_more 24 = .ok (.aload_n 0, 1) := by decide +kernel
theorem dX7_more_25 : decode cX7_more 25 = .ok (.bipush 62, 2) := by decide +kernel
theorem dX7_more_27 : decode cX7_more 27 = .ok (.invokevirtual 172, 3) := by decide +kernel
theorem dX7_more_30 : decode cX7_more 30 = .ok (.ifCond .eq 274, 3) := by decide +kernel
theorem dX7_more_33 : decode cX7_more 33 = .ok (.aload_n 0, 1) := by decide +kernel
theorem dX7_more_34 : decode cX7_more 34 = .ok (.aload_n 0, 1) := by decide +kernel
theorem dX7_more_35 : decode cX7_more 35 = .ok (.getfield 7, 3) := by decide +kernel
theorem dX7_more_38 : decode cX7_more 38 = .ok (.aload_n 0, 1) := by decide +kernel
theorem dX7_more_39 : decode cX7_more 39 = .ok (.getfield 132, 3) := by decide +kernel
theorem dX7_more_42 : decode cX7_more 42 = .ok (.baload, 1) := by decide +kernel
theorem dX7_more_43 : decode cX7_more 43 = .ok (.invokevirtual 253, 3) := by decide +kernel
theorem dX7_more_46 : decode cX7_more 46 = .ok (.istore_n 3, 1) := by decide +kernel
theorem dX7_more_47 : decode cX7_more 47 = .ok (.aload_n 0, 1) := by decide +kernel
theorem dX7_more_48 : decode cX7_more 48 = .ok (.invokevirtual 175, 3) := by decide +kernel
theorem dX7_more_51 : decode cX7_more 51 = .ok (.aload_n 0, 1) := by decide +kernel
theorem dX7_more_52 : decode cX7_more 52 = .ok (.bipush 8, 2) := by decide +kernel
theorem dX7_more_54 : decode cX7_more 54 = .ok (.iload_n 3, 1) := by decide +kernel
theorem dX7_more_55 : decode cX7_more 55 = .ok (.invokevirtual 215, 3) := by decide +kernel
theorem dX7_more_58 : decode cX7_more 58 = .ok (.aload_n 0, 1) := by decide +kernel
theorem dX7_more_59 : decode cX7_more 59 = .ok (.bipush 9, 2) := by decide +kernel
theorem dX7_more_61 : decode cX7_more 61 = .ok (.iconst 0, 1) := by decide +kernel
theorem dX7_more_62 : decode cX7_more 62 = .ok (.invokevirtual 215, 3) := by decide +kernel
theorem dX7_more_65 : decode cX7_more 65 = .ok (.goto 239, 3) := by decide +kernel
theorem dX7_more_68 : decode cX7_more 68 = .ok (.iload_n 1, 1) := by decide +kernel
theorem dX7_more_69 : decode cX7_more 69 = .ok (.bipush 8, 2) := by decide +kernel
theorem dX7_more_71 : decode cX7_more 71 = .ok (.if_icmp .ne 11, 3) := by decide +kernel
theorem dX7_more_74 : decode cX7_more 74 = .ok (.aload_n 0, 1) := by decide +kernel
theorem dX7_more_75 : decode cX7_more 75 = .ok (.iload_n 2, 1) := by decide +kernel
theorem dX7_more_76 : decode cX7_more 76 = .ok (.invokevirtual 247, 3) := by decide +kernel
theorem dX7_more_79 : decode cX7_more 79 = .ok (.goto 225, 3) := by decide +kernel
theorem dX7_more_82 : decode cX7_more 82 = .ok (.iload_n 1, 1) := by decide +kernel
theorem dX7_more_83 : decode cX7_more 83 = .ok (.bipush 9, 2) := by decide +kernel
theorem dX7_more_85 : decode cX7_more 85 = .ok (.if_icmp .eq 9, 3) := by decide +kernel
theorem dX7_more_88 : decode cX7_more 88 = .ok (.iload_n 1, 1) := by decide +kernel
theorem dX7_more_89 : decode cX7_more 89 = .ok (.bipush 12, 2) := by decide +kernel
theorem dX7_more_91 : decode cX7_more 91 = .ok (.if_icmp .ne 42, 3) := by decide +kernel
theorem dX7_more_94 : decode cX7_more 94 = .ok (.aload_n 0, 1) := by decide +kernel
theorem dX7_more_95 : decode cX7_more 95 = .ok (.iload_n 1, 1) := by decide +kernel
theorem dX7_more_96 : decode cX7_more 96 = .ok (.bipush 9, 2) := by decide +kernel
theorem dX7_more_98 : decode cX7_more 98 = .ok (.if_icmp .ne 8, 3) := by decide +kernel
theorem dX7_more_101 : decode cX7_more 101 = .ok (.bipush 10, 2) := by decide +kernel
theorem dX7_more_103 : decode cX7_more 103 = .ok (.goto 5, 3) := by decide +kernel
theorem dX7_more_106 : decode cX7_more 106 = .ok (.bipush 13, 2) := by decide +kernel
theorem dX7_more_108 : decode cX7_more 108 = .ok (.iconst 0, 1) := by decide +kernel
theorem dX7_more_109 : decode cX7_more 109 = .ok (.invokevirtual 215, 3) := by decide +kernel
theorem dX7_more_112 : decode cX7_more 112 = .ok (.aload_n 0, 1) := by decide +kernel
theorem dX7_more_113 : decode cX7_more 113 = .ok (.iload_n 1, 1) := by decide +kernel
theorem dX7_more_114 : decode cX7_more 114 = .ok (.bipush 9, 2) := by decide +kernel
theorem dX7_more_116 : decode cX7_more 116 = .ok (.if_icmp .ne 8, 3) := by decide +kernel
theorem dX7_more_119 : decode cX7_more 119 = .ok (.bipush 12, 2) := by decide +kernel
theorem dX7_more_121 : decode cX7_more 121 = .ok (.goto 5, 3) := by decide +kernel
theorem dX7_more_124 : decode cX7_more 124 = .ok (.bipush 15, 2) := by decide +kernel
theorem dX7_more_126 : decode cX7_more 126 = .ok (.iconst 0, 1) := by decide +kernel
theorem dX7_more_127 : decode cX7_more 127 = .ok (.invokevirtual 215, 3) := by decide +kernel
theorem dX7_more_130 : decode cX7_more 130 = .ok (.goto 174, 3) := by decide +kernel
theorem dX7_more_133 : decode cX7_more 133 = .ok (.iload_n 1, 1) := by decide +kernel
theorem dX7_more_134 : decode cX7_more 134 = .ok (.bipush 10, 2) := by decide +kernel
theorem dX7_more_136 : decode cX7_more 136 = .ok (.if_icmp .ne 56, 3) := by decide +kernel
theorem dX7_more_139 : decode cX7_more 139 = .ok (.aload_n 0, 1) := by decide +kernel
theorem dX7_more_140 : decode cX7_more 140 = .ok (.bipush 43, 2) := by decide +kernel
theorem dX7_more_142 : decode cX7_more 142 = .ok (.invokevirtual 172, 3) := by decide +kernel
theorem dX7_more_145 : decode cX7_more 145 = .ok (.ifCond .ne 12, 3) := by decide +kernel
theorem dX7_more_148 : decode cX7_more 148 = .ok (.aload_n 0, 1) := by decide +kernel
theorem dX7_more_149 : decode cX7_more 149 = .ok (.bipush 45, 2) := by decide +kernel
theorem dX7_more_151 : decode cX7_more 151 = .ok (.invokevirtual 172, 3) := by decide +kernel
theorem dX7_more_154 : decode cX7_more 154 = .ok (.ifCond .eq 150, 3) := by decide +kernel
theorem dX7_more_157 : decode cX7_more 157 = .ok (.aload_n 0, 1) := by decide +kernel
theorem dX7_more_158 : decode cX7_more 158 = .ok (.aload_n 0, 1) := by decide +kernel
theorem dX7_more_159 : decode cX7_more 159 = .ok (.getfield 7, 3) := by decide +kernel
theorem dX7_more_162 : decode cX7_more 162 = .ok (.aload_n 0, 1) := by decide +kernel
theorem dX7_more_163 : decode cX7_more 163 = .ok (.getfield 132, 3) := by decide +kernel
theorem dX7_more_166 : decode cX7_more 166 = .ok (.baload, 1) := by decide +kernel
theorem dX7_more_167 : decode cX7_more 167 = .ok (.invokevirtual 253, 3) := by decide +kernel
theorem dX7_more_170 : decode cX7_more 170 = .ok (.istore_n 3, 1) := by decide +kernel
theorem dX7_more_171 : decode cX7_more 171 = .ok (.aload_n 0, 1) := by decide +kernel
theorem dX7_more_172 : decode cX7_more 172 = .ok (.invokevirtual 175, 3) := by decide +kernel
theorem dX7_more_175 : decode cX7_more 175 = .ok (.aload_n 0, 1) := by decide +kernel
theorem dX7_more_176 : decode cX7_more 176 = .ok (.bipush 11, 2) := by decide +kernel
theorem dX7_more_178 : decode cX7_more 178 = .ok (.iload_n 3, 1) := by decide +kernel
theorem dX7_more_179 : decode cX7_more 179 = .ok (.invokevirtual 215, 3) := by decide +kernel
theorem dX7_more_182 : decode cX7_more 182 = .ok (.aload_n 0, 1) := by decide +kernel
theorem dX7_more_183 : decode cX7_more 183 = .ok (.bipush 12, 2) := by decide +kernel
theorem dX7_more_185 : decode cX7_more 185 = .ok (.iconst 0, 1) := by decide +kernel
theorem dX7_more_186 : decode cX7_more 186 = .ok (.invokevirtual 215, 3) := by decide +kernel
theorem dX7_more_189 : decode cX7_more 189 = .ok (.goto 115, 3) := by decide +kernel
theorem dX7_more_192 : decode cX7_more 192 = .ok (.iload_n 1, 1) := by decide +kernel
theorem dX7_more_193 : decode cX7_more 193 = .ok (.bipush 13, 2) := by decide +kernel
theorem dX7_more_195 : decode cX7_more 195 = .ok (.if_icmp .ne 65, 3) := by decide +kernel
theorem dX7_more_198 : decode cX7_more 198 = .ok (.aload_n 0, 1) := by decide +kernel
theorem dX7_more_199 : decode cX7_more 199 = .ok (.bipush 42, 2) := by decide +kernel
theorem dX7_more_201 : decode cX7_more 201 = .ok (.invokevirtual 172, 3) := by decide +kernel
theorem dX7_more_204 : decode cX7_more 204 = .ok (.ifCond .ne 21, 3) := by decide +kernel
theorem dX7_more_207 : decode cX7_more 207 = .ok (.aload_n 0, 1) := by decide +kernel
theorem dX7_more_208 : decode cX7_more 208 = .ok (.bipush 47, 2) := by decide +kernel
theorem dX7_more_210 : decode cX7_more 210 = .ok (.invokevirtual 172, 3) := by decide +kernel
theorem dX7_more_213 : decode cX7_more 213 = .ok (.ifCond .ne 12, 3) := by decide +kernel
theorem dX7_more_216 : decode cX7_more 216 = .ok (.aload_n 0, 1) := by decide +kernel
theorem dX7_more_217 : decode cX7_more 217 = .ok (.bipush 37, 2) := by decide +kernel
theorem dX7_more_219 : decode cX7_more 219 = .ok (.invokevirtual 172, 3) := by decide +kernel
theorem dX7_more_222 : decode cX7_more 222 = .ok (.ifCond .eq 82, 3) := by decide +kernel
theorem dX7_more_225 : decode cX7_more 225 = .ok (.aload_n 0, 1) := by decide +kernel
theorem dX7_more_226 : decode cX7_more 226 = .ok (.aload_n 0, 1) := by decide +kernel
theorem dX7_more_227 : decode cX7_more 227 = .ok (.getfield 7, 3) := by decide +kernel
theorem dX7_more_230 : decode cX7_more 230 = .ok (.aload_n 0, 1) := by decide +kernel
theorem dX7_more_231 : decode cX7_more 231 = .ok (.getfield 132, 3) := by decide +kernel
theorem dX7_more_234 : decode cX7_more 234 = .ok (.baload, 1) := by decide +kernel
theorem dX7_more_235 : decode cX7_more 235 = .ok (.invokevirtual 253, 3) := by decide +kernel
theorem dX7_more_238 : decode cX7_more 238 = .ok (.istore_n 3, 1) := by decide +kernel
theorem dX7_more_239 : decode cX7_more 239 = .ok (.aload_n 0, 1) := by decide +kernel
theorem dX7_more_240 : decode cX7_more 240 = .ok (.invokevirtual 175, 3) := by decide +kernel
theorem dX7_more_243 : decode cX7_more 243 = .ok (.aload_n 0, 1) := by decide +kernel
theorem dX7_more_244 : decode cX7_more 244 = .ok (.bipush 14, 2) := by decide +kernel
theorem dX7_more_246 : decode cX7_more 246 = .ok (.iload_n 3, 1) := by decide +kernel
theorem dX7_more_247 : decode cX7_more 247 = .ok (.invokevirtual 215, 3) := by decide +kernel
theorem dX7_more_250 : decode cX7_more 250 = .ok (.aload_n 0, 1) := by decide +kernel
theorem dX7_more_251 : decode cX7_more 251 = .ok (.bipush 15, 2) := by decide +kernel
theorem dX7_more_253 : decode cX7_more 253 = .ok (.iconst 0, 1) := by decide +kernel
theorem dX7_more_254 : decode cX7_more 254 = .ok (.invokevirtual 215, 3) := by decide +kernel
theorem dX7_more_257 : decode cX7_more 257 = .ok (.goto 47, 3) := by decide +kernel
theorem dX7_more_260 : decode cX7_more 260 = .ok (.iload_n 1, 1) := by decide +kernel
theorem dX7_more_261 : decode cX7_more 261 = .ok (.bipush 11, 2) := by decide +kernel
theorem dX7_more_263 : decode cX7_more 263 = .ok (.if_icmp .eq 9, 3) := by decide +kernel
theorem dX7_more_266 : decode cX7_more 266 = .ok (.iload_n 1, 1) := by decide +kernel
theorem dX7_more_267 : decode cX7_more 267 = .ok (.bipush 14, 2) := by decide +kernel
theorem dX7_more_269 : decode cX7_more 269 = .ok (.if_icmp .ne 29, 3) := by decide +kernel
theorem dX7_more_272 : decode cX7_more 272 = .ok (.aload_n 0, 1) := by decide +kernel
theorem dX7_more_273 : decode cX7_more 273 = .ok (.iload_n 2, 1) := by decide +kernel
theorem dX7_more_274 : decode cX7_more 274 = .ok (.invokevirtual 247, 3) := by decide +kernel
theorem dX7_more_277 : decode cX7_more 277 = .ok (.aload_n 0, 1) := by decide +kernel
theorem dX7_more_278 : decode cX7_more 278 = .ok (.iload_n 1, 1) := by decide +kernel
theorem dX7_more_279 : decode cX7_more 279 = .ok (.bipush 11, 2) := by decide +kernel
theorem dX7_more_281 : decode cX7_more 281 = .ok (.if_icmp .ne 8, 3) := by decide +kernel
theorem dX7_more_284 : decode cX7_more 284 = .ok (.bipush 10, 2) := by decide +kernel
theorem dX7_more_286 : decode cX7_more 286 = .ok (.goto 5, 3) := by decide +kernel
theorem dX7_more_289 : decode cX7_more 289 = .ok (.bipush 13, 2) := by decide +kernel
theorem dX7_more_291 : decode cX7_more 291 = .ok (.iconst 0, 1) := by decide +kernel
theorem dX7_more_292 : decode cX7_more 292 = .ok (.invokevirtual 215, 3) := by decide +kernel
theorem dX7_more_295 : decode cX7_more 295 = .ok (.goto 9, 3) := by decide +kernel
theorem dX7_more_298 : decode cX7_more 298 = .ok (.aload_n 0, 1) := by decide +kernel
theorem dX7_more_299 : decode cX7_more 299 = .ok (.iload_n 1, 1) := by decide +kernel
theorem dX7_more_300 : decode cX7_more 300 = .ok (.iload_n 2, 1) := by decide +kernel
theorem dX7_more_301 : decode cX7_more 301 = .ok (.invokevirtual 257, 3) := by decide +kernel
theorem dX7_more_304 : decode cX7_more 304 = .ok (.return_, 1) := by decide +kernel
theorem dX7_rest_0 : decode cX7_rest 0 = .ok (.iload_n 1, 1) := by decide +kernel
theorem dX7_rest_1 : decode cX7_rest 1 = .ok (.bipush 15, 2) := by decide +kernel
theorem dX7_rest_3 : decode cX7_rest 3 = .ok (.if_icmp .ne 10, 3) := by decide +kernel
theorem dX7_rest_6 : decode cX7_rest 6 = .ok (.aload_n 0, 1) := by decide +kernel
theorem dX7_rest_7 : decode cX7_rest 7 = .ok (.invokevirtual 260, 3) := by decide +kernel
theorem dX7_rest_10 : decode cX7_rest 10 = .ok (.goto 273, 3) := by decide +kernel
theorem dX7_rest_13 : decode cX7_rest 13 = .ok (.iload_n 1, 1) := by decide +kernel
theorem dX7_rest_14 : decode cX7_rest 14 = .ok (.bipush 16, 2) := by decide +kernel
theorem dX7_rest_16 : decode cX7_rest 16 = .ok (.if_icmp .ne 21, 3) := by decide +kernel
theorem dX7_rest_19 : decode cX7_rest 19 = .ok (.aload_n 0, 1) := by decide +kernel
theorem dX7_rest_20 : decode cX7_rest 20 = .ok (.getfield 29, 3) := by decide +kernel
theorem dX7_rest_23 : decode cX7_rest 23 = .ok (.iload_n 2, 1) := by decide +kernel
theorem dX7_rest_24 : decode cX7_rest 24 = .ok (.aload_n 0, 1) := by decide +kernel
theorem dX7_rest_25 : decode cX7_rest 25 = .ok (.invokevirtual 235, 3) := by decide +kernel
theorem dX7_rest_28 : decode cX7_rest 28 = .ok (.iastore, 1) := by decide +kernel
theorem dX7_rest_29 : decode cX7_rest 29 = .ok (.aload_n 0, 1) := by decide +kernel
theorem dX7_rest_30 : decode cX7_rest 30 = .ok (.iload_n 2, 1) := by decide +kernel
theorem dX7_rest_31 : decode cX7_rest 31 = .ok (.invokevirtual 222, 3) := by decide +kernel
theorem dX7_rest_34 : decode cX7_rest 34 = .ok (.goto 249, 3) := by decide +kernel
theorem dX7_rest_37 : decode cX7_rest 37 = .ok (.iload_n 1, 1) := by decide +kernel
theorem dX7_rest_38 : decode cX7_rest 38 = .ok (.bipush 17, 2) := by decide +kernel
theorem dX7_rest_40 : decode cX7_rest 40 = .ok (.if_icmp .eq 9, 3) := by decide +kernel
theorem dX7_rest_43 : decode cX7_rest 43 = .ok (.iload_n 1, 1) := by decide +kernel
theorem dX7_rest_44 : decode cX7_rest 44 = .ok (.bipush 19, 2) := by decide +kernel
theorem dX7_rest_46 : decode cX7_rest 46 = .ok (.if_icmp .ne 69, 3) := by decide +kernel
theorem dX7_rest_49 : decode cX7_rest 49 = .ok (.aload_n 0, 1) := by decide +kernel
theorem dX7_rest_50 : decode cX7_rest 50 = .ok (.aload_n 0, 1) := by decide +kernel
theorem dX7_rest_51 : decode cX7_rest 51 = .ok (.iload_n 1, 1) := by decide +kernel
theorem dX7_rest_52 : decode cX7_rest 52 = .ok (.bipush 17, 2) := by decide +kernel
theorem dX7_rest_54 : decode cX7_rest 54 = .ok (.if_icmp .ne 8, 3) := by decide +kernel
theorem dX7_rest_57 : decode cX7_rest 57 = .ok (.bipush 41, 2) := by decide +kernel
theorem dX7_rest_59 : decode cX7_rest 59 = .ok (.goto 5, 3) := by decide +kernel
theorem dX7_rest_62 : decode cX7_rest 62 = .ok (.bipush 93, 2) := by decide +kernel
theorem dX7_rest_64 : decode cX7_rest 64 = .ok (.invokevirtual 172, 3) := by decide +kernel
theorem dX7_rest_67 : decode cX7_rest 67 = .ok (.invokevirtual 191, 3) := by decide +kernel
theorem dX7_rest_70 : decode cX7_rest 70 = .ok (.aload_n 0, 1) := by decide +kernel
theorem dX7_rest_71 : decode cX7_rest 71 = .ok (.getfield 165, 3) := by decide +kernel
theorem dX7_rest_74 : decode cX7_rest 74 = .ok (.ifCond .eq 209, 3) := by decide +kernel
theorem dX7_rest_77 : decode cX7_rest 77 = .ok (.aload_n 0, 1) := by decide +kernel
theorem dX7_rest_78 : decode cX7_rest 78 = .ok (.invokevirtual 175, 3) := by decide +kernel
theorem dX7_rest_81 : decode cX7_rest 81 = .ok (.iload_n 1, 1) := by decide +kernel
theorem dX7_rest_82 : decode cX7_rest 82 = .ok (.bipush 19, 2) := by decide +kernel
theorem dX7_rest_84 : decode cX7_rest 84 = .ok (.if_icmp .ne 11, 3) := by decide +kernel
theorem dX7_rest_87 : decode cX7_rest 87 = .ok (.aload_n 0, 1) := by decide +kernel
theorem dX7_rest_88 : decode cX7_rest 88 = .ok (.iload_n 2, 1) := by decide +kernel
theorem dX7_rest_89 : decode cX7_rest 89 = .ok (.invokevirtual 247, 3) := by decide +kernel
theorem dX7_rest_92 : decode cX7_rest 92 = .ok (.goto 13, 3) := by decide +kernel
theorem dX7_rest_95 : decode cX7_rest 95 = .ok (.aload_n 0, 1) := by decide +kernel
theorem dX7_rest_96 : decode cX7_rest 96 = .ok (.dup, 1) := by decide +kernel
theorem dX7_rest_97 : decode cX7_rest 97 = .ok (.getfield 219, 3) := by decide +kernel
theorem dX7_rest_100 : decode cX7_rest 100 = .ok (.iconst 1, 1) := by decide +kernel
theorem dX7_rest_101 : decode cX7_rest 101 = .ok (.isub, 1) := by decide +kernel
theorem dX7_rest_102 : decode cX7_rest 102 = .ok (.putfield 219, 3) := by decide +kernel
theorem dX7_rest_105 : decode cX7_rest 105 = .ok (.aload_n 0, 1) := by decide +kernel
theorem dX7_rest_106 : decode cX7_rest 106 = .ok (.bipush 18, 2) := by decide +kernel
theorem dX7_rest_108 : decode cX7_rest 108 = .ok (.iconst 0, 1) := by decide +kernel
theorem dX7_rest_109 : decode cX7_rest 109 = .ok (.invokevirtual 215, 3) := by decide +kernel
theorem dX7_rest_112 : decode cX7_rest 112 = .ok (.goto 171, 3) := by decide +kernel
theorem dX7_rest_115 : decode cX7_rest 115 = .ok (.iload_n 1, 1) := by decide +kernel
theorem dX7_rest_116 : decode cX7_rest 116 = .ok (.bipush 18, 2) := by decide +kernel
theorem dX7_rest_118 : decode cX7_rest 118 = .ok (.if_icmp .ne 57, 3) := by decide +kernel
theorem dX7_rest_121 : decode cX7_rest 121 = .ok (.aload_n 0, 1) := by decide +kernel
theorem dX7_rest_122 : decode cX7_rest 122 = .ok (.bipush 91, 2) := by decide +kernel
theorem dX7_rest_124 : decode cX7_rest 124 = .ok (.invokevirtual 172, 3) := by decide +kernel
theorem dX7_rest_127 : decode cX7_rest 127 = .ok (.ifCond .eq 156, 3) := by decide +kernel
theorem dX7_rest_130 : decode cX7_rest 130 = .ok (.aload_n 0, 1) := by decide +kernel
theorem dX7_rest_131 : decode cX7_rest 131 = .ok (.bipush 10, 2) := by decide +kernel
theorem dX7_rest_133 : decode cX7_rest 133 = .ok (.iconst 0, 1) := by decide +kernel
theorem dX7_rest_134 : decode cX7_rest 134 = .ok (.invokevirtual 211, 3) := by decide +kernel
theorem dX7_rest_137 : decode cX7_rest 137 = .ok (.istore_n 3, 1) := by decide +kernel
theorem dX7_rest_138 : decode cX7_rest 138 = .ok (.aload_n 0, 1) := by decide +kernel
theorem dX7_rest_139 : decode cX7_rest 139 = .ok (.getfield 165, 3) := by decide +kernel
theorem dX7_rest_142 : decode cX7_rest 142 = .ok (.ifCond .eq 13, 3) := by decide +kernel
theorem dX7_rest_145 : decode cX7_rest 145 = .ok (.aload_n 0, 1) := by decide +kernel
theorem dX7_rest_146 : decode cX7_rest 146 = .ok (.getfield 29, 3) := by decide +kernel
theorem dX7_rest_149 : decode cX7_rest 149 = .ok (.iload_n 3, 1) := by decide +kernel
theorem dX7_rest_150 : decode cX7_rest 150 = .ok (.aload_n 0, 1) := by decide +kernel
theorem dX7_rest_151 : decode cX7_rest 151 = .ok (.invokevirtual 235, 3) := by decide +kernel
theorem dX7_rest_154 : decode cX7_rest 154 = .ok (.iastore, 1) := by decide +kernel
theorem dX7_rest_155 : decode cX7_rest 155 = .ok (.aload_n 0, 1) := by decide +kernel
theorem dX7_rest_156 : decode cX7_rest 156 = .ok (.invokevirtual 175, 3) := by decide +kernel
theorem dX7_rest_159 : decode cX7_rest 159 = .ok (.aload_n 0, 1) := by decide +kernel
theorem dX7_rest_160 : decode cX7_rest 160 = .ok (.bipush 19, 2) := by decide +kernel
theorem dX7_rest_162 : decode cX7_rest 162 = .ok (.iload_n 3, 1) := by decide +kernel
theorem dX7_rest_163 : decode cX7_rest 163 = .ok (.invokevirtual 215, 3) := by decide +kernel
theorem dX7_rest_166 : decode cX7_rest 166 = .ok (.aload_n 0, 1) := by decide +kernel
theorem dX7_rest_167 : decode cX7_rest 167 = .ok (.iconst 1, 1) := by decide +kernel
theorem dX7_rest_168 : decode cX7_rest 168 = .ok (.iconst 0, 1) := by decide +kernel
theorem dX7_rest_169 : decode cX7_rest 169 = .ok (.invokevirtual 215, 3) := by decide +kernel
theorem dX7_rest_172 : decode cX7_rest 172 = .ok (.goto 111, 3) := by decide +kernel
theorem dX7_rest_175 : decode cX7_rest 175 = .ok (.iload_n 1, 1) := by decide +kernel
theorem dX7_rest_176 : decode cX7_rest 176 = .ok (.bipush 20, 2) := by decide +kernel
theorem dX7_rest_178 : decode cX7_rest 178 = .ok (.if_icmp .ne 99, 3) := by decide +kernel
theorem dX7_rest_181 : decode cX7_rest 181 = .ok (.aload_n 0, 1) := by decide +kernel
theorem dX7_rest_182 : decode cX7_rest 182 = .ok (.aload_n 0, 1) := by decide +kernel
theorem dX7_rest_183 : decode cX7_rest 183 = .ok (.bipush 44, 2) := by decide +kernel
theorem dX7_rest_185 : decode cX7_rest 185 = .ok (.invokevirtual 172, 3) := by decide +kernel
theorem dX7_rest_188 : decode cX7_rest 188 = .ok (.invokevirtual 191, 3) := by decide +kernel
theorem dX7_rest_191 : decode cX7_rest 191 = .ok (.aload_n 0, 1) := by decide +kernel
theorem dX7_rest_192 : decode cX7_rest 192 = .ok (.getfield 165, 3) := by decide +kernel
theorem dX7_rest_195 : decode cX7_rest 195 = .ok (.ifCond .eq 34, 3) := by decide +kernel
theorem dX7_rest_198 : decode cX7_rest 198 = .ok (.aload_n 0, 1) := by decide +kernel
theorem dX7_rest_199 : decode cX7_rest 199 = .ok (.getfield 29, 3) := by decide +kernel
theorem dX7_rest_202 : decode cX7_rest 202 = .ok (.iload_n 2, 1) := by decide +kernel
theorem dX7_rest_203 : decode cX7_rest 203 = .ok (.aload_n 0, 1) := by decide +kernel
theorem dX7_rest_204 : decode cX7_rest 204 = .ok (.invokevirtual 235, 3) := by decide +kernel
theorem dX7_rest_207 : decode cX7_rest 207 = .ok (.iastore, 1) := by decide +kernel
theorem dX7_rest_208 : decode cX7_rest 208 = .ok (.aload_n 0, 1) := by decide +kernel
theorem dX7_rest_209 : decode cX7_rest 209 = .ok (.invokevirtual 175, 3) := by decide +kernel
theorem dX7_rest_212 : decode cX7_rest 212 = .ok (.aload_n 0, 1) := by decide +kernel
theorem dX7_rest_213 : decode cX7_rest 213 = .ok (.aload_n 0, 1) := by decide +kernel
theorem dX7_rest_214 : decode cX7_rest 214 = .ok (.getfield 142, 3) := by decide +kernel
theorem dX7_rest_217 : decode cX7_rest 217 = .ok (.iconst 1, 1) := by decide +kernel
theorem dX7_rest_218 : decode cX7_rest 218 = .ok (.if_icmp .ne 7, 3) := by decide +kernel
theorem dX7_rest_221 : decode cX7_rest 221 = .ok (.iconst 1, 1) := by decide +kernel
theorem dX7_rest_222 : decode cX7_rest 222 = .ok (.goto 4, 3) := by decide +kernel
theorem dX7_rest_225 : decode cX7_rest 225 = .ok (.iconst 0, 1) := by decide +kernel
theorem dX7_rest_226 : decode cX7_rest 226 = .ok (.invokevirtual 191, 3) := by decide +kernel
theorem dX7_rest_229 : decode cX7_rest 229 = .ok (.aload_n 0, 1) := by decide +kernel
theorem dX7_rest_230 : decode cX7_rest 230 = .ok (.getfield 165, 3) := by decide +kernel
theorem dX7_rest_233 : decode cX7_rest 233 = .ok (.ifCond .eq 50, 3) := by decide +kernel
theorem dX7_rest_236 : decode cX7_rest 236 = .ok (.aload_n 0, 1) := by decide +kernel
theorem dX7_rest_237 : decode cX7_rest 237 = .ok (.getfield 44, 3) := by decide +kernel
theorem dX7_rest_240 : decode cX7_rest 240 = .ok (.iload_n 2, 1) := by decide +kernel
theorem dX7_rest_241 : decode cX7_rest 241 = .ok (.aload_n 0, 1) := by decide +kernel
theorem dX7_rest_242 : decode cX7_rest 242 = .ok (.getfield 132, 3) := by decide +kernel
theorem dX7_rest_245 : decode cX7_rest 245 = .ok (.iastore, 1) := by decide +kernel
theorem dX7_rest_246 : decode cX7_rest 246 = .ok (.aload_n 0, 1) := by decide +kernel
theorem dX7_rest_247 : decode cX7_rest 247 = .ok (.getfield 66, 3) := by decide +kernel
theorem dX7_rest_250 : decode cX7_rest 250 = .ok (.iload_n 2, 1) := by decide +kernel
theorem dX7_rest_251 : decode cX7_rest 251 = .ok (.aload_n 0, 1) := by decide +kernel
theorem dX7_rest_252 : decode cX7_rest 252 = .ok (.invokevirtual 204, 3) := by decide +kernel
theorem dX7_rest_255 : decode cX7_rest 255 = .ok (.lastore, 1) := by decide +kernel
end
section
theorem dX7_rest_256 : decode cX7_rest 256 = .ok (.aload_n 0, 1) := by decide +kernel
theorem dX7_rest_257 : decode cX7_rest 257 = .ok (.getfield 47, 3) := by decide +kernel
theorem dX7_rest_260 : decode cX7_rest 260 = .ok (.iload_n 2, 1) := by decide +kernel
theorem dX7_rest_261 : decode cX7_rest 261 = .ok (.iconst 2, 1) := by decide +kernel
theorem dX7_rest_262 : decode cX7_rest 262 = .ok (.iastore, 1) := by decide +kernel
theorem dX7_rest_263 : decode cX7_rest 263 = .ok (.aload_n 0, 1) := by decide +kernel
theorem dX7_rest_264 : decode cX7_rest 264 = .ok (.invokevirtual 175, 3) := by decide +kernel
theorem dX7_rest_267 : decode cX7_rest 267 = .ok (.aload_n 0, 1) := by decide +kernel
theorem dX7_rest_268 : decode cX7_rest 268 = .ok (.iload_n 2, 1) := by decide +kernel
theorem dX7_rest_269 : decode cX7_rest 269 = .ok (.bipush 21, 2) := by decide +kernel
theorem dX7_rest_271 : decode cX7_rest 271 = .ok (.invokevirtual 241, 3) := by decide +kernel
theorem dX7_rest_274 : decode cX7_rest 274 = .ok (.goto 9, 3) := by decide +kernel
theorem dX7_rest_277 : decode cX7_rest 277 = .ok (.aload_n 0, 1) := by decide +kernel
theorem dX7_rest_278 : decode cX7_rest 278 = .ok (.iload_n 2, 1) := by decide +kernel
theorem dX7_rest_279 : decode cX7_rest 279 = .ok (.iload_n 1, 1) := by decide +kernel
theorem dX7_rest_280 : decode cX7_rest 280 = .ok (.invokevirtual 263, 3) := by decide +kernel
theorem dX7_rest_283 : decode cX7_rest 283 = .ok (.return_, 1) := by decide +kernel
theorem dX7_readExpression_0 : decode cX7_readExpression 0 = .ok (.aload_n 0, 1) := by decide +kernel
theorem dX7_readExpression_1 : decode cX7_readExpression 1 = .ok (.iconst 0, 1) := by decide +kernel
theorem dX7_readExpression_2 : decode cX7_readExpression 2 = .ok (.putfield 188, 3) := by decide +kernel
theorem dX7_readExpression_5 : decode cX7_readExpression 5 = .ok (.aload_n 0, 1) := by decide +kernel
theorem dX7_readExpression_6 : decode cX7_readExpression 6 = .ok (.iconst 0, 1) := by decide +kernel
theorem dX7_readExpression_7 : decode cX7_readExpression 7 = .ok (.putfield 208, 3) := by decide +kernel
theorem dX7_readExpression_10 : decode cX7_readExpression 10 = .ok (.aload_n 0, 1) := by decide +kernel
theorem dX7_readExpression_11 : decode cX7_readExpression 11 = .ok (.iconst 0, 1) := by decide +kernel
theorem dX7_readExpression_12 : decode cX7_readExpression 12 = .ok (.putfield 198, 3) := by decide +kernel
theorem dX7_readExpression_15 : decode cX7_readExpression 15 = .ok (.aload_n 0, 1) := by decide +kernel
theorem dX7_readExpression_16 : decode cX7_readExpression 16 = .ok (.iconst 0, 1) := by decide +kernel
theorem dX7_readExpression_17 : decode cX7_readExpression 17 = .ok (.putfield 219, 3) := by decide +kernel
theorem dX7_readExpression_20 : decode cX7_readExpression 20 = .ok (.aload_n 0, 1) := by decide +kernel
theorem dX7_readExpression_21 : decode cX7_readExpression 21 = .ok (.iconst 0, 1) := by decide +kernel
theorem dX7_readExpression_22 : decode cX7_readExpression 22 = .ok (.putfield 201, 3) := by decide +kernel
theorem dX7_readExpression_25 : decode cX7_readExpression 25 = .ok (.aload_n 0, 1) := by decide +kernel
theorem dX7_readExpression_26 : decode cX7_readExpression 26 = .ok (.iconst 1, 1) := by decide +kernel
theorem dX7_readExpression_27 : decode cX7_readExpression 27 = .ok (.iconst 0, 1) := by decide +kernel
theorem dX7_readExpression_28 : decode cX7_readExpression 28 = .ok (.invokevirtual 215, 3) := by decide +kernel
theorem dX7_readExpression_31 : decode cX7_readExpression 31 = .ok (.aload_n 0, 1) := by decide +kernel
theorem dX7_readExpression_32 : decode cX7_readExpression 32 = .ok (.getfield 198, 3) := by decide +kernel
theorem dX7_readExpression_35 : decode cX7_readExpression 35 = .ok (.ifCond .le 45, 3) := by decide +kernel
theorem dX7_readExpression_38 : decode cX7_readExpression 38 = .ok (.aload_n 0, 1) := by decide +kernel
theorem dX7_readExpression_39 : decode cX7_readExpression 39 = .ok (.getfield 165, 3) := by decide +kernel
theorem dX7_readExpression_42 : decode cX7_readExpression 42 = .ok (.ifCond .eq 38, 3) := by decide +kernel
theorem dX7_readExpression_45 : decode cX7_readExpression 45 = .ok (.aload_n 0, 1) := by decide +kernel
theorem dX7_readExpression_46 : decode cX7_readExpression 46 = .ok (.dup, 1) := by decide +kernel
theorem dX7_readExpression_47 : decode cX7_readExpression 47 = .ok (.getfield 198, 3) := by decide +kernel
theorem dX7_readExpression_50 : decode cX7_readExpression 50 = .ok (.iconst 1, 1) := by decide +kernel
theorem dX7_readExpression_51 : decode cX7_readExpression 51 = .ok (.isub, 1) := by decide +kernel
theorem dX7_readExpression_52 : decode cX7_readExpression 52 = .ok (.putfield 198, 3) := by decide +kernel
theorem dX7_readExpression_55 : decode cX7_readExpression 55 = .ok (.aload_n 0, 1) := by decide +kernel
theorem dX7_readExpression_56 : decode cX7_readExpression 56 = .ok (.aload_n 0, 1) := by decide +kernel
theorem dX7_readExpression_57 : decode cX7_readExpression 57 = .ok (.getfield 69, 3) := by decide +kernel
theorem dX7_readExpression_60 : decode cX7_readExpression 60 = .ok (.aload_n 0, 1) := by decide +kernel
theorem dX7_readExpression_61 : decode cX7_readExpression 61 = .ok (.getfield 198, 3) := by decide +kernel
theorem dX7_readExpression_64 : decode cX7_readExpression 64 = .ok (.iaload, 1) := by decide +kernel
theorem dX7_readExpression_65 : decode cX7_readExpression 65 = .ok (.aload_n 0, 1) := by decide +kernel
theorem dX7_readExpression_66 : decode cX7_readExpression 66 = .ok (.getfield 72, 3) := by decide +kernel
theorem dX7_readExpression_69 : decode cX7_readExpression 69 = .ok (.aload_n 0, 1) := by decide +kernel
theorem dX7_readExpression_70 : decode cX7_readExpression 70 = .ok (.getfield 198, 3) := by decide +kernel
theorem dX7_readExpression_73 : decode cX7_readExpression 73 = .ok (.iaload, 1) := by decide +kernel
theorem dX7_readExpression_74 : decode cX7_readExpression 74 = .ok (.invokevirtual 266, 3) := by decide +kernel
theorem dX7_readExpression_77 : decode cX7_readExpression 77 = .ok (.goto (-46), 3) := by decide +kernel
theorem dX7_readExpression_80 : decode cX7_readExpression 80 = .ok (.aload_n 0, 1) := by decide +kernel
theorem dX7_readExpression_81 : decode cX7_readExpression 81 = .ok (.getfield 165, 3) := by decide +kernel
theorem dX7_readExpression_84 : decode cX7_readExpression 84 = .ok (.ifCond .eq 45, 3) := by decide +kernel
theorem dX7_readExpression_87 : decode cX7_readExpression 87 = .ok (.aload_n 0, 1) := by decide +kernel
theorem dX7_readExpression_88 : decode cX7_readExpression 88 = .ok (.getfield 20, 3) := by decide +kernel
theorem dX7_readExpression_91 : decode cX7_readExpression 91 = .ok (.bipush 12, 2) := by decide +kernel
theorem dX7_readExpression_93 : decode cX7_readExpression 93 = .ok (.aload_n 0, 1) := by decide +kernel
theorem dX7_readExpression_94 : decode cX7_readExpression 94 = .ok (.getfield 182, 3) := by decide +kernel
theorem dX7_readExpression_97 : decode cX7_readExpression 97 = .ok (.imul, 1) := by decide +kernel
theorem dX7_readExpression_98 : decode cX7_readExpression 98 = .ok (.aload_n 0, 1) := by decide +kernel
theorem dX7_readExpression_99 : decode cX7_readExpression 99 = .ok (.getfield 185, 3) := by decide +kernel
theorem dX7_readExpression_102 : decode cX7_readExpression 102 = .ok (.iadd, 1) := by decide +kernel
theorem dX7_readExpression_103 : decode cX7_readExpression 103 = .ok (.aload_n 0, 1) := by decide +kernel
theorem dX7_readExpression_104 : decode cX7_readExpression 104 = .ok (.invokevirtual 235, 3) := by decide +kernel
theorem dX7_readExpression_107 : decode cX7_readExpression 107 = .ok (.iastore, 1) := by decide +kernel
theorem dX7_readExpression_108 : decode cX7_readExpression 108 = .ok (.aload_n 0, 1) := by decide +kernel
theorem dX7_readExpression_109 : decode cX7_readExpression 109 = .ok (.getfield 17, 3) := by decide +kernel
theorem dX7_readExpression_112 : decode cX7_readExpression 112 = .ok (.bipush 12, 2) := by decide +kernel
theorem dX7_readExpression_114 : decode cX7_readExpression 114 = .ok (.aload_n 0, 1) := by decide +kernel
theorem dX7_readExpression_115 : decode cX7_readExpression 115 = .ok (.getfield 182, 3) := by decide +kernel
theorem dX7_readExpression_118 : decode cX7_readExpression 118 = .ok (.imul, 1) := by decide +kernel
theorem dX7_readExpression_119 : decode cX7_readExpression 119 = .ok (.aload_n 0, 1) := by decide +kernel
theorem dX7_readExpression_120 : decode cX7_readExpression 120 = .ok (.getfield 185, 3) := by decide +kernel
theorem dX7_readExpression_123 : decode cX7_readExpression 123 = .ok (.iadd, 1) := by decide +kernel
theorem dX7_readExpression_124 : decode cX7_readExpression 124 = .ok (.aload_n 0, 1) := by decide +kernel
theorem dX7_readExpression_125 : decode cX7_readExpression 125 = .ok (.getfield 188, 3) := by decide +kernel
theorem dX7_readExpression_128 : decode cX7_readExpression 128 = .ok (.iastore, 1) := by decide +kernel
theorem dX7_readExpression_129 : decode cX7_readExpression 129 = .ok (.return_, 1) := by decide +kernel
theorem dX7_isTaken_0 : decode cX7_isTaken 0 = .ok (.iconst 0, 1) := by decide +kernel
theorem dX7_isTaken_1 : decode cX7_isTaken 1 = .ok (.istore_n 3, 1) := by decide +kernel
theorem dX7_isTaken_2 : decode cX7_isTaken 2 = .ok (.iconst 0, 1) := by decide +kernel
theorem dX7_isTaken_3 : decode cX7_isTaken 3 = .ok (.istore 4, 2) := by decide +kernel
theorem dX7_isTaken_5 : decode cX7_isTaken 5 = .ok (.iload 4, 2) := by decide +kernel
theorem dX7_isTaken_7 : decode cX7_isTaken 7 = .ok (.aload_n 0, 1) := by decide +kernel
theorem dX7_isTaken_8 : decode cX7_isTaken 8 = .ok (.getfield 185, 3) := by decide +kernel
theorem dX7_isTaken_11 : decode cX7_isTaken 11 = .ok (.if_icmp .ge 39, 3) := by decide +kernel
theorem dX7_isTaken_14 : decode cX7_isTaken 14 = .ok (.iload_n 3, 1) := by decide +kernel
theorem dX7_isTaken_15 : decode cX7_isTaken 15 = .ok (.ifCond .ne 23, 3) := by decide +kernel
theorem dX7_isTaken_18 : decode cX7_isTaken 18 = .ok (.aload_n 0, 1) := by decide +kernel
theorem dX7_isTaken_19 : decode cX7_isTaken 19 = .ok (.getfield 53, 3) := by decide +kernel
theorem dX7_isTaken_22 : decode cX7_isTaken 22 = .ok (.bipush 12, 2) := by decide +kernel
theorem dX7_isTaken_24 : decode cX7_isTaken 24 = .ok (.aload_n 0, 1) := by decide +kernel
theorem dX7_isTaken_25 : decode cX7_isTaken 25 = .ok (.getfield 182, 3) := by decide +kernel
theorem dX7_isTaken_28 : decode cX7_isTaken 28 = .ok (.imul, 1) := by decide +kernel
theorem dX7_isTaken_29 : decode cX7_isTaken 29 = .ok (.iload 4, 2) := by decide +kernel
theorem dX7_isTaken_31 : decode cX7_isTaken 31 = .ok (.iadd, 1) := by decide +kernel
theorem dX7_isTaken_32 : decode cX7_isTaken 32 = .ok (.laload, 1) := by decide +kernel
theorem dX7_isTaken_33 : decode cX7_isTaken 33 = .ok (.lload_n 1, 1) := by decide +kernel
theorem dX7_isTaken_34 : decode cX7_isTaken 34 = .ok (.lcmp, 1) := by decide +kernel
theorem dX7_isTaken_35 : decode cX7_isTaken 35 = .ok (.ifCond .ne 7, 3) := by decide +kernel
theorem dX7_isTaken_38 : decode cX7_isTaken 38 = .ok (.iconst 1, 1) := by decide +kernel
theorem dX7_isTaken_39 : decode cX7_isTaken 39 = .ok (.goto 4, 3) := by decide +kernel
theorem dX7_isTaken_42 : decode cX7_isTaken 42 = .ok (.iconst 0, 1) := by decide +kernel
theorem dX7_isTaken_43 : decode cX7_isTaken 43 = .ok (.istore_n 3, 1) := by decide +kernel
theorem dX7_isTaken_44 : decode cX7_isTaken 44 = .ok (.iinc 4 1, 3) := by decide +kernel
theorem dX7_isTaken_47 : decode cX7_isTaken 47 = .ok (.goto (-42), 3) := by decide +kernel
theorem dX7_isTaken_50 : decode cX7_isTaken 50 = .ok (.iload_n 3, 1) := by decide +kernel
theorem dX7_isTaken_51 : decode cX7_isTaken 51 = .ok (.ireturn, 1) := by decide +kernel
theorem dX7_readArguments_0 : decode cX7_readArguments 0 = .ok (.bipush 12, 2) := by decide +kernel
theorem dX7_readArguments_2 : decode cX7_readArguments 2 = .ok (.aload_n 0, 1) := by decide +kernel
theorem dX7_readArguments_3 : decode cX7_readArguments 3 = .ok (.getfield 182, 3) := by decide +kernel
theorem dX7_readArguments_6 : decode cX7_readArguments 6 = .ok (.imul, 1) := by decide +kernel
theorem dX7_readArguments_7 : decode cX7_readArguments 7 = .ok (.aload_n 0, 1) := by decide +kernel
theorem dX7_readArguments_8 : decode cX7_readArguments 8 = .ok (.getfield 185, 3) := by decide +kernel
theorem dX7_readArguments_11 : decode cX7_readArguments 11 = .ok (.iadd, 1) := by decide +kernel
theorem dX7_readArguments_12 : decode cX7_readArguments 12 = .ok (.istore_n 1, 1) := by decide +kernel
theorem dX7_readArguments_13 : decode cX7_readArguments 13 = .ok (.aload_n 0, 1) := by decide +kernel
theorem dX7_readArguments_14 : decode cX7_readArguments 14 = .ok (.getfield 13, 3) := by decide +kernel
theorem dX7_readArguments_17 : decode cX7_readArguments 17 = .ok (.iload_n 1, 1) := by decide +kernel
theorem dX7_readArguments_18 : decode cX7_readArguments 18 = .ok (.iconst 0, 1) := by decide +kernel
theorem dX7_readArguments_19 : decode cX7_readArguments 19 = .ok (.iastore, 1) := by decide +kernel
theorem dX7_readArguments_20 : decode cX7_readArguments 20 = .ok (.aload_n 0, 1) := by decide +kernel
theorem dX7_readArguments_21 : decode cX7_readArguments 21 = .ok (.bipush 41, 2) := by decide +kernel
theorem dX7_readArguments_23 : decode cX7_readArguments 23 = .ok (.invokevirtual 232, 3) := by decide +kernel
theorem dX7_readArguments_26 : decode cX7_readArguments 26 = .ok (.ifCond .eq 4, 3) := by decide +kernel
theorem dX7_readArguments_29 : decode cX7_readArguments 29 = .ok (.return_, 1) := by decide +kernel
theorem dX7_readArguments_30 : decode cX7_readArguments 30 = .ok (.iconst 1, 1) := by decide +kernel
theorem dX7_readArguments_31 : decode cX7_readArguments 31 = .ok (.istore_n 2, 1) := by decide +kernel
theorem dX7_readArguments_32 : decode cX7_readArguments 32 = .ok (.iload_n 2, 1) := by decide +kernel
theorem dX7_readArguments_33 : decode cX7_readArguments 33 = .ok (.ifCond .eq 145, 3) := by decide +kernel
theorem dX7_readArguments_36 : decode cX7_readArguments 36 = .ok (.aload_n 0, 1) := by decide +kernel
theorem dX7_readArguments_37 : decode cX7_readArguments 37 = .ok (.getfield 165, 3) := by decide +kernel
theorem dX7_readArguments_40 : decode cX7_readArguments 40 = .ok (.ifCond .eq 138, 3) := by decide +kernel
theorem dX7_readArguments_43 : decode cX7_readArguments 43 = .ok (.aload_n 0, 1) := by decide +kernel
theorem dX7_readArguments_44 : decode cX7_readArguments 44 = .ok (.aload_n 0, 1) := by decide +kernel
theorem dX7_readArguments_45 : decode cX7_readArguments 45 = .ok (.getfield 142, 3) := by decide +kernel
theorem dX7_readArguments_48 : decode cX7_readArguments 48 = .ok (.iconst 1, 1) := by decide +kernel
theorem dX7_readArguments_49 : decode cX7_readArguments 49 = .ok (.if_icmp .ne 18, 3) := by decide +kernel
theorem dX7_readArguments_52 : decode cX7_readArguments 52 = .ok (.aload_n 0, 1) := by decide +kernel
theorem dX7_readArguments_53 : decode cX7_readArguments 53 = .ok (.getfield 13, 3) := by decide +kernel
theorem dX7_readArguments_56 : decode cX7_readArguments 56 = .ok (.iload_n 1, 1) := by decide +kernel
theorem dX7_readArguments_57 : decode cX7_readArguments 57 = .ok (.iaload, 1) := by decide +kernel
theorem dX7_readArguments_58 : decode cX7_readArguments 58 = .ok (.bipush 6, 2) := by decide +kernel
theorem dX7_readArguments_60 : decode cX7_readArguments 60 = .ok (.if_icmp .ge 7, 3) := by decide +kernel
theorem dX7_readArguments_63 : decode cX7_readArguments 63 = .ok (.iconst 1, 1) := by decide +kernel
theorem dX7_readArguments_64 : decode cX7_readArguments 64 = .ok (.goto 4, 3) := by decide +kernel
theorem dX7_readArguments_67 : decode cX7_readArguments 67 = .ok (.iconst 0, 1) := by decide +kernel
theorem dX7_readArguments_68 : decode cX7_readArguments 68 = .ok (.invokevirtual 191, 3) := by decide +kernel
theorem dX7_readArguments_71 : decode cX7_readArguments 71 = .ok (.aload_n 0, 1) := by decide +kernel
theorem dX7_readArguments_72 : decode cX7_readArguments 72 = .ok (.getfield 165, 3) := by decide +kernel
theorem dX7_readArguments_75 : decode cX7_readArguments 75 = .ok (.ifCond .eq 10, 3) := by decide +kernel
theorem dX7_readArguments_78 : decode cX7_readArguments 78 = .ok (.aload_n 0, 1) := by decide +kernel
theorem dX7_readArguments_79 : decode cX7_readArguments 79 = .ok (.invokevirtual 204, 3) := by decide +kernel
theorem dX7_readArguments_82 : decode cX7_readArguments 82 = .ok (.goto 4, 3) := by decide +kernel
theorem dX7_readArguments_85 : decode cX7_readArguments 85 = .ok (.lconst 0, 1) := by decide +kernel
theorem dX7_readArguments_86 : decode cX7_readArguments 86 = .ok (.lstore_n 3, 1) := by decide +kernel
theorem dX7_readArguments_87 : decode cX7_readArguments 87 = .ok (.iconst 0, 1) := by decide +kernel
theorem dX7_readArguments_88 : decode cX7_readArguments 88 = .ok (.istore 5, 2) := by decide +kernel
theorem dX7_readArguments_90 : decode cX7_readArguments 90 = .ok (.iload 5, 2) := by decide +kernel
theorem dX7_readArguments_92 : decode cX7_readArguments 92 = .ok (.aload_n 0, 1) := by decide +kernel
theorem dX7_readArguments_93 : decode cX7_readArguments 93 = .ok (.getfield 13, 3) := by decide +kernel
theorem dX7_readArguments_96 : decode cX7_readArguments 96 = .ok (.iload_n 1, 1) := by decide +kernel
theorem dX7_readArguments_97 : decode cX7_readArguments 97 = .ok (.iaload, 1) := by decide +kernel
theorem dX7_readArguments_98 : decode cX7_readArguments 98 = .ok (.if_icmp .ge 37, 3) := by decide +kernel
theorem dX7_readArguments_101 : decode cX7_readArguments 101 = .ok (.aload_n 0, 1) := by decide +kernel
theorem dX7_readArguments_102 : decode cX7_readArguments 102 = .ok (.getfield 165, 3) := by decide +kernel
theorem dX7_readArguments_105 : decode cX7_readArguments 105 = .ok (.ifCond .eq 30, 3) := by decide +kernel
theorem dX7_readArguments_108 : decode cX7_readArguments 108 = .ok (.aload_n 0, 1) := by decide +kernel
theorem dX7_readArguments_109 : decode cX7_readArguments 109 = .ok (.aload_n 0, 1) := by decide +kernel
theorem dX7_readArguments_110 : decode cX7_readArguments 110 = .ok (.getfield 57, 3) := by decide +kernel
theorem dX7_readArguments_113 : decode cX7_readArguments 113 = .ok (.iload 5, 2) := by decide +kernel
theorem dX7_readArguments_115 : decode cX7_readArguments 115 = .ok (.laload, 1) := by decide +kernel
theorem dX7_readArguments_116 : decode cX7_readArguments 116 = .ok (.lload_n 3, 1) := by decide +kernel
theorem dX7_readArguments_117 : decode cX7_readArguments 117 = .ok (.lcmp, 1) := by decide +kernel
theorem dX7_readArguments_118 : decode cX7_readArguments 118 = .ok (.ifCond .eq 7, 3) := by decide +kernel
theorem dX7_readArguments_121 : decode cX7_readArguments 121 = .ok (.iconst 1, 1) := by decide +kernel
theorem dX7_readArguments_122 : decode cX7_readArguments 122 = .ok (.goto 4, 3) := by decide +kernel
theorem dX7_readArguments_125 : decode cX7_readArguments 125 = .ok (.iconst 0, 1) := by decide +kernel
theorem dX7_readArguments_126 : decode cX7_readArguments 126 = .ok (.invokevirtual 191, 3) := by decide +kernel
theorem dX7_readArguments_129 : decode cX7_readArguments 129 = .ok (.iinc 5 1, 3) := by decide +kernel
theorem dX7_readArguments_132 : decode cX7_readArguments 132 = .ok (.goto (-42), 3) := by decide +kernel
theorem dX7_readArguments_135 : decode cX7_readArguments 135 = .ok (.aload_n 0, 1) := by decide +kernel
theorem dX7_readArguments_136 : decode cX7_readArguments 136 = .ok (.getfield 165, 3) := by decide +kernel
theorem dX7_readArguments_139 : decode cX7_readArguments 139 = .ok (.ifCond .eq 36, 3) := by decide +kernel
theorem dX7_readArguments_142 : decode cX7_readArguments 142 = .ok (.aload_n 0, 1) := by decide +kernel
theorem dX7_readArguments_143 : decode cX7_readArguments 143 = .ok (.getfield 57, 3) := by decide +kernel
theorem dX7_readArguments_146 : decode cX7_readArguments 146 = .ok (.aload_n 0, 1) := by decide +kernel
theorem dX7_readArguments_147 : decode cX7_readArguments 147 = .ok (.getfield 13, 3) := by decide +kernel
theorem dX7_readArguments_150 : decode cX7_readArguments 150 = .ok (.iload_n 1, 1) := by decide +kernel
theorem dX7_readArguments_151 : decode cX7_readArguments 151 = .ok (.iaload, 1) := by decide +kernel
theorem dX7_readArguments_152 : decode cX7_readArguments 152 = .ok (.lload_n 3, 1) := by decide +kernel
theorem dX7_readArguments_153 : decode cX7_readArguments 153 = .ok (.lastore, 1) := by decide +kernel
theorem dX7_readArguments_154 : decode cX7_readArguments 154 = .ok (.aload_n 0, 1) := by decide +kernel
theorem dX7_readArguments_155 : decode cX7_readArguments 155 = .ok (.getfield 13, 3) := by decide +kernel
theorem dX7_readArguments_158 : decode cX7_readArguments 158 = .ok (.iload_n 1, 1) := by decide +kernel
theorem dX7_readArguments_159 : decode cX7_readArguments 159 = .ok (.dup2, 1) := by decide +kernel
theorem dX7_readArguments_160 : decode cX7_readArguments 160 = .ok (.iaload, 1) := by decide +kernel
theorem dX7_readArguments_161 : decode cX7_readArguments 161 = .ok (.iconst 1, 1) := by decide +kernel
theorem dX7_readArguments_162 : decode cX7_readArguments 162 = .ok (.iadd, 1) := by decide +kernel
theorem dX7_readArguments_163 : decode cX7_readArguments 163 = .ok (.iastore, 1) := by decide +kernel
theorem dX7_readArguments_164 : decode cX7_readArguments 164 = .ok (.aload_n 0, 1) := by decide +kernel
theorem dX7_readArguments_165 : decode cX7_readArguments 165 = .ok (.invokevirtual 175, 3) := by decide +kernel
theorem dX7_readArguments_168 : decode cX7_readArguments 168 = .ok (.aload_n 0, 1) := by decide +kernel
theorem dX7_readArguments_169 : decode cX7_readArguments 169 = .ok (.bipush 44, 2) := by decide +kernel
theorem dX7_readArguments_171 : decode cX7_readArguments 171 = .ok (.invokevirtual 232, 3) := by decide +kernel
theorem dX7_readArguments_174 : decode cX7_readArguments 174 = .ok (.istore_n 2, 1) := by decide +kernel
theorem dX7_readArguments_175 : decode cX7_readArguments 175 = .ok (.goto (-143), 3) := by decide +kernel
theorem dX7_readArguments_178 : decode cX7_readArguments 178 = .ok (.aload_n 0, 1) := by decide +kernel
theorem dX7_readArguments_179 : decode cX7_readArguments 179 = .ok (.aload_n 0, 1) := by decide +kernel
theorem dX7_readArguments_180 : decode cX7_readArguments 180 = .ok (.bipush 41, 2) := by decide +kernel
theorem dX7_readArguments_182 : decode cX7_readArguments 182 = .ok (.invokevirtual 172, 3) := by decide +kernel
theorem dX7_readArguments_185 : decode cX7_readArguments 185 = .ok (.invokevirtual 191, 3) := by decide +kernel
theorem dX7_readArguments_188 : decode cX7_readArguments 188 = .ok (.aload_n 0, 1) := by decide +kernel
theorem dX7_readArguments_189 : decode cX7_readArguments 189 = .ok (.getfield 165, 3) := by decide +kernel
theorem dX7_readArguments_192 : decode cX7_readArguments 192 = .ok (.ifCond .eq 7, 3) := by decide +kernel
theorem dX7_readArguments_195 : decode cX7_readArguments 195 = .ok (.aload_n 0, 1) := by decide +kernel
theorem dX7_readArguments_196 : decode cX7_readArguments 196 = .ok (.invokevirtual 175, 3) := by decide +kernel
theorem dX7_readArguments_199 : decode cX7_readArguments 199 = .ok (.return_, 1) := by decide +kernel
theorem dX7_needSign_0 : decode cX7_needSign 0 = .ok (.aload_n 0, 1) := by decide +kernel
theorem dX7_needSign_1 : decode cX7_needSign 1 = .ok (.aload_n 0, 1) := by decide +kernel
theorem dX7_needSign_2 : decode cX7_needSign 2 = .ok (.iload_n 1, 1) := by decide +kernel
theorem dX7_needSign_3 : decode cX7_needSign 3 = .ok (.invokevirtual 172, 3) := by decide +kernel
theorem dX7_needSign_6 : decode cX7_needSign 6 = .ok (.invokevirtual 191, 3) := by decide +kernel
theorem dX7_needSign_9 : decode cX7_needSign 9 = .ok (.aload_n 0, 1) := by decide +kernel
theorem dX7_needSign_10 : decode cX7_needSign 10 = .ok (.getfield 165, 3) := by decide +kernel
theorem dX7_needSign_13 : decode cX7_needSign 13 = .ok (.ifCond .eq 7, 3) := by decide +kernel
theorem dX7_needSign_16 : decode cX7_needSign 16 = .ok (.aload_n 0, 1) := by decide +kernel
theorem dX7_needSign_17 : decode cX7_needSign 17 = .ok (.invokevirtual 175, 3) := by decide +kernel
theorem dX7_needSign_20 : decode cX7_needSign 20 = .ok (.return_, 1) := by decide +kernel
theorem dX7_readDefinition_0 : decode cX7_readDefinition 0 = .ok (.aload_n 0, 1) := by decide +kernel
theorem dX7_readDefinition_1 : decode cX7_readDefinition 1 = .ok (.aload_n 0, 1) := by decide +kernel
theorem dX7_readDefinition_2 : decode cX7_readDefinition 2 = .ok (.getfield 142, 3) := by decide +kernel
theorem dX7_readDefinition_5 : decode cX7_readDefinition 5 = .ok (.iconst 1, 1) := by decide +kernel
theorem dX7_readDefinition_6 : decode cX7_readDefinition 6 = .ok (.if_icmp .ne 16, 3) := by decide +kernel
theorem dX7_readDefinition_9 : decode cX7_readDefinition 9 = .ok (.aload_n 0, 1) := by decide +kernel
theorem dX7_readDefinition_10 : decode cX7_readDefinition 10 = .ok (.getfield 185, 3) := by decide +kernel
theorem dX7_readDefinition_13 : decode cX7_readDefinition 13 = .ok (.bipush 12, 2) := by decide +kernel
theorem dX7_readDefinition_15 : decode cX7_readDefinition 15 = .ok (.if_icmp .ge 7, 3) := by decide +kernel
theorem dX7_readDefinition_18 : decode cX7_readDefinition 18 = .ok (.iconst 1, 1) := by decide +kernel
theorem dX7_readDefinition_19 : decode cX7_readDefinition 19 = .ok (.goto 4, 3) := by decide +kernel
theorem dX7_readDefinition_22 : decode cX7_readDefinition 22 = .ok (.iconst 0, 1) := by decide +kernel
theorem dX7_readDefinition_23 : decode cX7_readDefinition 23 = .ok (.invokevirtual 191, 3) := by decide +kernel
theorem dX7_readDefinition_26 : decode cX7_readDefinition 26 = .ok (.aload_n 0, 1) := by decide +kernel
theorem dX7_readDefinition_27 : decode cX7_readDefinition 27 = .ok (.getfield 165, 3) := by decide +kernel
theorem dX7_readDefinition_30 : decode cX7_readDefinition 30 = .ok (.ifCond .ne 4, 3) := by decide +kernel
theorem dX7_readDefinition_33 : decode cX7_readDefinition 33 = .ok (.return_, 1) := by decide +kernel
theorem dX7_readDefinition_34 : decode cX7_readDefinition 34 = .ok (.aload_n 0, 1) := by decide +kernel
theorem dX7_readDefinition_35 : decode cX7_readDefinition 35 = .ok (.aload_n 0, 1) := by decide +kernel
theorem dX7_readDefinition_36 : decode cX7_readDefinition 36 = .ok (.aload_n 0, 1) := by decide +kernel
theorem dX7_readDefinition_37 : decode cX7_readDefinition 37 = .ok (.invokevirtual 204, 3) := by decide +kernel
theorem dX7_readDefinition_40 : decode cX7_readDefinition 40 = .ok (.invokevirtual 269, 3) := by decide +kernel
theorem dX7_readDefinition_43 : decode cX7_readDefinition 43 = .ok (.ifCond .ne 7, 3) := by decide +kernel
theorem dX7_readDefinition_46 : decode cX7_readDefinition 46 = .ok (.iconst 1, 1) := by decide +kernel
theorem dX7_readDefinition_47 : decode cX7_readDefinition 47 = .ok (.goto 4, 3) := by decide +kernel
theorem dX7_readDefinition_50 : decode cX7_readDefinition 50 = .ok (.iconst 0, 1) := by decide +kernel
theorem dX7_readDefinition_51 : decode cX7_readDefinition 51 = .ok (.invokevirtual 191, 3) := by decide +kernel
theorem dX7_readDefinition_54 : decode cX7_readDefinition 54 = .ok (.aload_n 0, 1) := by decide +kernel
theorem dX7_readDefinition_55 : decode cX7_readDefinition 55 = .ok (.getfield 53, 3) := by decide +kernel
theorem dX7_readDefinition_58 : decode cX7_readDefinition 58 = .ok (.bipush 12, 2) := by decide +kernel
theorem dX7_readDefinition_60 : decode cX7_readDefinition 60 = .ok (.aload_n 0, 1) := by decide +kernel
theorem dX7_readDefinition_61 : decode cX7_readDefinition 61 = .ok (.getfield 182, 3) := by decide +kernel
theorem dX7_readDefinition_64 : decode cX7_readDefinition 64 = .ok (.imul, 1) := by decide +kernel
theorem dX7_readDefinition_65 : decode cX7_readDefinition 65 = .ok (.aload_n 0, 1) := by decide +kernel
theorem dX7_readDefinition_66 : decode cX7_readDefinition 66 = .ok (.getfield 185, 3) := by decide +kernel
theorem dX7_readDefinition_69 : decode cX7_readDefinition 69 = .ok (.iadd, 1) := by decide +kernel
theorem dX7_readDefinition_70 : decode cX7_readDefinition 70 = .ok (.aload_n 0, 1) := by decide +kernel
theorem dX7_readDefinition_71 : decode cX7_readDefinition 71 = .ok (.invokevirtual 204, 3) := by decide +kernel
theorem dX7_readDefinition_74 : decode cX7_readDefinition 74 = .ok (.lastore, 1) := by decide +kernel
theorem dX7_readDefinition_75 : decode cX7_readDefinition 75 = .ok (.aload_n 0, 1) := by decide +kernel
theorem dX7_readDefinition_76 : decode cX7_readDefinition 76 = .ok (.getfield 165, 3) := by decide +kernel
theorem dX7_readDefinition_79 : decode cX7_readDefinition 79 = .ok (.ifCond .eq 7, 3) := by decide +kernel
theorem dX7_readDefinition_82 : decode cX7_readDefinition 82 = .ok (.aload_n 0, 1) := by decide +kernel
theorem dX7_readDefinition_83 : decode cX7_readDefinition 83 = .ok (.invokevirtual 175, 3) := by decide +kernel
theorem dX7_readDefinition_86 : decode cX7_readDefinition 86 = .ok (.aload_n 0, 1) := by decide +kernel
theorem dX7_readDefinition_87 : decode cX7_readDefinition 87 = .ok (.bipush 40, 2) := by decide +kernel
theorem dX7_readDefinition_89 : decode cX7_readDefinition 89 = .ok (.invokevirtual 273, 3) := by decide +kernel
theorem dX7_readDefinition_92 : decode cX7_readDefinition 92 = .ok (.aload_n 0, 1) := by decide +kernel
theorem dX7_readDefinition_93 : decode cX7_readDefinition 93 = .ok (.getfield 165, 3) := by decide +kernel
theorem dX7_readDefinition_96 : decode cX7_readDefinition 96 = .ok (.ifCond .eq 7, 3) := by decide +kernel
theorem dX7_readDefinition_99 : decode cX7_readDefinition 99 = .ok (.aload_n 0, 1) := by decide +kernel
theorem dX7_readDefinition_100 : decode cX7_readDefinition 100 = .ok (.invokevirtual 276, 3) := by decide +kernel
theorem dX7_readDefinition_103 : decode cX7_readDefinition 103 = .ok (.aload_n 0, 1) := by decide +kernel
theorem dX7_readDefinition_104 : decode cX7_readDefinition 104 = .ok (.bipush 61, 2) := by decide +kernel
theorem dX7_readDefinition_106 : decode cX7_readDefinition 106 = .ok (.invokevirtual 273, 3) := by decide +kernel
theorem dX7_readDefinition_109 : decode cX7_readDefinition 109 = .ok (.aload_n 0, 1) := by decide +kernel
theorem dX7_readDefinition_110 : decode cX7_readDefinition 110 = .ok (.getfield 165, 3) := by decide +kernel
theorem dX7_readDefinition_113 : decode cX7_readDefinition 113 = .ok (.ifCond .eq 7, 3) := by decide +kernel
theorem dX7_readDefinition_116 : decode cX7_readDefinition 116 = .ok (.aload_n 0, 1) := by decide +kernel
theorem dX7_readDefinition_117 : decode cX7_readDefinition 117 = .ok (.invokevirtual 279, 3) := by decide +kernel
theorem dX7_readDefinition_120 : decode cX7_readDefinition 120 = .ok (.aload_n 0, 1) := by decide +kernel
theorem dX7_readDefinition_121 : decode cX7_readDefinition 121 = .ok (.bipush 59, 2) := by decide +kernel
theorem dX7_readDefinition_123 : decode cX7_readDefinition 123 = .ok (.invokevirtual 273, 3) := by decide +kernel
theorem dX7_readDefinition_126 : decode cX7_readDefinition 126 = .ok (.return_, 1) := by decide +kernel
theorem dX7_link_0 : decode cX7_link 0 = .ok (.iconst (-1), 1) := by decide +kernel
theorem dX7_link_1 : decode cX7_link 1 = .ok (.istore_n 2, 1) := by decide +kernel
theorem dX7_link_2 : decode cX7_link 2 = .ok (.iconst 0, 1) := by decide +kernel
theorem dX7_link_3 : decode cX7_link 3 = .ok (.istore_n 3, 1) := by decide +kernel
theorem dX7_link_4 : decode cX7_link 4 = .ok (.iload_n 3, 1) := by decide +kernel
theorem dX7_link_5 : decode cX7_link 5 = .ok (.iload_n 1, 1) := by decide +kernel
theorem dX7_link_6 : decode cX7_link 6 = .ok (.if_icmp .ge 217, 3) := by decide +kernel
theorem dX7_link_9 : decode cX7_link 9 = .ok (.iconst 0, 1) := by decide +kernel
theorem dX7_link_10 : decode cX7_link 10 = .ok (.istore 4, 2) := by decide +kernel
theorem dX7_link_12 : decode cX7_link 12 = .ok (.iload 4, 2) := by decide +kernel
theorem dX7_link_14 : decode cX7_link 14 = .ok (.aload_n 0, 1) := by decide +kernel
theorem dX7_link_15 : decode cX7_link 15 = .ok (.getfield 17, 3) := by decide +kernel
theorem dX7_link_18 : decode cX7_link 18 = .ok (.bipush 12, 2) := by decide +kernel
theorem dX7_link_20 : decode cX7_link 20 = .ok (.aload_n 0, 1) := by decide +kernel
theorem dX7_link_21 : decode cX7_link 21 = .ok (.getfield 182, 3) := by decide +kernel
theorem dX7_link_24 : decode cX7_link 24 = .ok (.imul, 1) := by decide +kernel
theorem dX7_link_25 : decode cX7_link 25 = .ok (.iload_n 3, 1) := by decide +kernel
theorem dX7_link_26 : decode cX7_link 26 = .ok (.iadd, 1) := by decide +kernel
theorem dX7_link_27 : decode cX7_link 27 = .ok (.iaload, 1) := by decide +kernel
theorem dX7_link_28 : decode cX7_link 28 = .ok (.if_icmp .ge 189, 3) := by decide +kernel
theorem dX7_link_31 : decode cX7_link 31 = .ok (.bipush 60, 2) := by decide +kernel
theorem dX7_link_33 : decode cX7_link 33 = .ok (.bipush 12, 2) := by decide +kernel
theorem dX7_link_35 : decode cX7_link 35 = .ok (.aload_n 0, 1) := by decide +kernel
theorem dX7_link_36 : decode cX7_link 36 = .ok (.getfield 182, 3) := by decide +kernel
theorem dX7_link_39 : decode cX7_link 39 = .ok (.imul, 1) := by decide +kernel
theorem dX7_link_40 : decode cX7_link 40 = .ok (.iload_n 3, 1) := by decide +kernel
theorem dX7_link_41 : decode cX7_link 41 = .ok (.iadd, 1) := by decide +kernel
theorem dX7_link_42 : decode cX7_link 42 = .ok (.imul, 1) := by decide +kernel
theorem dX7_link_43 : decode cX7_link 43 = .ok (.iload 4, 2) := by decide +kernel
theorem dX7_link_45 : decode cX7_link 45 = .ok (.iadd, 1) := by decide +kernel
theorem dX7_link_46 : decode cX7_link 46 = .ok (.istore 5, 2) := by decide +kernel
theorem dX7_link_48 : decode cX7_link 48 = .ok (.aload_n 0, 1) := by decide +kernel
theorem dX7_link_49 : decode cX7_link 49 = .ok (.getfield 23, 3) := by decide +kernel
theorem dX7_link_52 : decode cX7_link 52 = .ok (.iload 5, 2) := by decide +kernel
theorem dX7_link_54 : decode cX7_link 54 = .ok (.iaload, 1) := by decide +kernel
theorem dX7_link_55 : decode cX7_link 55 = .ok (.bipush 8, 2) := by decide +kernel
theorem dX7_link_57 : decode cX7_link 57 = .ok (.if_icmp .eq 18, 3) := by decide +kernel
theorem dX7_link_60 : decode cX7_link 60 = .ok (.aload_n 0, 1) := by decide +kernel
theorem dX7_link_61 : decode cX7_link 61 = .ok (.getfield 23, 3) := by decide +kernel
theorem dX7_link_64 : decode cX7_link 64 = .ok (.iload 5, 2) := by decide +kernel
theorem dX7_link_66 : decode cX7_link 66 = .ok (.iaload, 1) := by decide +kernel
theorem dX7_link_67 : decode cX7_link 67 = .ok (.bipush 9, 2) := by decide +kernel
theorem dX7_link_69 : decode cX7_link 69 = .ok (.if_icmp .eq 6, 3) := by decide +kernel
theorem dX7_link_72 : decode cX7_link 72 = .ok (.goto 139, 3) := by decide +kernel
theorem dX7_link_75 : decode cX7_link 75 = .ok (.iconst 0, 1) := by decide +kernel
theorem dX7_link_76 : decode cX7_link 76 = .ok (.istore 6, 2) := by decide +kernel
theorem dX7_link_78 : decode cX7_link 78 = .ok (.iload 6, 2) := by decide +kernel
theorem dX7_link_80 : decode cX7_link 80 = .ok (.iload_n 1, 1) := by decide +kernel
theorem dX7_link_81 : decode cX7_link 81 = .ok (.if_icmp .ge 91, 3) := by decide +kernel
theorem dX7_link_84 : decode cX7_link 84 = .ok (.aload_n 0, 1) := by decide +kernel
theorem dX7_link_85 : decode cX7_link 85 = .ok (.getfield 53, 3) := by decide +kernel
theorem dX7_link_88 : decode cX7_link 88 = .ok (.bipush 12, 2) := by decide +kernel
theorem dX7_link_90 : decode cX7_link 90 = .ok (.aload_n 0, 1) := by decide +kernel
theorem dX7_link_91 : decode cX7_link 91 = .ok (.getfield 182, 3) := by decide +kernel
theorem dX7_link_94 : decode cX7_link 94 = .ok (.imul, 1) := by decide +kernel
theorem dX7_link_95 : decode cX7_link 95 = .ok (.iload 6, 2) := by decide +kernel
theorem dX7_link_97 : decode cX7_link 97 = .ok (.iadd, 1) := by decide +kernel
theorem dX7_link_98 : decode cX7_link 98 = .ok (.laload, 1) := by decide +kernel
theorem dX7_link_99 : decode cX7_link 99 = .ok (.aload_n 0, 1) := by decide +kernel
theorem dX7_link_100 : decode cX7_link 100 = .ok (.getfield 66, 3) := by decide +kernel
theorem dX7_link_103 : decode cX7_link 103 = .ok (.iload 5, 2) := by decide +kernel
theorem dX7_link_105 : decode cX7_link 105 = .ok (.laload, 1) := by decide +kernel
theorem dX7_link_106 : decode cX7_link 106 = .ok (.lcmp, 1) := by decide +kernel
theorem dX7_link_107 : decode cX7_link 107 = .ok (.ifCond .ne 32, 3) := by decide +kernel
theorem dX7_link_110 : decode cX7_link 110 = .ok (.aload_n 0, 1) := by decide +kernel
theorem dX7_link_111 : decode cX7_link 111 = .ok (.getfield 13, 3) := by decide +kernel
theorem dX7_link_114 : decode cX7_link 114 = .ok (.bipush 12, 2) := by decide +kernel
theorem dX7_link_116 : decode cX7_link 116 = .ok (.aload_n 0, 1) := by decide +kernel
theorem dX7_link_117 : decode cX7_link 117 = .ok (.getfield 182, 3) := by decide +kernel
theorem dX7_link_120 : decode cX7_link 120 = .ok (.imul, 1) := by decide +kernel
theorem dX7_link_121 : decode cX7_link 121 = .ok (.iload 6, 2) := by decide +kernel
theorem dX7_link_123 : decode cX7_link 123 = .ok (.iadd, 1) := by decide +kernel
theorem dX7_link_124 : decode cX7_link 124 = .ok (.iaload, 1) := by decide +kernel
theorem dX7_link_125 : decode cX7_link 125 = .ok (.aload_n 0, 1) := by decide +kernel
theorem dX7_link_126 : decode cX7_link 126 = .ok (.getfield 47, 3) := by decide +kernel
theorem dX7_link_129 : decode cX7_link 129 = .ok (.iload 5, 2) := by decide +kernel
theorem dX7_link_131 : decode cX7_link 131 = .ok (.iaload, 1) := by decide +kernel
theorem dX7_link_132 : decode cX7_link 132 = .ok (.if_icmp .ne 7, 3) := by decide +kernel
theorem dX7_link_135 : decode cX7_link 135 = .ok (.iconst 1, 1) := by decide +kernel
theorem dX7_link_136 : decode cX7_link 136 = .ok (.goto 4, 3) := by decide +kernel
theorem dX7_link_139 : decode cX7_link 139 = .ok (.iconst 0, 1) := by decide +kernel
theorem dX7_link_140 : decode cX7_link 140 = .ok (.istore 7, 2) := by decide +kernel
theorem dX7_link_142 : decode cX7_link 142 = .ok (.aload_n 0, 1) := by decide +kernel
theorem dX7_link_143 : decode cX7_link 143 = .ok (.getfield 50, 3) := by decide +kernel
theorem dX7_link_146 : decode cX7_link 146 = .ok (.iload 5, 2) := by decide +kernel
theorem dX7_link_148 : decode cX7_link 148 = .ok (.iload 7, 2) := by decide +kernel
theorem dX7_link_150 : decode cX7_link 150 = .ok (.ifCond .eq 8, 3) := by decide +kernel
theorem dX7_link_153 : decode cX7_link 153 = .ok (.iload 6, 2) := by decide +kernel
theorem dX7_link_155 : decode cX7_link 155 = .ok (.goto 10, 3) := by decide +kernel
theorem dX7_link_158 : decode cX7_link 158 = .ok (.aload_n 0, 1) := by decide +kernel
theorem dX7_link_159 : decode cX7_link 159 = .ok (.getfield 50, 3) := by decide +kernel
theorem dX7_link_162 : decode cX7_link 162 = .ok (.iload 5, 2) := by decide +kernel
theorem dX7_link_164 : decode cX7_link 164 = .ok (.iaload, 1) := by decide +kernel
theorem dX7_link_165 : decode cX7_link 165 = .ok (.iastore, 1) := by decide +kernel
theorem dX7_link_166 : decode cX7_link 166 = .ok (.iinc 6 1, 3) := by decide +kernel
theorem dX7_link_169 : decode cX7_link 169 = .ok (.goto (-91), 3) := by decide +kernel
theorem dX7_link_172 : decode cX7_link 172 = .ok (.aload_n 0, 1) := by decide +kernel
theorem dX7_link_173 : decode cX7_link 173 = .ok (.getfield 50, 3) := by decide +kernel
theorem dX7_link_176 : decode cX7_link 176 = .ok (.iload 5, 2) := by decide +kernel
theorem dX7_link_178 : decode cX7_link 178 = .ok (.iaload, 1) := by decide +kernel
theorem dX7_link_179 : decode cX7_link 179 = .ok (.iconst (-1), 1) := by decide +kernel
theorem dX7_link_180 : decode cX7_link 180 = .ok (.if_icmp .ne 29, 3) := by decide +kernel
theorem dX7_link_183 : decode cX7_link 183 = .ok (.iload_n 2, 1) := by decide +kernel
theorem dX7_link_184 : decode cX7_link 184 = .ok (.iconst (-1), 1) := by decide +kernel
theorem dX7_link_185 : decode cX7_link 185 = .ok (.if_icmp .eq 14, 3) := by decide +kernel
theorem dX7_link_188 : decode cX7_link 188 = .ok (.aload_n 0, 1) := by decide +kernel
theorem dX7_link_189 : decode cX7_link 189 = .ok (.getfield 44, 3) := by decide +kernel
theorem dX7_link_192 : decode cX7_link 192 = .ok (.iload 5, 2) := by decide +kernel
theorem dX7_link_194 : decode cX7_link 194 = .ok (.iaload, 1) := by decide +kernel
theorem dX7_link_195 : decode cX7_link 195 = .ok (.iload_n 2, 1) := by decide +kernel
theorem dX7_link_196 : decode cX7_link 196 = .ok (.if_icmp .ge 13, 3) := by decide +kernel
theorem dX7_link_199 : decode cX7_link 199 = .ok (.aload_n 0, 1) := by decide +kernel
theorem dX7_link_200 : decode cX7_link 200 = .ok (.getfield 44, 3) := by decide +kernel
theorem dX7_link_203 : decode cX7_link 203 = .ok (.iload 5, 2) := by decide +kernel
theorem dX7_link_205 : decode cX7_link 205 = .ok (.iaload, 1) := by decide +kernel
theorem dX7_link_206 : decode cX7_link 206 = .ok (.goto 4, 3) := by decide +kernel
theorem dX7_link_209 : decode cX7_link 209 = .ok (.iload_n 2, 1) := by decide +kernel
theorem dX7_link_210 : decode cX7_link 210 = .ok (.istore_n 2, 1) := by decide +kernel
theorem dX7_link_211 : decode cX7_link 211 = .ok (.iinc 4 1, 3) := by decide +kernel
theorem dX7_link_214 : decode cX7_link 214 = .ok (.goto (-202), 3) := by decide +kernel
theorem dX7_link_217 : decode cX7_link 217 = .ok (.iinc 3 1, 3) := by decide +kernel
theorem dX7_link_220 : decode cX7_link 220 = .ok (.goto (-216), 3) := by decide +kernel
theorem dX7_link_223 : decode cX7_link 223 = .ok (.iload_n 2, 1) := by decide +kernel
theorem dX7_link_224 : decode cX7_link 224 = .ok (.ireturn, 1) := by decide +kernel
theorem dX7_read_0 : decode cX7_read 0 = .ok (.aload_n 0, 1) := by decide +kernel
theorem dX7_read_1 : decode cX7_read 1 = .ok (.iconst 0, 1) := by decide +kernel
theorem dX7_read_2 : decode cX7_read 2 = .ok (.putfield 116, 3) := by decide +kernel
theorem dX7_read_5 : decode cX7_read 5 = .ok (.aload_n 0, 1) := by decide +kernel
theorem dX7_read_6 : decode cX7_read 6 = .ok (.iconst 1, 1) := by decide +kernel
theorem dX7_read_7 : decode cX7_read 7 = .ok (.aload_n 0, 1) := by decide +kernel
theorem dX7_read_8 : decode cX7_read 8 = .ok (.getfield 182, 3) := by decide +kernel
theorem dX7_read_11 : decode cX7_read 11 = .ok (.isub, 1) := by decide +kernel
theorem dX7_read_12 : decode cX7_read 12 = .ok (.putfield 182, 3) := by decide +kernel
theorem dX7_read_15 : decode cX7_read 15 = .ok (.aload_n 0, 1) := by decide +kernel
theorem dX7_read_16 : decode cX7_read 16 = .ok (.iconst 1, 1) := by decide +kernel
theorem dX7_read_17 : decode cX7_read 17 = .ok (.putfield 165, 3) := by decide +kernel
theorem dX7_read_20 : decode cX7_read 20 = .ok (.aload_n 0, 1) := by decide +kernel
theorem dX7_read_21 : decode cX7_read 21 = .ok (.iconst 0, 1) := by decide +kernel
theorem dX7_read_22 : decode cX7_read 22 = .ok (.putfield 185, 3) := by decide +kernel
theorem dX7_read_25 : decode cX7_read 25 = .ok (.aload_n 0, 1) := by decide +kernel
theorem dX7_read_26 : decode cX7_read 26 = .ok (.iconst 0, 1) := by decide +kernel
theorem dX7_read_27 : decode cX7_read 27 = .ok (.putfield 132, 3) := by decide +kernel
theorem dX7_read_30 : decode cX7_read 30 = .ok (.aload_n 0, 1) := by decide +kernel
theorem dX7_read_31 : decode cX7_read 31 = .ok (.invokevirtual 169, 3) := by decide +kernel
theorem dX7_read_34 : decode cX7_read 34 = .ok (.aload_n 0, 1) := by decide +kernel
theorem dX7_read_35 : decode cX7_read 35 = .ok (.getfield 165, 3) := by decide +kernel
theorem dX7_read_38 : decode cX7_read 38 = .ok (.ifCond .eq 45, 3) := by decide +kernel
theorem dX7_read_41 : decode cX7_read 41 = .ok (.aload_n 0, 1) := by decide +kernel
theorem dX7_read_42 : decode cX7_read 42 = .ok (.getfield 142, 3) := by decide +kernel
theorem dX7_read_45 : decode cX7_read 45 = .ok (.ifCond .ne 10, 3) := by decide +kernel
theorem dX7_read_48 : decode cX7_read 48 = .ok (.aload_n 0, 1) := by decide +kernel
theorem dX7_read_49 : decode cX7_read 49 = .ok (.getfield 185, 3) := by decide +kernel
theorem dX7_read_52 : decode cX7_read 52 = .ok (.ifCond .ne 31, 3) := by decide +kernel
theorem dX7_read_55 : decode cX7_read 55 = .ok (.aload_n 0, 1) := by decide +kernel
theorem dX7_read_56 : decode cX7_read 56 = .ok (.invokevirtual 282, 3) := by decide +kernel
theorem dX7_read_59 : decode cX7_read 59 = .ok (.aload_n 0, 1) := by decide +kernel
theorem dX7_read_60 : decode cX7_read 60 = .ok (.dup, 1) := by decide +kernel
theorem dX7_read_61 : decode cX7_read 61 = .ok (.getfield 185, 3) := by decide +kernel
theorem dX7_read_64 : decode cX7_read 64 = .ok (.aload_n 0, 1) := by decide +kernel
theorem dX7_read_65 : decode cX7_read 65 = .ok (.getfield 165, 3) := by decide +kernel
theorem dX7_read_68 : decode cX7_read 68 = .ok (.ifCond .eq 7, 3) := by decide +kernel
theorem dX7_read_71 : decode cX7_read 71 = .ok (.iconst 1, 1) := by decide +kernel
theorem dX7_read_72 : decode cX7_read 72 = .ok (.goto 4, 3) := by decide +kernel
theorem dX7_read_75 : decode cX7_read 75 = .ok (.iconst 0, 1) := by decide +kernel
theorem dX7_read_76 : decode cX7_read 76 = .ok (.iadd, 1) := by decide +kernel
theorem dX7_read_77 : decode cX7_read 77 = .ok (.putfield 185, 3) := by decide +kernel
theorem dX7_read_80 : decode cX7_read 80 = .ok (.goto (-46), 3) := by decide +kernel
theorem dX7_read_83 : decode cX7_read 83 = .ok (.aload_n 0, 1) := by decide +kernel
theorem dX7_read_84 : decode cX7_read 84 = .ok (.getfield 165, 3) := by decide +kernel
theorem dX7_read_87 : decode cX7_read 87 = .ok (.ifCond .eq 14, 3) := by decide +kernel
theorem dX7_read_90 : decode cX7_read 90 = .ok (.aload_n 0, 1) := by decide +kernel
theorem dX7_read_91 : decode cX7_read 91 = .ok (.aload_n 0, 1) := by decide +kernel
theorem dX7_read_92 : decode cX7_read 92 = .ok (.getfield 185, 3) := by decide +kernel
theorem dX7_read_95 : decode cX7_read 95 = .ok (.invokevirtual 285, 3) := by decide +kernel
theorem dX7_read_98 : decode cX7_read 98 = .ok (.goto 7, 3) := by decide +kernel
theorem dX7_read_101 : decode cX7_read 101 = .ok (.aload_n 0, 1) := by decide +kernel
theorem dX7_read_102 : decode cX7_read 102 = .ok (.getfield 132, 3) := by decide +kernel
theorem dX7_read_105 : decode cX7_read 105 = .ok (.istore_n 1, 1) := by decide +kernel
theorem dX7_read_106 : decode cX7_read 106 = .ok (.aload_n 0, 1) := by decide +kernel
theorem dX7_read_107 : decode cX7_read 107 = .ok (.iconst 0, 1) := by decide +kernel
theorem dX7_read_108 : decode cX7_read 108 = .ok (.putfield 119, 3) := by decide +kernel
theorem dX7_read_111 : decode cX7_read 111 = .ok (.aload_n 0, 1) := by decide +kernel
theorem dX7_read_112 : decode cX7_read 112 = .ok (.getfield 165, 3) := by decide +kernel
theorem dX7_read_115 : decode cX7_read 115 = .ok (.ifCond .eq 8, 3) := by decide +kernel
theorem dX7_read_118 : decode cX7_read 118 = .ok (.iload_n 1, 1) := by decide +kernel
theorem dX7_read_119 : decode cX7_read 119 = .ok (.iconst (-1), 1) := by decide +kernel
theorem dX7_read_120 : decode cX7_read 120 = .ok (.if_icmp .eq 17, 3) := by decide +kernel
theorem dX7_read_123 : decode cX7_read 123 = .ok (.aload_n 0, 1) := by decide +kernel
theorem dX7_read_124 : decode cX7_read 124 = .ok (.iconst 1, 1) := by decide +kernel
theorem dX7_read_125 : decode cX7_read 125 = .ok (.aload_n 0, 1) := by decide +kernel
theorem dX7_read_126 : decode cX7_read 126 = .ok (.getfield 182, 3) := by decide +kernel
theorem dX7_read_129 : decode cX7_read 129 = .ok (.isub, 1) := by decide +kernel
theorem dX7_read_130 : decode cX7_read 130 = .ok (.putfield 182, 3) := by decide +kernel
theorem dX7_read_133 : decode cX7_read 133 = .ok (.iconst (-1), 1) := by decide +kernel
theorem dX7_read_134 : decode cX7_read 134 = .ok (.iload_n 1, 1) := by decide +kernel
theorem dX7_read_135 : decode cX7_read 135 = .ok (.isub, 1) := by decide +kernel
theorem dX7_read_136 : decode cX7_read 136 = .ok (.ireturn, 1) := by decide +kernel
theorem dX7_read_137 : decode cX7_read 137 = .ok (.aload_n 0, 1) := by decide +kernel
theorem dX7_read_138 : decode cX7_read 138 = .ok (.aload_n 0, 1) := by decide +kernel
theorem dX7_read_139 : decode cX7_read 139 = .ok (.getfield 185, 3) := by decide +kernel
theorem dX7_read_142 : decode cX7_read 142 = .ok (.putfield 288, 3) := by decide +kernel
theorem dX7_read_145 : decode cX7_read 145 = .ok (.aload_n 0, 1) := by decide +kernel
theorem dX7_read_146 : decode cX7_read 146 = .ok (.getfield 288, 3) := by decide +kernel
theorem dX7_read_149 : decode cX7_read 149 = .ok (.ireturn, 1) := by decide +kernel
theorem dX7_partOf_0 : decode cX7_partOf 0 = .ok (.bipush 60, 2) := by decide +kernel
theorem dX7_partOf_2 : decode cX7_partOf 2 = .ok (.bipush 12, 2) := by decide +kernel
theorem dX7_partOf_4 : decode cX7_partOf 4 = .ok (.aload_n 0, 1) := by decide +kernel
theorem dX7_partOf_5 : decode cX7_partOf 5 = .ok (.getfield 182, 3) := by decide +kernel
theorem dX7_partOf_8 : decode cX7_partOf 8 = .ok (.imul, 1) := by decide +kernel
theorem dX7_partOf_9 : decode cX7_partOf 9 = .ok (.aload_n 0, 1) := by decide +kernel
theorem dX7_partOf_10 : decode cX7_partOf 10 = .ok (.getfield 78, 3) := by decide +kernel
theorem dX7_partOf_13 : decode cX7_partOf 13 = .ok (.iload_n 1, 1) := by decide +kernel
theorem dX7_partOf_14 : decode cX7_partOf 14 = .ok (.bipush 60, 2) := by decide +kernel
theorem dX7_partOf_16 : decode cX7_partOf 16 = .ok (.idiv, 1) := by decide +kernel
theorem dX7_partOf_17 : decode cX7_partOf 17 = .ok (.iaload, 1) := by decide +kernel
theorem dX7_partOf_18 : decode cX7_partOf 18 = .ok (.iadd, 1) := by decide +kernel
theorem dX7_partOf_19 : decode cX7_partOf 19 = .ok (.imul, 1) := by decide +kernel
theorem dX7_partOf_20 : decode cX7_partOf 20 = .ok (.iload_n 1, 1) := by decide +kernel
theorem dX7_partOf_21 : decode cX7_partOf 21 = .ok (.bipush 60, 2) := by decide +kernel
theorem dX7_partOf_23 : decode cX7_partOf 23 = .ok (.irem, 1) := by decide +kernel
theorem dX7_partOf_24 : decode cX7_partOf 24 = .ok (.iadd, 1) := by decide +kernel
theorem dX7_partOf_25 : decode cX7_partOf 25 = .ok (.ireturn, 1) := by decide +kernel
theorem dX7_here_0 : decode cX7_here 0 = .ok (.iload_n 1, 1) := by decide +kernel
theorem dX7_here_1 : decode cX7_here 1 = .ok (.bipush 60, 2) := by decide +kernel
theorem dX7_here_3 : decode cX7_here 3 = .ok (.idiv, 1) := by decide +kernel
theorem dX7_here_4 : decode cX7_here 4 = .ok (.bipush 60, 2) := by decide +kernel
theorem dX7_here_6 : decode cX7_here 6 = .ok (.imul, 1) := by decide +kernel
theorem dX7_here_7 : decode cX7_here 7 = .ok (.iload_n 2, 1) := by decide +kernel
theorem dX7_here_8 : decode cX7_here 8 = .ok (.bipush 60, 2) := by decide +kernel
theorem dX7_here_10 : decode cX7_here 10 = .ok (.irem, 1) := by decide +kernel
theorem dX7_here_11 : decode cX7_here 11 = .ok (.iadd, 1) := by decide +kernel
theorem dX7_here_12 : decode cX7_here 12 = .ok (.ireturn, 1) := by decide +kernel
theorem dX7_rootOf_0 : decode cX7_rootOf 0 = .ok (.bipush 60, 2) := by decide +kernel
theorem dX7_rootOf_2 : decode cX7_rootOf 2 = .ok (.iload_n 1, 1) := by decide +kernel
theorem dX7_rootOf_3 : decode cX7_rootOf 3 = .ok (.imul, 1) := by decide +kernel
theorem dX7_rootOf_4 : decode cX7_rootOf 4 = .ok (.aload_n 0, 1) := by decide +kernel
theorem dX7_rootOf_5 : decode cX7_rootOf 5 = .ok (.getfield 20, 3) := by decide +kernel
theorem dX7_rootOf_8 : decode cX7_rootOf 8 = .ok (.bipush 12, 2) := by decide +kernel
theorem dX7_rootOf_10 : decode cX7_rootOf 10 = .ok (.aload_n 0, 1) := by decide +kernel
theorem dX7_rootOf_11 : decode cX7_rootOf 11 = .ok (.getfield 182, 3) := by decide +kernel
theorem dX7_rootOf_14 : decode cX7_rootOf 14 = .ok (.imul, 1) := by decide +kernel
theorem dX7_rootOf_15 : decode cX7_rootOf 15 = .ok (.aload_n 0, 1) := by decide +kernel
theorem dX7_rootOf_16 : decode cX7_rootOf 16 = .ok (.getfield 78, 3) := by decide +kernel
theorem dX7_rootOf_19 : decode cX7_rootOf 19 = .ok (.iload_n 1, 1) := by decide +kernel
theorem dX7_rootOf_20 : decode cX7_rootOf 20 = .ok (.iaload, 1) := by decide +kernel
theorem dX7_rootOf_21 : decode cX7_rootOf 21 = .ok (.iadd, 1) := by decide +kernel
theorem dX7_rootOf_22 : decode cX7_rootOf 22 = .ok (.iaload, 1) := by decide +kernel
theorem dX7_rootOf_23 : decode cX7_rootOf 23 = .ok (.bipush 60, 2) := by decide +kernel
theorem dX7_rootOf_25 : decode cX7_rootOf 25 = .ok (.irem, 1) := by decide +kernel
theorem dX7_rootOf_26 : decode cX7_rootOf 26 = .ok (.iadd, 1) := by decide +kernel
theorem dX7_rootOf_27 : decode cX7_rootOf 27 = .ok (.ireturn, 1) := by decide +kernel
theorem dX7_reach_0 : decode cX7_reach 0 = .ok (.aload_n 0, 1) := by decide +kernel
theorem dX7_reach_1 : decode cX7_reach 1 = .ok (.getfield 90, 3) := by decide +kernel
theorem dX7_reach_4 : decode cX7_reach 4 = .ok (.iload_n 1, 1) := by decide +kernel
theorem dX7_reach_5 : decode cX7_reach 5 = .ok (.baload, 1) := by decide +kernel
theorem dX7_reach_6 : decode cX7_reach 6 = .ok (.ifCond .ne 15, 3) := by decide +kernel
theorem dX7_reach_9 : decode cX7_reach 9 = .ok (.aload_n 0, 1) := by decide +kernel
theorem dX7_reach_10 : decode cX7_reach 10 = .ok (.getfield 90, 3) := by decide +kernel
theorem dX7_reach_13 : decode cX7_reach 13 = .ok (.iload_n 1, 1) := by decide +kernel
theorem dX7_reach_14 : decode cX7_reach 14 = .ok (.iconst 1, 1) := by decide +kernel
theorem dX7_reach_15 : decode cX7_reach 15 = .ok (.bastore, 1) := by decide +kernel
theorem dX7_reach_16 : decode cX7_reach 16 = .ok (.aload_n 0, 1) := by decide +kernel
theorem dX7_reach_17 : decode cX7_reach 17 = .ok (.iconst 1, 1) := by decide +kernel
theorem dX7_reach_18 : decode cX7_reach 18 = .ok (.putfield 291, 3) := by decide +kernel
theorem dX7_reach_21 : decode cX7_reach 21 = .ok (.return_, 1) := by decide +kernel
theorem dX7_know_0 : decode cX7_know 0 = .ok (.aload_n 0, 1) := by decide +kernel
theorem dX7_know_1 : decode cX7_know 1 = .ok (.getfield 94, 3) := by decide +kernel
theorem dX7_know_4 : decode cX7_know 4 = .ok (.iload_n 1, 1) := by decide +kernel
theorem dX7_know_5 : decode cX7_know 5 = .ok (.iconst 1, 1) := by decide +kernel
theorem dX7_know_6 : decode cX7_know 6 = .ok (.bastore, 1) := by decide +kernel
theorem dX7_know_7 : decode cX7_know 7 = .ok (.aload_n 0, 1) := by decide +kernel
theorem dX7_know_8 : decode cX7_know 8 = .ok (.getfield 97, 3) := by decide +kernel
theorem dX7_know_11 : decode cX7_know 11 = .ok (.iload_n 1, 1) := by decide +kernel
theorem dX7_know_12 : decode cX7_know 12 = .ok (.iload_n 2, 1) := by decide +kernel
theorem dX7_know_13 : decode cX7_know 13 = .ok (.iastore, 1) := by decide +kernel
theorem dX7_know_14 : decode cX7_know 14 = .ok (.aload_n 0, 1) := by decide +kernel
theorem dX7_know_15 : decode cX7_know 15 = .ok (.getfield 100, 3) := by decide +kernel
theorem dX7_know_18 : decode cX7_know 18 = .ok (.iload_n 1, 1) := by decide +kernel
theorem dX7_know_19 : decode cX7_know 19 = .ok (.iload_n 3, 1) := by decide +kernel
theorem dX7_know_20 : decode cX7_know 20 = .ok (.iastore, 1) := by decide +kernel
theorem dX7_know_21 : decode cX7_know 21 = .ok (.aload_n 0, 1) := by decide +kernel
theorem dX7_know_22 : decode cX7_know 22 = .ok (.iconst 1, 1) := by decide +kernel
theorem dX7_know_23 : decode cX7_know 23 = .ok (.putfield 291, 3) := by decide +kernel
theorem dX7_know_26 : decode cX7_know 26 = .ok (.return_, 1) := by decide +kernel
theorem dX7_same_0 : decode cX7_same 0 = .ok (.aload_n 0, 1) := by decide +kernel
theorem dX7_same_1 : decode cX7_same 1 = .ok (.getfield 94, 3) := by decide +kernel
theorem dX7_same_4 : decode cX7_same 4 = .ok (.iload_n 2, 1) := by decide +kernel
theorem dX7_same_5 : decode cX7_same 5 = .ok (.baload, 1) := by decide +kernel
theorem dX7_same_6 : decode cX7_same 6 = .ok (.ifCond .eq 20, 3) := by decide +kernel
theorem dX7_same_9 : decode cX7_same 9 = .ok (.aload_n 0, 1) := by decide +kernel
theorem dX7_same_10 : decode cX7_same 10 = .ok (.iload_n 1, 1) := by decide +kernel
theorem dX7_same_11 : decode cX7_same 11 = .ok (.aload_n 0, 1) := by decide +kernel
theorem dX7_same_12 : decode cX7_same 12 = .ok (.getfield 97, 3) := by decide +kernel
theorem dX7_same_15 : decode cX7_same 15 = .ok (.iload_n 2, 1) := by decide +kernel
theorem dX7_same_16 : decode cX7_same 16 = .ok (.iaload, 1) := by decide +kernel
theorem dX7_same_17 : decode cX7_same 17 = .ok (.aload_n 0, 1) := by decide +kernel
theorem dX7_same_18 : decode cX7_same 18 = .ok (.getfield 100, 3) := by decide +kernel
theorem dX7_same_21 : decode cX7_same 21 = .ok (.iload_n 2, 1) := by decide +kernel
theorem dX7_same_22 : decode cX7_same 22 = .ok (.iaload, 1) := by decide +kernel
theorem dX7_same_23 : decode cX7_same 23 = .ok (.invokevirtual 294, 3) := by decide +kernel
theorem dX7_same_26 : decode cX7_same 26 = .ok (.return_, 1) := by decide +kernel
theorem dX7_numberOf_0 : decode cX7_numberOf 0 = .ok (.aload_n 0, 1) := by decide +kernel
theorem dX7_numberOf_1 : decode cX7_numberOf 1 = .ok (.getfield 100, 3) := by decide +kernel
theorem dX7_numberOf_4 : decode cX7_numberOf 4 = .ok (.iload_n 1, 1) := by decide +kernel
theorem dX7_numberOf_5 : decode cX7_numberOf 5 = .ok (.iaload, 1) := by decide +kernel
theorem dX7_numberOf_6 : decode cX7_numberOf 6 = .ok (.iconst (-1), 1) := by decide +kernel
theorem dX7_numberOf_7 : decode cX7_numberOf 7 = .ok (.if_icmp .ne 12, 3) := by decide +kernel
theorem dX7_numberOf_10 : decode cX7_numberOf 10 = .ok (.aload_n 0, 1) := by decide +kernel
theorem dX7_numberOf_11 : decode cX7_numberOf 11 = .ok (.getfield 97, 3) := by decide +kernel
theorem dX7_numberOf_14 : decode cX7_numberOf 14 = .ok (.iload_n 1, 1) := by decide +kernel
theorem dX7_numberOf_15 : decode cX7_numberOf 15 = .ok (.iaload, 1) := by decide +kernel
theorem dX7_numberOf_16 : decode cX7_numberOf 16 = .ok (.goto 14, 3) := by decide +kernel
theorem dX7_numberOf_19 : decode cX7_numberOf 19 = .ok (.aload_n 0, 1) := by decide +kernel
theorem dX7_numberOf_20 : decode cX7_numberOf 20 = .ok (.getfield 106, 3) := by decide +kernel
theorem dX7_numberOf_23 : decode cX7_numberOf 23 = .ok (.aload_n 0, 1) := by decide +kernel
theorem dX7_numberOf_24 : decode cX7_numberOf 24 = .ok (.getfield 100, 3) := by decide +kernel
theorem dX7_numberOf_27 : decode cX7_numberOf 27 = .ok (.iload_n 1, 1) := by decide +kernel
theorem dX7_numberOf_28 : decode cX7_numberOf 28 = .ok (.iaload, 1) := by decide +kernel
theorem dX7_numberOf_29 : decode cX7_numberOf 29 = .ok (.iaload, 1) := by decide +kernel
theorem dX7_numberOf_30 : decode cX7_numberOf 30 = .ok (.ireturn, 1) := by decide +kernel
theorem dX7_call_0 : decode cX7_call 0 = .ok (.aload_n 0, 1) := by decide +kernel
theorem dX7_call_1 : decode cX7_call 1 = .ok (.getfield 298, 3) := by decide +kernel
theorem dX7_call_4 : decode cX7_call 4 = .ok (.aload_n 0, 1) := by decide +kernel
theorem dX7_call_5 : decode cX7_call 5 = .ok (.getfield 301, 3) := by decide +kernel
theorem dX7_call_8 : decode cX7_call 8 = .ok (.if_icmp .ne 10, 3) := by decide +kernel
theorem dX7_call_11 : decode cX7_call 11 = .ok (.aload_n 0, 1) := by decide +kernel
theorem dX7_call_12 : decode cX7_call 12 = .ok (.iconst 1, 1) := by decide +kernel
theorem dX7_call_13 : decode cX7_call 13 = .ok (.putfield 304, 3) := by decide +kernel
theorem dX7_call_16 : decode cX7_call 16 = .ok (.iconst (-1), 1) := by decide +kernel
theorem dX7_call_17 : decode cX7_call 17 = .ok (.ireturn, 1) := by decide +kernel
theorem dX7_call_18 : decode cX7_call 18 = .ok (.aload_n 0, 1) := by decide +kernel
theorem dX7_call_19 : decode cX7_call 19 = .ok (.getfield 298, 3) := by decide +kernel
theorem dX7_call_22 : decode cX7_call 22 = .ok (.istore_n 2, 1) := by decide +kernel
theorem dX7_call_23 : decode cX7_call 23 = .ok (.aload_n 0, 1) := by decide +kernel
theorem dX7_call_24 : decode cX7_call 24 = .ok (.dup, 1) := by decide +kernel
theorem dX7_call_25 : decode cX7_call 25 = .ok (.getfield 298, 3) := by decide +kernel
theorem dX7_call_28 : decode cX7_call 28 = .ok (.iconst 1, 1) := by decide +kernel
theorem dX7_call_29 : decode cX7_call 29 = .ok (.iadd, 1) := by decide +kernel
theorem dX7_call_30 : decode cX7_call 30 = .ok (.putfield 298, 3) := by decide +kernel
theorem dX7_call_33 : decode cX7_call 33 = .ok (.aload_n 0, 1) := by decide +kernel
theorem dX7_call_34 : decode cX7_call 34 = .ok (.getfield 78, 3) := by decide +kernel
theorem dX7_call_37 : decode cX7_call 37 = .ok (.iload_n 2, 1) := by decide +kernel
theorem dX7_call_38 : decode cX7_call 38 = .ok (.iload_n 1, 1) := by decide +kernel
theorem dX7_call_39 : decode cX7_call 39 = .ok (.iastore, 1) := by decide +kernel
theorem dX7_call_40 : decode cX7_call 40 = .ok (.iconst 0, 1) := by decide +kernel
theorem dX7_call_41 : decode cX7_call 41 = .ok (.istore_n 3, 1) := by decide +kernel
theorem dX7_call_42 : decode cX7_call 42 = .ok (.iload_n 3, 1) := by decide +kernel
theorem dX7_call_43 : decode cX7_call 43 = .ok (.bipush 6, 2) := by decide +kernel
theorem dX7_call_45 : decode cX7_call 45 = .ok (.if_icmp .ge 18, 3) := by decide +kernel
theorem dX7_call_48 : decode cX7_call 48 = .ok (.aload_n 0, 1) := by decide +kernel
theorem dX7_call_49 : decode cX7_call 49 = .ok (.iload_n 2, 1) := by decide +kernel
theorem dX7_call_50 : decode cX7_call 50 = .ok (.iload_n 3, 1) := by decide +kernel
theorem dX7_call_51 : decode cX7_call 51 = .ok (.iconst (-1), 1) := by decide +kernel
theorem dX7_call_52 : decode cX7_call 52 = .ok (.iconst 0, 1) := by decide +kernel
theorem dX7_call_53 : decode cX7_call 53 = .ok (.iconst (-1), 1) := by decide +kernel
theorem dX7_call_54 : decode cX7_call 54 = .ok (.invokevirtual 307, 3) := by decide +kernel
theorem dX7_call_57 : decode cX7_call 57 = .ok (.iinc 3 1, 3) := by decide +kernel
theorem dX7_call_60 : decode cX7_call 60 = .ok (.goto (-18), 3) := by decide +kernel
theorem dX7_call_63 : decode cX7_call 63 = .ok (.bipush 60, 2) := by decide +kernel
theorem dX7_call_65 : decode cX7_call 65 = .ok (.iload_n 2, 1) := by decide +kernel
theorem dX7_call_66 : decode cX7_call 66 = .ok (.imul, 1) := by decide +kernel
theorem dX7_call_67 : decode cX7_call 67 = .ok (.istore_n 3, 1) := by decide +kernel
theorem dX7_call_68 : decode cX7_call 68 = .ok (.iload_n 3, 1) := by decide +kernel
theorem dX7_call_69 : decode cX7_call 69 = .ok (.bipush 60, 2) := by decide +kernel
theorem dX7_call_71 : decode cX7_call 71 = .ok (.iload_n 2, 1) := by decide +kernel
theorem dX7_call_72 : decode cX7_call 72 = .ok (.imul, 1) := by decide +kernel
theorem dX7_call_73 : decode cX7_call 73 = .ok (.bipush 60, 2) := by decide +kernel
theorem dX7_call_75 : decode cX7_call 75 = .ok (.iadd, 1) := by decide +kernel
theorem dX7_call_76 : decode cX7_call 76 = .ok (.if_icmp .ge 37, 3) := by decide +kernel
theorem dX7_call_79 : decode cX7_call 79 = .ok (.aload_n 0, 1) := by decide +kernel
theorem dX7_call_80 : decode cX7_call 80 = .ok (.getfield 90, 3) := by decide +kernel
theorem dX7_call_83 : decode cX7_call 83 = .ok (.iload_n 3, 1) := by decide +kernel
theorem dX7_call_84 : decode cX7_call 84 = .ok (.iconst 0, 1) := by decide +kernel
theorem dX7_call_85 : decode cX7_call 85 = .ok (.bastore, 1) := by decide +kernel
theorem dX7_call_86 : decode cX7_call 86 = .ok (.aload_n 0, 1) := by decide +kernel
theorem dX7_call_87 : decode cX7_call 87 = .ok (.getfield 94, 3) := by decide +kernel
theorem dX7_call_90 : decode cX7_call 90 = .ok (.iload_n 3, 1) := by decide +kernel
theorem dX7_call_91 : decode cX7_call 91 = .ok (.iconst 0, 1) := by decide +kernel
theorem dX7_call_92 : decode cX7_call 92 = .ok (.bastore, 1) := by decide +kernel
theorem dX7_call_93 : decode cX7_call 93 = .ok (.aload_n 0, 1) := by decide +kernel
theorem dX7_call_94 : decode cX7_call 94 = .ok (.getfield 103, 3) := by decide +kernel
theorem dX7_call_97 : decode cX7_call 97 = .ok (.iload_n 3, 1) := by decide +kernel
theorem dX7_call_98 : decode cX7_call 98 = .ok (.iconst (-1), 1) := by decide +kernel
theorem dX7_call_99 : decode cX7_call 99 = .ok (.iastore, 1) := by decide +kernel
theorem dX7_call_100 : decode cX7_call 100 = .ok (.aload_n 0, 1) := by decide +kernel
theorem dX7_call_101 : decode cX7_call 101 = .ok (.getfield 106, 3) := by decide +kernel
theorem dX7_call_104 : decode cX7_call 104 = .ok (.iload_n 3, 1) := by decide +kernel
theorem dX7_call_105 : decode cX7_call 105 = .ok (.iconst 0, 1) := by decide +kernel
theorem dX7_call_106 : decode cX7_call 106 = .ok (.iastore, 1) := by decide +kernel
theorem dX7_call_107 : decode cX7_call 107 = .ok (.iinc 3 1, 3) := by decide +kernel
theorem dX7_call_110 : decode cX7_call 110 = .ok (.goto (-42), 3) := by decide +kernel
theorem dX7_call_113 : decode cX7_call 113 = .ok (.aload_n 0, 1) := by decide +kernel
theorem dX7_call_114 : decode cX7_call 114 = .ok (.aload_n 0, 1) := by decide +kernel
theorem dX7_call_115 : decode cX7_call 115 = .ok (.iload_n 2, 1) := by decide +kernel
theorem dX7_call_116 : decode cX7_call 116 = .ok (.invokevirtual 311, 3) := by decide +kernel
theorem dX7_call_119 : decode cX7_call 119 = .ok (.invokevirtual 314, 3) := by decide +kernel
theorem dX7_call_122 : decode cX7_call 122 = .ok (.iload_n 2, 1) := by decide +kernel
theorem dX7_call_123 : decode cX7_call 123 = .ok (.ireturn, 1) := by decide +kernel
theorem dX7_argument_0 : decode cX7_argument 0 = .ok (.iload_n 2, 1) := by decide +kernel
theorem dX7_argument_1 : decode cX7_argument 1 = .ok (.bipush 6, 2) := by decide +kernel
theorem dX7_argument_3 : decode cX7_argument 3 = .ok (.if_icmp .ge 41, 3) := by decide +kernel
theorem dX7_argument_6 : decode cX7_argument 6 = .ok (.aload_n 0, 1) := by decide +kernel
theorem dX7_argument_7 : decode cX7_argument 7 = .ok (.getfield 81, 3) := by decide +kernel
theorem dX7_argument_10 : decode cX7_argument 10 = .ok (.bipush 6, 2) := by decide +kernel
theorem dX7_argument_12 : decode cX7_argument 12 = .ok (.iload_n 1, 1) := by decide +kernel
theorem dX7_argument_13 : decode cX7_argument 13 = .ok (.imul, 1) := by decide +kernel
theorem dX7_argument_14 : decode cX7_argument 14 = .ok (.iload_n 2, 1) := by decide +kernel
theorem dX7_argument_15 : decode cX7_argument 15 = .ok (.iadd, 1) := by decide +kernel
theorem dX7_argument_16 : decode cX7_argument 16 = .ok (.iload_n 3, 1) := by decide +kernel
theorem dX7_argument_17 : decode cX7_argument 17 = .ok (.iastore, 1) := by decide +kernel
theorem dX7_argument_18 : decode cX7_argument 18 = .ok (.aload_n 0, 1) := by decide +kernel
theorem dX7_argument_19 : decode cX7_argument 19 = .ok (.getfield 84, 3) := by decide +kernel
theorem dX7_argument_22 : decode cX7_argument 22 = .ok (.bipush 6, 2) := by decide +kernel
theorem dX7_argument_24 : decode cX7_argument 24 = .ok (.iload_n 1, 1) := by decide +kernel
theorem dX7_argument_25 : decode cX7_argument 25 = .ok (.imul, 1) := by decide +kernel
theorem dX7_argument_26 : decode cX7_argument 26 = .ok (.iload_n 2, 1) := by decide +kernel
theorem dX7_argument_27 : decode cX7_argument 27 = .ok (.iadd, 1) := by decide +kernel
theorem dX7_argument_28 : decode cX7_argument 28 = .ok (.iload 4, 2) := by decide +kernel
theorem dX7_argument_30 : decode cX7_argument 30 = .ok (.iastore, 1) := by decide +kernel
theorem dX7_argument_31 : decode cX7_argument 31 = .ok (.aload_n 0, 1) := by decide +kernel
theorem dX7_argument_32 : decode cX7_argument 32 = .ok (.getfield 87, 3) := by decide +kernel
theorem dX7_argument_35 : decode cX7_argument 35 = .ok (.bipush 6, 2) := by decide +kernel
theorem dX7_argument_37 : decode cX7_argument 37 = .ok (.iload_n 1, 1) := by decide +kernel
theorem dX7_argument_38 : decode cX7_argument 38 = .ok (.imul, 1) := by decide +kernel
theorem dX7_argument_39 : decode cX7_argument 39 = .ok (.iload_n 2, 1) := by decide +kernel
theorem dX7_argument_40 : decode cX7_argument 40 = .ok (.iadd, 1) := by decide +kernel
theorem dX7_argument_41 : decode cX7_argument 41 = .ok (.iload 5, 2) := by decide +kernel
theorem dX7_argument_43 : decode cX7_argument 43 = .ok (.iastore, 1) := by decide +kernel
theorem dX7_argument_44 : decode cX7_argument 44 = .ok (.return_, 1) := by decide +kernel
theorem dX7_hand_0 : decode cX7_hand 0 = .ok (.iload_n 3, 1) := by decide +kernel
theorem dX7_hand_1 : decode cX7_hand 1 = .ok (.istore 4, 2) := by decide +kernel
theorem dX7_hand_3 : decode cX7_hand 3 = .ok (.aload_n 0, 1) := by decide +kernel
theorem dX7_hand_4 : decode cX7_hand 4 = .ok (.getfield 38, 3) := by decide +kernel
theorem dX7_hand_7 : decode cX7_hand 7 = .ok (.aload_n 0, 1) := by decide +kernel
theorem dX7_hand_8 : decode cX7_hand 8 = .ok (.iload_n 1, 1) := by decide +kernel
theorem dX7_hand_9 : decode cX7_hand 9 = .ok (.invokevirtual 317, 3) := by decide +kernel
theorem dX7_hand_12 : decode cX7_hand 12 = .ok (.iaload, 1) := by decide +kernel
theorem dX7_hand_13 : decode cX7_hand 13 = .ok (.istore 5, 2) := by decide +kernel
theorem dX7_hand_15 : decode cX7_hand 15 = .ok (.iload 5, 2) := by decide +kernel
theorem dX7_hand_17 : decode cX7_hand 17 = .ok (.iconst (-1), 1) := by decide +kernel
theorem dX7_hand_18 : decode cX7_hand 18 = .ok (.if_icmp .eq 34, 3) := by decide +kernel
theorem dX7_hand_21 : decode cX7_hand 21 = .ok (.aload_n 0, 1) := by decide +kernel
theorem dX7_hand_22 : decode cX7_hand 22 = .ok (.iload_n 2, 1) := by decide +kernel
theorem dX7_hand_23 : decode cX7_hand 23 = .ok (.iload 4, 2) := by decide +kernel
theorem dX7_hand_25 : decode cX7_hand 25 = .ok (.aload_n 0, 1) := by decide +kernel
theorem dX7_hand_26 : decode cX7_hand 26 = .ok (.iload_n 1, 1) := by decide +kernel
theorem dX7_hand_27 : decode cX7_hand 27 = .ok (.iload 5, 2) := by decide +kernel
theorem dX7_hand_29 : decode cX7_hand 29 = .ok (.invokevirtual 320, 3) := by decide +kernel
theorem dX7_hand_32 : decode cX7_hand 32 = .ok (.iconst 0, 1) := by decide +kernel
theorem dX7_hand_33 : decode cX7_hand 33 = .ok (.iconst (-1), 1) := by decide +kernel
theorem dX7_hand_34 : decode cX7_hand 34 = .ok (.invokevirtual 307, 3) := by decide +kernel
theorem dX7_hand_37 : decode cX7_hand 37 = .ok (.iinc 4 1, 3) := by decide +kernel
theorem dX7_hand_40 : decode cX7_hand 40 = .ok (.aload_n 0, 1) := by decide +kernel
theorem dX7_hand_41 : decode cX7_hand 41 = .ok (.getfield 41, 3) := by decide +kernel
theorem dX7_hand_44 : decode cX7_hand 44 = .ok (.iload 5, 2) := by decide +kernel
theorem dX7_hand_46 : decode cX7_hand 46 = .ok (.iaload, 1) := by decide +kernel
theorem dX7_hand_47 : decode cX7_hand 47 = .ok (.istore 5, 2) := by decide +kernel
theorem dX7_hand_49 : decode cX7_hand 49 = .ok (.goto (-34), 3) := by decide +kernel
theorem dX7_hand_52 : decode cX7_hand 52 = .ok (.return_, 1) := by decide +kernel
theorem dX7_reachArguments_0 : decode cX7_reachArguments 0 = .ok (.aload_n 0, 1) := by decide +kernel
theorem dX7_reachArguments_1 : decode cX7_reachArguments 1 = .ok (.getfield 38, 3) := by decide +kernel
theorem dX7_reachArguments_4 : decode cX7_reachArguments 4 = .ok (.aload_n 0, 1) := by decide +kernel
theorem dX7_reachArguments_5 : decode cX7_reachArguments 5 = .ok (.iload_n 1, 1) := by decide +kernel
theorem dX7_reachArguments_6 : decode cX7_reachArguments 6 = .ok (.invokevirtual 317, 3) := by decide +kernel
theorem dX7_reachArguments_9 : decode cX7_reachArguments 9 = .ok (.iaload, 1) := by decide +kernel
theorem dX7_reachArguments_10 : decode cX7_reachArguments 10 = .ok (.istore_n 2, 1) := by decide +kernel
theorem dX7_reachArguments_11 : decode cX7_reachArguments 11 = .ok (.iload_n 2, 1) := by decide +kernel
theorem dX7_reachArguments_12 : decode cX7_reachArguments 12 = .ok (.iconst (-1), 1) := by decide +kernel
theorem dX7_reachArguments_13 : decode cX7_reachArguments 13 = .ok (.if_icmp .eq 23, 3) := by decide +kernel
theorem dX7_reachArguments_16 : decode cX7_reachArguments 16 = .ok (.aload_n 0, 1) := by decide +kernel
theorem dX7_reachArguments_17 : decode cX7_reachArguments 17 = .ok (.aload_n 0, 1) := by decide +kernel
theorem dX7_reachArguments_18 : decode cX7_reachArguments 18 = .ok (.iload_n 1, 1) := by decide +kernel
theorem dX7_reachArguments_19 : decode cX7_reachArguments 19 = .ok (.iload_n 2, 1) := by decide +kernel
theorem dX7_reachArguments_20 : decode cX7_reachArguments 20 = .ok (.invokevirtual 320, 3) := by decide +kernel
theorem dX7_reachArguments_23 : decode cX7_reachArguments 23 = .ok (.invokevirtual 314, 3) := by decide +kernel
theorem dX7_reachArguments_26 : decode cX7_reachArguments 26 = .ok (.aload_n 0, 1) := by decide +kernel
theorem dX7_reachArguments_27 : decode cX7_reachArguments 27 = .ok (.getfield 41, 3) := by decide +kernel
theorem dX7_reachArguments_30 : decode cX7_reachArguments 30 = .ok (.iload_n 2, 1) := by decide +kernel
theorem dX7_reachArguments_31 : decode cX7_reachArguments 31 = .ok (.iaload, 1) := by decide +kernel
theorem dX7_reachArguments_32 : decode cX7_reachArguments 32 = .ok (.istore_n 2, 1) := by decide +kernel
theorem dX7_reachArguments_33 : decode cX7_reachArguments 33 = .ok (.goto (-22), 3) := by decide +kernel
theorem dX7_reachArguments_36 : decode cX7_reachArguments 36 = .ok (.return_, 1) := by decide +kernel
theorem dX7_operate_0 : decode cX7_operate 0 = .ok (.iload_n 0, 1) := by decide +kernel
theorem dX7_operate_1 : decode cX7_operate 1 = .ok (.tableswitch 173 37 61 #[139, 173, 173, 173, 173, 123, 115, 173, 119, 173, 127, 173, 173, 173, 173, 173, 173, 173, 173, 173, 173, 173, 173, 151, 162], 115) := by decide +kernel
theorem dX7_operate_116 : decode cX7_operate 116 = .ok (.iload_n 1, 1) := by decide +kernel
theorem dX7_operate_117 : decode cX7_operate 117 = .ok (.iload_n 2, 1) := by decide +kernel
theorem dX7_operate_118 : decode cX7_operate 118 = .ok (.iadd, 1) := by decide +kernel
theorem dX7_operate_119 : decode cX7_operate 119 = .ok (.ireturn, 1) := by decide +kernel
theorem dX7_operate_120 : decode cX7_operate 120 = .ok (.iload_n 1, 1) := by decide +kernel
theorem dX7_operate_121 : decode cX7_operate 121 = .ok (.iload_n 2, 1) := by decide +kernel
theorem dX7_operate_122 : decode cX7_operate 122 = .ok (.isub, 1) := by decide +kernel
theorem dX7_operate_123 : decode cX7_operate 123 = .ok (.ireturn, 1) := by decide +kernel
theorem dX7_operate_124 : decode cX7_operate 124 = .ok (.iload_n 1, 1) := by decide +kernel
theorem dX7_operate_125 : decode cX7_operate 125 = .ok (.iload_n 2, 1) := by decide +kernel
theorem dX7_operate_126 : decode cX7_operate 126 = .ok (.imul, 1) := by decide +kernel
theorem dX7_operate_127 : decode cX7_operate 127 = .ok (.ireturn, 1) := by decide +kernel
theorem dX7_operate_128 : decode cX7_operate 128 = .ok (.iload_n 2, 1) := by decide +kernel
theorem dX7_operate_129 : decode cX7_operate 129 = .ok (.ifCond .ne 7, 3) := by decide +kernel
theorem dX7_operate_132 : decode cX7_operate 132 = .ok (.iconst 0, 1) := by decide +kernel
theorem dX7_operate_133 : decode cX7_operate 133 = .ok (.goto 6, 3) := by decide +kernel
theorem dX7_operate_136 : decode cX7_operate 136 = .ok (.iload_n 1, 1) := by decide +kernel
theorem dX7_operate_137 : decode cX7_operate 137 = .ok (.iload_n 2, 1) := by decide +kernel
theorem dX7_operate_138 : decode cX7_operate 138 = .ok (.idiv, 1) := by decide +kernel
theorem dX7_operate_139 : decode cX7_operate 139 = .ok (.ireturn, 1) := by decide +kernel
theorem dX7_operate_140 : decode cX7_operate 140 = .ok (.iload_n 2, 1) := by decide +kernel
theorem dX7_operate_141 : decode cX7_operate 141 = .ok (.ifCond .ne 7, 3) := by decide +kernel
theorem dX7_operate_144 : decode cX7_operate 144 = .ok (.iconst 0, 1) := by decide +kernel
theorem dX7_operate_145 : decode cX7_operate 145 = .ok (.goto 6, 3) := by decide +kernel
theorem dX7_operate_148 : decode cX7_operate 148 = .ok (.iload_n 1, 1) := by decide +kernel
theorem dX7_operate_149 : decode cX7_operate 149 = .ok (.iload_n 2, 1) := by decide +kernel
theorem dX7_operate_150 : decode cX7_operate 150 = .ok (.irem, 1) := by decide +kernel
theorem dX7_operate_151 : decode cX7_operate 151 = .ok (.ireturn, 1) := by decide +kernel
theorem dX7_operate_152 : decode cX7_operate 152 = .ok (.iload_n 1, 1) := by decide +kernel
theorem dX7_operate_153 : decode cX7_operate 153 = .ok (.iload_n 2, 1) := by decide +kernel
theorem dX7_operate_154 : decode cX7_operate 154 = .ok (.if_icmp .ge 7, 3) := by decide +kernel
theorem dX7_operate_157 : decode cX7_operate 157 = .ok (.iconst 1, 1) := by decide +kernel
theorem dX7_operate_158 : decode cX7_operate 158 = .ok (.goto 4, 3) := by decide +kernel
theorem dX7_operate_161 : decode cX7_operate 161 = .ok (.iconst 0, 1) := by decide +kernel
theorem dX7_operate_162 : decode cX7_operate 162 = .ok (.ireturn, 1) := by decide +kernel
theorem dX7_operate_163 : decode cX7_operate 163 = .ok (.iload_n 1, 1) := by decide +kernel
theorem dX7_operate_164 : decode cX7_operate 164 = .ok (.iload_n 2, 1) := by decide +kernel
theorem dX7_operate_165 : decode cX7_operate 165 = .ok (.if_icmp .ne 7, 3) := by decide +kernel
theorem dX7_operate_168 : decode cX7_operate 168 = .ok (.iconst 1, 1) := by decide +kernel
theorem dX7_operate_169 : decode cX7_operate 169 = .ok (.goto 4, 3) := by decide +kernel
theorem dX7_operate_172 : decode cX7_operate 172 = .ok (.iconst 0, 1) := by decide +kernel
theorem dX7_operate_173 : decode cX7_operate 173 = .ok (.ireturn, 1) := by decide +kernel
theorem dX7_operate_174 : decode cX7_operate 174 = .ok (.iload_n 1, 1) := by decide +kernel
theorem dX7_operate_175 : decode cX7_operate 175 = .ok (.iload_n 2, 1) := by decide +kernel
theorem dX7_operate_176 : decode cX7_operate 176 = .ok (.if_icmp .le 7, 3) := by decide +kernel
theorem dX7_operate_179 : decode cX7_operate 179 = .ok (.iconst 1, 1) := by decide +kernel
theorem dX7_operate_180 : decode cX7_operate 180 = .ok (.goto 4, 3) := by decide +kernel
theorem dX7_operate_183 : decode cX7_operate 183 = .ok (.iconst 0, 1) := by decide +kernel
theorem dX7_operate_184 : decode cX7_operate 184 = .ok (.ireturn, 1) := by decide +kernel
theorem dX7_workCall_0 : decode cX7_workCall 0 = .ok (.aload_n 0, 1) := by decide +kernel
theorem dX7_workCall_1 : decode cX7_workCall 1 = .ok (.iload_n 1, 1) := by decide +kernel
theorem dX7_workCall_2 : decode cX7_workCall 2 = .ok (.invokevirtual 323, 3) := by decide +kernel
theorem dX7_workCall_5 : decode cX7_workCall 5 = .ok (.aload_n 0, 1) := by decide +kernel
theorem dX7_workCall_6 : decode cX7_workCall 6 = .ok (.getfield 103, 3) := by decide +kernel
theorem dX7_workCall_9 : decode cX7_workCall 9 = .ok (.iload_n 1, 1) := by decide +kernel
theorem dX7_workCall_10 : decode cX7_workCall 10 = .ok (.iaload, 1) := by decide +kernel
theorem dX7_workCall_11 : decode cX7_workCall 11 = .ok (.iconst (-1), 1) := by decide +kernel
theorem dX7_workCall_12 : decode cX7_workCall 12 = .ok (.if_icmp .ne 34, 3) := by decide +kernel
theorem dX7_workCall_15 : decode cX7_workCall 15 = .ok (.aload_n 0, 1) := by decide +kernel
theorem dX7_workCall_16 : decode cX7_workCall 16 = .ok (.aload_n 0, 1) := by decide +kernel
theorem dX7_workCall_17 : decode cX7_workCall 17 = .ok (.getfield 50, 3) := by decide +kernel
theorem dX7_workCall_20 : decode cX7_workCall 20 = .ok (.iload_n 2, 1) := by decide +kernel
theorem dX7_workCall_21 : decode cX7_workCall 21 = .ok (.iaload, 1) := by decide +kernel
theorem dX7_workCall_22 : decode cX7_workCall 22 = .ok (.invokevirtual 326, 3) := by decide +kernel
theorem dX7_workCall_25 : decode cX7_workCall 25 = .ok (.istore_n 3, 1) := by decide +kernel
theorem dX7_workCall_26 : decode cX7_workCall 26 = .ok (.iload_n 3, 1) := by decide +kernel
theorem dX7_workCall_27 : decode cX7_workCall 27 = .ok (.iconst (-1), 1) := by decide +kernel
theorem dX7_workCall_28 : decode cX7_workCall 28 = .ok (.if_icmp .ne 4, 3) := by decide +kernel
theorem dX7_workCall_31 : decode cX7_workCall 31 = .ok (.return_, 1) := by decide +kernel
theorem dX7_workCall_32 : decode cX7_workCall 32 = .ok (.aload_n 0, 1) := by decide +kernel
theorem dX7_workCall_33 : decode cX7_workCall 33 = .ok (.getfield 103, 3) := by decide +kernel
theorem dX7_workCall_36 : decode cX7_workCall 36 = .ok (.iload_n 1, 1) := by decide +kernel
theorem dX7_workCall_37 : decode cX7_workCall 37 = .ok (.iload_n 3, 1) := by decide +kernel
theorem dX7_workCall_38 : decode cX7_workCall 38 = .ok (.iastore, 1) := by decide +kernel
theorem dX7_workCall_39 : decode cX7_workCall 39 = .ok (.aload_n 0, 1) := by decide +kernel
theorem dX7_workCall_40 : decode cX7_workCall 40 = .ok (.iload_n 1, 1) := by decide +kernel
theorem dX7_workCall_41 : decode cX7_workCall 41 = .ok (.iload_n 3, 1) := by decide +kernel
theorem dX7_workCall_42 : decode cX7_workCall 42 = .ok (.iconst 0, 1) := by decide +kernel
theorem dX7_workCall_43 : decode cX7_workCall 43 = .ok (.invokevirtual 329, 3) := by decide +kernel
theorem dX7_workCall_46 : decode cX7_workCall 46 = .ok (.aload_n 0, 1) := by decide +kernel
theorem dX7_workCall_47 : decode cX7_workCall 47 = .ok (.iload_n 1, 1) := by decide +kernel
theorem dX7_workCall_48 : decode cX7_workCall 48 = .ok (.aload_n 0, 1) := by decide +kernel
theorem dX7_workCall_49 : decode cX7_workCall 49 = .ok (.aload_n 0, 1) := by decide +kernel
theorem dX7_workCall_50 : decode cX7_workCall 50 = .ok (.getfield 103, 3) := by decide +kernel
theorem dX7_workCall_53 : decode cX7_workCall 53 = .ok (.iload_n 1, 1) := by decide +kernel
theorem dX7_workCall_54 : decode cX7_workCall 54 = .ok (.iaload, 1) := by decide +kernel
theorem dX7_workCall_55 : decode cX7_workCall 55 = .ok (.invokevirtual 311, 3) := by decide +kernel
theorem dX7_workCall_58 : decode cX7_workCall 58 = .ok (.invokevirtual 332, 3) := by decide +kernel
theorem dX7_workCall_61 : decode cX7_workCall 61 = .ok (.return_, 1) := by decide +kernel
theorem dX7_workMake_0 : decode cX7_workMake 0 = .ok (.aload_n 0, 1) := by decide +kernel
theorem dX7_workMake_1 : decode cX7_workMake 1 = .ok (.iload_n 1, 1) := by decide +kernel
theorem dX7_workMake_2 : decode cX7_workMake 2 = .ok (.invokevirtual 323, 3) := by decide +kernel
theorem dX7_workMake_5 : decode cX7_workMake 5 = .ok (.aload_n 0, 1) := by decide +kernel
theorem dX7_workMake_6 : decode cX7_workMake 6 = .ok (.iload_n 1, 1) := by decide +kernel
theorem dX7_workMake_7 : decode cX7_workMake 7 = .ok (.aload_n 0, 1) := by decide +kernel
theorem dX7_workMake_8 : decode cX7_workMake 8 = .ok (.getfield 29, 3) := by decide +kernel
theorem dX7_workMake_11 : decode cX7_workMake 11 = .ok (.iload_n 2, 1) := by decide +kernel
theorem dX7_workMake_12 : decode cX7_workMake 12 = .ok (.iaload, 1) := by decide +kernel
theorem dX7_workMake_13 : decode cX7_workMake 13 = .ok (.invokevirtual 320, 3) := by decide +kernel
theorem dX7_workMake_16 : decode cX7_workMake 16 = .ok (.istore_n 3, 1) := by decide +kernel
theorem dX7_workMake_17 : decode cX7_workMake 17 = .ok (.aload_n 0, 1) := by decide +kernel
theorem dX7_workMake_18 : decode cX7_workMake 18 = .ok (.iload_n 3, 1) := by decide +kernel
theorem dX7_workMake_19 : decode cX7_workMake 19 = .ok (.invokevirtual 314, 3) := by decide +kernel
theorem dX7_workMake_22 : decode cX7_workMake 22 = .ok (.aload_n 0, 1) := by decide +kernel
theorem dX7_workMake_23 : decode cX7_workMake 23 = .ok (.getfield 94, 3) := by decide +kernel
theorem dX7_workMake_26 : decode cX7_workMake 26 = .ok (.iload_n 3, 1) := by decide +kernel
theorem dX7_workMake_27 : decode cX7_workMake 27 = .ok (.baload, 1) := by decide +kernel
theorem dX7_workMake_28 : decode cX7_workMake 28 = .ok (.ifCond .ne 4, 3) := by decide +kernel
theorem dX7_workMake_31 : decode cX7_workMake 31 = .ok (.return_, 1) := by decide +kernel
theorem dX7_workMake_32 : decode cX7_workMake 32 = .ok (.aload_n 0, 1) := by decide +kernel
theorem dX7_workMake_33 : decode cX7_workMake 33 = .ok (.iload_n 3, 1) := by decide +kernel
theorem dX7_workMake_34 : decode cX7_workMake 34 = .ok (.invokevirtual 335, 3) := by decide +kernel
theorem dX7_workMake_37 : decode cX7_workMake 37 = .ok (.istore 4, 2) := by decide +kernel
theorem dX7_workMake_39 : decode cX7_workMake 39 = .ok (.aload_n 0, 1) := by decide +kernel
theorem dX7_workMake_40 : decode cX7_workMake 40 = .ok (.getfield 106, 3) := by decide +kernel
theorem dX7_workMake_43 : decode cX7_workMake 43 = .ok (.iload_n 1, 1) := by decide +kernel
theorem dX7_workMake_44 : decode cX7_workMake 44 = .ok (.iload 4, 2) := by decide +kernel
theorem dX7_workMake_46 : decode cX7_workMake 46 = .ok (.ifCond .ge 7, 3) := by decide +kernel
theorem dX7_workMake_49 : decode cX7_workMake 49 = .ok (.iconst 0, 1) := by decide +kernel
theorem dX7_workMake_50 : decode cX7_workMake 50 = .ok (.goto 17, 3) := by decide +kernel
theorem dX7_workMake_53 : decode cX7_workMake 53 = .ok (.iload 4, 2) := by decide +kernel
theorem dX7_workMake_55 : decode cX7_workMake 55 = .ok (.bipush 40, 2) := by decide +kernel
theorem dX7_workMake_57 : decode cX7_workMake 57 = .ok (.if_icmp .le 8, 3) := by decide +kernel
theorem dX7_workMake_60 : decode cX7_workMake 60 = .ok (.bipush 40, 2) := by decide +kernel
theorem dX7_workMake_62 : decode cX7_workMake 62 = .ok (.goto 5, 3) := by decide +kernel
theorem dX7_workMake_65 : decode cX7_workMake 65 = .ok (.iload 4, 2) := by decide +kernel
theorem dX7_workMake_67 : decode cX7_workMake 67 = .ok (.iastore, 1) := by decide +kernel
theorem dX7_workMake_68 : decode cX7_workMake 68 = .ok (.aload_n 0, 1) := by decide +kernel
theorem dX7_workMake_69 : decode cX7_workMake 69 = .ok (.getfield 103, 3) := by decide +kernel
theorem dX7_workMake_72 : decode cX7_workMake 72 = .ok (.iload_n 1, 1) := by decide +kernel
theorem dX7_workMake_73 : decode cX7_workMake 73 = .ok (.aload_n 0, 1) := by decide +kernel
theorem dX7_workMake_74 : decode cX7_workMake 74 = .ok (.getfield 298, 3) := by decide +kernel
theorem dX7_workMake_77 : decode cX7_workMake 77 = .ok (.iastore, 1) := by decide +kernel
theorem dX7_workMake_78 : decode cX7_workMake 78 = .ok (.iconst 0, 1) := by decide +kernel
theorem dX7_workMake_79 : decode cX7_workMake 79 = .ok (.istore 5, 2) := by decide +kernel
theorem dX7_workMake_81 : decode cX7_workMake 81 = .ok (.iload 5, 2) := by decide +kernel
theorem dX7_workMake_83 : decode cX7_workMake 83 = .ok (.aload_n 0, 1) := by decide +kernel
theorem dX7_workMake_84 : decode cX7_workMake 84 = .ok (.getfield 106, 3) := by decide +kernel
theorem dX7_workMake_87 : decode cX7_workMake 87 = .ok (.iload_n 1, 1) := by decide +kernel
theorem dX7_workMake_88 : decode cX7_workMake 88 = .ok (.iaload, 1) := by decide +kernel
theorem dX7_workMake_89 : decode cX7_workMake 89 = .ok (.if_icmp .ge 63, 3) := by decide +kernel
theorem dX7_workMake_92 : decode cX7_workMake 92 = .ok (.aload_n 0, 1) := by decide +kernel
theorem dX7_workMake_93 : decode cX7_workMake 93 = .ok (.getfield 304, 3) := by decide +kernel
theorem dX7_workMake_96 : decode cX7_workMake 96 = .ok (.ifCond .ne 56, 3) := by decide +kernel
theorem dX7_workMake_99 : decode cX7_workMake 99 = .ok (.aload_n 0, 1) := by decide +kernel
theorem dX7_workMake_100 : decode cX7_workMake 100 = .ok (.aload_n 0, 1) := by decide +kernel
theorem dX7_workMake_101 : decode cX7_workMake 101 = .ok (.getfield 50, 3) := by decide +kernel
theorem dX7_workMake_104 : decode cX7_workMake 104 = .ok (.iload_n 2, 1) := by decide +kernel
theorem dX7_workMake_105 : decode cX7_workMake 105 = .ok (.iaload, 1) := by decide +kernel
theorem dX7_workMake_106 : decode cX7_workMake 106 = .ok (.invokevirtual 326, 3) := by decide +kernel
theorem dX7_workMake_109 : decode cX7_workMake 109 = .ok (.istore 6, 2) := by decide +kernel
theorem dX7_workMake_111 : decode cX7_workMake 111 = .ok (.iload 6, 2) := by decide +kernel
theorem dX7_workMake_113 : decode cX7_workMake 113 = .ok (.iconst (-1), 1) := by decide +kernel
theorem dX7_workMake_114 : decode cX7_workMake 114 = .ok (.if_icmp .eq 32, 3) := by decide +kernel
theorem dX7_workMake_117 : decode cX7_workMake 117 = .ok (.aload_n 0, 1) := by decide +kernel
theorem dX7_workMake_118 : decode cX7_workMake 118 = .ok (.iload 6, 2) := by decide +kernel
theorem dX7_workMake_120 : decode cX7_workMake 120 = .ok (.iconst 0, 1) := by decide +kernel
theorem dX7_workMake_121 : decode cX7_workMake 121 = .ok (.iconst (-1), 1) := by decide +kernel
theorem dX7_workMake_122 : decode cX7_workMake 122 = .ok (.iload 5, 2) := by decide +kernel
theorem dX7_workMake_124 : decode cX7_workMake 124 = .ok (.iconst (-1), 1) := by decide +kernel
theorem dX7_workMake_125 : decode cX7_workMake 125 = .ok (.invokevirtual 307, 3) := by decide +kernel
theorem dX7_workMake_128 : decode cX7_workMake 128 = .ok (.aload_n 0, 1) := by decide +kernel
theorem dX7_workMake_129 : decode cX7_workMake 129 = .ok (.iload 6, 2) := by decide +kernel
theorem dX7_workMake_131 : decode cX7_workMake 131 = .ok (.iconst 1, 1) := by decide +kernel
theorem dX7_workMake_132 : decode cX7_workMake 132 = .ok (.iconst (-1), 1) := by decide +kernel
theorem dX7_workMake_133 : decode cX7_workMake 133 = .ok (.iconst 0, 1) := by decide +kernel
theorem dX7_workMake_134 : decode cX7_workMake 134 = .ok (.iload_n 1, 1) := by decide +kernel
theorem dX7_workMake_135 : decode cX7_workMake 135 = .ok (.invokevirtual 307, 3) := by decide +kernel
theorem dX7_workMake_138 : decode cX7_workMake 138 = .ok (.aload_n 0, 1) := by decide +kernel
theorem dX7_workMake_139 : decode cX7_workMake 139 = .ok (.iload_n 1, 1) := by decide +kernel
theorem dX7_workMake_140 : decode cX7_workMake 140 = .ok (.iload 6, 2) := by decide +kernel
theorem dX7_workMake_142 : decode cX7_workMake 142 = .ok (.iconst 2, 1) := by decide +kernel
theorem dX7_workMake_143 : decode cX7_workMake 143 = .ok (.invokevirtual 329, 3) := by decide +kernel
theorem dX7_workMake_146 : decode cX7_workMake 146 = .ok (.iinc 5 1, 3) := by decide +kernel
theorem dX7_workMake_149 : decode cX7_workMake 149 = .ok (.goto (-68), 3) := by decide +kernel
theorem dX7_workMake_152 : decode cX7_workMake 152 = .ok (.aload_n 0, 1) := by decide +kernel
theorem dX7_workMake_153 : decode cX7_workMake 153 = .ok (.iload_n 1, 1) := by decide +kernel
theorem dX7_workMake_154 : decode cX7_workMake 154 = .ok (.iconst 0, 1) := by decide +kernel
theorem dX7_workMake_155 : decode cX7_workMake 155 = .ok (.iload_n 1, 1) := by decide +kernel
theorem dX7_workMake_156 : decode cX7_workMake 156 = .ok (.invokevirtual 294, 3) := by decide +kernel
theorem dX7_workMake_159 : decode cX7_workMake 159 = .ok (.return_, 1) := by decide +kernel
theorem dX7_workFetch_0 : decode cX7_workFetch 0 = .ok (.aload_n 0, 1) := by decide +kernel
theorem dX7_workFetch_1 : decode cX7_workFetch 1 = .ok (.iload_n 1, 1) := by decide +kernel
theorem dX7_workFetch_2 : decode cX7_workFetch 2 = .ok (.aload_n 0, 1) := by decide +kernel
theorem dX7_workFetch_3 : decode cX7_workFetch 3 = .ok (.getfield 29, 3) := by decide +kernel
theorem dX7_workFetch_6 : decode cX7_workFetch 6 = .ok (.iload_n 2, 1) := by decide +kernel
theorem dX7_workFetch_7 : decode cX7_workFetch 7 = .ok (.iaload, 1) := by decide +kernel
theorem dX7_workFetch_8 : decode cX7_workFetch 8 = .ok (.invokevirtual 320, 3) := by decide +kernel
theorem dX7_workFetch_11 : decode cX7_workFetch 11 = .ok (.istore_n 3, 1) := by decide +kernel
theorem dX7_workFetch_12 : decode cX7_workFetch 12 = .ok (.aload_n 0, 1) := by decide +kernel
theorem dX7_workFetch_13 : decode cX7_workFetch 13 = .ok (.iload_n 1, 1) := by decide +kernel
theorem dX7_workFetch_14 : decode cX7_workFetch 14 = .ok (.aload_n 0, 1) := by decide +kernel
theorem dX7_workFetch_15 : decode cX7_workFetch 15 = .ok (.getfield 32, 3) := by decide +kernel
theorem dX7_workFetch_18 : decode cX7_workFetch 18 = .ok (.iload_n 2, 1) := by decide +kernel
theorem dX7_workFetch_19 : decode cX7_workFetch 19 = .ok (.iaload, 1) := by decide +kernel
theorem dX7_workFetch_20 : decode cX7_workFetch 20 = .ok (.invokevirtual 320, 3) := by decide +kernel
theorem dX7_workFetch_23 : decode cX7_workFetch 23 = .ok (.istore 4, 2) := by decide +kernel
theorem dX7_workFetch_25 : decode cX7_workFetch 25 = .ok (.aload_n 0, 1) := by decide +kernel
theorem dX7_workFetch_26 : decode cX7_workFetch 26 = .ok (.iload_n 3, 1) := by decide +kernel
theorem dX7_workFetch_27 : decode cX7_workFetch 27 = .ok (.invokevirtual 314, 3) := by decide +kernel
theorem dX7_workFetch_30 : decode cX7_workFetch 30 = .ok (.aload_n 0, 1) := by decide +kernel
theorem dX7_workFetch_31 : decode cX7_workFetch 31 = .ok (.iload 4, 2) := by decide +kernel
theorem dX7_workFetch_33 : decode cX7_workFetch 33 = .ok (.invokevirtual 314, 3) := by decide +kernel
theorem dX7_workFetch_36 : decode cX7_workFetch 36 = .ok (.aload_n 0, 1) := by decide +kernel
theorem dX7_workFetch_37 : decode cX7_workFetch 37 = .ok (.getfield 94, 3) := by decide +kernel
theorem dX7_workFetch_40 : decode cX7_workFetch 40 = .ok (.iload_n 3, 1) := by decide +kernel
theorem dX7_workFetch_41 : decode cX7_workFetch 41 = .ok (.baload, 1) := by decide +kernel
theorem dX7_workFetch_42 : decode cX7_workFetch 42 = .ok (.ifCond .eq 13, 3) := by decide +kernel
theorem dX7_workFetch_45 : decode cX7_workFetch 45 = .ok (.aload_n 0, 1) := by decide +kernel
theorem dX7_workFetch_46 : decode cX7_workFetch 46 = .ok (.getfield 94, 3) := by decide +kernel
theorem dX7_workFetch_49 : decode cX7_workFetch 49 = .ok (.iload 4, 2) := by decide +kernel
theorem dX7_workFetch_51 : decode cX7_workFetch 51 = .ok (.baload, 1) := by decide +kernel
theorem dX7_workFetch_52 : decode cX7_workFetch 52 = .ok (.ifCond .ne 4, 3) := by decide +kernel
theorem dX7_workFetch_55 : decode cX7_workFetch 55 = .ok (.return_, 1) := by decide +kernel
theorem dX7_workFetch_56 : decode cX7_workFetch 56 = .ok (.aload_n 0, 1) := by decide +kernel
theorem dX7_workFetch_57 : decode cX7_workFetch 57 = .ok (.iload 4, 2) := by decide +kernel
theorem dX7_workFetch_59 : decode cX7_workFetch 59 = .ok (.invokevirtual 335, 3) := by decide +kernel
theorem dX7_workFetch_62 : decode cX7_workFetch 62 = .ok (.istore 5, 2) := by decide +kernel
theorem dX7_workFetch_64 : decode cX7_workFetch 64 = .ok (.aload_n 0, 1) := by decide +kernel
theorem dX7_workFetch_65 : decode cX7_workFetch 65 = .ok (.getfield 100, 3) := by decide +kernel
theorem dX7_workFetch_68 : decode cX7_workFetch 68 = .ok (.iload_n 3, 1) := by decide +kernel
theorem dX7_workFetch_69 : decode cX7_workFetch 69 = .ok (.iaload, 1) := by decide +kernel
theorem dX7_workFetch_70 : decode cX7_workFetch 70 = .ok (.iconst (-1), 1) := by decide +kernel
theorem dX7_workFetch_71 : decode cX7_workFetch 71 = .ok (.if_icmp .eq 24, 3) := by decide +kernel
theorem dX7_workFetch_74 : decode cX7_workFetch 74 = .ok (.iload 5, 2) := by decide +kernel
theorem dX7_workFetch_76 : decode cX7_workFetch 76 = .ok (.ifCond .lt 19, 3) := by decide +kernel
theorem dX7_workFetch_79 : decode cX7_workFetch 79 = .ok (.iload 5, 2) := by decide +kernel
theorem dX7_workFetch_81 : decode cX7_workFetch 81 = .ok (.aload_n 0, 1) := by decide +kernel
theorem dX7_workFetch_82 : decode cX7_workFetch 82 = .ok (.getfield 106, 3) := by decide +kernel
theorem dX7_workFetch_85 : decode cX7_workFetch 85 = .ok (.aload_n 0, 1) := by decide +kernel
theorem dX7_workFetch_86 : decode cX7_workFetch 86 = .ok (.getfield 100, 3) := by decide +kernel
theorem dX7_workFetch_89 : decode cX7_workFetch 89 = .ok (.iload_n 3, 1) := by decide +kernel
theorem dX7_workFetch_90 : decode cX7_workFetch 90 = .ok (.iaload, 1) := by decide +kernel
theorem dX7_workFetch_91 : decode cX7_workFetch 91 = .ok (.iaload, 1) := by decide +kernel
theorem dX7_workFetch_92 : decode cX7_workFetch 92 = .ok (.if_icmp .lt 13, 3) := by decide +kernel
theorem dX7_workFetch_95 : decode cX7_workFetch 95 = .ok (.aload_n 0, 1) := by decide +kernel
theorem dX7_workFetch_96 : decode cX7_workFetch 96 = .ok (.iload_n 1, 1) := by decide +kernel
theorem dX7_workFetch_97 : decode cX7_workFetch 97 = .ok (.iconst 0, 1) := by decide +kernel
theorem dX7_workFetch_98 : decode cX7_workFetch 98 = .ok (.iconst (-1), 1) := by decide +kernel
theorem dX7_workFetch_99 : decode cX7_workFetch 99 = .ok (.invokevirtual 294, 3) := by decide +kernel
theorem dX7_workFetch_102 : decode cX7_workFetch 102 = .ok (.goto 26, 3) := by decide +kernel
theorem dX7_workFetch_105 : decode cX7_workFetch 105 = .ok (.aload_n 0, 1) := by decide +kernel
theorem dX7_workFetch_106 : decode cX7_workFetch 106 = .ok (.iload_n 1, 1) := by decide +kernel
theorem dX7_workFetch_107 : decode cX7_workFetch 107 = .ok (.aload_n 0, 1) := by decide +kernel
theorem dX7_workFetch_108 : decode cX7_workFetch 108 = .ok (.aload_n 0, 1) := by decide +kernel
theorem dX7_workFetch_109 : decode cX7_workFetch 109 = .ok (.getfield 103, 3) := by decide +kernel
theorem dX7_workFetch_112 : decode cX7_workFetch 112 = .ok (.aload_n 0, 1) := by decide +kernel
theorem dX7_workFetch_113 : decode cX7_workFetch 113 = .ok (.getfield 100, 3) := by decide +kernel
theorem dX7_workFetch_116 : decode cX7_workFetch 116 = .ok (.iload_n 3, 1) := by decide +kernel
theorem dX7_workFetch_117 : decode cX7_workFetch 117 = .ok (.iaload, 1) := by decide +kernel
theorem dX7_workFetch_118 : decode cX7_workFetch 118 = .ok (.iaload, 1) := by decide +kernel
theorem dX7_workFetch_119 : decode cX7_workFetch 119 = .ok (.iload 5, 2) := by decide +kernel
theorem dX7_workFetch_121 : decode cX7_workFetch 121 = .ok (.iadd, 1) := by decide +kernel
theorem dX7_workFetch_122 : decode cX7_workFetch 122 = .ok (.invokevirtual 311, 3) := by decide +kernel
theorem dX7_workFetch_125 : decode cX7_workFetch 125 = .ok (.invokevirtual 332, 3) := by decide +kernel
theorem dX7_workFetch_128 : decode cX7_workFetch 128 = .ok (.return_, 1) := by decide +kernel
theorem dX7_workIf_0 : decode cX7_workIf 0 = .ok (.aload_n 0, 1) := by decide +kernel
theorem dX7_workIf_1 : decode cX7_workIf 1 = .ok (.iload_n 1, 1) := by decide +kernel
theorem dX7_workIf_2 : decode cX7_workIf 2 = .ok (.aload_n 0, 1) := by decide +kernel
theorem dX7_workIf_3 : decode cX7_workIf 3 = .ok (.getfield 29, 3) := by decide +kernel
theorem dX7_workIf_6 : decode cX7_workIf 6 = .ok (.iload_n 2, 1) := by decide +kernel
theorem dX7_workIf_7 : decode cX7_workIf 7 = .ok (.iaload, 1) := by decide +kernel
theorem dX7_workIf_8 : decode cX7_workIf 8 = .ok (.invokevirtual 320, 3) := by decide +kernel
theorem dX7_workIf_11 : decode cX7_workIf 11 = .ok (.istore_n 3, 1) := by decide +kernel
theorem dX7_workIf_12 : decode cX7_workIf 12 = .ok (.aload_n 0, 1) := by decide +kernel
theorem dX7_workIf_13 : decode cX7_workIf 13 = .ok (.iload_n 3, 1) := by decide +kernel
theorem dX7_workIf_14 : decode cX7_workIf 14 = .ok (.invokevirtual 314, 3) := by decide +kernel
theorem dX7_workIf_17 : decode cX7_workIf 17 = .ok (.aload_n 0, 1) := by decide +kernel
theorem dX7_workIf_18 : decode cX7_workIf 18 = .ok (.getfield 94, 3) := by decide +kernel
theorem dX7_workIf_21 : decode cX7_workIf 21 = .ok (.iload_n 3, 1) := by decide +kernel
theorem dX7_workIf_22 : decode cX7_workIf 22 = .ok (.baload, 1) := by decide +kernel
theorem dX7_workIf_23 : decode cX7_workIf 23 = .ok (.ifCond .eq 46, 3) := by decide +kernel
theorem dX7_workIf_26 : decode cX7_workIf 26 = .ok (.aload_n 0, 1) := by decide +kernel
theorem dX7_workIf_27 : decode cX7_workIf 27 = .ok (.iload_n 1, 1) := by decide +kernel
theorem dX7_workIf_28 : decode cX7_workIf 28 = .ok (.aload_n 0, 1) := by decide +kernel
theorem dX7_workIf_29 : decode cX7_workIf 29 = .ok (.iload_n 3, 1) := by decide +kernel
theorem dX7_workIf_30 : decode cX7_workIf 30 = .ok (.invokevirtual 335, 3) := by decide +kernel
theorem dX7_workIf_33 : decode cX7_workIf 33 = .ok (.ifCond .eq 12, 3) := by decide +kernel
theorem dX7_workIf_36 : decode cX7_workIf 36 = .ok (.aload_n 0, 1) := by decide +kernel
theorem dX7_workIf_37 : decode cX7_workIf 37 = .ok (.getfield 32, 3) := by decide +kernel
theorem dX7_workIf_40 : decode cX7_workIf 40 = .ok (.iload_n 2, 1) := by decide +kernel
theorem dX7_workIf_41 : decode cX7_workIf 41 = .ok (.iaload, 1) := by decide +kernel
theorem dX7_workIf_42 : decode cX7_workIf 42 = .ok (.goto 9, 3) := by decide +kernel
theorem dX7_workIf_45 : decode cX7_workIf 45 = .ok (.aload_n 0, 1) := by decide +kernel
theorem dX7_workIf_46 : decode cX7_workIf 46 = .ok (.getfield 35, 3) := by decide +kernel
theorem dX7_workIf_49 : decode cX7_workIf 49 = .ok (.iload_n 2, 1) := by decide +kernel
theorem dX7_workIf_50 : decode cX7_workIf 50 = .ok (.iaload, 1) := by decide +kernel
theorem dX7_workIf_51 : decode cX7_workIf 51 = .ok (.invokevirtual 320, 3) := by decide +kernel
theorem dX7_workIf_54 : decode cX7_workIf 54 = .ok (.istore 4, 2) := by decide +kernel
theorem dX7_workIf_56 : decode cX7_workIf 56 = .ok (.aload_n 0, 1) := by decide +kernel
theorem dX7_workIf_57 : decode cX7_workIf 57 = .ok (.iload 4, 2) := by decide +kernel
theorem dX7_workIf_59 : decode cX7_workIf 59 = .ok (.invokevirtual 314, 3) := by decide +kernel
theorem dX7_workIf_62 : decode cX7_workIf 62 = .ok (.aload_n 0, 1) := by decide +kernel
theorem dX7_workIf_63 : decode cX7_workIf 63 = .ok (.iload_n 1, 1) := by decide +kernel
theorem dX7_workIf_64 : decode cX7_workIf 64 = .ok (.iload 4, 2) := by decide +kernel
theorem dX7_workIf_66 : decode cX7_workIf 66 = .ok (.invokevirtual 332, 3) := by decide +kernel
theorem dX7_workIf_69 : decode cX7_workIf 69 = .ok (.return_, 1) := by decide +kernel
theorem dX7_workArgument_0 : decode cX7_workArgument 0 = .ok (.bipush 6, 2) := by decide +kernel
theorem dX7_workArgument_2 : decode cX7_workArgument 2 = .ok (.iload_n 1, 1) := by decide +kernel
theorem dX7_workArgument_3 : decode cX7_workArgument 3 = .ok (.bipush 60, 2) := by decide +kernel
theorem dX7_workArgument_5 : decode cX7_workArgument 5 = .ok (.idiv, 1) := by decide +kernel
theorem dX7_workArgument_6 : decode cX7_workArgument 6 = .ok (.imul, 1) := by decide +kernel
theorem dX7_workArgument_7 : decode cX7_workArgument 7 = .ok (.aload_n 0, 1) := by decide +kernel
theorem dX7_workArgument_8 : decode cX7_workArgument 8 = .ok (.getfield 26, 3) := by decide +kernel
theorem dX7_workArgument_11 : decode cX7_workArgument 11 = .ok (.iload_n 2, 1) := by decide +kernel
theorem dX7_workArgument_12 : decode cX7_workArgument 12 = .ok (.iaload, 1) := by decide +kernel
theorem dX7_workArgument_13 : decode cX7_workArgument 13 = .ok (.iadd, 1) := by decide +kernel
theorem dX7_workArgument_14 : decode cX7_workArgument 14 = .ok (.istore_n 3, 1) := by decide +kernel
theorem dX7_workArgument_15 : decode cX7_workArgument 15 = .ok (.aload_n 0, 1) := by decide +kernel
theorem dX7_workArgument_16 : decode cX7_workArgument 16 = .ok (.getfield 81, 3) := by decide +kernel
theorem dX7_workArgument_19 : decode cX7_workArgument 19 = .ok (.iload_n 3, 1) := by decide +kernel
theorem dX7_workArgument_20 : decode cX7_workArgument 20 = .ok (.iaload, 1) := by decide +kernel
theorem dX7_workArgument_21 : decode cX7_workArgument 21 = .ok (.iconst (-1), 1) := by decide +kernel
theorem dX7_workArgument_22 : decode cX7_workArgument 22 = .ok (.if_icmp .ne 23, 3) := by decide +kernel
theorem dX7_workArgument_25 : decode cX7_workArgument 25 = .ok (.aload_n 0, 1) := by decide +kernel
theorem dX7_workArgument_26 : decode cX7_workArgument 26 = .ok (.iload_n 1, 1) := by decide +kernel
theorem dX7_workArgument_27 : decode cX7_workArgument 27 = .ok (.aload_n 0, 1) := by decide +kernel
theorem dX7_workArgument_28 : decode cX7_workArgument 28 = .ok (.getfield 84, 3) := by decide +kernel
theorem dX7_workArgument_31 : decode cX7_workArgument 31 = .ok (.iload_n 3, 1) := by decide +kernel
theorem dX7_workArgument_32 : decode cX7_workArgument 32 = .ok (.iaload, 1) := by decide +kernel
theorem dX7_workArgument_33 : decode cX7_workArgument 33 = .ok (.aload_n 0, 1) := by decide +kernel
theorem dX7_workArgument_34 : decode cX7_workArgument 34 = .ok (.getfield 87, 3) := by decide +kernel
theorem dX7_workArgument_37 : decode cX7_workArgument 37 = .ok (.iload_n 3, 1) := by decide +kernel
theorem dX7_workArgument_38 : decode cX7_workArgument 38 = .ok (.iaload, 1) := by decide +kernel
theorem dX7_workArgument_39 : decode cX7_workArgument 39 = .ok (.invokevirtual 294, 3) := by decide +kernel
theorem dX7_workArgument_42 : decode cX7_workArgument 42 = .ok (.goto 14, 3) := by decide +kernel
theorem dX7_workArgument_45 : decode cX7_workArgument 45 = .ok (.aload_n 0, 1) := by decide +kernel
theorem dX7_workArgument_46 : decode cX7_workArgument 46 = .ok (.iload_n 1, 1) := by decide +kernel
theorem dX7_workArgument_47 : decode cX7_workArgument 47 = .ok (.aload_n 0, 1) := by decide +kernel
theorem dX7_workArgument_48 : decode cX7_workArgument 48 = .ok (.getfield 81, 3) := by decide +kernel
theorem dX7_workArgument_51 : decode cX7_workArgument 51 = .ok (.iload_n 3, 1) := by decide +kernel
theorem dX7_workArgument_52 : decode cX7_workArgument 52 = .ok (.iaload, 1) := by decide +kernel
theorem dX7_workArgument_53 : decode cX7_workArgument 53 = .ok (.invokevirtual 332, 3) := by decide +kernel
theorem dX7_workArgument_56 : decode cX7_workArgument 56 = .ok (.return_, 1) := by decide +kernel
theorem dX7_work_0 : decode cX7_work 0 = .ok (.aload_n 0, 1) := by decide +kernel
theorem dX7_work_1 : decode cX7_work 1 = .ok (.iload_n 1, 1) := by decide +kernel
theorem dX7_work_2 : decode cX7_work 2 = .ok (.invokevirtual 317, 3) := by decide +kernel
theorem dX7_work_5 : decode cX7_work 5 = .ok (.istore_n 2, 1) := by decide +kernel
theorem dX7_work_6 : decode cX7_work 6 = .ok (.aload_n 0, 1) := by decide +kernel
theorem dX7_work_7 : decode cX7_work 7 = .ok (.getfield 23, 3) := by decide +kernel
theorem dX7_work_10 : decode cX7_work 10 = .ok (.iload_n 2, 1) := by decide +kernel
theorem dX7_work_11 : decode cX7_work 11 = .ok (.iaload, 1) := by decide +kernel
theorem dX7_work_12 : decode cX7_work 12 = .ok (.istore_n 3, 1) := by decide +kernel
theorem dX7_work_13 : decode cX7_work 13 = .ok (.iload_n 3, 1) := by decide +kernel
theorem dX7_work_14 : decode cX7_work 14 = .ok (.iconst 1, 1) := by decide +kernel
theorem dX7_work_15 : decode cX7_work 15 = .ok (.if_icmp .ne 18, 3) := by decide +kernel
theorem dX7_work_18 : decode cX7_work 18 = .ok (.aload_n 0, 1) := by decide +kernel
theorem dX7_work_19 : decode cX7_work 19 = .ok (.iload_n 1, 1) := by decide +kernel
theorem dX7_work_20 : decode cX7_work 20 = .ok (.aload_n 0, 1) := by decide +kernel
theorem dX7_work_21 : decode cX7_work 21 = .ok (.getfield 26, 3) := by decide +kernel
theorem dX7_work_24 : decode cX7_work 24 = .ok (.iload_n 2, 1) := by decide +kernel
theorem dX7_work_25 : decode cX7_work 25 = .ok (.iaload, 1) := by decide +kernel
theorem dX7_work_26 : decode cX7_work 26 = .ok (.iconst (-1), 1) := by decide +kernel
theorem dX7_work_27 : decode cX7_work 27 = .ok (.invokevirtual 294, 3) := by decide +kernel
theorem dX7_work_30 : decode cX7_work 30 = .ok (.goto 290, 3) := by decide +kernel
theorem dX7_work_33 : decode cX7_work 33 = .ok (.iload_n 3, 1) := by decide +kernel
theorem dX7_work_34 : decode cX7_work 34 = .ok (.iconst 2, 1) := by decide +kernel
theorem dX7_work_35 : decode cX7_work 35 = .ok (.if_icmp .ne 12, 3) := by decide +kernel
theorem dX7_work_38 : decode cX7_work 38 = .ok (.aload_n 0, 1) := by decide +kernel
theorem dX7_work_39 : decode cX7_work 39 = .ok (.iload_n 1, 1) := by decide +kernel
theorem dX7_work_40 : decode cX7_work 40 = .ok (.iload_n 2, 1) := by decide +kernel
theorem dX7_work_41 : decode cX7_work 41 = .ok (.invokevirtual 338, 3) := by decide +kernel
theorem dX7_work_44 : decode cX7_work 44 = .ok (.goto 276, 3) := by decide +kernel
theorem dX7_work_47 : decode cX7_work 47 = .ok (.iload_n 3, 1) := by decide +kernel
theorem dX7_work_48 : decode cX7_work 48 = .ok (.iconst 3, 1) := by decide +kernel
theorem dX7_work_49 : decode cX7_work 49 = .ok (.if_icmp .ne 22, 3) := by decide +kernel
theorem dX7_work_52 : decode cX7_work 52 = .ok (.aload_n 0, 1) := by decide +kernel
theorem dX7_work_53 : decode cX7_work 53 = .ok (.iload_n 1, 1) := by decide +kernel
theorem dX7_work_54 : decode cX7_work 54 = .ok (.aload_n 0, 1) := by decide +kernel
theorem dX7_work_55 : decode cX7_work 55 = .ok (.iload_n 1, 1) := by decide +kernel
theorem dX7_work_56 : decode cX7_work 56 = .ok (.aload_n 0, 1) := by decide +kernel
theorem dX7_work_57 : decode cX7_work 57 = .ok (.getfield 29, 3) := by decide +kernel
theorem dX7_work_60 : decode cX7_work 60 = .ok (.iload_n 2, 1) := by decide +kernel
theorem dX7_work_61 : decode cX7_work 61 = .ok (.iaload, 1) := by decide +kernel
theorem dX7_work_62 : decode cX7_work 62 = .ok (.invokevirtual 320, 3) := by decide +kernel
theorem dX7_work_65 : decode cX7_work 65 = .ok (.invokevirtual 332, 3) := by decide +kernel
theorem dX7_work_68 : decode cX7_work 68 = .ok (.goto 252, 3) := by decide +kernel
theorem dX7_work_71 : decode cX7_work 71 = .ok (.iload_n 3, 1) := by decide +kernel
theorem dX7_work_72 : decode cX7_work 72 = .ok (.iconst 4, 1) := by decide +kernel
theorem dX7_work_73 : decode cX7_work 73 = .ok (.if_icmp .ne 48, 3) := by decide +kernel
theorem dX7_work_76 : decode cX7_work 76 = .ok (.aload_n 0, 1) := by decide +kernel
theorem dX7_work_77 : decode cX7_work 77 = .ok (.iload_n 1, 1) := by decide +kernel
theorem dX7_work_78 : decode cX7_work 78 = .ok (.aload_n 0, 1) := by decide +kernel
theorem dX7_work_79 : decode cX7_work 79 = .ok (.getfield 29, 3) := by decide +kernel
theorem dX7_work_82 : decode cX7_work 82 = .ok (.iload_n 2, 1) := by decide +kernel
theorem dX7_work_83 : decode cX7_work 83 = .ok (.iaload, 1) := by decide +kernel
theorem dX7_work_84 : decode cX7_work 84 = .ok (.invokevirtual 320, 3) := by decide +kernel
theorem dX7_work_87 : decode cX7_work 87 = .ok (.istore 4, 2) := by decide +kernel
theorem dX7_work_89 : decode cX7_work 89 = .ok (.aload_n 0, 1) := by decide +kernel
theorem dX7_work_90 : decode cX7_work 90 = .ok (.iload 4, 2) := by decide +kernel
theorem dX7_work_92 : decode cX7_work 92 = .ok (.invokevirtual 314, 3) := by decide +kernel
theorem dX7_work_95 : decode cX7_work 95 = .ok (.aload_n 0, 1) := by decide +kernel
theorem dX7_work_96 : decode cX7_work 96 = .ok (.getfield 94, 3) := by decide +kernel
theorem dX7_work_99 : decode cX7_work 99 = .ok (.iload 4, 2) := by decide +kernel
theorem dX7_work_101 : decode cX7_work 101 = .ok (.baload, 1) := by decide +kernel
theorem dX7_work_102 : decode cX7_work 102 = .ok (.ifCond .eq 16, 3) := by decide +kernel
theorem dX7_work_105 : decode cX7_work 105 = .ok (.aload_n 0, 1) := by decide +kernel
theorem dX7_work_106 : decode cX7_work 106 = .ok (.iload_n 1, 1) := by decide +kernel
theorem dX7_work_107 : decode cX7_work 107 = .ok (.aload_n 0, 1) := by decide +kernel
theorem dX7_work_108 : decode cX7_work 108 = .ok (.iload 4, 2) := by decide +kernel
theorem dX7_work_110 : decode cX7_work 110 = .ok (.invokevirtual 335, 3) := by decide +kernel
theorem dX7_work_113 : decode cX7_work 113 = .ok (.ineg, 1) := by decide +kernel
theorem dX7_work_114 : decode cX7_work 114 = .ok (.iconst (-1), 1) := by decide +kernel
theorem dX7_work_115 : decode cX7_work 115 = .ok (.invokevirtual 294, 3) := by decide +kernel
theorem dX7_work_118 : decode cX7_work 118 = .ok (.goto 202, 3) := by decide +kernel
theorem dX7_work_121 : decode cX7_work 121 = .ok (.iload_n 3, 1) := by decide +kernel
theorem dX7_work_122 : decode cX7_work 122 = .ok (.iconst 5, 1) := by decide +kernel
theorem dX7_work_123 : decode cX7_work 123 = .ok (.if_icmp .ne 91, 3) := by decide +kernel
theorem dX7_work_126 : decode cX7_work 126 = .ok (.aload_n 0, 1) := by decide +kernel
theorem dX7_work_127 : decode cX7_work 127 = .ok (.iload_n 1, 1) := by decide +kernel
theorem dX7_work_128 : decode cX7_work 128 = .ok (.aload_n 0, 1) := by decide +kernel
theorem dX7_work_129 : decode cX7_work 129 = .ok (.getfield 29, 3) := by decide +kernel
theorem dX7_work_132 : decode cX7_work 132 = .ok (.iload_n 2, 1) := by decide +kernel
theorem dX7_work_133 : decode cX7_work 133 = .ok (.iaload, 1) := by decide +kernel
theorem dX7_work_134 : decode cX7_work 134 = .ok (.invokevirtual 320, 3) := by decide +kernel
theorem dX7_work_137 : decode cX7_work 137 = .ok (.istore 4, 2) := by decide +kernel
theorem dX7_work_139 : decode cX7_work 139 = .ok (.aload_n 0, 1) := by decide +kernel
theorem dX7_work_140 : decode cX7_work 140 = .ok (.iload_n 1, 1) := by decide +kernel
theorem dX7_work_141 : decode cX7_work 141 = .ok (.aload_n 0, 1) := by decide +kernel
theorem dX7_work_142 : decode cX7_work 142 = .ok (.getfield 32, 3) := by decide +kernel
theorem dX7_work_145 : decode cX7_work 145 = .ok (.iload_n 2, 1) := by decide +kernel
theorem dX7_work_146 : decode cX7_work 146 = .ok (.iaload, 1) := by decide +kernel
theorem dX7_work_147 : decode cX7_work 147 = .ok (.invokevirtual 320, 3) := by decide +kernel
theorem dX7_work_150 : decode cX7_work 150 = .ok (.istore 5, 2) := by decide +kernel
theorem dX7_work_152 : decode cX7_work 152 = .ok (.aload_n 0, 1) := by decide +kernel
theorem dX7_work_153 : decode cX7_work 153 = .ok (.iload 4, 2) := by decide +kernel
theorem dX7_work_155 : decode cX7_work 155 = .ok (.invokevirtual 314, 3) := by decide +kernel
theorem dX7_work_158 : decode cX7_work 158 = .ok (.aload_n 0, 1) := by decide +kernel
theorem dX7_work_159 : decode cX7_work 159 = .ok (.iload 5, 2) := by decide +kernel
theorem dX7_work_161 : decode cX7_work 161 = .ok (.invokevirtual 314, 3) := by decide +kernel
theorem dX7_work_164 : decode cX7_work 164 = .ok (.aload_n 0, 1) := by decide +kernel
theorem dX7_work_165 : decode cX7_work 165 = .ok (.getfield 94, 3) := by decide +kernel
theorem dX7_work_168 : decode cX7_work 168 = .ok (.iload 4, 2) := by decide +kernel
theorem dX7_work_170 : decode cX7_work 170 = .ok (.baload, 1) := by decide +kernel
theorem dX7_work_171 : decode cX7_work 171 = .ok (.ifCond .eq 40, 3) := by decide +kernel
theorem dX7_work_174 : decode cX7_work 174 = .ok (.aload_n 0, 1) := by decide +kernel
theorem dX7_work_175 : decode cX7_work 175 = .ok (.getfield 94, 3) := by decide +kernel
theorem dX7_work_178 : decode cX7_work 178 = .ok (.iload 5, 2) := by decide +kernel
theorem dX7_work_180 : decode cX7_work 180 = .ok (.baload, 1) := by decide +kernel
theorem dX7_work_181 : decode cX7_work 181 = .ok (.ifCond .eq 30, 3) := by decide +kernel
theorem dX7_work_184 : decode cX7_work 184 = .ok (.aload_n 0, 1) := by decide +kernel
theorem dX7_work_185 : decode cX7_work 185 = .ok (.iload_n 1, 1) := by decide +kernel
theorem dX7_work_186 : decode cX7_work 186 = .ok (.aload_n 0, 1) := by decide +kernel
theorem dX7_work_187 : decode cX7_work 187 = .ok (.getfield 26, 3) := by decide +kernel
theorem dX7_work_190 : decode cX7_work 190 = .ok (.iload_n 2, 1) := by decide +kernel
theorem dX7_work_191 : decode cX7_work 191 = .ok (.iaload, 1) := by decide +kernel
theorem dX7_work_192 : decode cX7_work 192 = .ok (.aload_n 0, 1) := by decide +kernel
theorem dX7_work_193 : decode cX7_work 193 = .ok (.iload 4, 2) := by decide +kernel
theorem dX7_work_195 : decode cX7_work 195 = .ok (.invokevirtual 335, 3) := by decide +kernel
theorem dX7_work_198 : decode cX7_work 198 = .ok (.aload_n 0, 1) := by decide +kernel
theorem dX7_work_199 : decode cX7_work 199 = .ok (.iload 5, 2) := by decide +kernel
theorem dX7_work_201 : decode cX7_work 201 = .ok (.invokevirtual 335, 3) := by decide +kernel
theorem dX7_work_204 : decode cX7_work 204 = .ok (.invokestatic 341, 3) := by decide +kernel
theorem dX7_work_207 : decode cX7_work 207 = .ok (.iconst (-1), 1) := by decide +kernel
theorem dX7_work_208 : decode cX7_work 208 = .ok (.invokevirtual 294, 3) := by decide +kernel
theorem dX7_work_211 : decode cX7_work 211 = .ok (.goto 109, 3) := by decide +kernel
theorem dX7_work_214 : decode cX7_work 214 = .ok (.iload_n 3, 1) := by decide +kernel
theorem dX7_work_215 : decode cX7_work 215 = .ok (.bipush 7, 2) := by decide +kernel
theorem dX7_work_217 : decode cX7_work 217 = .ok (.if_icmp .ne 52, 3) := by decide +kernel
theorem dX7_work_220 : decode cX7_work 220 = .ok (.aload_n 0, 1) := by decide +kernel
theorem dX7_work_221 : decode cX7_work 221 = .ok (.aload_n 0, 1) := by decide +kernel
theorem dX7_work_222 : decode cX7_work 222 = .ok (.iload_n 1, 1) := by decide +kernel
theorem dX7_work_223 : decode cX7_work 223 = .ok (.aload_n 0, 1) := by decide +kernel
theorem dX7_work_224 : decode cX7_work 224 = .ok (.getfield 29, 3) := by decide +kernel
theorem dX7_work_227 : decode cX7_work 227 = .ok (.iload_n 2, 1) := by decide +kernel
theorem dX7_work_228 : decode cX7_work 228 = .ok (.iaload, 1) := by decide +kernel
theorem dX7_work_229 : decode cX7_work 229 = .ok (.invokevirtual 320, 3) := by decide +kernel
theorem dX7_work_232 : decode cX7_work 232 = .ok (.invokevirtual 314, 3) := by decide +kernel
theorem dX7_work_235 : decode cX7_work 235 = .ok (.aload_n 0, 1) := by decide +kernel
theorem dX7_work_236 : decode cX7_work 236 = .ok (.aload_n 0, 1) := by decide +kernel
theorem dX7_work_237 : decode cX7_work 237 = .ok (.iload_n 1, 1) := by decide +kernel
theorem dX7_work_238 : decode cX7_work 238 = .ok (.aload_n 0, 1) := by decide +kernel
theorem dX7_work_239 : decode cX7_work 239 = .ok (.getfield 32, 3) := by decide +kernel
theorem dX7_work_242 : decode cX7_work 242 = .ok (.iload_n 2, 1) := by decide +kernel
theorem dX7_work_243 : decode cX7_work 243 = .ok (.iaload, 1) := by decide +kernel
theorem dX7_work_244 : decode cX7_work 244 = .ok (.invokevirtual 320, 3) := by decide +kernel
theorem dX7_work_247 : decode cX7_work 247 = .ok (.invokevirtual 314, 3) := by decide +kernel
theorem dX7_work_250 : decode cX7_work 250 = .ok (.aload_n 0, 1) := by decide +kernel
theorem dX7_work_251 : decode cX7_work 251 = .ok (.iload_n 1, 1) := by decide +kernel
theorem dX7_work_252 : decode cX7_work 252 = .ok (.aload_n 0, 1) := by decide +kernel
theorem dX7_work_253 : decode cX7_work 253 = .ok (.iload_n 1, 1) := by decide +kernel
theorem dX7_work_254 : decode cX7_work 254 = .ok (.aload_n 0, 1) := by decide +kernel
theorem dX7_work_255 : decode cX7_work 255 = .ok (.getfield 32, 3) := by decide +kernel
theorem dX7_work_258 : decode cX7_work 258 = .ok (.iload_n 2, 1) := by decide +kernel
theorem dX7_work_259 : decode cX7_work 259 = .ok (.iaload, 1) := by decide +kernel
theorem dX7_work_260 : decode cX7_work 260 = .ok (.invokevirtual 320, 3) := by decide +kernel
theorem dX7_work_263 : decode cX7_work 263 = .ok (.invokevirtual 332, 3) := by decide +kernel
theorem dX7_work_266 : decode cX7_work 266 = .ok (.goto 54, 3) := by decide +kernel
theorem dX7_work_269 : decode cX7_work 269 = .ok (.iload_n 3, 1) := by decide +kernel
theorem dX7_work_270 : decode cX7_work 270 = .ok (.bipush 6, 2) := by decide +kernel
theorem dX7_work_272 : decode cX7_work 272 = .ok (.if_icmp .ne 12, 3) := by decide +kernel
theorem dX7_work_275 : decode cX7_work 275 = .ok (.aload_n 0, 1) := by decide +kernel
theorem dX7_work_276 : decode cX7_work 276 = .ok (.iload_n 1, 1) := by decide +kernel
theorem dX7_work_277 : decode cX7_work 277 = .ok (.iload_n 2, 1) := by decide +kernel
theorem dX7_work_278 : decode cX7_work 278 = .ok (.invokevirtual 345, 3) := by decide +kernel
theorem dX7_work_281 : decode cX7_work 281 = .ok (.goto 39, 3) := by decide +kernel
theorem dX7_work_284 : decode cX7_work 284 = .ok (.iload_n 3, 1) := by decide +kernel
theorem dX7_work_285 : decode cX7_work 285 = .ok (.bipush 8, 2) := by decide +kernel
theorem dX7_work_287 : decode cX7_work 287 = .ok (.if_icmp .ne 12, 3) := by decide +kernel
theorem dX7_work_290 : decode cX7_work 290 = .ok (.aload_n 0, 1) := by decide +kernel
theorem dX7_work_291 : decode cX7_work 291 = .ok (.iload_n 1, 1) := by decide +kernel
theorem dX7_work_292 : decode cX7_work 292 = .ok (.iload_n 2, 1) := by decide +kernel
theorem dX7_work_293 : decode cX7_work 293 = .ok (.invokevirtual 348, 3) := by decide +kernel
theorem dX7_work_296 : decode cX7_work 296 = .ok (.goto 24, 3) := by decide +kernel
theorem dX7_work_299 : decode cX7_work 299 = .ok (.iload_n 3, 1) := by decide +kernel
theorem dX7_work_300 : decode cX7_work 300 = .ok (.bipush 9, 2) := by decide +kernel
theorem dX7_work_302 : decode cX7_work 302 = .ok (.if_icmp .ne 12, 3) := by decide +kernel
theorem dX7_work_305 : decode cX7_work 305 = .ok (.aload_n 0, 1) := by decide +kernel
theorem dX7_work_306 : decode cX7_work 306 = .ok (.iload_n 1, 1) := by decide +kernel
theorem dX7_work_307 : decode cX7_work 307 = .ok (.iload_n 2, 1) := by decide +kernel
theorem dX7_work_308 : decode cX7_work 308 = .ok (.invokevirtual 351, 3) := by decide +kernel
theorem dX7_work_311 : decode cX7_work 311 = .ok (.goto 9, 3) := by decide +kernel
theorem dX7_work_314 : decode cX7_work 314 = .ok (.aload_n 0, 1) := by decide +kernel
theorem dX7_work_315 : decode cX7_work 315 = .ok (.iload_n 1, 1) := by decide +kernel
theorem dX7_work_316 : decode cX7_work 316 = .ok (.iload_n 2, 1) := by decide +kernel
theorem dX7_work_317 : decode cX7_work 317 = .ok (.invokevirtual 354, 3) := by decide +kernel
theorem dX7_work_320 : decode cX7_work 320 = .ok (.return_, 1) := by decide +kernel
theorem dX7_run_0 : decode cX7_run 0 = .ok (.aload_n 0, 1) := by decide +kernel
theorem dX7_run_1 : decode cX7_run 1 = .ok (.aload_n 0, 1) := by decide +kernel
theorem dX7_run_2 : decode cX7_run 2 = .ok (.getfield 288, 3) := by decide +kernel
theorem dX7_run_5 : decode cX7_run 5 = .ok (.ifCond .ne 7, 3) := by decide +kernel
theorem dX7_run_8 : decode cX7_run 8 = .ok (.iconst 1, 1) := by decide +kernel
theorem dX7_run_9 : decode cX7_run 9 = .ok (.goto 20, 3) := by decide +kernel
theorem dX7_run_12 : decode cX7_run 12 = .ok (.iload_n 3, 1) := by decide +kernel
theorem dX7_run_13 : decode cX7_run 13 = .ok (.iconst 1, 1) := by decide +kernel
theorem dX7_run_14 : decode cX7_run 14 = .ok (.if_icmp .lt 10, 3) := by decide +kernel
theorem dX7_run_17 : decode cX7_run 17 = .ok (.iload_n 3, 1) := by decide +kernel
theorem dX7_run_18 : decode cX7_run 18 = .ok (.sipush 300, 3) := by decide +kernel
theorem dX7_run_21 : decode cX7_run 21 = .ok (.if_icmp .le 7, 3) := by decide +kernel
theorem dX7_run_24 : decode cX7_run 24 = .ok (.iconst 2, 1) := by decide +kernel
theorem dX7_run_25 : decode cX7_run 25 = .ok (.goto 4, 3) := by decide +kernel
theorem dX7_run_28 : decode cX7_run 28 = .ok (.iconst 0, 1) := by decide +kernel
theorem dX7_run_29 : decode cX7_run 29 = .ok (.putfield 116, 3) := by decide +kernel
theorem dX7_run_32 : decode cX7_run 32 = .ok (.aload_n 0, 1) := by decide +kernel
theorem dX7_run_33 : decode cX7_run 33 = .ok (.getfield 116, 3) := by decide +kernel
theorem dX7_run_36 : decode cX7_run 36 = .ok (.ifCond .le 5, 3) := by decide +kernel
theorem dX7_run_39 : decode cX7_run 39 = .ok (.iconst 0, 1) := by decide +kernel
theorem dX7_run_40 : decode cX7_run 40 = .ok (.ireturn, 1) := by decide +kernel
theorem dX7_run_41 : decode cX7_run 41 = .ok (.aload_n 0, 1) := by decide +kernel
theorem dX7_run_42 : decode cX7_run 42 = .ok (.iconst 0, 1) := by decide +kernel
theorem dX7_run_43 : decode cX7_run 43 = .ok (.putfield 298, 3) := by decide +kernel
theorem dX7_run_46 : decode cX7_run 46 = .ok (.aload_n 0, 1) := by decide +kernel
theorem dX7_run_47 : decode cX7_run 47 = .ok (.iload_n 3, 1) := by decide +kernel
theorem dX7_run_48 : decode cX7_run 48 = .ok (.putfield 301, 3) := by decide +kernel
theorem dX7_run_51 : decode cX7_run 51 = .ok (.aload_n 0, 1) := by decide +kernel
theorem dX7_run_52 : decode cX7_run 52 = .ok (.iconst 0, 1) := by decide +kernel
theorem dX7_run_53 : decode cX7_run 53 = .ok (.putfield 304, 3) := by decide +kernel
theorem dX7_run_56 : decode cX7_run 56 = .ok (.aload_n 0, 1) := by decide +kernel
theorem dX7_run_57 : decode cX7_run 57 = .ok (.iconst 0, 1) := by decide +kernel
theorem dX7_run_58 : decode cX7_run 58 = .ok (.invokevirtual 326, 3) := by decide +kernel
theorem dX7_run_61 : decode cX7_run 61 = .ok (.pop, 1) := by decide +kernel
theorem dX7_run_62 : decode cX7_run 62 = .ok (.aload_n 0, 1) := by decide +kernel
theorem dX7_run_63 : decode cX7_run 63 = .ok (.iconst 0, 1) := by decide +kernel
theorem dX7_run_64 : decode cX7_run 64 = .ok (.iconst 0, 1) := by decide +kernel
theorem dX7_run_65 : decode cX7_run 65 = .ok (.iconst (-1), 1) := by decide +kernel
theorem dX7_run_66 : decode cX7_run 66 = .ok (.iload_n 1, 1) := by decide +kernel
theorem dX7_run_67 : decode cX7_run 67 = .ok (.iconst (-1), 1) := by decide +kernel
theorem dX7_run_68 : decode cX7_run 68 = .ok (.invokevirtual 307, 3) := by decide +kernel
theorem dX7_run_71 : decode cX7_run 71 = .ok (.aload_n 0, 1) := by decide +kernel
theorem dX7_run_72 : decode cX7_run 72 = .ok (.iconst 0, 1) := by decide +kernel
theorem dX7_run_73 : decode cX7_run 73 = .ok (.iconst 1, 1) := by decide +kernel
theorem dX7_run_74 : decode cX7_run 74 = .ok (.iconst (-1), 1) := by decide +kernel
theorem dX7_run_75 : decode cX7_run 75 = .ok (.iload_n 2, 1) := by decide +kernel
theorem dX7_run_76 : decode cX7_run 76 = .ok (.iconst (-1), 1) := by decide +kernel
theorem dX7_run_77 : decode cX7_run 77 = .ok (.invokevirtual 307, 3) := by decide +kernel
theorem dX7_run_80 : decode cX7_run 80 = .ok (.aload_n 0, 1) := by decide +kernel
theorem dX7_run_81 : decode cX7_run 81 = .ok (.iconst 1, 1) := by decide +kernel
theorem dX7_run_82 : decode cX7_run 82 = .ok (.putfield 291, 3) := by decide +kernel
theorem dX7_run_85 : decode cX7_run 85 = .ok (.aload_n 0, 1) := by decide +kernel
theorem dX7_run_86 : decode cX7_run 86 = .ok (.getfield 291, 3) := by decide +kernel
theorem dX7_run_89 : decode cX7_run 89 = .ok (.ifCond .eq 124, 3) := by decide +kernel
theorem dX7_run_92 : decode cX7_run 92 = .ok (.aload_n 0, 1) := by decide +kernel
theorem dX7_run_93 : decode cX7_run 93 = .ok (.getfield 304, 3) := by decide +kernel
theorem dX7_run_96 : decode cX7_run 96 = .ok (.ifCond .ne 117, 3) := by decide +kernel
theorem dX7_run_99 : decode cX7_run 99 = .ok (.aload_n 0, 1) := by decide +kernel
theorem dX7_run_100 : decode cX7_run 100 = .ok (.iconst 0, 1) := by decide +kernel
theorem dX7_run_101 : decode cX7_run 101 = .ok (.putfield 291, 3) := by decide +kernel
theorem dX7_run_104 : decode cX7_run 104 = .ok (.iconst 0, 1) := by decide +kernel
theorem dX7_run_105 : decode cX7_run 105 = .ok (.istore 5, 2) := by decide +kernel
theorem dX7_run_107 : decode cX7_run 107 = .ok (.iload 5, 2) := by decide +kernel
theorem dX7_run_109 : decode cX7_run 109 = .ok (.aload_n 0, 1) := by decide +kernel
theorem dX7_run_110 : decode cX7_run 110 = .ok (.getfield 298, 3) := by decide +kernel
theorem dX7_run_113 : decode cX7_run 113 = .ok (.if_icmp .ge 97, 3) := by decide +kernel
theorem dX7_run_116 : decode cX7_run 116 = .ok (.aload_n 0, 1) := by decide +kernel
theorem dX7_run_117 : decode cX7_run 117 = .ok (.getfield 304, 3) := by decide +kernel
theorem dX7_run_120 : decode cX7_run 120 = .ok (.ifCond .ne 90, 3) := by decide +kernel
theorem dX7_run_123 : decode cX7_run 123 = .ok (.aload_n 0, 1) := by decide +kernel
theorem dX7_run_124 : decode cX7_run 124 = .ok (.getfield 17, 3) := by decide +kernel
theorem dX7_run_127 : decode cX7_run 127 = .ok (.bipush 12, 2) := by decide +kernel
theorem dX7_run_129 : decode cX7_run 129 = .ok (.aload_n 0, 1) := by decide +kernel
theorem dX7_run_130 : decode cX7_run 130 = .ok (.getfield 182, 3) := by decide +kernel
theorem dX7_run_133 : decode cX7_run 133 = .ok (.imul, 1) := by decide +kernel
theorem dX7_run_134 : decode cX7_run 134 = .ok (.aload_n 0, 1) := by decide +kernel
theorem dX7_run_135 : decode cX7_run 135 = .ok (.getfield 78, 3) := by decide +kernel
theorem dX7_run_138 : decode cX7_run 138 = .ok (.iload 5, 2) := by decide +kernel
theorem dX7_run_140 : decode cX7_run 140 = .ok (.iaload, 1) := by decide +kernel
theorem dX7_run_141 : decode cX7_run 141 = .ok (.iadd, 1) := by decide +kernel
theorem dX7_run_142 : decode cX7_run 142 = .ok (.iaload, 1) := by decide +kernel
theorem dX7_run_143 : decode cX7_run 143 = .ok (.istore 6, 2) := by decide +kernel
theorem dX7_run_145 : decode cX7_run 145 = .ok (.bipush 60, 2) := by decide +kernel
theorem dX7_run_147 : decode cX7_run 147 = .ok (.iload 5, 2) := by decide +kernel
theorem dX7_run_149 : decode cX7_run 149 = .ok (.imul, 1) := by decide +kernel
theorem dX7_run_150 : decode cX7_run 150 = .ok (.istore 7, 2) := by decide +kernel
theorem dX7_run_152 : decode cX7_run 152 = .ok (.iload 7, 2) := by decide +kernel
theorem dX7_run_154 : decode cX7_run 154 = .ok (.bipush 60, 2) := by decide +kernel
theorem dX7_run_156 : decode cX7_run 156 = .ok (.iload 5, 2) := by decide +kernel
theorem dX7_run_158 : decode cX7_run 158 = .ok (.imul, 1) := by decide +kernel
theorem dX7_run_159 : decode cX7_run 159 = .ok (.iload 6, 2) := by decide +kernel
theorem dX7_run_161 : decode cX7_run 161 = .ok (.iadd, 1) := by decide +kernel
theorem dX7_run_162 : decode cX7_run 162 = .ok (.if_icmp .ge 42, 3) := by decide +kernel
theorem dX7_run_165 : decode cX7_run 165 = .ok (.aload_n 0, 1) := by decide +kernel
theorem dX7_run_166 : decode cX7_run 166 = .ok (.getfield 304, 3) := by decide +kernel
theorem dX7_run_169 : decode cX7_run 169 = .ok (.ifCond .ne 35, 3) := by decide +kernel
theorem dX7_run_172 : decode cX7_run 172 = .ok (.aload_n 0, 1) := by decide +kernel
theorem dX7_run_173 : decode cX7_run 173 = .ok (.getfield 90, 3) := by decide +kernel
theorem dX7_run_176 : decode cX7_run 176 = .ok (.iload 7, 2) := by decide +kernel
theorem dX7_run_178 : decode cX7_run 178 = .ok (.baload, 1) := by decide +kernel
theorem dX7_run_179 : decode cX7_run 179 = .ok (.ifCond .eq 19, 3) := by decide +kernel
theorem dX7_run_182 : decode cX7_run 182 = .ok (.aload_n 0, 1) := by decide +kernel
theorem dX7_run_183 : decode cX7_run 183 = .ok (.getfield 94, 3) := by decide +kernel
theorem dX7_run_186 : decode cX7_run 186 = .ok (.iload 7, 2) := by decide +kernel
theorem dX7_run_188 : decode cX7_run 188 = .ok (.baload, 1) := by decide +kernel
theorem dX7_run_189 : decode cX7_run 189 = .ok (.ifCond .ne 9, 3) := by decide +kernel
theorem dX7_run_192 : decode cX7_run 192 = .ok (.aload_n 0, 1) := by decide +kernel
theorem dX7_run_193 : decode cX7_run 193 = .ok (.iload 7, 2) := by decide +kernel
theorem dX7_run_195 : decode cX7_run 195 = .ok (.invokevirtual 357, 3) := by decide +kernel
theorem dX7_run_198 : decode cX7_run 198 = .ok (.iinc 7 1, 3) := by decide +kernel
theorem dX7_run_201 : decode cX7_run 201 = .ok (.goto (-49), 3) := by decide +kernel
theorem dX7_run_204 : decode cX7_run 204 = .ok (.iinc 5 1, 3) := by decide +kernel
theorem dX7_run_207 : decode cX7_run 207 = .ok (.goto (-100), 3) := by decide +kernel
theorem dX7_run_210 : decode cX7_run 210 = .ok (.goto (-125), 3) := by decide +kernel
theorem dX7_run_213 : decode cX7_run 213 = .ok (.aload_n 0, 1) := by decide +kernel
theorem dX7_run_214 : decode cX7_run 214 = .ok (.aload_n 0, 1) := by decide +kernel
theorem dX7_run_215 : decode cX7_run 215 = .ok (.getfield 304, 3) := by decide +kernel
theorem dX7_run_218 : decode cX7_run 218 = .ok (.ifCond .eq 7, 3) := by decide +kernel
theorem dX7_run_221 : decode cX7_run 221 = .ok (.iconst 2, 1) := by decide +kernel
theorem dX7_run_222 : decode cX7_run 222 = .ok (.goto 21, 3) := by decide +kernel
theorem dX7_run_225 : decode cX7_run 225 = .ok (.aload_n 0, 1) := by decide +kernel
theorem dX7_run_226 : decode cX7_run 226 = .ok (.getfield 94, 3) := by decide +kernel
theorem dX7_run_229 : decode cX7_run 229 = .ok (.aload_n 0, 1) := by decide +kernel
theorem dX7_run_230 : decode cX7_run 230 = .ok (.iconst 0, 1) := by decide +kernel
theorem dX7_run_231 : decode cX7_run 231 = .ok (.invokevirtual 311, 3) := by decide +kernel
theorem dX7_run_234 : decode cX7_run 234 = .ok (.baload, 1) := by decide +kernel
theorem dX7_run_235 : decode cX7_run 235 = .ok (.ifCond .eq 7, 3) := by decide +kernel
theorem dX7_run_238 : decode cX7_run 238 = .ok (.iconst 0, 1) := by decide +kernel
theorem dX7_run_239 : decode cX7_run 239 = .ok (.goto 4, 3) := by decide +kernel
theorem dX7_run_242 : decode cX7_run 242 = .ok (.iconst 1, 1) := by decide +kernel
theorem dX7_run_243 : decode cX7_run 243 = .ok (.putfield 109, 3) := by decide +kernel
theorem dX7_run_246 : decode cX7_run 246 = .ok (.aload_n 0, 1) := by decide +kernel
theorem dX7_run_247 : decode cX7_run 247 = .ok (.aload_n 0, 1) := by decide +kernel
theorem dX7_run_248 : decode cX7_run 248 = .ok (.getfield 109, 3) := by decide +kernel
theorem dX7_run_251 : decode cX7_run 251 = .ok (.ifCond .ne 15, 3) := by decide +kernel
theorem dX7_run_254 : decode cX7_run 254 = .ok (.aload_n 0, 1) := by decide +kernel
theorem dX7_run_255 : decode cX7_run 255 = .ok (.aload_n 0, 1) := by decide +kernel
theorem dX7_run_256 : decode cX7_run 256 = .ok (.iconst 0, 1) := by decide +kernel
theorem dX7_run_257 : decode cX7_run 257 = .ok (.invokevirtual 311, 3) := by decide +kernel
theorem dX7_run_260 : decode cX7_run 260 = .ok (.invokevirtual 335, 3) := by decide +kernel
theorem dX7_run_263 : decode cX7_run 263 = .ok (.goto 4, 3) := by decide +kernel
theorem dX7_run_266 : decode cX7_run 266 = .ok (.iconst 0, 1) := by decide +kernel
theorem dX7_run_267 : decode cX7_run 267 = .ok (.putfield 360, 3) := by decide +kernel
theorem dX7_run_270 : decode cX7_run 270 = .ok (.aload_n 0, 1) := by decide +kernel
theorem dX7_run_271 : decode cX7_run 271 = .ok (.invokevirtual 363, 3) := by decide +kernel
theorem dX7_run_274 : decode cX7_run 274 = .ok (.aload_n 0, 1) := by decide +kernel
theorem dX7_run_275 : decode cX7_run 275 = .ok (.getfield 109, 3) := by decide +kernel
theorem dX7_run_278 : decode cX7_run 278 = .ok (.ireturn, 1) := by decide +kernel
theorem dX7_tell_0 : decode cX7_tell 0 = .ok (.iconst 0, 1) := by decide +kernel
theorem dX7_tell_1 : decode cX7_tell 1 = .ok (.istore_n 1, 1) := by decide +kernel
theorem dX7_tell_2 : decode cX7_tell 2 = .ok (.iload_n 1, 1) := by decide +kernel
theorem dX7_tell_3 : decode cX7_tell 3 = .ok (.iconst 4, 1) := by decide +kernel
theorem dX7_tell_4 : decode cX7_tell 4 = .ok (.if_icmp .ge 16, 3) := by decide +kernel
theorem dX7_tell_7 : decode cX7_tell 7 = .ok (.aload_n 0, 1) := by decide +kernel
theorem dX7_tell_8 : decode cX7_tell 8 = .ok (.getfield 113, 3) := by decide +kernel
theorem dX7_tell_11 : decode cX7_tell 11 = .ok (.iload_n 1, 1) := by decide +kernel
theorem dX7_tell_12 : decode cX7_tell 12 = .ok (.iconst 0, 1) := by decide +kernel
theorem dX7_tell_13 : decode cX7_tell 13 = .ok (.iastore, 1) := by decide +kernel
theorem dX7_tell_14 : decode cX7_tell 14 = .ok (.iinc 1 1, 3) := by decide +kernel
theorem dX7_tell_17 : decode cX7_tell 17 = .ok (.goto (-15), 3) := by decide +kernel
theorem dX7_tell_20 : decode cX7_tell 20 = .ok (.aload_n 0, 1) := by decide +kernel
theorem dX7_tell_21 : decode cX7_tell 21 = .ok (.getfield 109, 3) := by decide +kernel
theorem dX7_tell_24 : decode cX7_tell 24 = .ok (.iconst 2, 1) := by decide +kernel
theorem dX7_tell_25 : decode cX7_tell 25 = .ok (.if_icmp .ne 4, 3) := by decide +kernel
theorem dX7_tell_28 : decode cX7_tell 28 = .ok (.return_, 1) := by decide +kernel
theorem dX7_tell_29 : decode cX7_tell 29 = .ok (.aload_n 0, 1) := by decide +kernel
theorem dX7_tell_30 : decode cX7_tell 30 = .ok (.getfield 113, 3) := by decide +kernel
theorem dX7_tell_33 : decode cX7_tell 33 = .ok (.iconst 0, 1) := by decide +kernel
theorem dX7_tell_34 : decode cX7_tell 34 = .ok (.aload_n 0, 1) := by decide +kernel
theorem dX7_tell_35 : decode cX7_tell 35 = .ok (.getfield 298, 3) := by decide +kernel
theorem dX7_tell_38 : decode cX7_tell 38 = .ok (.iastore, 1) := by decide +kernel
theorem dX7_tell_39 : decode cX7_tell 39 = .ok (.iconst 0, 1) := by decide +kernel
theorem dX7_tell_40 : decode cX7_tell 40 = .ok (.istore_n 1, 1) := by decide +kernel
theorem dX7_tell_41 : decode cX7_tell 41 = .ok (.iload_n 1, 1) := by decide +kernel
theorem dX7_tell_42 : decode cX7_tell 42 = .ok (.bipush 60, 2) := by decide +kernel
theorem dX7_tell_44 : decode cX7_tell 44 = .ok (.aload_n 0, 1) := by decide +kernel
theorem dX7_tell_45 : decode cX7_tell 45 = .ok (.getfield 298, 3) := by decide +kernel
theorem dX7_tell_48 : decode cX7_tell 48 = .ok (.imul, 1) := by decide +kernel
theorem dX7_tell_49 : decode cX7_tell 49 = .ok (.if_icmp .ge 180, 3) := by decide +kernel
theorem dX7_tell_52 : decode cX7_tell 52 = .ok (.iload_n 1, 1) := by decide +kernel
theorem dX7_tell_53 : decode cX7_tell 53 = .ok (.bipush 60, 2) := by decide +kernel
theorem dX7_tell_55 : decode cX7_tell 55 = .ok (.irem, 1) := by decide +kernel
theorem dX7_tell_56 : decode cX7_tell 56 = .ok (.aload_n 0, 1) := by decide +kernel
theorem dX7_tell_57 : decode cX7_tell 57 = .ok (.getfield 17, 3) := by decide +kernel
theorem dX7_tell_60 : decode cX7_tell 60 = .ok (.bipush 12, 2) := by decide +kernel
theorem dX7_tell_62 : decode cX7_tell 62 = .ok (.aload_n 0, 1) := by decide +kernel
theorem dX7_tell_63 : decode cX7_tell 63 = .ok (.getfield 182, 3) := by decide +kernel
theorem dX7_tell_66 : decode cX7_tell 66 = .ok (.imul, 1) := by decide +kernel
theorem dX7_tell_67 : decode cX7_tell 67 = .ok (.aload_n 0, 1) := by decide +kernel
theorem dX7_tell_68 : decode cX7_tell 68 = .ok (.getfield 78, 3) := by decide +kernel
theorem dX7_tell_71 : decode cX7_tell 71 = .ok (.iload_n 1, 1) := by decide +kernel
theorem dX7_tell_72 : decode cX7_tell 72 = .ok (.bipush 60, 2) := by decide +kernel
theorem dX7_tell_74 : decode cX7_tell 74 = .ok (.idiv, 1) := by decide +kernel
theorem dX7_tell_75 : decode cX7_tell 75 = .ok (.iaload, 1) := by decide +kernel
theorem dX7_tell_76 : decode cX7_tell 76 = .ok (.iadd, 1) := by decide +kernel
theorem dX7_tell_77 : decode cX7_tell 77 = .ok (.iaload, 1) := by decide +kernel
theorem dX7_tell_78 : decode cX7_tell 78 = .ok (.if_icmp .ge 16, 3) := by decide +kernel
theorem dX7_tell_81 : decode cX7_tell 81 = .ok (.aload_n 0, 1) := by decide +kernel
theorem dX7_tell_82 : decode cX7_tell 82 = .ok (.getfield 94, 3) := by decide +kernel
theorem dX7_tell_85 : decode cX7_tell 85 = .ok (.iload_n 1, 1) := by decide +kernel
theorem dX7_tell_86 : decode cX7_tell 86 = .ok (.baload, 1) := by decide +kernel
theorem dX7_tell_87 : decode cX7_tell 87 = .ok (.ifCond .eq 7, 3) := by decide +kernel
theorem dX7_tell_90 : decode cX7_tell 90 = .ok (.iconst 1, 1) := by decide +kernel
theorem dX7_tell_91 : decode cX7_tell 91 = .ok (.goto 4, 3) := by decide +kernel
theorem dX7_tell_94 : decode cX7_tell 94 = .ok (.iconst 0, 1) := by decide +kernel
theorem dX7_tell_95 : decode cX7_tell 95 = .ok (.istore_n 2, 1) := by decide +kernel
theorem dX7_tell_96 : decode cX7_tell 96 = .ok (.aload_n 0, 1) := by decide +kernel
theorem dX7_tell_97 : decode cX7_tell 97 = .ok (.getfield 113, 3) := by decide +kernel
theorem dX7_tell_100 : decode cX7_tell 100 = .ok (.iconst 1, 1) := by decide +kernel
theorem dX7_tell_101 : decode cX7_tell 101 = .ok (.dup2, 1) := by decide +kernel
theorem dX7_tell_102 : decode cX7_tell 102 = .ok (.iaload, 1) := by decide +kernel
theorem dX7_tell_103 : decode cX7_tell 103 = .ok (.iload_n 2, 1) := by decide +kernel
theorem dX7_tell_104 : decode cX7_tell 104 = .ok (.ifCond .eq 7, 3) := by decide +kernel
theorem dX7_tell_107 : decode cX7_tell 107 = .ok (.iconst 1, 1) := by decide +kernel
theorem dX7_tell_108 : decode cX7_tell 108 = .ok (.goto 4, 3) := by decide +kernel
theorem dX7_tell_111 : decode cX7_tell 111 = .ok (.iconst 0, 1) := by decide +kernel
theorem dX7_tell_112 : decode cX7_tell 112 = .ok (.iadd, 1) := by decide +kernel
theorem dX7_tell_113 : decode cX7_tell 113 = .ok (.iastore, 1) := by decide +kernel
theorem dX7_tell_114 : decode cX7_tell 114 = .ok (.aload_n 0, 1) := by decide +kernel
theorem dX7_tell_115 : decode cX7_tell 115 = .ok (.getfield 113, 3) := by decide +kernel
theorem dX7_tell_118 : decode cX7_tell 118 = .ok (.iconst 3, 1) := by decide +kernel
theorem dX7_tell_119 : decode cX7_tell 119 = .ok (.dup2, 1) := by decide +kernel
theorem dX7_tell_120 : decode cX7_tell 120 = .ok (.iaload, 1) := by decide +kernel
theorem dX7_tell_121 : decode cX7_tell 121 = .ok (.iload_n 2, 1) := by decide +kernel
theorem dX7_tell_122 : decode cX7_tell 122 = .ok (.ifCond .eq 27, 3) := by decide +kernel
theorem dX7_tell_125 : decode cX7_tell 125 = .ok (.aload_n 0, 1) := by decide +kernel
theorem dX7_tell_126 : decode cX7_tell 126 = .ok (.getfield 23, 3) := by decide +kernel
theorem dX7_tell_129 : decode cX7_tell 129 = .ok (.aload_n 0, 1) := by decide +kernel
theorem dX7_tell_130 : decode cX7_tell 130 = .ok (.iload_n 1, 1) := by decide +kernel
theorem dX7_tell_131 : decode cX7_tell 131 = .ok (.invokevirtual 317, 3) := by decide +kernel
theorem dX7_tell_134 : decode cX7_tell 134 = .ok (.iaload, 1) := by decide +kernel
theorem dX7_tell_135 : decode cX7_tell 135 = .ok (.bipush 9, 2) := by decide +kernel
theorem dX7_tell_137 : decode cX7_tell 137 = .ok (.if_icmp .ne 12, 3) := by decide +kernel
theorem dX7_tell_140 : decode cX7_tell 140 = .ok (.aload_n 0, 1) := by decide +kernel
theorem dX7_tell_141 : decode cX7_tell 141 = .ok (.getfield 106, 3) := by decide +kernel
theorem dX7_tell_144 : decode cX7_tell 144 = .ok (.iload_n 1, 1) := by decide +kernel
theorem dX7_tell_145 : decode cX7_tell 145 = .ok (.iaload, 1) := by decide +kernel
theorem dX7_tell_146 : decode cX7_tell 146 = .ok (.goto 4, 3) := by decide +kernel
theorem dX7_tell_149 : decode cX7_tell 149 = .ok (.iconst 0, 1) := by decide +kernel
theorem dX7_tell_150 : decode cX7_tell 150 = .ok (.iadd, 1) := by decide +kernel
theorem dX7_tell_151 : decode cX7_tell 151 = .ok (.iastore, 1) := by decide +kernel
theorem dX7_tell_152 : decode cX7_tell 152 = .ok (.iconst 0, 1) := by decide +kernel
theorem dX7_tell_153 : decode cX7_tell 153 = .ok (.istore_n 3, 1) := by decide +kernel
theorem dX7_tell_154 : decode cX7_tell 154 = .ok (.iload_n 3, 1) := by decide +kernel
theorem dX7_tell_155 : decode cX7_tell 155 = .ok (.aload_n 0, 1) := by decide +kernel
theorem dX7_tell_156 : decode cX7_tell 156 = .ok (.getfield 106, 3) := by decide +kernel
theorem dX7_tell_159 : decode cX7_tell 159 = .ok (.iload_n 1, 1) := by decide +kernel
theorem dX7_tell_160 : decode cX7_tell 160 = .ok (.iaload, 1) := by decide +kernel
theorem dX7_tell_161 : decode cX7_tell 161 = .ok (.if_icmp .ge 62, 3) := by decide +kernel
theorem dX7_tell_164 : decode cX7_tell 164 = .ok (.iload_n 2, 1) := by decide +kernel
theorem dX7_tell_165 : decode cX7_tell 165 = .ok (.ifCond .eq 58, 3) := by decide +kernel
theorem dX7_tell_168 : decode cX7_tell 168 = .ok (.aload_n 0, 1) := by decide +kernel
theorem dX7_tell_169 : decode cX7_tell 169 = .ok (.getfield 113, 3) := by decide +kernel
theorem dX7_tell_172 : decode cX7_tell 172 = .ok (.iconst 2, 1) := by decide +kernel
theorem dX7_tell_173 : decode cX7_tell 173 = .ok (.dup2, 1) := by decide +kernel
theorem dX7_tell_174 : decode cX7_tell 174 = .ok (.iaload, 1) := by decide +kernel
theorem dX7_tell_175 : decode cX7_tell 175 = .ok (.aload_n 0, 1) := by decide +kernel
theorem dX7_tell_176 : decode cX7_tell 176 = .ok (.getfield 23, 3) := by decide +kernel
theorem dX7_tell_179 : decode cX7_tell 179 = .ok (.aload_n 0, 1) := by decide +kernel
theorem dX7_tell_180 : decode cX7_tell 180 = .ok (.iload_n 1, 1) := by decide +kernel
theorem dX7_tell_181 : decode cX7_tell 181 = .ok (.invokevirtual 317, 3) := by decide +kernel
theorem dX7_tell_184 : decode cX7_tell 184 = .ok (.iaload, 1) := by decide +kernel
theorem dX7_tell_185 : decode cX7_tell 185 = .ok (.bipush 9, 2) := by decide +kernel
theorem dX7_tell_187 : decode cX7_tell 187 = .ok (.if_icmp .ne 27, 3) := by decide +kernel
theorem dX7_tell_190 : decode cX7_tell 190 = .ok (.aload_n 0, 1) := by decide +kernel
theorem dX7_tell_191 : decode cX7_tell 191 = .ok (.getfield 94, 3) := by decide +kernel
theorem dX7_tell_194 : decode cX7_tell 194 = .ok (.aload_n 0, 1) := by decide +kernel
theorem dX7_tell_195 : decode cX7_tell 195 = .ok (.aload_n 0, 1) := by decide +kernel
theorem dX7_tell_196 : decode cX7_tell 196 = .ok (.getfield 103, 3) := by decide +kernel
theorem dX7_tell_199 : decode cX7_tell 199 = .ok (.iload_n 1, 1) := by decide +kernel
theorem dX7_tell_200 : decode cX7_tell 200 = .ok (.iaload, 1) := by decide +kernel
theorem dX7_tell_201 : decode cX7_tell 201 = .ok (.iload_n 3, 1) := by decide +kernel
theorem dX7_tell_202 : decode cX7_tell 202 = .ok (.iadd, 1) := by decide +kernel
theorem dX7_tell_203 : decode cX7_tell 203 = .ok (.invokevirtual 311, 3) := by decide +kernel
theorem dX7_tell_206 : decode cX7_tell 206 = .ok (.baload, 1) := by decide +kernel
theorem dX7_tell_207 : decode cX7_tell 207 = .ok (.ifCond .eq 7, 3) := by decide +kernel
theorem dX7_tell_210 : decode cX7_tell 210 = .ok (.iconst 1, 1) := by decide +kernel
theorem dX7_tell_211 : decode cX7_tell 211 = .ok (.goto 4, 3) := by decide +kernel
theorem dX7_tell_214 : decode cX7_tell 214 = .ok (.iconst 0, 1) := by decide +kernel
theorem dX7_tell_215 : decode cX7_tell 215 = .ok (.iadd, 1) := by decide +kernel
theorem dX7_tell_216 : decode cX7_tell 216 = .ok (.iastore, 1) := by decide +kernel
theorem dX7_tell_217 : decode cX7_tell 217 = .ok (.iinc 3 1, 3) := by decide +kernel
theorem dX7_tell_220 : decode cX7_tell 220 = .ok (.goto (-66), 3) := by decide +kernel
theorem dX7_tell_223 : decode cX7_tell 223 = .ok (.iinc 1 1, 3) := by decide +kernel
theorem dX7_tell_226 : decode cX7_tell 226 = .ok (.goto (-185), 3) := by decide +kernel
theorem dX7_tell_229 : decode cX7_tell 229 = .ok (.return_, 1) := by decide +kernel
theorem dX7_value_0 : decode cX7_value 0 = .ok (.aload_n 0, 1) := by decide +kernel
theorem dX7_value_1 : decode cX7_value 1 = .ok (.iconst 0, 1) := by decide +kernel
theorem dX7_value_2 : decode cX7_value 2 = .ok (.putfield 116, 3) := by decide +kernel
theorem dX7_value_5 : decode cX7_value 5 = .ok (.aload_n 0, 1) := by decide +kernel
theorem dX7_value_6 : decode cX7_value 6 = .ok (.getfield 360, 3) := by decide +kernel
theorem dX7_value_9 : decode cX7_value 9 = .ok (.ireturn, 1) := by decide +kernel
theorem dX7_count_0 : decode cX7_count 0 = .ok (.aload_n 0, 1) := by decide +kernel
theorem dX7_count_1 : decode cX7_count 1 = .ok (.iload_n 1, 1) := by decide +kernel
theorem dX7_count_2 : decode cX7_count 2 = .ok (.ifCond .lt 8, 3) := by decide +kernel
theorem dX7_count_5 : decode cX7_count 5 = .ok (.iload_n 1, 1) := by decide +kernel
theorem dX7_count_6 : decode cX7_count 6 = .ok (.iconst 5, 1) := by decide +kernel
theorem dX7_count_7 : decode cX7_count 7 = .ok (.if_icmp .le 7, 3) := by decide +kernel
theorem dX7_count_10 : decode cX7_count 10 = .ok (.iconst 1, 1) := by decide +kernel
theorem dX7_count_11 : decode cX7_count 11 = .ok (.goto 4, 3) := by decide +kernel
theorem dX7_count_14 : decode cX7_count 14 = .ok (.iconst 0, 1) := by decide +kernel
theorem dX7_count_15 : decode cX7_count 15 = .ok (.putfield 116, 3) := by decide +kernel
theorem dX7_count_18 : decode cX7_count 18 = .ok (.aload_n 0, 1) := by decide +kernel
theorem dX7_count_19 : decode cX7_count 19 = .ok (.getfield 116, 3) := by decide +kernel
theorem dX7_count_22 : decode cX7_count 22 = .ok (.ifCond .le 7, 3) := by decide +kernel
theorem dX7_count_25 : decode cX7_count 25 = .ok (.iconst 0, 1) := by decide +kernel
theorem dX7_count_26 : decode cX7_count 26 = .ok (.goto 33, 3) := by decide +kernel
theorem dX7_count_29 : decode cX7_count 29 = .ok (.iload_n 1, 1) := by decide +kernel
theorem dX7_count_30 : decode cX7_count 30 = .ok (.iconst 4, 1) := by decide +kernel
theorem dX7_count_31 : decode cX7_count 31 = .ok (.if_icmp .ge 12, 3) := by decide +kernel
theorem dX7_count_34 : decode cX7_count 34 = .ok (.aload_n 0, 1) := by decide +kernel
theorem dX7_count_35 : decode cX7_count 35 = .ok (.getfield 113, 3) := by decide +kernel
theorem dX7_count_38 : decode cX7_count 38 = .ok (.iload_n 1, 1) := by decide +kernel
theorem dX7_count_39 : decode cX7_count 39 = .ok (.iaload, 1) := by decide +kernel
theorem dX7_count_40 : decode cX7_count 40 = .ok (.goto 19, 3) := by decide +kernel
theorem dX7_count_43 : decode cX7_count 43 = .ok (.iload_n 1, 1) := by decide +kernel
theorem dX7_count_44 : decode cX7_count 44 = .ok (.iconst 4, 1) := by decide +kernel
theorem dX7_count_45 : decode cX7_count 45 = .ok (.if_icmp .ne 10, 3) := by decide +kernel
theorem dX7_count_48 : decode cX7_count 48 = .ok (.aload_n 0, 1) := by decide +kernel
theorem dX7_count_49 : decode cX7_count 49 = .ok (.getfield 288, 3) := by decide +kernel
theorem dX7_count_52 : decode cX7_count 52 = .ok (.goto 7, 3) := by decide +kernel
theorem dX7_count_55 : decode cX7_count 55 = .ok (.aload_n 0, 1) := by decide +kernel
theorem dX7_count_56 : decode cX7_count 56 = .ok (.getfield 119, 3) := by decide +kernel
theorem dX7_count_59 : decode cX7_count 59 = .ok (.ireturn, 1) := by decide +kernel
theorem dX7_definition_0 : decode cX7_definition 0 = .ok (.aload_n 0, 1) := by decide +kernel
theorem dX7_definition_1 : decode cX7_definition 1 = .ok (.iload_n 1, 1) := by decide +kernel
theorem dX7_definition_2 : decode cX7_definition 2 = .ok (.ifCond .lt 20, 3) := by decide +kernel
theorem dX7_definition_5 : decode cX7_definition 5 = .ok (.iload_n 1, 1) := by decide +kernel
theorem dX7_definition_6 : decode cX7_definition 6 = .ok (.aload_n 0, 1) := by decide +kernel
theorem dX7_definition_7 : decode cX7_definition 7 = .ok (.getfield 288, 3) := by decide +kernel
theorem dX7_definition_10 : decode cX7_definition 10 = .ok (.if_icmp .ge 12, 3) := by decide +kernel
theorem dX7_definition_13 : decode cX7_definition 13 = .ok (.iload_n 2, 1) := by decide +kernel
theorem dX7_definition_14 : decode cX7_definition 14 = .ok (.ifCond .lt 8, 3) := by decide +kernel
theorem dX7_definition_17 : decode cX7_definition 17 = .ok (.iload_n 2, 1) := by decide +kernel
theorem dX7_definition_18 : decode cX7_definition 18 = .ok (.iconst 1, 1) := by decide +kernel
theorem dX7_definition_19 : decode cX7_definition 19 = .ok (.if_icmp .le 7, 3) := by decide +kernel
theorem dX7_definition_22 : decode cX7_definition 22 = .ok (.iconst 1, 1) := by decide +kernel
theorem dX7_definition_23 : decode cX7_definition 23 = .ok (.goto 4, 3) := by decide +kernel
theorem dX7_definition_26 : decode cX7_definition 26 = .ok (.iconst 0, 1) := by decide +kernel
theorem dX7_definition_27 : decode cX7_definition 27 = .ok (.putfield 116, 3) := by decide +kernel
theorem dX7_definition_30 : decode cX7_definition 30 = .ok (.aload_n 0, 1) := by decide +kernel
theorem dX7_definition_31 : decode cX7_definition 31 = .ok (.getfield 116, 3) := by decide +kernel
theorem dX7_definition_34 : decode cX7_definition 34 = .ok (.ifCond .le 7, 3) := by decide +kernel
theorem dX7_definition_37 : decode cX7_definition 37 = .ok (.iconst 0, 1) := by decide +kernel
theorem dX7_definition_38 : decode cX7_definition 38 = .ok (.goto 38, 3) := by decide +kernel
theorem dX7_definition_41 : decode cX7_definition 41 = .ok (.iload_n 2, 1) := by decide +kernel
theorem dX7_definition_42 : decode cX7_definition 42 = .ok (.ifCond .ne 20, 3) := by decide +kernel
theorem dX7_definition_45 : decode cX7_definition 45 = .ok (.aload_n 0, 1) := by decide +kernel
theorem dX7_definition_46 : decode cX7_definition 46 = .ok (.getfield 13, 3) := by decide +kernel
theorem dX7_definition_49 : decode cX7_definition 49 = .ok (.bipush 12, 2) := by decide +kernel
theorem dX7_definition_51 : decode cX7_definition 51 = .ok (.aload_n 0, 1) := by decide +kernel
theorem dX7_definition_52 : decode cX7_definition 52 = .ok (.getfield 182, 3) := by decide +kernel
theorem dX7_definition_55 : decode cX7_definition 55 = .ok (.imul, 1) := by decide +kernel
theorem dX7_definition_56 : decode cX7_definition 56 = .ok (.iload_n 1, 1) := by decide +kernel
theorem dX7_definition_57 : decode cX7_definition 57 = .ok (.iadd, 1) := by decide +kernel
theorem dX7_definition_58 : decode cX7_definition 58 = .ok (.iaload, 1) := by decide +kernel
theorem dX7_definition_59 : decode cX7_definition 59 = .ok (.goto 17, 3) := by decide +kernel
theorem dX7_definition_62 : decode cX7_definition 62 = .ok (.aload_n 0, 1) := by decide +kernel
theorem dX7_definition_63 : decode cX7_definition 63 = .ok (.getfield 17, 3) := by decide +kernel
theorem dX7_definition_66 : decode cX7_definition 66 = .ok (.bipush 12, 2) := by decide +kernel
theorem dX7_definition_68 : decode cX7_definition 68 = .ok (.aload_n 0, 1) := by decide +kernel
theorem dX7_definition_69 : decode cX7_definition 69 = .ok (.getfield 182, 3) := by decide +kernel
theorem dX7_definition_72 : decode cX7_definition 72 = .ok (.imul, 1) := by decide +kernel
theorem dX7_definition_73 : decode cX7_definition 73 = .ok (.iload_n 1, 1) := by decide +kernel
theorem dX7_definition_74 : decode cX7_definition 74 = .ok (.iadd, 1) := by decide +kernel
theorem dX7_definition_75 : decode cX7_definition 75 = .ok (.iaload, 1) := by decide +kernel
theorem dX7_definition_76 : decode cX7_definition 76 = .ok (.ireturn, 1) := by decide +kernel
theorem dX7_clear_0 : decode cX7_clear 0 = .ok (.aload_n 0, 1) := by decide +kernel
theorem dX7_clear_1 : decode cX7_clear 1 = .ok (.iconst 0, 1) := by decide +kernel
theorem dX7_clear_2 : decode cX7_clear 2 = .ok (.putfield 116, 3) := by decide +kernel
theorem dX7_clear_5 : decode cX7_clear 5 = .ok (.aload_n 0, 1) := by decide +kernel
theorem dX7_clear_6 : decode cX7_clear 6 = .ok (.iconst 0, 1) := by decide +kernel
theorem dX7_clear_7 : decode cX7_clear 7 = .ok (.putfield 119, 3) := by decide +kernel
theorem dX7_clear_10 : decode cX7_clear 10 = .ok (.aload_n 0, 1) := by decide +kernel
theorem dX7_clear_11 : decode cX7_clear 11 = .ok (.iconst 0, 1) := by decide +kernel
theorem dX7_clear_12 : decode cX7_clear 12 = .ok (.putfield 288, 3) := by decide +kernel
theorem dX7_clear_15 : decode cX7_clear 15 = .ok (.aload_n 0, 1) := by decide +kernel
theorem dX7_clear_16 : decode cX7_clear 16 = .ok (.iconst (-1), 1) := by decide +kernel
theorem dX7_clear_17 : decode cX7_clear 17 = .ok (.putfield 109, 3) := by decide +kernel
theorem dX7_clear_20 : decode cX7_clear 20 = .ok (.aload_n 0, 1) := by decide +kernel
theorem dX7_clear_21 : decode cX7_clear 21 = .ok (.iconst 0, 1) := by decide +kernel
theorem dX7_clear_22 : decode cX7_clear 22 = .ok (.putfield 360, 3) := by decide +kernel
theorem dX7_clear_25 : decode cX7_clear 25 = .ok (.iconst 0, 1) := by decide +kernel
theorem dX7_clear_26 : decode cX7_clear 26 = .ok (.istore_n 1, 1) := by decide +kernel
theorem dX7_clear_27 : decode cX7_clear 27 = .ok (.iload_n 1, 1) := by decide +kernel
theorem dX7_clear_28 : decode cX7_clear 28 = .ok (.iconst 4, 1) := by decide +kernel
theorem dX7_clear_29 : decode cX7_clear 29 = .ok (.if_icmp .ge 16, 3) := by decide +kernel
theorem dX7_clear_32 : decode cX7_clear 32 = .ok (.aload_n 0, 1) := by decide +kernel
theorem dX7_clear_33 : decode cX7_clear 33 = .ok (.getfield 113, 3) := by decide +kernel
theorem dX7_clear_36 : decode cX7_clear 36 = .ok (.iload_n 1, 1) := by decide +kernel
theorem dX7_clear_37 : decode cX7_clear 37 = .ok (.iconst 0, 1) := by decide +kernel
theorem dX7_clear_38 : decode cX7_clear 38 = .ok (.iastore, 1) := by decide +kernel
theorem dX7_clear_39 : decode cX7_clear 39 = .ok (.iinc 1 1, 3) := by decide +kernel
theorem dX7_clear_42 : decode cX7_clear 42 = .ok (.goto (-15), 3) := by decide +kernel
theorem dX7_clear_45 : decode cX7_clear 45 = .ok (.return_, 1) := by decide +kernel
end
section
theorem dJ11_isValidCodePoint_9a6ad_0 : decode cJ11_isValidCodePoint_9a6ad 0 = .ok (.iload_n 0, 1) := by decide +kernel
theorem dJ11_isValidCodePoint_9a6ad_1 : decode cJ11_isValidCodePoint_9a6ad 1 = .ok (.bipush 16, 2) := by decide +kernel
theorem dJ11_isValidCodePoint_9a6ad_3 : decode cJ11_isValidCodePoint_9a6ad 3 = .ok (.iushr, 1) := by decide +kernel
theorem dJ11_isValidCodePoint_9a6ad_4 : decode cJ11_isValidCodePoint_9a6ad 4 = .ok (.istore_n 1, 1) := by decide +kernel
theorem dJ11_isValidCodePoint_9a6ad_5 : decode cJ11_isValidCodePoint_9a6ad 5 = .ok (.iload_n 1, 1) := by decide +kernel
theorem dJ11_isValidCodePoint_9a6ad_6 : decode cJ11_isValidCodePoint_9a6ad 6 = .ok (.bipush 17, 2) := by decide +kernel
theorem dJ11_isValidCodePoint_9a6ad_8 : decode cJ11_isValidCodePoint_9a6ad 8 = .ok (.if_icmp .ge 7, 3) := by decide +kernel
theorem dJ11_isValidCodePoint_9a6ad_11 : decode cJ11_isValidCodePoint_9a6ad 11 = .ok (.iconst 1, 1) := by decide +kernel
theorem dJ11_isValidCodePoint_9a6ad_12 : decode cJ11_isValidCodePoint_9a6ad 12 = .ok (.goto 4, 3) := by decide +kernel
theorem dJ11_isValidCodePoint_9a6ad_15 : decode cJ11_isValidCodePoint_9a6ad 15 = .ok (.iconst 0, 1) := by decide +kernel
theorem dJ11_isValidCodePoint_9a6ad_16 : decode cJ11_isValidCodePoint_9a6ad 16 = .ok (.ireturn, 1) := by decide +kernel
theorem dJ11_highSurrogate_5068e_0 : decode cJ11_highSurrogate_5068e 0 = .ok (.iload_n 0, 1) := by decide +kernel
theorem dJ11_highSurrogate_5068e_1 : decode cJ11_highSurrogate_5068e 1 = .ok (.bipush 10, 2) := by decide +kernel
theorem dJ11_highSurrogate_5068e_3 : decode cJ11_highSurrogate_5068e 3 = .ok (.iushr, 1) := by decide +kernel
theorem dJ11_highSurrogate_5068e_4 : decode cJ11_highSurrogate_5068e 4 = .ok (.ldc 110, 2) := by decide +kernel
theorem dJ11_highSurrogate_5068e_6 : decode cJ11_highSurrogate_5068e 6 = .ok (.iadd, 1) := by decide +kernel
theorem dJ11_highSurrogate_5068e_7 : decode cJ11_highSurrogate_5068e 7 = .ok (.i2c, 1) := by decide +kernel
theorem dJ11_highSurrogate_5068e_8 : decode cJ11_highSurrogate_5068e 8 = .ok (.ireturn, 1) := by decide +kernel
theorem dJ11_lowSurrogate_5068e_0 : decode cJ11_lowSurrogate_5068e 0 = .ok (.iload_n 0, 1) := by decide +kernel
theorem dJ11_lowSurrogate_5068e_1 : decode cJ11_lowSurrogate_5068e 1 = .ok (.sipush 1023, 3) := by decide +kernel
theorem dJ11_lowSurrogate_5068e_4 : decode cJ11_lowSurrogate_5068e 4 = .ok (.iand, 1) := by decide +kernel
theorem dJ11_lowSurrogate_5068e_5 : decode cJ11_lowSurrogate_5068e 5 = .ok (.ldc 76, 2) := by decide +kernel
theorem dJ11_lowSurrogate_5068e_7 : decode cJ11_lowSurrogate_5068e 7 = .ok (.iadd, 1) := by decide +kernel
theorem dJ11_lowSurrogate_5068e_8 : decode cJ11_lowSurrogate_5068e 8 = .ok (.i2c, 1) := by decide +kernel
theorem dJ11_lowSurrogate_5068e_9 : decode cJ11_lowSurrogate_5068e 9 = .ok (.ireturn, 1) := by decide +kernel
theorem dJ9_max_7cf53_0 : decode cJ9_max_7cf53 0 = .ok (.iload_n 0, 1) := by decide +kernel
theorem dJ9_max_7cf53_1 : decode cJ9_max_7cf53 1 = .ok (.iload_n 1, 1) := by decide +kernel
theorem dJ9_max_7cf53_2 : decode cJ9_max_7cf53 2 = .ok (.if_icmp .lt 7, 3) := by decide +kernel
theorem dJ9_max_7cf53_5 : decode cJ9_max_7cf53 5 = .ok (.iload_n 0, 1) := by decide +kernel
theorem dJ9_max_7cf53_6 : decode cJ9_max_7cf53 6 = .ok (.goto 4, 3) := by decide +kernel
theorem dJ9_max_7cf53_9 : decode cJ9_max_7cf53 9 = .ok (.iload_n 1, 1) := by decide +kernel
theorem dJ9_max_7cf53_10 : decode cJ9_max_7cf53 10 = .ok (.ireturn, 1) := by decide +kernel
theorem dJ9_min_7cf53_0 : decode cJ9_min_7cf53 0 = .ok (.iload_n 0, 1) := by decide +kernel
theorem dJ9_min_7cf53_1 : decode cJ9_min_7cf53 1 = .ok (.iload_n 1, 1) := by decide +kernel
theorem dJ9_min_7cf53_2 : decode cJ9_min_7cf53 2 = .ok (.if_icmp .gt 7, 3) := by decide +kernel
theorem dJ9_min_7cf53_5 : decode cJ9_min_7cf53 5 = .ok (.iload_n 0, 1) := by decide +kernel
theorem dJ9_min_7cf53_6 : decode cJ9_min_7cf53 6 = .ok (.goto 4, 3) := by decide +kernel
theorem dJ9_min_7cf53_9 : decode cJ9_min_7cf53 9 = .ok (.iload_n 1, 1) := by decide +kernel
theorem dJ9_min_7cf53_10 : decode cJ9_min_7cf53 10 = .ok (.ireturn, 1) := by decide +kernel
theorem dJ9_min_f86c9_0 : decode cJ9_min_f86c9 0 = .ok (.lload_n 0, 1) := by decide +kernel
theorem dJ9_min_f86c9_1 : decode cJ9_min_f86c9 1 = .ok (.lload_n 2, 1) := by decide +kernel
theorem dJ9_min_f86c9_2 : decode cJ9_min_f86c9 2 = .ok (.lcmp, 1) := by decide +kernel
theorem dJ9_min_f86c9_3 : decode cJ9_min_f86c9 3 = .ok (.ifCond .gt 7, 3) := by decide +kernel
theorem dJ9_min_f86c9_6 : decode cJ9_min_f86c9 6 = .ok (.lload_n 0, 1) := by decide +kernel
theorem dJ9_min_f86c9_7 : decode cJ9_min_f86c9 7 = .ok (.goto 4, 3) := by decide +kernel
theorem dJ9_min_f86c9_10 : decode cJ9_min_f86c9 10 = .ok (.lload_n 2, 1) := by decide +kernel
theorem dJ9_min_f86c9_11 : decode cJ9_min_f86c9 11 = .ok (.lreturn, 1) := by decide +kernel
theorem dJ0_length_8abf5_0 : decode cJ0_length_8abf5 0 = .ok (.aload_n 0, 1) := by decide +kernel
theorem dJ0_length_8abf5_1 : decode cJ0_length_8abf5 1 = .ok (.getfield 9, 3) := by decide +kernel
theorem dJ0_length_8abf5_4 : decode cJ0_length_8abf5 4 = .ok (.arraylength, 1) := by decide +kernel
theorem dJ0_length_8abf5_5 : decode cJ0_length_8abf5 5 = .ok (.aload_n 0, 1) := by decide +kernel
theorem dJ0_length_8abf5_6 : decode cJ0_length_8abf5 6 = .ok (.invokevirtual 335, 3) := by decide +kernel
theorem dJ0_length_8abf5_9 : decode cJ0_length_8abf5 9 = .ok (.ishr, 1) := by decide +kernel
theorem dJ0_length_8abf5_10 : decode cJ0_length_8abf5 10 = .ok (.ireturn, 1) := by decide +kernel
theorem dJ0_indexOf_0f7a4_0 : decode cJ0_indexOf_0f7a4 0 = .ok (.aload_n 0, 1) := by decide +kernel
theorem dJ0_indexOf_0f7a4_1 : decode cJ0_indexOf_0f7a4 1 = .ok (.iload_n 1, 1) := by decide +kernel
theorem dJ0_indexOf_0f7a4_2 : decode cJ0_indexOf_0f7a4 2 = .ok (.iconst 0, 1) := by decide +kernel
theorem dJ0_indexOf_0f7a4_3 : decode cJ0_indexOf_0f7a4 3 = .ok (.invokevirtual 633, 3) := by decide +kernel
theorem dJ0_indexOf_0f7a4_6 : decode cJ0_indexOf_0f7a4 6 = .ok (.ireturn, 1) := by decide +kernel
theorem dJ0_indexOf_7cf53_0 : decode cJ0_indexOf_7cf53 0 = .ok (.aload_n 0, 1) := by decide +kernel
theorem dJ0_indexOf_7cf53_1 : decode cJ0_indexOf_7cf53 1 = .ok (.invokevirtual 492, 3) := by decide +kernel
theorem dJ0_indexOf_7cf53_4 : decode cJ0_indexOf_7cf53 4 = .ok (.ifCond .eq 19, 3) := by decide +kernel
theorem dJ0_indexOf_7cf53_7 : decode cJ0_indexOf_7cf53 7 = .ok (.aload_n 0, 1) := by decide +kernel
theorem dJ0_indexOf_7cf53_8 : decode cJ0_indexOf_7cf53 8 = .ok (.getfield 9, 3) := by decide +kernel
theorem dJ0_indexOf_7cf53_11 : decode cJ0_indexOf_7cf53 11 = .ok (.iload_n 1, 1) := by decide +kernel
theorem dJ0_indexOf_7cf53_12 : decode cJ0_indexOf_7cf53 12 = .ok (.iload_n 2, 1) := by decide +kernel
theorem dJ0_indexOf_7cf53_13 : decode cJ0_indexOf_7cf53 13 = .ok (.aload_n 0, 1) := by decide +kernel
theorem dJ0_indexOf_7cf53_14 : decode cJ0_indexOf_7cf53 14 = .ok (.invokevirtual 505, 3) := by decide +kernel
theorem dJ0_indexOf_7cf53_17 : decode cJ0_indexOf_7cf53 17 = .ok (.invokestatic 637, 3) := by decide +kernel
theorem dJ0_indexOf_7cf53_20 : decode cJ0_indexOf_7cf53 20 = .ok (.goto 16, 3) := by decide +kernel
theorem dJ0_indexOf_7cf53_23 : decode cJ0_indexOf_7cf53 23 = .ok (.aload_n 0, 1) := by decide +kernel
theorem dJ0_indexOf_7cf53_24 : decode cJ0_indexOf_7cf53 24 = .ok (.getfield 9, 3) := by decide +kernel
theorem dJ0_indexOf_7cf53_27 : decode cJ0_indexOf_7cf53 27 = .ok (.iload_n 1, 1) := by decide +kernel
theorem dJ0_indexOf_7cf53_28 : decode cJ0_indexOf_7cf53 28 = .ok (.iload_n 2, 1) := by decide +kernel
theorem dJ0_indexOf_7cf53_29 : decode cJ0_indexOf_7cf53 29 = .ok (.aload_n 0, 1) := by decide +kernel
theorem dJ0_indexOf_7cf53_30 : decode cJ0_indexOf_7cf53 30 = .ok (.invokevirtual 505, 3) := by decide +kernel
theorem dJ0_indexOf_7cf53_33 : decode cJ0_indexOf_7cf53 33 = .ok (.invokestatic 640, 3) := by decide +kernel
theorem dJ0_indexOf_7cf53_36 : decode cJ0_indexOf_7cf53 36 = .ok (.ireturn, 1) := by decide +kernel
theorem dJ0_coder_7d493_0 : decode cJ0_coder_7d493 0 = .ok (.getstatic 38, 3) := by decide +kernel
theorem dJ0_coder_7d493_3 : decode cJ0_coder_7d493 3 = .ok (.ifCond .eq 10, 3) := by decide +kernel
theorem dJ0_coder_7d493_6 : decode cJ0_coder_7d493 6 = .ok (.aload_n 0, 1) := by decide +kernel
theorem dJ0_coder_7d493_7 : decode cJ0_coder_7d493 7 = .ok (.getfield 15, 3) := by decide +kernel
theorem dJ0_coder_7d493_10 : decode cJ0_coder_7d493 10 = .ok (.goto 4, 3) := by decide +kernel
theorem dJ0_coder_7d493_13 : decode cJ0_coder_7d493 13 = .ok (.iconst 1, 1) := by decide +kernel
theorem dJ0_coder_7d493_14 : decode cJ0_coder_7d493 14 = .ok (.ireturn, 1) := by decide +kernel
theorem dJ0_isLatin1_aae02_0 : decode cJ0_isLatin1_aae02 0 = .ok (.getstatic 38, 3) := by decide +kernel
theorem dJ0_isLatin1_aae02_3 : decode cJ0_isLatin1_aae02 3 = .ok (.ifCond .eq 14, 3) := by decide +kernel
theorem dJ0_isLatin1_aae02_6 : decode cJ0_isLatin1_aae02 6 = .ok (.aload_n 0, 1) := by decide +kernel
theorem dJ0_isLatin1_aae02_7 : decode cJ0_isLatin1_aae02 7 = .ok (.getfield 15, 3) := by decide +kernel
theorem dJ0_isLatin1_aae02_10 : decode cJ0_isLatin1_aae02 10 = .ok (.ifCond .ne 7, 3) := by decide +kernel
theorem dJ0_isLatin1_aae02_13 : decode cJ0_isLatin1_aae02 13 = .ok (.iconst 1, 1) := by decide +kernel
theorem dJ0_isLatin1_aae02_14 : decode cJ0_isLatin1_aae02 14 = .ok (.goto 4, 3) := by decide +kernel
theorem dJ0_isLatin1_aae02_17 : decode cJ0_isLatin1_aae02 17 = .ok (.iconst 0, 1) := by decide +kernel
theorem dJ0_isLatin1_aae02_18 : decode cJ0_isLatin1_aae02 18 = .ok (.ireturn, 1) := by decide +kernel
theorem dJ0_checkBoundsBeginEnd_23922_0 : decode cJ0_checkBoundsBeginEnd_23922 0 = .ok (.iload_n 0, 1) := by decide +kernel
theorem dJ0_checkBoundsBeginEnd_23922_1 : decode cJ0_checkBoundsBeginEnd_23922 1 = .ok (.iload_n 1, 1) := by decide +kernel
theorem dJ0_checkBoundsBeginEnd_23922_2 : decode cJ0_checkBoundsBeginEnd_23922 2 = .ok (.iload_n 2, 1) := by decide +kernel
theorem dJ0_checkBoundsBeginEnd_23922_3 : decode cJ0_checkBoundsBeginEnd_23922 3 = .ok (.getstatic 1053, 3) := by decide +kernel
theorem dJ0_checkBoundsBeginEnd_23922_6 : decode cJ0_checkBoundsBeginEnd_23922 6 = .ok (.invokestatic 1062, 3) := by decide +kernel
theorem dJ0_checkBoundsBeginEnd_23922_9 : decode cJ0_checkBoundsBeginEnd_23922 9 = .ok (.pop, 1) := by decide +kernel
theorem dJ0_checkBoundsBeginEnd_23922_10 : decode cJ0_checkBoundsBeginEnd_23922 10 = .ok (.return_, 1) := by decide +kernel
theorem dJ1_canEncode_9a6ad_0 : decode cJ1_canEncode_9a6ad 0 = .ok (.iload_n 0, 1) := by decide +kernel
theorem dJ1_canEncode_9a6ad_1 : decode cJ1_canEncode_9a6ad 1 = .ok (.ifCond .lt 14, 3) := by decide +kernel
theorem dJ1_canEncode_9a6ad_4 : decode cJ1_canEncode_9a6ad 4 = .ok (.iload_n 0, 1) := by decide +kernel
theorem dJ1_canEncode_9a6ad_5 : decode cJ1_canEncode_9a6ad 5 = .ok (.sipush 255, 3) := by decide +kernel
theorem dJ1_canEncode_9a6ad_8 : decode cJ1_canEncode_9a6ad 8 = .ok (.if_icmp .gt 7, 3) := by decide +kernel
theorem dJ1_canEncode_9a6ad_11 : decode cJ1_canEncode_9a6ad 11 = .ok (.iconst 1, 1) := by decide +kernel
theorem dJ1_canEncode_9a6ad_12 : decode cJ1_canEncode_9a6ad 12 = .ok (.goto 4, 3) := by decide +kernel
theorem dJ1_canEncode_9a6ad_15 : decode cJ1_canEncode_9a6ad 15 = .ok (.iconst 0, 1) := by decide +kernel
theorem dJ1_canEncode_9a6ad_16 : decode cJ1_canEncode_9a6ad 16 = .ok (.ireturn, 1) := by decide +kernel
theorem dJ1_indexOf_4cfef_0 : decode cJ1_indexOf_4cfef 0 = .ok (.iload_n 1, 1) := by decide +kernel
theorem dJ1_indexOf_4cfef_1 : decode cJ1_indexOf_4cfef 1 = .ok (.invokestatic 88, 3) := by decide +kernel
theorem dJ1_indexOf_4cfef_4 : decode cJ1_indexOf_4cfef 4 = .ok (.ifCond .ne 5, 3) := by decide +kernel
theorem dJ1_indexOf_4cfef_7 : decode cJ1_indexOf_4cfef 7 = .ok (.iconst (-1), 1) := by decide +kernel
theorem dJ1_indexOf_4cfef_8 : decode cJ1_indexOf_4cfef 8 = .ok (.ireturn, 1) := by decide +kernel
theorem dJ1_indexOf_4cfef_9 : decode cJ1_indexOf_4cfef 9 = .ok (.iload_n 2, 1) := by decide +kernel
theorem dJ1_indexOf_4cfef_10 : decode cJ1_indexOf_4cfef 10 = .ok (.iconst 0, 1) := by decide +kernel
theorem dJ1_indexOf_4cfef_11 : decode cJ1_indexOf_4cfef 11 = .ok (.invokestatic 92, 3) := by decide +kernel
theorem dJ1_indexOf_4cfef_14 : decode cJ1_indexOf_4cfef 14 = .ok (.istore_n 2, 1) := by decide +kernel
theorem dJ1_indexOf_4cfef_15 : decode cJ1_indexOf_4cfef 15 = .ok (.iload_n 3, 1) := by decide +kernel
theorem dJ1_indexOf_4cfef_16 : decode cJ1_indexOf_4cfef 16 = .ok (.aload_n 0, 1) := by decide +kernel
theorem dJ1_indexOf_4cfef_17 : decode cJ1_indexOf_4cfef 17 = .ok (.arraylength, 1) := by decide +kernel
theorem dJ1_indexOf_4cfef_18 : decode cJ1_indexOf_4cfef 18 = .ok (.invokestatic 38, 3) := by decide +kernel
theorem dJ1_indexOf_4cfef_21 : decode cJ1_indexOf_4cfef 21 = .ok (.istore_n 3, 1) := by decide +kernel
theorem dJ1_indexOf_4cfef_22 : decode cJ1_indexOf_4cfef 22 = .ok (.iload_n 2, 1) := by decide +kernel
theorem dJ1_indexOf_4cfef_23 : decode cJ1_indexOf_4cfef 23 = .ok (.iload_n 3, 1) := by decide +kernel
theorem dJ1_indexOf_4cfef_24 : decode cJ1_indexOf_4cfef 24 = .ok (.if_icmp .lt 5, 3) := by decide +kernel
theorem dJ1_indexOf_4cfef_27 : decode cJ1_indexOf_4cfef 27 = .ok (.iconst (-1), 1) := by decide +kernel
theorem dJ1_indexOf_4cfef_28 : decode cJ1_indexOf_4cfef 28 = .ok (.ireturn, 1) := by decide +kernel
theorem dJ1_indexOf_4cfef_29 : decode cJ1_indexOf_4cfef 29 = .ok (.aload_n 0, 1) := by decide +kernel
theorem dJ1_indexOf_4cfef_30 : decode cJ1_indexOf_4cfef 30 = .ok (.iload_n 1, 1) := by decide +kernel
theorem dJ1_indexOf_4cfef_31 : decode cJ1_indexOf_4cfef 31 = .ok (.iload_n 2, 1) := by decide +kernel
theorem dJ1_indexOf_4cfef_32 : decode cJ1_indexOf_4cfef 32 = .ok (.iload_n 3, 1) := by decide +kernel
theorem dJ1_indexOf_4cfef_33 : decode cJ1_indexOf_4cfef 33 = .ok (.invokestatic 95, 3) := by decide +kernel
theorem dJ1_indexOf_4cfef_36 : decode cJ1_indexOf_4cfef 36 = .ok (.ireturn, 1) := by decide +kernel
theorem dJ1_indexOfChar_4cfef_0 : decode cJ1_indexOfChar_4cfef 0 = .ok (.iload_n 1, 1) := by decide +kernel
theorem dJ1_indexOfChar_4cfef_1 : decode cJ1_indexOfChar_4cfef 1 = .ok (.i2b, 1) := by decide +kernel
theorem dJ1_indexOfChar_4cfef_2 : decode cJ1_indexOfChar_4cfef 2 = .ok (.istore 4, 2) := by decide +kernel
theorem dJ1_indexOfChar_4cfef_4 : decode cJ1_indexOfChar_4cfef 4 = .ok (.iload_n 2, 1) := by decide +kernel
theorem dJ1_indexOfChar_4cfef_5 : decode cJ1_indexOfChar_4cfef 5 = .ok (.istore 5, 2) := by decide +kernel
theorem dJ1_indexOfChar_4cfef_7 : decode cJ1_indexOfChar_4cfef 7 = .ok (.iload 5, 2) := by decide +kernel
theorem dJ1_indexOfChar_4cfef_9 : decode cJ1_indexOfChar_4cfef 9 = .ok (.iload_n 3, 1) := by decide +kernel
theorem dJ1_indexOfChar_4cfef_10 : decode cJ1_indexOfChar_4cfef 10 = .ok (.if_icmp .ge 21, 3) := by decide +kernel
theorem dJ1_indexOfChar_4cfef_13 : decode cJ1_indexOfChar_4cfef 13 = .ok (.aload_n 0, 1) := by decide +kernel
theorem dJ1_indexOfChar_4cfef_14 : decode cJ1_indexOfChar_4cfef 14 = .ok (.iload 5, 2) := by decide +kernel
theorem dJ1_indexOfChar_4cfef_16 : decode cJ1_indexOfChar_4cfef 16 = .ok (.baload, 1) := by decide +kernel
theorem dJ1_indexOfChar_4cfef_17 : decode cJ1_indexOfChar_4cfef 17 = .ok (.iload 4, 2) := by decide +kernel
theorem dJ1_indexOfChar_4cfef_19 : decode cJ1_indexOfChar_4cfef 19 = .ok (.if_icmp .ne 6, 3) := by decide +kernel
theorem dJ1_indexOfChar_4cfef_22 : decode cJ1_indexOfChar_4cfef 22 = .ok (.iload 5, 2) := by decide +kernel
theorem dJ1_indexOfChar_4cfef_24 : decode cJ1_indexOfChar_4cfef 24 = .ok (.ireturn, 1) := by decide +kernel
theorem dJ1_indexOfChar_4cfef_25 : decode cJ1_indexOfChar_4cfef 25 = .ok (.iinc 5 1, 3) := by decide +kernel
theorem dJ1_indexOfChar_4cfef_28 : decode cJ1_indexOfChar_4cfef 28 = .ok (.goto (-21), 3) := by decide +kernel
theorem dJ1_indexOfChar_4cfef_31 : decode cJ1_indexOfChar_4cfef 31 = .ok (.iconst (-1), 1) := by decide +kernel
theorem dJ1_indexOfChar_4cfef_32 : decode cJ1_indexOfChar_4cfef 32 = .ok (.ireturn, 1) := by decide +kernel
theorem dJ2_getChar_3b067_0 : decode cJ2_getChar_3b067 0 = .ok (.getstatic 44, 3) := by decide +kernel
theorem dJ2_getChar_3b067_3 : decode cJ2_getChar_3b067 3 = .ok (.ifCond .ne 25, 3) := by decide +kernel
theorem dJ2_getChar_3b067_6 : decode cJ2_getChar_3b067 6 = .ok (.iload_n 1, 1) := by decide +kernel
theorem dJ2_getChar_3b067_7 : decode cJ2_getChar_3b067 7 = .ok (.ifCond .lt 11, 3) := by decide +kernel
theorem dJ2_getChar_3b067_10 : decode cJ2_getChar_3b067 10 = .ok (.iload_n 1, 1) := by decide +kernel
theorem dJ2_getChar_3b067_11 : decode cJ2_getChar_3b067 11 = .ok (.aload_n 0, 1) := by decide +kernel
theorem dJ2_getChar_3b067_12 : decode cJ2_getChar_3b067 12 = .ok (.invokestatic 48, 3) := by decide +kernel
theorem dJ2_getChar_3b067_15 : decode cJ2_getChar_3b067 15 = .ok (.if_icmp .lt 13, 3) := by decide +kernel
theorem dJ2_getChar_3b067_18 : decode cJ2_getChar_3b067 18 = .ok (.new 52, 3) := by decide +kernel
theorem dJ2_getChar_3b067_21 : decode cJ2_getChar_3b067 21 = .ok (.dup, 1) := by decide +kernel
theorem dJ2_getChar_3b067_22 : decode cJ2_getChar_3b067 22 = .ok (.ldc 54, 2) := by decide +kernel
theorem dJ2_getChar_3b067_24 : decode cJ2_getChar_3b067 24 = .ok (.invokespecial 56, 3) := by decide +kernel
theorem dJ2_getChar_3b067_27 : decode cJ2_getChar_3b067 27 = .ok (.athrow, 1) := by decide +kernel
theorem dJ2_getChar_3b067_28 : decode cJ2_getChar_3b067 28 = .ok (.iload_n 1, 1) := by decide +kernel
theorem dJ2_getChar_3b067_29 : decode cJ2_getChar_3b067 29 = .ok (.iconst 1, 1) := by decide +kernel
theorem dJ2_getChar_3b067_30 : decode cJ2_getChar_3b067 30 = .ok (.ishl, 1) := by decide +kernel
theorem dJ2_getChar_3b067_31 : decode cJ2_getChar_3b067 31 = .ok (.istore_n 1, 1) := by decide +kernel
theorem dJ2_getChar_3b067_32 : decode cJ2_getChar_3b067 32 = .ok (.aload_n 0, 1) := by decide +kernel
theorem dJ2_getChar_3b067_33 : decode cJ2_getChar_3b067 33 = .ok (.iload_n 1, 1) := by decide +kernel
theorem dJ2_getChar_3b067_34 : decode cJ2_getChar_3b067 34 = .ok (.iinc 1 1, 3) := by decide +kernel
theorem dJ2_getChar_3b067_37 : decode cJ2_getChar_3b067 37 = .ok (.baload, 1) := by decide +kernel
theorem dJ2_getChar_3b067_38 : decode cJ2_getChar_3b067 38 = .ok (.sipush 255, 3) := by decide +kernel
theorem dJ2_getChar_3b067_41 : decode cJ2_getChar_3b067 41 = .ok (.iand, 1) := by decide +kernel
theorem dJ2_getChar_3b067_42 : decode cJ2_getChar_3b067 42 = .ok (.getstatic 59, 3) := by decide +kernel
theorem dJ2_getChar_3b067_45 : decode cJ2_getChar_3b067 45 = .ok (.ishl, 1) := by decide +kernel
theorem dJ2_getChar_3b067_46 : decode cJ2_getChar_3b067 46 = .ok (.aload_n 0, 1) := by decide +kernel
theorem dJ2_getChar_3b067_47 : decode cJ2_getChar_3b067 47 = .ok (.iload_n 1, 1) := by decide +kernel
theorem dJ2_getChar_3b067_48 : decode cJ2_getChar_3b067 48 = .ok (.baload, 1) := by decide +kernel
theorem dJ2_getChar_3b067_49 : decode cJ2_getChar_3b067 49 = .ok (.sipush 255, 3) := by decide +kernel
theorem dJ2_getChar_3b067_52 : decode cJ2_getChar_3b067 52 = .ok (.iand, 1) := by decide +kernel
theorem dJ2_getChar_3b067_53 : decode cJ2_getChar_3b067 53 = .ok (.getstatic 63, 3) := by decide +kernel
theorem dJ2_getChar_3b067_56 : decode cJ2_getChar_3b067 56 = .ok (.ishl, 1) := by decide +kernel
theorem dJ2_getChar_3b067_57 : decode cJ2_getChar_3b067 57 = .ok (.ior, 1) := by decide +kernel
theorem dJ2_getChar_3b067_58 : decode cJ2_getChar_3b067 58 = .ok (.i2c, 1) := by decide +kernel
theorem dJ2_getChar_3b067_59 : decode cJ2_getChar_3b067 59 = .ok (.ireturn, 1) := by decide +kernel
theorem dJ2_length_9d52b_0 : decode cJ2_length_9d52b 0 = .ok (.aload_n 0, 1) := by decide +kernel
theorem dJ2_length_9d52b_1 : decode cJ2_length_9d52b 1 = .ok (.arraylength, 1) := by decide +kernel
theorem dJ2_length_9d52b_2 : decode cJ2_length_9d52b 2 = .ok (.iconst 1, 1) := by decide +kernel
theorem dJ2_length_9d52b_3 : decode cJ2_length_9d52b 3 = .ok (.ishr, 1) := by decide +kernel
theorem dJ2_length_9d52b_4 : decode cJ2_length_9d52b 4 = .ok (.ireturn, 1) := by decide +kernel
theorem dJ2_indexOf_4cfef_0 : decode cJ2_indexOf_4cfef 0 = .ok (.iload_n 2, 1) := by decide +kernel
theorem dJ2_indexOf_4cfef_1 : decode cJ2_indexOf_4cfef 1 = .ok (.iconst 0, 1) := by decide +kernel
theorem dJ2_indexOf_4cfef_2 : decode cJ2_indexOf_4cfef 2 = .ok (.invokestatic 224, 3) := by decide +kernel
theorem dJ2_indexOf_4cfef_5 : decode cJ2_indexOf_4cfef 5 = .ok (.istore_n 2, 1) := by decide +kernel
theorem dJ2_indexOf_4cfef_6 : decode cJ2_indexOf_4cfef 6 = .ok (.iload_n 3, 1) := by decide +kernel
theorem dJ2_indexOf_4cfef_7 : decode cJ2_indexOf_4cfef 7 = .ok (.aload_n 0, 1) := by decide +kernel
theorem dJ2_indexOf_4cfef_8 : decode cJ2_indexOf_4cfef 8 = .ok (.arraylength, 1) := by decide +kernel
theorem dJ2_indexOf_4cfef_9 : decode cJ2_indexOf_4cfef 9 = .ok (.iconst 1, 1) := by decide +kernel
theorem dJ2_indexOf_4cfef_10 : decode cJ2_indexOf_4cfef 10 = .ok (.ishr, 1) := by decide +kernel
theorem dJ2_indexOf_4cfef_11 : decode cJ2_indexOf_4cfef 11 = .ok (.invokestatic 183, 3) := by decide +kernel
theorem dJ2_indexOf_4cfef_14 : decode cJ2_indexOf_4cfef 14 = .ok (.istore_n 3, 1) := by decide +kernel
theorem dJ2_indexOf_4cfef_15 : decode cJ2_indexOf_4cfef 15 = .ok (.iload_n 2, 1) := by decide +kernel
theorem dJ2_indexOf_4cfef_16 : decode cJ2_indexOf_4cfef 16 = .ok (.iload_n 3, 1) := by decide +kernel
theorem dJ2_indexOf_4cfef_17 : decode cJ2_indexOf_4cfef 17 = .ok (.if_icmp .lt 5, 3) := by decide +kernel
theorem dJ2_indexOf_4cfef_20 : decode cJ2_indexOf_4cfef 20 = .ok (.iconst (-1), 1) := by decide +kernel
theorem dJ2_indexOf_4cfef_21 : decode cJ2_indexOf_4cfef 21 = .ok (.ireturn, 1) := by decide +kernel
theorem dJ2_indexOf_4cfef_22 : decode cJ2_indexOf_4cfef 22 = .ok (.iload_n 1, 1) := by decide +kernel
theorem dJ2_indexOf_4cfef_23 : decode cJ2_indexOf_4cfef 23 = .ok (.ldc 227, 2) := by decide +kernel
theorem dJ2_indexOf_4cfef_25 : decode cJ2_indexOf_4cfef 25 = .ok (.if_icmp .ge 11, 3) := by decide +kernel
theorem dJ2_indexOf_4cfef_28 : decode cJ2_indexOf_4cfef 28 = .ok (.aload_n 0, 1) := by decide +kernel
theorem dJ2_indexOf_4cfef_29 : decode cJ2_indexOf_4cfef 29 = .ok (.iload_n 1, 1) := by decide +kernel
theorem dJ2_indexOf_4cfef_30 : decode cJ2_indexOf_4cfef 30 = .ok (.iload_n 2, 1) := by decide +kernel
theorem dJ2_indexOf_4cfef_31 : decode cJ2_indexOf_4cfef 31 = .ok (.iload_n 3, 1) := by decide +kernel
theorem dJ2_indexOf_4cfef_32 : decode cJ2_indexOf_4cfef 32 = .ok (.invokestatic 228, 3) := by decide +kernel
theorem dJ2_indexOf_4cfef_35 : decode cJ2_indexOf_4cfef 35 = .ok (.ireturn, 1) := by decide +kernel
theorem dJ2_indexOf_4cfef_36 : decode cJ2_indexOf_4cfef 36 = .ok (.aload_n 0, 1) := by decide +kernel
theorem dJ2_indexOf_4cfef_37 : decode cJ2_indexOf_4cfef 37 = .ok (.iload_n 1, 1) := by decide +kernel
theorem dJ2_indexOf_4cfef_38 : decode cJ2_indexOf_4cfef 38 = .ok (.iload_n 2, 1) := by decide +kernel
theorem dJ2_indexOf_4cfef_39 : decode cJ2_indexOf_4cfef 39 = .ok (.iload_n 3, 1) := by decide +kernel
theorem dJ2_indexOf_4cfef_40 : decode cJ2_indexOf_4cfef 40 = .ok (.invokestatic 232, 3) := by decide +kernel
theorem dJ2_indexOf_4cfef_43 : decode cJ2_indexOf_4cfef 43 = .ok (.ireturn, 1) := by decide +kernel
theorem dJ2_indexOfChar_4cfef_0 : decode cJ2_indexOfChar_4cfef 0 = .ok (.iload_n 2, 1) := by decide +kernel
theorem dJ2_indexOfChar_4cfef_1 : decode cJ2_indexOfChar_4cfef 1 = .ok (.iload_n 3, 1) := by decide +kernel
theorem dJ2_indexOfChar_4cfef_2 : decode cJ2_indexOfChar_4cfef 2 = .ok (.aload_n 0, 1) := by decide +kernel
theorem dJ2_indexOfChar_4cfef_3 : decode cJ2_indexOfChar_4cfef 3 = .ok (.invokestatic 96, 3) := by decide +kernel
theorem dJ2_indexOfChar_4cfef_6 : decode cJ2_indexOfChar_4cfef 6 = .ok (.aload_n 0, 1) := by decide +kernel
theorem dJ2_indexOfChar_4cfef_7 : decode cJ2_indexOfChar_4cfef 7 = .ok (.iload_n 1, 1) := by decide +kernel
theorem dJ2_indexOfChar_4cfef_8 : decode cJ2_indexOfChar_4cfef 8 = .ok (.iload_n 2, 1) := by decide +kernel
theorem dJ2_indexOfChar_4cfef_9 : decode cJ2_indexOfChar_4cfef 9 = .ok (.iload_n 3, 1) := by decide +kernel
theorem dJ2_indexOfChar_4cfef_10 : decode cJ2_indexOfChar_4cfef 10 = .ok (.invokestatic 244, 3) := by decide +kernel
theorem dJ2_indexOfChar_4cfef_13 : decode cJ2_indexOfChar_4cfef 13 = .ok (.ireturn, 1) := by decide +kernel
theorem dJ2_indexOfCharUnsafe_4cfef_0 : decode cJ2_indexOfCharUnsafe_4cfef 0 = .ok (.iload_n 2, 1) := by decide +kernel
theorem dJ2_indexOfCharUnsafe_4cfef_1 : decode cJ2_indexOfCharUnsafe_4cfef 1 = .ok (.istore 4, 2) := by decide +kernel
theorem dJ2_indexOfCharUnsafe_4cfef_3 : decode cJ2_indexOfCharUnsafe_4cfef 3 = .ok (.iload 4, 2) := by decide +kernel
theorem dJ2_indexOfCharUnsafe_4cfef_5 : decode cJ2_indexOfCharUnsafe_4cfef 5 = .ok (.iload_n 3, 1) := by decide +kernel
theorem dJ2_indexOfCharUnsafe_4cfef_6 : decode cJ2_indexOfCharUnsafe_4cfef 6 = .ok (.if_icmp .ge 22, 3) := by decide +kernel
theorem dJ2_indexOfCharUnsafe_4cfef_9 : decode cJ2_indexOfCharUnsafe_4cfef 9 = .ok (.aload_n 0, 1) := by decide +kernel
theorem dJ2_indexOfCharUnsafe_4cfef_10 : decode cJ2_indexOfCharUnsafe_4cfef 10 = .ok (.iload 4, 2) := by decide +kernel
theorem dJ2_indexOfCharUnsafe_4cfef_12 : decode cJ2_indexOfCharUnsafe_4cfef 12 = .ok (.invokestatic 71, 3) := by decide +kernel
theorem dJ2_indexOfCharUnsafe_4cfef_15 : decode cJ2_indexOfCharUnsafe_4cfef 15 = .ok (.iload_n 1, 1) := by decide +kernel
theorem dJ2_indexOfCharUnsafe_4cfef_16 : decode cJ2_indexOfCharUnsafe_4cfef 16 = .ok (.if_icmp .ne 6, 3) := by decide +kernel
theorem dJ2_indexOfCharUnsafe_4cfef_19 : decode cJ2_indexOfCharUnsafe_4cfef 19 = .ok (.iload 4, 2) := by decide +kernel
theorem dJ2_indexOfCharUnsafe_4cfef_21 : decode cJ2_indexOfCharUnsafe_4cfef 21 = .ok (.ireturn, 1) := by decide +kernel
theorem dJ2_indexOfCharUnsafe_4cfef_22 : decode cJ2_indexOfCharUnsafe_4cfef 22 = .ok (.iinc 4 1, 3) := by decide +kernel
theorem dJ2_indexOfCharUnsafe_4cfef_25 : decode cJ2_indexOfCharUnsafe_4cfef 25 = .ok (.goto (-22), 3) := by decide +kernel
theorem dJ2_indexOfCharUnsafe_4cfef_28 : decode cJ2_indexOfCharUnsafe_4cfef 28 = .ok (.iconst (-1), 1) := by decide +kernel
theorem dJ2_indexOfCharUnsafe_4cfef_29 : decode cJ2_indexOfCharUnsafe_4cfef 29 = .ok (.ireturn, 1) := by decide +kernel
theorem dJ2_indexOfSupplementary_4cfef_0 : decode cJ2_indexOfSupplementary_4cfef 0 = .ok (.iload_n 1, 1) := by decide +kernel
theorem dJ2_indexOfSupplementary_4cfef_1 : decode cJ2_indexOfSupplementary_4cfef 1 = .ok (.invokestatic 164, 3) := by decide +kernel
theorem dJ2_indexOfSupplementary_4cfef_4 : decode cJ2_indexOfSupplementary_4cfef 4 = .ok (.ifCond .eq 65, 3) := by decide +kernel
theorem dJ2_indexOfSupplementary_4cfef_7 : decode cJ2_indexOfSupplementary_4cfef 7 = .ok (.iload_n 1, 1) := by decide +kernel
theorem dJ2_indexOfSupplementary_4cfef_8 : decode cJ2_indexOfSupplementary_4cfef 8 = .ok (.invokestatic 157, 3) := by decide +kernel
theorem dJ2_indexOfSupplementary_4cfef_11 : decode cJ2_indexOfSupplementary_4cfef 11 = .ok (.istore 4, 2) := by decide +kernel
theorem dJ2_indexOfSupplementary_4cfef_13 : decode cJ2_indexOfSupplementary_4cfef 13 = .ok (.iload_n 1, 1) := by decide +kernel
theorem dJ2_indexOfSupplementary_4cfef_14 : decode cJ2_indexOfSupplementary_4cfef 14 = .ok (.invokestatic 161, 3) := by decide +kernel
theorem dJ2_indexOfSupplementary_4cfef_17 : decode cJ2_indexOfSupplementary_4cfef 17 = .ok (.istore 5, 2) := by decide +kernel
theorem dJ2_indexOfSupplementary_4cfef_19 : decode cJ2_indexOfSupplementary_4cfef 19 = .ok (.iload_n 2, 1) := by decide +kernel
theorem dJ2_indexOfSupplementary_4cfef_20 : decode cJ2_indexOfSupplementary_4cfef 20 = .ok (.iload_n 3, 1) := by decide +kernel
theorem dJ2_indexOfSupplementary_4cfef_21 : decode cJ2_indexOfSupplementary_4cfef 21 = .ok (.aload_n 0, 1) := by decide +kernel
theorem dJ2_indexOfSupplementary_4cfef_22 : decode cJ2_indexOfSupplementary_4cfef 22 = .ok (.invokestatic 96, 3) := by decide +kernel
theorem dJ2_indexOfSupplementary_4cfef_25 : decode cJ2_indexOfSupplementary_4cfef 25 = .ok (.iload_n 2, 1) := by decide +kernel
theorem dJ2_indexOfSupplementary_4cfef_26 : decode cJ2_indexOfSupplementary_4cfef 26 = .ok (.istore 6, 2) := by decide +kernel
theorem dJ2_indexOfSupplementary_4cfef_28 : decode cJ2_indexOfSupplementary_4cfef 28 = .ok (.iload 6, 2) := by decide +kernel
theorem dJ2_indexOfSupplementary_4cfef_30 : decode cJ2_indexOfSupplementary_4cfef 30 = .ok (.iload_n 3, 1) := by decide +kernel
theorem dJ2_indexOfSupplementary_4cfef_31 : decode cJ2_indexOfSupplementary_4cfef 31 = .ok (.iconst 1, 1) := by decide +kernel
theorem dJ2_indexOfSupplementary_4cfef_32 : decode cJ2_indexOfSupplementary_4cfef 32 = .ok (.isub, 1) := by decide +kernel
theorem dJ2_indexOfSupplementary_4cfef_33 : decode cJ2_indexOfSupplementary_4cfef 33 = .ok (.if_icmp .ge 36, 3) := by decide +kernel
theorem dJ2_indexOfSupplementary_4cfef_36 : decode cJ2_indexOfSupplementary_4cfef 36 = .ok (.aload_n 0, 1) := by decide +kernel
theorem dJ2_indexOfSupplementary_4cfef_37 : decode cJ2_indexOfSupplementary_4cfef 37 = .ok (.iload 6, 2) := by decide +kernel
theorem dJ2_indexOfSupplementary_4cfef_39 : decode cJ2_indexOfSupplementary_4cfef 39 = .ok (.invokestatic 71, 3) := by decide +kernel
theorem dJ2_indexOfSupplementary_4cfef_42 : decode cJ2_indexOfSupplementary_4cfef 42 = .ok (.iload 4, 2) := by decide +kernel
theorem dJ2_indexOfSupplementary_4cfef_44 : decode cJ2_indexOfSupplementary_4cfef 44 = .ok (.if_icmp .ne 19, 3) := by decide +kernel
theorem dJ2_indexOfSupplementary_4cfef_47 : decode cJ2_indexOfSupplementary_4cfef 47 = .ok (.aload_n 0, 1) := by decide +kernel
theorem dJ2_indexOfSupplementary_4cfef_48 : decode cJ2_indexOfSupplementary_4cfef 48 = .ok (.iload 6, 2) := by decide +kernel
theorem dJ2_indexOfSupplementary_4cfef_50 : decode cJ2_indexOfSupplementary_4cfef 50 = .ok (.iconst 1, 1) := by decide +kernel
theorem dJ2_indexOfSupplementary_4cfef_51 : decode cJ2_indexOfSupplementary_4cfef 51 = .ok (.iadd, 1) := by decide +kernel
theorem dJ2_indexOfSupplementary_4cfef_52 : decode cJ2_indexOfSupplementary_4cfef 52 = .ok (.invokestatic 71, 3) := by decide +kernel
theorem dJ2_indexOfSupplementary_4cfef_55 : decode cJ2_indexOfSupplementary_4cfef 55 = .ok (.iload 5, 2) := by decide +kernel
theorem dJ2_indexOfSupplementary_4cfef_57 : decode cJ2_indexOfSupplementary_4cfef 57 = .ok (.if_icmp .ne 6, 3) := by decide +kernel
theorem dJ2_indexOfSupplementary_4cfef_60 : decode cJ2_indexOfSupplementary_4cfef 60 = .ok (.iload 6, 2) := by decide +kernel
theorem dJ2_indexOfSupplementary_4cfef_62 : decode cJ2_indexOfSupplementary_4cfef 62 = .ok (.ireturn, 1) := by decide +kernel
theorem dJ2_indexOfSupplementary_4cfef_63 : decode cJ2_indexOfSupplementary_4cfef 63 = .ok (.iinc 6 1, 3) := by decide +kernel
theorem dJ2_indexOfSupplementary_4cfef_66 : decode cJ2_indexOfSupplementary_4cfef 66 = .ok (.goto (-38), 3) := by decide +kernel
theorem dJ2_indexOfSupplementary_4cfef_69 : decode cJ2_indexOfSupplementary_4cfef 69 = .ok (.iconst (-1), 1) := by decide +kernel
theorem dJ2_indexOfSupplementary_4cfef_70 : decode cJ2_indexOfSupplementary_4cfef 70 = .ok (.ireturn, 1) := by decide +kernel
theorem dJ2_checkBoundsBeginEnd_d044e_0 : decode cJ2_checkBoundsBeginEnd_d044e 0 = .ok (.iload_n 0, 1) := by decide +kernel
theorem dJ2_checkBoundsBeginEnd_d044e_1 : decode cJ2_checkBoundsBeginEnd_d044e 1 = .ok (.iload_n 1, 1) := by decide +kernel
theorem dJ2_checkBoundsBeginEnd_d044e_2 : decode cJ2_checkBoundsBeginEnd_d044e 2 = .ok (.aload_n 2, 1) := by decide +kernel
theorem dJ2_checkBoundsBeginEnd_d044e_3 : decode cJ2_checkBoundsBeginEnd_d044e 3 = .ok (.invokestatic 48, 3) := by decide +kernel
theorem dJ2_checkBoundsBeginEnd_d044e_6 : decode cJ2_checkBoundsBeginEnd_d044e 6 = .ok (.invokestatic 241, 3) := by decide +kernel
theorem dJ2_checkBoundsBeginEnd_d044e_9 : decode cJ2_checkBoundsBeginEnd_d044e 9 = .ok (.return_, 1) := by decide +kernel
theorem dJ3_checkFromToIndex_8c36e_0 : decode cJ3_checkFromToIndex_8c36e 0 = .ok (.iload_n 0, 1) := by decide +kernel
theorem dJ3_checkFromToIndex_8c36e_1 : decode cJ3_checkFromToIndex_8c36e 1 = .ok (.ifCond .lt 13, 3) := by decide +kernel
theorem dJ3_checkFromToIndex_8c36e_4 : decode cJ3_checkFromToIndex_8c36e 4 = .ok (.iload_n 0, 1) := by decide +kernel
theorem dJ3_checkFromToIndex_8c36e_5 : decode cJ3_checkFromToIndex_8c36e 5 = .ok (.iload_n 1, 1) := by decide +kernel
theorem dJ3_checkFromToIndex_8c36e_6 : decode cJ3_checkFromToIndex_8c36e 6 = .ok (.if_icmp .gt 8, 3) := by decide +kernel
theorem dJ3_checkFromToIndex_8c36e_9 : decode cJ3_checkFromToIndex_8c36e 9 = .ok (.iload_n 1, 1) := by decide +kernel
theorem dJ3_checkFromToIndex_8c36e_10 : decode cJ3_checkFromToIndex_8c36e 10 = .ok (.iload_n 2, 1) := by decide +kernel
theorem dJ3_checkFromToIndex_8c36e_11 : decode cJ3_checkFromToIndex_8c36e 11 = .ok (.if_icmp .le 11, 3) := by decide +kernel
theorem dJ3_checkFromToIndex_8c36e_14 : decode cJ3_checkFromToIndex_8c36e 14 = .ok (.aload_n 3, 1) := by decide +kernel
theorem dJ3_checkFromToIndex_8c36e_15 : decode cJ3_checkFromToIndex_8c36e 15 = .ok (.iload_n 0, 1) := by decide +kernel
theorem dJ3_checkFromToIndex_8c36e_16 : decode cJ3_checkFromToIndex_8c36e 16 = .ok (.iload_n 1, 1) := by decide +kernel
theorem dJ3_checkFromToIndex_8c36e_17 : decode cJ3_checkFromToIndex_8c36e 17 = .ok (.iload_n 2, 1) := by decide +kernel
theorem dJ3_checkFromToIndex_8c36e_18 : decode cJ3_checkFromToIndex_8c36e 18 = .ok (.invokestatic 99, 3) := by decide +kernel
theorem dJ3_checkFromToIndex_8c36e_21 : decode cJ3_checkFromToIndex_8c36e 21 = .ok (.athrow, 1) := by decide +kernel
theorem dJ3_checkFromToIndex_8c36e_22 : decode cJ3_checkFromToIndex_8c36e 22 = .ok (.iload_n 0, 1) := by decide +kernel
theorem dJ3_checkFromToIndex_8c36e_23 : decode cJ3_checkFromToIndex_8c36e 23 = .ok (.ireturn, 1) := by decide +kernel
theorem dL_feed_0 : decode cL_feed 0 = .ok (.aload 6, 2) := by decide +kernel
theorem dL_feed_2 : decode cL_feed 2 = .ok (.iconst 0, 1) := by decide +kernel
theorem dL_feed_3 : decode cL_feed 3 = .ok (.aload_n 0, 1) := by decide +kernel
theorem dL_feed_4 : decode cL_feed 4 = .ok (.iload_n 1, 1) := by decide +kernel
theorem dL_feed_5 : decode cL_feed 5 = .ok (.iload_n 2, 1) := by decide +kernel
theorem dL_feed_6 : decode cL_feed 6 = .ok (.iload_n 3, 1) := by decide +kernel
theorem dL_feed_7 : decode cL_feed 7 = .ok (.iload 4, 2) := by decide +kernel
theorem dL_feed_9 : decode cL_feed 9 = .ok (.iload 5, 2) := by decide +kernel
theorem dL_feed_11 : decode cL_feed 11 = .ok (.invokevirtual 7, 3) := by decide +kernel
theorem dL_feed_14 : decode cL_feed 14 = .ok (.i2l, 1) := by decide +kernel
theorem dL_feed_15 : decode cL_feed 15 = .ok (.lastore, 1) := by decide +kernel
theorem dL_feed_16 : decode cL_feed 16 = .ok (.goto 11, 3) := by decide +kernel
theorem dL_feed_19 : decode cL_feed 19 = .ok (.astore 7, 2) := by decide +kernel
theorem dL_feed_21 : decode cL_feed 21 = .ok (.iconst 1, 1) := by decide +kernel
theorem dL_feed_22 : decode cL_feed 22 = .ok (.ireturn, 1) := by decide +kernel
theorem dL_feed_23 : decode cL_feed 23 = .ok (.astore 7, 2) := by decide +kernel
theorem dL_feed_25 : decode cL_feed 25 = .ok (.iconst 2, 1) := by decide +kernel
theorem dL_feed_26 : decode cL_feed 26 = .ok (.ireturn, 1) := by decide +kernel
theorem dL_feed_27 : decode cL_feed 27 = .ok (.iconst 0, 1) := by decide +kernel
theorem dL_feed_28 : decode cL_feed 28 = .ok (.ireturn, 1) := by decide +kernel
theorem dL_run_0 : decode cL_run 0 = .ok (.aload 5, 2) := by decide +kernel
theorem dL_run_2 : decode cL_run 2 = .ok (.iconst 0, 1) := by decide +kernel
theorem dL_run_3 : decode cL_run 3 = .ok (.aload_n 0, 1) := by decide +kernel
theorem dL_run_4 : decode cL_run 4 = .ok (.iload_n 1, 1) := by decide +kernel
theorem dL_run_5 : decode cL_run 5 = .ok (.iload_n 2, 1) := by decide +kernel
theorem dL_run_6 : decode cL_run 6 = .ok (.iload_n 3, 1) := by decide +kernel
theorem dL_run_7 : decode cL_run 7 = .ok (.iload 4, 2) := by decide +kernel
theorem dL_run_9 : decode cL_run 9 = .ok (.invokevirtual 17, 3) := by decide +kernel
theorem dL_run_12 : decode cL_run 12 = .ok (.i2l, 1) := by decide +kernel
theorem dL_run_13 : decode cL_run 13 = .ok (.lastore, 1) := by decide +kernel
theorem dL_run_14 : decode cL_run 14 = .ok (.goto 11, 3) := by decide +kernel
theorem dL_run_17 : decode cL_run 17 = .ok (.astore 6, 2) := by decide +kernel
theorem dL_run_19 : decode cL_run 19 = .ok (.iconst 1, 1) := by decide +kernel
theorem dL_run_20 : decode cL_run 20 = .ok (.ireturn, 1) := by decide +kernel
theorem dL_run_21 : decode cL_run 21 = .ok (.astore 6, 2) := by decide +kernel
theorem dL_run_23 : decode cL_run 23 = .ok (.iconst 2, 1) := by decide +kernel
theorem dL_run_24 : decode cL_run 24 = .ok (.ireturn, 1) := by decide +kernel
theorem dL_run_25 : decode cL_run 25 = .ok (.iconst 0, 1) := by decide +kernel
theorem dL_run_26 : decode cL_run 26 = .ok (.ireturn, 1) := by decide +kernel
theorem dL_count_0 : decode cL_count 0 = .ok (.aload_n 2, 1) := by decide +kernel
theorem dL_count_1 : decode cL_count 1 = .ok (.iconst 0, 1) := by decide +kernel
theorem dL_count_2 : decode cL_count 2 = .ok (.aload_n 0, 1) := by decide +kernel
theorem dL_count_3 : decode cL_count 3 = .ok (.iload_n 1, 1) := by decide +kernel
theorem dL_count_4 : decode cL_count 4 = .ok (.invokevirtual 23, 3) := by decide +kernel
theorem dL_count_7 : decode cL_count 7 = .ok (.i2l, 1) := by decide +kernel
theorem dL_count_8 : decode cL_count 8 = .ok (.lastore, 1) := by decide +kernel
theorem dL_count_9 : decode cL_count 9 = .ok (.goto 6, 3) := by decide +kernel
theorem dL_count_12 : decode cL_count 12 = .ok (.astore_n 3, 1) := by decide +kernel
theorem dL_count_13 : decode cL_count 13 = .ok (.iconst 1, 1) := by decide +kernel
theorem dL_count_14 : decode cL_count 14 = .ok (.ireturn, 1) := by decide +kernel
theorem dL_count_15 : decode cL_count 15 = .ok (.iconst 0, 1) := by decide +kernel
theorem dL_count_16 : decode cL_count 16 = .ok (.ireturn, 1) := by decide +kernel
theorem dL_definition_0 : decode cL_definition 0 = .ok (.aload_n 3, 1) := by decide +kernel
theorem dL_definition_1 : decode cL_definition 1 = .ok (.iconst 0, 1) := by decide +kernel
theorem dL_definition_2 : decode cL_definition 2 = .ok (.aload_n 0, 1) := by decide +kernel
theorem dL_definition_3 : decode cL_definition 3 = .ok (.iload_n 1, 1) := by decide +kernel
theorem dL_definition_4 : decode cL_definition 4 = .ok (.iload_n 2, 1) := by decide +kernel
theorem dL_definition_5 : decode cL_definition 5 = .ok (.invokevirtual 29, 3) := by decide +kernel
theorem dL_definition_8 : decode cL_definition 8 = .ok (.i2l, 1) := by decide +kernel
theorem dL_definition_9 : decode cL_definition 9 = .ok (.lastore, 1) := by decide +kernel
theorem dL_definition_10 : decode cL_definition 10 = .ok (.goto 7, 3) := by decide +kernel
theorem dL_definition_13 : decode cL_definition 13 = .ok (.astore 4, 2) := by decide +kernel
theorem dL_definition_15 : decode cL_definition 15 = .ok (.iconst 1, 1) := by decide +kernel
theorem dL_definition_16 : decode cL_definition 16 = .ok (.ireturn, 1) := by decide +kernel
theorem dL_definition_17 : decode cL_definition 17 = .ok (.iconst 0, 1) := by decide +kernel
theorem dL_definition_18 : decode cL_definition 18 = .ok (.ireturn, 1) := by decide +kernel
theorem dL_law_0 : decode cL_law 0 = .ok (.new 8, 3) := by decide +kernel
theorem dL_law_3 : decode cL_law 3 = .ok (.dup, 1) := by decide +kernel
theorem dL_law_4 : decode cL_law 4 = .ok (.invokespecial 33, 3) := by decide +kernel
theorem dL_law_7 : decode cL_law 7 = .ok (.astore_n 1, 1) := by decide +kernel
theorem dL_law_8 : decode cL_law 8 = .ok (.new 34, 3) := by decide +kernel
theorem dL_law_11 : decode cL_law 11 = .ok (.dup, 1) := by decide +kernel
theorem dL_law_12 : decode cL_law 12 = .ok (.invokespecial 36, 3) := by decide +kernel
theorem dL_law_15 : decode cL_law 15 = .ok (.astore_n 2, 1) := by decide +kernel
theorem dL_law_16 : decode cL_law 16 = .ok (.iconst 1, 1) := by decide +kernel
theorem dL_law_17 : decode cL_law 17 = .ok (.newarray .long, 2) := by decide +kernel
theorem dL_law_19 : decode cL_law 19 = .ok (.astore_n 3, 1) := by decide +kernel
theorem dL_law_20 : decode cL_law 20 = .ok (.iconst 0, 1) := by decide +kernel
theorem dL_law_21 : decode cL_law 21 = .ok (.istore 4, 2) := by decide +kernel
theorem dL_law_23 : decode cL_law 23 = .ok (.iload 4, 2) := by decide +kernel
theorem dL_law_25 : decode cL_law 25 = .ok (.aload_n 0, 1) := by decide +kernel
theorem dL_law_26 : decode cL_law 26 = .ok (.arraylength, 1) := by decide +kernel
theorem dL_law_27 : decode cL_law 27 = .ok (.bipush 6, 2) := by decide +kernel
theorem dL_law_29 : decode cL_law 29 = .ok (.isub, 1) := by decide +kernel
theorem dL_law_30 : decode cL_law 30 = .ok (.if_icmp .gt 417, 3) := by decide +kernel
theorem dL_law_33 : decode cL_law 33 = .ok (.aload_n 0, 1) := by decide +kernel
theorem dL_law_34 : decode cL_law 34 = .ok (.iload 4, 2) := by decide +kernel
theorem dL_law_36 : decode cL_law 36 = .ok (.iaload, 1) := by decide +kernel
theorem dL_law_37 : decode cL_law 37 = .ok (.bipush 7, 2) := by decide +kernel
theorem dL_law_39 : decode cL_law 39 = .ok (.iand, 1) := by decide +kernel
theorem dL_law_40 : decode cL_law 40 = .ok (.tableswitch 401 0 6 #[44, 148, 161, 253, 266, 322, 390], 44) := by decide +kernel
theorem dL_law_84 : decode cL_law 84 = .ok (.aload_n 1, 1) := by decide +kernel
theorem dL_law_85 : decode cL_law 85 = .ok (.aload_n 0, 1) := by decide +kernel
theorem dL_law_86 : decode cL_law 86 = .ok (.iload 4, 2) := by decide +kernel
theorem dL_law_88 : decode cL_law 88 = .ok (.iconst 1, 1) := by decide +kernel
theorem dL_law_89 : decode cL_law 89 = .ok (.iadd, 1) := by decide +kernel
theorem dL_law_90 : decode cL_law 90 = .ok (.iaload, 1) := by decide +kernel
theorem dL_law_91 : decode cL_law 91 = .ok (.aload_n 0, 1) := by decide +kernel
theorem dL_law_92 : decode cL_law 92 = .ok (.iload 4, 2) := by decide +kernel
theorem dL_law_94 : decode cL_law 94 = .ok (.iconst 2, 1) := by decide +kernel
theorem dL_law_95 : decode cL_law 95 = .ok (.iadd, 1) := by decide +kernel
theorem dL_law_96 : decode cL_law 96 = .ok (.iaload, 1) := by decide +kernel
theorem dL_law_97 : decode cL_law 97 = .ok (.aload_n 0, 1) := by decide +kernel
theorem dL_law_98 : decode cL_law 98 = .ok (.iload 4, 2) := by decide +kernel
theorem dL_law_100 : decode cL_law 100 = .ok (.iconst 3, 1) := by decide +kernel
theorem dL_law_101 : decode cL_law 101 = .ok (.iadd, 1) := by decide +kernel
theorem dL_law_102 : decode cL_law 102 = .ok (.iaload, 1) := by decide +kernel
theorem dL_law_103 : decode cL_law 103 = .ok (.aload_n 0, 1) := by decide +kernel
theorem dL_law_104 : decode cL_law 104 = .ok (.iload 4, 2) := by decide +kernel
theorem dL_law_106 : decode cL_law 106 = .ok (.iconst 4, 1) := by decide +kernel
theorem dL_law_107 : decode cL_law 107 = .ok (.iadd, 1) := by decide +kernel
theorem dL_law_108 : decode cL_law 108 = .ok (.iaload, 1) := by decide +kernel
theorem dL_law_109 : decode cL_law 109 = .ok (.aload_n 0, 1) := by decide +kernel
theorem dL_law_110 : decode cL_law 110 = .ok (.iload 4, 2) := by decide +kernel
theorem dL_law_112 : decode cL_law 112 = .ok (.iconst 5, 1) := by decide +kernel
theorem dL_law_113 : decode cL_law 113 = .ok (.iadd, 1) := by decide +kernel
theorem dL_law_114 : decode cL_law 114 = .ok (.iaload, 1) := by decide +kernel
theorem dL_law_115 : decode cL_law 115 = .ok (.aload_n 3, 1) := by decide +kernel
theorem dL_law_116 : decode cL_law 116 = .ok (.invokestatic 37, 3) := by decide +kernel
theorem dL_law_119 : decode cL_law 119 = .ok (.istore 5, 2) := by decide +kernel
theorem dL_law_121 : decode cL_law 121 = .ok (.aload_n 2, 1) := by decide +kernel
theorem dL_law_122 : decode cL_law 122 = .ok (.aload_n 0, 1) := by decide +kernel
theorem dL_law_123 : decode cL_law 123 = .ok (.iload 4, 2) := by decide +kernel
theorem dL_law_125 : decode cL_law 125 = .ok (.iconst 1, 1) := by decide +kernel
theorem dL_law_126 : decode cL_law 126 = .ok (.iadd, 1) := by decide +kernel
theorem dL_law_127 : decode cL_law 127 = .ok (.iaload, 1) := by decide +kernel
theorem dL_law_128 : decode cL_law 128 = .ok (.aload_n 0, 1) := by decide +kernel
theorem dL_law_129 : decode cL_law 129 = .ok (.iload 4, 2) := by decide +kernel
theorem dL_law_131 : decode cL_law 131 = .ok (.iconst 2, 1) := by decide +kernel
theorem dL_law_132 : decode cL_law 132 = .ok (.iadd, 1) := by decide +kernel
theorem dL_law_133 : decode cL_law 133 = .ok (.iaload, 1) := by decide +kernel
theorem dL_law_134 : decode cL_law 134 = .ok (.aload_n 0, 1) := by decide +kernel
theorem dL_law_135 : decode cL_law 135 = .ok (.iload 4, 2) := by decide +kernel
theorem dL_law_137 : decode cL_law 137 = .ok (.iconst 3, 1) := by decide +kernel
theorem dL_law_138 : decode cL_law 138 = .ok (.iadd, 1) := by decide +kernel
theorem dL_law_139 : decode cL_law 139 = .ok (.iaload, 1) := by decide +kernel
theorem dL_law_140 : decode cL_law 140 = .ok (.aload_n 0, 1) := by decide +kernel
theorem dL_law_141 : decode cL_law 141 = .ok (.iload 4, 2) := by decide +kernel
theorem dL_law_143 : decode cL_law 143 = .ok (.iconst 4, 1) := by decide +kernel
theorem dL_law_144 : decode cL_law 144 = .ok (.iadd, 1) := by decide +kernel
theorem dL_law_145 : decode cL_law 145 = .ok (.iaload, 1) := by decide +kernel
theorem dL_law_146 : decode cL_law 146 = .ok (.aload_n 0, 1) := by decide +kernel
theorem dL_law_147 : decode cL_law 147 = .ok (.iload 4, 2) := by decide +kernel
theorem dL_law_149 : decode cL_law 149 = .ok (.iconst 5, 1) := by decide +kernel
theorem dL_law_150 : decode cL_law 150 = .ok (.iadd, 1) := by decide +kernel
theorem dL_law_151 : decode cL_law 151 = .ok (.iaload, 1) := by decide +kernel
theorem dL_law_152 : decode cL_law 152 = .ok (.invokevirtual 42, 3) := by decide +kernel
theorem dL_law_155 : decode cL_law 155 = .ok (.istore 6, 2) := by decide +kernel
theorem dL_law_157 : decode cL_law 157 = .ok (.aload_n 2, 1) := by decide +kernel
theorem dL_law_158 : decode cL_law 158 = .ok (.invokevirtual 43, 3) := by decide +kernel
theorem dL_law_161 : decode cL_law 161 = .ok (.iload 5, 2) := by decide +kernel
theorem dL_law_163 : decode cL_law 163 = .ok (.if_icmp .eq 5, 3) := by decide +kernel
theorem dL_law_166 : decode cL_law 166 = .ok (.iconst 0, 1) := by decide +kernel
theorem dL_law_167 : decode cL_law 167 = .ok (.ireturn, 1) := by decide +kernel
theorem dL_law_168 : decode cL_law 168 = .ok (.iload 5, 2) := by decide +kernel
theorem dL_law_170 : decode cL_law 170 = .ok (.ifCond .ne 15, 3) := by decide +kernel
theorem dL_law_173 : decode cL_law 173 = .ok (.aload_n 3, 1) := by decide +kernel
theorem dL_law_174 : decode cL_law 174 = .ok (.iconst 0, 1) := by decide +kernel
theorem dL_law_175 : decode cL_law 175 = .ok (.laload, 1) := by decide +kernel
theorem dL_law_176 : decode cL_law 176 = .ok (.iload 6, 2) := by decide +kernel
theorem dL_law_178 : decode cL_law 178 = .ok (.i2l, 1) := by decide +kernel
theorem dL_law_179 : decode cL_law 179 = .ok (.lcmp, 1) := by decide +kernel
theorem dL_law_180 : decode cL_law 180 = .ok (.ifCond .eq 5, 3) := by decide +kernel
theorem dL_law_183 : decode cL_law 183 = .ok (.iconst 0, 1) := by decide +kernel
theorem dL_law_184 : decode cL_law 184 = .ok (.ireturn, 1) := by decide +kernel
theorem dL_law_185 : decode cL_law 185 = .ok (.goto 256, 3) := by decide +kernel
theorem dL_law_188 : decode cL_law 188 = .ok (.aload_n 1, 1) := by decide +kernel
theorem dL_law_189 : decode cL_law 189 = .ok (.invokevirtual 47, 3) := by decide +kernel
theorem dL_law_192 : decode cL_law 192 = .ok (.aload_n 2, 1) := by decide +kernel
theorem dL_law_193 : decode cL_law 193 = .ok (.invokevirtual 50, 3) := by decide +kernel
theorem dL_law_196 : decode cL_law 196 = .ok (.if_icmp .eq 245, 3) := by decide +kernel
theorem dL_law_199 : decode cL_law 199 = .ok (.iconst 0, 1) := by decide +kernel
theorem dL_law_200 : decode cL_law 200 = .ok (.ireturn, 1) := by decide +kernel
theorem dL_law_201 : decode cL_law 201 = .ok (.aload_n 1, 1) := by decide +kernel
theorem dL_law_202 : decode cL_law 202 = .ok (.aload_n 0, 1) := by decide +kernel
theorem dL_law_203 : decode cL_law 203 = .ok (.iload 4, 2) := by decide +kernel
theorem dL_law_205 : decode cL_law 205 = .ok (.iconst 1, 1) := by decide +kernel
theorem dL_law_206 : decode cL_law 206 = .ok (.iadd, 1) := by decide +kernel
theorem dL_law_207 : decode cL_law 207 = .ok (.iaload, 1) := by decide +kernel
theorem dL_law_208 : decode cL_law 208 = .ok (.aload_n 0, 1) := by decide +kernel
theorem dL_law_209 : decode cL_law 209 = .ok (.iload 4, 2) := by decide +kernel
theorem dL_law_211 : decode cL_law 211 = .ok (.iconst 2, 1) := by decide +kernel
theorem dL_law_212 : decode cL_law 212 = .ok (.iadd, 1) := by decide +kernel
theorem dL_law_213 : decode cL_law 213 = .ok (.iaload, 1) := by decide +kernel
theorem dL_law_214 : decode cL_law 214 = .ok (.aload_n 0, 1) := by decide +kernel
theorem dL_law_215 : decode cL_law 215 = .ok (.iload 4, 2) := by decide +kernel
theorem dL_law_217 : decode cL_law 217 = .ok (.iconst 3, 1) := by decide +kernel
theorem dL_law_218 : decode cL_law 218 = .ok (.iadd, 1) := by decide +kernel
theorem dL_law_219 : decode cL_law 219 = .ok (.iaload, 1) := by decide +kernel
theorem dL_law_220 : decode cL_law 220 = .ok (.aload_n 0, 1) := by decide +kernel
theorem dL_law_221 : decode cL_law 221 = .ok (.iload 4, 2) := by decide +kernel
theorem dL_law_223 : decode cL_law 223 = .ok (.iconst 4, 1) := by decide +kernel
theorem dL_law_224 : decode cL_law 224 = .ok (.iadd, 1) := by decide +kernel
theorem dL_law_225 : decode cL_law 225 = .ok (.iaload, 1) := by decide +kernel
theorem dL_law_226 : decode cL_law 226 = .ok (.aload_n 3, 1) := by decide +kernel
theorem dL_law_227 : decode cL_law 227 = .ok (.invokestatic 51, 3) := by decide +kernel
theorem dL_law_230 : decode cL_law 230 = .ok (.istore 5, 2) := by decide +kernel
theorem dL_law_232 : decode cL_law 232 = .ok (.aload_n 2, 1) := by decide +kernel
theorem dL_law_233 : decode cL_law 233 = .ok (.aload_n 0, 1) := by decide +kernel
theorem dL_law_234 : decode cL_law 234 = .ok (.iload 4, 2) := by decide +kernel
theorem dL_law_236 : decode cL_law 236 = .ok (.iconst 1, 1) := by decide +kernel
theorem dL_law_237 : decode cL_law 237 = .ok (.iadd, 1) := by decide +kernel
theorem dL_law_238 : decode cL_law 238 = .ok (.iaload, 1) := by decide +kernel
theorem dL_law_239 : decode cL_law 239 = .ok (.aload_n 0, 1) := by decide +kernel
theorem dL_law_240 : decode cL_law 240 = .ok (.iload 4, 2) := by decide +kernel
theorem dL_law_242 : decode cL_law 242 = .ok (.iconst 2, 1) := by decide +kernel
theorem dL_law_243 : decode cL_law 243 = .ok (.iadd, 1) := by decide +kernel
theorem dL_law_244 : decode cL_law 244 = .ok (.iaload, 1) := by decide +kernel
theorem dL_law_245 : decode cL_law 245 = .ok (.aload_n 0, 1) := by decide +kernel
theorem dL_law_246 : decode cL_law 246 = .ok (.iload 4, 2) := by decide +kernel
theorem dL_law_248 : decode cL_law 248 = .ok (.iconst 3, 1) := by decide +kernel
theorem dL_law_249 : decode cL_law 249 = .ok (.iadd, 1) := by decide +kernel
theorem dL_law_250 : decode cL_law 250 = .ok (.iaload, 1) := by decide +kernel
theorem dL_law_251 : decode cL_law 251 = .ok (.aload_n 0, 1) := by decide +kernel
theorem dL_law_252 : decode cL_law 252 = .ok (.iload 4, 2) := by decide +kernel
theorem dL_law_254 : decode cL_law 254 = .ok (.iconst 4, 1) := by decide +kernel
theorem dL_law_255 : decode cL_law 255 = .ok (.iadd, 1) := by decide +kernel
theorem dL_law_256 : decode cL_law 256 = .ok (.iaload, 1) := by decide +kernel
theorem dL_law_257 : decode cL_law 257 = .ok (.invokevirtual 54, 3) := by decide +kernel
theorem dL_law_260 : decode cL_law 260 = .ok (.istore 6, 2) := by decide +kernel
theorem dL_law_262 : decode cL_law 262 = .ok (.aload_n 2, 1) := by decide +kernel
theorem dL_law_263 : decode cL_law 263 = .ok (.invokevirtual 43, 3) := by decide +kernel
theorem dL_law_266 : decode cL_law 266 = .ok (.iload 5, 2) := by decide +kernel
theorem dL_law_268 : decode cL_law 268 = .ok (.if_icmp .eq 5, 3) := by decide +kernel
theorem dL_law_271 : decode cL_law 271 = .ok (.iconst 0, 1) := by decide +kernel
theorem dL_law_272 : decode cL_law 272 = .ok (.ireturn, 1) := by decide +kernel
theorem dL_law_273 : decode cL_law 273 = .ok (.iload 5, 2) := by decide +kernel
theorem dL_law_275 : decode cL_law 275 = .ok (.ifCond .ne 15, 3) := by decide +kernel
theorem dL_law_278 : decode cL_law 278 = .ok (.aload_n 3, 1) := by decide +kernel
theorem dL_law_279 : decode cL_law 279 = .ok (.iconst 0, 1) := by decide +kernel
theorem dL_law_280 : decode cL_law 280 = .ok (.laload, 1) := by decide +kernel
theorem dL_law_281 : decode cL_law 281 = .ok (.iload 6, 2) := by decide +kernel
theorem dL_law_283 : decode cL_law 283 = .ok (.i2l, 1) := by decide +kernel
theorem dL_law_284 : decode cL_law 284 = .ok (.lcmp, 1) := by decide +kernel
theorem dL_law_285 : decode cL_law 285 = .ok (.ifCond .eq 5, 3) := by decide +kernel
theorem dL_law_288 : decode cL_law 288 = .ok (.iconst 0, 1) := by decide +kernel
theorem dL_law_289 : decode cL_law 289 = .ok (.ireturn, 1) := by decide +kernel
theorem dL_law_290 : decode cL_law 290 = .ok (.goto 151, 3) := by decide +kernel
theorem dL_law_293 : decode cL_law 293 = .ok (.aload_n 1, 1) := by decide +kernel
theorem dL_law_294 : decode cL_law 294 = .ok (.invokevirtual 55, 3) := by decide +kernel
theorem dL_law_297 : decode cL_law 297 = .ok (.aload_n 2, 1) := by decide +kernel
theorem dL_law_298 : decode cL_law 298 = .ok (.invokevirtual 58, 3) := by decide +kernel
theorem dL_law_301 : decode cL_law 301 = .ok (.if_icmp .eq 140, 3) := by decide +kernel
theorem dL_law_304 : decode cL_law 304 = .ok (.iconst 0, 1) := by decide +kernel
theorem dL_law_305 : decode cL_law 305 = .ok (.ireturn, 1) := by decide +kernel
theorem dL_law_306 : decode cL_law 306 = .ok (.aload_n 1, 1) := by decide +kernel
theorem dL_law_307 : decode cL_law 307 = .ok (.aload_n 0, 1) := by decide +kernel
theorem dL_law_308 : decode cL_law 308 = .ok (.iload 4, 2) := by decide +kernel
theorem dL_law_310 : decode cL_law 310 = .ok (.iconst 1, 1) := by decide +kernel
theorem dL_law_311 : decode cL_law 311 = .ok (.iadd, 1) := by decide +kernel
theorem dL_law_312 : decode cL_law 312 = .ok (.iaload, 1) := by decide +kernel
theorem dL_law_313 : decode cL_law 313 = .ok (.aload_n 3, 1) := by decide +kernel
theorem dL_law_314 : decode cL_law 314 = .ok (.invokestatic 59, 3) := by decide +kernel
theorem dL_law_317 : decode cL_law 317 = .ok (.istore 5, 2) := by decide +kernel
theorem dL_law_319 : decode cL_law 319 = .ok (.aload_n 2, 1) := by decide +kernel
theorem dL_law_320 : decode cL_law 320 = .ok (.aload_n 0, 1) := by decide +kernel
theorem dL_law_321 : decode cL_law 321 = .ok (.iload 4, 2) := by decide +kernel
theorem dL_law_323 : decode cL_law 323 = .ok (.iconst 1, 1) := by decide +kernel
theorem dL_law_324 : decode cL_law 324 = .ok (.iadd, 1) := by decide +kernel
theorem dL_law_325 : decode cL_law 325 = .ok (.iaload, 1) := by decide +kernel
theorem dL_law_326 : decode cL_law 326 = .ok (.invokevirtual 62, 3) := by decide +kernel
theorem dL_law_329 : decode cL_law 329 = .ok (.istore 6, 2) := by decide +kernel
theorem dL_law_331 : decode cL_law 331 = .ok (.aload_n 2, 1) := by decide +kernel
theorem dL_law_332 : decode cL_law 332 = .ok (.invokevirtual 43, 3) := by decide +kernel
theorem dL_law_335 : decode cL_law 335 = .ok (.iload 5, 2) := by decide +kernel
theorem dL_law_337 : decode cL_law 337 = .ok (.if_icmp .eq 5, 3) := by decide +kernel
theorem dL_law_340 : decode cL_law 340 = .ok (.iconst 0, 1) := by decide +kernel
theorem dL_law_341 : decode cL_law 341 = .ok (.ireturn, 1) := by decide +kernel
theorem dL_law_342 : decode cL_law 342 = .ok (.iload 5, 2) := by decide +kernel
theorem dL_law_344 : decode cL_law 344 = .ok (.ifCond .ne 15, 3) := by decide +kernel
theorem dL_law_347 : decode cL_law 347 = .ok (.aload_n 3, 1) := by decide +kernel
theorem dL_law_348 : decode cL_law 348 = .ok (.iconst 0, 1) := by decide +kernel
theorem dL_law_349 : decode cL_law 349 = .ok (.laload, 1) := by decide +kernel
theorem dL_law_350 : decode cL_law 350 = .ok (.iload 6, 2) := by decide +kernel
theorem dL_law_352 : decode cL_law 352 = .ok (.i2l, 1) := by decide +kernel
theorem dL_law_353 : decode cL_law 353 = .ok (.lcmp, 1) := by decide +kernel
theorem dL_law_354 : decode cL_law 354 = .ok (.ifCond .eq 5, 3) := by decide +kernel
theorem dL_law_357 : decode cL_law 357 = .ok (.iconst 0, 1) := by decide +kernel
theorem dL_law_358 : decode cL_law 358 = .ok (.ireturn, 1) := by decide +kernel
theorem dL_law_359 : decode cL_law 359 = .ok (.goto 82, 3) := by decide +kernel
theorem dL_law_362 : decode cL_law 362 = .ok (.aload_n 1, 1) := by decide +kernel
theorem dL_law_363 : decode cL_law 363 = .ok (.aload_n 0, 1) := by decide +kernel
theorem dL_law_364 : decode cL_law 364 = .ok (.iload 4, 2) := by decide +kernel
theorem dL_law_366 : decode cL_law 366 = .ok (.iconst 1, 1) := by decide +kernel
theorem dL_law_367 : decode cL_law 367 = .ok (.iadd, 1) := by decide +kernel
theorem dL_law_368 : decode cL_law 368 = .ok (.iaload, 1) := by decide +kernel
theorem dL_law_369 : decode cL_law 369 = .ok (.aload_n 0, 1) := by decide +kernel
theorem dL_law_370 : decode cL_law 370 = .ok (.iload 4, 2) := by decide +kernel
theorem dL_law_372 : decode cL_law 372 = .ok (.iconst 2, 1) := by decide +kernel
theorem dL_law_373 : decode cL_law 373 = .ok (.iadd, 1) := by decide +kernel
theorem dL_law_374 : decode cL_law 374 = .ok (.iaload, 1) := by decide +kernel
theorem dL_law_375 : decode cL_law 375 = .ok (.aload_n 3, 1) := by decide +kernel
theorem dL_law_376 : decode cL_law 376 = .ok (.invokestatic 63, 3) := by decide +kernel
theorem dL_law_379 : decode cL_law 379 = .ok (.istore 5, 2) := by decide +kernel
theorem dL_law_381 : decode cL_law 381 = .ok (.aload_n 2, 1) := by decide +kernel
theorem dL_law_382 : decode cL_law 382 = .ok (.aload_n 0, 1) := by decide +kernel
theorem dL_law_383 : decode cL_law 383 = .ok (.iload 4, 2) := by decide +kernel
theorem dL_law_385 : decode cL_law 385 = .ok (.iconst 1, 1) := by decide +kernel
theorem dL_law_386 : decode cL_law 386 = .ok (.iadd, 1) := by decide +kernel
theorem dL_law_387 : decode cL_law 387 = .ok (.iaload, 1) := by decide +kernel
theorem dL_law_388 : decode cL_law 388 = .ok (.aload_n 0, 1) := by decide +kernel
theorem dL_law_389 : decode cL_law 389 = .ok (.iload 4, 2) := by decide +kernel
theorem dL_law_391 : decode cL_law 391 = .ok (.iconst 2, 1) := by decide +kernel
theorem dL_law_392 : decode cL_law 392 = .ok (.iadd, 1) := by decide +kernel
theorem dL_law_393 : decode cL_law 393 = .ok (.iaload, 1) := by decide +kernel
theorem dL_law_394 : decode cL_law 394 = .ok (.invokevirtual 66, 3) := by decide +kernel
theorem dL_law_397 : decode cL_law 397 = .ok (.istore 6, 2) := by decide +kernel
theorem dL_law_399 : decode cL_law 399 = .ok (.aload_n 2, 1) := by decide +kernel
theorem dL_law_400 : decode cL_law 400 = .ok (.invokevirtual 43, 3) := by decide +kernel
theorem dL_law_403 : decode cL_law 403 = .ok (.iload 5, 2) := by decide +kernel
theorem dL_law_405 : decode cL_law 405 = .ok (.if_icmp .eq 5, 3) := by decide +kernel
theorem dL_law_408 : decode cL_law 408 = .ok (.iconst 0, 1) := by decide +kernel
theorem dL_law_409 : decode cL_law 409 = .ok (.ireturn, 1) := by decide +kernel
theorem dL_law_410 : decode cL_law 410 = .ok (.iload 5, 2) := by decide +kernel
theorem dL_law_412 : decode cL_law 412 = .ok (.ifCond .ne 15, 3) := by decide +kernel
theorem dL_law_415 : decode cL_law 415 = .ok (.aload_n 3, 1) := by decide +kernel
theorem dL_law_416 : decode cL_law 416 = .ok (.iconst 0, 1) := by decide +kernel
theorem dL_law_417 : decode cL_law 417 = .ok (.laload, 1) := by decide +kernel
theorem dL_law_418 : decode cL_law 418 = .ok (.iload 6, 2) := by decide +kernel
theorem dL_law_420 : decode cL_law 420 = .ok (.i2l, 1) := by decide +kernel
theorem dL_law_421 : decode cL_law 421 = .ok (.lcmp, 1) := by decide +kernel
theorem dL_law_422 : decode cL_law 422 = .ok (.ifCond .eq 5, 3) := by decide +kernel
theorem dL_law_425 : decode cL_law 425 = .ok (.iconst 0, 1) := by decide +kernel
theorem dL_law_426 : decode cL_law 426 = .ok (.ireturn, 1) := by decide +kernel
theorem dL_law_427 : decode cL_law 427 = .ok (.goto 14, 3) := by decide +kernel
theorem dL_law_430 : decode cL_law 430 = .ok (.aload_n 1, 1) := by decide +kernel
theorem dL_law_431 : decode cL_law 431 = .ok (.invokevirtual 67, 3) := by decide +kernel
theorem dL_law_434 : decode cL_law 434 = .ok (.aload_n 2, 1) := by decide +kernel
theorem dL_law_435 : decode cL_law 435 = .ok (.invokevirtual 70, 3) := by decide +kernel
theorem dL_law_438 : decode cL_law 438 = .ok (.goto 3, 3) := by decide +kernel
theorem dL_law_441 : decode cL_law 441 = .ok (.iinc 4 6, 3) := by decide +kernel
theorem dL_law_444 : decode cL_law 444 = .ok (.goto (-421), 3) := by decide +kernel
theorem dL_law_447 : decode cL_law 447 = .ok (.iconst 1, 1) := by decide +kernel
theorem dL_law_448 : decode cL_law 448 = .ok (.ireturn, 1) := by decide +kernel
end
section
/-! the words that every method of the claim carries: the good ones of the tables -/
def W0 : List Cond := lw_tbl.filter goodWord
theorem w0_of {w : Cond} (h : w ∈ tables_1) (g : goodWord w = true) : w ∈ W0 := List.mem_filter.mpr ⟨List.mem_append_right _ h, g⟩
theorem w0_1 (i : Nat) {w : Cond} (h : tables_1_1[i]? = some w) (g : goodWord w = true) : w ∈ W0 := w0_of (List.mem_append_left _ (List.mem_of_getElem? h)) g
theorem w0_2 (i : Nat) {w : Cond} (h : tables_1_2[i]? = some w) (g : goodWord w = true) : w ∈ W0 := w0_of (List.mem_append_right _ (List.mem_append_left _ (List.mem_of_getElem? h))) g
theorem w0_3 (i : Nat) {w : Cond} (h : tables_1_3[i]? = some w) (g : goodWord w = true) : w ∈ W0 := w0_of (List.mem_append_right _ (List.mem_append_right _ (List.mem_append_left _ (List.mem_of_getElem? h)))) g
theorem w0_4 (i : Nat) {w : Cond} (h : tables_1_4[i]? = some w) (g : goodWord w = true) : w ∈ W0 := w0_of (List.mem_append_right _ (List.mem_append_right _ (List.mem_append_right _ (List.mem_append_left _ (List.mem_of_getElem? h))))) g
theorem w0_5 (i : Nat) {w : Cond} (h : tables_1_5[i]? = some w) (g : goodWord w = true) : w ∈ W0 := w0_of (List.mem_append_right _ (List.mem_append_right _ (List.mem_append_right _ (List.mem_append_right _ (List.mem_append_left _ (List.mem_of_getElem? h)))))) g
theorem w0_6 (i : Nat) {w : Cond} (h : tables_1_6[i]? = some w) (g : goodWord w = true) : w ∈ W0 := w0_of (List.mem_append_right _ (List.mem_append_right _ (List.mem_append_right _ (List.mem_append_right _ (List.mem_append_right _ (List.mem_of_getElem? h)))))) g
theorem w0_s {q : MethodName × Nat} (h : q ∈ lw_privs) (g : goodWord (Cond.selects q.1.cls q.1 q.1) = true) : Cond.selects q.1.cls q.1 q.1 ∈ W0 := List.mem_filter.mpr ⟨List.mem_append_left _ (List.mem_map.mpr ⟨q, h, rfl⟩), g⟩
theorem W0_good {big : List Cond} (hb : ∀ w ∈ W0, w ∈ big) : GoodIn big W0 := fun w h => ⟨hb w h, good_of_word (List.mem_filter.mp h).2⟩
theorem mZ_L : Cond.initialized RL ∈ W0 := w0_1 0 rfl (by decide +kernel)
theorem mZ_X6 : Cond.initialized RX6 ∈ W0 := w0_1 1 rfl (by decide +kernel)
theorem mZ_X3 : Cond.initialized RX3 ∈ W0 := w0_1 2 rfl (by decide +kernel)
theorem mZ_X5 : Cond.initialized RX5 ∈ W0 := w0_1 3 rfl (by decide +kernel)
theorem mZ_X2 : Cond.initialized RX2 ∈ W0 := w0_1 4 rfl (by decide +kernel)
theorem mZ_X1 : Cond.initialized RX1 ∈ W0 := w0_1 5 rfl (by decide +kernel)
theorem mZ_X4 : Cond.initialized RX4 ∈ W0 := w0_1 6 rfl (by decide +kernel)
theorem mZ_X0 : Cond.initialized RX0 ∈ W0 := w0_1 7 rfl (by decide +kernel)
theorem mZ_X7 : Cond.initialized RX7 ∈ W0 := w0_1 8 rfl (by decide +kernel)
theorem mZ_J9 : Cond.initialized RJ9 ∈ W0 := w0_1 14 rfl (by decide +kernel)
theorem mZ_J0 : Cond.initialized RJ0 ∈ W0 := w0_1 15 rfl (by decide +kernel)
theorem mZ_J1 : Cond.initialized RJ1 ∈ W0 := w0_1 16 rfl (by decide +kernel)
theorem mZ_J2 : Cond.initialized RJ2 ∈ W0 := w0_1 17 rfl (by decide +kernel)
theorem mZ_J3 : Cond.initialized RJ3 ∈ W0 := w0_1 18 rfl (by decide +kernel)
theorem mZ_J11 : Cond.initialized RJ11 ∈ W0 := w0_1 19 rfl (by decide +kernel)
theorem mL_L_8 : Cond.classLink RL 8 RX6 ∈ W0 := w0_1 22 rfl (by decide +kernel)
theorem mN_X6 : Cond.instantiable RX6 4 ∈ W0 := w0_1 23 rfl (by decide +kernel)
theorem mM_L_33 : Cond.methodLink RL 33 yX6_init ∈ W0 := w0_1 24 rfl (by decide +kernel)
theorem mI_X6_init : Cond.instanceMethod yX6_init ∈ W0 := w0_1 25 rfl (by decide +kernel)
theorem mC_X6_init : Cond.code yX6_init cX6_init 1 none ∈ W0 := w0_1 26 rfl (by decide +kernel)
theorem mM_X6_1 : Cond.methodLink RX6 1 objectInit ∈ W0 := w0_1 27 rfl (by decide +kernel)
theorem mI_objectInit : Cond.instanceMethod objectInit ∈ W0 := w0_1 28 rfl (by decide +kernel)
theorem mC_objectInit : Cond.code objectInit ⟨#[0xb1]⟩ 1 none ∈ W0 := w0_1 29 rfl (by decide +kernel)
theorem mL_X6_7 : Cond.classLink RX6 7 RX3 ∈ W0 := w0_1 30 rfl (by decide +kernel)
theorem mN_X3 : Cond.instantiable RX3 13 ∈ W0 := w0_1 31 rfl (by decide +kernel)
theorem mI_X3_init : Cond.instanceMethod yX3_init ∈ W0 := w0_1 33 rfl (by decide +kernel)
theorem mC_X3_init : Cond.code yX3_init cX3_init 1 none ∈ W0 := w0_1 34 rfl (by decide +kernel)
theorem mM_X3_7 : Cond.methodLink RX3 7 objectInit ∈ W0 := w0_1 35 rfl (by decide +kernel)
theorem mL_X3_13 : Cond.classLink RX3 13 RX5 ∈ W0 := w0_1 36 rfl (by decide +kernel)
theorem mN_X5 : Cond.instantiable RX5 7 ∈ W0 := w0_1 37 rfl (by decide +kernel)
theorem mI_X5_init : Cond.instanceMethod yX5_init ∈ W0 := w0_1 39 rfl (by decide +kernel)
theorem mC_X5_init : Cond.code yX5_init cX5_init 1 none ∈ W0 := w0_1 40 rfl (by decide +kernel)
theorem mM_X5_1 : Cond.methodLink RX5 1 objectInit ∈ W0 := w0_1 41 rfl (by decide +kernel)
theorem mF_X5_9 : Cond.fieldLink RX5 9 "TokenFrames$Tape" "bytes" "[I" ∈ W0 := w0_1 42 rfl (by decide +kernel)
theorem mF_X5_17 : Cond.fieldLink RX5 17 "TokenFrames$Tape" "next" "I" ∈ W0 := w0_1 43 rfl (by decide +kernel)
theorem mF_X5_13 : Cond.fieldLink RX5 13 "TokenFrames$Tape" "length" "I" ∈ W0 := w0_1 44 rfl (by decide +kernel)
theorem mF_X3_55 : Cond.fieldLink RX3 55 "TokenFrames$Tape" "length" "I" ∈ W0 := w0_1 45 rfl (by decide +kernel)
theorem mF_X6_47 : Cond.fieldLink RX6 47 "TokenFrames$Tape" "length" "I" ∈ W0 := w0_1 46 rfl (by decide +kernel)
theorem mF_X3_58 : Cond.fieldLink RX3 58 "TokenFrames$Tape" "kind" "I" ∈ W0 := w0_1 47 rfl (by decide +kernel)
theorem mF_X5_30 : Cond.fieldLink RX5 30 "TokenFrames$Tape" "kind" "I" ∈ W0 := w0_1 48 rfl (by decide +kernel)
theorem mF_X5_27 : Cond.fieldLink RX5 27 "TokenFrames$Tape" "place" "I" ∈ W0 := w0_1 49 rfl (by decide +kernel)
theorem mF_X3_222 : Cond.fieldLink RX3 222 "TokenFrames$Tape" "place" "I" ∈ W0 := w0_1 50 rfl (by decide +kernel)
theorem mF_X3_95 : Cond.fieldLink RX3 95 "TokenFrames$Tape" "name" "J" ∈ W0 := w0_1 51 rfl (by decide +kernel)
theorem mF_X5_62 : Cond.fieldLink RX5 62 "TokenFrames$Tape" "name" "J" ∈ W0 := w0_1 52 rfl (by decide +kernel)
theorem mF_X3_125 : Cond.fieldLink RX3 125 "TokenFrames$Tape" "number" "I" ∈ W0 := w0_1 53 rfl (by decide +kernel)
theorem mF_X5_72 : Cond.fieldLink RX5 72 "TokenFrames$Tape" "number" "I" ∈ W0 := w0_1 54 rfl (by decide +kernel)
theorem mA_int : Cond.arrayClass .int ∈ W0 := w0_1 70 rfl (by decide +kernel)
theorem mL_X3_1 : Cond.classLink RX3 1 RX2 ∈ W0 := w0_1 71 rfl (by decide +kernel)
theorem mN_X2 : Cond.instantiable RX2 8 ∈ W0 := w0_1 72 rfl (by decide +kernel)
theorem mI_X2_init : Cond.instanceMethod yX2_init ∈ W0 := w0_1 74 rfl (by decide +kernel)
theorem mC_X2_init : Cond.code yX2_init cX2_init 1 none ∈ W0 := w0_1 75 rfl (by decide +kernel)
theorem mM_X2_3 : Cond.methodLink RX2 3 objectInit ∈ W0 := w0_1 76 rfl (by decide +kernel)
theorem mF_X3_42 : Cond.fieldLink RX3 42 "TokenFrames$Program" "definitions" "I" ∈ W0 := w0_1 77 rfl (by decide +kernel)
theorem mF_X6_65 : Cond.fieldLink RX6 65 "TokenFrames$Program" "definitions" "I" ∈ W0 := w0_1 78 rfl (by decide +kernel)
theorem mF_X2_9 : Cond.fieldLink RX2 9 "TokenFrames$Program" "arguments" "[I" ∈ W0 := w0_1 79 rfl (by decide +kernel)
theorem mF_X3_103 : Cond.fieldLink RX3 103 "TokenFrames$Program" "arguments" "[I" ∈ W0 := w0_1 80 rfl (by decide +kernel)
theorem mF_X6_104 : Cond.fieldLink RX6 104 "TokenFrames$Program" "arguments" "[I" ∈ W0 := w0_1 81 rfl (by decide +kernel)
theorem mF_X2_13 : Cond.fieldLink RX2 13 "TokenFrames$Program" "parts" "[I" ∈ W0 := w0_1 82 rfl (by decide +kernel)
theorem mF_X3_106 : Cond.fieldLink RX3 106 "TokenFrames$Program" "parts" "[I" ∈ W0 := w0_1 83 rfl (by decide +kernel)
theorem mF_X6_107 : Cond.fieldLink RX6 107 "TokenFrames$Program" "parts" "[I" ∈ W0 := w0_1 84 rfl (by decide +kernel)
theorem mF_X1_104 : Cond.fieldLink RX1 104 "TokenFrames$Program" "parts" "[I" ∈ W0 := w0_1 85 rfl (by decide +kernel)
theorem mF_X2_16 : Cond.fieldLink RX2 16 "TokenFrames$Program" "root" "[I" ∈ W0 := w0_1 86 rfl (by decide +kernel)
theorem mF_X3_201 : Cond.fieldLink RX3 201 "TokenFrames$Program" "root" "[I" ∈ W0 := w0_1 87 rfl (by decide +kernel)
theorem mF_X1_173 : Cond.fieldLink RX1 173 "TokenFrames$Program" "root" "[I" ∈ W0 := w0_1 88 rfl (by decide +kernel)
theorem mF_X2_19 : Cond.fieldLink RX2 19 "TokenFrames$Program" "kind" "[I" ∈ W0 := w0_1 89 rfl (by decide +kernel)
theorem mF_X1_123 : Cond.fieldLink RX1 123 "TokenFrames$Program" "kind" "[I" ∈ W0 := w0_1 90 rfl (by decide +kernel)
theorem mF_X3_207 : Cond.fieldLink RX3 207 "TokenFrames$Program" "kind" "[I" ∈ W0 := w0_1 91 rfl (by decide +kernel)
theorem mF_X2_22 : Cond.fieldLink RX2 22 "TokenFrames$Program" "number" "[I" ∈ W0 := w0_1 92 rfl (by decide +kernel)
theorem mF_X1_126 : Cond.fieldLink RX1 126 "TokenFrames$Program" "number" "[I" ∈ W0 := w0_1 93 rfl (by decide +kernel)
theorem mF_X3_228 : Cond.fieldLink RX3 228 "TokenFrames$Program" "number" "[I" ∈ W0 := w0_1 94 rfl (by decide +kernel)
theorem mF_X2_25 : Cond.fieldLink RX2 25 "TokenFrames$Program" "children" "[I" ∈ W0 := w0_1 95 rfl (by decide +kernel)
theorem mF_X1_157 : Cond.fieldLink RX1 157 "TokenFrames$Program" "children" "[I" ∈ W0 := w0_1 96 rfl (by decide +kernel)
theorem mF_X3_209 : Cond.fieldLink RX3 209 "TokenFrames$Program" "children" "[I" ∈ W0 := w0_1 97 rfl (by decide +kernel)
theorem mF_X2_28 : Cond.fieldLink RX2 28 "TokenFrames$Program" "child" "[I" ∈ W0 := w0_1 98 rfl (by decide +kernel)
theorem mA_long : Cond.arrayClass .long ∈ W0 := w0_1 116 rfl (by decide +kernel)
theorem mF_X3_16 : Cond.fieldLink RX3 16 "TokenFrames$Reader" "tape" "LTokenFrames$Tape;" ∈ W0 := w0_1 117 rfl (by decide +kernel)
theorem mF_X6_30 : Cond.fieldLink RX6 30 "TokenFrames$Reader" "tape" "LTokenFrames$Tape;" ∈ W0 := w0_1 118 rfl (by decide +kernel)
theorem mF_X3_20 : Cond.fieldLink RX3 20 "TokenFrames$Reader" "definitionNames" "[J" ∈ W0 := w0_1 119 rfl (by decide +kernel)
theorem mF_X3_24 : Cond.fieldLink RX3 24 "TokenFrames$Reader" "argumentNames" "[J" ∈ W0 := w0_1 120 rfl (by decide +kernel)
theorem mF_X3_27 : Cond.fieldLink RX3 27 "TokenFrames$Reader" "partNames" "[J" ∈ W0 := w0_1 121 rfl (by decide +kernel)
theorem mF_X3_30 : Cond.fieldLink RX3 30 "TokenFrames$Reader" "partPlaces" "[I" ∈ W0 := w0_1 122 rfl (by decide +kernel)
theorem mF_X3_34 : Cond.fieldLink RX3 34 "TokenFrames$Reader" "open" "[I" ∈ W0 := w0_1 123 rfl (by decide +kernel)
theorem mF_X3_38 : Cond.fieldLink RX3 38 "TokenFrames$Reader" "program" "LTokenFrames$Program;" ∈ W0 := w0_1 124 rfl (by decide +kernel)
theorem mF_X3_92 : Cond.fieldLink RX3 92 "TokenFrames$Reader" "current" "I" ∈ W0 := w0_1 125 rfl (by decide +kernel)
theorem mF_X3_109 : Cond.fieldLink RX3 109 "TokenFrames$Reader" "opened" "I" ∈ W0 := w0_1 126 rfl (by decide +kernel)
theorem mF_X3_112 : Cond.fieldLink RX3 112 "TokenFrames$Reader" "parentheses" "I" ∈ W0 := w0_1 127 rfl (by decide +kernel)
theorem mF_X3_204 : Cond.fieldLink RX3 204 "TokenFrames$Reader" "latest" "I" ∈ W0 := w0_1 128 rfl (by decide +kernel)
theorem mF_X3_46 : Cond.fieldLink RX3 46 "TokenFrames$Reader" "due" "I" ∈ W0 := w0_1 129 rfl (by decide +kernel)
theorem mF_X3_49 : Cond.fieldLink RX3 49 "TokenFrames$Reader" "fault" "I" ∈ W0 := w0_1 130 rfl (by decide +kernel)
theorem mL_X6_16 : Cond.classLink RX6 16 RX1 ∈ W0 := w0_1 158 rfl (by decide +kernel)
theorem mN_X1 : Cond.instantiable RX1 12 ∈ W0 := w0_1 159 rfl (by decide +kernel)
theorem mI_X1_init : Cond.instanceMethod yX1_init ∈ W0 := w0_1 161 rfl (by decide +kernel)
theorem mC_X1_init : Cond.code yX1_init cX1_init 1 none ∈ W0 := w0_1 162 rfl (by decide +kernel)
theorem mM_X1_3 : Cond.methodLink RX1 3 objectInit ∈ W0 := w0_1 163 rfl (by decide +kernel)
theorem mL_X1_9 : Cond.classLink RX1 9 RX4 ∈ W0 := w0_1 164 rfl (by decide +kernel)
theorem mN_X4 : Cond.instantiable RX4 7 ∈ W0 := w0_1 165 rfl (by decide +kernel)
theorem mI_X4_init : Cond.instanceMethod yX4_init ∈ W0 := w0_1 167 rfl (by decide +kernel)
theorem mC_X4_init : Cond.code yX4_init cX4_init 1 none ∈ W0 := w0_1 168 rfl (by decide +kernel)
theorem mM_X4_7 : Cond.methodLink RX4 7 objectInit ∈ W0 := w0_1 169 rfl (by decide +kernel)
theorem mL_X4_13 : Cond.classLink RX4 13 RX0 ∈ W0 := w0_1 170 rfl (by decide +kernel)
theorem mN_X0 : Cond.instantiable RX0 5 ∈ W0 := w0_1 171 rfl (by decide +kernel)
theorem mI_X0_init : Cond.instanceMethod yX0_init ∈ W0 := w0_1 173 rfl (by decide +kernel)
theorem mC_X0_init : Cond.code yX0_init cX0_init 1 none ∈ W0 := w0_1 174 rfl (by decide +kernel)
theorem mM_X0_1 : Cond.methodLink RX0 1 objectInit ∈ W0 := w0_1 175 rfl (by decide +kernel)
theorem mF_X0_9 : Cond.fieldLink RX0 9 "TokenFrames$Bag" "tokens" "[I" ∈ W0 := w0_1 176 rfl (by decide +kernel)
theorem mF_X0_15 : Cond.fieldLink RX0 15 "TokenFrames$Bag" "oldest" "I" ∈ W0 := w0_1 177 rfl (by decide +kernel)
theorem mF_X0_19 : Cond.fieldLink RX0 19 "TokenFrames$Bag" "held" "I" ∈ W0 := w0_1 178 rfl (by decide +kernel)
theorem mF_X0_22 : Cond.fieldLink RX0 22 "TokenFrames$Bag" "order" "I" ∈ W0 := w0_1 179 rfl (by decide +kernel)
theorem mF_X0_25 : Cond.fieldLink RX0 25 "TokenFrames$Bag" "seed" "I" ∈ W0 := w0_1 180 rfl (by decide +kernel)
theorem mF_X4_16 : Cond.fieldLink RX4 16 "TokenFrames$Slots" "bag" "LTokenFrames$Bag;" ∈ W0 := w0_1 192 rfl (by decide +kernel)
theorem mF_X1_73 : Cond.fieldLink RX1 73 "TokenFrames$Slots" "bag" "LTokenFrames$Bag;" ∈ W0 := w0_1 193 rfl (by decide +kernel)
theorem mF_X4_22 : Cond.fieldLink RX4 22 "TokenFrames$Slots" "state" "[I" ∈ W0 := w0_1 194 rfl (by decide +kernel)
theorem mF_X4_26 : Cond.fieldLink RX4 26 "TokenFrames$Slots" "number" "[I" ∈ W0 := w0_1 195 rfl (by decide +kernel)
theorem mF_X4_29 : Cond.fieldLink RX4 29 "TokenFrames$Slots" "array" "[I" ∈ W0 := w0_1 196 rfl (by decide +kernel)
theorem mF_X4_32 : Cond.fieldLink RX4 32 "TokenFrames$Slots" "firstWaiting" "[I" ∈ W0 := w0_1 197 rfl (by decide +kernel)
theorem mF_X4_35 : Cond.fieldLink RX4 35 "TokenFrames$Slots" "nextWaiting" "[I" ∈ W0 := w0_1 198 rfl (by decide +kernel)
theorem mF_X4_42 : Cond.fieldLink RX4 42 "TokenFrames$Slots" "known" "I" ∈ W0 := w0_1 199 rfl (by decide +kernel)
theorem mF_X1_101 : Cond.fieldLink RX1 101 "TokenFrames$Slots" "known" "I" ∈ W0 := w0_1 200 rfl (by decide +kernel)
theorem mL_X1_31 : Cond.classLink RX1 31 RX2 ∈ W0 := w0_1 216 rfl (by decide +kernel)
theorem mF_X1_12 : Cond.fieldLink RX1 12 "TokenFrames$Machine" "slots" "LTokenFrames$Slots;" ∈ W0 := w0_1 218 rfl (by decide +kernel)
theorem mF_X1_18 : Cond.fieldLink RX1 18 "TokenFrames$Machine" "made" "[I" ∈ W0 := w0_1 219 rfl (by decide +kernel)
theorem mF_X1_22 : Cond.fieldLink RX1 22 "TokenFrames$Machine" "definitionOf" "[I" ∈ W0 := w0_1 220 rfl (by decide +kernel)
theorem mF_X1_25 : Cond.fieldLink RX1 25 "TokenFrames$Machine" "makerOf" "[I" ∈ W0 := w0_1 221 rfl (by decide +kernel)
theorem mF_X1_28 : Cond.fieldLink RX1 28 "TokenFrames$Machine" "cellOf" "[I" ∈ W0 := w0_1 222 rfl (by decide +kernel)
theorem mF_X1_34 : Cond.fieldLink RX1 34 "TokenFrames$Machine" "program" "LTokenFrames$Program;" ∈ W0 := w0_1 223 rfl (by decide +kernel)
theorem mF_X6_57 : Cond.fieldLink RX6 57 "TokenFrames$Machine" "program" "LTokenFrames$Program;" ∈ W0 := w0_1 224 rfl (by decide +kernel)
theorem mF_X1_38 : Cond.fieldLink RX1 38 "TokenFrames$Machine" "firstTold" "I" ∈ W0 := w0_1 225 rfl (by decide +kernel)
theorem mF_X1_42 : Cond.fieldLink RX1 42 "TokenFrames$Machine" "secondTold" "I" ∈ W0 := w0_1 226 rfl (by decide +kernel)
theorem mF_X1_51 : Cond.fieldLink RX1 51 "TokenFrames$Machine" "mostCalls" "I" ∈ W0 := w0_1 227 rfl (by decide +kernel)
theorem mF_X1_54 : Cond.fieldLink RX1 54 "TokenFrames$Machine" "tooMany" "Z" ∈ W0 := w0_1 228 rfl (by decide +kernel)
theorem mF_X1_58 : Cond.fieldLink RX1 58 "TokenFrames$Machine" "calls" "I" ∈ W0 := w0_1 229 rfl (by decide +kernel)
theorem mF_X6_89 : Cond.fieldLink RX6 89 "TokenFrames$Machine" "calls" "I" ∈ W0 := w0_1 230 rfl (by decide +kernel)
theorem mF_X1_61 : Cond.fieldLink RX1 61 "TokenFrames$Machine" "cells" "I" ∈ W0 := w0_1 231 rfl (by decide +kernel)
theorem mF_X6_98 : Cond.fieldLink RX6 98 "TokenFrames$Machine" "cells" "I" ∈ W0 := w0_1 232 rfl (by decide +kernel)
theorem mF_X6_10 : Cond.fieldLink RX6 10 "TokenFrames" "reader" "LTokenFrames$Reader;" ∈ W0 := w0_2 18 rfl (by decide +kernel)
theorem mF_X6_19 : Cond.fieldLink RX6 19 "TokenFrames" "machine" "LTokenFrames$Machine;" ∈ W0 := w0_2 19 rfl (by decide +kernel)
theorem mF_X6_23 : Cond.fieldLink RX6 23 "TokenFrames" "latestCounts" "[I" ∈ W0 := w0_2 20 rfl (by decide +kernel)
theorem mF_X6_86 : Cond.fieldLink RX6 86 "TokenFrames" "latestValue" "I" ∈ W0 := w0_2 21 rfl (by decide +kernel)
theorem mM_L_47 : Cond.methodLink RL 47 yX6_read ∈ W0 := w0_2 31 rfl (by decide +kernel)
theorem mI_X6_read : Cond.instanceMethod yX6_read ∈ W0 := w0_2 32 rfl (by decide +kernel)
theorem mS_X6_read : Cond.selects RX6 yX6_read yX6_read ∈ W0 := w0_2 33 rfl (by decide +kernel)
theorem mC_X6_read : Cond.code yX6_read cX6_read 2 (some .int) ∈ W0 := w0_2 34 rfl (by decide +kernel)
theorem mM_X6_51 : Cond.methodLink RX6 51 yX3_readText ∈ W0 := w0_2 35 rfl (by decide +kernel)
theorem mI_X3_readText : Cond.instanceMethod yX3_readText ∈ W0 := w0_2 36 rfl (by decide +kernel)
theorem mS_X3_readText : Cond.selects RX3 yX3_readText yX3_readText ∈ W0 := w0_2 37 rfl (by decide +kernel)
theorem mC_X3_readText : Cond.code yX3_readText cX3_readText 2 (some .int) ∈ W0 := w0_2 38 rfl (by decide +kernel)
theorem mM_X3_52 : Cond.methodLink RX3 52 yX5_goToFirst ∈ W0 := w0_2 39 rfl (by decide +kernel)
theorem mI_X5_goToFirst : Cond.instanceMethod yX5_goToFirst ∈ W0 := w0_2 40 rfl (by decide +kernel)
theorem mS_X5_goToFirst : Cond.selects RX5 yX5_goToFirst yX5_goToFirst ∈ W0 := w0_2 41 rfl (by decide +kernel)
theorem mC_X5_goToFirst : Cond.code yX5_goToFirst cX5_goToFirst 1 none ∈ W0 := w0_2 42 rfl (by decide +kernel)
theorem mM_X5_20 : Cond.methodLink RX5 20 yX5_advance ∈ W0 := w0_2 43 rfl (by decide +kernel)
theorem mI_X5_advance : Cond.instanceMethod yX5_advance ∈ W0 := w0_2 44 rfl (by decide +kernel)
theorem mS_X5_advance : Cond.selects RX5 yX5_advance yX5_advance ∈ W0 := w0_2 45 rfl (by decide +kernel)
theorem mC_X5_advance : Cond.code yX5_advance cX5_advance 1 none ∈ W0 := w0_2 46 rfl (by decide +kernel)
theorem mM_X5_23 : Cond.methodLink RX5 23 yX5_isBlank ∈ W0 := w0_2 47 rfl (by decide +kernel)
theorem mT_X5_isBlank : Cond.static yX5_isBlank ∈ W0 := w0_2 48 rfl (by decide +kernel)
theorem mC_X5_isBlank : Cond.code yX5_isBlank cX5_isBlank 1 (some .boolean) ∈ W0 := w0_2 49 rfl (by decide +kernel)
theorem mM_X5_33 : Cond.methodLink RX5 33 yX5_isLetter ∈ W0 := w0_2 50 rfl (by decide +kernel)
theorem mT_X5_isLetter : Cond.static yX5_isLetter ∈ W0 := w0_2 51 rfl (by decide +kernel)
theorem mC_X5_isLetter : Cond.code yX5_isLetter cX5_isLetter 1 (some .boolean) ∈ W0 := w0_2 52 rfl (by decide +kernel)
theorem mM_X5_36 : Cond.methodLink RX5 36 yX5_isDigit ∈ W0 := w0_2 53 rfl (by decide +kernel)
theorem mT_X5_isDigit : Cond.static yX5_isDigit ∈ W0 := w0_2 54 rfl (by decide +kernel)
theorem mC_X5_isDigit : Cond.code yX5_isDigit cX5_isDigit 1 (some .boolean) ∈ W0 := w0_2 55 rfl (by decide +kernel)
theorem mM_X5_39 : Cond.methodLink RX5 39 yX5_takeRow ∈ W0 := w0_2 56 rfl (by decide +kernel)
theorem mI_X5_takeRow : Cond.instanceMethod yX5_takeRow ∈ W0 := w0_2 58 rfl (by decide +kernel)
theorem mC_X5_takeRow : Cond.code yX5_takeRow cX5_takeRow 7 none ∈ W0 := w0_2 59 rfl (by decide +kernel)
theorem mK_X5_50 : Cond.constantLong RX5 50 (10) ∈ W0 := w0_2 60 rfl (by decide +kernel)
theorem mK_X5_52 : Cond.constantLong RX5 52 (48) ∈ W0 := w0_2 61 rfl (by decide +kernel)
theorem mK_X5_54 : Cond.constantLong RX5 54 (2147483648) ∈ W0 := w0_2 62 rfl (by decide +kernel)
theorem mM_X5_56 : Cond.methodLink RX5 56 yJ9_min_f86c9 ∈ W0 := w0_2 63 rfl (by decide +kernel)
theorem mT_J9_min_f86c9 : Cond.static yJ9_min_f86c9 ∈ W0 := w0_2 64 rfl (by decide +kernel)
theorem mC_J9_min_f86c9 : Cond.code yJ9_min_f86c9 cJ9_min_f86c9 4 (some .long) ∈ W0 := w0_2 65 rfl (by decide +kernel)
theorem mM_X5_66 : Cond.methodLink RX5 66 yX5_wordOrName ∈ W0 := w0_2 66 rfl (by decide +kernel)
theorem mT_X5_wordOrName : Cond.static yX5_wordOrName ∈ W0 := w0_2 67 rfl (by decide +kernel)
theorem mC_X5_wordOrName : Cond.code yX5_wordOrName cX5_wordOrName 2 (some .int) ∈ W0 := w0_2 68 rfl (by decide +kernel)
theorem mK_X5_75 : Cond.constantLong RX5 75 (26982) ∈ W0 := w0_2 69 rfl (by decide +kernel)
theorem mK_X5_77 : Cond.constantLong RX5 77 (1952998766) ∈ W0 := w0_2 70 rfl (by decide +kernel)
theorem mK_X5_79 : Cond.constantLong RX5 79 (1701606245) ∈ W0 := w0_2 71 rfl (by decide +kernel)
theorem mK_X5_81 : Cond.constantLong RX5 81 (7103860) ∈ W0 := w0_2 72 rfl (by decide +kernel)
theorem mK_X5_83 : Cond.constantLong RX5 83 (26990) ∈ W0 := w0_2 73 rfl (by decide +kernel)
theorem mK_X5_85 : Cond.constantLong RX5 85 (1835101029) ∈ W0 := w0_2 74 rfl (by decide +kernel)
theorem mK_X5_70 : Cond.constantLong RX5 70 (2147483647) ∈ W0 := w0_2 75 rfl (by decide +kernel)
theorem mM_X5_44 : Cond.methodLink RX5 44 yJ0_indexOf_0f7a4 ∈ W0 := w0_2 77 rfl (by decide +kernel)
theorem mI_J0_indexOf_0f7a4 : Cond.instanceMethod yJ0_indexOf_0f7a4 ∈ W0 := w0_2 78 rfl (by decide +kernel)
theorem mS_J0_indexOf_0f7a4 : Cond.selects RJ0 yJ0_indexOf_0f7a4 yJ0_indexOf_0f7a4 ∈ W0 := w0_2 79 rfl (by decide +kernel)
theorem mC_J0_indexOf_0f7a4 : Cond.code yJ0_indexOf_0f7a4 cJ0_indexOf_0f7a4 2 (some .int) ∈ W0 := w0_2 80 rfl (by decide +kernel)
theorem mM_J0_633 : Cond.methodLink RJ0 633 yJ0_indexOf_7cf53 ∈ W0 := w0_2 81 rfl (by decide +kernel)
theorem mI_J0_indexOf_7cf53 : Cond.instanceMethod yJ0_indexOf_7cf53 ∈ W0 := w0_2 82 rfl (by decide +kernel)
theorem mS_J0_indexOf_7cf53 : Cond.selects RJ0 yJ0_indexOf_7cf53 yJ0_indexOf_7cf53 ∈ W0 := w0_2 83 rfl (by decide +kernel)
theorem mC_J0_indexOf_7cf53 : Cond.code yJ0_indexOf_7cf53 cJ0_indexOf_7cf53 3 (some .int) ∈ W0 := w0_2 84 rfl (by decide +kernel)
theorem mM_J0_492 : Cond.methodLink RJ0 492 yJ0_isLatin1_aae02 ∈ W0 := w0_2 85 rfl (by decide +kernel)
theorem mI_J0_isLatin1_aae02 : Cond.instanceMethod yJ0_isLatin1_aae02 ∈ W0 := w0_2 86 rfl (by decide +kernel)
theorem mS_J0_isLatin1_aae02 : Cond.selects RJ0 yJ0_isLatin1_aae02 yJ0_isLatin1_aae02 ∈ W0 := w0_2 87 rfl (by decide +kernel)
theorem mC_J0_isLatin1_aae02 : Cond.code yJ0_isLatin1_aae02 cJ0_isLatin1_aae02 1 (some .boolean) ∈ W0 := w0_2 88 rfl (by decide +kernel)
theorem mF_J0_38 : Cond.fieldLink RJ0 38 "java/lang/String" "COMPACT_STRINGS" "Z" ∈ W0 := w0_2 89 rfl (by decide +kernel)
theorem mM_J0_505 : Cond.methodLink RJ0 505 yJ0_length_8abf5 ∈ W0 := w0_2 91 rfl (by decide +kernel)
theorem mI_J0_length_8abf5 : Cond.instanceMethod yJ0_length_8abf5 ∈ W0 := w0_2 92 rfl (by decide +kernel)
theorem mS_J0_length_8abf5 : Cond.selects RJ0 yJ0_length_8abf5 yJ0_length_8abf5 ∈ W0 := w0_2 93 rfl (by decide +kernel)
theorem mC_J0_length_8abf5 : Cond.code yJ0_length_8abf5 cJ0_length_8abf5 1 (some .int) ∈ W0 := w0_2 94 rfl (by decide +kernel)
theorem mM_J0_335 : Cond.methodLink RJ0 335 yJ0_coder_7d493 ∈ W0 := w0_2 95 rfl (by decide +kernel)
theorem mI_J0_coder_7d493 : Cond.instanceMethod yJ0_coder_7d493 ∈ W0 := w0_2 96 rfl (by decide +kernel)
theorem mS_J0_coder_7d493 : Cond.selects RJ0 yJ0_coder_7d493 yJ0_coder_7d493 ∈ W0 := w0_2 97 rfl (by decide +kernel)
theorem mC_J0_coder_7d493 : Cond.code yJ0_coder_7d493 cJ0_coder_7d493 1 (some .byte) ∈ W0 := w0_2 98 rfl (by decide +kernel)
theorem mM_J0_637 : Cond.methodLink RJ0 637 yJ1_indexOf_4cfef ∈ W0 := w0_2 99 rfl (by decide +kernel)
theorem mT_J1_indexOf_4cfef : Cond.static yJ1_indexOf_4cfef ∈ W0 := w0_2 100 rfl (by decide +kernel)
theorem mC_J1_indexOf_4cfef : Cond.code yJ1_indexOf_4cfef cJ1_indexOf_4cfef 4 (some .int) ∈ W0 := w0_2 101 rfl (by decide +kernel)
theorem mM_J1_88 : Cond.methodLink RJ1 88 yJ1_canEncode_9a6ad ∈ W0 := w0_2 102 rfl (by decide +kernel)
theorem mT_J1_canEncode_9a6ad : Cond.static yJ1_canEncode_9a6ad ∈ W0 := w0_2 103 rfl (by decide +kernel)
theorem mC_J1_canEncode_9a6ad : Cond.code yJ1_canEncode_9a6ad cJ1_canEncode_9a6ad 1 (some .boolean) ∈ W0 := w0_2 104 rfl (by decide +kernel)
theorem mM_J1_92 : Cond.methodLink RJ1 92 yJ9_max_7cf53 ∈ W0 := w0_2 105 rfl (by decide +kernel)
theorem mT_J9_max_7cf53 : Cond.static yJ9_max_7cf53 ∈ W0 := w0_2 106 rfl (by decide +kernel)
theorem mC_J9_max_7cf53 : Cond.code yJ9_max_7cf53 cJ9_max_7cf53 2 (some .int) ∈ W0 := w0_2 107 rfl (by decide +kernel)
theorem mM_J1_38 : Cond.methodLink RJ1 38 yJ9_min_7cf53 ∈ W0 := w0_2 108 rfl (by decide +kernel)
theorem mT_J9_min_7cf53 : Cond.static yJ9_min_7cf53 ∈ W0 := w0_2 109 rfl (by decide +kernel)
theorem mC_J9_min_7cf53 : Cond.code yJ9_min_7cf53 cJ9_min_7cf53 2 (some .int) ∈ W0 := w0_2 110 rfl (by decide +kernel)
theorem mM_J1_95 : Cond.methodLink RJ1 95 yJ1_indexOfChar_4cfef ∈ W0 := w0_2 111 rfl (by decide +kernel)
theorem mT_J1_indexOfChar_4cfef : Cond.static yJ1_indexOfChar_4cfef ∈ W0 := w0_2 112 rfl (by decide +kernel)
theorem mC_J1_indexOfChar_4cfef : Cond.code yJ1_indexOfChar_4cfef cJ1_indexOfChar_4cfef 6 (some .int) ∈ W0 := w0_2 113 rfl (by decide +kernel)
theorem mM_J0_640 : Cond.methodLink RJ0 640 yJ2_indexOf_4cfef ∈ W0 := w0_2 114 rfl (by decide +kernel)
theorem mT_J2_indexOf_4cfef : Cond.static yJ2_indexOf_4cfef ∈ W0 := w0_2 115 rfl (by decide +kernel)
theorem mC_J2_indexOf_4cfef : Cond.code yJ2_indexOf_4cfef cJ2_indexOf_4cfef 4 (some .int) ∈ W0 := w0_2 116 rfl (by decide +kernel)
theorem mM_J2_224 : Cond.methodLink RJ2 224 yJ9_max_7cf53 ∈ W0 := w0_2 117 rfl (by decide +kernel)
theorem mM_J2_183 : Cond.methodLink RJ2 183 yJ9_min_7cf53 ∈ W0 := w0_2 118 rfl (by decide +kernel)
theorem mK_J2_227 : Cond.constant RJ2 227 (65536) ∈ W0 := w0_2 119 rfl (by decide +kernel)
theorem mM_J2_228 : Cond.methodLink RJ2 228 yJ2_indexOfChar_4cfef ∈ W0 := w0_2 120 rfl (by decide +kernel)
theorem mT_J2_indexOfChar_4cfef : Cond.static yJ2_indexOfChar_4cfef ∈ W0 := w0_2 121 rfl (by decide +kernel)
theorem mC_J2_indexOfChar_4cfef : Cond.code yJ2_indexOfChar_4cfef cJ2_indexOfChar_4cfef 4 (some .int) ∈ W0 := w0_2 122 rfl (by decide +kernel)
theorem mM_J2_96 : Cond.methodLink RJ2 96 yJ2_checkBoundsBeginEnd_d044e ∈ W0 := w0_2 123 rfl (by decide +kernel)
theorem mT_J2_checkBoundsBeginEnd_d044e : Cond.static yJ2_checkBoundsBeginEnd_d044e ∈ W0 := w0_2 124 rfl (by decide +kernel)
theorem mC_J2_checkBoundsBeginEnd_d044e : Cond.code yJ2_checkBoundsBeginEnd_d044e cJ2_checkBoundsBeginEnd_d044e 3 none ∈ W0 := w0_2 125 rfl (by decide +kernel)
theorem mM_J2_48 : Cond.methodLink RJ2 48 yJ2_length_9d52b ∈ W0 := w0_2 126 rfl (by decide +kernel)
theorem mT_J2_length_9d52b : Cond.static yJ2_length_9d52b ∈ W0 := w0_2 127 rfl (by decide +kernel)
theorem mC_J2_length_9d52b : Cond.code yJ2_length_9d52b cJ2_length_9d52b 1 (some .int) ∈ W0 := w0_2 128 rfl (by decide +kernel)
theorem mM_J2_241 : Cond.methodLink RJ2 241 yJ0_checkBoundsBeginEnd_23922 ∈ W0 := w0_2 129 rfl (by decide +kernel)
theorem mT_J0_checkBoundsBeginEnd_23922 : Cond.static yJ0_checkBoundsBeginEnd_23922 ∈ W0 := w0_2 130 rfl (by decide +kernel)
theorem mC_J0_checkBoundsBeginEnd_23922 : Cond.code yJ0_checkBoundsBeginEnd_23922 cJ0_checkBoundsBeginEnd_23922 3 none ∈ W0 := w0_2 131 rfl (by decide +kernel)
theorem mF_J0_1053 : Cond.fieldLink RJ0 1053 "jdk/internal/util/Preconditions" "SIOOBE_FORMATTER" "Ljava/util/function/BiFunction;" ∈ W0 := w0_2 132 rfl (by decide +kernel)
theorem mM_J0_1062 : Cond.methodLink RJ0 1062 yJ3_checkFromToIndex_8c36e ∈ W0 := w0_2 134 rfl (by decide +kernel)
theorem mT_J3_checkFromToIndex_8c36e : Cond.static yJ3_checkFromToIndex_8c36e ∈ W0 := w0_2 135 rfl (by decide +kernel)
theorem mC_J3_checkFromToIndex_8c36e : Cond.code yJ3_checkFromToIndex_8c36e cJ3_checkFromToIndex_8c36e 4 (some .int) ∈ W0 := w0_2 136 rfl (by decide +kernel)
theorem mM_J2_244 : Cond.methodLink RJ2 244 yJ2_indexOfCharUnsafe_4cfef ∈ W0 := w0_2 137 rfl (by decide +kernel)
theorem mT_J2_indexOfCharUnsafe_4cfef : Cond.static yJ2_indexOfCharUnsafe_4cfef ∈ W0 := w0_2 138 rfl (by decide +kernel)
theorem mC_J2_indexOfCharUnsafe_4cfef : Cond.code yJ2_indexOfCharUnsafe_4cfef cJ2_indexOfCharUnsafe_4cfef 5 (some .int) ∈ W0 := w0_2 139 rfl (by decide +kernel)
theorem mM_J2_71 : Cond.methodLink RJ2 71 yJ2_getChar_3b067 ∈ W0 := w0_2 140 rfl (by decide +kernel)
theorem mT_J2_getChar_3b067 : Cond.static yJ2_getChar_3b067 ∈ W0 := w0_2 141 rfl (by decide +kernel)
theorem mC_J2_getChar_3b067 : Cond.code yJ2_getChar_3b067 cJ2_getChar_3b067 2 (some .char) ∈ W0 := w0_2 142 rfl (by decide +kernel)
theorem mF_J2_44 : Cond.fieldLink RJ2 44 "java/lang/StringUTF16" "$assertionsDisabled" "Z" ∈ W0 := w0_2 143 rfl (by decide +kernel)
theorem mF_J2_59 : Cond.fieldLink RJ2 59 "java/lang/StringUTF16" "HI_BYTE_SHIFT" "I" ∈ W0 := w0_2 145 rfl (by decide +kernel)
theorem mF_J2_63 : Cond.fieldLink RJ2 63 "java/lang/StringUTF16" "LO_BYTE_SHIFT" "I" ∈ W0 := w0_2 147 rfl (by decide +kernel)
theorem mM_J2_232 : Cond.methodLink RJ2 232 yJ2_indexOfSupplementary_4cfef ∈ W0 := w0_2 149 rfl (by decide +kernel)
theorem mT_J2_indexOfSupplementary_4cfef : Cond.static yJ2_indexOfSupplementary_4cfef ∈ W0 := w0_2 150 rfl (by decide +kernel)
theorem mC_J2_indexOfSupplementary_4cfef : Cond.code yJ2_indexOfSupplementary_4cfef cJ2_indexOfSupplementary_4cfef 7 (some .int) ∈ W0 := w0_2 151 rfl (by decide +kernel)
theorem mM_J2_164 : Cond.methodLink RJ2 164 yJ11_isValidCodePoint_9a6ad ∈ W0 := w0_2 152 rfl (by decide +kernel)
theorem mT_J11_isValidCodePoint_9a6ad : Cond.static yJ11_isValidCodePoint_9a6ad ∈ W0 := w0_2 153 rfl (by decide +kernel)
theorem mC_J11_isValidCodePoint_9a6ad : Cond.code yJ11_isValidCodePoint_9a6ad cJ11_isValidCodePoint_9a6ad 2 (some .boolean) ∈ W0 := w0_2 154 rfl (by decide +kernel)
theorem mM_J2_157 : Cond.methodLink RJ2 157 yJ11_highSurrogate_5068e ∈ W0 := w0_2 155 rfl (by decide +kernel)
theorem mT_J11_highSurrogate_5068e : Cond.static yJ11_highSurrogate_5068e ∈ W0 := w0_2 156 rfl (by decide +kernel)
theorem mC_J11_highSurrogate_5068e : Cond.code yJ11_highSurrogate_5068e cJ11_highSurrogate_5068e 1 (some .char) ∈ W0 := w0_2 157 rfl (by decide +kernel)
theorem mK_J11_110 : Cond.constant RJ11 110 (55232) ∈ W0 := w0_2 158 rfl (by decide +kernel)
theorem mM_J2_161 : Cond.methodLink RJ2 161 yJ11_lowSurrogate_5068e ∈ W0 := w0_2 159 rfl (by decide +kernel)
theorem mT_J11_lowSurrogate_5068e : Cond.static yJ11_lowSurrogate_5068e ∈ W0 := w0_2 160 rfl (by decide +kernel)
theorem mC_J11_lowSurrogate_5068e : Cond.code yJ11_lowSurrogate_5068e cJ11_lowSurrogate_5068e 1 (some .char) ∈ W0 := w0_2 161 rfl (by decide +kernel)
theorem mK_J11_76 : Cond.constant RJ11 76 (56320) ∈ W0 := w0_2 162 rfl (by decide +kernel)
theorem mM_X3_61 : Cond.methodLink RX3 61 yX3_takeBeginning ∈ W0 := w0_2 163 rfl (by decide +kernel)
theorem mI_X3_takeBeginning : Cond.instanceMethod yX3_takeBeginning ∈ W0 := w0_2 165 rfl (by decide +kernel)
theorem mC_X3_takeBeginning : Cond.code yX3_takeBeginning cX3_takeBeginning 1 none ∈ W0 := w0_2 166 rfl (by decide +kernel)
theorem mM_X3_121 : Cond.methodLink RX3 121 yX2_isFull ∈ W0 := w0_2 167 rfl (by decide +kernel)
theorem mI_X2_isFull : Cond.instanceMethod yX2_isFull ∈ W0 := w0_2 168 rfl (by decide +kernel)
theorem mS_X2_isFull : Cond.selects RX2 yX2_isFull yX2_isFull ∈ W0 := w0_2 169 rfl (by decide +kernel)
theorem mC_X2_isFull : Cond.code yX2_isFull cX2_isFull 2 (some .boolean) ∈ W0 := w0_2 170 rfl (by decide +kernel)
theorem mM_X3_76 : Cond.methodLink RX3 76 yX3_fail ∈ W0 := w0_2 171 rfl (by decide +kernel)
theorem mI_X3_fail : Cond.instanceMethod yX3_fail ∈ W0 := w0_2 173 rfl (by decide +kernel)
theorem mC_X3_fail : Cond.code yX3_fail cX3_fail 1 none ∈ W0 := w0_2 174 rfl (by decide +kernel)
theorem mM_X3_128 : Cond.methodLink RX3 128 yX3_addLeaf ∈ W0 := w0_2 175 rfl (by decide +kernel)
theorem mI_X3_addLeaf : Cond.instanceMethod yX3_addLeaf ∈ W0 := w0_2 177 rfl (by decide +kernel)
theorem mC_X3_addLeaf : Cond.code yX3_addLeaf cX3_addLeaf 3 none ∈ W0 := w0_2 178 rfl (by decide +kernel)
theorem mM_X3_218 : Cond.methodLink RX3 218 yX2_addPart ∈ W0 := w0_2 179 rfl (by decide +kernel)
theorem mI_X2_addPart : Cond.instanceMethod yX2_addPart ∈ W0 := w0_2 180 rfl (by decide +kernel)
theorem mS_X2_addPart : Cond.selects RX2 yX2_addPart yX2_addPart ∈ W0 := w0_2 181 rfl (by decide +kernel)
theorem mC_X2_addPart : Cond.code yX2_addPart cX2_addPart 5 (some .int) ∈ W0 := w0_2 182 rfl (by decide +kernel)
theorem mM_X3_131 : Cond.methodLink RX3 131 yX3_takeName ∈ W0 := w0_2 183 rfl (by decide +kernel)
theorem mI_X3_takeName : Cond.instanceMethod yX3_takeName ∈ W0 := w0_2 185 rfl (by decide +kernel)
theorem mC_X3_takeName : Cond.code yX3_takeName cX3_takeName 3 none ∈ W0 := w0_2 186 rfl (by decide +kernel)
theorem mM_X3_144 : Cond.methodLink RX3 144 yX5_isParenthesisNext ∈ W0 := w0_2 187 rfl (by decide +kernel)
theorem mI_X5_isParenthesisNext : Cond.instanceMethod yX5_isParenthesisNext ∈ W0 := w0_2 188 rfl (by decide +kernel)
theorem mS_X5_isParenthesisNext : Cond.selects RX5 yX5_isParenthesisNext yX5_isParenthesisNext ∈ W0 := w0_2 189 rfl (by decide +kernel)
theorem mC_X5_isParenthesisNext : Cond.code yX5_isParenthesisNext cX5_isParenthesisNext 2 (some .boolean) ∈ W0 := w0_2 190 rfl (by decide +kernel)
theorem mM_X3_134 : Cond.methodLink RX3 134 yX3_beginPart ∈ W0 := w0_2 191 rfl (by decide +kernel)
theorem mI_X3_beginPart : Cond.instanceMethod yX3_beginPart ∈ W0 := w0_2 193 rfl (by decide +kernel)
theorem mC_X3_beginPart : Cond.code yX3_beginPart cX3_beginPart 4 (some .int) ∈ W0 := w0_2 194 rfl (by decide +kernel)
theorem mM_X3_115 : Cond.methodLink RX3 115 yX3_begin ∈ W0 := w0_2 195 rfl (by decide +kernel)
theorem mI_X3_begin : Cond.instanceMethod yX3_begin ∈ W0 := w0_2 197 rfl (by decide +kernel)
theorem mC_X3_begin : Cond.code yX3_begin cX3_begin 3 none ∈ W0 := w0_2 198 rfl (by decide +kernel)
theorem mM_X3_148 : Cond.methodLink RX3 148 yX3_keepName ∈ W0 := w0_2 199 rfl (by decide +kernel)
theorem mI_X3_keepName : Cond.instanceMethod yX3_keepName ∈ W0 := w0_2 201 rfl (by decide +kernel)
theorem mC_X3_keepName : Cond.code yX3_keepName cX3_keepName 2 none ∈ W0 := w0_2 202 rfl (by decide +kernel)
theorem mM_X3_152 : Cond.methodLink RX3 152 yX3_letNamed ∈ W0 := w0_2 203 rfl (by decide +kernel)
theorem mI_X3_letNamed : Cond.instanceMethod yX3_letNamed ∈ W0 := w0_2 205 rfl (by decide +kernel)
theorem mC_X3_letNamed : Cond.code yX3_letNamed cX3_letNamed 5 (some .int) ∈ W0 := w0_2 206 rfl (by decide +kernel)
theorem mM_X3_118 : Cond.methodLink RX3 118 yX3_argumentNamed ∈ W0 := w0_2 207 rfl (by decide +kernel)
theorem mI_X3_argumentNamed : Cond.instanceMethod yX3_argumentNamed ∈ W0 := w0_2 209 rfl (by decide +kernel)
theorem mC_X3_argumentNamed : Cond.code yX3_argumentNamed cX3_argumentNamed 4 (some .int) ∈ W0 := w0_2 210 rfl (by decide +kernel)
theorem mM_X3_138 : Cond.methodLink RX3 138 yX3_takeIfOrLet ∈ W0 := w0_2 211 rfl (by decide +kernel)
theorem mI_X3_takeIfOrLet : Cond.instanceMethod yX3_takeIfOrLet ∈ W0 := w0_2 213 rfl (by decide +kernel)
theorem mC_X3_takeIfOrLet : Cond.code yX3_takeIfOrLet cX3_takeIfOrLet 2 none ∈ W0 := w0_2 214 rfl (by decide +kernel)
theorem mM_X3_155 : Cond.methodLink RX3 155 yX3_innermost ∈ W0 := w0_2 215 rfl (by decide +kernel)
theorem mI_X3_innermost : Cond.instanceMethod yX3_innermost ∈ W0 := w0_2 217 rfl (by decide +kernel)
theorem mC_X3_innermost : Cond.code yX3_innermost cX3_innermost 1 (some .int) ∈ W0 := w0_2 218 rfl (by decide +kernel)
theorem mM_X3_159 : Cond.methodLink RX3 159 yX3_levelOf ∈ W0 := w0_2 219 rfl (by decide +kernel)
theorem mI_X3_levelOf : Cond.instanceMethod yX3_levelOf ∈ W0 := w0_2 221 rfl (by decide +kernel)
theorem mC_X3_levelOf : Cond.code yX3_levelOf cX3_levelOf 3 (some .int) ∈ W0 := w0_2 222 rfl (by decide +kernel)
theorem mM_X3_166 : Cond.methodLink RX3 166 yX3_levelOfSign ∈ W0 := w0_2 223 rfl (by decide +kernel)
theorem mT_X3_levelOfSign : Cond.static yX3_levelOfSign ∈ W0 := w0_2 224 rfl (by decide +kernel)
theorem mC_X3_levelOfSign : Cond.code yX3_levelOfSign cX3_levelOfSign 1 (some .int) ∈ W0 := w0_2 225 rfl (by decide +kernel)
theorem mM_X3_141 : Cond.methodLink RX3 141 yX3_takeParenthesis ∈ W0 := w0_2 226 rfl (by decide +kernel)
theorem mI_X3_takeParenthesis : Cond.instanceMethod yX3_takeParenthesis ∈ W0 := w0_2 228 rfl (by decide +kernel)
theorem mC_X3_takeParenthesis : Cond.code yX3_takeParenthesis cX3_takeParenthesis 1 none ∈ W0 := w0_2 229 rfl (by decide +kernel)
theorem mM_X3_64 : Cond.methodLink RX3 64 yX3_takeContinuation ∈ W0 := w0_2 230 rfl (by decide +kernel)
theorem mI_X3_takeContinuation : Cond.instanceMethod yX3_takeContinuation ∈ W0 := w0_2 232 rfl (by decide +kernel)
theorem mC_X3_takeContinuation : Cond.code yX3_takeContinuation cX3_takeContinuation 2 none ∈ W0 := w0_2 233 rfl (by decide +kernel)
theorem mM_X3_169 : Cond.methodLink RX3 169 yX3_takeSign ∈ W0 := w0_2 234 rfl (by decide +kernel)
theorem mI_X3_takeSign : Cond.instanceMethod yX3_takeSign ∈ W0 := w0_2 236 rfl (by decide +kernel)
theorem mC_X3_takeSign : Cond.code yX3_takeSign cX3_takeSign 3 none ∈ W0 := w0_2 237 rfl (by decide +kernel)
theorem mM_X3_178 : Cond.methodLink RX3 178 yJ9_max_7cf53 ∈ W0 := w0_2 238 rfl (by decide +kernel)
theorem mM_X3_183 : Cond.methodLink RX3 183 yX3_endSigns ∈ W0 := w0_2 239 rfl (by decide +kernel)
theorem mI_X3_endSigns : Cond.instanceMethod yX3_endSigns ∈ W0 := w0_3 1 rfl (by decide +kernel)
theorem mC_X3_endSigns : Cond.code yX3_endSigns cX3_endSigns 3 none ∈ W0 := w0_3 2 rfl (by decide +kernel)
theorem mM_X3_189 : Cond.methodLink RX3 189 yX3_endWithLatest ∈ W0 := w0_3 3 rfl (by decide +kernel)
theorem mI_X3_endWithLatest : Cond.instanceMethod yX3_endWithLatest ∈ W0 := w0_3 5 rfl (by decide +kernel)
theorem mC_X3_endWithLatest : Cond.code yX3_endWithLatest cX3_endWithLatest 1 none ∈ W0 := w0_3 6 rfl (by decide +kernel)
theorem mM_X3_212 : Cond.methodLink RX3 212 yX2_attach ∈ W0 := w0_3 7 rfl (by decide +kernel)
theorem mI_X2_attach : Cond.instanceMethod yX2_attach ∈ W0 := w0_3 8 rfl (by decide +kernel)
theorem mS_X2_attach : Cond.selects RX2 yX2_attach yX2_attach ∈ W0 := w0_3 9 rfl (by decide +kernel)
theorem mC_X2_attach : Cond.code yX2_attach cX2_attach 3 none ∈ W0 := w0_3 10 rfl (by decide +kernel)
theorem mM_X3_163 : Cond.methodLink RX3 163 yX3_end ∈ W0 := w0_3 11 rfl (by decide +kernel)
theorem mI_X3_end : Cond.instanceMethod yX3_end ∈ W0 := w0_3 13 rfl (by decide +kernel)
theorem mC_X3_end : Cond.code yX3_end cX3_end 1 none ∈ W0 := w0_3 14 rfl (by decide +kernel)
theorem mM_X3_175 : Cond.methodLink RX3 175 yX3_beginPartBehind ∈ W0 := w0_3 15 rfl (by decide +kernel)
theorem mI_X3_beginPartBehind : Cond.instanceMethod yX3_beginPartBehind ∈ W0 := w0_3 17 rfl (by decide +kernel)
theorem mC_X3_beginPartBehind : Cond.code yX3_beginPartBehind cX3_beginPartBehind 3 none ∈ W0 := w0_3 18 rfl (by decide +kernel)
theorem mM_X3_172 : Cond.methodLink RX3 172 yX3_endExpression ∈ W0 := w0_3 19 rfl (by decide +kernel)
theorem mI_X3_endExpression : Cond.instanceMethod yX3_endExpression ∈ W0 := w0_3 21 rfl (by decide +kernel)
theorem mC_X3_endExpression : Cond.code yX3_endExpression cX3_endExpression 2 none ∈ W0 := w0_3 22 rfl (by decide +kernel)
theorem mM_X3_186 : Cond.methodLink RX3 186 yX3_isInLastExpression ∈ W0 := w0_3 23 rfl (by decide +kernel)
theorem mI_X3_isInLastExpression : Cond.instanceMethod yX3_isInLastExpression ∈ W0 := w0_3 25 rfl (by decide +kernel)
theorem mC_X3_isInLastExpression : Cond.code yX3_isInLastExpression cX3_isInLastExpression 3 (some .boolean) ∈ W0 := w0_3 26 rfl (by decide +kernel)
theorem mM_X3_192 : Cond.methodLink RX3 192 yX3_endBody ∈ W0 := w0_3 27 rfl (by decide +kernel)
theorem mI_X3_endBody : Cond.instanceMethod yX3_endBody ∈ W0 := w0_3 29 rfl (by decide +kernel)
theorem mC_X3_endBody : Cond.code yX3_endBody cX3_endBody 1 none ∈ W0 := w0_3 30 rfl (by decide +kernel)
theorem mM_X3_85 : Cond.methodLink RX3 85 yX3_expect ∈ W0 := w0_3 31 rfl (by decide +kernel)
theorem mI_X3_expect : Cond.instanceMethod yX3_expect ∈ W0 := w0_3 33 rfl (by decide +kernel)
theorem mC_X3_expect : Cond.code yX3_expect cX3_expect 3 none ∈ W0 := w0_3 34 rfl (by decide +kernel)
theorem mM_X3_195 : Cond.methodLink RX3 195 yX3_endParentheses ∈ W0 := w0_3 35 rfl (by decide +kernel)
theorem mI_X3_endParentheses : Cond.instanceMethod yX3_endParentheses ∈ W0 := w0_3 37 rfl (by decide +kernel)
theorem mC_X3_endParentheses : Cond.code yX3_endParentheses cX3_endParentheses 1 none ∈ W0 := w0_3 38 rfl (by decide +kernel)
theorem mM_X3_198 : Cond.methodLink RX3 198 yX3_endExpressionIn ∈ W0 := w0_3 39 rfl (by decide +kernel)
theorem mI_X3_endExpressionIn : Cond.instanceMethod yX3_endExpressionIn ∈ W0 := w0_3 41 rfl (by decide +kernel)
theorem mC_X3_endExpressionIn : Cond.code yX3_endExpressionIn cX3_endExpressionIn 5 none ∈ W0 := w0_3 42 rfl (by decide +kernel)
theorem mM_X3_215 : Cond.methodLink RX3 215 yX3_wordBehind ∈ W0 := w0_3 43 rfl (by decide +kernel)
theorem mI_X3_wordBehind : Cond.instanceMethod yX3_wordBehind ∈ W0 := w0_3 45 rfl (by decide +kernel)
theorem mC_X3_wordBehind : Cond.code yX3_wordBehind cX3_wordBehind 2 (some .int) ∈ W0 := w0_3 46 rfl (by decide +kernel)
theorem mM_X3_67 : Cond.methodLink RX3 67 yX3_takeOfHead ∈ W0 := w0_3 47 rfl (by decide +kernel)
theorem mI_X3_takeOfHead : Cond.instanceMethod yX3_takeOfHead ∈ W0 := w0_3 49 rfl (by decide +kernel)
theorem mC_X3_takeOfHead : Cond.code yX3_takeOfHead cX3_takeOfHead 1 none ∈ W0 := w0_3 50 rfl (by decide +kernel)
theorem mM_X3_82 : Cond.methodLink RX3 82 yX3_takeDefinitionName ∈ W0 := w0_3 51 rfl (by decide +kernel)
theorem mI_X3_takeDefinitionName : Cond.instanceMethod yX3_takeDefinitionName ∈ W0 := w0_3 53 rfl (by decide +kernel)
theorem mC_X3_takeDefinitionName : Cond.code yX3_takeDefinitionName cX3_takeDefinitionName 1 none ∈ W0 := w0_3 54 rfl (by decide +kernel)
theorem mM_X3_99 : Cond.methodLink RX3 99 yX3_definitionNamed ∈ W0 := w0_3 55 rfl (by decide +kernel)
theorem mI_X3_definitionNamed : Cond.instanceMethod yX3_definitionNamed ∈ W0 := w0_3 57 rfl (by decide +kernel)
theorem mC_X3_definitionNamed : Cond.code yX3_definitionNamed cX3_definitionNamed 4 (some .int) ∈ W0 := w0_3 58 rfl (by decide +kernel)
theorem mM_X3_89 : Cond.methodLink RX3 89 yX3_takeArgumentName ∈ W0 := w0_3 59 rfl (by decide +kernel)
theorem mI_X3_takeArgumentName : Cond.instanceMethod yX3_takeArgumentName ∈ W0 := w0_3 61 rfl (by decide +kernel)
theorem mC_X3_takeArgumentName : Cond.code yX3_takeArgumentName cX3_takeArgumentName 2 none ∈ W0 := w0_3 62 rfl (by decide +kernel)
theorem mM_X3_70 : Cond.methodLink RX3 70 yX3_takeOfCallMakeLet ∈ W0 := w0_3 63 rfl (by decide +kernel)
theorem mI_X3_takeOfCallMakeLet : Cond.instanceMethod yX3_takeOfCallMakeLet ∈ W0 := w0_3 65 rfl (by decide +kernel)
theorem mC_X3_takeOfCallMakeLet : Cond.code yX3_takeOfCallMakeLet cX3_takeOfCallMakeLet 1 none ∈ W0 := w0_3 66 rfl (by decide +kernel)
theorem mM_X3_73 : Cond.methodLink RX3 73 yX5_advance ∈ W0 := w0_3 67 rfl (by decide +kernel)
theorem mM_X3_79 : Cond.methodLink RX3 79 yX3_bindCalls ∈ W0 := w0_3 68 rfl (by decide +kernel)
theorem mI_X3_bindCalls : Cond.instanceMethod yX3_bindCalls ∈ W0 := w0_3 70 rfl (by decide +kernel)
theorem mC_X3_bindCalls : Cond.code yX3_bindCalls cX3_bindCalls 4 none ∈ W0 := w0_3 71 rfl (by decide +kernel)
theorem mM_X3_225 : Cond.methodLink RX3 225 yX3_bindCall ∈ W0 := w0_3 72 rfl (by decide +kernel)
theorem mI_X3_bindCall : Cond.instanceMethod yX3_bindCall ∈ W0 := w0_3 74 rfl (by decide +kernel)
theorem mC_X3_bindCall : Cond.code yX3_bindCall cX3_bindCall 4 none ∈ W0 := w0_3 75 rfl (by decide +kernel)
theorem mM_X6_54 : Cond.methodLink RX6 54 yX5_makeEmpty ∈ W0 := w0_3 76 rfl (by decide +kernel)
theorem mI_X5_makeEmpty : Cond.instanceMethod yX5_makeEmpty ∈ W0 := w0_3 77 rfl (by decide +kernel)
theorem mS_X5_makeEmpty : Cond.selects RX5 yX5_makeEmpty yX5_makeEmpty ∈ W0 := w0_3 78 rfl (by decide +kernel)
theorem mC_X5_makeEmpty : Cond.code yX5_makeEmpty cX5_makeEmpty 1 none ∈ W0 := w0_3 79 rfl (by decide +kernel)
theorem mM_X6_61 : Cond.methodLink RX6 61 yX3_exchangeFor ∈ W0 := w0_3 80 rfl (by decide +kernel)
theorem mI_X3_exchangeFor : Cond.instanceMethod yX3_exchangeFor ∈ W0 := w0_3 81 rfl (by decide +kernel)
theorem mS_X3_exchangeFor : Cond.selects RX3 yX3_exchangeFor yX3_exchangeFor ∈ W0 := w0_3 82 rfl (by decide +kernel)
theorem mC_X3_exchangeFor : Cond.code yX3_exchangeFor cX3_exchangeFor 3 (some (.object "TokenFrames$Program")) ∈ W0 := w0_3 83 rfl (by decide +kernel)
theorem mA_byte : Cond.arrayClass .byte ∈ W0 := w0_3 84 rfl (by decide +kernel)
theorem mM_L_55 : Cond.methodLink RL 55 yX6_value ∈ W0 := w0_3 85 rfl (by decide +kernel)
theorem mI_X6_value : Cond.instanceMethod yX6_value ∈ W0 := w0_3 86 rfl (by decide +kernel)
theorem mS_X6_value : Cond.selects RX6 yX6_value yX6_value ∈ W0 := w0_3 87 rfl (by decide +kernel)
theorem mC_X6_value : Cond.code yX6_value cX6_value 1 (some .int) ∈ W0 := w0_3 88 rfl (by decide +kernel)
theorem mM_L_67 : Cond.methodLink RL 67 yX6_clear ∈ W0 := w0_3 89 rfl (by decide +kernel)
theorem mI_X6_clear : Cond.instanceMethod yX6_clear ∈ W0 := w0_3 90 rfl (by decide +kernel)
theorem mS_X6_clear : Cond.selects RX6 yX6_clear yX6_clear ∈ W0 := w0_3 91 rfl (by decide +kernel)
theorem mC_X6_clear : Cond.code yX6_clear cX6_clear 1 none ∈ W0 := w0_3 92 rfl (by decide +kernel)
theorem mM_X6_80 : Cond.methodLink RX6 80 yX6_forgetRun ∈ W0 := w0_3 93 rfl (by decide +kernel)
theorem mI_X6_forgetRun : Cond.instanceMethod yX6_forgetRun ∈ W0 := w0_3 95 rfl (by decide +kernel)
theorem mC_X6_forgetRun : Cond.code yX6_forgetRun cX6_forgetRun 2 none ∈ W0 := w0_3 96 rfl (by decide +kernel)
theorem mM_L_37 : Cond.methodLink RL 37 yL_feed ∈ W0 := w0_3 97 rfl (by decide +kernel)
theorem mT_L_feed : Cond.static yL_feed ∈ W0 := w0_3 98 rfl (by decide +kernel)
theorem mL_L_13 : Cond.classLink RL 13 "java/lang/IllegalArgumentException" ∈ W0 := w0_3 100 rfl (by decide +kernel)
theorem mL_L_15 : Cond.classLink RL 15 "java/lang/UnsupportedOperationException" ∈ W0 := w0_3 101 rfl (by decide +kernel)
theorem mM_L_7 : Cond.methodLink RL 7 yX6_feed ∈ W0 := w0_3 102 rfl (by decide +kernel)
theorem mI_X6_feed : Cond.instanceMethod yX6_feed ∈ W0 := w0_3 103 rfl (by decide +kernel)
theorem mS_X6_feed : Cond.selects RX6 yX6_feed yX6_feed ∈ W0 := w0_3 104 rfl (by decide +kernel)
theorem mC_X6_feed : Cond.code yX6_feed cX6_feed 8 (some .int) ∈ W0 := w0_3 105 rfl (by decide +kernel)
theorem mL_X6_27 : Cond.classLink RX6 27 "java/lang/IllegalArgumentException" ∈ W0 := w0_3 106 rfl (by decide +kernel)
theorem mM_X6_34 : Cond.methodLink RX6 34 yX5_room ∈ W0 := w0_3 170 rfl (by decide +kernel)
theorem mI_X5_room : Cond.instanceMethod yX5_room ∈ W0 := w0_3 171 rfl (by decide +kernel)
theorem mS_X5_room : Cond.selects RX5 yX5_room yX5_room ∈ W0 := w0_3 172 rfl (by decide +kernel)
theorem mC_X5_room : Cond.code yX5_room cX5_room 1 (some .int) ∈ W0 := w0_3 173 rfl (by decide +kernel)
theorem mL_X6_40 : Cond.classLink RX6 40 "java/lang/UnsupportedOperationException" ∈ W0 := w0_3 174 rfl (by decide +kernel)
theorem mM_X6_43 : Cond.methodLink RX6 43 yX5_add ∈ W0 := w0_3 189 rfl (by decide +kernel)
theorem mI_X5_add : Cond.instanceMethod yX5_add ∈ W0 := w0_3 190 rfl (by decide +kernel)
theorem mS_X5_add : Cond.selects RX5 yX5_add yX5_add ∈ W0 := w0_3 191 rfl (by decide +kernel)
theorem mC_X5_add : Cond.code yX5_add cX5_add 2 none ∈ W0 := w0_3 192 rfl (by decide +kernel)
theorem mM_L_51 : Cond.methodLink RL 51 yL_run ∈ W0 := w0_3 193 rfl (by decide +kernel)
theorem mT_L_run : Cond.static yL_run ∈ W0 := w0_3 194 rfl (by decide +kernel)
theorem mL_L_21 : Cond.classLink RL 21 "java/lang/IllegalStateException" ∈ W0 := w0_3 196 rfl (by decide +kernel)
theorem mM_L_17 : Cond.methodLink RL 17 yX6_run ∈ W0 := w0_3 197 rfl (by decide +kernel)
theorem mI_X6_run : Cond.instanceMethod yX6_run ∈ W0 := w0_3 198 rfl (by decide +kernel)
theorem mS_X6_run : Cond.selects RX6 yX6_run yX6_run ∈ W0 := w0_3 199 rfl (by decide +kernel)
theorem mC_X6_run : Cond.code yX6_run cX6_run 6 (some .int) ∈ W0 := w0_3 200 rfl (by decide +kernel)
theorem mL_X6_70 : Cond.classLink RX6 70 "java/lang/IllegalStateException" ∈ W0 := w0_3 201 rfl (by decide +kernel)
theorem mM_X6_73 : Cond.methodLink RX6 73 yX1_prepare ∈ W0 := w0_3 216 rfl (by decide +kernel)
theorem mI_X1_prepare : Cond.instanceMethod yX1_prepare ∈ W0 := w0_3 217 rfl (by decide +kernel)
theorem mS_X1_prepare : Cond.selects RX1 yX1_prepare yX1_prepare ∈ W0 := w0_3 218 rfl (by decide +kernel)
theorem mC_X1_prepare : Cond.code yX1_prepare cX1_prepare 5 none ∈ W0 := w0_3 219 rfl (by decide +kernel)
theorem mM_X1_45 : Cond.methodLink RX1 45 yJ9_min_7cf53 ∈ W0 := w0_3 220 rfl (by decide +kernel)
theorem mM_X1_64 : Cond.methodLink RX1 64 yX4_emptyFor ∈ W0 := w0_3 221 rfl (by decide +kernel)
theorem mI_X4_emptyFor : Cond.instanceMethod yX4_emptyFor ∈ W0 := w0_3 222 rfl (by decide +kernel)
theorem mS_X4_emptyFor : Cond.selects RX4 yX4_emptyFor yX4_emptyFor ∈ W0 := w0_3 223 rfl (by decide +kernel)
theorem mC_X4_emptyFor : Cond.code yX4_emptyFor cX4_emptyFor 2 none ∈ W0 := w0_3 224 rfl (by decide +kernel)
theorem mM_X4_38 : Cond.methodLink RX4 38 yX0_emptyFor ∈ W0 := w0_3 225 rfl (by decide +kernel)
theorem mI_X0_emptyFor : Cond.instanceMethod yX0_emptyFor ∈ W0 := w0_3 226 rfl (by decide +kernel)
theorem mS_X0_emptyFor : Cond.selects RX0 yX0_emptyFor yX0_emptyFor ∈ W0 := w0_3 227 rfl (by decide +kernel)
theorem mC_X0_emptyFor : Cond.code yX0_emptyFor cX0_emptyFor 2 none ∈ W0 := w0_3 228 rfl (by decide +kernel)
theorem mM_X6_77 : Cond.methodLink RX6 77 yX1_workOutAll ∈ W0 := w0_3 229 rfl (by decide +kernel)
theorem mI_X1_workOutAll : Cond.instanceMethod yX1_workOutAll ∈ W0 := w0_3 230 rfl (by decide +kernel)
theorem mS_X1_workOutAll : Cond.selects RX1 yX1_workOutAll yX1_workOutAll ∈ W0 := w0_3 231 rfl (by decide +kernel)
theorem mC_X1_workOutAll : Cond.code yX1_workOutAll cX1_workOutAll 2 (some .int) ∈ W0 := w0_3 232 rfl (by decide +kernel)
theorem mM_X1_68 : Cond.methodLink RX1 68 yX1_beginCall ∈ W0 := w0_3 233 rfl (by decide +kernel)
theorem mI_X1_beginCall : Cond.instanceMethod yX1_beginCall ∈ W0 := w0_3 235 rfl (by decide +kernel)
theorem mC_X1_beginCall : Cond.code yX1_beginCall cX1_beginCall 5 (some .int) ∈ W0 := w0_3 236 rfl (by decide +kernel)
theorem mM_X1_107 : Cond.methodLink RX1 107 yX4_forget ∈ W0 := w0_3 237 rfl (by decide +kernel)
theorem mI_X4_forget : Cond.instanceMethod yX4_forget ∈ W0 := w0_3 238 rfl (by decide +kernel)
theorem mS_X4_forget : Cond.selects RX4 yX4_forget yX4_forget ∈ W0 := w0_3 239 rfl (by decide +kernel)
theorem mC_X4_forget : Cond.code yX4_forget cX4_forget 4 none ∈ W0 := w0_4 0 rfl (by decide +kernel)
theorem mM_X1_90 : Cond.methodLink RX1 90 yX1_rootOf ∈ W0 := w0_4 1 rfl (by decide +kernel)
theorem mI_X1_rootOf : Cond.instanceMethod yX1_rootOf ∈ W0 := w0_4 3 rfl (by decide +kernel)
theorem mC_X1_rootOf : Cond.code yX1_rootOf cX1_rootOf 2 (some .int) ∈ W0 := w0_4 4 rfl (by decide +kernel)
theorem mM_X1_111 : Cond.methodLink RX1 111 yX4_reach ∈ W0 := w0_4 5 rfl (by decide +kernel)
theorem mI_X4_reach : Cond.instanceMethod yX4_reach ∈ W0 := w0_4 6 rfl (by decide +kernel)
theorem mS_X4_reach : Cond.selects RX4 yX4_reach yX4_reach ∈ W0 := w0_4 7 rfl (by decide +kernel)
theorem mC_X4_reach : Cond.code yX4_reach cX4_reach 2 none ∈ W0 := w0_4 8 rfl (by decide +kernel)
theorem mM_X4_46 : Cond.methodLink RX4 46 yX0_put ∈ W0 := w0_4 9 rfl (by decide +kernel)
theorem mI_X0_put : Cond.instanceMethod yX0_put ∈ W0 := w0_4 10 rfl (by decide +kernel)
theorem mS_X0_put : Cond.selects RX0 yX0_put yX0_put ∈ W0 := w0_4 11 rfl (by decide +kernel)
theorem mC_X0_put : Cond.code yX0_put cX0_put 2 none ∈ W0 := w0_4 12 rfl (by decide +kernel)
theorem mK_X1_72 : Cond.constant RX1 72 (1000000) ∈ W0 := w0_4 13 rfl (by decide +kernel)
theorem mM_X1_77 : Cond.methodLink RX1 77 yX0_isEmpty ∈ W0 := w0_4 14 rfl (by decide +kernel)
theorem mI_X0_isEmpty : Cond.instanceMethod yX0_isEmpty ∈ W0 := w0_4 15 rfl (by decide +kernel)
theorem mS_X0_isEmpty : Cond.selects RX0 yX0_isEmpty yX0_isEmpty ∈ W0 := w0_4 16 rfl (by decide +kernel)
theorem mC_X0_isEmpty : Cond.code yX0_isEmpty cX0_isEmpty 1 (some .boolean) ∈ W0 := w0_4 17 rfl (by decide +kernel)
theorem mM_X1_83 : Cond.methodLink RX1 83 yX0_take ∈ W0 := w0_4 18 rfl (by decide +kernel)
theorem mI_X0_take : Cond.instanceMethod yX0_take ∈ W0 := w0_4 19 rfl (by decide +kernel)
theorem mS_X0_take : Cond.selects RX0 yX0_take yX0_take ∈ W0 := w0_4 20 rfl (by decide +kernel)
theorem mC_X0_take : Cond.code yX0_take cX0_take 5 (some .int) ∈ W0 := w0_4 21 rfl (by decide +kernel)
theorem mM_X0_28 : Cond.methodLink RX0 28 yX0_chance ∈ W0 := w0_4 22 rfl (by decide +kernel)
theorem mI_X0_chance : Cond.instanceMethod yX0_chance ∈ W0 := w0_4 24 rfl (by decide +kernel)
theorem mC_X0_chance : Cond.code yX0_chance cX0_chance 1 (some .int) ∈ W0 := w0_4 25 rfl (by decide +kernel)
theorem mK_X0_32 : Cond.constant RX0 32 (1103515245) ∈ W0 := w0_4 26 rfl (by decide +kernel)
theorem mM_X1_87 : Cond.methodLink RX1 87 yX1_lookAt ∈ W0 := w0_4 27 rfl (by decide +kernel)
theorem mI_X1_lookAt : Cond.instanceMethod yX1_lookAt ∈ W0 := w0_4 29 rfl (by decide +kernel)
theorem mC_X1_lookAt : Cond.code yX1_lookAt cX1_lookAt 3 none ∈ W0 := w0_4 30 rfl (by decide +kernel)
theorem mM_X1_114 : Cond.methodLink RX1 114 yX1_partOf ∈ W0 := w0_4 31 rfl (by decide +kernel)
theorem mI_X1_partOf : Cond.instanceMethod yX1_partOf ∈ W0 := w0_4 33 rfl (by decide +kernel)
theorem mC_X1_partOf : Cond.code yX1_partOf cX1_partOf 2 (some .int) ∈ W0 := w0_4 34 rfl (by decide +kernel)
theorem mM_X1_117 : Cond.methodLink RX1 117 yX4_see ∈ W0 := w0_4 35 rfl (by decide +kernel)
theorem mI_X4_see : Cond.instanceMethod yX4_see ∈ W0 := w0_4 36 rfl (by decide +kernel)
theorem mS_X4_see : Cond.selects RX4 yX4_see yX4_see ∈ W0 := w0_4 37 rfl (by decide +kernel)
theorem mC_X4_see : Cond.code yX4_see cX4_see 3 (some .boolean) ∈ W0 := w0_4 38 rfl (by decide +kernel)
theorem mM_X1_120 : Cond.methodLink RX1 120 yX1_reachInside ∈ W0 := w0_4 39 rfl (by decide +kernel)
theorem mI_X1_reachInside : Cond.instanceMethod yX1_reachInside ∈ W0 := w0_4 41 rfl (by decide +kernel)
theorem mC_X1_reachInside : Cond.code yX1_reachInside cX1_reachInside 6 none ∈ W0 := w0_4 42 rfl (by decide +kernel)
theorem mM_X1_136 : Cond.methodLink RX1 136 yX1_inside ∈ W0 := w0_4 43 rfl (by decide +kernel)
theorem mI_X1_inside : Cond.instanceMethod yX1_inside ∈ W0 := w0_4 45 rfl (by decide +kernel)
theorem mC_X1_inside : Cond.code yX1_inside cX1_inside 5 (some .int) ∈ W0 := w0_4 46 rfl (by decide +kernel)
theorem mM_X1_176 : Cond.methodLink RX1 176 yX2_childOf ∈ W0 := w0_4 47 rfl (by decide +kernel)
theorem mI_X2_childOf : Cond.instanceMethod yX2_childOf ∈ W0 := w0_4 48 rfl (by decide +kernel)
theorem mS_X2_childOf : Cond.selects RX2 yX2_childOf yX2_childOf ∈ W0 := w0_4 49 rfl (by decide +kernel)
theorem mC_X2_childOf : Cond.code yX2_childOf cX2_childOf 3 (some .int) ∈ W0 := w0_4 50 rfl (by decide +kernel)
theorem mM_X1_129 : Cond.methodLink RX1 129 yX4_settle ∈ W0 := w0_4 51 rfl (by decide +kernel)
theorem mI_X4_settle : Cond.instanceMethod yX4_settle ∈ W0 := w0_4 52 rfl (by decide +kernel)
theorem mS_X4_settle : Cond.selects RX4 yX4_settle yX4_settle ∈ W0 := w0_4 53 rfl (by decide +kernel)
theorem mC_X4_settle : Cond.code yX4_settle cX4_settle 6 none ∈ W0 := w0_4 54 rfl (by decide +kernel)
theorem mM_X1_133 : Cond.methodLink RX1 133 yX1_workOutArgument ∈ W0 := w0_4 55 rfl (by decide +kernel)
theorem mI_X1_workOutArgument : Cond.instanceMethod yX1_workOutArgument ∈ W0 := w0_4 57 rfl (by decide +kernel)
theorem mC_X1_workOutArgument : Cond.code yX1_workOutArgument cX1_workOutArgument 5 none ∈ W0 := w0_4 58 rfl (by decide +kernel)
theorem mM_X1_139 : Cond.methodLink RX1 139 yX4_follow ∈ W0 := w0_4 59 rfl (by decide +kernel)
theorem mI_X4_follow : Cond.instanceMethod yX4_follow ∈ W0 := w0_4 60 rfl (by decide +kernel)
theorem mS_X4_follow : Cond.selects RX4 yX4_follow yX4_follow ∈ W0 := w0_4 61 rfl (by decide +kernel)
theorem mC_X4_follow : Cond.code yX4_follow cX4_follow 3 none ∈ W0 := w0_4 62 rfl (by decide +kernel)
theorem mM_X4_49 : Cond.methodLink RX4 49 yX4_has ∈ W0 := w0_4 63 rfl (by decide +kernel)
theorem mI_X4_has : Cond.instanceMethod yX4_has ∈ W0 := w0_4 64 rfl (by decide +kernel)
theorem mS_X4_has : Cond.selects RX4 yX4_has yX4_has ∈ W0 := w0_4 65 rfl (by decide +kernel)
theorem mC_X4_has : Cond.code yX4_has cX4_has 3 (some .boolean) ∈ W0 := w0_4 66 rfl (by decide +kernel)
theorem mM_X4_53 : Cond.methodLink RX4 53 yX4_settle ∈ W0 := w0_4 67 rfl (by decide +kernel)
theorem mM_X1_142 : Cond.methodLink RX1 142 yX1_negate ∈ W0 := w0_4 68 rfl (by decide +kernel)
theorem mI_X1_negate : Cond.instanceMethod yX1_negate ∈ W0 := w0_4 70 rfl (by decide +kernel)
theorem mC_X1_negate : Cond.code yX1_negate cX1_negate 3 none ∈ W0 := w0_4 71 rfl (by decide +kernel)
theorem mM_X1_160 : Cond.methodLink RX1 160 yX4_has ∈ W0 := w0_4 72 rfl (by decide +kernel)
theorem mM_X1_98 : Cond.methodLink RX1 98 yX4_numberAt ∈ W0 := w0_4 73 rfl (by decide +kernel)
theorem mI_X4_numberAt : Cond.instanceMethod yX4_numberAt ∈ W0 := w0_4 74 rfl (by decide +kernel)
theorem mS_X4_numberAt : Cond.selects RX4 yX4_numberAt yX4_numberAt ∈ W0 := w0_4 75 rfl (by decide +kernel)
theorem mC_X4_numberAt : Cond.code yX4_numberAt cX4_numberAt 2 (some .int) ∈ W0 := w0_4 76 rfl (by decide +kernel)
theorem mM_X1_145 : Cond.methodLink RX1 145 yX1_choose ∈ W0 := w0_4 77 rfl (by decide +kernel)
theorem mI_X1_choose : Cond.instanceMethod yX1_choose ∈ W0 := w0_4 79 rfl (by decide +kernel)
theorem mC_X1_choose : Cond.code yX1_choose cX1_choose 5 none ∈ W0 := w0_4 80 rfl (by decide +kernel)
theorem mM_X1_148 : Cond.methodLink RX1 148 yX1_makeCells ∈ W0 := w0_4 81 rfl (by decide +kernel)
theorem mI_X1_makeCells : Cond.instanceMethod yX1_makeCells ∈ W0 := w0_4 83 rfl (by decide +kernel)
theorem mC_X1_makeCells : Cond.code yX1_makeCells cX1_makeCells 7 none ∈ W0 := w0_4 84 rfl (by decide +kernel)
theorem mM_X1_164 : Cond.methodLink RX1 164 yJ9_max_7cf53 ∈ W0 := w0_4 85 rfl (by decide +kernel)
theorem mM_X1_151 : Cond.methodLink RX1 151 yX1_fetch ∈ W0 := w0_4 86 rfl (by decide +kernel)
theorem mI_X1_fetch : Cond.instanceMethod yX1_fetch ∈ W0 := w0_4 88 rfl (by decide +kernel)
theorem mC_X1_fetch : Cond.code yX1_fetch cX1_fetch 6 none ∈ W0 := w0_4 89 rfl (by decide +kernel)
theorem mM_X1_167 : Cond.methodLink RX1 167 yX4_arrayAt ∈ W0 := w0_4 90 rfl (by decide +kernel)
theorem mI_X4_arrayAt : Cond.instanceMethod yX4_arrayAt ∈ W0 := w0_4 91 rfl (by decide +kernel)
theorem mS_X4_arrayAt : Cond.selects RX4 yX4_arrayAt yX4_arrayAt ∈ W0 := w0_4 92 rfl (by decide +kernel)
theorem mC_X4_arrayAt : Cond.code yX4_arrayAt cX4_arrayAt 2 (some .int) ∈ W0 := w0_4 93 rfl (by decide +kernel)
theorem mM_X1_154 : Cond.methodLink RX1 154 yX1_combine ∈ W0 := w0_4 94 rfl (by decide +kernel)
theorem mI_X1_combine : Cond.instanceMethod yX1_combine ∈ W0 := w0_4 96 rfl (by decide +kernel)
theorem mC_X1_combine : Cond.code yX1_combine cX1_combine 7 none ∈ W0 := w0_4 97 rfl (by decide +kernel)
theorem mM_X1_170 : Cond.methodLink RX1 170 yX1_combined ∈ W0 := w0_4 98 rfl (by decide +kernel)
theorem mT_X1_combined : Cond.static yX1_combined ∈ W0 := w0_4 99 rfl (by decide +kernel)
theorem mC_X1_combined : Cond.code yX1_combined cX1_combined 3 (some .int) ∈ W0 := w0_4 100 rfl (by decide +kernel)
theorem mM_X1_94 : Cond.methodLink RX1 94 yX4_isKnown ∈ W0 := w0_4 101 rfl (by decide +kernel)
theorem mI_X4_isKnown : Cond.instanceMethod yX4_isKnown ∈ W0 := w0_4 102 rfl (by decide +kernel)
theorem mS_X4_isKnown : Cond.selects RX4 yX4_isKnown yX4_isKnown ∈ W0 := w0_4 103 rfl (by decide +kernel)
theorem mC_X4_isKnown : Cond.code yX4_isKnown cX4_isKnown 2 (some .boolean) ∈ W0 := w0_4 104 rfl (by decide +kernel)
theorem mM_X6_83 : Cond.methodLink RX6 83 yX1_outcomeNumber ∈ W0 := w0_4 105 rfl (by decide +kernel)
theorem mI_X1_outcomeNumber : Cond.instanceMethod yX1_outcomeNumber ∈ W0 := w0_4 106 rfl (by decide +kernel)
theorem mS_X1_outcomeNumber : Cond.selects RX1 yX1_outcomeNumber yX1_outcomeNumber ∈ W0 := w0_4 107 rfl (by decide +kernel)
theorem mC_X1_outcomeNumber : Cond.code yX1_outcomeNumber cX1_outcomeNumber 1 (some .int) ∈ W0 := w0_4 108 rfl (by decide +kernel)
theorem mM_X6_92 : Cond.methodLink RX6 92 yX1_knownParts ∈ W0 := w0_4 109 rfl (by decide +kernel)
theorem mI_X1_knownParts : Cond.instanceMethod yX1_knownParts ∈ W0 := w0_4 110 rfl (by decide +kernel)
theorem mS_X1_knownParts : Cond.selects RX1 yX1_knownParts yX1_knownParts ∈ W0 := w0_4 111 rfl (by decide +kernel)
theorem mC_X1_knownParts : Cond.code yX1_knownParts cX1_knownParts 1 (some .int) ∈ W0 := w0_4 112 rfl (by decide +kernel)
theorem mM_X6_95 : Cond.methodLink RX6 95 yX1_knownCells ∈ W0 := w0_4 113 rfl (by decide +kernel)
theorem mI_X1_knownCells : Cond.instanceMethod yX1_knownCells ∈ W0 := w0_4 114 rfl (by decide +kernel)
theorem mS_X1_knownCells : Cond.selects RX1 yX1_knownCells yX1_knownCells ∈ W0 := w0_4 115 rfl (by decide +kernel)
theorem mC_X1_knownCells : Cond.code yX1_knownCells cX1_knownCells 3 (some .int) ∈ W0 := w0_4 116 rfl (by decide +kernel)
theorem mM_L_59 : Cond.methodLink RL 59 yL_count ∈ W0 := w0_4 117 rfl (by decide +kernel)
theorem mT_L_count : Cond.static yL_count ∈ W0 := w0_4 118 rfl (by decide +kernel)
theorem mL_L_27 : Cond.classLink RL 27 "java/lang/IndexOutOfBoundsException" ∈ W0 := w0_4 120 rfl (by decide +kernel)
theorem mM_L_23 : Cond.methodLink RL 23 yX6_count ∈ W0 := w0_4 121 rfl (by decide +kernel)
theorem mI_X6_count : Cond.instanceMethod yX6_count ∈ W0 := w0_4 122 rfl (by decide +kernel)
theorem mS_X6_count : Cond.selects RX6 yX6_count yX6_count ∈ W0 := w0_4 123 rfl (by decide +kernel)
theorem mC_X6_count : Cond.code yX6_count cX6_count 2 (some .int) ∈ W0 := w0_4 124 rfl (by decide +kernel)
theorem mL_X6_101 : Cond.classLink RX6 101 "java/lang/IndexOutOfBoundsException" ∈ W0 := w0_4 125 rfl (by decide +kernel)
theorem mM_L_63 : Cond.methodLink RL 63 yL_definition ∈ W0 := w0_4 140 rfl (by decide +kernel)
theorem mT_L_definition : Cond.static yL_definition ∈ W0 := w0_4 141 rfl (by decide +kernel)
theorem mM_L_29 : Cond.methodLink RL 29 yX6_definition ∈ W0 := w0_4 143 rfl (by decide +kernel)
theorem mI_X6_definition : Cond.instanceMethod yX6_definition ∈ W0 := w0_4 144 rfl (by decide +kernel)
theorem mS_X6_definition : Cond.selects RX6 yX6_definition yX6_definition ∈ W0 := w0_4 145 rfl (by decide +kernel)
theorem mC_X6_definition : Cond.code yX6_definition cX6_definition 3 (some .int) ∈ W0 := w0_4 146 rfl (by decide +kernel)
theorem mL_L_34 : Cond.classLink RL 34 RX7 ∈ W0 := w0_4 147 rfl (by decide +kernel)
theorem mN_X7 : Cond.instantiable RX7 55 ∈ W0 := w0_4 148 rfl (by decide +kernel)
theorem mM_L_36 : Cond.methodLink RL 36 yX7_init ∈ W0 := w0_4 149 rfl (by decide +kernel)
theorem mI_X7_init : Cond.instanceMethod yX7_init ∈ W0 := w0_4 150 rfl (by decide +kernel)
theorem mC_X7_init : Cond.code yX7_init cX7_init 1 none ∈ W0 := w0_4 151 rfl (by decide +kernel)
theorem mM_X7_1 : Cond.methodLink RX7 1 objectInit ∈ W0 := w0_4 152 rfl (by decide +kernel)
theorem mF_X7_116 : Cond.fieldLink RX7 116 "TokenFramesModel" "code" "I" ∈ W0 := w0_4 153 rfl (by decide +kernel)
theorem mF_X7_7 : Cond.fieldLink RX7 7 "TokenFramesModel" "tape" "[B" ∈ W0 := w0_4 154 rfl (by decide +kernel)
theorem mF_X7_119 : Cond.fieldLink RX7 119 "TokenFramesModel" "size" "I" ∈ W0 := w0_4 155 rfl (by decide +kernel)
theorem mF_X7_182 : Cond.fieldLink RX7 182 "TokenFramesModel" "bank" "I" ∈ W0 := w0_4 156 rfl (by decide +kernel)
theorem mF_X7_288 : Cond.fieldLink RX7 288 "TokenFramesModel" "definitions" "I" ∈ W0 := w0_4 157 rfl (by decide +kernel)
theorem mF_X7_13 : Cond.fieldLink RX7 13 "TokenFramesModel" "arities" "[I" ∈ W0 := w0_4 158 rfl (by decide +kernel)
theorem mF_X7_17 : Cond.fieldLink RX7 17 "TokenFramesModel" "partCounts" "[I" ∈ W0 := w0_4 159 rfl (by decide +kernel)
theorem mF_X7_20 : Cond.fieldLink RX7 20 "TokenFramesModel" "roots" "[I" ∈ W0 := w0_4 160 rfl (by decide +kernel)
theorem mF_X7_23 : Cond.fieldLink RX7 23 "TokenFramesModel" "kinds" "[I" ∈ W0 := w0_4 161 rfl (by decide +kernel)
theorem mF_X7_26 : Cond.fieldLink RX7 26 "TokenFramesModel" "signs" "[I" ∈ W0 := w0_4 162 rfl (by decide +kernel)
theorem mF_X7_29 : Cond.fieldLink RX7 29 "TokenFramesModel" "firsts" "[I" ∈ W0 := w0_4 163 rfl (by decide +kernel)
theorem mF_X7_32 : Cond.fieldLink RX7 32 "TokenFramesModel" "seconds" "[I" ∈ W0 := w0_4 164 rfl (by decide +kernel)
theorem mF_X7_35 : Cond.fieldLink RX7 35 "TokenFramesModel" "thirds" "[I" ∈ W0 := w0_4 165 rfl (by decide +kernel)
theorem mF_X7_38 : Cond.fieldLink RX7 38 "TokenFramesModel" "argumentRows" "[I" ∈ W0 := w0_4 166 rfl (by decide +kernel)
theorem mF_X7_41 : Cond.fieldLink RX7 41 "TokenFramesModel" "nextArguments" "[I" ∈ W0 := w0_4 167 rfl (by decide +kernel)
theorem mF_X7_44 : Cond.fieldLink RX7 44 "TokenFramesModel" "places" "[I" ∈ W0 := w0_4 168 rfl (by decide +kernel)
theorem mF_X7_47 : Cond.fieldLink RX7 47 "TokenFramesModel" "calledArities" "[I" ∈ W0 := w0_4 169 rfl (by decide +kernel)
theorem mF_X7_50 : Cond.fieldLink RX7 50 "TokenFramesModel" "targets" "[I" ∈ W0 := w0_4 170 rfl (by decide +kernel)
theorem mF_X7_132 : Cond.fieldLink RX7 132 "TokenFramesModel" "at" "I" ∈ W0 := w0_4 171 rfl (by decide +kernel)
theorem mF_X7_129 : Cond.fieldLink RX7 129 "TokenFramesModel" "end" "I" ∈ W0 := w0_4 172 rfl (by decide +kernel)
theorem mF_X7_142 : Cond.fieldLink RX7 142 "TokenFramesModel" "token" "I" ∈ W0 := w0_4 173 rfl (by decide +kernel)
theorem mF_X7_162 : Cond.fieldLink RX7 162 "TokenFramesModel" "word" "I" ∈ W0 := w0_4 174 rfl (by decide +kernel)
theorem mF_X7_148 : Cond.fieldLink RX7 148 "TokenFramesModel" "number" "J" ∈ W0 := w0_4 175 rfl (by decide +kernel)
theorem mF_X7_53 : Cond.fieldLink RX7 53 "TokenFramesModel" "definitionNames" "[J" ∈ W0 := w0_4 176 rfl (by decide +kernel)
theorem mF_X7_57 : Cond.fieldLink RX7 57 "TokenFramesModel" "argumentNames" "[J" ∈ W0 := w0_4 177 rfl (by decide +kernel)
theorem mF_X7_60 : Cond.fieldLink RX7 60 "TokenFramesModel" "letNames" "[J" ∈ W0 := w0_4 178 rfl (by decide +kernel)
theorem mF_X7_63 : Cond.fieldLink RX7 63 "TokenFramesModel" "letParts" "[I" ∈ W0 := w0_4 179 rfl (by decide +kernel)
theorem mF_X7_208 : Cond.fieldLink RX7 208 "TokenFramesModel" "lets" "I" ∈ W0 := w0_4 180 rfl (by decide +kernel)
theorem mF_X7_188 : Cond.fieldLink RX7 188 "TokenFramesModel" "parts" "I" ∈ W0 := w0_4 181 rfl (by decide +kernel)
theorem mF_X7_185 : Cond.fieldLink RX7 185 "TokenFramesModel" "definition" "I" ∈ W0 := w0_4 182 rfl (by decide +kernel)
theorem mF_X7_66 : Cond.fieldLink RX7 66 "TokenFramesModel" "calledNames" "[J" ∈ W0 := w0_4 183 rfl (by decide +kernel)
theorem mF_X7_69 : Cond.fieldLink RX7 69 "TokenFramesModel" "todo" "[I" ∈ W0 := w0_4 184 rfl (by decide +kernel)
theorem mF_X7_72 : Cond.fieldLink RX7 72 "TokenFramesModel" "with" "[I" ∈ W0 := w0_4 185 rfl (by decide +kernel)
theorem mF_X7_198 : Cond.fieldLink RX7 198 "TokenFramesModel" "depth" "I" ∈ W0 := w0_4 186 rfl (by decide +kernel)
theorem mF_X7_75 : Cond.fieldLink RX7 75 "TokenFramesModel" "values" "[I" ∈ W0 := w0_4 187 rfl (by decide +kernel)
theorem mF_X7_201 : Cond.fieldLink RX7 201 "TokenFramesModel" "valueCount" "I" ∈ W0 := w0_4 188 rfl (by decide +kernel)
theorem mF_X7_165 : Cond.fieldLink RX7 165 "TokenFramesModel" "right" "Z" ∈ W0 := w0_4 189 rfl (by decide +kernel)
theorem mF_X7_219 : Cond.fieldLink RX7 219 "TokenFramesModel" "brackets" "I" ∈ W0 := w0_4 190 rfl (by decide +kernel)
theorem mF_X7_78 : Cond.fieldLink RX7 78 "TokenFramesModel" "callDefinitions" "[I" ∈ W0 := w0_4 191 rfl (by decide +kernel)
theorem mF_X7_81 : Cond.fieldLink RX7 81 "TokenFramesModel" "argumentParts" "[I" ∈ W0 := w0_4 192 rfl (by decide +kernel)
theorem mF_X7_84 : Cond.fieldLink RX7 84 "TokenFramesModel" "argumentNumbers" "[I" ∈ W0 := w0_4 193 rfl (by decide +kernel)
theorem mF_X7_87 : Cond.fieldLink RX7 87 "TokenFramesModel" "argumentArrays" "[I" ∈ W0 := w0_4 194 rfl (by decide +kernel)
theorem mF_X7_298 : Cond.fieldLink RX7 298 "TokenFramesModel" "calls" "I" ∈ W0 := w0_4 195 rfl (by decide +kernel)
theorem mF_X7_301 : Cond.fieldLink RX7 301 "TokenFramesModel" "most" "I" ∈ W0 := w0_4 196 rfl (by decide +kernel)
theorem mF_X7_304 : Cond.fieldLink RX7 304 "TokenFramesModel" "over" "Z" ∈ W0 := w0_4 197 rfl (by decide +kernel)
theorem mF_X7_90 : Cond.fieldLink RX7 90 "TokenFramesModel" "reached" "[Z" ∈ W0 := w0_4 198 rfl (by decide +kernel)
theorem mF_X7_94 : Cond.fieldLink RX7 94 "TokenFramesModel" "known" "[Z" ∈ W0 := w0_4 199 rfl (by decide +kernel)
theorem mF_X7_97 : Cond.fieldLink RX7 97 "TokenFramesModel" "numbers" "[I" ∈ W0 := w0_4 200 rfl (by decide +kernel)
theorem mF_X7_100 : Cond.fieldLink RX7 100 "TokenFramesModel" "arrays" "[I" ∈ W0 := w0_4 201 rfl (by decide +kernel)
theorem mF_X7_103 : Cond.fieldLink RX7 103 "TokenFramesModel" "made" "[I" ∈ W0 := w0_4 202 rfl (by decide +kernel)
theorem mF_X7_106 : Cond.fieldLink RX7 106 "TokenFramesModel" "cellCounts" "[I" ∈ W0 := w0_4 203 rfl (by decide +kernel)
theorem mF_X7_291 : Cond.fieldLink RX7 291 "TokenFramesModel" "changed" "Z" ∈ W0 := w0_4 204 rfl (by decide +kernel)
theorem mF_X7_109 : Cond.fieldLink RX7 109 "TokenFramesModel" "outcome" "I" ∈ W0 := w0_4 205 rfl (by decide +kernel)
theorem mF_X7_360 : Cond.fieldLink RX7 360 "TokenFramesModel" "result" "I" ∈ W0 := w0_4 206 rfl (by decide +kernel)
theorem mF_X7_113 : Cond.fieldLink RX7 113 "TokenFramesModel" "told" "[I" ∈ W0 := w0_4 207 rfl (by decide +kernel)
theorem mA_boolean : Cond.arrayClass .boolean ∈ W0 := w0_5 79 rfl (by decide +kernel)
theorem mM_L_43 : Cond.methodLink RL 43 yX7_thrown ∈ W0 := w0_5 80 rfl (by decide +kernel)
theorem mI_X7_thrown : Cond.instanceMethod yX7_thrown ∈ W0 := w0_5 81 rfl (by decide +kernel)
theorem mS_X7_thrown : Cond.selects RX7 yX7_thrown yX7_thrown ∈ W0 := w0_5 82 rfl (by decide +kernel)
theorem mC_X7_thrown : Cond.code yX7_thrown cX7_thrown 1 (some .int) ∈ W0 := w0_5 83 rfl (by decide +kernel)
theorem mM_L_42 : Cond.methodLink RL 42 yX7_feed ∈ W0 := w0_5 84 rfl (by decide +kernel)
theorem mI_X7_feed : Cond.instanceMethod yX7_feed ∈ W0 := w0_5 85 rfl (by decide +kernel)
theorem mS_X7_feed : Cond.selects RX7 yX7_feed yX7_feed ∈ W0 := w0_5 86 rfl (by decide +kernel)
theorem mC_X7_feed : Cond.code yX7_feed cX7_feed 8 (some .int) ∈ W0 := w0_5 87 rfl (by decide +kernel)
theorem mM_L_50 : Cond.methodLink RL 50 yX7_read ∈ W0 := w0_5 88 rfl (by decide +kernel)
theorem mI_X7_read : Cond.instanceMethod yX7_read ∈ W0 := w0_5 89 rfl (by decide +kernel)
theorem mS_X7_read : Cond.selects RX7 yX7_read yX7_read ∈ W0 := w0_5 90 rfl (by decide +kernel)
theorem mC_X7_read : Cond.code yX7_read cX7_read 2 (some .int) ∈ W0 := w0_5 91 rfl (by decide +kernel)
theorem mM_X7_169 : Cond.methodLink RX7 169 yX7_look ∈ W0 := w0_5 92 rfl (by decide +kernel)
theorem mI_X7_look : Cond.instanceMethod yX7_look ∈ W0 := w0_5 94 rfl (by decide +kernel)
theorem mC_X7_look : Cond.code yX7_look cX7_look 3 none ∈ W0 := w0_5 95 rfl (by decide +kernel)
theorem mM_X7_139 : Cond.methodLink RX7 139 yX7_isBlank ∈ W0 := w0_5 96 rfl (by decide +kernel)
theorem mT_X7_isBlank : Cond.static yX7_isBlank ∈ W0 := w0_5 97 rfl (by decide +kernel)
theorem mC_X7_isBlank : Cond.code yX7_isBlank cX7_isBlank 1 (some .boolean) ∈ W0 := w0_5 98 rfl (by decide +kernel)
theorem mM_X7_145 : Cond.methodLink RX7 145 yX7_isRow ∈ W0 := w0_5 99 rfl (by decide +kernel)
theorem mI_X7_isRow : Cond.instanceMethod yX7_isRow ∈ W0 := w0_5 101 rfl (by decide +kernel)
theorem mC_X7_isRow : Cond.code yX7_isRow cX7_isRow 2 (some .boolean) ∈ W0 := w0_5 102 rfl (by decide +kernel)
theorem mM_X7_122 : Cond.methodLink RX7 122 yX7_isLetter ∈ W0 := w0_5 103 rfl (by decide +kernel)
theorem mT_X7_isLetter : Cond.static yX7_isLetter ∈ W0 := w0_5 104 rfl (by decide +kernel)
theorem mC_X7_isLetter : Cond.code yX7_isLetter cX7_isLetter 1 (some .boolean) ∈ W0 := w0_5 105 rfl (by decide +kernel)
theorem mM_X7_126 : Cond.methodLink RX7 126 yX7_isDigit ∈ W0 := w0_5 106 rfl (by decide +kernel)
theorem mT_X7_isDigit : Cond.static yX7_isDigit ∈ W0 := w0_5 107 rfl (by decide +kernel)
theorem mC_X7_isDigit : Cond.code yX7_isDigit cX7_isDigit 1 (some .boolean) ∈ W0 := w0_5 108 rfl (by decide +kernel)
theorem mK_X7_152 : Cond.constantLong RX7 152 (2147483647) ∈ W0 := w0_5 109 rfl (by decide +kernel)
theorem mK_X7_154 : Cond.constantLong RX7 154 (10) ∈ W0 := w0_5 110 rfl (by decide +kernel)
theorem mK_X7_156 : Cond.constantLong RX7 156 (48) ∈ W0 := w0_5 111 rfl (by decide +kernel)
theorem mM_X7_158 : Cond.methodLink RX7 158 yX7_wordOf ∈ W0 := w0_5 112 rfl (by decide +kernel)
theorem mI_X7_wordOf : Cond.instanceMethod yX7_wordOf ∈ W0 := w0_5 114 rfl (by decide +kernel)
theorem mC_X7_wordOf : Cond.code yX7_wordOf cX7_wordOf 1 (some .int) ∈ W0 := w0_5 115 rfl (by decide +kernel)
theorem mM_X7_135 : Cond.methodLink RX7 135 yX7_is ∈ W0 := w0_5 116 rfl (by decide +kernel)
theorem mI_X7_is : Cond.instanceMethod yX7_is ∈ W0 := w0_5 118 rfl (by decide +kernel)
theorem mC_X7_is : Cond.code yX7_is cX7_is 6 (some .boolean) ∈ W0 := w0_5 119 rfl (by decide +kernel)
theorem mM_X7_282 : Cond.methodLink RX7 282 yX7_readDefinition ∈ W0 := w0_5 120 rfl (by decide +kernel)
theorem mI_X7_readDefinition : Cond.instanceMethod yX7_readDefinition ∈ W0 := w0_5 122 rfl (by decide +kernel)
theorem mC_X7_readDefinition : Cond.code yX7_readDefinition cX7_readDefinition 1 none ∈ W0 := w0_5 123 rfl (by decide +kernel)
theorem mM_X7_191 : Cond.methodLink RX7 191 yX7_need ∈ W0 := w0_5 124 rfl (by decide +kernel)
theorem mI_X7_need : Cond.instanceMethod yX7_need ∈ W0 := w0_5 126 rfl (by decide +kernel)
theorem mC_X7_need : Cond.code yX7_need cX7_need 2 none ∈ W0 := w0_5 127 rfl (by decide +kernel)
theorem mM_X7_204 : Cond.methodLink RX7 204 yX7_nameOf ∈ W0 := w0_5 128 rfl (by decide +kernel)
theorem mI_X7_nameOf : Cond.instanceMethod yX7_nameOf ∈ W0 := w0_5 130 rfl (by decide +kernel)
theorem mC_X7_nameOf : Cond.code yX7_nameOf cX7_nameOf 4 (some .long) ∈ W0 := w0_5 131 rfl (by decide +kernel)
theorem mK_X7_178 : Cond.constantLong RX7 178 (32) ∈ W0 := w0_5 132 rfl (by decide +kernel)
theorem mK_X7_180 : Cond.constantLong RX7 180 (97) ∈ W0 := w0_5 133 rfl (by decide +kernel)
theorem mM_X7_269 : Cond.methodLink RX7 269 yX7_isTaken ∈ W0 := w0_5 134 rfl (by decide +kernel)
theorem mI_X7_isTaken : Cond.instanceMethod yX7_isTaken ∈ W0 := w0_5 136 rfl (by decide +kernel)
theorem mC_X7_isTaken : Cond.code yX7_isTaken cX7_isTaken 5 (some .boolean) ∈ W0 := w0_5 137 rfl (by decide +kernel)
theorem mM_X7_175 : Cond.methodLink RX7 175 yX7_go ∈ W0 := w0_5 138 rfl (by decide +kernel)
theorem mI_X7_go : Cond.instanceMethod yX7_go ∈ W0 := w0_5 140 rfl (by decide +kernel)
theorem mC_X7_go : Cond.code yX7_go cX7_go 1 none ∈ W0 := w0_5 141 rfl (by decide +kernel)
theorem mM_X7_273 : Cond.methodLink RX7 273 yX7_needSign ∈ W0 := w0_5 142 rfl (by decide +kernel)
theorem mI_X7_needSign : Cond.instanceMethod yX7_needSign ∈ W0 := w0_5 144 rfl (by decide +kernel)
theorem mC_X7_needSign : Cond.code yX7_needSign cX7_needSign 2 none ∈ W0 := w0_5 145 rfl (by decide +kernel)
theorem mM_X7_172 : Cond.methodLink RX7 172 yX7_isSign ∈ W0 := w0_5 146 rfl (by decide +kernel)
theorem mI_X7_isSign : Cond.instanceMethod yX7_isSign ∈ W0 := w0_5 148 rfl (by decide +kernel)
theorem mC_X7_isSign : Cond.code yX7_isSign cX7_isSign 2 (some .boolean) ∈ W0 := w0_5 149 rfl (by decide +kernel)
theorem mM_X7_276 : Cond.methodLink RX7 276 yX7_readArguments ∈ W0 := w0_5 150 rfl (by decide +kernel)
theorem mI_X7_readArguments : Cond.instanceMethod yX7_readArguments ∈ W0 := w0_5 152 rfl (by decide +kernel)
theorem mC_X7_readArguments : Cond.code yX7_readArguments cX7_readArguments 6 none ∈ W0 := w0_5 153 rfl (by decide +kernel)
theorem mM_X7_232 : Cond.methodLink RX7 232 yX7_take ∈ W0 := w0_5 154 rfl (by decide +kernel)
theorem mI_X7_take : Cond.instanceMethod yX7_take ∈ W0 := w0_5 156 rfl (by decide +kernel)
theorem mC_X7_take : Cond.code yX7_take cX7_take 3 (some .boolean) ∈ W0 := w0_5 157 rfl (by decide +kernel)
theorem mM_X7_279 : Cond.methodLink RX7 279 yX7_readExpression ∈ W0 := w0_5 158 rfl (by decide +kernel)
theorem mI_X7_readExpression : Cond.instanceMethod yX7_readExpression ∈ W0 := w0_5 160 rfl (by decide +kernel)
theorem mC_X7_readExpression : Cond.code yX7_readExpression cX7_readExpression 1 none ∈ W0 := w0_5 161 rfl (by decide +kernel)
theorem mM_X7_215 : Cond.methodLink RX7 215 yX7_later ∈ W0 := w0_5 162 rfl (by decide +kernel)
theorem mI_X7_later : Cond.instanceMethod yX7_later ∈ W0 := w0_5 164 rfl (by decide +kernel)
theorem mC_X7_later : Cond.code yX7_later cX7_later 3 none ∈ W0 := w0_5 165 rfl (by decide +kernel)
theorem mM_X7_266 : Cond.methodLink RX7 266 yX7_step ∈ W0 := w0_5 166 rfl (by decide +kernel)
theorem mI_X7_step : Cond.instanceMethod yX7_step ∈ W0 := w0_5 168 rfl (by decide +kernel)
theorem mC_X7_step : Cond.code yX7_step cX7_step 3 none ∈ W0 := w0_5 169 rfl (by decide +kernel)
theorem mM_X7_244 : Cond.methodLink RX7 244 yX7_expression ∈ W0 := w0_5 170 rfl (by decide +kernel)
theorem mI_X7_expression : Cond.instanceMethod yX7_expression ∈ W0 := w0_5 172 rfl (by decide +kernel)
theorem mC_X7_expression : Cond.code yX7_expression cX7_expression 2 none ∈ W0 := w0_5 173 rfl (by decide +kernel)
theorem mM_X7_211 : Cond.methodLink RX7 211 yX7_part ∈ W0 := w0_5 174 rfl (by decide +kernel)
theorem mI_X7_part : Cond.instanceMethod yX7_part ∈ W0 := w0_5 176 rfl (by decide +kernel)
theorem mC_X7_part : Cond.code yX7_part cX7_part 4 (some .int) ∈ W0 := w0_5 177 rfl (by decide +kernel)
theorem mM_X7_195 : Cond.methodLink RX7 195 yX7_part0 ∈ W0 := w0_5 178 rfl (by decide +kernel)
theorem mI_X7_part0 : Cond.instanceMethod yX7_part0 ∈ W0 := w0_5 180 rfl (by decide +kernel)
theorem mC_X7_part0 : Cond.code yX7_part0 cX7_part0 1 (some .int) ∈ W0 := w0_5 181 rfl (by decide +kernel)
theorem mM_X7_235 : Cond.methodLink RX7 235 yX7_got ∈ W0 := w0_5 182 rfl (by decide +kernel)
theorem mI_X7_got : Cond.instanceMethod yX7_got ∈ W0 := w0_5 184 rfl (by decide +kernel)
theorem mC_X7_got : Cond.code yX7_got cX7_got 1 (some .int) ∈ W0 := w0_5 185 rfl (by decide +kernel)
theorem mM_X7_222 : Cond.methodLink RX7 222 yX7_give ∈ W0 := w0_5 186 rfl (by decide +kernel)
theorem mI_X7_give : Cond.instanceMethod yX7_give ∈ W0 := w0_5 188 rfl (by decide +kernel)
theorem mC_X7_give : Cond.code yX7_give cX7_give 2 none ∈ W0 := w0_5 189 rfl (by decide +kernel)
theorem mM_X7_247 : Cond.methodLink RX7 247 yX7_second ∈ W0 := w0_5 190 rfl (by decide +kernel)
theorem mI_X7_second : Cond.instanceMethod yX7_second ∈ W0 := w0_5 192 rfl (by decide +kernel)
theorem mC_X7_second : Cond.code yX7_second cX7_second 2 none ∈ W0 := w0_5 193 rfl (by decide +kernel)
theorem mM_X7_250 : Cond.methodLink RX7 250 yX7_more ∈ W0 := w0_5 194 rfl (by decide +kernel)
theorem mI_X7_more : Cond.instanceMethod yX7_more ∈ W0 := w0_5 196 rfl (by decide +kernel)
theorem mC_X7_more : Cond.code yX7_more cX7_more 4 none ∈ W0 := w0_5 197 rfl (by decide +kernel)
theorem mM_X7_253 : Cond.methodLink RX7 253 yX7_operator ∈ W0 := w0_5 198 rfl (by decide +kernel)
theorem mI_X7_operator : Cond.instanceMethod yX7_operator ∈ W0 := w0_5 200 rfl (by decide +kernel)
theorem mC_X7_operator : Cond.code yX7_operator cX7_operator 3 (some .int) ∈ W0 := w0_5 201 rfl (by decide +kernel)
theorem mM_X7_257 : Cond.methodLink RX7 257 yX7_rest ∈ W0 := w0_5 202 rfl (by decide +kernel)
theorem mI_X7_rest : Cond.instanceMethod yX7_rest ∈ W0 := w0_5 204 rfl (by decide +kernel)
theorem mC_X7_rest : Cond.code yX7_rest cX7_rest 4 none ∈ W0 := w0_5 205 rfl (by decide +kernel)
theorem mM_X7_260 : Cond.methodLink RX7 260 yX7_factor ∈ W0 := w0_5 206 rfl (by decide +kernel)
theorem mI_X7_factor : Cond.instanceMethod yX7_factor ∈ W0 := w0_5 208 rfl (by decide +kernel)
theorem mC_X7_factor : Cond.code yX7_factor cX7_factor 2 none ∈ W0 := w0_5 209 rfl (by decide +kernel)
theorem mM_X7_226 : Cond.methodLink RX7 226 yX7_named ∈ W0 := w0_5 210 rfl (by decide +kernel)
theorem mI_X7_named : Cond.instanceMethod yX7_named ∈ W0 := w0_5 212 rfl (by decide +kernel)
theorem mC_X7_named : Cond.code yX7_named cX7_named 3 none ∈ W0 := w0_5 213 rfl (by decide +kernel)
theorem mM_X7_229 : Cond.methodLink RX7 229 yX7_variable ∈ W0 := w0_5 214 rfl (by decide +kernel)
theorem mI_X7_variable : Cond.instanceMethod yX7_variable ∈ W0 := w0_5 216 rfl (by decide +kernel)
theorem mC_X7_variable : Cond.code yX7_variable cX7_variable 5 (some .int) ∈ W0 := w0_5 217 rfl (by decide +kernel)
theorem mM_X7_241 : Cond.methodLink RX7 241 yX7_closed ∈ W0 := w0_5 218 rfl (by decide +kernel)
theorem mI_X7_closed : Cond.instanceMethod yX7_closed ∈ W0 := w0_5 220 rfl (by decide +kernel)
theorem mC_X7_closed : Cond.code yX7_closed cX7_closed 3 none ∈ W0 := w0_5 221 rfl (by decide +kernel)
theorem mM_X7_263 : Cond.methodLink RX7 263 yX7_listed ∈ W0 := w0_5 222 rfl (by decide +kernel)
theorem mI_X7_listed : Cond.instanceMethod yX7_listed ∈ W0 := w0_5 224 rfl (by decide +kernel)
theorem mC_X7_listed : Cond.code yX7_listed cX7_listed 3 none ∈ W0 := w0_5 225 rfl (by decide +kernel)
theorem mM_X7_238 : Cond.methodLink RX7 238 yX7_addArgument ∈ W0 := w0_5 226 rfl (by decide +kernel)
theorem mI_X7_addArgument : Cond.instanceMethod yX7_addArgument ∈ W0 := w0_5 228 rfl (by decide +kernel)
theorem mC_X7_addArgument : Cond.code yX7_addArgument cX7_addArgument 4 none ∈ W0 := w0_5 229 rfl (by decide +kernel)
theorem mM_X7_285 : Cond.methodLink RX7 285 yX7_link ∈ W0 := w0_5 230 rfl (by decide +kernel)
theorem mI_X7_link : Cond.instanceMethod yX7_link ∈ W0 := w0_5 232 rfl (by decide +kernel)
theorem mC_X7_link : Cond.code yX7_link cX7_link 8 (some .int) ∈ W0 := w0_5 233 rfl (by decide +kernel)
theorem mM_L_54 : Cond.methodLink RL 54 yX7_run ∈ W0 := w0_5 234 rfl (by decide +kernel)
theorem mI_X7_run : Cond.instanceMethod yX7_run ∈ W0 := w0_5 235 rfl (by decide +kernel)
theorem mS_X7_run : Cond.selects RX7 yX7_run yX7_run ∈ W0 := w0_5 236 rfl (by decide +kernel)
theorem mC_X7_run : Cond.code yX7_run cX7_run 8 (some .int) ∈ W0 := w0_5 237 rfl (by decide +kernel)
theorem mM_X7_326 : Cond.methodLink RX7 326 yX7_call ∈ W0 := w0_5 238 rfl (by decide +kernel)
theorem mI_X7_call : Cond.instanceMethod yX7_call ∈ W0 := w0_6 0 rfl (by decide +kernel)
theorem mC_X7_call : Cond.code yX7_call cX7_call 4 (some .int) ∈ W0 := w0_6 1 rfl (by decide +kernel)
theorem mM_X7_307 : Cond.methodLink RX7 307 yX7_argument ∈ W0 := w0_6 2 rfl (by decide +kernel)
theorem mI_X7_argument : Cond.instanceMethod yX7_argument ∈ W0 := w0_6 4 rfl (by decide +kernel)
theorem mC_X7_argument : Cond.code yX7_argument cX7_argument 6 none ∈ W0 := w0_6 5 rfl (by decide +kernel)
theorem mM_X7_311 : Cond.methodLink RX7 311 yX7_rootOf ∈ W0 := w0_6 6 rfl (by decide +kernel)
theorem mI_X7_rootOf : Cond.instanceMethod yX7_rootOf ∈ W0 := w0_6 8 rfl (by decide +kernel)
theorem mC_X7_rootOf : Cond.code yX7_rootOf cX7_rootOf 2 (some .int) ∈ W0 := w0_6 9 rfl (by decide +kernel)
theorem mM_X7_314 : Cond.methodLink RX7 314 yX7_reach ∈ W0 := w0_6 10 rfl (by decide +kernel)
theorem mI_X7_reach : Cond.instanceMethod yX7_reach ∈ W0 := w0_6 12 rfl (by decide +kernel)
theorem mC_X7_reach : Cond.code yX7_reach cX7_reach 2 none ∈ W0 := w0_6 13 rfl (by decide +kernel)
theorem mM_X7_357 : Cond.methodLink RX7 357 yX7_work ∈ W0 := w0_6 14 rfl (by decide +kernel)
theorem mI_X7_work : Cond.instanceMethod yX7_work ∈ W0 := w0_6 16 rfl (by decide +kernel)
theorem mC_X7_work : Cond.code yX7_work cX7_work 6 none ∈ W0 := w0_6 17 rfl (by decide +kernel)
theorem mM_X7_317 : Cond.methodLink RX7 317 yX7_partOf ∈ W0 := w0_6 18 rfl (by decide +kernel)
theorem mI_X7_partOf : Cond.instanceMethod yX7_partOf ∈ W0 := w0_6 20 rfl (by decide +kernel)
theorem mC_X7_partOf : Cond.code yX7_partOf cX7_partOf 2 (some .int) ∈ W0 := w0_6 21 rfl (by decide +kernel)
theorem mM_X7_294 : Cond.methodLink RX7 294 yX7_know ∈ W0 := w0_6 22 rfl (by decide +kernel)
theorem mI_X7_know : Cond.instanceMethod yX7_know ∈ W0 := w0_6 24 rfl (by decide +kernel)
theorem mC_X7_know : Cond.code yX7_know cX7_know 4 none ∈ W0 := w0_6 25 rfl (by decide +kernel)
theorem mM_X7_338 : Cond.methodLink RX7 338 yX7_workArgument ∈ W0 := w0_6 26 rfl (by decide +kernel)
theorem mI_X7_workArgument : Cond.instanceMethod yX7_workArgument ∈ W0 := w0_6 28 rfl (by decide +kernel)
theorem mC_X7_workArgument : Cond.code yX7_workArgument cX7_workArgument 4 none ∈ W0 := w0_6 29 rfl (by decide +kernel)
theorem mM_X7_332 : Cond.methodLink RX7 332 yX7_same ∈ W0 := w0_6 30 rfl (by decide +kernel)
theorem mI_X7_same : Cond.instanceMethod yX7_same ∈ W0 := w0_6 32 rfl (by decide +kernel)
theorem mC_X7_same : Cond.code yX7_same cX7_same 3 none ∈ W0 := w0_6 33 rfl (by decide +kernel)
theorem mM_X7_320 : Cond.methodLink RX7 320 yX7_here ∈ W0 := w0_6 34 rfl (by decide +kernel)
theorem mI_X7_here : Cond.instanceMethod yX7_here ∈ W0 := w0_6 36 rfl (by decide +kernel)
theorem mC_X7_here : Cond.code yX7_here cX7_here 3 (some .int) ∈ W0 := w0_6 37 rfl (by decide +kernel)
theorem mM_X7_335 : Cond.methodLink RX7 335 yX7_numberOf ∈ W0 := w0_6 38 rfl (by decide +kernel)
theorem mI_X7_numberOf : Cond.instanceMethod yX7_numberOf ∈ W0 := w0_6 40 rfl (by decide +kernel)
theorem mC_X7_numberOf : Cond.code yX7_numberOf cX7_numberOf 2 (some .int) ∈ W0 := w0_6 41 rfl (by decide +kernel)
theorem mM_X7_341 : Cond.methodLink RX7 341 yX7_operate ∈ W0 := w0_6 42 rfl (by decide +kernel)
theorem mT_X7_operate : Cond.static yX7_operate ∈ W0 := w0_6 43 rfl (by decide +kernel)
theorem mC_X7_operate : Cond.code yX7_operate cX7_operate 3 (some .int) ∈ W0 := w0_6 44 rfl (by decide +kernel)
theorem mM_X7_345 : Cond.methodLink RX7 345 yX7_workIf ∈ W0 := w0_6 45 rfl (by decide +kernel)
theorem mI_X7_workIf : Cond.instanceMethod yX7_workIf ∈ W0 := w0_6 47 rfl (by decide +kernel)
theorem mC_X7_workIf : Cond.code yX7_workIf cX7_workIf 5 none ∈ W0 := w0_6 48 rfl (by decide +kernel)
theorem mM_X7_348 : Cond.methodLink RX7 348 yX7_workCall ∈ W0 := w0_6 49 rfl (by decide +kernel)
theorem mI_X7_workCall : Cond.instanceMethod yX7_workCall ∈ W0 := w0_6 51 rfl (by decide +kernel)
theorem mC_X7_workCall : Cond.code yX7_workCall cX7_workCall 4 none ∈ W0 := w0_6 52 rfl (by decide +kernel)
theorem mM_X7_323 : Cond.methodLink RX7 323 yX7_reachArguments ∈ W0 := w0_6 53 rfl (by decide +kernel)
theorem mI_X7_reachArguments : Cond.instanceMethod yX7_reachArguments ∈ W0 := w0_6 55 rfl (by decide +kernel)
theorem mC_X7_reachArguments : Cond.code yX7_reachArguments cX7_reachArguments 3 none ∈ W0 := w0_6 56 rfl (by decide +kernel)
theorem mM_X7_329 : Cond.methodLink RX7 329 yX7_hand ∈ W0 := w0_6 57 rfl (by decide +kernel)
theorem mI_X7_hand : Cond.instanceMethod yX7_hand ∈ W0 := w0_6 59 rfl (by decide +kernel)
theorem mC_X7_hand : Cond.code yX7_hand cX7_hand 6 none ∈ W0 := w0_6 60 rfl (by decide +kernel)
theorem mM_X7_351 : Cond.methodLink RX7 351 yX7_workMake ∈ W0 := w0_6 61 rfl (by decide +kernel)
theorem mI_X7_workMake : Cond.instanceMethod yX7_workMake ∈ W0 := w0_6 63 rfl (by decide +kernel)
theorem mC_X7_workMake : Cond.code yX7_workMake cX7_workMake 7 none ∈ W0 := w0_6 64 rfl (by decide +kernel)
theorem mM_X7_354 : Cond.methodLink RX7 354 yX7_workFetch ∈ W0 := w0_6 65 rfl (by decide +kernel)
theorem mI_X7_workFetch : Cond.instanceMethod yX7_workFetch ∈ W0 := w0_6 67 rfl (by decide +kernel)
theorem mC_X7_workFetch : Cond.code yX7_workFetch cX7_workFetch 6 none ∈ W0 := w0_6 68 rfl (by decide +kernel)
theorem mM_X7_363 : Cond.methodLink RX7 363 yX7_tell ∈ W0 := w0_6 69 rfl (by decide +kernel)
theorem mI_X7_tell : Cond.instanceMethod yX7_tell ∈ W0 := w0_6 71 rfl (by decide +kernel)
theorem mC_X7_tell : Cond.code yX7_tell cX7_tell 4 none ∈ W0 := w0_6 72 rfl (by decide +kernel)
theorem mM_L_58 : Cond.methodLink RL 58 yX7_value ∈ W0 := w0_6 73 rfl (by decide +kernel)
theorem mI_X7_value : Cond.instanceMethod yX7_value ∈ W0 := w0_6 74 rfl (by decide +kernel)
theorem mS_X7_value : Cond.selects RX7 yX7_value yX7_value ∈ W0 := w0_6 75 rfl (by decide +kernel)
theorem mC_X7_value : Cond.code yX7_value cX7_value 1 (some .int) ∈ W0 := w0_6 76 rfl (by decide +kernel)
theorem mM_L_62 : Cond.methodLink RL 62 yX7_count ∈ W0 := w0_6 77 rfl (by decide +kernel)
theorem mI_X7_count : Cond.instanceMethod yX7_count ∈ W0 := w0_6 78 rfl (by decide +kernel)
theorem mS_X7_count : Cond.selects RX7 yX7_count yX7_count ∈ W0 := w0_6 79 rfl (by decide +kernel)
theorem mC_X7_count : Cond.code yX7_count cX7_count 2 (some .int) ∈ W0 := w0_6 80 rfl (by decide +kernel)
theorem mM_L_66 : Cond.methodLink RL 66 yX7_definition ∈ W0 := w0_6 81 rfl (by decide +kernel)
theorem mI_X7_definition : Cond.instanceMethod yX7_definition ∈ W0 := w0_6 82 rfl (by decide +kernel)
theorem mS_X7_definition : Cond.selects RX7 yX7_definition yX7_definition ∈ W0 := w0_6 83 rfl (by decide +kernel)
theorem mC_X7_definition : Cond.code yX7_definition cX7_definition 3 (some .int) ∈ W0 := w0_6 84 rfl (by decide +kernel)
theorem mM_L_70 : Cond.methodLink RL 70 yX7_clear ∈ W0 := w0_6 85 rfl (by decide +kernel)
theorem mI_X7_clear : Cond.instanceMethod yX7_clear ∈ W0 := w0_6 86 rfl (by decide +kernel)
theorem mS_X7_clear : Cond.selects RX7 yX7_clear yX7_clear ∈ W0 := w0_6 87 rfl (by decide +kernel)
theorem mC_X7_clear : Cond.code yX7_clear cX7_clear 2 none ∈ W0 := w0_6 88 rfl (by decide +kernel)
theorem mF_J0_15 : Cond.fieldLink RJ0 15 "java/lang/String" "coder" "B" ∈ W0 := w0_6 90 rfl (by decide +kernel)
theorem mF_J0_9 : Cond.fieldLink RJ0 9 "java/lang/String" "value" "[B" ∈ W0 := w0_6 91 rfl (by decide +kernel)
theorem mS_X5_takeRow : Cond.selects RX5 yX5_takeRow yX5_takeRow ∈ W0 := w0_s (q := (yX5_takeRow, 7)) (List.mem_append_left _ (List.mem_of_getElem? (i := 0) rfl)) (by decide +kernel)
theorem mS_X3_takeBeginning : Cond.selects RX3 yX3_takeBeginning yX3_takeBeginning ∈ W0 := w0_s (q := (yX3_takeBeginning, 13)) (List.mem_append_left _ (List.mem_of_getElem? (i := 1) rfl)) (by decide +kernel)
theorem mS_X3_fail : Cond.selects RX3 yX3_fail yX3_fail ∈ W0 := w0_s (q := (yX3_fail, 13)) (List.mem_append_left _ (List.mem_of_getElem? (i := 2) rfl)) (by decide +kernel)
theorem mS_X3_addLeaf : Cond.selects RX3 yX3_addLeaf yX3_addLeaf ∈ W0 := w0_s (q := (yX3_addLeaf, 13)) (List.mem_append_left _ (List.mem_of_getElem? (i := 3) rfl)) (by decide +kernel)
theorem mS_X3_takeName : Cond.selects RX3 yX3_takeName yX3_takeName ∈ W0 := w0_s (q := (yX3_takeName, 13)) (List.mem_append_left _ (List.mem_of_getElem? (i := 4) rfl)) (by decide +kernel)
theorem mS_X3_beginPart : Cond.selects RX3 yX3_beginPart yX3_beginPart ∈ W0 := w0_s (q := (yX3_beginPart, 13)) (List.mem_append_left _ (List.mem_of_getElem? (i := 5) rfl)) (by decide +kernel)
theorem mS_X3_begin : Cond.selects RX3 yX3_begin yX3_begin ∈ W0 := w0_s (q := (yX3_begin, 13)) (List.mem_append_left _ (List.mem_of_getElem? (i := 6) rfl)) (by decide +kernel)
theorem mS_X3_keepName : Cond.selects RX3 yX3_keepName yX3_keepName ∈ W0 := w0_s (q := (yX3_keepName, 13)) (List.mem_append_left _ (List.mem_of_getElem? (i := 7) rfl)) (by decide +kernel)
theorem mS_X3_letNamed : Cond.selects RX3 yX3_letNamed yX3_letNamed ∈ W0 := w0_s (q := (yX3_letNamed, 13)) (List.mem_append_left _ (List.mem_of_getElem? (i := 8) rfl)) (by decide +kernel)
theorem mS_X3_argumentNamed : Cond.selects RX3 yX3_argumentNamed yX3_argumentNamed ∈ W0 := w0_s (q := (yX3_argumentNamed, 13)) (List.mem_append_left _ (List.mem_of_getElem? (i := 9) rfl)) (by decide +kernel)
theorem mS_X3_takeIfOrLet : Cond.selects RX3 yX3_takeIfOrLet yX3_takeIfOrLet ∈ W0 := w0_s (q := (yX3_takeIfOrLet, 13)) (List.mem_append_left _ (List.mem_of_getElem? (i := 10) rfl)) (by decide +kernel)
theorem mS_X3_innermost : Cond.selects RX3 yX3_innermost yX3_innermost ∈ W0 := w0_s (q := (yX3_innermost, 13)) (List.mem_append_left _ (List.mem_of_getElem? (i := 11) rfl)) (by decide +kernel)
theorem mS_X3_levelOf : Cond.selects RX3 yX3_levelOf yX3_levelOf ∈ W0 := w0_s (q := (yX3_levelOf, 13)) (List.mem_append_left _ (List.mem_of_getElem? (i := 12) rfl)) (by decide +kernel)
theorem mS_X3_takeParenthesis : Cond.selects RX3 yX3_takeParenthesis yX3_takeParenthesis ∈ W0 := w0_s (q := (yX3_takeParenthesis, 13)) (List.mem_append_left _ (List.mem_of_getElem? (i := 13) rfl)) (by decide +kernel)
theorem mS_X3_takeContinuation : Cond.selects RX3 yX3_takeContinuation yX3_takeContinuation ∈ W0 := w0_s (q := (yX3_takeContinuation, 13)) (List.mem_append_left _ (List.mem_of_getElem? (i := 14) rfl)) (by decide +kernel)
theorem mS_X3_takeSign : Cond.selects RX3 yX3_takeSign yX3_takeSign ∈ W0 := w0_s (q := (yX3_takeSign, 13)) (List.mem_append_left _ (List.mem_of_getElem? (i := 15) rfl)) (by decide +kernel)
theorem mS_X3_endSigns : Cond.selects RX3 yX3_endSigns yX3_endSigns ∈ W0 := w0_s (q := (yX3_endSigns, 13)) (List.mem_append_right _ (List.mem_append_left _ (List.mem_of_getElem? (i := 0) rfl))) (by decide +kernel)
theorem mS_X3_endWithLatest : Cond.selects RX3 yX3_endWithLatest yX3_endWithLatest ∈ W0 := w0_s (q := (yX3_endWithLatest, 13)) (List.mem_append_right _ (List.mem_append_left _ (List.mem_of_getElem? (i := 1) rfl))) (by decide +kernel)
theorem mS_X3_end : Cond.selects RX3 yX3_end yX3_end ∈ W0 := w0_s (q := (yX3_end, 13)) (List.mem_append_right _ (List.mem_append_left _ (List.mem_of_getElem? (i := 2) rfl))) (by decide +kernel)
theorem mS_X3_beginPartBehind : Cond.selects RX3 yX3_beginPartBehind yX3_beginPartBehind ∈ W0 := w0_s (q := (yX3_beginPartBehind, 13)) (List.mem_append_right _ (List.mem_append_left _ (List.mem_of_getElem? (i := 3) rfl))) (by decide +kernel)
theorem mS_X3_endExpression : Cond.selects RX3 yX3_endExpression yX3_endExpression ∈ W0 := w0_s (q := (yX3_endExpression, 13)) (List.mem_append_right _ (List.mem_append_left _ (List.mem_of_getElem? (i := 4) rfl))) (by decide +kernel)
theorem mS_X3_isInLastExpression : Cond.selects RX3 yX3_isInLastExpression yX3_isInLastExpression ∈ W0 := w0_s (q := (yX3_isInLastExpression, 13)) (List.mem_append_right _ (List.mem_append_left _ (List.mem_of_getElem? (i := 5) rfl))) (by decide +kernel)
theorem mS_X3_endBody : Cond.selects RX3 yX3_endBody yX3_endBody ∈ W0 := w0_s (q := (yX3_endBody, 13)) (List.mem_append_right _ (List.mem_append_left _ (List.mem_of_getElem? (i := 6) rfl))) (by decide +kernel)
theorem mS_X3_expect : Cond.selects RX3 yX3_expect yX3_expect ∈ W0 := w0_s (q := (yX3_expect, 13)) (List.mem_append_right _ (List.mem_append_left _ (List.mem_of_getElem? (i := 7) rfl))) (by decide +kernel)
theorem mS_X3_endParentheses : Cond.selects RX3 yX3_endParentheses yX3_endParentheses ∈ W0 := w0_s (q := (yX3_endParentheses, 13)) (List.mem_append_right _ (List.mem_append_left _ (List.mem_of_getElem? (i := 8) rfl))) (by decide +kernel)
theorem mS_X3_endExpressionIn : Cond.selects RX3 yX3_endExpressionIn yX3_endExpressionIn ∈ W0 := w0_s (q := (yX3_endExpressionIn, 13)) (List.mem_append_right _ (List.mem_append_left _ (List.mem_of_getElem? (i := 9) rfl))) (by decide +kernel)
theorem mS_X3_wordBehind : Cond.selects RX3 yX3_wordBehind yX3_wordBehind ∈ W0 := w0_s (q := (yX3_wordBehind, 13)) (List.mem_append_right _ (List.mem_append_left _ (List.mem_of_getElem? (i := 10) rfl))) (by decide +kernel)
theorem mS_X3_takeOfHead : Cond.selects RX3 yX3_takeOfHead yX3_takeOfHead ∈ W0 := w0_s (q := (yX3_takeOfHead, 13)) (List.mem_append_right _ (List.mem_append_left _ (List.mem_of_getElem? (i := 11) rfl))) (by decide +kernel)
theorem mS_X3_takeDefinitionName : Cond.selects RX3 yX3_takeDefinitionName yX3_takeDefinitionName ∈ W0 := w0_s (q := (yX3_takeDefinitionName, 13)) (List.mem_append_right _ (List.mem_append_left _ (List.mem_of_getElem? (i := 12) rfl))) (by decide +kernel)
theorem mS_X3_definitionNamed : Cond.selects RX3 yX3_definitionNamed yX3_definitionNamed ∈ W0 := w0_s (q := (yX3_definitionNamed, 13)) (List.mem_append_right _ (List.mem_append_left _ (List.mem_of_getElem? (i := 13) rfl))) (by decide +kernel)
theorem mS_X3_takeArgumentName : Cond.selects RX3 yX3_takeArgumentName yX3_takeArgumentName ∈ W0 := w0_s (q := (yX3_takeArgumentName, 13)) (List.mem_append_right _ (List.mem_append_left _ (List.mem_of_getElem? (i := 14) rfl))) (by decide +kernel)
theorem mS_X3_takeOfCallMakeLet : Cond.selects RX3 yX3_takeOfCallMakeLet yX3_takeOfCallMakeLet ∈ W0 := w0_s (q := (yX3_takeOfCallMakeLet, 13)) (List.mem_append_right _ (List.mem_append_left _ (List.mem_of_getElem? (i := 15) rfl))) (by decide +kernel)
theorem mS_X3_bindCalls : Cond.selects RX3 yX3_bindCalls yX3_bindCalls ∈ W0 := w0_s (q := (yX3_bindCalls, 13)) (List.mem_append_right _ (List.mem_append_right _ (List.mem_append_left _ (List.mem_of_getElem? (i := 0) rfl)))) (by decide +kernel)
theorem mS_X3_bindCall : Cond.selects RX3 yX3_bindCall yX3_bindCall ∈ W0 := w0_s (q := (yX3_bindCall, 13)) (List.mem_append_right _ (List.mem_append_right _ (List.mem_append_left _ (List.mem_of_getElem? (i := 1) rfl)))) (by decide +kernel)
theorem mS_X6_forgetRun : Cond.selects RX6 yX6_forgetRun yX6_forgetRun ∈ W0 := w0_s (q := (yX6_forgetRun, 4)) (List.mem_append_right _ (List.mem_append_right _ (List.mem_append_left _ (List.mem_of_getElem? (i := 2) rfl)))) (by decide +kernel)
theorem mS_X1_beginCall : Cond.selects RX1 yX1_beginCall yX1_beginCall ∈ W0 := w0_s (q := (yX1_beginCall, 12)) (List.mem_append_right _ (List.mem_append_right _ (List.mem_append_left _ (List.mem_of_getElem? (i := 4) rfl)))) (by decide +kernel)
theorem mS_X1_rootOf : Cond.selects RX1 yX1_rootOf yX1_rootOf ∈ W0 := w0_s (q := (yX1_rootOf, 12)) (List.mem_append_right _ (List.mem_append_right _ (List.mem_append_left _ (List.mem_of_getElem? (i := 5) rfl)))) (by decide +kernel)
theorem mS_X0_chance : Cond.selects RX0 yX0_chance yX0_chance ∈ W0 := w0_s (q := (yX0_chance, 5)) (List.mem_append_right _ (List.mem_append_right _ (List.mem_append_left _ (List.mem_of_getElem? (i := 6) rfl)))) (by decide +kernel)
theorem mS_X1_lookAt : Cond.selects RX1 yX1_lookAt yX1_lookAt ∈ W0 := w0_s (q := (yX1_lookAt, 12)) (List.mem_append_right _ (List.mem_append_right _ (List.mem_append_left _ (List.mem_of_getElem? (i := 7) rfl)))) (by decide +kernel)
theorem mS_X1_partOf : Cond.selects RX1 yX1_partOf yX1_partOf ∈ W0 := w0_s (q := (yX1_partOf, 12)) (List.mem_append_right _ (List.mem_append_right _ (List.mem_append_left _ (List.mem_of_getElem? (i := 8) rfl)))) (by decide +kernel)
theorem mS_X1_reachInside : Cond.selects RX1 yX1_reachInside yX1_reachInside ∈ W0 := w0_s (q := (yX1_reachInside, 12)) (List.mem_append_right _ (List.mem_append_right _ (List.mem_append_left _ (List.mem_of_getElem? (i := 9) rfl)))) (by decide +kernel)
theorem mS_X1_inside : Cond.selects RX1 yX1_inside yX1_inside ∈ W0 := w0_s (q := (yX1_inside, 12)) (List.mem_append_right _ (List.mem_append_right _ (List.mem_append_left _ (List.mem_of_getElem? (i := 10) rfl)))) (by decide +kernel)
theorem mS_X1_workOutArgument : Cond.selects RX1 yX1_workOutArgument yX1_workOutArgument ∈ W0 := w0_s (q := (yX1_workOutArgument, 12)) (List.mem_append_right _ (List.mem_append_right _ (List.mem_append_left _ (List.mem_of_getElem? (i := 11) rfl)))) (by decide +kernel)
theorem mS_X1_negate : Cond.selects RX1 yX1_negate yX1_negate ∈ W0 := w0_s (q := (yX1_negate, 12)) (List.mem_append_right _ (List.mem_append_right _ (List.mem_append_left _ (List.mem_of_getElem? (i := 12) rfl)))) (by decide +kernel)
theorem mS_X1_choose : Cond.selects RX1 yX1_choose yX1_choose ∈ W0 := w0_s (q := (yX1_choose, 12)) (List.mem_append_right _ (List.mem_append_right _ (List.mem_append_left _ (List.mem_of_getElem? (i := 13) rfl)))) (by decide +kernel)
theorem mS_X1_makeCells : Cond.selects RX1 yX1_makeCells yX1_makeCells ∈ W0 := w0_s (q := (yX1_makeCells, 12)) (List.mem_append_right _ (List.mem_append_right _ (List.mem_append_left _ (List.mem_of_getElem? (i := 14) rfl)))) (by decide +kernel)
theorem mS_X1_fetch : Cond.selects RX1 yX1_fetch yX1_fetch ∈ W0 := w0_s (q := (yX1_fetch, 12)) (List.mem_append_right _ (List.mem_append_right _ (List.mem_append_left _ (List.mem_of_getElem? (i := 15) rfl)))) (by decide +kernel)
theorem mS_X1_combine : Cond.selects RX1 yX1_combine yX1_combine ∈ W0 := w0_s (q := (yX1_combine, 12)) (List.mem_append_right _ (List.mem_append_right _ (List.mem_append_right _ (List.mem_append_left _ (List.mem_of_getElem? (i := 0) rfl))))) (by decide +kernel)
theorem mS_X7_look : Cond.selects RX7 yX7_look yX7_look ∈ W0 := w0_s (q := (yX7_look, 55)) (List.mem_append_right _ (List.mem_append_right _ (List.mem_append_right _ (List.mem_append_left _ (List.mem_of_getElem? (i := 1) rfl))))) (by decide +kernel)
theorem mS_X7_isRow : Cond.selects RX7 yX7_isRow yX7_isRow ∈ W0 := w0_s (q := (yX7_isRow, 55)) (List.mem_append_right _ (List.mem_append_right _ (List.mem_append_right _ (List.mem_append_left _ (List.mem_of_getElem? (i := 2) rfl))))) (by decide +kernel)
theorem mS_X7_wordOf : Cond.selects RX7 yX7_wordOf yX7_wordOf ∈ W0 := w0_s (q := (yX7_wordOf, 55)) (List.mem_append_right _ (List.mem_append_right _ (List.mem_append_right _ (List.mem_append_left _ (List.mem_of_getElem? (i := 3) rfl))))) (by decide +kernel)
theorem mS_X7_is : Cond.selects RX7 yX7_is yX7_is ∈ W0 := w0_s (q := (yX7_is, 55)) (List.mem_append_right _ (List.mem_append_right _ (List.mem_append_right _ (List.mem_append_left _ (List.mem_of_getElem? (i := 4) rfl))))) (by decide +kernel)
theorem mS_X7_readDefinition : Cond.selects RX7 yX7_readDefinition yX7_readDefinition ∈ W0 := w0_s (q := (yX7_readDefinition, 55)) (List.mem_append_right _ (List.mem_append_right _ (List.mem_append_right _ (List.mem_append_left _ (List.mem_of_getElem? (i := 5) rfl))))) (by decide +kernel)
theorem mS_X7_need : Cond.selects RX7 yX7_need yX7_need ∈ W0 := w0_s (q := (yX7_need, 55)) (List.mem_append_right _ (List.mem_append_right _ (List.mem_append_right _ (List.mem_append_left _ (List.mem_of_getElem? (i := 6) rfl))))) (by decide +kernel)
theorem mS_X7_nameOf : Cond.selects RX7 yX7_nameOf yX7_nameOf ∈ W0 := w0_s (q := (yX7_nameOf, 55)) (List.mem_append_right _ (List.mem_append_right _ (List.mem_append_right _ (List.mem_append_left _ (List.mem_of_getElem? (i := 7) rfl))))) (by decide +kernel)
theorem mS_X7_isTaken : Cond.selects RX7 yX7_isTaken yX7_isTaken ∈ W0 := w0_s (q := (yX7_isTaken, 55)) (List.mem_append_right _ (List.mem_append_right _ (List.mem_append_right _ (List.mem_append_left _ (List.mem_of_getElem? (i := 8) rfl))))) (by decide +kernel)
theorem mS_X7_go : Cond.selects RX7 yX7_go yX7_go ∈ W0 := w0_s (q := (yX7_go, 55)) (List.mem_append_right _ (List.mem_append_right _ (List.mem_append_right _ (List.mem_append_left _ (List.mem_of_getElem? (i := 9) rfl))))) (by decide +kernel)
theorem mS_X7_needSign : Cond.selects RX7 yX7_needSign yX7_needSign ∈ W0 := w0_s (q := (yX7_needSign, 55)) (List.mem_append_right _ (List.mem_append_right _ (List.mem_append_right _ (List.mem_append_left _ (List.mem_of_getElem? (i := 10) rfl))))) (by decide +kernel)
theorem mS_X7_isSign : Cond.selects RX7 yX7_isSign yX7_isSign ∈ W0 := w0_s (q := (yX7_isSign, 55)) (List.mem_append_right _ (List.mem_append_right _ (List.mem_append_right _ (List.mem_append_left _ (List.mem_of_getElem? (i := 11) rfl))))) (by decide +kernel)
theorem mS_X7_readArguments : Cond.selects RX7 yX7_readArguments yX7_readArguments ∈ W0 := w0_s (q := (yX7_readArguments, 55)) (List.mem_append_right _ (List.mem_append_right _ (List.mem_append_right _ (List.mem_append_left _ (List.mem_of_getElem? (i := 12) rfl))))) (by decide +kernel)
theorem mS_X7_take : Cond.selects RX7 yX7_take yX7_take ∈ W0 := w0_s (q := (yX7_take, 55)) (List.mem_append_right _ (List.mem_append_right _ (List.mem_append_right _ (List.mem_append_left _ (List.mem_of_getElem? (i := 13) rfl))))) (by decide +kernel)
theorem mS_X7_readExpression : Cond.selects RX7 yX7_readExpression yX7_readExpression ∈ W0 := w0_s (q := (yX7_readExpression, 55)) (List.mem_append_right _ (List.mem_append_right _ (List.mem_append_right _ (List.mem_append_left _ (List.mem_of_getElem? (i := 14) rfl))))) (by decide +kernel)
theorem mS_X7_later : Cond.selects RX7 yX7_later yX7_later ∈ W0 := w0_s (q := (yX7_later, 55)) (List.mem_append_right _ (List.mem_append_right _ (List.mem_append_right _ (List.mem_append_left _ (List.mem_of_getElem? (i := 15) rfl))))) (by decide +kernel)
theorem mS_X7_step : Cond.selects RX7 yX7_step yX7_step ∈ W0 := w0_s (q := (yX7_step, 55)) (List.mem_append_right _ (List.mem_append_right _ (List.mem_append_right _ (List.mem_append_right _ (List.mem_append_left _ (List.mem_of_getElem? (i := 0) rfl)))))) (by decide +kernel)
theorem mS_X7_expression : Cond.selects RX7 yX7_expression yX7_expression ∈ W0 := w0_s (q := (yX7_expression, 55)) (List.mem_append_right _ (List.mem_append_right _ (List.mem_append_right _ (List.mem_append_right _ (List.mem_append_left _ (List.mem_of_getElem? (i := 1) rfl)))))) (by decide +kernel)
theorem mS_X7_part : Cond.selects RX7 yX7_part yX7_part ∈ W0 := w0_s (q := (yX7_part, 55)) (List.mem_append_right _ (List.mem_append_right _ (List.mem_append_right _ (List.mem_append_right _ (List.mem_append_left _ (List.mem_of_getElem? (i := 2) rfl)))))) (by decide +kernel)
theorem mS_X7_part0 : Cond.selects RX7 yX7_part0 yX7_part0 ∈ W0 := w0_s (q := (yX7_part0, 55)) (List.mem_append_right _ (List.mem_append_right _ (List.mem_append_right _ (List.mem_append_right _ (List.mem_append_left _ (List.mem_of_getElem? (i := 3) rfl)))))) (by decide +kernel)
theorem mS_X7_got : Cond.selects RX7 yX7_got yX7_got ∈ W0 := w0_s (q := (yX7_got, 55)) (List.mem_append_right _ (List.mem_append_right _ (List.mem_append_right _ (List.mem_append_right _ (List.mem_append_left _ (List.mem_of_getElem? (i := 4) rfl)))))) (by decide +kernel)
theorem mS_X7_give : Cond.selects RX7 yX7_give yX7_give ∈ W0 := w0_s (q := (yX7_give, 55)) (List.mem_append_right _ (List.mem_append_right _ (List.mem_append_right _ (List.mem_append_right _ (List.mem_append_left _ (List.mem_of_getElem? (i := 5) rfl)))))) (by decide +kernel)
theorem mS_X7_second : Cond.selects RX7 yX7_second yX7_second ∈ W0 := w0_s (q := (yX7_second, 55)) (List.mem_append_right _ (List.mem_append_right _ (List.mem_append_right _ (List.mem_append_right _ (List.mem_append_left _ (List.mem_of_getElem? (i := 6) rfl)))))) (by decide +kernel)
theorem mS_X7_more : Cond.selects RX7 yX7_more yX7_more ∈ W0 := w0_s (q := (yX7_more, 55)) (List.mem_append_right _ (List.mem_append_right _ (List.mem_append_right _ (List.mem_append_right _ (List.mem_append_left _ (List.mem_of_getElem? (i := 7) rfl)))))) (by decide +kernel)
theorem mS_X7_operator : Cond.selects RX7 yX7_operator yX7_operator ∈ W0 := w0_s (q := (yX7_operator, 55)) (List.mem_append_right _ (List.mem_append_right _ (List.mem_append_right _ (List.mem_append_right _ (List.mem_append_left _ (List.mem_of_getElem? (i := 8) rfl)))))) (by decide +kernel)
theorem mS_X7_rest : Cond.selects RX7 yX7_rest yX7_rest ∈ W0 := w0_s (q := (yX7_rest, 55)) (List.mem_append_right _ (List.mem_append_right _ (List.mem_append_right _ (List.mem_append_right _ (List.mem_append_left _ (List.mem_of_getElem? (i := 9) rfl)))))) (by decide +kernel)
theorem mS_X7_factor : Cond.selects RX7 yX7_factor yX7_factor ∈ W0 := w0_s (q := (yX7_factor, 55)) (List.mem_append_right _ (List.mem_append_right _ (List.mem_append_right _ (List.mem_append_right _ (List.mem_append_left _ (List.mem_of_getElem? (i := 10) rfl)))))) (by decide +kernel)
theorem mS_X7_named : Cond.selects RX7 yX7_named yX7_named ∈ W0 := w0_s (q := (yX7_named, 55)) (List.mem_append_right _ (List.mem_append_right _ (List.mem_append_right _ (List.mem_append_right _ (List.mem_append_left _ (List.mem_of_getElem? (i := 11) rfl)))))) (by decide +kernel)
theorem mS_X7_variable : Cond.selects RX7 yX7_variable yX7_variable ∈ W0 := w0_s (q := (yX7_variable, 55)) (List.mem_append_right _ (List.mem_append_right _ (List.mem_append_right _ (List.mem_append_right _ (List.mem_append_left _ (List.mem_of_getElem? (i := 12) rfl)))))) (by decide +kernel)
theorem mS_X7_closed : Cond.selects RX7 yX7_closed yX7_closed ∈ W0 := w0_s (q := (yX7_closed, 55)) (List.mem_append_right _ (List.mem_append_right _ (List.mem_append_right _ (List.mem_append_right _ (List.mem_append_left _ (List.mem_of_getElem? (i := 13) rfl)))))) (by decide +kernel)
theorem mS_X7_listed : Cond.selects RX7 yX7_listed yX7_listed ∈ W0 := w0_s (q := (yX7_listed, 55)) (List.mem_append_right _ (List.mem_append_right _ (List.mem_append_right _ (List.mem_append_right _ (List.mem_append_left _ (List.mem_of_getElem? (i := 14) rfl)))))) (by decide +kernel)
theorem mS_X7_addArgument : Cond.selects RX7 yX7_addArgument yX7_addArgument ∈ W0 := w0_s (q := (yX7_addArgument, 55)) (List.mem_append_right _ (List.mem_append_right _ (List.mem_append_right _ (List.mem_append_right _ (List.mem_append_left _ (List.mem_of_getElem? (i := 15) rfl)))))) (by decide +kernel)
theorem mS_X7_link : Cond.selects RX7 yX7_link yX7_link ∈ W0 := w0_s (q := (yX7_link, 55)) (List.mem_append_right _ (List.mem_append_right _ (List.mem_append_right _ (List.mem_append_right _ (List.mem_append_right _ (List.mem_append_left _ (List.mem_of_getElem? (i := 0) rfl))))))) (by decide +kernel)
theorem mS_X7_call : Cond.selects RX7 yX7_call yX7_call ∈ W0 := w0_s (q := (yX7_call, 55)) (List.mem_append_right _ (List.mem_append_right _ (List.mem_append_right _ (List.mem_append_right _ (List.mem_append_right _ (List.mem_append_left _ (List.mem_of_getElem? (i := 1) rfl))))))) (by decide +kernel)
theorem mS_X7_argument : Cond.selects RX7 yX7_argument yX7_argument ∈ W0 := w0_s (q := (yX7_argument, 55)) (List.mem_append_right _ (List.mem_append_right _ (List.mem_append_right _ (List.mem_append_right _ (List.mem_append_right _ (List.mem_append_left _ (List.mem_of_getElem? (i := 2) rfl))))))) (by decide +kernel)
theorem mS_X7_rootOf : Cond.selects RX7 yX7_rootOf yX7_rootOf ∈ W0 := w0_s (q := (yX7_rootOf, 55)) (List.mem_append_right _ (List.mem_append_right _ (List.mem_append_right _ (List.mem_append_right _ (List.mem_append_right _ (List.mem_append_left _ (List.mem_of_getElem? (i := 3) rfl))))))) (by decide +kernel)
theorem mS_X7_reach : Cond.selects RX7 yX7_reach yX7_reach ∈ W0 := w0_s (q := (yX7_reach, 55)) (List.mem_append_right _ (List.mem_append_right _ (List.mem_append_right _ (List.mem_append_right _ (List.mem_append_right _ (List.mem_append_left _ (List.mem_of_getElem? (i := 4) rfl))))))) (by decide +kernel)
theorem mS_X7_work : Cond.selects RX7 yX7_work yX7_work ∈ W0 := w0_s (q := (yX7_work, 55)) (List.mem_append_right _ (List.mem_append_right _ (List.mem_append_right _ (List.mem_append_right _ (List.mem_append_right _ (List.mem_append_left _ (List.mem_of_getElem? (i := 5) rfl))))))) (by decide +kernel)
theorem mS_X7_partOf : Cond.selects RX7 yX7_partOf yX7_partOf ∈ W0 := w0_s (q := (yX7_partOf, 55)) (List.mem_append_right _ (List.mem_append_right _ (List.mem_append_right _ (List.mem_append_right _ (List.mem_append_right _ (List.mem_append_left _ (List.mem_of_getElem? (i := 6) rfl))))))) (by decide +kernel)
theorem mS_X7_know : Cond.selects RX7 yX7_know yX7_know ∈ W0 := w0_s (q := (yX7_know, 55)) (List.mem_append_right _ (List.mem_append_right _ (List.mem_append_right _ (List.mem_append_right _ (List.mem_append_right _ (List.mem_append_left _ (List.mem_of_getElem? (i := 7) rfl))))))) (by decide +kernel)
theorem mS_X7_workArgument : Cond.selects RX7 yX7_workArgument yX7_workArgument ∈ W0 := w0_s (q := (yX7_workArgument, 55)) (List.mem_append_right _ (List.mem_append_right _ (List.mem_append_right _ (List.mem_append_right _ (List.mem_append_right _ (List.mem_append_left _ (List.mem_of_getElem? (i := 8) rfl))))))) (by decide +kernel)
theorem mS_X7_same : Cond.selects RX7 yX7_same yX7_same ∈ W0 := w0_s (q := (yX7_same, 55)) (List.mem_append_right _ (List.mem_append_right _ (List.mem_append_right _ (List.mem_append_right _ (List.mem_append_right _ (List.mem_append_left _ (List.mem_of_getElem? (i := 9) rfl))))))) (by decide +kernel)
theorem mS_X7_here : Cond.selects RX7 yX7_here yX7_here ∈ W0 := w0_s (q := (yX7_here, 55)) (List.mem_append_right _ (List.mem_append_right _ (List.mem_append_right _ (List.mem_append_right _ (List.mem_append_right _ (List.mem_append_left _ (List.mem_of_getElem? (i := 10) rfl))))))) (by decide +kernel)
theorem mS_X7_numberOf : Cond.selects RX7 yX7_numberOf yX7_numberOf ∈ W0 := w0_s (q := (yX7_numberOf, 55)) (List.mem_append_right _ (List.mem_append_right _ (List.mem_append_right _ (List.mem_append_right _ (List.mem_append_right _ (List.mem_append_left _ (List.mem_of_getElem? (i := 11) rfl))))))) (by decide +kernel)
theorem mS_X7_workIf : Cond.selects RX7 yX7_workIf yX7_workIf ∈ W0 := w0_s (q := (yX7_workIf, 55)) (List.mem_append_right _ (List.mem_append_right _ (List.mem_append_right _ (List.mem_append_right _ (List.mem_append_right _ (List.mem_append_left _ (List.mem_of_getElem? (i := 12) rfl))))))) (by decide +kernel)
theorem mS_X7_workCall : Cond.selects RX7 yX7_workCall yX7_workCall ∈ W0 := w0_s (q := (yX7_workCall, 55)) (List.mem_append_right _ (List.mem_append_right _ (List.mem_append_right _ (List.mem_append_right _ (List.mem_append_right _ (List.mem_append_left _ (List.mem_of_getElem? (i := 13) rfl))))))) (by decide +kernel)
theorem mS_X7_reachArguments : Cond.selects RX7 yX7_reachArguments yX7_reachArguments ∈ W0 := w0_s (q := (yX7_reachArguments, 55)) (List.mem_append_right _ (List.mem_append_right _ (List.mem_append_right _ (List.mem_append_right _ (List.mem_append_right _ (List.mem_append_left _ (List.mem_of_getElem? (i := 14) rfl))))))) (by decide +kernel)
theorem mS_X7_hand : Cond.selects RX7 yX7_hand yX7_hand ∈ W0 := w0_s (q := (yX7_hand, 55)) (List.mem_append_right _ (List.mem_append_right _ (List.mem_append_right _ (List.mem_append_right _ (List.mem_append_right _ (List.mem_append_left _ (List.mem_of_getElem? (i := 15) rfl))))))) (by decide +kernel)
theorem mS_X7_workMake : Cond.selects RX7 yX7_workMake yX7_workMake ∈ W0 := w0_s (q := (yX7_workMake, 55)) (List.mem_append_right _ (List.mem_append_right _ (List.mem_append_right _ (List.mem_append_right _ (List.mem_append_right _ (List.mem_append_right _ (List.mem_of_getElem? (i := 0) rfl))))))) (by decide +kernel)
theorem mS_X7_workFetch : Cond.selects RX7 yX7_workFetch yX7_workFetch ∈ W0 := w0_s (q := (yX7_workFetch, 55)) (List.mem_append_right _ (List.mem_append_right _ (List.mem_append_right _ (List.mem_append_right _ (List.mem_append_right _ (List.mem_append_right _ (List.mem_of_getElem? (i := 1) rfl))))))) (by decide +kernel)
theorem mS_X7_tell : Cond.selects RX7 yX7_tell yX7_tell ∈ W0 := w0_s (q := (yX7_tell, 55)) (List.mem_append_right _ (List.mem_append_right _ (List.mem_append_right _ (List.mem_append_right _ (List.mem_append_right _ (List.mem_append_right _ (List.mem_of_getElem? (i := 2) rfl))))))) (by decide +kernel)
theorem mY_X0_0 : u_lay RX0 TX0 0 ∈ W0 := w0_1 181 rfl (by decide +kernel)
theorem mY_X0_1 : u_lay RX0 TX0 1 ∈ W0 := w0_1 183 rfl (by decide +kernel)
theorem mY_X0_2 : u_lay RX0 TX0 2 ∈ W0 := w0_1 185 rfl (by decide +kernel)
theorem mY_X0_3 : u_lay RX0 TX0 3 ∈ W0 := w0_1 187 rfl (by decide +kernel)
theorem mY_X0_4 : u_lay RX0 TX0 4 ∈ W0 := w0_1 189 rfl (by decide +kernel)
theorem mW_X0 : ∀ w ∈ u_ws RX0 TX0 5, w ∈ W0 := by
  intro w h
  obtain ⟨k, hk, rfl⟩ := List.mem_map.mp h
  have hk := List.mem_range.mp hk
  match k, hk with
  | 0, _ => exact mY_X0_0
  | 1, _ => exact mY_X0_1
  | 2, _ => exact mY_X0_2
  | 3, _ => exact mY_X0_3
  | 4, _ => exact mY_X0_4
  | k + 5, hk => exact absurd hk (by omega)
theorem mY_X1_0 : u_lay RX1 TX1 0 ∈ W0 := w0_1 233 rfl (by decide +kernel)
theorem mY_X1_1 : u_lay RX1 TX1 1 ∈ W0 := w0_1 235 rfl (by decide +kernel)
theorem mY_X1_2 : u_lay RX1 TX1 2 ∈ W0 := w0_1 237 rfl (by decide +kernel)
theorem mY_X1_3 : u_lay RX1 TX1 3 ∈ W0 := w0_1 239 rfl (by decide +kernel)
theorem mY_X1_4 : u_lay RX1 TX1 4 ∈ W0 := w0_2 1 rfl (by decide +kernel)
theorem mY_X1_5 : u_lay RX1 TX1 5 ∈ W0 := w0_2 3 rfl (by decide +kernel)
theorem mY_X1_6 : u_lay RX1 TX1 6 ∈ W0 := w0_2 5 rfl (by decide +kernel)
theorem mY_X1_7 : u_lay RX1 TX1 7 ∈ W0 := w0_2 7 rfl (by decide +kernel)
theorem mY_X1_8 : u_lay RX1 TX1 8 ∈ W0 := w0_2 9 rfl (by decide +kernel)
theorem mY_X1_9 : u_lay RX1 TX1 9 ∈ W0 := w0_2 11 rfl (by decide +kernel)
theorem mY_X1_10 : u_lay RX1 TX1 10 ∈ W0 := w0_2 13 rfl (by decide +kernel)
theorem mY_X1_11 : u_lay RX1 TX1 11 ∈ W0 := w0_2 15 rfl (by decide +kernel)
theorem mW_X1 : ∀ w ∈ u_ws RX1 TX1 12, w ∈ W0 := by
  intro w h
  obtain ⟨k, hk, rfl⟩ := List.mem_map.mp h
  have hk := List.mem_range.mp hk
  match k, hk with
  | 0, _ => exact mY_X1_0
  | 1, _ => exact mY_X1_1
  | 2, _ => exact mY_X1_2
  | 3, _ => exact mY_X1_3
  | 4, _ => exact mY_X1_4
  | 5, _ => exact mY_X1_5
  | 6, _ => exact mY_X1_6
  | 7, _ => exact mY_X1_7
  | 8, _ => exact mY_X1_8
  | 9, _ => exact mY_X1_9
  | 10, _ => exact mY_X1_10
  | 11, _ => exact mY_X1_11
  | k + 12, hk => exact absurd hk (by omega)
theorem mY_X2_0 : u_lay RX2 TX2 0 ∈ W0 := w0_1 99 rfl (by decide +kernel)
theorem mY_X2_1 : u_lay RX2 TX2 1 ∈ W0 := w0_1 101 rfl (by decide +kernel)
theorem mY_X2_2 : u_lay RX2 TX2 2 ∈ W0 := w0_1 103 rfl (by decide +kernel)
theorem mY_X2_3 : u_lay RX2 TX2 3 ∈ W0 := w0_1 105 rfl (by decide +kernel)
theorem mY_X2_4 : u_lay RX2 TX2 4 ∈ W0 := w0_1 107 rfl (by decide +kernel)
theorem mY_X2_5 : u_lay RX2 TX2 5 ∈ W0 := w0_1 109 rfl (by decide +kernel)
theorem mY_X2_6 : u_lay RX2 TX2 6 ∈ W0 := w0_1 111 rfl (by decide +kernel)
theorem mY_X2_7 : u_lay RX2 TX2 7 ∈ W0 := w0_1 113 rfl (by decide +kernel)
theorem mW_X2 : ∀ w ∈ u_ws RX2 TX2 8, w ∈ W0 := by
  intro w h
  obtain ⟨k, hk, rfl⟩ := List.mem_map.mp h
  have hk := List.mem_range.mp hk
  match k, hk with
  | 0, _ => exact mY_X2_0
  | 1, _ => exact mY_X2_1
  | 2, _ => exact mY_X2_2
  | 3, _ => exact mY_X2_3
  | 4, _ => exact mY_X2_4
  | 5, _ => exact mY_X2_5
  | 6, _ => exact mY_X2_6
  | 7, _ => exact mY_X2_7
  | k + 8, hk => exact absurd hk (by omega)
theorem mY_X3_0 : u_lay RX3 TX3 0 ∈ W0 := w0_1 131 rfl (by decide +kernel)
theorem mY_X3_1 : u_lay RX3 TX3 1 ∈ W0 := w0_1 133 rfl (by decide +kernel)
theorem mY_X3_2 : u_lay RX3 TX3 2 ∈ W0 := w0_1 135 rfl (by decide +kernel)
theorem mY_X3_3 : u_lay RX3 TX3 3 ∈ W0 := w0_1 137 rfl (by decide +kernel)
theorem mY_X3_4 : u_lay RX3 TX3 4 ∈ W0 := w0_1 139 rfl (by decide +kernel)
theorem mY_X3_5 : u_lay RX3 TX3 5 ∈ W0 := w0_1 141 rfl (by decide +kernel)
theorem mY_X3_6 : u_lay RX3 TX3 6 ∈ W0 := w0_1 143 rfl (by decide +kernel)
theorem mY_X3_7 : u_lay RX3 TX3 7 ∈ W0 := w0_1 145 rfl (by decide +kernel)
theorem mY_X3_8 : u_lay RX3 TX3 8 ∈ W0 := w0_1 147 rfl (by decide +kernel)
theorem mY_X3_9 : u_lay RX3 TX3 9 ∈ W0 := w0_1 149 rfl (by decide +kernel)
theorem mY_X3_10 : u_lay RX3 TX3 10 ∈ W0 := w0_1 151 rfl (by decide +kernel)
theorem mY_X3_11 : u_lay RX3 TX3 11 ∈ W0 := w0_1 153 rfl (by decide +kernel)
theorem mY_X3_12 : u_lay RX3 TX3 12 ∈ W0 := w0_1 155 rfl (by decide +kernel)
theorem mW_X3 : ∀ w ∈ u_ws RX3 TX3 13, w ∈ W0 := by
  intro w h
  obtain ⟨k, hk, rfl⟩ := List.mem_map.mp h
  have hk := List.mem_range.mp hk
  match k, hk with
  | 0, _ => exact mY_X3_0
  | 1, _ => exact mY_X3_1
  | 2, _ => exact mY_X3_2
  | 3, _ => exact mY_X3_3
  | 4, _ => exact mY_X3_4
  | 5, _ => exact mY_X3_5
  | 6, _ => exact mY_X3_6
  | 7, _ => exact mY_X3_7
  | 8, _ => exact mY_X3_8
  | 9, _ => exact mY_X3_9
  | 10, _ => exact mY_X3_10
  | 11, _ => exact mY_X3_11
  | 12, _ => exact mY_X3_12
  | k + 13, hk => exact absurd hk (by omega)
theorem mY_X4_0 : u_lay RX4 TX4 0 ∈ W0 := w0_1 201 rfl (by decide +kernel)
theorem mY_X4_1 : u_lay RX4 TX4 1 ∈ W0 := w0_1 203 rfl (by decide +kernel)
theorem mY_X4_2 : u_lay RX4 TX4 2 ∈ W0 := w0_1 205 rfl (by decide +kernel)
theorem mY_X4_3 : u_lay RX4 TX4 3 ∈ W0 := w0_1 207 rfl (by decide +kernel)
theorem mY_X4_4 : u_lay RX4 TX4 4 ∈ W0 := w0_1 209 rfl (by decide +kernel)
theorem mY_X4_5 : u_lay RX4 TX4 5 ∈ W0 := w0_1 211 rfl (by decide +kernel)
theorem mY_X4_6 : u_lay RX4 TX4 6 ∈ W0 := w0_1 213 rfl (by decide +kernel)
theorem mW_X4 : ∀ w ∈ u_ws RX4 TX4 7, w ∈ W0 := by
  intro w h
  obtain ⟨k, hk, rfl⟩ := List.mem_map.mp h
  have hk := List.mem_range.mp hk
  match k, hk with
  | 0, _ => exact mY_X4_0
  | 1, _ => exact mY_X4_1
  | 2, _ => exact mY_X4_2
  | 3, _ => exact mY_X4_3
  | 4, _ => exact mY_X4_4
  | 5, _ => exact mY_X4_5
  | 6, _ => exact mY_X4_6
  | k + 7, hk => exact absurd hk (by omega)
theorem mY_X5_0 : u_lay RX5 TX5 0 ∈ W0 := w0_1 55 rfl (by decide +kernel)
theorem mY_X5_1 : u_lay RX5 TX5 1 ∈ W0 := w0_1 57 rfl (by decide +kernel)
theorem mY_X5_2 : u_lay RX5 TX5 2 ∈ W0 := w0_1 59 rfl (by decide +kernel)
theorem mY_X5_3 : u_lay RX5 TX5 3 ∈ W0 := w0_1 61 rfl (by decide +kernel)
theorem mY_X5_4 : u_lay RX5 TX5 4 ∈ W0 := w0_1 63 rfl (by decide +kernel)
theorem mY_X5_5 : u_lay RX5 TX5 5 ∈ W0 := w0_1 65 rfl (by decide +kernel)
theorem mY_X5_6 : u_lay RX5 TX5 6 ∈ W0 := w0_1 67 rfl (by decide +kernel)
theorem mW_X5 : ∀ w ∈ u_ws RX5 TX5 7, w ∈ W0 := by
  intro w h
  obtain ⟨k, hk, rfl⟩ := List.mem_map.mp h
  have hk := List.mem_range.mp hk
  match k, hk with
  | 0, _ => exact mY_X5_0
  | 1, _ => exact mY_X5_1
  | 2, _ => exact mY_X5_2
  | 3, _ => exact mY_X5_3
  | 4, _ => exact mY_X5_4
  | 5, _ => exact mY_X5_5
  | 6, _ => exact mY_X5_6
  | k + 7, hk => exact absurd hk (by omega)
theorem mY_X6_0 : u_lay RX6 TX6 0 ∈ W0 := w0_2 22 rfl (by decide +kernel)
theorem mY_X6_1 : u_lay RX6 TX6 1 ∈ W0 := w0_2 24 rfl (by decide +kernel)
theorem mY_X6_2 : u_lay RX6 TX6 2 ∈ W0 := w0_2 26 rfl (by decide +kernel)
theorem mY_X6_3 : u_lay RX6 TX6 3 ∈ W0 := w0_2 28 rfl (by decide +kernel)
theorem mW_X6 : ∀ w ∈ u_ws RX6 TX6 4, w ∈ W0 := by
  intro w h
  obtain ⟨k, hk, rfl⟩ := List.mem_map.mp h
  have hk := List.mem_range.mp hk
  match k, hk with
  | 0, _ => exact mY_X6_0
  | 1, _ => exact mY_X6_1
  | 2, _ => exact mY_X6_2
  | 3, _ => exact mY_X6_3
  | k + 4, hk => exact absurd hk (by omega)
theorem mY_X7_0 : u_lay RX7 TX7 0 ∈ W0 := w0_4 208 rfl (by decide +kernel)
theorem mY_X7_1 : u_lay RX7 TX7 1 ∈ W0 := w0_4 210 rfl (by decide +kernel)
theorem mY_X7_2 : u_lay RX7 TX7 2 ∈ W0 := w0_4 212 rfl (by decide +kernel)
theorem mY_X7_3 : u_lay RX7 TX7 3 ∈ W0 := w0_4 214 rfl (by decide +kernel)
theorem mY_X7_4 : u_lay RX7 TX7 4 ∈ W0 := w0_4 216 rfl (by decide +kernel)
theorem mY_X7_5 : u_lay RX7 TX7 5 ∈ W0 := w0_4 218 rfl (by decide +kernel)
theorem mY_X7_6 : u_lay RX7 TX7 6 ∈ W0 := w0_4 220 rfl (by decide +kernel)
theorem mY_X7_7 : u_lay RX7 TX7 7 ∈ W0 := w0_4 222 rfl (by decide +kernel)
theorem mY_X7_8 : u_lay RX7 TX7 8 ∈ W0 := w0_4 224 rfl (by decide +kernel)
theorem mY_X7_9 : u_lay RX7 TX7 9 ∈ W0 := w0_4 226 rfl (by decide +kernel)
theorem mY_X7_10 : u_lay RX7 TX7 10 ∈ W0 := w0_4 228 rfl (by decide +kernel)
theorem mY_X7_11 : u_lay RX7 TX7 11 ∈ W0 := w0_4 230 rfl (by decide +kernel)
theorem mY_X7_12 : u_lay RX7 TX7 12 ∈ W0 := w0_4 232 rfl (by decide +kernel)
theorem mY_X7_13 : u_lay RX7 TX7 13 ∈ W0 := w0_4 234 rfl (by decide +kernel)
theorem mY_X7_14 : u_lay RX7 TX7 14 ∈ W0 := w0_4 236 rfl (by decide +kernel)
theorem mY_X7_15 : u_lay RX7 TX7 15 ∈ W0 := w0_4 238 rfl (by decide +kernel)
theorem mY_X7_16 : u_lay RX7 TX7 16 ∈ W0 := w0_5 0 rfl (by decide +kernel)
theorem mY_X7_17 : u_lay RX7 TX7 17 ∈ W0 := w0_5 2 rfl (by decide +kernel)
theorem mY_X7_18 : u_lay RX7 TX7 18 ∈ W0 := w0_5 4 rfl (by decide +kernel)
theorem mY_X7_19 : u_lay RX7 TX7 19 ∈ W0 := w0_5 6 rfl (by decide +kernel)
theorem mY_X7_20 : u_lay RX7 TX7 20 ∈ W0 := w0_5 8 rfl (by decide +kernel)
theorem mY_X7_21 : u_lay RX7 TX7 21 ∈ W0 := w0_5 10 rfl (by decide +kernel)
theorem mY_X7_22 : u_lay RX7 TX7 22 ∈ W0 := w0_5 12 rfl (by decide +kernel)
theorem mY_X7_23 : u_lay RX7 TX7 23 ∈ W0 := w0_5 14 rfl (by decide +kernel)
theorem mY_X7_24 : u_lay RX7 TX7 24 ∈ W0 := w0_5 16 rfl (by decide +kernel)
theorem mY_X7_25 : u_lay RX7 TX7 25 ∈ W0 := w0_5 18 rfl (by decide +kernel)
theorem mY_X7_26 : u_lay RX7 TX7 26 ∈ W0 := w0_5 20 rfl (by decide +kernel)
theorem mY_X7_27 : u_lay RX7 TX7 27 ∈ W0 := w0_5 22 rfl (by decide +kernel)
theorem mY_X7_28 : u_lay RX7 TX7 28 ∈ W0 := w0_5 24 rfl (by decide +kernel)
theorem mY_X7_29 : u_lay RX7 TX7 29 ∈ W0 := w0_5 26 rfl (by decide +kernel)
theorem mY_X7_30 : u_lay RX7 TX7 30 ∈ W0 := w0_5 28 rfl (by decide +kernel)
theorem mY_X7_31 : u_lay RX7 TX7 31 ∈ W0 := w0_5 30 rfl (by decide +kernel)
theorem mY_X7_32 : u_lay RX7 TX7 32 ∈ W0 := w0_5 32 rfl (by decide +kernel)
theorem mY_X7_33 : u_lay RX7 TX7 33 ∈ W0 := w0_5 34 rfl (by decide +kernel)
theorem mY_X7_34 : u_lay RX7 TX7 34 ∈ W0 := w0_5 36 rfl (by decide +kernel)
theorem mY_X7_35 : u_lay RX7 TX7 35 ∈ W0 := w0_5 38 rfl (by decide +kernel)
theorem mY_X7_36 : u_lay RX7 TX7 36 ∈ W0 := w0_5 40 rfl (by decide +kernel)
theorem mY_X7_37 : u_lay RX7 TX7 37 ∈ W0 := w0_5 42 rfl (by decide +kernel)
theorem mY_X7_38 : u_lay RX7 TX7 38 ∈ W0 := w0_5 44 rfl (by decide +kernel)
theorem mY_X7_39 : u_lay RX7 TX7 39 ∈ W0 := w0_5 46 rfl (by decide +kernel)
theorem mY_X7_40 : u_lay RX7 TX7 40 ∈ W0 := w0_5 48 rfl (by decide +kernel)
theorem mY_X7_41 : u_lay RX7 TX7 41 ∈ W0 := w0_5 50 rfl (by decide +kernel)
theorem mY_X7_42 : u_lay RX7 TX7 42 ∈ W0 := w0_5 52 rfl (by decide +kernel)
theorem mY_X7_43 : u_lay RX7 TX7 43 ∈ W0 := w0_5 54 rfl (by decide +kernel)
theorem mY_X7_44 : u_lay RX7 TX7 44 ∈ W0 := w0_5 56 rfl (by decide +kernel)
theorem mY_X7_45 : u_lay RX7 TX7 45 ∈ W0 := w0_5 58 rfl (by decide +kernel)
theorem mY_X7_46 : u_lay RX7 TX7 46 ∈ W0 := w0_5 60 rfl (by decide +kernel)
theorem mY_X7_47 : u_lay RX7 TX7 47 ∈ W0 := w0_5 62 rfl (by decide +kernel)
theorem mY_X7_48 : u_lay RX7 TX7 48 ∈ W0 := w0_5 64 rfl (by decide +kernel)
theorem mY_X7_49 : u_lay RX7 TX7 49 ∈ W0 := w0_5 66 rfl (by decide +kernel)
theorem mY_X7_50 : u_lay RX7 TX7 50 ∈ W0 := w0_5 68 rfl (by decide +kernel)
theorem mY_X7_51 : u_lay RX7 TX7 51 ∈ W0 := w0_5 70 rfl (by decide +kernel)
theorem mY_X7_52 : u_lay RX7 TX7 52 ∈ W0 := w0_5 72 rfl (by decide +kernel)
theorem mY_X7_53 : u_lay RX7 TX7 53 ∈ W0 := w0_5 74 rfl (by decide +kernel)
theorem mY_X7_54 : u_lay RX7 TX7 54 ∈ W0 := w0_5 76 rfl (by decide +kernel)
theorem mW_X7 : ∀ w ∈ u_ws RX7 TX7 55, w ∈ W0 := by
  intro w h
  obtain ⟨k, hk, rfl⟩ := List.mem_map.mp h
  have hk := List.mem_range.mp hk
  match k, hk with
  | 0, _ => exact mY_X7_0
  | 1, _ => exact mY_X7_1
  | 2, _ => exact mY_X7_2
  | 3, _ => exact mY_X7_3
  | 4, _ => exact mY_X7_4
  | 5, _ => exact mY_X7_5
  | 6, _ => exact mY_X7_6
  | 7, _ => exact mY_X7_7
  | 8, _ => exact mY_X7_8
  | 9, _ => exact mY_X7_9
  | 10, _ => exact mY_X7_10
  | 11, _ => exact mY_X7_11
  | 12, _ => exact mY_X7_12
  | 13, _ => exact mY_X7_13
  | 14, _ => exact mY_X7_14
  | 15, _ => exact mY_X7_15
  | 16, _ => exact mY_X7_16
  | 17, _ => exact mY_X7_17
  | 18, _ => exact mY_X7_18
  | 19, _ => exact mY_X7_19
  | 20, _ => exact mY_X7_20
  | 21, _ => exact mY_X7_21
  | 22, _ => exact mY_X7_22
  | 23, _ => exact mY_X7_23
  | 24, _ => exact mY_X7_24
  | 25, _ => exact mY_X7_25
  | 26, _ => exact mY_X7_26
  | 27, _ => exact mY_X7_27
  | 28, _ => exact mY_X7_28
  | 29, _ => exact mY_X7_29
  | 30, _ => exact mY_X7_30
  | 31, _ => exact mY_X7_31
  | 32, _ => exact mY_X7_32
  | 33, _ => exact mY_X7_33
  | 34, _ => exact mY_X7_34
  | 35, _ => exact mY_X7_35
  | 36, _ => exact mY_X7_36
  | 37, _ => exact mY_X7_37
  | 38, _ => exact mY_X7_38
  | 39, _ => exact mY_X7_39
  | 40, _ => exact mY_X7_40
  | 41, _ => exact mY_X7_41
  | 42, _ => exact mY_X7_42
  | 43, _ => exact mY_X7_43
  | 44, _ => exact mY_X7_44
  | 45, _ => exact mY_X7_45
  | 46, _ => exact mY_X7_46
  | 47, _ => exact mY_X7_47
  | 48, _ => exact mY_X7_48
  | 49, _ => exact mY_X7_49
  | 50, _ => exact mY_X7_50
  | 51, _ => exact mY_X7_51
  | 52, _ => exact mY_X7_52
  | 53, _ => exact mY_X7_53
  | 54, _ => exact mY_X7_54
  | k + 55, hk => exact absurd hk (by omega)
end

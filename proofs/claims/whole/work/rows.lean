section
-- ===== PART A: goes FIRST, ahead of the names: the tables' words, and 'selects' of the private methods out of them =====
/-- a private method of a class that the tables say can be made, by its rows of tables_1 -/
def lw_okq (q : MethodName × Nat) : Prop := (q.1.cls ≠ "java/lang/invoke/MethodHandle" ∧ q.1.cls ≠ "java/lang/invoke/VarHandle") ∧ Cond.instantiable q.1.cls q.2 ∈ tables_1 ∧ Cond.privateMethod q.1 ∈ tables_1 ∧ Cond.instanceMethod q.1 ∈ tables_1
theorem lw_p0 : lw_okq (⟨"TouchSheet", "canAdd", "(I)Z"⟩, 19) := ⟨⟨by decide +kernel, by decide +kernel⟩, List.mem_of_getElem? (i := 13) (by decide +kernel), List.mem_of_getElem? (i := 257) (by decide +kernel), List.mem_of_getElem? (i := 258) (by decide +kernel)⟩
theorem lw_p1 : lw_okq (⟨"TouchSheet", "finish", "(LTouchSheet$Shape;)I"⟩, 19) := ⟨⟨by decide +kernel, by decide +kernel⟩, List.mem_of_getElem? (i := 13) (by decide +kernel), List.mem_of_getElem? (i := 269) (by decide +kernel), List.mem_of_getElem? (i := 270) (by decide +kernel)⟩
theorem lw_p2 : lw_okq (⟨"TouchSheet$Shape", "drawLine", "()V"⟩, 6) := ⟨⟨by decide +kernel, by decide +kernel⟩, List.mem_of_getElem? (i := 151) (by decide +kernel), List.mem_of_getElem? (i := 281) (by decide +kernel), List.mem_of_getElem? (i := 282) (by decide +kernel)⟩
theorem lw_p3 : lw_okq (⟨"TouchSheet$Shape", "drawStep", "(IIII)V"⟩, 6) := ⟨⟨by decide +kernel, by decide +kernel⟩, List.mem_of_getElem? (i := 151) (by decide +kernel), List.mem_of_getElem? (i := 290) (by decide +kernel), List.mem_of_getElem? (i := 291) (by decide +kernel)⟩
theorem lw_p4 : lw_okq (⟨"TouchSheet$Shape", "drawGround", "()V"⟩, 6) := ⟨⟨by decide +kernel, by decide +kernel⟩, List.mem_of_getElem? (i := 151) (by decide +kernel), List.mem_of_getElem? (i := 303) (by decide +kernel), List.mem_of_getElem? (i := 304) (by decide +kernel)⟩
theorem lw_p5 : lw_okq (⟨"TouchSheet$Shape", "drawMark", "()V"⟩, 6) := ⟨⟨by decide +kernel, by decide +kernel⟩, List.mem_of_getElem? (i := 151) (by decide +kernel), List.mem_of_getElem? (i := 307) (by decide +kernel), List.mem_of_getElem? (i := 308) (by decide +kernel)⟩
theorem lw_p6 : lw_okq (⟨"TouchSheet", "measure", "(I)V"⟩, 19) := ⟨⟨by decide +kernel, by decide +kernel⟩, List.mem_of_getElem? (i := 13) (by decide +kernel), List.mem_of_getElem? (i := 311) (by decide +kernel), List.mem_of_getElem? (i := 312) (by decide +kernel)⟩
theorem lw_p7 : lw_okq (⟨"TouchSheet", "forgetAnswers", "()V"⟩, 19) := ⟨⟨by decide +kernel, by decide +kernel⟩, List.mem_of_getElem? (i := 13) (by decide +kernel), List.mem_of_getElem? (i := 334) (by decide +kernel), List.mem_of_getElem? (i := 335) (by decide +kernel)⟩
theorem lw_p8 : lw_okq (⟨"TouchSheet", "isShape", "(I)Z"⟩, 19) := ⟨⟨by decide +kernel, by decide +kernel⟩, List.mem_of_getElem? (i := 13) (by decide +kernel), List.mem_of_getElem? (i := 358) (by decide +kernel), List.mem_of_getElem? (i := 359) (by decide +kernel)⟩
theorem lw_p9 : lw_okq (⟨"TouchSheet", "canSimplify", "(II)Z"⟩, 19) := ⟨⟨by decide +kernel, by decide +kernel⟩, List.mem_of_getElem? (i := 13) (by decide +kernel), List.mem_of_getElem? (i := 412) (by decide +kernel), List.mem_of_getElem? (i := 413) (by decide +kernel)⟩
theorem lw_p10 : lw_okq (⟨"TouchSheet$Simpler", "walk", "(I)I"⟩, 2) := ⟨⟨by decide +kernel, by decide +kernel⟩, List.mem_of_getElem? (i := 39) (by decide +kernel), List.mem_of_getElem? (i := 426) (by decide +kernel), List.mem_of_getElem? (i := 427) (by decide +kernel)⟩
theorem lw_p11 : lw_okq (⟨"TouchSheet", "chosen", "()I"⟩, 19) := ⟨⟨by decide +kernel, by decide +kernel⟩, List.mem_of_getElem? (i := 13) (by decide +kernel), List.mem_of_getElem? (i := 445) (by decide +kernel), List.mem_of_getElem? (i := 446) (by decide +kernel)⟩
theorem lw_p12 : lw_okq (⟨"TouchSheet", "lookWhatIsNear", "()V"⟩, 19) := ⟨⟨by decide +kernel, by decide +kernel⟩, List.mem_of_getElem? (i := 13) (by decide +kernel), List.mem_of_getElem? (i := 449) (by decide +kernel), List.mem_of_getElem? (i := 450) (by decide +kernel)⟩
theorem lw_p13 : lw_okq (⟨"TouchSheet", "within", "(II)I"⟩, 19) := ⟨⟨by decide +kernel, by decide +kernel⟩, List.mem_of_getElem? (i := 13) (by decide +kernel), List.mem_of_getElem? (i := 453) (by decide +kernel), List.mem_of_getElem? (i := 454) (by decide +kernel)⟩
theorem lw_p14 : lw_okq (⟨"TouchSheet", "stack", "()V"⟩, 19) := ⟨⟨by decide +kernel, by decide +kernel⟩, List.mem_of_getElem? (i := 13) (by decide +kernel), List.mem_of_getElem? (i := 474) (by decide +kernel), List.mem_of_getElem? (i := 475) (by decide +kernel)⟩
theorem lw_p15 : lw_okq (⟨"TouchSheet$Stacker", "layOn", "(I[II)Z"⟩, 5) := ⟨⟨by decide +kernel, by decide +kernel⟩, List.mem_of_getElem? (i := 66) (by decide +kernel), List.mem_of_getElem? (i := 483) (by decide +kernel), List.mem_of_getElem? (i := 484) (by decide +kernel)⟩
def lw_privs_1 : List (MethodName × Nat) := [(⟨"TouchSheet", "canAdd", "(I)Z"⟩, 19), (⟨"TouchSheet", "finish", "(LTouchSheet$Shape;)I"⟩, 19), (⟨"TouchSheet$Shape", "drawLine", "()V"⟩, 6), (⟨"TouchSheet$Shape", "drawStep", "(IIII)V"⟩, 6), (⟨"TouchSheet$Shape", "drawGround", "()V"⟩, 6), (⟨"TouchSheet$Shape", "drawMark", "()V"⟩, 6), (⟨"TouchSheet", "measure", "(I)V"⟩, 19), (⟨"TouchSheet", "forgetAnswers", "()V"⟩, 19), (⟨"TouchSheet", "isShape", "(I)Z"⟩, 19), (⟨"TouchSheet", "canSimplify", "(II)Z"⟩, 19), (⟨"TouchSheet$Simpler", "walk", "(I)I"⟩, 2), (⟨"TouchSheet", "chosen", "()I"⟩, 19), (⟨"TouchSheet", "lookWhatIsNear", "()V"⟩, 19), (⟨"TouchSheet", "within", "(II)I"⟩, 19), (⟨"TouchSheet", "stack", "()V"⟩, 19), (⟨"TouchSheet$Stacker", "layOn", "(I[II)Z"⟩, 5)]
theorem lw_r1 : ∀ q ∈ lw_privs_1, lw_okq q := List.forall_mem_cons.mpr ⟨lw_p0, List.forall_mem_cons.mpr ⟨lw_p1, List.forall_mem_cons.mpr ⟨lw_p2, List.forall_mem_cons.mpr ⟨lw_p3, List.forall_mem_cons.mpr ⟨lw_p4, List.forall_mem_cons.mpr ⟨lw_p5, List.forall_mem_cons.mpr ⟨lw_p6, List.forall_mem_cons.mpr ⟨lw_p7, List.forall_mem_cons.mpr ⟨lw_p8, List.forall_mem_cons.mpr ⟨lw_p9, List.forall_mem_cons.mpr ⟨lw_p10, List.forall_mem_cons.mpr ⟨lw_p11, List.forall_mem_cons.mpr ⟨lw_p12, List.forall_mem_cons.mpr ⟨lw_p13, List.forall_mem_cons.mpr ⟨lw_p14, List.forall_mem_cons.mpr ⟨lw_p15, fun _ h => absurd h List.not_mem_nil⟩⟩⟩⟩⟩⟩⟩⟩⟩⟩⟩⟩⟩⟩⟩⟩
theorem lw_p16 : lw_okq (⟨"TouchSheet$Stacker", "place", "(III[II)Z"⟩, 5) := ⟨⟨by decide +kernel, by decide +kernel⟩, List.mem_of_getElem? (i := 66) (by decide +kernel), List.mem_of_getElem? (i := 487) (by decide +kernel), List.mem_of_getElem? (i := 488) (by decide +kernel)⟩
theorem lw_p17 : lw_okq (⟨"TouchSheet", "weave", "()V"⟩, 19) := ⟨⟨by decide +kernel, by decide +kernel⟩, List.mem_of_getElem? (i := 13) (by decide +kernel), List.mem_of_getElem? (i := 500) (by decide +kernel), List.mem_of_getElem? (i := 501) (by decide +kernel)⟩
theorem lw_p18 : lw_okq (⟨"TouchSheet", "groundSet", "()I"⟩, 19) := ⟨⟨by decide +kernel, by decide +kernel⟩, List.mem_of_getElem? (i := 13) (by decide +kernel), List.mem_of_getElem? (i := 504) (by decide +kernel), List.mem_of_getElem? (i := 505) (by decide +kernel)⟩
theorem lw_p19 : lw_okq (⟨"TouchSheet$Weaver", "rankTextures", "()V"⟩, 9) := ⟨⟨by decide +kernel, by decide +kernel⟩, List.mem_of_getElem? (i := 90) (by decide +kernel), List.mem_of_getElem? (i := 512) (by decide +kernel), List.mem_of_getElem? (i := 513) (by decide +kernel)⟩
theorem lw_p20 : lw_okq (⟨"TouchSheet$Weaver", "firstByPrice", "(I)I"⟩, 9) := ⟨⟨by decide +kernel, by decide +kernel⟩, List.mem_of_getElem? (i := 90) (by decide +kernel), List.mem_of_getElem? (i := 516) (by decide +kernel), List.mem_of_getElem? (i := 517) (by decide +kernel)⟩
theorem lw_p21 : lw_okq (⟨"TouchSheet$Weaver", "leastBelow", "(JII)J"⟩, 9) := ⟨⟨by decide +kernel, by decide +kernel⟩, List.mem_of_getElem? (i := 90) (by decide +kernel), List.mem_of_getElem? (i := 522) (by decide +kernel), List.mem_of_getElem? (i := 523) (by decide +kernel)⟩
theorem lw_p22 : lw_okq (⟨"TouchSheet$Weaver", "cheapestWeight", "(I[I)J"⟩, 9) := ⟨⟨by decide +kernel, by decide +kernel⟩, List.mem_of_getElem? (i := 90) (by decide +kernel), List.mem_of_getElem? (i := 526) (by decide +kernel), List.mem_of_getElem? (i := 527) (by decide +kernel)⟩
theorem lw_p23 : lw_okq (⟨"TouchSheet$Weaver", "weight", "(II)J"⟩, 9) := ⟨⟨by decide +kernel, by decide +kernel⟩, List.mem_of_getElem? (i := 90) (by decide +kernel), List.mem_of_getElem? (i := 530) (by decide +kernel), List.mem_of_getElem? (i := 531) (by decide +kernel)⟩
theorem lw_p24 : lw_okq (⟨"TouchSheet$Weaver", "clashing", "(I[I)I"⟩, 9) := ⟨⟨by decide +kernel, by decide +kernel⟩, List.mem_of_getElem? (i := 90) (by decide +kernel), List.mem_of_getElem? (i := 537) (by decide +kernel), List.mem_of_getElem? (i := 538) (by decide +kernel)⟩
theorem lw_p25 : lw_okq (⟨"TouchSheet$Weaver", "listTakers", "(I[I)V"⟩, 9) := ⟨⟨by decide +kernel, by decide +kernel⟩, List.mem_of_getElem? (i := 90) (by decide +kernel), List.mem_of_getElem? (i := 541) (by decide +kernel), List.mem_of_getElem? (i := 542) (by decide +kernel)⟩
theorem lw_p26 : lw_okq (⟨"TouchSheet$Weaver", "clashWith", "(I)I"⟩, 9) := ⟨⟨by decide +kernel, by decide +kernel⟩, List.mem_of_getElem? (i := 90) (by decide +kernel), List.mem_of_getElem? (i := 545) (by decide +kernel), List.mem_of_getElem? (i := 546) (by decide +kernel)⟩
theorem lw_p27 : lw_okq (⟨"TouchSheet$Weaver", "groupOf", "(II)I"⟩, 9) := ⟨⟨by decide +kernel, by decide +kernel⟩, List.mem_of_getElem? (i := 90) (by decide +kernel), List.mem_of_getElem? (i := 550) (by decide +kernel), List.mem_of_getElem? (i := 551) (by decide +kernel)⟩
theorem lw_p28 : lw_okq (⟨"TouchSheet$Weaver", "tryEach", "(JIII)J"⟩, 9) := ⟨⟨by decide +kernel, by decide +kernel⟩, List.mem_of_getElem? (i := 90) (by decide +kernel), List.mem_of_getElem? (i := 554) (by decide +kernel), List.mem_of_getElem? (i := 555) (by decide +kernel)⟩
theorem lw_p29 : lw_okq (⟨"TouchSheet$Weaver", "give", "(IIII)V"⟩, 9) := ⟨⟨by decide +kernel, by decide +kernel⟩, List.mem_of_getElem? (i := 90) (by decide +kernel), List.mem_of_getElem? (i := 558) (by decide +kernel), List.mem_of_getElem? (i := 559) (by decide +kernel)⟩
theorem lw_p30 : lw_okq (⟨"TouchSheet", "press", "(LTouchSheet$Shape;I)V"⟩, 19) := ⟨⟨by decide +kernel, by decide +kernel⟩, List.mem_of_getElem? (i := 13) (by decide +kernel), List.mem_of_getElem? (i := 579) (by decide +kernel), List.mem_of_getElem? (i := 580) (by decide +kernel)⟩
theorem lw_p31 : lw_okq (⟨"TouchSheet$Finger", "gather", "(II)V"⟩, 4) := ⟨⟨by decide +kernel, by decide +kernel⟩, List.mem_of_getElem? (i := 128) (by decide +kernel), List.mem_of_getElem? (i := 599) (by decide +kernel), List.mem_of_getElem? (i := 600) (by decide +kernel)⟩
def lw_privs_2 : List (MethodName × Nat) := [(⟨"TouchSheet$Stacker", "place", "(III[II)Z"⟩, 5), (⟨"TouchSheet", "weave", "()V"⟩, 19), (⟨"TouchSheet", "groundSet", "()I"⟩, 19), (⟨"TouchSheet$Weaver", "rankTextures", "()V"⟩, 9), (⟨"TouchSheet$Weaver", "firstByPrice", "(I)I"⟩, 9), (⟨"TouchSheet$Weaver", "leastBelow", "(JII)J"⟩, 9), (⟨"TouchSheet$Weaver", "cheapestWeight", "(I[I)J"⟩, 9), (⟨"TouchSheet$Weaver", "weight", "(II)J"⟩, 9), (⟨"TouchSheet$Weaver", "clashing", "(I[I)I"⟩, 9), (⟨"TouchSheet$Weaver", "listTakers", "(I[I)V"⟩, 9), (⟨"TouchSheet$Weaver", "clashWith", "(I)I"⟩, 9), (⟨"TouchSheet$Weaver", "groupOf", "(II)I"⟩, 9), (⟨"TouchSheet$Weaver", "tryEach", "(JIII)J"⟩, 9), (⟨"TouchSheet$Weaver", "give", "(IIII)V"⟩, 9), (⟨"TouchSheet", "press", "(LTouchSheet$Shape;I)V"⟩, 19), (⟨"TouchSheet$Finger", "gather", "(II)V"⟩, 4)]
theorem lw_r2 : ∀ q ∈ lw_privs_2, lw_okq q := List.forall_mem_cons.mpr ⟨lw_p16, List.forall_mem_cons.mpr ⟨lw_p17, List.forall_mem_cons.mpr ⟨lw_p18, List.forall_mem_cons.mpr ⟨lw_p19, List.forall_mem_cons.mpr ⟨lw_p20, List.forall_mem_cons.mpr ⟨lw_p21, List.forall_mem_cons.mpr ⟨lw_p22, List.forall_mem_cons.mpr ⟨lw_p23, List.forall_mem_cons.mpr ⟨lw_p24, List.forall_mem_cons.mpr ⟨lw_p25, List.forall_mem_cons.mpr ⟨lw_p26, List.forall_mem_cons.mpr ⟨lw_p27, List.forall_mem_cons.mpr ⟨lw_p28, List.forall_mem_cons.mpr ⟨lw_p29, List.forall_mem_cons.mpr ⟨lw_p30, List.forall_mem_cons.mpr ⟨lw_p31, fun _ h => absurd h List.not_mem_nil⟩⟩⟩⟩⟩⟩⟩⟩⟩⟩⟩⟩⟩⟩⟩⟩
theorem lw_p32 : lw_okq (⟨"TouchSheet$Finger", "describe", "([I)V"⟩, 4) := ⟨⟨by decide +kernel, by decide +kernel⟩, List.mem_of_getElem? (i := 128) (by decide +kernel), List.mem_of_getElem? (i := 611) (by decide +kernel), List.mem_of_getElem? (i := 612) (by decide +kernel)⟩
theorem lw_p33 : lw_okq (⟨"TouchSheetModel", "canCome", "(I)Z"⟩, 26) := ⟨⟨by decide +kernel, by decide +kernel⟩, List.mem_of_getElem? (i := 641) (by decide +kernel), List.mem_of_getElem? (i := 741) (by decide +kernel), List.mem_of_getElem? (i := 742) (by decide +kernel)⟩
theorem lw_p34 : lw_okq (⟨"TouchSheetModel", "comes", "(III)I"⟩, 26) := ⟨⟨by decide +kernel, by decide +kernel⟩, List.mem_of_getElem? (i := 641) (by decide +kernel), List.mem_of_getElem? (i := 745) (by decide +kernel), List.mem_of_getElem? (i := 746) (by decide +kernel)⟩
theorem lw_p35 : lw_okq (⟨"TouchSheetModel", "draws", "(I)V"⟩, 26) := ⟨⟨by decide +kernel, by decide +kernel⟩, List.mem_of_getElem? (i := 641) (by decide +kernel), List.mem_of_getElem? (i := 749) (by decide +kernel), List.mem_of_getElem? (i := 750) (by decide +kernel)⟩
theorem lw_p36 : lw_okq (⟨"TouchSheetModel", "puts", "(III)V"⟩, 26) := ⟨⟨by decide +kernel, by decide +kernel⟩, List.mem_of_getElem? (i := 641) (by decide +kernel), List.mem_of_getElem? (i := 753) (by decide +kernel), List.mem_of_getElem? (i := 754) (by decide +kernel)⟩
theorem lw_p37 : lw_okq (⟨"TouchSheetModel", "steps", "(IIIII)V"⟩, 26) := ⟨⟨by decide +kernel, by decide +kernel⟩, List.mem_of_getElem? (i := 641) (by decide +kernel), List.mem_of_getElem? (i := 757) (by decide +kernel), List.mem_of_getElem? (i := 758) (by decide +kernel)⟩
theorem lw_p38 : lw_okq (⟨"TouchSheetModel", "isShape", "(I)Z"⟩, 26) := ⟨⟨by decide +kernel, by decide +kernel⟩, List.mem_of_getElem? (i := 641) (by decide +kernel), List.mem_of_getElem? (i := 787) (by decide +kernel), List.mem_of_getElem? (i := 788) (by decide +kernel)⟩
theorem lw_p39 : lw_okq (⟨"TouchSheetModel", "has", "(III)Z"⟩, 26) := ⟨⟨by decide +kernel, by decide +kernel⟩, List.mem_of_getElem? (i := 641) (by decide +kernel), List.mem_of_getElem? (i := 806) (by decide +kernel), List.mem_of_getElem? (i := 807) (by decide +kernel)⟩
theorem lw_p40 : lw_okq (⟨"TouchSheetModel", "farOf", "(II)I"⟩, 26) := ⟨⟨by decide +kernel, by decide +kernel⟩, List.mem_of_getElem? (i := 641) (by decide +kernel), List.mem_of_getElem? (i := 822) (by decide +kernel), List.mem_of_getElem? (i := 823) (by decide +kernel)⟩
theorem lw_p41 : lw_okq (⟨"TouchSheetModel", "isLine", "(II)Z"⟩, 26) := ⟨⟨by decide +kernel, by decide +kernel⟩, List.mem_of_getElem? (i := 641) (by decide +kernel), List.mem_of_getElem? (i := 830) (by decide +kernel), List.mem_of_getElem? (i := 831) (by decide +kernel)⟩
theorem lw_p42 : lw_okq (⟨"TouchSheetModel", "simpler", "(II)I"⟩, 26) := ⟨⟨by decide +kernel, by decide +kernel⟩, List.mem_of_getElem? (i := 641) (by decide +kernel), List.mem_of_getElem? (i := 834) (by decide +kernel), List.mem_of_getElem? (i := 835) (by decide +kernel)⟩
theorem lw_p43 : lw_okq (⟨"TouchSheetModel", "keeps", "(III)Z"⟩, 26) := ⟨⟨by decide +kernel, by decide +kernel⟩, List.mem_of_getElem? (i := 641) (by decide +kernel), List.mem_of_getElem? (i := 838) (by decide +kernel), List.mem_of_getElem? (i := 839) (by decide +kernel)⟩
theorem lw_p44 : lw_okq (⟨"TouchSheetModel", "isStep", "(IIII)Z"⟩, 26) := ⟨⟨by decide +kernel, by decide +kernel⟩, List.mem_of_getElem? (i := 641) (by decide +kernel), List.mem_of_getElem? (i := 842) (by decide +kernel), List.mem_of_getElem? (i := 843) (by decide +kernel)⟩
theorem lw_p45 : lw_okq (⟨"TouchSheetModel", "isBy", "(IIIII)Z"⟩, 26) := ⟨⟨by decide +kernel, by decide +kernel⟩, List.mem_of_getElem? (i := 641) (by decide +kernel), List.mem_of_getElem? (i := 846) (by decide +kernel), List.mem_of_getElem? (i := 847) (by decide +kernel)⟩
theorem lw_p46 : lw_okq (⟨"TouchSheetModel", "nears", "()V"⟩, 26) := ⟨⟨by decide +kernel, by decide +kernel⟩, List.mem_of_getElem? (i := 641) (by decide +kernel), List.mem_of_getElem? (i := 864) (by decide +kernel), List.mem_of_getElem? (i := 865) (by decide +kernel)⟩
theorem lw_p47 : lw_okq (⟨"TouchSheetModel", "worthOf", "(I)I"⟩, 26) := ⟨⟨by decide +kernel, by decide +kernel⟩, List.mem_of_getElem? (i := 641) (by decide +kernel), List.mem_of_getElem? (i := 868) (by decide +kernel), List.mem_of_getElem? (i := 869) (by decide +kernel)⟩
def lw_privs_3 : List (MethodName × Nat) := [(⟨"TouchSheet$Finger", "describe", "([I)V"⟩, 4), (⟨"TouchSheetModel", "canCome", "(I)Z"⟩, 26), (⟨"TouchSheetModel", "comes", "(III)I"⟩, 26), (⟨"TouchSheetModel", "draws", "(I)V"⟩, 26), (⟨"TouchSheetModel", "puts", "(III)V"⟩, 26), (⟨"TouchSheetModel", "steps", "(IIIII)V"⟩, 26), (⟨"TouchSheetModel", "isShape", "(I)Z"⟩, 26), (⟨"TouchSheetModel", "has", "(III)Z"⟩, 26), (⟨"TouchSheetModel", "farOf", "(II)I"⟩, 26), (⟨"TouchSheetModel", "isLine", "(II)Z"⟩, 26), (⟨"TouchSheetModel", "simpler", "(II)I"⟩, 26), (⟨"TouchSheetModel", "keeps", "(III)Z"⟩, 26), (⟨"TouchSheetModel", "isStep", "(IIII)Z"⟩, 26), (⟨"TouchSheetModel", "isBy", "(IIIII)Z"⟩, 26), (⟨"TouchSheetModel", "nears", "()V"⟩, 26), (⟨"TouchSheetModel", "worthOf", "(I)I"⟩, 26)]
theorem lw_r3 : ∀ q ∈ lw_privs_3, lw_okq q := List.forall_mem_cons.mpr ⟨lw_p32, List.forall_mem_cons.mpr ⟨lw_p33, List.forall_mem_cons.mpr ⟨lw_p34, List.forall_mem_cons.mpr ⟨lw_p35, List.forall_mem_cons.mpr ⟨lw_p36, List.forall_mem_cons.mpr ⟨lw_p37, List.forall_mem_cons.mpr ⟨lw_p38, List.forall_mem_cons.mpr ⟨lw_p39, List.forall_mem_cons.mpr ⟨lw_p40, List.forall_mem_cons.mpr ⟨lw_p41, List.forall_mem_cons.mpr ⟨lw_p42, List.forall_mem_cons.mpr ⟨lw_p43, List.forall_mem_cons.mpr ⟨lw_p44, List.forall_mem_cons.mpr ⟨lw_p45, List.forall_mem_cons.mpr ⟨lw_p46, List.forall_mem_cons.mpr ⟨lw_p47, fun _ h => absurd h List.not_mem_nil⟩⟩⟩⟩⟩⟩⟩⟩⟩⟩⟩⟩⟩⟩⟩⟩
theorem lw_p48 : lw_okq (⟨"TouchSheetModel", "lays", "(I)Z"⟩, 26) := ⟨⟨by decide +kernel, by decide +kernel⟩, List.mem_of_getElem? (i := 641) (by decide +kernel), List.mem_of_getElem? (i := 881) (by decide +kernel), List.mem_of_getElem? (i := 882) (by decide +kernel)⟩
theorem lw_p49 : lw_okq (⟨"TouchSheetModel", "textured", "()V"⟩, 26) := ⟨⟨by decide +kernel, by decide +kernel⟩, List.mem_of_getElem? (i := 641) (by decide +kernel), List.mem_of_getElem? (i := 894) (by decide +kernel), List.mem_of_getElem? (i := 895) (by decide +kernel)⟩
theorem lw_p50 : lw_okq (⟨"TouchSheetModel", "textureOf", "(I)I"⟩, 26) := ⟨⟨by decide +kernel, by decide +kernel⟩, List.mem_of_getElem? (i := 641) (by decide +kernel), List.mem_of_getElem? (i := 902) (by decide +kernel), List.mem_of_getElem? (i := 903) (by decide +kernel)⟩
theorem lw_p51 : lw_okq (⟨"TouchSheetModel", "isUp", "(IIII)Z"⟩, 26) := ⟨⟨by decide +kernel, by decide +kernel⟩, List.mem_of_getElem? (i := 641) (by decide +kernel), List.mem_of_getElem? (i := 910) (by decide +kernel), List.mem_of_getElem? (i := 911) (by decide +kernel)⟩
theorem lw_p52 : lw_okq (⟨"TouchSheetModel", "feels", "()V"⟩, 26) := ⟨⟨by decide +kernel, by decide +kernel⟩, List.mem_of_getElem? (i := 641) (by decide +kernel), List.mem_of_getElem? (i := 922) (by decide +kernel), List.mem_of_getElem? (i := 923) (by decide +kernel)⟩
theorem lw_p53 : lw_okq (⟨"TouchSheetModel", "beside", "(I)I"⟩, 26) := ⟨⟨by decide +kernel, by decide +kernel⟩, List.mem_of_getElem? (i := 641) (by decide +kernel), List.mem_of_getElem? (i := 930) (by decide +kernel), List.mem_of_getElem? (i := 931) (by decide +kernel)⟩
def lw_privs_4 : List (MethodName × Nat) := [(⟨"TouchSheetModel", "lays", "(I)Z"⟩, 26), (⟨"TouchSheetModel", "textured", "()V"⟩, 26), (⟨"TouchSheetModel", "textureOf", "(I)I"⟩, 26), (⟨"TouchSheetModel", "isUp", "(IIII)Z"⟩, 26), (⟨"TouchSheetModel", "feels", "()V"⟩, 26), (⟨"TouchSheetModel", "beside", "(I)I"⟩, 26)]
theorem lw_r4 : ∀ q ∈ lw_privs_4, lw_okq q := List.forall_mem_cons.mpr ⟨lw_p48, List.forall_mem_cons.mpr ⟨lw_p49, List.forall_mem_cons.mpr ⟨lw_p50, List.forall_mem_cons.mpr ⟨lw_p51, List.forall_mem_cons.mpr ⟨lw_p52, List.forall_mem_cons.mpr ⟨lw_p53, fun _ h => absurd h List.not_mem_nil⟩⟩⟩⟩⟩⟩
def lw_privs : List (MethodName × Nat) := lw_privs_1 ++ (lw_privs_2 ++ (lw_privs_3 ++ (lw_privs_4)))
def lw_tbl : List Cond := k2_sels lw_privs ++ tables_1
theorem lw_privs_ok : ∀ q ∈ lw_privs, lw_okq q := by
  show ∀ q ∈ lw_privs_1 ++ (lw_privs_2 ++ (lw_privs_3 ++ (lw_privs_4))), lw_okq q
  exact List.forall_mem_append.mpr ⟨lw_r1, List.forall_mem_append.mpr ⟨lw_r2, List.forall_mem_append.mpr ⟨lw_r3, lw_r4⟩⟩⟩
end
section
def RX0 : String := "TouchSheet$Finger"
def TX0 : u_T := fun k => match k with
  | 0 => ("TouchSheet$Finger", "left", "LTouchSheet$Pins;", true)
  | 1 => ("TouchSheet$Finger", "held", "LTouchSheet$Pins;", true)
  | 2 => ("TouchSheet$Finger", "facts", "[[I", true)
  | _ => ("TouchSheet$Finger", "found", "I", false)
def tyX0 : Nat → FieldType := fun k => match k with
  | 0 => .object "TouchSheet$Pins"
  | 1 => .object "TouchSheet$Pins"
  | 2 => .array (.array .int)
  | _ => .int
abbrev wsX00 : List Cond := u_ws RX0 TX0 4
theorem nmX0 : ∀ a, a < 4 → ∀ b, b < 4 → a ≠ b → (TX0 a).2.1 ≠ (TX0 b).2.1 := by decide +kernel
theorem tyX0_ok : ∀ k, k < 4 → parseFieldDescriptor (TX0 k).2.2.1 = some (tyX0 k) := by decide +kernel
abbrev cX0_init : ByteArray := prog_2_method_1_code
def yX0_init : MethodName := ⟨RX0, "<init>", "()V"⟩
abbrev cX0_feel : ByteArray := prog_2_method_2_code
def yX0_feel : MethodName := ⟨RX0, "feel", "(LTouchSheet$Pins;)V"⟩
abbrev cX0_gather : ByteArray := prog_2_method_3_code
def yX0_gather : MethodName := ⟨RX0, "gather", "(II)V"⟩
abbrev cX0_describe : ByteArray := prog_2_method_4_code
def yX0_describe : MethodName := ⟨RX0, "describe", "([I)V"⟩
def RX1 : String := "TouchSheet$Keeper"
def TX1 : u_T := fun k => match k with
  | 0 => ("TouchSheet$Keeper", "weights", "[I", true)
  | _ => ("TouchSheet$Keeper", "keptSet", "I", false)
def tyX1 : Nat → FieldType := fun k => match k with
  | 0 => .array .int
  | _ => .int
abbrev wsX10 : List Cond := u_ws RX1 TX1 2
theorem nmX1 : ∀ a, a < 2 → ∀ b, b < 2 → a ≠ b → (TX1 a).2.1 ≠ (TX1 b).2.1 := by decide +kernel
theorem tyX1_ok : ∀ k, k < 2 → parseFieldDescriptor (TX1 k).2.2.1 = some (tyX1 k) := by decide +kernel
abbrev cX1_init : ByteArray := prog_3_method_1_code
def yX1_init : MethodName := ⟨RX1, "<init>", "()V"⟩
abbrev cX1_choose : ByteArray := prog_3_method_2_code
def yX1_choose : MethodName := ⟨RX1, "choose", "([LTouchSheet$Shape;[II)V"⟩
def RX2 : String := "TouchSheet$Pins"
def TX2 : u_T := fun k => match k with
  | _ => ("TouchSheet$Pins", "rows", "[I", true)
def tyX2 : Nat → FieldType := fun k => match k with
  | _ => .array .int
abbrev wsX20 : List Cond := u_ws RX2 TX2 1
theorem nmX2 : ∀ a, a < 1 → ∀ b, b < 1 → a ≠ b → (TX2 a).2.1 ≠ (TX2 b).2.1 := by decide +kernel
theorem tyX2_ok : ∀ k, k < 1 → parseFieldDescriptor (TX2 k).2.2.1 = some (tyX2 k) := by decide +kernel
abbrev cX2_init : ByteArray := prog_4_method_1_code
def yX2_init : MethodName := ⟨RX2, "<init>", "()V"⟩
abbrev cX2_clear : ByteArray := prog_4_method_2_code
def yX2_clear : MethodName := ⟨RX2, "clear", "()V"⟩
abbrev cX2_copy : ByteArray := prog_4_method_3_code
def yX2_copy : MethodName := ⟨RX2, "copy", "(LTouchSheet$Pins;)V"⟩
abbrev cX2_join : ByteArray := prog_4_method_4_code
def yX2_join : MethodName := ⟨RX2, "join", "(LTouchSheet$Pins;)V"⟩
abbrev cX2_drop : ByteArray := prog_4_method_5_code
def yX2_drop : MethodName := ⟨RX2, "drop", "(LTouchSheet$Pins;)V"⟩
abbrev cX2_keepOnly : ByteArray := prog_4_method_6_code
def yX2_keepOnly : MethodName := ⟨RX2, "keepOnly", "(LTouchSheet$Pins;)V"⟩
abbrev cX2_raise : ByteArray := prog_4_method_7_code
def yX2_raise : MethodName := ⟨RX2, "raise", "(II)V"⟩
abbrev cX2_holds : ByteArray := prog_4_method_8_code
def yX2_holds : MethodName := ⟨RX2, "holds", "(II)Z"⟩
abbrev cX2_size : ByteArray := prog_4_method_9_code
def yX2_size : MethodName := ⟨RX2, "size", "()I"⟩
abbrev cX2_touch : ByteArray := prog_4_method_10_code
def yX2_touch : MethodName := ⟨RX2, "touch", "(LTouchSheet$Pins;)Z"⟩
abbrev cX2_swell : ByteArray := prog_4_method_11_code
def yX2_swell : MethodName := ⟨RX2, "swell", "()V"⟩
abbrev cX2_widened : ByteArray := prog_4_method_12_code
def yX2_widened : MethodName := ⟨RX2, "widened", "(I)I"⟩
abbrev cX2_countBeside : ByteArray := prog_4_method_13_code
def yX2_countBeside : MethodName := ⟨RX2, "countBeside", "(II)I"⟩
def RX3 : String := "TouchSheet$Shape"
def TX3 : u_T := fun k => match k with
  | 0 => ("TouchSheet$Shape", "kind", "I", false)
  | 1 => ("TouchSheet$Shape", "worth", "I", false)
  | 2 => ("TouchSheet$Shape", "places", "I", false)
  | 3 => ("TouchSheet$Shape", "xs", "[I", true)
  | 4 => ("TouchSheet$Shape", "ys", "[I", true)
  | _ => ("TouchSheet$Shape", "pins", "LTouchSheet$Pins;", true)
def tyX3 : Nat → FieldType := fun k => match k with
  | 0 => .int
  | 1 => .int
  | 2 => .int
  | 3 => .array .int
  | 4 => .array .int
  | _ => .object "TouchSheet$Pins"
abbrev wsX30 : List Cond := u_ws RX3 TX3 6
theorem nmX3 : ∀ a, a < 6 → ∀ b, b < 6 → a ≠ b → (TX3 a).2.1 ≠ (TX3 b).2.1 := by decide +kernel
theorem tyX3_ok : ∀ k, k < 6 → parseFieldDescriptor (TX3 k).2.2.1 = some (tyX3 k) := by decide +kernel
abbrev cX3_init : ByteArray := prog_5_method_1_code
def yX3_init : MethodName := ⟨RX3, "<init>", "()V"⟩
abbrev cX3_begin : ByteArray := prog_5_method_2_code
def yX3_begin : MethodName := ⟨RX3, "begin", "(II)V"⟩
abbrev cX3_addPlace : ByteArray := prog_5_method_3_code
def yX3_addPlace : MethodName := ⟨RX3, "addPlace", "(II)V"⟩
abbrev cX3_keepPlaces : ByteArray := prog_5_method_4_code
def yX3_keepPlaces : MethodName := ⟨RX3, "keepPlaces", "(I)V"⟩
abbrev cX3_coordinate : ByteArray := prog_5_method_5_code
def yX3_coordinate : MethodName := ⟨RX3, "coordinate", "(I)I"⟩
abbrev cX3_draw : ByteArray := prog_5_method_6_code
def yX3_draw : MethodName := ⟨RX3, "draw", "()V"⟩
abbrev cX3_drawLine : ByteArray := prog_5_method_7_code
def yX3_drawLine : MethodName := ⟨RX3, "drawLine", "()V"⟩
abbrev cX3_drawStep : ByteArray := prog_5_method_8_code
def yX3_drawStep : MethodName := ⟨RX3, "drawStep", "(IIII)V"⟩
abbrev cX3_drawGround : ByteArray := prog_5_method_9_code
def yX3_drawGround : MethodName := ⟨RX3, "drawGround", "()V"⟩
abbrev cX3_drawMark : ByteArray := prog_5_method_10_code
def yX3_drawMark : MethodName := ⟨RX3, "drawMark", "()V"⟩
def RX4 : String := "TouchSheet$Simpler"
def TX4 : u_T := fun k => match k with
  | 0 => ("TouchSheet$Simpler", "fewestFrom", "[I", true)
  | _ => ("TouchSheet$Simpler", "nextAfter", "[I", true)
def tyX4 : Nat → FieldType := fun k => match k with
  | 0 => .array .int
  | _ => .array .int
abbrev wsX40 : List Cond := u_ws RX4 TX4 2
theorem nmX4 : ∀ a, a < 2 → ∀ b, b < 2 → a ≠ b → (TX4 a).2.1 ≠ (TX4 b).2.1 := by decide +kernel
theorem tyX4_ok : ∀ k, k < 2 → parseFieldDescriptor (TX4 k).2.2.1 = some (tyX4 k) := by decide +kernel
abbrev cX4_init : ByteArray := prog_6_method_1_code
def yX4_init : MethodName := ⟨RX4, "<init>", "()V"⟩
abbrev cX4_fewest : ByteArray := prog_6_method_2_code
def yX4_fewest : MethodName := ⟨RX4, "fewest", "(LTouchSheet$Shape;I)I"⟩
abbrev cX4_walk : ByteArray := prog_6_method_3_code
def yX4_walk : MethodName := ⟨RX4, "walk", "(I)I"⟩
abbrev cX4_canStep : ByteArray := prog_6_method_4_code
def yX4_canStep : MethodName := ⟨RX4, "canStep", "(LTouchSheet$Shape;III)Z"⟩
abbrev cX4_isWithin : ByteArray := prog_6_method_5_code
def yX4_isWithin : MethodName := ⟨RX4, "isWithin", "(LTouchSheet$Shape;IIII)Z"⟩
def RX5 : String := "TouchSheet$Stacker"
def TX5 : u_T := fun k => match k with
  | 0 => ("TouchSheet$Stacker", "heldBy", "[I", true)
  | 1 => ("TouchSheet$Stacker", "notNear", "[I", true)
  | 2 => ("TouchSheet$Stacker", "ones", "[I", true)
  | 3 => ("TouchSheet$Stacker", "sheetOf", "[I", true)
  | _ => ("TouchSheet$Stacker", "sheetCount", "I", false)
def tyX5 : Nat → FieldType := fun k => match k with
  | 0 => .array .int
  | 1 => .array .int
  | 2 => .array .int
  | 3 => .array .int
  | _ => .int
abbrev wsX50 : List Cond := u_ws RX5 TX5 5
theorem nmX5 : ∀ a, a < 5 → ∀ b, b < 5 → a ≠ b → (TX5 a).2.1 ≠ (TX5 b).2.1 := by decide +kernel
theorem tyX5_ok : ∀ k, k < 5 → parseFieldDescriptor (TX5 k).2.2.1 = some (tyX5 k) := by decide +kernel
abbrev cX5_init : ByteArray := prog_7_method_1_code
def yX5_init : MethodName := ⟨RX5, "<init>", "()V"⟩
abbrev cX5_lay : ByteArray := prog_7_method_2_code
def yX5_lay : MethodName := ⟨RX5, "lay", "([II)V"⟩
abbrev cX5_layOn : ByteArray := prog_7_method_3_code
def yX5_layOn : MethodName := ⟨RX5, "layOn", "(I[II)Z"⟩
abbrev cX5_place : ByteArray := prog_7_method_4_code
def yX5_place : MethodName := ⟨RX5, "place", "(III[II)Z"⟩
def RX6 : String := "TouchSheet$Weaver"
def TX6 : u_T := fun k => match k with
  | 0 => ("TouchSheet$Weaver", "apartFrom", "[I", true)
  | 1 => ("TouchSheet$Weaver", "prices", "[I", true)
  | 2 => ("TouchSheet$Weaver", "neighbours", "[I", true)
  | 3 => ("TouchSheet$Weaver", "byPrice", "[I", true)
  | 4 => ("TouchSheet$Weaver", "cheapest", "[I", true)
  | 5 => ("TouchSheet$Weaver", "takers", "[I", true)
  | 6 => ("TouchSheet$Weaver", "open", "[[I", true)
  | 7 => ("TouchSheet$Weaver", "grounds", "I", false)
  | _ => ("TouchSheet$Weaver", "best", "J", false)
def tyX6 : Nat → FieldType := fun k => match k with
  | 0 => .array .int
  | 1 => .array .int
  | 2 => .array .int
  | 3 => .array .int
  | 4 => .array .int
  | 5 => .array .int
  | 6 => .array (.array .int)
  | 7 => .int
  | _ => .long
abbrev wsX60 : List Cond := u_ws RX6 TX6 9
theorem nmX6 : ∀ a, a < 9 → ∀ b, b < 9 → a ≠ b → (TX6 a).2.1 ≠ (TX6 b).2.1 := by decide +kernel
theorem tyX6_ok : ∀ k, k < 9 → parseFieldDescriptor (TX6 k).2.2.1 = some (tyX6 k) := by decide +kernel
abbrev cX6_init : ByteArray := prog_8_method_1_code
def yX6_init : MethodName := ⟨RX6, "<init>", "()V"⟩
abbrev cX6_giveTextures : ByteArray := prog_8_method_2_code
def yX6_giveTextures : MethodName := ⟨RX6, "giveTextures", "(I)V"⟩
abbrev cX6_textureOf : ByteArray := prog_8_method_3_code
def yX6_textureOf : MethodName := ⟨RX6, "textureOf", "(I)I"⟩
abbrev cX6_sumOfPrices : ByteArray := prog_8_method_4_code
def yX6_sumOfPrices : MethodName := ⟨RX6, "sumOfPrices", "()I"⟩
abbrev cX6_placeOf : ByteArray := prog_8_method_5_code
def yX6_placeOf : MethodName := ⟨RX6, "placeOf", "(I)I"⟩
abbrev cX6_weight : ByteArray := prog_8_method_6_code
def yX6_weight : MethodName := ⟨RX6, "weight", "(II)J"⟩
abbrev cX6_rankTextures : ByteArray := prog_8_method_7_code
def yX6_rankTextures : MethodName := ⟨RX6, "rankTextures", "()V"⟩
abbrev cX6_firstByPrice : ByteArray := prog_8_method_8_code
def yX6_firstByPrice : MethodName := ⟨RX6, "firstByPrice", "(I)I"⟩
abbrev cX6_leastBelow : ByteArray := prog_8_method_9_code
def yX6_leastBelow : MethodName := ⟨RX6, "leastBelow", "(JII)J"⟩
abbrev cX6_tryEach : ByteArray := prog_8_method_10_code
def yX6_tryEach : MethodName := ⟨RX6, "tryEach", "(JIII)J"⟩
abbrev cX6_give : ByteArray := prog_8_method_11_code
def yX6_give : MethodName := ⟨RX6, "give", "(IIII)V"⟩
abbrev cX6_groupOf : ByteArray := prog_8_method_12_code
def yX6_groupOf : MethodName := ⟨RX6, "groupOf", "(II)I"⟩
abbrev cX6_cheapestWeight : ByteArray := prog_8_method_13_code
def yX6_cheapestWeight : MethodName := ⟨RX6, "cheapestWeight", "(I[I)J"⟩
abbrev cX6_clashing : ByteArray := prog_8_method_14_code
def yX6_clashing : MethodName := ⟨RX6, "clashing", "(I[I)I"⟩
abbrev cX6_listTakers : ByteArray := prog_8_method_15_code
def yX6_listTakers : MethodName := ⟨RX6, "listTakers", "(I[I)V"⟩
abbrev cX6_clashWith : ByteArray := prog_8_method_16_code
def yX6_clashWith : MethodName := ⟨RX6, "clashWith", "(I)I"⟩
def RX7 : String := "TouchSheet"
def TX7 : u_T := fun k => match k with
  | 0 => ("TouchSheet", "shapes", "[LTouchSheet$Shape;", true)
  | 1 => ("TouchSheet", "count", "I", false)
  | 2 => ("TouchSheet", "waitingX", "[I", true)
  | 3 => ("TouchSheet", "waitingY", "[I", true)
  | 4 => ("TouchSheet", "waiting", "I", false)
  | 5 => ("TouchSheet", "leastGap", "I", false)
  | 6 => ("TouchSheet", "meets", "[I", true)
  | 7 => ("TouchSheet", "distance", "[[I", true)
  | 8 => ("TouchSheet", "swelling", "LTouchSheet$Pins;", true)
  | 9 => ("TouchSheet", "simpler", "LTouchSheet$Simpler;", true)
  | 10 => ("TouchSheet", "keeper", "LTouchSheet$Keeper;", true)
  | 11 => ("TouchSheet", "stacker", "LTouchSheet$Stacker;", true)
  | 12 => ("TouchSheet", "weaver", "LTouchSheet$Weaver;", true)
  | 13 => ("TouchSheet", "near", "[I", true)
  | 14 => ("TouchSheet", "keeperKnows", "Z", false)
  | 15 => ("TouchSheet", "stackerKnows", "Z", false)
  | 16 => ("TouchSheet", "weaverKnows", "Z", false)
  | 17 => ("TouchSheet", "printed", "LTouchSheet$Pins;", true)
  | _ => ("TouchSheet", "finger", "LTouchSheet$Finger;", true)
def tyX7 : Nat → FieldType := fun k => match k with
  | 0 => .array (.object "TouchSheet$Shape")
  | 1 => .int
  | 2 => .array .int
  | 3 => .array .int
  | 4 => .int
  | 5 => .int
  | 6 => .array .int
  | 7 => .array (.array .int)
  | 8 => .object "TouchSheet$Pins"
  | 9 => .object "TouchSheet$Simpler"
  | 10 => .object "TouchSheet$Keeper"
  | 11 => .object "TouchSheet$Stacker"
  | 12 => .object "TouchSheet$Weaver"
  | 13 => .array .int
  | 14 => .boolean
  | 15 => .boolean
  | 16 => .boolean
  | 17 => .object "TouchSheet$Pins"
  | _ => .object "TouchSheet$Finger"
abbrev wsX70 : List Cond := u_ws RX7 TX7 19
theorem nmX7 : ∀ a, a < 19 → ∀ b, b < 19 → a ≠ b → (TX7 a).2.1 ≠ (TX7 b).2.1 := by decide +kernel
theorem tyX7_ok : ∀ k, k < 19 → parseFieldDescriptor (TX7 k).2.2.1 = some (tyX7 k) := by decide +kernel
abbrev cX7_init : ByteArray := prog_1_method_1_code
def yX7_init : MethodName := ⟨RX7, "<init>", "()V"⟩
abbrev cX7_corner : ByteArray := prog_1_method_2_code
def yX7_corner : MethodName := ⟨RX7, "corner", "(II)I"⟩
abbrev cX7_line : ByteArray := prog_1_method_3_code
def yX7_line : MethodName := ⟨RX7, "line", "(I)I"⟩
abbrev cX7_ground : ByteArray := prog_1_method_4_code
def yX7_ground : MethodName := ⟨RX7, "ground", "(IIIII)I"⟩
abbrev cX7_mark : ByteArray := prog_1_method_5_code
def yX7_mark : MethodName := ⟨RX7, "mark", "(III)I"⟩
abbrev cX7_undo : ByteArray := prog_1_method_6_code
def yX7_undo : MethodName := ⟨RX7, "undo", "()Z"⟩
abbrev cX7_gap : ByteArray := prog_1_method_7_code
def yX7_gap : MethodName := ⟨RX7, "gap", "(I)Z"⟩
abbrev cX7_meet : ByteArray := prog_1_method_8_code
def yX7_meet : MethodName := ⟨RX7, "meet", "(IIZ)Z"⟩
abbrev cX7_apart : ByteArray := prog_1_method_9_code
def yX7_apart : MethodName := ⟨RX7, "apart", "(IIZ)Z"⟩
abbrev cX7_price : ByteArray := prog_1_method_10_code
def yX7_price : MethodName := ⟨RX7, "price", "(II)Z"⟩
abbrev cX7_look : ByteArray := prog_1_method_11_code
def yX7_look : MethodName := ⟨RX7, "look", "(I)I"⟩
abbrev cX7_of : ByteArray := prog_1_method_12_code
def yX7_of : MethodName := ⟨RX7, "of", "(II)I"⟩
abbrev cX7_pin : ByteArray := prog_1_method_13_code
def yX7_pin : MethodName := ⟨RX7, "pin", "(III)I"⟩
abbrev cX7_far : ByteArray := prog_1_method_14_code
def yX7_far : MethodName := ⟨RX7, "far", "(II)I"⟩
abbrev cX7_simple : ByteArray := prog_1_method_15_code
def yX7_simple : MethodName := ⟨RX7, "simple", "(III)I"⟩
abbrev cX7_simplify : ByteArray := prog_1_method_16_code
def yX7_simplify : MethodName := ⟨RX7, "simplify", "(II)I"⟩
abbrev cX7_kept : ByteArray := prog_1_method_17_code
def yX7_kept : MethodName := ⟨RX7, "kept", "()I"⟩
abbrev cX7_loss : ByteArray := prog_1_method_18_code
def yX7_loss : MethodName := ⟨RX7, "loss", "()I"⟩
abbrev cX7_sheets : ByteArray := prog_1_method_19_code
def yX7_sheets : MethodName := ⟨RX7, "sheets", "()I"⟩
abbrev cX7_sheet : ByteArray := prog_1_method_20_code
def yX7_sheet : MethodName := ⟨RX7, "sheet", "(I)I"⟩
abbrev cX7_texture : ByteArray := prog_1_method_21_code
def yX7_texture : MethodName := ⟨RX7, "texture", "(I)I"⟩
abbrev cX7_cost : ByteArray := prog_1_method_22_code
def yX7_cost : MethodName := ⟨RX7, "cost", "()I"⟩
abbrev cX7_print : ByteArray := prog_1_method_23_code
def yX7_print : MethodName := ⟨RX7, "print", "(I)I"⟩
abbrev cX7_up : ByteArray := prog_1_method_24_code
def yX7_up : MethodName := ⟨RX7, "up", "(II)I"⟩
abbrev cX7_things : ByteArray := prog_1_method_25_code
def yX7_things : MethodName := ⟨RX7, "things", "()I"⟩
abbrev cX7_thing : ByteArray := prog_1_method_26_code
def yX7_thing : MethodName := ⟨RX7, "thing", "(II)I"⟩
abbrev cX7_isPin : ByteArray := prog_1_method_27_code
def yX7_isPin : MethodName := ⟨RX7, "isPin", "(II)Z"⟩
abbrev cX7_isTexture : ByteArray := prog_1_method_28_code
def yX7_isTexture : MethodName := ⟨RX7, "isTexture", "(I)Z"⟩
abbrev cX7_has : ByteArray := prog_1_method_29_code
def yX7_has : MethodName := ⟨RX7, "has", "(II)Z"⟩
abbrev cX7_isShape : ByteArray := prog_1_method_30_code
def yX7_isShape : MethodName := ⟨RX7, "isShape", "(I)Z"⟩
abbrev cX7_canAdd : ByteArray := prog_1_method_31_code
def yX7_canAdd : MethodName := ⟨RX7, "canAdd", "(I)Z"⟩
abbrev cX7_canSimplify : ByteArray := prog_1_method_32_code
def yX7_canSimplify : MethodName := ⟨RX7, "canSimplify", "(II)Z"⟩
abbrev cX7_finish : ByteArray := prog_1_method_33_code
def yX7_finish : MethodName := ⟨RX7, "finish", "(LTouchSheet$Shape;)I"⟩
abbrev cX7_forgetAnswers : ByteArray := prog_1_method_34_code
def yX7_forgetAnswers : MethodName := ⟨RX7, "forgetAnswers", "()V"⟩
abbrev cX7_measure : ByteArray := prog_1_method_35_code
def yX7_measure : MethodName := ⟨RX7, "measure", "(I)V"⟩
abbrev cX7_lookWhatIsNear : ByteArray := prog_1_method_36_code
def yX7_lookWhatIsNear : MethodName := ⟨RX7, "lookWhatIsNear", "()V"⟩
abbrev cX7_within : ByteArray := prog_1_method_37_code
def yX7_within : MethodName := ⟨RX7, "within", "(II)I"⟩
abbrev cX7_chosen : ByteArray := prog_1_method_38_code
def yX7_chosen : MethodName := ⟨RX7, "chosen", "()I"⟩
abbrev cX7_stack : ByteArray := prog_1_method_39_code
def yX7_stack : MethodName := ⟨RX7, "stack", "()V"⟩
abbrev cX7_weave : ByteArray := prog_1_method_40_code
def yX7_weave : MethodName := ⟨RX7, "weave", "()V"⟩
abbrev cX7_groundSet : ByteArray := prog_1_method_41_code
def yX7_groundSet : MethodName := ⟨RX7, "groundSet", "()I"⟩
abbrev cX7_press : ByteArray := prog_1_method_42_code
def yX7_press : MethodName := ⟨RX7, "press", "(LTouchSheet$Shape;I)V"⟩
abbrev cX7_rowOfTexture : ByteArray := prog_1_method_43_code
def yX7_rowOfTexture : MethodName := ⟨RX7, "rowOfTexture", "(II)I"⟩
abbrev cX7_heaviest : ByteArray := prog_1_method_44_code
def yX7_heaviest : MethodName := ⟨RX7, "heaviest", "(II[I[I)I"⟩
def RX8 : String := "TouchSheetModel"
def TX8 : u_T := fun k => match k with
  | 0 => ("TouchSheetModel", "shapes", "I", false)
  | 1 => ("TouchSheetModel", "waiting", "I", false)
  | 2 => ("TouchSheetModel", "gap", "I", false)
  | 3 => ("TouchSheetModel", "waitX", "[I", true)
  | 4 => ("TouchSheetModel", "waitY", "[I", true)
  | 5 => ("TouchSheetModel", "kind", "[I", true)
  | 6 => ("TouchSheetModel", "worth", "[I", true)
  | 7 => ("TouchSheetModel", "corners", "[I", true)
  | 8 => ("TouchSheetModel", "x", "[I", true)
  | 9 => ("TouchSheetModel", "y", "[I", true)
  | 10 => ("TouchSheetModel", "pin", "[Z", true)
  | 11 => ("TouchSheetModel", "meets", "[Z", true)
  | 12 => ("TouchSheetModel", "apart", "[Z", true)
  | 13 => ("TouchSheetModel", "price", "[I", true)
  | 14 => ("TouchSheetModel", "near", "[I", true)
  | 15 => ("TouchSheetModel", "onSheet", "[I", true)
  | 16 => ("TouchSheetModel", "grounds", "[I", true)
  | 17 => ("TouchSheetModel", "tries", "[I", true)
  | 18 => ("TouchSheetModel", "textures", "[I", true)
  | 19 => ("TouchSheetModel", "beside", "[I", true)
  | 20 => ("TouchSheetModel", "groundMany", "I", false)
  | 21 => ("TouchSheetModel", "best", "I", false)
  | 22 => ("TouchSheetModel", "up", "[Z", true)
  | 23 => ("TouchSheetModel", "thing", "[I", true)
  | 24 => ("TouchSheetModel", "row", "[I", true)
  | _ => ("TouchSheetModel", "things", "I", false)
def tyX8 : Nat → FieldType := fun k => match k with
  | 0 => .int
  | 1 => .int
  | 2 => .int
  | 3 => .array .int
  | 4 => .array .int
  | 5 => .array .int
  | 6 => .array .int
  | 7 => .array .int
  | 8 => .array .int
  | 9 => .array .int
  | 10 => .array .boolean
  | 11 => .array .boolean
  | 12 => .array .boolean
  | 13 => .array .int
  | 14 => .array .int
  | 15 => .array .int
  | 16 => .array .int
  | 17 => .array .int
  | 18 => .array .int
  | 19 => .array .int
  | 20 => .int
  | 21 => .int
  | 22 => .array .boolean
  | 23 => .array .int
  | 24 => .array .int
  | _ => .int
abbrev wsX80 : List Cond := u_ws RX8 TX8 26
theorem nmX8 : ∀ a, a < 26 → ∀ b, b < 26 → a ≠ b → (TX8 a).2.1 ≠ (TX8 b).2.1 := by decide +kernel
theorem tyX8_ok : ∀ k, k < 26 → parseFieldDescriptor (TX8 k).2.2.1 = some (tyX8 k) := by decide +kernel
abbrev cX8_init : ByteArray := prog_10_method_1_code
def yX8_init : MethodName := ⟨RX8, "<init>", "()V"⟩
abbrev cX8_isIn : ByteArray := prog_10_method_2_code
def yX8_isIn : MethodName := ⟨RX8, "isIn", "(III)Z"⟩
abbrev cX8_isPin : ByteArray := prog_10_method_3_code
def yX8_isPin : MethodName := ⟨RX8, "isPin", "(II)Z"⟩
abbrev cX8_isShape : ByteArray := prog_10_method_4_code
def yX8_isShape : MethodName := ⟨RX8, "isShape", "(I)Z"⟩
abbrev cX8_corner : ByteArray := prog_10_method_5_code
def yX8_corner : MethodName := ⟨RX8, "corner", "(II)I"⟩
abbrev cX8_comes : ByteArray := prog_10_method_6_code
def yX8_comes : MethodName := ⟨RX8, "comes", "(III)I"⟩
abbrev cX8_canCome : ByteArray := prog_10_method_7_code
def yX8_canCome : MethodName := ⟨RX8, "canCome", "(I)Z"⟩
abbrev cX8_line : ByteArray := prog_10_method_8_code
def yX8_line : MethodName := ⟨RX8, "line", "(I)I"⟩
abbrev cX8_ground : ByteArray := prog_10_method_9_code
def yX8_ground : MethodName := ⟨RX8, "ground", "(IIIII)I"⟩
abbrev cX8_mark : ByteArray := prog_10_method_10_code
def yX8_mark : MethodName := ⟨RX8, "mark", "(III)I"⟩
abbrev cX8_undo : ByteArray := prog_10_method_11_code
def yX8_undo : MethodName := ⟨RX8, "undo", "()Z"⟩
abbrev cX8_gap : ByteArray := prog_10_method_12_code
def yX8_gap : MethodName := ⟨RX8, "gap", "(I)Z"⟩
abbrev cX8_meet : ByteArray := prog_10_method_13_code
def yX8_meet : MethodName := ⟨RX8, "meet", "(IIZ)Z"⟩
abbrev cX8_isTexture : ByteArray := prog_10_method_14_code
def yX8_isTexture : MethodName := ⟨RX8, "isTexture", "(I)Z"⟩
abbrev cX8_apart : ByteArray := prog_10_method_15_code
def yX8_apart : MethodName := ⟨RX8, "apart", "(IIZ)Z"⟩
abbrev cX8_price : ByteArray := prog_10_method_16_code
def yX8_price : MethodName := ⟨RX8, "price", "(II)Z"⟩
abbrev cX8_puts : ByteArray := prog_10_method_17_code
def yX8_puts : MethodName := ⟨RX8, "puts", "(III)V"⟩
abbrev cX8_abs : ByteArray := prog_10_method_18_code
def yX8_abs : MethodName := ⟨RX8, "abs", "(I)I"⟩
abbrev cX8_down : ByteArray := prog_10_method_19_code
def yX8_down : MethodName := ⟨RX8, "down", "(II)I"⟩
abbrev cX8_draws : ByteArray := prog_10_method_20_code
def yX8_draws : MethodName := ⟨RX8, "draws", "(I)V"⟩
abbrev cX8_steps : ByteArray := prog_10_method_21_code
def yX8_steps : MethodName := ⟨RX8, "steps", "(IIIII)V"⟩
abbrev cX8_has : ByteArray := prog_10_method_22_code
def yX8_has : MethodName := ⟨RX8, "has", "(III)Z"⟩
abbrev cX8_pin : ByteArray := prog_10_method_23_code
def yX8_pin : MethodName := ⟨RX8, "pin", "(III)I"⟩
abbrev cX8_look : ByteArray := prog_10_method_24_code
def yX8_look : MethodName := ⟨RX8, "look", "(I)I"⟩
abbrev cX8_of : ByteArray := prog_10_method_25_code
def yX8_of : MethodName := ⟨RX8, "of", "(II)I"⟩
abbrev cX8_farOf : ByteArray := prog_10_method_26_code
def yX8_farOf : MethodName := ⟨RX8, "farOf", "(II)I"⟩
abbrev cX8_far : ByteArray := prog_10_method_27_code
def yX8_far : MethodName := ⟨RX8, "far", "(II)I"⟩
abbrev cX8_isBy : ByteArray := prog_10_method_28_code
def yX8_isBy : MethodName := ⟨RX8, "isBy", "(IIIII)Z"⟩
abbrev cX8_isStep : ByteArray := prog_10_method_29_code
def yX8_isStep : MethodName := ⟨RX8, "isStep", "(IIII)Z"⟩
abbrev cX8_bits : ByteArray := prog_10_method_30_code
def yX8_bits : MethodName := ⟨RX8, "bits", "(I)I"⟩
abbrev cX8_keeps : ByteArray := prog_10_method_31_code
def yX8_keeps : MethodName := ⟨RX8, "keeps", "(III)Z"⟩
abbrev cX8_isAhead : ByteArray := prog_10_method_32_code
def yX8_isAhead : MethodName := ⟨RX8, "isAhead", "(II)Z"⟩
abbrev cX8_simpler : ByteArray := prog_10_method_33_code
def yX8_simpler : MethodName := ⟨RX8, "simpler", "(II)I"⟩
abbrev cX8_isLine : ByteArray := prog_10_method_34_code
def yX8_isLine : MethodName := ⟨RX8, "isLine", "(II)Z"⟩
abbrev cX8_simple : ByteArray := prog_10_method_35_code
def yX8_simple : MethodName := ⟨RX8, "simple", "(III)I"⟩
abbrev cX8_simplify : ByteArray := prog_10_method_36_code
def yX8_simplify : MethodName := ⟨RX8, "simplify", "(II)I"⟩
abbrev cX8_nears : ByteArray := prog_10_method_37_code
def yX8_nears : MethodName := ⟨RX8, "nears", "()V"⟩
abbrev cX8_worthOf : ByteArray := prog_10_method_38_code
def yX8_worthOf : MethodName := ⟨RX8, "worthOf", "(I)I"⟩
abbrev cX8_kept : ByteArray := prog_10_method_39_code
def yX8_kept : MethodName := ⟨RX8, "kept", "()I"⟩
abbrev cX8_loss : ByteArray := prog_10_method_40_code
def yX8_loss : MethodName := ⟨RX8, "loss", "()I"⟩
abbrev cX8_lays : ByteArray := prog_10_method_41_code
def yX8_lays : MethodName := ⟨RX8, "lays", "(I)Z"⟩
abbrev cX8_sheets : ByteArray := prog_10_method_42_code
def yX8_sheets : MethodName := ⟨RX8, "sheets", "()I"⟩
abbrev cX8_sheet : ByteArray := prog_10_method_43_code
def yX8_sheet : MethodName := ⟨RX8, "sheet", "(I)I"⟩
abbrev cX8_textured : ByteArray := prog_10_method_44_code
def yX8_textured : MethodName := ⟨RX8, "textured", "()V"⟩
abbrev cX8_cost : ByteArray := prog_10_method_45_code
def yX8_cost : MethodName := ⟨RX8, "cost", "()I"⟩
abbrev cX8_textureOf : ByteArray := prog_10_method_46_code
def yX8_textureOf : MethodName := ⟨RX8, "textureOf", "(I)I"⟩
abbrev cX8_texture : ByteArray := prog_10_method_47_code
def yX8_texture : MethodName := ⟨RX8, "texture", "(I)I"⟩
abbrev cX8_isUp : ByteArray := prog_10_method_48_code
def yX8_isUp : MethodName := ⟨RX8, "isUp", "(IIII)Z"⟩
abbrev cX8_print : ByteArray := prog_10_method_49_code
def yX8_print : MethodName := ⟨RX8, "print", "(I)I"⟩
abbrev cX8_up : ByteArray := prog_10_method_50_code
def yX8_up : MethodName := ⟨RX8, "up", "(II)I"⟩
abbrev cX8_feels : ByteArray := prog_10_method_51_code
def yX8_feels : MethodName := ⟨RX8, "feels", "()V"⟩
abbrev cX8_things : ByteArray := prog_10_method_52_code
def yX8_things : MethodName := ⟨RX8, "things", "()I"⟩
abbrev cX8_beside : ByteArray := prog_10_method_53_code
def yX8_beside : MethodName := ⟨RX8, "beside", "(I)I"⟩
abbrev cX8_thing : ByteArray := prog_10_method_54_code
def yX8_thing : MethodName := ⟨RX8, "thing", "(II)I"⟩
def RJ6 : String := "java/lang/Integer"
def TJ6 : u_T := fun k => match k with
  | _ => ("", "", "", false)
def tyJ6 : Nat → FieldType := fun k => match k with
  | _ => .int
abbrev wsJ60 : List Cond := u_ws RJ6 TJ6 0
theorem nmJ6 : ∀ a, a < 0 → ∀ b, b < 0 → a ≠ b → (TJ6 a).2.1 ≠ (TJ6 b).2.1 := by decide +kernel
theorem tyJ6_ok : ∀ k, k < 0 → parseFieldDescriptor (TJ6 k).2.2.1 = some (tyJ6 k) := by decide +kernel
abbrev cJ6_bitCount_0f7a4 : ByteArray := prog_11_method_49_code
def yJ6_bitCount_0f7a4 : MethodName := ⟨RJ6, "bitCount", "(I)I"⟩
def RJ9 : String := "java/lang/Math"
def TJ9 : u_T := fun k => match k with
  | _ => ("", "", "", false)
def tyJ9 : Nat → FieldType := fun k => match k with
  | _ => .int
abbrev wsJ90 : List Cond := u_ws RJ9 TJ9 0
theorem nmJ9 : ∀ a, a < 0 → ∀ b, b < 0 → a ≠ b → (TJ9 a).2.1 ≠ (TJ9 b).2.1 := by decide +kernel
theorem tyJ9_ok : ∀ k, k < 0 → parseFieldDescriptor (TJ9 k).2.2.1 = some (tyJ9 k) := by decide +kernel
abbrev cJ9_floorDiv_7cf53 : ByteArray := prog_12_method_47_code
def yJ9_floorDiv_7cf53 : MethodName := ⟨RJ9, "floorDiv", "(II)I"⟩
abbrev cJ9_abs_0f7a4 : ByteArray := prog_12_method_59_code
def yJ9_abs_0f7a4 : MethodName := ⟨RJ9, "abs", "(I)I"⟩
abbrev cJ9_max_7cf53 : ByteArray := prog_12_method_65_code
def yJ9_max_7cf53 : MethodName := ⟨RJ9, "max", "(II)I"⟩
abbrev cJ9_min_7cf53 : ByteArray := prog_12_method_69_code
def yJ9_min_7cf53 : MethodName := ⟨RJ9, "min", "(II)I"⟩
def RL : String := "TouchSheetLaw"
abbrev cL_law : ByteArray := code
def yL_law : MethodName := ⟨RL, "law", "([I)Z"⟩
def wsX2_init : List Cond := .code yX2_init cX2_init 1 none :: ([.methodLink RX2 3 objectInit, .instanceMethod objectInit, .code objectInit ⟨#[0xb1]⟩ 1 none, .arrayClass .int, .fieldLink RX2 9 "TouchSheet$Pins" "rows" "[I"] ++ wsX20)
def wsX0_init : List Cond := .code yX0_init cX0_init 1 none :: ([.methodLink RX0 3 objectInit, .instanceMethod objectInit, .code objectInit ⟨#[0xb1]⟩ 1 none, .classLink RX0 9 RX2, .instantiable RX2 1, .initialized RX2, .fieldLink RX0 12 "TouchSheet$Finger" "left" "LTouchSheet$Pins;", .fieldLink RX0 18 "TouchSheet$Finger" "held" "LTouchSheet$Pins;", .classLink RX0 21 "[[I", .arrayClass .int, .fieldLink RX0 23 "TouchSheet$Finger" "facts" "[[I", .instanceMethod yX2_init, .code yX2_init cX2_init 1 none, .methodLink RX2 3 objectInit, .fieldLink RX2 9 "TouchSheet$Pins" "rows" "[I"] ++ wsX20 ++ wsX00)
def wsX2_copy : List Cond := .code yX2_copy cX2_copy 3 none :: ([.fieldLink RX2 9 "TouchSheet$Pins" "rows" "[I"] ++ wsX20)
def wsX7_isPin : List Cond := .code yX7_isPin cX7_isPin 2 (some .boolean) :: ([])
def wsX7_has : List Cond := .code yX7_has cX7_has 2 (some .boolean) :: ([])
def wsX2_holds : List Cond := .code yX2_holds cX2_holds 3 (some .boolean) :: ([.fieldLink RX2 9 "TouchSheet$Pins" "rows" "[I", .static yX7_isPin, .initialized RX7, .code yX7_isPin cX7_isPin 2 (some .boolean), .static yX7_has, .code yX7_has cX7_has 2 (some .boolean)] ++ wsX20)
def wsX2_clear : List Cond := .code yX2_clear cX2_clear 2 none :: ([.fieldLink RX2 9 "TouchSheet$Pins" "rows" "[I"] ++ wsX20)
def wsX2_raise : List Cond := .code yX2_raise cX2_raise 3 none :: ([.fieldLink RX2 9 "TouchSheet$Pins" "rows" "[I", .static yX7_isPin, .initialized RX7, .code yX7_isPin cX7_isPin 2 (some .boolean)] ++ wsX20)
def wsX2_widened : List Cond := .code yX2_widened cX2_widened 1 (some .int) :: ([.constant RX2 31 (16777215)])
def wsX2_swell : List Cond := .code yX2_swell cX2_swell 5 none :: ([.fieldLink RX2 9 "TouchSheet$Pins" "rows" "[I", .methodLink RX2 28 yX2_widened, .static yX2_widened, .initialized RX2, .code yX2_widened cX2_widened 1 (some .int), .constant RX2 31 (16777215)] ++ wsX20)
def wsX2_keepOnly : List Cond := .code yX2_keepOnly cX2_keepOnly 3 none :: ([.fieldLink RX2 9 "TouchSheet$Pins" "rows" "[I"] ++ wsX20)
def wsJ6_bitCount_0f7a4 : List Cond := .code yJ6_bitCount_0f7a4 cJ6_bitCount_0f7a4 1 (some .int) :: ([.constant RJ6 265 (1431655765), .constant RJ6 266 (858993459), .constant RJ6 267 (252645135)])
def wsX2_size : List Cond := .code yX2_size cX2_size 3 (some .int) :: ([.fieldLink RX2 9 "TouchSheet$Pins" "rows" "[I", .methodLink RX2 22 yJ6_bitCount_0f7a4, .static yJ6_bitCount_0f7a4, .initialized RJ6, .code yJ6_bitCount_0f7a4 cJ6_bitCount_0f7a4 1 (some .int), .constant RJ6 265 (1431655765), .constant RJ6 266 (858993459), .constant RJ6 267 (252645135)] ++ wsX20)
def wsX0_gather_r1 : List Cond := [Cond.fieldLink RX0 18 "TouchSheet$Finger" "held" "LTouchSheet$Pins;", Cond.fieldLink RX0 12 "TouchSheet$Finger" "left" "LTouchSheet$Pins;", Cond.methodLink RX0 53 yX2_clear, Cond.instanceMethod yX2_clear, Cond.selects RX2 yX2_clear yX2_clear, Cond.initialized RX2, Cond.code yX2_clear cX2_clear 2 none, Cond.fieldLink RX2 9 "TouchSheet$Pins" "rows" "[I", Cond.methodLink RX0 56 yX2_raise, Cond.instanceMethod yX2_raise, Cond.selects RX2 yX2_raise yX2_raise, Cond.code yX2_raise cX2_raise 3 none, Cond.static yX7_isPin, Cond.initialized RX7, Cond.code yX7_isPin cX7_isPin 2 (some .boolean), Cond.methodLink RX0 59 yX2_swell, Cond.instanceMethod yX2_swell, Cond.selects RX2 yX2_swell yX2_swell, Cond.code yX2_swell cX2_swell 5 none, Cond.methodLink RX2 28 yX2_widened, Cond.static yX2_widened, Cond.code yX2_widened cX2_widened 1 (some .int), Cond.constant RX2 31 (16777215), Cond.methodLink RX0 62 yX2_keepOnly]
def wsX0_gather_r2 : List Cond := [Cond.instanceMethod yX2_keepOnly, Cond.selects RX2 yX2_keepOnly yX2_keepOnly, Cond.code yX2_keepOnly cX2_keepOnly 3 none, Cond.methodLink RX0 65 yX2_size, Cond.instanceMethod yX2_size, Cond.selects RX2 yX2_size yX2_size, Cond.code yX2_size cX2_size 3 (some .int), Cond.methodLink RX2 22 yJ6_bitCount_0f7a4, Cond.static yJ6_bitCount_0f7a4, Cond.initialized RJ6, Cond.code yJ6_bitCount_0f7a4 cJ6_bitCount_0f7a4 1 (some .int), Cond.constant RJ6 265 (1431655765), Cond.constant RJ6 266 (858993459), Cond.constant RJ6 267 (252645135)]
def wsX0_gather : List Cond := .code yX0_gather cX0_gather 6 none :: ((wsX0_gather_r1 ++ wsX0_gather_r2) ++ wsX00 ++ wsX20)
def wsX2_countBeside : List Cond := .code yX2_countBeside cX2_countBeside 6 (some .int) :: ([.methodLink RX2 32 Lib.Math.max.name, .static Lib.Math.max.name, .initialized "java/lang/Math", .code Lib.Math.max.name Lib.Math.max.code 2 (some .int), .methodLink RX2 38 Lib.Math.min.name, .static Lib.Math.min.name, .code Lib.Math.min.name Lib.Math.min.code 2 (some .int), .fieldLink RX2 9 "TouchSheet$Pins" "rows" "[I", .methodLink RX2 22 yJ6_bitCount_0f7a4, .static yJ6_bitCount_0f7a4, .initialized RJ6, .code yJ6_bitCount_0f7a4 cJ6_bitCount_0f7a4 1 (some .int), .constant RJ6 265 (1431655765), .constant RJ6 266 (858993459), .constant RJ6 267 (252645135)] ++ wsX20)
def wsX0_describe_r1 : List Cond := [Cond.fieldLink RX0 18 "TouchSheet$Finger" "held" "LTouchSheet$Pins;", Cond.fieldLink RX0 34 "TouchSheet$Pins" "rows" "[I", Cond.methodLink RX0 69 Lib.Math.min.name, Cond.static Lib.Math.min.name, Cond.initialized "java/lang/Math", Cond.code Lib.Math.min.name Lib.Math.min.code 2 (some .int), Cond.methodLink RX0 75 Lib.Math.max.name, Cond.static Lib.Math.max.name, Cond.code Lib.Math.max.name Lib.Math.max.code 2 (some .int), Cond.methodLink RX0 65 yX2_size, Cond.instanceMethod yX2_size, Cond.selects RX2 yX2_size yX2_size, Cond.initialized RX2, Cond.code yX2_size cX2_size 3 (some .int), Cond.fieldLink RX2 9 "TouchSheet$Pins" "rows" "[I", Cond.methodLink RX2 22 yJ6_bitCount_0f7a4, Cond.static yJ6_bitCount_0f7a4, Cond.initialized RJ6, Cond.code yJ6_bitCount_0f7a4 cJ6_bitCount_0f7a4 1 (some .int), Cond.constant RJ6 265 (1431655765), Cond.constant RJ6 266 (858993459), Cond.constant RJ6 267 (252645135), Cond.methodLink RX0 38 yX2_holds, Cond.instanceMethod yX2_holds]
def wsX0_describe_r2 : List Cond := [Cond.selects RX2 yX2_holds yX2_holds, Cond.code yX2_holds cX2_holds 3 (some .boolean), Cond.static yX7_isPin, Cond.initialized RX7, Cond.code yX7_isPin cX7_isPin 2 (some .boolean), Cond.static yX7_has, Cond.code yX7_has cX7_has 2 (some .boolean), Cond.methodLink RX0 78 yX2_countBeside, Cond.instanceMethod yX2_countBeside, Cond.selects RX2 yX2_countBeside yX2_countBeside, Cond.code yX2_countBeside cX2_countBeside 6 (some .int), Cond.methodLink RX2 32 Lib.Math.max.name, Cond.methodLink RX2 38 Lib.Math.min.name]
def wsX0_describe : List Cond := .code yX0_describe cX0_describe 4 none :: ((wsX0_describe_r1 ++ wsX0_describe_r2) ++ wsX00 ++ wsX20)
def wsX2_drop : List Cond := .code yX2_drop cX2_drop 3 none :: ([.fieldLink RX2 9 "TouchSheet$Pins" "rows" "[I"] ++ wsX20)
def wsX0_feel_r1 : List Cond := [Cond.fieldLink RX0 12 "TouchSheet$Finger" "left" "LTouchSheet$Pins;", Cond.fieldLink RX0 30 "TouchSheet$Finger" "found" "I", Cond.fieldLink RX0 34 "TouchSheet$Pins" "rows" "[I", Cond.fieldLink RX0 23 "TouchSheet$Finger" "facts" "[[I", Cond.fieldLink RX0 18 "TouchSheet$Finger" "held" "LTouchSheet$Pins;", Cond.methodLink RX0 26 yX2_copy, Cond.instanceMethod yX2_copy, Cond.selects RX2 yX2_copy yX2_copy, Cond.initialized RX2, Cond.code yX2_copy cX2_copy 3 none, Cond.fieldLink RX2 9 "TouchSheet$Pins" "rows" "[I", Cond.methodLink RX0 38 yX2_holds, Cond.instanceMethod yX2_holds, Cond.selects RX2 yX2_holds yX2_holds, Cond.code yX2_holds cX2_holds 3 (some .boolean), Cond.static yX7_isPin, Cond.initialized RX7, Cond.code yX7_isPin cX7_isPin 2 (some .boolean), Cond.static yX7_has, Cond.code yX7_has cX7_has 2 (some .boolean), Cond.methodLink RX0 42 yX0_gather, Cond.instanceMethod yX0_gather, Cond.selects RX0 yX0_gather yX0_gather, Cond.initialized RX0]
def wsX0_feel_r2 : List Cond := [Cond.code yX0_gather cX0_gather 6 none, Cond.methodLink RX0 53 yX2_clear, Cond.instanceMethod yX2_clear, Cond.selects RX2 yX2_clear yX2_clear, Cond.code yX2_clear cX2_clear 2 none, Cond.methodLink RX0 56 yX2_raise, Cond.instanceMethod yX2_raise, Cond.selects RX2 yX2_raise yX2_raise, Cond.code yX2_raise cX2_raise 3 none, Cond.methodLink RX0 59 yX2_swell, Cond.instanceMethod yX2_swell, Cond.selects RX2 yX2_swell yX2_swell, Cond.code yX2_swell cX2_swell 5 none, Cond.methodLink RX2 28 yX2_widened, Cond.static yX2_widened, Cond.code yX2_widened cX2_widened 1 (some .int), Cond.constant RX2 31 (16777215), Cond.methodLink RX0 62 yX2_keepOnly, Cond.instanceMethod yX2_keepOnly, Cond.selects RX2 yX2_keepOnly yX2_keepOnly, Cond.code yX2_keepOnly cX2_keepOnly 3 none, Cond.methodLink RX0 65 yX2_size, Cond.instanceMethod yX2_size, Cond.selects RX2 yX2_size yX2_size]
def wsX0_feel_r3 : List Cond := [Cond.code yX2_size cX2_size 3 (some .int), Cond.methodLink RX2 22 yJ6_bitCount_0f7a4, Cond.static yJ6_bitCount_0f7a4, Cond.initialized RJ6, Cond.code yJ6_bitCount_0f7a4 cJ6_bitCount_0f7a4 1 (some .int), Cond.constant RJ6 265 (1431655765), Cond.constant RJ6 266 (858993459), Cond.constant RJ6 267 (252645135), Cond.methodLink RX0 46 yX0_describe, Cond.instanceMethod yX0_describe, Cond.selects RX0 yX0_describe yX0_describe, Cond.code yX0_describe cX0_describe 4 none, Cond.methodLink RX0 69 Lib.Math.min.name, Cond.static Lib.Math.min.name, Cond.initialized "java/lang/Math", Cond.code Lib.Math.min.name Lib.Math.min.code 2 (some .int), Cond.methodLink RX0 75 Lib.Math.max.name, Cond.static Lib.Math.max.name, Cond.code Lib.Math.max.name Lib.Math.max.code 2 (some .int), Cond.methodLink RX0 78 yX2_countBeside, Cond.instanceMethod yX2_countBeside, Cond.selects RX2 yX2_countBeside yX2_countBeside, Cond.code yX2_countBeside cX2_countBeside 6 (some .int), Cond.methodLink RX2 32 Lib.Math.max.name]
def wsX0_feel_r4 : List Cond := [Cond.methodLink RX2 38 Lib.Math.min.name, Cond.methodLink RX0 50 yX2_drop, Cond.instanceMethod yX2_drop, Cond.selects RX2 yX2_drop yX2_drop, Cond.code yX2_drop cX2_drop 3 none]
def wsX0_feel : List Cond := .code yX0_feel cX0_feel 4 none :: ((wsX0_feel_r1 ++ (wsX0_feel_r2 ++ (wsX0_feel_r3 ++ wsX0_feel_r4))) ++ wsX00 ++ wsX20)
def wsX1_init : List Cond := .code yX1_init cX1_init 1 none :: ([.methodLink RX1 3 objectInit, .instanceMethod objectInit, .code objectInit ⟨#[0xb1]⟩ 1 none, .arrayClass .int, .fieldLink RX1 9 "TouchSheet$Keeper" "weights" "[I"] ++ wsX10)
def wsX7_heaviest : List Cond := .code yX7_heaviest cX7_heaviest 7 (some .int) :: ([.methodLink RX7 278 Lib.Math.max.name, .static Lib.Math.max.name, .initialized "java/lang/Math", .code Lib.Math.max.name Lib.Math.max.code 2 (some .int), .methodLink RX7 114 yX7_has, .static yX7_has, .initialized RX7, .code yX7_has cX7_has 2 (some .boolean), .methodLink RX7 274 yX7_heaviest, .static yX7_heaviest])
def wsX1_choose : List Cond := .code yX1_choose cX1_choose 5 none :: ([.fieldLink RX1 9 "TouchSheet$Keeper" "weights" "[I", .fieldLink RX1 15 "TouchSheet$Shape" "worth" "I", .fieldLink RX1 25 "TouchSheet$Keeper" "keptSet" "I", .static yX7_heaviest, .initialized RX7, .code yX7_heaviest cX7_heaviest 7 (some .int), .methodLink RX7 278 Lib.Math.max.name, .static Lib.Math.max.name, .initialized "java/lang/Math", .code Lib.Math.max.name Lib.Math.max.code 2 (some .int), .methodLink RX7 114 yX7_has, .static yX7_has, .code yX7_has cX7_has 2 (some .boolean), .methodLink RX7 274 yX7_heaviest] ++ wsX10 ++ wsX30)
def wsX2_join : List Cond := .code yX2_join cX2_join 3 none :: ([.fieldLink RX2 9 "TouchSheet$Pins" "rows" "[I"] ++ wsX20)
def wsX2_touch : List Cond := .code yX2_touch cX2_touch 3 (some .boolean) :: ([.fieldLink RX2 9 "TouchSheet$Pins" "rows" "[I"] ++ wsX20)
def wsX3_init : List Cond := .code yX3_init cX3_init 1 none :: ([.methodLink RX3 3 objectInit, .instanceMethod objectInit, .code objectInit ⟨#[0xb1]⟩ 1 none, .arrayClass .int, .fieldLink RX3 9 "TouchSheet$Shape" "xs" "[I", .fieldLink RX3 15 "TouchSheet$Shape" "ys" "[I", .classLink RX3 18 RX2, .instantiable RX2 1, .initialized RX2, .fieldLink RX3 21 "TouchSheet$Shape" "pins" "LTouchSheet$Pins;", .instanceMethod yX2_init, .code yX2_init cX2_init 1 none, .methodLink RX2 3 objectInit, .fieldLink RX2 9 "TouchSheet$Pins" "rows" "[I"] ++ wsX30 ++ wsX20)
def wsX3_begin : List Cond := .code yX3_begin cX3_begin 3 none :: ([.fieldLink RX3 25 "TouchSheet$Shape" "kind" "I", .fieldLink RX3 29 "TouchSheet$Shape" "worth" "I", .fieldLink RX3 32 "TouchSheet$Shape" "places" "I"] ++ wsX30)
def wsX3_addPlace : List Cond := .code yX3_addPlace cX3_addPlace 3 none :: ([.fieldLink RX3 32 "TouchSheet$Shape" "places" "I", .fieldLink RX3 9 "TouchSheet$Shape" "xs" "[I", .fieldLink RX3 15 "TouchSheet$Shape" "ys" "[I"] ++ wsX30)
def wsX3_keepPlaces : List Cond := .code yX3_keepPlaces cX3_keepPlaces 4 none :: ([.fieldLink RX3 32 "TouchSheet$Shape" "places" "I", .fieldLink RX3 9 "TouchSheet$Shape" "xs" "[I", .fieldLink RX3 15 "TouchSheet$Shape" "ys" "[I", .static yX7_has, .initialized RX7, .code yX7_has cX7_has 2 (some .boolean), .methodLink RX3 39 yX3_addPlace, .instanceMethod yX3_addPlace, .selects RX3 yX3_addPlace yX3_addPlace, .initialized RX3, .code yX3_addPlace cX3_addPlace 3 none] ++ wsX30)
def wsX3_coordinate : List Cond := .code yX3_coordinate cX3_coordinate 3 (some .int) :: ([.fieldLink RX3 32 "TouchSheet$Shape" "places" "I", .fieldLink RX3 9 "TouchSheet$Shape" "xs" "[I", .fieldLink RX3 15 "TouchSheet$Shape" "ys" "[I"] ++ wsX30)
def wsJ9_floorDiv_7cf53 : List Cond := .code yJ9_floorDiv_7cf53 cJ9_floorDiv_7cf53 3 (some .int) :: ([])
def wsX3_drawStep : List Cond := .code yX3_drawStep cX3_drawStep 11 none :: ([.methodLink RX3 62 Lib.Math.abs.name, .static Lib.Math.abs.name, .initialized "java/lang/Math", .code Lib.Math.abs.name Lib.Math.abs.code 1 (some .int), .methodLink RX3 68 Lib.Math.max.name, .static Lib.Math.max.name, .code Lib.Math.max.name Lib.Math.max.code 2 (some .int), .fieldLink RX3 21 "TouchSheet$Shape" "pins" "LTouchSheet$Pins;", .methodLink RX3 72 yJ9_floorDiv_7cf53, .static yJ9_floorDiv_7cf53, .initialized RJ9, .code yJ9_floorDiv_7cf53 cJ9_floorDiv_7cf53 3 (some .int), .methodLink RX3 55 yX2_raise, .instanceMethod yX2_raise, .selects RX2 yX2_raise yX2_raise, .initialized RX2, .code yX2_raise cX2_raise 3 none, .fieldLink RX2 9 "TouchSheet$Pins" "rows" "[I", .static yX7_isPin, .initialized RX7, .code yX7_isPin cX7_isPin 2 (some .boolean)] ++ wsX30 ++ wsX20)
def wsX3_drawLine_r1 : List Cond := [Cond.fieldLink RX3 21 "TouchSheet$Shape" "pins" "LTouchSheet$Pins;", Cond.fieldLink RX3 9 "TouchSheet$Shape" "xs" "[I", Cond.fieldLink RX3 15 "TouchSheet$Shape" "ys" "[I", Cond.fieldLink RX3 32 "TouchSheet$Shape" "places" "I", Cond.methodLink RX3 55 yX2_raise, Cond.instanceMethod yX2_raise, Cond.selects RX2 yX2_raise yX2_raise, Cond.initialized RX2, Cond.code yX2_raise cX2_raise 3 none, Cond.fieldLink RX2 9 "TouchSheet$Pins" "rows" "[I", Cond.static yX7_isPin, Cond.initialized RX7, Cond.code yX7_isPin cX7_isPin 2 (some .boolean), Cond.methodLink RX3 58 yX3_drawStep, Cond.instanceMethod yX3_drawStep, Cond.selects RX3 yX3_drawStep yX3_drawStep, Cond.initialized RX3, Cond.code yX3_drawStep cX3_drawStep 11 none, Cond.methodLink RX3 62 Lib.Math.abs.name, Cond.static Lib.Math.abs.name, Cond.initialized "java/lang/Math", Cond.code Lib.Math.abs.name Lib.Math.abs.code 1 (some .int), Cond.methodLink RX3 68 Lib.Math.max.name, Cond.static Lib.Math.max.name]
def wsX3_drawLine_r2 : List Cond := [Cond.code Lib.Math.max.name Lib.Math.max.code 2 (some .int), Cond.methodLink RX3 72 yJ9_floorDiv_7cf53, Cond.static yJ9_floorDiv_7cf53, Cond.initialized RJ9, Cond.code yJ9_floorDiv_7cf53 cJ9_floorDiv_7cf53 3 (some .int)]
def wsX3_drawLine : List Cond := .code yX3_drawLine cX3_drawLine 2 none :: ((wsX3_drawLine_r1 ++ wsX3_drawLine_r2) ++ wsX30 ++ wsX20)
def wsX3_drawGround : List Cond := .code yX3_drawGround cX3_drawGround 3 none :: ([.fieldLink RX3 9 "TouchSheet$Shape" "xs" "[I", .fieldLink RX3 15 "TouchSheet$Shape" "ys" "[I", .fieldLink RX3 21 "TouchSheet$Shape" "pins" "LTouchSheet$Pins;", .fieldLink RX3 75 "TouchSheet$Pins" "rows" "[I"] ++ wsX30 ++ wsX20)
def wsX3_drawMark : List Cond := .code yX3_drawMark cX3_drawMark 3 none :: ([.fieldLink RX3 9 "TouchSheet$Shape" "xs" "[I", .fieldLink RX3 15 "TouchSheet$Shape" "ys" "[I", .fieldLink RX3 21 "TouchSheet$Shape" "pins" "LTouchSheet$Pins;", .methodLink RX3 55 yX2_raise, .instanceMethod yX2_raise, .selects RX2 yX2_raise yX2_raise, .initialized RX2, .code yX2_raise cX2_raise 3 none, .fieldLink RX2 9 "TouchSheet$Pins" "rows" "[I", .static yX7_isPin, .initialized RX7, .code yX7_isPin cX7_isPin 2 (some .boolean)] ++ wsX30 ++ wsX20)
def wsX3_draw_r1 : List Cond := [Cond.fieldLink RX3 21 "TouchSheet$Shape" "pins" "LTouchSheet$Pins;", Cond.fieldLink RX3 25 "TouchSheet$Shape" "kind" "I", Cond.methodLink RX3 43 yX2_clear, Cond.instanceMethod yX2_clear, Cond.selects RX2 yX2_clear yX2_clear, Cond.initialized RX2, Cond.code yX2_clear cX2_clear 2 none, Cond.fieldLink RX2 9 "TouchSheet$Pins" "rows" "[I", Cond.methodLink RX3 46 yX3_drawLine, Cond.instanceMethod yX3_drawLine, Cond.selects RX3 yX3_drawLine yX3_drawLine, Cond.initialized RX3, Cond.code yX3_drawLine cX3_drawLine 2 none, Cond.fieldLink RX3 9 "TouchSheet$Shape" "xs" "[I", Cond.fieldLink RX3 15 "TouchSheet$Shape" "ys" "[I", Cond.fieldLink RX3 32 "TouchSheet$Shape" "places" "I", Cond.methodLink RX3 55 yX2_raise, Cond.instanceMethod yX2_raise, Cond.selects RX2 yX2_raise yX2_raise, Cond.code yX2_raise cX2_raise 3 none, Cond.static yX7_isPin, Cond.initialized RX7, Cond.code yX7_isPin cX7_isPin 2 (some .boolean), Cond.methodLink RX3 58 yX3_drawStep]
def wsX3_draw_r2 : List Cond := [Cond.instanceMethod yX3_drawStep, Cond.selects RX3 yX3_drawStep yX3_drawStep, Cond.code yX3_drawStep cX3_drawStep 11 none, Cond.methodLink RX3 62 Lib.Math.abs.name, Cond.static Lib.Math.abs.name, Cond.initialized "java/lang/Math", Cond.code Lib.Math.abs.name Lib.Math.abs.code 1 (some .int), Cond.methodLink RX3 68 Lib.Math.max.name, Cond.static Lib.Math.max.name, Cond.code Lib.Math.max.name Lib.Math.max.code 2 (some .int), Cond.methodLink RX3 72 yJ9_floorDiv_7cf53, Cond.static yJ9_floorDiv_7cf53, Cond.initialized RJ9, Cond.code yJ9_floorDiv_7cf53 cJ9_floorDiv_7cf53 3 (some .int), Cond.methodLink RX3 49 yX3_drawGround, Cond.instanceMethod yX3_drawGround, Cond.selects RX3 yX3_drawGround yX3_drawGround, Cond.code yX3_drawGround cX3_drawGround 3 none, Cond.fieldLink RX3 75 "TouchSheet$Pins" "rows" "[I", Cond.methodLink RX3 52 yX3_drawMark, Cond.instanceMethod yX3_drawMark, Cond.selects RX3 yX3_drawMark yX3_drawMark, Cond.code yX3_drawMark cX3_drawMark 3 none]
def wsX3_draw : List Cond := .code yX3_draw cX3_draw 1 none :: ((wsX3_draw_r1 ++ wsX3_draw_r2) ++ wsX30 ++ wsX20)
def wsX4_init : List Cond := .code yX4_init cX4_init 1 none :: ([.methodLink RX4 3 objectInit, .instanceMethod objectInit, .code objectInit ⟨#[0xb1]⟩ 1 none, .arrayClass .int, .fieldLink RX4 9 "TouchSheet$Simpler" "fewestFrom" "[I", .fieldLink RX4 15 "TouchSheet$Simpler" "nextAfter" "[I"] ++ wsX40)
def wsX4_isWithin : List Cond := .code yX4_isWithin cX4_isWithin 14 (some .boolean) :: ([.fieldLink RX4 36 "TouchSheet$Shape" "xs" "[I", .fieldLink RX4 39 "TouchSheet$Shape" "ys" "[I"] ++ wsX30)
def wsX4_canStep : List Cond := .code yX4_canStep cX4_canStep 5 (some .boolean) :: ([.methodLink RX4 32 yX4_isWithin, .static yX4_isWithin, .initialized RX4, .code yX4_isWithin cX4_isWithin 14 (some .boolean), .fieldLink RX4 36 "TouchSheet$Shape" "xs" "[I", .fieldLink RX4 39 "TouchSheet$Shape" "ys" "[I"] ++ wsX30)
def wsX4_walk : List Cond := .code yX4_walk cX4_walk 5 (some .int) :: ([.fieldLink RX4 15 "TouchSheet$Simpler" "nextAfter" "[I"] ++ wsX40)
def wsX4_fewest : List Cond := .code yX4_fewest cX4_fewest 6 (some .int) :: ([.fieldLink RX4 18 "TouchSheet$Shape" "places" "I", .fieldLink RX4 9 "TouchSheet$Simpler" "fewestFrom" "[I", .fieldLink RX4 15 "TouchSheet$Simpler" "nextAfter" "[I", .methodLink RX4 24 yX4_canStep, .static yX4_canStep, .initialized RX4, .code yX4_canStep cX4_canStep 5 (some .boolean), .methodLink RX4 32 yX4_isWithin, .static yX4_isWithin, .code yX4_isWithin cX4_isWithin 14 (some .boolean), .fieldLink RX4 36 "TouchSheet$Shape" "xs" "[I", .fieldLink RX4 39 "TouchSheet$Shape" "ys" "[I", .methodLink RX4 28 yX4_walk, .instanceMethod yX4_walk, .selects RX4 yX4_walk yX4_walk, .code yX4_walk cX4_walk 5 (some .int)] ++ wsX30 ++ wsX40)
def wsX5_init : List Cond := .code yX5_init cX5_init 1 none :: ([.methodLink RX5 3 objectInit, .instanceMethod objectInit, .code objectInit ⟨#[0xb1]⟩ 1 none, .arrayClass .int, .fieldLink RX5 9 "TouchSheet$Stacker" "heldBy" "[I", .fieldLink RX5 15 "TouchSheet$Stacker" "notNear" "[I", .fieldLink RX5 18 "TouchSheet$Stacker" "ones" "[I", .fieldLink RX5 21 "TouchSheet$Stacker" "sheetOf" "[I"] ++ wsX50)
def wsX5_place : List Cond := .code yX5_place cX5_place 8 (some .boolean) :: ([.fieldLink RX5 9 "TouchSheet$Stacker" "heldBy" "[I", .fieldLink RX5 21 "TouchSheet$Stacker" "sheetOf" "[I", .methodLink RX5 40 Lib.Math.max.name, .static Lib.Math.max.name, .initialized "java/lang/Math", .code Lib.Math.max.name Lib.Math.max.code 2 (some .int), .methodLink RX5 36 yX5_place, .instanceMethod yX5_place, .selects RX5 yX5_place yX5_place, .initialized RX5] ++ wsX50)
def wsX5_layOn : List Cond := .code yX5_layOn cX5_layOn 5 (some .boolean) :: ([.fieldLink RX5 9 "TouchSheet$Stacker" "heldBy" "[I", .methodLink RX5 36 yX5_place, .instanceMethod yX5_place, .selects RX5 yX5_place yX5_place, .initialized RX5, .code yX5_place cX5_place 8 (some .boolean), .fieldLink RX5 21 "TouchSheet$Stacker" "sheetOf" "[I", .methodLink RX5 40 Lib.Math.max.name, .static Lib.Math.max.name, .initialized "java/lang/Math", .code Lib.Math.max.name Lib.Math.max.code 2 (some .int)] ++ wsX50)
def wsX5_lay_r1 : List Cond := [Cond.fieldLink RX5 15 "TouchSheet$Stacker" "notNear" "[I", Cond.fieldLink RX5 18 "TouchSheet$Stacker" "ones" "[I", Cond.fieldLink RX5 32 "TouchSheet$Stacker" "sheetCount" "I", Cond.static yX7_heaviest, Cond.initialized RX7, Cond.code yX7_heaviest cX7_heaviest 7 (some .int), Cond.methodLink RX7 278 Lib.Math.max.name, Cond.static Lib.Math.max.name, Cond.initialized "java/lang/Math", Cond.code Lib.Math.max.name Lib.Math.max.code 2 (some .int), Cond.methodLink RX7 114 yX7_has, Cond.static yX7_has, Cond.code yX7_has cX7_has 2 (some .boolean), Cond.methodLink RX7 274 yX7_heaviest, Cond.methodLink RX5 28 yX5_layOn, Cond.instanceMethod yX5_layOn, Cond.selects RX5 yX5_layOn yX5_layOn, Cond.initialized RX5, Cond.code yX5_layOn cX5_layOn 5 (some .boolean), Cond.fieldLink RX5 9 "TouchSheet$Stacker" "heldBy" "[I", Cond.methodLink RX5 36 yX5_place, Cond.instanceMethod yX5_place, Cond.selects RX5 yX5_place yX5_place, Cond.code yX5_place cX5_place 8 (some .boolean)]
def wsX5_lay_r2 : List Cond := [Cond.fieldLink RX5 21 "TouchSheet$Stacker" "sheetOf" "[I", Cond.methodLink RX5 40 Lib.Math.max.name]
def wsX5_lay : List Cond := .code yX5_lay cX5_lay 5 none :: ((wsX5_lay_r1 ++ wsX5_lay_r2) ++ wsX50)
def wsX6_init : List Cond := .code yX6_init cX6_init 2 none :: ([.methodLink RX6 5 objectInit, .instanceMethod objectInit, .code objectInit ⟨#[0xb1]⟩ 1 none, .arrayClass .int, .fieldLink RX6 11 "TouchSheet$Weaver" "apartFrom" "[I", .fieldLink RX6 15 "TouchSheet$Weaver" "prices" "[I", .fieldLink RX6 18 "TouchSheet$Weaver" "neighbours" "[I", .fieldLink RX6 21 "TouchSheet$Weaver" "byPrice" "[I", .fieldLink RX6 24 "TouchSheet$Weaver" "cheapest" "[I", .fieldLink RX6 27 "TouchSheet$Weaver" "takers" "[I", .classLink RX6 30 "[[I", .fieldLink RX6 32 "TouchSheet$Weaver" "open" "[[I"] ++ wsX60)
def wsX6_firstByPrice : List Cond := .code yX6_firstByPrice cX6_firstByPrice 3 (some .int) :: ([.fieldLink RX6 21 "TouchSheet$Weaver" "byPrice" "[I", .static yX7_has, .initialized RX7, .code yX7_has cX7_has 2 (some .boolean)] ++ wsX60)
def wsX6_rankTextures : List Cond := .code yX6_rankTextures cX6_rankTextures 5 none :: ([.fieldLink RX6 15 "TouchSheet$Weaver" "prices" "[I", .fieldLink RX6 21 "TouchSheet$Weaver" "byPrice" "[I", .fieldLink RX6 24 "TouchSheet$Weaver" "cheapest" "[I", .methodLink RX6 60 yX6_firstByPrice, .instanceMethod yX6_firstByPrice, .selects RX6 yX6_firstByPrice yX6_firstByPrice, .initialized RX6, .code yX6_firstByPrice cX6_firstByPrice 3 (some .int), .static yX7_has, .initialized RX7, .code yX7_has cX7_has 2 (some .boolean)] ++ wsX60)
def wsX6_placeOf : List Cond := .code yX6_placeOf cX6_placeOf 1 (some .int) :: ([])
def wsX6_weight : List Cond := .code yX6_weight cX6_weight 3 (some .long) :: ([.fieldLink RX6 15 "TouchSheet$Weaver" "prices" "[I", .methodLink RX6 56 yX6_placeOf, .static yX6_placeOf, .initialized RX6, .code yX6_placeOf cX6_placeOf 1 (some .int)] ++ wsX60)
def wsX6_cheapestWeight : List Cond := .code yX6_cheapestWeight cX6_cheapestWeight 6 (some .long) :: ([.constantLong RX6 42 (1152921504606846976), .fieldLink RX6 24 "TouchSheet$Weaver" "cheapest" "[I", .static yX7_has, .initialized RX7, .code yX7_has cX7_has 2 (some .boolean), .methodLink RX6 83 yX6_weight, .instanceMethod yX6_weight, .selects RX6 yX6_weight yX6_weight, .initialized RX6, .code yX6_weight cX6_weight 3 (some .long), .fieldLink RX6 15 "TouchSheet$Weaver" "prices" "[I", .methodLink RX6 56 yX6_placeOf, .static yX6_placeOf, .code yX6_placeOf cX6_placeOf 1 (some .int)] ++ wsX60)
def wsX6_listTakers : List Cond := .code yX6_listTakers cX6_listTakers 4 none :: ([.fieldLink RX6 27 "TouchSheet$Weaver" "takers" "[I", .fieldLink RX6 24 "TouchSheet$Weaver" "cheapest" "[I", .static yX7_has, .initialized RX7, .code yX7_has cX7_has 2 (some .boolean)] ++ wsX60)
def wsX6_clashWith : List Cond := .code yX6_clashWith cX6_clashWith 4 (some .int) :: ([.fieldLink RX6 11 "TouchSheet$Weaver" "apartFrom" "[I", .fieldLink RX6 27 "TouchSheet$Weaver" "takers" "[I", .static yX7_has, .initialized RX7, .code yX7_has cX7_has 2 (some .boolean)] ++ wsX60)
def wsX6_clashing : List Cond := .code yX6_clashing cX6_clashing 8 (some .int) :: ([.fieldLink RX6 18 "TouchSheet$Weaver" "neighbours" "[I", .fieldLink RX6 24 "TouchSheet$Weaver" "cheapest" "[I", .methodLink RX6 87 yX6_listTakers, .instanceMethod yX6_listTakers, .selects RX6 yX6_listTakers yX6_listTakers, .initialized RX6, .code yX6_listTakers cX6_listTakers 4 none, .fieldLink RX6 27 "TouchSheet$Weaver" "takers" "[I", .static yX7_has, .initialized RX7, .code yX7_has cX7_has 2 (some .boolean), .methodLink RX6 91 yX6_clashWith, .instanceMethod yX6_clashWith, .selects RX6 yX6_clashWith yX6_clashWith, .code yX6_clashWith cX6_clashWith 4 (some .int), .fieldLink RX6 11 "TouchSheet$Weaver" "apartFrom" "[I", .methodLink RX6 94 yJ6_bitCount_0f7a4, .static yJ6_bitCount_0f7a4, .initialized RJ6, .code yJ6_bitCount_0f7a4 cJ6_bitCount_0f7a4 1 (some .int), .constant RJ6 265 (1431655765), .constant RJ6 266 (858993459), .constant RJ6 267 (252645135)] ++ wsX60)
def wsX6_groupOf : List Cond := .code yX6_groupOf cX6_groupOf 7 (some .int) :: ([.fieldLink RX6 18 "TouchSheet$Weaver" "neighbours" "[I", .static yX7_has, .initialized RX7, .code yX7_has cX7_has 2 (some .boolean)] ++ wsX60)
def wsX6_give : List Cond := .code yX6_give cX6_give 7 none :: ([.fieldLink RX6 18 "TouchSheet$Weaver" "neighbours" "[I", .fieldLink RX6 32 "TouchSheet$Weaver" "open" "[[I", .fieldLink RX6 11 "TouchSheet$Weaver" "apartFrom" "[I", .static yX7_has, .initialized RX7, .code yX7_has cX7_has 2 (some .boolean)] ++ wsX60)
def wsX6_leastBelow_r1 : List Cond := [Cond.fieldLink RX6 32 "TouchSheet$Weaver" "open" "[[I", Cond.constantLong RX6 42 (1152921504606846976), Cond.methodLink RX6 63 yX6_cheapestWeight, Cond.instanceMethod yX6_cheapestWeight, Cond.selects RX6 yX6_cheapestWeight yX6_cheapestWeight, Cond.initialized RX6, Cond.code yX6_cheapestWeight cX6_cheapestWeight 6 (some .long), Cond.fieldLink RX6 24 "TouchSheet$Weaver" "cheapest" "[I", Cond.static yX7_has, Cond.initialized RX7, Cond.code yX7_has cX7_has 2 (some .boolean), Cond.methodLink RX6 83 yX6_weight, Cond.instanceMethod yX6_weight, Cond.selects RX6 yX6_weight yX6_weight, Cond.code yX6_weight cX6_weight 3 (some .long), Cond.fieldLink RX6 15 "TouchSheet$Weaver" "prices" "[I", Cond.methodLink RX6 56 yX6_placeOf, Cond.static yX6_placeOf, Cond.code yX6_placeOf cX6_placeOf 1 (some .int), Cond.methodLink RX6 67 yX6_clashing, Cond.instanceMethod yX6_clashing, Cond.selects RX6 yX6_clashing yX6_clashing, Cond.code yX6_clashing cX6_clashing 8 (some .int), Cond.fieldLink RX6 18 "TouchSheet$Weaver" "neighbours" "[I"]
def wsX6_leastBelow_r2 : List Cond := [Cond.methodLink RX6 87 yX6_listTakers, Cond.instanceMethod yX6_listTakers, Cond.selects RX6 yX6_listTakers yX6_listTakers, Cond.code yX6_listTakers cX6_listTakers 4 none, Cond.fieldLink RX6 27 "TouchSheet$Weaver" "takers" "[I", Cond.methodLink RX6 91 yX6_clashWith, Cond.instanceMethod yX6_clashWith, Cond.selects RX6 yX6_clashWith yX6_clashWith, Cond.code yX6_clashWith cX6_clashWith 4 (some .int), Cond.fieldLink RX6 11 "TouchSheet$Weaver" "apartFrom" "[I", Cond.methodLink RX6 94 yJ6_bitCount_0f7a4, Cond.static yJ6_bitCount_0f7a4, Cond.initialized RJ6, Cond.code yJ6_bitCount_0f7a4 cJ6_bitCount_0f7a4 1 (some .int), Cond.constant RJ6 265 (1431655765), Cond.constant RJ6 266 (858993459), Cond.constant RJ6 267 (252645135), Cond.methodLink RX6 71 yX6_groupOf, Cond.instanceMethod yX6_groupOf, Cond.selects RX6 yX6_groupOf yX6_groupOf, Cond.code yX6_groupOf cX6_groupOf 7 (some .int), Cond.methodLink RX6 75 yX6_tryEach, Cond.instanceMethod yX6_tryEach, Cond.selects RX6 yX6_tryEach yX6_tryEach]
def wsX6_leastBelow_r3 : List Cond := [Cond.code yX6_tryEach cX6_tryEach 15 (some .long), Cond.fieldLink RX6 21 "TouchSheet$Weaver" "byPrice" "[I", Cond.methodLink RX6 79 yX6_give, Cond.instanceMethod yX6_give, Cond.selects RX6 yX6_give yX6_give, Cond.code yX6_give cX6_give 7 none, Cond.methodLink RX6 44 yX6_leastBelow, Cond.instanceMethod yX6_leastBelow, Cond.selects RX6 yX6_leastBelow yX6_leastBelow]
def wsX6_leastBelow : List Cond := .code yX6_leastBelow cX6_leastBelow 13 (some .long) :: ((wsX6_leastBelow_r1 ++ (wsX6_leastBelow_r2 ++ wsX6_leastBelow_r3)) ++ wsX60)
def wsX6_tryEach_r1 : List Cond := [Cond.constantLong RX6 42 (1152921504606846976), Cond.fieldLink RX6 21 "TouchSheet$Weaver" "byPrice" "[I", Cond.fieldLink RX6 32 "TouchSheet$Weaver" "open" "[[I", Cond.static yX7_has, Cond.initialized RX7, Cond.code yX7_has cX7_has 2 (some .boolean), Cond.methodLink RX6 79 yX6_give, Cond.instanceMethod yX6_give, Cond.selects RX6 yX6_give yX6_give, Cond.initialized RX6, Cond.code yX6_give cX6_give 7 none, Cond.fieldLink RX6 18 "TouchSheet$Weaver" "neighbours" "[I", Cond.fieldLink RX6 11 "TouchSheet$Weaver" "apartFrom" "[I", Cond.methodLink RX6 83 yX6_weight, Cond.instanceMethod yX6_weight, Cond.selects RX6 yX6_weight yX6_weight, Cond.code yX6_weight cX6_weight 3 (some .long), Cond.fieldLink RX6 15 "TouchSheet$Weaver" "prices" "[I", Cond.methodLink RX6 56 yX6_placeOf, Cond.static yX6_placeOf, Cond.code yX6_placeOf cX6_placeOf 1 (some .int), Cond.methodLink RX6 44 yX6_leastBelow, Cond.instanceMethod yX6_leastBelow, Cond.selects RX6 yX6_leastBelow yX6_leastBelow]
def wsX6_tryEach_r2 : List Cond := [Cond.code yX6_leastBelow cX6_leastBelow 13 (some .long), Cond.methodLink RX6 63 yX6_cheapestWeight, Cond.instanceMethod yX6_cheapestWeight, Cond.selects RX6 yX6_cheapestWeight yX6_cheapestWeight, Cond.code yX6_cheapestWeight cX6_cheapestWeight 6 (some .long), Cond.fieldLink RX6 24 "TouchSheet$Weaver" "cheapest" "[I", Cond.methodLink RX6 67 yX6_clashing, Cond.instanceMethod yX6_clashing, Cond.selects RX6 yX6_clashing yX6_clashing, Cond.code yX6_clashing cX6_clashing 8 (some .int), Cond.methodLink RX6 87 yX6_listTakers, Cond.instanceMethod yX6_listTakers, Cond.selects RX6 yX6_listTakers yX6_listTakers, Cond.code yX6_listTakers cX6_listTakers 4 none, Cond.fieldLink RX6 27 "TouchSheet$Weaver" "takers" "[I", Cond.methodLink RX6 91 yX6_clashWith, Cond.instanceMethod yX6_clashWith, Cond.selects RX6 yX6_clashWith yX6_clashWith, Cond.code yX6_clashWith cX6_clashWith 4 (some .int), Cond.methodLink RX6 94 yJ6_bitCount_0f7a4, Cond.static yJ6_bitCount_0f7a4, Cond.initialized RJ6, Cond.code yJ6_bitCount_0f7a4 cJ6_bitCount_0f7a4 1 (some .int), Cond.constant RJ6 265 (1431655765)]
def wsX6_tryEach_r3 : List Cond := [Cond.constant RJ6 266 (858993459), Cond.constant RJ6 267 (252645135), Cond.methodLink RX6 71 yX6_groupOf, Cond.instanceMethod yX6_groupOf, Cond.selects RX6 yX6_groupOf yX6_groupOf, Cond.code yX6_groupOf cX6_groupOf 7 (some .int), Cond.methodLink RX6 75 yX6_tryEach, Cond.instanceMethod yX6_tryEach, Cond.selects RX6 yX6_tryEach yX6_tryEach]
def wsX6_tryEach : List Cond := .code yX6_tryEach cX6_tryEach 15 (some .long) :: ((wsX6_tryEach_r1 ++ (wsX6_tryEach_r2 ++ wsX6_tryEach_r3)) ++ wsX60)
def wsX6_giveTextures_r1 : List Cond := [Cond.fieldLink RX6 35 "TouchSheet$Weaver" "grounds" "I", Cond.fieldLink RX6 32 "TouchSheet$Weaver" "open" "[[I", Cond.constantLong RX6 42 (1152921504606846976), Cond.fieldLink RX6 48 "TouchSheet$Weaver" "best" "J", Cond.methodLink RX6 39 yX6_rankTextures, Cond.instanceMethod yX6_rankTextures, Cond.selects RX6 yX6_rankTextures yX6_rankTextures, Cond.initialized RX6, Cond.code yX6_rankTextures cX6_rankTextures 5 none, Cond.fieldLink RX6 15 "TouchSheet$Weaver" "prices" "[I", Cond.fieldLink RX6 21 "TouchSheet$Weaver" "byPrice" "[I", Cond.fieldLink RX6 24 "TouchSheet$Weaver" "cheapest" "[I", Cond.methodLink RX6 60 yX6_firstByPrice, Cond.instanceMethod yX6_firstByPrice, Cond.selects RX6 yX6_firstByPrice yX6_firstByPrice, Cond.code yX6_firstByPrice cX6_firstByPrice 3 (some .int), Cond.static yX7_has, Cond.initialized RX7, Cond.code yX7_has cX7_has 2 (some .boolean), Cond.methodLink RX6 44 yX6_leastBelow, Cond.instanceMethod yX6_leastBelow, Cond.selects RX6 yX6_leastBelow yX6_leastBelow, Cond.code yX6_leastBelow cX6_leastBelow 13 (some .long), Cond.methodLink RX6 63 yX6_cheapestWeight]
def wsX6_giveTextures_r2 : List Cond := [Cond.instanceMethod yX6_cheapestWeight, Cond.selects RX6 yX6_cheapestWeight yX6_cheapestWeight, Cond.code yX6_cheapestWeight cX6_cheapestWeight 6 (some .long), Cond.methodLink RX6 83 yX6_weight, Cond.instanceMethod yX6_weight, Cond.selects RX6 yX6_weight yX6_weight, Cond.code yX6_weight cX6_weight 3 (some .long), Cond.methodLink RX6 56 yX6_placeOf, Cond.static yX6_placeOf, Cond.code yX6_placeOf cX6_placeOf 1 (some .int), Cond.methodLink RX6 67 yX6_clashing, Cond.instanceMethod yX6_clashing, Cond.selects RX6 yX6_clashing yX6_clashing, Cond.code yX6_clashing cX6_clashing 8 (some .int), Cond.fieldLink RX6 18 "TouchSheet$Weaver" "neighbours" "[I", Cond.methodLink RX6 87 yX6_listTakers, Cond.instanceMethod yX6_listTakers, Cond.selects RX6 yX6_listTakers yX6_listTakers, Cond.code yX6_listTakers cX6_listTakers 4 none, Cond.fieldLink RX6 27 "TouchSheet$Weaver" "takers" "[I", Cond.methodLink RX6 91 yX6_clashWith, Cond.instanceMethod yX6_clashWith, Cond.selects RX6 yX6_clashWith yX6_clashWith, Cond.code yX6_clashWith cX6_clashWith 4 (some .int)]
def wsX6_giveTextures_r3 : List Cond := [Cond.fieldLink RX6 11 "TouchSheet$Weaver" "apartFrom" "[I", Cond.methodLink RX6 94 yJ6_bitCount_0f7a4, Cond.static yJ6_bitCount_0f7a4, Cond.initialized RJ6, Cond.code yJ6_bitCount_0f7a4 cJ6_bitCount_0f7a4 1 (some .int), Cond.constant RJ6 265 (1431655765), Cond.constant RJ6 266 (858993459), Cond.constant RJ6 267 (252645135), Cond.methodLink RX6 71 yX6_groupOf, Cond.instanceMethod yX6_groupOf, Cond.selects RX6 yX6_groupOf yX6_groupOf, Cond.code yX6_groupOf cX6_groupOf 7 (some .int), Cond.methodLink RX6 75 yX6_tryEach, Cond.instanceMethod yX6_tryEach, Cond.selects RX6 yX6_tryEach yX6_tryEach, Cond.code yX6_tryEach cX6_tryEach 15 (some .long), Cond.methodLink RX6 79 yX6_give, Cond.instanceMethod yX6_give, Cond.selects RX6 yX6_give yX6_give, Cond.code yX6_give cX6_give 7 none]
def wsX6_giveTextures : List Cond := .code yX6_giveTextures cX6_giveTextures 3 none :: ((wsX6_giveTextures_r1 ++ (wsX6_giveTextures_r2 ++ wsX6_giveTextures_r3)) ++ wsX60)
def wsX6_textureOf : List Cond := .code yX6_textureOf cX6_textureOf 2 (some .int) :: ([.fieldLink RX6 48 "TouchSheet$Weaver" "best" "J", .constantLong RX6 42 (1152921504606846976), .fieldLink RX6 35 "TouchSheet$Weaver" "grounds" "I", .static yX7_has, .initialized RX7, .code yX7_has cX7_has 2 (some .boolean), .methodLink RX6 56 yX6_placeOf, .static yX6_placeOf, .initialized RX6, .code yX6_placeOf cX6_placeOf 1 (some .int)] ++ wsX60)
def wsX6_sumOfPrices : List Cond := .code yX6_sumOfPrices cX6_sumOfPrices 1 (some .int) :: ([.fieldLink RX6 48 "TouchSheet$Weaver" "best" "J", .constantLong RX6 42 (1152921504606846976)] ++ wsX60)
def wsX7_init_r1 : List Cond := [Cond.methodLink RX7 3 objectInit, Cond.instanceMethod objectInit, Cond.code objectInit ⟨#[0xb1]⟩ 1 none, Cond.classLink RX7 9 RX3, Cond.fieldLink RX7 11 "TouchSheet" "shapes" "[LTouchSheet$Shape;", Cond.arrayClass .int, Cond.fieldLink RX7 15 "TouchSheet" "waitingX" "[I", Cond.fieldLink RX7 19 "TouchSheet" "waitingY" "[I", Cond.fieldLink RX7 22 "TouchSheet" "leastGap" "I", Cond.fieldLink RX7 26 "TouchSheet" "meets" "[I", Cond.classLink RX7 29 "[[I", Cond.fieldLink RX7 31 "TouchSheet" "distance" "[[I", Cond.classLink RX7 34 RX2, Cond.instantiable RX2 1, Cond.initialized RX2, Cond.fieldLink RX7 37 "TouchSheet" "swelling" "LTouchSheet$Pins;", Cond.classLink RX7 41 RX4, Cond.instantiable RX4 2, Cond.initialized RX4, Cond.fieldLink RX7 44 "TouchSheet" "simpler" "LTouchSheet$Simpler;", Cond.classLink RX7 48 RX1, Cond.instantiable RX1 2, Cond.initialized RX1, Cond.fieldLink RX7 51 "TouchSheet" "keeper" "LTouchSheet$Keeper;"]
def wsX7_init_r2 : List Cond := [Cond.classLink RX7 55 RX5, Cond.instantiable RX5 5, Cond.initialized RX5, Cond.fieldLink RX7 58 "TouchSheet" "stacker" "LTouchSheet$Stacker;", Cond.classLink RX7 62 RX6, Cond.instantiable RX6 9, Cond.initialized RX6, Cond.fieldLink RX7 65 "TouchSheet" "weaver" "LTouchSheet$Weaver;", Cond.fieldLink RX7 69 "TouchSheet" "near" "[I", Cond.fieldLink RX7 72 "TouchSheet" "printed" "LTouchSheet$Pins;", Cond.classLink RX7 75 RX0, Cond.instantiable RX0 4, Cond.initialized RX0, Cond.fieldLink RX7 78 "TouchSheet" "finger" "LTouchSheet$Finger;", Cond.instantiable RX3 6, Cond.initialized RX3, Cond.instanceMethod yX2_init, Cond.code yX2_init cX2_init 1 none, Cond.methodLink RX2 3 objectInit, Cond.fieldLink RX2 9 "TouchSheet$Pins" "rows" "[I", Cond.instanceMethod yX4_init, Cond.code yX4_init cX4_init 1 none, Cond.methodLink RX4 3 objectInit, Cond.fieldLink RX4 9 "TouchSheet$Simpler" "fewestFrom" "[I"]
def wsX7_init_r3 : List Cond := [Cond.fieldLink RX4 15 "TouchSheet$Simpler" "nextAfter" "[I", Cond.instanceMethod yX1_init, Cond.code yX1_init cX1_init 1 none, Cond.methodLink RX1 3 objectInit, Cond.fieldLink RX1 9 "TouchSheet$Keeper" "weights" "[I", Cond.instanceMethod yX5_init, Cond.code yX5_init cX5_init 1 none, Cond.methodLink RX5 3 objectInit, Cond.fieldLink RX5 9 "TouchSheet$Stacker" "heldBy" "[I", Cond.fieldLink RX5 15 "TouchSheet$Stacker" "notNear" "[I", Cond.fieldLink RX5 18 "TouchSheet$Stacker" "ones" "[I", Cond.fieldLink RX5 21 "TouchSheet$Stacker" "sheetOf" "[I", Cond.methodLink RX7 64 yX6_init, Cond.instanceMethod yX6_init, Cond.code yX6_init cX6_init 2 none, Cond.methodLink RX6 5 objectInit, Cond.fieldLink RX6 11 "TouchSheet$Weaver" "apartFrom" "[I", Cond.fieldLink RX6 15 "TouchSheet$Weaver" "prices" "[I", Cond.fieldLink RX6 18 "TouchSheet$Weaver" "neighbours" "[I", Cond.fieldLink RX6 21 "TouchSheet$Weaver" "byPrice" "[I", Cond.fieldLink RX6 24 "TouchSheet$Weaver" "cheapest" "[I", Cond.fieldLink RX6 27 "TouchSheet$Weaver" "takers" "[I", Cond.classLink RX6 30 "[[I", Cond.fieldLink RX6 32 "TouchSheet$Weaver" "open" "[[I"]
def wsX7_init_r4 : List Cond := [Cond.instanceMethod yX0_init, Cond.code yX0_init cX0_init 1 none, Cond.methodLink RX0 3 objectInit, Cond.classLink RX0 9 RX2, Cond.fieldLink RX0 12 "TouchSheet$Finger" "left" "LTouchSheet$Pins;", Cond.fieldLink RX0 18 "TouchSheet$Finger" "held" "LTouchSheet$Pins;", Cond.classLink RX0 21 "[[I", Cond.fieldLink RX0 23 "TouchSheet$Finger" "facts" "[[I", Cond.instanceMethod yX3_init, Cond.code yX3_init cX3_init 1 none, Cond.methodLink RX3 3 objectInit, Cond.fieldLink RX3 9 "TouchSheet$Shape" "xs" "[I", Cond.fieldLink RX3 15 "TouchSheet$Shape" "ys" "[I", Cond.classLink RX3 18 RX2, Cond.fieldLink RX3 21 "TouchSheet$Shape" "pins" "LTouchSheet$Pins;"]
def wsX7_init : List Cond := .code yX7_init cX7_init 2 none :: ((wsX7_init_r1 ++ (wsX7_init_r2 ++ (wsX7_init_r3 ++ wsX7_init_r4))) ++ wsX70 ++ wsX20 ++ wsX40 ++ wsX10 ++ wsX50 ++ wsX60 ++ wsX00 ++ wsX30)
def wsX7_corner : List Cond := .code yX7_corner cX7_corner 3 (some .int) :: ([.fieldLink RX7 87 "TouchSheet" "waiting" "I", .fieldLink RX7 15 "TouchSheet" "waitingX" "[I", .fieldLink RX7 19 "TouchSheet" "waitingY" "[I", .methodLink RX7 83 yX7_isPin, .static yX7_isPin, .initialized RX7, .code yX7_isPin cX7_isPin 2 (some .boolean)] ++ wsX70)
def wsX7_canAdd : List Cond := .code yX7_canAdd cX7_canAdd 2 (some .boolean) :: ([.fieldLink RX7 94 "TouchSheet" "count" "I"] ++ wsX70)
def wsX7_measure_r1 : List Cond := [Cond.fieldLink RX7 37 "TouchSheet" "swelling" "LTouchSheet$Pins;", Cond.fieldLink RX7 11 "TouchSheet" "shapes" "[LTouchSheet$Shape;", Cond.fieldLink RX7 132 "TouchSheet$Shape" "pins" "LTouchSheet$Pins;", Cond.fieldLink RX7 94 "TouchSheet" "count" "I", Cond.fieldLink RX7 31 "TouchSheet" "distance" "[[I", Cond.methodLink RX7 219 yX2_copy, Cond.instanceMethod yX2_copy, Cond.selects RX2 yX2_copy yX2_copy, Cond.initialized RX2, Cond.code yX2_copy cX2_copy 3 none, Cond.fieldLink RX2 9 "TouchSheet$Pins" "rows" "[I", Cond.methodLink RX7 114 yX7_has, Cond.static yX7_has, Cond.initialized RX7, Cond.code yX7_has cX7_has 2 (some .boolean), Cond.methodLink RX7 222 yX2_touch, Cond.instanceMethod yX2_touch, Cond.selects RX2 yX2_touch yX2_touch, Cond.code yX2_touch cX2_touch 3 (some .boolean), Cond.methodLink RX7 226 yX2_swell, Cond.instanceMethod yX2_swell, Cond.selects RX2 yX2_swell yX2_swell, Cond.code yX2_swell cX2_swell 5 none, Cond.methodLink RX2 28 yX2_widened]
def wsX7_measure_r2 : List Cond := [Cond.static yX2_widened, Cond.code yX2_widened cX2_widened 1 (some .int), Cond.constant RX2 31 (16777215)]
def wsX7_measure : List Cond := .code yX7_measure cX7_measure 5 none :: ((wsX7_measure_r1 ++ wsX7_measure_r2) ++ wsX70 ++ wsX30 ++ wsX20)
def wsX7_forgetAnswers : List Cond := .code yX7_forgetAnswers cX7_forgetAnswers 1 none :: ([.fieldLink RX7 209 "TouchSheet" "keeperKnows" "Z", .fieldLink RX7 213 "TouchSheet" "stackerKnows" "Z", .fieldLink RX7 216 "TouchSheet" "weaverKnows" "Z"] ++ wsX70)
def wsX7_finish_r1 : List Cond := [Cond.fieldLink RX7 94 "TouchSheet" "count" "I", Cond.methodLink RX7 165 yX3_draw, Cond.instanceMethod yX3_draw, Cond.selects RX3 yX3_draw yX3_draw, Cond.initialized RX3, Cond.code yX3_draw cX3_draw 1 none, Cond.fieldLink RX3 21 "TouchSheet$Shape" "pins" "LTouchSheet$Pins;", Cond.fieldLink RX3 25 "TouchSheet$Shape" "kind" "I", Cond.methodLink RX3 43 yX2_clear, Cond.instanceMethod yX2_clear, Cond.selects RX2 yX2_clear yX2_clear, Cond.initialized RX2, Cond.code yX2_clear cX2_clear 2 none, Cond.fieldLink RX2 9 "TouchSheet$Pins" "rows" "[I", Cond.methodLink RX3 46 yX3_drawLine, Cond.instanceMethod yX3_drawLine, Cond.selects RX3 yX3_drawLine yX3_drawLine, Cond.code yX3_drawLine cX3_drawLine 2 none, Cond.fieldLink RX3 9 "TouchSheet$Shape" "xs" "[I", Cond.fieldLink RX3 15 "TouchSheet$Shape" "ys" "[I", Cond.fieldLink RX3 32 "TouchSheet$Shape" "places" "I", Cond.methodLink RX3 55 yX2_raise, Cond.instanceMethod yX2_raise, Cond.selects RX2 yX2_raise yX2_raise]
def wsX7_finish_r2 : List Cond := [Cond.code yX2_raise cX2_raise 3 none, Cond.static yX7_isPin, Cond.initialized RX7, Cond.code yX7_isPin cX7_isPin 2 (some .boolean), Cond.methodLink RX3 58 yX3_drawStep, Cond.instanceMethod yX3_drawStep, Cond.selects RX3 yX3_drawStep yX3_drawStep, Cond.code yX3_drawStep cX3_drawStep 11 none, Cond.methodLink RX3 62 Lib.Math.abs.name, Cond.static Lib.Math.abs.name, Cond.initialized "java/lang/Math", Cond.code Lib.Math.abs.name Lib.Math.abs.code 1 (some .int), Cond.methodLink RX3 68 Lib.Math.max.name, Cond.static Lib.Math.max.name, Cond.code Lib.Math.max.name Lib.Math.max.code 2 (some .int), Cond.methodLink RX3 72 yJ9_floorDiv_7cf53, Cond.static yJ9_floorDiv_7cf53, Cond.initialized RJ9, Cond.code yJ9_floorDiv_7cf53 cJ9_floorDiv_7cf53 3 (some .int), Cond.methodLink RX3 49 yX3_drawGround, Cond.instanceMethod yX3_drawGround, Cond.selects RX3 yX3_drawGround yX3_drawGround, Cond.code yX3_drawGround cX3_drawGround 3 none, Cond.fieldLink RX3 75 "TouchSheet$Pins" "rows" "[I"]
def wsX7_finish_r3 : List Cond := [Cond.methodLink RX3 52 yX3_drawMark, Cond.instanceMethod yX3_drawMark, Cond.selects RX3 yX3_drawMark yX3_drawMark, Cond.code yX3_drawMark cX3_drawMark 3 none, Cond.methodLink RX7 168 yX7_measure, Cond.instanceMethod yX7_measure, Cond.selects RX7 yX7_measure yX7_measure, Cond.code yX7_measure cX7_measure 5 none, Cond.fieldLink RX7 37 "TouchSheet" "swelling" "LTouchSheet$Pins;", Cond.fieldLink RX7 11 "TouchSheet" "shapes" "[LTouchSheet$Shape;", Cond.fieldLink RX7 132 "TouchSheet$Shape" "pins" "LTouchSheet$Pins;", Cond.fieldLink RX7 31 "TouchSheet" "distance" "[[I", Cond.methodLink RX7 219 yX2_copy, Cond.instanceMethod yX2_copy, Cond.selects RX2 yX2_copy yX2_copy, Cond.code yX2_copy cX2_copy 3 none, Cond.methodLink RX7 114 yX7_has, Cond.static yX7_has, Cond.code yX7_has cX7_has 2 (some .boolean), Cond.methodLink RX7 222 yX2_touch, Cond.instanceMethod yX2_touch, Cond.selects RX2 yX2_touch yX2_touch, Cond.code yX2_touch cX2_touch 3 (some .boolean), Cond.methodLink RX7 226 yX2_swell]
def wsX7_finish_r4 : List Cond := [Cond.instanceMethod yX2_swell, Cond.selects RX2 yX2_swell yX2_swell, Cond.code yX2_swell cX2_swell 5 none, Cond.methodLink RX2 28 yX2_widened, Cond.static yX2_widened, Cond.code yX2_widened cX2_widened 1 (some .int), Cond.constant RX2 31 (16777215), Cond.methodLink RX7 108 yX7_forgetAnswers, Cond.instanceMethod yX7_forgetAnswers, Cond.selects RX7 yX7_forgetAnswers yX7_forgetAnswers, Cond.code yX7_forgetAnswers cX7_forgetAnswers 1 none, Cond.fieldLink RX7 209 "TouchSheet" "keeperKnows" "Z", Cond.fieldLink RX7 213 "TouchSheet" "stackerKnows" "Z", Cond.fieldLink RX7 216 "TouchSheet" "weaverKnows" "Z"]
def wsX7_finish : List Cond := .code yX7_finish cX7_finish 3 (some .int) :: ((wsX7_finish_r1 ++ (wsX7_finish_r2 ++ (wsX7_finish_r3 ++ wsX7_finish_r4))) ++ wsX70 ++ wsX30 ++ wsX20)
def wsX7_line_r1 : List Cond := [Cond.fieldLink RX7 87 "TouchSheet" "waiting" "I", Cond.fieldLink RX7 11 "TouchSheet" "shapes" "[LTouchSheet$Shape;", Cond.fieldLink RX7 94 "TouchSheet" "count" "I", Cond.fieldLink RX7 15 "TouchSheet" "waitingX" "[I", Cond.fieldLink RX7 19 "TouchSheet" "waitingY" "[I", Cond.methodLink RX7 90 yX7_canAdd, Cond.instanceMethod yX7_canAdd, Cond.selects RX7 yX7_canAdd yX7_canAdd, Cond.initialized RX7, Cond.code yX7_canAdd cX7_canAdd 2 (some .boolean), Cond.methodLink RX7 97 yX3_begin, Cond.instanceMethod yX3_begin, Cond.selects RX3 yX3_begin yX3_begin, Cond.initialized RX3, Cond.code yX3_begin cX3_begin 3 none, Cond.fieldLink RX3 25 "TouchSheet$Shape" "kind" "I", Cond.fieldLink RX3 29 "TouchSheet$Shape" "worth" "I", Cond.fieldLink RX3 32 "TouchSheet$Shape" "places" "I", Cond.methodLink RX7 101 yX3_addPlace, Cond.instanceMethod yX3_addPlace, Cond.selects RX3 yX3_addPlace yX3_addPlace, Cond.code yX3_addPlace cX3_addPlace 3 none, Cond.fieldLink RX3 9 "TouchSheet$Shape" "xs" "[I", Cond.fieldLink RX3 15 "TouchSheet$Shape" "ys" "[I"]
def wsX7_line_r2 : List Cond := [Cond.methodLink RX7 104 yX7_finish, Cond.instanceMethod yX7_finish, Cond.selects RX7 yX7_finish yX7_finish, Cond.code yX7_finish cX7_finish 3 (some .int), Cond.methodLink RX7 165 yX3_draw, Cond.instanceMethod yX3_draw, Cond.selects RX3 yX3_draw yX3_draw, Cond.code yX3_draw cX3_draw 1 none, Cond.fieldLink RX3 21 "TouchSheet$Shape" "pins" "LTouchSheet$Pins;", Cond.methodLink RX3 43 yX2_clear, Cond.instanceMethod yX2_clear, Cond.selects RX2 yX2_clear yX2_clear, Cond.initialized RX2, Cond.code yX2_clear cX2_clear 2 none, Cond.fieldLink RX2 9 "TouchSheet$Pins" "rows" "[I", Cond.methodLink RX3 46 yX3_drawLine, Cond.instanceMethod yX3_drawLine, Cond.selects RX3 yX3_drawLine yX3_drawLine, Cond.code yX3_drawLine cX3_drawLine 2 none, Cond.methodLink RX3 55 yX2_raise, Cond.instanceMethod yX2_raise, Cond.selects RX2 yX2_raise yX2_raise, Cond.code yX2_raise cX2_raise 3 none, Cond.static yX7_isPin]
def wsX7_line_r3 : List Cond := [Cond.code yX7_isPin cX7_isPin 2 (some .boolean), Cond.methodLink RX3 58 yX3_drawStep, Cond.instanceMethod yX3_drawStep, Cond.selects RX3 yX3_drawStep yX3_drawStep, Cond.code yX3_drawStep cX3_drawStep 11 none, Cond.methodLink RX3 62 Lib.Math.abs.name, Cond.static Lib.Math.abs.name, Cond.initialized "java/lang/Math", Cond.code Lib.Math.abs.name Lib.Math.abs.code 1 (some .int), Cond.methodLink RX3 68 Lib.Math.max.name, Cond.static Lib.Math.max.name, Cond.code Lib.Math.max.name Lib.Math.max.code 2 (some .int), Cond.methodLink RX3 72 yJ9_floorDiv_7cf53, Cond.static yJ9_floorDiv_7cf53, Cond.initialized RJ9, Cond.code yJ9_floorDiv_7cf53 cJ9_floorDiv_7cf53 3 (some .int), Cond.methodLink RX3 49 yX3_drawGround, Cond.instanceMethod yX3_drawGround, Cond.selects RX3 yX3_drawGround yX3_drawGround, Cond.code yX3_drawGround cX3_drawGround 3 none, Cond.fieldLink RX3 75 "TouchSheet$Pins" "rows" "[I", Cond.methodLink RX3 52 yX3_drawMark, Cond.instanceMethod yX3_drawMark, Cond.selects RX3 yX3_drawMark yX3_drawMark]
def wsX7_line_r4 : List Cond := [Cond.code yX3_drawMark cX3_drawMark 3 none, Cond.methodLink RX7 168 yX7_measure, Cond.instanceMethod yX7_measure, Cond.selects RX7 yX7_measure yX7_measure, Cond.code yX7_measure cX7_measure 5 none, Cond.fieldLink RX7 37 "TouchSheet" "swelling" "LTouchSheet$Pins;", Cond.fieldLink RX7 132 "TouchSheet$Shape" "pins" "LTouchSheet$Pins;", Cond.fieldLink RX7 31 "TouchSheet" "distance" "[[I", Cond.methodLink RX7 219 yX2_copy, Cond.instanceMethod yX2_copy, Cond.selects RX2 yX2_copy yX2_copy, Cond.code yX2_copy cX2_copy 3 none, Cond.methodLink RX7 114 yX7_has, Cond.static yX7_has, Cond.code yX7_has cX7_has 2 (some .boolean), Cond.methodLink RX7 222 yX2_touch, Cond.instanceMethod yX2_touch, Cond.selects RX2 yX2_touch yX2_touch, Cond.code yX2_touch cX2_touch 3 (some .boolean), Cond.methodLink RX7 226 yX2_swell, Cond.instanceMethod yX2_swell, Cond.selects RX2 yX2_swell yX2_swell, Cond.code yX2_swell cX2_swell 5 none, Cond.methodLink RX2 28 yX2_widened]
def wsX7_line_r5 : List Cond := [Cond.static yX2_widened, Cond.code yX2_widened cX2_widened 1 (some .int), Cond.constant RX2 31 (16777215), Cond.methodLink RX7 108 yX7_forgetAnswers, Cond.instanceMethod yX7_forgetAnswers, Cond.selects RX7 yX7_forgetAnswers yX7_forgetAnswers, Cond.code yX7_forgetAnswers cX7_forgetAnswers 1 none, Cond.fieldLink RX7 209 "TouchSheet" "keeperKnows" "Z", Cond.fieldLink RX7 213 "TouchSheet" "stackerKnows" "Z", Cond.fieldLink RX7 216 "TouchSheet" "weaverKnows" "Z"]
def wsX7_line : List Cond := .code yX7_line cX7_line 4 (some .int) :: ((wsX7_line_r1 ++ (wsX7_line_r2 ++ (wsX7_line_r3 ++ (wsX7_line_r4 ++ wsX7_line_r5)))) ++ wsX70 ++ wsX30 ++ wsX20)
def wsX7_ground_r1 : List Cond := [Cond.fieldLink RX7 11 "TouchSheet" "shapes" "[LTouchSheet$Shape;", Cond.fieldLink RX7 94 "TouchSheet" "count" "I", Cond.methodLink RX7 83 yX7_isPin, Cond.static yX7_isPin, Cond.initialized RX7, Cond.code yX7_isPin cX7_isPin 2 (some .boolean), Cond.methodLink RX7 90 yX7_canAdd, Cond.instanceMethod yX7_canAdd, Cond.selects RX7 yX7_canAdd yX7_canAdd, Cond.code yX7_canAdd cX7_canAdd 2 (some .boolean), Cond.methodLink RX7 97 yX3_begin, Cond.instanceMethod yX3_begin, Cond.selects RX3 yX3_begin yX3_begin, Cond.initialized RX3, Cond.code yX3_begin cX3_begin 3 none, Cond.fieldLink RX3 25 "TouchSheet$Shape" "kind" "I", Cond.fieldLink RX3 29 "TouchSheet$Shape" "worth" "I", Cond.fieldLink RX3 32 "TouchSheet$Shape" "places" "I", Cond.methodLink RX7 101 yX3_addPlace, Cond.instanceMethod yX3_addPlace, Cond.selects RX3 yX3_addPlace yX3_addPlace, Cond.code yX3_addPlace cX3_addPlace 3 none, Cond.fieldLink RX3 9 "TouchSheet$Shape" "xs" "[I", Cond.fieldLink RX3 15 "TouchSheet$Shape" "ys" "[I"]
def wsX7_ground_r2 : List Cond := [Cond.methodLink RX7 104 yX7_finish, Cond.instanceMethod yX7_finish, Cond.selects RX7 yX7_finish yX7_finish, Cond.code yX7_finish cX7_finish 3 (some .int), Cond.methodLink RX7 165 yX3_draw, Cond.instanceMethod yX3_draw, Cond.selects RX3 yX3_draw yX3_draw, Cond.code yX3_draw cX3_draw 1 none, Cond.fieldLink RX3 21 "TouchSheet$Shape" "pins" "LTouchSheet$Pins;", Cond.methodLink RX3 43 yX2_clear, Cond.instanceMethod yX2_clear, Cond.selects RX2 yX2_clear yX2_clear, Cond.initialized RX2, Cond.code yX2_clear cX2_clear 2 none, Cond.fieldLink RX2 9 "TouchSheet$Pins" "rows" "[I", Cond.methodLink RX3 46 yX3_drawLine, Cond.instanceMethod yX3_drawLine, Cond.selects RX3 yX3_drawLine yX3_drawLine, Cond.code yX3_drawLine cX3_drawLine 2 none, Cond.methodLink RX3 55 yX2_raise, Cond.instanceMethod yX2_raise, Cond.selects RX2 yX2_raise yX2_raise, Cond.code yX2_raise cX2_raise 3 none, Cond.methodLink RX3 58 yX3_drawStep]
def wsX7_ground_r3 : List Cond := [Cond.instanceMethod yX3_drawStep, Cond.selects RX3 yX3_drawStep yX3_drawStep, Cond.code yX3_drawStep cX3_drawStep 11 none, Cond.methodLink RX3 62 Lib.Math.abs.name, Cond.static Lib.Math.abs.name, Cond.initialized "java/lang/Math", Cond.code Lib.Math.abs.name Lib.Math.abs.code 1 (some .int), Cond.methodLink RX3 68 Lib.Math.max.name, Cond.static Lib.Math.max.name, Cond.code Lib.Math.max.name Lib.Math.max.code 2 (some .int), Cond.methodLink RX3 72 yJ9_floorDiv_7cf53, Cond.static yJ9_floorDiv_7cf53, Cond.initialized RJ9, Cond.code yJ9_floorDiv_7cf53 cJ9_floorDiv_7cf53 3 (some .int), Cond.methodLink RX3 49 yX3_drawGround, Cond.instanceMethod yX3_drawGround, Cond.selects RX3 yX3_drawGround yX3_drawGround, Cond.code yX3_drawGround cX3_drawGround 3 none, Cond.fieldLink RX3 75 "TouchSheet$Pins" "rows" "[I", Cond.methodLink RX3 52 yX3_drawMark, Cond.instanceMethod yX3_drawMark, Cond.selects RX3 yX3_drawMark yX3_drawMark, Cond.code yX3_drawMark cX3_drawMark 3 none, Cond.methodLink RX7 168 yX7_measure]
def wsX7_ground_r4 : List Cond := [Cond.instanceMethod yX7_measure, Cond.selects RX7 yX7_measure yX7_measure, Cond.code yX7_measure cX7_measure 5 none, Cond.fieldLink RX7 37 "TouchSheet" "swelling" "LTouchSheet$Pins;", Cond.fieldLink RX7 132 "TouchSheet$Shape" "pins" "LTouchSheet$Pins;", Cond.fieldLink RX7 31 "TouchSheet" "distance" "[[I", Cond.methodLink RX7 219 yX2_copy, Cond.instanceMethod yX2_copy, Cond.selects RX2 yX2_copy yX2_copy, Cond.code yX2_copy cX2_copy 3 none, Cond.methodLink RX7 114 yX7_has, Cond.static yX7_has, Cond.code yX7_has cX7_has 2 (some .boolean), Cond.methodLink RX7 222 yX2_touch, Cond.instanceMethod yX2_touch, Cond.selects RX2 yX2_touch yX2_touch, Cond.code yX2_touch cX2_touch 3 (some .boolean), Cond.methodLink RX7 226 yX2_swell, Cond.instanceMethod yX2_swell, Cond.selects RX2 yX2_swell yX2_swell, Cond.code yX2_swell cX2_swell 5 none, Cond.methodLink RX2 28 yX2_widened, Cond.static yX2_widened, Cond.code yX2_widened cX2_widened 1 (some .int)]
def wsX7_ground_r5 : List Cond := [Cond.constant RX2 31 (16777215), Cond.methodLink RX7 108 yX7_forgetAnswers, Cond.instanceMethod yX7_forgetAnswers, Cond.selects RX7 yX7_forgetAnswers yX7_forgetAnswers, Cond.code yX7_forgetAnswers cX7_forgetAnswers 1 none, Cond.fieldLink RX7 209 "TouchSheet" "keeperKnows" "Z", Cond.fieldLink RX7 213 "TouchSheet" "stackerKnows" "Z", Cond.fieldLink RX7 216 "TouchSheet" "weaverKnows" "Z"]
def wsX7_ground : List Cond := .code yX7_ground cX7_ground 7 (some .int) :: ((wsX7_ground_r1 ++ (wsX7_ground_r2 ++ (wsX7_ground_r3 ++ (wsX7_ground_r4 ++ wsX7_ground_r5)))) ++ wsX70 ++ wsX30 ++ wsX20)
def wsX7_mark_r1 : List Cond := [Cond.fieldLink RX7 11 "TouchSheet" "shapes" "[LTouchSheet$Shape;", Cond.fieldLink RX7 94 "TouchSheet" "count" "I", Cond.methodLink RX7 83 yX7_isPin, Cond.static yX7_isPin, Cond.initialized RX7, Cond.code yX7_isPin cX7_isPin 2 (some .boolean), Cond.methodLink RX7 90 yX7_canAdd, Cond.instanceMethod yX7_canAdd, Cond.selects RX7 yX7_canAdd yX7_canAdd, Cond.code yX7_canAdd cX7_canAdd 2 (some .boolean), Cond.methodLink RX7 97 yX3_begin, Cond.instanceMethod yX3_begin, Cond.selects RX3 yX3_begin yX3_begin, Cond.initialized RX3, Cond.code yX3_begin cX3_begin 3 none, Cond.fieldLink RX3 25 "TouchSheet$Shape" "kind" "I", Cond.fieldLink RX3 29 "TouchSheet$Shape" "worth" "I", Cond.fieldLink RX3 32 "TouchSheet$Shape" "places" "I", Cond.methodLink RX7 101 yX3_addPlace, Cond.instanceMethod yX3_addPlace, Cond.selects RX3 yX3_addPlace yX3_addPlace, Cond.code yX3_addPlace cX3_addPlace 3 none, Cond.fieldLink RX3 9 "TouchSheet$Shape" "xs" "[I", Cond.fieldLink RX3 15 "TouchSheet$Shape" "ys" "[I"]
def wsX7_mark_r2 : List Cond := [Cond.methodLink RX7 104 yX7_finish, Cond.instanceMethod yX7_finish, Cond.selects RX7 yX7_finish yX7_finish, Cond.code yX7_finish cX7_finish 3 (some .int), Cond.methodLink RX7 165 yX3_draw, Cond.instanceMethod yX3_draw, Cond.selects RX3 yX3_draw yX3_draw, Cond.code yX3_draw cX3_draw 1 none, Cond.fieldLink RX3 21 "TouchSheet$Shape" "pins" "LTouchSheet$Pins;", Cond.methodLink RX3 43 yX2_clear, Cond.instanceMethod yX2_clear, Cond.selects RX2 yX2_clear yX2_clear, Cond.initialized RX2, Cond.code yX2_clear cX2_clear 2 none, Cond.fieldLink RX2 9 "TouchSheet$Pins" "rows" "[I", Cond.methodLink RX3 46 yX3_drawLine, Cond.instanceMethod yX3_drawLine, Cond.selects RX3 yX3_drawLine yX3_drawLine, Cond.code yX3_drawLine cX3_drawLine 2 none, Cond.methodLink RX3 55 yX2_raise, Cond.instanceMethod yX2_raise, Cond.selects RX2 yX2_raise yX2_raise, Cond.code yX2_raise cX2_raise 3 none, Cond.methodLink RX3 58 yX3_drawStep]
def wsX7_mark_r3 : List Cond := [Cond.instanceMethod yX3_drawStep, Cond.selects RX3 yX3_drawStep yX3_drawStep, Cond.code yX3_drawStep cX3_drawStep 11 none, Cond.methodLink RX3 62 Lib.Math.abs.name, Cond.static Lib.Math.abs.name, Cond.initialized "java/lang/Math", Cond.code Lib.Math.abs.name Lib.Math.abs.code 1 (some .int), Cond.methodLink RX3 68 Lib.Math.max.name, Cond.static Lib.Math.max.name, Cond.code Lib.Math.max.name Lib.Math.max.code 2 (some .int), Cond.methodLink RX3 72 yJ9_floorDiv_7cf53, Cond.static yJ9_floorDiv_7cf53, Cond.initialized RJ9, Cond.code yJ9_floorDiv_7cf53 cJ9_floorDiv_7cf53 3 (some .int), Cond.methodLink RX3 49 yX3_drawGround, Cond.instanceMethod yX3_drawGround, Cond.selects RX3 yX3_drawGround yX3_drawGround, Cond.code yX3_drawGround cX3_drawGround 3 none, Cond.fieldLink RX3 75 "TouchSheet$Pins" "rows" "[I", Cond.methodLink RX3 52 yX3_drawMark, Cond.instanceMethod yX3_drawMark, Cond.selects RX3 yX3_drawMark yX3_drawMark, Cond.code yX3_drawMark cX3_drawMark 3 none, Cond.methodLink RX7 168 yX7_measure]
def wsX7_mark_r4 : List Cond := [Cond.instanceMethod yX7_measure, Cond.selects RX7 yX7_measure yX7_measure, Cond.code yX7_measure cX7_measure 5 none, Cond.fieldLink RX7 37 "TouchSheet" "swelling" "LTouchSheet$Pins;", Cond.fieldLink RX7 132 "TouchSheet$Shape" "pins" "LTouchSheet$Pins;", Cond.fieldLink RX7 31 "TouchSheet" "distance" "[[I", Cond.methodLink RX7 219 yX2_copy, Cond.instanceMethod yX2_copy, Cond.selects RX2 yX2_copy yX2_copy, Cond.code yX2_copy cX2_copy 3 none, Cond.methodLink RX7 114 yX7_has, Cond.static yX7_has, Cond.code yX7_has cX7_has 2 (some .boolean), Cond.methodLink RX7 222 yX2_touch, Cond.instanceMethod yX2_touch, Cond.selects RX2 yX2_touch yX2_touch, Cond.code yX2_touch cX2_touch 3 (some .boolean), Cond.methodLink RX7 226 yX2_swell, Cond.instanceMethod yX2_swell, Cond.selects RX2 yX2_swell yX2_swell, Cond.code yX2_swell cX2_swell 5 none, Cond.methodLink RX2 28 yX2_widened, Cond.static yX2_widened, Cond.code yX2_widened cX2_widened 1 (some .int)]
def wsX7_mark_r5 : List Cond := [Cond.constant RX2 31 (16777215), Cond.methodLink RX7 108 yX7_forgetAnswers, Cond.instanceMethod yX7_forgetAnswers, Cond.selects RX7 yX7_forgetAnswers yX7_forgetAnswers, Cond.code yX7_forgetAnswers cX7_forgetAnswers 1 none, Cond.fieldLink RX7 209 "TouchSheet" "keeperKnows" "Z", Cond.fieldLink RX7 213 "TouchSheet" "stackerKnows" "Z", Cond.fieldLink RX7 216 "TouchSheet" "weaverKnows" "Z"]
def wsX7_mark : List Cond := .code yX7_mark cX7_mark 5 (some .int) :: ((wsX7_mark_r1 ++ (wsX7_mark_r2 ++ (wsX7_mark_r3 ++ (wsX7_mark_r4 ++ wsX7_mark_r5)))) ++ wsX70 ++ wsX30 ++ wsX20)
def wsX7_undo : List Cond := .code yX7_undo cX7_undo 2 (some .boolean) :: ([.fieldLink RX7 94 "TouchSheet" "count" "I", .fieldLink RX7 26 "TouchSheet" "meets" "[I", .methodLink RX7 108 yX7_forgetAnswers, .instanceMethod yX7_forgetAnswers, .selects RX7 yX7_forgetAnswers yX7_forgetAnswers, .initialized RX7, .code yX7_forgetAnswers cX7_forgetAnswers 1 none, .fieldLink RX7 209 "TouchSheet" "keeperKnows" "Z", .fieldLink RX7 213 "TouchSheet" "stackerKnows" "Z", .fieldLink RX7 216 "TouchSheet" "weaverKnows" "Z"] ++ wsX70)
def wsX7_gap : List Cond := .code yX7_gap cX7_gap 2 (some .boolean) :: ([.fieldLink RX7 22 "TouchSheet" "leastGap" "I", .methodLink RX7 108 yX7_forgetAnswers, .instanceMethod yX7_forgetAnswers, .selects RX7 yX7_forgetAnswers yX7_forgetAnswers, .initialized RX7, .code yX7_forgetAnswers cX7_forgetAnswers 1 none, .fieldLink RX7 209 "TouchSheet" "keeperKnows" "Z", .fieldLink RX7 213 "TouchSheet" "stackerKnows" "Z", .fieldLink RX7 216 "TouchSheet" "weaverKnows" "Z"] ++ wsX70)
def wsX7_isShape : List Cond := .code yX7_isShape cX7_isShape 2 (some .boolean) :: ([.fieldLink RX7 94 "TouchSheet" "count" "I"] ++ wsX70)
def wsX7_meet : List Cond := .code yX7_meet cX7_meet 4 (some .boolean) :: ([.fieldLink RX7 26 "TouchSheet" "meets" "[I", .methodLink RX7 111 yX7_isShape, .instanceMethod yX7_isShape, .selects RX7 yX7_isShape yX7_isShape, .initialized RX7, .code yX7_isShape cX7_isShape 2 (some .boolean), .fieldLink RX7 94 "TouchSheet" "count" "I", .methodLink RX7 114 yX7_has, .static yX7_has, .code yX7_has cX7_has 2 (some .boolean), .methodLink RX7 108 yX7_forgetAnswers, .instanceMethod yX7_forgetAnswers, .selects RX7 yX7_forgetAnswers yX7_forgetAnswers, .code yX7_forgetAnswers cX7_forgetAnswers 1 none, .fieldLink RX7 209 "TouchSheet" "keeperKnows" "Z", .fieldLink RX7 213 "TouchSheet" "stackerKnows" "Z", .fieldLink RX7 216 "TouchSheet" "weaverKnows" "Z"] ++ wsX70)
def wsX7_isTexture : List Cond := .code yX7_isTexture cX7_isTexture 1 (some .boolean) :: ([])
def wsX7_apart : List Cond := .code yX7_apart cX7_apart 4 (some .boolean) :: ([.fieldLink RX7 65 "TouchSheet" "weaver" "LTouchSheet$Weaver;", .fieldLink RX7 120 "TouchSheet$Weaver" "apartFrom" "[I", .methodLink RX7 117 yX7_isTexture, .static yX7_isTexture, .initialized RX7, .code yX7_isTexture cX7_isTexture 1 (some .boolean), .methodLink RX7 114 yX7_has, .static yX7_has, .code yX7_has cX7_has 2 (some .boolean), .methodLink RX7 108 yX7_forgetAnswers, .instanceMethod yX7_forgetAnswers, .selects RX7 yX7_forgetAnswers yX7_forgetAnswers, .code yX7_forgetAnswers cX7_forgetAnswers 1 none, .fieldLink RX7 209 "TouchSheet" "keeperKnows" "Z", .fieldLink RX7 213 "TouchSheet" "stackerKnows" "Z", .fieldLink RX7 216 "TouchSheet" "weaverKnows" "Z"] ++ wsX70 ++ wsX60)
def wsX7_price : List Cond := .code yX7_price cX7_price 3 (some .boolean) :: ([.fieldLink RX7 65 "TouchSheet" "weaver" "LTouchSheet$Weaver;", .fieldLink RX7 123 "TouchSheet$Weaver" "prices" "[I", .methodLink RX7 117 yX7_isTexture, .static yX7_isTexture, .initialized RX7, .code yX7_isTexture cX7_isTexture 1 (some .boolean), .methodLink RX7 108 yX7_forgetAnswers, .instanceMethod yX7_forgetAnswers, .selects RX7 yX7_forgetAnswers yX7_forgetAnswers, .code yX7_forgetAnswers cX7_forgetAnswers 1 none, .fieldLink RX7 209 "TouchSheet" "keeperKnows" "Z", .fieldLink RX7 213 "TouchSheet" "stackerKnows" "Z", .fieldLink RX7 216 "TouchSheet" "weaverKnows" "Z"] ++ wsX70 ++ wsX60)
def wsX7_look : List Cond := .code yX7_look cX7_look 2 (some .int) :: ([.fieldLink RX7 94 "TouchSheet" "count" "I", .fieldLink RX7 87 "TouchSheet" "waiting" "I", .fieldLink RX7 22 "TouchSheet" "leastGap" "I"] ++ wsX70)
def wsX7_of_r1 : List Cond := [Cond.fieldLink RX7 11 "TouchSheet" "shapes" "[LTouchSheet$Shape;", Cond.fieldLink RX7 126 "TouchSheet$Shape" "kind" "I", Cond.fieldLink RX7 129 "TouchSheet$Shape" "worth" "I", Cond.fieldLink RX7 132 "TouchSheet$Shape" "pins" "LTouchSheet$Pins;", Cond.fieldLink RX7 139 "TouchSheet$Shape" "places" "I", Cond.methodLink RX7 111 yX7_isShape, Cond.instanceMethod yX7_isShape, Cond.selects RX7 yX7_isShape yX7_isShape, Cond.initialized RX7, Cond.code yX7_isShape cX7_isShape 2 (some .boolean), Cond.fieldLink RX7 94 "TouchSheet" "count" "I", Cond.methodLink RX7 135 yX2_size, Cond.instanceMethod yX2_size, Cond.selects RX2 yX2_size yX2_size, Cond.initialized RX2, Cond.code yX2_size cX2_size 3 (some .int), Cond.fieldLink RX2 9 "TouchSheet$Pins" "rows" "[I", Cond.methodLink RX2 22 yJ6_bitCount_0f7a4, Cond.static yJ6_bitCount_0f7a4, Cond.initialized RJ6, Cond.code yJ6_bitCount_0f7a4 cJ6_bitCount_0f7a4 1 (some .int), Cond.constant RJ6 265 (1431655765), Cond.constant RJ6 266 (858993459), Cond.constant RJ6 267 (252645135)]
def wsX7_of_r2 : List Cond := [Cond.methodLink RX7 142 yX3_coordinate, Cond.instanceMethod yX3_coordinate, Cond.selects RX3 yX3_coordinate yX3_coordinate, Cond.initialized RX3, Cond.code yX3_coordinate cX3_coordinate 3 (some .int), Cond.fieldLink RX3 32 "TouchSheet$Shape" "places" "I", Cond.fieldLink RX3 9 "TouchSheet$Shape" "xs" "[I", Cond.fieldLink RX3 15 "TouchSheet$Shape" "ys" "[I"]
def wsX7_of : List Cond := .code yX7_of cX7_of 4 (some .int) :: ((wsX7_of_r1 ++ wsX7_of_r2) ++ wsX70 ++ wsX30 ++ wsX20)
def wsX7_pin : List Cond := .code yX7_pin cX7_pin 4 (some .int) :: ([.fieldLink RX7 11 "TouchSheet" "shapes" "[LTouchSheet$Shape;", .fieldLink RX7 132 "TouchSheet$Shape" "pins" "LTouchSheet$Pins;", .methodLink RX7 111 yX7_isShape, .instanceMethod yX7_isShape, .selects RX7 yX7_isShape yX7_isShape, .initialized RX7, .code yX7_isShape cX7_isShape 2 (some .boolean), .fieldLink RX7 94 "TouchSheet" "count" "I", .methodLink RX7 83 yX7_isPin, .static yX7_isPin, .code yX7_isPin cX7_isPin 2 (some .boolean), .methodLink RX7 146 yX2_holds, .instanceMethod yX2_holds, .selects RX2 yX2_holds yX2_holds, .initialized RX2, .code yX2_holds cX2_holds 3 (some .boolean), .fieldLink RX2 9 "TouchSheet$Pins" "rows" "[I", .static yX7_has, .code yX7_has cX7_has 2 (some .boolean)] ++ wsX70 ++ wsX30 ++ wsX20)
def wsX7_far : List Cond := .code yX7_far cX7_far 3 (some .int) :: ([.fieldLink RX7 31 "TouchSheet" "distance" "[[I", .methodLink RX7 111 yX7_isShape, .instanceMethod yX7_isShape, .selects RX7 yX7_isShape yX7_isShape, .initialized RX7, .code yX7_isShape cX7_isShape 2 (some .boolean), .fieldLink RX7 94 "TouchSheet" "count" "I"] ++ wsX70)
def wsX7_canSimplify : List Cond := .code yX7_canSimplify cX7_canSimplify 3 (some .boolean) :: ([.fieldLink RX7 11 "TouchSheet" "shapes" "[LTouchSheet$Shape;", .fieldLink RX7 126 "TouchSheet$Shape" "kind" "I", .methodLink RX7 111 yX7_isShape, .instanceMethod yX7_isShape, .selects RX7 yX7_isShape yX7_isShape, .initialized RX7, .code yX7_isShape cX7_isShape 2 (some .boolean), .fieldLink RX7 94 "TouchSheet" "count" "I"] ++ wsX70 ++ wsX30)
def wsX7_simple_r1 : List Cond := [Cond.fieldLink RX7 44 "TouchSheet" "simpler" "LTouchSheet$Simpler;", Cond.fieldLink RX7 11 "TouchSheet" "shapes" "[LTouchSheet$Shape;", Cond.methodLink RX7 149 yX7_canSimplify, Cond.instanceMethod yX7_canSimplify, Cond.selects RX7 yX7_canSimplify yX7_canSimplify, Cond.initialized RX7, Cond.code yX7_canSimplify cX7_canSimplify 3 (some .boolean), Cond.fieldLink RX7 126 "TouchSheet$Shape" "kind" "I", Cond.methodLink RX7 111 yX7_isShape, Cond.instanceMethod yX7_isShape, Cond.selects RX7 yX7_isShape yX7_isShape, Cond.code yX7_isShape cX7_isShape 2 (some .boolean), Cond.fieldLink RX7 94 "TouchSheet" "count" "I", Cond.methodLink RX7 152 yX4_fewest, Cond.instanceMethod yX4_fewest, Cond.selects RX4 yX4_fewest yX4_fewest, Cond.initialized RX4, Cond.code yX4_fewest cX4_fewest 6 (some .int), Cond.fieldLink RX4 18 "TouchSheet$Shape" "places" "I", Cond.fieldLink RX4 9 "TouchSheet$Simpler" "fewestFrom" "[I", Cond.fieldLink RX4 15 "TouchSheet$Simpler" "nextAfter" "[I", Cond.methodLink RX4 24 yX4_canStep, Cond.static yX4_canStep, Cond.code yX4_canStep cX4_canStep 5 (some .boolean)]
def wsX7_simple_r2 : List Cond := [Cond.methodLink RX4 32 yX4_isWithin, Cond.static yX4_isWithin, Cond.code yX4_isWithin cX4_isWithin 14 (some .boolean), Cond.fieldLink RX4 36 "TouchSheet$Shape" "xs" "[I", Cond.fieldLink RX4 39 "TouchSheet$Shape" "ys" "[I", Cond.methodLink RX4 28 yX4_walk, Cond.instanceMethod yX4_walk, Cond.selects RX4 yX4_walk yX4_walk, Cond.code yX4_walk cX4_walk 5 (some .int), Cond.methodLink RX7 156 yJ6_bitCount_0f7a4, Cond.static yJ6_bitCount_0f7a4, Cond.initialized RJ6, Cond.code yJ6_bitCount_0f7a4 cJ6_bitCount_0f7a4 1 (some .int), Cond.constant RJ6 265 (1431655765), Cond.constant RJ6 266 (858993459), Cond.constant RJ6 267 (252645135)]
def wsX7_simple : List Cond := .code yX7_simple cX7_simple 5 (some .int) :: ((wsX7_simple_r1 ++ wsX7_simple_r2) ++ wsX70 ++ wsX30 ++ wsX40)
def wsX7_simplify_r1 : List Cond := [Cond.fieldLink RX7 11 "TouchSheet" "shapes" "[LTouchSheet$Shape;", Cond.fieldLink RX7 44 "TouchSheet" "simpler" "LTouchSheet$Simpler;", Cond.fieldLink RX7 139 "TouchSheet$Shape" "places" "I", Cond.methodLink RX7 149 yX7_canSimplify, Cond.instanceMethod yX7_canSimplify, Cond.selects RX7 yX7_canSimplify yX7_canSimplify, Cond.initialized RX7, Cond.code yX7_canSimplify cX7_canSimplify 3 (some .boolean), Cond.fieldLink RX7 126 "TouchSheet$Shape" "kind" "I", Cond.methodLink RX7 111 yX7_isShape, Cond.instanceMethod yX7_isShape, Cond.selects RX7 yX7_isShape yX7_isShape, Cond.code yX7_isShape cX7_isShape 2 (some .boolean), Cond.fieldLink RX7 94 "TouchSheet" "count" "I", Cond.methodLink RX7 152 yX4_fewest, Cond.instanceMethod yX4_fewest, Cond.selects RX4 yX4_fewest yX4_fewest, Cond.initialized RX4, Cond.code yX4_fewest cX4_fewest 6 (some .int), Cond.fieldLink RX4 18 "TouchSheet$Shape" "places" "I", Cond.fieldLink RX4 9 "TouchSheet$Simpler" "fewestFrom" "[I", Cond.fieldLink RX4 15 "TouchSheet$Simpler" "nextAfter" "[I", Cond.methodLink RX4 24 yX4_canStep, Cond.static yX4_canStep]
def wsX7_simplify_r2 : List Cond := [Cond.code yX4_canStep cX4_canStep 5 (some .boolean), Cond.methodLink RX4 32 yX4_isWithin, Cond.static yX4_isWithin, Cond.code yX4_isWithin cX4_isWithin 14 (some .boolean), Cond.fieldLink RX4 36 "TouchSheet$Shape" "xs" "[I", Cond.fieldLink RX4 39 "TouchSheet$Shape" "ys" "[I", Cond.methodLink RX4 28 yX4_walk, Cond.instanceMethod yX4_walk, Cond.selects RX4 yX4_walk yX4_walk, Cond.code yX4_walk cX4_walk 5 (some .int), Cond.methodLink RX7 161 yX3_keepPlaces, Cond.instanceMethod yX3_keepPlaces, Cond.selects RX3 yX3_keepPlaces yX3_keepPlaces, Cond.initialized RX3, Cond.code yX3_keepPlaces cX3_keepPlaces 4 none, Cond.fieldLink RX3 32 "TouchSheet$Shape" "places" "I", Cond.fieldLink RX3 9 "TouchSheet$Shape" "xs" "[I", Cond.fieldLink RX3 15 "TouchSheet$Shape" "ys" "[I", Cond.static yX7_has, Cond.code yX7_has cX7_has 2 (some .boolean), Cond.methodLink RX3 39 yX3_addPlace, Cond.instanceMethod yX3_addPlace, Cond.selects RX3 yX3_addPlace yX3_addPlace, Cond.code yX3_addPlace cX3_addPlace 3 none]
def wsX7_simplify_r3 : List Cond := [Cond.methodLink RX7 165 yX3_draw, Cond.instanceMethod yX3_draw, Cond.selects RX3 yX3_draw yX3_draw, Cond.code yX3_draw cX3_draw 1 none, Cond.fieldLink RX3 21 "TouchSheet$Shape" "pins" "LTouchSheet$Pins;", Cond.fieldLink RX3 25 "TouchSheet$Shape" "kind" "I", Cond.methodLink RX3 43 yX2_clear, Cond.instanceMethod yX2_clear, Cond.selects RX2 yX2_clear yX2_clear, Cond.initialized RX2, Cond.code yX2_clear cX2_clear 2 none, Cond.fieldLink RX2 9 "TouchSheet$Pins" "rows" "[I", Cond.methodLink RX3 46 yX3_drawLine, Cond.instanceMethod yX3_drawLine, Cond.selects RX3 yX3_drawLine yX3_drawLine, Cond.code yX3_drawLine cX3_drawLine 2 none, Cond.methodLink RX3 55 yX2_raise, Cond.instanceMethod yX2_raise, Cond.selects RX2 yX2_raise yX2_raise, Cond.code yX2_raise cX2_raise 3 none, Cond.static yX7_isPin, Cond.code yX7_isPin cX7_isPin 2 (some .boolean), Cond.methodLink RX3 58 yX3_drawStep, Cond.instanceMethod yX3_drawStep]
def wsX7_simplify_r4 : List Cond := [Cond.selects RX3 yX3_drawStep yX3_drawStep, Cond.code yX3_drawStep cX3_drawStep 11 none, Cond.methodLink RX3 62 Lib.Math.abs.name, Cond.static Lib.Math.abs.name, Cond.initialized "java/lang/Math", Cond.code Lib.Math.abs.name Lib.Math.abs.code 1 (some .int), Cond.methodLink RX3 68 Lib.Math.max.name, Cond.static Lib.Math.max.name, Cond.code Lib.Math.max.name Lib.Math.max.code 2 (some .int), Cond.methodLink RX3 72 yJ9_floorDiv_7cf53, Cond.static yJ9_floorDiv_7cf53, Cond.initialized RJ9, Cond.code yJ9_floorDiv_7cf53 cJ9_floorDiv_7cf53 3 (some .int), Cond.methodLink RX3 49 yX3_drawGround, Cond.instanceMethod yX3_drawGround, Cond.selects RX3 yX3_drawGround yX3_drawGround, Cond.code yX3_drawGround cX3_drawGround 3 none, Cond.fieldLink RX3 75 "TouchSheet$Pins" "rows" "[I", Cond.methodLink RX3 52 yX3_drawMark, Cond.instanceMethod yX3_drawMark, Cond.selects RX3 yX3_drawMark yX3_drawMark, Cond.code yX3_drawMark cX3_drawMark 3 none, Cond.methodLink RX7 168 yX7_measure, Cond.instanceMethod yX7_measure]
def wsX7_simplify_r5 : List Cond := [Cond.selects RX7 yX7_measure yX7_measure, Cond.code yX7_measure cX7_measure 5 none, Cond.fieldLink RX7 37 "TouchSheet" "swelling" "LTouchSheet$Pins;", Cond.fieldLink RX7 132 "TouchSheet$Shape" "pins" "LTouchSheet$Pins;", Cond.fieldLink RX7 31 "TouchSheet" "distance" "[[I", Cond.methodLink RX7 219 yX2_copy, Cond.instanceMethod yX2_copy, Cond.selects RX2 yX2_copy yX2_copy, Cond.code yX2_copy cX2_copy 3 none, Cond.methodLink RX7 114 yX7_has, Cond.methodLink RX7 222 yX2_touch, Cond.instanceMethod yX2_touch, Cond.selects RX2 yX2_touch yX2_touch, Cond.code yX2_touch cX2_touch 3 (some .boolean), Cond.methodLink RX7 226 yX2_swell, Cond.instanceMethod yX2_swell, Cond.selects RX2 yX2_swell yX2_swell, Cond.code yX2_swell cX2_swell 5 none, Cond.methodLink RX2 28 yX2_widened, Cond.static yX2_widened, Cond.code yX2_widened cX2_widened 1 (some .int), Cond.constant RX2 31 (16777215), Cond.methodLink RX7 108 yX7_forgetAnswers, Cond.instanceMethod yX7_forgetAnswers]
def wsX7_simplify_r6 : List Cond := [Cond.selects RX7 yX7_forgetAnswers yX7_forgetAnswers, Cond.code yX7_forgetAnswers cX7_forgetAnswers 1 none, Cond.fieldLink RX7 209 "TouchSheet" "keeperKnows" "Z", Cond.fieldLink RX7 213 "TouchSheet" "stackerKnows" "Z", Cond.fieldLink RX7 216 "TouchSheet" "weaverKnows" "Z"]
def wsX7_simplify : List Cond := .code yX7_simplify cX7_simplify 4 (some .int) :: ((wsX7_simplify_r1 ++ (wsX7_simplify_r2 ++ (wsX7_simplify_r3 ++ (wsX7_simplify_r4 ++ (wsX7_simplify_r5 ++ wsX7_simplify_r6))))) ++ wsX70 ++ wsX30 ++ wsX40 ++ wsX20)
def wsX7_within : List Cond := .code yX7_within cX7_within 5 (some .int) :: ([.fieldLink RX7 94 "TouchSheet" "count" "I", .fieldLink RX7 31 "TouchSheet" "distance" "[[I"] ++ wsX70)
def wsX7_lookWhatIsNear : List Cond := .code yX7_lookWhatIsNear cX7_lookWhatIsNear 2 none :: ([.fieldLink RX7 94 "TouchSheet" "count" "I", .fieldLink RX7 69 "TouchSheet" "near" "[I", .fieldLink RX7 22 "TouchSheet" "leastGap" "I", .fieldLink RX7 26 "TouchSheet" "meets" "[I", .methodLink RX7 229 yX7_within, .instanceMethod yX7_within, .selects RX7 yX7_within yX7_within, .initialized RX7, .code yX7_within cX7_within 5 (some .int), .fieldLink RX7 31 "TouchSheet" "distance" "[[I"] ++ wsX70)
def wsX7_chosen_r1 : List Cond := [Cond.fieldLink RX7 209 "TouchSheet" "keeperKnows" "Z", Cond.fieldLink RX7 51 "TouchSheet" "keeper" "LTouchSheet$Keeper;", Cond.fieldLink RX7 11 "TouchSheet" "shapes" "[LTouchSheet$Shape;", Cond.fieldLink RX7 69 "TouchSheet" "near" "[I", Cond.fieldLink RX7 94 "TouchSheet" "count" "I", Cond.fieldLink RX7 240 "TouchSheet$Keeper" "keptSet" "I", Cond.methodLink RX7 233 yX7_lookWhatIsNear, Cond.instanceMethod yX7_lookWhatIsNear, Cond.selects RX7 yX7_lookWhatIsNear yX7_lookWhatIsNear, Cond.initialized RX7, Cond.code yX7_lookWhatIsNear cX7_lookWhatIsNear 2 none, Cond.fieldLink RX7 22 "TouchSheet" "leastGap" "I", Cond.fieldLink RX7 26 "TouchSheet" "meets" "[I", Cond.methodLink RX7 229 yX7_within, Cond.instanceMethod yX7_within, Cond.selects RX7 yX7_within yX7_within, Cond.code yX7_within cX7_within 5 (some .int), Cond.fieldLink RX7 31 "TouchSheet" "distance" "[[I", Cond.methodLink RX7 236 yX1_choose, Cond.instanceMethod yX1_choose, Cond.selects RX1 yX1_choose yX1_choose, Cond.initialized RX1, Cond.code yX1_choose cX1_choose 5 none, Cond.fieldLink RX1 9 "TouchSheet$Keeper" "weights" "[I"]
def wsX7_chosen_r2 : List Cond := [Cond.fieldLink RX1 15 "TouchSheet$Shape" "worth" "I", Cond.fieldLink RX1 25 "TouchSheet$Keeper" "keptSet" "I", Cond.static yX7_heaviest, Cond.code yX7_heaviest cX7_heaviest 7 (some .int), Cond.methodLink RX7 278 Lib.Math.max.name, Cond.static Lib.Math.max.name, Cond.initialized "java/lang/Math", Cond.code Lib.Math.max.name Lib.Math.max.code 2 (some .int), Cond.methodLink RX7 114 yX7_has, Cond.static yX7_has, Cond.code yX7_has cX7_has 2 (some .boolean), Cond.methodLink RX7 274 yX7_heaviest]
def wsX7_chosen : List Cond := .code yX7_chosen cX7_chosen 1 (some .int) :: ((wsX7_chosen_r1 ++ wsX7_chosen_r2) ++ wsX70 ++ wsX10 ++ wsX30)
def wsX7_kept_r1 : List Cond := [Cond.methodLink RX7 171 yX7_chosen, Cond.instanceMethod yX7_chosen, Cond.selects RX7 yX7_chosen yX7_chosen, Cond.initialized RX7, Cond.code yX7_chosen cX7_chosen 1 (some .int), Cond.fieldLink RX7 209 "TouchSheet" "keeperKnows" "Z", Cond.fieldLink RX7 51 "TouchSheet" "keeper" "LTouchSheet$Keeper;", Cond.fieldLink RX7 11 "TouchSheet" "shapes" "[LTouchSheet$Shape;", Cond.fieldLink RX7 69 "TouchSheet" "near" "[I", Cond.fieldLink RX7 94 "TouchSheet" "count" "I", Cond.fieldLink RX7 240 "TouchSheet$Keeper" "keptSet" "I", Cond.methodLink RX7 233 yX7_lookWhatIsNear, Cond.instanceMethod yX7_lookWhatIsNear, Cond.selects RX7 yX7_lookWhatIsNear yX7_lookWhatIsNear, Cond.code yX7_lookWhatIsNear cX7_lookWhatIsNear 2 none, Cond.fieldLink RX7 22 "TouchSheet" "leastGap" "I", Cond.fieldLink RX7 26 "TouchSheet" "meets" "[I", Cond.methodLink RX7 229 yX7_within, Cond.instanceMethod yX7_within, Cond.selects RX7 yX7_within yX7_within, Cond.code yX7_within cX7_within 5 (some .int), Cond.fieldLink RX7 31 "TouchSheet" "distance" "[[I", Cond.methodLink RX7 236 yX1_choose, Cond.instanceMethod yX1_choose]
def wsX7_kept_r2 : List Cond := [Cond.selects RX1 yX1_choose yX1_choose, Cond.initialized RX1, Cond.code yX1_choose cX1_choose 5 none, Cond.fieldLink RX1 9 "TouchSheet$Keeper" "weights" "[I", Cond.fieldLink RX1 15 "TouchSheet$Shape" "worth" "I", Cond.fieldLink RX1 25 "TouchSheet$Keeper" "keptSet" "I", Cond.static yX7_heaviest, Cond.code yX7_heaviest cX7_heaviest 7 (some .int), Cond.methodLink RX7 278 Lib.Math.max.name, Cond.static Lib.Math.max.name, Cond.initialized "java/lang/Math", Cond.code Lib.Math.max.name Lib.Math.max.code 2 (some .int), Cond.methodLink RX7 114 yX7_has, Cond.static yX7_has, Cond.code yX7_has cX7_has 2 (some .boolean), Cond.methodLink RX7 274 yX7_heaviest]
def wsX7_kept : List Cond := .code yX7_kept cX7_kept 1 (some .int) :: ((wsX7_kept_r1 ++ wsX7_kept_r2) ++ wsX70 ++ wsX10 ++ wsX30)
def wsX7_loss_r1 : List Cond := [Cond.fieldLink RX7 94 "TouchSheet" "count" "I", Cond.fieldLink RX7 11 "TouchSheet" "shapes" "[LTouchSheet$Shape;", Cond.fieldLink RX7 129 "TouchSheet$Shape" "worth" "I", Cond.methodLink RX7 171 yX7_chosen, Cond.instanceMethod yX7_chosen, Cond.selects RX7 yX7_chosen yX7_chosen, Cond.initialized RX7, Cond.code yX7_chosen cX7_chosen 1 (some .int), Cond.fieldLink RX7 209 "TouchSheet" "keeperKnows" "Z", Cond.fieldLink RX7 51 "TouchSheet" "keeper" "LTouchSheet$Keeper;", Cond.fieldLink RX7 69 "TouchSheet" "near" "[I", Cond.fieldLink RX7 240 "TouchSheet$Keeper" "keptSet" "I", Cond.methodLink RX7 233 yX7_lookWhatIsNear, Cond.instanceMethod yX7_lookWhatIsNear, Cond.selects RX7 yX7_lookWhatIsNear yX7_lookWhatIsNear, Cond.code yX7_lookWhatIsNear cX7_lookWhatIsNear 2 none, Cond.fieldLink RX7 22 "TouchSheet" "leastGap" "I", Cond.fieldLink RX7 26 "TouchSheet" "meets" "[I", Cond.methodLink RX7 229 yX7_within, Cond.instanceMethod yX7_within, Cond.selects RX7 yX7_within yX7_within, Cond.code yX7_within cX7_within 5 (some .int), Cond.fieldLink RX7 31 "TouchSheet" "distance" "[[I", Cond.methodLink RX7 236 yX1_choose]
def wsX7_loss_r2 : List Cond := [Cond.instanceMethod yX1_choose, Cond.selects RX1 yX1_choose yX1_choose, Cond.initialized RX1, Cond.code yX1_choose cX1_choose 5 none, Cond.fieldLink RX1 9 "TouchSheet$Keeper" "weights" "[I", Cond.fieldLink RX1 15 "TouchSheet$Shape" "worth" "I", Cond.fieldLink RX1 25 "TouchSheet$Keeper" "keptSet" "I", Cond.static yX7_heaviest, Cond.code yX7_heaviest cX7_heaviest 7 (some .int), Cond.methodLink RX7 278 Lib.Math.max.name, Cond.static Lib.Math.max.name, Cond.initialized "java/lang/Math", Cond.code Lib.Math.max.name Lib.Math.max.code 2 (some .int), Cond.methodLink RX7 114 yX7_has, Cond.static yX7_has, Cond.code yX7_has cX7_has 2 (some .boolean), Cond.methodLink RX7 274 yX7_heaviest]
def wsX7_loss : List Cond := .code yX7_loss cX7_loss 4 (some .int) :: ((wsX7_loss_r1 ++ wsX7_loss_r2) ++ wsX70 ++ wsX30 ++ wsX10)
def wsX7_stack_r1 : List Cond := [Cond.fieldLink RX7 213 "TouchSheet" "stackerKnows" "Z", Cond.fieldLink RX7 58 "TouchSheet" "stacker" "LTouchSheet$Stacker;", Cond.fieldLink RX7 69 "TouchSheet" "near" "[I", Cond.fieldLink RX7 94 "TouchSheet" "count" "I", Cond.methodLink RX7 233 yX7_lookWhatIsNear, Cond.instanceMethod yX7_lookWhatIsNear, Cond.selects RX7 yX7_lookWhatIsNear yX7_lookWhatIsNear, Cond.initialized RX7, Cond.code yX7_lookWhatIsNear cX7_lookWhatIsNear 2 none, Cond.fieldLink RX7 22 "TouchSheet" "leastGap" "I", Cond.fieldLink RX7 26 "TouchSheet" "meets" "[I", Cond.methodLink RX7 229 yX7_within, Cond.instanceMethod yX7_within, Cond.selects RX7 yX7_within yX7_within, Cond.code yX7_within cX7_within 5 (some .int), Cond.fieldLink RX7 31 "TouchSheet" "distance" "[[I", Cond.methodLink RX7 243 yX5_lay, Cond.instanceMethod yX5_lay, Cond.selects RX5 yX5_lay yX5_lay, Cond.initialized RX5, Cond.code yX5_lay cX5_lay 5 none, Cond.fieldLink RX5 15 "TouchSheet$Stacker" "notNear" "[I", Cond.fieldLink RX5 18 "TouchSheet$Stacker" "ones" "[I", Cond.fieldLink RX5 32 "TouchSheet$Stacker" "sheetCount" "I"]
def wsX7_stack_r2 : List Cond := [Cond.static yX7_heaviest, Cond.code yX7_heaviest cX7_heaviest 7 (some .int), Cond.methodLink RX7 278 Lib.Math.max.name, Cond.static Lib.Math.max.name, Cond.initialized "java/lang/Math", Cond.code Lib.Math.max.name Lib.Math.max.code 2 (some .int), Cond.methodLink RX7 114 yX7_has, Cond.static yX7_has, Cond.code yX7_has cX7_has 2 (some .boolean), Cond.methodLink RX7 274 yX7_heaviest, Cond.methodLink RX5 28 yX5_layOn, Cond.instanceMethod yX5_layOn, Cond.selects RX5 yX5_layOn yX5_layOn, Cond.code yX5_layOn cX5_layOn 5 (some .boolean), Cond.fieldLink RX5 9 "TouchSheet$Stacker" "heldBy" "[I", Cond.methodLink RX5 36 yX5_place, Cond.instanceMethod yX5_place, Cond.selects RX5 yX5_place yX5_place, Cond.code yX5_place cX5_place 8 (some .boolean), Cond.fieldLink RX5 21 "TouchSheet$Stacker" "sheetOf" "[I", Cond.methodLink RX5 40 Lib.Math.max.name]
def wsX7_stack : List Cond := .code yX7_stack cX7_stack 1 none :: ((wsX7_stack_r1 ++ wsX7_stack_r2) ++ wsX70 ++ wsX50)
def wsX7_sheets_r1 : List Cond := [Cond.fieldLink RX7 58 "TouchSheet" "stacker" "LTouchSheet$Stacker;", Cond.fieldLink RX7 177 "TouchSheet$Stacker" "sheetCount" "I", Cond.methodLink RX7 174 yX7_stack, Cond.instanceMethod yX7_stack, Cond.selects RX7 yX7_stack yX7_stack, Cond.initialized RX7, Cond.code yX7_stack cX7_stack 1 none, Cond.fieldLink RX7 213 "TouchSheet" "stackerKnows" "Z", Cond.fieldLink RX7 69 "TouchSheet" "near" "[I", Cond.fieldLink RX7 94 "TouchSheet" "count" "I", Cond.methodLink RX7 233 yX7_lookWhatIsNear, Cond.instanceMethod yX7_lookWhatIsNear, Cond.selects RX7 yX7_lookWhatIsNear yX7_lookWhatIsNear, Cond.code yX7_lookWhatIsNear cX7_lookWhatIsNear 2 none, Cond.fieldLink RX7 22 "TouchSheet" "leastGap" "I", Cond.fieldLink RX7 26 "TouchSheet" "meets" "[I", Cond.methodLink RX7 229 yX7_within, Cond.instanceMethod yX7_within, Cond.selects RX7 yX7_within yX7_within, Cond.code yX7_within cX7_within 5 (some .int), Cond.fieldLink RX7 31 "TouchSheet" "distance" "[[I", Cond.methodLink RX7 243 yX5_lay, Cond.instanceMethod yX5_lay, Cond.selects RX5 yX5_lay yX5_lay]
def wsX7_sheets_r2 : List Cond := [Cond.initialized RX5, Cond.code yX5_lay cX5_lay 5 none, Cond.fieldLink RX5 15 "TouchSheet$Stacker" "notNear" "[I", Cond.fieldLink RX5 18 "TouchSheet$Stacker" "ones" "[I", Cond.fieldLink RX5 32 "TouchSheet$Stacker" "sheetCount" "I", Cond.static yX7_heaviest, Cond.code yX7_heaviest cX7_heaviest 7 (some .int), Cond.methodLink RX7 278 Lib.Math.max.name, Cond.static Lib.Math.max.name, Cond.initialized "java/lang/Math", Cond.code Lib.Math.max.name Lib.Math.max.code 2 (some .int), Cond.methodLink RX7 114 yX7_has, Cond.static yX7_has, Cond.code yX7_has cX7_has 2 (some .boolean), Cond.methodLink RX7 274 yX7_heaviest, Cond.methodLink RX5 28 yX5_layOn, Cond.instanceMethod yX5_layOn, Cond.selects RX5 yX5_layOn yX5_layOn, Cond.code yX5_layOn cX5_layOn 5 (some .boolean), Cond.fieldLink RX5 9 "TouchSheet$Stacker" "heldBy" "[I", Cond.methodLink RX5 36 yX5_place, Cond.instanceMethod yX5_place, Cond.selects RX5 yX5_place yX5_place, Cond.code yX5_place cX5_place 8 (some .boolean)]
def wsX7_sheets_r3 : List Cond := [Cond.fieldLink RX5 21 "TouchSheet$Stacker" "sheetOf" "[I", Cond.methodLink RX5 40 Lib.Math.max.name]
def wsX7_sheets : List Cond := .code yX7_sheets cX7_sheets 1 (some .int) :: ((wsX7_sheets_r1 ++ (wsX7_sheets_r2 ++ wsX7_sheets_r3)) ++ wsX70 ++ wsX50)
def wsX7_sheet_r1 : List Cond := [Cond.fieldLink RX7 58 "TouchSheet" "stacker" "LTouchSheet$Stacker;", Cond.fieldLink RX7 180 "TouchSheet$Stacker" "sheetOf" "[I", Cond.methodLink RX7 111 yX7_isShape, Cond.instanceMethod yX7_isShape, Cond.selects RX7 yX7_isShape yX7_isShape, Cond.initialized RX7, Cond.code yX7_isShape cX7_isShape 2 (some .boolean), Cond.fieldLink RX7 94 "TouchSheet" "count" "I", Cond.methodLink RX7 174 yX7_stack, Cond.instanceMethod yX7_stack, Cond.selects RX7 yX7_stack yX7_stack, Cond.code yX7_stack cX7_stack 1 none, Cond.fieldLink RX7 213 "TouchSheet" "stackerKnows" "Z", Cond.fieldLink RX7 69 "TouchSheet" "near" "[I", Cond.methodLink RX7 233 yX7_lookWhatIsNear, Cond.instanceMethod yX7_lookWhatIsNear, Cond.selects RX7 yX7_lookWhatIsNear yX7_lookWhatIsNear, Cond.code yX7_lookWhatIsNear cX7_lookWhatIsNear 2 none, Cond.fieldLink RX7 22 "TouchSheet" "leastGap" "I", Cond.fieldLink RX7 26 "TouchSheet" "meets" "[I", Cond.methodLink RX7 229 yX7_within, Cond.instanceMethod yX7_within, Cond.selects RX7 yX7_within yX7_within, Cond.code yX7_within cX7_within 5 (some .int)]
def wsX7_sheet_r2 : List Cond := [Cond.fieldLink RX7 31 "TouchSheet" "distance" "[[I", Cond.methodLink RX7 243 yX5_lay, Cond.instanceMethod yX5_lay, Cond.selects RX5 yX5_lay yX5_lay, Cond.initialized RX5, Cond.code yX5_lay cX5_lay 5 none, Cond.fieldLink RX5 15 "TouchSheet$Stacker" "notNear" "[I", Cond.fieldLink RX5 18 "TouchSheet$Stacker" "ones" "[I", Cond.fieldLink RX5 32 "TouchSheet$Stacker" "sheetCount" "I", Cond.static yX7_heaviest, Cond.code yX7_heaviest cX7_heaviest 7 (some .int), Cond.methodLink RX7 278 Lib.Math.max.name, Cond.static Lib.Math.max.name, Cond.initialized "java/lang/Math", Cond.code Lib.Math.max.name Lib.Math.max.code 2 (some .int), Cond.methodLink RX7 114 yX7_has, Cond.static yX7_has, Cond.code yX7_has cX7_has 2 (some .boolean), Cond.methodLink RX7 274 yX7_heaviest, Cond.methodLink RX5 28 yX5_layOn, Cond.instanceMethod yX5_layOn, Cond.selects RX5 yX5_layOn yX5_layOn, Cond.code yX5_layOn cX5_layOn 5 (some .boolean), Cond.fieldLink RX5 9 "TouchSheet$Stacker" "heldBy" "[I"]
def wsX7_sheet_r3 : List Cond := [Cond.methodLink RX5 36 yX5_place, Cond.instanceMethod yX5_place, Cond.selects RX5 yX5_place yX5_place, Cond.code yX5_place cX5_place 8 (some .boolean), Cond.fieldLink RX5 21 "TouchSheet$Stacker" "sheetOf" "[I", Cond.methodLink RX5 40 Lib.Math.max.name]
def wsX7_sheet : List Cond := .code yX7_sheet cX7_sheet 2 (some .int) :: ((wsX7_sheet_r1 ++ (wsX7_sheet_r2 ++ wsX7_sheet_r3)) ++ wsX70 ++ wsX50)
def wsX7_groundSet : List Cond := .code yX7_groundSet cX7_groundSet 3 (some .int) :: ([.fieldLink RX7 94 "TouchSheet" "count" "I", .fieldLink RX7 11 "TouchSheet" "shapes" "[LTouchSheet$Shape;", .fieldLink RX7 126 "TouchSheet$Shape" "kind" "I"] ++ wsX70 ++ wsX30)
def wsX7_weave_r1 : List Cond := [Cond.fieldLink RX7 216 "TouchSheet" "weaverKnows" "Z", Cond.fieldLink RX7 94 "TouchSheet" "count" "I", Cond.fieldLink RX7 65 "TouchSheet" "weaver" "LTouchSheet$Weaver;", Cond.fieldLink RX7 250 "TouchSheet$Weaver" "neighbours" "[I", Cond.methodLink RX7 247 yX7_groundSet, Cond.instanceMethod yX7_groundSet, Cond.selects RX7 yX7_groundSet yX7_groundSet, Cond.initialized RX7, Cond.code yX7_groundSet cX7_groundSet 3 (some .int), Cond.fieldLink RX7 11 "TouchSheet" "shapes" "[LTouchSheet$Shape;", Cond.fieldLink RX7 126 "TouchSheet$Shape" "kind" "I", Cond.methodLink RX7 229 yX7_within, Cond.instanceMethod yX7_within, Cond.selects RX7 yX7_within yX7_within, Cond.code yX7_within cX7_within 5 (some .int), Cond.fieldLink RX7 31 "TouchSheet" "distance" "[[I", Cond.methodLink RX7 253 yX6_giveTextures, Cond.instanceMethod yX6_giveTextures, Cond.selects RX6 yX6_giveTextures yX6_giveTextures, Cond.initialized RX6, Cond.code yX6_giveTextures cX6_giveTextures 3 none, Cond.fieldLink RX6 35 "TouchSheet$Weaver" "grounds" "I", Cond.fieldLink RX6 32 "TouchSheet$Weaver" "open" "[[I", Cond.constantLong RX6 42 (1152921504606846976)]
def wsX7_weave_r2 : List Cond := [Cond.fieldLink RX6 48 "TouchSheet$Weaver" "best" "J", Cond.methodLink RX6 39 yX6_rankTextures, Cond.instanceMethod yX6_rankTextures, Cond.selects RX6 yX6_rankTextures yX6_rankTextures, Cond.code yX6_rankTextures cX6_rankTextures 5 none, Cond.fieldLink RX6 15 "TouchSheet$Weaver" "prices" "[I", Cond.fieldLink RX6 21 "TouchSheet$Weaver" "byPrice" "[I", Cond.fieldLink RX6 24 "TouchSheet$Weaver" "cheapest" "[I", Cond.methodLink RX6 60 yX6_firstByPrice, Cond.instanceMethod yX6_firstByPrice, Cond.selects RX6 yX6_firstByPrice yX6_firstByPrice, Cond.code yX6_firstByPrice cX6_firstByPrice 3 (some .int), Cond.static yX7_has, Cond.code yX7_has cX7_has 2 (some .boolean), Cond.methodLink RX6 44 yX6_leastBelow, Cond.instanceMethod yX6_leastBelow, Cond.selects RX6 yX6_leastBelow yX6_leastBelow, Cond.code yX6_leastBelow cX6_leastBelow 13 (some .long), Cond.methodLink RX6 63 yX6_cheapestWeight, Cond.instanceMethod yX6_cheapestWeight, Cond.selects RX6 yX6_cheapestWeight yX6_cheapestWeight, Cond.code yX6_cheapestWeight cX6_cheapestWeight 6 (some .long), Cond.methodLink RX6 83 yX6_weight, Cond.instanceMethod yX6_weight]
def wsX7_weave_r3 : List Cond := [Cond.selects RX6 yX6_weight yX6_weight, Cond.code yX6_weight cX6_weight 3 (some .long), Cond.methodLink RX6 56 yX6_placeOf, Cond.static yX6_placeOf, Cond.code yX6_placeOf cX6_placeOf 1 (some .int), Cond.methodLink RX6 67 yX6_clashing, Cond.instanceMethod yX6_clashing, Cond.selects RX6 yX6_clashing yX6_clashing, Cond.code yX6_clashing cX6_clashing 8 (some .int), Cond.fieldLink RX6 18 "TouchSheet$Weaver" "neighbours" "[I", Cond.methodLink RX6 87 yX6_listTakers, Cond.instanceMethod yX6_listTakers, Cond.selects RX6 yX6_listTakers yX6_listTakers, Cond.code yX6_listTakers cX6_listTakers 4 none, Cond.fieldLink RX6 27 "TouchSheet$Weaver" "takers" "[I", Cond.methodLink RX6 91 yX6_clashWith, Cond.instanceMethod yX6_clashWith, Cond.selects RX6 yX6_clashWith yX6_clashWith, Cond.code yX6_clashWith cX6_clashWith 4 (some .int), Cond.fieldLink RX6 11 "TouchSheet$Weaver" "apartFrom" "[I", Cond.methodLink RX6 94 yJ6_bitCount_0f7a4, Cond.static yJ6_bitCount_0f7a4, Cond.initialized RJ6, Cond.code yJ6_bitCount_0f7a4 cJ6_bitCount_0f7a4 1 (some .int)]
def wsX7_weave_r4 : List Cond := [Cond.constant RJ6 265 (1431655765), Cond.constant RJ6 266 (858993459), Cond.constant RJ6 267 (252645135), Cond.methodLink RX6 71 yX6_groupOf, Cond.instanceMethod yX6_groupOf, Cond.selects RX6 yX6_groupOf yX6_groupOf, Cond.code yX6_groupOf cX6_groupOf 7 (some .int), Cond.methodLink RX6 75 yX6_tryEach, Cond.instanceMethod yX6_tryEach, Cond.selects RX6 yX6_tryEach yX6_tryEach, Cond.code yX6_tryEach cX6_tryEach 15 (some .long), Cond.methodLink RX6 79 yX6_give, Cond.instanceMethod yX6_give, Cond.selects RX6 yX6_give yX6_give, Cond.code yX6_give cX6_give 7 none]
def wsX7_weave : List Cond := .code yX7_weave cX7_weave 3 none :: ((wsX7_weave_r1 ++ (wsX7_weave_r2 ++ (wsX7_weave_r3 ++ wsX7_weave_r4))) ++ wsX70 ++ wsX60 ++ wsX30)
def wsX7_texture_r1 : List Cond := [Cond.fieldLink RX7 65 "TouchSheet" "weaver" "LTouchSheet$Weaver;", Cond.methodLink RX7 111 yX7_isShape, Cond.instanceMethod yX7_isShape, Cond.selects RX7 yX7_isShape yX7_isShape, Cond.initialized RX7, Cond.code yX7_isShape cX7_isShape 2 (some .boolean), Cond.fieldLink RX7 94 "TouchSheet" "count" "I", Cond.methodLink RX7 183 yX7_weave, Cond.instanceMethod yX7_weave, Cond.selects RX7 yX7_weave yX7_weave, Cond.code yX7_weave cX7_weave 3 none, Cond.fieldLink RX7 216 "TouchSheet" "weaverKnows" "Z", Cond.fieldLink RX7 250 "TouchSheet$Weaver" "neighbours" "[I", Cond.methodLink RX7 247 yX7_groundSet, Cond.instanceMethod yX7_groundSet, Cond.selects RX7 yX7_groundSet yX7_groundSet, Cond.code yX7_groundSet cX7_groundSet 3 (some .int), Cond.fieldLink RX7 11 "TouchSheet" "shapes" "[LTouchSheet$Shape;", Cond.fieldLink RX7 126 "TouchSheet$Shape" "kind" "I", Cond.methodLink RX7 229 yX7_within, Cond.instanceMethod yX7_within, Cond.selects RX7 yX7_within yX7_within, Cond.code yX7_within cX7_within 5 (some .int), Cond.fieldLink RX7 31 "TouchSheet" "distance" "[[I"]
def wsX7_texture_r2 : List Cond := [Cond.methodLink RX7 253 yX6_giveTextures, Cond.instanceMethod yX6_giveTextures, Cond.selects RX6 yX6_giveTextures yX6_giveTextures, Cond.initialized RX6, Cond.code yX6_giveTextures cX6_giveTextures 3 none, Cond.fieldLink RX6 35 "TouchSheet$Weaver" "grounds" "I", Cond.fieldLink RX6 32 "TouchSheet$Weaver" "open" "[[I", Cond.constantLong RX6 42 (1152921504606846976), Cond.fieldLink RX6 48 "TouchSheet$Weaver" "best" "J", Cond.methodLink RX6 39 yX6_rankTextures, Cond.instanceMethod yX6_rankTextures, Cond.selects RX6 yX6_rankTextures yX6_rankTextures, Cond.code yX6_rankTextures cX6_rankTextures 5 none, Cond.fieldLink RX6 15 "TouchSheet$Weaver" "prices" "[I", Cond.fieldLink RX6 21 "TouchSheet$Weaver" "byPrice" "[I", Cond.fieldLink RX6 24 "TouchSheet$Weaver" "cheapest" "[I", Cond.methodLink RX6 60 yX6_firstByPrice, Cond.instanceMethod yX6_firstByPrice, Cond.selects RX6 yX6_firstByPrice yX6_firstByPrice, Cond.code yX6_firstByPrice cX6_firstByPrice 3 (some .int), Cond.static yX7_has, Cond.code yX7_has cX7_has 2 (some .boolean), Cond.methodLink RX6 44 yX6_leastBelow, Cond.instanceMethod yX6_leastBelow]
def wsX7_texture_r3 : List Cond := [Cond.selects RX6 yX6_leastBelow yX6_leastBelow, Cond.code yX6_leastBelow cX6_leastBelow 13 (some .long), Cond.methodLink RX6 63 yX6_cheapestWeight, Cond.instanceMethod yX6_cheapestWeight, Cond.selects RX6 yX6_cheapestWeight yX6_cheapestWeight, Cond.code yX6_cheapestWeight cX6_cheapestWeight 6 (some .long), Cond.methodLink RX6 83 yX6_weight, Cond.instanceMethod yX6_weight, Cond.selects RX6 yX6_weight yX6_weight, Cond.code yX6_weight cX6_weight 3 (some .long), Cond.methodLink RX6 56 yX6_placeOf, Cond.static yX6_placeOf, Cond.code yX6_placeOf cX6_placeOf 1 (some .int), Cond.methodLink RX6 67 yX6_clashing, Cond.instanceMethod yX6_clashing, Cond.selects RX6 yX6_clashing yX6_clashing, Cond.code yX6_clashing cX6_clashing 8 (some .int), Cond.fieldLink RX6 18 "TouchSheet$Weaver" "neighbours" "[I", Cond.methodLink RX6 87 yX6_listTakers, Cond.instanceMethod yX6_listTakers, Cond.selects RX6 yX6_listTakers yX6_listTakers, Cond.code yX6_listTakers cX6_listTakers 4 none, Cond.fieldLink RX6 27 "TouchSheet$Weaver" "takers" "[I", Cond.methodLink RX6 91 yX6_clashWith]
def wsX7_texture_r4 : List Cond := [Cond.instanceMethod yX6_clashWith, Cond.selects RX6 yX6_clashWith yX6_clashWith, Cond.code yX6_clashWith cX6_clashWith 4 (some .int), Cond.fieldLink RX6 11 "TouchSheet$Weaver" "apartFrom" "[I", Cond.methodLink RX6 94 yJ6_bitCount_0f7a4, Cond.static yJ6_bitCount_0f7a4, Cond.initialized RJ6, Cond.code yJ6_bitCount_0f7a4 cJ6_bitCount_0f7a4 1 (some .int), Cond.constant RJ6 265 (1431655765), Cond.constant RJ6 266 (858993459), Cond.constant RJ6 267 (252645135), Cond.methodLink RX6 71 yX6_groupOf, Cond.instanceMethod yX6_groupOf, Cond.selects RX6 yX6_groupOf yX6_groupOf, Cond.code yX6_groupOf cX6_groupOf 7 (some .int), Cond.methodLink RX6 75 yX6_tryEach, Cond.instanceMethod yX6_tryEach, Cond.selects RX6 yX6_tryEach yX6_tryEach, Cond.code yX6_tryEach cX6_tryEach 15 (some .long), Cond.methodLink RX6 79 yX6_give, Cond.instanceMethod yX6_give, Cond.selects RX6 yX6_give yX6_give, Cond.code yX6_give cX6_give 7 none, Cond.methodLink RX7 186 yX6_textureOf]
def wsX7_texture_r5 : List Cond := [Cond.instanceMethod yX6_textureOf, Cond.selects RX6 yX6_textureOf yX6_textureOf, Cond.code yX6_textureOf cX6_textureOf 2 (some .int)]
def wsX7_texture : List Cond := .code yX7_texture cX7_texture 2 (some .int) :: ((wsX7_texture_r1 ++ (wsX7_texture_r2 ++ (wsX7_texture_r3 ++ (wsX7_texture_r4 ++ wsX7_texture_r5)))) ++ wsX70 ++ wsX60 ++ wsX30)
def wsX7_cost_r1 : List Cond := [Cond.fieldLink RX7 65 "TouchSheet" "weaver" "LTouchSheet$Weaver;", Cond.methodLink RX7 183 yX7_weave, Cond.instanceMethod yX7_weave, Cond.selects RX7 yX7_weave yX7_weave, Cond.initialized RX7, Cond.code yX7_weave cX7_weave 3 none, Cond.fieldLink RX7 216 "TouchSheet" "weaverKnows" "Z", Cond.fieldLink RX7 94 "TouchSheet" "count" "I", Cond.fieldLink RX7 250 "TouchSheet$Weaver" "neighbours" "[I", Cond.methodLink RX7 247 yX7_groundSet, Cond.instanceMethod yX7_groundSet, Cond.selects RX7 yX7_groundSet yX7_groundSet, Cond.code yX7_groundSet cX7_groundSet 3 (some .int), Cond.fieldLink RX7 11 "TouchSheet" "shapes" "[LTouchSheet$Shape;", Cond.fieldLink RX7 126 "TouchSheet$Shape" "kind" "I", Cond.methodLink RX7 229 yX7_within, Cond.instanceMethod yX7_within, Cond.selects RX7 yX7_within yX7_within, Cond.code yX7_within cX7_within 5 (some .int), Cond.fieldLink RX7 31 "TouchSheet" "distance" "[[I", Cond.methodLink RX7 253 yX6_giveTextures, Cond.instanceMethod yX6_giveTextures, Cond.selects RX6 yX6_giveTextures yX6_giveTextures, Cond.initialized RX6]
def wsX7_cost_r2 : List Cond := [Cond.code yX6_giveTextures cX6_giveTextures 3 none, Cond.fieldLink RX6 35 "TouchSheet$Weaver" "grounds" "I", Cond.fieldLink RX6 32 "TouchSheet$Weaver" "open" "[[I", Cond.constantLong RX6 42 (1152921504606846976), Cond.fieldLink RX6 48 "TouchSheet$Weaver" "best" "J", Cond.methodLink RX6 39 yX6_rankTextures, Cond.instanceMethod yX6_rankTextures, Cond.selects RX6 yX6_rankTextures yX6_rankTextures, Cond.code yX6_rankTextures cX6_rankTextures 5 none, Cond.fieldLink RX6 15 "TouchSheet$Weaver" "prices" "[I", Cond.fieldLink RX6 21 "TouchSheet$Weaver" "byPrice" "[I", Cond.fieldLink RX6 24 "TouchSheet$Weaver" "cheapest" "[I", Cond.methodLink RX6 60 yX6_firstByPrice, Cond.instanceMethod yX6_firstByPrice, Cond.selects RX6 yX6_firstByPrice yX6_firstByPrice, Cond.code yX6_firstByPrice cX6_firstByPrice 3 (some .int), Cond.static yX7_has, Cond.code yX7_has cX7_has 2 (some .boolean), Cond.methodLink RX6 44 yX6_leastBelow, Cond.instanceMethod yX6_leastBelow, Cond.selects RX6 yX6_leastBelow yX6_leastBelow, Cond.code yX6_leastBelow cX6_leastBelow 13 (some .long), Cond.methodLink RX6 63 yX6_cheapestWeight, Cond.instanceMethod yX6_cheapestWeight]
def wsX7_cost_r3 : List Cond := [Cond.selects RX6 yX6_cheapestWeight yX6_cheapestWeight, Cond.code yX6_cheapestWeight cX6_cheapestWeight 6 (some .long), Cond.methodLink RX6 83 yX6_weight, Cond.instanceMethod yX6_weight, Cond.selects RX6 yX6_weight yX6_weight, Cond.code yX6_weight cX6_weight 3 (some .long), Cond.methodLink RX6 56 yX6_placeOf, Cond.static yX6_placeOf, Cond.code yX6_placeOf cX6_placeOf 1 (some .int), Cond.methodLink RX6 67 yX6_clashing, Cond.instanceMethod yX6_clashing, Cond.selects RX6 yX6_clashing yX6_clashing, Cond.code yX6_clashing cX6_clashing 8 (some .int), Cond.fieldLink RX6 18 "TouchSheet$Weaver" "neighbours" "[I", Cond.methodLink RX6 87 yX6_listTakers, Cond.instanceMethod yX6_listTakers, Cond.selects RX6 yX6_listTakers yX6_listTakers, Cond.code yX6_listTakers cX6_listTakers 4 none, Cond.fieldLink RX6 27 "TouchSheet$Weaver" "takers" "[I", Cond.methodLink RX6 91 yX6_clashWith, Cond.instanceMethod yX6_clashWith, Cond.selects RX6 yX6_clashWith yX6_clashWith, Cond.code yX6_clashWith cX6_clashWith 4 (some .int), Cond.fieldLink RX6 11 "TouchSheet$Weaver" "apartFrom" "[I"]
def wsX7_cost_r4 : List Cond := [Cond.methodLink RX6 94 yJ6_bitCount_0f7a4, Cond.static yJ6_bitCount_0f7a4, Cond.initialized RJ6, Cond.code yJ6_bitCount_0f7a4 cJ6_bitCount_0f7a4 1 (some .int), Cond.constant RJ6 265 (1431655765), Cond.constant RJ6 266 (858993459), Cond.constant RJ6 267 (252645135), Cond.methodLink RX6 71 yX6_groupOf, Cond.instanceMethod yX6_groupOf, Cond.selects RX6 yX6_groupOf yX6_groupOf, Cond.code yX6_groupOf cX6_groupOf 7 (some .int), Cond.methodLink RX6 75 yX6_tryEach, Cond.instanceMethod yX6_tryEach, Cond.selects RX6 yX6_tryEach yX6_tryEach, Cond.code yX6_tryEach cX6_tryEach 15 (some .long), Cond.methodLink RX6 79 yX6_give, Cond.instanceMethod yX6_give, Cond.selects RX6 yX6_give yX6_give, Cond.code yX6_give cX6_give 7 none, Cond.methodLink RX7 189 yX6_sumOfPrices, Cond.instanceMethod yX6_sumOfPrices, Cond.selects RX6 yX6_sumOfPrices yX6_sumOfPrices, Cond.code yX6_sumOfPrices cX6_sumOfPrices 1 (some .int)]
def wsX7_cost : List Cond := .code yX7_cost cX7_cost 1 (some .int) :: ((wsX7_cost_r1 ++ (wsX7_cost_r2 ++ (wsX7_cost_r3 ++ wsX7_cost_r4))) ++ wsX70 ++ wsX60 ++ wsX30)
def wsX7_rowOfTexture : List Cond := .code yX7_rowOfTexture cX7_rowOfTexture 3 (some .int) :: ([.constant RX7 272 (5592405), .constant RX7 273 (-5592406), .constant RX7 265 (16777215)])
def wsX7_press : List Cond := .code yX7_press cX7_press 7 none :: ([.fieldLink RX7 126 "TouchSheet$Shape" "kind" "I", .fieldLink RX7 72 "TouchSheet" "printed" "LTouchSheet$Pins;", .fieldLink RX7 132 "TouchSheet$Shape" "pins" "LTouchSheet$Pins;", .fieldLink RX7 259 "TouchSheet$Shape" "xs" "[I", .fieldLink RX7 262 "TouchSheet$Shape" "ys" "[I", .constant RX7 265 (16777215), .fieldLink RX7 269 "TouchSheet$Pins" "rows" "[I", .methodLink RX7 256 yX2_join, .instanceMethod yX2_join, .selects RX2 yX2_join yX2_join, .initialized RX2, .code yX2_join cX2_join 3 none, .fieldLink RX2 9 "TouchSheet$Pins" "rows" "[I", .methodLink RX7 266 yX7_rowOfTexture, .static yX7_rowOfTexture, .initialized RX7, .code yX7_rowOfTexture cX7_rowOfTexture 3 (some .int), .constant RX7 272 (5592405), .constant RX7 273 (-5592406)] ++ wsX30 ++ wsX70 ++ wsX20)
def wsX7_print_r1 : List Cond := [Cond.fieldLink RX7 94 "TouchSheet" "count" "I", Cond.fieldLink RX7 72 "TouchSheet" "printed" "LTouchSheet$Pins;", Cond.fieldLink RX7 11 "TouchSheet" "shapes" "[LTouchSheet$Shape;", Cond.fieldLink RX7 65 "TouchSheet" "weaver" "LTouchSheet$Weaver;", Cond.fieldLink RX7 78 "TouchSheet" "finger" "LTouchSheet$Finger;", Cond.methodLink RX7 183 yX7_weave, Cond.instanceMethod yX7_weave, Cond.selects RX7 yX7_weave yX7_weave, Cond.initialized RX7, Cond.code yX7_weave cX7_weave 3 none, Cond.fieldLink RX7 216 "TouchSheet" "weaverKnows" "Z", Cond.fieldLink RX7 250 "TouchSheet$Weaver" "neighbours" "[I", Cond.methodLink RX7 247 yX7_groundSet, Cond.instanceMethod yX7_groundSet, Cond.selects RX7 yX7_groundSet yX7_groundSet, Cond.code yX7_groundSet cX7_groundSet 3 (some .int), Cond.fieldLink RX7 126 "TouchSheet$Shape" "kind" "I", Cond.methodLink RX7 229 yX7_within, Cond.instanceMethod yX7_within, Cond.selects RX7 yX7_within yX7_within, Cond.code yX7_within cX7_within 5 (some .int), Cond.fieldLink RX7 31 "TouchSheet" "distance" "[[I", Cond.methodLink RX7 253 yX6_giveTextures, Cond.instanceMethod yX6_giveTextures]
def wsX7_print_r2 : List Cond := [Cond.selects RX6 yX6_giveTextures yX6_giveTextures, Cond.initialized RX6, Cond.code yX6_giveTextures cX6_giveTextures 3 none, Cond.fieldLink RX6 35 "TouchSheet$Weaver" "grounds" "I", Cond.fieldLink RX6 32 "TouchSheet$Weaver" "open" "[[I", Cond.constantLong RX6 42 (1152921504606846976), Cond.fieldLink RX6 48 "TouchSheet$Weaver" "best" "J", Cond.methodLink RX6 39 yX6_rankTextures, Cond.instanceMethod yX6_rankTextures, Cond.selects RX6 yX6_rankTextures yX6_rankTextures, Cond.code yX6_rankTextures cX6_rankTextures 5 none, Cond.fieldLink RX6 15 "TouchSheet$Weaver" "prices" "[I", Cond.fieldLink RX6 21 "TouchSheet$Weaver" "byPrice" "[I", Cond.fieldLink RX6 24 "TouchSheet$Weaver" "cheapest" "[I", Cond.methodLink RX6 60 yX6_firstByPrice, Cond.instanceMethod yX6_firstByPrice, Cond.selects RX6 yX6_firstByPrice yX6_firstByPrice, Cond.code yX6_firstByPrice cX6_firstByPrice 3 (some .int), Cond.static yX7_has, Cond.code yX7_has cX7_has 2 (some .boolean), Cond.methodLink RX6 44 yX6_leastBelow, Cond.instanceMethod yX6_leastBelow, Cond.selects RX6 yX6_leastBelow yX6_leastBelow, Cond.code yX6_leastBelow cX6_leastBelow 13 (some .long)]
def wsX7_print_r3 : List Cond := [Cond.methodLink RX6 63 yX6_cheapestWeight, Cond.instanceMethod yX6_cheapestWeight, Cond.selects RX6 yX6_cheapestWeight yX6_cheapestWeight, Cond.code yX6_cheapestWeight cX6_cheapestWeight 6 (some .long), Cond.methodLink RX6 83 yX6_weight, Cond.instanceMethod yX6_weight, Cond.selects RX6 yX6_weight yX6_weight, Cond.code yX6_weight cX6_weight 3 (some .long), Cond.methodLink RX6 56 yX6_placeOf, Cond.static yX6_placeOf, Cond.code yX6_placeOf cX6_placeOf 1 (some .int), Cond.methodLink RX6 67 yX6_clashing, Cond.instanceMethod yX6_clashing, Cond.selects RX6 yX6_clashing yX6_clashing, Cond.code yX6_clashing cX6_clashing 8 (some .int), Cond.fieldLink RX6 18 "TouchSheet$Weaver" "neighbours" "[I", Cond.methodLink RX6 87 yX6_listTakers, Cond.instanceMethod yX6_listTakers, Cond.selects RX6 yX6_listTakers yX6_listTakers, Cond.code yX6_listTakers cX6_listTakers 4 none, Cond.fieldLink RX6 27 "TouchSheet$Weaver" "takers" "[I", Cond.methodLink RX6 91 yX6_clashWith, Cond.instanceMethod yX6_clashWith, Cond.selects RX6 yX6_clashWith yX6_clashWith]
def wsX7_print_r4 : List Cond := [Cond.code yX6_clashWith cX6_clashWith 4 (some .int), Cond.fieldLink RX6 11 "TouchSheet$Weaver" "apartFrom" "[I", Cond.methodLink RX6 94 yJ6_bitCount_0f7a4, Cond.static yJ6_bitCount_0f7a4, Cond.initialized RJ6, Cond.code yJ6_bitCount_0f7a4 cJ6_bitCount_0f7a4 1 (some .int), Cond.constant RJ6 265 (1431655765), Cond.constant RJ6 266 (858993459), Cond.constant RJ6 267 (252645135), Cond.methodLink RX6 71 yX6_groupOf, Cond.instanceMethod yX6_groupOf, Cond.selects RX6 yX6_groupOf yX6_groupOf, Cond.code yX6_groupOf cX6_groupOf 7 (some .int), Cond.methodLink RX6 75 yX6_tryEach, Cond.instanceMethod yX6_tryEach, Cond.selects RX6 yX6_tryEach yX6_tryEach, Cond.code yX6_tryEach cX6_tryEach 15 (some .long), Cond.methodLink RX6 79 yX6_give, Cond.instanceMethod yX6_give, Cond.selects RX6 yX6_give yX6_give, Cond.code yX6_give cX6_give 7 none, Cond.methodLink RX7 192 yX2_clear, Cond.instanceMethod yX2_clear, Cond.selects RX2 yX2_clear yX2_clear]
def wsX7_print_r5 : List Cond := [Cond.initialized RX2, Cond.code yX2_clear cX2_clear 2 none, Cond.fieldLink RX2 9 "TouchSheet$Pins" "rows" "[I", Cond.methodLink RX7 114 yX7_has, Cond.methodLink RX7 186 yX6_textureOf, Cond.instanceMethod yX6_textureOf, Cond.selects RX6 yX6_textureOf yX6_textureOf, Cond.code yX6_textureOf cX6_textureOf 2 (some .int), Cond.methodLink RX7 195 yX7_press, Cond.instanceMethod yX7_press, Cond.selects RX7 yX7_press yX7_press, Cond.code yX7_press cX7_press 7 none, Cond.fieldLink RX7 132 "TouchSheet$Shape" "pins" "LTouchSheet$Pins;", Cond.fieldLink RX7 259 "TouchSheet$Shape" "xs" "[I", Cond.fieldLink RX7 262 "TouchSheet$Shape" "ys" "[I", Cond.constant RX7 265 (16777215), Cond.fieldLink RX7 269 "TouchSheet$Pins" "rows" "[I", Cond.methodLink RX7 256 yX2_join, Cond.instanceMethod yX2_join, Cond.selects RX2 yX2_join yX2_join, Cond.code yX2_join cX2_join 3 none, Cond.methodLink RX7 266 yX7_rowOfTexture, Cond.static yX7_rowOfTexture, Cond.code yX7_rowOfTexture cX7_rowOfTexture 3 (some .int)]
def wsX7_print_r6 : List Cond := [Cond.constant RX7 272 (5592405), Cond.constant RX7 273 (-5592406), Cond.methodLink RX7 199 yX0_feel, Cond.instanceMethod yX0_feel, Cond.selects RX0 yX0_feel yX0_feel, Cond.initialized RX0, Cond.code yX0_feel cX0_feel 4 none, Cond.fieldLink RX0 12 "TouchSheet$Finger" "left" "LTouchSheet$Pins;", Cond.fieldLink RX0 30 "TouchSheet$Finger" "found" "I", Cond.fieldLink RX0 34 "TouchSheet$Pins" "rows" "[I", Cond.fieldLink RX0 23 "TouchSheet$Finger" "facts" "[[I", Cond.fieldLink RX0 18 "TouchSheet$Finger" "held" "LTouchSheet$Pins;", Cond.methodLink RX0 26 yX2_copy, Cond.instanceMethod yX2_copy, Cond.selects RX2 yX2_copy yX2_copy, Cond.code yX2_copy cX2_copy 3 none, Cond.methodLink RX0 38 yX2_holds, Cond.instanceMethod yX2_holds, Cond.selects RX2 yX2_holds yX2_holds, Cond.code yX2_holds cX2_holds 3 (some .boolean), Cond.static yX7_isPin, Cond.code yX7_isPin cX7_isPin 2 (some .boolean), Cond.methodLink RX0 42 yX0_gather, Cond.instanceMethod yX0_gather]
def wsX7_print_r7 : List Cond := [Cond.selects RX0 yX0_gather yX0_gather, Cond.code yX0_gather cX0_gather 6 none, Cond.methodLink RX0 53 yX2_clear, Cond.methodLink RX0 56 yX2_raise, Cond.instanceMethod yX2_raise, Cond.selects RX2 yX2_raise yX2_raise, Cond.code yX2_raise cX2_raise 3 none, Cond.methodLink RX0 59 yX2_swell, Cond.instanceMethod yX2_swell, Cond.selects RX2 yX2_swell yX2_swell, Cond.code yX2_swell cX2_swell 5 none, Cond.methodLink RX2 28 yX2_widened, Cond.static yX2_widened, Cond.code yX2_widened cX2_widened 1 (some .int), Cond.constant RX2 31 (16777215), Cond.methodLink RX0 62 yX2_keepOnly, Cond.instanceMethod yX2_keepOnly, Cond.selects RX2 yX2_keepOnly yX2_keepOnly, Cond.code yX2_keepOnly cX2_keepOnly 3 none, Cond.methodLink RX0 65 yX2_size, Cond.instanceMethod yX2_size, Cond.selects RX2 yX2_size yX2_size, Cond.code yX2_size cX2_size 3 (some .int), Cond.methodLink RX2 22 yJ6_bitCount_0f7a4]
def wsX7_print_r8 : List Cond := [Cond.methodLink RX0 46 yX0_describe, Cond.instanceMethod yX0_describe, Cond.selects RX0 yX0_describe yX0_describe, Cond.code yX0_describe cX0_describe 4 none, Cond.methodLink RX0 69 Lib.Math.min.name, Cond.static Lib.Math.min.name, Cond.initialized "java/lang/Math", Cond.code Lib.Math.min.name Lib.Math.min.code 2 (some .int), Cond.methodLink RX0 75 Lib.Math.max.name, Cond.static Lib.Math.max.name, Cond.code Lib.Math.max.name Lib.Math.max.code 2 (some .int), Cond.methodLink RX0 78 yX2_countBeside, Cond.instanceMethod yX2_countBeside, Cond.selects RX2 yX2_countBeside yX2_countBeside, Cond.code yX2_countBeside cX2_countBeside 6 (some .int), Cond.methodLink RX2 32 Lib.Math.max.name, Cond.methodLink RX2 38 Lib.Math.min.name, Cond.methodLink RX0 50 yX2_drop, Cond.instanceMethod yX2_drop, Cond.selects RX2 yX2_drop yX2_drop, Cond.code yX2_drop cX2_drop 3 none, Cond.methodLink RX7 135 yX2_size]
def wsX7_print : List Cond := .code yX7_print cX7_print 3 (some .int) :: ((wsX7_print_r1 ++ (wsX7_print_r2 ++ (wsX7_print_r3 ++ (wsX7_print_r4 ++ (wsX7_print_r5 ++ (wsX7_print_r6 ++ (wsX7_print_r7 ++ wsX7_print_r8))))))) ++ wsX70 ++ wsX60 ++ wsX30 ++ wsX20 ++ wsX00)
def wsX7_up : List Cond := .code yX7_up cX7_up 3 (some .int) :: ([.fieldLink RX7 72 "TouchSheet" "printed" "LTouchSheet$Pins;", .methodLink RX7 83 yX7_isPin, .static yX7_isPin, .initialized RX7, .code yX7_isPin cX7_isPin 2 (some .boolean), .methodLink RX7 146 yX2_holds, .instanceMethod yX2_holds, .selects RX2 yX2_holds yX2_holds, .initialized RX2, .code yX2_holds cX2_holds 3 (some .boolean), .fieldLink RX2 9 "TouchSheet$Pins" "rows" "[I", .static yX7_has, .code yX7_has cX7_has 2 (some .boolean)] ++ wsX70 ++ wsX20)
def wsX7_things : List Cond := .code yX7_things cX7_things 1 (some .int) :: ([.fieldLink RX7 78 "TouchSheet" "finger" "LTouchSheet$Finger;", .fieldLink RX7 203 "TouchSheet$Finger" "found" "I"] ++ wsX70 ++ wsX00)
def wsX7_thing : List Cond := .code yX7_thing cX7_thing 3 (some .int) :: ([.fieldLink RX7 78 "TouchSheet" "finger" "LTouchSheet$Finger;", .fieldLink RX7 203 "TouchSheet$Finger" "found" "I", .fieldLink RX7 206 "TouchSheet$Finger" "facts" "[[I"] ++ wsX70 ++ wsX00)
def wsX8_init_r1 : List Cond := [Cond.methodLink RX8 1 objectInit, Cond.instanceMethod objectInit, Cond.code objectInit ⟨#[0xb1]⟩ 1 none, Cond.fieldLink RX8 7 "TouchSheetModel" "gap" "I", Cond.arrayClass .int, Cond.fieldLink RX8 13 "TouchSheetModel" "waitX" "[I", Cond.fieldLink RX8 17 "TouchSheetModel" "waitY" "[I", Cond.fieldLink RX8 20 "TouchSheetModel" "kind" "[I", Cond.fieldLink RX8 23 "TouchSheetModel" "worth" "[I", Cond.fieldLink RX8 26 "TouchSheetModel" "corners" "[I", Cond.fieldLink RX8 29 "TouchSheetModel" "x" "[I", Cond.fieldLink RX8 32 "TouchSheetModel" "y" "[I", Cond.arrayClass .boolean, Cond.fieldLink RX8 35 "TouchSheetModel" "pin" "[Z", Cond.fieldLink RX8 39 "TouchSheetModel" "meets" "[Z", Cond.fieldLink RX8 42 "TouchSheetModel" "apart" "[Z", Cond.fieldLink RX8 45 "TouchSheetModel" "price" "[I", Cond.fieldLink RX8 48 "TouchSheetModel" "near" "[I", Cond.fieldLink RX8 51 "TouchSheetModel" "onSheet" "[I", Cond.fieldLink RX8 54 "TouchSheetModel" "grounds" "[I", Cond.fieldLink RX8 57 "TouchSheetModel" "tries" "[I", Cond.fieldLink RX8 60 "TouchSheetModel" "textures" "[I", Cond.fieldLink RX8 63 "TouchSheetModel" "beside" "[I", Cond.fieldLink RX8 66 "TouchSheetModel" "up" "[Z"]
def wsX8_init_r2 : List Cond := [Cond.fieldLink RX8 69 "TouchSheetModel" "thing" "[I", Cond.fieldLink RX8 72 "TouchSheetModel" "row" "[I"]
def wsX8_init : List Cond := .code yX8_init cX8_init 3 none :: ((wsX8_init_r1 ++ wsX8_init_r2) ++ wsX80)
def wsX8_isIn : List Cond := .code yX8_isIn cX8_isIn 3 (some .boolean) :: ([])
def wsX8_isPin : List Cond := .code yX8_isPin cX8_isPin 2 (some .boolean) :: ([.methodLink RX8 75 yX8_isIn, .static yX8_isIn, .initialized RX8, .code yX8_isIn cX8_isIn 3 (some .boolean)])
def wsX8_isShape : List Cond := .code yX8_isShape cX8_isShape 2 (some .boolean) :: ([.fieldLink RX8 79 "TouchSheetModel" "shapes" "I", .methodLink RX8 75 yX8_isIn, .static yX8_isIn, .initialized RX8, .code yX8_isIn cX8_isIn 3 (some .boolean)] ++ wsX80)
def wsX8_corner : List Cond := .code yX8_corner cX8_corner 3 (some .int) :: ([.fieldLink RX8 86 "TouchSheetModel" "waiting" "I", .fieldLink RX8 13 "TouchSheetModel" "waitX" "[I", .fieldLink RX8 17 "TouchSheetModel" "waitY" "[I", .methodLink RX8 82 yX8_isPin, .static yX8_isPin, .initialized RX8, .code yX8_isPin cX8_isPin 2 (some .boolean), .methodLink RX8 75 yX8_isIn, .static yX8_isIn, .code yX8_isIn cX8_isIn 3 (some .boolean)] ++ wsX80)
def wsX8_comes : List Cond := .code yX8_comes cX8_comes 6 (some .int) :: ([.fieldLink RX8 79 "TouchSheetModel" "shapes" "I", .fieldLink RX8 20 "TouchSheetModel" "kind" "[I", .fieldLink RX8 23 "TouchSheetModel" "worth" "[I", .fieldLink RX8 26 "TouchSheetModel" "corners" "[I", .fieldLink RX8 39 "TouchSheetModel" "meets" "[Z"] ++ wsX80)
def wsX8_canCome : List Cond := .code yX8_canCome cX8_canCome 2 (some .boolean) :: ([.fieldLink RX8 79 "TouchSheetModel" "shapes" "I", .methodLink RX8 75 yX8_isIn, .static yX8_isIn, .initialized RX8, .code yX8_isIn cX8_isIn 3 (some .boolean)] ++ wsX80)
def wsX8_puts : List Cond := .code yX8_puts cX8_puts 4 none :: ([.fieldLink RX8 35 "TouchSheetModel" "pin" "[Z", .methodLink RX8 82 yX8_isPin, .static yX8_isPin, .initialized RX8, .code yX8_isPin cX8_isPin 2 (some .boolean), .methodLink RX8 75 yX8_isIn, .static yX8_isIn, .code yX8_isIn cX8_isIn 3 (some .boolean)] ++ wsX80)
def wsX8_abs : List Cond := .code yX8_abs cX8_abs 1 (some .int) :: ([])
def wsX8_down : List Cond := .code yX8_down cX8_down 2 (some .int) :: ([])
def wsX8_steps : List Cond := .code yX8_steps cX8_steps 8 none :: ([.methodLink RX8 115 yX8_abs, .static yX8_abs, .initialized RX8, .code yX8_abs cX8_abs 1 (some .int), .methodLink RX8 119 yX8_down, .static yX8_down, .code yX8_down cX8_down 2 (some .int), .methodLink RX8 107 yX8_puts, .instanceMethod yX8_puts, .selects RX8 yX8_puts yX8_puts, .code yX8_puts cX8_puts 4 none, .fieldLink RX8 35 "TouchSheetModel" "pin" "[Z", .methodLink RX8 82 yX8_isPin, .static yX8_isPin, .code yX8_isPin cX8_isPin 2 (some .boolean), .methodLink RX8 75 yX8_isIn, .static yX8_isIn, .code yX8_isIn cX8_isIn 3 (some .boolean)] ++ wsX80)
def wsX8_draws_r1 : List Cond := [Cond.fieldLink RX8 35 "TouchSheetModel" "pin" "[Z", Cond.fieldLink RX8 20 "TouchSheetModel" "kind" "[I", Cond.fieldLink RX8 29 "TouchSheetModel" "x" "[I", Cond.fieldLink RX8 32 "TouchSheetModel" "y" "[I", Cond.fieldLink RX8 26 "TouchSheetModel" "corners" "[I", Cond.methodLink RX8 107 yX8_puts, Cond.instanceMethod yX8_puts, Cond.selects RX8 yX8_puts yX8_puts, Cond.initialized RX8, Cond.code yX8_puts cX8_puts 4 none, Cond.methodLink RX8 82 yX8_isPin, Cond.static yX8_isPin, Cond.code yX8_isPin cX8_isPin 2 (some .boolean), Cond.methodLink RX8 75 yX8_isIn, Cond.static yX8_isIn, Cond.code yX8_isIn cX8_isIn 3 (some .boolean), Cond.methodLink RX8 111 yX8_steps, Cond.instanceMethod yX8_steps, Cond.selects RX8 yX8_steps yX8_steps, Cond.code yX8_steps cX8_steps 8 none, Cond.methodLink RX8 115 yX8_abs, Cond.static yX8_abs, Cond.code yX8_abs cX8_abs 1 (some .int), Cond.methodLink RX8 119 yX8_down]
def wsX8_draws_r2 : List Cond := [Cond.static yX8_down, Cond.code yX8_down cX8_down 2 (some .int)]
def wsX8_draws : List Cond := .code yX8_draws cX8_draws 5 none :: ((wsX8_draws_r1 ++ wsX8_draws_r2) ++ wsX80)
def wsX8_line_r1 : List Cond := [Cond.fieldLink RX8 86 "TouchSheetModel" "waiting" "I", Cond.fieldLink RX8 29 "TouchSheetModel" "x" "[I", Cond.fieldLink RX8 13 "TouchSheetModel" "waitX" "[I", Cond.fieldLink RX8 32 "TouchSheetModel" "y" "[I", Cond.fieldLink RX8 17 "TouchSheetModel" "waitY" "[I", Cond.methodLink RX8 89 yX8_canCome, Cond.instanceMethod yX8_canCome, Cond.selects RX8 yX8_canCome yX8_canCome, Cond.initialized RX8, Cond.code yX8_canCome cX8_canCome 2 (some .boolean), Cond.fieldLink RX8 79 "TouchSheetModel" "shapes" "I", Cond.methodLink RX8 75 yX8_isIn, Cond.static yX8_isIn, Cond.code yX8_isIn cX8_isIn 3 (some .boolean), Cond.methodLink RX8 93 yX8_comes, Cond.instanceMethod yX8_comes, Cond.selects RX8 yX8_comes yX8_comes, Cond.code yX8_comes cX8_comes 6 (some .int), Cond.fieldLink RX8 20 "TouchSheetModel" "kind" "[I", Cond.fieldLink RX8 23 "TouchSheetModel" "worth" "[I", Cond.fieldLink RX8 26 "TouchSheetModel" "corners" "[I", Cond.fieldLink RX8 39 "TouchSheetModel" "meets" "[Z", Cond.methodLink RX8 97 yX8_draws, Cond.instanceMethod yX8_draws]
def wsX8_line_r2 : List Cond := [Cond.selects RX8 yX8_draws yX8_draws, Cond.code yX8_draws cX8_draws 5 none, Cond.fieldLink RX8 35 "TouchSheetModel" "pin" "[Z", Cond.methodLink RX8 107 yX8_puts, Cond.instanceMethod yX8_puts, Cond.selects RX8 yX8_puts yX8_puts, Cond.code yX8_puts cX8_puts 4 none, Cond.methodLink RX8 82 yX8_isPin, Cond.static yX8_isPin, Cond.code yX8_isPin cX8_isPin 2 (some .boolean), Cond.methodLink RX8 111 yX8_steps, Cond.instanceMethod yX8_steps, Cond.selects RX8 yX8_steps yX8_steps, Cond.code yX8_steps cX8_steps 8 none, Cond.methodLink RX8 115 yX8_abs, Cond.static yX8_abs, Cond.code yX8_abs cX8_abs 1 (some .int), Cond.methodLink RX8 119 yX8_down, Cond.static yX8_down, Cond.code yX8_down cX8_down 2 (some .int)]
def wsX8_line : List Cond := .code yX8_line cX8_line 4 (some .int) :: ((wsX8_line_r1 ++ wsX8_line_r2) ++ wsX80)
def wsX8_ground_r1 : List Cond := [Cond.fieldLink RX8 29 "TouchSheetModel" "x" "[I", Cond.fieldLink RX8 32 "TouchSheetModel" "y" "[I", Cond.methodLink RX8 82 yX8_isPin, Cond.static yX8_isPin, Cond.initialized RX8, Cond.code yX8_isPin cX8_isPin 2 (some .boolean), Cond.methodLink RX8 75 yX8_isIn, Cond.static yX8_isIn, Cond.code yX8_isIn cX8_isIn 3 (some .boolean), Cond.methodLink RX8 89 yX8_canCome, Cond.instanceMethod yX8_canCome, Cond.selects RX8 yX8_canCome yX8_canCome, Cond.code yX8_canCome cX8_canCome 2 (some .boolean), Cond.fieldLink RX8 79 "TouchSheetModel" "shapes" "I", Cond.methodLink RX8 93 yX8_comes, Cond.instanceMethod yX8_comes, Cond.selects RX8 yX8_comes yX8_comes, Cond.code yX8_comes cX8_comes 6 (some .int), Cond.fieldLink RX8 20 "TouchSheetModel" "kind" "[I", Cond.fieldLink RX8 23 "TouchSheetModel" "worth" "[I", Cond.fieldLink RX8 26 "TouchSheetModel" "corners" "[I", Cond.fieldLink RX8 39 "TouchSheetModel" "meets" "[Z", Cond.methodLink RX8 97 yX8_draws, Cond.instanceMethod yX8_draws]
def wsX8_ground_r2 : List Cond := [Cond.selects RX8 yX8_draws yX8_draws, Cond.code yX8_draws cX8_draws 5 none, Cond.fieldLink RX8 35 "TouchSheetModel" "pin" "[Z", Cond.methodLink RX8 107 yX8_puts, Cond.instanceMethod yX8_puts, Cond.selects RX8 yX8_puts yX8_puts, Cond.code yX8_puts cX8_puts 4 none, Cond.methodLink RX8 111 yX8_steps, Cond.instanceMethod yX8_steps, Cond.selects RX8 yX8_steps yX8_steps, Cond.code yX8_steps cX8_steps 8 none, Cond.methodLink RX8 115 yX8_abs, Cond.static yX8_abs, Cond.code yX8_abs cX8_abs 1 (some .int), Cond.methodLink RX8 119 yX8_down, Cond.static yX8_down, Cond.code yX8_down cX8_down 2 (some .int)]
def wsX8_ground : List Cond := .code yX8_ground cX8_ground 7 (some .int) :: ((wsX8_ground_r1 ++ wsX8_ground_r2) ++ wsX80)
def wsX8_mark_r1 : List Cond := [Cond.fieldLink RX8 29 "TouchSheetModel" "x" "[I", Cond.fieldLink RX8 32 "TouchSheetModel" "y" "[I", Cond.methodLink RX8 82 yX8_isPin, Cond.static yX8_isPin, Cond.initialized RX8, Cond.code yX8_isPin cX8_isPin 2 (some .boolean), Cond.methodLink RX8 75 yX8_isIn, Cond.static yX8_isIn, Cond.code yX8_isIn cX8_isIn 3 (some .boolean), Cond.methodLink RX8 89 yX8_canCome, Cond.instanceMethod yX8_canCome, Cond.selects RX8 yX8_canCome yX8_canCome, Cond.code yX8_canCome cX8_canCome 2 (some .boolean), Cond.fieldLink RX8 79 "TouchSheetModel" "shapes" "I", Cond.methodLink RX8 93 yX8_comes, Cond.instanceMethod yX8_comes, Cond.selects RX8 yX8_comes yX8_comes, Cond.code yX8_comes cX8_comes 6 (some .int), Cond.fieldLink RX8 20 "TouchSheetModel" "kind" "[I", Cond.fieldLink RX8 23 "TouchSheetModel" "worth" "[I", Cond.fieldLink RX8 26 "TouchSheetModel" "corners" "[I", Cond.fieldLink RX8 39 "TouchSheetModel" "meets" "[Z", Cond.methodLink RX8 97 yX8_draws, Cond.instanceMethod yX8_draws]
def wsX8_mark_r2 : List Cond := [Cond.selects RX8 yX8_draws yX8_draws, Cond.code yX8_draws cX8_draws 5 none, Cond.fieldLink RX8 35 "TouchSheetModel" "pin" "[Z", Cond.methodLink RX8 107 yX8_puts, Cond.instanceMethod yX8_puts, Cond.selects RX8 yX8_puts yX8_puts, Cond.code yX8_puts cX8_puts 4 none, Cond.methodLink RX8 111 yX8_steps, Cond.instanceMethod yX8_steps, Cond.selects RX8 yX8_steps yX8_steps, Cond.code yX8_steps cX8_steps 8 none, Cond.methodLink RX8 115 yX8_abs, Cond.static yX8_abs, Cond.code yX8_abs cX8_abs 1 (some .int), Cond.methodLink RX8 119 yX8_down, Cond.static yX8_down, Cond.code yX8_down cX8_down 2 (some .int)]
def wsX8_mark : List Cond := .code yX8_mark cX8_mark 5 (some .int) :: ((wsX8_mark_r1 ++ wsX8_mark_r2) ++ wsX80)
def wsX8_undo : List Cond := .code yX8_undo cX8_undo 1 (some .boolean) :: ([.fieldLink RX8 79 "TouchSheetModel" "shapes" "I"] ++ wsX80)
def wsX8_gap : List Cond := .code yX8_gap cX8_gap 2 (some .boolean) :: ([.fieldLink RX8 7 "TouchSheetModel" "gap" "I", .methodLink RX8 75 yX8_isIn, .static yX8_isIn, .initialized RX8, .code yX8_isIn cX8_isIn 3 (some .boolean)] ++ wsX80)
def wsX8_meet : List Cond := .code yX8_meet cX8_meet 4 (some .boolean) :: ([.fieldLink RX8 39 "TouchSheetModel" "meets" "[Z", .methodLink RX8 101 yX8_isShape, .instanceMethod yX8_isShape, .selects RX8 yX8_isShape yX8_isShape, .initialized RX8, .code yX8_isShape cX8_isShape 2 (some .boolean), .fieldLink RX8 79 "TouchSheetModel" "shapes" "I", .methodLink RX8 75 yX8_isIn, .static yX8_isIn, .code yX8_isIn cX8_isIn 3 (some .boolean)] ++ wsX80)
def wsX8_isTexture : List Cond := .code yX8_isTexture cX8_isTexture 1 (some .boolean) :: ([.methodLink RX8 75 yX8_isIn, .static yX8_isIn, .initialized RX8, .code yX8_isIn cX8_isIn 3 (some .boolean)])
def wsX8_apart : List Cond := .code yX8_apart cX8_apart 4 (some .boolean) :: ([.fieldLink RX8 42 "TouchSheetModel" "apart" "[Z", .methodLink RX8 104 yX8_isTexture, .static yX8_isTexture, .initialized RX8, .code yX8_isTexture cX8_isTexture 1 (some .boolean), .methodLink RX8 75 yX8_isIn, .static yX8_isIn, .code yX8_isIn cX8_isIn 3 (some .boolean)] ++ wsX80)
def wsX8_price : List Cond := .code yX8_price cX8_price 3 (some .boolean) :: ([.fieldLink RX8 45 "TouchSheetModel" "price" "[I", .methodLink RX8 104 yX8_isTexture, .static yX8_isTexture, .initialized RX8, .code yX8_isTexture cX8_isTexture 1 (some .boolean), .methodLink RX8 75 yX8_isIn, .static yX8_isIn, .code yX8_isIn cX8_isIn 3 (some .boolean)] ++ wsX80)
def wsX8_has : List Cond := .code yX8_has cX8_has 4 (some .boolean) :: ([.fieldLink RX8 35 "TouchSheetModel" "pin" "[Z"] ++ wsX80)
def wsX8_pin : List Cond := .code yX8_pin cX8_pin 4 (some .int) :: ([.methodLink RX8 101 yX8_isShape, .instanceMethod yX8_isShape, .selects RX8 yX8_isShape yX8_isShape, .initialized RX8, .code yX8_isShape cX8_isShape 2 (some .boolean), .fieldLink RX8 79 "TouchSheetModel" "shapes" "I", .methodLink RX8 75 yX8_isIn, .static yX8_isIn, .code yX8_isIn cX8_isIn 3 (some .boolean), .methodLink RX8 82 yX8_isPin, .static yX8_isPin, .code yX8_isPin cX8_isPin 2 (some .boolean), .methodLink RX8 123 yX8_has, .instanceMethod yX8_has, .selects RX8 yX8_has yX8_has, .code yX8_has cX8_has 4 (some .boolean), .fieldLink RX8 35 "TouchSheetModel" "pin" "[Z"] ++ wsX80)
def wsX8_look : List Cond := .code yX8_look cX8_look 2 (some .int) :: ([.fieldLink RX8 79 "TouchSheetModel" "shapes" "I", .fieldLink RX8 86 "TouchSheetModel" "waiting" "I", .fieldLink RX8 7 "TouchSheetModel" "gap" "I"] ++ wsX80)
def wsX8_of : List Cond := .code yX8_of cX8_of 5 (some .int) :: ([.fieldLink RX8 20 "TouchSheetModel" "kind" "[I", .fieldLink RX8 23 "TouchSheetModel" "worth" "[I", .fieldLink RX8 35 "TouchSheetModel" "pin" "[Z", .fieldLink RX8 26 "TouchSheetModel" "corners" "[I", .fieldLink RX8 29 "TouchSheetModel" "x" "[I", .fieldLink RX8 32 "TouchSheetModel" "y" "[I", .methodLink RX8 101 yX8_isShape, .instanceMethod yX8_isShape, .selects RX8 yX8_isShape yX8_isShape, .initialized RX8, .code yX8_isShape cX8_isShape 2 (some .boolean), .fieldLink RX8 79 "TouchSheetModel" "shapes" "I", .methodLink RX8 75 yX8_isIn, .static yX8_isIn, .code yX8_isIn cX8_isIn 3 (some .boolean)] ++ wsX80)
def wsX8_farOf : List Cond := .code yX8_farOf cX8_farOf 9 (some .int) :: ([.fieldLink RX8 35 "TouchSheetModel" "pin" "[Z", .methodLink RX8 115 yX8_abs, .static yX8_abs, .initialized RX8, .code yX8_abs cX8_abs 1 (some .int)] ++ wsX80)
def wsX8_far : List Cond := .code yX8_far cX8_far 3 (some .int) :: ([.methodLink RX8 101 yX8_isShape, .instanceMethod yX8_isShape, .selects RX8 yX8_isShape yX8_isShape, .initialized RX8, .code yX8_isShape cX8_isShape 2 (some .boolean), .fieldLink RX8 79 "TouchSheetModel" "shapes" "I", .methodLink RX8 75 yX8_isIn, .static yX8_isIn, .code yX8_isIn cX8_isIn 3 (some .boolean), .methodLink RX8 126 yX8_farOf, .instanceMethod yX8_farOf, .selects RX8 yX8_farOf yX8_farOf, .code yX8_farOf cX8_farOf 9 (some .int), .fieldLink RX8 35 "TouchSheetModel" "pin" "[Z", .methodLink RX8 115 yX8_abs, .static yX8_abs, .code yX8_abs cX8_abs 1 (some .int)] ++ wsX80)
def wsX8_isBy : List Cond := .code yX8_isBy cX8_isBy 16 (some .boolean) :: ([.fieldLink RX8 29 "TouchSheetModel" "x" "[I", .fieldLink RX8 32 "TouchSheetModel" "y" "[I"] ++ wsX80)
def wsX8_isStep : List Cond := .code yX8_isStep cX8_isStep 7 (some .boolean) :: ([.methodLink RX8 129 yX8_isBy, .instanceMethod yX8_isBy, .selects RX8 yX8_isBy yX8_isBy, .initialized RX8, .code yX8_isBy cX8_isBy 16 (some .boolean), .fieldLink RX8 29 "TouchSheetModel" "x" "[I", .fieldLink RX8 32 "TouchSheetModel" "y" "[I"] ++ wsX80)
def wsX8_bits : List Cond := .code yX8_bits cX8_bits 3 (some .int) :: ([])
def wsX8_keeps : List Cond := .code yX8_keeps cX8_keeps 6 (some .boolean) :: ([.fieldLink RX8 26 "TouchSheetModel" "corners" "[I", .methodLink RX8 133 yX8_isStep, .instanceMethod yX8_isStep, .selects RX8 yX8_isStep yX8_isStep, .initialized RX8, .code yX8_isStep cX8_isStep 7 (some .boolean), .methodLink RX8 129 yX8_isBy, .instanceMethod yX8_isBy, .selects RX8 yX8_isBy yX8_isBy, .code yX8_isBy cX8_isBy 16 (some .boolean), .fieldLink RX8 29 "TouchSheetModel" "x" "[I", .fieldLink RX8 32 "TouchSheetModel" "y" "[I"] ++ wsX80)
def wsX8_isAhead : List Cond := .code yX8_isAhead cX8_isAhead 3 (some .boolean) :: ([])
def wsX8_simpler : List Cond := .code yX8_simpler cX8_simpler 6 (some .int) :: ([.fieldLink RX8 26 "TouchSheetModel" "corners" "[I", .methodLink RX8 137 yX8_keeps, .instanceMethod yX8_keeps, .selects RX8 yX8_keeps yX8_keeps, .initialized RX8, .code yX8_keeps cX8_keeps 6 (some .boolean), .methodLink RX8 133 yX8_isStep, .instanceMethod yX8_isStep, .selects RX8 yX8_isStep yX8_isStep, .code yX8_isStep cX8_isStep 7 (some .boolean), .methodLink RX8 129 yX8_isBy, .instanceMethod yX8_isBy, .selects RX8 yX8_isBy yX8_isBy, .code yX8_isBy cX8_isBy 16 (some .boolean), .fieldLink RX8 29 "TouchSheetModel" "x" "[I", .fieldLink RX8 32 "TouchSheetModel" "y" "[I", .methodLink RX8 140 yX8_bits, .static yX8_bits, .code yX8_bits cX8_bits 3 (some .int), .methodLink RX8 143 yX8_isAhead, .static yX8_isAhead, .code yX8_isAhead cX8_isAhead 3 (some .boolean)] ++ wsX80)
def wsX8_isLine : List Cond := .code yX8_isLine cX8_isLine 3 (some .boolean) :: ([.fieldLink RX8 20 "TouchSheetModel" "kind" "[I", .methodLink RX8 101 yX8_isShape, .instanceMethod yX8_isShape, .selects RX8 yX8_isShape yX8_isShape, .initialized RX8, .code yX8_isShape cX8_isShape 2 (some .boolean), .fieldLink RX8 79 "TouchSheetModel" "shapes" "I", .methodLink RX8 75 yX8_isIn, .static yX8_isIn, .code yX8_isIn cX8_isIn 3 (some .boolean)] ++ wsX80)
def wsX8_simple_r1 : List Cond := [Cond.methodLink RX8 146 yX8_isLine, Cond.instanceMethod yX8_isLine, Cond.selects RX8 yX8_isLine yX8_isLine, Cond.initialized RX8, Cond.code yX8_isLine cX8_isLine 3 (some .boolean), Cond.fieldLink RX8 20 "TouchSheetModel" "kind" "[I", Cond.methodLink RX8 101 yX8_isShape, Cond.instanceMethod yX8_isShape, Cond.selects RX8 yX8_isShape yX8_isShape, Cond.code yX8_isShape cX8_isShape 2 (some .boolean), Cond.fieldLink RX8 79 "TouchSheetModel" "shapes" "I", Cond.methodLink RX8 75 yX8_isIn, Cond.static yX8_isIn, Cond.code yX8_isIn cX8_isIn 3 (some .boolean), Cond.methodLink RX8 149 yX8_simpler, Cond.instanceMethod yX8_simpler, Cond.selects RX8 yX8_simpler yX8_simpler, Cond.code yX8_simpler cX8_simpler 6 (some .int), Cond.fieldLink RX8 26 "TouchSheetModel" "corners" "[I", Cond.methodLink RX8 137 yX8_keeps, Cond.instanceMethod yX8_keeps, Cond.selects RX8 yX8_keeps yX8_keeps, Cond.code yX8_keeps cX8_keeps 6 (some .boolean), Cond.methodLink RX8 133 yX8_isStep]
def wsX8_simple_r2 : List Cond := [Cond.instanceMethod yX8_isStep, Cond.selects RX8 yX8_isStep yX8_isStep, Cond.code yX8_isStep cX8_isStep 7 (some .boolean), Cond.methodLink RX8 129 yX8_isBy, Cond.instanceMethod yX8_isBy, Cond.selects RX8 yX8_isBy yX8_isBy, Cond.code yX8_isBy cX8_isBy 16 (some .boolean), Cond.fieldLink RX8 29 "TouchSheetModel" "x" "[I", Cond.fieldLink RX8 32 "TouchSheetModel" "y" "[I", Cond.methodLink RX8 140 yX8_bits, Cond.static yX8_bits, Cond.code yX8_bits cX8_bits 3 (some .int), Cond.methodLink RX8 143 yX8_isAhead, Cond.static yX8_isAhead, Cond.code yX8_isAhead cX8_isAhead 3 (some .boolean)]
def wsX8_simple : List Cond := .code yX8_simple cX8_simple 5 (some .int) :: ((wsX8_simple_r1 ++ wsX8_simple_r2) ++ wsX80)
def wsX8_simplify_r1 : List Cond := [Cond.fieldLink RX8 26 "TouchSheetModel" "corners" "[I", Cond.fieldLink RX8 29 "TouchSheetModel" "x" "[I", Cond.fieldLink RX8 32 "TouchSheetModel" "y" "[I", Cond.methodLink RX8 146 yX8_isLine, Cond.instanceMethod yX8_isLine, Cond.selects RX8 yX8_isLine yX8_isLine, Cond.initialized RX8, Cond.code yX8_isLine cX8_isLine 3 (some .boolean), Cond.fieldLink RX8 20 "TouchSheetModel" "kind" "[I", Cond.methodLink RX8 101 yX8_isShape, Cond.instanceMethod yX8_isShape, Cond.selects RX8 yX8_isShape yX8_isShape, Cond.code yX8_isShape cX8_isShape 2 (some .boolean), Cond.fieldLink RX8 79 "TouchSheetModel" "shapes" "I", Cond.methodLink RX8 75 yX8_isIn, Cond.static yX8_isIn, Cond.code yX8_isIn cX8_isIn 3 (some .boolean), Cond.methodLink RX8 149 yX8_simpler, Cond.instanceMethod yX8_simpler, Cond.selects RX8 yX8_simpler yX8_simpler, Cond.code yX8_simpler cX8_simpler 6 (some .int), Cond.methodLink RX8 137 yX8_keeps, Cond.instanceMethod yX8_keeps, Cond.selects RX8 yX8_keeps yX8_keeps]
def wsX8_simplify_r2 : List Cond := [Cond.code yX8_keeps cX8_keeps 6 (some .boolean), Cond.methodLink RX8 133 yX8_isStep, Cond.instanceMethod yX8_isStep, Cond.selects RX8 yX8_isStep yX8_isStep, Cond.code yX8_isStep cX8_isStep 7 (some .boolean), Cond.methodLink RX8 129 yX8_isBy, Cond.instanceMethod yX8_isBy, Cond.selects RX8 yX8_isBy yX8_isBy, Cond.code yX8_isBy cX8_isBy 16 (some .boolean), Cond.methodLink RX8 140 yX8_bits, Cond.static yX8_bits, Cond.code yX8_bits cX8_bits 3 (some .int), Cond.methodLink RX8 143 yX8_isAhead, Cond.static yX8_isAhead, Cond.code yX8_isAhead cX8_isAhead 3 (some .boolean), Cond.methodLink RX8 97 yX8_draws, Cond.instanceMethod yX8_draws, Cond.selects RX8 yX8_draws yX8_draws, Cond.code yX8_draws cX8_draws 5 none, Cond.fieldLink RX8 35 "TouchSheetModel" "pin" "[Z", Cond.methodLink RX8 107 yX8_puts, Cond.instanceMethod yX8_puts, Cond.selects RX8 yX8_puts yX8_puts, Cond.code yX8_puts cX8_puts 4 none]
def wsX8_simplify_r3 : List Cond := [Cond.methodLink RX8 82 yX8_isPin, Cond.static yX8_isPin, Cond.code yX8_isPin cX8_isPin 2 (some .boolean), Cond.methodLink RX8 111 yX8_steps, Cond.instanceMethod yX8_steps, Cond.selects RX8 yX8_steps yX8_steps, Cond.code yX8_steps cX8_steps 8 none, Cond.methodLink RX8 115 yX8_abs, Cond.static yX8_abs, Cond.code yX8_abs cX8_abs 1 (some .int), Cond.methodLink RX8 119 yX8_down, Cond.static yX8_down, Cond.code yX8_down cX8_down 2 (some .int)]
def wsX8_simplify : List Cond := .code yX8_simplify cX8_simplify 6 (some .int) :: ((wsX8_simplify_r1 ++ (wsX8_simplify_r2 ++ wsX8_simplify_r3)) ++ wsX80)
def wsX8_nears : List Cond := .code yX8_nears cX8_nears 3 none :: ([.fieldLink RX8 79 "TouchSheetModel" "shapes" "I", .fieldLink RX8 48 "TouchSheetModel" "near" "[I", .fieldLink RX8 39 "TouchSheetModel" "meets" "[Z", .fieldLink RX8 7 "TouchSheetModel" "gap" "I", .methodLink RX8 126 yX8_farOf, .instanceMethod yX8_farOf, .selects RX8 yX8_farOf yX8_farOf, .initialized RX8, .code yX8_farOf cX8_farOf 9 (some .int), .fieldLink RX8 35 "TouchSheetModel" "pin" "[Z", .methodLink RX8 115 yX8_abs, .static yX8_abs, .code yX8_abs cX8_abs 1 (some .int)] ++ wsX80)
def wsX8_worthOf : List Cond := .code yX8_worthOf cX8_worthOf 4 (some .int) :: ([.fieldLink RX8 79 "TouchSheetModel" "shapes" "I", .fieldLink RX8 23 "TouchSheetModel" "worth" "[I"] ++ wsX80)
def wsX8_kept_r1 : List Cond := [Cond.fieldLink RX8 79 "TouchSheetModel" "shapes" "I", Cond.fieldLink RX8 48 "TouchSheetModel" "near" "[I", Cond.methodLink RX8 152 yX8_nears, Cond.instanceMethod yX8_nears, Cond.selects RX8 yX8_nears yX8_nears, Cond.initialized RX8, Cond.code yX8_nears cX8_nears 3 none, Cond.fieldLink RX8 39 "TouchSheetModel" "meets" "[Z", Cond.fieldLink RX8 7 "TouchSheetModel" "gap" "I", Cond.methodLink RX8 126 yX8_farOf, Cond.instanceMethod yX8_farOf, Cond.selects RX8 yX8_farOf yX8_farOf, Cond.code yX8_farOf cX8_farOf 9 (some .int), Cond.fieldLink RX8 35 "TouchSheetModel" "pin" "[Z", Cond.methodLink RX8 115 yX8_abs, Cond.static yX8_abs, Cond.code yX8_abs cX8_abs 1 (some .int), Cond.methodLink RX8 155 yX8_worthOf, Cond.instanceMethod yX8_worthOf, Cond.selects RX8 yX8_worthOf yX8_worthOf, Cond.code yX8_worthOf cX8_worthOf 4 (some .int), Cond.fieldLink RX8 23 "TouchSheetModel" "worth" "[I", Cond.methodLink RX8 140 yX8_bits, Cond.static yX8_bits]
def wsX8_kept_r2 : List Cond := [Cond.code yX8_bits cX8_bits 3 (some .int)]
def wsX8_kept : List Cond := .code yX8_kept cX8_kept 5 (some .int) :: ((wsX8_kept_r1 ++ wsX8_kept_r2) ++ wsX80)
def wsX8_loss_r1 : List Cond := [Cond.fieldLink RX8 79 "TouchSheetModel" "shapes" "I", Cond.methodLink RX8 158 yX8_kept, Cond.instanceMethod yX8_kept, Cond.selects RX8 yX8_kept yX8_kept, Cond.initialized RX8, Cond.code yX8_kept cX8_kept 5 (some .int), Cond.fieldLink RX8 48 "TouchSheetModel" "near" "[I", Cond.methodLink RX8 152 yX8_nears, Cond.instanceMethod yX8_nears, Cond.selects RX8 yX8_nears yX8_nears, Cond.code yX8_nears cX8_nears 3 none, Cond.fieldLink RX8 39 "TouchSheetModel" "meets" "[Z", Cond.fieldLink RX8 7 "TouchSheetModel" "gap" "I", Cond.methodLink RX8 126 yX8_farOf, Cond.instanceMethod yX8_farOf, Cond.selects RX8 yX8_farOf yX8_farOf, Cond.code yX8_farOf cX8_farOf 9 (some .int), Cond.fieldLink RX8 35 "TouchSheetModel" "pin" "[Z", Cond.methodLink RX8 115 yX8_abs, Cond.static yX8_abs, Cond.code yX8_abs cX8_abs 1 (some .int), Cond.methodLink RX8 155 yX8_worthOf, Cond.instanceMethod yX8_worthOf, Cond.selects RX8 yX8_worthOf yX8_worthOf]
def wsX8_loss_r2 : List Cond := [Cond.code yX8_worthOf cX8_worthOf 4 (some .int), Cond.fieldLink RX8 23 "TouchSheetModel" "worth" "[I", Cond.methodLink RX8 140 yX8_bits, Cond.static yX8_bits, Cond.code yX8_bits cX8_bits 3 (some .int)]
def wsX8_loss : List Cond := .code yX8_loss cX8_loss 1 (some .int) :: ((wsX8_loss_r1 ++ wsX8_loss_r2) ++ wsX80)
def wsX8_lays : List Cond := .code yX8_lays cX8_lays 5 (some .boolean) :: ([.fieldLink RX8 51 "TouchSheetModel" "onSheet" "[I", .fieldLink RX8 79 "TouchSheetModel" "shapes" "I", .fieldLink RX8 48 "TouchSheetModel" "near" "[I"] ++ wsX80)
def wsX8_sheets : List Cond := .code yX8_sheets cX8_sheets 2 (some .int) :: ([.fieldLink RX8 79 "TouchSheetModel" "shapes" "I", .methodLink RX8 152 yX8_nears, .instanceMethod yX8_nears, .selects RX8 yX8_nears yX8_nears, .initialized RX8, .code yX8_nears cX8_nears 3 none, .fieldLink RX8 48 "TouchSheetModel" "near" "[I", .fieldLink RX8 39 "TouchSheetModel" "meets" "[Z", .fieldLink RX8 7 "TouchSheetModel" "gap" "I", .methodLink RX8 126 yX8_farOf, .instanceMethod yX8_farOf, .selects RX8 yX8_farOf yX8_farOf, .code yX8_farOf cX8_farOf 9 (some .int), .fieldLink RX8 35 "TouchSheetModel" "pin" "[Z", .methodLink RX8 115 yX8_abs, .static yX8_abs, .code yX8_abs cX8_abs 1 (some .int), .methodLink RX8 162 yX8_lays, .instanceMethod yX8_lays, .selects RX8 yX8_lays yX8_lays, .code yX8_lays cX8_lays 5 (some .boolean), .fieldLink RX8 51 "TouchSheetModel" "onSheet" "[I"] ++ wsX80)
def wsX8_sheet_r1 : List Cond := [Cond.fieldLink RX8 51 "TouchSheetModel" "onSheet" "[I", Cond.methodLink RX8 101 yX8_isShape, Cond.instanceMethod yX8_isShape, Cond.selects RX8 yX8_isShape yX8_isShape, Cond.initialized RX8, Cond.code yX8_isShape cX8_isShape 2 (some .boolean), Cond.fieldLink RX8 79 "TouchSheetModel" "shapes" "I", Cond.methodLink RX8 75 yX8_isIn, Cond.static yX8_isIn, Cond.code yX8_isIn cX8_isIn 3 (some .boolean), Cond.methodLink RX8 165 yX8_sheets, Cond.instanceMethod yX8_sheets, Cond.selects RX8 yX8_sheets yX8_sheets, Cond.code yX8_sheets cX8_sheets 2 (some .int), Cond.methodLink RX8 152 yX8_nears, Cond.instanceMethod yX8_nears, Cond.selects RX8 yX8_nears yX8_nears, Cond.code yX8_nears cX8_nears 3 none, Cond.fieldLink RX8 48 "TouchSheetModel" "near" "[I", Cond.fieldLink RX8 39 "TouchSheetModel" "meets" "[Z", Cond.fieldLink RX8 7 "TouchSheetModel" "gap" "I", Cond.methodLink RX8 126 yX8_farOf, Cond.instanceMethod yX8_farOf, Cond.selects RX8 yX8_farOf yX8_farOf]
def wsX8_sheet_r2 : List Cond := [Cond.code yX8_farOf cX8_farOf 9 (some .int), Cond.fieldLink RX8 35 "TouchSheetModel" "pin" "[Z", Cond.methodLink RX8 115 yX8_abs, Cond.static yX8_abs, Cond.code yX8_abs cX8_abs 1 (some .int), Cond.methodLink RX8 162 yX8_lays, Cond.instanceMethod yX8_lays, Cond.selects RX8 yX8_lays yX8_lays, Cond.code yX8_lays cX8_lays 5 (some .boolean)]
def wsX8_sheet : List Cond := .code yX8_sheet cX8_sheet 2 (some .int) :: ((wsX8_sheet_r1 ++ wsX8_sheet_r2) ++ wsX80)
def wsX8_textured : List Cond := .code yX8_textured cX8_textured 6 none :: ([.fieldLink RX8 168 "TouchSheetModel" "groundMany" "I", .fieldLink RX8 79 "TouchSheetModel" "shapes" "I", .fieldLink RX8 20 "TouchSheetModel" "kind" "[I", .fieldLink RX8 54 "TouchSheetModel" "grounds" "[I", .fieldLink RX8 63 "TouchSheetModel" "beside" "[I", .fieldLink RX8 45 "TouchSheetModel" "price" "[I", .fieldLink RX8 171 "TouchSheetModel" "best" "I", .fieldLink RX8 57 "TouchSheetModel" "tries" "[I", .fieldLink RX8 42 "TouchSheetModel" "apart" "[Z", .fieldLink RX8 60 "TouchSheetModel" "textures" "[I", .methodLink RX8 126 yX8_farOf, .instanceMethod yX8_farOf, .selects RX8 yX8_farOf yX8_farOf, .initialized RX8, .code yX8_farOf cX8_farOf 9 (some .int), .fieldLink RX8 35 "TouchSheetModel" "pin" "[Z", .methodLink RX8 115 yX8_abs, .static yX8_abs, .code yX8_abs cX8_abs 1 (some .int)] ++ wsX80)
def wsX8_cost : List Cond := .code yX8_cost cX8_cost 1 (some .int) :: ([.fieldLink RX8 171 "TouchSheetModel" "best" "I", .methodLink RX8 174 yX8_textured, .instanceMethod yX8_textured, .selects RX8 yX8_textured yX8_textured, .initialized RX8, .code yX8_textured cX8_textured 6 none, .fieldLink RX8 168 "TouchSheetModel" "groundMany" "I", .fieldLink RX8 79 "TouchSheetModel" "shapes" "I", .fieldLink RX8 20 "TouchSheetModel" "kind" "[I", .fieldLink RX8 54 "TouchSheetModel" "grounds" "[I", .fieldLink RX8 63 "TouchSheetModel" "beside" "[I", .fieldLink RX8 45 "TouchSheetModel" "price" "[I", .fieldLink RX8 57 "TouchSheetModel" "tries" "[I", .fieldLink RX8 42 "TouchSheetModel" "apart" "[Z", .fieldLink RX8 60 "TouchSheetModel" "textures" "[I", .methodLink RX8 126 yX8_farOf, .instanceMethod yX8_farOf, .selects RX8 yX8_farOf yX8_farOf, .code yX8_farOf cX8_farOf 9 (some .int), .fieldLink RX8 35 "TouchSheetModel" "pin" "[Z", .methodLink RX8 115 yX8_abs, .static yX8_abs, .code yX8_abs cX8_abs 1 (some .int)] ++ wsX80)
def wsX8_textureOf : List Cond := .code yX8_textureOf cX8_textureOf 3 (some .int) :: ([.fieldLink RX8 171 "TouchSheetModel" "best" "I", .fieldLink RX8 168 "TouchSheetModel" "groundMany" "I", .fieldLink RX8 54 "TouchSheetModel" "grounds" "[I", .fieldLink RX8 60 "TouchSheetModel" "textures" "[I"] ++ wsX80)
def wsX8_texture_r1 : List Cond := [Cond.fieldLink RX8 20 "TouchSheetModel" "kind" "[I", Cond.methodLink RX8 101 yX8_isShape, Cond.instanceMethod yX8_isShape, Cond.selects RX8 yX8_isShape yX8_isShape, Cond.initialized RX8, Cond.code yX8_isShape cX8_isShape 2 (some .boolean), Cond.fieldLink RX8 79 "TouchSheetModel" "shapes" "I", Cond.methodLink RX8 75 yX8_isIn, Cond.static yX8_isIn, Cond.code yX8_isIn cX8_isIn 3 (some .boolean), Cond.methodLink RX8 174 yX8_textured, Cond.instanceMethod yX8_textured, Cond.selects RX8 yX8_textured yX8_textured, Cond.code yX8_textured cX8_textured 6 none, Cond.fieldLink RX8 168 "TouchSheetModel" "groundMany" "I", Cond.fieldLink RX8 54 "TouchSheetModel" "grounds" "[I", Cond.fieldLink RX8 63 "TouchSheetModel" "beside" "[I", Cond.fieldLink RX8 45 "TouchSheetModel" "price" "[I", Cond.fieldLink RX8 171 "TouchSheetModel" "best" "I", Cond.fieldLink RX8 57 "TouchSheetModel" "tries" "[I", Cond.fieldLink RX8 42 "TouchSheetModel" "apart" "[Z", Cond.fieldLink RX8 60 "TouchSheetModel" "textures" "[I", Cond.methodLink RX8 126 yX8_farOf, Cond.instanceMethod yX8_farOf]
def wsX8_texture_r2 : List Cond := [Cond.selects RX8 yX8_farOf yX8_farOf, Cond.code yX8_farOf cX8_farOf 9 (some .int), Cond.fieldLink RX8 35 "TouchSheetModel" "pin" "[Z", Cond.methodLink RX8 115 yX8_abs, Cond.static yX8_abs, Cond.code yX8_abs cX8_abs 1 (some .int), Cond.methodLink RX8 177 yX8_textureOf, Cond.instanceMethod yX8_textureOf, Cond.selects RX8 yX8_textureOf yX8_textureOf, Cond.code yX8_textureOf cX8_textureOf 3 (some .int)]
def wsX8_texture : List Cond := .code yX8_texture cX8_texture 2 (some .int) :: ((wsX8_texture_r1 ++ wsX8_texture_r2) ++ wsX80)
def wsX8_isUp : List Cond := .code yX8_isUp cX8_isUp 6 (some .boolean) :: ([.fieldLink RX8 20 "TouchSheetModel" "kind" "[I", .fieldLink RX8 29 "TouchSheetModel" "x" "[I", .fieldLink RX8 32 "TouchSheetModel" "y" "[I", .methodLink RX8 123 yX8_has, .instanceMethod yX8_has, .selects RX8 yX8_has yX8_has, .initialized RX8, .code yX8_has cX8_has 4 (some .boolean), .fieldLink RX8 35 "TouchSheetModel" "pin" "[Z"] ++ wsX80)
def wsX8_print_r1 : List Cond := [Cond.fieldLink RX8 79 "TouchSheetModel" "shapes" "I", Cond.fieldLink RX8 66 "TouchSheetModel" "up" "[Z", Cond.methodLink RX8 75 yX8_isIn, Cond.static yX8_isIn, Cond.initialized RX8, Cond.code yX8_isIn cX8_isIn 3 (some .boolean), Cond.methodLink RX8 174 yX8_textured, Cond.instanceMethod yX8_textured, Cond.selects RX8 yX8_textured yX8_textured, Cond.code yX8_textured cX8_textured 6 none, Cond.fieldLink RX8 168 "TouchSheetModel" "groundMany" "I", Cond.fieldLink RX8 20 "TouchSheetModel" "kind" "[I", Cond.fieldLink RX8 54 "TouchSheetModel" "grounds" "[I", Cond.fieldLink RX8 63 "TouchSheetModel" "beside" "[I", Cond.fieldLink RX8 45 "TouchSheetModel" "price" "[I", Cond.fieldLink RX8 171 "TouchSheetModel" "best" "I", Cond.fieldLink RX8 57 "TouchSheetModel" "tries" "[I", Cond.fieldLink RX8 42 "TouchSheetModel" "apart" "[Z", Cond.fieldLink RX8 60 "TouchSheetModel" "textures" "[I", Cond.methodLink RX8 126 yX8_farOf, Cond.instanceMethod yX8_farOf, Cond.selects RX8 yX8_farOf yX8_farOf, Cond.code yX8_farOf cX8_farOf 9 (some .int), Cond.fieldLink RX8 35 "TouchSheetModel" "pin" "[Z"]
def wsX8_print_r2 : List Cond := [Cond.methodLink RX8 115 yX8_abs, Cond.static yX8_abs, Cond.code yX8_abs cX8_abs 1 (some .int), Cond.methodLink RX8 177 yX8_textureOf, Cond.instanceMethod yX8_textureOf, Cond.selects RX8 yX8_textureOf yX8_textureOf, Cond.code yX8_textureOf cX8_textureOf 3 (some .int), Cond.methodLink RX8 180 yX8_isUp, Cond.instanceMethod yX8_isUp, Cond.selects RX8 yX8_isUp yX8_isUp, Cond.code yX8_isUp cX8_isUp 6 (some .boolean), Cond.fieldLink RX8 29 "TouchSheetModel" "x" "[I", Cond.fieldLink RX8 32 "TouchSheetModel" "y" "[I", Cond.methodLink RX8 123 yX8_has, Cond.instanceMethod yX8_has, Cond.selects RX8 yX8_has yX8_has, Cond.code yX8_has cX8_has 4 (some .boolean)]
def wsX8_print : List Cond := .code yX8_print cX8_print 5 (some .int) :: ((wsX8_print_r1 ++ wsX8_print_r2) ++ wsX80)
def wsX8_up : List Cond := .code yX8_up cX8_up 3 (some .int) :: ([.fieldLink RX8 66 "TouchSheetModel" "up" "[Z", .methodLink RX8 82 yX8_isPin, .static yX8_isPin, .initialized RX8, .code yX8_isPin cX8_isPin 2 (some .boolean), .methodLink RX8 75 yX8_isIn, .static yX8_isIn, .code yX8_isIn cX8_isIn 3 (some .boolean)] ++ wsX80)
def wsX8_feels : List Cond := .code yX8_feels cX8_feels 7 none :: ([.fieldLink RX8 183 "TouchSheetModel" "things" "I", .fieldLink RX8 69 "TouchSheetModel" "thing" "[I", .fieldLink RX8 66 "TouchSheetModel" "up" "[Z", .fieldLink RX8 72 "TouchSheetModel" "row" "[I", .methodLink RX8 82 yX8_isPin, .static yX8_isPin, .initialized RX8, .code yX8_isPin cX8_isPin 2 (some .boolean), .methodLink RX8 75 yX8_isIn, .static yX8_isIn, .code yX8_isIn cX8_isIn 3 (some .boolean)] ++ wsX80)
def wsX8_things : List Cond := .code yX8_things cX8_things 1 (some .int) :: ([.fieldLink RX8 183 "TouchSheetModel" "things" "I", .methodLink RX8 186 yX8_feels, .instanceMethod yX8_feels, .selects RX8 yX8_feels yX8_feels, .initialized RX8, .code yX8_feels cX8_feels 7 none, .fieldLink RX8 69 "TouchSheetModel" "thing" "[I", .fieldLink RX8 66 "TouchSheetModel" "up" "[Z", .fieldLink RX8 72 "TouchSheetModel" "row" "[I", .methodLink RX8 82 yX8_isPin, .static yX8_isPin, .code yX8_isPin cX8_isPin 2 (some .boolean), .methodLink RX8 75 yX8_isIn, .static yX8_isIn, .code yX8_isIn cX8_isIn 3 (some .boolean)] ++ wsX80)
def wsX8_beside : List Cond := .code yX8_beside cX8_beside 6 (some .int) :: ([.fieldLink RX8 66 "TouchSheetModel" "up" "[Z", .methodLink RX8 82 yX8_isPin, .static yX8_isPin, .initialized RX8, .code yX8_isPin cX8_isPin 2 (some .boolean), .methodLink RX8 75 yX8_isIn, .static yX8_isIn, .code yX8_isIn cX8_isIn 3 (some .boolean)] ++ wsX80)
def wsX8_thing : List Cond := .code yX8_thing cX8_thing 10 (some .int) :: ([.fieldLink RX8 183 "TouchSheetModel" "things" "I", .fieldLink RX8 69 "TouchSheetModel" "thing" "[I", .methodLink RX8 186 yX8_feels, .instanceMethod yX8_feels, .selects RX8 yX8_feels yX8_feels, .initialized RX8, .code yX8_feels cX8_feels 7 none, .fieldLink RX8 66 "TouchSheetModel" "up" "[Z", .fieldLink RX8 72 "TouchSheetModel" "row" "[I", .methodLink RX8 82 yX8_isPin, .static yX8_isPin, .code yX8_isPin cX8_isPin 2 (some .boolean), .methodLink RX8 75 yX8_isIn, .static yX8_isIn, .code yX8_isIn cX8_isIn 3 (some .boolean), .methodLink RX8 189 yX8_beside, .instanceMethod yX8_beside, .selects RX8 yX8_beside yX8_beside, .code yX8_beside cX8_beside 6 (some .int)] ++ wsX80)
def wsJ9_abs_0f7a4 : List Cond := .code yJ9_abs_0f7a4 cJ9_abs_0f7a4 1 (some .int) :: ([])
def wsJ9_max_7cf53 : List Cond := .code yJ9_max_7cf53 cJ9_max_7cf53 2 (some .int) :: ([])
def wsJ9_min_7cf53 : List Cond := .code yJ9_min_7cf53 cJ9_min_7cf53 2 (some .int) :: ([])
def wsL_law_r1 : List Cond := [Cond.classLink RL 7 RX7, Cond.instantiable RX7 19, Cond.initialized RX7, Cond.classLink RL 10 RX8, Cond.instantiable RX8 26, Cond.initialized RX8, Cond.methodLink RL 9 yX7_init, Cond.instanceMethod yX7_init, Cond.code yX7_init cX7_init 2 none, Cond.methodLink RX7 3 objectInit, Cond.instanceMethod objectInit, Cond.code objectInit ⟨#[0xb1]⟩ 1 none, Cond.classLink RX7 9 RX3, Cond.fieldLink RX7 11 "TouchSheet" "shapes" "[LTouchSheet$Shape;", Cond.arrayClass .int, Cond.fieldLink RX7 15 "TouchSheet" "waitingX" "[I", Cond.fieldLink RX7 19 "TouchSheet" "waitingY" "[I", Cond.fieldLink RX7 22 "TouchSheet" "leastGap" "I", Cond.fieldLink RX7 26 "TouchSheet" "meets" "[I", Cond.classLink RX7 29 "[[I", Cond.fieldLink RX7 31 "TouchSheet" "distance" "[[I", Cond.classLink RX7 34 RX2, Cond.instantiable RX2 1, Cond.initialized RX2]
def wsL_law_r2 : List Cond := [Cond.fieldLink RX7 37 "TouchSheet" "swelling" "LTouchSheet$Pins;", Cond.classLink RX7 41 RX4, Cond.instantiable RX4 2, Cond.initialized RX4, Cond.fieldLink RX7 44 "TouchSheet" "simpler" "LTouchSheet$Simpler;", Cond.classLink RX7 48 RX1, Cond.instantiable RX1 2, Cond.initialized RX1, Cond.fieldLink RX7 51 "TouchSheet" "keeper" "LTouchSheet$Keeper;", Cond.classLink RX7 55 RX5, Cond.instantiable RX5 5, Cond.initialized RX5, Cond.fieldLink RX7 58 "TouchSheet" "stacker" "LTouchSheet$Stacker;", Cond.classLink RX7 62 RX6, Cond.instantiable RX6 9, Cond.initialized RX6, Cond.fieldLink RX7 65 "TouchSheet" "weaver" "LTouchSheet$Weaver;", Cond.fieldLink RX7 69 "TouchSheet" "near" "[I", Cond.fieldLink RX7 72 "TouchSheet" "printed" "LTouchSheet$Pins;", Cond.classLink RX7 75 RX0, Cond.instantiable RX0 4, Cond.initialized RX0, Cond.fieldLink RX7 78 "TouchSheet" "finger" "LTouchSheet$Finger;", Cond.instantiable RX3 6]
def wsL_law_r3 : List Cond := [Cond.initialized RX3, Cond.instanceMethod yX2_init, Cond.code yX2_init cX2_init 1 none, Cond.methodLink RX2 3 objectInit, Cond.fieldLink RX2 9 "TouchSheet$Pins" "rows" "[I", Cond.instanceMethod yX4_init, Cond.code yX4_init cX4_init 1 none, Cond.methodLink RX4 3 objectInit, Cond.fieldLink RX4 9 "TouchSheet$Simpler" "fewestFrom" "[I", Cond.fieldLink RX4 15 "TouchSheet$Simpler" "nextAfter" "[I", Cond.instanceMethod yX1_init, Cond.code yX1_init cX1_init 1 none, Cond.methodLink RX1 3 objectInit, Cond.fieldLink RX1 9 "TouchSheet$Keeper" "weights" "[I", Cond.instanceMethod yX5_init, Cond.code yX5_init cX5_init 1 none, Cond.methodLink RX5 3 objectInit, Cond.fieldLink RX5 9 "TouchSheet$Stacker" "heldBy" "[I", Cond.fieldLink RX5 15 "TouchSheet$Stacker" "notNear" "[I", Cond.fieldLink RX5 18 "TouchSheet$Stacker" "ones" "[I", Cond.fieldLink RX5 21 "TouchSheet$Stacker" "sheetOf" "[I", Cond.methodLink RX7 64 yX6_init, Cond.instanceMethod yX6_init, Cond.code yX6_init cX6_init 2 none]
def wsL_law_r4 : List Cond := [Cond.methodLink RX6 5 objectInit, Cond.fieldLink RX6 11 "TouchSheet$Weaver" "apartFrom" "[I", Cond.fieldLink RX6 15 "TouchSheet$Weaver" "prices" "[I", Cond.fieldLink RX6 18 "TouchSheet$Weaver" "neighbours" "[I", Cond.fieldLink RX6 21 "TouchSheet$Weaver" "byPrice" "[I", Cond.fieldLink RX6 24 "TouchSheet$Weaver" "cheapest" "[I", Cond.fieldLink RX6 27 "TouchSheet$Weaver" "takers" "[I", Cond.classLink RX6 30 "[[I", Cond.fieldLink RX6 32 "TouchSheet$Weaver" "open" "[[I", Cond.instanceMethod yX0_init, Cond.code yX0_init cX0_init 1 none, Cond.methodLink RX0 3 objectInit, Cond.classLink RX0 9 RX2, Cond.fieldLink RX0 12 "TouchSheet$Finger" "left" "LTouchSheet$Pins;", Cond.fieldLink RX0 18 "TouchSheet$Finger" "held" "LTouchSheet$Pins;", Cond.classLink RX0 21 "[[I", Cond.fieldLink RX0 23 "TouchSheet$Finger" "facts" "[[I", Cond.instanceMethod yX3_init, Cond.code yX3_init cX3_init 1 none, Cond.methodLink RX3 3 objectInit, Cond.fieldLink RX3 9 "TouchSheet$Shape" "xs" "[I", Cond.fieldLink RX3 15 "TouchSheet$Shape" "ys" "[I", Cond.classLink RX3 18 RX2, Cond.fieldLink RX3 21 "TouchSheet$Shape" "pins" "LTouchSheet$Pins;"]
def wsL_law_r5 : List Cond := [Cond.methodLink RL 12 yX8_init, Cond.instanceMethod yX8_init, Cond.code yX8_init cX8_init 3 none, Cond.methodLink RX8 1 objectInit, Cond.fieldLink RX8 7 "TouchSheetModel" "gap" "I", Cond.fieldLink RX8 13 "TouchSheetModel" "waitX" "[I", Cond.fieldLink RX8 17 "TouchSheetModel" "waitY" "[I", Cond.fieldLink RX8 20 "TouchSheetModel" "kind" "[I", Cond.fieldLink RX8 23 "TouchSheetModel" "worth" "[I", Cond.fieldLink RX8 26 "TouchSheetModel" "corners" "[I", Cond.fieldLink RX8 29 "TouchSheetModel" "x" "[I", Cond.fieldLink RX8 32 "TouchSheetModel" "y" "[I", Cond.arrayClass .boolean, Cond.fieldLink RX8 35 "TouchSheetModel" "pin" "[Z", Cond.fieldLink RX8 39 "TouchSheetModel" "meets" "[Z", Cond.fieldLink RX8 42 "TouchSheetModel" "apart" "[Z", Cond.fieldLink RX8 45 "TouchSheetModel" "price" "[I", Cond.fieldLink RX8 48 "TouchSheetModel" "near" "[I", Cond.fieldLink RX8 51 "TouchSheetModel" "onSheet" "[I", Cond.fieldLink RX8 54 "TouchSheetModel" "grounds" "[I", Cond.fieldLink RX8 57 "TouchSheetModel" "tries" "[I", Cond.fieldLink RX8 60 "TouchSheetModel" "textures" "[I", Cond.fieldLink RX8 63 "TouchSheetModel" "beside" "[I", Cond.fieldLink RX8 66 "TouchSheetModel" "up" "[Z"]
def wsL_law_r6 : List Cond := [Cond.fieldLink RX8 69 "TouchSheetModel" "thing" "[I", Cond.fieldLink RX8 72 "TouchSheetModel" "row" "[I", Cond.methodLink RL 13 yX7_corner, Cond.instanceMethod yX7_corner, Cond.selects RX7 yX7_corner yX7_corner, Cond.code yX7_corner cX7_corner 3 (some .int), Cond.fieldLink RX7 87 "TouchSheet" "waiting" "I", Cond.methodLink RX7 83 yX7_isPin, Cond.static yX7_isPin, Cond.code yX7_isPin cX7_isPin 2 (some .boolean), Cond.methodLink RL 17 yX8_corner, Cond.instanceMethod yX8_corner, Cond.selects RX8 yX8_corner yX8_corner, Cond.code yX8_corner cX8_corner 3 (some .int), Cond.fieldLink RX8 86 "TouchSheetModel" "waiting" "I", Cond.methodLink RX8 82 yX8_isPin, Cond.static yX8_isPin, Cond.code yX8_isPin cX8_isPin 2 (some .boolean), Cond.methodLink RX8 75 yX8_isIn, Cond.static yX8_isIn, Cond.code yX8_isIn cX8_isIn 3 (some .boolean), Cond.methodLink RL 18 yX7_line, Cond.instanceMethod yX7_line, Cond.selects RX7 yX7_line yX7_line]
def wsL_law_r7 : List Cond := [Cond.code yX7_line cX7_line 4 (some .int), Cond.fieldLink RX7 94 "TouchSheet" "count" "I", Cond.methodLink RX7 90 yX7_canAdd, Cond.instanceMethod yX7_canAdd, Cond.selects RX7 yX7_canAdd yX7_canAdd, Cond.code yX7_canAdd cX7_canAdd 2 (some .boolean), Cond.methodLink RX7 97 yX3_begin, Cond.instanceMethod yX3_begin, Cond.selects RX3 yX3_begin yX3_begin, Cond.code yX3_begin cX3_begin 3 none, Cond.fieldLink RX3 25 "TouchSheet$Shape" "kind" "I", Cond.fieldLink RX3 29 "TouchSheet$Shape" "worth" "I", Cond.fieldLink RX3 32 "TouchSheet$Shape" "places" "I", Cond.methodLink RX7 101 yX3_addPlace, Cond.instanceMethod yX3_addPlace, Cond.selects RX3 yX3_addPlace yX3_addPlace, Cond.code yX3_addPlace cX3_addPlace 3 none, Cond.methodLink RX7 104 yX7_finish, Cond.instanceMethod yX7_finish, Cond.selects RX7 yX7_finish yX7_finish, Cond.code yX7_finish cX7_finish 3 (some .int), Cond.methodLink RX7 165 yX3_draw, Cond.instanceMethod yX3_draw, Cond.selects RX3 yX3_draw yX3_draw]
def wsL_law_r8 : List Cond := [Cond.code yX3_draw cX3_draw 1 none, Cond.methodLink RX3 43 yX2_clear, Cond.instanceMethod yX2_clear, Cond.selects RX2 yX2_clear yX2_clear, Cond.code yX2_clear cX2_clear 2 none, Cond.methodLink RX3 46 yX3_drawLine, Cond.instanceMethod yX3_drawLine, Cond.selects RX3 yX3_drawLine yX3_drawLine, Cond.code yX3_drawLine cX3_drawLine 2 none, Cond.methodLink RX3 55 yX2_raise, Cond.instanceMethod yX2_raise, Cond.selects RX2 yX2_raise yX2_raise, Cond.code yX2_raise cX2_raise 3 none, Cond.methodLink RX3 58 yX3_drawStep, Cond.instanceMethod yX3_drawStep, Cond.selects RX3 yX3_drawStep yX3_drawStep, Cond.code yX3_drawStep cX3_drawStep 11 none, Cond.methodLink RX3 62 Lib.Math.abs.name, Cond.static Lib.Math.abs.name, Cond.initialized "java/lang/Math", Cond.code Lib.Math.abs.name Lib.Math.abs.code 1 (some .int), Cond.methodLink RX3 68 Lib.Math.max.name, Cond.static Lib.Math.max.name, Cond.code Lib.Math.max.name Lib.Math.max.code 2 (some .int)]
def wsL_law_r9 : List Cond := [Cond.methodLink RX3 72 yJ9_floorDiv_7cf53, Cond.static yJ9_floorDiv_7cf53, Cond.initialized RJ9, Cond.code yJ9_floorDiv_7cf53 cJ9_floorDiv_7cf53 3 (some .int), Cond.methodLink RX3 49 yX3_drawGround, Cond.instanceMethod yX3_drawGround, Cond.selects RX3 yX3_drawGround yX3_drawGround, Cond.code yX3_drawGround cX3_drawGround 3 none, Cond.fieldLink RX3 75 "TouchSheet$Pins" "rows" "[I", Cond.methodLink RX3 52 yX3_drawMark, Cond.instanceMethod yX3_drawMark, Cond.selects RX3 yX3_drawMark yX3_drawMark, Cond.code yX3_drawMark cX3_drawMark 3 none, Cond.methodLink RX7 168 yX7_measure, Cond.instanceMethod yX7_measure, Cond.selects RX7 yX7_measure yX7_measure, Cond.code yX7_measure cX7_measure 5 none, Cond.fieldLink RX7 132 "TouchSheet$Shape" "pins" "LTouchSheet$Pins;", Cond.methodLink RX7 219 yX2_copy, Cond.instanceMethod yX2_copy, Cond.selects RX2 yX2_copy yX2_copy, Cond.code yX2_copy cX2_copy 3 none, Cond.methodLink RX7 114 yX7_has, Cond.static yX7_has]
def wsL_law_r10 : List Cond := [Cond.code yX7_has cX7_has 2 (some .boolean), Cond.methodLink RX7 222 yX2_touch, Cond.instanceMethod yX2_touch, Cond.selects RX2 yX2_touch yX2_touch, Cond.code yX2_touch cX2_touch 3 (some .boolean), Cond.methodLink RX7 226 yX2_swell, Cond.instanceMethod yX2_swell, Cond.selects RX2 yX2_swell yX2_swell, Cond.code yX2_swell cX2_swell 5 none, Cond.methodLink RX2 28 yX2_widened, Cond.static yX2_widened, Cond.code yX2_widened cX2_widened 1 (some .int), Cond.constant RX2 31 (16777215), Cond.methodLink RX7 108 yX7_forgetAnswers, Cond.instanceMethod yX7_forgetAnswers, Cond.selects RX7 yX7_forgetAnswers yX7_forgetAnswers, Cond.code yX7_forgetAnswers cX7_forgetAnswers 1 none, Cond.fieldLink RX7 209 "TouchSheet" "keeperKnows" "Z", Cond.fieldLink RX7 213 "TouchSheet" "stackerKnows" "Z", Cond.fieldLink RX7 216 "TouchSheet" "weaverKnows" "Z", Cond.methodLink RL 22 yX8_line, Cond.instanceMethod yX8_line, Cond.selects RX8 yX8_line yX8_line, Cond.code yX8_line cX8_line 4 (some .int)]
def wsL_law_r11 : List Cond := [Cond.methodLink RX8 89 yX8_canCome, Cond.instanceMethod yX8_canCome, Cond.selects RX8 yX8_canCome yX8_canCome, Cond.code yX8_canCome cX8_canCome 2 (some .boolean), Cond.fieldLink RX8 79 "TouchSheetModel" "shapes" "I", Cond.methodLink RX8 93 yX8_comes, Cond.instanceMethod yX8_comes, Cond.selects RX8 yX8_comes yX8_comes, Cond.code yX8_comes cX8_comes 6 (some .int), Cond.methodLink RX8 97 yX8_draws, Cond.instanceMethod yX8_draws, Cond.selects RX8 yX8_draws yX8_draws, Cond.code yX8_draws cX8_draws 5 none, Cond.methodLink RX8 107 yX8_puts, Cond.instanceMethod yX8_puts, Cond.selects RX8 yX8_puts yX8_puts, Cond.code yX8_puts cX8_puts 4 none, Cond.methodLink RX8 111 yX8_steps, Cond.instanceMethod yX8_steps, Cond.selects RX8 yX8_steps yX8_steps, Cond.code yX8_steps cX8_steps 8 none, Cond.methodLink RX8 115 yX8_abs, Cond.static yX8_abs, Cond.code yX8_abs cX8_abs 1 (some .int)]
def wsL_law_r12 : List Cond := [Cond.methodLink RX8 119 yX8_down, Cond.static yX8_down, Cond.code yX8_down cX8_down 2 (some .int), Cond.methodLink RL 23 yX7_ground, Cond.instanceMethod yX7_ground, Cond.selects RX7 yX7_ground yX7_ground, Cond.code yX7_ground cX7_ground 7 (some .int), Cond.methodLink RL 27 yX8_ground, Cond.instanceMethod yX8_ground, Cond.selects RX8 yX8_ground yX8_ground, Cond.code yX8_ground cX8_ground 7 (some .int), Cond.methodLink RL 28 yX7_mark, Cond.instanceMethod yX7_mark, Cond.selects RX7 yX7_mark yX7_mark, Cond.code yX7_mark cX7_mark 5 (some .int), Cond.methodLink RL 32 yX8_mark, Cond.instanceMethod yX8_mark, Cond.selects RX8 yX8_mark yX8_mark, Cond.code yX8_mark cX8_mark 5 (some .int), Cond.methodLink RL 33 yX7_undo, Cond.instanceMethod yX7_undo, Cond.selects RX7 yX7_undo yX7_undo, Cond.code yX7_undo cX7_undo 2 (some .boolean), Cond.methodLink RL 37 yX8_undo]
def wsL_law_r13 : List Cond := [Cond.instanceMethod yX8_undo, Cond.selects RX8 yX8_undo yX8_undo, Cond.code yX8_undo cX8_undo 1 (some .boolean), Cond.methodLink RL 38 yX7_gap, Cond.instanceMethod yX7_gap, Cond.selects RX7 yX7_gap yX7_gap, Cond.code yX7_gap cX7_gap 2 (some .boolean), Cond.methodLink RL 42 yX8_gap, Cond.instanceMethod yX8_gap, Cond.selects RX8 yX8_gap yX8_gap, Cond.code yX8_gap cX8_gap 2 (some .boolean), Cond.methodLink RL 43 yX7_meet, Cond.instanceMethod yX7_meet, Cond.selects RX7 yX7_meet yX7_meet, Cond.code yX7_meet cX7_meet 4 (some .boolean), Cond.methodLink RX7 111 yX7_isShape, Cond.instanceMethod yX7_isShape, Cond.selects RX7 yX7_isShape yX7_isShape, Cond.code yX7_isShape cX7_isShape 2 (some .boolean), Cond.methodLink RL 47 yX8_meet, Cond.instanceMethod yX8_meet, Cond.selects RX8 yX8_meet yX8_meet, Cond.code yX8_meet cX8_meet 4 (some .boolean), Cond.methodLink RX8 101 yX8_isShape]
def wsL_law_r14 : List Cond := [Cond.instanceMethod yX8_isShape, Cond.selects RX8 yX8_isShape yX8_isShape, Cond.code yX8_isShape cX8_isShape 2 (some .boolean), Cond.methodLink RL 48 yX7_apart, Cond.instanceMethod yX7_apart, Cond.selects RX7 yX7_apart yX7_apart, Cond.code yX7_apart cX7_apart 4 (some .boolean), Cond.fieldLink RX7 120 "TouchSheet$Weaver" "apartFrom" "[I", Cond.methodLink RX7 117 yX7_isTexture, Cond.static yX7_isTexture, Cond.code yX7_isTexture cX7_isTexture 1 (some .boolean), Cond.methodLink RL 51 yX8_apart, Cond.instanceMethod yX8_apart, Cond.selects RX8 yX8_apart yX8_apart, Cond.code yX8_apart cX8_apart 4 (some .boolean), Cond.methodLink RX8 104 yX8_isTexture, Cond.static yX8_isTexture, Cond.code yX8_isTexture cX8_isTexture 1 (some .boolean), Cond.methodLink RL 52 yX7_price, Cond.instanceMethod yX7_price, Cond.selects RX7 yX7_price yX7_price, Cond.code yX7_price cX7_price 3 (some .boolean), Cond.fieldLink RX7 123 "TouchSheet$Weaver" "prices" "[I", Cond.methodLink RL 56 yX8_price]
def wsL_law_r15 : List Cond := [Cond.instanceMethod yX8_price, Cond.selects RX8 yX8_price yX8_price, Cond.code yX8_price cX8_price 3 (some .boolean), Cond.methodLink RL 57 yX7_look, Cond.instanceMethod yX7_look, Cond.selects RX7 yX7_look yX7_look, Cond.code yX7_look cX7_look 2 (some .int), Cond.methodLink RL 60 yX8_look, Cond.instanceMethod yX8_look, Cond.selects RX8 yX8_look yX8_look, Cond.code yX8_look cX8_look 2 (some .int), Cond.methodLink RL 61 yX7_of, Cond.instanceMethod yX7_of, Cond.selects RX7 yX7_of yX7_of, Cond.code yX7_of cX7_of 4 (some .int), Cond.fieldLink RX7 126 "TouchSheet$Shape" "kind" "I", Cond.fieldLink RX7 129 "TouchSheet$Shape" "worth" "I", Cond.fieldLink RX7 139 "TouchSheet$Shape" "places" "I", Cond.methodLink RX7 135 yX2_size, Cond.instanceMethod yX2_size, Cond.selects RX2 yX2_size yX2_size, Cond.code yX2_size cX2_size 3 (some .int), Cond.methodLink RX2 22 yJ6_bitCount_0f7a4, Cond.static yJ6_bitCount_0f7a4]
def wsL_law_r16 : List Cond := [Cond.initialized RJ6, Cond.code yJ6_bitCount_0f7a4 cJ6_bitCount_0f7a4 1 (some .int), Cond.constant RJ6 265 (1431655765), Cond.constant RJ6 266 (858993459), Cond.constant RJ6 267 (252645135), Cond.methodLink RX7 142 yX3_coordinate, Cond.instanceMethod yX3_coordinate, Cond.selects RX3 yX3_coordinate yX3_coordinate, Cond.code yX3_coordinate cX3_coordinate 3 (some .int), Cond.methodLink RL 64 yX8_of, Cond.instanceMethod yX8_of, Cond.selects RX8 yX8_of yX8_of, Cond.code yX8_of cX8_of 5 (some .int), Cond.methodLink RL 65 yX7_pin, Cond.instanceMethod yX7_pin, Cond.selects RX7 yX7_pin yX7_pin, Cond.code yX7_pin cX7_pin 4 (some .int), Cond.methodLink RX7 146 yX2_holds, Cond.instanceMethod yX2_holds, Cond.selects RX2 yX2_holds yX2_holds, Cond.code yX2_holds cX2_holds 3 (some .boolean), Cond.methodLink RL 68 yX8_pin, Cond.instanceMethod yX8_pin, Cond.selects RX8 yX8_pin yX8_pin]
def wsL_law_r17 : List Cond := [Cond.code yX8_pin cX8_pin 4 (some .int), Cond.methodLink RX8 123 yX8_has, Cond.instanceMethod yX8_has, Cond.selects RX8 yX8_has yX8_has, Cond.code yX8_has cX8_has 4 (some .boolean), Cond.methodLink RL 69 yX7_far, Cond.instanceMethod yX7_far, Cond.selects RX7 yX7_far yX7_far, Cond.code yX7_far cX7_far 3 (some .int), Cond.methodLink RL 72 yX8_far, Cond.instanceMethod yX8_far, Cond.selects RX8 yX8_far yX8_far, Cond.code yX8_far cX8_far 3 (some .int), Cond.methodLink RX8 126 yX8_farOf, Cond.instanceMethod yX8_farOf, Cond.selects RX8 yX8_farOf yX8_farOf, Cond.code yX8_farOf cX8_farOf 9 (some .int), Cond.methodLink RL 73 yX7_simple, Cond.instanceMethod yX7_simple, Cond.selects RX7 yX7_simple yX7_simple, Cond.code yX7_simple cX7_simple 5 (some .int), Cond.methodLink RX7 149 yX7_canSimplify, Cond.instanceMethod yX7_canSimplify, Cond.selects RX7 yX7_canSimplify yX7_canSimplify]
def wsL_law_r18 : List Cond := [Cond.code yX7_canSimplify cX7_canSimplify 3 (some .boolean), Cond.methodLink RX7 152 yX4_fewest, Cond.instanceMethod yX4_fewest, Cond.selects RX4 yX4_fewest yX4_fewest, Cond.code yX4_fewest cX4_fewest 6 (some .int), Cond.fieldLink RX4 18 "TouchSheet$Shape" "places" "I", Cond.methodLink RX4 24 yX4_canStep, Cond.static yX4_canStep, Cond.code yX4_canStep cX4_canStep 5 (some .boolean), Cond.methodLink RX4 32 yX4_isWithin, Cond.static yX4_isWithin, Cond.code yX4_isWithin cX4_isWithin 14 (some .boolean), Cond.fieldLink RX4 36 "TouchSheet$Shape" "xs" "[I", Cond.fieldLink RX4 39 "TouchSheet$Shape" "ys" "[I", Cond.methodLink RX4 28 yX4_walk, Cond.instanceMethod yX4_walk, Cond.selects RX4 yX4_walk yX4_walk, Cond.code yX4_walk cX4_walk 5 (some .int), Cond.methodLink RX7 156 yJ6_bitCount_0f7a4, Cond.methodLink RL 76 yX8_simple, Cond.instanceMethod yX8_simple, Cond.selects RX8 yX8_simple yX8_simple, Cond.code yX8_simple cX8_simple 5 (some .int), Cond.methodLink RX8 146 yX8_isLine]
def wsL_law_r19 : List Cond := [Cond.instanceMethod yX8_isLine, Cond.selects RX8 yX8_isLine yX8_isLine, Cond.code yX8_isLine cX8_isLine 3 (some .boolean), Cond.methodLink RX8 149 yX8_simpler, Cond.instanceMethod yX8_simpler, Cond.selects RX8 yX8_simpler yX8_simpler, Cond.code yX8_simpler cX8_simpler 6 (some .int), Cond.methodLink RX8 137 yX8_keeps, Cond.instanceMethod yX8_keeps, Cond.selects RX8 yX8_keeps yX8_keeps, Cond.code yX8_keeps cX8_keeps 6 (some .boolean), Cond.methodLink RX8 133 yX8_isStep, Cond.instanceMethod yX8_isStep, Cond.selects RX8 yX8_isStep yX8_isStep, Cond.code yX8_isStep cX8_isStep 7 (some .boolean), Cond.methodLink RX8 129 yX8_isBy, Cond.instanceMethod yX8_isBy, Cond.selects RX8 yX8_isBy yX8_isBy, Cond.code yX8_isBy cX8_isBy 16 (some .boolean), Cond.methodLink RX8 140 yX8_bits, Cond.static yX8_bits, Cond.code yX8_bits cX8_bits 3 (some .int), Cond.methodLink RX8 143 yX8_isAhead, Cond.static yX8_isAhead]
def wsL_law_r20 : List Cond := [Cond.code yX8_isAhead cX8_isAhead 3 (some .boolean), Cond.methodLink RL 77 yX7_simplify, Cond.instanceMethod yX7_simplify, Cond.selects RX7 yX7_simplify yX7_simplify, Cond.code yX7_simplify cX7_simplify 4 (some .int), Cond.methodLink RX7 161 yX3_keepPlaces, Cond.instanceMethod yX3_keepPlaces, Cond.selects RX3 yX3_keepPlaces yX3_keepPlaces, Cond.code yX3_keepPlaces cX3_keepPlaces 4 none, Cond.methodLink RX3 39 yX3_addPlace, Cond.methodLink RL 80 yX8_simplify, Cond.instanceMethod yX8_simplify, Cond.selects RX8 yX8_simplify yX8_simplify, Cond.code yX8_simplify cX8_simplify 6 (some .int), Cond.methodLink RL 81 yX7_kept, Cond.instanceMethod yX7_kept, Cond.selects RX7 yX7_kept yX7_kept, Cond.code yX7_kept cX7_kept 1 (some .int), Cond.methodLink RX7 171 yX7_chosen, Cond.instanceMethod yX7_chosen, Cond.selects RX7 yX7_chosen yX7_chosen, Cond.code yX7_chosen cX7_chosen 1 (some .int), Cond.fieldLink RX7 240 "TouchSheet$Keeper" "keptSet" "I", Cond.methodLink RX7 233 yX7_lookWhatIsNear]
def wsL_law_r21 : List Cond := [Cond.instanceMethod yX7_lookWhatIsNear, Cond.selects RX7 yX7_lookWhatIsNear yX7_lookWhatIsNear, Cond.code yX7_lookWhatIsNear cX7_lookWhatIsNear 2 none, Cond.methodLink RX7 229 yX7_within, Cond.instanceMethod yX7_within, Cond.selects RX7 yX7_within yX7_within, Cond.code yX7_within cX7_within 5 (some .int), Cond.methodLink RX7 236 yX1_choose, Cond.instanceMethod yX1_choose, Cond.selects RX1 yX1_choose yX1_choose, Cond.code yX1_choose cX1_choose 5 none, Cond.fieldLink RX1 15 "TouchSheet$Shape" "worth" "I", Cond.fieldLink RX1 25 "TouchSheet$Keeper" "keptSet" "I", Cond.static yX7_heaviest, Cond.code yX7_heaviest cX7_heaviest 7 (some .int), Cond.methodLink RX7 278 Lib.Math.max.name, Cond.methodLink RX7 274 yX7_heaviest, Cond.methodLink RL 85 yX8_kept, Cond.instanceMethod yX8_kept, Cond.selects RX8 yX8_kept yX8_kept, Cond.code yX8_kept cX8_kept 5 (some .int), Cond.methodLink RX8 152 yX8_nears, Cond.instanceMethod yX8_nears, Cond.selects RX8 yX8_nears yX8_nears]
def wsL_law_r22 : List Cond := [Cond.code yX8_nears cX8_nears 3 none, Cond.methodLink RX8 155 yX8_worthOf, Cond.instanceMethod yX8_worthOf, Cond.selects RX8 yX8_worthOf yX8_worthOf, Cond.code yX8_worthOf cX8_worthOf 4 (some .int), Cond.methodLink RL 86 yX7_loss, Cond.instanceMethod yX7_loss, Cond.selects RX7 yX7_loss yX7_loss, Cond.code yX7_loss cX7_loss 4 (some .int), Cond.methodLink RL 89 yX8_loss, Cond.instanceMethod yX8_loss, Cond.selects RX8 yX8_loss yX8_loss, Cond.code yX8_loss cX8_loss 1 (some .int), Cond.methodLink RX8 158 yX8_kept, Cond.methodLink RL 90 yX7_sheets, Cond.instanceMethod yX7_sheets, Cond.selects RX7 yX7_sheets yX7_sheets, Cond.code yX7_sheets cX7_sheets 1 (some .int), Cond.fieldLink RX7 177 "TouchSheet$Stacker" "sheetCount" "I", Cond.methodLink RX7 174 yX7_stack, Cond.instanceMethod yX7_stack, Cond.selects RX7 yX7_stack yX7_stack, Cond.code yX7_stack cX7_stack 1 none, Cond.methodLink RX7 243 yX5_lay]
def wsL_law_r23 : List Cond := [Cond.instanceMethod yX5_lay, Cond.selects RX5 yX5_lay yX5_lay, Cond.code yX5_lay cX5_lay 5 none, Cond.fieldLink RX5 32 "TouchSheet$Stacker" "sheetCount" "I", Cond.methodLink RX5 28 yX5_layOn, Cond.instanceMethod yX5_layOn, Cond.selects RX5 yX5_layOn yX5_layOn, Cond.code yX5_layOn cX5_layOn 5 (some .boolean), Cond.methodLink RX5 36 yX5_place, Cond.instanceMethod yX5_place, Cond.selects RX5 yX5_place yX5_place, Cond.code yX5_place cX5_place 8 (some .boolean), Cond.methodLink RX5 40 Lib.Math.max.name, Cond.methodLink RL 93 yX8_sheets, Cond.instanceMethod yX8_sheets, Cond.selects RX8 yX8_sheets yX8_sheets, Cond.code yX8_sheets cX8_sheets 2 (some .int), Cond.methodLink RX8 162 yX8_lays, Cond.instanceMethod yX8_lays, Cond.selects RX8 yX8_lays yX8_lays, Cond.code yX8_lays cX8_lays 5 (some .boolean), Cond.methodLink RL 94 yX7_sheet, Cond.instanceMethod yX7_sheet, Cond.selects RX7 yX7_sheet yX7_sheet]
def wsL_law_r24 : List Cond := [Cond.code yX7_sheet cX7_sheet 2 (some .int), Cond.fieldLink RX7 180 "TouchSheet$Stacker" "sheetOf" "[I", Cond.methodLink RL 97 yX8_sheet, Cond.instanceMethod yX8_sheet, Cond.selects RX8 yX8_sheet yX8_sheet, Cond.code yX8_sheet cX8_sheet 2 (some .int), Cond.methodLink RX8 165 yX8_sheets, Cond.methodLink RL 98 yX7_texture, Cond.instanceMethod yX7_texture, Cond.selects RX7 yX7_texture yX7_texture, Cond.code yX7_texture cX7_texture 2 (some .int), Cond.methodLink RX7 183 yX7_weave, Cond.instanceMethod yX7_weave, Cond.selects RX7 yX7_weave yX7_weave, Cond.code yX7_weave cX7_weave 3 none, Cond.fieldLink RX7 250 "TouchSheet$Weaver" "neighbours" "[I", Cond.methodLink RX7 247 yX7_groundSet, Cond.instanceMethod yX7_groundSet, Cond.selects RX7 yX7_groundSet yX7_groundSet, Cond.code yX7_groundSet cX7_groundSet 3 (some .int), Cond.methodLink RX7 253 yX6_giveTextures, Cond.instanceMethod yX6_giveTextures, Cond.selects RX6 yX6_giveTextures yX6_giveTextures, Cond.code yX6_giveTextures cX6_giveTextures 3 none]
def wsL_law_r25 : List Cond := [Cond.fieldLink RX6 35 "TouchSheet$Weaver" "grounds" "I", Cond.constantLong RX6 42 (1152921504606846976), Cond.fieldLink RX6 48 "TouchSheet$Weaver" "best" "J", Cond.methodLink RX6 39 yX6_rankTextures, Cond.instanceMethod yX6_rankTextures, Cond.selects RX6 yX6_rankTextures yX6_rankTextures, Cond.code yX6_rankTextures cX6_rankTextures 5 none, Cond.methodLink RX6 60 yX6_firstByPrice, Cond.instanceMethod yX6_firstByPrice, Cond.selects RX6 yX6_firstByPrice yX6_firstByPrice, Cond.code yX6_firstByPrice cX6_firstByPrice 3 (some .int), Cond.methodLink RX6 44 yX6_leastBelow, Cond.instanceMethod yX6_leastBelow, Cond.selects RX6 yX6_leastBelow yX6_leastBelow, Cond.code yX6_leastBelow cX6_leastBelow 13 (some .long), Cond.methodLink RX6 63 yX6_cheapestWeight, Cond.instanceMethod yX6_cheapestWeight, Cond.selects RX6 yX6_cheapestWeight yX6_cheapestWeight, Cond.code yX6_cheapestWeight cX6_cheapestWeight 6 (some .long), Cond.methodLink RX6 83 yX6_weight, Cond.instanceMethod yX6_weight, Cond.selects RX6 yX6_weight yX6_weight, Cond.code yX6_weight cX6_weight 3 (some .long), Cond.methodLink RX6 56 yX6_placeOf]
def wsL_law_r26 : List Cond := [Cond.static yX6_placeOf, Cond.code yX6_placeOf cX6_placeOf 1 (some .int), Cond.methodLink RX6 67 yX6_clashing, Cond.instanceMethod yX6_clashing, Cond.selects RX6 yX6_clashing yX6_clashing, Cond.code yX6_clashing cX6_clashing 8 (some .int), Cond.methodLink RX6 87 yX6_listTakers, Cond.instanceMethod yX6_listTakers, Cond.selects RX6 yX6_listTakers yX6_listTakers, Cond.code yX6_listTakers cX6_listTakers 4 none, Cond.methodLink RX6 91 yX6_clashWith, Cond.instanceMethod yX6_clashWith, Cond.selects RX6 yX6_clashWith yX6_clashWith, Cond.code yX6_clashWith cX6_clashWith 4 (some .int), Cond.methodLink RX6 94 yJ6_bitCount_0f7a4, Cond.methodLink RX6 71 yX6_groupOf, Cond.instanceMethod yX6_groupOf, Cond.selects RX6 yX6_groupOf yX6_groupOf, Cond.code yX6_groupOf cX6_groupOf 7 (some .int), Cond.methodLink RX6 75 yX6_tryEach, Cond.instanceMethod yX6_tryEach, Cond.selects RX6 yX6_tryEach yX6_tryEach, Cond.code yX6_tryEach cX6_tryEach 15 (some .long), Cond.methodLink RX6 79 yX6_give]
def wsL_law_r27 : List Cond := [Cond.instanceMethod yX6_give, Cond.selects RX6 yX6_give yX6_give, Cond.code yX6_give cX6_give 7 none, Cond.methodLink RX7 186 yX6_textureOf, Cond.instanceMethod yX6_textureOf, Cond.selects RX6 yX6_textureOf yX6_textureOf, Cond.code yX6_textureOf cX6_textureOf 2 (some .int), Cond.methodLink RL 101 yX8_texture, Cond.instanceMethod yX8_texture, Cond.selects RX8 yX8_texture yX8_texture, Cond.code yX8_texture cX8_texture 2 (some .int), Cond.methodLink RX8 174 yX8_textured, Cond.instanceMethod yX8_textured, Cond.selects RX8 yX8_textured yX8_textured, Cond.code yX8_textured cX8_textured 6 none, Cond.fieldLink RX8 168 "TouchSheetModel" "groundMany" "I", Cond.fieldLink RX8 171 "TouchSheetModel" "best" "I", Cond.methodLink RX8 177 yX8_textureOf, Cond.instanceMethod yX8_textureOf, Cond.selects RX8 yX8_textureOf yX8_textureOf, Cond.code yX8_textureOf cX8_textureOf 3 (some .int), Cond.methodLink RL 102 yX7_cost, Cond.instanceMethod yX7_cost, Cond.selects RX7 yX7_cost yX7_cost]
def wsL_law_r28 : List Cond := [Cond.code yX7_cost cX7_cost 1 (some .int), Cond.methodLink RX7 189 yX6_sumOfPrices, Cond.instanceMethod yX6_sumOfPrices, Cond.selects RX6 yX6_sumOfPrices yX6_sumOfPrices, Cond.code yX6_sumOfPrices cX6_sumOfPrices 1 (some .int), Cond.methodLink RL 105 yX8_cost, Cond.instanceMethod yX8_cost, Cond.selects RX8 yX8_cost yX8_cost, Cond.code yX8_cost cX8_cost 1 (some .int), Cond.methodLink RL 106 yX7_print, Cond.instanceMethod yX7_print, Cond.selects RX7 yX7_print yX7_print, Cond.code yX7_print cX7_print 3 (some .int), Cond.methodLink RX7 192 yX2_clear, Cond.methodLink RX7 195 yX7_press, Cond.instanceMethod yX7_press, Cond.selects RX7 yX7_press yX7_press, Cond.code yX7_press cX7_press 7 none, Cond.fieldLink RX7 259 "TouchSheet$Shape" "xs" "[I", Cond.fieldLink RX7 262 "TouchSheet$Shape" "ys" "[I", Cond.constant RX7 265 (16777215), Cond.fieldLink RX7 269 "TouchSheet$Pins" "rows" "[I", Cond.methodLink RX7 256 yX2_join, Cond.instanceMethod yX2_join]
def wsL_law_r29 : List Cond := [Cond.selects RX2 yX2_join yX2_join, Cond.code yX2_join cX2_join 3 none, Cond.methodLink RX7 266 yX7_rowOfTexture, Cond.static yX7_rowOfTexture, Cond.code yX7_rowOfTexture cX7_rowOfTexture 3 (some .int), Cond.constant RX7 272 (5592405), Cond.constant RX7 273 (-5592406), Cond.methodLink RX7 199 yX0_feel, Cond.instanceMethod yX0_feel, Cond.selects RX0 yX0_feel yX0_feel, Cond.code yX0_feel cX0_feel 4 none, Cond.fieldLink RX0 30 "TouchSheet$Finger" "found" "I", Cond.fieldLink RX0 34 "TouchSheet$Pins" "rows" "[I", Cond.methodLink RX0 26 yX2_copy, Cond.methodLink RX0 38 yX2_holds, Cond.methodLink RX0 42 yX0_gather, Cond.instanceMethod yX0_gather, Cond.selects RX0 yX0_gather yX0_gather, Cond.code yX0_gather cX0_gather 6 none, Cond.methodLink RX0 53 yX2_clear, Cond.methodLink RX0 56 yX2_raise, Cond.methodLink RX0 59 yX2_swell, Cond.methodLink RX0 62 yX2_keepOnly, Cond.instanceMethod yX2_keepOnly]
def wsL_law_r30 : List Cond := [Cond.selects RX2 yX2_keepOnly yX2_keepOnly, Cond.code yX2_keepOnly cX2_keepOnly 3 none, Cond.methodLink RX0 65 yX2_size, Cond.methodLink RX0 46 yX0_describe, Cond.instanceMethod yX0_describe, Cond.selects RX0 yX0_describe yX0_describe, Cond.code yX0_describe cX0_describe 4 none, Cond.methodLink RX0 69 Lib.Math.min.name, Cond.static Lib.Math.min.name, Cond.code Lib.Math.min.name Lib.Math.min.code 2 (some .int), Cond.methodLink RX0 75 Lib.Math.max.name, Cond.methodLink RX0 78 yX2_countBeside, Cond.instanceMethod yX2_countBeside, Cond.selects RX2 yX2_countBeside yX2_countBeside, Cond.code yX2_countBeside cX2_countBeside 6 (some .int), Cond.methodLink RX2 32 Lib.Math.max.name, Cond.methodLink RX2 38 Lib.Math.min.name, Cond.methodLink RX0 50 yX2_drop, Cond.instanceMethod yX2_drop, Cond.selects RX2 yX2_drop yX2_drop, Cond.code yX2_drop cX2_drop 3 none, Cond.methodLink RL 109 yX8_print, Cond.instanceMethod yX8_print, Cond.selects RX8 yX8_print yX8_print]
def wsL_law_r31 : List Cond := [Cond.code yX8_print cX8_print 5 (some .int), Cond.methodLink RX8 180 yX8_isUp, Cond.instanceMethod yX8_isUp, Cond.selects RX8 yX8_isUp yX8_isUp, Cond.code yX8_isUp cX8_isUp 6 (some .boolean), Cond.methodLink RL 110 yX7_up, Cond.instanceMethod yX7_up, Cond.selects RX7 yX7_up yX7_up, Cond.code yX7_up cX7_up 3 (some .int), Cond.methodLink RL 113 yX8_up, Cond.instanceMethod yX8_up, Cond.selects RX8 yX8_up yX8_up, Cond.code yX8_up cX8_up 3 (some .int), Cond.methodLink RL 114 yX7_things, Cond.instanceMethod yX7_things, Cond.selects RX7 yX7_things yX7_things, Cond.code yX7_things cX7_things 1 (some .int), Cond.fieldLink RX7 203 "TouchSheet$Finger" "found" "I", Cond.methodLink RL 117 yX8_things, Cond.instanceMethod yX8_things, Cond.selects RX8 yX8_things yX8_things, Cond.code yX8_things cX8_things 1 (some .int), Cond.fieldLink RX8 183 "TouchSheetModel" "things" "I", Cond.methodLink RX8 186 yX8_feels]
def wsL_law_r32 : List Cond := [Cond.instanceMethod yX8_feels, Cond.selects RX8 yX8_feels yX8_feels, Cond.code yX8_feels cX8_feels 7 none, Cond.methodLink RL 118 yX7_thing, Cond.instanceMethod yX7_thing, Cond.selects RX7 yX7_thing yX7_thing, Cond.code yX7_thing cX7_thing 3 (some .int), Cond.fieldLink RX7 206 "TouchSheet$Finger" "facts" "[[I", Cond.methodLink RL 121 yX8_thing, Cond.instanceMethod yX8_thing, Cond.selects RX8 yX8_thing yX8_thing, Cond.code yX8_thing cX8_thing 10 (some .int), Cond.methodLink RX8 189 yX8_beside, Cond.instanceMethod yX8_beside, Cond.selects RX8 yX8_beside yX8_beside, Cond.code yX8_beside cX8_beside 6 (some .int)]
def wsL_law : List Cond := (wsL_law_r1 ++ (wsL_law_r2 ++ (wsL_law_r3 ++ (wsL_law_r4 ++ (wsL_law_r5 ++ (wsL_law_r6 ++ (wsL_law_r7 ++ (wsL_law_r8 ++ (wsL_law_r9 ++ (wsL_law_r10 ++ (wsL_law_r11 ++ (wsL_law_r12 ++ (wsL_law_r13 ++ (wsL_law_r14 ++ (wsL_law_r15 ++ (wsL_law_r16 ++ (wsL_law_r17 ++ (wsL_law_r18 ++ (wsL_law_r19 ++ (wsL_law_r20 ++ (wsL_law_r21 ++ (wsL_law_r22 ++ (wsL_law_r23 ++ (wsL_law_r24 ++ (wsL_law_r25 ++ (wsL_law_r26 ++ (wsL_law_r27 ++ (wsL_law_r28 ++ (wsL_law_r29 ++ (wsL_law_r30 ++ (wsL_law_r31 ++ wsL_law_r32))))))))))))))))))))))))))))))) ++ wsX70 ++ wsX80 ++ wsX20 ++ wsX40 ++ wsX10 ++ wsX50 ++ wsX60 ++ wsX00 ++ wsX30 ++ ([] : List Cond)
theorem inlX0 : ∀ w ∈ wsX00, w ∈ wsL_law := fun _ h => List.mem_append_left _ (List.mem_append_left _ (List.mem_append_right _ h))
theorem inlX1 : ∀ w ∈ wsX10, w ∈ wsL_law := fun _ h => List.mem_append_left _ (List.mem_append_left _ (List.mem_append_left _ (List.mem_append_left _ (List.mem_append_left _ (List.mem_append_right _ h)))))
theorem inlX2 : ∀ w ∈ wsX20, w ∈ wsL_law := fun _ h => List.mem_append_left _ (List.mem_append_left _ (List.mem_append_left _ (List.mem_append_left _ (List.mem_append_left _ (List.mem_append_left _ (List.mem_append_left _ (List.mem_append_right _ h)))))))
theorem inlX3 : ∀ w ∈ wsX30, w ∈ wsL_law := fun _ h => List.mem_append_left _ (List.mem_append_right _ h)
theorem inlX4 : ∀ w ∈ wsX40, w ∈ wsL_law := fun _ h => List.mem_append_left _ (List.mem_append_left _ (List.mem_append_left _ (List.mem_append_left _ (List.mem_append_left _ (List.mem_append_left _ (List.mem_append_right _ h))))))
theorem inlX5 : ∀ w ∈ wsX50, w ∈ wsL_law := fun _ h => List.mem_append_left _ (List.mem_append_left _ (List.mem_append_left _ (List.mem_append_left _ (List.mem_append_right _ h))))
theorem inlX6 : ∀ w ∈ wsX60, w ∈ wsL_law := fun _ h => List.mem_append_left _ (List.mem_append_left _ (List.mem_append_left _ (List.mem_append_right _ h)))
theorem inlX7 : ∀ w ∈ wsX70, w ∈ wsL_law := fun _ h => List.mem_append_left _ (List.mem_append_left _ (List.mem_append_left _ (List.mem_append_left _ (List.mem_append_left _ (List.mem_append_left _ (List.mem_append_left _ (List.mem_append_left _ (List.mem_append_left _ (List.mem_append_right _ h)))))))))
theorem inlX8 : ∀ w ∈ wsX80, w ∈ wsL_law := fun _ h => List.mem_append_left _ (List.mem_append_left _ (List.mem_append_left _ (List.mem_append_left _ (List.mem_append_left _ (List.mem_append_left _ (List.mem_append_left _ (List.mem_append_left _ (List.mem_append_right _ h))))))))
abbrev vwCl : List vw_C := [(RX0, TX0, 4), (RX1, TX1, 2), (RX2, TX2, 1), (RX3, TX3, 6), (RX4, TX4, 2), (RX5, TX5, 5), (RX6, TX6, 9), (RX7, TX7, 19), (RX8, TX8, 26)]
end
section
theorem dJ6_bitCount_0f7a4_0 : decode cJ6_bitCount_0f7a4 0 = .ok (.iload_n 0, 1) := by decide +kernel
theorem dJ6_bitCount_0f7a4_1 : decode cJ6_bitCount_0f7a4 1 = .ok (.iload_n 0, 1) := by decide +kernel
theorem dJ6_bitCount_0f7a4_2 : decode cJ6_bitCount_0f7a4 2 = .ok (.iconst 1, 1) := by decide +kernel
theorem dJ6_bitCount_0f7a4_3 : decode cJ6_bitCount_0f7a4 3 = .ok (.iushr, 1) := by decide +kernel
theorem dJ6_bitCount_0f7a4_4 : decode cJ6_bitCount_0f7a4 4 = .ok (.ldc_w 265, 3) := by decide +kernel
theorem dJ6_bitCount_0f7a4_7 : decode cJ6_bitCount_0f7a4 7 = .ok (.iand, 1) := by decide +kernel
theorem dJ6_bitCount_0f7a4_8 : decode cJ6_bitCount_0f7a4 8 = .ok (.isub, 1) := by decide +kernel
theorem dJ6_bitCount_0f7a4_9 : decode cJ6_bitCount_0f7a4 9 = .ok (.istore_n 0, 1) := by decide +kernel
theorem dJ6_bitCount_0f7a4_10 : decode cJ6_bitCount_0f7a4 10 = .ok (.iload_n 0, 1) := by decide +kernel
theorem dJ6_bitCount_0f7a4_11 : decode cJ6_bitCount_0f7a4 11 = .ok (.ldc_w 266, 3) := by decide +kernel
theorem dJ6_bitCount_0f7a4_14 : decode cJ6_bitCount_0f7a4 14 = .ok (.iand, 1) := by decide +kernel
theorem dJ6_bitCount_0f7a4_15 : decode cJ6_bitCount_0f7a4 15 = .ok (.iload_n 0, 1) := by decide +kernel
theorem dJ6_bitCount_0f7a4_16 : decode cJ6_bitCount_0f7a4 16 = .ok (.iconst 2, 1) := by decide +kernel
theorem dJ6_bitCount_0f7a4_17 : decode cJ6_bitCount_0f7a4 17 = .ok (.iushr, 1) := by decide +kernel
theorem dJ6_bitCount_0f7a4_18 : decode cJ6_bitCount_0f7a4 18 = .ok (.ldc_w 266, 3) := by decide +kernel
theorem dJ6_bitCount_0f7a4_21 : decode cJ6_bitCount_0f7a4 21 = .ok (.iand, 1) := by decide +kernel
theorem dJ6_bitCount_0f7a4_22 : decode cJ6_bitCount_0f7a4 22 = .ok (.iadd, 1) := by decide +kernel
theorem dJ6_bitCount_0f7a4_23 : decode cJ6_bitCount_0f7a4 23 = .ok (.istore_n 0, 1) := by decide +kernel
theorem dJ6_bitCount_0f7a4_24 : decode cJ6_bitCount_0f7a4 24 = .ok (.iload_n 0, 1) := by decide +kernel
theorem dJ6_bitCount_0f7a4_25 : decode cJ6_bitCount_0f7a4 25 = .ok (.iload_n 0, 1) := by decide +kernel
theorem dJ6_bitCount_0f7a4_26 : decode cJ6_bitCount_0f7a4 26 = .ok (.iconst 4, 1) := by decide +kernel
theorem dJ6_bitCount_0f7a4_27 : decode cJ6_bitCount_0f7a4 27 = .ok (.iushr, 1) := by decide +kernel
theorem dJ6_bitCount_0f7a4_28 : decode cJ6_bitCount_0f7a4 28 = .ok (.iadd, 1) := by decide +kernel
theorem dJ6_bitCount_0f7a4_29 : decode cJ6_bitCount_0f7a4 29 = .ok (.ldc_w 267, 3) := by decide +kernel
theorem dJ6_bitCount_0f7a4_32 : decode cJ6_bitCount_0f7a4 32 = .ok (.iand, 1) := by decide +kernel
theorem dJ6_bitCount_0f7a4_33 : decode cJ6_bitCount_0f7a4 33 = .ok (.istore_n 0, 1) := by decide +kernel
theorem dJ6_bitCount_0f7a4_34 : decode cJ6_bitCount_0f7a4 34 = .ok (.iload_n 0, 1) := by decide +kernel
theorem dJ6_bitCount_0f7a4_35 : decode cJ6_bitCount_0f7a4 35 = .ok (.iload_n 0, 1) := by decide +kernel
theorem dJ6_bitCount_0f7a4_36 : decode cJ6_bitCount_0f7a4 36 = .ok (.bipush 8, 2) := by decide +kernel
theorem dJ6_bitCount_0f7a4_38 : decode cJ6_bitCount_0f7a4 38 = .ok (.iushr, 1) := by decide +kernel
theorem dJ6_bitCount_0f7a4_39 : decode cJ6_bitCount_0f7a4 39 = .ok (.iadd, 1) := by decide +kernel
theorem dJ6_bitCount_0f7a4_40 : decode cJ6_bitCount_0f7a4 40 = .ok (.istore_n 0, 1) := by decide +kernel
theorem dJ6_bitCount_0f7a4_41 : decode cJ6_bitCount_0f7a4 41 = .ok (.iload_n 0, 1) := by decide +kernel
theorem dJ6_bitCount_0f7a4_42 : decode cJ6_bitCount_0f7a4 42 = .ok (.iload_n 0, 1) := by decide +kernel
theorem dJ6_bitCount_0f7a4_43 : decode cJ6_bitCount_0f7a4 43 = .ok (.bipush 16, 2) := by decide +kernel
theorem dJ6_bitCount_0f7a4_45 : decode cJ6_bitCount_0f7a4 45 = .ok (.iushr, 1) := by decide +kernel
theorem dJ6_bitCount_0f7a4_46 : decode cJ6_bitCount_0f7a4 46 = .ok (.iadd, 1) := by decide +kernel
theorem dJ6_bitCount_0f7a4_47 : decode cJ6_bitCount_0f7a4 47 = .ok (.istore_n 0, 1) := by decide +kernel
theorem dJ6_bitCount_0f7a4_48 : decode cJ6_bitCount_0f7a4 48 = .ok (.iload_n 0, 1) := by decide +kernel
theorem dJ6_bitCount_0f7a4_49 : decode cJ6_bitCount_0f7a4 49 = .ok (.bipush 63, 2) := by decide +kernel
theorem dJ6_bitCount_0f7a4_51 : decode cJ6_bitCount_0f7a4 51 = .ok (.iand, 1) := by decide +kernel
theorem dJ6_bitCount_0f7a4_52 : decode cJ6_bitCount_0f7a4 52 = .ok (.ireturn, 1) := by decide +kernel
theorem dJ9_floorDiv_7cf53_0 : decode cJ9_floorDiv_7cf53 0 = .ok (.iload_n 0, 1) := by decide +kernel
theorem dJ9_floorDiv_7cf53_1 : decode cJ9_floorDiv_7cf53 1 = .ok (.iload_n 1, 1) := by decide +kernel
theorem dJ9_floorDiv_7cf53_2 : decode cJ9_floorDiv_7cf53 2 = .ok (.idiv, 1) := by decide +kernel
theorem dJ9_floorDiv_7cf53_3 : decode cJ9_floorDiv_7cf53 3 = .ok (.istore_n 2, 1) := by decide +kernel
theorem dJ9_floorDiv_7cf53_4 : decode cJ9_floorDiv_7cf53 4 = .ok (.iload_n 0, 1) := by decide +kernel
theorem dJ9_floorDiv_7cf53_5 : decode cJ9_floorDiv_7cf53 5 = .ok (.iload_n 1, 1) := by decide +kernel
theorem dJ9_floorDiv_7cf53_6 : decode cJ9_floorDiv_7cf53 6 = .ok (.ixor, 1) := by decide +kernel
theorem dJ9_floorDiv_7cf53_7 : decode cJ9_floorDiv_7cf53 7 = .ok (.ifCond .ge 14, 3) := by decide +kernel
theorem dJ9_floorDiv_7cf53_10 : decode cJ9_floorDiv_7cf53 10 = .ok (.iload_n 2, 1) := by decide +kernel
theorem dJ9_floorDiv_7cf53_11 : decode cJ9_floorDiv_7cf53 11 = .ok (.iload_n 1, 1) := by decide +kernel
theorem dJ9_floorDiv_7cf53_12 : decode cJ9_floorDiv_7cf53 12 = .ok (.imul, 1) := by decide +kernel
theorem dJ9_floorDiv_7cf53_13 : decode cJ9_floorDiv_7cf53 13 = .ok (.iload_n 0, 1) := by decide +kernel
theorem dJ9_floorDiv_7cf53_14 : decode cJ9_floorDiv_7cf53 14 = .ok (.if_icmp .eq 7, 3) := by decide +kernel
theorem dJ9_floorDiv_7cf53_17 : decode cJ9_floorDiv_7cf53 17 = .ok (.iload_n 2, 1) := by decide +kernel
theorem dJ9_floorDiv_7cf53_18 : decode cJ9_floorDiv_7cf53 18 = .ok (.iconst 1, 1) := by decide +kernel
theorem dJ9_floorDiv_7cf53_19 : decode cJ9_floorDiv_7cf53 19 = .ok (.isub, 1) := by decide +kernel
theorem dJ9_floorDiv_7cf53_20 : decode cJ9_floorDiv_7cf53 20 = .ok (.ireturn, 1) := by decide +kernel
theorem dJ9_floorDiv_7cf53_21 : decode cJ9_floorDiv_7cf53 21 = .ok (.iload_n 2, 1) := by decide +kernel
theorem dJ9_floorDiv_7cf53_22 : decode cJ9_floorDiv_7cf53 22 = .ok (.ireturn, 1) := by decide +kernel
theorem dJ9_abs_0f7a4_0 : decode cJ9_abs_0f7a4 0 = .ok (.iload_n 0, 1) := by decide +kernel
theorem dJ9_abs_0f7a4_1 : decode cJ9_abs_0f7a4 1 = .ok (.ifCond .ge 8, 3) := by decide +kernel
theorem dJ9_abs_0f7a4_4 : decode cJ9_abs_0f7a4 4 = .ok (.iload_n 0, 1) := by decide +kernel
theorem dJ9_abs_0f7a4_5 : decode cJ9_abs_0f7a4 5 = .ok (.ineg, 1) := by decide +kernel
theorem dJ9_abs_0f7a4_6 : decode cJ9_abs_0f7a4 6 = .ok (.goto 4, 3) := by decide +kernel
theorem dJ9_abs_0f7a4_9 : decode cJ9_abs_0f7a4 9 = .ok (.iload_n 0, 1) := by decide +kernel
theorem dJ9_abs_0f7a4_10 : decode cJ9_abs_0f7a4 10 = .ok (.ireturn, 1) := by decide +kernel
theorem dJ9_max_7cf53_0 : decode cJ9_max_7cf53 0 = .ok (.iload_n 0, 1) := by decide +kernel
theorem dJ9_max_7cf53_1 : decode cJ9_max_7cf53 1 = .ok (.iload_n 1, 1) := by decide +kernel
theorem dJ9_max_7cf53_2 : decode cJ9_max_7cf53 2 = .ok (.if_icmp .lt 7, 3) := by decide +kernel
theorem dJ9_max_7cf53_5 : decode cJ9_max_7cf53 5 = .ok (.iload_n 0, 1) := by decide +kernel
theorem dJ9_max_7cf53_6 : decode cJ9_max_7cf53 6 = .ok (.goto 4, 3) := by decide +kernel
theorem dJ9_max_7cf53_9 : decode cJ9_max_7cf53 9 = .ok (.iload_n 1, 1) := by decide +kernel
theorem dJ9_max_7cf53_10 : decode cJ9_max_7cf53 10 = .ok (.ireturn, 1) := by decide +kernel
theorem dJ9_min_7cf53_0 : decode cJ9_min_7cf53 0 = .ok (.iload_n 0, 1) := by decide +kernel
theorem dJ9_min_7cf53_1 : decode cJ9_min_7cf53 1 = .ok (.iload_n 1, 1) := by decide +kernel
theorem dJ9_min_7cf53_2 : decode cJ9_min_7cf53 2 = .ok (.if_icmp .gt 7, 3) := by decide +kernel
theorem dJ9_min_7cf53_5 : decode cJ9_min_7cf53 5 = .ok (.iload_n 0, 1) := by decide +kernel
theorem dJ9_min_7cf53_6 : decode cJ9_min_7cf53 6 = .ok (.goto 4, 3) := by decide +kernel
theorem dJ9_min_7cf53_9 : decode cJ9_min_7cf53 9 = .ok (.iload_n 1, 1) := by decide +kernel
theorem dJ9_min_7cf53_10 : decode cJ9_min_7cf53 10 = .ok (.ireturn, 1) := by decide +kernel
theorem dX0_init_0 : decode cX0_init 0 = .ok (.aload_n 0, 1) := by decide +kernel
theorem dX0_init_1 : decode cX0_init 1 = .ok (.invokespecial 3, 3) := by decide +kernel
theorem dX0_init_4 : decode cX0_init 4 = .ok (.aload_n 0, 1) := by decide +kernel
theorem dX0_init_5 : decode cX0_init 5 = .ok (.new 9, 3) := by decide +kernel
theorem dX0_init_8 : decode cX0_init 8 = .ok (.dup, 1) := by decide +kernel
theorem dX0_init_9 : decode cX0_init 9 = .ok (.invokespecial 11, 3) := by decide +kernel
theorem dX0_init_12 : decode cX0_init 12 = .ok (.putfield 12, 3) := by decide +kernel
theorem dX0_init_15 : decode cX0_init 15 = .ok (.aload_n 0, 1) := by decide +kernel
theorem dX0_init_16 : decode cX0_init 16 = .ok (.new 9, 3) := by decide +kernel
theorem dX0_init_19 : decode cX0_init 19 = .ok (.dup, 1) := by decide +kernel
theorem dX0_init_20 : decode cX0_init 20 = .ok (.invokespecial 11, 3) := by decide +kernel
theorem dX0_init_23 : decode cX0_init 23 = .ok (.putfield 18, 3) := by decide +kernel
theorem dX0_init_26 : decode cX0_init 26 = .ok (.aload_n 0, 1) := by decide +kernel
theorem dX0_init_27 : decode cX0_init 27 = .ok (.bipush 12, 2) := by decide +kernel
theorem dX0_init_29 : decode cX0_init 29 = .ok (.bipush 6, 2) := by decide +kernel
theorem dX0_init_31 : decode cX0_init 31 = .ok (.multianewarray 21 2, 4) := by decide +kernel
theorem dX0_init_35 : decode cX0_init 35 = .ok (.putfield 23, 3) := by decide +kernel
theorem dX0_init_38 : decode cX0_init 38 = .ok (.return_, 1) := by decide +kernel
theorem dX0_feel_0 : decode cX0_feel 0 = .ok (.aload_n 0, 1) := by decide +kernel
theorem dX0_feel_1 : decode cX0_feel 1 = .ok (.getfield 12, 3) := by decide +kernel
theorem dX0_feel_4 : decode cX0_feel 4 = .ok (.aload_n 1, 1) := by decide +kernel
theorem dX0_feel_5 : decode cX0_feel 5 = .ok (.invokevirtual 26, 3) := by decide +kernel
theorem dX0_feel_8 : decode cX0_feel 8 = .ok (.aload_n 0, 1) := by decide +kernel
theorem dX0_feel_9 : decode cX0_feel 9 = .ok (.iconst 0, 1) := by decide +kernel
theorem dX0_feel_10 : decode cX0_feel 10 = .ok (.putfield 30, 3) := by decide +kernel
theorem dX0_feel_13 : decode cX0_feel 13 = .ok (.iconst 0, 1) := by decide +kernel
theorem dX0_feel_14 : decode cX0_feel 14 = .ok (.istore_n 2, 1) := by decide +kernel
theorem dX0_feel_15 : decode cX0_feel 15 = .ok (.iload_n 2, 1) := by decide +kernel
theorem dX0_feel_16 : decode cX0_feel 16 = .ok (.bipush 24, 2) := by decide +kernel
theorem dX0_feel_18 : decode cX0_feel 18 = .ok (.if_icmp .ge 96, 3) := by decide +kernel
theorem dX0_feel_21 : decode cX0_feel 21 = .ok (.iconst 0, 1) := by decide +kernel
theorem dX0_feel_22 : decode cX0_feel 22 = .ok (.istore_n 3, 1) := by decide +kernel
theorem dX0_feel_23 : decode cX0_feel 23 = .ok (.iload_n 3, 1) := by decide +kernel
theorem dX0_feel_24 : decode cX0_feel 24 = .ok (.bipush 24, 2) := by decide +kernel
theorem dX0_feel_26 : decode cX0_feel 26 = .ok (.if_icmp .ge 82, 3) := by decide +kernel
theorem dX0_feel_29 : decode cX0_feel 29 = .ok (.aload_n 0, 1) := by decide +kernel
theorem dX0_feel_30 : decode cX0_feel 30 = .ok (.getfield 12, 3) := by decide +kernel
theorem dX0_feel_33 : decode cX0_feel 33 = .ok (.getfield 34, 3) := by decide +kernel
theorem dX0_feel_36 : decode cX0_feel 36 = .ok (.iload_n 2, 1) := by decide +kernel
theorem dX0_feel_37 : decode cX0_feel 37 = .ok (.iaload, 1) := by decide +kernel
theorem dX0_feel_38 : decode cX0_feel 38 = .ok (.ifCond .eq 70, 3) := by decide +kernel
theorem dX0_feel_41 : decode cX0_feel 41 = .ok (.aload_n 0, 1) := by decide +kernel
theorem dX0_feel_42 : decode cX0_feel 42 = .ok (.getfield 12, 3) := by decide +kernel
theorem dX0_feel_45 : decode cX0_feel 45 = .ok (.iload_n 3, 1) := by decide +kernel
theorem dX0_feel_46 : decode cX0_feel 46 = .ok (.iload_n 2, 1) := by decide +kernel
theorem dX0_feel_47 : decode cX0_feel 47 = .ok (.invokevirtual 38, 3) := by decide +kernel
theorem dX0_feel_50 : decode cX0_feel 50 = .ok (.ifCond .eq 52, 3) := by decide +kernel
theorem dX0_feel_53 : decode cX0_feel 53 = .ok (.aload_n 0, 1) := by decide +kernel
theorem dX0_feel_54 : decode cX0_feel 54 = .ok (.getfield 30, 3) := by decide +kernel
theorem dX0_feel_57 : decode cX0_feel 57 = .ok (.bipush 12, 2) := by decide +kernel
theorem dX0_feel_59 : decode cX0_feel 59 = .ok (.if_icmp .ge 43, 3) := by decide +kernel
theorem dX0_feel_62 : decode cX0_feel 62 = .ok (.aload_n 0, 1) := by decide +kernel
theorem dX0_feel_63 : decode cX0_feel 63 = .ok (.iload_n 3, 1) := by decide +kernel
theorem dX0_feel_64 : decode cX0_feel 64 = .ok (.iload_n 2, 1) := by decide +kernel
theorem dX0_feel_65 : decode cX0_feel 65 = .ok (.invokevirtual 42, 3) := by decide +kernel
theorem dX0_feel_68 : decode cX0_feel 68 = .ok (.aload_n 0, 1) := by decide +kernel
theorem dX0_feel_69 : decode cX0_feel 69 = .ok (.aload_n 0, 1) := by decide +kernel
theorem dX0_feel_70 : decode cX0_feel 70 = .ok (.getfield 23, 3) := by decide +kernel
theorem dX0_feel_73 : decode cX0_feel 73 = .ok (.aload_n 0, 1) := by decide +kernel
theorem dX0_feel_74 : decode cX0_feel 74 = .ok (.getfield 30, 3) := by decide +kernel
theorem dX0_feel_77 : decode cX0_feel 77 = .ok (.aaload, 1) := by decide +kernel
theorem dX0_feel_78 : decode cX0_feel 78 = .ok (.invokevirtual 46, 3) := by decide +kernel
theorem dX0_feel_81 : decode cX0_feel 81 = .ok (.aload_n 0, 1) := by decide +kernel
theorem dX0_feel_82 : decode cX0_feel 82 = .ok (.getfield 12, 3) := by decide +kernel
theorem dX0_feel_85 : decode cX0_feel 85 = .ok (.aload_n 0, 1) := by decide +kernel
theorem dX0_feel_86 : decode cX0_feel 86 = .ok (.getfield 18, 3) := by decide +kernel
theorem dX0_feel_89 : decode cX0_feel 89 = .ok (.invokevirtual 50, 3) := by decide +kernel
theorem dX0_feel_92 : decode cX0_feel 92 = .ok (.aload_n 0, 1) := by decide +kernel
theorem dX0_feel_93 : decode cX0_feel 93 = .ok (.dup, 1) := by decide +kernel
theorem dX0_feel_94 : decode cX0_feel 94 = .ok (.getfield 30, 3) := by decide +kernel
theorem dX0_feel_97 : decode cX0_feel 97 = .ok (.iconst 1, 1) := by decide +kernel
theorem dX0_feel_98 : decode cX0_feel 98 = .ok (.iadd, 1) := by decide +kernel
theorem dX0_feel_99 : decode cX0_feel 99 = .ok (.putfield 30, 3) := by decide +kernel
theorem dX0_feel_102 : decode cX0_feel 102 = .ok (.iinc 3 1, 3) := by decide +kernel
theorem dX0_feel_105 : decode cX0_feel 105 = .ok (.goto (-82), 3) := by decide +kernel
theorem dX0_feel_108 : decode cX0_feel 108 = .ok (.iinc 2 1, 3) := by decide +kernel
theorem dX0_feel_111 : decode cX0_feel 111 = .ok (.goto (-96), 3) := by decide +kernel
theorem dX0_feel_114 : decode cX0_feel 114 = .ok (.return_, 1) := by decide +kernel
theorem dX0_gather_0 : decode cX0_gather 0 = .ok (.aload_n 0, 1) := by decide +kernel
theorem dX0_gather_1 : decode cX0_gather 1 = .ok (.getfield 18, 3) := by decide +kernel
theorem dX0_gather_4 : decode cX0_gather 4 = .ok (.invokevirtual 53, 3) := by decide +kernel
theorem dX0_gather_7 : decode cX0_gather 7 = .ok (.aload_n 0, 1) := by decide +kernel
theorem dX0_gather_8 : decode cX0_gather 8 = .ok (.getfield 18, 3) := by decide +kernel
theorem dX0_gather_11 : decode cX0_gather 11 = .ok (.iload_n 1, 1) := by decide +kernel
theorem dX0_gather_12 : decode cX0_gather 12 = .ok (.iload_n 2, 1) := by decide +kernel
theorem dX0_gather_13 : decode cX0_gather 13 = .ok (.invokevirtual 56, 3) := by decide +kernel
theorem dX0_gather_16 : decode cX0_gather 16 = .ok (.iconst 0, 1) := by decide +kernel
theorem dX0_gather_17 : decode cX0_gather 17 = .ok (.istore_n 3, 1) := by decide +kernel
theorem dX0_gather_18 : decode cX0_gather 18 = .ok (.iconst 1, 1) := by decide +kernel
theorem dX0_gather_19 : decode cX0_gather 19 = .ok (.istore 4, 2) := by decide +kernel
theorem dX0_gather_21 : decode cX0_gather 21 = .ok (.iconst 0, 1) := by decide +kernel
theorem dX0_gather_22 : decode cX0_gather 22 = .ok (.istore 5, 2) := by decide +kernel
theorem dX0_gather_24 : decode cX0_gather 24 = .ok (.iload 5, 2) := by decide +kernel
theorem dX0_gather_26 : decode cX0_gather 26 = .ok (.sipush 576, 3) := by decide +kernel
theorem dX0_gather_29 : decode cX0_gather 29 = .ok (.if_icmp .ge 45, 3) := by decide +kernel
theorem dX0_gather_32 : decode cX0_gather 32 = .ok (.iload 4, 2) := by decide +kernel
theorem dX0_gather_34 : decode cX0_gather 34 = .ok (.iload_n 3, 1) := by decide +kernel
theorem dX0_gather_35 : decode cX0_gather 35 = .ok (.if_icmp .le 39, 3) := by decide +kernel
theorem dX0_gather_38 : decode cX0_gather 38 = .ok (.aload_n 0, 1) := by decide +kernel
theorem dX0_gather_39 : decode cX0_gather 39 = .ok (.getfield 18, 3) := by decide +kernel
theorem dX0_gather_42 : decode cX0_gather 42 = .ok (.invokevirtual 59, 3) := by decide +kernel
theorem dX0_gather_45 : decode cX0_gather 45 = .ok (.aload_n 0, 1) := by decide +kernel
theorem dX0_gather_46 : decode cX0_gather 46 = .ok (.getfield 18, 3) := by decide +kernel
theorem dX0_gather_49 : decode cX0_gather 49 = .ok (.aload_n 0, 1) := by decide +kernel
theorem dX0_gather_50 : decode cX0_gather 50 = .ok (.getfield 12, 3) := by decide +kernel
theorem dX0_gather_53 : decode cX0_gather 53 = .ok (.invokevirtual 62, 3) := by decide +kernel
theorem dX0_gather_56 : decode cX0_gather 56 = .ok (.iload 4, 2) := by decide +kernel
theorem dX0_gather_58 : decode cX0_gather 58 = .ok (.istore_n 3, 1) := by decide +kernel
theorem dX0_gather_59 : decode cX0_gather 59 = .ok (.aload_n 0, 1) := by decide +kernel
theorem dX0_gather_60 : decode cX0_gather 60 = .ok (.getfield 18, 3) := by decide +kernel
theorem dX0_gather_63 : decode cX0_gather 63 = .ok (.invokevirtual 65, 3) := by decide +kernel
theorem dX0_gather_66 : decode cX0_gather 66 = .ok (.istore 4, 2) := by decide +kernel
theorem dX0_gather_68 : decode cX0_gather 68 = .ok (.iinc 5 1, 3) := by decide +kernel
theorem dX0_gather_71 : decode cX0_gather 71 = .ok (.goto (-47), 3) := by decide +kernel
theorem dX0_gather_74 : decode cX0_gather 74 = .ok (.return_, 1) := by decide +kernel
theorem dX0_describe_0 : decode cX0_describe 0 = .ok (.aload_n 1, 1) := by decide +kernel
theorem dX0_describe_1 : decode cX0_describe 1 = .ok (.iconst 0, 1) := by decide +kernel
theorem dX0_describe_2 : decode cX0_describe 2 = .ok (.aload_n 0, 1) := by decide +kernel
theorem dX0_describe_3 : decode cX0_describe 3 = .ok (.getfield 18, 3) := by decide +kernel
theorem dX0_describe_6 : decode cX0_describe 6 = .ok (.invokevirtual 65, 3) := by decide +kernel
theorem dX0_describe_9 : decode cX0_describe 9 = .ok (.iastore, 1) := by decide +kernel
theorem dX0_describe_10 : decode cX0_describe 10 = .ok (.aload_n 1, 1) := by decide +kernel
theorem dX0_describe_11 : decode cX0_describe 11 = .ok (.iconst 1, 1) := by decide +kernel
theorem dX0_describe_12 : decode cX0_describe 12 = .ok (.bipush 24, 2) := by decide +kernel
theorem dX0_describe_14 : decode cX0_describe 14 = .ok (.iastore, 1) := by decide +kernel
theorem dX0_describe_15 : decode cX0_describe 15 = .ok (.aload_n 1, 1) := by decide +kernel
theorem dX0_describe_16 : decode cX0_describe 16 = .ok (.iconst 2, 1) := by decide +kernel
theorem dX0_describe_17 : decode cX0_describe 17 = .ok (.bipush 24, 2) := by decide +kernel
theorem dX0_describe_19 : decode cX0_describe 19 = .ok (.iastore, 1) := by decide +kernel
theorem dX0_describe_20 : decode cX0_describe 20 = .ok (.aload_n 1, 1) := by decide +kernel
theorem dX0_describe_21 : decode cX0_describe 21 = .ok (.iconst 3, 1) := by decide +kernel
theorem dX0_describe_22 : decode cX0_describe 22 = .ok (.iconst 0, 1) := by decide +kernel
theorem dX0_describe_23 : decode cX0_describe 23 = .ok (.iastore, 1) := by decide +kernel
theorem dX0_describe_24 : decode cX0_describe 24 = .ok (.aload_n 1, 1) := by decide +kernel
theorem dX0_describe_25 : decode cX0_describe 25 = .ok (.iconst 4, 1) := by decide +kernel
theorem dX0_describe_26 : decode cX0_describe 26 = .ok (.iconst 0, 1) := by decide +kernel
theorem dX0_describe_27 : decode cX0_describe 27 = .ok (.iastore, 1) := by decide +kernel
theorem dX0_describe_28 : decode cX0_describe 28 = .ok (.aload_n 1, 1) := by decide +kernel
theorem dX0_describe_29 : decode cX0_describe 29 = .ok (.iconst 5, 1) := by decide +kernel
theorem dX0_describe_30 : decode cX0_describe 30 = .ok (.iconst 0, 1) := by decide +kernel
theorem dX0_describe_31 : decode cX0_describe 31 = .ok (.iastore, 1) := by decide +kernel
theorem dX0_describe_32 : decode cX0_describe 32 = .ok (.iconst 0, 1) := by decide +kernel
theorem dX0_describe_33 : decode cX0_describe 33 = .ok (.istore_n 2, 1) := by decide +kernel
theorem dX0_describe_34 : decode cX0_describe 34 = .ok (.iload_n 2, 1) := by decide +kernel
theorem dX0_describe_35 : decode cX0_describe 35 = .ok (.bipush 24, 2) := by decide +kernel
theorem dX0_describe_37 : decode cX0_describe 37 = .ok (.if_icmp .ge 111, 3) := by decide +kernel
theorem dX0_describe_40 : decode cX0_describe 40 = .ok (.iconst 0, 1) := by decide +kernel
theorem dX0_describe_41 : decode cX0_describe 41 = .ok (.istore_n 3, 1) := by decide +kernel
theorem dX0_describe_42 : decode cX0_describe 42 = .ok (.iload_n 3, 1) := by decide +kernel
theorem dX0_describe_43 : decode cX0_describe 43 = .ok (.bipush 24, 2) := by decide +kernel
theorem dX0_describe_45 : decode cX0_describe 45 = .ok (.if_icmp .ge 97, 3) := by decide +kernel
theorem dX0_describe_48 : decode cX0_describe 48 = .ok (.aload_n 0, 1) := by decide +kernel
theorem dX0_describe_49 : decode cX0_describe 49 = .ok (.getfield 18, 3) := by decide +kernel
theorem dX0_describe_52 : decode cX0_describe 52 = .ok (.getfield 34, 3) := by decide +kernel
theorem dX0_describe_55 : decode cX0_describe 55 = .ok (.iload_n 2, 1) := by decide +kernel
theorem dX0_describe_56 : decode cX0_describe 56 = .ok (.iaload, 1) := by decide +kernel
theorem dX0_describe_57 : decode cX0_describe 57 = .ok (.ifCond .eq 85, 3) := by decide +kernel
theorem dX0_describe_60 : decode cX0_describe 60 = .ok (.aload_n 0, 1) := by decide +kernel
theorem dX0_describe_61 : decode cX0_describe 61 = .ok (.getfield 18, 3) := by decide +kernel
theorem dX0_describe_64 : decode cX0_describe 64 = .ok (.iload_n 3, 1) := by decide +kernel
theorem dX0_describe_65 : decode cX0_describe 65 = .ok (.iload_n 2, 1) := by decide +kernel
theorem dX0_describe_66 : decode cX0_describe 66 = .ok (.invokevirtual 38, 3) := by decide +kernel
theorem dX0_describe_69 : decode cX0_describe 69 = .ok (.ifCond .eq 67, 3) := by decide +kernel
theorem dX0_describe_72 : decode cX0_describe 72 = .ok (.aload_n 1, 1) := by decide +kernel
theorem dX0_describe_73 : decode cX0_describe 73 = .ok (.iconst 1, 1) := by decide +kernel
theorem dX0_describe_74 : decode cX0_describe 74 = .ok (.aload_n 1, 1) := by decide +kernel
theorem dX0_describe_75 : decode cX0_describe 75 = .ok (.iconst 1, 1) := by decide +kernel
theorem dX0_describe_76 : decode cX0_describe 76 = .ok (.iaload, 1) := by decide +kernel
theorem dX0_describe_77 : decode cX0_describe 77 = .ok (.iload_n 3, 1) := by decide +kernel
theorem dX0_describe_78 : decode cX0_describe 78 = .ok (.invokestatic 69, 3) := by decide +kernel
theorem dX0_describe_81 : decode cX0_describe 81 = .ok (.iastore, 1) := by decide +kernel
theorem dX0_describe_82 : decode cX0_describe 82 = .ok (.aload_n 1, 1) := by decide +kernel
theorem dX0_describe_83 : decode cX0_describe 83 = .ok (.iconst 2, 1) := by decide +kernel
theorem dX0_describe_84 : decode cX0_describe 84 = .ok (.aload_n 1, 1) := by decide +kernel
theorem dX0_describe_85 : decode cX0_describe 85 = .ok (.iconst 2, 1) := by decide +kernel
theorem dX0_describe_86 : decode cX0_describe 86 = .ok (.iaload, 1) := by decide +kernel
theorem dX0_describe_87 : decode cX0_describe 87 = .ok (.iload_n 2, 1) := by decide +kernel
theorem dX0_describe_88 : decode cX0_describe 88 = .ok (.invokestatic 69, 3) := by decide +kernel
theorem dX0_describe_91 : decode cX0_describe 91 = .ok (.iastore, 1) := by decide +kernel
theorem dX0_describe_92 : decode cX0_describe 92 = .ok (.aload_n 1, 1) := by decide +kernel
theorem dX0_describe_93 : decode cX0_describe 93 = .ok (.iconst 3, 1) := by decide +kernel
theorem dX0_describe_94 : decode cX0_describe 94 = .ok (.aload_n 1, 1) := by decide +kernel
theorem dX0_describe_95 : decode cX0_describe 95 = .ok (.iconst 3, 1) := by decide +kernel
theorem dX0_describe_96 : decode cX0_describe 96 = .ok (.iaload, 1) := by decide +kernel
theorem dX0_describe_97 : decode cX0_describe 97 = .ok (.iload_n 3, 1) := by decide +kernel
theorem dX0_describe_98 : decode cX0_describe 98 = .ok (.invokestatic 75, 3) := by decide +kernel
theorem dX0_describe_101 : decode cX0_describe 101 = .ok (.iastore, 1) := by decide +kernel
theorem dX0_describe_102 : decode cX0_describe 102 = .ok (.aload_n 1, 1) := by decide +kernel
theorem dX0_describe_103 : decode cX0_describe 103 = .ok (.iconst 4, 1) := by decide +kernel
theorem dX0_describe_104 : decode cX0_describe 104 = .ok (.aload_n 1, 1) := by decide +kernel
theorem dX0_describe_105 : decode cX0_describe 105 = .ok (.iconst 4, 1) := by decide +kernel
theorem dX0_describe_106 : decode cX0_describe 106 = .ok (.iaload, 1) := by decide +kernel
theorem dX0_describe_107 : decode cX0_describe 107 = .ok (.iload_n 2, 1) := by decide +kernel
theorem dX0_describe_108 : decode cX0_describe 108 = .ok (.invokestatic 75, 3) := by decide +kernel
theorem dX0_describe_111 : decode cX0_describe 111 = .ok (.iastore, 1) := by decide +kernel
theorem dX0_describe_112 : decode cX0_describe 112 = .ok (.aload_n 1, 1) := by decide +kernel
theorem dX0_describe_113 : decode cX0_describe 113 = .ok (.iconst 5, 1) := by decide +kernel
theorem dX0_describe_114 : decode cX0_describe 114 = .ok (.dup2, 1) := by decide +kernel
theorem dX0_describe_115 : decode cX0_describe 115 = .ok (.iaload, 1) := by decide +kernel
theorem dX0_describe_116 : decode cX0_describe 116 = .ok (.aload_n 0, 1) := by decide +kernel
theorem dX0_describe_117 : decode cX0_describe 117 = .ok (.getfield 18, 3) := by decide +kernel
theorem dX0_describe_120 : decode cX0_describe 120 = .ok (.iload_n 3, 1) := by decide +kernel
theorem dX0_describe_121 : decode cX0_describe 121 = .ok (.iload_n 2, 1) := by decide +kernel
theorem dX0_describe_122 : decode cX0_describe 122 = .ok (.invokevirtual 78, 3) := by decide +kernel
theorem dX0_describe_125 : decode cX0_describe 125 = .ok (.iconst 1, 1) := by decide +kernel
theorem dX0_describe_126 : decode cX0_describe 126 = .ok (.if_icmp .ne 7, 3) := by decide +kernel
theorem dX0_describe_129 : decode cX0_describe 129 = .ok (.iconst 1, 1) := by decide +kernel
theorem dX0_describe_130 : decode cX0_describe 130 = .ok (.goto 4, 3) := by decide +kernel
theorem dX0_describe_133 : decode cX0_describe 133 = .ok (.iconst 0, 1) := by decide +kernel
theorem dX0_describe_134 : decode cX0_describe 134 = .ok (.iadd, 1) := by decide +kernel
theorem dX0_describe_135 : decode cX0_describe 135 = .ok (.iastore, 1) := by decide +kernel
theorem dX0_describe_136 : decode cX0_describe 136 = .ok (.iinc 3 1, 3) := by decide +kernel
theorem dX0_describe_139 : decode cX0_describe 139 = .ok (.goto (-97), 3) := by decide +kernel
theorem dX0_describe_142 : decode cX0_describe 142 = .ok (.iinc 2 1, 3) := by decide +kernel
theorem dX0_describe_145 : decode cX0_describe 145 = .ok (.goto (-111), 3) := by decide +kernel
theorem dX0_describe_148 : decode cX0_describe 148 = .ok (.return_, 1) := by decide +kernel
theorem dX1_init_0 : decode cX1_init 0 = .ok (.aload_n 0, 1) := by decide +kernel
theorem dX1_init_1 : decode cX1_init 1 = .ok (.invokespecial 3, 3) := by decide +kernel
theorem dX1_init_4 : decode cX1_init 4 = .ok (.aload_n 0, 1) := by decide +kernel
theorem dX1_init_5 : decode cX1_init 5 = .ok (.bipush 12, 2) := by decide +kernel
theorem dX1_init_7 : decode cX1_init 7 = .ok (.newarray .int, 2) := by decide +kernel
theorem dX1_init_9 : decode cX1_init 9 = .ok (.putfield 9, 3) := by decide +kernel
theorem dX1_init_12 : decode cX1_init 12 = .ok (.return_, 1) := by decide +kernel
theorem dX1_choose_0 : decode cX1_choose 0 = .ok (.iconst 0, 1) := by decide +kernel
theorem dX1_choose_1 : decode cX1_choose 1 = .ok (.istore 4, 2) := by decide +kernel
theorem dX1_choose_3 : decode cX1_choose 3 = .ok (.iload 4, 2) := by decide +kernel
theorem dX1_choose_5 : decode cX1_choose 5 = .ok (.iload_n 3, 1) := by decide +kernel
theorem dX1_choose_6 : decode cX1_choose 6 = .ok (.if_icmp .ge 35, 3) := by decide +kernel
theorem dX1_choose_9 : decode cX1_choose 9 = .ok (.aload_n 0, 1) := by decide +kernel
theorem dX1_choose_10 : decode cX1_choose 10 = .ok (.getfield 9, 3) := by decide +kernel
theorem dX1_choose_13 : decode cX1_choose 13 = .ok (.iload 4, 2) := by decide +kernel
theorem dX1_choose_15 : decode cX1_choose 15 = .ok (.aload_n 1, 1) := by decide +kernel
theorem dX1_choose_16 : decode cX1_choose 16 = .ok (.iload 4, 2) := by decide +kernel
theorem dX1_choose_18 : decode cX1_choose 18 = .ok (.aaload, 1) := by decide +kernel
theorem dX1_choose_19 : decode cX1_choose 19 = .ok (.getfield 15, 3) := by decide +kernel
theorem dX1_choose_22 : decode cX1_choose 22 = .ok (.bipush 16, 2) := by decide +kernel
theorem dX1_choose_24 : decode cX1_choose 24 = .ok (.ishl, 1) := by decide +kernel
theorem dX1_choose_25 : decode cX1_choose 25 = .ok (.sipush 4096, 3) := by decide +kernel
theorem dX1_choose_28 : decode cX1_choose 28 = .ok (.iadd, 1) := by decide +kernel
theorem dX1_choose_29 : decode cX1_choose 29 = .ok (.iconst 1, 1) := by decide +kernel
theorem dX1_choose_30 : decode cX1_choose 30 = .ok (.iload 4, 2) := by decide +kernel
theorem dX1_choose_32 : decode cX1_choose 32 = .ok (.ishl, 1) := by decide +kernel
theorem dX1_choose_33 : decode cX1_choose 33 = .ok (.isub, 1) := by decide +kernel
theorem dX1_choose_34 : decode cX1_choose 34 = .ok (.iastore, 1) := by decide +kernel
theorem dX1_choose_35 : decode cX1_choose 35 = .ok (.iinc 4 1, 3) := by decide +kernel
theorem dX1_choose_38 : decode cX1_choose 38 = .ok (.goto (-35), 3) := by decide +kernel
theorem dX1_choose_41 : decode cX1_choose 41 = .ok (.iload_n 3, 1) := by decide +kernel
theorem dX1_choose_42 : decode cX1_choose 42 = .ok (.iconst 1, 1) := by decide +kernel
theorem dX1_choose_43 : decode cX1_choose 43 = .ok (.iload_n 3, 1) := by decide +kernel
theorem dX1_choose_44 : decode cX1_choose 44 = .ok (.ishl, 1) := by decide +kernel
theorem dX1_choose_45 : decode cX1_choose 45 = .ok (.iconst 1, 1) := by decide +kernel
theorem dX1_choose_46 : decode cX1_choose 46 = .ok (.isub, 1) := by decide +kernel
theorem dX1_choose_47 : decode cX1_choose 47 = .ok (.aload_n 2, 1) := by decide +kernel
theorem dX1_choose_48 : decode cX1_choose 48 = .ok (.aload_n 0, 1) := by decide +kernel
theorem dX1_choose_49 : decode cX1_choose 49 = .ok (.getfield 9, 3) := by decide +kernel
theorem dX1_choose_52 : decode cX1_choose 52 = .ok (.invokestatic 21, 3) := by decide +kernel
theorem dX1_choose_55 : decode cX1_choose 55 = .ok (.istore 4, 2) := by decide +kernel
theorem dX1_choose_57 : decode cX1_choose 57 = .ok (.aload_n 0, 1) := by decide +kernel
theorem dX1_choose_58 : decode cX1_choose 58 = .ok (.iload 4, 2) := by decide +kernel
theorem dX1_choose_60 : decode cX1_choose 60 = .ok (.ineg, 1) := by decide +kernel
theorem dX1_choose_61 : decode cX1_choose 61 = .ok (.sipush 4095, 3) := by decide +kernel
theorem dX1_choose_64 : decode cX1_choose 64 = .ok (.iand, 1) := by decide +kernel
theorem dX1_choose_65 : decode cX1_choose 65 = .ok (.putfield 25, 3) := by decide +kernel
theorem dX1_choose_68 : decode cX1_choose 68 = .ok (.return_, 1) := by decide +kernel
theorem dX2_init_0 : decode cX2_init 0 = .ok (.aload_n 0, 1) := by decide +kernel
theorem dX2_init_1 : decode cX2_init 1 = .ok (.invokespecial 3, 3) := by decide +kernel
theorem dX2_init_4 : decode cX2_init 4 = .ok (.aload_n 0, 1) := by decide +kernel
theorem dX2_init_5 : decode cX2_init 5 = .ok (.bipush 24, 2) := by decide +kernel
theorem dX2_init_7 : decode cX2_init 7 = .ok (.newarray .int, 2) := by decide +kernel
theorem dX2_init_9 : decode cX2_init 9 = .ok (.putfield 9, 3) := by decide +kernel
theorem dX2_init_12 : decode cX2_init 12 = .ok (.return_, 1) := by decide +kernel
theorem dX2_clear_0 : decode cX2_clear 0 = .ok (.iconst 0, 1) := by decide +kernel
theorem dX2_clear_1 : decode cX2_clear 1 = .ok (.istore_n 1, 1) := by decide +kernel
theorem dX2_clear_2 : decode cX2_clear 2 = .ok (.iload_n 1, 1) := by decide +kernel
theorem dX2_clear_3 : decode cX2_clear 3 = .ok (.bipush 24, 2) := by decide +kernel
theorem dX2_clear_5 : decode cX2_clear 5 = .ok (.if_icmp .ge 16, 3) := by decide +kernel
theorem dX2_clear_8 : decode cX2_clear 8 = .ok (.aload_n 0, 1) := by decide +kernel
theorem dX2_clear_9 : decode cX2_clear 9 = .ok (.getfield 9, 3) := by decide +kernel
theorem dX2_clear_12 : decode cX2_clear 12 = .ok (.iload_n 1, 1) := by decide +kernel
theorem dX2_clear_13 : decode cX2_clear 13 = .ok (.iconst 0, 1) := by decide +kernel
theorem dX2_clear_14 : decode cX2_clear 14 = .ok (.iastore, 1) := by decide +kernel
theorem dX2_clear_15 : decode cX2_clear 15 = .ok (.iinc 1 1, 3) := by decide +kernel
theorem dX2_clear_18 : decode cX2_clear 18 = .ok (.goto (-16), 3) := by decide +kernel
theorem dX2_clear_21 : decode cX2_clear 21 = .ok (.return_, 1) := by decide +kernel
theorem dX2_copy_0 : decode cX2_copy 0 = .ok (.iconst 0, 1) := by decide +kernel
theorem dX2_copy_1 : decode cX2_copy 1 = .ok (.istore_n 2, 1) := by decide +kernel
theorem dX2_copy_2 : decode cX2_copy 2 = .ok (.iload_n 2, 1) := by decide +kernel
theorem dX2_copy_3 : decode cX2_copy 3 = .ok (.bipush 24, 2) := by decide +kernel
theorem dX2_copy_5 : decode cX2_copy 5 = .ok (.if_icmp .ge 21, 3) := by decide +kernel
theorem dX2_copy_8 : decode cX2_copy 8 = .ok (.aload_n 0, 1) := by decide +kernel
theorem dX2_copy_9 : decode cX2_copy 9 = .ok (.getfield 9, 3) := by decide +kernel
theorem dX2_copy_12 : decode cX2_copy 12 = .ok (.iload_n 2, 1) := by decide +kernel
theorem dX2_copy_13 : decode cX2_copy 13 = .ok (.aload_n 1, 1) := by decide +kernel
theorem dX2_copy_14 : decode cX2_copy 14 = .ok (.getfield 9, 3) := by decide +kernel
theorem dX2_copy_17 : decode cX2_copy 17 = .ok (.iload_n 2, 1) := by decide +kernel
theorem dX2_copy_18 : decode cX2_copy 18 = .ok (.iaload, 1) := by decide +kernel
theorem dX2_copy_19 : decode cX2_copy 19 = .ok (.iastore, 1) := by decide +kernel
theorem dX2_copy_20 : decode cX2_copy 20 = .ok (.iinc 2 1, 3) := by decide +kernel
theorem dX2_copy_23 : decode cX2_copy 23 = .ok (.goto (-21), 3) := by decide +kernel
theorem dX2_copy_26 : decode cX2_copy 26 = .ok (.return_, 1) := by decide +kernel
theorem dX2_join_0 : decode cX2_join 0 = .ok (.iconst 0, 1) := by decide +kernel
theorem dX2_join_1 : decode cX2_join 1 = .ok (.istore_n 2, 1) := by decide +kernel
theorem dX2_join_2 : decode cX2_join 2 = .ok (.iload_n 2, 1) := by decide +kernel
theorem dX2_join_3 : decode cX2_join 3 = .ok (.bipush 24, 2) := by decide +kernel
theorem dX2_join_5 : decode cX2_join 5 = .ok (.if_icmp .ge 24, 3) := by decide +kernel
theorem dX2_join_8 : decode cX2_join 8 = .ok (.aload_n 0, 1) := by decide +kernel
theorem dX2_join_9 : decode cX2_join 9 = .ok (.getfield 9, 3) := by decide +kernel
theorem dX2_join_12 : decode cX2_join 12 = .ok (.iload_n 2, 1) := by decide +kernel
theorem dX2_join_13 : decode cX2_join 13 = .ok (.dup2, 1) := by decide +kernel
theorem dX2_join_14 : decode cX2_join 14 = .ok (.iaload, 1) := by decide +kernel
theorem dX2_join_15 : decode cX2_join 15 = .ok (.aload_n 1, 1) := by decide +kernel
theorem dX2_join_16 : decode cX2_join 16 = .ok (.getfield 9, 3) := by decide +kernel
theorem dX2_join_19 : decode cX2_join 19 = .ok (.iload_n 2, 1) := by decide +kernel
theorem dX2_join_20 : decode cX2_join 20 = .ok (.iaload, 1) := by decide +kernel
theorem dX2_join_21 : decode cX2_join 21 = .ok (.ior, 1) := by decide +kernel
theorem dX2_join_22 : decode cX2_join 22 = .ok (.iastore, 1) := by decide +kernel
theorem dX2_join_23 : decode cX2_join 23 = .ok (.iinc 2 1, 3) := by decide +kernel
theorem dX2_join_26 : decode cX2_join 26 = .ok (.goto (-24), 3) := by decide +kernel
theorem dX2_join_29 : decode cX2_join 29 = .ok (.return_, 1) := by decide +kernel
theorem dX2_drop_0 : decode cX2_drop 0 = .ok (.iconst 0, 1) := by decide +kernel
theorem dX2_drop_1 : decode cX2_drop 1 = .ok (.istore_n 2, 1) := by decide +kernel
theorem dX2_drop_2 : decode cX2_drop 2 = .ok (.iload_n 2, 1) := by decide +kernel
theorem dX2_drop_3 : decode cX2_drop 3 = .ok (.bipush 24, 2) := by decide +kernel
theorem dX2_drop_5 : decode cX2_drop 5 = .ok (.if_icmp .ge 26, 3) := by decide +kernel
theorem dX2_drop_8 : decode cX2_drop 8 = .ok (.aload_n 0, 1) := by decide +kernel
theorem dX2_drop_9 : decode cX2_drop 9 = .ok (.getfield 9, 3) := by decide +kernel
theorem dX2_drop_12 : decode cX2_drop 12 = .ok (.iload_n 2, 1) := by decide +kernel
theorem dX2_drop_13 : decode cX2_drop 13 = .ok (.dup2, 1) := by decide +kernel
theorem dX2_drop_14 : decode cX2_drop 14 = .ok (.iaload, 1) := by decide +kernel
theorem dX2_drop_15 : decode cX2_drop 15 = .ok (.aload_n 1, 1) := by decide +kernel
theorem dX2_drop_16 : decode cX2_drop 16 = .ok (.getfield 9, 3) := by decide +kernel
theorem dX2_drop_19 : decode cX2_drop 19 = .ok (.iload_n 2, 1) := by decide +kernel
theorem dX2_drop_20 : decode cX2_drop 20 = .ok (.iaload, 1) := by decide +kernel
theorem dX2_drop_21 : decode cX2_drop 21 = .ok (.iconst (-1), 1) := by decide +kernel
theorem dX2_drop_22 : decode cX2_drop 22 = .ok (.ixor, 1) := by decide +kernel
theorem dX2_drop_23 : decode cX2_drop 23 = .ok (.iand, 1) := by decide +kernel
theorem dX2_drop_24 : decode cX2_drop 24 = .ok (.iastore, 1) := by decide +kernel
theorem dX2_drop_25 : decode cX2_drop 25 = .ok (.iinc 2 1, 3) := by decide +kernel
theorem dX2_drop_28 : decode cX2_drop 28 = .ok (.goto (-26), 3) := by decide +kernel
theorem dX2_drop_31 : decode cX2_drop 31 = .ok (.return_, 1) := by decide +kernel
theorem dX2_keepOnly_0 : decode cX2_keepOnly 0 = .ok (.iconst 0, 1) := by decide +kernel
theorem dX2_keepOnly_1 : decode cX2_keepOnly 1 = .ok (.istore_n 2, 1) := by decide +kernel
theorem dX2_keepOnly_2 : decode cX2_keepOnly 2 = .ok (.iload_n 2, 1) := by decide +kernel
theorem dX2_keepOnly_3 : decode cX2_keepOnly 3 = .ok (.bipush 24, 2) := by decide +kernel
theorem dX2_keepOnly_5 : decode cX2_keepOnly 5 = .ok (.if_icmp .ge 24, 3) := by decide +kernel
theorem dX2_keepOnly_8 : decode cX2_keepOnly 8 = .ok (.aload_n 0, 1) := by decide +kernel
theorem dX2_keepOnly_9 : decode cX2_keepOnly 9 = .ok (.getfield 9, 3) := by decide +kernel
theorem dX2_keepOnly_12 : decode cX2_keepOnly 12 = .ok (.iload_n 2, 1) := by decide +kernel
theorem dX2_keepOnly_13 : decode cX2_keepOnly 13 = .ok (.dup2, 1) := by decide +kernel
theorem dX2_keepOnly_14 : decode cX2_keepOnly 14 = .ok (.iaload, 1) := by decide +kernel
theorem dX2_keepOnly_15 : decode cX2_keepOnly 15 = .ok (.aload_n 1, 1) := by decide +kernel
theorem dX2_keepOnly_16 : decode cX2_keepOnly 16 = .ok (.getfield 9, 3) := by decide +kernel
theorem dX2_keepOnly_19 : decode cX2_keepOnly 19 = .ok (.iload_n 2, 1) := by decide +kernel
theorem dX2_keepOnly_20 : decode cX2_keepOnly 20 = .ok (.iaload, 1) := by decide +kernel
theorem dX2_keepOnly_21 : decode cX2_keepOnly 21 = .ok (.iand, 1) := by decide +kernel
theorem dX2_keepOnly_22 : decode cX2_keepOnly 22 = .ok (.iastore, 1) := by decide +kernel
theorem dX2_keepOnly_23 : decode cX2_keepOnly 23 = .ok (.iinc 2 1, 3) := by decide +kernel
theorem dX2_keepOnly_26 : decode cX2_keepOnly 26 = .ok (.goto (-24), 3) := by decide +kernel
theorem dX2_keepOnly_29 : decode cX2_keepOnly 29 = .ok (.return_, 1) := by decide +kernel
theorem dX2_raise_0 : decode cX2_raise 0 = .ok (.iload_n 1, 1) := by decide +kernel
theorem dX2_raise_1 : decode cX2_raise 1 = .ok (.iload_n 2, 1) := by decide +kernel
theorem dX2_raise_2 : decode cX2_raise 2 = .ok (.invokestatic 15, 3) := by decide +kernel
theorem dX2_raise_5 : decode cX2_raise 5 = .ok (.ifCond .eq 15, 3) := by decide +kernel
theorem dX2_raise_8 : decode cX2_raise 8 = .ok (.aload_n 0, 1) := by decide +kernel
theorem dX2_raise_9 : decode cX2_raise 9 = .ok (.getfield 9, 3) := by decide +kernel
theorem dX2_raise_12 : decode cX2_raise 12 = .ok (.iload_n 2, 1) := by decide +kernel
theorem dX2_raise_13 : decode cX2_raise 13 = .ok (.dup2, 1) := by decide +kernel
theorem dX2_raise_14 : decode cX2_raise 14 = .ok (.iaload, 1) := by decide +kernel
theorem dX2_raise_15 : decode cX2_raise 15 = .ok (.iconst 1, 1) := by decide +kernel
theorem dX2_raise_16 : decode cX2_raise 16 = .ok (.iload_n 1, 1) := by decide +kernel
theorem dX2_raise_17 : decode cX2_raise 17 = .ok (.ishl, 1) := by decide +kernel
theorem dX2_raise_18 : decode cX2_raise 18 = .ok (.ior, 1) := by decide +kernel
theorem dX2_raise_19 : decode cX2_raise 19 = .ok (.iastore, 1) := by decide +kernel
theorem dX2_raise_20 : decode cX2_raise 20 = .ok (.return_, 1) := by decide +kernel
theorem dX2_holds_0 : decode cX2_holds 0 = .ok (.iload_n 1, 1) := by decide +kernel
theorem dX2_holds_1 : decode cX2_holds 1 = .ok (.iload_n 2, 1) := by decide +kernel
theorem dX2_holds_2 : decode cX2_holds 2 = .ok (.invokestatic 15, 3) := by decide +kernel
theorem dX2_holds_5 : decode cX2_holds 5 = .ok (.ifCond .eq 20, 3) := by decide +kernel
theorem dX2_holds_8 : decode cX2_holds 8 = .ok (.aload_n 0, 1) := by decide +kernel
theorem dX2_holds_9 : decode cX2_holds 9 = .ok (.getfield 9, 3) := by decide +kernel
theorem dX2_holds_12 : decode cX2_holds 12 = .ok (.iload_n 2, 1) := by decide +kernel
theorem dX2_holds_13 : decode cX2_holds 13 = .ok (.iaload, 1) := by decide +kernel
theorem dX2_holds_14 : decode cX2_holds 14 = .ok (.iload_n 1, 1) := by decide +kernel
theorem dX2_holds_15 : decode cX2_holds 15 = .ok (.invokestatic 19, 3) := by decide +kernel
theorem dX2_holds_18 : decode cX2_holds 18 = .ok (.ifCond .eq 7, 3) := by decide +kernel
theorem dX2_holds_21 : decode cX2_holds 21 = .ok (.iconst 1, 1) := by decide +kernel
theorem dX2_holds_22 : decode cX2_holds 22 = .ok (.goto 4, 3) := by decide +kernel
theorem dX2_holds_25 : decode cX2_holds 25 = .ok (.iconst 0, 1) := by decide +kernel
theorem dX2_holds_26 : decode cX2_holds 26 = .ok (.ireturn, 1) := by decide +kernel
theorem dX2_size_0 : decode cX2_size 0 = .ok (.iconst 0, 1) := by decide +kernel
theorem dX2_size_1 : decode cX2_size 1 = .ok (.istore_n 1, 1) := by decide +kernel
theorem dX2_size_2 : decode cX2_size 2 = .ok (.iconst 0, 1) := by decide +kernel
theorem dX2_size_3 : decode cX2_size 3 = .ok (.istore_n 2, 1) := by decide +kernel
theorem dX2_size_4 : decode cX2_size 4 = .ok (.iload_n 2, 1) := by decide +kernel
theorem dX2_size_5 : decode cX2_size 5 = .ok (.bipush 24, 2) := by decide +kernel
theorem dX2_size_7 : decode cX2_size 7 = .ok (.if_icmp .ge 21, 3) := by decide +kernel
theorem dX2_size_10 : decode cX2_size 10 = .ok (.iload_n 1, 1) := by decide +kernel
theorem dX2_size_11 : decode cX2_size 11 = .ok (.aload_n 0, 1) := by decide +kernel
theorem dX2_size_12 : decode cX2_size 12 = .ok (.getfield 9, 3) := by decide +kernel
theorem dX2_size_15 : decode cX2_size 15 = .ok (.iload_n 2, 1) := by decide +kernel
theorem dX2_size_16 : decode cX2_size 16 = .ok (.iaload, 1) := by decide +kernel
theorem dX2_size_17 : decode cX2_size 17 = .ok (.invokestatic 22, 3) := by decide +kernel
theorem dX2_size_20 : decode cX2_size 20 = .ok (.iadd, 1) := by decide +kernel
theorem dX2_size_21 : decode cX2_size 21 = .ok (.istore_n 1, 1) := by decide +kernel
theorem dX2_size_22 : decode cX2_size 22 = .ok (.iinc 2 1, 3) := by decide +kernel
theorem dX2_size_25 : decode cX2_size 25 = .ok (.goto (-21), 3) := by decide +kernel
theorem dX2_size_28 : decode cX2_size 28 = .ok (.iload_n 1, 1) := by decide +kernel
theorem dX2_size_29 : decode cX2_size 29 = .ok (.ireturn, 1) := by decide +kernel
theorem dX2_touch_0 : decode cX2_touch 0 = .ok (.iconst 0, 1) := by decide +kernel
theorem dX2_touch_1 : decode cX2_touch 1 = .ok (.istore_n 2, 1) := by decide +kernel
theorem dX2_touch_2 : decode cX2_touch 2 = .ok (.iload_n 2, 1) := by decide +kernel
theorem dX2_touch_3 : decode cX2_touch 3 = .ok (.bipush 24, 2) := by decide +kernel
theorem dX2_touch_5 : decode cX2_touch 5 = .ok (.if_icmp .ge 27, 3) := by decide +kernel
theorem dX2_touch_8 : decode cX2_touch 8 = .ok (.aload_n 0, 1) := by decide +kernel
theorem dX2_touch_9 : decode cX2_touch 9 = .ok (.getfield 9, 3) := by decide +kernel
theorem dX2_touch_12 : decode cX2_touch 12 = .ok (.iload_n 2, 1) := by decide +kernel
theorem dX2_touch_13 : decode cX2_touch 13 = .ok (.iaload, 1) := by decide +kernel
theorem dX2_touch_14 : decode cX2_touch 14 = .ok (.aload_n 1, 1) := by decide +kernel
theorem dX2_touch_15 : decode cX2_touch 15 = .ok (.getfield 9, 3) := by decide +kernel
theorem dX2_touch_18 : decode cX2_touch 18 = .ok (.iload_n 2, 1) := by decide +kernel
theorem dX2_touch_19 : decode cX2_touch 19 = .ok (.iaload, 1) := by decide +kernel
theorem dX2_touch_20 : decode cX2_touch 20 = .ok (.iand, 1) := by decide +kernel
theorem dX2_touch_21 : decode cX2_touch 21 = .ok (.ifCond .eq 5, 3) := by decide +kernel
theorem dX2_touch_24 : decode cX2_touch 24 = .ok (.iconst 1, 1) := by decide +kernel
theorem dX2_touch_25 : decode cX2_touch 25 = .ok (.ireturn, 1) := by decide +kernel
theorem dX2_touch_26 : decode cX2_touch 26 = .ok (.iinc 2 1, 3) := by decide +kernel
theorem dX2_touch_29 : decode cX2_touch 29 = .ok (.goto (-27), 3) := by decide +kernel
theorem dX2_touch_32 : decode cX2_touch 32 = .ok (.iconst 0, 1) := by decide +kernel
theorem dX2_touch_33 : decode cX2_touch 33 = .ok (.ireturn, 1) := by decide +kernel
theorem dX2_swell_0 : decode cX2_swell 0 = .ok (.iconst 0, 1) := by decide +kernel
theorem dX2_swell_1 : decode cX2_swell 1 = .ok (.istore_n 1, 1) := by decide +kernel
theorem dX2_swell_2 : decode cX2_swell 2 = .ok (.aload_n 0, 1) := by decide +kernel
theorem dX2_swell_3 : decode cX2_swell 3 = .ok (.getfield 9, 3) := by decide +kernel
theorem dX2_swell_6 : decode cX2_swell 6 = .ok (.iconst 0, 1) := by decide +kernel
theorem dX2_swell_7 : decode cX2_swell 7 = .ok (.iaload, 1) := by decide +kernel
theorem dX2_swell_8 : decode cX2_swell 8 = .ok (.invokestatic 28, 3) := by decide +kernel
theorem dX2_swell_11 : decode cX2_swell 11 = .ok (.istore_n 2, 1) := by decide +kernel
theorem dX2_swell_12 : decode cX2_swell 12 = .ok (.iconst 0, 1) := by decide +kernel
theorem dX2_swell_13 : decode cX2_swell 13 = .ok (.istore_n 3, 1) := by decide +kernel
theorem dX2_swell_14 : decode cX2_swell 14 = .ok (.iload_n 3, 1) := by decide +kernel
theorem dX2_swell_15 : decode cX2_swell 15 = .ok (.bipush 24, 2) := by decide +kernel
theorem dX2_swell_17 : decode cX2_swell 17 = .ok (.if_icmp .ge 51, 3) := by decide +kernel
theorem dX2_swell_20 : decode cX2_swell 20 = .ok (.iload_n 3, 1) := by decide +kernel
theorem dX2_swell_21 : decode cX2_swell 21 = .ok (.iconst 1, 1) := by decide +kernel
theorem dX2_swell_22 : decode cX2_swell 22 = .ok (.iadd, 1) := by decide +kernel
theorem dX2_swell_23 : decode cX2_swell 23 = .ok (.bipush 24, 2) := by decide +kernel
theorem dX2_swell_25 : decode cX2_swell 25 = .ok (.if_icmp .ge 17, 3) := by decide +kernel
theorem dX2_swell_28 : decode cX2_swell 28 = .ok (.aload_n 0, 1) := by decide +kernel
theorem dX2_swell_29 : decode cX2_swell 29 = .ok (.getfield 9, 3) := by decide +kernel
theorem dX2_swell_32 : decode cX2_swell 32 = .ok (.iload_n 3, 1) := by decide +kernel
theorem dX2_swell_33 : decode cX2_swell 33 = .ok (.iconst 1, 1) := by decide +kernel
theorem dX2_swell_34 : decode cX2_swell 34 = .ok (.iadd, 1) := by decide +kernel
theorem dX2_swell_35 : decode cX2_swell 35 = .ok (.iaload, 1) := by decide +kernel
theorem dX2_swell_36 : decode cX2_swell 36 = .ok (.invokestatic 28, 3) := by decide +kernel
theorem dX2_swell_39 : decode cX2_swell 39 = .ok (.goto 4, 3) := by decide +kernel
theorem dX2_swell_42 : decode cX2_swell 42 = .ok (.iconst 0, 1) := by decide +kernel
theorem dX2_swell_43 : decode cX2_swell 43 = .ok (.istore 4, 2) := by decide +kernel
theorem dX2_swell_45 : decode cX2_swell 45 = .ok (.aload_n 0, 1) := by decide +kernel
theorem dX2_swell_46 : decode cX2_swell 46 = .ok (.getfield 9, 3) := by decide +kernel
theorem dX2_swell_49 : decode cX2_swell 49 = .ok (.iload_n 3, 1) := by decide +kernel
theorem dX2_swell_50 : decode cX2_swell 50 = .ok (.iload_n 1, 1) := by decide +kernel
theorem dX2_swell_51 : decode cX2_swell 51 = .ok (.iload_n 2, 1) := by decide +kernel
theorem dX2_swell_52 : decode cX2_swell 52 = .ok (.ior, 1) := by decide +kernel
theorem dX2_swell_53 : decode cX2_swell 53 = .ok (.iload 4, 2) := by decide +kernel
theorem dX2_swell_55 : decode cX2_swell 55 = .ok (.ior, 1) := by decide +kernel
theorem dX2_swell_56 : decode cX2_swell 56 = .ok (.iastore, 1) := by decide +kernel
theorem dX2_swell_57 : decode cX2_swell 57 = .ok (.iload_n 2, 1) := by decide +kernel
theorem dX2_swell_58 : decode cX2_swell 58 = .ok (.istore_n 1, 1) := by decide +kernel
theorem dX2_swell_59 : decode cX2_swell 59 = .ok (.iload 4, 2) := by decide +kernel
theorem dX2_swell_61 : decode cX2_swell 61 = .ok (.istore_n 2, 1) := by decide +kernel
theorem dX2_swell_62 : decode cX2_swell 62 = .ok (.iinc 3 1, 3) := by decide +kernel
theorem dX2_swell_65 : decode cX2_swell 65 = .ok (.goto (-51), 3) := by decide +kernel
theorem dX2_swell_68 : decode cX2_swell 68 = .ok (.return_, 1) := by decide +kernel
theorem dX2_widened_0 : decode cX2_widened 0 = .ok (.iload_n 0, 1) := by decide +kernel
theorem dX2_widened_1 : decode cX2_widened 1 = .ok (.iload_n 0, 1) := by decide +kernel
theorem dX2_widened_2 : decode cX2_widened 2 = .ok (.iconst 1, 1) := by decide +kernel
theorem dX2_widened_3 : decode cX2_widened 3 = .ok (.ishl, 1) := by decide +kernel
theorem dX2_widened_4 : decode cX2_widened 4 = .ok (.ior, 1) := by decide +kernel
theorem dX2_widened_5 : decode cX2_widened 5 = .ok (.iload_n 0, 1) := by decide +kernel
theorem dX2_widened_6 : decode cX2_widened 6 = .ok (.iconst 1, 1) := by decide +kernel
theorem dX2_widened_7 : decode cX2_widened 7 = .ok (.ishr, 1) := by decide +kernel
theorem dX2_widened_8 : decode cX2_widened 8 = .ok (.ior, 1) := by decide +kernel
theorem dX2_widened_9 : decode cX2_widened 9 = .ok (.ldc 31, 2) := by decide +kernel
theorem dX2_widened_11 : decode cX2_widened 11 = .ok (.iand, 1) := by decide +kernel
theorem dX2_widened_12 : decode cX2_widened 12 = .ok (.ireturn, 1) := by decide +kernel
theorem dX2_countBeside_0 : decode cX2_countBeside 0 = .ok (.bipush 7, 2) := by decide +kernel
theorem dX2_countBeside_2 : decode cX2_countBeside 2 = .ok (.iload_n 1, 1) := by decide +kernel
theorem dX2_countBeside_3 : decode cX2_countBeside 3 = .ok (.ishl, 1) := by decide +kernel
theorem dX2_countBeside_4 : decode cX2_countBeside 4 = .ok (.iconst 1, 1) := by decide +kernel
theorem dX2_countBeside_5 : decode cX2_countBeside 5 = .ok (.ishr, 1) := by decide +kernel
theorem dX2_countBeside_6 : decode cX2_countBeside 6 = .ok (.istore_n 3, 1) := by decide +kernel
theorem dX2_countBeside_7 : decode cX2_countBeside 7 = .ok (.iconst (-1), 1) := by decide +kernel
theorem dX2_countBeside_8 : decode cX2_countBeside 8 = .ok (.istore 4, 2) := by decide +kernel
theorem dX2_countBeside_10 : decode cX2_countBeside 10 = .ok (.iload_n 2, 1) := by decide +kernel
theorem dX2_countBeside_11 : decode cX2_countBeside 11 = .ok (.iconst 1, 1) := by decide +kernel
theorem dX2_countBeside_12 : decode cX2_countBeside 12 = .ok (.isub, 1) := by decide +kernel
theorem dX2_countBeside_13 : decode cX2_countBeside 13 = .ok (.iconst 0, 1) := by decide +kernel
theorem dX2_countBeside_14 : decode cX2_countBeside 14 = .ok (.invokestatic 32, 3) := by decide +kernel
theorem dX2_countBeside_17 : decode cX2_countBeside 17 = .ok (.istore 5, 2) := by decide +kernel
theorem dX2_countBeside_19 : decode cX2_countBeside 19 = .ok (.iload 5, 2) := by decide +kernel
theorem dX2_countBeside_21 : decode cX2_countBeside 21 = .ok (.iload_n 2, 1) := by decide +kernel
theorem dX2_countBeside_22 : decode cX2_countBeside 22 = .ok (.iconst 1, 1) := by decide +kernel
theorem dX2_countBeside_23 : decode cX2_countBeside 23 = .ok (.iadd, 1) := by decide +kernel
theorem dX2_countBeside_24 : decode cX2_countBeside 24 = .ok (.bipush 23, 2) := by decide +kernel
theorem dX2_countBeside_26 : decode cX2_countBeside 26 = .ok (.invokestatic 38, 3) := by decide +kernel
theorem dX2_countBeside_29 : decode cX2_countBeside 29 = .ok (.if_icmp .gt 26, 3) := by decide +kernel
theorem dX2_countBeside_32 : decode cX2_countBeside 32 = .ok (.iload 4, 2) := by decide +kernel
theorem dX2_countBeside_34 : decode cX2_countBeside 34 = .ok (.aload_n 0, 1) := by decide +kernel
theorem dX2_countBeside_35 : decode cX2_countBeside 35 = .ok (.getfield 9, 3) := by decide +kernel
theorem dX2_countBeside_38 : decode cX2_countBeside 38 = .ok (.iload 5, 2) := by decide +kernel
theorem dX2_countBeside_40 : decode cX2_countBeside 40 = .ok (.iaload, 1) := by decide +kernel
theorem dX2_countBeside_41 : decode cX2_countBeside 41 = .ok (.iload_n 3, 1) := by decide +kernel
theorem dX2_countBeside_42 : decode cX2_countBeside 42 = .ok (.iand, 1) := by decide +kernel
theorem dX2_countBeside_43 : decode cX2_countBeside 43 = .ok (.invokestatic 22, 3) := by decide +kernel
theorem dX2_countBeside_46 : decode cX2_countBeside 46 = .ok (.iadd, 1) := by decide +kernel
theorem dX2_countBeside_47 : decode cX2_countBeside 47 = .ok (.istore 4, 2) := by decide +kernel
theorem dX2_countBeside_49 : decode cX2_countBeside 49 = .ok (.iinc 5 1, 3) := by decide +kernel
theorem dX2_countBeside_52 : decode cX2_countBeside 52 = .ok (.goto (-33), 3) := by decide +kernel
theorem dX2_countBeside_55 : decode cX2_countBeside 55 = .ok (.iload 4, 2) := by decide +kernel
theorem dX2_countBeside_57 : decode cX2_countBeside 57 = .ok (.ireturn, 1) := by decide +kernel
theorem dX3_init_0 : decode cX3_init 0 = .ok (.aload_n 0, 1) := by decide +kernel
theorem dX3_init_1 : decode cX3_init 1 = .ok (.invokespecial 3, 3) := by decide +kernel
theorem dX3_init_4 : decode cX3_init 4 = .ok (.aload_n 0, 1) := by decide +kernel
theorem dX3_init_5 : decode cX3_init 5 = .ok (.bipush 8, 2) := by decide +kernel
theorem dX3_init_7 : decode cX3_init 7 = .ok (.newarray .int, 2) := by decide +kernel
theorem dX3_init_9 : decode cX3_init 9 = .ok (.putfield 9, 3) := by decide +kernel
theorem dX3_init_12 : decode cX3_init 12 = .ok (.aload_n 0, 1) := by decide +kernel
theorem dX3_init_13 : decode cX3_init 13 = .ok (.bipush 8, 2) := by decide +kernel
theorem dX3_init_15 : decode cX3_init 15 = .ok (.newarray .int, 2) := by decide +kernel
theorem dX3_init_17 : decode cX3_init 17 = .ok (.putfield 15, 3) := by decide +kernel
theorem dX3_init_20 : decode cX3_init 20 = .ok (.aload_n 0, 1) := by decide +kernel
theorem dX3_init_21 : decode cX3_init 21 = .ok (.new 18, 3) := by decide +kernel
theorem dX3_init_24 : decode cX3_init 24 = .ok (.dup, 1) := by decide +kernel
theorem dX3_init_25 : decode cX3_init 25 = .ok (.invokespecial 20, 3) := by decide +kernel
theorem dX3_init_28 : decode cX3_init 28 = .ok (.putfield 21, 3) := by decide +kernel
theorem dX3_init_31 : decode cX3_init 31 = .ok (.return_, 1) := by decide +kernel
theorem dX3_begin_0 : decode cX3_begin 0 = .ok (.aload_n 0, 1) := by decide +kernel
theorem dX3_begin_1 : decode cX3_begin 1 = .ok (.iload_n 1, 1) := by decide +kernel
theorem dX3_begin_2 : decode cX3_begin 2 = .ok (.putfield 25, 3) := by decide +kernel
theorem dX3_begin_5 : decode cX3_begin 5 = .ok (.aload_n 0, 1) := by decide +kernel
theorem dX3_begin_6 : decode cX3_begin 6 = .ok (.iload_n 2, 1) := by decide +kernel
theorem dX3_begin_7 : decode cX3_begin 7 = .ok (.putfield 29, 3) := by decide +kernel
theorem dX3_begin_10 : decode cX3_begin 10 = .ok (.aload_n 0, 1) := by decide +kernel
theorem dX3_begin_11 : decode cX3_begin 11 = .ok (.iconst 0, 1) := by decide +kernel
theorem dX3_begin_12 : decode cX3_begin 12 = .ok (.putfield 32, 3) := by decide +kernel
theorem dX3_begin_15 : decode cX3_begin 15 = .ok (.return_, 1) := by decide +kernel
theorem dX3_addPlace_0 : decode cX3_addPlace 0 = .ok (.aload_n 0, 1) := by decide +kernel
theorem dX3_addPlace_1 : decode cX3_addPlace 1 = .ok (.getfield 32, 3) := by decide +kernel
theorem dX3_addPlace_4 : decode cX3_addPlace 4 = .ok (.bipush 8, 2) := by decide +kernel
theorem dX3_addPlace_6 : decode cX3_addPlace 6 = .ok (.if_icmp .ge 33, 3) := by decide +kernel
theorem dX3_addPlace_9 : decode cX3_addPlace 9 = .ok (.aload_n 0, 1) := by decide +kernel
theorem dX3_addPlace_10 : decode cX3_addPlace 10 = .ok (.getfield 9, 3) := by decide +kernel
theorem dX3_addPlace_13 : decode cX3_addPlace 13 = .ok (.aload_n 0, 1) := by decide +kernel
theorem dX3_addPlace_14 : decode cX3_addPlace 14 = .ok (.getfield 32, 3) := by decide +kernel
theorem dX3_addPlace_17 : decode cX3_addPlace 17 = .ok (.iload_n 1, 1) := by decide +kernel
theorem dX3_addPlace_18 : decode cX3_addPlace 18 = .ok (.iastore, 1) := by decide +kernel
theorem dX3_addPlace_19 : decode cX3_addPlace 19 = .ok (.aload_n 0, 1) := by decide +kernel
theorem dX3_addPlace_20 : decode cX3_addPlace 20 = .ok (.getfield 15, 3) := by decide +kernel
theorem dX3_addPlace_23 : decode cX3_addPlace 23 = .ok (.aload_n 0, 1) := by decide +kernel
theorem dX3_addPlace_24 : decode cX3_addPlace 24 = .ok (.getfield 32, 3) := by decide +kernel
theorem dX3_addPlace_27 : decode cX3_addPlace 27 = .ok (.iload_n 2, 1) := by decide +kernel
theorem dX3_addPlace_28 : decode cX3_addPlace 28 = .ok (.iastore, 1) := by decide +kernel
theorem dX3_addPlace_29 : decode cX3_addPlace 29 = .ok (.aload_n 0, 1) := by decide +kernel
theorem dX3_addPlace_30 : decode cX3_addPlace 30 = .ok (.dup, 1) := by decide +kernel
theorem dX3_addPlace_31 : decode cX3_addPlace 31 = .ok (.getfield 32, 3) := by decide +kernel
theorem dX3_addPlace_34 : decode cX3_addPlace 34 = .ok (.iconst 1, 1) := by decide +kernel
theorem dX3_addPlace_35 : decode cX3_addPlace 35 = .ok (.iadd, 1) := by decide +kernel
theorem dX3_addPlace_36 : decode cX3_addPlace 36 = .ok (.putfield 32, 3) := by decide +kernel
theorem dX3_addPlace_39 : decode cX3_addPlace 39 = .ok (.return_, 1) := by decide +kernel
theorem dX3_keepPlaces_0 : decode cX3_keepPlaces 0 = .ok (.aload_n 0, 1) := by decide +kernel
theorem dX3_keepPlaces_1 : decode cX3_keepPlaces 1 = .ok (.getfield 32, 3) := by decide +kernel
theorem dX3_keepPlaces_4 : decode cX3_keepPlaces 4 = .ok (.istore_n 2, 1) := by decide +kernel
theorem dX3_keepPlaces_5 : decode cX3_keepPlaces 5 = .ok (.aload_n 0, 1) := by decide +kernel
theorem dX3_keepPlaces_6 : decode cX3_keepPlaces 6 = .ok (.iconst 0, 1) := by decide +kernel
theorem dX3_keepPlaces_7 : decode cX3_keepPlaces 7 = .ok (.putfield 32, 3) := by decide +kernel
theorem dX3_keepPlaces_10 : decode cX3_keepPlaces 10 = .ok (.iconst 0, 1) := by decide +kernel
theorem dX3_keepPlaces_11 : decode cX3_keepPlaces 11 = .ok (.istore_n 3, 1) := by decide +kernel
theorem dX3_keepPlaces_12 : decode cX3_keepPlaces 12 = .ok (.iload_n 3, 1) := by decide +kernel
theorem dX3_keepPlaces_13 : decode cX3_keepPlaces 13 = .ok (.iload_n 2, 1) := by decide +kernel
theorem dX3_keepPlaces_14 : decode cX3_keepPlaces 14 = .ok (.if_icmp .ge 33, 3) := by decide +kernel
theorem dX3_keepPlaces_17 : decode cX3_keepPlaces 17 = .ok (.iload_n 1, 1) := by decide +kernel
theorem dX3_keepPlaces_18 : decode cX3_keepPlaces 18 = .ok (.iload_n 3, 1) := by decide +kernel
theorem dX3_keepPlaces_19 : decode cX3_keepPlaces 19 = .ok (.invokestatic 35, 3) := by decide +kernel
theorem dX3_keepPlaces_22 : decode cX3_keepPlaces 22 = .ok (.ifCond .eq 19, 3) := by decide +kernel
theorem dX3_keepPlaces_25 : decode cX3_keepPlaces 25 = .ok (.aload_n 0, 1) := by decide +kernel
theorem dX3_keepPlaces_26 : decode cX3_keepPlaces 26 = .ok (.aload_n 0, 1) := by decide +kernel
theorem dX3_keepPlaces_27 : decode cX3_keepPlaces 27 = .ok (.getfield 9, 3) := by decide +kernel
theorem dX3_keepPlaces_30 : decode cX3_keepPlaces 30 = .ok (.iload_n 3, 1) := by decide +kernel
theorem dX3_keepPlaces_31 : decode cX3_keepPlaces 31 = .ok (.iaload, 1) := by decide +kernel
theorem dX3_keepPlaces_32 : decode cX3_keepPlaces 32 = .ok (.aload_n 0, 1) := by decide +kernel
theorem dX3_keepPlaces_33 : decode cX3_keepPlaces 33 = .ok (.getfield 15, 3) := by decide +kernel
theorem dX3_keepPlaces_36 : decode cX3_keepPlaces 36 = .ok (.iload_n 3, 1) := by decide +kernel
theorem dX3_keepPlaces_37 : decode cX3_keepPlaces 37 = .ok (.iaload, 1) := by decide +kernel
theorem dX3_keepPlaces_38 : decode cX3_keepPlaces 38 = .ok (.invokevirtual 39, 3) := by decide +kernel
theorem dX3_keepPlaces_41 : decode cX3_keepPlaces 41 = .ok (.iinc 3 1, 3) := by decide +kernel
theorem dX3_keepPlaces_44 : decode cX3_keepPlaces 44 = .ok (.goto (-32), 3) := by decide +kernel
theorem dX3_keepPlaces_47 : decode cX3_keepPlaces 47 = .ok (.return_, 1) := by decide +kernel
theorem dX3_coordinate_0 : decode cX3_coordinate 0 = .ok (.iload_n 1, 1) := by decide +kernel
theorem dX3_coordinate_1 : decode cX3_coordinate 1 = .ok (.iconst 2, 1) := by decide +kernel
theorem dX3_coordinate_2 : decode cX3_coordinate 2 = .ok (.idiv, 1) := by decide +kernel
theorem dX3_coordinate_3 : decode cX3_coordinate 3 = .ok (.istore_n 2, 1) := by decide +kernel
theorem dX3_coordinate_4 : decode cX3_coordinate 4 = .ok (.iload_n 1, 1) := by decide +kernel
theorem dX3_coordinate_5 : decode cX3_coordinate 5 = .ok (.ifCond .lt 11, 3) := by decide +kernel
theorem dX3_coordinate_8 : decode cX3_coordinate 8 = .ok (.iload_n 2, 1) := by decide +kernel
theorem dX3_coordinate_9 : decode cX3_coordinate 9 = .ok (.aload_n 0, 1) := by decide +kernel
theorem dX3_coordinate_10 : decode cX3_coordinate 10 = .ok (.getfield 32, 3) := by decide +kernel
theorem dX3_coordinate_13 : decode cX3_coordinate 13 = .ok (.if_icmp .lt 5, 3) := by decide +kernel
theorem dX3_coordinate_16 : decode cX3_coordinate 16 = .ok (.iconst (-1), 1) := by decide +kernel
theorem dX3_coordinate_17 : decode cX3_coordinate 17 = .ok (.ireturn, 1) := by decide +kernel
theorem dX3_coordinate_18 : decode cX3_coordinate 18 = .ok (.iload_n 1, 1) := by decide +kernel
theorem dX3_coordinate_19 : decode cX3_coordinate 19 = .ok (.iconst 2, 1) := by decide +kernel
theorem dX3_coordinate_20 : decode cX3_coordinate 20 = .ok (.irem, 1) := by decide +kernel
theorem dX3_coordinate_21 : decode cX3_coordinate 21 = .ok (.ifCond .ne 12, 3) := by decide +kernel
theorem dX3_coordinate_24 : decode cX3_coordinate 24 = .ok (.aload_n 0, 1) := by decide +kernel
theorem dX3_coordinate_25 : decode cX3_coordinate 25 = .ok (.getfield 9, 3) := by decide +kernel
theorem dX3_coordinate_28 : decode cX3_coordinate 28 = .ok (.iload_n 2, 1) := by decide +kernel
theorem dX3_coordinate_29 : decode cX3_coordinate 29 = .ok (.iaload, 1) := by decide +kernel
theorem dX3_coordinate_30 : decode cX3_coordinate 30 = .ok (.goto 9, 3) := by decide +kernel
theorem dX3_coordinate_33 : decode cX3_coordinate 33 = .ok (.aload_n 0, 1) := by decide +kernel
theorem dX3_coordinate_34 : decode cX3_coordinate 34 = .ok (.getfield 15, 3) := by decide +kernel
theorem dX3_coordinate_37 : decode cX3_coordinate 37 = .ok (.iload_n 2, 1) := by decide +kernel
theorem dX3_coordinate_38 : decode cX3_coordinate 38 = .ok (.iaload, 1) := by decide +kernel
theorem dX3_coordinate_39 : decode cX3_coordinate 39 = .ok (.ireturn, 1) := by decide +kernel
theorem dX3_draw_0 : decode cX3_draw 0 = .ok (.aload_n 0, 1) := by decide +kernel
theorem dX3_draw_1 : decode cX3_draw 1 = .ok (.getfield 21, 3) := by decide +kernel
theorem dX3_draw_4 : decode cX3_draw 4 = .ok (.invokevirtual 43, 3) := by decide +kernel
theorem dX3_draw_7 : decode cX3_draw 7 = .ok (.aload_n 0, 1) := by decide +kernel
theorem dX3_draw_8 : decode cX3_draw 8 = .ok (.getfield 25, 3) := by decide +kernel
theorem dX3_draw_11 : decode cX3_draw 11 = .ok (.ifCond .ne 10, 3) := by decide +kernel
theorem dX3_draw_14 : decode cX3_draw 14 = .ok (.aload_n 0, 1) := by decide +kernel
theorem dX3_draw_15 : decode cX3_draw 15 = .ok (.invokevirtual 46, 3) := by decide +kernel
theorem dX3_draw_18 : decode cX3_draw 18 = .ok (.goto 22, 3) := by decide +kernel
theorem dX3_draw_21 : decode cX3_draw 21 = .ok (.aload_n 0, 1) := by decide +kernel
theorem dX3_draw_22 : decode cX3_draw 22 = .ok (.getfield 25, 3) := by decide +kernel
theorem dX3_draw_25 : decode cX3_draw 25 = .ok (.iconst 1, 1) := by decide +kernel
theorem dX3_draw_26 : decode cX3_draw 26 = .ok (.if_icmp .ne 10, 3) := by decide +kernel
theorem dX3_draw_29 : decode cX3_draw 29 = .ok (.aload_n 0, 1) := by decide +kernel
theorem dX3_draw_30 : decode cX3_draw 30 = .ok (.invokevirtual 49, 3) := by decide +kernel
theorem dX3_draw_33 : decode cX3_draw 33 = .ok (.goto 7, 3) := by decide +kernel
theorem dX3_draw_36 : decode cX3_draw 36 = .ok (.aload_n 0, 1) := by decide +kernel
theorem dX3_draw_37 : decode cX3_draw 37 = .ok (.invokevirtual 52, 3) := by decide +kernel
theorem dX3_draw_40 : decode cX3_draw 40 = .ok (.return_, 1) := by decide +kernel
theorem dX3_drawLine_0 : decode cX3_drawLine 0 = .ok (.aload_n 0, 1) := by decide +kernel
theorem dX3_drawLine_1 : decode cX3_drawLine 1 = .ok (.getfield 21, 3) := by decide +kernel
theorem dX3_drawLine_4 : decode cX3_drawLine 4 = .ok (.aload_n 0, 1) := by decide +kernel
theorem dX3_drawLine_5 : decode cX3_drawLine 5 = .ok (.getfield 9, 3) := by decide +kernel
theorem dX3_drawLine_8 : decode cX3_drawLine 8 = .ok (.iconst 0, 1) := by decide +kernel
theorem dX3_drawLine_9 : decode cX3_drawLine 9 = .ok (.iaload, 1) := by decide +kernel
theorem dX3_drawLine_10 : decode cX3_drawLine 10 = .ok (.aload_n 0, 1) := by decide +kernel
theorem dX3_drawLine_11 : decode cX3_drawLine 11 = .ok (.getfield 15, 3) := by decide +kernel
theorem dX3_drawLine_14 : decode cX3_drawLine 14 = .ok (.iconst 0, 1) := by decide +kernel
theorem dX3_drawLine_15 : decode cX3_drawLine 15 = .ok (.iaload, 1) := by decide +kernel
theorem dX3_drawLine_16 : decode cX3_drawLine 16 = .ok (.invokevirtual 55, 3) := by decide +kernel
theorem dX3_drawLine_19 : decode cX3_drawLine 19 = .ok (.iconst 1, 1) := by decide +kernel
theorem dX3_drawLine_20 : decode cX3_drawLine 20 = .ok (.istore_n 1, 1) := by decide +kernel
theorem dX3_drawLine_21 : decode cX3_drawLine 21 = .ok (.iload_n 1, 1) := by decide +kernel
theorem dX3_drawLine_22 : decode cX3_drawLine 22 = .ok (.aload_n 0, 1) := by decide +kernel
theorem dX3_drawLine_23 : decode cX3_drawLine 23 = .ok (.getfield 32, 3) := by decide +kernel
theorem dX3_drawLine_26 : decode cX3_drawLine 26 = .ok (.if_icmp .ge 41, 3) := by decide +kernel
theorem dX3_drawLine_29 : decode cX3_drawLine 29 = .ok (.aload_n 0, 1) := by decide +kernel
theorem dX3_drawLine_30 : decode cX3_drawLine 30 = .ok (.aload_n 0, 1) := by decide +kernel
theorem dX3_drawLine_31 : decode cX3_drawLine 31 = .ok (.getfield 9, 3) := by decide +kernel
theorem dX3_drawLine_34 : decode cX3_drawLine 34 = .ok (.iload_n 1, 1) := by decide +kernel
theorem dX3_drawLine_35 : decode cX3_drawLine 35 = .ok (.iconst 1, 1) := by decide +kernel
theorem dX3_drawLine_36 : decode cX3_drawLine 36 = .ok (.isub, 1) := by decide +kernel
theorem dX3_drawLine_37 : decode cX3_drawLine 37 = .ok (.iaload, 1) := by decide +kernel
theorem dX3_drawLine_38 : decode cX3_drawLine 38 = .ok (.aload_n 0, 1) := by decide +kernel
theorem dX3_drawLine_39 : decode cX3_drawLine 39 = .ok (.getfield 15, 3) := by decide +kernel
theorem dX3_drawLine_42 : decode cX3_drawLine 42 = .ok (.iload_n 1, 1) := by decide +kernel
theorem dX3_drawLine_43 : decode cX3_drawLine 43 = .ok (.iconst 1, 1) := by decide +kernel
theorem dX3_drawLine_44 : decode cX3_drawLine 44 = .ok (.isub, 1) := by decide +kernel
theorem dX3_drawLine_45 : decode cX3_drawLine 45 = .ok (.iaload, 1) := by decide +kernel
theorem dX3_drawLine_46 : decode cX3_drawLine 46 = .ok (.aload_n 0, 1) := by decide +kernel
theorem dX3_drawLine_47 : decode cX3_drawLine 47 = .ok (.getfield 9, 3) := by decide +kernel
theorem dX3_drawLine_50 : decode cX3_drawLine 50 = .ok (.iload_n 1, 1) := by decide +kernel
theorem dX3_drawLine_51 : decode cX3_drawLine 51 = .ok (.iaload, 1) := by decide +kernel
theorem dX3_drawLine_52 : decode cX3_drawLine 52 = .ok (.aload_n 0, 1) := by decide +kernel
theorem dX3_drawLine_53 : decode cX3_drawLine 53 = .ok (.getfield 15, 3) := by decide +kernel
theorem dX3_drawLine_56 : decode cX3_drawLine 56 = .ok (.iload_n 1, 1) := by decide +kernel
theorem dX3_drawLine_57 : decode cX3_drawLine 57 = .ok (.iaload, 1) := by decide +kernel
theorem dX3_drawLine_58 : decode cX3_drawLine 58 = .ok (.invokevirtual 58, 3) := by decide +kernel
theorem dX3_drawLine_61 : decode cX3_drawLine 61 = .ok (.iinc 1 1, 3) := by decide +kernel
theorem dX3_drawLine_64 : decode cX3_drawLine 64 = .ok (.goto (-43), 3) := by decide +kernel
theorem dX3_drawLine_67 : decode cX3_drawLine 67 = .ok (.return_, 1) := by decide +kernel
theorem dX3_drawStep_0 : decode cX3_drawStep 0 = .ok (.iload_n 3, 1) := by decide +kernel
theorem dX3_drawStep_1 : decode cX3_drawStep 1 = .ok (.iload_n 1, 1) := by decide +kernel
theorem dX3_drawStep_2 : decode cX3_drawStep 2 = .ok (.isub, 1) := by decide +kernel
theorem dX3_drawStep_3 : decode cX3_drawStep 3 = .ok (.istore 5, 2) := by decide +kernel
theorem dX3_drawStep_5 : decode cX3_drawStep 5 = .ok (.iload 4, 2) := by decide +kernel
theorem dX3_drawStep_7 : decode cX3_drawStep 7 = .ok (.iload_n 2, 1) := by decide +kernel
theorem dX3_drawStep_8 : decode cX3_drawStep 8 = .ok (.isub, 1) := by decide +kernel
theorem dX3_drawStep_9 : decode cX3_drawStep 9 = .ok (.istore 6, 2) := by decide +kernel
theorem dX3_drawStep_11 : decode cX3_drawStep 11 = .ok (.iload 5, 2) := by decide +kernel
theorem dX3_drawStep_13 : decode cX3_drawStep 13 = .ok (.invokestatic 62, 3) := by decide +kernel
theorem dX3_drawStep_16 : decode cX3_drawStep 16 = .ok (.iload 6, 2) := by decide +kernel
theorem dX3_drawStep_18 : decode cX3_drawStep 18 = .ok (.invokestatic 62, 3) := by decide +kernel
theorem dX3_drawStep_21 : decode cX3_drawStep 21 = .ok (.invokestatic 68, 3) := by decide +kernel
theorem dX3_drawStep_24 : decode cX3_drawStep 24 = .ok (.istore 7, 2) := by decide +kernel
theorem dX3_drawStep_26 : decode cX3_drawStep 26 = .ok (.iload 7, 2) := by decide +kernel
theorem dX3_drawStep_28 : decode cX3_drawStep 28 = .ok (.ifCond .ne 4, 3) := by decide +kernel
theorem dX3_drawStep_31 : decode cX3_drawStep 31 = .ok (.return_, 1) := by decide +kernel
theorem dX3_drawStep_32 : decode cX3_drawStep 32 = .ok (.iconst 0, 1) := by decide +kernel
theorem dX3_drawStep_33 : decode cX3_drawStep 33 = .ok (.istore 8, 2) := by decide +kernel
theorem dX3_drawStep_35 : decode cX3_drawStep 35 = .ok (.iload 8, 2) := by decide +kernel
theorem dX3_drawStep_37 : decode cX3_drawStep 37 = .ok (.iload 7, 2) := by decide +kernel
theorem dX3_drawStep_39 : decode cX3_drawStep 39 = .ok (.if_icmp .gt 62, 3) := by decide +kernel
theorem dX3_drawStep_42 : decode cX3_drawStep 42 = .ok (.iload_n 1, 1) := by decide +kernel
theorem dX3_drawStep_43 : decode cX3_drawStep 43 = .ok (.iconst 2, 1) := by decide +kernel
theorem dX3_drawStep_44 : decode cX3_drawStep 44 = .ok (.iload 8, 2) := by decide +kernel
theorem dX3_drawStep_46 : decode cX3_drawStep 46 = .ok (.imul, 1) := by decide +kernel
theorem dX3_drawStep_47 : decode cX3_drawStep 47 = .ok (.iload 5, 2) := by decide +kernel
theorem dX3_drawStep_49 : decode cX3_drawStep 49 = .ok (.imul, 1) := by decide +kernel
theorem dX3_drawStep_50 : decode cX3_drawStep 50 = .ok (.iload 7, 2) := by decide +kernel
theorem dX3_drawStep_52 : decode cX3_drawStep 52 = .ok (.iadd, 1) := by decide +kernel
theorem dX3_drawStep_53 : decode cX3_drawStep 53 = .ok (.iconst 2, 1) := by decide +kernel
theorem dX3_drawStep_54 : decode cX3_drawStep 54 = .ok (.iload 7, 2) := by decide +kernel
theorem dX3_drawStep_56 : decode cX3_drawStep 56 = .ok (.imul, 1) := by decide +kernel
theorem dX3_drawStep_57 : decode cX3_drawStep 57 = .ok (.invokestatic 72, 3) := by decide +kernel
theorem dX3_drawStep_60 : decode cX3_drawStep 60 = .ok (.iadd, 1) := by decide +kernel
theorem dX3_drawStep_61 : decode cX3_drawStep 61 = .ok (.istore 9, 2) := by decide +kernel
theorem dX3_drawStep_63 : decode cX3_drawStep 63 = .ok (.iload_n 2, 1) := by decide +kernel
theorem dX3_drawStep_64 : decode cX3_drawStep 64 = .ok (.iconst 2, 1) := by decide +kernel
theorem dX3_drawStep_65 : decode cX3_drawStep 65 = .ok (.iload 8, 2) := by decide +kernel
theorem dX3_drawStep_67 : decode cX3_drawStep 67 = .ok (.imul, 1) := by decide +kernel
theorem dX3_drawStep_68 : decode cX3_drawStep 68 = .ok (.iload 6, 2) := by decide +kernel
theorem dX3_drawStep_70 : decode cX3_drawStep 70 = .ok (.imul, 1) := by decide +kernel
theorem dX3_drawStep_71 : decode cX3_drawStep 71 = .ok (.iload 7, 2) := by decide +kernel
theorem dX3_drawStep_73 : decode cX3_drawStep 73 = .ok (.iadd, 1) := by decide +kernel
theorem dX3_drawStep_74 : decode cX3_drawStep 74 = .ok (.iconst 2, 1) := by decide +kernel
theorem dX3_drawStep_75 : decode cX3_drawStep 75 = .ok (.iload 7, 2) := by decide +kernel
theorem dX3_drawStep_77 : decode cX3_drawStep 77 = .ok (.imul, 1) := by decide +kernel
theorem dX3_drawStep_78 : decode cX3_drawStep 78 = .ok (.invokestatic 72, 3) := by decide +kernel
theorem dX3_drawStep_81 : decode cX3_drawStep 81 = .ok (.iadd, 1) := by decide +kernel
theorem dX3_drawStep_82 : decode cX3_drawStep 82 = .ok (.istore 10, 2) := by decide +kernel
theorem dX3_drawStep_84 : decode cX3_drawStep 84 = .ok (.aload_n 0, 1) := by decide +kernel
theorem dX3_drawStep_85 : decode cX3_drawStep 85 = .ok (.getfield 21, 3) := by decide +kernel
theorem dX3_drawStep_88 : decode cX3_drawStep 88 = .ok (.iload 9, 2) := by decide +kernel
theorem dX3_drawStep_90 : decode cX3_drawStep 90 = .ok (.iload 10, 2) := by decide +kernel
theorem dX3_drawStep_92 : decode cX3_drawStep 92 = .ok (.invokevirtual 55, 3) := by decide +kernel
theorem dX3_drawStep_95 : decode cX3_drawStep 95 = .ok (.iinc 8 1, 3) := by decide +kernel
theorem dX3_drawStep_98 : decode cX3_drawStep 98 = .ok (.goto (-63), 3) := by decide +kernel
theorem dX3_drawStep_101 : decode cX3_drawStep 101 = .ok (.return_, 1) := by decide +kernel
theorem dX3_drawGround_0 : decode cX3_drawGround 0 = .ok (.iconst 2, 1) := by decide +kernel
theorem dX3_drawGround_1 : decode cX3_drawGround 1 = .ok (.aload_n 0, 1) := by decide +kernel
theorem dX3_drawGround_2 : decode cX3_drawGround 2 = .ok (.getfield 9, 3) := by decide +kernel
theorem dX3_drawGround_5 : decode cX3_drawGround 5 = .ok (.iconst 1, 1) := by decide +kernel
theorem dX3_drawGround_6 : decode cX3_drawGround 6 = .ok (.iaload, 1) := by decide +kernel
theorem dX3_drawGround_7 : decode cX3_drawGround 7 = .ok (.ishl, 1) := by decide +kernel
theorem dX3_drawGround_8 : decode cX3_drawGround 8 = .ok (.iconst 1, 1) := by decide +kernel
theorem dX3_drawGround_9 : decode cX3_drawGround 9 = .ok (.aload_n 0, 1) := by decide +kernel
theorem dX3_drawGround_10 : decode cX3_drawGround 10 = .ok (.getfield 9, 3) := by decide +kernel
theorem dX3_drawGround_13 : decode cX3_drawGround 13 = .ok (.iconst 0, 1) := by decide +kernel
theorem dX3_drawGround_14 : decode cX3_drawGround 14 = .ok (.iaload, 1) := by decide +kernel
theorem dX3_drawGround_15 : decode cX3_drawGround 15 = .ok (.ishl, 1) := by decide +kernel
theorem dX3_drawGround_16 : decode cX3_drawGround 16 = .ok (.isub, 1) := by decide +kernel
theorem dX3_drawGround_17 : decode cX3_drawGround 17 = .ok (.istore_n 1, 1) := by decide +kernel
theorem dX3_drawGround_18 : decode cX3_drawGround 18 = .ok (.aload_n 0, 1) := by decide +kernel
theorem dX3_drawGround_19 : decode cX3_drawGround 19 = .ok (.getfield 15, 3) := by decide +kernel
theorem dX3_drawGround_22 : decode cX3_drawGround 22 = .ok (.iconst 0, 1) := by decide +kernel
theorem dX3_drawGround_23 : decode cX3_drawGround 23 = .ok (.iaload, 1) := by decide +kernel
theorem dX3_drawGround_24 : decode cX3_drawGround 24 = .ok (.istore_n 2, 1) := by decide +kernel
theorem dX3_drawGround_25 : decode cX3_drawGround 25 = .ok (.iload_n 2, 1) := by decide +kernel
theorem dX3_drawGround_26 : decode cX3_drawGround 26 = .ok (.aload_n 0, 1) := by decide +kernel
theorem dX3_drawGround_27 : decode cX3_drawGround 27 = .ok (.getfield 15, 3) := by decide +kernel
theorem dX3_drawGround_30 : decode cX3_drawGround 30 = .ok (.iconst 1, 1) := by decide +kernel
theorem dX3_drawGround_31 : decode cX3_drawGround 31 = .ok (.iaload, 1) := by decide +kernel
theorem dX3_drawGround_32 : decode cX3_drawGround 32 = .ok (.if_icmp .gt 19, 3) := by decide +kernel
theorem dX3_drawGround_35 : decode cX3_drawGround 35 = .ok (.aload_n 0, 1) := by decide +kernel
theorem dX3_drawGround_36 : decode cX3_drawGround 36 = .ok (.getfield 21, 3) := by decide +kernel
theorem dX3_drawGround_39 : decode cX3_drawGround 39 = .ok (.getfield 75, 3) := by decide +kernel
theorem dX3_drawGround_42 : decode cX3_drawGround 42 = .ok (.iload_n 2, 1) := by decide +kernel
theorem dX3_drawGround_43 : decode cX3_drawGround 43 = .ok (.iload_n 1, 1) := by decide +kernel
theorem dX3_drawGround_44 : decode cX3_drawGround 44 = .ok (.iastore, 1) := by decide +kernel
theorem dX3_drawGround_45 : decode cX3_drawGround 45 = .ok (.iinc 2 1, 3) := by decide +kernel
theorem dX3_drawGround_48 : decode cX3_drawGround 48 = .ok (.goto (-23), 3) := by decide +kernel
theorem dX3_drawGround_51 : decode cX3_drawGround 51 = .ok (.return_, 1) := by decide +kernel
theorem dX3_drawMark_0 : decode cX3_drawMark 0 = .ok (.aload_n 0, 1) := by decide +kernel
theorem dX3_drawMark_1 : decode cX3_drawMark 1 = .ok (.getfield 9, 3) := by decide +kernel
theorem dX3_drawMark_4 : decode cX3_drawMark 4 = .ok (.iconst 0, 1) := by decide +kernel
theorem dX3_drawMark_5 : decode cX3_drawMark 5 = .ok (.iaload, 1) := by decide +kernel
theorem dX3_drawMark_6 : decode cX3_drawMark 6 = .ok (.istore_n 1, 1) := by decide +kernel
theorem dX3_drawMark_7 : decode cX3_drawMark 7 = .ok (.aload_n 0, 1) := by decide +kernel
theorem dX3_drawMark_8 : decode cX3_drawMark 8 = .ok (.getfield 15, 3) := by decide +kernel
theorem dX3_drawMark_11 : decode cX3_drawMark 11 = .ok (.iconst 0, 1) := by decide +kernel
theorem dX3_drawMark_12 : decode cX3_drawMark 12 = .ok (.iaload, 1) := by decide +kernel
theorem dX3_drawMark_13 : decode cX3_drawMark 13 = .ok (.istore_n 2, 1) := by decide +kernel
theorem dX3_drawMark_14 : decode cX3_drawMark 14 = .ok (.aload_n 0, 1) := by decide +kernel
theorem dX3_drawMark_15 : decode cX3_drawMark 15 = .ok (.getfield 21, 3) := by decide +kernel
theorem dX3_drawMark_18 : decode cX3_drawMark 18 = .ok (.iload_n 1, 1) := by decide +kernel
theorem dX3_drawMark_19 : decode cX3_drawMark 19 = .ok (.iload_n 2, 1) := by decide +kernel
theorem dX3_drawMark_20 : decode cX3_drawMark 20 = .ok (.invokevirtual 55, 3) := by decide +kernel
theorem dX3_drawMark_23 : decode cX3_drawMark 23 = .ok (.aload_n 0, 1) := by decide +kernel
theorem dX3_drawMark_24 : decode cX3_drawMark 24 = .ok (.getfield 21, 3) := by decide +kernel
theorem dX3_drawMark_27 : decode cX3_drawMark 27 = .ok (.iload_n 1, 1) := by decide +kernel
theorem dX3_drawMark_28 : decode cX3_drawMark 28 = .ok (.iconst 1, 1) := by decide +kernel
theorem dX3_drawMark_29 : decode cX3_drawMark 29 = .ok (.isub, 1) := by decide +kernel
theorem dX3_drawMark_30 : decode cX3_drawMark 30 = .ok (.iload_n 2, 1) := by decide +kernel
theorem dX3_drawMark_31 : decode cX3_drawMark 31 = .ok (.invokevirtual 55, 3) := by decide +kernel
theorem dX3_drawMark_34 : decode cX3_drawMark 34 = .ok (.aload_n 0, 1) := by decide +kernel
theorem dX3_drawMark_35 : decode cX3_drawMark 35 = .ok (.getfield 21, 3) := by decide +kernel
theorem dX3_drawMark_38 : decode cX3_drawMark 38 = .ok (.iload_n 1, 1) := by decide +kernel
theorem dX3_drawMark_39 : decode cX3_drawMark 39 = .ok (.iconst 1, 1) := by decide +kernel
theorem dX3_drawMark_40 : decode cX3_drawMark 40 = .ok (.iadd, 1) := by decide +kernel
theorem dX3_drawMark_41 : decode cX3_drawMark 41 = .ok (.iload_n 2, 1) := by decide +kernel
theorem dX3_drawMark_42 : decode cX3_drawMark 42 = .ok (.invokevirtual 55, 3) := by decide +kernel
theorem dX3_drawMark_45 : decode cX3_drawMark 45 = .ok (.aload_n 0, 1) := by decide +kernel
theorem dX3_drawMark_46 : decode cX3_drawMark 46 = .ok (.getfield 21, 3) := by decide +kernel
theorem dX3_drawMark_49 : decode cX3_drawMark 49 = .ok (.iload_n 1, 1) := by decide +kernel
theorem dX3_drawMark_50 : decode cX3_drawMark 50 = .ok (.iload_n 2, 1) := by decide +kernel
theorem dX3_drawMark_51 : decode cX3_drawMark 51 = .ok (.iconst 1, 1) := by decide +kernel
theorem dX3_drawMark_52 : decode cX3_drawMark 52 = .ok (.isub, 1) := by decide +kernel
theorem dX3_drawMark_53 : decode cX3_drawMark 53 = .ok (.invokevirtual 55, 3) := by decide +kernel
theorem dX3_drawMark_56 : decode cX3_drawMark 56 = .ok (.aload_n 0, 1) := by decide +kernel
theorem dX3_drawMark_57 : decode cX3_drawMark 57 = .ok (.getfield 21, 3) := by decide +kernel
theorem dX3_drawMark_60 : decode cX3_drawMark 60 = .ok (.iload_n 1, 1) := by decide +kernel
theorem dX3_drawMark_61 : decode cX3_drawMark 61 = .ok (.iload_n 2, 1) := by decide +kernel
theorem dX3_drawMark_62 : decode cX3_drawMark 62 = .ok (.iconst 1, 1) := by decide +kernel
theorem dX3_drawMark_63 : decode cX3_drawMark 63 = .ok (.iadd, 1) := by decide +kernel
theorem dX3_drawMark_64 : decode cX3_drawMark 64 = .ok (.invokevirtual 55, 3) := by decide +kernel
theorem dX3_drawMark_67 : decode cX3_drawMark 67 = .ok (.return_, 1) := by decide +kernel
theorem dX4_init_0 : decode cX4_init 0 = .ok (.aload_n 0, 1) := by decide +kernel
theorem dX4_init_1 : decode cX4_init 1 = .ok (.invokespecial 3, 3) := by decide +kernel
theorem dX4_init_4 : decode cX4_init 4 = .ok (.aload_n 0, 1) := by decide +kernel
theorem dX4_init_5 : decode cX4_init 5 = .ok (.bipush 8, 2) := by decide +kernel
theorem dX4_init_7 : decode cX4_init 7 = .ok (.newarray .int, 2) := by decide +kernel
theorem dX4_init_9 : decode cX4_init 9 = .ok (.putfield 9, 3) := by decide +kernel
theorem dX4_init_12 : decode cX4_init 12 = .ok (.aload_n 0, 1) := by decide +kernel
theorem dX4_init_13 : decode cX4_init 13 = .ok (.bipush 8, 2) := by decide +kernel
theorem dX4_init_15 : decode cX4_init 15 = .ok (.newarray .int, 2) := by decide +kernel
theorem dX4_init_17 : decode cX4_init 17 = .ok (.putfield 15, 3) := by decide +kernel
theorem dX4_init_20 : decode cX4_init 20 = .ok (.return_, 1) := by decide +kernel
theorem dX4_fewest_0 : decode cX4_fewest 0 = .ok (.aload_n 1, 1) := by decide +kernel
theorem dX4_fewest_1 : decode cX4_fewest 1 = .ok (.getfield 18, 3) := by decide +kernel
theorem dX4_fewest_4 : decode cX4_fewest 4 = .ok (.iconst 1, 1) := by decide +kernel
theorem dX4_fewest_5 : decode cX4_fewest 5 = .ok (.isub, 1) := by decide +kernel
theorem dX4_fewest_6 : decode cX4_fewest 6 = .ok (.istore_n 3, 1) := by decide +kernel
theorem dX4_fewest_7 : decode cX4_fewest 7 = .ok (.iload_n 3, 1) := by decide +kernel
theorem dX4_fewest_8 : decode cX4_fewest 8 = .ok (.istore 4, 2) := by decide +kernel
theorem dX4_fewest_10 : decode cX4_fewest 10 = .ok (.iload 4, 2) := by decide +kernel
theorem dX4_fewest_12 : decode cX4_fewest 12 = .ok (.ifCond .lt 110, 3) := by decide +kernel
theorem dX4_fewest_15 : decode cX4_fewest 15 = .ok (.aload_n 0, 1) := by decide +kernel
theorem dX4_fewest_16 : decode cX4_fewest 16 = .ok (.getfield 9, 3) := by decide +kernel
theorem dX4_fewest_19 : decode cX4_fewest 19 = .ok (.iload 4, 2) := by decide +kernel
theorem dX4_fewest_21 : decode cX4_fewest 21 = .ok (.iload 4, 2) := by decide +kernel
theorem dX4_fewest_23 : decode cX4_fewest 23 = .ok (.iload_n 3, 1) := by decide +kernel
theorem dX4_fewest_24 : decode cX4_fewest 24 = .ok (.if_icmp .ne 7, 3) := by decide +kernel
theorem dX4_fewest_27 : decode cX4_fewest 27 = .ok (.iconst 1, 1) := by decide +kernel
theorem dX4_fewest_28 : decode cX4_fewest 28 = .ok (.goto 5, 3) := by decide +kernel
theorem dX4_fewest_31 : decode cX4_fewest 31 = .ok (.bipush 9, 2) := by decide +kernel
theorem dX4_fewest_33 : decode cX4_fewest 33 = .ok (.iastore, 1) := by decide +kernel
theorem dX4_fewest_34 : decode cX4_fewest 34 = .ok (.aload_n 0, 1) := by decide +kernel
theorem dX4_fewest_35 : decode cX4_fewest 35 = .ok (.getfield 15, 3) := by decide +kernel
theorem dX4_fewest_38 : decode cX4_fewest 38 = .ok (.iload 4, 2) := by decide +kernel
theorem dX4_fewest_40 : decode cX4_fewest 40 = .ok (.iload_n 3, 1) := by decide +kernel
theorem dX4_fewest_41 : decode cX4_fewest 41 = .ok (.iastore, 1) := by decide +kernel
theorem dX4_fewest_42 : decode cX4_fewest 42 = .ok (.iload 4, 2) := by decide +kernel
theorem dX4_fewest_44 : decode cX4_fewest 44 = .ok (.iconst 1, 1) := by decide +kernel
theorem dX4_fewest_45 : decode cX4_fewest 45 = .ok (.iadd, 1) := by decide +kernel
theorem dX4_fewest_46 : decode cX4_fewest 46 = .ok (.istore 5, 2) := by decide +kernel
theorem dX4_fewest_48 : decode cX4_fewest 48 = .ok (.iload 5, 2) := by decide +kernel
theorem dX4_fewest_50 : decode cX4_fewest 50 = .ok (.iload_n 3, 1) := by decide +kernel
theorem dX4_fewest_51 : decode cX4_fewest 51 = .ok (.if_icmp .gt 65, 3) := by decide +kernel
theorem dX4_fewest_54 : decode cX4_fewest 54 = .ok (.aload_n 0, 1) := by decide +kernel
theorem dX4_fewest_55 : decode cX4_fewest 55 = .ok (.getfield 9, 3) := by decide +kernel
theorem dX4_fewest_58 : decode cX4_fewest 58 = .ok (.iload 5, 2) := by decide +kernel
theorem dX4_fewest_60 : decode cX4_fewest 60 = .ok (.iaload, 1) := by decide +kernel
theorem dX4_fewest_61 : decode cX4_fewest 61 = .ok (.iconst 1, 1) := by decide +kernel
theorem dX4_fewest_62 : decode cX4_fewest 62 = .ok (.iadd, 1) := by decide +kernel
theorem dX4_fewest_63 : decode cX4_fewest 63 = .ok (.aload_n 0, 1) := by decide +kernel
theorem dX4_fewest_64 : decode cX4_fewest 64 = .ok (.getfield 9, 3) := by decide +kernel
theorem dX4_fewest_67 : decode cX4_fewest 67 = .ok (.iload 4, 2) := by decide +kernel
theorem dX4_fewest_69 : decode cX4_fewest 69 = .ok (.iaload, 1) := by decide +kernel
theorem dX4_fewest_70 : decode cX4_fewest 70 = .ok (.if_icmp .ge 40, 3) := by decide +kernel
theorem dX4_fewest_73 : decode cX4_fewest 73 = .ok (.aload_n 1, 1) := by decide +kernel
theorem dX4_fewest_74 : decode cX4_fewest 74 = .ok (.iload 4, 2) := by decide +kernel
theorem dX4_fewest_76 : decode cX4_fewest 76 = .ok (.iload 5, 2) := by decide +kernel
theorem dX4_fewest_78 : decode cX4_fewest 78 = .ok (.iload_n 2, 1) := by decide +kernel
theorem dX4_fewest_79 : decode cX4_fewest 79 = .ok (.invokestatic 24, 3) := by decide +kernel
theorem dX4_fewest_82 : decode cX4_fewest 82 = .ok (.ifCond .eq 28, 3) := by decide +kernel
theorem dX4_fewest_85 : decode cX4_fewest 85 = .ok (.aload_n 0, 1) := by decide +kernel
theorem dX4_fewest_86 : decode cX4_fewest 86 = .ok (.getfield 9, 3) := by decide +kernel
theorem dX4_fewest_89 : decode cX4_fewest 89 = .ok (.iload 4, 2) := by decide +kernel
theorem dX4_fewest_91 : decode cX4_fewest 91 = .ok (.aload_n 0, 1) := by decide +kernel
theorem dX4_fewest_92 : decode cX4_fewest 92 = .ok (.getfield 9, 3) := by decide +kernel
theorem dX4_fewest_95 : decode cX4_fewest 95 = .ok (.iload 5, 2) := by decide +kernel
theorem dX4_fewest_97 : decode cX4_fewest 97 = .ok (.iaload, 1) := by decide +kernel
theorem dX4_fewest_98 : decode cX4_fewest 98 = .ok (.iconst 1, 1) := by decide +kernel
theorem dX4_fewest_99 : decode cX4_fewest 99 = .ok (.iadd, 1) := by decide +kernel
theorem dX4_fewest_100 : decode cX4_fewest 100 = .ok (.iastore, 1) := by decide +kernel
theorem dX4_fewest_101 : decode cX4_fewest 101 = .ok (.aload_n 0, 1) := by decide +kernel
theorem dX4_fewest_102 : decode cX4_fewest 102 = .ok (.getfield 15, 3) := by decide +kernel
theorem dX4_fewest_105 : decode cX4_fewest 105 = .ok (.iload 4, 2) := by decide +kernel
theorem dX4_fewest_107 : decode cX4_fewest 107 = .ok (.iload 5, 2) := by decide +kernel
theorem dX4_fewest_109 : decode cX4_fewest 109 = .ok (.iastore, 1) := by decide +kernel
theorem dX4_fewest_110 : decode cX4_fewest 110 = .ok (.iinc 5 1, 3) := by decide +kernel
theorem dX4_fewest_113 : decode cX4_fewest 113 = .ok (.goto (-65), 3) := by decide +kernel
theorem dX4_fewest_116 : decode cX4_fewest 116 = .ok (.iinc 4 (-1), 3) := by decide +kernel
theorem dX4_fewest_119 : decode cX4_fewest 119 = .ok (.goto (-109), 3) := by decide +kernel
theorem dX4_fewest_122 : decode cX4_fewest 122 = .ok (.aload_n 0, 1) := by decide +kernel
theorem dX4_fewest_123 : decode cX4_fewest 123 = .ok (.iload_n 3, 1) := by decide +kernel
theorem dX4_fewest_124 : decode cX4_fewest 124 = .ok (.invokevirtual 28, 3) := by decide +kernel
theorem dX4_fewest_127 : decode cX4_fewest 127 = .ok (.ireturn, 1) := by decide +kernel
theorem dX4_walk_0 : decode cX4_walk 0 = .ok (.iconst 1, 1) := by decide +kernel
theorem dX4_walk_1 : decode cX4_walk 1 = .ok (.istore_n 2, 1) := by decide +kernel
theorem dX4_walk_2 : decode cX4_walk 2 = .ok (.iconst 0, 1) := by decide +kernel
theorem dX4_walk_3 : decode cX4_walk 3 = .ok (.istore_n 3, 1) := by decide +kernel
theorem dX4_walk_4 : decode cX4_walk 4 = .ok (.iconst 0, 1) := by decide +kernel
theorem dX4_walk_5 : decode cX4_walk 5 = .ok (.istore 4, 2) := by decide +kernel
theorem dX4_walk_7 : decode cX4_walk 7 = .ok (.iload 4, 2) := by decide +kernel
theorem dX4_walk_9 : decode cX4_walk 9 = .ok (.bipush 8, 2) := by decide +kernel
theorem dX4_walk_11 : decode cX4_walk 11 = .ok (.if_icmp .ge 27, 3) := by decide +kernel
theorem dX4_walk_14 : decode cX4_walk 14 = .ok (.iload_n 3, 1) := by decide +kernel
theorem dX4_walk_15 : decode cX4_walk 15 = .ok (.iload_n 1, 1) := by decide +kernel
theorem dX4_walk_16 : decode cX4_walk 16 = .ok (.if_icmp .ge 22, 3) := by decide +kernel
theorem dX4_walk_19 : decode cX4_walk 19 = .ok (.aload_n 0, 1) := by decide +kernel
theorem dX4_walk_20 : decode cX4_walk 20 = .ok (.getfield 15, 3) := by decide +kernel
theorem dX4_walk_23 : decode cX4_walk 23 = .ok (.iload_n 3, 1) := by decide +kernel
theorem dX4_walk_24 : decode cX4_walk 24 = .ok (.iaload, 1) := by decide +kernel
end
section
/-! the whole system as numbered cells: what a cell is stands in tk_tab; a state is a number for each place of each cell, and the one long -/
abbrev tk_S : Type := (Nat → Nat → Int32) × Int64
abbrev tk_V : Type := Int32 ⊕ (Int64 ⊕ Nat)
abbrev aI (x : Int32) : tk_V := .inl x
abbrev aL (x : Int64) : tk_V := .inr (.inl x)
abbrev aN (k : Nat) : tk_V := .inr (.inr k)
def toV (ad : Nat → Nat) (v : tk_V) : Value := match v with
  | .inl x => .int x
  | .inr (.inl y) => .long y
  | .inr (.inr k) => .ref (ad k)
/-- an object: its class' number, its fields (0: int, 1: the long, 2: the cell so far behind); an array: 0 int, 1 boolean, 2 shapes, 3 int rows; its length; its first child, the step -/
abbrev tk_D : Type := (Nat × List (Nat × Nat)) ⊕ (Nat × Nat × Nat × Nat)
def tk_tab : List tk_D := [
  .inl (7, [(2, 71), (0, 0), (2, 1), (2, 2), (0, 0), (0, 0), (2, 3), (2, 58), (2, 5), (2, 9), (2, 12), (2, 14), (2, 19), (2, 4), (0, 0), (0, 0), (0, 0), (2, 7), (2, 40)]), .inr (0, 8, 0, 0), .inr (0, 8, 0, 0), .inr (0, 12, 0, 0), .inr (0, 12, 0, 0), .inl (2, [(2, 1)]),
  .inr (0, 24, 0, 0), .inl (2, [(2, 1)]), .inr (0, 24, 0, 0), .inl (4, [(2, 1), (2, 2)]), .inr (0, 8, 0, 0), .inr (0, 8, 0, 0),
  .inl (1, [(2, 1), (0, 0)]), .inr (0, 12, 0, 0), .inl (5, [(2, 1), (2, 2), (2, 3), (2, 4), (0, 0)]), .inr (0, 12, 0, 0), .inr (0, 12, 0, 0), .inr (0, 12, 0, 0),
  .inr (0, 12, 0, 0), .inl (6, [(2, 1), (2, 2), (2, 3), (2, 4), (2, 5), (2, 6), (2, 7), (0, 0), (1, 0)]), .inr (0, 4, 0, 0), .inr (0, 4, 0, 0), .inr (0, 12, 0, 0), .inr (0, 4, 0, 0),
  .inr (0, 16, 0, 0), .inr (0, 4, 0, 0), .inr (3, 13, 1, 1), .inr (0, 12, 0, 0), .inr (0, 12, 0, 0), .inr (0, 12, 0, 0),
  .inr (0, 12, 0, 0), .inr (0, 12, 0, 0), .inr (0, 12, 0, 0), .inr (0, 12, 0, 0), .inr (0, 12, 0, 0), .inr (0, 12, 0, 0),
  .inr (0, 12, 0, 0), .inr (0, 12, 0, 0), .inr (0, 12, 0, 0), .inr (0, 12, 0, 0), .inl (0, [(2, 1), (2, 3), (2, 5), (0, 0)]), .inl (2, [(2, 1)]),
  .inr (0, 24, 0, 0), .inl (2, [(2, 1)]), .inr (0, 24, 0, 0), .inr (3, 12, 1, 1), .inr (0, 6, 0, 0), .inr (0, 6, 0, 0),
  .inr (0, 6, 0, 0), .inr (0, 6, 0, 0), .inr (0, 6, 0, 0), .inr (0, 6, 0, 0), .inr (0, 6, 0, 0), .inr (0, 6, 0, 0),
  .inr (0, 6, 0, 0), .inr (0, 6, 0, 0), .inr (0, 6, 0, 0), .inr (0, 6, 0, 0), .inr (3, 12, 1, 1), .inr (0, 12, 0, 0),
  .inr (0, 12, 0, 0), .inr (0, 12, 0, 0), .inr (0, 12, 0, 0), .inr (0, 12, 0, 0), .inr (0, 12, 0, 0), .inr (0, 12, 0, 0),
  .inr (0, 12, 0, 0), .inr (0, 12, 0, 0), .inr (0, 12, 0, 0), .inr (0, 12, 0, 0), .inr (0, 12, 0, 0), .inr (2, 12, 1, 5),
  .inl (3, [(0, 0), (0, 0), (0, 0), (2, 1), (2, 2), (2, 3)]), .inr (0, 8, 0, 0), .inr (0, 8, 0, 0), .inl (2, [(2, 1)]), .inr (0, 24, 0, 0), .inl (3, [(0, 0), (0, 0), (0, 0), (2, 1), (2, 2), (2, 3)]),
  .inr (0, 8, 0, 0), .inr (0, 8, 0, 0), .inl (2, [(2, 1)]), .inr (0, 24, 0, 0), .inl (3, [(0, 0), (0, 0), (0, 0), (2, 1), (2, 2), (2, 3)]), .inr (0, 8, 0, 0),
  .inr (0, 8, 0, 0), .inl (2, [(2, 1)]), .inr (0, 24, 0, 0), .inl (3, [(0, 0), (0, 0), (0, 0), (2, 1), (2, 2), (2, 3)]), .inr (0, 8, 0, 0), .inr (0, 8, 0, 0),
  .inl (2, [(2, 1)]), .inr (0, 24, 0, 0), .inl (3, [(0, 0), (0, 0), (0, 0), (2, 1), (2, 2), (2, 3)]), .inr (0, 8, 0, 0), .inr (0, 8, 0, 0), .inl (2, [(2, 1)]),
  .inr (0, 24, 0, 0), .inl (3, [(0, 0), (0, 0), (0, 0), (2, 1), (2, 2), (2, 3)]), .inr (0, 8, 0, 0), .inr (0, 8, 0, 0), .inl (2, [(2, 1)]), .inr (0, 24, 0, 0),
  .inl (3, [(0, 0), (0, 0), (0, 0), (2, 1), (2, 2), (2, 3)]), .inr (0, 8, 0, 0), .inr (0, 8, 0, 0), .inl (2, [(2, 1)]), .inr (0, 24, 0, 0), .inl (3, [(0, 0), (0, 0), (0, 0), (2, 1), (2, 2), (2, 3)]),
  .inr (0, 8, 0, 0), .inr (0, 8, 0, 0), .inl (2, [(2, 1)]), .inr (0, 24, 0, 0), .inl (3, [(0, 0), (0, 0), (0, 0), (2, 1), (2, 2), (2, 3)]), .inr (0, 8, 0, 0),
  .inr (0, 8, 0, 0), .inl (2, [(2, 1)]), .inr (0, 24, 0, 0), .inl (3, [(0, 0), (0, 0), (0, 0), (2, 1), (2, 2), (2, 3)]), .inr (0, 8, 0, 0), .inr (0, 8, 0, 0),
  .inl (2, [(2, 1)]), .inr (0, 24, 0, 0), .inl (3, [(0, 0), (0, 0), (0, 0), (2, 1), (2, 2), (2, 3)]), .inr (0, 8, 0, 0), .inr (0, 8, 0, 0), .inl (2, [(2, 1)]),
  .inr (0, 24, 0, 0), .inl (3, [(0, 0), (0, 0), (0, 0), (2, 1), (2, 2), (2, 3)]), .inr (0, 8, 0, 0), .inr (0, 8, 0, 0), .inl (2, [(2, 1)]), .inr (0, 24, 0, 0),
  .inl (8, [(0, 0), (0, 0), (0, 0), (2, 1), (2, 2), (2, 3), (2, 4), (2, 5), (2, 6), (2, 7), (2, 8), (2, 9), (2, 10), (2, 11), (2, 12), (2, 13), (2, 14), (2, 15), (2, 16), (2, 17), (0, 0), (0, 0), (2, 18), (2, 19), (2, 20), (0, 0)]), .inr (0, 8, 0, 0), .inr (0, 8, 0, 0), .inr (0, 12, 0, 0), .inr (0, 12, 0, 0), .inr (0, 12, 0, 0),
  .inr (0, 96, 0, 0), .inr (0, 96, 0, 0), .inr (1, 6912, 0, 0), .inr (1, 144, 0, 0), .inr (1, 16, 0, 0), .inr (0, 4, 0, 0),
  .inr (0, 12, 0, 0), .inr (0, 12, 0, 0), .inr (0, 12, 0, 0), .inr (0, 12, 0, 0), .inr (0, 12, 0, 0), .inr (0, 12, 0, 0),
  .inr (1, 576, 0, 0), .inr (0, 576, 0, 0), .inr (0, 576, 0, 0)]
def tk_sh (k : Nat) : tk_D := (tk_tab[k]?).getD (.inr (9, 0, 0, 0))
abbrev tk_ia (n : Nat) : tk_D := .inr (0, n, 0, 0)
abbrev tk_za (n : Nat) : tk_D := .inr (1, n, 0, 0)
abbrev tk_shape : tk_D := .inl (3, [(0, 0), (0, 0), (0, 0), (2, 1), (2, 2), (2, 3)])
abbrev tk_pins : tk_D := .inl (2, [(2, 1)])
theorem tk_big {k : Nat} (h : 153 ≤ k) : tk_sh k = .inr (9, 0, 0, 0) := by
  unfold tk_sh
  rw [List.getElem?_eq_none (by show 153 ≤ k; exact h)]
  rfl
theorem tk_lt {k : Nat} {a : tk_D} (h : tk_sh k = a) (ha : a ≠ .inr (9, 0, 0, 0)) : k < 153 := by
  rcases Nat.lt_or_ge k 153 with q | q
  · exact q
  · exact absurd (h.symm.trans (tk_big q)) ha
theorem tk_lto {k ci : Nat} {fs : List (Nat × Nat)} (h : tk_sh k = .inl (ci, fs)) : k < 153 := tk_lt h (fun q => by cases q)
theorem tk_lti {k n : Nat} (h : tk_sh k = tk_ia n) : k < 153 := tk_lt h (fun q => by cases q)
theorem tk_ltz {k n : Nat} (h : tk_sh k = tk_za n) : k < 153 := tk_lt h (fun q => by cases q)
theorem tk_p1 {k : Nat} (h : tk_sh k = tk_pins) : tk_sh (k + 1) = tk_ia 24 := by
  have : ∀ k, k < 153 → tk_sh k = tk_pins → tk_sh (k + 1) = tk_ia 24 := by decide +kernel
  exact this k (tk_lto h) h
theorem tk_s1 {k : Nat} (h : tk_sh k = tk_shape) : tk_sh (k + 1) = tk_ia 8 := by
  have : ∀ k, k < 153 → tk_sh k = tk_shape → tk_sh (k + 1) = tk_ia 8 := by decide +kernel
  exact this k (tk_lto h) h
theorem tk_s2 {k : Nat} (h : tk_sh k = tk_shape) : tk_sh (k + 2) = tk_ia 8 := by
  have : ∀ k, k < 153 → tk_sh k = tk_shape → tk_sh (k + 2) = tk_ia 8 := by decide +kernel
  exact this k (tk_lto h) h
theorem tk_s3 {k : Nat} (h : tk_sh k = tk_shape) : tk_sh (k + 3) = tk_pins := by
  have : ∀ k, k < 153 → tk_sh k = tk_shape → tk_sh (k + 3) = tk_pins := by decide +kernel
  exact this k (tk_lto h) h
theorem tk_inlt {x : Int32} {n : Nat} (h : vp_in x n) : x.toNatClampNeg < n := Nat.not_le.mp fun q => h (Or.inr q)
theorem tk_r71 {x : Int32} (h : vp_in x 12) : tk_sh (71 + 1 + 5 * x.toNatClampNeg) = tk_shape := by
  have : ∀ i, i < 12 → tk_sh (71 + 1 + 5 * i) = tk_shape := by decide +kernel
  exact this _ (tk_inlt h)
theorem tk_r26 {x : Int32} (h : vp_in x 13) : tk_sh (26 + 1 + 1 * x.toNatClampNeg) = tk_ia 12 := by
  have : ∀ i, i < 13 → tk_sh (26 + 1 + 1 * i) = tk_ia 12 := by decide +kernel
  exact this _ (tk_inlt h)
theorem tk_r45 {x : Int32} (h : vp_in x 12) : tk_sh (45 + 1 + 1 * x.toNatClampNeg) = tk_ia 6 := by
  have : ∀ i, i < 12 → tk_sh (45 + 1 + 1 * i) = tk_ia 6 := by decide +kernel
  exact this _ (tk_inlt h)
theorem tk_r58 {x : Int32} (h : vp_in x 12) : tk_sh (58 + 1 + 1 * x.toNatClampNeg) = tk_ia 12 := by
  have : ∀ i, i < 12 → tk_sh (58 + 1 + 1 * i) = tk_ia 12 := by decide +kernel
  exact this _ (tk_inlt h)
/-- an object's fields as the machine has them -/
def tk_fv (ad : Nat → Nat) (m : Nat → Int32) (g : Int64) (k : Nat) : Nat → List (Nat × Nat) → List Value
  | _, [] => []
  | j, a :: r => (match a.1 with
    | 0 => .int (m j)
    | 1 => .long g
    | _ => .ref (ad (k + a.2))) :: tk_fv ad m g k (j + 1) r
theorem tk_fv_len (ad : Nat → Nat) (m : Nat → Int32) (g : Int64) (k : Nat) : ∀ (j : Nat) (fs : List (Nat × Nat)), (tk_fv ad m g k j fs).length = fs.length
  | _, [] => rfl
  | j, a :: r => by show (tk_fv ad m g k (j + 1) r).length + 1 = r.length + 1; rw [tk_fv_len ad m g k (j + 1) r]
theorem tk_fv_same (ad : Nat → Nat) (m m' : Nat → Int32) (g : Int64) (k : Nat) : ∀ (j : Nat) (fs : List (Nat × Nat)), (∀ i, j ≤ i → m' i = m i) → tk_fv ad m' g k j fs = tk_fv ad m g k j fs
  | _, [], _ => rfl
  | j, a :: r, h => by
    unfold tk_fv
    rw [tk_fv_same ad m m' g k (j + 1) r (fun i hi => h i (by omega)), h j (Nat.le_refl j)]
theorem tk_fv_set (ad : Nat → Nat) (m : Nat → Int32) (g : Int64) (k : Nat) (x : Int32) : ∀ (j n : Nat) (fs : List (Nat × Nat)) (o : Nat), fs[n]? = some (0, o) → (tk_fv ad m g k j fs).set n (.int x) = tk_fv ad (upd m (j + n) x) g k j fs
  | _, _, [], _, h => by simp at h
  | j, 0, a :: r, o, h => by
    have ha : a = (0, o) := by simpa using h
    subst ha
    unfold tk_fv
    rw [tk_fv_same ad m (upd m (j + 0) x) g k (j + 1) r (fun i hi => by unfold upd; rw [if_neg (by omega)])]
    simp [upd]
  | j, n + 1, a :: r, o, h => by
    have h2 : r[n]? = some (0, o) := by simpa using h
    have ih := tk_fv_set ad m g k x (j + 1) n r o h2
    unfold tk_fv
    rw [List.set_cons_succ, ih, show j + 1 + n = j + (n + 1) by omega]
    have e : upd m (j + (n + 1)) x j = m j := by unfold upd; rw [if_neg (by omega)]
    rw [e]
def tk_e (ad : Nat → Nat) (cy : Nat → ClassId) (m : Nat → Int32) (g : Int64) (k : Nat) : va_E := match tk_sh k with
  | .inl (ci, fs) => .inr (ci, tk_fv ad m g k 0 fs)
  | .inr (0, n, _, _) => .inl (cy 0, n, .inl m)
  | .inr (1, n, _, _) => .inl (cy 1, n, .inl m)
  | .inr (t + 2, n, o, d) => .inl (cy (t + 2), n, .inr (.inr (.inr (.inr (fun j => some (ad (k + o + d * j)))))))
def tk_w (ad : Nat → Nat) (cy : Nat → ClassId) (σ : tk_S) : va_W := (List.range 153).map (fun k => (ad k, tk_e ad cy (σ.1 k) σ.2 k))
theorem tk_w_len (ad : Nat → Nat) (cy : Nat → ClassId) (σ : tk_S) : (tk_w ad cy σ).length = 153 := by unfold tk_w; rw [List.length_map, List.length_range]
theorem tk_w_at {ad : Nat → Nat} {cy : Nat → ClassId} {σ : tk_S} {k : Nat} (hk : k < 153) : (tk_w ad cy σ)[k]? = some (ad k, tk_e ad cy (σ.1 k) σ.2 k) := by
  unfold tk_w
  rw [List.getElem?_map, List.getElem?_range hk]
  rfl
theorem tk_w_set {ad : Nat → Nat} {cy : Nat → ClassId} {σ σ' : tk_S} {k : Nat} {e : va_E} (hk : k < 153) (he : tk_e ad cy (σ'.1 k) σ'.2 k = e) (ho : ∀ j, j ≠ k → tk_e ad cy (σ'.1 j) σ'.2 j = tk_e ad cy (σ.1 j) σ.2 j) : (tk_w ad cy σ).set k (ad k, e) = tk_w ad cy σ' := by
  apply List.ext_getElem?
  intro i
  by_cases hi : i < 153
  · rw [tk_w_at hi, List.getElem?_set]
    by_cases hik : k = i
    · subst hik
      rw [if_pos rfl, if_pos (by rw [tk_w_len]; exact hk), he]
    · rw [if_neg hik, tk_w_at hi, ho i (fun h => hik h.symm)]
  · rw [List.getElem?_eq_none (by rw [tk_w_len]; omega), List.getElem?_eq_none (by rw [List.length_set, tk_w_len]; omega)]
theorem tk_D_any {ad : Nat → Nat} {cy : Nat → ClassId} {σ σ' : tk_S} {A : Nat → Prop} (h : va_D A (tk_w ad cy σ)) : va_D A (tk_w ad cy σ') := by
  have key : ∀ (k : Nat) (q : Nat × va_E), (tk_w ad cy σ')[k]? = some q → ∃ q0, (tk_w ad cy σ)[k]? = some q0 ∧ q0.1 = q.1 := by
    intro k q hq
    by_cases hk : k < 153
    · rw [tk_w_at hk] at hq
      cases hq
      exact ⟨_, tk_w_at hk, rfl⟩
    · rw [List.getElem?_eq_none (by rw [tk_w_len]; omega)] at hq
      cases hq
  refine ⟨fun i j x y hi hj hxy => ?_, fun k q hk => ?_⟩
  · obtain ⟨p0, a1, a2⟩ := key i x hi
    obtain ⟨q0, b1, b2⟩ := key j y hj
    exact h.1 i j p0 q0 a1 b1 (by rw [a2, b2, hxy])
  · obtain ⟨q0, a1, a2⟩ := key k q hk
    rw [← a2]
    exact h.2 k q0 a1
/-- one place of one cell is written -/
def tk_up (σ : tk_S) (k j : Nat) (x : Int32) : tk_S := (fun a => if a = k then upd (σ.1 a) j x else σ.1 a, σ.2)
theorem tk_up_1 (σ : tk_S) (k j : Nat) (x : Int32) : (tk_up σ k j x).1 k = upd (σ.1 k) j x := by simp [tk_up]
theorem tk_up_o (σ : tk_S) {k a : Nat} (j : Nat) (x : Int32) (h : a ≠ k) : (tk_up σ k j x).1 a = σ.1 a := by simp [tk_up, h]
theorem tk_eo {ad : Nat → Nat} {cy : Nat → ClassId} {σ : tk_S} {k ci : Nat} {fs : List (Nat × Nat)} (h : tk_sh k = .inl (ci, fs)) : (tk_w ad cy σ)[k]? = some (ad k, .inr (ci, tk_fv ad (σ.1 k) σ.2 k 0 fs)) := by
  rw [tk_w_at (tk_lto h)]
  simp only [tk_e, h]
theorem tk_ei {ad : Nat → Nat} {cy : Nat → ClassId} {σ : tk_S} {k n : Nat} (h : tk_sh k = tk_ia n) : (tk_w ad cy σ)[k]? = some (ad k, .inl (cy 0, n, .inl (σ.1 k))) := by
  rw [tk_w_at (tk_lti h)]
  simp only [tk_e, h]
theorem tk_ez {ad : Nat → Nat} {cy : Nat → ClassId} {σ : tk_S} {k n : Nat} (h : tk_sh k = tk_za n) : (tk_w ad cy σ)[k]? = some (ad k, .inl (cy 1, n, .inl (σ.1 k))) := by
  rw [tk_w_at (tk_ltz h)]
  simp only [tk_e, h]
theorem tk_eq {ad : Nat → Nat} {cy : Nat → ClassId} {σ : tk_S} {k t n o d : Nat} (h : tk_sh k = .inr (t + 2, n, o, d)) (ht : t + 2 ≠ 9) : (tk_w ad cy σ)[k]? = some (ad k, .inl (cy (t + 2), n, .inr (.inr (.inr (.inr (fun j => some (ad (k + o + d * j)))))))) := by
  rw [tk_w_at (tk_lt h (fun q => by injection q with q; injection q with q1 q2; exact ht q1))]
  simp only [tk_e, h]
def tk_ty (cy : Nat → ClassId) : List (ClassId × FieldType) := [(cy 0, .int), (cy 1, .boolean), (cy 2, .object "TouchSheet$Shape"), (cy 3, .array .int)]
def tk_nl : List Cond := [.methodLinkNest "TouchSheet" 36 ⟨"TouchSheet$Pins", "<init>", "()V"⟩ "TouchSheet", .methodLinkNest "TouchSheet" 43 ⟨"TouchSheet$Simpler", "<init>", "()V"⟩ "TouchSheet", .methodLinkNest "TouchSheet" 50 ⟨"TouchSheet$Keeper", "<init>", "()V"⟩ "TouchSheet", .methodLinkNest "TouchSheet" 57 ⟨"TouchSheet$Stacker", "<init>", "()V"⟩ "TouchSheet", .methodLinkNest "TouchSheet" 77 ⟨"TouchSheet$Finger", "<init>", "()V"⟩ "TouchSheet", .methodLinkNest "TouchSheet$Finger" 11 ⟨"TouchSheet$Pins", "<init>", "()V"⟩ "TouchSheet", .methodLinkNest "TouchSheet" 82 ⟨"TouchSheet$Shape", "<init>", "()V"⟩ "TouchSheet", .methodLinkNest "TouchSheet$Shape" 20 ⟨"TouchSheet$Pins", "<init>", "()V"⟩ "TouchSheet", .methodLinkNest "TouchSheet$Pins" 15 ⟨"TouchSheet", "isPin", "(II)Z"⟩ "TouchSheet", .methodLinkNest "TouchSheet$Pins" 19 ⟨"TouchSheet", "has", "(II)Z"⟩ "TouchSheet", .methodLinkNest "TouchSheet$Shape" 35 ⟨"TouchSheet", "has", "(II)Z"⟩ "TouchSheet", .methodLinkNest "TouchSheet$Keeper" 21 ⟨"TouchSheet", "heaviest", "(II[I[I)I"⟩ "TouchSheet", .methodLinkNest "TouchSheet$Stacker" 24 ⟨"TouchSheet", "heaviest", "(II[I[I)I"⟩ "TouchSheet", .methodLinkNest "TouchSheet$Weaver" 52 ⟨"TouchSheet", "has", "(II)Z"⟩ "TouchSheet"]
def tk_nest (U : State) : Prop := ∀ w ∈ tk_nl, va_Nw w U
theorem tk_nl_on : ∀ w ∈ tk_nl, w.onTables = true := by decide +kernel
theorem tk_nest.same {u U : State} (h : u.vm = U.vm) (hn : tk_nest u) : tk_nest U := fun w hw => va_Nw.same (tk_nl_on w hw) h (hn w hw)
theorem tk_nest.warm {s U : State} (hW : s.WarmedH U.vm) (hn : tk_nest s) : tk_nest U := by
  intro w hw
  have h := hn w hw
  unfold tk_nl at hw
  simp only [List.mem_cons, List.not_mem_nil, or_false] at hw
  rcases hw with rfl | rfl | rfl | rfl | rfl | rfl | rfl | rfl | rfl | rfl | rfl | rfl | rfl | rfl <;> exact va_Nw.warmM hW h
def tk_P (D : va_G) (cy : Nat → ClassId) (ad : Nat → Nat) (base : Nat) (σ : tk_S) (U : State) : Prop := va_K D vwCl (tk_ty cy) U ∧ va_P D vwCl (tk_w ad cy σ) U.heap ∧ va_D (fun q => base ≤ q) (tk_w ad cy σ) ∧ base ≤ U.heap.size ∧ tk_nest U
def tk_Q (D : va_G) (cy : Nat → ClassId) (ad : Nat → Nat) (base : Nat) (Q : Option tk_V → tk_S → Prop) : Array Value → State → Outcome → State → Prop := fun _ st oc t => (∃ (r : Option tk_V) (σ : tk_S), oc = .returned (r.map (toV ad)) ∧ Q r σ ∧ va_P D vwCl (tk_w ad cy σ) t.heap) ∧ va_F (fun q => base ≤ q) st t
def tk_rm (d : Nat) : Room := { frames := d, cells := 0, slots := 0, locals := 64 * d }
def tk_Pc (D : va_G) (cy : Nat → ClassId) (ad : Nat → Nat) (base : Nat) (as : List tk_V) (σ : tk_S) : Array Value → State → Prop := fun v U => v = (as.map (toV ad)).toArray ∧ tk_P D cy ad base σ U
/-- what a call promises: with these arguments in this state it returns, with Q -/
def tk_C (y : MethodName) (cc : ByteArray) (nL : Nat) (ret : Option FieldType) (d : Nat) (as : List tk_V) (σ : tk_S) (Q : Option tk_V → tk_S → Prop) : Prop :=
  ∀ (l : Launch) (D : va_G) (cy : Nat → ClassId) (ad : Nat → Nat) (base : Nat), Met l y (Cond.code y cc nL ret :: wsL_law) (tk_rm d) (tk_Pc D cy ad base as σ) (tk_Q D cy ad base Q) 0 0 (fun q => base ≤ q)
def tk_i (Q : Int32 → tk_S → Prop) : Option tk_V → tk_S → Prop := fun r σ => ∃ x, r = some (aI x) ∧ Q x σ
def tk_l (Q : Int64 → tk_S → Prop) : Option tk_V → tk_S → Prop := fun r σ => ∃ x, r = some (aL x) ∧ Q x σ
def tk_v (Q : tk_S → Prop) : Option tk_V → tk_S → Prop := fun r σ => r = none ∧ Q σ
def tk_X (own : String) (cc : ByteArray) (nL : Nat) (ret : Option FieldType) (p : Program) (s : State) (m : MethodId) (args : Array Value) (meth : Method) (c : Code) : Prop :=
  p.tables.exec = Jvm.exec ∧ c.code = cc ∧ c.maxLocals = nL ∧ s.vm.findClass own = some m.cls ∧ (∀ w ∈ wsL_law, w.before args s = true) ∧ meth.sig.returnType = ret ∧ meth.locks = false
def tk_W (D : va_G) (cy : Nat → ClassId) (ad : Nat → Nat) (base : Nat) (σ : tk_S) (s : State) (H : Heap) (locs : List Loc) : Prop :=
  va_K D vwCl (tk_ty cy) s ∧ va_P D vwCl (tk_w ad cy σ) H ∧ va_D (fun q => base ≤ q) (tk_w ad cy σ) ∧ va_S (fun q => base ≤ q) s.heap H locs ∧ base ≤ s.heap.size ∧ tk_nest s
def tk_lv (ad : Nat → Nat) (vals : List (Nat × tk_V)) : List (Nat × Value) := vals.map (fun q => (q.1, toV ad q.2))
/-- the machine inside a method, at pc with these locals, an empty stack, in this state, comes to the method's end, with Q -/
def tk_G (own : String) (cc : ByteArray) (nL : Nat) (ret : Option FieldType) (d pc : Nat) (vals : List (Nat × tk_V)) (σ : tk_S) (Q : Option tk_V → tk_S → Prop) : Prop :=
  ∀ (p : Program) (l : Launch) (e : Env) (s : State) (m : MethodId) (args : Array Value) (below : List Frame) (meth : Method) (c : Code) (D : va_G) (cy : Nat → ClassId) (ad : Nat → Nat) (base : Nat) (H : Heap) (locs : List Loc) (ls : Array Slot),
    tk_X own cc nL ret p s m args meth c → tk_W D cy ad base σ s H locs → lv_has ls nL (tk_lv ad vals) → W p l e (tk_rm d) s m args below meth c H locs 0 0 (MQ below (tk_Q D cy ad base Q) args s 0 0 (fun q => base ≤ q)) (F0 m pc ls [])
theorem tk_entry {y : MethodName} {own : String} {cc : ByteArray} {nL : Nat} {ret : Option FieldType} {d : Nat} {as : List tk_V} {vals : List (Nat × tk_V)} {σ : tk_S} {Q : Option tk_V → tk_S → Prop} (hy : plainName y.cls = true) (ho : y.cls = own) (hn : ∀ ad : Nat → Nat, (lg_sl (as.map (toV ad))).length ≤ nL) (hv : ∀ ad : Nat → Nat, lv_args 0 (as.map (toV ad)) = tk_lv ad vals) (h : tk_G own cc nL ret d 0 vals σ Q) : tk_C y cc nL ret d as σ Q := by
  intro l D cy ad base
  refine Met.ofW (cc := cc) (maxL := nL) (ret := ret) hy rfl ?_
  intro p e s m args below meth c s₁ B hml hv0
  obtain ⟨rfl, hK, hP, hD, hbs, hN⟩ := hv0
  have hts := atoms_spec (ws := Cond.code y cc nL ret :: wsL_law) B.pre
  have hown : s.vm.findClass y.cls = some m.cls := findClass_of_methodNamed B.named
  have hl := lv_entry (as.map (toV ad)) (n := nL) (hn ad)
  rw [hv ad] at hl
  rw [lg_entry_eq]
  subst ho
  exact h p l e s m _ below meth c D cy ad base s.heap [] _ ⟨B.exec, B.bytes, hml, hown, fun w hw => hts w (List.mem_cons_of_mem _ hw), B.returns, B.notSynchronized⟩ ⟨hK, hP, hD, va_S.rf, hbs, hN⟩ hl
theorem tk_good : wsL_law.all goodWord = true := by decide +kernel
theorem tk_gin {y : MethodName} {cc : ByteArray} {nL : Nat} {ret : Option FieldType} (h : Cond.code y cc nL ret ∈ wsL_law) : GoodIn wsL_law (Cond.code y cc nL ret :: wsL_law) := by
  intro w hw
  have hm : w ∈ wsL_law := by
    rcases List.mem_cons.mp hw with rfl | q
    · exact h
    · exact q
  exact ⟨hm, good_of_word (List.all_eq_true.mp tk_good w hm)⟩
theorem tk_blind {D : va_G} {cy : Nat → ClassId} {ad : Nat → Nat} {base : Nat} {as : List tk_V} {σ : tk_S} : FrameBlind (tk_Pc D cy ad base as σ) := by
  intro a U g mk q
  obtain ⟨q0, qK, qP, qD, qb, qN⟩ := q
  exact ⟨q0, va_K.moved (u := U) (U := U.calling g mk a) (Vm.Alike.refl U.vm) qK, qP, qD, qb, tk_nest.same (u := U) (U := U.calling g mk a) rfl qN⟩
section TK
variable {p : Program} {l : Launch} {e : Env} {R : Room} {s : State} {m : MethodId} {args : Array Value} {below : List Frame} {meth : Method} {c : Code} {H : Heap} {locs : List Loc} {cells slots : Nat} {Z : State → Prop}
variable {cc : ByteArray} {pc : Nat} {ls : Array Slot} {rest st0 : List Value} {D : va_G} {cy : Nat → ClassId} {ad : Nat → Nat} {base : Nat} {σ : tk_S}
theorem tk_pre {as : List tk_V} (w : tk_W D cy ad base σ s H locs) (U : State) (hU : U.heap = H) (hW : s.WarmedH U.vm) : tk_Pc D cy ad base as σ (as.map (toV ad)).toArray U :=
  ⟨rfl, va_K.moved hW.alike w.1, by rw [hU]; exact w.2.1, w.2.2.1, by rw [hU]; exact Nat.le_trans w.2.2.2.2.1 w.2.2.2.1.1, tk_nest.warm hW w.2.2.2.2.2⟩
theorem tk_get (hx : p.tables.exec = Jvm.exec) (hb : c.code = cc) (hts : ∀ w ∈ wsL_law, w.before args s = true) {own : String} (hown : s.vm.findClass own = some m.cls) (w : tk_W D cy ad base σ s H locs) {k ci : Nat} {fs : List (Nat × Nat)} (hs : tk_sh k = .inl (ci, fs)) {Cn : String} {T : u_T} {N : Nat} (hc : vwCl[ci]? = some (Cn, T, N)) (hin : ∀ w ∈ u_ws Cn T N, w ∈ wsL_law) (j : Nat) (hj : j < N) {index : Nat} (hlink : Cond.fieldLink own index (T j).1 (T j).2.1 (T j).2.2.1 ∈ wsL_law) {v : Value} (hv : (tk_fv ad (σ.1 k) σ.2 k 0 fs)[j]? = some v) (hdg : decode cc pc = .ok (.getfield index, 3))
    (kk : W p l e R s m args below meth c H locs cells slots Z (F0 m (pc + 3) ls (v :: rest))) : W p l e R s m args below meth c H locs cells slots Z (F0 m pc ls (.ref (ad k) :: rest)) :=
  va_get hx hb hts hin hown w.1 w.2.1 k (tk_eo hs) hc j hj (hts _ hlink) (fun _ h => h) hv hdg kk
theorem tk_puti (hx : p.tables.exec = Jvm.exec) (hb : c.code = cc) (hts : ∀ w ∈ wsL_law, w.before args s = true) {own : String} (hown : s.vm.findClass own = some m.cls) (w : tk_W D cy ad base σ s H locs) {k ci : Nat} {fs : List (Nat × Nat)} (hs : tk_sh k = .inl (ci, fs)) {Cn : String} {T : u_T} {N : Nat} (hc : vwCl[ci]? = some (Cn, T, N)) (hin : ∀ w ∈ u_ws Cn T N, w ∈ wsL_law) (ty0 : Nat → FieldType) (hty : ∀ k, k < N → parseFieldDescriptor (T k).2.2.1 = some (ty0 k)) (hnm : ∀ a, a < N → ∀ b, b < N → a ≠ b → (T a).2.1 ≠ (T b).2.1) (j : Nat) (hj : j < N) {index : Nat} (hlink : Cond.fieldLink own index (T j).1 (T j).2.1 (T j).2.2.1 ∈ wsL_law) (hfin : (T j).2.2.2 = false) {o : Nat} (hf : fs[j]? = some (0, o)) {ty : FieldType} {x : Int32} (hd : parseFieldDescriptor (T j).2.2.1 = some ty) (hn : narrow ty (.int x) = .int x) (hfit : fits ty (.int x) = true) (hdg : decode cc pc = .ok (.putfield index, 3))
    (kk : ∀ (H1 : Heap) (locs1 : List Loc), tk_W D cy ad base (tk_up σ k j x) s H1 locs1 → W p l e R s m args below meth c H1 locs1 cells slots Z (F0 m (pc + 3) ls rest)) : W p l e R s m args below meth c H locs cells slots Z (F0 m pc ls (.int x :: .ref (ad k) :: rest)) := by
  refine va_put hx hb hts hin ty0 hty hnm hown w.1 w.2.1 w.2.2.1 w.2.2.2.1 k (tk_eo hs) hc j hj (hts _ hlink) (fun _ h => h) hfin hd hn hfit (by rw [tk_fv_len]; exact (List.getElem?_eq_some_iff.mp hf).1) hdg (fun H1 locs1 hP _ hS => kk H1 locs1 ⟨w.1, ?_, tk_D_any w.2.2.1, hS, w.2.2.2.2.1, w.2.2.2.2.2⟩)
  rw [tk_w_set (σ' := tk_up σ k j x) (tk_lto hs) (by
    simp only [tk_e, hs, tk_up_1]
    rw [tk_fv_set ad (σ.1 k) σ.2 k x 0 j fs o hf, Nat.zero_add]
    rfl) (fun a ha => by rw [tk_up_o σ j x ha]; rfl)] at hP
  exact hP
theorem tk_nolong : ∀ k, k < 153 → k ≠ 19 → (match tk_sh k with | .inl (_, fs) => fs.all (fun a => a.1 != 1) | .inr _ => true) = true := by decide +kernel
theorem tk_fv_nol (ad : Nat → Nat) (m : Nat → Int32) (g g' : Int64) (k : Nat) : ∀ (j : Nat) (fs : List (Nat × Nat)), fs.all (fun a => a.1 != 1) = true → tk_fv ad m g' k j fs = tk_fv ad m g k j fs
  | _, [], _ => rfl
  | j, a :: r, h => by
    rw [List.all_cons, Bool.and_eq_true] at h
    unfold tk_fv
    rw [tk_fv_nol ad m g g' k (j + 1) r h.2]
    obtain ⟨a1, a2⟩ := a
    match a1, h.1 with
    | 0, _ => rfl
    | 1, h1 => simp at h1
    | n + 2, _ => rfl
theorem tk_e_nol {ad : Nat → Nat} {cy : Nat → ClassId} {m : Nat → Int32} {g g' : Int64} {k : Nat} (h : k ≠ 19) : tk_e ad cy m g' k = tk_e ad cy m g k := by
  by_cases hk : k < 153
  · have h1 := tk_nolong k hk h
    unfold tk_e
    cases e : tk_sh k with
    | inl q =>
      obtain ⟨ci, fs⟩ := q
      rw [e] at h1
      simp only
      rw [tk_fv_nol ad m g g' k 0 fs h1]
    | inr q =>
      obtain ⟨t, n, o, d⟩ := q
      match t with
      | 0 => rfl
      | 1 => rfl
      | t + 2 => rfl
  · unfold tk_e
    rw [tk_big (Nat.not_lt.mp hk)]
theorem tk_putl (hx : p.tables.exec = Jvm.exec) (hb : c.code = cc) (hts : ∀ w ∈ wsL_law, w.before args s = true) {own : String} (hown : s.vm.findClass own = some m.cls) (w : tk_W D cy ad base σ s H locs) {ci : Nat} {fs : List (Nat × Nat)} (hs : tk_sh 19 = .inl (ci, fs)) {Cn : String} {T : u_T} {N : Nat} (hc : vwCl[ci]? = some (Cn, T, N)) (hin : ∀ w ∈ u_ws Cn T N, w ∈ wsL_law) (ty0 : Nat → FieldType) (hty : ∀ k, k < N → parseFieldDescriptor (T k).2.2.1 = some (ty0 k)) (hnm : ∀ a, a < N → ∀ b, b < N → a ≠ b → (T a).2.1 ≠ (T b).2.1) (j : Nat) (hj : j < N) {index : Nat} (hlink : Cond.fieldLink own index (T j).1 (T j).2.1 (T j).2.2.1 ∈ wsL_law) (hfin : (T j).2.2.2 = false) (hd : parseFieldDescriptor (T j).2.2.1 = some .long) {x : Int64} (hset : ∀ (ad : Nat → Nat) (m : Nat → Int32) (g : Int64), (tk_fv ad m g 19 0 fs).set j (.long x) = tk_fv ad m x 19 0 fs) (hlen : j < fs.length) (hdg : decode cc pc = .ok (.putfield index, 3))
    (kk : ∀ (H1 : Heap) (locs1 : List Loc), tk_W D cy ad base (σ.1, x) s H1 locs1 → W p l e R s m args below meth c H1 locs1 cells slots Z (F0 m (pc + 3) ls rest)) : W p l e R s m args below meth c H locs cells slots Z (F0 m pc ls (.long x :: .ref (ad 19) :: rest)) := by
  refine va_put hx hb hts hin ty0 hty hnm hown w.1 w.2.1 w.2.2.1 w.2.2.2.1 19 (tk_eo hs) hc j hj (hts _ hlink) (fun _ h => h) hfin hd rfl rfl (by rw [tk_fv_len]; exact hlen) hdg (fun H1 locs1 hP _ hS => kk H1 locs1 ⟨w.1, ?_, tk_D_any w.2.2.1, hS, w.2.2.2.2.1, w.2.2.2.2.2⟩)
  rw [tk_w_set (σ' := (σ.1, x)) (tk_lto hs) (by
    simp only [tk_e, hs]
    rw [hset]) (fun a ha => tk_e_nol ha)] at hP
  exact hP
theorem tk_iald (hx : p.tables.exec = Jvm.exec) (hb : c.code = cc) (w : tk_W D cy ad base σ s H locs) {k n : Nat} (hs : tk_sh k = tk_ia n) {i : Int32} (hin : vp_in i n) (hdg : decode cc pc = .ok (.iaload, 1))
    (kk : W p l e R s m args below meth c H locs cells slots Z (F0 m (pc + 1) ls (.int (σ.1 k i.toNatClampNeg) :: rest))) : W p l e R s m args below meth c H locs cells slots Z (F0 m pc ls (.int i :: .ref (ad k) :: rest)) :=
  va_iald hx hb w.1 w.2.1 k 0 (tk_ei hs) rfl hin hdg kk
theorem tk_zald (hx : p.tables.exec = Jvm.exec) (hb : c.code = cc) (w : tk_W D cy ad base σ s H locs) {k n : Nat} (hs : tk_sh k = tk_za n) {i : Int32} (hin : vp_in i n) (hdg : decode cc pc = .ok (.baload, 1))
    (kk : W p l e R s m args below meth c H locs cells slots Z (F0 m (pc + 1) ls (.int (σ.1 k i.toNatClampNeg) :: rest))) : W p l e R s m args below meth c H locs cells slots Z (F0 m pc ls (.int i :: .ref (ad k) :: rest)) :=
  va_zald hx hb w.1 w.2.1 k 1 (tk_ez hs) rfl hin hdg kk
theorem tk_aald (hx : p.tables.exec = Jvm.exec) (hb : c.code = cc) (w : tk_W D cy ad base σ s H locs) {k t n o d : Nat} (hs : tk_sh k = .inr (t + 2, n, o, d)) (h9 : t + 2 ≠ 9) {ty : FieldType} (ht : (tk_ty cy)[t + 2]? = some (cy (t + 2), ty)) (href : ty.isReference = true) {i : Int32} (hin : vp_in i n) (hdg : decode cc pc = .ok (.aaload, 1))
    (kk : W p l e R s m args below meth c H locs cells slots Z (F0 m (pc + 1) ls (.ref (ad (k + o + d * i.toNatClampNeg)) :: rest))) : W p l e R s m args below meth c H locs cells slots Z (F0 m pc ls (.int i :: .ref (ad k) :: rest)) := by
  have hlt : i.toNatClampNeg < n := tk_inlt hin
  exact W.aald (v := .ref (ad (k + o + d * i.toNatClampNeg))) (ty := ty) hx hb (w.2.1 k _ (tk_eq hs h9)) ((w.1.2 (t + 2) _ ht).1 n (fun j => va_rf (some (ad (k + o + d * j))))) href (fun q => by cases q) (by show ¬ (i < 0 ∨ (arrV _ _ _).slots.size ≤ _); rw [arrV_size]; exact hin) (by show (arrV _ _ _).slots[_]? = _; rw [arrV_read _ _ hlt]; rfl) rfl rfl hdg kk
theorem tk_iast (hx : p.tables.exec = Jvm.exec) (hb : c.code = cc) (w : tk_W D cy ad base σ s H locs) {k n : Nat} (hs : tk_sh k = tk_ia n) {i x : Int32} (hin : vp_in i n) (hdg : decode cc pc = .ok (.iastore, 1))
    (kk : ∀ (H1 : Heap) (locs1 : List Loc), tk_W D cy ad base (tk_up σ k i.toNatClampNeg x) s H1 locs1 → W p l e R s m args below meth c H1 locs1 cells slots Z (F0 m (pc + 1) ls rest)) : W p l e R s m args below meth c H locs cells slots Z (F0 m pc ls (.int x :: .int i :: .ref (ad k) :: rest)) := by
  refine va_iast hx hb w.1 w.2.1 w.2.2.1 w.2.2.2.1 k 0 (tk_ei hs) rfl hin hdg (fun H1 locs1 hP _ hS => kk H1 locs1 ⟨w.1, ?_, tk_D_any w.2.2.1, hS, w.2.2.2.2.1, w.2.2.2.2.2⟩)
  rw [tk_w_set (σ' := tk_up σ k i.toNatClampNeg x) (tk_lti hs) (by simp only [tk_e, hs, tk_up_1]) (fun a ha => by rw [tk_up_o σ _ x ha]; rfl)] at hP
  exact hP
theorem tk_zast (hx : p.tables.exec = Jvm.exec) (hb : c.code = cc) (w : tk_W D cy ad base σ s H locs) {k n : Nat} (hs : tk_sh k = tk_za n) {i x : Int32} (hin : vp_in i n) (hxx : vp_nar .boolean x = x) (hdg : decode cc pc = .ok (.bastore, 1))
    (kk : ∀ (H1 : Heap) (locs1 : List Loc), tk_W D cy ad base (tk_up σ k i.toNatClampNeg x) s H1 locs1 → W p l e R s m args below meth c H1 locs1 cells slots Z (F0 m (pc + 1) ls rest)) : W p l e R s m args below meth c H locs cells slots Z (F0 m pc ls (.int x :: .int i :: .ref (ad k) :: rest)) := by
  refine va_zast hx hb w.1 w.2.1 w.2.2.1 w.2.2.2.1 k 1 (tk_ez hs) rfl hin hdg (fun H1 locs1 hP _ hS => kk H1 locs1 ⟨w.1, ?_, tk_D_any w.2.2.1, hS, w.2.2.2.2.1, w.2.2.2.2.2⟩)
  rw [hxx] at hP
  rw [tk_w_set (σ' := tk_up σ k i.toNatClampNeg x) (tk_ltz hs) (by simp only [tk_e, hs, tk_up_1]) (fun a ha => by rw [tk_up_o σ _ x ha]; rfl)] at hP
  exact hP
theorem tk_after {Q' : Option tk_V → tk_S → Prop} {a : Array Value} (w : tk_W D cy ad base σ s H locs) (hr : va_Run p l e R s m args below meth c H locs cells slots 0 0 (F0 m pc ls st0) rest (tk_Q D cy ad base Q' a) (fun q => base ≤ q))
    (kk : ∀ (r : Option tk_V) (σ1 : tk_S) (H1 : Heap) (locs1 : List Loc), Q' r σ1 → tk_W D cy ad base σ1 s H1 locs1 → W p l e R s m args below meth c H1 locs1 cells slots Z (F0 m (pc + 3) ls ((r.map (toV ad)).toList ++ rest))) : W p l e R s m args below meth c H locs cells slots Z (F0 m pc ls st0) := by
  intro T hT X
  obtain ⟨v, st₀, t, T', L, h0, X', hL, e1, e2, ⟨⟨r, σ1, hv, hq, hP1⟩, hz, hk⟩, st⟩ := hr T hT X
  cases hv
  rw [h0] at hz hk
  have hS := w.2.2.2.1
  obtain ⟨t2, a1, b1⟩ := kk r σ1 T'.heap (locs ++ L) hq ⟨w.1, by rw [e1]; exact hP1, tk_D_any w.2.2.1, ⟨Nat.le_trans hS.1 (by rw [e1]; exact hz), fun q h1 h2 => by rw [e1, hk q (Nat.lt_of_lt_of_le h1 hS.1) h2]; exact hS.2.1 q h1 h2, fun q hq => by
      rcases List.mem_append.mp hq with h | h
      · exact hS.2.2 q h
      · exact hL q h⟩, w.2.2.2.2.1, w.2.2.2.2.2⟩ T' rfl X'
  exact ⟨t2, st t2 a1, b1⟩
theorem tk_cb {d : Nat} (hts : ∀ w ∈ wsL_law, w.before args s = true) {own : String} {y : MethodName} {bytes : ByteArray} {maxL n index : Nat} {ret : Option FieldType} (hcode : Cond.code y bytes maxL ret ∈ wsL_law) (hini : Cond.initialized y.cls ∈ wsL_law) (hl : Cond.methodLink own index y ∈ wsL_law) (hd : y.cls ≠ "java/lang/invoke/MethodHandle" ∧ y.cls ≠ "java/lang/invoke/VarHandle" ∧ (parseMethodDescriptor y.desc).map (fun d => d.parameters.length) = some n) (hmx : maxL ≤ 45) : CallB (tk_rm (d + 1)) s args own index y bytes maxL ret (Cond.code y bytes maxL ret :: wsL_law) (tk_rm d) 0 0 n :=
  callB_of n hts (tk_gin hcode) rfl rfl rfl (hts _ hini) (hts _ hl) hd ⟨Nat.le_refl _, by show 8 + (maxL + 11) + 64 * d ≤ 64 * (d + 1); omega⟩
theorem tk_cS {d nL0 : Nat} {own : String} {ret0 : Option FieldType} (Xc : tk_X own cc nL0 ret0 p s m args meth c) (w : tk_W D cy ad base σ s H locs) {y : MethodName} {bytes : ByteArray} {maxL index : Nat} {ret : Option FieldType} {as : List tk_V} {Q' : Option tk_V → tk_S → Prop} (hcode : Cond.code y bytes maxL ret ∈ wsL_law) (hini : Cond.initialized y.cls ∈ wsL_law) (hl : Cond.methodLink own index y ∈ wsL_law) (hst : Cond.static y ∈ wsL_law) (hd : y.cls ≠ "java/lang/invoke/MethodHandle" ∧ y.cls ≠ "java/lang/invoke/VarHandle" ∧ (parseMethodDescriptor y.desc).map (fun d => d.parameters.length) = some as.length) (hmx : maxL ≤ 45) (hsz : ls.size = nL0) (hrest : (rest.map fun v => v.category).sum ≤ 8) (hstk : st0 = (as.map (toV ad)).reverse ++ rest) (hdg : decode cc pc = .ok (.invokestatic index, 3)) (hC : tk_C y bytes maxL ret d as σ Q')
    (kk : ∀ (r : Option tk_V) (σ1 : tk_S) (H1 : Heap) (locs1 : List Loc), Q' r σ1 → tk_W D cy ad base σ1 s H1 locs1 → W p l e (tk_rm (d + 1)) s m args below meth c H1 locs1 0 0 Z (F0 m (pc + 3) ls ((r.map (toV ad)).toList ++ rest))) : W p l e (tk_rm (d + 1)) s m args below meth c H locs 0 0 Z (F0 m pc ls st0) := by
  obtain ⟨hx, hb, hml, hown, hts, -, -⟩ := Xc
  exact tk_after w (va_runS (As := as.map (toV ad)) ⟨hx, hb, hml, hown, hts⟩ (hC l D cy ad base) ⟨tk_cb hts hcode hini hl hd hmx, hts _ hst⟩ ⟨tk_blind, fun U hU hW => tk_pre w U hU hW⟩ rfl (List.length_map ..) hsz hstk (lv_room hrest) hdg ⟨Nat.le_refl _, Nat.le_refl _⟩) kk
theorem tk_cSN {d nL0 : Nat} {own host : String} {ret0 : Option FieldType} (Xc : tk_X own cc nL0 ret0 p s m args meth c) (w : tk_W D cy ad base σ s H locs) {y : MethodName} {bytes : ByteArray} {maxL index : Nat} {ret : Option FieldType} {as : List tk_V} {Q' : Option tk_V → tk_S → Prop} (hcode : Cond.code y bytes maxL ret ∈ wsL_law) (hini : Cond.initialized y.cls ∈ wsL_law) (hl : Cond.methodLinkNest own index y host ∈ tk_nl) (hst : Cond.static y ∈ wsL_law) (hd : y.cls ≠ "java/lang/invoke/MethodHandle" ∧ y.cls ≠ "java/lang/invoke/VarHandle" ∧ (parseMethodDescriptor y.desc).map (fun d => d.parameters.length) = some as.length) (hmx : maxL ≤ 45) (hsz : ls.size = nL0) (hrest : (rest.map fun v => v.category).sum ≤ 8) (hstk : st0 = (as.map (toV ad)).reverse ++ rest) (hdg : decode cc pc = .ok (.invokestatic index, 3)) (hC : tk_C y bytes maxL ret d as σ Q')
    (kk : ∀ (r : Option tk_V) (σ1 : tk_S) (H1 : Heap) (locs1 : List Loc), Q' r σ1 → tk_W D cy ad base σ1 s H1 locs1 → W p l e (tk_rm (d + 1)) s m args below meth c H1 locs1 0 0 Z (F0 m (pc + 3) ls ((r.map (toV ad)).toList ++ rest))) : W p l e (tk_rm (d + 1)) s m args below meth c H locs 0 0 Z (F0 m pc ls st0) := by
  obtain ⟨hx, hb, hml, hown, hts, -, -⟩ := Xc
  exact tk_after w (va_runSN (As := as.map (toV ad)) ⟨hx, hb, hml, hown, hts⟩ (hC l D cy ad base) ⟨va_cnB as.length hts (tk_gin hcode) rfl rfl rfl (w.2.2.2.2.2 _ hl) (hts _ hini) hd ⟨Nat.le_refl _, by show 8 + (maxL + 11) + 64 * d ≤ 64 * (d + 1); omega⟩, hts _ hst, trivial⟩ ⟨tk_blind, fun U hU hW => tk_pre w U hU hW⟩ rfl (List.length_map ..) hsz hstk (lv_room hrest) hdg ⟨Nat.le_refl _, Nat.le_refl _⟩) kk
theorem tk_cV {d nL0 : Nat} {own : String} {ret0 : Option FieldType} (Xc : tk_X own cc nL0 ret0 p s m args meth c) (w : tk_W D cy ad base σ s H locs) {y : MethodName} {bytes : ByteArray} {maxL index : Nat} {ret : Option FieldType} {k ci : Nat} {fs : List (Nat × Nat)} (hs : tk_sh k = .inl (ci, fs)) {T : u_T} {N : Nat} (hc : vwCl[ci]? = some (y.cls, T, N)) {as : List tk_V} {Q' : Option tk_V → tk_S → Prop} (hcode : Cond.code y bytes maxL ret ∈ wsL_law) (hini : Cond.initialized y.cls ∈ wsL_law) (hl : Cond.methodLink own index y ∈ wsL_law) (hst : Cond.instanceMethod y ∈ wsL_law) (hse : Cond.selects y.cls y y ∈ wsL_law) (hd : y.cls ≠ "java/lang/invoke/MethodHandle" ∧ y.cls ≠ "java/lang/invoke/VarHandle" ∧ (parseMethodDescriptor y.desc).map (fun d => d.parameters.length) = some as.length) (hmx : maxL ≤ 45) (hsz : ls.size = nL0) (hrest : (rest.map fun v => v.category).sum ≤ 8) (hstk : st0 = (as.map (toV ad)).reverse ++ .ref (ad k) :: rest) (hdg : decode cc pc = .ok (.invokevirtual index, 3)) (hC : tk_C y bytes maxL ret d (aN k :: as) σ Q')
    (kk : ∀ (r : Option tk_V) (σ1 : tk_S) (H1 : Heap) (locs1 : List Loc), Q' r σ1 → tk_W D cy ad base σ1 s H1 locs1 → W p l e (tk_rm (d + 1)) s m args below meth c H1 locs1 0 0 Z (F0 m (pc + 3) ls ((r.map (toV ad)).toList ++ rest))) : W p l e (tk_rm (d + 1)) s m args below meth c H locs 0 0 Z (F0 m pc ls st0) := by
  obtain ⟨hx, hb, hml, hown, hts, -, -⟩ := Xc
  exact tk_after w (va_runV (As := as.map (toV ad)) (b := ad k) (C := y.cls) ⟨hx, hb, hml, hown, hts⟩ (hC l D cy ad base) ⟨tk_cb hts hcode hini hl hd hmx, hts _ hst, hts _ hse⟩ ⟨tk_blind, va_recv w.1 w.2.1 hc (tk_eo hs), fun U hU hW => tk_pre (as := aN k :: as) w U hU hW⟩ rfl (List.length_map ..) hsz hstk (lv_room hrest) hdg ⟨Nat.le_refl _, Nat.le_refl _⟩) kk
theorem tk_reti {own : String} {nL : Nat} {d : Nat} {Q : Int32 → tk_S → Prop} (Xc : tk_X own cc nL (some .int) p s m args meth c) (w : tk_W D cy ad base σ s H locs) {x : Int32} (hdg : decode cc pc = .ok (.ireturn, 1)) (hq : Q x σ) : W p l e (tk_rm d) s m args below meth c H locs 0 0 (MQ below (tk_Q D cy ad base (tk_i Q)) args s 0 0 (fun q => base ≤ q)) (F0 m pc ls [.int x]) := by
  obtain ⟨hx, hb, -, -, -, hr, hlk⟩ := Xc
  exact W.iret hx hb hr (fun t ht hW => ⟨⟨some (aI x), σ, rfl, ⟨x, rfl, hq⟩, by rw [ht]; exact w.2.1⟩, w.2.2.2.1.F ht⟩) w.2.2.2.1.2.2 hdg hlk
theorem tk_retz {own : String} {nL : Nat} {d : Nat} {Q : Int32 → tk_S → Prop} (Xc : tk_X own cc nL (some .boolean) p s m args meth c) (w : tk_W D cy ad base σ s H locs) {x : Int32} (hdg : decode cc pc = .ok (.ireturn, 1)) (hn : narrow .boolean (.int x) = .int x) (hq : Q x σ) : W p l e (tk_rm d) s m args below meth c H locs 0 0 (MQ below (tk_Q D cy ad base (tk_i Q)) args s 0 0 (fun q => base ≤ q)) (F0 m pc ls [.int x]) := by
  obtain ⟨hx, hb, -, -, -, hr, hlk⟩ := Xc
  exact W.zret hx hb hr hn (fun t ht hW => ⟨⟨some (aI x), σ, rfl, ⟨x, rfl, hq⟩, by rw [ht]; exact w.2.1⟩, w.2.2.2.1.F ht⟩) w.2.2.2.1.2.2 hdg hlk
theorem tk_retl {own : String} {nL : Nat} {d : Nat} {Q : Int64 → tk_S → Prop} (Xc : tk_X own cc nL (some .long) p s m args meth c) (w : tk_W D cy ad base σ s H locs) {x : Int64} (hdg : decode cc pc = .ok (.lreturn, 1)) (hq : Q x σ) : W p l e (tk_rm d) s m args below meth c H locs 0 0 (MQ below (tk_Q D cy ad base (tk_l Q)) args s 0 0 (fun q => base ≤ q)) (F0 m pc ls [.long x]) := by
  obtain ⟨hx, hb, -, -, -, hr, hlk⟩ := Xc
  exact W.lret hx hb hr (fun t ht hW => ⟨⟨some (aL x), σ, rfl, ⟨x, rfl, hq⟩, by rw [ht]; exact w.2.1⟩, w.2.2.2.1.F ht⟩) w.2.2.2.1.2.2 hdg hlk
theorem tk_retv {own : String} {nL : Nat} {d : Nat} {Q : tk_S → Prop} (Xc : tk_X own cc nL none p s m args meth c) (w : tk_W D cy ad base σ s H locs) (hdg : decode cc pc = .ok (.return_, 1)) (hq : Q σ) : W p l e (tk_rm d) s m args below meth c H locs 0 0 (MQ below (tk_Q D cy ad base (tk_v Q)) args s 0 0 (fun q => base ≤ q)) (F0 m pc ls []) := by
  obtain ⟨hx, hb, -, -, -, hr, hlk⟩ := Xc
  exact W.vret hx hb hr (fun t ht hW => ⟨⟨none, σ, rfl, ⟨rfl, hq⟩, by rw [ht]; exact w.2.1⟩, w.2.2.2.1.F ht⟩) w.2.2.2.1.2.2 hdg hlk
end TK
/-- more is promised than is asked -/
theorem tk_C_mono {y : MethodName} {cc : ByteArray} {nL : Nat} {ret : Option FieldType} {d : Nat} {as : List tk_V} {σ : tk_S} {Q Q' : Option tk_V → tk_S → Prop} (h : tk_C y cc nL ret d as σ Q) (hq : ∀ r σ1, Q r σ1 → Q' r σ1) : tk_C y cc nL ret d as σ Q' := by
  intro l D cy ad base p e ha hc hk s m args below hf happ hP hT
  obtain ⟨k, o, h1, h2, h3, ⟨⟨r, σ1, e1, e2, e3⟩, hF⟩, hL⟩ := h l D cy ad base p e ha hc hk s m args below hf happ hP hT
  exact ⟨k, o, h1, h2, h3, ⟨⟨r, σ1, e1, hq r σ1 e2, e3⟩, hF⟩, hL⟩
end

section
-- ===== PART A: goes FIRST, ahead of the names: the tables' words, and 'selects' of the private methods out of them =====
/-- a private method of a class that the tables say can be made, by its rows of tables_1 -/
def lw_okq (q : MethodName × Nat) : Prop := (q.1.cls ≠ "java/lang/invoke/MethodHandle" ∧ q.1.cls ≠ "java/lang/invoke/VarHandle") ∧ Cond.instantiable q.1.cls q.2 ∈ tables_1 ∧ Cond.privateMethod q.1 ∈ tables_1 ∧ Cond.instanceMethod q.1 ∈ tables_1
theorem lw_p0 : lw_okq (⟨"FlagChamber$Graph", "arrange", "()V"⟩, 2) := ⟨⟨by decide +kernel, by decide +kernel⟩, List.mem_of_getElem? (i := 64) (by decide +kernel), List.mem_of_getElem? (i := 70) (by decide +kernel), List.mem_of_getElem? (i := 71) (by decide +kernel)⟩
theorem lw_p1 : lw_okq (⟨"FlagChamber$Past", "forgetTrial", "(I)V"⟩, 5) := ⟨⟨by decide +kernel, by decide +kernel⟩, List.mem_of_getElem? (i := 202) (by decide +kernel), List.mem_of_getElem? (i := 213) (by decide +kernel), List.mem_of_getElem? (i := 214) (by decide +kernel)⟩
theorem lw_p2 : lw_okq (⟨"java/lang/Throwable", "fillInStackTrace", "(I)Ljava/lang/Throwable;"⟩, 6) := ⟨⟨by decide +kernel, by decide +kernel⟩, List.mem_of_getElem? (i := 367) (by decide +kernel), List.mem_of_getElem? (i := 365) (by decide +kernel), List.mem_of_getElem? (i := 366) (by decide +kernel)⟩
theorem lw_p3 : lw_okq (⟨"FlagChamber$Evaluator", "beginExpression", "()V"⟩, 4) := ⟨⟨by decide +kernel, by decide +kernel⟩, List.mem_of_getElem? (i := 109) (by decide +kernel), List.mem_of_getElem? (i := 408) (by decide +kernel), List.mem_of_getElem? (i := 409) (by decide +kernel)⟩
theorem lw_p4 : lw_okq (⟨"FlagChamber$Evaluator", "readSign", "(LFlagChamber$Text;ILFlagChamber$People;[I)V"⟩, 4) := ⟨⟨by decide +kernel, by decide +kernel⟩, List.mem_of_getElem? (i := 109) (by decide +kernel), List.mem_of_getElem? (i := 413) (by decide +kernel), List.mem_of_getElem? (i := 414) (by decide +kernel)⟩
theorem lw_p5 : lw_okq (⟨"FlagChamber$Evaluator", "addFactor", "(I)V"⟩, 4) := ⟨⟨by decide +kernel, by decide +kernel⟩, List.mem_of_getElem? (i := 109) (by decide +kernel), List.mem_of_getElem? (i := 421) (by decide +kernel), List.mem_of_getElem? (i := 422) (by decide +kernel)⟩
theorem lw_p6 : lw_okq (⟨"FlagChamber$Evaluator", "whoIsIn", "(I[I)I"⟩, 4) := ⟨⟨by decide +kernel, by decide +kernel⟩, List.mem_of_getElem? (i := 109) (by decide +kernel), List.mem_of_getElem? (i := 445) (by decide +kernel), List.mem_of_getElem? (i := 446) (by decide +kernel)⟩
theorem lw_p7 : lw_okq (⟨"FlagChamber$Reader", "stateAfter", "(I)I"⟩, 2) := ⟨⟨by decide +kernel, by decide +kernel⟩, List.mem_of_getElem? (i := 96) (by decide +kernel), List.mem_of_getElem? (i := 541) (by decide +kernel), List.mem_of_getElem? (i := 542) (by decide +kernel)⟩
theorem lw_p8 : lw_okq (⟨"FlagChamber$Reader", "stateInFactor", "(I)I"⟩, 2) := ⟨⟨by decide +kernel, by decide +kernel⟩, List.mem_of_getElem? (i := 96) (by decide +kernel), List.mem_of_getElem? (i := 545) (by decide +kernel), List.mem_of_getElem? (i := 546) (by decide +kernel)⟩
theorem lw_p9 : lw_okq (⟨"FlagChamber$Reader", "stateBehindFactor", "(I)I"⟩, 2) := ⟨⟨by decide +kernel, by decide +kernel⟩, List.mem_of_getElem? (i := 96) (by decide +kernel), List.mem_of_getElem? (i := 549) (by decide +kernel), List.mem_of_getElem? (i := 550) (by decide +kernel)⟩
theorem lw_p10 : lw_okq (⟨"FlagChamber", "checkSettable", "(I)V"⟩, 10) := ⟨⟨by decide +kernel, by decide +kernel⟩, List.mem_of_getElem? (i := 30) (by decide +kernel), List.mem_of_getElem? (i := 560) (by decide +kernel), List.mem_of_getElem? (i := 561) (by decide +kernel)⟩
theorem lw_p11 : lw_okq (⟨"FlagChamber", "findViews", "([II[ILFlagChamber$Past;)V"⟩, 10) := ⟨⟨by decide +kernel, by decide +kernel⟩, List.mem_of_getElem? (i := 30) (by decide +kernel), List.mem_of_getElem? (i := 607) (by decide +kernel), List.mem_of_getElem? (i := 608) (by decide +kernel)⟩
theorem lw_p12 : lw_okq (⟨"FlagChamber", "decidedView", "(II[ILFlagChamber$Past;)I"⟩, 10) := ⟨⟨by decide +kernel, by decide +kernel⟩, List.mem_of_getElem? (i := 30) (by decide +kernel), List.mem_of_getElem? (i := 611) (by decide +kernel), List.mem_of_getElem? (i := 612) (by decide +kernel)⟩
theorem lw_p13 : lw_okq (⟨"FlagChamber$Trial", "drawArm", "(I)I"⟩, 4) := ⟨⟨by decide +kernel, by decide +kernel⟩, List.mem_of_getElem? (i := 255) (by decide +kernel), List.mem_of_getElem? (i := 633) (by decide +kernel), List.mem_of_getElem? (i := 634) (by decide +kernel)⟩
theorem lw_p14 : lw_okq (⟨"FlagChamber", "viewNow", "(II)I"⟩, 10) := ⟨⟨by decide +kernel, by decide +kernel⟩, List.mem_of_getElem? (i := 30) (by decide +kernel), List.mem_of_getElem? (i := 706) (by decide +kernel), List.mem_of_getElem? (i := 707) (by decide +kernel)⟩
theorem lw_p15 : lw_okq (⟨"FlagChamber$Past", "noteShowing", "(LFlagChamber$Entry;)V"⟩, 5) := ⟨⟨by decide +kernel, by decide +kernel⟩, List.mem_of_getElem? (i := 202) (by decide +kernel), List.mem_of_getElem? (i := 741) (by decide +kernel), List.mem_of_getElem? (i := 742) (by decide +kernel)⟩
def lw_privs_1 : List (MethodName × Nat) := [(⟨"FlagChamber$Graph", "arrange", "()V"⟩, 2), (⟨"FlagChamber$Past", "forgetTrial", "(I)V"⟩, 5), (⟨"java/lang/Throwable", "fillInStackTrace", "(I)Ljava/lang/Throwable;"⟩, 6), (⟨"FlagChamber$Evaluator", "beginExpression", "()V"⟩, 4), (⟨"FlagChamber$Evaluator", "readSign", "(LFlagChamber$Text;ILFlagChamber$People;[I)V"⟩, 4), (⟨"FlagChamber$Evaluator", "addFactor", "(I)V"⟩, 4), (⟨"FlagChamber$Evaluator", "whoIsIn", "(I[I)I"⟩, 4), (⟨"FlagChamber$Reader", "stateAfter", "(I)I"⟩, 2), (⟨"FlagChamber$Reader", "stateInFactor", "(I)I"⟩, 2), (⟨"FlagChamber$Reader", "stateBehindFactor", "(I)I"⟩, 2), (⟨"FlagChamber", "checkSettable", "(I)V"⟩, 10), (⟨"FlagChamber", "findViews", "([II[ILFlagChamber$Past;)V"⟩, 10), (⟨"FlagChamber", "decidedView", "(II[ILFlagChamber$Past;)I"⟩, 10), (⟨"FlagChamber$Trial", "drawArm", "(I)I"⟩, 4), (⟨"FlagChamber", "viewNow", "(II)I"⟩, 10), (⟨"FlagChamber$Past", "noteShowing", "(LFlagChamber$Entry;)V"⟩, 5)]
theorem lw_r1 : ∀ q ∈ lw_privs_1, lw_okq q := List.forall_mem_cons.mpr ⟨lw_p0, List.forall_mem_cons.mpr ⟨lw_p1, List.forall_mem_cons.mpr ⟨lw_p2, List.forall_mem_cons.mpr ⟨lw_p3, List.forall_mem_cons.mpr ⟨lw_p4, List.forall_mem_cons.mpr ⟨lw_p5, List.forall_mem_cons.mpr ⟨lw_p6, List.forall_mem_cons.mpr ⟨lw_p7, List.forall_mem_cons.mpr ⟨lw_p8, List.forall_mem_cons.mpr ⟨lw_p9, List.forall_mem_cons.mpr ⟨lw_p10, List.forall_mem_cons.mpr ⟨lw_p11, List.forall_mem_cons.mpr ⟨lw_p12, List.forall_mem_cons.mpr ⟨lw_p13, List.forall_mem_cons.mpr ⟨lw_p14, List.forall_mem_cons.mpr ⟨lw_p15, fun _ h => absurd h List.not_mem_nil⟩⟩⟩⟩⟩⟩⟩⟩⟩⟩⟩⟩⟩⟩⟩⟩
theorem lw_p16 : lw_okq (⟨"FlagChamber$Past", "addHolder", "(III)V"⟩, 5) := ⟨⟨by decide +kernel, by decide +kernel⟩, List.mem_of_getElem? (i := 202) (by decide +kernel), List.mem_of_getElem? (i := 745) (by decide +kernel), List.mem_of_getElem? (i := 746) (by decide +kernel)⟩
theorem lw_p17 : lw_okq (⟨"FlagChamber$Past", "holdWhatWasShownBy", "(I)V"⟩, 5) := ⟨⟨by decide +kernel, by decide +kernel⟩, List.mem_of_getElem? (i := 202) (by decide +kernel), List.mem_of_getElem? (i := 750) (by decide +kernel), List.mem_of_getElem? (i := 751) (by decide +kernel)⟩
theorem lw_p18 : lw_okq (⟨"FlagChamber$Past", "releaseAllOf", "(I)V"⟩, 5) := ⟨⟨by decide +kernel, by decide +kernel⟩, List.mem_of_getElem? (i := 202) (by decide +kernel), List.mem_of_getElem? (i := 754) (by decide +kernel), List.mem_of_getElem? (i := 755) (by decide +kernel)⟩
theorem lw_p19 : lw_okq (⟨"FlagChamber", "checkLog", "()V"⟩, 10) := ⟨⟨by decide +kernel, by decide +kernel⟩, List.mem_of_getElem? (i := 30) (by decide +kernel), List.mem_of_getElem? (i := 782) (by decide +kernel), List.mem_of_getElem? (i := 783) (by decide +kernel)⟩
theorem lw_p20 : lw_okq (⟨"FlagChamber", "trialThatShows", "(II)I"⟩, 10) := ⟨⟨by decide +kernel, by decide +kernel⟩, List.mem_of_getElem? (i := 30) (by decide +kernel), List.mem_of_getElem? (i := 787) (by decide +kernel), List.mem_of_getElem? (i := 788) (by decide +kernel)⟩
theorem lw_p21 : lw_okq (⟨"FlagChamber", "needsZero", "(II)Z"⟩, 10) := ⟨⟨by decide +kernel, by decide +kernel⟩, List.mem_of_getElem? (i := 30) (by decide +kernel), List.mem_of_getElem? (i := 791) (by decide +kernel), List.mem_of_getElem? (i := 792) (by decide +kernel)⟩
theorem lw_p22 : lw_okq (⟨"FlagChamber", "keeps", "(II)Z"⟩, 10) := ⟨⟨by decide +kernel, by decide +kernel⟩, List.mem_of_getElem? (i := 30) (by decide +kernel), List.mem_of_getElem? (i := 796) (by decide +kernel), List.mem_of_getElem? (i := 797) (by decide +kernel)⟩
theorem lw_p23 : lw_okq (⟨"FlagChamber", "enter", "(LFlagChamber$Entry;)V"⟩, 10) := ⟨⟨by decide +kernel, by decide +kernel⟩, List.mem_of_getElem? (i := 30) (by decide +kernel), List.mem_of_getElem? (i := 824) (by decide +kernel), List.mem_of_getElem? (i := 825) (by decide +kernel)⟩
theorem lw_p24 : lw_okq (⟨"java/util/ArrayList", "add", "(Ljava/lang/Object;[Ljava/lang/Object;I)V"⟩, 3) := ⟨⟨by decide +kernel, by decide +kernel⟩, List.mem_of_getElem? (i := 175) (by decide +kernel), List.mem_of_getElem? (i := 832) (by decide +kernel), List.mem_of_getElem? (i := 833) (by decide +kernel)⟩
theorem lw_p25 : lw_okq (⟨"java/util/ArrayList", "grow", "()[Ljava/lang/Object;"⟩, 3) := ⟨⟨by decide +kernel, by decide +kernel⟩, List.mem_of_getElem? (i := 175) (by decide +kernel), List.mem_of_getElem? (i := 836) (by decide +kernel), List.mem_of_getElem? (i := 837) (by decide +kernel)⟩
theorem lw_p26 : lw_okq (⟨"java/util/ArrayList", "grow", "(I)[Ljava/lang/Object;"⟩, 3) := ⟨⟨by decide +kernel, by decide +kernel⟩, List.mem_of_getElem? (i := 175) (by decide +kernel), List.mem_of_getElem? (i := 840) (by decide +kernel), List.mem_of_getElem? (i := 841) (by decide +kernel)⟩
theorem lw_p27 : lw_okq (⟨"FlagChamber", "checkNotHeld", "(I)V"⟩, 10) := ⟨⟨by decide +kernel, by decide +kernel⟩, List.mem_of_getElem? (i := 30) (by decide +kernel), List.mem_of_getElem? (i := 897) (by decide +kernel), List.mem_of_getElem? (i := 898) (by decide +kernel)⟩
theorem lw_p28 : lw_okq (⟨"FlagChamber", "armNow", "(II)I"⟩, 10) := ⟨⟨by decide +kernel, by decide +kernel⟩, List.mem_of_getElem? (i := 30) (by decide +kernel), List.mem_of_getElem? (i := 921) (by decide +kernel), List.mem_of_getElem? (i := 922) (by decide +kernel)⟩
theorem lw_p29 : lw_okq (⟨"FlagChamberModel", "goesWell", "(I)Z"⟩, 31) := ⟨⟨by decide +kernel, by decide +kernel⟩, List.mem_of_getElem? (i := 1000) (by decide +kernel), List.mem_of_getElem? (i := 1115) (by decide +kernel), List.mem_of_getElem? (i := 1116) (by decide +kernel)⟩
theorem lw_p30 : lw_okq (⟨"FlagChamberModel", "faultOf", "(I)I"⟩, 31) := ⟨⟨by decide +kernel, by decide +kernel⟩, List.mem_of_getElem? (i := 1000) (by decide +kernel), List.mem_of_getElem? (i := 1142) (by decide +kernel), List.mem_of_getElem? (i := 1143) (by decide +kernel)⟩
theorem lw_p31 : lw_okq (⟨"FlagChamberModel", "gather", "()V"⟩, 31) := ⟨⟨by decide +kernel, by decide +kernel⟩, List.mem_of_getElem? (i := 1000) (by decide +kernel), List.mem_of_getElem? (i := 1156) (by decide +kernel), List.mem_of_getElem? (i := 1157) (by decide +kernel)⟩
def lw_privs_2 : List (MethodName × Nat) := [(⟨"FlagChamber$Past", "addHolder", "(III)V"⟩, 5), (⟨"FlagChamber$Past", "holdWhatWasShownBy", "(I)V"⟩, 5), (⟨"FlagChamber$Past", "releaseAllOf", "(I)V"⟩, 5), (⟨"FlagChamber", "checkLog", "()V"⟩, 10), (⟨"FlagChamber", "trialThatShows", "(II)I"⟩, 10), (⟨"FlagChamber", "needsZero", "(II)Z"⟩, 10), (⟨"FlagChamber", "keeps", "(II)Z"⟩, 10), (⟨"FlagChamber", "enter", "(LFlagChamber$Entry;)V"⟩, 10), (⟨"java/util/ArrayList", "add", "(Ljava/lang/Object;[Ljava/lang/Object;I)V"⟩, 3), (⟨"java/util/ArrayList", "grow", "()[Ljava/lang/Object;"⟩, 3), (⟨"java/util/ArrayList", "grow", "(I)[Ljava/lang/Object;"⟩, 3), (⟨"FlagChamber", "checkNotHeld", "(I)V"⟩, 10), (⟨"FlagChamber", "armNow", "(II)I"⟩, 10), (⟨"FlagChamberModel", "goesWell", "(I)Z"⟩, 31), (⟨"FlagChamberModel", "faultOf", "(I)I"⟩, 31), (⟨"FlagChamberModel", "gather", "()V"⟩, 31)]
theorem lw_r2 : ∀ q ∈ lw_privs_2, lw_okq q := List.forall_mem_cons.mpr ⟨lw_p16, List.forall_mem_cons.mpr ⟨lw_p17, List.forall_mem_cons.mpr ⟨lw_p18, List.forall_mem_cons.mpr ⟨lw_p19, List.forall_mem_cons.mpr ⟨lw_p20, List.forall_mem_cons.mpr ⟨lw_p21, List.forall_mem_cons.mpr ⟨lw_p22, List.forall_mem_cons.mpr ⟨lw_p23, List.forall_mem_cons.mpr ⟨lw_p24, List.forall_mem_cons.mpr ⟨lw_p25, List.forall_mem_cons.mpr ⟨lw_p26, List.forall_mem_cons.mpr ⟨lw_p27, List.forall_mem_cons.mpr ⟨lw_p28, List.forall_mem_cons.mpr ⟨lw_p29, List.forall_mem_cons.mpr ⟨lw_p30, List.forall_mem_cons.mpr ⟨lw_p31, fun _ h => absurd h List.not_mem_nil⟩⟩⟩⟩⟩⟩⟩⟩⟩⟩⟩⟩⟩⟩⟩⟩
theorem lw_p32 : lw_okq (⟨"FlagChamberModel", "meets", "(II)Z"⟩, 31) := ⟨⟨by decide +kernel, by decide +kernel⟩, List.mem_of_getElem? (i := 1000) (by decide +kernel), List.mem_of_getElem? (i := 1160) (by decide +kernel), List.mem_of_getElem? (i := 1161) (by decide +kernel)⟩
theorem lw_p33 : lw_okq (⟨"FlagChamberModel", "signOf", "(II)I"⟩, 31) := ⟨⟨by decide +kernel, by decide +kernel⟩, List.mem_of_getElem? (i := 1000) (by decide +kernel), List.mem_of_getElem? (i := 1164) (by decide +kernel), List.mem_of_getElem? (i := 1165) (by decide +kernel)⟩
theorem lw_p34 : lw_okq (⟨"FlagChamberModel", "meetsTest", "(III)Z"⟩, 31) := ⟨⟨by decide +kernel, by decide +kernel⟩, List.mem_of_getElem? (i := 1000) (by decide +kernel), List.mem_of_getElem? (i := 1171) (by decide +kernel), List.mem_of_getElem? (i := 1172) (by decide +kernel)⟩
theorem lw_p35 : lw_okq (⟨"FlagChamberModel", "numberAt", "(II)I"⟩, 31) := ⟨⟨by decide +kernel, by decide +kernel⟩, List.mem_of_getElem? (i := 1000) (by decide +kernel), List.mem_of_getElem? (i := 1175) (by decide +kernel), List.mem_of_getElem? (i := 1176) (by decide +kernel)⟩
theorem lw_p36 : lw_okq (⟨"FlagChamberModel", "canLay", "(I)Z"⟩, 31) := ⟨⟨by decide +kernel, by decide +kernel⟩, List.mem_of_getElem? (i := 1000) (by decide +kernel), List.mem_of_getElem? (i := 1179) (by decide +kernel), List.mem_of_getElem? (i := 1180) (by decide +kernel)⟩
theorem lw_p37 : lw_okq (⟨"FlagChamberModel", "layDraft", "(I)V"⟩, 31) := ⟨⟨by decide +kernel, by decide +kernel⟩, List.mem_of_getElem? (i := 1000) (by decide +kernel), List.mem_of_getElem? (i := 1183) (by decide +kernel), List.mem_of_getElem? (i := 1184) (by decide +kernel)⟩
theorem lw_p38 : lw_okq (⟨"FlagChamberModel", "hasCircle", "()Z"⟩, 31) := ⟨⟨by decide +kernel, by decide +kernel⟩, List.mem_of_getElem? (i := 1000) (by decide +kernel), List.mem_of_getElem? (i := 1187) (by decide +kernel), List.mem_of_getElem? (i := 1188) (by decide +kernel)⟩
theorem lw_p39 : lw_okq (⟨"FlagChamberModel", "layBack", "(I)V"⟩, 31) := ⟨⟨by decide +kernel, by decide +kernel⟩, List.mem_of_getElem? (i := 1000) (by decide +kernel), List.mem_of_getElem? (i := 1191) (by decide +kernel), List.mem_of_getElem? (i := 1192) (by decide +kernel)⟩
theorem lw_p40 : lw_okq (⟨"FlagChamberModel", "findViews", "()V"⟩, 31) := ⟨⟨by decide +kernel, by decide +kernel⟩, List.mem_of_getElem? (i := 1000) (by decide +kernel), List.mem_of_getElem? (i := 1202) (by decide +kernel), List.mem_of_getElem? (i := 1203) (by decide +kernel)⟩
theorem lw_p41 : lw_okq (⟨"FlagChamberModel", "viewNow", "(II)I"⟩, 31) := ⟨⟨by decide +kernel, by decide +kernel⟩, List.mem_of_getElem? (i := 1000) (by decide +kernel), List.mem_of_getElem? (i := 1206) (by decide +kernel), List.mem_of_getElem? (i := 1207) (by decide +kernel)⟩
theorem lw_p42 : lw_okq (⟨"FlagChamberModel", "lacksNeed", "(II)Z"⟩, 31) := ⟨⟨by decide +kernel, by decide +kernel⟩, List.mem_of_getElem? (i := 1000) (by decide +kernel), List.mem_of_getElem? (i := 1210) (by decide +kernel), List.mem_of_getElem? (i := 1211) (by decide +kernel)⟩
theorem lw_p43 : lw_okq (⟨"FlagChamberModel", "ruleNow", "(II)I"⟩, 31) := ⟨⟨by decide +kernel, by decide +kernel⟩, List.mem_of_getElem? (i := 1000) (by decide +kernel), List.mem_of_getElem? (i := 1214) (by decide +kernel), List.mem_of_getElem? (i := 1215) (by decide +kernel)⟩
theorem lw_p44 : lw_okq (⟨"FlagChamberModel", "armNow", "(II)I"⟩, 31) := ⟨⟨by decide +kernel, by decide +kernel⟩, List.mem_of_getElem? (i := 1000) (by decide +kernel), List.mem_of_getElem? (i := 1218) (by decide +kernel), List.mem_of_getElem? (i := 1219) (by decide +kernel)⟩
theorem lw_p45 : lw_okq (⟨"FlagChamberModel", "allNeeds", "(I)I"⟩, 31) := ⟨⟨by decide +kernel, by decide +kernel⟩, List.mem_of_getElem? (i := 1000) (by decide +kernel), List.mem_of_getElem? (i := 1247) (by decide +kernel), List.mem_of_getElem? (i := 1248) (by decide +kernel)⟩
def lw_privs_3 : List (MethodName × Nat) := [(⟨"FlagChamberModel", "meets", "(II)Z"⟩, 31), (⟨"FlagChamberModel", "signOf", "(II)I"⟩, 31), (⟨"FlagChamberModel", "meetsTest", "(III)Z"⟩, 31), (⟨"FlagChamberModel", "numberAt", "(II)I"⟩, 31), (⟨"FlagChamberModel", "canLay", "(I)Z"⟩, 31), (⟨"FlagChamberModel", "layDraft", "(I)V"⟩, 31), (⟨"FlagChamberModel", "hasCircle", "()Z"⟩, 31), (⟨"FlagChamberModel", "layBack", "(I)V"⟩, 31), (⟨"FlagChamberModel", "findViews", "()V"⟩, 31), (⟨"FlagChamberModel", "viewNow", "(II)I"⟩, 31), (⟨"FlagChamberModel", "lacksNeed", "(II)Z"⟩, 31), (⟨"FlagChamberModel", "ruleNow", "(II)I"⟩, 31), (⟨"FlagChamberModel", "armNow", "(II)I"⟩, 31), (⟨"FlagChamberModel", "allNeeds", "(I)I"⟩, 31)]
theorem lw_r3 : ∀ q ∈ lw_privs_3, lw_okq q := List.forall_mem_cons.mpr ⟨lw_p32, List.forall_mem_cons.mpr ⟨lw_p33, List.forall_mem_cons.mpr ⟨lw_p34, List.forall_mem_cons.mpr ⟨lw_p35, List.forall_mem_cons.mpr ⟨lw_p36, List.forall_mem_cons.mpr ⟨lw_p37, List.forall_mem_cons.mpr ⟨lw_p38, List.forall_mem_cons.mpr ⟨lw_p39, List.forall_mem_cons.mpr ⟨lw_p40, List.forall_mem_cons.mpr ⟨lw_p41, List.forall_mem_cons.mpr ⟨lw_p42, List.forall_mem_cons.mpr ⟨lw_p43, List.forall_mem_cons.mpr ⟨lw_p44, List.forall_mem_cons.mpr ⟨lw_p45, fun _ h => absurd h List.not_mem_nil⟩⟩⟩⟩⟩⟩⟩⟩⟩⟩⟩⟩⟩⟩
def lw_privs : List (MethodName × Nat) := lw_privs_1 ++ (lw_privs_2 ++ (lw_privs_3))
def lw_tbl : List Cond := k2_sels lw_privs ++ tables_1
theorem lw_privs_ok : ∀ q ∈ lw_privs, lw_okq q := by
  show ∀ q ∈ lw_privs_1 ++ (lw_privs_2 ++ (lw_privs_3)), lw_okq q
  exact List.forall_mem_append.mpr ⟨lw_r1, List.forall_mem_append.mpr ⟨lw_r2, lw_r3⟩⟩
-- ===== end of PART A; then your names; then what follows =====
end
section
/-! ===== BEGIN words of one list among another's, by their places ===== -/
theorem goodIn_r {big : List Cond} (ws : List Cond) (ps : List Nat) (hp : ws = ps.filterMap (fun i => big[i]?)) (h : ws.all goodWord = true) : GoodIn big ws := by
  intro w hw
  have h1 := List.all_eq_true.mp h w hw
  rw [hp] at hw
  obtain ⟨i, -, hi⟩ := List.mem_filterMap.mp hw
  have hm : w ∈ big := by first | exact List.mem_of_getElem? hi | exact List.getElem?_mem hi
  exact ⟨hm, good_of_word h1⟩
theorem goodIn_app {big a b : List Cond} (ha : GoodIn big a) (hb : GoodIn big b) : GoodIn big (a ++ b) := fun w h => (List.mem_append.mp h).elim (ha w) (hb w)
theorem goodIn_ca {big a b : List Cond} {c : Cond} (ha : GoodIn big (c :: a)) (hb : GoodIn big b) : GoodIn big (c :: (a ++ b)) := fun w h => (List.mem_cons.mp h).elim (fun e => ha w (List.mem_cons.mpr (Or.inl e))) (fun h => (List.mem_append.mp h).elim (fun h => ha w (List.mem_cons.mpr (Or.inr h))) (hb w))
theorem goodIn_sub {big ws : List Cond} (hm : ∀ w ∈ ws, w ∈ big) (h : ws.all goodWord = true) : GoodIn big ws := fun w hw => ⟨hm w hw, good_of_word (List.all_eq_true.mp h w hw)⟩
/-! ===== END ===== -/


/-! ===== BEGIN exceptions that leave a method, and their catching by the caller (launches without stack traces) ===== -/
section VXA
/-! The laws vx_back, vx_callV, vx_callS, vx_callSW, vx_throw0, vx_throwS follow proofs of the library, with one case more: JvmDerived/Free/Laws.lean (Back.of_free), Shelf42/LK1.lean (callV, callS), Shelf/KitTraced.lean (throwNew0V, throwNewS). -/
/-- where a method has thrown q: the class by its name, the cell, what was written, the world -/
def vx_T (XC : String → State → State → Prop) (st : State) (q : Addr) (t : State) (mc ms : Nat) (free : Addr → Prop) : Prop :=
  ∃ (E : String) (ce : Cell) (L : List Loc), XC E st t ∧ t.heap[q]? = some ce ∧ ce.vm = .none ∧ st.vm.findClass E = some ce.cls ∧ st.WarmedH t.vm ∧ st.sameButNew ({ t with vm := st.vm } : State) L mc ms ∧ ∀ z ∈ L, free z.base
def vx_Q (Qc : Array Value → State → Outcome → State → Prop) (XC : String → State → State → Prop) (mc ms : Nat) (free : Addr → Prop) : Array Value → State → Outcome → State → Prop := fun a st o t =>
  (Qc a st o t ∧ ∃ L, FrameEnd st o t L mc ms ∧ ∀ q ∈ L, free q.base) ∨ ∃ q, o = .threw q ∧ vx_T XC st q t mc ms free
/-- a callee that returns or throws -/
def vx_Met (l : Launch) (y : MethodName) (ws : List Cond) (rm : Room) (Pc : Array Value → State → Prop) (Qc : Array Value → State → Outcome → State → Prop) (XC : String → State → State → Prop) (mc ms : Nat) (free : Addr → Prop) : Prop :=
  MetFree l y (headSpec ws rm) Pc (fun _ _ _ _ _ => True) (vx_Q Qc XC mc ms free)
def vx_Post (XC : String → State → State → Prop) (mc ms : Nat) (free : Addr → Prop) : Pt → Array Value → Addr → Pt → Prop := fun A a q B =>
  ∃ (g : JFrame) (mk : MethodId) (t : State) (L : List Loc) (E : String) (ce : Cell), B.U.heap = t.heap ∧ B.U.vm = t.vm ∧ XC E (A.U.calling g mk a) t ∧ t.heap[q]? = some ce ∧ ce.vm = .none ∧ A.U.vm.findClass E = some ce.cls ∧ B.locs = A.locs ++ L ∧ (∀ z ∈ L, free z.base) ∧ B.cells = A.cells + mc ∧ B.slots = A.slots + ms
def vx_Back (l : Launch) (R : Room) (p : Program) (e : Env) (below : List Frame) (s : State) (sargs : Array Value) (y : MethodName) (len W9 : Nat)
    (Pre : Pt → Array Value → Prop) (Post : Pt → Array Value → Option Value → Pt → Prop) (PostX : Pt → Array Value → Addr → Pt → Prop) : Prop :=
  ∀ (m : MethodId) (meth : Method) (c : Code) (A : Pt) (g : JFrame) (ig : Instr) (mk : MethodId) (a : Array Value),
    Stand p l e R s m sargs below meth c A.U A.locs A.cells A.slots → g.method = m → g.locals.size = c.maxLocals → decode c.code g.pc = .ok (ig, len) →
    2 * g.monitorRoom + (g.stack.map fun v => v.category).sum ≤ W9 → A.U.methodNamed? y = some mk → Pre A a →
    (∃ (v : Option Value) (B : Pt), Stand p l e R s m sargs below meth c B.U B.locs B.cells B.slots ∧ Post A a v B ∧
      Steps p.tables e below (doInvoke e (A.U.setTop g) [] mk a).1 (B.U.setTop { g with pc := g.pc + len, stack := v.toList ++ g.stack })) ∨
    (∃ (q : Addr) (B : Pt), Stand p l e R s m sargs below meth c B.U B.locs B.cells B.slots ∧ PostX A a q B ∧
      Steps p.tables e below (doInvoke e (A.U.setTop g) [] mk a).1 ((B.U.setTop g).pushFrame (.throwing q)))
section Payer
variable {l : Launch} {R : Room} {p : Program} {e : Env} {below : List Frame} {s : State} {sargs : Array Value} {y : MethodName} {len W9 : Nat}
theorem vx_back {ws : List Cond} {rm : Room} {Pc : Array Value → State → Prop} {Qc : Array Value → State → Outcome → State → Prop} {XC : String → State → State → Prop} {mc ms : Nat} {free : Addr → Prop} {bytes : ByteArray} {maxL : Nat} {ret : Option FieldType}
    (hM : vx_Met l y ws rm Pc Qc XC mc ms free) (hblind : FrameBlind Pc) (hrc : rm.cells = mc) (hrs : rm.slots = ms)
    (hframes : rm.frames + 1 ≤ R.frames) (hlocals : W9 + (maxL + 11) + rm.locals ≤ R.locals)
    (hws : ∀ w ∈ ws, ∀ a' U, s.WarmedH U.vm → w.before a' U = true) (hcode : Cond.code y bytes maxL ret ∈ ws) (hinit : ∀ a' U, s.WarmedH U.vm → (Cond.initialized y.cls).before a' U = true) :
    vx_Back l R p e below s sargs y len W9 (PreOf R mc ms Pc) (PostOf Qc mc ms free) (vx_Post XC mc ms free) := by
  intro m meth c A g ig mk a X hg hsize hdg hW hn hp
  have h1 : (headSpec ws rm).pre.before a A.U = true := atoms_intro fun w hw => hws w hw _ _ X.warmed
  have h2 : (Cond.code y bytes maxL ret).before a A.U = true := hws _ hcode _ _ X.warmed
  have h3 : (Cond.initialized y.cls).before a A.U = true := hinit _ _ X.warmed
  have h4 : A.cells + (headSpec ws rm).room.cells ≤ R.cells := by rw [show (headSpec ws rm).room.cells = mc from hrc]; exact hp.1
  have h5 : A.slots + (headSpec ws rm).room.slots ≤ R.slots := by rw [show (headSpec ws rm).room.slots = ms from hrs]; exact hp.2.1
  have hPc : Pc a (A.U.calling g mk a) := hblind _ _ _ _ hp.2.2
  obtain ⟨U, Ls, c0, s0⟩ := A
  dsimp only [Pt.U, Pt.locs, Pt.cells, Pt.slots] at h1 h2 h3 h4 h5 X hn hPc ⊢
  obtain ⟨methY, cY, hmY, hcY, -, hlY, -, -, -, -⟩ := Cond.code_spec hn h2
  obtain ⟨kY, hkY, -⟩ := className_of_methodNamed hn
  have hinitY : kY.init = .initialized := Cond.initialized_spec (findClass_of_methodNamed hn) hkY h3
  have h : At U g.method c below := by rw [hg]; exact X.here
  have hlocals9 : W9 + (maxL + 11) + (headSpec ws rm).room.locals ≤ R.locals := hlocals
  have happ : (headSpec ws rm).appliesLoose y e.platform (U.calling g mk a) = true :=
    Spec.appliesLoose_calling (g := g) h hdg hn hkY hinitY
      (X.room_calling (g := g) (R' := (headSpec ws rm).room) hsize hmY hcY hframes (by rw [hlY]; omega) h4 h5) h1
  obtain ⟨mid, hmid⟩ := h.above
  have hfr : (U.setTop g).frames = (.java g :: mid) ++ below := by rw [State.frames_setTop' g h.top, hmid]; rfl
  obtain ⟨o, s₂, hsteps, -, hend, hq⟩ := Steps.callFree hM p X.admits X.cas X.clock (acts := []) hfr happ hPc trivial
  have hq' : vx_Q Qc XC mc ms free a (U.calling g mk a) o s₂ := hq
  rw [State.frames_setTop' g h.top] at hend
  obtain ⟨g₀, hg0⟩ := Option.isSome_iff_exists.mp h.top
  obtain ⟨r, hr⟩ := State.topJava?_eq_some.mp hg0
  have hr' : (({ U with heap := s₂.heap, slotsUsed := s₂.slotsUsed } : State).setVm s₂.vm).frames = .java g₀ :: r := hr
  rcases hq' with ⟨hqc, L, hfe, hL⟩ | ⟨q, rfl, E, ce, L, hx, hce, hcv, hcl, hW₂, hsm, hL⟩
  · obtain ⟨⟨v, rfl⟩, hW₂, e2, q2, q3, q4, q5, q6⟩ := id hfe
    have e3 : s₂ = ({ (U.calling g mk a).setFrames s₂.frames with heap := s₂.heap, slotsUsed := s₂.slotsUsed } : State).setVm s₂.vm := by
      have : s₂ = ({ s₂ with vm := (U.calling g mk a).vm } : State).setVm s₂.vm := rfl
      rw [e2] at this
      exact this
    obtain ⟨c₂, i₂, len₂, hc₂, hd₂, hf₂⟩ := hend
    have hW' : U.WarmedH s₂.vm := hW₂
    have hcc : c₂ = c := by
      have h1 : s₂.code? g.method = U.code? g.method := by
        rw [State.code?_eq, State.code?_eq, hW'.alike.method?]
      exact Option.some.inj (hc₂.symm.trans (h1.trans h.code))
    subst hcc
    have hlen : len₂ = len := by rw [hdg] at hd₂; cases hd₂; rfl
    subst hlen
    have hs₂ : s₂ = (({ U with heap := s₂.heap, slotsUsed := s₂.slotsUsed } : State).setVm s₂.vm).setTop { g with pc := g.pc + len₂, stack := v.toList ++ g.stack } := by
      refine e3.trans ?_
      rw [hf₂, State.calling_eq h.top, State.setFrames_setFrames, State.setTop_of_frames _ hr', hr]
      rfl
    have hsame : U.sameButNew ({ U with heap := s₂.heap, slotsUsed := s₂.slotsUsed } : State) L mc ms := by
      refine ⟨?_, q2, q3, q4, q5, q6⟩
      obtain ⟨t, ht, -⟩ := State.frames_cons hr
      show ({ U with heap := s₂.heap, slotsUsed := s₂.slotsUsed } : State) = { U.setFrames U.frames with heap := s₂.heap, slotsUsed := s₂.slotsUsed }
      rw [State.setFrames_self ht]
    subst hg
    refine Or.inl ⟨v, ⟨(({ U with heap := s₂.heap, slotsUsed := s₂.slotsUsed } : State).setVm s₂.vm), Ls ++ L, c0 + mc, s0 + ms⟩,
      ⟨X.admits, X.cas, X.clock, X.frames, X.room, X.hears, X.method, X.code, (X.here.setHeapUsed s₂.heap s₂.slotsUsed).setVm hW'.alike, X.tail, State.WarmedH.trans X.warmed hW', X.limits, X.bytes, X.same.trans (hsame.setVm s.vm)⟩,
      ⟨g, mk, s₂, L, rfl, rfl, hqc, rfl, hL, rfl, rfl⟩, ?_⟩
    show Steps p.tables e below _ ((({ U with heap := s₂.heap, slotsUsed := s₂.slotsUsed } : State).setVm s₂.vm).setTop { g with pc := g.pc + len₂, stack := v.toList ++ g.stack })
    rw [← hs₂]
    exact hsteps
  · obtain ⟨e2, q2, q3, q4, q5, q6⟩ := id hsm
    have e3 : s₂ = ({ (U.calling g mk a).setFrames s₂.frames with heap := s₂.heap, slotsUsed := s₂.slotsUsed } : State).setVm s₂.vm := by
      have : s₂ = ({ s₂ with vm := (U.calling g mk a).vm } : State).setVm s₂.vm := rfl
      rw [e2] at this
      exact this
    have hf₂ : s₂.frames = .throwing q :: .java g :: U.frames.tail := hend
    have hW' : U.WarmedH s₂.vm := hW₂
    have hs₂ : s₂ = ((({ U with heap := s₂.heap, slotsUsed := s₂.slotsUsed } : State).setVm s₂.vm).setTop g).pushFrame (.throwing q) := by
      refine e3.trans ?_
      rw [hf₂, State.calling_eq h.top, State.setFrames_setFrames, State.pushFrame, State.frames_setTop _ hr', State.setTop_of_frames _ hr', State.setFrames_setFrames, hr]
      rfl
    have hsame : U.sameButNew ({ U with heap := s₂.heap, slotsUsed := s₂.slotsUsed } : State) L mc ms := by
      refine ⟨?_, q2, q3, q4, q5, q6⟩
      obtain ⟨t, ht, -⟩ := State.frames_cons hr
      show ({ U with heap := s₂.heap, slotsUsed := s₂.slotsUsed } : State) = { U.setFrames U.frames with heap := s₂.heap, slotsUsed := s₂.slotsUsed }
      rw [State.setFrames_self ht]
    subst hg
    refine Or.inr ⟨q, ⟨(({ U with heap := s₂.heap, slotsUsed := s₂.slotsUsed } : State).setVm s₂.vm), Ls ++ L, c0 + mc, s0 + ms⟩,
      ⟨X.admits, X.cas, X.clock, X.frames, X.room, X.hears, X.method, X.code, (X.here.setHeapUsed s₂.heap s₂.slotsUsed).setVm hW'.alike, X.tail, State.WarmedH.trans X.warmed hW', X.limits, X.bytes, X.same.trans (hsame.setVm s.vm)⟩,
      ⟨g, mk, s₂, L, E, ce, rfl, rfl, hx, hce, hcv, hcl, rfl, hL, rfl, rfl⟩, ?_⟩
    show Steps p.tables e below _ (((({ U with heap := s₂.heap, slotsUsed := s₂.slotsUsed } : State).setVm s₂.vm).setTop g).pushFrame (.throwing q))
    rw [← hs₂]
    exact hsteps
end Payer
section Calls
variable {p : Program} {l : Launch} {e : Env} {R : Room} {s : State} {m : MethodId} {args : Array Value} {below : List Frame} {meth : Method} {c : Code} {T : State} {locs : List Loc} {cells slots : Nat}
theorem vx_callV (X : Stand p l e R s m args below meth c T locs cells slots) (hexec : p.tables.exec = Jvm.exec) {own C : String} {index : Nat} {y : MethodName} {bytes : ByteArray} {maxL : Nat} {ret : Option FieldType}
    (hown : s.vm.findClass own = some m.cls) (hlink : (Cond.methodLink own index y).before args s = true) (hinst : (Cond.instanceMethod y).before args s = true) (hsel : (Cond.selects C y y).before args s = true)
    (hcode : (Cond.code y bytes maxL ret).before args s = true) (hy : y.cls ≠ "java/lang/invoke/MethodHandle" ∧ y.cls ≠ "java/lang/invoke/VarHandle")
    {W9 : Nat} {Pre : Pt → Array Value → Prop} {Post : Pt → Array Value → Option Value → Pt → Prop} {PostX : Pt → Array Value → Addr → Pt → Prop} (hK : vx_Back l R p e below s args y 3 W9 Pre Post PostX)
    {b : Addr} {cellB : Cell} (hcell : T.heap[b]? = some cellB) (hobj : cellB.vm.isStatics = false) (hcls : s.vm.findClass C = some cellB.cls)
    {g : JFrame} (hg : g.method = m) (hsize : g.locals.size = c.maxLocals) {argsL rest : List Value} (hlen : ∀ sig, parseMethodDescriptor y.desc = some sig → argsL.length = sig.parameters.length)
    (hstack : g.stack = argsL.reverse ++ .ref b :: rest) (hW : 2 * g.monitorRoom + (rest.map fun v => v.category).sum ≤ W9) (hdg : decode c.code g.pc = .ok (.invokevirtual index, 3))
    (hpre : ∀ vm₁, s.WarmedH vm₁ → Pre ⟨T.setVm vm₁, locs, cells, slots⟩ (Value.ref b :: argsL).toArray) :
    (∃ (v : Option Value) (vm₁ : Vm) (B : Pt), s.WarmedH vm₁ ∧ Stand p l e R s m args below meth c B.U B.locs B.cells B.slots ∧ Post ⟨T.setVm vm₁, locs, cells, slots⟩ (Value.ref b :: argsL).toArray v B ∧
      ∀ target, Steps p.tables e below (B.U.setTop { g with pc := g.pc + 3, stack := v.toList ++ rest }) target → Steps p.tables e below (T.setTop g) target) ∨
    (∃ (q : Addr) (vm₁ : Vm) (B : Pt), s.WarmedH vm₁ ∧ Stand p l e R s m args below meth c B.U B.locs B.cells B.slots ∧ PostX ⟨T.setVm vm₁, locs, cells, slots⟩ (Value.ref b :: argsL).toArray q B ∧
      Steps p.tables e below (T.setTop g) ((B.U.setTop { g with stack := rest }).pushFrame (.throwing q))) := by
  obtain ⟨mk, methM, hnamed, hmethM, hstM, habM⟩ := Cond.instanceMethod_spec hinst
  obtain ⟨methM', cM, hmethM', -, -, -, -, -, -, hsigM⟩ := Cond.code_spec hnamed hcode
  cases hmethM.symm.trans hmethM'
  obtain ⟨c2, r2, m2, q1, q2, q3, q4, kP, hkP, hkPi⟩ := Cond.selects_spec hsel
  cases hcls.symm.trans q1
  cases (State.methodFound?_of_named hnamed hy).symm.trans q2
  cases hnamed.symm.trans q3
  have hselP : selectMethod e.platform s.vm cellB.cls mk = .method mk := by rw [Launch.admits_selectMethod X.admits]; exact q4
  obtain ⟨vm₁, X₁, hstep₁⟩ := X.invokevirtual hexec hown hlink hnamed hmethM hstM hkP hkPi hy (a := b) (cell := cellB) hcell
    (fun z h => by rw [h] at hobj; cases hobj) hselP hmethM habM hkP hkPi (g := g) hg (argsL := argsL) (rest := rest) (hlen _ hsigM) hstack hdg
  rcases hK m meth c ⟨T.setVm vm₁, locs, cells, slots⟩ { g with stack := rest } (.invokevirtual index) mk (Value.ref b :: argsL).toArray X₁ hg hsize hdg hW (X₁.named hnamed) (hpre vm₁ X₁.warmed) with ⟨v, B, X', hpost, hsteps⟩ | ⟨q, B, X', hpost, hsteps⟩
  · exact Or.inl ⟨v, vm₁, B, X₁.warmed, X', hpost, fun target h => hstep₁ _ fun acts => by rw [doInvoke_state]; exact hsteps.trans h⟩
  · exact Or.inr ⟨q, vm₁, B, X₁.warmed, X', hpost, hstep₁ _ fun acts => by rw [doInvoke_state]; exact hsteps⟩
theorem vx_callS (X : Stand p l e R s m args below meth c T locs cells slots) (hexec : p.tables.exec = Jvm.exec) {own : String} {index : Nat} {y : MethodName} {bytes : ByteArray} {maxL : Nat} {ret : Option FieldType}
    (hown : s.vm.findClass own = some m.cls) (hlink : (Cond.methodLink own index y).before args s = true) (hstat : (Cond.static y).before args s = true) (hinit : (Cond.initialized y.cls).before args s = true)
    (hcode : (Cond.code y bytes maxL ret).before args s = true) (hy : y.cls ≠ "java/lang/invoke/MethodHandle" ∧ y.cls ≠ "java/lang/invoke/VarHandle")
    {W9 : Nat} {Pre : Pt → Array Value → Prop} {Post : Pt → Array Value → Option Value → Pt → Prop} {PostX : Pt → Array Value → Addr → Pt → Prop} (hK : vx_Back l R p e below s args y 3 W9 Pre Post PostX)
    {g : JFrame} (hg : g.method = m) (hsize : g.locals.size = c.maxLocals) {argsL rest : List Value} (hlen : ∀ sig, parseMethodDescriptor y.desc = some sig → argsL.length = sig.parameters.length)
    (hstack : g.stack = argsL.reverse ++ rest) (hW : 2 * g.monitorRoom + (rest.map fun v => v.category).sum ≤ W9) (hdg : decode c.code g.pc = .ok (.invokestatic index, 3))
    (hpre : ∀ vm₁, s.WarmedH vm₁ → Pre ⟨T.setVm vm₁, locs, cells, slots⟩ argsL.toArray) :
    (∃ (v : Option Value) (vm₁ : Vm) (B : Pt), s.WarmedH vm₁ ∧ Stand p l e R s m args below meth c B.U B.locs B.cells B.slots ∧ Post ⟨T.setVm vm₁, locs, cells, slots⟩ argsL.toArray v B ∧
      ∀ target, Steps p.tables e below (B.U.setTop { g with pc := g.pc + 3, stack := v.toList ++ rest }) target → Steps p.tables e below (T.setTop g) target) ∨
    (∃ (q : Addr) (vm₁ : Vm) (B : Pt), s.WarmedH vm₁ ∧ Stand p l e R s m args below meth c B.U B.locs B.cells B.slots ∧ PostX ⟨T.setVm vm₁, locs, cells, slots⟩ argsL.toArray q B ∧
      Steps p.tables e below (T.setTop g) ((B.U.setTop { g with stack := rest }).pushFrame (.throwing q))) := by
  obtain ⟨mk, hnamed⟩ := Cond.code_named hcode
  obtain ⟨methM, cM, hmethM, -, -, -, -, -, -, hsigM⟩ := Cond.code_spec hnamed hcode
  have hstatic : methM.isStatic = true := Cond.static_spec hnamed hmethM hstat
  obtain ⟨kP, hkP, -⟩ := className_of_methodNamed hnamed
  have hinitP : kP.init = .initialized := Cond.initialized_spec (findClass_of_methodNamed hnamed) hkP hinit
  obtain ⟨vm₁, X₁, hstep₁⟩ := X.invokestatic hexec hown hlink hnamed hmethM hstatic hkP hinitP hy (g := g) hg (argsL := argsL) (rest := rest) (hlen _ hsigM) hstack hdg
  rcases hK m meth c ⟨T.setVm vm₁, locs, cells, slots⟩ { g with stack := rest } (.invokestatic index) mk argsL.toArray X₁ hg hsize hdg hW (X₁.named hnamed) (hpre vm₁ X₁.warmed) with ⟨v, B, X', hpost, hsteps⟩ | ⟨q, B, X', hpost, hsteps⟩
  · exact Or.inl ⟨v, vm₁, B, X₁.warmed, X', hpost, fun target h => hstep₁ _ fun acts => by rw [doInvoke_state]; exact hsteps.trans h⟩
  · exact Or.inr ⟨q, vm₁, B, X₁.warmed, X', hpost, hstep₁ _ fun acts => by rw [doInvoke_state]; exact hsteps⟩
end Calls
theorem vx_cls {s : State} {T : State} {vm₁ : Vm} {E : String} {k : ClassId} (hW : s.WarmedH vm₁) (h : (T.setVm vm₁).vm.findClass E = some k) : s.vm.findClass E = some k := by
  have h1 : vm₁.findClass E = some k := h
  rw [hW.alike.findClass] at h1
  exact h1
/-- the method's frame g, with q thrown over it -/
def vx_W (p : Program) (l : Launch) (e : Env) (R : Room) (s : State) (m : MethodId) (args : Array Value) (below : List Frame) (meth : Method) (c : Code) (H : Heap) (locs : List Loc) (cells slots : Nat) (Q : State → Prop) (g : JFrame) (q : Addr) : Prop :=
  ∀ T : State, T.heap = H → Stand p l e R s m args below meth c T locs cells slots → ∃ t, Steps p.tables e below ((T.setTop g).pushFrame (.throwing q)) t ∧ Q t
def vx_Run (p : Program) (l : Launch) (e : Env) (R : Room) (s : State) (m : MethodId) (args : Array Value) (below : List Frame) (meth : Method) (c : Code) (H : Heap) (locs : List Loc) (cells slots mc ms : Nat) (g : JFrame) (rest : List Value) (Qa : State → Outcome → State → Prop) (XC : String → State → State → Prop) (free : Addr → Prop) : Prop :=
  ∀ T : State, T.heap = H → Stand p l e R s m args below meth c T locs cells slots →
    (∃ (v : Option Value) (st₀ t T' : State) (L : List Loc), st₀.heap = H ∧ Stand p l e R s m args below meth c T' (locs ++ L) (cells + mc) (slots + ms) ∧ (∀ q ∈ L, free q.base) ∧ T'.heap = t.heap ∧ T'.vm = t.vm ∧ Qa st₀ (.returned v) t ∧
      Goes p e below T g T' { g with pc := g.pc + 3, stack := v.toList ++ rest }) ∨
    (∃ (q : Addr) (st₀ t T' : State) (L : List Loc) (E : String) (ce : Cell), st₀.heap = H ∧ Stand p l e R s m args below meth c T' (locs ++ L) (cells + mc) (slots + ms) ∧ (∀ z ∈ L, free z.base) ∧ T'.heap = t.heap ∧ T'.vm = t.vm ∧ XC E st₀ t ∧ t.heap[q]? = some ce ∧ ce.vm = .none ∧ s.vm.findClass E = some ce.cls ∧
      Steps p.tables e below (T.setTop g) ((T'.setTop { g with stack := rest }).pushFrame (.throwing q)))
def vx_X {S : Type} (px : S → Prop) (B : String → S → State → Prop) (A : Nat → Prop) : String → State → State → Prop := fun E st t => ∃ u : S, px u ∧ B E u t ∧ va_F A st t
section Runs
variable {p : Program} {l : Launch} {e : Env} {R : Room} {s : State} {m : MethodId} {args : Array Value} {below : List Frame} {meth : Method} {c : Code} {H : Heap} {locs : List Loc} {cells slots : Nat}
variable {y : MethodName} {bytes cc : ByteArray} {maxL nL mc ms n index : Nat} {ret : Option FieldType} {ws : List Cond} {rm : Room} {Pc : Array Value → State → Prop} {Qc : Array Value → State → Outcome → State → Prop} {XC : String → State → State → Prop} {free : Addr → Prop} {Ts : List Cond} {own C : String} {b : Addr} {As rest : List Value} {g : JFrame}
theorem vx_callBack (cb : CallB R s args own index y bytes maxL ret ws rm mc ms n) (hM : vx_Met l y ws rm Pc Qc XC mc ms free) (hbl : FrameBlind Pc) : vx_Back l R p e below s args y 3 8 (PreOf R mc ms Pc) (PostOf Qc mc ms free) (vx_Post XC mc ms free) := by
  obtain ⟨hrc, hrs, hfr, hlo, hws, hcw, -, hini, -⟩ := cb
  exact vx_back (bytes := bytes) (maxL := maxL) (ret := ret) hM hbl hrc hrs hfr hlo hws hcw (fun a' U hW => word_at hW (Or.inl (by first | rfl | simp [Cond.onTables, Cond.keeps, Cond.steady])) hini)
theorem vx_runV (S : CallFix p m c cc nL s args Ts own) (hM : vx_Met l y ws rm Pc Qc XC mc ms free) (cw : CallW R s args own C index y bytes maxL ret ws rm mc ms n) (hp : PreV s H C b Pc As)
    (hg : g.method = m) (hn : As.length = n) (hsize : g.locals.size = nL) (hstack : g.stack = As.reverse ++ .ref b :: rest) (hW : 2 * g.monitorRoom + (rest.map fun v => v.category).sum ≤ 8) (hdg : decode cc g.pc = .ok (.invokevirtual index, 3)) (hf : cells + mc ≤ R.cells ∧ slots + ms ≤ R.slots) :
    vx_Run p l e R s m args below meth c H locs cells slots mc ms g rest (Qc (Value.ref b :: As).toArray) XC free := by
  have hK : vx_Back l R p e below s args y 3 8 (PreOf R mc ms Pc) (PostOf Qc mc ms free) (vx_Post XC mc ms free) := vx_callBack cw.1 hM hp.1
  obtain ⟨⟨-, -, -, -, -, -, hcode, -, hy, hlen, hl⟩, hin, hse⟩ := cw
  obtain ⟨hx, hb, hml, ho, -⟩ := S
  obtain ⟨-, ⟨cellB, hcB, hoB, hclB⟩, hPc⟩ := hp
  intro T hT X
  rcases vx_callV X hx (C := C) (bytes := bytes) (maxL := maxL) (ret := ret) ho hl hin hse hcode hy hK (by rw [hT]; exact hcB) hoB hclB hg (hsize.trans hml.symm) (argsL := As) (rest := rest) (fun sig h => hn.trans (hlen sig h)) hstack hW (by rw [hb]; exact hdg)
    (fun vm₁ hW₁ => ⟨hf.1, hf.2, hPc (T.setVm vm₁) hT hW₁⟩) with ⟨v, vm₁, ⟨U', l2, c2, s2⟩, hW₁, X', ⟨g', mk, t, L, e1, e2, hq, h1, hL, h2, h3⟩, st⟩ | ⟨q, vm₁, ⟨U', l2, c2, s2⟩, hW₁, X', ⟨g', mk, t, L, E, ce, e1, e2, hq, hce, hcv, hcl, h1, hL, h2, h3⟩, st⟩
  · dsimp only [Pt.U, Pt.locs, Pt.cells, Pt.slots] at X' e1 e2 h1 h2 h3 st
    subst h1; subst h2; subst h3
    exact Or.inl ⟨v, (T.setVm vm₁).calling g' mk (Value.ref b :: As).toArray, t, U', L, hT, X', hL, e1, e2, hq, st⟩
  · dsimp only [Pt.U, Pt.locs, Pt.cells, Pt.slots] at X' e1 e2 h1 h2 h3 st hcl
    subst h1; subst h2; subst h3
    exact Or.inr ⟨q, (T.setVm vm₁).calling g' mk (Value.ref b :: As).toArray, t, U', L, E, ce, hT, X', hL, e1, e2, hq, hce, hcv, vx_cls hW₁ hcl, st⟩
theorem vx_runS (S : CallFix p m c cc nL s args Ts own) (hM : vx_Met l y ws rm Pc Qc XC mc ms free) (cw : CallB R s args own index y bytes maxL ret ws rm mc ms n ∧ (Cond.static y).before args s = true) (hp : PreS s H Pc As)
    (hg : g.method = m) (hn : As.length = n) (hsize : g.locals.size = nL) (hstack : g.stack = As.reverse ++ rest) (hW : 2 * g.monitorRoom + (rest.map fun v => v.category).sum ≤ 8) (hdg : decode cc g.pc = .ok (.invokestatic index, 3)) (hf : cells + mc ≤ R.cells ∧ slots + ms ≤ R.slots) :
    vx_Run p l e R s m args below meth c H locs cells slots mc ms g rest (Qc As.toArray) XC free := by
  have hK : vx_Back l R p e below s args y 3 8 (PreOf R mc ms Pc) (PostOf Qc mc ms free) (vx_Post XC mc ms free) := vx_callBack cw.1 hM hp.1
  obtain ⟨⟨-, -, -, -, -, -, hcode, hini, hy, hlen, hl⟩, hstt⟩ := cw
  obtain ⟨hx, hb, hml, ho, -⟩ := S
  intro T hT X
  rcases vx_callS X hx (bytes := bytes) (maxL := maxL) (ret := ret) ho hl hstt hini hcode hy hK hg (hsize.trans hml.symm) (argsL := As) (rest := rest) (fun sig h => hn.trans (hlen sig h)) hstack hW (by rw [hb]; exact hdg)
    (fun vm₁ hW₁ => ⟨hf.1, hf.2, hp.2 (T.setVm vm₁) hT hW₁⟩) with ⟨v, vm₁, ⟨U', l2, c2, s2⟩, hW₁, X', ⟨g', mk, t, L, e1, e2, hq, h1, hL, h2, h3⟩, st⟩ | ⟨q, vm₁, ⟨U', l2, c2, s2⟩, hW₁, X', ⟨g', mk, t, L, E, ce, e1, e2, hq, hce, hcv, hcl, h1, hL, h2, h3⟩, st⟩
  · dsimp only [Pt.U, Pt.locs, Pt.cells, Pt.slots] at X' e1 e2 h1 h2 h3 st
    subst h1; subst h2; subst h3
    exact Or.inl ⟨v, (T.setVm vm₁).calling g' mk As.toArray, t, U', L, hT, X', hL, e1, e2, hq, st⟩
  · dsimp only [Pt.U, Pt.locs, Pt.cells, Pt.slots] at X' e1 e2 h1 h2 h3 st hcl
    subst h1; subst h2; subst h3
    exact Or.inr ⟨q, (T.setVm vm₁).calling g' mk As.toArray, t, U', L, E, ce, hT, X', hL, e1, e2, hq, hce, hcv, vx_cls hW₁ hcl, st⟩
end Runs
section Rows
variable {p : Program} {l : Launch} {e : Env} {R : Room} {s : State} {m : MethodId} {args : Array Value} {below : List Frame} {meth : Method} {c : Code} {H : Heap} {locs : List Loc} {cells slots : Nat} {Q : State → Prop}
variable {mc ms : Nat} {free : Addr → Prop} {A0 A1 : Nat → Prop} {H0 : Heap} {a : Array Value} {pc : Nat} {ls : Array Slot} {st0 rest : List Value}
theorem vx_keep {st₀ t T' : State} {L : List Loc} (h0 : st₀.heap = H) (e1 : T'.heap = t.heap) (hS : va_S A0 H0 H locs) (hA : ∀ q, q < H.size → A1 q → A0 q) (hf : ∀ q, free q → A0 q) (hL : ∀ q ∈ L, free q.base) (hF : va_F A1 st₀ t) :
    H.size ≤ T'.heap.size ∧ (∀ q : Nat, q < H.size → ¬ A1 q → T'.heap[q]? = H[q]?) ∧ va_S A0 H0 T'.heap (locs ++ L) := by
  obtain ⟨hz, hk⟩ := hF
  rw [h0] at hz hk
  exact ⟨by rw [e1]; exact hz, fun q h1 h2 => by rw [e1]; exact hk q h1 h2,
    ⟨Nat.le_trans hS.1 (by rw [e1]; exact hz), fun q h1 h2 => by rw [e1, hk q (Nat.lt_of_lt_of_le h1 hS.1) (fun z => h2 (hA q (Nat.lt_of_lt_of_le h1 hS.1) z))]; exact hS.2.1 q h1 h2, fun q hq => by
      rcases List.mem_append.mp hq with h | h
      · exact hS.2.2 q h
      · exact hf _ (hL q h)⟩⟩
theorem vx_calli {S SX : Type} {post : Int32 → S → Prop} {px : SX → Prop} {B : S → State → Prop} {BX : String → SX → State → Prop} {AX : Nat → Prop} (hr : vx_Run p l e R s m args below meth c H locs cells slots mc ms (F0 m pc ls st0) rest (va_Qi post B A1 a) (vx_X px BX AX) free) (hS : va_S A0 H0 H locs) (hA : ∀ q, q < H.size → A1 q → A0 q) (hf : ∀ q, free q → A0 q) (hAX : ∀ q, q < H.size → AX q → A0 q)
    (kx : ∀ (E : String) (ce : Cell) (q9 : Addr) (u : SX) (t : State) (H1 : Heap) (locs1 : List Loc), t.heap = H1 → s.vm.Alike t.vm → px u → BX E u t → H.size ≤ H1.size → (∀ q : Nat, q < H.size → ¬ AX q → H1[q]? = H[q]?) → va_S A0 H0 H1 locs1 → H1[q9]? = some ce → ce.vm = .none → s.vm.findClass E = some ce.cls → vx_W p l e R s m args below meth c H1 locs1 (cells + mc) (slots + ms) Q (F0 m pc ls rest) q9)
    (kk : ∀ (r : Int32) (u : S) (t : State) (H1 : Heap) (locs1 : List Loc), t.heap = H1 → s.vm.Alike t.vm → post r u → B u t → H.size ≤ H1.size → (∀ q : Nat, q < H.size → ¬ A1 q → H1[q]? = H[q]?) → va_S A0 H0 H1 locs1 → W p l e R s m args below meth c H1 locs1 (cells + mc) (slots + ms) Q (F0 m (pc + 3) ls (.int r :: rest))) : W p l e R s m args below meth c H locs cells slots Q (F0 m pc ls st0) := by
  intro T hT X
  rcases hr T hT X with ⟨v, st₀, t, T', L, h0, X', hL, e1, e2, ⟨⟨r, u, hv, hp, hb⟩, hF⟩, st⟩ | ⟨q, st₀, t, T', L, E, ce, h0, X', hL, e1, e2, ⟨u, hp, hb, hF⟩, hce, hcv, hcl, st⟩
  · cases hv
    obtain ⟨k1, k2, k3⟩ := vx_keep h0 e1 hS hA hf hL hF
    obtain ⟨t2, a1, b1⟩ := kk r u t T'.heap (locs ++ L) e1.symm (by rw [← e2]; exact X'.warmed.alike) hp hb k1 k2 k3 T' rfl X'
    exact ⟨t2, st t2 a1, b1⟩
  · obtain ⟨k1, k2, k3⟩ := vx_keep h0 e1 hS hAX hf hL hF
    obtain ⟨t2, a1, b1⟩ := kx E ce q u t T'.heap (locs ++ L) e1.symm (by rw [← e2]; exact X'.warmed.alike) hp hb k1 k2 k3 (by rw [e1]; exact hce) hcv hcl T' rfl X'
    exact ⟨t2, st.trans a1, b1⟩
theorem vx_calll {S SX : Type} {post : Int64 → S → Prop} {px : SX → Prop} {B : S → State → Prop} {BX : String → SX → State → Prop} {AX : Nat → Prop} (hr : vx_Run p l e R s m args below meth c H locs cells slots mc ms (F0 m pc ls st0) rest (va_Ql post B A1 a) (vx_X px BX AX) free) (hS : va_S A0 H0 H locs) (hA : ∀ q, q < H.size → A1 q → A0 q) (hf : ∀ q, free q → A0 q) (hAX : ∀ q, q < H.size → AX q → A0 q)
    (kx : ∀ (E : String) (ce : Cell) (q9 : Addr) (u : SX) (t : State) (H1 : Heap) (locs1 : List Loc), t.heap = H1 → s.vm.Alike t.vm → px u → BX E u t → H.size ≤ H1.size → (∀ q : Nat, q < H.size → ¬ AX q → H1[q]? = H[q]?) → va_S A0 H0 H1 locs1 → H1[q9]? = some ce → ce.vm = .none → s.vm.findClass E = some ce.cls → vx_W p l e R s m args below meth c H1 locs1 (cells + mc) (slots + ms) Q (F0 m pc ls rest) q9)
    (kk : ∀ (r : Int64) (u : S) (t : State) (H1 : Heap) (locs1 : List Loc), t.heap = H1 → s.vm.Alike t.vm → post r u → B u t → H.size ≤ H1.size → (∀ q : Nat, q < H.size → ¬ A1 q → H1[q]? = H[q]?) → va_S A0 H0 H1 locs1 → W p l e R s m args below meth c H1 locs1 (cells + mc) (slots + ms) Q (F0 m (pc + 3) ls (.long r :: rest))) : W p l e R s m args below meth c H locs cells slots Q (F0 m pc ls st0) := by
  intro T hT X
  rcases hr T hT X with ⟨v, st₀, t, T', L, h0, X', hL, e1, e2, ⟨⟨r, u, hv, hp, hb⟩, hF⟩, st⟩ | ⟨q, st₀, t, T', L, E, ce, h0, X', hL, e1, e2, ⟨u, hp, hb, hF⟩, hce, hcv, hcl, st⟩
  · cases hv
    obtain ⟨k1, k2, k3⟩ := vx_keep h0 e1 hS hA hf hL hF
    obtain ⟨t2, a1, b1⟩ := kk r u t T'.heap (locs ++ L) e1.symm (by rw [← e2]; exact X'.warmed.alike) hp hb k1 k2 k3 T' rfl X'
    exact ⟨t2, st t2 a1, b1⟩
  · obtain ⟨k1, k2, k3⟩ := vx_keep h0 e1 hS hAX hf hL hF
    obtain ⟨t2, a1, b1⟩ := kx E ce q u t T'.heap (locs ++ L) e1.symm (by rw [← e2]; exact X'.warmed.alike) hp hb k1 k2 k3 (by rw [e1]; exact hce) hcv hcl T' rfl X'
    exact ⟨t2, st.trans a1, b1⟩
theorem vx_callf {S SX : Type} {post : UInt32 → S → Prop} {px : SX → Prop} {B : S → State → Prop} {BX : String → SX → State → Prop} {AX : Nat → Prop} (hr : vx_Run p l e R s m args below meth c H locs cells slots mc ms (F0 m pc ls st0) rest (va_Qf post B A1 a) (vx_X px BX AX) free) (hS : va_S A0 H0 H locs) (hA : ∀ q, q < H.size → A1 q → A0 q) (hf : ∀ q, free q → A0 q) (hAX : ∀ q, q < H.size → AX q → A0 q)
    (kx : ∀ (E : String) (ce : Cell) (q9 : Addr) (u : SX) (t : State) (H1 : Heap) (locs1 : List Loc), t.heap = H1 → s.vm.Alike t.vm → px u → BX E u t → H.size ≤ H1.size → (∀ q : Nat, q < H.size → ¬ AX q → H1[q]? = H[q]?) → va_S A0 H0 H1 locs1 → H1[q9]? = some ce → ce.vm = .none → s.vm.findClass E = some ce.cls → vx_W p l e R s m args below meth c H1 locs1 (cells + mc) (slots + ms) Q (F0 m pc ls rest) q9)
    (kk : ∀ (r : UInt32) (u : S) (t : State) (H1 : Heap) (locs1 : List Loc), t.heap = H1 → s.vm.Alike t.vm → post r u → B u t → H.size ≤ H1.size → (∀ q : Nat, q < H.size → ¬ A1 q → H1[q]? = H[q]?) → va_S A0 H0 H1 locs1 → W p l e R s m args below meth c H1 locs1 (cells + mc) (slots + ms) Q (F0 m (pc + 3) ls (.float r :: rest))) : W p l e R s m args below meth c H locs cells slots Q (F0 m pc ls st0) := by
  intro T hT X
  rcases hr T hT X with ⟨v, st₀, t, T', L, h0, X', hL, e1, e2, ⟨⟨r, u, hv, hp, hb⟩, hF⟩, st⟩ | ⟨q, st₀, t, T', L, E, ce, h0, X', hL, e1, e2, ⟨u, hp, hb, hF⟩, hce, hcv, hcl, st⟩
  · cases hv
    obtain ⟨k1, k2, k3⟩ := vx_keep h0 e1 hS hA hf hL hF
    obtain ⟨t2, a1, b1⟩ := kk r u t T'.heap (locs ++ L) e1.symm (by rw [← e2]; exact X'.warmed.alike) hp hb k1 k2 k3 T' rfl X'
    exact ⟨t2, st t2 a1, b1⟩
  · obtain ⟨k1, k2, k3⟩ := vx_keep h0 e1 hS hAX hf hL hF
    obtain ⟨t2, a1, b1⟩ := kx E ce q u t T'.heap (locs ++ L) e1.symm (by rw [← e2]; exact X'.warmed.alike) hp hb k1 k2 k3 (by rw [e1]; exact hce) hcv hcl T' rfl X'
    exact ⟨t2, st.trans a1, b1⟩
theorem vx_calld {S SX : Type} {post : UInt64 → S → Prop} {px : SX → Prop} {B : S → State → Prop} {BX : String → SX → State → Prop} {AX : Nat → Prop} (hr : vx_Run p l e R s m args below meth c H locs cells slots mc ms (F0 m pc ls st0) rest (va_Qd post B A1 a) (vx_X px BX AX) free) (hS : va_S A0 H0 H locs) (hA : ∀ q, q < H.size → A1 q → A0 q) (hf : ∀ q, free q → A0 q) (hAX : ∀ q, q < H.size → AX q → A0 q)
    (kx : ∀ (E : String) (ce : Cell) (q9 : Addr) (u : SX) (t : State) (H1 : Heap) (locs1 : List Loc), t.heap = H1 → s.vm.Alike t.vm → px u → BX E u t → H.size ≤ H1.size → (∀ q : Nat, q < H.size → ¬ AX q → H1[q]? = H[q]?) → va_S A0 H0 H1 locs1 → H1[q9]? = some ce → ce.vm = .none → s.vm.findClass E = some ce.cls → vx_W p l e R s m args below meth c H1 locs1 (cells + mc) (slots + ms) Q (F0 m pc ls rest) q9)
    (kk : ∀ (r : UInt64) (u : S) (t : State) (H1 : Heap) (locs1 : List Loc), t.heap = H1 → s.vm.Alike t.vm → post r u → B u t → H.size ≤ H1.size → (∀ q : Nat, q < H.size → ¬ A1 q → H1[q]? = H[q]?) → va_S A0 H0 H1 locs1 → W p l e R s m args below meth c H1 locs1 (cells + mc) (slots + ms) Q (F0 m (pc + 3) ls (.double r :: rest))) : W p l e R s m args below meth c H locs cells slots Q (F0 m pc ls st0) := by
  intro T hT X
  rcases hr T hT X with ⟨v, st₀, t, T', L, h0, X', hL, e1, e2, ⟨⟨r, u, hv, hp, hb⟩, hF⟩, st⟩ | ⟨q, st₀, t, T', L, E, ce, h0, X', hL, e1, e2, ⟨u, hp, hb, hF⟩, hce, hcv, hcl, st⟩
  · cases hv
    obtain ⟨k1, k2, k3⟩ := vx_keep h0 e1 hS hA hf hL hF
    obtain ⟨t2, a1, b1⟩ := kk r u t T'.heap (locs ++ L) e1.symm (by rw [← e2]; exact X'.warmed.alike) hp hb k1 k2 k3 T' rfl X'
    exact ⟨t2, st t2 a1, b1⟩
  · obtain ⟨k1, k2, k3⟩ := vx_keep h0 e1 hS hAX hf hL hF
    obtain ⟨t2, a1, b1⟩ := kx E ce q u t T'.heap (locs ++ L) e1.symm (by rw [← e2]; exact X'.warmed.alike) hp hb k1 k2 k3 (by rw [e1]; exact hce) hcv hcl T' rfl X'
    exact ⟨t2, st.trans a1, b1⟩
theorem vx_callv {S SX : Type} {post : S → Prop} {px : SX → Prop} {B : S → State → Prop} {BX : String → SX → State → Prop} {AX : Nat → Prop} (hr : vx_Run p l e R s m args below meth c H locs cells slots mc ms (F0 m pc ls st0) rest (va_Qv post B A1 a) (vx_X px BX AX) free) (hS : va_S A0 H0 H locs) (hA : ∀ q, q < H.size → A1 q → A0 q) (hf : ∀ q, free q → A0 q) (hAX : ∀ q, q < H.size → AX q → A0 q)
    (kx : ∀ (E : String) (ce : Cell) (q9 : Addr) (u : SX) (t : State) (H1 : Heap) (locs1 : List Loc), t.heap = H1 → s.vm.Alike t.vm → px u → BX E u t → H.size ≤ H1.size → (∀ q : Nat, q < H.size → ¬ AX q → H1[q]? = H[q]?) → va_S A0 H0 H1 locs1 → H1[q9]? = some ce → ce.vm = .none → s.vm.findClass E = some ce.cls → vx_W p l e R s m args below meth c H1 locs1 (cells + mc) (slots + ms) Q (F0 m pc ls rest) q9)
    (kk : ∀ (u : S) (t : State) (H1 : Heap) (locs1 : List Loc), t.heap = H1 → s.vm.Alike t.vm → post u → B u t → H.size ≤ H1.size → (∀ q : Nat, q < H.size → ¬ A1 q → H1[q]? = H[q]?) → va_S A0 H0 H1 locs1 → W p l e R s m args below meth c H1 locs1 (cells + mc) (slots + ms) Q (F0 m (pc + 3) ls (rest))) : W p l e R s m args below meth c H locs cells slots Q (F0 m pc ls st0) := by
  intro T hT X
  rcases hr T hT X with ⟨v, st₀, t, T', L, h0, X', hL, e1, e2, ⟨⟨u, hv, hp, hb⟩, hF⟩, st⟩ | ⟨q, st₀, t, T', L, E, ce, h0, X', hL, e1, e2, ⟨u, hp, hb, hF⟩, hce, hcv, hcl, st⟩
  · cases hv
    obtain ⟨k1, k2, k3⟩ := vx_keep h0 e1 hS hA hf hL hF
    obtain ⟨t2, a1, b1⟩ := kk u t T'.heap (locs ++ L) e1.symm (by rw [← e2]; exact X'.warmed.alike) hp hb k1 k2 k3 T' rfl X'
    exact ⟨t2, st t2 a1, b1⟩
  · obtain ⟨k1, k2, k3⟩ := vx_keep h0 e1 hS hAX hf hL hF
    obtain ⟨t2, a1, b1⟩ := kx E ce q u t T'.heap (locs ++ L) e1.symm (by rw [← e2]; exact X'.warmed.alike) hp hb k1 k2 k3 (by rw [e1]; exact hce) hcv hcl T' rfl X'
    exact ⟨t2, st.trans a1, b1⟩
/-- caught by the row x of this method's table; the rows ahead don't take it -/
theorem vx_catch {own name : String} {E : String} {ce : Cell} {q : Addr} (hown : s.vm.findClass own = some m.cls) (pre : List ExceptionTableEntry) (x : ExceptionTableEntry) (suf : List ExceptionTableEntry) (hsplit : c.exceptionTable.toList = pre ++ x :: suf)
    (hpass : ∀ z ∈ pre, covers z pc = false ∨ (z.catchType ≠ 0 ∧ ∃ nm : String, (Cond.classLink own z.catchType nm).before args s = true ∧ va_Nc E nm s)) (hx : covers x pc = true) (h0 : x.catchType ≠ 0)
    (hlink : (Cond.classLink own x.catchType name).before args s = true) (hcast : (Cond.castable E name).before args s = true) (hcell : H[q]? = some ce) (hv : ce.vm = .none) (hcl : s.vm.findClass E = some ce.cls)
    (kk : W p l e R s m args below meth c H locs cells slots Q (F0 m x.handlerPc ls [.ref q])) : vx_W p l e R s m args below meth c H locs cells slots Q (F0 m pc ls rest) q := by
  intro T hT X
  have hpl : e.platform.magicAccessors = ({} : Platform).magicAccessors := by rw [X.admits.platform]
  obtain ⟨c3, c4, hc3, hc4, hasg⟩ := Cond.castable_spec hcast
  cases Option.some.inj (hc3.symm.trans hcl)
  obtain ⟨c5, hc5, hcl5⟩ := Cond.classLink_spec hown hlink e.platform hpl
  cases Option.some.inj (hc4.symm.trans hc5)
  obtain ⟨vm', X', st⟩ := X.thenCaughtThrough q (g := F0 m pc ls rest) rfl (Steps.refl _) (by rw [hT]; exact hcell) (by rw [hv]; rfl) (by obtain ⟨k9, h9, -⟩ := Vm.findClass_spec hcl; exact ⟨k9, h9⟩) pre x suf hsplit
    (fun z hz => by
      rcases hpass z hz with h | ⟨hz0, nm, hl1, hn1⟩
      · exact Or.inl h
      · obtain ⟨c6, hc6, hcl6⟩ := Cond.classLink_spec hown hl1 e.platform hpl
        obtain ⟨a8, b8, h1, h2, h3⟩ := hn1
        cases Option.some.inj (h1.symm.trans hcl)
        cases Option.some.inj (h2.symm.trans hc6)
        exact Or.inr ⟨hz0, _, hcl6, h3⟩) hx (Or.inr ⟨h0, c4, hcl5, hasg⟩)
  obtain ⟨t, a1, b1⟩ := kk (T.setVm vm') hT X'
  exact ⟨t, st.trans a1, b1⟩
end Rows
section Ends
variable {p : Program} {l : Launch} {e : Env} {R : Room} {s : State} {m : MethodId} {args : Array Value} {below : List Frame} {meth : Method} {c : Code} {H : Heap} {locs : List Loc} {cells slots : Nat} {Q : State → Prop}
variable {mc ms : Nat} {free : Addr → Prop} {A0 A1 : Nat → Prop} {H0 : Heap} {a : Array Value} {ls : Array Slot} {st0 rest : List Value}
variable {Qc : Array Value → State → Outcome → State → Prop} {XC : String → State → State → Prop}
/-- what a body that may throw owes at its end -/
def vx_MQ (below : List Frame) (Qc : Array Value → State → Outcome → State → Prop) (XC : String → State → State → Prop) (a : Array Value) (s : State) (mc ms : Nat) (free : Addr → Prop) : State → Prop := fun t =>
  ∃ o, t.status = .running ∧ Ended t below o ∧ vx_Q Qc XC mc ms free a s o t
theorem vx_ret {g : JFrame} {mc ms : Nat} (k : W p l e R s m args below meth c H locs cells slots (MQ below Qc args s mc ms free) g) : W p l e R s m args below meth c H locs cells slots (vx_MQ below Qc XC args s mc ms free) g := by
  intro T hT X
  obtain ⟨t, a1, o, b1, b2, b3, b4⟩ := k T hT X
  exact ⟨t, a1, o, b1, b2, Or.inl ⟨b3, b4⟩⟩
/-- not caught here: it goes on to the caller -/
theorem vx_widen {g : JFrame} {q : Addr} {k n : Nat} (h1 : cells ≤ k) (h2 : slots ≤ n) (kk : vx_W p l e R s m args below meth c H locs k n Q g q) : vx_W p l e R s m args below meth c H locs cells slots Q g q := fun T hT X => kk T hT (stand_widen X h1 h2)
theorem vx_out {pc : Nat} {E : String} {ce : Cell} {q : Addr} {mc ms : Nat} (hout : ∀ x ∈ c.exceptionTable.toList, covers x pc = false) (hlocks : meth.locks = false) (hcell : H[q]? = some ce) (hv : ce.vm = .none) (hcl : s.vm.findClass E = some ce.cls)
    (hx : ∀ t : State, t.heap = H → s.vm.Alike t.vm → XC E s t) (hf : ∀ z ∈ locs, free z.base) (hc : cells ≤ mc) (hs : slots ≤ ms) :
    vx_W p l e R s m args below meth c H locs cells slots (vx_MQ below Qc XC args s mc ms free) (F0 m pc ls rest) q := by
  intro T hT X
  obtain ⟨st1, hrun, hend, hW, hsm⟩ := X.leaveThrown q (g := F0 m pc ls rest) rfl rfl rfl hout hlocks
  have hcell9 : (T.setFrames (.throwing q :: below)).heap[q]? = some ce := by
    show T.heap[q]? = some ce
    rw [hT]; exact hcell
  exact ⟨_, st1, .threw q, hrun, hend, Or.inr ⟨q, rfl, E, ce, locs, hx _ hT hW.alike, hcell9, hv, hcl, hW, hsm.mono hc hs, hf⟩⟩
theorem vx_frame {U : State} {k n : Nat} (h : s.sameButNew ({ U with vm := s.vm } : State) locs k n) : s.heap.size ≤ U.heap.size ∧ ∀ q : Nat, q < s.heap.size → (∀ z ∈ locs, z.base ≠ q) → U.heap[q]? = s.heap[q]? := by
  obtain ⟨-, h2, -, -, -, h6⟩ := h
  refine ⟨h2, fun q hq hz => ?_⟩
  obtain ⟨c9, e1, e2, e3, e4⟩ := h6 q _ (Array.getElem?_eq_getElem hq)
  have hs : c9.slots = (s.heap[q]).slots := Array.ext_getElem? fun i => e4 i fun hm => hz _ hm rfl
  have h9 : c9 = s.heap[q] := by
    rw [hs] at e2
    exact e2
  have e5 : U.heap[q]? = some c9 := e1
  rw [e5, h9, Array.getElem?_eq_getElem hq]
/-- the words of a throw but the four that speak of the heap -/
def vx_no (w : Cond) : Bool := decide (w ≠ .isRef (.static Bundle.tN "UNASSIGNED_STACK" Bundle.steD)) && decide (w ≠ .isRef (.static Bundle.tN "SUPPRESSED_SENTINEL" Bundle.listD)) && decide (w ≠ .laysStatic Bundle.tN "UNASSIGNED_STACK" Bundle.steD) && decide (w ≠ .laysStatic Bundle.tN "SUPPRESSED_SENTINEL" Bundle.listD)
def vx_at0 (own : String) (ic : Nat) (X : String) (names : List String) : List Cond := (Bundle.ownAtoms0 own ic X names).filter vx_no
def vx_atS (own : String) (ic : Nat) (X : String) (names : List String) : List Cond := (Bundle.ownAtoms own ic X names).filter vx_no
/-- a word that the tables alone decide, or a good one -/
def vx_ot (w : Cond) : Bool := w.onTables || goodWord w
theorem vx_ot_at {args a' : Array Value} {s U : State} {w : Cond} (hW : s.WarmedH U.vm) (hvm : s.vm = U.vm) (hg : vx_ot w = true) (h : w.before args s = true) : w.before a' U = true := by
  simp only [vx_ot, Bool.or_eq_true] at hg
  rcases hg with hg | hg
  · exact va_tabs hg hvm h
  · exact word_at hW (good_of_word hg) h
/-- a list's words: the good ones out of the method's own list, the others by premises of their own -/
theorem vx_hat {args : Array Value} {s : State} {L B : List Cond} (h1 : ∀ w ∈ L.filter goodWord, w.before args s = true) (h2 : ∀ w ∈ L.filter (fun w => !goodWord w), w ∈ B) (h3 : ∀ w ∈ B, w.before args s = true) : ∀ w ∈ L, w.before args s = true := by
  intro w hw
  by_cases g : goodWord w = true
  · exact h1 w (List.mem_filter.mpr ⟨hw, g⟩)
  · refine h3 w (h2 w (List.mem_filter.mpr ⟨hw, ?_⟩))
    show (!goodWord w) = true
    cases hgw : goodWord w
    · rfl
    · exact absurd hgw g
theorem vx_c {args : Array Value} {s : State} {w : Cond} {B : List Cond} (h : w.before args s = true) (t : ∀ w ∈ B, w.before args s = true) : ∀ w' ∈ w :: B, w'.before args s = true := fun w' h' => (List.mem_cons.mp h').elim (fun e => by rw [e]; exact h) (t w')
theorem vx_n {args : Array Value} {s : State} : ∀ w ∈ ([] : List Cond), w.before args s = true := fun _ h => nomatch h
theorem vx_own {args : Array Value} {s : State} {L : List Cond} (h1 : ∀ w ∈ L.filter vx_no, w.before args s = true)
    (hU : (Cond.isRef (.static Bundle.tN "UNASSIGNED_STACK" Bundle.steD)).before args s = true) (hN : (Cond.isRef (.static Bundle.tN "SUPPRESSED_SENTINEL" Bundle.listD)).before args s = true)
    (lU : (Cond.laysStatic Bundle.tN "UNASSIGNED_STACK" Bundle.steD).before args s = true) (lN : (Cond.laysStatic Bundle.tN "SUPPRESSED_SENTINEL" Bundle.listD).before args s = true) : ∀ w ∈ L, w.before args s = true := by
  intro w hw
  by_cases e1 : w = .isRef (.static Bundle.tN "UNASSIGNED_STACK" Bundle.steD)
  · rw [e1]; exact hU
  · by_cases e2 : w = .isRef (.static Bundle.tN "SUPPRESSED_SENTINEL" Bundle.listD)
    · rw [e2]; exact hN
    · by_cases e3 : w = .laysStatic Bundle.tN "UNASSIGNED_STACK" Bundle.steD
      · rw [e3]; exact lU
      · by_cases e4 : w = .laysStatic Bundle.tN "SUPPRESSED_SENTINEL" Bundle.listD
        · rw [e4]; exact lN
        · exact h1 w (List.mem_filter.mpr ⟨hw, by unfold vx_no; rw [decide_eq_true e1, decide_eq_true e2, decide_eq_true e3, decide_eq_true e4]; rfl⟩)
/-- where a static field lies, its class's statics cell in H -/
def vx_L (C n d : String) (A : Nat → Prop) (U : State) (H : Heap) : Prop := ∃ (c : ClassId) (k : Class) (i : Nat) (f : Field) (a : Nat) (cell : Cell), U.vm.findClass C = some c ∧ U.fieldFound? C n d = some (c, k, i, f) ∧ f.isStatic = true ∧ k.statics = some a ∧ H[a]? = some cell ∧ cell.vm.isStatics = true ∧ cell.cls = c ∧ f.slot < cell.slots.size ∧ k.staticTypes[f.slot]? = some f.type ∧ ¬ A a
theorem vx_L.moved {C n d : String} {A : Nat → Prop} {u U : State} {H : Heap} (hvm : u.vm.Alike U.vm) (h : vx_L C n d A u H) : vx_L C n d A U H := by
  obtain ⟨c, k, i, f, a, cell, h1, h2, h3, h4, h5, h6, h7, h8, h9, h10⟩ := h
  obtain ⟨k', hi', he⟩ := State.fieldFound?_setVm hvm h2
  exact ⟨c, k', i, f, a, cell, by rw [hvm.findClass]; exact h1, hi', h3, by rw [he]; exact h4, h5, h6, h7, h8, by rw [he]; exact h9, h10⟩
theorem vx_L.kept {C n d : String} {A : Nat → Prop} {U : State} {H H1 : Heap} (h : vx_L C n d A U H) (hq : ∀ a : Nat, a < H.size → ¬ A a → H1[a]? = H[a]?) : vx_L C n d A U H1 := by
  obtain ⟨c, k, i, f, a, cell, h1, h2, h3, h4, h5, h6, h7, h8, h9, h10⟩ := h
  exact ⟨c, k, i, f, a, cell, h1, h2, h3, h4, by rw [hq a (Array.getElem?_eq_some_iff.mp h5).1 h10]; exact h5, h6, h7, h8, h9, h10⟩
theorem vx_L.narrow {C n d : String} {A B : Nat → Prop} {U : State} {H : Heap} (h : vx_L C n d A U H) (hAB : ∀ q, B q → A q) : vx_L C n d B U H := by
  obtain ⟨c, k, i, f, a, cell, h1, h2, h3, h4, h5, h6, h7, h8, h9, h10⟩ := h
  exact ⟨c, k, i, f, a, cell, h1, h2, h3, h4, h5, h6, h7, h8, h9, fun z => h10 (hAB _ z)⟩
theorem vx_L.word {C n d : String} {A : Nat → Prop} {s : State} {args : Array Value} (h : vx_L C n d A s s.heap) : (Cond.laysStatic C n d).before args s = true := by
  obtain ⟨c, k, i, f, a, cell, h1, h2, h3, h4, h5, h6, h7, h8, h9, -⟩ := h
  show (Cond.laysStatic C n d).holds args s none s [] = true
  exact Cond.laysStatic_of h1 h2 h3 h4 h5 h6 h7 h8 h9
/-- .. and what it holds: null or some reference -/
def vx_Zq (C n d : String) (A : Nat → Prop) (U : State) (H : Heap) : Prop := va_Zq C n d A U H ∧ vx_L C n d A U H
theorem vx_Zq.moved {C n d : String} {A : Nat → Prop} {u U : State} {H : Heap} (hvm : u.vm.Alike U.vm) (h : vx_Zq C n d A u H) : vx_Zq C n d A U H := ⟨va_Zq.moved hvm h.1, vx_L.moved hvm h.2⟩
theorem vx_Zq.kept {C n d : String} {A : Nat → Prop} {U : State} {H H1 : Heap} (h : vx_Zq C n d A U H) (hq : ∀ a : Nat, a < H.size → ¬ A a → H1[a]? = H[a]?) : vx_Zq C n d A U H1 := ⟨va_Zq.kept h.1 hq, vx_L.kept h.2 hq⟩
theorem vx_Zq.narrow {C n d : String} {A B : Nat → Prop} {U : State} {H : Heap} (h : vx_Zq C n d A U H) (hAB : ∀ q, B q → A q) : vx_Zq C n d B U H := ⟨va_Zq.narrow h.1 hAB, vx_L.narrow h.2 hAB⟩
theorem vx_Zqof {args : Array Value} {s : State} {C n d : String} {A : Nat → Prop} (hl : (Cond.laysStatic C n d).before args s = true) (hini : (Cond.initialized C).before args s = true) (h : (Cond.isRef (.static C n d)).before args s = true) (hA : ∀ a : Nat, a < s.heap.size → ¬ A a) : vx_Zq C n d A s s.heap := by
  refine ⟨va_Zqof hl hini h hA, ?_⟩
  obtain ⟨c, k, i, f, a, cell, h1, h2, h3, h4, h5, h6, h7, h8, h9⟩ := Cond.laysStatic_spec hl
  exact ⟨c, k, i, f, a, cell, h1, h2, h3, h4, h5, h6, h7, h8, h9, hA a (Array.getElem?_eq_some_iff.mp h5).1⟩
theorem vx_isRef {C n d : String} {v : Value} {A : Nat → Prop} {s : State} {args : Array Value} (h : va_Z C n d v A s s.heap) (hv : v.isRef = true) : (Cond.isRef (.static C n d)).before args s = true := by
  obtain ⟨cf, kf, fi, f, a, cell, h1, h2, h3, h4, h5, h6, h7, -⟩ := h
  have he : (Term.static C n d).eval args s none [] s = some v := by
    simp [Term.eval, State.fieldNamed?, h1, h2, h4, h5, h6, h7]
  simp only [Cond.before, Cond.holds, Cond.value, he]
  cases v <;> simp_all [Value.isRef]
theorem vx_isRefq {C n d : String} {A : Nat → Prop} {s : State} {args : Array Value} (h : va_Zq C n d A s s.heap) : (Cond.isRef (.static C n d)).before args s = true := by
  rcases h with h | ⟨t, h⟩
  · exact vx_isRef h rfl
  · exact vx_isRef h rfl
/-- the same frame, seen from here: as if the method were called anew in this heap -/
theorem vx_rebase {T : State} (X : Stand p l e R s m args below meth c T locs cells slots) {R' : Room} (hf : R'.frames ≤ R.frames) (hl : R'.locals ≤ R.locals) (hc : cells + R'.cells ≤ R.cells) (hs : slots + R'.slots ≤ R.slots) :
    Stand p l e R' ((T.setVm s.vm).setFrames (.invoking m args :: below)) m args below meth c T [] 0 0 := by
  have htop : (T.setVm s.vm).topJava?.isSome := X.here.top
  have hF : ((T.setVm s.vm).setFrames (.invoking m args :: below)).frames = .invoking m args :: below := State.frames_setFrames _ (State.cur_lt_of_top htop)
  obtain ⟨g₀, hg0⟩ := Option.isSome_iff_exists.mp htop
  obtain ⟨r, hr⟩ := State.topJava?_eq_some.mp hg0
  have hl9 : e.platform.stackLimits (T.setVm s.vm).me = e.platform.stackLimits s.me := X.limits
  have hb9 : (T.setVm s.vm).me.stackBytes = s.me.stackBytes := X.bytes
  refine ⟨X.admits, X.cas, X.clock, hF, ?_, X.hears, X.method, X.code, X.here, X.tail, X.warmed, ?_, ?_, ?_⟩
  · have h := X.room
    have hU : ((T.setVm s.vm).setFrames (.invoking m args :: below)).localsInUse = s.localsInUse := by
      rw [State.localsInUse_invoking hF (meth := meth) (c := c) X.method X.code, State.localsInUse_invoking X.frames X.method X.code]
    simp only [State.hasRoom, Bool.and_eq_true, decide_eq_true_eq] at h ⊢
    obtain ⟨⟨⟨⟨h1, h2, h3, h4, h5, h6⟩, h7⟩, h8⟩, h9⟩ := h
    rw [X.frames, List.length_cons] at h2 h3
    have q1 := X.heapSize
    have q2 := X.used
    simp only [hF, hU, List.length_cons, State.stackLimits_setFrames, State.stackBytes_setFrames, hl9, hb9]
    refine ⟨⟨⟨⟨by omega, by omega, by omega, by omega, by omega, h6⟩, ?_⟩, ?_⟩, X.book⟩
    · show T.heap.size + R'.cells ≤ e.platform.maxCells
      omega
    · show T.slotsUsed + R'.slots ≤ e.platform.maxSlots
      omega
  · rw [State.stackLimits_setFrames]; rfl
  · rw [State.stackBytes_setFrames]; rfl
  · refine ⟨?_, Nat.le_refl _, Nat.le_refl _, ?_, ?_, fun a c9 h9 => ⟨c9, h9, rfl, rfl, fun _ _ => rfl⟩⟩
    · obtain ⟨t, ht, -⟩ := State.frames_cons hr
      show T.setVm s.vm = { ((T.setVm s.vm).setFrames (.invoking m args :: below)).setFrames (T.setVm s.vm).frames with heap := T.heap, slotsUsed := T.slotsUsed }
      rw [State.setFrames_setFrames, State.setFrames_self ht]
      rfl
    · show T.slotsUsed = T.slotsUsed + ((T.heap.toList.drop T.heap.size).map (·.slots.size)).sum
      rw [List.drop_eq_nil_of_le (Nat.le_of_eq Array.length_toList)]
      rfl
    · show ((T.heap.toList.drop T.heap.size).map (·.slots.size)).sum ≤ 0
      rw [List.drop_eq_nil_of_le (Nat.le_of_eq Array.length_toList)]
      exact Nat.le_refl _
/-- 'throw new E()': new; dup; invokespecial; athrow -/
theorem vx_throw0 {cc : ByteArray} {pc : Nat} (hexec : p.tables.exec = Jvm.exec) (hb : c.code = cc) (hl : l.stackTraces = false) {own cls : String} {names : List String} {ik ic mc ms : Nat} {A : Nat → Prop}
    (hown : s.vm.findClass own = some m.cls) (hcls : Bundle.fit cls = true) (hnames : ∀ n ∈ names, Bundle.fit n = true)
    (hk : (Cond.classLink own ik cls).before args s = true) (hini : (Cond.initialized cls).before args s = true) (hat : ∀ w ∈ vx_at0 own ic cls names, w.before args s = true)
    (hgood : ∀ w ∈ Cond.classLink own ik cls :: Cond.initialized cls :: vx_at0 own ic cls names, vx_ot w = true)
    (hU : vx_Zq Bundle.tN "UNASSIGNED_STACK" Bundle.steD A s s.heap) (hN : vx_Zq Bundle.tN "SUPPRESSED_SENTINEL" Bundle.listD A s s.heap) (hS : va_S A s.heap H locs) (hsize : ls.size = c.maxLocals)
    (d0 : decode cc pc = .ok (.new ik, 3)) (d3 : decode cc (pc + 3) = .ok (.dup, 1)) (d4 : decode cc (pc + 4) = .ok (.invokespecial ic, 3)) (d7 : decode cc (pc + 7) = .ok (.athrow, 1))
    (hout : ∀ x ∈ c.exceptionTable.toList, covers x (pc + 7) = false)
    (hRframes : names.length + 3 < R.frames) (hRlocals : (rest.map fun v => v.category).sum + (13 * (names.length + 1) + 42) ≤ R.locals) (hRcells : cells + 1 ≤ R.cells) (hRslots : slots + 6 ≤ R.slots) (hlocks : meth.locks = false)
    (hx : ∀ t : State, s.vm.Alike t.vm → H.size ≤ t.heap.size → (∀ q : Nat, q < H.size → t.heap[q]? = H[q]?) → XC cls s t)
    (hf : ∀ z ∈ locs, free z.base) (hc : cells + 1 ≤ mc) (hs : slots + 6 ≤ ms) :
    W p l e R s m args below meth c H locs cells slots (vx_MQ below Qc XC args s mc ms free) (F0 m pc ls rest) := by
  intro T hT X
  have htr : e.platform.stackTraces = false := (show e.platform.stackTraces = l.stackTraces by rw [X.admits.platform]).trans hl
  have Y := vx_rebase X (R' := { frames := R.frames, locals := R.locals, cells := 1, slots := 6 }) (Nat.le_refl _) (Nat.le_refl _) hRcells hRslots
  obtain ⟨s', hA⟩ : ∃ z, z = (T.setVm s.vm).setFrames (.invoking m args :: below) := ⟨_, rfl⟩
  rw [← hA] at Y
  have hvm : s'.vm = s.vm := by rw [hA]; rfl
  have hhp : s'.heap = H := by rw [hA]; exact hT
  have hW0 : s.WarmedH s'.vm := by rw [hvm]; exact State.WarmedH.refl s
  have hat' : ∀ w ∈ vx_at0 own ic cls names, w.before args s' = true := fun w hw => vx_ot_at hW0 hvm.symm (hgood w (List.mem_cons_of_mem _ (List.mem_cons_of_mem _ hw))) (hat w hw)
  have hk' : (Cond.classLink own ik cls).before args s' = true := vx_ot_at hW0 hvm.symm (hgood _ List.mem_cons_self) hk
  have hini' : (Cond.initialized cls).before args s' = true := vx_ot_at hW0 hvm.symm (hgood _ (List.mem_cons_of_mem _ List.mem_cons_self)) hini
  have hU' : vx_Zq Bundle.tN "UNASSIGNED_STACK" Bundle.steD A s' s'.heap := by rw [hhp]; exact vx_Zq.moved hW0.alike (hU.kept hS.2.1)
  have hN' : vx_Zq Bundle.tN "SUPPRESSED_SENTINEL" Bundle.listD A s' s'.heap := by rw [hhp]; exact vx_Zq.moved hW0.alike (hN.kept hS.2.1)
  have h : ∀ w ∈ Bundle.ownAtoms0 own ic cls names, w.before args s' = true := vx_own hat' (vx_isRefq hU'.1) (vx_isRefq hN'.1) hU'.2.word hN'.2.word
  have hown' : s'.vm.findClass own = some m.cls := by rw [hvm]; exact hown
  have hins : (Cond.instantiable cls 6).before args s' = true := h _ (by simp [Bundle.ownAtoms0])
  obtain ⟨vm₁, cX, kX, hfX, hkX, -, -, X₁, st1⟩ := Y.newCold hexec (own := own) (C := cls) (index := ik) (n := 6) hown' hk' hins hini'
    (g := F0 m pc ls rest) rfl (by rw [hb]; exact d0) (Nat.le_refl _) (Nat.le_refl _)
  generalize hT1 : (T.setVm vm₁).pushCell { cls := cX, slots := kX.instanceTypes.map defaultValue, vm := .none } = T1 at X₁ st1
  have hcat : (Value.ref T.heap.size).category = 1 := rfl
  have hcellA : T1.heap[T.heap.size]? = some (freshCell cX kX) := by rw [← hT1]; exact State.heap_pushCell_size _ _
  have d3' : decode c.code (pc + 3) = .ok (.dup, 1) := by rw [hb]; exact d3
  obtain ⟨U, hsteps, hrun, hend, hW, hsame, ce, hce, hO⟩ := X₁.ctorThrow0 hexec htr (own := own) (cls := cls) (names := names) (ic := ic) hown' hcls hnames h (fun x hx => nomatch hx) hfX hkX hcellA (by rw [hhp, hT]; exact Nat.le_refl _)
    (g := { method := m, pc := pc + 4, locals := ls, stack := .ref T.heap.size :: .ref T.heap.size :: rest, locked := none }) rfl hsize rfl rfl (rest := rest) rfl
    (by rw [hb]; exact d4) (by rw [hb]; exact d7) hout hRframes (by simp only [List.map_cons, List.sum_cons, hcat]; omega) hlocks
  obtain ⟨f1, f2⟩ := vx_frame hsame
  rw [hhp] at f1 f2
  have hWs : s.WarmedH U.vm := State.WarmedH.trans hW0 hW
  have hcl : s.vm.findClass cls = some ce.cls := by
    have h9 := hO.cls
    rw [hvm] at h9
    exact h9
  have hall : s.sameButNew ({ U with vm := s.vm } : State) locs mc ms := by
    subst hA
    obtain ⟨e1, e2⟩ := hsame
    rw [State.setFrames_setFrames] at e1
    have h2 : (T.setVm s.vm).sameButNew ({ U with vm := s.vm } : State) [] (0 + 1) (0 + 6) := ⟨e1, e2⟩
    have h3 := X.same.trans h2
    rw [List.append_nil] at h3
    exact h3.mono hc hs
  refine ⟨U, ?_, .threw T.heap.size, hrun, hend, Or.inr ⟨T.heap.size, rfl, cls, ce, locs, hx U hWs.alike f1 (fun q hq => f2 q hq (fun z hz => nomatch hz)), hce, hO.vm, hcl, hWs, hall, hf⟩⟩
  refine st1 _ ?_
  show Steps p.tables e below (T1.setTop { method := m, pc := pc + 3, locals := ls, stack := .ref T.heap.size :: rest, locked := none }) _
  jvm_step X₁.here [X₁.here.top, hexec, d3', Value.category]
  exact hsteps
/-- 'throw new E("text")': new; dup; ldc; invokespecial; athrow -/
theorem vx_throwS {cc : ByteArray} {pc : Nat} (hexec : p.tables.exec = Jvm.exec) (hb : c.code = cc) (hl : l.stackTraces = false) {own cls text : String} {names : List String} {ik is ic mc ms sa : Nat} {A : Nat → Prop}
    (hown : s.vm.findClass own = some m.cls) (hcls : Bundle.fit cls = true) (hnames : ∀ n ∈ names, Bundle.fit n = true)
    (hk : (Cond.classLink own ik cls).before args s = true) (hini : (Cond.initialized cls).before args s = true) (hstr : vk_R own is text sa s) (hat : ∀ w ∈ vx_atS own ic cls names, w.before args s = true)
    (hgood : ∀ w ∈ Cond.classLink own ik cls :: Cond.initialized cls :: vx_atS own ic cls names, vx_ot w = true)
    (hU : vx_Zq Bundle.tN "UNASSIGNED_STACK" Bundle.steD A s s.heap) (hN : vx_Zq Bundle.tN "SUPPRESSED_SENTINEL" Bundle.listD A s s.heap) (hS : va_S A s.heap H locs) (hsize : ls.size = c.maxLocals)
    (d0 : decode cc pc = .ok (.new ik, 3)) (d3 : decode cc (pc + 3) = .ok (.dup, 1)) (d4 : decode cc (pc + 4) = .ok (.ldc is, 2)) (d6 : decode cc (pc + 6) = .ok (.invokespecial ic, 3)) (d9 : decode cc (pc + 9) = .ok (.athrow, 1))
    (hout : ∀ x ∈ c.exceptionTable.toList, covers x (pc + 9) = false)
    (hRframes : names.length + 3 < R.frames) (hRlocals : (rest.map fun v => v.category).sum + (13 * (names.length + 1) + 43) ≤ R.locals) (hRcells : cells + 1 ≤ R.cells) (hRslots : slots + 6 ≤ R.slots) (hlocks : meth.locks = false)
    (hx : ∀ t : State, s.vm.Alike t.vm → H.size ≤ t.heap.size → (∀ q : Nat, q < H.size → t.heap[q]? = H[q]?) → XC cls s t)
    (hf : ∀ z ∈ locs, free z.base) (hc : cells + 1 ≤ mc) (hs : slots + 6 ≤ ms) :
    W p l e R s m args below meth c H locs cells slots (vx_MQ below Qc XC args s mc ms free) (F0 m pc ls rest) := by
  intro T hT X
  have htr : e.platform.stackTraces = false := (show e.platform.stackTraces = l.stackTraces by rw [X.admits.platform]).trans hl
  have Y := vx_rebase X (R' := { frames := R.frames, locals := R.locals, cells := 1, slots := 6 }) (Nat.le_refl _) (Nat.le_refl _) hRcells hRslots
  obtain ⟨s', hA⟩ : ∃ z, z = (T.setVm s.vm).setFrames (.invoking m args :: below) := ⟨_, rfl⟩
  rw [← hA] at Y
  have hvm : s'.vm = s.vm := by rw [hA]; rfl
  have hhp : s'.heap = H := by rw [hA]; exact hT
  have hW0 : s.WarmedH s'.vm := by rw [hvm]; exact State.WarmedH.refl s
  have hat' : ∀ w ∈ vx_atS own ic cls names, w.before args s' = true := fun w hw => vx_ot_at hW0 hvm.symm (hgood w (List.mem_cons_of_mem _ (List.mem_cons_of_mem _ hw))) (hat w hw)
  have hk' : (Cond.classLink own ik cls).before args s' = true := vx_ot_at hW0 hvm.symm (hgood _ List.mem_cons_self) hk
  have hini' : (Cond.initialized cls).before args s' = true := vx_ot_at hW0 hvm.symm (hgood _ (List.mem_cons_of_mem _ List.mem_cons_self)) hini
  have hU' : vx_Zq Bundle.tN "UNASSIGNED_STACK" Bundle.steD A s' s'.heap := by rw [hhp]; exact vx_Zq.moved hW0.alike (hU.kept hS.2.1)
  have hN' : vx_Zq Bundle.tN "SUPPRESSED_SENTINEL" Bundle.listD A s' s'.heap := by rw [hhp]; exact vx_Zq.moved hW0.alike (hN.kept hS.2.1)
  have h : ∀ w ∈ Bundle.ownAtoms own ic cls names, w.before args s' = true := vx_own hat' (vx_isRefq hU'.1) (vx_isRefq hN'.1) hU'.2.word hN'.2.word
  have hown' : s'.vm.findClass own = some m.cls := by rw [hvm]; exact hown
  have hins : (Cond.instantiable cls 6).before args s' = true := h _ (by simp [Bundle.ownAtoms])
  obtain ⟨vm₁, cX, kX, hfX, hkX, -, -, X₁, st1⟩ := Y.newCold hexec (own := own) (C := cls) (index := ik) (n := 6) hown' hk' hins hini'
    (g := F0 m pc ls rest) rfl (by rw [hb]; exact d0) (Nat.le_refl _) (Nat.le_refl _)
  generalize hT1 : (T.setVm vm₁).pushCell { cls := cX, slots := kX.instanceTypes.map defaultValue, vm := .none } = T1 at X₁ st1
  have hcat : (Value.ref T.heap.size).category = 1 := rfl
  have hcellA : T1.heap[T.heap.size]? = some (freshCell cX kX) := by rw [← hT1]; exact State.heap_pushCell_size _ _
  have d3' : decode c.code (pc + 3) = .ok (.dup, 1) := by rw [hb]; exact d3
  have d4' : decode c.code (pc + 4) = .ok (.ldc is, 2) := by rw [hb]; exact d4
  have hstr' : vk_R own is text sa s' := vk_R.warm hW0 hstr
  obtain ⟨U, hsteps, hrun, hend, hW, hsame, ce, hce, hO⟩ := X₁.ctorThrowS hexec htr (own := own) (cls := cls) (names := names) (ic := ic) hown' hcls hnames h (fun x hx => nomatch hx) hfX hkX hcellA (by rw [hhp, hT]; exact Nat.le_refl _) (msg := .ref sa) rfl
    (g := { method := m, pc := pc + 6, locals := ls, stack := .ref sa :: .ref T.heap.size :: .ref T.heap.size :: rest, locked := none }) rfl hsize rfl rfl (rest := rest) rfl
    (by rw [hb]; exact d6) (by rw [hb]; exact d9) hout hRframes (by simp only [List.map_cons, List.sum_cons, hcat]; omega) hlocks
  obtain ⟨f1, f2⟩ := vx_frame hsame
  rw [hhp] at f1 f2
  have hWs : s.WarmedH U.vm := State.WarmedH.trans hW0 hW
  have hcl : s.vm.findClass cls = some ce.cls := by
    have h9 := hO.cls
    rw [hvm] at h9
    exact h9
  have hall : s.sameButNew ({ U with vm := s.vm } : State) locs mc ms := by
    subst hA
    obtain ⟨e1, e2⟩ := hsame
    rw [State.setFrames_setFrames] at e1
    have h2 : (T.setVm s.vm).sameButNew ({ U with vm := s.vm } : State) [] (0 + 1) (0 + 6) := ⟨e1, e2⟩
    have h3 := X.same.trans h2
    rw [List.append_nil] at h3
    exact h3.mono hc hs
  refine ⟨U, ?_, .threw T.heap.size, hrun, hend, Or.inr ⟨T.heap.size, rfl, cls, ce, locs, hx U hWs.alike f1 (fun q hq => f2 q hq (fun z hz => nomatch hz)), hce, hO.vm, hcl, hWs, hall, hf⟩⟩
  refine st1 _ ?_
  show Steps p.tables e below (T1.setTop { method := m, pc := pc + 3, locals := ls, stack := .ref T.heap.size :: rest, locked := none }) _
  jvm_step X₁.here [X₁.here.top, hexec, d3', Value.category]
  exact X₁.ldcString hexec (own := own) (text := text) (index := is) (a := sa) hown' hstr'.1 hstr'.2
    (g := { method := m, pc := pc + 4, locals := ls, stack := .ref T.heap.size :: .ref T.heap.size :: rest, locked := none }) rfl d4' _ hsteps
/-- 'throw new E("text")', the text by a wide index -/
theorem vx_throwSW {cc : ByteArray} {pc : Nat} (hexec : p.tables.exec = Jvm.exec) (hb : c.code = cc) (hl : l.stackTraces = false) {own cls text : String} {names : List String} {ik is ic mc ms sa : Nat} {A : Nat → Prop}
    (hown : s.vm.findClass own = some m.cls) (hcls : Bundle.fit cls = true) (hnames : ∀ n ∈ names, Bundle.fit n = true)
    (hk : (Cond.classLink own ik cls).before args s = true) (hini : (Cond.initialized cls).before args s = true) (hstr : vk_R own is text sa s) (hat : ∀ w ∈ vx_atS own ic cls names, w.before args s = true)
    (hgood : ∀ w ∈ Cond.classLink own ik cls :: Cond.initialized cls :: vx_atS own ic cls names, vx_ot w = true)
    (hU : vx_Zq Bundle.tN "UNASSIGNED_STACK" Bundle.steD A s s.heap) (hN : vx_Zq Bundle.tN "SUPPRESSED_SENTINEL" Bundle.listD A s s.heap) (hS : va_S A s.heap H locs) (hsize : ls.size = c.maxLocals)
    (d0 : decode cc pc = .ok (.new ik, 3)) (d3 : decode cc (pc + 3) = .ok (.dup, 1)) (d4 : decode cc (pc + 4) = .ok (.ldc_w is, 3)) (d7 : decode cc (pc + 7) = .ok (.invokespecial ic, 3)) (d10 : decode cc (pc + 10) = .ok (.athrow, 1))
    (hout : ∀ x ∈ c.exceptionTable.toList, covers x (pc + 10) = false)
    (hRframes : names.length + 3 < R.frames) (hRlocals : (rest.map fun v => v.category).sum + (13 * (names.length + 1) + 43) ≤ R.locals) (hRcells : cells + 1 ≤ R.cells) (hRslots : slots + 6 ≤ R.slots) (hlocks : meth.locks = false)
    (hx : ∀ t : State, s.vm.Alike t.vm → H.size ≤ t.heap.size → (∀ q : Nat, q < H.size → t.heap[q]? = H[q]?) → XC cls s t)
    (hf : ∀ z ∈ locs, free z.base) (hc : cells + 1 ≤ mc) (hs : slots + 6 ≤ ms) :
    W p l e R s m args below meth c H locs cells slots (vx_MQ below Qc XC args s mc ms free) (F0 m pc ls rest) := by
  intro T hT X
  have htr : e.platform.stackTraces = false := (show e.platform.stackTraces = l.stackTraces by rw [X.admits.platform]).trans hl
  have Y := vx_rebase X (R' := { frames := R.frames, locals := R.locals, cells := 1, slots := 6 }) (Nat.le_refl _) (Nat.le_refl _) hRcells hRslots
  obtain ⟨s', hA⟩ : ∃ z, z = (T.setVm s.vm).setFrames (.invoking m args :: below) := ⟨_, rfl⟩
  rw [← hA] at Y
  have hvm : s'.vm = s.vm := by rw [hA]; rfl
  have hhp : s'.heap = H := by rw [hA]; exact hT
  have hW0 : s.WarmedH s'.vm := by rw [hvm]; exact State.WarmedH.refl s
  have hat' : ∀ w ∈ vx_atS own ic cls names, w.before args s' = true := fun w hw => vx_ot_at hW0 hvm.symm (hgood w (List.mem_cons_of_mem _ (List.mem_cons_of_mem _ hw))) (hat w hw)
  have hk' : (Cond.classLink own ik cls).before args s' = true := vx_ot_at hW0 hvm.symm (hgood _ List.mem_cons_self) hk
  have hini' : (Cond.initialized cls).before args s' = true := vx_ot_at hW0 hvm.symm (hgood _ (List.mem_cons_of_mem _ List.mem_cons_self)) hini
  have hU' : vx_Zq Bundle.tN "UNASSIGNED_STACK" Bundle.steD A s' s'.heap := by rw [hhp]; exact vx_Zq.moved hW0.alike (hU.kept hS.2.1)
  have hN' : vx_Zq Bundle.tN "SUPPRESSED_SENTINEL" Bundle.listD A s' s'.heap := by rw [hhp]; exact vx_Zq.moved hW0.alike (hN.kept hS.2.1)
  have h : ∀ w ∈ Bundle.ownAtoms own ic cls names, w.before args s' = true := vx_own hat' (vx_isRefq hU'.1) (vx_isRefq hN'.1) hU'.2.word hN'.2.word
  have hown' : s'.vm.findClass own = some m.cls := by rw [hvm]; exact hown
  have hins : (Cond.instantiable cls 6).before args s' = true := h _ (by simp [Bundle.ownAtoms])
  obtain ⟨vm₁, cX, kX, hfX, hkX, -, -, X₁, st1⟩ := Y.newCold hexec (own := own) (C := cls) (index := ik) (n := 6) hown' hk' hins hini'
    (g := F0 m pc ls rest) rfl (by rw [hb]; exact d0) (Nat.le_refl _) (Nat.le_refl _)
  generalize hT1 : (T.setVm vm₁).pushCell { cls := cX, slots := kX.instanceTypes.map defaultValue, vm := .none } = T1 at X₁ st1
  have hcat : (Value.ref T.heap.size).category = 1 := rfl
  have hcellA : T1.heap[T.heap.size]? = some (freshCell cX kX) := by rw [← hT1]; exact State.heap_pushCell_size _ _
  have d3' : decode c.code (pc + 3) = .ok (.dup, 1) := by rw [hb]; exact d3
  have d4' : decode c.code (pc + 4) = .ok (.ldc_w is, 3) := by rw [hb]; exact d4
  have hstr' : vk_R own is text sa s' := vk_R.warm hW0 hstr
  obtain ⟨U, hsteps, hrun, hend, hW, hsame, ce, hce, hO⟩ := X₁.ctorThrowS hexec htr (own := own) (cls := cls) (names := names) (ic := ic) hown' hcls hnames h (fun x hx => nomatch hx) hfX hkX hcellA (by rw [hhp, hT]; exact Nat.le_refl _) (msg := .ref sa) rfl
    (g := { method := m, pc := pc + 7, locals := ls, stack := .ref sa :: .ref T.heap.size :: .ref T.heap.size :: rest, locked := none }) rfl hsize rfl rfl (rest := rest) rfl
    (by rw [hb]; exact d7) (by rw [hb]; exact d10) hout hRframes (by simp only [List.map_cons, List.sum_cons, hcat]; omega) hlocks
  obtain ⟨f1, f2⟩ := vx_frame hsame
  rw [hhp] at f1 f2
  have hWs : s.WarmedH U.vm := State.WarmedH.trans hW0 hW
  have hcl : s.vm.findClass cls = some ce.cls := by
    have h9 := hO.cls
    rw [hvm] at h9
    exact h9
  have hall : s.sameButNew ({ U with vm := s.vm } : State) locs mc ms := by
    subst hA
    obtain ⟨e1, e2⟩ := hsame
    rw [State.setFrames_setFrames] at e1
    have h2 : (T.setVm s.vm).sameButNew ({ U with vm := s.vm } : State) [] (0 + 1) (0 + 6) := ⟨e1, e2⟩
    have h3 := X.same.trans h2
    rw [List.append_nil] at h3
    exact h3.mono hc hs
  refine ⟨U, ?_, .threw T.heap.size, hrun, hend, Or.inr ⟨T.heap.size, rfl, cls, ce, locs, hx U hWs.alike f1 (fun q hq => f2 q hq (fun z hz => nomatch hz)), hce, hO.vm, hcl, hWs, hall, hf⟩⟩
  refine st1 _ ?_
  show Steps p.tables e below (T1.setTop { method := m, pc := pc + 3, locals := ls, stack := .ref T.heap.size :: rest, locked := none }) _
  jvm_step X₁.here [X₁.here.top, hexec, d3', Value.category]
  exact X₁.ldcStringW hexec (own := own) (text := text) (index := is) (a := sa) hown' hstr'.1 hstr'.2
    (g := { method := m, pc := pc + 4, locals := ls, stack := .ref T.heap.size :: .ref T.heap.size :: rest, locked := none }) rfl d4' _ hsteps
end Ends
section Bodies
variable {l : Launch}
theorem vx_ofW {y : MethodName} {ws ws' : List Cond} {rm : Room} {Pc : Array Value → State → Prop} {Qc : Array Value → State → Outcome → State → Prop} {XC : String → State → State → Prop} {mc ms : Nat} {free : Addr → Prop} {cc : ByteArray} {maxL : Nat} {ret : Option FieldType}
    (hy : plainName y.cls = true) (hw : ws = Cond.code y cc maxL ret :: ws')
    (body : ∀ p e s m args below meth c s₁, BodyLoose p l y (headSpec ws rm) cc maxL ret e s m args below meth c s₁ → c.maxLocals = maxL → (∀ x ∈ c.exceptionTable.toList, False) → Pc args s →
      W p l e (headSpec ws rm).room s m args below meth c s.heap [] 0 0 (vx_MQ below Qc XC args s mc ms free) (entryFrame m args maxL)) : vx_Met l y ws rm Pc Qc XC mc ms free := by
  refine MetFree.of_bodyS (code := cc) (maxLocals := maxL) (ret := ret) hy ?_ ?_
  · intro args s m h hn
    obtain ⟨meth, c, h1, h2, h3, h4, h5, h6, -, -⟩ := Cond.code_spec hn (atoms_spec (ws := ws) h _ (by rw [hw]; exact List.mem_cons_self))
    exact ⟨meth, c, h1, h2, h3, h4, h5, h6⟩
  · intro p e s m args below meth c s₁ B hml hP _
    have hh0 : s₁.heap = s.heap := by rw [B.state]; rfl
    have ht : ∀ x ∈ c.exceptionTable.toList, False := by
      obtain ⟨meth9, c9, h1, h2, -, -, -, -, h7, -⟩ := Cond.code_spec B.named (atoms_spec (ws := ws) B.pre _ (by rw [hw]; exact List.mem_cons_self))
      cases Option.some.inj (h1.symm.trans B.method)
      cases Option.some.inj (h2.symm.trans (Stand.of_body B).code)
      intro x hx
      rw [Array.isEmpty_iff.mp h7] at hx
      cases hx
    obtain ⟨t, a1, o, b1, b2, b3⟩ := body p e s m args below meth c s₁ B hml ht hP s₁ hh0 (Stand.of_body B)
    exact ⟨t, o, a1, b1, b2, b3⟩
/-- the table of a body with handlers -/
theorem vx_table {p : Program} {x y : MethodName} {S : Spec} {cc bytes : ByteArray} {maxL maxL' : Nat} {ret ret' : Option FieldType} {e : Env} {s s₁ : State} {m : MethodId} {args : Array Value} {below : List Frame} {meth : Method} {c : Code} {hh : List (Nat × Nat × Nat × Nat)}
    (B : BodyLoose p l y S cc maxL ret e s m args below meth c s₁) (h : (Cond.codeWith y bytes maxL' ret' hh).before args s = true) : c.exceptionTable.toList = tableOf hh := by
  obtain ⟨m9, meth9, c9, hn9, h1, h2, -, -, h6, -⟩ := Cond.codeWith_spec h
  cases Option.some.inj (hn9.symm.trans B.named)
  cases Option.some.inj (h1.symm.trans B.method)
  cases Option.some.inj (h2.symm.trans (Stand.of_body B).code)
  rw [← h6, table_eq]
end Bodies
end VXA
/-! ===== END ===== -/
/-! ===== BEGIN a static call of a method with an exception table ===== -/
section VXS
variable {p : Program} {l : Launch} {e : Env} {R : Room} {s : State} {m : MethodId} {args : Array Value} {below : List Frame} {meth : Method} {c : Code} {T : State} {H : Heap} {locs : List Loc} {cells slots : Nat}
abbrev vx_CSW (R : Room) (s : State) (args : Array Value) (own : String) (index : Nat) (y : MethodName) (bytes : ByteArray) (maxL : Nat) (ret : Option FieldType) (hh : List (Nat × Nat × Nat × Nat)) (ws : List Cond) (rm : Room) (mc ms n : Nat) : Prop :=
  (rm.cells = mc ∧ rm.slots = ms ∧ rm.frames + 1 ≤ R.frames ∧ 8 + (maxL + 11) + rm.locals ≤ R.locals ∧ (∀ w ∈ ws, ∀ (a' : Array Value) (U : State), s.WarmedH U.vm → w.before a' U = true) ∧ Cond.codeWith y bytes maxL ret hh ∈ ws) ∧
  (Cond.codeWith y bytes maxL ret hh).before args s = true ∧ (Cond.initialized y.cls).before args s = true ∧ (y.cls ≠ "java/lang/invoke/MethodHandle" ∧ y.cls ≠ "java/lang/invoke/VarHandle") ∧
  (∀ sig, parseMethodDescriptor y.desc = some sig → n = sig.parameters.length) ∧ (Cond.methodLink own index y).before args s = true ∧ (Cond.static y).before args s = true
theorem vx_cwSW {own : String} {index maxL mc ms : Nat} {y : MethodName} {bytes : ByteArray} {ret : Option FieldType} {hh : List (Nat × Nat × Nat × Nat)} {Ts ws ws' : List Cond} {rm : Room} (n : Nat) (ht : ∀ w ∈ Ts, w.before args s = true) (hT : GoodIn Ts (va_wsS own index y ws)) (hw : ws = Cond.codeWith y bytes maxL ret hh :: ws') (hrc : rm.cells = mc) (hrs : rm.slots = ms)
    (hd : y.cls ≠ "java/lang/invoke/MethodHandle" ∧ y.cls ≠ "java/lang/invoke/VarHandle" ∧ (parseMethodDescriptor y.desc).map (fun d => d.parameters.length) = some n) (hR : rm.frames + 1 ≤ R.frames ∧ 8 + (maxL + 11) + rm.locals ≤ R.locals) :
    vx_CSW R s args own index y bytes maxL ret hh ws rm mc ms n := by
  have ok : ∀ w ∈ va_wsS own index y ws, w.before args s = true := fun w h => ht w (hT w h).1
  have hG : GoodIn Ts ws := fun w h => hT w (by unfold va_wsS; exact List.mem_append_right _ h)
  have hc : Cond.codeWith y bytes maxL ret hh ∈ ws := by rw [hw]; exact List.mem_cons_self
  refine ⟨⟨hrc, hrs, hR.1, hR.2, pay_in ht hG, hc⟩, ht _ (hG _ hc).1, ok _ (by simp [va_wsS]), ⟨hd.1, hd.2.1⟩, fun sig h => ?_, ok _ (by simp [va_wsS]), ok _ (by simp [va_wsS])⟩
  have h2 := hd.2.2
  rw [h] at h2
  exact (Option.some.inj h2).symm
theorem vx_callSW (X : Stand p l e R s m args below meth c T locs cells slots) (hexec : p.tables.exec = Jvm.exec) {own : String} {index : Nat} {y : MethodName} {bytes : ByteArray} {maxL : Nat} {ret : Option FieldType} {hh : List (Nat × Nat × Nat × Nat)}
    (hown : s.vm.findClass own = some m.cls) (hlink : (Cond.methodLink own index y).before args s = true) (hstat : (Cond.static y).before args s = true) (hinit : (Cond.initialized y.cls).before args s = true)
    (hcode : (Cond.codeWith y bytes maxL ret hh).before args s = true) (hy : y.cls ≠ "java/lang/invoke/MethodHandle" ∧ y.cls ≠ "java/lang/invoke/VarHandle")
    {W9 : Nat} {Pre : Pt → Array Value → Prop} {Post : Pt → Array Value → Option Value → Pt → Prop} (hK : Back l R p e below s args y 3 W9 Pre Post)
    {g : JFrame} (hg : g.method = m) (hsize : g.locals.size = c.maxLocals) {argsL rest : List Value} (hlen : ∀ sig, parseMethodDescriptor y.desc = some sig → argsL.length = sig.parameters.length)
    (hstack : g.stack = argsL.reverse ++ rest) (hW : 2 * g.monitorRoom + (rest.map fun v => v.category).sum ≤ W9) (hdg : decode c.code g.pc = .ok (.invokestatic index, 3))
    (hpre : ∀ vm₁, s.WarmedH vm₁ → Pre ⟨T.setVm vm₁, locs, cells, slots⟩ argsL.toArray) :
    ∃ (v : Option Value) (vm₁ : Vm) (B : Pt), s.WarmedH vm₁ ∧ Stand p l e R s m args below meth c B.U B.locs B.cells B.slots ∧ Post ⟨T.setVm vm₁, locs, cells, slots⟩ argsL.toArray v B ∧
      ∀ target, Steps p.tables e below (B.U.setTop { g with pc := g.pc + 3, stack := v.toList ++ rest }) target → Steps p.tables e below (T.setTop g) target := by
  obtain ⟨mk, methM, cM, hnamed, hmethM, -, -, -, -, -, -, hsigM⟩ := Cond.codeWith_spec hcode
  have hstatic : methM.isStatic = true := Cond.static_spec hnamed hmethM hstat
  obtain ⟨kP, hkP, -⟩ := className_of_methodNamed hnamed
  have hinitP : kP.init = .initialized := Cond.initialized_spec (findClass_of_methodNamed hnamed) hkP hinit
  obtain ⟨vm₁, X₁, hstep₁⟩ := X.invokestatic hexec hown hlink hnamed hmethM hstatic hkP hinitP hy (g := g) hg (argsL := argsL) (rest := rest) (hlen _ hsigM) hstack hdg
  obtain ⟨v, B, X', hpost, hsteps⟩ := hK m meth c ⟨T.setVm vm₁, locs, cells, slots⟩ { g with stack := rest } (.invokestatic index) mk argsL.toArray X₁ hg hsize hdg hW (X₁.named hnamed) (hpre vm₁ X₁.warmed)
  exact ⟨v, vm₁, B, X₁.warmed, X', hpost, fun target h => hstep₁ _ fun acts => by rw [doInvoke_state]; exact hsteps.trans h⟩
theorem vx_runSW {y : MethodName} {bytes cc : ByteArray} {maxL nL mc ms n index : Nat} {ret : Option FieldType} {hh : List (Nat × Nat × Nat × Nat)} {ws : List Cond} {rm : Room} {Pc : Array Value → State → Prop} {Qc : Array Value → State → Outcome → State → Prop} {free : Addr → Prop} {Ts : List Cond} {own : String} {As rest : List Value} {g : JFrame}
    (S : CallFix p m c cc nL s args Ts own) (hM : Met l y ws rm Pc Qc mc ms free) (cw : vx_CSW R s args own index y bytes maxL ret hh ws rm mc ms n) (hp : PreS s H Pc As)
    (hg : g.method = m) (hn : As.length = n) (hsize : g.locals.size = nL) (hstack : g.stack = As.reverse ++ rest) (hW : 2 * g.monitorRoom + (rest.map fun v => v.category).sum ≤ 8) (hdg : decode cc g.pc = .ok (.invokestatic index, 3)) (hf : cells + mc ≤ R.cells ∧ slots + ms ≤ R.slots) :
    va_Run p l e R s m args below meth c H locs cells slots mc ms g rest (Qc As.toArray) (free) := by
  obtain ⟨⟨hrc, hrs, hfr, hlo, hws, hcw⟩, hcode, hini, hy, hlen, hl, hstt⟩ := cw
  have hK : Back l R p e below s args y 3 8 (PreOf R mc ms Pc) (PostOf Qc mc ms free) := va_backW (hh := hh) (bytes := bytes) (maxL := maxL) (ret := ret) hM hp.1 hrc hrs hfr hlo hws hcw (fun a' U hW => word_at hW (Or.inl (by first | rfl | simp [Cond.onTables, Cond.keeps, Cond.steady])) hini)
  obtain ⟨hx, hb, hml, ho, -⟩ := S
  intro T hT X
  obtain ⟨v, vm₁, ⟨U', l2, c2, s2⟩, hW₁, X', ⟨g', mk, t, L, e1, e2, hq, h1, hL, h2, h3⟩, st⟩ := vx_callSW X hx (hh := hh) (bytes := bytes) (maxL := maxL) (ret := ret) ho hl hstt hini hcode hy hK hg (hsize.trans hml.symm) (argsL := As) (rest := rest) (fun sig h => hn.trans (hlen sig h)) hstack hW (by rw [hb]; exact hdg)
    (fun vm₁ hW₁ => ⟨hf.1, hf.2, hp.2 (T.setVm vm₁) hT hW₁⟩)
  dsimp only [Pt.U, Pt.locs, Pt.cells, Pt.slots] at X' e1 e2 h1 h2 h3 st
  subst h1; subst h2; subst h3
  exact ⟨v, (T.setVm vm₁).calling g' mk As.toArray, t, U', L, hT, X', hL, e1, e2, hq, st⟩
/-- not caught here, past rows that name other classes: it goes on to the caller -/
theorem vx_outP {p : Program} {l : Launch} {e : Env} {R : Room} {s : State} {m : MethodId} {args : Array Value} {below : List Frame} {meth : Method} {c : Code} {H : Heap} {locs : List Loc} {cells slots : Nat} {free : Addr → Prop} {ls : Array Slot} {rest : List Value} {Qc : Array Value → State → Outcome → State → Prop} {XC : String → State → State → Prop}
    {pc : Nat} {own E : String} {ce : Cell} {q : Addr} {mc ms : Nat} (hown : s.vm.findClass own = some m.cls) (hlocks : meth.locks = false)
    (hpass : ∀ z ∈ c.exceptionTable.toList, covers z pc = false ∨ (z.catchType ≠ 0 ∧ ∃ nm : String, (Cond.classLink own z.catchType nm).before args s = true ∧ va_Nc E nm s)) (hcell : H[q]? = some ce) (hv : ce.vm = .none) (hcl : s.vm.findClass E = some ce.cls)
    (hx : ∀ t : State, t.heap = H → s.vm.Alike t.vm → XC E s t) (hf : ∀ z ∈ locs, free z.base) (hc : cells ≤ mc) (hs : slots ≤ ms) :
    vx_W p l e R s m args below meth c H locs cells slots (vx_MQ below Qc XC args s mc ms free) (F0 m pc ls rest) q := by
  intro T hT X
  have hpl : e.platform.magicAccessors = ({} : Platform).magicAccessors := by rw [X.admits.platform]
  obtain ⟨vm', hW', X', st⟩ := X.outThrough hlocks q (g := F0 m pc ls rest) rfl rfl rfl (cell := ce) (by rw [hT]; exact hcell) (by rw [hv]; rfl)
    (by obtain ⟨k9, h9, -⟩ := Vm.findClass_spec hcl; exact ⟨k9, h9⟩) (fun z hz => by
      rcases hpass z hz with h | ⟨hz0, nm, hl1, hn1⟩
      · exact Or.inl h
      · obtain ⟨c6, hc6, hcl6⟩ := Cond.classLink_spec hown hl1 e.platform hpl
        obtain ⟨a8, b8, h1, h2, h3⟩ := hn1
        cases Option.some.inj (h1.symm.trans hcl)
        cases Option.some.inj (h2.symm.trans hc6)
        exact Or.inr ⟨hz0, _, hcl6, h3⟩)
  obtain ⟨g₀, hfr⟩ := X'.frames_eq
  have hcell9 : ((T.setVm vm').setFrames (.throwing q :: below)).heap[q]? = some ce := by
    show T.heap[q]? = some ce
    rw [hT]; exact hcell
  have hend : Ended ((T.setVm vm').setFrames (.throwing q :: below)) below (.threw q) := State.frames_setFrames _ (State.cur_lt_of_frames hfr)
  refine ⟨(T.setVm vm').setFrames (.throwing q :: below), ?_, .threw q, X'.here.running, hend, Or.inr ⟨q, rfl, E, ce, locs, hx _ hT (X'.ends _).1.alike, hcell9, hv, hcl, (X'.ends _).1, (X'.ends _).2.mono hc hs, hf⟩⟩
  rw [X.pushThrowing_eq]
  exact st
/-- a thing of a world lies in the heap -/
theorem vx_lt {D : va_G} {cl : List vw_C} {ws : va_W} {H1 : Heap} (h : va_P D cl ws H1) {k : Nat} {q : Nat × va_E} (hk : ws[k]? = some q) : q.1 < H1.size := (h k q hk).lt
end VXS
/-! ===== END ===== -/
/-! ===== BEGIN methods with a table of their own: called by a name, returning or throwing ===== -/
section VXH
/-! vx_backW, vx_callVX, vx_callSX, vx_callVW, vx_runVW, vx_runVX, vx_runSX, vx_ofWH follow the same proofs as their sisters above (Free/Laws.lean, Shelf42/LK1.lean); vx_outP calls Shelf42/NT130.lean (outThrough). -/
section
variable {l : Launch} {R : Room} {p : Program} {e : Env} {below : List Frame} {s : State} {sargs : Array Value} {y : MethodName} {len W9 : Nat}
theorem vx_backW {ws : List Cond} {rm : Room} {Pc : Array Value → State → Prop} {Qc : Array Value → State → Outcome → State → Prop} {XC : String → State → State → Prop} {mc ms : Nat} {free : Addr → Prop} {bytes : ByteArray} {maxL : Nat} {ret : Option FieldType} {hh : List (Nat × Nat × Nat × Nat)}
    (hM : vx_Met l y ws rm Pc Qc XC mc ms free) (hblind : FrameBlind Pc) (hrc : rm.cells = mc) (hrs : rm.slots = ms)
    (hframes : rm.frames + 1 ≤ R.frames) (hlocals : W9 + (maxL + 11) + rm.locals ≤ R.locals)
    (hws : ∀ w ∈ ws, ∀ a' U, s.WarmedH U.vm → w.before a' U = true) (hcode : Cond.codeWith y bytes maxL ret hh ∈ ws) (hinit : ∀ a' U, s.WarmedH U.vm → (Cond.initialized y.cls).before a' U = true) :
    vx_Back l R p e below s sargs y len W9 (PreOf R mc ms Pc) (PostOf Qc mc ms free) (vx_Post XC mc ms free) := by
  intro m meth c A g ig mk a X hg hsize hdg hW hn hp
  have h1 : (headSpec ws rm).pre.before a A.U = true := atoms_intro fun w hw => hws w hw _ _ X.warmed
  have h2 : (Cond.codeWith y bytes maxL ret hh).before a A.U = true := hws _ hcode _ _ X.warmed
  have h3 : (Cond.initialized y.cls).before a A.U = true := hinit _ _ X.warmed
  have h4 : A.cells + (headSpec ws rm).room.cells ≤ R.cells := by rw [show (headSpec ws rm).room.cells = mc from hrc]; exact hp.1
  have h5 : A.slots + (headSpec ws rm).room.slots ≤ R.slots := by rw [show (headSpec ws rm).room.slots = ms from hrs]; exact hp.2.1
  have hPc : Pc a (A.U.calling g mk a) := hblind _ _ _ _ hp.2.2
  obtain ⟨U, Ls, c0, s0⟩ := A
  dsimp only [Pt.U, Pt.locs, Pt.cells, Pt.slots] at h1 h2 h3 h4 h5 X hn hPc ⊢
  obtain ⟨m9, methY, cY, hn9, hmY, hcY, -, hlY, -⟩ := Cond.codeWith_spec h2
  cases Option.some.inj (hn9.symm.trans hn)
  obtain ⟨kY, hkY, -⟩ := className_of_methodNamed hn
  have hinitY : kY.init = .initialized := Cond.initialized_spec (findClass_of_methodNamed hn) hkY h3
  have h : At U g.method c below := by rw [hg]; exact X.here
  have hlocals9 : W9 + (maxL + 11) + (headSpec ws rm).room.locals ≤ R.locals := hlocals
  have happ : (headSpec ws rm).appliesLoose y e.platform (U.calling g mk a) = true :=
    Spec.appliesLoose_calling (g := g) h hdg hn hkY hinitY
      (X.room_calling (g := g) (R' := (headSpec ws rm).room) hsize hmY hcY hframes (by rw [hlY]; omega) h4 h5) h1
  obtain ⟨mid, hmid⟩ := h.above
  have hfr : (U.setTop g).frames = (.java g :: mid) ++ below := by rw [State.frames_setTop' g h.top, hmid]; rfl
  obtain ⟨o, s₂, hsteps, -, hend, hq⟩ := Steps.callFree hM p X.admits X.cas X.clock (acts := []) hfr happ hPc trivial
  have hq' : vx_Q Qc XC mc ms free a (U.calling g mk a) o s₂ := hq
  rw [State.frames_setTop' g h.top] at hend
  obtain ⟨g₀, hg0⟩ := Option.isSome_iff_exists.mp h.top
  obtain ⟨r, hr⟩ := State.topJava?_eq_some.mp hg0
  have hr' : (({ U with heap := s₂.heap, slotsUsed := s₂.slotsUsed } : State).setVm s₂.vm).frames = .java g₀ :: r := hr
  rcases hq' with ⟨hqc, L, hfe, hL⟩ | ⟨q, rfl, E, ce, L, hx, hce, hcv, hcl, hW₂, hsm, hL⟩
  · obtain ⟨⟨v, rfl⟩, hW₂, e2, q2, q3, q4, q5, q6⟩ := id hfe
    have e3 : s₂ = ({ (U.calling g mk a).setFrames s₂.frames with heap := s₂.heap, slotsUsed := s₂.slotsUsed } : State).setVm s₂.vm := by
      have : s₂ = ({ s₂ with vm := (U.calling g mk a).vm } : State).setVm s₂.vm := rfl
      rw [e2] at this
      exact this
    obtain ⟨c₂, i₂, len₂, hc₂, hd₂, hf₂⟩ := hend
    have hW' : U.WarmedH s₂.vm := hW₂
    have hcc : c₂ = c := by
      have h1 : s₂.code? g.method = U.code? g.method := by
        rw [State.code?_eq, State.code?_eq, hW'.alike.method?]
      exact Option.some.inj (hc₂.symm.trans (h1.trans h.code))
    subst hcc
    have hlen : len₂ = len := by rw [hdg] at hd₂; cases hd₂; rfl
    subst hlen
    have hs₂ : s₂ = (({ U with heap := s₂.heap, slotsUsed := s₂.slotsUsed } : State).setVm s₂.vm).setTop { g with pc := g.pc + len₂, stack := v.toList ++ g.stack } := by
      refine e3.trans ?_
      rw [hf₂, State.calling_eq h.top, State.setFrames_setFrames, State.setTop_of_frames _ hr', hr]
      rfl
    have hsame : U.sameButNew ({ U with heap := s₂.heap, slotsUsed := s₂.slotsUsed } : State) L mc ms := by
      refine ⟨?_, q2, q3, q4, q5, q6⟩
      obtain ⟨t, ht, -⟩ := State.frames_cons hr
      show ({ U with heap := s₂.heap, slotsUsed := s₂.slotsUsed } : State) = { U.setFrames U.frames with heap := s₂.heap, slotsUsed := s₂.slotsUsed }
      rw [State.setFrames_self ht]
    subst hg
    refine Or.inl ⟨v, ⟨(({ U with heap := s₂.heap, slotsUsed := s₂.slotsUsed } : State).setVm s₂.vm), Ls ++ L, c0 + mc, s0 + ms⟩,
      ⟨X.admits, X.cas, X.clock, X.frames, X.room, X.hears, X.method, X.code, (X.here.setHeapUsed s₂.heap s₂.slotsUsed).setVm hW'.alike, X.tail, State.WarmedH.trans X.warmed hW', X.limits, X.bytes, X.same.trans (hsame.setVm s.vm)⟩,
      ⟨g, mk, s₂, L, rfl, rfl, hqc, rfl, hL, rfl, rfl⟩, ?_⟩
    show Steps p.tables e below _ ((({ U with heap := s₂.heap, slotsUsed := s₂.slotsUsed } : State).setVm s₂.vm).setTop { g with pc := g.pc + len₂, stack := v.toList ++ g.stack })
    rw [← hs₂]
    exact hsteps
  · obtain ⟨e2, q2, q3, q4, q5, q6⟩ := id hsm
    have e3 : s₂ = ({ (U.calling g mk a).setFrames s₂.frames with heap := s₂.heap, slotsUsed := s₂.slotsUsed } : State).setVm s₂.vm := by
      have : s₂ = ({ s₂ with vm := (U.calling g mk a).vm } : State).setVm s₂.vm := rfl
      rw [e2] at this
      exact this
    have hf₂ : s₂.frames = .throwing q :: .java g :: U.frames.tail := hend
    have hW' : U.WarmedH s₂.vm := hW₂
    have hs₂ : s₂ = ((({ U with heap := s₂.heap, slotsUsed := s₂.slotsUsed } : State).setVm s₂.vm).setTop g).pushFrame (.throwing q) := by
      refine e3.trans ?_
      rw [hf₂, State.calling_eq h.top, State.setFrames_setFrames, State.pushFrame, State.frames_setTop _ hr', State.setTop_of_frames _ hr', State.setFrames_setFrames, hr]
      rfl
    have hsame : U.sameButNew ({ U with heap := s₂.heap, slotsUsed := s₂.slotsUsed } : State) L mc ms := by
      refine ⟨?_, q2, q3, q4, q5, q6⟩
      obtain ⟨t, ht, -⟩ := State.frames_cons hr
      show ({ U with heap := s₂.heap, slotsUsed := s₂.slotsUsed } : State) = { U.setFrames U.frames with heap := s₂.heap, slotsUsed := s₂.slotsUsed }
      rw [State.setFrames_self ht]
    subst hg
    refine Or.inr ⟨q, ⟨(({ U with heap := s₂.heap, slotsUsed := s₂.slotsUsed } : State).setVm s₂.vm), Ls ++ L, c0 + mc, s0 + ms⟩,
      ⟨X.admits, X.cas, X.clock, X.frames, X.room, X.hears, X.method, X.code, (X.here.setHeapUsed s₂.heap s₂.slotsUsed).setVm hW'.alike, X.tail, State.WarmedH.trans X.warmed hW', X.limits, X.bytes, X.same.trans (hsame.setVm s.vm)⟩,
      ⟨g, mk, s₂, L, E, ce, rfl, rfl, hx, hce, hcv, hcl, rfl, hL, rfl, rfl⟩, ?_⟩
    show Steps p.tables e below _ (((({ U with heap := s₂.heap, slotsUsed := s₂.slotsUsed } : State).setVm s₂.vm).setTop g).pushFrame (.throwing q))
    rw [← hs₂]
    exact hsteps
end
variable {p : Program} {l : Launch} {e : Env} {R : Room} {s : State} {m : MethodId} {args : Array Value} {below : List Frame} {meth : Method} {c : Code} {T : State} {H : Heap} {locs : List Loc} {cells slots : Nat}
theorem vx_callVX (X : Stand p l e R s m args below meth c T locs cells slots) (hexec : p.tables.exec = Jvm.exec) {own C : String} {index : Nat} {y : MethodName} {bytes : ByteArray} {maxL : Nat} {ret : Option FieldType} {hh : List (Nat × Nat × Nat × Nat)}
    (hown : s.vm.findClass own = some m.cls) (hlink : (Cond.methodLink own index y).before args s = true) (hinst : (Cond.instanceMethod y).before args s = true) (hsel : (Cond.selects C y y).before args s = true)
    (hcode : (Cond.codeWith y bytes maxL ret hh).before args s = true) (hy : y.cls ≠ "java/lang/invoke/MethodHandle" ∧ y.cls ≠ "java/lang/invoke/VarHandle")
    {W9 : Nat} {Pre : Pt → Array Value → Prop} {Post : Pt → Array Value → Option Value → Pt → Prop} {PostX : Pt → Array Value → Addr → Pt → Prop} (hK : vx_Back l R p e below s args y 3 W9 Pre Post PostX)
    {b : Addr} {cellB : Cell} (hcell : T.heap[b]? = some cellB) (hobj : cellB.vm.isStatics = false) (hcls : s.vm.findClass C = some cellB.cls)
    {g : JFrame} (hg : g.method = m) (hsize : g.locals.size = c.maxLocals) {argsL rest : List Value} (hlen : ∀ sig, parseMethodDescriptor y.desc = some sig → argsL.length = sig.parameters.length)
    (hstack : g.stack = argsL.reverse ++ .ref b :: rest) (hW : 2 * g.monitorRoom + (rest.map fun v => v.category).sum ≤ W9) (hdg : decode c.code g.pc = .ok (.invokevirtual index, 3))
    (hpre : ∀ vm₁, s.WarmedH vm₁ → Pre ⟨T.setVm vm₁, locs, cells, slots⟩ (Value.ref b :: argsL).toArray) :
    (∃ (v : Option Value) (vm₁ : Vm) (B : Pt), s.WarmedH vm₁ ∧ Stand p l e R s m args below meth c B.U B.locs B.cells B.slots ∧ Post ⟨T.setVm vm₁, locs, cells, slots⟩ (Value.ref b :: argsL).toArray v B ∧
      ∀ target, Steps p.tables e below (B.U.setTop { g with pc := g.pc + 3, stack := v.toList ++ rest }) target → Steps p.tables e below (T.setTop g) target) ∨
    (∃ (q : Addr) (vm₁ : Vm) (B : Pt), s.WarmedH vm₁ ∧ Stand p l e R s m args below meth c B.U B.locs B.cells B.slots ∧ PostX ⟨T.setVm vm₁, locs, cells, slots⟩ (Value.ref b :: argsL).toArray q B ∧
      Steps p.tables e below (T.setTop g) ((B.U.setTop { g with stack := rest }).pushFrame (.throwing q))) := by
  obtain ⟨mk, methM, hnamed, hmethM, hstM, habM⟩ := Cond.instanceMethod_spec hinst
  obtain ⟨m8, methM', cM, hn8, hmethM', -, -, -, -, -, -, hsigM⟩ := Cond.codeWith_spec hcode
  cases Option.some.inj (hn8.symm.trans hnamed)
  cases hmethM.symm.trans hmethM'
  obtain ⟨c2, r2, m2, q1, q2, q3, q4, kP, hkP, hkPi⟩ := Cond.selects_spec hsel
  cases hcls.symm.trans q1
  cases (State.methodFound?_of_named hnamed hy).symm.trans q2
  cases hnamed.symm.trans q3
  have hselP : selectMethod e.platform s.vm cellB.cls mk = .method mk := by rw [Launch.admits_selectMethod X.admits]; exact q4
  obtain ⟨vm₁, X₁, hstep₁⟩ := X.invokevirtual hexec hown hlink hnamed hmethM hstM hkP hkPi hy (a := b) (cell := cellB) hcell
    (fun z h => by rw [h] at hobj; cases hobj) hselP hmethM habM hkP hkPi (g := g) hg (argsL := argsL) (rest := rest) (hlen _ hsigM) hstack hdg
  rcases hK m meth c ⟨T.setVm vm₁, locs, cells, slots⟩ { g with stack := rest } (.invokevirtual index) mk (Value.ref b :: argsL).toArray X₁ hg hsize hdg hW (X₁.named hnamed) (hpre vm₁ X₁.warmed) with ⟨v, B, X', hpost, hsteps⟩ | ⟨q, B, X', hpost, hsteps⟩
  · exact Or.inl ⟨v, vm₁, B, X₁.warmed, X', hpost, fun target h => hstep₁ _ fun acts => by rw [doInvoke_state]; exact hsteps.trans h⟩
  · exact Or.inr ⟨q, vm₁, B, X₁.warmed, X', hpost, hstep₁ _ fun acts => by rw [doInvoke_state]; exact hsteps⟩
theorem vx_callSX (X : Stand p l e R s m args below meth c T locs cells slots) (hexec : p.tables.exec = Jvm.exec) {own : String} {index : Nat} {y : MethodName} {bytes : ByteArray} {maxL : Nat} {ret : Option FieldType} {hh : List (Nat × Nat × Nat × Nat)}
    (hown : s.vm.findClass own = some m.cls) (hlink : (Cond.methodLink own index y).before args s = true) (hstat : (Cond.static y).before args s = true) (hinit : (Cond.initialized y.cls).before args s = true)
    (hcode : (Cond.codeWith y bytes maxL ret hh).before args s = true) (hy : y.cls ≠ "java/lang/invoke/MethodHandle" ∧ y.cls ≠ "java/lang/invoke/VarHandle")
    {W9 : Nat} {Pre : Pt → Array Value → Prop} {Post : Pt → Array Value → Option Value → Pt → Prop} {PostX : Pt → Array Value → Addr → Pt → Prop} (hK : vx_Back l R p e below s args y 3 W9 Pre Post PostX)
    {g : JFrame} (hg : g.method = m) (hsize : g.locals.size = c.maxLocals) {argsL rest : List Value} (hlen : ∀ sig, parseMethodDescriptor y.desc = some sig → argsL.length = sig.parameters.length)
    (hstack : g.stack = argsL.reverse ++ rest) (hW : 2 * g.monitorRoom + (rest.map fun v => v.category).sum ≤ W9) (hdg : decode c.code g.pc = .ok (.invokestatic index, 3))
    (hpre : ∀ vm₁, s.WarmedH vm₁ → Pre ⟨T.setVm vm₁, locs, cells, slots⟩ argsL.toArray) :
    (∃ (v : Option Value) (vm₁ : Vm) (B : Pt), s.WarmedH vm₁ ∧ Stand p l e R s m args below meth c B.U B.locs B.cells B.slots ∧ Post ⟨T.setVm vm₁, locs, cells, slots⟩ argsL.toArray v B ∧
      ∀ target, Steps p.tables e below (B.U.setTop { g with pc := g.pc + 3, stack := v.toList ++ rest }) target → Steps p.tables e below (T.setTop g) target) ∨
    (∃ (q : Addr) (vm₁ : Vm) (B : Pt), s.WarmedH vm₁ ∧ Stand p l e R s m args below meth c B.U B.locs B.cells B.slots ∧ PostX ⟨T.setVm vm₁, locs, cells, slots⟩ argsL.toArray q B ∧
      Steps p.tables e below (T.setTop g) ((B.U.setTop { g with stack := rest }).pushFrame (.throwing q))) := by
  obtain ⟨mk, methM, cM, hnamed, hmethM, -, -, -, -, -, -, hsigM⟩ := Cond.codeWith_spec hcode
  have hstatic : methM.isStatic = true := Cond.static_spec hnamed hmethM hstat
  obtain ⟨kP, hkP, -⟩ := className_of_methodNamed hnamed
  have hinitP : kP.init = .initialized := Cond.initialized_spec (findClass_of_methodNamed hnamed) hkP hinit
  obtain ⟨vm₁, X₁, hstep₁⟩ := X.invokestatic hexec hown hlink hnamed hmethM hstatic hkP hinitP hy (g := g) hg (argsL := argsL) (rest := rest) (hlen _ hsigM) hstack hdg
  rcases hK m meth c ⟨T.setVm vm₁, locs, cells, slots⟩ { g with stack := rest } (.invokestatic index) mk argsL.toArray X₁ hg hsize hdg hW (X₁.named hnamed) (hpre vm₁ X₁.warmed) with ⟨v, B, X', hpost, hsteps⟩ | ⟨q, B, X', hpost, hsteps⟩
  · exact Or.inl ⟨v, vm₁, B, X₁.warmed, X', hpost, fun target h => hstep₁ _ fun acts => by rw [doInvoke_state]; exact hsteps.trans h⟩
  · exact Or.inr ⟨q, vm₁, B, X₁.warmed, X', hpost, hstep₁ _ fun acts => by rw [doInvoke_state]; exact hsteps⟩
theorem vx_callVW (X : Stand p l e R s m args below meth c T locs cells slots) (hexec : p.tables.exec = Jvm.exec) {own C : String} {index : Nat} {y : MethodName} {bytes : ByteArray} {maxL : Nat} {ret : Option FieldType} {hh : List (Nat × Nat × Nat × Nat)}
    (hown : s.vm.findClass own = some m.cls) (hlink : (Cond.methodLink own index y).before args s = true) (hinst : (Cond.instanceMethod y).before args s = true) (hsel : (Cond.selects C y y).before args s = true)
    (hcode : (Cond.codeWith y bytes maxL ret hh).before args s = true) (hy : y.cls ≠ "java/lang/invoke/MethodHandle" ∧ y.cls ≠ "java/lang/invoke/VarHandle")
    {W9 : Nat} {Pre : Pt → Array Value → Prop} {Post : Pt → Array Value → Option Value → Pt → Prop} (hK : Back l R p e below s args y 3 W9 Pre Post)
    {b : Addr} {cellB : Cell} (hcell : T.heap[b]? = some cellB) (hobj : cellB.vm.isStatics = false) (hcls : s.vm.findClass C = some cellB.cls)
    {g : JFrame} (hg : g.method = m) (hsize : g.locals.size = c.maxLocals) {argsL rest : List Value} (hlen : ∀ sig, parseMethodDescriptor y.desc = some sig → argsL.length = sig.parameters.length)
    (hstack : g.stack = argsL.reverse ++ .ref b :: rest) (hW : 2 * g.monitorRoom + (rest.map fun v => v.category).sum ≤ W9) (hdg : decode c.code g.pc = .ok (.invokevirtual index, 3))
    (hpre : ∀ vm₁, s.WarmedH vm₁ → Pre ⟨T.setVm vm₁, locs, cells, slots⟩ (Value.ref b :: argsL).toArray) :
    ∃ (v : Option Value) (vm₁ : Vm) (B : Pt), s.WarmedH vm₁ ∧ Stand p l e R s m args below meth c B.U B.locs B.cells B.slots ∧ Post ⟨T.setVm vm₁, locs, cells, slots⟩ (Value.ref b :: argsL).toArray v B ∧
      ∀ target, Steps p.tables e below (B.U.setTop { g with pc := g.pc + 3, stack := v.toList ++ rest }) target → Steps p.tables e below (T.setTop g) target := by
  obtain ⟨mk, methM, hnamed, hmethM, hstM, habM⟩ := Cond.instanceMethod_spec hinst
  obtain ⟨m8, methM', cM, hn8, hmethM', -, -, -, -, -, -, hsigM⟩ := Cond.codeWith_spec hcode
  cases Option.some.inj (hn8.symm.trans hnamed)
  cases hmethM.symm.trans hmethM'
  obtain ⟨c2, r2, m2, q1, q2, q3, q4, kP, hkP, hkPi⟩ := Cond.selects_spec hsel
  cases hcls.symm.trans q1
  cases (State.methodFound?_of_named hnamed hy).symm.trans q2
  cases hnamed.symm.trans q3
  have hselP : selectMethod e.platform s.vm cellB.cls mk = .method mk := by rw [Launch.admits_selectMethod X.admits]; exact q4
  obtain ⟨vm₁, X₁, hstep₁⟩ := X.invokevirtual hexec hown hlink hnamed hmethM hstM hkP hkPi hy (a := b) (cell := cellB) hcell
    (fun z h => by rw [h] at hobj; cases hobj) hselP hmethM habM hkP hkPi (g := g) hg (argsL := argsL) (rest := rest) (hlen _ hsigM) hstack hdg
  obtain ⟨v, B, X', hpost, hsteps⟩ := hK m meth c ⟨T.setVm vm₁, locs, cells, slots⟩ { g with stack := rest } (.invokevirtual index) mk (Value.ref b :: argsL).toArray X₁ hg hsize hdg hW (X₁.named hnamed) (hpre vm₁ X₁.warmed)
  exact ⟨v, vm₁, B, X₁.warmed, X', hpost, fun target h => hstep₁ _ fun acts => by rw [doInvoke_state]; exact hsteps.trans h⟩
abbrev vx_CVW (R : Room) (s : State) (args : Array Value) (own C : String) (index : Nat) (y : MethodName) (bytes : ByteArray) (maxL : Nat) (ret : Option FieldType) (hh : List (Nat × Nat × Nat × Nat)) (ws : List Cond) (rm : Room) (mc ms n : Nat) : Prop :=
  (rm.cells = mc ∧ rm.slots = ms ∧ rm.frames + 1 ≤ R.frames ∧ 8 + (maxL + 11) + rm.locals ≤ R.locals ∧ (∀ w ∈ ws, ∀ (a' : Array Value) (U : State), s.WarmedH U.vm → w.before a' U = true) ∧ Cond.codeWith y bytes maxL ret hh ∈ ws) ∧
  (Cond.codeWith y bytes maxL ret hh).before args s = true ∧ (Cond.initialized y.cls).before args s = true ∧ (y.cls ≠ "java/lang/invoke/MethodHandle" ∧ y.cls ≠ "java/lang/invoke/VarHandle") ∧
  (∀ sig, parseMethodDescriptor y.desc = some sig → n = sig.parameters.length) ∧ (Cond.methodLink own index y).before args s = true ∧ (Cond.instanceMethod y).before args s = true ∧ (Cond.selects C y y).before args s = true
theorem vx_cwVW {own C : String} {index maxL mc ms : Nat} {y : MethodName} {bytes : ByteArray} {ret : Option FieldType} {hh : List (Nat × Nat × Nat × Nat)} {Ts ws ws' : List Cond} {rm : Room} (n : Nat) (ht : ∀ w ∈ Ts, w.before args s = true) (hT : GoodIn Ts (wsV own index C y ws)) (hw : ws = Cond.codeWith y bytes maxL ret hh :: ws') (hrc : rm.cells = mc) (hrs : rm.slots = ms)
    (hd : y.cls = C ∧ y.cls ≠ "java/lang/invoke/MethodHandle" ∧ y.cls ≠ "java/lang/invoke/VarHandle" ∧ (parseMethodDescriptor y.desc).map (fun d => d.parameters.length) = some n) (hR : rm.frames + 1 ≤ R.frames ∧ 8 + (maxL + 11) + rm.locals ≤ R.locals) :
    vx_CVW R s args own C index y bytes maxL ret hh ws rm mc ms n := by
  obtain ⟨hC, hd⟩ := hd
  subst hC
  have ok : ∀ w ∈ wsV own index y.cls y ws, w.before args s = true := fun w h => ht w (hT w h).1
  have hG : GoodIn Ts ws := fun w h => hT w (by unfold wsV; exact List.mem_append_right _ h)
  have hc : Cond.codeWith y bytes maxL ret hh ∈ ws := by rw [hw]; exact List.mem_cons_self
  refine ⟨⟨hrc, hrs, hR.1, hR.2, pay_in ht hG, hc⟩, ht _ (hG _ hc).1, ok _ (by simp [wsV]), ⟨hd.1, hd.2.1⟩, fun sig h => ?_, ok _ (by simp [wsV]), ok _ (by simp [wsV]), ok _ (by simp [wsV])⟩
  have h2 := hd.2.2
  rw [h] at h2
  exact (Option.some.inj h2).symm
theorem vx_runVW {y : MethodName} {bytes cc : ByteArray} {maxL nL mc ms n index : Nat} {ret : Option FieldType} {hh : List (Nat × Nat × Nat × Nat)} {ws : List Cond} {rm : Room} {Pc : Array Value → State → Prop} {Qc : Array Value → State → Outcome → State → Prop} {free : Addr → Prop} {Ts : List Cond} {own C : String} {b : Addr} {As rest : List Value} {g : JFrame}
    (S : CallFix p m c cc nL s args Ts own) (hM : Met l y ws rm Pc Qc mc ms free) (cw : vx_CVW R s args own C index y bytes maxL ret hh ws rm mc ms n) (hp : PreV s H C b Pc As)
    (hg : g.method = m) (hn : As.length = n) (hsize : g.locals.size = nL) (hstack : g.stack = As.reverse ++ .ref b :: rest) (hW : 2 * g.monitorRoom + (rest.map fun v => v.category).sum ≤ 8) (hdg : decode cc g.pc = .ok (.invokevirtual index, 3)) (hf : cells + mc ≤ R.cells ∧ slots + ms ≤ R.slots) :
    va_Run p l e R s m args below meth c H locs cells slots mc ms g rest (Qc (Value.ref b :: As).toArray) free := by
  obtain ⟨⟨hrc, hrs, hfr, hlo, hws, hcw⟩, hcode, hini, hy, hlen, hl, hin, hse⟩ := cw
  have hK : Back l R p e below s args y 3 8 (PreOf R mc ms Pc) (PostOf Qc mc ms free) := va_backW (hh := hh) (bytes := bytes) (maxL := maxL) (ret := ret) hM hp.1 hrc hrs hfr hlo hws hcw (fun a' U hW => word_at hW (Or.inl (by first | rfl | simp [Cond.onTables, Cond.keeps, Cond.steady])) hini)
  obtain ⟨hx, hb, hml, ho, -⟩ := S
  obtain ⟨-, ⟨cellB, hcB, hoB, hclB⟩, hPc⟩ := hp
  intro T hT X
  obtain ⟨v, vm₁, ⟨U', l2, c2, s2⟩, hW₁, X', ⟨g', mk, t, L, e1, e2, hq, h1, hL, h2, h3⟩, st⟩ := vx_callVW X hx (C := C) (hh := hh) (bytes := bytes) (maxL := maxL) (ret := ret) ho hl hin hse hcode hy hK (by rw [hT]; exact hcB) hoB hclB hg (hsize.trans hml.symm) (argsL := As) (rest := rest) (fun sig h => hn.trans (hlen sig h)) hstack hW (by rw [hb]; exact hdg)
    (fun vm₁ hW₁ => ⟨hf.1, hf.2, hPc (T.setVm vm₁) hT hW₁⟩)
  dsimp only [Pt.U, Pt.locs, Pt.cells, Pt.slots] at X' e1 e2 h1 h2 h3 st
  subst h1; subst h2; subst h3
  exact ⟨v, (T.setVm vm₁).calling g' mk (Value.ref b :: As).toArray, t, U', L, hT, X', hL, e1, e2, hq, st⟩
section
variable {y : MethodName} {bytes cc : ByteArray} {maxL nL mc ms n index : Nat} {ret : Option FieldType} {ws : List Cond} {rm : Room} {Pc : Array Value → State → Prop} {Qc : Array Value → State → Outcome → State → Prop} {XC : String → State → State → Prop} {free : Addr → Prop} {Ts : List Cond} {own C : String} {b : Addr} {As rest : List Value} {g : JFrame}
theorem vx_runVX {hh : List (Nat × Nat × Nat × Nat)} (S : CallFix p m c cc nL s args Ts own) (hM : vx_Met l y ws rm Pc Qc XC mc ms free) (cw : vx_CVW R s args own C index y bytes maxL ret hh ws rm mc ms n) (hp : PreV s H C b Pc As)
    (hg : g.method = m) (hn : As.length = n) (hsize : g.locals.size = nL) (hstack : g.stack = As.reverse ++ .ref b :: rest) (hW : 2 * g.monitorRoom + (rest.map fun v => v.category).sum ≤ 8) (hdg : decode cc g.pc = .ok (.invokevirtual index, 3)) (hf : cells + mc ≤ R.cells ∧ slots + ms ≤ R.slots) :
    vx_Run p l e R s m args below meth c H locs cells slots mc ms g rest (Qc (Value.ref b :: As).toArray) XC free := by
  obtain ⟨⟨hrc, hrs, hfr, hlo, hws, hcw⟩, hcode, hini, hy, hlen, hl, hin, hse⟩ := cw
  have hK : vx_Back l R p e below s args y 3 8 (PreOf R mc ms Pc) (PostOf Qc mc ms free) (vx_Post XC mc ms free) := vx_backW (hh := hh) (bytes := bytes) (maxL := maxL) (ret := ret) hM hp.1 hrc hrs hfr hlo hws hcw (fun a' U hW => word_at hW (Or.inl (by first | rfl | simp [Cond.onTables, Cond.keeps, Cond.steady])) hini)
  obtain ⟨hx, hb, hml, ho, -⟩ := S
  obtain ⟨-, ⟨cellB, hcB, hoB, hclB⟩, hPc⟩ := hp
  intro T hT X
  rcases vx_callVX X hx (C := C) (hh := hh) (bytes := bytes) (maxL := maxL) (ret := ret) ho hl hin hse hcode hy hK (by rw [hT]; exact hcB) hoB hclB hg (hsize.trans hml.symm) (argsL := As) (rest := rest) (fun sig h => hn.trans (hlen sig h)) hstack hW (by rw [hb]; exact hdg)
    (fun vm₁ hW₁ => ⟨hf.1, hf.2, hPc (T.setVm vm₁) hT hW₁⟩) with ⟨v, vm₁, ⟨U', l2, c2, s2⟩, hW₁, X', ⟨g', mk, t, L, e1, e2, hq, h1, hL, h2, h3⟩, st⟩ | ⟨q, vm₁, ⟨U', l2, c2, s2⟩, hW₁, X', ⟨g', mk, t, L, E, ce, e1, e2, hq, hce, hcv, hcl, h1, hL, h2, h3⟩, st⟩
  · dsimp only [Pt.U, Pt.locs, Pt.cells, Pt.slots] at X' e1 e2 h1 h2 h3 st
    subst h1; subst h2; subst h3
    exact Or.inl ⟨v, (T.setVm vm₁).calling g' mk (Value.ref b :: As).toArray, t, U', L, hT, X', hL, e1, e2, hq, st⟩
  · dsimp only [Pt.U, Pt.locs, Pt.cells, Pt.slots] at X' e1 e2 h1 h2 h3 st hcl
    subst h1; subst h2; subst h3
    exact Or.inr ⟨q, (T.setVm vm₁).calling g' mk (Value.ref b :: As).toArray, t, U', L, E, ce, hT, X', hL, e1, e2, hq, hce, hcv, vx_cls hW₁ hcl, st⟩
theorem vx_runSX {hh : List (Nat × Nat × Nat × Nat)} (S : CallFix p m c cc nL s args Ts own) (hM : vx_Met l y ws rm Pc Qc XC mc ms free) (cw : vx_CSW R s args own index y bytes maxL ret hh ws rm mc ms n) (hp : PreS s H Pc As)
    (hg : g.method = m) (hn : As.length = n) (hsize : g.locals.size = nL) (hstack : g.stack = As.reverse ++ rest) (hW : 2 * g.monitorRoom + (rest.map fun v => v.category).sum ≤ 8) (hdg : decode cc g.pc = .ok (.invokestatic index, 3)) (hf : cells + mc ≤ R.cells ∧ slots + ms ≤ R.slots) :
    vx_Run p l e R s m args below meth c H locs cells slots mc ms g rest (Qc As.toArray) XC free := by
  obtain ⟨⟨hrc, hrs, hfr, hlo, hws, hcw⟩, hcode, hini, hy, hlen, hl, hstt⟩ := cw
  have hK : vx_Back l R p e below s args y 3 8 (PreOf R mc ms Pc) (PostOf Qc mc ms free) (vx_Post XC mc ms free) := vx_backW (hh := hh) (bytes := bytes) (maxL := maxL) (ret := ret) hM hp.1 hrc hrs hfr hlo hws hcw (fun a' U hW => word_at hW (Or.inl (by first | rfl | simp [Cond.onTables, Cond.keeps, Cond.steady])) hini)
  obtain ⟨hx, hb, hml, ho, -⟩ := S
  intro T hT X
  rcases vx_callSX X hx (hh := hh) (bytes := bytes) (maxL := maxL) (ret := ret) ho hl hstt hini hcode hy hK hg (hsize.trans hml.symm) (argsL := As) (rest := rest) (fun sig h => hn.trans (hlen sig h)) hstack hW (by rw [hb]; exact hdg)
    (fun vm₁ hW₁ => ⟨hf.1, hf.2, hp.2 (T.setVm vm₁) hT hW₁⟩) with ⟨v, vm₁, ⟨U', l2, c2, s2⟩, hW₁, X', ⟨g', mk, t, L, e1, e2, hq, h1, hL, h2, h3⟩, st⟩ | ⟨q, vm₁, ⟨U', l2, c2, s2⟩, hW₁, X', ⟨g', mk, t, L, E, ce, e1, e2, hq, hce, hcv, hcl, h1, hL, h2, h3⟩, st⟩
  · dsimp only [Pt.U, Pt.locs, Pt.cells, Pt.slots] at X' e1 e2 h1 h2 h3 st
    subst h1; subst h2; subst h3
    exact Or.inl ⟨v, (T.setVm vm₁).calling g' mk As.toArray, t, U', L, hT, X', hL, e1, e2, hq, st⟩
  · dsimp only [Pt.U, Pt.locs, Pt.cells, Pt.slots] at X' e1 e2 h1 h2 h3 st hcl
    subst h1; subst h2; subst h3
    exact Or.inr ⟨q, (T.setVm vm₁).calling g' mk As.toArray, t, U', L, E, ce, hT, X', hL, e1, e2, hq, hce, hcv, vx_cls hW₁ hcl, st⟩
end
end VXH
theorem vx_ofWH {l : Launch} {y : MethodName} {ws ws' : List Cond} {rm : Room} {Pc : Array Value → State → Prop} {Qc : Array Value → State → Outcome → State → Prop} {XC : String → State → State → Prop} {mc ms : Nat} {free : Addr → Prop} {cc : ByteArray} {maxL : Nat} {ret : Option FieldType} {hh : List (Nat × Nat × Nat × Nat)}
    (hy : plainName y.cls = true) (hw : ws = Cond.codeWith y cc maxL ret hh :: ws')
    (body : ∀ p e s m args below meth c s₁, BodyLoose p l y (headSpec ws rm) cc maxL ret e s m args below meth c s₁ → c.maxLocals = maxL → Pc args s →
      W p l e (headSpec ws rm).room s m args below meth c s.heap [] 0 0 (vx_MQ below Qc XC args s mc ms free) (entryFrame m args maxL)) : vx_Met l y ws rm Pc Qc XC mc ms free := by
  refine MetFree.of_bodyS (code := cc) (maxLocals := maxL) (ret := ret) hy ?_ ?_
  · intro args s m h hn
    obtain ⟨m9, meth, c, hn9, h1, h2, h3, h4, -, h5, h6, -⟩ := Cond.codeWith_spec (atoms_spec (ws := ws) h _ (by rw [hw]; exact List.mem_cons_self))
    cases hn.symm.trans hn9
    exact ⟨meth, c, h1, h2, h3, h4, h5, h6⟩
  · intro p e s m args below meth c s₁ B hml hP _
    have hh0 : s₁.heap = s.heap := by rw [B.state]; rfl
    obtain ⟨t, a1, o, b1, b2, b3⟩ := body p e s m args below meth c s₁ B hml hP s₁ hh0 (Stand.of_body B)
    exact ⟨t, o, a1, b1, b2, b3⟩
/-! ===== END ===== -/

/-! ===== BEGIN printed: names, fields, word lists, decode rows ===== -/
def RX0 : String := "FlagChamber$Audiences"
def TX0 : u_T := fun k => match k with
  | 0 => ("FlagChamber$Audiences", "drafts", "[LFlagChamber$Text;", true)
  | 1 => ("FlagChamber$Audiences", "ruleTexts", "[LFlagChamber$Text;", true)
  | 2 => ("FlagChamber$Audiences", "references", "LFlagChamber$Graph;", true)
  | 3 => ("FlagChamber$Audiences", "members", "[I", true)
  | 4 => ("FlagChamber$Audiences", "membersIfSet", "[I", true)
  | 5 => ("FlagChamber$Audiences", "reader", "LFlagChamber$Reader;", true)
  | _ => ("FlagChamber$Audiences", "evaluator", "LFlagChamber$Evaluator;", true)
def tyX0 : Nat → FieldType := fun k => match k with
  | 0 => .array (.object "FlagChamber$Text")
  | 1 => .array (.object "FlagChamber$Text")
  | 2 => .object "FlagChamber$Graph"
  | 3 => .array .int
  | 4 => .array .int
  | 5 => .object "FlagChamber$Reader"
  | _ => .object "FlagChamber$Evaluator"
abbrev wsX00 : List Cond := u_ws RX0 TX0 7
theorem nmX0 : ∀ a, a < 7 → ∀ b, b < 7 → a ≠ b → (TX0 a).2.1 ≠ (TX0 b).2.1 := by decide +kernel
theorem tyX0_ok : ∀ k, k < 7 → parseFieldDescriptor (TX0 k).2.2.1 = some (tyX0 k) := by decide +kernel
abbrev cX0_init : ByteArray := prog_2_method_1_code
def yX0_init : MethodName := ⟨RX0, "<init>", "()V"⟩
abbrev cX0_faultOf : ByteArray := prog_2_method_2_code
def yX0_faultOf : MethodName := ⟨RX0, "faultOf", "(I)I"⟩
abbrev cX0_canBeSet : ByteArray := prog_2_method_3_code
def yX0_canBeSet : MethodName := ⟨RX0, "canBeSet", "(I)Z"⟩
abbrev cX0_settle : ByteArray := prog_2_method_4_code
def yX0_settle : MethodName := ⟨RX0, "settle", "(LFlagChamber$People;)V"⟩
abbrev cX0_tryDraft : ByteArray := prog_2_method_5_code
def yX0_tryDraft : MethodName := ⟨RX0, "tryDraft", "(ILFlagChamber$People;)V"⟩
abbrev cX0_adoptDraft : ByteArray := prog_2_method_6_code
def yX0_adoptDraft : MethodName := ⟨RX0, "adoptDraft", "(I)V"⟩
def RX1 : String := "FlagChamber$Entry"
def TX1 : u_T := fun k => match k with
  | 0 => ("FlagChamber$Entry", "kind", "I", true)
  | 1 => ("FlagChamber$Entry", "person", "I", true)
  | 2 => ("FlagChamber$Entry", "flag", "I", true)
  | 3 => ("FlagChamber$Entry", "trial", "I", true)
  | _ => ("FlagChamber$Entry", "variant", "I", true)
def tyX1 : Nat → FieldType := fun k => match k with
  | 0 => .int
  | 1 => .int
  | 2 => .int
  | 3 => .int
  | _ => .int
abbrev wsX10 : List Cond := u_ws RX1 TX1 5
theorem nmX1 : ∀ a, a < 5 → ∀ b, b < 5 → a ≠ b → (TX1 a).2.1 ≠ (TX1 b).2.1 := by decide +kernel
theorem tyX1_ok : ∀ k, k < 5 → parseFieldDescriptor (TX1 k).2.2.1 = some (tyX1 k) := by decide +kernel
abbrev cX1_init : ByteArray := prog_3_method_1_code
def yX1_init : MethodName := ⟨RX1, "<init>", "(IIIII)V"⟩
abbrev cX1_concerns : ByteArray := prog_3_method_2_code
def yX1_concerns : MethodName := ⟨RX1, "concerns", "(I)Z"⟩
def RX2 : String := "FlagChamber$Evaluator"
def TX2 : u_T := fun k => match k with
  | 0 => ("FlagChamber$Evaluator", "metTerms", "[I", true)
  | 1 => ("FlagChamber$Evaluator", "metFactors", "[I", true)
  | 2 => ("FlagChamber$Evaluator", "turned", "[I", true)
  | _ => ("FlagChamber$Evaluator", "depth", "I", false)
def tyX2 : Nat → FieldType := fun k => match k with
  | 0 => .array .int
  | 1 => .array .int
  | 2 => .array .int
  | _ => .int
abbrev wsX20 : List Cond := u_ws RX2 TX2 4
theorem nmX2 : ∀ a, a < 4 → ∀ b, b < 4 → a ≠ b → (TX2 a).2.1 ≠ (TX2 b).2.1 := by decide +kernel
theorem tyX2_ok : ∀ k, k < 4 → parseFieldDescriptor (TX2 k).2.2.1 = some (tyX2 k) := by decide +kernel
abbrev cX2_init : ByteArray := prog_4_method_1_code
def yX2_init : MethodName := ⟨RX2, "<init>", "()V"⟩
abbrev cX2_whoMeets : ByteArray := prog_4_method_2_code
def yX2_whoMeets : MethodName := ⟨RX2, "whoMeets", "(LFlagChamber$Text;LFlagChamber$People;[I)I"⟩
abbrev cX2_readSign : ByteArray := prog_4_method_3_code
def yX2_readSign : MethodName := ⟨RX2, "readSign", "(LFlagChamber$Text;ILFlagChamber$People;[I)V"⟩
abbrev cX2_beginExpression : ByteArray := prog_4_method_4_code
def yX2_beginExpression : MethodName := ⟨RX2, "beginExpression", "()V"⟩
abbrev cX2_addFactor : ByteArray := prog_4_method_5_code
def yX2_addFactor : MethodName := ⟨RX2, "addFactor", "(I)V"⟩
abbrev cX2_whoIsIn : ByteArray := prog_4_method_6_code
def yX2_whoIsIn : MethodName := ⟨RX2, "whoIsIn", "(I[I)I"⟩
def RX3 : String := "FlagChamber$Flag"
def TX3 : u_T := fun k => match k with
  | 0 => ("FlagChamber$Flag", "ruleAudiences", "[I", true)
  | 1 => ("FlagChamber$Flag", "outcomes", "[I", true)
  | _ => ("FlagChamber$Flag", "count", "I", false)
def tyX3 : Nat → FieldType := fun k => match k with
  | 0 => .array .int
  | 1 => .array .int
  | _ => .int
abbrev wsX30 : List Cond := u_ws RX3 TX3 3
theorem nmX3 : ∀ a, a < 3 → ∀ b, b < 3 → a ≠ b → (TX3 a).2.1 ≠ (TX3 b).2.1 := by decide +kernel
theorem tyX3_ok : ∀ k, k < 3 → parseFieldDescriptor (TX3 k).2.2.1 = some (tyX3 k) := by decide +kernel
abbrev cX3_init : ByteArray := prog_5_method_1_code
def yX3_init : MethodName := ⟨RX3, "<init>", "()V"⟩
abbrev cX3_insert : ByteArray := prog_5_method_2_code
def yX3_insert : MethodName := ⟨RX3, "insert", "(III)V"⟩
abbrev cX3_delete : ByteArray := prog_5_method_3_code
def yX3_delete : MethodName := ⟨RX3, "delete", "(I)V"⟩
abbrev cX3_outcomeOf : ByteArray := prog_5_method_4_code
def yX3_outcomeOf : MethodName := ⟨RX3, "outcomeOf", "(I)I"⟩
abbrev cX3_trialOf : ByteArray := prog_5_method_5_code
def yX3_trialOf : MethodName := ⟨RX3, "trialOf", "(I)I"⟩
abbrev cX3_decidingRule : ByteArray := prog_5_method_6_code
def yX3_decidingRule : MethodName := ⟨RX3, "decidingRule", "(I[I)I"⟩
def RX4 : String := "FlagChamber$Graph"
def TX4 : u_T := fun k => match k with
  | 0 => ("FlagChamber$Graph", "targets", "[I", true)
  | _ => ("FlagChamber$Graph", "order", "[I", true)
def tyX4 : Nat → FieldType := fun k => match k with
  | 0 => .array .int
  | _ => .array .int
abbrev wsX40 : List Cond := u_ws RX4 TX4 2
theorem nmX4 : ∀ a, a < 2 → ∀ b, b < 2 → a ≠ b → (TX4 a).2.1 ≠ (TX4 b).2.1 := by decide +kernel
theorem tyX4_ok : ∀ k, k < 2 → parseFieldDescriptor (TX4 k).2.2.1 = some (tyX4 k) := by decide +kernel
abbrev cX4_init : ByteArray := prog_6_method_1_code
def yX4_init : MethodName := ⟨RX4, "<init>", "(I)V"⟩
abbrev cX4_wouldLoop : ByteArray := prog_6_method_2_code
def yX4_wouldLoop : MethodName := ⟨RX4, "wouldLoop", "(II)Z"⟩
abbrev cX4_point : ByteArray := prog_6_method_3_code
def yX4_point : MethodName := ⟨RX4, "point", "(II)V"⟩
abbrev cX4_arrange : ByteArray := prog_6_method_4_code
def yX4_arrange : MethodName := ⟨RX4, "arrange", "()V"⟩
def RX5 : String := "FlagChamber$Past"
def TX5 : u_T := fun k => match k with
  | 0 => ("FlagChamber$Past", "keptArms", "[I", true)
  | 1 => ("FlagChamber$Past", "shownBy", "[[I", true)
  | 2 => ("FlagChamber$Past", "shown", "[I", true)
  | 3 => ("FlagChamber$Past", "holders", "[I", true)
  | _ => ("FlagChamber$Past", "frozen", "[I", true)
def tyX5 : Nat → FieldType := fun k => match k with
  | 0 => .array .int
  | 1 => .array (.array .int)
  | 2 => .array .int
  | 3 => .array .int
  | _ => .array .int
abbrev wsX50 : List Cond := u_ws RX5 TX5 5
theorem nmX5 : ∀ a, a < 5 → ∀ b, b < 5 → a ≠ b → (TX5 a).2.1 ≠ (TX5 b).2.1 := by decide +kernel
theorem tyX5_ok : ∀ k, k < 5 → parseFieldDescriptor (TX5 k).2.2.1 = some (tyX5 k) := by decide +kernel
abbrev cX5_init : ByteArray := prog_7_method_1_code
def yX5_init : MethodName := ⟨RX5, "<init>", "()V"⟩
abbrev cX5_forget : ByteArray := prog_7_method_2_code
def yX5_forget : MethodName := ⟨RX5, "forget", "()V"⟩
abbrev cX5_take : ByteArray := prog_7_method_3_code
def yX5_take : MethodName := ⟨RX5, "take", "(LFlagChamber$Entry;)V"⟩
abbrev cX5_countHeldBy : ByteArray := prog_7_method_4_code
def yX5_countHeldBy : MethodName := ⟨RX5, "countHeldBy", "(I)I"⟩
abbrev cX5_countHeldOnlyBy : ByteArray := prog_7_method_5_code
def yX5_countHeldOnlyBy : MethodName := ⟨RX5, "countHeldOnlyBy", "(I)I"⟩
abbrev cX5_noteShowing : ByteArray := prog_7_method_6_code
def yX5_noteShowing : MethodName := ⟨RX5, "noteShowing", "(LFlagChamber$Entry;)V"⟩
abbrev cX5_addHolder : ByteArray := prog_7_method_7_code
def yX5_addHolder : MethodName := ⟨RX5, "addHolder", "(III)V"⟩
abbrev cX5_holdWhatWasShownBy : ByteArray := prog_7_method_8_code
def yX5_holdWhatWasShownBy : MethodName := ⟨RX5, "holdWhatWasShownBy", "(I)V"⟩
abbrev cX5_releaseAllOf : ByteArray := prog_7_method_9_code
def yX5_releaseAllOf : MethodName := ⟨RX5, "releaseAllOf", "(I)V"⟩
abbrev cX5_forgetTrial : ByteArray := prog_7_method_10_code
def yX5_forgetTrial : MethodName := ⟨RX5, "forgetTrial", "(I)V"⟩
def RX6 : String := "FlagChamber$People"
def TX6 : u_T := fun k => match k with
  | 0 => ("FlagChamber$People", "attributes", "[[I", true)
  | _ => ("FlagChamber$People", "tags", "[I", true)
def tyX6 : Nat → FieldType := fun k => match k with
  | 0 => .array (.array .int)
  | _ => .array .int
abbrev wsX60 : List Cond := u_ws RX6 TX6 2
theorem nmX6 : ∀ a, a < 2 → ∀ b, b < 2 → a ≠ b → (TX6 a).2.1 ≠ (TX6 b).2.1 := by decide +kernel
theorem tyX6_ok : ∀ k, k < 2 → parseFieldDescriptor (TX6 k).2.2.1 = some (tyX6 k) := by decide +kernel
abbrev cX6_init : ByteArray := prog_8_method_1_code
def yX6_init : MethodName := ⟨RX6, "<init>", "()V"⟩
abbrev cX6_whoCompares : ByteArray := prog_8_method_2_code
def yX6_whoCompares : MethodName := ⟨RX6, "whoCompares", "(III)I"⟩
abbrev cX6_whoHasTag : ByteArray := prog_8_method_3_code
def yX6_whoHasTag : MethodName := ⟨RX6, "whoHasTag", "(I)I"⟩
def RX7 : String := "FlagChamber$Reader"
def TX7 : u_T := fun k => match k with
  | 0 => ("FlagChamber$Reader", "state", "I", false)
  | _ => ("FlagChamber$Reader", "openBrackets", "I", false)
def tyX7 : Nat → FieldType := fun k => match k with
  | 0 => .int
  | _ => .int
abbrev wsX70 : List Cond := u_ws RX7 TX7 2
theorem nmX7 : ∀ a, a < 2 → ∀ b, b < 2 → a ≠ b → (TX7 a).2.1 ≠ (TX7 b).2.1 := by decide +kernel
theorem tyX7_ok : ∀ k, k < 2 → parseFieldDescriptor (TX7 k).2.2.1 = some (tyX7 k) := by decide +kernel
abbrev cX7_init : ByteArray := prog_9_method_1_code
def yX7_init : MethodName := ⟨RX7, "<init>", "()V"⟩
abbrev cX7_findFault : ByteArray := prog_9_method_2_code
def yX7_findFault : MethodName := ⟨RX7, "findFault", "(LFlagChamber$Text;)I"⟩
abbrev cX7_stateAfter : ByteArray := prog_9_method_3_code
def yX7_stateAfter : MethodName := ⟨RX7, "stateAfter", "(I)I"⟩
abbrev cX7_stateInFactor : ByteArray := prog_9_method_4_code
def yX7_stateInFactor : MethodName := ⟨RX7, "stateInFactor", "(I)I"⟩
abbrev cX7_stateBehindFactor : ByteArray := prog_9_method_5_code
def yX7_stateBehindFactor : MethodName := ⟨RX7, "stateBehindFactor", "(I)I"⟩
def RX8 : String := "FlagChamber$Text"
def TX8 : u_T := fun k => match k with
  | 0 => ("FlagChamber$Text", "signs", "[C", true)
  | _ => ("FlagChamber$Text", "length", "I", false)
def tyX8 : Nat → FieldType := fun k => match k with
  | 0 => .array .char
  | _ => .int
abbrev wsX80 : List Cond := u_ws RX8 TX8 2
theorem nmX8 : ∀ a, a < 2 → ∀ b, b < 2 → a ≠ b → (TX8 a).2.1 ≠ (TX8 b).2.1 := by decide +kernel
theorem tyX8_ok : ∀ k, k < 2 → parseFieldDescriptor (TX8 k).2.2.1 = some (tyX8 k) := by decide +kernel
abbrev cX8_init : ByteArray := prog_10_method_1_code
def yX8_init : MethodName := ⟨RX8, "<init>", "()V"⟩
abbrev cX8_append : ByteArray := prog_10_method_2_code
def yX8_append : MethodName := ⟨RX8, "append", "(I)V"⟩
abbrev cX8_signAt : ByteArray := prog_10_method_3_code
def yX8_signAt : MethodName := ⟨RX8, "signAt", "(I)I"⟩
abbrev cX8_digitAt : ByteArray := prog_10_method_4_code
def yX8_digitAt : MethodName := ⟨RX8, "digitAt", "(I)I"⟩
abbrev cX8_numberAt : ByteArray := prog_10_method_5_code
def yX8_numberAt : MethodName := ⟨RX8, "numberAt", "(I)I"⟩
abbrev cX8_copy : ByteArray := prog_10_method_6_code
def yX8_copy : MethodName := ⟨RX8, "copy", "(LFlagChamber$Text;)V"⟩
abbrev cX8_audiencesReferredTo : ByteArray := prog_10_method_7_code
def yX8_audiencesReferredTo : MethodName := ⟨RX8, "audiencesReferredTo", "()I"⟩
def RX9 : String := "FlagChamber$Trial"
def TX9 : u_T := fun k => match k with
  | 0 => ("FlagChamber$Trial", "shares", "[I", true)
  | 1 => ("FlagChamber$Trial", "salt", "I", false)
  | 2 => ("FlagChamber$Trial", "stoppedTo", "I", false)
  | _ => ("FlagChamber$Trial", "held", "Z", false)
def tyX9 : Nat → FieldType := fun k => match k with
  | 0 => .array .int
  | 1 => .int
  | 2 => .int
  | _ => .boolean
abbrev wsX90 : List Cond := u_ws RX9 TX9 4
theorem nmX9 : ∀ a, a < 4 → ∀ b, b < 4 → a ≠ b → (TX9 a).2.1 ≠ (TX9 b).2.1 := by decide +kernel
theorem tyX9_ok : ∀ k, k < 4 → parseFieldDescriptor (TX9 k).2.2.1 = some (tyX9 k) := by decide +kernel
abbrev cX9_init : ByteArray := prog_11_method_1_code
def yX9_init : MethodName := ⟨RX9, "<init>", "()V"⟩
abbrev cX9_share : ByteArray := prog_11_method_2_code
def yX9_share : MethodName := ⟨RX9, "share", "(IIII)V"⟩
abbrev cX9_sumOfShares : ByteArray := prog_11_method_3_code
def yX9_sumOfShares : MethodName := ⟨RX9, "sumOfShares", "()I"⟩
abbrev cX9_armFor : ByteArray := prog_11_method_4_code
def yX9_armFor : MethodName := ⟨RX9, "armFor", "(II)I"⟩
abbrev cX9_drawArm : ByteArray := prog_11_method_5_code
def yX9_drawArm : MethodName := ⟨RX9, "drawArm", "(I)I"⟩
def RX10 : String := "FlagChamber"
def TX10 : u_T := fun k => match k with
  | 0 => ("FlagChamber", "people", "LFlagChamber$People;", true)
  | 1 => ("FlagChamber", "audiences", "LFlagChamber$Audiences;", true)
  | 2 => ("FlagChamber", "flags", "[LFlagChamber$Flag;", true)
  | 3 => ("FlagChamber", "needs", "LFlagChamber$Graph;", true)
  | 4 => ("FlagChamber", "trials", "[LFlagChamber$Trial;", true)
  | 5 => ("FlagChamber", "log", "Ljava/util/ArrayList;", true)
  | 6 => ("FlagChamber", "pasts", "[LFlagChamber$Past;", true)
  | 7 => ("FlagChamber", "replayed", "LFlagChamber$Past;", true)
  | 8 => ("FlagChamber", "views", "[I", true)
  | _ => ("FlagChamber", "otherViews", "[I", true)
def tyX10 : Nat → FieldType := fun k => match k with
  | 0 => .object "FlagChamber$People"
  | 1 => .object "FlagChamber$Audiences"
  | 2 => .array (.object "FlagChamber$Flag")
  | 3 => .object "FlagChamber$Graph"
  | 4 => .array (.object "FlagChamber$Trial")
  | 5 => .object "java/util/ArrayList"
  | 6 => .array (.object "FlagChamber$Past")
  | 7 => .object "FlagChamber$Past"
  | 8 => .array .int
  | _ => .array .int
abbrev wsX100 : List Cond := u_ws RX10 TX10 10
theorem nmX10 : ∀ a, a < 10 → ∀ b, b < 10 → a ≠ b → (TX10 a).2.1 ≠ (TX10 b).2.1 := by decide +kernel
theorem tyX10_ok : ∀ k, k < 10 → parseFieldDescriptor (TX10 k).2.2.1 = some (tyX10 k) := by decide +kernel
abbrev cX10_init : ByteArray := prog_1_method_1_code
def yX10_init : MethodName := ⟨RX10, "<init>", "()V"⟩
abbrev cX10_setAttribute : ByteArray := prog_1_method_2_code
def yX10_setAttribute : MethodName := ⟨RX10, "setAttribute", "(III)I"⟩
abbrev cX10_setTag : ByteArray := prog_1_method_3_code
def yX10_setTag : MethodName := ⟨RX10, "setTag", "(IIZ)Z"⟩
abbrev cX10_type : ByteArray := prog_1_method_4_code
def yX10_type : MethodName := ⟨RX10, "type", "(II)I"⟩
abbrev cX10_erase : ByteArray := prog_1_method_5_code
def yX10_erase : MethodName := ⟨RX10, "erase", "(II)I"⟩
abbrev cX10_sign : ByteArray := prog_1_method_6_code
def yX10_sign : MethodName := ⟨RX10, "sign", "(II)I"⟩
abbrev cX10_fault : ByteArray := prog_1_method_7_code
def yX10_fault : MethodName := ⟨RX10, "fault", "(I)I"⟩
abbrev cX10_set : ByteArray := prog_1_method_8_code
def yX10_set : MethodName := ⟨RX10, "set", "(I)I"⟩
abbrev cX10_wouldMove : ByteArray := prog_1_method_9_code
def yX10_wouldMove : MethodName := ⟨RX10, "wouldMove", "(I)I"⟩
abbrev cX10_isIn : ByteArray := prog_1_method_10_code
def yX10_isIn : MethodName := ⟨RX10, "isIn", "(II)Z"⟩
abbrev cX10_addRule : ByteArray := prog_1_method_11_code
def yX10_addRule : MethodName := ⟨RX10, "addRule", "(IIII)I"⟩
abbrev cX10_removeRule : ByteArray := prog_1_method_12_code
def yX10_removeRule : MethodName := ⟨RX10, "removeRule", "(II)I"⟩
abbrev cX10_rules : ByteArray := prog_1_method_13_code
def yX10_rules : MethodName := ⟨RX10, "rules", "(I)I"⟩
abbrev cX10_setNeed : ByteArray := prog_1_method_14_code
def yX10_setNeed : MethodName := ⟨RX10, "setNeed", "(IIZ)Z"⟩
abbrev cX10_view : ByteArray := prog_1_method_15_code
def yX10_view : MethodName := ⟨RX10, "view", "(II)I"⟩
abbrev cX10_viewByLog : ByteArray := prog_1_method_16_code
def yX10_viewByLog : MethodName := ⟨RX10, "viewByLog", "(II)I"⟩
abbrev cX10_ruleFor : ByteArray := prog_1_method_17_code
def yX10_ruleFor : MethodName := ⟨RX10, "ruleFor", "(II)I"⟩
abbrev cX10_reach : ByteArray := prog_1_method_18_code
def yX10_reach : MethodName := ⟨RX10, "reach", "(II)I"⟩
abbrev cX10_show : ByteArray := prog_1_method_19_code
def yX10_show : MethodName := ⟨RX10, "show", "(II)I"⟩
abbrev cX10_setShares : ByteArray := prog_1_method_20_code
def yX10_setShares : MethodName := ⟨RX10, "setShares", "(IIIII)I"⟩
abbrev cX10_setSalt : ByteArray := prog_1_method_21_code
def yX10_setSalt : MethodName := ⟨RX10, "setSalt", "(II)I"⟩
abbrev cX10_stop : ByteArray := prog_1_method_22_code
def yX10_stop : MethodName := ⟨RX10, "stop", "(II)I"⟩
abbrev cX10_beginAnew : ByteArray := prog_1_method_23_code
def yX10_beginAnew : MethodName := ⟨RX10, "beginAnew", "(I)I"⟩
abbrev cX10_arm : ByteArray := prog_1_method_24_code
def yX10_arm : MethodName := ⟨RX10, "arm", "(II)I"⟩
abbrev cX10_kept : ByteArray := prog_1_method_25_code
def yX10_kept : MethodName := ⟨RX10, "kept", "(II)I"⟩
abbrev cX10_hold : ByteArray := prog_1_method_26_code
def yX10_hold : MethodName := ⟨RX10, "hold", "(II)I"⟩
abbrev cX10_release : ByteArray := prog_1_method_27_code
def yX10_release : MethodName := ⟨RX10, "release", "(II)I"⟩
abbrev cX10_holdTrial : ByteArray := prog_1_method_28_code
def yX10_holdTrial : MethodName := ⟨RX10, "holdTrial", "(I)I"⟩
abbrev cX10_releaseTrial : ByteArray := prog_1_method_29_code
def yX10_releaseTrial : MethodName := ⟨RX10, "releaseTrial", "(I)I"⟩
abbrev cX10_isHeld : ByteArray := prog_1_method_30_code
def yX10_isHeld : MethodName := ⟨RX10, "isHeld", "(II)Z"⟩
abbrev cX10_entries : ByteArray := prog_1_method_31_code
def yX10_entries : MethodName := ⟨RX10, "entries", "()I"⟩
abbrev cX10_shownLast : ByteArray := prog_1_method_32_code
def yX10_shownLast : MethodName := ⟨RX10, "shownLast", "(II)I"⟩
abbrev cX10_checkRange : ByteArray := prog_1_method_33_code
def yX10_checkRange : MethodName := ⟨RX10, "checkRange", "(III)V"⟩
abbrev cX10_checkPerson : ByteArray := prog_1_method_34_code
def yX10_checkPerson : MethodName := ⟨RX10, "checkPerson", "(I)V"⟩
abbrev cX10_checkAudience : ByteArray := prog_1_method_35_code
def yX10_checkAudience : MethodName := ⟨RX10, "checkAudience", "(I)V"⟩
abbrev cX10_checkFlag : ByteArray := prog_1_method_36_code
def yX10_checkFlag : MethodName := ⟨RX10, "checkFlag", "(I)V"⟩
abbrev cX10_checkTrial : ByteArray := prog_1_method_37_code
def yX10_checkTrial : MethodName := ⟨RX10, "checkTrial", "(I)V"⟩
abbrev cX10_checkVariant : ByteArray := prog_1_method_38_code
def yX10_checkVariant : MethodName := ⟨RX10, "checkVariant", "(I)V"⟩
abbrev cX10_checkSettable : ByteArray := prog_1_method_39_code
def yX10_checkSettable : MethodName := ⟨RX10, "checkSettable", "(I)V"⟩
abbrev cX10_checkNotHeld : ByteArray := prog_1_method_40_code
def yX10_checkNotHeld : MethodName := ⟨RX10, "checkNotHeld", "(I)V"⟩
abbrev cX10_checkLog : ByteArray := prog_1_method_41_code
def yX10_checkLog : MethodName := ⟨RX10, "checkLog", "()V"⟩
abbrev cX10_mostOf : ByteArray := prog_1_method_42_code
def yX10_mostOf : MethodName := ⟨RX10, "mostOf", "(I)I"⟩
abbrev cX10_hasBit : ByteArray := prog_1_method_43_code
def yX10_hasBit : MethodName := ⟨RX10, "hasBit", "(II)Z"⟩
abbrev cX10_withBit : ByteArray := prog_1_method_44_code
def yX10_withBit : MethodName := ⟨RX10, "withBit", "(IIZ)I"⟩
abbrev cX10_differ : ByteArray := prog_1_method_45_code
def yX10_differ : MethodName := ⟨RX10, "differ", "([I[I)Z"⟩
abbrev cX10_enter : ByteArray := prog_1_method_46_code
def yX10_enter : MethodName := ⟨RX10, "enter", "(LFlagChamber$Entry;)V"⟩
abbrev cX10_viewNow : ByteArray := prog_1_method_47_code
def yX10_viewNow : MethodName := ⟨RX10, "viewNow", "(II)I"⟩
abbrev cX10_armNow : ByteArray := prog_1_method_48_code
def yX10_armNow : MethodName := ⟨RX10, "armNow", "(II)I"⟩
abbrev cX10_findViews : ByteArray := prog_1_method_49_code
def yX10_findViews : MethodName := ⟨RX10, "findViews", "([II[ILFlagChamber$Past;)V"⟩
abbrev cX10_decidedView : ByteArray := prog_1_method_50_code
def yX10_decidedView : MethodName := ⟨RX10, "decidedView", "(II[ILFlagChamber$Past;)I"⟩
abbrev cX10_trialThatShows : ByteArray := prog_1_method_51_code
def yX10_trialThatShows : MethodName := ⟨RX10, "trialThatShows", "(II)I"⟩
abbrev cX10_needsZero : ByteArray := prog_1_method_52_code
def yX10_needsZero : MethodName := ⟨RX10, "needsZero", "(II)Z"⟩
abbrev cX10_keeps : ByteArray := prog_1_method_53_code
def yX10_keeps : MethodName := ⟨RX10, "keeps", "(II)Z"⟩
def RX11 : String := "FlagChamberModel"
def TX11 : u_T := fun k => match k with
  | 0 => ("FlagChamberModel", "thrown", "I", false)
  | 1 => ("FlagChamberModel", "attributes", "[I", true)
  | 2 => ("FlagChamberModel", "tags", "[I", true)
  | 3 => ("FlagChamberModel", "drafts", "[I", true)
  | 4 => ("FlagChamberModel", "draftLengths", "[I", true)
  | 5 => ("FlagChamberModel", "texts", "[I", true)
  | 6 => ("FlagChamberModel", "textLengths", "[I", true)
  | 7 => ("FlagChamberModel", "spare", "[I", true)
  | 8 => ("FlagChamberModel", "spareLength", "I", false)
  | 9 => ("FlagChamberModel", "refers", "[I", true)
  | 10 => ("FlagChamberModel", "members", "[I", true)
  | 11 => ("FlagChamberModel", "hadMembers", "[I", true)
  | 12 => ("FlagChamberModel", "ors", "[Z", true)
  | 13 => ("FlagChamberModel", "ands", "[Z", true)
  | 14 => ("FlagChamberModel", "nots", "[Z", true)
  | 15 => ("FlagChamberModel", "rules", "[I", true)
  | 16 => ("FlagChamberModel", "ruleAudiences", "[I", true)
  | 17 => ("FlagChamberModel", "outcomes", "[I", true)
  | 18 => ("FlagChamberModel", "needs", "[I", true)
  | 19 => ("FlagChamberModel", "views", "[I", true)
  | 20 => ("FlagChamberModel", "hadViews", "[I", true)
  | 21 => ("FlagChamberModel", "shares", "[I", true)
  | 22 => ("FlagChamberModel", "salts", "[I", true)
  | 23 => ("FlagChamberModel", "stops", "[I", true)
  | 24 => ("FlagChamberModel", "keeps", "[I", true)
  | 25 => ("FlagChamberModel", "shownBy", "[I", true)
  | 26 => ("FlagChamberModel", "isTrialHeld", "[Z", true)
  | 27 => ("FlagChamberModel", "holders", "[I", true)
  | 28 => ("FlagChamberModel", "frozen", "[I", true)
  | 29 => ("FlagChamberModel", "shown", "[I", true)
  | _ => ("FlagChamberModel", "entries", "I", false)
def tyX11 : Nat → FieldType := fun k => match k with
  | 0 => .int
  | 1 => .array .int
  | 2 => .array .int
  | 3 => .array .int
  | 4 => .array .int
  | 5 => .array .int
  | 6 => .array .int
  | 7 => .array .int
  | 8 => .int
  | 9 => .array .int
  | 10 => .array .int
  | 11 => .array .int
  | 12 => .array .boolean
  | 13 => .array .boolean
  | 14 => .array .boolean
  | 15 => .array .int
  | 16 => .array .int
  | 17 => .array .int
  | 18 => .array .int
  | 19 => .array .int
  | 20 => .array .int
  | 21 => .array .int
  | 22 => .array .int
  | 23 => .array .int
  | 24 => .array .int
  | 25 => .array .int
  | 26 => .array .boolean
  | 27 => .array .int
  | 28 => .array .int
  | 29 => .array .int
  | _ => .int
abbrev wsX110 : List Cond := u_ws RX11 TX11 31
theorem nmX11 : ∀ a, a < 31 → ∀ b, b < 31 → a ≠ b → (TX11 a).2.1 ≠ (TX11 b).2.1 := by decide +kernel
theorem tyX11_ok : ∀ k, k < 31 → parseFieldDescriptor (TX11 k).2.2.1 = some (tyX11 k) := by decide +kernel
abbrev cX11_init : ByteArray := prog_13_method_1_code
def yX11_init : MethodName := ⟨RX11, "<init>", "()V"⟩
abbrev cX11_thrown : ByteArray := prog_13_method_2_code
def yX11_thrown : MethodName := ⟨RX11, "thrown", "()I"⟩
abbrev cX11_goesWell : ByteArray := prog_13_method_3_code
def yX11_goesWell : MethodName := ⟨RX11, "goesWell", "(I)Z"⟩
abbrev cX11_in : ByteArray := prog_13_method_4_code
def yX11_in : MethodName := ⟨RX11, "in", "(III)Z"⟩
abbrev cX11_isPerson : ByteArray := prog_13_method_5_code
def yX11_isPerson : MethodName := ⟨RX11, "isPerson", "(I)Z"⟩
abbrev cX11_isAudience : ByteArray := prog_13_method_6_code
def yX11_isAudience : MethodName := ⟨RX11, "isAudience", "(I)Z"⟩
abbrev cX11_isFlag : ByteArray := prog_13_method_7_code
def yX11_isFlag : MethodName := ⟨RX11, "isFlag", "(I)Z"⟩
abbrev cX11_isTrial : ByteArray := prog_13_method_8_code
def yX11_isTrial : MethodName := ⟨RX11, "isTrial", "(I)Z"⟩
abbrev cX11_isVariant : ByteArray := prog_13_method_9_code
def yX11_isVariant : MethodName := ⟨RX11, "isVariant", "(I)Z"⟩
abbrev cX11_setAttribute : ByteArray := prog_13_method_10_code
def yX11_setAttribute : MethodName := ⟨RX11, "setAttribute", "(III)I"⟩
abbrev cX11_setTag : ByteArray := prog_13_method_11_code
def yX11_setTag : MethodName := ⟨RX11, "setTag", "(IIZ)Z"⟩
abbrev cX11_type : ByteArray := prog_13_method_12_code
def yX11_type : MethodName := ⟨RX11, "type", "(II)I"⟩
abbrev cX11_erase : ByteArray := prog_13_method_13_code
def yX11_erase : MethodName := ⟨RX11, "erase", "(II)I"⟩
abbrev cX11_sign : ByteArray := prog_13_method_14_code
def yX11_sign : MethodName := ⟨RX11, "sign", "(II)I"⟩
abbrev cX11_isDigit : ByteArray := prog_13_method_15_code
def yX11_isDigit : MethodName := ⟨RX11, "isDigit", "(I)Z"⟩
abbrev cX11_behind : ByteArray := prog_13_method_16_code
def yX11_behind : MethodName := ⟨RX11, "behind", "(III)I"⟩
abbrev cX11_faultOf : ByteArray := prog_13_method_17_code
def yX11_faultOf : MethodName := ⟨RX11, "faultOf", "(I)I"⟩
abbrev cX11_fault : ByteArray := prog_13_method_18_code
def yX11_fault : MethodName := ⟨RX11, "fault", "(I)I"⟩
abbrev cX11_signOf : ByteArray := prog_13_method_19_code
def yX11_signOf : MethodName := ⟨RX11, "signOf", "(II)I"⟩
abbrev cX11_numberAt : ByteArray := prog_13_method_20_code
def yX11_numberAt : MethodName := ⟨RX11, "numberAt", "(II)I"⟩
abbrev cX11_meetsTest : ByteArray := prog_13_method_21_code
def yX11_meetsTest : MethodName := ⟨RX11, "meetsTest", "(III)Z"⟩
abbrev cX11_beginsTest : ByteArray := prog_13_method_22_code
def yX11_beginsTest : MethodName := ⟨RX11, "beginsTest", "(I)Z"⟩
abbrev cX11_meets : ByteArray := prog_13_method_23_code
def yX11_meets : MethodName := ⟨RX11, "meets", "(II)Z"⟩
abbrev cX11_gather : ByteArray := prog_13_method_24_code
def yX11_gather : MethodName := ⟨RX11, "gather", "()V"⟩
abbrev cX11_countBits : ByteArray := prog_13_method_25_code
def yX11_countBits : MethodName := ⟨RX11, "countBits", "(I)I"⟩
abbrev cX11_layDraft : ByteArray := prog_13_method_26_code
def yX11_layDraft : MethodName := ⟨RX11, "layDraft", "(I)V"⟩
abbrev cX11_layBack : ByteArray := prog_13_method_27_code
def yX11_layBack : MethodName := ⟨RX11, "layBack", "(I)V"⟩
abbrev cX11_hasCircle : ByteArray := prog_13_method_28_code
def yX11_hasCircle : MethodName := ⟨RX11, "hasCircle", "()Z"⟩
abbrev cX11_canLay : ByteArray := prog_13_method_29_code
def yX11_canLay : MethodName := ⟨RX11, "canLay", "(I)Z"⟩
abbrev cX11_set : ByteArray := prog_13_method_30_code
def yX11_set : MethodName := ⟨RX11, "set", "(I)I"⟩
abbrev cX11_wouldMove : ByteArray := prog_13_method_31_code
def yX11_wouldMove : MethodName := ⟨RX11, "wouldMove", "(I)I"⟩
abbrev cX11_isIn : ByteArray := prog_13_method_32_code
def yX11_isIn : MethodName := ⟨RX11, "isIn", "(II)Z"⟩
abbrev cX11_addRule : ByteArray := prog_13_method_33_code
def yX11_addRule : MethodName := ⟨RX11, "addRule", "(IIII)I"⟩
abbrev cX11_removeRule : ByteArray := prog_13_method_34_code
def yX11_removeRule : MethodName := ⟨RX11, "removeRule", "(II)I"⟩
abbrev cX11_rules : ByteArray := prog_13_method_35_code
def yX11_rules : MethodName := ⟨RX11, "rules", "(I)I"⟩
abbrev cX11_allNeeds : ByteArray := prog_13_method_36_code
def yX11_allNeeds : MethodName := ⟨RX11, "allNeeds", "(I)I"⟩
abbrev cX11_setNeed : ByteArray := prog_13_method_37_code
def yX11_setNeed : MethodName := ⟨RX11, "setNeed", "(IIZ)Z"⟩
abbrev cX11_ruleNow : ByteArray := prog_13_method_38_code
def yX11_ruleNow : MethodName := ⟨RX11, "ruleNow", "(II)I"⟩
abbrev cX11_lacksNeed : ByteArray := prog_13_method_39_code
def yX11_lacksNeed : MethodName := ⟨RX11, "lacksNeed", "(II)Z"⟩
abbrev cX11_viewNow : ByteArray := prog_13_method_40_code
def yX11_viewNow : MethodName := ⟨RX11, "viewNow", "(II)I"⟩
abbrev cX11_findViews : ByteArray := prog_13_method_41_code
def yX11_findViews : MethodName := ⟨RX11, "findViews", "()V"⟩
abbrev cX11_view : ByteArray := prog_13_method_42_code
def yX11_view : MethodName := ⟨RX11, "view", "(II)I"⟩
abbrev cX11_viewByLog : ByteArray := prog_13_method_43_code
def yX11_viewByLog : MethodName := ⟨RX11, "viewByLog", "(II)I"⟩
abbrev cX11_ruleFor : ByteArray := prog_13_method_44_code
def yX11_ruleFor : MethodName := ⟨RX11, "ruleFor", "(II)I"⟩
abbrev cX11_reach : ByteArray := prog_13_method_45_code
def yX11_reach : MethodName := ⟨RX11, "reach", "(II)I"⟩
abbrev cX11_show : ByteArray := prog_13_method_46_code
def yX11_show : MethodName := ⟨RX11, "show", "(II)I"⟩
abbrev cX11_armNow : ByteArray := prog_13_method_47_code
def yX11_armNow : MethodName := ⟨RX11, "armNow", "(II)I"⟩
abbrev cX11_setShares : ByteArray := prog_13_method_48_code
def yX11_setShares : MethodName := ⟨RX11, "setShares", "(IIIII)I"⟩
abbrev cX11_setSalt : ByteArray := prog_13_method_49_code
def yX11_setSalt : MethodName := ⟨RX11, "setSalt", "(II)I"⟩
abbrev cX11_stop : ByteArray := prog_13_method_50_code
def yX11_stop : MethodName := ⟨RX11, "stop", "(II)I"⟩
abbrev cX11_beginAnew : ByteArray := prog_13_method_51_code
def yX11_beginAnew : MethodName := ⟨RX11, "beginAnew", "(I)I"⟩
abbrev cX11_arm : ByteArray := prog_13_method_52_code
def yX11_arm : MethodName := ⟨RX11, "arm", "(II)I"⟩
abbrev cX11_kept : ByteArray := prog_13_method_53_code
def yX11_kept : MethodName := ⟨RX11, "kept", "(II)I"⟩
abbrev cX11_hold : ByteArray := prog_13_method_54_code
def yX11_hold : MethodName := ⟨RX11, "hold", "(II)I"⟩
abbrev cX11_release : ByteArray := prog_13_method_55_code
def yX11_release : MethodName := ⟨RX11, "release", "(II)I"⟩
abbrev cX11_holdTrial : ByteArray := prog_13_method_56_code
def yX11_holdTrial : MethodName := ⟨RX11, "holdTrial", "(I)I"⟩
abbrev cX11_releaseTrial : ByteArray := prog_13_method_57_code
def yX11_releaseTrial : MethodName := ⟨RX11, "releaseTrial", "(I)I"⟩
abbrev cX11_isHeld : ByteArray := prog_13_method_58_code
def yX11_isHeld : MethodName := ⟨RX11, "isHeld", "(II)Z"⟩
abbrev cX11_entries : ByteArray := prog_13_method_59_code
def yX11_entries : MethodName := ⟨RX11, "entries", "()I"⟩
abbrev cX11_shownLast : ByteArray := prog_13_method_60_code
def yX11_shownLast : MethodName := ⟨RX11, "shownLast", "(II)I"⟩
def RJx145de : String := "java/io/Serializable"
def TJx145de : u_T := fun k => match k with
  | _ => ("", "", "", false)
def tyJx145de : Nat → FieldType := fun k => match k with
  | _ => .int
abbrev wsJx145de0 : List Cond := u_ws RJx145de TJx145de 0
theorem nmJx145de : ∀ a, a < 0 → ∀ b, b < 0 → a ≠ b → (TJx145de a).2.1 ≠ (TJx145de b).2.1 := by decide +kernel
theorem tyJx145de_ok : ∀ k, k < 0 → parseFieldDescriptor (TJx145de k).2.2.1 = some (tyJx145de k) := by decide +kernel
def RJx8e188 : String := "java/lang/Cloneable"
def TJx8e188 : u_T := fun k => match k with
  | _ => ("", "", "", false)
def tyJx8e188 : Nat → FieldType := fun k => match k with
  | _ => .int
abbrev wsJx8e1880 : List Cond := u_ws RJx8e188 TJx8e188 0
theorem nmJx8e188 : ∀ a, a < 0 → ∀ b, b < 0 → a ≠ b → (TJx8e188 a).2.1 ≠ (TJx8e188 b).2.1 := by decide +kernel
theorem tyJx8e188_ok : ∀ k, k < 0 → parseFieldDescriptor (TJx8e188 k).2.2.1 = some (tyJx8e188 k) := by decide +kernel
def RJ6 : String := "java/lang/Integer"
def TJ6 : u_T := fun k => match k with
  | _ => ("", "", "", false)
def tyJ6 : Nat → FieldType := fun k => match k with
  | _ => .int
abbrev wsJ60 : List Cond := u_ws RJ6 TJ6 0
theorem nmJ6 : ∀ a, a < 0 → ∀ b, b < 0 → a ≠ b → (TJ6 a).2.1 ≠ (TJ6 b).2.1 := by decide +kernel
theorem tyJ6_ok : ∀ k, k < 0 → parseFieldDescriptor (TJ6 k).2.2.1 = some (tyJ6 k) := by decide +kernel
abbrev cJ6_bitCount_0f7a4 : ByteArray := prog_20_method_49_code
def yJ6_bitCount_0f7a4 : MethodName := ⟨RJ6, "bitCount", "(I)I"⟩
def RJxab1ab : String := "java/lang/Iterable"
def TJxab1ab : u_T := fun k => match k with
  | _ => ("", "", "", false)
def tyJxab1ab : Nat → FieldType := fun k => match k with
  | _ => .int
abbrev wsJxab1ab0 : List Cond := u_ws RJxab1ab TJxab1ab 0
theorem nmJxab1ab : ∀ a, a < 0 → ∀ b, b < 0 → a ≠ b → (TJxab1ab a).2.1 ≠ (TJxab1ab b).2.1 := by decide +kernel
theorem tyJxab1ab_ok : ∀ k, k < 0 → parseFieldDescriptor (TJxab1ab k).2.2.1 = some (tyJxab1ab k) := by decide +kernel
def RJ9 : String := "java/lang/Math"
def TJ9 : u_T := fun k => match k with
  | _ => ("", "", "", false)
def tyJ9 : Nat → FieldType := fun k => match k with
  | _ => .int
abbrev wsJ90 : List Cond := u_ws RJ9 TJ9 0
theorem nmJ9 : ∀ a, a < 0 → ∀ b, b < 0 → a ≠ b → (TJ9 a).2.1 ≠ (TJ9 b).2.1 := by decide +kernel
theorem tyJ9_ok : ∀ k, k < 0 → parseFieldDescriptor (TJ9 k).2.2.1 = some (tyJ9 k) := by decide +kernel
abbrev cJ9_max_7cf53 : ByteArray := prog_22_method_65_code
def yJ9_max_7cf53 : MethodName := ⟨RJ9, "max", "(II)I"⟩
abbrev cJ9_min_7cf53 : ByteArray := prog_22_method_69_code
def yJ9_min_7cf53 : MethodName := ⟨RJ9, "min", "(II)I"⟩
def RJ0 : String := "java/lang/String"
def TJ0 : u_T := fun k => match k with
  | _ => ("", "", "", false)
def tyJ0 : Nat → FieldType := fun k => match k with
  | _ => .int
abbrev wsJ00 : List Cond := u_ws RJ0 TJ0 0
theorem nmJ0 : ∀ a, a < 0 → ∀ b, b < 0 → a ≠ b → (TJ0 a).2.1 ≠ (TJ0 b).2.1 := by decide +kernel
theorem tyJ0_ok : ∀ k, k < 0 → parseFieldDescriptor (TJ0 k).2.2.1 = some (tyJ0 k) := by decide +kernel
def RJ10 : String := "java/lang/System"
def TJ10 : u_T := fun k => match k with
  | _ => ("", "", "", false)
def tyJ10 : Nat → FieldType := fun k => match k with
  | _ => .int
abbrev wsJ100 : List Cond := u_ws RJ10 TJ10 0
theorem nmJ10 : ∀ a, a < 0 → ∀ b, b < 0 → a ≠ b → (TJ10 a).2.1 ≠ (TJ10 b).2.1 := by decide +kernel
theorem tyJ10_ok : ∀ k, k < 0 → parseFieldDescriptor (TJ10 k).2.2.1 = some (tyJ10 k) := by decide +kernel
def RJxa1e45 : String := "java/util/AbstractCollection"
def TJxa1e45 : u_T := fun k => match k with
  | _ => ("", "", "", false)
def tyJxa1e45 : Nat → FieldType := fun k => match k with
  | _ => .int
abbrev wsJxa1e450 : List Cond := u_ws RJxa1e45 TJxa1e45 0
theorem nmJxa1e45 : ∀ a, a < 0 → ∀ b, b < 0 → a ≠ b → (TJxa1e45 a).2.1 ≠ (TJxa1e45 b).2.1 := by decide +kernel
theorem tyJxa1e45_ok : ∀ k, k < 0 → parseFieldDescriptor (TJxa1e45 k).2.2.1 = some (tyJxa1e45 k) := by decide +kernel
abbrev cJxa1e45_init_da8c8 : ByteArray := prog_27_method_1_code
def yJxa1e45_init_da8c8 : MethodName := ⟨RJxa1e45, "<init>", "()V"⟩
def RJxc12de : String := "java/util/AbstractList"
def TJxc12de : u_T := fun k => match k with
  | _ => ("", "", "", false)
def tyJxc12de : Nat → FieldType := fun k => match k with
  | _ => .int
abbrev wsJxc12de0 : List Cond := u_ws RJxc12de TJxc12de 0
theorem nmJxc12de : ∀ a, a < 0 → ∀ b, b < 0 → a ≠ b → (TJxc12de a).2.1 ≠ (TJxc12de b).2.1 := by decide +kernel
theorem tyJxc12de_ok : ∀ k, k < 0 → parseFieldDescriptor (TJxc12de k).2.2.1 = some (tyJxc12de k) := by decide +kernel
abbrev cJxc12de_init_da8c8 : ByteArray := prog_28_method_1_code
def yJxc12de_init_da8c8 : MethodName := ⟨RJxc12de, "<init>", "()V"⟩
def RJx4a65c : String := "java/util/ArrayList"
def TJx4a65c : u_T := fun k => match k with
  | 0 => ("java/util/AbstractList", "modCount", "I", false)
  | 1 => ("java/util/ArrayList", "elementData", "[Ljava/lang/Object;", false)
  | _ => ("java/util/ArrayList", "size", "I", false)
def tyJx4a65c : Nat → FieldType := fun k => match k with
  | 0 => .int
  | 1 => .array (.object "java/lang/Object")
  | _ => .int
abbrev wsJx4a65c0 : List Cond := u_ws RJx4a65c TJx4a65c 3
theorem nmJx4a65c : ∀ a, a < 3 → ∀ b, b < 3 → a ≠ b → (TJx4a65c a).2.1 ≠ (TJx4a65c b).2.1 := by decide +kernel
theorem tyJx4a65c_ok : ∀ k, k < 3 → parseFieldDescriptor (TJx4a65c k).2.2.1 = some (tyJx4a65c k) := by decide +kernel
abbrev cJx4a65c_init_da8c8 : ByteArray := prog_29_method_2_code
def yJx4a65c_init_da8c8 : MethodName := ⟨RJx4a65c, "<init>", "()V"⟩
abbrev cJx4a65c_grow_92f84 : ByteArray := prog_29_method_6_code
def yJx4a65c_grow_92f84 : MethodName := ⟨RJx4a65c, "grow", "(I)[Ljava/lang/Object;"⟩
abbrev cJx4a65c_grow_d5877 : ByteArray := prog_29_method_7_code
def yJx4a65c_grow_d5877 : MethodName := ⟨RJx4a65c, "grow", "()[Ljava/lang/Object;"⟩
abbrev cJx4a65c_size_8abf5 : ByteArray := prog_29_method_8_code
def yJx4a65c_size_8abf5 : MethodName := ⟨RJx4a65c, "size", "()I"⟩
abbrev cJx4a65c_elementData_915e3 : ByteArray := prog_29_method_18_code
def yJx4a65c_elementData_915e3 : MethodName := ⟨RJx4a65c, "elementData", "(I)Ljava/lang/Object;"⟩
abbrev cJx4a65c_get_915e3 : ByteArray := prog_29_method_20_code
def yJx4a65c_get_915e3 : MethodName := ⟨RJx4a65c, "get", "(I)Ljava/lang/Object;"⟩
abbrev cJx4a65c_add_72be8 : ByteArray := prog_29_method_24_code
def yJx4a65c_add_72be8 : MethodName := ⟨RJx4a65c, "add", "(Ljava/lang/Object;[Ljava/lang/Object;I)V"⟩
abbrev cJx4a65c_add_9ea2d : ByteArray := prog_29_method_25_code
def yJx4a65c_add_9ea2d : MethodName := ⟨RJx4a65c, "add", "(Ljava/lang/Object;)Z"⟩
def RJ7 : String := "java/util/Arrays"
def TJ7 : u_T := fun k => match k with
  | _ => ("", "", "", false)
def tyJ7 : Nat → FieldType := fun k => match k with
  | _ => .int
abbrev wsJ70 : List Cond := u_ws RJ7 TJ7 0
theorem nmJ7 : ∀ a, a < 0 → ∀ b, b < 0 → a ≠ b → (TJ7 a).2.1 ≠ (TJ7 b).2.1 := by decide +kernel
theorem tyJ7_ok : ∀ k, k < 0 → parseFieldDescriptor (TJ7 k).2.2.1 = some (tyJ7 k) := by decide +kernel
abbrev cJ7_fill_53178 : ByteArray := prog_30_method_103_code
def yJ7_fill_53178 : MethodName := ⟨RJ7, "fill", "([II)V"⟩
abbrev cJ7_copyOf_1904c : ByteArray := prog_30_method_119_code
def yJ7_copyOf_1904c : MethodName := ⟨RJ7, "copyOf", "([Ljava/lang/Object;I)[Ljava/lang/Object;"⟩
abbrev cJ7_copyOf_6403c : ByteArray := prog_30_method_120_code
def yJ7_copyOf_6403c : MethodName := ⟨RJ7, "copyOf", "([Ljava/lang/Object;ILjava/lang/Class;)[Ljava/lang/Object;"⟩
def RJx5ef63 : String := "java/util/Collection"
def TJx5ef63 : u_T := fun k => match k with
  | _ => ("", "", "", false)
def tyJx5ef63 : Nat → FieldType := fun k => match k with
  | _ => .int
abbrev wsJx5ef630 : List Cond := u_ws RJx5ef63 TJx5ef63 0
theorem nmJx5ef63 : ∀ a, a < 0 → ∀ b, b < 0 → a ≠ b → (TJx5ef63 a).2.1 ≠ (TJx5ef63 b).2.1 := by decide +kernel
theorem tyJx5ef63_ok : ∀ k, k < 0 → parseFieldDescriptor (TJx5ef63 k).2.2.1 = some (tyJx5ef63 k) := by decide +kernel
def RJxbd725 : String := "java/util/List"
def TJxbd725 : u_T := fun k => match k with
  | _ => ("", "", "", false)
def tyJxbd725 : Nat → FieldType := fun k => match k with
  | _ => .int
abbrev wsJxbd7250 : List Cond := u_ws RJxbd725 TJxbd725 0
theorem nmJxbd725 : ∀ a, a < 0 → ∀ b, b < 0 → a ≠ b → (TJxbd725 a).2.1 ≠ (TJxbd725 b).2.1 := by decide +kernel
theorem tyJxbd725_ok : ∀ k, k < 0 → parseFieldDescriptor (TJxbd725 k).2.2.1 = some (tyJxbd725 k) := by decide +kernel
def RJ15 : String := "java/util/Objects"
def TJ15 : u_T := fun k => match k with
  | _ => ("", "", "", false)
def tyJ15 : Nat → FieldType := fun k => match k with
  | _ => .int
abbrev wsJ150 : List Cond := u_ws RJ15 TJ15 0
theorem nmJ15 : ∀ a, a < 0 → ∀ b, b < 0 → a ≠ b → (TJ15 a).2.1 ≠ (TJ15 b).2.1 := by decide +kernel
theorem tyJ15_ok : ∀ k, k < 0 → parseFieldDescriptor (TJ15 k).2.2.1 = some (tyJ15 k) := by decide +kernel
abbrev cJ15_checkIndex_7cf53 : ByteArray := prog_33_method_17_code
def yJ15_checkIndex_7cf53 : MethodName := ⟨RJ15, "checkIndex", "(II)I"⟩
def RJxf0a74 : String := "java/util/RandomAccess"
def TJxf0a74 : u_T := fun k => match k with
  | _ => ("", "", "", false)
def tyJxf0a74 : Nat → FieldType := fun k => match k with
  | _ => .int
abbrev wsJxf0a740 : List Cond := u_ws RJxf0a74 TJxf0a74 0
theorem nmJxf0a74 : ∀ a, a < 0 → ∀ b, b < 0 → a ≠ b → (TJxf0a74 a).2.1 ≠ (TJxf0a74 b).2.1 := by decide +kernel
theorem tyJxf0a74_ok : ∀ k, k < 0 → parseFieldDescriptor (TJxf0a74 k).2.2.1 = some (tyJxf0a74 k) := by decide +kernel
def RJxa66e6 : String := "java/util/SequencedCollection"
def TJxa66e6 : u_T := fun k => match k with
  | _ => ("", "", "", false)
def tyJxa66e6 : Nat → FieldType := fun k => match k with
  | _ => .int
abbrev wsJxa66e60 : List Cond := u_ws RJxa66e6 TJxa66e6 0
theorem nmJxa66e6 : ∀ a, a < 0 → ∀ b, b < 0 → a ≠ b → (TJxa66e6 a).2.1 ≠ (TJxa66e6 b).2.1 := by decide +kernel
theorem tyJxa66e6_ok : ∀ k, k < 0 → parseFieldDescriptor (TJxa66e6 k).2.2.1 = some (tyJxa66e6 k) := by decide +kernel
def RJ8 : String := "jdk/internal/util/ArraysSupport"
def TJ8 : u_T := fun k => match k with
  | _ => ("", "", "", false)
def tyJ8 : Nat → FieldType := fun k => match k with
  | _ => .int
abbrev wsJ80 : List Cond := u_ws RJ8 TJ8 0
theorem nmJ8 : ∀ a, a < 0 → ∀ b, b < 0 → a ≠ b → (TJ8 a).2.1 ≠ (TJ8 b).2.1 := by decide +kernel
theorem tyJ8_ok : ∀ k, k < 0 → parseFieldDescriptor (TJ8 k).2.2.1 = some (tyJ8 k) := by decide +kernel
abbrev cJ8_newLength_cabcc : ByteArray := prog_36_method_27_code
def yJ8_newLength_cabcc : MethodName := ⟨RJ8, "newLength", "(III)I"⟩
abbrev cJ8_hugeLength_7cf53 : ByteArray := prog_36_method_28_code
def yJ8_hugeLength_7cf53 : MethodName := ⟨RJ8, "hugeLength", "(II)I"⟩
def RJ3 : String := "jdk/internal/util/Preconditions"
def TJ3 : u_T := fun k => match k with
  | _ => ("", "", "", false)
def tyJ3 : Nat → FieldType := fun k => match k with
  | _ => .int
abbrev wsJ30 : List Cond := u_ws RJ3 TJ3 0
theorem nmJ3 : ∀ a, a < 0 → ∀ b, b < 0 → a ≠ b → (TJ3 a).2.1 ≠ (TJ3 b).2.1 := by decide +kernel
theorem tyJ3_ok : ∀ k, k < 0 → parseFieldDescriptor (TJ3 k).2.2.1 = some (tyJ3 k) := by decide +kernel
abbrev cJ3_checkIndex_8e157 : ByteArray := prog_37_method_11_code
def yJ3_checkIndex_8e157 : MethodName := ⟨RJ3, "checkIndex", "(IILjava/util/function/BiFunction;)I"⟩
def RL : String := "FlagChamberLaw"
abbrev cL_setAttribute : ByteArray := method_3_code
def yL_setAttribute : MethodName := ⟨RL, "setAttribute", "(LFlagChamber;III[J)I"⟩
abbrev cL_setTag : ByteArray := method_4_code
def yL_setTag : MethodName := ⟨RL, "setTag", "(LFlagChamber;IIZ[J)I"⟩
abbrev cL_type : ByteArray := method_5_code
def yL_type : MethodName := ⟨RL, "type", "(LFlagChamber;II[J)I"⟩
abbrev cL_erase : ByteArray := method_6_code
def yL_erase : MethodName := ⟨RL, "erase", "(LFlagChamber;II[J)I"⟩
abbrev cL_sign : ByteArray := method_7_code
def yL_sign : MethodName := ⟨RL, "sign", "(LFlagChamber;II[J)I"⟩
abbrev cL_fault : ByteArray := method_8_code
def yL_fault : MethodName := ⟨RL, "fault", "(LFlagChamber;I[J)I"⟩
abbrev cL_set : ByteArray := method_9_code
def yL_set : MethodName := ⟨RL, "set", "(LFlagChamber;I[J)I"⟩
abbrev cL_wouldMove : ByteArray := method_10_code
def yL_wouldMove : MethodName := ⟨RL, "wouldMove", "(LFlagChamber;I[J)I"⟩
abbrev cL_isIn : ByteArray := method_11_code
def yL_isIn : MethodName := ⟨RL, "isIn", "(LFlagChamber;II[J)I"⟩
abbrev cL_addRule : ByteArray := method_12_code
def yL_addRule : MethodName := ⟨RL, "addRule", "(LFlagChamber;IIII[J)I"⟩
abbrev cL_removeRule : ByteArray := method_13_code
def yL_removeRule : MethodName := ⟨RL, "removeRule", "(LFlagChamber;II[J)I"⟩
abbrev cL_rules : ByteArray := method_14_code
def yL_rules : MethodName := ⟨RL, "rules", "(LFlagChamber;I[J)I"⟩
abbrev cL_setNeed : ByteArray := method_15_code
def yL_setNeed : MethodName := ⟨RL, "setNeed", "(LFlagChamber;IIZ[J)I"⟩
abbrev cL_view : ByteArray := method_16_code
def yL_view : MethodName := ⟨RL, "view", "(LFlagChamber;II[J)I"⟩
abbrev cL_viewByLog : ByteArray := method_17_code
def yL_viewByLog : MethodName := ⟨RL, "viewByLog", "(LFlagChamber;II[J)I"⟩
abbrev cL_ruleFor : ByteArray := method_18_code
def yL_ruleFor : MethodName := ⟨RL, "ruleFor", "(LFlagChamber;II[J)I"⟩
abbrev cL_reach : ByteArray := method_19_code
def yL_reach : MethodName := ⟨RL, "reach", "(LFlagChamber;II[J)I"⟩
abbrev cL_show : ByteArray := method_20_code
def yL_show : MethodName := ⟨RL, "show", "(LFlagChamber;II[J)I"⟩
abbrev cL_setShares : ByteArray := method_21_code
def yL_setShares : MethodName := ⟨RL, "setShares", "(LFlagChamber;IIIII[J)I"⟩
abbrev cL_setSalt : ByteArray := method_22_code
def yL_setSalt : MethodName := ⟨RL, "setSalt", "(LFlagChamber;II[J)I"⟩
abbrev cL_stop : ByteArray := method_23_code
def yL_stop : MethodName := ⟨RL, "stop", "(LFlagChamber;II[J)I"⟩
abbrev cL_beginAnew : ByteArray := method_24_code
def yL_beginAnew : MethodName := ⟨RL, "beginAnew", "(LFlagChamber;I[J)I"⟩
abbrev cL_arm : ByteArray := method_25_code
def yL_arm : MethodName := ⟨RL, "arm", "(LFlagChamber;II[J)I"⟩
abbrev cL_kept : ByteArray := method_26_code
def yL_kept : MethodName := ⟨RL, "kept", "(LFlagChamber;II[J)I"⟩
abbrev cL_hold : ByteArray := method_27_code
def yL_hold : MethodName := ⟨RL, "hold", "(LFlagChamber;II[J)I"⟩
abbrev cL_release : ByteArray := method_28_code
def yL_release : MethodName := ⟨RL, "release", "(LFlagChamber;II[J)I"⟩
abbrev cL_holdTrial : ByteArray := method_29_code
def yL_holdTrial : MethodName := ⟨RL, "holdTrial", "(LFlagChamber;I[J)I"⟩
abbrev cL_releaseTrial : ByteArray := method_30_code
def yL_releaseTrial : MethodName := ⟨RL, "releaseTrial", "(LFlagChamber;I[J)I"⟩
abbrev cL_isHeld : ByteArray := method_31_code
def yL_isHeld : MethodName := ⟨RL, "isHeld", "(LFlagChamber;II[J)I"⟩
abbrev cL_shownLast : ByteArray := method_32_code
def yL_shownLast : MethodName := ⟨RL, "shownLast", "(LFlagChamber;II[J)I"⟩
abbrev cL_law : ByteArray := code
def yL_law : MethodName := ⟨RL, "law", "([I)Z"⟩
abbrev vwCl : List vw_C := [(RJx4a65c, TJx4a65c, 3), (RX0, TX0, 7), (RX1, TX1, 5), (RX2, TX2, 4), (RX3, TX3, 3), (RX4, TX4, 2), (RX5, TX5, 5), (RX6, TX6, 2), (RX7, TX7, 2), (RX8, TX8, 2), (RX9, TX9, 4), (RX10, TX10, 10), (RX11, TX11, 31)]
end
section
theorem dX0_init_0 : decode cX0_init 0 = .ok (.aload_n 0, 1) := by decide +kernel
theorem dX0_init_1 : decode cX0_init 1 = .ok (.invokespecial 3, 3) := by decide +kernel
theorem dX0_init_4 : decode cX0_init 4 = .ok (.aload_n 0, 1) := by decide +kernel
theorem dX0_init_5 : decode cX0_init 5 = .ok (.bipush 6, 2) := by decide +kernel
theorem dX0_init_7 : decode cX0_init 7 = .ok (.anewarray 9, 3) := by decide +kernel
theorem dX0_init_10 : decode cX0_init 10 = .ok (.putfield 11, 3) := by decide +kernel
theorem dX0_init_13 : decode cX0_init 13 = .ok (.aload_n 0, 1) := by decide +kernel
theorem dX0_init_14 : decode cX0_init 14 = .ok (.bipush 6, 2) := by decide +kernel
theorem dX0_init_16 : decode cX0_init 16 = .ok (.anewarray 9, 3) := by decide +kernel
theorem dX0_init_19 : decode cX0_init 19 = .ok (.putfield 17, 3) := by decide +kernel
theorem dX0_init_22 : decode cX0_init 22 = .ok (.aload_n 0, 1) := by decide +kernel
theorem dX0_init_23 : decode cX0_init 23 = .ok (.new 20, 3) := by decide +kernel
theorem dX0_init_26 : decode cX0_init 26 = .ok (.dup, 1) := by decide +kernel
theorem dX0_init_27 : decode cX0_init 27 = .ok (.bipush 6, 2) := by decide +kernel
theorem dX0_init_29 : decode cX0_init 29 = .ok (.invokespecial 22, 3) := by decide +kernel
theorem dX0_init_32 : decode cX0_init 32 = .ok (.putfield 25, 3) := by decide +kernel
theorem dX0_init_35 : decode cX0_init 35 = .ok (.aload_n 0, 1) := by decide +kernel
theorem dX0_init_36 : decode cX0_init 36 = .ok (.bipush 6, 2) := by decide +kernel
theorem dX0_init_38 : decode cX0_init 38 = .ok (.newarray .int, 2) := by decide +kernel
theorem dX0_init_40 : decode cX0_init 40 = .ok (.putfield 29, 3) := by decide +kernel
theorem dX0_init_43 : decode cX0_init 43 = .ok (.aload_n 0, 1) := by decide +kernel
theorem dX0_init_44 : decode cX0_init 44 = .ok (.bipush 6, 2) := by decide +kernel
theorem dX0_init_46 : decode cX0_init 46 = .ok (.newarray .int, 2) := by decide +kernel
theorem dX0_init_48 : decode cX0_init 48 = .ok (.putfield 33, 3) := by decide +kernel
theorem dX0_init_51 : decode cX0_init 51 = .ok (.aload_n 0, 1) := by decide +kernel
theorem dX0_init_52 : decode cX0_init 52 = .ok (.new 36, 3) := by decide +kernel
theorem dX0_init_55 : decode cX0_init 55 = .ok (.dup, 1) := by decide +kernel
theorem dX0_init_56 : decode cX0_init 56 = .ok (.invokespecial 38, 3) := by decide +kernel
theorem dX0_init_59 : decode cX0_init 59 = .ok (.putfield 39, 3) := by decide +kernel
theorem dX0_init_62 : decode cX0_init 62 = .ok (.aload_n 0, 1) := by decide +kernel
theorem dX0_init_63 : decode cX0_init 63 = .ok (.new 43, 3) := by decide +kernel
theorem dX0_init_66 : decode cX0_init 66 = .ok (.dup, 1) := by decide +kernel
theorem dX0_init_67 : decode cX0_init 67 = .ok (.invokespecial 45, 3) := by decide +kernel
theorem dX0_init_70 : decode cX0_init 70 = .ok (.putfield 46, 3) := by decide +kernel
theorem dX0_init_73 : decode cX0_init 73 = .ok (.iconst 0, 1) := by decide +kernel
theorem dX0_init_74 : decode cX0_init 74 = .ok (.istore_n 1, 1) := by decide +kernel
theorem dX0_init_75 : decode cX0_init 75 = .ok (.iload_n 1, 1) := by decide +kernel
theorem dX0_init_76 : decode cX0_init 76 = .ok (.bipush 6, 2) := by decide +kernel
theorem dX0_init_78 : decode cX0_init 78 = .ok (.if_icmp .ge 35, 3) := by decide +kernel
theorem dX0_init_81 : decode cX0_init 81 = .ok (.aload_n 0, 1) := by decide +kernel
theorem dX0_init_82 : decode cX0_init 82 = .ok (.getfield 11, 3) := by decide +kernel
theorem dX0_init_85 : decode cX0_init 85 = .ok (.iload_n 1, 1) := by decide +kernel
theorem dX0_init_86 : decode cX0_init 86 = .ok (.new 9, 3) := by decide +kernel
theorem dX0_init_89 : decode cX0_init 89 = .ok (.dup, 1) := by decide +kernel
theorem dX0_init_90 : decode cX0_init 90 = .ok (.invokespecial 50, 3) := by decide +kernel
theorem dX0_init_93 : decode cX0_init 93 = .ok (.aastore, 1) := by decide +kernel
theorem dX0_init_94 : decode cX0_init 94 = .ok (.aload_n 0, 1) := by decide +kernel
theorem dX0_init_95 : decode cX0_init 95 = .ok (.getfield 17, 3) := by decide +kernel
theorem dX0_init_98 : decode cX0_init 98 = .ok (.iload_n 1, 1) := by decide +kernel
theorem dX0_init_99 : decode cX0_init 99 = .ok (.new 9, 3) := by decide +kernel
theorem dX0_init_102 : decode cX0_init 102 = .ok (.dup, 1) := by decide +kernel
theorem dX0_init_103 : decode cX0_init 103 = .ok (.invokespecial 50, 3) := by decide +kernel
theorem dX0_init_106 : decode cX0_init 106 = .ok (.aastore, 1) := by decide +kernel
theorem dX0_init_107 : decode cX0_init 107 = .ok (.iinc 1 1, 3) := by decide +kernel
theorem dX0_init_110 : decode cX0_init 110 = .ok (.goto (-35), 3) := by decide +kernel
theorem dX0_init_113 : decode cX0_init 113 = .ok (.return_, 1) := by decide +kernel
theorem dX0_faultOf_0 : decode cX0_faultOf 0 = .ok (.aload_n 0, 1) := by decide +kernel
theorem dX0_faultOf_1 : decode cX0_faultOf 1 = .ok (.getfield 39, 3) := by decide +kernel
theorem dX0_faultOf_4 : decode cX0_faultOf 4 = .ok (.aload_n 0, 1) := by decide +kernel
theorem dX0_faultOf_5 : decode cX0_faultOf 5 = .ok (.getfield 11, 3) := by decide +kernel
theorem dX0_faultOf_8 : decode cX0_faultOf 8 = .ok (.iload_n 1, 1) := by decide +kernel
theorem dX0_faultOf_9 : decode cX0_faultOf 9 = .ok (.aaload, 1) := by decide +kernel
theorem dX0_faultOf_10 : decode cX0_faultOf 10 = .ok (.invokevirtual 51, 3) := by decide +kernel
theorem dX0_faultOf_13 : decode cX0_faultOf 13 = .ok (.ireturn, 1) := by decide +kernel
theorem dX0_canBeSet_0 : decode cX0_canBeSet 0 = .ok (.aload_n 0, 1) := by decide +kernel
theorem dX0_canBeSet_1 : decode cX0_canBeSet 1 = .ok (.iload_n 1, 1) := by decide +kernel
theorem dX0_canBeSet_2 : decode cX0_canBeSet 2 = .ok (.invokevirtual 55, 3) := by decide +kernel
theorem dX0_canBeSet_5 : decode cX0_canBeSet 5 = .ok (.iconst (-1), 1) := by decide +kernel
theorem dX0_canBeSet_6 : decode cX0_canBeSet 6 = .ok (.if_icmp .ne 27, 3) := by decide +kernel
theorem dX0_canBeSet_9 : decode cX0_canBeSet 9 = .ok (.aload_n 0, 1) := by decide +kernel
theorem dX0_canBeSet_10 : decode cX0_canBeSet 10 = .ok (.getfield 25, 3) := by decide +kernel
theorem dX0_canBeSet_13 : decode cX0_canBeSet 13 = .ok (.iload_n 1, 1) := by decide +kernel
theorem dX0_canBeSet_14 : decode cX0_canBeSet 14 = .ok (.aload_n 0, 1) := by decide +kernel
theorem dX0_canBeSet_15 : decode cX0_canBeSet 15 = .ok (.getfield 11, 3) := by decide +kernel
theorem dX0_canBeSet_18 : decode cX0_canBeSet 18 = .ok (.iload_n 1, 1) := by decide +kernel
theorem dX0_canBeSet_19 : decode cX0_canBeSet 19 = .ok (.aaload, 1) := by decide +kernel
theorem dX0_canBeSet_20 : decode cX0_canBeSet 20 = .ok (.invokevirtual 59, 3) := by decide +kernel
theorem dX0_canBeSet_23 : decode cX0_canBeSet 23 = .ok (.invokevirtual 63, 3) := by decide +kernel
theorem dX0_canBeSet_26 : decode cX0_canBeSet 26 = .ok (.ifCond .ne 7, 3) := by decide +kernel
theorem dX0_canBeSet_29 : decode cX0_canBeSet 29 = .ok (.iconst 1, 1) := by decide +kernel
theorem dX0_canBeSet_30 : decode cX0_canBeSet 30 = .ok (.goto 4, 3) := by decide +kernel
theorem dX0_canBeSet_33 : decode cX0_canBeSet 33 = .ok (.iconst 0, 1) := by decide +kernel
theorem dX0_canBeSet_34 : decode cX0_canBeSet 34 = .ok (.ireturn, 1) := by decide +kernel
theorem dX0_settle_0 : decode cX0_settle 0 = .ok (.iconst 0, 1) := by decide +kernel
theorem dX0_settle_1 : decode cX0_settle 1 = .ok (.istore_n 2, 1) := by decide +kernel
theorem dX0_settle_2 : decode cX0_settle 2 = .ok (.iload_n 2, 1) := by decide +kernel
theorem dX0_settle_3 : decode cX0_settle 3 = .ok (.bipush 6, 2) := by decide +kernel
theorem dX0_settle_5 : decode cX0_settle 5 = .ok (.if_icmp .ge 43, 3) := by decide +kernel
theorem dX0_settle_8 : decode cX0_settle 8 = .ok (.aload_n 0, 1) := by decide +kernel
theorem dX0_settle_9 : decode cX0_settle 9 = .ok (.getfield 25, 3) := by decide +kernel
theorem dX0_settle_12 : decode cX0_settle 12 = .ok (.getfield 67, 3) := by decide +kernel
theorem dX0_settle_15 : decode cX0_settle 15 = .ok (.iload_n 2, 1) := by decide +kernel
theorem dX0_settle_16 : decode cX0_settle 16 = .ok (.iaload, 1) := by decide +kernel
theorem dX0_settle_17 : decode cX0_settle 17 = .ok (.istore_n 3, 1) := by decide +kernel
theorem dX0_settle_18 : decode cX0_settle 18 = .ok (.aload_n 0, 1) := by decide +kernel
theorem dX0_settle_19 : decode cX0_settle 19 = .ok (.getfield 29, 3) := by decide +kernel
theorem dX0_settle_22 : decode cX0_settle 22 = .ok (.iload_n 3, 1) := by decide +kernel
theorem dX0_settle_23 : decode cX0_settle 23 = .ok (.aload_n 0, 1) := by decide +kernel
theorem dX0_settle_24 : decode cX0_settle 24 = .ok (.getfield 46, 3) := by decide +kernel
theorem dX0_settle_27 : decode cX0_settle 27 = .ok (.aload_n 0, 1) := by decide +kernel
theorem dX0_settle_28 : decode cX0_settle 28 = .ok (.getfield 17, 3) := by decide +kernel
theorem dX0_settle_31 : decode cX0_settle 31 = .ok (.iload_n 3, 1) := by decide +kernel
theorem dX0_settle_32 : decode cX0_settle 32 = .ok (.aaload, 1) := by decide +kernel
theorem dX0_settle_33 : decode cX0_settle 33 = .ok (.aload_n 1, 1) := by decide +kernel
theorem dX0_settle_34 : decode cX0_settle 34 = .ok (.aload_n 0, 1) := by decide +kernel
theorem dX0_settle_35 : decode cX0_settle 35 = .ok (.getfield 29, 3) := by decide +kernel
theorem dX0_settle_38 : decode cX0_settle 38 = .ok (.invokevirtual 70, 3) := by decide +kernel
theorem dX0_settle_41 : decode cX0_settle 41 = .ok (.iastore, 1) := by decide +kernel
theorem dX0_settle_42 : decode cX0_settle 42 = .ok (.iinc 2 1, 3) := by decide +kernel
theorem dX0_settle_45 : decode cX0_settle 45 = .ok (.goto (-43), 3) := by decide +kernel
theorem dX0_settle_48 : decode cX0_settle 48 = .ok (.return_, 1) := by decide +kernel
theorem dX0_tryDraft_0 : decode cX0_tryDraft 0 = .ok (.aload_n 0, 1) := by decide +kernel
theorem dX0_tryDraft_1 : decode cX0_tryDraft 1 = .ok (.getfield 33, 3) := by decide +kernel
theorem dX0_tryDraft_4 : decode cX0_tryDraft 4 = .ok (.iload_n 1, 1) := by decide +kernel
theorem dX0_tryDraft_5 : decode cX0_tryDraft 5 = .ok (.aload_n 0, 1) := by decide +kernel
theorem dX0_tryDraft_6 : decode cX0_tryDraft 6 = .ok (.getfield 46, 3) := by decide +kernel
theorem dX0_tryDraft_9 : decode cX0_tryDraft 9 = .ok (.aload_n 0, 1) := by decide +kernel
theorem dX0_tryDraft_10 : decode cX0_tryDraft 10 = .ok (.getfield 11, 3) := by decide +kernel
theorem dX0_tryDraft_13 : decode cX0_tryDraft 13 = .ok (.iload_n 1, 1) := by decide +kernel
theorem dX0_tryDraft_14 : decode cX0_tryDraft 14 = .ok (.aaload, 1) := by decide +kernel
theorem dX0_tryDraft_15 : decode cX0_tryDraft 15 = .ok (.aload_n 2, 1) := by decide +kernel
theorem dX0_tryDraft_16 : decode cX0_tryDraft 16 = .ok (.aload_n 0, 1) := by decide +kernel
theorem dX0_tryDraft_17 : decode cX0_tryDraft 17 = .ok (.getfield 29, 3) := by decide +kernel
theorem dX0_tryDraft_20 : decode cX0_tryDraft 20 = .ok (.invokevirtual 70, 3) := by decide +kernel
theorem dX0_tryDraft_23 : decode cX0_tryDraft 23 = .ok (.iastore, 1) := by decide +kernel
theorem dX0_tryDraft_24 : decode cX0_tryDraft 24 = .ok (.iconst 0, 1) := by decide +kernel
theorem dX0_tryDraft_25 : decode cX0_tryDraft 25 = .ok (.istore_n 3, 1) := by decide +kernel
theorem dX0_tryDraft_26 : decode cX0_tryDraft 26 = .ok (.iload_n 3, 1) := by decide +kernel
theorem dX0_tryDraft_27 : decode cX0_tryDraft 27 = .ok (.bipush 6, 2) := by decide +kernel
theorem dX0_tryDraft_29 : decode cX0_tryDraft 29 = .ok (.if_icmp .ge 52, 3) := by decide +kernel
theorem dX0_tryDraft_32 : decode cX0_tryDraft 32 = .ok (.aload_n 0, 1) := by decide +kernel
theorem dX0_tryDraft_33 : decode cX0_tryDraft 33 = .ok (.getfield 25, 3) := by decide +kernel
theorem dX0_tryDraft_36 : decode cX0_tryDraft 36 = .ok (.getfield 67, 3) := by decide +kernel
theorem dX0_tryDraft_39 : decode cX0_tryDraft 39 = .ok (.iload_n 3, 1) := by decide +kernel
theorem dX0_tryDraft_40 : decode cX0_tryDraft 40 = .ok (.iaload, 1) := by decide +kernel
theorem dX0_tryDraft_41 : decode cX0_tryDraft 41 = .ok (.istore 4, 2) := by decide +kernel
theorem dX0_tryDraft_43 : decode cX0_tryDraft 43 = .ok (.iload 4, 2) := by decide +kernel
theorem dX0_tryDraft_45 : decode cX0_tryDraft 45 = .ok (.iload_n 1, 1) := by decide +kernel
theorem dX0_tryDraft_46 : decode cX0_tryDraft 46 = .ok (.if_icmp .eq 29, 3) := by decide +kernel
theorem dX0_tryDraft_49 : decode cX0_tryDraft 49 = .ok (.aload_n 0, 1) := by decide +kernel
theorem dX0_tryDraft_50 : decode cX0_tryDraft 50 = .ok (.getfield 33, 3) := by decide +kernel
theorem dX0_tryDraft_53 : decode cX0_tryDraft 53 = .ok (.iload 4, 2) := by decide +kernel
theorem dX0_tryDraft_55 : decode cX0_tryDraft 55 = .ok (.aload_n 0, 1) := by decide +kernel
theorem dX0_tryDraft_56 : decode cX0_tryDraft 56 = .ok (.getfield 46, 3) := by decide +kernel
theorem dX0_tryDraft_59 : decode cX0_tryDraft 59 = .ok (.aload_n 0, 1) := by decide +kernel
theorem dX0_tryDraft_60 : decode cX0_tryDraft 60 = .ok (.getfield 17, 3) := by decide +kernel
theorem dX0_tryDraft_63 : decode cX0_tryDraft 63 = .ok (.iload 4, 2) := by decide +kernel
theorem dX0_tryDraft_65 : decode cX0_tryDraft 65 = .ok (.aaload, 1) := by decide +kernel
theorem dX0_tryDraft_66 : decode cX0_tryDraft 66 = .ok (.aload_n 2, 1) := by decide +kernel
theorem dX0_tryDraft_67 : decode cX0_tryDraft 67 = .ok (.aload_n 0, 1) := by decide +kernel
theorem dX0_tryDraft_68 : decode cX0_tryDraft 68 = .ok (.getfield 33, 3) := by decide +kernel
theorem dX0_tryDraft_71 : decode cX0_tryDraft 71 = .ok (.invokevirtual 70, 3) := by decide +kernel
theorem dX0_tryDraft_74 : decode cX0_tryDraft 74 = .ok (.iastore, 1) := by decide +kernel
theorem dX0_tryDraft_75 : decode cX0_tryDraft 75 = .ok (.iinc 3 1, 3) := by decide +kernel
theorem dX0_tryDraft_78 : decode cX0_tryDraft 78 = .ok (.goto (-52), 3) := by decide +kernel
theorem dX0_tryDraft_81 : decode cX0_tryDraft 81 = .ok (.return_, 1) := by decide +kernel
theorem dX0_adoptDraft_0 : decode cX0_adoptDraft 0 = .ok (.aload_n 0, 1) := by decide +kernel
theorem dX0_adoptDraft_1 : decode cX0_adoptDraft 1 = .ok (.getfield 17, 3) := by decide +kernel
theorem dX0_adoptDraft_4 : decode cX0_adoptDraft 4 = .ok (.iload_n 1, 1) := by decide +kernel
theorem dX0_adoptDraft_5 : decode cX0_adoptDraft 5 = .ok (.aaload, 1) := by decide +kernel
theorem dX0_adoptDraft_6 : decode cX0_adoptDraft 6 = .ok (.aload_n 0, 1) := by decide +kernel
theorem dX0_adoptDraft_7 : decode cX0_adoptDraft 7 = .ok (.getfield 11, 3) := by decide +kernel
theorem dX0_adoptDraft_10 : decode cX0_adoptDraft 10 = .ok (.iload_n 1, 1) := by decide +kernel
theorem dX0_adoptDraft_11 : decode cX0_adoptDraft 11 = .ok (.aaload, 1) := by decide +kernel
theorem dX0_adoptDraft_12 : decode cX0_adoptDraft 12 = .ok (.invokevirtual 74, 3) := by decide +kernel
theorem dX0_adoptDraft_15 : decode cX0_adoptDraft 15 = .ok (.aload_n 0, 1) := by decide +kernel
theorem dX0_adoptDraft_16 : decode cX0_adoptDraft 16 = .ok (.getfield 25, 3) := by decide +kernel
theorem dX0_adoptDraft_19 : decode cX0_adoptDraft 19 = .ok (.iload_n 1, 1) := by decide +kernel
theorem dX0_adoptDraft_20 : decode cX0_adoptDraft 20 = .ok (.aload_n 0, 1) := by decide +kernel
theorem dX0_adoptDraft_21 : decode cX0_adoptDraft 21 = .ok (.getfield 11, 3) := by decide +kernel
theorem dX0_adoptDraft_24 : decode cX0_adoptDraft 24 = .ok (.iload_n 1, 1) := by decide +kernel
theorem dX0_adoptDraft_25 : decode cX0_adoptDraft 25 = .ok (.aaload, 1) := by decide +kernel
theorem dX0_adoptDraft_26 : decode cX0_adoptDraft 26 = .ok (.invokevirtual 59, 3) := by decide +kernel
theorem dX0_adoptDraft_29 : decode cX0_adoptDraft 29 = .ok (.invokevirtual 78, 3) := by decide +kernel
theorem dX0_adoptDraft_32 : decode cX0_adoptDraft 32 = .ok (.aload_n 0, 1) := by decide +kernel
theorem dX0_adoptDraft_33 : decode cX0_adoptDraft 33 = .ok (.getfield 33, 3) := by decide +kernel
theorem dX0_adoptDraft_36 : decode cX0_adoptDraft 36 = .ok (.iconst 0, 1) := by decide +kernel
theorem dX0_adoptDraft_37 : decode cX0_adoptDraft 37 = .ok (.aload_n 0, 1) := by decide +kernel
theorem dX0_adoptDraft_38 : decode cX0_adoptDraft 38 = .ok (.getfield 29, 3) := by decide +kernel
theorem dX0_adoptDraft_41 : decode cX0_adoptDraft 41 = .ok (.iconst 0, 1) := by decide +kernel
theorem dX0_adoptDraft_42 : decode cX0_adoptDraft 42 = .ok (.bipush 6, 2) := by decide +kernel
theorem dX0_adoptDraft_44 : decode cX0_adoptDraft 44 = .ok (.invokestatic 82, 3) := by decide +kernel
theorem dX0_adoptDraft_47 : decode cX0_adoptDraft 47 = .ok (.return_, 1) := by decide +kernel
theorem dX1_init_0 : decode cX1_init 0 = .ok (.aload_n 0, 1) := by decide +kernel
theorem dX1_init_1 : decode cX1_init 1 = .ok (.invokespecial 3, 3) := by decide +kernel
theorem dX1_init_4 : decode cX1_init 4 = .ok (.aload_n 0, 1) := by decide +kernel
theorem dX1_init_5 : decode cX1_init 5 = .ok (.iload_n 1, 1) := by decide +kernel
theorem dX1_init_6 : decode cX1_init 6 = .ok (.putfield 9, 3) := by decide +kernel
theorem dX1_init_9 : decode cX1_init 9 = .ok (.aload_n 0, 1) := by decide +kernel
theorem dX1_init_10 : decode cX1_init 10 = .ok (.iload_n 2, 1) := by decide +kernel
theorem dX1_init_11 : decode cX1_init 11 = .ok (.putfield 15, 3) := by decide +kernel
theorem dX1_init_14 : decode cX1_init 14 = .ok (.aload_n 0, 1) := by decide +kernel
theorem dX1_init_15 : decode cX1_init 15 = .ok (.iload_n 3, 1) := by decide +kernel
theorem dX1_init_16 : decode cX1_init 16 = .ok (.putfield 18, 3) := by decide +kernel
theorem dX1_init_19 : decode cX1_init 19 = .ok (.aload_n 0, 1) := by decide +kernel
theorem dX1_init_20 : decode cX1_init 20 = .ok (.iload 4, 2) := by decide +kernel
theorem dX1_init_22 : decode cX1_init 22 = .ok (.putfield 21, 3) := by decide +kernel
theorem dX1_init_25 : decode cX1_init 25 = .ok (.aload_n 0, 1) := by decide +kernel
theorem dX1_init_26 : decode cX1_init 26 = .ok (.iload 5, 2) := by decide +kernel
theorem dX1_init_28 : decode cX1_init 28 = .ok (.putfield 24, 3) := by decide +kernel
theorem dX1_init_31 : decode cX1_init 31 = .ok (.return_, 1) := by decide +kernel
theorem dX1_concerns_0 : decode cX1_concerns 0 = .ok (.aload_n 0, 1) := by decide +kernel
theorem dX1_concerns_1 : decode cX1_concerns 1 = .ok (.getfield 15, 3) := by decide +kernel
theorem dX1_concerns_4 : decode cX1_concerns 4 = .ok (.iconst (-1), 1) := by decide +kernel
theorem dX1_concerns_5 : decode cX1_concerns 5 = .ok (.if_icmp .eq 11, 3) := by decide +kernel
theorem dX1_concerns_8 : decode cX1_concerns 8 = .ok (.aload_n 0, 1) := by decide +kernel
theorem dX1_concerns_9 : decode cX1_concerns 9 = .ok (.getfield 15, 3) := by decide +kernel
theorem dX1_concerns_12 : decode cX1_concerns 12 = .ok (.iload_n 1, 1) := by decide +kernel
theorem dX1_concerns_13 : decode cX1_concerns 13 = .ok (.if_icmp .ne 7, 3) := by decide +kernel
theorem dX1_concerns_16 : decode cX1_concerns 16 = .ok (.iconst 1, 1) := by decide +kernel
theorem dX1_concerns_17 : decode cX1_concerns 17 = .ok (.goto 4, 3) := by decide +kernel
theorem dX1_concerns_20 : decode cX1_concerns 20 = .ok (.iconst 0, 1) := by decide +kernel
theorem dX1_concerns_21 : decode cX1_concerns 21 = .ok (.ireturn, 1) := by decide +kernel
theorem dX2_init_0 : decode cX2_init 0 = .ok (.aload_n 0, 1) := by decide +kernel
theorem dX2_init_1 : decode cX2_init 1 = .ok (.invokespecial 3, 3) := by decide +kernel
theorem dX2_init_4 : decode cX2_init 4 = .ok (.aload_n 0, 1) := by decide +kernel
theorem dX2_init_5 : decode cX2_init 5 = .ok (.bipush 9, 2) := by decide +kernel
theorem dX2_init_7 : decode cX2_init 7 = .ok (.newarray .int, 2) := by decide +kernel
theorem dX2_init_9 : decode cX2_init 9 = .ok (.putfield 9, 3) := by decide +kernel
theorem dX2_init_12 : decode cX2_init 12 = .ok (.aload_n 0, 1) := by decide +kernel
theorem dX2_init_13 : decode cX2_init 13 = .ok (.bipush 9, 2) := by decide +kernel
theorem dX2_init_15 : decode cX2_init 15 = .ok (.newarray .int, 2) := by decide +kernel
theorem dX2_init_17 : decode cX2_init 17 = .ok (.putfield 15, 3) := by decide +kernel
theorem dX2_init_20 : decode cX2_init 20 = .ok (.aload_n 0, 1) := by decide +kernel
theorem dX2_init_21 : decode cX2_init 21 = .ok (.bipush 9, 2) := by decide +kernel
theorem dX2_init_23 : decode cX2_init 23 = .ok (.newarray .int, 2) := by decide +kernel
theorem dX2_init_25 : decode cX2_init 25 = .ok (.putfield 18, 3) := by decide +kernel
theorem dX2_init_28 : decode cX2_init 28 = .ok (.return_, 1) := by decide +kernel
theorem dX2_whoMeets_0 : decode cX2_whoMeets 0 = .ok (.aload_n 1, 1) := by decide +kernel
theorem dX2_whoMeets_1 : decode cX2_whoMeets 1 = .ok (.getfield 21, 3) := by decide +kernel
theorem dX2_whoMeets_4 : decode cX2_whoMeets 4 = .ok (.ifCond .ne 5, 3) := by decide +kernel
theorem dX2_whoMeets_7 : decode cX2_whoMeets 7 = .ok (.iconst 0, 1) := by decide +kernel
theorem dX2_whoMeets_8 : decode cX2_whoMeets 8 = .ok (.ireturn, 1) := by decide +kernel
theorem dX2_whoMeets_9 : decode cX2_whoMeets 9 = .ok (.aload_n 0, 1) := by decide +kernel
theorem dX2_whoMeets_10 : decode cX2_whoMeets 10 = .ok (.iconst 0, 1) := by decide +kernel
theorem dX2_whoMeets_11 : decode cX2_whoMeets 11 = .ok (.putfield 27, 3) := by decide +kernel
theorem dX2_whoMeets_14 : decode cX2_whoMeets 14 = .ok (.aload_n 0, 1) := by decide +kernel
theorem dX2_whoMeets_15 : decode cX2_whoMeets 15 = .ok (.invokevirtual 30, 3) := by decide +kernel
theorem dX2_whoMeets_18 : decode cX2_whoMeets 18 = .ok (.iconst 0, 1) := by decide +kernel
theorem dX2_whoMeets_19 : decode cX2_whoMeets 19 = .ok (.istore 4, 2) := by decide +kernel
theorem dX2_whoMeets_21 : decode cX2_whoMeets 21 = .ok (.iload 4, 2) := by decide +kernel
theorem dX2_whoMeets_23 : decode cX2_whoMeets 23 = .ok (.aload_n 1, 1) := by decide +kernel
theorem dX2_whoMeets_24 : decode cX2_whoMeets 24 = .ok (.getfield 21, 3) := by decide +kernel
theorem dX2_whoMeets_27 : decode cX2_whoMeets 27 = .ok (.if_icmp .ge 18, 3) := by decide +kernel
theorem dX2_whoMeets_30 : decode cX2_whoMeets 30 = .ok (.aload_n 0, 1) := by decide +kernel
theorem dX2_whoMeets_31 : decode cX2_whoMeets 31 = .ok (.aload_n 1, 1) := by decide +kernel
theorem dX2_whoMeets_32 : decode cX2_whoMeets 32 = .ok (.iload 4, 2) := by decide +kernel
theorem dX2_whoMeets_34 : decode cX2_whoMeets 34 = .ok (.aload_n 2, 1) := by decide +kernel
theorem dX2_whoMeets_35 : decode cX2_whoMeets 35 = .ok (.aload_n 3, 1) := by decide +kernel
theorem dX2_whoMeets_36 : decode cX2_whoMeets 36 = .ok (.invokevirtual 33, 3) := by decide +kernel
theorem dX2_whoMeets_39 : decode cX2_whoMeets 39 = .ok (.iinc 4 1, 3) := by decide +kernel
theorem dX2_whoMeets_42 : decode cX2_whoMeets 42 = .ok (.goto (-21), 3) := by decide +kernel
theorem dX2_whoMeets_45 : decode cX2_whoMeets 45 = .ok (.aload_n 0, 1) := by decide +kernel
theorem dX2_whoMeets_46 : decode cX2_whoMeets 46 = .ok (.getfield 9, 3) := by decide +kernel
theorem dX2_whoMeets_49 : decode cX2_whoMeets 49 = .ok (.iconst 0, 1) := by decide +kernel
theorem dX2_whoMeets_50 : decode cX2_whoMeets 50 = .ok (.iaload, 1) := by decide +kernel
theorem dX2_whoMeets_51 : decode cX2_whoMeets 51 = .ok (.aload_n 0, 1) := by decide +kernel
theorem dX2_whoMeets_52 : decode cX2_whoMeets 52 = .ok (.getfield 15, 3) := by decide +kernel
theorem dX2_whoMeets_55 : decode cX2_whoMeets 55 = .ok (.iconst 0, 1) := by decide +kernel
theorem dX2_whoMeets_56 : decode cX2_whoMeets 56 = .ok (.iaload, 1) := by decide +kernel
theorem dX2_whoMeets_57 : decode cX2_whoMeets 57 = .ok (.ior, 1) := by decide +kernel
theorem dX2_whoMeets_58 : decode cX2_whoMeets 58 = .ok (.ireturn, 1) := by decide +kernel
theorem dX2_readSign_0 : decode cX2_readSign 0 = .ok (.aload_n 1, 1) := by decide +kernel
theorem dX2_readSign_1 : decode cX2_readSign 1 = .ok (.iload_n 2, 1) := by decide +kernel
theorem dX2_readSign_2 : decode cX2_readSign 2 = .ok (.invokevirtual 37, 3) := by decide +kernel
theorem dX2_readSign_5 : decode cX2_readSign 5 = .ok (.lookupswitch 341 #[(33, 91), (40, 108), (41, 134), (42, 216), (64, 321), (97, 251), (108, 225), (112, 277), (116, 303), (124, 181)], 91) := by decide +kernel
theorem dX2_readSign_96 : decode cX2_readSign 96 = .ok (.aload_n 0, 1) := by decide +kernel
theorem dX2_readSign_97 : decode cX2_readSign 97 = .ok (.getfield 18, 3) := by decide +kernel
theorem dX2_readSign_100 : decode cX2_readSign 100 = .ok (.aload_n 0, 1) := by decide +kernel
theorem dX2_readSign_101 : decode cX2_readSign 101 = .ok (.getfield 27, 3) := by decide +kernel
theorem dX2_readSign_104 : decode cX2_readSign 104 = .ok (.dup2, 1) := by decide +kernel
theorem dX2_readSign_105 : decode cX2_readSign 105 = .ok (.iaload, 1) := by decide +kernel
theorem dX2_readSign_106 : decode cX2_readSign 106 = .ok (.ldc 41, 2) := by decide +kernel
theorem dX2_readSign_108 : decode cX2_readSign 108 = .ok (.ixor, 1) := by decide +kernel
theorem dX2_readSign_109 : decode cX2_readSign 109 = .ok (.iastore, 1) := by decide +kernel
theorem dX2_readSign_110 : decode cX2_readSign 110 = .ok (.goto 236, 3) := by decide +kernel
theorem dX2_readSign_113 : decode cX2_readSign 113 = .ok (.aload_n 0, 1) := by decide +kernel
theorem dX2_readSign_114 : decode cX2_readSign 114 = .ok (.getfield 27, 3) := by decide +kernel
theorem dX2_readSign_117 : decode cX2_readSign 117 = .ok (.bipush 8, 2) := by decide +kernel
theorem dX2_readSign_119 : decode cX2_readSign 119 = .ok (.if_icmp .ge 227, 3) := by decide +kernel
theorem dX2_readSign_122 : decode cX2_readSign 122 = .ok (.aload_n 0, 1) := by decide +kernel
theorem dX2_readSign_123 : decode cX2_readSign 123 = .ok (.dup, 1) := by decide +kernel
theorem dX2_readSign_124 : decode cX2_readSign 124 = .ok (.getfield 27, 3) := by decide +kernel
theorem dX2_readSign_127 : decode cX2_readSign 127 = .ok (.iconst 1, 1) := by decide +kernel
theorem dX2_readSign_128 : decode cX2_readSign 128 = .ok (.iadd, 1) := by decide +kernel
theorem dX2_readSign_129 : decode cX2_readSign 129 = .ok (.putfield 27, 3) := by decide +kernel
theorem dX2_readSign_132 : decode cX2_readSign 132 = .ok (.aload_n 0, 1) := by decide +kernel
theorem dX2_readSign_133 : decode cX2_readSign 133 = .ok (.invokevirtual 30, 3) := by decide +kernel
theorem dX2_readSign_136 : decode cX2_readSign 136 = .ok (.goto 210, 3) := by decide +kernel
theorem dX2_readSign_139 : decode cX2_readSign 139 = .ok (.aload_n 0, 1) := by decide +kernel
theorem dX2_readSign_140 : decode cX2_readSign 140 = .ok (.getfield 27, 3) := by decide +kernel
theorem dX2_readSign_143 : decode cX2_readSign 143 = .ok (.ifCond .le 203, 3) := by decide +kernel
theorem dX2_readSign_146 : decode cX2_readSign 146 = .ok (.aload_n 0, 1) := by decide +kernel
theorem dX2_readSign_147 : decode cX2_readSign 147 = .ok (.dup, 1) := by decide +kernel
theorem dX2_readSign_148 : decode cX2_readSign 148 = .ok (.getfield 27, 3) := by decide +kernel
theorem dX2_readSign_151 : decode cX2_readSign 151 = .ok (.iconst 1, 1) := by decide +kernel
theorem dX2_readSign_152 : decode cX2_readSign 152 = .ok (.isub, 1) := by decide +kernel
theorem dX2_readSign_153 : decode cX2_readSign 153 = .ok (.putfield 27, 3) := by decide +kernel
theorem dX2_readSign_156 : decode cX2_readSign 156 = .ok (.aload_n 0, 1) := by decide +kernel
theorem dX2_readSign_157 : decode cX2_readSign 157 = .ok (.aload_n 0, 1) := by decide +kernel
theorem dX2_readSign_158 : decode cX2_readSign 158 = .ok (.getfield 9, 3) := by decide +kernel
theorem dX2_readSign_161 : decode cX2_readSign 161 = .ok (.aload_n 0, 1) := by decide +kernel
theorem dX2_readSign_162 : decode cX2_readSign 162 = .ok (.getfield 27, 3) := by decide +kernel
theorem dX2_readSign_165 : decode cX2_readSign 165 = .ok (.iconst 1, 1) := by decide +kernel
theorem dX2_readSign_166 : decode cX2_readSign 166 = .ok (.iadd, 1) := by decide +kernel
theorem dX2_readSign_167 : decode cX2_readSign 167 = .ok (.iaload, 1) := by decide +kernel
theorem dX2_readSign_168 : decode cX2_readSign 168 = .ok (.aload_n 0, 1) := by decide +kernel
theorem dX2_readSign_169 : decode cX2_readSign 169 = .ok (.getfield 15, 3) := by decide +kernel
theorem dX2_readSign_172 : decode cX2_readSign 172 = .ok (.aload_n 0, 1) := by decide +kernel
theorem dX2_readSign_173 : decode cX2_readSign 173 = .ok (.getfield 27, 3) := by decide +kernel
theorem dX2_readSign_176 : decode cX2_readSign 176 = .ok (.iconst 1, 1) := by decide +kernel
theorem dX2_readSign_177 : decode cX2_readSign 177 = .ok (.iadd, 1) := by decide +kernel
theorem dX2_readSign_178 : decode cX2_readSign 178 = .ok (.iaload, 1) := by decide +kernel
theorem dX2_readSign_179 : decode cX2_readSign 179 = .ok (.ior, 1) := by decide +kernel
theorem dX2_readSign_180 : decode cX2_readSign 180 = .ok (.invokevirtual 42, 3) := by decide +kernel
theorem dX2_readSign_183 : decode cX2_readSign 183 = .ok (.goto 163, 3) := by decide +kernel
theorem dX2_readSign_186 : decode cX2_readSign 186 = .ok (.aload_n 0, 1) := by decide +kernel
theorem dX2_readSign_187 : decode cX2_readSign 187 = .ok (.getfield 9, 3) := by decide +kernel
theorem dX2_readSign_190 : decode cX2_readSign 190 = .ok (.aload_n 0, 1) := by decide +kernel
theorem dX2_readSign_191 : decode cX2_readSign 191 = .ok (.getfield 27, 3) := by decide +kernel
theorem dX2_readSign_194 : decode cX2_readSign 194 = .ok (.dup2, 1) := by decide +kernel
theorem dX2_readSign_195 : decode cX2_readSign 195 = .ok (.iaload, 1) := by decide +kernel
theorem dX2_readSign_196 : decode cX2_readSign 196 = .ok (.aload_n 0, 1) := by decide +kernel
theorem dX2_readSign_197 : decode cX2_readSign 197 = .ok (.getfield 15, 3) := by decide +kernel
theorem dX2_readSign_200 : decode cX2_readSign 200 = .ok (.aload_n 0, 1) := by decide +kernel
theorem dX2_readSign_201 : decode cX2_readSign 201 = .ok (.getfield 27, 3) := by decide +kernel
theorem dX2_readSign_204 : decode cX2_readSign 204 = .ok (.iaload, 1) := by decide +kernel
theorem dX2_readSign_205 : decode cX2_readSign 205 = .ok (.ior, 1) := by decide +kernel
theorem dX2_readSign_206 : decode cX2_readSign 206 = .ok (.iastore, 1) := by decide +kernel
theorem dX2_readSign_207 : decode cX2_readSign 207 = .ok (.aload_n 0, 1) := by decide +kernel
theorem dX2_readSign_208 : decode cX2_readSign 208 = .ok (.getfield 15, 3) := by decide +kernel
theorem dX2_readSign_211 : decode cX2_readSign 211 = .ok (.aload_n 0, 1) := by decide +kernel
theorem dX2_readSign_212 : decode cX2_readSign 212 = .ok (.getfield 27, 3) := by decide +kernel
theorem dX2_readSign_215 : decode cX2_readSign 215 = .ok (.ldc 41, 2) := by decide +kernel
theorem dX2_readSign_217 : decode cX2_readSign 217 = .ok (.iastore, 1) := by decide +kernel
theorem dX2_readSign_218 : decode cX2_readSign 218 = .ok (.goto 128, 3) := by decide +kernel
theorem dX2_readSign_221 : decode cX2_readSign 221 = .ok (.aload_n 0, 1) := by decide +kernel
theorem dX2_readSign_222 : decode cX2_readSign 222 = .ok (.ldc 41, 2) := by decide +kernel
theorem dX2_readSign_224 : decode cX2_readSign 224 = .ok (.invokevirtual 42, 3) := by decide +kernel
theorem dX2_readSign_227 : decode cX2_readSign 227 = .ok (.goto 119, 3) := by decide +kernel
theorem dX2_readSign_230 : decode cX2_readSign 230 = .ok (.aload_n 0, 1) := by decide +kernel
theorem dX2_readSign_231 : decode cX2_readSign 231 = .ok (.aload_n 3, 1) := by decide +kernel
theorem dX2_readSign_232 : decode cX2_readSign 232 = .ok (.iconst 0, 1) := by decide +kernel
theorem dX2_readSign_233 : decode cX2_readSign 233 = .ok (.aload_n 1, 1) := by decide +kernel
theorem dX2_readSign_234 : decode cX2_readSign 234 = .ok (.iload_n 2, 1) := by decide +kernel
theorem dX2_readSign_235 : decode cX2_readSign 235 = .ok (.iconst 1, 1) := by decide +kernel
theorem dX2_readSign_236 : decode cX2_readSign 236 = .ok (.iadd, 1) := by decide +kernel
theorem dX2_readSign_237 : decode cX2_readSign 237 = .ok (.invokevirtual 37, 3) := by decide +kernel
theorem dX2_readSign_240 : decode cX2_readSign 240 = .ok (.aload_n 1, 1) := by decide +kernel
theorem dX2_readSign_241 : decode cX2_readSign 241 = .ok (.iload_n 2, 1) := by decide +kernel
theorem dX2_readSign_242 : decode cX2_readSign 242 = .ok (.iconst 2, 1) := by decide +kernel
theorem dX2_readSign_243 : decode cX2_readSign 243 = .ok (.iadd, 1) := by decide +kernel
theorem dX2_readSign_244 : decode cX2_readSign 244 = .ok (.invokevirtual 46, 3) := by decide +kernel
theorem dX2_readSign_247 : decode cX2_readSign 247 = .ok (.invokevirtual 49, 3) := by decide +kernel
theorem dX2_readSign_250 : decode cX2_readSign 250 = .ok (.invokevirtual 42, 3) := by decide +kernel
theorem dX2_readSign_253 : decode cX2_readSign 253 = .ok (.goto 93, 3) := by decide +kernel
theorem dX2_readSign_256 : decode cX2_readSign 256 = .ok (.aload_n 0, 1) := by decide +kernel
theorem dX2_readSign_257 : decode cX2_readSign 257 = .ok (.aload_n 3, 1) := by decide +kernel
theorem dX2_readSign_258 : decode cX2_readSign 258 = .ok (.iconst 1, 1) := by decide +kernel
theorem dX2_readSign_259 : decode cX2_readSign 259 = .ok (.aload_n 1, 1) := by decide +kernel
theorem dX2_readSign_260 : decode cX2_readSign 260 = .ok (.iload_n 2, 1) := by decide +kernel
theorem dX2_readSign_261 : decode cX2_readSign 261 = .ok (.iconst 1, 1) := by decide +kernel
theorem dX2_readSign_262 : decode cX2_readSign 262 = .ok (.iadd, 1) := by decide +kernel
theorem dX2_readSign_263 : decode cX2_readSign 263 = .ok (.invokevirtual 37, 3) := by decide +kernel
theorem dX2_readSign_266 : decode cX2_readSign 266 = .ok (.aload_n 1, 1) := by decide +kernel
theorem dX2_readSign_267 : decode cX2_readSign 267 = .ok (.iload_n 2, 1) := by decide +kernel
theorem dX2_readSign_268 : decode cX2_readSign 268 = .ok (.iconst 2, 1) := by decide +kernel
theorem dX2_readSign_269 : decode cX2_readSign 269 = .ok (.iadd, 1) := by decide +kernel
theorem dX2_readSign_270 : decode cX2_readSign 270 = .ok (.invokevirtual 46, 3) := by decide +kernel
theorem dX2_readSign_273 : decode cX2_readSign 273 = .ok (.invokevirtual 49, 3) := by decide +kernel
theorem dX2_readSign_276 : decode cX2_readSign 276 = .ok (.invokevirtual 42, 3) := by decide +kernel
theorem dX2_readSign_279 : decode cX2_readSign 279 = .ok (.goto 67, 3) := by decide +kernel
theorem dX2_readSign_282 : decode cX2_readSign 282 = .ok (.aload_n 0, 1) := by decide +kernel
theorem dX2_readSign_283 : decode cX2_readSign 283 = .ok (.aload_n 3, 1) := by decide +kernel
theorem dX2_readSign_284 : decode cX2_readSign 284 = .ok (.iconst 2, 1) := by decide +kernel
theorem dX2_readSign_285 : decode cX2_readSign 285 = .ok (.aload_n 1, 1) := by decide +kernel
theorem dX2_readSign_286 : decode cX2_readSign 286 = .ok (.iload_n 2, 1) := by decide +kernel
theorem dX2_readSign_287 : decode cX2_readSign 287 = .ok (.iconst 1, 1) := by decide +kernel
theorem dX2_readSign_288 : decode cX2_readSign 288 = .ok (.iadd, 1) := by decide +kernel
theorem dX2_readSign_289 : decode cX2_readSign 289 = .ok (.invokevirtual 37, 3) := by decide +kernel
theorem dX2_readSign_292 : decode cX2_readSign 292 = .ok (.aload_n 1, 1) := by decide +kernel
theorem dX2_readSign_293 : decode cX2_readSign 293 = .ok (.iload_n 2, 1) := by decide +kernel
theorem dX2_readSign_294 : decode cX2_readSign 294 = .ok (.iconst 2, 1) := by decide +kernel
theorem dX2_readSign_295 : decode cX2_readSign 295 = .ok (.iadd, 1) := by decide +kernel
theorem dX2_readSign_296 : decode cX2_readSign 296 = .ok (.invokevirtual 46, 3) := by decide +kernel
theorem dX2_readSign_299 : decode cX2_readSign 299 = .ok (.invokevirtual 49, 3) := by decide +kernel
theorem dX2_readSign_302 : decode cX2_readSign 302 = .ok (.invokevirtual 42, 3) := by decide +kernel
theorem dX2_readSign_305 : decode cX2_readSign 305 = .ok (.goto 41, 3) := by decide +kernel
theorem dX2_readSign_308 : decode cX2_readSign 308 = .ok (.aload_n 0, 1) := by decide +kernel
theorem dX2_readSign_309 : decode cX2_readSign 309 = .ok (.aload_n 3, 1) := by decide +kernel
theorem dX2_readSign_310 : decode cX2_readSign 310 = .ok (.aload_n 1, 1) := by decide +kernel
theorem dX2_readSign_311 : decode cX2_readSign 311 = .ok (.iload_n 2, 1) := by decide +kernel
theorem dX2_readSign_312 : decode cX2_readSign 312 = .ok (.iconst 1, 1) := by decide +kernel
theorem dX2_readSign_313 : decode cX2_readSign 313 = .ok (.iadd, 1) := by decide +kernel
theorem dX2_readSign_314 : decode cX2_readSign 314 = .ok (.invokevirtual 55, 3) := by decide +kernel
theorem dX2_readSign_317 : decode cX2_readSign 317 = .ok (.invokevirtual 58, 3) := by decide +kernel
theorem dX2_readSign_320 : decode cX2_readSign 320 = .ok (.invokevirtual 42, 3) := by decide +kernel
theorem dX2_readSign_323 : decode cX2_readSign 323 = .ok (.goto 23, 3) := by decide +kernel
theorem dX2_readSign_326 : decode cX2_readSign 326 = .ok (.aload_n 0, 1) := by decide +kernel
theorem dX2_readSign_327 : decode cX2_readSign 327 = .ok (.aload_n 0, 1) := by decide +kernel
theorem dX2_readSign_328 : decode cX2_readSign 328 = .ok (.aload_n 1, 1) := by decide +kernel
theorem dX2_readSign_329 : decode cX2_readSign 329 = .ok (.iload_n 2, 1) := by decide +kernel
theorem dX2_readSign_330 : decode cX2_readSign 330 = .ok (.iconst 1, 1) := by decide +kernel
theorem dX2_readSign_331 : decode cX2_readSign 331 = .ok (.iadd, 1) := by decide +kernel
theorem dX2_readSign_332 : decode cX2_readSign 332 = .ok (.invokevirtual 55, 3) := by decide +kernel
theorem dX2_readSign_335 : decode cX2_readSign 335 = .ok (.aload 4, 2) := by decide +kernel
theorem dX2_readSign_337 : decode cX2_readSign 337 = .ok (.invokevirtual 61, 3) := by decide +kernel
theorem dX2_readSign_340 : decode cX2_readSign 340 = .ok (.invokevirtual 42, 3) := by decide +kernel
theorem dX2_readSign_343 : decode cX2_readSign 343 = .ok (.goto 3, 3) := by decide +kernel
theorem dX2_readSign_346 : decode cX2_readSign 346 = .ok (.return_, 1) := by decide +kernel
theorem dX2_beginExpression_0 : decode cX2_beginExpression 0 = .ok (.aload_n 0, 1) := by decide +kernel
theorem dX2_beginExpression_1 : decode cX2_beginExpression 1 = .ok (.getfield 9, 3) := by decide +kernel
theorem dX2_beginExpression_4 : decode cX2_beginExpression 4 = .ok (.aload_n 0, 1) := by decide +kernel
theorem dX2_beginExpression_5 : decode cX2_beginExpression 5 = .ok (.getfield 27, 3) := by decide +kernel
theorem dX2_beginExpression_8 : decode cX2_beginExpression 8 = .ok (.iconst 0, 1) := by decide +kernel
theorem dX2_beginExpression_9 : decode cX2_beginExpression 9 = .ok (.iastore, 1) := by decide +kernel
theorem dX2_beginExpression_10 : decode cX2_beginExpression 10 = .ok (.aload_n 0, 1) := by decide +kernel
theorem dX2_beginExpression_11 : decode cX2_beginExpression 11 = .ok (.getfield 15, 3) := by decide +kernel
theorem dX2_beginExpression_14 : decode cX2_beginExpression 14 = .ok (.aload_n 0, 1) := by decide +kernel
theorem dX2_beginExpression_15 : decode cX2_beginExpression 15 = .ok (.getfield 27, 3) := by decide +kernel
theorem dX2_beginExpression_18 : decode cX2_beginExpression 18 = .ok (.ldc 41, 2) := by decide +kernel
theorem dX2_beginExpression_20 : decode cX2_beginExpression 20 = .ok (.iastore, 1) := by decide +kernel
theorem dX2_beginExpression_21 : decode cX2_beginExpression 21 = .ok (.aload_n 0, 1) := by decide +kernel
theorem dX2_beginExpression_22 : decode cX2_beginExpression 22 = .ok (.getfield 18, 3) := by decide +kernel
theorem dX2_beginExpression_25 : decode cX2_beginExpression 25 = .ok (.aload_n 0, 1) := by decide +kernel
theorem dX2_beginExpression_26 : decode cX2_beginExpression 26 = .ok (.getfield 27, 3) := by decide +kernel
theorem dX2_beginExpression_29 : decode cX2_beginExpression 29 = .ok (.iconst 0, 1) := by decide +kernel
theorem dX2_beginExpression_30 : decode cX2_beginExpression 30 = .ok (.iastore, 1) := by decide +kernel
theorem dX2_beginExpression_31 : decode cX2_beginExpression 31 = .ok (.return_, 1) := by decide +kernel
theorem dX2_addFactor_0 : decode cX2_addFactor 0 = .ok (.aload_n 0, 1) := by decide +kernel
theorem dX2_addFactor_1 : decode cX2_addFactor 1 = .ok (.getfield 15, 3) := by decide +kernel
theorem dX2_addFactor_4 : decode cX2_addFactor 4 = .ok (.aload_n 0, 1) := by decide +kernel
theorem dX2_addFactor_5 : decode cX2_addFactor 5 = .ok (.getfield 27, 3) := by decide +kernel
theorem dX2_addFactor_8 : decode cX2_addFactor 8 = .ok (.dup2, 1) := by decide +kernel
theorem dX2_addFactor_9 : decode cX2_addFactor 9 = .ok (.iaload, 1) := by decide +kernel
theorem dX2_addFactor_10 : decode cX2_addFactor 10 = .ok (.iload_n 1, 1) := by decide +kernel
theorem dX2_addFactor_11 : decode cX2_addFactor 11 = .ok (.aload_n 0, 1) := by decide +kernel
theorem dX2_addFactor_12 : decode cX2_addFactor 12 = .ok (.getfield 18, 3) := by decide +kernel
theorem dX2_addFactor_15 : decode cX2_addFactor 15 = .ok (.aload_n 0, 1) := by decide +kernel
theorem dX2_addFactor_16 : decode cX2_addFactor 16 = .ok (.getfield 27, 3) := by decide +kernel
theorem dX2_addFactor_19 : decode cX2_addFactor 19 = .ok (.iaload, 1) := by decide +kernel
theorem dX2_addFactor_20 : decode cX2_addFactor 20 = .ok (.ixor, 1) := by decide +kernel
theorem dX2_addFactor_21 : decode cX2_addFactor 21 = .ok (.iand, 1) := by decide +kernel
theorem dX2_addFactor_22 : decode cX2_addFactor 22 = .ok (.iastore, 1) := by decide +kernel
theorem dX2_addFactor_23 : decode cX2_addFactor 23 = .ok (.aload_n 0, 1) := by decide +kernel
theorem dX2_addFactor_24 : decode cX2_addFactor 24 = .ok (.getfield 18, 3) := by decide +kernel
theorem dX2_addFactor_27 : decode cX2_addFactor 27 = .ok (.aload_n 0, 1) := by decide +kernel
theorem dX2_addFactor_28 : decode cX2_addFactor 28 = .ok (.getfield 27, 3) := by decide +kernel
theorem dX2_addFactor_31 : decode cX2_addFactor 31 = .ok (.iconst 0, 1) := by decide +kernel
theorem dX2_addFactor_32 : decode cX2_addFactor 32 = .ok (.iastore, 1) := by decide +kernel
theorem dX2_addFactor_33 : decode cX2_addFactor 33 = .ok (.return_, 1) := by decide +kernel
theorem dX2_whoIsIn_0 : decode cX2_whoIsIn 0 = .ok (.iload_n 1, 1) := by decide +kernel
theorem dX2_whoIsIn_1 : decode cX2_whoIsIn 1 = .ok (.ifCond .lt 15, 3) := by decide +kernel
theorem dX2_whoIsIn_4 : decode cX2_whoIsIn 4 = .ok (.iload_n 1, 1) := by decide +kernel
theorem dX2_whoIsIn_5 : decode cX2_whoIsIn 5 = .ok (.bipush 6, 2) := by decide +kernel
theorem dX2_whoIsIn_7 : decode cX2_whoIsIn 7 = .ok (.if_icmp .ge 9, 3) := by decide +kernel
theorem dX2_whoIsIn_10 : decode cX2_whoIsIn 10 = .ok (.aload_n 2, 1) := by decide +kernel
theorem dX2_whoIsIn_11 : decode cX2_whoIsIn 11 = .ok (.iload_n 1, 1) := by decide +kernel
theorem dX2_whoIsIn_12 : decode cX2_whoIsIn 12 = .ok (.iaload, 1) := by decide +kernel
theorem dX2_whoIsIn_13 : decode cX2_whoIsIn 13 = .ok (.goto 4, 3) := by decide +kernel
theorem dX2_whoIsIn_16 : decode cX2_whoIsIn 16 = .ok (.iconst 0, 1) := by decide +kernel
theorem dX2_whoIsIn_17 : decode cX2_whoIsIn 17 = .ok (.ireturn, 1) := by decide +kernel
theorem dX3_init_0 : decode cX3_init 0 = .ok (.aload_n 0, 1) := by decide +kernel
theorem dX3_init_1 : decode cX3_init 1 = .ok (.invokespecial 3, 3) := by decide +kernel
theorem dX3_init_4 : decode cX3_init 4 = .ok (.aload_n 0, 1) := by decide +kernel
theorem dX3_init_5 : decode cX3_init 5 = .ok (.iconst 5, 1) := by decide +kernel
theorem dX3_init_6 : decode cX3_init 6 = .ok (.newarray .int, 2) := by decide +kernel
theorem dX3_init_8 : decode cX3_init 8 = .ok (.putfield 9, 3) := by decide +kernel
theorem dX3_init_11 : decode cX3_init 11 = .ok (.aload_n 0, 1) := by decide +kernel
theorem dX3_init_12 : decode cX3_init 12 = .ok (.iconst 5, 1) := by decide +kernel
theorem dX3_init_13 : decode cX3_init 13 = .ok (.newarray .int, 2) := by decide +kernel
theorem dX3_init_15 : decode cX3_init 15 = .ok (.putfield 15, 3) := by decide +kernel
theorem dX3_init_18 : decode cX3_init 18 = .ok (.return_, 1) := by decide +kernel
theorem dX3_insert_0 : decode cX3_insert 0 = .ok (.iload_n 1, 1) := by decide +kernel
theorem dX3_insert_1 : decode cX3_insert 1 = .ok (.ifCond .lt 19, 3) := by decide +kernel
theorem dX3_insert_4 : decode cX3_insert 4 = .ok (.iload_n 1, 1) := by decide +kernel
theorem dX3_insert_5 : decode cX3_insert 5 = .ok (.aload_n 0, 1) := by decide +kernel
theorem dX3_insert_6 : decode cX3_insert 6 = .ok (.getfield 18, 3) := by decide +kernel
theorem dX3_insert_9 : decode cX3_insert 9 = .ok (.if_icmp .gt 11, 3) := by decide +kernel
theorem dX3_insert_12 : decode cX3_insert 12 = .ok (.aload_n 0, 1) := by decide +kernel
theorem dX3_insert_13 : decode cX3_insert 13 = .ok (.getfield 18, 3) := by decide +kernel
theorem dX3_insert_16 : decode cX3_insert 16 = .ok (.iconst 5, 1) := by decide +kernel
theorem dX3_insert_17 : decode cX3_insert 17 = .ok (.if_icmp .lt 4, 3) := by decide +kernel
theorem dX3_insert_20 : decode cX3_insert 20 = .ok (.return_, 1) := by decide +kernel
theorem dX3_insert_21 : decode cX3_insert 21 = .ok (.aload_n 0, 1) := by decide +kernel
theorem dX3_insert_22 : decode cX3_insert 22 = .ok (.getfield 18, 3) := by decide +kernel
theorem dX3_insert_25 : decode cX3_insert 25 = .ok (.istore 4, 2) := by decide +kernel
theorem dX3_insert_27 : decode cX3_insert 27 = .ok (.iload 4, 2) := by decide +kernel
theorem dX3_insert_29 : decode cX3_insert 29 = .ok (.iload_n 1, 1) := by decide +kernel
theorem dX3_insert_30 : decode cX3_insert 30 = .ok (.if_icmp .le 41, 3) := by decide +kernel
theorem dX3_insert_33 : decode cX3_insert 33 = .ok (.aload_n 0, 1) := by decide +kernel
theorem dX3_insert_34 : decode cX3_insert 34 = .ok (.getfield 9, 3) := by decide +kernel
theorem dX3_insert_37 : decode cX3_insert 37 = .ok (.iload 4, 2) := by decide +kernel
theorem dX3_insert_39 : decode cX3_insert 39 = .ok (.aload_n 0, 1) := by decide +kernel
theorem dX3_insert_40 : decode cX3_insert 40 = .ok (.getfield 9, 3) := by decide +kernel
theorem dX3_insert_43 : decode cX3_insert 43 = .ok (.iload 4, 2) := by decide +kernel
theorem dX3_insert_45 : decode cX3_insert 45 = .ok (.iconst 1, 1) := by decide +kernel
theorem dX3_insert_46 : decode cX3_insert 46 = .ok (.isub, 1) := by decide +kernel
theorem dX3_insert_47 : decode cX3_insert 47 = .ok (.iaload, 1) := by decide +kernel
theorem dX3_insert_48 : decode cX3_insert 48 = .ok (.iastore, 1) := by decide +kernel
theorem dX3_insert_49 : decode cX3_insert 49 = .ok (.aload_n 0, 1) := by decide +kernel
theorem dX3_insert_50 : decode cX3_insert 50 = .ok (.getfield 15, 3) := by decide +kernel
theorem dX3_insert_53 : decode cX3_insert 53 = .ok (.iload 4, 2) := by decide +kernel
theorem dX3_insert_55 : decode cX3_insert 55 = .ok (.aload_n 0, 1) := by decide +kernel
theorem dX3_insert_56 : decode cX3_insert 56 = .ok (.getfield 15, 3) := by decide +kernel
theorem dX3_insert_59 : decode cX3_insert 59 = .ok (.iload 4, 2) := by decide +kernel
theorem dX3_insert_61 : decode cX3_insert 61 = .ok (.iconst 1, 1) := by decide +kernel
theorem dX3_insert_62 : decode cX3_insert 62 = .ok (.isub, 1) := by decide +kernel
theorem dX3_insert_63 : decode cX3_insert 63 = .ok (.iaload, 1) := by decide +kernel
theorem dX3_insert_64 : decode cX3_insert 64 = .ok (.iastore, 1) := by decide +kernel
theorem dX3_insert_65 : decode cX3_insert 65 = .ok (.iinc 4 (-1), 3) := by decide +kernel
theorem dX3_insert_68 : decode cX3_insert 68 = .ok (.goto (-41), 3) := by decide +kernel
theorem dX3_insert_71 : decode cX3_insert 71 = .ok (.aload_n 0, 1) := by decide +kernel
theorem dX3_insert_72 : decode cX3_insert 72 = .ok (.getfield 9, 3) := by decide +kernel
theorem dX3_insert_75 : decode cX3_insert 75 = .ok (.iload_n 1, 1) := by decide +kernel
theorem dX3_insert_76 : decode cX3_insert 76 = .ok (.iload_n 2, 1) := by decide +kernel
theorem dX3_insert_77 : decode cX3_insert 77 = .ok (.iastore, 1) := by decide +kernel
theorem dX3_insert_78 : decode cX3_insert 78 = .ok (.aload_n 0, 1) := by decide +kernel
theorem dX3_insert_79 : decode cX3_insert 79 = .ok (.getfield 15, 3) := by decide +kernel
theorem dX3_insert_82 : decode cX3_insert 82 = .ok (.iload_n 1, 1) := by decide +kernel
theorem dX3_insert_83 : decode cX3_insert 83 = .ok (.iload_n 3, 1) := by decide +kernel
theorem dX3_insert_84 : decode cX3_insert 84 = .ok (.iastore, 1) := by decide +kernel
theorem dX3_insert_85 : decode cX3_insert 85 = .ok (.aload_n 0, 1) := by decide +kernel
theorem dX3_insert_86 : decode cX3_insert 86 = .ok (.dup, 1) := by decide +kernel
theorem dX3_insert_87 : decode cX3_insert 87 = .ok (.getfield 18, 3) := by decide +kernel
theorem dX3_insert_90 : decode cX3_insert 90 = .ok (.iconst 1, 1) := by decide +kernel
theorem dX3_insert_91 : decode cX3_insert 91 = .ok (.iadd, 1) := by decide +kernel
theorem dX3_insert_92 : decode cX3_insert 92 = .ok (.putfield 18, 3) := by decide +kernel
theorem dX3_insert_95 : decode cX3_insert 95 = .ok (.return_, 1) := by decide +kernel
theorem dX3_delete_0 : decode cX3_delete 0 = .ok (.iload_n 1, 1) := by decide +kernel
theorem dX3_delete_1 : decode cX3_delete 1 = .ok (.ifCond .lt 11, 3) := by decide +kernel
theorem dX3_delete_4 : decode cX3_delete 4 = .ok (.iload_n 1, 1) := by decide +kernel
theorem dX3_delete_5 : decode cX3_delete 5 = .ok (.aload_n 0, 1) := by decide +kernel
theorem dX3_delete_6 : decode cX3_delete 6 = .ok (.getfield 18, 3) := by decide +kernel
theorem dX3_delete_9 : decode cX3_delete 9 = .ok (.if_icmp .lt 4, 3) := by decide +kernel
theorem dX3_delete_12 : decode cX3_delete 12 = .ok (.return_, 1) := by decide +kernel
theorem dX3_delete_13 : decode cX3_delete 13 = .ok (.iload_n 1, 1) := by decide +kernel
theorem dX3_delete_14 : decode cX3_delete 14 = .ok (.istore_n 2, 1) := by decide +kernel
theorem dX3_delete_15 : decode cX3_delete 15 = .ok (.iload_n 2, 1) := by decide +kernel
theorem dX3_delete_16 : decode cX3_delete 16 = .ok (.aload_n 0, 1) := by decide +kernel
theorem dX3_delete_17 : decode cX3_delete 17 = .ok (.getfield 18, 3) := by decide +kernel
theorem dX3_delete_20 : decode cX3_delete 20 = .ok (.iconst 1, 1) := by decide +kernel
theorem dX3_delete_21 : decode cX3_delete 21 = .ok (.isub, 1) := by decide +kernel
theorem dX3_delete_22 : decode cX3_delete 22 = .ok (.if_icmp .ge 37, 3) := by decide +kernel
theorem dX3_delete_25 : decode cX3_delete 25 = .ok (.aload_n 0, 1) := by decide +kernel
theorem dX3_delete_26 : decode cX3_delete 26 = .ok (.getfield 9, 3) := by decide +kernel
theorem dX3_delete_29 : decode cX3_delete 29 = .ok (.iload_n 2, 1) := by decide +kernel
theorem dX3_delete_30 : decode cX3_delete 30 = .ok (.aload_n 0, 1) := by decide +kernel
theorem dX3_delete_31 : decode cX3_delete 31 = .ok (.getfield 9, 3) := by decide +kernel
theorem dX3_delete_34 : decode cX3_delete 34 = .ok (.iload_n 2, 1) := by decide +kernel
theorem dX3_delete_35 : decode cX3_delete 35 = .ok (.iconst 1, 1) := by decide +kernel
theorem dX3_delete_36 : decode cX3_delete 36 = .ok (.iadd, 1) := by decide +kernel
theorem dX3_delete_37 : decode cX3_delete 37 = .ok (.iaload, 1) := by decide +kernel
theorem dX3_delete_38 : decode cX3_delete 38 = .ok (.iastore, 1) := by decide +kernel
theorem dX3_delete_39 : decode cX3_delete 39 = .ok (.aload_n 0, 1) := by decide +kernel
theorem dX3_delete_40 : decode cX3_delete 40 = .ok (.getfield 15, 3) := by decide +kernel
theorem dX3_delete_43 : decode cX3_delete 43 = .ok (.iload_n 2, 1) := by decide +kernel
theorem dX3_delete_44 : decode cX3_delete 44 = .ok (.aload_n 0, 1) := by decide +kernel
theorem dX3_delete_45 : decode cX3_delete 45 = .ok (.getfield 15, 3) := by decide +kernel
theorem dX3_delete_48 : decode cX3_delete 48 = .ok (.iload_n 2, 1) := by decide +kernel
theorem dX3_delete_49 : decode cX3_delete 49 = .ok (.iconst 1, 1) := by decide +kernel
theorem dX3_delete_50 : decode cX3_delete 50 = .ok (.iadd, 1) := by decide +kernel
theorem dX3_delete_51 : decode cX3_delete 51 = .ok (.iaload, 1) := by decide +kernel
theorem dX3_delete_52 : decode cX3_delete 52 = .ok (.iastore, 1) := by decide +kernel
theorem dX3_delete_53 : decode cX3_delete 53 = .ok (.iinc 2 1, 3) := by decide +kernel
theorem dX3_delete_56 : decode cX3_delete 56 = .ok (.goto (-41), 3) := by decide +kernel
theorem dX3_delete_59 : decode cX3_delete 59 = .ok (.aload_n 0, 1) := by decide +kernel
theorem dX3_delete_60 : decode cX3_delete 60 = .ok (.dup, 1) := by decide +kernel
theorem dX3_delete_61 : decode cX3_delete 61 = .ok (.getfield 18, 3) := by decide +kernel
theorem dX3_delete_64 : decode cX3_delete 64 = .ok (.iconst 1, 1) := by decide +kernel
theorem dX3_delete_65 : decode cX3_delete 65 = .ok (.isub, 1) := by decide +kernel
theorem dX3_delete_66 : decode cX3_delete 66 = .ok (.putfield 18, 3) := by decide +kernel
theorem dX3_delete_69 : decode cX3_delete 69 = .ok (.return_, 1) := by decide +kernel
theorem dX3_outcomeOf_0 : decode cX3_outcomeOf 0 = .ok (.iload_n 1, 1) := by decide +kernel
theorem dX3_outcomeOf_1 : decode cX3_outcomeOf 1 = .ok (.ifCond .lt 20, 3) := by decide +kernel
theorem dX3_outcomeOf_4 : decode cX3_outcomeOf 4 = .ok (.iload_n 1, 1) := by decide +kernel
theorem dX3_outcomeOf_5 : decode cX3_outcomeOf 5 = .ok (.aload_n 0, 1) := by decide +kernel
theorem dX3_outcomeOf_6 : decode cX3_outcomeOf 6 = .ok (.getfield 18, 3) := by decide +kernel
theorem dX3_outcomeOf_9 : decode cX3_outcomeOf 9 = .ok (.if_icmp .ge 12, 3) := by decide +kernel
theorem dX3_outcomeOf_12 : decode cX3_outcomeOf 12 = .ok (.aload_n 0, 1) := by decide +kernel
theorem dX3_outcomeOf_13 : decode cX3_outcomeOf 13 = .ok (.getfield 15, 3) := by decide +kernel
theorem dX3_outcomeOf_16 : decode cX3_outcomeOf 16 = .ok (.iload_n 1, 1) := by decide +kernel
theorem dX3_outcomeOf_17 : decode cX3_outcomeOf 17 = .ok (.iaload, 1) := by decide +kernel
theorem dX3_outcomeOf_18 : decode cX3_outcomeOf 18 = .ok (.goto 4, 3) := by decide +kernel
theorem dX3_outcomeOf_21 : decode cX3_outcomeOf 21 = .ok (.iconst (-1), 1) := by decide +kernel
theorem dX3_outcomeOf_22 : decode cX3_outcomeOf 22 = .ok (.ireturn, 1) := by decide +kernel
theorem dX3_trialOf_0 : decode cX3_trialOf 0 = .ok (.aload_n 0, 1) := by decide +kernel
theorem dX3_trialOf_1 : decode cX3_trialOf 1 = .ok (.iload_n 1, 1) := by decide +kernel
theorem dX3_trialOf_2 : decode cX3_trialOf 2 = .ok (.invokevirtual 22, 3) := by decide +kernel
theorem dX3_trialOf_5 : decode cX3_trialOf 5 = .ok (.istore_n 2, 1) := by decide +kernel
theorem dX3_trialOf_6 : decode cX3_trialOf 6 = .ok (.iload_n 2, 1) := by decide +kernel
theorem dX3_trialOf_7 : decode cX3_trialOf 7 = .ok (.iconst 4, 1) := by decide +kernel
theorem dX3_trialOf_8 : decode cX3_trialOf 8 = .ok (.if_icmp .lt 9, 3) := by decide +kernel
theorem dX3_trialOf_11 : decode cX3_trialOf 11 = .ok (.iload_n 2, 1) := by decide +kernel
theorem dX3_trialOf_12 : decode cX3_trialOf 12 = .ok (.iconst 4, 1) := by decide +kernel
theorem dX3_trialOf_13 : decode cX3_trialOf 13 = .ok (.isub, 1) := by decide +kernel
theorem dX3_trialOf_14 : decode cX3_trialOf 14 = .ok (.goto 4, 3) := by decide +kernel
theorem dX3_trialOf_17 : decode cX3_trialOf 17 = .ok (.iconst (-1), 1) := by decide +kernel
theorem dX3_trialOf_18 : decode cX3_trialOf 18 = .ok (.ireturn, 1) := by decide +kernel
theorem dX3_decidingRule_0 : decode cX3_decidingRule 0 = .ok (.iconst 0, 1) := by decide +kernel
theorem dX3_decidingRule_1 : decode cX3_decidingRule 1 = .ok (.istore_n 3, 1) := by decide +kernel
theorem dX3_decidingRule_2 : decode cX3_decidingRule 2 = .ok (.iload_n 3, 1) := by decide +kernel
theorem dX3_decidingRule_3 : decode cX3_decidingRule 3 = .ok (.aload_n 0, 1) := by decide +kernel
theorem dX3_decidingRule_4 : decode cX3_decidingRule 4 = .ok (.getfield 18, 3) := by decide +kernel
theorem dX3_decidingRule_7 : decode cX3_decidingRule 7 = .ok (.if_icmp .ge 26, 3) := by decide +kernel
theorem dX3_decidingRule_10 : decode cX3_decidingRule 10 = .ok (.aload_n 2, 1) := by decide +kernel
theorem dX3_decidingRule_11 : decode cX3_decidingRule 11 = .ok (.aload_n 0, 1) := by decide +kernel
theorem dX3_decidingRule_12 : decode cX3_decidingRule 12 = .ok (.getfield 9, 3) := by decide +kernel
theorem dX3_decidingRule_15 : decode cX3_decidingRule 15 = .ok (.iload_n 3, 1) := by decide +kernel
theorem dX3_decidingRule_16 : decode cX3_decidingRule 16 = .ok (.iaload, 1) := by decide +kernel
theorem dX3_decidingRule_17 : decode cX3_decidingRule 17 = .ok (.iaload, 1) := by decide +kernel
theorem dX3_decidingRule_18 : decode cX3_decidingRule 18 = .ok (.iload_n 1, 1) := by decide +kernel
theorem dX3_decidingRule_19 : decode cX3_decidingRule 19 = .ok (.invokestatic 26, 3) := by decide +kernel
theorem dX3_decidingRule_22 : decode cX3_decidingRule 22 = .ok (.ifCond .eq 5, 3) := by decide +kernel
theorem dX3_decidingRule_25 : decode cX3_decidingRule 25 = .ok (.iload_n 3, 1) := by decide +kernel
theorem dX3_decidingRule_26 : decode cX3_decidingRule 26 = .ok (.ireturn, 1) := by decide +kernel
theorem dX3_decidingRule_27 : decode cX3_decidingRule 27 = .ok (.iinc 3 1, 3) := by decide +kernel
theorem dX3_decidingRule_30 : decode cX3_decidingRule 30 = .ok (.goto (-28), 3) := by decide +kernel
theorem dX3_decidingRule_33 : decode cX3_decidingRule 33 = .ok (.iconst (-1), 1) := by decide +kernel
theorem dX3_decidingRule_34 : decode cX3_decidingRule 34 = .ok (.ireturn, 1) := by decide +kernel
theorem dX4_init_0 : decode cX4_init 0 = .ok (.aload_n 0, 1) := by decide +kernel
theorem dX4_init_1 : decode cX4_init 1 = .ok (.invokespecial 1, 3) := by decide +kernel
theorem dX4_init_4 : decode cX4_init 4 = .ok (.aload_n 0, 1) := by decide +kernel
theorem dX4_init_5 : decode cX4_init 5 = .ok (.iload_n 1, 1) := by decide +kernel
theorem dX4_init_6 : decode cX4_init 6 = .ok (.newarray .int, 2) := by decide +kernel
theorem dX4_init_8 : decode cX4_init 8 = .ok (.putfield 7, 3) := by decide +kernel
theorem dX4_init_11 : decode cX4_init 11 = .ok (.aload_n 0, 1) := by decide +kernel
theorem dX4_init_12 : decode cX4_init 12 = .ok (.iload_n 1, 1) := by decide +kernel
theorem dX4_init_13 : decode cX4_init 13 = .ok (.newarray .int, 2) := by decide +kernel
theorem dX4_init_15 : decode cX4_init 15 = .ok (.putfield 13, 3) := by decide +kernel
theorem dX4_init_18 : decode cX4_init 18 = .ok (.aload_n 0, 1) := by decide +kernel
theorem dX4_init_19 : decode cX4_init 19 = .ok (.invokevirtual 16, 3) := by decide +kernel
theorem dX4_init_22 : decode cX4_init 22 = .ok (.return_, 1) := by decide +kernel
theorem dX4_wouldLoop_0 : decode cX4_wouldLoop 0 = .ok (.iload_n 2, 1) := by decide +kernel
theorem dX4_wouldLoop_1 : decode cX4_wouldLoop 1 = .ok (.istore_n 3, 1) := by decide +kernel
theorem dX4_wouldLoop_2 : decode cX4_wouldLoop 2 = .ok (.iconst 0, 1) := by decide +kernel
theorem dX4_wouldLoop_3 : decode cX4_wouldLoop 3 = .ok (.istore 4, 2) := by decide +kernel
theorem dX4_wouldLoop_5 : decode cX4_wouldLoop 5 = .ok (.iload 4, 2) := by decide +kernel
theorem dX4_wouldLoop_7 : decode cX4_wouldLoop 7 = .ok (.aload_n 0, 1) := by decide +kernel
theorem dX4_wouldLoop_8 : decode cX4_wouldLoop 8 = .ok (.getfield 7, 3) := by decide +kernel
theorem dX4_wouldLoop_11 : decode cX4_wouldLoop 11 = .ok (.arraylength, 1) := by decide +kernel
theorem dX4_wouldLoop_12 : decode cX4_wouldLoop 12 = .ok (.if_icmp .ge 51, 3) := by decide +kernel
theorem dX4_wouldLoop_15 : decode cX4_wouldLoop 15 = .ok (.iconst 0, 1) := by decide +kernel
theorem dX4_wouldLoop_16 : decode cX4_wouldLoop 16 = .ok (.istore 5, 2) := by decide +kernel
theorem dX4_wouldLoop_18 : decode cX4_wouldLoop 18 = .ok (.iload 5, 2) := by decide +kernel
theorem dX4_wouldLoop_20 : decode cX4_wouldLoop 20 = .ok (.aload_n 0, 1) := by decide +kernel
theorem dX4_wouldLoop_21 : decode cX4_wouldLoop 21 = .ok (.getfield 7, 3) := by decide +kernel
theorem dX4_wouldLoop_24 : decode cX4_wouldLoop 24 = .ok (.arraylength, 1) := by decide +kernel
theorem dX4_wouldLoop_25 : decode cX4_wouldLoop 25 = .ok (.if_icmp .ge 32, 3) := by decide +kernel
theorem dX4_wouldLoop_28 : decode cX4_wouldLoop 28 = .ok (.iload_n 3, 1) := by decide +kernel
theorem dX4_wouldLoop_29 : decode cX4_wouldLoop 29 = .ok (.iload_n 3, 1) := by decide +kernel
theorem dX4_wouldLoop_30 : decode cX4_wouldLoop 30 = .ok (.iload 5, 2) := by decide +kernel
theorem dX4_wouldLoop_32 : decode cX4_wouldLoop 32 = .ok (.invokestatic 19, 3) := by decide +kernel
theorem dX4_wouldLoop_35 : decode cX4_wouldLoop 35 = .ok (.ifCond .eq 13, 3) := by decide +kernel
theorem dX4_wouldLoop_38 : decode cX4_wouldLoop 38 = .ok (.aload_n 0, 1) := by decide +kernel
theorem dX4_wouldLoop_39 : decode cX4_wouldLoop 39 = .ok (.getfield 7, 3) := by decide +kernel
theorem dX4_wouldLoop_42 : decode cX4_wouldLoop 42 = .ok (.iload 5, 2) := by decide +kernel
theorem dX4_wouldLoop_44 : decode cX4_wouldLoop 44 = .ok (.iaload, 1) := by decide +kernel
theorem dX4_wouldLoop_45 : decode cX4_wouldLoop 45 = .ok (.goto 4, 3) := by decide +kernel
theorem dX4_wouldLoop_48 : decode cX4_wouldLoop 48 = .ok (.iconst 0, 1) := by decide +kernel
theorem dX4_wouldLoop_49 : decode cX4_wouldLoop 49 = .ok (.ior, 1) := by decide +kernel
theorem dX4_wouldLoop_50 : decode cX4_wouldLoop 50 = .ok (.istore_n 3, 1) := by decide +kernel
theorem dX4_wouldLoop_51 : decode cX4_wouldLoop 51 = .ok (.iinc 5 1, 3) := by decide +kernel
theorem dX4_wouldLoop_54 : decode cX4_wouldLoop 54 = .ok (.goto (-36), 3) := by decide +kernel
theorem dX4_wouldLoop_57 : decode cX4_wouldLoop 57 = .ok (.iinc 4 1, 3) := by decide +kernel
theorem dX4_wouldLoop_60 : decode cX4_wouldLoop 60 = .ok (.goto (-55), 3) := by decide +kernel
theorem dX4_wouldLoop_63 : decode cX4_wouldLoop 63 = .ok (.iload_n 3, 1) := by decide +kernel
theorem dX4_wouldLoop_64 : decode cX4_wouldLoop 64 = .ok (.iload_n 1, 1) := by decide +kernel
theorem dX4_wouldLoop_65 : decode cX4_wouldLoop 65 = .ok (.invokestatic 19, 3) := by decide +kernel
theorem dX4_wouldLoop_68 : decode cX4_wouldLoop 68 = .ok (.ireturn, 1) := by decide +kernel
theorem dX4_point_0 : decode cX4_point 0 = .ok (.aload_n 0, 1) := by decide +kernel
theorem dX4_point_1 : decode cX4_point 1 = .ok (.getfield 7, 3) := by decide +kernel
theorem dX4_point_4 : decode cX4_point 4 = .ok (.iload_n 1, 1) := by decide +kernel
theorem dX4_point_5 : decode cX4_point 5 = .ok (.iload_n 2, 1) := by decide +kernel
theorem dX4_point_6 : decode cX4_point 6 = .ok (.iastore, 1) := by decide +kernel
theorem dX4_point_7 : decode cX4_point 7 = .ok (.aload_n 0, 1) := by decide +kernel
theorem dX4_point_8 : decode cX4_point 8 = .ok (.invokevirtual 16, 3) := by decide +kernel
theorem dX4_point_11 : decode cX4_point 11 = .ok (.return_, 1) := by decide +kernel
theorem dX4_arrange_0 : decode cX4_arrange 0 = .ok (.iconst 0, 1) := by decide +kernel
theorem dX4_arrange_1 : decode cX4_arrange 1 = .ok (.istore_n 1, 1) := by decide +kernel
theorem dX4_arrange_2 : decode cX4_arrange 2 = .ok (.iconst 0, 1) := by decide +kernel
theorem dX4_arrange_3 : decode cX4_arrange 3 = .ok (.istore_n 2, 1) := by decide +kernel
theorem dX4_arrange_4 : decode cX4_arrange 4 = .ok (.iload_n 2, 1) := by decide +kernel
theorem dX4_arrange_5 : decode cX4_arrange 5 = .ok (.aload_n 0, 1) := by decide +kernel
theorem dX4_arrange_6 : decode cX4_arrange 6 = .ok (.getfield 7, 3) := by decide +kernel
theorem dX4_arrange_9 : decode cX4_arrange 9 = .ok (.arraylength, 1) := by decide +kernel
theorem dX4_arrange_10 : decode cX4_arrange 10 = .ok (.if_icmp .ge 64, 3) := by decide +kernel
theorem dX4_arrange_13 : decode cX4_arrange 13 = .ok (.iconst 0, 1) := by decide +kernel
theorem dX4_arrange_14 : decode cX4_arrange 14 = .ok (.istore_n 3, 1) := by decide +kernel
theorem dX4_arrange_15 : decode cX4_arrange 15 = .ok (.iload_n 3, 1) := by decide +kernel
theorem dX4_arrange_16 : decode cX4_arrange 16 = .ok (.aload_n 0, 1) := by decide +kernel
theorem dX4_arrange_17 : decode cX4_arrange 17 = .ok (.getfield 7, 3) := by decide +kernel
theorem dX4_arrange_20 : decode cX4_arrange 20 = .ok (.arraylength, 1) := by decide +kernel
theorem dX4_arrange_21 : decode cX4_arrange 21 = .ok (.if_icmp .ge 47, 3) := by decide +kernel
theorem dX4_arrange_24 : decode cX4_arrange 24 = .ok (.iload_n 1, 1) := by decide +kernel
theorem dX4_arrange_25 : decode cX4_arrange 25 = .ok (.iload_n 3, 1) := by decide +kernel
theorem dX4_arrange_26 : decode cX4_arrange 26 = .ok (.invokestatic 19, 3) := by decide +kernel
theorem dX4_arrange_29 : decode cX4_arrange 29 = .ok (.ifCond .ne 33, 3) := by decide +kernel
theorem dX4_arrange_32 : decode cX4_arrange 32 = .ok (.aload_n 0, 1) := by decide +kernel
theorem dX4_arrange_33 : decode cX4_arrange 33 = .ok (.getfield 7, 3) := by decide +kernel
theorem dX4_arrange_36 : decode cX4_arrange 36 = .ok (.iload_n 3, 1) := by decide +kernel
theorem dX4_arrange_37 : decode cX4_arrange 37 = .ok (.iaload, 1) := by decide +kernel
theorem dX4_arrange_38 : decode cX4_arrange 38 = .ok (.iload_n 1, 1) := by decide +kernel
theorem dX4_arrange_39 : decode cX4_arrange 39 = .ok (.iconst (-1), 1) := by decide +kernel
theorem dX4_arrange_40 : decode cX4_arrange 40 = .ok (.ixor, 1) := by decide +kernel
theorem dX4_arrange_41 : decode cX4_arrange 41 = .ok (.iand, 1) := by decide +kernel
theorem dX4_arrange_42 : decode cX4_arrange 42 = .ok (.ifCond .ne 20, 3) := by decide +kernel
theorem dX4_arrange_45 : decode cX4_arrange 45 = .ok (.aload_n 0, 1) := by decide +kernel
theorem dX4_arrange_46 : decode cX4_arrange 46 = .ok (.getfield 13, 3) := by decide +kernel
theorem dX4_arrange_49 : decode cX4_arrange 49 = .ok (.iload_n 1, 1) := by decide +kernel
theorem dX4_arrange_50 : decode cX4_arrange 50 = .ok (.invokestatic 25, 3) := by decide +kernel
theorem dX4_arrange_53 : decode cX4_arrange 53 = .ok (.iload_n 3, 1) := by decide +kernel
theorem dX4_arrange_54 : decode cX4_arrange 54 = .ok (.iastore, 1) := by decide +kernel
theorem dX4_arrange_55 : decode cX4_arrange 55 = .ok (.iload_n 1, 1) := by decide +kernel
theorem dX4_arrange_56 : decode cX4_arrange 56 = .ok (.iload_n 3, 1) := by decide +kernel
theorem dX4_arrange_57 : decode cX4_arrange 57 = .ok (.iconst 1, 1) := by decide +kernel
theorem dX4_arrange_58 : decode cX4_arrange 58 = .ok (.invokestatic 31, 3) := by decide +kernel
theorem dX4_arrange_61 : decode cX4_arrange 61 = .ok (.istore_n 1, 1) := by decide +kernel
theorem dX4_arrange_62 : decode cX4_arrange 62 = .ok (.iinc 3 1, 3) := by decide +kernel
theorem dX4_arrange_65 : decode cX4_arrange 65 = .ok (.goto (-50), 3) := by decide +kernel
theorem dX4_arrange_68 : decode cX4_arrange 68 = .ok (.iinc 2 1, 3) := by decide +kernel
theorem dX4_arrange_71 : decode cX4_arrange 71 = .ok (.goto (-67), 3) := by decide +kernel
theorem dX4_arrange_74 : decode cX4_arrange 74 = .ok (.return_, 1) := by decide +kernel
theorem dX5_init_0 : decode cX5_init 0 = .ok (.aload_n 0, 1) := by decide +kernel
theorem dX5_init_1 : decode cX5_init 1 = .ok (.invokespecial 3, 3) := by decide +kernel
theorem dX5_init_4 : decode cX5_init 4 = .ok (.aload_n 0, 1) := by decide +kernel
theorem dX5_init_5 : decode cX5_init 5 = .ok (.bipush 6, 2) := by decide +kernel
theorem dX5_init_7 : decode cX5_init 7 = .ok (.newarray .int, 2) := by decide +kernel
theorem dX5_init_9 : decode cX5_init 9 = .ok (.putfield 9, 3) := by decide +kernel
theorem dX5_init_12 : decode cX5_init 12 = .ok (.aload_n 0, 1) := by decide +kernel
theorem dX5_init_13 : decode cX5_init 13 = .ok (.bipush 6, 2) := by decide +kernel
theorem dX5_init_15 : decode cX5_init 15 = .ok (.bipush 8, 2) := by decide +kernel
theorem dX5_init_17 : decode cX5_init 17 = .ok (.multianewarray 15 2, 4) := by decide +kernel
theorem dX5_init_21 : decode cX5_init 21 = .ok (.putfield 17, 3) := by decide +kernel
theorem dX5_init_24 : decode cX5_init 24 = .ok (.aload_n 0, 1) := by decide +kernel
theorem dX5_init_25 : decode cX5_init 25 = .ok (.bipush 8, 2) := by decide +kernel
theorem dX5_init_27 : decode cX5_init 27 = .ok (.newarray .int, 2) := by decide +kernel
theorem dX5_init_29 : decode cX5_init 29 = .ok (.putfield 20, 3) := by decide +kernel
theorem dX5_init_32 : decode cX5_init 32 = .ok (.aload_n 0, 1) := by decide +kernel
theorem dX5_init_33 : decode cX5_init 33 = .ok (.bipush 8, 2) := by decide +kernel
theorem dX5_init_35 : decode cX5_init 35 = .ok (.newarray .int, 2) := by decide +kernel
theorem dX5_init_37 : decode cX5_init 37 = .ok (.putfield 23, 3) := by decide +kernel
theorem dX5_init_40 : decode cX5_init 40 = .ok (.aload_n 0, 1) := by decide +kernel
theorem dX5_init_41 : decode cX5_init 41 = .ok (.bipush 8, 2) := by decide +kernel
theorem dX5_init_43 : decode cX5_init 43 = .ok (.newarray .int, 2) := by decide +kernel
theorem dX5_init_45 : decode cX5_init 45 = .ok (.putfield 26, 3) := by decide +kernel
theorem dX5_init_48 : decode cX5_init 48 = .ok (.aload_n 0, 1) := by decide +kernel
theorem dX5_init_49 : decode cX5_init 49 = .ok (.invokevirtual 29, 3) := by decide +kernel
theorem dX5_init_52 : decode cX5_init 52 = .ok (.return_, 1) := by decide +kernel
theorem dX5_forget_0 : decode cX5_forget 0 = .ok (.iconst 0, 1) := by decide +kernel
theorem dX5_forget_1 : decode cX5_forget 1 = .ok (.istore_n 1, 1) := by decide +kernel
theorem dX5_forget_2 : decode cX5_forget 2 = .ok (.iload_n 1, 1) := by decide +kernel
theorem dX5_forget_3 : decode cX5_forget 3 = .ok (.bipush 6, 2) := by decide +kernel
theorem dX5_forget_5 : decode cX5_forget 5 = .ok (.if_icmp .ge 14, 3) := by decide +kernel
theorem dX5_forget_8 : decode cX5_forget 8 = .ok (.aload_n 0, 1) := by decide +kernel
theorem dX5_forget_9 : decode cX5_forget 9 = .ok (.iload_n 1, 1) := by decide +kernel
theorem dX5_forget_10 : decode cX5_forget 10 = .ok (.invokevirtual 32, 3) := by decide +kernel
theorem dX5_forget_13 : decode cX5_forget 13 = .ok (.iinc 1 1, 3) := by decide +kernel
theorem dX5_forget_16 : decode cX5_forget 16 = .ok (.goto (-14), 3) := by decide +kernel
theorem dX5_forget_19 : decode cX5_forget 19 = .ok (.aload_n 0, 1) := by decide +kernel
theorem dX5_forget_20 : decode cX5_forget 20 = .ok (.getfield 20, 3) := by decide +kernel
theorem dX5_forget_23 : decode cX5_forget 23 = .ok (.iconst (-1), 1) := by decide +kernel
theorem dX5_forget_24 : decode cX5_forget 24 = .ok (.invokestatic 36, 3) := by decide +kernel
theorem dX5_forget_27 : decode cX5_forget 27 = .ok (.aload_n 0, 1) := by decide +kernel
theorem dX5_forget_28 : decode cX5_forget 28 = .ok (.getfield 23, 3) := by decide +kernel
theorem dX5_forget_31 : decode cX5_forget 31 = .ok (.iconst 0, 1) := by decide +kernel
theorem dX5_forget_32 : decode cX5_forget 32 = .ok (.invokestatic 36, 3) := by decide +kernel
theorem dX5_forget_35 : decode cX5_forget 35 = .ok (.aload_n 0, 1) := by decide +kernel
theorem dX5_forget_36 : decode cX5_forget 36 = .ok (.getfield 26, 3) := by decide +kernel
theorem dX5_forget_39 : decode cX5_forget 39 = .ok (.iconst 0, 1) := by decide +kernel
theorem dX5_forget_40 : decode cX5_forget 40 = .ok (.invokestatic 36, 3) := by decide +kernel
theorem dX5_forget_43 : decode cX5_forget 43 = .ok (.return_, 1) := by decide +kernel
theorem dX5_take_0 : decode cX5_take 0 = .ok (.aload_n 1, 1) := by decide +kernel
theorem dX5_take_1 : decode cX5_take 1 = .ok (.getfield 42, 3) := by decide +kernel
theorem dX5_take_4 : decode cX5_take 4 = .ok (.tableswitch 135 0 5 #[40, 48, 69, 86, 113, 124], 40) := by decide +kernel
theorem dX5_take_44 : decode cX5_take 44 = .ok (.aload_n 0, 1) := by decide +kernel
theorem dX5_take_45 : decode cX5_take 45 = .ok (.aload_n 1, 1) := by decide +kernel
theorem dX5_take_46 : decode cX5_take 46 = .ok (.invokevirtual 48, 3) := by decide +kernel
theorem dX5_take_49 : decode cX5_take 49 = .ok (.goto 98, 3) := by decide +kernel
theorem dX5_take_52 : decode cX5_take 52 = .ok (.aload_n 0, 1) := by decide +kernel
theorem dX5_take_53 : decode cX5_take 53 = .ok (.aload_n 1, 1) := by decide +kernel
theorem dX5_take_54 : decode cX5_take 54 = .ok (.invokevirtual 48, 3) := by decide +kernel
theorem dX5_take_57 : decode cX5_take 57 = .ok (.aload_n 0, 1) := by decide +kernel
theorem dX5_take_58 : decode cX5_take 58 = .ok (.getfield 9, 3) := by decide +kernel
theorem dX5_take_61 : decode cX5_take 61 = .ok (.aload_n 1, 1) := by decide +kernel
theorem dX5_take_62 : decode cX5_take 62 = .ok (.getfield 52, 3) := by decide +kernel
theorem dX5_take_65 : decode cX5_take 65 = .ok (.aload_n 1, 1) := by decide +kernel
theorem dX5_take_66 : decode cX5_take 66 = .ok (.getfield 55, 3) := by decide +kernel
theorem dX5_take_69 : decode cX5_take 69 = .ok (.iastore, 1) := by decide +kernel
theorem dX5_take_70 : decode cX5_take 70 = .ok (.goto 77, 3) := by decide +kernel
theorem dX5_take_73 : decode cX5_take 73 = .ok (.aload_n 0, 1) := by decide +kernel
theorem dX5_take_74 : decode cX5_take 74 = .ok (.bipush 6, 2) := by decide +kernel
theorem dX5_take_76 : decode cX5_take 76 = .ok (.aload_n 1, 1) := by decide +kernel
theorem dX5_take_77 : decode cX5_take 77 = .ok (.getfield 58, 3) := by decide +kernel
theorem dX5_take_80 : decode cX5_take 80 = .ok (.aload_n 1, 1) := by decide +kernel
theorem dX5_take_81 : decode cX5_take 81 = .ok (.getfield 55, 3) := by decide +kernel
theorem dX5_take_84 : decode cX5_take 84 = .ok (.invokevirtual 61, 3) := by decide +kernel
theorem dX5_take_87 : decode cX5_take 87 = .ok (.goto 60, 3) := by decide +kernel
theorem dX5_take_90 : decode cX5_take 90 = .ok (.aload_n 0, 1) := by decide +kernel
theorem dX5_take_91 : decode cX5_take 91 = .ok (.getfield 23, 3) := by decide +kernel
theorem dX5_take_94 : decode cX5_take 94 = .ok (.aload_n 1, 1) := by decide +kernel
theorem dX5_take_95 : decode cX5_take 95 = .ok (.getfield 58, 3) := by decide +kernel
theorem dX5_take_98 : decode cX5_take 98 = .ok (.aload_n 0, 1) := by decide +kernel
theorem dX5_take_99 : decode cX5_take 99 = .ok (.getfield 23, 3) := by decide +kernel
theorem dX5_take_102 : decode cX5_take 102 = .ok (.aload_n 1, 1) := by decide +kernel
theorem dX5_take_103 : decode cX5_take 103 = .ok (.getfield 58, 3) := by decide +kernel
theorem dX5_take_106 : decode cX5_take 106 = .ok (.iaload, 1) := by decide +kernel
theorem dX5_take_107 : decode cX5_take 107 = .ok (.bipush 6, 2) := by decide +kernel
theorem dX5_take_109 : decode cX5_take 109 = .ok (.iconst 0, 1) := by decide +kernel
theorem dX5_take_110 : decode cX5_take 110 = .ok (.invokestatic 65, 3) := by decide +kernel
theorem dX5_take_113 : decode cX5_take 113 = .ok (.iastore, 1) := by decide +kernel
theorem dX5_take_114 : decode cX5_take 114 = .ok (.goto 33, 3) := by decide +kernel
theorem dX5_take_117 : decode cX5_take 117 = .ok (.aload_n 0, 1) := by decide +kernel
theorem dX5_take_118 : decode cX5_take 118 = .ok (.aload_n 1, 1) := by decide +kernel
theorem dX5_take_119 : decode cX5_take 119 = .ok (.getfield 52, 3) := by decide +kernel
theorem dX5_take_122 : decode cX5_take 122 = .ok (.invokevirtual 69, 3) := by decide +kernel
theorem dX5_take_125 : decode cX5_take 125 = .ok (.goto 22, 3) := by decide +kernel
theorem dX5_take_128 : decode cX5_take 128 = .ok (.aload_n 0, 1) := by decide +kernel
theorem dX5_take_129 : decode cX5_take 129 = .ok (.aload_n 1, 1) := by decide +kernel
theorem dX5_take_130 : decode cX5_take 130 = .ok (.getfield 52, 3) := by decide +kernel
theorem dX5_take_133 : decode cX5_take 133 = .ok (.invokevirtual 72, 3) := by decide +kernel
theorem dX5_take_136 : decode cX5_take 136 = .ok (.goto 11, 3) := by decide +kernel
theorem dX5_take_139 : decode cX5_take 139 = .ok (.aload_n 0, 1) := by decide +kernel
theorem dX5_take_140 : decode cX5_take 140 = .ok (.aload_n 1, 1) := by decide +kernel
theorem dX5_take_141 : decode cX5_take 141 = .ok (.getfield 52, 3) := by decide +kernel
theorem dX5_take_144 : decode cX5_take 144 = .ok (.invokevirtual 32, 3) := by decide +kernel
theorem dX5_take_147 : decode cX5_take 147 = .ok (.return_, 1) := by decide +kernel
theorem dX5_countHeldBy_0 : decode cX5_countHeldBy 0 = .ok (.iconst 0, 1) := by decide +kernel
theorem dX5_countHeldBy_1 : decode cX5_countHeldBy 1 = .ok (.istore_n 2, 1) := by decide +kernel
theorem dX5_countHeldBy_2 : decode cX5_countHeldBy 2 = .ok (.iconst 0, 1) := by decide +kernel
theorem dX5_countHeldBy_3 : decode cX5_countHeldBy 3 = .ok (.istore_n 3, 1) := by decide +kernel
theorem dX5_countHeldBy_4 : decode cX5_countHeldBy 4 = .ok (.iload_n 3, 1) := by decide +kernel
theorem dX5_countHeldBy_5 : decode cX5_countHeldBy 5 = .ok (.bipush 8, 2) := by decide +kernel
theorem dX5_countHeldBy_7 : decode cX5_countHeldBy 7 = .ok (.if_icmp .ge 30, 3) := by decide +kernel
theorem dX5_countHeldBy_10 : decode cX5_countHeldBy 10 = .ok (.iload_n 2, 1) := by decide +kernel
theorem dX5_countHeldBy_11 : decode cX5_countHeldBy 11 = .ok (.aload_n 0, 1) := by decide +kernel
theorem dX5_countHeldBy_12 : decode cX5_countHeldBy 12 = .ok (.getfield 23, 3) := by decide +kernel
theorem dX5_countHeldBy_15 : decode cX5_countHeldBy 15 = .ok (.iload_n 3, 1) := by decide +kernel
theorem dX5_countHeldBy_16 : decode cX5_countHeldBy 16 = .ok (.iaload, 1) := by decide +kernel
theorem dX5_countHeldBy_17 : decode cX5_countHeldBy 17 = .ok (.iload_n 1, 1) := by decide +kernel
theorem dX5_countHeldBy_18 : decode cX5_countHeldBy 18 = .ok (.invokestatic 75, 3) := by decide +kernel
theorem dX5_countHeldBy_21 : decode cX5_countHeldBy 21 = .ok (.ifCond .eq 7, 3) := by decide +kernel
theorem dX5_countHeldBy_24 : decode cX5_countHeldBy 24 = .ok (.iconst 1, 1) := by decide +kernel
theorem dX5_countHeldBy_25 : decode cX5_countHeldBy 25 = .ok (.goto 4, 3) := by decide +kernel
theorem dX5_countHeldBy_28 : decode cX5_countHeldBy 28 = .ok (.iconst 0, 1) := by decide +kernel
theorem dX5_countHeldBy_29 : decode cX5_countHeldBy 29 = .ok (.iadd, 1) := by decide +kernel
theorem dX5_countHeldBy_30 : decode cX5_countHeldBy 30 = .ok (.istore_n 2, 1) := by decide +kernel
theorem dX5_countHeldBy_31 : decode cX5_countHeldBy 31 = .ok (.iinc 3 1, 3) := by decide +kernel
theorem dX5_countHeldBy_34 : decode cX5_countHeldBy 34 = .ok (.goto (-30), 3) := by decide +kernel
theorem dX5_countHeldBy_37 : decode cX5_countHeldBy 37 = .ok (.iload_n 2, 1) := by decide +kernel
theorem dX5_countHeldBy_38 : decode cX5_countHeldBy 38 = .ok (.ireturn, 1) := by decide +kernel
theorem dX5_countHeldOnlyBy_0 : decode cX5_countHeldOnlyBy 0 = .ok (.iconst 0, 1) := by decide +kernel
theorem dX5_countHeldOnlyBy_1 : decode cX5_countHeldOnlyBy 1 = .ok (.istore_n 2, 1) := by decide +kernel
theorem dX5_countHeldOnlyBy_2 : decode cX5_countHeldOnlyBy 2 = .ok (.iconst 0, 1) := by decide +kernel
theorem dX5_countHeldOnlyBy_3 : decode cX5_countHeldOnlyBy 3 = .ok (.istore_n 3, 1) := by decide +kernel
theorem dX5_countHeldOnlyBy_4 : decode cX5_countHeldOnlyBy 4 = .ok (.iload_n 3, 1) := by decide +kernel
theorem dX5_countHeldOnlyBy_5 : decode cX5_countHeldOnlyBy 5 = .ok (.bipush 8, 2) := by decide +kernel
theorem dX5_countHeldOnlyBy_7 : decode cX5_countHeldOnlyBy 7 = .ok (.if_icmp .ge 29, 3) := by decide +kernel
theorem dX5_countHeldOnlyBy_10 : decode cX5_countHeldOnlyBy 10 = .ok (.iload_n 2, 1) := by decide +kernel
theorem dX5_countHeldOnlyBy_11 : decode cX5_countHeldOnlyBy 11 = .ok (.aload_n 0, 1) := by decide +kernel
theorem dX5_countHeldOnlyBy_12 : decode cX5_countHeldOnlyBy 12 = .ok (.getfield 23, 3) := by decide +kernel
theorem dX5_countHeldOnlyBy_15 : decode cX5_countHeldOnlyBy 15 = .ok (.iload_n 3, 1) := by decide +kernel
theorem dX5_countHeldOnlyBy_16 : decode cX5_countHeldOnlyBy 16 = .ok (.iaload, 1) := by decide +kernel
theorem dX5_countHeldOnlyBy_17 : decode cX5_countHeldOnlyBy 17 = .ok (.iconst 1, 1) := by decide +kernel
theorem dX5_countHeldOnlyBy_18 : decode cX5_countHeldOnlyBy 18 = .ok (.iload_n 1, 1) := by decide +kernel
theorem dX5_countHeldOnlyBy_19 : decode cX5_countHeldOnlyBy 19 = .ok (.ishl, 1) := by decide +kernel
theorem dX5_countHeldOnlyBy_20 : decode cX5_countHeldOnlyBy 20 = .ok (.if_icmp .ne 7, 3) := by decide +kernel
theorem dX5_countHeldOnlyBy_23 : decode cX5_countHeldOnlyBy 23 = .ok (.iconst 1, 1) := by decide +kernel
theorem dX5_countHeldOnlyBy_24 : decode cX5_countHeldOnlyBy 24 = .ok (.goto 4, 3) := by decide +kernel
theorem dX5_countHeldOnlyBy_27 : decode cX5_countHeldOnlyBy 27 = .ok (.iconst 0, 1) := by decide +kernel
theorem dX5_countHeldOnlyBy_28 : decode cX5_countHeldOnlyBy 28 = .ok (.iadd, 1) := by decide +kernel
theorem dX5_countHeldOnlyBy_29 : decode cX5_countHeldOnlyBy 29 = .ok (.istore_n 2, 1) := by decide +kernel
theorem dX5_countHeldOnlyBy_30 : decode cX5_countHeldOnlyBy 30 = .ok (.iinc 3 1, 3) := by decide +kernel
theorem dX5_countHeldOnlyBy_33 : decode cX5_countHeldOnlyBy 33 = .ok (.goto (-29), 3) := by decide +kernel
theorem dX5_countHeldOnlyBy_36 : decode cX5_countHeldOnlyBy 36 = .ok (.iload_n 2, 1) := by decide +kernel
theorem dX5_countHeldOnlyBy_37 : decode cX5_countHeldOnlyBy 37 = .ok (.ireturn, 1) := by decide +kernel
theorem dX5_noteShowing_0 : decode cX5_noteShowing 0 = .ok (.aload_n 0, 1) := by decide +kernel
theorem dX5_noteShowing_1 : decode cX5_noteShowing 1 = .ok (.getfield 20, 3) := by decide +kernel
theorem dX5_noteShowing_4 : decode cX5_noteShowing 4 = .ok (.aload_n 1, 1) := by decide +kernel
theorem dX5_noteShowing_5 : decode cX5_noteShowing 5 = .ok (.getfield 58, 3) := by decide +kernel
theorem dX5_noteShowing_8 : decode cX5_noteShowing 8 = .ok (.aload_n 1, 1) := by decide +kernel
theorem dX5_noteShowing_9 : decode cX5_noteShowing 9 = .ok (.getfield 55, 3) := by decide +kernel
theorem dX5_noteShowing_12 : decode cX5_noteShowing 12 = .ok (.iastore, 1) := by decide +kernel
theorem dX5_noteShowing_13 : decode cX5_noteShowing 13 = .ok (.aload_n 1, 1) := by decide +kernel
theorem dX5_noteShowing_14 : decode cX5_noteShowing 14 = .ok (.getfield 52, 3) := by decide +kernel
theorem dX5_noteShowing_17 : decode cX5_noteShowing 17 = .ok (.iconst (-1), 1) := by decide +kernel
theorem dX5_noteShowing_18 : decode cX5_noteShowing 18 = .ok (.if_icmp .eq 21, 3) := by decide +kernel
theorem dX5_noteShowing_21 : decode cX5_noteShowing 21 = .ok (.aload_n 0, 1) := by decide +kernel
theorem dX5_noteShowing_22 : decode cX5_noteShowing 22 = .ok (.getfield 17, 3) := by decide +kernel
theorem dX5_noteShowing_25 : decode cX5_noteShowing 25 = .ok (.aload_n 1, 1) := by decide +kernel
theorem dX5_noteShowing_26 : decode cX5_noteShowing 26 = .ok (.getfield 52, 3) := by decide +kernel
theorem dX5_noteShowing_29 : decode cX5_noteShowing 29 = .ok (.aaload, 1) := by decide +kernel
theorem dX5_noteShowing_30 : decode cX5_noteShowing 30 = .ok (.aload_n 1, 1) := by decide +kernel
theorem dX5_noteShowing_31 : decode cX5_noteShowing 31 = .ok (.getfield 58, 3) := by decide +kernel
theorem dX5_noteShowing_34 : decode cX5_noteShowing 34 = .ok (.aload_n 1, 1) := by decide +kernel
theorem dX5_noteShowing_35 : decode cX5_noteShowing 35 = .ok (.getfield 55, 3) := by decide +kernel
theorem dX5_noteShowing_38 : decode cX5_noteShowing 38 = .ok (.iastore, 1) := by decide +kernel
theorem dX5_noteShowing_39 : decode cX5_noteShowing 39 = .ok (.return_, 1) := by decide +kernel
theorem dX5_addHolder_0 : decode cX5_addHolder 0 = .ok (.aload_n 0, 1) := by decide +kernel
theorem dX5_addHolder_1 : decode cX5_addHolder 1 = .ok (.getfield 23, 3) := by decide +kernel
theorem dX5_addHolder_4 : decode cX5_addHolder 4 = .ok (.iload_n 2, 1) := by decide +kernel
theorem dX5_addHolder_5 : decode cX5_addHolder 5 = .ok (.iaload, 1) := by decide +kernel
theorem dX5_addHolder_6 : decode cX5_addHolder 6 = .ok (.ifCond .ne 10, 3) := by decide +kernel
theorem dX5_addHolder_9 : decode cX5_addHolder 9 = .ok (.aload_n 0, 1) := by decide +kernel
theorem dX5_addHolder_10 : decode cX5_addHolder 10 = .ok (.getfield 26, 3) := by decide +kernel
theorem dX5_addHolder_13 : decode cX5_addHolder 13 = .ok (.iload_n 2, 1) := by decide +kernel
theorem dX5_addHolder_14 : decode cX5_addHolder 14 = .ok (.iload_n 3, 1) := by decide +kernel
theorem dX5_addHolder_15 : decode cX5_addHolder 15 = .ok (.iastore, 1) := by decide +kernel
theorem dX5_addHolder_16 : decode cX5_addHolder 16 = .ok (.aload_n 0, 1) := by decide +kernel
theorem dX5_addHolder_17 : decode cX5_addHolder 17 = .ok (.getfield 23, 3) := by decide +kernel
theorem dX5_addHolder_20 : decode cX5_addHolder 20 = .ok (.iload_n 2, 1) := by decide +kernel
theorem dX5_addHolder_21 : decode cX5_addHolder 21 = .ok (.aload_n 0, 1) := by decide +kernel
theorem dX5_addHolder_22 : decode cX5_addHolder 22 = .ok (.getfield 23, 3) := by decide +kernel
theorem dX5_addHolder_25 : decode cX5_addHolder 25 = .ok (.iload_n 2, 1) := by decide +kernel
theorem dX5_addHolder_26 : decode cX5_addHolder 26 = .ok (.iaload, 1) := by decide +kernel
theorem dX5_addHolder_27 : decode cX5_addHolder 27 = .ok (.iload_n 1, 1) := by decide +kernel
theorem dX5_addHolder_28 : decode cX5_addHolder 28 = .ok (.iconst 1, 1) := by decide +kernel
theorem dX5_addHolder_29 : decode cX5_addHolder 29 = .ok (.invokestatic 65, 3) := by decide +kernel
theorem dX5_addHolder_32 : decode cX5_addHolder 32 = .ok (.iastore, 1) := by decide +kernel
theorem dX5_addHolder_33 : decode cX5_addHolder 33 = .ok (.return_, 1) := by decide +kernel
theorem dX5_holdWhatWasShownBy_0 : decode cX5_holdWhatWasShownBy 0 = .ok (.iconst 0, 1) := by decide +kernel
theorem dX5_holdWhatWasShownBy_1 : decode cX5_holdWhatWasShownBy 1 = .ok (.istore_n 2, 1) := by decide +kernel
theorem dX5_holdWhatWasShownBy_2 : decode cX5_holdWhatWasShownBy 2 = .ok (.iload_n 2, 1) := by decide +kernel
theorem dX5_holdWhatWasShownBy_3 : decode cX5_holdWhatWasShownBy 3 = .ok (.bipush 8, 2) := by decide +kernel
theorem dX5_holdWhatWasShownBy_5 : decode cX5_holdWhatWasShownBy 5 = .ok (.if_icmp .ge 35, 3) := by decide +kernel
theorem dX5_holdWhatWasShownBy_8 : decode cX5_holdWhatWasShownBy 8 = .ok (.aload_n 0, 1) := by decide +kernel
theorem dX5_holdWhatWasShownBy_9 : decode cX5_holdWhatWasShownBy 9 = .ok (.getfield 17, 3) := by decide +kernel
theorem dX5_holdWhatWasShownBy_12 : decode cX5_holdWhatWasShownBy 12 = .ok (.iload_n 1, 1) := by decide +kernel
theorem dX5_holdWhatWasShownBy_13 : decode cX5_holdWhatWasShownBy 13 = .ok (.aaload, 1) := by decide +kernel
theorem dX5_holdWhatWasShownBy_14 : decode cX5_holdWhatWasShownBy 14 = .ok (.iload_n 2, 1) := by decide +kernel
theorem dX5_holdWhatWasShownBy_15 : decode cX5_holdWhatWasShownBy 15 = .ok (.iaload, 1) := by decide +kernel
theorem dX5_holdWhatWasShownBy_16 : decode cX5_holdWhatWasShownBy 16 = .ok (.iconst (-1), 1) := by decide +kernel
theorem dX5_holdWhatWasShownBy_17 : decode cX5_holdWhatWasShownBy 17 = .ok (.if_icmp .eq 17, 3) := by decide +kernel
theorem dX5_holdWhatWasShownBy_20 : decode cX5_holdWhatWasShownBy 20 = .ok (.aload_n 0, 1) := by decide +kernel
theorem dX5_holdWhatWasShownBy_21 : decode cX5_holdWhatWasShownBy 21 = .ok (.iload_n 1, 1) := by decide +kernel
theorem dX5_holdWhatWasShownBy_22 : decode cX5_holdWhatWasShownBy 22 = .ok (.iload_n 2, 1) := by decide +kernel
theorem dX5_holdWhatWasShownBy_23 : decode cX5_holdWhatWasShownBy 23 = .ok (.aload_n 0, 1) := by decide +kernel
theorem dX5_holdWhatWasShownBy_24 : decode cX5_holdWhatWasShownBy 24 = .ok (.getfield 17, 3) := by decide +kernel
theorem dX5_holdWhatWasShownBy_27 : decode cX5_holdWhatWasShownBy 27 = .ok (.iload_n 1, 1) := by decide +kernel
theorem dX5_holdWhatWasShownBy_28 : decode cX5_holdWhatWasShownBy 28 = .ok (.aaload, 1) := by decide +kernel
theorem dX5_holdWhatWasShownBy_29 : decode cX5_holdWhatWasShownBy 29 = .ok (.iload_n 2, 1) := by decide +kernel
theorem dX5_holdWhatWasShownBy_30 : decode cX5_holdWhatWasShownBy 30 = .ok (.iaload, 1) := by decide +kernel
theorem dX5_holdWhatWasShownBy_31 : decode cX5_holdWhatWasShownBy 31 = .ok (.invokevirtual 61, 3) := by decide +kernel
theorem dX5_holdWhatWasShownBy_34 : decode cX5_holdWhatWasShownBy 34 = .ok (.iinc 2 1, 3) := by decide +kernel
theorem dX5_holdWhatWasShownBy_37 : decode cX5_holdWhatWasShownBy 37 = .ok (.goto (-35), 3) := by decide +kernel
theorem dX5_holdWhatWasShownBy_40 : decode cX5_holdWhatWasShownBy 40 = .ok (.return_, 1) := by decide +kernel
theorem dX5_releaseAllOf_0 : decode cX5_releaseAllOf 0 = .ok (.iconst 0, 1) := by decide +kernel
theorem dX5_releaseAllOf_1 : decode cX5_releaseAllOf 1 = .ok (.istore_n 2, 1) := by decide +kernel
theorem dX5_releaseAllOf_2 : decode cX5_releaseAllOf 2 = .ok (.iload_n 2, 1) := by decide +kernel
theorem dX5_releaseAllOf_3 : decode cX5_releaseAllOf 3 = .ok (.bipush 8, 2) := by decide +kernel
theorem dX5_releaseAllOf_5 : decode cX5_releaseAllOf 5 = .ok (.if_icmp .ge 26, 3) := by decide +kernel
theorem dX5_releaseAllOf_8 : decode cX5_releaseAllOf 8 = .ok (.aload_n 0, 1) := by decide +kernel
theorem dX5_releaseAllOf_9 : decode cX5_releaseAllOf 9 = .ok (.getfield 23, 3) := by decide +kernel
theorem dX5_releaseAllOf_12 : decode cX5_releaseAllOf 12 = .ok (.iload_n 2, 1) := by decide +kernel
theorem dX5_releaseAllOf_13 : decode cX5_releaseAllOf 13 = .ok (.aload_n 0, 1) := by decide +kernel
theorem dX5_releaseAllOf_14 : decode cX5_releaseAllOf 14 = .ok (.getfield 23, 3) := by decide +kernel
theorem dX5_releaseAllOf_17 : decode cX5_releaseAllOf 17 = .ok (.iload_n 2, 1) := by decide +kernel
theorem dX5_releaseAllOf_18 : decode cX5_releaseAllOf 18 = .ok (.iaload, 1) := by decide +kernel
theorem dX5_releaseAllOf_19 : decode cX5_releaseAllOf 19 = .ok (.iload_n 1, 1) := by decide +kernel
theorem dX5_releaseAllOf_20 : decode cX5_releaseAllOf 20 = .ok (.iconst 0, 1) := by decide +kernel
theorem dX5_releaseAllOf_21 : decode cX5_releaseAllOf 21 = .ok (.invokestatic 65, 3) := by decide +kernel
theorem dX5_releaseAllOf_24 : decode cX5_releaseAllOf 24 = .ok (.iastore, 1) := by decide +kernel
theorem dX5_releaseAllOf_25 : decode cX5_releaseAllOf 25 = .ok (.iinc 2 1, 3) := by decide +kernel
theorem dX5_releaseAllOf_28 : decode cX5_releaseAllOf 28 = .ok (.goto (-26), 3) := by decide +kernel
theorem dX5_releaseAllOf_31 : decode cX5_releaseAllOf 31 = .ok (.return_, 1) := by decide +kernel
theorem dX5_forgetTrial_0 : decode cX5_forgetTrial 0 = .ok (.aload_n 0, 1) := by decide +kernel
theorem dX5_forgetTrial_1 : decode cX5_forgetTrial 1 = .ok (.getfield 9, 3) := by decide +kernel
theorem dX5_forgetTrial_4 : decode cX5_forgetTrial 4 = .ok (.iload_n 1, 1) := by decide +kernel
theorem dX5_forgetTrial_5 : decode cX5_forgetTrial 5 = .ok (.iconst (-1), 1) := by decide +kernel
theorem dX5_forgetTrial_6 : decode cX5_forgetTrial 6 = .ok (.iastore, 1) := by decide +kernel
theorem dX5_forgetTrial_7 : decode cX5_forgetTrial 7 = .ok (.aload_n 0, 1) := by decide +kernel
theorem dX5_forgetTrial_8 : decode cX5_forgetTrial 8 = .ok (.getfield 17, 3) := by decide +kernel
theorem dX5_forgetTrial_11 : decode cX5_forgetTrial 11 = .ok (.iload_n 1, 1) := by decide +kernel
theorem dX5_forgetTrial_12 : decode cX5_forgetTrial 12 = .ok (.aaload, 1) := by decide +kernel
theorem dX5_forgetTrial_13 : decode cX5_forgetTrial 13 = .ok (.iconst (-1), 1) := by decide +kernel
theorem dX5_forgetTrial_14 : decode cX5_forgetTrial 14 = .ok (.invokestatic 36, 3) := by decide +kernel
theorem dX5_forgetTrial_17 : decode cX5_forgetTrial 17 = .ok (.return_, 1) := by decide +kernel
theorem dX6_init_0 : decode cX6_init 0 = .ok (.aload_n 0, 1) := by decide +kernel
theorem dX6_init_1 : decode cX6_init 1 = .ok (.invokespecial 3, 3) := by decide +kernel
theorem dX6_init_4 : decode cX6_init 4 = .ok (.aload_n 0, 1) := by decide +kernel
theorem dX6_init_5 : decode cX6_init 5 = .ok (.bipush 20, 2) := by decide +kernel
theorem dX6_init_7 : decode cX6_init 7 = .ok (.iconst 3, 1) := by decide +kernel
theorem dX6_init_8 : decode cX6_init 8 = .ok (.multianewarray 9 2, 4) := by decide +kernel
theorem dX6_init_12 : decode cX6_init 12 = .ok (.putfield 11, 3) := by decide +kernel
theorem dX6_init_15 : decode cX6_init 15 = .ok (.aload_n 0, 1) := by decide +kernel
theorem dX6_init_16 : decode cX6_init 16 = .ok (.bipush 20, 2) := by decide +kernel
theorem dX6_init_18 : decode cX6_init 18 = .ok (.newarray .int, 2) := by decide +kernel
theorem dX6_init_20 : decode cX6_init 20 = .ok (.putfield 16, 3) := by decide +kernel
theorem dX6_init_23 : decode cX6_init 23 = .ok (.return_, 1) := by decide +kernel
theorem dX6_whoCompares_0 : decode cX6_whoCompares 0 = .ok (.iconst 0, 1) := by decide +kernel
theorem dX6_whoCompares_1 : decode cX6_whoCompares 1 = .ok (.istore 4, 2) := by decide +kernel
theorem dX6_whoCompares_3 : decode cX6_whoCompares 3 = .ok (.iconst 0, 1) := by decide +kernel
theorem dX6_whoCompares_4 : decode cX6_whoCompares 4 = .ok (.istore 5, 2) := by decide +kernel
theorem dX6_whoCompares_6 : decode cX6_whoCompares 6 = .ok (.iload 5, 2) := by decide +kernel
theorem dX6_whoCompares_8 : decode cX6_whoCompares 8 = .ok (.bipush 20, 2) := by decide +kernel
theorem dX6_whoCompares_10 : decode cX6_whoCompares 10 = .ok (.if_icmp .ge 84, 3) := by decide +kernel
theorem dX6_whoCompares_13 : decode cX6_whoCompares 13 = .ok (.aload_n 0, 1) := by decide +kernel
theorem dX6_whoCompares_14 : decode cX6_whoCompares 14 = .ok (.getfield 11, 3) := by decide +kernel
theorem dX6_whoCompares_17 : decode cX6_whoCompares 17 = .ok (.iload 5, 2) := by decide +kernel
theorem dX6_whoCompares_19 : decode cX6_whoCompares 19 = .ok (.aaload, 1) := by decide +kernel
theorem dX6_whoCompares_20 : decode cX6_whoCompares 20 = .ok (.iload_n 1, 1) := by decide +kernel
theorem dX6_whoCompares_21 : decode cX6_whoCompares 21 = .ok (.iaload, 1) := by decide +kernel
theorem dX6_whoCompares_22 : decode cX6_whoCompares 22 = .ok (.istore 6, 2) := by decide +kernel
theorem dX6_whoCompares_24 : decode cX6_whoCompares 24 = .ok (.iload_n 2, 1) := by decide +kernel
theorem dX6_whoCompares_25 : decode cX6_whoCompares 25 = .ok (.bipush 61, 2) := by decide +kernel
theorem dX6_whoCompares_27 : decode cX6_whoCompares 27 = .ok (.if_icmp .ne 17, 3) := by decide +kernel
theorem dX6_whoCompares_30 : decode cX6_whoCompares 30 = .ok (.iload 6, 2) := by decide +kernel
theorem dX6_whoCompares_32 : decode cX6_whoCompares 32 = .ok (.iload_n 3, 1) := by decide +kernel
theorem dX6_whoCompares_33 : decode cX6_whoCompares 33 = .ok (.if_icmp .ne 7, 3) := by decide +kernel
theorem dX6_whoCompares_36 : decode cX6_whoCompares 36 = .ok (.iconst 1, 1) := by decide +kernel
theorem dX6_whoCompares_37 : decode cX6_whoCompares 37 = .ok (.goto 38, 3) := by decide +kernel
theorem dX6_whoCompares_40 : decode cX6_whoCompares 40 = .ok (.iconst 0, 1) := by decide +kernel
theorem dX6_whoCompares_41 : decode cX6_whoCompares 41 = .ok (.goto 34, 3) := by decide +kernel
theorem dX6_whoCompares_44 : decode cX6_whoCompares 44 = .ok (.iload_n 2, 1) := by decide +kernel
theorem dX6_whoCompares_45 : decode cX6_whoCompares 45 = .ok (.bipush 60, 2) := by decide +kernel
theorem dX6_whoCompares_47 : decode cX6_whoCompares 47 = .ok (.if_icmp .ne 17, 3) := by decide +kernel
theorem dX6_whoCompares_50 : decode cX6_whoCompares 50 = .ok (.iload 6, 2) := by decide +kernel
theorem dX6_whoCompares_52 : decode cX6_whoCompares 52 = .ok (.iload_n 3, 1) := by decide +kernel
theorem dX6_whoCompares_53 : decode cX6_whoCompares 53 = .ok (.if_icmp .ge 7, 3) := by decide +kernel
theorem dX6_whoCompares_56 : decode cX6_whoCompares 56 = .ok (.iconst 1, 1) := by decide +kernel
theorem dX6_whoCompares_57 : decode cX6_whoCompares 57 = .ok (.goto 18, 3) := by decide +kernel
theorem dX6_whoCompares_60 : decode cX6_whoCompares 60 = .ok (.iconst 0, 1) := by decide +kernel
theorem dX6_whoCompares_61 : decode cX6_whoCompares 61 = .ok (.goto 14, 3) := by decide +kernel
theorem dX6_whoCompares_64 : decode cX6_whoCompares 64 = .ok (.iload 6, 2) := by decide +kernel
theorem dX6_whoCompares_66 : decode cX6_whoCompares 66 = .ok (.iload_n 3, 1) := by decide +kernel
theorem dX6_whoCompares_67 : decode cX6_whoCompares 67 = .ok (.if_icmp .le 7, 3) := by decide +kernel
theorem dX6_whoCompares_70 : decode cX6_whoCompares 70 = .ok (.iconst 1, 1) := by decide +kernel
theorem dX6_whoCompares_71 : decode cX6_whoCompares 71 = .ok (.goto 4, 3) := by decide +kernel
theorem dX6_whoCompares_74 : decode cX6_whoCompares 74 = .ok (.iconst 0, 1) := by decide +kernel
theorem dX6_whoCompares_75 : decode cX6_whoCompares 75 = .ok (.istore 7, 2) := by decide +kernel
theorem dX6_whoCompares_77 : decode cX6_whoCompares 77 = .ok (.iload 4, 2) := by decide +kernel
theorem dX6_whoCompares_79 : decode cX6_whoCompares 79 = .ok (.iload 5, 2) := by decide +kernel
theorem dX6_whoCompares_81 : decode cX6_whoCompares 81 = .ok (.iload 7, 2) := by decide +kernel
theorem dX6_whoCompares_83 : decode cX6_whoCompares 83 = .ok (.invokestatic 20, 3) := by decide +kernel
theorem dX6_whoCompares_86 : decode cX6_whoCompares 86 = .ok (.istore 4, 2) := by decide +kernel
theorem dX6_whoCompares_88 : decode cX6_whoCompares 88 = .ok (.iinc 5 1, 3) := by decide +kernel
theorem dX6_whoCompares_91 : decode cX6_whoCompares 91 = .ok (.goto (-85), 3) := by decide +kernel
theorem dX6_whoCompares_94 : decode cX6_whoCompares 94 = .ok (.iload 4, 2) := by decide +kernel
theorem dX6_whoCompares_96 : decode cX6_whoCompares 96 = .ok (.ireturn, 1) := by decide +kernel
theorem dX6_whoHasTag_0 : decode cX6_whoHasTag 0 = .ok (.iconst 0, 1) := by decide +kernel
theorem dX6_whoHasTag_1 : decode cX6_whoHasTag 1 = .ok (.istore_n 2, 1) := by decide +kernel
theorem dX6_whoHasTag_2 : decode cX6_whoHasTag 2 = .ok (.iconst 0, 1) := by decide +kernel
theorem dX6_whoHasTag_3 : decode cX6_whoHasTag 3 = .ok (.istore_n 3, 1) := by decide +kernel
theorem dX6_whoHasTag_4 : decode cX6_whoHasTag 4 = .ok (.iload_n 3, 1) := by decide +kernel
theorem dX6_whoHasTag_5 : decode cX6_whoHasTag 5 = .ok (.bipush 20, 2) := by decide +kernel
theorem dX6_whoHasTag_7 : decode cX6_whoHasTag 7 = .ok (.if_icmp .ge 25, 3) := by decide +kernel
theorem dX6_whoHasTag_10 : decode cX6_whoHasTag 10 = .ok (.iload_n 2, 1) := by decide +kernel
theorem dX6_whoHasTag_11 : decode cX6_whoHasTag 11 = .ok (.iload_n 3, 1) := by decide +kernel
theorem dX6_whoHasTag_12 : decode cX6_whoHasTag 12 = .ok (.aload_n 0, 1) := by decide +kernel
theorem dX6_whoHasTag_13 : decode cX6_whoHasTag 13 = .ok (.getfield 16, 3) := by decide +kernel
theorem dX6_whoHasTag_16 : decode cX6_whoHasTag 16 = .ok (.iload_n 3, 1) := by decide +kernel
theorem dX6_whoHasTag_17 : decode cX6_whoHasTag 17 = .ok (.iaload, 1) := by decide +kernel
theorem dX6_whoHasTag_18 : decode cX6_whoHasTag 18 = .ok (.iload_n 1, 1) := by decide +kernel
theorem dX6_whoHasTag_19 : decode cX6_whoHasTag 19 = .ok (.invokestatic 24, 3) := by decide +kernel
theorem dX6_whoHasTag_22 : decode cX6_whoHasTag 22 = .ok (.invokestatic 20, 3) := by decide +kernel
theorem dX6_whoHasTag_25 : decode cX6_whoHasTag 25 = .ok (.istore_n 2, 1) := by decide +kernel
theorem dX6_whoHasTag_26 : decode cX6_whoHasTag 26 = .ok (.iinc 3 1, 3) := by decide +kernel
theorem dX6_whoHasTag_29 : decode cX6_whoHasTag 29 = .ok (.goto (-25), 3) := by decide +kernel
theorem dX6_whoHasTag_32 : decode cX6_whoHasTag 32 = .ok (.iload_n 2, 1) := by decide +kernel
theorem dX6_whoHasTag_33 : decode cX6_whoHasTag 33 = .ok (.ireturn, 1) := by decide +kernel
theorem dX7_init_0 : decode cX7_init 0 = .ok (.aload_n 0, 1) := by decide +kernel
theorem dX7_init_1 : decode cX7_init 1 = .ok (.invokespecial 3, 3) := by decide +kernel
theorem dX7_init_4 : decode cX7_init 4 = .ok (.return_, 1) := by decide +kernel
theorem dX7_findFault_0 : decode cX7_findFault 0 = .ok (.aload_n 0, 1) := by decide +kernel
theorem dX7_findFault_1 : decode cX7_findFault 1 = .ok (.iconst 0, 1) := by decide +kernel
theorem dX7_findFault_2 : decode cX7_findFault 2 = .ok (.putfield 11, 3) := by decide +kernel
theorem dX7_findFault_5 : decode cX7_findFault 5 = .ok (.aload_n 0, 1) := by decide +kernel
theorem dX7_findFault_6 : decode cX7_findFault 6 = .ok (.iconst 0, 1) := by decide +kernel
theorem dX7_findFault_7 : decode cX7_findFault 7 = .ok (.putfield 15, 3) := by decide +kernel
theorem dX7_findFault_10 : decode cX7_findFault 10 = .ok (.iconst 0, 1) := by decide +kernel
theorem dX7_findFault_11 : decode cX7_findFault 11 = .ok (.istore_n 2, 1) := by decide +kernel
theorem dX7_findFault_12 : decode cX7_findFault 12 = .ok (.iload_n 2, 1) := by decide +kernel
theorem dX7_findFault_13 : decode cX7_findFault 13 = .ok (.aload_n 1, 1) := by decide +kernel
theorem dX7_findFault_14 : decode cX7_findFault 14 = .ok (.getfield 18, 3) := by decide +kernel
theorem dX7_findFault_17 : decode cX7_findFault 17 = .ok (.if_icmp .ge 32, 3) := by decide +kernel
theorem dX7_findFault_20 : decode cX7_findFault 20 = .ok (.aload_n 0, 1) := by decide +kernel
theorem dX7_findFault_21 : decode cX7_findFault 21 = .ok (.aload_n 0, 1) := by decide +kernel
theorem dX7_findFault_22 : decode cX7_findFault 22 = .ok (.aload_n 1, 1) := by decide +kernel
theorem dX7_findFault_23 : decode cX7_findFault 23 = .ok (.iload_n 2, 1) := by decide +kernel
theorem dX7_findFault_24 : decode cX7_findFault 24 = .ok (.invokevirtual 23, 3) := by decide +kernel
theorem dX7_findFault_27 : decode cX7_findFault 27 = .ok (.invokevirtual 27, 3) := by decide +kernel
theorem dX7_findFault_30 : decode cX7_findFault 30 = .ok (.putfield 11, 3) := by decide +kernel
theorem dX7_findFault_33 : decode cX7_findFault 33 = .ok (.aload_n 0, 1) := by decide +kernel
theorem dX7_findFault_34 : decode cX7_findFault 34 = .ok (.getfield 11, 3) := by decide +kernel
theorem dX7_findFault_37 : decode cX7_findFault 37 = .ok (.iconst (-1), 1) := by decide +kernel
theorem dX7_findFault_38 : decode cX7_findFault 38 = .ok (.if_icmp .ne 5, 3) := by decide +kernel
theorem dX7_findFault_41 : decode cX7_findFault 41 = .ok (.iload_n 2, 1) := by decide +kernel
theorem dX7_findFault_42 : decode cX7_findFault 42 = .ok (.ireturn, 1) := by decide +kernel
theorem dX7_findFault_43 : decode cX7_findFault 43 = .ok (.iinc 2 1, 3) := by decide +kernel
theorem dX7_findFault_46 : decode cX7_findFault 46 = .ok (.goto (-34), 3) := by decide +kernel
theorem dX7_findFault_49 : decode cX7_findFault 49 = .ok (.aload_n 0, 1) := by decide +kernel
theorem dX7_findFault_50 : decode cX7_findFault 50 = .ok (.getfield 15, 3) := by decide +kernel
theorem dX7_findFault_53 : decode cX7_findFault 53 = .ok (.ifCond .ne 24, 3) := by decide +kernel
theorem dX7_findFault_56 : decode cX7_findFault 56 = .ok (.aload_n 0, 1) := by decide +kernel
theorem dX7_findFault_57 : decode cX7_findFault 57 = .ok (.getfield 11, 3) := by decide +kernel
theorem dX7_findFault_60 : decode cX7_findFault 60 = .ok (.bipush 6, 2) := by decide +kernel
theorem dX7_findFault_62 : decode cX7_findFault 62 = .ok (.if_icmp .eq 11, 3) := by decide +kernel
theorem dX7_findFault_65 : decode cX7_findFault 65 = .ok (.aload_n 0, 1) := by decide +kernel
theorem dX7_findFault_66 : decode cX7_findFault 66 = .ok (.getfield 11, 3) := by decide +kernel
theorem dX7_findFault_69 : decode cX7_findFault 69 = .ok (.iconst 3, 1) := by decide +kernel
theorem dX7_findFault_70 : decode cX7_findFault 70 = .ok (.if_icmp .ne 7, 3) := by decide +kernel
theorem dX7_findFault_73 : decode cX7_findFault 73 = .ok (.iconst 1, 1) := by decide +kernel
theorem dX7_findFault_74 : decode cX7_findFault 74 = .ok (.goto 4, 3) := by decide +kernel
theorem dX7_findFault_77 : decode cX7_findFault 77 = .ok (.iconst 0, 1) := by decide +kernel
theorem dX7_findFault_78 : decode cX7_findFault 78 = .ok (.istore_n 2, 1) := by decide +kernel
theorem dX7_findFault_79 : decode cX7_findFault 79 = .ok (.iload_n 2, 1) := by decide +kernel
theorem dX7_findFault_80 : decode cX7_findFault 80 = .ok (.ifCond .eq 7, 3) := by decide +kernel
theorem dX7_findFault_83 : decode cX7_findFault 83 = .ok (.iconst (-1), 1) := by decide +kernel
theorem dX7_findFault_84 : decode cX7_findFault 84 = .ok (.goto 7, 3) := by decide +kernel
theorem dX7_findFault_87 : decode cX7_findFault 87 = .ok (.aload_n 1, 1) := by decide +kernel
theorem dX7_findFault_88 : decode cX7_findFault 88 = .ok (.getfield 18, 3) := by decide +kernel
theorem dX7_findFault_91 : decode cX7_findFault 91 = .ok (.ireturn, 1) := by decide +kernel
theorem dX7_stateAfter_0 : decode cX7_stateAfter 0 = .ok (.aload_n 0, 1) := by decide +kernel
theorem dX7_stateAfter_1 : decode cX7_stateAfter 1 = .ok (.getfield 11, 3) := by decide +kernel
theorem dX7_stateAfter_4 : decode cX7_stateAfter 4 = .ok (.tableswitch 149 0 5 #[40, 46, 70, 88, 111, 130], 40) := by decide +kernel
theorem dX7_stateAfter_44 : decode cX7_stateAfter 44 = .ok (.aload_n 0, 1) := by decide +kernel
theorem dX7_stateAfter_45 : decode cX7_stateAfter 45 = .ok (.iload_n 1, 1) := by decide +kernel
theorem dX7_stateAfter_46 : decode cX7_stateAfter 46 = .ok (.invokevirtual 30, 3) := by decide +kernel
theorem dX7_stateAfter_49 : decode cX7_stateAfter 49 = .ok (.ireturn, 1) := by decide +kernel
theorem dX7_stateAfter_50 : decode cX7_stateAfter 50 = .ok (.iload_n 1, 1) := by decide +kernel
theorem dX7_stateAfter_51 : decode cX7_stateAfter 51 = .ok (.bipush 61, 2) := by decide +kernel
theorem dX7_stateAfter_53 : decode cX7_stateAfter 53 = .ok (.if_icmp .eq 15, 3) := by decide +kernel
theorem dX7_stateAfter_56 : decode cX7_stateAfter 56 = .ok (.iload_n 1, 1) := by decide +kernel
theorem dX7_stateAfter_57 : decode cX7_stateAfter 57 = .ok (.bipush 60, 2) := by decide +kernel
theorem dX7_stateAfter_59 : decode cX7_stateAfter 59 = .ok (.if_icmp .eq 9, 3) := by decide +kernel
theorem dX7_stateAfter_62 : decode cX7_stateAfter 62 = .ok (.iload_n 1, 1) := by decide +kernel
theorem dX7_stateAfter_63 : decode cX7_stateAfter 63 = .ok (.bipush 62, 2) := by decide +kernel
theorem dX7_stateAfter_65 : decode cX7_stateAfter 65 = .ok (.if_icmp .ne 7, 3) := by decide +kernel
theorem dX7_stateAfter_68 : decode cX7_stateAfter 68 = .ok (.iconst 2, 1) := by decide +kernel
theorem dX7_stateAfter_69 : decode cX7_stateAfter 69 = .ok (.goto 4, 3) := by decide +kernel
theorem dX7_stateAfter_72 : decode cX7_stateAfter 72 = .ok (.iconst (-1), 1) := by decide +kernel
theorem dX7_stateAfter_73 : decode cX7_stateAfter 73 = .ok (.ireturn, 1) := by decide +kernel
theorem dX7_stateAfter_74 : decode cX7_stateAfter 74 = .ok (.iload_n 1, 1) := by decide +kernel
theorem dX7_stateAfter_75 : decode cX7_stateAfter 75 = .ok (.bipush 48, 2) := by decide +kernel
theorem dX7_stateAfter_77 : decode cX7_stateAfter 77 = .ok (.if_icmp .lt 13, 3) := by decide +kernel
theorem dX7_stateAfter_80 : decode cX7_stateAfter 80 = .ok (.iload_n 1, 1) := by decide +kernel
theorem dX7_stateAfter_81 : decode cX7_stateAfter 81 = .ok (.bipush 57, 2) := by decide +kernel
theorem dX7_stateAfter_83 : decode cX7_stateAfter 83 = .ok (.if_icmp .gt 7, 3) := by decide +kernel
theorem dX7_stateAfter_86 : decode cX7_stateAfter 86 = .ok (.iconst 3, 1) := by decide +kernel
theorem dX7_stateAfter_87 : decode cX7_stateAfter 87 = .ok (.goto 4, 3) := by decide +kernel
theorem dX7_stateAfter_90 : decode cX7_stateAfter 90 = .ok (.iconst (-1), 1) := by decide +kernel
theorem dX7_stateAfter_91 : decode cX7_stateAfter 91 = .ok (.ireturn, 1) := by decide +kernel
theorem dX7_stateAfter_92 : decode cX7_stateAfter 92 = .ok (.iload_n 1, 1) := by decide +kernel
theorem dX7_stateAfter_93 : decode cX7_stateAfter 93 = .ok (.bipush 48, 2) := by decide +kernel
theorem dX7_stateAfter_95 : decode cX7_stateAfter 95 = .ok (.if_icmp .lt 14, 3) := by decide +kernel
theorem dX7_stateAfter_98 : decode cX7_stateAfter 98 = .ok (.iload_n 1, 1) := by decide +kernel
theorem dX7_stateAfter_99 : decode cX7_stateAfter 99 = .ok (.bipush 57, 2) := by decide +kernel
theorem dX7_stateAfter_101 : decode cX7_stateAfter 101 = .ok (.if_icmp .gt 8, 3) := by decide +kernel
theorem dX7_stateAfter_104 : decode cX7_stateAfter 104 = .ok (.bipush 6, 2) := by decide +kernel
theorem dX7_stateAfter_106 : decode cX7_stateAfter 106 = .ok (.goto 8, 3) := by decide +kernel
theorem dX7_stateAfter_109 : decode cX7_stateAfter 109 = .ok (.aload_n 0, 1) := by decide +kernel
theorem dX7_stateAfter_110 : decode cX7_stateAfter 110 = .ok (.iload_n 1, 1) := by decide +kernel
theorem dX7_stateAfter_111 : decode cX7_stateAfter 111 = .ok (.invokevirtual 33, 3) := by decide +kernel
theorem dX7_stateAfter_114 : decode cX7_stateAfter 114 = .ok (.ireturn, 1) := by decide +kernel
theorem dX7_stateAfter_115 : decode cX7_stateAfter 115 = .ok (.iload_n 1, 1) := by decide +kernel
theorem dX7_stateAfter_116 : decode cX7_stateAfter 116 = .ok (.bipush 48, 2) := by decide +kernel
theorem dX7_stateAfter_118 : decode cX7_stateAfter 118 = .ok (.if_icmp .lt 14, 3) := by decide +kernel
theorem dX7_stateAfter_121 : decode cX7_stateAfter 121 = .ok (.iload_n 1, 1) := by decide +kernel
theorem dX7_stateAfter_122 : decode cX7_stateAfter 122 = .ok (.bipush 56, 2) := by decide +kernel
theorem dX7_stateAfter_124 : decode cX7_stateAfter 124 = .ok (.if_icmp .ge 8, 3) := by decide +kernel
theorem dX7_stateAfter_127 : decode cX7_stateAfter 127 = .ok (.bipush 6, 2) := by decide +kernel
theorem dX7_stateAfter_129 : decode cX7_stateAfter 129 = .ok (.goto 4, 3) := by decide +kernel
theorem dX7_stateAfter_132 : decode cX7_stateAfter 132 = .ok (.iconst (-1), 1) := by decide +kernel
theorem dX7_stateAfter_133 : decode cX7_stateAfter 133 = .ok (.ireturn, 1) := by decide +kernel
theorem dX7_stateAfter_134 : decode cX7_stateAfter 134 = .ok (.iload_n 1, 1) := by decide +kernel
theorem dX7_stateAfter_135 : decode cX7_stateAfter 135 = .ok (.bipush 48, 2) := by decide +kernel
theorem dX7_stateAfter_137 : decode cX7_stateAfter 137 = .ok (.if_icmp .lt 14, 3) := by decide +kernel
theorem dX7_stateAfter_140 : decode cX7_stateAfter 140 = .ok (.iload_n 1, 1) := by decide +kernel
theorem dX7_stateAfter_141 : decode cX7_stateAfter 141 = .ok (.bipush 54, 2) := by decide +kernel
theorem dX7_stateAfter_143 : decode cX7_stateAfter 143 = .ok (.if_icmp .ge 8, 3) := by decide +kernel
theorem dX7_stateAfter_146 : decode cX7_stateAfter 146 = .ok (.bipush 6, 2) := by decide +kernel
theorem dX7_stateAfter_148 : decode cX7_stateAfter 148 = .ok (.goto 4, 3) := by decide +kernel
theorem dX7_stateAfter_151 : decode cX7_stateAfter 151 = .ok (.iconst (-1), 1) := by decide +kernel
theorem dX7_stateAfter_152 : decode cX7_stateAfter 152 = .ok (.ireturn, 1) := by decide +kernel
theorem dX7_stateAfter_153 : decode cX7_stateAfter 153 = .ok (.aload_n 0, 1) := by decide +kernel
theorem dX7_stateAfter_154 : decode cX7_stateAfter 154 = .ok (.iload_n 1, 1) := by decide +kernel
theorem dX7_stateAfter_155 : decode cX7_stateAfter 155 = .ok (.invokevirtual 33, 3) := by decide +kernel
theorem dX7_stateAfter_158 : decode cX7_stateAfter 158 = .ok (.ireturn, 1) := by decide +kernel
theorem dX7_stateInFactor_0 : decode cX7_stateInFactor 0 = .ok (.iload_n 1, 1) := by decide +kernel
theorem dX7_stateInFactor_1 : decode cX7_stateInFactor 1 = .ok (.lookupswitch 111 #[(33, 75), (40, 77), (42, 102), (64, 109), (97, 105), (108, 105), (112, 105), (116, 107)], 75) := by decide +kernel
theorem dX7_stateInFactor_76 : decode cX7_stateInFactor 76 = .ok (.iconst 0, 1) := by decide +kernel
theorem dX7_stateInFactor_77 : decode cX7_stateInFactor 77 = .ok (.ireturn, 1) := by decide +kernel
theorem dX7_stateInFactor_78 : decode cX7_stateInFactor 78 = .ok (.aload_n 0, 1) := by decide +kernel
theorem dX7_stateInFactor_79 : decode cX7_stateInFactor 79 = .ok (.dup, 1) := by decide +kernel
theorem dX7_stateInFactor_80 : decode cX7_stateInFactor 80 = .ok (.getfield 15, 3) := by decide +kernel
theorem dX7_stateInFactor_83 : decode cX7_stateInFactor 83 = .ok (.iconst 1, 1) := by decide +kernel
theorem dX7_stateInFactor_84 : decode cX7_stateInFactor 84 = .ok (.iadd, 1) := by decide +kernel
theorem dX7_stateInFactor_85 : decode cX7_stateInFactor 85 = .ok (.putfield 15, 3) := by decide +kernel
theorem dX7_stateInFactor_88 : decode cX7_stateInFactor 88 = .ok (.aload_n 0, 1) := by decide +kernel
theorem dX7_stateInFactor_89 : decode cX7_stateInFactor 89 = .ok (.getfield 15, 3) := by decide +kernel
theorem dX7_stateInFactor_92 : decode cX7_stateInFactor 92 = .ok (.bipush 8, 2) := by decide +kernel
theorem dX7_stateInFactor_94 : decode cX7_stateInFactor 94 = .ok (.if_icmp .gt 7, 3) := by decide +kernel
theorem dX7_stateInFactor_97 : decode cX7_stateInFactor 97 = .ok (.iconst 0, 1) := by decide +kernel
theorem dX7_stateInFactor_98 : decode cX7_stateInFactor 98 = .ok (.goto 4, 3) := by decide +kernel
theorem dX7_stateInFactor_101 : decode cX7_stateInFactor 101 = .ok (.iconst (-1), 1) := by decide +kernel
theorem dX7_stateInFactor_102 : decode cX7_stateInFactor 102 = .ok (.ireturn, 1) := by decide +kernel
theorem dX7_stateInFactor_103 : decode cX7_stateInFactor 103 = .ok (.bipush 6, 2) := by decide +kernel
theorem dX7_stateInFactor_105 : decode cX7_stateInFactor 105 = .ok (.ireturn, 1) := by decide +kernel
theorem dX7_stateInFactor_106 : decode cX7_stateInFactor 106 = .ok (.iconst 1, 1) := by decide +kernel
theorem dX7_stateInFactor_107 : decode cX7_stateInFactor 107 = .ok (.ireturn, 1) := by decide +kernel
theorem dX7_stateInFactor_108 : decode cX7_stateInFactor 108 = .ok (.iconst 4, 1) := by decide +kernel
theorem dX7_stateInFactor_109 : decode cX7_stateInFactor 109 = .ok (.ireturn, 1) := by decide +kernel
theorem dX7_stateInFactor_110 : decode cX7_stateInFactor 110 = .ok (.iconst 5, 1) := by decide +kernel
theorem dX7_stateInFactor_111 : decode cX7_stateInFactor 111 = .ok (.ireturn, 1) := by decide +kernel
theorem dX7_stateInFactor_112 : decode cX7_stateInFactor 112 = .ok (.iconst (-1), 1) := by decide +kernel
theorem dX7_stateInFactor_113 : decode cX7_stateInFactor 113 = .ok (.ireturn, 1) := by decide +kernel
theorem dX7_stateBehindFactor_0 : decode cX7_stateBehindFactor 0 = .ok (.iload_n 1, 1) := by decide +kernel
theorem dX7_stateBehindFactor_1 : decode cX7_stateBehindFactor 1 = .ok (.lookupswitch 61 #[(38, 35), (41, 37), (124, 35)], 35) := by decide +kernel
theorem dX7_stateBehindFactor_36 : decode cX7_stateBehindFactor 36 = .ok (.iconst 0, 1) := by decide +kernel
theorem dX7_stateBehindFactor_37 : decode cX7_stateBehindFactor 37 = .ok (.ireturn, 1) := by decide +kernel
theorem dX7_stateBehindFactor_38 : decode cX7_stateBehindFactor 38 = .ok (.aload_n 0, 1) := by decide +kernel
theorem dX7_stateBehindFactor_39 : decode cX7_stateBehindFactor 39 = .ok (.dup, 1) := by decide +kernel
theorem dX7_stateBehindFactor_40 : decode cX7_stateBehindFactor 40 = .ok (.getfield 15, 3) := by decide +kernel
theorem dX7_stateBehindFactor_43 : decode cX7_stateBehindFactor 43 = .ok (.iconst 1, 1) := by decide +kernel
theorem dX7_stateBehindFactor_44 : decode cX7_stateBehindFactor 44 = .ok (.isub, 1) := by decide +kernel
theorem dX7_stateBehindFactor_45 : decode cX7_stateBehindFactor 45 = .ok (.putfield 15, 3) := by decide +kernel
theorem dX7_stateBehindFactor_48 : decode cX7_stateBehindFactor 48 = .ok (.aload_n 0, 1) := by decide +kernel
theorem dX7_stateBehindFactor_49 : decode cX7_stateBehindFactor 49 = .ok (.getfield 15, 3) := by decide +kernel
theorem dX7_stateBehindFactor_52 : decode cX7_stateBehindFactor 52 = .ok (.ifCond .lt 8, 3) := by decide +kernel
theorem dX7_stateBehindFactor_55 : decode cX7_stateBehindFactor 55 = .ok (.bipush 6, 2) := by decide +kernel
theorem dX7_stateBehindFactor_57 : decode cX7_stateBehindFactor 57 = .ok (.goto 4, 3) := by decide +kernel
theorem dX7_stateBehindFactor_60 : decode cX7_stateBehindFactor 60 = .ok (.iconst (-1), 1) := by decide +kernel
theorem dX7_stateBehindFactor_61 : decode cX7_stateBehindFactor 61 = .ok (.ireturn, 1) := by decide +kernel
theorem dX7_stateBehindFactor_62 : decode cX7_stateBehindFactor 62 = .ok (.iconst (-1), 1) := by decide +kernel
theorem dX7_stateBehindFactor_63 : decode cX7_stateBehindFactor 63 = .ok (.ireturn, 1) := by decide +kernel
theorem dX8_init_0 : decode cX8_init 0 = .ok (.aload_n 0, 1) := by decide +kernel
theorem dX8_init_1 : decode cX8_init 1 = .ok (.invokespecial 3, 3) := by decide +kernel
theorem dX8_init_4 : decode cX8_init 4 = .ok (.aload_n 0, 1) := by decide +kernel
theorem dX8_init_5 : decode cX8_init 5 = .ok (.bipush 60, 2) := by decide +kernel
theorem dX8_init_7 : decode cX8_init 7 = .ok (.newarray .char, 2) := by decide +kernel
theorem dX8_init_9 : decode cX8_init 9 = .ok (.putfield 9, 3) := by decide +kernel
theorem dX8_init_12 : decode cX8_init 12 = .ok (.return_, 1) := by decide +kernel
theorem dX8_append_0 : decode cX8_append 0 = .ok (.aload_n 0, 1) := by decide +kernel
theorem dX8_append_1 : decode cX8_append 1 = .ok (.getfield 15, 3) := by decide +kernel
theorem dX8_append_4 : decode cX8_append 4 = .ok (.bipush 60, 2) := by decide +kernel
theorem dX8_append_6 : decode cX8_append 6 = .ok (.if_icmp .ge 24, 3) := by decide +kernel
theorem dX8_append_9 : decode cX8_append 9 = .ok (.aload_n 0, 1) := by decide +kernel
theorem dX8_append_10 : decode cX8_append 10 = .ok (.getfield 9, 3) := by decide +kernel
theorem dX8_append_13 : decode cX8_append 13 = .ok (.aload_n 0, 1) := by decide +kernel
theorem dX8_append_14 : decode cX8_append 14 = .ok (.getfield 15, 3) := by decide +kernel
theorem dX8_append_17 : decode cX8_append 17 = .ok (.iload_n 1, 1) := by decide +kernel
theorem dX8_append_18 : decode cX8_append 18 = .ok (.i2c, 1) := by decide +kernel
theorem dX8_append_19 : decode cX8_append 19 = .ok (.castore, 1) := by decide +kernel
theorem dX8_append_20 : decode cX8_append 20 = .ok (.aload_n 0, 1) := by decide +kernel
theorem dX8_append_21 : decode cX8_append 21 = .ok (.dup, 1) := by decide +kernel
theorem dX8_append_22 : decode cX8_append 22 = .ok (.getfield 15, 3) := by decide +kernel
theorem dX8_append_25 : decode cX8_append 25 = .ok (.iconst 1, 1) := by decide +kernel
theorem dX8_append_26 : decode cX8_append 26 = .ok (.iadd, 1) := by decide +kernel
theorem dX8_append_27 : decode cX8_append 27 = .ok (.putfield 15, 3) := by decide +kernel
theorem dX8_append_30 : decode cX8_append 30 = .ok (.return_, 1) := by decide +kernel
theorem dX8_signAt_0 : decode cX8_signAt 0 = .ok (.iload_n 1, 1) := by decide +kernel
theorem dX8_signAt_1 : decode cX8_signAt 1 = .ok (.ifCond .lt 20, 3) := by decide +kernel
theorem dX8_signAt_4 : decode cX8_signAt 4 = .ok (.iload_n 1, 1) := by decide +kernel
theorem dX8_signAt_5 : decode cX8_signAt 5 = .ok (.aload_n 0, 1) := by decide +kernel
theorem dX8_signAt_6 : decode cX8_signAt 6 = .ok (.getfield 15, 3) := by decide +kernel
theorem dX8_signAt_9 : decode cX8_signAt 9 = .ok (.if_icmp .ge 12, 3) := by decide +kernel
theorem dX8_signAt_12 : decode cX8_signAt 12 = .ok (.aload_n 0, 1) := by decide +kernel
theorem dX8_signAt_13 : decode cX8_signAt 13 = .ok (.getfield 9, 3) := by decide +kernel
theorem dX8_signAt_16 : decode cX8_signAt 16 = .ok (.iload_n 1, 1) := by decide +kernel
theorem dX8_signAt_17 : decode cX8_signAt 17 = .ok (.caload, 1) := by decide +kernel
theorem dX8_signAt_18 : decode cX8_signAt 18 = .ok (.goto 4, 3) := by decide +kernel
theorem dX8_signAt_21 : decode cX8_signAt 21 = .ok (.iconst 0, 1) := by decide +kernel
theorem dX8_signAt_22 : decode cX8_signAt 22 = .ok (.ireturn, 1) := by decide +kernel
theorem dX8_digitAt_0 : decode cX8_digitAt 0 = .ok (.aload_n 0, 1) := by decide +kernel
theorem dX8_digitAt_1 : decode cX8_digitAt 1 = .ok (.iload_n 1, 1) := by decide +kernel
theorem dX8_digitAt_2 : decode cX8_digitAt 2 = .ok (.invokevirtual 19, 3) := by decide +kernel
theorem dX8_digitAt_5 : decode cX8_digitAt 5 = .ok (.bipush 48, 2) := by decide +kernel
theorem dX8_digitAt_7 : decode cX8_digitAt 7 = .ok (.isub, 1) := by decide +kernel
theorem dX8_digitAt_8 : decode cX8_digitAt 8 = .ok (.istore_n 2, 1) := by decide +kernel
theorem dX8_digitAt_9 : decode cX8_digitAt 9 = .ok (.iload_n 2, 1) := by decide +kernel
theorem dX8_digitAt_10 : decode cX8_digitAt 10 = .ok (.ifCond .lt 13, 3) := by decide +kernel
theorem dX8_digitAt_13 : decode cX8_digitAt 13 = .ok (.iload_n 2, 1) := by decide +kernel
theorem dX8_digitAt_14 : decode cX8_digitAt 14 = .ok (.bipush 9, 2) := by decide +kernel
theorem dX8_digitAt_16 : decode cX8_digitAt 16 = .ok (.if_icmp .gt 7, 3) := by decide +kernel
theorem dX8_digitAt_19 : decode cX8_digitAt 19 = .ok (.iload_n 2, 1) := by decide +kernel
theorem dX8_digitAt_20 : decode cX8_digitAt 20 = .ok (.goto 4, 3) := by decide +kernel
theorem dX8_digitAt_23 : decode cX8_digitAt 23 = .ok (.iconst (-1), 1) := by decide +kernel
theorem dX8_digitAt_24 : decode cX8_digitAt 24 = .ok (.ireturn, 1) := by decide +kernel
theorem dX8_numberAt_0 : decode cX8_numberAt 0 = .ok (.aload_n 0, 1) := by decide +kernel
theorem dX8_numberAt_1 : decode cX8_numberAt 1 = .ok (.iload_n 1, 1) := by decide +kernel
theorem dX8_numberAt_2 : decode cX8_numberAt 2 = .ok (.invokevirtual 23, 3) := by decide +kernel
theorem dX8_numberAt_5 : decode cX8_numberAt 5 = .ok (.istore_n 2, 1) := by decide +kernel
theorem dX8_numberAt_6 : decode cX8_numberAt 6 = .ok (.aload_n 0, 1) := by decide +kernel
theorem dX8_numberAt_7 : decode cX8_numberAt 7 = .ok (.iload_n 1, 1) := by decide +kernel
theorem dX8_numberAt_8 : decode cX8_numberAt 8 = .ok (.iconst 1, 1) := by decide +kernel
theorem dX8_numberAt_9 : decode cX8_numberAt 9 = .ok (.iadd, 1) := by decide +kernel
theorem dX8_numberAt_10 : decode cX8_numberAt 10 = .ok (.invokevirtual 23, 3) := by decide +kernel
theorem dX8_numberAt_13 : decode cX8_numberAt 13 = .ok (.istore_n 3, 1) := by decide +kernel
theorem dX8_numberAt_14 : decode cX8_numberAt 14 = .ok (.iload_n 3, 1) := by decide +kernel
theorem dX8_numberAt_15 : decode cX8_numberAt 15 = .ok (.iconst (-1), 1) := by decide +kernel
theorem dX8_numberAt_16 : decode cX8_numberAt 16 = .ok (.if_icmp .ne 7, 3) := by decide +kernel
theorem dX8_numberAt_19 : decode cX8_numberAt 19 = .ok (.iload_n 2, 1) := by decide +kernel
theorem dX8_numberAt_20 : decode cX8_numberAt 20 = .ok (.goto 9, 3) := by decide +kernel
theorem dX8_numberAt_23 : decode cX8_numberAt 23 = .ok (.bipush 10, 2) := by decide +kernel
theorem dX8_numberAt_25 : decode cX8_numberAt 25 = .ok (.iload_n 2, 1) := by decide +kernel
theorem dX8_numberAt_26 : decode cX8_numberAt 26 = .ok (.imul, 1) := by decide +kernel
theorem dX8_numberAt_27 : decode cX8_numberAt 27 = .ok (.iload_n 3, 1) := by decide +kernel
theorem dX8_numberAt_28 : decode cX8_numberAt 28 = .ok (.iadd, 1) := by decide +kernel
theorem dX8_numberAt_29 : decode cX8_numberAt 29 = .ok (.ireturn, 1) := by decide +kernel
theorem dX8_copy_0 : decode cX8_copy 0 = .ok (.aload_n 1, 1) := by decide +kernel
theorem dX8_copy_1 : decode cX8_copy 1 = .ok (.getfield 9, 3) := by decide +kernel
theorem dX8_copy_4 : decode cX8_copy 4 = .ok (.iconst 0, 1) := by decide +kernel
theorem dX8_copy_5 : decode cX8_copy 5 = .ok (.aload_n 0, 1) := by decide +kernel
theorem dX8_copy_6 : decode cX8_copy 6 = .ok (.getfield 9, 3) := by decide +kernel
theorem dX8_copy_9 : decode cX8_copy 9 = .ok (.iconst 0, 1) := by decide +kernel
theorem dX8_copy_10 : decode cX8_copy 10 = .ok (.bipush 60, 2) := by decide +kernel
theorem dX8_copy_12 : decode cX8_copy 12 = .ok (.invokestatic 26, 3) := by decide +kernel
theorem dX8_copy_15 : decode cX8_copy 15 = .ok (.aload_n 0, 1) := by decide +kernel
theorem dX8_copy_16 : decode cX8_copy 16 = .ok (.aload_n 1, 1) := by decide +kernel
theorem dX8_copy_17 : decode cX8_copy 17 = .ok (.getfield 15, 3) := by decide +kernel
theorem dX8_copy_20 : decode cX8_copy 20 = .ok (.putfield 15, 3) := by decide +kernel
theorem dX8_copy_23 : decode cX8_copy 23 = .ok (.return_, 1) := by decide +kernel
theorem dX8_audiencesReferredTo_0 : decode cX8_audiencesReferredTo 0 = .ok (.iconst 0, 1) := by decide +kernel
theorem dX8_audiencesReferredTo_1 : decode cX8_audiencesReferredTo 1 = .ok (.istore_n 1, 1) := by decide +kernel
theorem dX8_audiencesReferredTo_2 : decode cX8_audiencesReferredTo 2 = .ok (.iconst 0, 1) := by decide +kernel
theorem dX8_audiencesReferredTo_3 : decode cX8_audiencesReferredTo 3 = .ok (.istore_n 2, 1) := by decide +kernel
theorem dX8_audiencesReferredTo_4 : decode cX8_audiencesReferredTo 4 = .ok (.iload_n 2, 1) := by decide +kernel
theorem dX8_audiencesReferredTo_5 : decode cX8_audiencesReferredTo 5 = .ok (.aload_n 0, 1) := by decide +kernel
theorem dX8_audiencesReferredTo_6 : decode cX8_audiencesReferredTo 6 = .ok (.getfield 15, 3) := by decide +kernel
theorem dX8_audiencesReferredTo_9 : decode cX8_audiencesReferredTo 9 = .ok (.if_icmp .ge 40, 3) := by decide +kernel
theorem dX8_audiencesReferredTo_12 : decode cX8_audiencesReferredTo 12 = .ok (.aload_n 0, 1) := by decide +kernel
theorem dX8_audiencesReferredTo_13 : decode cX8_audiencesReferredTo 13 = .ok (.iload_n 2, 1) := by decide +kernel
theorem dX8_audiencesReferredTo_14 : decode cX8_audiencesReferredTo 14 = .ok (.iconst 1, 1) := by decide +kernel
theorem dX8_audiencesReferredTo_15 : decode cX8_audiencesReferredTo 15 = .ok (.iadd, 1) := by decide +kernel
theorem dX8_audiencesReferredTo_16 : decode cX8_audiencesReferredTo 16 = .ok (.invokevirtual 23, 3) := by decide +kernel
theorem dX8_audiencesReferredTo_19 : decode cX8_audiencesReferredTo 19 = .ok (.istore_n 3, 1) := by decide +kernel
theorem dX8_audiencesReferredTo_20 : decode cX8_audiencesReferredTo 20 = .ok (.aload_n 0, 1) := by decide +kernel
theorem dX8_audiencesReferredTo_21 : decode cX8_audiencesReferredTo 21 = .ok (.getfield 9, 3) := by decide +kernel
theorem dX8_audiencesReferredTo_24 : decode cX8_audiencesReferredTo 24 = .ok (.iload_n 2, 1) := by decide +kernel
theorem dX8_audiencesReferredTo_25 : decode cX8_audiencesReferredTo 25 = .ok (.caload, 1) := by decide +kernel
theorem dX8_audiencesReferredTo_26 : decode cX8_audiencesReferredTo 26 = .ok (.bipush 64, 2) := by decide +kernel
theorem dX8_audiencesReferredTo_28 : decode cX8_audiencesReferredTo 28 = .ok (.if_icmp .ne 15, 3) := by decide +kernel
theorem dX8_audiencesReferredTo_31 : decode cX8_audiencesReferredTo 31 = .ok (.iload_n 3, 1) := by decide +kernel
theorem dX8_audiencesReferredTo_32 : decode cX8_audiencesReferredTo 32 = .ok (.iconst (-1), 1) := by decide +kernel
theorem dX8_audiencesReferredTo_33 : decode cX8_audiencesReferredTo 33 = .ok (.if_icmp .eq 10, 3) := by decide +kernel
theorem dX8_audiencesReferredTo_36 : decode cX8_audiencesReferredTo 36 = .ok (.iload_n 1, 1) := by decide +kernel
theorem dX8_audiencesReferredTo_37 : decode cX8_audiencesReferredTo 37 = .ok (.iload_n 3, 1) := by decide +kernel
theorem dX8_audiencesReferredTo_38 : decode cX8_audiencesReferredTo 38 = .ok (.iconst 1, 1) := by decide +kernel
theorem dX8_audiencesReferredTo_39 : decode cX8_audiencesReferredTo 39 = .ok (.invokestatic 32, 3) := by decide +kernel
theorem dX8_audiencesReferredTo_42 : decode cX8_audiencesReferredTo 42 = .ok (.istore_n 1, 1) := by decide +kernel
theorem dX8_audiencesReferredTo_43 : decode cX8_audiencesReferredTo 43 = .ok (.iinc 2 1, 3) := by decide +kernel
theorem dX8_audiencesReferredTo_46 : decode cX8_audiencesReferredTo 46 = .ok (.goto (-42), 3) := by decide +kernel
theorem dX8_audiencesReferredTo_49 : decode cX8_audiencesReferredTo 49 = .ok (.iload_n 1, 1) := by decide +kernel
theorem dX8_audiencesReferredTo_50 : decode cX8_audiencesReferredTo 50 = .ok (.ireturn, 1) := by decide +kernel
theorem dX9_init_0 : decode cX9_init 0 = .ok (.aload_n 0, 1) := by decide +kernel
theorem dX9_init_1 : decode cX9_init 1 = .ok (.invokespecial 3, 3) := by decide +kernel
theorem dX9_init_4 : decode cX9_init 4 = .ok (.aload_n 0, 1) := by decide +kernel
theorem dX9_init_5 : decode cX9_init 5 = .ok (.iconst 4, 1) := by decide +kernel
theorem dX9_init_6 : decode cX9_init 6 = .ok (.newarray .int, 2) := by decide +kernel
theorem dX9_init_8 : decode cX9_init 8 = .ok (.putfield 9, 3) := by decide +kernel
theorem dX9_init_11 : decode cX9_init 11 = .ok (.aload_n 0, 1) := by decide +kernel
theorem dX9_init_12 : decode cX9_init 12 = .ok (.iconst (-1), 1) := by decide +kernel
theorem dX9_init_13 : decode cX9_init 13 = .ok (.putfield 15, 3) := by decide +kernel
theorem dX9_init_16 : decode cX9_init 16 = .ok (.return_, 1) := by decide +kernel
theorem dX9_share_0 : decode cX9_share 0 = .ok (.aload_n 0, 1) := by decide +kernel
theorem dX9_share_1 : decode cX9_share 1 = .ok (.getfield 9, 3) := by decide +kernel
theorem dX9_share_4 : decode cX9_share 4 = .ok (.iconst 0, 1) := by decide +kernel
theorem dX9_share_5 : decode cX9_share 5 = .ok (.iload_n 1, 1) := by decide +kernel
theorem dX9_share_6 : decode cX9_share 6 = .ok (.iastore, 1) := by decide +kernel
theorem dX9_share_7 : decode cX9_share 7 = .ok (.aload_n 0, 1) := by decide +kernel
theorem dX9_share_8 : decode cX9_share 8 = .ok (.getfield 9, 3) := by decide +kernel
theorem dX9_share_11 : decode cX9_share 11 = .ok (.iconst 1, 1) := by decide +kernel
theorem dX9_share_12 : decode cX9_share 12 = .ok (.iload_n 2, 1) := by decide +kernel
theorem dX9_share_13 : decode cX9_share 13 = .ok (.iastore, 1) := by decide +kernel
theorem dX9_share_14 : decode cX9_share 14 = .ok (.aload_n 0, 1) := by decide +kernel
theorem dX9_share_15 : decode cX9_share 15 = .ok (.getfield 9, 3) := by decide +kernel
theorem dX9_share_18 : decode cX9_share 18 = .ok (.iconst 2, 1) := by decide +kernel
theorem dX9_share_19 : decode cX9_share 19 = .ok (.iload_n 3, 1) := by decide +kernel
theorem dX9_share_20 : decode cX9_share 20 = .ok (.iastore, 1) := by decide +kernel
theorem dX9_share_21 : decode cX9_share 21 = .ok (.aload_n 0, 1) := by decide +kernel
theorem dX9_share_22 : decode cX9_share 22 = .ok (.getfield 9, 3) := by decide +kernel
theorem dX9_share_25 : decode cX9_share 25 = .ok (.iconst 3, 1) := by decide +kernel
theorem dX9_share_26 : decode cX9_share 26 = .ok (.iload 4, 2) := by decide +kernel
theorem dX9_share_28 : decode cX9_share 28 = .ok (.iastore, 1) := by decide +kernel
theorem dX9_share_29 : decode cX9_share 29 = .ok (.return_, 1) := by decide +kernel
theorem dX9_sumOfShares_0 : decode cX9_sumOfShares 0 = .ok (.iconst 0, 1) := by decide +kernel
theorem dX9_sumOfShares_1 : decode cX9_sumOfShares 1 = .ok (.istore_n 1, 1) := by decide +kernel
theorem dX9_sumOfShares_2 : decode cX9_sumOfShares 2 = .ok (.aload_n 0, 1) := by decide +kernel
theorem dX9_sumOfShares_3 : decode cX9_sumOfShares 3 = .ok (.getfield 9, 3) := by decide +kernel
theorem dX9_sumOfShares_6 : decode cX9_sumOfShares 6 = .ok (.astore_n 2, 1) := by decide +kernel
theorem dX9_sumOfShares_7 : decode cX9_sumOfShares 7 = .ok (.aload_n 2, 1) := by decide +kernel
theorem dX9_sumOfShares_8 : decode cX9_sumOfShares 8 = .ok (.arraylength, 1) := by decide +kernel
theorem dX9_sumOfShares_9 : decode cX9_sumOfShares 9 = .ok (.istore_n 3, 1) := by decide +kernel
theorem dX9_sumOfShares_10 : decode cX9_sumOfShares 10 = .ok (.iconst 0, 1) := by decide +kernel
theorem dX9_sumOfShares_11 : decode cX9_sumOfShares 11 = .ok (.istore 4, 2) := by decide +kernel
theorem dX9_sumOfShares_13 : decode cX9_sumOfShares 13 = .ok (.iload 4, 2) := by decide +kernel
theorem dX9_sumOfShares_15 : decode cX9_sumOfShares 15 = .ok (.iload_n 3, 1) := by decide +kernel
theorem dX9_sumOfShares_16 : decode cX9_sumOfShares 16 = .ok (.if_icmp .ge 20, 3) := by decide +kernel
theorem dX9_sumOfShares_19 : decode cX9_sumOfShares 19 = .ok (.aload_n 2, 1) := by decide +kernel
theorem dX9_sumOfShares_20 : decode cX9_sumOfShares 20 = .ok (.iload 4, 2) := by decide +kernel
theorem dX9_sumOfShares_22 : decode cX9_sumOfShares 22 = .ok (.iaload, 1) := by decide +kernel
theorem dX9_sumOfShares_23 : decode cX9_sumOfShares 23 = .ok (.istore 5, 2) := by decide +kernel
theorem dX9_sumOfShares_25 : decode cX9_sumOfShares 25 = .ok (.iload_n 1, 1) := by decide +kernel
theorem dX9_sumOfShares_26 : decode cX9_sumOfShares 26 = .ok (.iload 5, 2) := by decide +kernel
theorem dX9_sumOfShares_28 : decode cX9_sumOfShares 28 = .ok (.iadd, 1) := by decide +kernel
theorem dX9_sumOfShares_29 : decode cX9_sumOfShares 29 = .ok (.istore_n 1, 1) := by decide +kernel
theorem dX9_sumOfShares_30 : decode cX9_sumOfShares 30 = .ok (.iinc 4 1, 3) := by decide +kernel
theorem dX9_sumOfShares_33 : decode cX9_sumOfShares 33 = .ok (.goto (-20), 3) := by decide +kernel
theorem dX9_sumOfShares_36 : decode cX9_sumOfShares 36 = .ok (.iload_n 1, 1) := by decide +kernel
theorem dX9_sumOfShares_37 : decode cX9_sumOfShares 37 = .ok (.ireturn, 1) := by decide +kernel
theorem dX9_armFor_0 : decode cX9_armFor 0 = .ok (.aload_n 0, 1) := by decide +kernel
theorem dX9_armFor_1 : decode cX9_armFor 1 = .ok (.getfield 15, 3) := by decide +kernel
theorem dX9_armFor_4 : decode cX9_armFor 4 = .ok (.iconst (-1), 1) := by decide +kernel
theorem dX9_armFor_5 : decode cX9_armFor 5 = .ok (.if_icmp .eq 8, 3) := by decide +kernel
theorem dX9_armFor_8 : decode cX9_armFor 8 = .ok (.aload_n 0, 1) := by decide +kernel
theorem dX9_armFor_9 : decode cX9_armFor 9 = .ok (.getfield 15, 3) := by decide +kernel
theorem dX9_armFor_12 : decode cX9_armFor 12 = .ok (.ireturn, 1) := by decide +kernel
theorem dX9_armFor_13 : decode cX9_armFor 13 = .ok (.iload_n 2, 1) := by decide +kernel
theorem dX9_armFor_14 : decode cX9_armFor 14 = .ok (.iconst (-1), 1) := by decide +kernel
theorem dX9_armFor_15 : decode cX9_armFor 15 = .ok (.if_icmp .eq 7, 3) := by decide +kernel
theorem dX9_armFor_18 : decode cX9_armFor 18 = .ok (.iload_n 2, 1) := by decide +kernel
theorem dX9_armFor_19 : decode cX9_armFor 19 = .ok (.goto 8, 3) := by decide +kernel
theorem dX9_armFor_22 : decode cX9_armFor 22 = .ok (.aload_n 0, 1) := by decide +kernel
theorem dX9_armFor_23 : decode cX9_armFor 23 = .ok (.iload_n 1, 1) := by decide +kernel
theorem dX9_armFor_24 : decode cX9_armFor 24 = .ok (.invokevirtual 19, 3) := by decide +kernel
theorem dX9_armFor_27 : decode cX9_armFor 27 = .ok (.ireturn, 1) := by decide +kernel
theorem dX9_drawArm_0 : decode cX9_drawArm 0 = .ok (.aload_n 0, 1) := by decide +kernel
theorem dX9_drawArm_1 : decode cX9_drawArm 1 = .ok (.invokevirtual 23, 3) := by decide +kernel
theorem dX9_drawArm_4 : decode cX9_drawArm 4 = .ok (.istore_n 2, 1) := by decide +kernel
theorem dX9_drawArm_5 : decode cX9_drawArm 5 = .ok (.iload_n 2, 1) := by decide +kernel
theorem dX9_drawArm_6 : decode cX9_drawArm 6 = .ok (.ifCond .gt 5, 3) := by decide +kernel
theorem dX9_drawArm_9 : decode cX9_drawArm 9 = .ok (.iconst 0, 1) := by decide +kernel
theorem dX9_drawArm_10 : decode cX9_drawArm 10 = .ok (.ireturn, 1) := by decide +kernel
theorem dX9_drawArm_11 : decode cX9_drawArm 11 = .ok (.sipush 7919, 3) := by decide +kernel
theorem dX9_drawArm_14 : decode cX9_drawArm 14 = .ok (.iload_n 1, 1) := by decide +kernel
theorem dX9_drawArm_15 : decode cX9_drawArm 15 = .ok (.imul, 1) := by decide +kernel
theorem dX9_drawArm_16 : decode cX9_drawArm 16 = .ok (.ldc 27, 2) := by decide +kernel
theorem dX9_drawArm_18 : decode cX9_drawArm 18 = .ok (.aload_n 0, 1) := by decide +kernel
theorem dX9_drawArm_19 : decode cX9_drawArm 19 = .ok (.getfield 28, 3) := by decide +kernel
theorem dX9_drawArm_22 : decode cX9_drawArm 22 = .ok (.imul, 1) := by decide +kernel
theorem dX9_drawArm_23 : decode cX9_drawArm 23 = .ok (.iadd, 1) := by decide +kernel
theorem dX9_drawArm_24 : decode cX9_drawArm 24 = .ok (.bipush 13, 2) := by decide +kernel
theorem dX9_drawArm_26 : decode cX9_drawArm 26 = .ok (.iadd, 1) := by decide +kernel
theorem dX9_drawArm_27 : decode cX9_drawArm 27 = .ok (.ldc 31, 2) := by decide +kernel
theorem dX9_drawArm_29 : decode cX9_drawArm 29 = .ok (.irem, 1) := by decide +kernel
theorem dX9_drawArm_30 : decode cX9_drawArm 30 = .ok (.iload_n 2, 1) := by decide +kernel
theorem dX9_drawArm_31 : decode cX9_drawArm 31 = .ok (.irem, 1) := by decide +kernel
theorem dX9_drawArm_32 : decode cX9_drawArm 32 = .ok (.istore_n 3, 1) := by decide +kernel
theorem dX9_drawArm_33 : decode cX9_drawArm 33 = .ok (.iconst 0, 1) := by decide +kernel
theorem dX9_drawArm_34 : decode cX9_drawArm 34 = .ok (.istore 4, 2) := by decide +kernel
theorem dX9_drawArm_36 : decode cX9_drawArm 36 = .ok (.aload_n 0, 1) := by decide +kernel
theorem dX9_drawArm_37 : decode cX9_drawArm 37 = .ok (.getfield 9, 3) := by decide +kernel
theorem dX9_drawArm_40 : decode cX9_drawArm 40 = .ok (.iconst 0, 1) := by decide +kernel
theorem dX9_drawArm_41 : decode cX9_drawArm 41 = .ok (.iaload, 1) := by decide +kernel
theorem dX9_drawArm_42 : decode cX9_drawArm 42 = .ok (.istore 5, 2) := by decide +kernel
theorem dX9_drawArm_44 : decode cX9_drawArm 44 = .ok (.iload 5, 2) := by decide +kernel
theorem dX9_drawArm_46 : decode cX9_drawArm 46 = .ok (.iload_n 3, 1) := by decide +kernel
theorem dX9_drawArm_47 : decode cX9_drawArm 47 = .ok (.if_icmp .gt 27, 3) := by decide +kernel
theorem dX9_drawArm_50 : decode cX9_drawArm 50 = .ok (.iload 4, 2) := by decide +kernel
theorem dX9_drawArm_52 : decode cX9_drawArm 52 = .ok (.iconst 3, 1) := by decide +kernel
theorem dX9_drawArm_53 : decode cX9_drawArm 53 = .ok (.if_icmp .ge 21, 3) := by decide +kernel
theorem dX9_drawArm_56 : decode cX9_drawArm 56 = .ok (.iinc 4 1, 3) := by decide +kernel
theorem dX9_drawArm_59 : decode cX9_drawArm 59 = .ok (.iload 5, 2) := by decide +kernel
theorem dX9_drawArm_61 : decode cX9_drawArm 61 = .ok (.aload_n 0, 1) := by decide +kernel
theorem dX9_drawArm_62 : decode cX9_drawArm 62 = .ok (.getfield 9, 3) := by decide +kernel
theorem dX9_drawArm_65 : decode cX9_drawArm 65 = .ok (.iload 4, 2) := by decide +kernel
theorem dX9_drawArm_67 : decode cX9_drawArm 67 = .ok (.iaload, 1) := by decide +kernel
theorem dX9_drawArm_68 : decode cX9_drawArm 68 = .ok (.iadd, 1) := by decide +kernel
theorem dX9_drawArm_69 : decode cX9_drawArm 69 = .ok (.istore 5, 2) := by decide +kernel
theorem dX9_drawArm_71 : decode cX9_drawArm 71 = .ok (.goto (-27), 3) := by decide +kernel
theorem dX9_drawArm_74 : decode cX9_drawArm 74 = .ok (.iload 4, 2) := by decide +kernel
theorem dX9_drawArm_76 : decode cX9_drawArm 76 = .ok (.ireturn, 1) := by decide +kernel
theorem dX10_init_0 : decode cX10_init 0 = .ok (.aload_n 0, 1) := by decide +kernel
theorem dX10_init_1 : decode cX10_init 1 = .ok (.invokespecial 3, 3) := by decide +kernel
theorem dX10_init_4 : decode cX10_init 4 = .ok (.aload_n 0, 1) := by decide +kernel
theorem dX10_init_5 : decode cX10_init 5 = .ok (.new 9, 3) := by decide +kernel
theorem dX10_init_8 : decode cX10_init 8 = .ok (.dup, 1) := by decide +kernel
theorem dX10_init_9 : decode cX10_init 9 = .ok (.invokespecial 11, 3) := by decide +kernel
theorem dX10_init_12 : decode cX10_init 12 = .ok (.putfield 12, 3) := by decide +kernel
theorem dX10_init_15 : decode cX10_init 15 = .ok (.aload_n 0, 1) := by decide +kernel
theorem dX10_init_16 : decode cX10_init 16 = .ok (.new 16, 3) := by decide +kernel
theorem dX10_init_19 : decode cX10_init 19 = .ok (.dup, 1) := by decide +kernel
theorem dX10_init_20 : decode cX10_init 20 = .ok (.invokespecial 18, 3) := by decide +kernel
theorem dX10_init_23 : decode cX10_init 23 = .ok (.putfield 19, 3) := by decide +kernel
theorem dX10_init_26 : decode cX10_init 26 = .ok (.aload_n 0, 1) := by decide +kernel
theorem dX10_init_27 : decode cX10_init 27 = .ok (.bipush 8, 2) := by decide +kernel
theorem dX10_init_29 : decode cX10_init 29 = .ok (.anewarray 23, 3) := by decide +kernel
theorem dX10_init_32 : decode cX10_init 32 = .ok (.putfield 25, 3) := by decide +kernel
theorem dX10_init_35 : decode cX10_init 35 = .ok (.aload_n 0, 1) := by decide +kernel
theorem dX10_init_36 : decode cX10_init 36 = .ok (.new 29, 3) := by decide +kernel
theorem dX10_init_39 : decode cX10_init 39 = .ok (.dup, 1) := by decide +kernel
theorem dX10_init_40 : decode cX10_init 40 = .ok (.bipush 8, 2) := by decide +kernel
theorem dX10_init_42 : decode cX10_init 42 = .ok (.invokespecial 31, 3) := by decide +kernel
theorem dX10_init_45 : decode cX10_init 45 = .ok (.putfield 34, 3) := by decide +kernel
theorem dX10_init_48 : decode cX10_init 48 = .ok (.aload_n 0, 1) := by decide +kernel
theorem dX10_init_49 : decode cX10_init 49 = .ok (.bipush 6, 2) := by decide +kernel
theorem dX10_init_51 : decode cX10_init 51 = .ok (.anewarray 38, 3) := by decide +kernel
theorem dX10_init_54 : decode cX10_init 54 = .ok (.putfield 40, 3) := by decide +kernel
theorem dX10_init_57 : decode cX10_init 57 = .ok (.aload_n 0, 1) := by decide +kernel
theorem dX10_init_58 : decode cX10_init 58 = .ok (.new 44, 3) := by decide +kernel
theorem dX10_init_61 : decode cX10_init 61 = .ok (.dup, 1) := by decide +kernel
theorem dX10_init_62 : decode cX10_init 62 = .ok (.invokespecial 46, 3) := by decide +kernel
theorem dX10_init_65 : decode cX10_init 65 = .ok (.putfield 47, 3) := by decide +kernel
theorem dX10_init_68 : decode cX10_init 68 = .ok (.aload_n 0, 1) := by decide +kernel
theorem dX10_init_69 : decode cX10_init 69 = .ok (.bipush 20, 2) := by decide +kernel
theorem dX10_init_71 : decode cX10_init 71 = .ok (.anewarray 51, 3) := by decide +kernel
theorem dX10_init_74 : decode cX10_init 74 = .ok (.putfield 53, 3) := by decide +kernel
theorem dX10_init_77 : decode cX10_init 77 = .ok (.aload_n 0, 1) := by decide +kernel
theorem dX10_init_78 : decode cX10_init 78 = .ok (.new 51, 3) := by decide +kernel
theorem dX10_init_81 : decode cX10_init 81 = .ok (.dup, 1) := by decide +kernel
theorem dX10_init_82 : decode cX10_init 82 = .ok (.invokespecial 57, 3) := by decide +kernel
theorem dX10_init_85 : decode cX10_init 85 = .ok (.putfield 58, 3) := by decide +kernel
theorem dX10_init_88 : decode cX10_init 88 = .ok (.aload_n 0, 1) := by decide +kernel
theorem dX10_init_89 : decode cX10_init 89 = .ok (.bipush 8, 2) := by decide +kernel
theorem dX10_init_91 : decode cX10_init 91 = .ok (.newarray .int, 2) := by decide +kernel
theorem dX10_init_93 : decode cX10_init 93 = .ok (.putfield 62, 3) := by decide +kernel
theorem dX10_init_96 : decode cX10_init 96 = .ok (.aload_n 0, 1) := by decide +kernel
theorem dX10_init_97 : decode cX10_init 97 = .ok (.bipush 8, 2) := by decide +kernel
theorem dX10_init_99 : decode cX10_init 99 = .ok (.newarray .int, 2) := by decide +kernel
theorem dX10_init_101 : decode cX10_init 101 = .ok (.putfield 66, 3) := by decide +kernel
theorem dX10_init_104 : decode cX10_init 104 = .ok (.iconst 0, 1) := by decide +kernel
theorem dX10_init_105 : decode cX10_init 105 = .ok (.istore_n 1, 1) := by decide +kernel
theorem dX10_init_106 : decode cX10_init 106 = .ok (.iload_n 1, 1) := by decide +kernel
theorem dX10_init_107 : decode cX10_init 107 = .ok (.bipush 20, 2) := by decide +kernel
theorem dX10_init_109 : decode cX10_init 109 = .ok (.if_icmp .ge 22, 3) := by decide +kernel
theorem dX10_init_112 : decode cX10_init 112 = .ok (.aload_n 0, 1) := by decide +kernel
theorem dX10_init_113 : decode cX10_init 113 = .ok (.getfield 53, 3) := by decide +kernel
theorem dX10_init_116 : decode cX10_init 116 = .ok (.iload_n 1, 1) := by decide +kernel
theorem dX10_init_117 : decode cX10_init 117 = .ok (.new 51, 3) := by decide +kernel
theorem dX10_init_120 : decode cX10_init 120 = .ok (.dup, 1) := by decide +kernel
theorem dX10_init_121 : decode cX10_init 121 = .ok (.invokespecial 57, 3) := by decide +kernel
theorem dX10_init_124 : decode cX10_init 124 = .ok (.aastore, 1) := by decide +kernel
theorem dX10_init_125 : decode cX10_init 125 = .ok (.iinc 1 1, 3) := by decide +kernel
theorem dX10_init_128 : decode cX10_init 128 = .ok (.goto (-22), 3) := by decide +kernel
theorem dX10_init_131 : decode cX10_init 131 = .ok (.iconst 0, 1) := by decide +kernel
theorem dX10_init_132 : decode cX10_init 132 = .ok (.istore_n 1, 1) := by decide +kernel
theorem dX10_init_133 : decode cX10_init 133 = .ok (.iload_n 1, 1) := by decide +kernel
theorem dX10_init_134 : decode cX10_init 134 = .ok (.bipush 8, 2) := by decide +kernel
theorem dX10_init_136 : decode cX10_init 136 = .ok (.if_icmp .ge 22, 3) := by decide +kernel
theorem dX10_init_139 : decode cX10_init 139 = .ok (.aload_n 0, 1) := by decide +kernel
theorem dX10_init_140 : decode cX10_init 140 = .ok (.getfield 25, 3) := by decide +kernel
theorem dX10_init_143 : decode cX10_init 143 = .ok (.iload_n 1, 1) := by decide +kernel
theorem dX10_init_144 : decode cX10_init 144 = .ok (.new 23, 3) := by decide +kernel
theorem dX10_init_147 : decode cX10_init 147 = .ok (.dup, 1) := by decide +kernel
theorem dX10_init_148 : decode cX10_init 148 = .ok (.invokespecial 69, 3) := by decide +kernel
theorem dX10_init_151 : decode cX10_init 151 = .ok (.aastore, 1) := by decide +kernel
theorem dX10_init_152 : decode cX10_init 152 = .ok (.iinc 1 1, 3) := by decide +kernel
theorem dX10_init_155 : decode cX10_init 155 = .ok (.goto (-22), 3) := by decide +kernel
theorem dX10_init_158 : decode cX10_init 158 = .ok (.iconst 0, 1) := by decide +kernel
theorem dX10_init_159 : decode cX10_init 159 = .ok (.istore_n 1, 1) := by decide +kernel
theorem dX10_init_160 : decode cX10_init 160 = .ok (.iload_n 1, 1) := by decide +kernel
theorem dX10_init_161 : decode cX10_init 161 = .ok (.bipush 6, 2) := by decide +kernel
theorem dX10_init_163 : decode cX10_init 163 = .ok (.if_icmp .ge 22, 3) := by decide +kernel
theorem dX10_init_166 : decode cX10_init 166 = .ok (.aload_n 0, 1) := by decide +kernel
theorem dX10_init_167 : decode cX10_init 167 = .ok (.getfield 40, 3) := by decide +kernel
theorem dX10_init_170 : decode cX10_init 170 = .ok (.iload_n 1, 1) := by decide +kernel
theorem dX10_init_171 : decode cX10_init 171 = .ok (.new 38, 3) := by decide +kernel
theorem dX10_init_174 : decode cX10_init 174 = .ok (.dup, 1) := by decide +kernel
theorem dX10_init_175 : decode cX10_init 175 = .ok (.invokespecial 70, 3) := by decide +kernel
theorem dX10_init_178 : decode cX10_init 178 = .ok (.aastore, 1) := by decide +kernel
theorem dX10_init_179 : decode cX10_init 179 = .ok (.iinc 1 1, 3) := by decide +kernel
theorem dX10_init_182 : decode cX10_init 182 = .ok (.goto (-22), 3) := by decide +kernel
theorem dX10_init_185 : decode cX10_init 185 = .ok (.return_, 1) := by decide +kernel
theorem dX10_setAttribute_0 : decode cX10_setAttribute 0 = .ok (.iload_n 1, 1) := by decide +kernel
theorem dX10_setAttribute_1 : decode cX10_setAttribute 1 = .ok (.invokestatic 71, 3) := by decide +kernel
theorem dX10_setAttribute_4 : decode cX10_setAttribute 4 = .ok (.iload_n 2, 1) := by decide +kernel
theorem dX10_setAttribute_5 : decode cX10_setAttribute 5 = .ok (.iconst 0, 1) := by decide +kernel
theorem dX10_setAttribute_6 : decode cX10_setAttribute 6 = .ok (.iconst 2, 1) := by decide +kernel
theorem dX10_setAttribute_7 : decode cX10_setAttribute 7 = .ok (.invokestatic 74, 3) := by decide +kernel
theorem dX10_setAttribute_10 : decode cX10_setAttribute 10 = .ok (.iload_n 3, 1) := by decide +kernel
theorem dX10_setAttribute_11 : decode cX10_setAttribute 11 = .ok (.iconst 0, 1) := by decide +kernel
theorem dX10_setAttribute_12 : decode cX10_setAttribute 12 = .ok (.iload_n 2, 1) := by decide +kernel
theorem dX10_setAttribute_13 : decode cX10_setAttribute 13 = .ok (.invokestatic 78, 3) := by decide +kernel
theorem dX10_setAttribute_16 : decode cX10_setAttribute 16 = .ok (.invokestatic 74, 3) := by decide +kernel
theorem dX10_setAttribute_19 : decode cX10_setAttribute 19 = .ok (.aload_n 0, 1) := by decide +kernel
theorem dX10_setAttribute_20 : decode cX10_setAttribute 20 = .ok (.getfield 12, 3) := by decide +kernel
theorem dX10_setAttribute_23 : decode cX10_setAttribute 23 = .ok (.getfield 82, 3) := by decide +kernel
theorem dX10_setAttribute_26 : decode cX10_setAttribute 26 = .ok (.iload_n 1, 1) := by decide +kernel
theorem dX10_setAttribute_27 : decode cX10_setAttribute 27 = .ok (.aaload, 1) := by decide +kernel
theorem dX10_setAttribute_28 : decode cX10_setAttribute 28 = .ok (.iload_n 2, 1) := by decide +kernel
theorem dX10_setAttribute_29 : decode cX10_setAttribute 29 = .ok (.iaload, 1) := by decide +kernel
theorem dX10_setAttribute_30 : decode cX10_setAttribute 30 = .ok (.istore 4, 2) := by decide +kernel
theorem dX10_setAttribute_32 : decode cX10_setAttribute 32 = .ok (.aload_n 0, 1) := by decide +kernel
theorem dX10_setAttribute_33 : decode cX10_setAttribute 33 = .ok (.getfield 12, 3) := by decide +kernel
theorem dX10_setAttribute_36 : decode cX10_setAttribute 36 = .ok (.getfield 82, 3) := by decide +kernel
theorem dX10_setAttribute_39 : decode cX10_setAttribute 39 = .ok (.iload_n 1, 1) := by decide +kernel
theorem dX10_setAttribute_40 : decode cX10_setAttribute 40 = .ok (.aaload, 1) := by decide +kernel
theorem dX10_setAttribute_41 : decode cX10_setAttribute 41 = .ok (.iload_n 2, 1) := by decide +kernel
theorem dX10_setAttribute_42 : decode cX10_setAttribute 42 = .ok (.iload_n 3, 1) := by decide +kernel
theorem dX10_setAttribute_43 : decode cX10_setAttribute 43 = .ok (.iastore, 1) := by decide +kernel
theorem dX10_setAttribute_44 : decode cX10_setAttribute 44 = .ok (.aload_n 0, 1) := by decide +kernel
theorem dX10_setAttribute_45 : decode cX10_setAttribute 45 = .ok (.getfield 19, 3) := by decide +kernel
theorem dX10_setAttribute_48 : decode cX10_setAttribute 48 = .ok (.aload_n 0, 1) := by decide +kernel
theorem dX10_setAttribute_49 : decode cX10_setAttribute 49 = .ok (.getfield 12, 3) := by decide +kernel
theorem dX10_setAttribute_52 : decode cX10_setAttribute 52 = .ok (.invokevirtual 86, 3) := by decide +kernel
theorem dX10_setAttribute_55 : decode cX10_setAttribute 55 = .ok (.iload 4, 2) := by decide +kernel
theorem dX10_setAttribute_57 : decode cX10_setAttribute 57 = .ok (.ireturn, 1) := by decide +kernel
theorem dX10_setTag_0 : decode cX10_setTag 0 = .ok (.iload_n 1, 1) := by decide +kernel
theorem dX10_setTag_1 : decode cX10_setTag 1 = .ok (.invokestatic 71, 3) := by decide +kernel
theorem dX10_setTag_4 : decode cX10_setTag 4 = .ok (.iload_n 2, 1) := by decide +kernel
theorem dX10_setTag_5 : decode cX10_setTag 5 = .ok (.iconst 0, 1) := by decide +kernel
theorem dX10_setTag_6 : decode cX10_setTag 6 = .ok (.bipush 7, 2) := by decide +kernel
theorem dX10_setTag_8 : decode cX10_setTag 8 = .ok (.invokestatic 74, 3) := by decide +kernel
theorem dX10_setTag_11 : decode cX10_setTag 11 = .ok (.aload_n 0, 1) := by decide +kernel
theorem dX10_setTag_12 : decode cX10_setTag 12 = .ok (.getfield 12, 3) := by decide +kernel
theorem dX10_setTag_15 : decode cX10_setTag 15 = .ok (.getfield 90, 3) := by decide +kernel
theorem dX10_setTag_18 : decode cX10_setTag 18 = .ok (.iload_n 1, 1) := by decide +kernel
theorem dX10_setTag_19 : decode cX10_setTag 19 = .ok (.iaload, 1) := by decide +kernel
theorem dX10_setTag_20 : decode cX10_setTag 20 = .ok (.iload_n 2, 1) := by decide +kernel
theorem dX10_setTag_21 : decode cX10_setTag 21 = .ok (.invokestatic 93, 3) := by decide +kernel
theorem dX10_setTag_24 : decode cX10_setTag 24 = .ok (.istore 4, 2) := by decide +kernel
theorem dX10_setTag_26 : decode cX10_setTag 26 = .ok (.aload_n 0, 1) := by decide +kernel
theorem dX10_setTag_27 : decode cX10_setTag 27 = .ok (.getfield 12, 3) := by decide +kernel
theorem dX10_setTag_30 : decode cX10_setTag 30 = .ok (.getfield 90, 3) := by decide +kernel
theorem dX10_setTag_33 : decode cX10_setTag 33 = .ok (.iload_n 1, 1) := by decide +kernel
theorem dX10_setTag_34 : decode cX10_setTag 34 = .ok (.aload_n 0, 1) := by decide +kernel
theorem dX10_setTag_35 : decode cX10_setTag 35 = .ok (.getfield 12, 3) := by decide +kernel
theorem dX10_setTag_38 : decode cX10_setTag 38 = .ok (.getfield 90, 3) := by decide +kernel
theorem dX10_setTag_41 : decode cX10_setTag 41 = .ok (.iload_n 1, 1) := by decide +kernel
theorem dX10_setTag_42 : decode cX10_setTag 42 = .ok (.iaload, 1) := by decide +kernel
theorem dX10_setTag_43 : decode cX10_setTag 43 = .ok (.iload_n 2, 1) := by decide +kernel
theorem dX10_setTag_44 : decode cX10_setTag 44 = .ok (.iload_n 3, 1) := by decide +kernel
theorem dX10_setTag_45 : decode cX10_setTag 45 = .ok (.invokestatic 97, 3) := by decide +kernel
theorem dX10_setTag_48 : decode cX10_setTag 48 = .ok (.iastore, 1) := by decide +kernel
theorem dX10_setTag_49 : decode cX10_setTag 49 = .ok (.aload_n 0, 1) := by decide +kernel
theorem dX10_setTag_50 : decode cX10_setTag 50 = .ok (.getfield 19, 3) := by decide +kernel
theorem dX10_setTag_53 : decode cX10_setTag 53 = .ok (.aload_n 0, 1) := by decide +kernel
theorem dX10_setTag_54 : decode cX10_setTag 54 = .ok (.getfield 12, 3) := by decide +kernel
theorem dX10_setTag_57 : decode cX10_setTag 57 = .ok (.invokevirtual 86, 3) := by decide +kernel
theorem dX10_setTag_60 : decode cX10_setTag 60 = .ok (.iload 4, 2) := by decide +kernel
theorem dX10_setTag_62 : decode cX10_setTag 62 = .ok (.ireturn, 1) := by decide +kernel
theorem dX10_type_0 : decode cX10_type 0 = .ok (.iload_n 1, 1) := by decide +kernel
theorem dX10_type_1 : decode cX10_type 1 = .ok (.invokestatic 101, 3) := by decide +kernel
theorem dX10_type_4 : decode cX10_type 4 = .ok (.iload_n 2, 1) := by decide +kernel
theorem dX10_type_5 : decode cX10_type 5 = .ok (.bipush 33, 2) := by decide +kernel
theorem dX10_type_7 : decode cX10_type 7 = .ok (.bipush 126, 2) := by decide +kernel
theorem dX10_type_9 : decode cX10_type 9 = .ok (.invokestatic 74, 3) := by decide +kernel
theorem dX10_type_12 : decode cX10_type 12 = .ok (.aload_n 0, 1) := by decide +kernel
theorem dX10_type_13 : decode cX10_type 13 = .ok (.getfield 19, 3) := by decide +kernel
theorem dX10_type_16 : decode cX10_type 16 = .ok (.getfield 104, 3) := by decide +kernel
theorem dX10_type_19 : decode cX10_type 19 = .ok (.iload_n 1, 1) := by decide +kernel
theorem dX10_type_20 : decode cX10_type 20 = .ok (.aaload, 1) := by decide +kernel
theorem dX10_type_21 : decode cX10_type 21 = .ok (.astore_n 3, 1) := by decide +kernel
theorem dX10_type_22 : decode cX10_type 22 = .ok (.aload_n 3, 1) := by decide +kernel
theorem dX10_type_23 : decode cX10_type 23 = .ok (.getfield 108, 3) := by decide +kernel
theorem dX10_type_26 : decode cX10_type 26 = .ok (.bipush 60, 2) := by decide +kernel
theorem dX10_type_28 : decode cX10_type 28 = .ok (.if_icmp .lt 13, 3) := by decide +kernel
theorem dX10_type_31 : decode cX10_type 31 = .ok (.new 114, 3) := by decide +kernel
theorem dX10_type_34 : decode cX10_type 34 = .ok (.dup, 1) := by decide +kernel
theorem dX10_type_35 : decode cX10_type 35 = .ok (.ldc 116, 2) := by decide +kernel
theorem dX10_type_37 : decode cX10_type 37 = .ok (.invokespecial 118, 3) := by decide +kernel
theorem dX10_type_40 : decode cX10_type 40 = .ok (.athrow, 1) := by decide +kernel
theorem dX10_type_41 : decode cX10_type 41 = .ok (.aload_n 3, 1) := by decide +kernel
theorem dX10_type_42 : decode cX10_type 42 = .ok (.iload_n 2, 1) := by decide +kernel
theorem dX10_type_43 : decode cX10_type 43 = .ok (.invokevirtual 121, 3) := by decide +kernel
theorem dX10_type_46 : decode cX10_type 46 = .ok (.aload_n 3, 1) := by decide +kernel
theorem dX10_type_47 : decode cX10_type 47 = .ok (.getfield 108, 3) := by decide +kernel
theorem dX10_type_50 : decode cX10_type 50 = .ok (.ireturn, 1) := by decide +kernel
theorem dX10_erase_0 : decode cX10_erase 0 = .ok (.iload_n 1, 1) := by decide +kernel
theorem dX10_erase_1 : decode cX10_erase 1 = .ok (.invokestatic 101, 3) := by decide +kernel
theorem dX10_erase_4 : decode cX10_erase 4 = .ok (.iload_n 2, 1) := by decide +kernel
theorem dX10_erase_5 : decode cX10_erase 5 = .ok (.iconst 1, 1) := by decide +kernel
theorem dX10_erase_6 : decode cX10_erase 6 = .ok (.if_icmp .ge 13, 3) := by decide +kernel
theorem dX10_erase_9 : decode cX10_erase 9 = .ok (.new 124, 3) := by decide +kernel
theorem dX10_erase_12 : decode cX10_erase 12 = .ok (.dup, 1) := by decide +kernel
theorem dX10_erase_13 : decode cX10_erase 13 = .ok (.ldc 126, 2) := by decide +kernel
theorem dX10_erase_15 : decode cX10_erase 15 = .ok (.invokespecial 128, 3) := by decide +kernel
theorem dX10_erase_18 : decode cX10_erase 18 = .ok (.athrow, 1) := by decide +kernel
theorem dX10_erase_19 : decode cX10_erase 19 = .ok (.aload_n 0, 1) := by decide +kernel
theorem dX10_erase_20 : decode cX10_erase 20 = .ok (.getfield 19, 3) := by decide +kernel
theorem dX10_erase_23 : decode cX10_erase 23 = .ok (.getfield 104, 3) := by decide +kernel
theorem dX10_erase_26 : decode cX10_erase 26 = .ok (.iload_n 1, 1) := by decide +kernel
theorem dX10_erase_27 : decode cX10_erase 27 = .ok (.aaload, 1) := by decide +kernel
theorem dX10_erase_28 : decode cX10_erase 28 = .ok (.astore_n 3, 1) := by decide +kernel
theorem dX10_erase_29 : decode cX10_erase 29 = .ok (.aload_n 3, 1) := by decide +kernel
theorem dX10_erase_30 : decode cX10_erase 30 = .ok (.iconst 0, 1) := by decide +kernel
theorem dX10_erase_31 : decode cX10_erase 31 = .ok (.aload_n 3, 1) := by decide +kernel
theorem dX10_erase_32 : decode cX10_erase 32 = .ok (.getfield 108, 3) := by decide +kernel
theorem dX10_erase_35 : decode cX10_erase 35 = .ok (.iload_n 2, 1) := by decide +kernel
theorem dX10_erase_36 : decode cX10_erase 36 = .ok (.isub, 1) := by decide +kernel
theorem dX10_erase_37 : decode cX10_erase 37 = .ok (.invokestatic 129, 3) := by decide +kernel
theorem dX10_erase_40 : decode cX10_erase 40 = .ok (.putfield 108, 3) := by decide +kernel
theorem dX10_erase_43 : decode cX10_erase 43 = .ok (.aload_n 3, 1) := by decide +kernel
theorem dX10_erase_44 : decode cX10_erase 44 = .ok (.getfield 108, 3) := by decide +kernel
theorem dX10_erase_47 : decode cX10_erase 47 = .ok (.ireturn, 1) := by decide +kernel
theorem dX10_sign_0 : decode cX10_sign 0 = .ok (.iload_n 1, 1) := by decide +kernel
theorem dX10_sign_1 : decode cX10_sign 1 = .ok (.invokestatic 101, 3) := by decide +kernel
theorem dX10_sign_4 : decode cX10_sign 4 = .ok (.aload_n 0, 1) := by decide +kernel
theorem dX10_sign_5 : decode cX10_sign 5 = .ok (.getfield 19, 3) := by decide +kernel
theorem dX10_sign_8 : decode cX10_sign 8 = .ok (.getfield 104, 3) := by decide +kernel
theorem dX10_sign_11 : decode cX10_sign 11 = .ok (.iload_n 1, 1) := by decide +kernel
theorem dX10_sign_12 : decode cX10_sign 12 = .ok (.aaload, 1) := by decide +kernel
theorem dX10_sign_13 : decode cX10_sign 13 = .ok (.astore_n 3, 1) := by decide +kernel
theorem dX10_sign_14 : decode cX10_sign 14 = .ok (.iload_n 2, 1) := by decide +kernel
theorem dX10_sign_15 : decode cX10_sign 15 = .ok (.ifCond .lt 11, 3) := by decide +kernel
theorem dX10_sign_18 : decode cX10_sign 18 = .ok (.iload_n 2, 1) := by decide +kernel
theorem dX10_sign_19 : decode cX10_sign 19 = .ok (.aload_n 3, 1) := by decide +kernel
theorem dX10_sign_20 : decode cX10_sign 20 = .ok (.getfield 108, 3) := by decide +kernel
theorem dX10_sign_23 : decode cX10_sign 23 = .ok (.if_icmp .lt 13, 3) := by decide +kernel
theorem dX10_sign_26 : decode cX10_sign 26 = .ok (.new 135, 3) := by decide +kernel
theorem dX10_sign_29 : decode cX10_sign 29 = .ok (.dup, 1) := by decide +kernel
theorem dX10_sign_30 : decode cX10_sign 30 = .ok (.ldc 137, 2) := by decide +kernel
theorem dX10_sign_32 : decode cX10_sign 32 = .ok (.invokespecial 139, 3) := by decide +kernel
theorem dX10_sign_35 : decode cX10_sign 35 = .ok (.athrow, 1) := by decide +kernel
theorem dX10_sign_36 : decode cX10_sign 36 = .ok (.aload_n 3, 1) := by decide +kernel
theorem dX10_sign_37 : decode cX10_sign 37 = .ok (.iload_n 2, 1) := by decide +kernel
theorem dX10_sign_38 : decode cX10_sign 38 = .ok (.invokevirtual 140, 3) := by decide +kernel
theorem dX10_sign_41 : decode cX10_sign 41 = .ok (.ireturn, 1) := by decide +kernel
theorem dX10_fault_0 : decode cX10_fault 0 = .ok (.iload_n 1, 1) := by decide +kernel
theorem dX10_fault_1 : decode cX10_fault 1 = .ok (.invokestatic 101, 3) := by decide +kernel
theorem dX10_fault_4 : decode cX10_fault 4 = .ok (.aload_n 0, 1) := by decide +kernel
theorem dX10_fault_5 : decode cX10_fault 5 = .ok (.getfield 19, 3) := by decide +kernel
theorem dX10_fault_8 : decode cX10_fault 8 = .ok (.iload_n 1, 1) := by decide +kernel
theorem dX10_fault_9 : decode cX10_fault 9 = .ok (.invokevirtual 143, 3) := by decide +kernel
theorem dX10_fault_12 : decode cX10_fault 12 = .ok (.ireturn, 1) := by decide +kernel
theorem dX10_set_0 : decode cX10_set 0 = .ok (.iload_n 1, 1) := by decide +kernel
theorem dX10_set_1 : decode cX10_set 1 = .ok (.invokestatic 101, 3) := by decide +kernel
theorem dX10_set_4 : decode cX10_set 4 = .ok (.aload_n 0, 1) := by decide +kernel
theorem dX10_set_5 : decode cX10_set 5 = .ok (.iload_n 1, 1) := by decide +kernel
theorem dX10_set_6 : decode cX10_set 6 = .ok (.invokevirtual 146, 3) := by decide +kernel
theorem dX10_set_9 : decode cX10_set 9 = .ok (.aload_n 0, 1) := by decide +kernel
theorem dX10_set_10 : decode cX10_set 10 = .ok (.getfield 19, 3) := by decide +kernel
theorem dX10_set_13 : decode cX10_set 13 = .ok (.iload_n 1, 1) := by decide +kernel
theorem dX10_set_14 : decode cX10_set 14 = .ok (.aload_n 0, 1) := by decide +kernel
theorem dX10_set_15 : decode cX10_set 15 = .ok (.getfield 12, 3) := by decide +kernel
theorem dX10_set_18 : decode cX10_set 18 = .ok (.invokevirtual 149, 3) := by decide +kernel
theorem dX10_set_21 : decode cX10_set 21 = .ok (.aload_n 0, 1) := by decide +kernel
theorem dX10_set_22 : decode cX10_set 22 = .ok (.getfield 19, 3) := by decide +kernel
theorem dX10_set_25 : decode cX10_set 25 = .ok (.getfield 153, 3) := by decide +kernel
theorem dX10_set_28 : decode cX10_set 28 = .ok (.iload_n 1, 1) := by decide +kernel
theorem dX10_set_29 : decode cX10_set 29 = .ok (.iaload, 1) := by decide +kernel
theorem dX10_set_30 : decode cX10_set 30 = .ok (.aload_n 0, 1) := by decide +kernel
theorem dX10_set_31 : decode cX10_set 31 = .ok (.getfield 19, 3) := by decide +kernel
theorem dX10_set_34 : decode cX10_set 34 = .ok (.getfield 156, 3) := by decide +kernel
theorem dX10_set_37 : decode cX10_set 37 = .ok (.iload_n 1, 1) := by decide +kernel
theorem dX10_set_38 : decode cX10_set 38 = .ok (.iaload, 1) := by decide +kernel
theorem dX10_set_39 : decode cX10_set 39 = .ok (.ixor, 1) := by decide +kernel
theorem dX10_set_40 : decode cX10_set 40 = .ok (.istore_n 2, 1) := by decide +kernel
theorem dX10_set_41 : decode cX10_set 41 = .ok (.aload_n 0, 1) := by decide +kernel
theorem dX10_set_42 : decode cX10_set 42 = .ok (.getfield 19, 3) := by decide +kernel
theorem dX10_set_45 : decode cX10_set 45 = .ok (.iload_n 1, 1) := by decide +kernel
theorem dX10_set_46 : decode cX10_set 46 = .ok (.invokevirtual 159, 3) := by decide +kernel
theorem dX10_set_49 : decode cX10_set 49 = .ok (.iload_n 2, 1) := by decide +kernel
theorem dX10_set_50 : decode cX10_set 50 = .ok (.invokestatic 162, 3) := by decide +kernel
theorem dX10_set_53 : decode cX10_set 53 = .ok (.ireturn, 1) := by decide +kernel
theorem dX10_wouldMove_0 : decode cX10_wouldMove 0 = .ok (.iload_n 1, 1) := by decide +kernel
theorem dX10_wouldMove_1 : decode cX10_wouldMove 1 = .ok (.invokestatic 101, 3) := by decide +kernel
theorem dX10_wouldMove_4 : decode cX10_wouldMove 4 = .ok (.aload_n 0, 1) := by decide +kernel
theorem dX10_wouldMove_5 : decode cX10_wouldMove 5 = .ok (.iload_n 1, 1) := by decide +kernel
theorem dX10_wouldMove_6 : decode cX10_wouldMove 6 = .ok (.invokevirtual 146, 3) := by decide +kernel
theorem dX10_wouldMove_9 : decode cX10_wouldMove 9 = .ok (.aload_n 0, 1) := by decide +kernel
theorem dX10_wouldMove_10 : decode cX10_wouldMove 10 = .ok (.getfield 19, 3) := by decide +kernel
theorem dX10_wouldMove_13 : decode cX10_wouldMove 13 = .ok (.iload_n 1, 1) := by decide +kernel
theorem dX10_wouldMove_14 : decode cX10_wouldMove 14 = .ok (.aload_n 0, 1) := by decide +kernel
theorem dX10_wouldMove_15 : decode cX10_wouldMove 15 = .ok (.getfield 12, 3) := by decide +kernel
theorem dX10_wouldMove_18 : decode cX10_wouldMove 18 = .ok (.invokevirtual 149, 3) := by decide +kernel
theorem dX10_wouldMove_21 : decode cX10_wouldMove 21 = .ok (.iconst 0, 1) := by decide +kernel
theorem dX10_wouldMove_22 : decode cX10_wouldMove 22 = .ok (.istore_n 2, 1) := by decide +kernel
theorem dX10_wouldMove_23 : decode cX10_wouldMove 23 = .ok (.iconst 0, 1) := by decide +kernel
theorem dX10_wouldMove_24 : decode cX10_wouldMove 24 = .ok (.istore_n 3, 1) := by decide +kernel
theorem dX10_wouldMove_25 : decode cX10_wouldMove 25 = .ok (.iload_n 3, 1) := by decide +kernel
theorem dX10_wouldMove_26 : decode cX10_wouldMove 26 = .ok (.bipush 20, 2) := by decide +kernel
theorem dX10_wouldMove_28 : decode cX10_wouldMove 28 = .ok (.if_icmp .ge 70, 3) := by decide +kernel
theorem dX10_wouldMove_31 : decode cX10_wouldMove 31 = .ok (.aload_n 0, 1) := by decide +kernel
theorem dX10_wouldMove_32 : decode cX10_wouldMove 32 = .ok (.aload_n 0, 1) := by decide +kernel
theorem dX10_wouldMove_33 : decode cX10_wouldMove 33 = .ok (.getfield 62, 3) := by decide +kernel
theorem dX10_wouldMove_36 : decode cX10_wouldMove 36 = .ok (.iload_n 3, 1) := by decide +kernel
theorem dX10_wouldMove_37 : decode cX10_wouldMove 37 = .ok (.aload_n 0, 1) := by decide +kernel
theorem dX10_wouldMove_38 : decode cX10_wouldMove 38 = .ok (.getfield 19, 3) := by decide +kernel
theorem dX10_wouldMove_41 : decode cX10_wouldMove 41 = .ok (.getfield 153, 3) := by decide +kernel
theorem dX10_wouldMove_44 : decode cX10_wouldMove 44 = .ok (.aload_n 0, 1) := by decide +kernel
theorem dX10_wouldMove_45 : decode cX10_wouldMove 45 = .ok (.getfield 53, 3) := by decide +kernel
theorem dX10_wouldMove_48 : decode cX10_wouldMove 48 = .ok (.iload_n 3, 1) := by decide +kernel
theorem dX10_wouldMove_49 : decode cX10_wouldMove 49 = .ok (.aaload, 1) := by decide +kernel
theorem dX10_wouldMove_50 : decode cX10_wouldMove 50 = .ok (.invokevirtual 167, 3) := by decide +kernel
theorem dX10_wouldMove_53 : decode cX10_wouldMove 53 = .ok (.aload_n 0, 1) := by decide +kernel
theorem dX10_wouldMove_54 : decode cX10_wouldMove 54 = .ok (.aload_n 0, 1) := by decide +kernel
theorem dX10_wouldMove_55 : decode cX10_wouldMove 55 = .ok (.getfield 66, 3) := by decide +kernel
theorem dX10_wouldMove_58 : decode cX10_wouldMove 58 = .ok (.iload_n 3, 1) := by decide +kernel
theorem dX10_wouldMove_59 : decode cX10_wouldMove 59 = .ok (.aload_n 0, 1) := by decide +kernel
theorem dX10_wouldMove_60 : decode cX10_wouldMove 60 = .ok (.getfield 19, 3) := by decide +kernel
theorem dX10_wouldMove_63 : decode cX10_wouldMove 63 = .ok (.getfield 156, 3) := by decide +kernel
theorem dX10_wouldMove_66 : decode cX10_wouldMove 66 = .ok (.aload_n 0, 1) := by decide +kernel
theorem dX10_wouldMove_67 : decode cX10_wouldMove 67 = .ok (.getfield 53, 3) := by decide +kernel
theorem dX10_wouldMove_70 : decode cX10_wouldMove 70 = .ok (.iload_n 3, 1) := by decide +kernel
theorem dX10_wouldMove_71 : decode cX10_wouldMove 71 = .ok (.aaload, 1) := by decide +kernel
theorem dX10_wouldMove_72 : decode cX10_wouldMove 72 = .ok (.invokevirtual 167, 3) := by decide +kernel
theorem dX10_wouldMove_75 : decode cX10_wouldMove 75 = .ok (.aload_n 0, 1) := by decide +kernel
theorem dX10_wouldMove_76 : decode cX10_wouldMove 76 = .ok (.getfield 62, 3) := by decide +kernel
theorem dX10_wouldMove_79 : decode cX10_wouldMove 79 = .ok (.aload_n 0, 1) := by decide +kernel
theorem dX10_wouldMove_80 : decode cX10_wouldMove 80 = .ok (.getfield 66, 3) := by decide +kernel
theorem dX10_wouldMove_83 : decode cX10_wouldMove 83 = .ok (.invokestatic 171, 3) := by decide +kernel
theorem dX10_wouldMove_86 : decode cX10_wouldMove 86 = .ok (.ifCond .eq 6, 3) := by decide +kernel
theorem dX10_wouldMove_89 : decode cX10_wouldMove 89 = .ok (.iinc 2 1, 3) := by decide +kernel
theorem dX10_wouldMove_92 : decode cX10_wouldMove 92 = .ok (.iinc 3 1, 3) := by decide +kernel
theorem dX10_wouldMove_95 : decode cX10_wouldMove 95 = .ok (.goto (-70), 3) := by decide +kernel
theorem dX10_wouldMove_98 : decode cX10_wouldMove 98 = .ok (.iload_n 2, 1) := by decide +kernel
theorem dX10_wouldMove_99 : decode cX10_wouldMove 99 = .ok (.ireturn, 1) := by decide +kernel
theorem dX10_isIn_0 : decode cX10_isIn 0 = .ok (.iload_n 1, 1) := by decide +kernel
theorem dX10_isIn_1 : decode cX10_isIn 1 = .ok (.invokestatic 101, 3) := by decide +kernel
theorem dX10_isIn_4 : decode cX10_isIn 4 = .ok (.iload_n 2, 1) := by decide +kernel
theorem dX10_isIn_5 : decode cX10_isIn 5 = .ok (.invokestatic 71, 3) := by decide +kernel
theorem dX10_isIn_8 : decode cX10_isIn 8 = .ok (.aload_n 0, 1) := by decide +kernel
theorem dX10_isIn_9 : decode cX10_isIn 9 = .ok (.getfield 19, 3) := by decide +kernel
theorem dX10_isIn_12 : decode cX10_isIn 12 = .ok (.getfield 153, 3) := by decide +kernel
theorem dX10_isIn_15 : decode cX10_isIn 15 = .ok (.iload_n 1, 1) := by decide +kernel
theorem dX10_isIn_16 : decode cX10_isIn 16 = .ok (.iaload, 1) := by decide +kernel
theorem dX10_isIn_17 : decode cX10_isIn 17 = .ok (.iload_n 2, 1) := by decide +kernel
theorem dX10_isIn_18 : decode cX10_isIn 18 = .ok (.invokestatic 93, 3) := by decide +kernel
theorem dX10_isIn_21 : decode cX10_isIn 21 = .ok (.ireturn, 1) := by decide +kernel
theorem dX10_addRule_0 : decode cX10_addRule 0 = .ok (.iload_n 1, 1) := by decide +kernel
theorem dX10_addRule_1 : decode cX10_addRule 1 = .ok (.invokestatic 175, 3) := by decide +kernel
theorem dX10_addRule_4 : decode cX10_addRule 4 = .ok (.iload_n 3, 1) := by decide +kernel
theorem dX10_addRule_5 : decode cX10_addRule 5 = .ok (.invokestatic 101, 3) := by decide +kernel
theorem dX10_addRule_8 : decode cX10_addRule 8 = .ok (.iload 4, 2) := by decide +kernel
theorem dX10_addRule_10 : decode cX10_addRule 10 = .ok (.iconst 0, 1) := by decide +kernel
theorem dX10_addRule_11 : decode cX10_addRule 11 = .ok (.bipush 9, 2) := by decide +kernel
theorem dX10_addRule_13 : decode cX10_addRule 13 = .ok (.invokestatic 74, 3) := by decide +kernel
theorem dX10_addRule_16 : decode cX10_addRule 16 = .ok (.aload_n 0, 1) := by decide +kernel
theorem dX10_addRule_17 : decode cX10_addRule 17 = .ok (.getfield 25, 3) := by decide +kernel
theorem dX10_addRule_20 : decode cX10_addRule 20 = .ok (.iload_n 1, 1) := by decide +kernel
theorem dX10_addRule_21 : decode cX10_addRule 21 = .ok (.aaload, 1) := by decide +kernel
theorem dX10_addRule_22 : decode cX10_addRule 22 = .ok (.astore 5, 2) := by decide +kernel
theorem dX10_addRule_24 : decode cX10_addRule 24 = .ok (.iload_n 2, 1) := by decide +kernel
theorem dX10_addRule_25 : decode cX10_addRule 25 = .ok (.ifCond .lt 12, 3) := by decide +kernel
theorem dX10_addRule_28 : decode cX10_addRule 28 = .ok (.iload_n 2, 1) := by decide +kernel
theorem dX10_addRule_29 : decode cX10_addRule 29 = .ok (.aload 5, 2) := by decide +kernel
theorem dX10_addRule_31 : decode cX10_addRule 31 = .ok (.getfield 178, 3) := by decide +kernel
theorem dX10_addRule_34 : decode cX10_addRule 34 = .ok (.if_icmp .le 13, 3) := by decide +kernel
theorem dX10_addRule_37 : decode cX10_addRule 37 = .ok (.new 135, 3) := by decide +kernel
theorem dX10_addRule_40 : decode cX10_addRule 40 = .ok (.dup, 1) := by decide +kernel
theorem dX10_addRule_41 : decode cX10_addRule 41 = .ok (.ldc 181, 2) := by decide +kernel
theorem dX10_addRule_43 : decode cX10_addRule 43 = .ok (.invokespecial 139, 3) := by decide +kernel
theorem dX10_addRule_46 : decode cX10_addRule 46 = .ok (.athrow, 1) := by decide +kernel
theorem dX10_addRule_47 : decode cX10_addRule 47 = .ok (.aload 5, 2) := by decide +kernel
theorem dX10_addRule_49 : decode cX10_addRule 49 = .ok (.getfield 178, 3) := by decide +kernel
theorem dX10_addRule_52 : decode cX10_addRule 52 = .ok (.iconst 5, 1) := by decide +kernel
theorem dX10_addRule_53 : decode cX10_addRule 53 = .ok (.if_icmp .lt 13, 3) := by decide +kernel
theorem dX10_addRule_56 : decode cX10_addRule 56 = .ok (.new 114, 3) := by decide +kernel
theorem dX10_addRule_59 : decode cX10_addRule 59 = .ok (.dup, 1) := by decide +kernel
theorem dX10_addRule_60 : decode cX10_addRule 60 = .ok (.ldc 183, 2) := by decide +kernel
theorem dX10_addRule_62 : decode cX10_addRule 62 = .ok (.invokespecial 118, 3) := by decide +kernel
theorem dX10_addRule_65 : decode cX10_addRule 65 = .ok (.athrow, 1) := by decide +kernel
theorem dX10_addRule_66 : decode cX10_addRule 66 = .ok (.aload 5, 2) := by decide +kernel
theorem dX10_addRule_68 : decode cX10_addRule 68 = .ok (.iload_n 2, 1) := by decide +kernel
theorem dX10_addRule_69 : decode cX10_addRule 69 = .ok (.iload_n 3, 1) := by decide +kernel
theorem dX10_addRule_70 : decode cX10_addRule 70 = .ok (.iload 4, 2) := by decide +kernel
theorem dX10_addRule_72 : decode cX10_addRule 72 = .ok (.invokevirtual 185, 3) := by decide +kernel
theorem dX10_addRule_75 : decode cX10_addRule 75 = .ok (.aload 5, 2) := by decide +kernel
theorem dX10_addRule_77 : decode cX10_addRule 77 = .ok (.getfield 178, 3) := by decide +kernel
theorem dX10_addRule_80 : decode cX10_addRule 80 = .ok (.ireturn, 1) := by decide +kernel
theorem dX10_removeRule_0 : decode cX10_removeRule 0 = .ok (.iload_n 1, 1) := by decide +kernel
theorem dX10_removeRule_1 : decode cX10_removeRule 1 = .ok (.invokestatic 175, 3) := by decide +kernel
theorem dX10_removeRule_4 : decode cX10_removeRule 4 = .ok (.aload_n 0, 1) := by decide +kernel
theorem dX10_removeRule_5 : decode cX10_removeRule 5 = .ok (.getfield 25, 3) := by decide +kernel
theorem dX10_removeRule_8 : decode cX10_removeRule 8 = .ok (.iload_n 1, 1) := by decide +kernel
theorem dX10_removeRule_9 : decode cX10_removeRule 9 = .ok (.aaload, 1) := by decide +kernel
theorem dX10_removeRule_10 : decode cX10_removeRule 10 = .ok (.astore_n 3, 1) := by decide +kernel
theorem dX10_removeRule_11 : decode cX10_removeRule 11 = .ok (.iload_n 2, 1) := by decide +kernel
theorem dX10_removeRule_12 : decode cX10_removeRule 12 = .ok (.ifCond .lt 11, 3) := by decide +kernel
theorem dX10_removeRule_15 : decode cX10_removeRule 15 = .ok (.iload_n 2, 1) := by decide +kernel
theorem dX10_removeRule_16 : decode cX10_removeRule 16 = .ok (.aload_n 3, 1) := by decide +kernel
theorem dX10_removeRule_17 : decode cX10_removeRule 17 = .ok (.getfield 178, 3) := by decide +kernel
theorem dX10_removeRule_20 : decode cX10_removeRule 20 = .ok (.if_icmp .lt 13, 3) := by decide +kernel
theorem dX10_removeRule_23 : decode cX10_removeRule 23 = .ok (.new 135, 3) := by decide +kernel
theorem dX10_removeRule_26 : decode cX10_removeRule 26 = .ok (.dup, 1) := by decide +kernel
theorem dX10_removeRule_27 : decode cX10_removeRule 27 = .ok (.ldc 188, 2) := by decide +kernel
theorem dX10_removeRule_29 : decode cX10_removeRule 29 = .ok (.invokespecial 139, 3) := by decide +kernel
theorem dX10_removeRule_32 : decode cX10_removeRule 32 = .ok (.athrow, 1) := by decide +kernel
theorem dX10_removeRule_33 : decode cX10_removeRule 33 = .ok (.aload_n 3, 1) := by decide +kernel
theorem dX10_removeRule_34 : decode cX10_removeRule 34 = .ok (.iload_n 2, 1) := by decide +kernel
theorem dX10_removeRule_35 : decode cX10_removeRule 35 = .ok (.invokevirtual 190, 3) := by decide +kernel
theorem dX10_removeRule_38 : decode cX10_removeRule 38 = .ok (.istore 4, 2) := by decide +kernel
theorem dX10_removeRule_40 : decode cX10_removeRule 40 = .ok (.aload_n 3, 1) := by decide +kernel
theorem dX10_removeRule_41 : decode cX10_removeRule 41 = .ok (.iload_n 2, 1) := by decide +kernel
theorem dX10_removeRule_42 : decode cX10_removeRule 42 = .ok (.invokevirtual 193, 3) := by decide +kernel
theorem dX10_removeRule_45 : decode cX10_removeRule 45 = .ok (.iload 4, 2) := by decide +kernel
theorem dX10_removeRule_47 : decode cX10_removeRule 47 = .ok (.ireturn, 1) := by decide +kernel
theorem dX10_rules_0 : decode cX10_rules 0 = .ok (.iload_n 1, 1) := by decide +kernel
theorem dX10_rules_1 : decode cX10_rules 1 = .ok (.invokestatic 175, 3) := by decide +kernel
theorem dX10_rules_4 : decode cX10_rules 4 = .ok (.aload_n 0, 1) := by decide +kernel
theorem dX10_rules_5 : decode cX10_rules 5 = .ok (.getfield 25, 3) := by decide +kernel
theorem dX10_rules_8 : decode cX10_rules 8 = .ok (.iload_n 1, 1) := by decide +kernel
theorem dX10_rules_9 : decode cX10_rules 9 = .ok (.aaload, 1) := by decide +kernel
theorem dX10_rules_10 : decode cX10_rules 10 = .ok (.getfield 178, 3) := by decide +kernel
theorem dX10_rules_13 : decode cX10_rules 13 = .ok (.ireturn, 1) := by decide +kernel
theorem dX10_setNeed_0 : decode cX10_setNeed 0 = .ok (.iload_n 1, 1) := by decide +kernel
theorem dX10_setNeed_1 : decode cX10_setNeed 1 = .ok (.invokestatic 175, 3) := by decide +kernel
theorem dX10_setNeed_4 : decode cX10_setNeed 4 = .ok (.iload_n 2, 1) := by decide +kernel
theorem dX10_setNeed_5 : decode cX10_setNeed 5 = .ok (.invokestatic 175, 3) := by decide +kernel
theorem dX10_setNeed_8 : decode cX10_setNeed 8 = .ok (.iload_n 1, 1) := by decide +kernel
theorem dX10_setNeed_9 : decode cX10_setNeed 9 = .ok (.iload_n 2, 1) := by decide +kernel
theorem dX10_setNeed_10 : decode cX10_setNeed 10 = .ok (.if_icmp .ne 13, 3) := by decide +kernel
theorem dX10_setNeed_13 : decode cX10_setNeed 13 = .ok (.new 124, 3) := by decide +kernel
theorem dX10_setNeed_16 : decode cX10_setNeed 16 = .ok (.dup, 1) := by decide +kernel
theorem dX10_setNeed_17 : decode cX10_setNeed 17 = .ok (.ldc 196, 2) := by decide +kernel
theorem dX10_setNeed_19 : decode cX10_setNeed 19 = .ok (.invokespecial 128, 3) := by decide +kernel
theorem dX10_setNeed_22 : decode cX10_setNeed 22 = .ok (.athrow, 1) := by decide +kernel
theorem dX10_setNeed_23 : decode cX10_setNeed 23 = .ok (.aload_n 0, 1) := by decide +kernel
theorem dX10_setNeed_24 : decode cX10_setNeed 24 = .ok (.getfield 34, 3) := by decide +kernel
theorem dX10_setNeed_27 : decode cX10_setNeed 27 = .ok (.getfield 198, 3) := by decide +kernel
theorem dX10_setNeed_30 : decode cX10_setNeed 30 = .ok (.iload_n 1, 1) := by decide +kernel
theorem dX10_setNeed_31 : decode cX10_setNeed 31 = .ok (.iaload, 1) := by decide +kernel
theorem dX10_setNeed_32 : decode cX10_setNeed 32 = .ok (.istore 4, 2) := by decide +kernel
theorem dX10_setNeed_34 : decode cX10_setNeed 34 = .ok (.iload 4, 2) := by decide +kernel
theorem dX10_setNeed_36 : decode cX10_setNeed 36 = .ok (.iload_n 2, 1) := by decide +kernel
theorem dX10_setNeed_37 : decode cX10_setNeed 37 = .ok (.iload_n 3, 1) := by decide +kernel
theorem dX10_setNeed_38 : decode cX10_setNeed 38 = .ok (.invokestatic 97, 3) := by decide +kernel
theorem dX10_setNeed_41 : decode cX10_setNeed 41 = .ok (.istore 5, 2) := by decide +kernel
theorem dX10_setNeed_43 : decode cX10_setNeed 43 = .ok (.iload_n 3, 1) := by decide +kernel
theorem dX10_setNeed_44 : decode cX10_setNeed 44 = .ok (.ifCond .eq 26, 3) := by decide +kernel
theorem dX10_setNeed_47 : decode cX10_setNeed 47 = .ok (.aload_n 0, 1) := by decide +kernel
theorem dX10_setNeed_48 : decode cX10_setNeed 48 = .ok (.getfield 34, 3) := by decide +kernel
theorem dX10_setNeed_51 : decode cX10_setNeed 51 = .ok (.iload_n 1, 1) := by decide +kernel
theorem dX10_setNeed_52 : decode cX10_setNeed 52 = .ok (.iload 5, 2) := by decide +kernel
theorem dX10_setNeed_54 : decode cX10_setNeed 54 = .ok (.invokevirtual 201, 3) := by decide +kernel
theorem dX10_setNeed_57 : decode cX10_setNeed 57 = .ok (.ifCond .eq 13, 3) := by decide +kernel
theorem dX10_setNeed_60 : decode cX10_setNeed 60 = .ok (.new 114, 3) := by decide +kernel
theorem dX10_setNeed_63 : decode cX10_setNeed 63 = .ok (.dup, 1) := by decide +kernel
theorem dX10_setNeed_64 : decode cX10_setNeed 64 = .ok (.ldc 204, 2) := by decide +kernel
theorem dX10_setNeed_66 : decode cX10_setNeed 66 = .ok (.invokespecial 118, 3) := by decide +kernel
theorem dX10_setNeed_69 : decode cX10_setNeed 69 = .ok (.athrow, 1) := by decide +kernel
theorem dX10_setNeed_70 : decode cX10_setNeed 70 = .ok (.aload_n 0, 1) := by decide +kernel
theorem dX10_setNeed_71 : decode cX10_setNeed 71 = .ok (.getfield 34, 3) := by decide +kernel
theorem dX10_setNeed_74 : decode cX10_setNeed 74 = .ok (.iload_n 1, 1) := by decide +kernel
theorem dX10_setNeed_75 : decode cX10_setNeed 75 = .ok (.iload 5, 2) := by decide +kernel
theorem dX10_setNeed_77 : decode cX10_setNeed 77 = .ok (.invokevirtual 206, 3) := by decide +kernel
theorem dX10_setNeed_80 : decode cX10_setNeed 80 = .ok (.iload 4, 2) := by decide +kernel
theorem dX10_setNeed_82 : decode cX10_setNeed 82 = .ok (.iload_n 2, 1) := by decide +kernel
theorem dX10_setNeed_83 : decode cX10_setNeed 83 = .ok (.invokestatic 93, 3) := by decide +kernel
theorem dX10_setNeed_86 : decode cX10_setNeed 86 = .ok (.ireturn, 1) := by decide +kernel
theorem dX10_view_0 : decode cX10_view 0 = .ok (.iload_n 1, 1) := by decide +kernel
theorem dX10_view_1 : decode cX10_view 1 = .ok (.invokestatic 71, 3) := by decide +kernel
theorem dX10_view_4 : decode cX10_view 4 = .ok (.iload_n 2, 1) := by decide +kernel
theorem dX10_view_5 : decode cX10_view 5 = .ok (.invokestatic 175, 3) := by decide +kernel
theorem dX10_view_8 : decode cX10_view 8 = .ok (.aload_n 0, 1) := by decide +kernel
theorem dX10_view_9 : decode cX10_view 9 = .ok (.iload_n 1, 1) := by decide +kernel
theorem dX10_view_10 : decode cX10_view 10 = .ok (.iload_n 2, 1) := by decide +kernel
theorem dX10_view_11 : decode cX10_view 11 = .ok (.invokevirtual 210, 3) := by decide +kernel
theorem dX10_view_14 : decode cX10_view 14 = .ok (.ireturn, 1) := by decide +kernel
theorem dX10_viewByLog_0 : decode cX10_viewByLog 0 = .ok (.iload_n 1, 1) := by decide +kernel
theorem dX10_viewByLog_1 : decode cX10_viewByLog 1 = .ok (.invokestatic 71, 3) := by decide +kernel
theorem dX10_viewByLog_4 : decode cX10_viewByLog 4 = .ok (.iload_n 2, 1) := by decide +kernel
theorem dX10_viewByLog_5 : decode cX10_viewByLog 5 = .ok (.invokestatic 175, 3) := by decide +kernel
theorem dX10_viewByLog_8 : decode cX10_viewByLog 8 = .ok (.aload_n 0, 1) := by decide +kernel
theorem dX10_viewByLog_9 : decode cX10_viewByLog 9 = .ok (.getfield 58, 3) := by decide +kernel
theorem dX10_viewByLog_12 : decode cX10_viewByLog 12 = .ok (.invokevirtual 213, 3) := by decide +kernel
theorem dX10_viewByLog_15 : decode cX10_viewByLog 15 = .ok (.iconst 0, 1) := by decide +kernel
theorem dX10_viewByLog_16 : decode cX10_viewByLog 16 = .ok (.istore_n 3, 1) := by decide +kernel
theorem dX10_viewByLog_17 : decode cX10_viewByLog 17 = .ok (.iload_n 3, 1) := by decide +kernel
theorem dX10_viewByLog_18 : decode cX10_viewByLog 18 = .ok (.aload_n 0, 1) := by decide +kernel
theorem dX10_viewByLog_19 : decode cX10_viewByLog 19 = .ok (.getfield 47, 3) := by decide +kernel
theorem dX10_viewByLog_22 : decode cX10_viewByLog 22 = .ok (.invokevirtual 216, 3) := by decide +kernel
theorem dX10_viewByLog_25 : decode cX10_viewByLog 25 = .ok (.if_icmp .ge 45, 3) := by decide +kernel
theorem dX10_viewByLog_28 : decode cX10_viewByLog 28 = .ok (.aload_n 0, 1) := by decide +kernel
theorem dX10_viewByLog_29 : decode cX10_viewByLog 29 = .ok (.getfield 47, 3) := by decide +kernel
theorem dX10_viewByLog_32 : decode cX10_viewByLog 32 = .ok (.iload_n 3, 1) := by decide +kernel
theorem dX10_viewByLog_33 : decode cX10_viewByLog 33 = .ok (.invokevirtual 220, 3) := by decide +kernel
theorem dX10_viewByLog_36 : decode cX10_viewByLog 36 = .ok (.checkcast 224, 3) := by decide +kernel
theorem dX10_viewByLog_39 : decode cX10_viewByLog 39 = .ok (.iload_n 1, 1) := by decide +kernel
theorem dX10_viewByLog_40 : decode cX10_viewByLog 40 = .ok (.invokevirtual 226, 3) := by decide +kernel
theorem dX10_viewByLog_43 : decode cX10_viewByLog 43 = .ok (.ifCond .eq 21, 3) := by decide +kernel
theorem dX10_viewByLog_46 : decode cX10_viewByLog 46 = .ok (.aload_n 0, 1) := by decide +kernel
theorem dX10_viewByLog_47 : decode cX10_viewByLog 47 = .ok (.getfield 58, 3) := by decide +kernel
theorem dX10_viewByLog_50 : decode cX10_viewByLog 50 = .ok (.aload_n 0, 1) := by decide +kernel
theorem dX10_viewByLog_51 : decode cX10_viewByLog 51 = .ok (.getfield 47, 3) := by decide +kernel
theorem dX10_viewByLog_54 : decode cX10_viewByLog 54 = .ok (.iload_n 3, 1) := by decide +kernel
theorem dX10_viewByLog_55 : decode cX10_viewByLog 55 = .ok (.invokevirtual 220, 3) := by decide +kernel
theorem dX10_viewByLog_58 : decode cX10_viewByLog 58 = .ok (.checkcast 224, 3) := by decide +kernel
theorem dX10_viewByLog_61 : decode cX10_viewByLog 61 = .ok (.invokevirtual 230, 3) := by decide +kernel
theorem dX10_viewByLog_64 : decode cX10_viewByLog 64 = .ok (.iinc 3 1, 3) := by decide +kernel
theorem dX10_viewByLog_67 : decode cX10_viewByLog 67 = .ok (.goto (-50), 3) := by decide +kernel
theorem dX10_viewByLog_70 : decode cX10_viewByLog 70 = .ok (.aload_n 0, 1) := by decide +kernel
theorem dX10_viewByLog_71 : decode cX10_viewByLog 71 = .ok (.aload_n 0, 1) := by decide +kernel
theorem dX10_viewByLog_72 : decode cX10_viewByLog 72 = .ok (.getfield 62, 3) := by decide +kernel
theorem dX10_viewByLog_75 : decode cX10_viewByLog 75 = .ok (.iload_n 1, 1) := by decide +kernel
theorem dX10_viewByLog_76 : decode cX10_viewByLog 76 = .ok (.aload_n 0, 1) := by decide +kernel
theorem dX10_viewByLog_77 : decode cX10_viewByLog 77 = .ok (.getfield 19, 3) := by decide +kernel
theorem dX10_viewByLog_80 : decode cX10_viewByLog 80 = .ok (.getfield 153, 3) := by decide +kernel
theorem dX10_viewByLog_83 : decode cX10_viewByLog 83 = .ok (.aload_n 0, 1) := by decide +kernel
theorem dX10_viewByLog_84 : decode cX10_viewByLog 84 = .ok (.getfield 58, 3) := by decide +kernel
theorem dX10_viewByLog_87 : decode cX10_viewByLog 87 = .ok (.invokevirtual 167, 3) := by decide +kernel
theorem dX10_viewByLog_90 : decode cX10_viewByLog 90 = .ok (.aload_n 0, 1) := by decide +kernel
theorem dX10_viewByLog_91 : decode cX10_viewByLog 91 = .ok (.getfield 62, 3) := by decide +kernel
theorem dX10_viewByLog_94 : decode cX10_viewByLog 94 = .ok (.iload_n 2, 1) := by decide +kernel
theorem dX10_viewByLog_95 : decode cX10_viewByLog 95 = .ok (.iaload, 1) := by decide +kernel
theorem dX10_viewByLog_96 : decode cX10_viewByLog 96 = .ok (.ireturn, 1) := by decide +kernel
theorem dX10_ruleFor_0 : decode cX10_ruleFor 0 = .ok (.iload_n 1, 1) := by decide +kernel
theorem dX10_ruleFor_1 : decode cX10_ruleFor 1 = .ok (.invokestatic 71, 3) := by decide +kernel
theorem dX10_ruleFor_4 : decode cX10_ruleFor 4 = .ok (.iload_n 2, 1) := by decide +kernel
theorem dX10_ruleFor_5 : decode cX10_ruleFor 5 = .ok (.invokestatic 175, 3) := by decide +kernel
theorem dX10_ruleFor_8 : decode cX10_ruleFor 8 = .ok (.aload_n 0, 1) := by decide +kernel
theorem dX10_ruleFor_9 : decode cX10_ruleFor 9 = .ok (.getfield 25, 3) := by decide +kernel
theorem dX10_ruleFor_12 : decode cX10_ruleFor 12 = .ok (.iload_n 2, 1) := by decide +kernel
theorem dX10_ruleFor_13 : decode cX10_ruleFor 13 = .ok (.aaload, 1) := by decide +kernel
theorem dX10_ruleFor_14 : decode cX10_ruleFor 14 = .ok (.iload_n 1, 1) := by decide +kernel
theorem dX10_ruleFor_15 : decode cX10_ruleFor 15 = .ok (.aload_n 0, 1) := by decide +kernel
theorem dX10_ruleFor_16 : decode cX10_ruleFor 16 = .ok (.getfield 19, 3) := by decide +kernel
theorem dX10_ruleFor_19 : decode cX10_ruleFor 19 = .ok (.getfield 153, 3) := by decide +kernel
theorem dX10_ruleFor_22 : decode cX10_ruleFor 22 = .ok (.invokevirtual 234, 3) := by decide +kernel
theorem dX10_ruleFor_25 : decode cX10_ruleFor 25 = .ok (.ireturn, 1) := by decide +kernel
theorem dX10_reach_0 : decode cX10_reach 0 = .ok (.iload_n 1, 1) := by decide +kernel
theorem dX10_reach_1 : decode cX10_reach 1 = .ok (.invokestatic 175, 3) := by decide +kernel
theorem dX10_reach_4 : decode cX10_reach 4 = .ok (.iload_n 2, 1) := by decide +kernel
theorem dX10_reach_5 : decode cX10_reach 5 = .ok (.invokestatic 238, 3) := by decide +kernel
theorem dX10_reach_8 : decode cX10_reach 8 = .ok (.iconst 0, 1) := by decide +kernel
theorem dX10_reach_9 : decode cX10_reach 9 = .ok (.istore_n 3, 1) := by decide +kernel
theorem dX10_reach_10 : decode cX10_reach 10 = .ok (.iconst 0, 1) := by decide +kernel
theorem dX10_reach_11 : decode cX10_reach 11 = .ok (.istore 4, 2) := by decide +kernel
theorem dX10_reach_13 : decode cX10_reach 13 = .ok (.iload 4, 2) := by decide +kernel
theorem dX10_reach_15 : decode cX10_reach 15 = .ok (.bipush 20, 2) := by decide +kernel
theorem dX10_reach_17 : decode cX10_reach 17 = .ok (.if_icmp .ge 23, 3) := by decide +kernel
theorem dX10_reach_20 : decode cX10_reach 20 = .ok (.aload_n 0, 1) := by decide +kernel
theorem dX10_reach_21 : decode cX10_reach 21 = .ok (.iload 4, 2) := by decide +kernel
theorem dX10_reach_23 : decode cX10_reach 23 = .ok (.iload_n 1, 1) := by decide +kernel
theorem dX10_reach_24 : decode cX10_reach 24 = .ok (.invokevirtual 210, 3) := by decide +kernel
theorem dX10_reach_27 : decode cX10_reach 27 = .ok (.iload_n 2, 1) := by decide +kernel
theorem dX10_reach_28 : decode cX10_reach 28 = .ok (.if_icmp .ne 6, 3) := by decide +kernel
theorem dX10_reach_31 : decode cX10_reach 31 = .ok (.iinc 3 1, 3) := by decide +kernel
theorem dX10_reach_34 : decode cX10_reach 34 = .ok (.iinc 4 1, 3) := by decide +kernel
theorem dX10_reach_37 : decode cX10_reach 37 = .ok (.goto (-24), 3) := by decide +kernel
theorem dX10_reach_40 : decode cX10_reach 40 = .ok (.iload_n 3, 1) := by decide +kernel
theorem dX10_reach_41 : decode cX10_reach 41 = .ok (.ireturn, 1) := by decide +kernel
theorem dX10_show_0 : decode cX10_show 0 = .ok (.iload_n 1, 1) := by decide +kernel
theorem dX10_show_1 : decode cX10_show 1 = .ok (.invokestatic 71, 3) := by decide +kernel
theorem dX10_show_4 : decode cX10_show 4 = .ok (.iload_n 2, 1) := by decide +kernel
theorem dX10_show_5 : decode cX10_show 5 = .ok (.invokestatic 175, 3) := by decide +kernel
theorem dX10_show_8 : decode cX10_show 8 = .ok (.aload_n 0, 1) := by decide +kernel
theorem dX10_show_9 : decode cX10_show 9 = .ok (.invokevirtual 241, 3) := by decide +kernel
theorem dX10_show_12 : decode cX10_show 12 = .ok (.aload_n 0, 1) := by decide +kernel
theorem dX10_show_13 : decode cX10_show 13 = .ok (.iload_n 1, 1) := by decide +kernel
theorem dX10_show_14 : decode cX10_show 14 = .ok (.iload_n 2, 1) := by decide +kernel
theorem dX10_show_15 : decode cX10_show 15 = .ok (.invokevirtual 210, 3) := by decide +kernel
theorem dX10_show_18 : decode cX10_show 18 = .ok (.istore_n 3, 1) := by decide +kernel
theorem dX10_show_19 : decode cX10_show 19 = .ok (.aload_n 0, 1) := by decide +kernel
theorem dX10_show_20 : decode cX10_show 20 = .ok (.iload_n 1, 1) := by decide +kernel
theorem dX10_show_21 : decode cX10_show 21 = .ok (.iload_n 2, 1) := by decide +kernel
theorem dX10_show_22 : decode cX10_show 22 = .ok (.invokevirtual 244, 3) := by decide +kernel
theorem dX10_show_25 : decode cX10_show 25 = .ok (.istore 4, 2) := by decide +kernel
theorem dX10_show_27 : decode cX10_show 27 = .ok (.aload_n 0, 1) := by decide +kernel
theorem dX10_show_28 : decode cX10_show 28 = .ok (.new 224, 3) := by decide +kernel
theorem dX10_show_31 : decode cX10_show 31 = .ok (.dup, 1) := by decide +kernel
theorem dX10_show_32 : decode cX10_show 32 = .ok (.aload_n 0, 1) := by decide +kernel
theorem dX10_show_33 : decode cX10_show 33 = .ok (.iload 4, 2) := by decide +kernel
theorem dX10_show_35 : decode cX10_show 35 = .ok (.iload_n 1, 1) := by decide +kernel
theorem dX10_show_36 : decode cX10_show 36 = .ok (.invokevirtual 247, 3) := by decide +kernel
theorem dX10_show_39 : decode cX10_show 39 = .ok (.ifCond .eq 7, 3) := by decide +kernel
theorem dX10_show_42 : decode cX10_show 42 = .ok (.iconst 1, 1) := by decide +kernel
theorem dX10_show_43 : decode cX10_show 43 = .ok (.goto 4, 3) := by decide +kernel
theorem dX10_show_46 : decode cX10_show 46 = .ok (.iconst 0, 1) := by decide +kernel
theorem dX10_show_47 : decode cX10_show 47 = .ok (.iload_n 1, 1) := by decide +kernel
theorem dX10_show_48 : decode cX10_show 48 = .ok (.iload_n 2, 1) := by decide +kernel
theorem dX10_show_49 : decode cX10_show 49 = .ok (.iload 4, 2) := by decide +kernel
theorem dX10_show_51 : decode cX10_show 51 = .ok (.iload_n 3, 1) := by decide +kernel
theorem dX10_show_52 : decode cX10_show 52 = .ok (.invokespecial 250, 3) := by decide +kernel
theorem dX10_show_55 : decode cX10_show 55 = .ok (.invokevirtual 253, 3) := by decide +kernel
theorem dX10_show_58 : decode cX10_show 58 = .ok (.iload_n 3, 1) := by decide +kernel
theorem dX10_show_59 : decode cX10_show 59 = .ok (.ireturn, 1) := by decide +kernel
theorem dX10_setShares_0 : decode cX10_setShares 0 = .ok (.iload_n 1, 1) := by decide +kernel
theorem dX10_setShares_1 : decode cX10_setShares 1 = .ok (.invokestatic 256, 3) := by decide +kernel
theorem dX10_setShares_4 : decode cX10_setShares 4 = .ok (.iload_n 2, 1) := by decide +kernel
theorem dX10_setShares_5 : decode cX10_setShares 5 = .ok (.iconst 0, 1) := by decide +kernel
theorem dX10_setShares_6 : decode cX10_setShares 6 = .ok (.bipush 100, 2) := by decide +kernel
theorem dX10_setShares_8 : decode cX10_setShares 8 = .ok (.invokestatic 74, 3) := by decide +kernel
theorem dX10_setShares_11 : decode cX10_setShares 11 = .ok (.iload_n 3, 1) := by decide +kernel
theorem dX10_setShares_12 : decode cX10_setShares 12 = .ok (.iconst 0, 1) := by decide +kernel
theorem dX10_setShares_13 : decode cX10_setShares 13 = .ok (.bipush 100, 2) := by decide +kernel
theorem dX10_setShares_15 : decode cX10_setShares 15 = .ok (.invokestatic 74, 3) := by decide +kernel
theorem dX10_setShares_18 : decode cX10_setShares 18 = .ok (.iload 4, 2) := by decide +kernel
theorem dX10_setShares_20 : decode cX10_setShares 20 = .ok (.iconst 0, 1) := by decide +kernel
theorem dX10_setShares_21 : decode cX10_setShares 21 = .ok (.bipush 100, 2) := by decide +kernel
theorem dX10_setShares_23 : decode cX10_setShares 23 = .ok (.invokestatic 74, 3) := by decide +kernel
theorem dX10_setShares_26 : decode cX10_setShares 26 = .ok (.iload 5, 2) := by decide +kernel
theorem dX10_setShares_28 : decode cX10_setShares 28 = .ok (.iconst 0, 1) := by decide +kernel
theorem dX10_setShares_29 : decode cX10_setShares 29 = .ok (.bipush 100, 2) := by decide +kernel
theorem dX10_setShares_31 : decode cX10_setShares 31 = .ok (.invokestatic 74, 3) := by decide +kernel
theorem dX10_setShares_34 : decode cX10_setShares 34 = .ok (.aload_n 0, 1) := by decide +kernel
theorem dX10_setShares_35 : decode cX10_setShares 35 = .ok (.iload_n 1, 1) := by decide +kernel
theorem dX10_setShares_36 : decode cX10_setShares 36 = .ok (.invokevirtual 259, 3) := by decide +kernel
theorem dX10_setShares_39 : decode cX10_setShares 39 = .ok (.aload_n 0, 1) := by decide +kernel
theorem dX10_setShares_40 : decode cX10_setShares 40 = .ok (.getfield 40, 3) := by decide +kernel
theorem dX10_setShares_43 : decode cX10_setShares 43 = .ok (.iload_n 1, 1) := by decide +kernel
theorem dX10_setShares_44 : decode cX10_setShares 44 = .ok (.aaload, 1) := by decide +kernel
theorem dX10_setShares_45 : decode cX10_setShares 45 = .ok (.invokevirtual 262, 3) := by decide +kernel
theorem dX10_setShares_48 : decode cX10_setShares 48 = .ok (.istore 6, 2) := by decide +kernel
theorem dX10_setShares_50 : decode cX10_setShares 50 = .ok (.aload_n 0, 1) := by decide +kernel
theorem dX10_setShares_51 : decode cX10_setShares 51 = .ok (.getfield 40, 3) := by decide +kernel
theorem dX10_setShares_54 : decode cX10_setShares 54 = .ok (.iload_n 1, 1) := by decide +kernel
theorem dX10_setShares_55 : decode cX10_setShares 55 = .ok (.aaload, 1) := by decide +kernel
theorem dX10_setShares_56 : decode cX10_setShares 56 = .ok (.iload_n 2, 1) := by decide +kernel
theorem dX10_setShares_57 : decode cX10_setShares 57 = .ok (.iload_n 3, 1) := by decide +kernel
theorem dX10_setShares_58 : decode cX10_setShares 58 = .ok (.iload 4, 2) := by decide +kernel
theorem dX10_setShares_60 : decode cX10_setShares 60 = .ok (.iload 5, 2) := by decide +kernel
theorem dX10_setShares_62 : decode cX10_setShares 62 = .ok (.invokevirtual 265, 3) := by decide +kernel
theorem dX10_setShares_65 : decode cX10_setShares 65 = .ok (.iload 6, 2) := by decide +kernel
theorem dX10_setShares_67 : decode cX10_setShares 67 = .ok (.ireturn, 1) := by decide +kernel
theorem dX10_setSalt_0 : decode cX10_setSalt 0 = .ok (.iload_n 1, 1) := by decide +kernel
theorem dX10_setSalt_1 : decode cX10_setSalt 1 = .ok (.invokestatic 256, 3) := by decide +kernel
theorem dX10_setSalt_4 : decode cX10_setSalt 4 = .ok (.iload_n 2, 1) := by decide +kernel
theorem dX10_setSalt_5 : decode cX10_setSalt 5 = .ok (.iconst 0, 1) := by decide +kernel
theorem dX10_setSalt_6 : decode cX10_setSalt 6 = .ok (.sipush 1000, 3) := by decide +kernel
theorem dX10_setSalt_9 : decode cX10_setSalt 9 = .ok (.invokestatic 74, 3) := by decide +kernel
theorem dX10_setSalt_12 : decode cX10_setSalt 12 = .ok (.aload_n 0, 1) := by decide +kernel
theorem dX10_setSalt_13 : decode cX10_setSalt 13 = .ok (.iload_n 1, 1) := by decide +kernel
theorem dX10_setSalt_14 : decode cX10_setSalt 14 = .ok (.invokevirtual 259, 3) := by decide +kernel
theorem dX10_setSalt_17 : decode cX10_setSalt 17 = .ok (.aload_n 0, 1) := by decide +kernel
theorem dX10_setSalt_18 : decode cX10_setSalt 18 = .ok (.getfield 40, 3) := by decide +kernel
theorem dX10_setSalt_21 : decode cX10_setSalt 21 = .ok (.iload_n 1, 1) := by decide +kernel
theorem dX10_setSalt_22 : decode cX10_setSalt 22 = .ok (.aaload, 1) := by decide +kernel
theorem dX10_setSalt_23 : decode cX10_setSalt 23 = .ok (.getfield 269, 3) := by decide +kernel
theorem dX10_setSalt_26 : decode cX10_setSalt 26 = .ok (.istore_n 3, 1) := by decide +kernel
theorem dX10_setSalt_27 : decode cX10_setSalt 27 = .ok (.aload_n 0, 1) := by decide +kernel
theorem dX10_setSalt_28 : decode cX10_setSalt 28 = .ok (.getfield 40, 3) := by decide +kernel
theorem dX10_setSalt_31 : decode cX10_setSalt 31 = .ok (.iload_n 1, 1) := by decide +kernel
theorem dX10_setSalt_32 : decode cX10_setSalt 32 = .ok (.aaload, 1) := by decide +kernel
theorem dX10_setSalt_33 : decode cX10_setSalt 33 = .ok (.iload_n 2, 1) := by decide +kernel
theorem dX10_setSalt_34 : decode cX10_setSalt 34 = .ok (.putfield 269, 3) := by decide +kernel
theorem dX10_setSalt_37 : decode cX10_setSalt 37 = .ok (.iload_n 3, 1) := by decide +kernel
theorem dX10_setSalt_38 : decode cX10_setSalt 38 = .ok (.ireturn, 1) := by decide +kernel
theorem dX10_stop_0 : decode cX10_stop 0 = .ok (.iload_n 1, 1) := by decide +kernel
theorem dX10_stop_1 : decode cX10_stop 1 = .ok (.invokestatic 256, 3) := by decide +kernel
theorem dX10_stop_4 : decode cX10_stop 4 = .ok (.iload_n 2, 1) := by decide +kernel
theorem dX10_stop_5 : decode cX10_stop 5 = .ok (.invokestatic 238, 3) := by decide +kernel
theorem dX10_stop_8 : decode cX10_stop 8 = .ok (.aload_n 0, 1) := by decide +kernel
theorem dX10_stop_9 : decode cX10_stop 9 = .ok (.iload_n 1, 1) := by decide +kernel
theorem dX10_stop_10 : decode cX10_stop 10 = .ok (.invokevirtual 259, 3) := by decide +kernel
theorem dX10_stop_13 : decode cX10_stop 13 = .ok (.iconst 0, 1) := by decide +kernel
theorem dX10_stop_14 : decode cX10_stop 14 = .ok (.istore_n 3, 1) := by decide +kernel
theorem dX10_stop_15 : decode cX10_stop 15 = .ok (.iconst 0, 1) := by decide +kernel
theorem dX10_stop_16 : decode cX10_stop 16 = .ok (.istore 4, 2) := by decide +kernel
theorem dX10_stop_18 : decode cX10_stop 18 = .ok (.iload 4, 2) := by decide +kernel
theorem dX10_stop_20 : decode cX10_stop 20 = .ok (.bipush 20, 2) := by decide +kernel
theorem dX10_stop_22 : decode cX10_stop 22 = .ok (.if_icmp .ge 23, 3) := by decide +kernel
theorem dX10_stop_25 : decode cX10_stop 25 = .ok (.aload_n 0, 1) := by decide +kernel
theorem dX10_stop_26 : decode cX10_stop 26 = .ok (.iload_n 1, 1) := by decide +kernel
theorem dX10_stop_27 : decode cX10_stop 27 = .ok (.iload 4, 2) := by decide +kernel
theorem dX10_stop_29 : decode cX10_stop 29 = .ok (.invokevirtual 272, 3) := by decide +kernel
theorem dX10_stop_32 : decode cX10_stop 32 = .ok (.iload_n 2, 1) := by decide +kernel
theorem dX10_stop_33 : decode cX10_stop 33 = .ok (.if_icmp .eq 6, 3) := by decide +kernel
theorem dX10_stop_36 : decode cX10_stop 36 = .ok (.iinc 3 1, 3) := by decide +kernel
theorem dX10_stop_39 : decode cX10_stop 39 = .ok (.iinc 4 1, 3) := by decide +kernel
theorem dX10_stop_42 : decode cX10_stop 42 = .ok (.goto (-24), 3) := by decide +kernel
theorem dX10_stop_45 : decode cX10_stop 45 = .ok (.aload_n 0, 1) := by decide +kernel
theorem dX10_stop_46 : decode cX10_stop 46 = .ok (.getfield 40, 3) := by decide +kernel
theorem dX10_stop_49 : decode cX10_stop 49 = .ok (.iload_n 1, 1) := by decide +kernel
theorem dX10_stop_50 : decode cX10_stop 50 = .ok (.aaload, 1) := by decide +kernel
theorem dX10_stop_51 : decode cX10_stop 51 = .ok (.iload_n 2, 1) := by decide +kernel
theorem dX10_stop_52 : decode cX10_stop 52 = .ok (.putfield 275, 3) := by decide +kernel
theorem dX10_stop_55 : decode cX10_stop 55 = .ok (.iload_n 3, 1) := by decide +kernel
theorem dX10_stop_56 : decode cX10_stop 56 = .ok (.ireturn, 1) := by decide +kernel
theorem dX10_beginAnew_0 : decode cX10_beginAnew 0 = .ok (.iload_n 1, 1) := by decide +kernel
theorem dX10_beginAnew_1 : decode cX10_beginAnew 1 = .ok (.invokestatic 256, 3) := by decide +kernel
theorem dX10_beginAnew_4 : decode cX10_beginAnew 4 = .ok (.aload_n 0, 1) := by decide +kernel
theorem dX10_beginAnew_5 : decode cX10_beginAnew 5 = .ok (.iload_n 1, 1) := by decide +kernel
theorem dX10_beginAnew_6 : decode cX10_beginAnew 6 = .ok (.invokevirtual 259, 3) := by decide +kernel
theorem dX10_beginAnew_9 : decode cX10_beginAnew 9 = .ok (.aload_n 0, 1) := by decide +kernel
theorem dX10_beginAnew_10 : decode cX10_beginAnew 10 = .ok (.invokevirtual 241, 3) := by decide +kernel
theorem dX10_beginAnew_13 : decode cX10_beginAnew 13 = .ok (.iconst 0, 1) := by decide +kernel
theorem dX10_beginAnew_14 : decode cX10_beginAnew 14 = .ok (.istore_n 2, 1) := by decide +kernel
theorem dX10_beginAnew_15 : decode cX10_beginAnew 15 = .ok (.iconst 0, 1) := by decide +kernel
theorem dX10_beginAnew_16 : decode cX10_beginAnew 16 = .ok (.istore_n 3, 1) := by decide +kernel
theorem dX10_beginAnew_17 : decode cX10_beginAnew 17 = .ok (.iload_n 3, 1) := by decide +kernel
theorem dX10_beginAnew_18 : decode cX10_beginAnew 18 = .ok (.bipush 20, 2) := by decide +kernel
theorem dX10_beginAnew_20 : decode cX10_beginAnew 20 = .ok (.if_icmp .ge 27, 3) := by decide +kernel
theorem dX10_beginAnew_23 : decode cX10_beginAnew 23 = .ok (.aload_n 0, 1) := by decide +kernel
theorem dX10_beginAnew_24 : decode cX10_beginAnew 24 = .ok (.getfield 53, 3) := by decide +kernel
theorem dX10_beginAnew_27 : decode cX10_beginAnew 27 = .ok (.iload_n 3, 1) := by decide +kernel
theorem dX10_beginAnew_28 : decode cX10_beginAnew 28 = .ok (.aaload, 1) := by decide +kernel
theorem dX10_beginAnew_29 : decode cX10_beginAnew 29 = .ok (.getfield 278, 3) := by decide +kernel
theorem dX10_beginAnew_32 : decode cX10_beginAnew 32 = .ok (.iload_n 1, 1) := by decide +kernel
theorem dX10_beginAnew_33 : decode cX10_beginAnew 33 = .ok (.iaload, 1) := by decide +kernel
theorem dX10_beginAnew_34 : decode cX10_beginAnew 34 = .ok (.iconst (-1), 1) := by decide +kernel
theorem dX10_beginAnew_35 : decode cX10_beginAnew 35 = .ok (.if_icmp .eq 6, 3) := by decide +kernel
theorem dX10_beginAnew_38 : decode cX10_beginAnew 38 = .ok (.iinc 2 1, 3) := by decide +kernel
theorem dX10_beginAnew_41 : decode cX10_beginAnew 41 = .ok (.iinc 3 1, 3) := by decide +kernel
theorem dX10_beginAnew_44 : decode cX10_beginAnew 44 = .ok (.goto (-27), 3) := by decide +kernel
theorem dX10_beginAnew_47 : decode cX10_beginAnew 47 = .ok (.aload_n 0, 1) := by decide +kernel
theorem dX10_beginAnew_48 : decode cX10_beginAnew 48 = .ok (.getfield 40, 3) := by decide +kernel
theorem dX10_beginAnew_51 : decode cX10_beginAnew 51 = .ok (.iload_n 1, 1) := by decide +kernel
theorem dX10_beginAnew_52 : decode cX10_beginAnew 52 = .ok (.aaload, 1) := by decide +kernel
theorem dX10_beginAnew_53 : decode cX10_beginAnew 53 = .ok (.iconst (-1), 1) := by decide +kernel
theorem dX10_beginAnew_54 : decode cX10_beginAnew 54 = .ok (.putfield 275, 3) := by decide +kernel
theorem dX10_beginAnew_57 : decode cX10_beginAnew 57 = .ok (.aload_n 0, 1) := by decide +kernel
theorem dX10_beginAnew_58 : decode cX10_beginAnew 58 = .ok (.new 224, 3) := by decide +kernel
theorem dX10_beginAnew_61 : decode cX10_beginAnew 61 = .ok (.dup, 1) := by decide +kernel
theorem dX10_beginAnew_62 : decode cX10_beginAnew 62 = .ok (.bipush 6, 2) := by decide +kernel
theorem dX10_beginAnew_64 : decode cX10_beginAnew 64 = .ok (.iconst (-1), 1) := by decide +kernel
theorem dX10_beginAnew_65 : decode cX10_beginAnew 65 = .ok (.iconst (-1), 1) := by decide +kernel
theorem dX10_beginAnew_66 : decode cX10_beginAnew 66 = .ok (.iload_n 1, 1) := by decide +kernel
theorem dX10_beginAnew_67 : decode cX10_beginAnew 67 = .ok (.iconst (-1), 1) := by decide +kernel
theorem dX10_beginAnew_68 : decode cX10_beginAnew 68 = .ok (.invokespecial 250, 3) := by decide +kernel
theorem dX10_beginAnew_71 : decode cX10_beginAnew 71 = .ok (.invokevirtual 253, 3) := by decide +kernel
theorem dX10_beginAnew_74 : decode cX10_beginAnew 74 = .ok (.iload_n 2, 1) := by decide +kernel
theorem dX10_beginAnew_75 : decode cX10_beginAnew 75 = .ok (.ireturn, 1) := by decide +kernel
theorem dX10_arm_0 : decode cX10_arm 0 = .ok (.iload_n 1, 1) := by decide +kernel
theorem dX10_arm_1 : decode cX10_arm 1 = .ok (.invokestatic 256, 3) := by decide +kernel
theorem dX10_arm_4 : decode cX10_arm 4 = .ok (.iload_n 2, 1) := by decide +kernel
theorem dX10_arm_5 : decode cX10_arm 5 = .ok (.invokestatic 71, 3) := by decide +kernel
theorem dX10_arm_8 : decode cX10_arm 8 = .ok (.aload_n 0, 1) := by decide +kernel
theorem dX10_arm_9 : decode cX10_arm 9 = .ok (.iload_n 1, 1) := by decide +kernel
theorem dX10_arm_10 : decode cX10_arm 10 = .ok (.iload_n 2, 1) := by decide +kernel
theorem dX10_arm_11 : decode cX10_arm 11 = .ok (.invokevirtual 272, 3) := by decide +kernel
theorem dX10_arm_14 : decode cX10_arm 14 = .ok (.ireturn, 1) := by decide +kernel
theorem dX10_kept_0 : decode cX10_kept 0 = .ok (.iload_n 1, 1) := by decide +kernel
theorem dX10_kept_1 : decode cX10_kept 1 = .ok (.invokestatic 256, 3) := by decide +kernel
theorem dX10_kept_4 : decode cX10_kept 4 = .ok (.iload_n 2, 1) := by decide +kernel
theorem dX10_kept_5 : decode cX10_kept 5 = .ok (.invokestatic 71, 3) := by decide +kernel
theorem dX10_kept_8 : decode cX10_kept 8 = .ok (.aload_n 0, 1) := by decide +kernel
theorem dX10_kept_9 : decode cX10_kept 9 = .ok (.getfield 53, 3) := by decide +kernel
theorem dX10_kept_12 : decode cX10_kept 12 = .ok (.iload_n 2, 1) := by decide +kernel
theorem dX10_kept_13 : decode cX10_kept 13 = .ok (.aaload, 1) := by decide +kernel
theorem dX10_kept_14 : decode cX10_kept 14 = .ok (.getfield 278, 3) := by decide +kernel
theorem dX10_kept_17 : decode cX10_kept 17 = .ok (.iload_n 1, 1) := by decide +kernel
theorem dX10_kept_18 : decode cX10_kept 18 = .ok (.iaload, 1) := by decide +kernel
theorem dX10_kept_19 : decode cX10_kept 19 = .ok (.ireturn, 1) := by decide +kernel
theorem dX10_hold_0 : decode cX10_hold 0 = .ok (.iload_n 1, 1) := by decide +kernel
theorem dX10_hold_1 : decode cX10_hold 1 = .ok (.invokestatic 71, 3) := by decide +kernel
theorem dX10_hold_4 : decode cX10_hold 4 = .ok (.iload_n 2, 1) := by decide +kernel
theorem dX10_hold_5 : decode cX10_hold 5 = .ok (.invokestatic 175, 3) := by decide +kernel
theorem dX10_hold_8 : decode cX10_hold 8 = .ok (.aload_n 0, 1) := by decide +kernel
theorem dX10_hold_9 : decode cX10_hold 9 = .ok (.getfield 53, 3) := by decide +kernel
theorem dX10_hold_12 : decode cX10_hold 12 = .ok (.iload_n 1, 1) := by decide +kernel
theorem dX10_hold_13 : decode cX10_hold 13 = .ok (.aaload, 1) := by decide +kernel
theorem dX10_hold_14 : decode cX10_hold 14 = .ok (.getfield 281, 3) := by decide +kernel
theorem dX10_hold_17 : decode cX10_hold 17 = .ok (.iload_n 2, 1) := by decide +kernel
theorem dX10_hold_18 : decode cX10_hold 18 = .ok (.iaload, 1) := by decide +kernel
theorem dX10_hold_19 : decode cX10_hold 19 = .ok (.bipush 6, 2) := by decide +kernel
theorem dX10_hold_21 : decode cX10_hold 21 = .ok (.invokestatic 93, 3) := by decide +kernel
theorem dX10_hold_24 : decode cX10_hold 24 = .ok (.ifCond .eq 14, 3) := by decide +kernel
theorem dX10_hold_27 : decode cX10_hold 27 = .ok (.new 114, 3) := by decide +kernel
theorem dX10_hold_30 : decode cX10_hold 30 = .ok (.dup, 1) := by decide +kernel
theorem dX10_hold_31 : decode cX10_hold 31 = .ok (.ldc_w 284, 3) := by decide +kernel
theorem dX10_hold_34 : decode cX10_hold 34 = .ok (.invokespecial 118, 3) := by decide +kernel
theorem dX10_hold_37 : decode cX10_hold 37 = .ok (.athrow, 1) := by decide +kernel
theorem dX10_hold_38 : decode cX10_hold 38 = .ok (.aload_n 0, 1) := by decide +kernel
theorem dX10_hold_39 : decode cX10_hold 39 = .ok (.invokevirtual 241, 3) := by decide +kernel
theorem dX10_hold_42 : decode cX10_hold 42 = .ok (.aload_n 0, 1) := by decide +kernel
theorem dX10_hold_43 : decode cX10_hold 43 = .ok (.iload_n 1, 1) := by decide +kernel
theorem dX10_hold_44 : decode cX10_hold 44 = .ok (.iload_n 2, 1) := by decide +kernel
theorem dX10_hold_45 : decode cX10_hold 45 = .ok (.invokevirtual 210, 3) := by decide +kernel
theorem dX10_hold_48 : decode cX10_hold 48 = .ok (.istore_n 3, 1) := by decide +kernel
theorem dX10_hold_49 : decode cX10_hold 49 = .ok (.aload_n 0, 1) := by decide +kernel
theorem dX10_hold_50 : decode cX10_hold 50 = .ok (.new 224, 3) := by decide +kernel
theorem dX10_hold_53 : decode cX10_hold 53 = .ok (.dup, 1) := by decide +kernel
theorem dX10_hold_54 : decode cX10_hold 54 = .ok (.iconst 2, 1) := by decide +kernel
theorem dX10_hold_55 : decode cX10_hold 55 = .ok (.iload_n 1, 1) := by decide +kernel
theorem dX10_hold_56 : decode cX10_hold 56 = .ok (.iload_n 2, 1) := by decide +kernel
theorem dX10_hold_57 : decode cX10_hold 57 = .ok (.iconst (-1), 1) := by decide +kernel
theorem dX10_hold_58 : decode cX10_hold 58 = .ok (.iload_n 3, 1) := by decide +kernel
theorem dX10_hold_59 : decode cX10_hold 59 = .ok (.invokespecial 250, 3) := by decide +kernel
theorem dX10_hold_62 : decode cX10_hold 62 = .ok (.invokevirtual 253, 3) := by decide +kernel
theorem dX10_hold_65 : decode cX10_hold 65 = .ok (.iload_n 3, 1) := by decide +kernel
theorem dX10_hold_66 : decode cX10_hold 66 = .ok (.ireturn, 1) := by decide +kernel
theorem dX10_release_0 : decode cX10_release 0 = .ok (.iload_n 1, 1) := by decide +kernel
theorem dX10_release_1 : decode cX10_release 1 = .ok (.invokestatic 71, 3) := by decide +kernel
theorem dX10_release_4 : decode cX10_release 4 = .ok (.iload_n 2, 1) := by decide +kernel
theorem dX10_release_5 : decode cX10_release 5 = .ok (.invokestatic 175, 3) := by decide +kernel
theorem dX10_release_8 : decode cX10_release 8 = .ok (.aload_n 0, 1) := by decide +kernel
theorem dX10_release_9 : decode cX10_release 9 = .ok (.getfield 53, 3) := by decide +kernel
theorem dX10_release_12 : decode cX10_release 12 = .ok (.iload_n 1, 1) := by decide +kernel
theorem dX10_release_13 : decode cX10_release 13 = .ok (.aaload, 1) := by decide +kernel
theorem dX10_release_14 : decode cX10_release 14 = .ok (.getfield 281, 3) := by decide +kernel
theorem dX10_release_17 : decode cX10_release 17 = .ok (.iload_n 2, 1) := by decide +kernel
theorem dX10_release_18 : decode cX10_release 18 = .ok (.iaload, 1) := by decide +kernel
theorem dX10_release_19 : decode cX10_release 19 = .ok (.bipush 6, 2) := by decide +kernel
theorem dX10_release_21 : decode cX10_release 21 = .ok (.invokestatic 93, 3) := by decide +kernel
theorem dX10_release_24 : decode cX10_release 24 = .ok (.ifCond .ne 14, 3) := by decide +kernel
theorem dX10_release_27 : decode cX10_release 27 = .ok (.new 114, 3) := by decide +kernel
theorem dX10_release_30 : decode cX10_release 30 = .ok (.dup, 1) := by decide +kernel
theorem dX10_release_31 : decode cX10_release 31 = .ok (.ldc_w 286, 3) := by decide +kernel
theorem dX10_release_34 : decode cX10_release 34 = .ok (.invokespecial 118, 3) := by decide +kernel
theorem dX10_release_37 : decode cX10_release 37 = .ok (.athrow, 1) := by decide +kernel
theorem dX10_release_38 : decode cX10_release 38 = .ok (.aload_n 0, 1) := by decide +kernel
theorem dX10_release_39 : decode cX10_release 39 = .ok (.invokevirtual 241, 3) := by decide +kernel
theorem dX10_release_42 : decode cX10_release 42 = .ok (.aload_n 0, 1) := by decide +kernel
theorem dX10_release_43 : decode cX10_release 43 = .ok (.new 224, 3) := by decide +kernel
theorem dX10_release_46 : decode cX10_release 46 = .ok (.dup, 1) := by decide +kernel
theorem dX10_release_47 : decode cX10_release 47 = .ok (.iconst 3, 1) := by decide +kernel
theorem dX10_release_48 : decode cX10_release 48 = .ok (.iload_n 1, 1) := by decide +kernel
theorem dX10_release_49 : decode cX10_release 49 = .ok (.iload_n 2, 1) := by decide +kernel
theorem dX10_release_50 : decode cX10_release 50 = .ok (.iconst (-1), 1) := by decide +kernel
theorem dX10_release_51 : decode cX10_release 51 = .ok (.iconst (-1), 1) := by decide +kernel
theorem dX10_release_52 : decode cX10_release 52 = .ok (.invokespecial 250, 3) := by decide +kernel
theorem dX10_release_55 : decode cX10_release 55 = .ok (.invokevirtual 253, 3) := by decide +kernel
theorem dX10_release_58 : decode cX10_release 58 = .ok (.aload_n 0, 1) := by decide +kernel
theorem dX10_release_59 : decode cX10_release 59 = .ok (.iload_n 1, 1) := by decide +kernel
theorem dX10_release_60 : decode cX10_release 60 = .ok (.iload_n 2, 1) := by decide +kernel
theorem dX10_release_61 : decode cX10_release 61 = .ok (.invokevirtual 210, 3) := by decide +kernel
theorem dX10_release_64 : decode cX10_release 64 = .ok (.ireturn, 1) := by decide +kernel
theorem dX10_holdTrial_0 : decode cX10_holdTrial 0 = .ok (.iload_n 1, 1) := by decide +kernel
theorem dX10_holdTrial_1 : decode cX10_holdTrial 1 = .ok (.invokestatic 256, 3) := by decide +kernel
theorem dX10_holdTrial_4 : decode cX10_holdTrial 4 = .ok (.aload_n 0, 1) := by decide +kernel
theorem dX10_holdTrial_5 : decode cX10_holdTrial 5 = .ok (.iload_n 1, 1) := by decide +kernel
theorem dX10_holdTrial_6 : decode cX10_holdTrial 6 = .ok (.invokevirtual 259, 3) := by decide +kernel
theorem dX10_holdTrial_9 : decode cX10_holdTrial 9 = .ok (.aload_n 0, 1) := by decide +kernel
theorem dX10_holdTrial_10 : decode cX10_holdTrial 10 = .ok (.invokevirtual 241, 3) := by decide +kernel
theorem dX10_holdTrial_13 : decode cX10_holdTrial 13 = .ok (.aload_n 0, 1) := by decide +kernel
theorem dX10_holdTrial_14 : decode cX10_holdTrial 14 = .ok (.getfield 40, 3) := by decide +kernel
theorem dX10_holdTrial_17 : decode cX10_holdTrial 17 = .ok (.iload_n 1, 1) := by decide +kernel
theorem dX10_holdTrial_18 : decode cX10_holdTrial 18 = .ok (.aaload, 1) := by decide +kernel
theorem dX10_holdTrial_19 : decode cX10_holdTrial 19 = .ok (.iconst 1, 1) := by decide +kernel
theorem dX10_holdTrial_20 : decode cX10_holdTrial 20 = .ok (.putfield 288, 3) := by decide +kernel
theorem dX10_holdTrial_23 : decode cX10_holdTrial 23 = .ok (.aload_n 0, 1) := by decide +kernel
theorem dX10_holdTrial_24 : decode cX10_holdTrial 24 = .ok (.new 224, 3) := by decide +kernel
theorem dX10_holdTrial_27 : decode cX10_holdTrial 27 = .ok (.dup, 1) := by decide +kernel
theorem dX10_holdTrial_28 : decode cX10_holdTrial 28 = .ok (.iconst 4, 1) := by decide +kernel
theorem dX10_holdTrial_29 : decode cX10_holdTrial 29 = .ok (.iconst (-1), 1) := by decide +kernel
theorem dX10_holdTrial_30 : decode cX10_holdTrial 30 = .ok (.iconst (-1), 1) := by decide +kernel
theorem dX10_holdTrial_31 : decode cX10_holdTrial 31 = .ok (.iload_n 1, 1) := by decide +kernel
theorem dX10_holdTrial_32 : decode cX10_holdTrial 32 = .ok (.iconst (-1), 1) := by decide +kernel
theorem dX10_holdTrial_33 : decode cX10_holdTrial 33 = .ok (.invokespecial 250, 3) := by decide +kernel
theorem dX10_holdTrial_36 : decode cX10_holdTrial 36 = .ok (.invokevirtual 253, 3) := by decide +kernel
theorem dX10_holdTrial_39 : decode cX10_holdTrial 39 = .ok (.iconst 0, 1) := by decide +kernel
theorem dX10_holdTrial_40 : decode cX10_holdTrial 40 = .ok (.istore_n 2, 1) := by decide +kernel
theorem dX10_holdTrial_41 : decode cX10_holdTrial 41 = .ok (.iconst 0, 1) := by decide +kernel
theorem dX10_holdTrial_42 : decode cX10_holdTrial 42 = .ok (.istore_n 3, 1) := by decide +kernel
theorem dX10_holdTrial_43 : decode cX10_holdTrial 43 = .ok (.iload_n 3, 1) := by decide +kernel
theorem dX10_holdTrial_44 : decode cX10_holdTrial 44 = .ok (.bipush 20, 2) := by decide +kernel
theorem dX10_holdTrial_46 : decode cX10_holdTrial 46 = .ok (.if_icmp .ge 22, 3) := by decide +kernel
theorem dX10_holdTrial_49 : decode cX10_holdTrial 49 = .ok (.iload_n 2, 1) := by decide +kernel
theorem dX10_holdTrial_50 : decode cX10_holdTrial 50 = .ok (.aload_n 0, 1) := by decide +kernel
theorem dX10_holdTrial_51 : decode cX10_holdTrial 51 = .ok (.getfield 53, 3) := by decide +kernel
theorem dX10_holdTrial_54 : decode cX10_holdTrial 54 = .ok (.iload_n 3, 1) := by decide +kernel
theorem dX10_holdTrial_55 : decode cX10_holdTrial 55 = .ok (.aaload, 1) := by decide +kernel
theorem dX10_holdTrial_56 : decode cX10_holdTrial 56 = .ok (.iload_n 1, 1) := by decide +kernel
theorem dX10_holdTrial_57 : decode cX10_holdTrial 57 = .ok (.invokevirtual 292, 3) := by decide +kernel
theorem dX10_holdTrial_60 : decode cX10_holdTrial 60 = .ok (.iadd, 1) := by decide +kernel
theorem dX10_holdTrial_61 : decode cX10_holdTrial 61 = .ok (.istore_n 2, 1) := by decide +kernel
theorem dX10_holdTrial_62 : decode cX10_holdTrial 62 = .ok (.iinc 3 1, 3) := by decide +kernel
theorem dX10_holdTrial_65 : decode cX10_holdTrial 65 = .ok (.goto (-22), 3) := by decide +kernel
theorem dX10_holdTrial_68 : decode cX10_holdTrial 68 = .ok (.iload_n 2, 1) := by decide +kernel
theorem dX10_holdTrial_69 : decode cX10_holdTrial 69 = .ok (.ireturn, 1) := by decide +kernel
theorem dX10_releaseTrial_0 : decode cX10_releaseTrial 0 = .ok (.iload_n 1, 1) := by decide +kernel
theorem dX10_releaseTrial_1 : decode cX10_releaseTrial 1 = .ok (.invokestatic 256, 3) := by decide +kernel
theorem dX10_releaseTrial_4 : decode cX10_releaseTrial 4 = .ok (.aload_n 0, 1) := by decide +kernel
theorem dX10_releaseTrial_5 : decode cX10_releaseTrial 5 = .ok (.getfield 40, 3) := by decide +kernel
theorem dX10_releaseTrial_8 : decode cX10_releaseTrial 8 = .ok (.iload_n 1, 1) := by decide +kernel
theorem dX10_releaseTrial_9 : decode cX10_releaseTrial 9 = .ok (.aaload, 1) := by decide +kernel
theorem dX10_releaseTrial_10 : decode cX10_releaseTrial 10 = .ok (.getfield 288, 3) := by decide +kernel
theorem dX10_releaseTrial_13 : decode cX10_releaseTrial 13 = .ok (.ifCond .ne 14, 3) := by decide +kernel
theorem dX10_releaseTrial_16 : decode cX10_releaseTrial 16 = .ok (.new 114, 3) := by decide +kernel
theorem dX10_releaseTrial_19 : decode cX10_releaseTrial 19 = .ok (.dup, 1) := by decide +kernel
theorem dX10_releaseTrial_20 : decode cX10_releaseTrial 20 = .ok (.ldc_w 295, 3) := by decide +kernel
theorem dX10_releaseTrial_23 : decode cX10_releaseTrial 23 = .ok (.invokespecial 118, 3) := by decide +kernel
theorem dX10_releaseTrial_26 : decode cX10_releaseTrial 26 = .ok (.athrow, 1) := by decide +kernel
theorem dX10_releaseTrial_27 : decode cX10_releaseTrial 27 = .ok (.aload_n 0, 1) := by decide +kernel
theorem dX10_releaseTrial_28 : decode cX10_releaseTrial 28 = .ok (.invokevirtual 241, 3) := by decide +kernel
theorem dX10_releaseTrial_31 : decode cX10_releaseTrial 31 = .ok (.iconst 0, 1) := by decide +kernel
theorem dX10_releaseTrial_32 : decode cX10_releaseTrial 32 = .ok (.istore_n 2, 1) := by decide +kernel
theorem dX10_releaseTrial_33 : decode cX10_releaseTrial 33 = .ok (.iconst 0, 1) := by decide +kernel
theorem dX10_releaseTrial_34 : decode cX10_releaseTrial 34 = .ok (.istore_n 3, 1) := by decide +kernel
theorem dX10_releaseTrial_35 : decode cX10_releaseTrial 35 = .ok (.iload_n 3, 1) := by decide +kernel
theorem dX10_releaseTrial_36 : decode cX10_releaseTrial 36 = .ok (.bipush 20, 2) := by decide +kernel
theorem dX10_releaseTrial_38 : decode cX10_releaseTrial 38 = .ok (.if_icmp .ge 22, 3) := by decide +kernel
theorem dX10_releaseTrial_41 : decode cX10_releaseTrial 41 = .ok (.iload_n 2, 1) := by decide +kernel
theorem dX10_releaseTrial_42 : decode cX10_releaseTrial 42 = .ok (.aload_n 0, 1) := by decide +kernel
theorem dX10_releaseTrial_43 : decode cX10_releaseTrial 43 = .ok (.getfield 53, 3) := by decide +kernel
theorem dX10_releaseTrial_46 : decode cX10_releaseTrial 46 = .ok (.iload_n 3, 1) := by decide +kernel
theorem dX10_releaseTrial_47 : decode cX10_releaseTrial 47 = .ok (.aaload, 1) := by decide +kernel
theorem dX10_releaseTrial_48 : decode cX10_releaseTrial 48 = .ok (.iload_n 1, 1) := by decide +kernel
theorem dX10_releaseTrial_49 : decode cX10_releaseTrial 49 = .ok (.invokevirtual 297, 3) := by decide +kernel
theorem dX10_releaseTrial_52 : decode cX10_releaseTrial 52 = .ok (.iadd, 1) := by decide +kernel
theorem dX10_releaseTrial_53 : decode cX10_releaseTrial 53 = .ok (.istore_n 2, 1) := by decide +kernel
theorem dX10_releaseTrial_54 : decode cX10_releaseTrial 54 = .ok (.iinc 3 1, 3) := by decide +kernel
theorem dX10_releaseTrial_57 : decode cX10_releaseTrial 57 = .ok (.goto (-22), 3) := by decide +kernel
theorem dX10_releaseTrial_60 : decode cX10_releaseTrial 60 = .ok (.aload_n 0, 1) := by decide +kernel
theorem dX10_releaseTrial_61 : decode cX10_releaseTrial 61 = .ok (.getfield 40, 3) := by decide +kernel
theorem dX10_releaseTrial_64 : decode cX10_releaseTrial 64 = .ok (.iload_n 1, 1) := by decide +kernel
theorem dX10_releaseTrial_65 : decode cX10_releaseTrial 65 = .ok (.aaload, 1) := by decide +kernel
theorem dX10_releaseTrial_66 : decode cX10_releaseTrial 66 = .ok (.iconst 0, 1) := by decide +kernel
theorem dX10_releaseTrial_67 : decode cX10_releaseTrial 67 = .ok (.putfield 288, 3) := by decide +kernel
theorem dX10_releaseTrial_70 : decode cX10_releaseTrial 70 = .ok (.aload_n 0, 1) := by decide +kernel
theorem dX10_releaseTrial_71 : decode cX10_releaseTrial 71 = .ok (.new 224, 3) := by decide +kernel
theorem dX10_releaseTrial_74 : decode cX10_releaseTrial 74 = .ok (.dup, 1) := by decide +kernel
theorem dX10_releaseTrial_75 : decode cX10_releaseTrial 75 = .ok (.iconst 5, 1) := by decide +kernel
theorem dX10_releaseTrial_76 : decode cX10_releaseTrial 76 = .ok (.iconst (-1), 1) := by decide +kernel
theorem dX10_releaseTrial_77 : decode cX10_releaseTrial 77 = .ok (.iconst (-1), 1) := by decide +kernel
theorem dX10_releaseTrial_78 : decode cX10_releaseTrial 78 = .ok (.iload_n 1, 1) := by decide +kernel
theorem dX10_releaseTrial_79 : decode cX10_releaseTrial 79 = .ok (.iconst (-1), 1) := by decide +kernel
theorem dX10_releaseTrial_80 : decode cX10_releaseTrial 80 = .ok (.invokespecial 250, 3) := by decide +kernel
theorem dX10_releaseTrial_83 : decode cX10_releaseTrial 83 = .ok (.invokevirtual 253, 3) := by decide +kernel
theorem dX10_releaseTrial_86 : decode cX10_releaseTrial 86 = .ok (.iload_n 2, 1) := by decide +kernel
theorem dX10_releaseTrial_87 : decode cX10_releaseTrial 87 = .ok (.ireturn, 1) := by decide +kernel
theorem dX10_isHeld_0 : decode cX10_isHeld 0 = .ok (.iload_n 1, 1) := by decide +kernel
theorem dX10_isHeld_1 : decode cX10_isHeld 1 = .ok (.invokestatic 71, 3) := by decide +kernel
theorem dX10_isHeld_4 : decode cX10_isHeld 4 = .ok (.iload_n 2, 1) := by decide +kernel
theorem dX10_isHeld_5 : decode cX10_isHeld 5 = .ok (.invokestatic 175, 3) := by decide +kernel
theorem dX10_isHeld_8 : decode cX10_isHeld 8 = .ok (.aload_n 0, 1) := by decide +kernel
theorem dX10_isHeld_9 : decode cX10_isHeld 9 = .ok (.getfield 53, 3) := by decide +kernel
theorem dX10_isHeld_12 : decode cX10_isHeld 12 = .ok (.iload_n 1, 1) := by decide +kernel
theorem dX10_isHeld_13 : decode cX10_isHeld 13 = .ok (.aaload, 1) := by decide +kernel
theorem dX10_isHeld_14 : decode cX10_isHeld 14 = .ok (.getfield 281, 3) := by decide +kernel
theorem dX10_isHeld_17 : decode cX10_isHeld 17 = .ok (.iload_n 2, 1) := by decide +kernel
theorem dX10_isHeld_18 : decode cX10_isHeld 18 = .ok (.iaload, 1) := by decide +kernel
theorem dX10_isHeld_19 : decode cX10_isHeld 19 = .ok (.ifCond .eq 7, 3) := by decide +kernel
theorem dX10_isHeld_22 : decode cX10_isHeld 22 = .ok (.iconst 1, 1) := by decide +kernel
theorem dX10_isHeld_23 : decode cX10_isHeld 23 = .ok (.goto 4, 3) := by decide +kernel
theorem dX10_isHeld_26 : decode cX10_isHeld 26 = .ok (.iconst 0, 1) := by decide +kernel
theorem dX10_isHeld_27 : decode cX10_isHeld 27 = .ok (.ireturn, 1) := by decide +kernel
theorem dX10_entries_0 : decode cX10_entries 0 = .ok (.aload_n 0, 1) := by decide +kernel
theorem dX10_entries_1 : decode cX10_entries 1 = .ok (.getfield 47, 3) := by decide +kernel
theorem dX10_entries_4 : decode cX10_entries 4 = .ok (.invokevirtual 216, 3) := by decide +kernel
theorem dX10_entries_7 : decode cX10_entries 7 = .ok (.ireturn, 1) := by decide +kernel
theorem dX10_shownLast_0 : decode cX10_shownLast 0 = .ok (.iload_n 1, 1) := by decide +kernel
theorem dX10_shownLast_1 : decode cX10_shownLast 1 = .ok (.invokestatic 71, 3) := by decide +kernel
theorem dX10_shownLast_4 : decode cX10_shownLast 4 = .ok (.iload_n 2, 1) := by decide +kernel
theorem dX10_shownLast_5 : decode cX10_shownLast 5 = .ok (.invokestatic 175, 3) := by decide +kernel
theorem dX10_shownLast_8 : decode cX10_shownLast 8 = .ok (.aload_n 0, 1) := by decide +kernel
theorem dX10_shownLast_9 : decode cX10_shownLast 9 = .ok (.getfield 53, 3) := by decide +kernel
theorem dX10_shownLast_12 : decode cX10_shownLast 12 = .ok (.iload_n 1, 1) := by decide +kernel
theorem dX10_shownLast_13 : decode cX10_shownLast 13 = .ok (.aaload, 1) := by decide +kernel
theorem dX10_shownLast_14 : decode cX10_shownLast 14 = .ok (.getfield 300, 3) := by decide +kernel
theorem dX10_shownLast_17 : decode cX10_shownLast 17 = .ok (.iload_n 2, 1) := by decide +kernel
theorem dX10_shownLast_18 : decode cX10_shownLast 18 = .ok (.iaload, 1) := by decide +kernel
theorem dX10_shownLast_19 : decode cX10_shownLast 19 = .ok (.ireturn, 1) := by decide +kernel
theorem dX10_checkRange_0 : decode cX10_checkRange 0 = .ok (.iload_n 0, 1) := by decide +kernel
theorem dX10_checkRange_1 : decode cX10_checkRange 1 = .ok (.iload_n 1, 1) := by decide +kernel
theorem dX10_checkRange_2 : decode cX10_checkRange 2 = .ok (.if_icmp .lt 8, 3) := by decide +kernel
theorem dX10_checkRange_5 : decode cX10_checkRange 5 = .ok (.iload_n 0, 1) := by decide +kernel
theorem dX10_checkRange_6 : decode cX10_checkRange 6 = .ok (.iload_n 2, 1) := by decide +kernel
theorem dX10_checkRange_7 : decode cX10_checkRange 7 = .ok (.if_icmp .le 14, 3) := by decide +kernel
theorem dX10_checkRange_10 : decode cX10_checkRange 10 = .ok (.new 124, 3) := by decide +kernel
theorem dX10_checkRange_13 : decode cX10_checkRange 13 = .ok (.dup, 1) := by decide +kernel
theorem dX10_checkRange_14 : decode cX10_checkRange 14 = .ok (.ldc_w 303, 3) := by decide +kernel
theorem dX10_checkRange_17 : decode cX10_checkRange 17 = .ok (.invokespecial 128, 3) := by decide +kernel
theorem dX10_checkRange_20 : decode cX10_checkRange 20 = .ok (.athrow, 1) := by decide +kernel
theorem dX10_checkRange_21 : decode cX10_checkRange 21 = .ok (.return_, 1) := by decide +kernel
theorem dX10_checkPerson_0 : decode cX10_checkPerson 0 = .ok (.iload_n 0, 1) := by decide +kernel
theorem dX10_checkPerson_1 : decode cX10_checkPerson 1 = .ok (.iconst 0, 1) := by decide +kernel
theorem dX10_checkPerson_2 : decode cX10_checkPerson 2 = .ok (.bipush 19, 2) := by decide +kernel
theorem dX10_checkPerson_4 : decode cX10_checkPerson 4 = .ok (.invokestatic 74, 3) := by decide +kernel
theorem dX10_checkPerson_7 : decode cX10_checkPerson 7 = .ok (.return_, 1) := by decide +kernel
theorem dX10_checkAudience_0 : decode cX10_checkAudience 0 = .ok (.iload_n 0, 1) := by decide +kernel
theorem dX10_checkAudience_1 : decode cX10_checkAudience 1 = .ok (.iconst 0, 1) := by decide +kernel
theorem dX10_checkAudience_2 : decode cX10_checkAudience 2 = .ok (.iconst 5, 1) := by decide +kernel
theorem dX10_checkAudience_3 : decode cX10_checkAudience 3 = .ok (.invokestatic 74, 3) := by decide +kernel
theorem dX10_checkAudience_6 : decode cX10_checkAudience 6 = .ok (.return_, 1) := by decide +kernel
theorem dX10_checkFlag_0 : decode cX10_checkFlag 0 = .ok (.iload_n 0, 1) := by decide +kernel
theorem dX10_checkFlag_1 : decode cX10_checkFlag 1 = .ok (.iconst 0, 1) := by decide +kernel
theorem dX10_checkFlag_2 : decode cX10_checkFlag 2 = .ok (.bipush 7, 2) := by decide +kernel
theorem dX10_checkFlag_4 : decode cX10_checkFlag 4 = .ok (.invokestatic 74, 3) := by decide +kernel
theorem dX10_checkFlag_7 : decode cX10_checkFlag 7 = .ok (.return_, 1) := by decide +kernel
theorem dX10_checkTrial_0 : decode cX10_checkTrial 0 = .ok (.iload_n 0, 1) := by decide +kernel
theorem dX10_checkTrial_1 : decode cX10_checkTrial 1 = .ok (.iconst 0, 1) := by decide +kernel
theorem dX10_checkTrial_2 : decode cX10_checkTrial 2 = .ok (.iconst 5, 1) := by decide +kernel
theorem dX10_checkTrial_3 : decode cX10_checkTrial 3 = .ok (.invokestatic 74, 3) := by decide +kernel
theorem dX10_checkTrial_6 : decode cX10_checkTrial 6 = .ok (.return_, 1) := by decide +kernel
theorem dX10_checkVariant_0 : decode cX10_checkVariant 0 = .ok (.iload_n 0, 1) := by decide +kernel
theorem dX10_checkVariant_1 : decode cX10_checkVariant 1 = .ok (.iconst 0, 1) := by decide +kernel
theorem dX10_checkVariant_2 : decode cX10_checkVariant 2 = .ok (.iconst 3, 1) := by decide +kernel
theorem dX10_checkVariant_3 : decode cX10_checkVariant 3 = .ok (.invokestatic 74, 3) := by decide +kernel
theorem dX10_checkVariant_6 : decode cX10_checkVariant 6 = .ok (.return_, 1) := by decide +kernel
theorem dX10_checkSettable_0 : decode cX10_checkSettable 0 = .ok (.aload_n 0, 1) := by decide +kernel
theorem dX10_checkSettable_1 : decode cX10_checkSettable 1 = .ok (.getfield 19, 3) := by decide +kernel
theorem dX10_checkSettable_4 : decode cX10_checkSettable 4 = .ok (.iload_n 1, 1) := by decide +kernel
theorem dX10_checkSettable_5 : decode cX10_checkSettable 5 = .ok (.invokevirtual 305, 3) := by decide +kernel
theorem dX10_checkSettable_8 : decode cX10_checkSettable 8 = .ok (.ifCond .ne 14, 3) := by decide +kernel
theorem dX10_checkSettable_11 : decode cX10_checkSettable 11 = .ok (.new 114, 3) := by decide +kernel
theorem dX10_checkSettable_14 : decode cX10_checkSettable 14 = .ok (.dup, 1) := by decide +kernel
theorem dX10_checkSettable_15 : decode cX10_checkSettable 15 = .ok (.ldc_w 308, 3) := by decide +kernel
theorem dX10_checkSettable_18 : decode cX10_checkSettable 18 = .ok (.invokespecial 118, 3) := by decide +kernel
theorem dX10_checkSettable_21 : decode cX10_checkSettable 21 = .ok (.athrow, 1) := by decide +kernel
theorem dX10_checkSettable_22 : decode cX10_checkSettable 22 = .ok (.return_, 1) := by decide +kernel
theorem dX10_checkNotHeld_0 : decode cX10_checkNotHeld 0 = .ok (.aload_n 0, 1) := by decide +kernel
theorem dX10_checkNotHeld_1 : decode cX10_checkNotHeld 1 = .ok (.getfield 40, 3) := by decide +kernel
theorem dX10_checkNotHeld_4 : decode cX10_checkNotHeld 4 = .ok (.iload_n 1, 1) := by decide +kernel
theorem dX10_checkNotHeld_5 : decode cX10_checkNotHeld 5 = .ok (.aaload, 1) := by decide +kernel
theorem dX10_checkNotHeld_6 : decode cX10_checkNotHeld 6 = .ok (.getfield 288, 3) := by decide +kernel
theorem dX10_checkNotHeld_9 : decode cX10_checkNotHeld 9 = .ok (.ifCond .eq 14, 3) := by decide +kernel
theorem dX10_checkNotHeld_12 : decode cX10_checkNotHeld 12 = .ok (.new 114, 3) := by decide +kernel
theorem dX10_checkNotHeld_15 : decode cX10_checkNotHeld 15 = .ok (.dup, 1) := by decide +kernel
theorem dX10_checkNotHeld_16 : decode cX10_checkNotHeld 16 = .ok (.ldc_w 310, 3) := by decide +kernel
theorem dX10_checkNotHeld_19 : decode cX10_checkNotHeld 19 = .ok (.invokespecial 118, 3) := by decide +kernel
theorem dX10_checkNotHeld_22 : decode cX10_checkNotHeld 22 = .ok (.athrow, 1) := by decide +kernel
theorem dX10_checkNotHeld_23 : decode cX10_checkNotHeld 23 = .ok (.return_, 1) := by decide +kernel
theorem dX10_checkLog_0 : decode cX10_checkLog 0 = .ok (.aload_n 0, 1) := by decide +kernel
theorem dX10_checkLog_1 : decode cX10_checkLog 1 = .ok (.getfield 47, 3) := by decide +kernel
theorem dX10_checkLog_4 : decode cX10_checkLog 4 = .ok (.invokevirtual 216, 3) := by decide +kernel
theorem dX10_checkLog_7 : decode cX10_checkLog 7 = .ok (.sipush 400, 3) := by decide +kernel
theorem dX10_checkLog_10 : decode cX10_checkLog 10 = .ok (.if_icmp .lt 14, 3) := by decide +kernel
theorem dX10_checkLog_13 : decode cX10_checkLog 13 = .ok (.new 114, 3) := by decide +kernel
theorem dX10_checkLog_16 : decode cX10_checkLog 16 = .ok (.dup, 1) := by decide +kernel
theorem dX10_checkLog_17 : decode cX10_checkLog 17 = .ok (.ldc_w 312, 3) := by decide +kernel
theorem dX10_checkLog_20 : decode cX10_checkLog 20 = .ok (.invokespecial 118, 3) := by decide +kernel
theorem dX10_checkLog_23 : decode cX10_checkLog 23 = .ok (.athrow, 1) := by decide +kernel
theorem dX10_checkLog_24 : decode cX10_checkLog 24 = .ok (.return_, 1) := by decide +kernel
theorem dX10_mostOf_0 : decode cX10_mostOf 0 = .ok (.iload_n 0, 1) := by decide +kernel
theorem dX10_mostOf_1 : decode cX10_mostOf 1 = .ok (.ifCond .ne 8, 3) := by decide +kernel
theorem dX10_mostOf_4 : decode cX10_mostOf 4 = .ok (.bipush 9, 2) := by decide +kernel
theorem dX10_mostOf_6 : decode cX10_mostOf 6 = .ok (.goto 14, 3) := by decide +kernel
theorem dX10_mostOf_9 : decode cX10_mostOf 9 = .ok (.iload_n 0, 1) := by decide +kernel
theorem dX10_mostOf_10 : decode cX10_mostOf 10 = .ok (.iconst 1, 1) := by decide +kernel
theorem dX10_mostOf_11 : decode cX10_mostOf 11 = .ok (.if_icmp .ne 8, 3) := by decide +kernel
theorem dX10_mostOf_14 : decode cX10_mostOf 14 = .ok (.bipush 99, 2) := by decide +kernel
theorem dX10_mostOf_16 : decode cX10_mostOf 16 = .ok (.goto 4, 3) := by decide +kernel
theorem dX10_mostOf_19 : decode cX10_mostOf 19 = .ok (.iconst 3, 1) := by decide +kernel
theorem dX10_mostOf_20 : decode cX10_mostOf 20 = .ok (.ireturn, 1) := by decide +kernel
theorem dX10_hasBit_0 : decode cX10_hasBit 0 = .ok (.iload_n 0, 1) := by decide +kernel
theorem dX10_hasBit_1 : decode cX10_hasBit 1 = .ok (.iload_n 1, 1) := by decide +kernel
theorem dX10_hasBit_2 : decode cX10_hasBit 2 = .ok (.ishr, 1) := by decide +kernel
theorem dX10_hasBit_3 : decode cX10_hasBit 3 = .ok (.iconst 1, 1) := by decide +kernel
theorem dX10_hasBit_4 : decode cX10_hasBit 4 = .ok (.iand, 1) := by decide +kernel
theorem dX10_hasBit_5 : decode cX10_hasBit 5 = .ok (.ifCond .eq 7, 3) := by decide +kernel
theorem dX10_hasBit_8 : decode cX10_hasBit 8 = .ok (.iconst 1, 1) := by decide +kernel
theorem dX10_hasBit_9 : decode cX10_hasBit 9 = .ok (.goto 4, 3) := by decide +kernel
theorem dX10_hasBit_12 : decode cX10_hasBit 12 = .ok (.iconst 0, 1) := by decide +kernel
theorem dX10_hasBit_13 : decode cX10_hasBit 13 = .ok (.ireturn, 1) := by decide +kernel
theorem dX10_withBit_0 : decode cX10_withBit 0 = .ok (.iload_n 2, 1) := by decide +kernel
theorem dX10_withBit_1 : decode cX10_withBit 1 = .ok (.ifCond .eq 11, 3) := by decide +kernel
theorem dX10_withBit_4 : decode cX10_withBit 4 = .ok (.iload_n 0, 1) := by decide +kernel
theorem dX10_withBit_5 : decode cX10_withBit 5 = .ok (.iconst 1, 1) := by decide +kernel
theorem dX10_withBit_6 : decode cX10_withBit 6 = .ok (.iload_n 1, 1) := by decide +kernel
theorem dX10_withBit_7 : decode cX10_withBit 7 = .ok (.ishl, 1) := by decide +kernel
theorem dX10_withBit_8 : decode cX10_withBit 8 = .ok (.ior, 1) := by decide +kernel
theorem dX10_withBit_9 : decode cX10_withBit 9 = .ok (.goto 10, 3) := by decide +kernel
theorem dX10_withBit_12 : decode cX10_withBit 12 = .ok (.iload_n 0, 1) := by decide +kernel
theorem dX10_withBit_13 : decode cX10_withBit 13 = .ok (.iconst 1, 1) := by decide +kernel
theorem dX10_withBit_14 : decode cX10_withBit 14 = .ok (.iload_n 1, 1) := by decide +kernel
theorem dX10_withBit_15 : decode cX10_withBit 15 = .ok (.ishl, 1) := by decide +kernel
theorem dX10_withBit_16 : decode cX10_withBit 16 = .ok (.iconst (-1), 1) := by decide +kernel
theorem dX10_withBit_17 : decode cX10_withBit 17 = .ok (.ixor, 1) := by decide +kernel
theorem dX10_withBit_18 : decode cX10_withBit 18 = .ok (.iand, 1) := by decide +kernel
theorem dX10_withBit_19 : decode cX10_withBit 19 = .ok (.ireturn, 1) := by decide +kernel
theorem dX10_differ_0 : decode cX10_differ 0 = .ok (.iconst 0, 1) := by decide +kernel
theorem dX10_differ_1 : decode cX10_differ 1 = .ok (.istore_n 2, 1) := by decide +kernel
theorem dX10_differ_2 : decode cX10_differ 2 = .ok (.iload_n 2, 1) := by decide +kernel
theorem dX10_differ_3 : decode cX10_differ 3 = .ok (.bipush 8, 2) := by decide +kernel
theorem dX10_differ_5 : decode cX10_differ 5 = .ok (.if_icmp .ge 20, 3) := by decide +kernel
theorem dX10_differ_8 : decode cX10_differ 8 = .ok (.aload_n 0, 1) := by decide +kernel
theorem dX10_differ_9 : decode cX10_differ 9 = .ok (.iload_n 2, 1) := by decide +kernel
theorem dX10_differ_10 : decode cX10_differ 10 = .ok (.iaload, 1) := by decide +kernel
theorem dX10_differ_11 : decode cX10_differ 11 = .ok (.aload_n 1, 1) := by decide +kernel
theorem dX10_differ_12 : decode cX10_differ 12 = .ok (.iload_n 2, 1) := by decide +kernel
theorem dX10_differ_13 : decode cX10_differ 13 = .ok (.iaload, 1) := by decide +kernel
theorem dX10_differ_14 : decode cX10_differ 14 = .ok (.if_icmp .eq 5, 3) := by decide +kernel
theorem dX10_differ_17 : decode cX10_differ 17 = .ok (.iconst 1, 1) := by decide +kernel
theorem dX10_differ_18 : decode cX10_differ 18 = .ok (.ireturn, 1) := by decide +kernel
theorem dX10_differ_19 : decode cX10_differ 19 = .ok (.iinc 2 1, 3) := by decide +kernel
theorem dX10_differ_22 : decode cX10_differ 22 = .ok (.goto (-20), 3) := by decide +kernel
theorem dX10_differ_25 : decode cX10_differ 25 = .ok (.iconst 0, 1) := by decide +kernel
theorem dX10_differ_26 : decode cX10_differ 26 = .ok (.ireturn, 1) := by decide +kernel
theorem dX10_enter_0 : decode cX10_enter 0 = .ok (.aload_n 0, 1) := by decide +kernel
theorem dX10_enter_1 : decode cX10_enter 1 = .ok (.getfield 47, 3) := by decide +kernel
theorem dX10_enter_4 : decode cX10_enter 4 = .ok (.aload_n 1, 1) := by decide +kernel
theorem dX10_enter_5 : decode cX10_enter 5 = .ok (.invokevirtual 314, 3) := by decide +kernel
theorem dX10_enter_8 : decode cX10_enter 8 = .ok (.pop, 1) := by decide +kernel
theorem dX10_enter_9 : decode cX10_enter 9 = .ok (.iconst 0, 1) := by decide +kernel
theorem dX10_enter_10 : decode cX10_enter 10 = .ok (.istore_n 2, 1) := by decide +kernel
theorem dX10_enter_11 : decode cX10_enter 11 = .ok (.iload_n 2, 1) := by decide +kernel
theorem dX10_enter_12 : decode cX10_enter 12 = .ok (.bipush 20, 2) := by decide +kernel
theorem dX10_enter_14 : decode cX10_enter 14 = .ok (.if_icmp .ge 27, 3) := by decide +kernel
theorem dX10_enter_17 : decode cX10_enter 17 = .ok (.aload_n 1, 1) := by decide +kernel
theorem dX10_enter_18 : decode cX10_enter 18 = .ok (.iload_n 2, 1) := by decide +kernel
theorem dX10_enter_19 : decode cX10_enter 19 = .ok (.invokevirtual 226, 3) := by decide +kernel
theorem dX10_enter_22 : decode cX10_enter 22 = .ok (.ifCond .eq 13, 3) := by decide +kernel
theorem dX10_enter_25 : decode cX10_enter 25 = .ok (.aload_n 0, 1) := by decide +kernel
theorem dX10_enter_26 : decode cX10_enter 26 = .ok (.getfield 53, 3) := by decide +kernel
theorem dX10_enter_29 : decode cX10_enter 29 = .ok (.iload_n 2, 1) := by decide +kernel
theorem dX10_enter_30 : decode cX10_enter 30 = .ok (.aaload, 1) := by decide +kernel
theorem dX10_enter_31 : decode cX10_enter 31 = .ok (.aload_n 1, 1) := by decide +kernel
theorem dX10_enter_32 : decode cX10_enter 32 = .ok (.invokevirtual 230, 3) := by decide +kernel
theorem dX10_enter_35 : decode cX10_enter 35 = .ok (.iinc 2 1, 3) := by decide +kernel
theorem dX10_enter_38 : decode cX10_enter 38 = .ok (.goto (-27), 3) := by decide +kernel
theorem dX10_enter_41 : decode cX10_enter 41 = .ok (.return_, 1) := by decide +kernel
theorem dX10_viewNow_0 : decode cX10_viewNow 0 = .ok (.aload_n 0, 1) := by decide +kernel
theorem dX10_viewNow_1 : decode cX10_viewNow 1 = .ok (.aload_n 0, 1) := by decide +kernel
theorem dX10_viewNow_2 : decode cX10_viewNow 2 = .ok (.getfield 62, 3) := by decide +kernel
theorem dX10_viewNow_5 : decode cX10_viewNow 5 = .ok (.iload_n 1, 1) := by decide +kernel
theorem dX10_viewNow_6 : decode cX10_viewNow 6 = .ok (.aload_n 0, 1) := by decide +kernel
theorem dX10_viewNow_7 : decode cX10_viewNow 7 = .ok (.getfield 19, 3) := by decide +kernel
theorem dX10_viewNow_10 : decode cX10_viewNow 10 = .ok (.getfield 153, 3) := by decide +kernel
theorem dX10_viewNow_13 : decode cX10_viewNow 13 = .ok (.aload_n 0, 1) := by decide +kernel
theorem dX10_viewNow_14 : decode cX10_viewNow 14 = .ok (.getfield 53, 3) := by decide +kernel
theorem dX10_viewNow_17 : decode cX10_viewNow 17 = .ok (.iload_n 1, 1) := by decide +kernel
theorem dX10_viewNow_18 : decode cX10_viewNow 18 = .ok (.aaload, 1) := by decide +kernel
theorem dX10_viewNow_19 : decode cX10_viewNow 19 = .ok (.invokevirtual 167, 3) := by decide +kernel
theorem dX10_viewNow_22 : decode cX10_viewNow 22 = .ok (.aload_n 0, 1) := by decide +kernel
theorem dX10_viewNow_23 : decode cX10_viewNow 23 = .ok (.getfield 62, 3) := by decide +kernel
theorem dX10_viewNow_26 : decode cX10_viewNow 26 = .ok (.iload_n 2, 1) := by decide +kernel
theorem dX10_viewNow_27 : decode cX10_viewNow 27 = .ok (.iaload, 1) := by decide +kernel
theorem dX10_viewNow_28 : decode cX10_viewNow 28 = .ok (.ireturn, 1) := by decide +kernel
theorem dX10_armNow_0 : decode cX10_armNow 0 = .ok (.aload_n 0, 1) := by decide +kernel
theorem dX10_armNow_1 : decode cX10_armNow 1 = .ok (.getfield 40, 3) := by decide +kernel
theorem dX10_armNow_4 : decode cX10_armNow 4 = .ok (.iload_n 1, 1) := by decide +kernel
theorem dX10_armNow_5 : decode cX10_armNow 5 = .ok (.aaload, 1) := by decide +kernel
theorem dX10_armNow_6 : decode cX10_armNow 6 = .ok (.iload_n 2, 1) := by decide +kernel
theorem dX10_armNow_7 : decode cX10_armNow 7 = .ok (.aload_n 0, 1) := by decide +kernel
theorem dX10_armNow_8 : decode cX10_armNow 8 = .ok (.getfield 53, 3) := by decide +kernel
theorem dX10_armNow_11 : decode cX10_armNow 11 = .ok (.iload_n 2, 1) := by decide +kernel
theorem dX10_armNow_12 : decode cX10_armNow 12 = .ok (.aaload, 1) := by decide +kernel
theorem dX10_armNow_13 : decode cX10_armNow 13 = .ok (.getfield 278, 3) := by decide +kernel
theorem dX10_armNow_16 : decode cX10_armNow 16 = .ok (.iload_n 1, 1) := by decide +kernel
theorem dX10_armNow_17 : decode cX10_armNow 17 = .ok (.iaload, 1) := by decide +kernel
theorem dX10_armNow_18 : decode cX10_armNow 18 = .ok (.invokevirtual 318, 3) := by decide +kernel
theorem dX10_armNow_21 : decode cX10_armNow 21 = .ok (.ireturn, 1) := by decide +kernel
theorem dX10_findViews_0 : decode cX10_findViews 0 = .ok (.iconst 0, 1) := by decide +kernel
theorem dX10_findViews_1 : decode cX10_findViews 1 = .ok (.istore 5, 2) := by decide +kernel
theorem dX10_findViews_3 : decode cX10_findViews 3 = .ok (.iconst 0, 1) := by decide +kernel
theorem dX10_findViews_4 : decode cX10_findViews 4 = .ok (.istore 6, 2) := by decide +kernel
theorem dX10_findViews_6 : decode cX10_findViews 6 = .ok (.iload 6, 2) := by decide +kernel
theorem dX10_findViews_8 : decode cX10_findViews 8 = .ok (.bipush 8, 2) := by decide +kernel
theorem dX10_findViews_10 : decode cX10_findViews 10 = .ok (.if_icmp .ge 106, 3) := by decide +kernel
theorem dX10_findViews_13 : decode cX10_findViews 13 = .ok (.aload_n 0, 1) := by decide +kernel
theorem dX10_findViews_14 : decode cX10_findViews 14 = .ok (.getfield 34, 3) := by decide +kernel
theorem dX10_findViews_17 : decode cX10_findViews 17 = .ok (.getfield 321, 3) := by decide +kernel
theorem dX10_findViews_20 : decode cX10_findViews 20 = .ok (.iload 6, 2) := by decide +kernel
theorem dX10_findViews_22 : decode cX10_findViews 22 = .ok (.iaload, 1) := by decide +kernel
theorem dX10_findViews_23 : decode cX10_findViews 23 = .ok (.istore 7, 2) := by decide +kernel
theorem dX10_findViews_25 : decode cX10_findViews 25 = .ok (.aload 4, 2) := by decide +kernel
theorem dX10_findViews_27 : decode cX10_findViews 27 = .ok (.getfield 281, 3) := by decide +kernel
theorem dX10_findViews_30 : decode cX10_findViews 30 = .ok (.iload 7, 2) := by decide +kernel
theorem dX10_findViews_32 : decode cX10_findViews 32 = .ok (.iaload, 1) := by decide +kernel
theorem dX10_findViews_33 : decode cX10_findViews 33 = .ok (.ifCond .eq 18, 3) := by decide +kernel
theorem dX10_findViews_36 : decode cX10_findViews 36 = .ok (.aload_n 1, 1) := by decide +kernel
theorem dX10_findViews_37 : decode cX10_findViews 37 = .ok (.iload 7, 2) := by decide +kernel
theorem dX10_findViews_39 : decode cX10_findViews 39 = .ok (.aload 4, 2) := by decide +kernel
theorem dX10_findViews_41 : decode cX10_findViews 41 = .ok (.getfield 324, 3) := by decide +kernel
theorem dX10_findViews_44 : decode cX10_findViews 44 = .ok (.iload 7, 2) := by decide +kernel
theorem dX10_findViews_46 : decode cX10_findViews 46 = .ok (.iaload, 1) := by decide +kernel
theorem dX10_findViews_47 : decode cX10_findViews 47 = .ok (.iastore, 1) := by decide +kernel
theorem dX10_findViews_48 : decode cX10_findViews 48 = .ok (.goto 41, 3) := by decide +kernel
theorem dX10_findViews_51 : decode cX10_findViews 51 = .ok (.aload_n 0, 1) := by decide +kernel
theorem dX10_findViews_52 : decode cX10_findViews 52 = .ok (.getfield 34, 3) := by decide +kernel
theorem dX10_findViews_55 : decode cX10_findViews 55 = .ok (.getfield 198, 3) := by decide +kernel
theorem dX10_findViews_58 : decode cX10_findViews 58 = .ok (.iload 7, 2) := by decide +kernel
theorem dX10_findViews_60 : decode cX10_findViews 60 = .ok (.iaload, 1) := by decide +kernel
theorem dX10_findViews_61 : decode cX10_findViews 61 = .ok (.iload 5, 2) := by decide +kernel
theorem dX10_findViews_63 : decode cX10_findViews 63 = .ok (.iand, 1) := by decide +kernel
theorem dX10_findViews_64 : decode cX10_findViews 64 = .ok (.ifCond .eq 11, 3) := by decide +kernel
theorem dX10_findViews_67 : decode cX10_findViews 67 = .ok (.aload_n 1, 1) := by decide +kernel
theorem dX10_findViews_68 : decode cX10_findViews 68 = .ok (.iload 7, 2) := by decide +kernel
theorem dX10_findViews_70 : decode cX10_findViews 70 = .ok (.iconst 0, 1) := by decide +kernel
theorem dX10_findViews_71 : decode cX10_findViews 71 = .ok (.iastore, 1) := by decide +kernel
theorem dX10_findViews_72 : decode cX10_findViews 72 = .ok (.goto 17, 3) := by decide +kernel
theorem dX10_findViews_75 : decode cX10_findViews 75 = .ok (.aload_n 1, 1) := by decide +kernel
theorem dX10_findViews_76 : decode cX10_findViews 76 = .ok (.iload 7, 2) := by decide +kernel
theorem dX10_findViews_78 : decode cX10_findViews 78 = .ok (.aload_n 0, 1) := by decide +kernel
theorem dX10_findViews_79 : decode cX10_findViews 79 = .ok (.iload_n 2, 1) := by decide +kernel
theorem dX10_findViews_80 : decode cX10_findViews 80 = .ok (.iload 7, 2) := by decide +kernel
theorem dX10_findViews_82 : decode cX10_findViews 82 = .ok (.aload_n 3, 1) := by decide +kernel
theorem dX10_findViews_83 : decode cX10_findViews 83 = .ok (.aload 4, 2) := by decide +kernel
theorem dX10_findViews_85 : decode cX10_findViews 85 = .ok (.invokevirtual 327, 3) := by decide +kernel
theorem dX10_findViews_88 : decode cX10_findViews 88 = .ok (.iastore, 1) := by decide +kernel
theorem dX10_findViews_89 : decode cX10_findViews 89 = .ok (.iload 5, 2) := by decide +kernel
theorem dX10_findViews_91 : decode cX10_findViews 91 = .ok (.iload 7, 2) := by decide +kernel
theorem dX10_findViews_93 : decode cX10_findViews 93 = .ok (.aload_n 1, 1) := by decide +kernel
theorem dX10_findViews_94 : decode cX10_findViews 94 = .ok (.iload 7, 2) := by decide +kernel
theorem dX10_findViews_96 : decode cX10_findViews 96 = .ok (.iaload, 1) := by decide +kernel
theorem dX10_findViews_97 : decode cX10_findViews 97 = .ok (.ifCond .ne 7, 3) := by decide +kernel
theorem dX10_findViews_100 : decode cX10_findViews 100 = .ok (.iconst 1, 1) := by decide +kernel
theorem dX10_findViews_101 : decode cX10_findViews 101 = .ok (.goto 4, 3) := by decide +kernel
theorem dX10_findViews_104 : decode cX10_findViews 104 = .ok (.iconst 0, 1) := by decide +kernel
theorem dX10_findViews_105 : decode cX10_findViews 105 = .ok (.invokestatic 97, 3) := by decide +kernel
theorem dX10_findViews_108 : decode cX10_findViews 108 = .ok (.istore 5, 2) := by decide +kernel
theorem dX10_findViews_110 : decode cX10_findViews 110 = .ok (.iinc 6 1, 3) := by decide +kernel
theorem dX10_findViews_113 : decode cX10_findViews 113 = .ok (.goto (-107), 3) := by decide +kernel
theorem dX10_findViews_116 : decode cX10_findViews 116 = .ok (.return_, 1) := by decide +kernel
theorem dX10_decidedView_0 : decode cX10_decidedView 0 = .ok (.aload_n 0, 1) := by decide +kernel
theorem dX10_decidedView_1 : decode cX10_decidedView 1 = .ok (.getfield 25, 3) := by decide +kernel
theorem dX10_decidedView_4 : decode cX10_decidedView 4 = .ok (.iload_n 2, 1) := by decide +kernel
theorem dX10_decidedView_5 : decode cX10_decidedView 5 = .ok (.aaload, 1) := by decide +kernel
theorem dX10_decidedView_6 : decode cX10_decidedView 6 = .ok (.iload_n 1, 1) := by decide +kernel
theorem dX10_decidedView_7 : decode cX10_decidedView 7 = .ok (.aload_n 3, 1) := by decide +kernel
theorem dX10_decidedView_8 : decode cX10_decidedView 8 = .ok (.invokevirtual 234, 3) := by decide +kernel
theorem dX10_decidedView_11 : decode cX10_decidedView 11 = .ok (.istore 5, 2) := by decide +kernel
theorem dX10_decidedView_13 : decode cX10_decidedView 13 = .ok (.iload 5, 2) := by decide +kernel
theorem dX10_decidedView_15 : decode cX10_decidedView 15 = .ok (.iconst (-1), 1) := by decide +kernel
theorem dX10_decidedView_16 : decode cX10_decidedView 16 = .ok (.if_icmp .ne 5, 3) := by decide +kernel
theorem dX10_decidedView_19 : decode cX10_decidedView 19 = .ok (.iconst 0, 1) := by decide +kernel
theorem dX10_decidedView_20 : decode cX10_decidedView 20 = .ok (.ireturn, 1) := by decide +kernel
theorem dX10_decidedView_21 : decode cX10_decidedView 21 = .ok (.aload_n 0, 1) := by decide +kernel
theorem dX10_decidedView_22 : decode cX10_decidedView 22 = .ok (.getfield 25, 3) := by decide +kernel
theorem dX10_decidedView_25 : decode cX10_decidedView 25 = .ok (.iload_n 2, 1) := by decide +kernel
theorem dX10_decidedView_26 : decode cX10_decidedView 26 = .ok (.aaload, 1) := by decide +kernel
theorem dX10_decidedView_27 : decode cX10_decidedView 27 = .ok (.iload 5, 2) := by decide +kernel
theorem dX10_decidedView_29 : decode cX10_decidedView 29 = .ok (.invokevirtual 331, 3) := by decide +kernel
theorem dX10_decidedView_32 : decode cX10_decidedView 32 = .ok (.istore 6, 2) := by decide +kernel
theorem dX10_decidedView_34 : decode cX10_decidedView 34 = .ok (.iload 6, 2) := by decide +kernel
theorem dX10_decidedView_36 : decode cX10_decidedView 36 = .ok (.iconst (-1), 1) := by decide +kernel
theorem dX10_decidedView_37 : decode cX10_decidedView 37 = .ok (.if_icmp .ne 17, 3) := by decide +kernel
theorem dX10_decidedView_40 : decode cX10_decidedView 40 = .ok (.aload_n 0, 1) := by decide +kernel
theorem dX10_decidedView_41 : decode cX10_decidedView 41 = .ok (.getfield 25, 3) := by decide +kernel
theorem dX10_decidedView_44 : decode cX10_decidedView 44 = .ok (.iload_n 2, 1) := by decide +kernel
theorem dX10_decidedView_45 : decode cX10_decidedView 45 = .ok (.aaload, 1) := by decide +kernel
theorem dX10_decidedView_46 : decode cX10_decidedView 46 = .ok (.iload 5, 2) := by decide +kernel
theorem dX10_decidedView_48 : decode cX10_decidedView 48 = .ok (.invokevirtual 190, 3) := by decide +kernel
theorem dX10_decidedView_51 : decode cX10_decidedView 51 = .ok (.goto 22, 3) := by decide +kernel
theorem dX10_decidedView_54 : decode cX10_decidedView 54 = .ok (.aload_n 0, 1) := by decide +kernel
theorem dX10_decidedView_55 : decode cX10_decidedView 55 = .ok (.getfield 40, 3) := by decide +kernel
theorem dX10_decidedView_58 : decode cX10_decidedView 58 = .ok (.iload 6, 2) := by decide +kernel
theorem dX10_decidedView_60 : decode cX10_decidedView 60 = .ok (.aaload, 1) := by decide +kernel
theorem dX10_decidedView_61 : decode cX10_decidedView 61 = .ok (.iload_n 1, 1) := by decide +kernel
theorem dX10_decidedView_62 : decode cX10_decidedView 62 = .ok (.aload 4, 2) := by decide +kernel
theorem dX10_decidedView_64 : decode cX10_decidedView 64 = .ok (.getfield 278, 3) := by decide +kernel
theorem dX10_decidedView_67 : decode cX10_decidedView 67 = .ok (.iload 6, 2) := by decide +kernel
theorem dX10_decidedView_69 : decode cX10_decidedView 69 = .ok (.iaload, 1) := by decide +kernel
theorem dX10_decidedView_70 : decode cX10_decidedView 70 = .ok (.invokevirtual 318, 3) := by decide +kernel
theorem dX10_decidedView_73 : decode cX10_decidedView 73 = .ok (.ireturn, 1) := by decide +kernel
theorem dX10_trialThatShows_0 : decode cX10_trialThatShows 0 = .ok (.aload_n 0, 1) := by decide +kernel
theorem dX10_trialThatShows_1 : decode cX10_trialThatShows 1 = .ok (.getfield 53, 3) := by decide +kernel
theorem dX10_trialThatShows_4 : decode cX10_trialThatShows 4 = .ok (.iload_n 1, 1) := by decide +kernel
theorem dX10_trialThatShows_5 : decode cX10_trialThatShows 5 = .ok (.aaload, 1) := by decide +kernel
theorem dX10_trialThatShows_6 : decode cX10_trialThatShows 6 = .ok (.getfield 281, 3) := by decide +kernel
theorem dX10_trialThatShows_9 : decode cX10_trialThatShows 9 = .ok (.iload_n 2, 1) := by decide +kernel
theorem dX10_trialThatShows_10 : decode cX10_trialThatShows 10 = .ok (.iaload, 1) := by decide +kernel
theorem dX10_trialThatShows_11 : decode cX10_trialThatShows 11 = .ok (.ifCond .ne 12, 3) := by decide +kernel
theorem dX10_trialThatShows_14 : decode cX10_trialThatShows 14 = .ok (.aload_n 0, 1) := by decide +kernel
theorem dX10_trialThatShows_15 : decode cX10_trialThatShows 15 = .ok (.iload_n 1, 1) := by decide +kernel
theorem dX10_trialThatShows_16 : decode cX10_trialThatShows 16 = .ok (.iload_n 2, 1) := by decide +kernel
theorem dX10_trialThatShows_17 : decode cX10_trialThatShows 17 = .ok (.invokevirtual 334, 3) := by decide +kernel
theorem dX10_trialThatShows_20 : decode cX10_trialThatShows 20 = .ok (.ifCond .eq 5, 3) := by decide +kernel
theorem dX10_trialThatShows_23 : decode cX10_trialThatShows 23 = .ok (.iconst (-1), 1) := by decide +kernel
theorem dX10_trialThatShows_24 : decode cX10_trialThatShows 24 = .ok (.ireturn, 1) := by decide +kernel
theorem dX10_trialThatShows_25 : decode cX10_trialThatShows 25 = .ok (.aload_n 0, 1) := by decide +kernel
theorem dX10_trialThatShows_26 : decode cX10_trialThatShows 26 = .ok (.getfield 25, 3) := by decide +kernel
theorem dX10_trialThatShows_29 : decode cX10_trialThatShows 29 = .ok (.iload_n 2, 1) := by decide +kernel
theorem dX10_trialThatShows_30 : decode cX10_trialThatShows 30 = .ok (.aaload, 1) := by decide +kernel
theorem dX10_trialThatShows_31 : decode cX10_trialThatShows 31 = .ok (.iload_n 1, 1) := by decide +kernel
theorem dX10_trialThatShows_32 : decode cX10_trialThatShows 32 = .ok (.aload_n 0, 1) := by decide +kernel
theorem dX10_trialThatShows_33 : decode cX10_trialThatShows 33 = .ok (.getfield 19, 3) := by decide +kernel
theorem dX10_trialThatShows_36 : decode cX10_trialThatShows 36 = .ok (.getfield 153, 3) := by decide +kernel
theorem dX10_trialThatShows_39 : decode cX10_trialThatShows 39 = .ok (.invokevirtual 234, 3) := by decide +kernel
theorem dX10_trialThatShows_42 : decode cX10_trialThatShows 42 = .ok (.istore_n 3, 1) := by decide +kernel
theorem dX10_trialThatShows_43 : decode cX10_trialThatShows 43 = .ok (.iload_n 3, 1) := by decide +kernel
theorem dX10_trialThatShows_44 : decode cX10_trialThatShows 44 = .ok (.iconst (-1), 1) := by decide +kernel
theorem dX10_trialThatShows_45 : decode cX10_trialThatShows 45 = .ok (.if_icmp .ne 7, 3) := by decide +kernel
theorem dX10_trialThatShows_48 : decode cX10_trialThatShows 48 = .ok (.iconst (-1), 1) := by decide +kernel
theorem dX10_trialThatShows_49 : decode cX10_trialThatShows 49 = .ok (.goto 13, 3) := by decide +kernel
theorem dX10_trialThatShows_52 : decode cX10_trialThatShows 52 = .ok (.aload_n 0, 1) := by decide +kernel
theorem dX10_trialThatShows_53 : decode cX10_trialThatShows 53 = .ok (.getfield 25, 3) := by decide +kernel
theorem dX10_trialThatShows_56 : decode cX10_trialThatShows 56 = .ok (.iload_n 2, 1) := by decide +kernel
theorem dX10_trialThatShows_57 : decode cX10_trialThatShows 57 = .ok (.aaload, 1) := by decide +kernel
theorem dX10_trialThatShows_58 : decode cX10_trialThatShows 58 = .ok (.iload_n 3, 1) := by decide +kernel
theorem dX10_trialThatShows_59 : decode cX10_trialThatShows 59 = .ok (.invokevirtual 331, 3) := by decide +kernel
theorem dX10_trialThatShows_62 : decode cX10_trialThatShows 62 = .ok (.ireturn, 1) := by decide +kernel
theorem dX10_needsZero_0 : decode cX10_needsZero 0 = .ok (.aload_n 0, 1) := by decide +kernel
theorem dX10_needsZero_1 : decode cX10_needsZero 1 = .ok (.aload_n 0, 1) := by decide +kernel
theorem dX10_needsZero_2 : decode cX10_needsZero 2 = .ok (.getfield 62, 3) := by decide +kernel
theorem dX10_needsZero_5 : decode cX10_needsZero 5 = .ok (.iload_n 1, 1) := by decide +kernel
theorem dX10_needsZero_6 : decode cX10_needsZero 6 = .ok (.aload_n 0, 1) := by decide +kernel
theorem dX10_needsZero_7 : decode cX10_needsZero 7 = .ok (.getfield 19, 3) := by decide +kernel
theorem dX10_needsZero_10 : decode cX10_needsZero 10 = .ok (.getfield 153, 3) := by decide +kernel
theorem dX10_needsZero_13 : decode cX10_needsZero 13 = .ok (.aload_n 0, 1) := by decide +kernel
theorem dX10_needsZero_14 : decode cX10_needsZero 14 = .ok (.getfield 53, 3) := by decide +kernel
theorem dX10_needsZero_17 : decode cX10_needsZero 17 = .ok (.iload_n 1, 1) := by decide +kernel
theorem dX10_needsZero_18 : decode cX10_needsZero 18 = .ok (.aaload, 1) := by decide +kernel
theorem dX10_needsZero_19 : decode cX10_needsZero 19 = .ok (.invokevirtual 167, 3) := by decide +kernel
theorem dX10_needsZero_22 : decode cX10_needsZero 22 = .ok (.iconst 0, 1) := by decide +kernel
theorem dX10_needsZero_23 : decode cX10_needsZero 23 = .ok (.istore_n 3, 1) := by decide +kernel
theorem dX10_needsZero_24 : decode cX10_needsZero 24 = .ok (.iload_n 3, 1) := by decide +kernel
theorem dX10_needsZero_25 : decode cX10_needsZero 25 = .ok (.bipush 8, 2) := by decide +kernel
theorem dX10_needsZero_27 : decode cX10_needsZero 27 = .ok (.if_icmp .ge 36, 3) := by decide +kernel
theorem dX10_needsZero_30 : decode cX10_needsZero 30 = .ok (.aload_n 0, 1) := by decide +kernel
theorem dX10_needsZero_31 : decode cX10_needsZero 31 = .ok (.getfield 34, 3) := by decide +kernel
theorem dX10_needsZero_34 : decode cX10_needsZero 34 = .ok (.getfield 198, 3) := by decide +kernel
theorem dX10_needsZero_37 : decode cX10_needsZero 37 = .ok (.iload_n 2, 1) := by decide +kernel
theorem dX10_needsZero_38 : decode cX10_needsZero 38 = .ok (.iaload, 1) := by decide +kernel
theorem dX10_needsZero_39 : decode cX10_needsZero 39 = .ok (.iload_n 3, 1) := by decide +kernel
theorem dX10_needsZero_40 : decode cX10_needsZero 40 = .ok (.invokestatic 93, 3) := by decide +kernel
theorem dX10_needsZero_43 : decode cX10_needsZero 43 = .ok (.ifCond .eq 14, 3) := by decide +kernel
theorem dX10_needsZero_46 : decode cX10_needsZero 46 = .ok (.aload_n 0, 1) := by decide +kernel
theorem dX10_needsZero_47 : decode cX10_needsZero 47 = .ok (.getfield 62, 3) := by decide +kernel
theorem dX10_needsZero_50 : decode cX10_needsZero 50 = .ok (.iload_n 3, 1) := by decide +kernel
theorem dX10_needsZero_51 : decode cX10_needsZero 51 = .ok (.iaload, 1) := by decide +kernel
theorem dX10_needsZero_52 : decode cX10_needsZero 52 = .ok (.ifCond .ne 5, 3) := by decide +kernel
theorem dX10_needsZero_55 : decode cX10_needsZero 55 = .ok (.iconst 1, 1) := by decide +kernel
theorem dX10_needsZero_56 : decode cX10_needsZero 56 = .ok (.ireturn, 1) := by decide +kernel
theorem dX10_needsZero_57 : decode cX10_needsZero 57 = .ok (.iinc 3 1, 3) := by decide +kernel
theorem dX10_needsZero_60 : decode cX10_needsZero 60 = .ok (.goto (-36), 3) := by decide +kernel
theorem dX10_needsZero_63 : decode cX10_needsZero 63 = .ok (.iconst 0, 1) := by decide +kernel
theorem dX10_needsZero_64 : decode cX10_needsZero 64 = .ok (.ireturn, 1) := by decide +kernel
theorem dX10_keeps_0 : decode cX10_keeps 0 = .ok (.iload_n 1, 1) := by decide +kernel
theorem dX10_keeps_1 : decode cX10_keeps 1 = .ok (.iconst (-1), 1) := by decide +kernel
theorem dX10_keeps_2 : decode cX10_keeps 2 = .ok (.if_icmp .eq 35, 3) := by decide +kernel
theorem dX10_keeps_5 : decode cX10_keeps 5 = .ok (.aload_n 0, 1) := by decide +kernel
theorem dX10_keeps_6 : decode cX10_keeps 6 = .ok (.getfield 40, 3) := by decide +kernel
theorem dX10_keeps_9 : decode cX10_keeps 9 = .ok (.iload_n 1, 1) := by decide +kernel
theorem dX10_keeps_10 : decode cX10_keeps 10 = .ok (.aaload, 1) := by decide +kernel
theorem dX10_keeps_11 : decode cX10_keeps 11 = .ok (.getfield 275, 3) := by decide +kernel
theorem dX10_keeps_14 : decode cX10_keeps 14 = .ok (.iconst (-1), 1) := by decide +kernel
theorem dX10_keeps_15 : decode cX10_keeps 15 = .ok (.if_icmp .ne 22, 3) := by decide +kernel
theorem dX10_keeps_18 : decode cX10_keeps 18 = .ok (.aload_n 0, 1) := by decide +kernel
theorem dX10_keeps_19 : decode cX10_keeps 19 = .ok (.getfield 53, 3) := by decide +kernel
theorem dX10_keeps_22 : decode cX10_keeps 22 = .ok (.iload_n 2, 1) := by decide +kernel
theorem dX10_keeps_23 : decode cX10_keeps 23 = .ok (.aaload, 1) := by decide +kernel
theorem dX10_keeps_24 : decode cX10_keeps 24 = .ok (.getfield 278, 3) := by decide +kernel
theorem dX10_keeps_27 : decode cX10_keeps 27 = .ok (.iload_n 1, 1) := by decide +kernel
theorem dX10_keeps_28 : decode cX10_keeps 28 = .ok (.iaload, 1) := by decide +kernel
theorem dX10_keeps_29 : decode cX10_keeps 29 = .ok (.iconst (-1), 1) := by decide +kernel
theorem dX10_keeps_30 : decode cX10_keeps 30 = .ok (.if_icmp .ne 7, 3) := by decide +kernel
theorem dX10_keeps_33 : decode cX10_keeps 33 = .ok (.iconst 1, 1) := by decide +kernel
theorem dX10_keeps_34 : decode cX10_keeps 34 = .ok (.goto 4, 3) := by decide +kernel
theorem dX10_keeps_37 : decode cX10_keeps 37 = .ok (.iconst 0, 1) := by decide +kernel
theorem dX10_keeps_38 : decode cX10_keeps 38 = .ok (.ireturn, 1) := by decide +kernel
end
section
theorem dX11_init_0 : decode cX11_init 0 = .ok (.aload_n 0, 1) := by decide +kernel
theorem dX11_init_1 : decode cX11_init 1 = .ok (.invokespecial 1, 3) := by decide +kernel
theorem dX11_init_4 : decode cX11_init 4 = .ok (.aload_n 0, 1) := by decide +kernel
theorem dX11_init_5 : decode cX11_init 5 = .ok (.bipush 60, 2) := by decide +kernel
theorem dX11_init_7 : decode cX11_init 7 = .ok (.newarray .int, 2) := by decide +kernel
theorem dX11_init_9 : decode cX11_init 9 = .ok (.putfield 7, 3) := by decide +kernel
theorem dX11_init_12 : decode cX11_init 12 = .ok (.aload_n 0, 1) := by decide +kernel
theorem dX11_init_13 : decode cX11_init 13 = .ok (.bipush 20, 2) := by decide +kernel
theorem dX11_init_15 : decode cX11_init 15 = .ok (.newarray .int, 2) := by decide +kernel
theorem dX11_init_17 : decode cX11_init 17 = .ok (.putfield 13, 3) := by decide +kernel
theorem dX11_init_20 : decode cX11_init 20 = .ok (.aload_n 0, 1) := by decide +kernel
theorem dX11_init_21 : decode cX11_init 21 = .ok (.sipush 360, 3) := by decide +kernel
theorem dX11_init_24 : decode cX11_init 24 = .ok (.newarray .int, 2) := by decide +kernel
theorem dX11_init_26 : decode cX11_init 26 = .ok (.putfield 16, 3) := by decide +kernel
theorem dX11_init_29 : decode cX11_init 29 = .ok (.aload_n 0, 1) := by decide +kernel
theorem dX11_init_30 : decode cX11_init 30 = .ok (.bipush 6, 2) := by decide +kernel
theorem dX11_init_32 : decode cX11_init 32 = .ok (.newarray .int, 2) := by decide +kernel
theorem dX11_init_34 : decode cX11_init 34 = .ok (.putfield 19, 3) := by decide +kernel
theorem dX11_init_37 : decode cX11_init 37 = .ok (.aload_n 0, 1) := by decide +kernel
theorem dX11_init_38 : decode cX11_init 38 = .ok (.sipush 360, 3) := by decide +kernel
theorem dX11_init_41 : decode cX11_init 41 = .ok (.newarray .int, 2) := by decide +kernel
theorem dX11_init_43 : decode cX11_init 43 = .ok (.putfield 22, 3) := by decide +kernel
theorem dX11_init_46 : decode cX11_init 46 = .ok (.aload_n 0, 1) := by decide +kernel
theorem dX11_init_47 : decode cX11_init 47 = .ok (.bipush 6, 2) := by decide +kernel
theorem dX11_init_49 : decode cX11_init 49 = .ok (.newarray .int, 2) := by decide +kernel
theorem dX11_init_51 : decode cX11_init 51 = .ok (.putfield 25, 3) := by decide +kernel
theorem dX11_init_54 : decode cX11_init 54 = .ok (.aload_n 0, 1) := by decide +kernel
theorem dX11_init_55 : decode cX11_init 55 = .ok (.bipush 60, 2) := by decide +kernel
theorem dX11_init_57 : decode cX11_init 57 = .ok (.newarray .int, 2) := by decide +kernel
theorem dX11_init_59 : decode cX11_init 59 = .ok (.putfield 28, 3) := by decide +kernel
theorem dX11_init_62 : decode cX11_init 62 = .ok (.aload_n 0, 1) := by decide +kernel
theorem dX11_init_63 : decode cX11_init 63 = .ok (.bipush 6, 2) := by decide +kernel
theorem dX11_init_65 : decode cX11_init 65 = .ok (.newarray .int, 2) := by decide +kernel
theorem dX11_init_67 : decode cX11_init 67 = .ok (.putfield 31, 3) := by decide +kernel
theorem dX11_init_70 : decode cX11_init 70 = .ok (.aload_n 0, 1) := by decide +kernel
theorem dX11_init_71 : decode cX11_init 71 = .ok (.bipush 6, 2) := by decide +kernel
theorem dX11_init_73 : decode cX11_init 73 = .ok (.newarray .int, 2) := by decide +kernel
theorem dX11_init_75 : decode cX11_init 75 = .ok (.putfield 34, 3) := by decide +kernel
theorem dX11_init_78 : decode cX11_init 78 = .ok (.aload_n 0, 1) := by decide +kernel
theorem dX11_init_79 : decode cX11_init 79 = .ok (.bipush 6, 2) := by decide +kernel
theorem dX11_init_81 : decode cX11_init 81 = .ok (.newarray .int, 2) := by decide +kernel
theorem dX11_init_83 : decode cX11_init 83 = .ok (.putfield 37, 3) := by decide +kernel
theorem dX11_init_86 : decode cX11_init 86 = .ok (.aload_n 0, 1) := by decide +kernel
theorem dX11_init_87 : decode cX11_init 87 = .ok (.bipush 10, 2) := by decide +kernel
theorem dX11_init_89 : decode cX11_init 89 = .ok (.newarray .boolean, 2) := by decide +kernel
theorem dX11_init_91 : decode cX11_init 91 = .ok (.putfield 40, 3) := by decide +kernel
theorem dX11_init_94 : decode cX11_init 94 = .ok (.aload_n 0, 1) := by decide +kernel
theorem dX11_init_95 : decode cX11_init 95 = .ok (.bipush 10, 2) := by decide +kernel
theorem dX11_init_97 : decode cX11_init 97 = .ok (.newarray .boolean, 2) := by decide +kernel
theorem dX11_init_99 : decode cX11_init 99 = .ok (.putfield 44, 3) := by decide +kernel
theorem dX11_init_102 : decode cX11_init 102 = .ok (.aload_n 0, 1) := by decide +kernel
theorem dX11_init_103 : decode cX11_init 103 = .ok (.bipush 10, 2) := by decide +kernel
theorem dX11_init_105 : decode cX11_init 105 = .ok (.newarray .boolean, 2) := by decide +kernel
theorem dX11_init_107 : decode cX11_init 107 = .ok (.putfield 47, 3) := by decide +kernel
theorem dX11_init_110 : decode cX11_init 110 = .ok (.aload_n 0, 1) := by decide +kernel
theorem dX11_init_111 : decode cX11_init 111 = .ok (.bipush 8, 2) := by decide +kernel
theorem dX11_init_113 : decode cX11_init 113 = .ok (.newarray .int, 2) := by decide +kernel
theorem dX11_init_115 : decode cX11_init 115 = .ok (.putfield 50, 3) := by decide +kernel
theorem dX11_init_118 : decode cX11_init 118 = .ok (.aload_n 0, 1) := by decide +kernel
theorem dX11_init_119 : decode cX11_init 119 = .ok (.bipush 40, 2) := by decide +kernel
theorem dX11_init_121 : decode cX11_init 121 = .ok (.newarray .int, 2) := by decide +kernel
theorem dX11_init_123 : decode cX11_init 123 = .ok (.putfield 53, 3) := by decide +kernel
theorem dX11_init_126 : decode cX11_init 126 = .ok (.aload_n 0, 1) := by decide +kernel
theorem dX11_init_127 : decode cX11_init 127 = .ok (.bipush 40, 2) := by decide +kernel
theorem dX11_init_129 : decode cX11_init 129 = .ok (.newarray .int, 2) := by decide +kernel
theorem dX11_init_131 : decode cX11_init 131 = .ok (.putfield 56, 3) := by decide +kernel
theorem dX11_init_134 : decode cX11_init 134 = .ok (.aload_n 0, 1) := by decide +kernel
theorem dX11_init_135 : decode cX11_init 135 = .ok (.bipush 8, 2) := by decide +kernel
theorem dX11_init_137 : decode cX11_init 137 = .ok (.newarray .int, 2) := by decide +kernel
theorem dX11_init_139 : decode cX11_init 139 = .ok (.putfield 59, 3) := by decide +kernel
theorem dX11_init_142 : decode cX11_init 142 = .ok (.aload_n 0, 1) := by decide +kernel
theorem dX11_init_143 : decode cX11_init 143 = .ok (.sipush 160, 3) := by decide +kernel
theorem dX11_init_146 : decode cX11_init 146 = .ok (.newarray .int, 2) := by decide +kernel
theorem dX11_init_148 : decode cX11_init 148 = .ok (.putfield 62, 3) := by decide +kernel
theorem dX11_init_151 : decode cX11_init 151 = .ok (.aload_n 0, 1) := by decide +kernel
theorem dX11_init_152 : decode cX11_init 152 = .ok (.sipush 160, 3) := by decide +kernel
theorem dX11_init_155 : decode cX11_init 155 = .ok (.newarray .int, 2) := by decide +kernel
theorem dX11_init_157 : decode cX11_init 157 = .ok (.putfield 65, 3) := by decide +kernel
theorem dX11_init_160 : decode cX11_init 160 = .ok (.aload_n 0, 1) := by decide +kernel
theorem dX11_init_161 : decode cX11_init 161 = .ok (.bipush 24, 2) := by decide +kernel
theorem dX11_init_163 : decode cX11_init 163 = .ok (.newarray .int, 2) := by decide +kernel
theorem dX11_init_165 : decode cX11_init 165 = .ok (.putfield 68, 3) := by decide +kernel
theorem dX11_init_168 : decode cX11_init 168 = .ok (.aload_n 0, 1) := by decide +kernel
theorem dX11_init_169 : decode cX11_init 169 = .ok (.bipush 6, 2) := by decide +kernel
theorem dX11_init_171 : decode cX11_init 171 = .ok (.newarray .int, 2) := by decide +kernel
theorem dX11_init_173 : decode cX11_init 173 = .ok (.putfield 71, 3) := by decide +kernel
theorem dX11_init_176 : decode cX11_init 176 = .ok (.aload_n 0, 1) := by decide +kernel
theorem dX11_init_177 : decode cX11_init 177 = .ok (.bipush 6, 2) := by decide +kernel
theorem dX11_init_179 : decode cX11_init 179 = .ok (.newarray .int, 2) := by decide +kernel
theorem dX11_init_181 : decode cX11_init 181 = .ok (.putfield 74, 3) := by decide +kernel
theorem dX11_init_184 : decode cX11_init 184 = .ok (.aload_n 0, 1) := by decide +kernel
theorem dX11_init_185 : decode cX11_init 185 = .ok (.bipush 120, 2) := by decide +kernel
theorem dX11_init_187 : decode cX11_init 187 = .ok (.newarray .int, 2) := by decide +kernel
theorem dX11_init_189 : decode cX11_init 189 = .ok (.putfield 77, 3) := by decide +kernel
theorem dX11_init_192 : decode cX11_init 192 = .ok (.aload_n 0, 1) := by decide +kernel
theorem dX11_init_193 : decode cX11_init 193 = .ok (.sipush 960, 3) := by decide +kernel
theorem dX11_init_196 : decode cX11_init 196 = .ok (.newarray .int, 2) := by decide +kernel
theorem dX11_init_198 : decode cX11_init 198 = .ok (.putfield 80, 3) := by decide +kernel
theorem dX11_init_201 : decode cX11_init 201 = .ok (.aload_n 0, 1) := by decide +kernel
theorem dX11_init_202 : decode cX11_init 202 = .ok (.bipush 6, 2) := by decide +kernel
theorem dX11_init_204 : decode cX11_init 204 = .ok (.newarray .boolean, 2) := by decide +kernel
theorem dX11_init_206 : decode cX11_init 206 = .ok (.putfield 83, 3) := by decide +kernel
theorem dX11_init_209 : decode cX11_init 209 = .ok (.aload_n 0, 1) := by decide +kernel
theorem dX11_init_210 : decode cX11_init 210 = .ok (.sipush 160, 3) := by decide +kernel
theorem dX11_init_213 : decode cX11_init 213 = .ok (.newarray .int, 2) := by decide +kernel
theorem dX11_init_215 : decode cX11_init 215 = .ok (.putfield 86, 3) := by decide +kernel
theorem dX11_init_218 : decode cX11_init 218 = .ok (.aload_n 0, 1) := by decide +kernel
theorem dX11_init_219 : decode cX11_init 219 = .ok (.sipush 160, 3) := by decide +kernel
theorem dX11_init_222 : decode cX11_init 222 = .ok (.newarray .int, 2) := by decide +kernel
theorem dX11_init_224 : decode cX11_init 224 = .ok (.putfield 89, 3) := by decide +kernel
theorem dX11_init_227 : decode cX11_init 227 = .ok (.aload_n 0, 1) := by decide +kernel
theorem dX11_init_228 : decode cX11_init 228 = .ok (.sipush 160, 3) := by decide +kernel
theorem dX11_init_231 : decode cX11_init 231 = .ok (.newarray .int, 2) := by decide +kernel
theorem dX11_init_233 : decode cX11_init 233 = .ok (.putfield 92, 3) := by decide +kernel
theorem dX11_init_236 : decode cX11_init 236 = .ok (.return_, 1) := by decide +kernel
theorem dX11_thrown_0 : decode cX11_thrown 0 = .ok (.aload_n 0, 1) := by decide +kernel
theorem dX11_thrown_1 : decode cX11_thrown 1 = .ok (.getfield 95, 3) := by decide +kernel
theorem dX11_thrown_4 : decode cX11_thrown 4 = .ok (.ireturn, 1) := by decide +kernel
theorem dX11_goesWell_0 : decode cX11_goesWell 0 = .ok (.aload_n 0, 1) := by decide +kernel
theorem dX11_goesWell_1 : decode cX11_goesWell 1 = .ok (.iload_n 1, 1) := by decide +kernel
theorem dX11_goesWell_2 : decode cX11_goesWell 2 = .ok (.putfield 95, 3) := by decide +kernel
theorem dX11_goesWell_5 : decode cX11_goesWell 5 = .ok (.iload_n 1, 1) := by decide +kernel
theorem dX11_goesWell_6 : decode cX11_goesWell 6 = .ok (.ifCond .ne 7, 3) := by decide +kernel
theorem dX11_goesWell_9 : decode cX11_goesWell 9 = .ok (.iconst 1, 1) := by decide +kernel
theorem dX11_goesWell_10 : decode cX11_goesWell 10 = .ok (.goto 4, 3) := by decide +kernel
theorem dX11_goesWell_13 : decode cX11_goesWell 13 = .ok (.iconst 0, 1) := by decide +kernel
theorem dX11_goesWell_14 : decode cX11_goesWell 14 = .ok (.ireturn, 1) := by decide +kernel
theorem dX11_in_0 : decode cX11_in 0 = .ok (.iload_n 0, 1) := by decide +kernel
theorem dX11_in_1 : decode cX11_in 1 = .ok (.iload_n 1, 1) := by decide +kernel
theorem dX11_in_2 : decode cX11_in 2 = .ok (.if_icmp .lt 12, 3) := by decide +kernel
theorem dX11_in_5 : decode cX11_in 5 = .ok (.iload_n 0, 1) := by decide +kernel
theorem dX11_in_6 : decode cX11_in 6 = .ok (.iload_n 2, 1) := by decide +kernel
theorem dX11_in_7 : decode cX11_in 7 = .ok (.if_icmp .gt 7, 3) := by decide +kernel
theorem dX11_in_10 : decode cX11_in 10 = .ok (.iconst 1, 1) := by decide +kernel
theorem dX11_in_11 : decode cX11_in 11 = .ok (.goto 4, 3) := by decide +kernel
theorem dX11_in_14 : decode cX11_in 14 = .ok (.iconst 0, 1) := by decide +kernel
theorem dX11_in_15 : decode cX11_in 15 = .ok (.ireturn, 1) := by decide +kernel
theorem dX11_isPerson_0 : decode cX11_isPerson 0 = .ok (.iload_n 0, 1) := by decide +kernel
theorem dX11_isPerson_1 : decode cX11_isPerson 1 = .ok (.iconst 0, 1) := by decide +kernel
theorem dX11_isPerson_2 : decode cX11_isPerson 2 = .ok (.bipush 19, 2) := by decide +kernel
theorem dX11_isPerson_4 : decode cX11_isPerson 4 = .ok (.invokestatic 99, 3) := by decide +kernel
theorem dX11_isPerson_7 : decode cX11_isPerson 7 = .ok (.ireturn, 1) := by decide +kernel
theorem dX11_isAudience_0 : decode cX11_isAudience 0 = .ok (.iload_n 0, 1) := by decide +kernel
theorem dX11_isAudience_1 : decode cX11_isAudience 1 = .ok (.iconst 0, 1) := by decide +kernel
theorem dX11_isAudience_2 : decode cX11_isAudience 2 = .ok (.iconst 5, 1) := by decide +kernel
theorem dX11_isAudience_3 : decode cX11_isAudience 3 = .ok (.invokestatic 99, 3) := by decide +kernel
theorem dX11_isAudience_6 : decode cX11_isAudience 6 = .ok (.ireturn, 1) := by decide +kernel
theorem dX11_isFlag_0 : decode cX11_isFlag 0 = .ok (.iload_n 0, 1) := by decide +kernel
theorem dX11_isFlag_1 : decode cX11_isFlag 1 = .ok (.iconst 0, 1) := by decide +kernel
theorem dX11_isFlag_2 : decode cX11_isFlag 2 = .ok (.bipush 7, 2) := by decide +kernel
theorem dX11_isFlag_4 : decode cX11_isFlag 4 = .ok (.invokestatic 99, 3) := by decide +kernel
theorem dX11_isFlag_7 : decode cX11_isFlag 7 = .ok (.ireturn, 1) := by decide +kernel
theorem dX11_isTrial_0 : decode cX11_isTrial 0 = .ok (.iload_n 0, 1) := by decide +kernel
theorem dX11_isTrial_1 : decode cX11_isTrial 1 = .ok (.iconst 0, 1) := by decide +kernel
theorem dX11_isTrial_2 : decode cX11_isTrial 2 = .ok (.iconst 5, 1) := by decide +kernel
theorem dX11_isTrial_3 : decode cX11_isTrial 3 = .ok (.invokestatic 99, 3) := by decide +kernel
theorem dX11_isTrial_6 : decode cX11_isTrial 6 = .ok (.ireturn, 1) := by decide +kernel
theorem dX11_isVariant_0 : decode cX11_isVariant 0 = .ok (.iload_n 0, 1) := by decide +kernel
theorem dX11_isVariant_1 : decode cX11_isVariant 1 = .ok (.iconst 0, 1) := by decide +kernel
theorem dX11_isVariant_2 : decode cX11_isVariant 2 = .ok (.iconst 3, 1) := by decide +kernel
theorem dX11_isVariant_3 : decode cX11_isVariant 3 = .ok (.invokestatic 99, 3) := by decide +kernel
theorem dX11_isVariant_6 : decode cX11_isVariant 6 = .ok (.ireturn, 1) := by decide +kernel
theorem dX11_setAttribute_0 : decode cX11_setAttribute 0 = .ok (.iload_n 2, 1) := by decide +kernel
theorem dX11_setAttribute_1 : decode cX11_setAttribute 1 = .ok (.ifCond .ne 8, 3) := by decide +kernel
theorem dX11_setAttribute_4 : decode cX11_setAttribute 4 = .ok (.bipush 9, 2) := by decide +kernel
theorem dX11_setAttribute_6 : decode cX11_setAttribute 6 = .ok (.goto 14, 3) := by decide +kernel
theorem dX11_setAttribute_9 : decode cX11_setAttribute 9 = .ok (.iload_n 2, 1) := by decide +kernel
theorem dX11_setAttribute_10 : decode cX11_setAttribute 10 = .ok (.iconst 1, 1) := by decide +kernel
theorem dX11_setAttribute_11 : decode cX11_setAttribute 11 = .ok (.if_icmp .ne 8, 3) := by decide +kernel
theorem dX11_setAttribute_14 : decode cX11_setAttribute 14 = .ok (.bipush 99, 2) := by decide +kernel
theorem dX11_setAttribute_16 : decode cX11_setAttribute 16 = .ok (.goto 4, 3) := by decide +kernel
theorem dX11_setAttribute_19 : decode cX11_setAttribute 19 = .ok (.iconst 3, 1) := by decide +kernel
theorem dX11_setAttribute_20 : decode cX11_setAttribute 20 = .ok (.istore 4, 2) := by decide +kernel
theorem dX11_setAttribute_22 : decode cX11_setAttribute 22 = .ok (.aload_n 0, 1) := by decide +kernel
theorem dX11_setAttribute_23 : decode cX11_setAttribute 23 = .ok (.iload_n 1, 1) := by decide +kernel
theorem dX11_setAttribute_24 : decode cX11_setAttribute 24 = .ok (.invokestatic 103, 3) := by decide +kernel
theorem dX11_setAttribute_27 : decode cX11_setAttribute 27 = .ok (.ifCond .eq 26, 3) := by decide +kernel
theorem dX11_setAttribute_30 : decode cX11_setAttribute 30 = .ok (.iload_n 2, 1) := by decide +kernel
theorem dX11_setAttribute_31 : decode cX11_setAttribute 31 = .ok (.iconst 0, 1) := by decide +kernel
theorem dX11_setAttribute_32 : decode cX11_setAttribute 32 = .ok (.iconst 2, 1) := by decide +kernel
theorem dX11_setAttribute_33 : decode cX11_setAttribute 33 = .ok (.invokestatic 99, 3) := by decide +kernel
theorem dX11_setAttribute_36 : decode cX11_setAttribute 36 = .ok (.ifCond .eq 17, 3) := by decide +kernel
theorem dX11_setAttribute_39 : decode cX11_setAttribute 39 = .ok (.iload_n 3, 1) := by decide +kernel
theorem dX11_setAttribute_40 : decode cX11_setAttribute 40 = .ok (.iconst 0, 1) := by decide +kernel
theorem dX11_setAttribute_41 : decode cX11_setAttribute 41 = .ok (.iload 4, 2) := by decide +kernel
theorem dX11_setAttribute_43 : decode cX11_setAttribute 43 = .ok (.invokestatic 99, 3) := by decide +kernel
theorem dX11_setAttribute_46 : decode cX11_setAttribute 46 = .ok (.ifCond .eq 7, 3) := by decide +kernel
theorem dX11_setAttribute_49 : decode cX11_setAttribute 49 = .ok (.iconst 0, 1) := by decide +kernel
theorem dX11_setAttribute_50 : decode cX11_setAttribute 50 = .ok (.goto 4, 3) := by decide +kernel
theorem dX11_setAttribute_53 : decode cX11_setAttribute 53 = .ok (.iconst 1, 1) := by decide +kernel
theorem dX11_setAttribute_54 : decode cX11_setAttribute 54 = .ok (.invokevirtual 107, 3) := by decide +kernel
theorem dX11_setAttribute_57 : decode cX11_setAttribute 57 = .ok (.ifCond .ne 5, 3) := by decide +kernel
theorem dX11_setAttribute_60 : decode cX11_setAttribute 60 = .ok (.iconst 0, 1) := by decide +kernel
theorem dX11_setAttribute_61 : decode cX11_setAttribute 61 = .ok (.ireturn, 1) := by decide +kernel
theorem dX11_setAttribute_62 : decode cX11_setAttribute 62 = .ok (.aload_n 0, 1) := by decide +kernel
theorem dX11_setAttribute_63 : decode cX11_setAttribute 63 = .ok (.getfield 7, 3) := by decide +kernel
theorem dX11_setAttribute_66 : decode cX11_setAttribute 66 = .ok (.iconst 3, 1) := by decide +kernel
theorem dX11_setAttribute_67 : decode cX11_setAttribute 67 = .ok (.iload_n 1, 1) := by decide +kernel
theorem dX11_setAttribute_68 : decode cX11_setAttribute 68 = .ok (.imul, 1) := by decide +kernel
theorem dX11_setAttribute_69 : decode cX11_setAttribute 69 = .ok (.iload_n 2, 1) := by decide +kernel
theorem dX11_setAttribute_70 : decode cX11_setAttribute 70 = .ok (.iadd, 1) := by decide +kernel
theorem dX11_setAttribute_71 : decode cX11_setAttribute 71 = .ok (.iaload, 1) := by decide +kernel
theorem dX11_setAttribute_72 : decode cX11_setAttribute 72 = .ok (.istore 5, 2) := by decide +kernel
theorem dX11_setAttribute_74 : decode cX11_setAttribute 74 = .ok (.aload_n 0, 1) := by decide +kernel
theorem dX11_setAttribute_75 : decode cX11_setAttribute 75 = .ok (.getfield 7, 3) := by decide +kernel
theorem dX11_setAttribute_78 : decode cX11_setAttribute 78 = .ok (.iconst 3, 1) := by decide +kernel
theorem dX11_setAttribute_79 : decode cX11_setAttribute 79 = .ok (.iload_n 1, 1) := by decide +kernel
theorem dX11_setAttribute_80 : decode cX11_setAttribute 80 = .ok (.imul, 1) := by decide +kernel
theorem dX11_setAttribute_81 : decode cX11_setAttribute 81 = .ok (.iload_n 2, 1) := by decide +kernel
theorem dX11_setAttribute_82 : decode cX11_setAttribute 82 = .ok (.iadd, 1) := by decide +kernel
theorem dX11_setAttribute_83 : decode cX11_setAttribute 83 = .ok (.iload_n 3, 1) := by decide +kernel
theorem dX11_setAttribute_84 : decode cX11_setAttribute 84 = .ok (.iastore, 1) := by decide +kernel
theorem dX11_setAttribute_85 : decode cX11_setAttribute 85 = .ok (.iload 5, 2) := by decide +kernel
theorem dX11_setAttribute_87 : decode cX11_setAttribute 87 = .ok (.ireturn, 1) := by decide +kernel
theorem dX11_setTag_0 : decode cX11_setTag 0 = .ok (.aload_n 0, 1) := by decide +kernel
theorem dX11_setTag_1 : decode cX11_setTag 1 = .ok (.iload_n 1, 1) := by decide +kernel
theorem dX11_setTag_2 : decode cX11_setTag 2 = .ok (.invokestatic 103, 3) := by decide +kernel
theorem dX11_setTag_5 : decode cX11_setTag 5 = .ok (.ifCond .eq 17, 3) := by decide +kernel
theorem dX11_setTag_8 : decode cX11_setTag 8 = .ok (.iload_n 2, 1) := by decide +kernel
theorem dX11_setTag_9 : decode cX11_setTag 9 = .ok (.iconst 0, 1) := by decide +kernel
theorem dX11_setTag_10 : decode cX11_setTag 10 = .ok (.bipush 7, 2) := by decide +kernel
theorem dX11_setTag_12 : decode cX11_setTag 12 = .ok (.invokestatic 99, 3) := by decide +kernel
theorem dX11_setTag_15 : decode cX11_setTag 15 = .ok (.ifCond .eq 7, 3) := by decide +kernel
theorem dX11_setTag_18 : decode cX11_setTag 18 = .ok (.iconst 0, 1) := by decide +kernel
theorem dX11_setTag_19 : decode cX11_setTag 19 = .ok (.goto 4, 3) := by decide +kernel
theorem dX11_setTag_22 : decode cX11_setTag 22 = .ok (.iconst 1, 1) := by decide +kernel
theorem dX11_setTag_23 : decode cX11_setTag 23 = .ok (.invokevirtual 107, 3) := by decide +kernel
theorem dX11_setTag_26 : decode cX11_setTag 26 = .ok (.ifCond .ne 5, 3) := by decide +kernel
theorem dX11_setTag_29 : decode cX11_setTag 29 = .ok (.iconst 0, 1) := by decide +kernel
theorem dX11_setTag_30 : decode cX11_setTag 30 = .ok (.ireturn, 1) := by decide +kernel
theorem dX11_setTag_31 : decode cX11_setTag 31 = .ok (.aload_n 0, 1) := by decide +kernel
theorem dX11_setTag_32 : decode cX11_setTag 32 = .ok (.getfield 13, 3) := by decide +kernel
theorem dX11_setTag_35 : decode cX11_setTag 35 = .ok (.iload_n 1, 1) := by decide +kernel
theorem dX11_setTag_36 : decode cX11_setTag 36 = .ok (.iaload, 1) := by decide +kernel
theorem dX11_setTag_37 : decode cX11_setTag 37 = .ok (.iload_n 2, 1) := by decide +kernel
theorem dX11_setTag_38 : decode cX11_setTag 38 = .ok (.ishr, 1) := by decide +kernel
theorem dX11_setTag_39 : decode cX11_setTag 39 = .ok (.iconst 1, 1) := by decide +kernel
theorem dX11_setTag_40 : decode cX11_setTag 40 = .ok (.iand, 1) := by decide +kernel
theorem dX11_setTag_41 : decode cX11_setTag 41 = .ok (.iconst 1, 1) := by decide +kernel
theorem dX11_setTag_42 : decode cX11_setTag 42 = .ok (.if_icmp .ne 7, 3) := by decide +kernel
theorem dX11_setTag_45 : decode cX11_setTag 45 = .ok (.iconst 1, 1) := by decide +kernel
theorem dX11_setTag_46 : decode cX11_setTag 46 = .ok (.goto 4, 3) := by decide +kernel
theorem dX11_setTag_49 : decode cX11_setTag 49 = .ok (.iconst 0, 1) := by decide +kernel
theorem dX11_setTag_50 : decode cX11_setTag 50 = .ok (.istore 4, 2) := by decide +kernel
theorem dX11_setTag_52 : decode cX11_setTag 52 = .ok (.aload_n 0, 1) := by decide +kernel
theorem dX11_setTag_53 : decode cX11_setTag 53 = .ok (.getfield 13, 3) := by decide +kernel
theorem dX11_setTag_56 : decode cX11_setTag 56 = .ok (.iload_n 1, 1) := by decide +kernel
theorem dX11_setTag_57 : decode cX11_setTag 57 = .ok (.iload_n 3, 1) := by decide +kernel
theorem dX11_setTag_58 : decode cX11_setTag 58 = .ok (.ifCond .eq 16, 3) := by decide +kernel
theorem dX11_setTag_61 : decode cX11_setTag 61 = .ok (.aload_n 0, 1) := by decide +kernel
theorem dX11_setTag_62 : decode cX11_setTag 62 = .ok (.getfield 13, 3) := by decide +kernel
theorem dX11_setTag_65 : decode cX11_setTag 65 = .ok (.iload_n 1, 1) := by decide +kernel
theorem dX11_setTag_66 : decode cX11_setTag 66 = .ok (.iaload, 1) := by decide +kernel
theorem dX11_setTag_67 : decode cX11_setTag 67 = .ok (.iconst 1, 1) := by decide +kernel
theorem dX11_setTag_68 : decode cX11_setTag 68 = .ok (.iload_n 2, 1) := by decide +kernel
theorem dX11_setTag_69 : decode cX11_setTag 69 = .ok (.ishl, 1) := by decide +kernel
theorem dX11_setTag_70 : decode cX11_setTag 70 = .ok (.ior, 1) := by decide +kernel
theorem dX11_setTag_71 : decode cX11_setTag 71 = .ok (.goto 15, 3) := by decide +kernel
theorem dX11_setTag_74 : decode cX11_setTag 74 = .ok (.aload_n 0, 1) := by decide +kernel
theorem dX11_setTag_75 : decode cX11_setTag 75 = .ok (.getfield 13, 3) := by decide +kernel
theorem dX11_setTag_78 : decode cX11_setTag 78 = .ok (.iload_n 1, 1) := by decide +kernel
theorem dX11_setTag_79 : decode cX11_setTag 79 = .ok (.iaload, 1) := by decide +kernel
theorem dX11_setTag_80 : decode cX11_setTag 80 = .ok (.iconst 1, 1) := by decide +kernel
theorem dX11_setTag_81 : decode cX11_setTag 81 = .ok (.iload_n 2, 1) := by decide +kernel
theorem dX11_setTag_82 : decode cX11_setTag 82 = .ok (.ishl, 1) := by decide +kernel
theorem dX11_setTag_83 : decode cX11_setTag 83 = .ok (.iconst (-1), 1) := by decide +kernel
theorem dX11_setTag_84 : decode cX11_setTag 84 = .ok (.ixor, 1) := by decide +kernel
theorem dX11_setTag_85 : decode cX11_setTag 85 = .ok (.iand, 1) := by decide +kernel
theorem dX11_setTag_86 : decode cX11_setTag 86 = .ok (.iastore, 1) := by decide +kernel
theorem dX11_setTag_87 : decode cX11_setTag 87 = .ok (.iload 4, 2) := by decide +kernel
theorem dX11_setTag_89 : decode cX11_setTag 89 = .ok (.ireturn, 1) := by decide +kernel
theorem dX11_type_0 : decode cX11_type 0 = .ok (.iload_n 1, 1) := by decide +kernel
theorem dX11_type_1 : decode cX11_type 1 = .ok (.invokestatic 110, 3) := by decide +kernel
theorem dX11_type_4 : decode cX11_type 4 = .ok (.ifCond .eq 18, 3) := by decide +kernel
theorem dX11_type_7 : decode cX11_type 7 = .ok (.iload_n 2, 1) := by decide +kernel
theorem dX11_type_8 : decode cX11_type 8 = .ok (.bipush 33, 2) := by decide +kernel
theorem dX11_type_10 : decode cX11_type 10 = .ok (.bipush 126, 2) := by decide +kernel
theorem dX11_type_12 : decode cX11_type 12 = .ok (.invokestatic 99, 3) := by decide +kernel
theorem dX11_type_15 : decode cX11_type 15 = .ok (.ifCond .eq 7, 3) := by decide +kernel
theorem dX11_type_18 : decode cX11_type 18 = .ok (.iconst 1, 1) := by decide +kernel
theorem dX11_type_19 : decode cX11_type 19 = .ok (.goto 4, 3) := by decide +kernel
theorem dX11_type_22 : decode cX11_type 22 = .ok (.iconst 0, 1) := by decide +kernel
theorem dX11_type_23 : decode cX11_type 23 = .ok (.istore_n 3, 1) := by decide +kernel
theorem dX11_type_24 : decode cX11_type 24 = .ok (.aload_n 0, 1) := by decide +kernel
theorem dX11_type_25 : decode cX11_type 25 = .ok (.iload_n 3, 1) := by decide +kernel
theorem dX11_type_26 : decode cX11_type 26 = .ok (.ifCond .ne 7, 3) := by decide +kernel
theorem dX11_type_29 : decode cX11_type 29 = .ok (.iconst 1, 1) := by decide +kernel
theorem dX11_type_30 : decode cX11_type 30 = .ok (.goto 19, 3) := by decide +kernel
theorem dX11_type_33 : decode cX11_type 33 = .ok (.aload_n 0, 1) := by decide +kernel
theorem dX11_type_34 : decode cX11_type 34 = .ok (.getfield 19, 3) := by decide +kernel
theorem dX11_type_37 : decode cX11_type 37 = .ok (.iload_n 1, 1) := by decide +kernel
theorem dX11_type_38 : decode cX11_type 38 = .ok (.iaload, 1) := by decide +kernel
theorem dX11_type_39 : decode cX11_type 39 = .ok (.bipush 60, 2) := by decide +kernel
theorem dX11_type_41 : decode cX11_type 41 = .ok (.if_icmp .ne 7, 3) := by decide +kernel
theorem dX11_type_44 : decode cX11_type 44 = .ok (.iconst 2, 1) := by decide +kernel
theorem dX11_type_45 : decode cX11_type 45 = .ok (.goto 4, 3) := by decide +kernel
theorem dX11_type_48 : decode cX11_type 48 = .ok (.iconst 0, 1) := by decide +kernel
theorem dX11_type_49 : decode cX11_type 49 = .ok (.invokevirtual 107, 3) := by decide +kernel
theorem dX11_type_52 : decode cX11_type 52 = .ok (.ifCond .ne 5, 3) := by decide +kernel
theorem dX11_type_55 : decode cX11_type 55 = .ok (.iconst 0, 1) := by decide +kernel
theorem dX11_type_56 : decode cX11_type 56 = .ok (.ireturn, 1) := by decide +kernel
theorem dX11_type_57 : decode cX11_type 57 = .ok (.aload_n 0, 1) := by decide +kernel
theorem dX11_type_58 : decode cX11_type 58 = .ok (.getfield 16, 3) := by decide +kernel
theorem dX11_type_61 : decode cX11_type 61 = .ok (.bipush 60, 2) := by decide +kernel
theorem dX11_type_63 : decode cX11_type 63 = .ok (.iload_n 1, 1) := by decide +kernel
theorem dX11_type_64 : decode cX11_type 64 = .ok (.imul, 1) := by decide +kernel
theorem dX11_type_65 : decode cX11_type 65 = .ok (.aload_n 0, 1) := by decide +kernel
theorem dX11_type_66 : decode cX11_type 66 = .ok (.getfield 19, 3) := by decide +kernel
theorem dX11_type_69 : decode cX11_type 69 = .ok (.iload_n 1, 1) := by decide +kernel
theorem dX11_type_70 : decode cX11_type 70 = .ok (.iaload, 1) := by decide +kernel
theorem dX11_type_71 : decode cX11_type 71 = .ok (.iadd, 1) := by decide +kernel
theorem dX11_type_72 : decode cX11_type 72 = .ok (.iload_n 2, 1) := by decide +kernel
theorem dX11_type_73 : decode cX11_type 73 = .ok (.iastore, 1) := by decide +kernel
theorem dX11_type_74 : decode cX11_type 74 = .ok (.aload_n 0, 1) := by decide +kernel
theorem dX11_type_75 : decode cX11_type 75 = .ok (.getfield 19, 3) := by decide +kernel
theorem dX11_type_78 : decode cX11_type 78 = .ok (.iload_n 1, 1) := by decide +kernel
theorem dX11_type_79 : decode cX11_type 79 = .ok (.dup2, 1) := by decide +kernel
theorem dX11_type_80 : decode cX11_type 80 = .ok (.iaload, 1) := by decide +kernel
theorem dX11_type_81 : decode cX11_type 81 = .ok (.iconst 1, 1) := by decide +kernel
theorem dX11_type_82 : decode cX11_type 82 = .ok (.iadd, 1) := by decide +kernel
theorem dX11_type_83 : decode cX11_type 83 = .ok (.iastore, 1) := by decide +kernel
theorem dX11_type_84 : decode cX11_type 84 = .ok (.aload_n 0, 1) := by decide +kernel
theorem dX11_type_85 : decode cX11_type 85 = .ok (.getfield 19, 3) := by decide +kernel
theorem dX11_type_88 : decode cX11_type 88 = .ok (.iload_n 1, 1) := by decide +kernel
theorem dX11_type_89 : decode cX11_type 89 = .ok (.iaload, 1) := by decide +kernel
theorem dX11_type_90 : decode cX11_type 90 = .ok (.ireturn, 1) := by decide +kernel
theorem dX11_erase_0 : decode cX11_erase 0 = .ok (.aload_n 0, 1) := by decide +kernel
theorem dX11_erase_1 : decode cX11_erase 1 = .ok (.iload_n 1, 1) := by decide +kernel
theorem dX11_erase_2 : decode cX11_erase 2 = .ok (.invokestatic 110, 3) := by decide +kernel
theorem dX11_erase_5 : decode cX11_erase 5 = .ok (.ifCond .eq 12, 3) := by decide +kernel
theorem dX11_erase_8 : decode cX11_erase 8 = .ok (.iload_n 2, 1) := by decide +kernel
theorem dX11_erase_9 : decode cX11_erase 9 = .ok (.iconst 1, 1) := by decide +kernel
theorem dX11_erase_10 : decode cX11_erase 10 = .ok (.if_icmp .lt 7, 3) := by decide +kernel
theorem dX11_erase_13 : decode cX11_erase 13 = .ok (.iconst 0, 1) := by decide +kernel
theorem dX11_erase_14 : decode cX11_erase 14 = .ok (.goto 4, 3) := by decide +kernel
theorem dX11_erase_17 : decode cX11_erase 17 = .ok (.iconst 1, 1) := by decide +kernel
theorem dX11_erase_18 : decode cX11_erase 18 = .ok (.invokevirtual 107, 3) := by decide +kernel
theorem dX11_erase_21 : decode cX11_erase 21 = .ok (.ifCond .ne 5, 3) := by decide +kernel
theorem dX11_erase_24 : decode cX11_erase 24 = .ok (.iconst 0, 1) := by decide +kernel
theorem dX11_erase_25 : decode cX11_erase 25 = .ok (.ireturn, 1) := by decide +kernel
theorem dX11_erase_26 : decode cX11_erase 26 = .ok (.aload_n 0, 1) := by decide +kernel
theorem dX11_erase_27 : decode cX11_erase 27 = .ok (.getfield 19, 3) := by decide +kernel
theorem dX11_erase_30 : decode cX11_erase 30 = .ok (.iload_n 1, 1) := by decide +kernel
theorem dX11_erase_31 : decode cX11_erase 31 = .ok (.iload_n 2, 1) := by decide +kernel
theorem dX11_erase_32 : decode cX11_erase 32 = .ok (.aload_n 0, 1) := by decide +kernel
theorem dX11_erase_33 : decode cX11_erase 33 = .ok (.getfield 19, 3) := by decide +kernel
theorem dX11_erase_36 : decode cX11_erase 36 = .ok (.iload_n 1, 1) := by decide +kernel
theorem dX11_erase_37 : decode cX11_erase 37 = .ok (.iaload, 1) := by decide +kernel
theorem dX11_erase_38 : decode cX11_erase 38 = .ok (.if_icmp .ge 14, 3) := by decide +kernel
theorem dX11_erase_41 : decode cX11_erase 41 = .ok (.aload_n 0, 1) := by decide +kernel
theorem dX11_erase_42 : decode cX11_erase 42 = .ok (.getfield 19, 3) := by decide +kernel
theorem dX11_erase_45 : decode cX11_erase 45 = .ok (.iload_n 1, 1) := by decide +kernel
theorem dX11_erase_46 : decode cX11_erase 46 = .ok (.iaload, 1) := by decide +kernel
theorem dX11_erase_47 : decode cX11_erase 47 = .ok (.iload_n 2, 1) := by decide +kernel
theorem dX11_erase_48 : decode cX11_erase 48 = .ok (.isub, 1) := by decide +kernel
theorem dX11_erase_49 : decode cX11_erase 49 = .ok (.goto 4, 3) := by decide +kernel
theorem dX11_erase_52 : decode cX11_erase 52 = .ok (.iconst 0, 1) := by decide +kernel
theorem dX11_erase_53 : decode cX11_erase 53 = .ok (.iastore, 1) := by decide +kernel
theorem dX11_erase_54 : decode cX11_erase 54 = .ok (.aload_n 0, 1) := by decide +kernel
theorem dX11_erase_55 : decode cX11_erase 55 = .ok (.getfield 19, 3) := by decide +kernel
theorem dX11_erase_58 : decode cX11_erase 58 = .ok (.iload_n 1, 1) := by decide +kernel
theorem dX11_erase_59 : decode cX11_erase 59 = .ok (.iaload, 1) := by decide +kernel
theorem dX11_erase_60 : decode cX11_erase 60 = .ok (.ireturn, 1) := by decide +kernel
theorem dX11_sign_0 : decode cX11_sign 0 = .ok (.iload_n 1, 1) := by decide +kernel
theorem dX11_sign_1 : decode cX11_sign 1 = .ok (.invokestatic 110, 3) := by decide +kernel
theorem dX11_sign_4 : decode cX11_sign 4 = .ok (.istore_n 3, 1) := by decide +kernel
theorem dX11_sign_5 : decode cX11_sign 5 = .ok (.aload_n 0, 1) := by decide +kernel
theorem dX11_sign_6 : decode cX11_sign 6 = .ok (.iload_n 3, 1) := by decide +kernel
theorem dX11_sign_7 : decode cX11_sign 7 = .ok (.ifCond .ne 7, 3) := by decide +kernel
theorem dX11_sign_10 : decode cX11_sign 10 = .ok (.iconst 1, 1) := by decide +kernel
theorem dX11_sign_11 : decode cX11_sign 11 = .ok (.goto 24, 3) := by decide +kernel
theorem dX11_sign_14 : decode cX11_sign 14 = .ok (.iload_n 2, 1) := by decide +kernel
theorem dX11_sign_15 : decode cX11_sign 15 = .ok (.iconst 0, 1) := by decide +kernel
theorem dX11_sign_16 : decode cX11_sign 16 = .ok (.aload_n 0, 1) := by decide +kernel
theorem dX11_sign_17 : decode cX11_sign 17 = .ok (.getfield 19, 3) := by decide +kernel
theorem dX11_sign_20 : decode cX11_sign 20 = .ok (.iload_n 1, 1) := by decide +kernel
theorem dX11_sign_21 : decode cX11_sign 21 = .ok (.iaload, 1) := by decide +kernel
theorem dX11_sign_22 : decode cX11_sign 22 = .ok (.iconst 1, 1) := by decide +kernel
theorem dX11_sign_23 : decode cX11_sign 23 = .ok (.isub, 1) := by decide +kernel
theorem dX11_sign_24 : decode cX11_sign 24 = .ok (.invokestatic 99, 3) := by decide +kernel
theorem dX11_sign_27 : decode cX11_sign 27 = .ok (.ifCond .eq 7, 3) := by decide +kernel
theorem dX11_sign_30 : decode cX11_sign 30 = .ok (.iconst 0, 1) := by decide +kernel
theorem dX11_sign_31 : decode cX11_sign 31 = .ok (.goto 4, 3) := by decide +kernel
theorem dX11_sign_34 : decode cX11_sign 34 = .ok (.iconst 2, 1) := by decide +kernel
theorem dX11_sign_35 : decode cX11_sign 35 = .ok (.invokevirtual 107, 3) := by decide +kernel
theorem dX11_sign_38 : decode cX11_sign 38 = .ok (.ifCond .ne 5, 3) := by decide +kernel
theorem dX11_sign_41 : decode cX11_sign 41 = .ok (.iconst 0, 1) := by decide +kernel
theorem dX11_sign_42 : decode cX11_sign 42 = .ok (.ireturn, 1) := by decide +kernel
theorem dX11_sign_43 : decode cX11_sign 43 = .ok (.aload_n 0, 1) := by decide +kernel
theorem dX11_sign_44 : decode cX11_sign 44 = .ok (.getfield 16, 3) := by decide +kernel
theorem dX11_sign_47 : decode cX11_sign 47 = .ok (.bipush 60, 2) := by decide +kernel
theorem dX11_sign_49 : decode cX11_sign 49 = .ok (.iload_n 1, 1) := by decide +kernel
theorem dX11_sign_50 : decode cX11_sign 50 = .ok (.imul, 1) := by decide +kernel
theorem dX11_sign_51 : decode cX11_sign 51 = .ok (.iload_n 2, 1) := by decide +kernel
theorem dX11_sign_52 : decode cX11_sign 52 = .ok (.iadd, 1) := by decide +kernel
theorem dX11_sign_53 : decode cX11_sign 53 = .ok (.iaload, 1) := by decide +kernel
theorem dX11_sign_54 : decode cX11_sign 54 = .ok (.ireturn, 1) := by decide +kernel
theorem dX11_isDigit_0 : decode cX11_isDigit 0 = .ok (.iload_n 0, 1) := by decide +kernel
theorem dX11_isDigit_1 : decode cX11_isDigit 1 = .ok (.bipush 48, 2) := by decide +kernel
theorem dX11_isDigit_3 : decode cX11_isDigit 3 = .ok (.bipush 57, 2) := by decide +kernel
theorem dX11_isDigit_5 : decode cX11_isDigit 5 = .ok (.invokestatic 99, 3) := by decide +kernel
theorem dX11_isDigit_8 : decode cX11_isDigit 8 = .ok (.ireturn, 1) := by decide +kernel
theorem dX11_behind_0 : decode cX11_behind 0 = .ok (.iload_n 1, 1) := by decide +kernel
theorem dX11_behind_1 : decode cX11_behind 1 = .ok (.ifCond .ne 102, 3) := by decide +kernel
theorem dX11_behind_4 : decode cX11_behind 4 = .ok (.iload_n 0, 1) := by decide +kernel
theorem dX11_behind_5 : decode cX11_behind 5 = .ok (.bipush 33, 2) := by decide +kernel
theorem dX11_behind_7 : decode cX11_behind 7 = .ok (.if_icmp .eq 15, 3) := by decide +kernel
theorem dX11_behind_10 : decode cX11_behind 10 = .ok (.iload_n 0, 1) := by decide +kernel
theorem dX11_behind_11 : decode cX11_behind 11 = .ok (.bipush 40, 2) := by decide +kernel
theorem dX11_behind_13 : decode cX11_behind 13 = .ok (.if_icmp .ne 13, 3) := by decide +kernel
theorem dX11_behind_16 : decode cX11_behind 16 = .ok (.iload_n 2, 1) := by decide +kernel
theorem dX11_behind_17 : decode cX11_behind 17 = .ok (.bipush 8, 2) := by decide +kernel
theorem dX11_behind_19 : decode cX11_behind 19 = .ok (.if_icmp .ge 7, 3) := by decide +kernel
theorem dX11_behind_22 : decode cX11_behind 22 = .ok (.iconst 1, 1) := by decide +kernel
theorem dX11_behind_23 : decode cX11_behind 23 = .ok (.goto 4, 3) := by decide +kernel
theorem dX11_behind_26 : decode cX11_behind 26 = .ok (.iconst 0, 1) := by decide +kernel
theorem dX11_behind_27 : decode cX11_behind 27 = .ok (.istore_n 3, 1) := by decide +kernel
theorem dX11_behind_28 : decode cX11_behind 28 = .ok (.iload_n 0, 1) := by decide +kernel
theorem dX11_behind_29 : decode cX11_behind 29 = .ok (.bipush 108, 2) := by decide +kernel
theorem dX11_behind_31 : decode cX11_behind 31 = .ok (.if_icmp .eq 15, 3) := by decide +kernel
theorem dX11_behind_34 : decode cX11_behind 34 = .ok (.iload_n 0, 1) := by decide +kernel
theorem dX11_behind_35 : decode cX11_behind 35 = .ok (.bipush 97, 2) := by decide +kernel
theorem dX11_behind_37 : decode cX11_behind 37 = .ok (.if_icmp .eq 9, 3) := by decide +kernel
theorem dX11_behind_40 : decode cX11_behind 40 = .ok (.iload_n 0, 1) := by decide +kernel
theorem dX11_behind_41 : decode cX11_behind 41 = .ok (.bipush 112, 2) := by decide +kernel
theorem dX11_behind_43 : decode cX11_behind 43 = .ok (.if_icmp .ne 7, 3) := by decide +kernel
theorem dX11_behind_46 : decode cX11_behind 46 = .ok (.iconst 1, 1) := by decide +kernel
theorem dX11_behind_47 : decode cX11_behind 47 = .ok (.goto 4, 3) := by decide +kernel
theorem dX11_behind_50 : decode cX11_behind 50 = .ok (.iconst 0, 1) := by decide +kernel
theorem dX11_behind_51 : decode cX11_behind 51 = .ok (.istore 4, 2) := by decide +kernel
theorem dX11_behind_53 : decode cX11_behind 53 = .ok (.iload_n 3, 1) := by decide +kernel
theorem dX11_behind_54 : decode cX11_behind 54 = .ok (.ifCond .eq 7, 3) := by decide +kernel
theorem dX11_behind_57 : decode cX11_behind 57 = .ok (.iconst 0, 1) := by decide +kernel
theorem dX11_behind_58 : decode cX11_behind 58 = .ok (.goto 44, 3) := by decide +kernel
theorem dX11_behind_61 : decode cX11_behind 61 = .ok (.iload_n 0, 1) := by decide +kernel
theorem dX11_behind_62 : decode cX11_behind 62 = .ok (.bipush 42, 2) := by decide +kernel
theorem dX11_behind_64 : decode cX11_behind 64 = .ok (.if_icmp .ne 8, 3) := by decide +kernel
theorem dX11_behind_67 : decode cX11_behind 67 = .ok (.bipush 6, 2) := by decide +kernel
theorem dX11_behind_69 : decode cX11_behind 69 = .ok (.goto 33, 3) := by decide +kernel
theorem dX11_behind_72 : decode cX11_behind 72 = .ok (.iload 4, 2) := by decide +kernel
theorem dX11_behind_74 : decode cX11_behind 74 = .ok (.ifCond .eq 7, 3) := by decide +kernel
theorem dX11_behind_77 : decode cX11_behind 77 = .ok (.iconst 1, 1) := by decide +kernel
theorem dX11_behind_78 : decode cX11_behind 78 = .ok (.goto 24, 3) := by decide +kernel
theorem dX11_behind_81 : decode cX11_behind 81 = .ok (.iload_n 0, 1) := by decide +kernel
theorem dX11_behind_82 : decode cX11_behind 82 = .ok (.bipush 116, 2) := by decide +kernel
theorem dX11_behind_84 : decode cX11_behind 84 = .ok (.if_icmp .ne 7, 3) := by decide +kernel
theorem dX11_behind_87 : decode cX11_behind 87 = .ok (.iconst 4, 1) := by decide +kernel
theorem dX11_behind_88 : decode cX11_behind 88 = .ok (.goto 14, 3) := by decide +kernel
theorem dX11_behind_91 : decode cX11_behind 91 = .ok (.iload_n 0, 1) := by decide +kernel
theorem dX11_behind_92 : decode cX11_behind 92 = .ok (.bipush 64, 2) := by decide +kernel
theorem dX11_behind_94 : decode cX11_behind 94 = .ok (.if_icmp .ne 7, 3) := by decide +kernel
theorem dX11_behind_97 : decode cX11_behind 97 = .ok (.iconst 5, 1) := by decide +kernel
theorem dX11_behind_98 : decode cX11_behind 98 = .ok (.goto 4, 3) := by decide +kernel
theorem dX11_behind_101 : decode cX11_behind 101 = .ok (.iconst (-1), 1) := by decide +kernel
theorem dX11_behind_102 : decode cX11_behind 102 = .ok (.ireturn, 1) := by decide +kernel
theorem dX11_behind_103 : decode cX11_behind 103 = .ok (.iload_n 1, 1) := by decide +kernel
theorem dX11_behind_104 : decode cX11_behind 104 = .ok (.iconst 1, 1) := by decide +kernel
theorem dX11_behind_105 : decode cX11_behind 105 = .ok (.if_icmp .ne 27, 3) := by decide +kernel
theorem dX11_behind_108 : decode cX11_behind 108 = .ok (.iload_n 0, 1) := by decide +kernel
theorem dX11_behind_109 : decode cX11_behind 109 = .ok (.bipush 61, 2) := by decide +kernel
theorem dX11_behind_111 : decode cX11_behind 111 = .ok (.if_icmp .eq 15, 3) := by decide +kernel
theorem dX11_behind_114 : decode cX11_behind 114 = .ok (.iload_n 0, 1) := by decide +kernel
theorem dX11_behind_115 : decode cX11_behind 115 = .ok (.bipush 60, 2) := by decide +kernel
theorem dX11_behind_117 : decode cX11_behind 117 = .ok (.if_icmp .eq 9, 3) := by decide +kernel
theorem dX11_behind_120 : decode cX11_behind 120 = .ok (.iload_n 0, 1) := by decide +kernel
theorem dX11_behind_121 : decode cX11_behind 121 = .ok (.bipush 62, 2) := by decide +kernel
theorem dX11_behind_123 : decode cX11_behind 123 = .ok (.if_icmp .ne 7, 3) := by decide +kernel
theorem dX11_behind_126 : decode cX11_behind 126 = .ok (.iconst 2, 1) := by decide +kernel
theorem dX11_behind_127 : decode cX11_behind 127 = .ok (.goto 4, 3) := by decide +kernel
theorem dX11_behind_130 : decode cX11_behind 130 = .ok (.iconst (-1), 1) := by decide +kernel
theorem dX11_behind_131 : decode cX11_behind 131 = .ok (.ireturn, 1) := by decide +kernel
theorem dX11_behind_132 : decode cX11_behind 132 = .ok (.iload_n 1, 1) := by decide +kernel
theorem dX11_behind_133 : decode cX11_behind 133 = .ok (.iconst 2, 1) := by decide +kernel
theorem dX11_behind_134 : decode cX11_behind 134 = .ok (.if_icmp .ne 16, 3) := by decide +kernel
theorem dX11_behind_137 : decode cX11_behind 137 = .ok (.iload_n 0, 1) := by decide +kernel
theorem dX11_behind_138 : decode cX11_behind 138 = .ok (.invokestatic 113, 3) := by decide +kernel
theorem dX11_behind_141 : decode cX11_behind 141 = .ok (.ifCond .eq 7, 3) := by decide +kernel
theorem dX11_behind_144 : decode cX11_behind 144 = .ok (.iconst 3, 1) := by decide +kernel
theorem dX11_behind_145 : decode cX11_behind 145 = .ok (.goto 4, 3) := by decide +kernel
theorem dX11_behind_148 : decode cX11_behind 148 = .ok (.iconst (-1), 1) := by decide +kernel
theorem dX11_behind_149 : decode cX11_behind 149 = .ok (.ireturn, 1) := by decide +kernel
theorem dX11_behind_150 : decode cX11_behind 150 = .ok (.iload_n 1, 1) := by decide +kernel
theorem dX11_behind_151 : decode cX11_behind 151 = .ok (.iconst 4, 1) := by decide +kernel
theorem dX11_behind_152 : decode cX11_behind 152 = .ok (.if_icmp .eq 8, 3) := by decide +kernel
theorem dX11_behind_155 : decode cX11_behind 155 = .ok (.iload_n 1, 1) := by decide +kernel
theorem dX11_behind_156 : decode cX11_behind 156 = .ok (.iconst 5, 1) := by decide +kernel
theorem dX11_behind_157 : decode cX11_behind 157 = .ok (.if_icmp .ne 31, 3) := by decide +kernel
theorem dX11_behind_160 : decode cX11_behind 160 = .ok (.iload_n 0, 1) := by decide +kernel
theorem dX11_behind_161 : decode cX11_behind 161 = .ok (.bipush 48, 2) := by decide +kernel
theorem dX11_behind_163 : decode cX11_behind 163 = .ok (.iload_n 1, 1) := by decide +kernel
theorem dX11_behind_164 : decode cX11_behind 164 = .ok (.iconst 4, 1) := by decide +kernel
theorem dX11_behind_165 : decode cX11_behind 165 = .ok (.if_icmp .ne 8, 3) := by decide +kernel
theorem dX11_behind_168 : decode cX11_behind 168 = .ok (.bipush 55, 2) := by decide +kernel
theorem dX11_behind_170 : decode cX11_behind 170 = .ok (.goto 5, 3) := by decide +kernel
theorem dX11_behind_173 : decode cX11_behind 173 = .ok (.bipush 53, 2) := by decide +kernel
theorem dX11_behind_175 : decode cX11_behind 175 = .ok (.invokestatic 99, 3) := by decide +kernel
theorem dX11_behind_178 : decode cX11_behind 178 = .ok (.ifCond .eq 8, 3) := by decide +kernel
theorem dX11_behind_181 : decode cX11_behind 181 = .ok (.bipush 6, 2) := by decide +kernel
theorem dX11_behind_183 : decode cX11_behind 183 = .ok (.goto 4, 3) := by decide +kernel
theorem dX11_behind_186 : decode cX11_behind 186 = .ok (.iconst (-1), 1) := by decide +kernel
theorem dX11_behind_187 : decode cX11_behind 187 = .ok (.ireturn, 1) := by decide +kernel
theorem dX11_behind_188 : decode cX11_behind 188 = .ok (.iload_n 1, 1) := by decide +kernel
theorem dX11_behind_189 : decode cX11_behind 189 = .ok (.iconst 3, 1) := by decide +kernel
theorem dX11_behind_190 : decode cX11_behind 190 = .ok (.if_icmp .ne 13, 3) := by decide +kernel
theorem dX11_behind_193 : decode cX11_behind 193 = .ok (.iload_n 0, 1) := by decide +kernel
theorem dX11_behind_194 : decode cX11_behind 194 = .ok (.invokestatic 113, 3) := by decide +kernel
theorem dX11_behind_197 : decode cX11_behind 197 = .ok (.ifCond .eq 6, 3) := by decide +kernel
theorem dX11_behind_200 : decode cX11_behind 200 = .ok (.bipush 6, 2) := by decide +kernel
theorem dX11_behind_202 : decode cX11_behind 202 = .ok (.ireturn, 1) := by decide +kernel
theorem dX11_behind_203 : decode cX11_behind 203 = .ok (.iload_n 0, 1) := by decide +kernel
theorem dX11_behind_204 : decode cX11_behind 204 = .ok (.bipush 124, 2) := by decide +kernel
theorem dX11_behind_206 : decode cX11_behind 206 = .ok (.if_icmp .eq 9, 3) := by decide +kernel
theorem dX11_behind_209 : decode cX11_behind 209 = .ok (.iload_n 0, 1) := by decide +kernel
theorem dX11_behind_210 : decode cX11_behind 210 = .ok (.bipush 38, 2) := by decide +kernel
theorem dX11_behind_212 : decode cX11_behind 212 = .ok (.if_icmp .ne 7, 3) := by decide +kernel
theorem dX11_behind_215 : decode cX11_behind 215 = .ok (.iconst 0, 1) := by decide +kernel
theorem dX11_behind_216 : decode cX11_behind 216 = .ok (.goto 19, 3) := by decide +kernel
theorem dX11_behind_219 : decode cX11_behind 219 = .ok (.iload_n 0, 1) := by decide +kernel
theorem dX11_behind_220 : decode cX11_behind 220 = .ok (.bipush 41, 2) := by decide +kernel
theorem dX11_behind_222 : decode cX11_behind 222 = .ok (.if_icmp .ne 12, 3) := by decide +kernel
theorem dX11_behind_225 : decode cX11_behind 225 = .ok (.iload_n 2, 1) := by decide +kernel
theorem dX11_behind_226 : decode cX11_behind 226 = .ok (.ifCond .le 8, 3) := by decide +kernel
theorem dX11_behind_229 : decode cX11_behind 229 = .ok (.bipush 6, 2) := by decide +kernel
theorem dX11_behind_231 : decode cX11_behind 231 = .ok (.goto 4, 3) := by decide +kernel
theorem dX11_behind_234 : decode cX11_behind 234 = .ok (.iconst (-1), 1) := by decide +kernel
theorem dX11_behind_235 : decode cX11_behind 235 = .ok (.ireturn, 1) := by decide +kernel
theorem dX11_faultOf_0 : decode cX11_faultOf 0 = .ok (.iconst 0, 1) := by decide +kernel
theorem dX11_faultOf_1 : decode cX11_faultOf 1 = .ok (.istore_n 2, 1) := by decide +kernel
theorem dX11_faultOf_2 : decode cX11_faultOf 2 = .ok (.iconst 0, 1) := by decide +kernel
theorem dX11_faultOf_3 : decode cX11_faultOf 3 = .ok (.istore_n 3, 1) := by decide +kernel
theorem dX11_faultOf_4 : decode cX11_faultOf 4 = .ok (.iconst 0, 1) := by decide +kernel
theorem dX11_faultOf_5 : decode cX11_faultOf 5 = .ok (.istore 4, 2) := by decide +kernel
theorem dX11_faultOf_7 : decode cX11_faultOf 7 = .ok (.iload 4, 2) := by decide +kernel
theorem dX11_faultOf_9 : decode cX11_faultOf 9 = .ok (.aload_n 0, 1) := by decide +kernel
theorem dX11_faultOf_10 : decode cX11_faultOf 10 = .ok (.getfield 19, 3) := by decide +kernel
theorem dX11_faultOf_13 : decode cX11_faultOf 13 = .ok (.iload_n 1, 1) := by decide +kernel
theorem dX11_faultOf_14 : decode cX11_faultOf 14 = .ok (.iaload, 1) := by decide +kernel
theorem dX11_faultOf_15 : decode cX11_faultOf 15 = .ok (.if_icmp .ge 70, 3) := by decide +kernel
theorem dX11_faultOf_18 : decode cX11_faultOf 18 = .ok (.aload_n 0, 1) := by decide +kernel
theorem dX11_faultOf_19 : decode cX11_faultOf 19 = .ok (.getfield 16, 3) := by decide +kernel
theorem dX11_faultOf_22 : decode cX11_faultOf 22 = .ok (.bipush 60, 2) := by decide +kernel
theorem dX11_faultOf_24 : decode cX11_faultOf 24 = .ok (.iload_n 1, 1) := by decide +kernel
theorem dX11_faultOf_25 : decode cX11_faultOf 25 = .ok (.imul, 1) := by decide +kernel
theorem dX11_faultOf_26 : decode cX11_faultOf 26 = .ok (.iload 4, 2) := by decide +kernel
theorem dX11_faultOf_28 : decode cX11_faultOf 28 = .ok (.iadd, 1) := by decide +kernel
theorem dX11_faultOf_29 : decode cX11_faultOf 29 = .ok (.iaload, 1) := by decide +kernel
theorem dX11_faultOf_30 : decode cX11_faultOf 30 = .ok (.istore 5, 2) := by decide +kernel
theorem dX11_faultOf_32 : decode cX11_faultOf 32 = .ok (.iload 5, 2) := by decide +kernel
theorem dX11_faultOf_34 : decode cX11_faultOf 34 = .ok (.iload_n 2, 1) := by decide +kernel
theorem dX11_faultOf_35 : decode cX11_faultOf 35 = .ok (.iload_n 3, 1) := by decide +kernel
theorem dX11_faultOf_36 : decode cX11_faultOf 36 = .ok (.invokestatic 116, 3) := by decide +kernel
theorem dX11_faultOf_39 : decode cX11_faultOf 39 = .ok (.istore 6, 2) := by decide +kernel
theorem dX11_faultOf_41 : decode cX11_faultOf 41 = .ok (.iload 6, 2) := by decide +kernel
theorem dX11_faultOf_43 : decode cX11_faultOf 43 = .ok (.iconst (-1), 1) := by decide +kernel
theorem dX11_faultOf_44 : decode cX11_faultOf 44 = .ok (.if_icmp .ne 6, 3) := by decide +kernel
theorem dX11_faultOf_47 : decode cX11_faultOf 47 = .ok (.iload 4, 2) := by decide +kernel
theorem dX11_faultOf_49 : decode cX11_faultOf 49 = .ok (.ireturn, 1) := by decide +kernel
theorem dX11_faultOf_50 : decode cX11_faultOf 50 = .ok (.iload_n 3, 1) := by decide +kernel
theorem dX11_faultOf_51 : decode cX11_faultOf 51 = .ok (.iload 5, 2) := by decide +kernel
theorem dX11_faultOf_53 : decode cX11_faultOf 53 = .ok (.bipush 40, 2) := by decide +kernel
theorem dX11_faultOf_55 : decode cX11_faultOf 55 = .ok (.if_icmp .ne 7, 3) := by decide +kernel
theorem dX11_faultOf_58 : decode cX11_faultOf 58 = .ok (.iconst 1, 1) := by decide +kernel
theorem dX11_faultOf_59 : decode cX11_faultOf 59 = .ok (.goto 15, 3) := by decide +kernel
theorem dX11_faultOf_62 : decode cX11_faultOf 62 = .ok (.iload 5, 2) := by decide +kernel
theorem dX11_faultOf_64 : decode cX11_faultOf 64 = .ok (.bipush 41, 2) := by decide +kernel
theorem dX11_faultOf_66 : decode cX11_faultOf 66 = .ok (.if_icmp .ne 7, 3) := by decide +kernel
theorem dX11_faultOf_69 : decode cX11_faultOf 69 = .ok (.iconst (-1), 1) := by decide +kernel
theorem dX11_faultOf_70 : decode cX11_faultOf 70 = .ok (.goto 4, 3) := by decide +kernel
theorem dX11_faultOf_73 : decode cX11_faultOf 73 = .ok (.iconst 0, 1) := by decide +kernel
theorem dX11_faultOf_74 : decode cX11_faultOf 74 = .ok (.iadd, 1) := by decide +kernel
theorem dX11_faultOf_75 : decode cX11_faultOf 75 = .ok (.istore_n 3, 1) := by decide +kernel
theorem dX11_faultOf_76 : decode cX11_faultOf 76 = .ok (.iload 6, 2) := by decide +kernel
theorem dX11_faultOf_78 : decode cX11_faultOf 78 = .ok (.istore_n 2, 1) := by decide +kernel
theorem dX11_faultOf_79 : decode cX11_faultOf 79 = .ok (.iinc 4 1, 3) := by decide +kernel
theorem dX11_faultOf_82 : decode cX11_faultOf 82 = .ok (.goto (-75), 3) := by decide +kernel
theorem dX11_faultOf_85 : decode cX11_faultOf 85 = .ok (.iload_n 3, 1) := by decide +kernel
theorem dX11_faultOf_86 : decode cX11_faultOf 86 = .ok (.ifCond .ne 18, 3) := by decide +kernel
theorem dX11_faultOf_89 : decode cX11_faultOf 89 = .ok (.iload_n 2, 1) := by decide +kernel
theorem dX11_faultOf_90 : decode cX11_faultOf 90 = .ok (.iconst 3, 1) := by decide +kernel
theorem dX11_faultOf_91 : decode cX11_faultOf 91 = .ok (.if_icmp .eq 9, 3) := by decide +kernel
theorem dX11_faultOf_94 : decode cX11_faultOf 94 = .ok (.iload_n 2, 1) := by decide +kernel
theorem dX11_faultOf_95 : decode cX11_faultOf 95 = .ok (.bipush 6, 2) := by decide +kernel
theorem dX11_faultOf_97 : decode cX11_faultOf 97 = .ok (.if_icmp .ne 7, 3) := by decide +kernel
theorem dX11_faultOf_100 : decode cX11_faultOf 100 = .ok (.iconst (-1), 1) := by decide +kernel
theorem dX11_faultOf_101 : decode cX11_faultOf 101 = .ok (.goto 9, 3) := by decide +kernel
theorem dX11_faultOf_104 : decode cX11_faultOf 104 = .ok (.aload_n 0, 1) := by decide +kernel
theorem dX11_faultOf_105 : decode cX11_faultOf 105 = .ok (.getfield 19, 3) := by decide +kernel
theorem dX11_faultOf_108 : decode cX11_faultOf 108 = .ok (.iload_n 1, 1) := by decide +kernel
theorem dX11_faultOf_109 : decode cX11_faultOf 109 = .ok (.iaload, 1) := by decide +kernel
theorem dX11_faultOf_110 : decode cX11_faultOf 110 = .ok (.ireturn, 1) := by decide +kernel
theorem dX11_fault_0 : decode cX11_fault 0 = .ok (.aload_n 0, 1) := by decide +kernel
theorem dX11_fault_1 : decode cX11_fault 1 = .ok (.iload_n 1, 1) := by decide +kernel
theorem dX11_fault_2 : decode cX11_fault 2 = .ok (.invokestatic 110, 3) := by decide +kernel
theorem dX11_fault_5 : decode cX11_fault 5 = .ok (.ifCond .eq 7, 3) := by decide +kernel
theorem dX11_fault_8 : decode cX11_fault 8 = .ok (.iconst 0, 1) := by decide +kernel
theorem dX11_fault_9 : decode cX11_fault 9 = .ok (.goto 4, 3) := by decide +kernel
theorem dX11_fault_12 : decode cX11_fault 12 = .ok (.iconst 1, 1) := by decide +kernel
theorem dX11_fault_13 : decode cX11_fault 13 = .ok (.invokevirtual 107, 3) := by decide +kernel
theorem dX11_fault_16 : decode cX11_fault 16 = .ok (.ifCond .eq 11, 3) := by decide +kernel
theorem dX11_fault_19 : decode cX11_fault 19 = .ok (.aload_n 0, 1) := by decide +kernel
theorem dX11_fault_20 : decode cX11_fault 20 = .ok (.iload_n 1, 1) := by decide +kernel
theorem dX11_fault_21 : decode cX11_fault 21 = .ok (.invokevirtual 120, 3) := by decide +kernel
theorem dX11_fault_24 : decode cX11_fault 24 = .ok (.goto 4, 3) := by decide +kernel
theorem dX11_fault_27 : decode cX11_fault 27 = .ok (.iconst 0, 1) := by decide +kernel
theorem dX11_fault_28 : decode cX11_fault 28 = .ok (.ireturn, 1) := by decide +kernel
theorem dX11_signOf_0 : decode cX11_signOf 0 = .ok (.iload_n 2, 1) := by decide +kernel
theorem dX11_signOf_1 : decode cX11_signOf 1 = .ok (.aload_n 0, 1) := by decide +kernel
theorem dX11_signOf_2 : decode cX11_signOf 2 = .ok (.getfield 25, 3) := by decide +kernel
theorem dX11_signOf_5 : decode cX11_signOf 5 = .ok (.iload_n 1, 1) := by decide +kernel
theorem dX11_signOf_6 : decode cX11_signOf 6 = .ok (.iaload, 1) := by decide +kernel
theorem dX11_signOf_7 : decode cX11_signOf 7 = .ok (.if_icmp .ge 17, 3) := by decide +kernel
theorem dX11_signOf_10 : decode cX11_signOf 10 = .ok (.aload_n 0, 1) := by decide +kernel
theorem dX11_signOf_11 : decode cX11_signOf 11 = .ok (.getfield 22, 3) := by decide +kernel
theorem dX11_signOf_14 : decode cX11_signOf 14 = .ok (.bipush 60, 2) := by decide +kernel
theorem dX11_signOf_16 : decode cX11_signOf 16 = .ok (.iload_n 1, 1) := by decide +kernel
theorem dX11_signOf_17 : decode cX11_signOf 17 = .ok (.imul, 1) := by decide +kernel
theorem dX11_signOf_18 : decode cX11_signOf 18 = .ok (.iload_n 2, 1) := by decide +kernel
theorem dX11_signOf_19 : decode cX11_signOf 19 = .ok (.iadd, 1) := by decide +kernel
theorem dX11_signOf_20 : decode cX11_signOf 20 = .ok (.iaload, 1) := by decide +kernel
theorem dX11_signOf_21 : decode cX11_signOf 21 = .ok (.goto 4, 3) := by decide +kernel
theorem dX11_signOf_24 : decode cX11_signOf 24 = .ok (.iconst 0, 1) := by decide +kernel
theorem dX11_signOf_25 : decode cX11_signOf 25 = .ok (.ireturn, 1) := by decide +kernel
theorem dX11_numberAt_0 : decode cX11_numberAt 0 = .ok (.aload_n 0, 1) := by decide +kernel
theorem dX11_numberAt_1 : decode cX11_numberAt 1 = .ok (.iload_n 1, 1) := by decide +kernel
theorem dX11_numberAt_2 : decode cX11_numberAt 2 = .ok (.iload_n 2, 1) := by decide +kernel
theorem dX11_numberAt_3 : decode cX11_numberAt 3 = .ok (.invokevirtual 124, 3) := by decide +kernel
theorem dX11_numberAt_6 : decode cX11_numberAt 6 = .ok (.bipush 48, 2) := by decide +kernel
theorem dX11_numberAt_8 : decode cX11_numberAt 8 = .ok (.isub, 1) := by decide +kernel
theorem dX11_numberAt_9 : decode cX11_numberAt 9 = .ok (.istore_n 3, 1) := by decide +kernel
theorem dX11_numberAt_10 : decode cX11_numberAt 10 = .ok (.aload_n 0, 1) := by decide +kernel
theorem dX11_numberAt_11 : decode cX11_numberAt 11 = .ok (.iload_n 1, 1) := by decide +kernel
theorem dX11_numberAt_12 : decode cX11_numberAt 12 = .ok (.iload_n 2, 1) := by decide +kernel
theorem dX11_numberAt_13 : decode cX11_numberAt 13 = .ok (.iconst 1, 1) := by decide +kernel
theorem dX11_numberAt_14 : decode cX11_numberAt 14 = .ok (.iadd, 1) := by decide +kernel
theorem dX11_numberAt_15 : decode cX11_numberAt 15 = .ok (.invokevirtual 124, 3) := by decide +kernel
theorem dX11_numberAt_18 : decode cX11_numberAt 18 = .ok (.istore 4, 2) := by decide +kernel
theorem dX11_numberAt_20 : decode cX11_numberAt 20 = .ok (.iload 4, 2) := by decide +kernel
theorem dX11_numberAt_22 : decode cX11_numberAt 22 = .ok (.invokestatic 113, 3) := by decide +kernel
theorem dX11_numberAt_25 : decode cX11_numberAt 25 = .ok (.ifCond .eq 16, 3) := by decide +kernel
theorem dX11_numberAt_28 : decode cX11_numberAt 28 = .ok (.bipush 10, 2) := by decide +kernel
theorem dX11_numberAt_30 : decode cX11_numberAt 30 = .ok (.iload_n 3, 1) := by decide +kernel
theorem dX11_numberAt_31 : decode cX11_numberAt 31 = .ok (.imul, 1) := by decide +kernel
theorem dX11_numberAt_32 : decode cX11_numberAt 32 = .ok (.iload 4, 2) := by decide +kernel
theorem dX11_numberAt_34 : decode cX11_numberAt 34 = .ok (.iadd, 1) := by decide +kernel
theorem dX11_numberAt_35 : decode cX11_numberAt 35 = .ok (.bipush 48, 2) := by decide +kernel
theorem dX11_numberAt_37 : decode cX11_numberAt 37 = .ok (.isub, 1) := by decide +kernel
theorem dX11_numberAt_38 : decode cX11_numberAt 38 = .ok (.goto 4, 3) := by decide +kernel
theorem dX11_numberAt_41 : decode cX11_numberAt 41 = .ok (.iload_n 3, 1) := by decide +kernel
theorem dX11_numberAt_42 : decode cX11_numberAt 42 = .ok (.ireturn, 1) := by decide +kernel
theorem dX11_meetsTest_0 : decode cX11_meetsTest 0 = .ok (.aload_n 0, 1) := by decide +kernel
theorem dX11_meetsTest_1 : decode cX11_meetsTest 1 = .ok (.iload_n 1, 1) := by decide +kernel
theorem dX11_meetsTest_2 : decode cX11_meetsTest 2 = .ok (.iload_n 2, 1) := by decide +kernel
theorem dX11_meetsTest_3 : decode cX11_meetsTest 3 = .ok (.invokevirtual 124, 3) := by decide +kernel
theorem dX11_meetsTest_6 : decode cX11_meetsTest 6 = .ok (.istore 4, 2) := by decide +kernel
theorem dX11_meetsTest_8 : decode cX11_meetsTest 8 = .ok (.aload_n 0, 1) := by decide +kernel
theorem dX11_meetsTest_9 : decode cX11_meetsTest 9 = .ok (.iload_n 1, 1) := by decide +kernel
theorem dX11_meetsTest_10 : decode cX11_meetsTest 10 = .ok (.iload_n 2, 1) := by decide +kernel
theorem dX11_meetsTest_11 : decode cX11_meetsTest 11 = .ok (.iconst 1, 1) := by decide +kernel
theorem dX11_meetsTest_12 : decode cX11_meetsTest 12 = .ok (.iadd, 1) := by decide +kernel
theorem dX11_meetsTest_13 : decode cX11_meetsTest 13 = .ok (.invokevirtual 124, 3) := by decide +kernel
theorem dX11_meetsTest_16 : decode cX11_meetsTest 16 = .ok (.istore 5, 2) := by decide +kernel
theorem dX11_meetsTest_18 : decode cX11_meetsTest 18 = .ok (.iload 4, 2) := by decide +kernel
theorem dX11_meetsTest_20 : decode cX11_meetsTest 20 = .ok (.bipush 42, 2) := by decide +kernel
theorem dX11_meetsTest_22 : decode cX11_meetsTest 22 = .ok (.if_icmp .ne 5, 3) := by decide +kernel
theorem dX11_meetsTest_25 : decode cX11_meetsTest 25 = .ok (.iconst 1, 1) := by decide +kernel
theorem dX11_meetsTest_26 : decode cX11_meetsTest 26 = .ok (.ireturn, 1) := by decide +kernel
theorem dX11_meetsTest_27 : decode cX11_meetsTest 27 = .ok (.iload 4, 2) := by decide +kernel
theorem dX11_meetsTest_29 : decode cX11_meetsTest 29 = .ok (.bipush 116, 2) := by decide +kernel
theorem dX11_meetsTest_31 : decode cX11_meetsTest 31 = .ok (.if_icmp .ne 27, 3) := by decide +kernel
theorem dX11_meetsTest_34 : decode cX11_meetsTest 34 = .ok (.aload_n 0, 1) := by decide +kernel
theorem dX11_meetsTest_35 : decode cX11_meetsTest 35 = .ok (.getfield 13, 3) := by decide +kernel
theorem dX11_meetsTest_38 : decode cX11_meetsTest 38 = .ok (.iload_n 3, 1) := by decide +kernel
theorem dX11_meetsTest_39 : decode cX11_meetsTest 39 = .ok (.iaload, 1) := by decide +kernel
theorem dX11_meetsTest_40 : decode cX11_meetsTest 40 = .ok (.iload 5, 2) := by decide +kernel
theorem dX11_meetsTest_42 : decode cX11_meetsTest 42 = .ok (.bipush 48, 2) := by decide +kernel
theorem dX11_meetsTest_44 : decode cX11_meetsTest 44 = .ok (.isub, 1) := by decide +kernel
theorem dX11_meetsTest_45 : decode cX11_meetsTest 45 = .ok (.ishr, 1) := by decide +kernel
theorem dX11_meetsTest_46 : decode cX11_meetsTest 46 = .ok (.iconst 1, 1) := by decide +kernel
theorem dX11_meetsTest_47 : decode cX11_meetsTest 47 = .ok (.iand, 1) := by decide +kernel
theorem dX11_meetsTest_48 : decode cX11_meetsTest 48 = .ok (.iconst 1, 1) := by decide +kernel
theorem dX11_meetsTest_49 : decode cX11_meetsTest 49 = .ok (.if_icmp .ne 7, 3) := by decide +kernel
theorem dX11_meetsTest_52 : decode cX11_meetsTest 52 = .ok (.iconst 1, 1) := by decide +kernel
theorem dX11_meetsTest_53 : decode cX11_meetsTest 53 = .ok (.goto 4, 3) := by decide +kernel
theorem dX11_meetsTest_56 : decode cX11_meetsTest 56 = .ok (.iconst 0, 1) := by decide +kernel
theorem dX11_meetsTest_57 : decode cX11_meetsTest 57 = .ok (.ireturn, 1) := by decide +kernel
theorem dX11_meetsTest_58 : decode cX11_meetsTest 58 = .ok (.iload 4, 2) := by decide +kernel
theorem dX11_meetsTest_60 : decode cX11_meetsTest 60 = .ok (.bipush 64, 2) := by decide +kernel
theorem dX11_meetsTest_62 : decode cX11_meetsTest 62 = .ok (.if_icmp .ne 27, 3) := by decide +kernel
theorem dX11_meetsTest_65 : decode cX11_meetsTest 65 = .ok (.aload_n 0, 1) := by decide +kernel
theorem dX11_meetsTest_66 : decode cX11_meetsTest 66 = .ok (.getfield 34, 3) := by decide +kernel
theorem dX11_meetsTest_69 : decode cX11_meetsTest 69 = .ok (.iload 5, 2) := by decide +kernel
theorem dX11_meetsTest_71 : decode cX11_meetsTest 71 = .ok (.bipush 48, 2) := by decide +kernel
theorem dX11_meetsTest_73 : decode cX11_meetsTest 73 = .ok (.isub, 1) := by decide +kernel
theorem dX11_meetsTest_74 : decode cX11_meetsTest 74 = .ok (.iaload, 1) := by decide +kernel
theorem dX11_meetsTest_75 : decode cX11_meetsTest 75 = .ok (.iload_n 3, 1) := by decide +kernel
theorem dX11_meetsTest_76 : decode cX11_meetsTest 76 = .ok (.ishr, 1) := by decide +kernel
theorem dX11_meetsTest_77 : decode cX11_meetsTest 77 = .ok (.iconst 1, 1) := by decide +kernel
theorem dX11_meetsTest_78 : decode cX11_meetsTest 78 = .ok (.iand, 1) := by decide +kernel
theorem dX11_meetsTest_79 : decode cX11_meetsTest 79 = .ok (.iconst 1, 1) := by decide +kernel
theorem dX11_meetsTest_80 : decode cX11_meetsTest 80 = .ok (.if_icmp .ne 7, 3) := by decide +kernel
theorem dX11_meetsTest_83 : decode cX11_meetsTest 83 = .ok (.iconst 1, 1) := by decide +kernel
theorem dX11_meetsTest_84 : decode cX11_meetsTest 84 = .ok (.goto 4, 3) := by decide +kernel
theorem dX11_meetsTest_87 : decode cX11_meetsTest 87 = .ok (.iconst 0, 1) := by decide +kernel
theorem dX11_meetsTest_88 : decode cX11_meetsTest 88 = .ok (.ireturn, 1) := by decide +kernel
theorem dX11_meetsTest_89 : decode cX11_meetsTest 89 = .ok (.aload_n 0, 1) := by decide +kernel
theorem dX11_meetsTest_90 : decode cX11_meetsTest 90 = .ok (.getfield 7, 3) := by decide +kernel
theorem dX11_meetsTest_93 : decode cX11_meetsTest 93 = .ok (.iconst 3, 1) := by decide +kernel
theorem dX11_meetsTest_94 : decode cX11_meetsTest 94 = .ok (.iload_n 3, 1) := by decide +kernel
theorem dX11_meetsTest_95 : decode cX11_meetsTest 95 = .ok (.imul, 1) := by decide +kernel
theorem dX11_meetsTest_96 : decode cX11_meetsTest 96 = .ok (.iload 4, 2) := by decide +kernel
theorem dX11_meetsTest_98 : decode cX11_meetsTest 98 = .ok (.bipush 108, 2) := by decide +kernel
theorem dX11_meetsTest_100 : decode cX11_meetsTest 100 = .ok (.if_icmp .ne 7, 3) := by decide +kernel
theorem dX11_meetsTest_103 : decode cX11_meetsTest 103 = .ok (.iconst 0, 1) := by decide +kernel
theorem dX11_meetsTest_104 : decode cX11_meetsTest 104 = .ok (.goto 15, 3) := by decide +kernel
theorem dX11_meetsTest_107 : decode cX11_meetsTest 107 = .ok (.iload 4, 2) := by decide +kernel
theorem dX11_meetsTest_109 : decode cX11_meetsTest 109 = .ok (.bipush 97, 2) := by decide +kernel
theorem dX11_meetsTest_111 : decode cX11_meetsTest 111 = .ok (.if_icmp .ne 7, 3) := by decide +kernel
theorem dX11_meetsTest_114 : decode cX11_meetsTest 114 = .ok (.iconst 1, 1) := by decide +kernel
theorem dX11_meetsTest_115 : decode cX11_meetsTest 115 = .ok (.goto 4, 3) := by decide +kernel
theorem dX11_meetsTest_118 : decode cX11_meetsTest 118 = .ok (.iconst 2, 1) := by decide +kernel
theorem dX11_meetsTest_119 : decode cX11_meetsTest 119 = .ok (.iadd, 1) := by decide +kernel
theorem dX11_meetsTest_120 : decode cX11_meetsTest 120 = .ok (.iaload, 1) := by decide +kernel
theorem dX11_meetsTest_121 : decode cX11_meetsTest 121 = .ok (.istore 6, 2) := by decide +kernel
theorem dX11_meetsTest_123 : decode cX11_meetsTest 123 = .ok (.aload_n 0, 1) := by decide +kernel
theorem dX11_meetsTest_124 : decode cX11_meetsTest 124 = .ok (.iload_n 1, 1) := by decide +kernel
theorem dX11_meetsTest_125 : decode cX11_meetsTest 125 = .ok (.iload_n 2, 1) := by decide +kernel
theorem dX11_meetsTest_126 : decode cX11_meetsTest 126 = .ok (.iconst 2, 1) := by decide +kernel
theorem dX11_meetsTest_127 : decode cX11_meetsTest 127 = .ok (.iadd, 1) := by decide +kernel
theorem dX11_meetsTest_128 : decode cX11_meetsTest 128 = .ok (.invokevirtual 128, 3) := by decide +kernel
theorem dX11_meetsTest_131 : decode cX11_meetsTest 131 = .ok (.istore 7, 2) := by decide +kernel
theorem dX11_meetsTest_133 : decode cX11_meetsTest 133 = .ok (.iload 5, 2) := by decide +kernel
theorem dX11_meetsTest_135 : decode cX11_meetsTest 135 = .ok (.bipush 61, 2) := by decide +kernel
theorem dX11_meetsTest_137 : decode cX11_meetsTest 137 = .ok (.if_icmp .ne 18, 3) := by decide +kernel
theorem dX11_meetsTest_140 : decode cX11_meetsTest 140 = .ok (.iload 6, 2) := by decide +kernel
theorem dX11_meetsTest_142 : decode cX11_meetsTest 142 = .ok (.iload 7, 2) := by decide +kernel
theorem dX11_meetsTest_144 : decode cX11_meetsTest 144 = .ok (.if_icmp .ne 7, 3) := by decide +kernel
theorem dX11_meetsTest_147 : decode cX11_meetsTest 147 = .ok (.iconst 1, 1) := by decide +kernel
theorem dX11_meetsTest_148 : decode cX11_meetsTest 148 = .ok (.goto 41, 3) := by decide +kernel
theorem dX11_meetsTest_151 : decode cX11_meetsTest 151 = .ok (.iconst 0, 1) := by decide +kernel
theorem dX11_meetsTest_152 : decode cX11_meetsTest 152 = .ok (.goto 37, 3) := by decide +kernel
theorem dX11_meetsTest_155 : decode cX11_meetsTest 155 = .ok (.iload 5, 2) := by decide +kernel
theorem dX11_meetsTest_157 : decode cX11_meetsTest 157 = .ok (.bipush 60, 2) := by decide +kernel
theorem dX11_meetsTest_159 : decode cX11_meetsTest 159 = .ok (.if_icmp .ne 18, 3) := by decide +kernel
theorem dX11_meetsTest_162 : decode cX11_meetsTest 162 = .ok (.iload 6, 2) := by decide +kernel
theorem dX11_meetsTest_164 : decode cX11_meetsTest 164 = .ok (.iload 7, 2) := by decide +kernel
theorem dX11_meetsTest_166 : decode cX11_meetsTest 166 = .ok (.if_icmp .ge 7, 3) := by decide +kernel
theorem dX11_meetsTest_169 : decode cX11_meetsTest 169 = .ok (.iconst 1, 1) := by decide +kernel
theorem dX11_meetsTest_170 : decode cX11_meetsTest 170 = .ok (.goto 19, 3) := by decide +kernel
theorem dX11_meetsTest_173 : decode cX11_meetsTest 173 = .ok (.iconst 0, 1) := by decide +kernel
theorem dX11_meetsTest_174 : decode cX11_meetsTest 174 = .ok (.goto 15, 3) := by decide +kernel
theorem dX11_meetsTest_177 : decode cX11_meetsTest 177 = .ok (.iload 6, 2) := by decide +kernel
theorem dX11_meetsTest_179 : decode cX11_meetsTest 179 = .ok (.iload 7, 2) := by decide +kernel
theorem dX11_meetsTest_181 : decode cX11_meetsTest 181 = .ok (.if_icmp .le 7, 3) := by decide +kernel
theorem dX11_meetsTest_184 : decode cX11_meetsTest 184 = .ok (.iconst 1, 1) := by decide +kernel
theorem dX11_meetsTest_185 : decode cX11_meetsTest 185 = .ok (.goto 4, 3) := by decide +kernel
theorem dX11_meetsTest_188 : decode cX11_meetsTest 188 = .ok (.iconst 0, 1) := by decide +kernel
theorem dX11_meetsTest_189 : decode cX11_meetsTest 189 = .ok (.ireturn, 1) := by decide +kernel
theorem dX11_beginsTest_0 : decode cX11_beginsTest 0 = .ok (.iload_n 0, 1) := by decide +kernel
theorem dX11_beginsTest_1 : decode cX11_beginsTest 1 = .ok (.bipush 42, 2) := by decide +kernel
theorem dX11_beginsTest_3 : decode cX11_beginsTest 3 = .ok (.if_icmp .eq 33, 3) := by decide +kernel
theorem dX11_beginsTest_6 : decode cX11_beginsTest 6 = .ok (.iload_n 0, 1) := by decide +kernel
theorem dX11_beginsTest_7 : decode cX11_beginsTest 7 = .ok (.bipush 108, 2) := by decide +kernel
theorem dX11_beginsTest_9 : decode cX11_beginsTest 9 = .ok (.if_icmp .eq 27, 3) := by decide +kernel
theorem dX11_beginsTest_12 : decode cX11_beginsTest 12 = .ok (.iload_n 0, 1) := by decide +kernel
theorem dX11_beginsTest_13 : decode cX11_beginsTest 13 = .ok (.bipush 97, 2) := by decide +kernel
theorem dX11_beginsTest_15 : decode cX11_beginsTest 15 = .ok (.if_icmp .eq 21, 3) := by decide +kernel
theorem dX11_beginsTest_18 : decode cX11_beginsTest 18 = .ok (.iload_n 0, 1) := by decide +kernel
theorem dX11_beginsTest_19 : decode cX11_beginsTest 19 = .ok (.bipush 112, 2) := by decide +kernel
theorem dX11_beginsTest_21 : decode cX11_beginsTest 21 = .ok (.if_icmp .eq 15, 3) := by decide +kernel
theorem dX11_beginsTest_24 : decode cX11_beginsTest 24 = .ok (.iload_n 0, 1) := by decide +kernel
theorem dX11_beginsTest_25 : decode cX11_beginsTest 25 = .ok (.bipush 116, 2) := by decide +kernel
theorem dX11_beginsTest_27 : decode cX11_beginsTest 27 = .ok (.if_icmp .eq 9, 3) := by decide +kernel
theorem dX11_beginsTest_30 : decode cX11_beginsTest 30 = .ok (.iload_n 0, 1) := by decide +kernel
theorem dX11_beginsTest_31 : decode cX11_beginsTest 31 = .ok (.bipush 64, 2) := by decide +kernel
theorem dX11_beginsTest_33 : decode cX11_beginsTest 33 = .ok (.if_icmp .ne 7, 3) := by decide +kernel
theorem dX11_beginsTest_36 : decode cX11_beginsTest 36 = .ok (.iconst 1, 1) := by decide +kernel
theorem dX11_beginsTest_37 : decode cX11_beginsTest 37 = .ok (.goto 4, 3) := by decide +kernel
theorem dX11_beginsTest_40 : decode cX11_beginsTest 40 = .ok (.iconst 0, 1) := by decide +kernel
theorem dX11_beginsTest_41 : decode cX11_beginsTest 41 = .ok (.ireturn, 1) := by decide +kernel
theorem dX11_meets_0 : decode cX11_meets 0 = .ok (.iconst 0, 1) := by decide +kernel
theorem dX11_meets_1 : decode cX11_meets 1 = .ok (.istore_n 3, 1) := by decide +kernel
theorem dX11_meets_2 : decode cX11_meets 2 = .ok (.iconst 0, 1) := by decide +kernel
theorem dX11_meets_3 : decode cX11_meets 3 = .ok (.istore 4, 2) := by decide +kernel
theorem dX11_meets_5 : decode cX11_meets 5 = .ok (.aload_n 0, 1) := by decide +kernel
theorem dX11_meets_6 : decode cX11_meets 6 = .ok (.getfield 40, 3) := by decide +kernel
theorem dX11_meets_9 : decode cX11_meets 9 = .ok (.iconst 0, 1) := by decide +kernel
theorem dX11_meets_10 : decode cX11_meets 10 = .ok (.iconst 0, 1) := by decide +kernel
theorem dX11_meets_11 : decode cX11_meets 11 = .ok (.bastore, 1) := by decide +kernel
theorem dX11_meets_12 : decode cX11_meets 12 = .ok (.aload_n 0, 1) := by decide +kernel
theorem dX11_meets_13 : decode cX11_meets 13 = .ok (.getfield 44, 3) := by decide +kernel
theorem dX11_meets_16 : decode cX11_meets 16 = .ok (.iconst 0, 1) := by decide +kernel
theorem dX11_meets_17 : decode cX11_meets 17 = .ok (.iconst 1, 1) := by decide +kernel
theorem dX11_meets_18 : decode cX11_meets 18 = .ok (.bastore, 1) := by decide +kernel
theorem dX11_meets_19 : decode cX11_meets 19 = .ok (.iconst 0, 1) := by decide +kernel
theorem dX11_meets_20 : decode cX11_meets 20 = .ok (.istore 5, 2) := by decide +kernel
theorem dX11_meets_22 : decode cX11_meets 22 = .ok (.iload 5, 2) := by decide +kernel
theorem dX11_meets_24 : decode cX11_meets 24 = .ok (.aload_n 0, 1) := by decide +kernel
theorem dX11_meets_25 : decode cX11_meets 25 = .ok (.getfield 25, 3) := by decide +kernel
theorem dX11_meets_28 : decode cX11_meets 28 = .ok (.iload_n 1, 1) := by decide +kernel
theorem dX11_meets_29 : decode cX11_meets 29 = .ok (.iaload, 1) := by decide +kernel
theorem dX11_meets_30 : decode cX11_meets 30 = .ok (.if_icmp .ge 237, 3) := by decide +kernel
theorem dX11_meets_33 : decode cX11_meets 33 = .ok (.aload_n 0, 1) := by decide +kernel
theorem dX11_meets_34 : decode cX11_meets 34 = .ok (.iload_n 1, 1) := by decide +kernel
theorem dX11_meets_35 : decode cX11_meets 35 = .ok (.iload 5, 2) := by decide +kernel
theorem dX11_meets_37 : decode cX11_meets 37 = .ok (.invokevirtual 124, 3) := by decide +kernel
theorem dX11_meets_40 : decode cX11_meets 40 = .ok (.istore 6, 2) := by decide +kernel
theorem dX11_meets_42 : decode cX11_meets 42 = .ok (.iload 6, 2) := by decide +kernel
theorem dX11_meets_44 : decode cX11_meets 44 = .ok (.invokestatic 131, 3) := by decide +kernel
theorem dX11_meets_47 : decode cX11_meets 47 = .ok (.ifCond .eq 42, 3) := by decide +kernel
theorem dX11_meets_50 : decode cX11_meets 50 = .ok (.aload_n 0, 1) := by decide +kernel
theorem dX11_meets_51 : decode cX11_meets 51 = .ok (.getfield 44, 3) := by decide +kernel
theorem dX11_meets_54 : decode cX11_meets 54 = .ok (.iload_n 3, 1) := by decide +kernel
theorem dX11_meets_55 : decode cX11_meets 55 = .ok (.aload_n 0, 1) := by decide +kernel
theorem dX11_meets_56 : decode cX11_meets 56 = .ok (.getfield 44, 3) := by decide +kernel
theorem dX11_meets_59 : decode cX11_meets 59 = .ok (.iload_n 3, 1) := by decide +kernel
theorem dX11_meets_60 : decode cX11_meets 60 = .ok (.baload, 1) := by decide +kernel
theorem dX11_meets_61 : decode cX11_meets 61 = .ok (.ifCond .eq 20, 3) := by decide +kernel
theorem dX11_meets_64 : decode cX11_meets 64 = .ok (.aload_n 0, 1) := by decide +kernel
theorem dX11_meets_65 : decode cX11_meets 65 = .ok (.iload_n 1, 1) := by decide +kernel
theorem dX11_meets_66 : decode cX11_meets 66 = .ok (.iload 5, 2) := by decide +kernel
theorem dX11_meets_68 : decode cX11_meets 68 = .ok (.iload_n 2, 1) := by decide +kernel
theorem dX11_meets_69 : decode cX11_meets 69 = .ok (.invokevirtual 134, 3) := by decide +kernel
theorem dX11_meets_72 : decode cX11_meets 72 = .ok (.iload 4, 2) := by decide +kernel
theorem dX11_meets_74 : decode cX11_meets 74 = .ok (.if_icmp .eq 7, 3) := by decide +kernel
theorem dX11_meets_77 : decode cX11_meets 77 = .ok (.iconst 1, 1) := by decide +kernel
theorem dX11_meets_78 : decode cX11_meets 78 = .ok (.goto 4, 3) := by decide +kernel
theorem dX11_meets_81 : decode cX11_meets 81 = .ok (.iconst 0, 1) := by decide +kernel
theorem dX11_meets_82 : decode cX11_meets 82 = .ok (.bastore, 1) := by decide +kernel
theorem dX11_meets_83 : decode cX11_meets 83 = .ok (.iconst 0, 1) := by decide +kernel
theorem dX11_meets_84 : decode cX11_meets 84 = .ok (.istore 4, 2) := by decide +kernel
theorem dX11_meets_86 : decode cX11_meets 86 = .ok (.goto 175, 3) := by decide +kernel
theorem dX11_meets_89 : decode cX11_meets 89 = .ok (.iload 6, 2) := by decide +kernel
theorem dX11_meets_91 : decode cX11_meets 91 = .ok (.bipush 33, 2) := by decide +kernel
theorem dX11_meets_93 : decode cX11_meets 93 = .ok (.if_icmp .ne 18, 3) := by decide +kernel
theorem dX11_meets_96 : decode cX11_meets 96 = .ok (.iload 4, 2) := by decide +kernel
theorem dX11_meets_98 : decode cX11_meets 98 = .ok (.ifCond .ne 7, 3) := by decide +kernel
theorem dX11_meets_101 : decode cX11_meets 101 = .ok (.iconst 1, 1) := by decide +kernel
theorem dX11_meets_102 : decode cX11_meets 102 = .ok (.goto 4, 3) := by decide +kernel
theorem dX11_meets_105 : decode cX11_meets 105 = .ok (.iconst 0, 1) := by decide +kernel
theorem dX11_meets_106 : decode cX11_meets 106 = .ok (.istore 4, 2) := by decide +kernel
theorem dX11_meets_108 : decode cX11_meets 108 = .ok (.goto 153, 3) := by decide +kernel
theorem dX11_meets_111 : decode cX11_meets 111 = .ok (.iload 6, 2) := by decide +kernel
theorem dX11_meets_113 : decode cX11_meets 113 = .ok (.bipush 124, 2) := by decide +kernel
theorem dX11_meets_115 : decode cX11_meets 115 = .ok (.if_icmp .ne 42, 3) := by decide +kernel
theorem dX11_meets_118 : decode cX11_meets 118 = .ok (.aload_n 0, 1) := by decide +kernel
theorem dX11_meets_119 : decode cX11_meets 119 = .ok (.getfield 40, 3) := by decide +kernel
theorem dX11_meets_122 : decode cX11_meets 122 = .ok (.iload_n 3, 1) := by decide +kernel
theorem dX11_meets_123 : decode cX11_meets 123 = .ok (.aload_n 0, 1) := by decide +kernel
theorem dX11_meets_124 : decode cX11_meets 124 = .ok (.getfield 40, 3) := by decide +kernel
theorem dX11_meets_127 : decode cX11_meets 127 = .ok (.iload_n 3, 1) := by decide +kernel
theorem dX11_meets_128 : decode cX11_meets 128 = .ok (.baload, 1) := by decide +kernel
theorem dX11_meets_129 : decode cX11_meets 129 = .ok (.ifCond .ne 12, 3) := by decide +kernel
theorem dX11_meets_132 : decode cX11_meets 132 = .ok (.aload_n 0, 1) := by decide +kernel
theorem dX11_meets_133 : decode cX11_meets 133 = .ok (.getfield 44, 3) := by decide +kernel
theorem dX11_meets_136 : decode cX11_meets 136 = .ok (.iload_n 3, 1) := by decide +kernel
theorem dX11_meets_137 : decode cX11_meets 137 = .ok (.baload, 1) := by decide +kernel
theorem dX11_meets_138 : decode cX11_meets 138 = .ok (.ifCond .eq 7, 3) := by decide +kernel
theorem dX11_meets_141 : decode cX11_meets 141 = .ok (.iconst 1, 1) := by decide +kernel
theorem dX11_meets_142 : decode cX11_meets 142 = .ok (.goto 4, 3) := by decide +kernel
theorem dX11_meets_145 : decode cX11_meets 145 = .ok (.iconst 0, 1) := by decide +kernel
theorem dX11_meets_146 : decode cX11_meets 146 = .ok (.bastore, 1) := by decide +kernel
theorem dX11_meets_147 : decode cX11_meets 147 = .ok (.aload_n 0, 1) := by decide +kernel
theorem dX11_meets_148 : decode cX11_meets 148 = .ok (.getfield 44, 3) := by decide +kernel
theorem dX11_meets_151 : decode cX11_meets 151 = .ok (.iload_n 3, 1) := by decide +kernel
theorem dX11_meets_152 : decode cX11_meets 152 = .ok (.iconst 1, 1) := by decide +kernel
theorem dX11_meets_153 : decode cX11_meets 153 = .ok (.bastore, 1) := by decide +kernel
theorem dX11_meets_154 : decode cX11_meets 154 = .ok (.goto 107, 3) := by decide +kernel
theorem dX11_meets_157 : decode cX11_meets 157 = .ok (.iload 6, 2) := by decide +kernel
theorem dX11_meets_159 : decode cX11_meets 159 = .ok (.bipush 40, 2) := by decide +kernel
theorem dX11_meets_161 : decode cX11_meets 161 = .ok (.if_icmp .ne 34, 3) := by decide +kernel
theorem dX11_meets_164 : decode cX11_meets 164 = .ok (.aload_n 0, 1) := by decide +kernel
theorem dX11_meets_165 : decode cX11_meets 165 = .ok (.getfield 47, 3) := by decide +kernel
theorem dX11_meets_168 : decode cX11_meets 168 = .ok (.iload_n 3, 1) := by decide +kernel
theorem dX11_meets_169 : decode cX11_meets 169 = .ok (.iload 4, 2) := by decide +kernel
theorem dX11_meets_171 : decode cX11_meets 171 = .ok (.bastore, 1) := by decide +kernel
theorem dX11_meets_172 : decode cX11_meets 172 = .ok (.iconst 0, 1) := by decide +kernel
theorem dX11_meets_173 : decode cX11_meets 173 = .ok (.istore 4, 2) := by decide +kernel
theorem dX11_meets_175 : decode cX11_meets 175 = .ok (.iinc 3 1, 3) := by decide +kernel
theorem dX11_meets_178 : decode cX11_meets 178 = .ok (.aload_n 0, 1) := by decide +kernel
theorem dX11_meets_179 : decode cX11_meets 179 = .ok (.getfield 40, 3) := by decide +kernel
theorem dX11_meets_182 : decode cX11_meets 182 = .ok (.iload_n 3, 1) := by decide +kernel
theorem dX11_meets_183 : decode cX11_meets 183 = .ok (.iconst 0, 1) := by decide +kernel
theorem dX11_meets_184 : decode cX11_meets 184 = .ok (.bastore, 1) := by decide +kernel
theorem dX11_meets_185 : decode cX11_meets 185 = .ok (.aload_n 0, 1) := by decide +kernel
theorem dX11_meets_186 : decode cX11_meets 186 = .ok (.getfield 44, 3) := by decide +kernel
theorem dX11_meets_189 : decode cX11_meets 189 = .ok (.iload_n 3, 1) := by decide +kernel
theorem dX11_meets_190 : decode cX11_meets 190 = .ok (.iconst 1, 1) := by decide +kernel
theorem dX11_meets_191 : decode cX11_meets 191 = .ok (.bastore, 1) := by decide +kernel
theorem dX11_meets_192 : decode cX11_meets 192 = .ok (.goto 69, 3) := by decide +kernel
theorem dX11_meets_195 : decode cX11_meets 195 = .ok (.iload 6, 2) := by decide +kernel
theorem dX11_meets_197 : decode cX11_meets 197 = .ok (.bipush 41, 2) := by decide +kernel
theorem dX11_meets_199 : decode cX11_meets 199 = .ok (.if_icmp .ne 62, 3) := by decide +kernel
theorem dX11_meets_202 : decode cX11_meets 202 = .ok (.aload_n 0, 1) := by decide +kernel
theorem dX11_meets_203 : decode cX11_meets 203 = .ok (.getfield 40, 3) := by decide +kernel
theorem dX11_meets_206 : decode cX11_meets 206 = .ok (.iload_n 3, 1) := by decide +kernel
theorem dX11_meets_207 : decode cX11_meets 207 = .ok (.baload, 1) := by decide +kernel
theorem dX11_meets_208 : decode cX11_meets 208 = .ok (.ifCond .ne 12, 3) := by decide +kernel
theorem dX11_meets_211 : decode cX11_meets 211 = .ok (.aload_n 0, 1) := by decide +kernel
theorem dX11_meets_212 : decode cX11_meets 212 = .ok (.getfield 44, 3) := by decide +kernel
theorem dX11_meets_215 : decode cX11_meets 215 = .ok (.iload_n 3, 1) := by decide +kernel
theorem dX11_meets_216 : decode cX11_meets 216 = .ok (.baload, 1) := by decide +kernel
theorem dX11_meets_217 : decode cX11_meets 217 = .ok (.ifCond .eq 7, 3) := by decide +kernel
theorem dX11_meets_220 : decode cX11_meets 220 = .ok (.iconst 1, 1) := by decide +kernel
theorem dX11_meets_221 : decode cX11_meets 221 = .ok (.goto 4, 3) := by decide +kernel
theorem dX11_meets_224 : decode cX11_meets 224 = .ok (.iconst 0, 1) := by decide +kernel
theorem dX11_meets_225 : decode cX11_meets 225 = .ok (.istore 7, 2) := by decide +kernel
theorem dX11_meets_227 : decode cX11_meets 227 = .ok (.iinc 3 (-1), 3) := by decide +kernel
theorem dX11_meets_230 : decode cX11_meets 230 = .ok (.aload_n 0, 1) := by decide +kernel
theorem dX11_meets_231 : decode cX11_meets 231 = .ok (.getfield 44, 3) := by decide +kernel
theorem dX11_meets_234 : decode cX11_meets 234 = .ok (.iload_n 3, 1) := by decide +kernel
theorem dX11_meets_235 : decode cX11_meets 235 = .ok (.aload_n 0, 1) := by decide +kernel
theorem dX11_meets_236 : decode cX11_meets 236 = .ok (.getfield 44, 3) := by decide +kernel
theorem dX11_meets_239 : decode cX11_meets 239 = .ok (.iload_n 3, 1) := by decide +kernel
theorem dX11_meets_240 : decode cX11_meets 240 = .ok (.baload, 1) := by decide +kernel
theorem dX11_meets_241 : decode cX11_meets 241 = .ok (.ifCond .eq 18, 3) := by decide +kernel
theorem dX11_meets_244 : decode cX11_meets 244 = .ok (.iload 7, 2) := by decide +kernel
theorem dX11_meets_246 : decode cX11_meets 246 = .ok (.aload_n 0, 1) := by decide +kernel
theorem dX11_meets_247 : decode cX11_meets 247 = .ok (.getfield 47, 3) := by decide +kernel
theorem dX11_meets_250 : decode cX11_meets 250 = .ok (.iload_n 3, 1) := by decide +kernel
theorem dX11_meets_251 : decode cX11_meets 251 = .ok (.baload, 1) := by decide +kernel
theorem dX11_meets_252 : decode cX11_meets 252 = .ok (.if_icmp .eq 7, 3) := by decide +kernel
theorem dX11_meets_255 : decode cX11_meets 255 = .ok (.iconst 1, 1) := by decide +kernel
theorem dX11_meets_256 : decode cX11_meets 256 = .ok (.goto 4, 3) := by decide +kernel
theorem dX11_meets_259 : decode cX11_meets 259 = .ok (.iconst 0, 1) := by decide +kernel
theorem dX11_meets_260 : decode cX11_meets 260 = .ok (.bastore, 1) := by decide +kernel
theorem dX11_meets_261 : decode cX11_meets 261 = .ok (.iinc 5 1, 3) := by decide +kernel
theorem dX11_meets_264 : decode cX11_meets 264 = .ok (.goto (-242), 3) := by decide +kernel
theorem dX11_meets_267 : decode cX11_meets 267 = .ok (.aload_n 0, 1) := by decide +kernel
theorem dX11_meets_268 : decode cX11_meets 268 = .ok (.getfield 25, 3) := by decide +kernel
theorem dX11_meets_271 : decode cX11_meets 271 = .ok (.iload_n 1, 1) := by decide +kernel
theorem dX11_meets_272 : decode cX11_meets 272 = .ok (.iaload, 1) := by decide +kernel
theorem dX11_meets_273 : decode cX11_meets 273 = .ok (.ifCond .le 25, 3) := by decide +kernel
theorem dX11_meets_276 : decode cX11_meets 276 = .ok (.aload_n 0, 1) := by decide +kernel
theorem dX11_meets_277 : decode cX11_meets 277 = .ok (.getfield 40, 3) := by decide +kernel
theorem dX11_meets_280 : decode cX11_meets 280 = .ok (.iconst 0, 1) := by decide +kernel
theorem dX11_meets_281 : decode cX11_meets 281 = .ok (.baload, 1) := by decide +kernel
theorem dX11_meets_282 : decode cX11_meets 282 = .ok (.ifCond .ne 12, 3) := by decide +kernel
theorem dX11_meets_285 : decode cX11_meets 285 = .ok (.aload_n 0, 1) := by decide +kernel
theorem dX11_meets_286 : decode cX11_meets 286 = .ok (.getfield 44, 3) := by decide +kernel
theorem dX11_meets_289 : decode cX11_meets 289 = .ok (.iconst 0, 1) := by decide +kernel
theorem dX11_meets_290 : decode cX11_meets 290 = .ok (.baload, 1) := by decide +kernel
theorem dX11_meets_291 : decode cX11_meets 291 = .ok (.ifCond .eq 7, 3) := by decide +kernel
theorem dX11_meets_294 : decode cX11_meets 294 = .ok (.iconst 1, 1) := by decide +kernel
theorem dX11_meets_295 : decode cX11_meets 295 = .ok (.goto 4, 3) := by decide +kernel
theorem dX11_meets_298 : decode cX11_meets 298 = .ok (.iconst 0, 1) := by decide +kernel
theorem dX11_meets_299 : decode cX11_meets 299 = .ok (.ireturn, 1) := by decide +kernel
theorem dX11_gather_0 : decode cX11_gather 0 = .ok (.iconst 0, 1) := by decide +kernel
theorem dX11_gather_1 : decode cX11_gather 1 = .ok (.istore_n 1, 1) := by decide +kernel
theorem dX11_gather_2 : decode cX11_gather 2 = .ok (.iload_n 1, 1) := by decide +kernel
theorem dX11_gather_3 : decode cX11_gather 3 = .ok (.bipush 6, 2) := by decide +kernel
theorem dX11_gather_5 : decode cX11_gather 5 = .ok (.if_icmp .ge 69, 3) := by decide +kernel
theorem dX11_gather_8 : decode cX11_gather 8 = .ok (.iconst 0, 1) := by decide +kernel
theorem dX11_gather_9 : decode cX11_gather 9 = .ok (.istore_n 2, 1) := by decide +kernel
theorem dX11_gather_10 : decode cX11_gather 10 = .ok (.iload_n 2, 1) := by decide +kernel
theorem dX11_gather_11 : decode cX11_gather 11 = .ok (.bipush 6, 2) := by decide +kernel
theorem dX11_gather_13 : decode cX11_gather 13 = .ok (.if_icmp .ge 55, 3) := by decide +kernel
theorem dX11_gather_16 : decode cX11_gather 16 = .ok (.iconst 0, 1) := by decide +kernel
theorem dX11_gather_17 : decode cX11_gather 17 = .ok (.istore_n 3, 1) := by decide +kernel
theorem dX11_gather_18 : decode cX11_gather 18 = .ok (.iconst 0, 1) := by decide +kernel
theorem dX11_gather_19 : decode cX11_gather 19 = .ok (.istore 4, 2) := by decide +kernel
theorem dX11_gather_21 : decode cX11_gather 21 = .ok (.iload 4, 2) := by decide +kernel
theorem dX11_gather_23 : decode cX11_gather 23 = .ok (.bipush 20, 2) := by decide +kernel
theorem dX11_gather_25 : decode cX11_gather 25 = .ok (.if_icmp .ge 30, 3) := by decide +kernel
theorem dX11_gather_28 : decode cX11_gather 28 = .ok (.iload_n 3, 1) := by decide +kernel
theorem dX11_gather_29 : decode cX11_gather 29 = .ok (.aload_n 0, 1) := by decide +kernel
theorem dX11_gather_30 : decode cX11_gather 30 = .ok (.iload_n 2, 1) := by decide +kernel
theorem dX11_gather_31 : decode cX11_gather 31 = .ok (.iload 4, 2) := by decide +kernel
theorem dX11_gather_33 : decode cX11_gather 33 = .ok (.invokevirtual 137, 3) := by decide +kernel
theorem dX11_gather_36 : decode cX11_gather 36 = .ok (.ifCond .eq 10, 3) := by decide +kernel
theorem dX11_gather_39 : decode cX11_gather 39 = .ok (.iconst 1, 1) := by decide +kernel
theorem dX11_gather_40 : decode cX11_gather 40 = .ok (.iload 4, 2) := by decide +kernel
theorem dX11_gather_42 : decode cX11_gather 42 = .ok (.ishl, 1) := by decide +kernel
theorem dX11_gather_43 : decode cX11_gather 43 = .ok (.goto 4, 3) := by decide +kernel
theorem dX11_gather_46 : decode cX11_gather 46 = .ok (.iconst 0, 1) := by decide +kernel
theorem dX11_gather_47 : decode cX11_gather 47 = .ok (.ior, 1) := by decide +kernel
theorem dX11_gather_48 : decode cX11_gather 48 = .ok (.istore_n 3, 1) := by decide +kernel
theorem dX11_gather_49 : decode cX11_gather 49 = .ok (.iinc 4 1, 3) := by decide +kernel
theorem dX11_gather_52 : decode cX11_gather 52 = .ok (.goto (-31), 3) := by decide +kernel
theorem dX11_gather_55 : decode cX11_gather 55 = .ok (.aload_n 0, 1) := by decide +kernel
theorem dX11_gather_56 : decode cX11_gather 56 = .ok (.getfield 34, 3) := by decide +kernel
theorem dX11_gather_59 : decode cX11_gather 59 = .ok (.iload_n 2, 1) := by decide +kernel
theorem dX11_gather_60 : decode cX11_gather 60 = .ok (.iload_n 3, 1) := by decide +kernel
theorem dX11_gather_61 : decode cX11_gather 61 = .ok (.iastore, 1) := by decide +kernel
theorem dX11_gather_62 : decode cX11_gather 62 = .ok (.iinc 2 1, 3) := by decide +kernel
theorem dX11_gather_65 : decode cX11_gather 65 = .ok (.goto (-55), 3) := by decide +kernel
theorem dX11_gather_68 : decode cX11_gather 68 = .ok (.iinc 1 1, 3) := by decide +kernel
theorem dX11_gather_71 : decode cX11_gather 71 = .ok (.goto (-69), 3) := by decide +kernel
theorem dX11_gather_74 : decode cX11_gather 74 = .ok (.return_, 1) := by decide +kernel
theorem dX11_countBits_0 : decode cX11_countBits 0 = .ok (.iconst 0, 1) := by decide +kernel
theorem dX11_countBits_1 : decode cX11_countBits 1 = .ok (.istore_n 1, 1) := by decide +kernel
theorem dX11_countBits_2 : decode cX11_countBits 2 = .ok (.iconst 0, 1) := by decide +kernel
theorem dX11_countBits_3 : decode cX11_countBits 3 = .ok (.istore_n 2, 1) := by decide +kernel
theorem dX11_countBits_4 : decode cX11_countBits 4 = .ok (.iload_n 2, 1) := by decide +kernel
theorem dX11_countBits_5 : decode cX11_countBits 5 = .ok (.bipush 20, 2) := by decide +kernel
theorem dX11_countBits_7 : decode cX11_countBits 7 = .ok (.if_icmp .ge 17, 3) := by decide +kernel
theorem dX11_countBits_10 : decode cX11_countBits 10 = .ok (.iload_n 1, 1) := by decide +kernel
theorem dX11_countBits_11 : decode cX11_countBits 11 = .ok (.iload_n 0, 1) := by decide +kernel
theorem dX11_countBits_12 : decode cX11_countBits 12 = .ok (.iload_n 2, 1) := by decide +kernel
theorem dX11_countBits_13 : decode cX11_countBits 13 = .ok (.ishr, 1) := by decide +kernel
theorem dX11_countBits_14 : decode cX11_countBits 14 = .ok (.iconst 1, 1) := by decide +kernel
theorem dX11_countBits_15 : decode cX11_countBits 15 = .ok (.iand, 1) := by decide +kernel
theorem dX11_countBits_16 : decode cX11_countBits 16 = .ok (.iadd, 1) := by decide +kernel
theorem dX11_countBits_17 : decode cX11_countBits 17 = .ok (.istore_n 1, 1) := by decide +kernel
theorem dX11_countBits_18 : decode cX11_countBits 18 = .ok (.iinc 2 1, 3) := by decide +kernel
theorem dX11_countBits_21 : decode cX11_countBits 21 = .ok (.goto (-17), 3) := by decide +kernel
theorem dX11_countBits_24 : decode cX11_countBits 24 = .ok (.iload_n 1, 1) := by decide +kernel
theorem dX11_countBits_25 : decode cX11_countBits 25 = .ok (.ireturn, 1) := by decide +kernel
theorem dX11_layDraft_0 : decode cX11_layDraft 0 = .ok (.aload_n 0, 1) := by decide +kernel
theorem dX11_layDraft_1 : decode cX11_layDraft 1 = .ok (.aload_n 0, 1) := by decide +kernel
theorem dX11_layDraft_2 : decode cX11_layDraft 2 = .ok (.getfield 25, 3) := by decide +kernel
theorem dX11_layDraft_5 : decode cX11_layDraft 5 = .ok (.iload_n 1, 1) := by decide +kernel
theorem dX11_layDraft_6 : decode cX11_layDraft 6 = .ok (.iaload, 1) := by decide +kernel
theorem dX11_layDraft_7 : decode cX11_layDraft 7 = .ok (.putfield 141, 3) := by decide +kernel
theorem dX11_layDraft_10 : decode cX11_layDraft 10 = .ok (.iconst 0, 1) := by decide +kernel
theorem dX11_layDraft_11 : decode cX11_layDraft 11 = .ok (.istore_n 2, 1) := by decide +kernel
theorem dX11_layDraft_12 : decode cX11_layDraft 12 = .ok (.iload_n 2, 1) := by decide +kernel
theorem dX11_layDraft_13 : decode cX11_layDraft 13 = .ok (.bipush 60, 2) := by decide +kernel
theorem dX11_layDraft_15 : decode cX11_layDraft 15 = .ok (.if_icmp .ge 48, 3) := by decide +kernel
theorem dX11_layDraft_18 : decode cX11_layDraft 18 = .ok (.aload_n 0, 1) := by decide +kernel
theorem dX11_layDraft_19 : decode cX11_layDraft 19 = .ok (.getfield 28, 3) := by decide +kernel
theorem dX11_layDraft_22 : decode cX11_layDraft 22 = .ok (.iload_n 2, 1) := by decide +kernel
theorem dX11_layDraft_23 : decode cX11_layDraft 23 = .ok (.aload_n 0, 1) := by decide +kernel
theorem dX11_layDraft_24 : decode cX11_layDraft 24 = .ok (.getfield 22, 3) := by decide +kernel
theorem dX11_layDraft_27 : decode cX11_layDraft 27 = .ok (.bipush 60, 2) := by decide +kernel
theorem dX11_layDraft_29 : decode cX11_layDraft 29 = .ok (.iload_n 1, 1) := by decide +kernel
theorem dX11_layDraft_30 : decode cX11_layDraft 30 = .ok (.imul, 1) := by decide +kernel
theorem dX11_layDraft_31 : decode cX11_layDraft 31 = .ok (.iload_n 2, 1) := by decide +kernel
theorem dX11_layDraft_32 : decode cX11_layDraft 32 = .ok (.iadd, 1) := by decide +kernel
theorem dX11_layDraft_33 : decode cX11_layDraft 33 = .ok (.iaload, 1) := by decide +kernel
theorem dX11_layDraft_34 : decode cX11_layDraft 34 = .ok (.iastore, 1) := by decide +kernel
theorem dX11_layDraft_35 : decode cX11_layDraft 35 = .ok (.aload_n 0, 1) := by decide +kernel
theorem dX11_layDraft_36 : decode cX11_layDraft 36 = .ok (.getfield 22, 3) := by decide +kernel
theorem dX11_layDraft_39 : decode cX11_layDraft 39 = .ok (.bipush 60, 2) := by decide +kernel
theorem dX11_layDraft_41 : decode cX11_layDraft 41 = .ok (.iload_n 1, 1) := by decide +kernel
theorem dX11_layDraft_42 : decode cX11_layDraft 42 = .ok (.imul, 1) := by decide +kernel
theorem dX11_layDraft_43 : decode cX11_layDraft 43 = .ok (.iload_n 2, 1) := by decide +kernel
theorem dX11_layDraft_44 : decode cX11_layDraft 44 = .ok (.iadd, 1) := by decide +kernel
theorem dX11_layDraft_45 : decode cX11_layDraft 45 = .ok (.aload_n 0, 1) := by decide +kernel
theorem dX11_layDraft_46 : decode cX11_layDraft 46 = .ok (.getfield 16, 3) := by decide +kernel
theorem dX11_layDraft_49 : decode cX11_layDraft 49 = .ok (.bipush 60, 2) := by decide +kernel
theorem dX11_layDraft_51 : decode cX11_layDraft 51 = .ok (.iload_n 1, 1) := by decide +kernel
theorem dX11_layDraft_52 : decode cX11_layDraft 52 = .ok (.imul, 1) := by decide +kernel
theorem dX11_layDraft_53 : decode cX11_layDraft 53 = .ok (.iload_n 2, 1) := by decide +kernel
theorem dX11_layDraft_54 : decode cX11_layDraft 54 = .ok (.iadd, 1) := by decide +kernel
theorem dX11_layDraft_55 : decode cX11_layDraft 55 = .ok (.iaload, 1) := by decide +kernel
theorem dX11_layDraft_56 : decode cX11_layDraft 56 = .ok (.iastore, 1) := by decide +kernel
theorem dX11_layDraft_57 : decode cX11_layDraft 57 = .ok (.iinc 2 1, 3) := by decide +kernel
theorem dX11_layDraft_60 : decode cX11_layDraft 60 = .ok (.goto (-48), 3) := by decide +kernel
theorem dX11_layDraft_63 : decode cX11_layDraft 63 = .ok (.aload_n 0, 1) := by decide +kernel
theorem dX11_layDraft_64 : decode cX11_layDraft 64 = .ok (.getfield 25, 3) := by decide +kernel
theorem dX11_layDraft_67 : decode cX11_layDraft 67 = .ok (.iload_n 1, 1) := by decide +kernel
theorem dX11_layDraft_68 : decode cX11_layDraft 68 = .ok (.aload_n 0, 1) := by decide +kernel
theorem dX11_layDraft_69 : decode cX11_layDraft 69 = .ok (.getfield 19, 3) := by decide +kernel
theorem dX11_layDraft_72 : decode cX11_layDraft 72 = .ok (.iload_n 1, 1) := by decide +kernel
theorem dX11_layDraft_73 : decode cX11_layDraft 73 = .ok (.iaload, 1) := by decide +kernel
theorem dX11_layDraft_74 : decode cX11_layDraft 74 = .ok (.iastore, 1) := by decide +kernel
theorem dX11_layDraft_75 : decode cX11_layDraft 75 = .ok (.return_, 1) := by decide +kernel
theorem dX11_layBack_0 : decode cX11_layBack 0 = .ok (.iconst 0, 1) := by decide +kernel
theorem dX11_layBack_1 : decode cX11_layBack 1 = .ok (.istore_n 2, 1) := by decide +kernel
theorem dX11_layBack_2 : decode cX11_layBack 2 = .ok (.iload_n 2, 1) := by decide +kernel
theorem dX11_layBack_3 : decode cX11_layBack 3 = .ok (.bipush 60, 2) := by decide +kernel
theorem dX11_layBack_5 : decode cX11_layBack 5 = .ok (.if_icmp .ge 26, 3) := by decide +kernel
theorem dX11_layBack_8 : decode cX11_layBack 8 = .ok (.aload_n 0, 1) := by decide +kernel
theorem dX11_layBack_9 : decode cX11_layBack 9 = .ok (.getfield 22, 3) := by decide +kernel
theorem dX11_layBack_12 : decode cX11_layBack 12 = .ok (.bipush 60, 2) := by decide +kernel
theorem dX11_layBack_14 : decode cX11_layBack 14 = .ok (.iload_n 1, 1) := by decide +kernel
theorem dX11_layBack_15 : decode cX11_layBack 15 = .ok (.imul, 1) := by decide +kernel
theorem dX11_layBack_16 : decode cX11_layBack 16 = .ok (.iload_n 2, 1) := by decide +kernel
theorem dX11_layBack_17 : decode cX11_layBack 17 = .ok (.iadd, 1) := by decide +kernel
theorem dX11_layBack_18 : decode cX11_layBack 18 = .ok (.aload_n 0, 1) := by decide +kernel
theorem dX11_layBack_19 : decode cX11_layBack 19 = .ok (.getfield 28, 3) := by decide +kernel
theorem dX11_layBack_22 : decode cX11_layBack 22 = .ok (.iload_n 2, 1) := by decide +kernel
theorem dX11_layBack_23 : decode cX11_layBack 23 = .ok (.iaload, 1) := by decide +kernel
theorem dX11_layBack_24 : decode cX11_layBack 24 = .ok (.iastore, 1) := by decide +kernel
theorem dX11_layBack_25 : decode cX11_layBack 25 = .ok (.iinc 2 1, 3) := by decide +kernel
theorem dX11_layBack_28 : decode cX11_layBack 28 = .ok (.goto (-26), 3) := by decide +kernel
theorem dX11_layBack_31 : decode cX11_layBack 31 = .ok (.aload_n 0, 1) := by decide +kernel
theorem dX11_layBack_32 : decode cX11_layBack 32 = .ok (.getfield 25, 3) := by decide +kernel
theorem dX11_layBack_35 : decode cX11_layBack 35 = .ok (.iload_n 1, 1) := by decide +kernel
theorem dX11_layBack_36 : decode cX11_layBack 36 = .ok (.aload_n 0, 1) := by decide +kernel
theorem dX11_layBack_37 : decode cX11_layBack 37 = .ok (.getfield 141, 3) := by decide +kernel
theorem dX11_layBack_40 : decode cX11_layBack 40 = .ok (.iastore, 1) := by decide +kernel
theorem dX11_layBack_41 : decode cX11_layBack 41 = .ok (.return_, 1) := by decide +kernel
theorem dX11_hasCircle_0 : decode cX11_hasCircle 0 = .ok (.iconst 0, 1) := by decide +kernel
theorem dX11_hasCircle_1 : decode cX11_hasCircle 1 = .ok (.istore_n 1, 1) := by decide +kernel
theorem dX11_hasCircle_2 : decode cX11_hasCircle 2 = .ok (.iload_n 1, 1) := by decide +kernel
theorem dX11_hasCircle_3 : decode cX11_hasCircle 3 = .ok (.bipush 6, 2) := by decide +kernel
theorem dX11_hasCircle_5 : decode cX11_hasCircle 5 = .ok (.if_icmp .ge 81, 3) := by decide +kernel
theorem dX11_hasCircle_8 : decode cX11_hasCircle 8 = .ok (.aload_n 0, 1) := by decide +kernel
theorem dX11_hasCircle_9 : decode cX11_hasCircle 9 = .ok (.getfield 31, 3) := by decide +kernel
theorem dX11_hasCircle_12 : decode cX11_hasCircle 12 = .ok (.iload_n 1, 1) := by decide +kernel
theorem dX11_hasCircle_13 : decode cX11_hasCircle 13 = .ok (.iconst 0, 1) := by decide +kernel
theorem dX11_hasCircle_14 : decode cX11_hasCircle 14 = .ok (.iastore, 1) := by decide +kernel
theorem dX11_hasCircle_15 : decode cX11_hasCircle 15 = .ok (.iconst 0, 1) := by decide +kernel
theorem dX11_hasCircle_16 : decode cX11_hasCircle 16 = .ok (.istore_n 2, 1) := by decide +kernel
theorem dX11_hasCircle_17 : decode cX11_hasCircle 17 = .ok (.iload_n 2, 1) := by decide +kernel
theorem dX11_hasCircle_18 : decode cX11_hasCircle 18 = .ok (.aload_n 0, 1) := by decide +kernel
theorem dX11_hasCircle_19 : decode cX11_hasCircle 19 = .ok (.getfield 25, 3) := by decide +kernel
theorem dX11_hasCircle_22 : decode cX11_hasCircle 22 = .ok (.iload_n 1, 1) := by decide +kernel
theorem dX11_hasCircle_23 : decode cX11_hasCircle 23 = .ok (.iaload, 1) := by decide +kernel
theorem dX11_hasCircle_24 : decode cX11_hasCircle 24 = .ok (.if_icmp .ge 56, 3) := by decide +kernel
theorem dX11_hasCircle_27 : decode cX11_hasCircle 27 = .ok (.aload_n 0, 1) := by decide +kernel
theorem dX11_hasCircle_28 : decode cX11_hasCircle 28 = .ok (.iload_n 1, 1) := by decide +kernel
theorem dX11_hasCircle_29 : decode cX11_hasCircle 29 = .ok (.iload_n 2, 1) := by decide +kernel
theorem dX11_hasCircle_30 : decode cX11_hasCircle 30 = .ok (.invokevirtual 124, 3) := by decide +kernel
theorem dX11_hasCircle_33 : decode cX11_hasCircle 33 = .ok (.bipush 64, 2) := by decide +kernel
theorem dX11_hasCircle_35 : decode cX11_hasCircle 35 = .ok (.if_icmp .ne 7, 3) := by decide +kernel
theorem dX11_hasCircle_38 : decode cX11_hasCircle 38 = .ok (.iconst 1, 1) := by decide +kernel
theorem dX11_hasCircle_39 : decode cX11_hasCircle 39 = .ok (.goto 4, 3) := by decide +kernel
theorem dX11_hasCircle_42 : decode cX11_hasCircle 42 = .ok (.iconst 0, 1) := by decide +kernel
theorem dX11_hasCircle_43 : decode cX11_hasCircle 43 = .ok (.istore_n 3, 1) := by decide +kernel
theorem dX11_hasCircle_44 : decode cX11_hasCircle 44 = .ok (.aload_n 0, 1) := by decide +kernel
theorem dX11_hasCircle_45 : decode cX11_hasCircle 45 = .ok (.getfield 31, 3) := by decide +kernel
theorem dX11_hasCircle_48 : decode cX11_hasCircle 48 = .ok (.iload_n 1, 1) := by decide +kernel
theorem dX11_hasCircle_49 : decode cX11_hasCircle 49 = .ok (.dup2, 1) := by decide +kernel
theorem dX11_hasCircle_50 : decode cX11_hasCircle 50 = .ok (.iaload, 1) := by decide +kernel
theorem dX11_hasCircle_51 : decode cX11_hasCircle 51 = .ok (.iload_n 3, 1) := by decide +kernel
theorem dX11_hasCircle_52 : decode cX11_hasCircle 52 = .ok (.ifCond .eq 19, 3) := by decide +kernel
theorem dX11_hasCircle_55 : decode cX11_hasCircle 55 = .ok (.iconst 1, 1) := by decide +kernel
theorem dX11_hasCircle_56 : decode cX11_hasCircle 56 = .ok (.aload_n 0, 1) := by decide +kernel
theorem dX11_hasCircle_57 : decode cX11_hasCircle 57 = .ok (.iload_n 1, 1) := by decide +kernel
theorem dX11_hasCircle_58 : decode cX11_hasCircle 58 = .ok (.iload_n 2, 1) := by decide +kernel
theorem dX11_hasCircle_59 : decode cX11_hasCircle 59 = .ok (.iconst 1, 1) := by decide +kernel
theorem dX11_hasCircle_60 : decode cX11_hasCircle 60 = .ok (.iadd, 1) := by decide +kernel
theorem dX11_hasCircle_61 : decode cX11_hasCircle 61 = .ok (.invokevirtual 124, 3) := by decide +kernel
theorem dX11_hasCircle_64 : decode cX11_hasCircle 64 = .ok (.bipush 48, 2) := by decide +kernel
theorem dX11_hasCircle_66 : decode cX11_hasCircle 66 = .ok (.isub, 1) := by decide +kernel
theorem dX11_hasCircle_67 : decode cX11_hasCircle 67 = .ok (.ishl, 1) := by decide +kernel
theorem dX11_hasCircle_68 : decode cX11_hasCircle 68 = .ok (.goto 4, 3) := by decide +kernel
theorem dX11_hasCircle_71 : decode cX11_hasCircle 71 = .ok (.iconst 0, 1) := by decide +kernel
theorem dX11_hasCircle_72 : decode cX11_hasCircle 72 = .ok (.ior, 1) := by decide +kernel
theorem dX11_hasCircle_73 : decode cX11_hasCircle 73 = .ok (.iastore, 1) := by decide +kernel
theorem dX11_hasCircle_74 : decode cX11_hasCircle 74 = .ok (.iinc 2 1, 3) := by decide +kernel
theorem dX11_hasCircle_77 : decode cX11_hasCircle 77 = .ok (.goto (-60), 3) := by decide +kernel
theorem dX11_hasCircle_80 : decode cX11_hasCircle 80 = .ok (.iinc 1 1, 3) := by decide +kernel
theorem dX11_hasCircle_83 : decode cX11_hasCircle 83 = .ok (.goto (-81), 3) := by decide +kernel
theorem dX11_hasCircle_86 : decode cX11_hasCircle 86 = .ok (.iconst 0, 1) := by decide +kernel
theorem dX11_hasCircle_87 : decode cX11_hasCircle 87 = .ok (.istore_n 1, 1) := by decide +kernel
theorem dX11_hasCircle_88 : decode cX11_hasCircle 88 = .ok (.iconst 0, 1) := by decide +kernel
theorem dX11_hasCircle_89 : decode cX11_hasCircle 89 = .ok (.istore_n 2, 1) := by decide +kernel
theorem dX11_hasCircle_90 : decode cX11_hasCircle 90 = .ok (.iload_n 2, 1) := by decide +kernel
theorem dX11_hasCircle_91 : decode cX11_hasCircle 91 = .ok (.bipush 6, 2) := by decide +kernel
theorem dX11_hasCircle_93 : decode cX11_hasCircle 93 = .ok (.if_icmp .ge 56, 3) := by decide +kernel
theorem dX11_hasCircle_96 : decode cX11_hasCircle 96 = .ok (.iconst 0, 1) := by decide +kernel
theorem dX11_hasCircle_97 : decode cX11_hasCircle 97 = .ok (.istore_n 3, 1) := by decide +kernel
theorem dX11_hasCircle_98 : decode cX11_hasCircle 98 = .ok (.iload_n 3, 1) := by decide +kernel
theorem dX11_hasCircle_99 : decode cX11_hasCircle 99 = .ok (.bipush 6, 2) := by decide +kernel
theorem dX11_hasCircle_101 : decode cX11_hasCircle 101 = .ok (.if_icmp .ge 42, 3) := by decide +kernel
theorem dX11_hasCircle_104 : decode cX11_hasCircle 104 = .ok (.aload_n 0, 1) := by decide +kernel
theorem dX11_hasCircle_105 : decode cX11_hasCircle 105 = .ok (.getfield 31, 3) := by decide +kernel
theorem dX11_hasCircle_108 : decode cX11_hasCircle 108 = .ok (.iload_n 3, 1) := by decide +kernel
theorem dX11_hasCircle_109 : decode cX11_hasCircle 109 = .ok (.dup2, 1) := by decide +kernel
theorem dX11_hasCircle_110 : decode cX11_hasCircle 110 = .ok (.iaload, 1) := by decide +kernel
theorem dX11_hasCircle_111 : decode cX11_hasCircle 111 = .ok (.aload_n 0, 1) := by decide +kernel
theorem dX11_hasCircle_112 : decode cX11_hasCircle 112 = .ok (.getfield 31, 3) := by decide +kernel
theorem dX11_hasCircle_115 : decode cX11_hasCircle 115 = .ok (.iload_n 3, 1) := by decide +kernel
theorem dX11_hasCircle_116 : decode cX11_hasCircle 116 = .ok (.iaload, 1) := by decide +kernel
theorem dX11_hasCircle_117 : decode cX11_hasCircle 117 = .ok (.iload_n 2, 1) := by decide +kernel
theorem dX11_hasCircle_118 : decode cX11_hasCircle 118 = .ok (.ishr, 1) := by decide +kernel
theorem dX11_hasCircle_119 : decode cX11_hasCircle 119 = .ok (.iconst 1, 1) := by decide +kernel
theorem dX11_hasCircle_120 : decode cX11_hasCircle 120 = .ok (.iand, 1) := by decide +kernel
theorem dX11_hasCircle_121 : decode cX11_hasCircle 121 = .ok (.iconst 1, 1) := by decide +kernel
theorem dX11_hasCircle_122 : decode cX11_hasCircle 122 = .ok (.if_icmp .ne 12, 3) := by decide +kernel
theorem dX11_hasCircle_125 : decode cX11_hasCircle 125 = .ok (.aload_n 0, 1) := by decide +kernel
theorem dX11_hasCircle_126 : decode cX11_hasCircle 126 = .ok (.getfield 31, 3) := by decide +kernel
theorem dX11_hasCircle_129 : decode cX11_hasCircle 129 = .ok (.iload_n 2, 1) := by decide +kernel
theorem dX11_hasCircle_130 : decode cX11_hasCircle 130 = .ok (.iaload, 1) := by decide +kernel
theorem dX11_hasCircle_131 : decode cX11_hasCircle 131 = .ok (.goto 4, 3) := by decide +kernel
theorem dX11_hasCircle_134 : decode cX11_hasCircle 134 = .ok (.iconst 0, 1) := by decide +kernel
theorem dX11_hasCircle_135 : decode cX11_hasCircle 135 = .ok (.ior, 1) := by decide +kernel
theorem dX11_hasCircle_136 : decode cX11_hasCircle 136 = .ok (.iastore, 1) := by decide +kernel
theorem dX11_hasCircle_137 : decode cX11_hasCircle 137 = .ok (.iinc 3 1, 3) := by decide +kernel
theorem dX11_hasCircle_140 : decode cX11_hasCircle 140 = .ok (.goto (-42), 3) := by decide +kernel
theorem dX11_hasCircle_143 : decode cX11_hasCircle 143 = .ok (.iinc 2 1, 3) := by decide +kernel
theorem dX11_hasCircle_146 : decode cX11_hasCircle 146 = .ok (.goto (-56), 3) := by decide +kernel
theorem dX11_hasCircle_149 : decode cX11_hasCircle 149 = .ok (.iconst 0, 1) := by decide +kernel
theorem dX11_hasCircle_150 : decode cX11_hasCircle 150 = .ok (.istore_n 2, 1) := by decide +kernel
theorem dX11_hasCircle_151 : decode cX11_hasCircle 151 = .ok (.iload_n 2, 1) := by decide +kernel
theorem dX11_hasCircle_152 : decode cX11_hasCircle 152 = .ok (.bipush 6, 2) := by decide +kernel
theorem dX11_hasCircle_154 : decode cX11_hasCircle 154 = .ok (.if_icmp .ge 33, 3) := by decide +kernel
theorem dX11_hasCircle_157 : decode cX11_hasCircle 157 = .ok (.iload_n 1, 1) := by decide +kernel
theorem dX11_hasCircle_158 : decode cX11_hasCircle 158 = .ok (.ifCond .ne 17, 3) := by decide +kernel
theorem dX11_hasCircle_161 : decode cX11_hasCircle 161 = .ok (.aload_n 0, 1) := by decide +kernel
theorem dX11_hasCircle_162 : decode cX11_hasCircle 162 = .ok (.getfield 31, 3) := by decide +kernel
theorem dX11_hasCircle_165 : decode cX11_hasCircle 165 = .ok (.iload_n 2, 1) := by decide +kernel
theorem dX11_hasCircle_166 : decode cX11_hasCircle 166 = .ok (.iaload, 1) := by decide +kernel
theorem dX11_hasCircle_167 : decode cX11_hasCircle 167 = .ok (.iload_n 2, 1) := by decide +kernel
theorem dX11_hasCircle_168 : decode cX11_hasCircle 168 = .ok (.ishr, 1) := by decide +kernel
theorem dX11_hasCircle_169 : decode cX11_hasCircle 169 = .ok (.iconst 1, 1) := by decide +kernel
theorem dX11_hasCircle_170 : decode cX11_hasCircle 170 = .ok (.iand, 1) := by decide +kernel
theorem dX11_hasCircle_171 : decode cX11_hasCircle 171 = .ok (.iconst 1, 1) := by decide +kernel
theorem dX11_hasCircle_172 : decode cX11_hasCircle 172 = .ok (.if_icmp .ne 7, 3) := by decide +kernel
theorem dX11_hasCircle_175 : decode cX11_hasCircle 175 = .ok (.iconst 1, 1) := by decide +kernel
theorem dX11_hasCircle_176 : decode cX11_hasCircle 176 = .ok (.goto 4, 3) := by decide +kernel
theorem dX11_hasCircle_179 : decode cX11_hasCircle 179 = .ok (.iconst 0, 1) := by decide +kernel
theorem dX11_hasCircle_180 : decode cX11_hasCircle 180 = .ok (.istore_n 1, 1) := by decide +kernel
theorem dX11_hasCircle_181 : decode cX11_hasCircle 181 = .ok (.iinc 2 1, 3) := by decide +kernel
theorem dX11_hasCircle_184 : decode cX11_hasCircle 184 = .ok (.goto (-33), 3) := by decide +kernel
theorem dX11_hasCircle_187 : decode cX11_hasCircle 187 = .ok (.iload_n 1, 1) := by decide +kernel
theorem dX11_hasCircle_188 : decode cX11_hasCircle 188 = .ok (.ireturn, 1) := by decide +kernel
theorem dX11_canLay_0 : decode cX11_canLay 0 = .ok (.iload_n 1, 1) := by decide +kernel
theorem dX11_canLay_1 : decode cX11_canLay 1 = .ok (.invokestatic 110, 3) := by decide +kernel
theorem dX11_canLay_4 : decode cX11_canLay 4 = .ok (.ifCond .eq 12, 3) := by decide +kernel
theorem dX11_canLay_7 : decode cX11_canLay 7 = .ok (.aload_n 0, 1) := by decide +kernel
theorem dX11_canLay_8 : decode cX11_canLay 8 = .ok (.iload_n 1, 1) := by decide +kernel
theorem dX11_canLay_9 : decode cX11_canLay 9 = .ok (.invokevirtual 120, 3) := by decide +kernel
theorem dX11_canLay_12 : decode cX11_canLay 12 = .ok (.iconst (-1), 1) := by decide +kernel
theorem dX11_canLay_13 : decode cX11_canLay 13 = .ok (.if_icmp .eq 5, 3) := by decide +kernel
theorem dX11_canLay_16 : decode cX11_canLay 16 = .ok (.iconst 0, 1) := by decide +kernel
theorem dX11_canLay_17 : decode cX11_canLay 17 = .ok (.ireturn, 1) := by decide +kernel
theorem dX11_canLay_18 : decode cX11_canLay 18 = .ok (.aload_n 0, 1) := by decide +kernel
theorem dX11_canLay_19 : decode cX11_canLay 19 = .ok (.iload_n 1, 1) := by decide +kernel
theorem dX11_canLay_20 : decode cX11_canLay 20 = .ok (.invokevirtual 144, 3) := by decide +kernel
theorem dX11_canLay_23 : decode cX11_canLay 23 = .ok (.aload_n 0, 1) := by decide +kernel
theorem dX11_canLay_24 : decode cX11_canLay 24 = .ok (.invokevirtual 148, 3) := by decide +kernel
theorem dX11_canLay_27 : decode cX11_canLay 27 = .ok (.ifCond .ne 7, 3) := by decide +kernel
theorem dX11_canLay_30 : decode cX11_canLay 30 = .ok (.iconst 1, 1) := by decide +kernel
theorem dX11_canLay_31 : decode cX11_canLay 31 = .ok (.goto 4, 3) := by decide +kernel
theorem dX11_canLay_34 : decode cX11_canLay 34 = .ok (.iconst 0, 1) := by decide +kernel
theorem dX11_canLay_35 : decode cX11_canLay 35 = .ok (.istore_n 2, 1) := by decide +kernel
theorem dX11_canLay_36 : decode cX11_canLay 36 = .ok (.iload_n 2, 1) := by decide +kernel
theorem dX11_canLay_37 : decode cX11_canLay 37 = .ok (.ifCond .ne 8, 3) := by decide +kernel
theorem dX11_canLay_40 : decode cX11_canLay 40 = .ok (.aload_n 0, 1) := by decide +kernel
theorem dX11_canLay_41 : decode cX11_canLay 41 = .ok (.iload_n 1, 1) := by decide +kernel
theorem dX11_canLay_42 : decode cX11_canLay 42 = .ok (.invokevirtual 152, 3) := by decide +kernel
theorem dX11_canLay_45 : decode cX11_canLay 45 = .ok (.iload_n 2, 1) := by decide +kernel
theorem dX11_canLay_46 : decode cX11_canLay 46 = .ok (.ireturn, 1) := by decide +kernel
theorem dX11_set_0 : decode cX11_set 0 = .ok (.aload_n 0, 1) := by decide +kernel
theorem dX11_set_1 : decode cX11_set 1 = .ok (.invokevirtual 155, 3) := by decide +kernel
theorem dX11_set_4 : decode cX11_set 4 = .ok (.iload_n 1, 1) := by decide +kernel
theorem dX11_set_5 : decode cX11_set 5 = .ok (.invokestatic 110, 3) := by decide +kernel
theorem dX11_set_8 : decode cX11_set 8 = .ok (.ifCond .eq 12, 3) := by decide +kernel
theorem dX11_set_11 : decode cX11_set 11 = .ok (.aload_n 0, 1) := by decide +kernel
theorem dX11_set_12 : decode cX11_set 12 = .ok (.getfield 34, 3) := by decide +kernel
theorem dX11_set_15 : decode cX11_set 15 = .ok (.iload_n 1, 1) := by decide +kernel
theorem dX11_set_16 : decode cX11_set 16 = .ok (.iaload, 1) := by decide +kernel
theorem dX11_set_17 : decode cX11_set 17 = .ok (.goto 4, 3) := by decide +kernel
theorem dX11_set_20 : decode cX11_set 20 = .ok (.iconst 0, 1) := by decide +kernel
theorem dX11_set_21 : decode cX11_set 21 = .ok (.istore_n 2, 1) := by decide +kernel
theorem dX11_set_22 : decode cX11_set 22 = .ok (.aload_n 0, 1) := by decide +kernel
theorem dX11_set_23 : decode cX11_set 23 = .ok (.iload_n 1, 1) := by decide +kernel
theorem dX11_set_24 : decode cX11_set 24 = .ok (.invokestatic 110, 3) := by decide +kernel
theorem dX11_set_27 : decode cX11_set 27 = .ok (.ifCond .ne 7, 3) := by decide +kernel
theorem dX11_set_30 : decode cX11_set 30 = .ok (.iconst 1, 1) := by decide +kernel
theorem dX11_set_31 : decode cX11_set 31 = .ok (.goto 16, 3) := by decide +kernel
theorem dX11_set_34 : decode cX11_set 34 = .ok (.aload_n 0, 1) := by decide +kernel
theorem dX11_set_35 : decode cX11_set 35 = .ok (.iload_n 1, 1) := by decide +kernel
theorem dX11_set_36 : decode cX11_set 36 = .ok (.invokevirtual 158, 3) := by decide +kernel
theorem dX11_set_39 : decode cX11_set 39 = .ok (.ifCond .eq 7, 3) := by decide +kernel
theorem dX11_set_42 : decode cX11_set 42 = .ok (.iconst 0, 1) := by decide +kernel
theorem dX11_set_43 : decode cX11_set 43 = .ok (.goto 4, 3) := by decide +kernel
theorem dX11_set_46 : decode cX11_set 46 = .ok (.iconst 2, 1) := by decide +kernel
theorem dX11_set_47 : decode cX11_set 47 = .ok (.invokevirtual 107, 3) := by decide +kernel
theorem dX11_set_50 : decode cX11_set 50 = .ok (.ifCond .ne 5, 3) := by decide +kernel
theorem dX11_set_53 : decode cX11_set 53 = .ok (.iconst 0, 1) := by decide +kernel
theorem dX11_set_54 : decode cX11_set 54 = .ok (.ireturn, 1) := by decide +kernel
theorem dX11_set_55 : decode cX11_set 55 = .ok (.aload_n 0, 1) := by decide +kernel
theorem dX11_set_56 : decode cX11_set 56 = .ok (.invokevirtual 155, 3) := by decide +kernel
theorem dX11_set_59 : decode cX11_set 59 = .ok (.iload_n 2, 1) := by decide +kernel
theorem dX11_set_60 : decode cX11_set 60 = .ok (.aload_n 0, 1) := by decide +kernel
theorem dX11_set_61 : decode cX11_set 61 = .ok (.getfield 34, 3) := by decide +kernel
theorem dX11_set_64 : decode cX11_set 64 = .ok (.iload_n 1, 1) := by decide +kernel
theorem dX11_set_65 : decode cX11_set 65 = .ok (.iaload, 1) := by decide +kernel
theorem dX11_set_66 : decode cX11_set 66 = .ok (.ixor, 1) := by decide +kernel
theorem dX11_set_67 : decode cX11_set 67 = .ok (.invokestatic 161, 3) := by decide +kernel
theorem dX11_set_70 : decode cX11_set 70 = .ok (.ireturn, 1) := by decide +kernel
theorem dX11_wouldMove_0 : decode cX11_wouldMove 0 = .ok (.aload_n 0, 1) := by decide +kernel
theorem dX11_wouldMove_1 : decode cX11_wouldMove 1 = .ok (.invokevirtual 164, 3) := by decide +kernel
theorem dX11_wouldMove_4 : decode cX11_wouldMove 4 = .ok (.iconst 0, 1) := by decide +kernel
theorem dX11_wouldMove_5 : decode cX11_wouldMove 5 = .ok (.istore_n 2, 1) := by decide +kernel
theorem dX11_wouldMove_6 : decode cX11_wouldMove 6 = .ok (.iload_n 2, 1) := by decide +kernel
theorem dX11_wouldMove_7 : decode cX11_wouldMove 7 = .ok (.sipush 160, 3) := by decide +kernel
theorem dX11_wouldMove_10 : decode cX11_wouldMove 10 = .ok (.if_icmp .ge 21, 3) := by decide +kernel
theorem dX11_wouldMove_13 : decode cX11_wouldMove 13 = .ok (.aload_n 0, 1) := by decide +kernel
theorem dX11_wouldMove_14 : decode cX11_wouldMove 14 = .ok (.getfield 65, 3) := by decide +kernel
theorem dX11_wouldMove_17 : decode cX11_wouldMove 17 = .ok (.iload_n 2, 1) := by decide +kernel
theorem dX11_wouldMove_18 : decode cX11_wouldMove 18 = .ok (.aload_n 0, 1) := by decide +kernel
theorem dX11_wouldMove_19 : decode cX11_wouldMove 19 = .ok (.getfield 62, 3) := by decide +kernel
theorem dX11_wouldMove_22 : decode cX11_wouldMove 22 = .ok (.iload_n 2, 1) := by decide +kernel
theorem dX11_wouldMove_23 : decode cX11_wouldMove 23 = .ok (.iaload, 1) := by decide +kernel
theorem dX11_wouldMove_24 : decode cX11_wouldMove 24 = .ok (.iastore, 1) := by decide +kernel
theorem dX11_wouldMove_25 : decode cX11_wouldMove 25 = .ok (.iinc 2 1, 3) := by decide +kernel
theorem dX11_wouldMove_28 : decode cX11_wouldMove 28 = .ok (.goto (-22), 3) := by decide +kernel
theorem dX11_wouldMove_31 : decode cX11_wouldMove 31 = .ok (.aload_n 0, 1) := by decide +kernel
theorem dX11_wouldMove_32 : decode cX11_wouldMove 32 = .ok (.iload_n 1, 1) := by decide +kernel
theorem dX11_wouldMove_33 : decode cX11_wouldMove 33 = .ok (.invokestatic 110, 3) := by decide +kernel
theorem dX11_wouldMove_36 : decode cX11_wouldMove 36 = .ok (.ifCond .ne 7, 3) := by decide +kernel
theorem dX11_wouldMove_39 : decode cX11_wouldMove 39 = .ok (.iconst 1, 1) := by decide +kernel
theorem dX11_wouldMove_40 : decode cX11_wouldMove 40 = .ok (.goto 16, 3) := by decide +kernel
theorem dX11_wouldMove_43 : decode cX11_wouldMove 43 = .ok (.aload_n 0, 1) := by decide +kernel
theorem dX11_wouldMove_44 : decode cX11_wouldMove 44 = .ok (.iload_n 1, 1) := by decide +kernel
theorem dX11_wouldMove_45 : decode cX11_wouldMove 45 = .ok (.invokevirtual 158, 3) := by decide +kernel
theorem dX11_wouldMove_48 : decode cX11_wouldMove 48 = .ok (.ifCond .eq 7, 3) := by decide +kernel
theorem dX11_wouldMove_51 : decode cX11_wouldMove 51 = .ok (.iconst 0, 1) := by decide +kernel
theorem dX11_wouldMove_52 : decode cX11_wouldMove 52 = .ok (.goto 4, 3) := by decide +kernel
theorem dX11_wouldMove_55 : decode cX11_wouldMove 55 = .ok (.iconst 2, 1) := by decide +kernel
theorem dX11_wouldMove_56 : decode cX11_wouldMove 56 = .ok (.invokevirtual 107, 3) := by decide +kernel
theorem dX11_wouldMove_59 : decode cX11_wouldMove 59 = .ok (.ifCond .ne 5, 3) := by decide +kernel
theorem dX11_wouldMove_62 : decode cX11_wouldMove 62 = .ok (.iconst 0, 1) := by decide +kernel
theorem dX11_wouldMove_63 : decode cX11_wouldMove 63 = .ok (.ireturn, 1) := by decide +kernel
theorem dX11_wouldMove_64 : decode cX11_wouldMove 64 = .ok (.aload_n 0, 1) := by decide +kernel
theorem dX11_wouldMove_65 : decode cX11_wouldMove 65 = .ok (.invokevirtual 164, 3) := by decide +kernel
theorem dX11_wouldMove_68 : decode cX11_wouldMove 68 = .ok (.aload_n 0, 1) := by decide +kernel
theorem dX11_wouldMove_69 : decode cX11_wouldMove 69 = .ok (.iload_n 1, 1) := by decide +kernel
theorem dX11_wouldMove_70 : decode cX11_wouldMove 70 = .ok (.invokevirtual 152, 3) := by decide +kernel
theorem dX11_wouldMove_73 : decode cX11_wouldMove 73 = .ok (.iconst 0, 1) := by decide +kernel
theorem dX11_wouldMove_74 : decode cX11_wouldMove 74 = .ok (.istore_n 2, 1) := by decide +kernel
theorem dX11_wouldMove_75 : decode cX11_wouldMove 75 = .ok (.iconst 0, 1) := by decide +kernel
theorem dX11_wouldMove_76 : decode cX11_wouldMove 76 = .ok (.istore_n 3, 1) := by decide +kernel
theorem dX11_wouldMove_77 : decode cX11_wouldMove 77 = .ok (.iload_n 3, 1) := by decide +kernel
theorem dX11_wouldMove_78 : decode cX11_wouldMove 78 = .ok (.bipush 20, 2) := by decide +kernel
theorem dX11_wouldMove_80 : decode cX11_wouldMove 80 = .ok (.if_icmp .ge 80, 3) := by decide +kernel
theorem dX11_wouldMove_83 : decode cX11_wouldMove 83 = .ok (.iconst 0, 1) := by decide +kernel
theorem dX11_wouldMove_84 : decode cX11_wouldMove 84 = .ok (.istore 4, 2) := by decide +kernel
theorem dX11_wouldMove_86 : decode cX11_wouldMove 86 = .ok (.iconst 0, 1) := by decide +kernel
theorem dX11_wouldMove_87 : decode cX11_wouldMove 87 = .ok (.istore 5, 2) := by decide +kernel
theorem dX11_wouldMove_89 : decode cX11_wouldMove 89 = .ok (.iload 5, 2) := by decide +kernel
theorem dX11_wouldMove_91 : decode cX11_wouldMove 91 = .ok (.bipush 8, 2) := by decide +kernel
theorem dX11_wouldMove_93 : decode cX11_wouldMove 93 = .ok (.if_icmp .ge 48, 3) := by decide +kernel
theorem dX11_wouldMove_96 : decode cX11_wouldMove 96 = .ok (.iload 4, 2) := by decide +kernel
theorem dX11_wouldMove_98 : decode cX11_wouldMove 98 = .ok (.ifCond .ne 30, 3) := by decide +kernel
theorem dX11_wouldMove_101 : decode cX11_wouldMove 101 = .ok (.aload_n 0, 1) := by decide +kernel
theorem dX11_wouldMove_102 : decode cX11_wouldMove 102 = .ok (.getfield 62, 3) := by decide +kernel
theorem dX11_wouldMove_105 : decode cX11_wouldMove 105 = .ok (.bipush 8, 2) := by decide +kernel
theorem dX11_wouldMove_107 : decode cX11_wouldMove 107 = .ok (.iload_n 3, 1) := by decide +kernel
theorem dX11_wouldMove_108 : decode cX11_wouldMove 108 = .ok (.imul, 1) := by decide +kernel
theorem dX11_wouldMove_109 : decode cX11_wouldMove 109 = .ok (.iload 5, 2) := by decide +kernel
theorem dX11_wouldMove_111 : decode cX11_wouldMove 111 = .ok (.iadd, 1) := by decide +kernel
theorem dX11_wouldMove_112 : decode cX11_wouldMove 112 = .ok (.iaload, 1) := by decide +kernel
theorem dX11_wouldMove_113 : decode cX11_wouldMove 113 = .ok (.aload_n 0, 1) := by decide +kernel
theorem dX11_wouldMove_114 : decode cX11_wouldMove 114 = .ok (.getfield 65, 3) := by decide +kernel
theorem dX11_wouldMove_117 : decode cX11_wouldMove 117 = .ok (.bipush 8, 2) := by decide +kernel
theorem dX11_wouldMove_119 : decode cX11_wouldMove 119 = .ok (.iload_n 3, 1) := by decide +kernel
theorem dX11_wouldMove_120 : decode cX11_wouldMove 120 = .ok (.imul, 1) := by decide +kernel
theorem dX11_wouldMove_121 : decode cX11_wouldMove 121 = .ok (.iload 5, 2) := by decide +kernel
theorem dX11_wouldMove_123 : decode cX11_wouldMove 123 = .ok (.iadd, 1) := by decide +kernel
theorem dX11_wouldMove_124 : decode cX11_wouldMove 124 = .ok (.iaload, 1) := by decide +kernel
theorem dX11_wouldMove_125 : decode cX11_wouldMove 125 = .ok (.if_icmp .eq 7, 3) := by decide +kernel
theorem dX11_wouldMove_128 : decode cX11_wouldMove 128 = .ok (.iconst 1, 1) := by decide +kernel
theorem dX11_wouldMove_129 : decode cX11_wouldMove 129 = .ok (.goto 4, 3) := by decide +kernel
theorem dX11_wouldMove_132 : decode cX11_wouldMove 132 = .ok (.iconst 0, 1) := by decide +kernel
theorem dX11_wouldMove_133 : decode cX11_wouldMove 133 = .ok (.istore 4, 2) := by decide +kernel
theorem dX11_wouldMove_135 : decode cX11_wouldMove 135 = .ok (.iinc 5 1, 3) := by decide +kernel
theorem dX11_wouldMove_138 : decode cX11_wouldMove 138 = .ok (.goto (-49), 3) := by decide +kernel
theorem dX11_wouldMove_141 : decode cX11_wouldMove 141 = .ok (.iload_n 2, 1) := by decide +kernel
theorem dX11_wouldMove_142 : decode cX11_wouldMove 142 = .ok (.iload 4, 2) := by decide +kernel
theorem dX11_wouldMove_144 : decode cX11_wouldMove 144 = .ok (.ifCond .eq 7, 3) := by decide +kernel
theorem dX11_wouldMove_147 : decode cX11_wouldMove 147 = .ok (.iconst 1, 1) := by decide +kernel
theorem dX11_wouldMove_148 : decode cX11_wouldMove 148 = .ok (.goto 4, 3) := by decide +kernel
theorem dX11_wouldMove_151 : decode cX11_wouldMove 151 = .ok (.iconst 0, 1) := by decide +kernel
theorem dX11_wouldMove_152 : decode cX11_wouldMove 152 = .ok (.iadd, 1) := by decide +kernel
theorem dX11_wouldMove_153 : decode cX11_wouldMove 153 = .ok (.istore_n 2, 1) := by decide +kernel
theorem dX11_wouldMove_154 : decode cX11_wouldMove 154 = .ok (.iinc 3 1, 3) := by decide +kernel
theorem dX11_wouldMove_157 : decode cX11_wouldMove 157 = .ok (.goto (-80), 3) := by decide +kernel
theorem dX11_wouldMove_160 : decode cX11_wouldMove 160 = .ok (.iload_n 2, 1) := by decide +kernel
theorem dX11_wouldMove_161 : decode cX11_wouldMove 161 = .ok (.ireturn, 1) := by decide +kernel
theorem dX11_isIn_0 : decode cX11_isIn 0 = .ok (.aload_n 0, 1) := by decide +kernel
theorem dX11_isIn_1 : decode cX11_isIn 1 = .ok (.iload_n 1, 1) := by decide +kernel
theorem dX11_isIn_2 : decode cX11_isIn 2 = .ok (.invokestatic 110, 3) := by decide +kernel
theorem dX11_isIn_5 : decode cX11_isIn 5 = .ok (.ifCond .eq 14, 3) := by decide +kernel
theorem dX11_isIn_8 : decode cX11_isIn 8 = .ok (.iload_n 2, 1) := by decide +kernel
theorem dX11_isIn_9 : decode cX11_isIn 9 = .ok (.invokestatic 103, 3) := by decide +kernel
theorem dX11_isIn_12 : decode cX11_isIn 12 = .ok (.ifCond .eq 7, 3) := by decide +kernel
theorem dX11_isIn_15 : decode cX11_isIn 15 = .ok (.iconst 0, 1) := by decide +kernel
theorem dX11_isIn_16 : decode cX11_isIn 16 = .ok (.goto 4, 3) := by decide +kernel
theorem dX11_isIn_19 : decode cX11_isIn 19 = .ok (.iconst 1, 1) := by decide +kernel
theorem dX11_isIn_20 : decode cX11_isIn 20 = .ok (.invokevirtual 107, 3) := by decide +kernel
theorem dX11_isIn_23 : decode cX11_isIn 23 = .ok (.ifCond .ne 5, 3) := by decide +kernel
theorem dX11_isIn_26 : decode cX11_isIn 26 = .ok (.iconst 0, 1) := by decide +kernel
theorem dX11_isIn_27 : decode cX11_isIn 27 = .ok (.ireturn, 1) := by decide +kernel
theorem dX11_isIn_28 : decode cX11_isIn 28 = .ok (.aload_n 0, 1) := by decide +kernel
theorem dX11_isIn_29 : decode cX11_isIn 29 = .ok (.invokevirtual 155, 3) := by decide +kernel
theorem dX11_isIn_32 : decode cX11_isIn 32 = .ok (.aload_n 0, 1) := by decide +kernel
theorem dX11_isIn_33 : decode cX11_isIn 33 = .ok (.getfield 34, 3) := by decide +kernel
theorem dX11_isIn_36 : decode cX11_isIn 36 = .ok (.iload_n 1, 1) := by decide +kernel
theorem dX11_isIn_37 : decode cX11_isIn 37 = .ok (.iaload, 1) := by decide +kernel
theorem dX11_isIn_38 : decode cX11_isIn 38 = .ok (.iload_n 2, 1) := by decide +kernel
theorem dX11_isIn_39 : decode cX11_isIn 39 = .ok (.ishr, 1) := by decide +kernel
theorem dX11_isIn_40 : decode cX11_isIn 40 = .ok (.iconst 1, 1) := by decide +kernel
theorem dX11_isIn_41 : decode cX11_isIn 41 = .ok (.iand, 1) := by decide +kernel
theorem dX11_isIn_42 : decode cX11_isIn 42 = .ok (.iconst 1, 1) := by decide +kernel
theorem dX11_isIn_43 : decode cX11_isIn 43 = .ok (.if_icmp .ne 7, 3) := by decide +kernel
theorem dX11_isIn_46 : decode cX11_isIn 46 = .ok (.iconst 1, 1) := by decide +kernel
theorem dX11_isIn_47 : decode cX11_isIn 47 = .ok (.goto 4, 3) := by decide +kernel
theorem dX11_isIn_50 : decode cX11_isIn 50 = .ok (.iconst 0, 1) := by decide +kernel
theorem dX11_isIn_51 : decode cX11_isIn 51 = .ok (.ireturn, 1) := by decide +kernel
theorem dX11_addRule_0 : decode cX11_addRule 0 = .ok (.iload_n 1, 1) := by decide +kernel
theorem dX11_addRule_1 : decode cX11_addRule 1 = .ok (.invokestatic 167, 3) := by decide +kernel
theorem dX11_addRule_4 : decode cX11_addRule 4 = .ok (.ifCond .eq 25, 3) := by decide +kernel
theorem dX11_addRule_7 : decode cX11_addRule 7 = .ok (.iload_n 3, 1) := by decide +kernel
theorem dX11_addRule_8 : decode cX11_addRule 8 = .ok (.invokestatic 110, 3) := by decide +kernel
theorem dX11_addRule_11 : decode cX11_addRule 11 = .ok (.ifCond .eq 18, 3) := by decide +kernel
theorem dX11_addRule_14 : decode cX11_addRule 14 = .ok (.iload 4, 2) := by decide +kernel
theorem dX11_addRule_16 : decode cX11_addRule 16 = .ok (.iconst 0, 1) := by decide +kernel
theorem dX11_addRule_17 : decode cX11_addRule 17 = .ok (.bipush 9, 2) := by decide +kernel
theorem dX11_addRule_19 : decode cX11_addRule 19 = .ok (.invokestatic 99, 3) := by decide +kernel
theorem dX11_addRule_22 : decode cX11_addRule 22 = .ok (.ifCond .eq 7, 3) := by decide +kernel
theorem dX11_addRule_25 : decode cX11_addRule 25 = .ok (.iconst 1, 1) := by decide +kernel
theorem dX11_addRule_26 : decode cX11_addRule 26 = .ok (.goto 4, 3) := by decide +kernel
theorem dX11_addRule_29 : decode cX11_addRule 29 = .ok (.iconst 0, 1) := by decide +kernel
theorem dX11_addRule_30 : decode cX11_addRule 30 = .ok (.istore 5, 2) := by decide +kernel
theorem dX11_addRule_32 : decode cX11_addRule 32 = .ok (.iload 5, 2) := by decide +kernel
theorem dX11_addRule_34 : decode cX11_addRule 34 = .ok (.ifCond .eq 21, 3) := by decide +kernel
theorem dX11_addRule_37 : decode cX11_addRule 37 = .ok (.iload_n 2, 1) := by decide +kernel
theorem dX11_addRule_38 : decode cX11_addRule 38 = .ok (.iconst 0, 1) := by decide +kernel
theorem dX11_addRule_39 : decode cX11_addRule 39 = .ok (.aload_n 0, 1) := by decide +kernel
theorem dX11_addRule_40 : decode cX11_addRule 40 = .ok (.getfield 50, 3) := by decide +kernel
theorem dX11_addRule_43 : decode cX11_addRule 43 = .ok (.iload_n 1, 1) := by decide +kernel
theorem dX11_addRule_44 : decode cX11_addRule 44 = .ok (.iaload, 1) := by decide +kernel
theorem dX11_addRule_45 : decode cX11_addRule 45 = .ok (.invokestatic 99, 3) := by decide +kernel
theorem dX11_addRule_48 : decode cX11_addRule 48 = .ok (.ifCond .eq 7, 3) := by decide +kernel
theorem dX11_addRule_51 : decode cX11_addRule 51 = .ok (.iconst 1, 1) := by decide +kernel
theorem dX11_addRule_52 : decode cX11_addRule 52 = .ok (.goto 4, 3) := by decide +kernel
theorem dX11_addRule_55 : decode cX11_addRule 55 = .ok (.iconst 0, 1) := by decide +kernel
theorem dX11_addRule_56 : decode cX11_addRule 56 = .ok (.istore 6, 2) := by decide +kernel
theorem dX11_addRule_58 : decode cX11_addRule 58 = .ok (.aload_n 0, 1) := by decide +kernel
theorem dX11_addRule_59 : decode cX11_addRule 59 = .ok (.iload 5, 2) := by decide +kernel
theorem dX11_addRule_61 : decode cX11_addRule 61 = .ok (.ifCond .ne 7, 3) := by decide +kernel
theorem dX11_addRule_64 : decode cX11_addRule 64 = .ok (.iconst 1, 1) := by decide +kernel
theorem dX11_addRule_65 : decode cX11_addRule 65 = .ok (.goto 27, 3) := by decide +kernel
theorem dX11_addRule_68 : decode cX11_addRule 68 = .ok (.iload 6, 2) := by decide +kernel
theorem dX11_addRule_70 : decode cX11_addRule 70 = .ok (.ifCond .ne 7, 3) := by decide +kernel
theorem dX11_addRule_73 : decode cX11_addRule 73 = .ok (.iconst 2, 1) := by decide +kernel
theorem dX11_addRule_74 : decode cX11_addRule 74 = .ok (.goto 18, 3) := by decide +kernel
theorem dX11_addRule_77 : decode cX11_addRule 77 = .ok (.aload_n 0, 1) := by decide +kernel
theorem dX11_addRule_78 : decode cX11_addRule 78 = .ok (.getfield 50, 3) := by decide +kernel
theorem dX11_addRule_81 : decode cX11_addRule 81 = .ok (.iload_n 1, 1) := by decide +kernel
theorem dX11_addRule_82 : decode cX11_addRule 82 = .ok (.iaload, 1) := by decide +kernel
theorem dX11_addRule_83 : decode cX11_addRule 83 = .ok (.iconst 5, 1) := by decide +kernel
theorem dX11_addRule_84 : decode cX11_addRule 84 = .ok (.if_icmp .ne 7, 3) := by decide +kernel
theorem dX11_addRule_87 : decode cX11_addRule 87 = .ok (.iconst 3, 1) := by decide +kernel
theorem dX11_addRule_88 : decode cX11_addRule 88 = .ok (.goto 4, 3) := by decide +kernel
theorem dX11_addRule_91 : decode cX11_addRule 91 = .ok (.iconst 0, 1) := by decide +kernel
theorem dX11_addRule_92 : decode cX11_addRule 92 = .ok (.invokevirtual 107, 3) := by decide +kernel
theorem dX11_addRule_95 : decode cX11_addRule 95 = .ok (.ifCond .ne 5, 3) := by decide +kernel
theorem dX11_addRule_98 : decode cX11_addRule 98 = .ok (.iconst 0, 1) := by decide +kernel
theorem dX11_addRule_99 : decode cX11_addRule 99 = .ok (.ireturn, 1) := by decide +kernel
theorem dX11_addRule_100 : decode cX11_addRule 100 = .ok (.aload_n 0, 1) := by decide +kernel
theorem dX11_addRule_101 : decode cX11_addRule 101 = .ok (.getfield 50, 3) := by decide +kernel
theorem dX11_addRule_104 : decode cX11_addRule 104 = .ok (.iload_n 1, 1) := by decide +kernel
theorem dX11_addRule_105 : decode cX11_addRule 105 = .ok (.iaload, 1) := by decide +kernel
theorem dX11_addRule_106 : decode cX11_addRule 106 = .ok (.istore 7, 2) := by decide +kernel
theorem dX11_addRule_108 : decode cX11_addRule 108 = .ok (.iload 7, 2) := by decide +kernel
theorem dX11_addRule_110 : decode cX11_addRule 110 = .ok (.iload_n 2, 1) := by decide +kernel
theorem dX11_addRule_111 : decode cX11_addRule 111 = .ok (.if_icmp .le 57, 3) := by decide +kernel
theorem dX11_addRule_114 : decode cX11_addRule 114 = .ok (.aload_n 0, 1) := by decide +kernel
theorem dX11_addRule_115 : decode cX11_addRule 115 = .ok (.getfield 53, 3) := by decide +kernel
theorem dX11_addRule_118 : decode cX11_addRule 118 = .ok (.iconst 5, 1) := by decide +kernel
theorem dX11_addRule_119 : decode cX11_addRule 119 = .ok (.iload_n 1, 1) := by decide +kernel
theorem dX11_addRule_120 : decode cX11_addRule 120 = .ok (.imul, 1) := by decide +kernel
theorem dX11_addRule_121 : decode cX11_addRule 121 = .ok (.iload 7, 2) := by decide +kernel
theorem dX11_addRule_123 : decode cX11_addRule 123 = .ok (.iadd, 1) := by decide +kernel
theorem dX11_addRule_124 : decode cX11_addRule 124 = .ok (.aload_n 0, 1) := by decide +kernel
theorem dX11_addRule_125 : decode cX11_addRule 125 = .ok (.getfield 53, 3) := by decide +kernel
theorem dX11_addRule_128 : decode cX11_addRule 128 = .ok (.iconst 5, 1) := by decide +kernel
theorem dX11_addRule_129 : decode cX11_addRule 129 = .ok (.iload_n 1, 1) := by decide +kernel
theorem dX11_addRule_130 : decode cX11_addRule 130 = .ok (.imul, 1) := by decide +kernel
theorem dX11_addRule_131 : decode cX11_addRule 131 = .ok (.iload 7, 2) := by decide +kernel
theorem dX11_addRule_133 : decode cX11_addRule 133 = .ok (.iadd, 1) := by decide +kernel
theorem dX11_addRule_134 : decode cX11_addRule 134 = .ok (.iconst 1, 1) := by decide +kernel
theorem dX11_addRule_135 : decode cX11_addRule 135 = .ok (.isub, 1) := by decide +kernel
theorem dX11_addRule_136 : decode cX11_addRule 136 = .ok (.iaload, 1) := by decide +kernel
theorem dX11_addRule_137 : decode cX11_addRule 137 = .ok (.iastore, 1) := by decide +kernel
theorem dX11_addRule_138 : decode cX11_addRule 138 = .ok (.aload_n 0, 1) := by decide +kernel
theorem dX11_addRule_139 : decode cX11_addRule 139 = .ok (.getfield 56, 3) := by decide +kernel
theorem dX11_addRule_142 : decode cX11_addRule 142 = .ok (.iconst 5, 1) := by decide +kernel
theorem dX11_addRule_143 : decode cX11_addRule 143 = .ok (.iload_n 1, 1) := by decide +kernel
theorem dX11_addRule_144 : decode cX11_addRule 144 = .ok (.imul, 1) := by decide +kernel
theorem dX11_addRule_145 : decode cX11_addRule 145 = .ok (.iload 7, 2) := by decide +kernel
theorem dX11_addRule_147 : decode cX11_addRule 147 = .ok (.iadd, 1) := by decide +kernel
theorem dX11_addRule_148 : decode cX11_addRule 148 = .ok (.aload_n 0, 1) := by decide +kernel
theorem dX11_addRule_149 : decode cX11_addRule 149 = .ok (.getfield 56, 3) := by decide +kernel
theorem dX11_addRule_152 : decode cX11_addRule 152 = .ok (.iconst 5, 1) := by decide +kernel
theorem dX11_addRule_153 : decode cX11_addRule 153 = .ok (.iload_n 1, 1) := by decide +kernel
theorem dX11_addRule_154 : decode cX11_addRule 154 = .ok (.imul, 1) := by decide +kernel
theorem dX11_addRule_155 : decode cX11_addRule 155 = .ok (.iload 7, 2) := by decide +kernel
theorem dX11_addRule_157 : decode cX11_addRule 157 = .ok (.iadd, 1) := by decide +kernel
theorem dX11_addRule_158 : decode cX11_addRule 158 = .ok (.iconst 1, 1) := by decide +kernel
theorem dX11_addRule_159 : decode cX11_addRule 159 = .ok (.isub, 1) := by decide +kernel
theorem dX11_addRule_160 : decode cX11_addRule 160 = .ok (.iaload, 1) := by decide +kernel
theorem dX11_addRule_161 : decode cX11_addRule 161 = .ok (.iastore, 1) := by decide +kernel
theorem dX11_addRule_162 : decode cX11_addRule 162 = .ok (.iinc 7 (-1), 3) := by decide +kernel
theorem dX11_addRule_165 : decode cX11_addRule 165 = .ok (.goto (-57), 3) := by decide +kernel
theorem dX11_addRule_168 : decode cX11_addRule 168 = .ok (.aload_n 0, 1) := by decide +kernel
theorem dX11_addRule_169 : decode cX11_addRule 169 = .ok (.getfield 53, 3) := by decide +kernel
theorem dX11_addRule_172 : decode cX11_addRule 172 = .ok (.iconst 5, 1) := by decide +kernel
theorem dX11_addRule_173 : decode cX11_addRule 173 = .ok (.iload_n 1, 1) := by decide +kernel
theorem dX11_addRule_174 : decode cX11_addRule 174 = .ok (.imul, 1) := by decide +kernel
theorem dX11_addRule_175 : decode cX11_addRule 175 = .ok (.iload_n 2, 1) := by decide +kernel
theorem dX11_addRule_176 : decode cX11_addRule 176 = .ok (.iadd, 1) := by decide +kernel
theorem dX11_addRule_177 : decode cX11_addRule 177 = .ok (.iload_n 3, 1) := by decide +kernel
theorem dX11_addRule_178 : decode cX11_addRule 178 = .ok (.iastore, 1) := by decide +kernel
theorem dX11_addRule_179 : decode cX11_addRule 179 = .ok (.aload_n 0, 1) := by decide +kernel
theorem dX11_addRule_180 : decode cX11_addRule 180 = .ok (.getfield 56, 3) := by decide +kernel
theorem dX11_addRule_183 : decode cX11_addRule 183 = .ok (.iconst 5, 1) := by decide +kernel
theorem dX11_addRule_184 : decode cX11_addRule 184 = .ok (.iload_n 1, 1) := by decide +kernel
theorem dX11_addRule_185 : decode cX11_addRule 185 = .ok (.imul, 1) := by decide +kernel
theorem dX11_addRule_186 : decode cX11_addRule 186 = .ok (.iload_n 2, 1) := by decide +kernel
theorem dX11_addRule_187 : decode cX11_addRule 187 = .ok (.iadd, 1) := by decide +kernel
theorem dX11_addRule_188 : decode cX11_addRule 188 = .ok (.iload 4, 2) := by decide +kernel
theorem dX11_addRule_190 : decode cX11_addRule 190 = .ok (.iastore, 1) := by decide +kernel
theorem dX11_addRule_191 : decode cX11_addRule 191 = .ok (.aload_n 0, 1) := by decide +kernel
theorem dX11_addRule_192 : decode cX11_addRule 192 = .ok (.getfield 50, 3) := by decide +kernel
theorem dX11_addRule_195 : decode cX11_addRule 195 = .ok (.iload_n 1, 1) := by decide +kernel
theorem dX11_addRule_196 : decode cX11_addRule 196 = .ok (.dup2, 1) := by decide +kernel
theorem dX11_addRule_197 : decode cX11_addRule 197 = .ok (.iaload, 1) := by decide +kernel
theorem dX11_addRule_198 : decode cX11_addRule 198 = .ok (.iconst 1, 1) := by decide +kernel
theorem dX11_addRule_199 : decode cX11_addRule 199 = .ok (.iadd, 1) := by decide +kernel
theorem dX11_addRule_200 : decode cX11_addRule 200 = .ok (.iastore, 1) := by decide +kernel
theorem dX11_addRule_201 : decode cX11_addRule 201 = .ok (.aload_n 0, 1) := by decide +kernel
theorem dX11_addRule_202 : decode cX11_addRule 202 = .ok (.getfield 50, 3) := by decide +kernel
theorem dX11_addRule_205 : decode cX11_addRule 205 = .ok (.iload_n 1, 1) := by decide +kernel
theorem dX11_addRule_206 : decode cX11_addRule 206 = .ok (.iaload, 1) := by decide +kernel
theorem dX11_addRule_207 : decode cX11_addRule 207 = .ok (.ireturn, 1) := by decide +kernel
theorem dX11_removeRule_0 : decode cX11_removeRule 0 = .ok (.iload_n 1, 1) := by decide +kernel
theorem dX11_removeRule_1 : decode cX11_removeRule 1 = .ok (.invokestatic 167, 3) := by decide +kernel
theorem dX11_removeRule_4 : decode cX11_removeRule 4 = .ok (.istore_n 3, 1) := by decide +kernel
theorem dX11_removeRule_5 : decode cX11_removeRule 5 = .ok (.aload_n 0, 1) := by decide +kernel
theorem dX11_removeRule_6 : decode cX11_removeRule 6 = .ok (.iload_n 3, 1) := by decide +kernel
theorem dX11_removeRule_7 : decode cX11_removeRule 7 = .ok (.ifCond .ne 7, 3) := by decide +kernel
theorem dX11_removeRule_10 : decode cX11_removeRule 10 = .ok (.iconst 1, 1) := by decide +kernel
theorem dX11_removeRule_11 : decode cX11_removeRule 11 = .ok (.goto 24, 3) := by decide +kernel
theorem dX11_removeRule_14 : decode cX11_removeRule 14 = .ok (.iload_n 2, 1) := by decide +kernel
theorem dX11_removeRule_15 : decode cX11_removeRule 15 = .ok (.iconst 0, 1) := by decide +kernel
theorem dX11_removeRule_16 : decode cX11_removeRule 16 = .ok (.aload_n 0, 1) := by decide +kernel
theorem dX11_removeRule_17 : decode cX11_removeRule 17 = .ok (.getfield 50, 3) := by decide +kernel
theorem dX11_removeRule_20 : decode cX11_removeRule 20 = .ok (.iload_n 1, 1) := by decide +kernel
theorem dX11_removeRule_21 : decode cX11_removeRule 21 = .ok (.iaload, 1) := by decide +kernel
theorem dX11_removeRule_22 : decode cX11_removeRule 22 = .ok (.iconst 1, 1) := by decide +kernel
theorem dX11_removeRule_23 : decode cX11_removeRule 23 = .ok (.isub, 1) := by decide +kernel
theorem dX11_removeRule_24 : decode cX11_removeRule 24 = .ok (.invokestatic 99, 3) := by decide +kernel
theorem dX11_removeRule_27 : decode cX11_removeRule 27 = .ok (.ifCond .eq 7, 3) := by decide +kernel
theorem dX11_removeRule_30 : decode cX11_removeRule 30 = .ok (.iconst 0, 1) := by decide +kernel
theorem dX11_removeRule_31 : decode cX11_removeRule 31 = .ok (.goto 4, 3) := by decide +kernel
theorem dX11_removeRule_34 : decode cX11_removeRule 34 = .ok (.iconst 2, 1) := by decide +kernel
theorem dX11_removeRule_35 : decode cX11_removeRule 35 = .ok (.invokevirtual 107, 3) := by decide +kernel
theorem dX11_removeRule_38 : decode cX11_removeRule 38 = .ok (.ifCond .ne 5, 3) := by decide +kernel
theorem dX11_removeRule_41 : decode cX11_removeRule 41 = .ok (.iconst 0, 1) := by decide +kernel
theorem dX11_removeRule_42 : decode cX11_removeRule 42 = .ok (.ireturn, 1) := by decide +kernel
theorem dX11_removeRule_43 : decode cX11_removeRule 43 = .ok (.aload_n 0, 1) := by decide +kernel
theorem dX11_removeRule_44 : decode cX11_removeRule 44 = .ok (.getfield 56, 3) := by decide +kernel
theorem dX11_removeRule_47 : decode cX11_removeRule 47 = .ok (.iconst 5, 1) := by decide +kernel
theorem dX11_removeRule_48 : decode cX11_removeRule 48 = .ok (.iload_n 1, 1) := by decide +kernel
theorem dX11_removeRule_49 : decode cX11_removeRule 49 = .ok (.imul, 1) := by decide +kernel
theorem dX11_removeRule_50 : decode cX11_removeRule 50 = .ok (.iload_n 2, 1) := by decide +kernel
theorem dX11_removeRule_51 : decode cX11_removeRule 51 = .ok (.iadd, 1) := by decide +kernel
theorem dX11_removeRule_52 : decode cX11_removeRule 52 = .ok (.iaload, 1) := by decide +kernel
theorem dX11_removeRule_53 : decode cX11_removeRule 53 = .ok (.istore 4, 2) := by decide +kernel
theorem dX11_removeRule_55 : decode cX11_removeRule 55 = .ok (.aload_n 0, 1) := by decide +kernel
theorem dX11_removeRule_56 : decode cX11_removeRule 56 = .ok (.getfield 50, 3) := by decide +kernel
theorem dX11_removeRule_59 : decode cX11_removeRule 59 = .ok (.iload_n 1, 1) := by decide +kernel
theorem dX11_removeRule_60 : decode cX11_removeRule 60 = .ok (.dup2, 1) := by decide +kernel
theorem dX11_removeRule_61 : decode cX11_removeRule 61 = .ok (.iaload, 1) := by decide +kernel
theorem dX11_removeRule_62 : decode cX11_removeRule 62 = .ok (.iconst 1, 1) := by decide +kernel
theorem dX11_removeRule_63 : decode cX11_removeRule 63 = .ok (.isub, 1) := by decide +kernel
theorem dX11_removeRule_64 : decode cX11_removeRule 64 = .ok (.iastore, 1) := by decide +kernel
theorem dX11_removeRule_65 : decode cX11_removeRule 65 = .ok (.iload_n 2, 1) := by decide +kernel
theorem dX11_removeRule_66 : decode cX11_removeRule 66 = .ok (.istore 5, 2) := by decide +kernel
theorem dX11_removeRule_68 : decode cX11_removeRule 68 = .ok (.iload 5, 2) := by decide +kernel
theorem dX11_removeRule_70 : decode cX11_removeRule 70 = .ok (.aload_n 0, 1) := by decide +kernel
theorem dX11_removeRule_71 : decode cX11_removeRule 71 = .ok (.getfield 50, 3) := by decide +kernel
theorem dX11_removeRule_74 : decode cX11_removeRule 74 = .ok (.iload_n 1, 1) := by decide +kernel
theorem dX11_removeRule_75 : decode cX11_removeRule 75 = .ok (.iaload, 1) := by decide +kernel
theorem dX11_removeRule_76 : decode cX11_removeRule 76 = .ok (.if_icmp .ge 57, 3) := by decide +kernel
theorem dX11_removeRule_79 : decode cX11_removeRule 79 = .ok (.aload_n 0, 1) := by decide +kernel
theorem dX11_removeRule_80 : decode cX11_removeRule 80 = .ok (.getfield 53, 3) := by decide +kernel
theorem dX11_removeRule_83 : decode cX11_removeRule 83 = .ok (.iconst 5, 1) := by decide +kernel
theorem dX11_removeRule_84 : decode cX11_removeRule 84 = .ok (.iload_n 1, 1) := by decide +kernel
theorem dX11_removeRule_85 : decode cX11_removeRule 85 = .ok (.imul, 1) := by decide +kernel
theorem dX11_removeRule_86 : decode cX11_removeRule 86 = .ok (.iload 5, 2) := by decide +kernel
theorem dX11_removeRule_88 : decode cX11_removeRule 88 = .ok (.iadd, 1) := by decide +kernel
theorem dX11_removeRule_89 : decode cX11_removeRule 89 = .ok (.aload_n 0, 1) := by decide +kernel
theorem dX11_removeRule_90 : decode cX11_removeRule 90 = .ok (.getfield 53, 3) := by decide +kernel
theorem dX11_removeRule_93 : decode cX11_removeRule 93 = .ok (.iconst 5, 1) := by decide +kernel
theorem dX11_removeRule_94 : decode cX11_removeRule 94 = .ok (.iload_n 1, 1) := by decide +kernel
theorem dX11_removeRule_95 : decode cX11_removeRule 95 = .ok (.imul, 1) := by decide +kernel
theorem dX11_removeRule_96 : decode cX11_removeRule 96 = .ok (.iload 5, 2) := by decide +kernel
theorem dX11_removeRule_98 : decode cX11_removeRule 98 = .ok (.iadd, 1) := by decide +kernel
theorem dX11_removeRule_99 : decode cX11_removeRule 99 = .ok (.iconst 1, 1) := by decide +kernel
theorem dX11_removeRule_100 : decode cX11_removeRule 100 = .ok (.iadd, 1) := by decide +kernel
theorem dX11_removeRule_101 : decode cX11_removeRule 101 = .ok (.iaload, 1) := by decide +kernel
theorem dX11_removeRule_102 : decode cX11_removeRule 102 = .ok (.iastore, 1) := by decide +kernel
theorem dX11_removeRule_103 : decode cX11_removeRule 103 = .ok (.aload_n 0, 1) := by decide +kernel
theorem dX11_removeRule_104 : decode cX11_removeRule 104 = .ok (.getfield 56, 3) := by decide +kernel
theorem dX11_removeRule_107 : decode cX11_removeRule 107 = .ok (.iconst 5, 1) := by decide +kernel
theorem dX11_removeRule_108 : decode cX11_removeRule 108 = .ok (.iload_n 1, 1) := by decide +kernel
theorem dX11_removeRule_109 : decode cX11_removeRule 109 = .ok (.imul, 1) := by decide +kernel
theorem dX11_removeRule_110 : decode cX11_removeRule 110 = .ok (.iload 5, 2) := by decide +kernel
theorem dX11_removeRule_112 : decode cX11_removeRule 112 = .ok (.iadd, 1) := by decide +kernel
theorem dX11_removeRule_113 : decode cX11_removeRule 113 = .ok (.aload_n 0, 1) := by decide +kernel
theorem dX11_removeRule_114 : decode cX11_removeRule 114 = .ok (.getfield 56, 3) := by decide +kernel
theorem dX11_removeRule_117 : decode cX11_removeRule 117 = .ok (.iconst 5, 1) := by decide +kernel
theorem dX11_removeRule_118 : decode cX11_removeRule 118 = .ok (.iload_n 1, 1) := by decide +kernel
theorem dX11_removeRule_119 : decode cX11_removeRule 119 = .ok (.imul, 1) := by decide +kernel
theorem dX11_removeRule_120 : decode cX11_removeRule 120 = .ok (.iload 5, 2) := by decide +kernel
theorem dX11_removeRule_122 : decode cX11_removeRule 122 = .ok (.iadd, 1) := by decide +kernel
theorem dX11_removeRule_123 : decode cX11_removeRule 123 = .ok (.iconst 1, 1) := by decide +kernel
theorem dX11_removeRule_124 : decode cX11_removeRule 124 = .ok (.iadd, 1) := by decide +kernel
theorem dX11_removeRule_125 : decode cX11_removeRule 125 = .ok (.iaload, 1) := by decide +kernel
theorem dX11_removeRule_126 : decode cX11_removeRule 126 = .ok (.iastore, 1) := by decide +kernel
theorem dX11_removeRule_127 : decode cX11_removeRule 127 = .ok (.iinc 5 1, 3) := by decide +kernel
theorem dX11_removeRule_130 : decode cX11_removeRule 130 = .ok (.goto (-62), 3) := by decide +kernel
theorem dX11_removeRule_133 : decode cX11_removeRule 133 = .ok (.iload 4, 2) := by decide +kernel
theorem dX11_removeRule_135 : decode cX11_removeRule 135 = .ok (.ireturn, 1) := by decide +kernel
theorem dX11_rules_0 : decode cX11_rules 0 = .ok (.aload_n 0, 1) := by decide +kernel
theorem dX11_rules_1 : decode cX11_rules 1 = .ok (.iload_n 1, 1) := by decide +kernel
theorem dX11_rules_2 : decode cX11_rules 2 = .ok (.invokestatic 167, 3) := by decide +kernel
theorem dX11_rules_5 : decode cX11_rules 5 = .ok (.ifCond .eq 7, 3) := by decide +kernel
theorem dX11_rules_8 : decode cX11_rules 8 = .ok (.iconst 0, 1) := by decide +kernel
theorem dX11_rules_9 : decode cX11_rules 9 = .ok (.goto 4, 3) := by decide +kernel
theorem dX11_rules_12 : decode cX11_rules 12 = .ok (.iconst 1, 1) := by decide +kernel
theorem dX11_rules_13 : decode cX11_rules 13 = .ok (.invokevirtual 107, 3) := by decide +kernel
theorem dX11_rules_16 : decode cX11_rules 16 = .ok (.ifCond .eq 12, 3) := by decide +kernel
theorem dX11_rules_19 : decode cX11_rules 19 = .ok (.aload_n 0, 1) := by decide +kernel
theorem dX11_rules_20 : decode cX11_rules 20 = .ok (.getfield 50, 3) := by decide +kernel
theorem dX11_rules_23 : decode cX11_rules 23 = .ok (.iload_n 1, 1) := by decide +kernel
theorem dX11_rules_24 : decode cX11_rules 24 = .ok (.iaload, 1) := by decide +kernel
theorem dX11_rules_25 : decode cX11_rules 25 = .ok (.goto 4, 3) := by decide +kernel
theorem dX11_rules_28 : decode cX11_rules 28 = .ok (.iconst 0, 1) := by decide +kernel
theorem dX11_rules_29 : decode cX11_rules 29 = .ok (.ireturn, 1) := by decide +kernel
theorem dX11_allNeeds_0 : decode cX11_allNeeds 0 = .ok (.aload_n 0, 1) := by decide +kernel
theorem dX11_allNeeds_1 : decode cX11_allNeeds 1 = .ok (.getfield 59, 3) := by decide +kernel
theorem dX11_allNeeds_4 : decode cX11_allNeeds 4 = .ok (.iload_n 1, 1) := by decide +kernel
theorem dX11_allNeeds_5 : decode cX11_allNeeds 5 = .ok (.iaload, 1) := by decide +kernel
theorem dX11_allNeeds_6 : decode cX11_allNeeds 6 = .ok (.istore_n 2, 1) := by decide +kernel
theorem dX11_allNeeds_7 : decode cX11_allNeeds 7 = .ok (.iconst 0, 1) := by decide +kernel
theorem dX11_allNeeds_8 : decode cX11_allNeeds 8 = .ok (.istore_n 3, 1) := by decide +kernel
theorem dX11_allNeeds_9 : decode cX11_allNeeds 9 = .ok (.iload_n 3, 1) := by decide +kernel
theorem dX11_allNeeds_10 : decode cX11_allNeeds 10 = .ok (.bipush 8, 2) := by decide +kernel
theorem dX11_allNeeds_12 : decode cX11_allNeeds 12 = .ok (.if_icmp .ge 49, 3) := by decide +kernel
theorem dX11_allNeeds_15 : decode cX11_allNeeds 15 = .ok (.iconst 0, 1) := by decide +kernel
theorem dX11_allNeeds_16 : decode cX11_allNeeds 16 = .ok (.istore 4, 2) := by decide +kernel
theorem dX11_allNeeds_18 : decode cX11_allNeeds 18 = .ok (.iload 4, 2) := by decide +kernel
theorem dX11_allNeeds_20 : decode cX11_allNeeds 20 = .ok (.bipush 8, 2) := by decide +kernel
theorem dX11_allNeeds_22 : decode cX11_allNeeds 22 = .ok (.if_icmp .ge 33, 3) := by decide +kernel
theorem dX11_allNeeds_25 : decode cX11_allNeeds 25 = .ok (.iload_n 2, 1) := by decide +kernel
theorem dX11_allNeeds_26 : decode cX11_allNeeds 26 = .ok (.iload_n 2, 1) := by decide +kernel
theorem dX11_allNeeds_27 : decode cX11_allNeeds 27 = .ok (.iload 4, 2) := by decide +kernel
theorem dX11_allNeeds_29 : decode cX11_allNeeds 29 = .ok (.ishr, 1) := by decide +kernel
theorem dX11_allNeeds_30 : decode cX11_allNeeds 30 = .ok (.iconst 1, 1) := by decide +kernel
theorem dX11_allNeeds_31 : decode cX11_allNeeds 31 = .ok (.iand, 1) := by decide +kernel
theorem dX11_allNeeds_32 : decode cX11_allNeeds 32 = .ok (.iconst 1, 1) := by decide +kernel
theorem dX11_allNeeds_33 : decode cX11_allNeeds 33 = .ok (.if_icmp .ne 13, 3) := by decide +kernel
theorem dX11_allNeeds_36 : decode cX11_allNeeds 36 = .ok (.aload_n 0, 1) := by decide +kernel
theorem dX11_allNeeds_37 : decode cX11_allNeeds 37 = .ok (.getfield 59, 3) := by decide +kernel
theorem dX11_allNeeds_40 : decode cX11_allNeeds 40 = .ok (.iload 4, 2) := by decide +kernel
theorem dX11_allNeeds_42 : decode cX11_allNeeds 42 = .ok (.iaload, 1) := by decide +kernel
theorem dX11_allNeeds_43 : decode cX11_allNeeds 43 = .ok (.goto 4, 3) := by decide +kernel
theorem dX11_allNeeds_46 : decode cX11_allNeeds 46 = .ok (.iconst 0, 1) := by decide +kernel
theorem dX11_allNeeds_47 : decode cX11_allNeeds 47 = .ok (.ior, 1) := by decide +kernel
theorem dX11_allNeeds_48 : decode cX11_allNeeds 48 = .ok (.istore_n 2, 1) := by decide +kernel
theorem dX11_allNeeds_49 : decode cX11_allNeeds 49 = .ok (.iinc 4 1, 3) := by decide +kernel
theorem dX11_allNeeds_52 : decode cX11_allNeeds 52 = .ok (.goto (-34), 3) := by decide +kernel
theorem dX11_allNeeds_55 : decode cX11_allNeeds 55 = .ok (.iinc 3 1, 3) := by decide +kernel
theorem dX11_allNeeds_58 : decode cX11_allNeeds 58 = .ok (.goto (-49), 3) := by decide +kernel
theorem dX11_allNeeds_61 : decode cX11_allNeeds 61 = .ok (.iload_n 2, 1) := by decide +kernel
theorem dX11_allNeeds_62 : decode cX11_allNeeds 62 = .ok (.ireturn, 1) := by decide +kernel
theorem dX11_setNeed_0 : decode cX11_setNeed 0 = .ok (.iload_n 1, 1) := by decide +kernel
theorem dX11_setNeed_1 : decode cX11_setNeed 1 = .ok (.invokestatic 167, 3) := by decide +kernel
theorem dX11_setNeed_4 : decode cX11_setNeed 4 = .ok (.ifCond .eq 19, 3) := by decide +kernel
theorem dX11_setNeed_7 : decode cX11_setNeed 7 = .ok (.iload_n 2, 1) := by decide +kernel
theorem dX11_setNeed_8 : decode cX11_setNeed 8 = .ok (.invokestatic 167, 3) := by decide +kernel
theorem dX11_setNeed_11 : decode cX11_setNeed 11 = .ok (.ifCond .eq 12, 3) := by decide +kernel
theorem dX11_setNeed_14 : decode cX11_setNeed 14 = .ok (.iload_n 1, 1) := by decide +kernel
theorem dX11_setNeed_15 : decode cX11_setNeed 15 = .ok (.iload_n 2, 1) := by decide +kernel
theorem dX11_setNeed_16 : decode cX11_setNeed 16 = .ok (.if_icmp .eq 7, 3) := by decide +kernel
theorem dX11_setNeed_19 : decode cX11_setNeed 19 = .ok (.iconst 1, 1) := by decide +kernel
theorem dX11_setNeed_20 : decode cX11_setNeed 20 = .ok (.goto 4, 3) := by decide +kernel
theorem dX11_setNeed_23 : decode cX11_setNeed 23 = .ok (.iconst 0, 1) := by decide +kernel
theorem dX11_setNeed_24 : decode cX11_setNeed 24 = .ok (.istore 4, 2) := by decide +kernel
theorem dX11_setNeed_26 : decode cX11_setNeed 26 = .ok (.iload 4, 2) := by decide +kernel
theorem dX11_setNeed_28 : decode cX11_setNeed 28 = .ok (.ifCond .eq 24, 3) := by decide +kernel
theorem dX11_setNeed_31 : decode cX11_setNeed 31 = .ok (.iload_n 3, 1) := by decide +kernel
theorem dX11_setNeed_32 : decode cX11_setNeed 32 = .ok (.ifCond .eq 20, 3) := by decide +kernel
theorem dX11_setNeed_35 : decode cX11_setNeed 35 = .ok (.aload_n 0, 1) := by decide +kernel
theorem dX11_setNeed_36 : decode cX11_setNeed 36 = .ok (.iload_n 2, 1) := by decide +kernel
theorem dX11_setNeed_37 : decode cX11_setNeed 37 = .ok (.invokevirtual 170, 3) := by decide +kernel
theorem dX11_setNeed_40 : decode cX11_setNeed 40 = .ok (.iload_n 1, 1) := by decide +kernel
theorem dX11_setNeed_41 : decode cX11_setNeed 41 = .ok (.ishr, 1) := by decide +kernel
theorem dX11_setNeed_42 : decode cX11_setNeed 42 = .ok (.iconst 1, 1) := by decide +kernel
theorem dX11_setNeed_43 : decode cX11_setNeed 43 = .ok (.iand, 1) := by decide +kernel
theorem dX11_setNeed_44 : decode cX11_setNeed 44 = .ok (.iconst 1, 1) := by decide +kernel
theorem dX11_setNeed_45 : decode cX11_setNeed 45 = .ok (.if_icmp .ne 7, 3) := by decide +kernel
theorem dX11_setNeed_48 : decode cX11_setNeed 48 = .ok (.iconst 1, 1) := by decide +kernel
theorem dX11_setNeed_49 : decode cX11_setNeed 49 = .ok (.goto 4, 3) := by decide +kernel
theorem dX11_setNeed_52 : decode cX11_setNeed 52 = .ok (.iconst 0, 1) := by decide +kernel
theorem dX11_setNeed_53 : decode cX11_setNeed 53 = .ok (.istore 5, 2) := by decide +kernel
theorem dX11_setNeed_55 : decode cX11_setNeed 55 = .ok (.aload_n 0, 1) := by decide +kernel
theorem dX11_setNeed_56 : decode cX11_setNeed 56 = .ok (.iload 4, 2) := by decide +kernel
theorem dX11_setNeed_58 : decode cX11_setNeed 58 = .ok (.ifCond .ne 7, 3) := by decide +kernel
theorem dX11_setNeed_61 : decode cX11_setNeed 61 = .ok (.iconst 1, 1) := by decide +kernel
theorem dX11_setNeed_62 : decode cX11_setNeed 62 = .ok (.goto 13, 3) := by decide +kernel
theorem dX11_setNeed_65 : decode cX11_setNeed 65 = .ok (.iload 5, 2) := by decide +kernel
theorem dX11_setNeed_67 : decode cX11_setNeed 67 = .ok (.ifCond .eq 7, 3) := by decide +kernel
theorem dX11_setNeed_70 : decode cX11_setNeed 70 = .ok (.iconst 2, 1) := by decide +kernel
theorem dX11_setNeed_71 : decode cX11_setNeed 71 = .ok (.goto 4, 3) := by decide +kernel
theorem dX11_setNeed_74 : decode cX11_setNeed 74 = .ok (.iconst 0, 1) := by decide +kernel
theorem dX11_setNeed_75 : decode cX11_setNeed 75 = .ok (.invokevirtual 107, 3) := by decide +kernel
theorem dX11_setNeed_78 : decode cX11_setNeed 78 = .ok (.ifCond .ne 5, 3) := by decide +kernel
theorem dX11_setNeed_81 : decode cX11_setNeed 81 = .ok (.iconst 0, 1) := by decide +kernel
theorem dX11_setNeed_82 : decode cX11_setNeed 82 = .ok (.ireturn, 1) := by decide +kernel
theorem dX11_setNeed_83 : decode cX11_setNeed 83 = .ok (.aload_n 0, 1) := by decide +kernel
theorem dX11_setNeed_84 : decode cX11_setNeed 84 = .ok (.getfield 59, 3) := by decide +kernel
theorem dX11_setNeed_87 : decode cX11_setNeed 87 = .ok (.iload_n 1, 1) := by decide +kernel
theorem dX11_setNeed_88 : decode cX11_setNeed 88 = .ok (.iaload, 1) := by decide +kernel
theorem dX11_setNeed_89 : decode cX11_setNeed 89 = .ok (.iload_n 2, 1) := by decide +kernel
theorem dX11_setNeed_90 : decode cX11_setNeed 90 = .ok (.ishr, 1) := by decide +kernel
theorem dX11_setNeed_91 : decode cX11_setNeed 91 = .ok (.iconst 1, 1) := by decide +kernel
theorem dX11_setNeed_92 : decode cX11_setNeed 92 = .ok (.iand, 1) := by decide +kernel
theorem dX11_setNeed_93 : decode cX11_setNeed 93 = .ok (.iconst 1, 1) := by decide +kernel
theorem dX11_setNeed_94 : decode cX11_setNeed 94 = .ok (.if_icmp .ne 7, 3) := by decide +kernel
theorem dX11_setNeed_97 : decode cX11_setNeed 97 = .ok (.iconst 1, 1) := by decide +kernel
theorem dX11_setNeed_98 : decode cX11_setNeed 98 = .ok (.goto 4, 3) := by decide +kernel
theorem dX11_setNeed_101 : decode cX11_setNeed 101 = .ok (.iconst 0, 1) := by decide +kernel
theorem dX11_setNeed_102 : decode cX11_setNeed 102 = .ok (.istore 6, 2) := by decide +kernel
theorem dX11_setNeed_104 : decode cX11_setNeed 104 = .ok (.aload_n 0, 1) := by decide +kernel
theorem dX11_setNeed_105 : decode cX11_setNeed 105 = .ok (.getfield 59, 3) := by decide +kernel
theorem dX11_setNeed_108 : decode cX11_setNeed 108 = .ok (.iload_n 1, 1) := by decide +kernel
theorem dX11_setNeed_109 : decode cX11_setNeed 109 = .ok (.iload_n 3, 1) := by decide +kernel
theorem dX11_setNeed_110 : decode cX11_setNeed 110 = .ok (.ifCond .eq 16, 3) := by decide +kernel
theorem dX11_setNeed_113 : decode cX11_setNeed 113 = .ok (.aload_n 0, 1) := by decide +kernel
theorem dX11_setNeed_114 : decode cX11_setNeed 114 = .ok (.getfield 59, 3) := by decide +kernel
theorem dX11_setNeed_117 : decode cX11_setNeed 117 = .ok (.iload_n 1, 1) := by decide +kernel
theorem dX11_setNeed_118 : decode cX11_setNeed 118 = .ok (.iaload, 1) := by decide +kernel
theorem dX11_setNeed_119 : decode cX11_setNeed 119 = .ok (.iconst 1, 1) := by decide +kernel
theorem dX11_setNeed_120 : decode cX11_setNeed 120 = .ok (.iload_n 2, 1) := by decide +kernel
theorem dX11_setNeed_121 : decode cX11_setNeed 121 = .ok (.ishl, 1) := by decide +kernel
theorem dX11_setNeed_122 : decode cX11_setNeed 122 = .ok (.ior, 1) := by decide +kernel
theorem dX11_setNeed_123 : decode cX11_setNeed 123 = .ok (.goto 15, 3) := by decide +kernel
theorem dX11_setNeed_126 : decode cX11_setNeed 126 = .ok (.aload_n 0, 1) := by decide +kernel
theorem dX11_setNeed_127 : decode cX11_setNeed 127 = .ok (.getfield 59, 3) := by decide +kernel
theorem dX11_setNeed_130 : decode cX11_setNeed 130 = .ok (.iload_n 1, 1) := by decide +kernel
theorem dX11_setNeed_131 : decode cX11_setNeed 131 = .ok (.iaload, 1) := by decide +kernel
theorem dX11_setNeed_132 : decode cX11_setNeed 132 = .ok (.iconst 1, 1) := by decide +kernel
theorem dX11_setNeed_133 : decode cX11_setNeed 133 = .ok (.iload_n 2, 1) := by decide +kernel
theorem dX11_setNeed_134 : decode cX11_setNeed 134 = .ok (.ishl, 1) := by decide +kernel
theorem dX11_setNeed_135 : decode cX11_setNeed 135 = .ok (.iconst (-1), 1) := by decide +kernel
theorem dX11_setNeed_136 : decode cX11_setNeed 136 = .ok (.ixor, 1) := by decide +kernel
theorem dX11_setNeed_137 : decode cX11_setNeed 137 = .ok (.iand, 1) := by decide +kernel
theorem dX11_setNeed_138 : decode cX11_setNeed 138 = .ok (.iastore, 1) := by decide +kernel
theorem dX11_setNeed_139 : decode cX11_setNeed 139 = .ok (.iload 6, 2) := by decide +kernel
theorem dX11_setNeed_141 : decode cX11_setNeed 141 = .ok (.ireturn, 1) := by decide +kernel
theorem dX11_ruleNow_0 : decode cX11_ruleNow 0 = .ok (.iconst 0, 1) := by decide +kernel
theorem dX11_ruleNow_1 : decode cX11_ruleNow 1 = .ok (.istore_n 3, 1) := by decide +kernel
theorem dX11_ruleNow_2 : decode cX11_ruleNow 2 = .ok (.iload_n 3, 1) := by decide +kernel
theorem dX11_ruleNow_3 : decode cX11_ruleNow 3 = .ok (.aload_n 0, 1) := by decide +kernel
theorem dX11_ruleNow_4 : decode cX11_ruleNow 4 = .ok (.getfield 50, 3) := by decide +kernel
theorem dX11_ruleNow_7 : decode cX11_ruleNow 7 = .ok (.iload_n 2, 1) := by decide +kernel
theorem dX11_ruleNow_8 : decode cX11_ruleNow 8 = .ok (.iaload, 1) := by decide +kernel
theorem dX11_ruleNow_9 : decode cX11_ruleNow 9 = .ok (.if_icmp .ge 34, 3) := by decide +kernel
theorem dX11_ruleNow_12 : decode cX11_ruleNow 12 = .ok (.aload_n 0, 1) := by decide +kernel
theorem dX11_ruleNow_13 : decode cX11_ruleNow 13 = .ok (.getfield 34, 3) := by decide +kernel
theorem dX11_ruleNow_16 : decode cX11_ruleNow 16 = .ok (.aload_n 0, 1) := by decide +kernel
theorem dX11_ruleNow_17 : decode cX11_ruleNow 17 = .ok (.getfield 53, 3) := by decide +kernel
theorem dX11_ruleNow_20 : decode cX11_ruleNow 20 = .ok (.iconst 5, 1) := by decide +kernel
theorem dX11_ruleNow_21 : decode cX11_ruleNow 21 = .ok (.iload_n 2, 1) := by decide +kernel
theorem dX11_ruleNow_22 : decode cX11_ruleNow 22 = .ok (.imul, 1) := by decide +kernel
theorem dX11_ruleNow_23 : decode cX11_ruleNow 23 = .ok (.iload_n 3, 1) := by decide +kernel
theorem dX11_ruleNow_24 : decode cX11_ruleNow 24 = .ok (.iadd, 1) := by decide +kernel
theorem dX11_ruleNow_25 : decode cX11_ruleNow 25 = .ok (.iaload, 1) := by decide +kernel
theorem dX11_ruleNow_26 : decode cX11_ruleNow 26 = .ok (.iaload, 1) := by decide +kernel
theorem dX11_ruleNow_27 : decode cX11_ruleNow 27 = .ok (.iload_n 1, 1) := by decide +kernel
theorem dX11_ruleNow_28 : decode cX11_ruleNow 28 = .ok (.ishr, 1) := by decide +kernel
theorem dX11_ruleNow_29 : decode cX11_ruleNow 29 = .ok (.iconst 1, 1) := by decide +kernel
theorem dX11_ruleNow_30 : decode cX11_ruleNow 30 = .ok (.iand, 1) := by decide +kernel
theorem dX11_ruleNow_31 : decode cX11_ruleNow 31 = .ok (.iconst 1, 1) := by decide +kernel
theorem dX11_ruleNow_32 : decode cX11_ruleNow 32 = .ok (.if_icmp .ne 5, 3) := by decide +kernel
theorem dX11_ruleNow_35 : decode cX11_ruleNow 35 = .ok (.iload_n 3, 1) := by decide +kernel
theorem dX11_ruleNow_36 : decode cX11_ruleNow 36 = .ok (.ireturn, 1) := by decide +kernel
theorem dX11_ruleNow_37 : decode cX11_ruleNow 37 = .ok (.iinc 3 1, 3) := by decide +kernel
theorem dX11_ruleNow_40 : decode cX11_ruleNow 40 = .ok (.goto (-38), 3) := by decide +kernel
theorem dX11_ruleNow_43 : decode cX11_ruleNow 43 = .ok (.iconst (-1), 1) := by decide +kernel
theorem dX11_ruleNow_44 : decode cX11_ruleNow 44 = .ok (.ireturn, 1) := by decide +kernel
theorem dX11_lacksNeed_0 : decode cX11_lacksNeed 0 = .ok (.iconst 0, 1) := by decide +kernel
theorem dX11_lacksNeed_1 : decode cX11_lacksNeed 1 = .ok (.istore_n 3, 1) := by decide +kernel
theorem dX11_lacksNeed_2 : decode cX11_lacksNeed 2 = .ok (.iconst 0, 1) := by decide +kernel
theorem dX11_lacksNeed_3 : decode cX11_lacksNeed 3 = .ok (.istore 4, 2) := by decide +kernel
theorem dX11_lacksNeed_5 : decode cX11_lacksNeed 5 = .ok (.iload 4, 2) := by decide +kernel
theorem dX11_lacksNeed_7 : decode cX11_lacksNeed 7 = .ok (.bipush 8, 2) := by decide +kernel
theorem dX11_lacksNeed_9 : decode cX11_lacksNeed 9 = .ok (.if_icmp .ge 49, 3) := by decide +kernel
theorem dX11_lacksNeed_12 : decode cX11_lacksNeed 12 = .ok (.iload_n 3, 1) := by decide +kernel
theorem dX11_lacksNeed_13 : decode cX11_lacksNeed 13 = .ok (.ifCond .ne 33, 3) := by decide +kernel
theorem dX11_lacksNeed_16 : decode cX11_lacksNeed 16 = .ok (.aload_n 0, 1) := by decide +kernel
theorem dX11_lacksNeed_17 : decode cX11_lacksNeed 17 = .ok (.getfield 59, 3) := by decide +kernel
theorem dX11_lacksNeed_20 : decode cX11_lacksNeed 20 = .ok (.iload_n 2, 1) := by decide +kernel
theorem dX11_lacksNeed_21 : decode cX11_lacksNeed 21 = .ok (.iaload, 1) := by decide +kernel
theorem dX11_lacksNeed_22 : decode cX11_lacksNeed 22 = .ok (.iload 4, 2) := by decide +kernel
theorem dX11_lacksNeed_24 : decode cX11_lacksNeed 24 = .ok (.ishr, 1) := by decide +kernel
theorem dX11_lacksNeed_25 : decode cX11_lacksNeed 25 = .ok (.iconst 1, 1) := by decide +kernel
theorem dX11_lacksNeed_26 : decode cX11_lacksNeed 26 = .ok (.iand, 1) := by decide +kernel
theorem dX11_lacksNeed_27 : decode cX11_lacksNeed 27 = .ok (.iconst 1, 1) := by decide +kernel
theorem dX11_lacksNeed_28 : decode cX11_lacksNeed 28 = .ok (.if_icmp .ne 22, 3) := by decide +kernel
theorem dX11_lacksNeed_31 : decode cX11_lacksNeed 31 = .ok (.aload_n 0, 1) := by decide +kernel
theorem dX11_lacksNeed_32 : decode cX11_lacksNeed 32 = .ok (.getfield 62, 3) := by decide +kernel
theorem dX11_lacksNeed_35 : decode cX11_lacksNeed 35 = .ok (.bipush 8, 2) := by decide +kernel
theorem dX11_lacksNeed_37 : decode cX11_lacksNeed 37 = .ok (.iload_n 1, 1) := by decide +kernel
theorem dX11_lacksNeed_38 : decode cX11_lacksNeed 38 = .ok (.imul, 1) := by decide +kernel
theorem dX11_lacksNeed_39 : decode cX11_lacksNeed 39 = .ok (.iload 4, 2) := by decide +kernel
theorem dX11_lacksNeed_41 : decode cX11_lacksNeed 41 = .ok (.iadd, 1) := by decide +kernel
theorem dX11_lacksNeed_42 : decode cX11_lacksNeed 42 = .ok (.iaload, 1) := by decide +kernel
theorem dX11_lacksNeed_43 : decode cX11_lacksNeed 43 = .ok (.ifCond .ne 7, 3) := by decide +kernel
theorem dX11_lacksNeed_46 : decode cX11_lacksNeed 46 = .ok (.iconst 1, 1) := by decide +kernel
theorem dX11_lacksNeed_47 : decode cX11_lacksNeed 47 = .ok (.goto 4, 3) := by decide +kernel
theorem dX11_lacksNeed_50 : decode cX11_lacksNeed 50 = .ok (.iconst 0, 1) := by decide +kernel
theorem dX11_lacksNeed_51 : decode cX11_lacksNeed 51 = .ok (.istore_n 3, 1) := by decide +kernel
theorem dX11_lacksNeed_52 : decode cX11_lacksNeed 52 = .ok (.iinc 4 1, 3) := by decide +kernel
theorem dX11_lacksNeed_55 : decode cX11_lacksNeed 55 = .ok (.goto (-50), 3) := by decide +kernel
theorem dX11_lacksNeed_58 : decode cX11_lacksNeed 58 = .ok (.iload_n 3, 1) := by decide +kernel
theorem dX11_lacksNeed_59 : decode cX11_lacksNeed 59 = .ok (.ireturn, 1) := by decide +kernel
theorem dX11_viewNow_0 : decode cX11_viewNow 0 = .ok (.bipush 8, 2) := by decide +kernel
theorem dX11_viewNow_2 : decode cX11_viewNow 2 = .ok (.iload_n 1, 1) := by decide +kernel
theorem dX11_viewNow_3 : decode cX11_viewNow 3 = .ok (.imul, 1) := by decide +kernel
theorem dX11_viewNow_4 : decode cX11_viewNow 4 = .ok (.iload_n 2, 1) := by decide +kernel
theorem dX11_viewNow_5 : decode cX11_viewNow 5 = .ok (.iadd, 1) := by decide +kernel
theorem dX11_viewNow_6 : decode cX11_viewNow 6 = .ok (.istore_n 3, 1) := by decide +kernel
theorem dX11_viewNow_7 : decode cX11_viewNow 7 = .ok (.aload_n 0, 1) := by decide +kernel
theorem dX11_viewNow_8 : decode cX11_viewNow 8 = .ok (.getfield 86, 3) := by decide +kernel
theorem dX11_viewNow_11 : decode cX11_viewNow 11 = .ok (.iload_n 3, 1) := by decide +kernel
theorem dX11_viewNow_12 : decode cX11_viewNow 12 = .ok (.iaload, 1) := by decide +kernel
theorem dX11_viewNow_13 : decode cX11_viewNow 13 = .ok (.ifCond .eq 10, 3) := by decide +kernel
theorem dX11_viewNow_16 : decode cX11_viewNow 16 = .ok (.aload_n 0, 1) := by decide +kernel
theorem dX11_viewNow_17 : decode cX11_viewNow 17 = .ok (.getfield 89, 3) := by decide +kernel
theorem dX11_viewNow_20 : decode cX11_viewNow 20 = .ok (.iload_n 3, 1) := by decide +kernel
theorem dX11_viewNow_21 : decode cX11_viewNow 21 = .ok (.iaload, 1) := by decide +kernel
theorem dX11_viewNow_22 : decode cX11_viewNow 22 = .ok (.ireturn, 1) := by decide +kernel
theorem dX11_viewNow_23 : decode cX11_viewNow 23 = .ok (.aload_n 0, 1) := by decide +kernel
theorem dX11_viewNow_24 : decode cX11_viewNow 24 = .ok (.iload_n 1, 1) := by decide +kernel
theorem dX11_viewNow_25 : decode cX11_viewNow 25 = .ok (.iload_n 2, 1) := by decide +kernel
theorem dX11_viewNow_26 : decode cX11_viewNow 26 = .ok (.invokevirtual 173, 3) := by decide +kernel
theorem dX11_viewNow_29 : decode cX11_viewNow 29 = .ok (.ifCond .eq 7, 3) := by decide +kernel
theorem dX11_viewNow_32 : decode cX11_viewNow 32 = .ok (.iconst (-1), 1) := by decide +kernel
theorem dX11_viewNow_33 : decode cX11_viewNow 33 = .ok (.goto 9, 3) := by decide +kernel
theorem dX11_viewNow_36 : decode cX11_viewNow 36 = .ok (.aload_n 0, 1) := by decide +kernel
theorem dX11_viewNow_37 : decode cX11_viewNow 37 = .ok (.iload_n 1, 1) := by decide +kernel
theorem dX11_viewNow_38 : decode cX11_viewNow 38 = .ok (.iload_n 2, 1) := by decide +kernel
theorem dX11_viewNow_39 : decode cX11_viewNow 39 = .ok (.invokevirtual 176, 3) := by decide +kernel
theorem dX11_viewNow_42 : decode cX11_viewNow 42 = .ok (.istore 4, 2) := by decide +kernel
theorem dX11_viewNow_44 : decode cX11_viewNow 44 = .ok (.iload 4, 2) := by decide +kernel
theorem dX11_viewNow_46 : decode cX11_viewNow 46 = .ok (.iconst (-1), 1) := by decide +kernel
theorem dX11_viewNow_47 : decode cX11_viewNow 47 = .ok (.if_icmp .ne 7, 3) := by decide +kernel
theorem dX11_viewNow_50 : decode cX11_viewNow 50 = .ok (.iconst 0, 1) := by decide +kernel
theorem dX11_viewNow_51 : decode cX11_viewNow 51 = .ok (.goto 14, 3) := by decide +kernel
theorem dX11_viewNow_54 : decode cX11_viewNow 54 = .ok (.aload_n 0, 1) := by decide +kernel
theorem dX11_viewNow_55 : decode cX11_viewNow 55 = .ok (.getfield 56, 3) := by decide +kernel
theorem dX11_viewNow_58 : decode cX11_viewNow 58 = .ok (.iconst 5, 1) := by decide +kernel
theorem dX11_viewNow_59 : decode cX11_viewNow 59 = .ok (.iload_n 2, 1) := by decide +kernel
theorem dX11_viewNow_60 : decode cX11_viewNow 60 = .ok (.imul, 1) := by decide +kernel
theorem dX11_viewNow_61 : decode cX11_viewNow 61 = .ok (.iload 4, 2) := by decide +kernel
theorem dX11_viewNow_63 : decode cX11_viewNow 63 = .ok (.iadd, 1) := by decide +kernel
theorem dX11_viewNow_64 : decode cX11_viewNow 64 = .ok (.iaload, 1) := by decide +kernel
theorem dX11_viewNow_65 : decode cX11_viewNow 65 = .ok (.istore 5, 2) := by decide +kernel
theorem dX11_viewNow_67 : decode cX11_viewNow 67 = .ok (.iload 5, 2) := by decide +kernel
theorem dX11_viewNow_69 : decode cX11_viewNow 69 = .ok (.iconst 4, 1) := by decide +kernel
theorem dX11_viewNow_70 : decode cX11_viewNow 70 = .ok (.if_icmp .ge 8, 3) := by decide +kernel
theorem dX11_viewNow_73 : decode cX11_viewNow 73 = .ok (.iload 5, 2) := by decide +kernel
theorem dX11_viewNow_75 : decode cX11_viewNow 75 = .ok (.goto 12, 3) := by decide +kernel
theorem dX11_viewNow_78 : decode cX11_viewNow 78 = .ok (.aload_n 0, 1) := by decide +kernel
theorem dX11_viewNow_79 : decode cX11_viewNow 79 = .ok (.iload 5, 2) := by decide +kernel
theorem dX11_viewNow_81 : decode cX11_viewNow 81 = .ok (.iconst 4, 1) := by decide +kernel
theorem dX11_viewNow_82 : decode cX11_viewNow 82 = .ok (.isub, 1) := by decide +kernel
theorem dX11_viewNow_83 : decode cX11_viewNow 83 = .ok (.iload_n 1, 1) := by decide +kernel
theorem dX11_viewNow_84 : decode cX11_viewNow 84 = .ok (.invokevirtual 179, 3) := by decide +kernel
theorem dX11_viewNow_87 : decode cX11_viewNow 87 = .ok (.ireturn, 1) := by decide +kernel
theorem dX11_findViews_0 : decode cX11_findViews 0 = .ok (.aload_n 0, 1) := by decide +kernel
theorem dX11_findViews_1 : decode cX11_findViews 1 = .ok (.invokevirtual 155, 3) := by decide +kernel
theorem dX11_findViews_4 : decode cX11_findViews 4 = .ok (.iconst 0, 1) := by decide +kernel
theorem dX11_findViews_5 : decode cX11_findViews 5 = .ok (.istore_n 1, 1) := by decide +kernel
theorem dX11_findViews_6 : decode cX11_findViews 6 = .ok (.iload_n 1, 1) := by decide +kernel
theorem dX11_findViews_7 : decode cX11_findViews 7 = .ok (.bipush 8, 2) := by decide +kernel
theorem dX11_findViews_9 : decode cX11_findViews 9 = .ok (.if_icmp .ge 42, 3) := by decide +kernel
theorem dX11_findViews_12 : decode cX11_findViews 12 = .ok (.iconst 0, 1) := by decide +kernel
theorem dX11_findViews_13 : decode cX11_findViews 13 = .ok (.istore_n 2, 1) := by decide +kernel
theorem dX11_findViews_14 : decode cX11_findViews 14 = .ok (.iload_n 2, 1) := by decide +kernel
theorem dX11_findViews_15 : decode cX11_findViews 15 = .ok (.sipush 160, 3) := by decide +kernel
theorem dX11_findViews_18 : decode cX11_findViews 18 = .ok (.if_icmp .ge 27, 3) := by decide +kernel
theorem dX11_findViews_21 : decode cX11_findViews 21 = .ok (.aload_n 0, 1) := by decide +kernel
theorem dX11_findViews_22 : decode cX11_findViews 22 = .ok (.getfield 62, 3) := by decide +kernel
theorem dX11_findViews_25 : decode cX11_findViews 25 = .ok (.iload_n 2, 1) := by decide +kernel
theorem dX11_findViews_26 : decode cX11_findViews 26 = .ok (.aload_n 0, 1) := by decide +kernel
theorem dX11_findViews_27 : decode cX11_findViews 27 = .ok (.iload_n 2, 1) := by decide +kernel
theorem dX11_findViews_28 : decode cX11_findViews 28 = .ok (.bipush 8, 2) := by decide +kernel
theorem dX11_findViews_30 : decode cX11_findViews 30 = .ok (.idiv, 1) := by decide +kernel
theorem dX11_findViews_31 : decode cX11_findViews 31 = .ok (.iload_n 2, 1) := by decide +kernel
theorem dX11_findViews_32 : decode cX11_findViews 32 = .ok (.bipush 8, 2) := by decide +kernel
theorem dX11_findViews_34 : decode cX11_findViews 34 = .ok (.irem, 1) := by decide +kernel
theorem dX11_findViews_35 : decode cX11_findViews 35 = .ok (.invokevirtual 182, 3) := by decide +kernel
theorem dX11_findViews_38 : decode cX11_findViews 38 = .ok (.iastore, 1) := by decide +kernel
theorem dX11_findViews_39 : decode cX11_findViews 39 = .ok (.iinc 2 1, 3) := by decide +kernel
theorem dX11_findViews_42 : decode cX11_findViews 42 = .ok (.goto (-28), 3) := by decide +kernel
theorem dX11_findViews_45 : decode cX11_findViews 45 = .ok (.iinc 1 1, 3) := by decide +kernel
theorem dX11_findViews_48 : decode cX11_findViews 48 = .ok (.goto (-42), 3) := by decide +kernel
theorem dX11_findViews_51 : decode cX11_findViews 51 = .ok (.return_, 1) := by decide +kernel
theorem dX11_view_0 : decode cX11_view 0 = .ok (.aload_n 0, 1) := by decide +kernel
theorem dX11_view_1 : decode cX11_view 1 = .ok (.iload_n 1, 1) := by decide +kernel
theorem dX11_view_2 : decode cX11_view 2 = .ok (.iload_n 2, 1) := by decide +kernel
theorem dX11_view_3 : decode cX11_view 3 = .ok (.invokevirtual 185, 3) := by decide +kernel
theorem dX11_view_6 : decode cX11_view 6 = .ok (.ireturn, 1) := by decide +kernel
theorem dX11_viewByLog_0 : decode cX11_viewByLog 0 = .ok (.aload_n 0, 1) := by decide +kernel
theorem dX11_viewByLog_1 : decode cX11_viewByLog 1 = .ok (.iload_n 1, 1) := by decide +kernel
theorem dX11_viewByLog_2 : decode cX11_viewByLog 2 = .ok (.invokestatic 103, 3) := by decide +kernel
theorem dX11_viewByLog_5 : decode cX11_viewByLog 5 = .ok (.ifCond .eq 14, 3) := by decide +kernel
theorem dX11_viewByLog_8 : decode cX11_viewByLog 8 = .ok (.iload_n 2, 1) := by decide +kernel
theorem dX11_viewByLog_9 : decode cX11_viewByLog 9 = .ok (.invokestatic 167, 3) := by decide +kernel
theorem dX11_viewByLog_12 : decode cX11_viewByLog 12 = .ok (.ifCond .eq 7, 3) := by decide +kernel
theorem dX11_viewByLog_15 : decode cX11_viewByLog 15 = .ok (.iconst 0, 1) := by decide +kernel
theorem dX11_viewByLog_16 : decode cX11_viewByLog 16 = .ok (.goto 4, 3) := by decide +kernel
theorem dX11_viewByLog_19 : decode cX11_viewByLog 19 = .ok (.iconst 1, 1) := by decide +kernel
theorem dX11_viewByLog_20 : decode cX11_viewByLog 20 = .ok (.invokevirtual 107, 3) := by decide +kernel
theorem dX11_viewByLog_23 : decode cX11_viewByLog 23 = .ok (.ifCond .ne 5, 3) := by decide +kernel
theorem dX11_viewByLog_26 : decode cX11_viewByLog 26 = .ok (.iconst 0, 1) := by decide +kernel
theorem dX11_viewByLog_27 : decode cX11_viewByLog 27 = .ok (.ireturn, 1) := by decide +kernel
theorem dX11_viewByLog_28 : decode cX11_viewByLog 28 = .ok (.aload_n 0, 1) := by decide +kernel
theorem dX11_viewByLog_29 : decode cX11_viewByLog 29 = .ok (.invokevirtual 164, 3) := by decide +kernel
theorem dX11_viewByLog_32 : decode cX11_viewByLog 32 = .ok (.aload_n 0, 1) := by decide +kernel
theorem dX11_viewByLog_33 : decode cX11_viewByLog 33 = .ok (.getfield 62, 3) := by decide +kernel
theorem dX11_viewByLog_36 : decode cX11_viewByLog 36 = .ok (.bipush 8, 2) := by decide +kernel
theorem dX11_viewByLog_38 : decode cX11_viewByLog 38 = .ok (.iload_n 1, 1) := by decide +kernel
theorem dX11_viewByLog_39 : decode cX11_viewByLog 39 = .ok (.imul, 1) := by decide +kernel
theorem dX11_viewByLog_40 : decode cX11_viewByLog 40 = .ok (.iload_n 2, 1) := by decide +kernel
theorem dX11_viewByLog_41 : decode cX11_viewByLog 41 = .ok (.iadd, 1) := by decide +kernel
theorem dX11_viewByLog_42 : decode cX11_viewByLog 42 = .ok (.iaload, 1) := by decide +kernel
theorem dX11_viewByLog_43 : decode cX11_viewByLog 43 = .ok (.ireturn, 1) := by decide +kernel
theorem dX11_ruleFor_0 : decode cX11_ruleFor 0 = .ok (.aload_n 0, 1) := by decide +kernel
theorem dX11_ruleFor_1 : decode cX11_ruleFor 1 = .ok (.iload_n 1, 1) := by decide +kernel
theorem dX11_ruleFor_2 : decode cX11_ruleFor 2 = .ok (.invokestatic 103, 3) := by decide +kernel
theorem dX11_ruleFor_5 : decode cX11_ruleFor 5 = .ok (.ifCond .eq 14, 3) := by decide +kernel
theorem dX11_ruleFor_8 : decode cX11_ruleFor 8 = .ok (.iload_n 2, 1) := by decide +kernel
theorem dX11_ruleFor_9 : decode cX11_ruleFor 9 = .ok (.invokestatic 167, 3) := by decide +kernel
theorem dX11_ruleFor_12 : decode cX11_ruleFor 12 = .ok (.ifCond .eq 7, 3) := by decide +kernel
theorem dX11_ruleFor_15 : decode cX11_ruleFor 15 = .ok (.iconst 0, 1) := by decide +kernel
theorem dX11_ruleFor_16 : decode cX11_ruleFor 16 = .ok (.goto 4, 3) := by decide +kernel
theorem dX11_ruleFor_19 : decode cX11_ruleFor 19 = .ok (.iconst 1, 1) := by decide +kernel
theorem dX11_ruleFor_20 : decode cX11_ruleFor 20 = .ok (.invokevirtual 107, 3) := by decide +kernel
theorem dX11_ruleFor_23 : decode cX11_ruleFor 23 = .ok (.ifCond .ne 5, 3) := by decide +kernel
theorem dX11_ruleFor_26 : decode cX11_ruleFor 26 = .ok (.iconst 0, 1) := by decide +kernel
theorem dX11_ruleFor_27 : decode cX11_ruleFor 27 = .ok (.ireturn, 1) := by decide +kernel
theorem dX11_ruleFor_28 : decode cX11_ruleFor 28 = .ok (.aload_n 0, 1) := by decide +kernel
theorem dX11_ruleFor_29 : decode cX11_ruleFor 29 = .ok (.invokevirtual 155, 3) := by decide +kernel
theorem dX11_ruleFor_32 : decode cX11_ruleFor 32 = .ok (.aload_n 0, 1) := by decide +kernel
theorem dX11_ruleFor_33 : decode cX11_ruleFor 33 = .ok (.iload_n 1, 1) := by decide +kernel
theorem dX11_ruleFor_34 : decode cX11_ruleFor 34 = .ok (.iload_n 2, 1) := by decide +kernel
theorem dX11_ruleFor_35 : decode cX11_ruleFor 35 = .ok (.invokevirtual 176, 3) := by decide +kernel
theorem dX11_ruleFor_38 : decode cX11_ruleFor 38 = .ok (.ireturn, 1) := by decide +kernel
theorem dX11_reach_0 : decode cX11_reach 0 = .ok (.aload_n 0, 1) := by decide +kernel
theorem dX11_reach_1 : decode cX11_reach 1 = .ok (.iload_n 1, 1) := by decide +kernel
theorem dX11_reach_2 : decode cX11_reach 2 = .ok (.invokestatic 167, 3) := by decide +kernel
theorem dX11_reach_5 : decode cX11_reach 5 = .ok (.ifCond .eq 14, 3) := by decide +kernel
theorem dX11_reach_8 : decode cX11_reach 8 = .ok (.iload_n 2, 1) := by decide +kernel
theorem dX11_reach_9 : decode cX11_reach 9 = .ok (.invokestatic 188, 3) := by decide +kernel
theorem dX11_reach_12 : decode cX11_reach 12 = .ok (.ifCond .eq 7, 3) := by decide +kernel
theorem dX11_reach_15 : decode cX11_reach 15 = .ok (.iconst 0, 1) := by decide +kernel
theorem dX11_reach_16 : decode cX11_reach 16 = .ok (.goto 4, 3) := by decide +kernel
theorem dX11_reach_19 : decode cX11_reach 19 = .ok (.iconst 1, 1) := by decide +kernel
theorem dX11_reach_20 : decode cX11_reach 20 = .ok (.invokevirtual 107, 3) := by decide +kernel
theorem dX11_reach_23 : decode cX11_reach 23 = .ok (.ifCond .ne 5, 3) := by decide +kernel
theorem dX11_reach_26 : decode cX11_reach 26 = .ok (.iconst 0, 1) := by decide +kernel
theorem dX11_reach_27 : decode cX11_reach 27 = .ok (.ireturn, 1) := by decide +kernel
theorem dX11_reach_28 : decode cX11_reach 28 = .ok (.aload_n 0, 1) := by decide +kernel
theorem dX11_reach_29 : decode cX11_reach 29 = .ok (.invokevirtual 164, 3) := by decide +kernel
theorem dX11_reach_32 : decode cX11_reach 32 = .ok (.iconst 0, 1) := by decide +kernel
theorem dX11_reach_33 : decode cX11_reach 33 = .ok (.istore_n 3, 1) := by decide +kernel
theorem dX11_reach_34 : decode cX11_reach 34 = .ok (.iconst 0, 1) := by decide +kernel
theorem dX11_reach_35 : decode cX11_reach 35 = .ok (.istore 4, 2) := by decide +kernel
theorem dX11_reach_37 : decode cX11_reach 37 = .ok (.iload 4, 2) := by decide +kernel
theorem dX11_reach_39 : decode cX11_reach 39 = .ok (.bipush 20, 2) := by decide +kernel
theorem dX11_reach_41 : decode cX11_reach 41 = .ok (.if_icmp .ge 33, 3) := by decide +kernel
theorem dX11_reach_44 : decode cX11_reach 44 = .ok (.iload_n 3, 1) := by decide +kernel
theorem dX11_reach_45 : decode cX11_reach 45 = .ok (.aload_n 0, 1) := by decide +kernel
theorem dX11_reach_46 : decode cX11_reach 46 = .ok (.getfield 62, 3) := by decide +kernel
theorem dX11_reach_49 : decode cX11_reach 49 = .ok (.bipush 8, 2) := by decide +kernel
theorem dX11_reach_51 : decode cX11_reach 51 = .ok (.iload 4, 2) := by decide +kernel
theorem dX11_reach_53 : decode cX11_reach 53 = .ok (.imul, 1) := by decide +kernel
theorem dX11_reach_54 : decode cX11_reach 54 = .ok (.iload_n 1, 1) := by decide +kernel
theorem dX11_reach_55 : decode cX11_reach 55 = .ok (.iadd, 1) := by decide +kernel
theorem dX11_reach_56 : decode cX11_reach 56 = .ok (.iaload, 1) := by decide +kernel
theorem dX11_reach_57 : decode cX11_reach 57 = .ok (.iload_n 2, 1) := by decide +kernel
theorem dX11_reach_58 : decode cX11_reach 58 = .ok (.if_icmp .ne 7, 3) := by decide +kernel
theorem dX11_reach_61 : decode cX11_reach 61 = .ok (.iconst 1, 1) := by decide +kernel
theorem dX11_reach_62 : decode cX11_reach 62 = .ok (.goto 4, 3) := by decide +kernel
theorem dX11_reach_65 : decode cX11_reach 65 = .ok (.iconst 0, 1) := by decide +kernel
theorem dX11_reach_66 : decode cX11_reach 66 = .ok (.iadd, 1) := by decide +kernel
theorem dX11_reach_67 : decode cX11_reach 67 = .ok (.istore_n 3, 1) := by decide +kernel
theorem dX11_reach_68 : decode cX11_reach 68 = .ok (.iinc 4 1, 3) := by decide +kernel
theorem dX11_reach_71 : decode cX11_reach 71 = .ok (.goto (-34), 3) := by decide +kernel
theorem dX11_reach_74 : decode cX11_reach 74 = .ok (.iload_n 3, 1) := by decide +kernel
theorem dX11_reach_75 : decode cX11_reach 75 = .ok (.ireturn, 1) := by decide +kernel
theorem dX11_show_0 : decode cX11_show 0 = .ok (.iload_n 1, 1) := by decide +kernel
theorem dX11_show_1 : decode cX11_show 1 = .ok (.invokestatic 103, 3) := by decide +kernel
theorem dX11_show_4 : decode cX11_show 4 = .ok (.ifCond .eq 14, 3) := by decide +kernel
theorem dX11_show_7 : decode cX11_show 7 = .ok (.iload_n 2, 1) := by decide +kernel
theorem dX11_show_8 : decode cX11_show 8 = .ok (.invokestatic 167, 3) := by decide +kernel
theorem dX11_show_11 : decode cX11_show 11 = .ok (.ifCond .eq 7, 3) := by decide +kernel
theorem dX11_show_14 : decode cX11_show 14 = .ok (.iconst 1, 1) := by decide +kernel
theorem dX11_show_15 : decode cX11_show 15 = .ok (.goto 4, 3) := by decide +kernel
theorem dX11_show_18 : decode cX11_show 18 = .ok (.iconst 0, 1) := by decide +kernel
theorem dX11_show_19 : decode cX11_show 19 = .ok (.istore_n 3, 1) := by decide +kernel
theorem dX11_show_20 : decode cX11_show 20 = .ok (.aload_n 0, 1) := by decide +kernel
theorem dX11_show_21 : decode cX11_show 21 = .ok (.iload_n 3, 1) := by decide +kernel
theorem dX11_show_22 : decode cX11_show 22 = .ok (.ifCond .ne 7, 3) := by decide +kernel
theorem dX11_show_25 : decode cX11_show 25 = .ok (.iconst 1, 1) := by decide +kernel
theorem dX11_show_26 : decode cX11_show 26 = .ok (.goto 18, 3) := by decide +kernel
theorem dX11_show_29 : decode cX11_show 29 = .ok (.aload_n 0, 1) := by decide +kernel
theorem dX11_show_30 : decode cX11_show 30 = .ok (.getfield 191, 3) := by decide +kernel
theorem dX11_show_33 : decode cX11_show 33 = .ok (.sipush 400, 3) := by decide +kernel
theorem dX11_show_36 : decode cX11_show 36 = .ok (.if_icmp .ne 7, 3) := by decide +kernel
theorem dX11_show_39 : decode cX11_show 39 = .ok (.iconst 2, 1) := by decide +kernel
theorem dX11_show_40 : decode cX11_show 40 = .ok (.goto 4, 3) := by decide +kernel
theorem dX11_show_43 : decode cX11_show 43 = .ok (.iconst 0, 1) := by decide +kernel
theorem dX11_show_44 : decode cX11_show 44 = .ok (.invokevirtual 107, 3) := by decide +kernel
theorem dX11_show_47 : decode cX11_show 47 = .ok (.ifCond .ne 5, 3) := by decide +kernel
theorem dX11_show_50 : decode cX11_show 50 = .ok (.iconst 0, 1) := by decide +kernel
theorem dX11_show_51 : decode cX11_show 51 = .ok (.ireturn, 1) := by decide +kernel
theorem dX11_show_52 : decode cX11_show 52 = .ok (.aload_n 0, 1) := by decide +kernel
theorem dX11_show_53 : decode cX11_show 53 = .ok (.invokevirtual 164, 3) := by decide +kernel
theorem dX11_show_56 : decode cX11_show 56 = .ok (.bipush 8, 2) := by decide +kernel
theorem dX11_show_58 : decode cX11_show 58 = .ok (.iload_n 1, 1) := by decide +kernel
theorem dX11_show_59 : decode cX11_show 59 = .ok (.imul, 1) := by decide +kernel
theorem dX11_show_60 : decode cX11_show 60 = .ok (.iload_n 2, 1) := by decide +kernel
theorem dX11_show_61 : decode cX11_show 61 = .ok (.iadd, 1) := by decide +kernel
theorem dX11_show_62 : decode cX11_show 62 = .ok (.istore 4, 2) := by decide +kernel
theorem dX11_show_64 : decode cX11_show 64 = .ok (.aload_n 0, 1) := by decide +kernel
theorem dX11_show_65 : decode cX11_show 65 = .ok (.getfield 62, 3) := by decide +kernel
theorem dX11_show_68 : decode cX11_show 68 = .ok (.iload 4, 2) := by decide +kernel
theorem dX11_show_70 : decode cX11_show 70 = .ok (.iaload, 1) := by decide +kernel
theorem dX11_show_71 : decode cX11_show 71 = .ok (.istore 5, 2) := by decide +kernel
theorem dX11_show_73 : decode cX11_show 73 = .ok (.aload_n 0, 1) := by decide +kernel
theorem dX11_show_74 : decode cX11_show 74 = .ok (.getfield 86, 3) := by decide +kernel
theorem dX11_show_77 : decode cX11_show 77 = .ok (.iload 4, 2) := by decide +kernel
theorem dX11_show_79 : decode cX11_show 79 = .ok (.iaload, 1) := by decide +kernel
theorem dX11_show_80 : decode cX11_show 80 = .ok (.ifCond .ne 12, 3) := by decide +kernel
theorem dX11_show_83 : decode cX11_show 83 = .ok (.aload_n 0, 1) := by decide +kernel
theorem dX11_show_84 : decode cX11_show 84 = .ok (.iload_n 1, 1) := by decide +kernel
theorem dX11_show_85 : decode cX11_show 85 = .ok (.iload_n 2, 1) := by decide +kernel
theorem dX11_show_86 : decode cX11_show 86 = .ok (.invokevirtual 173, 3) := by decide +kernel
theorem dX11_show_89 : decode cX11_show 89 = .ok (.ifCond .eq 7, 3) := by decide +kernel
theorem dX11_show_92 : decode cX11_show 92 = .ok (.iconst (-1), 1) := by decide +kernel
theorem dX11_show_93 : decode cX11_show 93 = .ok (.goto 9, 3) := by decide +kernel
theorem dX11_show_96 : decode cX11_show 96 = .ok (.aload_n 0, 1) := by decide +kernel
theorem dX11_show_97 : decode cX11_show 97 = .ok (.iload_n 1, 1) := by decide +kernel
theorem dX11_show_98 : decode cX11_show 98 = .ok (.iload_n 2, 1) := by decide +kernel
theorem dX11_show_99 : decode cX11_show 99 = .ok (.invokevirtual 176, 3) := by decide +kernel
theorem dX11_show_102 : decode cX11_show 102 = .ok (.istore 6, 2) := by decide +kernel
theorem dX11_show_104 : decode cX11_show 104 = .ok (.iload 6, 2) := by decide +kernel
theorem dX11_show_106 : decode cX11_show 106 = .ok (.iconst (-1), 1) := by decide +kernel
theorem dX11_show_107 : decode cX11_show 107 = .ok (.if_icmp .ne 7, 3) := by decide +kernel
theorem dX11_show_110 : decode cX11_show 110 = .ok (.iconst (-1), 1) := by decide +kernel
theorem dX11_show_111 : decode cX11_show 111 = .ok (.goto 16, 3) := by decide +kernel
theorem dX11_show_114 : decode cX11_show 114 = .ok (.aload_n 0, 1) := by decide +kernel
theorem dX11_show_115 : decode cX11_show 115 = .ok (.getfield 56, 3) := by decide +kernel
theorem dX11_show_118 : decode cX11_show 118 = .ok (.iconst 5, 1) := by decide +kernel
theorem dX11_show_119 : decode cX11_show 119 = .ok (.iload_n 2, 1) := by decide +kernel
theorem dX11_show_120 : decode cX11_show 120 = .ok (.imul, 1) := by decide +kernel
theorem dX11_show_121 : decode cX11_show 121 = .ok (.iload 6, 2) := by decide +kernel
theorem dX11_show_123 : decode cX11_show 123 = .ok (.iadd, 1) := by decide +kernel
theorem dX11_show_124 : decode cX11_show 124 = .ok (.iaload, 1) := by decide +kernel
theorem dX11_show_125 : decode cX11_show 125 = .ok (.iconst 4, 1) := by decide +kernel
theorem dX11_show_126 : decode cX11_show 126 = .ok (.isub, 1) := by decide +kernel
theorem dX11_show_127 : decode cX11_show 127 = .ok (.istore 7, 2) := by decide +kernel
theorem dX11_show_129 : decode cX11_show 129 = .ok (.iload 7, 2) := by decide +kernel
theorem dX11_show_131 : decode cX11_show 131 = .ok (.ifCond .lt 71, 3) := by decide +kernel
theorem dX11_show_134 : decode cX11_show 134 = .ok (.aload_n 0, 1) := by decide +kernel
theorem dX11_show_135 : decode cX11_show 135 = .ok (.getfield 80, 3) := by decide +kernel
theorem dX11_show_138 : decode cX11_show 138 = .ok (.sipush 160, 3) := by decide +kernel
theorem dX11_show_141 : decode cX11_show 141 = .ok (.iload 7, 2) := by decide +kernel
theorem dX11_show_143 : decode cX11_show 143 = .ok (.imul, 1) := by decide +kernel
theorem dX11_show_144 : decode cX11_show 144 = .ok (.iload 4, 2) := by decide +kernel
theorem dX11_show_146 : decode cX11_show 146 = .ok (.iadd, 1) := by decide +kernel
theorem dX11_show_147 : decode cX11_show 147 = .ok (.iload 5, 2) := by decide +kernel
theorem dX11_show_149 : decode cX11_show 149 = .ok (.iconst 1, 1) := by decide +kernel
theorem dX11_show_150 : decode cX11_show 150 = .ok (.iadd, 1) := by decide +kernel
theorem dX11_show_151 : decode cX11_show 151 = .ok (.iastore, 1) := by decide +kernel
theorem dX11_show_152 : decode cX11_show 152 = .ok (.bipush 20, 2) := by decide +kernel
theorem dX11_show_154 : decode cX11_show 154 = .ok (.iload 7, 2) := by decide +kernel
theorem dX11_show_156 : decode cX11_show 156 = .ok (.imul, 1) := by decide +kernel
theorem dX11_show_157 : decode cX11_show 157 = .ok (.iload_n 1, 1) := by decide +kernel
theorem dX11_show_158 : decode cX11_show 158 = .ok (.iadd, 1) := by decide +kernel
theorem dX11_show_159 : decode cX11_show 159 = .ok (.istore 8, 2) := by decide +kernel
theorem dX11_show_161 : decode cX11_show 161 = .ok (.aload_n 0, 1) := by decide +kernel
theorem dX11_show_162 : decode cX11_show 162 = .ok (.getfield 77, 3) := by decide +kernel
theorem dX11_show_165 : decode cX11_show 165 = .ok (.iload 8, 2) := by decide +kernel
theorem dX11_show_167 : decode cX11_show 167 = .ok (.aload_n 0, 1) := by decide +kernel
theorem dX11_show_168 : decode cX11_show 168 = .ok (.getfield 74, 3) := by decide +kernel
theorem dX11_show_171 : decode cX11_show 171 = .ok (.iload 7, 2) := by decide +kernel
theorem dX11_show_173 : decode cX11_show 173 = .ok (.iaload, 1) := by decide +kernel
theorem dX11_show_174 : decode cX11_show 174 = .ok (.ifCond .ne 20, 3) := by decide +kernel
theorem dX11_show_177 : decode cX11_show 177 = .ok (.aload_n 0, 1) := by decide +kernel
theorem dX11_show_178 : decode cX11_show 178 = .ok (.getfield 77, 3) := by decide +kernel
theorem dX11_show_181 : decode cX11_show 181 = .ok (.iload 8, 2) := by decide +kernel
theorem dX11_show_183 : decode cX11_show 183 = .ok (.iaload, 1) := by decide +kernel
theorem dX11_show_184 : decode cX11_show 184 = .ok (.ifCond .ne 10, 3) := by decide +kernel
theorem dX11_show_187 : decode cX11_show 187 = .ok (.iload 5, 2) := by decide +kernel
theorem dX11_show_189 : decode cX11_show 189 = .ok (.iconst 1, 1) := by decide +kernel
theorem dX11_show_190 : decode cX11_show 190 = .ok (.iadd, 1) := by decide +kernel
theorem dX11_show_191 : decode cX11_show 191 = .ok (.goto 10, 3) := by decide +kernel
theorem dX11_show_194 : decode cX11_show 194 = .ok (.aload_n 0, 1) := by decide +kernel
theorem dX11_show_195 : decode cX11_show 195 = .ok (.getfield 77, 3) := by decide +kernel
theorem dX11_show_198 : decode cX11_show 198 = .ok (.iload 8, 2) := by decide +kernel
theorem dX11_show_200 : decode cX11_show 200 = .ok (.iaload, 1) := by decide +kernel
theorem dX11_show_201 : decode cX11_show 201 = .ok (.iastore, 1) := by decide +kernel
theorem dX11_show_202 : decode cX11_show 202 = .ok (.aload_n 0, 1) := by decide +kernel
theorem dX11_show_203 : decode cX11_show 203 = .ok (.getfield 92, 3) := by decide +kernel
theorem dX11_show_206 : decode cX11_show 206 = .ok (.iload 4, 2) := by decide +kernel
theorem dX11_show_208 : decode cX11_show 208 = .ok (.iload 5, 2) := by decide +kernel
theorem dX11_show_210 : decode cX11_show 210 = .ok (.iconst 1, 1) := by decide +kernel
theorem dX11_show_211 : decode cX11_show 211 = .ok (.iadd, 1) := by decide +kernel
theorem dX11_show_212 : decode cX11_show 212 = .ok (.iastore, 1) := by decide +kernel
theorem dX11_show_213 : decode cX11_show 213 = .ok (.aload_n 0, 1) := by decide +kernel
theorem dX11_show_214 : decode cX11_show 214 = .ok (.dup, 1) := by decide +kernel
theorem dX11_show_215 : decode cX11_show 215 = .ok (.getfield 191, 3) := by decide +kernel
theorem dX11_show_218 : decode cX11_show 218 = .ok (.iconst 1, 1) := by decide +kernel
theorem dX11_show_219 : decode cX11_show 219 = .ok (.iadd, 1) := by decide +kernel
theorem dX11_show_220 : decode cX11_show 220 = .ok (.putfield 191, 3) := by decide +kernel
theorem dX11_show_223 : decode cX11_show 223 = .ok (.iload 5, 2) := by decide +kernel
theorem dX11_show_225 : decode cX11_show 225 = .ok (.ireturn, 1) := by decide +kernel
theorem dX11_armNow_0 : decode cX11_armNow 0 = .ok (.aload_n 0, 1) := by decide +kernel
theorem dX11_armNow_1 : decode cX11_armNow 1 = .ok (.getfield 77, 3) := by decide +kernel
theorem dX11_armNow_4 : decode cX11_armNow 4 = .ok (.bipush 20, 2) := by decide +kernel
theorem dX11_armNow_6 : decode cX11_armNow 6 = .ok (.iload_n 1, 1) := by decide +kernel
theorem dX11_armNow_7 : decode cX11_armNow 7 = .ok (.imul, 1) := by decide +kernel
theorem dX11_armNow_8 : decode cX11_armNow 8 = .ok (.iload_n 2, 1) := by decide +kernel
theorem dX11_armNow_9 : decode cX11_armNow 9 = .ok (.iadd, 1) := by decide +kernel
theorem dX11_armNow_10 : decode cX11_armNow 10 = .ok (.iaload, 1) := by decide +kernel
theorem dX11_armNow_11 : decode cX11_armNow 11 = .ok (.istore_n 3, 1) := by decide +kernel
theorem dX11_armNow_12 : decode cX11_armNow 12 = .ok (.aload_n 0, 1) := by decide +kernel
theorem dX11_armNow_13 : decode cX11_armNow 13 = .ok (.getfield 74, 3) := by decide +kernel
theorem dX11_armNow_16 : decode cX11_armNow 16 = .ok (.iload_n 1, 1) := by decide +kernel
theorem dX11_armNow_17 : decode cX11_armNow 17 = .ok (.iaload, 1) := by decide +kernel
theorem dX11_armNow_18 : decode cX11_armNow 18 = .ok (.ifCond .gt 7, 3) := by decide +kernel
theorem dX11_armNow_21 : decode cX11_armNow 21 = .ok (.iload_n 3, 1) := by decide +kernel
theorem dX11_armNow_22 : decode cX11_armNow 22 = .ok (.ifCond .le 27, 3) := by decide +kernel
theorem dX11_armNow_25 : decode cX11_armNow 25 = .ok (.aload_n 0, 1) := by decide +kernel
theorem dX11_armNow_26 : decode cX11_armNow 26 = .ok (.getfield 74, 3) := by decide +kernel
theorem dX11_armNow_29 : decode cX11_armNow 29 = .ok (.iload_n 1, 1) := by decide +kernel
theorem dX11_armNow_30 : decode cX11_armNow 30 = .ok (.iaload, 1) := by decide +kernel
theorem dX11_armNow_31 : decode cX11_armNow 31 = .ok (.ifCond .le 14, 3) := by decide +kernel
theorem dX11_armNow_34 : decode cX11_armNow 34 = .ok (.aload_n 0, 1) := by decide +kernel
theorem dX11_armNow_35 : decode cX11_armNow 35 = .ok (.getfield 74, 3) := by decide +kernel
theorem dX11_armNow_38 : decode cX11_armNow 38 = .ok (.iload_n 1, 1) := by decide +kernel
theorem dX11_armNow_39 : decode cX11_armNow 39 = .ok (.iaload, 1) := by decide +kernel
theorem dX11_armNow_40 : decode cX11_armNow 40 = .ok (.iconst 1, 1) := by decide +kernel
theorem dX11_armNow_41 : decode cX11_armNow 41 = .ok (.isub, 1) := by decide +kernel
theorem dX11_armNow_42 : decode cX11_armNow 42 = .ok (.goto 6, 3) := by decide +kernel
theorem dX11_armNow_45 : decode cX11_armNow 45 = .ok (.iload_n 3, 1) := by decide +kernel
theorem dX11_armNow_46 : decode cX11_armNow 46 = .ok (.iconst 1, 1) := by decide +kernel
theorem dX11_armNow_47 : decode cX11_armNow 47 = .ok (.isub, 1) := by decide +kernel
theorem dX11_armNow_48 : decode cX11_armNow 48 = .ok (.ireturn, 1) := by decide +kernel
theorem dX11_armNow_49 : decode cX11_armNow 49 = .ok (.iconst 0, 1) := by decide +kernel
theorem dX11_armNow_50 : decode cX11_armNow 50 = .ok (.istore 4, 2) := by decide +kernel
theorem dX11_armNow_52 : decode cX11_armNow 52 = .ok (.iconst 0, 1) := by decide +kernel
theorem dX11_armNow_53 : decode cX11_armNow 53 = .ok (.istore 5, 2) := by decide +kernel
theorem dX11_armNow_55 : decode cX11_armNow 55 = .ok (.iload 5, 2) := by decide +kernel
theorem dX11_armNow_57 : decode cX11_armNow 57 = .ok (.iconst 4, 1) := by decide +kernel
theorem dX11_armNow_58 : decode cX11_armNow 58 = .ok (.if_icmp .ge 25, 3) := by decide +kernel
theorem dX11_armNow_61 : decode cX11_armNow 61 = .ok (.iload 4, 2) := by decide +kernel
theorem dX11_armNow_63 : decode cX11_armNow 63 = .ok (.aload_n 0, 1) := by decide +kernel
theorem dX11_armNow_64 : decode cX11_armNow 64 = .ok (.getfield 68, 3) := by decide +kernel
theorem dX11_armNow_67 : decode cX11_armNow 67 = .ok (.iconst 4, 1) := by decide +kernel
theorem dX11_armNow_68 : decode cX11_armNow 68 = .ok (.iload_n 1, 1) := by decide +kernel
theorem dX11_armNow_69 : decode cX11_armNow 69 = .ok (.imul, 1) := by decide +kernel
theorem dX11_armNow_70 : decode cX11_armNow 70 = .ok (.iload 5, 2) := by decide +kernel
theorem dX11_armNow_72 : decode cX11_armNow 72 = .ok (.iadd, 1) := by decide +kernel
theorem dX11_armNow_73 : decode cX11_armNow 73 = .ok (.iaload, 1) := by decide +kernel
theorem dX11_armNow_74 : decode cX11_armNow 74 = .ok (.iadd, 1) := by decide +kernel
theorem dX11_armNow_75 : decode cX11_armNow 75 = .ok (.istore 4, 2) := by decide +kernel
theorem dX11_armNow_77 : decode cX11_armNow 77 = .ok (.iinc 5 1, 3) := by decide +kernel
theorem dX11_armNow_80 : decode cX11_armNow 80 = .ok (.goto (-25), 3) := by decide +kernel
theorem dX11_armNow_83 : decode cX11_armNow 83 = .ok (.iload 4, 2) := by decide +kernel
theorem dX11_armNow_85 : decode cX11_armNow 85 = .ok (.ifCond .ne 5, 3) := by decide +kernel
theorem dX11_armNow_88 : decode cX11_armNow 88 = .ok (.iconst 0, 1) := by decide +kernel
theorem dX11_armNow_89 : decode cX11_armNow 89 = .ok (.ireturn, 1) := by decide +kernel
theorem dX11_armNow_90 : decode cX11_armNow 90 = .ok (.sipush 7919, 3) := by decide +kernel
theorem dX11_armNow_93 : decode cX11_armNow 93 = .ok (.iload_n 2, 1) := by decide +kernel
theorem dX11_armNow_94 : decode cX11_armNow 94 = .ok (.imul, 1) := by decide +kernel
theorem dX11_armNow_95 : decode cX11_armNow 95 = .ok (.ldc 194, 2) := by decide +kernel
theorem dX11_armNow_97 : decode cX11_armNow 97 = .ok (.aload_n 0, 1) := by decide +kernel
theorem dX11_armNow_98 : decode cX11_armNow 98 = .ok (.getfield 71, 3) := by decide +kernel
theorem dX11_armNow_101 : decode cX11_armNow 101 = .ok (.iload_n 1, 1) := by decide +kernel
theorem dX11_armNow_102 : decode cX11_armNow 102 = .ok (.iaload, 1) := by decide +kernel
theorem dX11_armNow_103 : decode cX11_armNow 103 = .ok (.imul, 1) := by decide +kernel
theorem dX11_armNow_104 : decode cX11_armNow 104 = .ok (.iadd, 1) := by decide +kernel
theorem dX11_armNow_105 : decode cX11_armNow 105 = .ok (.bipush 13, 2) := by decide +kernel
theorem dX11_armNow_107 : decode cX11_armNow 107 = .ok (.iadd, 1) := by decide +kernel
theorem dX11_armNow_108 : decode cX11_armNow 108 = .ok (.ldc 195, 2) := by decide +kernel
theorem dX11_armNow_110 : decode cX11_armNow 110 = .ok (.irem, 1) := by decide +kernel
theorem dX11_armNow_111 : decode cX11_armNow 111 = .ok (.iload 4, 2) := by decide +kernel
theorem dX11_armNow_113 : decode cX11_armNow 113 = .ok (.irem, 1) := by decide +kernel
theorem dX11_armNow_114 : decode cX11_armNow 114 = .ok (.istore 5, 2) := by decide +kernel
theorem dX11_armNow_116 : decode cX11_armNow 116 = .ok (.iconst 0, 1) := by decide +kernel
theorem dX11_armNow_117 : decode cX11_armNow 117 = .ok (.istore 6, 2) := by decide +kernel
theorem dX11_armNow_119 : decode cX11_armNow 119 = .ok (.aload_n 0, 1) := by decide +kernel
theorem dX11_armNow_120 : decode cX11_armNow 120 = .ok (.getfield 68, 3) := by decide +kernel
theorem dX11_armNow_123 : decode cX11_armNow 123 = .ok (.iconst 4, 1) := by decide +kernel
theorem dX11_armNow_124 : decode cX11_armNow 124 = .ok (.iload_n 1, 1) := by decide +kernel
theorem dX11_armNow_125 : decode cX11_armNow 125 = .ok (.imul, 1) := by decide +kernel
theorem dX11_armNow_126 : decode cX11_armNow 126 = .ok (.iload 6, 2) := by decide +kernel
theorem dX11_armNow_128 : decode cX11_armNow 128 = .ok (.iadd, 1) := by decide +kernel
theorem dX11_armNow_129 : decode cX11_armNow 129 = .ok (.iaload, 1) := by decide +kernel
theorem dX11_armNow_130 : decode cX11_armNow 130 = .ok (.iload 5, 2) := by decide +kernel
theorem dX11_armNow_132 : decode cX11_armNow 132 = .ok (.if_icmp .gt 25, 3) := by decide +kernel
theorem dX11_armNow_135 : decode cX11_armNow 135 = .ok (.iload 5, 2) := by decide +kernel
theorem dX11_armNow_137 : decode cX11_armNow 137 = .ok (.aload_n 0, 1) := by decide +kernel
theorem dX11_armNow_138 : decode cX11_armNow 138 = .ok (.getfield 68, 3) := by decide +kernel
theorem dX11_armNow_141 : decode cX11_armNow 141 = .ok (.iconst 4, 1) := by decide +kernel
theorem dX11_armNow_142 : decode cX11_armNow 142 = .ok (.iload_n 1, 1) := by decide +kernel
theorem dX11_armNow_143 : decode cX11_armNow 143 = .ok (.imul, 1) := by decide +kernel
theorem dX11_armNow_144 : decode cX11_armNow 144 = .ok (.iload 6, 2) := by decide +kernel
theorem dX11_armNow_146 : decode cX11_armNow 146 = .ok (.iadd, 1) := by decide +kernel
theorem dX11_armNow_147 : decode cX11_armNow 147 = .ok (.iaload, 1) := by decide +kernel
theorem dX11_armNow_148 : decode cX11_armNow 148 = .ok (.isub, 1) := by decide +kernel
theorem dX11_armNow_149 : decode cX11_armNow 149 = .ok (.istore 5, 2) := by decide +kernel
theorem dX11_armNow_151 : decode cX11_armNow 151 = .ok (.iinc 6 1, 3) := by decide +kernel
theorem dX11_armNow_154 : decode cX11_armNow 154 = .ok (.goto (-35), 3) := by decide +kernel
theorem dX11_armNow_157 : decode cX11_armNow 157 = .ok (.iload 6, 2) := by decide +kernel
theorem dX11_armNow_159 : decode cX11_armNow 159 = .ok (.ireturn, 1) := by decide +kernel
theorem dX11_setShares_0 : decode cX11_setShares 0 = .ok (.iload_n 1, 1) := by decide +kernel
theorem dX11_setShares_1 : decode cX11_setShares 1 = .ok (.invokestatic 196, 3) := by decide +kernel
theorem dX11_setShares_4 : decode cX11_setShares 4 = .ok (.ifCond .eq 49, 3) := by decide +kernel
theorem dX11_setShares_7 : decode cX11_setShares 7 = .ok (.iload_n 2, 1) := by decide +kernel
theorem dX11_setShares_8 : decode cX11_setShares 8 = .ok (.iconst 0, 1) := by decide +kernel
theorem dX11_setShares_9 : decode cX11_setShares 9 = .ok (.bipush 100, 2) := by decide +kernel
theorem dX11_setShares_11 : decode cX11_setShares 11 = .ok (.invokestatic 99, 3) := by decide +kernel
theorem dX11_setShares_14 : decode cX11_setShares 14 = .ok (.ifCond .eq 39, 3) := by decide +kernel
theorem dX11_setShares_17 : decode cX11_setShares 17 = .ok (.iload_n 3, 1) := by decide +kernel
theorem dX11_setShares_18 : decode cX11_setShares 18 = .ok (.iconst 0, 1) := by decide +kernel
theorem dX11_setShares_19 : decode cX11_setShares 19 = .ok (.bipush 100, 2) := by decide +kernel
theorem dX11_setShares_21 : decode cX11_setShares 21 = .ok (.invokestatic 99, 3) := by decide +kernel
theorem dX11_setShares_24 : decode cX11_setShares 24 = .ok (.ifCond .eq 29, 3) := by decide +kernel
theorem dX11_setShares_27 : decode cX11_setShares 27 = .ok (.iload 4, 2) := by decide +kernel
theorem dX11_setShares_29 : decode cX11_setShares 29 = .ok (.iconst 0, 1) := by decide +kernel
theorem dX11_setShares_30 : decode cX11_setShares 30 = .ok (.bipush 100, 2) := by decide +kernel
theorem dX11_setShares_32 : decode cX11_setShares 32 = .ok (.invokestatic 99, 3) := by decide +kernel
theorem dX11_setShares_35 : decode cX11_setShares 35 = .ok (.ifCond .eq 18, 3) := by decide +kernel
theorem dX11_setShares_38 : decode cX11_setShares 38 = .ok (.iload 5, 2) := by decide +kernel
theorem dX11_setShares_40 : decode cX11_setShares 40 = .ok (.iconst 0, 1) := by decide +kernel
theorem dX11_setShares_41 : decode cX11_setShares 41 = .ok (.bipush 100, 2) := by decide +kernel
theorem dX11_setShares_43 : decode cX11_setShares 43 = .ok (.invokestatic 99, 3) := by decide +kernel
theorem dX11_setShares_46 : decode cX11_setShares 46 = .ok (.ifCond .eq 7, 3) := by decide +kernel
theorem dX11_setShares_49 : decode cX11_setShares 49 = .ok (.iconst 1, 1) := by decide +kernel
theorem dX11_setShares_50 : decode cX11_setShares 50 = .ok (.goto 4, 3) := by decide +kernel
theorem dX11_setShares_53 : decode cX11_setShares 53 = .ok (.iconst 0, 1) := by decide +kernel
theorem dX11_setShares_54 : decode cX11_setShares 54 = .ok (.istore 6, 2) := by decide +kernel
theorem dX11_setShares_56 : decode cX11_setShares 56 = .ok (.aload_n 0, 1) := by decide +kernel
theorem dX11_setShares_57 : decode cX11_setShares 57 = .ok (.iload 6, 2) := by decide +kernel
theorem dX11_setShares_59 : decode cX11_setShares 59 = .ok (.ifCond .ne 7, 3) := by decide +kernel
theorem dX11_setShares_62 : decode cX11_setShares 62 = .ok (.iconst 1, 1) := by decide +kernel
theorem dX11_setShares_63 : decode cX11_setShares 63 = .ok (.goto 17, 3) := by decide +kernel
theorem dX11_setShares_66 : decode cX11_setShares 66 = .ok (.aload_n 0, 1) := by decide +kernel
theorem dX11_setShares_67 : decode cX11_setShares 67 = .ok (.getfield 83, 3) := by decide +kernel
theorem dX11_setShares_70 : decode cX11_setShares 70 = .ok (.iload_n 1, 1) := by decide +kernel
theorem dX11_setShares_71 : decode cX11_setShares 71 = .ok (.baload, 1) := by decide +kernel
theorem dX11_setShares_72 : decode cX11_setShares 72 = .ok (.ifCond .eq 7, 3) := by decide +kernel
theorem dX11_setShares_75 : decode cX11_setShares 75 = .ok (.iconst 2, 1) := by decide +kernel
theorem dX11_setShares_76 : decode cX11_setShares 76 = .ok (.goto 4, 3) := by decide +kernel
theorem dX11_setShares_79 : decode cX11_setShares 79 = .ok (.iconst 0, 1) := by decide +kernel
theorem dX11_setShares_80 : decode cX11_setShares 80 = .ok (.invokevirtual 107, 3) := by decide +kernel
theorem dX11_setShares_83 : decode cX11_setShares 83 = .ok (.ifCond .ne 5, 3) := by decide +kernel
theorem dX11_setShares_86 : decode cX11_setShares 86 = .ok (.iconst 0, 1) := by decide +kernel
theorem dX11_setShares_87 : decode cX11_setShares 87 = .ok (.ireturn, 1) := by decide +kernel
theorem dX11_setShares_88 : decode cX11_setShares 88 = .ok (.iconst 4, 1) := by decide +kernel
theorem dX11_setShares_89 : decode cX11_setShares 89 = .ok (.iload_n 1, 1) := by decide +kernel
theorem dX11_setShares_90 : decode cX11_setShares 90 = .ok (.imul, 1) := by decide +kernel
theorem dX11_setShares_91 : decode cX11_setShares 91 = .ok (.istore 7, 2) := by decide +kernel
theorem dX11_setShares_93 : decode cX11_setShares 93 = .ok (.aload_n 0, 1) := by decide +kernel
theorem dX11_setShares_94 : decode cX11_setShares 94 = .ok (.getfield 68, 3) := by decide +kernel
theorem dX11_setShares_97 : decode cX11_setShares 97 = .ok (.iload 7, 2) := by decide +kernel
theorem dX11_setShares_99 : decode cX11_setShares 99 = .ok (.iaload, 1) := by decide +kernel
theorem dX11_setShares_100 : decode cX11_setShares 100 = .ok (.aload_n 0, 1) := by decide +kernel
theorem dX11_setShares_101 : decode cX11_setShares 101 = .ok (.getfield 68, 3) := by decide +kernel
theorem dX11_setShares_104 : decode cX11_setShares 104 = .ok (.iload 7, 2) := by decide +kernel
theorem dX11_setShares_106 : decode cX11_setShares 106 = .ok (.iconst 1, 1) := by decide +kernel
theorem dX11_setShares_107 : decode cX11_setShares 107 = .ok (.iadd, 1) := by decide +kernel
theorem dX11_setShares_108 : decode cX11_setShares 108 = .ok (.iaload, 1) := by decide +kernel
theorem dX11_setShares_109 : decode cX11_setShares 109 = .ok (.iadd, 1) := by decide +kernel
theorem dX11_setShares_110 : decode cX11_setShares 110 = .ok (.aload_n 0, 1) := by decide +kernel
theorem dX11_setShares_111 : decode cX11_setShares 111 = .ok (.getfield 68, 3) := by decide +kernel
theorem dX11_setShares_114 : decode cX11_setShares 114 = .ok (.iload 7, 2) := by decide +kernel
theorem dX11_setShares_116 : decode cX11_setShares 116 = .ok (.iconst 2, 1) := by decide +kernel
theorem dX11_setShares_117 : decode cX11_setShares 117 = .ok (.iadd, 1) := by decide +kernel
theorem dX11_setShares_118 : decode cX11_setShares 118 = .ok (.iaload, 1) := by decide +kernel
theorem dX11_setShares_119 : decode cX11_setShares 119 = .ok (.iadd, 1) := by decide +kernel
theorem dX11_setShares_120 : decode cX11_setShares 120 = .ok (.aload_n 0, 1) := by decide +kernel
theorem dX11_setShares_121 : decode cX11_setShares 121 = .ok (.getfield 68, 3) := by decide +kernel
theorem dX11_setShares_124 : decode cX11_setShares 124 = .ok (.iload 7, 2) := by decide +kernel
theorem dX11_setShares_126 : decode cX11_setShares 126 = .ok (.iconst 3, 1) := by decide +kernel
theorem dX11_setShares_127 : decode cX11_setShares 127 = .ok (.iadd, 1) := by decide +kernel
theorem dX11_setShares_128 : decode cX11_setShares 128 = .ok (.iaload, 1) := by decide +kernel
theorem dX11_setShares_129 : decode cX11_setShares 129 = .ok (.iadd, 1) := by decide +kernel
theorem dX11_setShares_130 : decode cX11_setShares 130 = .ok (.istore 8, 2) := by decide +kernel
theorem dX11_setShares_132 : decode cX11_setShares 132 = .ok (.aload_n 0, 1) := by decide +kernel
theorem dX11_setShares_133 : decode cX11_setShares 133 = .ok (.getfield 68, 3) := by decide +kernel
theorem dX11_setShares_136 : decode cX11_setShares 136 = .ok (.iload 7, 2) := by decide +kernel
theorem dX11_setShares_138 : decode cX11_setShares 138 = .ok (.iload_n 2, 1) := by decide +kernel
theorem dX11_setShares_139 : decode cX11_setShares 139 = .ok (.iastore, 1) := by decide +kernel
theorem dX11_setShares_140 : decode cX11_setShares 140 = .ok (.aload_n 0, 1) := by decide +kernel
theorem dX11_setShares_141 : decode cX11_setShares 141 = .ok (.getfield 68, 3) := by decide +kernel
theorem dX11_setShares_144 : decode cX11_setShares 144 = .ok (.iload 7, 2) := by decide +kernel
theorem dX11_setShares_146 : decode cX11_setShares 146 = .ok (.iconst 1, 1) := by decide +kernel
theorem dX11_setShares_147 : decode cX11_setShares 147 = .ok (.iadd, 1) := by decide +kernel
theorem dX11_setShares_148 : decode cX11_setShares 148 = .ok (.iload_n 3, 1) := by decide +kernel
theorem dX11_setShares_149 : decode cX11_setShares 149 = .ok (.iastore, 1) := by decide +kernel
theorem dX11_setShares_150 : decode cX11_setShares 150 = .ok (.aload_n 0, 1) := by decide +kernel
theorem dX11_setShares_151 : decode cX11_setShares 151 = .ok (.getfield 68, 3) := by decide +kernel
theorem dX11_setShares_154 : decode cX11_setShares 154 = .ok (.iload 7, 2) := by decide +kernel
theorem dX11_setShares_156 : decode cX11_setShares 156 = .ok (.iconst 2, 1) := by decide +kernel
theorem dX11_setShares_157 : decode cX11_setShares 157 = .ok (.iadd, 1) := by decide +kernel
theorem dX11_setShares_158 : decode cX11_setShares 158 = .ok (.iload 4, 2) := by decide +kernel
theorem dX11_setShares_160 : decode cX11_setShares 160 = .ok (.iastore, 1) := by decide +kernel
theorem dX11_setShares_161 : decode cX11_setShares 161 = .ok (.aload_n 0, 1) := by decide +kernel
theorem dX11_setShares_162 : decode cX11_setShares 162 = .ok (.getfield 68, 3) := by decide +kernel
theorem dX11_setShares_165 : decode cX11_setShares 165 = .ok (.iload 7, 2) := by decide +kernel
theorem dX11_setShares_167 : decode cX11_setShares 167 = .ok (.iconst 3, 1) := by decide +kernel
theorem dX11_setShares_168 : decode cX11_setShares 168 = .ok (.iadd, 1) := by decide +kernel
theorem dX11_setShares_169 : decode cX11_setShares 169 = .ok (.iload 5, 2) := by decide +kernel
theorem dX11_setShares_171 : decode cX11_setShares 171 = .ok (.iastore, 1) := by decide +kernel
theorem dX11_setShares_172 : decode cX11_setShares 172 = .ok (.iload 8, 2) := by decide +kernel
theorem dX11_setShares_174 : decode cX11_setShares 174 = .ok (.ireturn, 1) := by decide +kernel
theorem dX11_setSalt_0 : decode cX11_setSalt 0 = .ok (.iload_n 1, 1) := by decide +kernel
theorem dX11_setSalt_1 : decode cX11_setSalt 1 = .ok (.invokestatic 196, 3) := by decide +kernel
theorem dX11_setSalt_4 : decode cX11_setSalt 4 = .ok (.ifCond .eq 18, 3) := by decide +kernel
theorem dX11_setSalt_7 : decode cX11_setSalt 7 = .ok (.iload_n 2, 1) := by decide +kernel
theorem dX11_setSalt_8 : decode cX11_setSalt 8 = .ok (.iconst 0, 1) := by decide +kernel
theorem dX11_setSalt_9 : decode cX11_setSalt 9 = .ok (.sipush 1000, 3) := by decide +kernel
theorem dX11_setSalt_12 : decode cX11_setSalt 12 = .ok (.invokestatic 99, 3) := by decide +kernel
theorem dX11_setSalt_15 : decode cX11_setSalt 15 = .ok (.ifCond .eq 7, 3) := by decide +kernel
theorem dX11_setSalt_18 : decode cX11_setSalt 18 = .ok (.iconst 1, 1) := by decide +kernel
theorem dX11_setSalt_19 : decode cX11_setSalt 19 = .ok (.goto 4, 3) := by decide +kernel
theorem dX11_setSalt_22 : decode cX11_setSalt 22 = .ok (.iconst 0, 1) := by decide +kernel
theorem dX11_setSalt_23 : decode cX11_setSalt 23 = .ok (.istore_n 3, 1) := by decide +kernel
theorem dX11_setSalt_24 : decode cX11_setSalt 24 = .ok (.aload_n 0, 1) := by decide +kernel
theorem dX11_setSalt_25 : decode cX11_setSalt 25 = .ok (.iload_n 3, 1) := by decide +kernel
theorem dX11_setSalt_26 : decode cX11_setSalt 26 = .ok (.ifCond .ne 7, 3) := by decide +kernel
theorem dX11_setSalt_29 : decode cX11_setSalt 29 = .ok (.iconst 1, 1) := by decide +kernel
theorem dX11_setSalt_30 : decode cX11_setSalt 30 = .ok (.goto 17, 3) := by decide +kernel
theorem dX11_setSalt_33 : decode cX11_setSalt 33 = .ok (.aload_n 0, 1) := by decide +kernel
theorem dX11_setSalt_34 : decode cX11_setSalt 34 = .ok (.getfield 83, 3) := by decide +kernel
theorem dX11_setSalt_37 : decode cX11_setSalt 37 = .ok (.iload_n 1, 1) := by decide +kernel
theorem dX11_setSalt_38 : decode cX11_setSalt 38 = .ok (.baload, 1) := by decide +kernel
theorem dX11_setSalt_39 : decode cX11_setSalt 39 = .ok (.ifCond .eq 7, 3) := by decide +kernel
theorem dX11_setSalt_42 : decode cX11_setSalt 42 = .ok (.iconst 2, 1) := by decide +kernel
theorem dX11_setSalt_43 : decode cX11_setSalt 43 = .ok (.goto 4, 3) := by decide +kernel
theorem dX11_setSalt_46 : decode cX11_setSalt 46 = .ok (.iconst 0, 1) := by decide +kernel
theorem dX11_setSalt_47 : decode cX11_setSalt 47 = .ok (.invokevirtual 107, 3) := by decide +kernel
theorem dX11_setSalt_50 : decode cX11_setSalt 50 = .ok (.ifCond .ne 5, 3) := by decide +kernel
theorem dX11_setSalt_53 : decode cX11_setSalt 53 = .ok (.iconst 0, 1) := by decide +kernel
theorem dX11_setSalt_54 : decode cX11_setSalt 54 = .ok (.ireturn, 1) := by decide +kernel
theorem dX11_setSalt_55 : decode cX11_setSalt 55 = .ok (.aload_n 0, 1) := by decide +kernel
theorem dX11_setSalt_56 : decode cX11_setSalt 56 = .ok (.getfield 71, 3) := by decide +kernel
theorem dX11_setSalt_59 : decode cX11_setSalt 59 = .ok (.iload_n 1, 1) := by decide +kernel
theorem dX11_setSalt_60 : decode cX11_setSalt 60 = .ok (.iaload, 1) := by decide +kernel
theorem dX11_setSalt_61 : decode cX11_setSalt 61 = .ok (.istore 4, 2) := by decide +kernel
theorem dX11_setSalt_63 : decode cX11_setSalt 63 = .ok (.aload_n 0, 1) := by decide +kernel
theorem dX11_setSalt_64 : decode cX11_setSalt 64 = .ok (.getfield 71, 3) := by decide +kernel
theorem dX11_setSalt_67 : decode cX11_setSalt 67 = .ok (.iload_n 1, 1) := by decide +kernel
theorem dX11_setSalt_68 : decode cX11_setSalt 68 = .ok (.iload_n 2, 1) := by decide +kernel
theorem dX11_setSalt_69 : decode cX11_setSalt 69 = .ok (.iastore, 1) := by decide +kernel
theorem dX11_setSalt_70 : decode cX11_setSalt 70 = .ok (.iload 4, 2) := by decide +kernel
theorem dX11_setSalt_72 : decode cX11_setSalt 72 = .ok (.ireturn, 1) := by decide +kernel
theorem dX11_stop_0 : decode cX11_stop 0 = .ok (.iload_n 1, 1) := by decide +kernel
theorem dX11_stop_1 : decode cX11_stop 1 = .ok (.invokestatic 196, 3) := by decide +kernel
theorem dX11_stop_4 : decode cX11_stop 4 = .ok (.ifCond .eq 14, 3) := by decide +kernel
theorem dX11_stop_7 : decode cX11_stop 7 = .ok (.iload_n 2, 1) := by decide +kernel
theorem dX11_stop_8 : decode cX11_stop 8 = .ok (.invokestatic 188, 3) := by decide +kernel
theorem dX11_stop_11 : decode cX11_stop 11 = .ok (.ifCond .eq 7, 3) := by decide +kernel
theorem dX11_stop_14 : decode cX11_stop 14 = .ok (.iconst 1, 1) := by decide +kernel
theorem dX11_stop_15 : decode cX11_stop 15 = .ok (.goto 4, 3) := by decide +kernel
theorem dX11_stop_18 : decode cX11_stop 18 = .ok (.iconst 0, 1) := by decide +kernel
theorem dX11_stop_19 : decode cX11_stop 19 = .ok (.istore_n 3, 1) := by decide +kernel
theorem dX11_stop_20 : decode cX11_stop 20 = .ok (.aload_n 0, 1) := by decide +kernel
theorem dX11_stop_21 : decode cX11_stop 21 = .ok (.iload_n 3, 1) := by decide +kernel
theorem dX11_stop_22 : decode cX11_stop 22 = .ok (.ifCond .ne 7, 3) := by decide +kernel
theorem dX11_stop_25 : decode cX11_stop 25 = .ok (.iconst 1, 1) := by decide +kernel
theorem dX11_stop_26 : decode cX11_stop 26 = .ok (.goto 17, 3) := by decide +kernel
theorem dX11_stop_29 : decode cX11_stop 29 = .ok (.aload_n 0, 1) := by decide +kernel
theorem dX11_stop_30 : decode cX11_stop 30 = .ok (.getfield 83, 3) := by decide +kernel
theorem dX11_stop_33 : decode cX11_stop 33 = .ok (.iload_n 1, 1) := by decide +kernel
theorem dX11_stop_34 : decode cX11_stop 34 = .ok (.baload, 1) := by decide +kernel
theorem dX11_stop_35 : decode cX11_stop 35 = .ok (.ifCond .eq 7, 3) := by decide +kernel
theorem dX11_stop_38 : decode cX11_stop 38 = .ok (.iconst 2, 1) := by decide +kernel
theorem dX11_stop_39 : decode cX11_stop 39 = .ok (.goto 4, 3) := by decide +kernel
theorem dX11_stop_42 : decode cX11_stop 42 = .ok (.iconst 0, 1) := by decide +kernel
theorem dX11_stop_43 : decode cX11_stop 43 = .ok (.invokevirtual 107, 3) := by decide +kernel
theorem dX11_stop_46 : decode cX11_stop 46 = .ok (.ifCond .ne 5, 3) := by decide +kernel
theorem dX11_stop_49 : decode cX11_stop 49 = .ok (.iconst 0, 1) := by decide +kernel
theorem dX11_stop_50 : decode cX11_stop 50 = .ok (.ireturn, 1) := by decide +kernel
theorem dX11_stop_51 : decode cX11_stop 51 = .ok (.iconst 0, 1) := by decide +kernel
theorem dX11_stop_52 : decode cX11_stop 52 = .ok (.istore 4, 2) := by decide +kernel
theorem dX11_stop_54 : decode cX11_stop 54 = .ok (.iconst 0, 1) := by decide +kernel
theorem dX11_stop_55 : decode cX11_stop 55 = .ok (.istore 5, 2) := by decide +kernel
theorem dX11_stop_57 : decode cX11_stop 57 = .ok (.iload 5, 2) := by decide +kernel
theorem dX11_stop_59 : decode cX11_stop 59 = .ok (.bipush 20, 2) := by decide +kernel
theorem dX11_stop_61 : decode cX11_stop 61 = .ok (.if_icmp .ge 30, 3) := by decide +kernel
theorem dX11_stop_64 : decode cX11_stop 64 = .ok (.iload 4, 2) := by decide +kernel
theorem dX11_stop_66 : decode cX11_stop 66 = .ok (.aload_n 0, 1) := by decide +kernel
theorem dX11_stop_67 : decode cX11_stop 67 = .ok (.iload_n 1, 1) := by decide +kernel
theorem dX11_stop_68 : decode cX11_stop 68 = .ok (.iload 5, 2) := by decide +kernel
theorem dX11_stop_70 : decode cX11_stop 70 = .ok (.invokevirtual 179, 3) := by decide +kernel
theorem dX11_stop_73 : decode cX11_stop 73 = .ok (.iload_n 2, 1) := by decide +kernel
theorem dX11_stop_74 : decode cX11_stop 74 = .ok (.if_icmp .ne 7, 3) := by decide +kernel
theorem dX11_stop_77 : decode cX11_stop 77 = .ok (.iconst 0, 1) := by decide +kernel
theorem dX11_stop_78 : decode cX11_stop 78 = .ok (.goto 4, 3) := by decide +kernel
theorem dX11_stop_81 : decode cX11_stop 81 = .ok (.iconst 1, 1) := by decide +kernel
theorem dX11_stop_82 : decode cX11_stop 82 = .ok (.iadd, 1) := by decide +kernel
theorem dX11_stop_83 : decode cX11_stop 83 = .ok (.istore 4, 2) := by decide +kernel
theorem dX11_stop_85 : decode cX11_stop 85 = .ok (.iinc 5 1, 3) := by decide +kernel
theorem dX11_stop_88 : decode cX11_stop 88 = .ok (.goto (-31), 3) := by decide +kernel
theorem dX11_stop_91 : decode cX11_stop 91 = .ok (.aload_n 0, 1) := by decide +kernel
theorem dX11_stop_92 : decode cX11_stop 92 = .ok (.getfield 74, 3) := by decide +kernel
theorem dX11_stop_95 : decode cX11_stop 95 = .ok (.iload_n 1, 1) := by decide +kernel
theorem dX11_stop_96 : decode cX11_stop 96 = .ok (.iload_n 2, 1) := by decide +kernel
theorem dX11_stop_97 : decode cX11_stop 97 = .ok (.iconst 1, 1) := by decide +kernel
theorem dX11_stop_98 : decode cX11_stop 98 = .ok (.iadd, 1) := by decide +kernel
theorem dX11_stop_99 : decode cX11_stop 99 = .ok (.iastore, 1) := by decide +kernel
theorem dX11_stop_100 : decode cX11_stop 100 = .ok (.iload 4, 2) := by decide +kernel
theorem dX11_stop_102 : decode cX11_stop 102 = .ok (.ireturn, 1) := by decide +kernel
theorem dX11_beginAnew_0 : decode cX11_beginAnew 0 = .ok (.iload_n 1, 1) := by decide +kernel
theorem dX11_beginAnew_1 : decode cX11_beginAnew 1 = .ok (.invokestatic 196, 3) := by decide +kernel
theorem dX11_beginAnew_4 : decode cX11_beginAnew 4 = .ok (.istore_n 2, 1) := by decide +kernel
theorem dX11_beginAnew_5 : decode cX11_beginAnew 5 = .ok (.aload_n 0, 1) := by decide +kernel
theorem dX11_beginAnew_6 : decode cX11_beginAnew 6 = .ok (.iload_n 2, 1) := by decide +kernel
theorem dX11_beginAnew_7 : decode cX11_beginAnew 7 = .ok (.ifCond .ne 7, 3) := by decide +kernel
theorem dX11_beginAnew_10 : decode cX11_beginAnew 10 = .ok (.iconst 1, 1) := by decide +kernel
theorem dX11_beginAnew_11 : decode cX11_beginAnew 11 = .ok (.goto 27, 3) := by decide +kernel
theorem dX11_beginAnew_14 : decode cX11_beginAnew 14 = .ok (.aload_n 0, 1) := by decide +kernel
theorem dX11_beginAnew_15 : decode cX11_beginAnew 15 = .ok (.getfield 83, 3) := by decide +kernel
theorem dX11_beginAnew_18 : decode cX11_beginAnew 18 = .ok (.iload_n 1, 1) := by decide +kernel
theorem dX11_beginAnew_19 : decode cX11_beginAnew 19 = .ok (.baload, 1) := by decide +kernel
theorem dX11_beginAnew_20 : decode cX11_beginAnew 20 = .ok (.ifCond .ne 13, 3) := by decide +kernel
theorem dX11_beginAnew_23 : decode cX11_beginAnew 23 = .ok (.aload_n 0, 1) := by decide +kernel
theorem dX11_beginAnew_24 : decode cX11_beginAnew 24 = .ok (.getfield 191, 3) := by decide +kernel
theorem dX11_beginAnew_27 : decode cX11_beginAnew 27 = .ok (.sipush 400, 3) := by decide +kernel
theorem dX11_beginAnew_30 : decode cX11_beginAnew 30 = .ok (.if_icmp .ne 7, 3) := by decide +kernel
theorem dX11_beginAnew_33 : decode cX11_beginAnew 33 = .ok (.iconst 2, 1) := by decide +kernel
theorem dX11_beginAnew_34 : decode cX11_beginAnew 34 = .ok (.goto 4, 3) := by decide +kernel
theorem dX11_beginAnew_37 : decode cX11_beginAnew 37 = .ok (.iconst 0, 1) := by decide +kernel
theorem dX11_beginAnew_38 : decode cX11_beginAnew 38 = .ok (.invokevirtual 107, 3) := by decide +kernel
theorem dX11_beginAnew_41 : decode cX11_beginAnew 41 = .ok (.ifCond .ne 5, 3) := by decide +kernel
theorem dX11_beginAnew_44 : decode cX11_beginAnew 44 = .ok (.iconst 0, 1) := by decide +kernel
theorem dX11_beginAnew_45 : decode cX11_beginAnew 45 = .ok (.ireturn, 1) := by decide +kernel
theorem dX11_beginAnew_46 : decode cX11_beginAnew 46 = .ok (.iconst 0, 1) := by decide +kernel
theorem dX11_beginAnew_47 : decode cX11_beginAnew 47 = .ok (.istore_n 3, 1) := by decide +kernel
theorem dX11_beginAnew_48 : decode cX11_beginAnew 48 = .ok (.iconst 0, 1) := by decide +kernel
theorem dX11_beginAnew_49 : decode cX11_beginAnew 49 = .ok (.istore 4, 2) := by decide +kernel
theorem dX11_beginAnew_51 : decode cX11_beginAnew 51 = .ok (.iload 4, 2) := by decide +kernel
theorem dX11_beginAnew_53 : decode cX11_beginAnew 53 = .ok (.bipush 20, 2) := by decide +kernel
theorem dX11_beginAnew_55 : decode cX11_beginAnew 55 = .ok (.if_icmp .ge 45, 3) := by decide +kernel
theorem dX11_beginAnew_58 : decode cX11_beginAnew 58 = .ok (.iload_n 3, 1) := by decide +kernel
theorem dX11_beginAnew_59 : decode cX11_beginAnew 59 = .ok (.aload_n 0, 1) := by decide +kernel
theorem dX11_beginAnew_60 : decode cX11_beginAnew 60 = .ok (.getfield 77, 3) := by decide +kernel
theorem dX11_beginAnew_63 : decode cX11_beginAnew 63 = .ok (.bipush 20, 2) := by decide +kernel
theorem dX11_beginAnew_65 : decode cX11_beginAnew 65 = .ok (.iload_n 1, 1) := by decide +kernel
theorem dX11_beginAnew_66 : decode cX11_beginAnew 66 = .ok (.imul, 1) := by decide +kernel
theorem dX11_beginAnew_67 : decode cX11_beginAnew 67 = .ok (.iload 4, 2) := by decide +kernel
theorem dX11_beginAnew_69 : decode cX11_beginAnew 69 = .ok (.iadd, 1) := by decide +kernel
theorem dX11_beginAnew_70 : decode cX11_beginAnew 70 = .ok (.iaload, 1) := by decide +kernel
theorem dX11_beginAnew_71 : decode cX11_beginAnew 71 = .ok (.ifCond .le 7, 3) := by decide +kernel
theorem dX11_beginAnew_74 : decode cX11_beginAnew 74 = .ok (.iconst 1, 1) := by decide +kernel
theorem dX11_beginAnew_75 : decode cX11_beginAnew 75 = .ok (.goto 4, 3) := by decide +kernel
theorem dX11_beginAnew_78 : decode cX11_beginAnew 78 = .ok (.iconst 0, 1) := by decide +kernel
theorem dX11_beginAnew_79 : decode cX11_beginAnew 79 = .ok (.iadd, 1) := by decide +kernel
theorem dX11_beginAnew_80 : decode cX11_beginAnew 80 = .ok (.istore_n 3, 1) := by decide +kernel
theorem dX11_beginAnew_81 : decode cX11_beginAnew 81 = .ok (.aload_n 0, 1) := by decide +kernel
theorem dX11_beginAnew_82 : decode cX11_beginAnew 82 = .ok (.getfield 77, 3) := by decide +kernel
theorem dX11_beginAnew_85 : decode cX11_beginAnew 85 = .ok (.bipush 20, 2) := by decide +kernel
theorem dX11_beginAnew_87 : decode cX11_beginAnew 87 = .ok (.iload_n 1, 1) := by decide +kernel
theorem dX11_beginAnew_88 : decode cX11_beginAnew 88 = .ok (.imul, 1) := by decide +kernel
theorem dX11_beginAnew_89 : decode cX11_beginAnew 89 = .ok (.iload 4, 2) := by decide +kernel
theorem dX11_beginAnew_91 : decode cX11_beginAnew 91 = .ok (.iadd, 1) := by decide +kernel
theorem dX11_beginAnew_92 : decode cX11_beginAnew 92 = .ok (.iconst 0, 1) := by decide +kernel
theorem dX11_beginAnew_93 : decode cX11_beginAnew 93 = .ok (.iastore, 1) := by decide +kernel
theorem dX11_beginAnew_94 : decode cX11_beginAnew 94 = .ok (.iinc 4 1, 3) := by decide +kernel
theorem dX11_beginAnew_97 : decode cX11_beginAnew 97 = .ok (.goto (-46), 3) := by decide +kernel
theorem dX11_beginAnew_100 : decode cX11_beginAnew 100 = .ok (.iconst 0, 1) := by decide +kernel
theorem dX11_beginAnew_101 : decode cX11_beginAnew 101 = .ok (.istore 4, 2) := by decide +kernel
theorem dX11_beginAnew_103 : decode cX11_beginAnew 103 = .ok (.iload 4, 2) := by decide +kernel
theorem dX11_beginAnew_105 : decode cX11_beginAnew 105 = .ok (.sipush 160, 3) := by decide +kernel
theorem dX11_beginAnew_108 : decode cX11_beginAnew 108 = .ok (.if_icmp .ge 23, 3) := by decide +kernel
theorem dX11_beginAnew_111 : decode cX11_beginAnew 111 = .ok (.aload_n 0, 1) := by decide +kernel
theorem dX11_beginAnew_112 : decode cX11_beginAnew 112 = .ok (.getfield 80, 3) := by decide +kernel
theorem dX11_beginAnew_115 : decode cX11_beginAnew 115 = .ok (.sipush 160, 3) := by decide +kernel
theorem dX11_beginAnew_118 : decode cX11_beginAnew 118 = .ok (.iload_n 1, 1) := by decide +kernel
theorem dX11_beginAnew_119 : decode cX11_beginAnew 119 = .ok (.imul, 1) := by decide +kernel
theorem dX11_beginAnew_120 : decode cX11_beginAnew 120 = .ok (.iload 4, 2) := by decide +kernel
theorem dX11_beginAnew_122 : decode cX11_beginAnew 122 = .ok (.iadd, 1) := by decide +kernel
theorem dX11_beginAnew_123 : decode cX11_beginAnew 123 = .ok (.iconst 0, 1) := by decide +kernel
theorem dX11_beginAnew_124 : decode cX11_beginAnew 124 = .ok (.iastore, 1) := by decide +kernel
theorem dX11_beginAnew_125 : decode cX11_beginAnew 125 = .ok (.iinc 4 1, 3) := by decide +kernel
theorem dX11_beginAnew_128 : decode cX11_beginAnew 128 = .ok (.goto (-25), 3) := by decide +kernel
theorem dX11_beginAnew_131 : decode cX11_beginAnew 131 = .ok (.aload_n 0, 1) := by decide +kernel
theorem dX11_beginAnew_132 : decode cX11_beginAnew 132 = .ok (.getfield 74, 3) := by decide +kernel
theorem dX11_beginAnew_135 : decode cX11_beginAnew 135 = .ok (.iload_n 1, 1) := by decide +kernel
theorem dX11_beginAnew_136 : decode cX11_beginAnew 136 = .ok (.iconst 0, 1) := by decide +kernel
theorem dX11_beginAnew_137 : decode cX11_beginAnew 137 = .ok (.iastore, 1) := by decide +kernel
theorem dX11_beginAnew_138 : decode cX11_beginAnew 138 = .ok (.aload_n 0, 1) := by decide +kernel
theorem dX11_beginAnew_139 : decode cX11_beginAnew 139 = .ok (.dup, 1) := by decide +kernel
theorem dX11_beginAnew_140 : decode cX11_beginAnew 140 = .ok (.getfield 191, 3) := by decide +kernel
theorem dX11_beginAnew_143 : decode cX11_beginAnew 143 = .ok (.iconst 1, 1) := by decide +kernel
theorem dX11_beginAnew_144 : decode cX11_beginAnew 144 = .ok (.iadd, 1) := by decide +kernel
theorem dX11_beginAnew_145 : decode cX11_beginAnew 145 = .ok (.putfield 191, 3) := by decide +kernel
theorem dX11_beginAnew_148 : decode cX11_beginAnew 148 = .ok (.iload_n 3, 1) := by decide +kernel
theorem dX11_beginAnew_149 : decode cX11_beginAnew 149 = .ok (.ireturn, 1) := by decide +kernel
theorem dX11_arm_0 : decode cX11_arm 0 = .ok (.aload_n 0, 1) := by decide +kernel
theorem dX11_arm_1 : decode cX11_arm 1 = .ok (.iload_n 1, 1) := by decide +kernel
theorem dX11_arm_2 : decode cX11_arm 2 = .ok (.invokestatic 196, 3) := by decide +kernel
theorem dX11_arm_5 : decode cX11_arm 5 = .ok (.ifCond .eq 14, 3) := by decide +kernel
theorem dX11_arm_8 : decode cX11_arm 8 = .ok (.iload_n 2, 1) := by decide +kernel
theorem dX11_arm_9 : decode cX11_arm 9 = .ok (.invokestatic 103, 3) := by decide +kernel
theorem dX11_arm_12 : decode cX11_arm 12 = .ok (.ifCond .eq 7, 3) := by decide +kernel
theorem dX11_arm_15 : decode cX11_arm 15 = .ok (.iconst 0, 1) := by decide +kernel
theorem dX11_arm_16 : decode cX11_arm 16 = .ok (.goto 4, 3) := by decide +kernel
theorem dX11_arm_19 : decode cX11_arm 19 = .ok (.iconst 1, 1) := by decide +kernel
theorem dX11_arm_20 : decode cX11_arm 20 = .ok (.invokevirtual 107, 3) := by decide +kernel
theorem dX11_arm_23 : decode cX11_arm 23 = .ok (.ifCond .eq 12, 3) := by decide +kernel
theorem dX11_arm_26 : decode cX11_arm 26 = .ok (.aload_n 0, 1) := by decide +kernel
theorem dX11_arm_27 : decode cX11_arm 27 = .ok (.iload_n 1, 1) := by decide +kernel
theorem dX11_arm_28 : decode cX11_arm 28 = .ok (.iload_n 2, 1) := by decide +kernel
theorem dX11_arm_29 : decode cX11_arm 29 = .ok (.invokevirtual 179, 3) := by decide +kernel
theorem dX11_arm_32 : decode cX11_arm 32 = .ok (.goto 4, 3) := by decide +kernel
theorem dX11_arm_35 : decode cX11_arm 35 = .ok (.iconst 0, 1) := by decide +kernel
theorem dX11_arm_36 : decode cX11_arm 36 = .ok (.ireturn, 1) := by decide +kernel
theorem dX11_kept_0 : decode cX11_kept 0 = .ok (.aload_n 0, 1) := by decide +kernel
theorem dX11_kept_1 : decode cX11_kept 1 = .ok (.iload_n 1, 1) := by decide +kernel
theorem dX11_kept_2 : decode cX11_kept 2 = .ok (.invokestatic 196, 3) := by decide +kernel
theorem dX11_kept_5 : decode cX11_kept 5 = .ok (.ifCond .eq 14, 3) := by decide +kernel
theorem dX11_kept_8 : decode cX11_kept 8 = .ok (.iload_n 2, 1) := by decide +kernel
theorem dX11_kept_9 : decode cX11_kept 9 = .ok (.invokestatic 103, 3) := by decide +kernel
theorem dX11_kept_12 : decode cX11_kept 12 = .ok (.ifCond .eq 7, 3) := by decide +kernel
theorem dX11_kept_15 : decode cX11_kept 15 = .ok (.iconst 0, 1) := by decide +kernel
theorem dX11_kept_16 : decode cX11_kept 16 = .ok (.goto 4, 3) := by decide +kernel
theorem dX11_kept_19 : decode cX11_kept 19 = .ok (.iconst 1, 1) := by decide +kernel
theorem dX11_kept_20 : decode cX11_kept 20 = .ok (.invokevirtual 107, 3) := by decide +kernel
theorem dX11_kept_23 : decode cX11_kept 23 = .ok (.ifCond .eq 19, 3) := by decide +kernel
theorem dX11_kept_26 : decode cX11_kept 26 = .ok (.aload_n 0, 1) := by decide +kernel
theorem dX11_kept_27 : decode cX11_kept 27 = .ok (.getfield 77, 3) := by decide +kernel
theorem dX11_kept_30 : decode cX11_kept 30 = .ok (.bipush 20, 2) := by decide +kernel
theorem dX11_kept_32 : decode cX11_kept 32 = .ok (.iload_n 1, 1) := by decide +kernel
theorem dX11_kept_33 : decode cX11_kept 33 = .ok (.imul, 1) := by decide +kernel
theorem dX11_kept_34 : decode cX11_kept 34 = .ok (.iload_n 2, 1) := by decide +kernel
theorem dX11_kept_35 : decode cX11_kept 35 = .ok (.iadd, 1) := by decide +kernel
theorem dX11_kept_36 : decode cX11_kept 36 = .ok (.iaload, 1) := by decide +kernel
theorem dX11_kept_37 : decode cX11_kept 37 = .ok (.iconst 1, 1) := by decide +kernel
theorem dX11_kept_38 : decode cX11_kept 38 = .ok (.isub, 1) := by decide +kernel
theorem dX11_kept_39 : decode cX11_kept 39 = .ok (.goto 4, 3) := by decide +kernel
theorem dX11_kept_42 : decode cX11_kept 42 = .ok (.iconst 0, 1) := by decide +kernel
theorem dX11_kept_43 : decode cX11_kept 43 = .ok (.ireturn, 1) := by decide +kernel
theorem dX11_hold_0 : decode cX11_hold 0 = .ok (.iload_n 1, 1) := by decide +kernel
theorem dX11_hold_1 : decode cX11_hold 1 = .ok (.invokestatic 103, 3) := by decide +kernel
theorem dX11_hold_4 : decode cX11_hold 4 = .ok (.ifCond .eq 14, 3) := by decide +kernel
theorem dX11_hold_7 : decode cX11_hold 7 = .ok (.iload_n 2, 1) := by decide +kernel
theorem dX11_hold_8 : decode cX11_hold 8 = .ok (.invokestatic 167, 3) := by decide +kernel
theorem dX11_hold_11 : decode cX11_hold 11 = .ok (.ifCond .eq 7, 3) := by decide +kernel
theorem dX11_hold_14 : decode cX11_hold 14 = .ok (.iconst 1, 1) := by decide +kernel
theorem dX11_hold_15 : decode cX11_hold 15 = .ok (.goto 4, 3) := by decide +kernel
theorem dX11_hold_18 : decode cX11_hold 18 = .ok (.iconst 0, 1) := by decide +kernel
theorem dX11_hold_19 : decode cX11_hold 19 = .ok (.istore_n 3, 1) := by decide +kernel
theorem dX11_hold_20 : decode cX11_hold 20 = .ok (.iload_n 3, 1) := by decide +kernel
theorem dX11_hold_21 : decode cX11_hold 21 = .ok (.ifCond .eq 12, 3) := by decide +kernel
theorem dX11_hold_24 : decode cX11_hold 24 = .ok (.bipush 8, 2) := by decide +kernel
theorem dX11_hold_26 : decode cX11_hold 26 = .ok (.iload_n 1, 1) := by decide +kernel
theorem dX11_hold_27 : decode cX11_hold 27 = .ok (.imul, 1) := by decide +kernel
theorem dX11_hold_28 : decode cX11_hold 28 = .ok (.iload_n 2, 1) := by decide +kernel
theorem dX11_hold_29 : decode cX11_hold 29 = .ok (.iadd, 1) := by decide +kernel
theorem dX11_hold_30 : decode cX11_hold 30 = .ok (.goto 4, 3) := by decide +kernel
theorem dX11_hold_33 : decode cX11_hold 33 = .ok (.iconst 0, 1) := by decide +kernel
theorem dX11_hold_34 : decode cX11_hold 34 = .ok (.istore 4, 2) := by decide +kernel
theorem dX11_hold_36 : decode cX11_hold 36 = .ok (.aload_n 0, 1) := by decide +kernel
theorem dX11_hold_37 : decode cX11_hold 37 = .ok (.iload_n 3, 1) := by decide +kernel
theorem dX11_hold_38 : decode cX11_hold 38 = .ok (.ifCond .ne 7, 3) := by decide +kernel
theorem dX11_hold_41 : decode cX11_hold 41 = .ok (.iconst 1, 1) := by decide +kernel
theorem dX11_hold_42 : decode cX11_hold 42 = .ok (.goto 30, 3) := by decide +kernel
theorem dX11_hold_45 : decode cX11_hold 45 = .ok (.aload_n 0, 1) := by decide +kernel
theorem dX11_hold_46 : decode cX11_hold 46 = .ok (.getfield 86, 3) := by decide +kernel
theorem dX11_hold_49 : decode cX11_hold 49 = .ok (.iload 4, 2) := by decide +kernel
theorem dX11_hold_51 : decode cX11_hold 51 = .ok (.iaload, 1) := by decide +kernel
theorem dX11_hold_52 : decode cX11_hold 52 = .ok (.bipush 64, 2) := by decide +kernel
theorem dX11_hold_54 : decode cX11_hold 54 = .ok (.if_icmp .ge 13, 3) := by decide +kernel
theorem dX11_hold_57 : decode cX11_hold 57 = .ok (.aload_n 0, 1) := by decide +kernel
theorem dX11_hold_58 : decode cX11_hold 58 = .ok (.getfield 191, 3) := by decide +kernel
theorem dX11_hold_61 : decode cX11_hold 61 = .ok (.sipush 400, 3) := by decide +kernel
theorem dX11_hold_64 : decode cX11_hold 64 = .ok (.if_icmp .ne 7, 3) := by decide +kernel
theorem dX11_hold_67 : decode cX11_hold 67 = .ok (.iconst 2, 1) := by decide +kernel
theorem dX11_hold_68 : decode cX11_hold 68 = .ok (.goto 4, 3) := by decide +kernel
theorem dX11_hold_71 : decode cX11_hold 71 = .ok (.iconst 0, 1) := by decide +kernel
theorem dX11_hold_72 : decode cX11_hold 72 = .ok (.invokevirtual 107, 3) := by decide +kernel
theorem dX11_hold_75 : decode cX11_hold 75 = .ok (.ifCond .ne 5, 3) := by decide +kernel
theorem dX11_hold_78 : decode cX11_hold 78 = .ok (.iconst 0, 1) := by decide +kernel
theorem dX11_hold_79 : decode cX11_hold 79 = .ok (.ireturn, 1) := by decide +kernel
theorem dX11_hold_80 : decode cX11_hold 80 = .ok (.aload_n 0, 1) := by decide +kernel
theorem dX11_hold_81 : decode cX11_hold 81 = .ok (.invokevirtual 164, 3) := by decide +kernel
theorem dX11_hold_84 : decode cX11_hold 84 = .ok (.aload_n 0, 1) := by decide +kernel
theorem dX11_hold_85 : decode cX11_hold 85 = .ok (.getfield 89, 3) := by decide +kernel
theorem dX11_hold_88 : decode cX11_hold 88 = .ok (.iload 4, 2) := by decide +kernel
theorem dX11_hold_90 : decode cX11_hold 90 = .ok (.aload_n 0, 1) := by decide +kernel
theorem dX11_hold_91 : decode cX11_hold 91 = .ok (.getfield 62, 3) := by decide +kernel
theorem dX11_hold_94 : decode cX11_hold 94 = .ok (.iload 4, 2) := by decide +kernel
theorem dX11_hold_96 : decode cX11_hold 96 = .ok (.iaload, 1) := by decide +kernel
theorem dX11_hold_97 : decode cX11_hold 97 = .ok (.iastore, 1) := by decide +kernel
theorem dX11_hold_98 : decode cX11_hold 98 = .ok (.aload_n 0, 1) := by decide +kernel
theorem dX11_hold_99 : decode cX11_hold 99 = .ok (.getfield 86, 3) := by decide +kernel
theorem dX11_hold_102 : decode cX11_hold 102 = .ok (.iload 4, 2) := by decide +kernel
theorem dX11_hold_104 : decode cX11_hold 104 = .ok (.dup2, 1) := by decide +kernel
theorem dX11_hold_105 : decode cX11_hold 105 = .ok (.iaload, 1) := by decide +kernel
theorem dX11_hold_106 : decode cX11_hold 106 = .ok (.bipush 64, 2) := by decide +kernel
theorem dX11_hold_108 : decode cX11_hold 108 = .ok (.iadd, 1) := by decide +kernel
theorem dX11_hold_109 : decode cX11_hold 109 = .ok (.iastore, 1) := by decide +kernel
theorem dX11_hold_110 : decode cX11_hold 110 = .ok (.aload_n 0, 1) := by decide +kernel
theorem dX11_hold_111 : decode cX11_hold 111 = .ok (.dup, 1) := by decide +kernel
theorem dX11_hold_112 : decode cX11_hold 112 = .ok (.getfield 191, 3) := by decide +kernel
theorem dX11_hold_115 : decode cX11_hold 115 = .ok (.iconst 1, 1) := by decide +kernel
theorem dX11_hold_116 : decode cX11_hold 116 = .ok (.iadd, 1) := by decide +kernel
theorem dX11_hold_117 : decode cX11_hold 117 = .ok (.putfield 191, 3) := by decide +kernel
theorem dX11_hold_120 : decode cX11_hold 120 = .ok (.aload_n 0, 1) := by decide +kernel
theorem dX11_hold_121 : decode cX11_hold 121 = .ok (.getfield 89, 3) := by decide +kernel
theorem dX11_hold_124 : decode cX11_hold 124 = .ok (.iload 4, 2) := by decide +kernel
theorem dX11_hold_126 : decode cX11_hold 126 = .ok (.iaload, 1) := by decide +kernel
theorem dX11_hold_127 : decode cX11_hold 127 = .ok (.ireturn, 1) := by decide +kernel
theorem dX11_release_0 : decode cX11_release 0 = .ok (.iload_n 1, 1) := by decide +kernel
theorem dX11_release_1 : decode cX11_release 1 = .ok (.invokestatic 103, 3) := by decide +kernel
theorem dX11_release_4 : decode cX11_release 4 = .ok (.ifCond .eq 14, 3) := by decide +kernel
theorem dX11_release_7 : decode cX11_release 7 = .ok (.iload_n 2, 1) := by decide +kernel
theorem dX11_release_8 : decode cX11_release 8 = .ok (.invokestatic 167, 3) := by decide +kernel
theorem dX11_release_11 : decode cX11_release 11 = .ok (.ifCond .eq 7, 3) := by decide +kernel
theorem dX11_release_14 : decode cX11_release 14 = .ok (.iconst 1, 1) := by decide +kernel
theorem dX11_release_15 : decode cX11_release 15 = .ok (.goto 4, 3) := by decide +kernel
theorem dX11_release_18 : decode cX11_release 18 = .ok (.iconst 0, 1) := by decide +kernel
theorem dX11_release_19 : decode cX11_release 19 = .ok (.istore_n 3, 1) := by decide +kernel
theorem dX11_release_20 : decode cX11_release 20 = .ok (.iload_n 3, 1) := by decide +kernel
theorem dX11_release_21 : decode cX11_release 21 = .ok (.ifCond .eq 12, 3) := by decide +kernel
theorem dX11_release_24 : decode cX11_release 24 = .ok (.bipush 8, 2) := by decide +kernel
theorem dX11_release_26 : decode cX11_release 26 = .ok (.iload_n 1, 1) := by decide +kernel
theorem dX11_release_27 : decode cX11_release 27 = .ok (.imul, 1) := by decide +kernel
theorem dX11_release_28 : decode cX11_release 28 = .ok (.iload_n 2, 1) := by decide +kernel
theorem dX11_release_29 : decode cX11_release 29 = .ok (.iadd, 1) := by decide +kernel
theorem dX11_release_30 : decode cX11_release 30 = .ok (.goto 4, 3) := by decide +kernel
theorem dX11_release_33 : decode cX11_release 33 = .ok (.iconst 0, 1) := by decide +kernel
theorem dX11_release_34 : decode cX11_release 34 = .ok (.istore 4, 2) := by decide +kernel
theorem dX11_release_36 : decode cX11_release 36 = .ok (.aload_n 0, 1) := by decide +kernel
theorem dX11_release_37 : decode cX11_release 37 = .ok (.iload_n 3, 1) := by decide +kernel
theorem dX11_release_38 : decode cX11_release 38 = .ok (.ifCond .ne 7, 3) := by decide +kernel
theorem dX11_release_41 : decode cX11_release 41 = .ok (.iconst 1, 1) := by decide +kernel
theorem dX11_release_42 : decode cX11_release 42 = .ok (.goto 30, 3) := by decide +kernel
theorem dX11_release_45 : decode cX11_release 45 = .ok (.aload_n 0, 1) := by decide +kernel
theorem dX11_release_46 : decode cX11_release 46 = .ok (.getfield 86, 3) := by decide +kernel
theorem dX11_release_49 : decode cX11_release 49 = .ok (.iload 4, 2) := by decide +kernel
theorem dX11_release_51 : decode cX11_release 51 = .ok (.iaload, 1) := by decide +kernel
theorem dX11_release_52 : decode cX11_release 52 = .ok (.bipush 64, 2) := by decide +kernel
theorem dX11_release_54 : decode cX11_release 54 = .ok (.if_icmp .lt 13, 3) := by decide +kernel
theorem dX11_release_57 : decode cX11_release 57 = .ok (.aload_n 0, 1) := by decide +kernel
theorem dX11_release_58 : decode cX11_release 58 = .ok (.getfield 191, 3) := by decide +kernel
theorem dX11_release_61 : decode cX11_release 61 = .ok (.sipush 400, 3) := by decide +kernel
theorem dX11_release_64 : decode cX11_release 64 = .ok (.if_icmp .ne 7, 3) := by decide +kernel
theorem dX11_release_67 : decode cX11_release 67 = .ok (.iconst 2, 1) := by decide +kernel
theorem dX11_release_68 : decode cX11_release 68 = .ok (.goto 4, 3) := by decide +kernel
theorem dX11_release_71 : decode cX11_release 71 = .ok (.iconst 0, 1) := by decide +kernel
theorem dX11_release_72 : decode cX11_release 72 = .ok (.invokevirtual 107, 3) := by decide +kernel
theorem dX11_release_75 : decode cX11_release 75 = .ok (.ifCond .ne 5, 3) := by decide +kernel
theorem dX11_release_78 : decode cX11_release 78 = .ok (.iconst 0, 1) := by decide +kernel
theorem dX11_release_79 : decode cX11_release 79 = .ok (.ireturn, 1) := by decide +kernel
theorem dX11_release_80 : decode cX11_release 80 = .ok (.aload_n 0, 1) := by decide +kernel
theorem dX11_release_81 : decode cX11_release 81 = .ok (.getfield 86, 3) := by decide +kernel
theorem dX11_release_84 : decode cX11_release 84 = .ok (.iload 4, 2) := by decide +kernel
theorem dX11_release_86 : decode cX11_release 86 = .ok (.dup2, 1) := by decide +kernel
theorem dX11_release_87 : decode cX11_release 87 = .ok (.iaload, 1) := by decide +kernel
theorem dX11_release_88 : decode cX11_release 88 = .ok (.bipush 64, 2) := by decide +kernel
theorem dX11_release_90 : decode cX11_release 90 = .ok (.isub, 1) := by decide +kernel
theorem dX11_release_91 : decode cX11_release 91 = .ok (.iastore, 1) := by decide +kernel
theorem dX11_release_92 : decode cX11_release 92 = .ok (.aload_n 0, 1) := by decide +kernel
theorem dX11_release_93 : decode cX11_release 93 = .ok (.dup, 1) := by decide +kernel
theorem dX11_release_94 : decode cX11_release 94 = .ok (.getfield 191, 3) := by decide +kernel
theorem dX11_release_97 : decode cX11_release 97 = .ok (.iconst 1, 1) := by decide +kernel
theorem dX11_release_98 : decode cX11_release 98 = .ok (.iadd, 1) := by decide +kernel
theorem dX11_release_99 : decode cX11_release 99 = .ok (.putfield 191, 3) := by decide +kernel
theorem dX11_release_102 : decode cX11_release 102 = .ok (.aload_n 0, 1) := by decide +kernel
theorem dX11_release_103 : decode cX11_release 103 = .ok (.invokevirtual 164, 3) := by decide +kernel
theorem dX11_release_106 : decode cX11_release 106 = .ok (.aload_n 0, 1) := by decide +kernel
theorem dX11_release_107 : decode cX11_release 107 = .ok (.getfield 62, 3) := by decide +kernel
theorem dX11_release_110 : decode cX11_release 110 = .ok (.iload 4, 2) := by decide +kernel
theorem dX11_release_112 : decode cX11_release 112 = .ok (.iaload, 1) := by decide +kernel
theorem dX11_release_113 : decode cX11_release 113 = .ok (.ireturn, 1) := by decide +kernel
theorem dX11_holdTrial_0 : decode cX11_holdTrial 0 = .ok (.iload_n 1, 1) := by decide +kernel
theorem dX11_holdTrial_1 : decode cX11_holdTrial 1 = .ok (.invokestatic 196, 3) := by decide +kernel
theorem dX11_holdTrial_4 : decode cX11_holdTrial 4 = .ok (.istore_n 2, 1) := by decide +kernel
theorem dX11_holdTrial_5 : decode cX11_holdTrial 5 = .ok (.aload_n 0, 1) := by decide +kernel
theorem dX11_holdTrial_6 : decode cX11_holdTrial 6 = .ok (.iload_n 2, 1) := by decide +kernel
theorem dX11_holdTrial_7 : decode cX11_holdTrial 7 = .ok (.ifCond .ne 7, 3) := by decide +kernel
theorem dX11_holdTrial_10 : decode cX11_holdTrial 10 = .ok (.iconst 1, 1) := by decide +kernel
theorem dX11_holdTrial_11 : decode cX11_holdTrial 11 = .ok (.goto 27, 3) := by decide +kernel
theorem dX11_holdTrial_14 : decode cX11_holdTrial 14 = .ok (.aload_n 0, 1) := by decide +kernel
theorem dX11_holdTrial_15 : decode cX11_holdTrial 15 = .ok (.getfield 83, 3) := by decide +kernel
theorem dX11_holdTrial_18 : decode cX11_holdTrial 18 = .ok (.iload_n 1, 1) := by decide +kernel
theorem dX11_holdTrial_19 : decode cX11_holdTrial 19 = .ok (.baload, 1) := by decide +kernel
theorem dX11_holdTrial_20 : decode cX11_holdTrial 20 = .ok (.ifCond .ne 13, 3) := by decide +kernel
theorem dX11_holdTrial_23 : decode cX11_holdTrial 23 = .ok (.aload_n 0, 1) := by decide +kernel
theorem dX11_holdTrial_24 : decode cX11_holdTrial 24 = .ok (.getfield 191, 3) := by decide +kernel
theorem dX11_holdTrial_27 : decode cX11_holdTrial 27 = .ok (.sipush 400, 3) := by decide +kernel
theorem dX11_holdTrial_30 : decode cX11_holdTrial 30 = .ok (.if_icmp .ne 7, 3) := by decide +kernel
theorem dX11_holdTrial_33 : decode cX11_holdTrial 33 = .ok (.iconst 2, 1) := by decide +kernel
theorem dX11_holdTrial_34 : decode cX11_holdTrial 34 = .ok (.goto 4, 3) := by decide +kernel
theorem dX11_holdTrial_37 : decode cX11_holdTrial 37 = .ok (.iconst 0, 1) := by decide +kernel
theorem dX11_holdTrial_38 : decode cX11_holdTrial 38 = .ok (.invokevirtual 107, 3) := by decide +kernel
theorem dX11_holdTrial_41 : decode cX11_holdTrial 41 = .ok (.ifCond .ne 5, 3) := by decide +kernel
theorem dX11_holdTrial_44 : decode cX11_holdTrial 44 = .ok (.iconst 0, 1) := by decide +kernel
theorem dX11_holdTrial_45 : decode cX11_holdTrial 45 = .ok (.ireturn, 1) := by decide +kernel
theorem dX11_holdTrial_46 : decode cX11_holdTrial 46 = .ok (.iconst 0, 1) := by decide +kernel
theorem dX11_holdTrial_47 : decode cX11_holdTrial 47 = .ok (.istore_n 3, 1) := by decide +kernel
theorem dX11_holdTrial_48 : decode cX11_holdTrial 48 = .ok (.iconst 0, 1) := by decide +kernel
theorem dX11_holdTrial_49 : decode cX11_holdTrial 49 = .ok (.istore 4, 2) := by decide +kernel
theorem dX11_holdTrial_51 : decode cX11_holdTrial 51 = .ok (.iload 4, 2) := by decide +kernel
theorem dX11_holdTrial_53 : decode cX11_holdTrial 53 = .ok (.sipush 160, 3) := by decide +kernel
theorem dX11_holdTrial_56 : decode cX11_holdTrial 56 = .ok (.if_icmp .ge 77, 3) := by decide +kernel
theorem dX11_holdTrial_59 : decode cX11_holdTrial 59 = .ok (.aload_n 0, 1) := by decide +kernel
theorem dX11_holdTrial_60 : decode cX11_holdTrial 60 = .ok (.getfield 80, 3) := by decide +kernel
theorem dX11_holdTrial_63 : decode cX11_holdTrial 63 = .ok (.sipush 160, 3) := by decide +kernel
theorem dX11_holdTrial_66 : decode cX11_holdTrial 66 = .ok (.iload_n 1, 1) := by decide +kernel
theorem dX11_holdTrial_67 : decode cX11_holdTrial 67 = .ok (.imul, 1) := by decide +kernel
theorem dX11_holdTrial_68 : decode cX11_holdTrial 68 = .ok (.iload 4, 2) := by decide +kernel
theorem dX11_holdTrial_70 : decode cX11_holdTrial 70 = .ok (.iadd, 1) := by decide +kernel
theorem dX11_holdTrial_71 : decode cX11_holdTrial 71 = .ok (.iaload, 1) := by decide +kernel
theorem dX11_holdTrial_72 : decode cX11_holdTrial 72 = .ok (.iconst 1, 1) := by decide +kernel
theorem dX11_holdTrial_73 : decode cX11_holdTrial 73 = .ok (.isub, 1) := by decide +kernel
theorem dX11_holdTrial_74 : decode cX11_holdTrial 74 = .ok (.istore 5, 2) := by decide +kernel
theorem dX11_holdTrial_76 : decode cX11_holdTrial 76 = .ok (.iload 5, 2) := by decide +kernel
theorem dX11_holdTrial_78 : decode cX11_holdTrial 78 = .ok (.iconst (-1), 1) := by decide +kernel
theorem dX11_holdTrial_79 : decode cX11_holdTrial 79 = .ok (.if_icmp .eq 48, 3) := by decide +kernel
theorem dX11_holdTrial_82 : decode cX11_holdTrial 82 = .ok (.aload_n 0, 1) := by decide +kernel
theorem dX11_holdTrial_83 : decode cX11_holdTrial 83 = .ok (.getfield 89, 3) := by decide +kernel
theorem dX11_holdTrial_86 : decode cX11_holdTrial 86 = .ok (.iload 4, 2) := by decide +kernel
theorem dX11_holdTrial_88 : decode cX11_holdTrial 88 = .ok (.aload_n 0, 1) := by decide +kernel
theorem dX11_holdTrial_89 : decode cX11_holdTrial 89 = .ok (.getfield 86, 3) := by decide +kernel
theorem dX11_holdTrial_92 : decode cX11_holdTrial 92 = .ok (.iload 4, 2) := by decide +kernel
theorem dX11_holdTrial_94 : decode cX11_holdTrial 94 = .ok (.iaload, 1) := by decide +kernel
theorem dX11_holdTrial_95 : decode cX11_holdTrial 95 = .ok (.ifCond .ne 8, 3) := by decide +kernel
theorem dX11_holdTrial_98 : decode cX11_holdTrial 98 = .ok (.iload 5, 2) := by decide +kernel
theorem dX11_holdTrial_100 : decode cX11_holdTrial 100 = .ok (.goto 10, 3) := by decide +kernel
theorem dX11_holdTrial_103 : decode cX11_holdTrial 103 = .ok (.aload_n 0, 1) := by decide +kernel
theorem dX11_holdTrial_104 : decode cX11_holdTrial 104 = .ok (.getfield 89, 3) := by decide +kernel
theorem dX11_holdTrial_107 : decode cX11_holdTrial 107 = .ok (.iload 4, 2) := by decide +kernel
theorem dX11_holdTrial_109 : decode cX11_holdTrial 109 = .ok (.iaload, 1) := by decide +kernel
theorem dX11_holdTrial_110 : decode cX11_holdTrial 110 = .ok (.iastore, 1) := by decide +kernel
theorem dX11_holdTrial_111 : decode cX11_holdTrial 111 = .ok (.aload_n 0, 1) := by decide +kernel
theorem dX11_holdTrial_112 : decode cX11_holdTrial 112 = .ok (.getfield 86, 3) := by decide +kernel
theorem dX11_holdTrial_115 : decode cX11_holdTrial 115 = .ok (.iload 4, 2) := by decide +kernel
theorem dX11_holdTrial_117 : decode cX11_holdTrial 117 = .ok (.dup2, 1) := by decide +kernel
theorem dX11_holdTrial_118 : decode cX11_holdTrial 118 = .ok (.iaload, 1) := by decide +kernel
theorem dX11_holdTrial_119 : decode cX11_holdTrial 119 = .ok (.iconst 1, 1) := by decide +kernel
theorem dX11_holdTrial_120 : decode cX11_holdTrial 120 = .ok (.iload_n 1, 1) := by decide +kernel
theorem dX11_holdTrial_121 : decode cX11_holdTrial 121 = .ok (.ishl, 1) := by decide +kernel
theorem dX11_holdTrial_122 : decode cX11_holdTrial 122 = .ok (.ior, 1) := by decide +kernel
theorem dX11_holdTrial_123 : decode cX11_holdTrial 123 = .ok (.iastore, 1) := by decide +kernel
theorem dX11_holdTrial_124 : decode cX11_holdTrial 124 = .ok (.iinc 3 1, 3) := by decide +kernel
theorem dX11_holdTrial_127 : decode cX11_holdTrial 127 = .ok (.iinc 4 1, 3) := by decide +kernel
theorem dX11_holdTrial_130 : decode cX11_holdTrial 130 = .ok (.goto (-79), 3) := by decide +kernel
theorem dX11_holdTrial_133 : decode cX11_holdTrial 133 = .ok (.aload_n 0, 1) := by decide +kernel
theorem dX11_holdTrial_134 : decode cX11_holdTrial 134 = .ok (.getfield 83, 3) := by decide +kernel
theorem dX11_holdTrial_137 : decode cX11_holdTrial 137 = .ok (.iload_n 1, 1) := by decide +kernel
theorem dX11_holdTrial_138 : decode cX11_holdTrial 138 = .ok (.iconst 1, 1) := by decide +kernel
theorem dX11_holdTrial_139 : decode cX11_holdTrial 139 = .ok (.bastore, 1) := by decide +kernel
theorem dX11_holdTrial_140 : decode cX11_holdTrial 140 = .ok (.aload_n 0, 1) := by decide +kernel
theorem dX11_holdTrial_141 : decode cX11_holdTrial 141 = .ok (.dup, 1) := by decide +kernel
theorem dX11_holdTrial_142 : decode cX11_holdTrial 142 = .ok (.getfield 191, 3) := by decide +kernel
theorem dX11_holdTrial_145 : decode cX11_holdTrial 145 = .ok (.iconst 1, 1) := by decide +kernel
theorem dX11_holdTrial_146 : decode cX11_holdTrial 146 = .ok (.iadd, 1) := by decide +kernel
theorem dX11_holdTrial_147 : decode cX11_holdTrial 147 = .ok (.putfield 191, 3) := by decide +kernel
theorem dX11_holdTrial_150 : decode cX11_holdTrial 150 = .ok (.iload_n 3, 1) := by decide +kernel
theorem dX11_holdTrial_151 : decode cX11_holdTrial 151 = .ok (.ireturn, 1) := by decide +kernel
theorem dX11_releaseTrial_0 : decode cX11_releaseTrial 0 = .ok (.iload_n 1, 1) := by decide +kernel
theorem dX11_releaseTrial_1 : decode cX11_releaseTrial 1 = .ok (.invokestatic 196, 3) := by decide +kernel
theorem dX11_releaseTrial_4 : decode cX11_releaseTrial 4 = .ok (.istore_n 2, 1) := by decide +kernel
theorem dX11_releaseTrial_5 : decode cX11_releaseTrial 5 = .ok (.aload_n 0, 1) := by decide +kernel
theorem dX11_releaseTrial_6 : decode cX11_releaseTrial 6 = .ok (.iload_n 2, 1) := by decide +kernel
theorem dX11_releaseTrial_7 : decode cX11_releaseTrial 7 = .ok (.ifCond .ne 7, 3) := by decide +kernel
theorem dX11_releaseTrial_10 : decode cX11_releaseTrial 10 = .ok (.iconst 1, 1) := by decide +kernel
theorem dX11_releaseTrial_11 : decode cX11_releaseTrial 11 = .ok (.goto 27, 3) := by decide +kernel
theorem dX11_releaseTrial_14 : decode cX11_releaseTrial 14 = .ok (.aload_n 0, 1) := by decide +kernel
theorem dX11_releaseTrial_15 : decode cX11_releaseTrial 15 = .ok (.getfield 83, 3) := by decide +kernel
theorem dX11_releaseTrial_18 : decode cX11_releaseTrial 18 = .ok (.iload_n 1, 1) := by decide +kernel
theorem dX11_releaseTrial_19 : decode cX11_releaseTrial 19 = .ok (.baload, 1) := by decide +kernel
theorem dX11_releaseTrial_20 : decode cX11_releaseTrial 20 = .ok (.ifCond .eq 13, 3) := by decide +kernel
theorem dX11_releaseTrial_23 : decode cX11_releaseTrial 23 = .ok (.aload_n 0, 1) := by decide +kernel
theorem dX11_releaseTrial_24 : decode cX11_releaseTrial 24 = .ok (.getfield 191, 3) := by decide +kernel
theorem dX11_releaseTrial_27 : decode cX11_releaseTrial 27 = .ok (.sipush 400, 3) := by decide +kernel
theorem dX11_releaseTrial_30 : decode cX11_releaseTrial 30 = .ok (.if_icmp .ne 7, 3) := by decide +kernel
theorem dX11_releaseTrial_33 : decode cX11_releaseTrial 33 = .ok (.iconst 2, 1) := by decide +kernel
theorem dX11_releaseTrial_34 : decode cX11_releaseTrial 34 = .ok (.goto 4, 3) := by decide +kernel
theorem dX11_releaseTrial_37 : decode cX11_releaseTrial 37 = .ok (.iconst 0, 1) := by decide +kernel
theorem dX11_releaseTrial_38 : decode cX11_releaseTrial 38 = .ok (.invokevirtual 107, 3) := by decide +kernel
theorem dX11_releaseTrial_41 : decode cX11_releaseTrial 41 = .ok (.ifCond .ne 5, 3) := by decide +kernel
theorem dX11_releaseTrial_44 : decode cX11_releaseTrial 44 = .ok (.iconst 0, 1) := by decide +kernel
theorem dX11_releaseTrial_45 : decode cX11_releaseTrial 45 = .ok (.ireturn, 1) := by decide +kernel
theorem dX11_releaseTrial_46 : decode cX11_releaseTrial 46 = .ok (.iconst 0, 1) := by decide +kernel
theorem dX11_releaseTrial_47 : decode cX11_releaseTrial 47 = .ok (.istore_n 3, 1) := by decide +kernel
theorem dX11_releaseTrial_48 : decode cX11_releaseTrial 48 = .ok (.iconst 0, 1) := by decide +kernel
theorem dX11_releaseTrial_49 : decode cX11_releaseTrial 49 = .ok (.istore 4, 2) := by decide +kernel
theorem dX11_releaseTrial_51 : decode cX11_releaseTrial 51 = .ok (.iload 4, 2) := by decide +kernel
theorem dX11_releaseTrial_53 : decode cX11_releaseTrial 53 = .ok (.sipush 160, 3) := by decide +kernel
theorem dX11_releaseTrial_56 : decode cX11_releaseTrial 56 = .ok (.if_icmp .ge 45, 3) := by decide +kernel
theorem dX11_releaseTrial_59 : decode cX11_releaseTrial 59 = .ok (.iload_n 3, 1) := by decide +kernel
theorem dX11_releaseTrial_60 : decode cX11_releaseTrial 60 = .ok (.aload_n 0, 1) := by decide +kernel
theorem dX11_releaseTrial_61 : decode cX11_releaseTrial 61 = .ok (.getfield 86, 3) := by decide +kernel
theorem dX11_releaseTrial_64 : decode cX11_releaseTrial 64 = .ok (.iload 4, 2) := by decide +kernel
theorem dX11_releaseTrial_66 : decode cX11_releaseTrial 66 = .ok (.iaload, 1) := by decide +kernel
theorem dX11_releaseTrial_67 : decode cX11_releaseTrial 67 = .ok (.iconst 1, 1) := by decide +kernel
theorem dX11_releaseTrial_68 : decode cX11_releaseTrial 68 = .ok (.iload_n 1, 1) := by decide +kernel
theorem dX11_releaseTrial_69 : decode cX11_releaseTrial 69 = .ok (.ishl, 1) := by decide +kernel
theorem dX11_releaseTrial_70 : decode cX11_releaseTrial 70 = .ok (.if_icmp .ne 7, 3) := by decide +kernel
theorem dX11_releaseTrial_73 : decode cX11_releaseTrial 73 = .ok (.iconst 1, 1) := by decide +kernel
theorem dX11_releaseTrial_74 : decode cX11_releaseTrial 74 = .ok (.goto 4, 3) := by decide +kernel
theorem dX11_releaseTrial_77 : decode cX11_releaseTrial 77 = .ok (.iconst 0, 1) := by decide +kernel
theorem dX11_releaseTrial_78 : decode cX11_releaseTrial 78 = .ok (.iadd, 1) := by decide +kernel
theorem dX11_releaseTrial_79 : decode cX11_releaseTrial 79 = .ok (.istore_n 3, 1) := by decide +kernel
theorem dX11_releaseTrial_80 : decode cX11_releaseTrial 80 = .ok (.aload_n 0, 1) := by decide +kernel
theorem dX11_releaseTrial_81 : decode cX11_releaseTrial 81 = .ok (.getfield 86, 3) := by decide +kernel
theorem dX11_releaseTrial_84 : decode cX11_releaseTrial 84 = .ok (.iload 4, 2) := by decide +kernel
theorem dX11_releaseTrial_86 : decode cX11_releaseTrial 86 = .ok (.dup2, 1) := by decide +kernel
theorem dX11_releaseTrial_87 : decode cX11_releaseTrial 87 = .ok (.iaload, 1) := by decide +kernel
theorem dX11_releaseTrial_88 : decode cX11_releaseTrial 88 = .ok (.iconst 1, 1) := by decide +kernel
theorem dX11_releaseTrial_89 : decode cX11_releaseTrial 89 = .ok (.iload_n 1, 1) := by decide +kernel
theorem dX11_releaseTrial_90 : decode cX11_releaseTrial 90 = .ok (.ishl, 1) := by decide +kernel
theorem dX11_releaseTrial_91 : decode cX11_releaseTrial 91 = .ok (.iconst (-1), 1) := by decide +kernel
theorem dX11_releaseTrial_92 : decode cX11_releaseTrial 92 = .ok (.ixor, 1) := by decide +kernel
theorem dX11_releaseTrial_93 : decode cX11_releaseTrial 93 = .ok (.iand, 1) := by decide +kernel
theorem dX11_releaseTrial_94 : decode cX11_releaseTrial 94 = .ok (.iastore, 1) := by decide +kernel
theorem dX11_releaseTrial_95 : decode cX11_releaseTrial 95 = .ok (.iinc 4 1, 3) := by decide +kernel
theorem dX11_releaseTrial_98 : decode cX11_releaseTrial 98 = .ok (.goto (-47), 3) := by decide +kernel
theorem dX11_releaseTrial_101 : decode cX11_releaseTrial 101 = .ok (.aload_n 0, 1) := by decide +kernel
theorem dX11_releaseTrial_102 : decode cX11_releaseTrial 102 = .ok (.getfield 83, 3) := by decide +kernel
theorem dX11_releaseTrial_105 : decode cX11_releaseTrial 105 = .ok (.iload_n 1, 1) := by decide +kernel
theorem dX11_releaseTrial_106 : decode cX11_releaseTrial 106 = .ok (.iconst 0, 1) := by decide +kernel
theorem dX11_releaseTrial_107 : decode cX11_releaseTrial 107 = .ok (.bastore, 1) := by decide +kernel
theorem dX11_releaseTrial_108 : decode cX11_releaseTrial 108 = .ok (.aload_n 0, 1) := by decide +kernel
theorem dX11_releaseTrial_109 : decode cX11_releaseTrial 109 = .ok (.dup, 1) := by decide +kernel
theorem dX11_releaseTrial_110 : decode cX11_releaseTrial 110 = .ok (.getfield 191, 3) := by decide +kernel
theorem dX11_releaseTrial_113 : decode cX11_releaseTrial 113 = .ok (.iconst 1, 1) := by decide +kernel
theorem dX11_releaseTrial_114 : decode cX11_releaseTrial 114 = .ok (.iadd, 1) := by decide +kernel
theorem dX11_releaseTrial_115 : decode cX11_releaseTrial 115 = .ok (.putfield 191, 3) := by decide +kernel
theorem dX11_releaseTrial_118 : decode cX11_releaseTrial 118 = .ok (.iload_n 3, 1) := by decide +kernel
theorem dX11_releaseTrial_119 : decode cX11_releaseTrial 119 = .ok (.ireturn, 1) := by decide +kernel
theorem dX11_isHeld_0 : decode cX11_isHeld 0 = .ok (.aload_n 0, 1) := by decide +kernel
theorem dX11_isHeld_1 : decode cX11_isHeld 1 = .ok (.iload_n 1, 1) := by decide +kernel
theorem dX11_isHeld_2 : decode cX11_isHeld 2 = .ok (.invokestatic 103, 3) := by decide +kernel
theorem dX11_isHeld_5 : decode cX11_isHeld 5 = .ok (.ifCond .eq 14, 3) := by decide +kernel
theorem dX11_isHeld_8 : decode cX11_isHeld 8 = .ok (.iload_n 2, 1) := by decide +kernel
theorem dX11_isHeld_9 : decode cX11_isHeld 9 = .ok (.invokestatic 167, 3) := by decide +kernel
theorem dX11_isHeld_12 : decode cX11_isHeld 12 = .ok (.ifCond .eq 7, 3) := by decide +kernel
theorem dX11_isHeld_15 : decode cX11_isHeld 15 = .ok (.iconst 0, 1) := by decide +kernel
theorem dX11_isHeld_16 : decode cX11_isHeld 16 = .ok (.goto 4, 3) := by decide +kernel
theorem dX11_isHeld_19 : decode cX11_isHeld 19 = .ok (.iconst 1, 1) := by decide +kernel
theorem dX11_isHeld_20 : decode cX11_isHeld 20 = .ok (.invokevirtual 107, 3) := by decide +kernel
theorem dX11_isHeld_23 : decode cX11_isHeld 23 = .ok (.ifCond .eq 21, 3) := by decide +kernel
theorem dX11_isHeld_26 : decode cX11_isHeld 26 = .ok (.aload_n 0, 1) := by decide +kernel
theorem dX11_isHeld_27 : decode cX11_isHeld 27 = .ok (.getfield 86, 3) := by decide +kernel
theorem dX11_isHeld_30 : decode cX11_isHeld 30 = .ok (.bipush 8, 2) := by decide +kernel
theorem dX11_isHeld_32 : decode cX11_isHeld 32 = .ok (.iload_n 1, 1) := by decide +kernel
theorem dX11_isHeld_33 : decode cX11_isHeld 33 = .ok (.imul, 1) := by decide +kernel
theorem dX11_isHeld_34 : decode cX11_isHeld 34 = .ok (.iload_n 2, 1) := by decide +kernel
theorem dX11_isHeld_35 : decode cX11_isHeld 35 = .ok (.iadd, 1) := by decide +kernel
theorem dX11_isHeld_36 : decode cX11_isHeld 36 = .ok (.iaload, 1) := by decide +kernel
theorem dX11_isHeld_37 : decode cX11_isHeld 37 = .ok (.ifCond .eq 7, 3) := by decide +kernel
theorem dX11_isHeld_40 : decode cX11_isHeld 40 = .ok (.iconst 1, 1) := by decide +kernel
theorem dX11_isHeld_41 : decode cX11_isHeld 41 = .ok (.goto 4, 3) := by decide +kernel
theorem dX11_isHeld_44 : decode cX11_isHeld 44 = .ok (.iconst 0, 1) := by decide +kernel
theorem dX11_isHeld_45 : decode cX11_isHeld 45 = .ok (.ireturn, 1) := by decide +kernel
theorem dX11_entries_0 : decode cX11_entries 0 = .ok (.aload_n 0, 1) := by decide +kernel
theorem dX11_entries_1 : decode cX11_entries 1 = .ok (.iconst 0, 1) := by decide +kernel
theorem dX11_entries_2 : decode cX11_entries 2 = .ok (.putfield 95, 3) := by decide +kernel
theorem dX11_entries_5 : decode cX11_entries 5 = .ok (.aload_n 0, 1) := by decide +kernel
theorem dX11_entries_6 : decode cX11_entries 6 = .ok (.getfield 191, 3) := by decide +kernel
theorem dX11_entries_9 : decode cX11_entries 9 = .ok (.ireturn, 1) := by decide +kernel
theorem dX11_shownLast_0 : decode cX11_shownLast 0 = .ok (.aload_n 0, 1) := by decide +kernel
theorem dX11_shownLast_1 : decode cX11_shownLast 1 = .ok (.iload_n 1, 1) := by decide +kernel
theorem dX11_shownLast_2 : decode cX11_shownLast 2 = .ok (.invokestatic 103, 3) := by decide +kernel
theorem dX11_shownLast_5 : decode cX11_shownLast 5 = .ok (.ifCond .eq 14, 3) := by decide +kernel
theorem dX11_shownLast_8 : decode cX11_shownLast 8 = .ok (.iload_n 2, 1) := by decide +kernel
theorem dX11_shownLast_9 : decode cX11_shownLast 9 = .ok (.invokestatic 167, 3) := by decide +kernel
theorem dX11_shownLast_12 : decode cX11_shownLast 12 = .ok (.ifCond .eq 7, 3) := by decide +kernel
theorem dX11_shownLast_15 : decode cX11_shownLast 15 = .ok (.iconst 0, 1) := by decide +kernel
theorem dX11_shownLast_16 : decode cX11_shownLast 16 = .ok (.goto 4, 3) := by decide +kernel
theorem dX11_shownLast_19 : decode cX11_shownLast 19 = .ok (.iconst 1, 1) := by decide +kernel
theorem dX11_shownLast_20 : decode cX11_shownLast 20 = .ok (.invokevirtual 107, 3) := by decide +kernel
theorem dX11_shownLast_23 : decode cX11_shownLast 23 = .ok (.ifCond .eq 19, 3) := by decide +kernel
theorem dX11_shownLast_26 : decode cX11_shownLast 26 = .ok (.aload_n 0, 1) := by decide +kernel
theorem dX11_shownLast_27 : decode cX11_shownLast 27 = .ok (.getfield 92, 3) := by decide +kernel
theorem dX11_shownLast_30 : decode cX11_shownLast 30 = .ok (.bipush 8, 2) := by decide +kernel
theorem dX11_shownLast_32 : decode cX11_shownLast 32 = .ok (.iload_n 1, 1) := by decide +kernel
theorem dX11_shownLast_33 : decode cX11_shownLast 33 = .ok (.imul, 1) := by decide +kernel
theorem dX11_shownLast_34 : decode cX11_shownLast 34 = .ok (.iload_n 2, 1) := by decide +kernel
theorem dX11_shownLast_35 : decode cX11_shownLast 35 = .ok (.iadd, 1) := by decide +kernel
theorem dX11_shownLast_36 : decode cX11_shownLast 36 = .ok (.iaload, 1) := by decide +kernel
theorem dX11_shownLast_37 : decode cX11_shownLast 37 = .ok (.iconst 1, 1) := by decide +kernel
theorem dX11_shownLast_38 : decode cX11_shownLast 38 = .ok (.isub, 1) := by decide +kernel
theorem dX11_shownLast_39 : decode cX11_shownLast 39 = .ok (.goto 4, 3) := by decide +kernel
theorem dX11_shownLast_42 : decode cX11_shownLast 42 = .ok (.iconst 0, 1) := by decide +kernel
theorem dX11_shownLast_43 : decode cX11_shownLast 43 = .ok (.ireturn, 1) := by decide +kernel
end
section
theorem dL_setAttribute_0 : decode cL_setAttribute 0 = .ok (.aload 4, 2) := by decide +kernel
theorem dL_setAttribute_2 : decode cL_setAttribute 2 = .ok (.iconst 0, 1) := by decide +kernel
theorem dL_setAttribute_3 : decode cL_setAttribute 3 = .ok (.aload_n 0, 1) := by decide +kernel
theorem dL_setAttribute_4 : decode cL_setAttribute 4 = .ok (.iload_n 1, 1) := by decide +kernel
theorem dL_setAttribute_5 : decode cL_setAttribute 5 = .ok (.iload_n 2, 1) := by decide +kernel
theorem dL_setAttribute_6 : decode cL_setAttribute 6 = .ok (.iload_n 3, 1) := by decide +kernel
theorem dL_setAttribute_7 : decode cL_setAttribute 7 = .ok (.invokevirtual 7, 3) := by decide +kernel
theorem dL_setAttribute_10 : decode cL_setAttribute 10 = .ok (.i2l, 1) := by decide +kernel
theorem dL_setAttribute_11 : decode cL_setAttribute 11 = .ok (.lastore, 1) := by decide +kernel
theorem dL_setAttribute_12 : decode cL_setAttribute 12 = .ok (.goto 7, 3) := by decide +kernel
theorem dL_setAttribute_15 : decode cL_setAttribute 15 = .ok (.astore 5, 2) := by decide +kernel
theorem dL_setAttribute_17 : decode cL_setAttribute 17 = .ok (.iconst 1, 1) := by decide +kernel
theorem dL_setAttribute_18 : decode cL_setAttribute 18 = .ok (.ireturn, 1) := by decide +kernel
theorem dL_setAttribute_19 : decode cL_setAttribute 19 = .ok (.iconst 0, 1) := by decide +kernel
theorem dL_setAttribute_20 : decode cL_setAttribute 20 = .ok (.ireturn, 1) := by decide +kernel
theorem dL_setTag_0 : decode cL_setTag 0 = .ok (.aload 4, 2) := by decide +kernel
theorem dL_setTag_2 : decode cL_setTag 2 = .ok (.iconst 0, 1) := by decide +kernel
theorem dL_setTag_3 : decode cL_setTag 3 = .ok (.aload_n 0, 1) := by decide +kernel
theorem dL_setTag_4 : decode cL_setTag 4 = .ok (.iload_n 1, 1) := by decide +kernel
theorem dL_setTag_5 : decode cL_setTag 5 = .ok (.iload_n 2, 1) := by decide +kernel
theorem dL_setTag_6 : decode cL_setTag 6 = .ok (.iload_n 3, 1) := by decide +kernel
theorem dL_setTag_7 : decode cL_setTag 7 = .ok (.invokevirtual 15, 3) := by decide +kernel
theorem dL_setTag_10 : decode cL_setTag 10 = .ok (.ifCond .eq 7, 3) := by decide +kernel
theorem dL_setTag_13 : decode cL_setTag 13 = .ok (.lconst 1, 1) := by decide +kernel
theorem dL_setTag_14 : decode cL_setTag 14 = .ok (.goto 4, 3) := by decide +kernel
theorem dL_setTag_17 : decode cL_setTag 17 = .ok (.lconst 0, 1) := by decide +kernel
theorem dL_setTag_18 : decode cL_setTag 18 = .ok (.lastore, 1) := by decide +kernel
theorem dL_setTag_19 : decode cL_setTag 19 = .ok (.goto 7, 3) := by decide +kernel
theorem dL_setTag_22 : decode cL_setTag 22 = .ok (.astore 5, 2) := by decide +kernel
theorem dL_setTag_24 : decode cL_setTag 24 = .ok (.iconst 1, 1) := by decide +kernel
theorem dL_setTag_25 : decode cL_setTag 25 = .ok (.ireturn, 1) := by decide +kernel
theorem dL_setTag_26 : decode cL_setTag 26 = .ok (.iconst 0, 1) := by decide +kernel
theorem dL_setTag_27 : decode cL_setTag 27 = .ok (.ireturn, 1) := by decide +kernel
theorem dL_type_0 : decode cL_type 0 = .ok (.aload_n 3, 1) := by decide +kernel
theorem dL_type_1 : decode cL_type 1 = .ok (.iconst 0, 1) := by decide +kernel
theorem dL_type_2 : decode cL_type 2 = .ok (.aload_n 0, 1) := by decide +kernel
theorem dL_type_3 : decode cL_type 3 = .ok (.iload_n 1, 1) := by decide +kernel
theorem dL_type_4 : decode cL_type 4 = .ok (.iload_n 2, 1) := by decide +kernel
theorem dL_type_5 : decode cL_type 5 = .ok (.invokevirtual 19, 3) := by decide +kernel
theorem dL_type_8 : decode cL_type 8 = .ok (.i2l, 1) := by decide +kernel
theorem dL_type_9 : decode cL_type 9 = .ok (.lastore, 1) := by decide +kernel
theorem dL_type_10 : decode cL_type 10 = .ok (.goto 11, 3) := by decide +kernel
theorem dL_type_13 : decode cL_type 13 = .ok (.astore 4, 2) := by decide +kernel
theorem dL_type_15 : decode cL_type 15 = .ok (.iconst 1, 1) := by decide +kernel
theorem dL_type_16 : decode cL_type 16 = .ok (.ireturn, 1) := by decide +kernel
theorem dL_type_17 : decode cL_type 17 = .ok (.astore 4, 2) := by decide +kernel
theorem dL_type_19 : decode cL_type 19 = .ok (.iconst 2, 1) := by decide +kernel
theorem dL_type_20 : decode cL_type 20 = .ok (.ireturn, 1) := by decide +kernel
theorem dL_type_21 : decode cL_type 21 = .ok (.iconst 0, 1) := by decide +kernel
theorem dL_type_22 : decode cL_type 22 = .ok (.ireturn, 1) := by decide +kernel
theorem dL_erase_0 : decode cL_erase 0 = .ok (.aload_n 3, 1) := by decide +kernel
theorem dL_erase_1 : decode cL_erase 1 = .ok (.iconst 0, 1) := by decide +kernel
theorem dL_erase_2 : decode cL_erase 2 = .ok (.aload_n 0, 1) := by decide +kernel
theorem dL_erase_3 : decode cL_erase 3 = .ok (.iload_n 1, 1) := by decide +kernel
theorem dL_erase_4 : decode cL_erase 4 = .ok (.iload_n 2, 1) := by decide +kernel
theorem dL_erase_5 : decode cL_erase 5 = .ok (.invokevirtual 25, 3) := by decide +kernel
theorem dL_erase_8 : decode cL_erase 8 = .ok (.i2l, 1) := by decide +kernel
theorem dL_erase_9 : decode cL_erase 9 = .ok (.lastore, 1) := by decide +kernel
theorem dL_erase_10 : decode cL_erase 10 = .ok (.goto 7, 3) := by decide +kernel
theorem dL_erase_13 : decode cL_erase 13 = .ok (.astore 4, 2) := by decide +kernel
theorem dL_erase_15 : decode cL_erase 15 = .ok (.iconst 1, 1) := by decide +kernel
theorem dL_erase_16 : decode cL_erase 16 = .ok (.ireturn, 1) := by decide +kernel
theorem dL_erase_17 : decode cL_erase 17 = .ok (.iconst 0, 1) := by decide +kernel
theorem dL_erase_18 : decode cL_erase 18 = .ok (.ireturn, 1) := by decide +kernel
theorem dL_sign_0 : decode cL_sign 0 = .ok (.aload_n 3, 1) := by decide +kernel
theorem dL_sign_1 : decode cL_sign 1 = .ok (.iconst 0, 1) := by decide +kernel
theorem dL_sign_2 : decode cL_sign 2 = .ok (.aload_n 0, 1) := by decide +kernel
theorem dL_sign_3 : decode cL_sign 3 = .ok (.iload_n 1, 1) := by decide +kernel
theorem dL_sign_4 : decode cL_sign 4 = .ok (.iload_n 2, 1) := by decide +kernel
theorem dL_sign_5 : decode cL_sign 5 = .ok (.invokevirtual 28, 3) := by decide +kernel
theorem dL_sign_8 : decode cL_sign 8 = .ok (.i2l, 1) := by decide +kernel
theorem dL_sign_9 : decode cL_sign 9 = .ok (.lastore, 1) := by decide +kernel
theorem dL_sign_10 : decode cL_sign 10 = .ok (.goto 11, 3) := by decide +kernel
theorem dL_sign_13 : decode cL_sign 13 = .ok (.astore 4, 2) := by decide +kernel
theorem dL_sign_15 : decode cL_sign 15 = .ok (.iconst 1, 1) := by decide +kernel
theorem dL_sign_16 : decode cL_sign 16 = .ok (.ireturn, 1) := by decide +kernel
theorem dL_sign_17 : decode cL_sign 17 = .ok (.astore 4, 2) := by decide +kernel
theorem dL_sign_19 : decode cL_sign 19 = .ok (.iconst 2, 1) := by decide +kernel
theorem dL_sign_20 : decode cL_sign 20 = .ok (.ireturn, 1) := by decide +kernel
theorem dL_sign_21 : decode cL_sign 21 = .ok (.iconst 0, 1) := by decide +kernel
theorem dL_sign_22 : decode cL_sign 22 = .ok (.ireturn, 1) := by decide +kernel
theorem dL_fault_0 : decode cL_fault 0 = .ok (.aload_n 2, 1) := by decide +kernel
theorem dL_fault_1 : decode cL_fault 1 = .ok (.iconst 0, 1) := by decide +kernel
theorem dL_fault_2 : decode cL_fault 2 = .ok (.aload_n 0, 1) := by decide +kernel
theorem dL_fault_3 : decode cL_fault 3 = .ok (.iload_n 1, 1) := by decide +kernel
theorem dL_fault_4 : decode cL_fault 4 = .ok (.invokevirtual 33, 3) := by decide +kernel
theorem dL_fault_7 : decode cL_fault 7 = .ok (.i2l, 1) := by decide +kernel
theorem dL_fault_8 : decode cL_fault 8 = .ok (.lastore, 1) := by decide +kernel
theorem dL_fault_9 : decode cL_fault 9 = .ok (.goto 6, 3) := by decide +kernel
theorem dL_fault_12 : decode cL_fault 12 = .ok (.astore_n 3, 1) := by decide +kernel
theorem dL_fault_13 : decode cL_fault 13 = .ok (.iconst 1, 1) := by decide +kernel
theorem dL_fault_14 : decode cL_fault 14 = .ok (.ireturn, 1) := by decide +kernel
theorem dL_fault_15 : decode cL_fault 15 = .ok (.iconst 0, 1) := by decide +kernel
theorem dL_fault_16 : decode cL_fault 16 = .ok (.ireturn, 1) := by decide +kernel
theorem dL_set_0 : decode cL_set 0 = .ok (.aload_n 2, 1) := by decide +kernel
theorem dL_set_1 : decode cL_set 1 = .ok (.iconst 0, 1) := by decide +kernel
theorem dL_set_2 : decode cL_set 2 = .ok (.aload_n 0, 1) := by decide +kernel
theorem dL_set_3 : decode cL_set 3 = .ok (.iload_n 1, 1) := by decide +kernel
theorem dL_set_4 : decode cL_set 4 = .ok (.invokevirtual 37, 3) := by decide +kernel
theorem dL_set_7 : decode cL_set 7 = .ok (.i2l, 1) := by decide +kernel
theorem dL_set_8 : decode cL_set 8 = .ok (.lastore, 1) := by decide +kernel
theorem dL_set_9 : decode cL_set 9 = .ok (.goto 9, 3) := by decide +kernel
theorem dL_set_12 : decode cL_set 12 = .ok (.astore_n 3, 1) := by decide +kernel
theorem dL_set_13 : decode cL_set 13 = .ok (.iconst 1, 1) := by decide +kernel
theorem dL_set_14 : decode cL_set 14 = .ok (.ireturn, 1) := by decide +kernel
theorem dL_set_15 : decode cL_set 15 = .ok (.astore_n 3, 1) := by decide +kernel
theorem dL_set_16 : decode cL_set 16 = .ok (.iconst 2, 1) := by decide +kernel
theorem dL_set_17 : decode cL_set 17 = .ok (.ireturn, 1) := by decide +kernel
theorem dL_set_18 : decode cL_set 18 = .ok (.iconst 0, 1) := by decide +kernel
theorem dL_set_19 : decode cL_set 19 = .ok (.ireturn, 1) := by decide +kernel
theorem dL_wouldMove_0 : decode cL_wouldMove 0 = .ok (.aload_n 2, 1) := by decide +kernel
theorem dL_wouldMove_1 : decode cL_wouldMove 1 = .ok (.iconst 0, 1) := by decide +kernel
theorem dL_wouldMove_2 : decode cL_wouldMove 2 = .ok (.aload_n 0, 1) := by decide +kernel
theorem dL_wouldMove_3 : decode cL_wouldMove 3 = .ok (.iload_n 1, 1) := by decide +kernel
theorem dL_wouldMove_4 : decode cL_wouldMove 4 = .ok (.invokevirtual 40, 3) := by decide +kernel
theorem dL_wouldMove_7 : decode cL_wouldMove 7 = .ok (.i2l, 1) := by decide +kernel
theorem dL_wouldMove_8 : decode cL_wouldMove 8 = .ok (.lastore, 1) := by decide +kernel
theorem dL_wouldMove_9 : decode cL_wouldMove 9 = .ok (.goto 9, 3) := by decide +kernel
theorem dL_wouldMove_12 : decode cL_wouldMove 12 = .ok (.astore_n 3, 1) := by decide +kernel
theorem dL_wouldMove_13 : decode cL_wouldMove 13 = .ok (.iconst 1, 1) := by decide +kernel
theorem dL_wouldMove_14 : decode cL_wouldMove 14 = .ok (.ireturn, 1) := by decide +kernel
theorem dL_wouldMove_15 : decode cL_wouldMove 15 = .ok (.astore_n 3, 1) := by decide +kernel
theorem dL_wouldMove_16 : decode cL_wouldMove 16 = .ok (.iconst 2, 1) := by decide +kernel
theorem dL_wouldMove_17 : decode cL_wouldMove 17 = .ok (.ireturn, 1) := by decide +kernel
theorem dL_wouldMove_18 : decode cL_wouldMove 18 = .ok (.iconst 0, 1) := by decide +kernel
theorem dL_wouldMove_19 : decode cL_wouldMove 19 = .ok (.ireturn, 1) := by decide +kernel
theorem dL_isIn_0 : decode cL_isIn 0 = .ok (.aload_n 3, 1) := by decide +kernel
theorem dL_isIn_1 : decode cL_isIn 1 = .ok (.iconst 0, 1) := by decide +kernel
theorem dL_isIn_2 : decode cL_isIn 2 = .ok (.aload_n 0, 1) := by decide +kernel
theorem dL_isIn_3 : decode cL_isIn 3 = .ok (.iload_n 1, 1) := by decide +kernel
theorem dL_isIn_4 : decode cL_isIn 4 = .ok (.iload_n 2, 1) := by decide +kernel
theorem dL_isIn_5 : decode cL_isIn 5 = .ok (.invokevirtual 43, 3) := by decide +kernel
theorem dL_isIn_8 : decode cL_isIn 8 = .ok (.ifCond .eq 7, 3) := by decide +kernel
theorem dL_isIn_11 : decode cL_isIn 11 = .ok (.lconst 1, 1) := by decide +kernel
theorem dL_isIn_12 : decode cL_isIn 12 = .ok (.goto 4, 3) := by decide +kernel
theorem dL_isIn_15 : decode cL_isIn 15 = .ok (.lconst 0, 1) := by decide +kernel
theorem dL_isIn_16 : decode cL_isIn 16 = .ok (.lastore, 1) := by decide +kernel
theorem dL_isIn_17 : decode cL_isIn 17 = .ok (.goto 7, 3) := by decide +kernel
theorem dL_isIn_20 : decode cL_isIn 20 = .ok (.astore 4, 2) := by decide +kernel
theorem dL_isIn_22 : decode cL_isIn 22 = .ok (.iconst 1, 1) := by decide +kernel
theorem dL_isIn_23 : decode cL_isIn 23 = .ok (.ireturn, 1) := by decide +kernel
theorem dL_isIn_24 : decode cL_isIn 24 = .ok (.iconst 0, 1) := by decide +kernel
theorem dL_isIn_25 : decode cL_isIn 25 = .ok (.ireturn, 1) := by decide +kernel
theorem dL_addRule_0 : decode cL_addRule 0 = .ok (.aload 5, 2) := by decide +kernel
theorem dL_addRule_2 : decode cL_addRule 2 = .ok (.iconst 0, 1) := by decide +kernel
theorem dL_addRule_3 : decode cL_addRule 3 = .ok (.aload_n 0, 1) := by decide +kernel
theorem dL_addRule_4 : decode cL_addRule 4 = .ok (.iload_n 1, 1) := by decide +kernel
theorem dL_addRule_5 : decode cL_addRule 5 = .ok (.iload_n 2, 1) := by decide +kernel
theorem dL_addRule_6 : decode cL_addRule 6 = .ok (.iload_n 3, 1) := by decide +kernel
theorem dL_addRule_7 : decode cL_addRule 7 = .ok (.iload 4, 2) := by decide +kernel
theorem dL_addRule_9 : decode cL_addRule 9 = .ok (.invokevirtual 47, 3) := by decide +kernel
theorem dL_addRule_12 : decode cL_addRule 12 = .ok (.i2l, 1) := by decide +kernel
theorem dL_addRule_13 : decode cL_addRule 13 = .ok (.lastore, 1) := by decide +kernel
theorem dL_addRule_14 : decode cL_addRule 14 = .ok (.goto 15, 3) := by decide +kernel
theorem dL_addRule_17 : decode cL_addRule 17 = .ok (.astore 6, 2) := by decide +kernel
theorem dL_addRule_19 : decode cL_addRule 19 = .ok (.iconst 1, 1) := by decide +kernel
theorem dL_addRule_20 : decode cL_addRule 20 = .ok (.ireturn, 1) := by decide +kernel
theorem dL_addRule_21 : decode cL_addRule 21 = .ok (.astore 6, 2) := by decide +kernel
theorem dL_addRule_23 : decode cL_addRule 23 = .ok (.iconst 2, 1) := by decide +kernel
theorem dL_addRule_24 : decode cL_addRule 24 = .ok (.ireturn, 1) := by decide +kernel
theorem dL_addRule_25 : decode cL_addRule 25 = .ok (.astore 6, 2) := by decide +kernel
theorem dL_addRule_27 : decode cL_addRule 27 = .ok (.iconst 3, 1) := by decide +kernel
theorem dL_addRule_28 : decode cL_addRule 28 = .ok (.ireturn, 1) := by decide +kernel
theorem dL_addRule_29 : decode cL_addRule 29 = .ok (.iconst 0, 1) := by decide +kernel
theorem dL_addRule_30 : decode cL_addRule 30 = .ok (.ireturn, 1) := by decide +kernel
theorem dL_removeRule_0 : decode cL_removeRule 0 = .ok (.aload_n 3, 1) := by decide +kernel
theorem dL_removeRule_1 : decode cL_removeRule 1 = .ok (.iconst 0, 1) := by decide +kernel
theorem dL_removeRule_2 : decode cL_removeRule 2 = .ok (.aload_n 0, 1) := by decide +kernel
theorem dL_removeRule_3 : decode cL_removeRule 3 = .ok (.iload_n 1, 1) := by decide +kernel
theorem dL_removeRule_4 : decode cL_removeRule 4 = .ok (.iload_n 2, 1) := by decide +kernel
theorem dL_removeRule_5 : decode cL_removeRule 5 = .ok (.invokevirtual 51, 3) := by decide +kernel
theorem dL_removeRule_8 : decode cL_removeRule 8 = .ok (.i2l, 1) := by decide +kernel
theorem dL_removeRule_9 : decode cL_removeRule 9 = .ok (.lastore, 1) := by decide +kernel
theorem dL_removeRule_10 : decode cL_removeRule 10 = .ok (.goto 11, 3) := by decide +kernel
theorem dL_removeRule_13 : decode cL_removeRule 13 = .ok (.astore 4, 2) := by decide +kernel
theorem dL_removeRule_15 : decode cL_removeRule 15 = .ok (.iconst 1, 1) := by decide +kernel
theorem dL_removeRule_16 : decode cL_removeRule 16 = .ok (.ireturn, 1) := by decide +kernel
theorem dL_removeRule_17 : decode cL_removeRule 17 = .ok (.astore 4, 2) := by decide +kernel
theorem dL_removeRule_19 : decode cL_removeRule 19 = .ok (.iconst 2, 1) := by decide +kernel
theorem dL_removeRule_20 : decode cL_removeRule 20 = .ok (.ireturn, 1) := by decide +kernel
theorem dL_removeRule_21 : decode cL_removeRule 21 = .ok (.iconst 0, 1) := by decide +kernel
theorem dL_removeRule_22 : decode cL_removeRule 22 = .ok (.ireturn, 1) := by decide +kernel
theorem dL_rules_0 : decode cL_rules 0 = .ok (.aload_n 2, 1) := by decide +kernel
theorem dL_rules_1 : decode cL_rules 1 = .ok (.iconst 0, 1) := by decide +kernel
theorem dL_rules_2 : decode cL_rules 2 = .ok (.aload_n 0, 1) := by decide +kernel
theorem dL_rules_3 : decode cL_rules 3 = .ok (.iload_n 1, 1) := by decide +kernel
theorem dL_rules_4 : decode cL_rules 4 = .ok (.invokevirtual 54, 3) := by decide +kernel
theorem dL_rules_7 : decode cL_rules 7 = .ok (.i2l, 1) := by decide +kernel
theorem dL_rules_8 : decode cL_rules 8 = .ok (.lastore, 1) := by decide +kernel
theorem dL_rules_9 : decode cL_rules 9 = .ok (.goto 6, 3) := by decide +kernel
theorem dL_rules_12 : decode cL_rules 12 = .ok (.astore_n 3, 1) := by decide +kernel
theorem dL_rules_13 : decode cL_rules 13 = .ok (.iconst 1, 1) := by decide +kernel
theorem dL_rules_14 : decode cL_rules 14 = .ok (.ireturn, 1) := by decide +kernel
theorem dL_rules_15 : decode cL_rules 15 = .ok (.iconst 0, 1) := by decide +kernel
theorem dL_rules_16 : decode cL_rules 16 = .ok (.ireturn, 1) := by decide +kernel
theorem dL_setNeed_0 : decode cL_setNeed 0 = .ok (.aload 4, 2) := by decide +kernel
theorem dL_setNeed_2 : decode cL_setNeed 2 = .ok (.iconst 0, 1) := by decide +kernel
theorem dL_setNeed_3 : decode cL_setNeed 3 = .ok (.aload_n 0, 1) := by decide +kernel
theorem dL_setNeed_4 : decode cL_setNeed 4 = .ok (.iload_n 1, 1) := by decide +kernel
theorem dL_setNeed_5 : decode cL_setNeed 5 = .ok (.iload_n 2, 1) := by decide +kernel
theorem dL_setNeed_6 : decode cL_setNeed 6 = .ok (.iload_n 3, 1) := by decide +kernel
theorem dL_setNeed_7 : decode cL_setNeed 7 = .ok (.invokevirtual 57, 3) := by decide +kernel
theorem dL_setNeed_10 : decode cL_setNeed 10 = .ok (.ifCond .eq 7, 3) := by decide +kernel
theorem dL_setNeed_13 : decode cL_setNeed 13 = .ok (.lconst 1, 1) := by decide +kernel
theorem dL_setNeed_14 : decode cL_setNeed 14 = .ok (.goto 4, 3) := by decide +kernel
theorem dL_setNeed_17 : decode cL_setNeed 17 = .ok (.lconst 0, 1) := by decide +kernel
theorem dL_setNeed_18 : decode cL_setNeed 18 = .ok (.lastore, 1) := by decide +kernel
theorem dL_setNeed_19 : decode cL_setNeed 19 = .ok (.goto 11, 3) := by decide +kernel
theorem dL_setNeed_22 : decode cL_setNeed 22 = .ok (.astore 5, 2) := by decide +kernel
theorem dL_setNeed_24 : decode cL_setNeed 24 = .ok (.iconst 1, 1) := by decide +kernel
theorem dL_setNeed_25 : decode cL_setNeed 25 = .ok (.ireturn, 1) := by decide +kernel
theorem dL_setNeed_26 : decode cL_setNeed 26 = .ok (.astore 5, 2) := by decide +kernel
theorem dL_setNeed_28 : decode cL_setNeed 28 = .ok (.iconst 2, 1) := by decide +kernel
theorem dL_setNeed_29 : decode cL_setNeed 29 = .ok (.ireturn, 1) := by decide +kernel
theorem dL_setNeed_30 : decode cL_setNeed 30 = .ok (.iconst 0, 1) := by decide +kernel
theorem dL_setNeed_31 : decode cL_setNeed 31 = .ok (.ireturn, 1) := by decide +kernel
theorem dL_view_0 : decode cL_view 0 = .ok (.aload_n 3, 1) := by decide +kernel
theorem dL_view_1 : decode cL_view 1 = .ok (.iconst 0, 1) := by decide +kernel
theorem dL_view_2 : decode cL_view 2 = .ok (.aload_n 0, 1) := by decide +kernel
theorem dL_view_3 : decode cL_view 3 = .ok (.iload_n 1, 1) := by decide +kernel
theorem dL_view_4 : decode cL_view 4 = .ok (.iload_n 2, 1) := by decide +kernel
theorem dL_view_5 : decode cL_view 5 = .ok (.invokevirtual 60, 3) := by decide +kernel
theorem dL_view_8 : decode cL_view 8 = .ok (.i2l, 1) := by decide +kernel
theorem dL_view_9 : decode cL_view 9 = .ok (.lastore, 1) := by decide +kernel
theorem dL_view_10 : decode cL_view 10 = .ok (.goto 7, 3) := by decide +kernel
theorem dL_view_13 : decode cL_view 13 = .ok (.astore 4, 2) := by decide +kernel
theorem dL_view_15 : decode cL_view 15 = .ok (.iconst 1, 1) := by decide +kernel
theorem dL_view_16 : decode cL_view 16 = .ok (.ireturn, 1) := by decide +kernel
theorem dL_view_17 : decode cL_view 17 = .ok (.iconst 0, 1) := by decide +kernel
theorem dL_view_18 : decode cL_view 18 = .ok (.ireturn, 1) := by decide +kernel
theorem dL_viewByLog_0 : decode cL_viewByLog 0 = .ok (.aload_n 3, 1) := by decide +kernel
theorem dL_viewByLog_1 : decode cL_viewByLog 1 = .ok (.iconst 0, 1) := by decide +kernel
theorem dL_viewByLog_2 : decode cL_viewByLog 2 = .ok (.aload_n 0, 1) := by decide +kernel
theorem dL_viewByLog_3 : decode cL_viewByLog 3 = .ok (.iload_n 1, 1) := by decide +kernel
theorem dL_viewByLog_4 : decode cL_viewByLog 4 = .ok (.iload_n 2, 1) := by decide +kernel
theorem dL_viewByLog_5 : decode cL_viewByLog 5 = .ok (.invokevirtual 63, 3) := by decide +kernel
theorem dL_viewByLog_8 : decode cL_viewByLog 8 = .ok (.i2l, 1) := by decide +kernel
theorem dL_viewByLog_9 : decode cL_viewByLog 9 = .ok (.lastore, 1) := by decide +kernel
theorem dL_viewByLog_10 : decode cL_viewByLog 10 = .ok (.goto 7, 3) := by decide +kernel
theorem dL_viewByLog_13 : decode cL_viewByLog 13 = .ok (.astore 4, 2) := by decide +kernel
theorem dL_viewByLog_15 : decode cL_viewByLog 15 = .ok (.iconst 1, 1) := by decide +kernel
theorem dL_viewByLog_16 : decode cL_viewByLog 16 = .ok (.ireturn, 1) := by decide +kernel
theorem dL_viewByLog_17 : decode cL_viewByLog 17 = .ok (.iconst 0, 1) := by decide +kernel
theorem dL_viewByLog_18 : decode cL_viewByLog 18 = .ok (.ireturn, 1) := by decide +kernel
theorem dL_ruleFor_0 : decode cL_ruleFor 0 = .ok (.aload_n 3, 1) := by decide +kernel
theorem dL_ruleFor_1 : decode cL_ruleFor 1 = .ok (.iconst 0, 1) := by decide +kernel
theorem dL_ruleFor_2 : decode cL_ruleFor 2 = .ok (.aload_n 0, 1) := by decide +kernel
theorem dL_ruleFor_3 : decode cL_ruleFor 3 = .ok (.iload_n 1, 1) := by decide +kernel
theorem dL_ruleFor_4 : decode cL_ruleFor 4 = .ok (.iload_n 2, 1) := by decide +kernel
theorem dL_ruleFor_5 : decode cL_ruleFor 5 = .ok (.invokevirtual 66, 3) := by decide +kernel
theorem dL_ruleFor_8 : decode cL_ruleFor 8 = .ok (.i2l, 1) := by decide +kernel
theorem dL_ruleFor_9 : decode cL_ruleFor 9 = .ok (.lastore, 1) := by decide +kernel
theorem dL_ruleFor_10 : decode cL_ruleFor 10 = .ok (.goto 7, 3) := by decide +kernel
theorem dL_ruleFor_13 : decode cL_ruleFor 13 = .ok (.astore 4, 2) := by decide +kernel
theorem dL_ruleFor_15 : decode cL_ruleFor 15 = .ok (.iconst 1, 1) := by decide +kernel
theorem dL_ruleFor_16 : decode cL_ruleFor 16 = .ok (.ireturn, 1) := by decide +kernel
theorem dL_ruleFor_17 : decode cL_ruleFor 17 = .ok (.iconst 0, 1) := by decide +kernel
theorem dL_ruleFor_18 : decode cL_ruleFor 18 = .ok (.ireturn, 1) := by decide +kernel
theorem dL_reach_0 : decode cL_reach 0 = .ok (.aload_n 3, 1) := by decide +kernel
theorem dL_reach_1 : decode cL_reach 1 = .ok (.iconst 0, 1) := by decide +kernel
theorem dL_reach_2 : decode cL_reach 2 = .ok (.aload_n 0, 1) := by decide +kernel
theorem dL_reach_3 : decode cL_reach 3 = .ok (.iload_n 1, 1) := by decide +kernel
theorem dL_reach_4 : decode cL_reach 4 = .ok (.iload_n 2, 1) := by decide +kernel
theorem dL_reach_5 : decode cL_reach 5 = .ok (.invokevirtual 69, 3) := by decide +kernel
theorem dL_reach_8 : decode cL_reach 8 = .ok (.i2l, 1) := by decide +kernel
theorem dL_reach_9 : decode cL_reach 9 = .ok (.lastore, 1) := by decide +kernel
theorem dL_reach_10 : decode cL_reach 10 = .ok (.goto 7, 3) := by decide +kernel
theorem dL_reach_13 : decode cL_reach 13 = .ok (.astore 4, 2) := by decide +kernel
theorem dL_reach_15 : decode cL_reach 15 = .ok (.iconst 1, 1) := by decide +kernel
theorem dL_reach_16 : decode cL_reach 16 = .ok (.ireturn, 1) := by decide +kernel
theorem dL_reach_17 : decode cL_reach 17 = .ok (.iconst 0, 1) := by decide +kernel
theorem dL_reach_18 : decode cL_reach 18 = .ok (.ireturn, 1) := by decide +kernel
theorem dL_show_0 : decode cL_show 0 = .ok (.aload_n 3, 1) := by decide +kernel
theorem dL_show_1 : decode cL_show 1 = .ok (.iconst 0, 1) := by decide +kernel
theorem dL_show_2 : decode cL_show 2 = .ok (.aload_n 0, 1) := by decide +kernel
theorem dL_show_3 : decode cL_show 3 = .ok (.iload_n 1, 1) := by decide +kernel
theorem dL_show_4 : decode cL_show 4 = .ok (.iload_n 2, 1) := by decide +kernel
theorem dL_show_5 : decode cL_show 5 = .ok (.invokevirtual 72, 3) := by decide +kernel
theorem dL_show_8 : decode cL_show 8 = .ok (.i2l, 1) := by decide +kernel
theorem dL_show_9 : decode cL_show 9 = .ok (.lastore, 1) := by decide +kernel
theorem dL_show_10 : decode cL_show 10 = .ok (.goto 11, 3) := by decide +kernel
theorem dL_show_13 : decode cL_show 13 = .ok (.astore 4, 2) := by decide +kernel
theorem dL_show_15 : decode cL_show 15 = .ok (.iconst 1, 1) := by decide +kernel
theorem dL_show_16 : decode cL_show 16 = .ok (.ireturn, 1) := by decide +kernel
theorem dL_show_17 : decode cL_show 17 = .ok (.astore 4, 2) := by decide +kernel
theorem dL_show_19 : decode cL_show 19 = .ok (.iconst 2, 1) := by decide +kernel
theorem dL_show_20 : decode cL_show 20 = .ok (.ireturn, 1) := by decide +kernel
theorem dL_show_21 : decode cL_show 21 = .ok (.iconst 0, 1) := by decide +kernel
theorem dL_show_22 : decode cL_show 22 = .ok (.ireturn, 1) := by decide +kernel
theorem dL_setShares_0 : decode cL_setShares 0 = .ok (.aload 6, 2) := by decide +kernel
theorem dL_setShares_2 : decode cL_setShares 2 = .ok (.iconst 0, 1) := by decide +kernel
theorem dL_setShares_3 : decode cL_setShares 3 = .ok (.aload_n 0, 1) := by decide +kernel
theorem dL_setShares_4 : decode cL_setShares 4 = .ok (.iload_n 1, 1) := by decide +kernel
theorem dL_setShares_5 : decode cL_setShares 5 = .ok (.iload_n 2, 1) := by decide +kernel
theorem dL_setShares_6 : decode cL_setShares 6 = .ok (.iload_n 3, 1) := by decide +kernel
theorem dL_setShares_7 : decode cL_setShares 7 = .ok (.iload 4, 2) := by decide +kernel
theorem dL_setShares_9 : decode cL_setShares 9 = .ok (.iload 5, 2) := by decide +kernel
theorem dL_setShares_11 : decode cL_setShares 11 = .ok (.invokevirtual 75, 3) := by decide +kernel
theorem dL_setShares_14 : decode cL_setShares 14 = .ok (.i2l, 1) := by decide +kernel
theorem dL_setShares_15 : decode cL_setShares 15 = .ok (.lastore, 1) := by decide +kernel
theorem dL_setShares_16 : decode cL_setShares 16 = .ok (.goto 11, 3) := by decide +kernel
theorem dL_setShares_19 : decode cL_setShares 19 = .ok (.astore 7, 2) := by decide +kernel
theorem dL_setShares_21 : decode cL_setShares 21 = .ok (.iconst 1, 1) := by decide +kernel
theorem dL_setShares_22 : decode cL_setShares 22 = .ok (.ireturn, 1) := by decide +kernel
theorem dL_setShares_23 : decode cL_setShares 23 = .ok (.astore 7, 2) := by decide +kernel
theorem dL_setShares_25 : decode cL_setShares 25 = .ok (.iconst 2, 1) := by decide +kernel
theorem dL_setShares_26 : decode cL_setShares 26 = .ok (.ireturn, 1) := by decide +kernel
theorem dL_setShares_27 : decode cL_setShares 27 = .ok (.iconst 0, 1) := by decide +kernel
theorem dL_setShares_28 : decode cL_setShares 28 = .ok (.ireturn, 1) := by decide +kernel
theorem dL_setSalt_0 : decode cL_setSalt 0 = .ok (.aload_n 3, 1) := by decide +kernel
theorem dL_setSalt_1 : decode cL_setSalt 1 = .ok (.iconst 0, 1) := by decide +kernel
theorem dL_setSalt_2 : decode cL_setSalt 2 = .ok (.aload_n 0, 1) := by decide +kernel
theorem dL_setSalt_3 : decode cL_setSalt 3 = .ok (.iload_n 1, 1) := by decide +kernel
theorem dL_setSalt_4 : decode cL_setSalt 4 = .ok (.iload_n 2, 1) := by decide +kernel
theorem dL_setSalt_5 : decode cL_setSalt 5 = .ok (.invokevirtual 79, 3) := by decide +kernel
theorem dL_setSalt_8 : decode cL_setSalt 8 = .ok (.i2l, 1) := by decide +kernel
theorem dL_setSalt_9 : decode cL_setSalt 9 = .ok (.lastore, 1) := by decide +kernel
theorem dL_setSalt_10 : decode cL_setSalt 10 = .ok (.goto 11, 3) := by decide +kernel
theorem dL_setSalt_13 : decode cL_setSalt 13 = .ok (.astore 4, 2) := by decide +kernel
theorem dL_setSalt_15 : decode cL_setSalt 15 = .ok (.iconst 1, 1) := by decide +kernel
theorem dL_setSalt_16 : decode cL_setSalt 16 = .ok (.ireturn, 1) := by decide +kernel
theorem dL_setSalt_17 : decode cL_setSalt 17 = .ok (.astore 4, 2) := by decide +kernel
theorem dL_setSalt_19 : decode cL_setSalt 19 = .ok (.iconst 2, 1) := by decide +kernel
theorem dL_setSalt_20 : decode cL_setSalt 20 = .ok (.ireturn, 1) := by decide +kernel
theorem dL_setSalt_21 : decode cL_setSalt 21 = .ok (.iconst 0, 1) := by decide +kernel
theorem dL_setSalt_22 : decode cL_setSalt 22 = .ok (.ireturn, 1) := by decide +kernel
theorem dL_stop_0 : decode cL_stop 0 = .ok (.aload_n 3, 1) := by decide +kernel
theorem dL_stop_1 : decode cL_stop 1 = .ok (.iconst 0, 1) := by decide +kernel
theorem dL_stop_2 : decode cL_stop 2 = .ok (.aload_n 0, 1) := by decide +kernel
theorem dL_stop_3 : decode cL_stop 3 = .ok (.iload_n 1, 1) := by decide +kernel
theorem dL_stop_4 : decode cL_stop 4 = .ok (.iload_n 2, 1) := by decide +kernel
theorem dL_stop_5 : decode cL_stop 5 = .ok (.invokevirtual 82, 3) := by decide +kernel
theorem dL_stop_8 : decode cL_stop 8 = .ok (.i2l, 1) := by decide +kernel
theorem dL_stop_9 : decode cL_stop 9 = .ok (.lastore, 1) := by decide +kernel
theorem dL_stop_10 : decode cL_stop 10 = .ok (.goto 11, 3) := by decide +kernel
theorem dL_stop_13 : decode cL_stop 13 = .ok (.astore 4, 2) := by decide +kernel
theorem dL_stop_15 : decode cL_stop 15 = .ok (.iconst 1, 1) := by decide +kernel
theorem dL_stop_16 : decode cL_stop 16 = .ok (.ireturn, 1) := by decide +kernel
theorem dL_stop_17 : decode cL_stop 17 = .ok (.astore 4, 2) := by decide +kernel
theorem dL_stop_19 : decode cL_stop 19 = .ok (.iconst 2, 1) := by decide +kernel
theorem dL_stop_20 : decode cL_stop 20 = .ok (.ireturn, 1) := by decide +kernel
theorem dL_stop_21 : decode cL_stop 21 = .ok (.iconst 0, 1) := by decide +kernel
theorem dL_stop_22 : decode cL_stop 22 = .ok (.ireturn, 1) := by decide +kernel
theorem dL_beginAnew_0 : decode cL_beginAnew 0 = .ok (.aload_n 2, 1) := by decide +kernel
theorem dL_beginAnew_1 : decode cL_beginAnew 1 = .ok (.iconst 0, 1) := by decide +kernel
theorem dL_beginAnew_2 : decode cL_beginAnew 2 = .ok (.aload_n 0, 1) := by decide +kernel
theorem dL_beginAnew_3 : decode cL_beginAnew 3 = .ok (.iload_n 1, 1) := by decide +kernel
theorem dL_beginAnew_4 : decode cL_beginAnew 4 = .ok (.invokevirtual 85, 3) := by decide +kernel
theorem dL_beginAnew_7 : decode cL_beginAnew 7 = .ok (.i2l, 1) := by decide +kernel
theorem dL_beginAnew_8 : decode cL_beginAnew 8 = .ok (.lastore, 1) := by decide +kernel
theorem dL_beginAnew_9 : decode cL_beginAnew 9 = .ok (.goto 9, 3) := by decide +kernel
theorem dL_beginAnew_12 : decode cL_beginAnew 12 = .ok (.astore_n 3, 1) := by decide +kernel
theorem dL_beginAnew_13 : decode cL_beginAnew 13 = .ok (.iconst 1, 1) := by decide +kernel
theorem dL_beginAnew_14 : decode cL_beginAnew 14 = .ok (.ireturn, 1) := by decide +kernel
theorem dL_beginAnew_15 : decode cL_beginAnew 15 = .ok (.astore_n 3, 1) := by decide +kernel
theorem dL_beginAnew_16 : decode cL_beginAnew 16 = .ok (.iconst 2, 1) := by decide +kernel
theorem dL_beginAnew_17 : decode cL_beginAnew 17 = .ok (.ireturn, 1) := by decide +kernel
theorem dL_beginAnew_18 : decode cL_beginAnew 18 = .ok (.iconst 0, 1) := by decide +kernel
theorem dL_beginAnew_19 : decode cL_beginAnew 19 = .ok (.ireturn, 1) := by decide +kernel
theorem dL_arm_0 : decode cL_arm 0 = .ok (.aload_n 3, 1) := by decide +kernel
theorem dL_arm_1 : decode cL_arm 1 = .ok (.iconst 0, 1) := by decide +kernel
theorem dL_arm_2 : decode cL_arm 2 = .ok (.aload_n 0, 1) := by decide +kernel
theorem dL_arm_3 : decode cL_arm 3 = .ok (.iload_n 1, 1) := by decide +kernel
theorem dL_arm_4 : decode cL_arm 4 = .ok (.iload_n 2, 1) := by decide +kernel
theorem dL_arm_5 : decode cL_arm 5 = .ok (.invokevirtual 88, 3) := by decide +kernel
theorem dL_arm_8 : decode cL_arm 8 = .ok (.i2l, 1) := by decide +kernel
theorem dL_arm_9 : decode cL_arm 9 = .ok (.lastore, 1) := by decide +kernel
theorem dL_arm_10 : decode cL_arm 10 = .ok (.goto 7, 3) := by decide +kernel
theorem dL_arm_13 : decode cL_arm 13 = .ok (.astore 4, 2) := by decide +kernel
theorem dL_arm_15 : decode cL_arm 15 = .ok (.iconst 1, 1) := by decide +kernel
theorem dL_arm_16 : decode cL_arm 16 = .ok (.ireturn, 1) := by decide +kernel
theorem dL_arm_17 : decode cL_arm 17 = .ok (.iconst 0, 1) := by decide +kernel
theorem dL_arm_18 : decode cL_arm 18 = .ok (.ireturn, 1) := by decide +kernel
theorem dL_kept_0 : decode cL_kept 0 = .ok (.aload_n 3, 1) := by decide +kernel
theorem dL_kept_1 : decode cL_kept 1 = .ok (.iconst 0, 1) := by decide +kernel
theorem dL_kept_2 : decode cL_kept 2 = .ok (.aload_n 0, 1) := by decide +kernel
theorem dL_kept_3 : decode cL_kept 3 = .ok (.iload_n 1, 1) := by decide +kernel
theorem dL_kept_4 : decode cL_kept 4 = .ok (.iload_n 2, 1) := by decide +kernel
theorem dL_kept_5 : decode cL_kept 5 = .ok (.invokevirtual 91, 3) := by decide +kernel
theorem dL_kept_8 : decode cL_kept 8 = .ok (.i2l, 1) := by decide +kernel
theorem dL_kept_9 : decode cL_kept 9 = .ok (.lastore, 1) := by decide +kernel
theorem dL_kept_10 : decode cL_kept 10 = .ok (.goto 7, 3) := by decide +kernel
theorem dL_kept_13 : decode cL_kept 13 = .ok (.astore 4, 2) := by decide +kernel
theorem dL_kept_15 : decode cL_kept 15 = .ok (.iconst 1, 1) := by decide +kernel
theorem dL_kept_16 : decode cL_kept 16 = .ok (.ireturn, 1) := by decide +kernel
theorem dL_kept_17 : decode cL_kept 17 = .ok (.iconst 0, 1) := by decide +kernel
theorem dL_kept_18 : decode cL_kept 18 = .ok (.ireturn, 1) := by decide +kernel
theorem dL_hold_0 : decode cL_hold 0 = .ok (.aload_n 3, 1) := by decide +kernel
theorem dL_hold_1 : decode cL_hold 1 = .ok (.iconst 0, 1) := by decide +kernel
theorem dL_hold_2 : decode cL_hold 2 = .ok (.aload_n 0, 1) := by decide +kernel
theorem dL_hold_3 : decode cL_hold 3 = .ok (.iload_n 1, 1) := by decide +kernel
theorem dL_hold_4 : decode cL_hold 4 = .ok (.iload_n 2, 1) := by decide +kernel
theorem dL_hold_5 : decode cL_hold 5 = .ok (.invokevirtual 94, 3) := by decide +kernel
theorem dL_hold_8 : decode cL_hold 8 = .ok (.i2l, 1) := by decide +kernel
theorem dL_hold_9 : decode cL_hold 9 = .ok (.lastore, 1) := by decide +kernel
theorem dL_hold_10 : decode cL_hold 10 = .ok (.goto 11, 3) := by decide +kernel
theorem dL_hold_13 : decode cL_hold 13 = .ok (.astore 4, 2) := by decide +kernel
theorem dL_hold_15 : decode cL_hold 15 = .ok (.iconst 1, 1) := by decide +kernel
theorem dL_hold_16 : decode cL_hold 16 = .ok (.ireturn, 1) := by decide +kernel
theorem dL_hold_17 : decode cL_hold 17 = .ok (.astore 4, 2) := by decide +kernel
theorem dL_hold_19 : decode cL_hold 19 = .ok (.iconst 2, 1) := by decide +kernel
theorem dL_hold_20 : decode cL_hold 20 = .ok (.ireturn, 1) := by decide +kernel
theorem dL_hold_21 : decode cL_hold 21 = .ok (.iconst 0, 1) := by decide +kernel
theorem dL_hold_22 : decode cL_hold 22 = .ok (.ireturn, 1) := by decide +kernel
theorem dL_release_0 : decode cL_release 0 = .ok (.aload_n 3, 1) := by decide +kernel
theorem dL_release_1 : decode cL_release 1 = .ok (.iconst 0, 1) := by decide +kernel
theorem dL_release_2 : decode cL_release 2 = .ok (.aload_n 0, 1) := by decide +kernel
theorem dL_release_3 : decode cL_release 3 = .ok (.iload_n 1, 1) := by decide +kernel
theorem dL_release_4 : decode cL_release 4 = .ok (.iload_n 2, 1) := by decide +kernel
theorem dL_release_5 : decode cL_release 5 = .ok (.invokevirtual 97, 3) := by decide +kernel
theorem dL_release_8 : decode cL_release 8 = .ok (.i2l, 1) := by decide +kernel
theorem dL_release_9 : decode cL_release 9 = .ok (.lastore, 1) := by decide +kernel
theorem dL_release_10 : decode cL_release 10 = .ok (.goto 11, 3) := by decide +kernel
theorem dL_release_13 : decode cL_release 13 = .ok (.astore 4, 2) := by decide +kernel
theorem dL_release_15 : decode cL_release 15 = .ok (.iconst 1, 1) := by decide +kernel
theorem dL_release_16 : decode cL_release 16 = .ok (.ireturn, 1) := by decide +kernel
theorem dL_release_17 : decode cL_release 17 = .ok (.astore 4, 2) := by decide +kernel
theorem dL_release_19 : decode cL_release 19 = .ok (.iconst 2, 1) := by decide +kernel
theorem dL_release_20 : decode cL_release 20 = .ok (.ireturn, 1) := by decide +kernel
theorem dL_release_21 : decode cL_release 21 = .ok (.iconst 0, 1) := by decide +kernel
theorem dL_release_22 : decode cL_release 22 = .ok (.ireturn, 1) := by decide +kernel
theorem dL_holdTrial_0 : decode cL_holdTrial 0 = .ok (.aload_n 2, 1) := by decide +kernel
theorem dL_holdTrial_1 : decode cL_holdTrial 1 = .ok (.iconst 0, 1) := by decide +kernel
theorem dL_holdTrial_2 : decode cL_holdTrial 2 = .ok (.aload_n 0, 1) := by decide +kernel
theorem dL_holdTrial_3 : decode cL_holdTrial 3 = .ok (.iload_n 1, 1) := by decide +kernel
theorem dL_holdTrial_4 : decode cL_holdTrial 4 = .ok (.invokevirtual 100, 3) := by decide +kernel
theorem dL_holdTrial_7 : decode cL_holdTrial 7 = .ok (.i2l, 1) := by decide +kernel
theorem dL_holdTrial_8 : decode cL_holdTrial 8 = .ok (.lastore, 1) := by decide +kernel
theorem dL_holdTrial_9 : decode cL_holdTrial 9 = .ok (.goto 9, 3) := by decide +kernel
theorem dL_holdTrial_12 : decode cL_holdTrial 12 = .ok (.astore_n 3, 1) := by decide +kernel
theorem dL_holdTrial_13 : decode cL_holdTrial 13 = .ok (.iconst 1, 1) := by decide +kernel
theorem dL_holdTrial_14 : decode cL_holdTrial 14 = .ok (.ireturn, 1) := by decide +kernel
theorem dL_holdTrial_15 : decode cL_holdTrial 15 = .ok (.astore_n 3, 1) := by decide +kernel
theorem dL_holdTrial_16 : decode cL_holdTrial 16 = .ok (.iconst 2, 1) := by decide +kernel
theorem dL_holdTrial_17 : decode cL_holdTrial 17 = .ok (.ireturn, 1) := by decide +kernel
theorem dL_holdTrial_18 : decode cL_holdTrial 18 = .ok (.iconst 0, 1) := by decide +kernel
theorem dL_holdTrial_19 : decode cL_holdTrial 19 = .ok (.ireturn, 1) := by decide +kernel
theorem dL_releaseTrial_0 : decode cL_releaseTrial 0 = .ok (.aload_n 2, 1) := by decide +kernel
theorem dL_releaseTrial_1 : decode cL_releaseTrial 1 = .ok (.iconst 0, 1) := by decide +kernel
theorem dL_releaseTrial_2 : decode cL_releaseTrial 2 = .ok (.aload_n 0, 1) := by decide +kernel
theorem dL_releaseTrial_3 : decode cL_releaseTrial 3 = .ok (.iload_n 1, 1) := by decide +kernel
theorem dL_releaseTrial_4 : decode cL_releaseTrial 4 = .ok (.invokevirtual 103, 3) := by decide +kernel
theorem dL_releaseTrial_7 : decode cL_releaseTrial 7 = .ok (.i2l, 1) := by decide +kernel
theorem dL_releaseTrial_8 : decode cL_releaseTrial 8 = .ok (.lastore, 1) := by decide +kernel
theorem dL_releaseTrial_9 : decode cL_releaseTrial 9 = .ok (.goto 9, 3) := by decide +kernel
theorem dL_releaseTrial_12 : decode cL_releaseTrial 12 = .ok (.astore_n 3, 1) := by decide +kernel
theorem dL_releaseTrial_13 : decode cL_releaseTrial 13 = .ok (.iconst 1, 1) := by decide +kernel
theorem dL_releaseTrial_14 : decode cL_releaseTrial 14 = .ok (.ireturn, 1) := by decide +kernel
theorem dL_releaseTrial_15 : decode cL_releaseTrial 15 = .ok (.astore_n 3, 1) := by decide +kernel
theorem dL_releaseTrial_16 : decode cL_releaseTrial 16 = .ok (.iconst 2, 1) := by decide +kernel
theorem dL_releaseTrial_17 : decode cL_releaseTrial 17 = .ok (.ireturn, 1) := by decide +kernel
theorem dL_releaseTrial_18 : decode cL_releaseTrial 18 = .ok (.iconst 0, 1) := by decide +kernel
theorem dL_releaseTrial_19 : decode cL_releaseTrial 19 = .ok (.ireturn, 1) := by decide +kernel
theorem dL_isHeld_0 : decode cL_isHeld 0 = .ok (.aload_n 3, 1) := by decide +kernel
theorem dL_isHeld_1 : decode cL_isHeld 1 = .ok (.iconst 0, 1) := by decide +kernel
theorem dL_isHeld_2 : decode cL_isHeld 2 = .ok (.aload_n 0, 1) := by decide +kernel
theorem dL_isHeld_3 : decode cL_isHeld 3 = .ok (.iload_n 1, 1) := by decide +kernel
theorem dL_isHeld_4 : decode cL_isHeld 4 = .ok (.iload_n 2, 1) := by decide +kernel
theorem dL_isHeld_5 : decode cL_isHeld 5 = .ok (.invokevirtual 106, 3) := by decide +kernel
theorem dL_isHeld_8 : decode cL_isHeld 8 = .ok (.ifCond .eq 7, 3) := by decide +kernel
theorem dL_isHeld_11 : decode cL_isHeld 11 = .ok (.lconst 1, 1) := by decide +kernel
theorem dL_isHeld_12 : decode cL_isHeld 12 = .ok (.goto 4, 3) := by decide +kernel
theorem dL_isHeld_15 : decode cL_isHeld 15 = .ok (.lconst 0, 1) := by decide +kernel
theorem dL_isHeld_16 : decode cL_isHeld 16 = .ok (.lastore, 1) := by decide +kernel
theorem dL_isHeld_17 : decode cL_isHeld 17 = .ok (.goto 7, 3) := by decide +kernel
theorem dL_isHeld_20 : decode cL_isHeld 20 = .ok (.astore 4, 2) := by decide +kernel
theorem dL_isHeld_22 : decode cL_isHeld 22 = .ok (.iconst 1, 1) := by decide +kernel
theorem dL_isHeld_23 : decode cL_isHeld 23 = .ok (.ireturn, 1) := by decide +kernel
theorem dL_isHeld_24 : decode cL_isHeld 24 = .ok (.iconst 0, 1) := by decide +kernel
theorem dL_isHeld_25 : decode cL_isHeld 25 = .ok (.ireturn, 1) := by decide +kernel
theorem dL_shownLast_0 : decode cL_shownLast 0 = .ok (.aload_n 3, 1) := by decide +kernel
theorem dL_shownLast_1 : decode cL_shownLast 1 = .ok (.iconst 0, 1) := by decide +kernel
theorem dL_shownLast_2 : decode cL_shownLast 2 = .ok (.aload_n 0, 1) := by decide +kernel
theorem dL_shownLast_3 : decode cL_shownLast 3 = .ok (.iload_n 1, 1) := by decide +kernel
theorem dL_shownLast_4 : decode cL_shownLast 4 = .ok (.iload_n 2, 1) := by decide +kernel
theorem dL_shownLast_5 : decode cL_shownLast 5 = .ok (.invokevirtual 109, 3) := by decide +kernel
theorem dL_shownLast_8 : decode cL_shownLast 8 = .ok (.i2l, 1) := by decide +kernel
theorem dL_shownLast_9 : decode cL_shownLast 9 = .ok (.lastore, 1) := by decide +kernel
theorem dL_shownLast_10 : decode cL_shownLast 10 = .ok (.goto 7, 3) := by decide +kernel
theorem dL_shownLast_13 : decode cL_shownLast 13 = .ok (.astore 4, 2) := by decide +kernel
theorem dL_shownLast_15 : decode cL_shownLast 15 = .ok (.iconst 1, 1) := by decide +kernel
theorem dL_shownLast_16 : decode cL_shownLast 16 = .ok (.ireturn, 1) := by decide +kernel
theorem dL_shownLast_17 : decode cL_shownLast 17 = .ok (.iconst 0, 1) := by decide +kernel
theorem dL_shownLast_18 : decode cL_shownLast 18 = .ok (.ireturn, 1) := by decide +kernel
theorem dL_law_0 : decode cL_law 0 = .ok (.new 8, 3) := by decide +kernel
theorem dL_law_3 : decode cL_law 3 = .ok (.dup, 1) := by decide +kernel
theorem dL_law_4 : decode cL_law 4 = .ok (.invokespecial 112, 3) := by decide +kernel
theorem dL_law_7 : decode cL_law 7 = .ok (.astore_n 1, 1) := by decide +kernel
theorem dL_law_8 : decode cL_law 8 = .ok (.new 113, 3) := by decide +kernel
theorem dL_law_11 : decode cL_law 11 = .ok (.dup, 1) := by decide +kernel
theorem dL_law_12 : decode cL_law 12 = .ok (.invokespecial 115, 3) := by decide +kernel
theorem dL_law_15 : decode cL_law 15 = .ok (.astore_n 2, 1) := by decide +kernel
theorem dL_law_16 : decode cL_law 16 = .ok (.iconst 1, 1) := by decide +kernel
theorem dL_law_17 : decode cL_law 17 = .ok (.newarray .long, 2) := by decide +kernel
theorem dL_law_19 : decode cL_law 19 = .ok (.astore_n 3, 1) := by decide +kernel
theorem dL_law_20 : decode cL_law 20 = .ok (.iconst 0, 1) := by decide +kernel
theorem dL_law_21 : decode cL_law 21 = .ok (.istore 4, 2) := by decide +kernel
theorem dL_law_23 : decode cL_law 23 = .ok (.iload 4, 2) := by decide +kernel
theorem dL_law_25 : decode cL_law 25 = .ok (.aload_n 0, 1) := by decide +kernel
theorem dL_law_26 : decode cL_law 26 = .ok (.arraylength, 1) := by decide +kernel
theorem dL_law_27 : decode cL_law 27 = .ok (.bipush 6, 2) := by decide +kernel
theorem dL_law_29 : decode cL_law 29 = .ok (.isub, 1) := by decide +kernel
theorem dL_law_30 : decode cL_law 30 = .ok (.if_icmp .gt 2281, 3) := by decide +kernel
theorem dL_law_33 : decode cL_law 33 = .ok (.aload_n 0, 1) := by decide +kernel
theorem dL_law_34 : decode cL_law 34 = .ok (.iload 4, 2) := by decide +kernel
theorem dL_law_36 : decode cL_law 36 = .ok (.iaload, 1) := by decide +kernel
theorem dL_law_37 : decode cL_law 37 = .ok (.bipush 31, 2) := by decide +kernel
theorem dL_law_39 : decode cL_law 39 = .ok (.iand, 1) := by decide +kernel
theorem dL_law_40 : decode cL_law 40 = .ok (.tableswitch 2265 0 30 #[140, 220, 323, 391, 459, 527, 583, 639, 695, 770, 862, 930, 986, 1089, 1157, 1225, 1293, 1361, 1429, 1533, 1601, 1669, 1725, 1793, 1861, 1929, 1997, 2053, 2109, 2184, 2197], 140) := by decide +kernel
theorem dL_law_180 : decode cL_law 180 = .ok (.aload_n 1, 1) := by decide +kernel
theorem dL_law_181 : decode cL_law 181 = .ok (.aload_n 0, 1) := by decide +kernel
theorem dL_law_182 : decode cL_law 182 = .ok (.iload 4, 2) := by decide +kernel
theorem dL_law_184 : decode cL_law 184 = .ok (.iconst 1, 1) := by decide +kernel
theorem dL_law_185 : decode cL_law 185 = .ok (.iadd, 1) := by decide +kernel
theorem dL_law_186 : decode cL_law 186 = .ok (.iaload, 1) := by decide +kernel
theorem dL_law_187 : decode cL_law 187 = .ok (.aload_n 0, 1) := by decide +kernel
theorem dL_law_188 : decode cL_law 188 = .ok (.iload 4, 2) := by decide +kernel
theorem dL_law_190 : decode cL_law 190 = .ok (.iconst 2, 1) := by decide +kernel
theorem dL_law_191 : decode cL_law 191 = .ok (.iadd, 1) := by decide +kernel
theorem dL_law_192 : decode cL_law 192 = .ok (.iaload, 1) := by decide +kernel
theorem dL_law_193 : decode cL_law 193 = .ok (.aload_n 0, 1) := by decide +kernel
theorem dL_law_194 : decode cL_law 194 = .ok (.iload 4, 2) := by decide +kernel
theorem dL_law_196 : decode cL_law 196 = .ok (.iconst 3, 1) := by decide +kernel
theorem dL_law_197 : decode cL_law 197 = .ok (.iadd, 1) := by decide +kernel
theorem dL_law_198 : decode cL_law 198 = .ok (.iaload, 1) := by decide +kernel
theorem dL_law_199 : decode cL_law 199 = .ok (.aload_n 3, 1) := by decide +kernel
theorem dL_law_200 : decode cL_law 200 = .ok (.invokestatic 116, 3) := by decide +kernel
theorem dL_law_203 : decode cL_law 203 = .ok (.istore 5, 2) := by decide +kernel
theorem dL_law_205 : decode cL_law 205 = .ok (.aload_n 2, 1) := by decide +kernel
theorem dL_law_206 : decode cL_law 206 = .ok (.aload_n 0, 1) := by decide +kernel
theorem dL_law_207 : decode cL_law 207 = .ok (.iload 4, 2) := by decide +kernel
theorem dL_law_209 : decode cL_law 209 = .ok (.iconst 1, 1) := by decide +kernel
theorem dL_law_210 : decode cL_law 210 = .ok (.iadd, 1) := by decide +kernel
theorem dL_law_211 : decode cL_law 211 = .ok (.iaload, 1) := by decide +kernel
theorem dL_law_212 : decode cL_law 212 = .ok (.aload_n 0, 1) := by decide +kernel
theorem dL_law_213 : decode cL_law 213 = .ok (.iload 4, 2) := by decide +kernel
theorem dL_law_215 : decode cL_law 215 = .ok (.iconst 2, 1) := by decide +kernel
theorem dL_law_216 : decode cL_law 216 = .ok (.iadd, 1) := by decide +kernel
theorem dL_law_217 : decode cL_law 217 = .ok (.iaload, 1) := by decide +kernel
theorem dL_law_218 : decode cL_law 218 = .ok (.aload_n 0, 1) := by decide +kernel
theorem dL_law_219 : decode cL_law 219 = .ok (.iload 4, 2) := by decide +kernel
theorem dL_law_221 : decode cL_law 221 = .ok (.iconst 3, 1) := by decide +kernel
theorem dL_law_222 : decode cL_law 222 = .ok (.iadd, 1) := by decide +kernel
theorem dL_law_223 : decode cL_law 223 = .ok (.iaload, 1) := by decide +kernel
theorem dL_law_224 : decode cL_law 224 = .ok (.invokevirtual 121, 3) := by decide +kernel
theorem dL_law_227 : decode cL_law 227 = .ok (.istore 6, 2) := by decide +kernel
theorem dL_law_229 : decode cL_law 229 = .ok (.aload_n 2, 1) := by decide +kernel
theorem dL_law_230 : decode cL_law 230 = .ok (.invokevirtual 122, 3) := by decide +kernel
theorem dL_law_233 : decode cL_law 233 = .ok (.iload 5, 2) := by decide +kernel
theorem dL_law_235 : decode cL_law 235 = .ok (.if_icmp .eq 5, 3) := by decide +kernel
theorem dL_law_238 : decode cL_law 238 = .ok (.iconst 0, 1) := by decide +kernel
theorem dL_law_239 : decode cL_law 239 = .ok (.ireturn, 1) := by decide +kernel
theorem dL_law_240 : decode cL_law 240 = .ok (.iload 5, 2) := by decide +kernel
theorem dL_law_242 : decode cL_law 242 = .ok (.ifCond .ne 15, 3) := by decide +kernel
theorem dL_law_245 : decode cL_law 245 = .ok (.aload_n 3, 1) := by decide +kernel
theorem dL_law_246 : decode cL_law 246 = .ok (.iconst 0, 1) := by decide +kernel
theorem dL_law_247 : decode cL_law 247 = .ok (.laload, 1) := by decide +kernel
theorem dL_law_248 : decode cL_law 248 = .ok (.iload 6, 2) := by decide +kernel
theorem dL_law_250 : decode cL_law 250 = .ok (.i2l, 1) := by decide +kernel
theorem dL_law_251 : decode cL_law 251 = .ok (.lcmp, 1) := by decide +kernel
theorem dL_law_252 : decode cL_law 252 = .ok (.ifCond .eq 5, 3) := by decide +kernel
theorem dL_law_255 : decode cL_law 255 = .ok (.iconst 0, 1) := by decide +kernel
theorem dL_law_256 : decode cL_law 256 = .ok (.ireturn, 1) := by decide +kernel
theorem dL_law_257 : decode cL_law 257 = .ok (.goto 2048, 3) := by decide +kernel
theorem dL_law_260 : decode cL_law 260 = .ok (.aload_n 1, 1) := by decide +kernel
theorem dL_law_261 : decode cL_law 261 = .ok (.aload_n 0, 1) := by decide +kernel
theorem dL_law_262 : decode cL_law 262 = .ok (.iload 4, 2) := by decide +kernel
theorem dL_law_264 : decode cL_law 264 = .ok (.iconst 1, 1) := by decide +kernel
theorem dL_law_265 : decode cL_law 265 = .ok (.iadd, 1) := by decide +kernel
theorem dL_law_266 : decode cL_law 266 = .ok (.iaload, 1) := by decide +kernel
theorem dL_law_267 : decode cL_law 267 = .ok (.aload_n 0, 1) := by decide +kernel
theorem dL_law_268 : decode cL_law 268 = .ok (.iload 4, 2) := by decide +kernel
theorem dL_law_270 : decode cL_law 270 = .ok (.iconst 2, 1) := by decide +kernel
theorem dL_law_271 : decode cL_law 271 = .ok (.iadd, 1) := by decide +kernel
theorem dL_law_272 : decode cL_law 272 = .ok (.iaload, 1) := by decide +kernel
theorem dL_law_273 : decode cL_law 273 = .ok (.aload_n 0, 1) := by decide +kernel
theorem dL_law_274 : decode cL_law 274 = .ok (.iload 4, 2) := by decide +kernel
theorem dL_law_276 : decode cL_law 276 = .ok (.iconst 3, 1) := by decide +kernel
theorem dL_law_277 : decode cL_law 277 = .ok (.iadd, 1) := by decide +kernel
theorem dL_law_278 : decode cL_law 278 = .ok (.iaload, 1) := by decide +kernel
theorem dL_law_279 : decode cL_law 279 = .ok (.ifCond .eq 7, 3) := by decide +kernel
theorem dL_law_282 : decode cL_law 282 = .ok (.iconst 1, 1) := by decide +kernel
theorem dL_law_283 : decode cL_law 283 = .ok (.goto 4, 3) := by decide +kernel
theorem dL_law_286 : decode cL_law 286 = .ok (.iconst 0, 1) := by decide +kernel
theorem dL_law_287 : decode cL_law 287 = .ok (.aload_n 3, 1) := by decide +kernel
theorem dL_law_288 : decode cL_law 288 = .ok (.invokestatic 126, 3) := by decide +kernel
theorem dL_law_291 : decode cL_law 291 = .ok (.istore 5, 2) := by decide +kernel
theorem dL_law_293 : decode cL_law 293 = .ok (.aload_n 2, 1) := by decide +kernel
theorem dL_law_294 : decode cL_law 294 = .ok (.aload_n 0, 1) := by decide +kernel
theorem dL_law_295 : decode cL_law 295 = .ok (.iload 4, 2) := by decide +kernel
theorem dL_law_297 : decode cL_law 297 = .ok (.iconst 1, 1) := by decide +kernel
theorem dL_law_298 : decode cL_law 298 = .ok (.iadd, 1) := by decide +kernel
theorem dL_law_299 : decode cL_law 299 = .ok (.iaload, 1) := by decide +kernel
theorem dL_law_300 : decode cL_law 300 = .ok (.aload_n 0, 1) := by decide +kernel
theorem dL_law_301 : decode cL_law 301 = .ok (.iload 4, 2) := by decide +kernel
theorem dL_law_303 : decode cL_law 303 = .ok (.iconst 2, 1) := by decide +kernel
theorem dL_law_304 : decode cL_law 304 = .ok (.iadd, 1) := by decide +kernel
theorem dL_law_305 : decode cL_law 305 = .ok (.iaload, 1) := by decide +kernel
theorem dL_law_306 : decode cL_law 306 = .ok (.aload_n 0, 1) := by decide +kernel
theorem dL_law_307 : decode cL_law 307 = .ok (.iload 4, 2) := by decide +kernel
theorem dL_law_309 : decode cL_law 309 = .ok (.iconst 3, 1) := by decide +kernel
theorem dL_law_310 : decode cL_law 310 = .ok (.iadd, 1) := by decide +kernel
theorem dL_law_311 : decode cL_law 311 = .ok (.iaload, 1) := by decide +kernel
theorem dL_law_312 : decode cL_law 312 = .ok (.ifCond .eq 7, 3) := by decide +kernel
theorem dL_law_315 : decode cL_law 315 = .ok (.iconst 1, 1) := by decide +kernel
theorem dL_law_316 : decode cL_law 316 = .ok (.goto 4, 3) := by decide +kernel
theorem dL_law_319 : decode cL_law 319 = .ok (.iconst 0, 1) := by decide +kernel
theorem dL_law_320 : decode cL_law 320 = .ok (.invokevirtual 129, 3) := by decide +kernel
theorem dL_law_323 : decode cL_law 323 = .ok (.istore 6, 2) := by decide +kernel
theorem dL_law_325 : decode cL_law 325 = .ok (.aload_n 2, 1) := by decide +kernel
theorem dL_law_326 : decode cL_law 326 = .ok (.invokevirtual 122, 3) := by decide +kernel
theorem dL_law_329 : decode cL_law 329 = .ok (.iload 5, 2) := by decide +kernel
theorem dL_law_331 : decode cL_law 331 = .ok (.if_icmp .eq 5, 3) := by decide +kernel
theorem dL_law_334 : decode cL_law 334 = .ok (.iconst 0, 1) := by decide +kernel
theorem dL_law_335 : decode cL_law 335 = .ok (.ireturn, 1) := by decide +kernel
theorem dL_law_336 : decode cL_law 336 = .ok (.iload 5, 2) := by decide +kernel
theorem dL_law_338 : decode cL_law 338 = .ok (.ifCond .ne 22, 3) := by decide +kernel
theorem dL_law_341 : decode cL_law 341 = .ok (.aload_n 3, 1) := by decide +kernel
theorem dL_law_342 : decode cL_law 342 = .ok (.iconst 0, 1) := by decide +kernel
theorem dL_law_343 : decode cL_law 343 = .ok (.laload, 1) := by decide +kernel
theorem dL_law_344 : decode cL_law 344 = .ok (.iload 6, 2) := by decide +kernel
theorem dL_law_346 : decode cL_law 346 = .ok (.ifCond .eq 7, 3) := by decide +kernel
theorem dL_law_349 : decode cL_law 349 = .ok (.lconst 1, 1) := by decide +kernel
theorem dL_law_350 : decode cL_law 350 = .ok (.goto 4, 3) := by decide +kernel
theorem dL_law_353 : decode cL_law 353 = .ok (.lconst 0, 1) := by decide +kernel
theorem dL_law_354 : decode cL_law 354 = .ok (.lcmp, 1) := by decide +kernel
theorem dL_law_355 : decode cL_law 355 = .ok (.ifCond .eq 5, 3) := by decide +kernel
theorem dL_law_358 : decode cL_law 358 = .ok (.iconst 0, 1) := by decide +kernel
theorem dL_law_359 : decode cL_law 359 = .ok (.ireturn, 1) := by decide +kernel
theorem dL_law_360 : decode cL_law 360 = .ok (.goto 1945, 3) := by decide +kernel
theorem dL_law_363 : decode cL_law 363 = .ok (.aload_n 1, 1) := by decide +kernel
theorem dL_law_364 : decode cL_law 364 = .ok (.aload_n 0, 1) := by decide +kernel
theorem dL_law_365 : decode cL_law 365 = .ok (.iload 4, 2) := by decide +kernel
theorem dL_law_367 : decode cL_law 367 = .ok (.iconst 1, 1) := by decide +kernel
theorem dL_law_368 : decode cL_law 368 = .ok (.iadd, 1) := by decide +kernel
theorem dL_law_369 : decode cL_law 369 = .ok (.iaload, 1) := by decide +kernel
theorem dL_law_370 : decode cL_law 370 = .ok (.aload_n 0, 1) := by decide +kernel
theorem dL_law_371 : decode cL_law 371 = .ok (.iload 4, 2) := by decide +kernel
theorem dL_law_373 : decode cL_law 373 = .ok (.iconst 2, 1) := by decide +kernel
theorem dL_law_374 : decode cL_law 374 = .ok (.iadd, 1) := by decide +kernel
theorem dL_law_375 : decode cL_law 375 = .ok (.iaload, 1) := by decide +kernel
theorem dL_law_376 : decode cL_law 376 = .ok (.aload_n 3, 1) := by decide +kernel
theorem dL_law_377 : decode cL_law 377 = .ok (.invokestatic 130, 3) := by decide +kernel
theorem dL_law_380 : decode cL_law 380 = .ok (.istore 5, 2) := by decide +kernel
theorem dL_law_382 : decode cL_law 382 = .ok (.aload_n 2, 1) := by decide +kernel
theorem dL_law_383 : decode cL_law 383 = .ok (.aload_n 0, 1) := by decide +kernel
theorem dL_law_384 : decode cL_law 384 = .ok (.iload 4, 2) := by decide +kernel
theorem dL_law_386 : decode cL_law 386 = .ok (.iconst 1, 1) := by decide +kernel
theorem dL_law_387 : decode cL_law 387 = .ok (.iadd, 1) := by decide +kernel
theorem dL_law_388 : decode cL_law 388 = .ok (.iaload, 1) := by decide +kernel
theorem dL_law_389 : decode cL_law 389 = .ok (.aload_n 0, 1) := by decide +kernel
theorem dL_law_390 : decode cL_law 390 = .ok (.iload 4, 2) := by decide +kernel
theorem dL_law_392 : decode cL_law 392 = .ok (.iconst 2, 1) := by decide +kernel
theorem dL_law_393 : decode cL_law 393 = .ok (.iadd, 1) := by decide +kernel
theorem dL_law_394 : decode cL_law 394 = .ok (.iaload, 1) := by decide +kernel
theorem dL_law_395 : decode cL_law 395 = .ok (.invokevirtual 133, 3) := by decide +kernel
theorem dL_law_398 : decode cL_law 398 = .ok (.istore 6, 2) := by decide +kernel
theorem dL_law_400 : decode cL_law 400 = .ok (.aload_n 2, 1) := by decide +kernel
theorem dL_law_401 : decode cL_law 401 = .ok (.invokevirtual 122, 3) := by decide +kernel
theorem dL_law_404 : decode cL_law 404 = .ok (.iload 5, 2) := by decide +kernel
theorem dL_law_406 : decode cL_law 406 = .ok (.if_icmp .eq 5, 3) := by decide +kernel
theorem dL_law_409 : decode cL_law 409 = .ok (.iconst 0, 1) := by decide +kernel
theorem dL_law_410 : decode cL_law 410 = .ok (.ireturn, 1) := by decide +kernel
theorem dL_law_411 : decode cL_law 411 = .ok (.iload 5, 2) := by decide +kernel
theorem dL_law_413 : decode cL_law 413 = .ok (.ifCond .ne 15, 3) := by decide +kernel
theorem dL_law_416 : decode cL_law 416 = .ok (.aload_n 3, 1) := by decide +kernel
theorem dL_law_417 : decode cL_law 417 = .ok (.iconst 0, 1) := by decide +kernel
theorem dL_law_418 : decode cL_law 418 = .ok (.laload, 1) := by decide +kernel
theorem dL_law_419 : decode cL_law 419 = .ok (.iload 6, 2) := by decide +kernel
theorem dL_law_421 : decode cL_law 421 = .ok (.i2l, 1) := by decide +kernel
theorem dL_law_422 : decode cL_law 422 = .ok (.lcmp, 1) := by decide +kernel
theorem dL_law_423 : decode cL_law 423 = .ok (.ifCond .eq 5, 3) := by decide +kernel
theorem dL_law_426 : decode cL_law 426 = .ok (.iconst 0, 1) := by decide +kernel
theorem dL_law_427 : decode cL_law 427 = .ok (.ireturn, 1) := by decide +kernel
theorem dL_law_428 : decode cL_law 428 = .ok (.goto 1877, 3) := by decide +kernel
theorem dL_law_431 : decode cL_law 431 = .ok (.aload_n 1, 1) := by decide +kernel
theorem dL_law_432 : decode cL_law 432 = .ok (.aload_n 0, 1) := by decide +kernel
theorem dL_law_433 : decode cL_law 433 = .ok (.iload 4, 2) := by decide +kernel
theorem dL_law_435 : decode cL_law 435 = .ok (.iconst 1, 1) := by decide +kernel
theorem dL_law_436 : decode cL_law 436 = .ok (.iadd, 1) := by decide +kernel
theorem dL_law_437 : decode cL_law 437 = .ok (.iaload, 1) := by decide +kernel
theorem dL_law_438 : decode cL_law 438 = .ok (.aload_n 0, 1) := by decide +kernel
theorem dL_law_439 : decode cL_law 439 = .ok (.iload 4, 2) := by decide +kernel
theorem dL_law_441 : decode cL_law 441 = .ok (.iconst 2, 1) := by decide +kernel
theorem dL_law_442 : decode cL_law 442 = .ok (.iadd, 1) := by decide +kernel
theorem dL_law_443 : decode cL_law 443 = .ok (.iaload, 1) := by decide +kernel
theorem dL_law_444 : decode cL_law 444 = .ok (.aload_n 3, 1) := by decide +kernel
theorem dL_law_445 : decode cL_law 445 = .ok (.invokestatic 134, 3) := by decide +kernel
theorem dL_law_448 : decode cL_law 448 = .ok (.istore 5, 2) := by decide +kernel
theorem dL_law_450 : decode cL_law 450 = .ok (.aload_n 2, 1) := by decide +kernel
theorem dL_law_451 : decode cL_law 451 = .ok (.aload_n 0, 1) := by decide +kernel
theorem dL_law_452 : decode cL_law 452 = .ok (.iload 4, 2) := by decide +kernel
theorem dL_law_454 : decode cL_law 454 = .ok (.iconst 1, 1) := by decide +kernel
theorem dL_law_455 : decode cL_law 455 = .ok (.iadd, 1) := by decide +kernel
theorem dL_law_456 : decode cL_law 456 = .ok (.iaload, 1) := by decide +kernel
theorem dL_law_457 : decode cL_law 457 = .ok (.aload_n 0, 1) := by decide +kernel
theorem dL_law_458 : decode cL_law 458 = .ok (.iload 4, 2) := by decide +kernel
theorem dL_law_460 : decode cL_law 460 = .ok (.iconst 2, 1) := by decide +kernel
theorem dL_law_461 : decode cL_law 461 = .ok (.iadd, 1) := by decide +kernel
theorem dL_law_462 : decode cL_law 462 = .ok (.iaload, 1) := by decide +kernel
theorem dL_law_463 : decode cL_law 463 = .ok (.invokevirtual 136, 3) := by decide +kernel
theorem dL_law_466 : decode cL_law 466 = .ok (.istore 6, 2) := by decide +kernel
theorem dL_law_468 : decode cL_law 468 = .ok (.aload_n 2, 1) := by decide +kernel
theorem dL_law_469 : decode cL_law 469 = .ok (.invokevirtual 122, 3) := by decide +kernel
theorem dL_law_472 : decode cL_law 472 = .ok (.iload 5, 2) := by decide +kernel
theorem dL_law_474 : decode cL_law 474 = .ok (.if_icmp .eq 5, 3) := by decide +kernel
theorem dL_law_477 : decode cL_law 477 = .ok (.iconst 0, 1) := by decide +kernel
theorem dL_law_478 : decode cL_law 478 = .ok (.ireturn, 1) := by decide +kernel
theorem dL_law_479 : decode cL_law 479 = .ok (.iload 5, 2) := by decide +kernel
theorem dL_law_481 : decode cL_law 481 = .ok (.ifCond .ne 15, 3) := by decide +kernel
theorem dL_law_484 : decode cL_law 484 = .ok (.aload_n 3, 1) := by decide +kernel
theorem dL_law_485 : decode cL_law 485 = .ok (.iconst 0, 1) := by decide +kernel
theorem dL_law_486 : decode cL_law 486 = .ok (.laload, 1) := by decide +kernel
theorem dL_law_487 : decode cL_law 487 = .ok (.iload 6, 2) := by decide +kernel
theorem dL_law_489 : decode cL_law 489 = .ok (.i2l, 1) := by decide +kernel
theorem dL_law_490 : decode cL_law 490 = .ok (.lcmp, 1) := by decide +kernel
theorem dL_law_491 : decode cL_law 491 = .ok (.ifCond .eq 5, 3) := by decide +kernel
theorem dL_law_494 : decode cL_law 494 = .ok (.iconst 0, 1) := by decide +kernel
theorem dL_law_495 : decode cL_law 495 = .ok (.ireturn, 1) := by decide +kernel
theorem dL_law_496 : decode cL_law 496 = .ok (.goto 1809, 3) := by decide +kernel
theorem dL_law_499 : decode cL_law 499 = .ok (.aload_n 1, 1) := by decide +kernel
theorem dL_law_500 : decode cL_law 500 = .ok (.aload_n 0, 1) := by decide +kernel
theorem dL_law_501 : decode cL_law 501 = .ok (.iload 4, 2) := by decide +kernel
theorem dL_law_503 : decode cL_law 503 = .ok (.iconst 1, 1) := by decide +kernel
theorem dL_law_504 : decode cL_law 504 = .ok (.iadd, 1) := by decide +kernel
theorem dL_law_505 : decode cL_law 505 = .ok (.iaload, 1) := by decide +kernel
theorem dL_law_506 : decode cL_law 506 = .ok (.aload_n 0, 1) := by decide +kernel
theorem dL_law_507 : decode cL_law 507 = .ok (.iload 4, 2) := by decide +kernel
theorem dL_law_509 : decode cL_law 509 = .ok (.iconst 2, 1) := by decide +kernel
theorem dL_law_510 : decode cL_law 510 = .ok (.iadd, 1) := by decide +kernel
theorem dL_law_511 : decode cL_law 511 = .ok (.iaload, 1) := by decide +kernel
theorem dL_law_512 : decode cL_law 512 = .ok (.aload_n 3, 1) := by decide +kernel
theorem dL_law_513 : decode cL_law 513 = .ok (.invokestatic 137, 3) := by decide +kernel
theorem dL_law_516 : decode cL_law 516 = .ok (.istore 5, 2) := by decide +kernel
theorem dL_law_518 : decode cL_law 518 = .ok (.aload_n 2, 1) := by decide +kernel
theorem dL_law_519 : decode cL_law 519 = .ok (.aload_n 0, 1) := by decide +kernel
theorem dL_law_520 : decode cL_law 520 = .ok (.iload 4, 2) := by decide +kernel
theorem dL_law_522 : decode cL_law 522 = .ok (.iconst 1, 1) := by decide +kernel
theorem dL_law_523 : decode cL_law 523 = .ok (.iadd, 1) := by decide +kernel
theorem dL_law_524 : decode cL_law 524 = .ok (.iaload, 1) := by decide +kernel
theorem dL_law_525 : decode cL_law 525 = .ok (.aload_n 0, 1) := by decide +kernel
theorem dL_law_526 : decode cL_law 526 = .ok (.iload 4, 2) := by decide +kernel
theorem dL_law_528 : decode cL_law 528 = .ok (.iconst 2, 1) := by decide +kernel
theorem dL_law_529 : decode cL_law 529 = .ok (.iadd, 1) := by decide +kernel
theorem dL_law_530 : decode cL_law 530 = .ok (.iaload, 1) := by decide +kernel
theorem dL_law_531 : decode cL_law 531 = .ok (.invokevirtual 139, 3) := by decide +kernel
theorem dL_law_534 : decode cL_law 534 = .ok (.istore 6, 2) := by decide +kernel
theorem dL_law_536 : decode cL_law 536 = .ok (.aload_n 2, 1) := by decide +kernel
theorem dL_law_537 : decode cL_law 537 = .ok (.invokevirtual 122, 3) := by decide +kernel
theorem dL_law_540 : decode cL_law 540 = .ok (.iload 5, 2) := by decide +kernel
theorem dL_law_542 : decode cL_law 542 = .ok (.if_icmp .eq 5, 3) := by decide +kernel
theorem dL_law_545 : decode cL_law 545 = .ok (.iconst 0, 1) := by decide +kernel
theorem dL_law_546 : decode cL_law 546 = .ok (.ireturn, 1) := by decide +kernel
theorem dL_law_547 : decode cL_law 547 = .ok (.iload 5, 2) := by decide +kernel
theorem dL_law_549 : decode cL_law 549 = .ok (.ifCond .ne 15, 3) := by decide +kernel
theorem dL_law_552 : decode cL_law 552 = .ok (.aload_n 3, 1) := by decide +kernel
theorem dL_law_553 : decode cL_law 553 = .ok (.iconst 0, 1) := by decide +kernel
theorem dL_law_554 : decode cL_law 554 = .ok (.laload, 1) := by decide +kernel
theorem dL_law_555 : decode cL_law 555 = .ok (.iload 6, 2) := by decide +kernel
theorem dL_law_557 : decode cL_law 557 = .ok (.i2l, 1) := by decide +kernel
theorem dL_law_558 : decode cL_law 558 = .ok (.lcmp, 1) := by decide +kernel
theorem dL_law_559 : decode cL_law 559 = .ok (.ifCond .eq 5, 3) := by decide +kernel
theorem dL_law_562 : decode cL_law 562 = .ok (.iconst 0, 1) := by decide +kernel
theorem dL_law_563 : decode cL_law 563 = .ok (.ireturn, 1) := by decide +kernel
theorem dL_law_564 : decode cL_law 564 = .ok (.goto 1741, 3) := by decide +kernel
theorem dL_law_567 : decode cL_law 567 = .ok (.aload_n 1, 1) := by decide +kernel
theorem dL_law_568 : decode cL_law 568 = .ok (.aload_n 0, 1) := by decide +kernel
theorem dL_law_569 : decode cL_law 569 = .ok (.iload 4, 2) := by decide +kernel
theorem dL_law_571 : decode cL_law 571 = .ok (.iconst 1, 1) := by decide +kernel
theorem dL_law_572 : decode cL_law 572 = .ok (.iadd, 1) := by decide +kernel
theorem dL_law_573 : decode cL_law 573 = .ok (.iaload, 1) := by decide +kernel
theorem dL_law_574 : decode cL_law 574 = .ok (.aload_n 3, 1) := by decide +kernel
theorem dL_law_575 : decode cL_law 575 = .ok (.invokestatic 140, 3) := by decide +kernel
theorem dL_law_578 : decode cL_law 578 = .ok (.istore 5, 2) := by decide +kernel
theorem dL_law_580 : decode cL_law 580 = .ok (.aload_n 2, 1) := by decide +kernel
theorem dL_law_581 : decode cL_law 581 = .ok (.aload_n 0, 1) := by decide +kernel
theorem dL_law_582 : decode cL_law 582 = .ok (.iload 4, 2) := by decide +kernel
theorem dL_law_584 : decode cL_law 584 = .ok (.iconst 1, 1) := by decide +kernel
theorem dL_law_585 : decode cL_law 585 = .ok (.iadd, 1) := by decide +kernel
theorem dL_law_586 : decode cL_law 586 = .ok (.iaload, 1) := by decide +kernel
theorem dL_law_587 : decode cL_law 587 = .ok (.invokevirtual 143, 3) := by decide +kernel
theorem dL_law_590 : decode cL_law 590 = .ok (.istore 6, 2) := by decide +kernel
theorem dL_law_592 : decode cL_law 592 = .ok (.aload_n 2, 1) := by decide +kernel
theorem dL_law_593 : decode cL_law 593 = .ok (.invokevirtual 122, 3) := by decide +kernel
theorem dL_law_596 : decode cL_law 596 = .ok (.iload 5, 2) := by decide +kernel
theorem dL_law_598 : decode cL_law 598 = .ok (.if_icmp .eq 5, 3) := by decide +kernel
theorem dL_law_601 : decode cL_law 601 = .ok (.iconst 0, 1) := by decide +kernel
theorem dL_law_602 : decode cL_law 602 = .ok (.ireturn, 1) := by decide +kernel
theorem dL_law_603 : decode cL_law 603 = .ok (.iload 5, 2) := by decide +kernel
theorem dL_law_605 : decode cL_law 605 = .ok (.ifCond .ne 15, 3) := by decide +kernel
theorem dL_law_608 : decode cL_law 608 = .ok (.aload_n 3, 1) := by decide +kernel
theorem dL_law_609 : decode cL_law 609 = .ok (.iconst 0, 1) := by decide +kernel
theorem dL_law_610 : decode cL_law 610 = .ok (.laload, 1) := by decide +kernel
theorem dL_law_611 : decode cL_law 611 = .ok (.iload 6, 2) := by decide +kernel
theorem dL_law_613 : decode cL_law 613 = .ok (.i2l, 1) := by decide +kernel
theorem dL_law_614 : decode cL_law 614 = .ok (.lcmp, 1) := by decide +kernel
theorem dL_law_615 : decode cL_law 615 = .ok (.ifCond .eq 5, 3) := by decide +kernel
theorem dL_law_618 : decode cL_law 618 = .ok (.iconst 0, 1) := by decide +kernel
theorem dL_law_619 : decode cL_law 619 = .ok (.ireturn, 1) := by decide +kernel
theorem dL_law_620 : decode cL_law 620 = .ok (.goto 1685, 3) := by decide +kernel
theorem dL_law_623 : decode cL_law 623 = .ok (.aload_n 1, 1) := by decide +kernel
theorem dL_law_624 : decode cL_law 624 = .ok (.aload_n 0, 1) := by decide +kernel
theorem dL_law_625 : decode cL_law 625 = .ok (.iload 4, 2) := by decide +kernel
theorem dL_law_627 : decode cL_law 627 = .ok (.iconst 1, 1) := by decide +kernel
theorem dL_law_628 : decode cL_law 628 = .ok (.iadd, 1) := by decide +kernel
theorem dL_law_629 : decode cL_law 629 = .ok (.iaload, 1) := by decide +kernel
theorem dL_law_630 : decode cL_law 630 = .ok (.aload_n 3, 1) := by decide +kernel
theorem dL_law_631 : decode cL_law 631 = .ok (.invokestatic 144, 3) := by decide +kernel
theorem dL_law_634 : decode cL_law 634 = .ok (.istore 5, 2) := by decide +kernel
theorem dL_law_636 : decode cL_law 636 = .ok (.aload_n 2, 1) := by decide +kernel
theorem dL_law_637 : decode cL_law 637 = .ok (.aload_n 0, 1) := by decide +kernel
theorem dL_law_638 : decode cL_law 638 = .ok (.iload 4, 2) := by decide +kernel
theorem dL_law_640 : decode cL_law 640 = .ok (.iconst 1, 1) := by decide +kernel
theorem dL_law_641 : decode cL_law 641 = .ok (.iadd, 1) := by decide +kernel
theorem dL_law_642 : decode cL_law 642 = .ok (.iaload, 1) := by decide +kernel
theorem dL_law_643 : decode cL_law 643 = .ok (.invokevirtual 146, 3) := by decide +kernel
theorem dL_law_646 : decode cL_law 646 = .ok (.istore 6, 2) := by decide +kernel
theorem dL_law_648 : decode cL_law 648 = .ok (.aload_n 2, 1) := by decide +kernel
theorem dL_law_649 : decode cL_law 649 = .ok (.invokevirtual 122, 3) := by decide +kernel
theorem dL_law_652 : decode cL_law 652 = .ok (.iload 5, 2) := by decide +kernel
theorem dL_law_654 : decode cL_law 654 = .ok (.if_icmp .eq 5, 3) := by decide +kernel
theorem dL_law_657 : decode cL_law 657 = .ok (.iconst 0, 1) := by decide +kernel
theorem dL_law_658 : decode cL_law 658 = .ok (.ireturn, 1) := by decide +kernel
theorem dL_law_659 : decode cL_law 659 = .ok (.iload 5, 2) := by decide +kernel
theorem dL_law_661 : decode cL_law 661 = .ok (.ifCond .ne 15, 3) := by decide +kernel
theorem dL_law_664 : decode cL_law 664 = .ok (.aload_n 3, 1) := by decide +kernel
theorem dL_law_665 : decode cL_law 665 = .ok (.iconst 0, 1) := by decide +kernel
theorem dL_law_666 : decode cL_law 666 = .ok (.laload, 1) := by decide +kernel
theorem dL_law_667 : decode cL_law 667 = .ok (.iload 6, 2) := by decide +kernel
theorem dL_law_669 : decode cL_law 669 = .ok (.i2l, 1) := by decide +kernel
theorem dL_law_670 : decode cL_law 670 = .ok (.lcmp, 1) := by decide +kernel
theorem dL_law_671 : decode cL_law 671 = .ok (.ifCond .eq 5, 3) := by decide +kernel
theorem dL_law_674 : decode cL_law 674 = .ok (.iconst 0, 1) := by decide +kernel
theorem dL_law_675 : decode cL_law 675 = .ok (.ireturn, 1) := by decide +kernel
theorem dL_law_676 : decode cL_law 676 = .ok (.goto 1629, 3) := by decide +kernel
theorem dL_law_679 : decode cL_law 679 = .ok (.aload_n 1, 1) := by decide +kernel
theorem dL_law_680 : decode cL_law 680 = .ok (.aload_n 0, 1) := by decide +kernel
theorem dL_law_681 : decode cL_law 681 = .ok (.iload 4, 2) := by decide +kernel
theorem dL_law_683 : decode cL_law 683 = .ok (.iconst 1, 1) := by decide +kernel
theorem dL_law_684 : decode cL_law 684 = .ok (.iadd, 1) := by decide +kernel
theorem dL_law_685 : decode cL_law 685 = .ok (.iaload, 1) := by decide +kernel
theorem dL_law_686 : decode cL_law 686 = .ok (.aload_n 3, 1) := by decide +kernel
theorem dL_law_687 : decode cL_law 687 = .ok (.invokestatic 147, 3) := by decide +kernel
theorem dL_law_690 : decode cL_law 690 = .ok (.istore 5, 2) := by decide +kernel
theorem dL_law_692 : decode cL_law 692 = .ok (.aload_n 2, 1) := by decide +kernel
theorem dL_law_693 : decode cL_law 693 = .ok (.aload_n 0, 1) := by decide +kernel
theorem dL_law_694 : decode cL_law 694 = .ok (.iload 4, 2) := by decide +kernel
theorem dL_law_696 : decode cL_law 696 = .ok (.iconst 1, 1) := by decide +kernel
theorem dL_law_697 : decode cL_law 697 = .ok (.iadd, 1) := by decide +kernel
theorem dL_law_698 : decode cL_law 698 = .ok (.iaload, 1) := by decide +kernel
theorem dL_law_699 : decode cL_law 699 = .ok (.invokevirtual 149, 3) := by decide +kernel
theorem dL_law_702 : decode cL_law 702 = .ok (.istore 6, 2) := by decide +kernel
theorem dL_law_704 : decode cL_law 704 = .ok (.aload_n 2, 1) := by decide +kernel
theorem dL_law_705 : decode cL_law 705 = .ok (.invokevirtual 122, 3) := by decide +kernel
theorem dL_law_708 : decode cL_law 708 = .ok (.iload 5, 2) := by decide +kernel
theorem dL_law_710 : decode cL_law 710 = .ok (.if_icmp .eq 5, 3) := by decide +kernel
theorem dL_law_713 : decode cL_law 713 = .ok (.iconst 0, 1) := by decide +kernel
theorem dL_law_714 : decode cL_law 714 = .ok (.ireturn, 1) := by decide +kernel
theorem dL_law_715 : decode cL_law 715 = .ok (.iload 5, 2) := by decide +kernel
theorem dL_law_717 : decode cL_law 717 = .ok (.ifCond .ne 15, 3) := by decide +kernel
theorem dL_law_720 : decode cL_law 720 = .ok (.aload_n 3, 1) := by decide +kernel
theorem dL_law_721 : decode cL_law 721 = .ok (.iconst 0, 1) := by decide +kernel
theorem dL_law_722 : decode cL_law 722 = .ok (.laload, 1) := by decide +kernel
theorem dL_law_723 : decode cL_law 723 = .ok (.iload 6, 2) := by decide +kernel
theorem dL_law_725 : decode cL_law 725 = .ok (.i2l, 1) := by decide +kernel
theorem dL_law_726 : decode cL_law 726 = .ok (.lcmp, 1) := by decide +kernel
theorem dL_law_727 : decode cL_law 727 = .ok (.ifCond .eq 5, 3) := by decide +kernel
theorem dL_law_730 : decode cL_law 730 = .ok (.iconst 0, 1) := by decide +kernel
theorem dL_law_731 : decode cL_law 731 = .ok (.ireturn, 1) := by decide +kernel
theorem dL_law_732 : decode cL_law 732 = .ok (.goto 1573, 3) := by decide +kernel
theorem dL_law_735 : decode cL_law 735 = .ok (.aload_n 1, 1) := by decide +kernel
theorem dL_law_736 : decode cL_law 736 = .ok (.aload_n 0, 1) := by decide +kernel
theorem dL_law_737 : decode cL_law 737 = .ok (.iload 4, 2) := by decide +kernel
theorem dL_law_739 : decode cL_law 739 = .ok (.iconst 1, 1) := by decide +kernel
theorem dL_law_740 : decode cL_law 740 = .ok (.iadd, 1) := by decide +kernel
theorem dL_law_741 : decode cL_law 741 = .ok (.iaload, 1) := by decide +kernel
theorem dL_law_742 : decode cL_law 742 = .ok (.aload_n 0, 1) := by decide +kernel
theorem dL_law_743 : decode cL_law 743 = .ok (.iload 4, 2) := by decide +kernel
theorem dL_law_745 : decode cL_law 745 = .ok (.iconst 2, 1) := by decide +kernel
theorem dL_law_746 : decode cL_law 746 = .ok (.iadd, 1) := by decide +kernel
theorem dL_law_747 : decode cL_law 747 = .ok (.iaload, 1) := by decide +kernel
theorem dL_law_748 : decode cL_law 748 = .ok (.aload_n 3, 1) := by decide +kernel
theorem dL_law_749 : decode cL_law 749 = .ok (.invokestatic 150, 3) := by decide +kernel
theorem dL_law_752 : decode cL_law 752 = .ok (.istore 5, 2) := by decide +kernel
theorem dL_law_754 : decode cL_law 754 = .ok (.aload_n 2, 1) := by decide +kernel
theorem dL_law_755 : decode cL_law 755 = .ok (.aload_n 0, 1) := by decide +kernel
theorem dL_law_756 : decode cL_law 756 = .ok (.iload 4, 2) := by decide +kernel
theorem dL_law_758 : decode cL_law 758 = .ok (.iconst 1, 1) := by decide +kernel
theorem dL_law_759 : decode cL_law 759 = .ok (.iadd, 1) := by decide +kernel
theorem dL_law_760 : decode cL_law 760 = .ok (.iaload, 1) := by decide +kernel
theorem dL_law_761 : decode cL_law 761 = .ok (.aload_n 0, 1) := by decide +kernel
theorem dL_law_762 : decode cL_law 762 = .ok (.iload 4, 2) := by decide +kernel
theorem dL_law_764 : decode cL_law 764 = .ok (.iconst 2, 1) := by decide +kernel
theorem dL_law_765 : decode cL_law 765 = .ok (.iadd, 1) := by decide +kernel
theorem dL_law_766 : decode cL_law 766 = .ok (.iaload, 1) := by decide +kernel
theorem dL_law_767 : decode cL_law 767 = .ok (.invokevirtual 152, 3) := by decide +kernel
theorem dL_law_770 : decode cL_law 770 = .ok (.istore 6, 2) := by decide +kernel
theorem dL_law_772 : decode cL_law 772 = .ok (.aload_n 2, 1) := by decide +kernel
theorem dL_law_773 : decode cL_law 773 = .ok (.invokevirtual 122, 3) := by decide +kernel
theorem dL_law_776 : decode cL_law 776 = .ok (.iload 5, 2) := by decide +kernel
theorem dL_law_778 : decode cL_law 778 = .ok (.if_icmp .eq 5, 3) := by decide +kernel
theorem dL_law_781 : decode cL_law 781 = .ok (.iconst 0, 1) := by decide +kernel
theorem dL_law_782 : decode cL_law 782 = .ok (.ireturn, 1) := by decide +kernel
theorem dL_law_783 : decode cL_law 783 = .ok (.iload 5, 2) := by decide +kernel
theorem dL_law_785 : decode cL_law 785 = .ok (.ifCond .ne 22, 3) := by decide +kernel
theorem dL_law_788 : decode cL_law 788 = .ok (.aload_n 3, 1) := by decide +kernel
theorem dL_law_789 : decode cL_law 789 = .ok (.iconst 0, 1) := by decide +kernel
theorem dL_law_790 : decode cL_law 790 = .ok (.laload, 1) := by decide +kernel
theorem dL_law_791 : decode cL_law 791 = .ok (.iload 6, 2) := by decide +kernel
theorem dL_law_793 : decode cL_law 793 = .ok (.ifCond .eq 7, 3) := by decide +kernel
theorem dL_law_796 : decode cL_law 796 = .ok (.lconst 1, 1) := by decide +kernel
theorem dL_law_797 : decode cL_law 797 = .ok (.goto 4, 3) := by decide +kernel
theorem dL_law_800 : decode cL_law 800 = .ok (.lconst 0, 1) := by decide +kernel
theorem dL_law_801 : decode cL_law 801 = .ok (.lcmp, 1) := by decide +kernel
theorem dL_law_802 : decode cL_law 802 = .ok (.ifCond .eq 5, 3) := by decide +kernel
theorem dL_law_805 : decode cL_law 805 = .ok (.iconst 0, 1) := by decide +kernel
theorem dL_law_806 : decode cL_law 806 = .ok (.ireturn, 1) := by decide +kernel
theorem dL_law_807 : decode cL_law 807 = .ok (.goto 1498, 3) := by decide +kernel
theorem dL_law_810 : decode cL_law 810 = .ok (.aload_n 1, 1) := by decide +kernel
theorem dL_law_811 : decode cL_law 811 = .ok (.aload_n 0, 1) := by decide +kernel
theorem dL_law_812 : decode cL_law 812 = .ok (.iload 4, 2) := by decide +kernel
theorem dL_law_814 : decode cL_law 814 = .ok (.iconst 1, 1) := by decide +kernel
theorem dL_law_815 : decode cL_law 815 = .ok (.iadd, 1) := by decide +kernel
theorem dL_law_816 : decode cL_law 816 = .ok (.iaload, 1) := by decide +kernel
theorem dL_law_817 : decode cL_law 817 = .ok (.aload_n 0, 1) := by decide +kernel
theorem dL_law_818 : decode cL_law 818 = .ok (.iload 4, 2) := by decide +kernel
theorem dL_law_820 : decode cL_law 820 = .ok (.iconst 2, 1) := by decide +kernel
theorem dL_law_821 : decode cL_law 821 = .ok (.iadd, 1) := by decide +kernel
theorem dL_law_822 : decode cL_law 822 = .ok (.iaload, 1) := by decide +kernel
theorem dL_law_823 : decode cL_law 823 = .ok (.aload_n 0, 1) := by decide +kernel
theorem dL_law_824 : decode cL_law 824 = .ok (.iload 4, 2) := by decide +kernel
theorem dL_law_826 : decode cL_law 826 = .ok (.iconst 3, 1) := by decide +kernel
theorem dL_law_827 : decode cL_law 827 = .ok (.iadd, 1) := by decide +kernel
theorem dL_law_828 : decode cL_law 828 = .ok (.iaload, 1) := by decide +kernel
theorem dL_law_829 : decode cL_law 829 = .ok (.aload_n 0, 1) := by decide +kernel
theorem dL_law_830 : decode cL_law 830 = .ok (.iload 4, 2) := by decide +kernel
theorem dL_law_832 : decode cL_law 832 = .ok (.iconst 4, 1) := by decide +kernel
theorem dL_law_833 : decode cL_law 833 = .ok (.iadd, 1) := by decide +kernel
theorem dL_law_834 : decode cL_law 834 = .ok (.iaload, 1) := by decide +kernel
theorem dL_law_835 : decode cL_law 835 = .ok (.aload_n 3, 1) := by decide +kernel
theorem dL_law_836 : decode cL_law 836 = .ok (.invokestatic 153, 3) := by decide +kernel
theorem dL_law_839 : decode cL_law 839 = .ok (.istore 5, 2) := by decide +kernel
theorem dL_law_841 : decode cL_law 841 = .ok (.aload_n 2, 1) := by decide +kernel
theorem dL_law_842 : decode cL_law 842 = .ok (.aload_n 0, 1) := by decide +kernel
theorem dL_law_843 : decode cL_law 843 = .ok (.iload 4, 2) := by decide +kernel
theorem dL_law_845 : decode cL_law 845 = .ok (.iconst 1, 1) := by decide +kernel
theorem dL_law_846 : decode cL_law 846 = .ok (.iadd, 1) := by decide +kernel
theorem dL_law_847 : decode cL_law 847 = .ok (.iaload, 1) := by decide +kernel
theorem dL_law_848 : decode cL_law 848 = .ok (.aload_n 0, 1) := by decide +kernel
theorem dL_law_849 : decode cL_law 849 = .ok (.iload 4, 2) := by decide +kernel
theorem dL_law_851 : decode cL_law 851 = .ok (.iconst 2, 1) := by decide +kernel
theorem dL_law_852 : decode cL_law 852 = .ok (.iadd, 1) := by decide +kernel
theorem dL_law_853 : decode cL_law 853 = .ok (.iaload, 1) := by decide +kernel
theorem dL_law_854 : decode cL_law 854 = .ok (.aload_n 0, 1) := by decide +kernel
theorem dL_law_855 : decode cL_law 855 = .ok (.iload 4, 2) := by decide +kernel
theorem dL_law_857 : decode cL_law 857 = .ok (.iconst 3, 1) := by decide +kernel
theorem dL_law_858 : decode cL_law 858 = .ok (.iadd, 1) := by decide +kernel
theorem dL_law_859 : decode cL_law 859 = .ok (.iaload, 1) := by decide +kernel
theorem dL_law_860 : decode cL_law 860 = .ok (.aload_n 0, 1) := by decide +kernel
theorem dL_law_861 : decode cL_law 861 = .ok (.iload 4, 2) := by decide +kernel
theorem dL_law_863 : decode cL_law 863 = .ok (.iconst 4, 1) := by decide +kernel
theorem dL_law_864 : decode cL_law 864 = .ok (.iadd, 1) := by decide +kernel
theorem dL_law_865 : decode cL_law 865 = .ok (.iaload, 1) := by decide +kernel
theorem dL_law_866 : decode cL_law 866 = .ok (.invokevirtual 156, 3) := by decide +kernel
theorem dL_law_869 : decode cL_law 869 = .ok (.istore 6, 2) := by decide +kernel
theorem dL_law_871 : decode cL_law 871 = .ok (.aload_n 2, 1) := by decide +kernel
theorem dL_law_872 : decode cL_law 872 = .ok (.invokevirtual 122, 3) := by decide +kernel
theorem dL_law_875 : decode cL_law 875 = .ok (.iload 5, 2) := by decide +kernel
theorem dL_law_877 : decode cL_law 877 = .ok (.if_icmp .eq 5, 3) := by decide +kernel
theorem dL_law_880 : decode cL_law 880 = .ok (.iconst 0, 1) := by decide +kernel
theorem dL_law_881 : decode cL_law 881 = .ok (.ireturn, 1) := by decide +kernel
theorem dL_law_882 : decode cL_law 882 = .ok (.iload 5, 2) := by decide +kernel
theorem dL_law_884 : decode cL_law 884 = .ok (.ifCond .ne 15, 3) := by decide +kernel
theorem dL_law_887 : decode cL_law 887 = .ok (.aload_n 3, 1) := by decide +kernel
theorem dL_law_888 : decode cL_law 888 = .ok (.iconst 0, 1) := by decide +kernel
theorem dL_law_889 : decode cL_law 889 = .ok (.laload, 1) := by decide +kernel
theorem dL_law_890 : decode cL_law 890 = .ok (.iload 6, 2) := by decide +kernel
theorem dL_law_892 : decode cL_law 892 = .ok (.i2l, 1) := by decide +kernel
theorem dL_law_893 : decode cL_law 893 = .ok (.lcmp, 1) := by decide +kernel
theorem dL_law_894 : decode cL_law 894 = .ok (.ifCond .eq 5, 3) := by decide +kernel
theorem dL_law_897 : decode cL_law 897 = .ok (.iconst 0, 1) := by decide +kernel
theorem dL_law_898 : decode cL_law 898 = .ok (.ireturn, 1) := by decide +kernel
theorem dL_law_899 : decode cL_law 899 = .ok (.goto 1406, 3) := by decide +kernel
theorem dL_law_902 : decode cL_law 902 = .ok (.aload_n 1, 1) := by decide +kernel
theorem dL_law_903 : decode cL_law 903 = .ok (.aload_n 0, 1) := by decide +kernel
theorem dL_law_904 : decode cL_law 904 = .ok (.iload 4, 2) := by decide +kernel
theorem dL_law_906 : decode cL_law 906 = .ok (.iconst 1, 1) := by decide +kernel
theorem dL_law_907 : decode cL_law 907 = .ok (.iadd, 1) := by decide +kernel
theorem dL_law_908 : decode cL_law 908 = .ok (.iaload, 1) := by decide +kernel
theorem dL_law_909 : decode cL_law 909 = .ok (.aload_n 0, 1) := by decide +kernel
theorem dL_law_910 : decode cL_law 910 = .ok (.iload 4, 2) := by decide +kernel
theorem dL_law_912 : decode cL_law 912 = .ok (.iconst 2, 1) := by decide +kernel
theorem dL_law_913 : decode cL_law 913 = .ok (.iadd, 1) := by decide +kernel
theorem dL_law_914 : decode cL_law 914 = .ok (.iaload, 1) := by decide +kernel
theorem dL_law_915 : decode cL_law 915 = .ok (.aload_n 3, 1) := by decide +kernel
theorem dL_law_916 : decode cL_law 916 = .ok (.invokestatic 157, 3) := by decide +kernel
theorem dL_law_919 : decode cL_law 919 = .ok (.istore 5, 2) := by decide +kernel
theorem dL_law_921 : decode cL_law 921 = .ok (.aload_n 2, 1) := by decide +kernel
theorem dL_law_922 : decode cL_law 922 = .ok (.aload_n 0, 1) := by decide +kernel
theorem dL_law_923 : decode cL_law 923 = .ok (.iload 4, 2) := by decide +kernel
theorem dL_law_925 : decode cL_law 925 = .ok (.iconst 1, 1) := by decide +kernel
theorem dL_law_926 : decode cL_law 926 = .ok (.iadd, 1) := by decide +kernel
theorem dL_law_927 : decode cL_law 927 = .ok (.iaload, 1) := by decide +kernel
theorem dL_law_928 : decode cL_law 928 = .ok (.aload_n 0, 1) := by decide +kernel
theorem dL_law_929 : decode cL_law 929 = .ok (.iload 4, 2) := by decide +kernel
theorem dL_law_931 : decode cL_law 931 = .ok (.iconst 2, 1) := by decide +kernel
theorem dL_law_932 : decode cL_law 932 = .ok (.iadd, 1) := by decide +kernel
theorem dL_law_933 : decode cL_law 933 = .ok (.iaload, 1) := by decide +kernel
theorem dL_law_934 : decode cL_law 934 = .ok (.invokevirtual 159, 3) := by decide +kernel
theorem dL_law_937 : decode cL_law 937 = .ok (.istore 6, 2) := by decide +kernel
theorem dL_law_939 : decode cL_law 939 = .ok (.aload_n 2, 1) := by decide +kernel
theorem dL_law_940 : decode cL_law 940 = .ok (.invokevirtual 122, 3) := by decide +kernel
theorem dL_law_943 : decode cL_law 943 = .ok (.iload 5, 2) := by decide +kernel
theorem dL_law_945 : decode cL_law 945 = .ok (.if_icmp .eq 5, 3) := by decide +kernel
theorem dL_law_948 : decode cL_law 948 = .ok (.iconst 0, 1) := by decide +kernel
theorem dL_law_949 : decode cL_law 949 = .ok (.ireturn, 1) := by decide +kernel
theorem dL_law_950 : decode cL_law 950 = .ok (.iload 5, 2) := by decide +kernel
theorem dL_law_952 : decode cL_law 952 = .ok (.ifCond .ne 15, 3) := by decide +kernel
theorem dL_law_955 : decode cL_law 955 = .ok (.aload_n 3, 1) := by decide +kernel
theorem dL_law_956 : decode cL_law 956 = .ok (.iconst 0, 1) := by decide +kernel
theorem dL_law_957 : decode cL_law 957 = .ok (.laload, 1) := by decide +kernel
theorem dL_law_958 : decode cL_law 958 = .ok (.iload 6, 2) := by decide +kernel
theorem dL_law_960 : decode cL_law 960 = .ok (.i2l, 1) := by decide +kernel
theorem dL_law_961 : decode cL_law 961 = .ok (.lcmp, 1) := by decide +kernel
theorem dL_law_962 : decode cL_law 962 = .ok (.ifCond .eq 5, 3) := by decide +kernel
theorem dL_law_965 : decode cL_law 965 = .ok (.iconst 0, 1) := by decide +kernel
theorem dL_law_966 : decode cL_law 966 = .ok (.ireturn, 1) := by decide +kernel
theorem dL_law_967 : decode cL_law 967 = .ok (.goto 1338, 3) := by decide +kernel
theorem dL_law_970 : decode cL_law 970 = .ok (.aload_n 1, 1) := by decide +kernel
theorem dL_law_971 : decode cL_law 971 = .ok (.aload_n 0, 1) := by decide +kernel
theorem dL_law_972 : decode cL_law 972 = .ok (.iload 4, 2) := by decide +kernel
theorem dL_law_974 : decode cL_law 974 = .ok (.iconst 1, 1) := by decide +kernel
theorem dL_law_975 : decode cL_law 975 = .ok (.iadd, 1) := by decide +kernel
theorem dL_law_976 : decode cL_law 976 = .ok (.iaload, 1) := by decide +kernel
theorem dL_law_977 : decode cL_law 977 = .ok (.aload_n 3, 1) := by decide +kernel
theorem dL_law_978 : decode cL_law 978 = .ok (.invokestatic 160, 3) := by decide +kernel
theorem dL_law_981 : decode cL_law 981 = .ok (.istore 5, 2) := by decide +kernel
theorem dL_law_983 : decode cL_law 983 = .ok (.aload_n 2, 1) := by decide +kernel
theorem dL_law_984 : decode cL_law 984 = .ok (.aload_n 0, 1) := by decide +kernel
theorem dL_law_985 : decode cL_law 985 = .ok (.iload 4, 2) := by decide +kernel
theorem dL_law_987 : decode cL_law 987 = .ok (.iconst 1, 1) := by decide +kernel
theorem dL_law_988 : decode cL_law 988 = .ok (.iadd, 1) := by decide +kernel
theorem dL_law_989 : decode cL_law 989 = .ok (.iaload, 1) := by decide +kernel
theorem dL_law_990 : decode cL_law 990 = .ok (.invokevirtual 162, 3) := by decide +kernel
theorem dL_law_993 : decode cL_law 993 = .ok (.istore 6, 2) := by decide +kernel
theorem dL_law_995 : decode cL_law 995 = .ok (.aload_n 2, 1) := by decide +kernel
theorem dL_law_996 : decode cL_law 996 = .ok (.invokevirtual 122, 3) := by decide +kernel
theorem dL_law_999 : decode cL_law 999 = .ok (.iload 5, 2) := by decide +kernel
theorem dL_law_1001 : decode cL_law 1001 = .ok (.if_icmp .eq 5, 3) := by decide +kernel
theorem dL_law_1004 : decode cL_law 1004 = .ok (.iconst 0, 1) := by decide +kernel
theorem dL_law_1005 : decode cL_law 1005 = .ok (.ireturn, 1) := by decide +kernel
theorem dL_law_1006 : decode cL_law 1006 = .ok (.iload 5, 2) := by decide +kernel
theorem dL_law_1008 : decode cL_law 1008 = .ok (.ifCond .ne 15, 3) := by decide +kernel
theorem dL_law_1011 : decode cL_law 1011 = .ok (.aload_n 3, 1) := by decide +kernel
theorem dL_law_1012 : decode cL_law 1012 = .ok (.iconst 0, 1) := by decide +kernel
theorem dL_law_1013 : decode cL_law 1013 = .ok (.laload, 1) := by decide +kernel
theorem dL_law_1014 : decode cL_law 1014 = .ok (.iload 6, 2) := by decide +kernel
theorem dL_law_1016 : decode cL_law 1016 = .ok (.i2l, 1) := by decide +kernel
theorem dL_law_1017 : decode cL_law 1017 = .ok (.lcmp, 1) := by decide +kernel
theorem dL_law_1018 : decode cL_law 1018 = .ok (.ifCond .eq 5, 3) := by decide +kernel
theorem dL_law_1021 : decode cL_law 1021 = .ok (.iconst 0, 1) := by decide +kernel
theorem dL_law_1022 : decode cL_law 1022 = .ok (.ireturn, 1) := by decide +kernel
theorem dL_law_1023 : decode cL_law 1023 = .ok (.goto 1282, 3) := by decide +kernel
theorem dL_law_1026 : decode cL_law 1026 = .ok (.aload_n 1, 1) := by decide +kernel
theorem dL_law_1027 : decode cL_law 1027 = .ok (.aload_n 0, 1) := by decide +kernel
theorem dL_law_1028 : decode cL_law 1028 = .ok (.iload 4, 2) := by decide +kernel
theorem dL_law_1030 : decode cL_law 1030 = .ok (.iconst 1, 1) := by decide +kernel
theorem dL_law_1031 : decode cL_law 1031 = .ok (.iadd, 1) := by decide +kernel
theorem dL_law_1032 : decode cL_law 1032 = .ok (.iaload, 1) := by decide +kernel
theorem dL_law_1033 : decode cL_law 1033 = .ok (.aload_n 0, 1) := by decide +kernel
theorem dL_law_1034 : decode cL_law 1034 = .ok (.iload 4, 2) := by decide +kernel
theorem dL_law_1036 : decode cL_law 1036 = .ok (.iconst 2, 1) := by decide +kernel
theorem dL_law_1037 : decode cL_law 1037 = .ok (.iadd, 1) := by decide +kernel
theorem dL_law_1038 : decode cL_law 1038 = .ok (.iaload, 1) := by decide +kernel
theorem dL_law_1039 : decode cL_law 1039 = .ok (.aload_n 0, 1) := by decide +kernel
theorem dL_law_1040 : decode cL_law 1040 = .ok (.iload 4, 2) := by decide +kernel
theorem dL_law_1042 : decode cL_law 1042 = .ok (.iconst 3, 1) := by decide +kernel
theorem dL_law_1043 : decode cL_law 1043 = .ok (.iadd, 1) := by decide +kernel
theorem dL_law_1044 : decode cL_law 1044 = .ok (.iaload, 1) := by decide +kernel
theorem dL_law_1045 : decode cL_law 1045 = .ok (.ifCond .eq 7, 3) := by decide +kernel
theorem dL_law_1048 : decode cL_law 1048 = .ok (.iconst 1, 1) := by decide +kernel
theorem dL_law_1049 : decode cL_law 1049 = .ok (.goto 4, 3) := by decide +kernel
theorem dL_law_1052 : decode cL_law 1052 = .ok (.iconst 0, 1) := by decide +kernel
theorem dL_law_1053 : decode cL_law 1053 = .ok (.aload_n 3, 1) := by decide +kernel
theorem dL_law_1054 : decode cL_law 1054 = .ok (.invokestatic 163, 3) := by decide +kernel
theorem dL_law_1057 : decode cL_law 1057 = .ok (.istore 5, 2) := by decide +kernel
theorem dL_law_1059 : decode cL_law 1059 = .ok (.aload_n 2, 1) := by decide +kernel
theorem dL_law_1060 : decode cL_law 1060 = .ok (.aload_n 0, 1) := by decide +kernel
theorem dL_law_1061 : decode cL_law 1061 = .ok (.iload 4, 2) := by decide +kernel
theorem dL_law_1063 : decode cL_law 1063 = .ok (.iconst 1, 1) := by decide +kernel
theorem dL_law_1064 : decode cL_law 1064 = .ok (.iadd, 1) := by decide +kernel
theorem dL_law_1065 : decode cL_law 1065 = .ok (.iaload, 1) := by decide +kernel
theorem dL_law_1066 : decode cL_law 1066 = .ok (.aload_n 0, 1) := by decide +kernel
theorem dL_law_1067 : decode cL_law 1067 = .ok (.iload 4, 2) := by decide +kernel
theorem dL_law_1069 : decode cL_law 1069 = .ok (.iconst 2, 1) := by decide +kernel
theorem dL_law_1070 : decode cL_law 1070 = .ok (.iadd, 1) := by decide +kernel
theorem dL_law_1071 : decode cL_law 1071 = .ok (.iaload, 1) := by decide +kernel
theorem dL_law_1072 : decode cL_law 1072 = .ok (.aload_n 0, 1) := by decide +kernel
theorem dL_law_1073 : decode cL_law 1073 = .ok (.iload 4, 2) := by decide +kernel
theorem dL_law_1075 : decode cL_law 1075 = .ok (.iconst 3, 1) := by decide +kernel
theorem dL_law_1076 : decode cL_law 1076 = .ok (.iadd, 1) := by decide +kernel
theorem dL_law_1077 : decode cL_law 1077 = .ok (.iaload, 1) := by decide +kernel
theorem dL_law_1078 : decode cL_law 1078 = .ok (.ifCond .eq 7, 3) := by decide +kernel
theorem dL_law_1081 : decode cL_law 1081 = .ok (.iconst 1, 1) := by decide +kernel
theorem dL_law_1082 : decode cL_law 1082 = .ok (.goto 4, 3) := by decide +kernel
theorem dL_law_1085 : decode cL_law 1085 = .ok (.iconst 0, 1) := by decide +kernel
theorem dL_law_1086 : decode cL_law 1086 = .ok (.invokevirtual 165, 3) := by decide +kernel
theorem dL_law_1089 : decode cL_law 1089 = .ok (.istore 6, 2) := by decide +kernel
theorem dL_law_1091 : decode cL_law 1091 = .ok (.aload_n 2, 1) := by decide +kernel
theorem dL_law_1092 : decode cL_law 1092 = .ok (.invokevirtual 122, 3) := by decide +kernel
theorem dL_law_1095 : decode cL_law 1095 = .ok (.iload 5, 2) := by decide +kernel
theorem dL_law_1097 : decode cL_law 1097 = .ok (.if_icmp .eq 5, 3) := by decide +kernel
theorem dL_law_1100 : decode cL_law 1100 = .ok (.iconst 0, 1) := by decide +kernel
theorem dL_law_1101 : decode cL_law 1101 = .ok (.ireturn, 1) := by decide +kernel
theorem dL_law_1102 : decode cL_law 1102 = .ok (.iload 5, 2) := by decide +kernel
theorem dL_law_1104 : decode cL_law 1104 = .ok (.ifCond .ne 22, 3) := by decide +kernel
theorem dL_law_1107 : decode cL_law 1107 = .ok (.aload_n 3, 1) := by decide +kernel
theorem dL_law_1108 : decode cL_law 1108 = .ok (.iconst 0, 1) := by decide +kernel
theorem dL_law_1109 : decode cL_law 1109 = .ok (.laload, 1) := by decide +kernel
theorem dL_law_1110 : decode cL_law 1110 = .ok (.iload 6, 2) := by decide +kernel
theorem dL_law_1112 : decode cL_law 1112 = .ok (.ifCond .eq 7, 3) := by decide +kernel
theorem dL_law_1115 : decode cL_law 1115 = .ok (.lconst 1, 1) := by decide +kernel
theorem dL_law_1116 : decode cL_law 1116 = .ok (.goto 4, 3) := by decide +kernel
theorem dL_law_1119 : decode cL_law 1119 = .ok (.lconst 0, 1) := by decide +kernel
theorem dL_law_1120 : decode cL_law 1120 = .ok (.lcmp, 1) := by decide +kernel
theorem dL_law_1121 : decode cL_law 1121 = .ok (.ifCond .eq 5, 3) := by decide +kernel
theorem dL_law_1124 : decode cL_law 1124 = .ok (.iconst 0, 1) := by decide +kernel
theorem dL_law_1125 : decode cL_law 1125 = .ok (.ireturn, 1) := by decide +kernel
theorem dL_law_1126 : decode cL_law 1126 = .ok (.goto 1179, 3) := by decide +kernel
theorem dL_law_1129 : decode cL_law 1129 = .ok (.aload_n 1, 1) := by decide +kernel
theorem dL_law_1130 : decode cL_law 1130 = .ok (.aload_n 0, 1) := by decide +kernel
theorem dL_law_1131 : decode cL_law 1131 = .ok (.iload 4, 2) := by decide +kernel
theorem dL_law_1133 : decode cL_law 1133 = .ok (.iconst 1, 1) := by decide +kernel
theorem dL_law_1134 : decode cL_law 1134 = .ok (.iadd, 1) := by decide +kernel
theorem dL_law_1135 : decode cL_law 1135 = .ok (.iaload, 1) := by decide +kernel
theorem dL_law_1136 : decode cL_law 1136 = .ok (.aload_n 0, 1) := by decide +kernel
theorem dL_law_1137 : decode cL_law 1137 = .ok (.iload 4, 2) := by decide +kernel
theorem dL_law_1139 : decode cL_law 1139 = .ok (.iconst 2, 1) := by decide +kernel
theorem dL_law_1140 : decode cL_law 1140 = .ok (.iadd, 1) := by decide +kernel
theorem dL_law_1141 : decode cL_law 1141 = .ok (.iaload, 1) := by decide +kernel
theorem dL_law_1142 : decode cL_law 1142 = .ok (.aload_n 3, 1) := by decide +kernel
theorem dL_law_1143 : decode cL_law 1143 = .ok (.invokestatic 166, 3) := by decide +kernel
theorem dL_law_1146 : decode cL_law 1146 = .ok (.istore 5, 2) := by decide +kernel
theorem dL_law_1148 : decode cL_law 1148 = .ok (.aload_n 2, 1) := by decide +kernel
theorem dL_law_1149 : decode cL_law 1149 = .ok (.aload_n 0, 1) := by decide +kernel
theorem dL_law_1150 : decode cL_law 1150 = .ok (.iload 4, 2) := by decide +kernel
theorem dL_law_1152 : decode cL_law 1152 = .ok (.iconst 1, 1) := by decide +kernel
theorem dL_law_1153 : decode cL_law 1153 = .ok (.iadd, 1) := by decide +kernel
theorem dL_law_1154 : decode cL_law 1154 = .ok (.iaload, 1) := by decide +kernel
theorem dL_law_1155 : decode cL_law 1155 = .ok (.aload_n 0, 1) := by decide +kernel
theorem dL_law_1156 : decode cL_law 1156 = .ok (.iload 4, 2) := by decide +kernel
theorem dL_law_1158 : decode cL_law 1158 = .ok (.iconst 2, 1) := by decide +kernel
theorem dL_law_1159 : decode cL_law 1159 = .ok (.iadd, 1) := by decide +kernel
theorem dL_law_1160 : decode cL_law 1160 = .ok (.iaload, 1) := by decide +kernel
theorem dL_law_1161 : decode cL_law 1161 = .ok (.invokevirtual 168, 3) := by decide +kernel
theorem dL_law_1164 : decode cL_law 1164 = .ok (.istore 6, 2) := by decide +kernel
theorem dL_law_1166 : decode cL_law 1166 = .ok (.aload_n 2, 1) := by decide +kernel
theorem dL_law_1167 : decode cL_law 1167 = .ok (.invokevirtual 122, 3) := by decide +kernel
theorem dL_law_1170 : decode cL_law 1170 = .ok (.iload 5, 2) := by decide +kernel
theorem dL_law_1172 : decode cL_law 1172 = .ok (.if_icmp .eq 5, 3) := by decide +kernel
theorem dL_law_1175 : decode cL_law 1175 = .ok (.iconst 0, 1) := by decide +kernel
theorem dL_law_1176 : decode cL_law 1176 = .ok (.ireturn, 1) := by decide +kernel
theorem dL_law_1177 : decode cL_law 1177 = .ok (.iload 5, 2) := by decide +kernel
theorem dL_law_1179 : decode cL_law 1179 = .ok (.ifCond .ne 15, 3) := by decide +kernel
theorem dL_law_1182 : decode cL_law 1182 = .ok (.aload_n 3, 1) := by decide +kernel
theorem dL_law_1183 : decode cL_law 1183 = .ok (.iconst 0, 1) := by decide +kernel
theorem dL_law_1184 : decode cL_law 1184 = .ok (.laload, 1) := by decide +kernel
theorem dL_law_1185 : decode cL_law 1185 = .ok (.iload 6, 2) := by decide +kernel
theorem dL_law_1187 : decode cL_law 1187 = .ok (.i2l, 1) := by decide +kernel
theorem dL_law_1188 : decode cL_law 1188 = .ok (.lcmp, 1) := by decide +kernel
theorem dL_law_1189 : decode cL_law 1189 = .ok (.ifCond .eq 5, 3) := by decide +kernel
theorem dL_law_1192 : decode cL_law 1192 = .ok (.iconst 0, 1) := by decide +kernel
theorem dL_law_1193 : decode cL_law 1193 = .ok (.ireturn, 1) := by decide +kernel
theorem dL_law_1194 : decode cL_law 1194 = .ok (.goto 1111, 3) := by decide +kernel
theorem dL_law_1197 : decode cL_law 1197 = .ok (.aload_n 1, 1) := by decide +kernel
theorem dL_law_1198 : decode cL_law 1198 = .ok (.aload_n 0, 1) := by decide +kernel
theorem dL_law_1199 : decode cL_law 1199 = .ok (.iload 4, 2) := by decide +kernel
theorem dL_law_1201 : decode cL_law 1201 = .ok (.iconst 1, 1) := by decide +kernel
theorem dL_law_1202 : decode cL_law 1202 = .ok (.iadd, 1) := by decide +kernel
theorem dL_law_1203 : decode cL_law 1203 = .ok (.iaload, 1) := by decide +kernel
theorem dL_law_1204 : decode cL_law 1204 = .ok (.aload_n 0, 1) := by decide +kernel
theorem dL_law_1205 : decode cL_law 1205 = .ok (.iload 4, 2) := by decide +kernel
theorem dL_law_1207 : decode cL_law 1207 = .ok (.iconst 2, 1) := by decide +kernel
theorem dL_law_1208 : decode cL_law 1208 = .ok (.iadd, 1) := by decide +kernel
theorem dL_law_1209 : decode cL_law 1209 = .ok (.iaload, 1) := by decide +kernel
theorem dL_law_1210 : decode cL_law 1210 = .ok (.aload_n 3, 1) := by decide +kernel
theorem dL_law_1211 : decode cL_law 1211 = .ok (.invokestatic 169, 3) := by decide +kernel
theorem dL_law_1214 : decode cL_law 1214 = .ok (.istore 5, 2) := by decide +kernel
theorem dL_law_1216 : decode cL_law 1216 = .ok (.aload_n 2, 1) := by decide +kernel
theorem dL_law_1217 : decode cL_law 1217 = .ok (.aload_n 0, 1) := by decide +kernel
theorem dL_law_1218 : decode cL_law 1218 = .ok (.iload 4, 2) := by decide +kernel
theorem dL_law_1220 : decode cL_law 1220 = .ok (.iconst 1, 1) := by decide +kernel
theorem dL_law_1221 : decode cL_law 1221 = .ok (.iadd, 1) := by decide +kernel
theorem dL_law_1222 : decode cL_law 1222 = .ok (.iaload, 1) := by decide +kernel
theorem dL_law_1223 : decode cL_law 1223 = .ok (.aload_n 0, 1) := by decide +kernel
theorem dL_law_1224 : decode cL_law 1224 = .ok (.iload 4, 2) := by decide +kernel
theorem dL_law_1226 : decode cL_law 1226 = .ok (.iconst 2, 1) := by decide +kernel
theorem dL_law_1227 : decode cL_law 1227 = .ok (.iadd, 1) := by decide +kernel
theorem dL_law_1228 : decode cL_law 1228 = .ok (.iaload, 1) := by decide +kernel
theorem dL_law_1229 : decode cL_law 1229 = .ok (.invokevirtual 171, 3) := by decide +kernel
theorem dL_law_1232 : decode cL_law 1232 = .ok (.istore 6, 2) := by decide +kernel
theorem dL_law_1234 : decode cL_law 1234 = .ok (.aload_n 2, 1) := by decide +kernel
theorem dL_law_1235 : decode cL_law 1235 = .ok (.invokevirtual 122, 3) := by decide +kernel
theorem dL_law_1238 : decode cL_law 1238 = .ok (.iload 5, 2) := by decide +kernel
theorem dL_law_1240 : decode cL_law 1240 = .ok (.if_icmp .eq 5, 3) := by decide +kernel
theorem dL_law_1243 : decode cL_law 1243 = .ok (.iconst 0, 1) := by decide +kernel
theorem dL_law_1244 : decode cL_law 1244 = .ok (.ireturn, 1) := by decide +kernel
theorem dL_law_1245 : decode cL_law 1245 = .ok (.iload 5, 2) := by decide +kernel
theorem dL_law_1247 : decode cL_law 1247 = .ok (.ifCond .ne 15, 3) := by decide +kernel
theorem dL_law_1250 : decode cL_law 1250 = .ok (.aload_n 3, 1) := by decide +kernel
theorem dL_law_1251 : decode cL_law 1251 = .ok (.iconst 0, 1) := by decide +kernel
theorem dL_law_1252 : decode cL_law 1252 = .ok (.laload, 1) := by decide +kernel
theorem dL_law_1253 : decode cL_law 1253 = .ok (.iload 6, 2) := by decide +kernel
theorem dL_law_1255 : decode cL_law 1255 = .ok (.i2l, 1) := by decide +kernel
theorem dL_law_1256 : decode cL_law 1256 = .ok (.lcmp, 1) := by decide +kernel
theorem dL_law_1257 : decode cL_law 1257 = .ok (.ifCond .eq 5, 3) := by decide +kernel
theorem dL_law_1260 : decode cL_law 1260 = .ok (.iconst 0, 1) := by decide +kernel
theorem dL_law_1261 : decode cL_law 1261 = .ok (.ireturn, 1) := by decide +kernel
theorem dL_law_1262 : decode cL_law 1262 = .ok (.goto 1043, 3) := by decide +kernel
theorem dL_law_1265 : decode cL_law 1265 = .ok (.aload_n 1, 1) := by decide +kernel
theorem dL_law_1266 : decode cL_law 1266 = .ok (.aload_n 0, 1) := by decide +kernel
theorem dL_law_1267 : decode cL_law 1267 = .ok (.iload 4, 2) := by decide +kernel
theorem dL_law_1269 : decode cL_law 1269 = .ok (.iconst 1, 1) := by decide +kernel
theorem dL_law_1270 : decode cL_law 1270 = .ok (.iadd, 1) := by decide +kernel
theorem dL_law_1271 : decode cL_law 1271 = .ok (.iaload, 1) := by decide +kernel
theorem dL_law_1272 : decode cL_law 1272 = .ok (.aload_n 0, 1) := by decide +kernel
theorem dL_law_1273 : decode cL_law 1273 = .ok (.iload 4, 2) := by decide +kernel
theorem dL_law_1275 : decode cL_law 1275 = .ok (.iconst 2, 1) := by decide +kernel
theorem dL_law_1276 : decode cL_law 1276 = .ok (.iadd, 1) := by decide +kernel
theorem dL_law_1277 : decode cL_law 1277 = .ok (.iaload, 1) := by decide +kernel
theorem dL_law_1278 : decode cL_law 1278 = .ok (.aload_n 3, 1) := by decide +kernel
theorem dL_law_1279 : decode cL_law 1279 = .ok (.invokestatic 172, 3) := by decide +kernel
theorem dL_law_1282 : decode cL_law 1282 = .ok (.istore 5, 2) := by decide +kernel
theorem dL_law_1284 : decode cL_law 1284 = .ok (.aload_n 2, 1) := by decide +kernel
theorem dL_law_1285 : decode cL_law 1285 = .ok (.aload_n 0, 1) := by decide +kernel
theorem dL_law_1286 : decode cL_law 1286 = .ok (.iload 4, 2) := by decide +kernel
theorem dL_law_1288 : decode cL_law 1288 = .ok (.iconst 1, 1) := by decide +kernel
theorem dL_law_1289 : decode cL_law 1289 = .ok (.iadd, 1) := by decide +kernel
theorem dL_law_1290 : decode cL_law 1290 = .ok (.iaload, 1) := by decide +kernel
theorem dL_law_1291 : decode cL_law 1291 = .ok (.aload_n 0, 1) := by decide +kernel
theorem dL_law_1292 : decode cL_law 1292 = .ok (.iload 4, 2) := by decide +kernel
theorem dL_law_1294 : decode cL_law 1294 = .ok (.iconst 2, 1) := by decide +kernel
theorem dL_law_1295 : decode cL_law 1295 = .ok (.iadd, 1) := by decide +kernel
theorem dL_law_1296 : decode cL_law 1296 = .ok (.iaload, 1) := by decide +kernel
theorem dL_law_1297 : decode cL_law 1297 = .ok (.invokevirtual 174, 3) := by decide +kernel
theorem dL_law_1300 : decode cL_law 1300 = .ok (.istore 6, 2) := by decide +kernel
theorem dL_law_1302 : decode cL_law 1302 = .ok (.aload_n 2, 1) := by decide +kernel
theorem dL_law_1303 : decode cL_law 1303 = .ok (.invokevirtual 122, 3) := by decide +kernel
theorem dL_law_1306 : decode cL_law 1306 = .ok (.iload 5, 2) := by decide +kernel
theorem dL_law_1308 : decode cL_law 1308 = .ok (.if_icmp .eq 5, 3) := by decide +kernel
theorem dL_law_1311 : decode cL_law 1311 = .ok (.iconst 0, 1) := by decide +kernel
theorem dL_law_1312 : decode cL_law 1312 = .ok (.ireturn, 1) := by decide +kernel
theorem dL_law_1313 : decode cL_law 1313 = .ok (.iload 5, 2) := by decide +kernel
theorem dL_law_1315 : decode cL_law 1315 = .ok (.ifCond .ne 15, 3) := by decide +kernel
theorem dL_law_1318 : decode cL_law 1318 = .ok (.aload_n 3, 1) := by decide +kernel
theorem dL_law_1319 : decode cL_law 1319 = .ok (.iconst 0, 1) := by decide +kernel
theorem dL_law_1320 : decode cL_law 1320 = .ok (.laload, 1) := by decide +kernel
theorem dL_law_1321 : decode cL_law 1321 = .ok (.iload 6, 2) := by decide +kernel
theorem dL_law_1323 : decode cL_law 1323 = .ok (.i2l, 1) := by decide +kernel
theorem dL_law_1324 : decode cL_law 1324 = .ok (.lcmp, 1) := by decide +kernel
theorem dL_law_1325 : decode cL_law 1325 = .ok (.ifCond .eq 5, 3) := by decide +kernel
theorem dL_law_1328 : decode cL_law 1328 = .ok (.iconst 0, 1) := by decide +kernel
theorem dL_law_1329 : decode cL_law 1329 = .ok (.ireturn, 1) := by decide +kernel
theorem dL_law_1330 : decode cL_law 1330 = .ok (.goto 975, 3) := by decide +kernel
theorem dL_law_1333 : decode cL_law 1333 = .ok (.aload_n 1, 1) := by decide +kernel
theorem dL_law_1334 : decode cL_law 1334 = .ok (.aload_n 0, 1) := by decide +kernel
theorem dL_law_1335 : decode cL_law 1335 = .ok (.iload 4, 2) := by decide +kernel
theorem dL_law_1337 : decode cL_law 1337 = .ok (.iconst 1, 1) := by decide +kernel
theorem dL_law_1338 : decode cL_law 1338 = .ok (.iadd, 1) := by decide +kernel
theorem dL_law_1339 : decode cL_law 1339 = .ok (.iaload, 1) := by decide +kernel
theorem dL_law_1340 : decode cL_law 1340 = .ok (.aload_n 0, 1) := by decide +kernel
theorem dL_law_1341 : decode cL_law 1341 = .ok (.iload 4, 2) := by decide +kernel
theorem dL_law_1343 : decode cL_law 1343 = .ok (.iconst 2, 1) := by decide +kernel
theorem dL_law_1344 : decode cL_law 1344 = .ok (.iadd, 1) := by decide +kernel
theorem dL_law_1345 : decode cL_law 1345 = .ok (.iaload, 1) := by decide +kernel
theorem dL_law_1346 : decode cL_law 1346 = .ok (.aload_n 3, 1) := by decide +kernel
theorem dL_law_1347 : decode cL_law 1347 = .ok (.invokestatic 175, 3) := by decide +kernel
theorem dL_law_1350 : decode cL_law 1350 = .ok (.istore 5, 2) := by decide +kernel
theorem dL_law_1352 : decode cL_law 1352 = .ok (.aload_n 2, 1) := by decide +kernel
theorem dL_law_1353 : decode cL_law 1353 = .ok (.aload_n 0, 1) := by decide +kernel
theorem dL_law_1354 : decode cL_law 1354 = .ok (.iload 4, 2) := by decide +kernel
theorem dL_law_1356 : decode cL_law 1356 = .ok (.iconst 1, 1) := by decide +kernel
theorem dL_law_1357 : decode cL_law 1357 = .ok (.iadd, 1) := by decide +kernel
theorem dL_law_1358 : decode cL_law 1358 = .ok (.iaload, 1) := by decide +kernel
theorem dL_law_1359 : decode cL_law 1359 = .ok (.aload_n 0, 1) := by decide +kernel
theorem dL_law_1360 : decode cL_law 1360 = .ok (.iload 4, 2) := by decide +kernel
theorem dL_law_1362 : decode cL_law 1362 = .ok (.iconst 2, 1) := by decide +kernel
theorem dL_law_1363 : decode cL_law 1363 = .ok (.iadd, 1) := by decide +kernel
theorem dL_law_1364 : decode cL_law 1364 = .ok (.iaload, 1) := by decide +kernel
theorem dL_law_1365 : decode cL_law 1365 = .ok (.invokevirtual 177, 3) := by decide +kernel
theorem dL_law_1368 : decode cL_law 1368 = .ok (.istore 6, 2) := by decide +kernel
theorem dL_law_1370 : decode cL_law 1370 = .ok (.aload_n 2, 1) := by decide +kernel
theorem dL_law_1371 : decode cL_law 1371 = .ok (.invokevirtual 122, 3) := by decide +kernel
theorem dL_law_1374 : decode cL_law 1374 = .ok (.iload 5, 2) := by decide +kernel
theorem dL_law_1376 : decode cL_law 1376 = .ok (.if_icmp .eq 5, 3) := by decide +kernel
theorem dL_law_1379 : decode cL_law 1379 = .ok (.iconst 0, 1) := by decide +kernel
theorem dL_law_1380 : decode cL_law 1380 = .ok (.ireturn, 1) := by decide +kernel
theorem dL_law_1381 : decode cL_law 1381 = .ok (.iload 5, 2) := by decide +kernel
theorem dL_law_1383 : decode cL_law 1383 = .ok (.ifCond .ne 15, 3) := by decide +kernel
theorem dL_law_1386 : decode cL_law 1386 = .ok (.aload_n 3, 1) := by decide +kernel
theorem dL_law_1387 : decode cL_law 1387 = .ok (.iconst 0, 1) := by decide +kernel
theorem dL_law_1388 : decode cL_law 1388 = .ok (.laload, 1) := by decide +kernel
theorem dL_law_1389 : decode cL_law 1389 = .ok (.iload 6, 2) := by decide +kernel
theorem dL_law_1391 : decode cL_law 1391 = .ok (.i2l, 1) := by decide +kernel
theorem dL_law_1392 : decode cL_law 1392 = .ok (.lcmp, 1) := by decide +kernel
theorem dL_law_1393 : decode cL_law 1393 = .ok (.ifCond .eq 5, 3) := by decide +kernel
theorem dL_law_1396 : decode cL_law 1396 = .ok (.iconst 0, 1) := by decide +kernel
theorem dL_law_1397 : decode cL_law 1397 = .ok (.ireturn, 1) := by decide +kernel
theorem dL_law_1398 : decode cL_law 1398 = .ok (.goto 907, 3) := by decide +kernel
theorem dL_law_1401 : decode cL_law 1401 = .ok (.aload_n 1, 1) := by decide +kernel
theorem dL_law_1402 : decode cL_law 1402 = .ok (.aload_n 0, 1) := by decide +kernel
theorem dL_law_1403 : decode cL_law 1403 = .ok (.iload 4, 2) := by decide +kernel
theorem dL_law_1405 : decode cL_law 1405 = .ok (.iconst 1, 1) := by decide +kernel
theorem dL_law_1406 : decode cL_law 1406 = .ok (.iadd, 1) := by decide +kernel
theorem dL_law_1407 : decode cL_law 1407 = .ok (.iaload, 1) := by decide +kernel
theorem dL_law_1408 : decode cL_law 1408 = .ok (.aload_n 0, 1) := by decide +kernel
theorem dL_law_1409 : decode cL_law 1409 = .ok (.iload 4, 2) := by decide +kernel
theorem dL_law_1411 : decode cL_law 1411 = .ok (.iconst 2, 1) := by decide +kernel
theorem dL_law_1412 : decode cL_law 1412 = .ok (.iadd, 1) := by decide +kernel
theorem dL_law_1413 : decode cL_law 1413 = .ok (.iaload, 1) := by decide +kernel
theorem dL_law_1414 : decode cL_law 1414 = .ok (.aload_n 3, 1) := by decide +kernel
theorem dL_law_1415 : decode cL_law 1415 = .ok (.invokestatic 178, 3) := by decide +kernel
theorem dL_law_1418 : decode cL_law 1418 = .ok (.istore 5, 2) := by decide +kernel
theorem dL_law_1420 : decode cL_law 1420 = .ok (.aload_n 2, 1) := by decide +kernel
theorem dL_law_1421 : decode cL_law 1421 = .ok (.aload_n 0, 1) := by decide +kernel
theorem dL_law_1422 : decode cL_law 1422 = .ok (.iload 4, 2) := by decide +kernel
theorem dL_law_1424 : decode cL_law 1424 = .ok (.iconst 1, 1) := by decide +kernel
theorem dL_law_1425 : decode cL_law 1425 = .ok (.iadd, 1) := by decide +kernel
theorem dL_law_1426 : decode cL_law 1426 = .ok (.iaload, 1) := by decide +kernel
theorem dL_law_1427 : decode cL_law 1427 = .ok (.aload_n 0, 1) := by decide +kernel
theorem dL_law_1428 : decode cL_law 1428 = .ok (.iload 4, 2) := by decide +kernel
theorem dL_law_1430 : decode cL_law 1430 = .ok (.iconst 2, 1) := by decide +kernel
theorem dL_law_1431 : decode cL_law 1431 = .ok (.iadd, 1) := by decide +kernel
theorem dL_law_1432 : decode cL_law 1432 = .ok (.iaload, 1) := by decide +kernel
theorem dL_law_1433 : decode cL_law 1433 = .ok (.invokevirtual 180, 3) := by decide +kernel
theorem dL_law_1436 : decode cL_law 1436 = .ok (.istore 6, 2) := by decide +kernel
theorem dL_law_1438 : decode cL_law 1438 = .ok (.aload_n 2, 1) := by decide +kernel
theorem dL_law_1439 : decode cL_law 1439 = .ok (.invokevirtual 122, 3) := by decide +kernel
theorem dL_law_1442 : decode cL_law 1442 = .ok (.iload 5, 2) := by decide +kernel
theorem dL_law_1444 : decode cL_law 1444 = .ok (.if_icmp .eq 5, 3) := by decide +kernel
theorem dL_law_1447 : decode cL_law 1447 = .ok (.iconst 0, 1) := by decide +kernel
theorem dL_law_1448 : decode cL_law 1448 = .ok (.ireturn, 1) := by decide +kernel
theorem dL_law_1449 : decode cL_law 1449 = .ok (.iload 5, 2) := by decide +kernel
theorem dL_law_1451 : decode cL_law 1451 = .ok (.ifCond .ne 15, 3) := by decide +kernel
theorem dL_law_1454 : decode cL_law 1454 = .ok (.aload_n 3, 1) := by decide +kernel
theorem dL_law_1455 : decode cL_law 1455 = .ok (.iconst 0, 1) := by decide +kernel
theorem dL_law_1456 : decode cL_law 1456 = .ok (.laload, 1) := by decide +kernel
theorem dL_law_1457 : decode cL_law 1457 = .ok (.iload 6, 2) := by decide +kernel
theorem dL_law_1459 : decode cL_law 1459 = .ok (.i2l, 1) := by decide +kernel
theorem dL_law_1460 : decode cL_law 1460 = .ok (.lcmp, 1) := by decide +kernel
theorem dL_law_1461 : decode cL_law 1461 = .ok (.ifCond .eq 5, 3) := by decide +kernel
theorem dL_law_1464 : decode cL_law 1464 = .ok (.iconst 0, 1) := by decide +kernel
theorem dL_law_1465 : decode cL_law 1465 = .ok (.ireturn, 1) := by decide +kernel
theorem dL_law_1466 : decode cL_law 1466 = .ok (.goto 839, 3) := by decide +kernel
theorem dL_law_1469 : decode cL_law 1469 = .ok (.aload_n 1, 1) := by decide +kernel
theorem dL_law_1470 : decode cL_law 1470 = .ok (.aload_n 0, 1) := by decide +kernel
theorem dL_law_1471 : decode cL_law 1471 = .ok (.iload 4, 2) := by decide +kernel
theorem dL_law_1473 : decode cL_law 1473 = .ok (.iconst 1, 1) := by decide +kernel
theorem dL_law_1474 : decode cL_law 1474 = .ok (.iadd, 1) := by decide +kernel
theorem dL_law_1475 : decode cL_law 1475 = .ok (.iaload, 1) := by decide +kernel
theorem dL_law_1476 : decode cL_law 1476 = .ok (.aload_n 0, 1) := by decide +kernel
theorem dL_law_1477 : decode cL_law 1477 = .ok (.iload 4, 2) := by decide +kernel
theorem dL_law_1479 : decode cL_law 1479 = .ok (.iconst 2, 1) := by decide +kernel
theorem dL_law_1480 : decode cL_law 1480 = .ok (.iadd, 1) := by decide +kernel
theorem dL_law_1481 : decode cL_law 1481 = .ok (.iaload, 1) := by decide +kernel
theorem dL_law_1482 : decode cL_law 1482 = .ok (.aload_n 0, 1) := by decide +kernel
theorem dL_law_1483 : decode cL_law 1483 = .ok (.iload 4, 2) := by decide +kernel
theorem dL_law_1485 : decode cL_law 1485 = .ok (.iconst 3, 1) := by decide +kernel
theorem dL_law_1486 : decode cL_law 1486 = .ok (.iadd, 1) := by decide +kernel
theorem dL_law_1487 : decode cL_law 1487 = .ok (.iaload, 1) := by decide +kernel
theorem dL_law_1488 : decode cL_law 1488 = .ok (.aload_n 0, 1) := by decide +kernel
theorem dL_law_1489 : decode cL_law 1489 = .ok (.iload 4, 2) := by decide +kernel
theorem dL_law_1491 : decode cL_law 1491 = .ok (.iconst 4, 1) := by decide +kernel
theorem dL_law_1492 : decode cL_law 1492 = .ok (.iadd, 1) := by decide +kernel
theorem dL_law_1493 : decode cL_law 1493 = .ok (.iaload, 1) := by decide +kernel
theorem dL_law_1494 : decode cL_law 1494 = .ok (.aload_n 0, 1) := by decide +kernel
theorem dL_law_1495 : decode cL_law 1495 = .ok (.iload 4, 2) := by decide +kernel
theorem dL_law_1497 : decode cL_law 1497 = .ok (.iconst 5, 1) := by decide +kernel
theorem dL_law_1498 : decode cL_law 1498 = .ok (.iadd, 1) := by decide +kernel
theorem dL_law_1499 : decode cL_law 1499 = .ok (.iaload, 1) := by decide +kernel
theorem dL_law_1500 : decode cL_law 1500 = .ok (.aload_n 3, 1) := by decide +kernel
theorem dL_law_1501 : decode cL_law 1501 = .ok (.invokestatic 181, 3) := by decide +kernel
theorem dL_law_1504 : decode cL_law 1504 = .ok (.istore 5, 2) := by decide +kernel
theorem dL_law_1506 : decode cL_law 1506 = .ok (.aload_n 2, 1) := by decide +kernel
theorem dL_law_1507 : decode cL_law 1507 = .ok (.aload_n 0, 1) := by decide +kernel
theorem dL_law_1508 : decode cL_law 1508 = .ok (.iload 4, 2) := by decide +kernel
theorem dL_law_1510 : decode cL_law 1510 = .ok (.iconst 1, 1) := by decide +kernel
theorem dL_law_1511 : decode cL_law 1511 = .ok (.iadd, 1) := by decide +kernel
theorem dL_law_1512 : decode cL_law 1512 = .ok (.iaload, 1) := by decide +kernel
theorem dL_law_1513 : decode cL_law 1513 = .ok (.aload_n 0, 1) := by decide +kernel
theorem dL_law_1514 : decode cL_law 1514 = .ok (.iload 4, 2) := by decide +kernel
theorem dL_law_1516 : decode cL_law 1516 = .ok (.iconst 2, 1) := by decide +kernel
theorem dL_law_1517 : decode cL_law 1517 = .ok (.iadd, 1) := by decide +kernel
theorem dL_law_1518 : decode cL_law 1518 = .ok (.iaload, 1) := by decide +kernel
theorem dL_law_1519 : decode cL_law 1519 = .ok (.aload_n 0, 1) := by decide +kernel
theorem dL_law_1520 : decode cL_law 1520 = .ok (.iload 4, 2) := by decide +kernel
theorem dL_law_1522 : decode cL_law 1522 = .ok (.iconst 3, 1) := by decide +kernel
theorem dL_law_1523 : decode cL_law 1523 = .ok (.iadd, 1) := by decide +kernel
theorem dL_law_1524 : decode cL_law 1524 = .ok (.iaload, 1) := by decide +kernel
theorem dL_law_1525 : decode cL_law 1525 = .ok (.aload_n 0, 1) := by decide +kernel
theorem dL_law_1526 : decode cL_law 1526 = .ok (.iload 4, 2) := by decide +kernel
theorem dL_law_1528 : decode cL_law 1528 = .ok (.iconst 4, 1) := by decide +kernel
theorem dL_law_1529 : decode cL_law 1529 = .ok (.iadd, 1) := by decide +kernel
theorem dL_law_1530 : decode cL_law 1530 = .ok (.iaload, 1) := by decide +kernel
theorem dL_law_1531 : decode cL_law 1531 = .ok (.aload_n 0, 1) := by decide +kernel
theorem dL_law_1532 : decode cL_law 1532 = .ok (.iload 4, 2) := by decide +kernel
theorem dL_law_1534 : decode cL_law 1534 = .ok (.iconst 5, 1) := by decide +kernel
theorem dL_law_1535 : decode cL_law 1535 = .ok (.iadd, 1) := by decide +kernel
theorem dL_law_1536 : decode cL_law 1536 = .ok (.iaload, 1) := by decide +kernel
theorem dL_law_1537 : decode cL_law 1537 = .ok (.invokevirtual 184, 3) := by decide +kernel
theorem dL_law_1540 : decode cL_law 1540 = .ok (.istore 6, 2) := by decide +kernel
theorem dL_law_1542 : decode cL_law 1542 = .ok (.aload_n 2, 1) := by decide +kernel
theorem dL_law_1543 : decode cL_law 1543 = .ok (.invokevirtual 122, 3) := by decide +kernel
theorem dL_law_1546 : decode cL_law 1546 = .ok (.iload 5, 2) := by decide +kernel
theorem dL_law_1548 : decode cL_law 1548 = .ok (.if_icmp .eq 5, 3) := by decide +kernel
theorem dL_law_1551 : decode cL_law 1551 = .ok (.iconst 0, 1) := by decide +kernel
theorem dL_law_1552 : decode cL_law 1552 = .ok (.ireturn, 1) := by decide +kernel
theorem dL_law_1553 : decode cL_law 1553 = .ok (.iload 5, 2) := by decide +kernel
theorem dL_law_1555 : decode cL_law 1555 = .ok (.ifCond .ne 15, 3) := by decide +kernel
theorem dL_law_1558 : decode cL_law 1558 = .ok (.aload_n 3, 1) := by decide +kernel
theorem dL_law_1559 : decode cL_law 1559 = .ok (.iconst 0, 1) := by decide +kernel
theorem dL_law_1560 : decode cL_law 1560 = .ok (.laload, 1) := by decide +kernel
theorem dL_law_1561 : decode cL_law 1561 = .ok (.iload 6, 2) := by decide +kernel
theorem dL_law_1563 : decode cL_law 1563 = .ok (.i2l, 1) := by decide +kernel
theorem dL_law_1564 : decode cL_law 1564 = .ok (.lcmp, 1) := by decide +kernel
theorem dL_law_1565 : decode cL_law 1565 = .ok (.ifCond .eq 5, 3) := by decide +kernel
theorem dL_law_1568 : decode cL_law 1568 = .ok (.iconst 0, 1) := by decide +kernel
theorem dL_law_1569 : decode cL_law 1569 = .ok (.ireturn, 1) := by decide +kernel
theorem dL_law_1570 : decode cL_law 1570 = .ok (.goto 735, 3) := by decide +kernel
theorem dL_law_1573 : decode cL_law 1573 = .ok (.aload_n 1, 1) := by decide +kernel
theorem dL_law_1574 : decode cL_law 1574 = .ok (.aload_n 0, 1) := by decide +kernel
theorem dL_law_1575 : decode cL_law 1575 = .ok (.iload 4, 2) := by decide +kernel
theorem dL_law_1577 : decode cL_law 1577 = .ok (.iconst 1, 1) := by decide +kernel
theorem dL_law_1578 : decode cL_law 1578 = .ok (.iadd, 1) := by decide +kernel
theorem dL_law_1579 : decode cL_law 1579 = .ok (.iaload, 1) := by decide +kernel
theorem dL_law_1580 : decode cL_law 1580 = .ok (.aload_n 0, 1) := by decide +kernel
theorem dL_law_1581 : decode cL_law 1581 = .ok (.iload 4, 2) := by decide +kernel
theorem dL_law_1583 : decode cL_law 1583 = .ok (.iconst 2, 1) := by decide +kernel
theorem dL_law_1584 : decode cL_law 1584 = .ok (.iadd, 1) := by decide +kernel
theorem dL_law_1585 : decode cL_law 1585 = .ok (.iaload, 1) := by decide +kernel
theorem dL_law_1586 : decode cL_law 1586 = .ok (.aload_n 3, 1) := by decide +kernel
theorem dL_law_1587 : decode cL_law 1587 = .ok (.invokestatic 185, 3) := by decide +kernel
theorem dL_law_1590 : decode cL_law 1590 = .ok (.istore 5, 2) := by decide +kernel
theorem dL_law_1592 : decode cL_law 1592 = .ok (.aload_n 2, 1) := by decide +kernel
theorem dL_law_1593 : decode cL_law 1593 = .ok (.aload_n 0, 1) := by decide +kernel
theorem dL_law_1594 : decode cL_law 1594 = .ok (.iload 4, 2) := by decide +kernel
theorem dL_law_1596 : decode cL_law 1596 = .ok (.iconst 1, 1) := by decide +kernel
theorem dL_law_1597 : decode cL_law 1597 = .ok (.iadd, 1) := by decide +kernel
theorem dL_law_1598 : decode cL_law 1598 = .ok (.iaload, 1) := by decide +kernel
theorem dL_law_1599 : decode cL_law 1599 = .ok (.aload_n 0, 1) := by decide +kernel
theorem dL_law_1600 : decode cL_law 1600 = .ok (.iload 4, 2) := by decide +kernel
theorem dL_law_1602 : decode cL_law 1602 = .ok (.iconst 2, 1) := by decide +kernel
theorem dL_law_1603 : decode cL_law 1603 = .ok (.iadd, 1) := by decide +kernel
theorem dL_law_1604 : decode cL_law 1604 = .ok (.iaload, 1) := by decide +kernel
theorem dL_law_1605 : decode cL_law 1605 = .ok (.invokevirtual 187, 3) := by decide +kernel
theorem dL_law_1608 : decode cL_law 1608 = .ok (.istore 6, 2) := by decide +kernel
theorem dL_law_1610 : decode cL_law 1610 = .ok (.aload_n 2, 1) := by decide +kernel
theorem dL_law_1611 : decode cL_law 1611 = .ok (.invokevirtual 122, 3) := by decide +kernel
theorem dL_law_1614 : decode cL_law 1614 = .ok (.iload 5, 2) := by decide +kernel
theorem dL_law_1616 : decode cL_law 1616 = .ok (.if_icmp .eq 5, 3) := by decide +kernel
theorem dL_law_1619 : decode cL_law 1619 = .ok (.iconst 0, 1) := by decide +kernel
theorem dL_law_1620 : decode cL_law 1620 = .ok (.ireturn, 1) := by decide +kernel
theorem dL_law_1621 : decode cL_law 1621 = .ok (.iload 5, 2) := by decide +kernel
theorem dL_law_1623 : decode cL_law 1623 = .ok (.ifCond .ne 15, 3) := by decide +kernel
theorem dL_law_1626 : decode cL_law 1626 = .ok (.aload_n 3, 1) := by decide +kernel
theorem dL_law_1627 : decode cL_law 1627 = .ok (.iconst 0, 1) := by decide +kernel
theorem dL_law_1628 : decode cL_law 1628 = .ok (.laload, 1) := by decide +kernel
theorem dL_law_1629 : decode cL_law 1629 = .ok (.iload 6, 2) := by decide +kernel
theorem dL_law_1631 : decode cL_law 1631 = .ok (.i2l, 1) := by decide +kernel
theorem dL_law_1632 : decode cL_law 1632 = .ok (.lcmp, 1) := by decide +kernel
theorem dL_law_1633 : decode cL_law 1633 = .ok (.ifCond .eq 5, 3) := by decide +kernel
theorem dL_law_1636 : decode cL_law 1636 = .ok (.iconst 0, 1) := by decide +kernel
theorem dL_law_1637 : decode cL_law 1637 = .ok (.ireturn, 1) := by decide +kernel
theorem dL_law_1638 : decode cL_law 1638 = .ok (.goto 667, 3) := by decide +kernel
theorem dL_law_1641 : decode cL_law 1641 = .ok (.aload_n 1, 1) := by decide +kernel
theorem dL_law_1642 : decode cL_law 1642 = .ok (.aload_n 0, 1) := by decide +kernel
theorem dL_law_1643 : decode cL_law 1643 = .ok (.iload 4, 2) := by decide +kernel
theorem dL_law_1645 : decode cL_law 1645 = .ok (.iconst 1, 1) := by decide +kernel
theorem dL_law_1646 : decode cL_law 1646 = .ok (.iadd, 1) := by decide +kernel
theorem dL_law_1647 : decode cL_law 1647 = .ok (.iaload, 1) := by decide +kernel
theorem dL_law_1648 : decode cL_law 1648 = .ok (.aload_n 0, 1) := by decide +kernel
theorem dL_law_1649 : decode cL_law 1649 = .ok (.iload 4, 2) := by decide +kernel
theorem dL_law_1651 : decode cL_law 1651 = .ok (.iconst 2, 1) := by decide +kernel
theorem dL_law_1652 : decode cL_law 1652 = .ok (.iadd, 1) := by decide +kernel
theorem dL_law_1653 : decode cL_law 1653 = .ok (.iaload, 1) := by decide +kernel
theorem dL_law_1654 : decode cL_law 1654 = .ok (.aload_n 3, 1) := by decide +kernel
theorem dL_law_1655 : decode cL_law 1655 = .ok (.invokestatic 188, 3) := by decide +kernel
theorem dL_law_1658 : decode cL_law 1658 = .ok (.istore 5, 2) := by decide +kernel
theorem dL_law_1660 : decode cL_law 1660 = .ok (.aload_n 2, 1) := by decide +kernel
theorem dL_law_1661 : decode cL_law 1661 = .ok (.aload_n 0, 1) := by decide +kernel
theorem dL_law_1662 : decode cL_law 1662 = .ok (.iload 4, 2) := by decide +kernel
theorem dL_law_1664 : decode cL_law 1664 = .ok (.iconst 1, 1) := by decide +kernel
theorem dL_law_1665 : decode cL_law 1665 = .ok (.iadd, 1) := by decide +kernel
theorem dL_law_1666 : decode cL_law 1666 = .ok (.iaload, 1) := by decide +kernel
theorem dL_law_1667 : decode cL_law 1667 = .ok (.aload_n 0, 1) := by decide +kernel
theorem dL_law_1668 : decode cL_law 1668 = .ok (.iload 4, 2) := by decide +kernel
theorem dL_law_1670 : decode cL_law 1670 = .ok (.iconst 2, 1) := by decide +kernel
theorem dL_law_1671 : decode cL_law 1671 = .ok (.iadd, 1) := by decide +kernel
theorem dL_law_1672 : decode cL_law 1672 = .ok (.iaload, 1) := by decide +kernel
theorem dL_law_1673 : decode cL_law 1673 = .ok (.invokevirtual 190, 3) := by decide +kernel
theorem dL_law_1676 : decode cL_law 1676 = .ok (.istore 6, 2) := by decide +kernel
theorem dL_law_1678 : decode cL_law 1678 = .ok (.aload_n 2, 1) := by decide +kernel
theorem dL_law_1679 : decode cL_law 1679 = .ok (.invokevirtual 122, 3) := by decide +kernel
theorem dL_law_1682 : decode cL_law 1682 = .ok (.iload 5, 2) := by decide +kernel
theorem dL_law_1684 : decode cL_law 1684 = .ok (.if_icmp .eq 5, 3) := by decide +kernel
theorem dL_law_1687 : decode cL_law 1687 = .ok (.iconst 0, 1) := by decide +kernel
theorem dL_law_1688 : decode cL_law 1688 = .ok (.ireturn, 1) := by decide +kernel
theorem dL_law_1689 : decode cL_law 1689 = .ok (.iload 5, 2) := by decide +kernel
theorem dL_law_1691 : decode cL_law 1691 = .ok (.ifCond .ne 15, 3) := by decide +kernel
theorem dL_law_1694 : decode cL_law 1694 = .ok (.aload_n 3, 1) := by decide +kernel
theorem dL_law_1695 : decode cL_law 1695 = .ok (.iconst 0, 1) := by decide +kernel
theorem dL_law_1696 : decode cL_law 1696 = .ok (.laload, 1) := by decide +kernel
theorem dL_law_1697 : decode cL_law 1697 = .ok (.iload 6, 2) := by decide +kernel
theorem dL_law_1699 : decode cL_law 1699 = .ok (.i2l, 1) := by decide +kernel
theorem dL_law_1700 : decode cL_law 1700 = .ok (.lcmp, 1) := by decide +kernel
theorem dL_law_1701 : decode cL_law 1701 = .ok (.ifCond .eq 5, 3) := by decide +kernel
theorem dL_law_1704 : decode cL_law 1704 = .ok (.iconst 0, 1) := by decide +kernel
theorem dL_law_1705 : decode cL_law 1705 = .ok (.ireturn, 1) := by decide +kernel
theorem dL_law_1706 : decode cL_law 1706 = .ok (.goto 599, 3) := by decide +kernel
theorem dL_law_1709 : decode cL_law 1709 = .ok (.aload_n 1, 1) := by decide +kernel
theorem dL_law_1710 : decode cL_law 1710 = .ok (.aload_n 0, 1) := by decide +kernel
theorem dL_law_1711 : decode cL_law 1711 = .ok (.iload 4, 2) := by decide +kernel
theorem dL_law_1713 : decode cL_law 1713 = .ok (.iconst 1, 1) := by decide +kernel
theorem dL_law_1714 : decode cL_law 1714 = .ok (.iadd, 1) := by decide +kernel
theorem dL_law_1715 : decode cL_law 1715 = .ok (.iaload, 1) := by decide +kernel
theorem dL_law_1716 : decode cL_law 1716 = .ok (.aload_n 3, 1) := by decide +kernel
theorem dL_law_1717 : decode cL_law 1717 = .ok (.invokestatic 191, 3) := by decide +kernel
theorem dL_law_1720 : decode cL_law 1720 = .ok (.istore 5, 2) := by decide +kernel
theorem dL_law_1722 : decode cL_law 1722 = .ok (.aload_n 2, 1) := by decide +kernel
theorem dL_law_1723 : decode cL_law 1723 = .ok (.aload_n 0, 1) := by decide +kernel
theorem dL_law_1724 : decode cL_law 1724 = .ok (.iload 4, 2) := by decide +kernel
theorem dL_law_1726 : decode cL_law 1726 = .ok (.iconst 1, 1) := by decide +kernel
theorem dL_law_1727 : decode cL_law 1727 = .ok (.iadd, 1) := by decide +kernel
theorem dL_law_1728 : decode cL_law 1728 = .ok (.iaload, 1) := by decide +kernel
theorem dL_law_1729 : decode cL_law 1729 = .ok (.invokevirtual 193, 3) := by decide +kernel
theorem dL_law_1732 : decode cL_law 1732 = .ok (.istore 6, 2) := by decide +kernel
theorem dL_law_1734 : decode cL_law 1734 = .ok (.aload_n 2, 1) := by decide +kernel
theorem dL_law_1735 : decode cL_law 1735 = .ok (.invokevirtual 122, 3) := by decide +kernel
theorem dL_law_1738 : decode cL_law 1738 = .ok (.iload 5, 2) := by decide +kernel
theorem dL_law_1740 : decode cL_law 1740 = .ok (.if_icmp .eq 5, 3) := by decide +kernel
theorem dL_law_1743 : decode cL_law 1743 = .ok (.iconst 0, 1) := by decide +kernel
theorem dL_law_1744 : decode cL_law 1744 = .ok (.ireturn, 1) := by decide +kernel
theorem dL_law_1745 : decode cL_law 1745 = .ok (.iload 5, 2) := by decide +kernel
theorem dL_law_1747 : decode cL_law 1747 = .ok (.ifCond .ne 15, 3) := by decide +kernel
theorem dL_law_1750 : decode cL_law 1750 = .ok (.aload_n 3, 1) := by decide +kernel
theorem dL_law_1751 : decode cL_law 1751 = .ok (.iconst 0, 1) := by decide +kernel
theorem dL_law_1752 : decode cL_law 1752 = .ok (.laload, 1) := by decide +kernel
theorem dL_law_1753 : decode cL_law 1753 = .ok (.iload 6, 2) := by decide +kernel
theorem dL_law_1755 : decode cL_law 1755 = .ok (.i2l, 1) := by decide +kernel
theorem dL_law_1756 : decode cL_law 1756 = .ok (.lcmp, 1) := by decide +kernel
theorem dL_law_1757 : decode cL_law 1757 = .ok (.ifCond .eq 5, 3) := by decide +kernel
theorem dL_law_1760 : decode cL_law 1760 = .ok (.iconst 0, 1) := by decide +kernel
theorem dL_law_1761 : decode cL_law 1761 = .ok (.ireturn, 1) := by decide +kernel
theorem dL_law_1762 : decode cL_law 1762 = .ok (.goto 543, 3) := by decide +kernel
theorem dL_law_1765 : decode cL_law 1765 = .ok (.aload_n 1, 1) := by decide +kernel
theorem dL_law_1766 : decode cL_law 1766 = .ok (.aload_n 0, 1) := by decide +kernel
theorem dL_law_1767 : decode cL_law 1767 = .ok (.iload 4, 2) := by decide +kernel
theorem dL_law_1769 : decode cL_law 1769 = .ok (.iconst 1, 1) := by decide +kernel
theorem dL_law_1770 : decode cL_law 1770 = .ok (.iadd, 1) := by decide +kernel
theorem dL_law_1771 : decode cL_law 1771 = .ok (.iaload, 1) := by decide +kernel
theorem dL_law_1772 : decode cL_law 1772 = .ok (.aload_n 0, 1) := by decide +kernel
theorem dL_law_1773 : decode cL_law 1773 = .ok (.iload 4, 2) := by decide +kernel
theorem dL_law_1775 : decode cL_law 1775 = .ok (.iconst 2, 1) := by decide +kernel
theorem dL_law_1776 : decode cL_law 1776 = .ok (.iadd, 1) := by decide +kernel
theorem dL_law_1777 : decode cL_law 1777 = .ok (.iaload, 1) := by decide +kernel
theorem dL_law_1778 : decode cL_law 1778 = .ok (.aload_n 3, 1) := by decide +kernel
theorem dL_law_1779 : decode cL_law 1779 = .ok (.invokestatic 194, 3) := by decide +kernel
theorem dL_law_1782 : decode cL_law 1782 = .ok (.istore 5, 2) := by decide +kernel
theorem dL_law_1784 : decode cL_law 1784 = .ok (.aload_n 2, 1) := by decide +kernel
theorem dL_law_1785 : decode cL_law 1785 = .ok (.aload_n 0, 1) := by decide +kernel
theorem dL_law_1786 : decode cL_law 1786 = .ok (.iload 4, 2) := by decide +kernel
theorem dL_law_1788 : decode cL_law 1788 = .ok (.iconst 1, 1) := by decide +kernel
theorem dL_law_1789 : decode cL_law 1789 = .ok (.iadd, 1) := by decide +kernel
theorem dL_law_1790 : decode cL_law 1790 = .ok (.iaload, 1) := by decide +kernel
theorem dL_law_1791 : decode cL_law 1791 = .ok (.aload_n 0, 1) := by decide +kernel
theorem dL_law_1792 : decode cL_law 1792 = .ok (.iload 4, 2) := by decide +kernel
theorem dL_law_1794 : decode cL_law 1794 = .ok (.iconst 2, 1) := by decide +kernel
theorem dL_law_1795 : decode cL_law 1795 = .ok (.iadd, 1) := by decide +kernel
theorem dL_law_1796 : decode cL_law 1796 = .ok (.iaload, 1) := by decide +kernel
theorem dL_law_1797 : decode cL_law 1797 = .ok (.invokevirtual 196, 3) := by decide +kernel
theorem dL_law_1800 : decode cL_law 1800 = .ok (.istore 6, 2) := by decide +kernel
theorem dL_law_1802 : decode cL_law 1802 = .ok (.aload_n 2, 1) := by decide +kernel
theorem dL_law_1803 : decode cL_law 1803 = .ok (.invokevirtual 122, 3) := by decide +kernel
theorem dL_law_1806 : decode cL_law 1806 = .ok (.iload 5, 2) := by decide +kernel
theorem dL_law_1808 : decode cL_law 1808 = .ok (.if_icmp .eq 5, 3) := by decide +kernel
theorem dL_law_1811 : decode cL_law 1811 = .ok (.iconst 0, 1) := by decide +kernel
theorem dL_law_1812 : decode cL_law 1812 = .ok (.ireturn, 1) := by decide +kernel
theorem dL_law_1813 : decode cL_law 1813 = .ok (.iload 5, 2) := by decide +kernel
theorem dL_law_1815 : decode cL_law 1815 = .ok (.ifCond .ne 15, 3) := by decide +kernel
theorem dL_law_1818 : decode cL_law 1818 = .ok (.aload_n 3, 1) := by decide +kernel
theorem dL_law_1819 : decode cL_law 1819 = .ok (.iconst 0, 1) := by decide +kernel
theorem dL_law_1820 : decode cL_law 1820 = .ok (.laload, 1) := by decide +kernel
theorem dL_law_1821 : decode cL_law 1821 = .ok (.iload 6, 2) := by decide +kernel
theorem dL_law_1823 : decode cL_law 1823 = .ok (.i2l, 1) := by decide +kernel
theorem dL_law_1824 : decode cL_law 1824 = .ok (.lcmp, 1) := by decide +kernel
theorem dL_law_1825 : decode cL_law 1825 = .ok (.ifCond .eq 5, 3) := by decide +kernel
theorem dL_law_1828 : decode cL_law 1828 = .ok (.iconst 0, 1) := by decide +kernel
theorem dL_law_1829 : decode cL_law 1829 = .ok (.ireturn, 1) := by decide +kernel
theorem dL_law_1830 : decode cL_law 1830 = .ok (.goto 475, 3) := by decide +kernel
theorem dL_law_1833 : decode cL_law 1833 = .ok (.aload_n 1, 1) := by decide +kernel
theorem dL_law_1834 : decode cL_law 1834 = .ok (.aload_n 0, 1) := by decide +kernel
theorem dL_law_1835 : decode cL_law 1835 = .ok (.iload 4, 2) := by decide +kernel
theorem dL_law_1837 : decode cL_law 1837 = .ok (.iconst 1, 1) := by decide +kernel
theorem dL_law_1838 : decode cL_law 1838 = .ok (.iadd, 1) := by decide +kernel
theorem dL_law_1839 : decode cL_law 1839 = .ok (.iaload, 1) := by decide +kernel
theorem dL_law_1840 : decode cL_law 1840 = .ok (.aload_n 0, 1) := by decide +kernel
theorem dL_law_1841 : decode cL_law 1841 = .ok (.iload 4, 2) := by decide +kernel
theorem dL_law_1843 : decode cL_law 1843 = .ok (.iconst 2, 1) := by decide +kernel
theorem dL_law_1844 : decode cL_law 1844 = .ok (.iadd, 1) := by decide +kernel
theorem dL_law_1845 : decode cL_law 1845 = .ok (.iaload, 1) := by decide +kernel
theorem dL_law_1846 : decode cL_law 1846 = .ok (.aload_n 3, 1) := by decide +kernel
theorem dL_law_1847 : decode cL_law 1847 = .ok (.invokestatic 197, 3) := by decide +kernel
theorem dL_law_1850 : decode cL_law 1850 = .ok (.istore 5, 2) := by decide +kernel
theorem dL_law_1852 : decode cL_law 1852 = .ok (.aload_n 2, 1) := by decide +kernel
theorem dL_law_1853 : decode cL_law 1853 = .ok (.aload_n 0, 1) := by decide +kernel
theorem dL_law_1854 : decode cL_law 1854 = .ok (.iload 4, 2) := by decide +kernel
theorem dL_law_1856 : decode cL_law 1856 = .ok (.iconst 1, 1) := by decide +kernel
theorem dL_law_1857 : decode cL_law 1857 = .ok (.iadd, 1) := by decide +kernel
theorem dL_law_1858 : decode cL_law 1858 = .ok (.iaload, 1) := by decide +kernel
theorem dL_law_1859 : decode cL_law 1859 = .ok (.aload_n 0, 1) := by decide +kernel
theorem dL_law_1860 : decode cL_law 1860 = .ok (.iload 4, 2) := by decide +kernel
theorem dL_law_1862 : decode cL_law 1862 = .ok (.iconst 2, 1) := by decide +kernel
theorem dL_law_1863 : decode cL_law 1863 = .ok (.iadd, 1) := by decide +kernel
theorem dL_law_1864 : decode cL_law 1864 = .ok (.iaload, 1) := by decide +kernel
theorem dL_law_1865 : decode cL_law 1865 = .ok (.invokevirtual 199, 3) := by decide +kernel
theorem dL_law_1868 : decode cL_law 1868 = .ok (.istore 6, 2) := by decide +kernel
theorem dL_law_1870 : decode cL_law 1870 = .ok (.aload_n 2, 1) := by decide +kernel
theorem dL_law_1871 : decode cL_law 1871 = .ok (.invokevirtual 122, 3) := by decide +kernel
theorem dL_law_1874 : decode cL_law 1874 = .ok (.iload 5, 2) := by decide +kernel
theorem dL_law_1876 : decode cL_law 1876 = .ok (.if_icmp .eq 5, 3) := by decide +kernel
theorem dL_law_1879 : decode cL_law 1879 = .ok (.iconst 0, 1) := by decide +kernel
theorem dL_law_1880 : decode cL_law 1880 = .ok (.ireturn, 1) := by decide +kernel
theorem dL_law_1881 : decode cL_law 1881 = .ok (.iload 5, 2) := by decide +kernel
theorem dL_law_1883 : decode cL_law 1883 = .ok (.ifCond .ne 15, 3) := by decide +kernel
theorem dL_law_1886 : decode cL_law 1886 = .ok (.aload_n 3, 1) := by decide +kernel
theorem dL_law_1887 : decode cL_law 1887 = .ok (.iconst 0, 1) := by decide +kernel
theorem dL_law_1888 : decode cL_law 1888 = .ok (.laload, 1) := by decide +kernel
theorem dL_law_1889 : decode cL_law 1889 = .ok (.iload 6, 2) := by decide +kernel
theorem dL_law_1891 : decode cL_law 1891 = .ok (.i2l, 1) := by decide +kernel
theorem dL_law_1892 : decode cL_law 1892 = .ok (.lcmp, 1) := by decide +kernel
theorem dL_law_1893 : decode cL_law 1893 = .ok (.ifCond .eq 5, 3) := by decide +kernel
theorem dL_law_1896 : decode cL_law 1896 = .ok (.iconst 0, 1) := by decide +kernel
theorem dL_law_1897 : decode cL_law 1897 = .ok (.ireturn, 1) := by decide +kernel
theorem dL_law_1898 : decode cL_law 1898 = .ok (.goto 407, 3) := by decide +kernel
theorem dL_law_1901 : decode cL_law 1901 = .ok (.aload_n 1, 1) := by decide +kernel
theorem dL_law_1902 : decode cL_law 1902 = .ok (.aload_n 0, 1) := by decide +kernel
theorem dL_law_1903 : decode cL_law 1903 = .ok (.iload 4, 2) := by decide +kernel
theorem dL_law_1905 : decode cL_law 1905 = .ok (.iconst 1, 1) := by decide +kernel
theorem dL_law_1906 : decode cL_law 1906 = .ok (.iadd, 1) := by decide +kernel
theorem dL_law_1907 : decode cL_law 1907 = .ok (.iaload, 1) := by decide +kernel
theorem dL_law_1908 : decode cL_law 1908 = .ok (.aload_n 0, 1) := by decide +kernel
theorem dL_law_1909 : decode cL_law 1909 = .ok (.iload 4, 2) := by decide +kernel
theorem dL_law_1911 : decode cL_law 1911 = .ok (.iconst 2, 1) := by decide +kernel
theorem dL_law_1912 : decode cL_law 1912 = .ok (.iadd, 1) := by decide +kernel
theorem dL_law_1913 : decode cL_law 1913 = .ok (.iaload, 1) := by decide +kernel
theorem dL_law_1914 : decode cL_law 1914 = .ok (.aload_n 3, 1) := by decide +kernel
theorem dL_law_1915 : decode cL_law 1915 = .ok (.invokestatic 200, 3) := by decide +kernel
theorem dL_law_1918 : decode cL_law 1918 = .ok (.istore 5, 2) := by decide +kernel
theorem dL_law_1920 : decode cL_law 1920 = .ok (.aload_n 2, 1) := by decide +kernel
theorem dL_law_1921 : decode cL_law 1921 = .ok (.aload_n 0, 1) := by decide +kernel
theorem dL_law_1922 : decode cL_law 1922 = .ok (.iload 4, 2) := by decide +kernel
theorem dL_law_1924 : decode cL_law 1924 = .ok (.iconst 1, 1) := by decide +kernel
theorem dL_law_1925 : decode cL_law 1925 = .ok (.iadd, 1) := by decide +kernel
theorem dL_law_1926 : decode cL_law 1926 = .ok (.iaload, 1) := by decide +kernel
theorem dL_law_1927 : decode cL_law 1927 = .ok (.aload_n 0, 1) := by decide +kernel
theorem dL_law_1928 : decode cL_law 1928 = .ok (.iload 4, 2) := by decide +kernel
theorem dL_law_1930 : decode cL_law 1930 = .ok (.iconst 2, 1) := by decide +kernel
theorem dL_law_1931 : decode cL_law 1931 = .ok (.iadd, 1) := by decide +kernel
theorem dL_law_1932 : decode cL_law 1932 = .ok (.iaload, 1) := by decide +kernel
theorem dL_law_1933 : decode cL_law 1933 = .ok (.invokevirtual 202, 3) := by decide +kernel
theorem dL_law_1936 : decode cL_law 1936 = .ok (.istore 6, 2) := by decide +kernel
theorem dL_law_1938 : decode cL_law 1938 = .ok (.aload_n 2, 1) := by decide +kernel
theorem dL_law_1939 : decode cL_law 1939 = .ok (.invokevirtual 122, 3) := by decide +kernel
theorem dL_law_1942 : decode cL_law 1942 = .ok (.iload 5, 2) := by decide +kernel
theorem dL_law_1944 : decode cL_law 1944 = .ok (.if_icmp .eq 5, 3) := by decide +kernel
theorem dL_law_1947 : decode cL_law 1947 = .ok (.iconst 0, 1) := by decide +kernel
theorem dL_law_1948 : decode cL_law 1948 = .ok (.ireturn, 1) := by decide +kernel
theorem dL_law_1949 : decode cL_law 1949 = .ok (.iload 5, 2) := by decide +kernel
theorem dL_law_1951 : decode cL_law 1951 = .ok (.ifCond .ne 15, 3) := by decide +kernel
theorem dL_law_1954 : decode cL_law 1954 = .ok (.aload_n 3, 1) := by decide +kernel
theorem dL_law_1955 : decode cL_law 1955 = .ok (.iconst 0, 1) := by decide +kernel
theorem dL_law_1956 : decode cL_law 1956 = .ok (.laload, 1) := by decide +kernel
theorem dL_law_1957 : decode cL_law 1957 = .ok (.iload 6, 2) := by decide +kernel
theorem dL_law_1959 : decode cL_law 1959 = .ok (.i2l, 1) := by decide +kernel
theorem dL_law_1960 : decode cL_law 1960 = .ok (.lcmp, 1) := by decide +kernel
theorem dL_law_1961 : decode cL_law 1961 = .ok (.ifCond .eq 5, 3) := by decide +kernel
theorem dL_law_1964 : decode cL_law 1964 = .ok (.iconst 0, 1) := by decide +kernel
theorem dL_law_1965 : decode cL_law 1965 = .ok (.ireturn, 1) := by decide +kernel
theorem dL_law_1966 : decode cL_law 1966 = .ok (.goto 339, 3) := by decide +kernel
theorem dL_law_1969 : decode cL_law 1969 = .ok (.aload_n 1, 1) := by decide +kernel
theorem dL_law_1970 : decode cL_law 1970 = .ok (.aload_n 0, 1) := by decide +kernel
theorem dL_law_1971 : decode cL_law 1971 = .ok (.iload 4, 2) := by decide +kernel
theorem dL_law_1973 : decode cL_law 1973 = .ok (.iconst 1, 1) := by decide +kernel
theorem dL_law_1974 : decode cL_law 1974 = .ok (.iadd, 1) := by decide +kernel
theorem dL_law_1975 : decode cL_law 1975 = .ok (.iaload, 1) := by decide +kernel
theorem dL_law_1976 : decode cL_law 1976 = .ok (.aload_n 0, 1) := by decide +kernel
theorem dL_law_1977 : decode cL_law 1977 = .ok (.iload 4, 2) := by decide +kernel
theorem dL_law_1979 : decode cL_law 1979 = .ok (.iconst 2, 1) := by decide +kernel
theorem dL_law_1980 : decode cL_law 1980 = .ok (.iadd, 1) := by decide +kernel
theorem dL_law_1981 : decode cL_law 1981 = .ok (.iaload, 1) := by decide +kernel
theorem dL_law_1982 : decode cL_law 1982 = .ok (.aload_n 3, 1) := by decide +kernel
theorem dL_law_1983 : decode cL_law 1983 = .ok (.invokestatic 203, 3) := by decide +kernel
theorem dL_law_1986 : decode cL_law 1986 = .ok (.istore 5, 2) := by decide +kernel
theorem dL_law_1988 : decode cL_law 1988 = .ok (.aload_n 2, 1) := by decide +kernel
theorem dL_law_1989 : decode cL_law 1989 = .ok (.aload_n 0, 1) := by decide +kernel
theorem dL_law_1990 : decode cL_law 1990 = .ok (.iload 4, 2) := by decide +kernel
theorem dL_law_1992 : decode cL_law 1992 = .ok (.iconst 1, 1) := by decide +kernel
theorem dL_law_1993 : decode cL_law 1993 = .ok (.iadd, 1) := by decide +kernel
theorem dL_law_1994 : decode cL_law 1994 = .ok (.iaload, 1) := by decide +kernel
theorem dL_law_1995 : decode cL_law 1995 = .ok (.aload_n 0, 1) := by decide +kernel
theorem dL_law_1996 : decode cL_law 1996 = .ok (.iload 4, 2) := by decide +kernel
theorem dL_law_1998 : decode cL_law 1998 = .ok (.iconst 2, 1) := by decide +kernel
theorem dL_law_1999 : decode cL_law 1999 = .ok (.iadd, 1) := by decide +kernel
theorem dL_law_2000 : decode cL_law 2000 = .ok (.iaload, 1) := by decide +kernel
theorem dL_law_2001 : decode cL_law 2001 = .ok (.invokevirtual 205, 3) := by decide +kernel
theorem dL_law_2004 : decode cL_law 2004 = .ok (.istore 6, 2) := by decide +kernel
theorem dL_law_2006 : decode cL_law 2006 = .ok (.aload_n 2, 1) := by decide +kernel
theorem dL_law_2007 : decode cL_law 2007 = .ok (.invokevirtual 122, 3) := by decide +kernel
theorem dL_law_2010 : decode cL_law 2010 = .ok (.iload 5, 2) := by decide +kernel
theorem dL_law_2012 : decode cL_law 2012 = .ok (.if_icmp .eq 5, 3) := by decide +kernel
theorem dL_law_2015 : decode cL_law 2015 = .ok (.iconst 0, 1) := by decide +kernel
theorem dL_law_2016 : decode cL_law 2016 = .ok (.ireturn, 1) := by decide +kernel
theorem dL_law_2017 : decode cL_law 2017 = .ok (.iload 5, 2) := by decide +kernel
theorem dL_law_2019 : decode cL_law 2019 = .ok (.ifCond .ne 15, 3) := by decide +kernel
theorem dL_law_2022 : decode cL_law 2022 = .ok (.aload_n 3, 1) := by decide +kernel
theorem dL_law_2023 : decode cL_law 2023 = .ok (.iconst 0, 1) := by decide +kernel
theorem dL_law_2024 : decode cL_law 2024 = .ok (.laload, 1) := by decide +kernel
theorem dL_law_2025 : decode cL_law 2025 = .ok (.iload 6, 2) := by decide +kernel
theorem dL_law_2027 : decode cL_law 2027 = .ok (.i2l, 1) := by decide +kernel
theorem dL_law_2028 : decode cL_law 2028 = .ok (.lcmp, 1) := by decide +kernel
theorem dL_law_2029 : decode cL_law 2029 = .ok (.ifCond .eq 5, 3) := by decide +kernel
theorem dL_law_2032 : decode cL_law 2032 = .ok (.iconst 0, 1) := by decide +kernel
theorem dL_law_2033 : decode cL_law 2033 = .ok (.ireturn, 1) := by decide +kernel
theorem dL_law_2034 : decode cL_law 2034 = .ok (.goto 271, 3) := by decide +kernel
theorem dL_law_2037 : decode cL_law 2037 = .ok (.aload_n 1, 1) := by decide +kernel
theorem dL_law_2038 : decode cL_law 2038 = .ok (.aload_n 0, 1) := by decide +kernel
theorem dL_law_2039 : decode cL_law 2039 = .ok (.iload 4, 2) := by decide +kernel
theorem dL_law_2041 : decode cL_law 2041 = .ok (.iconst 1, 1) := by decide +kernel
theorem dL_law_2042 : decode cL_law 2042 = .ok (.iadd, 1) := by decide +kernel
theorem dL_law_2043 : decode cL_law 2043 = .ok (.iaload, 1) := by decide +kernel
theorem dL_law_2044 : decode cL_law 2044 = .ok (.aload_n 3, 1) := by decide +kernel
theorem dL_law_2045 : decode cL_law 2045 = .ok (.invokestatic 206, 3) := by decide +kernel
theorem dL_law_2048 : decode cL_law 2048 = .ok (.istore 5, 2) := by decide +kernel
theorem dL_law_2050 : decode cL_law 2050 = .ok (.aload_n 2, 1) := by decide +kernel
theorem dL_law_2051 : decode cL_law 2051 = .ok (.aload_n 0, 1) := by decide +kernel
theorem dL_law_2052 : decode cL_law 2052 = .ok (.iload 4, 2) := by decide +kernel
theorem dL_law_2054 : decode cL_law 2054 = .ok (.iconst 1, 1) := by decide +kernel
theorem dL_law_2055 : decode cL_law 2055 = .ok (.iadd, 1) := by decide +kernel
theorem dL_law_2056 : decode cL_law 2056 = .ok (.iaload, 1) := by decide +kernel
theorem dL_law_2057 : decode cL_law 2057 = .ok (.invokevirtual 208, 3) := by decide +kernel
theorem dL_law_2060 : decode cL_law 2060 = .ok (.istore 6, 2) := by decide +kernel
theorem dL_law_2062 : decode cL_law 2062 = .ok (.aload_n 2, 1) := by decide +kernel
theorem dL_law_2063 : decode cL_law 2063 = .ok (.invokevirtual 122, 3) := by decide +kernel
theorem dL_law_2066 : decode cL_law 2066 = .ok (.iload 5, 2) := by decide +kernel
theorem dL_law_2068 : decode cL_law 2068 = .ok (.if_icmp .eq 5, 3) := by decide +kernel
theorem dL_law_2071 : decode cL_law 2071 = .ok (.iconst 0, 1) := by decide +kernel
theorem dL_law_2072 : decode cL_law 2072 = .ok (.ireturn, 1) := by decide +kernel
theorem dL_law_2073 : decode cL_law 2073 = .ok (.iload 5, 2) := by decide +kernel
theorem dL_law_2075 : decode cL_law 2075 = .ok (.ifCond .ne 15, 3) := by decide +kernel
theorem dL_law_2078 : decode cL_law 2078 = .ok (.aload_n 3, 1) := by decide +kernel
theorem dL_law_2079 : decode cL_law 2079 = .ok (.iconst 0, 1) := by decide +kernel
theorem dL_law_2080 : decode cL_law 2080 = .ok (.laload, 1) := by decide +kernel
theorem dL_law_2081 : decode cL_law 2081 = .ok (.iload 6, 2) := by decide +kernel
theorem dL_law_2083 : decode cL_law 2083 = .ok (.i2l, 1) := by decide +kernel
theorem dL_law_2084 : decode cL_law 2084 = .ok (.lcmp, 1) := by decide +kernel
theorem dL_law_2085 : decode cL_law 2085 = .ok (.ifCond .eq 5, 3) := by decide +kernel
theorem dL_law_2088 : decode cL_law 2088 = .ok (.iconst 0, 1) := by decide +kernel
theorem dL_law_2089 : decode cL_law 2089 = .ok (.ireturn, 1) := by decide +kernel
theorem dL_law_2090 : decode cL_law 2090 = .ok (.goto 215, 3) := by decide +kernel
theorem dL_law_2093 : decode cL_law 2093 = .ok (.aload_n 1, 1) := by decide +kernel
theorem dL_law_2094 : decode cL_law 2094 = .ok (.aload_n 0, 1) := by decide +kernel
theorem dL_law_2095 : decode cL_law 2095 = .ok (.iload 4, 2) := by decide +kernel
theorem dL_law_2097 : decode cL_law 2097 = .ok (.iconst 1, 1) := by decide +kernel
theorem dL_law_2098 : decode cL_law 2098 = .ok (.iadd, 1) := by decide +kernel
theorem dL_law_2099 : decode cL_law 2099 = .ok (.iaload, 1) := by decide +kernel
theorem dL_law_2100 : decode cL_law 2100 = .ok (.aload_n 3, 1) := by decide +kernel
theorem dL_law_2101 : decode cL_law 2101 = .ok (.invokestatic 209, 3) := by decide +kernel
theorem dL_law_2104 : decode cL_law 2104 = .ok (.istore 5, 2) := by decide +kernel
theorem dL_law_2106 : decode cL_law 2106 = .ok (.aload_n 2, 1) := by decide +kernel
theorem dL_law_2107 : decode cL_law 2107 = .ok (.aload_n 0, 1) := by decide +kernel
theorem dL_law_2108 : decode cL_law 2108 = .ok (.iload 4, 2) := by decide +kernel
theorem dL_law_2110 : decode cL_law 2110 = .ok (.iconst 1, 1) := by decide +kernel
theorem dL_law_2111 : decode cL_law 2111 = .ok (.iadd, 1) := by decide +kernel
theorem dL_law_2112 : decode cL_law 2112 = .ok (.iaload, 1) := by decide +kernel
theorem dL_law_2113 : decode cL_law 2113 = .ok (.invokevirtual 211, 3) := by decide +kernel
theorem dL_law_2116 : decode cL_law 2116 = .ok (.istore 6, 2) := by decide +kernel
theorem dL_law_2118 : decode cL_law 2118 = .ok (.aload_n 2, 1) := by decide +kernel
theorem dL_law_2119 : decode cL_law 2119 = .ok (.invokevirtual 122, 3) := by decide +kernel
theorem dL_law_2122 : decode cL_law 2122 = .ok (.iload 5, 2) := by decide +kernel
theorem dL_law_2124 : decode cL_law 2124 = .ok (.if_icmp .eq 5, 3) := by decide +kernel
theorem dL_law_2127 : decode cL_law 2127 = .ok (.iconst 0, 1) := by decide +kernel
theorem dL_law_2128 : decode cL_law 2128 = .ok (.ireturn, 1) := by decide +kernel
theorem dL_law_2129 : decode cL_law 2129 = .ok (.iload 5, 2) := by decide +kernel
theorem dL_law_2131 : decode cL_law 2131 = .ok (.ifCond .ne 15, 3) := by decide +kernel
theorem dL_law_2134 : decode cL_law 2134 = .ok (.aload_n 3, 1) := by decide +kernel
theorem dL_law_2135 : decode cL_law 2135 = .ok (.iconst 0, 1) := by decide +kernel
theorem dL_law_2136 : decode cL_law 2136 = .ok (.laload, 1) := by decide +kernel
theorem dL_law_2137 : decode cL_law 2137 = .ok (.iload 6, 2) := by decide +kernel
theorem dL_law_2139 : decode cL_law 2139 = .ok (.i2l, 1) := by decide +kernel
theorem dL_law_2140 : decode cL_law 2140 = .ok (.lcmp, 1) := by decide +kernel
theorem dL_law_2141 : decode cL_law 2141 = .ok (.ifCond .eq 5, 3) := by decide +kernel
theorem dL_law_2144 : decode cL_law 2144 = .ok (.iconst 0, 1) := by decide +kernel
theorem dL_law_2145 : decode cL_law 2145 = .ok (.ireturn, 1) := by decide +kernel
theorem dL_law_2146 : decode cL_law 2146 = .ok (.goto 159, 3) := by decide +kernel
theorem dL_law_2149 : decode cL_law 2149 = .ok (.aload_n 1, 1) := by decide +kernel
theorem dL_law_2150 : decode cL_law 2150 = .ok (.aload_n 0, 1) := by decide +kernel
theorem dL_law_2151 : decode cL_law 2151 = .ok (.iload 4, 2) := by decide +kernel
theorem dL_law_2153 : decode cL_law 2153 = .ok (.iconst 1, 1) := by decide +kernel
theorem dL_law_2154 : decode cL_law 2154 = .ok (.iadd, 1) := by decide +kernel
theorem dL_law_2155 : decode cL_law 2155 = .ok (.iaload, 1) := by decide +kernel
theorem dL_law_2156 : decode cL_law 2156 = .ok (.aload_n 0, 1) := by decide +kernel
theorem dL_law_2157 : decode cL_law 2157 = .ok (.iload 4, 2) := by decide +kernel
theorem dL_law_2159 : decode cL_law 2159 = .ok (.iconst 2, 1) := by decide +kernel
theorem dL_law_2160 : decode cL_law 2160 = .ok (.iadd, 1) := by decide +kernel
theorem dL_law_2161 : decode cL_law 2161 = .ok (.iaload, 1) := by decide +kernel
theorem dL_law_2162 : decode cL_law 2162 = .ok (.aload_n 3, 1) := by decide +kernel
theorem dL_law_2163 : decode cL_law 2163 = .ok (.invokestatic 212, 3) := by decide +kernel
theorem dL_law_2166 : decode cL_law 2166 = .ok (.istore 5, 2) := by decide +kernel
theorem dL_law_2168 : decode cL_law 2168 = .ok (.aload_n 2, 1) := by decide +kernel
theorem dL_law_2169 : decode cL_law 2169 = .ok (.aload_n 0, 1) := by decide +kernel
theorem dL_law_2170 : decode cL_law 2170 = .ok (.iload 4, 2) := by decide +kernel
theorem dL_law_2172 : decode cL_law 2172 = .ok (.iconst 1, 1) := by decide +kernel
theorem dL_law_2173 : decode cL_law 2173 = .ok (.iadd, 1) := by decide +kernel
theorem dL_law_2174 : decode cL_law 2174 = .ok (.iaload, 1) := by decide +kernel
theorem dL_law_2175 : decode cL_law 2175 = .ok (.aload_n 0, 1) := by decide +kernel
theorem dL_law_2176 : decode cL_law 2176 = .ok (.iload 4, 2) := by decide +kernel
theorem dL_law_2178 : decode cL_law 2178 = .ok (.iconst 2, 1) := by decide +kernel
theorem dL_law_2179 : decode cL_law 2179 = .ok (.iadd, 1) := by decide +kernel
theorem dL_law_2180 : decode cL_law 2180 = .ok (.iaload, 1) := by decide +kernel
theorem dL_law_2181 : decode cL_law 2181 = .ok (.invokevirtual 214, 3) := by decide +kernel
theorem dL_law_2184 : decode cL_law 2184 = .ok (.istore 6, 2) := by decide +kernel
theorem dL_law_2186 : decode cL_law 2186 = .ok (.aload_n 2, 1) := by decide +kernel
theorem dL_law_2187 : decode cL_law 2187 = .ok (.invokevirtual 122, 3) := by decide +kernel
theorem dL_law_2190 : decode cL_law 2190 = .ok (.iload 5, 2) := by decide +kernel
theorem dL_law_2192 : decode cL_law 2192 = .ok (.if_icmp .eq 5, 3) := by decide +kernel
theorem dL_law_2195 : decode cL_law 2195 = .ok (.iconst 0, 1) := by decide +kernel
theorem dL_law_2196 : decode cL_law 2196 = .ok (.ireturn, 1) := by decide +kernel
theorem dL_law_2197 : decode cL_law 2197 = .ok (.iload 5, 2) := by decide +kernel
theorem dL_law_2199 : decode cL_law 2199 = .ok (.ifCond .ne 22, 3) := by decide +kernel
theorem dL_law_2202 : decode cL_law 2202 = .ok (.aload_n 3, 1) := by decide +kernel
theorem dL_law_2203 : decode cL_law 2203 = .ok (.iconst 0, 1) := by decide +kernel
theorem dL_law_2204 : decode cL_law 2204 = .ok (.laload, 1) := by decide +kernel
theorem dL_law_2205 : decode cL_law 2205 = .ok (.iload 6, 2) := by decide +kernel
theorem dL_law_2207 : decode cL_law 2207 = .ok (.ifCond .eq 7, 3) := by decide +kernel
theorem dL_law_2210 : decode cL_law 2210 = .ok (.lconst 1, 1) := by decide +kernel
theorem dL_law_2211 : decode cL_law 2211 = .ok (.goto 4, 3) := by decide +kernel
theorem dL_law_2214 : decode cL_law 2214 = .ok (.lconst 0, 1) := by decide +kernel
theorem dL_law_2215 : decode cL_law 2215 = .ok (.lcmp, 1) := by decide +kernel
theorem dL_law_2216 : decode cL_law 2216 = .ok (.ifCond .eq 5, 3) := by decide +kernel
theorem dL_law_2219 : decode cL_law 2219 = .ok (.iconst 0, 1) := by decide +kernel
theorem dL_law_2220 : decode cL_law 2220 = .ok (.ireturn, 1) := by decide +kernel
theorem dL_law_2221 : decode cL_law 2221 = .ok (.goto 84, 3) := by decide +kernel
theorem dL_law_2224 : decode cL_law 2224 = .ok (.aload_n 1, 1) := by decide +kernel
theorem dL_law_2225 : decode cL_law 2225 = .ok (.invokevirtual 215, 3) := by decide +kernel
theorem dL_law_2228 : decode cL_law 2228 = .ok (.aload_n 2, 1) := by decide +kernel
theorem dL_law_2229 : decode cL_law 2229 = .ok (.invokevirtual 218, 3) := by decide +kernel
theorem dL_law_2232 : decode cL_law 2232 = .ok (.if_icmp .eq 73, 3) := by decide +kernel
theorem dL_law_2235 : decode cL_law 2235 = .ok (.iconst 0, 1) := by decide +kernel
theorem dL_law_2236 : decode cL_law 2236 = .ok (.ireturn, 1) := by decide +kernel
theorem dL_law_2237 : decode cL_law 2237 = .ok (.aload_n 1, 1) := by decide +kernel
theorem dL_law_2238 : decode cL_law 2238 = .ok (.aload_n 0, 1) := by decide +kernel
theorem dL_law_2239 : decode cL_law 2239 = .ok (.iload 4, 2) := by decide +kernel
theorem dL_law_2241 : decode cL_law 2241 = .ok (.iconst 1, 1) := by decide +kernel
theorem dL_law_2242 : decode cL_law 2242 = .ok (.iadd, 1) := by decide +kernel
theorem dL_law_2243 : decode cL_law 2243 = .ok (.iaload, 1) := by decide +kernel
theorem dL_law_2244 : decode cL_law 2244 = .ok (.aload_n 0, 1) := by decide +kernel
theorem dL_law_2245 : decode cL_law 2245 = .ok (.iload 4, 2) := by decide +kernel
theorem dL_law_2247 : decode cL_law 2247 = .ok (.iconst 2, 1) := by decide +kernel
theorem dL_law_2248 : decode cL_law 2248 = .ok (.iadd, 1) := by decide +kernel
theorem dL_law_2249 : decode cL_law 2249 = .ok (.iaload, 1) := by decide +kernel
theorem dL_law_2250 : decode cL_law 2250 = .ok (.aload_n 3, 1) := by decide +kernel
theorem dL_law_2251 : decode cL_law 2251 = .ok (.invokestatic 219, 3) := by decide +kernel
theorem dL_law_2254 : decode cL_law 2254 = .ok (.istore 5, 2) := by decide +kernel
theorem dL_law_2256 : decode cL_law 2256 = .ok (.aload_n 2, 1) := by decide +kernel
theorem dL_law_2257 : decode cL_law 2257 = .ok (.aload_n 0, 1) := by decide +kernel
theorem dL_law_2258 : decode cL_law 2258 = .ok (.iload 4, 2) := by decide +kernel
theorem dL_law_2260 : decode cL_law 2260 = .ok (.iconst 1, 1) := by decide +kernel
theorem dL_law_2261 : decode cL_law 2261 = .ok (.iadd, 1) := by decide +kernel
theorem dL_law_2262 : decode cL_law 2262 = .ok (.iaload, 1) := by decide +kernel
theorem dL_law_2263 : decode cL_law 2263 = .ok (.aload_n 0, 1) := by decide +kernel
theorem dL_law_2264 : decode cL_law 2264 = .ok (.iload 4, 2) := by decide +kernel
theorem dL_law_2266 : decode cL_law 2266 = .ok (.iconst 2, 1) := by decide +kernel
theorem dL_law_2267 : decode cL_law 2267 = .ok (.iadd, 1) := by decide +kernel
theorem dL_law_2268 : decode cL_law 2268 = .ok (.iaload, 1) := by decide +kernel
theorem dL_law_2269 : decode cL_law 2269 = .ok (.invokevirtual 221, 3) := by decide +kernel
theorem dL_law_2272 : decode cL_law 2272 = .ok (.istore 6, 2) := by decide +kernel
theorem dL_law_2274 : decode cL_law 2274 = .ok (.aload_n 2, 1) := by decide +kernel
theorem dL_law_2275 : decode cL_law 2275 = .ok (.invokevirtual 122, 3) := by decide +kernel
theorem dL_law_2278 : decode cL_law 2278 = .ok (.iload 5, 2) := by decide +kernel
theorem dL_law_2280 : decode cL_law 2280 = .ok (.if_icmp .eq 5, 3) := by decide +kernel
theorem dL_law_2283 : decode cL_law 2283 = .ok (.iconst 0, 1) := by decide +kernel
theorem dL_law_2284 : decode cL_law 2284 = .ok (.ireturn, 1) := by decide +kernel
theorem dL_law_2285 : decode cL_law 2285 = .ok (.iload 5, 2) := by decide +kernel
theorem dL_law_2287 : decode cL_law 2287 = .ok (.ifCond .ne 15, 3) := by decide +kernel
theorem dL_law_2290 : decode cL_law 2290 = .ok (.aload_n 3, 1) := by decide +kernel
theorem dL_law_2291 : decode cL_law 2291 = .ok (.iconst 0, 1) := by decide +kernel
theorem dL_law_2292 : decode cL_law 2292 = .ok (.laload, 1) := by decide +kernel
theorem dL_law_2293 : decode cL_law 2293 = .ok (.iload 6, 2) := by decide +kernel
theorem dL_law_2295 : decode cL_law 2295 = .ok (.i2l, 1) := by decide +kernel
theorem dL_law_2296 : decode cL_law 2296 = .ok (.lcmp, 1) := by decide +kernel
theorem dL_law_2297 : decode cL_law 2297 = .ok (.ifCond .eq 5, 3) := by decide +kernel
theorem dL_law_2300 : decode cL_law 2300 = .ok (.iconst 0, 1) := by decide +kernel
theorem dL_law_2301 : decode cL_law 2301 = .ok (.ireturn, 1) := by decide +kernel
theorem dL_law_2302 : decode cL_law 2302 = .ok (.goto 3, 3) := by decide +kernel
theorem dL_law_2305 : decode cL_law 2305 = .ok (.iinc 4 6, 3) := by decide +kernel
theorem dL_law_2308 : decode cL_law 2308 = .ok (.goto (-2285), 3) := by decide +kernel
theorem dL_law_2311 : decode cL_law 2311 = .ok (.iconst 1, 1) := by decide +kernel
theorem dL_law_2312 : decode cL_law 2312 = .ok (.ireturn, 1) := by decide +kernel
theorem dJ6_bitCount_0f7a4_0 : decode cJ6_bitCount_0f7a4 0 = .ok (.iload_n 0, 1) := by decide +kernel
theorem dJ6_bitCount_0f7a4_1 : decode cJ6_bitCount_0f7a4 1 = .ok (.iload_n 0, 1) := by decide +kernel
theorem dJ6_bitCount_0f7a4_2 : decode cJ6_bitCount_0f7a4 2 = .ok (.iconst 1, 1) := by decide +kernel
theorem dJ6_bitCount_0f7a4_3 : decode cJ6_bitCount_0f7a4 3 = .ok (.iushr, 1) := by decide +kernel
theorem dJ6_bitCount_0f7a4_4 : decode cJ6_bitCount_0f7a4 4 = .ok (.ldc_w 265, 3) := by decide +kernel
theorem dJ6_bitCount_0f7a4_7 : decode cJ6_bitCount_0f7a4 7 = .ok (.iand, 1) := by decide +kernel
theorem dJ6_bitCount_0f7a4_8 : decode cJ6_bitCount_0f7a4 8 = .ok (.isub, 1) := by decide +kernel
theorem dJ6_bitCount_0f7a4_9 : decode cJ6_bitCount_0f7a4 9 = .ok (.istore_n 0, 1) := by decide +kernel
theorem dJ6_bitCount_0f7a4_10 : decode cJ6_bitCount_0f7a4 10 = .ok (.iload_n 0, 1) := by decide +kernel
theorem dJ6_bitCount_0f7a4_11 : decode cJ6_bitCount_0f7a4 11 = .ok (.ldc_w 266, 3) := by decide +kernel
theorem dJ6_bitCount_0f7a4_14 : decode cJ6_bitCount_0f7a4 14 = .ok (.iand, 1) := by decide +kernel
theorem dJ6_bitCount_0f7a4_15 : decode cJ6_bitCount_0f7a4 15 = .ok (.iload_n 0, 1) := by decide +kernel
theorem dJ6_bitCount_0f7a4_16 : decode cJ6_bitCount_0f7a4 16 = .ok (.iconst 2, 1) := by decide +kernel
theorem dJ6_bitCount_0f7a4_17 : decode cJ6_bitCount_0f7a4 17 = .ok (.iushr, 1) := by decide +kernel
theorem dJ6_bitCount_0f7a4_18 : decode cJ6_bitCount_0f7a4 18 = .ok (.ldc_w 266, 3) := by decide +kernel
theorem dJ6_bitCount_0f7a4_21 : decode cJ6_bitCount_0f7a4 21 = .ok (.iand, 1) := by decide +kernel
theorem dJ6_bitCount_0f7a4_22 : decode cJ6_bitCount_0f7a4 22 = .ok (.iadd, 1) := by decide +kernel
theorem dJ6_bitCount_0f7a4_23 : decode cJ6_bitCount_0f7a4 23 = .ok (.istore_n 0, 1) := by decide +kernel
theorem dJ6_bitCount_0f7a4_24 : decode cJ6_bitCount_0f7a4 24 = .ok (.iload_n 0, 1) := by decide +kernel
theorem dJ6_bitCount_0f7a4_25 : decode cJ6_bitCount_0f7a4 25 = .ok (.iload_n 0, 1) := by decide +kernel
theorem dJ6_bitCount_0f7a4_26 : decode cJ6_bitCount_0f7a4 26 = .ok (.iconst 4, 1) := by decide +kernel
theorem dJ6_bitCount_0f7a4_27 : decode cJ6_bitCount_0f7a4 27 = .ok (.iushr, 1) := by decide +kernel
theorem dJ6_bitCount_0f7a4_28 : decode cJ6_bitCount_0f7a4 28 = .ok (.iadd, 1) := by decide +kernel
theorem dJ6_bitCount_0f7a4_29 : decode cJ6_bitCount_0f7a4 29 = .ok (.ldc_w 267, 3) := by decide +kernel
theorem dJ6_bitCount_0f7a4_32 : decode cJ6_bitCount_0f7a4 32 = .ok (.iand, 1) := by decide +kernel
theorem dJ6_bitCount_0f7a4_33 : decode cJ6_bitCount_0f7a4 33 = .ok (.istore_n 0, 1) := by decide +kernel
theorem dJ6_bitCount_0f7a4_34 : decode cJ6_bitCount_0f7a4 34 = .ok (.iload_n 0, 1) := by decide +kernel
theorem dJ6_bitCount_0f7a4_35 : decode cJ6_bitCount_0f7a4 35 = .ok (.iload_n 0, 1) := by decide +kernel
theorem dJ6_bitCount_0f7a4_36 : decode cJ6_bitCount_0f7a4 36 = .ok (.bipush 8, 2) := by decide +kernel
theorem dJ6_bitCount_0f7a4_38 : decode cJ6_bitCount_0f7a4 38 = .ok (.iushr, 1) := by decide +kernel
theorem dJ6_bitCount_0f7a4_39 : decode cJ6_bitCount_0f7a4 39 = .ok (.iadd, 1) := by decide +kernel
theorem dJ6_bitCount_0f7a4_40 : decode cJ6_bitCount_0f7a4 40 = .ok (.istore_n 0, 1) := by decide +kernel
theorem dJ6_bitCount_0f7a4_41 : decode cJ6_bitCount_0f7a4 41 = .ok (.iload_n 0, 1) := by decide +kernel
theorem dJ6_bitCount_0f7a4_42 : decode cJ6_bitCount_0f7a4 42 = .ok (.iload_n 0, 1) := by decide +kernel
theorem dJ6_bitCount_0f7a4_43 : decode cJ6_bitCount_0f7a4 43 = .ok (.bipush 16, 2) := by decide +kernel
theorem dJ6_bitCount_0f7a4_45 : decode cJ6_bitCount_0f7a4 45 = .ok (.iushr, 1) := by decide +kernel
theorem dJ6_bitCount_0f7a4_46 : decode cJ6_bitCount_0f7a4 46 = .ok (.iadd, 1) := by decide +kernel
theorem dJ6_bitCount_0f7a4_47 : decode cJ6_bitCount_0f7a4 47 = .ok (.istore_n 0, 1) := by decide +kernel
theorem dJ6_bitCount_0f7a4_48 : decode cJ6_bitCount_0f7a4 48 = .ok (.iload_n 0, 1) := by decide +kernel
theorem dJ6_bitCount_0f7a4_49 : decode cJ6_bitCount_0f7a4 49 = .ok (.bipush 63, 2) := by decide +kernel
theorem dJ6_bitCount_0f7a4_51 : decode cJ6_bitCount_0f7a4 51 = .ok (.iand, 1) := by decide +kernel
theorem dJ6_bitCount_0f7a4_52 : decode cJ6_bitCount_0f7a4 52 = .ok (.ireturn, 1) := by decide +kernel
theorem dJ9_max_7cf53_0 : decode cJ9_max_7cf53 0 = .ok (.iload_n 0, 1) := by decide +kernel
theorem dJ9_max_7cf53_1 : decode cJ9_max_7cf53 1 = .ok (.iload_n 1, 1) := by decide +kernel
theorem dJ9_max_7cf53_2 : decode cJ9_max_7cf53 2 = .ok (.if_icmp .lt 7, 3) := by decide +kernel
theorem dJ9_max_7cf53_5 : decode cJ9_max_7cf53 5 = .ok (.iload_n 0, 1) := by decide +kernel
theorem dJ9_max_7cf53_6 : decode cJ9_max_7cf53 6 = .ok (.goto 4, 3) := by decide +kernel
theorem dJ9_max_7cf53_9 : decode cJ9_max_7cf53 9 = .ok (.iload_n 1, 1) := by decide +kernel
theorem dJ9_max_7cf53_10 : decode cJ9_max_7cf53 10 = .ok (.ireturn, 1) := by decide +kernel
theorem dJ9_min_7cf53_0 : decode cJ9_min_7cf53 0 = .ok (.iload_n 0, 1) := by decide +kernel
theorem dJ9_min_7cf53_1 : decode cJ9_min_7cf53 1 = .ok (.iload_n 1, 1) := by decide +kernel
theorem dJ9_min_7cf53_2 : decode cJ9_min_7cf53 2 = .ok (.if_icmp .gt 7, 3) := by decide +kernel
theorem dJ9_min_7cf53_5 : decode cJ9_min_7cf53 5 = .ok (.iload_n 0, 1) := by decide +kernel
theorem dJ9_min_7cf53_6 : decode cJ9_min_7cf53 6 = .ok (.goto 4, 3) := by decide +kernel
theorem dJ9_min_7cf53_9 : decode cJ9_min_7cf53 9 = .ok (.iload_n 1, 1) := by decide +kernel
theorem dJ9_min_7cf53_10 : decode cJ9_min_7cf53 10 = .ok (.ireturn, 1) := by decide +kernel
theorem dJxa1e45_init_da8c8_0 : decode cJxa1e45_init_da8c8 0 = .ok (.aload_n 0, 1) := by decide +kernel
theorem dJxa1e45_init_da8c8_1 : decode cJxa1e45_init_da8c8 1 = .ok (.invokespecial 1, 3) := by decide +kernel
theorem dJxa1e45_init_da8c8_4 : decode cJxa1e45_init_da8c8 4 = .ok (.return_, 1) := by decide +kernel
theorem dJxc12de_init_da8c8_0 : decode cJxc12de_init_da8c8 0 = .ok (.aload_n 0, 1) := by decide +kernel
theorem dJxc12de_init_da8c8_1 : decode cJxc12de_init_da8c8 1 = .ok (.invokespecial 1, 3) := by decide +kernel
theorem dJxc12de_init_da8c8_4 : decode cJxc12de_init_da8c8 4 = .ok (.aload_n 0, 1) := by decide +kernel
theorem dJxc12de_init_da8c8_5 : decode cJxc12de_init_da8c8 5 = .ok (.iconst 0, 1) := by decide +kernel
theorem dJxc12de_init_da8c8_6 : decode cJxc12de_init_da8c8 6 = .ok (.putfield 7, 3) := by decide +kernel
theorem dJxc12de_init_da8c8_9 : decode cJxc12de_init_da8c8 9 = .ok (.return_, 1) := by decide +kernel
theorem dJx4a65c_init_da8c8_0 : decode cJx4a65c_init_da8c8 0 = .ok (.aload_n 0, 1) := by decide +kernel
theorem dJx4a65c_init_da8c8_1 : decode cJx4a65c_init_da8c8 1 = .ok (.invokespecial 1, 3) := by decide +kernel
theorem dJx4a65c_init_da8c8_4 : decode cJx4a65c_init_da8c8 4 = .ok (.aload_n 0, 1) := by decide +kernel
theorem dJx4a65c_init_da8c8_5 : decode cJx4a65c_init_da8c8 5 = .ok (.getstatic 39, 3) := by decide +kernel
theorem dJx4a65c_init_da8c8_8 : decode cJx4a65c_init_da8c8 8 = .ok (.putfield 9, 3) := by decide +kernel
theorem dJx4a65c_init_da8c8_11 : decode cJx4a65c_init_da8c8 11 = .ok (.return_, 1) := by decide +kernel
theorem dJx4a65c_grow_92f84_0 : decode cJx4a65c_grow_92f84 0 = .ok (.aload_n 0, 1) := by decide +kernel
theorem dJx4a65c_grow_92f84_1 : decode cJx4a65c_grow_92f84 1 = .ok (.getfield 9, 3) := by decide +kernel
theorem dJx4a65c_grow_92f84_4 : decode cJx4a65c_grow_92f84 4 = .ok (.arraylength, 1) := by decide +kernel
theorem dJx4a65c_grow_92f84_5 : decode cJx4a65c_grow_92f84 5 = .ok (.istore_n 2, 1) := by decide +kernel
theorem dJx4a65c_grow_92f84_6 : decode cJx4a65c_grow_92f84 6 = .ok (.iload_n 2, 1) := by decide +kernel
theorem dJx4a65c_grow_92f84_7 : decode cJx4a65c_grow_92f84 7 = .ok (.ifCond .gt 13, 3) := by decide +kernel
theorem dJx4a65c_grow_92f84_10 : decode cJx4a65c_grow_92f84 10 = .ok (.aload_n 0, 1) := by decide +kernel
theorem dJx4a65c_grow_92f84_11 : decode cJx4a65c_grow_92f84 11 = .ok (.getfield 9, 3) := by decide +kernel
theorem dJx4a65c_grow_92f84_14 : decode cJx4a65c_grow_92f84 14 = .ok (.getstatic 39, 3) := by decide +kernel
theorem dJx4a65c_grow_92f84_17 : decode cJx4a65c_grow_92f84 17 = .ok (.if_acmp .eq 28, 3) := by decide +kernel
theorem dJx4a65c_grow_92f84_20 : decode cJx4a65c_grow_92f84 20 = .ok (.iload_n 2, 1) := by decide +kernel
theorem dJx4a65c_grow_92f84_21 : decode cJx4a65c_grow_92f84 21 = .ok (.iload_n 1, 1) := by decide +kernel
theorem dJx4a65c_grow_92f84_22 : decode cJx4a65c_grow_92f84 22 = .ok (.iload_n 2, 1) := by decide +kernel
theorem dJx4a65c_grow_92f84_23 : decode cJx4a65c_grow_92f84 23 = .ok (.isub, 1) := by decide +kernel
theorem dJx4a65c_grow_92f84_24 : decode cJx4a65c_grow_92f84 24 = .ok (.iload_n 2, 1) := by decide +kernel
theorem dJx4a65c_grow_92f84_25 : decode cJx4a65c_grow_92f84 25 = .ok (.iconst 1, 1) := by decide +kernel
theorem dJx4a65c_grow_92f84_26 : decode cJx4a65c_grow_92f84 26 = .ok (.ishr, 1) := by decide +kernel
theorem dJx4a65c_grow_92f84_27 : decode cJx4a65c_grow_92f84 27 = .ok (.invokestatic 73, 3) := by decide +kernel
theorem dJx4a65c_grow_92f84_30 : decode cJx4a65c_grow_92f84 30 = .ok (.istore_n 3, 1) := by decide +kernel
theorem dJx4a65c_grow_92f84_31 : decode cJx4a65c_grow_92f84 31 = .ok (.aload_n 0, 1) := by decide +kernel
theorem dJx4a65c_grow_92f84_32 : decode cJx4a65c_grow_92f84 32 = .ok (.aload_n 0, 1) := by decide +kernel
theorem dJx4a65c_grow_92f84_33 : decode cJx4a65c_grow_92f84 33 = .ok (.getfield 9, 3) := by decide +kernel
theorem dJx4a65c_grow_92f84_36 : decode cJx4a65c_grow_92f84 36 = .ok (.iload_n 3, 1) := by decide +kernel
theorem dJx4a65c_grow_92f84_37 : decode cJx4a65c_grow_92f84 37 = .ok (.invokestatic 66, 3) := by decide +kernel
theorem dJx4a65c_grow_92f84_40 : decode cJx4a65c_grow_92f84 40 = .ok (.dup_x1, 1) := by decide +kernel
theorem dJx4a65c_grow_92f84_41 : decode cJx4a65c_grow_92f84 41 = .ok (.putfield 9, 3) := by decide +kernel
theorem dJx4a65c_grow_92f84_44 : decode cJx4a65c_grow_92f84 44 = .ok (.areturn, 1) := by decide +kernel
theorem dJx4a65c_grow_92f84_45 : decode cJx4a65c_grow_92f84 45 = .ok (.aload_n 0, 1) := by decide +kernel
theorem dJx4a65c_grow_92f84_46 : decode cJx4a65c_grow_92f84 46 = .ok (.bipush 10, 2) := by decide +kernel
theorem dJx4a65c_grow_92f84_48 : decode cJx4a65c_grow_92f84 48 = .ok (.iload_n 1, 1) := by decide +kernel
theorem dJx4a65c_grow_92f84_49 : decode cJx4a65c_grow_92f84 49 = .ok (.invokestatic 79, 3) := by decide +kernel
theorem dJx4a65c_grow_92f84_52 : decode cJx4a65c_grow_92f84 52 = .ok (.anewarray 7, 3) := by decide +kernel
theorem dJx4a65c_grow_92f84_55 : decode cJx4a65c_grow_92f84 55 = .ok (.dup_x1, 1) := by decide +kernel
theorem dJx4a65c_grow_92f84_56 : decode cJx4a65c_grow_92f84 56 = .ok (.putfield 9, 3) := by decide +kernel
theorem dJx4a65c_grow_92f84_59 : decode cJx4a65c_grow_92f84 59 = .ok (.areturn, 1) := by decide +kernel
theorem dJx4a65c_grow_d5877_0 : decode cJx4a65c_grow_d5877 0 = .ok (.aload_n 0, 1) := by decide +kernel
theorem dJx4a65c_grow_d5877_1 : decode cJx4a65c_grow_d5877 1 = .ok (.aload_n 0, 1) := by decide +kernel
theorem dJx4a65c_grow_d5877_2 : decode cJx4a65c_grow_d5877 2 = .ok (.getfield 48, 3) := by decide +kernel
theorem dJx4a65c_grow_d5877_5 : decode cJx4a65c_grow_d5877 5 = .ok (.iconst 1, 1) := by decide +kernel
theorem dJx4a65c_grow_d5877_6 : decode cJx4a65c_grow_d5877 6 = .ok (.iadd, 1) := by decide +kernel
theorem dJx4a65c_grow_d5877_7 : decode cJx4a65c_grow_d5877 7 = .ok (.invokevirtual 69, 3) := by decide +kernel
theorem dJx4a65c_grow_d5877_10 : decode cJx4a65c_grow_d5877 10 = .ok (.areturn, 1) := by decide +kernel
theorem dJx4a65c_size_8abf5_0 : decode cJx4a65c_size_8abf5 0 = .ok (.aload_n 0, 1) := by decide +kernel
theorem dJx4a65c_size_8abf5_1 : decode cJx4a65c_size_8abf5 1 = .ok (.getfield 48, 3) := by decide +kernel
theorem dJx4a65c_size_8abf5_4 : decode cJx4a65c_size_8abf5 4 = .ok (.ireturn, 1) := by decide +kernel
theorem dJx4a65c_elementData_915e3_0 : decode cJx4a65c_elementData_915e3 0 = .ok (.aload_n 0, 1) := by decide +kernel
theorem dJx4a65c_elementData_915e3_1 : decode cJx4a65c_elementData_915e3 1 = .ok (.getfield 9, 3) := by decide +kernel
theorem dJx4a65c_elementData_915e3_4 : decode cJx4a65c_elementData_915e3 4 = .ok (.iload_n 1, 1) := by decide +kernel
theorem dJx4a65c_elementData_915e3_5 : decode cJx4a65c_elementData_915e3 5 = .ok (.aaload, 1) := by decide +kernel
theorem dJx4a65c_elementData_915e3_6 : decode cJx4a65c_elementData_915e3 6 = .ok (.areturn, 1) := by decide +kernel
theorem dJx4a65c_get_915e3_0 : decode cJx4a65c_get_915e3 0 = .ok (.iload_n 1, 1) := by decide +kernel
theorem dJx4a65c_get_915e3_1 : decode cJx4a65c_get_915e3 1 = .ok (.aload_n 0, 1) := by decide +kernel
theorem dJx4a65c_get_915e3_2 : decode cJx4a65c_get_915e3 2 = .ok (.getfield 48, 3) := by decide +kernel
theorem dJx4a65c_get_915e3_5 : decode cJx4a65c_get_915e3 5 = .ok (.invokestatic 118, 3) := by decide +kernel
theorem dJx4a65c_get_915e3_8 : decode cJx4a65c_get_915e3 8 = .ok (.pop, 1) := by decide +kernel
theorem dJx4a65c_get_915e3_9 : decode cJx4a65c_get_915e3 9 = .ok (.aload_n 0, 1) := by decide +kernel
theorem dJx4a65c_get_915e3_10 : decode cJx4a65c_get_915e3 10 = .ok (.iload_n 1, 1) := by decide +kernel
theorem dJx4a65c_get_915e3_11 : decode cJx4a65c_get_915e3 11 = .ok (.invokevirtual 123, 3) := by decide +kernel
theorem dJx4a65c_get_915e3_14 : decode cJx4a65c_get_915e3 14 = .ok (.areturn, 1) := by decide +kernel
theorem dJx4a65c_add_72be8_0 : decode cJx4a65c_add_72be8 0 = .ok (.iload_n 3, 1) := by decide +kernel
theorem dJx4a65c_add_72be8_1 : decode cJx4a65c_add_72be8 1 = .ok (.aload_n 2, 1) := by decide +kernel
theorem dJx4a65c_add_72be8_2 : decode cJx4a65c_add_72be8 2 = .ok (.arraylength, 1) := by decide +kernel
theorem dJx4a65c_add_72be8_3 : decode cJx4a65c_add_72be8 3 = .ok (.if_icmp .ne 8, 3) := by decide +kernel
theorem dJx4a65c_add_72be8_6 : decode cJx4a65c_add_72be8 6 = .ok (.aload_n 0, 1) := by decide +kernel
theorem dJx4a65c_add_72be8_7 : decode cJx4a65c_add_72be8 7 = .ok (.invokevirtual 129, 3) := by decide +kernel
theorem dJx4a65c_add_72be8_10 : decode cJx4a65c_add_72be8 10 = .ok (.astore_n 2, 1) := by decide +kernel
theorem dJx4a65c_add_72be8_11 : decode cJx4a65c_add_72be8 11 = .ok (.aload_n 2, 1) := by decide +kernel
theorem dJx4a65c_add_72be8_12 : decode cJx4a65c_add_72be8 12 = .ok (.iload_n 3, 1) := by decide +kernel
theorem dJx4a65c_add_72be8_13 : decode cJx4a65c_add_72be8 13 = .ok (.aload_n 1, 1) := by decide +kernel
theorem dJx4a65c_add_72be8_14 : decode cJx4a65c_add_72be8 14 = .ok (.aastore, 1) := by decide +kernel
theorem dJx4a65c_add_72be8_15 : decode cJx4a65c_add_72be8 15 = .ok (.aload_n 0, 1) := by decide +kernel
theorem dJx4a65c_add_72be8_16 : decode cJx4a65c_add_72be8 16 = .ok (.iload_n 3, 1) := by decide +kernel
theorem dJx4a65c_add_72be8_17 : decode cJx4a65c_add_72be8 17 = .ok (.iconst 1, 1) := by decide +kernel
theorem dJx4a65c_add_72be8_18 : decode cJx4a65c_add_72be8 18 = .ok (.iadd, 1) := by decide +kernel
theorem dJx4a65c_add_72be8_19 : decode cJx4a65c_add_72be8 19 = .ok (.putfield 48, 3) := by decide +kernel
theorem dJx4a65c_add_72be8_22 : decode cJx4a65c_add_72be8 22 = .ok (.return_, 1) := by decide +kernel
theorem dJx4a65c_add_9ea2d_0 : decode cJx4a65c_add_9ea2d 0 = .ok (.aload_n 0, 1) := by decide +kernel
theorem dJx4a65c_add_9ea2d_1 : decode cJx4a65c_add_9ea2d 1 = .ok (.dup, 1) := by decide +kernel
theorem dJx4a65c_add_9ea2d_2 : decode cJx4a65c_add_9ea2d 2 = .ok (.getfield 63, 3) := by decide +kernel
theorem dJx4a65c_add_9ea2d_5 : decode cJx4a65c_add_9ea2d 5 = .ok (.iconst 1, 1) := by decide +kernel
theorem dJx4a65c_add_9ea2d_6 : decode cJx4a65c_add_9ea2d 6 = .ok (.iadd, 1) := by decide +kernel
theorem dJx4a65c_add_9ea2d_7 : decode cJx4a65c_add_9ea2d 7 = .ok (.putfield 63, 3) := by decide +kernel
theorem dJx4a65c_add_9ea2d_10 : decode cJx4a65c_add_9ea2d 10 = .ok (.aload_n 0, 1) := by decide +kernel
theorem dJx4a65c_add_9ea2d_11 : decode cJx4a65c_add_9ea2d 11 = .ok (.aload_n 1, 1) := by decide +kernel
theorem dJx4a65c_add_9ea2d_12 : decode cJx4a65c_add_9ea2d 12 = .ok (.aload_n 0, 1) := by decide +kernel
theorem dJx4a65c_add_9ea2d_13 : decode cJx4a65c_add_9ea2d 13 = .ok (.getfield 9, 3) := by decide +kernel
theorem dJx4a65c_add_9ea2d_16 : decode cJx4a65c_add_9ea2d 16 = .ok (.aload_n 0, 1) := by decide +kernel
theorem dJx4a65c_add_9ea2d_17 : decode cJx4a65c_add_9ea2d 17 = .ok (.getfield 48, 3) := by decide +kernel
theorem dJx4a65c_add_9ea2d_20 : decode cJx4a65c_add_9ea2d 20 = .ok (.invokevirtual 131, 3) := by decide +kernel
theorem dJx4a65c_add_9ea2d_23 : decode cJx4a65c_add_9ea2d 23 = .ok (.iconst 1, 1) := by decide +kernel
theorem dJx4a65c_add_9ea2d_24 : decode cJx4a65c_add_9ea2d 24 = .ok (.ireturn, 1) := by decide +kernel
theorem dJ7_fill_53178_0 : decode cJ7_fill_53178 0 = .ok (.iconst 0, 1) := by decide +kernel
theorem dJ7_fill_53178_1 : decode cJ7_fill_53178 1 = .ok (.istore_n 2, 1) := by decide +kernel
theorem dJ7_fill_53178_2 : decode cJ7_fill_53178 2 = .ok (.aload_n 0, 1) := by decide +kernel
theorem dJ7_fill_53178_3 : decode cJ7_fill_53178 3 = .ok (.arraylength, 1) := by decide +kernel
theorem dJ7_fill_53178_4 : decode cJ7_fill_53178 4 = .ok (.istore_n 3, 1) := by decide +kernel
theorem dJ7_fill_53178_5 : decode cJ7_fill_53178 5 = .ok (.iload_n 2, 1) := by decide +kernel
theorem dJ7_fill_53178_6 : decode cJ7_fill_53178 6 = .ok (.iload_n 3, 1) := by decide +kernel
theorem dJ7_fill_53178_7 : decode cJ7_fill_53178 7 = .ok (.if_icmp .ge 13, 3) := by decide +kernel
theorem dJ7_fill_53178_10 : decode cJ7_fill_53178 10 = .ok (.aload_n 0, 1) := by decide +kernel
theorem dJ7_fill_53178_11 : decode cJ7_fill_53178 11 = .ok (.iload_n 2, 1) := by decide +kernel
theorem dJ7_fill_53178_12 : decode cJ7_fill_53178 12 = .ok (.iload_n 1, 1) := by decide +kernel
theorem dJ7_fill_53178_13 : decode cJ7_fill_53178 13 = .ok (.iastore, 1) := by decide +kernel
theorem dJ7_fill_53178_14 : decode cJ7_fill_53178 14 = .ok (.iinc 2 1, 3) := by decide +kernel
theorem dJ7_fill_53178_17 : decode cJ7_fill_53178 17 = .ok (.goto (-12), 3) := by decide +kernel
theorem dJ7_fill_53178_20 : decode cJ7_fill_53178 20 = .ok (.return_, 1) := by decide +kernel
theorem dJ7_copyOf_1904c_0 : decode cJ7_copyOf_1904c 0 = .ok (.aload_n 0, 1) := by decide +kernel
theorem dJ7_copyOf_1904c_1 : decode cJ7_copyOf_1904c 1 = .ok (.iload_n 1, 1) := by decide +kernel
theorem dJ7_copyOf_1904c_2 : decode cJ7_copyOf_1904c 2 = .ok (.aload_n 0, 1) := by decide +kernel
theorem dJ7_copyOf_1904c_3 : decode cJ7_copyOf_1904c 3 = .ok (.invokevirtual 86, 3) := by decide +kernel
theorem dJ7_copyOf_1904c_6 : decode cJ7_copyOf_1904c 6 = .ok (.invokestatic 300, 3) := by decide +kernel
theorem dJ7_copyOf_1904c_9 : decode cJ7_copyOf_1904c 9 = .ok (.areturn, 1) := by decide +kernel
theorem dJ7_copyOf_6403c_0 : decode cJ7_copyOf_6403c 0 = .ok (.aload_n 2, 1) := by decide +kernel
theorem dJ7_copyOf_6403c_1 : decode cJ7_copyOf_6403c 1 = .ok (.ldc 110, 2) := by decide +kernel
theorem dJ7_copyOf_6403c_3 : decode cJ7_copyOf_6403c 3 = .ok (.if_acmp .ne 10, 3) := by decide +kernel
theorem dJ7_copyOf_6403c_6 : decode cJ7_copyOf_6403c 6 = .ok (.iload_n 1, 1) := by decide +kernel
theorem dJ7_copyOf_6403c_7 : decode cJ7_copyOf_6403c 7 = .ok (.anewarray 2, 3) := by decide +kernel
theorem dJ7_copyOf_6403c_10 : decode cJ7_copyOf_6403c 10 = .ok (.goto 14, 3) := by decide +kernel
theorem dJ7_copyOf_6403c_13 : decode cJ7_copyOf_6403c 13 = .ok (.aload_n 2, 1) := by decide +kernel
theorem dJ7_copyOf_6403c_14 : decode cJ7_copyOf_6403c 14 = .ok (.invokevirtual 90, 3) := by decide +kernel
theorem dJ7_copyOf_6403c_17 : decode cJ7_copyOf_6403c 17 = .ok (.iload_n 1, 1) := by decide +kernel
theorem dJ7_copyOf_6403c_18 : decode cJ7_copyOf_6403c 18 = .ok (.invokestatic 95, 3) := by decide +kernel
theorem dJ7_copyOf_6403c_21 : decode cJ7_copyOf_6403c 21 = .ok (.checkcast 110, 3) := by decide +kernel
theorem dJ7_copyOf_6403c_24 : decode cJ7_copyOf_6403c 24 = .ok (.astore_n 3, 1) := by decide +kernel
theorem dJ7_copyOf_6403c_25 : decode cJ7_copyOf_6403c 25 = .ok (.aload_n 0, 1) := by decide +kernel
theorem dJ7_copyOf_6403c_26 : decode cJ7_copyOf_6403c 26 = .ok (.iconst 0, 1) := by decide +kernel
theorem dJ7_copyOf_6403c_27 : decode cJ7_copyOf_6403c 27 = .ok (.aload_n 3, 1) := by decide +kernel
theorem dJ7_copyOf_6403c_28 : decode cJ7_copyOf_6403c 28 = .ok (.iconst 0, 1) := by decide +kernel
theorem dJ7_copyOf_6403c_29 : decode cJ7_copyOf_6403c 29 = .ok (.aload_n 0, 1) := by decide +kernel
theorem dJ7_copyOf_6403c_30 : decode cJ7_copyOf_6403c 30 = .ok (.arraylength, 1) := by decide +kernel
theorem dJ7_copyOf_6403c_31 : decode cJ7_copyOf_6403c 31 = .ok (.iload_n 1, 1) := by decide +kernel
theorem dJ7_copyOf_6403c_32 : decode cJ7_copyOf_6403c 32 = .ok (.invokestatic 304, 3) := by decide +kernel
theorem dJ7_copyOf_6403c_35 : decode cJ7_copyOf_6403c 35 = .ok (.invokestatic 150, 3) := by decide +kernel
theorem dJ7_copyOf_6403c_38 : decode cJ7_copyOf_6403c 38 = .ok (.aload_n 3, 1) := by decide +kernel
theorem dJ7_copyOf_6403c_39 : decode cJ7_copyOf_6403c 39 = .ok (.areturn, 1) := by decide +kernel
theorem dJ15_checkIndex_7cf53_0 : decode cJ15_checkIndex_7cf53 0 = .ok (.iload_n 0, 1) := by decide +kernel
theorem dJ15_checkIndex_7cf53_1 : decode cJ15_checkIndex_7cf53 1 = .ok (.iload_n 1, 1) := by decide +kernel
theorem dJ15_checkIndex_7cf53_2 : decode cJ15_checkIndex_7cf53 2 = .ok (.aconst_null, 1) := by decide +kernel
theorem dJ15_checkIndex_7cf53_3 : decode cJ15_checkIndex_7cf53 3 = .ok (.invokestatic 105, 3) := by decide +kernel
theorem dJ15_checkIndex_7cf53_6 : decode cJ15_checkIndex_7cf53 6 = .ok (.ireturn, 1) := by decide +kernel
theorem dJ8_newLength_cabcc_0 : decode cJ8_newLength_cabcc 0 = .ok (.iload_n 0, 1) := by decide +kernel
theorem dJ8_newLength_cabcc_1 : decode cJ8_newLength_cabcc 1 = .ok (.iload_n 1, 1) := by decide +kernel
theorem dJ8_newLength_cabcc_2 : decode cJ8_newLength_cabcc 2 = .ok (.iload_n 2, 1) := by decide +kernel
theorem dJ8_newLength_cabcc_3 : decode cJ8_newLength_cabcc 3 = .ok (.invokestatic 194, 3) := by decide +kernel
theorem dJ8_newLength_cabcc_6 : decode cJ8_newLength_cabcc 6 = .ok (.iadd, 1) := by decide +kernel
theorem dJ8_newLength_cabcc_7 : decode cJ8_newLength_cabcc 7 = .ok (.istore_n 3, 1) := by decide +kernel
theorem dJ8_newLength_cabcc_8 : decode cJ8_newLength_cabcc 8 = .ok (.iconst 0, 1) := by decide +kernel
theorem dJ8_newLength_cabcc_9 : decode cJ8_newLength_cabcc 9 = .ok (.iload_n 3, 1) := by decide +kernel
theorem dJ8_newLength_cabcc_10 : decode cJ8_newLength_cabcc 10 = .ok (.if_icmp .ge 11, 3) := by decide +kernel
theorem dJ8_newLength_cabcc_13 : decode cJ8_newLength_cabcc 13 = .ok (.iload_n 3, 1) := by decide +kernel
theorem dJ8_newLength_cabcc_14 : decode cJ8_newLength_cabcc 14 = .ok (.ldc 200, 2) := by decide +kernel
theorem dJ8_newLength_cabcc_16 : decode cJ8_newLength_cabcc 16 = .ok (.if_icmp .gt 5, 3) := by decide +kernel
theorem dJ8_newLength_cabcc_19 : decode cJ8_newLength_cabcc 19 = .ok (.iload_n 3, 1) := by decide +kernel
theorem dJ8_newLength_cabcc_20 : decode cJ8_newLength_cabcc 20 = .ok (.ireturn, 1) := by decide +kernel
theorem dJ8_newLength_cabcc_21 : decode cJ8_newLength_cabcc 21 = .ok (.iload_n 0, 1) := by decide +kernel
theorem dJ8_newLength_cabcc_22 : decode cJ8_newLength_cabcc 22 = .ok (.iload_n 1, 1) := by decide +kernel
theorem dJ8_newLength_cabcc_23 : decode cJ8_newLength_cabcc 23 = .ok (.invokestatic 201, 3) := by decide +kernel
theorem dJ8_newLength_cabcc_26 : decode cJ8_newLength_cabcc 26 = .ok (.ireturn, 1) := by decide +kernel
theorem dJ8_hugeLength_7cf53_0 : decode cJ8_hugeLength_7cf53 0 = .ok (.iload_n 0, 1) := by decide +kernel
theorem dJ8_hugeLength_7cf53_1 : decode cJ8_hugeLength_7cf53 1 = .ok (.iload_n 1, 1) := by decide +kernel
theorem dJ8_hugeLength_7cf53_2 : decode cJ8_hugeLength_7cf53 2 = .ok (.iadd, 1) := by decide +kernel
theorem dJ8_hugeLength_7cf53_3 : decode cJ8_hugeLength_7cf53 3 = .ok (.istore_n 2, 1) := by decide +kernel
theorem dJ8_hugeLength_7cf53_4 : decode cJ8_hugeLength_7cf53 4 = .ok (.iload_n 2, 1) := by decide +kernel
theorem dJ8_hugeLength_7cf53_5 : decode cJ8_hugeLength_7cf53 5 = .ok (.ifCond .ge 44, 3) := by decide +kernel
theorem dJ8_hugeLength_7cf53_8 : decode cJ8_hugeLength_7cf53 8 = .ok (.new 204, 3) := by decide +kernel
theorem dJ8_hugeLength_7cf53_11 : decode cJ8_hugeLength_7cf53 11 = .ok (.dup, 1) := by decide +kernel
theorem dJ8_hugeLength_7cf53_12 : decode cJ8_hugeLength_7cf53 12 = .ok (.new 89, 3) := by decide +kernel
theorem dJ8_hugeLength_7cf53_15 : decode cJ8_hugeLength_7cf53 15 = .ok (.dup, 1) := by decide +kernel
theorem dJ8_hugeLength_7cf53_16 : decode cJ8_hugeLength_7cf53 16 = .ok (.invokespecial 91, 3) := by decide +kernel
theorem dJ8_hugeLength_7cf53_19 : decode cJ8_hugeLength_7cf53 19 = .ok (.ldc 206, 2) := by decide +kernel
theorem dJ8_hugeLength_7cf53_21 : decode cJ8_hugeLength_7cf53 21 = .ok (.invokevirtual 94, 3) := by decide +kernel
theorem dJ8_hugeLength_7cf53_24 : decode cJ8_hugeLength_7cf53 24 = .ok (.iload_n 0, 1) := by decide +kernel
theorem dJ8_hugeLength_7cf53_25 : decode cJ8_hugeLength_7cf53 25 = .ok (.invokevirtual 98, 3) := by decide +kernel
theorem dJ8_hugeLength_7cf53_28 : decode cJ8_hugeLength_7cf53 28 = .ok (.ldc 208, 2) := by decide +kernel
theorem dJ8_hugeLength_7cf53_30 : decode cJ8_hugeLength_7cf53 30 = .ok (.invokevirtual 94, 3) := by decide +kernel
theorem dJ8_hugeLength_7cf53_33 : decode cJ8_hugeLength_7cf53 33 = .ok (.iload_n 1, 1) := by decide +kernel
theorem dJ8_hugeLength_7cf53_34 : decode cJ8_hugeLength_7cf53 34 = .ok (.invokevirtual 98, 3) := by decide +kernel
theorem dJ8_hugeLength_7cf53_37 : decode cJ8_hugeLength_7cf53 37 = .ok (.ldc 210, 2) := by decide +kernel
theorem dJ8_hugeLength_7cf53_39 : decode cJ8_hugeLength_7cf53 39 = .ok (.invokevirtual 94, 3) := by decide +kernel
theorem dJ8_hugeLength_7cf53_42 : decode cJ8_hugeLength_7cf53 42 = .ok (.invokevirtual 101, 3) := by decide +kernel
theorem dJ8_hugeLength_7cf53_45 : decode cJ8_hugeLength_7cf53 45 = .ok (.invokespecial 212, 3) := by decide +kernel
theorem dJ8_hugeLength_7cf53_48 : decode cJ8_hugeLength_7cf53 48 = .ok (.athrow, 1) := by decide +kernel
theorem dJ8_hugeLength_7cf53_49 : decode cJ8_hugeLength_7cf53 49 = .ok (.iload_n 2, 1) := by decide +kernel
theorem dJ8_hugeLength_7cf53_50 : decode cJ8_hugeLength_7cf53 50 = .ok (.ldc 200, 2) := by decide +kernel
theorem dJ8_hugeLength_7cf53_52 : decode cJ8_hugeLength_7cf53 52 = .ok (.if_icmp .gt 6, 3) := by decide +kernel
theorem dJ8_hugeLength_7cf53_55 : decode cJ8_hugeLength_7cf53 55 = .ok (.ldc 200, 2) := by decide +kernel
theorem dJ8_hugeLength_7cf53_57 : decode cJ8_hugeLength_7cf53 57 = .ok (.ireturn, 1) := by decide +kernel
theorem dJ8_hugeLength_7cf53_58 : decode cJ8_hugeLength_7cf53 58 = .ok (.iload_n 2, 1) := by decide +kernel
theorem dJ8_hugeLength_7cf53_59 : decode cJ8_hugeLength_7cf53 59 = .ok (.ireturn, 1) := by decide +kernel
theorem dJ3_checkIndex_8e157_0 : decode cJ3_checkIndex_8e157 0 = .ok (.iload_n 0, 1) := by decide +kernel
theorem dJ3_checkIndex_8e157_1 : decode cJ3_checkIndex_8e157 1 = .ok (.ifCond .lt 8, 3) := by decide +kernel
theorem dJ3_checkIndex_8e157_4 : decode cJ3_checkIndex_8e157 4 = .ok (.iload_n 0, 1) := by decide +kernel
theorem dJ3_checkIndex_8e157_5 : decode cJ3_checkIndex_8e157 5 = .ok (.iload_n 1, 1) := by decide +kernel
theorem dJ3_checkIndex_8e157_6 : decode cJ3_checkIndex_8e157 6 = .ok (.if_icmp .lt 10, 3) := by decide +kernel
theorem dJ3_checkIndex_8e157_9 : decode cJ3_checkIndex_8e157 9 = .ok (.aload_n 2, 1) := by decide +kernel
theorem dJ3_checkIndex_8e157_10 : decode cJ3_checkIndex_8e157 10 = .ok (.iload_n 0, 1) := by decide +kernel
theorem dJ3_checkIndex_8e157_11 : decode cJ3_checkIndex_8e157 11 = .ok (.iload_n 1, 1) := by decide +kernel
theorem dJ3_checkIndex_8e157_12 : decode cJ3_checkIndex_8e157 12 = .ok (.invokestatic 95, 3) := by decide +kernel
theorem dJ3_checkIndex_8e157_15 : decode cJ3_checkIndex_8e157 15 = .ok (.athrow, 1) := by decide +kernel
theorem dJ3_checkIndex_8e157_16 : decode cJ3_checkIndex_8e157 16 = .ok (.iload_n 0, 1) := by decide +kernel
theorem dJ3_checkIndex_8e157_17 : decode cJ3_checkIndex_8e157 17 = .ok (.ireturn, 1) := by decide +kernel
end
section
section JAY
/-- the words that hold in every state of the run: the good ones of the tables -/
def BW : List Cond := lw_tbl.filter goodWord
theorem BW_of {w : Cond} (h : w ∈ lw_tbl) (g : goodWord w = true) : w ∈ BW := List.mem_filter.mpr ⟨h, g⟩
theorem BW_good {w : Cond} (h : w ∈ BW) : (w.onTables && w.keeps) = true ∨ ∃ ty, w = .arrayClass ty := good_of_word (List.mem_filter.mp h).2
def jws (y : MethodName) (cc : ByteArray) (nL : Nat) (ret : Option FieldType) : List Cond := .code y cc nL ret :: BW
theorem jgood {y : MethodName} {cc : ByteArray} {nL : Nat} {ret : Option FieldType} (h : Cond.code y cc nL ret ∈ BW) : GoodIn BW (jws y cc nL ret) := fun w hw => (List.mem_cons.mp hw).elim (fun e => ⟨e ▸ h, BW_good (e ▸ h)⟩) (fun h2 => ⟨h2, BW_good h2⟩)
/-- a memory: what is known at an address -/
abbrev jMem : Type := Nat → Option va_E
def jRep (D : va_G) (M : jMem) (H : Heap) : Prop := ∀ (a : Nat) (e : va_E), M a = some e → va_at D vwCl (a, e) H
def jUp (M : jMem) (a : Nat) (e : va_E) : jMem := fun q => if q = a then some e else M q
theorem jRep.up {D : va_G} {M : jMem} {H H1 : Heap} {a : Nat} {e : va_E} (h : jRep D M H) (he : va_at D vwCl (a, e) H1) (oq : ∀ q : Nat, q ≠ a → H1[q]? = H[q]?) : jRep D (jUp M a e) H1 := by
  intro q e' hq
  unfold jUp at hq
  by_cases hqa : q = a
  · subst hqa
    rw [if_pos rfl] at hq
    cases hq
    exact he
  · rw [if_neg hqa] at hq
    exact (h q e' hq).kept (oq q hqa)
theorem jRep.kept {D : va_G} {M : jMem} {H H1 : Heap} (h : jRep D M H) (oq : ∀ q : Nat, q < H.size → H1[q]? = H[q]?) : jRep D M H1 := fun a e he => (h a e he).kept (oq a ((h a e he).lt))
theorem jRep.lt {D : va_G} {M : jMem} {H : Heap} (h : jRep D M H) {a : Nat} {e : va_E} (he : M a = some e) : a < H.size := (h a e he).lt
/-- less is known -/
def jLe (M1 M2 : jMem) : Prop := ∀ (a : Nat) (e : va_E), M1 a = some e → M2 a = some e
theorem jRep.less {D : va_G} {M1 M2 : jMem} {H : Heap} (h : jRep D M2 H) (hl : jLe M1 M2) : jRep D M1 H := fun a e he => h a e (hl a e he)
/-- the words that speak of nest mates, of casts, of arrays of references -/
def jNest : Cond → Bool
  | .methodLinkNest .. => true
  | .fieldLinkNest .. => true
  | .castable .. => true
  | .arrayOver _ => true
  | .declares _ => true
  | _ => false
def jTys (D : va_G) : List (ClassId × FieldType) := [(D.1 20, .int), (D.1 21, .char), (D.1 22, .boolean), (D.1 23, .long), (D.1 24, .array .int), (D.1 25, .object "FlagChamber$Text"), (D.1 26, .object "FlagChamber$Flag"), (D.1 27, .object "FlagChamber$Trial"), (D.1 28, .object "FlagChamber$Past"), (D.1 29, .object "java/lang/Object")]
theorem jAO_spec {A : Array Value} {U : State} {t : FieldType} (h : (Cond.arrayOver (.array t)).before A U = true) :
    ∃ comp c k, U.vm.findClass (FieldType.array t).toString = some comp ∧ (U.vm.classes.findIdx? fun x => match x.kind with | .array component _ => component == comp | _ => false) = some c ∧ U.vm.classes[c]? = some k ∧ k.kind = .array comp (.array t) ∧
      U.vm.findClass ("[" ++ (FieldType.array t).toString) = some c := by
  unfold Cond.before at h
  simp only [Cond.holds, Cond.value, beq_iff_eq] at h
  cases hc : U.vm.findClass (FieldType.array t).toString with
  | none => simp [hc] at h
  | some comp =>
    simp only [hc, Option.bind_some, Option.bind_eq_some_iff, Option.map_eq_some_iff] at h
    obtain ⟨c, hi, k, hk, hb⟩ := h
    obtain ⟨hlt, hp, -⟩ := Array.findIdx?_eq_some_iff_getElem.mp hi
    have hkk : U.vm.classes[c] = k := (Array.getElem?_eq_some_iff.mp hk).2
    rw [hkk] at hp
    cases hkind : k.kind with
    | array component ty =>
      rw [hkind] at hb hp
      simp at hb hp
      exact ⟨comp, c, k, rfl, hi, hk, by rw [hkind, hp, hb.1], hb.2⟩
    | _ => rw [hkind] at hb; simp at hb
theorem jAO_moved {t : FieldType} {A A' : Array Value} {u U : State} (hvm : u.vm.Alike U.vm) (h : (Cond.arrayOver (.array t)).before A u = true) : (Cond.arrayOver (.array t)).before A' U = true := by
  obtain ⟨comp, c, k, h1, h2, h3, h4, h5⟩ := jAO_spec h
  obtain ⟨k', hk', he⟩ := hvm.2.2 _ _ h3
  have hi : (U.vm.classes.findIdx? fun (x : Class) => match x.kind with | .array component _ => component == comp | _ => false) = some c := by
    have e1 := va_idx_bare U.vm comp
    have e2 := va_idx_bare u.vm comp
    first | rw [hvm.bare_eq] at e1 | rw [← hvm.bare_eq] at e1
    exact e1.symm.trans (e2.trans h2)
  have hkind : k'.kind = .array comp (.array t) := by rw [he]; exact h4
  have f1 : U.vm.findClass (FieldType.array t).toString = some comp := by rw [hvm.findClass]; exact h1
  have f2 : U.vm.findClass ("[" ++ (FieldType.array t).toString) = some c := by rw [hvm.findClass]; exact h5
  unfold Cond.before Cond.holds
  simp only [Cond.value]
  rw [f1, Option.bind_some]
  refine (congrArg (fun o : Option Nat => (o.bind (fun c => (U.vm.classes[c]?).map fun (k : Class) => match k.kind with | .array _ ty => decide (ty = FieldType.array t) && decide (U.vm.findClass ("[" ++ (FieldType.array t).toString) = some c) | _ => false) == some true)) hi).trans ?_
  simp [hk', hkind, f2]
theorem jNest_moved {w : Cond} {s U : State} (hn : jNest w = true) (hW : s.WarmedH U.vm) (h : w.before #[] s = true) : w.before #[] U = true := by
  cases w with
  | methodLinkNest a i x h9 => exact va_Nw.warmM hW h
  | fieldLinkNest a i b n d h9 => exact va_Nw.warmF hW h
  | castable C T => exact va_Nw.warmC hW h
  | declares x => exact va_Nw.warmD hW h
  | arrayOver t =>
    cases t with
    | object C => exact va_AO.moved hW.alike h
    | array t => exact jAO_moved hW.alike h
    | _ => exact absurd h (by unfold Cond.before Cond.holds; simp [Cond.value])
  | _ => exact nomatch (show false = true from hn)
/-- what is known of the machine's tables and statics, in every state of the run -/
def jK (D : va_G) (B t0 : Nat) (U : State) : Prop :=
  va_K D vwCl (jTys D) U ∧ (∀ w ∈ tables_1, jNest w = true → w.before #[] U = true) ∧ (∀ own k tx, Cond.stringRef own k tx ∈ tables_1 → ∃ a, vk_R own k tx a U) ∧
  vx_Zq Bundle.tN "UNASSIGNED_STACK" Bundle.steD (fun q => B ≤ q) U U.heap ∧ vx_Zq Bundle.tN "SUPPRESSED_SENTINEL" Bundle.listD (fun q => B ≤ q) U U.heap ∧
  va_Z "java/util/ArrayList" "DEFAULTCAPACITY_EMPTY_ELEMENTDATA" "[Ljava/lang/Object;" (.ref t0) (fun q => B ≤ q) U U.heap ∧ B ≤ U.heap.size
theorem jK.moved {D : va_G} {B t0 : Nat} {s U : State} (h : jK D B t0 s) (hW : s.WarmedH U.vm) (hz : s.heap.size ≤ U.heap.size) (hq : ∀ a : Nat, a < s.heap.size → ¬ B ≤ a → U.heap[a]? = s.heap[a]?) : jK D B t0 U := by
  obtain ⟨h1, h2, h3, h4, h5, h6, h7⟩ := h
  exact ⟨h1.moved hW.alike, fun w hw hn => jNest_moved hn hW (h2 w hw hn), fun own k tx hw => (h3 own k tx hw).imp fun a ha => ha.warm hW,
    vx_Zq.kept (vx_Zq.moved hW.alike h4) hq, vx_Zq.kept (vx_Zq.moved hW.alike h5) hq, va_Z.kept (va_Z.moved hW.alike h6) hq, Nat.le_trans h7 hz⟩
end JAY
end
section
section JRU
/-- a walk's surroundings: program, launch, environment, state at the start, method, arguments, frames below, method, code; class numbers, base, the empty list's array -/
abbrev jCx : Type := Program × Launch × Env × State × MethodId × Array Value × List Frame × Method × Code × va_G × Nat × Nat
abbrev kP (κ : jCx) : Program := κ.1
abbrev kL (κ : jCx) : Launch := κ.2.1
abbrev kE (κ : jCx) : Env := κ.2.2.1
abbrev kS (κ : jCx) : State := κ.2.2.2.1
abbrev kM (κ : jCx) : MethodId := κ.2.2.2.2.1
abbrev kA (κ : jCx) : Array Value := κ.2.2.2.2.2.1
abbrev kF (κ : jCx) : List Frame := κ.2.2.2.2.2.2.1
abbrev kMe (κ : jCx) : Method := κ.2.2.2.2.2.2.2.1
abbrev kC (κ : jCx) : Code := κ.2.2.2.2.2.2.2.2.1
abbrev kD (κ : jCx) : va_G := κ.2.2.2.2.2.2.2.2.2.1
abbrev kB (κ : jCx) : Nat := κ.2.2.2.2.2.2.2.2.2.2.1
abbrev kT (κ : jCx) : Nat := κ.2.2.2.2.2.2.2.2.2.2.2
def jX (κ : jCx) (own : String) (cc : ByteArray) (nL : Nat) (ret : Option FieldType) : Prop :=
  (kP κ).tables.exec = Jvm.exec ∧ (kC κ).code = cc ∧ (kC κ).maxLocals = nL ∧ (kMe κ).sig.returnType = ret ∧ (kS κ).vm.findClass own = some (kM κ).cls ∧ (∀ w ∈ BW, w.before (kA κ) (kS κ) = true) ∧ (kMe κ).locks = false ∧ (kL κ).stackTraces = false ∧ jK (kD κ) (kB κ) (kT κ) (kS κ)
/-- the judgement: where the computation o answers r, the machine goes from here to what r owes -/
def J (κ : jCx) (nL : Nat) (R : Room) {ρ : Type} (Qf : ρ → State → Prop) (o : Option ρ) (M : jMem) (z : Nat → Prop) (bc bs : Nat) (lv : List (Nat × Value)) (pc : Nat) (st : List Value) : Prop :=
  ∀ r, o = some r → ∀ (H : Heap) (locs : List Loc) (cells slots : Nat) (ls : Array Slot), jRep (kD κ) M H → z H.size → va_S (fun q => kB κ ≤ q) (kS κ).heap H locs → cells + bc ≤ R.cells → slots + bs ≤ R.slots → lv_has ls nL lv →
    W (kP κ) (kL κ) (kE κ) R (kS κ) (kM κ) (kA κ) (kF κ) (kMe κ) (kC κ) H locs cells slots (Qf r) (F0 (kM κ) pc ls st)
def jIn (D : va_G) (B t0 : Nat) (M : jMem) (z : Nat → Prop) : State → Prop := fun U => jRep D M U.heap ∧ z U.heap.size ∧ jK D B t0 U
def jQ (D : va_G) (B : Nat) (tg : Nat) (v : Option Value) (PM : jMem → Nat → Prop) : Array Value → State → Outcome → State → Prop := fun _ st o t =>
  tg = 0 ∧ o = .returned v ∧ (∃ M', PM M' t.heap.size ∧ jRep D M' t.heap) ∧ va_F (fun q => B ≤ q) st t
def jE : Nat → String
  | 1 => "java/lang/IllegalArgumentException"
  | 2 => "java/lang/IllegalStateException"
  | _ => "java/lang/IndexOutOfBoundsException"
def jXC (D : va_G) (B : Nat) (tg : Nat) (PM : jMem → Nat → Prop) : String → State → State → Prop := fun E st t =>
  tg ≠ 0 ∧ E = jE tg ∧ (∃ M', PM M' t.heap.size ∧ jRep D M' t.heap) ∧ va_F (fun q => B ≤ q) st t
/-- a method's contract: from the memory M, the size by z, these arguments: the answer v (tg = 0) or the throw of jE tg, the memory by PM -/
def jC (l : Launch) (D : va_G) (B t0 : Nat) (y : MethodName) (cc : ByteArray) (nL : Nat) (ret : Option FieldType) (R : Room) (av : List Value) (M : jMem) (z : Nat → Prop) (tg : Nat) (v : Option Value) (PM : jMem → Nat → Prop) : Prop :=
  vx_Met l y (jws y cc nL ret) R (va_Pc av (jIn D B t0 M z)) (jQ D B tg v PM) (jXC D B tg PM) R.cells R.slots (fun q => B ≤ q)
/-- what a computation's answers are: 0 and the value, or the number of an exception; the state behind -/
abbrev jR (σ : Type) : Type := Nat × Int32 × σ
def jQf (κ : jCx) (R : Room) {σ : Type} (rv : Int32 → Option Value) (PM : σ → jMem → Prop) (z : Nat → Prop) : jR σ → State → Prop := fun r =>
  vx_MQ (kF κ) (jQ (kD κ) (kB κ) r.1 (rv r.2.1) (fun M n => PM r.2.2 M ∧ z n)) (jXC (kD κ) (kB κ) r.1 (fun M _ => PM r.2.2 M)) (kA κ) (kS κ) R.cells R.slots (fun q => kB κ ≤ q)
/-- the contract of a computation -/
def jCf (l : Launch) (D : va_G) (B t0 : Nat) (y : MethodName) (cc : ByteArray) (nL : Nat) (ret : Option FieldType) (R : Room) (av : List Value) (M : jMem) (z : Nat → Prop) {σ : Type} (o : Option (jR σ)) (rv : Int32 → Option Value) (PM : σ → jMem → Prop) (z' : Nat → Prop) : Prop :=
  ∀ r, o = some r → vx_Met l y (jws y cc nL ret) R (va_Pc av (jIn D B t0 M z)) (jQ D B r.1 (rv r.2.1) (fun M n => PM r.2.2 M ∧ z' n)) (jXC D B r.1 (fun M _ => PM r.2.2 M)) R.cells R.slots (fun q => B ≤ q)
def rvI : Int32 → Option Value := fun v => some (.int v)
def rvV : Int32 → Option Value := fun _ => none
theorem jC_of {l : Launch} {D : va_G} {B t0 : Nat} {y : MethodName} {cc : ByteArray} {nL : Nat} {ret : Option FieldType} {R : Room} {av : List Value} {M : jMem} {z z' : Nat → Prop} {σ : Type} {o : Option (jR σ)} {rv : Int32 → Option Value} {PM : σ → jMem → Prop} (hl : l.stackTraces = false) (hcode : Cond.code y cc nL ret ∈ BW) (lv0 : List (Nat × Value))
    (hy : plainName y.cls = true ∧ (lg_sl av).length ≤ nL) (hlv : lv_args 0 av = lv0)
    (body : ∀ κ : jCx, kL κ = l → kD κ = D → kB κ = B → kT κ = t0 → jX κ y.cls cc nL ret → (∀ x ∈ (kC κ).exceptionTable.toList, False) → (y.name = "<init>" → (kMe κ).name = "<init>") → J κ nL R (jQf κ R rv PM z') o M z R.cells R.slots lv0 0 []) :
    jCf l D B t0 y cc nL ret R av M z o rv PM z' := by
  intro r ho
  refine vx_ofW (ws' := BW) (cc := cc) (maxL := nL) (ret := ret) hy.1 rfl ?_
  intro p e s m args below meth c s₁ Bd hml htab hv
  obtain ⟨rfl, hM, hz, hK⟩ := hv
  have hts := atoms_spec (ws := jws y cc nL ret) Bd.pre
  have hown : s.vm.findClass y.cls = some m.cls := findClass_of_methodNamed Bd.named
  have hnm : meth.name = y.name := (name_of_methodNamed Bd.named Bd.method).1
  have hj := body ⟨p, l, e, s, m, av.toArray, below, meth, c, D, B, t0⟩ rfl rfl rfl rfl ⟨Bd.exec, Bd.bytes, hml, Bd.returns, hown, fun w hw => hts w (List.mem_cons_of_mem _ hw), Bd.notSynchronized, hl, hK⟩ htab (fun e9 => hnm.trans e9) r ho
  have hlv0 := lv_entry av hy.2
  rw [lg_entry_eq]
  exact hj s.heap [] 0 0 _ hM hz va_S.rf (by simp) (by simp) (hlv ▸ hlv0)
end JRU
end
section
section JIN
variable {κ : jCx} {own : String} {cc : ByteArray} {nL : Nat} {ret : Option FieldType} {R : Room} {ρ : Type} {Qf : ρ → State → Prop} {o : Option ρ} {M : jMem} {z : Nat → Prop} {bc bs : Nat} {lv : List (Nat × Value)} {pc : Nat} {st : List Value}
theorem jX.hts (X : jX κ own cc nL ret) : ∀ w ∈ BW, w.before (kA κ) (kS κ) = true := X.2.2.2.2.2.1
theorem jX.ow (X : jX κ own cc nL ret) : (kS κ).vm.findClass own = some (kM κ).cls := X.2.2.2.2.1
theorem jX.k (X : jX κ own cc nL ret) : jK (kD κ) (kB κ) (kT κ) (kS κ) := X.2.2.2.2.2.2.2.2
theorem jX.K (X : jX κ own cc nL ret) : va_K (kD κ) vwCl (jTys (kD κ)) (kS κ) := X.k.1
theorem jX.nest (X : jX κ own cc nL ret) {w : Cond} (hw : w ∈ tables_1) (hn : jNest w = true) : va_Nw w (kS κ) := X.k.2.1 w hw hn

theorem j_iconst (X : jX κ own cc nL ret) {n : Int} (v : Int32) (d : decode cc pc = .ok (.iconst n, 1)) (hv : Int32.ofInt n = v) (k : J κ nL R Qf o M z bc bs lv (pc + 1) (.int v :: st)) : J κ nL R Qf o M z bc bs lv pc st := fun r ho H locs cells slots ls h1 h2 h3 h4 h5 h6 => lv_iconst X.1 X.2.1 d hv (k r ho H locs cells slots ls h1 h2 h3 h4 h5 h6)
theorem j_bipush (X : jX κ own cc nL ret) {n : Int} (v : Int32) (d : decode cc pc = .ok (.bipush n, 2)) (hv : (Int8.ofInt n).toInt32 = v) (k : J κ nL R Qf o M z bc bs lv (pc + 2) (.int v :: st)) : J κ nL R Qf o M z bc bs lv pc st := fun r ho H locs cells slots ls h1 h2 h3 h4 h5 h6 => lv_bipush X.1 X.2.1 d hv (k r ho H locs cells slots ls h1 h2 h3 h4 h5 h6)
theorem j_sipush (X : jX κ own cc nL ret) {n : Int} (v : Int32) (d : decode cc pc = .ok (.sipush n, 3)) (hv : (Int16.ofInt n).toInt32 = v) (k : J κ nL R Qf o M z bc bs lv (pc + 3) (.int v :: st)) : J κ nL R Qf o M z bc bs lv pc st := fun r ho H locs cells slots ls h1 h2 h3 h4 h5 h6 => lv_sipush X.1 X.2.1 d hv (k r ho H locs cells slots ls h1 h2 h3 h4 h5 h6)
theorem j_lconst (X : jX κ own cc nL ret) {n : Fin 2} (v : Int64) (d : decode cc pc = .ok (.lconst n, 1)) (hv : Int64.ofNat (n : Nat) = v) (k : J κ nL R Qf o M z bc bs lv (pc + 1) (.long v :: st)) : J κ nL R Qf o M z bc bs lv pc st := fun r ho H locs cells slots ls h1 h2 h3 h4 h5 h6 => lv_lconst X.1 X.2.1 d hv (k r ho H locs cells slots ls h1 h2 h3 h4 h5 h6)
theorem j_ldc (X : jX κ own cc nL ret) {i : Nat} {v : Int32} (hw : Cond.constant own i v ∈ BW) (d : decode cc pc = .ok (.ldc i, 2)) (k : J κ nL R Qf o M z bc bs lv (pc + 2) (.int v :: st)) : J κ nL R Qf o M z bc bs lv pc st := fun r ho H locs cells slots ls h1 h2 h3 h4 h5 h6 => lv_ldc X.1 X.2.1 X.ow (X.hts _ hw) d (k r ho H locs cells slots ls h1 h2 h3 h4 h5 h6)
theorem j_ldcw (X : jX κ own cc nL ret) {i : Nat} {v : Int32} (hw : Cond.constant own i v ∈ BW) (d : decode cc pc = .ok (.ldc_w i, 3)) (k : J κ nL R Qf o M z bc bs lv (pc + 3) (.int v :: st)) : J κ nL R Qf o M z bc bs lv pc st := fun r ho H locs cells slots ls h1 h2 h3 h4 h5 h6 => lv_ldcw X.1 X.2.1 X.ow (X.hts _ hw) d (k r ho H locs cells slots ls h1 h2 h3 h4 h5 h6)
theorem j_iload_n (X : jX κ own cc nL ret) (q : Nat) {kk : Fin 4} {i : Nat} {x : Int32} (hk : lv[q]? = some (i, .int x)) (d : decode cc pc = .ok (.iload_n kk, 1)) (hi : (kk : Nat) = i) (k : J κ nL R Qf o M z bc bs lv (pc + 1) (.int x :: st)) : J κ nL R Qf o M z bc bs lv pc st := fun r ho H locs cells slots ls h1 h2 h3 h4 h5 h6 => lv_iload_n X.1 X.2.1 d hi (lv_at h6 q hk) (k r ho H locs cells slots ls h1 h2 h3 h4 h5 h6)
theorem j_iload (X : jX κ own cc nL ret) (q : Nat) {i : Nat} {x : Int32} (hk : lv[q]? = some (i, .int x)) (d : decode cc pc = .ok (.iload i, 2)) (k : J κ nL R Qf o M z bc bs lv (pc + 2) (.int x :: st)) : J κ nL R Qf o M z bc bs lv pc st := fun r ho H locs cells slots ls h1 h2 h3 h4 h5 h6 => lv_iload X.1 X.2.1 d (lv_at h6 q hk) (k r ho H locs cells slots ls h1 h2 h3 h4 h5 h6)
theorem j_aload_n (X : jX κ own cc nL ret) (q : Nat) {kk : Fin 4} {i : Nat} {x : Nat} (hk : lv[q]? = some (i, .ref x)) (d : decode cc pc = .ok (.aload_n kk, 1)) (hi : (kk : Nat) = i) (k : J κ nL R Qf o M z bc bs lv (pc + 1) (.ref x :: st)) : J κ nL R Qf o M z bc bs lv pc st := fun r ho H locs cells slots ls h1 h2 h3 h4 h5 h6 => lv_aload_n X.1 X.2.1 d hi (lv_at h6 q hk) (k r ho H locs cells slots ls h1 h2 h3 h4 h5 h6)
theorem j_aload (X : jX κ own cc nL ret) (q : Nat) {i : Nat} {x : Nat} (hk : lv[q]? = some (i, .ref x)) (d : decode cc pc = .ok (.aload i, 2)) (k : J κ nL R Qf o M z bc bs lv (pc + 2) (.ref x :: st)) : J κ nL R Qf o M z bc bs lv pc st := fun r ho H locs cells slots ls h1 h2 h3 h4 h5 h6 => lv_aload X.1 X.2.1 d (lv_at h6 q hk) (k r ho H locs cells slots ls h1 h2 h3 h4 h5 h6)
theorem j_istore_n (X : jX κ own cc nL ret) (lv1 : List (Nat × Value)) {kk : Fin 4} {i : Nat} {x : Int32} (d : decode cc pc = .ok (.istore_n kk, 1)) (hi : (kk : Nat) = i) (hn : i < nL) (hl : (i, Value.int x) :: lv.filter (fun q => !(q.1 == i) && !(q.1 + 1 == i && q.2.category == 2)) = lv1) (k : J κ nL R Qf o M z bc bs lv1 (pc + 1) st) : J κ nL R Qf o M z bc bs lv pc (.int x :: st) := fun r ho H locs cells slots ls h1 h2 h3 h4 h5 h6 => lv_istore_n X.1 X.2.1 d hi h6 hn hl (fun ls h6 => k r ho H locs cells slots ls h1 h2 h3 h4 h5 h6)
theorem j_istore (X : jX κ own cc nL ret) (lv1 : List (Nat × Value)) {i : Nat} {x : Int32} (d : decode cc pc = .ok (.istore i, 2)) (hn : i < nL) (hl : (i, Value.int x) :: lv.filter (fun q => !(q.1 == i) && !(q.1 + 1 == i && q.2.category == 2)) = lv1) (k : J κ nL R Qf o M z bc bs lv1 (pc + 2) st) : J κ nL R Qf o M z bc bs lv pc (.int x :: st) := fun r ho H locs cells slots ls h1 h2 h3 h4 h5 h6 => lv_istore X.1 X.2.1 d h6 hn hl (fun ls h6 => k r ho H locs cells slots ls h1 h2 h3 h4 h5 h6)
theorem j_astore_n (X : jX κ own cc nL ret) (lv1 : List (Nat × Value)) {kk : Fin 4} {i : Nat} {x : Nat} (d : decode cc pc = .ok (.astore_n kk, 1)) (hi : (kk : Nat) = i) (hn : i < nL) (hl : (i, Value.ref x) :: lv.filter (fun q => !(q.1 == i) && !(q.1 + 1 == i && q.2.category == 2)) = lv1) (k : J κ nL R Qf o M z bc bs lv1 (pc + 1) st) : J κ nL R Qf o M z bc bs lv pc (.ref x :: st) := fun r ho H locs cells slots ls h1 h2 h3 h4 h5 h6 => lv_astore_n X.1 X.2.1 d hi h6 hn hl (fun ls h6 => k r ho H locs cells slots ls h1 h2 h3 h4 h5 h6)
theorem j_astore (X : jX κ own cc nL ret) (lv1 : List (Nat × Value)) {i : Nat} {x : Nat} (d : decode cc pc = .ok (.astore i, 2)) (hn : i < nL) (hl : (i, Value.ref x) :: lv.filter (fun q => !(q.1 == i) && !(q.1 + 1 == i && q.2.category == 2)) = lv1) (k : J κ nL R Qf o M z bc bs lv1 (pc + 2) st) : J κ nL R Qf o M z bc bs lv pc (.ref x :: st) := fun r ho H locs cells slots ls h1 h2 h3 h4 h5 h6 => lv_astore X.1 X.2.1 d h6 hn hl (fun ls h6 => k r ho H locs cells slots ls h1 h2 h3 h4 h5 h6)
theorem j_iinc (X : jX κ own cc nL ret) (q : Nat) (lv1 : List (Nat × Value)) {i : Nat} {n : Int} {x v : Int32} (d : decode cc pc = .ok (.iinc i n, 3)) (hk : lv[q]? = some (i, .int x)) (hv : x + Int32.ofInt n = v) (hn : i < nL) (hl : (i, Value.int v) :: lv.filter (fun q => !(q.1 == i) && !(q.1 + 1 == i && q.2.category == 2)) = lv1) (k : J κ nL R Qf o M z bc bs lv1 (pc + 3) st) : J κ nL R Qf o M z bc bs lv pc st := fun r ho H locs cells slots ls h1 h2 h3 h4 h5 h6 => lv_iinc X.1 X.2.1 d h6 hk hv hn hl (fun ls h6 => k r ho H locs cells slots ls h1 h2 h3 h4 h5 h6)
theorem j_iadd (X : jX κ own cc nL ret) {x y : Int32} (d : decode cc pc = .ok (.iadd, 1)) (k : J κ nL R Qf o M z bc bs lv (pc + 1) (.int (x + y) :: st)) : J κ nL R Qf o M z bc bs lv pc (.int y :: .int x :: st) := fun r ho H locs cells slots ls h1 h2 h3 h4 h5 h6 => lv_iadd X.1 X.2.1 d (k r ho H locs cells slots ls h1 h2 h3 h4 h5 h6)
theorem j_isub (X : jX κ own cc nL ret) {x y : Int32} (d : decode cc pc = .ok (.isub, 1)) (k : J κ nL R Qf o M z bc bs lv (pc + 1) (.int (x - y) :: st)) : J κ nL R Qf o M z bc bs lv pc (.int y :: .int x :: st) := fun r ho H locs cells slots ls h1 h2 h3 h4 h5 h6 => lv_isub X.1 X.2.1 d (k r ho H locs cells slots ls h1 h2 h3 h4 h5 h6)
theorem j_imul (X : jX κ own cc nL ret) {x y : Int32} (d : decode cc pc = .ok (.imul, 1)) (k : J κ nL R Qf o M z bc bs lv (pc + 1) (.int (x * y) :: st)) : J κ nL R Qf o M z bc bs lv pc (.int y :: .int x :: st) := fun r ho H locs cells slots ls h1 h2 h3 h4 h5 h6 => lv_imul X.1 X.2.1 d (k r ho H locs cells slots ls h1 h2 h3 h4 h5 h6)
theorem j_iand (X : jX κ own cc nL ret) {x y : Int32} (d : decode cc pc = .ok (.iand, 1)) (k : J κ nL R Qf o M z bc bs lv (pc + 1) (.int (x &&& y) :: st)) : J κ nL R Qf o M z bc bs lv pc (.int y :: .int x :: st) := fun r ho H locs cells slots ls h1 h2 h3 h4 h5 h6 => lv_iand X.1 X.2.1 d (k r ho H locs cells slots ls h1 h2 h3 h4 h5 h6)
theorem j_ior (X : jX κ own cc nL ret) {x y : Int32} (d : decode cc pc = .ok (.ior, 1)) (k : J κ nL R Qf o M z bc bs lv (pc + 1) (.int (x ||| y) :: st)) : J κ nL R Qf o M z bc bs lv pc (.int y :: .int x :: st) := fun r ho H locs cells slots ls h1 h2 h3 h4 h5 h6 => lv_ior X.1 X.2.1 d (k r ho H locs cells slots ls h1 h2 h3 h4 h5 h6)
theorem j_ixor (X : jX κ own cc nL ret) {x y : Int32} (d : decode cc pc = .ok (.ixor, 1)) (k : J κ nL R Qf o M z bc bs lv (pc + 1) (.int (x ^^^ y) :: st)) : J κ nL R Qf o M z bc bs lv pc (.int y :: .int x :: st) := fun r ho H locs cells slots ls h1 h2 h3 h4 h5 h6 => lv_ixor X.1 X.2.1 d (k r ho H locs cells slots ls h1 h2 h3 h4 h5 h6)
theorem j_ishl (X : jX κ own cc nL ret) {x y : Int32} (d : decode cc pc = .ok (.ishl, 1)) (k : J κ nL R Qf o M z bc bs lv (pc + 1) (.int (x <<< (y &&& 31)) :: st)) : J κ nL R Qf o M z bc bs lv pc (.int y :: .int x :: st) := fun r ho H locs cells slots ls h1 h2 h3 h4 h5 h6 => lv_ishl X.1 X.2.1 d (k r ho H locs cells slots ls h1 h2 h3 h4 h5 h6)
theorem j_ishr (X : jX κ own cc nL ret) {x y : Int32} (d : decode cc pc = .ok (.ishr, 1)) (k : J κ nL R Qf o M z bc bs lv (pc + 1) (.int (x >>> (y &&& 31)) :: st)) : J κ nL R Qf o M z bc bs lv pc (.int y :: .int x :: st) := fun r ho H locs cells slots ls h1 h2 h3 h4 h5 h6 => lv_ishr X.1 X.2.1 d (k r ho H locs cells slots ls h1 h2 h3 h4 h5 h6)
theorem j_idiv (X : jX κ own cc nL ret) {x y : Int32} (hne : ¬ y = 0) (d : decode cc pc = .ok (.idiv, 1)) (k : J κ nL R Qf o M z bc bs lv (pc + 1) (.int (x / y) :: st)) : J κ nL R Qf o M z bc bs lv pc (.int y :: .int x :: st) := fun r ho H locs cells slots ls h1 h2 h3 h4 h5 h6 => lv_idiv X.1 X.2.1 d hne (k r ho H locs cells slots ls h1 h2 h3 h4 h5 h6)
theorem j_irem (X : jX κ own cc nL ret) {x y : Int32} (hne : ¬ y = 0) (d : decode cc pc = .ok (.irem, 1)) (k : J κ nL R Qf o M z bc bs lv (pc + 1) (.int (x - x / y * y) :: st)) : J κ nL R Qf o M z bc bs lv pc (.int y :: .int x :: st) := fun r ho H locs cells slots ls h1 h2 h3 h4 h5 h6 => lv_irem X.1 X.2.1 d hne (k r ho H locs cells slots ls h1 h2 h3 h4 h5 h6)
theorem j_i2l (X : jX κ own cc nL ret) {x : Int32} (d : decode cc pc = .ok (.i2l, 1)) (k : J κ nL R Qf o M z bc bs lv (pc + 1) (.long x.toInt64 :: st)) : J κ nL R Qf o M z bc bs lv pc (.int x :: st) := fun r ho H locs cells slots ls h1 h2 h3 h4 h5 h6 => lv_i2l X.1 X.2.1 d rfl (k r ho H locs cells slots ls h1 h2 h3 h4 h5 h6)
theorem j_i2c (X : jX κ own cc nL ret) {x : Int32} (d : decode cc pc = .ok (.i2c, 1)) (k : J κ nL R Qf o M z bc bs lv (pc + 1) (.int (x.toUInt32 % 65536).toInt32 :: st)) : J κ nL R Qf o M z bc bs lv pc (.int x :: st) := fun r ho H locs cells slots ls h1 h2 h3 h4 h5 h6 => lv_i2c X.1 X.2.1 d rfl (k r ho H locs cells slots ls h1 h2 h3 h4 h5 h6)
theorem j_lcmp (X : jX κ own cc nL ret) {x y : Int64} (d : decode cc pc = .ok (.lcmp, 1)) (k : J κ nL R Qf o M z bc bs lv (pc + 1) (.int (lg_cmp x y) :: st)) : J κ nL R Qf o M z bc bs lv pc (.long y :: .long x :: st) := fun r ho H locs cells slots ls h1 h2 h3 h4 h5 h6 => W.lcmp X.1 X.2.1 d (k r ho H locs cells slots ls h1 h2 h3 h4 h5 h6)
theorem j_dup (X : jX κ own cc nL ret) {v : Value} (d : decode cc pc = .ok (.dup, 1)) (hv : v.category = 1) (k : J κ nL R Qf o M z bc bs lv (pc + 1) (v :: v :: st)) : J κ nL R Qf o M z bc bs lv pc (v :: st) := fun r ho H locs cells slots ls h1 h2 h3 h4 h5 h6 => lv_dup X.1 X.2.1 d hv (k r ho H locs cells slots ls h1 h2 h3 h4 h5 h6)
theorem j_pop (X : jX κ own cc nL ret) {v : Value} (d : decode cc pc = .ok (.pop, 1)) (hv : v.category = 1) (k : J κ nL R Qf o M z bc bs lv (pc + 1) st) : J κ nL R Qf o M z bc bs lv pc (v :: st) := fun r ho H locs cells slots ls h1 h2 h3 h4 h5 h6 => lv_pop X.1 X.2.1 d hv (k r ho H locs cells slots ls h1 h2 h3 h4 h5 h6)
theorem j_dup2 (X : jX κ own cc nL ret) {v w : Value} (d : decode cc pc = .ok (.dup2, 1)) (hv : v.category = 1) (hw : w.category = 1) (k : J κ nL R Qf o M z bc bs lv (pc + 1) (v :: w :: v :: w :: st)) : J κ nL R Qf o M z bc bs lv pc (v :: w :: st) := fun r ho H locs cells slots ls h1 h2 h3 h4 h5 h6 => lv_dup2_11 X.1 X.2.1 d hv hw (k r ho H locs cells slots ls h1 h2 h3 h4 h5 h6)
theorem j_goto (X : jX κ own cc nL ret) {off : Int} (tgt : Nat) (d : decode cc pc = .ok (.goto off, 3)) (ht : (pc : Int) + off = (tgt : Int)) (k : J κ nL R Qf o M z bc bs lv tgt st) : J κ nL R Qf o M z bc bs lv pc st := fun r ho H locs cells slots ls h1 h2 h3 h4 h5 h6 => lv_goto X.1 X.2.1 d ht (k r ho H locs cells slots ls h1 h2 h3 h4 h5 h6)
theorem j_icmp_eq (X : jX κ own cc nL ret) {x y : Int32} {oa ob : Option ρ} {off : Int} (tgt : Nat) (d : decode cc pc = .ok (.if_icmp .eq off, 3)) (ht : (pc : Int) + off = (tgt : Int)) (a : J κ nL R Qf oa M z bc bs lv tgt st) (b : J κ nL R Qf ob M z bc bs lv (pc + 3) st) : J κ nL R Qf (if x = y then oa else ob) M z bc bs lv pc (.int y :: .int x :: st) := fun r ho H locs cells slots ls h1 h2 h3 h4 h5 h6 => lv_icmp_eq X.1 X.2.1 d ht (fun c9 => a r (by rw [if_pos c9] at ho; exact ho) H locs cells slots ls h1 h2 h3 h4 h5 h6) (fun c9 => b r (by rw [if_neg c9] at ho; exact ho) H locs cells slots ls h1 h2 h3 h4 h5 h6)
theorem j_icmp_ne (X : jX κ own cc nL ret) {x y : Int32} {oa ob : Option ρ} {off : Int} (tgt : Nat) (d : decode cc pc = .ok (.if_icmp .ne off, 3)) (ht : (pc : Int) + off = (tgt : Int)) (a : J κ nL R Qf oa M z bc bs lv (pc + 3) st) (b : J κ nL R Qf ob M z bc bs lv tgt st) : J κ nL R Qf (if x = y then oa else ob) M z bc bs lv pc (.int y :: .int x :: st) := fun r ho H locs cells slots ls h1 h2 h3 h4 h5 h6 => lv_icmp_ne X.1 X.2.1 d ht (fun c9 => b r (by rw [if_neg c9] at ho; exact ho) H locs cells slots ls h1 h2 h3 h4 h5 h6) (fun c9 => a r (by rw [if_pos c9] at ho; exact ho) H locs cells slots ls h1 h2 h3 h4 h5 h6)
theorem j_icmp_lt (X : jX κ own cc nL ret) {x y : Int32} {oa ob : Option ρ} {off : Int} (tgt : Nat) (d : decode cc pc = .ok (.if_icmp .lt off, 3)) (ht : (pc : Int) + off = (tgt : Int)) (a : J κ nL R Qf oa M z bc bs lv tgt st) (b : J κ nL R Qf ob M z bc bs lv (pc + 3) st) : J κ nL R Qf (if x < y then oa else ob) M z bc bs lv pc (.int y :: .int x :: st) := fun r ho H locs cells slots ls h1 h2 h3 h4 h5 h6 => lv_icmp_lt X.1 X.2.1 d ht (fun c9 => a r (by rw [if_pos c9] at ho; exact ho) H locs cells slots ls h1 h2 h3 h4 h5 h6) (fun c9 => b r (by rw [if_neg c9] at ho; exact ho) H locs cells slots ls h1 h2 h3 h4 h5 h6)
theorem j_icmp_ge (X : jX κ own cc nL ret) {x y : Int32} {oa ob : Option ρ} {off : Int} (tgt : Nat) (d : decode cc pc = .ok (.if_icmp .ge off, 3)) (ht : (pc : Int) + off = (tgt : Int)) (a : J κ nL R Qf oa M z bc bs lv tgt st) (b : J κ nL R Qf ob M z bc bs lv (pc + 3) st) : J κ nL R Qf (if y ≤ x then oa else ob) M z bc bs lv pc (.int y :: .int x :: st) := fun r ho H locs cells slots ls h1 h2 h3 h4 h5 h6 => lv_icmp_ge X.1 X.2.1 d ht (fun c9 => a r (by rw [if_pos c9] at ho; exact ho) H locs cells slots ls h1 h2 h3 h4 h5 h6) (fun c9 => b r (by rw [if_neg c9] at ho; exact ho) H locs cells slots ls h1 h2 h3 h4 h5 h6)
theorem j_icmp_gt (X : jX κ own cc nL ret) {x y : Int32} {oa ob : Option ρ} {off : Int} (tgt : Nat) (d : decode cc pc = .ok (.if_icmp .gt off, 3)) (ht : (pc : Int) + off = (tgt : Int)) (a : J κ nL R Qf oa M z bc bs lv tgt st) (b : J κ nL R Qf ob M z bc bs lv (pc + 3) st) : J κ nL R Qf (if y < x then oa else ob) M z bc bs lv pc (.int y :: .int x :: st) := fun r ho H locs cells slots ls h1 h2 h3 h4 h5 h6 => lv_icmp_gt X.1 X.2.1 d ht (fun c9 => a r (by rw [if_pos c9] at ho; exact ho) H locs cells slots ls h1 h2 h3 h4 h5 h6) (fun c9 => b r (by rw [if_neg c9] at ho; exact ho) H locs cells slots ls h1 h2 h3 h4 h5 h6)
theorem j_icmp_le (X : jX κ own cc nL ret) {x y : Int32} {oa ob : Option ρ} {off : Int} (tgt : Nat) (d : decode cc pc = .ok (.if_icmp .le off, 3)) (ht : (pc : Int) + off = (tgt : Int)) (a : J κ nL R Qf oa M z bc bs lv tgt st) (b : J κ nL R Qf ob M z bc bs lv (pc + 3) st) : J κ nL R Qf (if x ≤ y then oa else ob) M z bc bs lv pc (.int y :: .int x :: st) := fun r ho H locs cells slots ls h1 h2 h3 h4 h5 h6 => lv_icmp_le X.1 X.2.1 d ht (fun c9 => a r (by rw [if_pos c9] at ho; exact ho) H locs cells slots ls h1 h2 h3 h4 h5 h6) (fun c9 => b r (by rw [if_neg c9] at ho; exact ho) H locs cells slots ls h1 h2 h3 h4 h5 h6)
theorem j_if_eq (X : jX κ own cc nL ret) {x : Int32} {oa ob : Option ρ} {off : Int} (tgt : Nat) (d : decode cc pc = .ok (.ifCond .eq off, 3)) (ht : (pc : Int) + off = (tgt : Int)) (a : J κ nL R Qf oa M z bc bs lv tgt st) (b : J κ nL R Qf ob M z bc bs lv (pc + 3) st) : J κ nL R Qf (if x = 0 then oa else ob) M z bc bs lv pc (.int x :: st) := fun r ho H locs cells slots ls h1 h2 h3 h4 h5 h6 => lv_if_eq X.1 X.2.1 d ht (fun c9 => a r (by rw [if_pos c9] at ho; exact ho) H locs cells slots ls h1 h2 h3 h4 h5 h6) (fun c9 => b r (by rw [if_neg c9] at ho; exact ho) H locs cells slots ls h1 h2 h3 h4 h5 h6)
theorem j_if_ne (X : jX κ own cc nL ret) {x : Int32} {oa ob : Option ρ} {off : Int} (tgt : Nat) (d : decode cc pc = .ok (.ifCond .ne off, 3)) (ht : (pc : Int) + off = (tgt : Int)) (a : J κ nL R Qf oa M z bc bs lv (pc + 3) st) (b : J κ nL R Qf ob M z bc bs lv tgt st) : J κ nL R Qf (if x = 0 then oa else ob) M z bc bs lv pc (.int x :: st) := fun r ho H locs cells slots ls h1 h2 h3 h4 h5 h6 => lv_if_ne X.1 X.2.1 d ht (fun c9 => b r (by rw [if_neg c9] at ho; exact ho) H locs cells slots ls h1 h2 h3 h4 h5 h6) (fun c9 => a r (by rw [if_pos c9] at ho; exact ho) H locs cells slots ls h1 h2 h3 h4 h5 h6)
theorem j_if_lt (X : jX κ own cc nL ret) {x : Int32} {oa ob : Option ρ} {off : Int} (tgt : Nat) (d : decode cc pc = .ok (.ifCond .lt off, 3)) (ht : (pc : Int) + off = (tgt : Int)) (a : J κ nL R Qf oa M z bc bs lv tgt st) (b : J κ nL R Qf ob M z bc bs lv (pc + 3) st) : J κ nL R Qf (if x < 0 then oa else ob) M z bc bs lv pc (.int x :: st) := fun r ho H locs cells slots ls h1 h2 h3 h4 h5 h6 => lv_if_lt X.1 X.2.1 d ht (fun c9 => a r (by rw [if_pos c9] at ho; exact ho) H locs cells slots ls h1 h2 h3 h4 h5 h6) (fun c9 => b r (by rw [if_neg c9] at ho; exact ho) H locs cells slots ls h1 h2 h3 h4 h5 h6)
theorem j_if_ge (X : jX κ own cc nL ret) {x : Int32} {oa ob : Option ρ} {off : Int} (tgt : Nat) (d : decode cc pc = .ok (.ifCond .ge off, 3)) (ht : (pc : Int) + off = (tgt : Int)) (a : J κ nL R Qf oa M z bc bs lv tgt st) (b : J κ nL R Qf ob M z bc bs lv (pc + 3) st) : J κ nL R Qf (if 0 ≤ x then oa else ob) M z bc bs lv pc (.int x :: st) := fun r ho H locs cells slots ls h1 h2 h3 h4 h5 h6 => lv_if_ge X.1 X.2.1 d ht (fun c9 => a r (by rw [if_pos c9] at ho; exact ho) H locs cells slots ls h1 h2 h3 h4 h5 h6) (fun c9 => b r (by rw [if_neg c9] at ho; exact ho) H locs cells slots ls h1 h2 h3 h4 h5 h6)
theorem j_if_gt (X : jX κ own cc nL ret) {x : Int32} {oa ob : Option ρ} {off : Int} (tgt : Nat) (d : decode cc pc = .ok (.ifCond .gt off, 3)) (ht : (pc : Int) + off = (tgt : Int)) (a : J κ nL R Qf oa M z bc bs lv tgt st) (b : J κ nL R Qf ob M z bc bs lv (pc + 3) st) : J κ nL R Qf (if 0 < x then oa else ob) M z bc bs lv pc (.int x :: st) := fun r ho H locs cells slots ls h1 h2 h3 h4 h5 h6 => lv_if_gt X.1 X.2.1 d ht (fun c9 => a r (by rw [if_pos c9] at ho; exact ho) H locs cells slots ls h1 h2 h3 h4 h5 h6) (fun c9 => b r (by rw [if_neg c9] at ho; exact ho) H locs cells slots ls h1 h2 h3 h4 h5 h6)
theorem j_if_le (X : jX κ own cc nL ret) {x : Int32} {oa ob : Option ρ} {off : Int} (tgt : Nat) (d : decode cc pc = .ok (.ifCond .le off, 3)) (ht : (pc : Int) + off = (tgt : Int)) (a : J κ nL R Qf oa M z bc bs lv tgt st) (b : J κ nL R Qf ob M z bc bs lv (pc + 3) st) : J κ nL R Qf (if x ≤ 0 then oa else ob) M z bc bs lv pc (.int x :: st) := fun r ho H locs cells slots ls h1 h2 h3 h4 h5 h6 => lv_if_le X.1 X.2.1 d ht (fun c9 => a r (by rw [if_pos c9] at ho; exact ho) H locs cells slots ls h1 h2 h3 h4 h5 h6) (fun c9 => b r (by rw [if_neg c9] at ho; exact ho) H locs cells slots ls h1 h2 h3 h4 h5 h6)
/-- a condition of the computation's own -/
def chk {α : Type} (b : Bool) (o : Option α) : Option α := if b = true then o else none
def inb (i : Int32) (n : Nat) : Bool := !decide (i < 0) && decide (i.toNatClampNeg < n)
theorem inb_in {i : Int32} {n : Nat} (h : inb i n = true) : vp_in i n := by
  unfold inb at h
  simp only [Bool.and_eq_true, Bool.not_eq_true', decide_eq_false_iff_not, decide_eq_true_eq] at h
  exact fun q => q.elim h.1 (fun q => Nat.not_le.mpr h.2 q)
theorem inb_lt {i : Int32} {n : Nat} (h : inb i n = true) : i.toNatClampNeg < n := by
  unfold inb at h
  simp only [Bool.and_eq_true, Bool.not_eq_true', decide_eq_false_iff_not, decide_eq_true_eq] at h
  exact h.2
theorem j_chk {b : Bool} (k : b = true → J κ nL R Qf o M z bc bs lv pc st) : J κ nL R Qf (chk b o) M z bc bs lv pc st := fun r ho => by
  unfold chk at ho
  by_cases h : b = true
  · rw [if_pos h] at ho
    exact k h r ho
  · rw [if_neg h] at ho
    cases ho
theorem j_ite {c : Prop} [Decidable c] {oa ob : Option ρ} (a : c → J κ nL R Qf oa M z bc bs lv pc st) (b : ¬ c → J κ nL R Qf ob M z bc bs lv pc st) : J κ nL R Qf (if c then oa else ob) M z bc bs lv pc st := fun r ho => by
  by_cases h : c
  · rw [if_pos h] at ho
    exact a h r ho
  · rw [if_neg h] at ho
    exact b h r ho
/-- a name for a value -/
def letE {α β : Type} (x : α) (f : α → β) : β := f x
theorem j_none : J κ nL R Qf none M z bc bs lv pc st := fun r ho => nomatch ho
theorem j_eq {o1 : Option ρ} (h : o = o1) (k : J κ nL R Qf o1 M z bc bs lv pc st) : J κ nL R Qf o M z bc bs lv pc st := h ▸ k
theorem j_st {st1 : List Value} (h : st = st1) (k : J κ nL R Qf o M z bc bs lv pc st1) : J κ nL R Qf o M z bc bs lv pc st := h ▸ k
theorem j_mem {M1 : jMem} (h : jLe M1 M) (k : J κ nL R Qf o M1 z bc bs lv pc st) : J κ nL R Qf o M z bc bs lv pc st := fun r ho H locs cells slots ls h1 => k r ho H locs cells slots ls (h1.less h)
theorem j_lv {lv1 : List (Nat × Value)} (ks : List Nat) (h : lv_pick lv ks = lv1) (k : J κ nL R Qf o M z bc bs lv1 pc st) : J κ nL R Qf o M z bc bs lv pc st := fun r ho H locs cells slots ls h1 h2 h3 h4 h5 h6 => k r ho H locs cells slots ls h1 h2 h3 h4 h5 (lv_sub h6 ks h)
theorem j_bud {bc1 bs1 : Nat} (h1 : bc1 ≤ bc) (h2 : bs1 ≤ bs) (k : J κ nL R Qf o M z bc1 bs1 lv pc st) : J κ nL R Qf o M z bc bs lv pc st := fun r ho H locs cells slots ls g1 g2 g3 g4 g5 g6 => k r ho H locs cells slots ls g1 g2 g3 (by omega) (by omega) g6
/-- a loop of the computation: n turns at most -/
def loopK {σ : Type} {β : Type} (F : (σ → Option β) → σ → Option β) : Nat → σ → Option β
  | 0, _ => none
  | n + 1, s => F (loopK F n) s
theorem j_loop {σ : Type} {F : (σ → Option ρ) → σ → Option ρ} {Mf : σ → jMem} {lf : σ → List (Nat × Value)} (h : ∀ rec : σ → Option ρ, (∀ x, J κ nL R Qf (rec x) (Mf x) z bc bs (lf x) pc st) → ∀ x, J κ nL R Qf (F rec x) (Mf x) z bc bs (lf x) pc st) : ∀ (n : Nat) (x : σ), J κ nL R Qf (loopK F n x) (Mf x) z bc bs (lf x) pc st := by
  intro n
  induction n with
  | zero => exact fun x r ho => nomatch ho
  | succ n ih => exact fun x => h _ ih x
/-- a place where ways meet -/
def joinK {σ : Type} {β : Type} (K : σ → Option β) (body : (σ → Option β) → Option β) : Option β := body K
theorem j_join {σ : Type} {K : σ → Option ρ} {body : (σ → Option ρ) → Option ρ} (Pj : (σ → Option ρ) → Prop) (hK : Pj K) (h : ∀ k, Pj k → J κ nL R Qf (body k) M z bc bs lv pc st) : J κ nL R Qf (joinK K body) M z bc bs lv pc st := h K hK
end JIN
end
section
section JME
variable {κ : jCx} {own : String} {cc : ByteArray} {nL : Nat} {ret : Option FieldType} {R : Room} {ρ : Type} {Qf : ρ → State → Prop} {o : Option ρ} {M : jMem} {z : Nat → Prop} {bc bs : Nat} {lv : List (Nat × Value)} {pc : Nat} {st : List Value}
/-- a class of the tables, by its number -/
def jCl (ci : Nat) (C : String) (T : u_T) (N : Nat) (ty : Nat → FieldType) : Prop :=
  vwCl[ci]? = some (C, T, N) ∧ (∀ w ∈ u_ws C T N, w ∈ BW) ∧ (∀ k, k < N → parseFieldDescriptor (T k).2.2.1 = some (ty k)) ∧ (∀ a, a < N → ∀ b, b < N → a ≠ b → (T a).2.1 ≠ (T b).2.1)
theorem jRep.one {D : va_G} {H : Heap} {a : Nat} {e : va_E} (h : jRep D M H) (he : M a = some e) : va_P D vwCl [(a, e)] H := fun k q hk => by
  match k, hk with
  | 0, hk => cases hk; exact h a e he
  | k + 1, hk => simp at hk
theorem j_getf (X : jX κ own cc nL ret) {ci : Nat} (k : Nat) {fs : List Value} {C : String} {T : u_T} {N idx : Nat} {ty : Nat → FieldType} {v : Value} {a : Nat} (hcl : jCl ci C T N ty) (hk : k < N) (hl : Cond.fieldLink own idx (T k).1 (T k).2.1 (T k).2.2.1 ∈ BW) (d : decode cc pc = .ok (.getfield idx, 3)) (hM : M a = some (.inr (ci, fs))) (hv : fs[k]? = some v)
    (kk : J κ nL R Qf o M z bc bs lv (pc + 3) (v :: st)) : J κ nL R Qf o M z bc bs lv pc (.ref a :: st) := fun r ho H locs cells slots ls h1 h2 h3 h4 h5 h6 =>
  va_get X.1 X.2.1 X.hts hcl.2.1 X.ow X.K (h1.one hM) 0 rfl hcl.1 k hk (X.hts _ hl) (fun _ h => h) hv d (kk r ho H locs cells slots ls h1 h2 h3 h4 h5 h6)
theorem j_getN (X : jX κ own cc nL ret) {ci : Nat} (k : Nat) {fs : List Value} {C host : String} {T : u_T} {N idx : Nat} {ty : Nat → FieldType} {v : Value} {a : Nat} (hcl : jCl ci C T N ty) (hk : k < N) (hl : Cond.fieldLinkNest own idx (T k).1 (T k).2.1 (T k).2.2.1 host ∈ tables_1) (d : decode cc pc = .ok (.getfield idx, 3)) (hM : M a = some (.inr (ci, fs))) (hv : fs[k]? = some v)
    (kk : J κ nL R Qf o M z bc bs lv (pc + 3) (v :: st)) : J κ nL R Qf o M z bc bs lv pc (.ref a :: st) := fun r ho H locs cells slots ls h1 h2 h3 h4 h5 h6 =>
  va_getN X.1 X.2.1 X.hts hcl.2.1 X.ow X.K (h1.one hM) 0 rfl hcl.1 k hk (va_Nw.use rfl (X.nest hl rfl)) (fun _ h => h) hv d (kk r ho H locs cells slots ls h1 h2 h3 h4 h5 h6)
theorem j_put0 {H H' : Heap} {ci k : Nat} {fs : List Value} {C : String} {T : u_T} {N : Nat} {ty : Nat → FieldType} {a : Nat} {v : Value} (X : jX κ own cc nL ret) (hcl : jCl ci C T N ty) (hk : k < N) (hlen : k < fs.length) {cell : Cell} (h1 : jRep (kD κ) M H) (hS : ∀ j, j < N → cell.slots[(kD κ).2 ci j]? = some (vp_V fs j)) (q2 : cell.cls = (kD κ).1 ci) (q3 : cell.vm = .none)
    (e1 : H'[a]? = some (cell.setSlot ((kD κ).2 ci k) v)) (e3 : ∀ q : Nat, q ≠ a → H'[q]? = H[q]?) : jRep (kD κ) (jUp M a (.inr (ci, fs.set k v))) H' := by
  have hap := va_apart (own := own) X.hts hcl.2.1 ty hcl.2.2.1 hcl.2.2.2 X.K hcl.1
  exact h1.up ⟨_, hcl.1, t_OB.to (V := updV (vp_V fs) k v) ⟨_, e1, q2, q3, t_set hS hap hk v⟩ (fun j _ => vp_updV_set hlen v j)⟩ e3
theorem j_putf (X : jX κ own cc nL ret) {ci : Nat} (k : Nat) {fs : List Value} {C : String} {T : u_T} {N idx : Nat} {ty : Nat → FieldType} {v : Value} {a : Nat} (hcl : jCl ci C T N ty) (hk : k < N) (hl : Cond.fieldLink own idx (T k).1 (T k).2.1 (T k).2.2.1 ∈ BW) (d : decode cc pc = .ok (.putfield idx, 3)) (hfin : (T k).2.2.2 = false) (hn : narrow (ty k) v = v) (hfit : fits (ty k) v = true) (hB : kB κ ≤ a) (hM : M a = some (.inr (ci, fs))) (hlen : k < fs.length)
    (kk : J κ nL R Qf o (jUp M a (.inr (ci, fs.set k v))) z bc bs lv (pc + 3) st) : J κ nL R Qf o M z bc bs lv pc (v :: .ref a :: st) := fun r ho H locs cells slots ls h1 h2 h3 h4 h5 h6 => by
  obtain ⟨r', h9, cell, q1, q2, q3, q4⟩ := h1 a _ hM
  have hr : r' = (C, T, N) := Option.some.inj (h9.symm.trans hcl.1)
  subst hr
  obtain ⟨hS, hfc, kC, hkC, hkind⟩ := X.K.1 ci _ hcl.1
  obtain ⟨cf, kf, fi, f, hi, hsl⟩ := hS k hk
  have hlay := X.hts _ (hcl.2.1 _ (u_in_lay hk))
  unfold u_lay at hlay
  rw [if_neg (by rw [hfin]; decide)] at hlay
  have hst := (u_facts hfc hkC (u_lays X.hts hcl.2.1 hk) hi).1
  have h6' := u_store hfc hkC hkind hlay hi (hcl.2.2.1 k hk) hn hfit
  refine W.putK X.1 X.2.1 (f := f) ⟨X.ow, X.hts _ hl, ⟨_, _, _, hi⟩, hst⟩ (by rw [q2]; exact h6') q1 q3 (by rw [hsl]; exact k2_hasslot (q4 k hk)) rfl rfl d fun H' e1 e2 e3 => ?_
  rw [hsl] at e1 ⊢
  exact kk r ho H' _ cells slots ls (j_put0 X hcl hk hlen h1 q4 q2 q3 e1 e3) (by rw [e2]; exact h2) (h3.put e2 e3 hB) h4 h5 h6
theorem j_putN (X : jX κ own cc nL ret) {ci : Nat} (k : Nat) {fs : List Value} {C host : String} {T : u_T} {N idx : Nat} {ty : Nat → FieldType} {v : Value} {a : Nat} (hcl : jCl ci C T N ty) (hk : k < N) (hl : Cond.fieldLinkNest own idx (T k).1 (T k).2.1 (T k).2.2.1 host ∈ tables_1) (d : decode cc pc = .ok (.putfield idx, 3)) (hfin : (T k).2.2.2 = false) (hn : narrow (ty k) v = v) (hfit : fits (ty k) v = true) (hB : kB κ ≤ a) (hM : M a = some (.inr (ci, fs))) (hlen : k < fs.length)
    (kk : J κ nL R Qf o (jUp M a (.inr (ci, fs.set k v))) z bc bs lv (pc + 3) st) : J κ nL R Qf o M z bc bs lv pc (v :: .ref a :: st) := fun r ho H locs cells slots ls h1 h2 h3 h4 h5 h6 => by
  obtain ⟨r', h9, cell, q1, q2, q3, q4⟩ := h1 a _ hM
  have hr : r' = (C, T, N) := Option.some.inj (h9.symm.trans hcl.1)
  subst hr
  obtain ⟨hS, hfc, kC, hkC, hkind⟩ := X.K.1 ci _ hcl.1
  obtain ⟨cf, kf, fi, f, hi, hsl⟩ := hS k hk
  have hlay := X.hts _ (hcl.2.1 _ (u_in_lay hk))
  unfold u_lay at hlay
  rw [if_neg (by rw [hfin]; decide)] at hlay
  have hst := (u_facts hfc hkC (u_lays X.hts hcl.2.1 hk) hi).1
  have h6' := u_store hfc hkC hkind hlay hi (hcl.2.2.1 k hk) hn hfit
  refine va_WputK X.1 X.2.1 (f := f) X.ow (va_Nw.use rfl (X.nest hl rfl)) hi hst (by rw [q2]; exact h6') q1 q3 (by rw [hsl]; exact k2_hasslot (q4 k hk)) rfl rfl d fun H' e1 e2 e3 => ?_
  rw [hsl] at e1 ⊢
  exact kk r ho H' _ cells slots ls (j_put0 X hcl hk hlen h1 q4 q2 q3 e1 e3) (by rw [e2]; exact h2) (h3.put e2 e3 hB) h4 h5 h6
/-- a final field, in the constructor -/
theorem j_putF (X : jX κ own cc nL ret) {ci : Nat} (k : Nat) {fs : List Value} {C : String} {T : u_T} {N idx : Nat} {ty : Nat → FieldType} {v : Value} {a : Nat} (hin2 : (kMe κ).name = "<init>") (hcl : jCl ci C T N ty) (hk : k < N) (hl : Cond.fieldLink own idx (T k).1 (T k).2.1 (T k).2.2.1 ∈ BW) (d : decode cc pc = .ok (.putfield idx, 3)) (hfin : (T k).2.2.2 = true) (hdecl : (T k).1 = own) (hn : narrow (ty k) v = v) (hfit : fits (ty k) v = true) (hB : kB κ ≤ a) (hM : M a = some (.inr (ci, fs))) (hlen : k < fs.length)
    (kk : J κ nL R Qf o (jUp M a (.inr (ci, fs.set k v))) z bc bs lv (pc + 3) st) : J κ nL R Qf o M z bc bs lv pc (v :: .ref a :: st) := fun r ho H locs cells slots ls h1 h2 h3 h4 h5 h6 => by
  obtain ⟨r', h9, cell, q1, q2, q3, q4⟩ := h1 a _ hM
  have hr : r' = (C, T, N) := Option.some.inj (h9.symm.trans hcl.1)
  subst hr
  obtain ⟨hS, hfc, kC, hkC, hkind⟩ := X.K.1 ci _ hcl.1
  obtain ⟨cf, kf, fi, f, hi, hsl⟩ := hS k hk
  have hlay := X.hts _ (hcl.2.1 _ (u_in_lay hk))
  unfold u_lay at hlay
  rw [if_pos hfin] at hlay
  have hst := (u_facts hfc hkC (u_lays X.hts hcl.2.1 hk) hi).1
  have hcf : (kM κ).cls = cf := by
    obtain ⟨_, _, c', _, _, _, -, -, hf', -, -, -, hown2, -⟩ := Cond.laysFinal_spec hlay
    have e1 : c' = cf := by have := hi.symm.trans hf'; simp at this; exact this.1.symm
    rw [hdecl] at hown2
    rw [← e1]; exact Option.some.inj (X.ow.symm.trans hown2)
  have h6' := u_fits hfc hkC hkind (Or.inr hlay) hi (hcl.2.2.1 k hk) hn hfit
  refine W.putFinK X.1 X.2.1 X.ow (X.hts _ hl) hi hst hcf hin2 (by rw [q2]; exact h6') q1 q3 (by rw [hsl]; exact k2_hasslot (q4 k hk)) rfl rfl d fun H' e1 e2 e3 => ?_
  rw [hsl] at e1 ⊢
  exact kk r ho H' _ cells slots ls (j_put0 X hcl hk hlen h1 q4 q2 q3 e1 e3) (by rw [e2]; exact h2) (h3.put e2 e3 hB) h4 h5 h6
theorem jTy {D : va_G} {U : State} (h : va_K D vwCl (jTys D) U) (k : Nat) {cA : ClassId} {ty : FieldType} (hk : (jTys D)[k]? = some (cA, ty)) : ArrOfT U cA ty := (h.2 k _ hk).1
theorem j_iald (X : jX κ own cc nL ret) {n a : Nat} {f : Nat → Int32} {i : Int32} (hi : vp_in i n) (d : decode cc pc = .ok (.iaload, 1)) (hM : M a = some (.inl ((kD κ).1 20, n, .inl f)))
    (kk : J κ nL R Qf o M z bc bs lv (pc + 1) (.int (f i.toNatClampNeg) :: st)) : J κ nL R Qf o M z bc bs lv pc (.int i :: .ref a :: st) := fun r ho H locs cells slots ls h1 h2 h3 h4 h5 h6 =>
  va_iald X.1 X.2.1 X.K (h1.one hM) 0 0 rfl rfl hi d (kk r ho H locs cells slots ls h1 h2 h3 h4 h5 h6)
theorem j_cald (X : jX κ own cc nL ret) {n a : Nat} {f : Nat → Int32} {i : Int32} (hi : vp_in i n) (d : decode cc pc = .ok (.caload, 1)) (hM : M a = some (.inl ((kD κ).1 21, n, .inl f)))
    (kk : J κ nL R Qf o M z bc bs lv (pc + 1) (.int (f i.toNatClampNeg) :: st)) : J κ nL R Qf o M z bc bs lv pc (.int i :: .ref a :: st) := fun r ho H locs cells slots ls h1 h2 h3 h4 h5 h6 =>
  va_cald X.1 X.2.1 X.K (h1.one hM) 0 1 rfl rfl hi d (kk r ho H locs cells slots ls h1 h2 h3 h4 h5 h6)
theorem j_zald (X : jX κ own cc nL ret) {n a : Nat} {f : Nat → Int32} {i : Int32} (hi : vp_in i n) (d : decode cc pc = .ok (.baload, 1)) (hM : M a = some (.inl ((kD κ).1 22, n, .inl f)))
    (kk : J κ nL R Qf o M z bc bs lv (pc + 1) (.int (f i.toNatClampNeg) :: st)) : J κ nL R Qf o M z bc bs lv pc (.int i :: .ref a :: st) := fun r ho H locs cells slots ls h1 h2 h3 h4 h5 h6 =>
  va_zald X.1 X.2.1 X.K (h1.one hM) 0 2 rfl rfl hi d (kk r ho H locs cells slots ls h1 h2 h3 h4 h5 h6)
theorem j_lald (X : jX κ own cc nL ret) {n a : Nat} {f : Nat → Int64} {i : Int32} (hi : vp_in i n) (d : decode cc pc = .ok (.laload, 1)) (hM : M a = some (.inl ((kD κ).1 23, n, .inr (.inl f))))
    (kk : J κ nL R Qf o M z bc bs lv (pc + 1) (.long (f i.toNatClampNeg) :: st)) : J κ nL R Qf o M z bc bs lv pc (.int i :: .ref a :: st) := fun r ho H locs cells slots ls h1 h2 h3 h4 h5 h6 =>
  va_lald X.1 X.2.1 X.K (h1.one hM) 0 3 rfl rfl hi d (kk r ho H locs cells slots ls h1 h2 h3 h4 h5 h6)
theorem j_aald (X : jX κ own cc nL ret) (q : Nat) {n a b : Nat} {f : Nat → Option Nat} {cA : ClassId} {ty : FieldType} {i : Int32} (ht : (jTys (kD κ))[q]? = some (cA, ty)) (hr : ty.isReference = true) (hi : vp_in i n) (d : decode cc pc = .ok (.aaload, 1)) (hM : M a = some (.inl (cA, n, .inr (.inr (.inr (.inr f)))))) (hf : f i.toNatClampNeg = some b)
    (kk : J κ nL R Qf o M z bc bs lv (pc + 1) (.ref b :: st)) : J κ nL R Qf o M z bc bs lv pc (.int i :: .ref a :: st) := fun r ho H locs cells slots ls h1 h2 h3 h4 h5 h6 => by
  have hlt : i.toNatClampNeg < n := Nat.not_le.mp fun q => hi (Or.inr q)
  have hc := h1 a _ hM
  exact W.aald (v := .ref b) X.1 X.2.1 hc ((jTy X.K q ht) n (fun j => va_rf (f j))) hr (fun q => by cases q) (by show ¬ (i < 0 ∨ (arrV _ _ _).slots.size ≤ _); rw [arrV_size]; exact hi) (by show (arrV _ _ _).slots[_]? = _; rw [arrV_read _ _ hlt, hf]; rfl) rfl rfl d (kk r ho H locs cells slots ls h1 h2 h3 h4 h5 h6)
theorem j_iast (X : jX κ own cc nL ret) {n a : Nat} {f : Nat → Int32} {i x : Int32} (hi : vp_in i n) (d : decode cc pc = .ok (.iastore, 1)) (hB : kB κ ≤ a) (hM : M a = some (.inl ((kD κ).1 20, n, .inl f)))
    (kk : J κ nL R Qf o (jUp M a (.inl ((kD κ).1 20, n, .inl (upd f i.toNatClampNeg x)))) z bc bs lv (pc + 1) st) : J κ nL R Qf o M z bc bs lv pc (.int x :: .int i :: .ref a :: st) := fun r ho H locs cells slots ls h1 h2 h3 h4 h5 h6 => by
  refine W.iast X.1 X.2.1 (h1 a _ hM) ((jTy X.K 0 rfl) n (fun j => .int (f j))) (fun q => by cases q) (by show ¬ (i < 0 ∨ (arrV _ _ _).slots.size ≤ _); rw [arrV_size]; exact hi) rfl rfl d fun H1 e z1 oq => ?_
  refine kk r ho H1 _ cells slots ls (h1.up ?_ oq) (by rw [z1]; exact h2) (h3.put z1 oq hB) h4 h5 h6
  show H1[a]? = some (vp_cell _ _)
  rw [e, vp_cell_i, vp_cell_i, arrV_store]
  congr 2
  funext q
  by_cases hq : q = i.toNatClampNeg
  · subst hq
    simp [updV, upd]
  · simp [updV, upd, hq]
theorem j_cast (X : jX κ own cc nL ret) {n a : Nat} {f : Nat → Int32} {i x : Int32} (hi : vp_in i n) (d : decode cc pc = .ok (.castore, 1)) (hB : kB κ ≤ a) (hM : M a = some (.inl ((kD κ).1 21, n, .inl f)))
    (kk : J κ nL R Qf o (jUp M a (.inl ((kD κ).1 21, n, .inl (upd f i.toNatClampNeg (vp_nar .char x))))) z bc bs lv (pc + 1) st) : J κ nL R Qf o M z bc bs lv pc (.int x :: .int i :: .ref a :: st) := fun r ho H locs cells slots ls h1 h2 h3 h4 h5 h6 => by
  refine W.cast X.1 X.2.1 (h1 a _ hM) ((jTy X.K 1 rfl) n (fun j => .int (f j))) (fun q => by cases q) (by show ¬ (i < 0 ∨ (arrV _ _ _).slots.size ≤ _); rw [arrV_size]; exact hi) rfl rfl d fun H1 e z1 oq => ?_
  refine kk r ho H1 _ cells slots ls (h1.up ?_ oq) (by rw [z1]; exact h2) (h3.put z1 oq hB) h4 h5 h6
  show H1[a]? = some (vp_cell _ _)
  rw [e, vp_cell_i, vp_cell_i, arrV_store]
  congr 2
  funext q
  by_cases hq : q = i.toNatClampNeg
  · subst hq
    simp [updV, upd, vp_nar, narrow]
  · simp [updV, upd, hq]
theorem j_zast (X : jX κ own cc nL ret) {n a : Nat} {f : Nat → Int32} {i x : Int32} (hi : vp_in i n) (d : decode cc pc = .ok (.bastore, 1)) (hB : kB κ ≤ a) (hM : M a = some (.inl ((kD κ).1 22, n, .inl f)))
    (kk : J κ nL R Qf o (jUp M a (.inl ((kD κ).1 22, n, .inl (upd f i.toNatClampNeg (vp_nar .boolean x))))) z bc bs lv (pc + 1) st) : J κ nL R Qf o M z bc bs lv pc (.int x :: .int i :: .ref a :: st) := fun r ho H locs cells slots ls h1 h2 h3 h4 h5 h6 => by
  refine W.zast X.1 X.2.1 (h1 a _ hM) ((jTy X.K 2 rfl) n (fun j => .int (f j))) (fun q => by cases q) (by show ¬ (i < 0 ∨ (arrV _ _ _).slots.size ≤ _); rw [arrV_size]; exact hi) rfl rfl d fun H1 e z1 oq => ?_
  refine kk r ho H1 _ cells slots ls (h1.up ?_ oq) (by rw [z1]; exact h2) (h3.put z1 oq hB) h4 h5 h6
  show H1[a]? = some (vp_cell _ _)
  rw [e, vp_cell_i, vp_cell_i, arrV_store]
  congr 2
  funext q
  by_cases hq : q = i.toNatClampNeg
  · subst hq
    simp [updV, upd, vp_nar, narrow]
  · simp [updV, upd, hq]
theorem j_last (X : jX κ own cc nL ret) {n a : Nat} {f : Nat → Int64} {i : Int32} {x : Int64} (hi : vp_in i n) (d : decode cc pc = .ok (.lastore, 1)) (hB : kB κ ≤ a) (hM : M a = some (.inl ((kD κ).1 23, n, .inr (.inl f))))
    (kk : J κ nL R Qf o (jUp M a (.inl ((kD κ).1 23, n, .inr (.inl (vp_updL f i.toNatClampNeg x))))) z bc bs lv (pc + 1) st) : J κ nL R Qf o M z bc bs lv pc (.long x :: .int i :: .ref a :: st) := fun r ho H locs cells slots ls h1 h2 h3 h4 h5 h6 => by
  refine W.last X.1 X.2.1 (h1 a _ hM) ((jTy X.K 3 rfl) n (fun j => .long (f j))) (fun q => by cases q) (by show ¬ (i < 0 ∨ (arrV _ _ _).slots.size ≤ _); rw [arrV_size]; exact hi) rfl rfl d fun H1 e z1 oq => ?_
  refine kk r ho H1 _ cells slots ls (h1.up ?_ oq) (by rw [z1]; exact h2) (h3.put z1 oq hB) h4 h5 h6
  show H1[a]? = some (vp_cell _ _)
  rw [e, vp_cell_l, vp_cell_l, arrV_store]
  congr 2
  funext q
  by_cases hq : q = i.toNatClampNeg
  · subst hq
    simp [updV, vp_updL]
  · simp [updV, vp_updL, hq]
theorem j_alen (X : jX κ own cc nL ret) (q : Nat) {a : Nat} {x : vp_A} {cA : ClassId} {ty : FieldType} {v : Int32} (ht : (jTys (kD κ))[q]? = some (cA, ty)) (hv : Int32.ofNat x.1 = v) (d : decode cc pc = .ok (.arraylength, 1)) (hM : M a = some (.inl (cA, x)))
    (kk : J κ nL R Qf o M z bc bs lv (pc + 1) (.int v :: st)) : J κ nL R Qf o M z bc bs lv pc (.ref a :: st) := fun r ho H locs cells slots ls h1 h2 h3 h4 h5 h6 =>
  va_alen X.1 X.2.1 X.K (h1.one hM) 0 q rfl ht hv d (kk r ho H locs cells slots ls h1 h2 h3 h4 h5 h6)
end JME
end
section
section JCA
variable {κ : jCx} {own : String} {cc : ByteArray} {nL : Nat} {ret : Option FieldType} {R : Room} {σ : Type} {PM : σ → jMem → Prop} {rv : Int32 → Option Value} {z' : Nat → Prop} {M : jMem} {z : Nat → Prop} {bc bs : Nat} {lv : List (Nat × Value)} {pc : Nat} {st : List Value}
theorem jX.rt (X : jX κ own cc nL ret) : (kMe κ).sig.returnType = ret := X.2.2.2.1
theorem jX.loc (X : jX κ own cc nL ret) : (kMe κ).locks = false := X.2.2.2.2.2.2.1
theorem jX.tr (X : jX κ own cc nL ret) : (kL κ).stackTraces = false := X.2.2.2.2.2.2.2.1
theorem jX.ml (X : jX κ own cc nL ret) : (kC κ).maxLocals = nL := X.2.2.1
theorem jX.fix (X : jX κ own cc nL ret) : CallFix (kP κ) (kM κ) (kC κ) cc nL (kS κ) (kA κ) BW own := ⟨X.1, X.2.1, X.ml, X.ow, X.hts⟩
/-! the ends -/
theorem j_iret {cc : ByteArray} (X : jX κ own cc nL (some .int)) {x : Int32} {S' : σ} (d : decode cc pc = .ok (.ireturn, 1)) (hp : PM S' M) (hz : ∀ n, z n → z' n) : J κ nL R (jQf κ R rvI PM z') (some (0, x, S')) M z bc bs lv pc [.int x] := fun r ho H locs cells slots ls h1 h2 h3 h4 h5 h6 => by
  cases ho
  exact vx_ret (W.widen (k := R.cells) (n := R.slots) (by omega) (by omega) (W.iret X.1 X.2.1 X.rt (fun t ht hW => ⟨rfl, rfl, ⟨M, ⟨hp, by rw [ht]; exact hz _ h2⟩, by rw [ht]; exact h1⟩, h3.F ht⟩) h3.2.2 d X.loc))
def isb (x : Int32) : Bool := decide (x = 0 ∨ x = 1)
theorem isb_n {x : Int32} (h : isb x = true) : narrow .boolean (.int x) = .int x := by
  rcases of_decide_eq_true h with rfl | rfl <;> rfl
theorem j_zret {cc : ByteArray} (X : jX κ own cc nL (some .boolean)) {x : Int32} {S' : σ} (d : decode cc pc = .ok (.ireturn, 1)) (hp : PM S' M) (hz : ∀ n, z n → z' n) : J κ nL R (jQf κ R rvI PM z') (chk (isb x) (some (0, x, S'))) M z bc bs lv pc [.int x] := j_chk fun hx r ho H locs cells slots ls h1 h2 h3 h4 h5 h6 => by
  cases ho
  exact vx_ret (W.widen (k := R.cells) (n := R.slots) (by omega) (by omega) (W.zret X.1 X.2.1 X.rt (isb_n hx) (fun t ht hW => ⟨rfl, rfl, ⟨M, ⟨hp, by rw [ht]; exact hz _ h2⟩, by rw [ht]; exact h1⟩, h3.F ht⟩) h3.2.2 d X.loc))
theorem j_vret {cc : ByteArray} (X : jX κ own cc nL none) {x : Int32} {S' : σ} (d : decode cc pc = .ok (.return_, 1)) (hp : PM S' M) (hz : ∀ n, z n → z' n) : J κ nL R (jQf κ R rvV PM z') (some (0, x, S')) M z bc bs lv pc [] := fun r ho H locs cells slots ls h1 h2 h3 h4 h5 h6 => by
  cases ho
  exact vx_ret (W.widen (k := R.cells) (n := R.slots) (by omega) (by omega) (W.vret X.1 X.2.1 X.rt (fun t ht hW => ⟨rfl, rfl, ⟨M, ⟨hp, by rw [ht]; exact hz _ h2⟩, by rw [ht]; exact h1⟩, h3.F ht⟩) h3.2.2 d X.loc))
/-- what a throw needs of the tables -/
def jTh (own : String) (tg ik ic : Nat) : Prop :=
  tg ≠ 0 ∧ Bundle.fit (jE tg) = true ∧ Cond.classLink own ik (jE tg) ∈ BW ∧ Cond.initialized (jE tg) ∈ BW ∧ (∀ w ∈ vx_atS own ic (jE tg) ["java/lang/RuntimeException", "java/lang/Exception"], w ∈ BW ∨ (w ∈ tables_1 ∧ jNest w = true)) ∧
  (∀ w ∈ Cond.classLink own ik (jE tg) :: Cond.initialized (jE tg) :: vx_atS own ic (jE tg) ["java/lang/RuntimeException", "java/lang/Exception"], vx_ot w = true)
theorem j_nestA {w : Cond} {A : Array Value} {U : State} (hn : jNest w = true) (h : w.before #[] U = true) : w.before A U = true := by
  cases w with
  | methodLinkNest a i x h9 => exact va_Nw.use rfl h
  | fieldLinkNest a i b n d h9 => exact va_Nw.use rfl h
  | castable C T => exact va_Nw.use rfl h
  | declares x => exact va_Nw.use rfl h
  | arrayOver t => exact h
  | _ => exact nomatch (show false = true from hn)
theorem j_throw (X : jX κ own cc nL ret) {tg ik ic is : Nat} {tx : String} {x : Int32} {S' : σ} (T : jTh own tg ik ic) (hs : Cond.stringRef own is tx ∈ tables_1) (htab : ∀ x ∈ (kC κ).exceptionTable.toList, False)
    (d0 : decode cc pc = .ok (.new ik, 3)) (d3 : decode cc (pc + 3) = .ok (.dup, 1)) (d4 : decode cc (pc + 4) = .ok (.ldc is, 2)) (d6 : decode cc (pc + 6) = .ok (.invokespecial ic, 3)) (d9 : decode cc (pc + 9) = .ok (.athrow, 1))
    (hR : 5 < R.frames ∧ 90 ≤ R.locals) (hb : 1 ≤ bc ∧ 6 ≤ bs) (hp : PM S' M) : J κ nL R (jQf κ R rv PM z') (some (tg, x, S')) M z bc bs lv pc [] := fun r ho H locs cells slots ls h1 h2 h3 h4 h5 h6 => by
  cases ho
  obtain ⟨t0, t1, t2, t3, t4, t5⟩ := T
  obtain ⟨sa, hsa⟩ := X.k.2.2.1 own is tx hs
  exact vx_throwS X.1 X.2.1 X.tr X.ow t1 (by decide +kernel) (X.hts _ t2) (X.hts _ t3) hsa (fun w hw => (t4 w hw).elim (fun h => X.hts _ h) (fun h => j_nestA h.2 (X.k.2.1 w h.1 h.2))) t5 X.k.2.2.2.1 X.k.2.2.2.2.1 h3 (by rw [X.ml]; exact h6.1)
    d0 d3 d4 d6 d9 (fun x hx => (htab x hx).elim) hR.1 (by show 0 + (13 * 3 + 43) ≤ R.locals; omega) (by omega) (by omega) X.loc
    (fun t ht hz hk => ⟨t0, rfl, ⟨M, hp, h1.kept hk⟩, Nat.le_trans h3.1 hz, fun q hq hq2 => (hk q (Nat.lt_of_lt_of_le hq h3.1)).trans (h3.2.1 q hq hq2)⟩) h3.2.2 (by omega) (by omega)
theorem j_throwW (X : jX κ own cc nL ret) {tg ik ic is : Nat} {tx : String} {x : Int32} {S' : σ} (T : jTh own tg ik ic) (hs : Cond.stringRef own is tx ∈ tables_1) (htab : ∀ x ∈ (kC κ).exceptionTable.toList, False)
    (d0 : decode cc pc = .ok (.new ik, 3)) (d3 : decode cc (pc + 3) = .ok (.dup, 1)) (d4 : decode cc (pc + 4) = .ok (.ldc_w is, 3)) (d6 : decode cc (pc + 7) = .ok (.invokespecial ic, 3)) (d9 : decode cc (pc + 10) = .ok (.athrow, 1))
    (hR : 5 < R.frames ∧ 90 ≤ R.locals) (hb : 1 ≤ bc ∧ 6 ≤ bs) (hp : PM S' M) : J κ nL R (jQf κ R rv PM z') (some (tg, x, S')) M z bc bs lv pc [] := fun r ho H locs cells slots ls h1 h2 h3 h4 h5 h6 => by
  cases ho
  obtain ⟨t0, t1, t2, t3, t4, t5⟩ := T
  obtain ⟨sa, hsa⟩ := X.k.2.2.1 own is tx hs
  exact vx_throwSW X.1 X.2.1 X.tr X.ow t1 (by decide +kernel) (X.hts _ t2) (X.hts _ t3) hsa (fun w hw => (t4 w hw).elim (fun h => X.hts _ h) (fun h => j_nestA h.2 (X.k.2.1 w h.1 h.2))) t5 X.k.2.2.2.1 X.k.2.2.2.2.1 h3 (by rw [X.ml]; exact h6.1)
    d0 d3 d4 d6 d9 (fun x hx => (htab x hx).elim) hR.1 (by show 0 + (13 * 3 + 43) ≤ R.locals; omega) (by omega) (by omega) X.loc
    (fun t ht hz hk => ⟨t0, rfl, ⟨M, hp, h1.kept hk⟩, Nat.le_trans h3.1 hz, fun q hq hq2 => (hk q (Nat.lt_of_lt_of_le hq h3.1)).trans (h3.2.1 q hq hq2)⟩) h3.2.2 (by omega) (by omega)
/-! the calls -/
/-- a computation behind a call's -/
def jbind {α β : Type} (o : Option (jR α)) (k : Int32 → α → Option (jR β)) (kt : Nat → α → Option (jR β)) : Option (jR β) :=
  match o with
  | none => none
  | some (0, v, S) => k v S
  | some (t + 1, _, S) => kt (t + 1) S
theorem jIn_blind {av : List Value} {D : va_G} {B t0 : Nat} {M : jMem} {z : Nat → Prop} : FrameBlind (va_Pc av (jIn D B t0 M z)) := fun _ U _ _ h => ⟨h.1, h.2.1, h.2.2.1, h.2.2.2.moved (State.WarmedH.refl U) (Nat.le_refl _) (fun _ _ _ => rfl)⟩
theorem j_pre {av : List Value} (X : jX κ own cc nL ret) {H : Heap} {locs : List Loc} (h1 : jRep (kD κ) M H) (h2 : z H.size) (h3 : va_S (fun q => kB κ ≤ q) (kS κ).heap H locs) : ∀ U : State, U.heap = H → (kS κ).WarmedH U.vm → va_Pc av (jIn (kD κ) (kB κ) (kT κ) M z) av.toArray U := fun U hU hW =>
  ⟨rfl, by rw [hU]; exact h1, by rw [hU]; exact h2, X.k.moved hW (by rw [hU]; exact h3.1) (fun a ha hb => by rw [hU]; exact h3.2.1 a ha hb)⟩
/-- what a call needs of the tables: the method's code, and the link -/
def jMe (y : MethodName) (c1 : ByteArray) (nL1 : Nat) (ret1 : Option FieldType) (n : Nat) : Prop :=
  Cond.code y c1 nL1 ret1 ∈ BW ∧ Cond.initialized y.cls ∈ BW ∧ (y.cls ≠ "java/lang/invoke/MethodHandle" ∧ y.cls ≠ "java/lang/invoke/VarHandle" ∧ (parseMethodDescriptor y.desc).map (fun d => d.parameters.length) = some n)
theorem j_after {H : Heap} {locs L : List Loc} {cells slots : Nat} {R1 : Room} {st₀ t : State} {σ1 : Type} {PM1 : jMem → Nat → Prop} (h3 : va_S (fun q => kB κ ≤ q) (kS κ).heap H locs) (h0 : st₀.heap = H) (hL : ∀ q ∈ L, kB κ ≤ q.base) (hF : va_F (fun q => kB κ ≤ q) st₀ t) : va_S (fun q => kB κ ≤ q) (kS κ).heap t.heap (locs ++ L) := by
  obtain ⟨f1, f2⟩ := hF
  rw [h0] at f1 f2
  refine ⟨Nat.le_trans h3.1 f1, fun q q1 q2 => (f2 q (Nat.lt_of_lt_of_le q1 h3.1) q2).trans (h3.2.1 q q1 q2), fun q hq => ?_⟩
  rcases List.mem_append.mp hq with h | h
  · exact h3.2.2 q h
  · exact hL q h
/-- the two ways behind a call that may throw -/
theorem j_run {rest : List Value} {σ1 : Type} {o1 : Option (jR σ1)} {rv1 : Int32 → Option Value} {PM1 : σ1 → jMem → Prop} {z1 : Nat → Prop} {kf : Int32 → σ1 → Option (jR σ)} {kt : Nat → σ1 → Option (jR σ)} {bc1 bs1 : Nat} {R1 : Room} {a : Array Value} (X : jX κ own cc nL ret) (htab : ∀ x ∈ (kC κ).exceptionTable.toList, False) (hb : R1.cells + bc1 ≤ bc ∧ R1.slots + bs1 ≤ bs)
    (hrun : ∀ r1, o1 = some r1 → ∀ (H : Heap) (locs : List Loc) (cells slots : Nat) (ls : Array Slot), jRep (kD κ) M H → z H.size → va_S (fun q => kB κ ≤ q) (kS κ).heap H locs → cells + bc ≤ R.cells → slots + bs ≤ R.slots → lv_has ls nL lv →
      vx_Run (kP κ) (kL κ) (kE κ) R (kS κ) (kM κ) (kA κ) (kF κ) (kMe κ) (kC κ) H locs cells slots R1.cells R1.slots (F0 (kM κ) pc ls st) rest (jQ (kD κ) (kB κ) r1.1 (rv1 r1.2.1) (fun M n => PM1 r1.2.2 M ∧ z1 n) a) (jXC (kD κ) (kB κ) r1.1 (fun M _ => PM1 r1.2.2 M)) (fun q => kB κ ≤ q))
    (kx : ∀ t S' M' r, PM1 S' M' → kt (t + 1) S' = some r → r.1 = t + 1 ∧ PM r.2.2 M')
    (kk : ∀ v S' M', PM1 S' M' → J κ nL R (jQf κ R rv PM z') (kf v S') M' z1 bc1 bs1 lv (pc + 3) ((rv1 v).toList ++ rest)) :
    J κ nL R (jQf κ R rv PM z') (jbind o1 kf kt) M z bc bs lv pc st := fun r ho H locs cells slots ls h1 h2 h3 h4 h5 h6 => by
  obtain ⟨hb1, hb2⟩ := hb
  cases ho1 : o1 with
  | none => rw [ho1] at ho; cases ho
  | some r1 =>
    obtain ⟨tg, v, S1⟩ := r1
    intro T hT Xs
    rcases hrun _ ho1 H locs cells slots ls h1 h2 h3 h4 h5 h6 T hT Xs with ⟨w, st₀, t, T', L, h0, X', hL, e1, e2, ⟨etg, ew, ⟨M', hpm, hrep⟩, hF⟩, stp⟩ | ⟨q, st₀, t, T', L, E, ce, h0, X', hL, e1, e2, ⟨etg, eE, ⟨M', hpm, hrep⟩, hF⟩, hce, hcv, hcl, stp⟩
    · dsimp only at etg ew hpm
      subst etg
      cases ew
      rw [ho1] at ho
      have h3' := j_after (σ1 := σ1) (R1 := R1) (cells := cells) (slots := slots) (PM1 := fun _ _ => True) h3 h0 hL hF
      obtain ⟨t2, a1, b1⟩ := kk v S1 M' hpm.1 r ho t.heap (locs ++ L) (cells + R1.cells) (slots + R1.slots) ls hrep hpm.2 h3' (by omega) (by omega) h6 T' e1 X'
      exact ⟨t2, stp t2 a1, b1⟩
    · dsimp only at etg eE hpm
      obtain ⟨tg', rfl⟩ : ∃ k, tg = k + 1 := ⟨tg - 1, by omega⟩
      rw [ho1] at ho
      obtain ⟨k1, k2⟩ := kx tg' S1 M' r hpm ho
      have h3' := j_after (σ1 := σ1) (R1 := R1) (cells := cells) (slots := slots) (PM1 := fun _ _ => True) h3 h0 hL hF
      have hout := vx_out (Qc := jQ (kD κ) (kB κ) r.1 (rv r.2.1) (fun M n => PM r.2.2 M ∧ z' n)) (XC := jXC (kD κ) (kB κ) r.1 (fun M _ => PM r.2.2 M)) (free := fun q => kB κ ≤ q) (mc := R.cells) (ms := R.slots) (m := kM κ) (ls := ls) (pc := pc) (rest := rest) (q := q) (p := kP κ) (l := kL κ) (e := kE κ) (R := R) (below := kF κ) (args := kA κ) (locs := locs ++ L) (cells := cells + R1.cells) (slots := slots + R1.slots) (fun x hx => (htab x hx).elim) X.loc (H := T'.heap) (by rw [e1]; exact hce) hcv hcl
        (fun u hu hvm => ⟨by rw [k1]; exact Nat.succ_ne_zero _, by rw [k1]; exact eE, ⟨M', k2, by rw [hu, e1]; exact hrep⟩, (e1 ▸ h3').F hu⟩) (e1 ▸ h3').2.2 (by omega) (by omega)
      obtain ⟨t2, a1, b1⟩ := hout T' rfl X'
      exact ⟨t2, stp.trans a1, b1⟩
/-- invokestatic, its own class -/
theorem j_callS (X : jX κ own cc nL ret) {y : MethodName} {c1 : ByteArray} {nL1 n idx : Nat} {ret1 : Option FieldType} {R1 : Room} {av rest : List Value} {σ1 : Type} {o1 : Option (jR σ1)} {rv1 : Int32 → Option Value} {PM1 : σ1 → jMem → Prop} {z1 : Nat → Prop} {kf : Int32 → σ1 → Option (jR σ)} {kt : Nat → σ1 → Option (jR σ)} (bc1 bs1 : Nat)
    (hm : jCf (kL κ) (kD κ) (kB κ) (kT κ) y c1 nL1 ret1 R1 av M z o1 rv1 PM1 z1) (hme : jMe y c1 nL1 ret1 n) (hl : Cond.methodLink own idx y ∈ BW) (hs : Cond.static y ∈ BW) (htab : ∀ x ∈ (kC κ).exceptionTable.toList, False) (d : decode cc pc = .ok (.invokestatic idx, 3)) (hst : st = av.reverse ++ rest) (hn : av.length = n)
    (hR : R1.frames + 1 ≤ R.frames ∧ 8 + (nL1 + 11) + R1.locals ≤ R.locals) (hb : R1.cells + bc1 ≤ bc ∧ R1.slots + bs1 ≤ bs) (hW : (rest.map fun v => v.category).sum ≤ 8)
    (kx : ∀ t S' M' r, PM1 S' M' → kt (t + 1) S' = some r → r.1 = t + 1 ∧ PM r.2.2 M')
    (kk : ∀ v S' M', PM1 S' M' → J κ nL R (jQf κ R rv PM z') (kf v S') M' z1 bc1 bs1 lv (pc + 3) ((rv1 v).toList ++ rest)) :
    J κ nL R (jQf κ R rv PM z') (jbind o1 kf kt) M z bc bs lv pc st := by
  refine j_run X htab hb (a := av.toArray) (fun r1 ho1 H locs cells slots ls h1 h2 h3 h4 h5 h6 => ?_) kx kk
  exact vx_runS X.fix (hm r1 ho1) ⟨callB_of n X.hts (jgood hme.1) rfl rfl rfl (X.hts _ hme.2.1) (X.hts _ hl) hme.2.2 hR, X.hts _ hs⟩ ⟨jIn_blind, j_pre X h1 h2 h3⟩ rfl hn h6.1 hst (lv_room hW) d ⟨by omega, by omega⟩
/-- invokevirtual, on a thing of the memory -/
theorem j_callV (X : jX κ own cc nL ret) {y : MethodName} {c1 : ByteArray} {nL1 n idx : Nat} {ret1 : Option FieldType} {R1 : Room} {b ci N : Nat} {T : u_T} {ty : Nat → FieldType} {fs : List Value} {av rest : List Value} {σ1 : Type} {o1 : Option (jR σ1)} {rv1 : Int32 → Option Value} {PM1 : σ1 → jMem → Prop} {z1 : Nat → Prop} {kf : Int32 → σ1 → Option (jR σ)} {kt : Nat → σ1 → Option (jR σ)} (bc1 bs1 : Nat)
    (hm : jCf (kL κ) (kD κ) (kB κ) (kT κ) y c1 nL1 ret1 R1 (.ref b :: av) M z o1 rv1 PM1 z1) (hme : jMe y c1 nL1 ret1 n) (hl : Cond.methodLink own idx y ∈ BW) (hs : Cond.instanceMethod y ∈ BW ∧ Cond.selects y.cls y y ∈ BW) (hcl : jCl ci y.cls T N ty) (htab : ∀ x ∈ (kC κ).exceptionTable.toList, False) (d : decode cc pc = .ok (.invokevirtual idx, 3)) (hM : M b = some (.inr (ci, fs))) (hst : st = av.reverse ++ .ref b :: rest) (hn : av.length = n)
    (hR : R1.frames + 1 ≤ R.frames ∧ 8 + (nL1 + 11) + R1.locals ≤ R.locals) (hb : R1.cells + bc1 ≤ bc ∧ R1.slots + bs1 ≤ bs) (hW : (rest.map fun v => v.category).sum ≤ 8)
    (kx : ∀ t S' M' r, PM1 S' M' → kt (t + 1) S' = some r → r.1 = t + 1 ∧ PM r.2.2 M')
    (kk : ∀ v S' M', PM1 S' M' → J κ nL R (jQf κ R rv PM z') (kf v S') M' z1 bc1 bs1 lv (pc + 3) ((rv1 v).toList ++ rest)) :
    J κ nL R (jQf κ R rv PM z') (jbind o1 kf kt) M z bc bs lv pc st := by
  refine j_run X htab hb (a := (Value.ref b :: av).toArray) (fun r1 ho1 H locs cells slots ls h1 h2 h3 h4 h5 h6 => ?_) kx kk
  exact vx_runV X.fix (hm r1 ho1) ⟨callB_of n X.hts (jgood hme.1) rfl rfl rfl (X.hts _ hme.2.1) (X.hts _ hl) hme.2.2 hR, X.hts _ hs.1, X.hts _ hs.2⟩ ⟨jIn_blind, va_recv X.K (h1.one hM) (q0 := 0) hcl.1 rfl, j_pre X h1 h2 h3⟩ rfl hn h6.1 hst (lv_room hW) d ⟨by omega, by omega⟩
end JCA
end
section
section JCB
variable {κ : jCx} {own : String} {cc : ByteArray} {nL : Nat} {ret : Option FieldType} {R : Room} {ρ : Type} {Qf : ρ → State → Prop} {M : jMem} {z : Nat → Prop} {bc bs : Nat} {lv : List (Nat × Value)} {pc : Nat} {st : List Value}
theorem jMet0 {l : Launch} {y : MethodName} {ws : List Cond} {rm : Room} {Pc : Array Value → State → Prop} {Qc : Array Value → State → Outcome → State → Prop} {XC : String → State → State → Prop} {mc ms : Nat} {free : Addr → Prop} (h : vx_Met l y ws rm Pc Qc XC mc ms free) (hx : ∀ E s t, ¬ XC E s t) : Met l y ws rm Pc Qc mc ms free :=
  MetFree.mono h (fun _ _ h => h) (fun _ _ _ _ _ h => h) (fun a s o t _ hq => hq.elim id (fun ⟨q, _, E, ce, L, hx', _⟩ => (hx E s t hx').elim))
/-- a computation behind a call's that never throws -/
def jbin0 {α ρ : Type} (o : Option (jR α)) (k : Int32 → α → Option ρ) : Option ρ :=
  match o with
  | some (0, v, S) => k v S
  | _ => none
theorem j_run0 {rest : List Value} {σ1 : Type} {o1 : Option (jR σ1)} {rv1 : Int32 → Option Value} {PM1 : σ1 → jMem → Prop} {z1 : Nat → Prop} {kf : Int32 → σ1 → Option ρ} {bc1 bs1 : Nat} {R1 : Room} {a : Array Value} (hb : R1.cells + bc1 ≤ bc ∧ R1.slots + bs1 ≤ bs)
    (hrun : ∀ v S1, o1 = some (0, v, S1) → ∀ (H : Heap) (locs : List Loc) (cells slots : Nat) (ls : Array Slot), jRep (kD κ) M H → z H.size → va_S (fun q => kB κ ≤ q) (kS κ).heap H locs → cells + bc ≤ R.cells → slots + bs ≤ R.slots → lv_has ls nL lv →
      va_Run (kP κ) (kL κ) (kE κ) R (kS κ) (kM κ) (kA κ) (kF κ) (kMe κ) (kC κ) H locs cells slots R1.cells R1.slots (F0 (kM κ) pc ls st) rest (jQ (kD κ) (kB κ) 0 (rv1 v) (fun M n => PM1 S1 M ∧ z1 n) a) (fun q => kB κ ≤ q))
    (kk : ∀ v S' M', PM1 S' M' → J κ nL R Qf (kf v S') M' z1 bc1 bs1 lv (pc + 3) ((rv1 v).toList ++ rest)) :
    J κ nL R Qf (jbin0 o1 kf) M z bc bs lv pc st := fun r ho H locs cells slots ls h1 h2 h3 h4 h5 h6 => by
  obtain ⟨hb1, hb2⟩ := hb
  cases ho1 : o1 with
  | none => rw [ho1] at ho; cases ho
  | some r1 =>
    obtain ⟨tg, v, S1⟩ := r1
    cases tg with
    | succ tg => rw [ho1] at ho; cases ho
    | zero =>
      intro T hT Xs
      obtain ⟨w, st₀, t, T', L, h0, X', hL, e1, e2, ⟨etg, ew, ⟨M', hpm, hrep⟩, hF⟩, stp⟩ := hrun v S1 ho1 H locs cells slots ls h1 h2 h3 h4 h5 h6 T hT Xs
      cases ew
      rw [ho1] at ho
      have h3' := j_after (σ1 := σ1) (R1 := R1) (cells := cells) (slots := slots) (PM1 := fun _ _ => True) h3 h0 hL hF
      obtain ⟨t2, a1, b1⟩ := kk v S1 M' hpm.1 r ho t.heap (locs ++ L) (cells + R1.cells) (slots + R1.slots) ls hrep hpm.2 h3' (by omega) (by omega) h6 T' e1 X'
      exact ⟨t2, stp t2 a1, b1⟩
theorem jX0 {D : va_G} {B : Nat} {PM : jMem → Nat → Prop} : ∀ E s t, ¬ jXC D B 0 PM E s t := fun _ _ _ h => h.1 rfl
section
variable {y : MethodName} {c1 : ByteArray} {nL1 n idx : Nat} {ret1 : Option FieldType} {R1 : Room} {b ci N : Nat} {T : u_T} {ty : Nat → FieldType} {fs : List Value} {av rest : List Value} {σ1 : Type} {o1 : Option (jR σ1)} {rv1 : Int32 → Option Value} {PM1 : σ1 → jMem → Prop} {z1 : Nat → Prop} {kf : Int32 → σ1 → Option ρ}
/-- invokestatic that never throws, its own class -/
theorem j_call0S (X : jX κ own cc nL ret) (bc1 bs1 : Nat)
    (hm : jCf (kL κ) (kD κ) (kB κ) (kT κ) y c1 nL1 ret1 R1 av M z o1 rv1 PM1 z1) (hme : jMe y c1 nL1 ret1 n) (hl : Cond.methodLink own idx y ∈ BW) (hs : Cond.static y ∈ BW) (d : decode cc pc = .ok (.invokestatic idx, 3)) (hst : st = av.reverse ++ rest) (hn : av.length = n)
    (hR : R1.frames + 1 ≤ R.frames ∧ 8 + (nL1 + 11) + R1.locals ≤ R.locals) (hb : R1.cells + bc1 ≤ bc ∧ R1.slots + bs1 ≤ bs) (hW : (rest.map fun v => v.category).sum ≤ 8)
    (kk : ∀ v S' M', PM1 S' M' → J κ nL R Qf (kf v S') M' z1 bc1 bs1 lv (pc + 3) ((rv1 v).toList ++ rest)) :
    J κ nL R Qf (jbin0 o1 kf) M z bc bs lv pc st := by
  refine j_run0 hb (a := av.toArray) (fun v S1 ho1 H locs cells slots ls h1 h2 h3 h4 h5 h6 => ?_) kk
  exact va_runS X.fix (jMet0 (hm _ ho1) jX0) ⟨callB_of n X.hts (jgood hme.1) rfl rfl rfl (X.hts _ hme.2.1) (X.hts _ hl) hme.2.2 hR, X.hts _ hs⟩ ⟨jIn_blind, j_pre X h1 h2 h3⟩ rfl hn h6.1 hst (lv_room hW) d ⟨by omega, by omega⟩
/-- the same, a nest mate's -/
theorem j_call0SN (X : jX κ own cc nL ret) (bc1 bs1 : Nat) {host : String}
    (hm : jCf (kL κ) (kD κ) (kB κ) (kT κ) y c1 nL1 ret1 R1 av M z o1 rv1 PM1 z1) (hme : jMe y c1 nL1 ret1 n) (hl : Cond.methodLinkNest own idx y host ∈ tables_1) (hs : Cond.static y ∈ BW) (d : decode cc pc = .ok (.invokestatic idx, 3)) (hst : st = av.reverse ++ rest) (hn : av.length = n)
    (hR : R1.frames + 1 ≤ R.frames ∧ 8 + (nL1 + 11) + R1.locals ≤ R.locals) (hb : R1.cells + bc1 ≤ bc ∧ R1.slots + bs1 ≤ bs) (hW : (rest.map fun v => v.category).sum ≤ 8)
    (kk : ∀ v S' M', PM1 S' M' → J κ nL R Qf (kf v S') M' z1 bc1 bs1 lv (pc + 3) ((rv1 v).toList ++ rest)) :
    J κ nL R Qf (jbin0 o1 kf) M z bc bs lv pc st := by
  refine j_run0 hb (a := av.toArray) (fun v S1 ho1 H locs cells slots ls h1 h2 h3 h4 h5 h6 => ?_) kk
  exact va_runSN X.fix (jMet0 (hm _ ho1) jX0) ⟨va_cnB n X.hts (jgood hme.1) rfl rfl rfl (X.nest hl rfl) (X.hts _ hme.2.1) hme.2.2 hR, X.hts _ hs, trivial⟩ ⟨jIn_blind, j_pre X h1 h2 h3⟩ rfl hn h6.1 hst (lv_room hW) d ⟨by omega, by omega⟩
/-- invokevirtual that never throws -/
theorem j_call0V (X : jX κ own cc nL ret) (bc1 bs1 : Nat)
    (hm : jCf (kL κ) (kD κ) (kB κ) (kT κ) y c1 nL1 ret1 R1 (.ref b :: av) M z o1 rv1 PM1 z1) (hme : jMe y c1 nL1 ret1 n) (hl : Cond.methodLink own idx y ∈ BW) (hs : Cond.instanceMethod y ∈ BW ∧ Cond.selects y.cls y y ∈ BW) (hcl : jCl ci y.cls T N ty) (d : decode cc pc = .ok (.invokevirtual idx, 3)) (hM : M b = some (.inr (ci, fs))) (hst : st = av.reverse ++ .ref b :: rest) (hn : av.length = n)
    (hR : R1.frames + 1 ≤ R.frames ∧ 8 + (nL1 + 11) + R1.locals ≤ R.locals) (hb : R1.cells + bc1 ≤ bc ∧ R1.slots + bs1 ≤ bs) (hW : (rest.map fun v => v.category).sum ≤ 8)
    (kk : ∀ v S' M', PM1 S' M' → J κ nL R Qf (kf v S') M' z1 bc1 bs1 lv (pc + 3) ((rv1 v).toList ++ rest)) :
    J κ nL R Qf (jbin0 o1 kf) M z bc bs lv pc st := by
  refine j_run0 hb (a := (Value.ref b :: av).toArray) (fun v S1 ho1 H locs cells slots ls h1 h2 h3 h4 h5 h6 => ?_) kk
  exact va_runV X.fix (jMet0 (hm _ ho1) jX0) ⟨callB_of n X.hts (jgood hme.1) rfl rfl rfl (X.hts _ hme.2.1) (X.hts _ hl) hme.2.2 hR, X.hts _ hs.1, X.hts _ hs.2⟩ ⟨jIn_blind, va_recv X.K (h1.one hM) (q0 := 0) hcl.1 rfl, j_pre X h1 h2 h3⟩ rfl hn h6.1 hst (lv_room hW) d ⟨by omega, by omega⟩
/-- invokespecial of a constructor -/
theorem j_call0I (X : jX κ own cc nL ret) (bc1 bs1 : Nat)
    (hm : jCf (kL κ) (kD κ) (kB κ) (kT κ) y c1 nL1 none R1 (.ref b :: av) M z o1 rvV PM1 z1) (hme : jMe y c1 nL1 none n) (hl : Cond.methodLink own idx y ∈ BW) (hs : y.name = "<init>" ∧ Cond.instanceMethod y ∈ BW) (d : decode cc pc = .ok (.invokespecial idx, 3)) (hst : st = av.reverse ++ .ref b :: rest) (hn : av.length = n)
    (hR : R1.frames + 1 ≤ R.frames ∧ 8 + (nL1 + 11) + R1.locals ≤ R.locals) (hb : R1.cells + bc1 ≤ bc ∧ R1.slots + bs1 ≤ bs) (hW : (rest.map fun v => v.category).sum ≤ 8)
    (kk : ∀ v S' M', PM1 S' M' → J κ nL R Qf (kf v S') M' z1 bc1 bs1 lv (pc + 3) rest) :
    J κ nL R Qf (jbin0 o1 kf) M z bc bs lv pc st := by
  refine j_run0 (rv1 := rvV) (rest := rest) hb (a := (Value.ref b :: av).toArray) (fun v S1 ho1 H locs cells slots ls h1 h2 h3 h4 h5 h6 => ?_) kk
  exact va_runI X.fix (jMet0 (hm _ ho1) jX0) ⟨callB_of n X.hts (jgood hme.1) rfl rfl rfl (X.hts _ hme.2.1) (X.hts _ hl) hme.2.2 hR, hs.1, X.hts _ hs.2⟩ ⟨jIn_blind, j_pre X h1 h2 h3⟩ rfl hn h6.1 hst (lv_room hW) d ⟨by omega, by omega⟩
/-- the same, a nest mate's -/
theorem j_call0IN (X : jX κ own cc nL ret) (bc1 bs1 : Nat) {host : String}
    (hm : jCf (kL κ) (kD κ) (kB κ) (kT κ) y c1 nL1 none R1 (.ref b :: av) M z o1 rvV PM1 z1) (hme : jMe y c1 nL1 none n) (hl : Cond.methodLinkNest own idx y host ∈ tables_1) (hs : y.name = "<init>" ∧ Cond.instanceMethod y ∈ BW) (d : decode cc pc = .ok (.invokespecial idx, 3)) (hst : st = av.reverse ++ .ref b :: rest) (hn : av.length = n)
    (hR : R1.frames + 1 ≤ R.frames ∧ 8 + (nL1 + 11) + R1.locals ≤ R.locals) (hb : R1.cells + bc1 ≤ bc ∧ R1.slots + bs1 ≤ bs) (hW : (rest.map fun v => v.category).sum ≤ 8)
    (kk : ∀ v S' M', PM1 S' M' → J κ nL R Qf (kf v S') M' z1 bc1 bs1 lv (pc + 3) rest) :
    J κ nL R Qf (jbin0 o1 kf) M z bc bs lv pc st := by
  refine j_run0 (rv1 := rvV) (rest := rest) hb (a := (Value.ref b :: av).toArray) (fun v S1 ho1 H locs cells slots ls h1 h2 h3 h4 h5 h6 => ?_) kk
  exact va_runIN X.fix (jMet0 (hm _ ho1) jX0) ⟨va_cnB n X.hts (jgood hme.1) rfl rfl rfl (X.nest hl rfl) (X.hts _ hme.2.1) hme.2.2 hR, hs.1, X.hts _ hs.2⟩ ⟨jIn_blind, j_pre X h1 h2 h3⟩ rfl hn h6.1 hst (lv_room hW) d ⟨by omega, by omega⟩
end
/-- Object's constructor -/
theorem j_objInit {o : Option ρ} (X : jX κ own cc nL ret) {idx a : Nat} (hl : Cond.methodLink own idx objectInit ∈ BW) (hi : Cond.instanceMethod objectInit ∈ BW) (hc : Cond.code objectInit ⟨#[0xb1]⟩ 1 none ∈ BW) (d : decode cc pc = .ok (.invokespecial idx, 3)) (hR : 1 ≤ R.frames ∧ (st.map fun v => v.category).sum + 12 ≤ R.locals)
    (k : J κ nL R Qf o M z bc bs lv (pc + 3) st) : J κ nL R Qf o M z bc bs lv pc (.ref a :: st) := fun r ho H locs cells slots ls h1 h2 h3 h4 h5 h6 =>
  W.objInit X.1 X.2.1 X.ow (X.hts _ hl) (X.hts _ hi) (X.hts _ hc) rfl (by rw [X.ml]; exact h6.1) rfl d hR.1 (by show 2 * 0 + (st.map fun v => v.category).sum + 12 ≤ R.locals; omega) (W.eq rfl (k r ho H locs cells slots ls h1 h2 h3 h4 h5 h6))
/-- Math.max -/
theorem j_mmax {o : Option ρ} (X : jX κ own cc nL ret) {idx : Nat} {x y : Int32} (hl : Cond.methodLink own idx Lib.Math.max.name ∈ BW) (hs : Cond.static Lib.Math.max.name ∈ BW) (hi : Cond.initialized "java/lang/Math" ∈ BW) (hc : Cond.code Lib.Math.max.name Lib.Math.max.code 2 (some .int) ∈ BW) (d : decode cc pc = .ok (.invokestatic idx, 3)) (hR : 1 ≤ R.frames ∧ (st.map fun v => v.category).sum + 13 ≤ R.locals)
    (k : J κ nL R Qf o M z bc bs lv (pc + 3) (.int (if x < y then y else x) :: st)) : J κ nL R Qf o M z bc bs lv pc (.int y :: .int x :: st) := fun r ho H locs cells slots ls h1 h2 h3 h4 h5 h6 =>
  va_mmax X.1 X.2.1 (by rw [X.ml]; exact h6.1.symm) X.ow (X.hts _ hl) (X.hts _ hs) (X.hts _ hi) (X.hts _ hc) hR.1 hR.2 (by omega) (by omega) d (k r ho H locs cells slots ls h1 h2 h3 h4 h5 h6)
/-! making -/
theorem j_fresh {D : va_G} {M : jMem} {H H1 : Heap} {e : va_E} (h1 : jRep D M H) (ho : ∀ q, q < H.size → H1[q]? = H[q]?) (he : va_at D vwCl (H.size, e) H1) : jRep D (jUp M H.size e) H1 := by
  intro q e' hq
  unfold jUp at hq
  by_cases hqa : q = H.size
  · subst hqa
    rw [if_pos rfl] at hq
    cases hq
    exact he
  · rw [if_neg hqa] at hq
    exact (h1 q e' hq).kept (ho q (h1.lt hq))
theorem j_new {o : Option ρ} (X : jX κ own cc nL ret) {ci : Nat} {C : String} {T : u_T} {N idx h bc1 bs1 : Nat} {ty : Nat → FieldType} {fs : List Value} (hcl : jCl ci C T N ty) (hl : Cond.classLink own idx C ∈ BW) (hi : Cond.instantiable C N ∈ BW ∧ Cond.initialized C ∈ BW) (hfs : ∀ j, j < N → defaultValue (ty j) = vp_V fs j) (d : decode cc pc = .ok (.new idx, 3)) (hb : 1 + bc1 ≤ bc ∧ N + bs1 ≤ bs)
    (k : J κ nL R Qf o (jUp M h (.inr (ci, fs))) (fun n => n = h + 1) bc1 bs1 lv (pc + 3) (.ref h :: st)) : J κ nL R Qf o M (fun n => n = h) bc bs lv pc st := fun r ho H locs cells slots ls h1 h2 h3 h4 h5 h6 => by
  have hKn := X.K.1 ci _ hcl.1
  subst h2
  refine W.newcK X.1 X.2.1 X.ow (X.hts _ hl) (X.hts _ hi.1) (X.hts _ hi.2) rfl d (by omega) (by omega) hKn.2.1 rfl fun H1 kC hkC e1 z1 o1 => ?_
  exact k r ho H1 locs (cells + 1) (slots + N) ls (j_fresh h1 o1 ⟨_, hcl.1, (u_born ty X.hts hcl.2.1 hKn hkC e1 hcl.2.2.1).to hfs⟩) z1 ⟨Nat.le_trans h3.1 (by omega), fun x g1 g2 => (o1 x (Nat.lt_of_lt_of_le g1 h3.1)).trans (h3.2.1 x g1 g2), h3.2.2⟩ (by omega) (by omega) h6
/-- 'new', where the size isn't known -/
theorem j_newU {o : Option ρ} (X : jX κ own cc nL ret) {ci : Nat} {C : String} {T : u_T} {N idx bc1 bs1 : Nat} {ty : Nat → FieldType} {fs : List Value} (hcl : jCl ci C T N ty) (hl : Cond.classLink own idx C ∈ BW) (hi : Cond.instantiable C N ∈ BW ∧ Cond.initialized C ∈ BW) (hfs : ∀ j, j < N → defaultValue (ty j) = vp_V fs j) (d : decode cc pc = .ok (.new idx, 3)) (hb : 1 + bc1 ≤ bc ∧ N + bs1 ≤ bs)
    (k : ∀ h : Nat, M h = none → (∀ a e, M a = some e → a < h) → kB κ ≤ h → J κ nL R Qf o (jUp M h (.inr (ci, fs))) (fun n => n = h + 1) bc1 bs1 lv (pc + 3) (.ref h :: st)) : J κ nL R Qf o M z bc bs lv pc st := fun r ho H locs cells slots ls h1 h2 h3 h4 h5 h6 => by
  have hlt : ∀ a e, M a = some e → a < H.size := fun a e he => h1.lt he
  have hn : M H.size = none := by
    cases hM : M H.size with
    | none => rfl
    | some e => exact absurd (hlt _ _ hM) (Nat.lt_irrefl _)
  exact j_new X hcl hl hi hfs d hb (k H.size hn hlt (Nat.le_trans X.k.2.2.2.2.2.2 h3.1)) r ho H locs cells slots ls h1 rfl h3 h4 h5 h6
end JCB
end
section
section JMK
variable {κ : jCx} {own : String} {cc : ByteArray} {nL : Nat} {ret : Option FieldType} {R : Room} {ρ : Type} {Qf : ρ → State → Prop} {o : Option ρ} {M : jMem} {z : Nat → Prop} {bc bs : Nat} {lv : List (Nat × Value)} {pc : Nat} {st : List Value}
/-- the heap's size gets a name -/
theorem j_size (X : jX κ own cc nL ret) (k : ∀ h : Nat, z h → (∀ a e, M a = some e → a < h) → kB κ ≤ h → J κ nL R Qf o M (fun n => n = h) bc bs lv pc st) : J κ nL R Qf o M z bc bs lv pc st := fun r ho H locs cells slots ls h1 h2 h3 h4 h5 h6 =>
  k H.size h2 (fun _ _ he => h1.lt he) (Nat.le_trans X.k.2.2.2.2.2.2 h3.1) r ho H locs cells slots ls h1 rfl h3 h4 h5 h6
theorem j_zle {z1 : Nat → Prop} (h : ∀ n, z n → z1 n) (k : J κ nL R Qf o M z1 bc bs lv pc st) : J κ nL R Qf o M z bc bs lv pc st := fun r ho H locs cells slots ls h1 h2 => k r ho H locs cells slots ls h1 (h _ h2)
theorem j_newa0 (X : jX κ own cc nL ret) {atype : ArrayType} {ty : FieldType} {cA : ClassId} {N h bc1 bs1 : Nat} {a0 : vp_A} {n : Int32} (hty : newarray.typeOf atype = ty) (hra : (kS κ).vm.findClass ("[" ++ ty.toString) = some cA) (ha : vp_cell cA a0 = arrV cA N (fun _ => defaultValue ty)) (hn : ¬ n < 0) (hN : n.toNatClampNeg = N) (hbytes : N * componentBytes ty ≤ 536870912) (har : Cond.arrayClass ty ∈ BW) (d : decode cc pc = .ok (.newarray atype, 2)) (hb : 1 + bc1 ≤ bc ∧ N + bs1 ≤ bs)
    (k : J κ nL R Qf o (jUp M h (.inl (cA, a0))) (fun n => n = h + 1) bc1 bs1 lv (pc + 2) (.ref h :: st)) : J κ nL R Qf o M (fun n => n = h) bc bs lv pc (.int n :: st) := fun r ho H locs cells slots ls h1 h2 h3 h4 h5 h6 => by
  subst hty
  subst h2
  refine va_newaK X.1 X.2.1 (X.hts _ har) rfl d rfl hn hN hbytes (by omega) (by omega) rfl fun H1 cA1 e1 z1 o1 hAr hNm => ?_
  have hc : cA1 = cA := Option.some.inj (hNm.symm.trans hra)
  subst hc
  exact k r ho H1 locs (cells + 1) (slots + N) ls (j_fresh h1 o1 (by show H1[H.size]? = some (vp_cell _ _); rw [ha]; exact e1)) z1 ⟨Nat.le_trans h3.1 (by omega), fun x g1 g2 => (o1 x (Nat.lt_of_lt_of_le g1 h3.1)).trans (h3.2.1 x g1 g2), h3.2.2⟩ (by omega) (by omega) h6
theorem j_newI (X : jX κ own cc nL ret) {N h : Nat} (bc1 bs1 : Nat) {n : Int32} (hn : ¬ n < 0) (hN : n.toNatClampNeg = N) (hbytes : N ≤ 100000) (har : Cond.arrayClass .int ∈ BW) (d : decode cc pc = .ok (.newarray .int, 2)) (hb : 1 + bc1 ≤ bc ∧ N + bs1 ≤ bs)
    (k : J κ nL R Qf o (jUp M h (.inl ((kD κ).1 20, N, .inl (fun _ => 0)))) (fun n => n = h + 1) bc1 bs1 lv (pc + 2) (.ref h :: st)) : J κ nL R Qf o M (fun n => n = h) bc bs lv pc (.int n :: st) :=
  j_newa0 X (ty := .int) rfl (X.K.2 0 _ rfl).2 rfl hn hN (by show N * 4 ≤ _; omega) har d hb k
theorem j_newC (X : jX κ own cc nL ret) {N h : Nat} (bc1 bs1 : Nat) {n : Int32} (hn : ¬ n < 0) (hN : n.toNatClampNeg = N) (hbytes : N ≤ 100000) (har : Cond.arrayClass .char ∈ BW) (d : decode cc pc = .ok (.newarray .char, 2)) (hb : 1 + bc1 ≤ bc ∧ N + bs1 ≤ bs)
    (k : J κ nL R Qf o (jUp M h (.inl ((kD κ).1 21, N, .inl (fun _ => 0)))) (fun n => n = h + 1) bc1 bs1 lv (pc + 2) (.ref h :: st)) : J κ nL R Qf o M (fun n => n = h) bc bs lv pc (.int n :: st) :=
  j_newa0 X (ty := .char) rfl (X.K.2 1 _ rfl).2 rfl hn hN (by show N * 2 ≤ _; omega) har d hb k
theorem j_newZ (X : jX κ own cc nL ret) {N h : Nat} (bc1 bs1 : Nat) {n : Int32} (hn : ¬ n < 0) (hN : n.toNatClampNeg = N) (hbytes : N ≤ 100000) (har : Cond.arrayClass .boolean ∈ BW) (d : decode cc pc = .ok (.newarray .boolean, 2)) (hb : 1 + bc1 ≤ bc ∧ N + bs1 ≤ bs)
    (k : J κ nL R Qf o (jUp M h (.inl ((kD κ).1 22, N, .inl (fun _ => 0)))) (fun n => n = h + 1) bc1 bs1 lv (pc + 2) (.ref h :: st)) : J κ nL R Qf o M (fun n => n = h) bc bs lv pc (.int n :: st) :=
  j_newa0 X (ty := .boolean) rfl (X.K.2 2 _ rfl).2 rfl hn hN (by show N * 1 ≤ _; omega) har d hb k
theorem j_newL (X : jX κ own cc nL ret) {N h : Nat} (bc1 bs1 : Nat) {n : Int32} (hn : ¬ n < 0) (hN : n.toNatClampNeg = N) (hbytes : N ≤ 100000) (har : Cond.arrayClass .long ∈ BW) (d : decode cc pc = .ok (.newarray .long, 2)) (hb : 1 + bc1 ≤ bc ∧ N + bs1 ≤ bs)
    (k : J κ nL R Qf o (jUp M h (.inl ((kD κ).1 23, N, .inr (.inl (fun _ => 0))))) (fun n => n = h + 1) bc1 bs1 lv (pc + 2) (.ref h :: st)) : J κ nL R Qf o M (fun n => n = h) bc bs lv pc (.int n :: st) :=
  j_newa0 X (ty := .long) rfl (X.K.2 3 _ rfl).2 rfl hn hN (by show N * 8 ≤ _; omega) har d hb k
/-- anewarray -/
theorem j_anew (X : jX κ own cc nL ret) (q : Nat) {C : String} {cA0 : ClassId} {N idx h : Nat} (bc1 bs1 : Nat) {n : Int32} (ht : (jTys (kD κ))[q]? = some (cA0, .object C)) (hl : Cond.classLink own idx C ∈ BW) (hov : Cond.arrayOver (.object C) ∈ tables_1) (hn : ¬ n < 0) (hN : n.toNatClampNeg = N) (hbytes : N ≤ 100000) (d : decode cc pc = .ok (.anewarray idx, 3)) (hb : 1 + bc1 ≤ bc ∧ N + bs1 ≤ bs)
    (k : J κ nL R Qf o (jUp M h (.inl (cA0, N, .inr (.inr (.inr (.inr (fun _ => none))))))) (fun n => n = h + 1) bc1 bs1 lv (pc + 3) (.ref h :: st)) : J κ nL R Qf o M (fun n => n = h) bc bs lv pc (.int n :: st) := fun r ho H locs cells slots ls h1 h2 h3 h4 h5 h6 => by
  subst hN
  subst h2
  refine W.anew X.1 X.2.1 X.ow (X.hts _ hl) (va_AO.use (X.nest hov rfl)) rfl d rfl hn (by omega) (by omega) (by omega) fun cA kA comp f1 f2 f3 f4 => ?_
  generalize hH1 : H.push ({ cls := cA, slots := Array.replicate n.toNatClampNeg .null, vm := .none } : Cell) = H1
  have z1 : H1.size = H.size + 1 := by rw [← hH1, Array.size_push]
  have e1 : H1[H.size]? = some (arrV cA n.toNatClampNeg (fun _ => .null)) := by rw [← hH1, Array.getElem?_push_size, ← arrV_new]
  have o1 : ∀ q : Nat, q < H.size → H1[q]? = H[q]? := fun q hq => by rw [← hH1, Array.getElem?_push, if_neg (Nat.ne_of_lt hq)]
  obtain ⟨kA', comp', -, -, -, g4⟩ := (X.K.2 q _ ht).2
  have hc : cA = cA0 := Option.some.inj (f1.symm.trans g4)
  subst hc
  exact k r ho H1 locs (cells + 1) (slots + n.toNatClampNeg) ls (j_fresh h1 o1 (by show H1[H.size]? = some (vp_cell _ _); rw [vp_cell_q]; exact e1)) z1 ⟨Nat.le_trans h3.1 (by omega), fun x g1 g2 => (o1 x (Nat.lt_of_lt_of_le g1 h3.1)).trans (h3.2.1 x g1 g2), h3.2.2⟩ (by omega) (by omega) h6
/-- aastore of an object of the array's own class -/
theorem j_aast (X : jX κ own cc nL ret) (q : Nat) {a n v ci N : Nat} {C : String} {T : u_T} {ty : Nat → FieldType} {cA : ClassId} {f : Nat → Option Nat} {vs : List Value} {i : Int32} (hcl : jCl ci C T N ty) (ht : (jTys (kD κ))[q]? = some (cA, .object C)) (hi : vp_in i n) (d : decode cc pc = .ok (.aastore, 1)) (hB : kB κ ≤ a) (hM : M a = some (.inl (cA, n, .inr (.inr (.inr (.inr f)))))) (hv : M v = some (.inr (ci, vs)))
    (kk : J κ nL R Qf o (jUp M a (.inl (cA, n, .inr (.inr (.inr (.inr (va_up f i.toNatClampNeg (some v)))))))) z bc bs lv (pc + 1) st) : J κ nL R Qf o M z bc bs lv pc (.ref v :: .int i :: .ref a :: st) := fun r ho H locs cells slots ls h1 h2 h3 h4 h5 h6 => by
  have hlt : i.toNatClampNeg < n := Nat.not_le.mp fun q => hi (Or.inr q)
  have h0 : ¬ i < 0 := fun q => hi (Or.inl q)
  obtain ⟨r', hr', cellV, g1, g2, g3, -⟩ := h1 v _ hv
  have hcls := (X.K.1 ci _ hcl.1).2
  obtain ⟨kA, comp, k1, k2, k3, -⟩ := (X.K.2 q _ ht).2
  have hcomp : comp = (kD κ).1 ci := Option.some.inj (k3.symm.trans hcls.1)
  subst hcomp
  obtain ⟨kC, hkC, -⟩ := hcls.2
  refine W.aast X.1 X.2.1 (h1 a _ hM) (fun q h => by cases h) (fun h => by cases h) k1 k2 rfl hkC ⟨h0, by show _ < (arrV _ _ _).slots.size; rw [arrV_size]; exact hlt⟩ g1 (fun q h => by rw [g3] at h; cases h) (by rw [g2]; exact hkC) (by rw [g2]; exact va_assign hcls) rfl rfl d fun H1 e z1 oq => ?_
  refine kk r ho H1 _ cells slots ls (h1.up ?_ oq) (by rw [z1]; exact h2) (h3.put z1 oq hB) h4 h5 h6
  show H1[a]? = some (vp_cell _ _)
  rw [e]
  rw [vp_cell_q, vp_cell_q, arrV_store]
  congr 2
  funext q
  by_cases hq : q = i.toNatClampNeg
  · subst hq
    simp [updV, va_up, va_rf]
  · simp [updV, va_up, hq]
/-- new int[N][K]: the outer array, the rows right behind it -/
def jRows (M : jMem) (h : Nat) (N : Nat) (e : va_E) : jMem := fun q => if h ≤ q ∧ q < h + N then some e else M q
theorem j_outer (c : ClassId) (N h0 : Nat) : ∀ i : Nat, Jvm.Free.Multi.outerC c N h0 i = arrV c N (fun j => va_rf (if j < i then some (h0 + 1 + j) else none))
  | 0 => by
    show ({ cls := c, slots := Array.replicate N .null, vm := .none } : Cell) = _
    rw [arrV_new]
    refine congrArg (arrV c N) (funext fun j => ?_)
    simp [va_rf]
  | i + 1 => by
    show (Jvm.Free.Multi.outerC c N h0 i).setSlot i (.ref (h0 + 1 + i)) = _
    rw [j_outer c N h0 i, arrV_store]
    refine congrArg (arrV c N) (funext fun j => ?_)
    by_cases e : j = i
    · subst e
      simp [updV, va_rf]
    · by_cases h : j < i
      · simp [updV, e, h, Nat.lt_succ_of_lt h]
      · simp [updV, e, h, show ¬ j < i + 1 by omega]
theorem j_mna (X : jX κ own cc nL ret) {N K idx h : Nat} (bc1 bs1 : Nat) {n k : Int32} (hl : Cond.classLink own idx "[[I" ∈ BW) (hov : Cond.arrayOver (.array .int) ∈ tables_1) (har : Cond.arrayClass .int ∈ BW) (hn : ¬ n < 0) (hk : ¬ k < 0) (hN : n.toNatClampNeg = N) (hK : k.toNatClampNeg = K) (hbN : N ≤ 100000 ∧ K ≤ 100000) (d : decode cc pc = .ok (.multianewarray idx 2, 4)) (hb : 1 + N + bc1 ≤ bc ∧ N + N * K + bs1 ≤ bs)
    (kk : J κ nL R Qf o (jUp (jRows M (h + 1) N (.inl ((kD κ).1 20, K, .inl (fun _ => 0)))) h (.inl ((kD κ).1 24, N, .inr (.inr (.inr (.inr (fun i => if i < N then some (h + 1 + i) else none))))))) (fun n => n = h + 1 + N) bc1 bs1 lv (pc + 4) (.ref h :: st)) : J κ nL R Qf o M (fun n => n = h) bc bs lv pc (.int k :: .int n :: st) := fun r ho H locs cells slots ls h1 h2 h3 h4 h5 h6 => by
  subst hN
  subst hK
  subst h2
  obtain ⟨hb1, hb2⟩ := hb
  intro T hT Xs
  obtain ⟨vm₁, cA, comp, -, fA, fC, hO, -, X', step⟩ := Xs.multianewarray2F X.1 (ty := .int) X.ow (X.hts _ hl) (j_nestA rfl (X.nest hov rfl)) (X.hts _ har) (g := F0 (kM κ) pc ls (.int k :: .int n :: st)) rfl (by rw [X.2.1]; exact d) rfl hn hk (by omega) (by show _ * 4 ≤ _; omega) (by omega) rfl rfl (by omega) (by omega)
  have ecy : (kD κ).1 20 = comp := Option.some.inj ((X.K.2 0 _ rfl).2.symm.trans fC)
  have ecA : cA = (kD κ).1 24 := Option.some.inj (fA.symm.trans (X.K.2 4 _ rfl).2)
  subst ecA
  subst ecy
  generalize hF : Jvm.Free.Multi.fill (T.setVm vm₁) ((kD κ).1 24) ((kD κ).1 20) n.toNatClampNeg k.toNatClampNeg (defaultValue .int) n.toNatClampNeg = F at X' step
  have hTh : (T.setVm vm₁).heap = H := hT
  obtain ⟨f1, f2, -, -⟩ := Jvm.Free.Multi.fill_facts (T.setVm vm₁) ((kD κ).1 24) ((kD κ).1 20) n.toNatClampNeg k.toNatClampNeg (defaultValue .int) n.toNatClampNeg
  rw [hF, hTh] at f1 f2
  have hold : ∀ x : Nat, x < H.size → F.heap[x]? = H[x]? := fun x hx => by
    have := Jvm.Free.Multi.fill_old (T.setVm vm₁) ((kD κ).1 24) ((kD κ).1 20) n.toNatClampNeg k.toNatClampNeg (defaultValue .int) (a := x) (by rw [hTh]; exact hx) n.toNatClampNeg
    rw [hF, hTh] at this
    exact this
  have hrow : ∀ j : Nat, j < n.toNatClampNeg → F.heap[H.size + 1 + j]? = some (vp_cell ((kD κ).1 20) (k.toNatClampNeg, .inl (fun _ => 0))) := fun j hj => by
    have := Jvm.Free.Multi.fill_inner (T.setVm vm₁) ((kD κ).1 24) ((kD κ).1 20) n.toNatClampNeg k.toNatClampNeg (defaultValue .int) n.toNatClampNeg j hj
    rw [hF, hTh] at this
    rw [this, vp_cell_i, ← arrV_new]
    rfl
  rw [j_outer] at f2
  have hrep : jRep (kD κ) (jUp (jRows M (H.size + 1) n.toNatClampNeg (.inl ((kD κ).1 20, k.toNatClampNeg, .inl (fun _ => 0)))) H.size (.inl ((kD κ).1 24, n.toNatClampNeg, .inr (.inr (.inr (.inr (fun i => if i < n.toNatClampNeg then some (H.size + 1 + i) else none))))))) F.heap := by
    intro q e' hq
    unfold jUp at hq
    by_cases hqa : q = H.size
    · subst hqa
      rw [if_pos rfl] at hq
      cases hq
      exact f2
    · rw [if_neg hqa] at hq
      unfold jRows at hq
      by_cases hqr : H.size + 1 ≤ q ∧ q < H.size + 1 + n.toNatClampNeg
      · rw [if_pos hqr] at hq
        cases hq
        have := hrow (q - (H.size + 1)) (by omega)
        rw [show H.size + 1 + (q - (H.size + 1)) = q by omega] at this
        exact this
      · rw [if_neg hqr] at hq
        exact (h1 q e' hq).kept (hold q (h1.lt hq))
  have hTz : T.heap.size = H.size := by rw [hT]
  rw [hTz] at step
  obtain ⟨t, a1, b1⟩ := kk r ho F.heap locs (cells + 1 + n.toNatClampNeg) (slots + n.toNatClampNeg + n.toNatClampNeg * k.toNatClampNeg) ls hrep f1 ⟨Nat.le_trans h3.1 (by omega), fun x g1 g2 => (hold x (Nat.lt_of_lt_of_le g1 h3.1)).trans (h3.2.1 x g1 g2), h3.2.2⟩ (by omega) (by omega) h6 F rfl X'
  exact ⟨t, step t a1, b1⟩
end JMK
end

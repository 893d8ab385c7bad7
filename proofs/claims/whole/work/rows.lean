section
-- ===== PART A: goes FIRST, ahead of the names: the tables' words, and 'selects' of the private methods out of them =====
/-- a private method of a class that the tables say can be made, by its rows of tables_1 -/
def lw_okq (q : MethodName × Nat) : Prop := (q.1.cls ≠ "java/lang/invoke/MethodHandle" ∧ q.1.cls ≠ "java/lang/invoke/VarHandle") ∧ Cond.instantiable q.1.cls q.2 ∈ tables_1 ∧ Cond.privateMethod q.1 ∈ tables_1 ∧ Cond.instanceMethod q.1 ∈ tables_1
theorem lw_p0 : lw_okq (⟨"LostDigits", "forgetFindings", "()V"⟩, 12) := ⟨⟨by decide +kernel, by decide +kernel⟩, List.mem_of_getElem? (i := 17) (by decide +kernel), List.mem_of_getElem? (i := 394) (by decide +kernel), List.mem_of_getElem? (i := 395) (by decide +kernel)⟩
theorem lw_p1 : lw_okq (⟨"LostDigits$Rounding", "goesOn", "(JJJZ)Z"⟩, 3) := ⟨⟨by decide +kernel, by decide +kernel⟩, List.mem_of_getElem? (i := 142) (by decide +kernel), List.mem_of_getElem? (i := 422) (by decide +kernel), List.mem_of_getElem? (i := 423) (by decide +kernel)⟩
theorem lw_p2 : lw_okq (⟨"LostDigits$Rounding", "placed", "(JIZ)J"⟩, 3) := ⟨⟨by decide +kernel, by decide +kernel⟩, List.mem_of_getElem? (i := 142) (by decide +kernel), List.mem_of_getElem? (i := 427) (by decide +kernel), List.mem_of_getElem? (i := 428) (by decide +kernel)⟩
theorem lw_p3 : lw_okq (⟨"LostDigits$Fractions", "join", "(III)V"⟩, 2) := ⟨⟨by decide +kernel, by decide +kernel⟩, List.mem_of_getElem? (i := 165) (by decide +kernel), List.mem_of_getElem? (i := 495) (by decide +kernel), List.mem_of_getElem? (i := 496) (by decide +kernel)⟩
theorem lw_p4 : lw_okq (⟨"LostDigits", "workNow", "()V"⟩, 12) := ⟨⟨by decide +kernel, by decide +kernel⟩, List.mem_of_getElem? (i := 17) (by decide +kernel), List.mem_of_getElem? (i := 510) (by decide +kernel), List.mem_of_getElem? (i := 511) (by decide +kernel)⟩
theorem lw_p5 : lw_okq (⟨"LostDigits$Sums", "less", "(JJ)J"⟩, 5) := ⟨⟨by decide +kernel, by decide +kernel⟩, List.mem_of_getElem? (i := 203) (by decide +kernel), List.mem_of_getElem? (i := 624) (by decide +kernel), List.mem_of_getElem? (i := 625) (by decide +kernel)⟩
theorem lw_p6 : lw_okq (⟨"LostDigits$Sums", "halfSum", "(III)J"⟩, 5) := ⟨⟨by decide +kernel, by decide +kernel⟩, List.mem_of_getElem? (i := 203) (by decide +kernel), List.mem_of_getElem? (i := 632) (by decide +kernel), List.mem_of_getElem? (i := 633) (by decide +kernel)⟩
theorem lw_p7 : lw_okq (⟨"LostDigits$Sums", "insertBySize", "(I)V"⟩, 5) := ⟨⟨by decide +kernel, by decide +kernel⟩, List.mem_of_getElem? (i := 203) (by decide +kernel), List.mem_of_getElem? (i := 640) (by decide +kernel), List.mem_of_getElem? (i := 641) (by decide +kernel)⟩
theorem lw_p8 : lw_okq (⟨"LostDigits$Orders", "extend", "(IIJ)V"⟩, 7) := ⟨⟨by decide +kernel, by decide +kernel⟩, List.mem_of_getElem? (i := 231) (by decide +kernel), List.mem_of_getElem? (i := 660) (by decide +kernel), List.mem_of_getElem? (i := 661) (by decide +kernel)⟩
theorem lw_p9 : lw_okq (⟨"LostDigits$Orders", "note", "(IJ)V"⟩, 7) := ⟨⟨by decide +kernel, by decide +kernel⟩, List.mem_of_getElem? (i := 231) (by decide +kernel), List.mem_of_getElem? (i := 664) (by decide +kernel), List.mem_of_getElem? (i := 665) (by decide +kernel)⟩
theorem lw_p10 : lw_okq (⟨"LostDigits$Spans", "join", "(III)V"⟩, 11) := ⟨⟨by decide +kernel, by decide +kernel⟩, List.mem_of_getElem? (i := 267) (by decide +kernel), List.mem_of_getElem? (i := 691) (by decide +kernel), List.mem_of_getElem? (i := 692) (by decide +kernel)⟩
theorem lw_p11 : lw_okq (⟨"LostDigits$Spans", "makeGreat", "(I)V"⟩, 11) := ⟨⟨by decide +kernel, by decide +kernel⟩, List.mem_of_getElem? (i := 267) (by decide +kernel), List.mem_of_getElem? (i := 696) (by decide +kernel), List.mem_of_getElem? (i := 697) (by decide +kernel)⟩
theorem lw_p12 : lw_okq (⟨"LostDigits$Spans", "widen", "(IIJJ)Z"⟩, 11) := ⟨⟨by decide +kernel, by decide +kernel⟩, List.mem_of_getElem? (i := 267) (by decide +kernel), List.mem_of_getElem? (i := 702) (by decide +kernel), List.mem_of_getElem? (i := 703) (by decide +kernel)⟩
theorem lw_p13 : lw_okq (⟨"LostDigits$Spans", "startTrials", "(LLostDigits$Page;)I"⟩, 11) := ⟨⟨by decide +kernel, by decide +kernel⟩, List.mem_of_getElem? (i := 267) (by decide +kernel), List.mem_of_getElem? (i := 725) (by decide +kernel), List.mem_of_getElem? (i := 726) (by decide +kernel)⟩
theorem lw_p14 : lw_okq (⟨"LostDigits$Spans", "nextTrial", "([I)I"⟩, 11) := ⟨⟨by decide +kernel, by decide +kernel⟩, List.mem_of_getElem? (i := 267) (by decide +kernel), List.mem_of_getElem? (i := 733) (by decide +kernel), List.mem_of_getElem? (i := 734) (by decide +kernel)⟩
theorem lw_p15 : lw_okq (⟨"LostDigits$Search", "consider", "(LLostDigits$Text;[I)V"⟩, 6) := ⟨⟨by decide +kernel, by decide +kernel⟩, List.mem_of_getElem? (i := 319) (by decide +kernel), List.mem_of_getElem? (i := 800) (by decide +kernel), List.mem_of_getElem? (i := 801) (by decide +kernel)⟩
def lw_privs_1 : List (MethodName × Nat) := [(⟨"LostDigits", "forgetFindings", "()V"⟩, 12), (⟨"LostDigits$Rounding", "goesOn", "(JJJZ)Z"⟩, 3), (⟨"LostDigits$Rounding", "placed", "(JIZ)J"⟩, 3), (⟨"LostDigits$Fractions", "join", "(III)V"⟩, 2), (⟨"LostDigits", "workNow", "()V"⟩, 12), (⟨"LostDigits$Sums", "less", "(JJ)J"⟩, 5), (⟨"LostDigits$Sums", "halfSum", "(III)J"⟩, 5), (⟨"LostDigits$Sums", "insertBySize", "(I)V"⟩, 5), (⟨"LostDigits$Orders", "extend", "(IIJ)V"⟩, 7), (⟨"LostDigits$Orders", "note", "(IJ)V"⟩, 7), (⟨"LostDigits$Spans", "join", "(III)V"⟩, 11), (⟨"LostDigits$Spans", "makeGreat", "(I)V"⟩, 11), (⟨"LostDigits$Spans", "widen", "(IIJJ)Z"⟩, 11), (⟨"LostDigits$Spans", "startTrials", "(LLostDigits$Page;)I"⟩, 11), (⟨"LostDigits$Spans", "nextTrial", "([I)I"⟩, 11), (⟨"LostDigits$Search", "consider", "(LLostDigits$Text;[I)V"⟩, 6)]
theorem lw_r1 : ∀ q ∈ lw_privs_1, lw_okq q := List.forall_mem_cons.mpr ⟨lw_p0, List.forall_mem_cons.mpr ⟨lw_p1, List.forall_mem_cons.mpr ⟨lw_p2, List.forall_mem_cons.mpr ⟨lw_p3, List.forall_mem_cons.mpr ⟨lw_p4, List.forall_mem_cons.mpr ⟨lw_p5, List.forall_mem_cons.mpr ⟨lw_p6, List.forall_mem_cons.mpr ⟨lw_p7, List.forall_mem_cons.mpr ⟨lw_p8, List.forall_mem_cons.mpr ⟨lw_p9, List.forall_mem_cons.mpr ⟨lw_p10, List.forall_mem_cons.mpr ⟨lw_p11, List.forall_mem_cons.mpr ⟨lw_p12, List.forall_mem_cons.mpr ⟨lw_p13, List.forall_mem_cons.mpr ⟨lw_p14, List.forall_mem_cons.mpr ⟨lw_p15, fun _ h => absurd h List.not_mem_nil⟩⟩⟩⟩⟩⟩⟩⟩⟩⟩⟩⟩⟩⟩⟩⟩
theorem lw_p16 : lw_okq (⟨"LostDigits$Search", "changeAgain", "([I)V"⟩, 6) := ⟨⟨by decide +kernel, by decide +kernel⟩, List.mem_of_getElem? (i := 319) (by decide +kernel), List.mem_of_getElem? (i := 808) (by decide +kernel), List.mem_of_getElem? (i := 809) (by decide +kernel)⟩
theorem lw_p17 : lw_okq (⟨"LostDigitsModel", "rounded", "(ZJJIIZ)J"⟩, 40) := ⟨⟨by decide +kernel, by decide +kernel⟩, List.mem_of_getElem? (i := 834) (by decide +kernel), List.mem_of_getElem? (i := 986) (by decide +kernel), List.mem_of_getElem? (i := 987) (by decide +kernel)⟩
theorem lw_p18 : lw_okq (⟨"LostDigitsModel", "isStep", "(I)Z"⟩, 40) := ⟨⟨by decide +kernel, by decide +kernel⟩, List.mem_of_getElem? (i := 834) (by decide +kernel), List.mem_of_getElem? (i := 1033) (by decide +kernel), List.mem_of_getElem? (i := 1034) (by decide +kernel)⟩
theorem lw_p19 : lw_okq (⟨"LostDigitsModel", "layText", "()V"⟩, 40) := ⟨⟨by decide +kernel, by decide +kernel⟩, List.mem_of_getElem? (i := 834) (by decide +kernel), List.mem_of_getElem? (i := 1049) (by decide +kernel), List.mem_of_getElem? (i := 1050) (by decide +kernel)⟩
theorem lw_p20 : lw_okq (⟨"LostDigitsModel", "workExact", "()V"⟩, 40) := ⟨⟨by decide +kernel, by decide +kernel⟩, List.mem_of_getElem? (i := 834) (by decide +kernel), List.mem_of_getElem? (i := 1053) (by decide +kernel), List.mem_of_getElem? (i := 1054) (by decide +kernel)⟩
theorem lw_p21 : lw_okq (⟨"LostDigitsModel", "findSizes", "()V"⟩, 40) := ⟨⟨by decide +kernel, by decide +kernel⟩, List.mem_of_getElem? (i := 834) (by decide +kernel), List.mem_of_getElem? (i := 1057) (by decide +kernel), List.mem_of_getElem? (i := 1058) (by decide +kernel)⟩
theorem lw_p22 : lw_okq (⟨"LostDigitsModel", "wholeAt", "(I)I"⟩, 40) := ⟨⟨by decide +kernel, by decide +kernel⟩, List.mem_of_getElem? (i := 834) (by decide +kernel), List.mem_of_getElem? (i := 1061) (by decide +kernel), List.mem_of_getElem? (i := 1062) (by decide +kernel)⟩
theorem lw_p23 : lw_okq (⟨"LostDigitsModel", "layExact", "(IJJ)V"⟩, 40) := ⟨⟨by decide +kernel, by decide +kernel⟩, List.mem_of_getElem? (i := 834) (by decide +kernel), List.mem_of_getElem? (i := 1065) (by decide +kernel), List.mem_of_getElem? (i := 1066) (by decide +kernel)⟩
theorem lw_p24 : lw_okq (⟨"LostDigitsModel", "billionths", "(II)J"⟩, 40) := ⟨⟨by decide +kernel, by decide +kernel⟩, List.mem_of_getElem? (i := 834) (by decide +kernel), List.mem_of_getElem? (i := 1072) (by decide +kernel), List.mem_of_getElem? (i := 1073) (by decide +kernel)⟩
theorem lw_p25 : lw_okq (⟨"LostDigitsModel", "work", "()V"⟩, 40) := ⟨⟨by decide +kernel, by decide +kernel⟩, List.mem_of_getElem? (i := 834) (by decide +kernel), List.mem_of_getElem? (i := 1077) (by decide +kernel), List.mem_of_getElem? (i := 1078) (by decide +kernel)⟩
theorem lw_p26 : lw_okq (⟨"LostDigitsModel", "made", "(IJJIZ)J"⟩, 40) := ⟨⟨by decide +kernel, by decide +kernel⟩, List.mem_of_getElem? (i := 834) (by decide +kernel), List.mem_of_getElem? (i := 1081) (by decide +kernel), List.mem_of_getElem? (i := 1082) (by decide +kernel)⟩
theorem lw_p27 : lw_okq (⟨"LostDigitsModel", "roundOf", "(JIZ)J"⟩, 40) := ⟨⟨by decide +kernel, by decide +kernel⟩, List.mem_of_getElem? (i := 834) (by decide +kernel), List.mem_of_getElem? (i := 1085) (by decide +kernel), List.mem_of_getElem? (i := 1086) (by decide +kernel)⟩
theorem lw_p28 : lw_okq (⟨"LostDigitsModel", "layBoth", "(IJJ)V"⟩, 40) := ⟨⟨by decide +kernel, by decide +kernel⟩, List.mem_of_getElem? (i := 834) (by decide +kernel), List.mem_of_getElem? (i := 1089) (by decide +kernel), List.mem_of_getElem? (i := 1090) (by decide +kernel)⟩
theorem lw_p29 : lw_okq (⟨"LostDigitsModel", "shorten", "(J)V"⟩, 40) := ⟨⟨by decide +kernel, by decide +kernel⟩, List.mem_of_getElem? (i := 834) (by decide +kernel), List.mem_of_getElem? (i := 1093) (by decide +kernel), List.mem_of_getElem? (i := 1094) (by decide +kernel)⟩
theorem lw_p30 : lw_okq (⟨"LostDigitsModel", "whole", "(IJJ)J"⟩, 40) := ⟨⟨by decide +kernel, by decide +kernel⟩, List.mem_of_getElem? (i := 834) (by decide +kernel), List.mem_of_getElem? (i := 1097) (by decide +kernel), List.mem_of_getElem? (i := 1098) (by decide +kernel)⟩
theorem lw_p31 : lw_okq (⟨"LostDigitsModel", "lossNow", "()J"⟩, 40) := ⟨⟨by decide +kernel, by decide +kernel⟩, List.mem_of_getElem? (i := 834) (by decide +kernel), List.mem_of_getElem? (i := 1110) (by decide +kernel), List.mem_of_getElem? (i := 1111) (by decide +kernel)⟩
def lw_privs_2 : List (MethodName × Nat) := [(⟨"LostDigits$Search", "changeAgain", "([I)V"⟩, 6), (⟨"LostDigitsModel", "rounded", "(ZJJIIZ)J"⟩, 40), (⟨"LostDigitsModel", "isStep", "(I)Z"⟩, 40), (⟨"LostDigitsModel", "layText", "()V"⟩, 40), (⟨"LostDigitsModel", "workExact", "()V"⟩, 40), (⟨"LostDigitsModel", "findSizes", "()V"⟩, 40), (⟨"LostDigitsModel", "wholeAt", "(I)I"⟩, 40), (⟨"LostDigitsModel", "layExact", "(IJJ)V"⟩, 40), (⟨"LostDigitsModel", "billionths", "(II)J"⟩, 40), (⟨"LostDigitsModel", "work", "()V"⟩, 40), (⟨"LostDigitsModel", "made", "(IJJIZ)J"⟩, 40), (⟨"LostDigitsModel", "roundOf", "(JIZ)J"⟩, 40), (⟨"LostDigitsModel", "layBoth", "(IJJ)V"⟩, 40), (⟨"LostDigitsModel", "shorten", "(J)V"⟩, 40), (⟨"LostDigitsModel", "whole", "(IJJ)J"⟩, 40), (⟨"LostDigitsModel", "lossNow", "()J"⟩, 40)]
theorem lw_r2 : ∀ q ∈ lw_privs_2, lw_okq q := List.forall_mem_cons.mpr ⟨lw_p16, List.forall_mem_cons.mpr ⟨lw_p17, List.forall_mem_cons.mpr ⟨lw_p18, List.forall_mem_cons.mpr ⟨lw_p19, List.forall_mem_cons.mpr ⟨lw_p20, List.forall_mem_cons.mpr ⟨lw_p21, List.forall_mem_cons.mpr ⟨lw_p22, List.forall_mem_cons.mpr ⟨lw_p23, List.forall_mem_cons.mpr ⟨lw_p24, List.forall_mem_cons.mpr ⟨lw_p25, List.forall_mem_cons.mpr ⟨lw_p26, List.forall_mem_cons.mpr ⟨lw_p27, List.forall_mem_cons.mpr ⟨lw_p28, List.forall_mem_cons.mpr ⟨lw_p29, List.forall_mem_cons.mpr ⟨lw_p30, List.forall_mem_cons.mpr ⟨lw_p31, fun _ h => absurd h List.not_mem_nil⟩⟩⟩⟩⟩⟩⟩⟩⟩⟩⟩⟩⟩⟩⟩⟩
theorem lw_p32 : lw_okq (⟨"LostDigitsModel", "layOrder", "()V"⟩, 40) := ⟨⟨by decide +kernel, by decide +kernel⟩, List.mem_of_getElem? (i := 834) (by decide +kernel), List.mem_of_getElem? (i := 1144) (by decide +kernel), List.mem_of_getElem? (i := 1145) (by decide +kernel)⟩
theorem lw_p33 : lw_okq (⟨"LostDigitsModel", "beside", "()J"⟩, 40) := ⟨⟨by decide +kernel, by decide +kernel⟩, List.mem_of_getElem? (i := 834) (by decide +kernel), List.mem_of_getElem? (i := 1148) (by decide +kernel), List.mem_of_getElem? (i := 1149) (by decide +kernel)⟩
theorem lw_p34 : lw_okq (⟨"LostDigitsModel", "halves", "()J"⟩, 40) := ⟨⟨by decide +kernel, by decide +kernel⟩, List.mem_of_getElem? (i := 834) (by decide +kernel), List.mem_of_getElem? (i := 1152) (by decide +kernel), List.mem_of_getElem? (i := 1153) (by decide +kernel)⟩
theorem lw_p35 : lw_okq (⟨"LostDigitsModel", "halfOf", "(II)J"⟩, 40) := ⟨⟨by decide +kernel, by decide +kernel⟩, List.mem_of_getElem? (i := 834) (by decide +kernel), List.mem_of_getElem? (i := 1156) (by decide +kernel), List.mem_of_getElem? (i := 1157) (by decide +kernel)⟩
theorem lw_p36 : lw_okq (⟨"LostDigitsModel", "sumOf", "(II)J"⟩, 40) := ⟨⟨by decide +kernel, by decide +kernel⟩, List.mem_of_getElem? (i := 834) (by decide +kernel), List.mem_of_getElem? (i := 1160) (by decide +kernel), List.mem_of_getElem? (i := 1161) (by decide +kernel)⟩
theorem lw_p37 : lw_okq (⟨"LostDigitsModel", "orderBySize", "()V"⟩, 40) := ⟨⟨by decide +kernel, by decide +kernel⟩, List.mem_of_getElem? (i := 834) (by decide +kernel), List.mem_of_getElem? (i := 1164) (by decide +kernel), List.mem_of_getElem? (i := 1165) (by decide +kernel)⟩
theorem lw_p38 : lw_okq (⟨"LostDigitsModel", "wholeSum", "()J"⟩, 40) := ⟨⟨by decide +kernel, by decide +kernel⟩, List.mem_of_getElem? (i := 834) (by decide +kernel), List.mem_of_getElem? (i := 1168) (by decide +kernel), List.mem_of_getElem? (i := 1169) (by decide +kernel)⟩
theorem lw_p39 : lw_okq (⟨"LostDigitsModel", "findOrders", "(I)V"⟩, 40) := ⟨⟨by decide +kernel, by decide +kernel⟩, List.mem_of_getElem? (i := 834) (by decide +kernel), List.mem_of_getElem? (i := 1176) (by decide +kernel), List.mem_of_getElem? (i := 1177) (by decide +kernel)⟩
theorem lw_p40 : lw_okq (⟨"LostDigitsModel", "isBetter", "(IJ)Z"⟩, 40) := ⟨⟨by decide +kernel, by decide +kernel⟩, List.mem_of_getElem? (i := 834) (by decide +kernel), List.mem_of_getElem? (i := 1180) (by decide +kernel), List.mem_of_getElem? (i := 1181) (by decide +kernel)⟩
theorem lw_p41 : lw_okq (⟨"LostDigitsModel", "nextOrder", "()Z"⟩, 40) := ⟨⟨by decide +kernel, by decide +kernel⟩, List.mem_of_getElem? (i := 834) (by decide +kernel), List.mem_of_getElem? (i := 1184) (by decide +kernel), List.mem_of_getElem? (i := 1185) (by decide +kernel)⟩
theorem lw_p42 : lw_okq (⟨"LostDigitsModel", "findEnds", "()V"⟩, 40) := ⟨⟨by decide +kernel, by decide +kernel⟩, List.mem_of_getElem? (i := 834) (by decide +kernel), List.mem_of_getElem? (i := 1196) (by decide +kernel), List.mem_of_getElem? (i := 1197) (by decide +kernel)⟩
theorem lw_p43 : lw_okq (⟨"LostDigitsModel", "layEnds", "(IJJ)V"⟩, 40) := ⟨⟨by decide +kernel, by decide +kernel⟩, List.mem_of_getElem? (i := 834) (by decide +kernel), List.mem_of_getElem? (i := 1200) (by decide +kernel), List.mem_of_getElem? (i := 1201) (by decide +kernel)⟩
theorem lw_p44 : lw_okq (⟨"LostDigitsModel", "ofPairs", "(IIII)J"⟩, 40) := ⟨⟨by decide +kernel, by decide +kernel⟩, List.mem_of_getElem? (i := 834) (by decide +kernel), List.mem_of_getElem? (i := 1204) (by decide +kernel), List.mem_of_getElem? (i := 1205) (by decide +kernel)⟩
theorem lw_p45 : lw_okq (⟨"LostDigitsModel", "truthOf", "(I)J"⟩, 40) := ⟨⟨by decide +kernel, by decide +kernel⟩, List.mem_of_getElem? (i := 834) (by decide +kernel), List.mem_of_getElem? (i := 1212) (by decide +kernel), List.mem_of_getElem? (i := 1213) (by decide +kernel)⟩
theorem lw_p46 : lw_okq (⟨"LostDigitsModel", "nextNumbers", "()Z"⟩, 40) := ⟨⟨by decide +kernel, by decide +kernel⟩, List.mem_of_getElem? (i := 834) (by decide +kernel), List.mem_of_getElem? (i := 1216) (by decide +kernel), List.mem_of_getElem? (i := 1217) (by decide +kernel)⟩
theorem lw_p47 : lw_okq (⟨"LostDigitsModel", "isIn", "(I)Z"⟩, 40) := ⟨⟨by decide +kernel, by decide +kernel⟩, List.mem_of_getElem? (i := 834) (by decide +kernel), List.mem_of_getElem? (i := 1220) (by decide +kernel), List.mem_of_getElem? (i := 1221) (by decide +kernel)⟩
def lw_privs_3 : List (MethodName × Nat) := [(⟨"LostDigitsModel", "layOrder", "()V"⟩, 40), (⟨"LostDigitsModel", "beside", "()J"⟩, 40), (⟨"LostDigitsModel", "halves", "()J"⟩, 40), (⟨"LostDigitsModel", "halfOf", "(II)J"⟩, 40), (⟨"LostDigitsModel", "sumOf", "(II)J"⟩, 40), (⟨"LostDigitsModel", "orderBySize", "()V"⟩, 40), (⟨"LostDigitsModel", "wholeSum", "()J"⟩, 40), (⟨"LostDigitsModel", "findOrders", "(I)V"⟩, 40), (⟨"LostDigitsModel", "isBetter", "(IJ)Z"⟩, 40), (⟨"LostDigitsModel", "nextOrder", "()Z"⟩, 40), (⟨"LostDigitsModel", "findEnds", "()V"⟩, 40), (⟨"LostDigitsModel", "layEnds", "(IJJ)V"⟩, 40), (⟨"LostDigitsModel", "ofPairs", "(IIII)J"⟩, 40), (⟨"LostDigitsModel", "truthOf", "(I)J"⟩, 40), (⟨"LostDigitsModel", "nextNumbers", "()Z"⟩, 40), (⟨"LostDigitsModel", "isIn", "(I)Z"⟩, 40)]
theorem lw_r3 : ∀ q ∈ lw_privs_3, lw_okq q := List.forall_mem_cons.mpr ⟨lw_p32, List.forall_mem_cons.mpr ⟨lw_p33, List.forall_mem_cons.mpr ⟨lw_p34, List.forall_mem_cons.mpr ⟨lw_p35, List.forall_mem_cons.mpr ⟨lw_p36, List.forall_mem_cons.mpr ⟨lw_p37, List.forall_mem_cons.mpr ⟨lw_p38, List.forall_mem_cons.mpr ⟨lw_p39, List.forall_mem_cons.mpr ⟨lw_p40, List.forall_mem_cons.mpr ⟨lw_p41, List.forall_mem_cons.mpr ⟨lw_p42, List.forall_mem_cons.mpr ⟨lw_p43, List.forall_mem_cons.mpr ⟨lw_p44, List.forall_mem_cons.mpr ⟨lw_p45, List.forall_mem_cons.mpr ⟨lw_p46, List.forall_mem_cons.mpr ⟨lw_p47, fun _ h => absurd h List.not_mem_nil⟩⟩⟩⟩⟩⟩⟩⟩⟩⟩⟩⟩⟩⟩⟩⟩
theorem lw_p48 : lw_okq (⟨"LostDigitsModel", "build", "(II)Z"⟩, 40) := ⟨⟨by decide +kernel, by decide +kernel⟩, List.mem_of_getElem? (i := 834) (by decide +kernel), List.mem_of_getElem? (i := 1232) (by decide +kernel), List.mem_of_getElem? (i := 1233) (by decide +kernel)⟩
theorem lw_p49 : lw_okq (⟨"LostDigitsModel", "hasSigns", "(IIII)Z"⟩, 40) := ⟨⟨by decide +kernel, by decide +kernel⟩, List.mem_of_getElem? (i := 834) (by decide +kernel), List.mem_of_getElem? (i := 1236) (by decide +kernel), List.mem_of_getElem? (i := 1237) (by decide +kernel)⟩
theorem lw_p50 : lw_okq (⟨"LostDigitsModel", "isSame", "(II)Z"⟩, 40) := ⟨⟨by decide +kernel, by decide +kernel⟩, List.mem_of_getElem? (i := 834) (by decide +kernel), List.mem_of_getElem? (i := 1240) (by decide +kernel), List.mem_of_getElem? (i := 1241) (by decide +kernel)⟩
theorem lw_p51 : lw_okq (⟨"LostDigitsModel", "add", "(I)V"⟩, 40) := ⟨⟨by decide +kernel, by decide +kernel⟩, List.mem_of_getElem? (i := 834) (by decide +kernel), List.mem_of_getElem? (i := 1244) (by decide +kernel), List.mem_of_getElem? (i := 1245) (by decide +kernel)⟩
theorem lw_p52 : lw_okq (⟨"LostDigitsModel", "buildPart", "(IIII)V"⟩, 40) := ⟨⟨by decide +kernel, by decide +kernel⟩, List.mem_of_getElem? (i := 834) (by decide +kernel), List.mem_of_getElem? (i := 1248) (by decide +kernel), List.mem_of_getElem? (i := 1249) (by decide +kernel)⟩
theorem lw_p53 : lw_okq (⟨"LostDigitsModel", "addPart", "(I)V"⟩, 40) := ⟨⟨by decide +kernel, by decide +kernel⟩, List.mem_of_getElem? (i := 834) (by decide +kernel), List.mem_of_getElem? (i := 1252) (by decide +kernel), List.mem_of_getElem? (i := 1253) (by decide +kernel)⟩
theorem lw_p54 : lw_okq (⟨"LostDigitsModel", "findBetter", "(I)V"⟩, 40) := ⟨⟨by decide +kernel, by decide +kernel⟩, List.mem_of_getElem? (i := 834) (by decide +kernel), List.mem_of_getElem? (i := 1264) (by decide +kernel), List.mem_of_getElem? (i := 1265) (by decide +kernel)⟩
theorem lw_p55 : lw_okq (⟨"LostDigitsModel", "hold", "()V"⟩, 40) := ⟨⟨by decide +kernel, by decide +kernel⟩, List.mem_of_getElem? (i := 834) (by decide +kernel), List.mem_of_getElem? (i := 1268) (by decide +kernel), List.mem_of_getElem? (i := 1269) (by decide +kernel)⟩
theorem lw_p56 : lw_okq (⟨"LostDigitsModel", "keepBase", "()V"⟩, 40) := ⟨⟨by decide +kernel, by decide +kernel⟩, List.mem_of_getElem? (i := 834) (by decide +kernel), List.mem_of_getElem? (i := 1272) (by decide +kernel), List.mem_of_getElem? (i := 1273) (by decide +kernel)⟩
theorem lw_p57 : lw_okq (⟨"LostDigitsModel", "holdAll", "()V"⟩, 40) := ⟨⟨by decide +kernel, by decide +kernel⟩, List.mem_of_getElem? (i := 834) (by decide +kernel), List.mem_of_getElem? (i := 1276) (by decide +kernel), List.mem_of_getElem? (i := 1277) (by decide +kernel)⟩
theorem lw_p58 : lw_okq (⟨"LostDigitsModel", "layBase", "()V"⟩, 40) := ⟨⟨by decide +kernel, by decide +kernel⟩, List.mem_of_getElem? (i := 834) (by decide +kernel), List.mem_of_getElem? (i := 1280) (by decide +kernel), List.mem_of_getElem? (i := 1281) (by decide +kernel)⟩
theorem lw_p59 : lw_okq (⟨"LostDigitsModel", "layBuilt", "()V"⟩, 40) := ⟨⟨by decide +kernel, by decide +kernel⟩, List.mem_of_getElem? (i := 834) (by decide +kernel), List.mem_of_getElem? (i := 1284) (by decide +kernel), List.mem_of_getElem? (i := 1285) (by decide +kernel)⟩
theorem lw_p60 : lw_okq (⟨"LostDigitsModel", "passAll", "()V"⟩, 40) := ⟨⟨by decide +kernel, by decide +kernel⟩, List.mem_of_getElem? (i := 834) (by decide +kernel), List.mem_of_getElem? (i := 1296) (by decide +kernel), List.mem_of_getElem? (i := 1297) (by decide +kernel)⟩
theorem lw_p61 : lw_okq (⟨"LostDigitsModel", "pass", "(J)J"⟩, 40) := ⟨⟨by decide +kernel, by decide +kernel⟩, List.mem_of_getElem? (i := 834) (by decide +kernel), List.mem_of_getElem? (i := 1300) (by decide +kernel), List.mem_of_getElem? (i := 1301) (by decide +kernel)⟩
def lw_privs_4 : List (MethodName × Nat) := [(⟨"LostDigitsModel", "build", "(II)Z"⟩, 40), (⟨"LostDigitsModel", "hasSigns", "(IIII)Z"⟩, 40), (⟨"LostDigitsModel", "isSame", "(II)Z"⟩, 40), (⟨"LostDigitsModel", "add", "(I)V"⟩, 40), (⟨"LostDigitsModel", "buildPart", "(IIII)V"⟩, 40), (⟨"LostDigitsModel", "addPart", "(I)V"⟩, 40), (⟨"LostDigitsModel", "findBetter", "(I)V"⟩, 40), (⟨"LostDigitsModel", "hold", "()V"⟩, 40), (⟨"LostDigitsModel", "keepBase", "()V"⟩, 40), (⟨"LostDigitsModel", "holdAll", "()V"⟩, 40), (⟨"LostDigitsModel", "layBase", "()V"⟩, 40), (⟨"LostDigitsModel", "layBuilt", "()V"⟩, 40), (⟨"LostDigitsModel", "passAll", "()V"⟩, 40), (⟨"LostDigitsModel", "pass", "(J)J"⟩, 40)]
theorem lw_r4 : ∀ q ∈ lw_privs_4, lw_okq q := List.forall_mem_cons.mpr ⟨lw_p48, List.forall_mem_cons.mpr ⟨lw_p49, List.forall_mem_cons.mpr ⟨lw_p50, List.forall_mem_cons.mpr ⟨lw_p51, List.forall_mem_cons.mpr ⟨lw_p52, List.forall_mem_cons.mpr ⟨lw_p53, List.forall_mem_cons.mpr ⟨lw_p54, List.forall_mem_cons.mpr ⟨lw_p55, List.forall_mem_cons.mpr ⟨lw_p56, List.forall_mem_cons.mpr ⟨lw_p57, List.forall_mem_cons.mpr ⟨lw_p58, List.forall_mem_cons.mpr ⟨lw_p59, List.forall_mem_cons.mpr ⟨lw_p60, List.forall_mem_cons.mpr ⟨lw_p61, fun _ h => absurd h List.not_mem_nil⟩⟩⟩⟩⟩⟩⟩⟩⟩⟩⟩⟩⟩⟩
def lw_privs : List (MethodName × Nat) := lw_privs_1 ++ (lw_privs_2 ++ (lw_privs_3 ++ (lw_privs_4)))
def lw_tbl : List Cond := k2_sels lw_privs ++ tables_1
theorem lw_privs_ok : ∀ q ∈ lw_privs, lw_okq q := by
  show ∀ q ∈ lw_privs_1 ++ (lw_privs_2 ++ (lw_privs_3 ++ (lw_privs_4))), lw_okq q
  exact List.forall_mem_append.mpr ⟨lw_r1, List.forall_mem_append.mpr ⟨lw_r2, List.forall_mem_append.mpr ⟨lw_r3, lw_r4⟩⟩⟩

def RX0 : String := "LostDigits$Fractions"
def TX0 : u_T := fun k => match k with
  | 0 => ("LostDigits$Fractions", "uppers", "[J", true)
  | _ => ("LostDigits$Fractions", "lowers", "[J", true)
def tyX0 : Nat → FieldType := fun k => match k with
  | 0 => .array .long
  | _ => .array .long
abbrev wsX00 : List Cond := u_ws RX0 TX0 2
theorem nmX0 : ∀ a, a < 2 → ∀ b, b < 2 → a ≠ b → (TX0 a).2.1 ≠ (TX0 b).2.1 := by decide +kernel
theorem tyX0_ok : ∀ k, k < 2 → parseFieldDescriptor (TX0 k).2.2.1 = some (tyX0 k) := by decide +kernel
abbrev cX0_init : ByteArray := prog_2_method_1_code
def yX0_init : MethodName := ⟨RX0, "<init>", "()V"⟩
abbrev cX0_workParts : ByteArray := prog_2_method_2_code
def yX0_workParts : MethodName := ⟨RX0, "workParts", "(LLostDigits$Text;[II)V"⟩
abbrev cX0_join : ByteArray := prog_2_method_3_code
def yX0_join : MethodName := ⟨RX0, "join", "(III)V"⟩
abbrev cX0_billionths : ByteArray := prog_2_method_4_code
def yX0_billionths : MethodName := ⟨RX0, "billionths", "(II)J"⟩
abbrev cX0_lowest : ByteArray := prog_2_method_5_code
def yX0_lowest : MethodName := ⟨RX0, "lowest", "(I)J"⟩
abbrev cX0_sharedDivisor : ByteArray := prog_2_method_6_code
def yX0_sharedDivisor : MethodName := ⟨RX0, "sharedDivisor", "(JJ)J"⟩
def RX1 : String := "LostDigits$Orders"
def TX1 : u_T := fun k => match k with
  | 0 => ("LostDigits$Orders", "sums", "LLostDigits$Sums;", true)
  | 1 => ("LostDigits$Orders", "path", "[I", true)
  | 2 => ("LostDigits$Orders", "losses", "[J", true)
  | 3 => ("LostDigits$Orders", "counts", "[I", true)
  | 4 => ("LostDigits$Orders", "firsts", "[[I", true)
  | 5 => ("LostDigits$Orders", "whole", "J", false)
  | _ => ("LostDigits$Orders", "isFound", "Z", false)
def tyX1 : Nat → FieldType := fun k => match k with
  | 0 => .object "LostDigits$Sums"
  | 1 => .array .int
  | 2 => .array .long
  | 3 => .array .int
  | 4 => .array (.array .int)
  | 5 => .long
  | _ => .boolean
abbrev wsX10 : List Cond := u_ws RX1 TX1 7
theorem nmX1 : ∀ a, a < 7 → ∀ b, b < 7 → a ≠ b → (TX1 a).2.1 ≠ (TX1 b).2.1 := by decide +kernel
theorem tyX1_ok : ∀ k, k < 7 → parseFieldDescriptor (TX1 k).2.2.1 = some (tyX1 k) := by decide +kernel
abbrev cX1_init : ByteArray := prog_3_method_1_code
def yX1_init : MethodName := ⟨RX1, "<init>", "()V"⟩
abbrev cX1_find : ByteArray := prog_3_method_2_code
def yX1_find : MethodName := ⟨RX1, "find", "(LLostDigits$Page;)V"⟩
abbrev cX1_extend : ByteArray := prog_3_method_3_code
def yX1_extend : MethodName := ⟨RX1, "extend", "(IIJ)V"⟩
abbrev cX1_note : ByteArray := prog_3_method_4_code
def yX1_note : MethodName := ⟨RX1, "note", "(IJ)V"⟩
abbrev cX1_isPreferred : ByteArray := prog_3_method_5_code
def yX1_isPreferred : MethodName := ⟨RX1, "isPreferred", "(IJJ)Z"⟩
def RX2 : String := "LostDigits$Page"
def TX2 : u_T := fun k => match k with
  | 0 => ("LostDigits$Page", "text", "LLostDigits$Text;", true)
  | 1 => ("LostDigits$Page", "numbers", "[I", true)
  | 2 => ("LostDigits$Page", "spans", "[I", true)
  | 3 => ("LostDigits$Page", "terms", "[J", true)
  | 4 => ("LostDigits$Page", "termCount", "I", false)
  | 5 => ("LostDigits$Page", "digits", "I", false)
  | 6 => ("LostDigits$Page", "way", "I", false)
  | _ => ("LostDigits$Page", "isKept", "Z", false)
def tyX2 : Nat → FieldType := fun k => match k with
  | 0 => .object "LostDigits$Text"
  | 1 => .array .int
  | 2 => .array .int
  | 3 => .array .long
  | 4 => .int
  | 5 => .int
  | 6 => .int
  | _ => .boolean
abbrev wsX20 : List Cond := u_ws RX2 TX2 8
theorem nmX2 : ∀ a, a < 8 → ∀ b, b < 8 → a ≠ b → (TX2 a).2.1 ≠ (TX2 b).2.1 := by decide +kernel
theorem tyX2_ok : ∀ k, k < 8 → parseFieldDescriptor (TX2 k).2.2.1 = some (tyX2 k) := by decide +kernel
abbrev cX2_init : ByteArray := prog_4_method_1_code
def yX2_init : MethodName := ⟨RX2, "<init>", "()V"⟩
abbrev cX2_copyFrom : ByteArray := prog_4_method_2_code
def yX2_copyFrom : MethodName := ⟨RX2, "copyFrom", "(LLostDigits$Page;)V"⟩
def RX3 : String := "LostDigits$Ratio"
def TX3 : u_T := fun k => match k with
  | 0 => ("LostDigits$Ratio", "upper", "J", false)
  | 1 => ("LostDigits$Ratio", "lower", "J", false)
  | _ => ("LostDigits$Ratio", "tens", "I", false)
def tyX3 : Nat → FieldType := fun k => match k with
  | 0 => .long
  | 1 => .long
  | _ => .int
abbrev wsX30 : List Cond := u_ws RX3 TX3 3
theorem nmX3 : ∀ a, a < 3 → ∀ b, b < 3 → a ≠ b → (TX3 a).2.1 ≠ (TX3 b).2.1 := by decide +kernel
theorem tyX3_ok : ∀ k, k < 3 → parseFieldDescriptor (TX3 k).2.2.1 = some (tyX3 k) := by decide +kernel
abbrev cX3_init : ByteArray := prog_5_method_1_code
def yX3_init : MethodName := ⟨RX3, "<init>", "()V"⟩
abbrev cX3_hold : ByteArray := prog_5_method_2_code
def yX3_hold : MethodName := ⟨RX3, "hold", "(JJI)V"⟩
abbrev cX3_join : ByteArray := prog_5_method_3_code
def yX3_join : MethodName := ⟨RX3, "join", "(IJJ)Z"⟩
abbrev cX3_lastZeros : ByteArray := prog_5_method_4_code
def yX3_lastZeros : MethodName := ⟨RX3, "lastZeros", "(J)I"⟩
abbrev cX3_cut : ByteArray := prog_5_method_5_code
def yX3_cut : MethodName := ⟨RX3, "cut", "()J"⟩
def RX4 : String := "LostDigits$Rounding"
def TX4 : u_T := fun k => match k with
  | 0 => ("LostDigits$Rounding", "digits", "I", false)
  | 1 => ("LostDigits$Rounding", "way", "I", false)
  | _ => ("LostDigits$Rounding", "keepsTiny", "Z", false)
def tyX4 : Nat → FieldType := fun k => match k with
  | 0 => .int
  | 1 => .int
  | _ => .boolean
abbrev wsX40 : List Cond := u_ws RX4 TX4 3
theorem nmX4 : ∀ a, a < 3 → ∀ b, b < 3 → a ≠ b → (TX4 a).2.1 ≠ (TX4 b).2.1 := by decide +kernel
theorem tyX4_ok : ∀ k, k < 3 → parseFieldDescriptor (TX4 k).2.2.1 = some (tyX4 k) := by decide +kernel
abbrev cX4_init : ByteArray := prog_6_method_1_code
def yX4_init : MethodName := ⟨RX4, "<init>", "()V"⟩
abbrev cX4_turn : ByteArray := prog_6_method_2_code
def yX4_turn : MethodName := ⟨RX4, "turn", "(II)V"⟩
abbrev cX4_of : ByteArray := prog_6_method_3_code
def yX4_of : MethodName := ⟨RX4, "of", "(LLostDigits$Ratio;)J"⟩
abbrev cX4_goesOn : ByteArray := prog_6_method_4_code
def yX4_goesOn : MethodName := ⟨RX4, "goesOn", "(JJJZ)Z"⟩
abbrev cX4_placed : ByteArray := prog_6_method_5_code
def yX4_placed : MethodName := ⟨RX4, "placed", "(JIZ)J"⟩
def RX5 : String := "LostDigits$Rules"
def TX5 : u_T := fun k => match k with
  | _ => ("", "", "", false)
def tyX5 : Nat → FieldType := fun k => match k with
  | _ => .int
abbrev wsX50 : List Cond := u_ws RX5 TX5 0
theorem nmX5 : ∀ a, a < 0 → ∀ b, b < 0 → a ≠ b → (TX5 a).2.1 ≠ (TX5 b).2.1 := by decide +kernel
theorem tyX5_ok : ∀ k, k < 0 → parseFieldDescriptor (TX5 k).2.2.1 = some (tyX5 k) := by decide +kernel
abbrev cX5_suits : ByteArray := prog_7_method_2_code
def yX5_suits : MethodName := ⟨RX5, "suits", "(LLostDigits$Text;II)Z"⟩
abbrev cX5_hasRoomToSpread : ByteArray := prog_7_method_3_code
def yX5_hasRoomToSpread : MethodName := ⟨RX5, "hasRoomToSpread", "(LLostDigits$Text;I)Z"⟩
abbrev cX5_sharesFactor : ByteArray := prog_7_method_4_code
def yX5_sharesFactor : MethodName := ⟨RX5, "sharesFactor", "(LLostDigits$Text;I)Z"⟩
abbrev cX5_isOfSquares : ByteArray := prog_7_method_5_code
def yX5_isOfSquares : MethodName := ⟨RX5, "isOfSquares", "(LLostDigits$Text;I)Z"⟩
abbrev cX5_write : ByteArray := prog_7_method_6_code
def yX5_write : MethodName := ⟨RX5, "write", "(LLostDigits$Text;IILLostDigits$Text;)Z"⟩
abbrev cX5_writeShift : ByteArray := prog_7_method_7_code
def yX5_writeShift : MethodName := ⟨RX5, "writeShift", "(LLostDigits$Text;IILLostDigits$Text;)V"⟩
abbrev cX5_writeFactors : ByteArray := prog_7_method_8_code
def yX5_writeFactors : MethodName := ⟨RX5, "writeFactors", "(LLostDigits$Text;IILLostDigits$Text;)V"⟩
def RX6 : String := "LostDigits$Search"
def TX6 : u_T := fun k => match k with
  | 0 => ("LostDigits$Search", "steps", "LLostDigits$Steps;", true)
  | 1 => ("LostDigits$Search", "once", "LLostDigits$Text;", true)
  | 2 => ("LostDigits$Search", "twice", "LLostDigits$Text;", true)
  | 3 => ("LostDigits$Search", "best", "LLostDigits$Text;", true)
  | 4 => ("LostDigits$Search", "bestLoss", "J", false)
  | _ => ("LostDigits$Search", "foundRules", "I", false)
def tyX6 : Nat → FieldType := fun k => match k with
  | 0 => .object "LostDigits$Steps"
  | 1 => .object "LostDigits$Text"
  | 2 => .object "LostDigits$Text"
  | 3 => .object "LostDigits$Text"
  | 4 => .long
  | _ => .int
abbrev wsX60 : List Cond := u_ws RX6 TX6 6
theorem nmX6 : ∀ a, a < 6 → ∀ b, b < 6 → a ≠ b → (TX6 a).2.1 ≠ (TX6 b).2.1 := by decide +kernel
theorem tyX6_ok : ∀ k, k < 6 → parseFieldDescriptor (TX6 k).2.2.1 = some (tyX6 k) := by decide +kernel
abbrev cX6_init : ByteArray := prog_8_method_1_code
def yX6_init : MethodName := ⟨RX6, "<init>", "()V"⟩
abbrev cX6_find : ByteArray := prog_8_method_2_code
def yX6_find : MethodName := ⟨RX6, "find", "(LLostDigits$Page;I)V"⟩
abbrev cX6_changeAgain : ByteArray := prog_8_method_3_code
def yX6_changeAgain : MethodName := ⟨RX6, "changeAgain", "([I)V"⟩
abbrev cX6_consider : ByteArray := prog_8_method_4_code
def yX6_consider : MethodName := ⟨RX6, "consider", "(LLostDigits$Text;[I)V"⟩
def RX7 : String := "LostDigits$Spans"
def TX7 : u_T := fun k => match k with
  | 0 => ("LostDigits$Spans", "low", "[J", true)
  | 1 => ("LostDigits$Spans", "high", "[J", true)
  | 2 => ("LostDigits$Spans", "ratio", "LLostDigits$Ratio;", true)
  | 3 => ("LostDigits$Spans", "down", "LLostDigits$Rounding;", true)
  | 4 => ("LostDigits$Spans", "up", "LLostDigits$Rounding;", true)
  | 5 => ("LostDigits$Spans", "fractions", "LLostDigits$Fractions;", true)
  | 6 => ("LostDigits$Spans", "trial", "[I", true)
  | 7 => ("LostDigits$Spans", "widths", "[I", true)
  | 8 => ("LostDigits$Spans", "least", "J", false)
  | 9 => ("LostDigits$Spans", "greatest", "J", false)
  | _ => ("LostDigits$Spans", "isFound", "Z", false)
def tyX7 : Nat → FieldType := fun k => match k with
  | 0 => .array .long
  | 1 => .array .long
  | 2 => .object "LostDigits$Ratio"
  | 3 => .object "LostDigits$Rounding"
  | 4 => .object "LostDigits$Rounding"
  | 5 => .object "LostDigits$Fractions"
  | 6 => .array .int
  | 7 => .array .int
  | 8 => .long
  | 9 => .long
  | _ => .boolean
abbrev wsX70 : List Cond := u_ws RX7 TX7 11
theorem nmX7 : ∀ a, a < 11 → ∀ b, b < 11 → a ≠ b → (TX7 a).2.1 ≠ (TX7 b).2.1 := by decide +kernel
theorem tyX7_ok : ∀ k, k < 11 → parseFieldDescriptor (TX7 k).2.2.1 = some (tyX7 k) := by decide +kernel
abbrev cX7_init : ByteArray := prog_9_method_1_code
def yX7_init : MethodName := ⟨RX7, "<init>", "()V"⟩
abbrev cX7_bound : ByteArray := prog_9_method_2_code
def yX7_bound : MethodName := ⟨RX7, "bound", "(LLostDigits$Page;)V"⟩
abbrev cX7_join : ByteArray := prog_9_method_3_code
def yX7_join : MethodName := ⟨RX7, "join", "(III)V"⟩
abbrev cX7_makeGreat : ByteArray := prog_9_method_4_code
def yX7_makeGreat : MethodName := ⟨RX7, "makeGreat", "(I)V"⟩
abbrev cX7_widen : ByteArray := prog_9_method_5_code
def yX7_widen : MethodName := ⟨RX7, "widen", "(IIJJ)Z"⟩
abbrev cX7_findTruth : ByteArray := prog_9_method_6_code
def yX7_findTruth : MethodName := ⟨RX7, "findTruth", "(LLostDigits$Page;)V"⟩
abbrev cX7_startTrials : ByteArray := prog_9_method_7_code
def yX7_startTrials : MethodName := ⟨RX7, "startTrials", "(LLostDigits$Page;)I"⟩
abbrev cX7_nextTrial : ByteArray := prog_9_method_8_code
def yX7_nextTrial : MethodName := ⟨RX7, "nextTrial", "([I)I"⟩
def RX8 : String := "LostDigits$Steps"
def TX8 : u_T := fun k => match k with
  | 0 => ("LostDigits$Steps", "values", "[J", true)
  | 1 => ("LostDigits$Steps", "slips", "[J", true)
  | 2 => ("LostDigits$Steps", "fractions", "LLostDigits$Fractions;", true)
  | 3 => ("LostDigits$Steps", "rounding", "LLostDigits$Rounding;", true)
  | _ => ("LostDigits$Steps", "ratio", "LLostDigits$Ratio;", true)
def tyX8 : Nat → FieldType := fun k => match k with
  | 0 => .array .long
  | 1 => .array .long
  | 2 => .object "LostDigits$Fractions"
  | 3 => .object "LostDigits$Rounding"
  | _ => .object "LostDigits$Ratio"
abbrev wsX80 : List Cond := u_ws RX8 TX8 5
theorem nmX8 : ∀ a, a < 5 → ∀ b, b < 5 → a ≠ b → (TX8 a).2.1 ≠ (TX8 b).2.1 := by decide +kernel
theorem tyX8_ok : ∀ k, k < 5 → parseFieldDescriptor (TX8 k).2.2.1 = some (tyX8 k) := by decide +kernel
abbrev cX8_init : ByteArray := prog_10_method_1_code
def yX8_init : MethodName := ⟨RX8, "<init>", "()V"⟩
abbrev cX8_work : ByteArray := prog_10_method_2_code
def yX8_work : MethodName := ⟨RX8, "work", "(LLostDigits$Text;[I)V"⟩
abbrev cX8_lossOf : ByteArray := prog_10_method_3_code
def yX8_lossOf : MethodName := ⟨RX8, "lossOf", "(LLostDigits$Text;[I)J"⟩
def RX9 : String := "LostDigits$Sums"
def TX9 : u_T := fun k => match k with
  | 0 => ("LostDigits$Sums", "ratio", "LLostDigits$Ratio;", true)
  | 1 => ("LostDigits$Sums", "rounding", "LLostDigits$Rounding;", true)
  | 2 => ("LostDigits$Sums", "terms", "[J", true)
  | 3 => ("LostDigits$Sums", "sizes", "[I", true)
  | _ => ("LostDigits$Sums", "count", "I", false)
def tyX9 : Nat → FieldType := fun k => match k with
  | 0 => .object "LostDigits$Ratio"
  | 1 => .object "LostDigits$Rounding"
  | 2 => .array .long
  | 3 => .array .int
  | _ => .int
abbrev wsX90 : List Cond := u_ws RX9 TX9 5
theorem nmX9 : ∀ a, a < 5 → ∀ b, b < 5 → a ≠ b → (TX9 a).2.1 ≠ (TX9 b).2.1 := by decide +kernel
theorem tyX9_ok : ∀ k, k < 5 → parseFieldDescriptor (TX9 k).2.2.1 = some (tyX9 k) := by decide +kernel
abbrev cX9_init : ByteArray := prog_11_method_1_code
def yX9_init : MethodName := ⟨RX9, "<init>", "()V"⟩
abbrev cX9_take : ByteArray := prog_11_method_2_code
def yX9_take : MethodName := ⟨RX9, "take", "(LLostDigits$Page;)V"⟩
abbrev cX9_plus : ByteArray := prog_11_method_3_code
def yX9_plus : MethodName := ⟨RX9, "plus", "(JJ)J"⟩
abbrev cX9_less : ByteArray := prog_11_method_4_code
def yX9_less : MethodName := ⟨RX9, "less", "(JJ)J"⟩
abbrev cX9_whole : ByteArray := prog_11_method_5_code
def yX9_whole : MethodName := ⟨RX9, "whole", "()J"⟩
abbrev cX9_asTold : ByteArray := prog_11_method_6_code
def yX9_asTold : MethodName := ⟨RX9, "asTold", "()J"⟩
abbrev cX9_beside : ByteArray := prog_11_method_7_code
def yX9_beside : MethodName := ⟨RX9, "beside", "()J"⟩
abbrev cX9_halves : ByteArray := prog_11_method_8_code
def yX9_halves : MethodName := ⟨RX9, "halves", "()J"⟩
abbrev cX9_halfSum : ByteArray := prog_11_method_9_code
def yX9_halfSum : MethodName := ⟨RX9, "halfSum", "(III)J"⟩
abbrev cX9_bySize : ByteArray := prog_11_method_10_code
def yX9_bySize : MethodName := ⟨RX9, "bySize", "()J"⟩
abbrev cX9_insertBySize : ByteArray := prog_11_method_11_code
def yX9_insertBySize : MethodName := ⟨RX9, "insertBySize", "(I)V"⟩
def RX10 : String := "LostDigits$Text"
def TX10 : u_T := fun k => match k with
  | 0 => ("LostDigits$Text", "signs", "[I", true)
  | 1 => ("LostDigits$Text", "ends", "[I", true)
  | 2 => ("LostDigits$Text", "letters", "[I", true)
  | _ => ("LostDigits$Text", "length", "I", false)
def tyX10 : Nat → FieldType := fun k => match k with
  | 0 => .array .int
  | 1 => .array .int
  | 2 => .array .int
  | _ => .int
abbrev wsX100 : List Cond := u_ws RX10 TX10 4
theorem nmX10 : ∀ a, a < 4 → ∀ b, b < 4 → a ≠ b → (TX10 a).2.1 ≠ (TX10 b).2.1 := by decide +kernel
theorem tyX10_ok : ∀ k, k < 4 → parseFieldDescriptor (TX10 k).2.2.1 = some (tyX10 k) := by decide +kernel
abbrev cX10_init : ByteArray := prog_12_method_1_code
def yX10_init : MethodName := ⟨RX10, "<init>", "()V"⟩
abbrev cX10_copyFrom : ByteArray := prog_12_method_2_code
def yX10_copyFrom : MethodName := ⟨RX10, "copyFrom", "(LLostDigits$Text;)V"⟩
abbrev cX10_read : ByteArray := prog_12_method_3_code
def yX10_read : MethodName := ⟨RX10, "read", "([II)V"⟩
abbrev cX10_add : ByteArray := prog_12_method_4_code
def yX10_add : MethodName := ⟨RX10, "add", "(I)V"⟩
abbrev cX10_addPlaces : ByteArray := prog_12_method_5_code
def yX10_addPlaces : MethodName := ⟨RX10, "addPlaces", "(LLostDigits$Text;II)V"⟩
abbrev cX10_addPart : ByteArray := prog_12_method_6_code
def yX10_addPart : MethodName := ⟨RX10, "addPart", "(LLostDigits$Text;I)V"⟩
abbrev cX10_findParts : ByteArray := prog_12_method_7_code
def yX10_findParts : MethodName := ⟨RX10, "findParts", "()V"⟩
abbrev cX10_has : ByteArray := prog_12_method_8_code
def yX10_has : MethodName := ⟨RX10, "has", "(I)Z"⟩
abbrev cX10_signAt : ByteArray := prog_12_method_9_code
def yX10_signAt : MethodName := ⟨RX10, "signAt", "(I)I"⟩
abbrev cX10_endOf : ByteArray := prog_12_method_10_code
def yX10_endOf : MethodName := ⟨RX10, "endOf", "(I)I"⟩
abbrev cX10_lettersOf : ByteArray := prog_12_method_11_code
def yX10_lettersOf : MethodName := ⟨RX10, "lettersOf", "(I)I"⟩
abbrev cX10_secondOf : ByteArray := prog_12_method_12_code
def yX10_secondOf : MethodName := ⟨RX10, "secondOf", "(I)I"⟩
abbrev cX10_areAlike : ByteArray := prog_12_method_13_code
def yX10_areAlike : MethodName := ⟨RX10, "areAlike", "(II)Z"⟩
def RX11 : String := "LostDigits"
def TX11 : u_T := fun k => match k with
  | 0 => ("LostDigits", "now", "LLostDigits$Page;", true)
  | 1 => ("LostDigits", "imageZero", "LLostDigits$Page;", true)
  | 2 => ("LostDigits", "imageOne", "LLostDigits$Page;", true)
  | 3 => ("LostDigits", "pad", "[I", true)
  | 4 => ("LostDigits", "padded", "I", false)
  | 5 => ("LostDigits", "ratio", "LLostDigits$Ratio;", true)
  | 6 => ("LostDigits", "rounding", "LLostDigits$Rounding;", true)
  | 7 => ("LostDigits", "steps", "LLostDigits$Steps;", true)
  | 8 => ("LostDigits", "sums", "LLostDigits$Sums;", true)
  | 9 => ("LostDigits", "allOrders", "LLostDigits$Orders;", true)
  | 10 => ("LostDigits", "spans", "LLostDigits$Spans;", true)
  | _ => ("LostDigits", "search", "LLostDigits$Search;", true)
def tyX11 : Nat → FieldType := fun k => match k with
  | 0 => .object "LostDigits$Page"
  | 1 => .object "LostDigits$Page"
  | 2 => .object "LostDigits$Page"
  | 3 => .array .int
  | 4 => .int
  | 5 => .object "LostDigits$Ratio"
  | 6 => .object "LostDigits$Rounding"
  | 7 => .object "LostDigits$Steps"
  | 8 => .object "LostDigits$Sums"
  | 9 => .object "LostDigits$Orders"
  | 10 => .object "LostDigits$Spans"
  | _ => .object "LostDigits$Search"
abbrev wsX110 : List Cond := u_ws RX11 TX11 12
theorem nmX11 : ∀ a, a < 12 → ∀ b, b < 12 → a ≠ b → (TX11 a).2.1 ≠ (TX11 b).2.1 := by decide +kernel
theorem tyX11_ok : ∀ k, k < 12 → parseFieldDescriptor (TX11 k).2.2.1 = some (tyX11 k) := by decide +kernel
abbrev cX11_init : ByteArray := prog_1_method_1_code
def yX11_init : MethodName := ⟨RX11, "<init>", "()V"⟩
abbrev cX11_set : ByteArray := prog_1_method_2_code
def yX11_set : MethodName := ⟨RX11, "set", "(II)I"⟩
abbrev cX11_round : ByteArray := prog_1_method_3_code
def yX11_round : MethodName := ⟨RX11, "round", "(III)J"⟩
abbrev cX11_say : ByteArray := prog_1_method_4_code
def yX11_say : MethodName := ⟨RX11, "say", "(I)I"⟩
abbrev cX11_wipe : ByteArray := prog_1_method_5_code
def yX11_wipe : MethodName := ⟨RX11, "wipe", "()I"⟩
abbrev cX11_fault : ByteArray := prog_1_method_6_code
def yX11_fault : MethodName := ⟨RX11, "fault", "()I"⟩
abbrev cX11_text : ByteArray := prog_1_method_7_code
def yX11_text : MethodName := ⟨RX11, "text", "()I"⟩
abbrev cX11_sign : ByteArray := prog_1_method_8_code
def yX11_sign : MethodName := ⟨RX11, "sign", "(I)I"⟩
abbrev cX11_put : ByteArray := prog_1_method_9_code
def yX11_put : MethodName := ⟨RX11, "put", "(III)I"⟩
abbrev cX11_worked : ByteArray := prog_1_method_10_code
def yX11_worked : MethodName := ⟨RX11, "worked", "(II)J"⟩
abbrev cX11_exact : ByteArray := prog_1_method_11_code
def yX11_exact : MethodName := ⟨RX11, "exact", "(I)J"⟩
abbrev cX11_loss : ByteArray := prog_1_method_12_code
def yX11_loss : MethodName := ⟨RX11, "loss", "()J"⟩
abbrev cX11_worst : ByteArray := prog_1_method_13_code
def yX11_worst : MethodName := ⟨RX11, "worst", "()I"⟩
abbrev cX11_needs : ByteArray := prog_1_method_14_code
def yX11_needs : MethodName := ⟨RX11, "needs", "(J)I"⟩
abbrev cX11_term : ByteArray := prog_1_method_15_code
def yX11_term : MethodName := ⟨RX11, "term", "(J)I"⟩
abbrev cX11_clear : ByteArray := prog_1_method_16_code
def yX11_clear : MethodName := ⟨RX11, "clear", "()I"⟩
abbrev cX11_about : ByteArray := prog_1_method_17_code
def yX11_about : MethodName := ⟨RX11, "about", "(I)J"⟩
abbrev cX11_sum : ByteArray := prog_1_method_18_code
def yX11_sum : MethodName := ⟨RX11, "sum", "(I)J"⟩
abbrev cX11_orders : ByteArray := prog_1_method_19_code
def yX11_orders : MethodName := ⟨RX11, "orders", "(I)J"⟩
abbrev cX11_order : ByteArray := prog_1_method_20_code
def yX11_order : MethodName := ⟨RX11, "order", "(II)I"⟩
abbrev cX11_bounds : ByteArray := prog_1_method_21_code
def yX11_bounds : MethodName := ⟨RX11, "bounds", "(I)J"⟩
abbrev cX11_truth : ByteArray := prog_1_method_22_code
def yX11_truth : MethodName := ⟨RX11, "truth", "(I)J"⟩
abbrev cX11_fits : ByteArray := prog_1_method_23_code
def yX11_fits : MethodName := ⟨RX11, "fits", "(II)I"⟩
abbrev cX11_change : ByteArray := prog_1_method_24_code
def yX11_change : MethodName := ⟨RX11, "change", "(II)I"⟩
abbrev cX11_better : ByteArray := prog_1_method_25_code
def yX11_better : MethodName := ⟨RX11, "better", "(I)J"⟩
abbrev cX11_betterSign : ByteArray := prog_1_method_26_code
def yX11_betterSign : MethodName := ⟨RX11, "betterSign", "(II)I"⟩
abbrev cX11_image : ByteArray := prog_1_method_27_code
def yX11_image : MethodName := ⟨RX11, "image", "(I)I"⟩
abbrev cX11_restore : ByteArray := prog_1_method_28_code
def yX11_restore : MethodName := ⟨RX11, "restore", "(I)I"⟩
abbrev cX11_told : ByteArray := prog_1_method_29_code
def yX11_told : MethodName := ⟨RX11, "told", "(I)I"⟩
abbrev cX11_workNow : ByteArray := prog_1_method_30_code
def yX11_workNow : MethodName := ⟨RX11, "workNow", "()V"⟩
abbrev cX11_forgetFindings : ByteArray := prog_1_method_31_code
def yX11_forgetFindings : MethodName := ⟨RX11, "forgetFindings", "()V"⟩
abbrev cX11_isOperator : ByteArray := prog_1_method_32_code
def yX11_isOperator : MethodName := ⟨RX11, "isOperator", "(I)Z"⟩
abbrev cX11_isLetter : ByteArray := prog_1_method_33_code
def yX11_isLetter : MethodName := ⟨RX11, "isLetter", "(I)Z"⟩
abbrev cX11_isDigit : ByteArray := prog_1_method_34_code
def yX11_isDigit : MethodName := ⟨RX11, "isDigit", "(I)Z"⟩
abbrev cX11_numberOf : ByteArray := prog_1_method_35_code
def yX11_numberOf : MethodName := ⟨RX11, "numberOf", "(I[I)I"⟩
abbrev cX11_at : ByteArray := prog_1_method_36_code
def yX11_at : MethodName := ⟨RX11, "at", "([JI)J"⟩
def RX12 : String := "LostDigitsModel"
def TX12 : u_T := fun k => match k with
  | 0 => ("LostDigitsModel", "digits", "I", false)
  | 1 => ("LostDigitsModel", "way", "I", false)
  | 2 => ("LostDigitsModel", "short0", "J", false)
  | 3 => ("LostDigitsModel", "zeros", "I", false)
  | 4 => ("LostDigitsModel", "upper0", "J", false)
  | 5 => ("LostDigitsModel", "lower0", "J", false)
  | 6 => ("LostDigitsModel", "power0", "I", false)
  | 7 => ("LostDigitsModel", "pad", "[I", true)
  | 8 => ("LostDigitsModel", "padMany", "I", false)
  | 9 => ("LostDigitsModel", "text", "[I", true)
  | 10 => ("LostDigitsModel", "textMany", "I", false)
  | 11 => ("LostDigitsModel", "number", "[I", true)
  | 12 => ("LostDigitsModel", "span", "[I", true)
  | 13 => ("LostDigitsModel", "now", "[I", true)
  | 14 => ("LostDigitsModel", "nowMany", "I", false)
  | 15 => ("LostDigitsModel", "sizeOf", "[I", true)
  | 16 => ("LostDigitsModel", "workedTo", "[J", true)
  | 17 => ("LostDigitsModel", "slip", "[J", true)
  | 18 => ("LostDigitsModel", "exactUpper", "[J", true)
  | 19 => ("LostDigitsModel", "exactLower", "[J", true)
  | 20 => ("LostDigitsModel", "more", "[I", true)
  | 21 => ("LostDigitsModel", "terms", "[J", true)
  | 22 => ("LostDigitsModel", "termMany", "I", false)
  | 23 => ("LostDigitsModel", "order", "[I", true)
  | 24 => ("LostDigitsModel", "bestLoss", "J", false)
  | 25 => ("LostDigitsModel", "bestMany", "I", false)
  | 26 => ("LostDigitsModel", "bestOrder", "[I", true)
  | 27 => ("LostDigitsModel", "low", "[J", true)
  | 28 => ("LostDigitsModel", "high", "[J", true)
  | 29 => ("LostDigitsModel", "built", "[I", true)
  | 30 => ("LostDigitsModel", "builtMany", "I", false)
  | 31 => ("LostDigitsModel", "better", "[I", true)
  | 32 => ("LostDigitsModel", "betterMany", "I", false)
  | 33 => ("LostDigitsModel", "betterLoss", "J", false)
  | 34 => ("LostDigitsModel", "base", "[I", true)
  | 35 => ("LostDigitsModel", "baseMany", "I", false)
  | 36 => ("LostDigitsModel", "kept", "[J", true)
  | 37 => ("LostDigitsModel", "isKept", "[Z", true)
  | 38 => ("LostDigitsModel", "keptAt", "I", false)
  | _ => ("LostDigitsModel", "isWriting", "Z", false)
def tyX12 : Nat → FieldType := fun k => match k with
  | 0 => .int
  | 1 => .int
  | 2 => .long
  | 3 => .int
  | 4 => .long
  | 5 => .long
  | 6 => .int
  | 7 => .array .int
  | 8 => .int
  | 9 => .array .int
  | 10 => .int
  | 11 => .array .int
  | 12 => .array .int
  | 13 => .array .int
  | 14 => .int
  | 15 => .array .int
  | 16 => .array .long
  | 17 => .array .long
  | 18 => .array .long
  | 19 => .array .long
  | 20 => .array .int
  | 21 => .array .long
  | 22 => .int
  | 23 => .array .int
  | 24 => .long
  | 25 => .int
  | 26 => .array .int
  | 27 => .array .long
  | 28 => .array .long
  | 29 => .array .int
  | 30 => .int
  | 31 => .array .int
  | 32 => .int
  | 33 => .long
  | 34 => .array .int
  | 35 => .int
  | 36 => .array .long
  | 37 => .array .boolean
  | 38 => .int
  | _ => .boolean
abbrev wsX120 : List Cond := u_ws RX12 TX12 40
theorem nmX12 : ∀ a, a < 40 → ∀ b, b < 40 → a ≠ b → (TX12 a).2.1 ≠ (TX12 b).2.1 := by decide +kernel
theorem tyX12_ok : ∀ k, k < 40 → parseFieldDescriptor (TX12 k).2.2.1 = some (tyX12 k) := by decide +kernel
abbrev cX12_init : ByteArray := prog_14_method_1_code
def yX12_init : MethodName := ⟨RX12, "<init>", "()V"⟩
abbrev cX12_in : ByteArray := prog_14_method_3_code
def yX12_in : MethodName := ⟨RX12, "in", "(JJJ)Z"⟩
abbrev cX12_isEnd : ByteArray := prog_14_method_4_code
def yX12_isEnd : MethodName := ⟨RX12, "isEnd", "(I)Z"⟩
abbrev cX12_size : ByteArray := prog_14_method_5_code
def yX12_size : MethodName := ⟨RX12, "size", "(J)J"⟩
abbrev cX12_power : ByteArray := prog_14_method_6_code
def yX12_power : MethodName := ⟨RX12, "power", "(I)J"⟩
abbrev cX12_rounded : ByteArray := prog_14_method_7_code
def yX12_rounded : MethodName := ⟨RX12, "rounded", "(ZJJIIZ)J"⟩
abbrev cX12_roundOf : ByteArray := prog_14_method_8_code
def yX12_roundOf : MethodName := ⟨RX12, "roundOf", "(JIZ)J"⟩
abbrev cX12_shorten : ByteArray := prog_14_method_9_code
def yX12_shorten : MethodName := ⟨RX12, "shorten", "(J)V"⟩
abbrev cX12_layBoth : ByteArray := prog_14_method_10_code
def yX12_layBoth : MethodName := ⟨RX12, "layBoth", "(IJJ)V"⟩
abbrev cX12_made : ByteArray := prog_14_method_11_code
def yX12_made : MethodName := ⟨RX12, "made", "(IJJIZ)J"⟩
abbrev cX12_whole : ByteArray := prog_14_method_12_code
def yX12_whole : MethodName := ⟨RX12, "whole", "(IJJ)J"⟩
abbrev cX12_set : ByteArray := prog_14_method_13_code
def yX12_set : MethodName := ⟨RX12, "set", "(II)I"⟩
abbrev cX12_round : ByteArray := prog_14_method_14_code
def yX12_round : MethodName := ⟨RX12, "round", "(III)J"⟩
abbrev cX12_say : ByteArray := prog_14_method_15_code
def yX12_say : MethodName := ⟨RX12, "say", "(I)I"⟩
abbrev cX12_wipe : ByteArray := prog_14_method_16_code
def yX12_wipe : MethodName := ⟨RX12, "wipe", "()I"⟩
abbrev cX12_isSign : ByteArray := prog_14_method_17_code
def yX12_isSign : MethodName := ⟨RX12, "isSign", "(I)Z"⟩
abbrev cX12_isLetter : ByteArray := prog_14_method_18_code
def yX12_isLetter : MethodName := ⟨RX12, "isLetter", "(I)Z"⟩
abbrev cX12_isDigit : ByteArray := prog_14_method_19_code
def yX12_isDigit : MethodName := ⟨RX12, "isDigit", "(I)Z"⟩
abbrev cX12_fault : ByteArray := prog_14_method_20_code
def yX12_fault : MethodName := ⟨RX12, "fault", "()I"⟩
abbrev cX12_text : ByteArray := prog_14_method_21_code
def yX12_text : MethodName := ⟨RX12, "text", "()I"⟩
abbrev cX12_isStep : ByteArray := prog_14_method_22_code
def yX12_isStep : MethodName := ⟨RX12, "isStep", "(I)Z"⟩
abbrev cX12_sign : ByteArray := prog_14_method_23_code
def yX12_sign : MethodName := ⟨RX12, "sign", "(I)I"⟩
abbrev cX12_put : ByteArray := prog_14_method_24_code
def yX12_put : MethodName := ⟨RX12, "put", "(III)I"⟩
abbrev cX12_layText : ByteArray := prog_14_method_25_code
def yX12_layText : MethodName := ⟨RX12, "layText", "()V"⟩
abbrev cX12_findSizes : ByteArray := prog_14_method_26_code
def yX12_findSizes : MethodName := ⟨RX12, "findSizes", "()V"⟩
abbrev cX12_wholeAt : ByteArray := prog_14_method_27_code
def yX12_wholeAt : MethodName := ⟨RX12, "wholeAt", "(I)I"⟩
abbrev cX12_work : ByteArray := prog_14_method_28_code
def yX12_work : MethodName := ⟨RX12, "work", "()V"⟩
abbrev cX12_common : ByteArray := prog_14_method_29_code
def yX12_common : MethodName := ⟨RX12, "common", "(JJ)J"⟩
abbrev cX12_layExact : ByteArray := prog_14_method_30_code
def yX12_layExact : MethodName := ⟨RX12, "layExact", "(IJJ)V"⟩
abbrev cX12_workExact : ByteArray := prog_14_method_31_code
def yX12_workExact : MethodName := ⟨RX12, "workExact", "()V"⟩
abbrev cX12_billionths : ByteArray := prog_14_method_32_code
def yX12_billionths : MethodName := ⟨RX12, "billionths", "(II)J"⟩
abbrev cX12_less : ByteArray := prog_14_method_33_code
def yX12_less : MethodName := ⟨RX12, "less", "(JJ)J"⟩
abbrev cX12_worked : ByteArray := prog_14_method_34_code
def yX12_worked : MethodName := ⟨RX12, "worked", "(II)J"⟩
abbrev cX12_exact : ByteArray := prog_14_method_35_code
def yX12_exact : MethodName := ⟨RX12, "exact", "(I)J"⟩
abbrev cX12_lossNow : ByteArray := prog_14_method_36_code
def yX12_lossNow : MethodName := ⟨RX12, "lossNow", "()J"⟩
abbrev cX12_loss : ByteArray := prog_14_method_37_code
def yX12_loss : MethodName := ⟨RX12, "loss", "()J"⟩
abbrev cX12_worst : ByteArray := prog_14_method_38_code
def yX12_worst : MethodName := ⟨RX12, "worst", "()I"⟩
abbrev cX12_needs : ByteArray := prog_14_method_39_code
def yX12_needs : MethodName := ⟨RX12, "needs", "(J)I"⟩
abbrev cX12_term : ByteArray := prog_14_method_40_code
def yX12_term : MethodName := ⟨RX12, "term", "(J)I"⟩
abbrev cX12_clear : ByteArray := prog_14_method_41_code
def yX12_clear : MethodName := ⟨RX12, "clear", "()I"⟩
abbrev cX12_about : ByteArray := prog_14_method_42_code
def yX12_about : MethodName := ⟨RX12, "about", "(I)J"⟩
abbrev cX12_layOrder : ByteArray := prog_14_method_43_code
def yX12_layOrder : MethodName := ⟨RX12, "layOrder", "()V"⟩
abbrev cX12_sumOf : ByteArray := prog_14_method_44_code
def yX12_sumOf : MethodName := ⟨RX12, "sumOf", "(II)J"⟩
abbrev cX12_wholeSum : ByteArray := prog_14_method_45_code
def yX12_wholeSum : MethodName := ⟨RX12, "wholeSum", "()J"⟩
abbrev cX12_beside : ByteArray := prog_14_method_46_code
def yX12_beside : MethodName := ⟨RX12, "beside", "()J"⟩
abbrev cX12_halfOf : ByteArray := prog_14_method_47_code
def yX12_halfOf : MethodName := ⟨RX12, "halfOf", "(II)J"⟩
abbrev cX12_halves : ByteArray := prog_14_method_48_code
def yX12_halves : MethodName := ⟨RX12, "halves", "()J"⟩
abbrev cX12_orderBySize : ByteArray := prog_14_method_49_code
def yX12_orderBySize : MethodName := ⟨RX12, "orderBySize", "()V"⟩
abbrev cX12_sum : ByteArray := prog_14_method_50_code
def yX12_sum : MethodName := ⟨RX12, "sum", "(I)J"⟩
abbrev cX12_nextOrder : ByteArray := prog_14_method_51_code
def yX12_nextOrder : MethodName := ⟨RX12, "nextOrder", "()Z"⟩
abbrev cX12_isBetter : ByteArray := prog_14_method_52_code
def yX12_isBetter : MethodName := ⟨RX12, "isBetter", "(IJ)Z"⟩
abbrev cX12_findOrders : ByteArray := prog_14_method_53_code
def yX12_findOrders : MethodName := ⟨RX12, "findOrders", "(I)V"⟩
abbrev cX12_orders : ByteArray := prog_14_method_54_code
def yX12_orders : MethodName := ⟨RX12, "orders", "(I)J"⟩
abbrev cX12_order : ByteArray := prog_14_method_55_code
def yX12_order : MethodName := ⟨RX12, "order", "(II)I"⟩
abbrev cX12_layEnds : ByteArray := prog_14_method_56_code
def yX12_layEnds : MethodName := ⟨RX12, "layEnds", "(IJJ)V"⟩
abbrev cX12_ofPairs : ByteArray := prog_14_method_57_code
def yX12_ofPairs : MethodName := ⟨RX12, "ofPairs", "(IIII)J"⟩
abbrev cX12_findEnds : ByteArray := prog_14_method_58_code
def yX12_findEnds : MethodName := ⟨RX12, "findEnds", "()V"⟩
abbrev cX12_bounds : ByteArray := prog_14_method_59_code
def yX12_bounds : MethodName := ⟨RX12, "bounds", "(I)J"⟩
abbrev cX12_isIn : ByteArray := prog_14_method_60_code
def yX12_isIn : MethodName := ⟨RX12, "isIn", "(I)Z"⟩
abbrev cX12_nextNumbers : ByteArray := prog_14_method_61_code
def yX12_nextNumbers : MethodName := ⟨RX12, "nextNumbers", "()Z"⟩
abbrev cX12_truthOf : ByteArray := prog_14_method_62_code
def yX12_truthOf : MethodName := ⟨RX12, "truthOf", "(I)J"⟩
abbrev cX12_truth : ByteArray := prog_14_method_63_code
def yX12_truth : MethodName := ⟨RX12, "truth", "(I)J"⟩
abbrev cX12_add : ByteArray := prog_14_method_64_code
def yX12_add : MethodName := ⟨RX12, "add", "(I)V"⟩
abbrev cX12_addPart : ByteArray := prog_14_method_65_code
def yX12_addPart : MethodName := ⟨RX12, "addPart", "(I)V"⟩
abbrev cX12_isSame : ByteArray := prog_14_method_66_code
def yX12_isSame : MethodName := ⟨RX12, "isSame", "(II)Z"⟩
abbrev cX12_hasSigns : ByteArray := prog_14_method_67_code
def yX12_hasSigns : MethodName := ⟨RX12, "hasSigns", "(IIII)Z"⟩
abbrev cX12_build : ByteArray := prog_14_method_68_code
def yX12_build : MethodName := ⟨RX12, "build", "(II)Z"⟩
abbrev cX12_buildPart : ByteArray := prog_14_method_69_code
def yX12_buildPart : MethodName := ⟨RX12, "buildPart", "(IIII)V"⟩
abbrev cX12_isRule : ByteArray := prog_14_method_70_code
def yX12_isRule : MethodName := ⟨RX12, "isRule", "(I)Z"⟩
abbrev cX12_fits : ByteArray := prog_14_method_71_code
def yX12_fits : MethodName := ⟨RX12, "fits", "(II)I"⟩
abbrev cX12_change : ByteArray := prog_14_method_72_code
def yX12_change : MethodName := ⟨RX12, "change", "(II)I"⟩
abbrev cX12_hold : ByteArray := prog_14_method_73_code
def yX12_hold : MethodName := ⟨RX12, "hold", "()V"⟩
abbrev cX12_layBuilt : ByteArray := prog_14_method_74_code
def yX12_layBuilt : MethodName := ⟨RX12, "layBuilt", "()V"⟩
abbrev cX12_layBase : ByteArray := prog_14_method_75_code
def yX12_layBase : MethodName := ⟨RX12, "layBase", "()V"⟩
abbrev cX12_keepBase : ByteArray := prog_14_method_76_code
def yX12_keepBase : MethodName := ⟨RX12, "keepBase", "()V"⟩
abbrev cX12_holdAll : ByteArray := prog_14_method_77_code
def yX12_holdAll : MethodName := ⟨RX12, "holdAll", "()V"⟩
abbrev cX12_findBetter : ByteArray := prog_14_method_78_code
def yX12_findBetter : MethodName := ⟨RX12, "findBetter", "(I)V"⟩
abbrev cX12_better : ByteArray := prog_14_method_79_code
def yX12_better : MethodName := ⟨RX12, "better", "(I)J"⟩
abbrev cX12_betterSign : ByteArray := prog_14_method_80_code
def yX12_betterSign : MethodName := ⟨RX12, "betterSign", "(II)I"⟩
abbrev cX12_pass : ByteArray := prog_14_method_81_code
def yX12_pass : MethodName := ⟨RX12, "pass", "(J)J"⟩
abbrev cX12_passAll : ByteArray := prog_14_method_82_code
def yX12_passAll : MethodName := ⟨RX12, "passAll", "()V"⟩
abbrev cX12_image : ByteArray := prog_14_method_83_code
def yX12_image : MethodName := ⟨RX12, "image", "(I)I"⟩
abbrev cX12_restore : ByteArray := prog_14_method_84_code
def yX12_restore : MethodName := ⟨RX12, "restore", "(I)I"⟩
abbrev cX12_told : ByteArray := prog_14_method_85_code
def yX12_told : MethodName := ⟨RX12, "told", "(I)I"⟩
def RJ9 : String := "java/lang/Math"
def TJ9 : u_T := fun k => match k with
  | _ => ("", "", "", false)
def tyJ9 : Nat → FieldType := fun k => match k with
  | _ => .int
abbrev wsJ90 : List Cond := u_ws RJ9 TJ9 0
theorem nmJ9 : ∀ a, a < 0 → ∀ b, b < 0 → a ≠ b → (TJ9 a).2.1 ≠ (TJ9 b).2.1 := by decide +kernel
theorem tyJ9_ok : ∀ k, k < 0 → parseFieldDescriptor (TJ9 k).2.2.1 = some (tyJ9 k) := by decide +kernel
abbrev cJ9_abs_067f4 : ByteArray := prog_15_method_61_code
def yJ9_abs_067f4 : MethodName := ⟨RJ9, "abs", "(J)J"⟩
abbrev cJ9_max_7cf53 : ByteArray := prog_15_method_65_code
def yJ9_max_7cf53 : MethodName := ⟨RJ9, "max", "(II)I"⟩
abbrev cJ9_max_f86c9 : ByteArray := prog_15_method_66_code
def yJ9_max_f86c9 : MethodName := ⟨RJ9, "max", "(JJ)J"⟩
abbrev cJ9_min_7cf53 : ByteArray := prog_15_method_69_code
def yJ9_min_7cf53 : MethodName := ⟨RJ9, "min", "(II)I"⟩
abbrev cJ9_min_f86c9 : ByteArray := prog_15_method_70_code
def yJ9_min_f86c9 : MethodName := ⟨RJ9, "min", "(JJ)J"⟩
def RJ10 : String := "java/lang/System"
def TJ10 : u_T := fun k => match k with
  | _ => ("", "", "", false)
def tyJ10 : Nat → FieldType := fun k => match k with
  | _ => .int
abbrev wsJ100 : List Cond := u_ws RJ10 TJ10 0
theorem nmJ10 : ∀ a, a < 0 → ∀ b, b < 0 → a ≠ b → (TJ10 a).2.1 ≠ (TJ10 b).2.1 := by decide +kernel
theorem tyJ10_ok : ∀ k, k < 0 → parseFieldDescriptor (TJ10 k).2.2.1 = some (tyJ10 k) := by decide +kernel
def RL : String := "LostDigitsLaw"
abbrev cL_law : ByteArray := code
def yL_law : MethodName := ⟨RL, "law", "([I)Z"⟩
abbrev f_cl : List vw_C := [(RX0, TX0, 2), (RX1, TX1, 7), (RX2, TX2, 8), (RX3, TX3, 3), (RX4, TX4, 3), (RX6, TX6, 6), (RX7, TX7, 11), (RX8, TX8, 5), (RX9, TX9, 5), (RX10, TX10, 4), (RX11, TX11, 12), (RX12, TX12, 40)]
/-- the words that last through calls -/
def f_tbl : List Cond := lw_tbl.filter goodWord
theorem f_tbl_lw {w : Cond} (h : w ∈ f_tbl) : w ∈ lw_tbl := (List.mem_filter.mp h).1
theorem f_tbl_ok {w : Cond} (h : w ∈ f_tbl) : (w.onTables && w.keeps) = true ∨ ∃ ty, w = .arrayClass ty := good_of_word (List.mem_filter.mp h).2
theorem f_t {w : Cond} (i : Nat) (h : tables_1[i]? = some w) (hg : goodWord w = true) : w ∈ f_tbl := List.mem_filter.mpr ⟨List.mem_append_right _ (List.mem_of_getElem? h), hg⟩
theorem f_p {w : Cond} (i : Nat) (h : (k2_sels lw_privs)[i]? = some w) (hg : goodWord w = true) : w ∈ f_tbl := List.mem_filter.mpr ⟨List.mem_append_left _ (List.mem_of_getElem? h), hg⟩
theorem f_ins {ws : List Cond} (ps : List Nat) (h : ws = ps.filterMap (fun i => tables_1[i]?)) (hg : ws.all goodWord = true) : ∀ w ∈ ws, w ∈ f_tbl := by
  intro w hw
  have hg1 := List.all_eq_true.mp hg w hw
  rw [h] at hw
  obtain ⟨i, -, hi⟩ := List.mem_filterMap.mp hw
  exact f_t i hi hg1
theorem inX0 : ∀ w ∈ u_ws RX0 TX0 2, w ∈ f_tbl := f_ins [172, 174] (by decide +kernel) (by decide +kernel)
theorem inX1 : ∀ w ∈ u_ws RX1 TX1 7, w ∈ f_tbl := f_ins [251, 253, 255, 257, 259, 261, 263] (by decide +kernel) (by decide +kernel)
theorem inX2 : ∀ w ∈ u_ws RX2 TX2 8, w ∈ f_tbl := f_ins [104, 106, 108, 110, 112, 114, 116, 118] (by decide +kernel) (by decide +kernel)
theorem inX3 : ∀ w ∈ u_ws RX3 TX3 3, w ∈ f_tbl := f_ins [134, 136, 138] (by decide +kernel) (by decide +kernel)
theorem inX4 : ∀ w ∈ u_ws RX4 TX4 3, w ∈ f_tbl := f_ins [151, 153, 155] (by decide +kernel) (by decide +kernel)
theorem inX6 : ∀ w ∈ u_ws RX6 TX6 6, w ∈ f_tbl := f_ins [339, 341, 343, 345, 347, 349] (by decide +kernel) (by decide +kernel)
theorem inX7 : ∀ w ∈ u_ws RX7 TX7 11, w ∈ f_tbl := f_ins [295, 297, 299, 301, 303, 305, 307, 309, 311, 313, 315] (by decide +kernel) (by decide +kernel)
theorem inX8 : ∀ w ∈ u_ws RX8 TX8 5, w ∈ f_tbl := f_ins [191, 193, 195, 197, 199] (by decide +kernel) (by decide +kernel)
theorem inX9 : ∀ w ∈ u_ws RX9 TX9 5, w ∈ f_tbl := f_ins [219, 221, 223, 225, 227] (by decide +kernel) (by decide +kernel)
theorem inX10 : ∀ w ∈ u_ws RX10 TX10 4, w ∈ f_tbl := f_ins [66, 68, 70, 72] (by decide +kernel) (by decide +kernel)
theorem inX11 : ∀ w ∈ u_ws RX11 TX11 12, w ∈ f_tbl := f_ins [364, 366, 368, 370, 372, 374, 376, 378, 380, 382, 384, 386] (by decide +kernel) (by decide +kernel)
theorem inX12 : ∀ w ∈ u_ws RX12 TX12 40, w ∈ f_tbl := f_ins [879, 881, 883, 885, 887, 889, 891, 893, 895, 897, 899, 901, 903, 905, 907, 909, 911, 913, 915, 917, 919, 921, 923, 925, 927, 929, 931, 933, 935, 937, 939, 941, 943, 945, 947, 949, 951, 953, 955, 957] (by decide +kernel) (by decide +kernel)
end
section
theorem hN_X0 : .initialized RX0 ∈ f_tbl := f_t 7 (by decide +kernel) rfl
theorem hN_X1 : .initialized RX1 ∈ f_tbl := f_t 9 (by decide +kernel) rfl
theorem hN_X2 : .initialized RX2 ∈ f_tbl := f_t 2 (by decide +kernel) rfl
theorem hN_X3 : .initialized RX3 ∈ f_tbl := f_t 4 (by decide +kernel) rfl
theorem hN_X4 : .initialized RX4 ∈ f_tbl := f_t 5 (by decide +kernel) rfl
theorem hN_X5 : .initialized RX5 ∈ f_tbl := f_t 15 (by decide +kernel) rfl
theorem hN_X6 : .initialized RX6 ∈ f_tbl := f_t 11 (by decide +kernel) rfl
theorem hN_X7 : .initialized RX7 ∈ f_tbl := f_t 10 (by decide +kernel) rfl
theorem hN_X8 : .initialized RX8 ∈ f_tbl := f_t 6 (by decide +kernel) rfl
theorem hN_X9 : .initialized RX9 ∈ f_tbl := f_t 8 (by decide +kernel) rfl
theorem hN_X10 : .initialized RX10 ∈ f_tbl := f_t 3 (by decide +kernel) rfl
theorem hN_X11 : .initialized RX11 ∈ f_tbl := f_t 1 (by decide +kernel) rfl
theorem hN_X12 : .initialized RX12 ∈ f_tbl := f_t 12 (by decide +kernel) rfl
theorem hN_J9 : .initialized RJ9 ∈ f_tbl := f_t 13 (by decide +kernel) rfl
theorem hN_J10 : .initialized RJ10 ∈ f_tbl := f_t 14 (by decide +kernel) rfl
theorem hN_L : .initialized RL ∈ f_tbl := f_t 0 (by decide +kernel) rfl
set_option maxRecDepth 100000 in
theorem hC_X0_init : Cond.code yX0_init cX0_init 1 none ∈ f_tbl := f_t 168 rfl rfl
theorem hI_X0_init : Cond.instanceMethod yX0_init ∈ f_tbl := f_t 167 (by decide +kernel) rfl
set_option maxRecDepth 100000 in
theorem hC_X0_workParts : Cond.code yX0_workParts cX0_workParts 6 none ∈ f_tbl := f_t 488 rfl rfl
theorem hI_X0_workParts : Cond.instanceMethod yX0_workParts ∈ f_tbl := f_t 486 (by decide +kernel) rfl
theorem hS_X0_workParts : Cond.selects RX0 yX0_workParts yX0_workParts ∈ f_tbl := f_t 487 (by decide +kernel) rfl
set_option maxRecDepth 100000 in
theorem hC_X0_join : Cond.code yX0_join cX0_join 13 none ∈ f_tbl := f_t 497 rfl rfl
theorem hI_X0_join : Cond.instanceMethod yX0_join ∈ f_tbl := f_t 496 (by decide +kernel) rfl
theorem hS_X0_join : Cond.selects RX0 yX0_join yX0_join ∈ f_tbl := f_p 3 (by decide +kernel) rfl
set_option maxRecDepth 100000 in
theorem hC_X0_billionths : Cond.code yX0_billionths cX0_billionths 13 (some .long) ∈ f_tbl := f_t 505 rfl rfl
theorem hI_X0_billionths : Cond.instanceMethod yX0_billionths ∈ f_tbl := f_t 503 (by decide +kernel) rfl
theorem hS_X0_billionths : Cond.selects RX0 yX0_billionths yX0_billionths ∈ f_tbl := f_t 504 (by decide +kernel) rfl
set_option maxRecDepth 100000 in
theorem hC_X0_lowest : Cond.code yX0_lowest cX0_lowest 4 (some .long) ∈ f_tbl := f_t 551 rfl rfl
theorem hI_X0_lowest : Cond.instanceMethod yX0_lowest ∈ f_tbl := f_t 549 (by decide +kernel) rfl
theorem hS_X0_lowest : Cond.selects RX0 yX0_lowest yX0_lowest ∈ f_tbl := f_t 550 (by decide +kernel) rfl
set_option maxRecDepth 100000 in
theorem hC_X0_sharedDivisor : Cond.code yX0_sharedDivisor cX0_sharedDivisor 11 (some .long) ∈ f_tbl := f_t 554 rfl rfl
theorem hT_X0_sharedDivisor : Cond.static yX0_sharedDivisor ∈ f_tbl := f_t 553 (by decide +kernel) rfl
set_option maxRecDepth 100000 in
theorem hC_X1_init : Cond.code yX1_init cX1_init 1 none ∈ f_tbl := f_t 234 rfl rfl
theorem hI_X1_init : Cond.instanceMethod yX1_init ∈ f_tbl := f_t 233 (by decide +kernel) rfl
set_option maxRecDepth 100000 in
theorem hC_X1_find : Cond.code yX1_find cX1_find 2 none ∈ f_tbl := f_t 656 rfl rfl
theorem hI_X1_find : Cond.instanceMethod yX1_find ∈ f_tbl := f_t 654 (by decide +kernel) rfl
theorem hS_X1_find : Cond.selects RX1 yX1_find yX1_find ∈ f_tbl := f_t 655 (by decide +kernel) rfl
set_option maxRecDepth 100000 in
theorem hC_X1_extend : Cond.code yX1_extend cX1_extend 8 none ∈ f_tbl := f_t 662 rfl rfl
theorem hI_X1_extend : Cond.instanceMethod yX1_extend ∈ f_tbl := f_t 661 (by decide +kernel) rfl
theorem hS_X1_extend : Cond.selects RX1 yX1_extend yX1_extend ∈ f_tbl := f_p 8 (by decide +kernel) rfl
set_option maxRecDepth 100000 in
theorem hC_X1_note : Cond.code yX1_note cX1_note 4 none ∈ f_tbl := f_t 666 rfl rfl
theorem hI_X1_note : Cond.instanceMethod yX1_note ∈ f_tbl := f_t 665 (by decide +kernel) rfl
theorem hS_X1_note : Cond.selects RX1 yX1_note yX1_note ∈ f_tbl := f_p 9 (by decide +kernel) rfl
set_option maxRecDepth 100000 in
theorem hC_X1_isPreferred : Cond.code yX1_isPreferred cX1_isPreferred 9 (some .boolean) ∈ f_tbl := f_t 669 rfl rfl
theorem hT_X1_isPreferred : Cond.static yX1_isPreferred ∈ f_tbl := f_t 668 (by decide +kernel) rfl
set_option maxRecDepth 100000 in
theorem hC_X2_init : Cond.code yX2_init cX2_init 2 none ∈ f_tbl := f_t 28 rfl rfl
theorem hI_X2_init : Cond.instanceMethod yX2_init ∈ f_tbl := f_t 27 (by decide +kernel) rfl
set_option maxRecDepth 100000 in
theorem hC_X2_copyFrom : Cond.code yX2_copyFrom cX2_copyFrom 2 none ∈ f_tbl := f_t 822 rfl rfl
theorem hI_X2_copyFrom : Cond.instanceMethod yX2_copyFrom ∈ f_tbl := f_t 820 (by decide +kernel) rfl
theorem hS_X2_copyFrom : Cond.selects RX2 yX2_copyFrom yX2_copyFrom ∈ f_tbl := f_t 821 (by decide +kernel) rfl
set_option maxRecDepth 100000 in
theorem hC_X3_init : Cond.code yX3_init cX3_init 1 none ∈ f_tbl := f_t 126 rfl rfl
theorem hI_X3_init : Cond.instanceMethod yX3_init ∈ f_tbl := f_t 125 (by decide +kernel) rfl
set_option maxRecDepth 100000 in
theorem hC_X3_hold : Cond.code yX3_hold cX3_hold 6 none ∈ f_tbl := f_t 407 rfl rfl
theorem hI_X3_hold : Cond.instanceMethod yX3_hold ∈ f_tbl := f_t 405 (by decide +kernel) rfl
theorem hS_X3_hold : Cond.selects RX3 yX3_hold yX3_hold ∈ f_tbl := f_t 406 (by decide +kernel) rfl
set_option maxRecDepth 100000 in
theorem hC_X3_join : Cond.code yX3_join cX3_join 12 (some .boolean) ∈ f_tbl := f_t 528 rfl rfl
theorem hI_X3_join : Cond.instanceMethod yX3_join ∈ f_tbl := f_t 526 (by decide +kernel) rfl
theorem hS_X3_join : Cond.selects RX3 yX3_join yX3_join ∈ f_tbl := f_t 527 (by decide +kernel) rfl
set_option maxRecDepth 100000 in
theorem hC_X3_lastZeros : Cond.code yX3_lastZeros cX3_lastZeros 5 (some .int) ∈ f_tbl := f_t 532 rfl rfl
theorem hT_X3_lastZeros : Cond.static yX3_lastZeros ∈ f_tbl := f_t 531 (by decide +kernel) rfl
set_option maxRecDepth 100000 in
theorem hC_X3_cut : Cond.code yX3_cut cX3_cut 8 (some .long) ∈ f_tbl := f_t 542 rfl rfl
theorem hI_X3_cut : Cond.instanceMethod yX3_cut ∈ f_tbl := f_t 540 (by decide +kernel) rfl
theorem hS_X3_cut : Cond.selects RX3 yX3_cut yX3_cut ∈ f_tbl := f_t 541 (by decide +kernel) rfl
set_option maxRecDepth 100000 in
theorem hC_X4_init : Cond.code yX4_init cX4_init 1 none ∈ f_tbl := f_t 145 rfl rfl
theorem hI_X4_init : Cond.instanceMethod yX4_init ∈ f_tbl := f_t 144 (by decide +kernel) rfl
set_option maxRecDepth 100000 in
theorem hC_X4_turn : Cond.code yX4_turn cX4_turn 3 none ∈ f_tbl := f_t 411 rfl rfl
theorem hI_X4_turn : Cond.instanceMethod yX4_turn ∈ f_tbl := f_t 409 (by decide +kernel) rfl
theorem hS_X4_turn : Cond.selects RX4 yX4_turn yX4_turn ∈ f_tbl := f_t 410 (by decide +kernel) rfl
set_option maxRecDepth 100000 in
theorem hC_X4_of : Cond.code yX4_of cX4_of 13 (some .long) ∈ f_tbl := f_t 415 rfl rfl
theorem hI_X4_of : Cond.instanceMethod yX4_of ∈ f_tbl := f_t 413 (by decide +kernel) rfl
theorem hS_X4_of : Cond.selects RX4 yX4_of yX4_of ∈ f_tbl := f_t 414 (by decide +kernel) rfl
set_option maxRecDepth 100000 in
theorem hC_X4_goesOn : Cond.code yX4_goesOn cX4_goesOn 8 (some .boolean) ∈ f_tbl := f_t 424 rfl rfl
theorem hI_X4_goesOn : Cond.instanceMethod yX4_goesOn ∈ f_tbl := f_t 423 (by decide +kernel) rfl
theorem hS_X4_goesOn : Cond.selects RX4 yX4_goesOn yX4_goesOn ∈ f_tbl := f_p 1 (by decide +kernel) rfl
set_option maxRecDepth 100000 in
theorem hC_X4_placed : Cond.code yX4_placed cX4_placed 12 (some .long) ∈ f_tbl := f_t 429 rfl rfl
theorem hI_X4_placed : Cond.instanceMethod yX4_placed ∈ f_tbl := f_t 428 (by decide +kernel) rfl
theorem hS_X4_placed : Cond.selects RX4 yX4_placed yX4_placed ∈ f_tbl := f_p 2 (by decide +kernel) rfl
set_option maxRecDepth 100000 in
theorem hC_X5_suits : Cond.code yX5_suits cX5_suits 8 (some .boolean) ∈ f_tbl := f_t 742 rfl rfl
theorem hT_X5_suits : Cond.static yX5_suits ∈ f_tbl := f_t 741 (by decide +kernel) rfl
set_option maxRecDepth 100000 in
theorem hC_X5_hasRoomToSpread : Cond.code yX5_hasRoomToSpread cX5_hasRoomToSpread 3 (some .boolean) ∈ f_tbl := f_t 747 rfl rfl
theorem hT_X5_hasRoomToSpread : Cond.static yX5_hasRoomToSpread ∈ f_tbl := f_t 746 (by decide +kernel) rfl
set_option maxRecDepth 100000 in
theorem hC_X5_sharesFactor : Cond.code yX5_sharesFactor cX5_sharesFactor 2 (some .boolean) ∈ f_tbl := f_t 751 rfl rfl
theorem hT_X5_sharesFactor : Cond.static yX5_sharesFactor ∈ f_tbl := f_t 750 (by decide +kernel) rfl
set_option maxRecDepth 100000 in
theorem hC_X5_isOfSquares : Cond.code yX5_isOfSquares cX5_isOfSquares 3 (some .boolean) ∈ f_tbl := f_t 759 rfl rfl
theorem hT_X5_isOfSquares : Cond.static yX5_isOfSquares ∈ f_tbl := f_t 758 (by decide +kernel) rfl
set_option maxRecDepth 100000 in
theorem hC_X5_write : Cond.code yX5_write cX5_write 4 (some .boolean) ∈ f_tbl := f_t 766 rfl rfl
theorem hT_X5_write : Cond.static yX5_write ∈ f_tbl := f_t 765 (by decide +kernel) rfl
set_option maxRecDepth 100000 in
theorem hC_X5_writeShift : Cond.code yX5_writeShift cX5_writeShift 7 none ∈ f_tbl := f_t 783 rfl rfl
theorem hT_X5_writeShift : Cond.static yX5_writeShift ∈ f_tbl := f_t 782 (by decide +kernel) rfl
set_option maxRecDepth 100000 in
theorem hC_X5_writeFactors : Cond.code yX5_writeFactors cX5_writeFactors 6 none ∈ f_tbl := f_t 774 rfl rfl
theorem hT_X5_writeFactors : Cond.static yX5_writeFactors ∈ f_tbl := f_t 773 (by decide +kernel) rfl
set_option maxRecDepth 100000 in
theorem hC_X6_init : Cond.code yX6_init cX6_init 1 none ∈ f_tbl := f_t 322 rfl rfl
theorem hI_X6_init : Cond.instanceMethod yX6_init ∈ f_tbl := f_t 321 (by decide +kernel) rfl
set_option maxRecDepth 100000 in
theorem hC_X6_find : Cond.code yX6_find cX6_find 5 none ∈ f_tbl := f_t 797 rfl rfl
theorem hI_X6_find : Cond.instanceMethod yX6_find ∈ f_tbl := f_t 795 (by decide +kernel) rfl
theorem hS_X6_find : Cond.selects RX6 yX6_find yX6_find ∈ f_tbl := f_t 796 (by decide +kernel) rfl
set_option maxRecDepth 100000 in
theorem hC_X6_changeAgain : Cond.code yX6_changeAgain cX6_changeAgain 3 none ∈ f_tbl := f_t 810 rfl rfl
theorem hI_X6_changeAgain : Cond.instanceMethod yX6_changeAgain ∈ f_tbl := f_t 809 (by decide +kernel) rfl
theorem hS_X6_changeAgain : Cond.selects RX6 yX6_changeAgain yX6_changeAgain ∈ f_tbl := f_p 16 (by decide +kernel) rfl
set_option maxRecDepth 100000 in
theorem hC_X6_consider : Cond.code yX6_consider cX6_consider 5 none ∈ f_tbl := f_t 802 rfl rfl
theorem hI_X6_consider : Cond.instanceMethod yX6_consider ∈ f_tbl := f_t 801 (by decide +kernel) rfl
theorem hS_X6_consider : Cond.selects RX6 yX6_consider yX6_consider ∈ f_tbl := f_p 15 (by decide +kernel) rfl
set_option maxRecDepth 100000 in
theorem hC_X7_init : Cond.code yX7_init cX7_init 1 none ∈ f_tbl := f_t 270 rfl rfl
theorem hI_X7_init : Cond.instanceMethod yX7_init ∈ f_tbl := f_t 269 (by decide +kernel) rfl
set_option maxRecDepth 100000 in
theorem hC_X7_bound : Cond.code yX7_bound cX7_bound 6 none ∈ f_tbl := f_t 685 rfl rfl
theorem hI_X7_bound : Cond.instanceMethod yX7_bound ∈ f_tbl := f_t 683 (by decide +kernel) rfl
theorem hS_X7_bound : Cond.selects RX7 yX7_bound yX7_bound ∈ f_tbl := f_t 684 (by decide +kernel) rfl
set_option maxRecDepth 100000 in
theorem hC_X7_join : Cond.code yX7_join cX7_join 14 none ∈ f_tbl := f_t 693 rfl rfl
theorem hI_X7_join : Cond.instanceMethod yX7_join ∈ f_tbl := f_t 692 (by decide +kernel) rfl
theorem hS_X7_join : Cond.selects RX7 yX7_join yX7_join ∈ f_tbl := f_p 10 (by decide +kernel) rfl
set_option maxRecDepth 100000 in
theorem hC_X7_makeGreat : Cond.code yX7_makeGreat cX7_makeGreat 2 none ∈ f_tbl := f_t 698 rfl rfl
theorem hI_X7_makeGreat : Cond.instanceMethod yX7_makeGreat ∈ f_tbl := f_t 697 (by decide +kernel) rfl
theorem hS_X7_makeGreat : Cond.selects RX7 yX7_makeGreat yX7_makeGreat ∈ f_tbl := f_p 11 (by decide +kernel) rfl
set_option maxRecDepth 100000 in
theorem hC_X7_widen : Cond.code yX7_widen cX7_widen 11 (some .boolean) ∈ f_tbl := f_t 704 rfl rfl
theorem hI_X7_widen : Cond.instanceMethod yX7_widen ∈ f_tbl := f_t 703 (by decide +kernel) rfl
theorem hS_X7_widen : Cond.selects RX7 yX7_widen yX7_widen ∈ f_tbl := f_p 12 (by decide +kernel) rfl
set_option maxRecDepth 100000 in
theorem hC_X7_findTruth : Cond.code yX7_findTruth cX7_findTruth 7 none ∈ f_tbl := f_t 723 rfl rfl
theorem hI_X7_findTruth : Cond.instanceMethod yX7_findTruth ∈ f_tbl := f_t 721 (by decide +kernel) rfl
theorem hS_X7_findTruth : Cond.selects RX7 yX7_findTruth yX7_findTruth ∈ f_tbl := f_t 722 (by decide +kernel) rfl
set_option maxRecDepth 100000 in
theorem hC_X7_startTrials : Cond.code yX7_startTrials cX7_startTrials 5 (some .int) ∈ f_tbl := f_t 727 rfl rfl
theorem hI_X7_startTrials : Cond.instanceMethod yX7_startTrials ∈ f_tbl := f_t 726 (by decide +kernel) rfl
theorem hS_X7_startTrials : Cond.selects RX7 yX7_startTrials yX7_startTrials ∈ f_tbl := f_p 13 (by decide +kernel) rfl
set_option maxRecDepth 100000 in
theorem hC_X7_nextTrial : Cond.code yX7_nextTrial cX7_nextTrial 4 (some .int) ∈ f_tbl := f_t 735 rfl rfl
theorem hI_X7_nextTrial : Cond.instanceMethod yX7_nextTrial ∈ f_tbl := f_t 734 (by decide +kernel) rfl
theorem hS_X7_nextTrial : Cond.selects RX7 yX7_nextTrial yX7_nextTrial ∈ f_tbl := f_p 14 (by decide +kernel) rfl
set_option maxRecDepth 100000 in
theorem hC_X8_init : Cond.code yX8_init cX8_init 1 none ∈ f_tbl := f_t 162 rfl rfl
theorem hI_X8_init : Cond.instanceMethod yX8_init ∈ f_tbl := f_t 161 (by decide +kernel) rfl
set_option maxRecDepth 100000 in
theorem hC_X8_work : Cond.code yX8_work cX8_work 10 none ∈ f_tbl := f_t 516 rfl rfl
theorem hI_X8_work : Cond.instanceMethod yX8_work ∈ f_tbl := f_t 514 (by decide +kernel) rfl
theorem hS_X8_work : Cond.selects RX8 yX8_work yX8_work ∈ f_tbl := f_t 515 (by decide +kernel) rfl
set_option maxRecDepth 100000 in
theorem hC_X8_lossOf : Cond.code yX8_lossOf cX8_lossOf 5 (some .long) ∈ f_tbl := f_t 562 rfl rfl
theorem hI_X8_lossOf : Cond.instanceMethod yX8_lossOf ∈ f_tbl := f_t 560 (by decide +kernel) rfl
theorem hS_X8_lossOf : Cond.selects RX8 yX8_lossOf yX8_lossOf ∈ f_tbl := f_t 561 (by decide +kernel) rfl
set_option maxRecDepth 100000 in
theorem hC_X9_init : Cond.code yX9_init cX9_init 1 none ∈ f_tbl := f_t 206 rfl rfl
theorem hI_X9_init : Cond.instanceMethod yX9_init ∈ f_tbl := f_t 205 (by decide +kernel) rfl
set_option maxRecDepth 100000 in
theorem hC_X9_take : Cond.code yX9_take cX9_take 2 none ∈ f_tbl := f_t 597 rfl rfl
theorem hI_X9_take : Cond.instanceMethod yX9_take ∈ f_tbl := f_t 595 (by decide +kernel) rfl
theorem hS_X9_take : Cond.selects RX9 yX9_take yX9_take ∈ f_tbl := f_t 596 (by decide +kernel) rfl
set_option maxRecDepth 100000 in
theorem hC_X9_plus : Cond.code yX9_plus cX9_plus 5 (some .long) ∈ f_tbl := f_t 615 rfl rfl
theorem hI_X9_plus : Cond.instanceMethod yX9_plus ∈ f_tbl := f_t 613 (by decide +kernel) rfl
theorem hS_X9_plus : Cond.selects RX9 yX9_plus yX9_plus ∈ f_tbl := f_t 614 (by decide +kernel) rfl
set_option maxRecDepth 100000 in
theorem hC_X9_less : Cond.code yX9_less cX9_less 5 (some .long) ∈ f_tbl := f_t 626 rfl rfl
theorem hI_X9_less : Cond.instanceMethod yX9_less ∈ f_tbl := f_t 625 (by decide +kernel) rfl
theorem hS_X9_less : Cond.selects RX9 yX9_less yX9_less ∈ f_tbl := f_p 5 (by decide +kernel) rfl
set_option maxRecDepth 100000 in
theorem hC_X9_whole : Cond.code yX9_whole cX9_whole 4 (some .long) ∈ f_tbl := f_t 648 rfl rfl
theorem hI_X9_whole : Cond.instanceMethod yX9_whole ∈ f_tbl := f_t 646 (by decide +kernel) rfl
theorem hS_X9_whole : Cond.selects RX9 yX9_whole yX9_whole ∈ f_tbl := f_t 647 (by decide +kernel) rfl
set_option maxRecDepth 100000 in
theorem hC_X9_asTold : Cond.code yX9_asTold cX9_asTold 4 (some .long) ∈ f_tbl := f_t 611 rfl rfl
theorem hI_X9_asTold : Cond.instanceMethod yX9_asTold ∈ f_tbl := f_t 609 (by decide +kernel) rfl
theorem hS_X9_asTold : Cond.selects RX9 yX9_asTold yX9_asTold ∈ f_tbl := f_t 610 (by decide +kernel) rfl
set_option maxRecDepth 100000 in
theorem hC_X9_beside : Cond.code yX9_beside cX9_beside 10 (some .long) ∈ f_tbl := f_t 622 rfl rfl
theorem hI_X9_beside : Cond.instanceMethod yX9_beside ∈ f_tbl := f_t 620 (by decide +kernel) rfl
theorem hS_X9_beside : Cond.selects RX9 yX9_beside yX9_beside ∈ f_tbl := f_t 621 (by decide +kernel) rfl
set_option maxRecDepth 100000 in
theorem hC_X9_halves : Cond.code yX9_halves cX9_halves 1 (some .long) ∈ f_tbl := f_t 630 rfl rfl
theorem hI_X9_halves : Cond.instanceMethod yX9_halves ∈ f_tbl := f_t 628 (by decide +kernel) rfl
theorem hS_X9_halves : Cond.selects RX9 yX9_halves yX9_halves ∈ f_tbl := f_t 629 (by decide +kernel) rfl
set_option maxRecDepth 100000 in
theorem hC_X9_halfSum : Cond.code yX9_halfSum cX9_halfSum 6 (some .long) ∈ f_tbl := f_t 634 rfl rfl
theorem hI_X9_halfSum : Cond.instanceMethod yX9_halfSum ∈ f_tbl := f_t 633 (by decide +kernel) rfl
theorem hS_X9_halfSum : Cond.selects RX9 yX9_halfSum yX9_halfSum ∈ f_tbl := f_p 6 (by decide +kernel) rfl
set_option maxRecDepth 100000 in
theorem hC_X9_bySize : Cond.code yX9_bySize cX9_bySize 4 (some .long) ∈ f_tbl := f_t 638 rfl rfl
theorem hI_X9_bySize : Cond.instanceMethod yX9_bySize ∈ f_tbl := f_t 636 (by decide +kernel) rfl
theorem hS_X9_bySize : Cond.selects RX9 yX9_bySize yX9_bySize ∈ f_tbl := f_t 637 (by decide +kernel) rfl
set_option maxRecDepth 100000 in
theorem hC_X9_insertBySize : Cond.code yX9_insertBySize cX9_insertBySize 3 none ∈ f_tbl := f_t 642 rfl rfl
theorem hI_X9_insertBySize : Cond.instanceMethod yX9_insertBySize ∈ f_tbl := f_t 641 (by decide +kernel) rfl
theorem hS_X9_insertBySize : Cond.selects RX9 yX9_insertBySize yX9_insertBySize ∈ f_tbl := f_p 7 (by decide +kernel) rfl
set_option maxRecDepth 100000 in
theorem hC_X10_init : Cond.code yX10_init cX10_init 1 none ∈ f_tbl := f_t 34 rfl rfl
theorem hI_X10_init : Cond.instanceMethod yX10_init ∈ f_tbl := f_t 33 (by decide +kernel) rfl
set_option maxRecDepth 100000 in
theorem hC_X10_copyFrom : Cond.code yX10_copyFrom cX10_copyFrom 2 none ∈ f_tbl := f_t 788 rfl rfl
theorem hI_X10_copyFrom : Cond.instanceMethod yX10_copyFrom ∈ f_tbl := f_t 786 (by decide +kernel) rfl
theorem hS_X10_copyFrom : Cond.selects RX10 yX10_copyFrom yX10_copyFrom ∈ f_tbl := f_t 787 (by decide +kernel) rfl
set_option maxRecDepth 100000 in
theorem hC_X10_read : Cond.code yX10_read cX10_read 4 none ∈ f_tbl := f_t 459 rfl rfl
theorem hI_X10_read : Cond.instanceMethod yX10_read ∈ f_tbl := f_t 457 (by decide +kernel) rfl
theorem hS_X10_read : Cond.selects RX10 yX10_read yX10_read ∈ f_tbl := f_t 458 (by decide +kernel) rfl
set_option maxRecDepth 100000 in
theorem hC_X10_add : Cond.code yX10_add cX10_add 2 none ∈ f_tbl := f_t 463 rfl rfl
theorem hI_X10_add : Cond.instanceMethod yX10_add ∈ f_tbl := f_t 461 (by decide +kernel) rfl
theorem hS_X10_add : Cond.selects RX10 yX10_add yX10_add ∈ f_tbl := f_t 462 (by decide +kernel) rfl
set_option maxRecDepth 100000 in
theorem hC_X10_addPlaces : Cond.code yX10_addPlaces cX10_addPlaces 5 none ∈ f_tbl := f_t 771 rfl rfl
theorem hI_X10_addPlaces : Cond.instanceMethod yX10_addPlaces ∈ f_tbl := f_t 769 (by decide +kernel) rfl
theorem hS_X10_addPlaces : Cond.selects RX10 yX10_addPlaces yX10_addPlaces ∈ f_tbl := f_t 770 (by decide +kernel) rfl
set_option maxRecDepth 100000 in
theorem hC_X10_addPart : Cond.code yX10_addPart cX10_addPart 3 none ∈ f_tbl := f_t 779 rfl rfl
theorem hI_X10_addPart : Cond.instanceMethod yX10_addPart ∈ f_tbl := f_t 777 (by decide +kernel) rfl
theorem hS_X10_addPart : Cond.selects RX10 yX10_addPart yX10_addPart ∈ f_tbl := f_t 778 (by decide +kernel) rfl
set_option maxRecDepth 100000 in
theorem hC_X10_findParts : Cond.code yX10_findParts cX10_findParts 3 none ∈ f_tbl := f_t 39 rfl rfl
theorem hI_X10_findParts : Cond.instanceMethod yX10_findParts ∈ f_tbl := f_t 37 (by decide +kernel) rfl
theorem hS_X10_findParts : Cond.selects RX10 yX10_findParts yX10_findParts ∈ f_tbl := f_t 38 (by decide +kernel) rfl
set_option maxRecDepth 100000 in
theorem hC_X10_has : Cond.code yX10_has cX10_has 2 (some .boolean) ∈ f_tbl := f_t 471 rfl rfl
theorem hI_X10_has : Cond.instanceMethod yX10_has ∈ f_tbl := f_t 469 (by decide +kernel) rfl
theorem hS_X10_has : Cond.selects RX10 yX10_has yX10_has ∈ f_tbl := f_t 470 (by decide +kernel) rfl
set_option maxRecDepth 100000 in
theorem hC_X10_signAt : Cond.code yX10_signAt cX10_signAt 2 (some .int) ∈ f_tbl := f_t 475 rfl rfl
theorem hI_X10_signAt : Cond.instanceMethod yX10_signAt ∈ f_tbl := f_t 473 (by decide +kernel) rfl
theorem hS_X10_signAt : Cond.selects RX10 yX10_signAt yX10_signAt ∈ f_tbl := f_t 474 (by decide +kernel) rfl
set_option maxRecDepth 100000 in
theorem hC_X10_endOf : Cond.code yX10_endOf cX10_endOf 2 (some .int) ∈ f_tbl := f_t 46 rfl rfl
theorem hI_X10_endOf : Cond.instanceMethod yX10_endOf ∈ f_tbl := f_t 44 (by decide +kernel) rfl
theorem hS_X10_endOf : Cond.selects RX10 yX10_endOf yX10_endOf ∈ f_tbl := f_t 45 (by decide +kernel) rfl
set_option maxRecDepth 100000 in
theorem hC_X10_lettersOf : Cond.code yX10_lettersOf cX10_lettersOf 2 (some .int) ∈ f_tbl := f_t 50 rfl rfl
theorem hI_X10_lettersOf : Cond.instanceMethod yX10_lettersOf ∈ f_tbl := f_t 48 (by decide +kernel) rfl
theorem hS_X10_lettersOf : Cond.selects RX10 yX10_lettersOf yX10_lettersOf ∈ f_tbl := f_t 49 (by decide +kernel) rfl
set_option maxRecDepth 100000 in
theorem hC_X10_secondOf : Cond.code yX10_secondOf cX10_secondOf 2 (some .int) ∈ f_tbl := f_t 493 rfl rfl
theorem hI_X10_secondOf : Cond.instanceMethod yX10_secondOf ∈ f_tbl := f_t 491 (by decide +kernel) rfl
theorem hS_X10_secondOf : Cond.selects RX10 yX10_secondOf yX10_secondOf ∈ f_tbl := f_t 492 (by decide +kernel) rfl
set_option maxRecDepth 100000 in
theorem hC_X10_areAlike : Cond.code yX10_areAlike cX10_areAlike 5 (some .boolean) ∈ f_tbl := f_t 755 rfl rfl
theorem hI_X10_areAlike : Cond.instanceMethod yX10_areAlike ∈ f_tbl := f_t 753 (by decide +kernel) rfl
theorem hS_X10_areAlike : Cond.selects RX10 yX10_areAlike yX10_areAlike ∈ f_tbl := f_t 754 (by decide +kernel) rfl
set_option maxRecDepth 100000 in
theorem hC_X11_init : Cond.code yX11_init cX11_init 1 none ∈ f_tbl := f_t 20 rfl rfl
theorem hI_X11_init : Cond.instanceMethod yX11_init ∈ f_tbl := f_t 19 (by decide +kernel) rfl
set_option maxRecDepth 100000 in
theorem hC_X11_set : Cond.code yX11_set cX11_set 4 (some .int) ∈ f_tbl := f_t 392 rfl rfl
theorem hI_X11_set : Cond.instanceMethod yX11_set ∈ f_tbl := f_t 390 (by decide +kernel) rfl
theorem hS_X11_set : Cond.selects RX11 yX11_set yX11_set ∈ f_tbl := f_t 391 (by decide +kernel) rfl
set_option maxRecDepth 100000 in
theorem hC_X11_round : Cond.code yX11_round cX11_round 4 (some .long) ∈ f_tbl := f_t 400 rfl rfl
theorem hI_X11_round : Cond.instanceMethod yX11_round ∈ f_tbl := f_t 398 (by decide +kernel) rfl
theorem hS_X11_round : Cond.selects RX11 yX11_round yX11_round ∈ f_tbl := f_t 399 (by decide +kernel) rfl
set_option maxRecDepth 100000 in
theorem hC_X11_say : Cond.code yX11_say cX11_say 2 (some .int) ∈ f_tbl := f_t 437 rfl rfl
theorem hI_X11_say : Cond.instanceMethod yX11_say ∈ f_tbl := f_t 435 (by decide +kernel) rfl
theorem hS_X11_say : Cond.selects RX11 yX11_say yX11_say ∈ f_tbl := f_t 436 (by decide +kernel) rfl
set_option maxRecDepth 100000 in
theorem hC_X11_wipe : Cond.code yX11_wipe cX11_wipe 2 (some .int) ∈ f_tbl := f_t 441 rfl rfl
theorem hI_X11_wipe : Cond.instanceMethod yX11_wipe ∈ f_tbl := f_t 439 (by decide +kernel) rfl
theorem hS_X11_wipe : Cond.selects RX11 yX11_wipe yX11_wipe ∈ f_tbl := f_t 440 (by decide +kernel) rfl
set_option maxRecDepth 100000 in
theorem hC_X11_fault : Cond.code yX11_fault cX11_fault 3 (some .int) ∈ f_tbl := f_t 445 rfl rfl
theorem hI_X11_fault : Cond.instanceMethod yX11_fault ∈ f_tbl := f_t 443 (by decide +kernel) rfl
theorem hS_X11_fault : Cond.selects RX11 yX11_fault yX11_fault ∈ f_tbl := f_t 444 (by decide +kernel) rfl
set_option maxRecDepth 100000 in
theorem hC_X11_text : Cond.code yX11_text cX11_text 1 (some .int) ∈ f_tbl := f_t 454 rfl rfl
theorem hI_X11_text : Cond.instanceMethod yX11_text ∈ f_tbl := f_t 452 (by decide +kernel) rfl
theorem hS_X11_text : Cond.selects RX11 yX11_text yX11_text ∈ f_tbl := f_t 453 (by decide +kernel) rfl
set_option maxRecDepth 100000 in
theorem hC_X11_sign : Cond.code yX11_sign cX11_sign 2 (some .int) ∈ f_tbl := f_t 467 rfl rfl
theorem hI_X11_sign : Cond.instanceMethod yX11_sign ∈ f_tbl := f_t 465 (by decide +kernel) rfl
theorem hS_X11_sign : Cond.selects RX11 yX11_sign yX11_sign ∈ f_tbl := f_t 466 (by decide +kernel) rfl
set_option maxRecDepth 100000 in
theorem hC_X11_put : Cond.code yX11_put cX11_put 5 (some .int) ∈ f_tbl := f_t 479 rfl rfl
theorem hI_X11_put : Cond.instanceMethod yX11_put ∈ f_tbl := f_t 477 (by decide +kernel) rfl
theorem hS_X11_put : Cond.selects RX11 yX11_put yX11_put ∈ f_tbl := f_t 478 (by decide +kernel) rfl
set_option maxRecDepth 100000 in
theorem hC_X11_worked : Cond.code yX11_worked cX11_worked 3 (some .long) ∈ f_tbl := f_t 483 rfl rfl
theorem hI_X11_worked : Cond.instanceMethod yX11_worked ∈ f_tbl := f_t 481 (by decide +kernel) rfl
theorem hS_X11_worked : Cond.selects RX11 yX11_worked yX11_worked ∈ f_tbl := f_t 482 (by decide +kernel) rfl
set_option maxRecDepth 100000 in
theorem hC_X11_exact : Cond.code yX11_exact cX11_exact 2 (some .long) ∈ f_tbl := f_t 547 rfl rfl
theorem hI_X11_exact : Cond.instanceMethod yX11_exact ∈ f_tbl := f_t 545 (by decide +kernel) rfl
theorem hS_X11_exact : Cond.selects RX11 yX11_exact yX11_exact ∈ f_tbl := f_t 546 (by decide +kernel) rfl
set_option maxRecDepth 100000 in
theorem hC_X11_loss : Cond.code yX11_loss cX11_loss 1 (some .long) ∈ f_tbl := f_t 558 rfl rfl
theorem hI_X11_loss : Cond.instanceMethod yX11_loss ∈ f_tbl := f_t 556 (by decide +kernel) rfl
theorem hS_X11_loss : Cond.selects RX11 yX11_loss yX11_loss ∈ f_tbl := f_t 557 (by decide +kernel) rfl
set_option maxRecDepth 100000 in
theorem hC_X11_worst : Cond.code yX11_worst cX11_worst 7 (some .int) ∈ f_tbl := f_t 569 rfl rfl
theorem hI_X11_worst : Cond.instanceMethod yX11_worst ∈ f_tbl := f_t 567 (by decide +kernel) rfl
theorem hS_X11_worst : Cond.selects RX11 yX11_worst yX11_worst ∈ f_tbl := f_t 568 (by decide +kernel) rfl
set_option maxRecDepth 100000 in
theorem hC_X11_needs : Cond.code yX11_needs cX11_needs 6 (some .int) ∈ f_tbl := f_t 574 rfl rfl
theorem hI_X11_needs : Cond.instanceMethod yX11_needs ∈ f_tbl := f_t 572 (by decide +kernel) rfl
theorem hS_X11_needs : Cond.selects RX11 yX11_needs yX11_needs ∈ f_tbl := f_t 573 (by decide +kernel) rfl
set_option maxRecDepth 100000 in
theorem hC_X11_term : Cond.code yX11_term cX11_term 5 (some .int) ∈ f_tbl := f_t 578 rfl rfl
theorem hI_X11_term : Cond.instanceMethod yX11_term ∈ f_tbl := f_t 576 (by decide +kernel) rfl
theorem hS_X11_term : Cond.selects RX11 yX11_term yX11_term ∈ f_tbl := f_t 577 (by decide +kernel) rfl
set_option maxRecDepth 100000 in
theorem hC_X11_clear : Cond.code yX11_clear cX11_clear 2 (some .int) ∈ f_tbl := f_t 584 rfl rfl
theorem hI_X11_clear : Cond.instanceMethod yX11_clear ∈ f_tbl := f_t 582 (by decide +kernel) rfl
theorem hS_X11_clear : Cond.selects RX11 yX11_clear yX11_clear ∈ f_tbl := f_t 583 (by decide +kernel) rfl
set_option maxRecDepth 100000 in
theorem hC_X11_about : Cond.code yX11_about cX11_about 2 (some .long) ∈ f_tbl := f_t 588 rfl rfl
theorem hI_X11_about : Cond.instanceMethod yX11_about ∈ f_tbl := f_t 586 (by decide +kernel) rfl
theorem hS_X11_about : Cond.selects RX11 yX11_about yX11_about ∈ f_tbl := f_t 587 (by decide +kernel) rfl
set_option maxRecDepth 100000 in
theorem hC_X11_sum : Cond.code yX11_sum cX11_sum 2 (some .long) ∈ f_tbl := f_t 592 rfl rfl
theorem hI_X11_sum : Cond.instanceMethod yX11_sum ∈ f_tbl := f_t 590 (by decide +kernel) rfl
theorem hS_X11_sum : Cond.selects RX11 yX11_sum yX11_sum ∈ f_tbl := f_t 591 (by decide +kernel) rfl
set_option maxRecDepth 100000 in
theorem hC_X11_orders : Cond.code yX11_orders cX11_orders 2 (some .long) ∈ f_tbl := f_t 652 rfl rfl
theorem hI_X11_orders : Cond.instanceMethod yX11_orders ∈ f_tbl := f_t 650 (by decide +kernel) rfl
theorem hS_X11_orders : Cond.selects RX11 yX11_orders yX11_orders ∈ f_tbl := f_t 651 (by decide +kernel) rfl
set_option maxRecDepth 100000 in
theorem hC_X11_order : Cond.code yX11_order cX11_order 3 (some .int) ∈ f_tbl := f_t 677 rfl rfl
theorem hI_X11_order : Cond.instanceMethod yX11_order ∈ f_tbl := f_t 675 (by decide +kernel) rfl
theorem hS_X11_order : Cond.selects RX11 yX11_order yX11_order ∈ f_tbl := f_t 676 (by decide +kernel) rfl
set_option maxRecDepth 100000 in
theorem hC_X11_bounds : Cond.code yX11_bounds cX11_bounds 2 (some .long) ∈ f_tbl := f_t 681 rfl rfl
theorem hI_X11_bounds : Cond.instanceMethod yX11_bounds ∈ f_tbl := f_t 679 (by decide +kernel) rfl
theorem hS_X11_bounds : Cond.selects RX11 yX11_bounds yX11_bounds ∈ f_tbl := f_t 680 (by decide +kernel) rfl
set_option maxRecDepth 100000 in
theorem hC_X11_truth : Cond.code yX11_truth cX11_truth 2 (some .long) ∈ f_tbl := f_t 719 rfl rfl
theorem hI_X11_truth : Cond.instanceMethod yX11_truth ∈ f_tbl := f_t 717 (by decide +kernel) rfl
theorem hS_X11_truth : Cond.selects RX11 yX11_truth yX11_truth ∈ f_tbl := f_t 718 (by decide +kernel) rfl
set_option maxRecDepth 100000 in
theorem hC_X11_fits : Cond.code yX11_fits cX11_fits 3 (some .int) ∈ f_tbl := f_t 739 rfl rfl
theorem hI_X11_fits : Cond.instanceMethod yX11_fits ∈ f_tbl := f_t 737 (by decide +kernel) rfl
theorem hS_X11_fits : Cond.selects RX11 yX11_fits yX11_fits ∈ f_tbl := f_t 738 (by decide +kernel) rfl
set_option maxRecDepth 100000 in
theorem hC_X11_change : Cond.code yX11_change cX11_change 3 (some .int) ∈ f_tbl := f_t 763 rfl rfl
theorem hI_X11_change : Cond.instanceMethod yX11_change ∈ f_tbl := f_t 761 (by decide +kernel) rfl
theorem hS_X11_change : Cond.selects RX11 yX11_change yX11_change ∈ f_tbl := f_t 762 (by decide +kernel) rfl
set_option maxRecDepth 100000 in
theorem hC_X11_better : Cond.code yX11_better cX11_better 2 (some .long) ∈ f_tbl := f_t 793 rfl rfl
theorem hI_X11_better : Cond.instanceMethod yX11_better ∈ f_tbl := f_t 791 (by decide +kernel) rfl
theorem hS_X11_better : Cond.selects RX11 yX11_better yX11_better ∈ f_tbl := f_t 792 (by decide +kernel) rfl
set_option maxRecDepth 100000 in
theorem hC_X11_betterSign : Cond.code yX11_betterSign cX11_betterSign 3 (some .int) ∈ f_tbl := f_t 814 rfl rfl
theorem hI_X11_betterSign : Cond.instanceMethod yX11_betterSign ∈ f_tbl := f_t 812 (by decide +kernel) rfl
theorem hS_X11_betterSign : Cond.selects RX11 yX11_betterSign yX11_betterSign ∈ f_tbl := f_t 813 (by decide +kernel) rfl
set_option maxRecDepth 100000 in
theorem hC_X11_image : Cond.code yX11_image cX11_image 3 (some .int) ∈ f_tbl := f_t 818 rfl rfl
theorem hI_X11_image : Cond.instanceMethod yX11_image ∈ f_tbl := f_t 816 (by decide +kernel) rfl
theorem hS_X11_image : Cond.selects RX11 yX11_image yX11_image ∈ f_tbl := f_t 817 (by decide +kernel) rfl
set_option maxRecDepth 100000 in
theorem hC_X11_restore : Cond.code yX11_restore cX11_restore 3 (some .int) ∈ f_tbl := f_t 828 rfl rfl
theorem hI_X11_restore : Cond.instanceMethod yX11_restore ∈ f_tbl := f_t 826 (by decide +kernel) rfl
theorem hS_X11_restore : Cond.selects RX11 yX11_restore yX11_restore ∈ f_tbl := f_t 827 (by decide +kernel) rfl
set_option maxRecDepth 100000 in
theorem hC_X11_told : Cond.code yX11_told cX11_told 2 (some .int) ∈ f_tbl := f_t 832 rfl rfl
theorem hI_X11_told : Cond.instanceMethod yX11_told ∈ f_tbl := f_t 830 (by decide +kernel) rfl
theorem hS_X11_told : Cond.selects RX11 yX11_told yX11_told ∈ f_tbl := f_t 831 (by decide +kernel) rfl
set_option maxRecDepth 100000 in
theorem hC_X11_workNow : Cond.code yX11_workNow cX11_workNow 1 none ∈ f_tbl := f_t 512 rfl rfl
theorem hI_X11_workNow : Cond.instanceMethod yX11_workNow ∈ f_tbl := f_t 511 (by decide +kernel) rfl
theorem hS_X11_workNow : Cond.selects RX11 yX11_workNow yX11_workNow ∈ f_tbl := f_p 4 (by decide +kernel) rfl
set_option maxRecDepth 100000 in
theorem hC_X11_forgetFindings : Cond.code yX11_forgetFindings cX11_forgetFindings 1 none ∈ f_tbl := f_t 396 rfl rfl
theorem hI_X11_forgetFindings : Cond.instanceMethod yX11_forgetFindings ∈ f_tbl := f_t 395 (by decide +kernel) rfl
theorem hS_X11_forgetFindings : Cond.selects RX11 yX11_forgetFindings yX11_forgetFindings ∈ f_tbl := f_p 0 (by decide +kernel) rfl
set_option maxRecDepth 100000 in
theorem hC_X11_isOperator : Cond.code yX11_isOperator cX11_isOperator 1 (some .boolean) ∈ f_tbl := f_t 42 rfl rfl
theorem hT_X11_isOperator : Cond.static yX11_isOperator ∈ f_tbl := f_t 41 (by decide +kernel) rfl
set_option maxRecDepth 100000 in
theorem hC_X11_isLetter : Cond.code yX11_isLetter cX11_isLetter 1 (some .boolean) ∈ f_tbl := f_t 53 rfl rfl
theorem hT_X11_isLetter : Cond.static yX11_isLetter ∈ f_tbl := f_t 52 (by decide +kernel) rfl
set_option maxRecDepth 100000 in
theorem hC_X11_isDigit : Cond.code yX11_isDigit cX11_isDigit 1 (some .boolean) ∈ f_tbl := f_t 450 rfl rfl
theorem hT_X11_isDigit : Cond.static yX11_isDigit ∈ f_tbl := f_t 449 (by decide +kernel) rfl
set_option maxRecDepth 100000 in
theorem hC_X11_numberOf : Cond.code yX11_numberOf cX11_numberOf 3 (some .int) ∈ f_tbl := f_t 501 rfl rfl
theorem hT_X11_numberOf : Cond.static yX11_numberOf ∈ f_tbl := f_t 500 (by decide +kernel) rfl
set_option maxRecDepth 100000 in
theorem hC_X11_at : Cond.code yX11_at cX11_at 2 (some .long) ∈ f_tbl := f_t 521 rfl rfl
theorem hT_X11_at : Cond.static yX11_at ∈ f_tbl := f_t 520 (by decide +kernel) rfl
set_option maxRecDepth 100000 in
theorem hC_X12_init : Cond.code yX12_init cX12_init 2 none ∈ f_tbl := f_t 837 rfl rfl
theorem hI_X12_init : Cond.instanceMethod yX12_init ∈ f_tbl := f_t 836 (by decide +kernel) rfl
set_option maxRecDepth 100000 in
theorem hC_X12_in : Cond.code yX12_in cX12_in 6 (some .boolean) ∈ f_tbl := f_t 970 rfl rfl
theorem hT_X12_in : Cond.static yX12_in ∈ f_tbl := f_t 969 (by decide +kernel) rfl
set_option maxRecDepth 100000 in
theorem hC_X12_isEnd : Cond.code yX12_isEnd cX12_isEnd 1 (some .boolean) ∈ f_tbl := f_t 967 rfl rfl
theorem hT_X12_isEnd : Cond.static yX12_isEnd ∈ f_tbl := f_t 966 (by decide +kernel) rfl
set_option maxRecDepth 100000 in
theorem hC_X12_size : Cond.code yX12_size cX12_size 2 (some .long) ∈ f_tbl := f_t 984 rfl rfl
theorem hT_X12_size : Cond.static yX12_size ∈ f_tbl := f_t 983 (by decide +kernel) rfl
set_option maxRecDepth 100000 in
theorem hC_X12_power : Cond.code yX12_power cX12_power 4 (some .long) ∈ f_tbl := f_t 993 rfl rfl
theorem hT_X12_power : Cond.static yX12_power ∈ f_tbl := f_t 992 (by decide +kernel) rfl
set_option maxRecDepth 100000 in
theorem hC_X12_rounded : Cond.code yX12_rounded cX12_rounded 21 (some .long) ∈ f_tbl := f_t 988 rfl rfl
theorem hI_X12_rounded : Cond.instanceMethod yX12_rounded ∈ f_tbl := f_t 987 (by decide +kernel) rfl
theorem hS_X12_rounded : Cond.selects RX12 yX12_rounded yX12_rounded ∈ f_tbl := f_p 17 (by decide +kernel) rfl
set_option maxRecDepth 100000 in
theorem hC_X12_roundOf : Cond.code yX12_roundOf cX12_roundOf 5 (some .long) ∈ f_tbl := f_t 1087 rfl rfl
theorem hI_X12_roundOf : Cond.instanceMethod yX12_roundOf ∈ f_tbl := f_t 1086 (by decide +kernel) rfl
theorem hS_X12_roundOf : Cond.selects RX12 yX12_roundOf yX12_roundOf ∈ f_tbl := f_p 27 (by decide +kernel) rfl
set_option maxRecDepth 100000 in
theorem hC_X12_shorten : Cond.code yX12_shorten cX12_shorten 3 none ∈ f_tbl := f_t 1095 rfl rfl
theorem hI_X12_shorten : Cond.instanceMethod yX12_shorten ∈ f_tbl := f_t 1094 (by decide +kernel) rfl
theorem hS_X12_shorten : Cond.selects RX12 yX12_shorten yX12_shorten ∈ f_tbl := f_p 29 (by decide +kernel) rfl
set_option maxRecDepth 100000 in
theorem hC_X12_layBoth : Cond.code yX12_layBoth cX12_layBoth 9 none ∈ f_tbl := f_t 1091 rfl rfl
theorem hI_X12_layBoth : Cond.instanceMethod yX12_layBoth ∈ f_tbl := f_t 1090 (by decide +kernel) rfl
theorem hS_X12_layBoth : Cond.selects RX12 yX12_layBoth yX12_layBoth ∈ f_tbl := f_p 28 (by decide +kernel) rfl
set_option maxRecDepth 100000 in
theorem hC_X12_made : Cond.code yX12_made cX12_made 8 (some .long) ∈ f_tbl := f_t 1083 rfl rfl
theorem hI_X12_made : Cond.instanceMethod yX12_made ∈ f_tbl := f_t 1082 (by decide +kernel) rfl
theorem hS_X12_made : Cond.selects RX12 yX12_made yX12_made ∈ f_tbl := f_p 26 (by decide +kernel) rfl
set_option maxRecDepth 100000 in
theorem hC_X12_whole : Cond.code yX12_whole cX12_whole 12 (some .long) ∈ f_tbl := f_t 1099 rfl rfl
theorem hI_X12_whole : Cond.instanceMethod yX12_whole ∈ f_tbl := f_t 1098 (by decide +kernel) rfl
theorem hS_X12_whole : Cond.selects RX12 yX12_whole yX12_whole ∈ f_tbl := f_p 30 (by decide +kernel) rfl
set_option maxRecDepth 100000 in
theorem hC_X12_set : Cond.code yX12_set cX12_set 4 (some .int) ∈ f_tbl := f_t 964 rfl rfl
theorem hI_X12_set : Cond.instanceMethod yX12_set ∈ f_tbl := f_t 962 (by decide +kernel) rfl
theorem hS_X12_set : Cond.selects RX12 yX12_set yX12_set ∈ f_tbl := f_t 963 (by decide +kernel) rfl
set_option maxRecDepth 100000 in
theorem hC_X12_round : Cond.code yX12_round cX12_round 4 (some .long) ∈ f_tbl := f_t 976 rfl rfl
theorem hI_X12_round : Cond.instanceMethod yX12_round ∈ f_tbl := f_t 974 (by decide +kernel) rfl
theorem hS_X12_round : Cond.selects RX12 yX12_round yX12_round ∈ f_tbl := f_t 975 (by decide +kernel) rfl
set_option maxRecDepth 100000 in
theorem hC_X12_say : Cond.code yX12_say cX12_say 2 (some .int) ∈ f_tbl := f_t 999 rfl rfl
theorem hI_X12_say : Cond.instanceMethod yX12_say ∈ f_tbl := f_t 997 (by decide +kernel) rfl
theorem hS_X12_say : Cond.selects RX12 yX12_say yX12_say ∈ f_tbl := f_t 998 (by decide +kernel) rfl
set_option maxRecDepth 100000 in
theorem hC_X12_wipe : Cond.code yX12_wipe cX12_wipe 2 (some .int) ∈ f_tbl := f_t 1005 rfl rfl
theorem hI_X12_wipe : Cond.instanceMethod yX12_wipe ∈ f_tbl := f_t 1003 (by decide +kernel) rfl
theorem hS_X12_wipe : Cond.selects RX12 yX12_wipe yX12_wipe ∈ f_tbl := f_t 1004 (by decide +kernel) rfl
set_option maxRecDepth 100000 in
theorem hC_X12_isSign : Cond.code yX12_isSign cX12_isSign 1 (some .boolean) ∈ f_tbl := f_t 1012 rfl rfl
theorem hT_X12_isSign : Cond.static yX12_isSign ∈ f_tbl := f_t 1011 (by decide +kernel) rfl
set_option maxRecDepth 100000 in
theorem hC_X12_isLetter : Cond.code yX12_isLetter cX12_isLetter 1 (some .boolean) ∈ f_tbl := f_t 1015 rfl rfl
theorem hT_X12_isLetter : Cond.static yX12_isLetter ∈ f_tbl := f_t 1014 (by decide +kernel) rfl
set_option maxRecDepth 100000 in
theorem hC_X12_isDigit : Cond.code yX12_isDigit cX12_isDigit 1 (some .boolean) ∈ f_tbl := f_t 1020 rfl rfl
theorem hT_X12_isDigit : Cond.static yX12_isDigit ∈ f_tbl := f_t 1019 (by decide +kernel) rfl
set_option maxRecDepth 100000 in
theorem hC_X12_fault : Cond.code yX12_fault cX12_fault 4 (some .int) ∈ f_tbl := f_t 1009 rfl rfl
theorem hI_X12_fault : Cond.instanceMethod yX12_fault ∈ f_tbl := f_t 1007 (by decide +kernel) rfl
theorem hS_X12_fault : Cond.selects RX12 yX12_fault yX12_fault ∈ f_tbl := f_t 1008 (by decide +kernel) rfl
set_option maxRecDepth 100000 in
theorem hC_X12_text : Cond.code yX12_text cX12_text 2 (some .int) ∈ f_tbl := f_t 1026 rfl rfl
theorem hI_X12_text : Cond.instanceMethod yX12_text ∈ f_tbl := f_t 1024 (by decide +kernel) rfl
theorem hS_X12_text : Cond.selects RX12 yX12_text yX12_text ∈ f_tbl := f_t 1025 (by decide +kernel) rfl
set_option maxRecDepth 100000 in
theorem hC_X12_isStep : Cond.code yX12_isStep cX12_isStep 2 (some .boolean) ∈ f_tbl := f_t 1035 rfl rfl
theorem hI_X12_isStep : Cond.instanceMethod yX12_isStep ∈ f_tbl := f_t 1034 (by decide +kernel) rfl
theorem hS_X12_isStep : Cond.selects RX12 yX12_isStep yX12_isStep ∈ f_tbl := f_p 18 (by decide +kernel) rfl
set_option maxRecDepth 100000 in
theorem hC_X12_sign : Cond.code yX12_sign cX12_sign 2 (some .int) ∈ f_tbl := f_t 1031 rfl rfl
theorem hI_X12_sign : Cond.instanceMethod yX12_sign ∈ f_tbl := f_t 1029 (by decide +kernel) rfl
theorem hS_X12_sign : Cond.selects RX12 yX12_sign yX12_sign ∈ f_tbl := f_t 1030 (by decide +kernel) rfl
set_option maxRecDepth 100000 in
theorem hC_X12_put : Cond.code yX12_put cX12_put 5 (some .int) ∈ f_tbl := f_t 1039 rfl rfl
theorem hI_X12_put : Cond.instanceMethod yX12_put ∈ f_tbl := f_t 1037 (by decide +kernel) rfl
theorem hS_X12_put : Cond.selects RX12 yX12_put yX12_put ∈ f_tbl := f_t 1038 (by decide +kernel) rfl
set_option maxRecDepth 100000 in
theorem hC_X12_layText : Cond.code yX12_layText cX12_layText 2 none ∈ f_tbl := f_t 1051 rfl rfl
theorem hI_X12_layText : Cond.instanceMethod yX12_layText ∈ f_tbl := f_t 1050 (by decide +kernel) rfl
theorem hS_X12_layText : Cond.selects RX12 yX12_layText yX12_layText ∈ f_tbl := f_p 19 (by decide +kernel) rfl
set_option maxRecDepth 100000 in
theorem hC_X12_findSizes : Cond.code yX12_findSizes cX12_findSizes 3 none ∈ f_tbl := f_t 1059 rfl rfl
theorem hI_X12_findSizes : Cond.instanceMethod yX12_findSizes ∈ f_tbl := f_t 1058 (by decide +kernel) rfl
theorem hS_X12_findSizes : Cond.selects RX12 yX12_findSizes yX12_findSizes ∈ f_tbl := f_p 21 (by decide +kernel) rfl
set_option maxRecDepth 100000 in
theorem hC_X12_wholeAt : Cond.code yX12_wholeAt cX12_wholeAt 2 (some .int) ∈ f_tbl := f_t 1063 rfl rfl
theorem hI_X12_wholeAt : Cond.instanceMethod yX12_wholeAt ∈ f_tbl := f_t 1062 (by decide +kernel) rfl
theorem hS_X12_wholeAt : Cond.selects RX12 yX12_wholeAt yX12_wholeAt ∈ f_tbl := f_p 22 (by decide +kernel) rfl
set_option maxRecDepth 100000 in
theorem hC_X12_work : Cond.code yX12_work cX12_work 6 none ∈ f_tbl := f_t 1079 rfl rfl
theorem hI_X12_work : Cond.instanceMethod yX12_work ∈ f_tbl := f_t 1078 (by decide +kernel) rfl
theorem hS_X12_work : Cond.selects RX12 yX12_work yX12_work ∈ f_tbl := f_p 25 (by decide +kernel) rfl
set_option maxRecDepth 100000 in
theorem hC_X12_common : Cond.code yX12_common cX12_common 10 (some .long) ∈ f_tbl := f_t 1070 rfl rfl
theorem hT_X12_common : Cond.static yX12_common ∈ f_tbl := f_t 1069 (by decide +kernel) rfl
set_option maxRecDepth 100000 in
theorem hC_X12_layExact : Cond.code yX12_layExact cX12_layExact 8 none ∈ f_tbl := f_t 1067 rfl rfl
theorem hI_X12_layExact : Cond.instanceMethod yX12_layExact ∈ f_tbl := f_t 1066 (by decide +kernel) rfl
theorem hS_X12_layExact : Cond.selects RX12 yX12_layExact yX12_layExact ∈ f_tbl := f_p 23 (by decide +kernel) rfl
set_option maxRecDepth 100000 in
theorem hC_X12_workExact : Cond.code yX12_workExact cX12_workExact 12 none ∈ f_tbl := f_t 1055 rfl rfl
theorem hI_X12_workExact : Cond.instanceMethod yX12_workExact ∈ f_tbl := f_t 1054 (by decide +kernel) rfl
theorem hS_X12_workExact : Cond.selects RX12 yX12_workExact yX12_workExact ∈ f_tbl := f_p 20 (by decide +kernel) rfl
set_option maxRecDepth 100000 in
theorem hC_X12_billionths : Cond.code yX12_billionths cX12_billionths 13 (some .long) ∈ f_tbl := f_t 1074 rfl rfl
theorem hI_X12_billionths : Cond.instanceMethod yX12_billionths ∈ f_tbl := f_t 1073 (by decide +kernel) rfl
theorem hS_X12_billionths : Cond.selects RX12 yX12_billionths yX12_billionths ∈ f_tbl := f_p 24 (by decide +kernel) rfl
set_option maxRecDepth 100000 in
theorem hC_X12_less : Cond.code yX12_less cX12_less 4 (some .long) ∈ f_tbl := f_t 1115 rfl rfl
theorem hT_X12_less : Cond.static yX12_less ∈ f_tbl := f_t 1114 (by decide +kernel) rfl
set_option maxRecDepth 100000 in
theorem hC_X12_worked : Cond.code yX12_worked cX12_worked 3 (some .long) ∈ f_tbl := f_t 1046 rfl rfl
theorem hI_X12_worked : Cond.instanceMethod yX12_worked ∈ f_tbl := f_t 1044 (by decide +kernel) rfl
theorem hS_X12_worked : Cond.selects RX12 yX12_worked yX12_worked ∈ f_tbl := f_t 1045 (by decide +kernel) rfl
set_option maxRecDepth 100000 in
theorem hC_X12_exact : Cond.code yX12_exact cX12_exact 2 (some .long) ∈ f_tbl := f_t 1104 rfl rfl
theorem hI_X12_exact : Cond.instanceMethod yX12_exact ∈ f_tbl := f_t 1102 (by decide +kernel) rfl
theorem hS_X12_exact : Cond.selects RX12 yX12_exact yX12_exact ∈ f_tbl := f_t 1103 (by decide +kernel) rfl
set_option maxRecDepth 100000 in
theorem hC_X12_lossNow : Cond.code yX12_lossNow cX12_lossNow 3 (some .long) ∈ f_tbl := f_t 1112 rfl rfl
theorem hI_X12_lossNow : Cond.instanceMethod yX12_lossNow ∈ f_tbl := f_t 1111 (by decide +kernel) rfl
theorem hS_X12_lossNow : Cond.selects RX12 yX12_lossNow yX12_lossNow ∈ f_tbl := f_p 31 (by decide +kernel) rfl
set_option maxRecDepth 100000 in
theorem hC_X12_loss : Cond.code yX12_loss cX12_loss 1 (some .long) ∈ f_tbl := f_t 1108 rfl rfl
theorem hI_X12_loss : Cond.instanceMethod yX12_loss ∈ f_tbl := f_t 1106 (by decide +kernel) rfl
theorem hS_X12_loss : Cond.selects RX12 yX12_loss yX12_loss ∈ f_tbl := f_t 1107 (by decide +kernel) rfl
set_option maxRecDepth 100000 in
theorem hC_X12_worst : Cond.code yX12_worst cX12_worst 5 (some .int) ∈ f_tbl := f_t 1119 rfl rfl
theorem hI_X12_worst : Cond.instanceMethod yX12_worst ∈ f_tbl := f_t 1117 (by decide +kernel) rfl
theorem hS_X12_worst : Cond.selects RX12 yX12_worst yX12_worst ∈ f_tbl := f_t 1118 (by decide +kernel) rfl
set_option maxRecDepth 100000 in
theorem hC_X12_needs : Cond.code yX12_needs cX12_needs 8 (some .int) ∈ f_tbl := f_t 1123 rfl rfl
theorem hI_X12_needs : Cond.instanceMethod yX12_needs ∈ f_tbl := f_t 1121 (by decide +kernel) rfl
theorem hS_X12_needs : Cond.selects RX12 yX12_needs yX12_needs ∈ f_tbl := f_t 1122 (by decide +kernel) rfl
set_option maxRecDepth 100000 in
theorem hC_X12_term : Cond.code yX12_term cX12_term 5 (some .int) ∈ f_tbl := f_t 1127 rfl rfl
theorem hI_X12_term : Cond.instanceMethod yX12_term ∈ f_tbl := f_t 1125 (by decide +kernel) rfl
theorem hS_X12_term : Cond.selects RX12 yX12_term yX12_term ∈ f_tbl := f_t 1126 (by decide +kernel) rfl
set_option maxRecDepth 100000 in
theorem hC_X12_clear : Cond.code yX12_clear cX12_clear 2 (some .int) ∈ f_tbl := f_t 1133 rfl rfl
theorem hI_X12_clear : Cond.instanceMethod yX12_clear ∈ f_tbl := f_t 1131 (by decide +kernel) rfl
theorem hS_X12_clear : Cond.selects RX12 yX12_clear yX12_clear ∈ f_tbl := f_t 1132 (by decide +kernel) rfl
set_option maxRecDepth 100000 in
theorem hC_X12_about : Cond.code yX12_about cX12_about 2 (some .long) ∈ f_tbl := f_t 1137 rfl rfl
theorem hI_X12_about : Cond.instanceMethod yX12_about ∈ f_tbl := f_t 1135 (by decide +kernel) rfl
theorem hS_X12_about : Cond.selects RX12 yX12_about yX12_about ∈ f_tbl := f_t 1136 (by decide +kernel) rfl
set_option maxRecDepth 100000 in
theorem hC_X12_layOrder : Cond.code yX12_layOrder cX12_layOrder 2 none ∈ f_tbl := f_t 1146 rfl rfl
theorem hI_X12_layOrder : Cond.instanceMethod yX12_layOrder ∈ f_tbl := f_t 1145 (by decide +kernel) rfl
theorem hS_X12_layOrder : Cond.selects RX12 yX12_layOrder yX12_layOrder ∈ f_tbl := f_p 32 (by decide +kernel) rfl
set_option maxRecDepth 100000 in
theorem hC_X12_sumOf : Cond.code yX12_sumOf cX12_sumOf 6 (some .long) ∈ f_tbl := f_t 1162 rfl rfl
theorem hI_X12_sumOf : Cond.instanceMethod yX12_sumOf ∈ f_tbl := f_t 1161 (by decide +kernel) rfl
theorem hS_X12_sumOf : Cond.selects RX12 yX12_sumOf yX12_sumOf ∈ f_tbl := f_p 36 (by decide +kernel) rfl
set_option maxRecDepth 100000 in
theorem hC_X12_wholeSum : Cond.code yX12_wholeSum cX12_wholeSum 4 (some .long) ∈ f_tbl := f_t 1170 rfl rfl
theorem hI_X12_wholeSum : Cond.instanceMethod yX12_wholeSum ∈ f_tbl := f_t 1169 (by decide +kernel) rfl
theorem hS_X12_wholeSum : Cond.selects RX12 yX12_wholeSum yX12_wholeSum ∈ f_tbl := f_p 38 (by decide +kernel) rfl
set_option maxRecDepth 100000 in
theorem hC_X12_beside : Cond.code yX12_beside cX12_beside 10 (some .long) ∈ f_tbl := f_t 1150 rfl rfl
theorem hI_X12_beside : Cond.instanceMethod yX12_beside ∈ f_tbl := f_t 1149 (by decide +kernel) rfl
theorem hS_X12_beside : Cond.selects RX12 yX12_beside yX12_beside ∈ f_tbl := f_p 33 (by decide +kernel) rfl
set_option maxRecDepth 100000 in
theorem hC_X12_halfOf : Cond.code yX12_halfOf cX12_halfOf 3 (some .long) ∈ f_tbl := f_t 1158 rfl rfl
theorem hI_X12_halfOf : Cond.instanceMethod yX12_halfOf ∈ f_tbl := f_t 1157 (by decide +kernel) rfl
theorem hS_X12_halfOf : Cond.selects RX12 yX12_halfOf yX12_halfOf ∈ f_tbl := f_p 35 (by decide +kernel) rfl
set_option maxRecDepth 100000 in
theorem hC_X12_halves : Cond.code yX12_halves cX12_halves 4 (some .long) ∈ f_tbl := f_t 1154 rfl rfl
theorem hI_X12_halves : Cond.instanceMethod yX12_halves ∈ f_tbl := f_t 1153 (by decide +kernel) rfl
theorem hS_X12_halves : Cond.selects RX12 yX12_halves yX12_halves ∈ f_tbl := f_p 34 (by decide +kernel) rfl
set_option maxRecDepth 100000 in
theorem hC_X12_orderBySize : Cond.code yX12_orderBySize cX12_orderBySize 4 none ∈ f_tbl := f_t 1166 rfl rfl
theorem hI_X12_orderBySize : Cond.instanceMethod yX12_orderBySize ∈ f_tbl := f_t 1165 (by decide +kernel) rfl
theorem hS_X12_orderBySize : Cond.selects RX12 yX12_orderBySize yX12_orderBySize ∈ f_tbl := f_p 37 (by decide +kernel) rfl
set_option maxRecDepth 100000 in
theorem hC_X12_sum : Cond.code yX12_sum cX12_sum 2 (some .long) ∈ f_tbl := f_t 1141 rfl rfl
theorem hI_X12_sum : Cond.instanceMethod yX12_sum ∈ f_tbl := f_t 1139 (by decide +kernel) rfl
theorem hS_X12_sum : Cond.selects RX12 yX12_sum yX12_sum ∈ f_tbl := f_t 1140 (by decide +kernel) rfl
set_option maxRecDepth 100000 in
theorem hC_X12_nextOrder : Cond.code yX12_nextOrder cX12_nextOrder 6 (some .boolean) ∈ f_tbl := f_t 1186 rfl rfl
theorem hI_X12_nextOrder : Cond.instanceMethod yX12_nextOrder ∈ f_tbl := f_t 1185 (by decide +kernel) rfl
theorem hS_X12_nextOrder : Cond.selects RX12 yX12_nextOrder yX12_nextOrder ∈ f_tbl := f_p 41 (by decide +kernel) rfl
set_option maxRecDepth 100000 in
theorem hC_X12_isBetter : Cond.code yX12_isBetter cX12_isBetter 8 (some .boolean) ∈ f_tbl := f_t 1182 rfl rfl
theorem hI_X12_isBetter : Cond.instanceMethod yX12_isBetter ∈ f_tbl := f_t 1181 (by decide +kernel) rfl
theorem hS_X12_isBetter : Cond.selects RX12 yX12_isBetter yX12_isBetter ∈ f_tbl := f_p 40 (by decide +kernel) rfl
set_option maxRecDepth 100000 in
theorem hC_X12_findOrders : Cond.code yX12_findOrders cX12_findOrders 10 none ∈ f_tbl := f_t 1178 rfl rfl
theorem hI_X12_findOrders : Cond.instanceMethod yX12_findOrders ∈ f_tbl := f_t 1177 (by decide +kernel) rfl
theorem hS_X12_findOrders : Cond.selects RX12 yX12_findOrders yX12_findOrders ∈ f_tbl := f_p 39 (by decide +kernel) rfl
set_option maxRecDepth 100000 in
theorem hC_X12_orders : Cond.code yX12_orders cX12_orders 2 (some .long) ∈ f_tbl := f_t 1174 rfl rfl
theorem hI_X12_orders : Cond.instanceMethod yX12_orders ∈ f_tbl := f_t 1172 (by decide +kernel) rfl
theorem hS_X12_orders : Cond.selects RX12 yX12_orders yX12_orders ∈ f_tbl := f_t 1173 (by decide +kernel) rfl
set_option maxRecDepth 100000 in
theorem hC_X12_order : Cond.code yX12_order cX12_order 3 (some .int) ∈ f_tbl := f_t 1190 rfl rfl
theorem hI_X12_order : Cond.instanceMethod yX12_order ∈ f_tbl := f_t 1188 (by decide +kernel) rfl
theorem hS_X12_order : Cond.selects RX12 yX12_order yX12_order ∈ f_tbl := f_t 1189 (by decide +kernel) rfl
set_option maxRecDepth 100000 in
theorem hC_X12_layEnds : Cond.code yX12_layEnds cX12_layEnds 6 none ∈ f_tbl := f_t 1202 rfl rfl
theorem hI_X12_layEnds : Cond.instanceMethod yX12_layEnds ∈ f_tbl := f_t 1201 (by decide +kernel) rfl
theorem hS_X12_layEnds : Cond.selects RX12 yX12_layEnds yX12_layEnds ∈ f_tbl := f_p 43 (by decide +kernel) rfl
set_option maxRecDepth 100000 in
theorem hC_X12_ofPairs : Cond.code yX12_ofPairs cX12_ofPairs 10 (some .long) ∈ f_tbl := f_t 1206 rfl rfl
theorem hI_X12_ofPairs : Cond.instanceMethod yX12_ofPairs ∈ f_tbl := f_t 1205 (by decide +kernel) rfl
theorem hS_X12_ofPairs : Cond.selects RX12 yX12_ofPairs yX12_ofPairs ∈ f_tbl := f_p 44 (by decide +kernel) rfl
set_option maxRecDepth 100000 in
theorem hC_X12_findEnds : Cond.code yX12_findEnds cX12_findEnds 7 none ∈ f_tbl := f_t 1198 rfl rfl
theorem hI_X12_findEnds : Cond.instanceMethod yX12_findEnds ∈ f_tbl := f_t 1197 (by decide +kernel) rfl
theorem hS_X12_findEnds : Cond.selects RX12 yX12_findEnds yX12_findEnds ∈ f_tbl := f_p 42 (by decide +kernel) rfl
set_option maxRecDepth 100000 in
theorem hC_X12_bounds : Cond.code yX12_bounds cX12_bounds 2 (some .long) ∈ f_tbl := f_t 1194 rfl rfl
theorem hI_X12_bounds : Cond.instanceMethod yX12_bounds ∈ f_tbl := f_t 1192 (by decide +kernel) rfl
theorem hS_X12_bounds : Cond.selects RX12 yX12_bounds yX12_bounds ∈ f_tbl := f_t 1193 (by decide +kernel) rfl
set_option maxRecDepth 100000 in
theorem hC_X12_isIn : Cond.code yX12_isIn cX12_isIn 4 (some .boolean) ∈ f_tbl := f_t 1222 rfl rfl
theorem hI_X12_isIn : Cond.instanceMethod yX12_isIn ∈ f_tbl := f_t 1221 (by decide +kernel) rfl
theorem hS_X12_isIn : Cond.selects RX12 yX12_isIn yX12_isIn ∈ f_tbl := f_p 47 (by decide +kernel) rfl
set_option maxRecDepth 100000 in
theorem hC_X12_nextNumbers : Cond.code yX12_nextNumbers cX12_nextNumbers 2 (some .boolean) ∈ f_tbl := f_t 1218 rfl rfl
theorem hI_X12_nextNumbers : Cond.instanceMethod yX12_nextNumbers ∈ f_tbl := f_t 1217 (by decide +kernel) rfl
theorem hS_X12_nextNumbers : Cond.selects RX12 yX12_nextNumbers yX12_nextNumbers ∈ f_tbl := f_p 46 (by decide +kernel) rfl
set_option maxRecDepth 100000 in
theorem hC_X12_truthOf : Cond.code yX12_truthOf cX12_truthOf 9 (some .long) ∈ f_tbl := f_t 1214 rfl rfl
theorem hI_X12_truthOf : Cond.instanceMethod yX12_truthOf ∈ f_tbl := f_t 1213 (by decide +kernel) rfl
theorem hS_X12_truthOf : Cond.selects RX12 yX12_truthOf yX12_truthOf ∈ f_tbl := f_p 45 (by decide +kernel) rfl
set_option maxRecDepth 100000 in
theorem hC_X12_truth : Cond.code yX12_truth cX12_truth 2 (some .long) ∈ f_tbl := f_t 1210 rfl rfl
theorem hI_X12_truth : Cond.instanceMethod yX12_truth ∈ f_tbl := f_t 1208 (by decide +kernel) rfl
theorem hS_X12_truth : Cond.selects RX12 yX12_truth yX12_truth ∈ f_tbl := f_t 1209 (by decide +kernel) rfl
set_option maxRecDepth 100000 in
theorem hC_X12_add : Cond.code yX12_add cX12_add 2 none ∈ f_tbl := f_t 1246 rfl rfl
theorem hI_X12_add : Cond.instanceMethod yX12_add ∈ f_tbl := f_t 1245 (by decide +kernel) rfl
theorem hS_X12_add : Cond.selects RX12 yX12_add yX12_add ∈ f_tbl := f_p 51 (by decide +kernel) rfl
set_option maxRecDepth 100000 in
theorem hC_X12_addPart : Cond.code yX12_addPart cX12_addPart 3 none ∈ f_tbl := f_t 1254 rfl rfl
theorem hI_X12_addPart : Cond.instanceMethod yX12_addPart ∈ f_tbl := f_t 1253 (by decide +kernel) rfl
theorem hS_X12_addPart : Cond.selects RX12 yX12_addPart yX12_addPart ∈ f_tbl := f_p 53 (by decide +kernel) rfl
set_option maxRecDepth 100000 in
theorem hC_X12_isSame : Cond.code yX12_isSame cX12_isSame 5 (some .boolean) ∈ f_tbl := f_t 1242 rfl rfl
theorem hI_X12_isSame : Cond.instanceMethod yX12_isSame ∈ f_tbl := f_t 1241 (by decide +kernel) rfl
theorem hS_X12_isSame : Cond.selects RX12 yX12_isSame yX12_isSame ∈ f_tbl := f_p 50 (by decide +kernel) rfl
set_option maxRecDepth 100000 in
theorem hC_X12_hasSigns : Cond.code yX12_hasSigns cX12_hasSigns 5 (some .boolean) ∈ f_tbl := f_t 1238 rfl rfl
theorem hI_X12_hasSigns : Cond.instanceMethod yX12_hasSigns ∈ f_tbl := f_t 1237 (by decide +kernel) rfl
theorem hS_X12_hasSigns : Cond.selects RX12 yX12_hasSigns yX12_hasSigns ∈ f_tbl := f_p 49 (by decide +kernel) rfl
set_option maxRecDepth 100000 in
theorem hC_X12_build : Cond.code yX12_build cX12_build 7 (some .boolean) ∈ f_tbl := f_t 1234 rfl rfl
theorem hI_X12_build : Cond.instanceMethod yX12_build ∈ f_tbl := f_t 1233 (by decide +kernel) rfl
theorem hS_X12_build : Cond.selects RX12 yX12_build yX12_build ∈ f_tbl := f_p 48 (by decide +kernel) rfl
set_option maxRecDepth 100000 in
theorem hC_X12_buildPart : Cond.code yX12_buildPart cX12_buildPart 5 none ∈ f_tbl := f_t 1250 rfl rfl
theorem hI_X12_buildPart : Cond.instanceMethod yX12_buildPart ∈ f_tbl := f_t 1249 (by decide +kernel) rfl
theorem hS_X12_buildPart : Cond.selects RX12 yX12_buildPart yX12_buildPart ∈ f_tbl := f_p 52 (by decide +kernel) rfl
set_option maxRecDepth 100000 in
theorem hC_X12_isRule : Cond.code yX12_isRule cX12_isRule 1 (some .boolean) ∈ f_tbl := f_t 1229 rfl rfl
theorem hT_X12_isRule : Cond.static yX12_isRule ∈ f_tbl := f_t 1228 (by decide +kernel) rfl
set_option maxRecDepth 100000 in
theorem hC_X12_fits : Cond.code yX12_fits cX12_fits 3 (some .int) ∈ f_tbl := f_t 1226 rfl rfl
theorem hI_X12_fits : Cond.instanceMethod yX12_fits ∈ f_tbl := f_t 1224 (by decide +kernel) rfl
theorem hS_X12_fits : Cond.selects RX12 yX12_fits yX12_fits ∈ f_tbl := f_t 1225 (by decide +kernel) rfl
set_option maxRecDepth 100000 in
theorem hC_X12_change : Cond.code yX12_change cX12_change 4 (some .int) ∈ f_tbl := f_t 1258 rfl rfl
theorem hI_X12_change : Cond.instanceMethod yX12_change ∈ f_tbl := f_t 1256 (by decide +kernel) rfl
theorem hS_X12_change : Cond.selects RX12 yX12_change yX12_change ∈ f_tbl := f_t 1257 (by decide +kernel) rfl
set_option maxRecDepth 100000 in
theorem hC_X12_hold : Cond.code yX12_hold cX12_hold 4 none ∈ f_tbl := f_t 1270 rfl rfl
theorem hI_X12_hold : Cond.instanceMethod yX12_hold ∈ f_tbl := f_t 1269 (by decide +kernel) rfl
theorem hS_X12_hold : Cond.selects RX12 yX12_hold yX12_hold ∈ f_tbl := f_p 55 (by decide +kernel) rfl
set_option maxRecDepth 100000 in
theorem hC_X12_layBuilt : Cond.code yX12_layBuilt cX12_layBuilt 2 none ∈ f_tbl := f_t 1286 rfl rfl
theorem hI_X12_layBuilt : Cond.instanceMethod yX12_layBuilt ∈ f_tbl := f_t 1285 (by decide +kernel) rfl
theorem hS_X12_layBuilt : Cond.selects RX12 yX12_layBuilt yX12_layBuilt ∈ f_tbl := f_p 59 (by decide +kernel) rfl
set_option maxRecDepth 100000 in
theorem hC_X12_layBase : Cond.code yX12_layBase cX12_layBase 2 none ∈ f_tbl := f_t 1282 rfl rfl
theorem hI_X12_layBase : Cond.instanceMethod yX12_layBase ∈ f_tbl := f_t 1281 (by decide +kernel) rfl
theorem hS_X12_layBase : Cond.selects RX12 yX12_layBase yX12_layBase ∈ f_tbl := f_p 58 (by decide +kernel) rfl
set_option maxRecDepth 100000 in
theorem hC_X12_keepBase : Cond.code yX12_keepBase cX12_keepBase 2 none ∈ f_tbl := f_t 1274 rfl rfl
theorem hI_X12_keepBase : Cond.instanceMethod yX12_keepBase ∈ f_tbl := f_t 1273 (by decide +kernel) rfl
theorem hS_X12_keepBase : Cond.selects RX12 yX12_keepBase yX12_keepBase ∈ f_tbl := f_p 56 (by decide +kernel) rfl
set_option maxRecDepth 100000 in
theorem hC_X12_holdAll : Cond.code yX12_holdAll cX12_holdAll 4 none ∈ f_tbl := f_t 1278 rfl rfl
theorem hI_X12_holdAll : Cond.instanceMethod yX12_holdAll ∈ f_tbl := f_t 1277 (by decide +kernel) rfl
theorem hS_X12_holdAll : Cond.selects RX12 yX12_holdAll yX12_holdAll ∈ f_tbl := f_p 57 (by decide +kernel) rfl
set_option maxRecDepth 100000 in
theorem hC_X12_findBetter : Cond.code yX12_findBetter cX12_findBetter 4 none ∈ f_tbl := f_t 1266 rfl rfl
theorem hI_X12_findBetter : Cond.instanceMethod yX12_findBetter ∈ f_tbl := f_t 1265 (by decide +kernel) rfl
theorem hS_X12_findBetter : Cond.selects RX12 yX12_findBetter yX12_findBetter ∈ f_tbl := f_p 54 (by decide +kernel) rfl
set_option maxRecDepth 100000 in
theorem hC_X12_better : Cond.code yX12_better cX12_better 2 (some .long) ∈ f_tbl := f_t 1262 rfl rfl
theorem hI_X12_better : Cond.instanceMethod yX12_better ∈ f_tbl := f_t 1260 (by decide +kernel) rfl
theorem hS_X12_better : Cond.selects RX12 yX12_better yX12_better ∈ f_tbl := f_t 1261 (by decide +kernel) rfl
set_option maxRecDepth 100000 in
theorem hC_X12_betterSign : Cond.code yX12_betterSign cX12_betterSign 3 (some .int) ∈ f_tbl := f_t 1290 rfl rfl
theorem hI_X12_betterSign : Cond.instanceMethod yX12_betterSign ∈ f_tbl := f_t 1288 (by decide +kernel) rfl
theorem hS_X12_betterSign : Cond.selects RX12 yX12_betterSign yX12_betterSign ∈ f_tbl := f_t 1289 (by decide +kernel) rfl
set_option maxRecDepth 100000 in
theorem hC_X12_pass : Cond.code yX12_pass cX12_pass 5 (some .long) ∈ f_tbl := f_t 1302 rfl rfl
theorem hI_X12_pass : Cond.instanceMethod yX12_pass ∈ f_tbl := f_t 1301 (by decide +kernel) rfl
theorem hS_X12_pass : Cond.selects RX12 yX12_pass yX12_pass ∈ f_tbl := f_p 61 (by decide +kernel) rfl
set_option maxRecDepth 100000 in
theorem hC_X12_passAll : Cond.code yX12_passAll cX12_passAll 2 none ∈ f_tbl := f_t 1298 rfl rfl
theorem hI_X12_passAll : Cond.instanceMethod yX12_passAll ∈ f_tbl := f_t 1297 (by decide +kernel) rfl
theorem hS_X12_passAll : Cond.selects RX12 yX12_passAll yX12_passAll ∈ f_tbl := f_p 60 (by decide +kernel) rfl
set_option maxRecDepth 100000 in
theorem hC_X12_image : Cond.code yX12_image cX12_image 2 (some .int) ∈ f_tbl := f_t 1294 rfl rfl
theorem hI_X12_image : Cond.instanceMethod yX12_image ∈ f_tbl := f_t 1292 (by decide +kernel) rfl
theorem hS_X12_image : Cond.selects RX12 yX12_image yX12_image ∈ f_tbl := f_t 1293 (by decide +kernel) rfl
set_option maxRecDepth 100000 in
theorem hC_X12_restore : Cond.code yX12_restore cX12_restore 2 (some .int) ∈ f_tbl := f_t 1306 rfl rfl
theorem hI_X12_restore : Cond.instanceMethod yX12_restore ∈ f_tbl := f_t 1304 (by decide +kernel) rfl
theorem hS_X12_restore : Cond.selects RX12 yX12_restore yX12_restore ∈ f_tbl := f_t 1305 (by decide +kernel) rfl
set_option maxRecDepth 100000 in
theorem hC_X12_told : Cond.code yX12_told cX12_told 2 (some .int) ∈ f_tbl := f_t 1310 rfl rfl
theorem hI_X12_told : Cond.instanceMethod yX12_told ∈ f_tbl := f_t 1308 (by decide +kernel) rfl
theorem hS_X12_told : Cond.selects RX12 yX12_told yX12_told ∈ f_tbl := f_t 1309 (by decide +kernel) rfl
set_option maxRecDepth 100000 in
theorem hC_J9_abs_067f4 : Cond.code yJ9_abs_067f4 cJ9_abs_067f4 2 (some .long) ∈ f_tbl := f_t 418 rfl rfl
theorem hT_J9_abs_067f4 : Cond.static yJ9_abs_067f4 ∈ f_tbl := f_t 417 (by decide +kernel) rfl
set_option maxRecDepth 100000 in
theorem hC_J9_max_7cf53 : Cond.code yJ9_max_7cf53 cJ9_max_7cf53 2 (some .int) ∈ f_tbl := f_t 607 rfl rfl
theorem hT_J9_max_7cf53 : Cond.static yJ9_max_7cf53 ∈ f_tbl := f_t 606 (by decide +kernel) rfl
set_option maxRecDepth 100000 in
theorem hC_J9_max_f86c9 : Cond.code yJ9_max_f86c9 cJ9_max_f86c9 4 (some .long) ∈ f_tbl := f_t 712 rfl rfl
theorem hT_J9_max_f86c9 : Cond.static yJ9_max_f86c9 ∈ f_tbl := f_t 711 (by decide +kernel) rfl
set_option maxRecDepth 100000 in
theorem hC_J9_min_7cf53 : Cond.code yJ9_min_7cf53 cJ9_min_7cf53 2 (some .int) ∈ f_tbl := f_t 604 rfl rfl
theorem hT_J9_min_7cf53 : Cond.static yJ9_min_7cf53 ∈ f_tbl := f_t 603 (by decide +kernel) rfl
set_option maxRecDepth 100000 in
theorem hC_J9_min_f86c9 : Cond.code yJ9_min_f86c9 cJ9_min_f86c9 4 (some .long) ∈ f_tbl := f_t 709 rfl rfl
theorem hT_J9_min_f86c9 : Cond.static yJ9_min_f86c9 ∈ f_tbl := f_t 708 (by decide +kernel) rfl
theorem hL_L_9 : Cond.methodLink RL 9 yX11_init ∈ f_tbl := f_t 18 (by decide +kernel) rfl
theorem hL_X11_3 : Cond.methodLink RX11 3 objectInit ∈ f_tbl := f_t 21 (by decide +kernel) rfl
theorem hL_X11_11 : Cond.methodLink RX11 11 yX2_init ∈ f_tbl := f_t 26 (by decide +kernel) rfl
theorem hL_X2_3 : Cond.methodLink RX2 3 objectInit ∈ f_tbl := f_t 29 (by decide +kernel) rfl
theorem hL_X2_11 : Cond.methodLink RX2 11 yX10_init ∈ f_tbl := f_t 32 (by decide +kernel) rfl
theorem hL_X10_3 : Cond.methodLink RX10 3 objectInit ∈ f_tbl := f_t 35 (by decide +kernel) rfl
theorem hL_X10_25 : Cond.methodLink RX10 25 yX10_findParts ∈ f_tbl := f_t 36 (by decide +kernel) rfl
theorem hL_X10_42 : Cond.methodLink RX10 42 yX10_endOf ∈ f_tbl := f_t 43 (by decide +kernel) rfl
theorem hL_X10_53 : Cond.methodLink RX10 53 yX10_lettersOf ∈ f_tbl := f_t 47 (by decide +kernel) rfl
theorem hF_X10_9 : Cond.fieldLink RX10 9 "LostDigits$Text" "signs" "[I" ∈ f_tbl := f_t 54 (by decide +kernel) rfl
theorem hF_X0_28 : Cond.fieldLink RX0 28 "LostDigits$Text" "signs" "[I" ∈ f_tbl := f_t 55 (by decide +kernel) rfl
theorem hF_X10_15 : Cond.fieldLink RX10 15 "LostDigits$Text" "ends" "[I" ∈ f_tbl := f_t 56 (by decide +kernel) rfl
theorem hF_X10_18 : Cond.fieldLink RX10 18 "LostDigits$Text" "letters" "[I" ∈ f_tbl := f_t 57 (by decide +kernel) rfl
theorem hF_X0_24 : Cond.fieldLink RX0 24 "LostDigits$Text" "letters" "[I" ∈ f_tbl := f_t 58 (by decide +kernel) rfl
theorem hF_X10_21 : Cond.fieldLink RX10 21 "LostDigits$Text" "length" "I" ∈ f_tbl := f_t 59 (by decide +kernel) rfl
theorem hF_X0_18 : Cond.fieldLink RX0 18 "LostDigits$Text" "length" "I" ∈ f_tbl := f_t 60 (by decide +kernel) rfl
theorem hF_X8_39 : Cond.fieldLink RX8 39 "LostDigits$Text" "length" "I" ∈ f_tbl := f_t 61 (by decide +kernel) rfl
theorem hF_X7_79 : Cond.fieldLink RX7 79 "LostDigits$Text" "length" "I" ∈ f_tbl := f_t 62 (by decide +kernel) rfl
theorem hF_X6_70 : Cond.fieldLink RX6 70 "LostDigits$Text" "length" "I" ∈ f_tbl := f_t 63 (by decide +kernel) rfl
theorem hF_X5_33 : Cond.fieldLink RX5 33 "LostDigits$Text" "length" "I" ∈ f_tbl := f_t 64 (by decide +kernel) rfl
theorem hF_X11_128 : Cond.fieldLink RX11 128 "LostDigits$Text" "length" "I" ∈ f_tbl := f_t 65 (by decide +kernel) rfl
theorem hF_X2_12 : Cond.fieldLink RX2 12 "LostDigits$Page" "text" "LLostDigits$Text;" ∈ f_tbl := f_t 76 (by decide +kernel) rfl
theorem hF_X7_75 : Cond.fieldLink RX7 75 "LostDigits$Page" "text" "LLostDigits$Text;" ∈ f_tbl := f_t 77 (by decide +kernel) rfl
theorem hF_X6_59 : Cond.fieldLink RX6 59 "LostDigits$Page" "text" "LLostDigits$Text;" ∈ f_tbl := f_t 78 (by decide +kernel) rfl
theorem hF_X11_118 : Cond.fieldLink RX11 118 "LostDigits$Page" "text" "LLostDigits$Text;" ∈ f_tbl := f_t 79 (by decide +kernel) rfl
theorem hF_X2_18 : Cond.fieldLink RX2 18 "LostDigits$Page" "numbers" "[I" ∈ f_tbl := f_t 80 (by decide +kernel) rfl
theorem hF_X6_62 : Cond.fieldLink RX6 62 "LostDigits$Page" "numbers" "[I" ∈ f_tbl := f_t 81 (by decide +kernel) rfl
theorem hF_X7_109 : Cond.fieldLink RX7 109 "LostDigits$Page" "numbers" "[I" ∈ f_tbl := f_t 82 (by decide +kernel) rfl
theorem hF_X11_138 : Cond.fieldLink RX11 138 "LostDigits$Page" "numbers" "[I" ∈ f_tbl := f_t 83 (by decide +kernel) rfl
theorem hF_X2_22 : Cond.fieldLink RX2 22 "LostDigits$Page" "spans" "[I" ∈ f_tbl := f_t 84 (by decide +kernel) rfl
theorem hF_X7_102 : Cond.fieldLink RX7 102 "LostDigits$Page" "spans" "[I" ∈ f_tbl := f_t 85 (by decide +kernel) rfl
theorem hF_X11_141 : Cond.fieldLink RX11 141 "LostDigits$Page" "spans" "[I" ∈ f_tbl := f_t 86 (by decide +kernel) rfl
theorem hF_X2_25 : Cond.fieldLink RX2 25 "LostDigits$Page" "terms" "[J" ∈ f_tbl := f_t 87 (by decide +kernel) rfl
theorem hF_X9_49 : Cond.fieldLink RX9 49 "LostDigits$Page" "terms" "[J" ∈ f_tbl := f_t 88 (by decide +kernel) rfl
theorem hF_X11_197 : Cond.fieldLink RX11 197 "LostDigits$Page" "terms" "[J" ∈ f_tbl := f_t 89 (by decide +kernel) rfl
theorem hF_X2_29 : Cond.fieldLink RX2 29 "LostDigits$Page" "termCount" "I" ∈ f_tbl := f_t 90 (by decide +kernel) rfl
theorem hF_X9_56 : Cond.fieldLink RX9 56 "LostDigits$Page" "termCount" "I" ∈ f_tbl := f_t 91 (by decide +kernel) rfl
theorem hF_X11_194 : Cond.fieldLink RX11 194 "LostDigits$Page" "termCount" "I" ∈ f_tbl := f_t 92 (by decide +kernel) rfl
theorem hF_X2_33 : Cond.fieldLink RX2 33 "LostDigits$Page" "digits" "I" ∈ f_tbl := f_t 93 (by decide +kernel) rfl
theorem hF_X9_37 : Cond.fieldLink RX9 37 "LostDigits$Page" "digits" "I" ∈ f_tbl := f_t 94 (by decide +kernel) rfl
theorem hF_X7_65 : Cond.fieldLink RX7 65 "LostDigits$Page" "digits" "I" ∈ f_tbl := f_t 95 (by decide +kernel) rfl
theorem hF_X11_79 : Cond.fieldLink RX11 79 "LostDigits$Page" "digits" "I" ∈ f_tbl := f_t 96 (by decide +kernel) rfl
theorem hF_X6_45 : Cond.fieldLink RX6 45 "LostDigits$Page" "digits" "I" ∈ f_tbl := f_t 97 (by decide +kernel) rfl
theorem hF_X2_36 : Cond.fieldLink RX2 36 "LostDigits$Page" "way" "I" ∈ f_tbl := f_t 98 (by decide +kernel) rfl
theorem hF_X9_42 : Cond.fieldLink RX9 42 "LostDigits$Page" "way" "I" ∈ f_tbl := f_t 99 (by decide +kernel) rfl
theorem hF_X6_50 : Cond.fieldLink RX6 50 "LostDigits$Page" "way" "I" ∈ f_tbl := f_t 100 (by decide +kernel) rfl
theorem hF_X11_85 : Cond.fieldLink RX11 85 "LostDigits$Page" "way" "I" ∈ f_tbl := f_t 101 (by decide +kernel) rfl
theorem hF_X2_39 : Cond.fieldLink RX2 39 "LostDigits$Page" "isKept" "Z" ∈ f_tbl := f_t 102 (by decide +kernel) rfl
theorem hF_X11_282 : Cond.fieldLink RX11 282 "LostDigits$Page" "isKept" "Z" ∈ f_tbl := f_t 103 (by decide +kernel) rfl
theorem hL_X3_3 : Cond.methodLink RX3 3 objectInit ∈ f_tbl := f_t 127 (by decide +kernel) rfl
theorem hF_X3_9 : Cond.fieldLink RX3 9 "LostDigits$Ratio" "upper" "J" ∈ f_tbl := f_t 128 (by decide +kernel) rfl
theorem hF_X4_22 : Cond.fieldLink RX4 22 "LostDigits$Ratio" "upper" "J" ∈ f_tbl := f_t 129 (by decide +kernel) rfl
theorem hF_X3_15 : Cond.fieldLink RX3 15 "LostDigits$Ratio" "lower" "J" ∈ f_tbl := f_t 130 (by decide +kernel) rfl
theorem hF_X4_34 : Cond.fieldLink RX4 34 "LostDigits$Ratio" "lower" "J" ∈ f_tbl := f_t 131 (by decide +kernel) rfl
theorem hF_X3_18 : Cond.fieldLink RX3 18 "LostDigits$Ratio" "tens" "I" ∈ f_tbl := f_t 132 (by decide +kernel) rfl
theorem hF_X4_37 : Cond.fieldLink RX4 37 "LostDigits$Ratio" "tens" "I" ∈ f_tbl := f_t 133 (by decide +kernel) rfl
theorem hL_X4_3 : Cond.methodLink RX4 3 objectInit ∈ f_tbl := f_t 146 (by decide +kernel) rfl
theorem hF_X4_9 : Cond.fieldLink RX4 9 "LostDigits$Rounding" "digits" "I" ∈ f_tbl := f_t 147 (by decide +kernel) rfl
theorem hF_X4_15 : Cond.fieldLink RX4 15 "LostDigits$Rounding" "way" "I" ∈ f_tbl := f_t 148 (by decide +kernel) rfl
theorem hF_X4_18 : Cond.fieldLink RX4 18 "LostDigits$Rounding" "keepsTiny" "Z" ∈ f_tbl := f_t 149 (by decide +kernel) rfl
theorem hF_X7_62 : Cond.fieldLink RX7 62 "LostDigits$Rounding" "keepsTiny" "Z" ∈ f_tbl := f_t 150 (by decide +kernel) rfl
theorem hL_X8_3 : Cond.methodLink RX8 3 objectInit ∈ f_tbl := f_t 163 (by decide +kernel) rfl
theorem hL_X0_3 : Cond.methodLink RX0 3 objectInit ∈ f_tbl := f_t 169 (by decide +kernel) rfl
theorem hF_X0_9 : Cond.fieldLink RX0 9 "LostDigits$Fractions" "uppers" "[J" ∈ f_tbl := f_t 170 (by decide +kernel) rfl
theorem hF_X0_15 : Cond.fieldLink RX0 15 "LostDigits$Fractions" "lowers" "[J" ∈ f_tbl := f_t 171 (by decide +kernel) rfl
theorem hF_X8_9 : Cond.fieldLink RX8 9 "LostDigits$Steps" "values" "[J" ∈ f_tbl := f_t 181 (by decide +kernel) rfl
theorem hF_X11_162 : Cond.fieldLink RX11 162 "LostDigits$Steps" "values" "[J" ∈ f_tbl := f_t 182 (by decide +kernel) rfl
theorem hF_X8_15 : Cond.fieldLink RX8 15 "LostDigits$Steps" "slips" "[J" ∈ f_tbl := f_t 183 (by decide +kernel) rfl
theorem hF_X11_170 : Cond.fieldLink RX11 170 "LostDigits$Steps" "slips" "[J" ∈ f_tbl := f_t 184 (by decide +kernel) rfl
theorem hF_X8_21 : Cond.fieldLink RX8 21 "LostDigits$Steps" "fractions" "LLostDigits$Fractions;" ∈ f_tbl := f_t 185 (by decide +kernel) rfl
theorem hF_X11_145 : Cond.fieldLink RX11 145 "LostDigits$Steps" "fractions" "LLostDigits$Fractions;" ∈ f_tbl := f_t 186 (by decide +kernel) rfl
theorem hF_X8_28 : Cond.fieldLink RX8 28 "LostDigits$Steps" "rounding" "LLostDigits$Rounding;" ∈ f_tbl := f_t 187 (by decide +kernel) rfl
theorem hF_X6_41 : Cond.fieldLink RX6 41 "LostDigits$Steps" "rounding" "LLostDigits$Rounding;" ∈ f_tbl := f_t 188 (by decide +kernel) rfl
theorem hF_X11_177 : Cond.fieldLink RX11 177 "LostDigits$Steps" "rounding" "LLostDigits$Rounding;" ∈ f_tbl := f_t 189 (by decide +kernel) rfl
theorem hF_X8_35 : Cond.fieldLink RX8 35 "LostDigits$Steps" "ratio" "LLostDigits$Ratio;" ∈ f_tbl := f_t 190 (by decide +kernel) rfl
theorem hL_X9_3 : Cond.methodLink RX9 3 objectInit ∈ f_tbl := f_t 207 (by decide +kernel) rfl
theorem hF_X9_12 : Cond.fieldLink RX9 12 "LostDigits$Sums" "ratio" "LLostDigits$Ratio;" ∈ f_tbl := f_t 212 (by decide +kernel) rfl
theorem hF_X9_21 : Cond.fieldLink RX9 21 "LostDigits$Sums" "rounding" "LLostDigits$Rounding;" ∈ f_tbl := f_t 213 (by decide +kernel) rfl
theorem hF_X9_25 : Cond.fieldLink RX9 25 "LostDigits$Sums" "terms" "[J" ∈ f_tbl := f_t 214 (by decide +kernel) rfl
theorem hF_X1_61 : Cond.fieldLink RX1 61 "LostDigits$Sums" "terms" "[J" ∈ f_tbl := f_t 215 (by decide +kernel) rfl
theorem hF_X9_29 : Cond.fieldLink RX9 29 "LostDigits$Sums" "sizes" "[I" ∈ f_tbl := f_t 216 (by decide +kernel) rfl
theorem hF_X9_33 : Cond.fieldLink RX9 33 "LostDigits$Sums" "count" "I" ∈ f_tbl := f_t 217 (by decide +kernel) rfl
theorem hF_X1_49 : Cond.fieldLink RX1 49 "LostDigits$Sums" "count" "I" ∈ f_tbl := f_t 218 (by decide +kernel) rfl
theorem hL_X1_3 : Cond.methodLink RX1 3 objectInit ∈ f_tbl := f_t 235 (by decide +kernel) rfl
theorem hF_X1_12 : Cond.fieldLink RX1 12 "LostDigits$Orders" "sums" "LLostDigits$Sums;" ∈ f_tbl := f_t 240 (by decide +kernel) rfl
theorem hF_X1_18 : Cond.fieldLink RX1 18 "LostDigits$Orders" "path" "[I" ∈ f_tbl := f_t 241 (by decide +kernel) rfl
theorem hF_X1_22 : Cond.fieldLink RX1 22 "LostDigits$Orders" "losses" "[J" ∈ f_tbl := f_t 242 (by decide +kernel) rfl
theorem hF_X11_228 : Cond.fieldLink RX11 228 "LostDigits$Orders" "losses" "[J" ∈ f_tbl := f_t 243 (by decide +kernel) rfl
theorem hF_X1_26 : Cond.fieldLink RX1 26 "LostDigits$Orders" "counts" "[I" ∈ f_tbl := f_t 244 (by decide +kernel) rfl
theorem hF_X11_225 : Cond.fieldLink RX11 225 "LostDigits$Orders" "counts" "[I" ∈ f_tbl := f_t 245 (by decide +kernel) rfl
theorem hF_X1_31 : Cond.fieldLink RX1 31 "LostDigits$Orders" "firsts" "[[I" ∈ f_tbl := f_t 246 (by decide +kernel) rfl
theorem hF_X11_231 : Cond.fieldLink RX11 231 "LostDigits$Orders" "firsts" "[[I" ∈ f_tbl := f_t 247 (by decide +kernel) rfl
theorem hF_X1_34 : Cond.fieldLink RX1 34 "LostDigits$Orders" "whole" "J" ∈ f_tbl := f_t 248 (by decide +kernel) rfl
theorem hF_X1_38 : Cond.fieldLink RX1 38 "LostDigits$Orders" "isFound" "Z" ∈ f_tbl := f_t 249 (by decide +kernel) rfl
theorem hF_X11_290 : Cond.fieldLink RX11 290 "LostDigits$Orders" "isFound" "Z" ∈ f_tbl := f_t 250 (by decide +kernel) rfl
theorem hL_X11_67 : Cond.methodLink RX11 67 yX7_init ∈ f_tbl := f_t 268 (by decide +kernel) rfl
theorem hL_X7_3 : Cond.methodLink RX7 3 objectInit ∈ f_tbl := f_t 271 (by decide +kernel) rfl
theorem hK_X7_49 : Cond.constantLong RX7 49 (1000000000000000000) ∈ f_tbl := f_t 278 (by decide +kernel) rfl
theorem hF_X7_9 : Cond.fieldLink RX7 9 "LostDigits$Spans" "low" "[J" ∈ f_tbl := f_t 279 (by decide +kernel) rfl
theorem hF_X11_238 : Cond.fieldLink RX11 238 "LostDigits$Spans" "low" "[J" ∈ f_tbl := f_t 280 (by decide +kernel) rfl
theorem hF_X7_15 : Cond.fieldLink RX7 15 "LostDigits$Spans" "high" "[J" ∈ f_tbl := f_t 281 (by decide +kernel) rfl
theorem hF_X11_241 : Cond.fieldLink RX11 241 "LostDigits$Spans" "high" "[J" ∈ f_tbl := f_t 282 (by decide +kernel) rfl
theorem hF_X7_21 : Cond.fieldLink RX7 21 "LostDigits$Spans" "ratio" "LLostDigits$Ratio;" ∈ f_tbl := f_t 283 (by decide +kernel) rfl
theorem hF_X7_28 : Cond.fieldLink RX7 28 "LostDigits$Spans" "down" "LLostDigits$Rounding;" ∈ f_tbl := f_t 284 (by decide +kernel) rfl
theorem hF_X7_32 : Cond.fieldLink RX7 32 "LostDigits$Spans" "up" "LLostDigits$Rounding;" ∈ f_tbl := f_t 285 (by decide +kernel) rfl
theorem hF_X7_38 : Cond.fieldLink RX7 38 "LostDigits$Spans" "fractions" "LLostDigits$Fractions;" ∈ f_tbl := f_t 286 (by decide +kernel) rfl
theorem hF_X7_42 : Cond.fieldLink RX7 42 "LostDigits$Spans" "trial" "[I" ∈ f_tbl := f_t 287 (by decide +kernel) rfl
theorem hF_X7_46 : Cond.fieldLink RX7 46 "LostDigits$Spans" "widths" "[I" ∈ f_tbl := f_t 288 (by decide +kernel) rfl
theorem hF_X7_51 : Cond.fieldLink RX7 51 "LostDigits$Spans" "least" "J" ∈ f_tbl := f_t 289 (by decide +kernel) rfl
theorem hF_X11_247 : Cond.fieldLink RX11 247 "LostDigits$Spans" "least" "J" ∈ f_tbl := f_t 290 (by decide +kernel) rfl
theorem hF_X7_55 : Cond.fieldLink RX7 55 "LostDigits$Spans" "greatest" "J" ∈ f_tbl := f_t 291 (by decide +kernel) rfl
theorem hF_X11_251 : Cond.fieldLink RX11 251 "LostDigits$Spans" "greatest" "J" ∈ f_tbl := f_t 292 (by decide +kernel) rfl
theorem hF_X7_58 : Cond.fieldLink RX7 58 "LostDigits$Spans" "isFound" "Z" ∈ f_tbl := f_t 293 (by decide +kernel) rfl
theorem hF_X11_293 : Cond.fieldLink RX11 293 "LostDigits$Spans" "isFound" "Z" ∈ f_tbl := f_t 294 (by decide +kernel) rfl
theorem hL_X6_3 : Cond.methodLink RX6 3 objectInit ∈ f_tbl := f_t 323 (by decide +kernel) rfl
theorem hL_X6_20 : Cond.methodLink RX6 20 yX10_init ∈ f_tbl := f_t 327 (by decide +kernel) rfl
theorem hK_X6_31 : Cond.constantLong RX6 31 (1000000000000000000) ∈ f_tbl := f_t 328 (by decide +kernel) rfl
theorem hF_X6_12 : Cond.fieldLink RX6 12 "LostDigits$Search" "steps" "LLostDigits$Steps;" ∈ f_tbl := f_t 329 (by decide +kernel) rfl
theorem hF_X6_21 : Cond.fieldLink RX6 21 "LostDigits$Search" "once" "LLostDigits$Text;" ∈ f_tbl := f_t 330 (by decide +kernel) rfl
theorem hF_X11_260 : Cond.fieldLink RX11 260 "LostDigits$Search" "once" "LLostDigits$Text;" ∈ f_tbl := f_t 331 (by decide +kernel) rfl
theorem hF_X6_25 : Cond.fieldLink RX6 25 "LostDigits$Search" "twice" "LLostDigits$Text;" ∈ f_tbl := f_t 332 (by decide +kernel) rfl
theorem hF_X6_28 : Cond.fieldLink RX6 28 "LostDigits$Search" "best" "LLostDigits$Text;" ∈ f_tbl := f_t 333 (by decide +kernel) rfl
theorem hF_X11_277 : Cond.fieldLink RX11 277 "LostDigits$Search" "best" "LLostDigits$Text;" ∈ f_tbl := f_t 334 (by decide +kernel) rfl
theorem hF_X6_33 : Cond.fieldLink RX6 33 "LostDigits$Search" "bestLoss" "J" ∈ f_tbl := f_t 335 (by decide +kernel) rfl
theorem hF_X11_274 : Cond.fieldLink RX11 274 "LostDigits$Search" "bestLoss" "J" ∈ f_tbl := f_t 336 (by decide +kernel) rfl
theorem hF_X6_37 : Cond.fieldLink RX6 37 "LostDigits$Search" "foundRules" "I" ∈ f_tbl := f_t 337 (by decide +kernel) rfl
theorem hF_X11_294 : Cond.fieldLink RX11 294 "LostDigits$Search" "foundRules" "I" ∈ f_tbl := f_t 338 (by decide +kernel) rfl
theorem hF_X11_12 : Cond.fieldLink RX11 12 "LostDigits" "now" "LLostDigits$Page;" ∈ f_tbl := f_t 352 (by decide +kernel) rfl
theorem hF_X11_16 : Cond.fieldLink RX11 16 "LostDigits" "imageZero" "LLostDigits$Page;" ∈ f_tbl := f_t 353 (by decide +kernel) rfl
theorem hF_X11_19 : Cond.fieldLink RX11 19 "LostDigits" "imageOne" "LLostDigits$Page;" ∈ f_tbl := f_t 354 (by decide +kernel) rfl
theorem hF_X11_22 : Cond.fieldLink RX11 22 "LostDigits" "pad" "[I" ∈ f_tbl := f_t 355 (by decide +kernel) rfl
theorem hF_X11_26 : Cond.fieldLink RX11 26 "LostDigits" "padded" "I" ∈ f_tbl := f_t 356 (by decide +kernel) rfl
theorem hF_X11_33 : Cond.fieldLink RX11 33 "LostDigits" "ratio" "LLostDigits$Ratio;" ∈ f_tbl := f_t 357 (by decide +kernel) rfl
theorem hF_X11_40 : Cond.fieldLink RX11 40 "LostDigits" "rounding" "LLostDigits$Rounding;" ∈ f_tbl := f_t 358 (by decide +kernel) rfl
theorem hF_X11_47 : Cond.fieldLink RX11 47 "LostDigits" "steps" "LLostDigits$Steps;" ∈ f_tbl := f_t 359 (by decide +kernel) rfl
theorem hF_X11_54 : Cond.fieldLink RX11 54 "LostDigits" "sums" "LLostDigits$Sums;" ∈ f_tbl := f_t 360 (by decide +kernel) rfl
theorem hF_X11_61 : Cond.fieldLink RX11 61 "LostDigits" "allOrders" "LLostDigits$Orders;" ∈ f_tbl := f_t 361 (by decide +kernel) rfl
theorem hF_X11_68 : Cond.fieldLink RX11 68 "LostDigits" "spans" "LLostDigits$Spans;" ∈ f_tbl := f_t 362 (by decide +kernel) rfl
theorem hF_X11_75 : Cond.fieldLink RX11 75 "LostDigits" "search" "LLostDigits$Search;" ∈ f_tbl := f_t 363 (by decide +kernel) rfl
theorem hL_L_13 : Cond.methodLink RL 13 yX11_set ∈ f_tbl := f_t 389 (by decide +kernel) rfl
theorem hL_X11_82 : Cond.methodLink RX11 82 yX11_forgetFindings ∈ f_tbl := f_t 393 (by decide +kernel) rfl
theorem hL_L_18 : Cond.methodLink RL 18 yX11_round ∈ f_tbl := f_t 397 (by decide +kernel) rfl
theorem hK_X11_88 : Cond.constant RX11 88 (-1000000) ∈ f_tbl := f_t 401 (by decide +kernel) rfl
theorem hK_X11_89 : Cond.constant RX11 89 (1000000) ∈ f_tbl := f_t 402 (by decide +kernel) rfl
theorem hK_X11_90 : Cond.constantLong RX11 90 (-1000000000000000002) ∈ f_tbl := f_t 403 (by decide +kernel) rfl
theorem hL_X11_92 : Cond.methodLink RX11 92 yX3_hold ∈ f_tbl := f_t 404 (by decide +kernel) rfl
theorem hL_X11_96 : Cond.methodLink RX11 96 yX4_turn ∈ f_tbl := f_t 408 (by decide +kernel) rfl
theorem hL_X11_100 : Cond.methodLink RX11 100 yX4_of ∈ f_tbl := f_t 412 (by decide +kernel) rfl
theorem hL_X4_28 : Cond.methodLink RX4 28 yJ9_abs_067f4 ∈ f_tbl := f_t 416 (by decide +kernel) rfl
theorem hK_X4_40 : Cond.constantLong RX4 40 (100000) ∈ f_tbl := f_t 419 (by decide +kernel) rfl
theorem hK_X4_42 : Cond.constantLong RX4 42 (10) ∈ f_tbl := f_t 420 (by decide +kernel) rfl
theorem hL_X4_44 : Cond.methodLink RX4 44 yX4_goesOn ∈ f_tbl := f_t 421 (by decide +kernel) rfl
theorem hK_X4_52 : Cond.constantLong RX4 52 (2) ∈ f_tbl := f_t 425 (by decide +kernel) rfl
theorem hL_X4_48 : Cond.methodLink RX4 48 yX4_placed ∈ f_tbl := f_t 426 (by decide +kernel) rfl
theorem hK_X4_58 : Cond.constantLong RX4 58 (1000000000000000000) ∈ f_tbl := f_t 432 (by decide +kernel) rfl
theorem hK_X4_60 : Cond.constantLong RX4 60 (1000) ∈ f_tbl := f_t 433 (by decide +kernel) rfl
theorem hL_L_23 : Cond.methodLink RL 23 yX11_say ∈ f_tbl := f_t 434 (by decide +kernel) rfl
theorem hL_L_28 : Cond.methodLink RL 28 yX11_wipe ∈ f_tbl := f_t 438 (by decide +kernel) rfl
theorem hL_L_33 : Cond.methodLink RL 33 yX11_fault ∈ f_tbl := f_t 442 (by decide +kernel) rfl
theorem hL_X11_104 : Cond.methodLink RX11 104 yX11_isOperator ∈ f_tbl := f_t 446 (by decide +kernel) rfl
theorem hL_X11_108 : Cond.methodLink RX11 108 yX11_isLetter ∈ f_tbl := f_t 447 (by decide +kernel) rfl
theorem hL_X11_111 : Cond.methodLink RX11 111 yX11_isDigit ∈ f_tbl := f_t 448 (by decide +kernel) rfl
theorem hL_L_37 : Cond.methodLink RL 37 yX11_text ∈ f_tbl := f_t 451 (by decide +kernel) rfl
theorem hL_X11_114 : Cond.methodLink RX11 114 yX11_fault ∈ f_tbl := f_t 455 (by decide +kernel) rfl
theorem hL_X11_122 : Cond.methodLink RX11 122 yX10_read ∈ f_tbl := f_t 456 (by decide +kernel) rfl
theorem hL_X10_34 : Cond.methodLink RX10 34 yX10_add ∈ f_tbl := f_t 460 (by decide +kernel) rfl
theorem hL_L_41 : Cond.methodLink RL 41 yX11_sign ∈ f_tbl := f_t 464 (by decide +kernel) rfl
theorem hL_X11_131 : Cond.methodLink RX11 131 yX10_has ∈ f_tbl := f_t 468 (by decide +kernel) rfl
theorem hL_X11_134 : Cond.methodLink RX11 134 yX10_signAt ∈ f_tbl := f_t 472 (by decide +kernel) rfl
theorem hL_L_45 : Cond.methodLink RL 45 yX11_put ∈ f_tbl := f_t 476 (by decide +kernel) rfl
theorem hL_L_50 : Cond.methodLink RL 50 yX11_worked ∈ f_tbl := f_t 480 (by decide +kernel) rfl
theorem hK_X11_143 : Cond.constantLong RX11 143 (-1000000000000000001) ∈ f_tbl := f_t 484 (by decide +kernel) rfl
theorem hL_X11_149 : Cond.methodLink RX11 149 yX0_workParts ∈ f_tbl := f_t 485 (by decide +kernel) rfl
theorem hL_X0_35 : Cond.methodLink RX0 35 yX10_secondOf ∈ f_tbl := f_t 490 (by decide +kernel) rfl
theorem hL_X0_39 : Cond.methodLink RX0 39 yX0_join ∈ f_tbl := f_t 494 (by decide +kernel) rfl
theorem hL_X0_47 : Cond.methodLink RX0 47 yJ9_abs_067f4 ∈ f_tbl := f_t 498 (by decide +kernel) rfl
theorem hL_X11_155 : Cond.methodLink RX11 155 yX0_billionths ∈ f_tbl := f_t 502 (by decide +kernel) rfl
theorem hK_X0_53 : Cond.constantLong RX0 53 (1000000000000000000) ∈ f_tbl := f_t 506 (by decide +kernel) rfl
theorem hK_X0_55 : Cond.constantLong RX0 55 (10000000) ∈ f_tbl := f_t 507 (by decide +kernel) rfl
theorem hK_X0_57 : Cond.constantLong RX0 57 (1000) ∈ f_tbl := f_t 508 (by decide +kernel) rfl
theorem hL_X11_159 : Cond.methodLink RX11 159 yX11_workNow ∈ f_tbl := f_t 509 (by decide +kernel) rfl
theorem hL_X11_286 : Cond.methodLink RX11 286 yX8_work ∈ f_tbl := f_t 513 (by decide +kernel) rfl
theorem hL_X8_45 : Cond.methodLink RX8 45 yX10_signAt ∈ f_tbl := f_t 517 (by decide +kernel) rfl
theorem hK_X11_182 : Cond.constantLong RX11 182 (1000000000000000000) ∈ f_tbl := f_t 522 (by decide +kernel) rfl
theorem hL_X8_57 : Cond.methodLink RX8 57 yX10_secondOf ∈ f_tbl := f_t 523 (by decide +kernel) rfl
theorem hK_X8_60 : Cond.constantLong RX8 60 (1000000000000000000) ∈ f_tbl := f_t 524 (by decide +kernel) rfl
theorem hL_X8_62 : Cond.methodLink RX8 62 yX3_join ∈ f_tbl := f_t 525 (by decide +kernel) rfl
theorem hL_X3_22 : Cond.methodLink RX3 22 yX3_hold ∈ f_tbl := f_t 529 (by decide +kernel) rfl
theorem hL_X3_26 : Cond.methodLink RX3 26 yX3_lastZeros ∈ f_tbl := f_t 530 (by decide +kernel) rfl
theorem hK_X3_40 : Cond.constantLong RX3 40 (10) ∈ f_tbl := f_t 533 (by decide +kernel) rfl
theorem hL_X3_34 : Cond.methodLink RX3 34 yJ9_abs_067f4 ∈ f_tbl := f_t 535 (by decide +kernel) rfl
theorem hL_X8_70 : Cond.methodLink RX8 70 yX3_hold ∈ f_tbl := f_t 537 (by decide +kernel) rfl
theorem hL_X8_74 : Cond.methodLink RX8 74 yX4_of ∈ f_tbl := f_t 538 (by decide +kernel) rfl
theorem hL_X8_78 : Cond.methodLink RX8 78 yX3_cut ∈ f_tbl := f_t 539 (by decide +kernel) rfl
theorem hL_X11_166 : Cond.methodLink RX11 166 yX11_at ∈ f_tbl := f_t 543 (by decide +kernel) rfl
theorem hL_L_55 : Cond.methodLink RL 55 yX11_exact ∈ f_tbl := f_t 544 (by decide +kernel) rfl
theorem hL_X11_173 : Cond.methodLink RX11 173 yX0_lowest ∈ f_tbl := f_t 548 (by decide +kernel) rfl
theorem hL_X0_59 : Cond.methodLink RX0 59 yX0_sharedDivisor ∈ f_tbl := f_t 552 (by decide +kernel) rfl
theorem hL_L_60 : Cond.methodLink RL 60 yX11_loss ∈ f_tbl := f_t 555 (by decide +kernel) rfl
theorem hL_X11_178 : Cond.methodLink RX11 178 yX8_lossOf ∈ f_tbl := f_t 559 (by decide +kernel) rfl
theorem hL_X8_82 : Cond.methodLink RX8 82 yX8_work ∈ f_tbl := f_t 563 (by decide +kernel) rfl
theorem hL_X8_86 : Cond.methodLink RX8 86 yX0_workParts ∈ f_tbl := f_t 564 (by decide +kernel) rfl
theorem hL_X8_90 : Cond.methodLink RX8 90 yX0_billionths ∈ f_tbl := f_t 565 (by decide +kernel) rfl
theorem hL_L_65 : Cond.methodLink RL 65 yX11_worst ∈ f_tbl := f_t 566 (by decide +kernel) rfl
theorem hL_X11_184 : Cond.methodLink RX11 184 yJ9_abs_067f4 ∈ f_tbl := f_t 570 (by decide +kernel) rfl
theorem hL_L_71 : Cond.methodLink RL 71 yX11_needs ∈ f_tbl := f_t 571 (by decide +kernel) rfl
theorem hL_L_76 : Cond.methodLink RL 76 yX11_term ∈ f_tbl := f_t 575 (by decide +kernel) rfl
theorem hK_X11_190 : Cond.constantLong RX11 190 (-10000000000000000) ∈ f_tbl := f_t 579 (by decide +kernel) rfl
theorem hK_X11_192 : Cond.constantLong RX11 192 (10000000000000000) ∈ f_tbl := f_t 580 (by decide +kernel) rfl
theorem hL_L_80 : Cond.methodLink RL 80 yX11_clear ∈ f_tbl := f_t 581 (by decide +kernel) rfl
theorem hL_L_84 : Cond.methodLink RL 84 yX11_about ∈ f_tbl := f_t 585 (by decide +kernel) rfl
theorem hL_L_88 : Cond.methodLink RL 88 yX11_sum ∈ f_tbl := f_t 589 (by decide +kernel) rfl
theorem hK_X11_200 : Cond.constantLong RX11 200 (-1000000000000000006) ∈ f_tbl := f_t 593 (by decide +kernel) rfl
theorem hL_X11_202 : Cond.methodLink RX11 202 yX9_take ∈ f_tbl := f_t 594 (by decide +kernel) rfl
theorem hL_X9_45 : Cond.methodLink RX9 45 yX4_turn ∈ f_tbl := f_t 598 (by decide +kernel) rfl
theorem hL_X9_50 : Cond.methodLink RX9 50 arraycopyName ∈ f_tbl := f_t 599 (by decide +kernel) rfl
theorem hL_X9_59 : Cond.methodLink RX9 59 yJ9_min_7cf53 ∈ f_tbl := f_t 602 (by decide +kernel) rfl
theorem hL_X9_65 : Cond.methodLink RX9 65 yJ9_max_7cf53 ∈ f_tbl := f_t 605 (by decide +kernel) rfl
theorem hL_X11_206 : Cond.methodLink RX11 206 yX9_asTold ∈ f_tbl := f_t 608 (by decide +kernel) rfl
theorem hL_X9_78 : Cond.methodLink RX9 78 yX9_plus ∈ f_tbl := f_t 612 (by decide +kernel) rfl
theorem hK_X9_68 : Cond.constantLong RX9 68 (1000000000000000000) ∈ f_tbl := f_t 616 (by decide +kernel) rfl
theorem hL_X9_70 : Cond.methodLink RX9 70 yX3_hold ∈ f_tbl := f_t 617 (by decide +kernel) rfl
theorem hL_X9_74 : Cond.methodLink RX9 74 yX4_of ∈ f_tbl := f_t 618 (by decide +kernel) rfl
theorem hL_X11_210 : Cond.methodLink RX11 210 yX9_beside ∈ f_tbl := f_t 619 (by decide +kernel) rfl
theorem hL_X9_82 : Cond.methodLink RX9 82 yX9_less ∈ f_tbl := f_t 623 (by decide +kernel) rfl
theorem hL_X11_213 : Cond.methodLink RX11 213 yX9_halves ∈ f_tbl := f_t 627 (by decide +kernel) rfl
theorem hL_X9_85 : Cond.methodLink RX9 85 yX9_halfSum ∈ f_tbl := f_t 631 (by decide +kernel) rfl
theorem hL_X11_216 : Cond.methodLink RX11 216 yX9_bySize ∈ f_tbl := f_t 635 (by decide +kernel) rfl
theorem hL_X9_89 : Cond.methodLink RX9 89 yX9_insertBySize ∈ f_tbl := f_t 639 (by decide +kernel) rfl
theorem hL_X9_97 : Cond.methodLink RX9 97 yJ9_abs_067f4 ∈ f_tbl := f_t 644 (by decide +kernel) rfl
theorem hL_X11_219 : Cond.methodLink RX11 219 yX9_whole ∈ f_tbl := f_t 645 (by decide +kernel) rfl
theorem hL_L_92 : Cond.methodLink RL 92 yX11_orders ∈ f_tbl := f_t 649 (by decide +kernel) rfl
theorem hL_X11_222 : Cond.methodLink RX11 222 yX1_find ∈ f_tbl := f_t 653 (by decide +kernel) rfl
theorem hL_X1_42 : Cond.methodLink RX1 42 yX9_take ∈ f_tbl := f_t 657 (by decide +kernel) rfl
theorem hL_X1_46 : Cond.methodLink RX1 46 yX9_whole ∈ f_tbl := f_t 658 (by decide +kernel) rfl
theorem hL_X1_53 : Cond.methodLink RX1 53 yX1_extend ∈ f_tbl := f_t 659 (by decide +kernel) rfl
theorem hL_X1_57 : Cond.methodLink RX1 57 yX1_note ∈ f_tbl := f_t 663 (by decide +kernel) rfl
theorem hL_X1_70 : Cond.methodLink RX1 70 yX1_isPreferred ∈ f_tbl := f_t 667 (by decide +kernel) rfl
theorem hL_X1_80 : Cond.methodLink RX1 80 yJ9_abs_067f4 ∈ f_tbl := f_t 670 (by decide +kernel) rfl
theorem hL_X1_74 : Cond.methodLink RX1 74 arraycopyName ∈ f_tbl := f_t 671 (by decide +kernel) rfl
theorem hL_X1_64 : Cond.methodLink RX1 64 yX9_plus ∈ f_tbl := f_t 672 (by decide +kernel) rfl
theorem hK_X1_68 : Cond.constantLong RX1 68 (1000000000000000000) ∈ f_tbl := f_t 673 (by decide +kernel) rfl
theorem hL_L_96 : Cond.methodLink RL 96 yX11_order ∈ f_tbl := f_t 674 (by decide +kernel) rfl
theorem hL_L_100 : Cond.methodLink RL 100 yX11_bounds ∈ f_tbl := f_t 678 (by decide +kernel) rfl
theorem hL_X11_235 : Cond.methodLink RX11 235 yX7_bound ∈ f_tbl := f_t 682 (by decide +kernel) rfl
theorem hL_X7_71 : Cond.methodLink RX7 71 yX4_turn ∈ f_tbl := f_t 686 (by decide +kernel) rfl
theorem hL_X7_84 : Cond.methodLink RX7 84 yX10_signAt ∈ f_tbl := f_t 687 (by decide +kernel) rfl
theorem hL_X7_92 : Cond.methodLink RX7 92 yX10_secondOf ∈ f_tbl := f_t 689 (by decide +kernel) rfl
theorem hL_X7_95 : Cond.methodLink RX7 95 yX7_join ∈ f_tbl := f_t 690 (by decide +kernel) rfl
theorem hL_X7_124 : Cond.methodLink RX7 124 yX7_makeGreat ∈ f_tbl := f_t 695 (by decide +kernel) rfl
theorem hK_X7_130 : Cond.constantLong RX7 130 (9223372036854775807) ∈ f_tbl := f_t 699 (by decide +kernel) rfl
theorem hK_X7_132 : Cond.constantLong RX7 132 (-9223372036854775808) ∈ f_tbl := f_t 700 (by decide +kernel) rfl
theorem hL_X7_134 : Cond.methodLink RX7 134 yX7_widen ∈ f_tbl := f_t 701 (by decide +kernel) rfl
theorem hL_X7_138 : Cond.methodLink RX7 138 yX3_join ∈ f_tbl := f_t 705 (by decide +kernel) rfl
theorem hL_X7_116 : Cond.methodLink RX7 116 yX4_of ∈ f_tbl := f_t 706 (by decide +kernel) rfl
theorem hL_X7_141 : Cond.methodLink RX7 141 yJ9_min_f86c9 ∈ f_tbl := f_t 707 (by decide +kernel) rfl
theorem hL_X7_147 : Cond.methodLink RX7 147 yJ9_max_f86c9 ∈ f_tbl := f_t 710 (by decide +kernel) rfl
theorem hL_X7_112 : Cond.methodLink RX7 112 yX3_hold ∈ f_tbl := f_t 715 (by decide +kernel) rfl
theorem hL_L_104 : Cond.methodLink RL 104 yX11_truth ∈ f_tbl := f_t 716 (by decide +kernel) rfl
theorem hL_X11_244 : Cond.methodLink RX11 244 yX7_findTruth ∈ f_tbl := f_t 720 (by decide +kernel) rfl
theorem hL_X7_150 : Cond.methodLink RX7 150 yX7_startTrials ∈ f_tbl := f_t 724 (by decide +kernel) rfl
theorem hL_X7_168 : Cond.methodLink RX7 168 yX10_lettersOf ∈ f_tbl := f_t 728 (by decide +kernel) rfl
theorem hK_X7_154 : Cond.constantLong RX7 154 (-1000000000000000000) ∈ f_tbl := f_t 729 (by decide +kernel) rfl
theorem hL_X7_156 : Cond.methodLink RX7 156 yX0_workParts ∈ f_tbl := f_t 730 (by decide +kernel) rfl
theorem hL_X7_160 : Cond.methodLink RX7 160 yX0_billionths ∈ f_tbl := f_t 731 (by decide +kernel) rfl
theorem hL_X7_164 : Cond.methodLink RX7 164 yX7_nextTrial ∈ f_tbl := f_t 732 (by decide +kernel) rfl
theorem hL_L_108 : Cond.methodLink RL 108 yX11_fits ∈ f_tbl := f_t 736 (by decide +kernel) rfl
theorem hL_X11_254 : Cond.methodLink RX11 254 yX5_suits ∈ f_tbl := f_t 740 (by decide +kernel) rfl
theorem hL_X5_9 : Cond.methodLink RX5 9 yX10_signAt ∈ f_tbl := f_t 743 (by decide +kernel) rfl
theorem hL_X5_15 : Cond.methodLink RX5 15 yX10_secondOf ∈ f_tbl := f_t 744 (by decide +kernel) rfl
theorem hL_X5_18 : Cond.methodLink RX5 18 yX5_hasRoomToSpread ∈ f_tbl := f_t 745 (by decide +kernel) rfl
theorem hL_X5_30 : Cond.methodLink RX5 30 yX10_endOf ∈ f_tbl := f_t 748 (by decide +kernel) rfl
theorem hL_X5_24 : Cond.methodLink RX5 24 yX5_sharesFactor ∈ f_tbl := f_t 749 (by decide +kernel) rfl
theorem hL_X5_37 : Cond.methodLink RX5 37 yX10_areAlike ∈ f_tbl := f_t 752 (by decide +kernel) rfl
theorem hL_X10_38 : Cond.methodLink RX10 38 yX10_signAt ∈ f_tbl := f_t 756 (by decide +kernel) rfl
theorem hL_X5_27 : Cond.methodLink RX5 27 yX5_isOfSquares ∈ f_tbl := f_t 757 (by decide +kernel) rfl
theorem hL_L_112 : Cond.methodLink RL 112 yX11_change ∈ f_tbl := f_t 760 (by decide +kernel) rfl
theorem hL_X11_263 : Cond.methodLink RX11 263 yX5_write ∈ f_tbl := f_t 764 (by decide +kernel) rfl
theorem hL_X5_41 : Cond.methodLink RX5 41 yX5_suits ∈ f_tbl := f_t 767 (by decide +kernel) rfl
theorem hL_X5_45 : Cond.methodLink RX5 45 yX10_addPlaces ∈ f_tbl := f_t 768 (by decide +kernel) rfl
theorem hL_X5_49 : Cond.methodLink RX5 49 yX5_writeFactors ∈ f_tbl := f_t 772 (by decide +kernel) rfl
theorem hL_X5_59 : Cond.methodLink RX5 59 yX10_add ∈ f_tbl := f_t 775 (by decide +kernel) rfl
theorem hL_X5_63 : Cond.methodLink RX5 63 yX10_addPart ∈ f_tbl := f_t 776 (by decide +kernel) rfl
theorem hL_X10_45 : Cond.methodLink RX10 45 yX10_addPlaces ∈ f_tbl := f_t 780 (by decide +kernel) rfl
theorem hL_X5_53 : Cond.methodLink RX5 53 yX5_writeShift ∈ f_tbl := f_t 781 (by decide +kernel) rfl
theorem hL_X5_56 : Cond.methodLink RX5 56 yX10_findParts ∈ f_tbl := f_t 784 (by decide +kernel) rfl
theorem hL_X11_267 : Cond.methodLink RX11 267 yX10_copyFrom ∈ f_tbl := f_t 785 (by decide +kernel) rfl
theorem hL_X10_28 : Cond.methodLink RX10 28 arraycopyName ∈ f_tbl := f_t 789 (by decide +kernel) rfl
theorem hL_L_116 : Cond.methodLink RL 116 yX11_better ∈ f_tbl := f_t 790 (by decide +kernel) rfl
theorem hL_X11_271 : Cond.methodLink RX11 271 yX6_find ∈ f_tbl := f_t 794 (by decide +kernel) rfl
theorem hL_X6_53 : Cond.methodLink RX6 53 yX4_turn ∈ f_tbl := f_t 798 (by decide +kernel) rfl
theorem hL_X6_66 : Cond.methodLink RX6 66 yX6_consider ∈ f_tbl := f_t 799 (by decide +kernel) rfl
theorem hL_X6_83 : Cond.methodLink RX6 83 yX8_lossOf ∈ f_tbl := f_t 803 (by decide +kernel) rfl
theorem hL_X6_87 : Cond.methodLink RX6 87 yJ9_abs_067f4 ∈ f_tbl := f_t 804 (by decide +kernel) rfl
theorem hL_X6_93 : Cond.methodLink RX6 93 yX10_copyFrom ∈ f_tbl := f_t 805 (by decide +kernel) rfl
theorem hL_X6_73 : Cond.methodLink RX6 73 yX5_write ∈ f_tbl := f_t 806 (by decide +kernel) rfl
theorem hL_X6_79 : Cond.methodLink RX6 79 yX6_changeAgain ∈ f_tbl := f_t 807 (by decide +kernel) rfl
theorem hL_L_120 : Cond.methodLink RL 120 yX11_betterSign ∈ f_tbl := f_t 811 (by decide +kernel) rfl
theorem hL_L_124 : Cond.methodLink RL 124 yX11_image ∈ f_tbl := f_t 815 (by decide +kernel) rfl
theorem hL_X11_280 : Cond.methodLink RX11 280 yX2_copyFrom ∈ f_tbl := f_t 819 (by decide +kernel) rfl
theorem hL_X2_43 : Cond.methodLink RX2 43 yX10_copyFrom ∈ f_tbl := f_t 823 (by decide +kernel) rfl
theorem hL_X2_47 : Cond.methodLink RX2 47 arraycopyName ∈ f_tbl := f_t 824 (by decide +kernel) rfl
theorem hL_L_128 : Cond.methodLink RL 128 yX11_restore ∈ f_tbl := f_t 825 (by decide +kernel) rfl
theorem hL_L_132 : Cond.methodLink RL 132 yX11_told ∈ f_tbl := f_t 829 (by decide +kernel) rfl
theorem hL_L_12 : Cond.methodLink RL 12 yX12_init ∈ f_tbl := f_t 835 (by decide +kernel) rfl
theorem hL_X12_1 : Cond.methodLink RX12 1 objectInit ∈ f_tbl := f_t 838 (by decide +kernel) rfl
theorem hF_X12_75 : Cond.fieldLink RX12 75 "LostDigitsModel" "digits" "I" ∈ f_tbl := f_t 839 (by decide +kernel) rfl
theorem hF_X12_142 : Cond.fieldLink RX12 142 "LostDigitsModel" "way" "I" ∈ f_tbl := f_t 840 (by decide +kernel) rfl
theorem hF_X12_106 : Cond.fieldLink RX12 106 "LostDigitsModel" "short0" "J" ∈ f_tbl := f_t 841 (by decide +kernel) rfl
theorem hF_X12_110 : Cond.fieldLink RX12 110 "LostDigitsModel" "zeros" "I" ∈ f_tbl := f_t 842 (by decide +kernel) rfl
theorem hF_X12_117 : Cond.fieldLink RX12 117 "LostDigitsModel" "upper0" "J" ∈ f_tbl := f_t 843 (by decide +kernel) rfl
theorem hF_X12_120 : Cond.fieldLink RX12 120 "LostDigitsModel" "lower0" "J" ∈ f_tbl := f_t 844 (by decide +kernel) rfl
theorem hF_X12_123 : Cond.fieldLink RX12 123 "LostDigitsModel" "power0" "I" ∈ f_tbl := f_t 845 (by decide +kernel) rfl
theorem hF_X12_7 : Cond.fieldLink RX12 7 "LostDigitsModel" "pad" "[I" ∈ f_tbl := f_t 846 (by decide +kernel) rfl
theorem hF_X12_159 : Cond.fieldLink RX12 159 "LostDigitsModel" "padMany" "I" ∈ f_tbl := f_t 847 (by decide +kernel) rfl
theorem hF_X12_13 : Cond.fieldLink RX12 13 "LostDigitsModel" "text" "[I" ∈ f_tbl := f_t 848 (by decide +kernel) rfl
theorem hF_X12_79 : Cond.fieldLink RX12 79 "LostDigitsModel" "textMany" "I" ∈ f_tbl := f_t 849 (by decide +kernel) rfl
theorem hF_X12_16 : Cond.fieldLink RX12 16 "LostDigitsModel" "number" "[I" ∈ f_tbl := f_t 850 (by decide +kernel) rfl
theorem hF_X12_19 : Cond.fieldLink RX12 19 "LostDigitsModel" "span" "[I" ∈ f_tbl := f_t 851 (by decide +kernel) rfl
theorem hF_X12_22 : Cond.fieldLink RX12 22 "LostDigitsModel" "now" "[I" ∈ f_tbl := f_t 852 (by decide +kernel) rfl
theorem hF_X12_192 : Cond.fieldLink RX12 192 "LostDigitsModel" "nowMany" "I" ∈ f_tbl := f_t 853 (by decide +kernel) rfl
theorem hF_X12_25 : Cond.fieldLink RX12 25 "LostDigitsModel" "sizeOf" "[I" ∈ f_tbl := f_t 854 (by decide +kernel) rfl
theorem hF_X12_28 : Cond.fieldLink RX12 28 "LostDigitsModel" "workedTo" "[J" ∈ f_tbl := f_t 855 (by decide +kernel) rfl
theorem hF_X12_32 : Cond.fieldLink RX12 32 "LostDigitsModel" "slip" "[J" ∈ f_tbl := f_t 856 (by decide +kernel) rfl
theorem hF_X12_35 : Cond.fieldLink RX12 35 "LostDigitsModel" "exactUpper" "[J" ∈ f_tbl := f_t 857 (by decide +kernel) rfl
theorem hF_X12_38 : Cond.fieldLink RX12 38 "LostDigitsModel" "exactLower" "[J" ∈ f_tbl := f_t 858 (by decide +kernel) rfl
theorem hF_X12_41 : Cond.fieldLink RX12 41 "LostDigitsModel" "more" "[I" ∈ f_tbl := f_t 859 (by decide +kernel) rfl
theorem hF_X12_44 : Cond.fieldLink RX12 44 "LostDigitsModel" "terms" "[J" ∈ f_tbl := f_t 860 (by decide +kernel) rfl
theorem hF_X12_247 : Cond.fieldLink RX12 247 "LostDigitsModel" "termMany" "I" ∈ f_tbl := f_t 861 (by decide +kernel) rfl
theorem hF_X12_47 : Cond.fieldLink RX12 47 "LostDigitsModel" "order" "[I" ∈ f_tbl := f_t 862 (by decide +kernel) rfl
theorem hF_X12_276 : Cond.fieldLink RX12 276 "LostDigitsModel" "bestLoss" "J" ∈ f_tbl := f_t 863 (by decide +kernel) rfl
theorem hF_X12_273 : Cond.fieldLink RX12 273 "LostDigitsModel" "bestMany" "I" ∈ f_tbl := f_t 864 (by decide +kernel) rfl
theorem hF_X12_50 : Cond.fieldLink RX12 50 "LostDigitsModel" "bestOrder" "[I" ∈ f_tbl := f_t 865 (by decide +kernel) rfl
theorem hF_X12_53 : Cond.fieldLink RX12 53 "LostDigitsModel" "low" "[J" ∈ f_tbl := f_t 866 (by decide +kernel) rfl
theorem hF_X12_56 : Cond.fieldLink RX12 56 "LostDigitsModel" "high" "[J" ∈ f_tbl := f_t 867 (by decide +kernel) rfl
theorem hF_X12_59 : Cond.fieldLink RX12 59 "LostDigitsModel" "built" "[I" ∈ f_tbl := f_t 868 (by decide +kernel) rfl
theorem hF_X12_310 : Cond.fieldLink RX12 310 "LostDigitsModel" "builtMany" "I" ∈ f_tbl := f_t 869 (by decide +kernel) rfl
theorem hF_X12_62 : Cond.fieldLink RX12 62 "LostDigitsModel" "better" "[I" ∈ f_tbl := f_t 870 (by decide +kernel) rfl
theorem hF_X12_339 : Cond.fieldLink RX12 339 "LostDigitsModel" "betterMany" "I" ∈ f_tbl := f_t 871 (by decide +kernel) rfl
theorem hF_X12_342 : Cond.fieldLink RX12 342 "LostDigitsModel" "betterLoss" "J" ∈ f_tbl := f_t 872 (by decide +kernel) rfl
theorem hF_X12_65 : Cond.fieldLink RX12 65 "LostDigitsModel" "base" "[I" ∈ f_tbl := f_t 873 (by decide +kernel) rfl
theorem hF_X12_345 : Cond.fieldLink RX12 345 "LostDigitsModel" "baseMany" "I" ∈ f_tbl := f_t 874 (by decide +kernel) rfl
theorem hF_X12_68 : Cond.fieldLink RX12 68 "LostDigitsModel" "kept" "[J" ∈ f_tbl := f_t 875 (by decide +kernel) rfl
theorem hF_X12_71 : Cond.fieldLink RX12 71 "LostDigitsModel" "isKept" "[Z" ∈ f_tbl := f_t 876 (by decide +kernel) rfl
theorem hF_X12_370 : Cond.fieldLink RX12 370 "LostDigitsModel" "keptAt" "I" ∈ f_tbl := f_t 877 (by decide +kernel) rfl
theorem hF_X12_366 : Cond.fieldLink RX12 366 "LostDigitsModel" "isWriting" "Z" ∈ f_tbl := f_t 878 (by decide +kernel) rfl
theorem hL_L_17 : Cond.methodLink RL 17 yX12_set ∈ f_tbl := f_t 961 (by decide +kernel) rfl
theorem hL_X12_134 : Cond.methodLink RX12 134 yX12_isEnd ∈ f_tbl := f_t 965 (by decide +kernel) rfl
theorem hL_X12_82 : Cond.methodLink RX12 82 yX12_in ∈ f_tbl := f_t 968 (by decide +kernel) rfl
theorem hK_X12_138 : Cond.constantLong RX12 138 (4) ∈ f_tbl := f_t 971 (by decide +kernel) rfl
theorem hK_X12_140 : Cond.constantLong RX12 140 (3) ∈ f_tbl := f_t 972 (by decide +kernel) rfl
theorem hL_L_22 : Cond.methodLink RL 22 yX12_round ∈ f_tbl := f_t 973 (by decide +kernel) rfl
theorem hK_X12_145 : Cond.constantLong RX12 145 (-1000000) ∈ f_tbl := f_t 977 (by decide +kernel) rfl
theorem hK_X12_147 : Cond.constantLong RX12 147 (1000000) ∈ f_tbl := f_t 978 (by decide +kernel) rfl
theorem hK_X12_149 : Cond.constantLong RX12 149 (-9) ∈ f_tbl := f_t 979 (by decide +kernel) rfl
theorem hK_X12_151 : Cond.constantLong RX12 151 (9) ∈ f_tbl := f_t 980 (by decide +kernel) rfl
theorem hK_X12_153 : Cond.constantLong RX12 153 (-1000000000000000002) ∈ f_tbl := f_t 981 (by decide +kernel) rfl
theorem hL_X12_98 : Cond.methodLink RX12 98 yX12_size ∈ f_tbl := f_t 982 (by decide +kernel) rfl
theorem hL_X12_102 : Cond.methodLink RX12 102 yX12_rounded ∈ f_tbl := f_t 985 (by decide +kernel) rfl
theorem hK_X12_86 : Cond.constantLong RX12 86 (10) ∈ f_tbl := f_t 989 (by decide +kernel) rfl
theorem hK_X12_88 : Cond.constantLong RX12 88 (2) ∈ f_tbl := f_t 990 (by decide +kernel) rfl
theorem hL_X12_90 : Cond.methodLink RX12 90 yX12_power ∈ f_tbl := f_t 991 (by decide +kernel) rfl
theorem hK_X12_94 : Cond.constantLong RX12 94 (1000000000000000000) ∈ f_tbl := f_t 994 (by decide +kernel) rfl
theorem hK_X12_96 : Cond.constantLong RX12 96 (1000) ∈ f_tbl := f_t 995 (by decide +kernel) rfl
theorem hL_L_27 : Cond.methodLink RL 27 yX12_say ∈ f_tbl := f_t 996 (by decide +kernel) rfl
theorem hK_X12_155 : Cond.constantLong RX12 155 (33) ∈ f_tbl := f_t 1000 (by decide +kernel) rfl
theorem hK_X12_157 : Cond.constantLong RX12 157 (126) ∈ f_tbl := f_t 1001 (by decide +kernel) rfl
theorem hL_L_32 : Cond.methodLink RL 32 yX12_wipe ∈ f_tbl := f_t 1002 (by decide +kernel) rfl
theorem hL_L_36 : Cond.methodLink RL 36 yX12_fault ∈ f_tbl := f_t 1006 (by decide +kernel) rfl
theorem hL_X12_170 : Cond.methodLink RX12 170 yX12_isSign ∈ f_tbl := f_t 1010 (by decide +kernel) rfl
theorem hL_X12_173 : Cond.methodLink RX12 173 yX12_isLetter ∈ f_tbl := f_t 1013 (by decide +kernel) rfl
theorem hK_X12_162 : Cond.constantLong RX12 162 (97) ∈ f_tbl := f_t 1016 (by decide +kernel) rfl
theorem hK_X12_164 : Cond.constantLong RX12 164 (101) ∈ f_tbl := f_t 1017 (by decide +kernel) rfl
theorem hL_X12_176 : Cond.methodLink RX12 176 yX12_isDigit ∈ f_tbl := f_t 1018 (by decide +kernel) rfl
theorem hK_X12_166 : Cond.constantLong RX12 166 (48) ∈ f_tbl := f_t 1021 (by decide +kernel) rfl
theorem hK_X12_168 : Cond.constantLong RX12 168 (57) ∈ f_tbl := f_t 1022 (by decide +kernel) rfl
theorem hL_L_40 : Cond.methodLink RL 40 yX12_text ∈ f_tbl := f_t 1023 (by decide +kernel) rfl
theorem hL_X12_179 : Cond.methodLink RX12 179 yX12_fault ∈ f_tbl := f_t 1027 (by decide +kernel) rfl
theorem hL_L_44 : Cond.methodLink RL 44 yX12_sign ∈ f_tbl := f_t 1028 (by decide +kernel) rfl
theorem hL_X12_183 : Cond.methodLink RX12 183 yX12_isStep ∈ f_tbl := f_t 1032 (by decide +kernel) rfl
theorem hL_L_49 : Cond.methodLink RL 49 yX12_put ∈ f_tbl := f_t 1036 (by decide +kernel) rfl
theorem hK_X12_186 : Cond.constantLong RX12 186 (-99) ∈ f_tbl := f_t 1040 (by decide +kernel) rfl
theorem hK_X12_188 : Cond.constantLong RX12 188 (99) ∈ f_tbl := f_t 1041 (by decide +kernel) rfl
theorem hK_X12_190 : Cond.constantLong RX12 190 (5) ∈ f_tbl := f_t 1042 (by decide +kernel) rfl
theorem hL_L_54 : Cond.methodLink RL 54 yX12_worked ∈ f_tbl := f_t 1043 (by decide +kernel) rfl
theorem hK_X12_221 : Cond.constantLong RX12 221 (-1000000000000000001) ∈ f_tbl := f_t 1047 (by decide +kernel) rfl
theorem hL_X12_223 : Cond.methodLink RX12 223 yX12_layText ∈ f_tbl := f_t 1048 (by decide +kernel) rfl
theorem hL_X12_226 : Cond.methodLink RX12 226 yX12_workExact ∈ f_tbl := f_t 1052 (by decide +kernel) rfl
theorem hL_X12_195 : Cond.methodLink RX12 195 yX12_findSizes ∈ f_tbl := f_t 1056 (by decide +kernel) rfl
theorem hL_X12_208 : Cond.methodLink RX12 208 yX12_wholeAt ∈ f_tbl := f_t 1060 (by decide +kernel) rfl
theorem hL_X12_216 : Cond.methodLink RX12 216 yX12_layExact ∈ f_tbl := f_t 1064 (by decide +kernel) rfl
theorem hL_X12_212 : Cond.methodLink RX12 212 yX12_common ∈ f_tbl := f_t 1068 (by decide +kernel) rfl
theorem hL_X12_229 : Cond.methodLink RX12 229 yX12_billionths ∈ f_tbl := f_t 1071 (by decide +kernel) rfl
theorem hK_X12_219 : Cond.constantLong RX12 219 (10000000) ∈ f_tbl := f_t 1075 (by decide +kernel) rfl
theorem hL_X12_233 : Cond.methodLink RX12 233 yX12_work ∈ f_tbl := f_t 1076 (by decide +kernel) rfl
theorem hL_X12_198 : Cond.methodLink RX12 198 yX12_made ∈ f_tbl := f_t 1080 (by decide +kernel) rfl
theorem hL_X12_126 : Cond.methodLink RX12 126 yX12_roundOf ∈ f_tbl := f_t 1084 (by decide +kernel) rfl
theorem hL_X12_130 : Cond.methodLink RX12 130 yX12_layBoth ∈ f_tbl := f_t 1088 (by decide +kernel) rfl
theorem hL_X12_113 : Cond.methodLink RX12 113 yX12_shorten ∈ f_tbl := f_t 1092 (by decide +kernel) rfl
theorem hL_X12_202 : Cond.methodLink RX12 202 yX12_whole ∈ f_tbl := f_t 1096 (by decide +kernel) rfl
theorem hK_X12_206 : Cond.constantLong RX12 206 (1000000000) ∈ f_tbl := f_t 1100 (by decide +kernel) rfl
theorem hL_L_59 : Cond.methodLink RL 59 yX12_exact ∈ f_tbl := f_t 1101 (by decide +kernel) rfl
theorem hL_L_64 : Cond.methodLink RL 64 yX12_loss ∈ f_tbl := f_t 1105 (by decide +kernel) rfl
theorem hL_X12_239 : Cond.methodLink RX12 239 yX12_lossNow ∈ f_tbl := f_t 1109 (by decide +kernel) rfl
theorem hL_X12_236 : Cond.methodLink RX12 236 yX12_less ∈ f_tbl := f_t 1113 (by decide +kernel) rfl
theorem hL_L_68 : Cond.methodLink RL 68 yX12_worst ∈ f_tbl := f_t 1116 (by decide +kernel) rfl
theorem hL_L_75 : Cond.methodLink RL 75 yX12_needs ∈ f_tbl := f_t 1120 (by decide +kernel) rfl
theorem hL_L_79 : Cond.methodLink RL 79 yX12_term ∈ f_tbl := f_t 1124 (by decide +kernel) rfl
theorem hK_X12_243 : Cond.constantLong RX12 243 (-10000000000000000) ∈ f_tbl := f_t 1128 (by decide +kernel) rfl
theorem hK_X12_245 : Cond.constantLong RX12 245 (10000000000000000) ∈ f_tbl := f_t 1129 (by decide +kernel) rfl
theorem hL_L_83 : Cond.methodLink RL 83 yX12_clear ∈ f_tbl := f_t 1130 (by decide +kernel) rfl
theorem hL_L_87 : Cond.methodLink RL 87 yX12_about ∈ f_tbl := f_t 1134 (by decide +kernel) rfl
theorem hL_L_91 : Cond.methodLink RL 91 yX12_sum ∈ f_tbl := f_t 1138 (by decide +kernel) rfl
theorem hK_X12_256 : Cond.constantLong RX12 256 (-1000000000000000006) ∈ f_tbl := f_t 1142 (by decide +kernel) rfl
theorem hL_X12_258 : Cond.methodLink RX12 258 yX12_layOrder ∈ f_tbl := f_t 1143 (by decide +kernel) rfl
theorem hL_X12_261 : Cond.methodLink RX12 261 yX12_beside ∈ f_tbl := f_t 1147 (by decide +kernel) rfl
theorem hL_X12_264 : Cond.methodLink RX12 264 yX12_halves ∈ f_tbl := f_t 1151 (by decide +kernel) rfl
theorem hL_X12_253 : Cond.methodLink RX12 253 yX12_halfOf ∈ f_tbl := f_t 1155 (by decide +kernel) rfl
theorem hL_X12_250 : Cond.methodLink RX12 250 yX12_sumOf ∈ f_tbl := f_t 1159 (by decide +kernel) rfl
theorem hL_X12_267 : Cond.methodLink RX12 267 yX12_orderBySize ∈ f_tbl := f_t 1163 (by decide +kernel) rfl
theorem hL_X12_270 : Cond.methodLink RX12 270 yX12_wholeSum ∈ f_tbl := f_t 1167 (by decide +kernel) rfl
theorem hL_L_95 : Cond.methodLink RL 95 yX12_orders ∈ f_tbl := f_t 1171 (by decide +kernel) rfl
theorem hL_X12_287 : Cond.methodLink RX12 287 yX12_findOrders ∈ f_tbl := f_t 1175 (by decide +kernel) rfl
theorem hL_X12_279 : Cond.methodLink RX12 279 yX12_isBetter ∈ f_tbl := f_t 1179 (by decide +kernel) rfl
theorem hL_X12_283 : Cond.methodLink RX12 283 yX12_nextOrder ∈ f_tbl := f_t 1183 (by decide +kernel) rfl
theorem hL_L_99 : Cond.methodLink RL 99 yX12_order ∈ f_tbl := f_t 1187 (by decide +kernel) rfl
theorem hL_L_103 : Cond.methodLink RL 103 yX12_bounds ∈ f_tbl := f_t 1191 (by decide +kernel) rfl
theorem hL_X12_298 : Cond.methodLink RX12 298 yX12_findEnds ∈ f_tbl := f_t 1195 (by decide +kernel) rfl
theorem hL_X12_291 : Cond.methodLink RX12 291 yX12_layEnds ∈ f_tbl := f_t 1199 (by decide +kernel) rfl
theorem hL_X12_294 : Cond.methodLink RX12 294 yX12_ofPairs ∈ f_tbl := f_t 1203 (by decide +kernel) rfl
theorem hL_L_107 : Cond.methodLink RL 107 yX12_truth ∈ f_tbl := f_t 1207 (by decide +kernel) rfl
theorem hL_X12_307 : Cond.methodLink RX12 307 yX12_truthOf ∈ f_tbl := f_t 1211 (by decide +kernel) rfl
theorem hL_X12_304 : Cond.methodLink RX12 304 yX12_nextNumbers ∈ f_tbl := f_t 1215 (by decide +kernel) rfl
theorem hL_X12_301 : Cond.methodLink RX12 301 yX12_isIn ∈ f_tbl := f_t 1219 (by decide +kernel) rfl
theorem hL_L_111 : Cond.methodLink RL 111 yX12_fits ∈ f_tbl := f_t 1223 (by decide +kernel) rfl
theorem hL_X12_333 : Cond.methodLink RX12 333 yX12_isRule ∈ f_tbl := f_t 1227 (by decide +kernel) rfl
theorem hK_X12_331 : Cond.constantLong RX12 331 (6) ∈ f_tbl := f_t 1230 (by decide +kernel) rfl
theorem hL_X12_336 : Cond.methodLink RX12 336 yX12_build ∈ f_tbl := f_t 1231 (by decide +kernel) rfl
theorem hL_X12_320 : Cond.methodLink RX12 320 yX12_hasSigns ∈ f_tbl := f_t 1235 (by decide +kernel) rfl
theorem hL_X12_316 : Cond.methodLink RX12 316 yX12_isSame ∈ f_tbl := f_t 1239 (by decide +kernel) rfl
theorem hL_X12_313 : Cond.methodLink RX12 313 yX12_add ∈ f_tbl := f_t 1243 (by decide +kernel) rfl
theorem hL_X12_324 : Cond.methodLink RX12 324 yX12_buildPart ∈ f_tbl := f_t 1247 (by decide +kernel) rfl
theorem hL_X12_328 : Cond.methodLink RX12 328 yX12_addPart ∈ f_tbl := f_t 1251 (by decide +kernel) rfl
theorem hL_L_115 : Cond.methodLink RL 115 yX12_change ∈ f_tbl := f_t 1255 (by decide +kernel) rfl
theorem hL_L_119 : Cond.methodLink RL 119 yX12_better ∈ f_tbl := f_t 1259 (by decide +kernel) rfl
theorem hL_X12_363 : Cond.methodLink RX12 363 yX12_findBetter ∈ f_tbl := f_t 1263 (by decide +kernel) rfl
theorem hL_X12_354 : Cond.methodLink RX12 354 yX12_hold ∈ f_tbl := f_t 1267 (by decide +kernel) rfl
theorem hL_X12_357 : Cond.methodLink RX12 357 yX12_keepBase ∈ f_tbl := f_t 1271 (by decide +kernel) rfl
theorem hL_X12_360 : Cond.methodLink RX12 360 yX12_holdAll ∈ f_tbl := f_t 1275 (by decide +kernel) rfl
theorem hL_X12_348 : Cond.methodLink RX12 348 yX12_layBase ∈ f_tbl := f_t 1279 (by decide +kernel) rfl
theorem hL_X12_351 : Cond.methodLink RX12 351 yX12_layBuilt ∈ f_tbl := f_t 1283 (by decide +kernel) rfl
theorem hL_L_123 : Cond.methodLink RL 123 yX12_betterSign ∈ f_tbl := f_t 1287 (by decide +kernel) rfl
theorem hL_L_127 : Cond.methodLink RL 127 yX12_image ∈ f_tbl := f_t 1291 (by decide +kernel) rfl
theorem hL_X12_376 : Cond.methodLink RX12 376 yX12_passAll ∈ f_tbl := f_t 1295 (by decide +kernel) rfl
theorem hL_X12_373 : Cond.methodLink RX12 373 yX12_pass ∈ f_tbl := f_t 1299 (by decide +kernel) rfl
theorem hL_L_131 : Cond.methodLink RL 131 yX12_restore ∈ f_tbl := f_t 1303 (by decide +kernel) rfl
theorem hL_L_135 : Cond.methodLink RL 135 yX12_told ∈ f_tbl := f_t 1307 (by decide +kernel) rfl
theorem hK_X12_379 : Cond.constantLong RX12 379 (14) ∈ f_tbl := f_t 1311 (by decide +kernel) rfl
theorem hK_X12_381 : Cond.constantLong RX12 381 (20) ∈ f_tbl := f_t 1312 (by decide +kernel) rfl
theorem hK_X12_383 : Cond.constantLong RX12 383 (24) ∈ f_tbl := f_t 1313 (by decide +kernel) rfl
theorem hK_L_69 : Cond.constantLong RL 69 (4294967295) ∈ f_tbl := f_t 1314 (by decide +kernel) rfl
/-- the words of nest mates -/
def f_nst : List Cond := [Cond.methodLinkNest RX10 49 yX11_isOperator "LostDigits", Cond.methodLinkNest RX10 56 yX11_isLetter "LostDigits", Cond.methodLinkNest RX11 32 yX3_init "LostDigits", Cond.methodLinkNest RX11 39 yX4_init "LostDigits", Cond.methodLinkNest RX11 46 yX8_init "LostDigits", Cond.methodLinkNest RX8 20 yX0_init "LostDigits", Cond.methodLinkNest RX8 27 yX4_init "LostDigits", Cond.methodLinkNest RX8 34 yX3_init "LostDigits", Cond.methodLinkNest RX11 53 yX9_init "LostDigits", Cond.methodLinkNest RX9 11 yX3_init "LostDigits", Cond.methodLinkNest RX9 20 yX4_init "LostDigits", Cond.methodLinkNest RX11 60 yX1_init "LostDigits", Cond.methodLinkNest RX1 11 yX9_init "LostDigits", Cond.methodLinkNest RX7 20 yX3_init "LostDigits", Cond.methodLinkNest RX7 27 yX4_init "LostDigits", Cond.methodLinkNest RX7 37 yX0_init "LostDigits", Cond.methodLinkNest RX11 74 yX6_init "LostDigits", Cond.methodLinkNest RX6 11 yX8_init "LostDigits", Cond.fieldLinkNest RX4 54 "LostDigits" "TENS" "[J" "LostDigits", Cond.methodLinkNest RX0 31 yX11_isOperator "LostDigits", Cond.methodLinkNest RX0 43 yX11_numberOf "LostDigits", Cond.methodLinkNest RX8 49 yX11_isOperator "LostDigits", Cond.methodLinkNest RX8 53 yX11_at "LostDigits", Cond.fieldLinkNest RX3 30 "LostDigits" "TENS" "[J" "LostDigits", Cond.methodLinkNest RX8 66 yX11_numberOf "LostDigits", Cond.methodLinkNest RX9 93 yX11_at "LostDigits", Cond.methodLinkNest RX7 88 yX11_isOperator "LostDigits", Cond.methodLinkNest RX7 120 yX11_at "LostDigits", Cond.methodLinkNest RX7 99 yX11_isLetter "LostDigits", Cond.methodLinkNest RX7 105 yX11_numberOf "LostDigits"]
theorem f_nst_in : ∀ w ∈ f_nst, w ∈ lw_tbl := by
  intro w hw
  have h : f_nst = [40, 51, 124, 143, 160, 166, 178, 180, 204, 209, 211, 232, 237, 273, 275, 277, 320, 325, 430, 489, 499, 518, 519, 534, 536, 643, 688, 694, 713, 714].filterMap (fun i => tables_1[i]?) := by decide +kernel
  rw [h] at hw
  obtain ⟨i, -, hi⟩ := List.mem_filterMap.mp hw
  exact List.mem_append_right _ (List.mem_of_getElem? hi)
theorem hM_X10_49 : Cond.methodLinkNest RX10 49 yX11_isOperator "LostDigits" ∈ f_nst := List.mem_of_getElem? (i := 0) rfl
theorem hM_X10_56 : Cond.methodLinkNest RX10 56 yX11_isLetter "LostDigits" ∈ f_nst := List.mem_of_getElem? (i := 1) rfl
theorem hM_X11_32 : Cond.methodLinkNest RX11 32 yX3_init "LostDigits" ∈ f_nst := List.mem_of_getElem? (i := 2) rfl
theorem hM_X11_39 : Cond.methodLinkNest RX11 39 yX4_init "LostDigits" ∈ f_nst := List.mem_of_getElem? (i := 3) rfl
theorem hM_X11_46 : Cond.methodLinkNest RX11 46 yX8_init "LostDigits" ∈ f_nst := List.mem_of_getElem? (i := 4) rfl
theorem hM_X8_20 : Cond.methodLinkNest RX8 20 yX0_init "LostDigits" ∈ f_nst := List.mem_of_getElem? (i := 5) rfl
theorem hM_X8_27 : Cond.methodLinkNest RX8 27 yX4_init "LostDigits" ∈ f_nst := List.mem_of_getElem? (i := 6) rfl
theorem hM_X8_34 : Cond.methodLinkNest RX8 34 yX3_init "LostDigits" ∈ f_nst := List.mem_of_getElem? (i := 7) rfl
theorem hM_X11_53 : Cond.methodLinkNest RX11 53 yX9_init "LostDigits" ∈ f_nst := List.mem_of_getElem? (i := 8) rfl
theorem hM_X9_11 : Cond.methodLinkNest RX9 11 yX3_init "LostDigits" ∈ f_nst := List.mem_of_getElem? (i := 9) rfl
theorem hM_X9_20 : Cond.methodLinkNest RX9 20 yX4_init "LostDigits" ∈ f_nst := List.mem_of_getElem? (i := 10) rfl
theorem hM_X11_60 : Cond.methodLinkNest RX11 60 yX1_init "LostDigits" ∈ f_nst := List.mem_of_getElem? (i := 11) rfl
theorem hM_X1_11 : Cond.methodLinkNest RX1 11 yX9_init "LostDigits" ∈ f_nst := List.mem_of_getElem? (i := 12) rfl
theorem hM_X7_20 : Cond.methodLinkNest RX7 20 yX3_init "LostDigits" ∈ f_nst := List.mem_of_getElem? (i := 13) rfl
theorem hM_X7_27 : Cond.methodLinkNest RX7 27 yX4_init "LostDigits" ∈ f_nst := List.mem_of_getElem? (i := 14) rfl
theorem hM_X7_37 : Cond.methodLinkNest RX7 37 yX0_init "LostDigits" ∈ f_nst := List.mem_of_getElem? (i := 15) rfl
theorem hM_X11_74 : Cond.methodLinkNest RX11 74 yX6_init "LostDigits" ∈ f_nst := List.mem_of_getElem? (i := 16) rfl
theorem hM_X6_11 : Cond.methodLinkNest RX6 11 yX8_init "LostDigits" ∈ f_nst := List.mem_of_getElem? (i := 17) rfl
theorem hM_X4_54 : Cond.fieldLinkNest RX4 54 "LostDigits" "TENS" "[J" "LostDigits" ∈ f_nst := List.mem_of_getElem? (i := 18) rfl
theorem hM_X0_31 : Cond.methodLinkNest RX0 31 yX11_isOperator "LostDigits" ∈ f_nst := List.mem_of_getElem? (i := 19) rfl
theorem hM_X0_43 : Cond.methodLinkNest RX0 43 yX11_numberOf "LostDigits" ∈ f_nst := List.mem_of_getElem? (i := 20) rfl
theorem hM_X8_49 : Cond.methodLinkNest RX8 49 yX11_isOperator "LostDigits" ∈ f_nst := List.mem_of_getElem? (i := 21) rfl
theorem hM_X8_53 : Cond.methodLinkNest RX8 53 yX11_at "LostDigits" ∈ f_nst := List.mem_of_getElem? (i := 22) rfl
theorem hM_X3_30 : Cond.fieldLinkNest RX3 30 "LostDigits" "TENS" "[J" "LostDigits" ∈ f_nst := List.mem_of_getElem? (i := 23) rfl
theorem hM_X8_66 : Cond.methodLinkNest RX8 66 yX11_numberOf "LostDigits" ∈ f_nst := List.mem_of_getElem? (i := 24) rfl
theorem hM_X9_93 : Cond.methodLinkNest RX9 93 yX11_at "LostDigits" ∈ f_nst := List.mem_of_getElem? (i := 25) rfl
theorem hM_X7_88 : Cond.methodLinkNest RX7 88 yX11_isOperator "LostDigits" ∈ f_nst := List.mem_of_getElem? (i := 26) rfl
theorem hM_X7_120 : Cond.methodLinkNest RX7 120 yX11_at "LostDigits" ∈ f_nst := List.mem_of_getElem? (i := 27) rfl
theorem hM_X7_99 : Cond.methodLinkNest RX7 99 yX11_isLetter "LostDigits" ∈ f_nst := List.mem_of_getElem? (i := 28) rfl
theorem hM_X7_105 : Cond.methodLinkNest RX7 105 yX11_numberOf "LostDigits" ∈ f_nst := List.mem_of_getElem? (i := 29) rfl
end
section
/-! ===== THE FLAT MACHINE: worlds of a fixed shape, by ids; a heap is four maps: int fields, long fields, int rows, long rows ===== -/
abbrev fH : Type := (Nat → Nat → Int32) × (Nat → Nat → Int64) × (Nat → Nat → Int32) × (Nat → Nat → Int64)
/-- a shape: an object (its class' number in f_cl; a field's kind: 0 int, 1 long, 2 boolean, j + 3 the cell of id j), or a row (0 int, 1 long, 2 boolean, 3 int[]; its length; the ids of its rows) -/
abbrev fS : Type := (Nat × List Nat) ⊕ (Nat × Nat × (Nat → Nat))
abbrev fW : Type := List (Nat × fS)
/-- a method: its name, its bytes, how many locals, what it answers -/
abbrev fM : Type := MethodName × ByteArray × Nat × Option FieldType
def f_v (σ : Nat → Nat) : Value → Value
  | .ref k => .ref (σ k)
  | .int x => .int x
  | .long x => .long x
  | v => v
def f_fv (σ : Nat → Nat) (h : fH) (r k : Nat) : Nat → Value
  | 0 => .int (h.1 r k)
  | 1 => .long (h.2.1 r k)
  | 2 => .int (h.1 r k)
  | j + 3 => .ref (σ j)
def f_fs (σ : Nat → Nat) (h : fH) (r : Nat) : Nat → List Nat → List Value
  | _, [] => []
  | k, fd :: t => f_fv σ h r k fd :: f_fs σ h r (k + 1) t
def f_e (σ : Nat → Nat) (cA : Nat → ClassId) (h : fH) (r : Nat) : fS → va_E
  | .inl (ci, fds) => .inr (ci, f_fs σ h r 0 fds)
  | .inr (0, n, _) => .inl (cA 0, n, .inl (h.2.2.1 r))
  | .inr (1, n, _) => .inl (cA 1, n, .inr (.inl (h.2.2.2 r)))
  | .inr (2, n, _) => .inl (cA 2, n, .inl (h.2.2.1 r))
  | .inr (_ + 3, n, g) => .inl (cA 3, n, .inr (.inr (.inr (.inr (fun i => some (σ (g i)))))))
def f_w (σ : Nat → Nat) (cA : Nat → ClassId) (h : fH) (S : fW) : va_W := S.map fun q => (σ q.1, f_e σ cA h q.1 q.2)
def f_tys (cA : Nat → ClassId) : List (ClassId × FieldType) := [(cA 0, .int), (cA 1, .long), (cA 2, .boolean), (cA 3, .array .int)]
def f_lv (σ : Nat → Nat) (lv : List (Nat × Value)) : List (Nat × Value) := lv.map fun q => (q.1, f_v σ q.2)
def f_s1 (i : Nat) (v : Value) (lv : List (Nat × Value)) : List (Nat × Value) := (i, v) :: lv.filter (fun q => !(q.1 == i) && !(q.1 + 1 == i && q.2.category == 2))
def f_s2 (i : Nat) (v : Value) (lv : List (Nat × Value)) : List (Nat × Value) := (i, v) :: lv.filter (fun q => !(q.1 == i) && (!(q.1 == i + 1) && !(q.1 + 1 == i && q.2.category == 2)))
def u_fi (h : fH) (r k : Nat) (v : Int32) : fH := (fun a => if a = r then upd (h.1 a) k v else h.1 a, h.2)
def u_fl (h : fH) (r k : Nat) (v : Int64) : fH := (h.1, fun a => if a = r then vp_updL (h.2.1 a) k v else h.2.1 a, h.2.2)
def u_ai (h : fH) (r : Nat) (f : Nat → Int32) : fH := (h.1, h.2.1, fun a => if a = r then f else h.2.2.1 a, h.2.2.2)
def u_al (h : fH) (r : Nat) (f : Nat → Int64) : fH := (h.1, h.2.1, h.2.2.1, fun a => if a = r then f else h.2.2.2 a)
def f_room (d : Nat) : Room := { frames := d, cells := 0, slots := 0, locals := 96 * d }
def f_ten (j : Nat) : Int64 := Int64.ofNat (10 ^ j)
/-- the static row TENS (id 0), the words of nest mates -/
def f_sg (σ : Nat → Nat) (A : Nat → Prop) (U : State) (H : Heap) : Prop := va_Z RX11 "TENS" "[J" (.ref (σ 0)) A U H ∧ va_T .long (σ 0) 19 (fun j => .long (f_ten j)) A U H ∧ ∀ w ∈ f_nst, va_Nw w U
def f_B (D : va_G) (cA : Nat → ClassId) (σ : Nat → Nat) (A : Nat → Prop) (S : fW) (h : fH) (U : State) : Prop := (va_P D f_cl (f_w σ cA h S) U.heap ∧ va_D A (f_w σ cA h S)) ∧ va_K D f_cl (f_tys cA) U ∧ (∀ q : Nat, U.heap.size ≤ q → A q) ∧ f_sg σ A U U.heap
def f_Pc (D : va_G) (cA : Nat → ClassId) (σ : Nat → Nat) (A : Nat → Prop) (S : fW) (vs : List Value) (h : fH) : Array Value → State → Prop := va_Pc (vs.map (f_v σ)) (f_B D cA σ A S h)
def f_Q (D : va_G) (cA : Nat → ClassId) (σ : Nat → Nat) (A : Nat → Prop) (S : fW) (Post : Option Value → fH → Prop) : Array Value → State → Outcome → State → Prop := fun _ st oc t =>
  (∃ (r : Option Value) (h : fH), oc = .returned (r.map (f_v σ)) ∧ Post r h ∧ va_P D f_cl (f_w σ cA h S) t.heap ∧ va_D A (f_w σ cA h S)) ∧ va_F A st t
/-- A METHOD'S MEANING: from the heap h with these arguments it ends, its answer and heap are as Post has them; nothing outside the world is written, nothing made; d: how deep its calls go -/
def Ok (d : Nat) (Y : fM) (S : fW) (vs : List Value) (h : fH) (Post : Option Value → fH → Prop) : Prop :=
  ∀ (l : Launch) (D : va_G) (cA : Nat → ClassId) (σ : Nat → Nat) (A : Nat → Prop), Met l Y.1 (.code Y.1 Y.2.1 Y.2.2.1 Y.2.2.2 :: f_tbl) (f_room d) (f_Pc D cA σ A S vs h) (f_Q D cA σ A S Post) 0 0 A
def f_E (Y : fM) (p : Program) (s : State) (m : MethodId) (args : Array Value) (meth : Method) (c : Code) (D : va_G) (cA : Nat → ClassId) (σ : Nat → Nat) (A : Nat → Prop) : Prop :=
  p.tables.exec = Jvm.exec ∧ c.code = Y.2.1 ∧ c.maxLocals = Y.2.2.1 ∧ meth.sig.returnType = Y.2.2.2 ∧ s.vm.findClass Y.1.cls = some m.cls ∧ (∀ w ∈ f_tbl, w.before args s = true) ∧ f_sg σ A s s.heap ∧ meth.locks = false ∧ va_K D f_cl (f_tys cA) s ∧ (∀ q : Nat, s.heap.size ≤ q → A q)
/-- the flat machine, at pc with locals lv, stack st, heap h, comes to its end with Post -/
def G (Y : fM) (d : Nat) (S : fW) (Post : Option Value → fH → Prop) (pc : Nat) (lv : List (Nat × Value)) (st : List Value) (h : fH) : Prop :=
  ∀ (p : Program) (l : Launch) (e : Env) (s : State) (m : MethodId) (args : Array Value) (below : List Frame) (meth : Method) (c : Code) (D : va_G) (cA : Nat → ClassId) (σ : Nat → Nat) (A : Nat → Prop), f_E Y p s m args meth c D cA σ A →
  ∀ (H : Heap) (locs : List Loc) (ls : Array Slot), va_P D f_cl (f_w σ cA h S) H → va_D A (f_w σ cA h S) → va_S A s.heap H locs → lv_has ls Y.2.2.1 (f_lv σ lv) →
  W p l e (f_room d) s m args below meth c H locs 0 0 (MQ below (f_Q D cA σ A S Post) args s 0 0 A) (F0 m pc ls (st.map (f_v σ)))
-- pure rows
theorem f_v_cat (σ : Nat → Nat) (v : Value) : (f_v σ v).category = v.category := by cases v <;> rfl
theorem f_lv_get {σ : Nat → Nat} {lv : List (Nat × Value)} {j i : Nat} {v : Value} (h : lv[j]? = some (i, v)) : (f_lv σ lv)[j]? = some (i, f_v σ v) := by
  simp [f_lv, h]
theorem f_at {σ : Nat → Nat} {ls : Array Slot} {n : Nat} {lv : List (Nat × Value)} (hl : lv_has ls n (f_lv σ lv)) (j : Nat) {i : Nat} {v : Value} (h : lv[j]? = some (i, v)) : ls[i]? = some (.val (f_v σ v)) := lv_at hl j (f_lv_get h)
theorem f_filter (σ : Nat → Nat) (P : Nat → Nat → Bool) (lv : List (Nat × Value)) : (f_lv σ lv).filter (fun q => P q.1 q.2.category) = f_lv σ (lv.filter (fun q => P q.1 q.2.category)) := by
  unfold f_lv
  rw [List.filter_map]
  congr 1
  apply List.filter_congr
  intro q _
  simp [f_v_cat]
theorem f_s1_map (σ : Nat → Nat) (i : Nat) (v : Value) (lv : List (Nat × Value)) : (i, f_v σ v) :: (f_lv σ lv).filter (fun q => !(q.1 == i) && !(q.1 + 1 == i && q.2.category == 2)) = f_lv σ (f_s1 i v lv) := by
  rw [f_filter σ (fun a b => !(a == i) && !(a + 1 == i && b == 2)) lv]
  rfl
theorem f_s2_map (σ : Nat → Nat) (i : Nat) (v : Value) (lv : List (Nat × Value)) : (i, f_v σ v) :: (f_lv σ lv).filter (fun q => !(q.1 == i) && (!(q.1 == i + 1) && !(q.1 + 1 == i && q.2.category == 2))) = f_lv σ (f_s2 i v lv) := by
  rw [f_filter σ (fun a b => !(a == i) && (!(a == i + 1) && !(a + 1 == i && b == 2))) lv]
  rfl
theorem f_fs_get (σ : Nat → Nat) (h : fH) (r : Nat) : ∀ (fds : List Nat) (k i : Nat), (f_fs σ h r k fds)[i]? = (fds[i]?).map (f_fv σ h r (k + i))
  | [], k, i => by simp [f_fs]
  | fd :: t, k, 0 => by simp [f_fs]
  | fd :: t, k, i + 1 => by
    simp only [f_fs, List.getElem?_cons_succ]
    rw [f_fs_get σ h r t (k + 1) i]
    congr 2
    omega
theorem f_fs_len (σ : Nat → Nat) (h : fH) (r : Nat) : ∀ (fds : List Nat) (k : Nat), (f_fs σ h r k fds).length = fds.length
  | [], k => rfl
  | fd :: t, k => by simp [f_fs, f_fs_len σ h r t (k + 1)]
/-- the heaps agree but at the cell of id r -/
def f_off (h h' : fH) (r : Nat) : Prop := ∀ a : Nat, a ≠ r → h'.1 a = h.1 a ∧ h'.2.1 a = h.2.1 a ∧ h'.2.2.1 a = h.2.2.1 a ∧ h'.2.2.2 a = h.2.2.2 a
theorem f_fv_of {σ : Nat → Nat} {h h' : fH} {r k fd : Nat} (h1 : h'.1 r = h.1 r) (h2 : h'.2.1 r = h.2.1 r) : f_fv σ h' r k fd = f_fv σ h r k fd := by
  match fd with
  | 0 => simp [f_fv, h1]
  | 1 => simp [f_fv, h2]
  | 2 => simp [f_fv, h1]
  | j + 3 => simp [f_fv]
theorem f_fs_of {σ : Nat → Nat} {h h' : fH} {r : Nat} (h1 : h'.1 r = h.1 r) (h2 : h'.2.1 r = h.2.1 r) : ∀ (fds : List Nat) (k : Nat), f_fs σ h' r k fds = f_fs σ h r k fds
  | [], k => rfl
  | fd :: t, k => by simp only [f_fs, f_fv_of h1 h2, f_fs_of h1 h2 t (k + 1)]
theorem f_e_of {σ : Nat → Nat} {cA : Nat → ClassId} {h h' : fH} {r : Nat} (sh : fS) (h1 : h'.1 r = h.1 r) (h2 : h'.2.1 r = h.2.1 r) (h3 : h'.2.2.1 r = h.2.2.1 r) (h4 : h'.2.2.2 r = h.2.2.2 r) : f_e σ cA h' r sh = f_e σ cA h r sh := by
  match sh with
  | .inl (ci, fds) => simp only [f_e, f_fs_of h1 h2]
  | .inr (0, n, g) => simp only [f_e, h3]
  | .inr (1, n, g) => simp only [f_e, h4]
  | .inr (2, n, g) => simp only [f_e, h3]
  | .inr (j + 3, n, g) => simp only [f_e]
theorem f_w_get {σ : Nat → Nat} {cA : Nat → ClassId} {h : fH} {S : fW} {q r : Nat} {sh : fS} (hq : S[q]? = some (r, sh)) : (f_w σ cA h S)[q]? = some (σ r, f_e σ cA h r sh) := by
  simp [f_w, hq]
theorem f_w_set {σ : Nat → Nat} {cA : Nat → ClassId} {h h' : fH} {S : fW} {A : Nat → Prop} {q r : Nat} {sh : fS} (hq : S[q]? = some (r, sh)) (hD : va_D A (f_w σ cA h S)) (ho : f_off h h' r) : (f_w σ cA h S).set q (σ r, f_e σ cA h' r sh) = f_w σ cA h' S := by
  apply List.ext_getElem?
  intro j
  rw [List.getElem?_set]
  by_cases e : q = j
  · subst e
    have hlt : q < (f_w σ cA h S).length := by
      have := (List.getElem?_eq_some_iff.mp hq).1
      simpa [f_w] using this
    rw [if_pos rfl, if_pos hlt, f_w_get hq]
  · rw [if_neg e]
    cases hj : S[j]? with
    | none => simp [f_w, hj]
    | some x =>
      obtain ⟨r', sh'⟩ := x
      rw [f_w_get hj, f_w_get hj]
      have hne : r' ≠ r := by
        intro er
        subst er
        exact e (hD.1 q j _ _ (f_w_get hq) (f_w_get hj) rfl)
      obtain ⟨a1, a2, a3, a4⟩ := ho r' hne
      rw [f_e_of sh' a1 a2 a3 a4]
theorem f_D {σ : Nat → Nat} {cA : Nat → ClassId} {h h' : fH} {S : fW} {A : Nat → Prop} (hD : va_D A (f_w σ cA h S)) : va_D A (f_w σ cA h' S) := by
  have key : ∀ (k : Nat) (q : Nat × va_E), (f_w σ cA h' S)[k]? = some q → ∃ e, (f_w σ cA h S)[k]? = some (q.1, e) := by
    intro k q hk
    cases hj : S[k]? with
    | none => simp [f_w, hj] at hk
    | some x =>
      obtain ⟨r, sh⟩ := x
      rw [f_w_get hj] at hk
      cases hk
      exact ⟨_, f_w_get hj⟩
  refine ⟨fun i j p q hi hj e => ?_, fun k q hk => ?_⟩
  · obtain ⟨e1, h1⟩ := key i p hi
    obtain ⟨e2, h2⟩ := key j q hj
    exact hD.1 i j _ _ h1 h2 e
  · obtain ⟨e1, h1⟩ := key k q hk
    exact hD.2 k (q.1, e1) h1
theorem f_off_fi (h : fH) (r k : Nat) (v : Int32) : f_off h (u_fi h r k v) r := fun a ha => by simp [u_fi, ha]
theorem f_off_fl (h : fH) (r k : Nat) (v : Int64) : f_off h (u_fl h r k v) r := fun a ha => by simp [u_fl, ha]
theorem f_off_ai (h : fH) (r : Nat) (f : Nat → Int32) : f_off h (u_ai h r f) r := fun a ha => by simp [u_ai, ha]
theorem f_off_al (h : fH) (r : Nat) (f : Nat → Int64) : f_off h (u_al h r f) r := fun a ha => by simp [u_al, ha]
theorem f_fs_set {σ : Nat → Nat} {h h' : fH} {r k : Nat} {fds : List Nat} {v : Value} (hv : ∀ fd, fds[k]? = some fd → f_fv σ h' r k fd = v) (ho : ∀ j fd, j ≠ k → f_fv σ h' r j fd = f_fv σ h r j fd) : (f_fs σ h r 0 fds).set k v = f_fs σ h' r 0 fds := by
  apply List.ext_getElem?
  intro j
  rw [List.getElem?_set, f_fs_get, f_fs_get]
  by_cases e : k = j
  · subst e
    rw [if_pos rfl, f_fs_len]
    by_cases hk : k < fds.length
    · rw [if_pos hk, List.getElem?_eq_getElem hk]
      simp only [Option.map_some, Nat.zero_add]
      rw [hv _ (List.getElem?_eq_getElem hk)]
    · rw [if_neg hk, List.getElem?_eq_none (Nat.le_of_not_lt hk)]
      rfl
  · rw [if_neg e]
    cases fds[j]? with
    | none => rfl
    | some fd => simp only [Option.map_some, Nat.zero_add]; rw [ho j fd (fun q => e q.symm)]
theorem f_fv_fi {σ : Nat → Nat} {h : fH} {r k j fd : Nat} {v : Int32} (hj : j ≠ k) : f_fv σ (u_fi h r k v) r j fd = f_fv σ h r j fd := by
  match fd with
  | 0 => simp [f_fv, u_fi, upd, hj]
  | 1 => simp [f_fv, u_fi]
  | 2 => simp [f_fv, u_fi, upd, hj]
  | j + 3 => simp [f_fv]
theorem f_fv_fl {σ : Nat → Nat} {h : fH} {r k j fd : Nat} {v : Int64} (hj : j ≠ k) : f_fv σ (u_fl h r k v) r j fd = f_fv σ h r j fd := by
  match fd with
  | 0 => simp [f_fv, u_fl]
  | 1 => simp [f_fv, u_fl, vp_updL, hj]
  | 2 => simp [f_fv, u_fl]
  | j + 3 => simp [f_fv]
theorem f_args (σ : Nat → Nat) : ∀ (vs : List Value) (i : Nat), lv_args i (vs.map (f_v σ)) = f_lv σ (lv_args i vs)
  | [], i => rfl
  | v :: vs, i => by
    simp only [List.map_cons, lv_args, f_v_cat, f_lv, List.map_cons]
    rw [f_args σ vs]
    rfl
theorem f_sl (σ : Nat → Nat) (vs : List Value) : (lg_sl (vs.map (f_v σ))).length = (lg_sl vs).length := by
  induction vs with
  | nil => rfl
  | cons v vs ih =>
    simp only [lg_sl, List.map_cons, List.flatMap_cons, List.length_append] at ih ⊢
    rw [ih, f_v_cat]
    by_cases h : v.category = 2 <;> simp [h]
-- the nest's words go through calls
def f_isN : Cond → Bool
  | .methodLinkNest .. => true
  | .fieldLinkNest .. => true
  | _ => false
theorem f_nst_isN : ∀ w ∈ f_nst, f_isN w = true := by decide +kernel
theorem f_isN_tab {w : Cond} (h : f_isN w = true) : w.onTables = true := by
  cases w <;> first | rfl | cases h
theorem f_isN_warm {w : Cond} (h : f_isN w = true) {s U : State} (hW : s.WarmedH U.vm) (hZ : va_Nw w s) : va_Nw w U := by
  cases w <;> first | exact va_Nw.warmM hW hZ | exact va_Nw.warmF hW hZ | cases h
theorem f_sg_same {σ : Nat → Nat} {A : Nat → Prop} {u U : State} {H : Heap} (hvm : u.vm = U.vm) (h : f_sg σ A u H) : f_sg σ A U H := by
  obtain ⟨h1, h2, h3⟩ := h
  have ha : u.vm.Alike U.vm := by rw [hvm]; exact Vm.Alike.refl U.vm
  exact ⟨h1.moved ha, h2.moved ha, fun w hw => (h3 w hw).same (f_isN_tab (f_nst_isN w hw)) hvm⟩
theorem f_sg_warm {σ : Nat → Nat} {A : Nat → Prop} {s U : State} {H : Heap} (hW : s.WarmedH U.vm) (h : f_sg σ A s H) : f_sg σ A U H := by
  obtain ⟨h1, h2, h3⟩ := h
  exact ⟨h1.moved hW.alike, h2.moved hW.alike, fun w hw => f_isN_warm (f_nst_isN w hw) hW (h3 w hw)⟩
theorem f_sg_kept {σ : Nat → Nat} {A : Nat → Prop} {U : State} {H H1 : Heap} (h : f_sg σ A U H) (hq : ∀ a : Nat, a < H.size → ¬ A a → H1[a]? = H[a]?) : f_sg σ A U H1 := ⟨h.1.kept hq, h.2.1.kept hq, h.2.2⟩
theorem f_blind (D : va_G) (cA : Nat → ClassId) (σ : Nat → Nat) (A : Nat → Prop) (S : fW) (vs : List Value) (h : fH) : FrameBlind (f_Pc D cA σ A S vs h) := by
  intro a U g mk q
  obtain ⟨q1, q2, q3, q4, q5⟩ := q
  exact ⟨q1, q2, va_K.moved (u := U) (U := U.calling g mk a) (Vm.Alike.refl U.vm) q3, q4, f_sg_same (u := U) (U := U.calling g mk a) rfl q5⟩
theorem f_good (Y : fM) (hc : Cond.code Y.1 Y.2.1 Y.2.2.1 Y.2.2.2 ∈ f_tbl) : GoodIn f_tbl (.code Y.1 Y.2.1 Y.2.2.1 Y.2.2.2 :: f_tbl) := by
  intro w hw
  rcases List.mem_cons.mp hw with rfl | hw
  · exact ⟨hc, f_tbl_ok hc⟩
  · exact ⟨hw, f_tbl_ok hw⟩
/-- a method is proved from its entry -/
theorem Ok.of {d : Nat} {Y : fM} {S : fW} {vs : List Value} {h : fH} {Post : Option Value → fH → Prop} (hy : plainName Y.1.cls = true) (hn : (lg_sl vs).length ≤ Y.2.2.1) (g : G Y d S Post 0 (lv_args 0 vs) [] h) : Ok d Y S vs h Post := by
  intro l D cA σ A
  refine Met.ofW (cc := Y.2.1) (maxL := Y.2.2.1) (ret := Y.2.2.2) hy rfl ?_
  intro p e s m args below meth c s₁ B hml hv
  obtain ⟨rfl, ⟨hP, hD⟩, hK, hA, hsg⟩ := hv
  have hts := atoms_spec (ws := .code Y.1 Y.2.1 Y.2.2.1 Y.2.2.2 :: f_tbl) B.pre
  have hown : s.vm.findClass Y.1.cls = some m.cls := findClass_of_methodNamed B.named
  have hl := lv_entry (vs.map (f_v σ)) (n := Y.2.2.1) (by rw [f_sl]; exact hn)
  rw [f_args] at hl
  rw [lg_entry_eq]
  exact g p l e s m _ below meth c D cA σ A ⟨B.exec, B.bytes, hml, B.returns, hown, fun w hw => hts w (List.mem_cons_of_mem _ hw), hsg, B.notSynchronized, hK, hA⟩ s.heap [] _ hP hD va_S.rf hl
theorem f_opt (σ : Nat → Nat) (r : Option Value) (st : List Value) : (r.map (f_v σ)).toList ++ st.map (f_v σ) = (r.toList ++ st).map (f_v σ) := by cases r <;> rfl
section FCALL
variable {p : Program} {l : Launch} {e : Env} {R : Room} {s : State} {m : MethodId} {args : Array Value} {below : List Frame} {meth : Method} {c : Code} {H : Heap} {locs : List Loc} {Q : State → Prop}
theorem f_call {D : va_G} {cA : Nat → ClassId} {σ : Nat → Nat} {A : Nat → Prop} {S : fW} {Post : Option Value → fH → Prop} {pc : Nat} {ls : Array Slot} {st0 rest : List Value} {a : Array Value} (hr : va_Run p l e R s m args below meth c H locs 0 0 0 0 (F0 m pc ls st0) (rest.map (f_v σ)) (f_Q D cA σ A S Post a) A) (hS : va_S A s.heap H locs)
    (kk : ∀ (r : Option Value) (h' : fH) (H1 : Heap) (locs1 : List Loc), Post r h' → va_P D f_cl (f_w σ cA h' S) H1 → va_D A (f_w σ cA h' S) → va_S A s.heap H1 locs1 → W p l e R s m args below meth c H1 locs1 0 0 Q (F0 m (pc + 3) ls ((r.toList ++ rest).map (f_v σ)))) : W p l e R s m args below meth c H locs 0 0 Q (F0 m pc ls st0) := by
  intro T hT X
  obtain ⟨v, st₀, t, T', L, h0, X', hL, e1, e2, ⟨⟨r, h', hv, hp, hP, hD⟩, hz, hk⟩, st⟩ := hr T hT X
  cases hv
  rw [h0] at hz hk
  obtain ⟨t2, a1, b1⟩ := kk r h' T'.heap (locs ++ L) hp (by rw [e1]; exact hP) hD
    ⟨Nat.le_trans hS.1 (by rw [e1]; exact hz), fun q h1 h2 => by rw [e1, hk q (Nat.lt_of_lt_of_le h1 hS.1) h2]; exact hS.2.1 q h1 h2, fun q hq => by
      rcases List.mem_append.mp hq with h | h
      · exact hS.2.2 q h
      · exact hL q h⟩ T' rfl X'
  rw [← f_opt] at a1
  exact ⟨t2, st t2 a1, b1⟩
end FCALL
end
section
section GROWS
variable {Y : fM} {d : Nat} {S : fW} {Post : Option Value → fH → Prop} {pc : Nat} {lv lv' : List (Nat × Value)} {st : List Value} {h : fH}
theorem G_iconst {n : Int} {v : Int32} (hd : decode Y.2.1 pc = .ok (.iconst n, 1)) (hv : Int32.ofInt n = v) (k : G Y d S Post (pc + 1) lv (.int v :: st) h) : G Y d S Post pc lv (st) h := fun p l e s m args below meth c D cA σ A E H locs ls hP hD hS hl => lv_iconst E.1 E.2.1 hd hv (k p l e s m args below meth c D cA σ A E H locs ls hP hD hS hl)
theorem G_bipush {n : Int} {v : Int32} (hd : decode Y.2.1 pc = .ok (.bipush n, 2)) (hv : (Int8.ofInt n).toInt32 = v) (k : G Y d S Post (pc + 2) lv (.int v :: st) h) : G Y d S Post pc lv (st) h := fun p l e s m args below meth c D cA σ A E H locs ls hP hD hS hl => lv_bipush E.1 E.2.1 hd hv (k p l e s m args below meth c D cA σ A E H locs ls hP hD hS hl)
theorem G_sipush {n : Int} {v : Int32} (hd : decode Y.2.1 pc = .ok (.sipush n, 3)) (hv : (Int16.ofInt n).toInt32 = v) (k : G Y d S Post (pc + 3) lv (.int v :: st) h) : G Y d S Post pc lv (st) h := fun p l e s m args below meth c D cA σ A E H locs ls hP hD hS hl => lv_sipush E.1 E.2.1 hd hv (k p l e s m args below meth c D cA σ A E H locs ls hP hD hS hl)
theorem G_lconst {n : Fin 2} {v : Int64} (hd : decode Y.2.1 pc = .ok (.lconst n, 1)) (hv : Int64.ofNat (n : Nat) = v) (k : G Y d S Post (pc + 1) lv (.long v :: st) h) : G Y d S Post pc lv (st) h := fun p l e s m args below meth c D cA σ A E H locs ls hP hD hS hl => lv_lconst E.1 E.2.1 hd hv (k p l e s m args below meth c D cA σ A E H locs ls hP hD hS hl)
theorem G_iadd {x y : Int32} (hd : decode Y.2.1 pc = .ok (.iadd, 1))  (k : G Y d S Post (pc + 1) lv (.int (x + y) :: st) h) : G Y d S Post pc lv (.int y :: .int x :: st) h := fun p l e s m args below meth c D cA σ A E H locs ls hP hD hS hl => lv_iadd E.1 E.2.1 hd  (k p l e s m args below meth c D cA σ A E H locs ls hP hD hS hl)
theorem G_isub {x y : Int32} (hd : decode Y.2.1 pc = .ok (.isub, 1))  (k : G Y d S Post (pc + 1) lv (.int (x - y) :: st) h) : G Y d S Post pc lv (.int y :: .int x :: st) h := fun p l e s m args below meth c D cA σ A E H locs ls hP hD hS hl => lv_isub E.1 E.2.1 hd  (k p l e s m args below meth c D cA σ A E H locs ls hP hD hS hl)
theorem G_imul {x y : Int32} (hd : decode Y.2.1 pc = .ok (.imul, 1))  (k : G Y d S Post (pc + 1) lv (.int (x * y) :: st) h) : G Y d S Post pc lv (.int y :: .int x :: st) h := fun p l e s m args below meth c D cA σ A E H locs ls hP hD hS hl => lv_imul E.1 E.2.1 hd  (k p l e s m args below meth c D cA σ A E H locs ls hP hD hS hl)
theorem G_iand {x y : Int32} (hd : decode Y.2.1 pc = .ok (.iand, 1))  (k : G Y d S Post (pc + 1) lv (.int (x &&& y) :: st) h) : G Y d S Post pc lv (.int y :: .int x :: st) h := fun p l e s m args below meth c D cA σ A E H locs ls hP hD hS hl => lv_iand E.1 E.2.1 hd  (k p l e s m args below meth c D cA σ A E H locs ls hP hD hS hl)
theorem G_ior {x y : Int32} (hd : decode Y.2.1 pc = .ok (.ior, 1))  (k : G Y d S Post (pc + 1) lv (.int (x ||| y) :: st) h) : G Y d S Post pc lv (.int y :: .int x :: st) h := fun p l e s m args below meth c D cA σ A E H locs ls hP hD hS hl => lv_ior E.1 E.2.1 hd  (k p l e s m args below meth c D cA σ A E H locs ls hP hD hS hl)
theorem G_ishl {x y : Int32} (hd : decode Y.2.1 pc = .ok (.ishl, 1))  (k : G Y d S Post (pc + 1) lv (.int (x <<< (y &&& 31)) :: st) h) : G Y d S Post pc lv (.int y :: .int x :: st) h := fun p l e s m args below meth c D cA σ A E H locs ls hP hD hS hl => lv_ishl E.1 E.2.1 hd  (k p l e s m args below meth c D cA σ A E H locs ls hP hD hS hl)
theorem G_ishr {x y : Int32} (hd : decode Y.2.1 pc = .ok (.ishr, 1))  (k : G Y d S Post (pc + 1) lv (.int (x >>> (y &&& 31)) :: st) h) : G Y d S Post pc lv (.int y :: .int x :: st) h := fun p l e s m args below meth c D cA σ A E H locs ls hP hD hS hl => lv_ishr E.1 E.2.1 hd  (k p l e s m args below meth c D cA σ A E H locs ls hP hD hS hl)
theorem G_idiv {x y : Int32} (hd : decode Y.2.1 pc = .ok (.idiv, 1)) (hne : ¬ y = 0) (k : G Y d S Post (pc + 1) lv (.int (x / y) :: st) h) : G Y d S Post pc lv (.int y :: .int x :: st) h := fun p l e s m args below meth c D cA σ A E H locs ls hP hD hS hl => lv_idiv E.1 E.2.1 hd hne (k p l e s m args below meth c D cA σ A E H locs ls hP hD hS hl)
theorem G_irem {x y : Int32} (hd : decode Y.2.1 pc = .ok (.irem, 1)) (hne : ¬ y = 0) (k : G Y d S Post (pc + 1) lv (.int (x - x / y * y) :: st) h) : G Y d S Post pc lv (.int y :: .int x :: st) h := fun p l e s m args below meth c D cA σ A E H locs ls hP hD hS hl => lv_irem E.1 E.2.1 hd hne (k p l e s m args below meth c D cA σ A E H locs ls hP hD hS hl)
theorem G_ladd {x y : Int64} (hd : decode Y.2.1 pc = .ok (.ladd, 1))  (k : G Y d S Post (pc + 1) lv (.long (x + y) :: st) h) : G Y d S Post pc lv (.long y :: .long x :: st) h := fun p l e s m args below meth c D cA σ A E H locs ls hP hD hS hl => lv_ladd E.1 E.2.1 hd  (k p l e s m args below meth c D cA σ A E H locs ls hP hD hS hl)
theorem G_lsub {x y : Int64} (hd : decode Y.2.1 pc = .ok (.lsub, 1))  (k : G Y d S Post (pc + 1) lv (.long (x - y) :: st) h) : G Y d S Post pc lv (.long y :: .long x :: st) h := fun p l e s m args below meth c D cA σ A E H locs ls hP hD hS hl => lv_lsub E.1 E.2.1 hd  (k p l e s m args below meth c D cA σ A E H locs ls hP hD hS hl)
theorem G_lmul {x y : Int64} (hd : decode Y.2.1 pc = .ok (.lmul, 1))  (k : G Y d S Post (pc + 1) lv (.long (x * y) :: st) h) : G Y d S Post pc lv (.long y :: .long x :: st) h := fun p l e s m args below meth c D cA σ A E H locs ls hP hD hS hl => lv_lmul E.1 E.2.1 hd  (k p l e s m args below meth c D cA σ A E H locs ls hP hD hS hl)
theorem G_land {x y : Int64} (hd : decode Y.2.1 pc = .ok (.land, 1))  (k : G Y d S Post (pc + 1) lv (.long (x &&& y) :: st) h) : G Y d S Post pc lv (.long y :: .long x :: st) h := fun p l e s m args below meth c D cA σ A E H locs ls hP hD hS hl => lv_land E.1 E.2.1 hd  (k p l e s m args below meth c D cA σ A E H locs ls hP hD hS hl)
theorem G_lor {x y : Int64} (hd : decode Y.2.1 pc = .ok (.lor, 1))  (k : G Y d S Post (pc + 1) lv (.long (x ||| y) :: st) h) : G Y d S Post pc lv (.long y :: .long x :: st) h := fun p l e s m args below meth c D cA σ A E H locs ls hP hD hS hl => lv_lor E.1 E.2.1 hd  (k p l e s m args below meth c D cA σ A E H locs ls hP hD hS hl)
theorem G_ldiv {x y : Int64} (hd : decode Y.2.1 pc = .ok (.ldiv, 1)) (hne : ¬ y = 0) (k : G Y d S Post (pc + 1) lv (.long (x / y) :: st) h) : G Y d S Post pc lv (.long y :: .long x :: st) h := fun p l e s m args below meth c D cA σ A E H locs ls hP hD hS hl => lv_ldiv E.1 E.2.1 hd hne (k p l e s m args below meth c D cA σ A E H locs ls hP hD hS hl)
theorem G_lrem {x y : Int64} (hd : decode Y.2.1 pc = .ok (.lrem, 1)) (hne : ¬ y = 0) (k : G Y d S Post (pc + 1) lv (.long (x - x / y * y) :: st) h) : G Y d S Post pc lv (.long y :: .long x :: st) h := fun p l e s m args below meth c D cA σ A E H locs ls hP hD hS hl => lv_lrem E.1 E.2.1 hd hne (k p l e s m args below meth c D cA σ A E H locs ls hP hD hS hl)
theorem G_lneg {x : Int64} (hd : decode Y.2.1 pc = .ok (.lneg, 1))  (k : G Y d S Post (pc + 1) lv (.long (-x) :: st) h) : G Y d S Post pc lv (.long x :: st) h := fun p l e s m args below meth c D cA σ A E H locs ls hP hD hS hl => lv_lneg E.1 E.2.1 hd  (k p l e s m args below meth c D cA σ A E H locs ls hP hD hS hl)
theorem G_i2l {x : Int32} (hd : decode Y.2.1 pc = .ok (.i2l, 1))  (k : G Y d S Post (pc + 1) lv (.long x.toInt64 :: st) h) : G Y d S Post pc lv (.int x :: st) h := fun p l e s m args below meth c D cA σ A E H locs ls hP hD hS hl => lv_i2l E.1 E.2.1 hd rfl (k p l e s m args below meth c D cA σ A E H locs ls hP hD hS hl)
theorem G_l2i {x : Int64} (hd : decode Y.2.1 pc = .ok (.l2i, 1))  (k : G Y d S Post (pc + 1) lv (.int x.toInt32 :: st) h) : G Y d S Post pc lv (.long x :: st) h := fun p l e s m args below meth c D cA σ A E H locs ls hP hD hS hl => lv_l2i E.1 E.2.1 hd rfl (k p l e s m args below meth c D cA σ A E H locs ls hP hD hS hl)
theorem G_lshl {x : Int64} {y : Int32} (hd : decode Y.2.1 pc = .ok (.lshl, 1))  (k : G Y d S Post (pc + 1) lv (.long (x <<< (y.toInt64 &&& 63)) :: st) h) : G Y d S Post pc lv (.int y :: .long x :: st) h := fun p l e s m args below meth c D cA σ A E H locs ls hP hD hS hl => lv_lshl E.1 E.2.1 hd rfl (k p l e s m args below meth c D cA σ A E H locs ls hP hD hS hl)
theorem G_lcmp {x y : Int64} (hd : decode Y.2.1 pc = .ok (.lcmp, 1))  (k : G Y d S Post (pc + 1) lv (.int (lg_cmp x y) :: st) h) : G Y d S Post pc lv (.long y :: .long x :: st) h := fun p l e s m args below meth c D cA σ A E H locs ls hP hD hS hl => W.lcmp E.1 E.2.1 hd  (k p l e s m args below meth c D cA σ A E H locs ls hP hD hS hl)
theorem G_dup {va : Value} (hd : decode Y.2.1 pc = .ok (.dup, 1)) (hc : va.category = 1) (k : G Y d S Post (pc + 1) lv (va :: va :: st) h) : G Y d S Post pc lv (va :: st) h := fun p l e s m args below meth c D cA σ A E H locs ls hP hD hS hl => lv_dup E.1 E.2.1 hd ((f_v_cat σ va).trans hc) (k p l e s m args below meth c D cA σ A E H locs ls hP hD hS hl)
theorem G_dup2 {va vb : Value} (hd : decode Y.2.1 pc = .ok (.dup2, 1)) (hc : va.category = 1) (hc2 : vb.category = 1) (k : G Y d S Post (pc + 1) lv (va :: vb :: va :: vb :: st) h) : G Y d S Post pc lv (va :: vb :: st) h := fun p l e s m args below meth c D cA σ A E H locs ls hP hD hS hl => lv_dup2_11 E.1 E.2.1 hd ((f_v_cat σ va).trans hc) ((f_v_cat σ vb).trans hc2) (k p l e s m args below meth c D cA σ A E H locs ls hP hD hS hl)
theorem G_iload_n {k4 : Fin 4} {i : Nat} {x : Int32} (j : Nat) (hj : lv[j]? = some (i, .int x)) (hd : decode Y.2.1 pc = .ok (.iload_n k4, 1)) (hi : (k4 : Nat) = i) (k : G Y d S Post (pc + 1) lv (.int x :: st) h) : G Y d S Post pc lv st h := fun p l e s m args below meth c D cA σ A E H locs ls hP hD hS hl => lv_iload_n E.1 E.2.1 hd hi (f_at hl j hj) (k p l e s m args below meth c D cA σ A E H locs ls hP hD hS hl)
theorem G_iload {i : Nat} {x : Int32} (j : Nat) (hj : lv[j]? = some (i, .int x)) (hd : decode Y.2.1 pc = .ok (.iload i, 2)) (k : G Y d S Post (pc + 2) lv (.int x :: st) h) : G Y d S Post pc lv st h := fun p l e s m args below meth c D cA σ A E H locs ls hP hD hS hl => lv_iload E.1 E.2.1 hd (f_at hl j hj) (k p l e s m args below meth c D cA σ A E H locs ls hP hD hS hl)
theorem G_istore_n {k4 : Fin 4} {i : Nat} {x : Int32} (hd : decode Y.2.1 pc = .ok (.istore_n k4, 1)) (hi : (k4 : Nat) = i) (hn : i < Y.2.2.1) (hs : f_s1 i (.int x) lv = lv') (k : G Y d S Post (pc + 1) lv' st h) : G Y d S Post pc lv (.int x :: st) h := fun p l e s m args below meth c D cA σ A E H locs ls hP hD hS hl => lv_istore_n (lv' := f_lv σ lv') E.1 E.2.1 hd hi hl hn (by rw [← hs]; exact f_s1_map σ i (.int x) lv) (fun ls hl => k p l e s m args below meth c D cA σ A E H locs ls hP hD hS hl)
theorem G_istore {i : Nat} {x : Int32} (hd : decode Y.2.1 pc = .ok (.istore i, 2)) (hn : i < Y.2.2.1) (hs : f_s1 i (.int x) lv = lv') (k : G Y d S Post (pc + 2) lv' st h) : G Y d S Post pc lv (.int x :: st) h := fun p l e s m args below meth c D cA σ A E H locs ls hP hD hS hl => lv_istore (lv' := f_lv σ lv') E.1 E.2.1 hd hl hn (by rw [← hs]; exact f_s1_map σ i (.int x) lv) (fun ls hl => k p l e s m args below meth c D cA σ A E H locs ls hP hD hS hl)
theorem G_lload_n {k4 : Fin 4} {i : Nat} {x : Int64} (j : Nat) (hj : lv[j]? = some (i, .long x)) (hd : decode Y.2.1 pc = .ok (.lload_n k4, 1)) (hi : (k4 : Nat) = i) (k : G Y d S Post (pc + 1) lv (.long x :: st) h) : G Y d S Post pc lv st h := fun p l e s m args below meth c D cA σ A E H locs ls hP hD hS hl => lv_lload_n E.1 E.2.1 hd hi (f_at hl j hj) (k p l e s m args below meth c D cA σ A E H locs ls hP hD hS hl)
theorem G_lload {i : Nat} {x : Int64} (j : Nat) (hj : lv[j]? = some (i, .long x)) (hd : decode Y.2.1 pc = .ok (.lload i, 2)) (k : G Y d S Post (pc + 2) lv (.long x :: st) h) : G Y d S Post pc lv st h := fun p l e s m args below meth c D cA σ A E H locs ls hP hD hS hl => lv_lload E.1 E.2.1 hd (f_at hl j hj) (k p l e s m args below meth c D cA σ A E H locs ls hP hD hS hl)
theorem G_lstore_n {k4 : Fin 4} {i : Nat} {x : Int64} (hd : decode Y.2.1 pc = .ok (.lstore_n k4, 1)) (hi : (k4 : Nat) = i) (hn : i + 1 < Y.2.2.1) (hs : f_s2 i (.long x) lv = lv') (k : G Y d S Post (pc + 1) lv' st h) : G Y d S Post pc lv (.long x :: st) h := fun p l e s m args below meth c D cA σ A E H locs ls hP hD hS hl => lv_lstore_n (lv' := f_lv σ lv') E.1 E.2.1 hd hi hl hn (by rw [← hs]; exact f_s2_map σ i (.long x) lv) (fun ls hl => k p l e s m args below meth c D cA σ A E H locs ls hP hD hS hl)
theorem G_lstore {i : Nat} {x : Int64} (hd : decode Y.2.1 pc = .ok (.lstore i, 2)) (hn : i + 1 < Y.2.2.1) (hs : f_s2 i (.long x) lv = lv') (k : G Y d S Post (pc + 2) lv' st h) : G Y d S Post pc lv (.long x :: st) h := fun p l e s m args below meth c D cA σ A E H locs ls hP hD hS hl => lv_lstore (lv' := f_lv σ lv') E.1 E.2.1 hd hl hn (by rw [← hs]; exact f_s2_map σ i (.long x) lv) (fun ls hl => k p l e s m args below meth c D cA σ A E H locs ls hP hD hS hl)
theorem G_aload_n {k4 : Fin 4} {i : Nat} {x : Nat} (j : Nat) (hj : lv[j]? = some (i, .ref x)) (hd : decode Y.2.1 pc = .ok (.aload_n k4, 1)) (hi : (k4 : Nat) = i) (k : G Y d S Post (pc + 1) lv (.ref x :: st) h) : G Y d S Post pc lv st h := fun p l e s m args below meth c D cA σ A E H locs ls hP hD hS hl => lv_aload_n E.1 E.2.1 hd hi (f_at hl j hj) (k p l e s m args below meth c D cA σ A E H locs ls hP hD hS hl)
theorem G_aload {i : Nat} {x : Nat} (j : Nat) (hj : lv[j]? = some (i, .ref x)) (hd : decode Y.2.1 pc = .ok (.aload i, 2)) (k : G Y d S Post (pc + 2) lv (.ref x :: st) h) : G Y d S Post pc lv st h := fun p l e s m args below meth c D cA σ A E H locs ls hP hD hS hl => lv_aload E.1 E.2.1 hd (f_at hl j hj) (k p l e s m args below meth c D cA σ A E H locs ls hP hD hS hl)
theorem G_astore_n {k4 : Fin 4} {i : Nat} {x : Nat} (hd : decode Y.2.1 pc = .ok (.astore_n k4, 1)) (hi : (k4 : Nat) = i) (hn : i < Y.2.2.1) (hs : f_s1 i (.ref x) lv = lv') (k : G Y d S Post (pc + 1) lv' st h) : G Y d S Post pc lv (.ref x :: st) h := fun p l e s m args below meth c D cA σ A E H locs ls hP hD hS hl => lv_astore_n (lv' := f_lv σ lv') E.1 E.2.1 hd hi hl hn (by rw [← hs]; exact f_s1_map σ i (.ref x) lv) (fun ls hl => k p l e s m args below meth c D cA σ A E H locs ls hP hD hS hl)
theorem G_astore {i : Nat} {x : Nat} (hd : decode Y.2.1 pc = .ok (.astore i, 2)) (hn : i < Y.2.2.1) (hs : f_s1 i (.ref x) lv = lv') (k : G Y d S Post (pc + 2) lv' st h) : G Y d S Post pc lv (.ref x :: st) h := fun p l e s m args below meth c D cA σ A E H locs ls hP hD hS hl => lv_astore (lv' := f_lv σ lv') E.1 E.2.1 hd hl hn (by rw [← hs]; exact f_s1_map σ i (.ref x) lv) (fun ls hl => k p l e s m args below meth c D cA σ A E H locs ls hP hD hS hl)
theorem G_iinc {i : Nat} {n : Int} {x v : Int32} (j : Nat) (hj : lv[j]? = some (i, .int x)) (hd : decode Y.2.1 pc = .ok (.iinc i n, 3)) (hv : Int32.ofInt n = v) (hn : i < Y.2.2.1) (hs : f_s1 i (.int (x + v)) lv = lv') (k : G Y d S Post (pc + 3) lv' st h) : G Y d S Post pc lv st h := fun p l e s m args below meth c D cA σ A E H locs ls hP hD hS hl => lv_iinc (v := x + v) (lv' := f_lv σ lv') E.1 E.2.1 hd hl (f_lv_get hj) (by rw [hv]) hn (by rw [← hs]; exact f_s1_map σ i (.int (x + v)) lv) (fun ls hl => k p l e s m args below meth c D cA σ A E H locs ls hP hD hS hl)
theorem G_ldc {index : Nat} {v : Int32} (hc : Cond.constant Y.1.cls index v ∈ f_tbl) (hd : decode Y.2.1 pc = .ok (.ldc index, 2)) (k : G Y d S Post (pc + 2) lv (.int v :: st) h) : G Y d S Post pc lv st h := fun p l e s m args below meth c D cA σ A E H locs ls hP hD hS hl => lv_ldc E.1 E.2.1 E.2.2.2.2.1 (E.2.2.2.2.2.1 _ hc) hd (k p l e s m args below meth c D cA σ A E H locs ls hP hD hS hl)
theorem G_ldc2 {index : Nat} {v : Int64} (hc : Cond.constantLong Y.1.cls index v ∈ f_tbl) (hd : decode Y.2.1 pc = .ok (.ldc2_w index, 3)) (k : G Y d S Post (pc + 3) lv (.long v :: st) h) : G Y d S Post pc lv st h := fun p l e s m args below meth c D cA σ A E H locs ls hP hD hS hl => lv_ldc2 E.1 E.2.1 E.2.2.2.2.1 (E.2.2.2.2.2.1 _ hc) hd (k p l e s m args below meth c D cA σ A E H locs ls hP hD hS hl)
theorem G_if_eq {x : Int32} {off : Int} {tgt : Nat} (hd : decode Y.2.1 pc = .ok (.ifCond .eq off, 3)) (ht : (pc : Int) + off = (tgt : Int)) (kt : x = 0 → G Y d S Post tgt lv st h) (kf : ¬ x = 0 → G Y d S Post (pc + 3) lv st h) : G Y d S Post pc lv (.int x :: st) h := fun p l e s m args below meth c D cA σ A E H locs ls hP hD hS hl => lv_if_eq E.1 E.2.1 hd ht (fun q => kt q p l e s m args below meth c D cA σ A E H locs ls hP hD hS hl) (fun q => kf q p l e s m args below meth c D cA σ A E H locs ls hP hD hS hl)
theorem G_icmp_eq {x y : Int32} {off : Int} {tgt : Nat} (hd : decode Y.2.1 pc = .ok (.if_icmp .eq off, 3)) (ht : (pc : Int) + off = (tgt : Int)) (kt : x = y → G Y d S Post tgt lv st h) (kf : ¬ x = y → G Y d S Post (pc + 3) lv st h) : G Y d S Post pc lv (.int y :: .int x :: st) h := fun p l e s m args below meth c D cA σ A E H locs ls hP hD hS hl => lv_icmp_eq E.1 E.2.1 hd ht (fun q => kt q p l e s m args below meth c D cA σ A E H locs ls hP hD hS hl) (fun q => kf q p l e s m args below meth c D cA σ A E H locs ls hP hD hS hl)
theorem G_if_ne {x : Int32} {off : Int} {tgt : Nat} (hd : decode Y.2.1 pc = .ok (.ifCond .ne off, 3)) (ht : (pc : Int) + off = (tgt : Int)) (kt : ¬ x = 0 → G Y d S Post tgt lv st h) (kf : x = 0 → G Y d S Post (pc + 3) lv st h) : G Y d S Post pc lv (.int x :: st) h := fun p l e s m args below meth c D cA σ A E H locs ls hP hD hS hl => lv_if_ne E.1 E.2.1 hd ht (fun q => kt q p l e s m args below meth c D cA σ A E H locs ls hP hD hS hl) (fun q => kf q p l e s m args below meth c D cA σ A E H locs ls hP hD hS hl)
theorem G_icmp_ne {x y : Int32} {off : Int} {tgt : Nat} (hd : decode Y.2.1 pc = .ok (.if_icmp .ne off, 3)) (ht : (pc : Int) + off = (tgt : Int)) (kt : ¬ x = y → G Y d S Post tgt lv st h) (kf : x = y → G Y d S Post (pc + 3) lv st h) : G Y d S Post pc lv (.int y :: .int x :: st) h := fun p l e s m args below meth c D cA σ A E H locs ls hP hD hS hl => lv_icmp_ne E.1 E.2.1 hd ht (fun q => kt q p l e s m args below meth c D cA σ A E H locs ls hP hD hS hl) (fun q => kf q p l e s m args below meth c D cA σ A E H locs ls hP hD hS hl)
theorem G_if_lt {x : Int32} {off : Int} {tgt : Nat} (hd : decode Y.2.1 pc = .ok (.ifCond .lt off, 3)) (ht : (pc : Int) + off = (tgt : Int)) (kt : x < 0 → G Y d S Post tgt lv st h) (kf : ¬ x < 0 → G Y d S Post (pc + 3) lv st h) : G Y d S Post pc lv (.int x :: st) h := fun p l e s m args below meth c D cA σ A E H locs ls hP hD hS hl => lv_if_lt E.1 E.2.1 hd ht (fun q => kt q p l e s m args below meth c D cA σ A E H locs ls hP hD hS hl) (fun q => kf q p l e s m args below meth c D cA σ A E H locs ls hP hD hS hl)
theorem G_icmp_lt {x y : Int32} {off : Int} {tgt : Nat} (hd : decode Y.2.1 pc = .ok (.if_icmp .lt off, 3)) (ht : (pc : Int) + off = (tgt : Int)) (kt : x < y → G Y d S Post tgt lv st h) (kf : ¬ x < y → G Y d S Post (pc + 3) lv st h) : G Y d S Post pc lv (.int y :: .int x :: st) h := fun p l e s m args below meth c D cA σ A E H locs ls hP hD hS hl => lv_icmp_lt E.1 E.2.1 hd ht (fun q => kt q p l e s m args below meth c D cA σ A E H locs ls hP hD hS hl) (fun q => kf q p l e s m args below meth c D cA σ A E H locs ls hP hD hS hl)
theorem G_if_ge {x : Int32} {off : Int} {tgt : Nat} (hd : decode Y.2.1 pc = .ok (.ifCond .ge off, 3)) (ht : (pc : Int) + off = (tgt : Int)) (kt : 0 ≤ x → G Y d S Post tgt lv st h) (kf : ¬ 0 ≤ x → G Y d S Post (pc + 3) lv st h) : G Y d S Post pc lv (.int x :: st) h := fun p l e s m args below meth c D cA σ A E H locs ls hP hD hS hl => lv_if_ge E.1 E.2.1 hd ht (fun q => kt q p l e s m args below meth c D cA σ A E H locs ls hP hD hS hl) (fun q => kf q p l e s m args below meth c D cA σ A E H locs ls hP hD hS hl)
theorem G_icmp_ge {x y : Int32} {off : Int} {tgt : Nat} (hd : decode Y.2.1 pc = .ok (.if_icmp .ge off, 3)) (ht : (pc : Int) + off = (tgt : Int)) (kt : y ≤ x → G Y d S Post tgt lv st h) (kf : ¬ y ≤ x → G Y d S Post (pc + 3) lv st h) : G Y d S Post pc lv (.int y :: .int x :: st) h := fun p l e s m args below meth c D cA σ A E H locs ls hP hD hS hl => lv_icmp_ge E.1 E.2.1 hd ht (fun q => kt q p l e s m args below meth c D cA σ A E H locs ls hP hD hS hl) (fun q => kf q p l e s m args below meth c D cA σ A E H locs ls hP hD hS hl)
theorem G_if_gt {x : Int32} {off : Int} {tgt : Nat} (hd : decode Y.2.1 pc = .ok (.ifCond .gt off, 3)) (ht : (pc : Int) + off = (tgt : Int)) (kt : 0 < x → G Y d S Post tgt lv st h) (kf : ¬ 0 < x → G Y d S Post (pc + 3) lv st h) : G Y d S Post pc lv (.int x :: st) h := fun p l e s m args below meth c D cA σ A E H locs ls hP hD hS hl => lv_if_gt E.1 E.2.1 hd ht (fun q => kt q p l e s m args below meth c D cA σ A E H locs ls hP hD hS hl) (fun q => kf q p l e s m args below meth c D cA σ A E H locs ls hP hD hS hl)
theorem G_icmp_gt {x y : Int32} {off : Int} {tgt : Nat} (hd : decode Y.2.1 pc = .ok (.if_icmp .gt off, 3)) (ht : (pc : Int) + off = (tgt : Int)) (kt : y < x → G Y d S Post tgt lv st h) (kf : ¬ y < x → G Y d S Post (pc + 3) lv st h) : G Y d S Post pc lv (.int y :: .int x :: st) h := fun p l e s m args below meth c D cA σ A E H locs ls hP hD hS hl => lv_icmp_gt E.1 E.2.1 hd ht (fun q => kt q p l e s m args below meth c D cA σ A E H locs ls hP hD hS hl) (fun q => kf q p l e s m args below meth c D cA σ A E H locs ls hP hD hS hl)
theorem G_if_le {x : Int32} {off : Int} {tgt : Nat} (hd : decode Y.2.1 pc = .ok (.ifCond .le off, 3)) (ht : (pc : Int) + off = (tgt : Int)) (kt : x ≤ 0 → G Y d S Post tgt lv st h) (kf : ¬ x ≤ 0 → G Y d S Post (pc + 3) lv st h) : G Y d S Post pc lv (.int x :: st) h := fun p l e s m args below meth c D cA σ A E H locs ls hP hD hS hl => lv_if_le E.1 E.2.1 hd ht (fun q => kt q p l e s m args below meth c D cA σ A E H locs ls hP hD hS hl) (fun q => kf q p l e s m args below meth c D cA σ A E H locs ls hP hD hS hl)
theorem G_icmp_le {x y : Int32} {off : Int} {tgt : Nat} (hd : decode Y.2.1 pc = .ok (.if_icmp .le off, 3)) (ht : (pc : Int) + off = (tgt : Int)) (kt : x ≤ y → G Y d S Post tgt lv st h) (kf : ¬ x ≤ y → G Y d S Post (pc + 3) lv st h) : G Y d S Post pc lv (.int y :: .int x :: st) h := fun p l e s m args below meth c D cA σ A E H locs ls hP hD hS hl => lv_icmp_le E.1 E.2.1 hd ht (fun q => kt q p l e s m args below meth c D cA σ A E H locs ls hP hD hS hl) (fun q => kf q p l e s m args below meth c D cA σ A E H locs ls hP hD hS hl)
theorem lc_eq (x y : Int64) : lg_cmp x y = 0 ↔ x = y := by
  unfold lg_cmp
  by_cases h1 : y < x
  · rw [if_pos h1]
    constructor
    · intro h; exact absurd h (by decide)
    · intro h; subst h; exact absurd h1 Int64.lt_irrefl
  · rw [if_neg h1]
    by_cases h2 : x = y
    · rw [if_pos h2]; exact ⟨fun _ => h2, fun _ => rfl⟩
    · rw [if_neg h2]
      constructor
      · intro h; exact absurd h (by decide)
      · intro h; exact absurd h h2
theorem lc_lt (x y : Int64) : lg_cmp x y < 0 ↔ x < y := by
  unfold lg_cmp
  by_cases h1 : y < x
  · rw [if_pos h1]
    constructor
    · intro h; exact absurd h (by decide)
    · intro h; exact absurd h (Int64.not_lt.mpr (Int64.le_of_lt h1))
  · rw [if_neg h1]
    by_cases h2 : x = y
    · rw [if_pos h2]
      constructor
      · intro h; exact absurd h (by decide)
      · intro h; subst h2; exact absurd h Int64.lt_irrefl
    · rw [if_neg h2]
      constructor
      · intro _; exact Int64.lt_of_le_of_ne (Int64.not_lt.mp h1) h2
      · intro _; decide
theorem lc_gt (x y : Int64) : 0 < lg_cmp x y ↔ y < x := by
  unfold lg_cmp
  by_cases h1 : y < x
  · rw [if_pos h1]; exact ⟨fun _ => h1, fun _ => by decide⟩
  · rw [if_neg h1]
    by_cases h2 : x = y
    · rw [if_pos h2]
      constructor
      · intro h; exact absurd h (by decide)
      · intro h; exact absurd h h1
    · rw [if_neg h2]
      constructor
      · intro h; exact absurd h (by decide)
      · intro h; exact absurd h h1
theorem lc_ge (x y : Int64) : 0 ≤ lg_cmp x y ↔ y ≤ x := by
  rw [← Int32.not_lt, lc_lt, Int64.not_lt]
theorem lc_le (x y : Int64) : lg_cmp x y ≤ 0 ↔ x ≤ y := by
  rw [← Int32.not_lt, lc_gt, Int64.not_lt]
theorem lc_ne (x y : Int64) : ¬ lg_cmp x y = 0 ↔ ¬ x = y := not_congr (lc_eq x y)
theorem G_lif_eq {x y : Int64} {off : Int} {tgt : Nat} (hd : decode Y.2.1 pc = .ok (.lcmp, 1)) (hd2 : decode Y.2.1 (pc + 1) = .ok (.ifCond .eq off, 3)) (ht : ((pc + 1 : Nat) : Int) + off = (tgt : Int)) (kt : x = y → G Y d S Post tgt lv st h) (kf : ¬ x = y → G Y d S Post (pc + 4) lv st h) : G Y d S Post pc lv (.long y :: .long x :: st) h := G_lcmp hd (G_if_eq hd2 ht (fun q => kt ((lc_eq x y).mp q)) (fun q => kf ((fun q z => q ((lc_eq x y).mpr z)) q)))
theorem G_lif_ne {x y : Int64} {off : Int} {tgt : Nat} (hd : decode Y.2.1 pc = .ok (.lcmp, 1)) (hd2 : decode Y.2.1 (pc + 1) = .ok (.ifCond .ne off, 3)) (ht : ((pc + 1 : Nat) : Int) + off = (tgt : Int)) (kt : ¬ x = y → G Y d S Post tgt lv st h) (kf : x = y → G Y d S Post (pc + 4) lv st h) : G Y d S Post pc lv (.long y :: .long x :: st) h := G_lcmp hd (G_if_ne hd2 ht (fun q => kt ((lc_ne x y).mp q)) (fun q => kf ((fun q => (lc_eq x y).mp q) q)))
theorem G_lif_lt {x y : Int64} {off : Int} {tgt : Nat} (hd : decode Y.2.1 pc = .ok (.lcmp, 1)) (hd2 : decode Y.2.1 (pc + 1) = .ok (.ifCond .lt off, 3)) (ht : ((pc + 1 : Nat) : Int) + off = (tgt : Int)) (kt : x < y → G Y d S Post tgt lv st h) (kf : ¬ x < y → G Y d S Post (pc + 4) lv st h) : G Y d S Post pc lv (.long y :: .long x :: st) h := G_lcmp hd (G_if_lt hd2 ht (fun q => kt ((lc_lt x y).mp q)) (fun q => kf ((fun q z => q ((lc_lt x y).mpr z)) q)))
theorem G_lif_ge {x y : Int64} {off : Int} {tgt : Nat} (hd : decode Y.2.1 pc = .ok (.lcmp, 1)) (hd2 : decode Y.2.1 (pc + 1) = .ok (.ifCond .ge off, 3)) (ht : ((pc + 1 : Nat) : Int) + off = (tgt : Int)) (kt : y ≤ x → G Y d S Post tgt lv st h) (kf : ¬ y ≤ x → G Y d S Post (pc + 4) lv st h) : G Y d S Post pc lv (.long y :: .long x :: st) h := G_lcmp hd (G_if_ge hd2 ht (fun q => kt ((lc_ge x y).mp q)) (fun q => kf ((fun q z => q ((lc_ge x y).mpr z)) q)))
theorem G_lif_gt {x y : Int64} {off : Int} {tgt : Nat} (hd : decode Y.2.1 pc = .ok (.lcmp, 1)) (hd2 : decode Y.2.1 (pc + 1) = .ok (.ifCond .gt off, 3)) (ht : ((pc + 1 : Nat) : Int) + off = (tgt : Int)) (kt : y < x → G Y d S Post tgt lv st h) (kf : ¬ y < x → G Y d S Post (pc + 4) lv st h) : G Y d S Post pc lv (.long y :: .long x :: st) h := G_lcmp hd (G_if_gt hd2 ht (fun q => kt ((lc_gt x y).mp q)) (fun q => kf ((fun q z => q ((lc_gt x y).mpr z)) q)))
theorem G_lif_le {x y : Int64} {off : Int} {tgt : Nat} (hd : decode Y.2.1 pc = .ok (.lcmp, 1)) (hd2 : decode Y.2.1 (pc + 1) = .ok (.ifCond .le off, 3)) (ht : ((pc + 1 : Nat) : Int) + off = (tgt : Int)) (kt : x ≤ y → G Y d S Post tgt lv st h) (kf : ¬ x ≤ y → G Y d S Post (pc + 4) lv st h) : G Y d S Post pc lv (.long y :: .long x :: st) h := G_lcmp hd (G_if_le hd2 ht (fun q => kt ((lc_le x y).mp q)) (fun q => kf ((fun q z => q ((lc_le x y).mpr z)) q)))
theorem G_goto {off : Int} {tgt : Nat} (hd : decode Y.2.1 pc = .ok (.goto off, 3)) (ht : (pc : Int) + off = (tgt : Int)) (k : G Y d S Post tgt lv st h) : G Y d S Post pc lv st h := fun p l e s m args below meth c D cA σ A E H locs ls hP hD hS hl => lv_goto E.1 E.2.1 hd ht (k p l e s m args below meth c D cA σ A E H locs ls hP hD hS hl)
theorem G_tabOut {dflt lo hi : Int} {offs : Array Int} {len tgt : Nat} {x : Int32} (hd : decode Y.2.1 pc = .ok (.tableswitch dflt lo hi offs, len)) (hx : x.toInt < lo ∨ hi < x.toInt) (ht : (pc : Int) + dflt = (tgt : Int)) (k : G Y d S Post tgt lv st h) : G Y d S Post pc lv (.int x :: st) h := fun p l e s m args below meth c D cA σ A E H locs ls hP hD hS hl => lv_tableOut E.1 E.2.1 hd hx ht (k p l e s m args below meth c D cA σ A E H locs ls hP hD hS hl)
theorem G_tabIn {dflt lo hi off : Int} {offs : Array Int} {len tgt : Nat} {x : Int32} (hd : decode Y.2.1 pc = .ok (.tableswitch dflt lo hi offs, len)) (h1 : ¬ x.toInt < lo) (h2 : ¬ hi < x.toInt) (ho : offs[(x.toInt - lo).toNat]? = some off) (ht : (pc : Int) + off = (tgt : Int)) (k : G Y d S Post tgt lv st h) : G Y d S Post pc lv (.int x :: st) h := fun p l e s m args below meth c D cA σ A E H locs ls hP hD hS hl => lv_tableIn E.1 E.2.1 hd h1 h2 ho ht (k p l e s m args below meth c D cA σ A E H locs ls hP hD hS hl)
theorem G_sub (ks : List Nat) (hs : lv_pick lv ks = lv') (k : G Y d S Post pc lv' st h) : G Y d S Post pc lv st h := fun p l e s m args below meth c D cA σ A E H locs ls hP hD hS hl => k p l e s m args below meth c D cA σ A E H locs ls hP hD hS (lv_sub hl ks (by
  rw [← hs]
  simp only [lv_pick, f_lv, List.getElem?_map, List.map_filterMap]))
theorem G_post {Post' : Option Value → fH → Prop} (k : G Y d S Post pc lv st h) (hp : ∀ r h, Post r h → Post' r h) : G Y d S Post' pc lv st h := by
  intro p l e s m args below meth c D cA σ A E H locs ls hP hD hS hl T hT X
  obtain ⟨t, a1, oc, b1, b2, ⟨⟨r, h', c1, c2, c3⟩, c4⟩, b4⟩ := k p l e s m args below meth c D cA σ A E H locs ls hP hD hS hl T hT X
  exact ⟨t, a1, oc, b1, b2, ⟨⟨r, h', c1, hp r h' c2, c3⟩, c4⟩, b4⟩
theorem f_ret {D : va_G} {cA : Nat → ClassId} {σ : Nat → Nat} {A : Nat → Prop} {s : State} {args : Array Value} {H : Heap} {locs : List Loc} {r : Option Value} (hp : Post r h) (hP : va_P D f_cl (f_w σ cA h S) H) (hD : va_D A (f_w σ cA h S)) (hS : va_S A s.heap H locs) : ∀ t : State, t.heap = H → s.WarmedH t.vm → f_Q D cA σ A S Post args s (.returned (r.map (f_v σ))) t := fun t ht _ => ⟨⟨r, h, rfl, hp, by rw [ht]; exact hP, hD⟩, hS.F ht⟩
theorem G_iret {v : Int32} (hr : Y.2.2.2 = some .int) (hd : decode Y.2.1 pc = .ok (.ireturn, 1)) (hp : Post (some (.int v)) h) : G Y d S Post pc lv [.int v] h := fun p l e s m args below meth c D cA σ A E H locs ls hP hD hS hl => W.iret E.1 E.2.1 (E.2.2.2.1.trans hr) (f_ret (r := some (.int v)) hp hP hD hS) hS.2.2 hd E.2.2.2.2.2.2.2.1
theorem G_zret {v : Int32} (hr : Y.2.2.2 = some .boolean) (hv : v = 0 ∨ v = 1) (hd : decode Y.2.1 pc = .ok (.ireturn, 1)) (hp : Post (some (.int v)) h) : G Y d S Post pc lv [.int v] h := fun p l e s m args below meth c D cA σ A E H locs ls hP hD hS hl => W.zret E.1 E.2.1 (E.2.2.2.1.trans hr) (by rcases hv with rfl | rfl <;> decide) (f_ret (r := some (.int v)) hp hP hD hS) hS.2.2 hd E.2.2.2.2.2.2.2.1
theorem G_lret {v : Int64} (hr : Y.2.2.2 = some .long) (hd : decode Y.2.1 pc = .ok (.lreturn, 1)) (hp : Post (some (.long v)) h) : G Y d S Post pc lv [.long v] h := fun p l e s m args below meth c D cA σ A E H locs ls hP hD hS hl => W.lret E.1 E.2.1 (E.2.2.2.1.trans hr) (f_ret (r := some (.long v)) hp hP hD hS) hS.2.2 hd E.2.2.2.2.2.2.2.1
theorem G_vret (hr : Y.2.2.2 = none) (hd : decode Y.2.1 pc = .ok (.return_, 1)) (hp : Post none h) : G Y d S Post pc lv [] h := fun p l e s m args below meth c D cA σ A E H locs ls hP hD hS hl => W.vret E.1 E.2.1 (E.2.2.2.1.trans hr) (f_ret (r := none) hp hP hD hS) hS.2.2 hd E.2.2.2.2.2.2.2.1
end GROWS
end
section
section GCELLS
variable {Y : fM} {d : Nat} {S : fW} {Post : Option Value → fH → Prop} {pc : Nat} {lv lv' : List (Nat × Value)} {st : List Value} {h : fH}
-- fields
theorem G_geti {r ci k index : Nat} {fds : List Nat} {q : vw_C} (hm : (r, .inl (ci, fds)) ∈ S) (hc : f_cl[ci]? = some q) (hin : ∀ w ∈ u_ws q.1 q.2.1 q.2.2, w ∈ f_tbl) (hk : k < q.2.2) (hf : fds[k]? = some 0 ∨ fds[k]? = some 2) (hlink : Cond.fieldLink Y.1.cls index (q.2.1 k).1 (q.2.1 k).2.1 (q.2.1 k).2.2.1 ∈ f_tbl) (hd : decode Y.2.1 pc = .ok (.getfield index, 3)) (kk : G Y d S Post (pc + 3) lv (.int (h.1 r k) :: st) h) : G Y d S Post pc lv (.ref r :: st) h := by
  intro p l e s m args below meth c D cA σ A E H locs ls hP hD hS hl
  obtain ⟨q0, hq⟩ := List.getElem?_of_mem hm
  refine va_get E.1 E.2.1 E.2.2.2.2.2.1 hin E.2.2.2.2.1 E.2.2.2.2.2.2.2.2.1 hP q0 (f_w_get hq) hc k hk (E.2.2.2.2.2.1 _ hlink) (fun _ z => z) (v := .int (h.1 r k)) ?_ hd (kk p l e s m args below meth c D cA σ A E H locs ls hP hD hS hl)
  rw [f_fs_get]
  rcases hf with z | z <;> rw [z] <;> simp [f_fv]
theorem G_getl {r ci k index : Nat} {fds : List Nat} {q : vw_C} (hm : (r, .inl (ci, fds)) ∈ S) (hc : f_cl[ci]? = some q) (hin : ∀ w ∈ u_ws q.1 q.2.1 q.2.2, w ∈ f_tbl) (hk : k < q.2.2) (hf : fds[k]? = some 1) (hlink : Cond.fieldLink Y.1.cls index (q.2.1 k).1 (q.2.1 k).2.1 (q.2.1 k).2.2.1 ∈ f_tbl) (hd : decode Y.2.1 pc = .ok (.getfield index, 3)) (kk : G Y d S Post (pc + 3) lv (.long (h.2.1 r k) :: st) h) : G Y d S Post pc lv (.ref r :: st) h := by
  intro p l e s m args below meth c D cA σ A E H locs ls hP hD hS hl
  obtain ⟨q0, hq⟩ := List.getElem?_of_mem hm
  refine va_get E.1 E.2.1 E.2.2.2.2.2.1 hin E.2.2.2.2.1 E.2.2.2.2.2.2.2.2.1 hP q0 (f_w_get hq) hc k hk (E.2.2.2.2.2.1 _ hlink) (fun _ z => z) (v := .long (h.2.1 r k)) ?_ hd (kk p l e s m args below meth c D cA σ A E H locs ls hP hD hS hl)
  rw [f_fs_get, hf]
  simp [f_fv]
theorem G_getr {r ci k index j : Nat} {fds : List Nat} {q : vw_C} (hm : (r, .inl (ci, fds)) ∈ S) (hc : f_cl[ci]? = some q) (hin : ∀ w ∈ u_ws q.1 q.2.1 q.2.2, w ∈ f_tbl) (hk : k < q.2.2) (hf : fds[k]? = some (j + 3)) (hlink : Cond.fieldLink Y.1.cls index (q.2.1 k).1 (q.2.1 k).2.1 (q.2.1 k).2.2.1 ∈ f_tbl) (hd : decode Y.2.1 pc = .ok (.getfield index, 3)) (kk : G Y d S Post (pc + 3) lv (.ref j :: st) h) : G Y d S Post pc lv (.ref r :: st) h := by
  intro p l e s m args below meth c D cA σ A E H locs ls hP hD hS hl
  obtain ⟨q0, hq⟩ := List.getElem?_of_mem hm
  refine va_get E.1 E.2.1 E.2.2.2.2.2.1 hin E.2.2.2.2.1 E.2.2.2.2.2.2.2.2.1 hP q0 (f_w_get hq) hc k hk (E.2.2.2.2.2.1 _ hlink) (fun _ z => z) (v := .ref (σ j)) ?_ hd (kk p l e s m args below meth c D cA σ A E H locs ls hP hD hS hl)
  rw [f_fs_get, hf]
  simp [f_fv]
theorem G_puti {r ci k index : Nat} {fds : List Nat} {q : vw_C} {v : Int32} (ty0 : Nat → FieldType) (hm : (r, .inl (ci, fds)) ∈ S) (hc : f_cl[ci]? = some q) (hin : ∀ w ∈ u_ws q.1 q.2.1 q.2.2, w ∈ f_tbl) (hty : ∀ k, k < q.2.2 → parseFieldDescriptor (q.2.1 k).2.2.1 = some (ty0 k)) (hnm : ∀ a, a < q.2.2 → ∀ b, b < q.2.2 → a ≠ b → (q.2.1 a).2.1 ≠ (q.2.1 b).2.1) (hk : k < q.2.2) (hf : fds[k]? = some 0) (ht : ty0 k = .int) (hfin : (q.2.1 k).2.2.2 = false) (hlink : Cond.fieldLink Y.1.cls index (q.2.1 k).1 (q.2.1 k).2.1 (q.2.1 k).2.2.1 ∈ f_tbl) (hd : decode Y.2.1 pc = .ok (.putfield index, 3)) (kk : G Y d S Post (pc + 3) lv st (u_fi h r k v)) : G Y d S Post pc lv (.int v :: .ref r :: st) h := by
  intro p l e s m args below meth c D cA σ A E H locs ls hP hD hS hl
  obtain ⟨q0, hq⟩ := List.getElem?_of_mem hm
  have hset : (f_w σ cA h S).set q0 (σ r, .inr (ci, (f_fs σ h r 0 fds).set k (.int v))) = f_w σ cA (u_fi h r k v) S := by
    rw [f_fs_set (h' := u_fi h r k v) (fun fd e => by rw [hf] at e; cases e; simp [f_fv, u_fi, upd]) (fun j fd hj => f_fv_fi hj)]
    exact f_w_set hq hD (f_off_fi h r k v)
  refine va_put (v := .int v) (ty := .int) E.1 E.2.1 E.2.2.2.2.2.1 hin ty0 hty hnm E.2.2.2.2.1 E.2.2.2.2.2.2.2.2.1 hP hD hS q0 (f_w_get hq) hc k hk (E.2.2.2.2.2.1 _ hlink) (fun _ z => z) hfin (by rw [hty k hk, ht]) rfl rfl (by rw [f_fs_len]; exact (List.getElem?_eq_some_iff.mp hf).1) hd (fun H1 locs1 hP hD hS => ?_)
  rw [hset] at hP hD
  exact kk p l e s m args below meth c D cA σ A E H1 locs1 ls hP hD hS hl
theorem G_putz {r ci k index : Nat} {fds : List Nat} {q : vw_C} {v : Int32} (ty0 : Nat → FieldType) (hm : (r, .inl (ci, fds)) ∈ S) (hc : f_cl[ci]? = some q) (hin : ∀ w ∈ u_ws q.1 q.2.1 q.2.2, w ∈ f_tbl) (hty : ∀ k, k < q.2.2 → parseFieldDescriptor (q.2.1 k).2.2.1 = some (ty0 k)) (hnm : ∀ a, a < q.2.2 → ∀ b, b < q.2.2 → a ≠ b → (q.2.1 a).2.1 ≠ (q.2.1 b).2.1) (hk : k < q.2.2) (hf : fds[k]? = some 2) (ht : ty0 k = .boolean) (hfin : (q.2.1 k).2.2.2 = false) (hv : v = 0 ∨ v = 1) (hlink : Cond.fieldLink Y.1.cls index (q.2.1 k).1 (q.2.1 k).2.1 (q.2.1 k).2.2.1 ∈ f_tbl) (hd : decode Y.2.1 pc = .ok (.putfield index, 3)) (kk : G Y d S Post (pc + 3) lv st (u_fi h r k v)) : G Y d S Post pc lv (.int v :: .ref r :: st) h := by
  intro p l e s m args below meth c D cA σ A E H locs ls hP hD hS hl
  obtain ⟨q0, hq⟩ := List.getElem?_of_mem hm
  have hset : (f_w σ cA h S).set q0 (σ r, .inr (ci, (f_fs σ h r 0 fds).set k (.int v))) = f_w σ cA (u_fi h r k v) S := by
    rw [f_fs_set (h' := u_fi h r k v) (fun fd e => by rw [hf] at e; cases e; simp [f_fv, u_fi, upd]) (fun j fd hj => f_fv_fi hj)]
    exact f_w_set hq hD (f_off_fi h r k v)
  refine va_put (v := .int v) (ty := .boolean) E.1 E.2.1 E.2.2.2.2.2.1 hin ty0 hty hnm E.2.2.2.2.1 E.2.2.2.2.2.2.2.2.1 hP hD hS q0 (f_w_get hq) hc k hk (E.2.2.2.2.2.1 _ hlink) (fun _ z => z) hfin (by rw [hty k hk, ht]) (by rcases hv with rfl | rfl <;> decide) (by rcases hv with rfl | rfl <;> decide) (by rw [f_fs_len]; exact (List.getElem?_eq_some_iff.mp hf).1) hd (fun H1 locs1 hP hD hS => ?_)
  rw [hset] at hP hD
  exact kk p l e s m args below meth c D cA σ A E H1 locs1 ls hP hD hS hl
theorem G_putl {r ci k index : Nat} {fds : List Nat} {q : vw_C} {v : Int64} (ty0 : Nat → FieldType) (hm : (r, .inl (ci, fds)) ∈ S) (hc : f_cl[ci]? = some q) (hin : ∀ w ∈ u_ws q.1 q.2.1 q.2.2, w ∈ f_tbl) (hty : ∀ k, k < q.2.2 → parseFieldDescriptor (q.2.1 k).2.2.1 = some (ty0 k)) (hnm : ∀ a, a < q.2.2 → ∀ b, b < q.2.2 → a ≠ b → (q.2.1 a).2.1 ≠ (q.2.1 b).2.1) (hk : k < q.2.2) (hf : fds[k]? = some 1) (ht : ty0 k = .long) (hfin : (q.2.1 k).2.2.2 = false) (hlink : Cond.fieldLink Y.1.cls index (q.2.1 k).1 (q.2.1 k).2.1 (q.2.1 k).2.2.1 ∈ f_tbl) (hd : decode Y.2.1 pc = .ok (.putfield index, 3)) (kk : G Y d S Post (pc + 3) lv st (u_fl h r k v)) : G Y d S Post pc lv (.long v :: .ref r :: st) h := by
  intro p l e s m args below meth c D cA σ A E H locs ls hP hD hS hl
  obtain ⟨q0, hq⟩ := List.getElem?_of_mem hm
  have hset : (f_w σ cA h S).set q0 (σ r, .inr (ci, (f_fs σ h r 0 fds).set k (.long v))) = f_w σ cA (u_fl h r k v) S := by
    rw [f_fs_set (h' := u_fl h r k v) (fun fd e => by rw [hf] at e; cases e; simp [f_fv, u_fl, vp_updL]) (fun j fd hj => f_fv_fl hj)]
    exact f_w_set hq hD (f_off_fl h r k v)
  refine va_put (v := .long v) (ty := .long) E.1 E.2.1 E.2.2.2.2.2.1 hin ty0 hty hnm E.2.2.2.2.1 E.2.2.2.2.2.2.2.2.1 hP hD hS q0 (f_w_get hq) hc k hk (E.2.2.2.2.2.1 _ hlink) (fun _ z => z) hfin (by rw [hty k hk, ht]) rfl rfl (by rw [f_fs_len]; exact (List.getElem?_eq_some_iff.mp hf).1) hd (fun H1 locs1 hP hD hS => ?_)
  rw [hset] at hP hD
  exact kk p l e s m args below meth c D cA σ A E H1 locs1 ls hP hD hS hl
-- rows
theorem G_iald {a n : Nat} {g : Nat → Nat} {i : Int32} (hm : (a, .inr (0, n, g)) ∈ S) (hin : vp_in i n) (hd : decode Y.2.1 pc = .ok (.iaload, 1)) (kk : G Y d S Post (pc + 1) lv (.int (h.2.2.1 a i.toNatClampNeg) :: st) h) : G Y d S Post pc lv (.int i :: .ref a :: st) h := by
  intro p l e s m args below meth c D cA σ A E H locs ls hP hD hS hl
  obtain ⟨q0, hq⟩ := List.getElem?_of_mem hm
  exact va_iald E.1 E.2.1 E.2.2.2.2.2.2.2.2.1 hP q0 0 (f_w_get hq) rfl hin hd (kk p l e s m args below meth c D cA σ A E H locs ls hP hD hS hl)
theorem G_zald {a n : Nat} {g : Nat → Nat} {i : Int32} (hm : (a, .inr (2, n, g)) ∈ S) (hin : vp_in i n) (hd : decode Y.2.1 pc = .ok (.baload, 1)) (kk : G Y d S Post (pc + 1) lv (.int (h.2.2.1 a i.toNatClampNeg) :: st) h) : G Y d S Post pc lv (.int i :: .ref a :: st) h := by
  intro p l e s m args below meth c D cA σ A E H locs ls hP hD hS hl
  obtain ⟨q0, hq⟩ := List.getElem?_of_mem hm
  exact va_zald E.1 E.2.1 E.2.2.2.2.2.2.2.2.1 hP q0 2 (f_w_get hq) rfl hin hd (kk p l e s m args below meth c D cA σ A E H locs ls hP hD hS hl)
theorem G_lald {a n : Nat} {g : Nat → Nat} {i : Int32} (hm : (a, .inr (1, n, g)) ∈ S) (hin : vp_in i n) (hd : decode Y.2.1 pc = .ok (.laload, 1)) (kk : G Y d S Post (pc + 1) lv (.long (h.2.2.2 a i.toNatClampNeg) :: st) h) : G Y d S Post pc lv (.int i :: .ref a :: st) h := by
  intro p l e s m args below meth c D cA σ A E H locs ls hP hD hS hl
  obtain ⟨q0, hq⟩ := List.getElem?_of_mem hm
  exact va_lald E.1 E.2.1 E.2.2.2.2.2.2.2.2.1 hP q0 1 (f_w_get hq) rfl hin hd (kk p l e s m args below meth c D cA σ A E H locs ls hP hD hS hl)
theorem G_aald {a n : Nat} {g : Nat → Nat} {i : Int32} (hm : (a, .inr (3, n, g)) ∈ S) (hin : vp_in i n) (hd : decode Y.2.1 pc = .ok (.aaload, 1)) (kk : G Y d S Post (pc + 1) lv (.ref (g i.toNatClampNeg) :: st) h) : G Y d S Post pc lv (.int i :: .ref a :: st) h := by
  intro p l e s m args below meth c D cA σ A E H locs ls hP hD hS hl
  obtain ⟨q0, hq⟩ := List.getElem?_of_mem hm
  have hlt : i.toNatClampNeg < n := Nat.not_le.mp fun q => hin (Or.inr q)
  have hcell : H[σ a]? = some (vp_cell (cA 3) (n, .inr (.inr (.inr (.inr (fun i => some (σ (g i)))))))) := hP q0 _ (f_w_get hq)
  exact W.aald (v := .ref (σ (g i.toNatClampNeg))) (ty := .array .int) E.1 E.2.1 hcell ((E.2.2.2.2.2.2.2.2.1.2 3 _ rfl).1 n (fun j => va_rf (some (σ (g j))))) rfl (fun q => by cases q) (by show ¬ (i < 0 ∨ (arrV _ _ _).slots.size ≤ _); rw [arrV_size]; exact hin) (by show (arrV _ _ _).slots[_]? = _; rw [arrV_read _ _ hlt]; rfl) rfl rfl hd (kk p l e s m args below meth c D cA σ A E H locs ls hP hD hS hl)
theorem G_iast {a n : Nat} {g : Nat → Nat} {i x : Int32} (hm : (a, .inr (0, n, g)) ∈ S) (hin : vp_in i n) (hd : decode Y.2.1 pc = .ok (.iastore, 1)) (kk : G Y d S Post (pc + 1) lv st (u_ai h a (upd (h.2.2.1 a) i.toNatClampNeg x))) : G Y d S Post pc lv (.int x :: .int i :: .ref a :: st) h := by
  intro p l e s m args below meth c D cA σ A E H locs ls hP hD hS hl
  obtain ⟨q0, hq⟩ := List.getElem?_of_mem hm
  refine va_iast E.1 E.2.1 E.2.2.2.2.2.2.2.2.1 hP hD hS q0 0 (f_w_get hq) rfl hin hd (fun H1 locs1 hP hD1 hS => ?_)
  have hset := f_w_set hq hD (f_off_ai h a (upd (h.2.2.1 a) i.toNatClampNeg x))
  simp only [f_e, u_ai, if_true] at hset
  rw [hset] at hP hD1
  exact kk p l e s m args below meth c D cA σ A E H1 locs1 ls hP hD1 hS hl
theorem G_zast {a n : Nat} {g : Nat → Nat} {i x : Int32} (hm : (a, .inr (2, n, g)) ∈ S) (hin : vp_in i n) (hx : x = 0 ∨ x = 1) (hd : decode Y.2.1 pc = .ok (.bastore, 1)) (kk : G Y d S Post (pc + 1) lv st (u_ai h a (upd (h.2.2.1 a) i.toNatClampNeg x))) : G Y d S Post pc lv (.int x :: .int i :: .ref a :: st) h := by
  intro p l e s m args below meth c D cA σ A E H locs ls hP hD hS hl
  obtain ⟨q0, hq⟩ := List.getElem?_of_mem hm
  refine va_zast E.1 E.2.1 E.2.2.2.2.2.2.2.2.1 hP hD hS q0 2 (f_w_get hq) rfl hin hd (fun H1 locs1 hP hD1 hS => ?_)
  have hx2 : vp_nar .boolean x = x := by rcases hx with rfl | rfl <;> decide
  rw [hx2] at hP hD1
  have hset := f_w_set hq hD (f_off_ai h a (upd (h.2.2.1 a) i.toNatClampNeg x))
  simp only [f_e, u_ai, if_true] at hset
  rw [hset] at hP hD1
  exact kk p l e s m args below meth c D cA σ A E H1 locs1 ls hP hD1 hS hl
theorem G_last {a n : Nat} {g : Nat → Nat} {i : Int32} {x : Int64} (hm : (a, .inr (1, n, g)) ∈ S) (hin : vp_in i n) (hd : decode Y.2.1 pc = .ok (.lastore, 1)) (kk : G Y d S Post (pc + 1) lv st (u_al h a (vp_updL (h.2.2.2 a) i.toNatClampNeg x))) : G Y d S Post pc lv (.long x :: .int i :: .ref a :: st) h := by
  intro p l e s m args below meth c D cA σ A E H locs ls hP hD hS hl
  obtain ⟨q0, hq⟩ := List.getElem?_of_mem hm
  refine va_last E.1 E.2.1 E.2.2.2.2.2.2.2.2.1 hP hD hS q0 1 (f_w_get hq) rfl hin hd (fun H1 locs1 hP hD1 hS => ?_)
  have hset := f_w_set hq hD (f_off_al h a (vp_updL (h.2.2.2 a) i.toNatClampNeg x))
  simp only [f_e, u_al, if_true] at hset
  rw [hset] at hP hD1
  exact kk p l e s m args below meth c D cA σ A E H1 locs1 ls hP hD1 hS hl
theorem G_alenI {a n : Nat} {g : Nat → Nat} (hm : (a, .inr (0, n, g)) ∈ S) (hd : decode Y.2.1 pc = .ok (.arraylength, 1)) (kk : G Y d S Post (pc + 1) lv (.int (Int32.ofNat n) :: st) h) : G Y d S Post pc lv (.ref a :: st) h := by
  intro p l e s m args below meth c D cA σ A E H locs ls hP hD hS hl
  obtain ⟨q0, hq⟩ := List.getElem?_of_mem hm
  exact va_alen E.1 E.2.1 E.2.2.2.2.2.2.2.2.1 hP q0 0 (f_w_get hq) (ty := .int) rfl rfl hd (kk p l e s m args below meth c D cA σ A E H locs ls hP hD hS hl)
theorem G_alenL {a n : Nat} {g : Nat → Nat} (hm : (a, .inr (1, n, g)) ∈ S) (hd : decode Y.2.1 pc = .ok (.arraylength, 1)) (kk : G Y d S Post (pc + 1) lv (.int (Int32.ofNat n) :: st) h) : G Y d S Post pc lv (.ref a :: st) h := by
  intro p l e s m args below meth c D cA σ A E H locs ls hP hD hS hl
  obtain ⟨q0, hq⟩ := List.getElem?_of_mem hm
  exact va_alen E.1 E.2.1 E.2.2.2.2.2.2.2.2.1 hP q0 1 (f_w_get hq) (ty := .long) rfl rfl hd (kk p l e s m args below meth c D cA σ A E H locs ls hP hD hS hl)
-- the static row
theorem G_tens {index : Nat} (hlink : Cond.fieldLinkNest Y.1.cls index RX11 "TENS" "[J" "LostDigits" ∈ f_nst) (hd : decode Y.2.1 pc = .ok (.getstatic index, 3)) (kk : G Y d S Post (pc + 3) lv (.ref 0 :: st) h) : G Y d S Post pc lv st h := fun p l e s m args below meth c D cA σ A E H locs ls hP hD hS hl => va_getsN (C := RX11) (v := .ref (σ 0)) E.1 E.2.1 E.2.2.2.2.2.2.1.1 hS E.2.2.2.2.1 (va_Nw.use rfl (E.2.2.2.2.2.2.1.2.2 _ hlink)) (fun _ z => z) hd (kk p l e s m args below meth c D cA σ A E H locs ls hP hD hS hl)
theorem G_tlal {i : Int32} (hin : vp_in i 19) (hd : decode Y.2.1 pc = .ok (.laload, 1)) (kk : G Y d S Post (pc + 1) lv (.long (f_ten i.toNatClampNeg) :: st) h) : G Y d S Post pc lv (.int i :: .ref 0 :: st) h := fun p l e s m args below meth c D cA σ A E H locs ls hP hD hS hl => va_tl E.1 E.2.1 E.2.2.2.2.2.2.1.2.1 hS hin rfl hd (kk p l e s m args below meth c D cA σ A E H locs ls hP hD hS hl)
theorem G_tlen (hd : decode Y.2.1 pc = .ok (.arraylength, 1)) (kk : G Y d S Post (pc + 1) lv (.int 19 :: st) h) : G Y d S Post pc lv (.ref 0 :: st) h := fun p l e s m args below meth c D cA σ A E H locs ls hP hD hS hl => va_tlen E.1 E.2.1 E.2.2.2.2.2.2.1.2.1 hS (v := 19) rfl hd (kk p l e s m args below meth c D cA σ A E H locs ls hP hD hS hl)
end GCELLS
end
section
section GCALLS
variable {Y : fM} {d : Nat} {S : fW} {Post : Option Value → fH → Prop} {pc : Nat} {lv lv' : List (Nat × Value)} {st : List Value} {h : fH}
theorem f_catsum (σ : Nat → Nat) (st : List Value) : ((st.map (f_v σ)).map fun v => v.category).sum = (st.map fun v => v.category).sum := by
  rw [List.map_map]
  congr 1
  apply List.map_congr_left
  intro v _
  exact f_v_cat σ v
/-- what a callee's name must be -/
def f_nm (y : MethodName) (n : Nat) : Prop := y.cls ≠ "java/lang/invoke/MethodHandle" ∧ y.cls ≠ "java/lang/invoke/VarHandle" ∧ (parseMethodDescriptor y.desc).map (fun d => d.parameters.length) = some n
theorem f_pre {D : va_G} {cA : Nat → ClassId} {σ : Nat → Nat} {A : Nat → Prop} {s : State} {H : Heap} {locs : List Loc} {vs : List Value} (hP : va_P D f_cl (f_w σ cA h S) H) (hD : va_D A (f_w σ cA h S)) (hS : va_S A s.heap H locs) (hK : va_K D f_cl (f_tys cA) s) (hA : ∀ q : Nat, s.heap.size ≤ q → A q) (hg : f_sg σ A s s.heap) : ∀ U : State, U.heap = H → s.WarmedH U.vm → f_Pc D cA σ A S vs h (vs.map (f_v σ)).toArray U := by
  intro U hU hW
  refine ⟨rfl, ⟨by rw [hU]; exact hP, hD⟩, va_K.moved hW.alike hK, fun q hq => hA q (Nat.le_trans hS.1 (by rw [← hU]; exact hq)), ?_⟩
  rw [hU]
  exact f_sg_kept (f_sg_warm hW hg) hS.2.1
/-- a call of a method of an object's class -/
theorem G_callV {Z : fM} {index ci b n : Nat} {fds : List Nat} {q : vw_C} {As : List Value} {Q : Option Value → fH → Prop} (hlink : Cond.methodLink Y.1.cls index Z.1 ∈ f_tbl) (hI : Cond.instanceMethod Z.1 ∈ f_tbl) (hSel : Cond.selects Z.1.cls Z.1 Z.1 ∈ f_tbl) (hC : Cond.code Z.1 Z.2.1 Z.2.2.1 Z.2.2.2 ∈ f_tbl) (hN : Cond.initialized Z.1.cls ∈ f_tbl) (hnm : f_nm Z.1 n) (hml : Z.2.2.1 ≤ 77) (hm : (b, .inl (ci, fds)) ∈ S) (hc : f_cl[ci]? = some q) (hq : q.1 = Z.1.cls) (hn : As.length = n) (hst : (st.map fun v => v.category).sum ≤ 8) (hd : decode Y.2.1 pc = .ok (.invokevirtual index, 3)) (ok : Ok d Z S (.ref b :: As) h Q) (kk : ∀ r h', Q r h' → G Y (d + 1) S Post (pc + 3) lv (r.toList ++ st) h') : G Y (d + 1) S Post pc lv (As.reverse ++ .ref b :: st) h := by
  intro p l e s m args below meth c D cA σ A E H locs ls hP hD hS hl
  obtain ⟨q0, hq0⟩ := List.getElem?_of_mem hm
  have hts := E.2.2.2.2.2.1
  have hK := E.2.2.2.2.2.2.2.2.1
  have hrv := va_recv hK hP hc (f_w_get (σ := σ) (cA := cA) (h := h) hq0)
  rw [hq] at hrv
  have cw : CallW (f_room (d + 1)) s args Y.1.cls Z.1.cls index Z.1 Z.2.1 Z.2.2.1 Z.2.2.2 (.code Z.1 Z.2.1 Z.2.2.1 Z.2.2.2 :: f_tbl) (f_room d) 0 0 n := ⟨callB_of n hts (f_good Z hC) rfl rfl rfl (hts _ hN) (hts _ hlink) hnm ⟨Nat.le_refl _, by simp only [f_room]; omega⟩, hts _ hI, hts _ hSel⟩
  have hstk : (As.reverse ++ .ref b :: st).map (f_v σ) = (As.map (f_v σ)).reverse ++ .ref (σ b) :: st.map (f_v σ) := by simp [f_v]
  rw [hstk]
  refine f_call (va_runV (As := As.map (f_v σ)) (b := σ b) (C := Z.1.cls) ⟨E.1, E.2.1, E.2.2.1, E.2.2.2.2.1, hts⟩ (ok l D cA σ A) cw ⟨f_blind D cA σ A S (.ref b :: As) h, hrv, f_pre hP hD hS hK E.2.2.2.2.2.2.2.2.2 E.2.2.2.2.2.2.1⟩ rfl (by simpa using hn) hl.1 rfl (lv_room (by rw [f_catsum]; exact hst)) hd ⟨Nat.le_refl _, Nat.le_refl _⟩) hS (fun r h' H1 locs1 hr hP hD hS => ?_)
  exact kk r h' hr p l e s m args below meth c D cA σ A E H1 locs1 ls hP hD hS hl
/-- a call of a static method -/
theorem G_callS {Z : fM} {index n : Nat} {As : List Value} {Q : Option Value → fH → Prop} (hlink : Cond.methodLink Y.1.cls index Z.1 ∈ f_tbl) (hT : Cond.static Z.1 ∈ f_tbl) (hC : Cond.code Z.1 Z.2.1 Z.2.2.1 Z.2.2.2 ∈ f_tbl) (hN : Cond.initialized Z.1.cls ∈ f_tbl) (hnm : f_nm Z.1 n) (hml : Z.2.2.1 ≤ 77) (hn : As.length = n) (hst : (st.map fun v => v.category).sum ≤ 8) (hd : decode Y.2.1 pc = .ok (.invokestatic index, 3)) (ok : Ok d Z S As h Q) (kk : ∀ r h', Q r h' → G Y (d + 1) S Post (pc + 3) lv (r.toList ++ st) h') : G Y (d + 1) S Post pc lv (As.reverse ++ st) h := by
  intro p l e s m args below meth c D cA σ A E H locs ls hP hD hS hl
  have hts := E.2.2.2.2.2.1
  have hK := E.2.2.2.2.2.2.2.2.1
  have cw : CallB (f_room (d + 1)) s args Y.1.cls index Z.1 Z.2.1 Z.2.2.1 Z.2.2.2 (.code Z.1 Z.2.1 Z.2.2.1 Z.2.2.2 :: f_tbl) (f_room d) 0 0 n := callB_of n hts (f_good Z hC) rfl rfl rfl (hts _ hN) (hts _ hlink) hnm ⟨Nat.le_refl _, by simp only [f_room]; omega⟩
  have hstk : (As.reverse ++ st).map (f_v σ) = (As.map (f_v σ)).reverse ++ st.map (f_v σ) := by simp
  rw [hstk]
  refine f_call (va_runS (As := As.map (f_v σ)) ⟨E.1, E.2.1, E.2.2.1, E.2.2.2.2.1, hts⟩ (ok l D cA σ A) ⟨cw, hts _ hT⟩ ⟨f_blind D cA σ A S As h, f_pre hP hD hS hK E.2.2.2.2.2.2.2.2.2 E.2.2.2.2.2.2.1⟩ rfl (by simpa using hn) hl.1 rfl (lv_room (by rw [f_catsum]; exact hst)) hd ⟨Nat.le_refl _, Nat.le_refl _⟩) hS (fun r h' H1 locs1 hr hP hD hS => ?_)
  exact kk r h' hr p l e s m args below meth c D cA σ A E H1 locs1 ls hP hD hS hl
/-- a call of a nest mate's static method -/
theorem G_callN {Z : fM} {index n : Nat} {host : String} {As : List Value} {Q : Option Value → fH → Prop} (hlink : Cond.methodLinkNest Y.1.cls index Z.1 host ∈ f_nst) (hT : Cond.static Z.1 ∈ f_tbl) (hC : Cond.code Z.1 Z.2.1 Z.2.2.1 Z.2.2.2 ∈ f_tbl) (hN : Cond.initialized Z.1.cls ∈ f_tbl) (hnm : f_nm Z.1 n) (hml : Z.2.2.1 ≤ 77) (hn : As.length = n) (hst : (st.map fun v => v.category).sum ≤ 8) (hd : decode Y.2.1 pc = .ok (.invokestatic index, 3)) (ok : Ok d Z S As h Q) (kk : ∀ r h', Q r h' → G Y (d + 1) S Post (pc + 3) lv (r.toList ++ st) h') : G Y (d + 1) S Post pc lv (As.reverse ++ st) h := by
  intro p l e s m args below meth c D cA σ A E H locs ls hP hD hS hl
  have hts := E.2.2.2.2.2.1
  have hK := E.2.2.2.2.2.2.2.2.1
  have cw : va_CN (f_room (d + 1)) s args Y.1.cls index Z.1 host Z.2.1 Z.2.2.1 Z.2.2.2 (.code Z.1 Z.2.1 Z.2.2.1 Z.2.2.2 :: f_tbl) (f_room d) 0 0 n := va_cnB n hts (f_good Z hC) rfl rfl rfl (E.2.2.2.2.2.2.1.2.2 _ hlink) (hts _ hN) hnm ⟨Nat.le_refl _, by simp only [f_room]; omega⟩
  have hstk : (As.reverse ++ st).map (f_v σ) = (As.map (f_v σ)).reverse ++ st.map (f_v σ) := by simp
  rw [hstk]
  refine f_call (va_runSN (As := As.map (f_v σ)) ⟨E.1, E.2.1, E.2.2.1, E.2.2.2.2.1, hts⟩ (ok l D cA σ A) ⟨cw, hts _ hT, trivial⟩ ⟨f_blind D cA σ A S As h, f_pre hP hD hS hK E.2.2.2.2.2.2.2.2.2 E.2.2.2.2.2.2.1⟩ rfl (by simpa using hn) hl.1 rfl (lv_room (by rw [f_catsum]; exact hst)) hd ⟨Nat.le_refl _, Nat.le_refl _⟩) hS (fun r h' H1 locs1 hr hP hD hS => ?_)
  exact kk r h' hr p l e s m args below meth c D cA σ A E H1 locs1 ls hP hD hS hl
-- Math
theorem G_mabs {index : Nat} {x : Int64} (hlink : Cond.methodLink Y.1.cls index yJ9_abs_067f4 ∈ f_tbl) (hst : (st.map fun v => v.category).sum ≤ 8) (hd : decode Y.2.1 pc = .ok (.invokestatic index, 3)) (kk : G Y (d + 1) S Post (pc + 3) lv (.long (if 0 < x then x else -x) :: st) h) : G Y (d + 1) S Post pc lv (.long x :: st) h := fun p l e s m args below meth c D cA σ A E H locs ls hP hD hS hl => va_mabs_long (rest := st.map (f_v σ)) E.1 E.2.1 (E.2.2.1.trans hl.1.symm) E.2.2.2.2.1 (E.2.2.2.2.2.1 _ hlink) (E.2.2.2.2.2.1 _ hT_J9_abs_067f4) (E.2.2.2.2.2.1 _ hN_J9) (E.2.2.2.2.2.1 _ hC_J9_abs_067f4) (Nat.le_add_left 1 d) (by rw [f_catsum]; simp only [f_room]; omega) (Nat.le_refl _) (Nat.le_refl _) hd (kk p l e s m args below meth c D cA σ A E H locs ls hP hD hS hl)
theorem G_mmaxL {index : Nat} {x y : Int64} (hlink : Cond.methodLink Y.1.cls index yJ9_max_f86c9 ∈ f_tbl) (hst : (st.map fun v => v.category).sum ≤ 8) (hd : decode Y.2.1 pc = .ok (.invokestatic index, 3)) (kk : G Y (d + 1) S Post (pc + 3) lv (.long (if y < x then x else y) :: st) h) : G Y (d + 1) S Post pc lv (.long y :: .long x :: st) h := fun p l e s m args below meth c D cA σ A E H locs ls hP hD hS hl => va_mmax_long (rest := st.map (f_v σ)) E.1 E.2.1 (E.2.2.1.trans hl.1.symm) E.2.2.2.2.1 (E.2.2.2.2.2.1 _ hlink) (E.2.2.2.2.2.1 _ hT_J9_max_f86c9) (E.2.2.2.2.2.1 _ hN_J9) (E.2.2.2.2.2.1 _ hC_J9_max_f86c9) (Nat.le_add_left 1 d) (by rw [f_catsum]; simp only [f_room]; omega) (Nat.le_refl _) (Nat.le_refl _) hd (kk p l e s m args below meth c D cA σ A E H locs ls hP hD hS hl)
theorem G_mminL {index : Nat} {x y : Int64} (hlink : Cond.methodLink Y.1.cls index yJ9_min_f86c9 ∈ f_tbl) (hst : (st.map fun v => v.category).sum ≤ 8) (hd : decode Y.2.1 pc = .ok (.invokestatic index, 3)) (kk : G Y (d + 1) S Post (pc + 3) lv (.long (if y < x then y else x) :: st) h) : G Y (d + 1) S Post pc lv (.long y :: .long x :: st) h := fun p l e s m args below meth c D cA σ A E H locs ls hP hD hS hl => va_mmin_long (rest := st.map (f_v σ)) E.1 E.2.1 (E.2.2.1.trans hl.1.symm) E.2.2.2.2.1 (E.2.2.2.2.2.1 _ hlink) (E.2.2.2.2.2.1 _ hT_J9_min_f86c9) (E.2.2.2.2.2.1 _ hN_J9) (E.2.2.2.2.2.1 _ hC_J9_min_f86c9) (Nat.le_add_left 1 d) (by rw [f_catsum]; simp only [f_room]; omega) (Nat.le_refl _) (Nat.le_refl _) hd (kk p l e s m args below meth c D cA σ A E H locs ls hP hD hS hl)
theorem G_mmaxI {index : Nat} {x y : Int32} (hlink : Cond.methodLink Y.1.cls index yJ9_max_7cf53 ∈ f_tbl) (hst : (st.map fun v => v.category).sum ≤ 8) (hd : decode Y.2.1 pc = .ok (.invokestatic index, 3)) (kk : G Y (d + 1) S Post (pc + 3) lv (.int (if x < y then y else x) :: st) h) : G Y (d + 1) S Post pc lv (.int y :: .int x :: st) h := fun p l e s m args below meth c D cA σ A E H locs ls hP hD hS hl => va_mmax (rest := st.map (f_v σ)) E.1 E.2.1 (E.2.2.1.trans hl.1.symm) E.2.2.2.2.1 (E.2.2.2.2.2.1 _ hlink) (E.2.2.2.2.2.1 _ hT_J9_max_7cf53) (E.2.2.2.2.2.1 _ hN_J9) (E.2.2.2.2.2.1 _ hC_J9_max_7cf53) (Nat.le_add_left 1 d) (by rw [f_catsum]; simp only [f_room]; omega) (Nat.le_refl _) (Nat.le_refl _) hd (kk p l e s m args below meth c D cA σ A E H locs ls hP hD hS hl)
theorem G_mminI {index : Nat} {x y : Int32} (hlink : Cond.methodLink Y.1.cls index yJ9_min_7cf53 ∈ f_tbl) (hst : (st.map fun v => v.category).sum ≤ 8) (hd : decode Y.2.1 pc = .ok (.invokestatic index, 3)) (kk : G Y (d + 1) S Post (pc + 3) lv (.int (if y < x then y else x) :: st) h) : G Y (d + 1) S Post pc lv (.int y :: .int x :: st) h := fun p l e s m args below meth c D cA σ A E H locs ls hP hD hS hl => va_mmin (rest := st.map (f_v σ)) E.1 E.2.1 (E.2.2.1.trans hl.1.symm) E.2.2.2.2.1 (E.2.2.2.2.2.1 _ hlink) (E.2.2.2.2.2.1 _ hT_J9_min_7cf53) (E.2.2.2.2.2.1 _ hN_J9) (E.2.2.2.2.2.1 _ hC_J9_min_7cf53) (Nat.le_add_left 1 d) (by rw [f_catsum]; simp only [f_room]; omega) (Nat.le_refl _) (Nat.le_refl _) hd (kk p l e s m args below meth c D cA σ A E H locs ls hP hD hS hl)
end GCALLS
end
section
theorem hT_copy : Cond.static arraycopyName ∈ f_tbl := f_t 600 (by decide +kernel) rfl
theorem hV_copy : Cond.native arraycopyName ∈ f_tbl := f_t 601 (by decide +kernel) rfl
section GCOPY
variable {Y : fM} {d : Nat} {S : fW} {Post : Option Value → fH → Prop} {pc : Nat} {lv lv' : List (Nat × Value)} {st : List Value} {h : fH}
theorem G_copyI {index a0 a n0 n1 : Nat} {g0 g1 : Nat → Nat} {n : Int32} (hlink : Cond.methodLink Y.1.cls index arraycopyName ∈ f_tbl) (hm0 : (a0, .inr (0, n0, g0)) ∈ S) (hm1 : (a, .inr (0, n1, g1)) ∈ S) (h3 : ¬ n < 0) (h4 : n.toNatClampNeg ≤ n0) (h5 : n.toNatClampNeg ≤ n1) (hst : (st.map fun v => v.category).sum ≤ 8) (hd : decode Y.2.1 pc = .ok (.invokestatic index, 3)) (kk : G Y (d + 1) S Post (pc + 3) lv st (u_ai h a (va_cpy (h.2.2.1 a0) (h.2.2.1 a) 0 0 n.toNatClampNeg))) : G Y (d + 1) S Post pc lv (.int n :: .int 0 :: .ref a :: .int 0 :: .ref a0 :: st) h := by
  intro p l e s m args below meth c D cA σ A E H locs ls hP hD hS hl
  obtain ⟨q0, hq0⟩ := List.getElem?_of_mem hm0
  obtain ⟨q1, hq1⟩ := List.getElem?_of_mem hm1
  have hts := E.2.2.2.2.2.1
  refine va_copyi (sp := 0) (dp := 0) (n := n) (ty := .int) (rest := st.map (f_v σ)) E.1 E.2.1 (E.2.2.1.trans hl.1.symm) E.2.2.2.2.1 (hts _ hlink) (hts _ hV_copy) (hts _ hT_copy) (hts _ hN_J10) E.2.2.2.2.2.2.2.2.1 hP hD hS q0 q1 0 0 (f_w_get hq0) (f_w_get hq1) rfl rfl rfl (by decide) (by decide) h3 (by simpa using h4) (by simpa using h5) (fun _ _ => rfl) (Nat.le_add_left 1 d) (by rw [f_catsum]; simp [f_room, nativeFrameWords]; omega) hd (fun H1 locs1 hP hD1 hS => ?_)
  have hset := f_w_set hq1 hD (f_off_ai h a (va_cpy (h.2.2.1 a0) (h.2.2.1 a) 0 0 n.toNatClampNeg))
  simp only [f_e, u_ai, if_true] at hset
  have hz : (0 : Int32).toNatClampNeg = 0 := by decide
  rw [hz, hset] at hP hD1
  exact kk p l e s m args below meth c D cA σ A E H1 locs1 ls hP hD1 hS hl
theorem G_copyL {index a0 a n0 n1 : Nat} {g0 g1 : Nat → Nat} {n : Int32} (hlink : Cond.methodLink Y.1.cls index arraycopyName ∈ f_tbl) (hm0 : (a0, .inr (1, n0, g0)) ∈ S) (hm1 : (a, .inr (1, n1, g1)) ∈ S) (h3 : ¬ n < 0) (h4 : n.toNatClampNeg ≤ n0) (h5 : n.toNatClampNeg ≤ n1) (hst : (st.map fun v => v.category).sum ≤ 8) (hd : decode Y.2.1 pc = .ok (.invokestatic index, 3)) (kk : G Y (d + 1) S Post (pc + 3) lv st (u_al h a (va_cpy (h.2.2.2 a0) (h.2.2.2 a) 0 0 n.toNatClampNeg))) : G Y (d + 1) S Post pc lv (.int n :: .int 0 :: .ref a :: .int 0 :: .ref a0 :: st) h := by
  intro p l e s m args below meth c D cA σ A E H locs ls hP hD hS hl
  obtain ⟨q0, hq0⟩ := List.getElem?_of_mem hm0
  obtain ⟨q1, hq1⟩ := List.getElem?_of_mem hm1
  have hts := E.2.2.2.2.2.1
  refine va_copyl (sp := 0) (dp := 0) (n := n) (ty := .long) (rest := st.map (f_v σ)) E.1 E.2.1 (E.2.2.1.trans hl.1.symm) E.2.2.2.2.1 (hts _ hlink) (hts _ hV_copy) (hts _ hT_copy) (hts _ hN_J10) E.2.2.2.2.2.2.2.2.1 hP hD hS q0 q1 1 1 (f_w_get hq0) (f_w_get hq1) rfl rfl rfl (by decide) (by decide) h3 (by simpa using h4) (by simpa using h5) (fun _ _ => rfl) (Nat.le_add_left 1 d) (by rw [f_catsum]; simp [f_room, nativeFrameWords]; omega) hd (fun H1 locs1 hP hD1 hS => ?_)
  have hset := f_w_set hq1 hD (f_off_al h a (va_cpy (h.2.2.2 a0) (h.2.2.2 a) 0 0 n.toNatClampNeg))
  simp only [f_e, u_al, if_true] at hset
  have hz : (0 : Int32).toNatClampNeg = 0 := by decide
  rw [hz, hset] at hP hD1
  exact kk p l e s m args below meth c D cA σ A E H1 locs1 ls hP hD1 hS hl
end GCOPY
end
section
/-- LostDigits$Fractions -/
abbrev shX0 (f_uppers f_lowers : Nat) : fS := .inl (0, [f_uppers + 3, f_lowers + 3])
/-- LostDigits$Orders -/
abbrev shX1 (f_sums f_path f_losses f_counts f_firsts : Nat) : fS := .inl (1, [f_sums + 3, f_path + 3, f_losses + 3, f_counts + 3, f_firsts + 3, 1, 2])
/-- LostDigits$Page -/
abbrev shX2 (f_text f_numbers f_spans f_terms : Nat) : fS := .inl (2, [f_text + 3, f_numbers + 3, f_spans + 3, f_terms + 3, 0, 0, 0, 2])
/-- LostDigits$Ratio -/
abbrev shX3 : fS := .inl (3, [1, 1, 0])
/-- LostDigits$Rounding -/
abbrev shX4 : fS := .inl (4, [0, 0, 2])
/-- LostDigits$Search -/
abbrev shX6 (f_steps f_once f_twice f_best : Nat) : fS := .inl (5, [f_steps + 3, f_once + 3, f_twice + 3, f_best + 3, 1, 0])
/-- LostDigits$Spans -/
abbrev shX7 (f_low f_high f_ratio f_down f_up f_fractions f_trial f_widths : Nat) : fS := .inl (6, [f_low + 3, f_high + 3, f_ratio + 3, f_down + 3, f_up + 3, f_fractions + 3, f_trial + 3, f_widths + 3, 1, 1, 2])
/-- LostDigits$Steps -/
abbrev shX8 (f_values f_slips f_fractions f_rounding f_ratio : Nat) : fS := .inl (7, [f_values + 3, f_slips + 3, f_fractions + 3, f_rounding + 3, f_ratio + 3])
/-- LostDigits$Sums -/
abbrev shX9 (f_ratio f_rounding f_terms f_sizes : Nat) : fS := .inl (8, [f_ratio + 3, f_rounding + 3, f_terms + 3, f_sizes + 3, 0])
/-- LostDigits$Text -/
abbrev shX10 (f_signs f_ends f_letters : Nat) : fS := .inl (9, [f_signs + 3, f_ends + 3, f_letters + 3, 0])
/-- LostDigits -/
abbrev shX11 (f_now f_imageZero f_imageOne f_pad f_ratio f_rounding f_steps f_sums f_allOrders f_spans f_search : Nat) : fS := .inl (10, [f_now + 3, f_imageZero + 3, f_imageOne + 3, f_pad + 3, 0, f_ratio + 3, f_rounding + 3, f_steps + 3, f_sums + 3, f_allOrders + 3, f_spans + 3, f_search + 3])
/-- LostDigitsModel -/
abbrev shX12 (f_pad f_text f_number f_span f_now f_sizeOf f_workedTo f_slip f_exactUpper f_exactLower f_more f_terms f_order f_bestOrder f_low f_high f_built f_better f_base f_kept f_isKept : Nat) : fS := .inl (11, [0, 0, 1, 0, 1, 1, 0, f_pad + 3, 0, f_text + 3, 0, f_number + 3, f_span + 3, f_now + 3, 0, f_sizeOf + 3, f_workedTo + 3, f_slip + 3, f_exactUpper + 3, f_exactLower + 3, f_more + 3, f_terms + 3, 0, f_order + 3, 1, 0, f_bestOrder + 3, f_low + 3, f_high + 3, f_built + 3, 0, f_better + 3, 0, 1, f_base + 3, 0, f_kept + 3, f_isKept + 3, 0, 2])
abbrev shI (n : Nat) : fS := .inr (0, n, fun _ => 0)
abbrev shJ (n : Nat) : fS := .inr (1, n, fun _ => 0)
abbrev shZ (n : Nat) : fS := .inr (2, n, fun _ => 0)
abbrev shII (n : Nat) (g : Nat → Nat) : fS := .inr (3, n, g)
def f_PI (Q : Int32 → fH → Prop) : Option Value → fH → Prop := fun r k => ∃ x : Int32, r = some (.int x) ∧ Q x k
def f_PL (Q : Int64 → fH → Prop) : Option Value → fH → Prop := fun r k => ∃ x : Int64, r = some (.long x) ∧ Q x k
def f_PV (Q : fH → Prop) : Option Value → fH → Prop := fun r k => r = none ∧ Q k
def OkI (d : Nat) (Y : fM) (S : fW) (vs : List Value) (h : fH) (Q : Int32 → fH → Prop) : Prop := Ok d Y S vs h (f_PI Q)
def OkL (d : Nat) (Y : fM) (S : fW) (vs : List Value) (h : fH) (Q : Int64 → fH → Prop) : Prop := Ok d Y S vs h (f_PL Q)
def OkV (d : Nat) (Y : fM) (S : fW) (vs : List Value) (h : fH) (Q : fH → Prop) : Prop := Ok d Y S vs h (f_PV Q)
theorem Ok.post {d : Nat} {Y : fM} {S : fW} {vs : List Value} {h : fH} {P Q : Option Value → fH → Prop} (k : Ok d Y S vs h P) (hp : ∀ r k, P r k → Q r k) : Ok d Y S vs h Q := by
  intro l D cA σ A
  exact MetFree.mono (k l D cA σ A) (fun _ _ h => h) (fun _ _ _ _ _ h => h) (fun _ _ _ _ _ h => ⟨⟨(by obtain ⟨⟨r, h', c1, c2, c3⟩, c4⟩ := h.1; exact ⟨r, h', c1, hp r h' c2, c3⟩), h.1.2⟩, h.2⟩)
theorem OkI.post {d : Nat} {Y : fM} {S : fW} {vs : List Value} {h : fH} {P Q : Int32 → fH → Prop} (k : OkI d Y S vs h P) (hp : ∀ r k, P r k → Q r k) : OkI d Y S vs h Q := Ok.post k (fun _ _ ⟨x, e, z⟩ => ⟨x, e, hp x _ z⟩)
theorem OkL.post {d : Nat} {Y : fM} {S : fW} {vs : List Value} {h : fH} {P Q : Int64 → fH → Prop} (k : OkL d Y S vs h P) (hp : ∀ r k, P r k → Q r k) : OkL d Y S vs h Q := Ok.post k (fun _ _ ⟨x, e, z⟩ => ⟨x, e, hp x _ z⟩)
theorem OkV.post {d : Nat} {Y : fM} {S : fW} {vs : List Value} {h : fH} {P Q : fH → Prop} (k : OkV d Y S vs h P) (hp : ∀ k, P k → Q k) : OkV d Y S vs h Q := Ok.post k (fun _ _ ⟨e, z⟩ => ⟨e, hp _ z⟩)
abbrev mX0_init : fM := (yX0_init, cX0_init, 1, none)
theorem nX0_init : f_nm yX0_init 0 := by
  unfold f_nm
  decide +kernel
abbrev mX0_workParts : fM := (yX0_workParts, cX0_workParts, 6, none)
theorem nX0_workParts : f_nm yX0_workParts 3 := by
  unfold f_nm
  decide +kernel
abbrev mX0_join : fM := (yX0_join, cX0_join, 13, none)
theorem nX0_join : f_nm yX0_join 3 := by
  unfold f_nm
  decide +kernel
abbrev mX0_billionths : fM := (yX0_billionths, cX0_billionths, 13, some .long)
theorem nX0_billionths : f_nm yX0_billionths 2 := by
  unfold f_nm
  decide +kernel
abbrev mX0_lowest : fM := (yX0_lowest, cX0_lowest, 4, some .long)
theorem nX0_lowest : f_nm yX0_lowest 1 := by
  unfold f_nm
  decide +kernel
abbrev mX0_sharedDivisor : fM := (yX0_sharedDivisor, cX0_sharedDivisor, 11, some .long)
theorem nX0_sharedDivisor : f_nm yX0_sharedDivisor 2 := by
  unfold f_nm
  decide +kernel
abbrev mX1_init : fM := (yX1_init, cX1_init, 1, none)
theorem nX1_init : f_nm yX1_init 0 := by
  unfold f_nm
  decide +kernel
abbrev mX1_find : fM := (yX1_find, cX1_find, 2, none)
theorem nX1_find : f_nm yX1_find 1 := by
  unfold f_nm
  decide +kernel
abbrev mX1_extend : fM := (yX1_extend, cX1_extend, 8, none)
theorem nX1_extend : f_nm yX1_extend 3 := by
  unfold f_nm
  decide +kernel
abbrev mX1_note : fM := (yX1_note, cX1_note, 4, none)
theorem nX1_note : f_nm yX1_note 2 := by
  unfold f_nm
  decide +kernel
abbrev mX1_isPreferred : fM := (yX1_isPreferred, cX1_isPreferred, 9, some .boolean)
theorem nX1_isPreferred : f_nm yX1_isPreferred 3 := by
  unfold f_nm
  decide +kernel
abbrev mX2_init : fM := (yX2_init, cX2_init, 2, none)
theorem nX2_init : f_nm yX2_init 0 := by
  unfold f_nm
  decide +kernel
abbrev mX2_copyFrom : fM := (yX2_copyFrom, cX2_copyFrom, 2, none)
theorem nX2_copyFrom : f_nm yX2_copyFrom 1 := by
  unfold f_nm
  decide +kernel
abbrev mX3_init : fM := (yX3_init, cX3_init, 1, none)
theorem nX3_init : f_nm yX3_init 0 := by
  unfold f_nm
  decide +kernel
abbrev mX3_hold : fM := (yX3_hold, cX3_hold, 6, none)
theorem nX3_hold : f_nm yX3_hold 3 := by
  unfold f_nm
  decide +kernel
abbrev mX3_join : fM := (yX3_join, cX3_join, 12, some .boolean)
theorem nX3_join : f_nm yX3_join 3 := by
  unfold f_nm
  decide +kernel
abbrev mX3_lastZeros : fM := (yX3_lastZeros, cX3_lastZeros, 5, some .int)
theorem nX3_lastZeros : f_nm yX3_lastZeros 1 := by
  unfold f_nm
  decide +kernel
abbrev mX3_cut : fM := (yX3_cut, cX3_cut, 8, some .long)
theorem nX3_cut : f_nm yX3_cut 0 := by
  unfold f_nm
  decide +kernel
abbrev mX4_init : fM := (yX4_init, cX4_init, 1, none)
theorem nX4_init : f_nm yX4_init 0 := by
  unfold f_nm
  decide +kernel
abbrev mX4_turn : fM := (yX4_turn, cX4_turn, 3, none)
theorem nX4_turn : f_nm yX4_turn 2 := by
  unfold f_nm
  decide +kernel
abbrev mX4_of : fM := (yX4_of, cX4_of, 13, some .long)
theorem nX4_of : f_nm yX4_of 1 := by
  unfold f_nm
  decide +kernel
abbrev mX4_goesOn : fM := (yX4_goesOn, cX4_goesOn, 8, some .boolean)
theorem nX4_goesOn : f_nm yX4_goesOn 4 := by
  unfold f_nm
  decide +kernel
abbrev mX4_placed : fM := (yX4_placed, cX4_placed, 12, some .long)
theorem nX4_placed : f_nm yX4_placed 3 := by
  unfold f_nm
  decide +kernel
abbrev mX5_suits : fM := (yX5_suits, cX5_suits, 8, some .boolean)
theorem nX5_suits : f_nm yX5_suits 3 := by
  unfold f_nm
  decide +kernel
abbrev mX5_hasRoomToSpread : fM := (yX5_hasRoomToSpread, cX5_hasRoomToSpread, 3, some .boolean)
theorem nX5_hasRoomToSpread : f_nm yX5_hasRoomToSpread 2 := by
  unfold f_nm
  decide +kernel
abbrev mX5_sharesFactor : fM := (yX5_sharesFactor, cX5_sharesFactor, 2, some .boolean)
theorem nX5_sharesFactor : f_nm yX5_sharesFactor 2 := by
  unfold f_nm
  decide +kernel
abbrev mX5_isOfSquares : fM := (yX5_isOfSquares, cX5_isOfSquares, 3, some .boolean)
theorem nX5_isOfSquares : f_nm yX5_isOfSquares 2 := by
  unfold f_nm
  decide +kernel
abbrev mX5_write : fM := (yX5_write, cX5_write, 4, some .boolean)
theorem nX5_write : f_nm yX5_write 4 := by
  unfold f_nm
  decide +kernel
abbrev mX5_writeShift : fM := (yX5_writeShift, cX5_writeShift, 7, none)
theorem nX5_writeShift : f_nm yX5_writeShift 4 := by
  unfold f_nm
  decide +kernel
abbrev mX5_writeFactors : fM := (yX5_writeFactors, cX5_writeFactors, 6, none)
theorem nX5_writeFactors : f_nm yX5_writeFactors 4 := by
  unfold f_nm
  decide +kernel
abbrev mX6_init : fM := (yX6_init, cX6_init, 1, none)
theorem nX6_init : f_nm yX6_init 0 := by
  unfold f_nm
  decide +kernel
abbrev mX6_find : fM := (yX6_find, cX6_find, 5, none)
theorem nX6_find : f_nm yX6_find 2 := by
  unfold f_nm
  decide +kernel
abbrev mX6_changeAgain : fM := (yX6_changeAgain, cX6_changeAgain, 3, none)
theorem nX6_changeAgain : f_nm yX6_changeAgain 1 := by
  unfold f_nm
  decide +kernel
abbrev mX6_consider : fM := (yX6_consider, cX6_consider, 5, none)
theorem nX6_consider : f_nm yX6_consider 2 := by
  unfold f_nm
  decide +kernel
abbrev mX7_init : fM := (yX7_init, cX7_init, 1, none)
theorem nX7_init : f_nm yX7_init 0 := by
  unfold f_nm
  decide +kernel
abbrev mX7_bound : fM := (yX7_bound, cX7_bound, 6, none)
theorem nX7_bound : f_nm yX7_bound 1 := by
  unfold f_nm
  decide +kernel
abbrev mX7_join : fM := (yX7_join, cX7_join, 14, none)
theorem nX7_join : f_nm yX7_join 3 := by
  unfold f_nm
  decide +kernel
abbrev mX7_makeGreat : fM := (yX7_makeGreat, cX7_makeGreat, 2, none)
theorem nX7_makeGreat : f_nm yX7_makeGreat 1 := by
  unfold f_nm
  decide +kernel
abbrev mX7_widen : fM := (yX7_widen, cX7_widen, 11, some .boolean)
theorem nX7_widen : f_nm yX7_widen 4 := by
  unfold f_nm
  decide +kernel
abbrev mX7_findTruth : fM := (yX7_findTruth, cX7_findTruth, 7, none)
theorem nX7_findTruth : f_nm yX7_findTruth 1 := by
  unfold f_nm
  decide +kernel
abbrev mX7_startTrials : fM := (yX7_startTrials, cX7_startTrials, 5, some .int)
theorem nX7_startTrials : f_nm yX7_startTrials 1 := by
  unfold f_nm
  decide +kernel
abbrev mX7_nextTrial : fM := (yX7_nextTrial, cX7_nextTrial, 4, some .int)
theorem nX7_nextTrial : f_nm yX7_nextTrial 1 := by
  unfold f_nm
  decide +kernel
abbrev mX8_init : fM := (yX8_init, cX8_init, 1, none)
theorem nX8_init : f_nm yX8_init 0 := by
  unfold f_nm
  decide +kernel
abbrev mX8_work : fM := (yX8_work, cX8_work, 10, none)
theorem nX8_work : f_nm yX8_work 2 := by
  unfold f_nm
  decide +kernel
abbrev mX8_lossOf : fM := (yX8_lossOf, cX8_lossOf, 5, some .long)
theorem nX8_lossOf : f_nm yX8_lossOf 2 := by
  unfold f_nm
  decide +kernel
abbrev mX9_init : fM := (yX9_init, cX9_init, 1, none)
theorem nX9_init : f_nm yX9_init 0 := by
  unfold f_nm
  decide +kernel
abbrev mX9_take : fM := (yX9_take, cX9_take, 2, none)
theorem nX9_take : f_nm yX9_take 1 := by
  unfold f_nm
  decide +kernel
abbrev mX9_plus : fM := (yX9_plus, cX9_plus, 5, some .long)
theorem nX9_plus : f_nm yX9_plus 2 := by
  unfold f_nm
  decide +kernel
abbrev mX9_less : fM := (yX9_less, cX9_less, 5, some .long)
theorem nX9_less : f_nm yX9_less 2 := by
  unfold f_nm
  decide +kernel
abbrev mX9_whole : fM := (yX9_whole, cX9_whole, 4, some .long)
theorem nX9_whole : f_nm yX9_whole 0 := by
  unfold f_nm
  decide +kernel
abbrev mX9_asTold : fM := (yX9_asTold, cX9_asTold, 4, some .long)
theorem nX9_asTold : f_nm yX9_asTold 0 := by
  unfold f_nm
  decide +kernel
abbrev mX9_beside : fM := (yX9_beside, cX9_beside, 10, some .long)
theorem nX9_beside : f_nm yX9_beside 0 := by
  unfold f_nm
  decide +kernel
abbrev mX9_halves : fM := (yX9_halves, cX9_halves, 1, some .long)
theorem nX9_halves : f_nm yX9_halves 0 := by
  unfold f_nm
  decide +kernel
abbrev mX9_halfSum : fM := (yX9_halfSum, cX9_halfSum, 6, some .long)
theorem nX9_halfSum : f_nm yX9_halfSum 3 := by
  unfold f_nm
  decide +kernel
abbrev mX9_bySize : fM := (yX9_bySize, cX9_bySize, 4, some .long)
theorem nX9_bySize : f_nm yX9_bySize 0 := by
  unfold f_nm
  decide +kernel
abbrev mX9_insertBySize : fM := (yX9_insertBySize, cX9_insertBySize, 3, none)
theorem nX9_insertBySize : f_nm yX9_insertBySize 1 := by
  unfold f_nm
  decide +kernel
abbrev mX10_init : fM := (yX10_init, cX10_init, 1, none)
theorem nX10_init : f_nm yX10_init 0 := by
  unfold f_nm
  decide +kernel
abbrev mX10_copyFrom : fM := (yX10_copyFrom, cX10_copyFrom, 2, none)
theorem nX10_copyFrom : f_nm yX10_copyFrom 1 := by
  unfold f_nm
  decide +kernel
abbrev mX10_read : fM := (yX10_read, cX10_read, 4, none)
theorem nX10_read : f_nm yX10_read 2 := by
  unfold f_nm
  decide +kernel
abbrev mX10_add : fM := (yX10_add, cX10_add, 2, none)
theorem nX10_add : f_nm yX10_add 1 := by
  unfold f_nm
  decide +kernel
abbrev mX10_addPlaces : fM := (yX10_addPlaces, cX10_addPlaces, 5, none)
theorem nX10_addPlaces : f_nm yX10_addPlaces 3 := by
  unfold f_nm
  decide +kernel
abbrev mX10_addPart : fM := (yX10_addPart, cX10_addPart, 3, none)
theorem nX10_addPart : f_nm yX10_addPart 2 := by
  unfold f_nm
  decide +kernel
abbrev mX10_findParts : fM := (yX10_findParts, cX10_findParts, 3, none)
theorem nX10_findParts : f_nm yX10_findParts 0 := by
  unfold f_nm
  decide +kernel
abbrev mX10_has : fM := (yX10_has, cX10_has, 2, some .boolean)
theorem nX10_has : f_nm yX10_has 1 := by
  unfold f_nm
  decide +kernel
abbrev mX10_signAt : fM := (yX10_signAt, cX10_signAt, 2, some .int)
theorem nX10_signAt : f_nm yX10_signAt 1 := by
  unfold f_nm
  decide +kernel
abbrev mX10_endOf : fM := (yX10_endOf, cX10_endOf, 2, some .int)
theorem nX10_endOf : f_nm yX10_endOf 1 := by
  unfold f_nm
  decide +kernel
abbrev mX10_lettersOf : fM := (yX10_lettersOf, cX10_lettersOf, 2, some .int)
theorem nX10_lettersOf : f_nm yX10_lettersOf 1 := by
  unfold f_nm
  decide +kernel
abbrev mX10_secondOf : fM := (yX10_secondOf, cX10_secondOf, 2, some .int)
theorem nX10_secondOf : f_nm yX10_secondOf 1 := by
  unfold f_nm
  decide +kernel
abbrev mX10_areAlike : fM := (yX10_areAlike, cX10_areAlike, 5, some .boolean)
theorem nX10_areAlike : f_nm yX10_areAlike 2 := by
  unfold f_nm
  decide +kernel
abbrev mX11_init : fM := (yX11_init, cX11_init, 1, none)
theorem nX11_init : f_nm yX11_init 0 := by
  unfold f_nm
  decide +kernel
abbrev mX11_set : fM := (yX11_set, cX11_set, 4, some .int)
theorem nX11_set : f_nm yX11_set 2 := by
  unfold f_nm
  decide +kernel
abbrev mX11_round : fM := (yX11_round, cX11_round, 4, some .long)
theorem nX11_round : f_nm yX11_round 3 := by
  unfold f_nm
  decide +kernel
abbrev mX11_say : fM := (yX11_say, cX11_say, 2, some .int)
theorem nX11_say : f_nm yX11_say 1 := by
  unfold f_nm
  decide +kernel
abbrev mX11_wipe : fM := (yX11_wipe, cX11_wipe, 2, some .int)
theorem nX11_wipe : f_nm yX11_wipe 0 := by
  unfold f_nm
  decide +kernel
abbrev mX11_fault : fM := (yX11_fault, cX11_fault, 3, some .int)
theorem nX11_fault : f_nm yX11_fault 0 := by
  unfold f_nm
  decide +kernel
abbrev mX11_text : fM := (yX11_text, cX11_text, 1, some .int)
theorem nX11_text : f_nm yX11_text 0 := by
  unfold f_nm
  decide +kernel
abbrev mX11_sign : fM := (yX11_sign, cX11_sign, 2, some .int)
theorem nX11_sign : f_nm yX11_sign 1 := by
  unfold f_nm
  decide +kernel
abbrev mX11_put : fM := (yX11_put, cX11_put, 5, some .int)
theorem nX11_put : f_nm yX11_put 3 := by
  unfold f_nm
  decide +kernel
abbrev mX11_worked : fM := (yX11_worked, cX11_worked, 3, some .long)
theorem nX11_worked : f_nm yX11_worked 2 := by
  unfold f_nm
  decide +kernel
abbrev mX11_exact : fM := (yX11_exact, cX11_exact, 2, some .long)
theorem nX11_exact : f_nm yX11_exact 1 := by
  unfold f_nm
  decide +kernel
abbrev mX11_loss : fM := (yX11_loss, cX11_loss, 1, some .long)
theorem nX11_loss : f_nm yX11_loss 0 := by
  unfold f_nm
  decide +kernel
abbrev mX11_worst : fM := (yX11_worst, cX11_worst, 7, some .int)
theorem nX11_worst : f_nm yX11_worst 0 := by
  unfold f_nm
  decide +kernel
abbrev mX11_needs : fM := (yX11_needs, cX11_needs, 6, some .int)
theorem nX11_needs : f_nm yX11_needs 1 := by
  unfold f_nm
  decide +kernel
abbrev mX11_term : fM := (yX11_term, cX11_term, 5, some .int)
theorem nX11_term : f_nm yX11_term 1 := by
  unfold f_nm
  decide +kernel
abbrev mX11_clear : fM := (yX11_clear, cX11_clear, 2, some .int)
theorem nX11_clear : f_nm yX11_clear 0 := by
  unfold f_nm
  decide +kernel
abbrev mX11_about : fM := (yX11_about, cX11_about, 2, some .long)
theorem nX11_about : f_nm yX11_about 1 := by
  unfold f_nm
  decide +kernel
abbrev mX11_sum : fM := (yX11_sum, cX11_sum, 2, some .long)
theorem nX11_sum : f_nm yX11_sum 1 := by
  unfold f_nm
  decide +kernel
abbrev mX11_orders : fM := (yX11_orders, cX11_orders, 2, some .long)
theorem nX11_orders : f_nm yX11_orders 1 := by
  unfold f_nm
  decide +kernel
abbrev mX11_order : fM := (yX11_order, cX11_order, 3, some .int)
theorem nX11_order : f_nm yX11_order 2 := by
  unfold f_nm
  decide +kernel
abbrev mX11_bounds : fM := (yX11_bounds, cX11_bounds, 2, some .long)
theorem nX11_bounds : f_nm yX11_bounds 1 := by
  unfold f_nm
  decide +kernel
abbrev mX11_truth : fM := (yX11_truth, cX11_truth, 2, some .long)
theorem nX11_truth : f_nm yX11_truth 1 := by
  unfold f_nm
  decide +kernel
abbrev mX11_fits : fM := (yX11_fits, cX11_fits, 3, some .int)
theorem nX11_fits : f_nm yX11_fits 2 := by
  unfold f_nm
  decide +kernel
abbrev mX11_change : fM := (yX11_change, cX11_change, 3, some .int)
theorem nX11_change : f_nm yX11_change 2 := by
  unfold f_nm
  decide +kernel
abbrev mX11_better : fM := (yX11_better, cX11_better, 2, some .long)
theorem nX11_better : f_nm yX11_better 1 := by
  unfold f_nm
  decide +kernel
abbrev mX11_betterSign : fM := (yX11_betterSign, cX11_betterSign, 3, some .int)
theorem nX11_betterSign : f_nm yX11_betterSign 2 := by
  unfold f_nm
  decide +kernel
abbrev mX11_image : fM := (yX11_image, cX11_image, 3, some .int)
theorem nX11_image : f_nm yX11_image 1 := by
  unfold f_nm
  decide +kernel
abbrev mX11_restore : fM := (yX11_restore, cX11_restore, 3, some .int)
theorem nX11_restore : f_nm yX11_restore 1 := by
  unfold f_nm
  decide +kernel
abbrev mX11_told : fM := (yX11_told, cX11_told, 2, some .int)
theorem nX11_told : f_nm yX11_told 1 := by
  unfold f_nm
  decide +kernel
abbrev mX11_workNow : fM := (yX11_workNow, cX11_workNow, 1, none)
theorem nX11_workNow : f_nm yX11_workNow 0 := by
  unfold f_nm
  decide +kernel
abbrev mX11_forgetFindings : fM := (yX11_forgetFindings, cX11_forgetFindings, 1, none)
theorem nX11_forgetFindings : f_nm yX11_forgetFindings 0 := by
  unfold f_nm
  decide +kernel
abbrev mX11_isOperator : fM := (yX11_isOperator, cX11_isOperator, 1, some .boolean)
theorem nX11_isOperator : f_nm yX11_isOperator 1 := by
  unfold f_nm
  decide +kernel
abbrev mX11_isLetter : fM := (yX11_isLetter, cX11_isLetter, 1, some .boolean)
theorem nX11_isLetter : f_nm yX11_isLetter 1 := by
  unfold f_nm
  decide +kernel
abbrev mX11_isDigit : fM := (yX11_isDigit, cX11_isDigit, 1, some .boolean)
theorem nX11_isDigit : f_nm yX11_isDigit 1 := by
  unfold f_nm
  decide +kernel
abbrev mX11_numberOf : fM := (yX11_numberOf, cX11_numberOf, 3, some .int)
theorem nX11_numberOf : f_nm yX11_numberOf 2 := by
  unfold f_nm
  decide +kernel
abbrev mX11_at : fM := (yX11_at, cX11_at, 2, some .long)
theorem nX11_at : f_nm yX11_at 2 := by
  unfold f_nm
  decide +kernel
abbrev mX12_init : fM := (yX12_init, cX12_init, 2, none)
theorem nX12_init : f_nm yX12_init 0 := by
  unfold f_nm
  decide +kernel
abbrev mX12_in : fM := (yX12_in, cX12_in, 6, some .boolean)
theorem nX12_in : f_nm yX12_in 3 := by
  unfold f_nm
  decide +kernel
abbrev mX12_isEnd : fM := (yX12_isEnd, cX12_isEnd, 1, some .boolean)
theorem nX12_isEnd : f_nm yX12_isEnd 1 := by
  unfold f_nm
  decide +kernel
abbrev mX12_size : fM := (yX12_size, cX12_size, 2, some .long)
theorem nX12_size : f_nm yX12_size 1 := by
  unfold f_nm
  decide +kernel
abbrev mX12_power : fM := (yX12_power, cX12_power, 4, some .long)
theorem nX12_power : f_nm yX12_power 1 := by
  unfold f_nm
  decide +kernel
abbrev mX12_rounded : fM := (yX12_rounded, cX12_rounded, 21, some .long)
theorem nX12_rounded : f_nm yX12_rounded 6 := by
  unfold f_nm
  decide +kernel
abbrev mX12_roundOf : fM := (yX12_roundOf, cX12_roundOf, 5, some .long)
theorem nX12_roundOf : f_nm yX12_roundOf 3 := by
  unfold f_nm
  decide +kernel
abbrev mX12_shorten : fM := (yX12_shorten, cX12_shorten, 3, none)
theorem nX12_shorten : f_nm yX12_shorten 1 := by
  unfold f_nm
  decide +kernel
abbrev mX12_layBoth : fM := (yX12_layBoth, cX12_layBoth, 9, none)
theorem nX12_layBoth : f_nm yX12_layBoth 3 := by
  unfold f_nm
  decide +kernel
abbrev mX12_made : fM := (yX12_made, cX12_made, 8, some .long)
theorem nX12_made : f_nm yX12_made 5 := by
  unfold f_nm
  decide +kernel
abbrev mX12_whole : fM := (yX12_whole, cX12_whole, 12, some .long)
theorem nX12_whole : f_nm yX12_whole 3 := by
  unfold f_nm
  decide +kernel
abbrev mX12_set : fM := (yX12_set, cX12_set, 4, some .int)
theorem nX12_set : f_nm yX12_set 2 := by
  unfold f_nm
  decide +kernel
abbrev mX12_round : fM := (yX12_round, cX12_round, 4, some .long)
theorem nX12_round : f_nm yX12_round 3 := by
  unfold f_nm
  decide +kernel
abbrev mX12_say : fM := (yX12_say, cX12_say, 2, some .int)
theorem nX12_say : f_nm yX12_say 1 := by
  unfold f_nm
  decide +kernel
abbrev mX12_wipe : fM := (yX12_wipe, cX12_wipe, 2, some .int)
theorem nX12_wipe : f_nm yX12_wipe 0 := by
  unfold f_nm
  decide +kernel
abbrev mX12_isSign : fM := (yX12_isSign, cX12_isSign, 1, some .boolean)
theorem nX12_isSign : f_nm yX12_isSign 1 := by
  unfold f_nm
  decide +kernel
abbrev mX12_isLetter : fM := (yX12_isLetter, cX12_isLetter, 1, some .boolean)
theorem nX12_isLetter : f_nm yX12_isLetter 1 := by
  unfold f_nm
  decide +kernel
abbrev mX12_isDigit : fM := (yX12_isDigit, cX12_isDigit, 1, some .boolean)
theorem nX12_isDigit : f_nm yX12_isDigit 1 := by
  unfold f_nm
  decide +kernel
abbrev mX12_fault : fM := (yX12_fault, cX12_fault, 4, some .int)
theorem nX12_fault : f_nm yX12_fault 0 := by
  unfold f_nm
  decide +kernel
abbrev mX12_text : fM := (yX12_text, cX12_text, 2, some .int)
theorem nX12_text : f_nm yX12_text 0 := by
  unfold f_nm
  decide +kernel
abbrev mX12_isStep : fM := (yX12_isStep, cX12_isStep, 2, some .boolean)
theorem nX12_isStep : f_nm yX12_isStep 1 := by
  unfold f_nm
  decide +kernel
abbrev mX12_sign : fM := (yX12_sign, cX12_sign, 2, some .int)
theorem nX12_sign : f_nm yX12_sign 1 := by
  unfold f_nm
  decide +kernel
abbrev mX12_put : fM := (yX12_put, cX12_put, 5, some .int)
theorem nX12_put : f_nm yX12_put 3 := by
  unfold f_nm
  decide +kernel
abbrev mX12_layText : fM := (yX12_layText, cX12_layText, 2, none)
theorem nX12_layText : f_nm yX12_layText 0 := by
  unfold f_nm
  decide +kernel
abbrev mX12_findSizes : fM := (yX12_findSizes, cX12_findSizes, 3, none)
theorem nX12_findSizes : f_nm yX12_findSizes 0 := by
  unfold f_nm
  decide +kernel
abbrev mX12_wholeAt : fM := (yX12_wholeAt, cX12_wholeAt, 2, some .int)
theorem nX12_wholeAt : f_nm yX12_wholeAt 1 := by
  unfold f_nm
  decide +kernel
abbrev mX12_work : fM := (yX12_work, cX12_work, 6, none)
theorem nX12_work : f_nm yX12_work 0 := by
  unfold f_nm
  decide +kernel
abbrev mX12_common : fM := (yX12_common, cX12_common, 10, some .long)
theorem nX12_common : f_nm yX12_common 2 := by
  unfold f_nm
  decide +kernel
abbrev mX12_layExact : fM := (yX12_layExact, cX12_layExact, 8, none)
theorem nX12_layExact : f_nm yX12_layExact 3 := by
  unfold f_nm
  decide +kernel
abbrev mX12_workExact : fM := (yX12_workExact, cX12_workExact, 12, none)
theorem nX12_workExact : f_nm yX12_workExact 0 := by
  unfold f_nm
  decide +kernel
abbrev mX12_billionths : fM := (yX12_billionths, cX12_billionths, 13, some .long)
theorem nX12_billionths : f_nm yX12_billionths 2 := by
  unfold f_nm
  decide +kernel
abbrev mX12_less : fM := (yX12_less, cX12_less, 4, some .long)
theorem nX12_less : f_nm yX12_less 2 := by
  unfold f_nm
  decide +kernel
abbrev mX12_worked : fM := (yX12_worked, cX12_worked, 3, some .long)
theorem nX12_worked : f_nm yX12_worked 2 := by
  unfold f_nm
  decide +kernel
abbrev mX12_exact : fM := (yX12_exact, cX12_exact, 2, some .long)
theorem nX12_exact : f_nm yX12_exact 1 := by
  unfold f_nm
  decide +kernel
abbrev mX12_lossNow : fM := (yX12_lossNow, cX12_lossNow, 3, some .long)
theorem nX12_lossNow : f_nm yX12_lossNow 0 := by
  unfold f_nm
  decide +kernel
abbrev mX12_loss : fM := (yX12_loss, cX12_loss, 1, some .long)
theorem nX12_loss : f_nm yX12_loss 0 := by
  unfold f_nm
  decide +kernel
abbrev mX12_worst : fM := (yX12_worst, cX12_worst, 5, some .int)
theorem nX12_worst : f_nm yX12_worst 0 := by
  unfold f_nm
  decide +kernel
abbrev mX12_needs : fM := (yX12_needs, cX12_needs, 8, some .int)
theorem nX12_needs : f_nm yX12_needs 1 := by
  unfold f_nm
  decide +kernel
abbrev mX12_term : fM := (yX12_term, cX12_term, 5, some .int)
theorem nX12_term : f_nm yX12_term 1 := by
  unfold f_nm
  decide +kernel
abbrev mX12_clear : fM := (yX12_clear, cX12_clear, 2, some .int)
theorem nX12_clear : f_nm yX12_clear 0 := by
  unfold f_nm
  decide +kernel
abbrev mX12_about : fM := (yX12_about, cX12_about, 2, some .long)
theorem nX12_about : f_nm yX12_about 1 := by
  unfold f_nm
  decide +kernel
abbrev mX12_layOrder : fM := (yX12_layOrder, cX12_layOrder, 2, none)
theorem nX12_layOrder : f_nm yX12_layOrder 0 := by
  unfold f_nm
  decide +kernel
abbrev mX12_sumOf : fM := (yX12_sumOf, cX12_sumOf, 6, some .long)
theorem nX12_sumOf : f_nm yX12_sumOf 2 := by
  unfold f_nm
  decide +kernel
abbrev mX12_wholeSum : fM := (yX12_wholeSum, cX12_wholeSum, 4, some .long)
theorem nX12_wholeSum : f_nm yX12_wholeSum 0 := by
  unfold f_nm
  decide +kernel
abbrev mX12_beside : fM := (yX12_beside, cX12_beside, 10, some .long)
theorem nX12_beside : f_nm yX12_beside 0 := by
  unfold f_nm
  decide +kernel
abbrev mX12_halfOf : fM := (yX12_halfOf, cX12_halfOf, 3, some .long)
theorem nX12_halfOf : f_nm yX12_halfOf 2 := by
  unfold f_nm
  decide +kernel
abbrev mX12_halves : fM := (yX12_halves, cX12_halves, 4, some .long)
theorem nX12_halves : f_nm yX12_halves 0 := by
  unfold f_nm
  decide +kernel
abbrev mX12_orderBySize : fM := (yX12_orderBySize, cX12_orderBySize, 4, none)
theorem nX12_orderBySize : f_nm yX12_orderBySize 0 := by
  unfold f_nm
  decide +kernel
abbrev mX12_sum : fM := (yX12_sum, cX12_sum, 2, some .long)
theorem nX12_sum : f_nm yX12_sum 1 := by
  unfold f_nm
  decide +kernel
abbrev mX12_nextOrder : fM := (yX12_nextOrder, cX12_nextOrder, 6, some .boolean)
theorem nX12_nextOrder : f_nm yX12_nextOrder 0 := by
  unfold f_nm
  decide +kernel
abbrev mX12_isBetter : fM := (yX12_isBetter, cX12_isBetter, 8, some .boolean)
theorem nX12_isBetter : f_nm yX12_isBetter 2 := by
  unfold f_nm
  decide +kernel
abbrev mX12_findOrders : fM := (yX12_findOrders, cX12_findOrders, 10, none)
theorem nX12_findOrders : f_nm yX12_findOrders 1 := by
  unfold f_nm
  decide +kernel
abbrev mX12_orders : fM := (yX12_orders, cX12_orders, 2, some .long)
theorem nX12_orders : f_nm yX12_orders 1 := by
  unfold f_nm
  decide +kernel
abbrev mX12_order : fM := (yX12_order, cX12_order, 3, some .int)
theorem nX12_order : f_nm yX12_order 2 := by
  unfold f_nm
  decide +kernel
abbrev mX12_layEnds : fM := (yX12_layEnds, cX12_layEnds, 6, none)
theorem nX12_layEnds : f_nm yX12_layEnds 3 := by
  unfold f_nm
  decide +kernel
abbrev mX12_ofPairs : fM := (yX12_ofPairs, cX12_ofPairs, 10, some .long)
theorem nX12_ofPairs : f_nm yX12_ofPairs 4 := by
  unfold f_nm
  decide +kernel
abbrev mX12_findEnds : fM := (yX12_findEnds, cX12_findEnds, 7, none)
theorem nX12_findEnds : f_nm yX12_findEnds 0 := by
  unfold f_nm
  decide +kernel
abbrev mX12_bounds : fM := (yX12_bounds, cX12_bounds, 2, some .long)
theorem nX12_bounds : f_nm yX12_bounds 1 := by
  unfold f_nm
  decide +kernel
abbrev mX12_isIn : fM := (yX12_isIn, cX12_isIn, 4, some .boolean)
theorem nX12_isIn : f_nm yX12_isIn 1 := by
  unfold f_nm
  decide +kernel
abbrev mX12_nextNumbers : fM := (yX12_nextNumbers, cX12_nextNumbers, 2, some .boolean)
theorem nX12_nextNumbers : f_nm yX12_nextNumbers 0 := by
  unfold f_nm
  decide +kernel
abbrev mX12_truthOf : fM := (yX12_truthOf, cX12_truthOf, 9, some .long)
theorem nX12_truthOf : f_nm yX12_truthOf 1 := by
  unfold f_nm
  decide +kernel
abbrev mX12_truth : fM := (yX12_truth, cX12_truth, 2, some .long)
theorem nX12_truth : f_nm yX12_truth 1 := by
  unfold f_nm
  decide +kernel
abbrev mX12_add : fM := (yX12_add, cX12_add, 2, none)
theorem nX12_add : f_nm yX12_add 1 := by
  unfold f_nm
  decide +kernel
abbrev mX12_addPart : fM := (yX12_addPart, cX12_addPart, 3, none)
theorem nX12_addPart : f_nm yX12_addPart 1 := by
  unfold f_nm
  decide +kernel
abbrev mX12_isSame : fM := (yX12_isSame, cX12_isSame, 5, some .boolean)
theorem nX12_isSame : f_nm yX12_isSame 2 := by
  unfold f_nm
  decide +kernel
abbrev mX12_hasSigns : fM := (yX12_hasSigns, cX12_hasSigns, 5, some .boolean)
theorem nX12_hasSigns : f_nm yX12_hasSigns 4 := by
  unfold f_nm
  decide +kernel
abbrev mX12_build : fM := (yX12_build, cX12_build, 7, some .boolean)
theorem nX12_build : f_nm yX12_build 2 := by
  unfold f_nm
  decide +kernel
abbrev mX12_buildPart : fM := (yX12_buildPart, cX12_buildPart, 5, none)
theorem nX12_buildPart : f_nm yX12_buildPart 4 := by
  unfold f_nm
  decide +kernel
abbrev mX12_isRule : fM := (yX12_isRule, cX12_isRule, 1, some .boolean)
theorem nX12_isRule : f_nm yX12_isRule 1 := by
  unfold f_nm
  decide +kernel
abbrev mX12_fits : fM := (yX12_fits, cX12_fits, 3, some .int)
theorem nX12_fits : f_nm yX12_fits 2 := by
  unfold f_nm
  decide +kernel
abbrev mX12_change : fM := (yX12_change, cX12_change, 4, some .int)
theorem nX12_change : f_nm yX12_change 2 := by
  unfold f_nm
  decide +kernel
abbrev mX12_hold : fM := (yX12_hold, cX12_hold, 4, none)
theorem nX12_hold : f_nm yX12_hold 0 := by
  unfold f_nm
  decide +kernel
abbrev mX12_layBuilt : fM := (yX12_layBuilt, cX12_layBuilt, 2, none)
theorem nX12_layBuilt : f_nm yX12_layBuilt 0 := by
  unfold f_nm
  decide +kernel
abbrev mX12_layBase : fM := (yX12_layBase, cX12_layBase, 2, none)
theorem nX12_layBase : f_nm yX12_layBase 0 := by
  unfold f_nm
  decide +kernel
abbrev mX12_keepBase : fM := (yX12_keepBase, cX12_keepBase, 2, none)
theorem nX12_keepBase : f_nm yX12_keepBase 0 := by
  unfold f_nm
  decide +kernel
abbrev mX12_holdAll : fM := (yX12_holdAll, cX12_holdAll, 4, none)
theorem nX12_holdAll : f_nm yX12_holdAll 0 := by
  unfold f_nm
  decide +kernel
abbrev mX12_findBetter : fM := (yX12_findBetter, cX12_findBetter, 4, none)
theorem nX12_findBetter : f_nm yX12_findBetter 1 := by
  unfold f_nm
  decide +kernel
abbrev mX12_better : fM := (yX12_better, cX12_better, 2, some .long)
theorem nX12_better : f_nm yX12_better 1 := by
  unfold f_nm
  decide +kernel
abbrev mX12_betterSign : fM := (yX12_betterSign, cX12_betterSign, 3, some .int)
theorem nX12_betterSign : f_nm yX12_betterSign 2 := by
  unfold f_nm
  decide +kernel
abbrev mX12_pass : fM := (yX12_pass, cX12_pass, 5, some .long)
theorem nX12_pass : f_nm yX12_pass 1 := by
  unfold f_nm
  decide +kernel
abbrev mX12_passAll : fM := (yX12_passAll, cX12_passAll, 2, none)
theorem nX12_passAll : f_nm yX12_passAll 0 := by
  unfold f_nm
  decide +kernel
abbrev mX12_image : fM := (yX12_image, cX12_image, 2, some .int)
theorem nX12_image : f_nm yX12_image 1 := by
  unfold f_nm
  decide +kernel
abbrev mX12_restore : fM := (yX12_restore, cX12_restore, 2, some .int)
theorem nX12_restore : f_nm yX12_restore 1 := by
  unfold f_nm
  decide +kernel
abbrev mX12_told : fM := (yX12_told, cX12_told, 2, some .int)
theorem nX12_told : f_nm yX12_told 1 := by
  unfold f_nm
  decide +kernel
end
section
theorem G_tabEq {Y : fM} {d : Nat} {S : fW} {Post : Option Value → fH → Prop} {pc : Nat} {lv : List (Nat × Value)} {st : List Value} {h : fH} {dflt lo hi off : Int} {offs : Array Int} {len tgt : Nat} {x v : Int32} (hd : decode Y.2.1 pc = .ok (.tableswitch dflt lo hi offs, len)) (hx : x = v) (h1 : ¬ v.toInt < lo) (h2 : ¬ hi < v.toInt) (ho : offs[(v.toInt - lo).toNat]? = some off) (ht : (pc : Int) + off = (tgt : Int)) (k : G Y d S Post tgt lv st h) : G Y d S Post pc lv (.int x :: st) h := by
  subst hx
  exact G_tabIn hd h1 h2 ho ht k
theorem f_tab_in {x : Int32} {n : Nat} (hn : n < 2 ^ 31) (h : ∀ j : Nat, j < n → ¬ x = nI j) : x.toInt < (0 : Int) ∨ ((n : Int) - 1) < x.toInt := by
  by_cases a : x.toInt < 0
  · exact Or.inl a
  · by_cases b : ((n : Int) - 1) < x.toInt
    · exact Or.inr b
    · obtain ⟨j, hj, e⟩ := vp_in_of (vp_in_iff.mpr ⟨by omega, by omega⟩ : vp_in x n) hn
      exact absurd e (h j hj)
theorem f_tab4 {x : Int32} (c0 : ¬ x = (0 : Int32)) (c1 : ¬ x = (1 : Int32)) (c2 : ¬ x = (2 : Int32)) (c3 : ¬ x = (3 : Int32)) : x.toInt < (0 : Int) ∨ (3 : Int) < x.toInt := by
  refine f_tab_in (n := 4) (by decide) (fun j hj => ?_)
  rcases (show j = 0 ∨ j = 1 ∨ j = 2 ∨ j = 3 by omega) with rfl | rfl | rfl | rfl <;> assumption
theorem f_tab5 {x : Int32} (c0 : ¬ x = (0 : Int32)) (c1 : ¬ x = (1 : Int32)) (c2 : ¬ x = (2 : Int32)) (c3 : ¬ x = (3 : Int32)) (c4 : ¬ x = (4 : Int32)) : x.toInt < (0 : Int) ∨ (4 : Int) < x.toInt := by
  refine f_tab_in (n := 5) (by decide) (fun j hj => ?_)
  rcases (show j = 0 ∨ j = 1 ∨ j = 2 ∨ j = 3 ∨ j = 4 by omega) with rfl | rfl | rfl | rfl | rfl <;> assumption
theorem f_tab7 {x : Int32} (c0 : ¬ x = (0 : Int32)) (c1 : ¬ x = (1 : Int32)) (c2 : ¬ x = (2 : Int32)) (c3 : ¬ x = (3 : Int32)) (c4 : ¬ x = (4 : Int32)) (c5 : ¬ x = (5 : Int32)) (c6 : ¬ x = (6 : Int32)) : x.toInt < (0 : Int) ∨ (6 : Int) < x.toInt := by
  refine f_tab_in (n := 7) (by decide) (fun j hj => ?_)
  rcases (show j = 0 ∨ j = 1 ∨ j = 2 ∨ j = 3 ∨ j = 4 ∨ j = 5 ∨ j = 6 by omega) with rfl | rfl | rfl | rfl | rfl | rfl | rfl <;> assumption
theorem f_tab28 {x : Int32} (c0 : ¬ x = (0 : Int32)) (c1 : ¬ x = (1 : Int32)) (c2 : ¬ x = (2 : Int32)) (c3 : ¬ x = (3 : Int32)) (c4 : ¬ x = (4 : Int32)) (c5 : ¬ x = (5 : Int32)) (c6 : ¬ x = (6 : Int32)) (c7 : ¬ x = (7 : Int32)) (c8 : ¬ x = (8 : Int32)) (c9 : ¬ x = (9 : Int32)) (c10 : ¬ x = (10 : Int32)) (c11 : ¬ x = (11 : Int32)) (c12 : ¬ x = (12 : Int32)) (c13 : ¬ x = (13 : Int32)) (c14 : ¬ x = (14 : Int32)) (c15 : ¬ x = (15 : Int32)) (c16 : ¬ x = (16 : Int32)) (c17 : ¬ x = (17 : Int32)) (c18 : ¬ x = (18 : Int32)) (c19 : ¬ x = (19 : Int32)) (c20 : ¬ x = (20 : Int32)) (c21 : ¬ x = (21 : Int32)) (c22 : ¬ x = (22 : Int32)) (c23 : ¬ x = (23 : Int32)) (c24 : ¬ x = (24 : Int32)) (c25 : ¬ x = (25 : Int32)) (c26 : ¬ x = (26 : Int32)) (c27 : ¬ x = (27 : Int32)) : x.toInt < (0 : Int) ∨ (27 : Int) < x.toInt := by
  refine f_tab_in (n := 28) (by decide) (fun j hj => ?_)
  rcases (show j = 0 ∨ j = 1 ∨ j = 2 ∨ j = 3 ∨ j = 4 ∨ j = 5 ∨ j = 6 ∨ j = 7 ∨ j = 8 ∨ j = 9 ∨ j = 10 ∨ j = 11 ∨ j = 12 ∨ j = 13 ∨ j = 14 ∨ j = 15 ∨ j = 16 ∨ j = 17 ∨ j = 18 ∨ j = 19 ∨ j = 20 ∨ j = 21 ∨ j = 22 ∨ j = 23 ∨ j = 24 ∨ j = 25 ∨ j = 26 ∨ j = 27 by omega) with rfl | rfl | rfl | rfl | rfl | rfl | rfl | rfl | rfl | rfl | rfl | rfl | rfl | rfl | rfl | rfl | rfl | rfl | rfl | rfl | rfl | rfl | rfl | rfl | rfl | rfl | rfl | rfl <;> assumption
end
section
-- LostDigits$Ratio.hold
theorem dX3_hold_0 : decode cX3_hold 0 = .ok (.aload_n 0, 1) := by decide +kernel
theorem dX3_hold_1 : decode cX3_hold 1 = .ok (.lload_n 1, 1) := by decide +kernel
theorem dX3_hold_2 : decode cX3_hold 2 = .ok (.putfield 9, 3) := by decide +kernel
theorem dX3_hold_5 : decode cX3_hold 5 = .ok (.aload_n 0, 1) := by decide +kernel
theorem dX3_hold_6 : decode cX3_hold 6 = .ok (.lload_n 3, 1) := by decide +kernel
theorem dX3_hold_7 : decode cX3_hold 7 = .ok (.putfield 15, 3) := by decide +kernel
theorem dX3_hold_10 : decode cX3_hold 10 = .ok (.aload_n 0, 1) := by decide +kernel
theorem dX3_hold_11 : decode cX3_hold 11 = .ok (.iload 5, 2) := by decide +kernel
theorem dX3_hold_13 : decode cX3_hold 13 = .ok (.putfield 18, 3) := by decide +kernel
theorem dX3_hold_16 : decode cX3_hold 16 = .ok (.return_, 1) := by decide +kernel

set_option maxRecDepth 10000 in
theorem TX3_hold_0 {d : Nat} {S : fW} {h : fH} {Q : fH → Prop} {r0 : Nat} {x1 : Int64} {x3 : Int64} {x5 : Int32}  
    (hs1 : (r0, shX3) ∈ S)
    (k1 : Q (u_fi (u_fl (u_fl h r0 0 x1) r0 1 x3) r0 2 x5)) :
    OkV d mX3_hold S [.ref r0, .long x1, .long x3, .int x5] h Q := by
  refine Ok.of (by decide) (Nat.le_of_ble_eq_true rfl) ?_
  refine G_aload_n 0 rfl dX3_hold_0 rfl ?_
  refine G_lload_n 1 rfl dX3_hold_1 rfl ?_
  refine G_putl (k := 0) tyX3 hs1 (q := (RX3, TX3, 3)) rfl inX3 tyX3_ok nmX3 (by decide) rfl rfl rfl hF_X3_9 dX3_hold_2 ?_
  refine G_aload_n 0 rfl dX3_hold_5 rfl ?_
  refine G_lload_n 2 rfl dX3_hold_6 rfl ?_
  refine G_putl (k := 1) tyX3 hs1 (q := (RX3, TX3, 3)) rfl inX3 tyX3_ok nmX3 (by decide) rfl rfl rfl hF_X3_15 dX3_hold_7 ?_
  refine G_aload_n 0 rfl dX3_hold_10 rfl ?_
  refine G_iload 3 rfl dX3_hold_11 ?_
  refine G_puti (k := 2) tyX3 hs1 (q := (RX3, TX3, 3)) rfl inX3 tyX3_ok nmX3 (by decide) rfl rfl rfl hF_X3_18 dX3_hold_13 ?_
  exact G_vret rfl dX3_hold_16 ⟨rfl, (k1)⟩

-- LostDigits$Ratio.join
theorem dX3_join_0 : decode cX3_join 0 = .ok (.iload_n 1, 1) := by decide +kernel
theorem dX3_join_1 : decode cX3_join 1 = .ok (.bipush 43, 2) := by decide +kernel
theorem dX3_join_3 : decode cX3_join 3 = .ok (.if_icmp .eq 9, 3) := by decide +kernel
theorem dX3_join_6 : decode cX3_join 6 = .ok (.iload_n 1, 1) := by decide +kernel
theorem dX3_join_7 : decode cX3_join 7 = .ok (.bipush 45, 2) := by decide +kernel
theorem dX3_join_9 : decode cX3_join 9 = .ok (.if_icmp .ne 28, 3) := by decide +kernel
theorem dX3_join_12 : decode cX3_join 12 = .ok (.aload_n 0, 1) := by decide +kernel
theorem dX3_join_13 : decode cX3_join 13 = .ok (.iload_n 1, 1) := by decide +kernel
theorem dX3_join_14 : decode cX3_join 14 = .ok (.bipush 43, 2) := by decide +kernel
theorem dX3_join_16 : decode cX3_join 16 = .ok (.if_icmp .ne 10, 3) := by decide +kernel
theorem dX3_join_19 : decode cX3_join 19 = .ok (.lload_n 2, 1) := by decide +kernel
theorem dX3_join_20 : decode cX3_join 20 = .ok (.lload 4, 2) := by decide +kernel
theorem dX3_join_22 : decode cX3_join 22 = .ok (.ladd, 1) := by decide +kernel
theorem dX3_join_23 : decode cX3_join 23 = .ok (.goto 7, 3) := by decide +kernel
theorem dX3_join_26 : decode cX3_join 26 = .ok (.lload_n 2, 1) := by decide +kernel
theorem dX3_join_27 : decode cX3_join 27 = .ok (.lload 4, 2) := by decide +kernel
theorem dX3_join_29 : decode cX3_join 29 = .ok (.lsub, 1) := by decide +kernel
theorem dX3_join_30 : decode cX3_join 30 = .ok (.lconst 1, 1) := by decide +kernel
theorem dX3_join_31 : decode cX3_join 31 = .ok (.iconst 0, 1) := by decide +kernel
theorem dX3_join_32 : decode cX3_join 32 = .ok (.invokevirtual 22, 3) := by decide +kernel
theorem dX3_join_35 : decode cX3_join 35 = .ok (.iconst 1, 1) := by decide +kernel
theorem dX3_join_36 : decode cX3_join 36 = .ok (.ireturn, 1) := by decide +kernel
theorem dX3_join_37 : decode cX3_join 37 = .ok (.lload_n 2, 1) := by decide +kernel
theorem dX3_join_38 : decode cX3_join 38 = .ok (.invokestatic 26, 3) := by decide +kernel
theorem dX3_join_41 : decode cX3_join 41 = .ok (.istore 6, 2) := by decide +kernel
theorem dX3_join_43 : decode cX3_join 43 = .ok (.lload 4, 2) := by decide +kernel
theorem dX3_join_45 : decode cX3_join 45 = .ok (.invokestatic 26, 3) := by decide +kernel
theorem dX3_join_48 : decode cX3_join 48 = .ok (.istore 7, 2) := by decide +kernel
theorem dX3_join_50 : decode cX3_join 50 = .ok (.lload_n 2, 1) := by decide +kernel
theorem dX3_join_51 : decode cX3_join 51 = .ok (.getstatic 30, 3) := by decide +kernel
theorem dX3_join_54 : decode cX3_join 54 = .ok (.iload 6, 2) := by decide +kernel
theorem dX3_join_56 : decode cX3_join 56 = .ok (.laload, 1) := by decide +kernel
theorem dX3_join_57 : decode cX3_join 57 = .ok (.ldiv, 1) := by decide +kernel
theorem dX3_join_58 : decode cX3_join 58 = .ok (.lstore 8, 2) := by decide +kernel
theorem dX3_join_60 : decode cX3_join 60 = .ok (.lload 4, 2) := by decide +kernel
theorem dX3_join_62 : decode cX3_join 62 = .ok (.getstatic 30, 3) := by decide +kernel
theorem dX3_join_65 : decode cX3_join 65 = .ok (.iload 7, 2) := by decide +kernel
theorem dX3_join_67 : decode cX3_join 67 = .ok (.laload, 1) := by decide +kernel
theorem dX3_join_68 : decode cX3_join 68 = .ok (.ldiv, 1) := by decide +kernel
theorem dX3_join_69 : decode cX3_join 69 = .ok (.lstore 10, 2) := by decide +kernel
theorem dX3_join_71 : decode cX3_join 71 = .ok (.iload_n 1, 1) := by decide +kernel
theorem dX3_join_72 : decode cX3_join 72 = .ok (.bipush 42, 2) := by decide +kernel
theorem dX3_join_74 : decode cX3_join 74 = .ok (.if_icmp .ne 23, 3) := by decide +kernel
theorem dX3_join_77 : decode cX3_join 77 = .ok (.aload_n 0, 1) := by decide +kernel
theorem dX3_join_78 : decode cX3_join 78 = .ok (.lload 8, 2) := by decide +kernel
theorem dX3_join_80 : decode cX3_join 80 = .ok (.lload 10, 2) := by decide +kernel
theorem dX3_join_82 : decode cX3_join 82 = .ok (.lmul, 1) := by decide +kernel
theorem dX3_join_83 : decode cX3_join 83 = .ok (.lconst 1, 1) := by decide +kernel
theorem dX3_join_84 : decode cX3_join 84 = .ok (.iload 6, 2) := by decide +kernel
theorem dX3_join_86 : decode cX3_join 86 = .ok (.iload 7, 2) := by decide +kernel
theorem dX3_join_88 : decode cX3_join 88 = .ok (.iadd, 1) := by decide +kernel
theorem dX3_join_89 : decode cX3_join 89 = .ok (.bipush 9, 2) := by decide +kernel
theorem dX3_join_91 : decode cX3_join 91 = .ok (.isub, 1) := by decide +kernel
theorem dX3_join_92 : decode cX3_join 92 = .ok (.invokevirtual 22, 3) := by decide +kernel
theorem dX3_join_95 : decode cX3_join 95 = .ok (.iconst 1, 1) := by decide +kernel
theorem dX3_join_96 : decode cX3_join 96 = .ok (.ireturn, 1) := by decide +kernel
theorem dX3_join_97 : decode cX3_join 97 = .ok (.aload_n 0, 1) := by decide +kernel
theorem dX3_join_98 : decode cX3_join 98 = .ok (.lload 4, 2) := by decide +kernel
theorem dX3_join_100 : decode cX3_join 100 = .ok (.lconst 0, 1) := by decide +kernel
theorem dX3_join_101 : decode cX3_join 101 = .ok (.lcmp, 1) := by decide +kernel
theorem dX3_join_102 : decode cX3_join 102 = .ok (.ifCond .ge 9, 3) := by decide +kernel
theorem dX3_join_105 : decode cX3_join 105 = .ok (.lload 8, 2) := by decide +kernel
theorem dX3_join_107 : decode cX3_join 107 = .ok (.lneg, 1) := by decide +kernel
theorem dX3_join_108 : decode cX3_join 108 = .ok (.goto 5, 3) := by decide +kernel
theorem dX3_join_111 : decode cX3_join 111 = .ok (.lload 8, 2) := by decide +kernel
theorem dX3_join_113 : decode cX3_join 113 = .ok (.lload 10, 2) := by decide +kernel
theorem dX3_join_115 : decode cX3_join 115 = .ok (.invokestatic 34, 3) := by decide +kernel
theorem dX3_join_118 : decode cX3_join 118 = .ok (.iload 6, 2) := by decide +kernel
theorem dX3_join_120 : decode cX3_join 120 = .ok (.iload 7, 2) := by decide +kernel
theorem dX3_join_122 : decode cX3_join 122 = .ok (.isub, 1) := by decide +kernel
theorem dX3_join_123 : decode cX3_join 123 = .ok (.bipush 9, 2) := by decide +kernel
theorem dX3_join_125 : decode cX3_join 125 = .ok (.iadd, 1) := by decide +kernel
theorem dX3_join_126 : decode cX3_join 126 = .ok (.invokevirtual 22, 3) := by decide +kernel
theorem dX3_join_129 : decode cX3_join 129 = .ok (.lload 4, 2) := by decide +kernel
theorem dX3_join_131 : decode cX3_join 131 = .ok (.lconst 0, 1) := by decide +kernel
theorem dX3_join_132 : decode cX3_join 132 = .ok (.lcmp, 1) := by decide +kernel
theorem dX3_join_133 : decode cX3_join 133 = .ok (.ifCond .eq 7, 3) := by decide +kernel
theorem dX3_join_136 : decode cX3_join 136 = .ok (.iconst 1, 1) := by decide +kernel
theorem dX3_join_137 : decode cX3_join 137 = .ok (.goto 4, 3) := by decide +kernel
theorem dX3_join_140 : decode cX3_join 140 = .ok (.iconst 0, 1) := by decide +kernel
theorem dX3_join_141 : decode cX3_join 141 = .ok (.ireturn, 1) := by decide +kernel

set_option maxRecDepth 10000 in
theorem TX3_join_0 {d : Nat} {S : fW} {h : fH} {Q : Int32 → fH → Prop} {r0 : Nat} {x1 : Int32} {x2 : Int64} {x4 : Int64} {Q1 : fH → Prop} {Q2 : fH → Prop} {Q3 : Int32 → fH → Prop} {Q4 : Int32 → fH → Int32 → fH → Prop} {Q5 : Int32 → fH → Int32 → fH → fH → Prop} {Q6 : Int32 → fH → Int32 → fH → fH → Prop} {Q7 : Int32 → fH → Int32 → fH → fH → Prop} {Q8 : fH → Prop} {Q9 : fH → Prop} 
    (hs1 : (r0, shX3) ∈ S)
    (ok1 : x1 = (43 : Int32) → ¬ x1 = (43 : Int32) → OkV d mX3_hold S [.ref r0, .long (x2 - x4), .long (1 : Int64), .int (0 : Int32)] h Q1)
    (k1 : x1 = (43 : Int32) → ¬ x1 = (43 : Int32) → ∀ h_1, Q1 h_1 → Q (1 : Int32) h_1)
    (ok2 : x1 = (43 : Int32) → x1 = (43 : Int32) → OkV d mX3_hold S [.ref r0, .long (x2 + x4), .long (1 : Int64), .int (0 : Int32)] h Q2)
    (k2 : x1 = (43 : Int32) → x1 = (43 : Int32) → ∀ h_2, Q2 h_2 → Q (1 : Int32) h_2)
    (ok3 : ¬ x1 = (43 : Int32) → ¬ x1 = (45 : Int32) → OkI d mX3_lastZeros S [.long x2] h Q3)
    (ok4 : ¬ x1 = (43 : Int32) → ¬ x1 = (45 : Int32) → ∀ v_3 h_3, Q3 v_3 h_3 → OkI d mX3_lastZeros S [.long x4] h_3 (Q4 v_3 h_3))
    (sd1 : ¬ x1 = (43 : Int32) → ¬ x1 = (45 : Int32) → ∀ v_3 h_3, Q3 v_3 h_3 → ∀ v_4 h_4, (Q4 v_3 h_3) v_4 h_4 → vp_in v_3 19)
    (sd2 : ¬ x1 = (43 : Int32) → ¬ x1 = (45 : Int32) → ∀ v_3 h_3, Q3 v_3 h_3 → ∀ v_4 h_4, (Q4 v_3 h_3) v_4 h_4 → ¬ (f_ten v_3.toNatClampNeg) = 0)
    (sd3 : ¬ x1 = (43 : Int32) → ¬ x1 = (45 : Int32) → ∀ v_3 h_3, Q3 v_3 h_3 → ∀ v_4 h_4, (Q4 v_3 h_3) v_4 h_4 → vp_in v_4 19)
    (sd4 : ¬ x1 = (43 : Int32) → ¬ x1 = (45 : Int32) → ∀ v_3 h_3, Q3 v_3 h_3 → ∀ v_4 h_4, (Q4 v_3 h_3) v_4 h_4 → ¬ (f_ten v_4.toNatClampNeg) = 0)
    (ok5 : ¬ x1 = (43 : Int32) → ¬ x1 = (45 : Int32) → ∀ v_3 h_3, Q3 v_3 h_3 → ∀ v_4 h_4, (Q4 v_3 h_3) v_4 h_4 → ¬ x1 = (42 : Int32) → (0 : Int64) ≤ x4 → OkV d mX3_hold S [.ref r0, .long (x2 / (f_ten v_3.toNatClampNeg)), .long (if 0 < (x4 / (f_ten v_4.toNatClampNeg)) then x4 / (f_ten v_4.toNatClampNeg) else -(x4 / (f_ten v_4.toNatClampNeg))), .int ((v_3 - v_4) + (9 : Int32))] h_4 (Q5 v_3 h_3 v_4 h_4))
    (k3 : ¬ x1 = (43 : Int32) → ¬ x1 = (45 : Int32) → ∀ v_3 h_3, Q3 v_3 h_3 → ∀ v_4 h_4, (Q4 v_3 h_3) v_4 h_4 → ¬ x1 = (42 : Int32) → (0 : Int64) ≤ x4 → ∀ h_5, (Q5 v_3 h_3 v_4 h_4) h_5 → x4 = (0 : Int64) → Q (0 : Int32) h_5)
    (k4 : ¬ x1 = (43 : Int32) → ¬ x1 = (45 : Int32) → ∀ v_3 h_3, Q3 v_3 h_3 → ∀ v_4 h_4, (Q4 v_3 h_3) v_4 h_4 → ¬ x1 = (42 : Int32) → (0 : Int64) ≤ x4 → ∀ h_5, (Q5 v_3 h_3 v_4 h_4) h_5 → ¬ x4 = (0 : Int64) → Q (1 : Int32) h_5)
    (ok6 : ¬ x1 = (43 : Int32) → ¬ x1 = (45 : Int32) → ∀ v_3 h_3, Q3 v_3 h_3 → ∀ v_4 h_4, (Q4 v_3 h_3) v_4 h_4 → ¬ x1 = (42 : Int32) → ¬ (0 : Int64) ≤ x4 → OkV d mX3_hold S [.ref r0, .long (-(x2 / (f_ten v_3.toNatClampNeg))), .long (if 0 < (x4 / (f_ten v_4.toNatClampNeg)) then x4 / (f_ten v_4.toNatClampNeg) else -(x4 / (f_ten v_4.toNatClampNeg))), .int ((v_3 - v_4) + (9 : Int32))] h_4 (Q6 v_3 h_3 v_4 h_4))
    (k5 : ¬ x1 = (43 : Int32) → ¬ x1 = (45 : Int32) → ∀ v_3 h_3, Q3 v_3 h_3 → ∀ v_4 h_4, (Q4 v_3 h_3) v_4 h_4 → ¬ x1 = (42 : Int32) → ¬ (0 : Int64) ≤ x4 → ∀ h_6, (Q6 v_3 h_3 v_4 h_4) h_6 → x4 = (0 : Int64) → Q (0 : Int32) h_6)
    (k6 : ¬ x1 = (43 : Int32) → ¬ x1 = (45 : Int32) → ∀ v_3 h_3, Q3 v_3 h_3 → ∀ v_4 h_4, (Q4 v_3 h_3) v_4 h_4 → ¬ x1 = (42 : Int32) → ¬ (0 : Int64) ≤ x4 → ∀ h_6, (Q6 v_3 h_3 v_4 h_4) h_6 → ¬ x4 = (0 : Int64) → Q (1 : Int32) h_6)
    (ok7 : ¬ x1 = (43 : Int32) → ¬ x1 = (45 : Int32) → ∀ v_3 h_3, Q3 v_3 h_3 → ∀ v_4 h_4, (Q4 v_3 h_3) v_4 h_4 → x1 = (42 : Int32) → OkV d mX3_hold S [.ref r0, .long ((x2 / (f_ten v_3.toNatClampNeg)) * (x4 / (f_ten v_4.toNatClampNeg))), .long (1 : Int64), .int ((v_3 + v_4) - (9 : Int32))] h_4 (Q7 v_3 h_3 v_4 h_4))
    (k7 : ¬ x1 = (43 : Int32) → ¬ x1 = (45 : Int32) → ∀ v_3 h_3, Q3 v_3 h_3 → ∀ v_4 h_4, (Q4 v_3 h_3) v_4 h_4 → x1 = (42 : Int32) → ∀ h_7, (Q7 v_3 h_3 v_4 h_4) h_7 → Q (1 : Int32) h_7)
    (ok8 : ¬ x1 = (43 : Int32) → x1 = (45 : Int32) → ¬ x1 = (43 : Int32) → OkV d mX3_hold S [.ref r0, .long (x2 - x4), .long (1 : Int64), .int (0 : Int32)] h Q8)
    (k8 : ¬ x1 = (43 : Int32) → x1 = (45 : Int32) → ¬ x1 = (43 : Int32) → ∀ h_8, Q8 h_8 → Q (1 : Int32) h_8)
    (ok9 : ¬ x1 = (43 : Int32) → x1 = (45 : Int32) → x1 = (43 : Int32) → OkV d mX3_hold S [.ref r0, .long (x2 + x4), .long (1 : Int64), .int (0 : Int32)] h Q9)
    (k9 : ¬ x1 = (43 : Int32) → x1 = (45 : Int32) → x1 = (43 : Int32) → ∀ h_9, Q9 h_9 → Q (1 : Int32) h_9) :
    OkI (d + 1) mX3_join S [.ref r0, .int x1, .long x2, .long x4] h Q := by
  refine Ok.of (by decide) (Nat.le_of_ble_eq_true rfl) ?_
  refine G_iload_n 1 rfl dX3_join_0 rfl ?_
  refine G_bipush (v := 43) dX3_join_1 (by decide) ?_
  refine G_icmp_eq (tgt := 12) dX3_join_3 (by decide) (fun c1 => ?_) (fun c1 => ?_)
  · refine G_aload_n 0 rfl dX3_join_12 rfl ?_
    refine G_iload_n 1 rfl dX3_join_13 rfl ?_
    refine G_bipush (v := 43) dX3_join_14 (by decide) ?_
    refine G_icmp_ne (tgt := 26) dX3_join_16 (by decide) (fun c2 => ?_) (fun c2 => ?_)
    · refine G_lload_n 2 rfl dX3_join_26 rfl ?_
      refine G_lload 3 rfl dX3_join_27 ?_
      refine G_lsub dX3_join_29 ?_
      refine G_lconst (v := 1) dX3_join_30 (by decide) ?_
      refine G_iconst (v := 0) dX3_join_31 (by decide) ?_
      refine G_callV (Z := mX3_hold) (As := [.long (x2 - x4), .long (1 : Int64), .int (0 : Int32)]) (st := []) hL_X3_22 hI_X3_hold hS_X3_hold hC_X3_hold hN_X3 nX3_hold (by decide) hs1 rfl rfl rfl (Nat.le_of_ble_eq_true rfl) dX3_join_32 (ok1 c1 c2) (fun r_ h_1 z_ => ?_)
      obtain ⟨rfl, q_1⟩ := z_
      refine G_iconst (v := 1) dX3_join_35 (by decide) ?_
      exact G_zret rfl (Or.inr rfl) dX3_join_36 ⟨_, rfl, (k1 c1 c2 h_1 q_1)⟩
    · refine G_lload_n 2 rfl dX3_join_19 rfl ?_
      refine G_lload 3 rfl dX3_join_20 ?_
      refine G_ladd dX3_join_22 ?_
      refine G_goto (tgt := 30) dX3_join_23 (by decide) ?_
      refine G_lconst (v := 1) dX3_join_30 (by decide) ?_
      refine G_iconst (v := 0) dX3_join_31 (by decide) ?_
      refine G_callV (Z := mX3_hold) (As := [.long (x2 + x4), .long (1 : Int64), .int (0 : Int32)]) (st := []) hL_X3_22 hI_X3_hold hS_X3_hold hC_X3_hold hN_X3 nX3_hold (by decide) hs1 rfl rfl rfl (Nat.le_of_ble_eq_true rfl) dX3_join_32 (ok2 c1 c2) (fun r_ h_2 z_ => ?_)
      obtain ⟨rfl, q_2⟩ := z_
      refine G_iconst (v := 1) dX3_join_35 (by decide) ?_
      exact G_zret rfl (Or.inr rfl) dX3_join_36 ⟨_, rfl, (k2 c1 c2 h_2 q_2)⟩
  · refine G_iload_n 1 rfl dX3_join_6 rfl ?_
    refine G_bipush (v := 45) dX3_join_7 (by decide) ?_
    refine G_icmp_ne (tgt := 37) dX3_join_9 (by decide) (fun c2 => ?_) (fun c2 => ?_)
    · refine G_lload_n 2 rfl dX3_join_37 rfl ?_
      refine G_callS (Z := mX3_lastZeros) (As := [.long x2]) (st := []) hL_X3_26 hT_X3_lastZeros hC_X3_lastZeros hN_X3 nX3_lastZeros (by decide) rfl (Nat.le_of_ble_eq_true rfl) dX3_join_38 (ok3 c1 c2) (fun r_ h_3 z_ => ?_)
      obtain ⟨v_3, rfl, q_3⟩ := z_
      refine G_istore dX3_join_41 (by decide) (lv' := [(6, .int v_3), (0, .ref r0), (1, .int x1), (2, .long x2), (4, .long x4)]) rfl ?_
      refine G_lload 4 rfl dX3_join_43 ?_
      refine G_callS (Z := mX3_lastZeros) (As := [.long x4]) (st := []) hL_X3_26 hT_X3_lastZeros hC_X3_lastZeros hN_X3 nX3_lastZeros (by decide) rfl (Nat.le_of_ble_eq_true rfl) dX3_join_45 (ok4 c1 c2 v_3 h_3 q_3) (fun r_ h_4 z_ => ?_)
      obtain ⟨v_4, rfl, q_4⟩ := z_
      refine G_istore dX3_join_48 (by decide) (lv' := [(7, .int v_4), (6, .int v_3), (0, .ref r0), (1, .int x1), (2, .long x2), (4, .long x4)]) rfl ?_
      refine G_lload_n 4 rfl dX3_join_50 rfl ?_
      refine G_tens hM_X3_30 dX3_join_51 ?_
      refine G_iload 1 rfl dX3_join_54 ?_
      refine G_tlal (sd1 c1 c2 v_3 h_3 q_3 v_4 h_4 q_4) dX3_join_56 ?_
      refine G_ldiv dX3_join_57 (sd2 c1 c2 v_3 h_3 q_3 v_4 h_4 q_4) ?_
      refine G_lstore dX3_join_58 (by decide) (lv' := [(8, .long (x2 / (f_ten v_3.toNatClampNeg))), (7, .int v_4), (6, .int v_3), (0, .ref r0), (1, .int x1), (2, .long x2), (4, .long x4)]) rfl ?_
      refine G_lload 6 rfl dX3_join_60 ?_
      refine G_tens hM_X3_30 dX3_join_62 ?_
      refine G_iload 1 rfl dX3_join_65 ?_
      refine G_tlal (sd3 c1 c2 v_3 h_3 q_3 v_4 h_4 q_4) dX3_join_67 ?_
      refine G_ldiv dX3_join_68 (sd4 c1 c2 v_3 h_3 q_3 v_4 h_4 q_4) ?_
      refine G_lstore dX3_join_69 (by decide) (lv' := [(10, .long (x4 / (f_ten v_4.toNatClampNeg))), (8, .long (x2 / (f_ten v_3.toNatClampNeg))), (7, .int v_4), (6, .int v_3), (0, .ref r0), (1, .int x1), (2, .long x2), (4, .long x4)]) rfl ?_
      refine G_iload_n 5 rfl dX3_join_71 rfl ?_
      refine G_bipush (v := 42) dX3_join_72 (by decide) ?_
      refine G_icmp_ne (tgt := 97) dX3_join_74 (by decide) (fun c5 => ?_) (fun c5 => ?_)
      · refine G_aload_n 4 rfl dX3_join_97 rfl ?_
        refine G_lload 7 rfl dX3_join_98 ?_
        refine G_lconst (v := 0) dX3_join_100 (by decide) ?_
        refine G_lif_ge (tgt := 111) dX3_join_101 dX3_join_102 (by decide) (fun c6 => ?_) (fun c6 => ?_)
        · refine G_lload 1 rfl dX3_join_111 ?_
          refine G_lload 0 rfl dX3_join_113 ?_
          refine G_mabs hL_X3_34 (Nat.le_of_ble_eq_true rfl) dX3_join_115 ?_
          refine G_iload 3 rfl dX3_join_118 ?_
          refine G_iload 2 rfl dX3_join_120 ?_
          refine G_isub dX3_join_122 ?_
          refine G_bipush (v := 9) dX3_join_123 (by decide) ?_
          refine G_iadd dX3_join_125 ?_
          refine G_callV (Z := mX3_hold) (As := [.long (x2 / (f_ten v_3.toNatClampNeg)), .long (if 0 < (x4 / (f_ten v_4.toNatClampNeg)) then x4 / (f_ten v_4.toNatClampNeg) else -(x4 / (f_ten v_4.toNatClampNeg))), .int ((v_3 - v_4) + (9 : Int32))]) (st := []) hL_X3_22 hI_X3_hold hS_X3_hold hC_X3_hold hN_X3 nX3_hold (by decide) hs1 rfl rfl rfl (Nat.le_of_ble_eq_true rfl) dX3_join_126 (ok5 c1 c2 v_3 h_3 q_3 v_4 h_4 q_4 c5 c6) (fun r_ h_5 z_ => ?_)
          obtain ⟨rfl, q_5⟩ := z_
          refine G_lload 7 rfl dX3_join_129 ?_
          refine G_lconst (v := 0) dX3_join_131 (by decide) ?_
          refine G_lif_eq (tgt := 140) dX3_join_132 dX3_join_133 (by decide) (fun c8 => ?_) (fun c8 => ?_)
          · refine G_iconst (v := 0) dX3_join_140 (by decide) ?_
            exact G_zret rfl (Or.inl rfl) dX3_join_141 ⟨_, rfl, (k3 c1 c2 v_3 h_3 q_3 v_4 h_4 q_4 c5 c6 h_5 q_5 c8)⟩
          · refine G_iconst (v := 1) dX3_join_136 (by decide) ?_
            refine G_goto (tgt := 141) dX3_join_137 (by decide) ?_
            exact G_zret rfl (Or.inr rfl) dX3_join_141 ⟨_, rfl, (k4 c1 c2 v_3 h_3 q_3 v_4 h_4 q_4 c5 c6 h_5 q_5 c8)⟩
        · refine G_lload 1 rfl dX3_join_105 ?_
          refine G_lneg dX3_join_107 ?_
          refine G_goto (tgt := 113) dX3_join_108 (by decide) ?_
          refine G_lload 0 rfl dX3_join_113 ?_
          refine G_mabs hL_X3_34 (Nat.le_of_ble_eq_true rfl) dX3_join_115 ?_
          refine G_iload 3 rfl dX3_join_118 ?_
          refine G_iload 2 rfl dX3_join_120 ?_
          refine G_isub dX3_join_122 ?_
          refine G_bipush (v := 9) dX3_join_123 (by decide) ?_
          refine G_iadd dX3_join_125 ?_
          refine G_callV (Z := mX3_hold) (As := [.long (-(x2 / (f_ten v_3.toNatClampNeg))), .long (if 0 < (x4 / (f_ten v_4.toNatClampNeg)) then x4 / (f_ten v_4.toNatClampNeg) else -(x4 / (f_ten v_4.toNatClampNeg))), .int ((v_3 - v_4) + (9 : Int32))]) (st := []) hL_X3_22 hI_X3_hold hS_X3_hold hC_X3_hold hN_X3 nX3_hold (by decide) hs1 rfl rfl rfl (Nat.le_of_ble_eq_true rfl) dX3_join_126 (ok6 c1 c2 v_3 h_3 q_3 v_4 h_4 q_4 c5 c6) (fun r_ h_6 z_ => ?_)
          obtain ⟨rfl, q_6⟩ := z_
          refine G_lload 7 rfl dX3_join_129 ?_
          refine G_lconst (v := 0) dX3_join_131 (by decide) ?_
          refine G_lif_eq (tgt := 140) dX3_join_132 dX3_join_133 (by decide) (fun c8 => ?_) (fun c8 => ?_)
          · refine G_iconst (v := 0) dX3_join_140 (by decide) ?_
            exact G_zret rfl (Or.inl rfl) dX3_join_141 ⟨_, rfl, (k5 c1 c2 v_3 h_3 q_3 v_4 h_4 q_4 c5 c6 h_6 q_6 c8)⟩
          · refine G_iconst (v := 1) dX3_join_136 (by decide) ?_
            refine G_goto (tgt := 141) dX3_join_137 (by decide) ?_
            exact G_zret rfl (Or.inr rfl) dX3_join_141 ⟨_, rfl, (k6 c1 c2 v_3 h_3 q_3 v_4 h_4 q_4 c5 c6 h_6 q_6 c8)⟩
      · refine G_aload_n 4 rfl dX3_join_77 rfl ?_
        refine G_lload 1 rfl dX3_join_78 ?_
        refine G_lload 0 rfl dX3_join_80 ?_
        refine G_lmul dX3_join_82 ?_
        refine G_lconst (v := 1) dX3_join_83 (by decide) ?_
        refine G_iload 3 rfl dX3_join_84 ?_
        refine G_iload 2 rfl dX3_join_86 ?_
        refine G_iadd dX3_join_88 ?_
        refine G_bipush (v := 9) dX3_join_89 (by decide) ?_
        refine G_isub dX3_join_91 ?_
        refine G_callV (Z := mX3_hold) (As := [.long ((x2 / (f_ten v_3.toNatClampNeg)) * (x4 / (f_ten v_4.toNatClampNeg))), .long (1 : Int64), .int ((v_3 + v_4) - (9 : Int32))]) (st := []) hL_X3_22 hI_X3_hold hS_X3_hold hC_X3_hold hN_X3 nX3_hold (by decide) hs1 rfl rfl rfl (Nat.le_of_ble_eq_true rfl) dX3_join_92 (ok7 c1 c2 v_3 h_3 q_3 v_4 h_4 q_4 c5) (fun r_ h_7 z_ => ?_)
        obtain ⟨rfl, q_7⟩ := z_
        refine G_iconst (v := 1) dX3_join_95 (by decide) ?_
        exact G_zret rfl (Or.inr rfl) dX3_join_96 ⟨_, rfl, (k7 c1 c2 v_3 h_3 q_3 v_4 h_4 q_4 c5 h_7 q_7)⟩
    · refine G_aload_n 0 rfl dX3_join_12 rfl ?_
      refine G_iload_n 1 rfl dX3_join_13 rfl ?_
      refine G_bipush (v := 43) dX3_join_14 (by decide) ?_
      refine G_icmp_ne (tgt := 26) dX3_join_16 (by decide) (fun c3 => ?_) (fun c3 => ?_)
      · refine G_lload_n 2 rfl dX3_join_26 rfl ?_
        refine G_lload 3 rfl dX3_join_27 ?_
        refine G_lsub dX3_join_29 ?_
        refine G_lconst (v := 1) dX3_join_30 (by decide) ?_
        refine G_iconst (v := 0) dX3_join_31 (by decide) ?_
        refine G_callV (Z := mX3_hold) (As := [.long (x2 - x4), .long (1 : Int64), .int (0 : Int32)]) (st := []) hL_X3_22 hI_X3_hold hS_X3_hold hC_X3_hold hN_X3 nX3_hold (by decide) hs1 rfl rfl rfl (Nat.le_of_ble_eq_true rfl) dX3_join_32 (ok8 c1 c2 c3) (fun r_ h_8 z_ => ?_)
        obtain ⟨rfl, q_8⟩ := z_
        refine G_iconst (v := 1) dX3_join_35 (by decide) ?_
        exact G_zret rfl (Or.inr rfl) dX3_join_36 ⟨_, rfl, (k8 c1 c2 c3 h_8 q_8)⟩
      · refine G_lload_n 2 rfl dX3_join_19 rfl ?_
        refine G_lload 3 rfl dX3_join_20 ?_
        refine G_ladd dX3_join_22 ?_
        refine G_goto (tgt := 30) dX3_join_23 (by decide) ?_
        refine G_lconst (v := 1) dX3_join_30 (by decide) ?_
        refine G_iconst (v := 0) dX3_join_31 (by decide) ?_
        refine G_callV (Z := mX3_hold) (As := [.long (x2 + x4), .long (1 : Int64), .int (0 : Int32)]) (st := []) hL_X3_22 hI_X3_hold hS_X3_hold hC_X3_hold hN_X3 nX3_hold (by decide) hs1 rfl rfl rfl (Nat.le_of_ble_eq_true rfl) dX3_join_32 (ok9 c1 c2 c3) (fun r_ h_9 z_ => ?_)
        obtain ⟨rfl, q_9⟩ := z_
        refine G_iconst (v := 1) dX3_join_35 (by decide) ?_
        exact G_zret rfl (Or.inr rfl) dX3_join_36 ⟨_, rfl, (k9 c1 c2 c3 h_9 q_9)⟩

-- LostDigits$Ratio.lastZeros
theorem dX3_lastZeros_0 : decode cX3_lastZeros 0 = .ok (.iconst 0, 1) := by decide +kernel
theorem dX3_lastZeros_1 : decode cX3_lastZeros 1 = .ok (.istore_n 2, 1) := by decide +kernel
theorem dX3_lastZeros_2 : decode cX3_lastZeros 2 = .ok (.lload_n 0, 1) := by decide +kernel
theorem dX3_lastZeros_3 : decode cX3_lastZeros 3 = .ok (.lstore_n 3, 1) := by decide +kernel
theorem dX3_lastZeros_4 : decode cX3_lastZeros 4 = .ok (.iload_n 2, 1) := by decide +kernel
theorem dX3_lastZeros_5 : decode cX3_lastZeros 5 = .ok (.bipush 16, 2) := by decide +kernel
theorem dX3_lastZeros_7 : decode cX3_lastZeros 7 = .ok (.if_icmp .ge 31, 3) := by decide +kernel
theorem dX3_lastZeros_10 : decode cX3_lastZeros 10 = .ok (.lload_n 3, 1) := by decide +kernel
theorem dX3_lastZeros_11 : decode cX3_lastZeros 11 = .ok (.lconst 0, 1) := by decide +kernel
theorem dX3_lastZeros_12 : decode cX3_lastZeros 12 = .ok (.lcmp, 1) := by decide +kernel
theorem dX3_lastZeros_13 : decode cX3_lastZeros 13 = .ok (.ifCond .eq 25, 3) := by decide +kernel
theorem dX3_lastZeros_16 : decode cX3_lastZeros 16 = .ok (.lload_n 3, 1) := by decide +kernel
theorem dX3_lastZeros_17 : decode cX3_lastZeros 17 = .ok (.ldc2_w 40, 3) := by decide +kernel
theorem dX3_lastZeros_20 : decode cX3_lastZeros 20 = .ok (.lrem, 1) := by decide +kernel
theorem dX3_lastZeros_21 : decode cX3_lastZeros 21 = .ok (.lconst 0, 1) := by decide +kernel
theorem dX3_lastZeros_22 : decode cX3_lastZeros 22 = .ok (.lcmp, 1) := by decide +kernel
theorem dX3_lastZeros_23 : decode cX3_lastZeros 23 = .ok (.ifCond .ne 15, 3) := by decide +kernel
theorem dX3_lastZeros_26 : decode cX3_lastZeros 26 = .ok (.lload_n 3, 1) := by decide +kernel
theorem dX3_lastZeros_27 : decode cX3_lastZeros 27 = .ok (.ldc2_w 40, 3) := by decide +kernel
theorem dX3_lastZeros_30 : decode cX3_lastZeros 30 = .ok (.ldiv, 1) := by decide +kernel
theorem dX3_lastZeros_31 : decode cX3_lastZeros 31 = .ok (.lstore_n 3, 1) := by decide +kernel
theorem dX3_lastZeros_32 : decode cX3_lastZeros 32 = .ok (.iinc 2 1, 3) := by decide +kernel
theorem dX3_lastZeros_35 : decode cX3_lastZeros 35 = .ok (.goto (-31), 3) := by decide +kernel
theorem dX3_lastZeros_38 : decode cX3_lastZeros 38 = .ok (.iload_n 2, 1) := by decide +kernel
theorem dX3_lastZeros_39 : decode cX3_lastZeros 39 = .ok (.ireturn, 1) := by decide +kernel

set_option maxRecDepth 10000 in
theorem TX3_lastZeros_0 {d : Nat} {S : fW} {h : fH} {Q : Int32 → fH → Prop} {x0 : Int64}  
    (k1 : G mX3_lastZeros d S (f_PI Q) 4 [(2, .int (0 : Int32)), (3, .long x0)] [] h) :
    OkI d mX3_lastZeros S [.long x0] h Q := by
  refine Ok.of (by decide) (Nat.le_of_ble_eq_true rfl) ?_
  refine G_iconst (v := 0) dX3_lastZeros_0 (by decide) ?_
  refine G_istore_n dX3_lastZeros_1 rfl (by decide) (lv' := [(2, .int (0 : Int32)), (0, .long x0)]) rfl ?_
  refine G_lload_n 1 rfl dX3_lastZeros_2 rfl ?_
  refine G_lstore_n dX3_lastZeros_3 rfl (by decide) (lv' := [(3, .long x0), (2, .int (0 : Int32)), (0, .long x0)]) rfl ?_
  exact G_sub [1, 0] rfl (k1)

set_option maxRecDepth 10000 in
theorem TX3_lastZeros_4 {d : Nat} {S : fW} {h : fH} {Q : Int32 → fH → Prop} {x2 : Int32} {x3 : Int64}  
    (k1 : (16 : Int32) ≤ x2 → Q x2 h)
    (k2 : ¬ (16 : Int32) ≤ x2 → x3 = (0 : Int64) → Q x2 h)
    (k3 : ¬ (16 : Int32) ≤ x2 → ¬ x3 = (0 : Int64) → ¬ (x3 - x3 / (10 : Int64) * (10 : Int64)) = (0 : Int64) → Q x2 h)
    (k4 : ¬ (16 : Int32) ≤ x2 → ¬ x3 = (0 : Int64) → (x3 - x3 / (10 : Int64) * (10 : Int64)) = (0 : Int64) → G mX3_lastZeros d S (f_PI Q) 4 [(2, .int (x2 + 1)), (3, .long (x3 / (10 : Int64)))] [] h) :
    G mX3_lastZeros d S (f_PI Q) 4 [(2, .int x2), (3, .long x3)] [] h := by
  refine G_iload_n 0 rfl dX3_lastZeros_4 rfl ?_
  refine G_bipush (v := 16) dX3_lastZeros_5 (by decide) ?_
  refine G_icmp_ge (tgt := 38) dX3_lastZeros_7 (by decide) (fun c1 => ?_) (fun c1 => ?_)
  · refine G_iload_n 0 rfl dX3_lastZeros_38 rfl ?_
    exact G_iret rfl dX3_lastZeros_39 ⟨_, rfl, (k1 c1)⟩
  · refine G_lload_n 1 rfl dX3_lastZeros_10 rfl ?_
    refine G_lconst (v := 0) dX3_lastZeros_11 (by decide) ?_
    refine G_lif_eq (tgt := 38) dX3_lastZeros_12 dX3_lastZeros_13 (by decide) (fun c2 => ?_) (fun c2 => ?_)
    · refine G_iload_n 0 rfl dX3_lastZeros_38 rfl ?_
      exact G_iret rfl dX3_lastZeros_39 ⟨_, rfl, (k2 c1 c2)⟩
    · refine G_lload_n 1 rfl dX3_lastZeros_16 rfl ?_
      refine G_ldc2 hK_X3_40 dX3_lastZeros_17 ?_
      refine G_lrem dX3_lastZeros_20 (by decide) ?_
      refine G_lconst (v := 0) dX3_lastZeros_21 (by decide) ?_
      refine G_lif_ne (tgt := 38) dX3_lastZeros_22 dX3_lastZeros_23 (by decide) (fun c3 => ?_) (fun c3 => ?_)
      · refine G_iload_n 0 rfl dX3_lastZeros_38 rfl ?_
        exact G_iret rfl dX3_lastZeros_39 ⟨_, rfl, (k3 c1 c2 c3)⟩
      · refine G_lload_n 1 rfl dX3_lastZeros_26 rfl ?_
        refine G_ldc2 hK_X3_40 dX3_lastZeros_27 ?_
        refine G_ldiv dX3_lastZeros_30 (by decide) ?_
        refine G_lstore_n dX3_lastZeros_31 rfl (by decide) (lv' := [(3, .long (x3 / (10 : Int64))), (2, .int x2)]) rfl ?_
        refine G_iinc (v := 1) 1 rfl dX3_lastZeros_32 (by decide) (by decide) (lv' := [(2, .int (x2 + 1)), (3, .long (x3 / (10 : Int64)))]) rfl ?_
        refine G_goto (tgt := 4) dX3_lastZeros_35 (by decide) ?_
        exact G_sub [0, 1] rfl (k4 c1 c2 c3)

-- LostDigits$Ratio.cut
theorem dX3_cut_0 : decode cX3_cut 0 = .ok (.aload_n 0, 1) := by decide +kernel
theorem dX3_cut_1 : decode cX3_cut 1 = .ok (.getfield 15, 3) := by decide +kernel
theorem dX3_cut_4 : decode cX3_cut 4 = .ok (.lconst 0, 1) := by decide +kernel
theorem dX3_cut_5 : decode cX3_cut 5 = .ok (.lcmp, 1) := by decide +kernel
theorem dX3_cut_6 : decode cX3_cut 6 = .ok (.ifCond .gt 5, 3) := by decide +kernel
theorem dX3_cut_9 : decode cX3_cut 9 = .ok (.lconst 0, 1) := by decide +kernel
theorem dX3_cut_10 : decode cX3_cut 10 = .ok (.lreturn, 1) := by decide +kernel
theorem dX3_cut_11 : decode cX3_cut 11 = .ok (.aload_n 0, 1) := by decide +kernel
theorem dX3_cut_12 : decode cX3_cut 12 = .ok (.getfield 9, 3) := by decide +kernel
theorem dX3_cut_15 : decode cX3_cut 15 = .ok (.invokestatic 34, 3) := by decide +kernel
theorem dX3_cut_18 : decode cX3_cut 18 = .ok (.lstore_n 1, 1) := by decide +kernel
theorem dX3_cut_19 : decode cX3_cut 19 = .ok (.lload_n 1, 1) := by decide +kernel
theorem dX3_cut_20 : decode cX3_cut 20 = .ok (.aload_n 0, 1) := by decide +kernel
theorem dX3_cut_21 : decode cX3_cut 21 = .ok (.getfield 15, 3) := by decide +kernel
theorem dX3_cut_24 : decode cX3_cut 24 = .ok (.ldiv, 1) := by decide +kernel
theorem dX3_cut_25 : decode cX3_cut 25 = .ok (.lstore_n 3, 1) := by decide +kernel
theorem dX3_cut_26 : decode cX3_cut 26 = .ok (.lload_n 1, 1) := by decide +kernel
theorem dX3_cut_27 : decode cX3_cut 27 = .ok (.aload_n 0, 1) := by decide +kernel
theorem dX3_cut_28 : decode cX3_cut 28 = .ok (.getfield 15, 3) := by decide +kernel
theorem dX3_cut_31 : decode cX3_cut 31 = .ok (.lrem, 1) := by decide +kernel
theorem dX3_cut_32 : decode cX3_cut 32 = .ok (.lstore 5, 2) := by decide +kernel
theorem dX3_cut_34 : decode cX3_cut 34 = .ok (.iconst 0, 1) := by decide +kernel
theorem dX3_cut_35 : decode cX3_cut 35 = .ok (.istore 7, 2) := by decide +kernel
theorem dX3_cut_37 : decode cX3_cut 37 = .ok (.iload 7, 2) := by decide +kernel
theorem dX3_cut_39 : decode cX3_cut 39 = .ok (.aload_n 0, 1) := by decide +kernel
theorem dX3_cut_40 : decode cX3_cut 40 = .ok (.getfield 18, 3) := by decide +kernel
theorem dX3_cut_43 : decode cX3_cut 43 = .ok (.if_icmp .ge 40, 3) := by decide +kernel
theorem dX3_cut_46 : decode cX3_cut 46 = .ok (.lload 5, 2) := by decide +kernel
theorem dX3_cut_48 : decode cX3_cut 48 = .ok (.ldc2_w 40, 3) := by decide +kernel
theorem dX3_cut_51 : decode cX3_cut 51 = .ok (.lmul, 1) := by decide +kernel
theorem dX3_cut_52 : decode cX3_cut 52 = .ok (.lstore 5, 2) := by decide +kernel
theorem dX3_cut_54 : decode cX3_cut 54 = .ok (.lload_n 3, 1) := by decide +kernel
theorem dX3_cut_55 : decode cX3_cut 55 = .ok (.ldc2_w 40, 3) := by decide +kernel
theorem dX3_cut_58 : decode cX3_cut 58 = .ok (.lmul, 1) := by decide +kernel
theorem dX3_cut_59 : decode cX3_cut 59 = .ok (.lload 5, 2) := by decide +kernel
theorem dX3_cut_61 : decode cX3_cut 61 = .ok (.aload_n 0, 1) := by decide +kernel
theorem dX3_cut_62 : decode cX3_cut 62 = .ok (.getfield 15, 3) := by decide +kernel
theorem dX3_cut_65 : decode cX3_cut 65 = .ok (.ldiv, 1) := by decide +kernel
theorem dX3_cut_66 : decode cX3_cut 66 = .ok (.ladd, 1) := by decide +kernel
theorem dX3_cut_67 : decode cX3_cut 67 = .ok (.lstore_n 3, 1) := by decide +kernel
theorem dX3_cut_68 : decode cX3_cut 68 = .ok (.lload 5, 2) := by decide +kernel
theorem dX3_cut_70 : decode cX3_cut 70 = .ok (.aload_n 0, 1) := by decide +kernel
theorem dX3_cut_71 : decode cX3_cut 71 = .ok (.getfield 15, 3) := by decide +kernel
theorem dX3_cut_74 : decode cX3_cut 74 = .ok (.lrem, 1) := by decide +kernel
theorem dX3_cut_75 : decode cX3_cut 75 = .ok (.lstore 5, 2) := by decide +kernel
theorem dX3_cut_77 : decode cX3_cut 77 = .ok (.iinc 7 1, 3) := by decide +kernel
theorem dX3_cut_80 : decode cX3_cut 80 = .ok (.goto (-43), 3) := by decide +kernel
theorem dX3_cut_83 : decode cX3_cut 83 = .ok (.iconst 0, 1) := by decide +kernel
theorem dX3_cut_84 : decode cX3_cut 84 = .ok (.istore 7, 2) := by decide +kernel
theorem dX3_cut_86 : decode cX3_cut 86 = .ok (.iload 7, 2) := by decide +kernel
theorem dX3_cut_88 : decode cX3_cut 88 = .ok (.aload_n 0, 1) := by decide +kernel
theorem dX3_cut_89 : decode cX3_cut 89 = .ok (.getfield 18, 3) := by decide +kernel
theorem dX3_cut_92 : decode cX3_cut 92 = .ok (.if_icmp .le 15, 3) := by decide +kernel
theorem dX3_cut_95 : decode cX3_cut 95 = .ok (.lload_n 3, 1) := by decide +kernel
theorem dX3_cut_96 : decode cX3_cut 96 = .ok (.ldc2_w 40, 3) := by decide +kernel
theorem dX3_cut_99 : decode cX3_cut 99 = .ok (.ldiv, 1) := by decide +kernel
theorem dX3_cut_100 : decode cX3_cut 100 = .ok (.lstore_n 3, 1) := by decide +kernel
theorem dX3_cut_101 : decode cX3_cut 101 = .ok (.iinc 7 (-1), 3) := by decide +kernel
theorem dX3_cut_104 : decode cX3_cut 104 = .ok (.goto (-18), 3) := by decide +kernel
theorem dX3_cut_107 : decode cX3_cut 107 = .ok (.aload_n 0, 1) := by decide +kernel
theorem dX3_cut_108 : decode cX3_cut 108 = .ok (.getfield 9, 3) := by decide +kernel
theorem dX3_cut_111 : decode cX3_cut 111 = .ok (.lconst 0, 1) := by decide +kernel
theorem dX3_cut_112 : decode cX3_cut 112 = .ok (.lcmp, 1) := by decide +kernel
theorem dX3_cut_113 : decode cX3_cut 113 = .ok (.ifCond .ge 8, 3) := by decide +kernel
theorem dX3_cut_116 : decode cX3_cut 116 = .ok (.lload_n 3, 1) := by decide +kernel
theorem dX3_cut_117 : decode cX3_cut 117 = .ok (.lneg, 1) := by decide +kernel
theorem dX3_cut_118 : decode cX3_cut 118 = .ok (.goto 4, 3) := by decide +kernel
theorem dX3_cut_121 : decode cX3_cut 121 = .ok (.lload_n 3, 1) := by decide +kernel
theorem dX3_cut_122 : decode cX3_cut 122 = .ok (.lreturn, 1) := by decide +kernel

set_option maxRecDepth 10000 in
theorem TX3_cut_0 {d : Nat} {S : fW} {h : fH} {Q : Int64 → fH → Prop} {r0 : Nat}  
    (hs1 : (r0, shX3) ∈ S)
    (sd1 : (0 : Int64) < (h.2.1 r0 1) → ¬ (h.2.1 r0 1) = 0)
    (k1 : (0 : Int64) < (h.2.1 r0 1) → G mX3_cut (d + 1) S (f_PL Q) 37 [(0, .ref r0), (3, .long ((if 0 < (h.2.1 r0 0) then h.2.1 r0 0 else -(h.2.1 r0 0)) / (h.2.1 r0 1))), (5, .long ((if 0 < (h.2.1 r0 0) then h.2.1 r0 0 else -(h.2.1 r0 0)) - (if 0 < (h.2.1 r0 0) then h.2.1 r0 0 else -(h.2.1 r0 0)) / (h.2.1 r0 1) * (h.2.1 r0 1))), (7, .int (0 : Int32))] [] h)
    (k2 : ¬ (0 : Int64) < (h.2.1 r0 1) → Q (0 : Int64) h) :
    OkL (d + 1) mX3_cut S [.ref r0] h Q := by
  refine Ok.of (by decide) (Nat.le_of_ble_eq_true rfl) ?_
  refine G_aload_n 0 rfl dX3_cut_0 rfl ?_
  refine G_getl (k := 1) hs1 (q := (RX3, TX3, 3)) rfl inX3 (by decide) rfl hF_X3_15 dX3_cut_1 ?_
  refine G_lconst (v := 0) dX3_cut_4 (by decide) ?_
  refine G_lif_gt (tgt := 11) dX3_cut_5 dX3_cut_6 (by decide) (fun c1 => ?_) (fun c1 => ?_)
  · refine G_aload_n 0 rfl dX3_cut_11 rfl ?_
    refine G_getl (k := 0) hs1 (q := (RX3, TX3, 3)) rfl inX3 (by decide) rfl hF_X3_9 dX3_cut_12 ?_
    refine G_mabs hL_X3_34 (Nat.le_of_ble_eq_true rfl) dX3_cut_15 ?_
    refine G_lstore_n dX3_cut_18 rfl (by decide) (lv' := [(1, .long (if 0 < (h.2.1 r0 0) then h.2.1 r0 0 else -(h.2.1 r0 0))), (0, .ref r0)]) rfl ?_
    refine G_lload_n 0 rfl dX3_cut_19 rfl ?_
    refine G_aload_n 1 rfl dX3_cut_20 rfl ?_
    refine G_getl (k := 1) hs1 (q := (RX3, TX3, 3)) rfl inX3 (by decide) rfl hF_X3_15 dX3_cut_21 ?_
    refine G_ldiv dX3_cut_24 (sd1 c1) ?_
    refine G_lstore_n dX3_cut_25 rfl (by decide) (lv' := [(3, .long ((if 0 < (h.2.1 r0 0) then h.2.1 r0 0 else -(h.2.1 r0 0)) / (h.2.1 r0 1))), (1, .long (if 0 < (h.2.1 r0 0) then h.2.1 r0 0 else -(h.2.1 r0 0))), (0, .ref r0)]) rfl ?_
    refine G_lload_n 1 rfl dX3_cut_26 rfl ?_
    refine G_aload_n 2 rfl dX3_cut_27 rfl ?_
    refine G_getl (k := 1) hs1 (q := (RX3, TX3, 3)) rfl inX3 (by decide) rfl hF_X3_15 dX3_cut_28 ?_
    refine G_lrem dX3_cut_31 (sd1 c1) ?_
    refine G_lstore dX3_cut_32 (by decide) (lv' := [(5, .long ((if 0 < (h.2.1 r0 0) then h.2.1 r0 0 else -(h.2.1 r0 0)) - (if 0 < (h.2.1 r0 0) then h.2.1 r0 0 else -(h.2.1 r0 0)) / (h.2.1 r0 1) * (h.2.1 r0 1))), (3, .long ((if 0 < (h.2.1 r0 0) then h.2.1 r0 0 else -(h.2.1 r0 0)) / (h.2.1 r0 1))), (1, .long (if 0 < (h.2.1 r0 0) then h.2.1 r0 0 else -(h.2.1 r0 0))), (0, .ref r0)]) rfl ?_
    refine G_iconst (v := 0) dX3_cut_34 (by decide) ?_
    refine G_istore dX3_cut_35 (by decide) (lv' := [(7, .int (0 : Int32)), (5, .long ((if 0 < (h.2.1 r0 0) then h.2.1 r0 0 else -(h.2.1 r0 0)) - (if 0 < (h.2.1 r0 0) then h.2.1 r0 0 else -(h.2.1 r0 0)) / (h.2.1 r0 1) * (h.2.1 r0 1))), (3, .long ((if 0 < (h.2.1 r0 0) then h.2.1 r0 0 else -(h.2.1 r0 0)) / (h.2.1 r0 1))), (1, .long (if 0 < (h.2.1 r0 0) then h.2.1 r0 0 else -(h.2.1 r0 0))), (0, .ref r0)]) rfl ?_
    exact G_sub [4, 2, 1, 0] rfl (k1 c1)
  · refine G_lconst (v := 0) dX3_cut_9 (by decide) ?_
    exact G_lret rfl dX3_cut_10 ⟨_, rfl, (k2 c1)⟩

set_option maxRecDepth 10000 in
theorem TX3_cut_37 {d : Nat} {S : fW} {h : fH} {Q : Int64 → fH → Prop} {r0 : Nat} {x3 : Int64} {x5 : Int64} {x7 : Int32}  
    (hs1 : (r0, shX3) ∈ S)
    (k1 : (h.1 r0 2) ≤ x7 → G mX3_cut (d + 1) S (f_PL Q) 86 [(0, .ref r0), (3, .long x3), (7, .int (0 : Int32))] [] h)
    (sd1 : ¬ (h.1 r0 2) ≤ x7 → ¬ (h.2.1 r0 1) = 0)
    (k2 : ¬ (h.1 r0 2) ≤ x7 → G mX3_cut (d + 1) S (f_PL Q) 37 [(0, .ref r0), (3, .long ((x3 * (10 : Int64)) + ((x5 * (10 : Int64)) / (h.2.1 r0 1)))), (5, .long ((x5 * (10 : Int64)) - (x5 * (10 : Int64)) / (h.2.1 r0 1) * (h.2.1 r0 1))), (7, .int (x7 + 1))] [] h) :
    G mX3_cut (d + 1) S (f_PL Q) 37 [(0, .ref r0), (3, .long x3), (5, .long x5), (7, .int x7)] [] h := by
  refine G_iload 3 rfl dX3_cut_37 ?_
  refine G_aload_n 0 rfl dX3_cut_39 rfl ?_
  refine G_geti (k := 2) hs1 (q := (RX3, TX3, 3)) rfl inX3 (by decide) (Or.inl rfl) hF_X3_18 dX3_cut_40 ?_
  refine G_icmp_ge (tgt := 83) dX3_cut_43 (by decide) (fun c1 => ?_) (fun c1 => ?_)
  · refine G_iconst (v := 0) dX3_cut_83 (by decide) ?_
    refine G_istore dX3_cut_84 (by decide) (lv' := [(7, .int (0 : Int32)), (0, .ref r0), (3, .long x3), (5, .long x5)]) rfl ?_
    exact G_sub [1, 2, 0] rfl (k1 c1)
  · refine G_lload 2 rfl dX3_cut_46 ?_
    refine G_ldc2 hK_X3_40 dX3_cut_48 ?_
    refine G_lmul dX3_cut_51 ?_
    refine G_lstore dX3_cut_52 (by decide) (lv' := [(5, .long (x5 * (10 : Int64))), (0, .ref r0), (3, .long x3), (7, .int x7)]) rfl ?_
    refine G_lload_n 2 rfl dX3_cut_54 rfl ?_
    refine G_ldc2 hK_X3_40 dX3_cut_55 ?_
    refine G_lmul dX3_cut_58 ?_
    refine G_lload 0 rfl dX3_cut_59 ?_
    refine G_aload_n 1 rfl dX3_cut_61 rfl ?_
    refine G_getl (k := 1) hs1 (q := (RX3, TX3, 3)) rfl inX3 (by decide) rfl hF_X3_15 dX3_cut_62 ?_
    refine G_ldiv dX3_cut_65 (sd1 c1) ?_
    refine G_ladd dX3_cut_66 ?_
    refine G_lstore_n dX3_cut_67 rfl (by decide) (lv' := [(3, .long ((x3 * (10 : Int64)) + ((x5 * (10 : Int64)) / (h.2.1 r0 1)))), (5, .long (x5 * (10 : Int64))), (0, .ref r0), (7, .int x7)]) rfl ?_
    refine G_lload 1 rfl dX3_cut_68 ?_
    refine G_aload_n 2 rfl dX3_cut_70 rfl ?_
    refine G_getl (k := 1) hs1 (q := (RX3, TX3, 3)) rfl inX3 (by decide) rfl hF_X3_15 dX3_cut_71 ?_
    refine G_lrem dX3_cut_74 (sd1 c1) ?_
    refine G_lstore dX3_cut_75 (by decide) (lv' := [(5, .long ((x5 * (10 : Int64)) - (x5 * (10 : Int64)) / (h.2.1 r0 1) * (h.2.1 r0 1))), (3, .long ((x3 * (10 : Int64)) + ((x5 * (10 : Int64)) / (h.2.1 r0 1)))), (0, .ref r0), (7, .int x7)]) rfl ?_
    refine G_iinc (v := 1) 3 rfl dX3_cut_77 (by decide) (by decide) (lv' := [(7, .int (x7 + 1)), (5, .long ((x5 * (10 : Int64)) - (x5 * (10 : Int64)) / (h.2.1 r0 1) * (h.2.1 r0 1))), (3, .long ((x3 * (10 : Int64)) + ((x5 * (10 : Int64)) / (h.2.1 r0 1)))), (0, .ref r0)]) rfl ?_
    refine G_goto (tgt := 37) dX3_cut_80 (by decide) ?_
    exact G_sub [3, 2, 1, 0] rfl (k2 c1)

set_option maxRecDepth 10000 in
theorem TX3_cut_86 {d : Nat} {S : fW} {h : fH} {Q : Int64 → fH → Prop} {r0 : Nat} {x3 : Int64} {x7 : Int32}  
    (hs1 : (r0, shX3) ∈ S)
    (k1 : x7 ≤ (h.1 r0 2) → (0 : Int64) ≤ (h.2.1 r0 0) → Q x3 h)
    (k2 : x7 ≤ (h.1 r0 2) → ¬ (0 : Int64) ≤ (h.2.1 r0 0) → Q (-x3) h)
    (k3 : ¬ x7 ≤ (h.1 r0 2) → G mX3_cut (d + 1) S (f_PL Q) 86 [(0, .ref r0), (3, .long (x3 / (10 : Int64))), (7, .int (x7 + (-1)))] [] h) :
    G mX3_cut (d + 1) S (f_PL Q) 86 [(0, .ref r0), (3, .long x3), (7, .int x7)] [] h := by
  refine G_iload 2 rfl dX3_cut_86 ?_
  refine G_aload_n 0 rfl dX3_cut_88 rfl ?_
  refine G_geti (k := 2) hs1 (q := (RX3, TX3, 3)) rfl inX3 (by decide) (Or.inl rfl) hF_X3_18 dX3_cut_89 ?_
  refine G_icmp_le (tgt := 107) dX3_cut_92 (by decide) (fun c1 => ?_) (fun c1 => ?_)
  · refine G_aload_n 0 rfl dX3_cut_107 rfl ?_
    refine G_getl (k := 0) hs1 (q := (RX3, TX3, 3)) rfl inX3 (by decide) rfl hF_X3_9 dX3_cut_108 ?_
    refine G_lconst (v := 0) dX3_cut_111 (by decide) ?_
    refine G_lif_ge (tgt := 121) dX3_cut_112 dX3_cut_113 (by decide) (fun c2 => ?_) (fun c2 => ?_)
    · refine G_lload_n 1 rfl dX3_cut_121 rfl ?_
      exact G_lret rfl dX3_cut_122 ⟨_, rfl, (k1 c1 c2)⟩
    · refine G_lload_n 1 rfl dX3_cut_116 rfl ?_
      refine G_lneg dX3_cut_117 ?_
      refine G_goto (tgt := 122) dX3_cut_118 (by decide) ?_
      exact G_lret rfl dX3_cut_122 ⟨_, rfl, (k2 c1 c2)⟩
  · refine G_lload_n 1 rfl dX3_cut_95 rfl ?_
    refine G_ldc2 hK_X3_40 dX3_cut_96 ?_
    refine G_ldiv dX3_cut_99 (by decide) ?_
    refine G_lstore_n dX3_cut_100 rfl (by decide) (lv' := [(3, .long (x3 / (10 : Int64))), (0, .ref r0), (7, .int x7)]) rfl ?_
    refine G_iinc (v := -1) 2 rfl dX3_cut_101 (by decide) (by decide) (lv' := [(7, .int (x7 + (-1))), (3, .long (x3 / (10 : Int64))), (0, .ref r0)]) rfl ?_
    refine G_goto (tgt := 86) dX3_cut_104 (by decide) ?_
    exact G_sub [2, 1, 0] rfl (k3 c1)
end
section
-- LostDigits$Rounding.turn
theorem dX4_turn_0 : decode cX4_turn 0 = .ok (.aload_n 0, 1) := by decide +kernel
theorem dX4_turn_1 : decode cX4_turn 1 = .ok (.iload_n 1, 1) := by decide +kernel
theorem dX4_turn_2 : decode cX4_turn 2 = .ok (.putfield 9, 3) := by decide +kernel
theorem dX4_turn_5 : decode cX4_turn 5 = .ok (.aload_n 0, 1) := by decide +kernel
theorem dX4_turn_6 : decode cX4_turn 6 = .ok (.iload_n 2, 1) := by decide +kernel
theorem dX4_turn_7 : decode cX4_turn 7 = .ok (.putfield 15, 3) := by decide +kernel
theorem dX4_turn_10 : decode cX4_turn 10 = .ok (.return_, 1) := by decide +kernel

set_option maxRecDepth 10000 in
theorem TX4_turn_0 {d : Nat} {S : fW} {h : fH} {Q : fH → Prop} {r0 : Nat} {x1 : Int32} {x2 : Int32}  
    (hs1 : (r0, shX4) ∈ S)
    (k1 : Q (u_fi (u_fi h r0 0 x1) r0 1 x2)) :
    OkV d mX4_turn S [.ref r0, .int x1, .int x2] h Q := by
  refine Ok.of (by decide) (Nat.le_of_ble_eq_true rfl) ?_
  refine G_aload_n 0 rfl dX4_turn_0 rfl ?_
  refine G_iload_n 1 rfl dX4_turn_1 rfl ?_
  refine G_puti (k := 0) tyX4 hs1 (q := (RX4, TX4, 3)) rfl inX4 tyX4_ok nmX4 (by decide) rfl rfl rfl hF_X4_9 dX4_turn_2 ?_
  refine G_aload_n 0 rfl dX4_turn_5 rfl ?_
  refine G_iload_n 2 rfl dX4_turn_6 rfl ?_
  refine G_puti (k := 1) tyX4 hs1 (q := (RX4, TX4, 3)) rfl inX4 tyX4_ok nmX4 (by decide) rfl rfl rfl hF_X4_15 dX4_turn_7 ?_
  exact G_vret rfl dX4_turn_10 ⟨rfl, (k1)⟩

-- LostDigits$Rounding.of
theorem dX4_of_0 : decode cX4_of 0 = .ok (.aload_n 1, 1) := by decide +kernel
theorem dX4_of_1 : decode cX4_of 1 = .ok (.getfield 22, 3) := by decide +kernel
theorem dX4_of_4 : decode cX4_of 4 = .ok (.lconst 0, 1) := by decide +kernel
theorem dX4_of_5 : decode cX4_of 5 = .ok (.lcmp, 1) := by decide +kernel
theorem dX4_of_6 : decode cX4_of 6 = .ok (.ifCond .ne 5, 3) := by decide +kernel
theorem dX4_of_9 : decode cX4_of 9 = .ok (.lconst 0, 1) := by decide +kernel
theorem dX4_of_10 : decode cX4_of 10 = .ok (.lreturn, 1) := by decide +kernel
theorem dX4_of_11 : decode cX4_of 11 = .ok (.aload_n 1, 1) := by decide +kernel
theorem dX4_of_12 : decode cX4_of 12 = .ok (.getfield 22, 3) := by decide +kernel
theorem dX4_of_15 : decode cX4_of 15 = .ok (.lconst 0, 1) := by decide +kernel
theorem dX4_of_16 : decode cX4_of 16 = .ok (.lcmp, 1) := by decide +kernel
theorem dX4_of_17 : decode cX4_of 17 = .ok (.ifCond .ge 7, 3) := by decide +kernel
theorem dX4_of_20 : decode cX4_of 20 = .ok (.iconst 1, 1) := by decide +kernel
theorem dX4_of_21 : decode cX4_of 21 = .ok (.goto 4, 3) := by decide +kernel
theorem dX4_of_24 : decode cX4_of 24 = .ok (.iconst 0, 1) := by decide +kernel
theorem dX4_of_25 : decode cX4_of 25 = .ok (.istore_n 2, 1) := by decide +kernel
theorem dX4_of_26 : decode cX4_of 26 = .ok (.aload_n 1, 1) := by decide +kernel
theorem dX4_of_27 : decode cX4_of 27 = .ok (.getfield 22, 3) := by decide +kernel
theorem dX4_of_30 : decode cX4_of 30 = .ok (.invokestatic 28, 3) := by decide +kernel
theorem dX4_of_33 : decode cX4_of 33 = .ok (.lstore_n 3, 1) := by decide +kernel
theorem dX4_of_34 : decode cX4_of 34 = .ok (.aload_n 1, 1) := by decide +kernel
theorem dX4_of_35 : decode cX4_of 35 = .ok (.getfield 34, 3) := by decide +kernel
theorem dX4_of_38 : decode cX4_of 38 = .ok (.lstore 5, 2) := by decide +kernel
theorem dX4_of_40 : decode cX4_of 40 = .ok (.aload_n 1, 1) := by decide +kernel
theorem dX4_of_41 : decode cX4_of 41 = .ok (.getfield 37, 3) := by decide +kernel
theorem dX4_of_44 : decode cX4_of 44 = .ok (.istore 7, 2) := by decide +kernel
theorem dX4_of_46 : decode cX4_of 46 = .ok (.iconst 0, 1) := by decide +kernel
theorem dX4_of_47 : decode cX4_of 47 = .ok (.istore 8, 2) := by decide +kernel
theorem dX4_of_49 : decode cX4_of 49 = .ok (.iload 8, 2) := by decide +kernel
theorem dX4_of_51 : decode cX4_of 51 = .ok (.iconst 3, 1) := by decide +kernel
theorem dX4_of_52 : decode cX4_of 52 = .ok (.if_icmp .ge 31, 3) := by decide +kernel
theorem dX4_of_55 : decode cX4_of 55 = .ok (.lload_n 3, 1) := by decide +kernel
theorem dX4_of_56 : decode cX4_of 56 = .ok (.ldc2_w 40, 3) := by decide +kernel
theorem dX4_of_59 : decode cX4_of 59 = .ok (.ldiv, 1) := by decide +kernel
theorem dX4_of_60 : decode cX4_of 60 = .ok (.lload 5, 2) := by decide +kernel
theorem dX4_of_62 : decode cX4_of 62 = .ok (.lcmp, 1) := by decide +kernel
theorem dX4_of_63 : decode cX4_of 63 = .ok (.ifCond .lt 20, 3) := by decide +kernel
theorem dX4_of_66 : decode cX4_of 66 = .ok (.lload 5, 2) := by decide +kernel
theorem dX4_of_68 : decode cX4_of 68 = .ok (.ldc2_w 40, 3) := by decide +kernel
theorem dX4_of_71 : decode cX4_of 71 = .ok (.lmul, 1) := by decide +kernel
theorem dX4_of_72 : decode cX4_of 72 = .ok (.lstore 5, 2) := by decide +kernel
theorem dX4_of_74 : decode cX4_of 74 = .ok (.iinc 7 5, 3) := by decide +kernel
theorem dX4_of_77 : decode cX4_of 77 = .ok (.iinc 8 1, 3) := by decide +kernel
theorem dX4_of_80 : decode cX4_of 80 = .ok (.goto (-31), 3) := by decide +kernel
theorem dX4_of_83 : decode cX4_of 83 = .ok (.iconst 0, 1) := by decide +kernel
theorem dX4_of_84 : decode cX4_of 84 = .ok (.istore 8, 2) := by decide +kernel
theorem dX4_of_86 : decode cX4_of 86 = .ok (.iload 8, 2) := by decide +kernel
theorem dX4_of_88 : decode cX4_of 88 = .ok (.bipush 16, 2) := by decide +kernel
theorem dX4_of_90 : decode cX4_of 90 = .ok (.if_icmp .ge 31, 3) := by decide +kernel
theorem dX4_of_93 : decode cX4_of 93 = .ok (.lload_n 3, 1) := by decide +kernel
theorem dX4_of_94 : decode cX4_of 94 = .ok (.ldc2_w 42, 3) := by decide +kernel
theorem dX4_of_97 : decode cX4_of 97 = .ok (.ldiv, 1) := by decide +kernel
theorem dX4_of_98 : decode cX4_of 98 = .ok (.lload 5, 2) := by decide +kernel
theorem dX4_of_100 : decode cX4_of 100 = .ok (.lcmp, 1) := by decide +kernel
theorem dX4_of_101 : decode cX4_of 101 = .ok (.ifCond .lt 20, 3) := by decide +kernel
theorem dX4_of_104 : decode cX4_of 104 = .ok (.lload 5, 2) := by decide +kernel
theorem dX4_of_106 : decode cX4_of 106 = .ok (.ldc2_w 42, 3) := by decide +kernel
theorem dX4_of_109 : decode cX4_of 109 = .ok (.lmul, 1) := by decide +kernel
theorem dX4_of_110 : decode cX4_of 110 = .ok (.lstore 5, 2) := by decide +kernel
theorem dX4_of_112 : decode cX4_of 112 = .ok (.iinc 7 1, 3) := by decide +kernel
theorem dX4_of_115 : decode cX4_of 115 = .ok (.iinc 8 1, 3) := by decide +kernel
theorem dX4_of_118 : decode cX4_of 118 = .ok (.goto (-32), 3) := by decide +kernel
theorem dX4_of_121 : decode cX4_of 121 = .ok (.iconst 0, 1) := by decide +kernel
theorem dX4_of_122 : decode cX4_of 122 = .ok (.istore 8, 2) := by decide +kernel
theorem dX4_of_124 : decode cX4_of 124 = .ok (.iload 8, 2) := by decide +kernel
theorem dX4_of_126 : decode cX4_of 126 = .ok (.bipush 16, 2) := by decide +kernel
theorem dX4_of_128 : decode cX4_of 128 = .ok (.if_icmp .ge 25, 3) := by decide +kernel
theorem dX4_of_131 : decode cX4_of 131 = .ok (.lload_n 3, 1) := by decide +kernel
theorem dX4_of_132 : decode cX4_of 132 = .ok (.lload 5, 2) := by decide +kernel
theorem dX4_of_134 : decode cX4_of 134 = .ok (.lcmp, 1) := by decide +kernel
theorem dX4_of_135 : decode cX4_of 135 = .ok (.ifCond .ge 18, 3) := by decide +kernel
theorem dX4_of_138 : decode cX4_of 138 = .ok (.lload_n 3, 1) := by decide +kernel
theorem dX4_of_139 : decode cX4_of 139 = .ok (.ldc2_w 42, 3) := by decide +kernel
theorem dX4_of_142 : decode cX4_of 142 = .ok (.lmul, 1) := by decide +kernel
theorem dX4_of_143 : decode cX4_of 143 = .ok (.lstore_n 3, 1) := by decide +kernel
theorem dX4_of_144 : decode cX4_of 144 = .ok (.iinc 7 (-1), 3) := by decide +kernel
theorem dX4_of_147 : decode cX4_of 147 = .ok (.iinc 8 1, 3) := by decide +kernel
theorem dX4_of_150 : decode cX4_of 150 = .ok (.goto (-26), 3) := by decide +kernel
theorem dX4_of_153 : decode cX4_of 153 = .ok (.lload 5, 2) := by decide +kernel
theorem dX4_of_155 : decode cX4_of 155 = .ok (.lconst 0, 1) := by decide +kernel
theorem dX4_of_156 : decode cX4_of 156 = .ok (.lcmp, 1) := by decide +kernel
theorem dX4_of_157 : decode cX4_of 157 = .ok (.ifCond .gt 5, 3) := by decide +kernel
theorem dX4_of_160 : decode cX4_of 160 = .ok (.lconst 0, 1) := by decide +kernel
theorem dX4_of_161 : decode cX4_of 161 = .ok (.lreturn, 1) := by decide +kernel
theorem dX4_of_162 : decode cX4_of 162 = .ok (.lload_n 3, 1) := by decide +kernel
theorem dX4_of_163 : decode cX4_of 163 = .ok (.lload 5, 2) := by decide +kernel
theorem dX4_of_165 : decode cX4_of 165 = .ok (.ldiv, 1) := by decide +kernel
theorem dX4_of_166 : decode cX4_of 166 = .ok (.lstore 8, 2) := by decide +kernel
theorem dX4_of_168 : decode cX4_of 168 = .ok (.lload_n 3, 1) := by decide +kernel
theorem dX4_of_169 : decode cX4_of 169 = .ok (.lload 5, 2) := by decide +kernel
theorem dX4_of_171 : decode cX4_of 171 = .ok (.lrem, 1) := by decide +kernel
theorem dX4_of_172 : decode cX4_of 172 = .ok (.lstore 10, 2) := by decide +kernel
theorem dX4_of_174 : decode cX4_of 174 = .ok (.iconst 1, 1) := by decide +kernel
theorem dX4_of_175 : decode cX4_of 175 = .ok (.istore 12, 2) := by decide +kernel
theorem dX4_of_177 : decode cX4_of 177 = .ok (.iload 12, 2) := by decide +kernel
theorem dX4_of_179 : decode cX4_of 179 = .ok (.aload_n 0, 1) := by decide +kernel
theorem dX4_of_180 : decode cX4_of 180 = .ok (.getfield 9, 3) := by decide +kernel
theorem dX4_of_183 : decode cX4_of 183 = .ok (.if_icmp .ge 41, 3) := by decide +kernel
theorem dX4_of_186 : decode cX4_of 186 = .ok (.lload 10, 2) := by decide +kernel
theorem dX4_of_188 : decode cX4_of 188 = .ok (.ldc2_w 42, 3) := by decide +kernel
theorem dX4_of_191 : decode cX4_of 191 = .ok (.lmul, 1) := by decide +kernel
theorem dX4_of_192 : decode cX4_of 192 = .ok (.lstore 10, 2) := by decide +kernel
theorem dX4_of_194 : decode cX4_of 194 = .ok (.lload 8, 2) := by decide +kernel
theorem dX4_of_196 : decode cX4_of 196 = .ok (.ldc2_w 42, 3) := by decide +kernel
theorem dX4_of_199 : decode cX4_of 199 = .ok (.lmul, 1) := by decide +kernel
theorem dX4_of_200 : decode cX4_of 200 = .ok (.lload 10, 2) := by decide +kernel
theorem dX4_of_202 : decode cX4_of 202 = .ok (.lload 5, 2) := by decide +kernel
theorem dX4_of_204 : decode cX4_of 204 = .ok (.ldiv, 1) := by decide +kernel
theorem dX4_of_205 : decode cX4_of 205 = .ok (.ladd, 1) := by decide +kernel
theorem dX4_of_206 : decode cX4_of 206 = .ok (.lstore 8, 2) := by decide +kernel
theorem dX4_of_208 : decode cX4_of 208 = .ok (.lload 10, 2) := by decide +kernel
theorem dX4_of_210 : decode cX4_of 210 = .ok (.lload 5, 2) := by decide +kernel
theorem dX4_of_212 : decode cX4_of 212 = .ok (.lrem, 1) := by decide +kernel
theorem dX4_of_213 : decode cX4_of 213 = .ok (.lstore 10, 2) := by decide +kernel
theorem dX4_of_215 : decode cX4_of 215 = .ok (.iinc 7 (-1), 3) := by decide +kernel
theorem dX4_of_218 : decode cX4_of 218 = .ok (.iinc 12 1, 3) := by decide +kernel
theorem dX4_of_221 : decode cX4_of 221 = .ok (.goto (-44), 3) := by decide +kernel
theorem dX4_of_224 : decode cX4_of 224 = .ok (.aload_n 0, 1) := by decide +kernel
theorem dX4_of_225 : decode cX4_of 225 = .ok (.aload_n 0, 1) := by decide +kernel
theorem dX4_of_226 : decode cX4_of 226 = .ok (.lload 8, 2) := by decide +kernel
theorem dX4_of_228 : decode cX4_of 228 = .ok (.lload 10, 2) := by decide +kernel
theorem dX4_of_230 : decode cX4_of 230 = .ok (.lload 5, 2) := by decide +kernel
theorem dX4_of_232 : decode cX4_of 232 = .ok (.iload_n 2, 1) := by decide +kernel
theorem dX4_of_233 : decode cX4_of 233 = .ok (.invokevirtual 44, 3) := by decide +kernel
theorem dX4_of_236 : decode cX4_of 236 = .ok (.ifCond .eq 10, 3) := by decide +kernel
theorem dX4_of_239 : decode cX4_of 239 = .ok (.lload 8, 2) := by decide +kernel
theorem dX4_of_241 : decode cX4_of 241 = .ok (.lconst 1, 1) := by decide +kernel
theorem dX4_of_242 : decode cX4_of 242 = .ok (.ladd, 1) := by decide +kernel
theorem dX4_of_243 : decode cX4_of 243 = .ok (.goto 5, 3) := by decide +kernel
theorem dX4_of_246 : decode cX4_of 246 = .ok (.lload 8, 2) := by decide +kernel
theorem dX4_of_248 : decode cX4_of 248 = .ok (.iload 7, 2) := by decide +kernel
theorem dX4_of_250 : decode cX4_of 250 = .ok (.iload_n 2, 1) := by decide +kernel
theorem dX4_of_251 : decode cX4_of 251 = .ok (.invokevirtual 48, 3) := by decide +kernel
theorem dX4_of_254 : decode cX4_of 254 = .ok (.lreturn, 1) := by decide +kernel

set_option maxRecDepth 10000 in
theorem TX4_of_0 {d : Nat} {S : fW} {h : fH} {Q : Int64 → fH → Prop} {r0 : Nat} {r1 : Nat}  
    (hs1 : (r1, shX3) ∈ S)
    (k1 : ¬ (h.2.1 r1 0) = (0 : Int64) → (0 : Int64) ≤ (h.2.1 r1 0) → G mX4_of (d + 1) S (f_PL Q) 49 [(0, .ref r0), (2, .int (0 : Int32)), (3, .long (if 0 < (h.2.1 r1 0) then h.2.1 r1 0 else -(h.2.1 r1 0))), (5, .long (h.2.1 r1 1)), (7, .int (h.1 r1 2)), (8, .int (0 : Int32))] [] h)
    (k2 : ¬ (h.2.1 r1 0) = (0 : Int64) → ¬ (0 : Int64) ≤ (h.2.1 r1 0) → G mX4_of (d + 1) S (f_PL Q) 49 [(0, .ref r0), (2, .int (1 : Int32)), (3, .long (if 0 < (h.2.1 r1 0) then h.2.1 r1 0 else -(h.2.1 r1 0))), (5, .long (h.2.1 r1 1)), (7, .int (h.1 r1 2)), (8, .int (0 : Int32))] [] h)
    (k3 : (h.2.1 r1 0) = (0 : Int64) → Q (0 : Int64) h) :
    OkL (d + 1) mX4_of S [.ref r0, .ref r1] h Q := by
  refine Ok.of (by decide) (Nat.le_of_ble_eq_true rfl) ?_
  refine G_aload_n 1 rfl dX4_of_0 rfl ?_
  refine G_getl (k := 0) hs1 (q := (RX3, TX3, 3)) rfl inX3 (by decide) rfl hF_X4_22 dX4_of_1 ?_
  refine G_lconst (v := 0) dX4_of_4 (by decide) ?_
  refine G_lif_ne (tgt := 11) dX4_of_5 dX4_of_6 (by decide) (fun c1 => ?_) (fun c1 => ?_)
  · refine G_aload_n 1 rfl dX4_of_11 rfl ?_
    refine G_getl (k := 0) hs1 (q := (RX3, TX3, 3)) rfl inX3 (by decide) rfl hF_X4_22 dX4_of_12 ?_
    refine G_lconst (v := 0) dX4_of_15 (by decide) ?_
    refine G_lif_ge (tgt := 24) dX4_of_16 dX4_of_17 (by decide) (fun c2 => ?_) (fun c2 => ?_)
    · refine G_iconst (v := 0) dX4_of_24 (by decide) ?_
      refine G_istore_n dX4_of_25 rfl (by decide) (lv' := [(2, .int (0 : Int32)), (0, .ref r0), (1, .ref r1)]) rfl ?_
      refine G_aload_n 2 rfl dX4_of_26 rfl ?_
      refine G_getl (k := 0) hs1 (q := (RX3, TX3, 3)) rfl inX3 (by decide) rfl hF_X4_22 dX4_of_27 ?_
      refine G_mabs hL_X4_28 (Nat.le_of_ble_eq_true rfl) dX4_of_30 ?_
      refine G_lstore_n dX4_of_33 rfl (by decide) (lv' := [(3, .long (if 0 < (h.2.1 r1 0) then h.2.1 r1 0 else -(h.2.1 r1 0))), (2, .int (0 : Int32)), (0, .ref r0), (1, .ref r1)]) rfl ?_
      refine G_aload_n 3 rfl dX4_of_34 rfl ?_
      refine G_getl (k := 1) hs1 (q := (RX3, TX3, 3)) rfl inX3 (by decide) rfl hF_X4_34 dX4_of_35 ?_
      refine G_lstore dX4_of_38 (by decide) (lv' := [(5, .long (h.2.1 r1 1)), (3, .long (if 0 < (h.2.1 r1 0) then h.2.1 r1 0 else -(h.2.1 r1 0))), (2, .int (0 : Int32)), (0, .ref r0), (1, .ref r1)]) rfl ?_
      refine G_aload_n 4 rfl dX4_of_40 rfl ?_
      refine G_geti (k := 2) hs1 (q := (RX3, TX3, 3)) rfl inX3 (by decide) (Or.inl rfl) hF_X4_37 dX4_of_41 ?_
      refine G_istore dX4_of_44 (by decide) (lv' := [(7, .int (h.1 r1 2)), (5, .long (h.2.1 r1 1)), (3, .long (if 0 < (h.2.1 r1 0) then h.2.1 r1 0 else -(h.2.1 r1 0))), (2, .int (0 : Int32)), (0, .ref r0), (1, .ref r1)]) rfl ?_
      refine G_iconst (v := 0) dX4_of_46 (by decide) ?_
      refine G_istore dX4_of_47 (by decide) (lv' := [(8, .int (0 : Int32)), (7, .int (h.1 r1 2)), (5, .long (h.2.1 r1 1)), (3, .long (if 0 < (h.2.1 r1 0) then h.2.1 r1 0 else -(h.2.1 r1 0))), (2, .int (0 : Int32)), (0, .ref r0), (1, .ref r1)]) rfl ?_
      exact G_sub [5, 4, 3, 2, 1, 0] rfl (k1 c1 c2)
    · refine G_iconst (v := 1) dX4_of_20 (by decide) ?_
      refine G_goto (tgt := 25) dX4_of_21 (by decide) ?_
      refine G_istore_n dX4_of_25 rfl (by decide) (lv' := [(2, .int (1 : Int32)), (0, .ref r0), (1, .ref r1)]) rfl ?_
      refine G_aload_n 2 rfl dX4_of_26 rfl ?_
      refine G_getl (k := 0) hs1 (q := (RX3, TX3, 3)) rfl inX3 (by decide) rfl hF_X4_22 dX4_of_27 ?_
      refine G_mabs hL_X4_28 (Nat.le_of_ble_eq_true rfl) dX4_of_30 ?_
      refine G_lstore_n dX4_of_33 rfl (by decide) (lv' := [(3, .long (if 0 < (h.2.1 r1 0) then h.2.1 r1 0 else -(h.2.1 r1 0))), (2, .int (1 : Int32)), (0, .ref r0), (1, .ref r1)]) rfl ?_
      refine G_aload_n 3 rfl dX4_of_34 rfl ?_
      refine G_getl (k := 1) hs1 (q := (RX3, TX3, 3)) rfl inX3 (by decide) rfl hF_X4_34 dX4_of_35 ?_
      refine G_lstore dX4_of_38 (by decide) (lv' := [(5, .long (h.2.1 r1 1)), (3, .long (if 0 < (h.2.1 r1 0) then h.2.1 r1 0 else -(h.2.1 r1 0))), (2, .int (1 : Int32)), (0, .ref r0), (1, .ref r1)]) rfl ?_
      refine G_aload_n 4 rfl dX4_of_40 rfl ?_
      refine G_geti (k := 2) hs1 (q := (RX3, TX3, 3)) rfl inX3 (by decide) (Or.inl rfl) hF_X4_37 dX4_of_41 ?_
      refine G_istore dX4_of_44 (by decide) (lv' := [(7, .int (h.1 r1 2)), (5, .long (h.2.1 r1 1)), (3, .long (if 0 < (h.2.1 r1 0) then h.2.1 r1 0 else -(h.2.1 r1 0))), (2, .int (1 : Int32)), (0, .ref r0), (1, .ref r1)]) rfl ?_
      refine G_iconst (v := 0) dX4_of_46 (by decide) ?_
      refine G_istore dX4_of_47 (by decide) (lv' := [(8, .int (0 : Int32)), (7, .int (h.1 r1 2)), (5, .long (h.2.1 r1 1)), (3, .long (if 0 < (h.2.1 r1 0) then h.2.1 r1 0 else -(h.2.1 r1 0))), (2, .int (1 : Int32)), (0, .ref r0), (1, .ref r1)]) rfl ?_
      exact G_sub [5, 4, 3, 2, 1, 0] rfl (k2 c1 c2)
  · refine G_lconst (v := 0) dX4_of_9 (by decide) ?_
    exact G_lret rfl dX4_of_10 ⟨_, rfl, (k3 c1)⟩

set_option maxRecDepth 10000 in
theorem TX4_of_49 {d : Nat} {S : fW} {h : fH} {Q : Int64 → fH → Prop} {r0 : Nat} {x2 : Int32} {x3 : Int64} {x5 : Int64} {x7 : Int32} {x8 : Int32}  
    (k1 : (3 : Int32) ≤ x8 → G mX4_of (d + 1) S (f_PL Q) 86 [(0, .ref r0), (2, .int x2), (3, .long x3), (5, .long x5), (7, .int x7), (8, .int (0 : Int32))] [] h)
    (k2 : ¬ (3 : Int32) ≤ x8 → (x3 / (100000 : Int64)) < x5 → G mX4_of (d + 1) S (f_PL Q) 86 [(0, .ref r0), (2, .int x2), (3, .long x3), (5, .long x5), (7, .int x7), (8, .int (0 : Int32))] [] h)
    (k3 : ¬ (3 : Int32) ≤ x8 → ¬ (x3 / (100000 : Int64)) < x5 → G mX4_of (d + 1) S (f_PL Q) 49 [(0, .ref r0), (2, .int x2), (3, .long x3), (5, .long (x5 * (100000 : Int64))), (7, .int (x7 + 5)), (8, .int (x8 + 1))] [] h) :
    G mX4_of (d + 1) S (f_PL Q) 49 [(0, .ref r0), (2, .int x2), (3, .long x3), (5, .long x5), (7, .int x7), (8, .int x8)] [] h := by
  refine G_iload 5 rfl dX4_of_49 ?_
  refine G_iconst (v := 3) dX4_of_51 (by decide) ?_
  refine G_icmp_ge (tgt := 83) dX4_of_52 (by decide) (fun c1 => ?_) (fun c1 => ?_)
  · refine G_iconst (v := 0) dX4_of_83 (by decide) ?_
    refine G_istore dX4_of_84 (by decide) (lv' := [(8, .int (0 : Int32)), (0, .ref r0), (2, .int x2), (3, .long x3), (5, .long x5), (7, .int x7)]) rfl ?_
    exact G_sub [1, 2, 3, 4, 5, 0] rfl (k1 c1)
  · refine G_lload_n 2 rfl dX4_of_55 rfl ?_
    refine G_ldc2 hK_X4_40 dX4_of_56 ?_
    refine G_ldiv dX4_of_59 (by decide) ?_
    refine G_lload 3 rfl dX4_of_60 ?_
    refine G_lif_lt (tgt := 83) dX4_of_62 dX4_of_63 (by decide) (fun c2 => ?_) (fun c2 => ?_)
    · refine G_iconst (v := 0) dX4_of_83 (by decide) ?_
      refine G_istore dX4_of_84 (by decide) (lv' := [(8, .int (0 : Int32)), (0, .ref r0), (2, .int x2), (3, .long x3), (5, .long x5), (7, .int x7)]) rfl ?_
      exact G_sub [1, 2, 3, 4, 5, 0] rfl (k2 c1 c2)
    · refine G_lload 3 rfl dX4_of_66 ?_
      refine G_ldc2 hK_X4_40 dX4_of_68 ?_
      refine G_lmul dX4_of_71 ?_
      refine G_lstore dX4_of_72 (by decide) (lv' := [(5, .long (x5 * (100000 : Int64))), (0, .ref r0), (2, .int x2), (3, .long x3), (7, .int x7), (8, .int x8)]) rfl ?_
      refine G_iinc (v := 5) 4 rfl dX4_of_74 (by decide) (by decide) (lv' := [(7, .int (x7 + 5)), (5, .long (x5 * (100000 : Int64))), (0, .ref r0), (2, .int x2), (3, .long x3), (8, .int x8)]) rfl ?_
      refine G_iinc (v := 1) 5 rfl dX4_of_77 (by decide) (by decide) (lv' := [(8, .int (x8 + 1)), (7, .int (x7 + 5)), (5, .long (x5 * (100000 : Int64))), (0, .ref r0), (2, .int x2), (3, .long x3)]) rfl ?_
      refine G_goto (tgt := 49) dX4_of_80 (by decide) ?_
      exact G_sub [3, 4, 5, 2, 1, 0] rfl (k3 c1 c2)

set_option maxRecDepth 10000 in
theorem TX4_of_86 {d : Nat} {S : fW} {h : fH} {Q : Int64 → fH → Prop} {r0 : Nat} {x2 : Int32} {x3 : Int64} {x5 : Int64} {x7 : Int32} {x8 : Int32}  
    (k1 : (16 : Int32) ≤ x8 → G mX4_of (d + 1) S (f_PL Q) 124 [(0, .ref r0), (2, .int x2), (3, .long x3), (5, .long x5), (7, .int x7), (8, .int (0 : Int32))] [] h)
    (k2 : ¬ (16 : Int32) ≤ x8 → (x3 / (10 : Int64)) < x5 → G mX4_of (d + 1) S (f_PL Q) 124 [(0, .ref r0), (2, .int x2), (3, .long x3), (5, .long x5), (7, .int x7), (8, .int (0 : Int32))] [] h)
    (k3 : ¬ (16 : Int32) ≤ x8 → ¬ (x3 / (10 : Int64)) < x5 → G mX4_of (d + 1) S (f_PL Q) 86 [(0, .ref r0), (2, .int x2), (3, .long x3), (5, .long (x5 * (10 : Int64))), (7, .int (x7 + 1)), (8, .int (x8 + 1))] [] h) :
    G mX4_of (d + 1) S (f_PL Q) 86 [(0, .ref r0), (2, .int x2), (3, .long x3), (5, .long x5), (7, .int x7), (8, .int x8)] [] h := by
  refine G_iload 5 rfl dX4_of_86 ?_
  refine G_bipush (v := 16) dX4_of_88 (by decide) ?_
  refine G_icmp_ge (tgt := 121) dX4_of_90 (by decide) (fun c1 => ?_) (fun c1 => ?_)
  · refine G_iconst (v := 0) dX4_of_121 (by decide) ?_
    refine G_istore dX4_of_122 (by decide) (lv' := [(8, .int (0 : Int32)), (0, .ref r0), (2, .int x2), (3, .long x3), (5, .long x5), (7, .int x7)]) rfl ?_
    exact G_sub [1, 2, 3, 4, 5, 0] rfl (k1 c1)
  · refine G_lload_n 2 rfl dX4_of_93 rfl ?_
    refine G_ldc2 hK_X4_42 dX4_of_94 ?_
    refine G_ldiv dX4_of_97 (by decide) ?_
    refine G_lload 3 rfl dX4_of_98 ?_
    refine G_lif_lt (tgt := 121) dX4_of_100 dX4_of_101 (by decide) (fun c2 => ?_) (fun c2 => ?_)
    · refine G_iconst (v := 0) dX4_of_121 (by decide) ?_
      refine G_istore dX4_of_122 (by decide) (lv' := [(8, .int (0 : Int32)), (0, .ref r0), (2, .int x2), (3, .long x3), (5, .long x5), (7, .int x7)]) rfl ?_
      exact G_sub [1, 2, 3, 4, 5, 0] rfl (k2 c1 c2)
    · refine G_lload 3 rfl dX4_of_104 ?_
      refine G_ldc2 hK_X4_42 dX4_of_106 ?_
      refine G_lmul dX4_of_109 ?_
      refine G_lstore dX4_of_110 (by decide) (lv' := [(5, .long (x5 * (10 : Int64))), (0, .ref r0), (2, .int x2), (3, .long x3), (7, .int x7), (8, .int x8)]) rfl ?_
      refine G_iinc (v := 1) 4 rfl dX4_of_112 (by decide) (by decide) (lv' := [(7, .int (x7 + 1)), (5, .long (x5 * (10 : Int64))), (0, .ref r0), (2, .int x2), (3, .long x3), (8, .int x8)]) rfl ?_
      refine G_iinc (v := 1) 5 rfl dX4_of_115 (by decide) (by decide) (lv' := [(8, .int (x8 + 1)), (7, .int (x7 + 1)), (5, .long (x5 * (10 : Int64))), (0, .ref r0), (2, .int x2), (3, .long x3)]) rfl ?_
      refine G_goto (tgt := 86) dX4_of_118 (by decide) ?_
      exact G_sub [3, 4, 5, 2, 1, 0] rfl (k3 c1 c2)

set_option maxRecDepth 10000 in
theorem TX4_of_124 {d : Nat} {S : fW} {h : fH} {Q : Int64 → fH → Prop} {r0 : Nat} {x2 : Int32} {x3 : Int64} {x5 : Int64} {x7 : Int32} {x8 : Int32}  
    (sd1 : (16 : Int32) ≤ x8 → (0 : Int64) < x5 → ¬ x5 = 0)
    (k1 : (16 : Int32) ≤ x8 → (0 : Int64) < x5 → G mX4_of (d + 1) S (f_PL Q) 177 [(0, .ref r0), (2, .int x2), (5, .long x5), (7, .int x7), (8, .long (x3 / x5)), (10, .long (x3 - x3 / x5 * x5)), (12, .int (1 : Int32))] [] h)
    (k2 : (16 : Int32) ≤ x8 → ¬ (0 : Int64) < x5 → Q (0 : Int64) h)
    (sd2 : ¬ (16 : Int32) ≤ x8 → x5 ≤ x3 → (0 : Int64) < x5 → ¬ x5 = 0)
    (k3 : ¬ (16 : Int32) ≤ x8 → x5 ≤ x3 → (0 : Int64) < x5 → G mX4_of (d + 1) S (f_PL Q) 177 [(0, .ref r0), (2, .int x2), (5, .long x5), (7, .int x7), (8, .long (x3 / x5)), (10, .long (x3 - x3 / x5 * x5)), (12, .int (1 : Int32))] [] h)
    (k4 : ¬ (16 : Int32) ≤ x8 → x5 ≤ x3 → ¬ (0 : Int64) < x5 → Q (0 : Int64) h)
    (k5 : ¬ (16 : Int32) ≤ x8 → ¬ x5 ≤ x3 → G mX4_of (d + 1) S (f_PL Q) 124 [(0, .ref r0), (2, .int x2), (3, .long (x3 * (10 : Int64))), (5, .long x5), (7, .int (x7 + (-1))), (8, .int (x8 + 1))] [] h) :
    G mX4_of (d + 1) S (f_PL Q) 124 [(0, .ref r0), (2, .int x2), (3, .long x3), (5, .long x5), (7, .int x7), (8, .int x8)] [] h := by
  refine G_iload 5 rfl dX4_of_124 ?_
  refine G_bipush (v := 16) dX4_of_126 (by decide) ?_
  refine G_icmp_ge (tgt := 153) dX4_of_128 (by decide) (fun c1 => ?_) (fun c1 => ?_)
  · refine G_lload 3 rfl dX4_of_153 ?_
    refine G_lconst (v := 0) dX4_of_155 (by decide) ?_
    refine G_lif_gt (tgt := 162) dX4_of_156 dX4_of_157 (by decide) (fun c2 => ?_) (fun c2 => ?_)
    · refine G_lload_n 2 rfl dX4_of_162 rfl ?_
      refine G_lload 3 rfl dX4_of_163 ?_
      refine G_ldiv dX4_of_165 (sd1 c1 c2) ?_
      refine G_lstore dX4_of_166 (by decide) (lv' := [(8, .long (x3 / x5)), (0, .ref r0), (2, .int x2), (3, .long x3), (5, .long x5), (7, .int x7)]) rfl ?_
      refine G_lload_n 3 rfl dX4_of_168 rfl ?_
      refine G_lload 4 rfl dX4_of_169 ?_
      refine G_lrem dX4_of_171 (sd1 c1 c2) ?_
      refine G_lstore dX4_of_172 (by decide) (lv' := [(10, .long (x3 - x3 / x5 * x5)), (8, .long (x3 / x5)), (0, .ref r0), (2, .int x2), (3, .long x3), (5, .long x5), (7, .int x7)]) rfl ?_
      refine G_iconst (v := 1) dX4_of_174 (by decide) ?_
      refine G_istore dX4_of_175 (by decide) (lv' := [(12, .int (1 : Int32)), (10, .long (x3 - x3 / x5 * x5)), (8, .long (x3 / x5)), (0, .ref r0), (2, .int x2), (3, .long x3), (5, .long x5), (7, .int x7)]) rfl ?_
      exact G_sub [3, 4, 6, 7, 2, 1, 0] rfl (k1 c1 c2)
    · refine G_lconst (v := 0) dX4_of_160 (by decide) ?_
      exact G_lret rfl dX4_of_161 ⟨_, rfl, (k2 c1 c2)⟩
  · refine G_lload_n 2 rfl dX4_of_131 rfl ?_
    refine G_lload 3 rfl dX4_of_132 ?_
    refine G_lif_ge (tgt := 153) dX4_of_134 dX4_of_135 (by decide) (fun c2 => ?_) (fun c2 => ?_)
    · refine G_lload 3 rfl dX4_of_153 ?_
      refine G_lconst (v := 0) dX4_of_155 (by decide) ?_
      refine G_lif_gt (tgt := 162) dX4_of_156 dX4_of_157 (by decide) (fun c3 => ?_) (fun c3 => ?_)
      · refine G_lload_n 2 rfl dX4_of_162 rfl ?_
        refine G_lload 3 rfl dX4_of_163 ?_
        refine G_ldiv dX4_of_165 (sd2 c1 c2 c3) ?_
        refine G_lstore dX4_of_166 (by decide) (lv' := [(8, .long (x3 / x5)), (0, .ref r0), (2, .int x2), (3, .long x3), (5, .long x5), (7, .int x7)]) rfl ?_
        refine G_lload_n 3 rfl dX4_of_168 rfl ?_
        refine G_lload 4 rfl dX4_of_169 ?_
        refine G_lrem dX4_of_171 (sd2 c1 c2 c3) ?_
        refine G_lstore dX4_of_172 (by decide) (lv' := [(10, .long (x3 - x3 / x5 * x5)), (8, .long (x3 / x5)), (0, .ref r0), (2, .int x2), (3, .long x3), (5, .long x5), (7, .int x7)]) rfl ?_
        refine G_iconst (v := 1) dX4_of_174 (by decide) ?_
        refine G_istore dX4_of_175 (by decide) (lv' := [(12, .int (1 : Int32)), (10, .long (x3 - x3 / x5 * x5)), (8, .long (x3 / x5)), (0, .ref r0), (2, .int x2), (3, .long x3), (5, .long x5), (7, .int x7)]) rfl ?_
        exact G_sub [3, 4, 6, 7, 2, 1, 0] rfl (k3 c1 c2 c3)
      · refine G_lconst (v := 0) dX4_of_160 (by decide) ?_
        exact G_lret rfl dX4_of_161 ⟨_, rfl, (k4 c1 c2 c3)⟩
    · refine G_lload_n 2 rfl dX4_of_138 rfl ?_
      refine G_ldc2 hK_X4_42 dX4_of_139 ?_
      refine G_lmul dX4_of_142 ?_
      refine G_lstore_n dX4_of_143 rfl (by decide) (lv' := [(3, .long (x3 * (10 : Int64))), (0, .ref r0), (2, .int x2), (5, .long x5), (7, .int x7), (8, .int x8)]) rfl ?_
      refine G_iinc (v := -1) 4 rfl dX4_of_144 (by decide) (by decide) (lv' := [(7, .int (x7 + (-1))), (3, .long (x3 * (10 : Int64))), (0, .ref r0), (2, .int x2), (5, .long x5), (8, .int x8)]) rfl ?_
      refine G_iinc (v := 1) 5 rfl dX4_of_147 (by decide) (by decide) (lv' := [(8, .int (x8 + 1)), (7, .int (x7 + (-1))), (3, .long (x3 * (10 : Int64))), (0, .ref r0), (2, .int x2), (5, .long x5)]) rfl ?_
      refine G_goto (tgt := 124) dX4_of_150 (by decide) ?_
      exact G_sub [3, 4, 2, 5, 1, 0] rfl (k5 c1 c2)

set_option maxRecDepth 10000 in
theorem TX4_of_177 {d : Nat} {S : fW} {h : fH} {Q : Int64 → fH → Prop} {r0 : Nat} {x2 : Int32} {x5 : Int64} {x7 : Int32} {x8 : Int64} {x10 : Int64} {x12 : Int32} {Q1 : Int32 → fH → Prop} {Q2 : Int32 → fH → Int64 → fH → Prop} {Q3 : Int32 → fH → Int64 → fH → Prop} 
    (hs1 : (r0, shX4) ∈ S)
    (ok1 : (h.1 r0 0) ≤ x12 → OkI d mX4_goesOn S [.ref r0, .long x8, .long x10, .long x5, .int x2] h Q1)
    (ok2 : (h.1 r0 0) ≤ x12 → ∀ v_1 h_1, Q1 v_1 h_1 → v_1 = 0 → OkL d mX4_placed S [.ref r0, .long x8, .int x7, .int x2] h_1 (Q2 v_1 h_1))
    (k1 : (h.1 r0 0) ≤ x12 → ∀ v_1 h_1, Q1 v_1 h_1 → v_1 = 0 → ∀ v_2 h_2, (Q2 v_1 h_1) v_2 h_2 → Q v_2 h_2)
    (ok3 : (h.1 r0 0) ≤ x12 → ∀ v_1 h_1, Q1 v_1 h_1 → ¬ v_1 = 0 → OkL d mX4_placed S [.ref r0, .long (x8 + (1 : Int64)), .int x7, .int x2] h_1 (Q3 v_1 h_1))
    (k2 : (h.1 r0 0) ≤ x12 → ∀ v_1 h_1, Q1 v_1 h_1 → ¬ v_1 = 0 → ∀ v_3 h_3, (Q3 v_1 h_1) v_3 h_3 → Q v_3 h_3)
    (sd1 : ¬ (h.1 r0 0) ≤ x12 → ¬ x5 = 0)
    (k3 : ¬ (h.1 r0 0) ≤ x12 → G mX4_of (d + 1) S (f_PL Q) 177 [(0, .ref r0), (2, .int x2), (5, .long x5), (7, .int (x7 + (-1))), (8, .long ((x8 * (10 : Int64)) + ((x10 * (10 : Int64)) / x5))), (10, .long ((x10 * (10 : Int64)) - (x10 * (10 : Int64)) / x5 * x5)), (12, .int (x12 + 1))] [] h) :
    G mX4_of (d + 1) S (f_PL Q) 177 [(0, .ref r0), (2, .int x2), (5, .long x5), (7, .int x7), (8, .long x8), (10, .long x10), (12, .int x12)] [] h := by
  refine G_iload 6 rfl dX4_of_177 ?_
  refine G_aload_n 0 rfl dX4_of_179 rfl ?_
  refine G_geti (k := 0) hs1 (q := (RX4, TX4, 3)) rfl inX4 (by decide) (Or.inl rfl) hF_X4_9 dX4_of_180 ?_
  refine G_icmp_ge (tgt := 224) dX4_of_183 (by decide) (fun c1 => ?_) (fun c1 => ?_)
  · refine G_aload_n 0 rfl dX4_of_224 rfl ?_
    refine G_aload_n 0 rfl dX4_of_225 rfl ?_
    refine G_lload 4 rfl dX4_of_226 ?_
    refine G_lload 5 rfl dX4_of_228 ?_
    refine G_lload 2 rfl dX4_of_230 ?_
    refine G_iload_n 1 rfl dX4_of_232 rfl ?_
    refine G_callV (Z := mX4_goesOn) (As := [.long x8, .long x10, .long x5, .int x2]) (st := [.ref r0]) hL_X4_44 hI_X4_goesOn hS_X4_goesOn hC_X4_goesOn hN_X4 nX4_goesOn (by decide) hs1 rfl rfl rfl (Nat.le_of_ble_eq_true rfl) dX4_of_233 (ok1 c1) (fun r_ h_1 z_ => ?_)
    obtain ⟨v_1, rfl, q_1⟩ := z_
    refine G_if_eq (tgt := 246) dX4_of_236 (by decide) (fun c3 => ?_) (fun c3 => ?_)
    · refine G_lload 4 rfl dX4_of_246 ?_
      refine G_iload 3 rfl dX4_of_248 ?_
      refine G_iload_n 1 rfl dX4_of_250 rfl ?_
      refine G_callV (Z := mX4_placed) (As := [.long x8, .int x7, .int x2]) (st := []) hL_X4_48 hI_X4_placed hS_X4_placed hC_X4_placed hN_X4 nX4_placed (by decide) hs1 rfl rfl rfl (Nat.le_of_ble_eq_true rfl) dX4_of_251 (ok2 c1 v_1 h_1 q_1 c3) (fun r_ h_2 z_ => ?_)
      obtain ⟨v_2, rfl, q_2⟩ := z_
      exact G_lret rfl dX4_of_254 ⟨_, rfl, (k1 c1 v_1 h_1 q_1 c3 v_2 h_2 q_2)⟩
    · refine G_lload 4 rfl dX4_of_239 ?_
      refine G_lconst (v := 1) dX4_of_241 (by decide) ?_
      refine G_ladd dX4_of_242 ?_
      refine G_goto (tgt := 248) dX4_of_243 (by decide) ?_
      refine G_iload 3 rfl dX4_of_248 ?_
      refine G_iload_n 1 rfl dX4_of_250 rfl ?_
      refine G_callV (Z := mX4_placed) (As := [.long (x8 + (1 : Int64)), .int x7, .int x2]) (st := []) hL_X4_48 hI_X4_placed hS_X4_placed hC_X4_placed hN_X4 nX4_placed (by decide) hs1 rfl rfl rfl (Nat.le_of_ble_eq_true rfl) dX4_of_251 (ok3 c1 v_1 h_1 q_1 c3) (fun r_ h_3 z_ => ?_)
      obtain ⟨v_3, rfl, q_3⟩ := z_
      exact G_lret rfl dX4_of_254 ⟨_, rfl, (k2 c1 v_1 h_1 q_1 c3 v_3 h_3 q_3)⟩
  · refine G_lload 5 rfl dX4_of_186 ?_
    refine G_ldc2 hK_X4_42 dX4_of_188 ?_
    refine G_lmul dX4_of_191 ?_
    refine G_lstore dX4_of_192 (by decide) (lv' := [(10, .long (x10 * (10 : Int64))), (0, .ref r0), (2, .int x2), (5, .long x5), (7, .int x7), (8, .long x8), (12, .int x12)]) rfl ?_
    refine G_lload 5 rfl dX4_of_194 ?_
    refine G_ldc2 hK_X4_42 dX4_of_196 ?_
    refine G_lmul dX4_of_199 ?_
    refine G_lload 0 rfl dX4_of_200 ?_
    refine G_lload 3 rfl dX4_of_202 ?_
    refine G_ldiv dX4_of_204 (sd1 c1) ?_
    refine G_ladd dX4_of_205 ?_
    refine G_lstore dX4_of_206 (by decide) (lv' := [(8, .long ((x8 * (10 : Int64)) + ((x10 * (10 : Int64)) / x5))), (10, .long (x10 * (10 : Int64))), (0, .ref r0), (2, .int x2), (5, .long x5), (7, .int x7), (12, .int x12)]) rfl ?_
    refine G_lload 1 rfl dX4_of_208 ?_
    refine G_lload 4 rfl dX4_of_210 ?_
    refine G_lrem dX4_of_212 (sd1 c1) ?_
    refine G_lstore dX4_of_213 (by decide) (lv' := [(10, .long ((x10 * (10 : Int64)) - (x10 * (10 : Int64)) / x5 * x5)), (8, .long ((x8 * (10 : Int64)) + ((x10 * (10 : Int64)) / x5))), (0, .ref r0), (2, .int x2), (5, .long x5), (7, .int x7), (12, .int x12)]) rfl ?_
    refine G_iinc (v := -1) 5 rfl dX4_of_215 (by decide) (by decide) (lv' := [(7, .int (x7 + (-1))), (10, .long ((x10 * (10 : Int64)) - (x10 * (10 : Int64)) / x5 * x5)), (8, .long ((x8 * (10 : Int64)) + ((x10 * (10 : Int64)) / x5))), (0, .ref r0), (2, .int x2), (5, .long x5), (12, .int x12)]) rfl ?_
    refine G_iinc (v := 1) 6 rfl dX4_of_218 (by decide) (by decide) (lv' := [(12, .int (x12 + 1)), (7, .int (x7 + (-1))), (10, .long ((x10 * (10 : Int64)) - (x10 * (10 : Int64)) / x5 * x5)), (8, .long ((x8 * (10 : Int64)) + ((x10 * (10 : Int64)) / x5))), (0, .ref r0), (2, .int x2), (5, .long x5)]) rfl ?_
    refine G_goto (tgt := 177) dX4_of_221 (by decide) ?_
    exact G_sub [4, 5, 6, 1, 3, 2, 0] rfl (k3 c1)

-- LostDigits$Rounding.goesOn
theorem dX4_goesOn_0 : decode cX4_goesOn 0 = .ok (.aload_n 0, 1) := by decide +kernel
theorem dX4_goesOn_1 : decode cX4_goesOn 1 = .ok (.getfield 15, 3) := by decide +kernel
theorem dX4_goesOn_4 : decode cX4_goesOn 4 = .ok (.iconst 2, 1) := by decide +kernel
theorem dX4_goesOn_5 : decode cX4_goesOn 5 = .ok (.if_icmp .ne 20, 3) := by decide +kernel
theorem dX4_goesOn_8 : decode cX4_goesOn 8 = .ok (.lload_n 3, 1) := by decide +kernel
theorem dX4_goesOn_9 : decode cX4_goesOn 9 = .ok (.lconst 0, 1) := by decide +kernel
theorem dX4_goesOn_10 : decode cX4_goesOn 10 = .ok (.lcmp, 1) := by decide +kernel
theorem dX4_goesOn_11 : decode cX4_goesOn 11 = .ok (.ifCond .le 12, 3) := by decide +kernel
theorem dX4_goesOn_14 : decode cX4_goesOn 14 = .ok (.iload 7, 2) := by decide +kernel
theorem dX4_goesOn_16 : decode cX4_goesOn 16 = .ok (.ifCond .ne 7, 3) := by decide +kernel
theorem dX4_goesOn_19 : decode cX4_goesOn 19 = .ok (.iconst 1, 1) := by decide +kernel
theorem dX4_goesOn_20 : decode cX4_goesOn 20 = .ok (.goto 4, 3) := by decide +kernel
theorem dX4_goesOn_23 : decode cX4_goesOn 23 = .ok (.iconst 0, 1) := by decide +kernel
theorem dX4_goesOn_24 : decode cX4_goesOn 24 = .ok (.ireturn, 1) := by decide +kernel
theorem dX4_goesOn_25 : decode cX4_goesOn 25 = .ok (.aload_n 0, 1) := by decide +kernel
theorem dX4_goesOn_26 : decode cX4_goesOn 26 = .ok (.getfield 15, 3) := by decide +kernel
theorem dX4_goesOn_29 : decode cX4_goesOn 29 = .ok (.iconst 3, 1) := by decide +kernel
theorem dX4_goesOn_30 : decode cX4_goesOn 30 = .ok (.if_icmp .ne 20, 3) := by decide +kernel
theorem dX4_goesOn_33 : decode cX4_goesOn 33 = .ok (.lload_n 3, 1) := by decide +kernel
theorem dX4_goesOn_34 : decode cX4_goesOn 34 = .ok (.lconst 0, 1) := by decide +kernel
theorem dX4_goesOn_35 : decode cX4_goesOn 35 = .ok (.lcmp, 1) := by decide +kernel
theorem dX4_goesOn_36 : decode cX4_goesOn 36 = .ok (.ifCond .le 12, 3) := by decide +kernel
theorem dX4_goesOn_39 : decode cX4_goesOn 39 = .ok (.iload 7, 2) := by decide +kernel
theorem dX4_goesOn_41 : decode cX4_goesOn 41 = .ok (.ifCond .eq 7, 3) := by decide +kernel
theorem dX4_goesOn_44 : decode cX4_goesOn 44 = .ok (.iconst 1, 1) := by decide +kernel
theorem dX4_goesOn_45 : decode cX4_goesOn 45 = .ok (.goto 4, 3) := by decide +kernel
theorem dX4_goesOn_48 : decode cX4_goesOn 48 = .ok (.iconst 0, 1) := by decide +kernel
theorem dX4_goesOn_49 : decode cX4_goesOn 49 = .ok (.ireturn, 1) := by decide +kernel
theorem dX4_goesOn_50 : decode cX4_goesOn 50 = .ok (.aload_n 0, 1) := by decide +kernel
theorem dX4_goesOn_51 : decode cX4_goesOn 51 = .ok (.getfield 15, 3) := by decide +kernel
theorem dX4_goesOn_54 : decode cX4_goesOn 54 = .ok (.ifCond .ne 37, 3) := by decide +kernel
theorem dX4_goesOn_57 : decode cX4_goesOn 57 = .ok (.lload_n 3, 1) := by decide +kernel
theorem dX4_goesOn_58 : decode cX4_goesOn 58 = .ok (.lload 5, 2) := by decide +kernel
theorem dX4_goesOn_60 : decode cX4_goesOn 60 = .ok (.lload_n 3, 1) := by decide +kernel
theorem dX4_goesOn_61 : decode cX4_goesOn 61 = .ok (.lsub, 1) := by decide +kernel
theorem dX4_goesOn_62 : decode cX4_goesOn 62 = .ok (.lcmp, 1) := by decide +kernel
theorem dX4_goesOn_63 : decode cX4_goesOn 63 = .ok (.ifCond .gt 22, 3) := by decide +kernel
theorem dX4_goesOn_66 : decode cX4_goesOn 66 = .ok (.lload_n 3, 1) := by decide +kernel
theorem dX4_goesOn_67 : decode cX4_goesOn 67 = .ok (.lload 5, 2) := by decide +kernel
theorem dX4_goesOn_69 : decode cX4_goesOn 69 = .ok (.lload_n 3, 1) := by decide +kernel
theorem dX4_goesOn_70 : decode cX4_goesOn 70 = .ok (.lsub, 1) := by decide +kernel
theorem dX4_goesOn_71 : decode cX4_goesOn 71 = .ok (.lcmp, 1) := by decide +kernel
theorem dX4_goesOn_72 : decode cX4_goesOn 72 = .ok (.ifCond .ne 17, 3) := by decide +kernel
theorem dX4_goesOn_75 : decode cX4_goesOn 75 = .ok (.lload_n 1, 1) := by decide +kernel
theorem dX4_goesOn_76 : decode cX4_goesOn 76 = .ok (.ldc2_w 52, 3) := by decide +kernel
theorem dX4_goesOn_79 : decode cX4_goesOn 79 = .ok (.lrem, 1) := by decide +kernel
theorem dX4_goesOn_80 : decode cX4_goesOn 80 = .ok (.lconst 1, 1) := by decide +kernel
theorem dX4_goesOn_81 : decode cX4_goesOn 81 = .ok (.lcmp, 1) := by decide +kernel
theorem dX4_goesOn_82 : decode cX4_goesOn 82 = .ok (.ifCond .ne 7, 3) := by decide +kernel
theorem dX4_goesOn_85 : decode cX4_goesOn 85 = .ok (.iconst 1, 1) := by decide +kernel
theorem dX4_goesOn_86 : decode cX4_goesOn 86 = .ok (.goto 4, 3) := by decide +kernel
theorem dX4_goesOn_89 : decode cX4_goesOn 89 = .ok (.iconst 0, 1) := by decide +kernel
theorem dX4_goesOn_90 : decode cX4_goesOn 90 = .ok (.ireturn, 1) := by decide +kernel
theorem dX4_goesOn_91 : decode cX4_goesOn 91 = .ok (.iconst 0, 1) := by decide +kernel
theorem dX4_goesOn_92 : decode cX4_goesOn 92 = .ok (.ireturn, 1) := by decide +kernel

set_option maxRecDepth 10000 in
theorem TX4_goesOn_0 {d : Nat} {S : fW} {h : fH} {Q : Int32 → fH → Prop} {r0 : Nat} {x1 : Int64} {x3 : Int64} {x5 : Int64} {x7 : Int32}  
    (hs1 : (r0, shX4) ∈ S)
    (k1 : ¬ (h.1 r0 1) = (2 : Int32) → ¬ (h.1 r0 1) = (3 : Int32) → ¬ (h.1 r0 1) = 0 → Q (0 : Int32) h)
    (k2 : ¬ (h.1 r0 1) = (2 : Int32) → ¬ (h.1 r0 1) = (3 : Int32) → (h.1 r0 1) = 0 → (x5 - x3) < x3 → Q (1 : Int32) h)
    (k3 : ¬ (h.1 r0 1) = (2 : Int32) → ¬ (h.1 r0 1) = (3 : Int32) → (h.1 r0 1) = 0 → ¬ (x5 - x3) < x3 → ¬ x3 = (x5 - x3) → Q (0 : Int32) h)
    (k4 : ¬ (h.1 r0 1) = (2 : Int32) → ¬ (h.1 r0 1) = (3 : Int32) → (h.1 r0 1) = 0 → ¬ (x5 - x3) < x3 → x3 = (x5 - x3) → ¬ (x1 - x1 / (2 : Int64) * (2 : Int64)) = (1 : Int64) → Q (0 : Int32) h)
    (k5 : ¬ (h.1 r0 1) = (2 : Int32) → ¬ (h.1 r0 1) = (3 : Int32) → (h.1 r0 1) = 0 → ¬ (x5 - x3) < x3 → x3 = (x5 - x3) → (x1 - x1 / (2 : Int64) * (2 : Int64)) = (1 : Int64) → Q (1 : Int32) h)
    (k6 : ¬ (h.1 r0 1) = (2 : Int32) → (h.1 r0 1) = (3 : Int32) → x3 ≤ (0 : Int64) → Q (0 : Int32) h)
    (k7 : ¬ (h.1 r0 1) = (2 : Int32) → (h.1 r0 1) = (3 : Int32) → ¬ x3 ≤ (0 : Int64) → x7 = 0 → Q (0 : Int32) h)
    (k8 : ¬ (h.1 r0 1) = (2 : Int32) → (h.1 r0 1) = (3 : Int32) → ¬ x3 ≤ (0 : Int64) → ¬ x7 = 0 → Q (1 : Int32) h)
    (k9 : (h.1 r0 1) = (2 : Int32) → x3 ≤ (0 : Int64) → Q (0 : Int32) h)
    (k10 : (h.1 r0 1) = (2 : Int32) → ¬ x3 ≤ (0 : Int64) → ¬ x7 = 0 → Q (0 : Int32) h)
    (k11 : (h.1 r0 1) = (2 : Int32) → ¬ x3 ≤ (0 : Int64) → x7 = 0 → Q (1 : Int32) h) :
    OkI d mX4_goesOn S [.ref r0, .long x1, .long x3, .long x5, .int x7] h Q := by
  refine Ok.of (by decide) (Nat.le_of_ble_eq_true rfl) ?_
  refine G_aload_n 0 rfl dX4_goesOn_0 rfl ?_
  refine G_geti (k := 1) hs1 (q := (RX4, TX4, 3)) rfl inX4 (by decide) (Or.inl rfl) hF_X4_15 dX4_goesOn_1 ?_
  refine G_iconst (v := 2) dX4_goesOn_4 (by decide) ?_
  refine G_icmp_ne (tgt := 25) dX4_goesOn_5 (by decide) (fun c1 => ?_) (fun c1 => ?_)
  · refine G_aload_n 0 rfl dX4_goesOn_25 rfl ?_
    refine G_geti (k := 1) hs1 (q := (RX4, TX4, 3)) rfl inX4 (by decide) (Or.inl rfl) hF_X4_15 dX4_goesOn_26 ?_
    refine G_iconst (v := 3) dX4_goesOn_29 (by decide) ?_
    refine G_icmp_ne (tgt := 50) dX4_goesOn_30 (by decide) (fun c2 => ?_) (fun c2 => ?_)
    · refine G_aload_n 0 rfl dX4_goesOn_50 rfl ?_
      refine G_geti (k := 1) hs1 (q := (RX4, TX4, 3)) rfl inX4 (by decide) (Or.inl rfl) hF_X4_15 dX4_goesOn_51 ?_
      refine G_if_ne (tgt := 91) dX4_goesOn_54 (by decide) (fun c3 => ?_) (fun c3 => ?_)
      · refine G_iconst (v := 0) dX4_goesOn_91 (by decide) ?_
        exact G_zret rfl (Or.inl rfl) dX4_goesOn_92 ⟨_, rfl, (k1 c1 c2 c3)⟩
      · refine G_lload_n 2 rfl dX4_goesOn_57 rfl ?_
        refine G_lload 3 rfl dX4_goesOn_58 ?_
        refine G_lload_n 2 rfl dX4_goesOn_60 rfl ?_
        refine G_lsub dX4_goesOn_61 ?_
        refine G_lif_gt (tgt := 85) dX4_goesOn_62 dX4_goesOn_63 (by decide) (fun c4 => ?_) (fun c4 => ?_)
        · refine G_iconst (v := 1) dX4_goesOn_85 (by decide) ?_
          refine G_goto (tgt := 90) dX4_goesOn_86 (by decide) ?_
          exact G_zret rfl (Or.inr rfl) dX4_goesOn_90 ⟨_, rfl, (k2 c1 c2 c3 c4)⟩
        · refine G_lload_n 2 rfl dX4_goesOn_66 rfl ?_
          refine G_lload 3 rfl dX4_goesOn_67 ?_
          refine G_lload_n 2 rfl dX4_goesOn_69 rfl ?_
          refine G_lsub dX4_goesOn_70 ?_
          refine G_lif_ne (tgt := 89) dX4_goesOn_71 dX4_goesOn_72 (by decide) (fun c5 => ?_) (fun c5 => ?_)
          · refine G_iconst (v := 0) dX4_goesOn_89 (by decide) ?_
            exact G_zret rfl (Or.inl rfl) dX4_goesOn_90 ⟨_, rfl, (k3 c1 c2 c3 c4 c5)⟩
          · refine G_lload_n 1 rfl dX4_goesOn_75 rfl ?_
            refine G_ldc2 hK_X4_52 dX4_goesOn_76 ?_
            refine G_lrem dX4_goesOn_79 (by decide) ?_
            refine G_lconst (v := 1) dX4_goesOn_80 (by decide) ?_
            refine G_lif_ne (tgt := 89) dX4_goesOn_81 dX4_goesOn_82 (by decide) (fun c6 => ?_) (fun c6 => ?_)
            · refine G_iconst (v := 0) dX4_goesOn_89 (by decide) ?_
              exact G_zret rfl (Or.inl rfl) dX4_goesOn_90 ⟨_, rfl, (k4 c1 c2 c3 c4 c5 c6)⟩
            · refine G_iconst (v := 1) dX4_goesOn_85 (by decide) ?_
              refine G_goto (tgt := 90) dX4_goesOn_86 (by decide) ?_
              exact G_zret rfl (Or.inr rfl) dX4_goesOn_90 ⟨_, rfl, (k5 c1 c2 c3 c4 c5 c6)⟩
    · refine G_lload_n 2 rfl dX4_goesOn_33 rfl ?_
      refine G_lconst (v := 0) dX4_goesOn_34 (by decide) ?_
      refine G_lif_le (tgt := 48) dX4_goesOn_35 dX4_goesOn_36 (by decide) (fun c3 => ?_) (fun c3 => ?_)
      · refine G_iconst (v := 0) dX4_goesOn_48 (by decide) ?_
        exact G_zret rfl (Or.inl rfl) dX4_goesOn_49 ⟨_, rfl, (k6 c1 c2 c3)⟩
      · refine G_iload 4 rfl dX4_goesOn_39 ?_
        refine G_if_eq (tgt := 48) dX4_goesOn_41 (by decide) (fun c4 => ?_) (fun c4 => ?_)
        · refine G_iconst (v := 0) dX4_goesOn_48 (by decide) ?_
          exact G_zret rfl (Or.inl rfl) dX4_goesOn_49 ⟨_, rfl, (k7 c1 c2 c3 c4)⟩
        · refine G_iconst (v := 1) dX4_goesOn_44 (by decide) ?_
          refine G_goto (tgt := 49) dX4_goesOn_45 (by decide) ?_
          exact G_zret rfl (Or.inr rfl) dX4_goesOn_49 ⟨_, rfl, (k8 c1 c2 c3 c4)⟩
  · refine G_lload_n 2 rfl dX4_goesOn_8 rfl ?_
    refine G_lconst (v := 0) dX4_goesOn_9 (by decide) ?_
    refine G_lif_le (tgt := 23) dX4_goesOn_10 dX4_goesOn_11 (by decide) (fun c2 => ?_) (fun c2 => ?_)
    · refine G_iconst (v := 0) dX4_goesOn_23 (by decide) ?_
      exact G_zret rfl (Or.inl rfl) dX4_goesOn_24 ⟨_, rfl, (k9 c1 c2)⟩
    · refine G_iload 4 rfl dX4_goesOn_14 ?_
      refine G_if_ne (tgt := 23) dX4_goesOn_16 (by decide) (fun c3 => ?_) (fun c3 => ?_)
      · refine G_iconst (v := 0) dX4_goesOn_23 (by decide) ?_
        exact G_zret rfl (Or.inl rfl) dX4_goesOn_24 ⟨_, rfl, (k10 c1 c2 c3)⟩
      · refine G_iconst (v := 1) dX4_goesOn_19 (by decide) ?_
        refine G_goto (tgt := 24) dX4_goesOn_20 (by decide) ?_
        exact G_zret rfl (Or.inr rfl) dX4_goesOn_24 ⟨_, rfl, (k11 c1 c2 c3)⟩

-- LostDigits$Rounding.placed
theorem dX4_placed_0 : decode cX4_placed 0 = .ok (.aload_n 0, 1) := by decide +kernel
theorem dX4_placed_1 : decode cX4_placed 1 = .ok (.getfield 9, 3) := by decide +kernel
theorem dX4_placed_4 : decode cX4_placed 4 = .ok (.iconst 1, 1) := by decide +kernel
theorem dX4_placed_5 : decode cX4_placed 5 = .ok (.if_icmp .lt 28, 3) := by decide +kernel
theorem dX4_placed_8 : decode cX4_placed 8 = .ok (.aload_n 0, 1) := by decide +kernel
theorem dX4_placed_9 : decode cX4_placed 9 = .ok (.getfield 9, 3) := by decide +kernel
theorem dX4_placed_12 : decode cX4_placed 12 = .ok (.iconst 4, 1) := by decide +kernel
theorem dX4_placed_13 : decode cX4_placed 13 = .ok (.if_icmp .gt 20, 3) := by decide +kernel
theorem dX4_placed_16 : decode cX4_placed 16 = .ok (.lload_n 1, 1) := by decide +kernel
theorem dX4_placed_17 : decode cX4_placed 17 = .ok (.getstatic 54, 3) := by decide +kernel
theorem dX4_placed_20 : decode cX4_placed 20 = .ok (.aload_n 0, 1) := by decide +kernel
theorem dX4_placed_21 : decode cX4_placed 21 = .ok (.getfield 9, 3) := by decide +kernel
theorem dX4_placed_24 : decode cX4_placed 24 = .ok (.laload, 1) := by decide +kernel
theorem dX4_placed_25 : decode cX4_placed 25 = .ok (.lcmp, 1) := by decide +kernel
theorem dX4_placed_26 : decode cX4_placed 26 = .ok (.ifCond .lt 7, 3) := by decide +kernel
theorem dX4_placed_29 : decode cX4_placed 29 = .ok (.iconst 1, 1) := by decide +kernel
theorem dX4_placed_30 : decode cX4_placed 30 = .ok (.goto 4, 3) := by decide +kernel
theorem dX4_placed_33 : decode cX4_placed 33 = .ok (.iconst 0, 1) := by decide +kernel
theorem dX4_placed_34 : decode cX4_placed 34 = .ok (.istore 5, 2) := by decide +kernel
theorem dX4_placed_36 : decode cX4_placed 36 = .ok (.iload 5, 2) := by decide +kernel
theorem dX4_placed_38 : decode cX4_placed 38 = .ok (.ifCond .eq 11, 3) := by decide +kernel
theorem dX4_placed_41 : decode cX4_placed 41 = .ok (.lload_n 1, 1) := by decide +kernel
theorem dX4_placed_42 : decode cX4_placed 42 = .ok (.ldc2_w 42, 3) := by decide +kernel
theorem dX4_placed_45 : decode cX4_placed 45 = .ok (.ldiv, 1) := by decide +kernel
theorem dX4_placed_46 : decode cX4_placed 46 = .ok (.goto 4, 3) := by decide +kernel
theorem dX4_placed_49 : decode cX4_placed 49 = .ok (.lload_n 1, 1) := by decide +kernel
theorem dX4_placed_50 : decode cX4_placed 50 = .ok (.lstore 6, 2) := by decide +kernel
theorem dX4_placed_52 : decode cX4_placed 52 = .ok (.iload 5, 2) := by decide +kernel
theorem dX4_placed_54 : decode cX4_placed 54 = .ok (.ifCond .eq 9, 3) := by decide +kernel
theorem dX4_placed_57 : decode cX4_placed 57 = .ok (.iload_n 3, 1) := by decide +kernel
theorem dX4_placed_58 : decode cX4_placed 58 = .ok (.iconst 1, 1) := by decide +kernel
theorem dX4_placed_59 : decode cX4_placed 59 = .ok (.iadd, 1) := by decide +kernel
theorem dX4_placed_60 : decode cX4_placed 60 = .ok (.goto 4, 3) := by decide +kernel
theorem dX4_placed_63 : decode cX4_placed 63 = .ok (.iload_n 3, 1) := by decide +kernel
theorem dX4_placed_64 : decode cX4_placed 64 = .ok (.istore 8, 2) := by decide +kernel
theorem dX4_placed_66 : decode cX4_placed 66 = .ok (.iload 8, 2) := by decide +kernel
theorem dX4_placed_68 : decode cX4_placed 68 = .ok (.aload_n 0, 1) := by decide +kernel
theorem dX4_placed_69 : decode cX4_placed 69 = .ok (.getfield 9, 3) := by decide +kernel
theorem dX4_placed_72 : decode cX4_placed 72 = .ok (.iadd, 1) := by decide +kernel
theorem dX4_placed_73 : decode cX4_placed 73 = .ok (.iconst 1, 1) := by decide +kernel
theorem dX4_placed_74 : decode cX4_placed 74 = .ok (.isub, 1) := by decide +kernel
theorem dX4_placed_75 : decode cX4_placed 75 = .ok (.istore 9, 2) := by decide +kernel
theorem dX4_placed_77 : decode cX4_placed 77 = .ok (.iload 9, 2) := by decide +kernel
theorem dX4_placed_79 : decode cX4_placed 79 = .ok (.bipush 16, 2) := by decide +kernel
theorem dX4_placed_81 : decode cX4_placed 81 = .ok (.if_icmp .lt 7, 3) := by decide +kernel
theorem dX4_placed_84 : decode cX4_placed 84 = .ok (.ldc2_w 58, 3) := by decide +kernel
theorem dX4_placed_87 : decode cX4_placed 87 = .ok (.lreturn, 1) := by decide +kernel
theorem dX4_placed_88 : decode cX4_placed 88 = .ok (.lconst 0, 1) := by decide +kernel
theorem dX4_placed_89 : decode cX4_placed 89 = .ok (.lstore 10, 2) := by decide +kernel
theorem dX4_placed_91 : decode cX4_placed 91 = .ok (.iload 9, 2) := by decide +kernel
theorem dX4_placed_93 : decode cX4_placed 93 = .ok (.iconst 3, 1) := by decide +kernel
theorem dX4_placed_94 : decode cX4_placed 94 = .ok (.if_icmp .lt 31, 3) := by decide +kernel
theorem dX4_placed_97 : decode cX4_placed 97 = .ok (.iload 8, 2) := by decide +kernel
theorem dX4_placed_99 : decode cX4_placed 99 = .ok (.ifCond .lt 26, 3) := by decide +kernel
theorem dX4_placed_102 : decode cX4_placed 102 = .ok (.iload 8, 2) := by decide +kernel
theorem dX4_placed_104 : decode cX4_placed 104 = .ok (.getstatic 54, 3) := by decide +kernel
theorem dX4_placed_107 : decode cX4_placed 107 = .ok (.arraylength, 1) := by decide +kernel
theorem dX4_placed_108 : decode cX4_placed 108 = .ok (.if_icmp .ge 17, 3) := by decide +kernel
theorem dX4_placed_111 : decode cX4_placed 111 = .ok (.lload 6, 2) := by decide +kernel
theorem dX4_placed_113 : decode cX4_placed 113 = .ok (.getstatic 54, 3) := by decide +kernel
theorem dX4_placed_116 : decode cX4_placed 116 = .ok (.iload 8, 2) := by decide +kernel
theorem dX4_placed_118 : decode cX4_placed 118 = .ok (.laload, 1) := by decide +kernel
theorem dX4_placed_119 : decode cX4_placed 119 = .ok (.lmul, 1) := by decide +kernel
theorem dX4_placed_120 : decode cX4_placed 120 = .ok (.lstore 10, 2) := by decide +kernel
theorem dX4_placed_122 : decode cX4_placed 122 = .ok (.goto 32, 3) := by decide +kernel
theorem dX4_placed_125 : decode cX4_placed 125 = .ok (.aload_n 0, 1) := by decide +kernel
theorem dX4_placed_126 : decode cX4_placed 126 = .ok (.getfield 18, 3) := by decide +kernel
theorem dX4_placed_129 : decode cX4_placed 129 = .ok (.ifCond .eq 25, 3) := by decide +kernel
theorem dX4_placed_132 : decode cX4_placed 132 = .ok (.aload_n 0, 1) := by decide +kernel
theorem dX4_placed_133 : decode cX4_placed 133 = .ok (.getfield 15, 3) := by decide +kernel
theorem dX4_placed_136 : decode cX4_placed 136 = .ok (.iload 4, 2) := by decide +kernel
theorem dX4_placed_138 : decode cX4_placed 138 = .ok (.ifCond .eq 7, 3) := by decide +kernel
theorem dX4_placed_141 : decode cX4_placed 141 = .ok (.iconst 3, 1) := by decide +kernel
theorem dX4_placed_142 : decode cX4_placed 142 = .ok (.goto 4, 3) := by decide +kernel
theorem dX4_placed_145 : decode cX4_placed 145 = .ok (.iconst 2, 1) := by decide +kernel
theorem dX4_placed_146 : decode cX4_placed 146 = .ok (.if_icmp .ne 8, 3) := by decide +kernel
theorem dX4_placed_149 : decode cX4_placed 149 = .ok (.ldc2_w 60, 3) := by decide +kernel
theorem dX4_placed_152 : decode cX4_placed 152 = .ok (.lstore 10, 2) := by decide +kernel
theorem dX4_placed_154 : decode cX4_placed 154 = .ok (.iload 4, 2) := by decide +kernel
theorem dX4_placed_156 : decode cX4_placed 156 = .ok (.ifCond .eq 9, 3) := by decide +kernel
theorem dX4_placed_159 : decode cX4_placed 159 = .ok (.lload 10, 2) := by decide +kernel
theorem dX4_placed_161 : decode cX4_placed 161 = .ok (.lneg, 1) := by decide +kernel
theorem dX4_placed_162 : decode cX4_placed 162 = .ok (.goto 5, 3) := by decide +kernel
theorem dX4_placed_165 : decode cX4_placed 165 = .ok (.lload 10, 2) := by decide +kernel
theorem dX4_placed_167 : decode cX4_placed 167 = .ok (.lreturn, 1) := by decide +kernel

set_option maxRecDepth 10000 in
theorem TX4_placed_0 {d : Nat} {S : fW} {h : fH} {Q : Int64 → fH → Prop} {r0 : Nat} {x1 : Int64} {x3 : Int32} {x4 : Int32}  
    (hs1 : (r0, shX4) ∈ S)
    (k1 : (h.1 r0 0) < (1 : Int32) → G mX4_placed d S (f_PL Q) 34 [(0, .ref r0), (1, .long x1), (3, .int x3), (4, .int x4)] [.int (0 : Int32)] h)
    (k2 : ¬ (h.1 r0 0) < (1 : Int32) → (4 : Int32) < (h.1 r0 0) → G mX4_placed d S (f_PL Q) 34 [(0, .ref r0), (1, .long x1), (3, .int x3), (4, .int x4)] [.int (0 : Int32)] h)
    (sd1 : ¬ (h.1 r0 0) < (1 : Int32) → ¬ (4 : Int32) < (h.1 r0 0) → vp_in (h.1 r0 0) 19)
    (k3 : ¬ (h.1 r0 0) < (1 : Int32) → ¬ (4 : Int32) < (h.1 r0 0) → x1 < (f_ten (h.1 r0 0).toNatClampNeg) → G mX4_placed d S (f_PL Q) 34 [(0, .ref r0), (1, .long x1), (3, .int x3), (4, .int x4)] [.int (0 : Int32)] h)
    (k4 : ¬ (h.1 r0 0) < (1 : Int32) → ¬ (4 : Int32) < (h.1 r0 0) → ¬ x1 < (f_ten (h.1 r0 0).toNatClampNeg) → G mX4_placed d S (f_PL Q) 34 [(0, .ref r0), (1, .long x1), (3, .int x3), (4, .int x4)] [.int (1 : Int32)] h) :
    OkL d mX4_placed S [.ref r0, .long x1, .int x3, .int x4] h Q := by
  refine Ok.of (by decide) (Nat.le_of_ble_eq_true rfl) ?_
  refine G_aload_n 0 rfl dX4_placed_0 rfl ?_
  refine G_geti (k := 0) hs1 (q := (RX4, TX4, 3)) rfl inX4 (by decide) (Or.inl rfl) hF_X4_9 dX4_placed_1 ?_
  refine G_iconst (v := 1) dX4_placed_4 (by decide) ?_
  refine G_icmp_lt (tgt := 33) dX4_placed_5 (by decide) (fun c1 => ?_) (fun c1 => ?_)
  · refine G_iconst (v := 0) dX4_placed_33 (by decide) ?_
    exact G_sub [0, 1, 2, 3] rfl (k1 c1)
  · refine G_aload_n 0 rfl dX4_placed_8 rfl ?_
    refine G_geti (k := 0) hs1 (q := (RX4, TX4, 3)) rfl inX4 (by decide) (Or.inl rfl) hF_X4_9 dX4_placed_9 ?_
    refine G_iconst (v := 4) dX4_placed_12 (by decide) ?_
    refine G_icmp_gt (tgt := 33) dX4_placed_13 (by decide) (fun c2 => ?_) (fun c2 => ?_)
    · refine G_iconst (v := 0) dX4_placed_33 (by decide) ?_
      exact G_sub [0, 1, 2, 3] rfl (k2 c1 c2)
    · refine G_lload_n 1 rfl dX4_placed_16 rfl ?_
      refine G_tens hM_X4_54 dX4_placed_17 ?_
      refine G_aload_n 0 rfl dX4_placed_20 rfl ?_
      refine G_geti (k := 0) hs1 (q := (RX4, TX4, 3)) rfl inX4 (by decide) (Or.inl rfl) hF_X4_9 dX4_placed_21 ?_
      refine G_tlal (sd1 c1 c2) dX4_placed_24 ?_
      refine G_lif_lt (tgt := 33) dX4_placed_25 dX4_placed_26 (by decide) (fun c3 => ?_) (fun c3 => ?_)
      · refine G_iconst (v := 0) dX4_placed_33 (by decide) ?_
        exact G_sub [0, 1, 2, 3] rfl (k3 c1 c2 c3)
      · refine G_iconst (v := 1) dX4_placed_29 (by decide) ?_
        refine G_goto (tgt := 34) dX4_placed_30 (by decide) ?_
        exact G_sub [0, 1, 2, 3] rfl (k4 c1 c2 c3)

set_option maxRecDepth 10000 in
theorem TX4_placed_34 {d : Nat} {S : fW} {h : fH} {Q : Int64 → fH → Prop} {r0 : Nat} {x1 : Int64} {x3 : Int32} {x4 : Int32} {s0 : Int32}  
    (k1 : s0 = 0 → s0 = 0 → G mX4_placed d S (f_PL Q) 64 [(0, .ref r0), (4, .int x4), (6, .long x1)] [.int x3] h)
    (k2 : s0 = 0 → ¬ s0 = 0 → G mX4_placed d S (f_PL Q) 64 [(0, .ref r0), (4, .int x4), (6, .long x1)] [.int (x3 + (1 : Int32))] h)
    (k3 : ¬ s0 = 0 → s0 = 0 → G mX4_placed d S (f_PL Q) 64 [(0, .ref r0), (4, .int x4), (6, .long (x1 / (10 : Int64)))] [.int x3] h)
    (k4 : ¬ s0 = 0 → ¬ s0 = 0 → G mX4_placed d S (f_PL Q) 64 [(0, .ref r0), (4, .int x4), (6, .long (x1 / (10 : Int64)))] [.int (x3 + (1 : Int32))] h) :
    G mX4_placed d S (f_PL Q) 34 [(0, .ref r0), (1, .long x1), (3, .int x3), (4, .int x4)] [.int s0] h := by
  refine G_istore dX4_placed_34 (by decide) (lv' := [(5, .int s0), (0, .ref r0), (1, .long x1), (3, .int x3), (4, .int x4)]) rfl ?_
  refine G_iload 0 rfl dX4_placed_36 ?_
  refine G_if_eq (tgt := 49) dX4_placed_38 (by decide) (fun c1 => ?_) (fun c1 => ?_)
  · refine G_lload_n 2 rfl dX4_placed_49 rfl ?_
    refine G_lstore dX4_placed_50 (by decide) (lv' := [(6, .long x1), (5, .int s0), (0, .ref r0), (1, .long x1), (3, .int x3), (4, .int x4)]) rfl ?_
    refine G_iload 1 rfl dX4_placed_52 ?_
    refine G_if_eq (tgt := 63) dX4_placed_54 (by decide) (fun c2 => ?_) (fun c2 => ?_)
    · refine G_iload_n 4 rfl dX4_placed_63 rfl ?_
      exact G_sub [2, 5, 0] rfl (k1 c1 c2)
    · refine G_iload_n 4 rfl dX4_placed_57 rfl ?_
      refine G_iconst (v := 1) dX4_placed_58 (by decide) ?_
      refine G_iadd dX4_placed_59 ?_
      refine G_goto (tgt := 64) dX4_placed_60 (by decide) ?_
      exact G_sub [2, 5, 0] rfl (k2 c1 c2)
  · refine G_lload_n 2 rfl dX4_placed_41 rfl ?_
    refine G_ldc2 hK_X4_42 dX4_placed_42 ?_
    refine G_ldiv dX4_placed_45 (by decide) ?_
    refine G_goto (tgt := 50) dX4_placed_46 (by decide) ?_
    refine G_lstore dX4_placed_50 (by decide) (lv' := [(6, .long (x1 / (10 : Int64))), (5, .int s0), (0, .ref r0), (1, .long x1), (3, .int x3), (4, .int x4)]) rfl ?_
    refine G_iload 1 rfl dX4_placed_52 ?_
    refine G_if_eq (tgt := 63) dX4_placed_54 (by decide) (fun c2 => ?_) (fun c2 => ?_)
    · refine G_iload_n 4 rfl dX4_placed_63 rfl ?_
      exact G_sub [2, 5, 0] rfl (k3 c1 c2)
    · refine G_iload_n 4 rfl dX4_placed_57 rfl ?_
      refine G_iconst (v := 1) dX4_placed_58 (by decide) ?_
      refine G_iadd dX4_placed_59 ?_
      refine G_goto (tgt := 64) dX4_placed_60 (by decide) ?_
      exact G_sub [2, 5, 0] rfl (k4 c1 c2)

set_option maxRecDepth 10000 in
theorem TX4_placed_64 {d : Nat} {S : fW} {h : fH} {Q : Int64 → fH → Prop} {r0 : Nat} {x4 : Int32} {x6 : Int64} {s0 : Int32}  
    (hs1 : (r0, shX4) ∈ S)
    (k1 : ((s0 + (h.1 r0 0)) - (1 : Int32)) < (16 : Int32) → ((s0 + (h.1 r0 0)) - (1 : Int32)) < (3 : Int32) → G mX4_placed d S (f_PL Q) 125 [(0, .ref r0), (4, .int x4), (10, .long (0 : Int64))] [] h)
    (k2 : ((s0 + (h.1 r0 0)) - (1 : Int32)) < (16 : Int32) → ¬ ((s0 + (h.1 r0 0)) - (1 : Int32)) < (3 : Int32) → s0 < 0 → G mX4_placed d S (f_PL Q) 125 [(0, .ref r0), (4, .int x4), (10, .long (0 : Int64))] [] h)
    (k3 : ((s0 + (h.1 r0 0)) - (1 : Int32)) < (16 : Int32) → ¬ ((s0 + (h.1 r0 0)) - (1 : Int32)) < (3 : Int32) → ¬ s0 < 0 → (19 : Int32) ≤ s0 → G mX4_placed d S (f_PL Q) 125 [(0, .ref r0), (4, .int x4), (10, .long (0 : Int64))] [] h)
    (sd1 : ((s0 + (h.1 r0 0)) - (1 : Int32)) < (16 : Int32) → ¬ ((s0 + (h.1 r0 0)) - (1 : Int32)) < (3 : Int32) → ¬ s0 < 0 → ¬ (19 : Int32) ≤ s0 → vp_in s0 19)
    (k4 : ((s0 + (h.1 r0 0)) - (1 : Int32)) < (16 : Int32) → ¬ ((s0 + (h.1 r0 0)) - (1 : Int32)) < (3 : Int32) → ¬ s0 < 0 → ¬ (19 : Int32) ≤ s0 → x4 = 0 → Q (x6 * (f_ten s0.toNatClampNeg)) h)
    (k5 : ((s0 + (h.1 r0 0)) - (1 : Int32)) < (16 : Int32) → ¬ ((s0 + (h.1 r0 0)) - (1 : Int32)) < (3 : Int32) → ¬ s0 < 0 → ¬ (19 : Int32) ≤ s0 → ¬ x4 = 0 → Q (-(x6 * (f_ten s0.toNatClampNeg))) h)
    (k6 : ¬ ((s0 + (h.1 r0 0)) - (1 : Int32)) < (16 : Int32) → Q (1000000000000000000 : Int64) h) :
    G mX4_placed d S (f_PL Q) 64 [(0, .ref r0), (4, .int x4), (6, .long x6)] [.int s0] h := by
  refine G_istore dX4_placed_64 (by decide) (lv' := [(8, .int s0), (0, .ref r0), (4, .int x4), (6, .long x6)]) rfl ?_
  refine G_iload 0 rfl dX4_placed_66 ?_
  refine G_aload_n 1 rfl dX4_placed_68 rfl ?_
  refine G_geti (k := 0) hs1 (q := (RX4, TX4, 3)) rfl inX4 (by decide) (Or.inl rfl) hF_X4_9 dX4_placed_69 ?_
  refine G_iadd dX4_placed_72 ?_
  refine G_iconst (v := 1) dX4_placed_73 (by decide) ?_
  refine G_isub dX4_placed_74 ?_
  refine G_istore dX4_placed_75 (by decide) (lv' := [(9, .int ((s0 + (h.1 r0 0)) - (1 : Int32))), (8, .int s0), (0, .ref r0), (4, .int x4), (6, .long x6)]) rfl ?_
  refine G_iload 0 rfl dX4_placed_77 ?_
  refine G_bipush (v := 16) dX4_placed_79 (by decide) ?_
  refine G_icmp_lt (tgt := 88) dX4_placed_81 (by decide) (fun c1 => ?_) (fun c1 => ?_)
  · refine G_lconst (v := 0) dX4_placed_88 (by decide) ?_
    refine G_lstore dX4_placed_89 (by decide) (lv' := [(10, .long (0 : Int64)), (9, .int ((s0 + (h.1 r0 0)) - (1 : Int32))), (8, .int s0), (0, .ref r0), (4, .int x4), (6, .long x6)]) rfl ?_
    refine G_iload 1 rfl dX4_placed_91 ?_
    refine G_iconst (v := 3) dX4_placed_93 (by decide) ?_
    refine G_icmp_lt (tgt := 125) dX4_placed_94 (by decide) (fun c2 => ?_) (fun c2 => ?_)
    · exact G_sub [3, 4, 0] rfl (k1 c1 c2)
    · refine G_iload 2 rfl dX4_placed_97 ?_
      refine G_if_lt (tgt := 125) dX4_placed_99 (by decide) (fun c3 => ?_) (fun c3 => ?_)
      · exact G_sub [3, 4, 0] rfl (k2 c1 c2 c3)
      · refine G_iload 2 rfl dX4_placed_102 ?_
        refine G_tens hM_X4_54 dX4_placed_104 ?_
        refine G_tlen dX4_placed_107 ?_
        refine G_icmp_ge (tgt := 125) dX4_placed_108 (by decide) (fun c4 => ?_) (fun c4 => ?_)
        · exact G_sub [3, 4, 0] rfl (k3 c1 c2 c3 c4)
        · refine G_lload 5 rfl dX4_placed_111 ?_
          refine G_tens hM_X4_54 dX4_placed_113 ?_
          refine G_iload 2 rfl dX4_placed_116 ?_
          refine G_tlal (sd1 c1 c2 c3 c4) dX4_placed_118 ?_
          refine G_lmul dX4_placed_119 ?_
          refine G_lstore dX4_placed_120 (by decide) (lv' := [(10, .long (x6 * (f_ten s0.toNatClampNeg))), (9, .int ((s0 + (h.1 r0 0)) - (1 : Int32))), (8, .int s0), (0, .ref r0), (4, .int x4), (6, .long x6)]) rfl ?_
          refine G_goto (tgt := 154) dX4_placed_122 (by decide) ?_
          refine G_iload 4 rfl dX4_placed_154 ?_
          refine G_if_eq (tgt := 165) dX4_placed_156 (by decide) (fun c5 => ?_) (fun c5 => ?_)
          · refine G_lload 0 rfl dX4_placed_165 ?_
            exact G_lret rfl dX4_placed_167 ⟨_, rfl, (k4 c1 c2 c3 c4 c5)⟩
          · refine G_lload 0 rfl dX4_placed_159 ?_
            refine G_lneg dX4_placed_161 ?_
            refine G_goto (tgt := 167) dX4_placed_162 (by decide) ?_
            exact G_lret rfl dX4_placed_167 ⟨_, rfl, (k5 c1 c2 c3 c4 c5)⟩
  · refine G_ldc2 hK_X4_58 dX4_placed_84 ?_
    exact G_lret rfl dX4_placed_87 ⟨_, rfl, (k6 c1)⟩

set_option maxRecDepth 10000 in
theorem TX4_placed_125 {d : Nat} {S : fW} {h : fH} {Q : Int64 → fH → Prop} {r0 : Nat} {x4 : Int32} {x10 : Int64}  
    (hs1 : (r0, shX4) ∈ S)
    (k1 : (h.1 r0 2) = 0 → x4 = 0 → Q x10 h)
    (k2 : (h.1 r0 2) = 0 → ¬ x4 = 0 → Q (-x10) h)
    (k3 : ¬ (h.1 r0 2) = 0 → x4 = 0 → ¬ (h.1 r0 1) = (2 : Int32) → x4 = 0 → Q x10 h)
    (k4 : ¬ (h.1 r0 2) = 0 → x4 = 0 → ¬ (h.1 r0 1) = (2 : Int32) → ¬ x4 = 0 → Q (-x10) h)
    (k5 : ¬ (h.1 r0 2) = 0 → x4 = 0 → (h.1 r0 1) = (2 : Int32) → x4 = 0 → Q (1000 : Int64) h)
    (k6 : ¬ (h.1 r0 2) = 0 → x4 = 0 → (h.1 r0 1) = (2 : Int32) → ¬ x4 = 0 → Q (-(1000 : Int64)) h)
    (k7 : ¬ (h.1 r0 2) = 0 → ¬ x4 = 0 → ¬ (h.1 r0 1) = (3 : Int32) → x4 = 0 → Q x10 h)
    (k8 : ¬ (h.1 r0 2) = 0 → ¬ x4 = 0 → ¬ (h.1 r0 1) = (3 : Int32) → ¬ x4 = 0 → Q (-x10) h)
    (k9 : ¬ (h.1 r0 2) = 0 → ¬ x4 = 0 → (h.1 r0 1) = (3 : Int32) → x4 = 0 → Q (1000 : Int64) h)
    (k10 : ¬ (h.1 r0 2) = 0 → ¬ x4 = 0 → (h.1 r0 1) = (3 : Int32) → ¬ x4 = 0 → Q (-(1000 : Int64)) h) :
    G mX4_placed d S (f_PL Q) 125 [(0, .ref r0), (4, .int x4), (10, .long x10)] [] h := by
  refine G_aload_n 0 rfl dX4_placed_125 rfl ?_
  refine G_geti (k := 2) hs1 (q := (RX4, TX4, 3)) rfl inX4 (by decide) (Or.inr rfl) hF_X4_18 dX4_placed_126 ?_
  refine G_if_eq (tgt := 154) dX4_placed_129 (by decide) (fun c1 => ?_) (fun c1 => ?_)
  · refine G_iload 1 rfl dX4_placed_154 ?_
    refine G_if_eq (tgt := 165) dX4_placed_156 (by decide) (fun c2 => ?_) (fun c2 => ?_)
    · refine G_lload 2 rfl dX4_placed_165 ?_
      exact G_lret rfl dX4_placed_167 ⟨_, rfl, (k1 c1 c2)⟩
    · refine G_lload 2 rfl dX4_placed_159 ?_
      refine G_lneg dX4_placed_161 ?_
      refine G_goto (tgt := 167) dX4_placed_162 (by decide) ?_
      exact G_lret rfl dX4_placed_167 ⟨_, rfl, (k2 c1 c2)⟩
  · refine G_aload_n 0 rfl dX4_placed_132 rfl ?_
    refine G_geti (k := 1) hs1 (q := (RX4, TX4, 3)) rfl inX4 (by decide) (Or.inl rfl) hF_X4_15 dX4_placed_133 ?_
    refine G_iload 1 rfl dX4_placed_136 ?_
    refine G_if_eq (tgt := 145) dX4_placed_138 (by decide) (fun c2 => ?_) (fun c2 => ?_)
    · refine G_iconst (v := 2) dX4_placed_145 (by decide) ?_
      refine G_icmp_ne (tgt := 154) dX4_placed_146 (by decide) (fun c3 => ?_) (fun c3 => ?_)
      · refine G_iload 1 rfl dX4_placed_154 ?_
        refine G_if_eq (tgt := 165) dX4_placed_156 (by decide) (fun c4 => ?_) (fun c4 => ?_)
        · refine G_lload 2 rfl dX4_placed_165 ?_
          exact G_lret rfl dX4_placed_167 ⟨_, rfl, (k3 c1 c2 c3 c4)⟩
        · refine G_lload 2 rfl dX4_placed_159 ?_
          refine G_lneg dX4_placed_161 ?_
          refine G_goto (tgt := 167) dX4_placed_162 (by decide) ?_
          exact G_lret rfl dX4_placed_167 ⟨_, rfl, (k4 c1 c2 c3 c4)⟩
      · refine G_ldc2 hK_X4_60 dX4_placed_149 ?_
        refine G_lstore dX4_placed_152 (by decide) (lv' := [(10, .long (1000 : Int64)), (0, .ref r0), (4, .int x4)]) rfl ?_
        refine G_iload 2 rfl dX4_placed_154 ?_
        refine G_if_eq (tgt := 165) dX4_placed_156 (by decide) (fun c4 => ?_) (fun c4 => ?_)
        · refine G_lload 0 rfl dX4_placed_165 ?_
          exact G_lret rfl dX4_placed_167 ⟨_, rfl, (k5 c1 c2 c3 c4)⟩
        · refine G_lload 0 rfl dX4_placed_159 ?_
          refine G_lneg dX4_placed_161 ?_
          refine G_goto (tgt := 167) dX4_placed_162 (by decide) ?_
          exact G_lret rfl dX4_placed_167 ⟨_, rfl, (k6 c1 c2 c3 c4)⟩
    · refine G_iconst (v := 3) dX4_placed_141 (by decide) ?_
      refine G_goto (tgt := 146) dX4_placed_142 (by decide) ?_
      refine G_icmp_ne (tgt := 154) dX4_placed_146 (by decide) (fun c3 => ?_) (fun c3 => ?_)
      · refine G_iload 1 rfl dX4_placed_154 ?_
        refine G_if_eq (tgt := 165) dX4_placed_156 (by decide) (fun c4 => ?_) (fun c4 => ?_)
        · refine G_lload 2 rfl dX4_placed_165 ?_
          exact G_lret rfl dX4_placed_167 ⟨_, rfl, (k7 c1 c2 c3 c4)⟩
        · refine G_lload 2 rfl dX4_placed_159 ?_
          refine G_lneg dX4_placed_161 ?_
          refine G_goto (tgt := 167) dX4_placed_162 (by decide) ?_
          exact G_lret rfl dX4_placed_167 ⟨_, rfl, (k8 c1 c2 c3 c4)⟩
      · refine G_ldc2 hK_X4_60 dX4_placed_149 ?_
        refine G_lstore dX4_placed_152 (by decide) (lv' := [(10, .long (1000 : Int64)), (0, .ref r0), (4, .int x4)]) rfl ?_
        refine G_iload 2 rfl dX4_placed_154 ?_
        refine G_if_eq (tgt := 165) dX4_placed_156 (by decide) (fun c4 => ?_) (fun c4 => ?_)
        · refine G_lload 0 rfl dX4_placed_165 ?_
          exact G_lret rfl dX4_placed_167 ⟨_, rfl, (k9 c1 c2 c3 c4)⟩
        · refine G_lload 0 rfl dX4_placed_159 ?_
          refine G_lneg dX4_placed_161 ?_
          refine G_goto (tgt := 167) dX4_placed_162 (by decide) ?_
          exact G_lret rfl dX4_placed_167 ⟨_, rfl, (k10 c1 c2 c3 c4)⟩
end
section
-- LostDigits$Text.copyFrom
theorem dX10_copyFrom_0 : decode cX10_copyFrom 0 = .ok (.aload_n 1, 1) := by decide +kernel
theorem dX10_copyFrom_1 : decode cX10_copyFrom 1 = .ok (.getfield 9, 3) := by decide +kernel
theorem dX10_copyFrom_4 : decode cX10_copyFrom 4 = .ok (.iconst 0, 1) := by decide +kernel
theorem dX10_copyFrom_5 : decode cX10_copyFrom 5 = .ok (.aload_n 0, 1) := by decide +kernel
theorem dX10_copyFrom_6 : decode cX10_copyFrom 6 = .ok (.getfield 9, 3) := by decide +kernel
theorem dX10_copyFrom_9 : decode cX10_copyFrom 9 = .ok (.iconst 0, 1) := by decide +kernel
theorem dX10_copyFrom_10 : decode cX10_copyFrom 10 = .ok (.bipush 13, 2) := by decide +kernel
theorem dX10_copyFrom_12 : decode cX10_copyFrom 12 = .ok (.invokestatic 28, 3) := by decide +kernel
theorem dX10_copyFrom_15 : decode cX10_copyFrom 15 = .ok (.aload_n 1, 1) := by decide +kernel
theorem dX10_copyFrom_16 : decode cX10_copyFrom 16 = .ok (.getfield 15, 3) := by decide +kernel
theorem dX10_copyFrom_19 : decode cX10_copyFrom 19 = .ok (.iconst 0, 1) := by decide +kernel
theorem dX10_copyFrom_20 : decode cX10_copyFrom 20 = .ok (.aload_n 0, 1) := by decide +kernel
theorem dX10_copyFrom_21 : decode cX10_copyFrom 21 = .ok (.getfield 15, 3) := by decide +kernel
theorem dX10_copyFrom_24 : decode cX10_copyFrom 24 = .ok (.iconst 0, 1) := by decide +kernel
theorem dX10_copyFrom_25 : decode cX10_copyFrom 25 = .ok (.bipush 13, 2) := by decide +kernel
theorem dX10_copyFrom_27 : decode cX10_copyFrom 27 = .ok (.invokestatic 28, 3) := by decide +kernel
theorem dX10_copyFrom_30 : decode cX10_copyFrom 30 = .ok (.aload_n 1, 1) := by decide +kernel
theorem dX10_copyFrom_31 : decode cX10_copyFrom 31 = .ok (.getfield 18, 3) := by decide +kernel
theorem dX10_copyFrom_34 : decode cX10_copyFrom 34 = .ok (.iconst 0, 1) := by decide +kernel
theorem dX10_copyFrom_35 : decode cX10_copyFrom 35 = .ok (.aload_n 0, 1) := by decide +kernel
theorem dX10_copyFrom_36 : decode cX10_copyFrom 36 = .ok (.getfield 18, 3) := by decide +kernel
theorem dX10_copyFrom_39 : decode cX10_copyFrom 39 = .ok (.iconst 0, 1) := by decide +kernel
theorem dX10_copyFrom_40 : decode cX10_copyFrom 40 = .ok (.bipush 13, 2) := by decide +kernel
theorem dX10_copyFrom_42 : decode cX10_copyFrom 42 = .ok (.invokestatic 28, 3) := by decide +kernel
theorem dX10_copyFrom_45 : decode cX10_copyFrom 45 = .ok (.aload_n 0, 1) := by decide +kernel
theorem dX10_copyFrom_46 : decode cX10_copyFrom 46 = .ok (.aload_n 1, 1) := by decide +kernel
theorem dX10_copyFrom_47 : decode cX10_copyFrom 47 = .ok (.getfield 21, 3) := by decide +kernel
theorem dX10_copyFrom_50 : decode cX10_copyFrom 50 = .ok (.putfield 21, 3) := by decide +kernel
theorem dX10_copyFrom_53 : decode cX10_copyFrom 53 = .ok (.return_, 1) := by decide +kernel

set_option maxRecDepth 10000 in
theorem TX10_copyFrom_0 {d : Nat} {S : fW} {h : fH} {Q : fH → Prop} {r0 : Nat} {r1 : Nat} {r1_signs r1_ends r1_letters r0_signs r0_ends r0_letters : Nat}  
    (hs1 : (r1, shX10 r1_signs r1_ends r1_letters) ∈ S)
    (hs2 : (r0, shX10 r0_signs r0_ends r0_letters) ∈ S)
    (hs3 : (r1_signs, shI 13) ∈ S)
    (hs4 : (r0_signs, shI 13) ∈ S)
    (hs5 : (r1_ends, shI 13) ∈ S)
    (hs6 : (r0_ends, shI 13) ∈ S)
    (hs7 : (r1_letters, shI 13) ∈ S)
    (hs8 : (r0_letters, shI 13) ∈ S)
    (k1 : Q (u_fi (u_ai (u_ai (u_ai h r0_signs (va_cpy (h.2.2.1 r1_signs) (h.2.2.1 r0_signs) 0 0 (13 : Int32).toNatClampNeg)) r0_ends (va_cpy ((u_ai h r0_signs (va_cpy (h.2.2.1 r1_signs) (h.2.2.1 r0_signs) 0 0 (13 : Int32).toNatClampNeg)).2.2.1 r1_ends) ((u_ai h r0_signs (va_cpy (h.2.2.1 r1_signs) (h.2.2.1 r0_signs) 0 0 (13 : Int32).toNatClampNeg)).2.2.1 r0_ends) 0 0 (13 : Int32).toNatClampNeg)) r0_letters (va_cpy ((u_ai (u_ai h r0_signs (va_cpy (h.2.2.1 r1_signs) (h.2.2.1 r0_signs) 0 0 (13 : Int32).toNatClampNeg)) r0_ends (va_cpy ((u_ai h r0_signs (va_cpy (h.2.2.1 r1_signs) (h.2.2.1 r0_signs) 0 0 (13 : Int32).toNatClampNeg)).2.2.1 r1_ends) ((u_ai h r0_signs (va_cpy (h.2.2.1 r1_signs) (h.2.2.1 r0_signs) 0 0 (13 : Int32).toNatClampNeg)).2.2.1 r0_ends) 0 0 (13 : Int32).toNatClampNeg)).2.2.1 r1_letters) ((u_ai (u_ai h r0_signs (va_cpy (h.2.2.1 r1_signs) (h.2.2.1 r0_signs) 0 0 (13 : Int32).toNatClampNeg)) r0_ends (va_cpy ((u_ai h r0_signs (va_cpy (h.2.2.1 r1_signs) (h.2.2.1 r0_signs) 0 0 (13 : Int32).toNatClampNeg)).2.2.1 r1_ends) ((u_ai h r0_signs (va_cpy (h.2.2.1 r1_signs) (h.2.2.1 r0_signs) 0 0 (13 : Int32).toNatClampNeg)).2.2.1 r0_ends) 0 0 (13 : Int32).toNatClampNeg)).2.2.1 r0_letters) 0 0 (13 : Int32).toNatClampNeg)) r0 3 ((u_ai (u_ai (u_ai h r0_signs (va_cpy (h.2.2.1 r1_signs) (h.2.2.1 r0_signs) 0 0 (13 : Int32).toNatClampNeg)) r0_ends (va_cpy ((u_ai h r0_signs (va_cpy (h.2.2.1 r1_signs) (h.2.2.1 r0_signs) 0 0 (13 : Int32).toNatClampNeg)).2.2.1 r1_ends) ((u_ai h r0_signs (va_cpy (h.2.2.1 r1_signs) (h.2.2.1 r0_signs) 0 0 (13 : Int32).toNatClampNeg)).2.2.1 r0_ends) 0 0 (13 : Int32).toNatClampNeg)) r0_letters (va_cpy ((u_ai (u_ai h r0_signs (va_cpy (h.2.2.1 r1_signs) (h.2.2.1 r0_signs) 0 0 (13 : Int32).toNatClampNeg)) r0_ends (va_cpy ((u_ai h r0_signs (va_cpy (h.2.2.1 r1_signs) (h.2.2.1 r0_signs) 0 0 (13 : Int32).toNatClampNeg)).2.2.1 r1_ends) ((u_ai h r0_signs (va_cpy (h.2.2.1 r1_signs) (h.2.2.1 r0_signs) 0 0 (13 : Int32).toNatClampNeg)).2.2.1 r0_ends) 0 0 (13 : Int32).toNatClampNeg)).2.2.1 r1_letters) ((u_ai (u_ai h r0_signs (va_cpy (h.2.2.1 r1_signs) (h.2.2.1 r0_signs) 0 0 (13 : Int32).toNatClampNeg)) r0_ends (va_cpy ((u_ai h r0_signs (va_cpy (h.2.2.1 r1_signs) (h.2.2.1 r0_signs) 0 0 (13 : Int32).toNatClampNeg)).2.2.1 r1_ends) ((u_ai h r0_signs (va_cpy (h.2.2.1 r1_signs) (h.2.2.1 r0_signs) 0 0 (13 : Int32).toNatClampNeg)).2.2.1 r0_ends) 0 0 (13 : Int32).toNatClampNeg)).2.2.1 r0_letters) 0 0 (13 : Int32).toNatClampNeg)).1 r1 3))) :
    OkV (d + 1) mX10_copyFrom S [.ref r0, .ref r1] h Q := by
  refine Ok.of (by decide) (Nat.le_of_ble_eq_true rfl) ?_
  refine G_aload_n 1 rfl dX10_copyFrom_0 rfl ?_
  refine G_getr (j := r1_signs) (k := 0) hs1 (q := (RX10, TX10, 4)) rfl inX10 (by decide) rfl hF_X10_9 dX10_copyFrom_1 ?_
  refine G_iconst (v := 0) dX10_copyFrom_4 (by decide) ?_
  refine G_aload_n 0 rfl dX10_copyFrom_5 rfl ?_
  refine G_getr (j := r0_signs) (k := 0) hs2 (q := (RX10, TX10, 4)) rfl inX10 (by decide) rfl hF_X10_9 dX10_copyFrom_6 ?_
  refine G_iconst (v := 0) dX10_copyFrom_9 (by decide) ?_
  refine G_bipush (v := 13) dX10_copyFrom_10 (by decide) ?_
  refine G_copyI hL_X10_28 hs3 hs4 (by decide) (by decide) (by decide) (Nat.le_of_ble_eq_true rfl) dX10_copyFrom_12 ?_
  refine G_aload_n 1 rfl dX10_copyFrom_15 rfl ?_
  refine G_getr (j := r1_ends) (k := 1) hs1 (q := (RX10, TX10, 4)) rfl inX10 (by decide) rfl hF_X10_15 dX10_copyFrom_16 ?_
  refine G_iconst (v := 0) dX10_copyFrom_19 (by decide) ?_
  refine G_aload_n 0 rfl dX10_copyFrom_20 rfl ?_
  refine G_getr (j := r0_ends) (k := 1) hs2 (q := (RX10, TX10, 4)) rfl inX10 (by decide) rfl hF_X10_15 dX10_copyFrom_21 ?_
  refine G_iconst (v := 0) dX10_copyFrom_24 (by decide) ?_
  refine G_bipush (v := 13) dX10_copyFrom_25 (by decide) ?_
  refine G_copyI hL_X10_28 hs5 hs6 (by decide) (by decide) (by decide) (Nat.le_of_ble_eq_true rfl) dX10_copyFrom_27 ?_
  refine G_aload_n 1 rfl dX10_copyFrom_30 rfl ?_
  refine G_getr (j := r1_letters) (k := 2) hs1 (q := (RX10, TX10, 4)) rfl inX10 (by decide) rfl hF_X10_18 dX10_copyFrom_31 ?_
  refine G_iconst (v := 0) dX10_copyFrom_34 (by decide) ?_
  refine G_aload_n 0 rfl dX10_copyFrom_35 rfl ?_
  refine G_getr (j := r0_letters) (k := 2) hs2 (q := (RX10, TX10, 4)) rfl inX10 (by decide) rfl hF_X10_18 dX10_copyFrom_36 ?_
  refine G_iconst (v := 0) dX10_copyFrom_39 (by decide) ?_
  refine G_bipush (v := 13) dX10_copyFrom_40 (by decide) ?_
  refine G_copyI hL_X10_28 hs7 hs8 (by decide) (by decide) (by decide) (Nat.le_of_ble_eq_true rfl) dX10_copyFrom_42 ?_
  refine G_aload_n 0 rfl dX10_copyFrom_45 rfl ?_
  refine G_aload_n 1 rfl dX10_copyFrom_46 rfl ?_
  refine G_geti (k := 3) hs1 (q := (RX10, TX10, 4)) rfl inX10 (by decide) (Or.inl rfl) hF_X10_21 dX10_copyFrom_47 ?_
  refine G_puti (k := 3) tyX10 hs2 (q := (RX10, TX10, 4)) rfl inX10 tyX10_ok nmX10 (by decide) rfl rfl rfl hF_X10_21 dX10_copyFrom_50 ?_
  exact G_vret rfl dX10_copyFrom_53 ⟨rfl, (k1)⟩

-- LostDigits$Text.read
theorem dX10_read_0 : decode cX10_read 0 = .ok (.aload_n 0, 1) := by decide +kernel
theorem dX10_read_1 : decode cX10_read 1 = .ok (.iconst 0, 1) := by decide +kernel
theorem dX10_read_2 : decode cX10_read 2 = .ok (.putfield 21, 3) := by decide +kernel
theorem dX10_read_5 : decode cX10_read 5 = .ok (.iconst 0, 1) := by decide +kernel
theorem dX10_read_6 : decode cX10_read 6 = .ok (.istore_n 3, 1) := by decide +kernel
theorem dX10_read_7 : decode cX10_read 7 = .ok (.iload_n 3, 1) := by decide +kernel
theorem dX10_read_8 : decode cX10_read 8 = .ok (.iload_n 2, 1) := by decide +kernel
theorem dX10_read_9 : decode cX10_read 9 = .ok (.if_icmp .ge 22, 3) := by decide +kernel
theorem dX10_read_12 : decode cX10_read 12 = .ok (.iload_n 3, 1) := by decide +kernel
theorem dX10_read_13 : decode cX10_read 13 = .ok (.aload_n 1, 1) := by decide +kernel
theorem dX10_read_14 : decode cX10_read 14 = .ok (.arraylength, 1) := by decide +kernel
theorem dX10_read_15 : decode cX10_read 15 = .ok (.if_icmp .ge 16, 3) := by decide +kernel
theorem dX10_read_18 : decode cX10_read 18 = .ok (.aload_n 0, 1) := by decide +kernel
theorem dX10_read_19 : decode cX10_read 19 = .ok (.aload_n 1, 1) := by decide +kernel
theorem dX10_read_20 : decode cX10_read 20 = .ok (.iload_n 3, 1) := by decide +kernel
theorem dX10_read_21 : decode cX10_read 21 = .ok (.iaload, 1) := by decide +kernel
theorem dX10_read_22 : decode cX10_read 22 = .ok (.invokevirtual 34, 3) := by decide +kernel
theorem dX10_read_25 : decode cX10_read 25 = .ok (.iinc 3 1, 3) := by decide +kernel
theorem dX10_read_28 : decode cX10_read 28 = .ok (.goto (-21), 3) := by decide +kernel
theorem dX10_read_31 : decode cX10_read 31 = .ok (.aload_n 0, 1) := by decide +kernel
theorem dX10_read_32 : decode cX10_read 32 = .ok (.invokevirtual 25, 3) := by decide +kernel
theorem dX10_read_35 : decode cX10_read 35 = .ok (.return_, 1) := by decide +kernel

set_option maxRecDepth 10000 in
theorem TX10_read_0 {d : Nat} {S : fW} {h : fH} {Q : fH → Prop} {r0 : Nat} {r1 : Nat} {x2 : Int32} {r0_signs r0_ends r0_letters : Nat}  
    (hs1 : (r0, shX10 r0_signs r0_ends r0_letters) ∈ S)
    (k1 : G mX10_read (d + 1) S (f_PV Q) 7 [(0, .ref r0), (1, .ref r1), (2, .int x2), (3, .int (0 : Int32))] [] (u_fi h r0 3 (0 : Int32))) :
    OkV (d + 1) mX10_read S [.ref r0, .ref r1, .int x2] h Q := by
  refine Ok.of (by decide) (Nat.le_of_ble_eq_true rfl) ?_
  refine G_aload_n 0 rfl dX10_read_0 rfl ?_
  refine G_iconst (v := 0) dX10_read_1 (by decide) ?_
  refine G_puti (k := 3) tyX10 hs1 (q := (RX10, TX10, 4)) rfl inX10 tyX10_ok nmX10 (by decide) rfl rfl rfl hF_X10_21 dX10_read_2 ?_
  refine G_iconst (v := 0) dX10_read_5 (by decide) ?_
  refine G_istore_n dX10_read_6 rfl (by decide) (lv' := [(3, .int (0 : Int32)), (0, .ref r0), (1, .ref r1), (2, .int x2)]) rfl ?_
  exact G_sub [1, 2, 3, 0] rfl (k1)

set_option maxRecDepth 10000 in
theorem TX10_read_7 {d : Nat} {S : fW} {h : fH} {Q : fH → Prop} {r0 : Nat} {r1 : Nat} {x2 : Int32} {x3 : Int32} {r0_signs r0_ends r0_letters n_r1 : Nat} {Q1 : fH → Prop} {Q2 : fH → Prop} {Q3 : fH → Prop} 
    (hs1 : (r0, shX10 r0_signs r0_ends r0_letters) ∈ S)
    (ok1 : x2 ≤ x3 → OkV d mX10_findParts S [.ref r0] h Q1)
    (k1 : x2 ≤ x3 → ∀ h_1, Q1 h_1 → Q h_1)
    (hs2 : (r1, shI n_r1) ∈ S)
    (ok2 : ¬ x2 ≤ x3 → (Int32.ofNat n_r1) ≤ x3 → OkV d mX10_findParts S [.ref r0] h Q2)
    (k2 : ¬ x2 ≤ x3 → (Int32.ofNat n_r1) ≤ x3 → ∀ h_2, Q2 h_2 → Q h_2)
    (sd1 : ¬ x2 ≤ x3 → ¬ (Int32.ofNat n_r1) ≤ x3 → vp_in x3 n_r1)
    (ok3 : ¬ x2 ≤ x3 → ¬ (Int32.ofNat n_r1) ≤ x3 → OkV d mX10_add S [.ref r0, .int (h.2.2.1 r1 x3.toNatClampNeg)] h Q3)
    (k3 : ¬ x2 ≤ x3 → ¬ (Int32.ofNat n_r1) ≤ x3 → ∀ h_3, Q3 h_3 → G mX10_read (d + 1) S (f_PV Q) 7 [(0, .ref r0), (1, .ref r1), (2, .int x2), (3, .int (x3 + 1))] [] h_3) :
    G mX10_read (d + 1) S (f_PV Q) 7 [(0, .ref r0), (1, .ref r1), (2, .int x2), (3, .int x3)] [] h := by
  refine G_iload_n 3 rfl dX10_read_7 rfl ?_
  refine G_iload_n 2 rfl dX10_read_8 rfl ?_
  refine G_icmp_ge (tgt := 31) dX10_read_9 (by decide) (fun c1 => ?_) (fun c1 => ?_)
  · refine G_aload_n 0 rfl dX10_read_31 rfl ?_
    refine G_callV (Z := mX10_findParts) (As := []) (st := []) hL_X10_25 hI_X10_findParts hS_X10_findParts hC_X10_findParts hN_X10 nX10_findParts (by decide) hs1 rfl rfl rfl (Nat.le_of_ble_eq_true rfl) dX10_read_32 (ok1 c1) (fun r_ h_1 z_ => ?_)
    obtain ⟨rfl, q_1⟩ := z_
    exact G_vret rfl dX10_read_35 ⟨rfl, (k1 c1 h_1 q_1)⟩
  · refine G_iload_n 3 rfl dX10_read_12 rfl ?_
    refine G_aload_n 1 rfl dX10_read_13 rfl ?_
    refine G_alenI hs2 dX10_read_14 ?_
    refine G_icmp_ge (tgt := 31) dX10_read_15 (by decide) (fun c2 => ?_) (fun c2 => ?_)
    · refine G_aload_n 0 rfl dX10_read_31 rfl ?_
      refine G_callV (Z := mX10_findParts) (As := []) (st := []) hL_X10_25 hI_X10_findParts hS_X10_findParts hC_X10_findParts hN_X10 nX10_findParts (by decide) hs1 rfl rfl rfl (Nat.le_of_ble_eq_true rfl) dX10_read_32 (ok2 c1 c2) (fun r_ h_2 z_ => ?_)
      obtain ⟨rfl, q_2⟩ := z_
      exact G_vret rfl dX10_read_35 ⟨rfl, (k2 c1 c2 h_2 q_2)⟩
    · refine G_aload_n 0 rfl dX10_read_18 rfl ?_
      refine G_aload_n 1 rfl dX10_read_19 rfl ?_
      refine G_iload_n 3 rfl dX10_read_20 rfl ?_
      refine G_iald hs2 (sd1 c1 c2) dX10_read_21 ?_
      refine G_callV (Z := mX10_add) (As := [.int (h.2.2.1 r1 x3.toNatClampNeg)]) (st := []) hL_X10_34 hI_X10_add hS_X10_add hC_X10_add hN_X10 nX10_add (by decide) hs1 rfl rfl rfl (Nat.le_of_ble_eq_true rfl) dX10_read_22 (ok3 c1 c2) (fun r_ h_3 z_ => ?_)
      obtain ⟨rfl, q_3⟩ := z_
      refine G_iinc (v := 1) 3 rfl dX10_read_25 (by decide) (by decide) (lv' := [(3, .int (x3 + 1)), (0, .ref r0), (1, .ref r1), (2, .int x2)]) rfl ?_
      refine G_goto (tgt := 7) dX10_read_28 (by decide) ?_
      exact G_sub [1, 2, 3, 0] rfl (k3 c1 c2 h_3 q_3)

-- LostDigits$Text.add
theorem dX10_add_0 : decode cX10_add 0 = .ok (.aload_n 0, 1) := by decide +kernel
theorem dX10_add_1 : decode cX10_add 1 = .ok (.getfield 21, 3) := by decide +kernel
theorem dX10_add_4 : decode cX10_add 4 = .ok (.ifCond .lt 32, 3) := by decide +kernel
theorem dX10_add_7 : decode cX10_add 7 = .ok (.aload_n 0, 1) := by decide +kernel
theorem dX10_add_8 : decode cX10_add 8 = .ok (.getfield 21, 3) := by decide +kernel
theorem dX10_add_11 : decode cX10_add 11 = .ok (.bipush 13, 2) := by decide +kernel
theorem dX10_add_13 : decode cX10_add 13 = .ok (.if_icmp .ge 23, 3) := by decide +kernel
theorem dX10_add_16 : decode cX10_add 16 = .ok (.aload_n 0, 1) := by decide +kernel
theorem dX10_add_17 : decode cX10_add 17 = .ok (.getfield 9, 3) := by decide +kernel
theorem dX10_add_20 : decode cX10_add 20 = .ok (.aload_n 0, 1) := by decide +kernel
theorem dX10_add_21 : decode cX10_add 21 = .ok (.getfield 21, 3) := by decide +kernel
theorem dX10_add_24 : decode cX10_add 24 = .ok (.iload_n 1, 1) := by decide +kernel
theorem dX10_add_25 : decode cX10_add 25 = .ok (.iastore, 1) := by decide +kernel
theorem dX10_add_26 : decode cX10_add 26 = .ok (.aload_n 0, 1) := by decide +kernel
theorem dX10_add_27 : decode cX10_add 27 = .ok (.dup, 1) := by decide +kernel
theorem dX10_add_28 : decode cX10_add 28 = .ok (.getfield 21, 3) := by decide +kernel
theorem dX10_add_31 : decode cX10_add 31 = .ok (.iconst 1, 1) := by decide +kernel
theorem dX10_add_32 : decode cX10_add 32 = .ok (.iadd, 1) := by decide +kernel
theorem dX10_add_33 : decode cX10_add 33 = .ok (.putfield 21, 3) := by decide +kernel
theorem dX10_add_36 : decode cX10_add 36 = .ok (.return_, 1) := by decide +kernel

set_option maxRecDepth 10000 in
theorem TX10_add_0 {d : Nat} {S : fW} {h : fH} {Q : fH → Prop} {r0 : Nat} {x1 : Int32} {r0_signs r0_ends r0_letters : Nat}  
    (hs1 : (r0, shX10 r0_signs r0_ends r0_letters) ∈ S)
    (k1 : (h.1 r0 3) < 0 → Q h)
    (k2 : ¬ (h.1 r0 3) < 0 → (13 : Int32) ≤ (h.1 r0 3) → Q h)
    (hs2 : (r0_signs, shI 13) ∈ S)
    (sd1 : ¬ (h.1 r0 3) < 0 → ¬ (13 : Int32) ≤ (h.1 r0 3) → vp_in (h.1 r0 3) 13)
    (k3 : ¬ (h.1 r0 3) < 0 → ¬ (13 : Int32) ≤ (h.1 r0 3) → Q (u_fi (u_ai h r0_signs (upd (h.2.2.1 r0_signs) (h.1 r0 3).toNatClampNeg x1)) r0 3 (((u_ai h r0_signs (upd (h.2.2.1 r0_signs) (h.1 r0 3).toNatClampNeg x1)).1 r0 3) + (1 : Int32)))) :
    OkV d mX10_add S [.ref r0, .int x1] h Q := by
  refine Ok.of (by decide) (Nat.le_of_ble_eq_true rfl) ?_
  refine G_aload_n 0 rfl dX10_add_0 rfl ?_
  refine G_geti (k := 3) hs1 (q := (RX10, TX10, 4)) rfl inX10 (by decide) (Or.inl rfl) hF_X10_21 dX10_add_1 ?_
  refine G_if_lt (tgt := 36) dX10_add_4 (by decide) (fun c1 => ?_) (fun c1 => ?_)
  · exact G_vret rfl dX10_add_36 ⟨rfl, (k1 c1)⟩
  · refine G_aload_n 0 rfl dX10_add_7 rfl ?_
    refine G_geti (k := 3) hs1 (q := (RX10, TX10, 4)) rfl inX10 (by decide) (Or.inl rfl) hF_X10_21 dX10_add_8 ?_
    refine G_bipush (v := 13) dX10_add_11 (by decide) ?_
    refine G_icmp_ge (tgt := 36) dX10_add_13 (by decide) (fun c2 => ?_) (fun c2 => ?_)
    · exact G_vret rfl dX10_add_36 ⟨rfl, (k2 c1 c2)⟩
    · refine G_aload_n 0 rfl dX10_add_16 rfl ?_
      refine G_getr (j := r0_signs) (k := 0) hs1 (q := (RX10, TX10, 4)) rfl inX10 (by decide) rfl hF_X10_9 dX10_add_17 ?_
      refine G_aload_n 0 rfl dX10_add_20 rfl ?_
      refine G_geti (k := 3) hs1 (q := (RX10, TX10, 4)) rfl inX10 (by decide) (Or.inl rfl) hF_X10_21 dX10_add_21 ?_
      refine G_iload_n 1 rfl dX10_add_24 rfl ?_
      refine G_iast hs2 (sd1 c1 c2) dX10_add_25 ?_
      refine G_aload_n 0 rfl dX10_add_26 rfl ?_
      refine G_dup dX10_add_27 rfl ?_
      refine G_geti (k := 3) hs1 (q := (RX10, TX10, 4)) rfl inX10 (by decide) (Or.inl rfl) hF_X10_21 dX10_add_28 ?_
      refine G_iconst (v := 1) dX10_add_31 (by decide) ?_
      refine G_iadd dX10_add_32 ?_
      refine G_puti (k := 3) tyX10 hs1 (q := (RX10, TX10, 4)) rfl inX10 tyX10_ok nmX10 (by decide) rfl rfl rfl hF_X10_21 dX10_add_33 ?_
      exact G_vret rfl dX10_add_36 ⟨rfl, (k3 c1 c2)⟩

-- LostDigits$Text.addPlaces
theorem dX10_addPlaces_0 : decode cX10_addPlaces 0 = .ok (.iload_n 2, 1) := by decide +kernel
theorem dX10_addPlaces_1 : decode cX10_addPlaces 1 = .ok (.istore 4, 2) := by decide +kernel
theorem dX10_addPlaces_3 : decode cX10_addPlaces 3 = .ok (.iload 4, 2) := by decide +kernel
theorem dX10_addPlaces_5 : decode cX10_addPlaces 5 = .ok (.iload_n 3, 1) := by decide +kernel
theorem dX10_addPlaces_6 : decode cX10_addPlaces 6 = .ok (.if_icmp .ge 19, 3) := by decide +kernel
theorem dX10_addPlaces_9 : decode cX10_addPlaces 9 = .ok (.aload_n 0, 1) := by decide +kernel
theorem dX10_addPlaces_10 : decode cX10_addPlaces 10 = .ok (.aload_n 1, 1) := by decide +kernel
theorem dX10_addPlaces_11 : decode cX10_addPlaces 11 = .ok (.iload 4, 2) := by decide +kernel
theorem dX10_addPlaces_13 : decode cX10_addPlaces 13 = .ok (.invokevirtual 38, 3) := by decide +kernel
theorem dX10_addPlaces_16 : decode cX10_addPlaces 16 = .ok (.invokevirtual 34, 3) := by decide +kernel
theorem dX10_addPlaces_19 : decode cX10_addPlaces 19 = .ok (.iinc 4 1, 3) := by decide +kernel
theorem dX10_addPlaces_22 : decode cX10_addPlaces 22 = .ok (.goto (-19), 3) := by decide +kernel
theorem dX10_addPlaces_25 : decode cX10_addPlaces 25 = .ok (.return_, 1) := by decide +kernel

set_option maxRecDepth 10000 in
theorem TX10_addPlaces_0 {d : Nat} {S : fW} {h : fH} {Q : fH → Prop} {r0 : Nat} {r1 : Nat} {x2 : Int32} {x3 : Int32}  
    (k1 : G mX10_addPlaces (d + 1) S (f_PV Q) 3 [(0, .ref r0), (1, .ref r1), (3, .int x3), (4, .int x2)] [] h) :
    OkV (d + 1) mX10_addPlaces S [.ref r0, .ref r1, .int x2, .int x3] h Q := by
  refine Ok.of (by decide) (Nat.le_of_ble_eq_true rfl) ?_
  refine G_iload_n 2 rfl dX10_addPlaces_0 rfl ?_
  refine G_istore dX10_addPlaces_1 (by decide) (lv' := [(4, .int x2), (0, .ref r0), (1, .ref r1), (2, .int x2), (3, .int x3)]) rfl ?_
  exact G_sub [1, 2, 4, 0] rfl (k1)

set_option maxRecDepth 10000 in
theorem TX10_addPlaces_3 {d : Nat} {S : fW} {h : fH} {Q : fH → Prop} {r0 : Nat} {r1 : Nat} {x3 : Int32} {x4 : Int32} {r1_signs r1_ends r1_letters r0_signs r0_ends r0_letters : Nat} {Q1 : Int32 → fH → Prop} {Q2 : Int32 → fH → fH → Prop} 
    (k1 : x3 ≤ x4 → Q h)
    (hs1 : (r1, shX10 r1_signs r1_ends r1_letters) ∈ S)
    (ok1 : ¬ x3 ≤ x4 → OkI d mX10_signAt S [.ref r1, .int x4] h Q1)
    (hs2 : (r0, shX10 r0_signs r0_ends r0_letters) ∈ S)
    (ok2 : ¬ x3 ≤ x4 → ∀ v_1 h_1, Q1 v_1 h_1 → OkV d mX10_add S [.ref r0, .int v_1] h_1 (Q2 v_1 h_1))
    (k2 : ¬ x3 ≤ x4 → ∀ v_1 h_1, Q1 v_1 h_1 → ∀ h_2, (Q2 v_1 h_1) h_2 → G mX10_addPlaces (d + 1) S (f_PV Q) 3 [(0, .ref r0), (1, .ref r1), (3, .int x3), (4, .int (x4 + 1))] [] h_2) :
    G mX10_addPlaces (d + 1) S (f_PV Q) 3 [(0, .ref r0), (1, .ref r1), (3, .int x3), (4, .int x4)] [] h := by
  refine G_iload 3 rfl dX10_addPlaces_3 ?_
  refine G_iload_n 2 rfl dX10_addPlaces_5 rfl ?_
  refine G_icmp_ge (tgt := 25) dX10_addPlaces_6 (by decide) (fun c1 => ?_) (fun c1 => ?_)
  · exact G_vret rfl dX10_addPlaces_25 ⟨rfl, (k1 c1)⟩
  · refine G_aload_n 0 rfl dX10_addPlaces_9 rfl ?_
    refine G_aload_n 1 rfl dX10_addPlaces_10 rfl ?_
    refine G_iload 3 rfl dX10_addPlaces_11 ?_
    refine G_callV (Z := mX10_signAt) (As := [.int x4]) (st := [.ref r0]) hL_X10_38 hI_X10_signAt hS_X10_signAt hC_X10_signAt hN_X10 nX10_signAt (by decide) hs1 rfl rfl rfl (Nat.le_of_ble_eq_true rfl) dX10_addPlaces_13 (ok1 c1) (fun r_ h_1 z_ => ?_)
    obtain ⟨v_1, rfl, q_1⟩ := z_
    refine G_callV (Z := mX10_add) (As := [.int v_1]) (st := []) hL_X10_34 hI_X10_add hS_X10_add hC_X10_add hN_X10 nX10_add (by decide) hs2 rfl rfl rfl (Nat.le_of_ble_eq_true rfl) dX10_addPlaces_16 (ok2 c1 v_1 h_1 q_1) (fun r_ h_2 z_ => ?_)
    obtain ⟨rfl, q_2⟩ := z_
    refine G_iinc (v := 1) 3 rfl dX10_addPlaces_19 (by decide) (by decide) (lv' := [(4, .int (x4 + 1)), (0, .ref r0), (1, .ref r1), (3, .int x3)]) rfl ?_
    refine G_goto (tgt := 3) dX10_addPlaces_22 (by decide) ?_
    exact G_sub [1, 2, 3, 0] rfl (k2 c1 v_1 h_1 q_1 h_2 q_2)

-- LostDigits$Text.addPart
theorem dX10_addPart_0 : decode cX10_addPart 0 = .ok (.aload_n 0, 1) := by decide +kernel
theorem dX10_addPart_1 : decode cX10_addPart 1 = .ok (.aload_n 1, 1) := by decide +kernel
theorem dX10_addPart_2 : decode cX10_addPart 2 = .ok (.iload_n 2, 1) := by decide +kernel
theorem dX10_addPart_3 : decode cX10_addPart 3 = .ok (.aload_n 1, 1) := by decide +kernel
theorem dX10_addPart_4 : decode cX10_addPart 4 = .ok (.iload_n 2, 1) := by decide +kernel
theorem dX10_addPart_5 : decode cX10_addPart 5 = .ok (.invokevirtual 42, 3) := by decide +kernel
theorem dX10_addPart_8 : decode cX10_addPart 8 = .ok (.invokevirtual 45, 3) := by decide +kernel
theorem dX10_addPart_11 : decode cX10_addPart 11 = .ok (.return_, 1) := by decide +kernel

set_option maxRecDepth 10000 in
theorem TX10_addPart_0 {d : Nat} {S : fW} {h : fH} {Q : fH → Prop} {r0 : Nat} {r1 : Nat} {x2 : Int32} {r1_signs r1_ends r1_letters r0_signs r0_ends r0_letters : Nat} {Q1 : Int32 → fH → Prop} {Q2 : Int32 → fH → fH → Prop} 
    (hs1 : (r1, shX10 r1_signs r1_ends r1_letters) ∈ S)
    (ok1 : OkI d mX10_endOf S [.ref r1, .int x2] h Q1)
    (hs2 : (r0, shX10 r0_signs r0_ends r0_letters) ∈ S)
    (ok2 : ∀ v_1 h_1, Q1 v_1 h_1 → OkV d mX10_addPlaces S [.ref r0, .ref r1, .int x2, .int v_1] h_1 (Q2 v_1 h_1))
    (k1 : ∀ v_1 h_1, Q1 v_1 h_1 → ∀ h_2, (Q2 v_1 h_1) h_2 → Q h_2) :
    OkV (d + 1) mX10_addPart S [.ref r0, .ref r1, .int x2] h Q := by
  refine Ok.of (by decide) (Nat.le_of_ble_eq_true rfl) ?_
  refine G_aload_n 0 rfl dX10_addPart_0 rfl ?_
  refine G_aload_n 1 rfl dX10_addPart_1 rfl ?_
  refine G_iload_n 2 rfl dX10_addPart_2 rfl ?_
  refine G_aload_n 1 rfl dX10_addPart_3 rfl ?_
  refine G_iload_n 2 rfl dX10_addPart_4 rfl ?_
  refine G_callV (Z := mX10_endOf) (As := [.int x2]) (st := [.int x2, .ref r1, .ref r0]) hL_X10_42 hI_X10_endOf hS_X10_endOf hC_X10_endOf hN_X10 nX10_endOf (by decide) hs1 rfl rfl rfl (Nat.le_of_ble_eq_true rfl) dX10_addPart_5 (ok1) (fun r_ h_1 z_ => ?_)
  obtain ⟨v_1, rfl, q_1⟩ := z_
  refine G_callV (Z := mX10_addPlaces) (As := [.ref r1, .int x2, .int v_1]) (st := []) hL_X10_45 hI_X10_addPlaces hS_X10_addPlaces hC_X10_addPlaces hN_X10 nX10_addPlaces (by decide) hs2 rfl rfl rfl (Nat.le_of_ble_eq_true rfl) dX10_addPart_8 (ok2 v_1 h_1 q_1) (fun r_ h_2 z_ => ?_)
  obtain ⟨rfl, q_2⟩ := z_
  exact G_vret rfl dX10_addPart_11 ⟨rfl, (k1 v_1 h_1 q_1 h_2 q_2)⟩

-- LostDigits$Text.findParts
theorem dX10_findParts_0 : decode cX10_findParts 0 = .ok (.aload_n 0, 1) := by decide +kernel
theorem dX10_findParts_1 : decode cX10_findParts 1 = .ok (.getfield 21, 3) := by decide +kernel
theorem dX10_findParts_4 : decode cX10_findParts 4 = .ok (.iconst 1, 1) := by decide +kernel
theorem dX10_findParts_5 : decode cX10_findParts 5 = .ok (.isub, 1) := by decide +kernel
theorem dX10_findParts_6 : decode cX10_findParts 6 = .ok (.istore_n 1, 1) := by decide +kernel
theorem dX10_findParts_7 : decode cX10_findParts 7 = .ok (.iload_n 1, 1) := by decide +kernel
theorem dX10_findParts_8 : decode cX10_findParts 8 = .ok (.ifCond .lt 108, 3) := by decide +kernel
theorem dX10_findParts_11 : decode cX10_findParts 11 = .ok (.aload_n 0, 1) := by decide +kernel
theorem dX10_findParts_12 : decode cX10_findParts 12 = .ok (.getfield 9, 3) := by decide +kernel
theorem dX10_findParts_15 : decode cX10_findParts 15 = .ok (.iload_n 1, 1) := by decide +kernel
theorem dX10_findParts_16 : decode cX10_findParts 16 = .ok (.iaload, 1) := by decide +kernel
theorem dX10_findParts_17 : decode cX10_findParts 17 = .ok (.invokestatic 49, 3) := by decide +kernel
theorem dX10_findParts_20 : decode cX10_findParts 20 = .ok (.ifCond .eq 44, 3) := by decide +kernel
theorem dX10_findParts_23 : decode cX10_findParts 23 = .ok (.aload_n 0, 1) := by decide +kernel
theorem dX10_findParts_24 : decode cX10_findParts 24 = .ok (.iload_n 1, 1) := by decide +kernel
theorem dX10_findParts_25 : decode cX10_findParts 25 = .ok (.iconst 1, 1) := by decide +kernel
theorem dX10_findParts_26 : decode cX10_findParts 26 = .ok (.iadd, 1) := by decide +kernel
theorem dX10_findParts_27 : decode cX10_findParts 27 = .ok (.invokevirtual 42, 3) := by decide +kernel
theorem dX10_findParts_30 : decode cX10_findParts 30 = .ok (.istore_n 2, 1) := by decide +kernel
theorem dX10_findParts_31 : decode cX10_findParts 31 = .ok (.aload_n 0, 1) := by decide +kernel
theorem dX10_findParts_32 : decode cX10_findParts 32 = .ok (.getfield 15, 3) := by decide +kernel
theorem dX10_findParts_35 : decode cX10_findParts 35 = .ok (.iload_n 1, 1) := by decide +kernel
theorem dX10_findParts_36 : decode cX10_findParts 36 = .ok (.aload_n 0, 1) := by decide +kernel
theorem dX10_findParts_37 : decode cX10_findParts 37 = .ok (.iload_n 2, 1) := by decide +kernel
theorem dX10_findParts_38 : decode cX10_findParts 38 = .ok (.invokevirtual 42, 3) := by decide +kernel
theorem dX10_findParts_41 : decode cX10_findParts 41 = .ok (.iastore, 1) := by decide +kernel
theorem dX10_findParts_42 : decode cX10_findParts 42 = .ok (.aload_n 0, 1) := by decide +kernel
theorem dX10_findParts_43 : decode cX10_findParts 43 = .ok (.getfield 18, 3) := by decide +kernel
theorem dX10_findParts_46 : decode cX10_findParts 46 = .ok (.iload_n 1, 1) := by decide +kernel
theorem dX10_findParts_47 : decode cX10_findParts 47 = .ok (.aload_n 0, 1) := by decide +kernel
theorem dX10_findParts_48 : decode cX10_findParts 48 = .ok (.iload_n 1, 1) := by decide +kernel
theorem dX10_findParts_49 : decode cX10_findParts 49 = .ok (.iconst 1, 1) := by decide +kernel
theorem dX10_findParts_50 : decode cX10_findParts 50 = .ok (.iadd, 1) := by decide +kernel
theorem dX10_findParts_51 : decode cX10_findParts 51 = .ok (.invokevirtual 53, 3) := by decide +kernel
theorem dX10_findParts_54 : decode cX10_findParts 54 = .ok (.aload_n 0, 1) := by decide +kernel
theorem dX10_findParts_55 : decode cX10_findParts 55 = .ok (.iload_n 2, 1) := by decide +kernel
theorem dX10_findParts_56 : decode cX10_findParts 56 = .ok (.invokevirtual 53, 3) := by decide +kernel
theorem dX10_findParts_59 : decode cX10_findParts 59 = .ok (.ior, 1) := by decide +kernel
theorem dX10_findParts_60 : decode cX10_findParts 60 = .ok (.iastore, 1) := by decide +kernel
theorem dX10_findParts_61 : decode cX10_findParts 61 = .ok (.goto 49, 3) := by decide +kernel
theorem dX10_findParts_64 : decode cX10_findParts 64 = .ok (.aload_n 0, 1) := by decide +kernel
theorem dX10_findParts_65 : decode cX10_findParts 65 = .ok (.getfield 15, 3) := by decide +kernel
theorem dX10_findParts_68 : decode cX10_findParts 68 = .ok (.iload_n 1, 1) := by decide +kernel
theorem dX10_findParts_69 : decode cX10_findParts 69 = .ok (.iload_n 1, 1) := by decide +kernel
theorem dX10_findParts_70 : decode cX10_findParts 70 = .ok (.iconst 1, 1) := by decide +kernel
theorem dX10_findParts_71 : decode cX10_findParts 71 = .ok (.iadd, 1) := by decide +kernel
theorem dX10_findParts_72 : decode cX10_findParts 72 = .ok (.iastore, 1) := by decide +kernel
theorem dX10_findParts_73 : decode cX10_findParts 73 = .ok (.aload_n 0, 1) := by decide +kernel
theorem dX10_findParts_74 : decode cX10_findParts 74 = .ok (.getfield 18, 3) := by decide +kernel
theorem dX10_findParts_77 : decode cX10_findParts 77 = .ok (.iload_n 1, 1) := by decide +kernel
theorem dX10_findParts_78 : decode cX10_findParts 78 = .ok (.aload_n 0, 1) := by decide +kernel
theorem dX10_findParts_79 : decode cX10_findParts 79 = .ok (.getfield 9, 3) := by decide +kernel
theorem dX10_findParts_82 : decode cX10_findParts 82 = .ok (.iload_n 1, 1) := by decide +kernel
theorem dX10_findParts_83 : decode cX10_findParts 83 = .ok (.iaload, 1) := by decide +kernel
theorem dX10_findParts_84 : decode cX10_findParts 84 = .ok (.invokestatic 56, 3) := by decide +kernel
theorem dX10_findParts_87 : decode cX10_findParts 87 = .ok (.ifCond .eq 20, 3) := by decide +kernel
theorem dX10_findParts_90 : decode cX10_findParts 90 = .ok (.bipush 32, 2) := by decide +kernel
theorem dX10_findParts_92 : decode cX10_findParts 92 = .ok (.iconst 1, 1) := by decide +kernel
theorem dX10_findParts_93 : decode cX10_findParts 93 = .ok (.aload_n 0, 1) := by decide +kernel
theorem dX10_findParts_94 : decode cX10_findParts 94 = .ok (.getfield 9, 3) := by decide +kernel
theorem dX10_findParts_97 : decode cX10_findParts 97 = .ok (.iload_n 1, 1) := by decide +kernel
theorem dX10_findParts_98 : decode cX10_findParts 98 = .ok (.iaload, 1) := by decide +kernel
theorem dX10_findParts_99 : decode cX10_findParts 99 = .ok (.bipush 97, 2) := by decide +kernel
theorem dX10_findParts_101 : decode cX10_findParts 101 = .ok (.isub, 1) := by decide +kernel
theorem dX10_findParts_102 : decode cX10_findParts 102 = .ok (.ishl, 1) := by decide +kernel
theorem dX10_findParts_103 : decode cX10_findParts 103 = .ok (.ior, 1) := by decide +kernel
theorem dX10_findParts_104 : decode cX10_findParts 104 = .ok (.goto 5, 3) := by decide +kernel
theorem dX10_findParts_107 : decode cX10_findParts 107 = .ok (.bipush 32, 2) := by decide +kernel
theorem dX10_findParts_109 : decode cX10_findParts 109 = .ok (.iastore, 1) := by decide +kernel
theorem dX10_findParts_110 : decode cX10_findParts 110 = .ok (.iinc 1 (-1), 3) := by decide +kernel
theorem dX10_findParts_113 : decode cX10_findParts 113 = .ok (.goto (-106), 3) := by decide +kernel
theorem dX10_findParts_116 : decode cX10_findParts 116 = .ok (.return_, 1) := by decide +kernel

set_option maxRecDepth 10000 in
theorem TX10_findParts_0 {d : Nat} {S : fW} {h : fH} {Q : fH → Prop} {r0 : Nat} {r0_signs r0_ends r0_letters : Nat}  
    (hs1 : (r0, shX10 r0_signs r0_ends r0_letters) ∈ S)
    (k1 : G mX10_findParts (d + 1) S (f_PV Q) 7 [(0, .ref r0), (1, .int ((h.1 r0 3) - (1 : Int32)))] [] h) :
    OkV (d + 1) mX10_findParts S [.ref r0] h Q := by
  refine Ok.of (by decide) (Nat.le_of_ble_eq_true rfl) ?_
  refine G_aload_n 0 rfl dX10_findParts_0 rfl ?_
  refine G_geti (k := 3) hs1 (q := (RX10, TX10, 4)) rfl inX10 (by decide) (Or.inl rfl) hF_X10_21 dX10_findParts_1 ?_
  refine G_iconst (v := 1) dX10_findParts_4 (by decide) ?_
  refine G_isub dX10_findParts_5 ?_
  refine G_istore_n dX10_findParts_6 rfl (by decide) (lv' := [(1, .int ((h.1 r0 3) - (1 : Int32))), (0, .ref r0)]) rfl ?_
  exact G_sub [1, 0] rfl (k1)

set_option maxRecDepth 10000 in
theorem TX10_findParts_7 {d : Nat} {S : fW} {h : fH} {Q : fH → Prop} {r0 : Nat} {x1 : Int32} {r0_signs r0_ends r0_letters : Nat} {Q1 : Int32 → fH → Prop} {Q2 : Int32 → fH → Int32 → fH → Prop} {Q3 : Int32 → fH → Int32 → fH → Prop} {Q4 : Int32 → fH → Int32 → fH → Int32 → fH → Prop} {Q5 : Int32 → fH → Int32 → fH → Int32 → fH → Int32 → fH → Prop} {Q6 : Int32 → fH → Int32 → fH → Int32 → fH → Int32 → fH → Int32 → fH → Prop} 
    (k1 : x1 < 0 → Q h)
    (hs1 : (r0, shX10 r0_signs r0_ends r0_letters) ∈ S)
    (hs2 : (r0_signs, shI 13) ∈ S)
    (sd1 : ¬ x1 < 0 → vp_in x1 13)
    (ok1 : ¬ x1 < 0 → OkI d mX11_isOperator S [.int (h.2.2.1 r0_signs x1.toNatClampNeg)] h Q1)
    (hs3 : (r0_ends, shI 13) ∈ S)
    (ok2 : ¬ x1 < 0 → ∀ v_1 h_1, Q1 v_1 h_1 → v_1 = 0 → OkI d mX11_isLetter S [.int ((u_ai h_1 r0_ends (upd (h_1.2.2.1 r0_ends) x1.toNatClampNeg (x1 + (1 : Int32)))).2.2.1 r0_signs x1.toNatClampNeg)] (u_ai h_1 r0_ends (upd (h_1.2.2.1 r0_ends) x1.toNatClampNeg (x1 + (1 : Int32)))) (Q2 v_1 h_1))
    (hs4 : (r0_letters, shI 13) ∈ S)
    (k2 : ¬ x1 < 0 → ∀ v_1 h_1, Q1 v_1 h_1 → v_1 = 0 → ∀ v_2 h_2, (Q2 v_1 h_1) v_2 h_2 → v_2 = 0 → G mX10_findParts (d + 1) S (f_PV Q) 7 [(0, .ref r0), (1, .int (x1 + (-1)))] [] (u_ai h_2 r0_letters (upd (h_2.2.2.1 r0_letters) x1.toNatClampNeg (32 : Int32))))
    (k3 : ¬ x1 < 0 → ∀ v_1 h_1, Q1 v_1 h_1 → v_1 = 0 → ∀ v_2 h_2, (Q2 v_1 h_1) v_2 h_2 → ¬ v_2 = 0 → G mX10_findParts (d + 1) S (f_PV Q) 7 [(0, .ref r0), (1, .int (x1 + (-1)))] [] (u_ai h_2 r0_letters (upd (h_2.2.2.1 r0_letters) x1.toNatClampNeg ((32 : Int32) ||| ((1 : Int32) <<< (((h_2.2.2.1 r0_signs x1.toNatClampNeg) - (97 : Int32)) &&& 31))))))
    (ok3 : ¬ x1 < 0 → ∀ v_1 h_1, Q1 v_1 h_1 → ¬ v_1 = 0 → OkI d mX10_endOf S [.ref r0, .int (x1 + (1 : Int32))] h_1 (Q3 v_1 h_1))
    (ok4 : ¬ x1 < 0 → ∀ v_1 h_1, Q1 v_1 h_1 → ¬ v_1 = 0 → ∀ v_3 h_3, (Q3 v_1 h_1) v_3 h_3 → OkI d mX10_endOf S [.ref r0, .int v_3] h_3 (Q4 v_1 h_1 v_3 h_3))
    (ok5 : ¬ x1 < 0 → ∀ v_1 h_1, Q1 v_1 h_1 → ¬ v_1 = 0 → ∀ v_3 h_3, (Q3 v_1 h_1) v_3 h_3 → ∀ v_4 h_4, (Q4 v_1 h_1 v_3 h_3) v_4 h_4 → OkI d mX10_lettersOf S [.ref r0, .int (x1 + (1 : Int32))] (u_ai h_4 r0_ends (upd (h_4.2.2.1 r0_ends) x1.toNatClampNeg v_4)) (Q5 v_1 h_1 v_3 h_3 v_4 h_4))
    (ok6 : ¬ x1 < 0 → ∀ v_1 h_1, Q1 v_1 h_1 → ¬ v_1 = 0 → ∀ v_3 h_3, (Q3 v_1 h_1) v_3 h_3 → ∀ v_4 h_4, (Q4 v_1 h_1 v_3 h_3) v_4 h_4 → ∀ v_5 h_5, (Q5 v_1 h_1 v_3 h_3 v_4 h_4) v_5 h_5 → OkI d mX10_lettersOf S [.ref r0, .int v_3] h_5 (Q6 v_1 h_1 v_3 h_3 v_4 h_4 v_5 h_5))
    (k4 : ¬ x1 < 0 → ∀ v_1 h_1, Q1 v_1 h_1 → ¬ v_1 = 0 → ∀ v_3 h_3, (Q3 v_1 h_1) v_3 h_3 → ∀ v_4 h_4, (Q4 v_1 h_1 v_3 h_3) v_4 h_4 → ∀ v_5 h_5, (Q5 v_1 h_1 v_3 h_3 v_4 h_4) v_5 h_5 → ∀ v_6 h_6, (Q6 v_1 h_1 v_3 h_3 v_4 h_4 v_5 h_5) v_6 h_6 → G mX10_findParts (d + 1) S (f_PV Q) 7 [(0, .ref r0), (1, .int (x1 + (-1)))] [] (u_ai h_6 r0_letters (upd (h_6.2.2.1 r0_letters) x1.toNatClampNeg (v_5 ||| v_6)))) :
    G mX10_findParts (d + 1) S (f_PV Q) 7 [(0, .ref r0), (1, .int x1)] [] h := by
  refine G_iload_n 1 rfl dX10_findParts_7 rfl ?_
  refine G_if_lt (tgt := 116) dX10_findParts_8 (by decide) (fun c1 => ?_) (fun c1 => ?_)
  · exact G_vret rfl dX10_findParts_116 ⟨rfl, (k1 c1)⟩
  · refine G_aload_n 0 rfl dX10_findParts_11 rfl ?_
    refine G_getr (j := r0_signs) (k := 0) hs1 (q := (RX10, TX10, 4)) rfl inX10 (by decide) rfl hF_X10_9 dX10_findParts_12 ?_
    refine G_iload_n 1 rfl dX10_findParts_15 rfl ?_
    refine G_iald hs2 (sd1 c1) dX10_findParts_16 ?_
    refine G_callN (Z := mX11_isOperator) (As := [.int (h.2.2.1 r0_signs x1.toNatClampNeg)]) (st := []) hM_X10_49 hT_X11_isOperator hC_X11_isOperator hN_X11 nX11_isOperator (by decide) rfl (Nat.le_of_ble_eq_true rfl) dX10_findParts_17 (ok1 c1) (fun r_ h_1 z_ => ?_)
    obtain ⟨v_1, rfl, q_1⟩ := z_
    refine G_if_eq (tgt := 64) dX10_findParts_20 (by decide) (fun c3 => ?_) (fun c3 => ?_)
    · refine G_aload_n 0 rfl dX10_findParts_64 rfl ?_
      refine G_getr (j := r0_ends) (k := 1) hs1 (q := (RX10, TX10, 4)) rfl inX10 (by decide) rfl hF_X10_15 dX10_findParts_65 ?_
      refine G_iload_n 1 rfl dX10_findParts_68 rfl ?_
      refine G_iload_n 1 rfl dX10_findParts_69 rfl ?_
      refine G_iconst (v := 1) dX10_findParts_70 (by decide) ?_
      refine G_iadd dX10_findParts_71 ?_
      refine G_iast hs3 (sd1 c1) dX10_findParts_72 ?_
      refine G_aload_n 0 rfl dX10_findParts_73 rfl ?_
      refine G_getr (j := r0_letters) (k := 2) hs1 (q := (RX10, TX10, 4)) rfl inX10 (by decide) rfl hF_X10_18 dX10_findParts_74 ?_
      refine G_iload_n 1 rfl dX10_findParts_77 rfl ?_
      refine G_aload_n 0 rfl dX10_findParts_78 rfl ?_
      refine G_getr (j := r0_signs) (k := 0) hs1 (q := (RX10, TX10, 4)) rfl inX10 (by decide) rfl hF_X10_9 dX10_findParts_79 ?_
      refine G_iload_n 1 rfl dX10_findParts_82 rfl ?_
      refine G_iald hs2 (sd1 c1) dX10_findParts_83 ?_
      refine G_callN (Z := mX11_isLetter) (As := [.int ((u_ai h_1 r0_ends (upd (h_1.2.2.1 r0_ends) x1.toNatClampNeg (x1 + (1 : Int32)))).2.2.1 r0_signs x1.toNatClampNeg)]) (st := [.int x1, .ref r0_letters]) hM_X10_56 hT_X11_isLetter hC_X11_isLetter hN_X11 nX11_isLetter (by decide) rfl (Nat.le_of_ble_eq_true rfl) dX10_findParts_84 (ok2 c1 v_1 h_1 q_1 c3) (fun r_ h_2 z_ => ?_)
      obtain ⟨v_2, rfl, q_2⟩ := z_
      refine G_if_eq (tgt := 107) dX10_findParts_87 (by decide) (fun c5 => ?_) (fun c5 => ?_)
      · refine G_bipush (v := 32) dX10_findParts_107 (by decide) ?_
        refine G_iast hs4 (sd1 c1) dX10_findParts_109 ?_
        refine G_iinc (v := -1) 1 rfl dX10_findParts_110 (by decide) (by decide) (lv' := [(1, .int (x1 + (-1))), (0, .ref r0)]) rfl ?_
        refine G_goto (tgt := 7) dX10_findParts_113 (by decide) ?_
        exact G_sub [1, 0] rfl (k2 c1 v_1 h_1 q_1 c3 v_2 h_2 q_2 c5)
      · refine G_bipush (v := 32) dX10_findParts_90 (by decide) ?_
        refine G_iconst (v := 1) dX10_findParts_92 (by decide) ?_
        refine G_aload_n 0 rfl dX10_findParts_93 rfl ?_
        refine G_getr (j := r0_signs) (k := 0) hs1 (q := (RX10, TX10, 4)) rfl inX10 (by decide) rfl hF_X10_9 dX10_findParts_94 ?_
        refine G_iload_n 1 rfl dX10_findParts_97 rfl ?_
        refine G_iald hs2 (sd1 c1) dX10_findParts_98 ?_
        refine G_bipush (v := 97) dX10_findParts_99 (by decide) ?_
        refine G_isub dX10_findParts_101 ?_
        refine G_ishl dX10_findParts_102 ?_
        refine G_ior dX10_findParts_103 ?_
        refine G_goto (tgt := 109) dX10_findParts_104 (by decide) ?_
        refine G_iast hs4 (sd1 c1) dX10_findParts_109 ?_
        refine G_iinc (v := -1) 1 rfl dX10_findParts_110 (by decide) (by decide) (lv' := [(1, .int (x1 + (-1))), (0, .ref r0)]) rfl ?_
        refine G_goto (tgt := 7) dX10_findParts_113 (by decide) ?_
        exact G_sub [1, 0] rfl (k3 c1 v_1 h_1 q_1 c3 v_2 h_2 q_2 c5)
    · refine G_aload_n 0 rfl dX10_findParts_23 rfl ?_
      refine G_iload_n 1 rfl dX10_findParts_24 rfl ?_
      refine G_iconst (v := 1) dX10_findParts_25 (by decide) ?_
      refine G_iadd dX10_findParts_26 ?_
      refine G_callV (Z := mX10_endOf) (As := [.int (x1 + (1 : Int32))]) (st := []) hL_X10_42 hI_X10_endOf hS_X10_endOf hC_X10_endOf hN_X10 nX10_endOf (by decide) hs1 rfl rfl rfl (Nat.le_of_ble_eq_true rfl) dX10_findParts_27 (ok3 c1 v_1 h_1 q_1 c3) (fun r_ h_3 z_ => ?_)
      obtain ⟨v_3, rfl, q_3⟩ := z_
      refine G_istore_n dX10_findParts_30 rfl (by decide) (lv' := [(2, .int v_3), (0, .ref r0), (1, .int x1)]) rfl ?_
      refine G_aload_n 1 rfl dX10_findParts_31 rfl ?_
      refine G_getr (j := r0_ends) (k := 1) hs1 (q := (RX10, TX10, 4)) rfl inX10 (by decide) rfl hF_X10_15 dX10_findParts_32 ?_
      refine G_iload_n 2 rfl dX10_findParts_35 rfl ?_
      refine G_aload_n 1 rfl dX10_findParts_36 rfl ?_
      refine G_iload_n 0 rfl dX10_findParts_37 rfl ?_
      refine G_callV (Z := mX10_endOf) (As := [.int v_3]) (st := [.int x1, .ref r0_ends]) hL_X10_42 hI_X10_endOf hS_X10_endOf hC_X10_endOf hN_X10 nX10_endOf (by decide) hs1 rfl rfl rfl (Nat.le_of_ble_eq_true rfl) dX10_findParts_38 (ok4 c1 v_1 h_1 q_1 c3 v_3 h_3 q_3) (fun r_ h_4 z_ => ?_)
      obtain ⟨v_4, rfl, q_4⟩ := z_
      refine G_iast hs3 (sd1 c1) dX10_findParts_41 ?_
      refine G_aload_n 1 rfl dX10_findParts_42 rfl ?_
      refine G_getr (j := r0_letters) (k := 2) hs1 (q := (RX10, TX10, 4)) rfl inX10 (by decide) rfl hF_X10_18 dX10_findParts_43 ?_
      refine G_iload_n 2 rfl dX10_findParts_46 rfl ?_
      refine G_aload_n 1 rfl dX10_findParts_47 rfl ?_
      refine G_iload_n 2 rfl dX10_findParts_48 rfl ?_
      refine G_iconst (v := 1) dX10_findParts_49 (by decide) ?_
      refine G_iadd dX10_findParts_50 ?_
      refine G_callV (Z := mX10_lettersOf) (As := [.int (x1 + (1 : Int32))]) (st := [.int x1, .ref r0_letters]) hL_X10_53 hI_X10_lettersOf hS_X10_lettersOf hC_X10_lettersOf hN_X10 nX10_lettersOf (by decide) hs1 rfl rfl rfl (Nat.le_of_ble_eq_true rfl) dX10_findParts_51 (ok5 c1 v_1 h_1 q_1 c3 v_3 h_3 q_3 v_4 h_4 q_4) (fun r_ h_5 z_ => ?_)
      obtain ⟨v_5, rfl, q_5⟩ := z_
      refine G_aload_n 1 rfl dX10_findParts_54 rfl ?_
      refine G_iload_n 0 rfl dX10_findParts_55 rfl ?_
      refine G_callV (Z := mX10_lettersOf) (As := [.int v_3]) (st := [.int v_5, .int x1, .ref r0_letters]) hL_X10_53 hI_X10_lettersOf hS_X10_lettersOf hC_X10_lettersOf hN_X10 nX10_lettersOf (by decide) hs1 rfl rfl rfl (Nat.le_of_ble_eq_true rfl) dX10_findParts_56 (ok6 c1 v_1 h_1 q_1 c3 v_3 h_3 q_3 v_4 h_4 q_4 v_5 h_5 q_5) (fun r_ h_6 z_ => ?_)
      obtain ⟨v_6, rfl, q_6⟩ := z_
      refine G_ior dX10_findParts_59 ?_
      refine G_iast hs4 (sd1 c1) dX10_findParts_60 ?_
      refine G_goto (tgt := 110) dX10_findParts_61 (by decide) ?_
      refine G_iinc (v := -1) 2 rfl dX10_findParts_110 (by decide) (by decide) (lv' := [(1, .int (x1 + (-1))), (2, .int v_3), (0, .ref r0)]) rfl ?_
      refine G_goto (tgt := 7) dX10_findParts_113 (by decide) ?_
      exact G_sub [2, 0] rfl (k4 c1 v_1 h_1 q_1 c3 v_3 h_3 q_3 v_4 h_4 q_4 v_5 h_5 q_5 v_6 h_6 q_6)

-- LostDigits$Text.has
theorem dX10_has_0 : decode cX10_has 0 = .ok (.iload_n 1, 1) := by decide +kernel
theorem dX10_has_1 : decode cX10_has 1 = .ok (.ifCond .lt 15, 3) := by decide +kernel
theorem dX10_has_4 : decode cX10_has 4 = .ok (.iload_n 1, 1) := by decide +kernel
theorem dX10_has_5 : decode cX10_has 5 = .ok (.aload_n 0, 1) := by decide +kernel
theorem dX10_has_6 : decode cX10_has 6 = .ok (.getfield 21, 3) := by decide +kernel
theorem dX10_has_9 : decode cX10_has 9 = .ok (.if_icmp .ge 7, 3) := by decide +kernel
theorem dX10_has_12 : decode cX10_has 12 = .ok (.iconst 1, 1) := by decide +kernel
theorem dX10_has_13 : decode cX10_has 13 = .ok (.goto 4, 3) := by decide +kernel
theorem dX10_has_16 : decode cX10_has 16 = .ok (.iconst 0, 1) := by decide +kernel
theorem dX10_has_17 : decode cX10_has 17 = .ok (.ireturn, 1) := by decide +kernel

set_option maxRecDepth 10000 in
theorem TX10_has_0 {d : Nat} {S : fW} {h : fH} {Q : Int32 → fH → Prop} {r0 : Nat} {x1 : Int32} {r0_signs r0_ends r0_letters : Nat}  
    (k1 : x1 < 0 → Q (0 : Int32) h)
    (hs1 : (r0, shX10 r0_signs r0_ends r0_letters) ∈ S)
    (k2 : ¬ x1 < 0 → (h.1 r0 3) ≤ x1 → Q (0 : Int32) h)
    (k3 : ¬ x1 < 0 → ¬ (h.1 r0 3) ≤ x1 → Q (1 : Int32) h) :
    OkI d mX10_has S [.ref r0, .int x1] h Q := by
  refine Ok.of (by decide) (Nat.le_of_ble_eq_true rfl) ?_
  refine G_iload_n 1 rfl dX10_has_0 rfl ?_
  refine G_if_lt (tgt := 16) dX10_has_1 (by decide) (fun c1 => ?_) (fun c1 => ?_)
  · refine G_iconst (v := 0) dX10_has_16 (by decide) ?_
    exact G_zret rfl (Or.inl rfl) dX10_has_17 ⟨_, rfl, (k1 c1)⟩
  · refine G_iload_n 1 rfl dX10_has_4 rfl ?_
    refine G_aload_n 0 rfl dX10_has_5 rfl ?_
    refine G_geti (k := 3) hs1 (q := (RX10, TX10, 4)) rfl inX10 (by decide) (Or.inl rfl) hF_X10_21 dX10_has_6 ?_
    refine G_icmp_ge (tgt := 16) dX10_has_9 (by decide) (fun c2 => ?_) (fun c2 => ?_)
    · refine G_iconst (v := 0) dX10_has_16 (by decide) ?_
      exact G_zret rfl (Or.inl rfl) dX10_has_17 ⟨_, rfl, (k2 c1 c2)⟩
    · refine G_iconst (v := 1) dX10_has_12 (by decide) ?_
      refine G_goto (tgt := 17) dX10_has_13 (by decide) ?_
      exact G_zret rfl (Or.inr rfl) dX10_has_17 ⟨_, rfl, (k3 c1 c2)⟩

-- LostDigits$Text.signAt
theorem dX10_signAt_0 : decode cX10_signAt 0 = .ok (.iload_n 1, 1) := by decide +kernel
theorem dX10_signAt_1 : decode cX10_signAt 1 = .ok (.ifCond .lt 20, 3) := by decide +kernel
theorem dX10_signAt_4 : decode cX10_signAt 4 = .ok (.iload_n 1, 1) := by decide +kernel
theorem dX10_signAt_5 : decode cX10_signAt 5 = .ok (.aload_n 0, 1) := by decide +kernel
theorem dX10_signAt_6 : decode cX10_signAt 6 = .ok (.getfield 21, 3) := by decide +kernel
theorem dX10_signAt_9 : decode cX10_signAt 9 = .ok (.if_icmp .ge 12, 3) := by decide +kernel
theorem dX10_signAt_12 : decode cX10_signAt 12 = .ok (.aload_n 0, 1) := by decide +kernel
theorem dX10_signAt_13 : decode cX10_signAt 13 = .ok (.getfield 9, 3) := by decide +kernel
theorem dX10_signAt_16 : decode cX10_signAt 16 = .ok (.iload_n 1, 1) := by decide +kernel
theorem dX10_signAt_17 : decode cX10_signAt 17 = .ok (.iaload, 1) := by decide +kernel
theorem dX10_signAt_18 : decode cX10_signAt 18 = .ok (.goto 4, 3) := by decide +kernel
theorem dX10_signAt_21 : decode cX10_signAt 21 = .ok (.iconst 0, 1) := by decide +kernel
theorem dX10_signAt_22 : decode cX10_signAt 22 = .ok (.ireturn, 1) := by decide +kernel

set_option maxRecDepth 10000 in
theorem TX10_signAt_0 {d : Nat} {S : fW} {h : fH} {Q : Int32 → fH → Prop} {r0 : Nat} {x1 : Int32} {r0_signs r0_ends r0_letters : Nat}  
    (k1 : x1 < 0 → Q (0 : Int32) h)
    (hs1 : (r0, shX10 r0_signs r0_ends r0_letters) ∈ S)
    (k2 : ¬ x1 < 0 → (h.1 r0 3) ≤ x1 → Q (0 : Int32) h)
    (hs2 : (r0_signs, shI 13) ∈ S)
    (sd1 : ¬ x1 < 0 → ¬ (h.1 r0 3) ≤ x1 → vp_in x1 13)
    (k3 : ¬ x1 < 0 → ¬ (h.1 r0 3) ≤ x1 → Q (h.2.2.1 r0_signs x1.toNatClampNeg) h) :
    OkI d mX10_signAt S [.ref r0, .int x1] h Q := by
  refine Ok.of (by decide) (Nat.le_of_ble_eq_true rfl) ?_
  refine G_iload_n 1 rfl dX10_signAt_0 rfl ?_
  refine G_if_lt (tgt := 21) dX10_signAt_1 (by decide) (fun c1 => ?_) (fun c1 => ?_)
  · refine G_iconst (v := 0) dX10_signAt_21 (by decide) ?_
    exact G_iret rfl dX10_signAt_22 ⟨_, rfl, (k1 c1)⟩
  · refine G_iload_n 1 rfl dX10_signAt_4 rfl ?_
    refine G_aload_n 0 rfl dX10_signAt_5 rfl ?_
    refine G_geti (k := 3) hs1 (q := (RX10, TX10, 4)) rfl inX10 (by decide) (Or.inl rfl) hF_X10_21 dX10_signAt_6 ?_
    refine G_icmp_ge (tgt := 21) dX10_signAt_9 (by decide) (fun c2 => ?_) (fun c2 => ?_)
    · refine G_iconst (v := 0) dX10_signAt_21 (by decide) ?_
      exact G_iret rfl dX10_signAt_22 ⟨_, rfl, (k2 c1 c2)⟩
    · refine G_aload_n 0 rfl dX10_signAt_12 rfl ?_
      refine G_getr (j := r0_signs) (k := 0) hs1 (q := (RX10, TX10, 4)) rfl inX10 (by decide) rfl hF_X10_9 dX10_signAt_13 ?_
      refine G_iload_n 1 rfl dX10_signAt_16 rfl ?_
      refine G_iald hs2 (sd1 c1 c2) dX10_signAt_17 ?_
      refine G_goto (tgt := 22) dX10_signAt_18 (by decide) ?_
      exact G_iret rfl dX10_signAt_22 ⟨_, rfl, (k3 c1 c2)⟩

-- LostDigits$Text.endOf
theorem dX10_endOf_0 : decode cX10_endOf 0 = .ok (.iload_n 1, 1) := by decide +kernel
theorem dX10_endOf_1 : decode cX10_endOf 1 = .ok (.ifCond .lt 20, 3) := by decide +kernel
theorem dX10_endOf_4 : decode cX10_endOf 4 = .ok (.iload_n 1, 1) := by decide +kernel
theorem dX10_endOf_5 : decode cX10_endOf 5 = .ok (.aload_n 0, 1) := by decide +kernel
theorem dX10_endOf_6 : decode cX10_endOf 6 = .ok (.getfield 21, 3) := by decide +kernel
theorem dX10_endOf_9 : decode cX10_endOf 9 = .ok (.if_icmp .ge 12, 3) := by decide +kernel
theorem dX10_endOf_12 : decode cX10_endOf 12 = .ok (.aload_n 0, 1) := by decide +kernel
theorem dX10_endOf_13 : decode cX10_endOf 13 = .ok (.getfield 15, 3) := by decide +kernel
theorem dX10_endOf_16 : decode cX10_endOf 16 = .ok (.iload_n 1, 1) := by decide +kernel
theorem dX10_endOf_17 : decode cX10_endOf 17 = .ok (.iaload, 1) := by decide +kernel
theorem dX10_endOf_18 : decode cX10_endOf 18 = .ok (.goto 7, 3) := by decide +kernel
theorem dX10_endOf_21 : decode cX10_endOf 21 = .ok (.aload_n 0, 1) := by decide +kernel
theorem dX10_endOf_22 : decode cX10_endOf 22 = .ok (.getfield 21, 3) := by decide +kernel
theorem dX10_endOf_25 : decode cX10_endOf 25 = .ok (.ireturn, 1) := by decide +kernel

set_option maxRecDepth 10000 in
theorem TX10_endOf_0 {d : Nat} {S : fW} {h : fH} {Q : Int32 → fH → Prop} {r0 : Nat} {x1 : Int32} {r0_signs r0_ends r0_letters : Nat}  
    (hs1 : (r0, shX10 r0_signs r0_ends r0_letters) ∈ S)
    (k1 : x1 < 0 → Q (h.1 r0 3) h)
    (k2 : ¬ x1 < 0 → (h.1 r0 3) ≤ x1 → Q (h.1 r0 3) h)
    (hs2 : (r0_ends, shI 13) ∈ S)
    (sd1 : ¬ x1 < 0 → ¬ (h.1 r0 3) ≤ x1 → vp_in x1 13)
    (k3 : ¬ x1 < 0 → ¬ (h.1 r0 3) ≤ x1 → Q (h.2.2.1 r0_ends x1.toNatClampNeg) h) :
    OkI d mX10_endOf S [.ref r0, .int x1] h Q := by
  refine Ok.of (by decide) (Nat.le_of_ble_eq_true rfl) ?_
  refine G_iload_n 1 rfl dX10_endOf_0 rfl ?_
  refine G_if_lt (tgt := 21) dX10_endOf_1 (by decide) (fun c1 => ?_) (fun c1 => ?_)
  · refine G_aload_n 0 rfl dX10_endOf_21 rfl ?_
    refine G_geti (k := 3) hs1 (q := (RX10, TX10, 4)) rfl inX10 (by decide) (Or.inl rfl) hF_X10_21 dX10_endOf_22 ?_
    exact G_iret rfl dX10_endOf_25 ⟨_, rfl, (k1 c1)⟩
  · refine G_iload_n 1 rfl dX10_endOf_4 rfl ?_
    refine G_aload_n 0 rfl dX10_endOf_5 rfl ?_
    refine G_geti (k := 3) hs1 (q := (RX10, TX10, 4)) rfl inX10 (by decide) (Or.inl rfl) hF_X10_21 dX10_endOf_6 ?_
    refine G_icmp_ge (tgt := 21) dX10_endOf_9 (by decide) (fun c2 => ?_) (fun c2 => ?_)
    · refine G_aload_n 0 rfl dX10_endOf_21 rfl ?_
      refine G_geti (k := 3) hs1 (q := (RX10, TX10, 4)) rfl inX10 (by decide) (Or.inl rfl) hF_X10_21 dX10_endOf_22 ?_
      exact G_iret rfl dX10_endOf_25 ⟨_, rfl, (k2 c1 c2)⟩
    · refine G_aload_n 0 rfl dX10_endOf_12 rfl ?_
      refine G_getr (j := r0_ends) (k := 1) hs1 (q := (RX10, TX10, 4)) rfl inX10 (by decide) rfl hF_X10_15 dX10_endOf_13 ?_
      refine G_iload_n 1 rfl dX10_endOf_16 rfl ?_
      refine G_iald hs2 (sd1 c1 c2) dX10_endOf_17 ?_
      refine G_goto (tgt := 25) dX10_endOf_18 (by decide) ?_
      exact G_iret rfl dX10_endOf_25 ⟨_, rfl, (k3 c1 c2)⟩

-- LostDigits$Text.lettersOf
theorem dX10_lettersOf_0 : decode cX10_lettersOf 0 = .ok (.iload_n 1, 1) := by decide +kernel
theorem dX10_lettersOf_1 : decode cX10_lettersOf 1 = .ok (.ifCond .lt 20, 3) := by decide +kernel
theorem dX10_lettersOf_4 : decode cX10_lettersOf 4 = .ok (.iload_n 1, 1) := by decide +kernel
theorem dX10_lettersOf_5 : decode cX10_lettersOf 5 = .ok (.aload_n 0, 1) := by decide +kernel
theorem dX10_lettersOf_6 : decode cX10_lettersOf 6 = .ok (.getfield 21, 3) := by decide +kernel
theorem dX10_lettersOf_9 : decode cX10_lettersOf 9 = .ok (.if_icmp .ge 12, 3) := by decide +kernel
theorem dX10_lettersOf_12 : decode cX10_lettersOf 12 = .ok (.aload_n 0, 1) := by decide +kernel
theorem dX10_lettersOf_13 : decode cX10_lettersOf 13 = .ok (.getfield 18, 3) := by decide +kernel
theorem dX10_lettersOf_16 : decode cX10_lettersOf 16 = .ok (.iload_n 1, 1) := by decide +kernel
theorem dX10_lettersOf_17 : decode cX10_lettersOf 17 = .ok (.iaload, 1) := by decide +kernel
theorem dX10_lettersOf_18 : decode cX10_lettersOf 18 = .ok (.goto 5, 3) := by decide +kernel
theorem dX10_lettersOf_21 : decode cX10_lettersOf 21 = .ok (.bipush 32, 2) := by decide +kernel
theorem dX10_lettersOf_23 : decode cX10_lettersOf 23 = .ok (.ireturn, 1) := by decide +kernel

set_option maxRecDepth 10000 in
theorem TX10_lettersOf_0 {d : Nat} {S : fW} {h : fH} {Q : Int32 → fH → Prop} {r0 : Nat} {x1 : Int32} {r0_signs r0_ends r0_letters : Nat}  
    (k1 : x1 < 0 → Q (32 : Int32) h)
    (hs1 : (r0, shX10 r0_signs r0_ends r0_letters) ∈ S)
    (k2 : ¬ x1 < 0 → (h.1 r0 3) ≤ x1 → Q (32 : Int32) h)
    (hs2 : (r0_letters, shI 13) ∈ S)
    (sd1 : ¬ x1 < 0 → ¬ (h.1 r0 3) ≤ x1 → vp_in x1 13)
    (k3 : ¬ x1 < 0 → ¬ (h.1 r0 3) ≤ x1 → Q (h.2.2.1 r0_letters x1.toNatClampNeg) h) :
    OkI d mX10_lettersOf S [.ref r0, .int x1] h Q := by
  refine Ok.of (by decide) (Nat.le_of_ble_eq_true rfl) ?_
  refine G_iload_n 1 rfl dX10_lettersOf_0 rfl ?_
  refine G_if_lt (tgt := 21) dX10_lettersOf_1 (by decide) (fun c1 => ?_) (fun c1 => ?_)
  · refine G_bipush (v := 32) dX10_lettersOf_21 (by decide) ?_
    exact G_iret rfl dX10_lettersOf_23 ⟨_, rfl, (k1 c1)⟩
  · refine G_iload_n 1 rfl dX10_lettersOf_4 rfl ?_
    refine G_aload_n 0 rfl dX10_lettersOf_5 rfl ?_
    refine G_geti (k := 3) hs1 (q := (RX10, TX10, 4)) rfl inX10 (by decide) (Or.inl rfl) hF_X10_21 dX10_lettersOf_6 ?_
    refine G_icmp_ge (tgt := 21) dX10_lettersOf_9 (by decide) (fun c2 => ?_) (fun c2 => ?_)
    · refine G_bipush (v := 32) dX10_lettersOf_21 (by decide) ?_
      exact G_iret rfl dX10_lettersOf_23 ⟨_, rfl, (k2 c1 c2)⟩
    · refine G_aload_n 0 rfl dX10_lettersOf_12 rfl ?_
      refine G_getr (j := r0_letters) (k := 2) hs1 (q := (RX10, TX10, 4)) rfl inX10 (by decide) rfl hF_X10_18 dX10_lettersOf_13 ?_
      refine G_iload_n 1 rfl dX10_lettersOf_16 rfl ?_
      refine G_iald hs2 (sd1 c1 c2) dX10_lettersOf_17 ?_
      refine G_goto (tgt := 23) dX10_lettersOf_18 (by decide) ?_
      exact G_iret rfl dX10_lettersOf_23 ⟨_, rfl, (k3 c1 c2)⟩

-- LostDigits$Text.secondOf
theorem dX10_secondOf_0 : decode cX10_secondOf 0 = .ok (.aload_n 0, 1) := by decide +kernel
theorem dX10_secondOf_1 : decode cX10_secondOf 1 = .ok (.iload_n 1, 1) := by decide +kernel
theorem dX10_secondOf_2 : decode cX10_secondOf 2 = .ok (.iconst 1, 1) := by decide +kernel
theorem dX10_secondOf_3 : decode cX10_secondOf 3 = .ok (.iadd, 1) := by decide +kernel
theorem dX10_secondOf_4 : decode cX10_secondOf 4 = .ok (.invokevirtual 42, 3) := by decide +kernel
theorem dX10_secondOf_7 : decode cX10_secondOf 7 = .ok (.ireturn, 1) := by decide +kernel

set_option maxRecDepth 10000 in
theorem TX10_secondOf_0 {d : Nat} {S : fW} {h : fH} {Q : Int32 → fH → Prop} {r0 : Nat} {x1 : Int32} {r0_signs r0_ends r0_letters : Nat} {Q1 : Int32 → fH → Prop} 
    (hs1 : (r0, shX10 r0_signs r0_ends r0_letters) ∈ S)
    (ok1 : OkI d mX10_endOf S [.ref r0, .int (x1 + (1 : Int32))] h Q1)
    (k1 : ∀ v_1 h_1, Q1 v_1 h_1 → Q v_1 h_1) :
    OkI (d + 1) mX10_secondOf S [.ref r0, .int x1] h Q := by
  refine Ok.of (by decide) (Nat.le_of_ble_eq_true rfl) ?_
  refine G_aload_n 0 rfl dX10_secondOf_0 rfl ?_
  refine G_iload_n 1 rfl dX10_secondOf_1 rfl ?_
  refine G_iconst (v := 1) dX10_secondOf_2 (by decide) ?_
  refine G_iadd dX10_secondOf_3 ?_
  refine G_callV (Z := mX10_endOf) (As := [.int (x1 + (1 : Int32))]) (st := []) hL_X10_42 hI_X10_endOf hS_X10_endOf hC_X10_endOf hN_X10 nX10_endOf (by decide) hs1 rfl rfl rfl (Nat.le_of_ble_eq_true rfl) dX10_secondOf_4 (ok1) (fun r_ h_1 z_ => ?_)
  obtain ⟨v_1, rfl, q_1⟩ := z_
  exact G_iret rfl dX10_secondOf_7 ⟨_, rfl, (k1 v_1 h_1 q_1)⟩

-- LostDigits$Text.areAlike
theorem dX10_areAlike_0 : decode cX10_areAlike 0 = .ok (.aload_n 0, 1) := by decide +kernel
theorem dX10_areAlike_1 : decode cX10_areAlike 1 = .ok (.iload_n 1, 1) := by decide +kernel
theorem dX10_areAlike_2 : decode cX10_areAlike 2 = .ok (.invokevirtual 42, 3) := by decide +kernel
theorem dX10_areAlike_5 : decode cX10_areAlike 5 = .ok (.iload_n 1, 1) := by decide +kernel
theorem dX10_areAlike_6 : decode cX10_areAlike 6 = .ok (.isub, 1) := by decide +kernel
theorem dX10_areAlike_7 : decode cX10_areAlike 7 = .ok (.istore_n 3, 1) := by decide +kernel
theorem dX10_areAlike_8 : decode cX10_areAlike 8 = .ok (.aload_n 0, 1) := by decide +kernel
theorem dX10_areAlike_9 : decode cX10_areAlike 9 = .ok (.iload_n 2, 1) := by decide +kernel
theorem dX10_areAlike_10 : decode cX10_areAlike 10 = .ok (.invokevirtual 42, 3) := by decide +kernel
theorem dX10_areAlike_13 : decode cX10_areAlike 13 = .ok (.iload_n 2, 1) := by decide +kernel
theorem dX10_areAlike_14 : decode cX10_areAlike 14 = .ok (.isub, 1) := by decide +kernel
theorem dX10_areAlike_15 : decode cX10_areAlike 15 = .ok (.iload_n 3, 1) := by decide +kernel
theorem dX10_areAlike_16 : decode cX10_areAlike 16 = .ok (.if_icmp .eq 5, 3) := by decide +kernel
theorem dX10_areAlike_19 : decode cX10_areAlike 19 = .ok (.iconst 0, 1) := by decide +kernel
theorem dX10_areAlike_20 : decode cX10_areAlike 20 = .ok (.ireturn, 1) := by decide +kernel
theorem dX10_areAlike_21 : decode cX10_areAlike 21 = .ok (.iconst 0, 1) := by decide +kernel
theorem dX10_areAlike_22 : decode cX10_areAlike 22 = .ok (.istore 4, 2) := by decide +kernel
theorem dX10_areAlike_24 : decode cX10_areAlike 24 = .ok (.iload 4, 2) := by decide +kernel
theorem dX10_areAlike_26 : decode cX10_areAlike 26 = .ok (.iload_n 3, 1) := by decide +kernel
theorem dX10_areAlike_27 : decode cX10_areAlike 27 = .ok (.if_icmp .ge 30, 3) := by decide +kernel
theorem dX10_areAlike_30 : decode cX10_areAlike 30 = .ok (.aload_n 0, 1) := by decide +kernel
theorem dX10_areAlike_31 : decode cX10_areAlike 31 = .ok (.iload_n 1, 1) := by decide +kernel
theorem dX10_areAlike_32 : decode cX10_areAlike 32 = .ok (.iload 4, 2) := by decide +kernel
theorem dX10_areAlike_34 : decode cX10_areAlike 34 = .ok (.iadd, 1) := by decide +kernel
theorem dX10_areAlike_35 : decode cX10_areAlike 35 = .ok (.invokevirtual 38, 3) := by decide +kernel
theorem dX10_areAlike_38 : decode cX10_areAlike 38 = .ok (.aload_n 0, 1) := by decide +kernel
theorem dX10_areAlike_39 : decode cX10_areAlike 39 = .ok (.iload_n 2, 1) := by decide +kernel
theorem dX10_areAlike_40 : decode cX10_areAlike 40 = .ok (.iload 4, 2) := by decide +kernel
theorem dX10_areAlike_42 : decode cX10_areAlike 42 = .ok (.iadd, 1) := by decide +kernel
theorem dX10_areAlike_43 : decode cX10_areAlike 43 = .ok (.invokevirtual 38, 3) := by decide +kernel
theorem dX10_areAlike_46 : decode cX10_areAlike 46 = .ok (.if_icmp .eq 5, 3) := by decide +kernel
theorem dX10_areAlike_49 : decode cX10_areAlike 49 = .ok (.iconst 0, 1) := by decide +kernel
theorem dX10_areAlike_50 : decode cX10_areAlike 50 = .ok (.ireturn, 1) := by decide +kernel
theorem dX10_areAlike_51 : decode cX10_areAlike 51 = .ok (.iinc 4 1, 3) := by decide +kernel
theorem dX10_areAlike_54 : decode cX10_areAlike 54 = .ok (.goto (-30), 3) := by decide +kernel
theorem dX10_areAlike_57 : decode cX10_areAlike 57 = .ok (.iconst 1, 1) := by decide +kernel
theorem dX10_areAlike_58 : decode cX10_areAlike 58 = .ok (.ireturn, 1) := by decide +kernel

set_option maxRecDepth 10000 in
theorem TX10_areAlike_0 {d : Nat} {S : fW} {h : fH} {Q : Int32 → fH → Prop} {r0 : Nat} {x1 : Int32} {x2 : Int32} {r0_signs r0_ends r0_letters : Nat} {Q1 : Int32 → fH → Prop} {Q2 : Int32 → fH → Int32 → fH → Prop} 
    (hs1 : (r0, shX10 r0_signs r0_ends r0_letters) ∈ S)
    (ok1 : OkI d mX10_endOf S [.ref r0, .int x1] h Q1)
    (ok2 : ∀ v_1 h_1, Q1 v_1 h_1 → OkI d mX10_endOf S [.ref r0, .int x2] h_1 (Q2 v_1 h_1))
    (k1 : ∀ v_1 h_1, Q1 v_1 h_1 → ∀ v_2 h_2, (Q2 v_1 h_1) v_2 h_2 → (v_2 - x2) = (v_1 - x1) → G mX10_areAlike (d + 1) S (f_PI Q) 24 [(0, .ref r0), (1, .int x1), (2, .int x2), (3, .int (v_1 - x1)), (4, .int (0 : Int32))] [] h_2)
    (k2 : ∀ v_1 h_1, Q1 v_1 h_1 → ∀ v_2 h_2, (Q2 v_1 h_1) v_2 h_2 → ¬ (v_2 - x2) = (v_1 - x1) → Q (0 : Int32) h_2) :
    OkI (d + 1) mX10_areAlike S [.ref r0, .int x1, .int x2] h Q := by
  refine Ok.of (by decide) (Nat.le_of_ble_eq_true rfl) ?_
  refine G_aload_n 0 rfl dX10_areAlike_0 rfl ?_
  refine G_iload_n 1 rfl dX10_areAlike_1 rfl ?_
  refine G_callV (Z := mX10_endOf) (As := [.int x1]) (st := []) hL_X10_42 hI_X10_endOf hS_X10_endOf hC_X10_endOf hN_X10 nX10_endOf (by decide) hs1 rfl rfl rfl (Nat.le_of_ble_eq_true rfl) dX10_areAlike_2 (ok1) (fun r_ h_1 z_ => ?_)
  obtain ⟨v_1, rfl, q_1⟩ := z_
  refine G_iload_n 1 rfl dX10_areAlike_5 rfl ?_
  refine G_isub dX10_areAlike_6 ?_
  refine G_istore_n dX10_areAlike_7 rfl (by decide) (lv' := [(3, .int (v_1 - x1)), (0, .ref r0), (1, .int x1), (2, .int x2)]) rfl ?_
  refine G_aload_n 1 rfl dX10_areAlike_8 rfl ?_
  refine G_iload_n 3 rfl dX10_areAlike_9 rfl ?_
  refine G_callV (Z := mX10_endOf) (As := [.int x2]) (st := []) hL_X10_42 hI_X10_endOf hS_X10_endOf hC_X10_endOf hN_X10 nX10_endOf (by decide) hs1 rfl rfl rfl (Nat.le_of_ble_eq_true rfl) dX10_areAlike_10 (ok2 v_1 h_1 q_1) (fun r_ h_2 z_ => ?_)
  obtain ⟨v_2, rfl, q_2⟩ := z_
  refine G_iload_n 3 rfl dX10_areAlike_13 rfl ?_
  refine G_isub dX10_areAlike_14 ?_
  refine G_iload_n 0 rfl dX10_areAlike_15 rfl ?_
  refine G_icmp_eq (tgt := 21) dX10_areAlike_16 (by decide) (fun c3 => ?_) (fun c3 => ?_)
  · refine G_iconst (v := 0) dX10_areAlike_21 (by decide) ?_
    refine G_istore dX10_areAlike_22 (by decide) (lv' := [(4, .int (0 : Int32)), (3, .int (v_1 - x1)), (0, .ref r0), (1, .int x1), (2, .int x2)]) rfl ?_
    exact G_sub [2, 3, 4, 1, 0] rfl (k1 v_1 h_1 q_1 v_2 h_2 q_2 c3)
  · refine G_iconst (v := 0) dX10_areAlike_19 (by decide) ?_
    exact G_zret rfl (Or.inl rfl) dX10_areAlike_20 ⟨_, rfl, (k2 v_1 h_1 q_1 v_2 h_2 q_2 c3)⟩

set_option maxRecDepth 10000 in
theorem TX10_areAlike_24 {d : Nat} {S : fW} {h : fH} {Q : Int32 → fH → Prop} {r0 : Nat} {x1 : Int32} {x2 : Int32} {x3 : Int32} {x4 : Int32} {r0_signs r0_ends r0_letters : Nat} {Q1 : Int32 → fH → Prop} {Q2 : Int32 → fH → Int32 → fH → Prop} 
    (k1 : x3 ≤ x4 → Q (1 : Int32) h)
    (hs1 : (r0, shX10 r0_signs r0_ends r0_letters) ∈ S)
    (ok1 : ¬ x3 ≤ x4 → OkI d mX10_signAt S [.ref r0, .int (x1 + x4)] h Q1)
    (ok2 : ¬ x3 ≤ x4 → ∀ v_1 h_1, Q1 v_1 h_1 → OkI d mX10_signAt S [.ref r0, .int (x2 + x4)] h_1 (Q2 v_1 h_1))
    (k2 : ¬ x3 ≤ x4 → ∀ v_1 h_1, Q1 v_1 h_1 → ∀ v_2 h_2, (Q2 v_1 h_1) v_2 h_2 → v_1 = v_2 → G mX10_areAlike (d + 1) S (f_PI Q) 24 [(0, .ref r0), (1, .int x1), (2, .int x2), (3, .int x3), (4, .int (x4 + 1))] [] h_2)
    (k3 : ¬ x3 ≤ x4 → ∀ v_1 h_1, Q1 v_1 h_1 → ∀ v_2 h_2, (Q2 v_1 h_1) v_2 h_2 → ¬ v_1 = v_2 → Q (0 : Int32) h_2) :
    G mX10_areAlike (d + 1) S (f_PI Q) 24 [(0, .ref r0), (1, .int x1), (2, .int x2), (3, .int x3), (4, .int x4)] [] h := by
  refine G_iload 4 rfl dX10_areAlike_24 ?_
  refine G_iload_n 3 rfl dX10_areAlike_26 rfl ?_
  refine G_icmp_ge (tgt := 57) dX10_areAlike_27 (by decide) (fun c1 => ?_) (fun c1 => ?_)
  · refine G_iconst (v := 1) dX10_areAlike_57 (by decide) ?_
    exact G_zret rfl (Or.inr rfl) dX10_areAlike_58 ⟨_, rfl, (k1 c1)⟩
  · refine G_aload_n 0 rfl dX10_areAlike_30 rfl ?_
    refine G_iload_n 1 rfl dX10_areAlike_31 rfl ?_
    refine G_iload 4 rfl dX10_areAlike_32 ?_
    refine G_iadd dX10_areAlike_34 ?_
    refine G_callV (Z := mX10_signAt) (As := [.int (x1 + x4)]) (st := []) hL_X10_38 hI_X10_signAt hS_X10_signAt hC_X10_signAt hN_X10 nX10_signAt (by decide) hs1 rfl rfl rfl (Nat.le_of_ble_eq_true rfl) dX10_areAlike_35 (ok1 c1) (fun r_ h_1 z_ => ?_)
    obtain ⟨v_1, rfl, q_1⟩ := z_
    refine G_aload_n 0 rfl dX10_areAlike_38 rfl ?_
    refine G_iload_n 2 rfl dX10_areAlike_39 rfl ?_
    refine G_iload 4 rfl dX10_areAlike_40 ?_
    refine G_iadd dX10_areAlike_42 ?_
    refine G_callV (Z := mX10_signAt) (As := [.int (x2 + x4)]) (st := [.int v_1]) hL_X10_38 hI_X10_signAt hS_X10_signAt hC_X10_signAt hN_X10 nX10_signAt (by decide) hs1 rfl rfl rfl (Nat.le_of_ble_eq_true rfl) dX10_areAlike_43 (ok2 c1 v_1 h_1 q_1) (fun r_ h_2 z_ => ?_)
    obtain ⟨v_2, rfl, q_2⟩ := z_
    refine G_icmp_eq (tgt := 51) dX10_areAlike_46 (by decide) (fun c4 => ?_) (fun c4 => ?_)
    · refine G_iinc (v := 1) 4 rfl dX10_areAlike_51 (by decide) (by decide) (lv' := [(4, .int (x4 + 1)), (0, .ref r0), (1, .int x1), (2, .int x2), (3, .int x3)]) rfl ?_
      refine G_goto (tgt := 24) dX10_areAlike_54 (by decide) ?_
      exact G_sub [1, 2, 3, 4, 0] rfl (k2 c1 v_1 h_1 q_1 v_2 h_2 q_2 c4)
    · refine G_iconst (v := 0) dX10_areAlike_49 (by decide) ?_
      exact G_zret rfl (Or.inl rfl) dX10_areAlike_50 ⟨_, rfl, (k3 c1 v_1 h_1 q_1 v_2 h_2 q_2 c4)⟩
end

-- ===== PART A: goes FIRST, ahead of the names: the tables' words, and 'selects' of the private methods out of them =====
/-- a private method of a class that the tables say can be made, by its rows of tables_1 -/
def lw_okq (q : MethodName × Nat) : Prop := (q.1.cls ≠ "java/lang/invoke/MethodHandle" ∧ q.1.cls ≠ "java/lang/invoke/VarHandle") ∧ Cond.instantiable q.1.cls q.2 ∈ tables_1 ∧ Cond.privateMethod q.1 ∈ tables_1 ∧ Cond.instanceMethod q.1 ∈ tables_1
theorem lw_p0 : lw_okq (⟨"LostDigits", "forgetFindings", "()V"⟩, 12) := ⟨⟨by decide +kernel, by decide +kernel⟩, List.mem_of_getElem? (i := 17) (by decide +kernel), List.mem_of_getElem? (i := 397) (by decide +kernel), List.mem_of_getElem? (i := 398) (by decide +kernel)⟩
theorem lw_p1 : lw_okq (⟨"LostDigits$Rounding", "goesOn", "(JJJZ)Z"⟩, 3) := ⟨⟨by decide +kernel, by decide +kernel⟩, List.mem_of_getElem? (i := 145) (by decide +kernel), List.mem_of_getElem? (i := 425) (by decide +kernel), List.mem_of_getElem? (i := 426) (by decide +kernel)⟩
theorem lw_p2 : lw_okq (⟨"LostDigits$Rounding", "placed", "(JIZ)J"⟩, 3) := ⟨⟨by decide +kernel, by decide +kernel⟩, List.mem_of_getElem? (i := 145) (by decide +kernel), List.mem_of_getElem? (i := 430) (by decide +kernel), List.mem_of_getElem? (i := 431) (by decide +kernel)⟩
theorem lw_p3 : lw_okq (⟨"LostDigits$Fractions", "join", "(III)V"⟩, 2) := ⟨⟨by decide +kernel, by decide +kernel⟩, List.mem_of_getElem? (i := 168) (by decide +kernel), List.mem_of_getElem? (i := 499) (by decide +kernel), List.mem_of_getElem? (i := 500) (by decide +kernel)⟩
theorem lw_p4 : lw_okq (⟨"LostDigits", "workNow", "()V"⟩, 12) := ⟨⟨by decide +kernel, by decide +kernel⟩, List.mem_of_getElem? (i := 17) (by decide +kernel), List.mem_of_getElem? (i := 514) (by decide +kernel), List.mem_of_getElem? (i := 515) (by decide +kernel)⟩
theorem lw_p5 : lw_okq (⟨"LostDigits$Sums", "less", "(JJ)J"⟩, 5) := ⟨⟨by decide +kernel, by decide +kernel⟩, List.mem_of_getElem? (i := 206) (by decide +kernel), List.mem_of_getElem? (i := 627) (by decide +kernel), List.mem_of_getElem? (i := 628) (by decide +kernel)⟩
theorem lw_p6 : lw_okq (⟨"LostDigits$Sums", "halfSum", "(III)J"⟩, 5) := ⟨⟨by decide +kernel, by decide +kernel⟩, List.mem_of_getElem? (i := 206) (by decide +kernel), List.mem_of_getElem? (i := 635) (by decide +kernel), List.mem_of_getElem? (i := 636) (by decide +kernel)⟩
theorem lw_p7 : lw_okq (⟨"LostDigits$Sums", "insertBySize", "(I)V"⟩, 5) := ⟨⟨by decide +kernel, by decide +kernel⟩, List.mem_of_getElem? (i := 206) (by decide +kernel), List.mem_of_getElem? (i := 643) (by decide +kernel), List.mem_of_getElem? (i := 644) (by decide +kernel)⟩
theorem lw_p8 : lw_okq (⟨"LostDigits$Orders", "extend", "(IIJ)V"⟩, 7) := ⟨⟨by decide +kernel, by decide +kernel⟩, List.mem_of_getElem? (i := 234) (by decide +kernel), List.mem_of_getElem? (i := 663) (by decide +kernel), List.mem_of_getElem? (i := 664) (by decide +kernel)⟩
theorem lw_p9 : lw_okq (⟨"LostDigits$Orders", "note", "(IJ)V"⟩, 7) := ⟨⟨by decide +kernel, by decide +kernel⟩, List.mem_of_getElem? (i := 234) (by decide +kernel), List.mem_of_getElem? (i := 667) (by decide +kernel), List.mem_of_getElem? (i := 668) (by decide +kernel)⟩
theorem lw_p10 : lw_okq (⟨"LostDigits$Spans", "join", "(III)V"⟩, 11) := ⟨⟨by decide +kernel, by decide +kernel⟩, List.mem_of_getElem? (i := 270) (by decide +kernel), List.mem_of_getElem? (i := 695) (by decide +kernel), List.mem_of_getElem? (i := 696) (by decide +kernel)⟩
theorem lw_p11 : lw_okq (⟨"LostDigits$Spans", "makeGreat", "(I)V"⟩, 11) := ⟨⟨by decide +kernel, by decide +kernel⟩, List.mem_of_getElem? (i := 270) (by decide +kernel), List.mem_of_getElem? (i := 700) (by decide +kernel), List.mem_of_getElem? (i := 701) (by decide +kernel)⟩
theorem lw_p12 : lw_okq (⟨"LostDigits$Spans", "widen", "(IIJJ)Z"⟩, 11) := ⟨⟨by decide +kernel, by decide +kernel⟩, List.mem_of_getElem? (i := 270) (by decide +kernel), List.mem_of_getElem? (i := 706) (by decide +kernel), List.mem_of_getElem? (i := 707) (by decide +kernel)⟩
theorem lw_p13 : lw_okq (⟨"LostDigits$Spans", "startTrials", "(LLostDigits$Page;)I"⟩, 11) := ⟨⟨by decide +kernel, by decide +kernel⟩, List.mem_of_getElem? (i := 270) (by decide +kernel), List.mem_of_getElem? (i := 729) (by decide +kernel), List.mem_of_getElem? (i := 730) (by decide +kernel)⟩
theorem lw_p14 : lw_okq (⟨"LostDigits$Spans", "nextTrial", "([I)I"⟩, 11) := ⟨⟨by decide +kernel, by decide +kernel⟩, List.mem_of_getElem? (i := 270) (by decide +kernel), List.mem_of_getElem? (i := 737) (by decide +kernel), List.mem_of_getElem? (i := 738) (by decide +kernel)⟩
theorem lw_p15 : lw_okq (⟨"LostDigits$Search", "consider", "(LLostDigits$Text;[I)V"⟩, 6) := ⟨⟨by decide +kernel, by decide +kernel⟩, List.mem_of_getElem? (i := 322) (by decide +kernel), List.mem_of_getElem? (i := 804) (by decide +kernel), List.mem_of_getElem? (i := 805) (by decide +kernel)⟩
def lw_privs_1 : List (MethodName × Nat) := [(⟨"LostDigits", "forgetFindings", "()V"⟩, 12), (⟨"LostDigits$Rounding", "goesOn", "(JJJZ)Z"⟩, 3), (⟨"LostDigits$Rounding", "placed", "(JIZ)J"⟩, 3), (⟨"LostDigits$Fractions", "join", "(III)V"⟩, 2), (⟨"LostDigits", "workNow", "()V"⟩, 12), (⟨"LostDigits$Sums", "less", "(JJ)J"⟩, 5), (⟨"LostDigits$Sums", "halfSum", "(III)J"⟩, 5), (⟨"LostDigits$Sums", "insertBySize", "(I)V"⟩, 5), (⟨"LostDigits$Orders", "extend", "(IIJ)V"⟩, 7), (⟨"LostDigits$Orders", "note", "(IJ)V"⟩, 7), (⟨"LostDigits$Spans", "join", "(III)V"⟩, 11), (⟨"LostDigits$Spans", "makeGreat", "(I)V"⟩, 11), (⟨"LostDigits$Spans", "widen", "(IIJJ)Z"⟩, 11), (⟨"LostDigits$Spans", "startTrials", "(LLostDigits$Page;)I"⟩, 11), (⟨"LostDigits$Spans", "nextTrial", "([I)I"⟩, 11), (⟨"LostDigits$Search", "consider", "(LLostDigits$Text;[I)V"⟩, 6)]
theorem lw_r1 : ∀ q ∈ lw_privs_1, lw_okq q := List.forall_mem_cons.mpr ⟨lw_p0, List.forall_mem_cons.mpr ⟨lw_p1, List.forall_mem_cons.mpr ⟨lw_p2, List.forall_mem_cons.mpr ⟨lw_p3, List.forall_mem_cons.mpr ⟨lw_p4, List.forall_mem_cons.mpr ⟨lw_p5, List.forall_mem_cons.mpr ⟨lw_p6, List.forall_mem_cons.mpr ⟨lw_p7, List.forall_mem_cons.mpr ⟨lw_p8, List.forall_mem_cons.mpr ⟨lw_p9, List.forall_mem_cons.mpr ⟨lw_p10, List.forall_mem_cons.mpr ⟨lw_p11, List.forall_mem_cons.mpr ⟨lw_p12, List.forall_mem_cons.mpr ⟨lw_p13, List.forall_mem_cons.mpr ⟨lw_p14, List.forall_mem_cons.mpr ⟨lw_p15, fun _ h => absurd h List.not_mem_nil⟩⟩⟩⟩⟩⟩⟩⟩⟩⟩⟩⟩⟩⟩⟩⟩
theorem lw_p16 : lw_okq (⟨"LostDigits$Search", "changeAgain", "([I)V"⟩, 6) := ⟨⟨by decide +kernel, by decide +kernel⟩, List.mem_of_getElem? (i := 322) (by decide +kernel), List.mem_of_getElem? (i := 812) (by decide +kernel), List.mem_of_getElem? (i := 813) (by decide +kernel)⟩
theorem lw_p17 : lw_okq (⟨"LostDigitsModel", "rounded", "(ZJJIIZ)J"⟩, 40) := ⟨⟨by decide +kernel, by decide +kernel⟩, List.mem_of_getElem? (i := 838) (by decide +kernel), List.mem_of_getElem? (i := 990) (by decide +kernel), List.mem_of_getElem? (i := 991) (by decide +kernel)⟩
theorem lw_p18 : lw_okq (⟨"LostDigitsModel", "isStep", "(I)Z"⟩, 40) := ⟨⟨by decide +kernel, by decide +kernel⟩, List.mem_of_getElem? (i := 838) (by decide +kernel), List.mem_of_getElem? (i := 1037) (by decide +kernel), List.mem_of_getElem? (i := 1038) (by decide +kernel)⟩
theorem lw_p19 : lw_okq (⟨"LostDigitsModel", "layText", "()V"⟩, 40) := ⟨⟨by decide +kernel, by decide +kernel⟩, List.mem_of_getElem? (i := 838) (by decide +kernel), List.mem_of_getElem? (i := 1053) (by decide +kernel), List.mem_of_getElem? (i := 1054) (by decide +kernel)⟩
theorem lw_p20 : lw_okq (⟨"LostDigitsModel", "workExact", "()V"⟩, 40) := ⟨⟨by decide +kernel, by decide +kernel⟩, List.mem_of_getElem? (i := 838) (by decide +kernel), List.mem_of_getElem? (i := 1057) (by decide +kernel), List.mem_of_getElem? (i := 1058) (by decide +kernel)⟩
theorem lw_p21 : lw_okq (⟨"LostDigitsModel", "findSizes", "()V"⟩, 40) := ⟨⟨by decide +kernel, by decide +kernel⟩, List.mem_of_getElem? (i := 838) (by decide +kernel), List.mem_of_getElem? (i := 1061) (by decide +kernel), List.mem_of_getElem? (i := 1062) (by decide +kernel)⟩
theorem lw_p22 : lw_okq (⟨"LostDigitsModel", "wholeAt", "(I)I"⟩, 40) := ⟨⟨by decide +kernel, by decide +kernel⟩, List.mem_of_getElem? (i := 838) (by decide +kernel), List.mem_of_getElem? (i := 1065) (by decide +kernel), List.mem_of_getElem? (i := 1066) (by decide +kernel)⟩
theorem lw_p23 : lw_okq (⟨"LostDigitsModel", "layExact", "(IJJ)V"⟩, 40) := ⟨⟨by decide +kernel, by decide +kernel⟩, List.mem_of_getElem? (i := 838) (by decide +kernel), List.mem_of_getElem? (i := 1069) (by decide +kernel), List.mem_of_getElem? (i := 1070) (by decide +kernel)⟩
theorem lw_p24 : lw_okq (⟨"LostDigitsModel", "billionths", "(II)J"⟩, 40) := ⟨⟨by decide +kernel, by decide +kernel⟩, List.mem_of_getElem? (i := 838) (by decide +kernel), List.mem_of_getElem? (i := 1076) (by decide +kernel), List.mem_of_getElem? (i := 1077) (by decide +kernel)⟩
theorem lw_p25 : lw_okq (⟨"LostDigitsModel", "work", "()V"⟩, 40) := ⟨⟨by decide +kernel, by decide +kernel⟩, List.mem_of_getElem? (i := 838) (by decide +kernel), List.mem_of_getElem? (i := 1081) (by decide +kernel), List.mem_of_getElem? (i := 1082) (by decide +kernel)⟩
theorem lw_p26 : lw_okq (⟨"LostDigitsModel", "made", "(IJJIZ)J"⟩, 40) := ⟨⟨by decide +kernel, by decide +kernel⟩, List.mem_of_getElem? (i := 838) (by decide +kernel), List.mem_of_getElem? (i := 1085) (by decide +kernel), List.mem_of_getElem? (i := 1086) (by decide +kernel)⟩
theorem lw_p27 : lw_okq (⟨"LostDigitsModel", "roundOf", "(JIZ)J"⟩, 40) := ⟨⟨by decide +kernel, by decide +kernel⟩, List.mem_of_getElem? (i := 838) (by decide +kernel), List.mem_of_getElem? (i := 1089) (by decide +kernel), List.mem_of_getElem? (i := 1090) (by decide +kernel)⟩
theorem lw_p28 : lw_okq (⟨"LostDigitsModel", "layBoth", "(IJJ)V"⟩, 40) := ⟨⟨by decide +kernel, by decide +kernel⟩, List.mem_of_getElem? (i := 838) (by decide +kernel), List.mem_of_getElem? (i := 1093) (by decide +kernel), List.mem_of_getElem? (i := 1094) (by decide +kernel)⟩
theorem lw_p29 : lw_okq (⟨"LostDigitsModel", "shorten", "(J)V"⟩, 40) := ⟨⟨by decide +kernel, by decide +kernel⟩, List.mem_of_getElem? (i := 838) (by decide +kernel), List.mem_of_getElem? (i := 1097) (by decide +kernel), List.mem_of_getElem? (i := 1098) (by decide +kernel)⟩
theorem lw_p30 : lw_okq (⟨"LostDigitsModel", "whole", "(IJJ)J"⟩, 40) := ⟨⟨by decide +kernel, by decide +kernel⟩, List.mem_of_getElem? (i := 838) (by decide +kernel), List.mem_of_getElem? (i := 1101) (by decide +kernel), List.mem_of_getElem? (i := 1102) (by decide +kernel)⟩
theorem lw_p31 : lw_okq (⟨"LostDigitsModel", "lossNow", "()J"⟩, 40) := ⟨⟨by decide +kernel, by decide +kernel⟩, List.mem_of_getElem? (i := 838) (by decide +kernel), List.mem_of_getElem? (i := 1114) (by decide +kernel), List.mem_of_getElem? (i := 1115) (by decide +kernel)⟩
def lw_privs_2 : List (MethodName × Nat) := [(⟨"LostDigits$Search", "changeAgain", "([I)V"⟩, 6), (⟨"LostDigitsModel", "rounded", "(ZJJIIZ)J"⟩, 40), (⟨"LostDigitsModel", "isStep", "(I)Z"⟩, 40), (⟨"LostDigitsModel", "layText", "()V"⟩, 40), (⟨"LostDigitsModel", "workExact", "()V"⟩, 40), (⟨"LostDigitsModel", "findSizes", "()V"⟩, 40), (⟨"LostDigitsModel", "wholeAt", "(I)I"⟩, 40), (⟨"LostDigitsModel", "layExact", "(IJJ)V"⟩, 40), (⟨"LostDigitsModel", "billionths", "(II)J"⟩, 40), (⟨"LostDigitsModel", "work", "()V"⟩, 40), (⟨"LostDigitsModel", "made", "(IJJIZ)J"⟩, 40), (⟨"LostDigitsModel", "roundOf", "(JIZ)J"⟩, 40), (⟨"LostDigitsModel", "layBoth", "(IJJ)V"⟩, 40), (⟨"LostDigitsModel", "shorten", "(J)V"⟩, 40), (⟨"LostDigitsModel", "whole", "(IJJ)J"⟩, 40), (⟨"LostDigitsModel", "lossNow", "()J"⟩, 40)]
theorem lw_r2 : ∀ q ∈ lw_privs_2, lw_okq q := List.forall_mem_cons.mpr ⟨lw_p16, List.forall_mem_cons.mpr ⟨lw_p17, List.forall_mem_cons.mpr ⟨lw_p18, List.forall_mem_cons.mpr ⟨lw_p19, List.forall_mem_cons.mpr ⟨lw_p20, List.forall_mem_cons.mpr ⟨lw_p21, List.forall_mem_cons.mpr ⟨lw_p22, List.forall_mem_cons.mpr ⟨lw_p23, List.forall_mem_cons.mpr ⟨lw_p24, List.forall_mem_cons.mpr ⟨lw_p25, List.forall_mem_cons.mpr ⟨lw_p26, List.forall_mem_cons.mpr ⟨lw_p27, List.forall_mem_cons.mpr ⟨lw_p28, List.forall_mem_cons.mpr ⟨lw_p29, List.forall_mem_cons.mpr ⟨lw_p30, List.forall_mem_cons.mpr ⟨lw_p31, fun _ h => absurd h List.not_mem_nil⟩⟩⟩⟩⟩⟩⟩⟩⟩⟩⟩⟩⟩⟩⟩⟩
theorem lw_p32 : lw_okq (⟨"LostDigitsModel", "layOrder", "()V"⟩, 40) := ⟨⟨by decide +kernel, by decide +kernel⟩, List.mem_of_getElem? (i := 838) (by decide +kernel), List.mem_of_getElem? (i := 1148) (by decide +kernel), List.mem_of_getElem? (i := 1149) (by decide +kernel)⟩
theorem lw_p33 : lw_okq (⟨"LostDigitsModel", "beside", "()J"⟩, 40) := ⟨⟨by decide +kernel, by decide +kernel⟩, List.mem_of_getElem? (i := 838) (by decide +kernel), List.mem_of_getElem? (i := 1152) (by decide +kernel), List.mem_of_getElem? (i := 1153) (by decide +kernel)⟩
theorem lw_p34 : lw_okq (⟨"LostDigitsModel", "halves", "()J"⟩, 40) := ⟨⟨by decide +kernel, by decide +kernel⟩, List.mem_of_getElem? (i := 838) (by decide +kernel), List.mem_of_getElem? (i := 1156) (by decide +kernel), List.mem_of_getElem? (i := 1157) (by decide +kernel)⟩
theorem lw_p35 : lw_okq (⟨"LostDigitsModel", "halfOf", "(II)J"⟩, 40) := ⟨⟨by decide +kernel, by decide +kernel⟩, List.mem_of_getElem? (i := 838) (by decide +kernel), List.mem_of_getElem? (i := 1160) (by decide +kernel), List.mem_of_getElem? (i := 1161) (by decide +kernel)⟩
theorem lw_p36 : lw_okq (⟨"LostDigitsModel", "sumOf", "(II)J"⟩, 40) := ⟨⟨by decide +kernel, by decide +kernel⟩, List.mem_of_getElem? (i := 838) (by decide +kernel), List.mem_of_getElem? (i := 1164) (by decide +kernel), List.mem_of_getElem? (i := 1165) (by decide +kernel)⟩
theorem lw_p37 : lw_okq (⟨"LostDigitsModel", "orderBySize", "()V"⟩, 40) := ⟨⟨by decide +kernel, by decide +kernel⟩, List.mem_of_getElem? (i := 838) (by decide +kernel), List.mem_of_getElem? (i := 1168) (by decide +kernel), List.mem_of_getElem? (i := 1169) (by decide +kernel)⟩
theorem lw_p38 : lw_okq (⟨"LostDigitsModel", "wholeSum", "()J"⟩, 40) := ⟨⟨by decide +kernel, by decide +kernel⟩, List.mem_of_getElem? (i := 838) (by decide +kernel), List.mem_of_getElem? (i := 1172) (by decide +kernel), List.mem_of_getElem? (i := 1173) (by decide +kernel)⟩
theorem lw_p39 : lw_okq (⟨"LostDigitsModel", "findOrders", "(I)V"⟩, 40) := ⟨⟨by decide +kernel, by decide +kernel⟩, List.mem_of_getElem? (i := 838) (by decide +kernel), List.mem_of_getElem? (i := 1180) (by decide +kernel), List.mem_of_getElem? (i := 1181) (by decide +kernel)⟩
theorem lw_p40 : lw_okq (⟨"LostDigitsModel", "isBetter", "(IJ)Z"⟩, 40) := ⟨⟨by decide +kernel, by decide +kernel⟩, List.mem_of_getElem? (i := 838) (by decide +kernel), List.mem_of_getElem? (i := 1184) (by decide +kernel), List.mem_of_getElem? (i := 1185) (by decide +kernel)⟩
theorem lw_p41 : lw_okq (⟨"LostDigitsModel", "nextOrder", "()Z"⟩, 40) := ⟨⟨by decide +kernel, by decide +kernel⟩, List.mem_of_getElem? (i := 838) (by decide +kernel), List.mem_of_getElem? (i := 1188) (by decide +kernel), List.mem_of_getElem? (i := 1189) (by decide +kernel)⟩
theorem lw_p42 : lw_okq (⟨"LostDigitsModel", "findEnds", "()V"⟩, 40) := ⟨⟨by decide +kernel, by decide +kernel⟩, List.mem_of_getElem? (i := 838) (by decide +kernel), List.mem_of_getElem? (i := 1200) (by decide +kernel), List.mem_of_getElem? (i := 1201) (by decide +kernel)⟩
theorem lw_p43 : lw_okq (⟨"LostDigitsModel", "layEnds", "(IJJ)V"⟩, 40) := ⟨⟨by decide +kernel, by decide +kernel⟩, List.mem_of_getElem? (i := 838) (by decide +kernel), List.mem_of_getElem? (i := 1204) (by decide +kernel), List.mem_of_getElem? (i := 1205) (by decide +kernel)⟩
theorem lw_p44 : lw_okq (⟨"LostDigitsModel", "ofPairs", "(IIII)J"⟩, 40) := ⟨⟨by decide +kernel, by decide +kernel⟩, List.mem_of_getElem? (i := 838) (by decide +kernel), List.mem_of_getElem? (i := 1208) (by decide +kernel), List.mem_of_getElem? (i := 1209) (by decide +kernel)⟩
theorem lw_p45 : lw_okq (⟨"LostDigitsModel", "truthOf", "(I)J"⟩, 40) := ⟨⟨by decide +kernel, by decide +kernel⟩, List.mem_of_getElem? (i := 838) (by decide +kernel), List.mem_of_getElem? (i := 1216) (by decide +kernel), List.mem_of_getElem? (i := 1217) (by decide +kernel)⟩
theorem lw_p46 : lw_okq (⟨"LostDigitsModel", "nextNumbers", "()Z"⟩, 40) := ⟨⟨by decide +kernel, by decide +kernel⟩, List.mem_of_getElem? (i := 838) (by decide +kernel), List.mem_of_getElem? (i := 1220) (by decide +kernel), List.mem_of_getElem? (i := 1221) (by decide +kernel)⟩
theorem lw_p47 : lw_okq (⟨"LostDigitsModel", "isIn", "(I)Z"⟩, 40) := ⟨⟨by decide +kernel, by decide +kernel⟩, List.mem_of_getElem? (i := 838) (by decide +kernel), List.mem_of_getElem? (i := 1224) (by decide +kernel), List.mem_of_getElem? (i := 1225) (by decide +kernel)⟩
def lw_privs_3 : List (MethodName × Nat) := [(⟨"LostDigitsModel", "layOrder", "()V"⟩, 40), (⟨"LostDigitsModel", "beside", "()J"⟩, 40), (⟨"LostDigitsModel", "halves", "()J"⟩, 40), (⟨"LostDigitsModel", "halfOf", "(II)J"⟩, 40), (⟨"LostDigitsModel", "sumOf", "(II)J"⟩, 40), (⟨"LostDigitsModel", "orderBySize", "()V"⟩, 40), (⟨"LostDigitsModel", "wholeSum", "()J"⟩, 40), (⟨"LostDigitsModel", "findOrders", "(I)V"⟩, 40), (⟨"LostDigitsModel", "isBetter", "(IJ)Z"⟩, 40), (⟨"LostDigitsModel", "nextOrder", "()Z"⟩, 40), (⟨"LostDigitsModel", "findEnds", "()V"⟩, 40), (⟨"LostDigitsModel", "layEnds", "(IJJ)V"⟩, 40), (⟨"LostDigitsModel", "ofPairs", "(IIII)J"⟩, 40), (⟨"LostDigitsModel", "truthOf", "(I)J"⟩, 40), (⟨"LostDigitsModel", "nextNumbers", "()Z"⟩, 40), (⟨"LostDigitsModel", "isIn", "(I)Z"⟩, 40)]
theorem lw_r3 : ∀ q ∈ lw_privs_3, lw_okq q := List.forall_mem_cons.mpr ⟨lw_p32, List.forall_mem_cons.mpr ⟨lw_p33, List.forall_mem_cons.mpr ⟨lw_p34, List.forall_mem_cons.mpr ⟨lw_p35, List.forall_mem_cons.mpr ⟨lw_p36, List.forall_mem_cons.mpr ⟨lw_p37, List.forall_mem_cons.mpr ⟨lw_p38, List.forall_mem_cons.mpr ⟨lw_p39, List.forall_mem_cons.mpr ⟨lw_p40, List.forall_mem_cons.mpr ⟨lw_p41, List.forall_mem_cons.mpr ⟨lw_p42, List.forall_mem_cons.mpr ⟨lw_p43, List.forall_mem_cons.mpr ⟨lw_p44, List.forall_mem_cons.mpr ⟨lw_p45, List.forall_mem_cons.mpr ⟨lw_p46, List.forall_mem_cons.mpr ⟨lw_p47, fun _ h => absurd h List.not_mem_nil⟩⟩⟩⟩⟩⟩⟩⟩⟩⟩⟩⟩⟩⟩⟩⟩
theorem lw_p48 : lw_okq (⟨"LostDigitsModel", "build", "(II)Z"⟩, 40) := ⟨⟨by decide +kernel, by decide +kernel⟩, List.mem_of_getElem? (i := 838) (by decide +kernel), List.mem_of_getElem? (i := 1236) (by decide +kernel), List.mem_of_getElem? (i := 1237) (by decide +kernel)⟩
theorem lw_p49 : lw_okq (⟨"LostDigitsModel", "hasSigns", "(IIII)Z"⟩, 40) := ⟨⟨by decide +kernel, by decide +kernel⟩, List.mem_of_getElem? (i := 838) (by decide +kernel), List.mem_of_getElem? (i := 1240) (by decide +kernel), List.mem_of_getElem? (i := 1241) (by decide +kernel)⟩
theorem lw_p50 : lw_okq (⟨"LostDigitsModel", "isSame", "(II)Z"⟩, 40) := ⟨⟨by decide +kernel, by decide +kernel⟩, List.mem_of_getElem? (i := 838) (by decide +kernel), List.mem_of_getElem? (i := 1244) (by decide +kernel), List.mem_of_getElem? (i := 1245) (by decide +kernel)⟩
theorem lw_p51 : lw_okq (⟨"LostDigitsModel", "add", "(I)V"⟩, 40) := ⟨⟨by decide +kernel, by decide +kernel⟩, List.mem_of_getElem? (i := 838) (by decide +kernel), List.mem_of_getElem? (i := 1248) (by decide +kernel), List.mem_of_getElem? (i := 1249) (by decide +kernel)⟩
theorem lw_p52 : lw_okq (⟨"LostDigitsModel", "buildPart", "(IIII)V"⟩, 40) := ⟨⟨by decide +kernel, by decide +kernel⟩, List.mem_of_getElem? (i := 838) (by decide +kernel), List.mem_of_getElem? (i := 1252) (by decide +kernel), List.mem_of_getElem? (i := 1253) (by decide +kernel)⟩
theorem lw_p53 : lw_okq (⟨"LostDigitsModel", "addPart", "(I)V"⟩, 40) := ⟨⟨by decide +kernel, by decide +kernel⟩, List.mem_of_getElem? (i := 838) (by decide +kernel), List.mem_of_getElem? (i := 1256) (by decide +kernel), List.mem_of_getElem? (i := 1257) (by decide +kernel)⟩
theorem lw_p54 : lw_okq (⟨"LostDigitsModel", "findBetter", "(I)V"⟩, 40) := ⟨⟨by decide +kernel, by decide +kernel⟩, List.mem_of_getElem? (i := 838) (by decide +kernel), List.mem_of_getElem? (i := 1268) (by decide +kernel), List.mem_of_getElem? (i := 1269) (by decide +kernel)⟩
theorem lw_p55 : lw_okq (⟨"LostDigitsModel", "hold", "()V"⟩, 40) := ⟨⟨by decide +kernel, by decide +kernel⟩, List.mem_of_getElem? (i := 838) (by decide +kernel), List.mem_of_getElem? (i := 1272) (by decide +kernel), List.mem_of_getElem? (i := 1273) (by decide +kernel)⟩
theorem lw_p56 : lw_okq (⟨"LostDigitsModel", "keepBase", "()V"⟩, 40) := ⟨⟨by decide +kernel, by decide +kernel⟩, List.mem_of_getElem? (i := 838) (by decide +kernel), List.mem_of_getElem? (i := 1276) (by decide +kernel), List.mem_of_getElem? (i := 1277) (by decide +kernel)⟩
theorem lw_p57 : lw_okq (⟨"LostDigitsModel", "holdAll", "()V"⟩, 40) := ⟨⟨by decide +kernel, by decide +kernel⟩, List.mem_of_getElem? (i := 838) (by decide +kernel), List.mem_of_getElem? (i := 1280) (by decide +kernel), List.mem_of_getElem? (i := 1281) (by decide +kernel)⟩
theorem lw_p58 : lw_okq (⟨"LostDigitsModel", "layBase", "()V"⟩, 40) := ⟨⟨by decide +kernel, by decide +kernel⟩, List.mem_of_getElem? (i := 838) (by decide +kernel), List.mem_of_getElem? (i := 1284) (by decide +kernel), List.mem_of_getElem? (i := 1285) (by decide +kernel)⟩
theorem lw_p59 : lw_okq (⟨"LostDigitsModel", "layBuilt", "()V"⟩, 40) := ⟨⟨by decide +kernel, by decide +kernel⟩, List.mem_of_getElem? (i := 838) (by decide +kernel), List.mem_of_getElem? (i := 1288) (by decide +kernel), List.mem_of_getElem? (i := 1289) (by decide +kernel)⟩
theorem lw_p60 : lw_okq (⟨"LostDigitsModel", "passAll", "()V"⟩, 40) := ⟨⟨by decide +kernel, by decide +kernel⟩, List.mem_of_getElem? (i := 838) (by decide +kernel), List.mem_of_getElem? (i := 1300) (by decide +kernel), List.mem_of_getElem? (i := 1301) (by decide +kernel)⟩
theorem lw_p61 : lw_okq (⟨"LostDigitsModel", "pass", "(J)J"⟩, 40) := ⟨⟨by decide +kernel, by decide +kernel⟩, List.mem_of_getElem? (i := 838) (by decide +kernel), List.mem_of_getElem? (i := 1304) (by decide +kernel), List.mem_of_getElem? (i := 1305) (by decide +kernel)⟩
def lw_privs_4 : List (MethodName × Nat) := [(⟨"LostDigitsModel", "build", "(II)Z"⟩, 40), (⟨"LostDigitsModel", "hasSigns", "(IIII)Z"⟩, 40), (⟨"LostDigitsModel", "isSame", "(II)Z"⟩, 40), (⟨"LostDigitsModel", "add", "(I)V"⟩, 40), (⟨"LostDigitsModel", "buildPart", "(IIII)V"⟩, 40), (⟨"LostDigitsModel", "addPart", "(I)V"⟩, 40), (⟨"LostDigitsModel", "findBetter", "(I)V"⟩, 40), (⟨"LostDigitsModel", "hold", "()V"⟩, 40), (⟨"LostDigitsModel", "keepBase", "()V"⟩, 40), (⟨"LostDigitsModel", "holdAll", "()V"⟩, 40), (⟨"LostDigitsModel", "layBase", "()V"⟩, 40), (⟨"LostDigitsModel", "layBuilt", "()V"⟩, 40), (⟨"LostDigitsModel", "passAll", "()V"⟩, 40), (⟨"LostDigitsModel", "pass", "(J)J"⟩, 40)]
theorem lw_r4 : ∀ q ∈ lw_privs_4, lw_okq q := List.forall_mem_cons.mpr ⟨lw_p48, List.forall_mem_cons.mpr ⟨lw_p49, List.forall_mem_cons.mpr ⟨lw_p50, List.forall_mem_cons.mpr ⟨lw_p51, List.forall_mem_cons.mpr ⟨lw_p52, List.forall_mem_cons.mpr ⟨lw_p53, List.forall_mem_cons.mpr ⟨lw_p54, List.forall_mem_cons.mpr ⟨lw_p55, List.forall_mem_cons.mpr ⟨lw_p56, List.forall_mem_cons.mpr ⟨lw_p57, List.forall_mem_cons.mpr ⟨lw_p58, List.forall_mem_cons.mpr ⟨lw_p59, List.forall_mem_cons.mpr ⟨lw_p60, List.forall_mem_cons.mpr ⟨lw_p61, fun _ h => absurd h List.not_mem_nil⟩⟩⟩⟩⟩⟩⟩⟩⟩⟩⟩⟩⟩⟩
def lw_privs : List (MethodName × Nat) := lw_privs_1 ++ (lw_privs_2 ++ (lw_privs_3 ++ (lw_privs_4)))
def lw_tbl : List Cond := k2_sels lw_privs ++ tables_1
theorem lw_privs_ok : ∀ q ∈ lw_privs, lw_okq q := by
  show ∀ q ∈ lw_privs_1 ++ (lw_privs_2 ++ (lw_privs_3 ++ (lw_privs_4))), lw_okq q
  exact List.forall_mem_append.mpr ⟨lw_r1, List.forall_mem_append.mpr ⟨lw_r2, List.forall_mem_append.mpr ⟨lw_r3, lw_r4⟩⟩⟩

def RX0 : String := "LostDigits$Fractions"
def TX0 : u_T := fun k => match k with
  | 0 => ("LostDigits$Fractions", "uppers", "[J", true)
  | _ => ("LostDigits$Fractions", "lowers", "[J", true)
def tyX0 : Nat → FieldType := fun k => match k with
  | 0 => .array .long
  | _ => .array .long
abbrev wsX00 : List Cond := u_ws RX0 TX0 2
theorem nmX0 : ∀ a, a < 2 → ∀ b, b < 2 → a ≠ b → (TX0 a).2.1 ≠ (TX0 b).2.1 := by decide +kernel
theorem tyX0_ok : ∀ k, k < 2 → parseFieldDescriptor (TX0 k).2.2.1 = some (tyX0 k) := by decide +kernel
abbrev cX0_init : ByteArray := prog_2_method_1_code
def yX0_init : MethodName := ⟨RX0, "<init>", "()V"⟩
abbrev cX0_workParts : ByteArray := prog_2_method_2_code
def yX0_workParts : MethodName := ⟨RX0, "workParts", "(LLostDigits$Text;[II)V"⟩
abbrev cX0_join : ByteArray := prog_2_method_3_code
def yX0_join : MethodName := ⟨RX0, "join", "(III)V"⟩
abbrev cX0_billionths : ByteArray := prog_2_method_4_code
def yX0_billionths : MethodName := ⟨RX0, "billionths", "(II)J"⟩
abbrev cX0_lowest : ByteArray := prog_2_method_5_code
def yX0_lowest : MethodName := ⟨RX0, "lowest", "(I)J"⟩
abbrev cX0_sharedDivisor : ByteArray := prog_2_method_6_code
def yX0_sharedDivisor : MethodName := ⟨RX0, "sharedDivisor", "(JJ)J"⟩
def RX1 : String := "LostDigits$Orders"
def TX1 : u_T := fun k => match k with
  | 0 => ("LostDigits$Orders", "sums", "LLostDigits$Sums;", true)
  | 1 => ("LostDigits$Orders", "path", "[I", true)
  | 2 => ("LostDigits$Orders", "losses", "[J", true)
  | 3 => ("LostDigits$Orders", "counts", "[I", true)
  | 4 => ("LostDigits$Orders", "firsts", "[[I", true)
  | 5 => ("LostDigits$Orders", "whole", "J", false)
  | _ => ("LostDigits$Orders", "isFound", "Z", false)
def tyX1 : Nat → FieldType := fun k => match k with
  | 0 => .object "LostDigits$Sums"
  | 1 => .array .int
  | 2 => .array .long
  | 3 => .array .int
  | 4 => .array (.array .int)
  | 5 => .long
  | _ => .boolean
abbrev wsX10 : List Cond := u_ws RX1 TX1 7
theorem nmX1 : ∀ a, a < 7 → ∀ b, b < 7 → a ≠ b → (TX1 a).2.1 ≠ (TX1 b).2.1 := by decide +kernel
theorem tyX1_ok : ∀ k, k < 7 → parseFieldDescriptor (TX1 k).2.2.1 = some (tyX1 k) := by decide +kernel
abbrev cX1_init : ByteArray := prog_3_method_1_code
def yX1_init : MethodName := ⟨RX1, "<init>", "()V"⟩
abbrev cX1_find : ByteArray := prog_3_method_2_code
def yX1_find : MethodName := ⟨RX1, "find", "(LLostDigits$Page;)V"⟩
abbrev cX1_extend : ByteArray := prog_3_method_3_code
def yX1_extend : MethodName := ⟨RX1, "extend", "(IIJ)V"⟩
abbrev cX1_note : ByteArray := prog_3_method_4_code
def yX1_note : MethodName := ⟨RX1, "note", "(IJ)V"⟩
abbrev cX1_isPreferred : ByteArray := prog_3_method_5_code
def yX1_isPreferred : MethodName := ⟨RX1, "isPreferred", "(IJJ)Z"⟩
def RX2 : String := "LostDigits$Page"
def TX2 : u_T := fun k => match k with
  | 0 => ("LostDigits$Page", "text", "LLostDigits$Text;", true)
  | 1 => ("LostDigits$Page", "numbers", "[I", true)
  | 2 => ("LostDigits$Page", "spans", "[I", true)
  | 3 => ("LostDigits$Page", "terms", "[J", true)
  | 4 => ("LostDigits$Page", "termCount", "I", false)
  | 5 => ("LostDigits$Page", "digits", "I", false)
  | 6 => ("LostDigits$Page", "way", "I", false)
  | _ => ("LostDigits$Page", "isKept", "Z", false)
def tyX2 : Nat → FieldType := fun k => match k with
  | 0 => .object "LostDigits$Text"
  | 1 => .array .int
  | 2 => .array .int
  | 3 => .array .long
  | 4 => .int
  | 5 => .int
  | 6 => .int
  | _ => .boolean
abbrev wsX20 : List Cond := u_ws RX2 TX2 8
theorem nmX2 : ∀ a, a < 8 → ∀ b, b < 8 → a ≠ b → (TX2 a).2.1 ≠ (TX2 b).2.1 := by decide +kernel
theorem tyX2_ok : ∀ k, k < 8 → parseFieldDescriptor (TX2 k).2.2.1 = some (tyX2 k) := by decide +kernel
abbrev cX2_init : ByteArray := prog_4_method_1_code
def yX2_init : MethodName := ⟨RX2, "<init>", "()V"⟩
abbrev cX2_copyFrom : ByteArray := prog_4_method_2_code
def yX2_copyFrom : MethodName := ⟨RX2, "copyFrom", "(LLostDigits$Page;)V"⟩
def RX3 : String := "LostDigits$Ratio"
def TX3 : u_T := fun k => match k with
  | 0 => ("LostDigits$Ratio", "upper", "J", false)
  | 1 => ("LostDigits$Ratio", "lower", "J", false)
  | _ => ("LostDigits$Ratio", "tens", "I", false)
def tyX3 : Nat → FieldType := fun k => match k with
  | 0 => .long
  | 1 => .long
  | _ => .int
abbrev wsX30 : List Cond := u_ws RX3 TX3 3
theorem nmX3 : ∀ a, a < 3 → ∀ b, b < 3 → a ≠ b → (TX3 a).2.1 ≠ (TX3 b).2.1 := by decide +kernel
theorem tyX3_ok : ∀ k, k < 3 → parseFieldDescriptor (TX3 k).2.2.1 = some (tyX3 k) := by decide +kernel
abbrev cX3_init : ByteArray := prog_5_method_1_code
def yX3_init : MethodName := ⟨RX3, "<init>", "()V"⟩
abbrev cX3_hold : ByteArray := prog_5_method_2_code
def yX3_hold : MethodName := ⟨RX3, "hold", "(JJI)V"⟩
abbrev cX3_join : ByteArray := prog_5_method_3_code
def yX3_join : MethodName := ⟨RX3, "join", "(IJJ)Z"⟩
abbrev cX3_lastZeros : ByteArray := prog_5_method_4_code
def yX3_lastZeros : MethodName := ⟨RX3, "lastZeros", "(J)I"⟩
abbrev cX3_cut : ByteArray := prog_5_method_5_code
def yX3_cut : MethodName := ⟨RX3, "cut", "()J"⟩
def RX4 : String := "LostDigits$Rounding"
def TX4 : u_T := fun k => match k with
  | 0 => ("LostDigits$Rounding", "digits", "I", false)
  | 1 => ("LostDigits$Rounding", "way", "I", false)
  | _ => ("LostDigits$Rounding", "keepsTiny", "Z", false)
def tyX4 : Nat → FieldType := fun k => match k with
  | 0 => .int
  | 1 => .int
  | _ => .boolean
abbrev wsX40 : List Cond := u_ws RX4 TX4 3
theorem nmX4 : ∀ a, a < 3 → ∀ b, b < 3 → a ≠ b → (TX4 a).2.1 ≠ (TX4 b).2.1 := by decide +kernel
theorem tyX4_ok : ∀ k, k < 3 → parseFieldDescriptor (TX4 k).2.2.1 = some (tyX4 k) := by decide +kernel
abbrev cX4_init : ByteArray := prog_6_method_1_code
def yX4_init : MethodName := ⟨RX4, "<init>", "()V"⟩
abbrev cX4_turn : ByteArray := prog_6_method_2_code
def yX4_turn : MethodName := ⟨RX4, "turn", "(II)V"⟩
abbrev cX4_of : ByteArray := prog_6_method_3_code
def yX4_of : MethodName := ⟨RX4, "of", "(LLostDigits$Ratio;)J"⟩
abbrev cX4_goesOn : ByteArray := prog_6_method_4_code
def yX4_goesOn : MethodName := ⟨RX4, "goesOn", "(JJJZ)Z"⟩
abbrev cX4_placed : ByteArray := prog_6_method_5_code
def yX4_placed : MethodName := ⟨RX4, "placed", "(JIZ)J"⟩
def RX5 : String := "LostDigits$Rules"
def TX5 : u_T := fun k => match k with
  | _ => ("", "", "", false)
def tyX5 : Nat → FieldType := fun k => match k with
  | _ => .int
abbrev wsX50 : List Cond := u_ws RX5 TX5 0
theorem nmX5 : ∀ a, a < 0 → ∀ b, b < 0 → a ≠ b → (TX5 a).2.1 ≠ (TX5 b).2.1 := by decide +kernel
theorem tyX5_ok : ∀ k, k < 0 → parseFieldDescriptor (TX5 k).2.2.1 = some (tyX5 k) := by decide +kernel
abbrev cX5_suits : ByteArray := prog_7_method_2_code
def yX5_suits : MethodName := ⟨RX5, "suits", "(LLostDigits$Text;II)Z"⟩
abbrev cX5_hasRoomToSpread : ByteArray := prog_7_method_3_code
def yX5_hasRoomToSpread : MethodName := ⟨RX5, "hasRoomToSpread", "(LLostDigits$Text;I)Z"⟩
abbrev cX5_sharesFactor : ByteArray := prog_7_method_4_code
def yX5_sharesFactor : MethodName := ⟨RX5, "sharesFactor", "(LLostDigits$Text;I)Z"⟩
abbrev cX5_isOfSquares : ByteArray := prog_7_method_5_code
def yX5_isOfSquares : MethodName := ⟨RX5, "isOfSquares", "(LLostDigits$Text;I)Z"⟩
abbrev cX5_write : ByteArray := prog_7_method_6_code
def yX5_write : MethodName := ⟨RX5, "write", "(LLostDigits$Text;IILLostDigits$Text;)Z"⟩
abbrev cX5_writeShift : ByteArray := prog_7_method_7_code
def yX5_writeShift : MethodName := ⟨RX5, "writeShift", "(LLostDigits$Text;IILLostDigits$Text;)V"⟩
abbrev cX5_writeFactors : ByteArray := prog_7_method_8_code
def yX5_writeFactors : MethodName := ⟨RX5, "writeFactors", "(LLostDigits$Text;IILLostDigits$Text;)V"⟩
def RX6 : String := "LostDigits$Search"
def TX6 : u_T := fun k => match k with
  | 0 => ("LostDigits$Search", "steps", "LLostDigits$Steps;", true)
  | 1 => ("LostDigits$Search", "once", "LLostDigits$Text;", true)
  | 2 => ("LostDigits$Search", "twice", "LLostDigits$Text;", true)
  | 3 => ("LostDigits$Search", "best", "LLostDigits$Text;", true)
  | 4 => ("LostDigits$Search", "bestLoss", "J", false)
  | _ => ("LostDigits$Search", "foundRules", "I", false)
def tyX6 : Nat → FieldType := fun k => match k with
  | 0 => .object "LostDigits$Steps"
  | 1 => .object "LostDigits$Text"
  | 2 => .object "LostDigits$Text"
  | 3 => .object "LostDigits$Text"
  | 4 => .long
  | _ => .int
abbrev wsX60 : List Cond := u_ws RX6 TX6 6
theorem nmX6 : ∀ a, a < 6 → ∀ b, b < 6 → a ≠ b → (TX6 a).2.1 ≠ (TX6 b).2.1 := by decide +kernel
theorem tyX6_ok : ∀ k, k < 6 → parseFieldDescriptor (TX6 k).2.2.1 = some (tyX6 k) := by decide +kernel
abbrev cX6_init : ByteArray := prog_8_method_1_code
def yX6_init : MethodName := ⟨RX6, "<init>", "()V"⟩
abbrev cX6_find : ByteArray := prog_8_method_2_code
def yX6_find : MethodName := ⟨RX6, "find", "(LLostDigits$Page;I)V"⟩
abbrev cX6_changeAgain : ByteArray := prog_8_method_3_code
def yX6_changeAgain : MethodName := ⟨RX6, "changeAgain", "([I)V"⟩
abbrev cX6_consider : ByteArray := prog_8_method_4_code
def yX6_consider : MethodName := ⟨RX6, "consider", "(LLostDigits$Text;[I)V"⟩
def RX7 : String := "LostDigits$Spans"
def TX7 : u_T := fun k => match k with
  | 0 => ("LostDigits$Spans", "low", "[J", true)
  | 1 => ("LostDigits$Spans", "high", "[J", true)
  | 2 => ("LostDigits$Spans", "ratio", "LLostDigits$Ratio;", true)
  | 3 => ("LostDigits$Spans", "down", "LLostDigits$Rounding;", true)
  | 4 => ("LostDigits$Spans", "up", "LLostDigits$Rounding;", true)
  | 5 => ("LostDigits$Spans", "fractions", "LLostDigits$Fractions;", true)
  | 6 => ("LostDigits$Spans", "trial", "[I", true)
  | 7 => ("LostDigits$Spans", "widths", "[I", true)
  | 8 => ("LostDigits$Spans", "least", "J", false)
  | 9 => ("LostDigits$Spans", "greatest", "J", false)
  | _ => ("LostDigits$Spans", "isFound", "Z", false)
def tyX7 : Nat → FieldType := fun k => match k with
  | 0 => .array .long
  | 1 => .array .long
  | 2 => .object "LostDigits$Ratio"
  | 3 => .object "LostDigits$Rounding"
  | 4 => .object "LostDigits$Rounding"
  | 5 => .object "LostDigits$Fractions"
  | 6 => .array .int
  | 7 => .array .int
  | 8 => .long
  | 9 => .long
  | _ => .boolean
abbrev wsX70 : List Cond := u_ws RX7 TX7 11
theorem nmX7 : ∀ a, a < 11 → ∀ b, b < 11 → a ≠ b → (TX7 a).2.1 ≠ (TX7 b).2.1 := by decide +kernel
theorem tyX7_ok : ∀ k, k < 11 → parseFieldDescriptor (TX7 k).2.2.1 = some (tyX7 k) := by decide +kernel
abbrev cX7_init : ByteArray := prog_9_method_1_code
def yX7_init : MethodName := ⟨RX7, "<init>", "()V"⟩
abbrev cX7_bound : ByteArray := prog_9_method_2_code
def yX7_bound : MethodName := ⟨RX7, "bound", "(LLostDigits$Page;)V"⟩
abbrev cX7_join : ByteArray := prog_9_method_3_code
def yX7_join : MethodName := ⟨RX7, "join", "(III)V"⟩
abbrev cX7_makeGreat : ByteArray := prog_9_method_4_code
def yX7_makeGreat : MethodName := ⟨RX7, "makeGreat", "(I)V"⟩
abbrev cX7_widen : ByteArray := prog_9_method_5_code
def yX7_widen : MethodName := ⟨RX7, "widen", "(IIJJ)Z"⟩
abbrev cX7_findTruth : ByteArray := prog_9_method_6_code
def yX7_findTruth : MethodName := ⟨RX7, "findTruth", "(LLostDigits$Page;)V"⟩
abbrev cX7_startTrials : ByteArray := prog_9_method_7_code
def yX7_startTrials : MethodName := ⟨RX7, "startTrials", "(LLostDigits$Page;)I"⟩
abbrev cX7_nextTrial : ByteArray := prog_9_method_8_code
def yX7_nextTrial : MethodName := ⟨RX7, "nextTrial", "([I)I"⟩
def RX8 : String := "LostDigits$Steps"
def TX8 : u_T := fun k => match k with
  | 0 => ("LostDigits$Steps", "values", "[J", true)
  | 1 => ("LostDigits$Steps", "slips", "[J", true)
  | 2 => ("LostDigits$Steps", "fractions", "LLostDigits$Fractions;", true)
  | 3 => ("LostDigits$Steps", "rounding", "LLostDigits$Rounding;", true)
  | _ => ("LostDigits$Steps", "ratio", "LLostDigits$Ratio;", true)
def tyX8 : Nat → FieldType := fun k => match k with
  | 0 => .array .long
  | 1 => .array .long
  | 2 => .object "LostDigits$Fractions"
  | 3 => .object "LostDigits$Rounding"
  | _ => .object "LostDigits$Ratio"
abbrev wsX80 : List Cond := u_ws RX8 TX8 5
theorem nmX8 : ∀ a, a < 5 → ∀ b, b < 5 → a ≠ b → (TX8 a).2.1 ≠ (TX8 b).2.1 := by decide +kernel
theorem tyX8_ok : ∀ k, k < 5 → parseFieldDescriptor (TX8 k).2.2.1 = some (tyX8 k) := by decide +kernel
abbrev cX8_init : ByteArray := prog_10_method_1_code
def yX8_init : MethodName := ⟨RX8, "<init>", "()V"⟩
abbrev cX8_work : ByteArray := prog_10_method_2_code
def yX8_work : MethodName := ⟨RX8, "work", "(LLostDigits$Text;[I)V"⟩
abbrev cX8_lossOf : ByteArray := prog_10_method_3_code
def yX8_lossOf : MethodName := ⟨RX8, "lossOf", "(LLostDigits$Text;[I)J"⟩
def RX9 : String := "LostDigits$Sums"
def TX9 : u_T := fun k => match k with
  | 0 => ("LostDigits$Sums", "ratio", "LLostDigits$Ratio;", true)
  | 1 => ("LostDigits$Sums", "rounding", "LLostDigits$Rounding;", true)
  | 2 => ("LostDigits$Sums", "terms", "[J", true)
  | 3 => ("LostDigits$Sums", "sizes", "[I", true)
  | _ => ("LostDigits$Sums", "count", "I", false)
def tyX9 : Nat → FieldType := fun k => match k with
  | 0 => .object "LostDigits$Ratio"
  | 1 => .object "LostDigits$Rounding"
  | 2 => .array .long
  | 3 => .array .int
  | _ => .int
abbrev wsX90 : List Cond := u_ws RX9 TX9 5
theorem nmX9 : ∀ a, a < 5 → ∀ b, b < 5 → a ≠ b → (TX9 a).2.1 ≠ (TX9 b).2.1 := by decide +kernel
theorem tyX9_ok : ∀ k, k < 5 → parseFieldDescriptor (TX9 k).2.2.1 = some (tyX9 k) := by decide +kernel
abbrev cX9_init : ByteArray := prog_11_method_1_code
def yX9_init : MethodName := ⟨RX9, "<init>", "()V"⟩
abbrev cX9_take : ByteArray := prog_11_method_2_code
def yX9_take : MethodName := ⟨RX9, "take", "(LLostDigits$Page;)V"⟩
abbrev cX9_plus : ByteArray := prog_11_method_3_code
def yX9_plus : MethodName := ⟨RX9, "plus", "(JJ)J"⟩
abbrev cX9_less : ByteArray := prog_11_method_4_code
def yX9_less : MethodName := ⟨RX9, "less", "(JJ)J"⟩
abbrev cX9_whole : ByteArray := prog_11_method_5_code
def yX9_whole : MethodName := ⟨RX9, "whole", "()J"⟩
abbrev cX9_asTold : ByteArray := prog_11_method_6_code
def yX9_asTold : MethodName := ⟨RX9, "asTold", "()J"⟩
abbrev cX9_beside : ByteArray := prog_11_method_7_code
def yX9_beside : MethodName := ⟨RX9, "beside", "()J"⟩
abbrev cX9_halves : ByteArray := prog_11_method_8_code
def yX9_halves : MethodName := ⟨RX9, "halves", "()J"⟩
abbrev cX9_halfSum : ByteArray := prog_11_method_9_code
def yX9_halfSum : MethodName := ⟨RX9, "halfSum", "(III)J"⟩
abbrev cX9_bySize : ByteArray := prog_11_method_10_code
def yX9_bySize : MethodName := ⟨RX9, "bySize", "()J"⟩
abbrev cX9_insertBySize : ByteArray := prog_11_method_11_code
def yX9_insertBySize : MethodName := ⟨RX9, "insertBySize", "(I)V"⟩
def RX10 : String := "LostDigits$Text"
def TX10 : u_T := fun k => match k with
  | 0 => ("LostDigits$Text", "signs", "[I", true)
  | 1 => ("LostDigits$Text", "ends", "[I", true)
  | 2 => ("LostDigits$Text", "letters", "[I", true)
  | _ => ("LostDigits$Text", "length", "I", false)
def tyX10 : Nat → FieldType := fun k => match k with
  | 0 => .array .int
  | 1 => .array .int
  | 2 => .array .int
  | _ => .int
abbrev wsX100 : List Cond := u_ws RX10 TX10 4
theorem nmX10 : ∀ a, a < 4 → ∀ b, b < 4 → a ≠ b → (TX10 a).2.1 ≠ (TX10 b).2.1 := by decide +kernel
theorem tyX10_ok : ∀ k, k < 4 → parseFieldDescriptor (TX10 k).2.2.1 = some (tyX10 k) := by decide +kernel
abbrev cX10_init : ByteArray := prog_12_method_1_code
def yX10_init : MethodName := ⟨RX10, "<init>", "()V"⟩
abbrev cX10_copyFrom : ByteArray := prog_12_method_2_code
def yX10_copyFrom : MethodName := ⟨RX10, "copyFrom", "(LLostDigits$Text;)V"⟩
abbrev cX10_read : ByteArray := prog_12_method_3_code
def yX10_read : MethodName := ⟨RX10, "read", "([II)V"⟩
abbrev cX10_add : ByteArray := prog_12_method_4_code
def yX10_add : MethodName := ⟨RX10, "add", "(I)V"⟩
abbrev cX10_addPlaces : ByteArray := prog_12_method_5_code
def yX10_addPlaces : MethodName := ⟨RX10, "addPlaces", "(LLostDigits$Text;II)V"⟩
abbrev cX10_addPart : ByteArray := prog_12_method_6_code
def yX10_addPart : MethodName := ⟨RX10, "addPart", "(LLostDigits$Text;I)V"⟩
abbrev cX10_findParts : ByteArray := prog_12_method_7_code
def yX10_findParts : MethodName := ⟨RX10, "findParts", "()V"⟩
abbrev cX10_has : ByteArray := prog_12_method_8_code
def yX10_has : MethodName := ⟨RX10, "has", "(I)Z"⟩
abbrev cX10_signAt : ByteArray := prog_12_method_9_code
def yX10_signAt : MethodName := ⟨RX10, "signAt", "(I)I"⟩
abbrev cX10_endOf : ByteArray := prog_12_method_10_code
def yX10_endOf : MethodName := ⟨RX10, "endOf", "(I)I"⟩
abbrev cX10_lettersOf : ByteArray := prog_12_method_11_code
def yX10_lettersOf : MethodName := ⟨RX10, "lettersOf", "(I)I"⟩
abbrev cX10_secondOf : ByteArray := prog_12_method_12_code
def yX10_secondOf : MethodName := ⟨RX10, "secondOf", "(I)I"⟩
abbrev cX10_areAlike : ByteArray := prog_12_method_13_code
def yX10_areAlike : MethodName := ⟨RX10, "areAlike", "(II)Z"⟩
def RX11 : String := "LostDigits"
def TX11 : u_T := fun k => match k with
  | 0 => ("LostDigits", "now", "LLostDigits$Page;", true)
  | 1 => ("LostDigits", "imageZero", "LLostDigits$Page;", true)
  | 2 => ("LostDigits", "imageOne", "LLostDigits$Page;", true)
  | 3 => ("LostDigits", "pad", "[I", true)
  | 4 => ("LostDigits", "padded", "I", false)
  | 5 => ("LostDigits", "ratio", "LLostDigits$Ratio;", true)
  | 6 => ("LostDigits", "rounding", "LLostDigits$Rounding;", true)
  | 7 => ("LostDigits", "steps", "LLostDigits$Steps;", true)
  | 8 => ("LostDigits", "sums", "LLostDigits$Sums;", true)
  | 9 => ("LostDigits", "allOrders", "LLostDigits$Orders;", true)
  | 10 => ("LostDigits", "spans", "LLostDigits$Spans;", true)
  | _ => ("LostDigits", "search", "LLostDigits$Search;", true)
def tyX11 : Nat → FieldType := fun k => match k with
  | 0 => .object "LostDigits$Page"
  | 1 => .object "LostDigits$Page"
  | 2 => .object "LostDigits$Page"
  | 3 => .array .int
  | 4 => .int
  | 5 => .object "LostDigits$Ratio"
  | 6 => .object "LostDigits$Rounding"
  | 7 => .object "LostDigits$Steps"
  | 8 => .object "LostDigits$Sums"
  | 9 => .object "LostDigits$Orders"
  | 10 => .object "LostDigits$Spans"
  | _ => .object "LostDigits$Search"
abbrev wsX110 : List Cond := u_ws RX11 TX11 12
theorem nmX11 : ∀ a, a < 12 → ∀ b, b < 12 → a ≠ b → (TX11 a).2.1 ≠ (TX11 b).2.1 := by decide +kernel
theorem tyX11_ok : ∀ k, k < 12 → parseFieldDescriptor (TX11 k).2.2.1 = some (tyX11 k) := by decide +kernel
abbrev cX11_init : ByteArray := prog_1_method_1_code
def yX11_init : MethodName := ⟨RX11, "<init>", "()V"⟩
abbrev cX11_set : ByteArray := prog_1_method_2_code
def yX11_set : MethodName := ⟨RX11, "set", "(II)I"⟩
abbrev cX11_round : ByteArray := prog_1_method_3_code
def yX11_round : MethodName := ⟨RX11, "round", "(III)J"⟩
abbrev cX11_say : ByteArray := prog_1_method_4_code
def yX11_say : MethodName := ⟨RX11, "say", "(I)I"⟩
abbrev cX11_wipe : ByteArray := prog_1_method_5_code
def yX11_wipe : MethodName := ⟨RX11, "wipe", "()I"⟩
abbrev cX11_fault : ByteArray := prog_1_method_6_code
def yX11_fault : MethodName := ⟨RX11, "fault", "()I"⟩
abbrev cX11_text : ByteArray := prog_1_method_7_code
def yX11_text : MethodName := ⟨RX11, "text", "()I"⟩
abbrev cX11_sign : ByteArray := prog_1_method_8_code
def yX11_sign : MethodName := ⟨RX11, "sign", "(I)I"⟩
abbrev cX11_put : ByteArray := prog_1_method_9_code
def yX11_put : MethodName := ⟨RX11, "put", "(III)I"⟩
abbrev cX11_worked : ByteArray := prog_1_method_10_code
def yX11_worked : MethodName := ⟨RX11, "worked", "(II)J"⟩
abbrev cX11_exact : ByteArray := prog_1_method_11_code
def yX11_exact : MethodName := ⟨RX11, "exact", "(I)J"⟩
abbrev cX11_loss : ByteArray := prog_1_method_12_code
def yX11_loss : MethodName := ⟨RX11, "loss", "()J"⟩
abbrev cX11_worst : ByteArray := prog_1_method_13_code
def yX11_worst : MethodName := ⟨RX11, "worst", "()I"⟩
abbrev cX11_needs : ByteArray := prog_1_method_14_code
def yX11_needs : MethodName := ⟨RX11, "needs", "(J)I"⟩
abbrev cX11_term : ByteArray := prog_1_method_15_code
def yX11_term : MethodName := ⟨RX11, "term", "(J)I"⟩
abbrev cX11_clear : ByteArray := prog_1_method_16_code
def yX11_clear : MethodName := ⟨RX11, "clear", "()I"⟩
abbrev cX11_about : ByteArray := prog_1_method_17_code
def yX11_about : MethodName := ⟨RX11, "about", "(I)J"⟩
abbrev cX11_sum : ByteArray := prog_1_method_18_code
def yX11_sum : MethodName := ⟨RX11, "sum", "(I)J"⟩
abbrev cX11_orders : ByteArray := prog_1_method_19_code
def yX11_orders : MethodName := ⟨RX11, "orders", "(I)J"⟩
abbrev cX11_order : ByteArray := prog_1_method_20_code
def yX11_order : MethodName := ⟨RX11, "order", "(II)I"⟩
abbrev cX11_bounds : ByteArray := prog_1_method_21_code
def yX11_bounds : MethodName := ⟨RX11, "bounds", "(I)J"⟩
abbrev cX11_truth : ByteArray := prog_1_method_22_code
def yX11_truth : MethodName := ⟨RX11, "truth", "(I)J"⟩
abbrev cX11_fits : ByteArray := prog_1_method_23_code
def yX11_fits : MethodName := ⟨RX11, "fits", "(II)I"⟩
abbrev cX11_change : ByteArray := prog_1_method_24_code
def yX11_change : MethodName := ⟨RX11, "change", "(II)I"⟩
abbrev cX11_better : ByteArray := prog_1_method_25_code
def yX11_better : MethodName := ⟨RX11, "better", "(I)J"⟩
abbrev cX11_betterSign : ByteArray := prog_1_method_26_code
def yX11_betterSign : MethodName := ⟨RX11, "betterSign", "(II)I"⟩
abbrev cX11_image : ByteArray := prog_1_method_27_code
def yX11_image : MethodName := ⟨RX11, "image", "(I)I"⟩
abbrev cX11_restore : ByteArray := prog_1_method_28_code
def yX11_restore : MethodName := ⟨RX11, "restore", "(I)I"⟩
abbrev cX11_told : ByteArray := prog_1_method_29_code
def yX11_told : MethodName := ⟨RX11, "told", "(I)I"⟩
abbrev cX11_workNow : ByteArray := prog_1_method_30_code
def yX11_workNow : MethodName := ⟨RX11, "workNow", "()V"⟩
abbrev cX11_forgetFindings : ByteArray := prog_1_method_31_code
def yX11_forgetFindings : MethodName := ⟨RX11, "forgetFindings", "()V"⟩
abbrev cX11_isOperator : ByteArray := prog_1_method_32_code
def yX11_isOperator : MethodName := ⟨RX11, "isOperator", "(I)Z"⟩
abbrev cX11_isLetter : ByteArray := prog_1_method_33_code
def yX11_isLetter : MethodName := ⟨RX11, "isLetter", "(I)Z"⟩
abbrev cX11_isDigit : ByteArray := prog_1_method_34_code
def yX11_isDigit : MethodName := ⟨RX11, "isDigit", "(I)Z"⟩
abbrev cX11_numberOf : ByteArray := prog_1_method_35_code
def yX11_numberOf : MethodName := ⟨RX11, "numberOf", "(I[I)I"⟩
abbrev cX11_at : ByteArray := prog_1_method_36_code
def yX11_at : MethodName := ⟨RX11, "at", "([JI)J"⟩
def RX12 : String := "LostDigitsModel"
def TX12 : u_T := fun k => match k with
  | 0 => ("LostDigitsModel", "digits", "I", false)
  | 1 => ("LostDigitsModel", "way", "I", false)
  | 2 => ("LostDigitsModel", "short0", "J", false)
  | 3 => ("LostDigitsModel", "zeros", "I", false)
  | 4 => ("LostDigitsModel", "upper0", "J", false)
  | 5 => ("LostDigitsModel", "lower0", "J", false)
  | 6 => ("LostDigitsModel", "power0", "I", false)
  | 7 => ("LostDigitsModel", "pad", "[I", true)
  | 8 => ("LostDigitsModel", "padMany", "I", false)
  | 9 => ("LostDigitsModel", "text", "[I", true)
  | 10 => ("LostDigitsModel", "textMany", "I", false)
  | 11 => ("LostDigitsModel", "number", "[I", true)
  | 12 => ("LostDigitsModel", "span", "[I", true)
  | 13 => ("LostDigitsModel", "now", "[I", true)
  | 14 => ("LostDigitsModel", "nowMany", "I", false)
  | 15 => ("LostDigitsModel", "sizeOf", "[I", true)
  | 16 => ("LostDigitsModel", "workedTo", "[J", true)
  | 17 => ("LostDigitsModel", "slip", "[J", true)
  | 18 => ("LostDigitsModel", "exactUpper", "[J", true)
  | 19 => ("LostDigitsModel", "exactLower", "[J", true)
  | 20 => ("LostDigitsModel", "more", "[I", true)
  | 21 => ("LostDigitsModel", "terms", "[J", true)
  | 22 => ("LostDigitsModel", "termMany", "I", false)
  | 23 => ("LostDigitsModel", "order", "[I", true)
  | 24 => ("LostDigitsModel", "bestLoss", "J", false)
  | 25 => ("LostDigitsModel", "bestMany", "I", false)
  | 26 => ("LostDigitsModel", "bestOrder", "[I", true)
  | 27 => ("LostDigitsModel", "low", "[J", true)
  | 28 => ("LostDigitsModel", "high", "[J", true)
  | 29 => ("LostDigitsModel", "built", "[I", true)
  | 30 => ("LostDigitsModel", "builtMany", "I", false)
  | 31 => ("LostDigitsModel", "better", "[I", true)
  | 32 => ("LostDigitsModel", "betterMany", "I", false)
  | 33 => ("LostDigitsModel", "betterLoss", "J", false)
  | 34 => ("LostDigitsModel", "base", "[I", true)
  | 35 => ("LostDigitsModel", "baseMany", "I", false)
  | 36 => ("LostDigitsModel", "kept", "[J", true)
  | 37 => ("LostDigitsModel", "isKept", "[Z", true)
  | 38 => ("LostDigitsModel", "keptAt", "I", false)
  | _ => ("LostDigitsModel", "isWriting", "Z", false)
def tyX12 : Nat → FieldType := fun k => match k with
  | 0 => .int
  | 1 => .int
  | 2 => .long
  | 3 => .int
  | 4 => .long
  | 5 => .long
  | 6 => .int
  | 7 => .array .int
  | 8 => .int
  | 9 => .array .int
  | 10 => .int
  | 11 => .array .int
  | 12 => .array .int
  | 13 => .array .int
  | 14 => .int
  | 15 => .array .int
  | 16 => .array .long
  | 17 => .array .long
  | 18 => .array .long
  | 19 => .array .long
  | 20 => .array .int
  | 21 => .array .long
  | 22 => .int
  | 23 => .array .int
  | 24 => .long
  | 25 => .int
  | 26 => .array .int
  | 27 => .array .long
  | 28 => .array .long
  | 29 => .array .int
  | 30 => .int
  | 31 => .array .int
  | 32 => .int
  | 33 => .long
  | 34 => .array .int
  | 35 => .int
  | 36 => .array .long
  | 37 => .array .boolean
  | 38 => .int
  | _ => .boolean
abbrev wsX120 : List Cond := u_ws RX12 TX12 40
theorem nmX12 : ∀ a, a < 40 → ∀ b, b < 40 → a ≠ b → (TX12 a).2.1 ≠ (TX12 b).2.1 := by decide +kernel
theorem tyX12_ok : ∀ k, k < 40 → parseFieldDescriptor (TX12 k).2.2.1 = some (tyX12 k) := by decide +kernel
abbrev cX12_init : ByteArray := prog_14_method_1_code
def yX12_init : MethodName := ⟨RX12, "<init>", "()V"⟩
abbrev cX12_in : ByteArray := prog_14_method_3_code
def yX12_in : MethodName := ⟨RX12, "in", "(JJJ)Z"⟩
abbrev cX12_isEnd : ByteArray := prog_14_method_4_code
def yX12_isEnd : MethodName := ⟨RX12, "isEnd", "(I)Z"⟩
abbrev cX12_size : ByteArray := prog_14_method_5_code
def yX12_size : MethodName := ⟨RX12, "size", "(J)J"⟩
abbrev cX12_power : ByteArray := prog_14_method_6_code
def yX12_power : MethodName := ⟨RX12, "power", "(I)J"⟩
abbrev cX12_rounded : ByteArray := prog_14_method_7_code
def yX12_rounded : MethodName := ⟨RX12, "rounded", "(ZJJIIZ)J"⟩
abbrev cX12_roundOf : ByteArray := prog_14_method_8_code
def yX12_roundOf : MethodName := ⟨RX12, "roundOf", "(JIZ)J"⟩
abbrev cX12_shorten : ByteArray := prog_14_method_9_code
def yX12_shorten : MethodName := ⟨RX12, "shorten", "(J)V"⟩
abbrev cX12_layBoth : ByteArray := prog_14_method_10_code
def yX12_layBoth : MethodName := ⟨RX12, "layBoth", "(IJJ)V"⟩
abbrev cX12_made : ByteArray := prog_14_method_11_code
def yX12_made : MethodName := ⟨RX12, "made", "(IJJIZ)J"⟩
abbrev cX12_whole : ByteArray := prog_14_method_12_code
def yX12_whole : MethodName := ⟨RX12, "whole", "(IJJ)J"⟩
abbrev cX12_set : ByteArray := prog_14_method_13_code
def yX12_set : MethodName := ⟨RX12, "set", "(II)I"⟩
abbrev cX12_round : ByteArray := prog_14_method_14_code
def yX12_round : MethodName := ⟨RX12, "round", "(III)J"⟩
abbrev cX12_say : ByteArray := prog_14_method_15_code
def yX12_say : MethodName := ⟨RX12, "say", "(I)I"⟩
abbrev cX12_wipe : ByteArray := prog_14_method_16_code
def yX12_wipe : MethodName := ⟨RX12, "wipe", "()I"⟩
abbrev cX12_isSign : ByteArray := prog_14_method_17_code
def yX12_isSign : MethodName := ⟨RX12, "isSign", "(I)Z"⟩
abbrev cX12_isLetter : ByteArray := prog_14_method_18_code
def yX12_isLetter : MethodName := ⟨RX12, "isLetter", "(I)Z"⟩
abbrev cX12_isDigit : ByteArray := prog_14_method_19_code
def yX12_isDigit : MethodName := ⟨RX12, "isDigit", "(I)Z"⟩
abbrev cX12_fault : ByteArray := prog_14_method_20_code
def yX12_fault : MethodName := ⟨RX12, "fault", "()I"⟩
abbrev cX12_text : ByteArray := prog_14_method_21_code
def yX12_text : MethodName := ⟨RX12, "text", "()I"⟩
abbrev cX12_isStep : ByteArray := prog_14_method_22_code
def yX12_isStep : MethodName := ⟨RX12, "isStep", "(I)Z"⟩
abbrev cX12_sign : ByteArray := prog_14_method_23_code
def yX12_sign : MethodName := ⟨RX12, "sign", "(I)I"⟩
abbrev cX12_put : ByteArray := prog_14_method_24_code
def yX12_put : MethodName := ⟨RX12, "put", "(III)I"⟩
abbrev cX12_layText : ByteArray := prog_14_method_25_code
def yX12_layText : MethodName := ⟨RX12, "layText", "()V"⟩
abbrev cX12_findSizes : ByteArray := prog_14_method_26_code
def yX12_findSizes : MethodName := ⟨RX12, "findSizes", "()V"⟩
abbrev cX12_wholeAt : ByteArray := prog_14_method_27_code
def yX12_wholeAt : MethodName := ⟨RX12, "wholeAt", "(I)I"⟩
abbrev cX12_work : ByteArray := prog_14_method_28_code
def yX12_work : MethodName := ⟨RX12, "work", "()V"⟩
abbrev cX12_common : ByteArray := prog_14_method_29_code
def yX12_common : MethodName := ⟨RX12, "common", "(JJ)J"⟩
abbrev cX12_layExact : ByteArray := prog_14_method_30_code
def yX12_layExact : MethodName := ⟨RX12, "layExact", "(IJJ)V"⟩
abbrev cX12_workExact : ByteArray := prog_14_method_31_code
def yX12_workExact : MethodName := ⟨RX12, "workExact", "()V"⟩
abbrev cX12_billionths : ByteArray := prog_14_method_32_code
def yX12_billionths : MethodName := ⟨RX12, "billionths", "(II)J"⟩
abbrev cX12_less : ByteArray := prog_14_method_33_code
def yX12_less : MethodName := ⟨RX12, "less", "(JJ)J"⟩
abbrev cX12_worked : ByteArray := prog_14_method_34_code
def yX12_worked : MethodName := ⟨RX12, "worked", "(II)J"⟩
abbrev cX12_exact : ByteArray := prog_14_method_35_code
def yX12_exact : MethodName := ⟨RX12, "exact", "(I)J"⟩
abbrev cX12_lossNow : ByteArray := prog_14_method_36_code
def yX12_lossNow : MethodName := ⟨RX12, "lossNow", "()J"⟩
abbrev cX12_loss : ByteArray := prog_14_method_37_code
def yX12_loss : MethodName := ⟨RX12, "loss", "()J"⟩
abbrev cX12_worst : ByteArray := prog_14_method_38_code
def yX12_worst : MethodName := ⟨RX12, "worst", "()I"⟩
abbrev cX12_needs : ByteArray := prog_14_method_39_code
def yX12_needs : MethodName := ⟨RX12, "needs", "(J)I"⟩
abbrev cX12_term : ByteArray := prog_14_method_40_code
def yX12_term : MethodName := ⟨RX12, "term", "(J)I"⟩
abbrev cX12_clear : ByteArray := prog_14_method_41_code
def yX12_clear : MethodName := ⟨RX12, "clear", "()I"⟩
abbrev cX12_about : ByteArray := prog_14_method_42_code
def yX12_about : MethodName := ⟨RX12, "about", "(I)J"⟩
abbrev cX12_layOrder : ByteArray := prog_14_method_43_code
def yX12_layOrder : MethodName := ⟨RX12, "layOrder", "()V"⟩
abbrev cX12_sumOf : ByteArray := prog_14_method_44_code
def yX12_sumOf : MethodName := ⟨RX12, "sumOf", "(II)J"⟩
abbrev cX12_wholeSum : ByteArray := prog_14_method_45_code
def yX12_wholeSum : MethodName := ⟨RX12, "wholeSum", "()J"⟩
abbrev cX12_beside : ByteArray := prog_14_method_46_code
def yX12_beside : MethodName := ⟨RX12, "beside", "()J"⟩
abbrev cX12_halfOf : ByteArray := prog_14_method_47_code
def yX12_halfOf : MethodName := ⟨RX12, "halfOf", "(II)J"⟩
abbrev cX12_halves : ByteArray := prog_14_method_48_code
def yX12_halves : MethodName := ⟨RX12, "halves", "()J"⟩
abbrev cX12_orderBySize : ByteArray := prog_14_method_49_code
def yX12_orderBySize : MethodName := ⟨RX12, "orderBySize", "()V"⟩
abbrev cX12_sum : ByteArray := prog_14_method_50_code
def yX12_sum : MethodName := ⟨RX12, "sum", "(I)J"⟩
abbrev cX12_nextOrder : ByteArray := prog_14_method_51_code
def yX12_nextOrder : MethodName := ⟨RX12, "nextOrder", "()Z"⟩
abbrev cX12_isBetter : ByteArray := prog_14_method_52_code
def yX12_isBetter : MethodName := ⟨RX12, "isBetter", "(IJ)Z"⟩
abbrev cX12_findOrders : ByteArray := prog_14_method_53_code
def yX12_findOrders : MethodName := ⟨RX12, "findOrders", "(I)V"⟩
abbrev cX12_orders : ByteArray := prog_14_method_54_code
def yX12_orders : MethodName := ⟨RX12, "orders", "(I)J"⟩
abbrev cX12_order : ByteArray := prog_14_method_55_code
def yX12_order : MethodName := ⟨RX12, "order", "(II)I"⟩
abbrev cX12_layEnds : ByteArray := prog_14_method_56_code
def yX12_layEnds : MethodName := ⟨RX12, "layEnds", "(IJJ)V"⟩
abbrev cX12_ofPairs : ByteArray := prog_14_method_57_code
def yX12_ofPairs : MethodName := ⟨RX12, "ofPairs", "(IIII)J"⟩
abbrev cX12_findEnds : ByteArray := prog_14_method_58_code
def yX12_findEnds : MethodName := ⟨RX12, "findEnds", "()V"⟩
abbrev cX12_bounds : ByteArray := prog_14_method_59_code
def yX12_bounds : MethodName := ⟨RX12, "bounds", "(I)J"⟩
abbrev cX12_isIn : ByteArray := prog_14_method_60_code
def yX12_isIn : MethodName := ⟨RX12, "isIn", "(I)Z"⟩
abbrev cX12_nextNumbers : ByteArray := prog_14_method_61_code
def yX12_nextNumbers : MethodName := ⟨RX12, "nextNumbers", "()Z"⟩
abbrev cX12_truthOf : ByteArray := prog_14_method_62_code
def yX12_truthOf : MethodName := ⟨RX12, "truthOf", "(I)J"⟩
abbrev cX12_truth : ByteArray := prog_14_method_63_code
def yX12_truth : MethodName := ⟨RX12, "truth", "(I)J"⟩
abbrev cX12_add : ByteArray := prog_14_method_64_code
def yX12_add : MethodName := ⟨RX12, "add", "(I)V"⟩
abbrev cX12_addPart : ByteArray := prog_14_method_65_code
def yX12_addPart : MethodName := ⟨RX12, "addPart", "(I)V"⟩
abbrev cX12_isSame : ByteArray := prog_14_method_66_code
def yX12_isSame : MethodName := ⟨RX12, "isSame", "(II)Z"⟩
abbrev cX12_hasSigns : ByteArray := prog_14_method_67_code
def yX12_hasSigns : MethodName := ⟨RX12, "hasSigns", "(IIII)Z"⟩
abbrev cX12_build : ByteArray := prog_14_method_68_code
def yX12_build : MethodName := ⟨RX12, "build", "(II)Z"⟩
abbrev cX12_buildPart : ByteArray := prog_14_method_69_code
def yX12_buildPart : MethodName := ⟨RX12, "buildPart", "(IIII)V"⟩
abbrev cX12_isRule : ByteArray := prog_14_method_70_code
def yX12_isRule : MethodName := ⟨RX12, "isRule", "(I)Z"⟩
abbrev cX12_fits : ByteArray := prog_14_method_71_code
def yX12_fits : MethodName := ⟨RX12, "fits", "(II)I"⟩
abbrev cX12_change : ByteArray := prog_14_method_72_code
def yX12_change : MethodName := ⟨RX12, "change", "(II)I"⟩
abbrev cX12_hold : ByteArray := prog_14_method_73_code
def yX12_hold : MethodName := ⟨RX12, "hold", "()V"⟩
abbrev cX12_layBuilt : ByteArray := prog_14_method_74_code
def yX12_layBuilt : MethodName := ⟨RX12, "layBuilt", "()V"⟩
abbrev cX12_layBase : ByteArray := prog_14_method_75_code
def yX12_layBase : MethodName := ⟨RX12, "layBase", "()V"⟩
abbrev cX12_keepBase : ByteArray := prog_14_method_76_code
def yX12_keepBase : MethodName := ⟨RX12, "keepBase", "()V"⟩
abbrev cX12_holdAll : ByteArray := prog_14_method_77_code
def yX12_holdAll : MethodName := ⟨RX12, "holdAll", "()V"⟩
abbrev cX12_findBetter : ByteArray := prog_14_method_78_code
def yX12_findBetter : MethodName := ⟨RX12, "findBetter", "(I)V"⟩
abbrev cX12_better : ByteArray := prog_14_method_79_code
def yX12_better : MethodName := ⟨RX12, "better", "(I)J"⟩
abbrev cX12_betterSign : ByteArray := prog_14_method_80_code
def yX12_betterSign : MethodName := ⟨RX12, "betterSign", "(II)I"⟩
abbrev cX12_pass : ByteArray := prog_14_method_81_code
def yX12_pass : MethodName := ⟨RX12, "pass", "(J)J"⟩
abbrev cX12_passAll : ByteArray := prog_14_method_82_code
def yX12_passAll : MethodName := ⟨RX12, "passAll", "()V"⟩
abbrev cX12_image : ByteArray := prog_14_method_83_code
def yX12_image : MethodName := ⟨RX12, "image", "(I)I"⟩
abbrev cX12_restore : ByteArray := prog_14_method_84_code
def yX12_restore : MethodName := ⟨RX12, "restore", "(I)I"⟩
abbrev cX12_told : ByteArray := prog_14_method_85_code
def yX12_told : MethodName := ⟨RX12, "told", "(I)I"⟩
def RJ9 : String := "java/lang/Math"
def TJ9 : u_T := fun k => match k with
  | _ => ("", "", "", false)
def tyJ9 : Nat → FieldType := fun k => match k with
  | _ => .int
abbrev wsJ90 : List Cond := u_ws RJ9 TJ9 0
theorem nmJ9 : ∀ a, a < 0 → ∀ b, b < 0 → a ≠ b → (TJ9 a).2.1 ≠ (TJ9 b).2.1 := by decide +kernel
theorem tyJ9_ok : ∀ k, k < 0 → parseFieldDescriptor (TJ9 k).2.2.1 = some (tyJ9 k) := by decide +kernel
abbrev cJ9_abs_067f4 : ByteArray := prog_15_method_61_code
def yJ9_abs_067f4 : MethodName := ⟨RJ9, "abs", "(J)J"⟩
abbrev cJ9_max_7cf53 : ByteArray := prog_15_method_65_code
def yJ9_max_7cf53 : MethodName := ⟨RJ9, "max", "(II)I"⟩
abbrev cJ9_max_f86c9 : ByteArray := prog_15_method_66_code
def yJ9_max_f86c9 : MethodName := ⟨RJ9, "max", "(JJ)J"⟩
abbrev cJ9_min_7cf53 : ByteArray := prog_15_method_69_code
def yJ9_min_7cf53 : MethodName := ⟨RJ9, "min", "(II)I"⟩
abbrev cJ9_min_f86c9 : ByteArray := prog_15_method_70_code
def yJ9_min_f86c9 : MethodName := ⟨RJ9, "min", "(JJ)J"⟩
def RJ10 : String := "java/lang/System"
def TJ10 : u_T := fun k => match k with
  | _ => ("", "", "", false)
def tyJ10 : Nat → FieldType := fun k => match k with
  | _ => .int
abbrev wsJ100 : List Cond := u_ws RJ10 TJ10 0
theorem nmJ10 : ∀ a, a < 0 → ∀ b, b < 0 → a ≠ b → (TJ10 a).2.1 ≠ (TJ10 b).2.1 := by decide +kernel
theorem tyJ10_ok : ∀ k, k < 0 → parseFieldDescriptor (TJ10 k).2.2.1 = some (tyJ10 k) := by decide +kernel
def RL : String := "LostDigitsLaw"
abbrev cL_law : ByteArray := code
def yL_law : MethodName := ⟨RL, "law", "([I)Z"⟩
abbrev f_cl : List vw_C := [(RX0, TX0, 2), (RX1, TX1, 7), (RX2, TX2, 8), (RX3, TX3, 3), (RX4, TX4, 3), (RX6, TX6, 6), (RX7, TX7, 11), (RX8, TX8, 5), (RX9, TX9, 5), (RX10, TX10, 4), (RX11, TX11, 12), (RX12, TX12, 40)]
/-- the words that last through calls -/
def f_tbl : List Cond := lw_tbl.filter goodWord
theorem f_tbl_lw {w : Cond} (h : w ∈ f_tbl) : w ∈ lw_tbl := (List.mem_filter.mp h).1
theorem f_tbl_ok {w : Cond} (h : w ∈ f_tbl) : (w.onTables && w.keeps) = true ∨ ∃ ty, w = .arrayClass ty := good_of_word (List.mem_filter.mp h).2
theorem f_t {w : Cond} (i : Nat) (h : tables_1[i]? = some w) (hg : goodWord w = true) : w ∈ f_tbl := List.mem_filter.mpr ⟨List.mem_append_right _ (List.mem_of_getElem? h), hg⟩
theorem f_p {w : Cond} (i : Nat) (h : (k2_sels lw_privs)[i]? = some w) (hg : goodWord w = true) : w ∈ f_tbl := List.mem_filter.mpr ⟨List.mem_append_left _ (List.mem_of_getElem? h), hg⟩
theorem f_ins {ws : List Cond} (ps : List Nat) (h : ws = ps.filterMap (fun i => tables_1[i]?)) (hg : ws.all goodWord = true) : ∀ w ∈ ws, w ∈ f_tbl := by
  intro w hw
  have hg1 := List.all_eq_true.mp hg w hw
  rw [h] at hw
  obtain ⟨i, -, hi⟩ := List.mem_filterMap.mp hw
  exact f_t i hi hg1
theorem inX0 : ∀ w ∈ u_ws RX0 TX0 2, w ∈ f_tbl := f_ins [175, 177] (by decide +kernel) (by decide +kernel)
theorem inX1 : ∀ w ∈ u_ws RX1 TX1 7, w ∈ f_tbl := f_ins [254, 256, 258, 260, 262, 264, 266] (by decide +kernel) (by decide +kernel)
theorem inX2 : ∀ w ∈ u_ws RX2 TX2 8, w ∈ f_tbl := f_ins [107, 109, 111, 113, 115, 117, 119, 121] (by decide +kernel) (by decide +kernel)
theorem inX3 : ∀ w ∈ u_ws RX3 TX3 3, w ∈ f_tbl := f_ins [137, 139, 141] (by decide +kernel) (by decide +kernel)
theorem inX4 : ∀ w ∈ u_ws RX4 TX4 3, w ∈ f_tbl := f_ins [154, 156, 158] (by decide +kernel) (by decide +kernel)
theorem inX6 : ∀ w ∈ u_ws RX6 TX6 6, w ∈ f_tbl := f_ins [342, 344, 346, 348, 350, 352] (by decide +kernel) (by decide +kernel)
theorem inX7 : ∀ w ∈ u_ws RX7 TX7 11, w ∈ f_tbl := f_ins [298, 300, 302, 304, 306, 308, 310, 312, 314, 316, 318] (by decide +kernel) (by decide +kernel)
theorem inX8 : ∀ w ∈ u_ws RX8 TX8 5, w ∈ f_tbl := f_ins [194, 196, 198, 200, 202] (by decide +kernel) (by decide +kernel)
theorem inX9 : ∀ w ∈ u_ws RX9 TX9 5, w ∈ f_tbl := f_ins [222, 224, 226, 228, 230] (by decide +kernel) (by decide +kernel)
theorem inX10 : ∀ w ∈ u_ws RX10 TX10 4, w ∈ f_tbl := f_ins [69, 71, 73, 75] (by decide +kernel) (by decide +kernel)
theorem inX11 : ∀ w ∈ u_ws RX11 TX11 12, w ∈ f_tbl := f_ins [367, 369, 371, 373, 375, 377, 379, 381, 383, 385, 387, 389] (by decide +kernel) (by decide +kernel)
theorem inX12 : ∀ w ∈ u_ws RX12 TX12 40, w ∈ f_tbl := f_ins [883, 885, 887, 889, 891, 893, 895, 897, 899, 901, 903, 905, 907, 909, 911, 913, 915, 917, 919, 921, 923, 925, 927, 929, 931, 933, 935, 937, 939, 941, 943, 945, 947, 949, 951, 953, 955, 957, 959, 961] (by decide +kernel) (by decide +kernel)

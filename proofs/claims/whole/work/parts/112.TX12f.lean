-- LostDigitsModel.build
theorem dX12_build_0 : decode cX12_build 0 = .ok (.aload_n 0, 1) := by decide +kernel
theorem dX12_build_1 : decode cX12_build 1 = .ok (.invokevirtual 195, 3) := by decide +kernel
theorem dX12_build_4 : decode cX12_build 4 = .ok (.aload_n 0, 1) := by decide +kernel
theorem dX12_build_5 : decode cX12_build 5 = .ok (.getfield 22, 3) := by decide +kernel
theorem dX12_build_8 : decode cX12_build 8 = .ok (.iload_n 2, 1) := by decide +kernel
theorem dX12_build_9 : decode cX12_build 9 = .ok (.iaload, 1) := by decide +kernel
theorem dX12_build_10 : decode cX12_build 10 = .ok (.istore_n 3, 1) := by decide +kernel
theorem dX12_build_11 : decode cX12_build 11 = .ok (.iload_n 3, 1) := by decide +kernel
theorem dX12_build_12 : decode cX12_build 12 = .ok (.invokestatic 170, 3) := by decide +kernel
theorem dX12_build_15 : decode cX12_build 15 = .ok (.ifCond .ne 5, 3) := by decide +kernel
theorem dX12_build_18 : decode cX12_build 18 = .ok (.iconst 0, 1) := by decide +kernel
theorem dX12_build_19 : decode cX12_build 19 = .ok (.ireturn, 1) := by decide +kernel
theorem dX12_build_20 : decode cX12_build 20 = .ok (.iload_n 2, 1) := by decide +kernel
theorem dX12_build_21 : decode cX12_build 21 = .ok (.iconst 1, 1) := by decide +kernel
theorem dX12_build_22 : decode cX12_build 22 = .ok (.iadd, 1) := by decide +kernel
theorem dX12_build_23 : decode cX12_build 23 = .ok (.istore 4, 2) := by decide +kernel
theorem dX12_build_25 : decode cX12_build 25 = .ok (.iload 4, 2) := by decide +kernel
theorem dX12_build_27 : decode cX12_build 27 = .ok (.aload_n 0, 1) := by decide +kernel
theorem dX12_build_28 : decode cX12_build 28 = .ok (.getfield 25, 3) := by decide +kernel
theorem dX12_build_31 : decode cX12_build 31 = .ok (.iload 4, 2) := by decide +kernel
theorem dX12_build_33 : decode cX12_build 33 = .ok (.iaload, 1) := by decide +kernel
theorem dX12_build_34 : decode cX12_build 34 = .ok (.iadd, 1) := by decide +kernel
theorem dX12_build_35 : decode cX12_build 35 = .ok (.istore 5, 2) := by decide +kernel
theorem dX12_build_37 : decode cX12_build 37 = .ok (.aload_n 0, 1) := by decide +kernel
theorem dX12_build_38 : decode cX12_build 38 = .ok (.iload_n 1, 1) := by decide +kernel
theorem dX12_build_39 : decode cX12_build 39 = .ok (.iload_n 3, 1) := by decide +kernel
theorem dX12_build_40 : decode cX12_build 40 = .ok (.iload 4, 2) := by decide +kernel
theorem dX12_build_42 : decode cX12_build 42 = .ok (.iload 5, 2) := by decide +kernel
theorem dX12_build_44 : decode cX12_build 44 = .ok (.invokevirtual 320, 3) := by decide +kernel
theorem dX12_build_47 : decode cX12_build 47 = .ok (.ifCond .ne 5, 3) := by decide +kernel
theorem dX12_build_50 : decode cX12_build 50 = .ok (.iconst 0, 1) := by decide +kernel
theorem dX12_build_51 : decode cX12_build 51 = .ok (.ireturn, 1) := by decide +kernel
theorem dX12_build_52 : decode cX12_build 52 = .ok (.aload_n 0, 1) := by decide +kernel
theorem dX12_build_53 : decode cX12_build 53 = .ok (.iconst 0, 1) := by decide +kernel
theorem dX12_build_54 : decode cX12_build 54 = .ok (.putfield 310, 3) := by decide +kernel
theorem dX12_build_57 : decode cX12_build 57 = .ok (.iconst 0, 1) := by decide +kernel
theorem dX12_build_58 : decode cX12_build 58 = .ok (.istore 6, 2) := by decide +kernel
theorem dX12_build_60 : decode cX12_build 60 = .ok (.iload 6, 2) := by decide +kernel
theorem dX12_build_62 : decode cX12_build 62 = .ok (.iload_n 2, 1) := by decide +kernel
theorem dX12_build_63 : decode cX12_build 63 = .ok (.if_icmp .ge 20, 3) := by decide +kernel
theorem dX12_build_66 : decode cX12_build 66 = .ok (.aload_n 0, 1) := by decide +kernel
theorem dX12_build_67 : decode cX12_build 67 = .ok (.aload_n 0, 1) := by decide +kernel
theorem dX12_build_68 : decode cX12_build 68 = .ok (.getfield 22, 3) := by decide +kernel
theorem dX12_build_71 : decode cX12_build 71 = .ok (.iload 6, 2) := by decide +kernel
theorem dX12_build_73 : decode cX12_build 73 = .ok (.iaload, 1) := by decide +kernel
theorem dX12_build_74 : decode cX12_build 74 = .ok (.invokevirtual 313, 3) := by decide +kernel
theorem dX12_build_77 : decode cX12_build 77 = .ok (.iinc 6 1, 3) := by decide +kernel
theorem dX12_build_80 : decode cX12_build 80 = .ok (.goto (-20), 3) := by decide +kernel
theorem dX12_build_83 : decode cX12_build 83 = .ok (.aload_n 0, 1) := by decide +kernel
theorem dX12_build_84 : decode cX12_build 84 = .ok (.iload_n 1, 1) := by decide +kernel
theorem dX12_build_85 : decode cX12_build 85 = .ok (.iload_n 3, 1) := by decide +kernel
theorem dX12_build_86 : decode cX12_build 86 = .ok (.iload 4, 2) := by decide +kernel
theorem dX12_build_88 : decode cX12_build 88 = .ok (.iload 5, 2) := by decide +kernel
theorem dX12_build_90 : decode cX12_build 90 = .ok (.invokevirtual 324, 3) := by decide +kernel
theorem dX12_build_93 : decode cX12_build 93 = .ok (.iload_n 2, 1) := by decide +kernel
theorem dX12_build_94 : decode cX12_build 94 = .ok (.aload_n 0, 1) := by decide +kernel
theorem dX12_build_95 : decode cX12_build 95 = .ok (.getfield 25, 3) := by decide +kernel
theorem dX12_build_98 : decode cX12_build 98 = .ok (.iload_n 2, 1) := by decide +kernel
theorem dX12_build_99 : decode cX12_build 99 = .ok (.iaload, 1) := by decide +kernel
theorem dX12_build_100 : decode cX12_build 100 = .ok (.iadd, 1) := by decide +kernel
theorem dX12_build_101 : decode cX12_build 101 = .ok (.istore 6, 2) := by decide +kernel
theorem dX12_build_103 : decode cX12_build 103 = .ok (.iload 6, 2) := by decide +kernel
theorem dX12_build_105 : decode cX12_build 105 = .ok (.aload_n 0, 1) := by decide +kernel
theorem dX12_build_106 : decode cX12_build 106 = .ok (.getfield 192, 3) := by decide +kernel
theorem dX12_build_109 : decode cX12_build 109 = .ok (.if_icmp .ge 20, 3) := by decide +kernel
theorem dX12_build_112 : decode cX12_build 112 = .ok (.aload_n 0, 1) := by decide +kernel
theorem dX12_build_113 : decode cX12_build 113 = .ok (.aload_n 0, 1) := by decide +kernel
theorem dX12_build_114 : decode cX12_build 114 = .ok (.getfield 22, 3) := by decide +kernel
theorem dX12_build_117 : decode cX12_build 117 = .ok (.iload 6, 2) := by decide +kernel
theorem dX12_build_119 : decode cX12_build 119 = .ok (.iaload, 1) := by decide +kernel
theorem dX12_build_120 : decode cX12_build 120 = .ok (.invokevirtual 313, 3) := by decide +kernel
theorem dX12_build_123 : decode cX12_build 123 = .ok (.iinc 6 1, 3) := by decide +kernel
theorem dX12_build_126 : decode cX12_build 126 = .ok (.goto (-23), 3) := by decide +kernel
theorem dX12_build_129 : decode cX12_build 129 = .ok (.aload_n 0, 1) := by decide +kernel
theorem dX12_build_130 : decode cX12_build 130 = .ok (.getfield 310, 3) := by decide +kernel
theorem dX12_build_133 : decode cX12_build 133 = .ok (.bipush 13, 2) := by decide +kernel
theorem dX12_build_135 : decode cX12_build 135 = .ok (.if_icmp .gt 7, 3) := by decide +kernel
theorem dX12_build_138 : decode cX12_build 138 = .ok (.iconst 1, 1) := by decide +kernel
theorem dX12_build_139 : decode cX12_build 139 = .ok (.goto 4, 3) := by decide +kernel
theorem dX12_build_142 : decode cX12_build 142 = .ok (.iconst 0, 1) := by decide +kernel
theorem dX12_build_143 : decode cX12_build 143 = .ok (.ireturn, 1) := by decide +kernel
set_option maxRecDepth 10000 in
theorem NX12_build_0 {d : Nat} {S : fW} {h : fH} {Q : Int32 → fH → Prop} {r0 : Nat} {x1 : Int32} {x2 : Int32} {r0_pad r0_text r0_number r0_span r0_now r0_sizeOf r0_workedTo r0_slip r0_exactUpper r0_exactLower r0_more r0_terms r0_order r0_bestOrder r0_low r0_high r0_built r0_better r0_base r0_kept r0_isKept : Nat}  
    (hs1 : (r0, shX12 r0_pad r0_text r0_number r0_span r0_now r0_sizeOf r0_workedTo r0_slip r0_exactUpper r0_exactLower r0_more r0_terms r0_order r0_bestOrder r0_low r0_high r0_built r0_better r0_base r0_kept r0_isKept) ∈ S)
    (hs2 : (r0_now, shI 13) ∈ S)
    (hs3 : (r0_sizeOf, shI 13) ∈ S)
    (w : ∃ Q1 : fH → Prop, OkV d mX12_findSizes S [.ref r0] h Q1 ∧ ∀ (h_1 : fH), Q1 h_1 → vp_in x2 13 ∧ ∃ Q2 : Int32 → fH → Prop, OkI d mX12_isSign S [.int (h_1.2.2.1 r0_now x2.toNatClampNeg)] h_1 Q2 ∧ ∀ (v_2 : Int32) (h_2 : fH), Q2 v_2 h_2 → ((¬ v_2 = 0 → vp_in (x2 + (1 : Int32)) 13 ∧ ∃ Q3 : Int32 → fH → Prop, OkI d mX12_hasSigns S [.ref r0, .int x1, .int (h_1.2.2.1 r0_now x2.toNatClampNeg), .int (x2 + (1 : Int32)), .int ((x2 + (1 : Int32)) + (h_2.2.2.1 r0_sizeOf (x2 + (1 : Int32)).toNatClampNeg))] h_2 Q3 ∧ ∀ (v_3 : Int32) (h_3 : fH), Q3 v_3 h_3 → ((¬ v_3 = 0 → ∀ g_1 : fH, g_1 = u_fi h_3 r0 30 (0 : Int32) → G mX12_build (d + 1) S (f_PI Q) 60 [(0, .ref r0), (1, .int x1), (2, .int x2), (3, .int (h_1.2.2.1 r0_now x2.toNatClampNeg)), (4, .int (x2 + (1 : Int32))), (5, .int ((x2 + (1 : Int32)) + (h_2.2.2.1 r0_sizeOf (x2 + (1 : Int32)).toNatClampNeg))), (6, .int (0 : Int32))] [] g_1) ∧ (v_3 = 0 → Q (0 : Int32) h_3))) ∧ (v_2 = 0 → Q (0 : Int32) h_2))) :
    OkI (d + 1) mX12_build S [.ref r0, .int x1, .int x2] h Q := by
  refine Ok.of (by decide) (Nat.le_of_ble_eq_true rfl) ?_
  refine G_aload_n 0 rfl dX12_build_0 rfl ?_
  obtain ⟨Q1, ok1, w⟩ := w
  refine G_callV (Z := mX12_findSizes) (As := []) (st := []) hL_X12_195 hI_X12_findSizes hS_X12_findSizes hC_X12_findSizes hN_X12 nX12_findSizes (by decide) hs1 rfl rfl rfl (Nat.le_of_ble_eq_true rfl) dX12_build_1 ok1 (fun r_ h_1 z_ => ?_)
  obtain ⟨rfl, q_1⟩ := z_
  have w := w h_1 q_1
  refine G_aload_n 0 rfl dX12_build_4 rfl ?_
  refine G_getr (j := r0_now) (k := 13) hs1 (q := (RX12, TX12, 40)) rfl inX12 (by decide) rfl hF_X12_22 dX12_build_5 ?_
  refine G_iload_n 2 rfl dX12_build_8 rfl ?_
  obtain ⟨sd1, w⟩ := w
  refine G_iald hs2 sd1 dX12_build_9 ?_
  refine G_istore_n dX12_build_10 rfl (by decide) (lv' := [(3, .int (h_1.2.2.1 r0_now x2.toNatClampNeg)), (0, .ref r0), (1, .int x1), (2, .int x2)]) rfl ?_
  refine G_iload_n 0 rfl dX12_build_11 rfl ?_
  obtain ⟨Q2, ok2, w⟩ := w
  refine G_callS (Z := mX12_isSign) (As := [.int (h_1.2.2.1 r0_now x2.toNatClampNeg)]) (st := []) hL_X12_170 hT_X12_isSign hC_X12_isSign hN_X12 nX12_isSign (by decide) rfl (Nat.le_of_ble_eq_true rfl) dX12_build_12 ok2 (fun r_ h_2 z_ => ?_)
  obtain ⟨v_2, rfl, q_2⟩ := z_
  have w := w v_2 h_2 q_2
  refine G_if_ne (tgt := 20) dX12_build_15 (by decide) (fun c1 => ?_) (fun c1 => ?_)
  · have w := w.1 c1
    refine G_iload_n 3 rfl dX12_build_20 rfl ?_
    refine G_iconst (v := 1) dX12_build_21 (by decide) ?_
    refine G_iadd dX12_build_22 ?_
    refine G_istore dX12_build_23 (by decide) (lv' := [(4, .int (x2 + (1 : Int32))), (3, .int (h_1.2.2.1 r0_now x2.toNatClampNeg)), (0, .ref r0), (1, .int x1), (2, .int x2)]) rfl ?_
    refine G_iload 0 rfl dX12_build_25 ?_
    refine G_aload_n 2 rfl dX12_build_27 rfl ?_
    refine G_getr (j := r0_sizeOf) (k := 15) hs1 (q := (RX12, TX12, 40)) rfl inX12 (by decide) rfl hF_X12_25 dX12_build_28 ?_
    refine G_iload 0 rfl dX12_build_31 ?_
    obtain ⟨sd2, w⟩ := w
    refine G_iald hs3 sd2 dX12_build_33 ?_
    refine G_iadd dX12_build_34 ?_
    refine G_istore dX12_build_35 (by decide) (lv' := [(5, .int ((x2 + (1 : Int32)) + (h_2.2.2.1 r0_sizeOf (x2 + (1 : Int32)).toNatClampNeg))), (4, .int (x2 + (1 : Int32))), (3, .int (h_1.2.2.1 r0_now x2.toNatClampNeg)), (0, .ref r0), (1, .int x1), (2, .int x2)]) rfl ?_
    refine G_aload_n 3 rfl dX12_build_37 rfl ?_
    refine G_iload_n 4 rfl dX12_build_38 rfl ?_
    refine G_iload_n 2 rfl dX12_build_39 rfl ?_
    refine G_iload 1 rfl dX12_build_40 ?_
    refine G_iload 0 rfl dX12_build_42 ?_
    obtain ⟨Q3, ok3, w⟩ := w
    refine G_callV (Z := mX12_hasSigns) (As := [.int x1, .int (h_1.2.2.1 r0_now x2.toNatClampNeg), .int (x2 + (1 : Int32)), .int ((x2 + (1 : Int32)) + (h_2.2.2.1 r0_sizeOf (x2 + (1 : Int32)).toNatClampNeg))]) (st := []) hL_X12_320 hI_X12_hasSigns hS_X12_hasSigns hC_X12_hasSigns hN_X12 nX12_hasSigns (by decide) hs1 rfl rfl rfl (Nat.le_of_ble_eq_true rfl) dX12_build_44 ok3 (fun r_ h_3 z_ => ?_)
    obtain ⟨v_3, rfl, q_3⟩ := z_
    have w := w v_3 h_3 q_3
    refine G_if_ne (tgt := 52) dX12_build_47 (by decide) (fun c2 => ?_) (fun c2 => ?_)
    · have w := w.1 c2
      refine G_aload_n 3 rfl dX12_build_52 rfl ?_
      refine G_iconst (v := 0) dX12_build_53 (by decide) ?_
      refine G_puti (k := 30) tyX12 hs1 (q := (RX12, TX12, 40)) rfl inX12 tyX12_ok nmX12 (by decide) rfl rfl rfl hF_X12_310 dX12_build_54 ?_
      refine G_nm (fun g_1 e_1 => ?_)
      have w := w g_1 e_1
      refine G_iconst (v := 0) dX12_build_57 (by decide) ?_
      refine G_istore dX12_build_58 (by decide) (lv' := [(6, .int (0 : Int32)), (5, .int ((x2 + (1 : Int32)) + (h_2.2.2.1 r0_sizeOf (x2 + (1 : Int32)).toNatClampNeg))), (4, .int (x2 + (1 : Int32))), (3, .int (h_1.2.2.1 r0_now x2.toNatClampNeg)), (0, .ref r0), (1, .int x1), (2, .int x2)]) rfl ?_
      exact G_sub [4, 5, 6, 3, 2, 1, 0] rfl w
    · have w := w.2 c2
      refine G_iconst (v := 0) dX12_build_50 (by decide) ?_
      exact G_zret rfl (Or.inl rfl) dX12_build_51 ⟨_, rfl, w⟩
  · have w := w.2 c1
    refine G_iconst (v := 0) dX12_build_18 (by decide) ?_
    exact G_zret rfl (Or.inl rfl) dX12_build_19 ⟨_, rfl, w⟩

set_option maxRecDepth 10000 in
theorem NX12_build_60 {d : Nat} {S : fW} {h : fH} {Q : Int32 → fH → Prop} {r0 : Nat} {x1 : Int32} {x2 : Int32} {x3 : Int32} {x4 : Int32} {x5 : Int32} {x6 : Int32} {r0_pad r0_text r0_number r0_span r0_now r0_sizeOf r0_workedTo r0_slip r0_exactUpper r0_exactLower r0_more r0_terms r0_order r0_bestOrder r0_low r0_high r0_built r0_better r0_base r0_kept r0_isKept : Nat}  
    (hs1 : (r0, shX12 r0_pad r0_text r0_number r0_span r0_now r0_sizeOf r0_workedTo r0_slip r0_exactUpper r0_exactLower r0_more r0_terms r0_order r0_bestOrder r0_low r0_high r0_built r0_better r0_base r0_kept r0_isKept) ∈ S)
    (hs2 : (r0_sizeOf, shI 13) ∈ S)
    (hs3 : (r0_now, shI 13) ∈ S)
    (w : ((x2 ≤ x6 → ∃ Q1 : fH → Prop, OkV d mX12_buildPart S [.ref r0, .int x1, .int x3, .int x4, .int x5] h Q1 ∧ ∀ (h_1 : fH), Q1 h_1 → vp_in x2 13 ∧ G mX12_build (d + 1) S (f_PI Q) 103 [(0, .ref r0), (6, .int (x2 + (h_1.2.2.1 r0_sizeOf x2.toNatClampNeg)))] [] h_1) ∧ (¬ x2 ≤ x6 → vp_in x6 13 ∧ ∃ Q2 : fH → Prop, OkV d mX12_add S [.ref r0, .int (h.2.2.1 r0_now x6.toNatClampNeg)] h Q2 ∧ ∀ (h_2 : fH), Q2 h_2 → G mX12_build (d + 1) S (f_PI Q) 60 [(0, .ref r0), (1, .int x1), (2, .int x2), (3, .int x3), (4, .int x4), (5, .int x5), (6, .int (x6 + 1))] [] h_2))) :
    G mX12_build (d + 1) S (f_PI Q) 60 [(0, .ref r0), (1, .int x1), (2, .int x2), (3, .int x3), (4, .int x4), (5, .int x5), (6, .int x6)] [] h := by
  refine G_iload 6 rfl dX12_build_60 ?_
  refine G_iload_n 2 rfl dX12_build_62 rfl ?_
  refine G_icmp_ge (tgt := 83) dX12_build_63 (by decide) (fun c1 => ?_) (fun c1 => ?_)
  · have w := w.1 c1
    refine G_aload_n 0 rfl dX12_build_83 rfl ?_
    refine G_iload_n 1 rfl dX12_build_84 rfl ?_
    refine G_iload_n 3 rfl dX12_build_85 rfl ?_
    refine G_iload 4 rfl dX12_build_86 ?_
    refine G_iload 5 rfl dX12_build_88 ?_
    obtain ⟨Q1, ok1, w⟩ := w
    refine G_callV (Z := mX12_buildPart) (As := [.int x1, .int x3, .int x4, .int x5]) (st := []) hL_X12_324 hI_X12_buildPart hS_X12_buildPart hC_X12_buildPart hN_X12 nX12_buildPart (by decide) hs1 rfl rfl rfl (Nat.le_of_ble_eq_true rfl) dX12_build_90 ok1 (fun r_ h_1 z_ => ?_)
    obtain ⟨rfl, q_1⟩ := z_
    have w := w h_1 q_1
    refine G_iload_n 2 rfl dX12_build_93 rfl ?_
    refine G_aload_n 0 rfl dX12_build_94 rfl ?_
    refine G_getr (j := r0_sizeOf) (k := 15) hs1 (q := (RX12, TX12, 40)) rfl inX12 (by decide) rfl hF_X12_25 dX12_build_95 ?_
    refine G_iload_n 2 rfl dX12_build_98 rfl ?_
    obtain ⟨sd1, w⟩ := w
    refine G_iald hs2 sd1 dX12_build_99 ?_
    refine G_iadd dX12_build_100 ?_
    refine G_istore dX12_build_101 (by decide) (lv' := [(6, .int (x2 + (h_1.2.2.1 r0_sizeOf x2.toNatClampNeg))), (0, .ref r0), (1, .int x1), (2, .int x2), (3, .int x3), (4, .int x4), (5, .int x5)]) rfl ?_
    exact G_sub [1, 0] rfl w
  · have w := w.2 c1
    refine G_aload_n 0 rfl dX12_build_66 rfl ?_
    refine G_aload_n 0 rfl dX12_build_67 rfl ?_
    refine G_getr (j := r0_now) (k := 13) hs1 (q := (RX12, TX12, 40)) rfl inX12 (by decide) rfl hF_X12_22 dX12_build_68 ?_
    refine G_iload 6 rfl dX12_build_71 ?_
    obtain ⟨sd1, w⟩ := w
    refine G_iald hs3 sd1 dX12_build_73 ?_
    obtain ⟨Q2, ok2, w⟩ := w
    refine G_callV (Z := mX12_add) (As := [.int (h.2.2.1 r0_now x6.toNatClampNeg)]) (st := []) hL_X12_313 hI_X12_add hS_X12_add hC_X12_add hN_X12 nX12_add (by decide) hs1 rfl rfl rfl (Nat.le_of_ble_eq_true rfl) dX12_build_74 ok2 (fun r_ h_2 z_ => ?_)
    obtain ⟨rfl, q_2⟩ := z_
    have w := w h_2 q_2
    refine G_iinc (v := 1) 6 rfl dX12_build_77 (by decide) (by decide) (lv' := [(6, .int (x6 + 1)), (0, .ref r0), (1, .int x1), (2, .int x2), (3, .int x3), (4, .int x4), (5, .int x5)]) rfl ?_
    refine G_goto (tgt := 60) dX12_build_80 (by decide) ?_
    exact G_sub [1, 2, 3, 4, 5, 6, 0] rfl w

set_option maxRecDepth 10000 in
theorem NX12_build_103 {d : Nat} {S : fW} {h : fH} {Q : Int32 → fH → Prop} {r0 : Nat} {x6 : Int32} {r0_pad r0_text r0_number r0_span r0_now r0_sizeOf r0_workedTo r0_slip r0_exactUpper r0_exactLower r0_more r0_terms r0_order r0_bestOrder r0_low r0_high r0_built r0_better r0_base r0_kept r0_isKept : Nat}  
    (hs1 : (r0, shX12 r0_pad r0_text r0_number r0_span r0_now r0_sizeOf r0_workedTo r0_slip r0_exactUpper r0_exactLower r0_more r0_terms r0_order r0_bestOrder r0_low r0_high r0_built r0_better r0_base r0_kept r0_isKept) ∈ S)
    (hs2 : (r0_now, shI 13) ∈ S)
    (w : (((h.1 r0 14) ≤ x6 → (((13 : Int32) < (h.1 r0 30) → Q (0 : Int32) h) ∧ (¬ (13 : Int32) < (h.1 r0 30) → Q (1 : Int32) h))) ∧ (¬ (h.1 r0 14) ≤ x6 → vp_in x6 13 ∧ ∃ Q1 : fH → Prop, OkV d mX12_add S [.ref r0, .int (h.2.2.1 r0_now x6.toNatClampNeg)] h Q1 ∧ ∀ (h_1 : fH), Q1 h_1 → G mX12_build (d + 1) S (f_PI Q) 103 [(0, .ref r0), (6, .int (x6 + 1))] [] h_1))) :
    G mX12_build (d + 1) S (f_PI Q) 103 [(0, .ref r0), (6, .int x6)] [] h := by
  refine G_iload 1 rfl dX12_build_103 ?_
  refine G_aload_n 0 rfl dX12_build_105 rfl ?_
  refine G_geti (k := 14) hs1 (q := (RX12, TX12, 40)) rfl inX12 (by decide) (Or.inl rfl) hF_X12_192 dX12_build_106 ?_
  refine G_icmp_ge (tgt := 129) dX12_build_109 (by decide) (fun c1 => ?_) (fun c1 => ?_)
  · have w := w.1 c1
    refine G_aload_n 0 rfl dX12_build_129 rfl ?_
    refine G_geti (k := 30) hs1 (q := (RX12, TX12, 40)) rfl inX12 (by decide) (Or.inl rfl) hF_X12_310 dX12_build_130 ?_
    refine G_bipush (v := 13) dX12_build_133 (by decide) ?_
    refine G_icmp_gt (tgt := 142) dX12_build_135 (by decide) (fun c2 => ?_) (fun c2 => ?_)
    · have w := w.1 c2
      refine G_iconst (v := 0) dX12_build_142 (by decide) ?_
      exact G_zret rfl (Or.inl rfl) dX12_build_143 ⟨_, rfl, w⟩
    · have w := w.2 c2
      refine G_iconst (v := 1) dX12_build_138 (by decide) ?_
      refine G_goto (tgt := 143) dX12_build_139 (by decide) ?_
      exact G_zret rfl (Or.inr rfl) dX12_build_143 ⟨_, rfl, w⟩
  · have w := w.2 c1
    refine G_aload_n 0 rfl dX12_build_112 rfl ?_
    refine G_aload_n 0 rfl dX12_build_113 rfl ?_
    refine G_getr (j := r0_now) (k := 13) hs1 (q := (RX12, TX12, 40)) rfl inX12 (by decide) rfl hF_X12_22 dX12_build_114 ?_
    refine G_iload 1 rfl dX12_build_117 ?_
    obtain ⟨sd1, w⟩ := w
    refine G_iald hs2 sd1 dX12_build_119 ?_
    obtain ⟨Q1, ok1, w⟩ := w
    refine G_callV (Z := mX12_add) (As := [.int (h.2.2.1 r0_now x6.toNatClampNeg)]) (st := []) hL_X12_313 hI_X12_add hS_X12_add hC_X12_add hN_X12 nX12_add (by decide) hs1 rfl rfl rfl (Nat.le_of_ble_eq_true rfl) dX12_build_120 ok1 (fun r_ h_1 z_ => ?_)
    obtain ⟨rfl, q_1⟩ := z_
    have w := w h_1 q_1
    refine G_iinc (v := 1) 1 rfl dX12_build_123 (by decide) (by decide) (lv' := [(6, .int (x6 + 1)), (0, .ref r0)]) rfl ?_
    refine G_goto (tgt := 103) dX12_build_126 (by decide) ?_
    exact G_sub [1, 0] rfl w
-- LostDigitsModel.buildPart
theorem dX12_buildPart_0 : decode cX12_buildPart 0 = .ok (.iload_n 1, 1) := by decide +kernel
theorem dX12_buildPart_1 : decode cX12_buildPart 1 = .ok (.ifCond .ne 22, 3) := by decide +kernel
theorem dX12_buildPart_4 : decode cX12_buildPart 4 = .ok (.aload_n 0, 1) := by decide +kernel
theorem dX12_buildPart_5 : decode cX12_buildPart 5 = .ok (.iload_n 2, 1) := by decide +kernel
theorem dX12_buildPart_6 : decode cX12_buildPart 6 = .ok (.invokevirtual 313, 3) := by decide +kernel
theorem dX12_buildPart_9 : decode cX12_buildPart 9 = .ok (.aload_n 0, 1) := by decide +kernel
theorem dX12_buildPart_10 : decode cX12_buildPart 10 = .ok (.iload 4, 2) := by decide +kernel
theorem dX12_buildPart_12 : decode cX12_buildPart 12 = .ok (.invokevirtual 328, 3) := by decide +kernel
theorem dX12_buildPart_15 : decode cX12_buildPart 15 = .ok (.aload_n 0, 1) := by decide +kernel
theorem dX12_buildPart_16 : decode cX12_buildPart 16 = .ok (.iload_n 3, 1) := by decide +kernel
theorem dX12_buildPart_17 : decode cX12_buildPart 17 = .ok (.invokevirtual 328, 3) := by decide +kernel
theorem dX12_buildPart_20 : decode cX12_buildPart 20 = .ok (.goto 325, 3) := by decide +kernel
theorem dX12_buildPart_23 : decode cX12_buildPart 23 = .ok (.iload_n 1, 1) := by decide +kernel
theorem dX12_buildPart_24 : decode cX12_buildPart 24 = .ok (.iconst 1, 1) := by decide +kernel
theorem dX12_buildPart_25 : decode cX12_buildPart 25 = .ok (.if_icmp .ne 45, 3) := by decide +kernel
theorem dX12_buildPart_28 : decode cX12_buildPart 28 = .ok (.aload_n 0, 1) := by decide +kernel
theorem dX12_buildPart_29 : decode cX12_buildPart 29 = .ok (.iload_n 2, 1) := by decide +kernel
theorem dX12_buildPart_30 : decode cX12_buildPart 30 = .ok (.invokevirtual 313, 3) := by decide +kernel
theorem dX12_buildPart_33 : decode cX12_buildPart 33 = .ok (.aload_n 0, 1) := by decide +kernel
theorem dX12_buildPart_34 : decode cX12_buildPart 34 = .ok (.iload_n 3, 1) := by decide +kernel
theorem dX12_buildPart_35 : decode cX12_buildPart 35 = .ok (.iconst 1, 1) := by decide +kernel
theorem dX12_buildPart_36 : decode cX12_buildPart 36 = .ok (.iadd, 1) := by decide +kernel
theorem dX12_buildPart_37 : decode cX12_buildPart 37 = .ok (.invokevirtual 328, 3) := by decide +kernel
theorem dX12_buildPart_40 : decode cX12_buildPart 40 = .ok (.aload_n 0, 1) := by decide +kernel
theorem dX12_buildPart_41 : decode cX12_buildPart 41 = .ok (.iload_n 2, 1) := by decide +kernel
theorem dX12_buildPart_42 : decode cX12_buildPart 42 = .ok (.invokevirtual 313, 3) := by decide +kernel
theorem dX12_buildPart_45 : decode cX12_buildPart 45 = .ok (.aload_n 0, 1) := by decide +kernel
theorem dX12_buildPart_46 : decode cX12_buildPart 46 = .ok (.iload_n 3, 1) := by decide +kernel
theorem dX12_buildPart_47 : decode cX12_buildPart 47 = .ok (.iconst 1, 1) := by decide +kernel
theorem dX12_buildPart_48 : decode cX12_buildPart 48 = .ok (.iadd, 1) := by decide +kernel
theorem dX12_buildPart_49 : decode cX12_buildPart 49 = .ok (.aload_n 0, 1) := by decide +kernel
theorem dX12_buildPart_50 : decode cX12_buildPart 50 = .ok (.getfield 25, 3) := by decide +kernel
theorem dX12_buildPart_53 : decode cX12_buildPart 53 = .ok (.iload_n 3, 1) := by decide +kernel
theorem dX12_buildPart_54 : decode cX12_buildPart 54 = .ok (.iconst 1, 1) := by decide +kernel
theorem dX12_buildPart_55 : decode cX12_buildPart 55 = .ok (.iadd, 1) := by decide +kernel
theorem dX12_buildPart_56 : decode cX12_buildPart 56 = .ok (.iaload, 1) := by decide +kernel
theorem dX12_buildPart_57 : decode cX12_buildPart 57 = .ok (.iadd, 1) := by decide +kernel
theorem dX12_buildPart_58 : decode cX12_buildPart 58 = .ok (.invokevirtual 328, 3) := by decide +kernel
theorem dX12_buildPart_61 : decode cX12_buildPart 61 = .ok (.aload_n 0, 1) := by decide +kernel
theorem dX12_buildPart_62 : decode cX12_buildPart 62 = .ok (.iload 4, 2) := by decide +kernel
theorem dX12_buildPart_64 : decode cX12_buildPart 64 = .ok (.invokevirtual 328, 3) := by decide +kernel
theorem dX12_buildPart_67 : decode cX12_buildPart 67 = .ok (.goto 278, 3) := by decide +kernel
theorem dX12_buildPart_70 : decode cX12_buildPart 70 = .ok (.iload_n 1, 1) := by decide +kernel
theorem dX12_buildPart_71 : decode cX12_buildPart 71 = .ok (.iconst 2, 1) := by decide +kernel
theorem dX12_buildPart_72 : decode cX12_buildPart 72 = .ok (.if_icmp .ne 65, 3) := by decide +kernel
theorem dX12_buildPart_75 : decode cX12_buildPart 75 = .ok (.aload_n 0, 1) := by decide +kernel
theorem dX12_buildPart_76 : decode cX12_buildPart 76 = .ok (.aload_n 0, 1) := by decide +kernel
theorem dX12_buildPart_77 : decode cX12_buildPart 77 = .ok (.getfield 22, 3) := by decide +kernel
theorem dX12_buildPart_80 : decode cX12_buildPart 80 = .ok (.iload 4, 2) := by decide +kernel
theorem dX12_buildPart_82 : decode cX12_buildPart 82 = .ok (.iaload, 1) := by decide +kernel
theorem dX12_buildPart_83 : decode cX12_buildPart 83 = .ok (.invokevirtual 313, 3) := by decide +kernel
theorem dX12_buildPart_86 : decode cX12_buildPart 86 = .ok (.aload_n 0, 1) := by decide +kernel
theorem dX12_buildPart_87 : decode cX12_buildPart 87 = .ok (.bipush 42, 2) := by decide +kernel
theorem dX12_buildPart_89 : decode cX12_buildPart 89 = .ok (.invokevirtual 313, 3) := by decide +kernel
theorem dX12_buildPart_92 : decode cX12_buildPart 92 = .ok (.aload_n 0, 1) := by decide +kernel
theorem dX12_buildPart_93 : decode cX12_buildPart 93 = .ok (.iload_n 3, 1) := by decide +kernel
theorem dX12_buildPart_94 : decode cX12_buildPart 94 = .ok (.invokevirtual 328, 3) := by decide +kernel
theorem dX12_buildPart_97 : decode cX12_buildPart 97 = .ok (.aload_n 0, 1) := by decide +kernel
theorem dX12_buildPart_98 : decode cX12_buildPart 98 = .ok (.iload 4, 2) := by decide +kernel
theorem dX12_buildPart_100 : decode cX12_buildPart 100 = .ok (.iconst 1, 1) := by decide +kernel
theorem dX12_buildPart_101 : decode cX12_buildPart 101 = .ok (.iadd, 1) := by decide +kernel
theorem dX12_buildPart_102 : decode cX12_buildPart 102 = .ok (.invokevirtual 328, 3) := by decide +kernel
theorem dX12_buildPart_105 : decode cX12_buildPart 105 = .ok (.aload_n 0, 1) := by decide +kernel
theorem dX12_buildPart_106 : decode cX12_buildPart 106 = .ok (.bipush 42, 2) := by decide +kernel
theorem dX12_buildPart_108 : decode cX12_buildPart 108 = .ok (.invokevirtual 313, 3) := by decide +kernel
theorem dX12_buildPart_111 : decode cX12_buildPart 111 = .ok (.aload_n 0, 1) := by decide +kernel
theorem dX12_buildPart_112 : decode cX12_buildPart 112 = .ok (.iload_n 3, 1) := by decide +kernel
theorem dX12_buildPart_113 : decode cX12_buildPart 113 = .ok (.invokevirtual 328, 3) := by decide +kernel
theorem dX12_buildPart_116 : decode cX12_buildPart 116 = .ok (.aload_n 0, 1) := by decide +kernel
theorem dX12_buildPart_117 : decode cX12_buildPart 117 = .ok (.iload 4, 2) := by decide +kernel
theorem dX12_buildPart_119 : decode cX12_buildPart 119 = .ok (.iconst 1, 1) := by decide +kernel
theorem dX12_buildPart_120 : decode cX12_buildPart 120 = .ok (.iadd, 1) := by decide +kernel
theorem dX12_buildPart_121 : decode cX12_buildPart 121 = .ok (.aload_n 0, 1) := by decide +kernel
theorem dX12_buildPart_122 : decode cX12_buildPart 122 = .ok (.getfield 25, 3) := by decide +kernel
theorem dX12_buildPart_125 : decode cX12_buildPart 125 = .ok (.iload 4, 2) := by decide +kernel
theorem dX12_buildPart_127 : decode cX12_buildPart 127 = .ok (.iconst 1, 1) := by decide +kernel
theorem dX12_buildPart_128 : decode cX12_buildPart 128 = .ok (.iadd, 1) := by decide +kernel
theorem dX12_buildPart_129 : decode cX12_buildPart 129 = .ok (.iaload, 1) := by decide +kernel
theorem dX12_buildPart_130 : decode cX12_buildPart 130 = .ok (.iadd, 1) := by decide +kernel
theorem dX12_buildPart_131 : decode cX12_buildPart 131 = .ok (.invokevirtual 328, 3) := by decide +kernel
theorem dX12_buildPart_134 : decode cX12_buildPart 134 = .ok (.goto 211, 3) := by decide +kernel
theorem dX12_buildPart_137 : decode cX12_buildPart 137 = .ok (.iload_n 1, 1) := by decide +kernel
theorem dX12_buildPart_138 : decode cX12_buildPart 138 = .ok (.iconst 3, 1) := by decide +kernel
theorem dX12_buildPart_139 : decode cX12_buildPart 139 = .ok (.if_icmp .ne 58, 3) := by decide +kernel
theorem dX12_buildPart_142 : decode cX12_buildPart 142 = .ok (.aload_n 0, 1) := by decide +kernel
theorem dX12_buildPart_143 : decode cX12_buildPart 143 = .ok (.bipush 42, 2) := by decide +kernel
theorem dX12_buildPart_145 : decode cX12_buildPart 145 = .ok (.invokevirtual 313, 3) := by decide +kernel
theorem dX12_buildPart_148 : decode cX12_buildPart 148 = .ok (.aload_n 0, 1) := by decide +kernel
theorem dX12_buildPart_149 : decode cX12_buildPart 149 = .ok (.iload_n 3, 1) := by decide +kernel
theorem dX12_buildPart_150 : decode cX12_buildPart 150 = .ok (.iconst 1, 1) := by decide +kernel
theorem dX12_buildPart_151 : decode cX12_buildPart 151 = .ok (.iadd, 1) := by decide +kernel
theorem dX12_buildPart_152 : decode cX12_buildPart 152 = .ok (.invokevirtual 328, 3) := by decide +kernel
theorem dX12_buildPart_155 : decode cX12_buildPart 155 = .ok (.aload_n 0, 1) := by decide +kernel
theorem dX12_buildPart_156 : decode cX12_buildPart 156 = .ok (.iload_n 2, 1) := by decide +kernel
theorem dX12_buildPart_157 : decode cX12_buildPart 157 = .ok (.invokevirtual 313, 3) := by decide +kernel
theorem dX12_buildPart_160 : decode cX12_buildPart 160 = .ok (.aload_n 0, 1) := by decide +kernel
theorem dX12_buildPart_161 : decode cX12_buildPart 161 = .ok (.iload_n 3, 1) := by decide +kernel
theorem dX12_buildPart_162 : decode cX12_buildPart 162 = .ok (.iconst 1, 1) := by decide +kernel
theorem dX12_buildPart_163 : decode cX12_buildPart 163 = .ok (.iadd, 1) := by decide +kernel
theorem dX12_buildPart_164 : decode cX12_buildPart 164 = .ok (.aload_n 0, 1) := by decide +kernel
theorem dX12_buildPart_165 : decode cX12_buildPart 165 = .ok (.getfield 25, 3) := by decide +kernel
theorem dX12_buildPart_168 : decode cX12_buildPart 168 = .ok (.iload_n 3, 1) := by decide +kernel
theorem dX12_buildPart_169 : decode cX12_buildPart 169 = .ok (.iconst 1, 1) := by decide +kernel
theorem dX12_buildPart_170 : decode cX12_buildPart 170 = .ok (.iadd, 1) := by decide +kernel
theorem dX12_buildPart_171 : decode cX12_buildPart 171 = .ok (.iaload, 1) := by decide +kernel
theorem dX12_buildPart_172 : decode cX12_buildPart 172 = .ok (.iadd, 1) := by decide +kernel
theorem dX12_buildPart_173 : decode cX12_buildPart 173 = .ok (.invokevirtual 328, 3) := by decide +kernel
theorem dX12_buildPart_176 : decode cX12_buildPart 176 = .ok (.aload_n 0, 1) := by decide +kernel
theorem dX12_buildPart_177 : decode cX12_buildPart 177 = .ok (.iload 4, 2) := by decide +kernel
theorem dX12_buildPart_179 : decode cX12_buildPart 179 = .ok (.iconst 1, 1) := by decide +kernel
theorem dX12_buildPart_180 : decode cX12_buildPart 180 = .ok (.iadd, 1) := by decide +kernel
theorem dX12_buildPart_181 : decode cX12_buildPart 181 = .ok (.aload_n 0, 1) := by decide +kernel
theorem dX12_buildPart_182 : decode cX12_buildPart 182 = .ok (.getfield 25, 3) := by decide +kernel
theorem dX12_buildPart_185 : decode cX12_buildPart 185 = .ok (.iload 4, 2) := by decide +kernel
theorem dX12_buildPart_187 : decode cX12_buildPart 187 = .ok (.iconst 1, 1) := by decide +kernel
theorem dX12_buildPart_188 : decode cX12_buildPart 188 = .ok (.iadd, 1) := by decide +kernel
theorem dX12_buildPart_189 : decode cX12_buildPart 189 = .ok (.iaload, 1) := by decide +kernel
theorem dX12_buildPart_190 : decode cX12_buildPart 190 = .ok (.iadd, 1) := by decide +kernel
theorem dX12_buildPart_191 : decode cX12_buildPart 191 = .ok (.invokevirtual 328, 3) := by decide +kernel
theorem dX12_buildPart_194 : decode cX12_buildPart 194 = .ok (.goto 151, 3) := by decide +kernel
theorem dX12_buildPart_197 : decode cX12_buildPart 197 = .ok (.iload_n 1, 1) := by decide +kernel
theorem dX12_buildPart_198 : decode cX12_buildPart 198 = .ok (.iconst 4, 1) := by decide +kernel
theorem dX12_buildPart_199 : decode cX12_buildPart 199 = .ok (.if_icmp .ne 54, 3) := by decide +kernel
theorem dX12_buildPart_202 : decode cX12_buildPart 202 = .ok (.aload_n 0, 1) := by decide +kernel
theorem dX12_buildPart_203 : decode cX12_buildPart 203 = .ok (.bipush 42, 2) := by decide +kernel
theorem dX12_buildPart_205 : decode cX12_buildPart 205 = .ok (.invokevirtual 313, 3) := by decide +kernel
theorem dX12_buildPart_208 : decode cX12_buildPart 208 = .ok (.aload_n 0, 1) := by decide +kernel
theorem dX12_buildPart_209 : decode cX12_buildPart 209 = .ok (.bipush 45, 2) := by decide +kernel
theorem dX12_buildPart_211 : decode cX12_buildPart 211 = .ok (.invokevirtual 313, 3) := by decide +kernel
theorem dX12_buildPart_214 : decode cX12_buildPart 214 = .ok (.aload_n 0, 1) := by decide +kernel
theorem dX12_buildPart_215 : decode cX12_buildPart 215 = .ok (.iload_n 3, 1) := by decide +kernel
theorem dX12_buildPart_216 : decode cX12_buildPart 216 = .ok (.iconst 1, 1) := by decide +kernel
theorem dX12_buildPart_217 : decode cX12_buildPart 217 = .ok (.iadd, 1) := by decide +kernel
theorem dX12_buildPart_218 : decode cX12_buildPart 218 = .ok (.invokevirtual 328, 3) := by decide +kernel
theorem dX12_buildPart_221 : decode cX12_buildPart 221 = .ok (.aload_n 0, 1) := by decide +kernel
theorem dX12_buildPart_222 : decode cX12_buildPart 222 = .ok (.iload 4, 2) := by decide +kernel
theorem dX12_buildPart_224 : decode cX12_buildPart 224 = .ok (.iconst 1, 1) := by decide +kernel
theorem dX12_buildPart_225 : decode cX12_buildPart 225 = .ok (.iadd, 1) := by decide +kernel
theorem dX12_buildPart_226 : decode cX12_buildPart 226 = .ok (.invokevirtual 328, 3) := by decide +kernel
theorem dX12_buildPart_229 : decode cX12_buildPart 229 = .ok (.aload_n 0, 1) := by decide +kernel
theorem dX12_buildPart_230 : decode cX12_buildPart 230 = .ok (.bipush 43, 2) := by decide +kernel
theorem dX12_buildPart_232 : decode cX12_buildPart 232 = .ok (.invokevirtual 313, 3) := by decide +kernel
theorem dX12_buildPart_235 : decode cX12_buildPart 235 = .ok (.aload_n 0, 1) := by decide +kernel
theorem dX12_buildPart_236 : decode cX12_buildPart 236 = .ok (.iload_n 3, 1) := by decide +kernel
theorem dX12_buildPart_237 : decode cX12_buildPart 237 = .ok (.iconst 1, 1) := by decide +kernel
theorem dX12_buildPart_238 : decode cX12_buildPart 238 = .ok (.iadd, 1) := by decide +kernel
theorem dX12_buildPart_239 : decode cX12_buildPart 239 = .ok (.invokevirtual 328, 3) := by decide +kernel
theorem dX12_buildPart_242 : decode cX12_buildPart 242 = .ok (.aload_n 0, 1) := by decide +kernel
theorem dX12_buildPart_243 : decode cX12_buildPart 243 = .ok (.iload 4, 2) := by decide +kernel
theorem dX12_buildPart_245 : decode cX12_buildPart 245 = .ok (.iconst 1, 1) := by decide +kernel
theorem dX12_buildPart_246 : decode cX12_buildPart 246 = .ok (.iadd, 1) := by decide +kernel
theorem dX12_buildPart_247 : decode cX12_buildPart 247 = .ok (.invokevirtual 328, 3) := by decide +kernel
theorem dX12_buildPart_250 : decode cX12_buildPart 250 = .ok (.goto 95, 3) := by decide +kernel
theorem dX12_buildPart_253 : decode cX12_buildPart 253 = .ok (.iload_n 1, 1) := by decide +kernel
theorem dX12_buildPart_254 : decode cX12_buildPart 254 = .ok (.iconst 5, 1) := by decide +kernel
theorem dX12_buildPart_255 : decode cX12_buildPart 255 = .ok (.if_icmp .ne 47, 3) := by decide +kernel
theorem dX12_buildPart_258 : decode cX12_buildPart 258 = .ok (.aload_n 0, 1) := by decide +kernel
theorem dX12_buildPart_259 : decode cX12_buildPart 259 = .ok (.bipush 45, 2) := by decide +kernel
theorem dX12_buildPart_261 : decode cX12_buildPart 261 = .ok (.invokevirtual 313, 3) := by decide +kernel
theorem dX12_buildPart_264 : decode cX12_buildPart 264 = .ok (.aload_n 0, 1) := by decide +kernel
theorem dX12_buildPart_265 : decode cX12_buildPart 265 = .ok (.iload_n 3, 1) := by decide +kernel
theorem dX12_buildPart_266 : decode cX12_buildPart 266 = .ok (.iconst 1, 1) := by decide +kernel
theorem dX12_buildPart_267 : decode cX12_buildPart 267 = .ok (.iadd, 1) := by decide +kernel
theorem dX12_buildPart_268 : decode cX12_buildPart 268 = .ok (.invokevirtual 328, 3) := by decide +kernel
theorem dX12_buildPart_271 : decode cX12_buildPart 271 = .ok (.aload_n 0, 1) := by decide +kernel
theorem dX12_buildPart_272 : decode cX12_buildPart 272 = .ok (.bipush 43, 2) := by decide +kernel
theorem dX12_buildPart_274 : decode cX12_buildPart 274 = .ok (.invokevirtual 313, 3) := by decide +kernel
theorem dX12_buildPart_277 : decode cX12_buildPart 277 = .ok (.aload_n 0, 1) := by decide +kernel
theorem dX12_buildPart_278 : decode cX12_buildPart 278 = .ok (.iload_n 3, 1) := by decide +kernel
theorem dX12_buildPart_279 : decode cX12_buildPart 279 = .ok (.iconst 1, 1) := by decide +kernel
theorem dX12_buildPart_280 : decode cX12_buildPart 280 = .ok (.iadd, 1) := by decide +kernel
theorem dX12_buildPart_281 : decode cX12_buildPart 281 = .ok (.aload_n 0, 1) := by decide +kernel
theorem dX12_buildPart_282 : decode cX12_buildPart 282 = .ok (.getfield 25, 3) := by decide +kernel
theorem dX12_buildPart_285 : decode cX12_buildPart 285 = .ok (.iload_n 3, 1) := by decide +kernel
theorem dX12_buildPart_286 : decode cX12_buildPart 286 = .ok (.iconst 1, 1) := by decide +kernel
theorem dX12_buildPart_287 : decode cX12_buildPart 287 = .ok (.iadd, 1) := by decide +kernel
theorem dX12_buildPart_288 : decode cX12_buildPart 288 = .ok (.iaload, 1) := by decide +kernel
theorem dX12_buildPart_289 : decode cX12_buildPart 289 = .ok (.iadd, 1) := by decide +kernel
theorem dX12_buildPart_290 : decode cX12_buildPart 290 = .ok (.invokevirtual 328, 3) := by decide +kernel
theorem dX12_buildPart_293 : decode cX12_buildPart 293 = .ok (.aload_n 0, 1) := by decide +kernel
theorem dX12_buildPart_294 : decode cX12_buildPart 294 = .ok (.iload 4, 2) := by decide +kernel
theorem dX12_buildPart_296 : decode cX12_buildPart 296 = .ok (.invokevirtual 328, 3) := by decide +kernel
theorem dX12_buildPart_299 : decode cX12_buildPart 299 = .ok (.goto 46, 3) := by decide +kernel
theorem dX12_buildPart_302 : decode cX12_buildPart 302 = .ok (.aload_n 0, 1) := by decide +kernel
theorem dX12_buildPart_303 : decode cX12_buildPart 303 = .ok (.bipush 47, 2) := by decide +kernel
theorem dX12_buildPart_305 : decode cX12_buildPart 305 = .ok (.invokevirtual 313, 3) := by decide +kernel
theorem dX12_buildPart_308 : decode cX12_buildPart 308 = .ok (.aload_n 0, 1) := by decide +kernel
theorem dX12_buildPart_309 : decode cX12_buildPart 309 = .ok (.bipush 42, 2) := by decide +kernel
theorem dX12_buildPart_311 : decode cX12_buildPart 311 = .ok (.invokevirtual 313, 3) := by decide +kernel
theorem dX12_buildPart_314 : decode cX12_buildPart 314 = .ok (.aload_n 0, 1) := by decide +kernel
theorem dX12_buildPart_315 : decode cX12_buildPart 315 = .ok (.iload_n 3, 1) := by decide +kernel
theorem dX12_buildPart_316 : decode cX12_buildPart 316 = .ok (.invokevirtual 328, 3) := by decide +kernel
theorem dX12_buildPart_319 : decode cX12_buildPart 319 = .ok (.aload_n 0, 1) := by decide +kernel
theorem dX12_buildPart_320 : decode cX12_buildPart 320 = .ok (.iload 4, 2) := by decide +kernel
theorem dX12_buildPart_322 : decode cX12_buildPart 322 = .ok (.iconst 1, 1) := by decide +kernel
theorem dX12_buildPart_323 : decode cX12_buildPart 323 = .ok (.iadd, 1) := by decide +kernel
theorem dX12_buildPart_324 : decode cX12_buildPart 324 = .ok (.aload_n 0, 1) := by decide +kernel
theorem dX12_buildPart_325 : decode cX12_buildPart 325 = .ok (.getfield 25, 3) := by decide +kernel
theorem dX12_buildPart_328 : decode cX12_buildPart 328 = .ok (.iload 4, 2) := by decide +kernel
theorem dX12_buildPart_330 : decode cX12_buildPart 330 = .ok (.iconst 1, 1) := by decide +kernel
theorem dX12_buildPart_331 : decode cX12_buildPart 331 = .ok (.iadd, 1) := by decide +kernel
theorem dX12_buildPart_332 : decode cX12_buildPart 332 = .ok (.iaload, 1) := by decide +kernel
theorem dX12_buildPart_333 : decode cX12_buildPart 333 = .ok (.iadd, 1) := by decide +kernel
theorem dX12_buildPart_334 : decode cX12_buildPart 334 = .ok (.invokevirtual 328, 3) := by decide +kernel
theorem dX12_buildPart_337 : decode cX12_buildPart 337 = .ok (.aload_n 0, 1) := by decide +kernel
theorem dX12_buildPart_338 : decode cX12_buildPart 338 = .ok (.iload 4, 2) := by decide +kernel
theorem dX12_buildPart_340 : decode cX12_buildPart 340 = .ok (.iconst 1, 1) := by decide +kernel
theorem dX12_buildPart_341 : decode cX12_buildPart 341 = .ok (.iadd, 1) := by decide +kernel
theorem dX12_buildPart_342 : decode cX12_buildPart 342 = .ok (.invokevirtual 328, 3) := by decide +kernel
theorem dX12_buildPart_345 : decode cX12_buildPart 345 = .ok (.return_, 1) := by decide +kernel
set_option maxRecDepth 10000 in
theorem NX12_buildPart_0 {d : Nat} {S : fW} {h : fH} {Q : fH → Prop} {r0 : Nat} {x1 : Int32} {x2 : Int32} {x3 : Int32} {x4 : Int32} {r0_pad r0_text r0_number r0_span r0_now r0_sizeOf r0_workedTo r0_slip r0_exactUpper r0_exactLower r0_more r0_terms r0_order r0_bestOrder r0_low r0_high r0_built r0_better r0_base r0_kept r0_isKept : Nat}  
    (hs1 : (r0, shX12 r0_pad r0_text r0_number r0_span r0_now r0_sizeOf r0_workedTo r0_slip r0_exactUpper r0_exactLower r0_more r0_terms r0_order r0_bestOrder r0_low r0_high r0_built r0_better r0_base r0_kept r0_isKept) ∈ S)
    (hs2 : (r0_sizeOf, shI 13) ∈ S)
    (hs3 : (r0_now, shI 13) ∈ S)
    (w : ((¬ x1 = 0 → ((¬ x1 = (1 : Int32) → ((¬ x1 = (2 : Int32) → ((¬ x1 = (3 : Int32) → ((¬ x1 = (4 : Int32) → ((¬ x1 = (5 : Int32) → ∃ Q1 : fH → Prop, OkV d mX12_add S [.ref r0, .int (47 : Int32)] h Q1 ∧ ∀ (h_1 : fH), Q1 h_1 → ∃ Q2 : fH → Prop, OkV d mX12_add S [.ref r0, .int (42 : Int32)] h_1 Q2 ∧ ∀ (h_2 : fH), Q2 h_2 → ∃ Q3 : fH → Prop, OkV d mX12_addPart S [.ref r0, .int x3] h_2 Q3 ∧ ∀ (h_3 : fH), Q3 h_3 → vp_in (x4 + (1 : Int32)) 13 ∧ ∃ Q4 : fH → Prop, OkV d mX12_addPart S [.ref r0, .int ((x4 + (1 : Int32)) + (h_3.2.2.1 r0_sizeOf (x4 + (1 : Int32)).toNatClampNeg))] h_3 Q4 ∧ ∀ (h_4 : fH), Q4 h_4 → ∃ Q5 : fH → Prop, OkV d mX12_addPart S [.ref r0, .int (x4 + (1 : Int32))] h_4 Q5 ∧ ∀ (h_5 : fH), Q5 h_5 → Q h_5) ∧ (x1 = (5 : Int32) → ∃ Q6 : fH → Prop, OkV d mX12_add S [.ref r0, .int (45 : Int32)] h Q6 ∧ ∀ (h_6 : fH), Q6 h_6 → ∃ Q7 : fH → Prop, OkV d mX12_addPart S [.ref r0, .int (x3 + (1 : Int32))] h_6 Q7 ∧ ∀ (h_7 : fH), Q7 h_7 → ∃ Q8 : fH → Prop, OkV d mX12_add S [.ref r0, .int (43 : Int32)] h_7 Q8 ∧ ∀ (h_8 : fH), Q8 h_8 → vp_in (x3 + (1 : Int32)) 13 ∧ ∃ Q9 : fH → Prop, OkV d mX12_addPart S [.ref r0, .int ((x3 + (1 : Int32)) + (h_8.2.2.1 r0_sizeOf (x3 + (1 : Int32)).toNatClampNeg))] h_8 Q9 ∧ ∀ (h_9 : fH), Q9 h_9 → ∃ Q10 : fH → Prop, OkV d mX12_addPart S [.ref r0, .int x4] h_9 Q10 ∧ ∀ (h_10 : fH), Q10 h_10 → Q h_10))) ∧ (x1 = (4 : Int32) → ∃ Q11 : fH → Prop, OkV d mX12_add S [.ref r0, .int (42 : Int32)] h Q11 ∧ ∀ (h_11 : fH), Q11 h_11 → ∃ Q12 : fH → Prop, OkV d mX12_add S [.ref r0, .int (45 : Int32)] h_11 Q12 ∧ ∀ (h_12 : fH), Q12 h_12 → ∃ Q13 : fH → Prop, OkV d mX12_addPart S [.ref r0, .int (x3 + (1 : Int32))] h_12 Q13 ∧ ∀ (h_13 : fH), Q13 h_13 → ∃ Q14 : fH → Prop, OkV d mX12_addPart S [.ref r0, .int (x4 + (1 : Int32))] h_13 Q14 ∧ ∀ (h_14 : fH), Q14 h_14 → ∃ Q15 : fH → Prop, OkV d mX12_add S [.ref r0, .int (43 : Int32)] h_14 Q15 ∧ ∀ (h_15 : fH), Q15 h_15 → ∃ Q16 : fH → Prop, OkV d mX12_addPart S [.ref r0, .int (x3 + (1 : Int32))] h_15 Q16 ∧ ∀ (h_16 : fH), Q16 h_16 → ∃ Q17 : fH → Prop, OkV d mX12_addPart S [.ref r0, .int (x4 + (1 : Int32))] h_16 Q17 ∧ ∀ (h_17 : fH), Q17 h_17 → Q h_17))) ∧ (x1 = (3 : Int32) → ∃ Q18 : fH → Prop, OkV d mX12_add S [.ref r0, .int (42 : Int32)] h Q18 ∧ ∀ (h_18 : fH), Q18 h_18 → ∃ Q19 : fH → Prop, OkV d mX12_addPart S [.ref r0, .int (x3 + (1 : Int32))] h_18 Q19 ∧ ∀ (h_19 : fH), Q19 h_19 → ∃ Q20 : fH → Prop, OkV d mX12_add S [.ref r0, .int x2] h_19 Q20 ∧ ∀ (h_20 : fH), Q20 h_20 → vp_in (x3 + (1 : Int32)) 13 ∧ ∃ Q21 : fH → Prop, OkV d mX12_addPart S [.ref r0, .int ((x3 + (1 : Int32)) + (h_20.2.2.1 r0_sizeOf (x3 + (1 : Int32)).toNatClampNeg))] h_20 Q21 ∧ ∀ (h_21 : fH), Q21 h_21 → vp_in (x4 + (1 : Int32)) 13 ∧ ∃ Q22 : fH → Prop, OkV d mX12_addPart S [.ref r0, .int ((x4 + (1 : Int32)) + (h_21.2.2.1 r0_sizeOf (x4 + (1 : Int32)).toNatClampNeg))] h_21 Q22 ∧ ∀ (h_22 : fH), Q22 h_22 → Q h_22))) ∧ (x1 = (2 : Int32) → vp_in x4 13 ∧ ∃ Q23 : fH → Prop, OkV d mX12_add S [.ref r0, .int (h.2.2.1 r0_now x4.toNatClampNeg)] h Q23 ∧ ∀ (h_23 : fH), Q23 h_23 → ∃ Q24 : fH → Prop, OkV d mX12_add S [.ref r0, .int (42 : Int32)] h_23 Q24 ∧ ∀ (h_24 : fH), Q24 h_24 → ∃ Q25 : fH → Prop, OkV d mX12_addPart S [.ref r0, .int x3] h_24 Q25 ∧ ∀ (h_25 : fH), Q25 h_25 → ∃ Q26 : fH → Prop, OkV d mX12_addPart S [.ref r0, .int (x4 + (1 : Int32))] h_25 Q26 ∧ ∀ (h_26 : fH), Q26 h_26 → ∃ Q27 : fH → Prop, OkV d mX12_add S [.ref r0, .int (42 : Int32)] h_26 Q27 ∧ ∀ (h_27 : fH), Q27 h_27 → ∃ Q28 : fH → Prop, OkV d mX12_addPart S [.ref r0, .int x3] h_27 Q28 ∧ ∀ (h_28 : fH), Q28 h_28 → vp_in (x4 + (1 : Int32)) 13 ∧ ∃ Q29 : fH → Prop, OkV d mX12_addPart S [.ref r0, .int ((x4 + (1 : Int32)) + (h_28.2.2.1 r0_sizeOf (x4 + (1 : Int32)).toNatClampNeg))] h_28 Q29 ∧ ∀ (h_29 : fH), Q29 h_29 → Q h_29))) ∧ (x1 = (1 : Int32) → ∃ Q30 : fH → Prop, OkV d mX12_add S [.ref r0, .int x2] h Q30 ∧ ∀ (h_30 : fH), Q30 h_30 → ∃ Q31 : fH → Prop, OkV d mX12_addPart S [.ref r0, .int (x3 + (1 : Int32))] h_30 Q31 ∧ ∀ (h_31 : fH), Q31 h_31 → ∃ Q32 : fH → Prop, OkV d mX12_add S [.ref r0, .int x2] h_31 Q32 ∧ ∀ (h_32 : fH), Q32 h_32 → vp_in (x3 + (1 : Int32)) 13 ∧ ∃ Q33 : fH → Prop, OkV d mX12_addPart S [.ref r0, .int ((x3 + (1 : Int32)) + (h_32.2.2.1 r0_sizeOf (x3 + (1 : Int32)).toNatClampNeg))] h_32 Q33 ∧ ∀ (h_33 : fH), Q33 h_33 → ∃ Q34 : fH → Prop, OkV d mX12_addPart S [.ref r0, .int x4] h_33 Q34 ∧ ∀ (h_34 : fH), Q34 h_34 → Q h_34))) ∧ (x1 = 0 → ∃ Q35 : fH → Prop, OkV d mX12_add S [.ref r0, .int x2] h Q35 ∧ ∀ (h_35 : fH), Q35 h_35 → ∃ Q36 : fH → Prop, OkV d mX12_addPart S [.ref r0, .int x4] h_35 Q36 ∧ ∀ (h_36 : fH), Q36 h_36 → ∃ Q37 : fH → Prop, OkV d mX12_addPart S [.ref r0, .int x3] h_36 Q37 ∧ ∀ (h_37 : fH), Q37 h_37 → Q h_37))) :
    OkV (d + 1) mX12_buildPart S [.ref r0, .int x1, .int x2, .int x3, .int x4] h Q := by
  refine Ok.of (by decide) (Nat.le_of_ble_eq_true rfl) ?_
  refine G_iload_n 1 rfl dX12_buildPart_0 rfl ?_
  refine G_if_ne (tgt := 23) dX12_buildPart_1 (by decide) (fun c1 => ?_) (fun c1 => ?_)
  · have w := w.1 c1
    refine G_iload_n 1 rfl dX12_buildPart_23 rfl ?_
    refine G_iconst (v := 1) dX12_buildPart_24 (by decide) ?_
    refine G_icmp_ne (tgt := 70) dX12_buildPart_25 (by decide) (fun c2 => ?_) (fun c2 => ?_)
    · have w := w.1 c2
      refine G_iload_n 1 rfl dX12_buildPart_70 rfl ?_
      refine G_iconst (v := 2) dX12_buildPart_71 (by decide) ?_
      refine G_icmp_ne (tgt := 137) dX12_buildPart_72 (by decide) (fun c3 => ?_) (fun c3 => ?_)
      · have w := w.1 c3
        refine G_iload_n 1 rfl dX12_buildPart_137 rfl ?_
        refine G_iconst (v := 3) dX12_buildPart_138 (by decide) ?_
        refine G_icmp_ne (tgt := 197) dX12_buildPart_139 (by decide) (fun c4 => ?_) (fun c4 => ?_)
        · have w := w.1 c4
          refine G_iload_n 1 rfl dX12_buildPart_197 rfl ?_
          refine G_iconst (v := 4) dX12_buildPart_198 (by decide) ?_
          refine G_icmp_ne (tgt := 253) dX12_buildPart_199 (by decide) (fun c5 => ?_) (fun c5 => ?_)
          · have w := w.1 c5
            refine G_iload_n 1 rfl dX12_buildPart_253 rfl ?_
            refine G_iconst (v := 5) dX12_buildPart_254 (by decide) ?_
            refine G_icmp_ne (tgt := 302) dX12_buildPart_255 (by decide) (fun c6 => ?_) (fun c6 => ?_)
            · have w := w.1 c6
              refine G_aload_n 0 rfl dX12_buildPart_302 rfl ?_
              refine G_bipush (v := 47) dX12_buildPart_303 (by decide) ?_
              obtain ⟨Q1, ok1, w⟩ := w
              refine G_callV (Z := mX12_add) (As := [.int (47 : Int32)]) (st := []) hL_X12_313 hI_X12_add hS_X12_add hC_X12_add hN_X12 nX12_add (by decide) hs1 rfl rfl rfl (Nat.le_of_ble_eq_true rfl) dX12_buildPart_305 ok1 (fun r_ h_1 z_ => ?_)
              obtain ⟨rfl, q_1⟩ := z_
              have w := w h_1 q_1
              refine G_aload_n 0 rfl dX12_buildPart_308 rfl ?_
              refine G_bipush (v := 42) dX12_buildPart_309 (by decide) ?_
              obtain ⟨Q2, ok2, w⟩ := w
              refine G_callV (Z := mX12_add) (As := [.int (42 : Int32)]) (st := []) hL_X12_313 hI_X12_add hS_X12_add hC_X12_add hN_X12 nX12_add (by decide) hs1 rfl rfl rfl (Nat.le_of_ble_eq_true rfl) dX12_buildPart_311 ok2 (fun r_ h_2 z_ => ?_)
              obtain ⟨rfl, q_2⟩ := z_
              have w := w h_2 q_2
              refine G_aload_n 0 rfl dX12_buildPart_314 rfl ?_
              refine G_iload_n 3 rfl dX12_buildPart_315 rfl ?_
              obtain ⟨Q3, ok3, w⟩ := w
              refine G_callV (Z := mX12_addPart) (As := [.int x3]) (st := []) hL_X12_328 hI_X12_addPart hS_X12_addPart hC_X12_addPart hN_X12 nX12_addPart (by decide) hs1 rfl rfl rfl (Nat.le_of_ble_eq_true rfl) dX12_buildPart_316 ok3 (fun r_ h_3 z_ => ?_)
              obtain ⟨rfl, q_3⟩ := z_
              have w := w h_3 q_3
              refine G_aload_n 0 rfl dX12_buildPart_319 rfl ?_
              refine G_iload 4 rfl dX12_buildPart_320 ?_
              refine G_iconst (v := 1) dX12_buildPart_322 (by decide) ?_
              refine G_iadd dX12_buildPart_323 ?_
              refine G_aload_n 0 rfl dX12_buildPart_324 rfl ?_
              refine G_getr (j := r0_sizeOf) (k := 15) hs1 (q := (RX12, TX12, 40)) rfl inX12 (by decide) rfl hF_X12_25 dX12_buildPart_325 ?_
              refine G_iload 4 rfl dX12_buildPart_328 ?_
              refine G_iconst (v := 1) dX12_buildPart_330 (by decide) ?_
              refine G_iadd dX12_buildPart_331 ?_
              obtain ⟨sd1, w⟩ := w
              refine G_iald hs2 sd1 dX12_buildPart_332 ?_
              refine G_iadd dX12_buildPart_333 ?_
              obtain ⟨Q4, ok4, w⟩ := w
              refine G_callV (Z := mX12_addPart) (As := [.int ((x4 + (1 : Int32)) + (h_3.2.2.1 r0_sizeOf (x4 + (1 : Int32)).toNatClampNeg))]) (st := []) hL_X12_328 hI_X12_addPart hS_X12_addPart hC_X12_addPart hN_X12 nX12_addPart (by decide) hs1 rfl rfl rfl (Nat.le_of_ble_eq_true rfl) dX12_buildPart_334 ok4 (fun r_ h_4 z_ => ?_)
              obtain ⟨rfl, q_4⟩ := z_
              have w := w h_4 q_4
              refine G_aload_n 0 rfl dX12_buildPart_337 rfl ?_
              refine G_iload 4 rfl dX12_buildPart_338 ?_
              refine G_iconst (v := 1) dX12_buildPart_340 (by decide) ?_
              refine G_iadd dX12_buildPart_341 ?_
              obtain ⟨Q5, ok5, w⟩ := w
              refine G_callV (Z := mX12_addPart) (As := [.int (x4 + (1 : Int32))]) (st := []) hL_X12_328 hI_X12_addPart hS_X12_addPart hC_X12_addPart hN_X12 nX12_addPart (by decide) hs1 rfl rfl rfl (Nat.le_of_ble_eq_true rfl) dX12_buildPart_342 ok5 (fun r_ h_5 z_ => ?_)
              obtain ⟨rfl, q_5⟩ := z_
              have w := w h_5 q_5
              exact G_vret rfl dX12_buildPart_345 ⟨rfl, w⟩
            · have w := w.2 c6
              refine G_aload_n 0 rfl dX12_buildPart_258 rfl ?_
              refine G_bipush (v := 45) dX12_buildPart_259 (by decide) ?_
              obtain ⟨Q6, ok6, w⟩ := w
              refine G_callV (Z := mX12_add) (As := [.int (45 : Int32)]) (st := []) hL_X12_313 hI_X12_add hS_X12_add hC_X12_add hN_X12 nX12_add (by decide) hs1 rfl rfl rfl (Nat.le_of_ble_eq_true rfl) dX12_buildPart_261 ok6 (fun r_ h_6 z_ => ?_)
              obtain ⟨rfl, q_6⟩ := z_
              have w := w h_6 q_6
              refine G_aload_n 0 rfl dX12_buildPart_264 rfl ?_
              refine G_iload_n 3 rfl dX12_buildPart_265 rfl ?_
              refine G_iconst (v := 1) dX12_buildPart_266 (by decide) ?_
              refine G_iadd dX12_buildPart_267 ?_
              obtain ⟨Q7, ok7, w⟩ := w
              refine G_callV (Z := mX12_addPart) (As := [.int (x3 + (1 : Int32))]) (st := []) hL_X12_328 hI_X12_addPart hS_X12_addPart hC_X12_addPart hN_X12 nX12_addPart (by decide) hs1 rfl rfl rfl (Nat.le_of_ble_eq_true rfl) dX12_buildPart_268 ok7 (fun r_ h_7 z_ => ?_)
              obtain ⟨rfl, q_7⟩ := z_
              have w := w h_7 q_7
              refine G_aload_n 0 rfl dX12_buildPart_271 rfl ?_
              refine G_bipush (v := 43) dX12_buildPart_272 (by decide) ?_
              obtain ⟨Q8, ok8, w⟩ := w
              refine G_callV (Z := mX12_add) (As := [.int (43 : Int32)]) (st := []) hL_X12_313 hI_X12_add hS_X12_add hC_X12_add hN_X12 nX12_add (by decide) hs1 rfl rfl rfl (Nat.le_of_ble_eq_true rfl) dX12_buildPart_274 ok8 (fun r_ h_8 z_ => ?_)
              obtain ⟨rfl, q_8⟩ := z_
              have w := w h_8 q_8
              refine G_aload_n 0 rfl dX12_buildPart_277 rfl ?_
              refine G_iload_n 3 rfl dX12_buildPart_278 rfl ?_
              refine G_iconst (v := 1) dX12_buildPart_279 (by decide) ?_
              refine G_iadd dX12_buildPart_280 ?_
              refine G_aload_n 0 rfl dX12_buildPart_281 rfl ?_
              refine G_getr (j := r0_sizeOf) (k := 15) hs1 (q := (RX12, TX12, 40)) rfl inX12 (by decide) rfl hF_X12_25 dX12_buildPart_282 ?_
              refine G_iload_n 3 rfl dX12_buildPart_285 rfl ?_
              refine G_iconst (v := 1) dX12_buildPart_286 (by decide) ?_
              refine G_iadd dX12_buildPart_287 ?_
              obtain ⟨sd1, w⟩ := w
              refine G_iald hs2 sd1 dX12_buildPart_288 ?_
              refine G_iadd dX12_buildPart_289 ?_
              obtain ⟨Q9, ok9, w⟩ := w
              refine G_callV (Z := mX12_addPart) (As := [.int ((x3 + (1 : Int32)) + (h_8.2.2.1 r0_sizeOf (x3 + (1 : Int32)).toNatClampNeg))]) (st := []) hL_X12_328 hI_X12_addPart hS_X12_addPart hC_X12_addPart hN_X12 nX12_addPart (by decide) hs1 rfl rfl rfl (Nat.le_of_ble_eq_true rfl) dX12_buildPart_290 ok9 (fun r_ h_9 z_ => ?_)
              obtain ⟨rfl, q_9⟩ := z_
              have w := w h_9 q_9
              refine G_aload_n 0 rfl dX12_buildPart_293 rfl ?_
              refine G_iload 4 rfl dX12_buildPart_294 ?_
              obtain ⟨Q10, ok10, w⟩ := w
              refine G_callV (Z := mX12_addPart) (As := [.int x4]) (st := []) hL_X12_328 hI_X12_addPart hS_X12_addPart hC_X12_addPart hN_X12 nX12_addPart (by decide) hs1 rfl rfl rfl (Nat.le_of_ble_eq_true rfl) dX12_buildPart_296 ok10 (fun r_ h_10 z_ => ?_)
              obtain ⟨rfl, q_10⟩ := z_
              have w := w h_10 q_10
              refine G_goto (tgt := 345) dX12_buildPart_299 (by decide) ?_
              exact G_vret rfl dX12_buildPart_345 ⟨rfl, w⟩
          · have w := w.2 c5
            refine G_aload_n 0 rfl dX12_buildPart_202 rfl ?_
            refine G_bipush (v := 42) dX12_buildPart_203 (by decide) ?_
            obtain ⟨Q11, ok11, w⟩ := w
            refine G_callV (Z := mX12_add) (As := [.int (42 : Int32)]) (st := []) hL_X12_313 hI_X12_add hS_X12_add hC_X12_add hN_X12 nX12_add (by decide) hs1 rfl rfl rfl (Nat.le_of_ble_eq_true rfl) dX12_buildPart_205 ok11 (fun r_ h_11 z_ => ?_)
            obtain ⟨rfl, q_11⟩ := z_
            have w := w h_11 q_11
            refine G_aload_n 0 rfl dX12_buildPart_208 rfl ?_
            refine G_bipush (v := 45) dX12_buildPart_209 (by decide) ?_
            obtain ⟨Q12, ok12, w⟩ := w
            refine G_callV (Z := mX12_add) (As := [.int (45 : Int32)]) (st := []) hL_X12_313 hI_X12_add hS_X12_add hC_X12_add hN_X12 nX12_add (by decide) hs1 rfl rfl rfl (Nat.le_of_ble_eq_true rfl) dX12_buildPart_211 ok12 (fun r_ h_12 z_ => ?_)
            obtain ⟨rfl, q_12⟩ := z_
            have w := w h_12 q_12
            refine G_aload_n 0 rfl dX12_buildPart_214 rfl ?_
            refine G_iload_n 3 rfl dX12_buildPart_215 rfl ?_
            refine G_iconst (v := 1) dX12_buildPart_216 (by decide) ?_
            refine G_iadd dX12_buildPart_217 ?_
            obtain ⟨Q13, ok13, w⟩ := w
            refine G_callV (Z := mX12_addPart) (As := [.int (x3 + (1 : Int32))]) (st := []) hL_X12_328 hI_X12_addPart hS_X12_addPart hC_X12_addPart hN_X12 nX12_addPart (by decide) hs1 rfl rfl rfl (Nat.le_of_ble_eq_true rfl) dX12_buildPart_218 ok13 (fun r_ h_13 z_ => ?_)
            obtain ⟨rfl, q_13⟩ := z_
            have w := w h_13 q_13
            refine G_aload_n 0 rfl dX12_buildPart_221 rfl ?_
            refine G_iload 4 rfl dX12_buildPart_222 ?_
            refine G_iconst (v := 1) dX12_buildPart_224 (by decide) ?_
            refine G_iadd dX12_buildPart_225 ?_
            obtain ⟨Q14, ok14, w⟩ := w
            refine G_callV (Z := mX12_addPart) (As := [.int (x4 + (1 : Int32))]) (st := []) hL_X12_328 hI_X12_addPart hS_X12_addPart hC_X12_addPart hN_X12 nX12_addPart (by decide) hs1 rfl rfl rfl (Nat.le_of_ble_eq_true rfl) dX12_buildPart_226 ok14 (fun r_ h_14 z_ => ?_)
            obtain ⟨rfl, q_14⟩ := z_
            have w := w h_14 q_14
            refine G_aload_n 0 rfl dX12_buildPart_229 rfl ?_
            refine G_bipush (v := 43) dX12_buildPart_230 (by decide) ?_
            obtain ⟨Q15, ok15, w⟩ := w
            refine G_callV (Z := mX12_add) (As := [.int (43 : Int32)]) (st := []) hL_X12_313 hI_X12_add hS_X12_add hC_X12_add hN_X12 nX12_add (by decide) hs1 rfl rfl rfl (Nat.le_of_ble_eq_true rfl) dX12_buildPart_232 ok15 (fun r_ h_15 z_ => ?_)
            obtain ⟨rfl, q_15⟩ := z_
            have w := w h_15 q_15
            refine G_aload_n 0 rfl dX12_buildPart_235 rfl ?_
            refine G_iload_n 3 rfl dX12_buildPart_236 rfl ?_
            refine G_iconst (v := 1) dX12_buildPart_237 (by decide) ?_
            refine G_iadd dX12_buildPart_238 ?_
            obtain ⟨Q16, ok16, w⟩ := w
            refine G_callV (Z := mX12_addPart) (As := [.int (x3 + (1 : Int32))]) (st := []) hL_X12_328 hI_X12_addPart hS_X12_addPart hC_X12_addPart hN_X12 nX12_addPart (by decide) hs1 rfl rfl rfl (Nat.le_of_ble_eq_true rfl) dX12_buildPart_239 ok16 (fun r_ h_16 z_ => ?_)
            obtain ⟨rfl, q_16⟩ := z_
            have w := w h_16 q_16
            refine G_aload_n 0 rfl dX12_buildPart_242 rfl ?_
            refine G_iload 4 rfl dX12_buildPart_243 ?_
            refine G_iconst (v := 1) dX12_buildPart_245 (by decide) ?_
            refine G_iadd dX12_buildPart_246 ?_
            obtain ⟨Q17, ok17, w⟩ := w
            refine G_callV (Z := mX12_addPart) (As := [.int (x4 + (1 : Int32))]) (st := []) hL_X12_328 hI_X12_addPart hS_X12_addPart hC_X12_addPart hN_X12 nX12_addPart (by decide) hs1 rfl rfl rfl (Nat.le_of_ble_eq_true rfl) dX12_buildPart_247 ok17 (fun r_ h_17 z_ => ?_)
            obtain ⟨rfl, q_17⟩ := z_
            have w := w h_17 q_17
            refine G_goto (tgt := 345) dX12_buildPart_250 (by decide) ?_
            exact G_vret rfl dX12_buildPart_345 ⟨rfl, w⟩
        · have w := w.2 c4
          refine G_aload_n 0 rfl dX12_buildPart_142 rfl ?_
          refine G_bipush (v := 42) dX12_buildPart_143 (by decide) ?_
          obtain ⟨Q18, ok18, w⟩ := w
          refine G_callV (Z := mX12_add) (As := [.int (42 : Int32)]) (st := []) hL_X12_313 hI_X12_add hS_X12_add hC_X12_add hN_X12 nX12_add (by decide) hs1 rfl rfl rfl (Nat.le_of_ble_eq_true rfl) dX12_buildPart_145 ok18 (fun r_ h_18 z_ => ?_)
          obtain ⟨rfl, q_18⟩ := z_
          have w := w h_18 q_18
          refine G_aload_n 0 rfl dX12_buildPart_148 rfl ?_
          refine G_iload_n 3 rfl dX12_buildPart_149 rfl ?_
          refine G_iconst (v := 1) dX12_buildPart_150 (by decide) ?_
          refine G_iadd dX12_buildPart_151 ?_
          obtain ⟨Q19, ok19, w⟩ := w
          refine G_callV (Z := mX12_addPart) (As := [.int (x3 + (1 : Int32))]) (st := []) hL_X12_328 hI_X12_addPart hS_X12_addPart hC_X12_addPart hN_X12 nX12_addPart (by decide) hs1 rfl rfl rfl (Nat.le_of_ble_eq_true rfl) dX12_buildPart_152 ok19 (fun r_ h_19 z_ => ?_)
          obtain ⟨rfl, q_19⟩ := z_
          have w := w h_19 q_19
          refine G_aload_n 0 rfl dX12_buildPart_155 rfl ?_
          refine G_iload_n 2 rfl dX12_buildPart_156 rfl ?_
          obtain ⟨Q20, ok20, w⟩ := w
          refine G_callV (Z := mX12_add) (As := [.int x2]) (st := []) hL_X12_313 hI_X12_add hS_X12_add hC_X12_add hN_X12 nX12_add (by decide) hs1 rfl rfl rfl (Nat.le_of_ble_eq_true rfl) dX12_buildPart_157 ok20 (fun r_ h_20 z_ => ?_)
          obtain ⟨rfl, q_20⟩ := z_
          have w := w h_20 q_20
          refine G_aload_n 0 rfl dX12_buildPart_160 rfl ?_
          refine G_iload_n 3 rfl dX12_buildPart_161 rfl ?_
          refine G_iconst (v := 1) dX12_buildPart_162 (by decide) ?_
          refine G_iadd dX12_buildPart_163 ?_
          refine G_aload_n 0 rfl dX12_buildPart_164 rfl ?_
          refine G_getr (j := r0_sizeOf) (k := 15) hs1 (q := (RX12, TX12, 40)) rfl inX12 (by decide) rfl hF_X12_25 dX12_buildPart_165 ?_
          refine G_iload_n 3 rfl dX12_buildPart_168 rfl ?_
          refine G_iconst (v := 1) dX12_buildPart_169 (by decide) ?_
          refine G_iadd dX12_buildPart_170 ?_
          obtain ⟨sd1, w⟩ := w
          refine G_iald hs2 sd1 dX12_buildPart_171 ?_
          refine G_iadd dX12_buildPart_172 ?_
          obtain ⟨Q21, ok21, w⟩ := w
          refine G_callV (Z := mX12_addPart) (As := [.int ((x3 + (1 : Int32)) + (h_20.2.2.1 r0_sizeOf (x3 + (1 : Int32)).toNatClampNeg))]) (st := []) hL_X12_328 hI_X12_addPart hS_X12_addPart hC_X12_addPart hN_X12 nX12_addPart (by decide) hs1 rfl rfl rfl (Nat.le_of_ble_eq_true rfl) dX12_buildPart_173 ok21 (fun r_ h_21 z_ => ?_)
          obtain ⟨rfl, q_21⟩ := z_
          have w := w h_21 q_21
          refine G_aload_n 0 rfl dX12_buildPart_176 rfl ?_
          refine G_iload 4 rfl dX12_buildPart_177 ?_
          refine G_iconst (v := 1) dX12_buildPart_179 (by decide) ?_
          refine G_iadd dX12_buildPart_180 ?_
          refine G_aload_n 0 rfl dX12_buildPart_181 rfl ?_
          refine G_getr (j := r0_sizeOf) (k := 15) hs1 (q := (RX12, TX12, 40)) rfl inX12 (by decide) rfl hF_X12_25 dX12_buildPart_182 ?_
          refine G_iload 4 rfl dX12_buildPart_185 ?_
          refine G_iconst (v := 1) dX12_buildPart_187 (by decide) ?_
          refine G_iadd dX12_buildPart_188 ?_
          obtain ⟨sd2, w⟩ := w
          refine G_iald hs2 sd2 dX12_buildPart_189 ?_
          refine G_iadd dX12_buildPart_190 ?_
          obtain ⟨Q22, ok22, w⟩ := w
          refine G_callV (Z := mX12_addPart) (As := [.int ((x4 + (1 : Int32)) + (h_21.2.2.1 r0_sizeOf (x4 + (1 : Int32)).toNatClampNeg))]) (st := []) hL_X12_328 hI_X12_addPart hS_X12_addPart hC_X12_addPart hN_X12 nX12_addPart (by decide) hs1 rfl rfl rfl (Nat.le_of_ble_eq_true rfl) dX12_buildPart_191 ok22 (fun r_ h_22 z_ => ?_)
          obtain ⟨rfl, q_22⟩ := z_
          have w := w h_22 q_22
          refine G_goto (tgt := 345) dX12_buildPart_194 (by decide) ?_
          exact G_vret rfl dX12_buildPart_345 ⟨rfl, w⟩
      · have w := w.2 c3
        refine G_aload_n 0 rfl dX12_buildPart_75 rfl ?_
        refine G_aload_n 0 rfl dX12_buildPart_76 rfl ?_
        refine G_getr (j := r0_now) (k := 13) hs1 (q := (RX12, TX12, 40)) rfl inX12 (by decide) rfl hF_X12_22 dX12_buildPart_77 ?_
        refine G_iload 4 rfl dX12_buildPart_80 ?_
        obtain ⟨sd1, w⟩ := w
        refine G_iald hs3 sd1 dX12_buildPart_82 ?_
        obtain ⟨Q23, ok23, w⟩ := w
        refine G_callV (Z := mX12_add) (As := [.int (h.2.2.1 r0_now x4.toNatClampNeg)]) (st := []) hL_X12_313 hI_X12_add hS_X12_add hC_X12_add hN_X12 nX12_add (by decide) hs1 rfl rfl rfl (Nat.le_of_ble_eq_true rfl) dX12_buildPart_83 ok23 (fun r_ h_23 z_ => ?_)
        obtain ⟨rfl, q_23⟩ := z_
        have w := w h_23 q_23
        refine G_aload_n 0 rfl dX12_buildPart_86 rfl ?_
        refine G_bipush (v := 42) dX12_buildPart_87 (by decide) ?_
        obtain ⟨Q24, ok24, w⟩ := w
        refine G_callV (Z := mX12_add) (As := [.int (42 : Int32)]) (st := []) hL_X12_313 hI_X12_add hS_X12_add hC_X12_add hN_X12 nX12_add (by decide) hs1 rfl rfl rfl (Nat.le_of_ble_eq_true rfl) dX12_buildPart_89 ok24 (fun r_ h_24 z_ => ?_)
        obtain ⟨rfl, q_24⟩ := z_
        have w := w h_24 q_24
        refine G_aload_n 0 rfl dX12_buildPart_92 rfl ?_
        refine G_iload_n 3 rfl dX12_buildPart_93 rfl ?_
        obtain ⟨Q25, ok25, w⟩ := w
        refine G_callV (Z := mX12_addPart) (As := [.int x3]) (st := []) hL_X12_328 hI_X12_addPart hS_X12_addPart hC_X12_addPart hN_X12 nX12_addPart (by decide) hs1 rfl rfl rfl (Nat.le_of_ble_eq_true rfl) dX12_buildPart_94 ok25 (fun r_ h_25 z_ => ?_)
        obtain ⟨rfl, q_25⟩ := z_
        have w := w h_25 q_25
        refine G_aload_n 0 rfl dX12_buildPart_97 rfl ?_
        refine G_iload 4 rfl dX12_buildPart_98 ?_
        refine G_iconst (v := 1) dX12_buildPart_100 (by decide) ?_
        refine G_iadd dX12_buildPart_101 ?_
        obtain ⟨Q26, ok26, w⟩ := w
        refine G_callV (Z := mX12_addPart) (As := [.int (x4 + (1 : Int32))]) (st := []) hL_X12_328 hI_X12_addPart hS_X12_addPart hC_X12_addPart hN_X12 nX12_addPart (by decide) hs1 rfl rfl rfl (Nat.le_of_ble_eq_true rfl) dX12_buildPart_102 ok26 (fun r_ h_26 z_ => ?_)
        obtain ⟨rfl, q_26⟩ := z_
        have w := w h_26 q_26
        refine G_aload_n 0 rfl dX12_buildPart_105 rfl ?_
        refine G_bipush (v := 42) dX12_buildPart_106 (by decide) ?_
        obtain ⟨Q27, ok27, w⟩ := w
        refine G_callV (Z := mX12_add) (As := [.int (42 : Int32)]) (st := []) hL_X12_313 hI_X12_add hS_X12_add hC_X12_add hN_X12 nX12_add (by decide) hs1 rfl rfl rfl (Nat.le_of_ble_eq_true rfl) dX12_buildPart_108 ok27 (fun r_ h_27 z_ => ?_)
        obtain ⟨rfl, q_27⟩ := z_
        have w := w h_27 q_27
        refine G_aload_n 0 rfl dX12_buildPart_111 rfl ?_
        refine G_iload_n 3 rfl dX12_buildPart_112 rfl ?_
        obtain ⟨Q28, ok28, w⟩ := w
        refine G_callV (Z := mX12_addPart) (As := [.int x3]) (st := []) hL_X12_328 hI_X12_addPart hS_X12_addPart hC_X12_addPart hN_X12 nX12_addPart (by decide) hs1 rfl rfl rfl (Nat.le_of_ble_eq_true rfl) dX12_buildPart_113 ok28 (fun r_ h_28 z_ => ?_)
        obtain ⟨rfl, q_28⟩ := z_
        have w := w h_28 q_28
        refine G_aload_n 0 rfl dX12_buildPart_116 rfl ?_
        refine G_iload 4 rfl dX12_buildPart_117 ?_
        refine G_iconst (v := 1) dX12_buildPart_119 (by decide) ?_
        refine G_iadd dX12_buildPart_120 ?_
        refine G_aload_n 0 rfl dX12_buildPart_121 rfl ?_
        refine G_getr (j := r0_sizeOf) (k := 15) hs1 (q := (RX12, TX12, 40)) rfl inX12 (by decide) rfl hF_X12_25 dX12_buildPart_122 ?_
        refine G_iload 4 rfl dX12_buildPart_125 ?_
        refine G_iconst (v := 1) dX12_buildPart_127 (by decide) ?_
        refine G_iadd dX12_buildPart_128 ?_
        obtain ⟨sd2, w⟩ := w
        refine G_iald hs2 sd2 dX12_buildPart_129 ?_
        refine G_iadd dX12_buildPart_130 ?_
        obtain ⟨Q29, ok29, w⟩ := w
        refine G_callV (Z := mX12_addPart) (As := [.int ((x4 + (1 : Int32)) + (h_28.2.2.1 r0_sizeOf (x4 + (1 : Int32)).toNatClampNeg))]) (st := []) hL_X12_328 hI_X12_addPart hS_X12_addPart hC_X12_addPart hN_X12 nX12_addPart (by decide) hs1 rfl rfl rfl (Nat.le_of_ble_eq_true rfl) dX12_buildPart_131 ok29 (fun r_ h_29 z_ => ?_)
        obtain ⟨rfl, q_29⟩ := z_
        have w := w h_29 q_29
        refine G_goto (tgt := 345) dX12_buildPart_134 (by decide) ?_
        exact G_vret rfl dX12_buildPart_345 ⟨rfl, w⟩
    · have w := w.2 c2
      refine G_aload_n 0 rfl dX12_buildPart_28 rfl ?_
      refine G_iload_n 2 rfl dX12_buildPart_29 rfl ?_
      obtain ⟨Q30, ok30, w⟩ := w
      refine G_callV (Z := mX12_add) (As := [.int x2]) (st := []) hL_X12_313 hI_X12_add hS_X12_add hC_X12_add hN_X12 nX12_add (by decide) hs1 rfl rfl rfl (Nat.le_of_ble_eq_true rfl) dX12_buildPart_30 ok30 (fun r_ h_30 z_ => ?_)
      obtain ⟨rfl, q_30⟩ := z_
      have w := w h_30 q_30
      refine G_aload_n 0 rfl dX12_buildPart_33 rfl ?_
      refine G_iload_n 3 rfl dX12_buildPart_34 rfl ?_
      refine G_iconst (v := 1) dX12_buildPart_35 (by decide) ?_
      refine G_iadd dX12_buildPart_36 ?_
      obtain ⟨Q31, ok31, w⟩ := w
      refine G_callV (Z := mX12_addPart) (As := [.int (x3 + (1 : Int32))]) (st := []) hL_X12_328 hI_X12_addPart hS_X12_addPart hC_X12_addPart hN_X12 nX12_addPart (by decide) hs1 rfl rfl rfl (Nat.le_of_ble_eq_true rfl) dX12_buildPart_37 ok31 (fun r_ h_31 z_ => ?_)
      obtain ⟨rfl, q_31⟩ := z_
      have w := w h_31 q_31
      refine G_aload_n 0 rfl dX12_buildPart_40 rfl ?_
      refine G_iload_n 2 rfl dX12_buildPart_41 rfl ?_
      obtain ⟨Q32, ok32, w⟩ := w
      refine G_callV (Z := mX12_add) (As := [.int x2]) (st := []) hL_X12_313 hI_X12_add hS_X12_add hC_X12_add hN_X12 nX12_add (by decide) hs1 rfl rfl rfl (Nat.le_of_ble_eq_true rfl) dX12_buildPart_42 ok32 (fun r_ h_32 z_ => ?_)
      obtain ⟨rfl, q_32⟩ := z_
      have w := w h_32 q_32
      refine G_aload_n 0 rfl dX12_buildPart_45 rfl ?_
      refine G_iload_n 3 rfl dX12_buildPart_46 rfl ?_
      refine G_iconst (v := 1) dX12_buildPart_47 (by decide) ?_
      refine G_iadd dX12_buildPart_48 ?_
      refine G_aload_n 0 rfl dX12_buildPart_49 rfl ?_
      refine G_getr (j := r0_sizeOf) (k := 15) hs1 (q := (RX12, TX12, 40)) rfl inX12 (by decide) rfl hF_X12_25 dX12_buildPart_50 ?_
      refine G_iload_n 3 rfl dX12_buildPart_53 rfl ?_
      refine G_iconst (v := 1) dX12_buildPart_54 (by decide) ?_
      refine G_iadd dX12_buildPart_55 ?_
      obtain ⟨sd1, w⟩ := w
      refine G_iald hs2 sd1 dX12_buildPart_56 ?_
      refine G_iadd dX12_buildPart_57 ?_
      obtain ⟨Q33, ok33, w⟩ := w
      refine G_callV (Z := mX12_addPart) (As := [.int ((x3 + (1 : Int32)) + (h_32.2.2.1 r0_sizeOf (x3 + (1 : Int32)).toNatClampNeg))]) (st := []) hL_X12_328 hI_X12_addPart hS_X12_addPart hC_X12_addPart hN_X12 nX12_addPart (by decide) hs1 rfl rfl rfl (Nat.le_of_ble_eq_true rfl) dX12_buildPart_58 ok33 (fun r_ h_33 z_ => ?_)
      obtain ⟨rfl, q_33⟩ := z_
      have w := w h_33 q_33
      refine G_aload_n 0 rfl dX12_buildPart_61 rfl ?_
      refine G_iload 4 rfl dX12_buildPart_62 ?_
      obtain ⟨Q34, ok34, w⟩ := w
      refine G_callV (Z := mX12_addPart) (As := [.int x4]) (st := []) hL_X12_328 hI_X12_addPart hS_X12_addPart hC_X12_addPart hN_X12 nX12_addPart (by decide) hs1 rfl rfl rfl (Nat.le_of_ble_eq_true rfl) dX12_buildPart_64 ok34 (fun r_ h_34 z_ => ?_)
      obtain ⟨rfl, q_34⟩ := z_
      have w := w h_34 q_34
      refine G_goto (tgt := 345) dX12_buildPart_67 (by decide) ?_
      exact G_vret rfl dX12_buildPart_345 ⟨rfl, w⟩
  · have w := w.2 c1
    refine G_aload_n 0 rfl dX12_buildPart_4 rfl ?_
    refine G_iload_n 2 rfl dX12_buildPart_5 rfl ?_
    obtain ⟨Q35, ok35, w⟩ := w
    refine G_callV (Z := mX12_add) (As := [.int x2]) (st := []) hL_X12_313 hI_X12_add hS_X12_add hC_X12_add hN_X12 nX12_add (by decide) hs1 rfl rfl rfl (Nat.le_of_ble_eq_true rfl) dX12_buildPart_6 ok35 (fun r_ h_35 z_ => ?_)
    obtain ⟨rfl, q_35⟩ := z_
    have w := w h_35 q_35
    refine G_aload_n 0 rfl dX12_buildPart_9 rfl ?_
    refine G_iload 4 rfl dX12_buildPart_10 ?_
    obtain ⟨Q36, ok36, w⟩ := w
    refine G_callV (Z := mX12_addPart) (As := [.int x4]) (st := []) hL_X12_328 hI_X12_addPart hS_X12_addPart hC_X12_addPart hN_X12 nX12_addPart (by decide) hs1 rfl rfl rfl (Nat.le_of_ble_eq_true rfl) dX12_buildPart_12 ok36 (fun r_ h_36 z_ => ?_)
    obtain ⟨rfl, q_36⟩ := z_
    have w := w h_36 q_36
    refine G_aload_n 0 rfl dX12_buildPart_15 rfl ?_
    refine G_iload_n 3 rfl dX12_buildPart_16 rfl ?_
    obtain ⟨Q37, ok37, w⟩ := w
    refine G_callV (Z := mX12_addPart) (As := [.int x3]) (st := []) hL_X12_328 hI_X12_addPart hS_X12_addPart hC_X12_addPart hN_X12 nX12_addPart (by decide) hs1 rfl rfl rfl (Nat.le_of_ble_eq_true rfl) dX12_buildPart_17 ok37 (fun r_ h_37 z_ => ?_)
    obtain ⟨rfl, q_37⟩ := z_
    have w := w h_37 q_37
    refine G_goto (tgt := 345) dX12_buildPart_20 (by decide) ?_
    exact G_vret rfl dX12_buildPart_345 ⟨rfl, w⟩
-- LostDigitsModel.isRule
theorem dX12_isRule_0 : decode cX12_isRule 0 = .ok (.iload_n 0, 1) := by decide +kernel
theorem dX12_isRule_1 : decode cX12_isRule 1 = .ok (.i2l, 1) := by decide +kernel
theorem dX12_isRule_2 : decode cX12_isRule 2 = .ok (.lconst 0, 1) := by decide +kernel
theorem dX12_isRule_3 : decode cX12_isRule 3 = .ok (.ldc2_w 331, 3) := by decide +kernel
theorem dX12_isRule_6 : decode cX12_isRule 6 = .ok (.invokestatic 82, 3) := by decide +kernel
theorem dX12_isRule_9 : decode cX12_isRule 9 = .ok (.ireturn, 1) := by decide +kernel
set_option maxRecDepth 10000 in
theorem TX12_isRule_0 {d : Nat} {S : fW} {h : fH} {Q : Int32 → fH → Prop} {x0 : Int32} {Q1 : Int32 → fH → Prop} 
    (ok1 : OkI d mX12_in S [.long x0.toInt64, .long (0 : Int64), .long (6 : Int64)] h Q1)
    (k1 : ∀ v_1 h_1, Q1 v_1 h_1 → Q v_1 h_1)
    (sd1 : ∀ v_1 h_1, Q1 v_1 h_1 → v_1 = 0 ∨ v_1 = 1) :
    OkI (d + 1) mX12_isRule S [.int x0] h Q := by
  refine Ok.of (by decide) (Nat.le_of_ble_eq_true rfl) ?_
  refine G_iload_n 0 rfl dX12_isRule_0 rfl ?_
  refine G_i2l dX12_isRule_1 ?_
  refine G_lconst (v := 0) dX12_isRule_2 (by decide) ?_
  refine G_ldc2 hK_X12_331 dX12_isRule_3 ?_
  refine G_callS (Z := mX12_in) (As := [.long x0.toInt64, .long (0 : Int64), .long (6 : Int64)]) (st := []) hL_X12_82 hT_X12_in hC_X12_in hN_X12 nX12_in (by decide) rfl (Nat.le_of_ble_eq_true rfl) dX12_isRule_6 (ok1) (fun r_ h_1 z_ => ?_)
  obtain ⟨v_1, rfl, q_1⟩ := z_
  exact G_zret rfl (sd1 v_1 h_1 q_1) dX12_isRule_9 ⟨_, rfl, (k1 v_1 h_1 q_1)⟩
-- LostDigitsModel.fits
theorem dX12_fits_0 : decode cX12_fits 0 = .ok (.aload_n 0, 1) := by decide +kernel
theorem dX12_fits_1 : decode cX12_fits 1 = .ok (.iload_n 2, 1) := by decide +kernel
theorem dX12_fits_2 : decode cX12_fits 2 = .ok (.invokevirtual 183, 3) := by decide +kernel
theorem dX12_fits_5 : decode cX12_fits 5 = .ok (.ifCond .ne 5, 3) := by decide +kernel
theorem dX12_fits_8 : decode cX12_fits 8 = .ok (.iconst (-1), 1) := by decide +kernel
theorem dX12_fits_9 : decode cX12_fits 9 = .ok (.ireturn, 1) := by decide +kernel
theorem dX12_fits_10 : decode cX12_fits 10 = .ok (.iload_n 1, 1) := by decide +kernel
theorem dX12_fits_11 : decode cX12_fits 11 = .ok (.invokestatic 333, 3) := by decide +kernel
theorem dX12_fits_14 : decode cX12_fits 14 = .ok (.ifCond .ne 6, 3) := by decide +kernel
theorem dX12_fits_17 : decode cX12_fits 17 = .ok (.bipush (-2), 2) := by decide +kernel
theorem dX12_fits_19 : decode cX12_fits 19 = .ok (.ireturn, 1) := by decide +kernel
theorem dX12_fits_20 : decode cX12_fits 20 = .ok (.aload_n 0, 1) := by decide +kernel
theorem dX12_fits_21 : decode cX12_fits 21 = .ok (.invokevirtual 223, 3) := by decide +kernel
theorem dX12_fits_24 : decode cX12_fits 24 = .ok (.aload_n 0, 1) := by decide +kernel
theorem dX12_fits_25 : decode cX12_fits 25 = .ok (.iload_n 1, 1) := by decide +kernel
theorem dX12_fits_26 : decode cX12_fits 26 = .ok (.iload_n 2, 1) := by decide +kernel
theorem dX12_fits_27 : decode cX12_fits 27 = .ok (.invokevirtual 336, 3) := by decide +kernel
theorem dX12_fits_30 : decode cX12_fits 30 = .ok (.ifCond .eq 7, 3) := by decide +kernel
theorem dX12_fits_33 : decode cX12_fits 33 = .ok (.iconst 1, 1) := by decide +kernel
theorem dX12_fits_34 : decode cX12_fits 34 = .ok (.goto 4, 3) := by decide +kernel
theorem dX12_fits_37 : decode cX12_fits 37 = .ok (.iconst 0, 1) := by decide +kernel
theorem dX12_fits_38 : decode cX12_fits 38 = .ok (.ireturn, 1) := by decide +kernel
set_option maxRecDepth 10000 in
theorem NX12_fits_0 {d : Nat} {S : fW} {h : fH} {Q : Int32 → fH → Prop} {r0 : Nat} {x1 : Int32} {x2 : Int32} {r0_pad r0_text r0_number r0_span r0_now r0_sizeOf r0_workedTo r0_slip r0_exactUpper r0_exactLower r0_more r0_terms r0_order r0_bestOrder r0_low r0_high r0_built r0_better r0_base r0_kept r0_isKept : Nat}  
    (hs1 : (r0, shX12 r0_pad r0_text r0_number r0_span r0_now r0_sizeOf r0_workedTo r0_slip r0_exactUpper r0_exactLower r0_more r0_terms r0_order r0_bestOrder r0_low r0_high r0_built r0_better r0_base r0_kept r0_isKept) ∈ S)
    (w : ∃ Q1 : Int32 → fH → Prop, OkI d mX12_isStep S [.ref r0, .int x2] h Q1 ∧ ∀ (v_1 : Int32) (h_1 : fH), Q1 v_1 h_1 → ((¬ v_1 = 0 → ∃ Q2 : Int32 → fH → Prop, OkI d mX12_isRule S [.int x1] h_1 Q2 ∧ ∀ (v_2 : Int32) (h_2 : fH), Q2 v_2 h_2 → ((¬ v_2 = 0 → ∃ Q3 : fH → Prop, OkV d mX12_layText S [.ref r0] h_2 Q3 ∧ ∀ (h_3 : fH), Q3 h_3 → ∃ Q4 : Int32 → fH → Prop, OkI d mX12_build S [.ref r0, .int x1, .int x2] h_3 Q4 ∧ ∀ (v_4 : Int32) (h_4 : fH), Q4 v_4 h_4 → ((v_4 = 0 → Q (0 : Int32) h_4) ∧ (¬ v_4 = 0 → Q (1 : Int32) h_4))) ∧ (v_2 = 0 → Q (-2 : Int32) h_2))) ∧ (v_1 = 0 → Q (-1 : Int32) h_1))) :
    OkI (d + 1) mX12_fits S [.ref r0, .int x1, .int x2] h Q := by
  refine Ok.of (by decide) (Nat.le_of_ble_eq_true rfl) ?_
  refine G_aload_n 0 rfl dX12_fits_0 rfl ?_
  refine G_iload_n 2 rfl dX12_fits_1 rfl ?_
  obtain ⟨Q1, ok1, w⟩ := w
  refine G_callV (Z := mX12_isStep) (As := [.int x2]) (st := []) hL_X12_183 hI_X12_isStep hS_X12_isStep hC_X12_isStep hN_X12 nX12_isStep (by decide) hs1 rfl rfl rfl (Nat.le_of_ble_eq_true rfl) dX12_fits_2 ok1 (fun r_ h_1 z_ => ?_)
  obtain ⟨v_1, rfl, q_1⟩ := z_
  have w := w v_1 h_1 q_1
  refine G_if_ne (tgt := 10) dX12_fits_5 (by decide) (fun c1 => ?_) (fun c1 => ?_)
  · have w := w.1 c1
    refine G_iload_n 1 rfl dX12_fits_10 rfl ?_
    obtain ⟨Q2, ok2, w⟩ := w
    refine G_callS (Z := mX12_isRule) (As := [.int x1]) (st := []) hL_X12_333 hT_X12_isRule hC_X12_isRule hN_X12 nX12_isRule (by decide) rfl (Nat.le_of_ble_eq_true rfl) dX12_fits_11 ok2 (fun r_ h_2 z_ => ?_)
    obtain ⟨v_2, rfl, q_2⟩ := z_
    have w := w v_2 h_2 q_2
    refine G_if_ne (tgt := 20) dX12_fits_14 (by decide) (fun c2 => ?_) (fun c2 => ?_)
    · have w := w.1 c2
      refine G_aload_n 0 rfl dX12_fits_20 rfl ?_
      obtain ⟨Q3, ok3, w⟩ := w
      refine G_callV (Z := mX12_layText) (As := []) (st := []) hL_X12_223 hI_X12_layText hS_X12_layText hC_X12_layText hN_X12 nX12_layText (by decide) hs1 rfl rfl rfl (Nat.le_of_ble_eq_true rfl) dX12_fits_21 ok3 (fun r_ h_3 z_ => ?_)
      obtain ⟨rfl, q_3⟩ := z_
      have w := w h_3 q_3
      refine G_aload_n 0 rfl dX12_fits_24 rfl ?_
      refine G_iload_n 1 rfl dX12_fits_25 rfl ?_
      refine G_iload_n 2 rfl dX12_fits_26 rfl ?_
      obtain ⟨Q4, ok4, w⟩ := w
      refine G_callV (Z := mX12_build) (As := [.int x1, .int x2]) (st := []) hL_X12_336 hI_X12_build hS_X12_build hC_X12_build hN_X12 nX12_build (by decide) hs1 rfl rfl rfl (Nat.le_of_ble_eq_true rfl) dX12_fits_27 ok4 (fun r_ h_4 z_ => ?_)
      obtain ⟨v_4, rfl, q_4⟩ := z_
      have w := w v_4 h_4 q_4
      refine G_if_eq (tgt := 37) dX12_fits_30 (by decide) (fun c3 => ?_) (fun c3 => ?_)
      · have w := w.1 c3
        refine G_iconst (v := 0) dX12_fits_37 (by decide) ?_
        exact G_iret rfl dX12_fits_38 ⟨_, rfl, w⟩
      · have w := w.2 c3
        refine G_iconst (v := 1) dX12_fits_33 (by decide) ?_
        refine G_goto (tgt := 38) dX12_fits_34 (by decide) ?_
        exact G_iret rfl dX12_fits_38 ⟨_, rfl, w⟩
    · have w := w.2 c2
      refine G_bipush (v := -2) dX12_fits_17 (by decide) ?_
      exact G_iret rfl dX12_fits_19 ⟨_, rfl, w⟩
  · have w := w.2 c1
    refine G_iconst (v := -1) dX12_fits_8 (by decide) ?_
    exact G_iret rfl dX12_fits_9 ⟨_, rfl, w⟩
-- LostDigitsModel.change
theorem dX12_change_0 : decode cX12_change 0 = .ok (.aload_n 0, 1) := by decide +kernel
theorem dX12_change_1 : decode cX12_change 1 = .ok (.iload_n 2, 1) := by decide +kernel
theorem dX12_change_2 : decode cX12_change 2 = .ok (.invokevirtual 183, 3) := by decide +kernel
theorem dX12_change_5 : decode cX12_change 5 = .ok (.ifCond .ne 5, 3) := by decide +kernel
theorem dX12_change_8 : decode cX12_change 8 = .ok (.iconst (-1), 1) := by decide +kernel
theorem dX12_change_9 : decode cX12_change 9 = .ok (.ireturn, 1) := by decide +kernel
theorem dX12_change_10 : decode cX12_change 10 = .ok (.iload_n 1, 1) := by decide +kernel
theorem dX12_change_11 : decode cX12_change 11 = .ok (.invokestatic 333, 3) := by decide +kernel
theorem dX12_change_14 : decode cX12_change 14 = .ok (.ifCond .ne 6, 3) := by decide +kernel
theorem dX12_change_17 : decode cX12_change 17 = .ok (.bipush (-2), 2) := by decide +kernel
theorem dX12_change_19 : decode cX12_change 19 = .ok (.ireturn, 1) := by decide +kernel
theorem dX12_change_20 : decode cX12_change 20 = .ok (.aload_n 0, 1) := by decide +kernel
theorem dX12_change_21 : decode cX12_change 21 = .ok (.invokevirtual 223, 3) := by decide +kernel
theorem dX12_change_24 : decode cX12_change 24 = .ok (.aload_n 0, 1) := by decide +kernel
theorem dX12_change_25 : decode cX12_change 25 = .ok (.iload_n 1, 1) := by decide +kernel
theorem dX12_change_26 : decode cX12_change 26 = .ok (.iload_n 2, 1) := by decide +kernel
theorem dX12_change_27 : decode cX12_change 27 = .ok (.invokevirtual 336, 3) := by decide +kernel
theorem dX12_change_30 : decode cX12_change 30 = .ok (.ifCond .ne 6, 3) := by decide +kernel
theorem dX12_change_33 : decode cX12_change 33 = .ok (.bipush (-5), 2) := by decide +kernel
theorem dX12_change_35 : decode cX12_change 35 = .ok (.ireturn, 1) := by decide +kernel
theorem dX12_change_36 : decode cX12_change 36 = .ok (.iconst 0, 1) := by decide +kernel
theorem dX12_change_37 : decode cX12_change 37 = .ok (.istore_n 3, 1) := by decide +kernel
theorem dX12_change_38 : decode cX12_change 38 = .ok (.iload_n 3, 1) := by decide +kernel
theorem dX12_change_39 : decode cX12_change 39 = .ok (.aload_n 0, 1) := by decide +kernel
theorem dX12_change_40 : decode cX12_change 40 = .ok (.getfield 310, 3) := by decide +kernel
theorem dX12_change_43 : decode cX12_change 43 = .ok (.if_icmp .ge 21, 3) := by decide +kernel
theorem dX12_change_46 : decode cX12_change 46 = .ok (.aload_n 0, 1) := by decide +kernel
theorem dX12_change_47 : decode cX12_change 47 = .ok (.getfield 13, 3) := by decide +kernel
theorem dX12_change_50 : decode cX12_change 50 = .ok (.iload_n 3, 1) := by decide +kernel
theorem dX12_change_51 : decode cX12_change 51 = .ok (.aload_n 0, 1) := by decide +kernel
theorem dX12_change_52 : decode cX12_change 52 = .ok (.getfield 59, 3) := by decide +kernel
theorem dX12_change_55 : decode cX12_change 55 = .ok (.iload_n 3, 1) := by decide +kernel
theorem dX12_change_56 : decode cX12_change 56 = .ok (.iaload, 1) := by decide +kernel
theorem dX12_change_57 : decode cX12_change 57 = .ok (.iastore, 1) := by decide +kernel
theorem dX12_change_58 : decode cX12_change 58 = .ok (.iinc 3 1, 3) := by decide +kernel
theorem dX12_change_61 : decode cX12_change 61 = .ok (.goto (-23), 3) := by decide +kernel
theorem dX12_change_64 : decode cX12_change 64 = .ok (.aload_n 0, 1) := by decide +kernel
theorem dX12_change_65 : decode cX12_change 65 = .ok (.aload_n 0, 1) := by decide +kernel
theorem dX12_change_66 : decode cX12_change 66 = .ok (.getfield 310, 3) := by decide +kernel
theorem dX12_change_69 : decode cX12_change 69 = .ok (.putfield 79, 3) := by decide +kernel
theorem dX12_change_72 : decode cX12_change 72 = .ok (.aload_n 0, 1) := by decide +kernel
theorem dX12_change_73 : decode cX12_change 73 = .ok (.getfield 79, 3) := by decide +kernel
theorem dX12_change_76 : decode cX12_change 76 = .ok (.ireturn, 1) := by decide +kernel
set_option maxRecDepth 10000 in
theorem NX12_change_0 {d : Nat} {S : fW} {h : fH} {Q : Int32 → fH → Prop} {r0 : Nat} {x1 : Int32} {x2 : Int32} {r0_pad r0_text r0_number r0_span r0_now r0_sizeOf r0_workedTo r0_slip r0_exactUpper r0_exactLower r0_more r0_terms r0_order r0_bestOrder r0_low r0_high r0_built r0_better r0_base r0_kept r0_isKept : Nat}  
    (hs1 : (r0, shX12 r0_pad r0_text r0_number r0_span r0_now r0_sizeOf r0_workedTo r0_slip r0_exactUpper r0_exactLower r0_more r0_terms r0_order r0_bestOrder r0_low r0_high r0_built r0_better r0_base r0_kept r0_isKept) ∈ S)
    (w : ∃ Q1 : Int32 → fH → Prop, OkI d mX12_isStep S [.ref r0, .int x2] h Q1 ∧ ∀ (v_1 : Int32) (h_1 : fH), Q1 v_1 h_1 → ((¬ v_1 = 0 → ∃ Q2 : Int32 → fH → Prop, OkI d mX12_isRule S [.int x1] h_1 Q2 ∧ ∀ (v_2 : Int32) (h_2 : fH), Q2 v_2 h_2 → ((¬ v_2 = 0 → ∃ Q3 : fH → Prop, OkV d mX12_layText S [.ref r0] h_2 Q3 ∧ ∀ (h_3 : fH), Q3 h_3 → ∃ Q4 : Int32 → fH → Prop, OkI d mX12_build S [.ref r0, .int x1, .int x2] h_3 Q4 ∧ ∀ (v_4 : Int32) (h_4 : fH), Q4 v_4 h_4 → ((¬ v_4 = 0 → G mX12_change (d + 1) S (f_PI Q) 38 [(0, .ref r0), (3, .int (0 : Int32))] [] h_4) ∧ (v_4 = 0 → Q (-5 : Int32) h_4))) ∧ (v_2 = 0 → Q (-2 : Int32) h_2))) ∧ (v_1 = 0 → Q (-1 : Int32) h_1))) :
    OkI (d + 1) mX12_change S [.ref r0, .int x1, .int x2] h Q := by
  refine Ok.of (by decide) (Nat.le_of_ble_eq_true rfl) ?_
  refine G_aload_n 0 rfl dX12_change_0 rfl ?_
  refine G_iload_n 2 rfl dX12_change_1 rfl ?_
  obtain ⟨Q1, ok1, w⟩ := w
  refine G_callV (Z := mX12_isStep) (As := [.int x2]) (st := []) hL_X12_183 hI_X12_isStep hS_X12_isStep hC_X12_isStep hN_X12 nX12_isStep (by decide) hs1 rfl rfl rfl (Nat.le_of_ble_eq_true rfl) dX12_change_2 ok1 (fun r_ h_1 z_ => ?_)
  obtain ⟨v_1, rfl, q_1⟩ := z_
  have w := w v_1 h_1 q_1
  refine G_if_ne (tgt := 10) dX12_change_5 (by decide) (fun c1 => ?_) (fun c1 => ?_)
  · have w := w.1 c1
    refine G_iload_n 1 rfl dX12_change_10 rfl ?_
    obtain ⟨Q2, ok2, w⟩ := w
    refine G_callS (Z := mX12_isRule) (As := [.int x1]) (st := []) hL_X12_333 hT_X12_isRule hC_X12_isRule hN_X12 nX12_isRule (by decide) rfl (Nat.le_of_ble_eq_true rfl) dX12_change_11 ok2 (fun r_ h_2 z_ => ?_)
    obtain ⟨v_2, rfl, q_2⟩ := z_
    have w := w v_2 h_2 q_2
    refine G_if_ne (tgt := 20) dX12_change_14 (by decide) (fun c2 => ?_) (fun c2 => ?_)
    · have w := w.1 c2
      refine G_aload_n 0 rfl dX12_change_20 rfl ?_
      obtain ⟨Q3, ok3, w⟩ := w
      refine G_callV (Z := mX12_layText) (As := []) (st := []) hL_X12_223 hI_X12_layText hS_X12_layText hC_X12_layText hN_X12 nX12_layText (by decide) hs1 rfl rfl rfl (Nat.le_of_ble_eq_true rfl) dX12_change_21 ok3 (fun r_ h_3 z_ => ?_)
      obtain ⟨rfl, q_3⟩ := z_
      have w := w h_3 q_3
      refine G_aload_n 0 rfl dX12_change_24 rfl ?_
      refine G_iload_n 1 rfl dX12_change_25 rfl ?_
      refine G_iload_n 2 rfl dX12_change_26 rfl ?_
      obtain ⟨Q4, ok4, w⟩ := w
      refine G_callV (Z := mX12_build) (As := [.int x1, .int x2]) (st := []) hL_X12_336 hI_X12_build hS_X12_build hC_X12_build hN_X12 nX12_build (by decide) hs1 rfl rfl rfl (Nat.le_of_ble_eq_true rfl) dX12_change_27 ok4 (fun r_ h_4 z_ => ?_)
      obtain ⟨v_4, rfl, q_4⟩ := z_
      have w := w v_4 h_4 q_4
      refine G_if_ne (tgt := 36) dX12_change_30 (by decide) (fun c3 => ?_) (fun c3 => ?_)
      · have w := w.1 c3
        refine G_iconst (v := 0) dX12_change_36 (by decide) ?_
        refine G_istore_n dX12_change_37 rfl (by decide) (lv' := [(3, .int (0 : Int32)), (0, .ref r0), (1, .int x1), (2, .int x2)]) rfl ?_
        exact G_sub [1, 0] rfl w
      · have w := w.2 c3
        refine G_bipush (v := -5) dX12_change_33 (by decide) ?_
        exact G_iret rfl dX12_change_35 ⟨_, rfl, w⟩
    · have w := w.2 c2
      refine G_bipush (v := -2) dX12_change_17 (by decide) ?_
      exact G_iret rfl dX12_change_19 ⟨_, rfl, w⟩
  · have w := w.2 c1
    refine G_iconst (v := -1) dX12_change_8 (by decide) ?_
    exact G_iret rfl dX12_change_9 ⟨_, rfl, w⟩

set_option maxRecDepth 10000 in
theorem NX12_change_38 {d : Nat} {S : fW} {h : fH} {Q : Int32 → fH → Prop} {r0 : Nat} {x3 : Int32} {r0_pad r0_text r0_number r0_span r0_now r0_sizeOf r0_workedTo r0_slip r0_exactUpper r0_exactLower r0_more r0_terms r0_order r0_bestOrder r0_low r0_high r0_built r0_better r0_base r0_kept r0_isKept : Nat}  
    (hs1 : (r0, shX12 r0_pad r0_text r0_number r0_span r0_now r0_sizeOf r0_workedTo r0_slip r0_exactUpper r0_exactLower r0_more r0_terms r0_order r0_bestOrder r0_low r0_high r0_built r0_better r0_base r0_kept r0_isKept) ∈ S)
    (hs2 : (r0_built, shI 32) ∈ S)
    (hs3 : (r0_text, shI 13) ∈ S)
    (w : (((h.1 r0 30) ≤ x3 → ∀ g_1 : fH, g_1 = u_fi h r0 10 (h.1 r0 30) → Q (g_1.1 r0 10) g_1) ∧ (¬ (h.1 r0 30) ≤ x3 → vp_in x3 32 ∧ vp_in x3 13 ∧ ∀ g_2 : fH, g_2 = u_ai h r0_text (upd (h.2.2.1 r0_text) x3.toNatClampNeg (h.2.2.1 r0_built x3.toNatClampNeg)) → G mX12_change (d + 1) S (f_PI Q) 38 [(0, .ref r0), (3, .int (x3 + 1))] [] g_2))) :
    G mX12_change (d + 1) S (f_PI Q) 38 [(0, .ref r0), (3, .int x3)] [] h := by
  refine G_iload_n 1 rfl dX12_change_38 rfl ?_
  refine G_aload_n 0 rfl dX12_change_39 rfl ?_
  refine G_geti (k := 30) hs1 (q := (RX12, TX12, 40)) rfl inX12 (by decide) (Or.inl rfl) hF_X12_310 dX12_change_40 ?_
  refine G_icmp_ge (tgt := 64) dX12_change_43 (by decide) (fun c1 => ?_) (fun c1 => ?_)
  · have w := w.1 c1
    refine G_aload_n 0 rfl dX12_change_64 rfl ?_
    refine G_aload_n 0 rfl dX12_change_65 rfl ?_
    refine G_geti (k := 30) hs1 (q := (RX12, TX12, 40)) rfl inX12 (by decide) (Or.inl rfl) hF_X12_310 dX12_change_66 ?_
    refine G_puti (k := 10) tyX12 hs1 (q := (RX12, TX12, 40)) rfl inX12 tyX12_ok nmX12 (by decide) rfl rfl rfl hF_X12_79 dX12_change_69 ?_
    refine G_nm (fun g_1 e_1 => ?_)
    have w := w g_1 e_1
    refine G_aload_n 0 rfl dX12_change_72 rfl ?_
    refine G_geti (k := 10) hs1 (q := (RX12, TX12, 40)) rfl inX12 (by decide) (Or.inl rfl) hF_X12_79 dX12_change_73 ?_
    exact G_iret rfl dX12_change_76 ⟨_, rfl, w⟩
  · have w := w.2 c1
    refine G_aload_n 0 rfl dX12_change_46 rfl ?_
    refine G_getr (j := r0_text) (k := 9) hs1 (q := (RX12, TX12, 40)) rfl inX12 (by decide) rfl hF_X12_13 dX12_change_47 ?_
    refine G_iload_n 1 rfl dX12_change_50 rfl ?_
    refine G_aload_n 0 rfl dX12_change_51 rfl ?_
    refine G_getr (j := r0_built) (k := 29) hs1 (q := (RX12, TX12, 40)) rfl inX12 (by decide) rfl hF_X12_59 dX12_change_52 ?_
    refine G_iload_n 1 rfl dX12_change_55 rfl ?_
    obtain ⟨sd1, w⟩ := w
    refine G_iald hs2 sd1 dX12_change_56 ?_
    obtain ⟨sd2, w⟩ := w
    refine G_iast hs3 sd2 dX12_change_57 ?_
    refine G_nm (fun g_2 e_2 => ?_)
    have w := w g_2 e_2
    refine G_iinc (v := 1) 1 rfl dX12_change_58 (by decide) (by decide) (lv' := [(3, .int (x3 + 1)), (0, .ref r0)]) rfl ?_
    refine G_goto (tgt := 38) dX12_change_61 (by decide) ?_
    exact G_sub [1, 0] rfl w
-- LostDigitsModel.hold
theorem dX12_hold_0 : decode cX12_hold 0 = .ok (.aload_n 0, 1) := by decide +kernel
theorem dX12_hold_1 : decode cX12_hold 1 = .ok (.invokevirtual 239, 3) := by decide +kernel
theorem dX12_hold_4 : decode cX12_hold 4 = .ok (.lstore_n 1, 1) := by decide +kernel
theorem dX12_hold_5 : decode cX12_hold 5 = .ok (.lload_n 1, 1) := by decide +kernel
theorem dX12_hold_6 : decode cX12_hold 6 = .ok (.ldc2_w 94, 3) := by decide +kernel
theorem dX12_hold_9 : decode cX12_hold 9 = .ok (.lcmp, 1) := by decide +kernel
theorem dX12_hold_10 : decode cX12_hold 10 = .ok (.ifCond .eq 66, 3) := by decide +kernel
theorem dX12_hold_13 : decode cX12_hold 13 = .ok (.aload_n 0, 1) := by decide +kernel
theorem dX12_hold_14 : decode cX12_hold 14 = .ok (.getfield 339, 3) := by decide +kernel
theorem dX12_hold_17 : decode cX12_hold 17 = .ok (.ifCond .eq 18, 3) := by decide +kernel
theorem dX12_hold_20 : decode cX12_hold 20 = .ok (.lload_n 1, 1) := by decide +kernel
theorem dX12_hold_21 : decode cX12_hold 21 = .ok (.invokestatic 98, 3) := by decide +kernel
theorem dX12_hold_24 : decode cX12_hold 24 = .ok (.aload_n 0, 1) := by decide +kernel
theorem dX12_hold_25 : decode cX12_hold 25 = .ok (.getfield 342, 3) := by decide +kernel
theorem dX12_hold_28 : decode cX12_hold 28 = .ok (.invokestatic 98, 3) := by decide +kernel
theorem dX12_hold_31 : decode cX12_hold 31 = .ok (.lcmp, 1) := by decide +kernel
theorem dX12_hold_32 : decode cX12_hold 32 = .ok (.ifCond .ge 44, 3) := by decide +kernel
theorem dX12_hold_35 : decode cX12_hold 35 = .ok (.aload_n 0, 1) := by decide +kernel
theorem dX12_hold_36 : decode cX12_hold 36 = .ok (.lload_n 1, 1) := by decide +kernel
theorem dX12_hold_37 : decode cX12_hold 37 = .ok (.putfield 342, 3) := by decide +kernel
theorem dX12_hold_40 : decode cX12_hold 40 = .ok (.aload_n 0, 1) := by decide +kernel
theorem dX12_hold_41 : decode cX12_hold 41 = .ok (.aload_n 0, 1) := by decide +kernel
theorem dX12_hold_42 : decode cX12_hold 42 = .ok (.getfield 192, 3) := by decide +kernel
theorem dX12_hold_45 : decode cX12_hold 45 = .ok (.putfield 339, 3) := by decide +kernel
theorem dX12_hold_48 : decode cX12_hold 48 = .ok (.iconst 0, 1) := by decide +kernel
theorem dX12_hold_49 : decode cX12_hold 49 = .ok (.istore_n 3, 1) := by decide +kernel
theorem dX12_hold_50 : decode cX12_hold 50 = .ok (.iload_n 3, 1) := by decide +kernel
theorem dX12_hold_51 : decode cX12_hold 51 = .ok (.aload_n 0, 1) := by decide +kernel
theorem dX12_hold_52 : decode cX12_hold 52 = .ok (.getfield 192, 3) := by decide +kernel
theorem dX12_hold_55 : decode cX12_hold 55 = .ok (.if_icmp .ge 21, 3) := by decide +kernel
theorem dX12_hold_58 : decode cX12_hold 58 = .ok (.aload_n 0, 1) := by decide +kernel
theorem dX12_hold_59 : decode cX12_hold 59 = .ok (.getfield 62, 3) := by decide +kernel
theorem dX12_hold_62 : decode cX12_hold 62 = .ok (.iload_n 3, 1) := by decide +kernel
theorem dX12_hold_63 : decode cX12_hold 63 = .ok (.aload_n 0, 1) := by decide +kernel
theorem dX12_hold_64 : decode cX12_hold 64 = .ok (.getfield 22, 3) := by decide +kernel
theorem dX12_hold_67 : decode cX12_hold 67 = .ok (.iload_n 3, 1) := by decide +kernel
theorem dX12_hold_68 : decode cX12_hold 68 = .ok (.iaload, 1) := by decide +kernel
theorem dX12_hold_69 : decode cX12_hold 69 = .ok (.iastore, 1) := by decide +kernel
theorem dX12_hold_70 : decode cX12_hold 70 = .ok (.iinc 3 1, 3) := by decide +kernel
theorem dX12_hold_73 : decode cX12_hold 73 = .ok (.goto (-23), 3) := by decide +kernel
theorem dX12_hold_76 : decode cX12_hold 76 = .ok (.return_, 1) := by decide +kernel
set_option maxRecDepth 10000 in
theorem NX12_hold_0 {d : Nat} {S : fW} {h : fH} {Q : fH → Prop} {r0 : Nat} {r0_pad r0_text r0_number r0_span r0_now r0_sizeOf r0_workedTo r0_slip r0_exactUpper r0_exactLower r0_more r0_terms r0_order r0_bestOrder r0_low r0_high r0_built r0_better r0_base r0_kept r0_isKept : Nat}  
    (hs1 : (r0, shX12 r0_pad r0_text r0_number r0_span r0_now r0_sizeOf r0_workedTo r0_slip r0_exactUpper r0_exactLower r0_more r0_terms r0_order r0_bestOrder r0_low r0_high r0_built r0_better r0_base r0_kept r0_isKept) ∈ S)
    (w : ∃ Q1 : Int64 → fH → Prop, OkL d mX12_lossNow S [.ref r0] h Q1 ∧ ∀ (v_1 : Int64) (h_1 : fH), Q1 v_1 h_1 → ((v_1 = (1000000000000000000 : Int64) → Q h_1) ∧ (¬ v_1 = (1000000000000000000 : Int64) → (((h_1.1 r0 32) = 0 → ∀ g_1 : fH, g_1 = u_fl h_1 r0 33 v_1 → ∀ g_2 : fH, g_2 = u_fi g_1 r0 32 (g_1.1 r0 14) → G mX12_hold (d + 1) S (f_PV Q) 50 [(0, .ref r0), (3, .int (0 : Int32))] [] g_2) ∧ (¬ (h_1.1 r0 32) = 0 → ∃ Q2 : Int64 → fH → Prop, OkL d mX12_size S [.long v_1] h_1 Q2 ∧ ∀ (v_2 : Int64) (h_2 : fH), Q2 v_2 h_2 → ∃ Q3 : Int64 → fH → Prop, OkL d mX12_size S [.long (h_2.2.1 r0 33)] h_2 Q3 ∧ ∀ (v_3 : Int64) (h_3 : fH), Q3 v_3 h_3 → ((v_3 ≤ v_2 → Q h_3) ∧ (¬ v_3 ≤ v_2 → ∀ g_3 : fH, g_3 = u_fl h_3 r0 33 v_1 → ∀ g_4 : fH, g_4 = u_fi g_3 r0 32 (g_3.1 r0 14) → G mX12_hold (d + 1) S (f_PV Q) 50 [(0, .ref r0), (3, .int (0 : Int32))] [] g_4))))))) :
    OkV (d + 1) mX12_hold S [.ref r0] h Q := by
  refine Ok.of (by decide) (Nat.le_of_ble_eq_true rfl) ?_
  refine G_aload_n 0 rfl dX12_hold_0 rfl ?_
  obtain ⟨Q1, ok1, w⟩ := w
  refine G_callV (Z := mX12_lossNow) (As := []) (st := []) hL_X12_239 hI_X12_lossNow hS_X12_lossNow hC_X12_lossNow hN_X12 nX12_lossNow (by decide) hs1 rfl rfl rfl (Nat.le_of_ble_eq_true rfl) dX12_hold_1 ok1 (fun r_ h_1 z_ => ?_)
  obtain ⟨v_1, rfl, q_1⟩ := z_
  have w := w v_1 h_1 q_1
  refine G_lstore_n dX12_hold_4 rfl (by decide) (lv' := [(1, .long v_1), (0, .ref r0)]) rfl ?_
  refine G_lload_n 0 rfl dX12_hold_5 rfl ?_
  refine G_ldc2 hK_X12_94 dX12_hold_6 ?_
  refine G_lif_eq (tgt := 76) dX12_hold_9 dX12_hold_10 (by decide) (fun c1 => ?_) (fun c1 => ?_)
  · have w := w.1 c1
    exact G_vret rfl dX12_hold_76 ⟨rfl, w⟩
  · have w := w.2 c1
    refine G_aload_n 1 rfl dX12_hold_13 rfl ?_
    refine G_geti (k := 32) hs1 (q := (RX12, TX12, 40)) rfl inX12 (by decide) (Or.inl rfl) hF_X12_339 dX12_hold_14 ?_
    refine G_if_eq (tgt := 35) dX12_hold_17 (by decide) (fun c2 => ?_) (fun c2 => ?_)
    · have w := w.1 c2
      refine G_aload_n 1 rfl dX12_hold_35 rfl ?_
      refine G_lload_n 0 rfl dX12_hold_36 rfl ?_
      refine G_putl (k := 33) tyX12 hs1 (q := (RX12, TX12, 40)) rfl inX12 tyX12_ok nmX12 (by decide) rfl rfl rfl hF_X12_342 dX12_hold_37 ?_
      refine G_nm (fun g_1 e_1 => ?_)
      have w := w g_1 e_1
      refine G_aload_n 1 rfl dX12_hold_40 rfl ?_
      refine G_aload_n 1 rfl dX12_hold_41 rfl ?_
      refine G_geti (k := 14) hs1 (q := (RX12, TX12, 40)) rfl inX12 (by decide) (Or.inl rfl) hF_X12_192 dX12_hold_42 ?_
      refine G_puti (k := 32) tyX12 hs1 (q := (RX12, TX12, 40)) rfl inX12 tyX12_ok nmX12 (by decide) rfl rfl rfl hF_X12_339 dX12_hold_45 ?_
      refine G_nm (fun g_2 e_2 => ?_)
      have w := w g_2 e_2
      refine G_iconst (v := 0) dX12_hold_48 (by decide) ?_
      refine G_istore_n dX12_hold_49 rfl (by decide) (lv' := [(3, .int (0 : Int32)), (1, .long v_1), (0, .ref r0)]) rfl ?_
      exact G_sub [2, 0] rfl w
    · have w := w.2 c2
      refine G_lload_n 0 rfl dX12_hold_20 rfl ?_
      obtain ⟨Q2, ok2, w⟩ := w
      refine G_callS (Z := mX12_size) (As := [.long v_1]) (st := []) hL_X12_98 hT_X12_size hC_X12_size hN_X12 nX12_size (by decide) rfl (Nat.le_of_ble_eq_true rfl) dX12_hold_21 ok2 (fun r_ h_2 z_ => ?_)
      obtain ⟨v_2, rfl, q_2⟩ := z_
      have w := w v_2 h_2 q_2
      refine G_aload_n 1 rfl dX12_hold_24 rfl ?_
      refine G_getl (k := 33) hs1 (q := (RX12, TX12, 40)) rfl inX12 (by decide) rfl hF_X12_342 dX12_hold_25 ?_
      obtain ⟨Q3, ok3, w⟩ := w
      refine G_callS (Z := mX12_size) (As := [.long (h_2.2.1 r0 33)]) (st := [.long v_2]) hL_X12_98 hT_X12_size hC_X12_size hN_X12 nX12_size (by decide) rfl (Nat.le_of_ble_eq_true rfl) dX12_hold_28 ok3 (fun r_ h_3 z_ => ?_)
      obtain ⟨v_3, rfl, q_3⟩ := z_
      have w := w v_3 h_3 q_3
      refine G_lif_ge (tgt := 76) dX12_hold_31 dX12_hold_32 (by decide) (fun c3 => ?_) (fun c3 => ?_)
      · have w := w.1 c3
        exact G_vret rfl dX12_hold_76 ⟨rfl, w⟩
      · have w := w.2 c3
        refine G_aload_n 1 rfl dX12_hold_35 rfl ?_
        refine G_lload_n 0 rfl dX12_hold_36 rfl ?_
        refine G_putl (k := 33) tyX12 hs1 (q := (RX12, TX12, 40)) rfl inX12 tyX12_ok nmX12 (by decide) rfl rfl rfl hF_X12_342 dX12_hold_37 ?_
        refine G_nm (fun g_3 e_3 => ?_)
        have w := w g_3 e_3
        refine G_aload_n 1 rfl dX12_hold_40 rfl ?_
        refine G_aload_n 1 rfl dX12_hold_41 rfl ?_
        refine G_geti (k := 14) hs1 (q := (RX12, TX12, 40)) rfl inX12 (by decide) (Or.inl rfl) hF_X12_192 dX12_hold_42 ?_
        refine G_puti (k := 32) tyX12 hs1 (q := (RX12, TX12, 40)) rfl inX12 tyX12_ok nmX12 (by decide) rfl rfl rfl hF_X12_339 dX12_hold_45 ?_
        refine G_nm (fun g_4 e_4 => ?_)
        have w := w g_4 e_4
        refine G_iconst (v := 0) dX12_hold_48 (by decide) ?_
        refine G_istore_n dX12_hold_49 rfl (by decide) (lv' := [(3, .int (0 : Int32)), (1, .long v_1), (0, .ref r0)]) rfl ?_
        exact G_sub [2, 0] rfl w

set_option maxRecDepth 10000 in
theorem NX12_hold_50 {d : Nat} {S : fW} {h : fH} {Q : fH → Prop} {r0 : Nat} {x3 : Int32} {r0_pad r0_text r0_number r0_span r0_now r0_sizeOf r0_workedTo r0_slip r0_exactUpper r0_exactLower r0_more r0_terms r0_order r0_bestOrder r0_low r0_high r0_built r0_better r0_base r0_kept r0_isKept : Nat}  
    (hs1 : (r0, shX12 r0_pad r0_text r0_number r0_span r0_now r0_sizeOf r0_workedTo r0_slip r0_exactUpper r0_exactLower r0_more r0_terms r0_order r0_bestOrder r0_low r0_high r0_built r0_better r0_base r0_kept r0_isKept) ∈ S)
    (hs2 : (r0_now, shI 13) ∈ S)
    (hs3 : (r0_better, shI 13) ∈ S)
    (w : (((h.1 r0 14) ≤ x3 → Q h) ∧ (¬ (h.1 r0 14) ≤ x3 → vp_in x3 13 ∧ ∀ g_1 : fH, g_1 = u_ai h r0_better (upd (h.2.2.1 r0_better) x3.toNatClampNeg (h.2.2.1 r0_now x3.toNatClampNeg)) → G mX12_hold (d + 1) S (f_PV Q) 50 [(0, .ref r0), (3, .int (x3 + 1))] [] g_1))) :
    G mX12_hold (d + 1) S (f_PV Q) 50 [(0, .ref r0), (3, .int x3)] [] h := by
  refine G_iload_n 1 rfl dX12_hold_50 rfl ?_
  refine G_aload_n 0 rfl dX12_hold_51 rfl ?_
  refine G_geti (k := 14) hs1 (q := (RX12, TX12, 40)) rfl inX12 (by decide) (Or.inl rfl) hF_X12_192 dX12_hold_52 ?_
  refine G_icmp_ge (tgt := 76) dX12_hold_55 (by decide) (fun c1 => ?_) (fun c1 => ?_)
  · have w := w.1 c1
    exact G_vret rfl dX12_hold_76 ⟨rfl, w⟩
  · have w := w.2 c1
    refine G_aload_n 0 rfl dX12_hold_58 rfl ?_
    refine G_getr (j := r0_better) (k := 31) hs1 (q := (RX12, TX12, 40)) rfl inX12 (by decide) rfl hF_X12_62 dX12_hold_59 ?_
    refine G_iload_n 1 rfl dX12_hold_62 rfl ?_
    refine G_aload_n 0 rfl dX12_hold_63 rfl ?_
    refine G_getr (j := r0_now) (k := 13) hs1 (q := (RX12, TX12, 40)) rfl inX12 (by decide) rfl hF_X12_22 dX12_hold_64 ?_
    refine G_iload_n 1 rfl dX12_hold_67 rfl ?_
    obtain ⟨sd1, w⟩ := w
    refine G_iald hs2 sd1 dX12_hold_68 ?_
    refine G_iast hs3 sd1 dX12_hold_69 ?_
    refine G_nm (fun g_1 e_1 => ?_)
    have w := w g_1 e_1
    refine G_iinc (v := 1) 1 rfl dX12_hold_70 (by decide) (by decide) (lv' := [(3, .int (x3 + 1)), (0, .ref r0)]) rfl ?_
    refine G_goto (tgt := 50) dX12_hold_73 (by decide) ?_
    exact G_sub [1, 0] rfl w
-- LostDigitsModel.layBuilt
theorem dX12_layBuilt_0 : decode cX12_layBuilt 0 = .ok (.aload_n 0, 1) := by decide +kernel
theorem dX12_layBuilt_1 : decode cX12_layBuilt 1 = .ok (.aload_n 0, 1) := by decide +kernel
theorem dX12_layBuilt_2 : decode cX12_layBuilt 2 = .ok (.getfield 310, 3) := by decide +kernel
theorem dX12_layBuilt_5 : decode cX12_layBuilt 5 = .ok (.putfield 192, 3) := by decide +kernel
theorem dX12_layBuilt_8 : decode cX12_layBuilt 8 = .ok (.iconst 0, 1) := by decide +kernel
theorem dX12_layBuilt_9 : decode cX12_layBuilt 9 = .ok (.istore_n 1, 1) := by decide +kernel
theorem dX12_layBuilt_10 : decode cX12_layBuilt 10 = .ok (.iload_n 1, 1) := by decide +kernel
theorem dX12_layBuilt_11 : decode cX12_layBuilt 11 = .ok (.aload_n 0, 1) := by decide +kernel
theorem dX12_layBuilt_12 : decode cX12_layBuilt 12 = .ok (.getfield 310, 3) := by decide +kernel
theorem dX12_layBuilt_15 : decode cX12_layBuilt 15 = .ok (.if_icmp .ge 21, 3) := by decide +kernel
theorem dX12_layBuilt_18 : decode cX12_layBuilt 18 = .ok (.aload_n 0, 1) := by decide +kernel
theorem dX12_layBuilt_19 : decode cX12_layBuilt 19 = .ok (.getfield 22, 3) := by decide +kernel
theorem dX12_layBuilt_22 : decode cX12_layBuilt 22 = .ok (.iload_n 1, 1) := by decide +kernel
theorem dX12_layBuilt_23 : decode cX12_layBuilt 23 = .ok (.aload_n 0, 1) := by decide +kernel
theorem dX12_layBuilt_24 : decode cX12_layBuilt 24 = .ok (.getfield 59, 3) := by decide +kernel
theorem dX12_layBuilt_27 : decode cX12_layBuilt 27 = .ok (.iload_n 1, 1) := by decide +kernel
theorem dX12_layBuilt_28 : decode cX12_layBuilt 28 = .ok (.iaload, 1) := by decide +kernel
theorem dX12_layBuilt_29 : decode cX12_layBuilt 29 = .ok (.iastore, 1) := by decide +kernel
theorem dX12_layBuilt_30 : decode cX12_layBuilt 30 = .ok (.iinc 1 1, 3) := by decide +kernel
theorem dX12_layBuilt_33 : decode cX12_layBuilt 33 = .ok (.goto (-23), 3) := by decide +kernel
theorem dX12_layBuilt_36 : decode cX12_layBuilt 36 = .ok (.return_, 1) := by decide +kernel
set_option maxRecDepth 10000 in
theorem NX12_layBuilt_0 {d : Nat} {S : fW} {h : fH} {Q : fH → Prop} {r0 : Nat} {r0_pad r0_text r0_number r0_span r0_now r0_sizeOf r0_workedTo r0_slip r0_exactUpper r0_exactLower r0_more r0_terms r0_order r0_bestOrder r0_low r0_high r0_built r0_better r0_base r0_kept r0_isKept : Nat}  
    (hs1 : (r0, shX12 r0_pad r0_text r0_number r0_span r0_now r0_sizeOf r0_workedTo r0_slip r0_exactUpper r0_exactLower r0_more r0_terms r0_order r0_bestOrder r0_low r0_high r0_built r0_better r0_base r0_kept r0_isKept) ∈ S)
    (w : ∀ g_1 : fH, g_1 = u_fi h r0 14 (h.1 r0 30) → G mX12_layBuilt d S (f_PV Q) 10 [(0, .ref r0), (1, .int (0 : Int32))] [] g_1) :
    OkV d mX12_layBuilt S [.ref r0] h Q := by
  refine Ok.of (by decide) (Nat.le_of_ble_eq_true rfl) ?_
  refine G_aload_n 0 rfl dX12_layBuilt_0 rfl ?_
  refine G_aload_n 0 rfl dX12_layBuilt_1 rfl ?_
  refine G_geti (k := 30) hs1 (q := (RX12, TX12, 40)) rfl inX12 (by decide) (Or.inl rfl) hF_X12_310 dX12_layBuilt_2 ?_
  refine G_puti (k := 14) tyX12 hs1 (q := (RX12, TX12, 40)) rfl inX12 tyX12_ok nmX12 (by decide) rfl rfl rfl hF_X12_192 dX12_layBuilt_5 ?_
  refine G_nm (fun g_1 e_1 => ?_)
  have w := w g_1 e_1
  refine G_iconst (v := 0) dX12_layBuilt_8 (by decide) ?_
  refine G_istore_n dX12_layBuilt_9 rfl (by decide) (lv' := [(1, .int (0 : Int32)), (0, .ref r0)]) rfl ?_
  exact G_sub [1, 0] rfl w

set_option maxRecDepth 10000 in
theorem NX12_layBuilt_10 {d : Nat} {S : fW} {h : fH} {Q : fH → Prop} {r0 : Nat} {x1 : Int32} {r0_pad r0_text r0_number r0_span r0_now r0_sizeOf r0_workedTo r0_slip r0_exactUpper r0_exactLower r0_more r0_terms r0_order r0_bestOrder r0_low r0_high r0_built r0_better r0_base r0_kept r0_isKept : Nat}  
    (hs1 : (r0, shX12 r0_pad r0_text r0_number r0_span r0_now r0_sizeOf r0_workedTo r0_slip r0_exactUpper r0_exactLower r0_more r0_terms r0_order r0_bestOrder r0_low r0_high r0_built r0_better r0_base r0_kept r0_isKept) ∈ S)
    (hs2 : (r0_built, shI 32) ∈ S)
    (hs3 : (r0_now, shI 13) ∈ S)
    (w : (((h.1 r0 30) ≤ x1 → Q h) ∧ (¬ (h.1 r0 30) ≤ x1 → vp_in x1 32 ∧ vp_in x1 13 ∧ ∀ g_1 : fH, g_1 = u_ai h r0_now (upd (h.2.2.1 r0_now) x1.toNatClampNeg (h.2.2.1 r0_built x1.toNatClampNeg)) → G mX12_layBuilt d S (f_PV Q) 10 [(0, .ref r0), (1, .int (x1 + 1))] [] g_1))) :
    G mX12_layBuilt d S (f_PV Q) 10 [(0, .ref r0), (1, .int x1)] [] h := by
  refine G_iload_n 1 rfl dX12_layBuilt_10 rfl ?_
  refine G_aload_n 0 rfl dX12_layBuilt_11 rfl ?_
  refine G_geti (k := 30) hs1 (q := (RX12, TX12, 40)) rfl inX12 (by decide) (Or.inl rfl) hF_X12_310 dX12_layBuilt_12 ?_
  refine G_icmp_ge (tgt := 36) dX12_layBuilt_15 (by decide) (fun c1 => ?_) (fun c1 => ?_)
  · have w := w.1 c1
    exact G_vret rfl dX12_layBuilt_36 ⟨rfl, w⟩
  · have w := w.2 c1
    refine G_aload_n 0 rfl dX12_layBuilt_18 rfl ?_
    refine G_getr (j := r0_now) (k := 13) hs1 (q := (RX12, TX12, 40)) rfl inX12 (by decide) rfl hF_X12_22 dX12_layBuilt_19 ?_
    refine G_iload_n 1 rfl dX12_layBuilt_22 rfl ?_
    refine G_aload_n 0 rfl dX12_layBuilt_23 rfl ?_
    refine G_getr (j := r0_built) (k := 29) hs1 (q := (RX12, TX12, 40)) rfl inX12 (by decide) rfl hF_X12_59 dX12_layBuilt_24 ?_
    refine G_iload_n 1 rfl dX12_layBuilt_27 rfl ?_
    obtain ⟨sd1, w⟩ := w
    refine G_iald hs2 sd1 dX12_layBuilt_28 ?_
    obtain ⟨sd2, w⟩ := w
    refine G_iast hs3 sd2 dX12_layBuilt_29 ?_
    refine G_nm (fun g_1 e_1 => ?_)
    have w := w g_1 e_1
    refine G_iinc (v := 1) 1 rfl dX12_layBuilt_30 (by decide) (by decide) (lv' := [(1, .int (x1 + 1)), (0, .ref r0)]) rfl ?_
    refine G_goto (tgt := 10) dX12_layBuilt_33 (by decide) ?_
    exact G_sub [1, 0] rfl w
-- LostDigitsModel.layBase
theorem dX12_layBase_0 : decode cX12_layBase 0 = .ok (.aload_n 0, 1) := by decide +kernel
theorem dX12_layBase_1 : decode cX12_layBase 1 = .ok (.aload_n 0, 1) := by decide +kernel
theorem dX12_layBase_2 : decode cX12_layBase 2 = .ok (.getfield 345, 3) := by decide +kernel
theorem dX12_layBase_5 : decode cX12_layBase 5 = .ok (.putfield 192, 3) := by decide +kernel
theorem dX12_layBase_8 : decode cX12_layBase 8 = .ok (.iconst 0, 1) := by decide +kernel
theorem dX12_layBase_9 : decode cX12_layBase 9 = .ok (.istore_n 1, 1) := by decide +kernel
theorem dX12_layBase_10 : decode cX12_layBase 10 = .ok (.iload_n 1, 1) := by decide +kernel
theorem dX12_layBase_11 : decode cX12_layBase 11 = .ok (.aload_n 0, 1) := by decide +kernel
theorem dX12_layBase_12 : decode cX12_layBase 12 = .ok (.getfield 345, 3) := by decide +kernel
theorem dX12_layBase_15 : decode cX12_layBase 15 = .ok (.if_icmp .ge 21, 3) := by decide +kernel
theorem dX12_layBase_18 : decode cX12_layBase 18 = .ok (.aload_n 0, 1) := by decide +kernel
theorem dX12_layBase_19 : decode cX12_layBase 19 = .ok (.getfield 22, 3) := by decide +kernel
theorem dX12_layBase_22 : decode cX12_layBase 22 = .ok (.iload_n 1, 1) := by decide +kernel
theorem dX12_layBase_23 : decode cX12_layBase 23 = .ok (.aload_n 0, 1) := by decide +kernel
theorem dX12_layBase_24 : decode cX12_layBase 24 = .ok (.getfield 65, 3) := by decide +kernel
theorem dX12_layBase_27 : decode cX12_layBase 27 = .ok (.iload_n 1, 1) := by decide +kernel
theorem dX12_layBase_28 : decode cX12_layBase 28 = .ok (.iaload, 1) := by decide +kernel
theorem dX12_layBase_29 : decode cX12_layBase 29 = .ok (.iastore, 1) := by decide +kernel
theorem dX12_layBase_30 : decode cX12_layBase 30 = .ok (.iinc 1 1, 3) := by decide +kernel
theorem dX12_layBase_33 : decode cX12_layBase 33 = .ok (.goto (-23), 3) := by decide +kernel
theorem dX12_layBase_36 : decode cX12_layBase 36 = .ok (.return_, 1) := by decide +kernel
set_option maxRecDepth 10000 in
theorem NX12_layBase_0 {d : Nat} {S : fW} {h : fH} {Q : fH → Prop} {r0 : Nat} {r0_pad r0_text r0_number r0_span r0_now r0_sizeOf r0_workedTo r0_slip r0_exactUpper r0_exactLower r0_more r0_terms r0_order r0_bestOrder r0_low r0_high r0_built r0_better r0_base r0_kept r0_isKept : Nat}  
    (hs1 : (r0, shX12 r0_pad r0_text r0_number r0_span r0_now r0_sizeOf r0_workedTo r0_slip r0_exactUpper r0_exactLower r0_more r0_terms r0_order r0_bestOrder r0_low r0_high r0_built r0_better r0_base r0_kept r0_isKept) ∈ S)
    (w : ∀ g_1 : fH, g_1 = u_fi h r0 14 (h.1 r0 35) → G mX12_layBase d S (f_PV Q) 10 [(0, .ref r0), (1, .int (0 : Int32))] [] g_1) :
    OkV d mX12_layBase S [.ref r0] h Q := by
  refine Ok.of (by decide) (Nat.le_of_ble_eq_true rfl) ?_
  refine G_aload_n 0 rfl dX12_layBase_0 rfl ?_
  refine G_aload_n 0 rfl dX12_layBase_1 rfl ?_
  refine G_geti (k := 35) hs1 (q := (RX12, TX12, 40)) rfl inX12 (by decide) (Or.inl rfl) hF_X12_345 dX12_layBase_2 ?_
  refine G_puti (k := 14) tyX12 hs1 (q := (RX12, TX12, 40)) rfl inX12 tyX12_ok nmX12 (by decide) rfl rfl rfl hF_X12_192 dX12_layBase_5 ?_
  refine G_nm (fun g_1 e_1 => ?_)
  have w := w g_1 e_1
  refine G_iconst (v := 0) dX12_layBase_8 (by decide) ?_
  refine G_istore_n dX12_layBase_9 rfl (by decide) (lv' := [(1, .int (0 : Int32)), (0, .ref r0)]) rfl ?_
  exact G_sub [1, 0] rfl w

set_option maxRecDepth 10000 in
theorem NX12_layBase_10 {d : Nat} {S : fW} {h : fH} {Q : fH → Prop} {r0 : Nat} {x1 : Int32} {r0_pad r0_text r0_number r0_span r0_now r0_sizeOf r0_workedTo r0_slip r0_exactUpper r0_exactLower r0_more r0_terms r0_order r0_bestOrder r0_low r0_high r0_built r0_better r0_base r0_kept r0_isKept : Nat}  
    (hs1 : (r0, shX12 r0_pad r0_text r0_number r0_span r0_now r0_sizeOf r0_workedTo r0_slip r0_exactUpper r0_exactLower r0_more r0_terms r0_order r0_bestOrder r0_low r0_high r0_built r0_better r0_base r0_kept r0_isKept) ∈ S)
    (hs2 : (r0_base, shI 13) ∈ S)
    (hs3 : (r0_now, shI 13) ∈ S)
    (w : (((h.1 r0 35) ≤ x1 → Q h) ∧ (¬ (h.1 r0 35) ≤ x1 → vp_in x1 13 ∧ ∀ g_1 : fH, g_1 = u_ai h r0_now (upd (h.2.2.1 r0_now) x1.toNatClampNeg (h.2.2.1 r0_base x1.toNatClampNeg)) → G mX12_layBase d S (f_PV Q) 10 [(0, .ref r0), (1, .int (x1 + 1))] [] g_1))) :
    G mX12_layBase d S (f_PV Q) 10 [(0, .ref r0), (1, .int x1)] [] h := by
  refine G_iload_n 1 rfl dX12_layBase_10 rfl ?_
  refine G_aload_n 0 rfl dX12_layBase_11 rfl ?_
  refine G_geti (k := 35) hs1 (q := (RX12, TX12, 40)) rfl inX12 (by decide) (Or.inl rfl) hF_X12_345 dX12_layBase_12 ?_
  refine G_icmp_ge (tgt := 36) dX12_layBase_15 (by decide) (fun c1 => ?_) (fun c1 => ?_)
  · have w := w.1 c1
    exact G_vret rfl dX12_layBase_36 ⟨rfl, w⟩
  · have w := w.2 c1
    refine G_aload_n 0 rfl dX12_layBase_18 rfl ?_
    refine G_getr (j := r0_now) (k := 13) hs1 (q := (RX12, TX12, 40)) rfl inX12 (by decide) rfl hF_X12_22 dX12_layBase_19 ?_
    refine G_iload_n 1 rfl dX12_layBase_22 rfl ?_
    refine G_aload_n 0 rfl dX12_layBase_23 rfl ?_
    refine G_getr (j := r0_base) (k := 34) hs1 (q := (RX12, TX12, 40)) rfl inX12 (by decide) rfl hF_X12_65 dX12_layBase_24 ?_
    refine G_iload_n 1 rfl dX12_layBase_27 rfl ?_
    obtain ⟨sd1, w⟩ := w
    refine G_iald hs2 sd1 dX12_layBase_28 ?_
    refine G_iast hs3 sd1 dX12_layBase_29 ?_
    refine G_nm (fun g_1 e_1 => ?_)
    have w := w g_1 e_1
    refine G_iinc (v := 1) 1 rfl dX12_layBase_30 (by decide) (by decide) (lv' := [(1, .int (x1 + 1)), (0, .ref r0)]) rfl ?_
    refine G_goto (tgt := 10) dX12_layBase_33 (by decide) ?_
    exact G_sub [1, 0] rfl w
-- LostDigitsModel.keepBase
theorem dX12_keepBase_0 : decode cX12_keepBase 0 = .ok (.aload_n 0, 1) := by decide +kernel
theorem dX12_keepBase_1 : decode cX12_keepBase 1 = .ok (.aload_n 0, 1) := by decide +kernel
theorem dX12_keepBase_2 : decode cX12_keepBase 2 = .ok (.getfield 192, 3) := by decide +kernel
theorem dX12_keepBase_5 : decode cX12_keepBase 5 = .ok (.putfield 345, 3) := by decide +kernel
theorem dX12_keepBase_8 : decode cX12_keepBase 8 = .ok (.iconst 0, 1) := by decide +kernel
theorem dX12_keepBase_9 : decode cX12_keepBase 9 = .ok (.istore_n 1, 1) := by decide +kernel
theorem dX12_keepBase_10 : decode cX12_keepBase 10 = .ok (.iload_n 1, 1) := by decide +kernel
theorem dX12_keepBase_11 : decode cX12_keepBase 11 = .ok (.aload_n 0, 1) := by decide +kernel
theorem dX12_keepBase_12 : decode cX12_keepBase 12 = .ok (.getfield 192, 3) := by decide +kernel
theorem dX12_keepBase_15 : decode cX12_keepBase 15 = .ok (.if_icmp .ge 21, 3) := by decide +kernel
theorem dX12_keepBase_18 : decode cX12_keepBase 18 = .ok (.aload_n 0, 1) := by decide +kernel
theorem dX12_keepBase_19 : decode cX12_keepBase 19 = .ok (.getfield 65, 3) := by decide +kernel
theorem dX12_keepBase_22 : decode cX12_keepBase 22 = .ok (.iload_n 1, 1) := by decide +kernel
theorem dX12_keepBase_23 : decode cX12_keepBase 23 = .ok (.aload_n 0, 1) := by decide +kernel
theorem dX12_keepBase_24 : decode cX12_keepBase 24 = .ok (.getfield 22, 3) := by decide +kernel
theorem dX12_keepBase_27 : decode cX12_keepBase 27 = .ok (.iload_n 1, 1) := by decide +kernel
theorem dX12_keepBase_28 : decode cX12_keepBase 28 = .ok (.iaload, 1) := by decide +kernel
theorem dX12_keepBase_29 : decode cX12_keepBase 29 = .ok (.iastore, 1) := by decide +kernel
theorem dX12_keepBase_30 : decode cX12_keepBase 30 = .ok (.iinc 1 1, 3) := by decide +kernel
theorem dX12_keepBase_33 : decode cX12_keepBase 33 = .ok (.goto (-23), 3) := by decide +kernel
theorem dX12_keepBase_36 : decode cX12_keepBase 36 = .ok (.return_, 1) := by decide +kernel
set_option maxRecDepth 10000 in
theorem NX12_keepBase_0 {d : Nat} {S : fW} {h : fH} {Q : fH → Prop} {r0 : Nat} {r0_pad r0_text r0_number r0_span r0_now r0_sizeOf r0_workedTo r0_slip r0_exactUpper r0_exactLower r0_more r0_terms r0_order r0_bestOrder r0_low r0_high r0_built r0_better r0_base r0_kept r0_isKept : Nat}  
    (hs1 : (r0, shX12 r0_pad r0_text r0_number r0_span r0_now r0_sizeOf r0_workedTo r0_slip r0_exactUpper r0_exactLower r0_more r0_terms r0_order r0_bestOrder r0_low r0_high r0_built r0_better r0_base r0_kept r0_isKept) ∈ S)
    (w : ∀ g_1 : fH, g_1 = u_fi h r0 35 (h.1 r0 14) → G mX12_keepBase d S (f_PV Q) 10 [(0, .ref r0), (1, .int (0 : Int32))] [] g_1) :
    OkV d mX12_keepBase S [.ref r0] h Q := by
  refine Ok.of (by decide) (Nat.le_of_ble_eq_true rfl) ?_
  refine G_aload_n 0 rfl dX12_keepBase_0 rfl ?_
  refine G_aload_n 0 rfl dX12_keepBase_1 rfl ?_
  refine G_geti (k := 14) hs1 (q := (RX12, TX12, 40)) rfl inX12 (by decide) (Or.inl rfl) hF_X12_192 dX12_keepBase_2 ?_
  refine G_puti (k := 35) tyX12 hs1 (q := (RX12, TX12, 40)) rfl inX12 tyX12_ok nmX12 (by decide) rfl rfl rfl hF_X12_345 dX12_keepBase_5 ?_
  refine G_nm (fun g_1 e_1 => ?_)
  have w := w g_1 e_1
  refine G_iconst (v := 0) dX12_keepBase_8 (by decide) ?_
  refine G_istore_n dX12_keepBase_9 rfl (by decide) (lv' := [(1, .int (0 : Int32)), (0, .ref r0)]) rfl ?_
  exact G_sub [1, 0] rfl w

set_option maxRecDepth 10000 in
theorem NX12_keepBase_10 {d : Nat} {S : fW} {h : fH} {Q : fH → Prop} {r0 : Nat} {x1 : Int32} {r0_pad r0_text r0_number r0_span r0_now r0_sizeOf r0_workedTo r0_slip r0_exactUpper r0_exactLower r0_more r0_terms r0_order r0_bestOrder r0_low r0_high r0_built r0_better r0_base r0_kept r0_isKept : Nat}  
    (hs1 : (r0, shX12 r0_pad r0_text r0_number r0_span r0_now r0_sizeOf r0_workedTo r0_slip r0_exactUpper r0_exactLower r0_more r0_terms r0_order r0_bestOrder r0_low r0_high r0_built r0_better r0_base r0_kept r0_isKept) ∈ S)
    (hs2 : (r0_now, shI 13) ∈ S)
    (hs3 : (r0_base, shI 13) ∈ S)
    (w : (((h.1 r0 14) ≤ x1 → Q h) ∧ (¬ (h.1 r0 14) ≤ x1 → vp_in x1 13 ∧ ∀ g_1 : fH, g_1 = u_ai h r0_base (upd (h.2.2.1 r0_base) x1.toNatClampNeg (h.2.2.1 r0_now x1.toNatClampNeg)) → G mX12_keepBase d S (f_PV Q) 10 [(0, .ref r0), (1, .int (x1 + 1))] [] g_1))) :
    G mX12_keepBase d S (f_PV Q) 10 [(0, .ref r0), (1, .int x1)] [] h := by
  refine G_iload_n 1 rfl dX12_keepBase_10 rfl ?_
  refine G_aload_n 0 rfl dX12_keepBase_11 rfl ?_
  refine G_geti (k := 14) hs1 (q := (RX12, TX12, 40)) rfl inX12 (by decide) (Or.inl rfl) hF_X12_192 dX12_keepBase_12 ?_
  refine G_icmp_ge (tgt := 36) dX12_keepBase_15 (by decide) (fun c1 => ?_) (fun c1 => ?_)
  · have w := w.1 c1
    exact G_vret rfl dX12_keepBase_36 ⟨rfl, w⟩
  · have w := w.2 c1
    refine G_aload_n 0 rfl dX12_keepBase_18 rfl ?_
    refine G_getr (j := r0_base) (k := 34) hs1 (q := (RX12, TX12, 40)) rfl inX12 (by decide) rfl hF_X12_65 dX12_keepBase_19 ?_
    refine G_iload_n 1 rfl dX12_keepBase_22 rfl ?_
    refine G_aload_n 0 rfl dX12_keepBase_23 rfl ?_
    refine G_getr (j := r0_now) (k := 13) hs1 (q := (RX12, TX12, 40)) rfl inX12 (by decide) rfl hF_X12_22 dX12_keepBase_24 ?_
    refine G_iload_n 1 rfl dX12_keepBase_27 rfl ?_
    obtain ⟨sd1, w⟩ := w
    refine G_iald hs2 sd1 dX12_keepBase_28 ?_
    refine G_iast hs3 sd1 dX12_keepBase_29 ?_
    refine G_nm (fun g_1 e_1 => ?_)
    have w := w g_1 e_1
    refine G_iinc (v := 1) 1 rfl dX12_keepBase_30 (by decide) (by decide) (lv' := [(1, .int (x1 + 1)), (0, .ref r0)]) rfl ?_
    refine G_goto (tgt := 10) dX12_keepBase_33 (by decide) ?_
    exact G_sub [1, 0] rfl w
-- LostDigitsModel.holdAll
theorem dX12_holdAll_0 : decode cX12_holdAll 0 = .ok (.aload_n 0, 1) := by decide +kernel
theorem dX12_holdAll_1 : decode cX12_holdAll 1 = .ok (.getfield 345, 3) := by decide +kernel
theorem dX12_holdAll_4 : decode cX12_holdAll 4 = .ok (.istore_n 1, 1) := by decide +kernel
theorem dX12_holdAll_5 : decode cX12_holdAll 5 = .ok (.iconst 0, 1) := by decide +kernel
theorem dX12_holdAll_6 : decode cX12_holdAll 6 = .ok (.istore_n 2, 1) := by decide +kernel
theorem dX12_holdAll_7 : decode cX12_holdAll 7 = .ok (.iload_n 2, 1) := by decide +kernel
theorem dX12_holdAll_8 : decode cX12_holdAll 8 = .ok (.iload_n 1, 1) := by decide +kernel
theorem dX12_holdAll_9 : decode cX12_holdAll 9 = .ok (.if_icmp .ge 44, 3) := by decide +kernel
theorem dX12_holdAll_12 : decode cX12_holdAll 12 = .ok (.iconst 0, 1) := by decide +kernel
theorem dX12_holdAll_13 : decode cX12_holdAll 13 = .ok (.istore_n 3, 1) := by decide +kernel
theorem dX12_holdAll_14 : decode cX12_holdAll 14 = .ok (.iload_n 3, 1) := by decide +kernel
theorem dX12_holdAll_15 : decode cX12_holdAll 15 = .ok (.bipush 7, 2) := by decide +kernel
theorem dX12_holdAll_17 : decode cX12_holdAll 17 = .ok (.if_icmp .ge 30, 3) := by decide +kernel
theorem dX12_holdAll_20 : decode cX12_holdAll 20 = .ok (.aload_n 0, 1) := by decide +kernel
theorem dX12_holdAll_21 : decode cX12_holdAll 21 = .ok (.invokevirtual 348, 3) := by decide +kernel
theorem dX12_holdAll_24 : decode cX12_holdAll 24 = .ok (.aload_n 0, 1) := by decide +kernel
theorem dX12_holdAll_25 : decode cX12_holdAll 25 = .ok (.iload_n 3, 1) := by decide +kernel
theorem dX12_holdAll_26 : decode cX12_holdAll 26 = .ok (.iload_n 2, 1) := by decide +kernel
theorem dX12_holdAll_27 : decode cX12_holdAll 27 = .ok (.invokevirtual 336, 3) := by decide +kernel
theorem dX12_holdAll_30 : decode cX12_holdAll 30 = .ok (.ifCond .eq 11, 3) := by decide +kernel
theorem dX12_holdAll_33 : decode cX12_holdAll 33 = .ok (.aload_n 0, 1) := by decide +kernel
theorem dX12_holdAll_34 : decode cX12_holdAll 34 = .ok (.invokevirtual 351, 3) := by decide +kernel
theorem dX12_holdAll_37 : decode cX12_holdAll 37 = .ok (.aload_n 0, 1) := by decide +kernel
theorem dX12_holdAll_38 : decode cX12_holdAll 38 = .ok (.invokevirtual 354, 3) := by decide +kernel
theorem dX12_holdAll_41 : decode cX12_holdAll 41 = .ok (.iinc 3 1, 3) := by decide +kernel
theorem dX12_holdAll_44 : decode cX12_holdAll 44 = .ok (.goto (-30), 3) := by decide +kernel
theorem dX12_holdAll_47 : decode cX12_holdAll 47 = .ok (.iinc 2 1, 3) := by decide +kernel
theorem dX12_holdAll_50 : decode cX12_holdAll 50 = .ok (.goto (-43), 3) := by decide +kernel
theorem dX12_holdAll_53 : decode cX12_holdAll 53 = .ok (.return_, 1) := by decide +kernel
set_option maxRecDepth 10000 in
theorem NX12_holdAll_0 {d : Nat} {S : fW} {h : fH} {Q : fH → Prop} {r0 : Nat} {r0_pad r0_text r0_number r0_span r0_now r0_sizeOf r0_workedTo r0_slip r0_exactUpper r0_exactLower r0_more r0_terms r0_order r0_bestOrder r0_low r0_high r0_built r0_better r0_base r0_kept r0_isKept : Nat}  
    (hs1 : (r0, shX12 r0_pad r0_text r0_number r0_span r0_now r0_sizeOf r0_workedTo r0_slip r0_exactUpper r0_exactLower r0_more r0_terms r0_order r0_bestOrder r0_low r0_high r0_built r0_better r0_base r0_kept r0_isKept) ∈ S)
    (w : G mX12_holdAll (d + 1) S (f_PV Q) 7 [(0, .ref r0), (1, .int (h.1 r0 35)), (2, .int (0 : Int32))] [] h) :
    OkV (d + 1) mX12_holdAll S [.ref r0] h Q := by
  refine Ok.of (by decide) (Nat.le_of_ble_eq_true rfl) ?_
  refine G_aload_n 0 rfl dX12_holdAll_0 rfl ?_
  refine G_geti (k := 35) hs1 (q := (RX12, TX12, 40)) rfl inX12 (by decide) (Or.inl rfl) hF_X12_345 dX12_holdAll_1 ?_
  refine G_istore_n dX12_holdAll_4 rfl (by decide) (lv' := [(1, .int (h.1 r0 35)), (0, .ref r0)]) rfl ?_
  refine G_iconst (v := 0) dX12_holdAll_5 (by decide) ?_
  refine G_istore_n dX12_holdAll_6 rfl (by decide) (lv' := [(2, .int (0 : Int32)), (1, .int (h.1 r0 35)), (0, .ref r0)]) rfl ?_
  exact G_sub [2, 1, 0] rfl w

set_option maxRecDepth 10000 in
theorem NX12_holdAll_7 {d : Nat} {S : fW} {h : fH} {Q : fH → Prop} {r0 : Nat} {x1 : Int32} {x2 : Int32}  
    (w : ((x1 ≤ x2 → Q h) ∧ (¬ x1 ≤ x2 → G mX12_holdAll (d + 1) S (f_PV Q) 14 [(0, .ref r0), (1, .int x1), (2, .int x2), (3, .int (0 : Int32))] [] h))) :
    G mX12_holdAll (d + 1) S (f_PV Q) 7 [(0, .ref r0), (1, .int x1), (2, .int x2)] [] h := by
  refine G_iload_n 2 rfl dX12_holdAll_7 rfl ?_
  refine G_iload_n 1 rfl dX12_holdAll_8 rfl ?_
  refine G_icmp_ge (tgt := 53) dX12_holdAll_9 (by decide) (fun c1 => ?_) (fun c1 => ?_)
  · have w := w.1 c1
    exact G_vret rfl dX12_holdAll_53 ⟨rfl, w⟩
  · have w := w.2 c1
    refine G_iconst (v := 0) dX12_holdAll_12 (by decide) ?_
    refine G_istore_n dX12_holdAll_13 rfl (by decide) (lv' := [(3, .int (0 : Int32)), (0, .ref r0), (1, .int x1), (2, .int x2)]) rfl ?_
    exact G_sub [1, 2, 3, 0] rfl w

set_option maxRecDepth 10000 in
theorem NX12_holdAll_14 {d : Nat} {S : fW} {h : fH} {Q : fH → Prop} {r0 : Nat} {x1 : Int32} {x2 : Int32} {x3 : Int32} {r0_pad r0_text r0_number r0_span r0_now r0_sizeOf r0_workedTo r0_slip r0_exactUpper r0_exactLower r0_more r0_terms r0_order r0_bestOrder r0_low r0_high r0_built r0_better r0_base r0_kept r0_isKept : Nat}  
    (hs1 : (r0, shX12 r0_pad r0_text r0_number r0_span r0_now r0_sizeOf r0_workedTo r0_slip r0_exactUpper r0_exactLower r0_more r0_terms r0_order r0_bestOrder r0_low r0_high r0_built r0_better r0_base r0_kept r0_isKept) ∈ S)
    (w : (((7 : Int32) ≤ x3 → G mX12_holdAll (d + 1) S (f_PV Q) 7 [(0, .ref r0), (1, .int x1), (2, .int (x2 + 1))] [] h) ∧ (¬ (7 : Int32) ≤ x3 → ∃ Q1 : fH → Prop, OkV d mX12_layBase S [.ref r0] h Q1 ∧ ∀ (h_1 : fH), Q1 h_1 → ∃ Q2 : Int32 → fH → Prop, OkI d mX12_build S [.ref r0, .int x3, .int x2] h_1 Q2 ∧ ∀ (v_2 : Int32) (h_2 : fH), Q2 v_2 h_2 → ((v_2 = 0 → G mX12_holdAll (d + 1) S (f_PV Q) 14 [(0, .ref r0), (1, .int x1), (2, .int x2), (3, .int (x3 + 1))] [] h_2) ∧ (¬ v_2 = 0 → ∃ Q3 : fH → Prop, OkV d mX12_layBuilt S [.ref r0] h_2 Q3 ∧ ∀ (h_3 : fH), Q3 h_3 → ∃ Q4 : fH → Prop, OkV d mX12_hold S [.ref r0] h_3 Q4 ∧ ∀ (h_4 : fH), Q4 h_4 → G mX12_holdAll (d + 1) S (f_PV Q) 14 [(0, .ref r0), (1, .int x1), (2, .int x2), (3, .int (x3 + 1))] [] h_4))))) :
    G mX12_holdAll (d + 1) S (f_PV Q) 14 [(0, .ref r0), (1, .int x1), (2, .int x2), (3, .int x3)] [] h := by
  refine G_iload_n 3 rfl dX12_holdAll_14 rfl ?_
  refine G_bipush (v := 7) dX12_holdAll_15 (by decide) ?_
  refine G_icmp_ge (tgt := 47) dX12_holdAll_17 (by decide) (fun c1 => ?_) (fun c1 => ?_)
  · have w := w.1 c1
    refine G_iinc (v := 1) 2 rfl dX12_holdAll_47 (by decide) (by decide) (lv' := [(2, .int (x2 + 1)), (0, .ref r0), (1, .int x1), (3, .int x3)]) rfl ?_
    refine G_goto (tgt := 7) dX12_holdAll_50 (by decide) ?_
    exact G_sub [1, 2, 0] rfl w
  · have w := w.2 c1
    refine G_aload_n 0 rfl dX12_holdAll_20 rfl ?_
    obtain ⟨Q1, ok1, w⟩ := w
    refine G_callV (Z := mX12_layBase) (As := []) (st := []) hL_X12_348 hI_X12_layBase hS_X12_layBase hC_X12_layBase hN_X12 nX12_layBase (by decide) hs1 rfl rfl rfl (Nat.le_of_ble_eq_true rfl) dX12_holdAll_21 ok1 (fun r_ h_1 z_ => ?_)
    obtain ⟨rfl, q_1⟩ := z_
    have w := w h_1 q_1
    refine G_aload_n 0 rfl dX12_holdAll_24 rfl ?_
    refine G_iload_n 3 rfl dX12_holdAll_25 rfl ?_
    refine G_iload_n 2 rfl dX12_holdAll_26 rfl ?_
    obtain ⟨Q2, ok2, w⟩ := w
    refine G_callV (Z := mX12_build) (As := [.int x3, .int x2]) (st := []) hL_X12_336 hI_X12_build hS_X12_build hC_X12_build hN_X12 nX12_build (by decide) hs1 rfl rfl rfl (Nat.le_of_ble_eq_true rfl) dX12_holdAll_27 ok2 (fun r_ h_2 z_ => ?_)
    obtain ⟨v_2, rfl, q_2⟩ := z_
    have w := w v_2 h_2 q_2
    refine G_if_eq (tgt := 41) dX12_holdAll_30 (by decide) (fun c2 => ?_) (fun c2 => ?_)
    · have w := w.1 c2
      refine G_iinc (v := 1) 3 rfl dX12_holdAll_41 (by decide) (by decide) (lv' := [(3, .int (x3 + 1)), (0, .ref r0), (1, .int x1), (2, .int x2)]) rfl ?_
      refine G_goto (tgt := 14) dX12_holdAll_44 (by decide) ?_
      exact G_sub [1, 2, 3, 0] rfl w
    · have w := w.2 c2
      refine G_aload_n 0 rfl dX12_holdAll_33 rfl ?_
      obtain ⟨Q3, ok3, w⟩ := w
      refine G_callV (Z := mX12_layBuilt) (As := []) (st := []) hL_X12_351 hI_X12_layBuilt hS_X12_layBuilt hC_X12_layBuilt hN_X12 nX12_layBuilt (by decide) hs1 rfl rfl rfl (Nat.le_of_ble_eq_true rfl) dX12_holdAll_34 ok3 (fun r_ h_3 z_ => ?_)
      obtain ⟨rfl, q_3⟩ := z_
      have w := w h_3 q_3
      refine G_aload_n 0 rfl dX12_holdAll_37 rfl ?_
      obtain ⟨Q4, ok4, w⟩ := w
      refine G_callV (Z := mX12_hold) (As := []) (st := []) hL_X12_354 hI_X12_hold hS_X12_hold hC_X12_hold hN_X12 nX12_hold (by decide) hs1 rfl rfl rfl (Nat.le_of_ble_eq_true rfl) dX12_holdAll_38 ok4 (fun r_ h_4 z_ => ?_)
      obtain ⟨rfl, q_4⟩ := z_
      have w := w h_4 q_4
      refine G_iinc (v := 1) 3 rfl dX12_holdAll_41 (by decide) (by decide) (lv' := [(3, .int (x3 + 1)), (0, .ref r0), (1, .int x1), (2, .int x2)]) rfl ?_
      refine G_goto (tgt := 14) dX12_holdAll_44 (by decide) ?_
      exact G_sub [1, 2, 3, 0] rfl w
-- LostDigitsModel.findBetter
theorem dX12_findBetter_0 : decode cX12_findBetter 0 = .ok (.aload_n 0, 1) := by decide +kernel
theorem dX12_findBetter_1 : decode cX12_findBetter 1 = .ok (.iconst 0, 1) := by decide +kernel
theorem dX12_findBetter_2 : decode cX12_findBetter 2 = .ok (.putfield 339, 3) := by decide +kernel
theorem dX12_findBetter_5 : decode cX12_findBetter 5 = .ok (.aload_n 0, 1) := by decide +kernel
theorem dX12_findBetter_6 : decode cX12_findBetter 6 = .ok (.invokevirtual 223, 3) := by decide +kernel
theorem dX12_findBetter_9 : decode cX12_findBetter 9 = .ok (.aload_n 0, 1) := by decide +kernel
theorem dX12_findBetter_10 : decode cX12_findBetter 10 = .ok (.invokevirtual 354, 3) := by decide +kernel
theorem dX12_findBetter_13 : decode cX12_findBetter 13 = .ok (.iload_n 1, 1) := by decide +kernel
theorem dX12_findBetter_14 : decode cX12_findBetter 14 = .ok (.ifCond .le 15, 3) := by decide +kernel
theorem dX12_findBetter_17 : decode cX12_findBetter 17 = .ok (.aload_n 0, 1) := by decide +kernel
theorem dX12_findBetter_18 : decode cX12_findBetter 18 = .ok (.invokevirtual 223, 3) := by decide +kernel
theorem dX12_findBetter_21 : decode cX12_findBetter 21 = .ok (.aload_n 0, 1) := by decide +kernel
theorem dX12_findBetter_22 : decode cX12_findBetter 22 = .ok (.invokevirtual 357, 3) := by decide +kernel
theorem dX12_findBetter_25 : decode cX12_findBetter 25 = .ok (.aload_n 0, 1) := by decide +kernel
theorem dX12_findBetter_26 : decode cX12_findBetter 26 = .ok (.invokevirtual 360, 3) := by decide +kernel
theorem dX12_findBetter_29 : decode cX12_findBetter 29 = .ok (.iconst 0, 1) := by decide +kernel
theorem dX12_findBetter_30 : decode cX12_findBetter 30 = .ok (.istore_n 2, 1) := by decide +kernel
theorem dX12_findBetter_31 : decode cX12_findBetter 31 = .ok (.iload_n 2, 1) := by decide +kernel
theorem dX12_findBetter_32 : decode cX12_findBetter 32 = .ok (.aload_n 0, 1) := by decide +kernel
theorem dX12_findBetter_33 : decode cX12_findBetter 33 = .ok (.getfield 79, 3) := by decide +kernel
theorem dX12_findBetter_36 : decode cX12_findBetter 36 = .ok (.if_icmp .ge 53, 3) := by decide +kernel
theorem dX12_findBetter_39 : decode cX12_findBetter 39 = .ok (.iload_n 1, 1) := by decide +kernel
theorem dX12_findBetter_40 : decode cX12_findBetter 40 = .ok (.iconst 1, 1) := by decide +kernel
theorem dX12_findBetter_41 : decode cX12_findBetter 41 = .ok (.if_icmp .le 48, 3) := by decide +kernel
theorem dX12_findBetter_44 : decode cX12_findBetter 44 = .ok (.iconst 0, 1) := by decide +kernel
theorem dX12_findBetter_45 : decode cX12_findBetter 45 = .ok (.istore_n 3, 1) := by decide +kernel
theorem dX12_findBetter_46 : decode cX12_findBetter 46 = .ok (.iload_n 3, 1) := by decide +kernel
theorem dX12_findBetter_47 : decode cX12_findBetter 47 = .ok (.bipush 7, 2) := by decide +kernel
theorem dX12_findBetter_49 : decode cX12_findBetter 49 = .ok (.if_icmp .ge 34, 3) := by decide +kernel
theorem dX12_findBetter_52 : decode cX12_findBetter 52 = .ok (.aload_n 0, 1) := by decide +kernel
theorem dX12_findBetter_53 : decode cX12_findBetter 53 = .ok (.invokevirtual 223, 3) := by decide +kernel
theorem dX12_findBetter_56 : decode cX12_findBetter 56 = .ok (.aload_n 0, 1) := by decide +kernel
theorem dX12_findBetter_57 : decode cX12_findBetter 57 = .ok (.iload_n 3, 1) := by decide +kernel
theorem dX12_findBetter_58 : decode cX12_findBetter 58 = .ok (.iload_n 2, 1) := by decide +kernel
theorem dX12_findBetter_59 : decode cX12_findBetter 59 = .ok (.invokevirtual 336, 3) := by decide +kernel
theorem dX12_findBetter_62 : decode cX12_findBetter 62 = .ok (.ifCond .eq 15, 3) := by decide +kernel
theorem dX12_findBetter_65 : decode cX12_findBetter 65 = .ok (.aload_n 0, 1) := by decide +kernel
theorem dX12_findBetter_66 : decode cX12_findBetter 66 = .ok (.invokevirtual 351, 3) := by decide +kernel
theorem dX12_findBetter_69 : decode cX12_findBetter 69 = .ok (.aload_n 0, 1) := by decide +kernel
theorem dX12_findBetter_70 : decode cX12_findBetter 70 = .ok (.invokevirtual 357, 3) := by decide +kernel
theorem dX12_findBetter_73 : decode cX12_findBetter 73 = .ok (.aload_n 0, 1) := by decide +kernel
theorem dX12_findBetter_74 : decode cX12_findBetter 74 = .ok (.invokevirtual 360, 3) := by decide +kernel
theorem dX12_findBetter_77 : decode cX12_findBetter 77 = .ok (.iinc 3 1, 3) := by decide +kernel
theorem dX12_findBetter_80 : decode cX12_findBetter 80 = .ok (.goto (-34), 3) := by decide +kernel
theorem dX12_findBetter_83 : decode cX12_findBetter 83 = .ok (.iinc 2 1, 3) := by decide +kernel
theorem dX12_findBetter_86 : decode cX12_findBetter 86 = .ok (.goto (-55), 3) := by decide +kernel
theorem dX12_findBetter_89 : decode cX12_findBetter 89 = .ok (.return_, 1) := by decide +kernel
set_option maxRecDepth 10000 in
theorem NX12_findBetter_0 {d : Nat} {S : fW} {h : fH} {Q : fH → Prop} {r0 : Nat} {x1 : Int32} {r0_pad r0_text r0_number r0_span r0_now r0_sizeOf r0_workedTo r0_slip r0_exactUpper r0_exactLower r0_more r0_terms r0_order r0_bestOrder r0_low r0_high r0_built r0_better r0_base r0_kept r0_isKept : Nat}  
    (hs1 : (r0, shX12 r0_pad r0_text r0_number r0_span r0_now r0_sizeOf r0_workedTo r0_slip r0_exactUpper r0_exactLower r0_more r0_terms r0_order r0_bestOrder r0_low r0_high r0_built r0_better r0_base r0_kept r0_isKept) ∈ S)
    (w : ∀ g_1 : fH, g_1 = u_fi h r0 32 (0 : Int32) → ∃ Q1 : fH → Prop, OkV d mX12_layText S [.ref r0] g_1 Q1 ∧ ∀ (h_1 : fH), Q1 h_1 → ∃ Q2 : fH → Prop, OkV d mX12_hold S [.ref r0] h_1 Q2 ∧ ∀ (h_2 : fH), Q2 h_2 → ((x1 ≤ 0 → G mX12_findBetter (d + 1) S (f_PV Q) 31 [(0, .ref r0), (1, .int x1), (2, .int (0 : Int32))] [] h_2) ∧ (¬ x1 ≤ 0 → ∃ Q3 : fH → Prop, OkV d mX12_layText S [.ref r0] h_2 Q3 ∧ ∀ (h_3 : fH), Q3 h_3 → ∃ Q4 : fH → Prop, OkV d mX12_keepBase S [.ref r0] h_3 Q4 ∧ ∀ (h_4 : fH), Q4 h_4 → ∃ Q5 : fH → Prop, OkV d mX12_holdAll S [.ref r0] h_4 Q5 ∧ ∀ (h_5 : fH), Q5 h_5 → G mX12_findBetter (d + 1) S (f_PV Q) 31 [(0, .ref r0), (1, .int x1), (2, .int (0 : Int32))] [] h_5))) :
    OkV (d + 1) mX12_findBetter S [.ref r0, .int x1] h Q := by
  refine Ok.of (by decide) (Nat.le_of_ble_eq_true rfl) ?_
  refine G_aload_n 0 rfl dX12_findBetter_0 rfl ?_
  refine G_iconst (v := 0) dX12_findBetter_1 (by decide) ?_
  refine G_puti (k := 32) tyX12 hs1 (q := (RX12, TX12, 40)) rfl inX12 tyX12_ok nmX12 (by decide) rfl rfl rfl hF_X12_339 dX12_findBetter_2 ?_
  refine G_nm (fun g_1 e_1 => ?_)
  have w := w g_1 e_1
  refine G_aload_n 0 rfl dX12_findBetter_5 rfl ?_
  obtain ⟨Q1, ok1, w⟩ := w
  refine G_callV (Z := mX12_layText) (As := []) (st := []) hL_X12_223 hI_X12_layText hS_X12_layText hC_X12_layText hN_X12 nX12_layText (by decide) hs1 rfl rfl rfl (Nat.le_of_ble_eq_true rfl) dX12_findBetter_6 ok1 (fun r_ h_1 z_ => ?_)
  obtain ⟨rfl, q_1⟩ := z_
  have w := w h_1 q_1
  refine G_aload_n 0 rfl dX12_findBetter_9 rfl ?_
  obtain ⟨Q2, ok2, w⟩ := w
  refine G_callV (Z := mX12_hold) (As := []) (st := []) hL_X12_354 hI_X12_hold hS_X12_hold hC_X12_hold hN_X12 nX12_hold (by decide) hs1 rfl rfl rfl (Nat.le_of_ble_eq_true rfl) dX12_findBetter_10 ok2 (fun r_ h_2 z_ => ?_)
  obtain ⟨rfl, q_2⟩ := z_
  have w := w h_2 q_2
  refine G_iload_n 1 rfl dX12_findBetter_13 rfl ?_
  refine G_if_le (tgt := 29) dX12_findBetter_14 (by decide) (fun c1 => ?_) (fun c1 => ?_)
  · have w := w.1 c1
    refine G_iconst (v := 0) dX12_findBetter_29 (by decide) ?_
    refine G_istore_n dX12_findBetter_30 rfl (by decide) (lv' := [(2, .int (0 : Int32)), (0, .ref r0), (1, .int x1)]) rfl ?_
    exact G_sub [1, 2, 0] rfl w
  · have w := w.2 c1
    refine G_aload_n 0 rfl dX12_findBetter_17 rfl ?_
    obtain ⟨Q3, ok3, w⟩ := w
    refine G_callV (Z := mX12_layText) (As := []) (st := []) hL_X12_223 hI_X12_layText hS_X12_layText hC_X12_layText hN_X12 nX12_layText (by decide) hs1 rfl rfl rfl (Nat.le_of_ble_eq_true rfl) dX12_findBetter_18 ok3 (fun r_ h_3 z_ => ?_)
    obtain ⟨rfl, q_3⟩ := z_
    have w := w h_3 q_3
    refine G_aload_n 0 rfl dX12_findBetter_21 rfl ?_
    obtain ⟨Q4, ok4, w⟩ := w
    refine G_callV (Z := mX12_keepBase) (As := []) (st := []) hL_X12_357 hI_X12_keepBase hS_X12_keepBase hC_X12_keepBase hN_X12 nX12_keepBase (by decide) hs1 rfl rfl rfl (Nat.le_of_ble_eq_true rfl) dX12_findBetter_22 ok4 (fun r_ h_4 z_ => ?_)
    obtain ⟨rfl, q_4⟩ := z_
    have w := w h_4 q_4
    refine G_aload_n 0 rfl dX12_findBetter_25 rfl ?_
    obtain ⟨Q5, ok5, w⟩ := w
    refine G_callV (Z := mX12_holdAll) (As := []) (st := []) hL_X12_360 hI_X12_holdAll hS_X12_holdAll hC_X12_holdAll hN_X12 nX12_holdAll (by decide) hs1 rfl rfl rfl (Nat.le_of_ble_eq_true rfl) dX12_findBetter_26 ok5 (fun r_ h_5 z_ => ?_)
    obtain ⟨rfl, q_5⟩ := z_
    have w := w h_5 q_5
    refine G_iconst (v := 0) dX12_findBetter_29 (by decide) ?_
    refine G_istore_n dX12_findBetter_30 rfl (by decide) (lv' := [(2, .int (0 : Int32)), (0, .ref r0), (1, .int x1)]) rfl ?_
    exact G_sub [1, 2, 0] rfl w

set_option maxRecDepth 10000 in
theorem NX12_findBetter_31 {d : Nat} {S : fW} {h : fH} {Q : fH → Prop} {r0 : Nat} {x1 : Int32} {x2 : Int32} {r0_pad r0_text r0_number r0_span r0_now r0_sizeOf r0_workedTo r0_slip r0_exactUpper r0_exactLower r0_more r0_terms r0_order r0_bestOrder r0_low r0_high r0_built r0_better r0_base r0_kept r0_isKept : Nat}  
    (hs1 : (r0, shX12 r0_pad r0_text r0_number r0_span r0_now r0_sizeOf r0_workedTo r0_slip r0_exactUpper r0_exactLower r0_more r0_terms r0_order r0_bestOrder r0_low r0_high r0_built r0_better r0_base r0_kept r0_isKept) ∈ S)
    (w : (((h.1 r0 10) ≤ x2 → Q h) ∧ (¬ (h.1 r0 10) ≤ x2 → ((x1 ≤ (1 : Int32) → Q h) ∧ (¬ x1 ≤ (1 : Int32) → G mX12_findBetter (d + 1) S (f_PV Q) 46 [(0, .ref r0), (1, .int x1), (2, .int x2), (3, .int (0 : Int32))] [] h))))) :
    G mX12_findBetter (d + 1) S (f_PV Q) 31 [(0, .ref r0), (1, .int x1), (2, .int x2)] [] h := by
  refine G_iload_n 2 rfl dX12_findBetter_31 rfl ?_
  refine G_aload_n 0 rfl dX12_findBetter_32 rfl ?_
  refine G_geti (k := 10) hs1 (q := (RX12, TX12, 40)) rfl inX12 (by decide) (Or.inl rfl) hF_X12_79 dX12_findBetter_33 ?_
  refine G_icmp_ge (tgt := 89) dX12_findBetter_36 (by decide) (fun c1 => ?_) (fun c1 => ?_)
  · have w := w.1 c1
    exact G_vret rfl dX12_findBetter_89 ⟨rfl, w⟩
  · have w := w.2 c1
    refine G_iload_n 1 rfl dX12_findBetter_39 rfl ?_
    refine G_iconst (v := 1) dX12_findBetter_40 (by decide) ?_
    refine G_icmp_le (tgt := 89) dX12_findBetter_41 (by decide) (fun c2 => ?_) (fun c2 => ?_)
    · have w := w.1 c2
      exact G_vret rfl dX12_findBetter_89 ⟨rfl, w⟩
    · have w := w.2 c2
      refine G_iconst (v := 0) dX12_findBetter_44 (by decide) ?_
      refine G_istore_n dX12_findBetter_45 rfl (by decide) (lv' := [(3, .int (0 : Int32)), (0, .ref r0), (1, .int x1), (2, .int x2)]) rfl ?_
      exact G_sub [1, 2, 3, 0] rfl w

set_option maxRecDepth 10000 in
theorem NX12_findBetter_46 {d : Nat} {S : fW} {h : fH} {Q : fH → Prop} {r0 : Nat} {x1 : Int32} {x2 : Int32} {x3 : Int32} {r0_pad r0_text r0_number r0_span r0_now r0_sizeOf r0_workedTo r0_slip r0_exactUpper r0_exactLower r0_more r0_terms r0_order r0_bestOrder r0_low r0_high r0_built r0_better r0_base r0_kept r0_isKept : Nat}  
    (hs1 : (r0, shX12 r0_pad r0_text r0_number r0_span r0_now r0_sizeOf r0_workedTo r0_slip r0_exactUpper r0_exactLower r0_more r0_terms r0_order r0_bestOrder r0_low r0_high r0_built r0_better r0_base r0_kept r0_isKept) ∈ S)
    (w : (((7 : Int32) ≤ x3 → G mX12_findBetter (d + 1) S (f_PV Q) 31 [(0, .ref r0), (1, .int x1), (2, .int (x2 + 1))] [] h) ∧ (¬ (7 : Int32) ≤ x3 → ∃ Q1 : fH → Prop, OkV d mX12_layText S [.ref r0] h Q1 ∧ ∀ (h_1 : fH), Q1 h_1 → ∃ Q2 : Int32 → fH → Prop, OkI d mX12_build S [.ref r0, .int x3, .int x2] h_1 Q2 ∧ ∀ (v_2 : Int32) (h_2 : fH), Q2 v_2 h_2 → ((v_2 = 0 → G mX12_findBetter (d + 1) S (f_PV Q) 46 [(0, .ref r0), (1, .int x1), (2, .int x2), (3, .int (x3 + 1))] [] h_2) ∧ (¬ v_2 = 0 → ∃ Q3 : fH → Prop, OkV d mX12_layBuilt S [.ref r0] h_2 Q3 ∧ ∀ (h_3 : fH), Q3 h_3 → ∃ Q4 : fH → Prop, OkV d mX12_keepBase S [.ref r0] h_3 Q4 ∧ ∀ (h_4 : fH), Q4 h_4 → ∃ Q5 : fH → Prop, OkV d mX12_holdAll S [.ref r0] h_4 Q5 ∧ ∀ (h_5 : fH), Q5 h_5 → G mX12_findBetter (d + 1) S (f_PV Q) 46 [(0, .ref r0), (1, .int x1), (2, .int x2), (3, .int (x3 + 1))] [] h_5))))) :
    G mX12_findBetter (d + 1) S (f_PV Q) 46 [(0, .ref r0), (1, .int x1), (2, .int x2), (3, .int x3)] [] h := by
  refine G_iload_n 3 rfl dX12_findBetter_46 rfl ?_
  refine G_bipush (v := 7) dX12_findBetter_47 (by decide) ?_
  refine G_icmp_ge (tgt := 83) dX12_findBetter_49 (by decide) (fun c1 => ?_) (fun c1 => ?_)
  · have w := w.1 c1
    refine G_iinc (v := 1) 2 rfl dX12_findBetter_83 (by decide) (by decide) (lv' := [(2, .int (x2 + 1)), (0, .ref r0), (1, .int x1), (3, .int x3)]) rfl ?_
    refine G_goto (tgt := 31) dX12_findBetter_86 (by decide) ?_
    exact G_sub [1, 2, 0] rfl w
  · have w := w.2 c1
    refine G_aload_n 0 rfl dX12_findBetter_52 rfl ?_
    obtain ⟨Q1, ok1, w⟩ := w
    refine G_callV (Z := mX12_layText) (As := []) (st := []) hL_X12_223 hI_X12_layText hS_X12_layText hC_X12_layText hN_X12 nX12_layText (by decide) hs1 rfl rfl rfl (Nat.le_of_ble_eq_true rfl) dX12_findBetter_53 ok1 (fun r_ h_1 z_ => ?_)
    obtain ⟨rfl, q_1⟩ := z_
    have w := w h_1 q_1
    refine G_aload_n 0 rfl dX12_findBetter_56 rfl ?_
    refine G_iload_n 3 rfl dX12_findBetter_57 rfl ?_
    refine G_iload_n 2 rfl dX12_findBetter_58 rfl ?_
    obtain ⟨Q2, ok2, w⟩ := w
    refine G_callV (Z := mX12_build) (As := [.int x3, .int x2]) (st := []) hL_X12_336 hI_X12_build hS_X12_build hC_X12_build hN_X12 nX12_build (by decide) hs1 rfl rfl rfl (Nat.le_of_ble_eq_true rfl) dX12_findBetter_59 ok2 (fun r_ h_2 z_ => ?_)
    obtain ⟨v_2, rfl, q_2⟩ := z_
    have w := w v_2 h_2 q_2
    refine G_if_eq (tgt := 77) dX12_findBetter_62 (by decide) (fun c2 => ?_) (fun c2 => ?_)
    · have w := w.1 c2
      refine G_iinc (v := 1) 3 rfl dX12_findBetter_77 (by decide) (by decide) (lv' := [(3, .int (x3 + 1)), (0, .ref r0), (1, .int x1), (2, .int x2)]) rfl ?_
      refine G_goto (tgt := 46) dX12_findBetter_80 (by decide) ?_
      exact G_sub [1, 2, 3, 0] rfl w
    · have w := w.2 c2
      refine G_aload_n 0 rfl dX12_findBetter_65 rfl ?_
      obtain ⟨Q3, ok3, w⟩ := w
      refine G_callV (Z := mX12_layBuilt) (As := []) (st := []) hL_X12_351 hI_X12_layBuilt hS_X12_layBuilt hC_X12_layBuilt hN_X12 nX12_layBuilt (by decide) hs1 rfl rfl rfl (Nat.le_of_ble_eq_true rfl) dX12_findBetter_66 ok3 (fun r_ h_3 z_ => ?_)
      obtain ⟨rfl, q_3⟩ := z_
      have w := w h_3 q_3
      refine G_aload_n 0 rfl dX12_findBetter_69 rfl ?_
      obtain ⟨Q4, ok4, w⟩ := w
      refine G_callV (Z := mX12_keepBase) (As := []) (st := []) hL_X12_357 hI_X12_keepBase hS_X12_keepBase hC_X12_keepBase hN_X12 nX12_keepBase (by decide) hs1 rfl rfl rfl (Nat.le_of_ble_eq_true rfl) dX12_findBetter_70 ok4 (fun r_ h_4 z_ => ?_)
      obtain ⟨rfl, q_4⟩ := z_
      have w := w h_4 q_4
      refine G_aload_n 0 rfl dX12_findBetter_73 rfl ?_
      obtain ⟨Q5, ok5, w⟩ := w
      refine G_callV (Z := mX12_holdAll) (As := []) (st := []) hL_X12_360 hI_X12_holdAll hS_X12_holdAll hC_X12_holdAll hN_X12 nX12_holdAll (by decide) hs1 rfl rfl rfl (Nat.le_of_ble_eq_true rfl) dX12_findBetter_74 ok5 (fun r_ h_5 z_ => ?_)
      obtain ⟨rfl, q_5⟩ := z_
      have w := w h_5 q_5
      refine G_iinc (v := 1) 3 rfl dX12_findBetter_77 (by decide) (by decide) (lv' := [(3, .int (x3 + 1)), (0, .ref r0), (1, .int x1), (2, .int x2)]) rfl ?_
      refine G_goto (tgt := 46) dX12_findBetter_80 (by decide) ?_
      exact G_sub [1, 2, 3, 0] rfl w
-- LostDigitsModel.better
theorem dX12_better_0 : decode cX12_better 0 = .ok (.iload_n 1, 1) := by decide +kernel
theorem dX12_better_1 : decode cX12_better 1 = .ok (.i2l, 1) := by decide +kernel
theorem dX12_better_2 : decode cX12_better 2 = .ok (.lconst 0, 1) := by decide +kernel
theorem dX12_better_3 : decode cX12_better 3 = .ok (.ldc2_w 88, 3) := by decide +kernel
theorem dX12_better_6 : decode cX12_better 6 = .ok (.invokestatic 82, 3) := by decide +kernel
theorem dX12_better_9 : decode cX12_better 9 = .ok (.ifCond .ne 7, 3) := by decide +kernel
theorem dX12_better_12 : decode cX12_better 12 = .ok (.ldc2_w 153, 3) := by decide +kernel
theorem dX12_better_15 : decode cX12_better 15 = .ok (.lreturn, 1) := by decide +kernel
theorem dX12_better_16 : decode cX12_better 16 = .ok (.aload_n 0, 1) := by decide +kernel
theorem dX12_better_17 : decode cX12_better 17 = .ok (.iload_n 1, 1) := by decide +kernel
theorem dX12_better_18 : decode cX12_better 18 = .ok (.invokevirtual 363, 3) := by decide +kernel
theorem dX12_better_21 : decode cX12_better 21 = .ok (.aload_n 0, 1) := by decide +kernel
theorem dX12_better_22 : decode cX12_better 22 = .ok (.getfield 339, 3) := by decide +kernel
theorem dX12_better_25 : decode cX12_better 25 = .ok (.ifCond .ne 9, 3) := by decide +kernel
theorem dX12_better_28 : decode cX12_better 28 = .ok (.ldc2_w 256, 3) := by decide +kernel
theorem dX12_better_31 : decode cX12_better 31 = .ok (.goto 7, 3) := by decide +kernel
theorem dX12_better_34 : decode cX12_better 34 = .ok (.aload_n 0, 1) := by decide +kernel
theorem dX12_better_35 : decode cX12_better 35 = .ok (.getfield 342, 3) := by decide +kernel
theorem dX12_better_38 : decode cX12_better 38 = .ok (.lreturn, 1) := by decide +kernel
set_option maxRecDepth 10000 in
theorem NX12_better_0 {d : Nat} {S : fW} {h : fH} {Q : Int64 → fH → Prop} {r0 : Nat} {x1 : Int32} {r0_pad r0_text r0_number r0_span r0_now r0_sizeOf r0_workedTo r0_slip r0_exactUpper r0_exactLower r0_more r0_terms r0_order r0_bestOrder r0_low r0_high r0_built r0_better r0_base r0_kept r0_isKept : Nat}  
    (hs1 : (r0, shX12 r0_pad r0_text r0_number r0_span r0_now r0_sizeOf r0_workedTo r0_slip r0_exactUpper r0_exactLower r0_more r0_terms r0_order r0_bestOrder r0_low r0_high r0_built r0_better r0_base r0_kept r0_isKept) ∈ S)
    (w : ∃ Q1 : Int32 → fH → Prop, OkI d mX12_in S [.long x1.toInt64, .long (0 : Int64), .long (2 : Int64)] h Q1 ∧ ∀ (v_1 : Int32) (h_1 : fH), Q1 v_1 h_1 → ((¬ v_1 = 0 → ∃ Q2 : fH → Prop, OkV d mX12_findBetter S [.ref r0, .int x1] h_1 Q2 ∧ ∀ (h_2 : fH), Q2 h_2 → ((¬ (h_2.1 r0 32) = 0 → Q (h_2.2.1 r0 33) h_2) ∧ ((h_2.1 r0 32) = 0 → Q (-1000000000000000006 : Int64) h_2))) ∧ (v_1 = 0 → Q (-1000000000000000002 : Int64) h_1))) :
    OkL (d + 1) mX12_better S [.ref r0, .int x1] h Q := by
  refine Ok.of (by decide) (Nat.le_of_ble_eq_true rfl) ?_
  refine G_iload_n 1 rfl dX12_better_0 rfl ?_
  refine G_i2l dX12_better_1 ?_
  refine G_lconst (v := 0) dX12_better_2 (by decide) ?_
  refine G_ldc2 hK_X12_88 dX12_better_3 ?_
  obtain ⟨Q1, ok1, w⟩ := w
  refine G_callS (Z := mX12_in) (As := [.long x1.toInt64, .long (0 : Int64), .long (2 : Int64)]) (st := []) hL_X12_82 hT_X12_in hC_X12_in hN_X12 nX12_in (by decide) rfl (Nat.le_of_ble_eq_true rfl) dX12_better_6 ok1 (fun r_ h_1 z_ => ?_)
  obtain ⟨v_1, rfl, q_1⟩ := z_
  have w := w v_1 h_1 q_1
  refine G_if_ne (tgt := 16) dX12_better_9 (by decide) (fun c1 => ?_) (fun c1 => ?_)
  · have w := w.1 c1
    refine G_aload_n 0 rfl dX12_better_16 rfl ?_
    refine G_iload_n 1 rfl dX12_better_17 rfl ?_
    obtain ⟨Q2, ok2, w⟩ := w
    refine G_callV (Z := mX12_findBetter) (As := [.int x1]) (st := []) hL_X12_363 hI_X12_findBetter hS_X12_findBetter hC_X12_findBetter hN_X12 nX12_findBetter (by decide) hs1 rfl rfl rfl (Nat.le_of_ble_eq_true rfl) dX12_better_18 ok2 (fun r_ h_2 z_ => ?_)
    obtain ⟨rfl, q_2⟩ := z_
    have w := w h_2 q_2
    refine G_aload_n 0 rfl dX12_better_21 rfl ?_
    refine G_geti (k := 32) hs1 (q := (RX12, TX12, 40)) rfl inX12 (by decide) (Or.inl rfl) hF_X12_339 dX12_better_22 ?_
    refine G_if_ne (tgt := 34) dX12_better_25 (by decide) (fun c2 => ?_) (fun c2 => ?_)
    · have w := w.1 c2
      refine G_aload_n 0 rfl dX12_better_34 rfl ?_
      refine G_getl (k := 33) hs1 (q := (RX12, TX12, 40)) rfl inX12 (by decide) rfl hF_X12_342 dX12_better_35 ?_
      exact G_lret rfl dX12_better_38 ⟨_, rfl, w⟩
    · have w := w.2 c2
      refine G_ldc2 hK_X12_256 dX12_better_28 ?_
      refine G_goto (tgt := 38) dX12_better_31 (by decide) ?_
      exact G_lret rfl dX12_better_38 ⟨_, rfl, w⟩
  · have w := w.2 c1
    refine G_ldc2 hK_X12_153 dX12_better_12 ?_
    exact G_lret rfl dX12_better_15 ⟨_, rfl, w⟩
-- LostDigitsModel.betterSign
theorem dX12_betterSign_0 : decode cX12_betterSign 0 = .ok (.iload_n 1, 1) := by decide +kernel
theorem dX12_betterSign_1 : decode cX12_betterSign 1 = .ok (.i2l, 1) := by decide +kernel
theorem dX12_betterSign_2 : decode cX12_betterSign 2 = .ok (.lconst 0, 1) := by decide +kernel
theorem dX12_betterSign_3 : decode cX12_betterSign 3 = .ok (.ldc2_w 88, 3) := by decide +kernel
theorem dX12_betterSign_6 : decode cX12_betterSign 6 = .ok (.invokestatic 82, 3) := by decide +kernel
theorem dX12_betterSign_9 : decode cX12_betterSign 9 = .ok (.ifCond .ne 6, 3) := by decide +kernel
theorem dX12_betterSign_12 : decode cX12_betterSign 12 = .ok (.bipush (-2), 2) := by decide +kernel
theorem dX12_betterSign_14 : decode cX12_betterSign 14 = .ok (.ireturn, 1) := by decide +kernel
theorem dX12_betterSign_15 : decode cX12_betterSign 15 = .ok (.aload_n 0, 1) := by decide +kernel
theorem dX12_betterSign_16 : decode cX12_betterSign 16 = .ok (.iload_n 1, 1) := by decide +kernel
theorem dX12_betterSign_17 : decode cX12_betterSign 17 = .ok (.invokevirtual 363, 3) := by decide +kernel
theorem dX12_betterSign_20 : decode cX12_betterSign 20 = .ok (.iload_n 2, 1) := by decide +kernel
theorem dX12_betterSign_21 : decode cX12_betterSign 21 = .ok (.iconst (-1), 1) := by decide +kernel
theorem dX12_betterSign_22 : decode cX12_betterSign 22 = .ok (.if_icmp .ne 17, 3) := by decide +kernel
theorem dX12_betterSign_25 : decode cX12_betterSign 25 = .ok (.aload_n 0, 1) := by decide +kernel
theorem dX12_betterSign_26 : decode cX12_betterSign 26 = .ok (.getfield 339, 3) := by decide +kernel
theorem dX12_betterSign_29 : decode cX12_betterSign 29 = .ok (.ifCond .le 10, 3) := by decide +kernel
theorem dX12_betterSign_32 : decode cX12_betterSign 32 = .ok (.aload_n 0, 1) := by decide +kernel
theorem dX12_betterSign_33 : decode cX12_betterSign 33 = .ok (.getfield 339, 3) := by decide +kernel
theorem dX12_betterSign_36 : decode cX12_betterSign 36 = .ok (.goto 30, 3) := by decide +kernel
theorem dX12_betterSign_39 : decode cX12_betterSign 39 = .ok (.iload_n 2, 1) := by decide +kernel
theorem dX12_betterSign_40 : decode cX12_betterSign 40 = .ok (.i2l, 1) := by decide +kernel
theorem dX12_betterSign_41 : decode cX12_betterSign 41 = .ok (.lconst 0, 1) := by decide +kernel
theorem dX12_betterSign_42 : decode cX12_betterSign 42 = .ok (.aload_n 0, 1) := by decide +kernel
theorem dX12_betterSign_43 : decode cX12_betterSign 43 = .ok (.getfield 339, 3) := by decide +kernel
theorem dX12_betterSign_46 : decode cX12_betterSign 46 = .ok (.iconst 1, 1) := by decide +kernel
theorem dX12_betterSign_47 : decode cX12_betterSign 47 = .ok (.isub, 1) := by decide +kernel
theorem dX12_betterSign_48 : decode cX12_betterSign 48 = .ok (.i2l, 1) := by decide +kernel
theorem dX12_betterSign_49 : decode cX12_betterSign 49 = .ok (.invokestatic 82, 3) := by decide +kernel
theorem dX12_betterSign_52 : decode cX12_betterSign 52 = .ok (.ifCond .eq 12, 3) := by decide +kernel
theorem dX12_betterSign_55 : decode cX12_betterSign 55 = .ok (.aload_n 0, 1) := by decide +kernel
theorem dX12_betterSign_56 : decode cX12_betterSign 56 = .ok (.getfield 62, 3) := by decide +kernel
theorem dX12_betterSign_59 : decode cX12_betterSign 59 = .ok (.iload_n 2, 1) := by decide +kernel
theorem dX12_betterSign_60 : decode cX12_betterSign 60 = .ok (.iaload, 1) := by decide +kernel
theorem dX12_betterSign_61 : decode cX12_betterSign 61 = .ok (.goto 5, 3) := by decide +kernel
theorem dX12_betterSign_64 : decode cX12_betterSign 64 = .ok (.bipush (-6), 2) := by decide +kernel
theorem dX12_betterSign_66 : decode cX12_betterSign 66 = .ok (.ireturn, 1) := by decide +kernel
set_option maxRecDepth 10000 in
theorem NX12_betterSign_0 {d : Nat} {S : fW} {h : fH} {Q : Int32 → fH → Prop} {r0 : Nat} {x1 : Int32} {x2 : Int32} {r0_pad r0_text r0_number r0_span r0_now r0_sizeOf r0_workedTo r0_slip r0_exactUpper r0_exactLower r0_more r0_terms r0_order r0_bestOrder r0_low r0_high r0_built r0_better r0_base r0_kept r0_isKept : Nat}  
    (hs1 : (r0, shX12 r0_pad r0_text r0_number r0_span r0_now r0_sizeOf r0_workedTo r0_slip r0_exactUpper r0_exactLower r0_more r0_terms r0_order r0_bestOrder r0_low r0_high r0_built r0_better r0_base r0_kept r0_isKept) ∈ S)
    (hs2 : (r0_better, shI 13) ∈ S)
    (w : ∃ Q1 : Int32 → fH → Prop, OkI d mX12_in S [.long x1.toInt64, .long (0 : Int64), .long (2 : Int64)] h Q1 ∧ ∀ (v_1 : Int32) (h_1 : fH), Q1 v_1 h_1 → ((¬ v_1 = 0 → ∃ Q2 : fH → Prop, OkV d mX12_findBetter S [.ref r0, .int x1] h_1 Q2 ∧ ∀ (h_2 : fH), Q2 h_2 → ((¬ x2 = (-1 : Int32) → ∃ Q3 : Int32 → fH → Prop, OkI d mX12_in S [.long x2.toInt64, .long (0 : Int64), .long (((h_2.1 r0 32) - (1 : Int32)).toInt64)] h_2 Q3 ∧ ∀ (v_3 : Int32) (h_3 : fH), Q3 v_3 h_3 → ((v_3 = 0 → Q (-6 : Int32) h_3) ∧ (¬ v_3 = 0 → vp_in x2 13 ∧ Q (h_3.2.2.1 r0_better x2.toNatClampNeg) h_3))) ∧ (x2 = (-1 : Int32) → (((h_2.1 r0 32) ≤ 0 → ∃ Q4 : Int32 → fH → Prop, OkI d mX12_in S [.long x2.toInt64, .long (0 : Int64), .long (((h_2.1 r0 32) - (1 : Int32)).toInt64)] h_2 Q4 ∧ ∀ (v_4 : Int32) (h_4 : fH), Q4 v_4 h_4 → ((v_4 = 0 → Q (-6 : Int32) h_4) ∧ (¬ v_4 = 0 → vp_in x2 13 ∧ Q (h_4.2.2.1 r0_better x2.toNatClampNeg) h_4))) ∧ (¬ (h_2.1 r0 32) ≤ 0 → Q (h_2.1 r0 32) h_2))))) ∧ (v_1 = 0 → Q (-2 : Int32) h_1))) :
    OkI (d + 1) mX12_betterSign S [.ref r0, .int x1, .int x2] h Q := by
  refine Ok.of (by decide) (Nat.le_of_ble_eq_true rfl) ?_
  refine G_iload_n 1 rfl dX12_betterSign_0 rfl ?_
  refine G_i2l dX12_betterSign_1 ?_
  refine G_lconst (v := 0) dX12_betterSign_2 (by decide) ?_
  refine G_ldc2 hK_X12_88 dX12_betterSign_3 ?_
  obtain ⟨Q1, ok1, w⟩ := w
  refine G_callS (Z := mX12_in) (As := [.long x1.toInt64, .long (0 : Int64), .long (2 : Int64)]) (st := []) hL_X12_82 hT_X12_in hC_X12_in hN_X12 nX12_in (by decide) rfl (Nat.le_of_ble_eq_true rfl) dX12_betterSign_6 ok1 (fun r_ h_1 z_ => ?_)
  obtain ⟨v_1, rfl, q_1⟩ := z_
  have w := w v_1 h_1 q_1
  refine G_if_ne (tgt := 15) dX12_betterSign_9 (by decide) (fun c1 => ?_) (fun c1 => ?_)
  · have w := w.1 c1
    refine G_aload_n 0 rfl dX12_betterSign_15 rfl ?_
    refine G_iload_n 1 rfl dX12_betterSign_16 rfl ?_
    obtain ⟨Q2, ok2, w⟩ := w
    refine G_callV (Z := mX12_findBetter) (As := [.int x1]) (st := []) hL_X12_363 hI_X12_findBetter hS_X12_findBetter hC_X12_findBetter hN_X12 nX12_findBetter (by decide) hs1 rfl rfl rfl (Nat.le_of_ble_eq_true rfl) dX12_betterSign_17 ok2 (fun r_ h_2 z_ => ?_)
    obtain ⟨rfl, q_2⟩ := z_
    have w := w h_2 q_2
    refine G_iload_n 2 rfl dX12_betterSign_20 rfl ?_
    refine G_iconst (v := -1) dX12_betterSign_21 (by decide) ?_
    refine G_icmp_ne (tgt := 39) dX12_betterSign_22 (by decide) (fun c2 => ?_) (fun c2 => ?_)
    · have w := w.1 c2
      refine G_iload_n 2 rfl dX12_betterSign_39 rfl ?_
      refine G_i2l dX12_betterSign_40 ?_
      refine G_lconst (v := 0) dX12_betterSign_41 (by decide) ?_
      refine G_aload_n 0 rfl dX12_betterSign_42 rfl ?_
      refine G_geti (k := 32) hs1 (q := (RX12, TX12, 40)) rfl inX12 (by decide) (Or.inl rfl) hF_X12_339 dX12_betterSign_43 ?_
      refine G_iconst (v := 1) dX12_betterSign_46 (by decide) ?_
      refine G_isub dX12_betterSign_47 ?_
      refine G_i2l dX12_betterSign_48 ?_
      obtain ⟨Q3, ok3, w⟩ := w
      refine G_callS (Z := mX12_in) (As := [.long x2.toInt64, .long (0 : Int64), .long (((h_2.1 r0 32) - (1 : Int32)).toInt64)]) (st := []) hL_X12_82 hT_X12_in hC_X12_in hN_X12 nX12_in (by decide) rfl (Nat.le_of_ble_eq_true rfl) dX12_betterSign_49 ok3 (fun r_ h_3 z_ => ?_)
      obtain ⟨v_3, rfl, q_3⟩ := z_
      have w := w v_3 h_3 q_3
      refine G_if_eq (tgt := 64) dX12_betterSign_52 (by decide) (fun c3 => ?_) (fun c3 => ?_)
      · have w := w.1 c3
        refine G_bipush (v := -6) dX12_betterSign_64 (by decide) ?_
        exact G_iret rfl dX12_betterSign_66 ⟨_, rfl, w⟩
      · have w := w.2 c3
        refine G_aload_n 0 rfl dX12_betterSign_55 rfl ?_
        refine G_getr (j := r0_better) (k := 31) hs1 (q := (RX12, TX12, 40)) rfl inX12 (by decide) rfl hF_X12_62 dX12_betterSign_56 ?_
        refine G_iload_n 2 rfl dX12_betterSign_59 rfl ?_
        obtain ⟨sd1, w⟩ := w
        refine G_iald hs2 sd1 dX12_betterSign_60 ?_
        refine G_goto (tgt := 66) dX12_betterSign_61 (by decide) ?_
        exact G_iret rfl dX12_betterSign_66 ⟨_, rfl, w⟩
    · have w := w.2 c2
      refine G_aload_n 0 rfl dX12_betterSign_25 rfl ?_
      refine G_geti (k := 32) hs1 (q := (RX12, TX12, 40)) rfl inX12 (by decide) (Or.inl rfl) hF_X12_339 dX12_betterSign_26 ?_
      refine G_if_le (tgt := 39) dX12_betterSign_29 (by decide) (fun c3 => ?_) (fun c3 => ?_)
      · have w := w.1 c3
        refine G_iload_n 2 rfl dX12_betterSign_39 rfl ?_
        refine G_i2l dX12_betterSign_40 ?_
        refine G_lconst (v := 0) dX12_betterSign_41 (by decide) ?_
        refine G_aload_n 0 rfl dX12_betterSign_42 rfl ?_
        refine G_geti (k := 32) hs1 (q := (RX12, TX12, 40)) rfl inX12 (by decide) (Or.inl rfl) hF_X12_339 dX12_betterSign_43 ?_
        refine G_iconst (v := 1) dX12_betterSign_46 (by decide) ?_
        refine G_isub dX12_betterSign_47 ?_
        refine G_i2l dX12_betterSign_48 ?_
        obtain ⟨Q4, ok4, w⟩ := w
        refine G_callS (Z := mX12_in) (As := [.long x2.toInt64, .long (0 : Int64), .long (((h_2.1 r0 32) - (1 : Int32)).toInt64)]) (st := []) hL_X12_82 hT_X12_in hC_X12_in hN_X12 nX12_in (by decide) rfl (Nat.le_of_ble_eq_true rfl) dX12_betterSign_49 ok4 (fun r_ h_4 z_ => ?_)
        obtain ⟨v_4, rfl, q_4⟩ := z_
        have w := w v_4 h_4 q_4
        refine G_if_eq (tgt := 64) dX12_betterSign_52 (by decide) (fun c4 => ?_) (fun c4 => ?_)
        · have w := w.1 c4
          refine G_bipush (v := -6) dX12_betterSign_64 (by decide) ?_
          exact G_iret rfl dX12_betterSign_66 ⟨_, rfl, w⟩
        · have w := w.2 c4
          refine G_aload_n 0 rfl dX12_betterSign_55 rfl ?_
          refine G_getr (j := r0_better) (k := 31) hs1 (q := (RX12, TX12, 40)) rfl inX12 (by decide) rfl hF_X12_62 dX12_betterSign_56 ?_
          refine G_iload_n 2 rfl dX12_betterSign_59 rfl ?_
          obtain ⟨sd1, w⟩ := w
          refine G_iald hs2 sd1 dX12_betterSign_60 ?_
          refine G_goto (tgt := 66) dX12_betterSign_61 (by decide) ?_
          exact G_iret rfl dX12_betterSign_66 ⟨_, rfl, w⟩
      · have w := w.2 c3
        refine G_aload_n 0 rfl dX12_betterSign_32 rfl ?_
        refine G_geti (k := 32) hs1 (q := (RX12, TX12, 40)) rfl inX12 (by decide) (Or.inl rfl) hF_X12_339 dX12_betterSign_33 ?_
        refine G_goto (tgt := 66) dX12_betterSign_36 (by decide) ?_
        exact G_iret rfl dX12_betterSign_66 ⟨_, rfl, w⟩
  · have w := w.2 c1
    refine G_bipush (v := -2) dX12_betterSign_12 (by decide) ?_
    exact G_iret rfl dX12_betterSign_14 ⟨_, rfl, w⟩

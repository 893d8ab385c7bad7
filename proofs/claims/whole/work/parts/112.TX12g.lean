-- LostDigitsModel.pass
theorem dX12_pass_0 : decode cX12_pass 0 = .ok (.aload_n 0, 1) := by decide +kernel
theorem dX12_pass_1 : decode cX12_pass 1 = .ok (.getfield 366, 3) := by decide +kernel
theorem dX12_pass_4 : decode cX12_pass 4 = .ok (.ifCond .eq 7, 3) := by decide +kernel
theorem dX12_pass_7 : decode cX12_pass 7 = .ok (.lload_n 1, 1) := by decide +kernel
theorem dX12_pass_8 : decode cX12_pass 8 = .ok (.goto 12, 3) := by decide +kernel
theorem dX12_pass_11 : decode cX12_pass 11 = .ok (.aload_n 0, 1) := by decide +kernel
theorem dX12_pass_12 : decode cX12_pass 12 = .ok (.getfield 68, 3) := by decide +kernel
theorem dX12_pass_15 : decode cX12_pass 15 = .ok (.aload_n 0, 1) := by decide +kernel
theorem dX12_pass_16 : decode cX12_pass 16 = .ok (.getfield 370, 3) := by decide +kernel
theorem dX12_pass_19 : decode cX12_pass 19 = .ok (.laload, 1) := by decide +kernel
theorem dX12_pass_20 : decode cX12_pass 20 = .ok (.lstore_n 3, 1) := by decide +kernel
theorem dX12_pass_21 : decode cX12_pass 21 = .ok (.aload_n 0, 1) := by decide +kernel
theorem dX12_pass_22 : decode cX12_pass 22 = .ok (.getfield 68, 3) := by decide +kernel
theorem dX12_pass_25 : decode cX12_pass 25 = .ok (.aload_n 0, 1) := by decide +kernel
theorem dX12_pass_26 : decode cX12_pass 26 = .ok (.getfield 370, 3) := by decide +kernel
theorem dX12_pass_29 : decode cX12_pass 29 = .ok (.lload_n 3, 1) := by decide +kernel
theorem dX12_pass_30 : decode cX12_pass 30 = .ok (.lastore, 1) := by decide +kernel
theorem dX12_pass_31 : decode cX12_pass 31 = .ok (.aload_n 0, 1) := by decide +kernel
theorem dX12_pass_32 : decode cX12_pass 32 = .ok (.dup, 1) := by decide +kernel
theorem dX12_pass_33 : decode cX12_pass 33 = .ok (.getfield 370, 3) := by decide +kernel
theorem dX12_pass_36 : decode cX12_pass 36 = .ok (.iconst 1, 1) := by decide +kernel
theorem dX12_pass_37 : decode cX12_pass 37 = .ok (.iadd, 1) := by decide +kernel
theorem dX12_pass_38 : decode cX12_pass 38 = .ok (.putfield 370, 3) := by decide +kernel
theorem dX12_pass_41 : decode cX12_pass 41 = .ok (.lload_n 3, 1) := by decide +kernel
theorem dX12_pass_42 : decode cX12_pass 42 = .ok (.lreturn, 1) := by decide +kernel
set_option maxRecDepth 10000 in
theorem NX12_pass_0 {d : Nat} {S : fW} {h : fH} {Q : Int64 → fH → Prop} {r0 : Nat} {x1 : Int64} {r0_pad r0_text r0_number r0_span r0_now r0_sizeOf r0_workedTo r0_slip r0_exactUpper r0_exactLower r0_more r0_terms r0_order r0_bestOrder r0_low r0_high r0_built r0_better r0_base r0_kept r0_isKept : Nat}  
    (hs1 : (r0, shX12 r0_pad r0_text r0_number r0_span r0_now r0_sizeOf r0_workedTo r0_slip r0_exactUpper r0_exactLower r0_more r0_terms r0_order r0_bestOrder r0_low r0_high r0_built r0_better r0_base r0_kept r0_isKept) ∈ S)
    (hs2 : (r0_kept, shJ 80) ∈ S)
    (w : (((h.1 r0 39) = 0 → vp_in (h.1 r0 38) 80 ∧ ∀ g_1 : fH, g_1 = u_al h r0_kept (vp_updL (h.2.2.2 r0_kept) (h.1 r0 38).toNatClampNeg (h.2.2.2 r0_kept (h.1 r0 38).toNatClampNeg)) → ∀ g_2 : fH, g_2 = u_fi g_1 r0 38 ((g_1.1 r0 38) + (1 : Int32)) → Q (h.2.2.2 r0_kept (h.1 r0 38).toNatClampNeg) g_2) ∧ (¬ (h.1 r0 39) = 0 → vp_in (h.1 r0 38) 80 ∧ ∀ g_3 : fH, g_3 = u_al h r0_kept (vp_updL (h.2.2.2 r0_kept) (h.1 r0 38).toNatClampNeg x1) → ∀ g_4 : fH, g_4 = u_fi g_3 r0 38 ((g_3.1 r0 38) + (1 : Int32)) → Q x1 g_4))) :
    OkL d mX12_pass S [.ref r0, .long x1] h Q := by
  refine Ok.of (by decide) (Nat.le_of_ble_eq_true rfl) ?_
  refine G_aload_n 0 rfl dX12_pass_0 rfl ?_
  refine G_geti (k := 39) hs1 (q := (RX12, TX12, 40)) rfl inX12 (by decide) (Or.inr rfl) hF_X12_366 dX12_pass_1 ?_
  refine G_if_eq (tgt := 11) dX12_pass_4 (by decide) (fun c1 => ?_) (fun c1 => ?_)
  · have w := w.1 c1
    refine G_aload_n 0 rfl dX12_pass_11 rfl ?_
    refine G_getr (j := r0_kept) (k := 36) hs1 (q := (RX12, TX12, 40)) rfl inX12 (by decide) rfl hF_X12_68 dX12_pass_12 ?_
    refine G_aload_n 0 rfl dX12_pass_15 rfl ?_
    refine G_geti (k := 38) hs1 (q := (RX12, TX12, 40)) rfl inX12 (by decide) (Or.inl rfl) hF_X12_370 dX12_pass_16 ?_
    obtain ⟨sd1, w⟩ := w
    refine G_lald hs2 sd1 dX12_pass_19 ?_
    refine G_lstore_n dX12_pass_20 rfl (by decide) (lv' := [(3, .long (h.2.2.2 r0_kept (h.1 r0 38).toNatClampNeg)), (0, .ref r0), (1, .long x1)]) rfl ?_
    refine G_aload_n 1 rfl dX12_pass_21 rfl ?_
    refine G_getr (j := r0_kept) (k := 36) hs1 (q := (RX12, TX12, 40)) rfl inX12 (by decide) rfl hF_X12_68 dX12_pass_22 ?_
    refine G_aload_n 1 rfl dX12_pass_25 rfl ?_
    refine G_geti (k := 38) hs1 (q := (RX12, TX12, 40)) rfl inX12 (by decide) (Or.inl rfl) hF_X12_370 dX12_pass_26 ?_
    refine G_lload_n 0 rfl dX12_pass_29 rfl ?_
    refine G_last hs2 sd1 dX12_pass_30 ?_
    refine G_nm (fun g_1 e_1 => ?_)
    have w := w g_1 e_1
    refine G_aload_n 1 rfl dX12_pass_31 rfl ?_
    refine G_dup dX12_pass_32 rfl ?_
    refine G_geti (k := 38) hs1 (q := (RX12, TX12, 40)) rfl inX12 (by decide) (Or.inl rfl) hF_X12_370 dX12_pass_33 ?_
    refine G_iconst (v := 1) dX12_pass_36 (by decide) ?_
    refine G_iadd dX12_pass_37 ?_
    refine G_puti (k := 38) tyX12 hs1 (q := (RX12, TX12, 40)) rfl inX12 tyX12_ok nmX12 (by decide) rfl rfl rfl hF_X12_370 dX12_pass_38 ?_
    refine G_nm (fun g_2 e_2 => ?_)
    have w := w g_2 e_2
    refine G_lload_n 0 rfl dX12_pass_41 rfl ?_
    exact G_lret rfl dX12_pass_42 ⟨_, rfl, w⟩
  · have w := w.2 c1
    refine G_lload_n 1 rfl dX12_pass_7 rfl ?_
    refine G_goto (tgt := 20) dX12_pass_8 (by decide) ?_
    refine G_lstore_n dX12_pass_20 rfl (by decide) (lv' := [(3, .long x1), (0, .ref r0), (1, .long x1)]) rfl ?_
    refine G_aload_n 1 rfl dX12_pass_21 rfl ?_
    refine G_getr (j := r0_kept) (k := 36) hs1 (q := (RX12, TX12, 40)) rfl inX12 (by decide) rfl hF_X12_68 dX12_pass_22 ?_
    refine G_aload_n 1 rfl dX12_pass_25 rfl ?_
    refine G_geti (k := 38) hs1 (q := (RX12, TX12, 40)) rfl inX12 (by decide) (Or.inl rfl) hF_X12_370 dX12_pass_26 ?_
    refine G_lload_n 0 rfl dX12_pass_29 rfl ?_
    obtain ⟨sd1, w⟩ := w
    refine G_last hs2 sd1 dX12_pass_30 ?_
    refine G_nm (fun g_3 e_3 => ?_)
    have w := w g_3 e_3
    refine G_aload_n 1 rfl dX12_pass_31 rfl ?_
    refine G_dup dX12_pass_32 rfl ?_
    refine G_geti (k := 38) hs1 (q := (RX12, TX12, 40)) rfl inX12 (by decide) (Or.inl rfl) hF_X12_370 dX12_pass_33 ?_
    refine G_iconst (v := 1) dX12_pass_36 (by decide) ?_
    refine G_iadd dX12_pass_37 ?_
    refine G_puti (k := 38) tyX12 hs1 (q := (RX12, TX12, 40)) rfl inX12 tyX12_ok nmX12 (by decide) rfl rfl rfl hF_X12_370 dX12_pass_38 ?_
    refine G_nm (fun g_4 e_4 => ?_)
    have w := w g_4 e_4
    refine G_lload_n 0 rfl dX12_pass_41 rfl ?_
    exact G_lret rfl dX12_pass_42 ⟨_, rfl, w⟩
-- LostDigitsModel.passAll
theorem dX12_passAll_0 : decode cX12_passAll 0 = .ok (.aload_n 0, 1) := by decide +kernel
theorem dX12_passAll_1 : decode cX12_passAll 1 = .ok (.aload_n 0, 1) := by decide +kernel
theorem dX12_passAll_2 : decode cX12_passAll 2 = .ok (.aload_n 0, 1) := by decide +kernel
theorem dX12_passAll_3 : decode cX12_passAll 3 = .ok (.getfield 75, 3) := by decide +kernel
theorem dX12_passAll_6 : decode cX12_passAll 6 = .ok (.i2l, 1) := by decide +kernel
theorem dX12_passAll_7 : decode cX12_passAll 7 = .ok (.invokevirtual 373, 3) := by decide +kernel
theorem dX12_passAll_10 : decode cX12_passAll 10 = .ok (.l2i, 1) := by decide +kernel
theorem dX12_passAll_11 : decode cX12_passAll 11 = .ok (.putfield 75, 3) := by decide +kernel
theorem dX12_passAll_14 : decode cX12_passAll 14 = .ok (.aload_n 0, 1) := by decide +kernel
theorem dX12_passAll_15 : decode cX12_passAll 15 = .ok (.aload_n 0, 1) := by decide +kernel
theorem dX12_passAll_16 : decode cX12_passAll 16 = .ok (.aload_n 0, 1) := by decide +kernel
theorem dX12_passAll_17 : decode cX12_passAll 17 = .ok (.getfield 142, 3) := by decide +kernel
theorem dX12_passAll_20 : decode cX12_passAll 20 = .ok (.i2l, 1) := by decide +kernel
theorem dX12_passAll_21 : decode cX12_passAll 21 = .ok (.invokevirtual 373, 3) := by decide +kernel
theorem dX12_passAll_24 : decode cX12_passAll 24 = .ok (.l2i, 1) := by decide +kernel
theorem dX12_passAll_25 : decode cX12_passAll 25 = .ok (.putfield 142, 3) := by decide +kernel
theorem dX12_passAll_28 : decode cX12_passAll 28 = .ok (.aload_n 0, 1) := by decide +kernel
theorem dX12_passAll_29 : decode cX12_passAll 29 = .ok (.aload_n 0, 1) := by decide +kernel
theorem dX12_passAll_30 : decode cX12_passAll 30 = .ok (.aload_n 0, 1) := by decide +kernel
theorem dX12_passAll_31 : decode cX12_passAll 31 = .ok (.getfield 79, 3) := by decide +kernel
theorem dX12_passAll_34 : decode cX12_passAll 34 = .ok (.i2l, 1) := by decide +kernel
theorem dX12_passAll_35 : decode cX12_passAll 35 = .ok (.invokevirtual 373, 3) := by decide +kernel
theorem dX12_passAll_38 : decode cX12_passAll 38 = .ok (.l2i, 1) := by decide +kernel
theorem dX12_passAll_39 : decode cX12_passAll 39 = .ok (.putfield 79, 3) := by decide +kernel
theorem dX12_passAll_42 : decode cX12_passAll 42 = .ok (.aload_n 0, 1) := by decide +kernel
theorem dX12_passAll_43 : decode cX12_passAll 43 = .ok (.aload_n 0, 1) := by decide +kernel
theorem dX12_passAll_44 : decode cX12_passAll 44 = .ok (.aload_n 0, 1) := by decide +kernel
theorem dX12_passAll_45 : decode cX12_passAll 45 = .ok (.getfield 247, 3) := by decide +kernel
theorem dX12_passAll_48 : decode cX12_passAll 48 = .ok (.i2l, 1) := by decide +kernel
theorem dX12_passAll_49 : decode cX12_passAll 49 = .ok (.invokevirtual 373, 3) := by decide +kernel
theorem dX12_passAll_52 : decode cX12_passAll 52 = .ok (.l2i, 1) := by decide +kernel
theorem dX12_passAll_53 : decode cX12_passAll 53 = .ok (.putfield 247, 3) := by decide +kernel
theorem dX12_passAll_56 : decode cX12_passAll 56 = .ok (.iconst 0, 1) := by decide +kernel
theorem dX12_passAll_57 : decode cX12_passAll 57 = .ok (.istore_n 1, 1) := by decide +kernel
theorem dX12_passAll_58 : decode cX12_passAll 58 = .ok (.iload_n 1, 1) := by decide +kernel
theorem dX12_passAll_59 : decode cX12_passAll 59 = .ok (.bipush 13, 2) := by decide +kernel
theorem dX12_passAll_61 : decode cX12_passAll 61 = .ok (.if_icmp .ge 27, 3) := by decide +kernel
theorem dX12_passAll_64 : decode cX12_passAll 64 = .ok (.aload_n 0, 1) := by decide +kernel
theorem dX12_passAll_65 : decode cX12_passAll 65 = .ok (.getfield 13, 3) := by decide +kernel
theorem dX12_passAll_68 : decode cX12_passAll 68 = .ok (.iload_n 1, 1) := by decide +kernel
theorem dX12_passAll_69 : decode cX12_passAll 69 = .ok (.aload_n 0, 1) := by decide +kernel
theorem dX12_passAll_70 : decode cX12_passAll 70 = .ok (.aload_n 0, 1) := by decide +kernel
theorem dX12_passAll_71 : decode cX12_passAll 71 = .ok (.getfield 13, 3) := by decide +kernel
theorem dX12_passAll_74 : decode cX12_passAll 74 = .ok (.iload_n 1, 1) := by decide +kernel
theorem dX12_passAll_75 : decode cX12_passAll 75 = .ok (.iaload, 1) := by decide +kernel
theorem dX12_passAll_76 : decode cX12_passAll 76 = .ok (.i2l, 1) := by decide +kernel
theorem dX12_passAll_77 : decode cX12_passAll 77 = .ok (.invokevirtual 373, 3) := by decide +kernel
theorem dX12_passAll_80 : decode cX12_passAll 80 = .ok (.l2i, 1) := by decide +kernel
theorem dX12_passAll_81 : decode cX12_passAll 81 = .ok (.iastore, 1) := by decide +kernel
theorem dX12_passAll_82 : decode cX12_passAll 82 = .ok (.iinc 1 1, 3) := by decide +kernel
theorem dX12_passAll_85 : decode cX12_passAll 85 = .ok (.goto (-27), 3) := by decide +kernel
theorem dX12_passAll_88 : decode cX12_passAll 88 = .ok (.iconst 0, 1) := by decide +kernel
theorem dX12_passAll_89 : decode cX12_passAll 89 = .ok (.istore_n 1, 1) := by decide +kernel
theorem dX12_passAll_90 : decode cX12_passAll 90 = .ok (.iload_n 1, 1) := by decide +kernel
theorem dX12_passAll_91 : decode cX12_passAll 91 = .ok (.iconst 5, 1) := by decide +kernel
theorem dX12_passAll_92 : decode cX12_passAll 92 = .ok (.if_icmp .ge 45, 3) := by decide +kernel
theorem dX12_passAll_95 : decode cX12_passAll 95 = .ok (.aload_n 0, 1) := by decide +kernel
theorem dX12_passAll_96 : decode cX12_passAll 96 = .ok (.getfield 16, 3) := by decide +kernel
theorem dX12_passAll_99 : decode cX12_passAll 99 = .ok (.iload_n 1, 1) := by decide +kernel
theorem dX12_passAll_100 : decode cX12_passAll 100 = .ok (.aload_n 0, 1) := by decide +kernel
theorem dX12_passAll_101 : decode cX12_passAll 101 = .ok (.aload_n 0, 1) := by decide +kernel
theorem dX12_passAll_102 : decode cX12_passAll 102 = .ok (.getfield 16, 3) := by decide +kernel
theorem dX12_passAll_105 : decode cX12_passAll 105 = .ok (.iload_n 1, 1) := by decide +kernel
theorem dX12_passAll_106 : decode cX12_passAll 106 = .ok (.iaload, 1) := by decide +kernel
theorem dX12_passAll_107 : decode cX12_passAll 107 = .ok (.i2l, 1) := by decide +kernel
theorem dX12_passAll_108 : decode cX12_passAll 108 = .ok (.invokevirtual 373, 3) := by decide +kernel
theorem dX12_passAll_111 : decode cX12_passAll 111 = .ok (.l2i, 1) := by decide +kernel
theorem dX12_passAll_112 : decode cX12_passAll 112 = .ok (.iastore, 1) := by decide +kernel
theorem dX12_passAll_113 : decode cX12_passAll 113 = .ok (.aload_n 0, 1) := by decide +kernel
theorem dX12_passAll_114 : decode cX12_passAll 114 = .ok (.getfield 19, 3) := by decide +kernel
theorem dX12_passAll_117 : decode cX12_passAll 117 = .ok (.iload_n 1, 1) := by decide +kernel
theorem dX12_passAll_118 : decode cX12_passAll 118 = .ok (.aload_n 0, 1) := by decide +kernel
theorem dX12_passAll_119 : decode cX12_passAll 119 = .ok (.aload_n 0, 1) := by decide +kernel
theorem dX12_passAll_120 : decode cX12_passAll 120 = .ok (.getfield 19, 3) := by decide +kernel
theorem dX12_passAll_123 : decode cX12_passAll 123 = .ok (.iload_n 1, 1) := by decide +kernel
theorem dX12_passAll_124 : decode cX12_passAll 124 = .ok (.iaload, 1) := by decide +kernel
theorem dX12_passAll_125 : decode cX12_passAll 125 = .ok (.i2l, 1) := by decide +kernel
theorem dX12_passAll_126 : decode cX12_passAll 126 = .ok (.invokevirtual 373, 3) := by decide +kernel
theorem dX12_passAll_129 : decode cX12_passAll 129 = .ok (.l2i, 1) := by decide +kernel
theorem dX12_passAll_130 : decode cX12_passAll 130 = .ok (.iastore, 1) := by decide +kernel
theorem dX12_passAll_131 : decode cX12_passAll 131 = .ok (.iinc 1 1, 3) := by decide +kernel
theorem dX12_passAll_134 : decode cX12_passAll 134 = .ok (.goto (-44), 3) := by decide +kernel
theorem dX12_passAll_137 : decode cX12_passAll 137 = .ok (.iconst 0, 1) := by decide +kernel
theorem dX12_passAll_138 : decode cX12_passAll 138 = .ok (.istore_n 1, 1) := by decide +kernel
theorem dX12_passAll_139 : decode cX12_passAll 139 = .ok (.iload_n 1, 1) := by decide +kernel
theorem dX12_passAll_140 : decode cX12_passAll 140 = .ok (.bipush 7, 2) := by decide +kernel
theorem dX12_passAll_142 : decode cX12_passAll 142 = .ok (.if_icmp .ge 25, 3) := by decide +kernel
theorem dX12_passAll_145 : decode cX12_passAll 145 = .ok (.aload_n 0, 1) := by decide +kernel
theorem dX12_passAll_146 : decode cX12_passAll 146 = .ok (.getfield 44, 3) := by decide +kernel
theorem dX12_passAll_149 : decode cX12_passAll 149 = .ok (.iload_n 1, 1) := by decide +kernel
theorem dX12_passAll_150 : decode cX12_passAll 150 = .ok (.aload_n 0, 1) := by decide +kernel
theorem dX12_passAll_151 : decode cX12_passAll 151 = .ok (.aload_n 0, 1) := by decide +kernel
theorem dX12_passAll_152 : decode cX12_passAll 152 = .ok (.getfield 44, 3) := by decide +kernel
theorem dX12_passAll_155 : decode cX12_passAll 155 = .ok (.iload_n 1, 1) := by decide +kernel
theorem dX12_passAll_156 : decode cX12_passAll 156 = .ok (.laload, 1) := by decide +kernel
theorem dX12_passAll_157 : decode cX12_passAll 157 = .ok (.invokevirtual 373, 3) := by decide +kernel
theorem dX12_passAll_160 : decode cX12_passAll 160 = .ok (.lastore, 1) := by decide +kernel
theorem dX12_passAll_161 : decode cX12_passAll 161 = .ok (.iinc 1 1, 3) := by decide +kernel
theorem dX12_passAll_164 : decode cX12_passAll 164 = .ok (.goto (-25), 3) := by decide +kernel
theorem dX12_passAll_167 : decode cX12_passAll 167 = .ok (.return_, 1) := by decide +kernel
set_option maxRecDepth 10000 in
theorem NX12_passAll_0 {d : Nat} {S : fW} {h : fH} {Q : fH → Prop} {r0 : Nat} {r0_pad r0_text r0_number r0_span r0_now r0_sizeOf r0_workedTo r0_slip r0_exactUpper r0_exactLower r0_more r0_terms r0_order r0_bestOrder r0_low r0_high r0_built r0_better r0_base r0_kept r0_isKept : Nat}  
    (hs1 : (r0, shX12 r0_pad r0_text r0_number r0_span r0_now r0_sizeOf r0_workedTo r0_slip r0_exactUpper r0_exactLower r0_more r0_terms r0_order r0_bestOrder r0_low r0_high r0_built r0_better r0_base r0_kept r0_isKept) ∈ S)
    (w : ∃ Q1 : Int64 → fH → Prop, OkL d mX12_pass S [.ref r0, .long ((h.1 r0 0).toInt64)] h Q1 ∧ ∀ (v_1 : Int64) (h_1 : fH), Q1 v_1 h_1 → ∀ g_1 : fH, g_1 = u_fi h_1 r0 0 v_1.toInt32 → ∃ Q2 : Int64 → fH → Prop, OkL d mX12_pass S [.ref r0, .long ((g_1.1 r0 1).toInt64)] g_1 Q2 ∧ ∀ (v_2 : Int64) (h_2 : fH), Q2 v_2 h_2 → ∀ g_2 : fH, g_2 = u_fi h_2 r0 1 v_2.toInt32 → ∃ Q3 : Int64 → fH → Prop, OkL d mX12_pass S [.ref r0, .long ((g_2.1 r0 10).toInt64)] g_2 Q3 ∧ ∀ (v_3 : Int64) (h_3 : fH), Q3 v_3 h_3 → ∀ g_3 : fH, g_3 = u_fi h_3 r0 10 v_3.toInt32 → ∃ Q4 : Int64 → fH → Prop, OkL d mX12_pass S [.ref r0, .long ((g_3.1 r0 22).toInt64)] g_3 Q4 ∧ ∀ (v_4 : Int64) (h_4 : fH), Q4 v_4 h_4 → ∀ g_4 : fH, g_4 = u_fi h_4 r0 22 v_4.toInt32 → G mX12_passAll (d + 1) S (f_PV Q) 58 [(0, .ref r0), (1, .int (0 : Int32))] [] g_4) :
    OkV (d + 1) mX12_passAll S [.ref r0] h Q := by
  refine Ok.of (by decide) (Nat.le_of_ble_eq_true rfl) ?_
  refine G_aload_n 0 rfl dX12_passAll_0 rfl ?_
  refine G_aload_n 0 rfl dX12_passAll_1 rfl ?_
  refine G_aload_n 0 rfl dX12_passAll_2 rfl ?_
  refine G_geti (k := 0) hs1 (q := (RX12, TX12, 40)) rfl inX12 (by decide) (Or.inl rfl) hF_X12_75 dX12_passAll_3 ?_
  refine G_i2l dX12_passAll_6 ?_
  obtain ⟨Q1, ok1, w⟩ := w
  refine G_callV (Z := mX12_pass) (As := [.long ((h.1 r0 0).toInt64)]) (st := [.ref r0]) hL_X12_373 hI_X12_pass hS_X12_pass hC_X12_pass hN_X12 nX12_pass (by decide) hs1 rfl rfl rfl (Nat.le_of_ble_eq_true rfl) dX12_passAll_7 ok1 (fun r_ h_1 z_ => ?_)
  obtain ⟨v_1, rfl, q_1⟩ := z_
  have w := w v_1 h_1 q_1
  refine G_l2i dX12_passAll_10 ?_
  refine G_puti (k := 0) tyX12 hs1 (q := (RX12, TX12, 40)) rfl inX12 tyX12_ok nmX12 (by decide) rfl rfl rfl hF_X12_75 dX12_passAll_11 ?_
  refine G_nm (fun g_1 e_1 => ?_)
  have w := w g_1 e_1
  refine G_aload_n 0 rfl dX12_passAll_14 rfl ?_
  refine G_aload_n 0 rfl dX12_passAll_15 rfl ?_
  refine G_aload_n 0 rfl dX12_passAll_16 rfl ?_
  refine G_geti (k := 1) hs1 (q := (RX12, TX12, 40)) rfl inX12 (by decide) (Or.inl rfl) hF_X12_142 dX12_passAll_17 ?_
  refine G_i2l dX12_passAll_20 ?_
  obtain ⟨Q2, ok2, w⟩ := w
  refine G_callV (Z := mX12_pass) (As := [.long ((g_1.1 r0 1).toInt64)]) (st := [.ref r0]) hL_X12_373 hI_X12_pass hS_X12_pass hC_X12_pass hN_X12 nX12_pass (by decide) hs1 rfl rfl rfl (Nat.le_of_ble_eq_true rfl) dX12_passAll_21 ok2 (fun r_ h_2 z_ => ?_)
  obtain ⟨v_2, rfl, q_2⟩ := z_
  have w := w v_2 h_2 q_2
  refine G_l2i dX12_passAll_24 ?_
  refine G_puti (k := 1) tyX12 hs1 (q := (RX12, TX12, 40)) rfl inX12 tyX12_ok nmX12 (by decide) rfl rfl rfl hF_X12_142 dX12_passAll_25 ?_
  refine G_nm (fun g_2 e_2 => ?_)
  have w := w g_2 e_2
  refine G_aload_n 0 rfl dX12_passAll_28 rfl ?_
  refine G_aload_n 0 rfl dX12_passAll_29 rfl ?_
  refine G_aload_n 0 rfl dX12_passAll_30 rfl ?_
  refine G_geti (k := 10) hs1 (q := (RX12, TX12, 40)) rfl inX12 (by decide) (Or.inl rfl) hF_X12_79 dX12_passAll_31 ?_
  refine G_i2l dX12_passAll_34 ?_
  obtain ⟨Q3, ok3, w⟩ := w
  refine G_callV (Z := mX12_pass) (As := [.long ((g_2.1 r0 10).toInt64)]) (st := [.ref r0]) hL_X12_373 hI_X12_pass hS_X12_pass hC_X12_pass hN_X12 nX12_pass (by decide) hs1 rfl rfl rfl (Nat.le_of_ble_eq_true rfl) dX12_passAll_35 ok3 (fun r_ h_3 z_ => ?_)
  obtain ⟨v_3, rfl, q_3⟩ := z_
  have w := w v_3 h_3 q_3
  refine G_l2i dX12_passAll_38 ?_
  refine G_puti (k := 10) tyX12 hs1 (q := (RX12, TX12, 40)) rfl inX12 tyX12_ok nmX12 (by decide) rfl rfl rfl hF_X12_79 dX12_passAll_39 ?_
  refine G_nm (fun g_3 e_3 => ?_)
  have w := w g_3 e_3
  refine G_aload_n 0 rfl dX12_passAll_42 rfl ?_
  refine G_aload_n 0 rfl dX12_passAll_43 rfl ?_
  refine G_aload_n 0 rfl dX12_passAll_44 rfl ?_
  refine G_geti (k := 22) hs1 (q := (RX12, TX12, 40)) rfl inX12 (by decide) (Or.inl rfl) hF_X12_247 dX12_passAll_45 ?_
  refine G_i2l dX12_passAll_48 ?_
  obtain ⟨Q4, ok4, w⟩ := w
  refine G_callV (Z := mX12_pass) (As := [.long ((g_3.1 r0 22).toInt64)]) (st := [.ref r0]) hL_X12_373 hI_X12_pass hS_X12_pass hC_X12_pass hN_X12 nX12_pass (by decide) hs1 rfl rfl rfl (Nat.le_of_ble_eq_true rfl) dX12_passAll_49 ok4 (fun r_ h_4 z_ => ?_)
  obtain ⟨v_4, rfl, q_4⟩ := z_
  have w := w v_4 h_4 q_4
  refine G_l2i dX12_passAll_52 ?_
  refine G_puti (k := 22) tyX12 hs1 (q := (RX12, TX12, 40)) rfl inX12 tyX12_ok nmX12 (by decide) rfl rfl rfl hF_X12_247 dX12_passAll_53 ?_
  refine G_nm (fun g_4 e_4 => ?_)
  have w := w g_4 e_4
  refine G_iconst (v := 0) dX12_passAll_56 (by decide) ?_
  refine G_istore_n dX12_passAll_57 rfl (by decide) (lv' := [(1, .int (0 : Int32)), (0, .ref r0)]) rfl ?_
  exact G_sub [1, 0] rfl w

set_option maxRecDepth 10000 in
theorem NX12_passAll_58 {d : Nat} {S : fW} {h : fH} {Q : fH → Prop} {r0 : Nat} {x1 : Int32} {r0_pad r0_text r0_number r0_span r0_now r0_sizeOf r0_workedTo r0_slip r0_exactUpper r0_exactLower r0_more r0_terms r0_order r0_bestOrder r0_low r0_high r0_built r0_better r0_base r0_kept r0_isKept : Nat}  
    (hs1 : (r0, shX12 r0_pad r0_text r0_number r0_span r0_now r0_sizeOf r0_workedTo r0_slip r0_exactUpper r0_exactLower r0_more r0_terms r0_order r0_bestOrder r0_low r0_high r0_built r0_better r0_base r0_kept r0_isKept) ∈ S)
    (hs2 : (r0_text, shI 13) ∈ S)
    (w : (((13 : Int32) ≤ x1 → G mX12_passAll (d + 1) S (f_PV Q) 90 [(0, .ref r0), (1, .int (0 : Int32))] [] h) ∧ (¬ (13 : Int32) ≤ x1 → vp_in x1 13 ∧ ∃ Q1 : Int64 → fH → Prop, OkL d mX12_pass S [.ref r0, .long ((h.2.2.1 r0_text x1.toNatClampNeg).toInt64)] h Q1 ∧ ∀ (v_1 : Int64) (h_1 : fH), Q1 v_1 h_1 → ∀ g_1 : fH, g_1 = u_ai h_1 r0_text (upd (h_1.2.2.1 r0_text) x1.toNatClampNeg v_1.toInt32) → G mX12_passAll (d + 1) S (f_PV Q) 58 [(0, .ref r0), (1, .int (x1 + 1))] [] g_1))) :
    G mX12_passAll (d + 1) S (f_PV Q) 58 [(0, .ref r0), (1, .int x1)] [] h := by
  refine G_iload_n 1 rfl dX12_passAll_58 rfl ?_
  refine G_bipush (v := 13) dX12_passAll_59 (by decide) ?_
  refine G_icmp_ge (tgt := 88) dX12_passAll_61 (by decide) (fun c1 => ?_) (fun c1 => ?_)
  · have w := w.1 c1
    refine G_iconst (v := 0) dX12_passAll_88 (by decide) ?_
    refine G_istore_n dX12_passAll_89 rfl (by decide) (lv' := [(1, .int (0 : Int32)), (0, .ref r0)]) rfl ?_
    exact G_sub [1, 0] rfl w
  · have w := w.2 c1
    refine G_aload_n 0 rfl dX12_passAll_64 rfl ?_
    refine G_getr (j := r0_text) (k := 9) hs1 (q := (RX12, TX12, 40)) rfl inX12 (by decide) rfl hF_X12_13 dX12_passAll_65 ?_
    refine G_iload_n 1 rfl dX12_passAll_68 rfl ?_
    refine G_aload_n 0 rfl dX12_passAll_69 rfl ?_
    refine G_aload_n 0 rfl dX12_passAll_70 rfl ?_
    refine G_getr (j := r0_text) (k := 9) hs1 (q := (RX12, TX12, 40)) rfl inX12 (by decide) rfl hF_X12_13 dX12_passAll_71 ?_
    refine G_iload_n 1 rfl dX12_passAll_74 rfl ?_
    obtain ⟨sd1, w⟩ := w
    refine G_iald hs2 sd1 dX12_passAll_75 ?_
    refine G_i2l dX12_passAll_76 ?_
    obtain ⟨Q1, ok1, w⟩ := w
    refine G_callV (Z := mX12_pass) (As := [.long ((h.2.2.1 r0_text x1.toNatClampNeg).toInt64)]) (st := [.int x1, .ref r0_text]) hL_X12_373 hI_X12_pass hS_X12_pass hC_X12_pass hN_X12 nX12_pass (by decide) hs1 rfl rfl rfl (Nat.le_of_ble_eq_true rfl) dX12_passAll_77 ok1 (fun r_ h_1 z_ => ?_)
    obtain ⟨v_1, rfl, q_1⟩ := z_
    have w := w v_1 h_1 q_1
    refine G_l2i dX12_passAll_80 ?_
    refine G_iast hs2 sd1 dX12_passAll_81 ?_
    refine G_nm (fun g_1 e_1 => ?_)
    have w := w g_1 e_1
    refine G_iinc (v := 1) 1 rfl dX12_passAll_82 (by decide) (by decide) (lv' := [(1, .int (x1 + 1)), (0, .ref r0)]) rfl ?_
    refine G_goto (tgt := 58) dX12_passAll_85 (by decide) ?_
    exact G_sub [1, 0] rfl w

set_option maxRecDepth 10000 in
theorem NX12_passAll_90 {d : Nat} {S : fW} {h : fH} {Q : fH → Prop} {r0 : Nat} {x1 : Int32} {r0_pad r0_text r0_number r0_span r0_now r0_sizeOf r0_workedTo r0_slip r0_exactUpper r0_exactLower r0_more r0_terms r0_order r0_bestOrder r0_low r0_high r0_built r0_better r0_base r0_kept r0_isKept : Nat}  
    (hs1 : (r0, shX12 r0_pad r0_text r0_number r0_span r0_now r0_sizeOf r0_workedTo r0_slip r0_exactUpper r0_exactLower r0_more r0_terms r0_order r0_bestOrder r0_low r0_high r0_built r0_better r0_base r0_kept r0_isKept) ∈ S)
    (hs2 : (r0_number, shI 5) ∈ S)
    (hs3 : (r0_span, shI 5) ∈ S)
    (w : (((5 : Int32) ≤ x1 → G mX12_passAll (d + 1) S (f_PV Q) 139 [(0, .ref r0), (1, .int (0 : Int32))] [] h) ∧ (¬ (5 : Int32) ≤ x1 → vp_in x1 5 ∧ ∃ Q1 : Int64 → fH → Prop, OkL d mX12_pass S [.ref r0, .long ((h.2.2.1 r0_number x1.toNatClampNeg).toInt64)] h Q1 ∧ ∀ (v_1 : Int64) (h_1 : fH), Q1 v_1 h_1 → ∀ g_1 : fH, g_1 = u_ai h_1 r0_number (upd (h_1.2.2.1 r0_number) x1.toNatClampNeg v_1.toInt32) → ∃ Q2 : Int64 → fH → Prop, OkL d mX12_pass S [.ref r0, .long ((g_1.2.2.1 r0_span x1.toNatClampNeg).toInt64)] g_1 Q2 ∧ ∀ (v_2 : Int64) (h_2 : fH), Q2 v_2 h_2 → ∀ g_2 : fH, g_2 = u_ai h_2 r0_span (upd (h_2.2.2.1 r0_span) x1.toNatClampNeg v_2.toInt32) → G mX12_passAll (d + 1) S (f_PV Q) 90 [(0, .ref r0), (1, .int (x1 + 1))] [] g_2))) :
    G mX12_passAll (d + 1) S (f_PV Q) 90 [(0, .ref r0), (1, .int x1)] [] h := by
  refine G_iload_n 1 rfl dX12_passAll_90 rfl ?_
  refine G_iconst (v := 5) dX12_passAll_91 (by decide) ?_
  refine G_icmp_ge (tgt := 137) dX12_passAll_92 (by decide) (fun c1 => ?_) (fun c1 => ?_)
  · have w := w.1 c1
    refine G_iconst (v := 0) dX12_passAll_137 (by decide) ?_
    refine G_istore_n dX12_passAll_138 rfl (by decide) (lv' := [(1, .int (0 : Int32)), (0, .ref r0)]) rfl ?_
    exact G_sub [1, 0] rfl w
  · have w := w.2 c1
    refine G_aload_n 0 rfl dX12_passAll_95 rfl ?_
    refine G_getr (j := r0_number) (k := 11) hs1 (q := (RX12, TX12, 40)) rfl inX12 (by decide) rfl hF_X12_16 dX12_passAll_96 ?_
    refine G_iload_n 1 rfl dX12_passAll_99 rfl ?_
    refine G_aload_n 0 rfl dX12_passAll_100 rfl ?_
    refine G_aload_n 0 rfl dX12_passAll_101 rfl ?_
    refine G_getr (j := r0_number) (k := 11) hs1 (q := (RX12, TX12, 40)) rfl inX12 (by decide) rfl hF_X12_16 dX12_passAll_102 ?_
    refine G_iload_n 1 rfl dX12_passAll_105 rfl ?_
    obtain ⟨sd1, w⟩ := w
    refine G_iald hs2 sd1 dX12_passAll_106 ?_
    refine G_i2l dX12_passAll_107 ?_
    obtain ⟨Q1, ok1, w⟩ := w
    refine G_callV (Z := mX12_pass) (As := [.long ((h.2.2.1 r0_number x1.toNatClampNeg).toInt64)]) (st := [.int x1, .ref r0_number]) hL_X12_373 hI_X12_pass hS_X12_pass hC_X12_pass hN_X12 nX12_pass (by decide) hs1 rfl rfl rfl (Nat.le_of_ble_eq_true rfl) dX12_passAll_108 ok1 (fun r_ h_1 z_ => ?_)
    obtain ⟨v_1, rfl, q_1⟩ := z_
    have w := w v_1 h_1 q_1
    refine G_l2i dX12_passAll_111 ?_
    refine G_iast hs2 sd1 dX12_passAll_112 ?_
    refine G_nm (fun g_1 e_1 => ?_)
    have w := w g_1 e_1
    refine G_aload_n 0 rfl dX12_passAll_113 rfl ?_
    refine G_getr (j := r0_span) (k := 12) hs1 (q := (RX12, TX12, 40)) rfl inX12 (by decide) rfl hF_X12_19 dX12_passAll_114 ?_
    refine G_iload_n 1 rfl dX12_passAll_117 rfl ?_
    refine G_aload_n 0 rfl dX12_passAll_118 rfl ?_
    refine G_aload_n 0 rfl dX12_passAll_119 rfl ?_
    refine G_getr (j := r0_span) (k := 12) hs1 (q := (RX12, TX12, 40)) rfl inX12 (by decide) rfl hF_X12_19 dX12_passAll_120 ?_
    refine G_iload_n 1 rfl dX12_passAll_123 rfl ?_
    refine G_iald hs3 sd1 dX12_passAll_124 ?_
    refine G_i2l dX12_passAll_125 ?_
    obtain ⟨Q2, ok2, w⟩ := w
    refine G_callV (Z := mX12_pass) (As := [.long ((g_1.2.2.1 r0_span x1.toNatClampNeg).toInt64)]) (st := [.int x1, .ref r0_span]) hL_X12_373 hI_X12_pass hS_X12_pass hC_X12_pass hN_X12 nX12_pass (by decide) hs1 rfl rfl rfl (Nat.le_of_ble_eq_true rfl) dX12_passAll_126 ok2 (fun r_ h_2 z_ => ?_)
    obtain ⟨v_2, rfl, q_2⟩ := z_
    have w := w v_2 h_2 q_2
    refine G_l2i dX12_passAll_129 ?_
    refine G_iast hs3 sd1 dX12_passAll_130 ?_
    refine G_nm (fun g_2 e_2 => ?_)
    have w := w g_2 e_2
    refine G_iinc (v := 1) 1 rfl dX12_passAll_131 (by decide) (by decide) (lv' := [(1, .int (x1 + 1)), (0, .ref r0)]) rfl ?_
    refine G_goto (tgt := 90) dX12_passAll_134 (by decide) ?_
    exact G_sub [1, 0] rfl w

set_option maxRecDepth 10000 in
theorem NX12_passAll_139 {d : Nat} {S : fW} {h : fH} {Q : fH → Prop} {r0 : Nat} {x1 : Int32} {r0_pad r0_text r0_number r0_span r0_now r0_sizeOf r0_workedTo r0_slip r0_exactUpper r0_exactLower r0_more r0_terms r0_order r0_bestOrder r0_low r0_high r0_built r0_better r0_base r0_kept r0_isKept : Nat}  
    (hs1 : (r0, shX12 r0_pad r0_text r0_number r0_span r0_now r0_sizeOf r0_workedTo r0_slip r0_exactUpper r0_exactLower r0_more r0_terms r0_order r0_bestOrder r0_low r0_high r0_built r0_better r0_base r0_kept r0_isKept) ∈ S)
    (hs2 : (r0_terms, shJ 7) ∈ S)
    (w : (((7 : Int32) ≤ x1 → Q h) ∧ (¬ (7 : Int32) ≤ x1 → vp_in x1 7 ∧ ∃ Q1 : Int64 → fH → Prop, OkL d mX12_pass S [.ref r0, .long (h.2.2.2 r0_terms x1.toNatClampNeg)] h Q1 ∧ ∀ (v_1 : Int64) (h_1 : fH), Q1 v_1 h_1 → ∀ g_1 : fH, g_1 = u_al h_1 r0_terms (vp_updL (h_1.2.2.2 r0_terms) x1.toNatClampNeg v_1) → G mX12_passAll (d + 1) S (f_PV Q) 139 [(0, .ref r0), (1, .int (x1 + 1))] [] g_1))) :
    G mX12_passAll (d + 1) S (f_PV Q) 139 [(0, .ref r0), (1, .int x1)] [] h := by
  refine G_iload_n 1 rfl dX12_passAll_139 rfl ?_
  refine G_bipush (v := 7) dX12_passAll_140 (by decide) ?_
  refine G_icmp_ge (tgt := 167) dX12_passAll_142 (by decide) (fun c1 => ?_) (fun c1 => ?_)
  · have w := w.1 c1
    exact G_vret rfl dX12_passAll_167 ⟨rfl, w⟩
  · have w := w.2 c1
    refine G_aload_n 0 rfl dX12_passAll_145 rfl ?_
    refine G_getr (j := r0_terms) (k := 21) hs1 (q := (RX12, TX12, 40)) rfl inX12 (by decide) rfl hF_X12_44 dX12_passAll_146 ?_
    refine G_iload_n 1 rfl dX12_passAll_149 rfl ?_
    refine G_aload_n 0 rfl dX12_passAll_150 rfl ?_
    refine G_aload_n 0 rfl dX12_passAll_151 rfl ?_
    refine G_getr (j := r0_terms) (k := 21) hs1 (q := (RX12, TX12, 40)) rfl inX12 (by decide) rfl hF_X12_44 dX12_passAll_152 ?_
    refine G_iload_n 1 rfl dX12_passAll_155 rfl ?_
    obtain ⟨sd1, w⟩ := w
    refine G_lald hs2 sd1 dX12_passAll_156 ?_
    obtain ⟨Q1, ok1, w⟩ := w
    refine G_callV (Z := mX12_pass) (As := [.long (h.2.2.2 r0_terms x1.toNatClampNeg)]) (st := [.int x1, .ref r0_terms]) hL_X12_373 hI_X12_pass hS_X12_pass hC_X12_pass hN_X12 nX12_pass (by decide) hs1 rfl rfl rfl (Nat.le_of_ble_eq_true rfl) dX12_passAll_157 ok1 (fun r_ h_1 z_ => ?_)
    obtain ⟨v_1, rfl, q_1⟩ := z_
    have w := w v_1 h_1 q_1
    refine G_last hs2 sd1 dX12_passAll_160 ?_
    refine G_nm (fun g_1 e_1 => ?_)
    have w := w g_1 e_1
    refine G_iinc (v := 1) 1 rfl dX12_passAll_161 (by decide) (by decide) (lv' := [(1, .int (x1 + 1)), (0, .ref r0)]) rfl ?_
    refine G_goto (tgt := 139) dX12_passAll_164 (by decide) ?_
    exact G_sub [1, 0] rfl w
-- LostDigitsModel.image
theorem dX12_image_0 : decode cX12_image 0 = .ok (.iload_n 1, 1) := by decide +kernel
theorem dX12_image_1 : decode cX12_image 1 = .ok (.invokestatic 134, 3) := by decide +kernel
theorem dX12_image_4 : decode cX12_image 4 = .ok (.ifCond .ne 6, 3) := by decide +kernel
theorem dX12_image_7 : decode cX12_image 7 = .ok (.bipush (-2), 2) := by decide +kernel
theorem dX12_image_9 : decode cX12_image 9 = .ok (.ireturn, 1) := by decide +kernel
theorem dX12_image_10 : decode cX12_image 10 = .ok (.aload_n 0, 1) := by decide +kernel
theorem dX12_image_11 : decode cX12_image 11 = .ok (.bipush 40, 2) := by decide +kernel
theorem dX12_image_13 : decode cX12_image 13 = .ok (.iload_n 1, 1) := by decide +kernel
theorem dX12_image_14 : decode cX12_image 14 = .ok (.imul, 1) := by decide +kernel
theorem dX12_image_15 : decode cX12_image 15 = .ok (.putfield 370, 3) := by decide +kernel
theorem dX12_image_18 : decode cX12_image 18 = .ok (.aload_n 0, 1) := by decide +kernel
theorem dX12_image_19 : decode cX12_image 19 = .ok (.iconst 1, 1) := by decide +kernel
theorem dX12_image_20 : decode cX12_image 20 = .ok (.putfield 366, 3) := by decide +kernel
theorem dX12_image_23 : decode cX12_image 23 = .ok (.aload_n 0, 1) := by decide +kernel
theorem dX12_image_24 : decode cX12_image 24 = .ok (.invokevirtual 376, 3) := by decide +kernel
theorem dX12_image_27 : decode cX12_image 27 = .ok (.aload_n 0, 1) := by decide +kernel
theorem dX12_image_28 : decode cX12_image 28 = .ok (.getfield 71, 3) := by decide +kernel
theorem dX12_image_31 : decode cX12_image 31 = .ok (.iload_n 1, 1) := by decide +kernel
theorem dX12_image_32 : decode cX12_image 32 = .ok (.iconst 1, 1) := by decide +kernel
theorem dX12_image_33 : decode cX12_image 33 = .ok (.bastore, 1) := by decide +kernel
theorem dX12_image_34 : decode cX12_image 34 = .ok (.iconst 1, 1) := by decide +kernel
theorem dX12_image_35 : decode cX12_image 35 = .ok (.ireturn, 1) := by decide +kernel
set_option maxRecDepth 10000 in
theorem NX12_image_0 {d : Nat} {S : fW} {h : fH} {Q : Int32 → fH → Prop} {r0 : Nat} {x1 : Int32} {r0_pad r0_text r0_number r0_span r0_now r0_sizeOf r0_workedTo r0_slip r0_exactUpper r0_exactLower r0_more r0_terms r0_order r0_bestOrder r0_low r0_high r0_built r0_better r0_base r0_kept r0_isKept : Nat}  
    (hs1 : (r0, shX12 r0_pad r0_text r0_number r0_span r0_now r0_sizeOf r0_workedTo r0_slip r0_exactUpper r0_exactLower r0_more r0_terms r0_order r0_bestOrder r0_low r0_high r0_built r0_better r0_base r0_kept r0_isKept) ∈ S)
    (hs2 : (r0_isKept, shZ 2) ∈ S)
    (w : ∃ Q1 : Int32 → fH → Prop, OkI d mX12_isEnd S [.int x1] h Q1 ∧ ∀ (v_1 : Int32) (h_1 : fH), Q1 v_1 h_1 → ((¬ v_1 = 0 → ∀ g_1 : fH, g_1 = u_fi h_1 r0 38 ((40 : Int32) * x1) → ∀ g_2 : fH, g_2 = u_fi g_1 r0 39 (1 : Int32) → ∃ Q2 : fH → Prop, OkV d mX12_passAll S [.ref r0] g_2 Q2 ∧ ∀ (h_2 : fH), Q2 h_2 → vp_in x1 2 ∧ ∀ g_3 : fH, g_3 = u_ai h_2 r0_isKept (upd (h_2.2.2.1 r0_isKept) x1.toNatClampNeg (1 : Int32)) → Q (1 : Int32) g_3) ∧ (v_1 = 0 → Q (-2 : Int32) h_1))) :
    OkI (d + 1) mX12_image S [.ref r0, .int x1] h Q := by
  refine Ok.of (by decide) (Nat.le_of_ble_eq_true rfl) ?_
  refine G_iload_n 1 rfl dX12_image_0 rfl ?_
  obtain ⟨Q1, ok1, w⟩ := w
  refine G_callS (Z := mX12_isEnd) (As := [.int x1]) (st := []) hL_X12_134 hT_X12_isEnd hC_X12_isEnd hN_X12 nX12_isEnd (by decide) rfl (Nat.le_of_ble_eq_true rfl) dX12_image_1 ok1 (fun r_ h_1 z_ => ?_)
  obtain ⟨v_1, rfl, q_1⟩ := z_
  have w := w v_1 h_1 q_1
  refine G_if_ne (tgt := 10) dX12_image_4 (by decide) (fun c1 => ?_) (fun c1 => ?_)
  · have w := w.1 c1
    refine G_aload_n 0 rfl dX12_image_10 rfl ?_
    refine G_bipush (v := 40) dX12_image_11 (by decide) ?_
    refine G_iload_n 1 rfl dX12_image_13 rfl ?_
    refine G_imul dX12_image_14 ?_
    refine G_puti (k := 38) tyX12 hs1 (q := (RX12, TX12, 40)) rfl inX12 tyX12_ok nmX12 (by decide) rfl rfl rfl hF_X12_370 dX12_image_15 ?_
    refine G_nm (fun g_1 e_1 => ?_)
    have w := w g_1 e_1
    refine G_aload_n 0 rfl dX12_image_18 rfl ?_
    refine G_iconst (v := 1) dX12_image_19 (by decide) ?_
    refine G_putz (k := 39) tyX12 hs1 (q := (RX12, TX12, 40)) rfl inX12 tyX12_ok nmX12 (by decide) rfl rfl rfl (Or.inr rfl) hF_X12_366 dX12_image_20 ?_
    refine G_nm (fun g_2 e_2 => ?_)
    have w := w g_2 e_2
    refine G_aload_n 0 rfl dX12_image_23 rfl ?_
    obtain ⟨Q2, ok2, w⟩ := w
    refine G_callV (Z := mX12_passAll) (As := []) (st := []) hL_X12_376 hI_X12_passAll hS_X12_passAll hC_X12_passAll hN_X12 nX12_passAll (by decide) hs1 rfl rfl rfl (Nat.le_of_ble_eq_true rfl) dX12_image_24 ok2 (fun r_ h_2 z_ => ?_)
    obtain ⟨rfl, q_2⟩ := z_
    have w := w h_2 q_2
    refine G_aload_n 0 rfl dX12_image_27 rfl ?_
    refine G_getr (j := r0_isKept) (k := 37) hs1 (q := (RX12, TX12, 40)) rfl inX12 (by decide) rfl hF_X12_71 dX12_image_28 ?_
    refine G_iload_n 1 rfl dX12_image_31 rfl ?_
    refine G_iconst (v := 1) dX12_image_32 (by decide) ?_
    obtain ⟨sd1, w⟩ := w
    refine G_zast hs2 sd1 (Or.inr rfl) dX12_image_33 ?_
    refine G_nm (fun g_3 e_3 => ?_)
    have w := w g_3 e_3
    refine G_iconst (v := 1) dX12_image_34 (by decide) ?_
    exact G_iret rfl dX12_image_35 ⟨_, rfl, w⟩
  · have w := w.2 c1
    refine G_bipush (v := -2) dX12_image_7 (by decide) ?_
    exact G_iret rfl dX12_image_9 ⟨_, rfl, w⟩
-- LostDigitsModel.restore
theorem dX12_restore_0 : decode cX12_restore 0 = .ok (.iload_n 1, 1) := by decide +kernel
theorem dX12_restore_1 : decode cX12_restore 1 = .ok (.invokestatic 134, 3) := by decide +kernel
theorem dX12_restore_4 : decode cX12_restore 4 = .ok (.ifCond .ne 6, 3) := by decide +kernel
theorem dX12_restore_7 : decode cX12_restore 7 = .ok (.bipush (-2), 2) := by decide +kernel
theorem dX12_restore_9 : decode cX12_restore 9 = .ok (.ireturn, 1) := by decide +kernel
theorem dX12_restore_10 : decode cX12_restore 10 = .ok (.aload_n 0, 1) := by decide +kernel
theorem dX12_restore_11 : decode cX12_restore 11 = .ok (.getfield 71, 3) := by decide +kernel
theorem dX12_restore_14 : decode cX12_restore 14 = .ok (.iload_n 1, 1) := by decide +kernel
theorem dX12_restore_15 : decode cX12_restore 15 = .ok (.baload, 1) := by decide +kernel
theorem dX12_restore_16 : decode cX12_restore 16 = .ok (.ifCond .ne 6, 3) := by decide +kernel
theorem dX12_restore_19 : decode cX12_restore 19 = .ok (.bipush (-3), 2) := by decide +kernel
theorem dX12_restore_21 : decode cX12_restore 21 = .ok (.ireturn, 1) := by decide +kernel
theorem dX12_restore_22 : decode cX12_restore 22 = .ok (.aload_n 0, 1) := by decide +kernel
theorem dX12_restore_23 : decode cX12_restore 23 = .ok (.bipush 40, 2) := by decide +kernel
theorem dX12_restore_25 : decode cX12_restore 25 = .ok (.iload_n 1, 1) := by decide +kernel
theorem dX12_restore_26 : decode cX12_restore 26 = .ok (.imul, 1) := by decide +kernel
theorem dX12_restore_27 : decode cX12_restore 27 = .ok (.putfield 370, 3) := by decide +kernel
theorem dX12_restore_30 : decode cX12_restore 30 = .ok (.aload_n 0, 1) := by decide +kernel
theorem dX12_restore_31 : decode cX12_restore 31 = .ok (.iconst 0, 1) := by decide +kernel
theorem dX12_restore_32 : decode cX12_restore 32 = .ok (.putfield 366, 3) := by decide +kernel
theorem dX12_restore_35 : decode cX12_restore 35 = .ok (.aload_n 0, 1) := by decide +kernel
theorem dX12_restore_36 : decode cX12_restore 36 = .ok (.invokevirtual 376, 3) := by decide +kernel
theorem dX12_restore_39 : decode cX12_restore 39 = .ok (.iconst 1, 1) := by decide +kernel
theorem dX12_restore_40 : decode cX12_restore 40 = .ok (.ireturn, 1) := by decide +kernel
set_option maxRecDepth 10000 in
theorem NX12_restore_0 {d : Nat} {S : fW} {h : fH} {Q : Int32 → fH → Prop} {r0 : Nat} {x1 : Int32} {r0_pad r0_text r0_number r0_span r0_now r0_sizeOf r0_workedTo r0_slip r0_exactUpper r0_exactLower r0_more r0_terms r0_order r0_bestOrder r0_low r0_high r0_built r0_better r0_base r0_kept r0_isKept : Nat}  
    (hs1 : (r0, shX12 r0_pad r0_text r0_number r0_span r0_now r0_sizeOf r0_workedTo r0_slip r0_exactUpper r0_exactLower r0_more r0_terms r0_order r0_bestOrder r0_low r0_high r0_built r0_better r0_base r0_kept r0_isKept) ∈ S)
    (hs2 : (r0_isKept, shZ 2) ∈ S)
    (w : ∃ Q1 : Int32 → fH → Prop, OkI d mX12_isEnd S [.int x1] h Q1 ∧ ∀ (v_1 : Int32) (h_1 : fH), Q1 v_1 h_1 → ((¬ v_1 = 0 → vp_in x1 2 ∧ ((¬ (h_1.2.2.1 r0_isKept x1.toNatClampNeg) = 0 → ∀ g_1 : fH, g_1 = u_fi h_1 r0 38 ((40 : Int32) * x1) → ∀ g_2 : fH, g_2 = u_fi g_1 r0 39 (0 : Int32) → ∃ Q2 : fH → Prop, OkV d mX12_passAll S [.ref r0] g_2 Q2 ∧ ∀ (h_2 : fH), Q2 h_2 → Q (1 : Int32) h_2) ∧ ((h_1.2.2.1 r0_isKept x1.toNatClampNeg) = 0 → Q (-3 : Int32) h_1))) ∧ (v_1 = 0 → Q (-2 : Int32) h_1))) :
    OkI (d + 1) mX12_restore S [.ref r0, .int x1] h Q := by
  refine Ok.of (by decide) (Nat.le_of_ble_eq_true rfl) ?_
  refine G_iload_n 1 rfl dX12_restore_0 rfl ?_
  obtain ⟨Q1, ok1, w⟩ := w
  refine G_callS (Z := mX12_isEnd) (As := [.int x1]) (st := []) hL_X12_134 hT_X12_isEnd hC_X12_isEnd hN_X12 nX12_isEnd (by decide) rfl (Nat.le_of_ble_eq_true rfl) dX12_restore_1 ok1 (fun r_ h_1 z_ => ?_)
  obtain ⟨v_1, rfl, q_1⟩ := z_
  have w := w v_1 h_1 q_1
  refine G_if_ne (tgt := 10) dX12_restore_4 (by decide) (fun c1 => ?_) (fun c1 => ?_)
  · have w := w.1 c1
    refine G_aload_n 0 rfl dX12_restore_10 rfl ?_
    refine G_getr (j := r0_isKept) (k := 37) hs1 (q := (RX12, TX12, 40)) rfl inX12 (by decide) rfl hF_X12_71 dX12_restore_11 ?_
    refine G_iload_n 1 rfl dX12_restore_14 rfl ?_
    obtain ⟨sd1, w⟩ := w
    refine G_zald hs2 sd1 dX12_restore_15 ?_
    refine G_if_ne (tgt := 22) dX12_restore_16 (by decide) (fun c2 => ?_) (fun c2 => ?_)
    · have w := w.1 c2
      refine G_aload_n 0 rfl dX12_restore_22 rfl ?_
      refine G_bipush (v := 40) dX12_restore_23 (by decide) ?_
      refine G_iload_n 1 rfl dX12_restore_25 rfl ?_
      refine G_imul dX12_restore_26 ?_
      refine G_puti (k := 38) tyX12 hs1 (q := (RX12, TX12, 40)) rfl inX12 tyX12_ok nmX12 (by decide) rfl rfl rfl hF_X12_370 dX12_restore_27 ?_
      refine G_nm (fun g_1 e_1 => ?_)
      have w := w g_1 e_1
      refine G_aload_n 0 rfl dX12_restore_30 rfl ?_
      refine G_iconst (v := 0) dX12_restore_31 (by decide) ?_
      refine G_putz (k := 39) tyX12 hs1 (q := (RX12, TX12, 40)) rfl inX12 tyX12_ok nmX12 (by decide) rfl rfl rfl (Or.inl rfl) hF_X12_366 dX12_restore_32 ?_
      refine G_nm (fun g_2 e_2 => ?_)
      have w := w g_2 e_2
      refine G_aload_n 0 rfl dX12_restore_35 rfl ?_
      obtain ⟨Q2, ok2, w⟩ := w
      refine G_callV (Z := mX12_passAll) (As := []) (st := []) hL_X12_376 hI_X12_passAll hS_X12_passAll hC_X12_passAll hN_X12 nX12_passAll (by decide) hs1 rfl rfl rfl (Nat.le_of_ble_eq_true rfl) dX12_restore_36 ok2 (fun r_ h_2 z_ => ?_)
      obtain ⟨rfl, q_2⟩ := z_
      have w := w h_2 q_2
      refine G_iconst (v := 1) dX12_restore_39 (by decide) ?_
      exact G_iret rfl dX12_restore_40 ⟨_, rfl, w⟩
    · have w := w.2 c2
      refine G_bipush (v := -3) dX12_restore_19 (by decide) ?_
      exact G_iret rfl dX12_restore_21 ⟨_, rfl, w⟩
  · have w := w.2 c1
    refine G_bipush (v := -2) dX12_restore_7 (by decide) ?_
    exact G_iret rfl dX12_restore_9 ⟨_, rfl, w⟩
-- LostDigitsModel.told
theorem dX12_told_0 : decode cX12_told 0 = .ok (.iload_n 1, 1) := by decide +kernel
theorem dX12_told_1 : decode cX12_told 1 = .ok (.i2l, 1) := by decide +kernel
theorem dX12_told_2 : decode cX12_told 2 = .ok (.ldc2_w 86, 3) := by decide +kernel
theorem dX12_told_5 : decode cX12_told 5 = .ok (.ldc2_w 379, 3) := by decide +kernel
theorem dX12_told_8 : decode cX12_told 8 = .ok (.invokestatic 82, 3) := by decide +kernel
theorem dX12_told_11 : decode cX12_told 11 = .ok (.ifCond .eq 16, 3) := by decide +kernel
theorem dX12_told_14 : decode cX12_told 14 = .ok (.aload_n 0, 1) := by decide +kernel
theorem dX12_told_15 : decode cX12_told 15 = .ok (.getfield 16, 3) := by decide +kernel
theorem dX12_told_18 : decode cX12_told 18 = .ok (.iload_n 1, 1) := by decide +kernel
theorem dX12_told_19 : decode cX12_told 19 = .ok (.bipush 10, 2) := by decide +kernel
theorem dX12_told_21 : decode cX12_told 21 = .ok (.isub, 1) := by decide +kernel
theorem dX12_told_22 : decode cX12_told 22 = .ok (.iaload, 1) := by decide +kernel
theorem dX12_told_23 : decode cX12_told 23 = .ok (.bipush 100, 2) := by decide +kernel
theorem dX12_told_25 : decode cX12_told 25 = .ok (.iadd, 1) := by decide +kernel
theorem dX12_told_26 : decode cX12_told 26 = .ok (.ireturn, 1) := by decide +kernel
theorem dX12_told_27 : decode cX12_told 27 = .ok (.iload_n 1, 1) := by decide +kernel
theorem dX12_told_28 : decode cX12_told 28 = .ok (.i2l, 1) := by decide +kernel
theorem dX12_told_29 : decode cX12_told 29 = .ok (.ldc2_w 381, 3) := by decide +kernel
theorem dX12_told_32 : decode cX12_told 32 = .ok (.ldc2_w 383, 3) := by decide +kernel
theorem dX12_told_35 : decode cX12_told 35 = .ok (.invokestatic 82, 3) := by decide +kernel
theorem dX12_told_38 : decode cX12_told 38 = .ok (.ifCond .eq 13, 3) := by decide +kernel
theorem dX12_told_41 : decode cX12_told 41 = .ok (.aload_n 0, 1) := by decide +kernel
theorem dX12_told_42 : decode cX12_told 42 = .ok (.getfield 19, 3) := by decide +kernel
theorem dX12_told_45 : decode cX12_told 45 = .ok (.iload_n 1, 1) := by decide +kernel
theorem dX12_told_46 : decode cX12_told 46 = .ok (.bipush 20, 2) := by decide +kernel
theorem dX12_told_48 : decode cX12_told 48 = .ok (.isub, 1) := by decide +kernel
theorem dX12_told_49 : decode cX12_told 49 = .ok (.iaload, 1) := by decide +kernel
theorem dX12_told_50 : decode cX12_told 50 = .ok (.ireturn, 1) := by decide +kernel
theorem dX12_told_51 : decode cX12_told 51 = .ok (.iload_n 1, 1) := by decide +kernel
theorem dX12_told_52 : decode cX12_told 52 = .ok (.tableswitch 61 0 4 #[36, 41, 46, 51, 56], 36) := by decide +kernel
theorem dX12_told_88 : decode cX12_told 88 = .ok (.aload_n 0, 1) := by decide +kernel
theorem dX12_told_89 : decode cX12_told 89 = .ok (.getfield 159, 3) := by decide +kernel
theorem dX12_told_92 : decode cX12_told 92 = .ok (.ireturn, 1) := by decide +kernel
theorem dX12_told_93 : decode cX12_told 93 = .ok (.aload_n 0, 1) := by decide +kernel
theorem dX12_told_94 : decode cX12_told 94 = .ok (.getfield 79, 3) := by decide +kernel
theorem dX12_told_97 : decode cX12_told 97 = .ok (.ireturn, 1) := by decide +kernel
theorem dX12_told_98 : decode cX12_told 98 = .ok (.aload_n 0, 1) := by decide +kernel
theorem dX12_told_99 : decode cX12_told 99 = .ok (.getfield 75, 3) := by decide +kernel
theorem dX12_told_102 : decode cX12_told 102 = .ok (.ireturn, 1) := by decide +kernel
theorem dX12_told_103 : decode cX12_told 103 = .ok (.aload_n 0, 1) := by decide +kernel
theorem dX12_told_104 : decode cX12_told 104 = .ok (.getfield 142, 3) := by decide +kernel
theorem dX12_told_107 : decode cX12_told 107 = .ok (.ireturn, 1) := by decide +kernel
theorem dX12_told_108 : decode cX12_told 108 = .ok (.aload_n 0, 1) := by decide +kernel
theorem dX12_told_109 : decode cX12_told 109 = .ok (.getfield 247, 3) := by decide +kernel
theorem dX12_told_112 : decode cX12_told 112 = .ok (.ireturn, 1) := by decide +kernel
theorem dX12_told_113 : decode cX12_told 113 = .ok (.bipush (-2), 2) := by decide +kernel
theorem dX12_told_115 : decode cX12_told 115 = .ok (.ireturn, 1) := by decide +kernel
set_option maxRecDepth 10000 in
theorem NX12_told_0 {d : Nat} {S : fW} {h : fH} {Q : Int32 → fH → Prop} {r0 : Nat} {x1 : Int32} {r0_pad r0_text r0_number r0_span r0_now r0_sizeOf r0_workedTo r0_slip r0_exactUpper r0_exactLower r0_more r0_terms r0_order r0_bestOrder r0_low r0_high r0_built r0_better r0_base r0_kept r0_isKept : Nat}  
    (hs1 : (r0, shX12 r0_pad r0_text r0_number r0_span r0_now r0_sizeOf r0_workedTo r0_slip r0_exactUpper r0_exactLower r0_more r0_terms r0_order r0_bestOrder r0_low r0_high r0_built r0_better r0_base r0_kept r0_isKept) ∈ S)
    (hs2 : (r0_span, shI 5) ∈ S)
    (hs3 : (r0_number, shI 5) ∈ S)
    (w : ∃ Q1 : Int32 → fH → Prop, OkI d mX12_in S [.long x1.toInt64, .long (10 : Int64), .long (14 : Int64)] h Q1 ∧ ∀ (v_1 : Int32) (h_1 : fH), Q1 v_1 h_1 → ((v_1 = 0 → ∃ Q2 : Int32 → fH → Prop, OkI d mX12_in S [.long x1.toInt64, .long (20 : Int64), .long (24 : Int64)] h_1 Q2 ∧ ∀ (v_2 : Int32) (h_2 : fH), Q2 v_2 h_2 → ((v_2 = 0 → ((x1 = (0 : Int32) → Q (h_2.1 r0 8) h_2) ∧ (¬ x1 = (0 : Int32) → ((x1 = (1 : Int32) → Q (h_2.1 r0 10) h_2) ∧ (¬ x1 = (1 : Int32) → ((x1 = (2 : Int32) → Q (h_2.1 r0 0) h_2) ∧ (¬ x1 = (2 : Int32) → ((x1 = (3 : Int32) → Q (h_2.1 r0 1) h_2) ∧ (¬ x1 = (3 : Int32) → ((x1 = (4 : Int32) → Q (h_2.1 r0 22) h_2) ∧ (¬ x1 = (4 : Int32) → Q (-2 : Int32) h_2))))))))))) ∧ (¬ v_2 = 0 → vp_in (x1 - (20 : Int32)) 5 ∧ Q (h_2.2.2.1 r0_span (x1 - (20 : Int32)).toNatClampNeg) h_2))) ∧ (¬ v_1 = 0 → vp_in (x1 - (10 : Int32)) 5 ∧ Q ((h_1.2.2.1 r0_number (x1 - (10 : Int32)).toNatClampNeg) + (100 : Int32)) h_1))) :
    OkI (d + 1) mX12_told S [.ref r0, .int x1] h Q := by
  refine Ok.of (by decide) (Nat.le_of_ble_eq_true rfl) ?_
  refine G_iload_n 1 rfl dX12_told_0 rfl ?_
  refine G_i2l dX12_told_1 ?_
  refine G_ldc2 hK_X12_86 dX12_told_2 ?_
  refine G_ldc2 hK_X12_379 dX12_told_5 ?_
  obtain ⟨Q1, ok1, w⟩ := w
  refine G_callS (Z := mX12_in) (As := [.long x1.toInt64, .long (10 : Int64), .long (14 : Int64)]) (st := []) hL_X12_82 hT_X12_in hC_X12_in hN_X12 nX12_in (by decide) rfl (Nat.le_of_ble_eq_true rfl) dX12_told_8 ok1 (fun r_ h_1 z_ => ?_)
  obtain ⟨v_1, rfl, q_1⟩ := z_
  have w := w v_1 h_1 q_1
  refine G_if_eq (tgt := 27) dX12_told_11 (by decide) (fun c1 => ?_) (fun c1 => ?_)
  · have w := w.1 c1
    refine G_iload_n 1 rfl dX12_told_27 rfl ?_
    refine G_i2l dX12_told_28 ?_
    refine G_ldc2 hK_X12_381 dX12_told_29 ?_
    refine G_ldc2 hK_X12_383 dX12_told_32 ?_
    obtain ⟨Q2, ok2, w⟩ := w
    refine G_callS (Z := mX12_in) (As := [.long x1.toInt64, .long (20 : Int64), .long (24 : Int64)]) (st := []) hL_X12_82 hT_X12_in hC_X12_in hN_X12 nX12_in (by decide) rfl (Nat.le_of_ble_eq_true rfl) dX12_told_35 ok2 (fun r_ h_2 z_ => ?_)
    obtain ⟨v_2, rfl, q_2⟩ := z_
    have w := w v_2 h_2 q_2
    refine G_if_eq (tgt := 51) dX12_told_38 (by decide) (fun c2 => ?_) (fun c2 => ?_)
    · have w := w.1 c2
      refine G_iload_n 1 rfl dX12_told_51 rfl ?_
      refine Decidable.byCases (p := x1 = (0 : Int32)) (fun c3 => ?_) (fun c3 => ?_)
      · refine G_tabEq (off := 36) (tgt := 88) dX12_told_52 c3 (by decide) (by decide) (by decide) (by decide) ?_
        have w := w.1 c3
        refine G_aload_n 0 rfl dX12_told_88 rfl ?_
        refine G_geti (k := 8) hs1 (q := (RX12, TX12, 40)) rfl inX12 (by decide) (Or.inl rfl) hF_X12_159 dX12_told_89 ?_
        exact G_iret rfl dX12_told_92 ⟨_, rfl, w⟩
      have w := w.2 c3
      refine Decidable.byCases (p := x1 = (1 : Int32)) (fun c4 => ?_) (fun c4 => ?_)
      · refine G_tabEq (off := 41) (tgt := 93) dX12_told_52 c4 (by decide) (by decide) (by decide) (by decide) ?_
        have w := w.1 c4
        refine G_aload_n 0 rfl dX12_told_93 rfl ?_
        refine G_geti (k := 10) hs1 (q := (RX12, TX12, 40)) rfl inX12 (by decide) (Or.inl rfl) hF_X12_79 dX12_told_94 ?_
        exact G_iret rfl dX12_told_97 ⟨_, rfl, w⟩
      have w := w.2 c4
      refine Decidable.byCases (p := x1 = (2 : Int32)) (fun c5 => ?_) (fun c5 => ?_)
      · refine G_tabEq (off := 46) (tgt := 98) dX12_told_52 c5 (by decide) (by decide) (by decide) (by decide) ?_
        have w := w.1 c5
        refine G_aload_n 0 rfl dX12_told_98 rfl ?_
        refine G_geti (k := 0) hs1 (q := (RX12, TX12, 40)) rfl inX12 (by decide) (Or.inl rfl) hF_X12_75 dX12_told_99 ?_
        exact G_iret rfl dX12_told_102 ⟨_, rfl, w⟩
      have w := w.2 c5
      refine Decidable.byCases (p := x1 = (3 : Int32)) (fun c6 => ?_) (fun c6 => ?_)
      · refine G_tabEq (off := 51) (tgt := 103) dX12_told_52 c6 (by decide) (by decide) (by decide) (by decide) ?_
        have w := w.1 c6
        refine G_aload_n 0 rfl dX12_told_103 rfl ?_
        refine G_geti (k := 1) hs1 (q := (RX12, TX12, 40)) rfl inX12 (by decide) (Or.inl rfl) hF_X12_142 dX12_told_104 ?_
        exact G_iret rfl dX12_told_107 ⟨_, rfl, w⟩
      have w := w.2 c6
      refine Decidable.byCases (p := x1 = (4 : Int32)) (fun c7 => ?_) (fun c7 => ?_)
      · refine G_tabEq (off := 56) (tgt := 108) dX12_told_52 c7 (by decide) (by decide) (by decide) (by decide) ?_
        have w := w.1 c7
        refine G_aload_n 0 rfl dX12_told_108 rfl ?_
        refine G_geti (k := 22) hs1 (q := (RX12, TX12, 40)) rfl inX12 (by decide) (Or.inl rfl) hF_X12_247 dX12_told_109 ?_
        exact G_iret rfl dX12_told_112 ⟨_, rfl, w⟩
      have w := w.2 c7
      refine G_tabOut (tgt := 113) dX12_told_52 (f_tab5 c3 c4 c5 c6 c7) (by decide) ?_
      refine G_bipush (v := -2) dX12_told_113 (by decide) ?_
      exact G_iret rfl dX12_told_115 ⟨_, rfl, w⟩
    · have w := w.2 c2
      refine G_aload_n 0 rfl dX12_told_41 rfl ?_
      refine G_getr (j := r0_span) (k := 12) hs1 (q := (RX12, TX12, 40)) rfl inX12 (by decide) rfl hF_X12_19 dX12_told_42 ?_
      refine G_iload_n 1 rfl dX12_told_45 rfl ?_
      refine G_bipush (v := 20) dX12_told_46 (by decide) ?_
      refine G_isub dX12_told_48 ?_
      obtain ⟨sd1, w⟩ := w
      refine G_iald hs2 sd1 dX12_told_49 ?_
      exact G_iret rfl dX12_told_50 ⟨_, rfl, w⟩
  · have w := w.2 c1
    refine G_aload_n 0 rfl dX12_told_14 rfl ?_
    refine G_getr (j := r0_number) (k := 11) hs1 (q := (RX12, TX12, 40)) rfl inX12 (by decide) rfl hF_X12_16 dX12_told_15 ?_
    refine G_iload_n 1 rfl dX12_told_18 rfl ?_
    refine G_bipush (v := 10) dX12_told_19 (by decide) ?_
    refine G_isub dX12_told_21 ?_
    obtain ⟨sd1, w⟩ := w
    refine G_iald hs3 sd1 dX12_told_22 ?_
    refine G_bipush (v := 100) dX12_told_23 (by decide) ?_
    refine G_iadd dX12_told_25 ?_
    exact G_iret rfl dX12_told_26 ⟨_, rfl, w⟩

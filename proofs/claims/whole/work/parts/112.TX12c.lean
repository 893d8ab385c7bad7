-- LostDigitsModel.billionths
theorem dX12_billionths_0 : decode cX12_billionths 0 = .ok (.aload_n 0, 1) := by decide +kernel
theorem dX12_billionths_1 : decode cX12_billionths 1 = .ok (.getfield 38, 3) := by decide +kernel
theorem dX12_billionths_4 : decode cX12_billionths 4 = .ok (.iload_n 1, 1) := by decide +kernel
theorem dX12_billionths_5 : decode cX12_billionths 5 = .ok (.laload, 1) := by decide +kernel
theorem dX12_billionths_6 : decode cX12_billionths 6 = .ok (.lconst 0, 1) := by decide +kernel
theorem dX12_billionths_7 : decode cX12_billionths 7 = .ok (.lcmp, 1) := by decide +kernel
theorem dX12_billionths_8 : decode cX12_billionths 8 = .ok (.ifCond .ne 7, 3) := by decide +kernel
theorem dX12_billionths_11 : decode cX12_billionths 11 = .ok (.ldc2_w 94, 3) := by decide +kernel
theorem dX12_billionths_14 : decode cX12_billionths 14 = .ok (.lreturn, 1) := by decide +kernel
theorem dX12_billionths_15 : decode cX12_billionths 15 = .ok (.aload_n 0, 1) := by decide +kernel
theorem dX12_billionths_16 : decode cX12_billionths 16 = .ok (.getfield 38, 3) := by decide +kernel
theorem dX12_billionths_19 : decode cX12_billionths 19 = .ok (.iload_n 1, 1) := by decide +kernel
theorem dX12_billionths_20 : decode cX12_billionths 20 = .ok (.laload, 1) := by decide +kernel
theorem dX12_billionths_21 : decode cX12_billionths 21 = .ok (.lstore_n 3, 1) := by decide +kernel
theorem dX12_billionths_22 : decode cX12_billionths 22 = .ok (.aload_n 0, 1) := by decide +kernel
theorem dX12_billionths_23 : decode cX12_billionths 23 = .ok (.getfield 35, 3) := by decide +kernel
theorem dX12_billionths_26 : decode cX12_billionths 26 = .ok (.iload_n 1, 1) := by decide +kernel
theorem dX12_billionths_27 : decode cX12_billionths 27 = .ok (.laload, 1) := by decide +kernel
theorem dX12_billionths_28 : decode cX12_billionths 28 = .ok (.invokestatic 98, 3) := by decide +kernel
theorem dX12_billionths_31 : decode cX12_billionths 31 = .ok (.lstore 5, 2) := by decide +kernel
theorem dX12_billionths_33 : decode cX12_billionths 33 = .ok (.aload_n 0, 1) := by decide +kernel
theorem dX12_billionths_34 : decode cX12_billionths 34 = .ok (.getfield 35, 3) := by decide +kernel
theorem dX12_billionths_37 : decode cX12_billionths 37 = .ok (.iload_n 1, 1) := by decide +kernel
theorem dX12_billionths_38 : decode cX12_billionths 38 = .ok (.laload, 1) := by decide +kernel
theorem dX12_billionths_39 : decode cX12_billionths 39 = .ok (.lconst 0, 1) := by decide +kernel
theorem dX12_billionths_40 : decode cX12_billionths 40 = .ok (.lcmp, 1) := by decide +kernel
theorem dX12_billionths_41 : decode cX12_billionths 41 = .ok (.ifCond .ge 7, 3) := by decide +kernel
theorem dX12_billionths_44 : decode cX12_billionths 44 = .ok (.iconst 1, 1) := by decide +kernel
theorem dX12_billionths_45 : decode cX12_billionths 45 = .ok (.goto 4, 3) := by decide +kernel
theorem dX12_billionths_48 : decode cX12_billionths 48 = .ok (.iconst 0, 1) := by decide +kernel
theorem dX12_billionths_49 : decode cX12_billionths 49 = .ok (.istore 7, 2) := by decide +kernel
theorem dX12_billionths_51 : decode cX12_billionths 51 = .ok (.lload 5, 2) := by decide +kernel
theorem dX12_billionths_53 : decode cX12_billionths 53 = .ok (.lload_n 3, 1) := by decide +kernel
theorem dX12_billionths_54 : decode cX12_billionths 54 = .ok (.ldiv, 1) := by decide +kernel
theorem dX12_billionths_55 : decode cX12_billionths 55 = .ok (.lstore 8, 2) := by decide +kernel
theorem dX12_billionths_57 : decode cX12_billionths 57 = .ok (.lload 8, 2) := by decide +kernel
theorem dX12_billionths_59 : decode cX12_billionths 59 = .ok (.ldc2_w 219, 3) := by decide +kernel
theorem dX12_billionths_62 : decode cX12_billionths 62 = .ok (.lcmp, 1) := by decide +kernel
theorem dX12_billionths_63 : decode cX12_billionths 63 = .ok (.ifCond .lt 7, 3) := by decide +kernel
theorem dX12_billionths_66 : decode cX12_billionths 66 = .ok (.ldc2_w 94, 3) := by decide +kernel
theorem dX12_billionths_69 : decode cX12_billionths 69 = .ok (.lreturn, 1) := by decide +kernel
theorem dX12_billionths_70 : decode cX12_billionths 70 = .ok (.lload 5, 2) := by decide +kernel
theorem dX12_billionths_72 : decode cX12_billionths 72 = .ok (.lload_n 3, 1) := by decide +kernel
theorem dX12_billionths_73 : decode cX12_billionths 73 = .ok (.lrem, 1) := by decide +kernel
theorem dX12_billionths_74 : decode cX12_billionths 74 = .ok (.lstore 10, 2) := by decide +kernel
theorem dX12_billionths_76 : decode cX12_billionths 76 = .ok (.iconst 0, 1) := by decide +kernel
theorem dX12_billionths_77 : decode cX12_billionths 77 = .ok (.istore 12, 2) := by decide +kernel
theorem dX12_billionths_79 : decode cX12_billionths 79 = .ok (.iload 12, 2) := by decide +kernel
theorem dX12_billionths_81 : decode cX12_billionths 81 = .ok (.bipush 9, 2) := by decide +kernel
theorem dX12_billionths_83 : decode cX12_billionths 83 = .ok (.if_icmp .ge 36, 3) := by decide +kernel
theorem dX12_billionths_86 : decode cX12_billionths 86 = .ok (.lload 10, 2) := by decide +kernel
theorem dX12_billionths_88 : decode cX12_billionths 88 = .ok (.ldc2_w 86, 3) := by decide +kernel
theorem dX12_billionths_91 : decode cX12_billionths 91 = .ok (.lmul, 1) := by decide +kernel
theorem dX12_billionths_92 : decode cX12_billionths 92 = .ok (.lstore 10, 2) := by decide +kernel
theorem dX12_billionths_94 : decode cX12_billionths 94 = .ok (.ldc2_w 86, 3) := by decide +kernel
theorem dX12_billionths_97 : decode cX12_billionths 97 = .ok (.lload 8, 2) := by decide +kernel
theorem dX12_billionths_99 : decode cX12_billionths 99 = .ok (.lmul, 1) := by decide +kernel
theorem dX12_billionths_100 : decode cX12_billionths 100 = .ok (.lload 10, 2) := by decide +kernel
theorem dX12_billionths_102 : decode cX12_billionths 102 = .ok (.lload_n 3, 1) := by decide +kernel
theorem dX12_billionths_103 : decode cX12_billionths 103 = .ok (.ldiv, 1) := by decide +kernel
theorem dX12_billionths_104 : decode cX12_billionths 104 = .ok (.ladd, 1) := by decide +kernel
theorem dX12_billionths_105 : decode cX12_billionths 105 = .ok (.lstore 8, 2) := by decide +kernel
theorem dX12_billionths_107 : decode cX12_billionths 107 = .ok (.lload 10, 2) := by decide +kernel
theorem dX12_billionths_109 : decode cX12_billionths 109 = .ok (.lload_n 3, 1) := by decide +kernel
theorem dX12_billionths_110 : decode cX12_billionths 110 = .ok (.lrem, 1) := by decide +kernel
theorem dX12_billionths_111 : decode cX12_billionths 111 = .ok (.lstore 10, 2) := by decide +kernel
theorem dX12_billionths_113 : decode cX12_billionths 113 = .ok (.iinc 12 1, 3) := by decide +kernel
theorem dX12_billionths_116 : decode cX12_billionths 116 = .ok (.goto (-37), 3) := by decide +kernel
theorem dX12_billionths_119 : decode cX12_billionths 119 = .ok (.lload 8, 2) := by decide +kernel
theorem dX12_billionths_121 : decode cX12_billionths 121 = .ok (.lload 10, 2) := by decide +kernel
theorem dX12_billionths_123 : decode cX12_billionths 123 = .ok (.lconst 0, 1) := by decide +kernel
theorem dX12_billionths_124 : decode cX12_billionths 124 = .ok (.lcmp, 1) := by decide +kernel
theorem dX12_billionths_125 : decode cX12_billionths 125 = .ok (.ifCond .le 26, 3) := by decide +kernel
theorem dX12_billionths_128 : decode cX12_billionths 128 = .ok (.iload_n 2, 1) := by decide +kernel
theorem dX12_billionths_129 : decode cX12_billionths 129 = .ok (.ifCond .ne 8, 3) := by decide +kernel
theorem dX12_billionths_132 : decode cX12_billionths 132 = .ok (.iload 7, 2) := by decide +kernel
theorem dX12_billionths_134 : decode cX12_billionths 134 = .ok (.ifCond .ne 13, 3) := by decide +kernel
theorem dX12_billionths_137 : decode cX12_billionths 137 = .ok (.iload_n 2, 1) := by decide +kernel
theorem dX12_billionths_138 : decode cX12_billionths 138 = .ok (.iconst 1, 1) := by decide +kernel
theorem dX12_billionths_139 : decode cX12_billionths 139 = .ok (.if_icmp .ne 12, 3) := by decide +kernel
theorem dX12_billionths_142 : decode cX12_billionths 142 = .ok (.iload 7, 2) := by decide +kernel
theorem dX12_billionths_144 : decode cX12_billionths 144 = .ok (.ifCond .ne 7, 3) := by decide +kernel
theorem dX12_billionths_147 : decode cX12_billionths 147 = .ok (.lconst 1, 1) := by decide +kernel
theorem dX12_billionths_148 : decode cX12_billionths 148 = .ok (.goto 4, 3) := by decide +kernel
theorem dX12_billionths_151 : decode cX12_billionths 151 = .ok (.lconst 0, 1) := by decide +kernel
theorem dX12_billionths_152 : decode cX12_billionths 152 = .ok (.ladd, 1) := by decide +kernel
theorem dX12_billionths_153 : decode cX12_billionths 153 = .ok (.lstore 8, 2) := by decide +kernel
theorem dX12_billionths_155 : decode cX12_billionths 155 = .ok (.iload 7, 2) := by decide +kernel
theorem dX12_billionths_157 : decode cX12_billionths 157 = .ok (.ifCond .eq 9, 3) := by decide +kernel
theorem dX12_billionths_160 : decode cX12_billionths 160 = .ok (.lload 8, 2) := by decide +kernel
theorem dX12_billionths_162 : decode cX12_billionths 162 = .ok (.lneg, 1) := by decide +kernel
theorem dX12_billionths_163 : decode cX12_billionths 163 = .ok (.goto 5, 3) := by decide +kernel
theorem dX12_billionths_166 : decode cX12_billionths 166 = .ok (.lload 8, 2) := by decide +kernel
theorem dX12_billionths_168 : decode cX12_billionths 168 = .ok (.lreturn, 1) := by decide +kernel
set_option maxRecDepth 10000 in
theorem NX12_billionths_0 {d : Nat} {S : fW} {h : fH} {Q : Int64 → fH → Prop} {r0 : Nat} {x1 : Int32} {x2 : Int32} {r0_pad r0_text r0_number r0_span r0_now r0_sizeOf r0_workedTo r0_slip r0_exactUpper r0_exactLower r0_more r0_terms r0_order r0_bestOrder r0_low r0_high r0_built r0_better r0_base r0_kept r0_isKept : Nat}  
    (hs1 : (r0, shX12 r0_pad r0_text r0_number r0_span r0_now r0_sizeOf r0_workedTo r0_slip r0_exactUpper r0_exactLower r0_more r0_terms r0_order r0_bestOrder r0_low r0_high r0_built r0_better r0_base r0_kept r0_isKept) ∈ S)
    (hs2 : (r0_exactLower, shJ 13) ∈ S)
    (hs3 : (r0_exactUpper, shJ 13) ∈ S)
    (w : vp_in x1 13 ∧ ((¬ (h.2.2.2 r0_exactLower x1.toNatClampNeg) = (0 : Int64) → ∃ Q1 : Int64 → fH → Prop, OkL d mX12_size S [.long (h.2.2.2 r0_exactUpper x1.toNatClampNeg)] h Q1 ∧ ∀ (v_1 : Int64) (h_1 : fH), Q1 v_1 h_1 → (((0 : Int64) ≤ (h_1.2.2.2 r0_exactUpper x1.toNatClampNeg) → ¬ (h.2.2.2 r0_exactLower x1.toNatClampNeg) = 0 ∧ (((v_1 / (h.2.2.2 r0_exactLower x1.toNatClampNeg)) < (10000000 : Int64) → G mX12_billionths (d + 1) S (f_PL Q) 79 [(2, .int x2), (3, .long (h.2.2.2 r0_exactLower x1.toNatClampNeg)), (7, .int (0 : Int32)), (8, .long (v_1 / (h.2.2.2 r0_exactLower x1.toNatClampNeg))), (10, .long (v_1 - v_1 / (h.2.2.2 r0_exactLower x1.toNatClampNeg) * (h.2.2.2 r0_exactLower x1.toNatClampNeg))), (12, .int (0 : Int32))] [] h_1) ∧ (¬ (v_1 / (h.2.2.2 r0_exactLower x1.toNatClampNeg)) < (10000000 : Int64) → Q (1000000000000000000 : Int64) h_1))) ∧ (¬ (0 : Int64) ≤ (h_1.2.2.2 r0_exactUpper x1.toNatClampNeg) → ¬ (h.2.2.2 r0_exactLower x1.toNatClampNeg) = 0 ∧ (((v_1 / (h.2.2.2 r0_exactLower x1.toNatClampNeg)) < (10000000 : Int64) → G mX12_billionths (d + 1) S (f_PL Q) 79 [(2, .int x2), (3, .long (h.2.2.2 r0_exactLower x1.toNatClampNeg)), (7, .int (1 : Int32)), (8, .long (v_1 / (h.2.2.2 r0_exactLower x1.toNatClampNeg))), (10, .long (v_1 - v_1 / (h.2.2.2 r0_exactLower x1.toNatClampNeg) * (h.2.2.2 r0_exactLower x1.toNatClampNeg))), (12, .int (0 : Int32))] [] h_1) ∧ (¬ (v_1 / (h.2.2.2 r0_exactLower x1.toNatClampNeg)) < (10000000 : Int64) → Q (1000000000000000000 : Int64) h_1))))) ∧ ((h.2.2.2 r0_exactLower x1.toNatClampNeg) = (0 : Int64) → Q (1000000000000000000 : Int64) h))) :
    OkL (d + 1) mX12_billionths S [.ref r0, .int x1, .int x2] h Q := by
  refine Ok.of (by decide) (Nat.le_of_ble_eq_true rfl) ?_
  refine G_aload_n 0 rfl dX12_billionths_0 rfl ?_
  refine G_getr (j := r0_exactLower) (k := 19) hs1 (q := (RX12, TX12, 40)) rfl inX12 (by decide) rfl hF_X12_38 dX12_billionths_1 ?_
  refine G_iload_n 1 rfl dX12_billionths_4 rfl ?_
  obtain ⟨sd1, w⟩ := w
  refine G_lald hs2 sd1 dX12_billionths_5 ?_
  refine G_lconst (v := 0) dX12_billionths_6 (by decide) ?_
  refine G_lif_ne (tgt := 15) dX12_billionths_7 dX12_billionths_8 (by decide) (fun c1 => ?_) (fun c1 => ?_)
  · have w := w.1 c1
    refine G_aload_n 0 rfl dX12_billionths_15 rfl ?_
    refine G_getr (j := r0_exactLower) (k := 19) hs1 (q := (RX12, TX12, 40)) rfl inX12 (by decide) rfl hF_X12_38 dX12_billionths_16 ?_
    refine G_iload_n 1 rfl dX12_billionths_19 rfl ?_
    refine G_lald hs2 sd1 dX12_billionths_20 ?_
    refine G_lstore_n dX12_billionths_21 rfl (by decide) (lv' := [(3, .long (h.2.2.2 r0_exactLower x1.toNatClampNeg)), (0, .ref r0), (1, .int x1), (2, .int x2)]) rfl ?_
    refine G_aload_n 1 rfl dX12_billionths_22 rfl ?_
    refine G_getr (j := r0_exactUpper) (k := 18) hs1 (q := (RX12, TX12, 40)) rfl inX12 (by decide) rfl hF_X12_35 dX12_billionths_23 ?_
    refine G_iload_n 2 rfl dX12_billionths_26 rfl ?_
    refine G_lald hs3 sd1 dX12_billionths_27 ?_
    obtain ⟨Q1, ok1, w⟩ := w
    refine G_callS (Z := mX12_size) (As := [.long (h.2.2.2 r0_exactUpper x1.toNatClampNeg)]) (st := []) hL_X12_98 hT_X12_size hC_X12_size hN_X12 nX12_size (by decide) rfl (Nat.le_of_ble_eq_true rfl) dX12_billionths_28 ok1 (fun r_ h_1 z_ => ?_)
    obtain ⟨v_1, rfl, q_1⟩ := z_
    have w := w v_1 h_1 q_1
    refine G_lstore dX12_billionths_31 (by decide) (lv' := [(5, .long v_1), (3, .long (h.2.2.2 r0_exactLower x1.toNatClampNeg)), (0, .ref r0), (1, .int x1), (2, .int x2)]) rfl ?_
    refine G_aload_n 2 rfl dX12_billionths_33 rfl ?_
    refine G_getr (j := r0_exactUpper) (k := 18) hs1 (q := (RX12, TX12, 40)) rfl inX12 (by decide) rfl hF_X12_35 dX12_billionths_34 ?_
    refine G_iload_n 3 rfl dX12_billionths_37 rfl ?_
    refine G_lald hs3 sd1 dX12_billionths_38 ?_
    refine G_lconst (v := 0) dX12_billionths_39 (by decide) ?_
    refine G_lif_ge (tgt := 48) dX12_billionths_40 dX12_billionths_41 (by decide) (fun c2 => ?_) (fun c2 => ?_)
    · have w := w.1 c2
      refine G_iconst (v := 0) dX12_billionths_48 (by decide) ?_
      refine G_istore dX12_billionths_49 (by decide) (lv' := [(7, .int (0 : Int32)), (5, .long v_1), (3, .long (h.2.2.2 r0_exactLower x1.toNatClampNeg)), (0, .ref r0), (1, .int x1), (2, .int x2)]) rfl ?_
      refine G_lload 1 rfl dX12_billionths_51 ?_
      refine G_lload_n 2 rfl dX12_billionths_53 rfl ?_
      obtain ⟨sd2, w⟩ := w
      refine G_ldiv dX12_billionths_54 sd2 ?_
      refine G_lstore dX12_billionths_55 (by decide) (lv' := [(8, .long (v_1 / (h.2.2.2 r0_exactLower x1.toNatClampNeg))), (7, .int (0 : Int32)), (5, .long v_1), (3, .long (h.2.2.2 r0_exactLower x1.toNatClampNeg)), (0, .ref r0), (1, .int x1), (2, .int x2)]) rfl ?_
      refine G_lload 0 rfl dX12_billionths_57 ?_
      refine G_ldc2 hK_X12_219 dX12_billionths_59 ?_
      refine G_lif_lt (tgt := 70) dX12_billionths_62 dX12_billionths_63 (by decide) (fun c3 => ?_) (fun c3 => ?_)
      · have w := w.1 c3
        refine G_lload 2 rfl dX12_billionths_70 ?_
        refine G_lload_n 3 rfl dX12_billionths_72 rfl ?_
        refine G_lrem dX12_billionths_73 sd2 ?_
        refine G_lstore dX12_billionths_74 (by decide) (lv' := [(10, .long (v_1 - v_1 / (h.2.2.2 r0_exactLower x1.toNatClampNeg) * (h.2.2.2 r0_exactLower x1.toNatClampNeg))), (8, .long (v_1 / (h.2.2.2 r0_exactLower x1.toNatClampNeg))), (7, .int (0 : Int32)), (5, .long v_1), (3, .long (h.2.2.2 r0_exactLower x1.toNatClampNeg)), (0, .ref r0), (1, .int x1), (2, .int x2)]) rfl ?_
        refine G_iconst (v := 0) dX12_billionths_76 (by decide) ?_
        refine G_istore dX12_billionths_77 (by decide) (lv' := [(12, .int (0 : Int32)), (10, .long (v_1 - v_1 / (h.2.2.2 r0_exactLower x1.toNatClampNeg) * (h.2.2.2 r0_exactLower x1.toNatClampNeg))), (8, .long (v_1 / (h.2.2.2 r0_exactLower x1.toNatClampNeg))), (7, .int (0 : Int32)), (5, .long v_1), (3, .long (h.2.2.2 r0_exactLower x1.toNatClampNeg)), (0, .ref r0), (1, .int x1), (2, .int x2)]) rfl ?_
        exact G_sub [8, 5, 3, 2, 1, 0] rfl w
      · have w := w.2 c3
        refine G_ldc2 hK_X12_94 dX12_billionths_66 ?_
        exact G_lret rfl dX12_billionths_69 ⟨_, rfl, w⟩
    · have w := w.2 c2
      refine G_iconst (v := 1) dX12_billionths_44 (by decide) ?_
      refine G_goto (tgt := 49) dX12_billionths_45 (by decide) ?_
      refine G_istore dX12_billionths_49 (by decide) (lv' := [(7, .int (1 : Int32)), (5, .long v_1), (3, .long (h.2.2.2 r0_exactLower x1.toNatClampNeg)), (0, .ref r0), (1, .int x1), (2, .int x2)]) rfl ?_
      refine G_lload 1 rfl dX12_billionths_51 ?_
      refine G_lload_n 2 rfl dX12_billionths_53 rfl ?_
      obtain ⟨sd2, w⟩ := w
      refine G_ldiv dX12_billionths_54 sd2 ?_
      refine G_lstore dX12_billionths_55 (by decide) (lv' := [(8, .long (v_1 / (h.2.2.2 r0_exactLower x1.toNatClampNeg))), (7, .int (1 : Int32)), (5, .long v_1), (3, .long (h.2.2.2 r0_exactLower x1.toNatClampNeg)), (0, .ref r0), (1, .int x1), (2, .int x2)]) rfl ?_
      refine G_lload 0 rfl dX12_billionths_57 ?_
      refine G_ldc2 hK_X12_219 dX12_billionths_59 ?_
      refine G_lif_lt (tgt := 70) dX12_billionths_62 dX12_billionths_63 (by decide) (fun c3 => ?_) (fun c3 => ?_)
      · have w := w.1 c3
        refine G_lload 2 rfl dX12_billionths_70 ?_
        refine G_lload_n 3 rfl dX12_billionths_72 rfl ?_
        refine G_lrem dX12_billionths_73 sd2 ?_
        refine G_lstore dX12_billionths_74 (by decide) (lv' := [(10, .long (v_1 - v_1 / (h.2.2.2 r0_exactLower x1.toNatClampNeg) * (h.2.2.2 r0_exactLower x1.toNatClampNeg))), (8, .long (v_1 / (h.2.2.2 r0_exactLower x1.toNatClampNeg))), (7, .int (1 : Int32)), (5, .long v_1), (3, .long (h.2.2.2 r0_exactLower x1.toNatClampNeg)), (0, .ref r0), (1, .int x1), (2, .int x2)]) rfl ?_
        refine G_iconst (v := 0) dX12_billionths_76 (by decide) ?_
        refine G_istore dX12_billionths_77 (by decide) (lv' := [(12, .int (0 : Int32)), (10, .long (v_1 - v_1 / (h.2.2.2 r0_exactLower x1.toNatClampNeg) * (h.2.2.2 r0_exactLower x1.toNatClampNeg))), (8, .long (v_1 / (h.2.2.2 r0_exactLower x1.toNatClampNeg))), (7, .int (1 : Int32)), (5, .long v_1), (3, .long (h.2.2.2 r0_exactLower x1.toNatClampNeg)), (0, .ref r0), (1, .int x1), (2, .int x2)]) rfl ?_
        exact G_sub [8, 5, 3, 2, 1, 0] rfl w
      · have w := w.2 c3
        refine G_ldc2 hK_X12_94 dX12_billionths_66 ?_
        exact G_lret rfl dX12_billionths_69 ⟨_, rfl, w⟩
  · have w := w.2 c1
    refine G_ldc2 hK_X12_94 dX12_billionths_11 ?_
    exact G_lret rfl dX12_billionths_14 ⟨_, rfl, w⟩

set_option maxRecDepth 10000 in
theorem NX12_billionths_79 {d : Nat} {S : fW} {h : fH} {Q : Int64 → fH → Prop} {x2 : Int32} {x3 : Int64} {x7 : Int32} {x8 : Int64} {x10 : Int64} {x12 : Int32}  
    (w : (((9 : Int32) ≤ x12 → ((x10 ≤ (0 : Int64) → ((x7 = 0 → Q (x8 + (0 : Int64)) h) ∧ (¬ x7 = 0 → Q (-(x8 + (0 : Int64))) h))) ∧ (¬ x10 ≤ (0 : Int64) → ((¬ x2 = 0 → G mX12_billionths (d + 1) S (f_PL Q) 137 [(2, .int x2), (7, .int x7)] [.long x8] h) ∧ (x2 = 0 → ((¬ x7 = 0 → Q (-(x8 + (1 : Int64))) h) ∧ (x7 = 0 → G mX12_billionths (d + 1) S (f_PL Q) 137 [(2, .int x2), (7, .int x7)] [.long x8] h))))))) ∧ (¬ (9 : Int32) ≤ x12 → ¬ x3 = 0 ∧ G mX12_billionths (d + 1) S (f_PL Q) 79 [(2, .int x2), (3, .long x3), (7, .int x7), (8, .long (((10 : Int64) * x8) + ((x10 * (10 : Int64)) / x3))), (10, .long ((x10 * (10 : Int64)) - (x10 * (10 : Int64)) / x3 * x3)), (12, .int (x12 + 1))] [] h))) :
    G mX12_billionths (d + 1) S (f_PL Q) 79 [(2, .int x2), (3, .long x3), (7, .int x7), (8, .long x8), (10, .long x10), (12, .int x12)] [] h := by
  refine G_iload 5 rfl dX12_billionths_79 ?_
  refine G_bipush (v := 9) dX12_billionths_81 (by decide) ?_
  refine G_icmp_ge (tgt := 119) dX12_billionths_83 (by decide) (fun c1 => ?_) (fun c1 => ?_)
  · have w := w.1 c1
    refine G_lload 3 rfl dX12_billionths_119 ?_
    refine G_lload 4 rfl dX12_billionths_121 ?_
    refine G_lconst (v := 0) dX12_billionths_123 (by decide) ?_
    refine G_lif_le (tgt := 151) dX12_billionths_124 dX12_billionths_125 (by decide) (fun c2 => ?_) (fun c2 => ?_)
    · have w := w.1 c2
      refine G_lconst (v := 0) dX12_billionths_151 (by decide) ?_
      refine G_ladd dX12_billionths_152 ?_
      refine G_lstore dX12_billionths_153 (by decide) (lv' := [(8, .long (x8 + (0 : Int64))), (2, .int x2), (3, .long x3), (7, .int x7), (10, .long x10), (12, .int x12)]) rfl ?_
      refine G_iload 3 rfl dX12_billionths_155 ?_
      refine G_if_eq (tgt := 166) dX12_billionths_157 (by decide) (fun c3 => ?_) (fun c3 => ?_)
      · have w := w.1 c3
        refine G_lload 0 rfl dX12_billionths_166 ?_
        exact G_lret rfl dX12_billionths_168 ⟨_, rfl, w⟩
      · have w := w.2 c3
        refine G_lload 0 rfl dX12_billionths_160 ?_
        refine G_lneg dX12_billionths_162 ?_
        refine G_goto (tgt := 168) dX12_billionths_163 (by decide) ?_
        exact G_lret rfl dX12_billionths_168 ⟨_, rfl, w⟩
    · have w := w.2 c2
      refine G_iload_n 0 rfl dX12_billionths_128 rfl ?_
      refine G_if_ne (tgt := 137) dX12_billionths_129 (by decide) (fun c3 => ?_) (fun c3 => ?_)
      · have w := w.1 c3
        exact G_sub [0, 2] rfl w
      · have w := w.2 c3
        refine G_iload 2 rfl dX12_billionths_132 ?_
        refine G_if_ne (tgt := 147) dX12_billionths_134 (by decide) (fun c4 => ?_) (fun c4 => ?_)
        · have w := w.1 c4
          refine G_lconst (v := 1) dX12_billionths_147 (by decide) ?_
          refine G_goto (tgt := 152) dX12_billionths_148 (by decide) ?_
          refine G_ladd dX12_billionths_152 ?_
          refine G_lstore dX12_billionths_153 (by decide) (lv' := [(8, .long (x8 + (1 : Int64))), (2, .int x2), (3, .long x3), (7, .int x7), (10, .long x10), (12, .int x12)]) rfl ?_
          refine G_iload 3 rfl dX12_billionths_155 ?_
          refine G_if_eq (tgt := 166) dX12_billionths_157 (by decide) (fun c5 => absurd c5 c4) (fun c5 => ?_)
          refine G_lload 0 rfl dX12_billionths_160 ?_
          refine G_lneg dX12_billionths_162 ?_
          refine G_goto (tgt := 168) dX12_billionths_163 (by decide) ?_
          exact G_lret rfl dX12_billionths_168 ⟨_, rfl, w⟩
        · have w := w.2 c4
          exact G_sub [0, 2] rfl w
  · have w := w.2 c1
    refine G_lload 4 rfl dX12_billionths_86 ?_
    refine G_ldc2 hK_X12_86 dX12_billionths_88 ?_
    refine G_lmul dX12_billionths_91 ?_
    refine G_lstore dX12_billionths_92 (by decide) (lv' := [(10, .long (x10 * (10 : Int64))), (2, .int x2), (3, .long x3), (7, .int x7), (8, .long x8), (12, .int x12)]) rfl ?_
    refine G_ldc2 hK_X12_86 dX12_billionths_94 ?_
    refine G_lload 4 rfl dX12_billionths_97 ?_
    refine G_lmul dX12_billionths_99 ?_
    refine G_lload 0 rfl dX12_billionths_100 ?_
    refine G_lload_n 2 rfl dX12_billionths_102 rfl ?_
    obtain ⟨sd1, w⟩ := w
    refine G_ldiv dX12_billionths_103 sd1 ?_
    refine G_ladd dX12_billionths_104 ?_
    refine G_lstore dX12_billionths_105 (by decide) (lv' := [(8, .long (((10 : Int64) * x8) + ((x10 * (10 : Int64)) / x3))), (10, .long (x10 * (10 : Int64))), (2, .int x2), (3, .long x3), (7, .int x7), (12, .int x12)]) rfl ?_
    refine G_lload 1 rfl dX12_billionths_107 ?_
    refine G_lload_n 3 rfl dX12_billionths_109 rfl ?_
    refine G_lrem dX12_billionths_110 sd1 ?_
    refine G_lstore dX12_billionths_111 (by decide) (lv' := [(10, .long ((x10 * (10 : Int64)) - (x10 * (10 : Int64)) / x3 * x3)), (8, .long (((10 : Int64) * x8) + ((x10 * (10 : Int64)) / x3))), (2, .int x2), (3, .long x3), (7, .int x7), (12, .int x12)]) rfl ?_
    refine G_iinc (v := 1) 5 rfl dX12_billionths_113 (by decide) (by decide) (lv' := [(12, .int (x12 + 1)), (10, .long ((x10 * (10 : Int64)) - (x10 * (10 : Int64)) / x3 * x3)), (8, .long (((10 : Int64) * x8) + ((x10 * (10 : Int64)) / x3))), (2, .int x2), (3, .long x3), (7, .int x7)]) rfl ?_
    refine G_goto (tgt := 79) dX12_billionths_116 (by decide) ?_
    exact G_sub [3, 4, 5, 2, 1, 0] rfl w

set_option maxRecDepth 10000 in
theorem NX12_billionths_137 {d : Nat} {S : fW} {h : fH} {Q : Int64 → fH → Prop} {x2 : Int32} {x7 : Int32} {s0 : Int64}  
    (w : ((¬ x2 = (1 : Int32) → ((x7 = 0 → Q (s0 + (0 : Int64)) h) ∧ (¬ x7 = 0 → Q (-(s0 + (0 : Int64))) h))) ∧ (x2 = (1 : Int32) → ((¬ x7 = 0 → Q (-(s0 + (0 : Int64))) h) ∧ (x7 = 0 → Q (s0 + (1 : Int64)) h))))) :
    G mX12_billionths (d + 1) S (f_PL Q) 137 [(2, .int x2), (7, .int x7)] [.long s0] h := by
  refine G_iload_n 0 rfl dX12_billionths_137 rfl ?_
  refine G_iconst (v := 1) dX12_billionths_138 (by decide) ?_
  refine G_icmp_ne (tgt := 151) dX12_billionths_139 (by decide) (fun c1 => ?_) (fun c1 => ?_)
  · have w := w.1 c1
    refine G_lconst (v := 0) dX12_billionths_151 (by decide) ?_
    refine G_ladd dX12_billionths_152 ?_
    refine G_lstore dX12_billionths_153 (by decide) (lv' := [(8, .long (s0 + (0 : Int64))), (2, .int x2), (7, .int x7)]) rfl ?_
    refine G_iload 2 rfl dX12_billionths_155 ?_
    refine G_if_eq (tgt := 166) dX12_billionths_157 (by decide) (fun c2 => ?_) (fun c2 => ?_)
    · have w := w.1 c2
      refine G_lload 0 rfl dX12_billionths_166 ?_
      exact G_lret rfl dX12_billionths_168 ⟨_, rfl, w⟩
    · have w := w.2 c2
      refine G_lload 0 rfl dX12_billionths_160 ?_
      refine G_lneg dX12_billionths_162 ?_
      refine G_goto (tgt := 168) dX12_billionths_163 (by decide) ?_
      exact G_lret rfl dX12_billionths_168 ⟨_, rfl, w⟩
  · have w := w.2 c1
    refine G_iload 1 rfl dX12_billionths_142 ?_
    refine G_if_ne (tgt := 151) dX12_billionths_144 (by decide) (fun c2 => ?_) (fun c2 => ?_)
    · have w := w.1 c2
      refine G_lconst (v := 0) dX12_billionths_151 (by decide) ?_
      refine G_ladd dX12_billionths_152 ?_
      refine G_lstore dX12_billionths_153 (by decide) (lv' := [(8, .long (s0 + (0 : Int64))), (2, .int x2), (7, .int x7)]) rfl ?_
      refine G_iload 2 rfl dX12_billionths_155 ?_
      refine G_if_eq (tgt := 166) dX12_billionths_157 (by decide) (fun c3 => absurd c3 c2) (fun c3 => ?_)
      refine G_lload 0 rfl dX12_billionths_160 ?_
      refine G_lneg dX12_billionths_162 ?_
      refine G_goto (tgt := 168) dX12_billionths_163 (by decide) ?_
      exact G_lret rfl dX12_billionths_168 ⟨_, rfl, w⟩
    · have w := w.2 c2
      refine G_lconst (v := 1) dX12_billionths_147 (by decide) ?_
      refine G_goto (tgt := 152) dX12_billionths_148 (by decide) ?_
      refine G_ladd dX12_billionths_152 ?_
      refine G_lstore dX12_billionths_153 (by decide) (lv' := [(8, .long (s0 + (1 : Int64))), (2, .int x2), (7, .int x7)]) rfl ?_
      refine G_iload 2 rfl dX12_billionths_155 ?_
      refine G_if_eq (tgt := 166) dX12_billionths_157 (by decide) (fun c3 => ?_) (fun c3 => absurd c2 c3)
      refine G_lload 0 rfl dX12_billionths_166 ?_
      exact G_lret rfl dX12_billionths_168 ⟨_, rfl, w⟩
-- LostDigitsModel.less
theorem dX12_less_0 : decode cX12_less 0 = .ok (.lload_n 0, 1) := by decide +kernel
theorem dX12_less_1 : decode cX12_less 1 = .ok (.ldc2_w 94, 3) := by decide +kernel
theorem dX12_less_4 : decode cX12_less 4 = .ok (.lcmp, 1) := by decide +kernel
theorem dX12_less_5 : decode cX12_less 5 = .ok (.ifCond .eq 11, 3) := by decide +kernel
theorem dX12_less_8 : decode cX12_less 8 = .ok (.lload_n 2, 1) := by decide +kernel
theorem dX12_less_9 : decode cX12_less 9 = .ok (.ldc2_w 94, 3) := by decide +kernel
theorem dX12_less_12 : decode cX12_less 12 = .ok (.lcmp, 1) := by decide +kernel
theorem dX12_less_13 : decode cX12_less 13 = .ok (.ifCond .ne 9, 3) := by decide +kernel
theorem dX12_less_16 : decode cX12_less 16 = .ok (.ldc2_w 94, 3) := by decide +kernel
theorem dX12_less_19 : decode cX12_less 19 = .ok (.goto 6, 3) := by decide +kernel
theorem dX12_less_22 : decode cX12_less 22 = .ok (.lload_n 0, 1) := by decide +kernel
theorem dX12_less_23 : decode cX12_less 23 = .ok (.lload_n 2, 1) := by decide +kernel
theorem dX12_less_24 : decode cX12_less 24 = .ok (.lsub, 1) := by decide +kernel
theorem dX12_less_25 : decode cX12_less 25 = .ok (.lreturn, 1) := by decide +kernel
set_option maxRecDepth 10000 in
theorem TX12_less_0 {d : Nat} {S : fW} {h : fH} {Q : Int64 → fH → Prop} {x0 : Int64} {x2 : Int64}  
    (k1 : x0 = (1000000000000000000 : Int64) → Q (1000000000000000000 : Int64) h)
    (k2 : ¬ x0 = (1000000000000000000 : Int64) → ¬ x2 = (1000000000000000000 : Int64) → Q (x0 - x2) h)
    (k3 : ¬ x0 = (1000000000000000000 : Int64) → x2 = (1000000000000000000 : Int64) → Q (1000000000000000000 : Int64) h) :
    OkL d mX12_less S [.long x0, .long x2] h Q := by
  refine Ok.of (by decide) (Nat.le_of_ble_eq_true rfl) ?_
  refine G_lload_n 0 rfl dX12_less_0 rfl ?_
  refine G_ldc2 hK_X12_94 dX12_less_1 ?_
  refine G_lif_eq (tgt := 16) dX12_less_4 dX12_less_5 (by decide) (fun c1 => ?_) (fun c1 => ?_)
  · refine G_ldc2 hK_X12_94 dX12_less_16 ?_
    refine G_goto (tgt := 25) dX12_less_19 (by decide) ?_
    exact G_lret rfl dX12_less_25 ⟨_, rfl, (k1 c1)⟩
  · refine G_lload_n 1 rfl dX12_less_8 rfl ?_
    refine G_ldc2 hK_X12_94 dX12_less_9 ?_
    refine G_lif_ne (tgt := 22) dX12_less_12 dX12_less_13 (by decide) (fun c2 => ?_) (fun c2 => ?_)
    · refine G_lload_n 0 rfl dX12_less_22 rfl ?_
      refine G_lload_n 1 rfl dX12_less_23 rfl ?_
      refine G_lsub dX12_less_24 ?_
      exact G_lret rfl dX12_less_25 ⟨_, rfl, (k2 c1 c2)⟩
    · refine G_ldc2 hK_X12_94 dX12_less_16 ?_
      refine G_goto (tgt := 25) dX12_less_19 (by decide) ?_
      exact G_lret rfl dX12_less_25 ⟨_, rfl, (k3 c1 c2)⟩
-- LostDigitsModel.worked
theorem dX12_worked_0 : decode cX12_worked 0 = .ok (.aload_n 0, 1) := by decide +kernel
theorem dX12_worked_1 : decode cX12_worked 1 = .ok (.iload_n 1, 1) := by decide +kernel
theorem dX12_worked_2 : decode cX12_worked 2 = .ok (.invokevirtual 183, 3) := by decide +kernel
theorem dX12_worked_5 : decode cX12_worked 5 = .ok (.ifCond .ne 7, 3) := by decide +kernel
theorem dX12_worked_8 : decode cX12_worked 8 = .ok (.ldc2_w 221, 3) := by decide +kernel
theorem dX12_worked_11 : decode cX12_worked 11 = .ok (.lreturn, 1) := by decide +kernel
theorem dX12_worked_12 : decode cX12_worked 12 = .ok (.iload_n 2, 1) := by decide +kernel
theorem dX12_worked_13 : decode cX12_worked 13 = .ok (.i2l, 1) := by decide +kernel
theorem dX12_worked_14 : decode cX12_worked 14 = .ok (.lconst 0, 1) := by decide +kernel
theorem dX12_worked_15 : decode cX12_worked 15 = .ok (.ldc2_w 88, 3) := by decide +kernel
theorem dX12_worked_18 : decode cX12_worked 18 = .ok (.invokestatic 82, 3) := by decide +kernel
theorem dX12_worked_21 : decode cX12_worked 21 = .ok (.ifCond .ne 7, 3) := by decide +kernel
theorem dX12_worked_24 : decode cX12_worked 24 = .ok (.ldc2_w 153, 3) := by decide +kernel
theorem dX12_worked_27 : decode cX12_worked 27 = .ok (.lreturn, 1) := by decide +kernel
theorem dX12_worked_28 : decode cX12_worked 28 = .ok (.aload_n 0, 1) := by decide +kernel
theorem dX12_worked_29 : decode cX12_worked 29 = .ok (.invokevirtual 223, 3) := by decide +kernel
theorem dX12_worked_32 : decode cX12_worked 32 = .ok (.iload_n 2, 1) := by decide +kernel
theorem dX12_worked_33 : decode cX12_worked 33 = .ok (.iconst 1, 1) := by decide +kernel
theorem dX12_worked_34 : decode cX12_worked 34 = .ok (.if_icmp .ne 14, 3) := by decide +kernel
theorem dX12_worked_37 : decode cX12_worked 37 = .ok (.aload_n 0, 1) := by decide +kernel
theorem dX12_worked_38 : decode cX12_worked 38 = .ok (.invokevirtual 226, 3) := by decide +kernel
theorem dX12_worked_41 : decode cX12_worked 41 = .ok (.aload_n 0, 1) := by decide +kernel
theorem dX12_worked_42 : decode cX12_worked 42 = .ok (.iload_n 1, 1) := by decide +kernel
theorem dX12_worked_43 : decode cX12_worked 43 = .ok (.iconst (-1), 1) := by decide +kernel
theorem dX12_worked_44 : decode cX12_worked 44 = .ok (.invokevirtual 229, 3) := by decide +kernel
theorem dX12_worked_47 : decode cX12_worked 47 = .ok (.lreturn, 1) := by decide +kernel
theorem dX12_worked_48 : decode cX12_worked 48 = .ok (.aload_n 0, 1) := by decide +kernel
theorem dX12_worked_49 : decode cX12_worked 49 = .ok (.invokevirtual 233, 3) := by decide +kernel
theorem dX12_worked_52 : decode cX12_worked 52 = .ok (.iload_n 2, 1) := by decide +kernel
theorem dX12_worked_53 : decode cX12_worked 53 = .ok (.ifCond .ne 12, 3) := by decide +kernel
theorem dX12_worked_56 : decode cX12_worked 56 = .ok (.aload_n 0, 1) := by decide +kernel
theorem dX12_worked_57 : decode cX12_worked 57 = .ok (.getfield 28, 3) := by decide +kernel
theorem dX12_worked_60 : decode cX12_worked 60 = .ok (.iload_n 1, 1) := by decide +kernel
theorem dX12_worked_61 : decode cX12_worked 61 = .ok (.laload, 1) := by decide +kernel
theorem dX12_worked_62 : decode cX12_worked 62 = .ok (.goto 9, 3) := by decide +kernel
theorem dX12_worked_65 : decode cX12_worked 65 = .ok (.aload_n 0, 1) := by decide +kernel
theorem dX12_worked_66 : decode cX12_worked 66 = .ok (.getfield 32, 3) := by decide +kernel
theorem dX12_worked_69 : decode cX12_worked 69 = .ok (.iload_n 1, 1) := by decide +kernel
theorem dX12_worked_70 : decode cX12_worked 70 = .ok (.laload, 1) := by decide +kernel
theorem dX12_worked_71 : decode cX12_worked 71 = .ok (.lreturn, 1) := by decide +kernel
set_option maxRecDepth 10000 in
theorem NX12_worked_0 {d : Nat} {S : fW} {h : fH} {Q : Int64 → fH → Prop} {r0 : Nat} {x1 : Int32} {x2 : Int32} {r0_pad r0_text r0_number r0_span r0_now r0_sizeOf r0_workedTo r0_slip r0_exactUpper r0_exactLower r0_more r0_terms r0_order r0_bestOrder r0_low r0_high r0_built r0_better r0_base r0_kept r0_isKept : Nat}  
    (hs1 : (r0, shX12 r0_pad r0_text r0_number r0_span r0_now r0_sizeOf r0_workedTo r0_slip r0_exactUpper r0_exactLower r0_more r0_terms r0_order r0_bestOrder r0_low r0_high r0_built r0_better r0_base r0_kept r0_isKept) ∈ S)
    (hs2 : (r0_slip, shJ 13) ∈ S)
    (hs3 : (r0_workedTo, shJ 13) ∈ S)
    (w : ∃ Q1 : Int32 → fH → Prop, OkI d mX12_isStep S [.ref r0, .int x1] h Q1 ∧ ∀ (v_1 : Int32) (h_1 : fH), Q1 v_1 h_1 → ((¬ v_1 = 0 → ∃ Q2 : Int32 → fH → Prop, OkI d mX12_in S [.long x2.toInt64, .long (0 : Int64), .long (2 : Int64)] h_1 Q2 ∧ ∀ (v_2 : Int32) (h_2 : fH), Q2 v_2 h_2 → ((¬ v_2 = 0 → ∃ Q3 : fH → Prop, OkV d mX12_layText S [.ref r0] h_2 Q3 ∧ ∀ (h_3 : fH), Q3 h_3 → ((¬ x2 = (1 : Int32) → ∃ Q4 : fH → Prop, OkV d mX12_work S [.ref r0] h_3 Q4 ∧ ∀ (h_4 : fH), Q4 h_4 → ((¬ x2 = 0 → vp_in x1 13 ∧ Q (h_4.2.2.2 r0_slip x1.toNatClampNeg) h_4) ∧ (x2 = 0 → vp_in x1 13 ∧ Q (h_4.2.2.2 r0_workedTo x1.toNatClampNeg) h_4))) ∧ (x2 = (1 : Int32) → ∃ Q5 : fH → Prop, OkV d mX12_workExact S [.ref r0] h_3 Q5 ∧ ∀ (h_5 : fH), Q5 h_5 → ∃ Q6 : Int64 → fH → Prop, OkL d mX12_billionths S [.ref r0, .int x1, .int (-1 : Int32)] h_5 Q6 ∧ ∀ (v_6 : Int64) (h_6 : fH), Q6 v_6 h_6 → Q v_6 h_6))) ∧ (v_2 = 0 → Q (-1000000000000000002 : Int64) h_2))) ∧ (v_1 = 0 → Q (-1000000000000000001 : Int64) h_1))) :
    OkL (d + 1) mX12_worked S [.ref r0, .int x1, .int x2] h Q := by
  refine Ok.of (by decide) (Nat.le_of_ble_eq_true rfl) ?_
  refine G_aload_n 0 rfl dX12_worked_0 rfl ?_
  refine G_iload_n 1 rfl dX12_worked_1 rfl ?_
  obtain ⟨Q1, ok1, w⟩ := w
  refine G_callV (Z := mX12_isStep) (As := [.int x1]) (st := []) hL_X12_183 hI_X12_isStep hS_X12_isStep hC_X12_isStep hN_X12 nX12_isStep (by decide) hs1 rfl rfl rfl (Nat.le_of_ble_eq_true rfl) dX12_worked_2 ok1 (fun r_ h_1 z_ => ?_)
  obtain ⟨v_1, rfl, q_1⟩ := z_
  have w := w v_1 h_1 q_1
  refine G_if_ne (tgt := 12) dX12_worked_5 (by decide) (fun c1 => ?_) (fun c1 => ?_)
  · have w := w.1 c1
    refine G_iload_n 2 rfl dX12_worked_12 rfl ?_
    refine G_i2l dX12_worked_13 ?_
    refine G_lconst (v := 0) dX12_worked_14 (by decide) ?_
    refine G_ldc2 hK_X12_88 dX12_worked_15 ?_
    obtain ⟨Q2, ok2, w⟩ := w
    refine G_callS (Z := mX12_in) (As := [.long x2.toInt64, .long (0 : Int64), .long (2 : Int64)]) (st := []) hL_X12_82 hT_X12_in hC_X12_in hN_X12 nX12_in (by decide) rfl (Nat.le_of_ble_eq_true rfl) dX12_worked_18 ok2 (fun r_ h_2 z_ => ?_)
    obtain ⟨v_2, rfl, q_2⟩ := z_
    have w := w v_2 h_2 q_2
    refine G_if_ne (tgt := 28) dX12_worked_21 (by decide) (fun c2 => ?_) (fun c2 => ?_)
    · have w := w.1 c2
      refine G_aload_n 0 rfl dX12_worked_28 rfl ?_
      obtain ⟨Q3, ok3, w⟩ := w
      refine G_callV (Z := mX12_layText) (As := []) (st := []) hL_X12_223 hI_X12_layText hS_X12_layText hC_X12_layText hN_X12 nX12_layText (by decide) hs1 rfl rfl rfl (Nat.le_of_ble_eq_true rfl) dX12_worked_29 ok3 (fun r_ h_3 z_ => ?_)
      obtain ⟨rfl, q_3⟩ := z_
      have w := w h_3 q_3
      refine G_iload_n 2 rfl dX12_worked_32 rfl ?_
      refine G_iconst (v := 1) dX12_worked_33 (by decide) ?_
      refine G_icmp_ne (tgt := 48) dX12_worked_34 (by decide) (fun c3 => ?_) (fun c3 => ?_)
      · have w := w.1 c3
        refine G_aload_n 0 rfl dX12_worked_48 rfl ?_
        obtain ⟨Q4, ok4, w⟩ := w
        refine G_callV (Z := mX12_work) (As := []) (st := []) hL_X12_233 hI_X12_work hS_X12_work hC_X12_work hN_X12 nX12_work (by decide) hs1 rfl rfl rfl (Nat.le_of_ble_eq_true rfl) dX12_worked_49 ok4 (fun r_ h_4 z_ => ?_)
        obtain ⟨rfl, q_4⟩ := z_
        have w := w h_4 q_4
        refine G_iload_n 2 rfl dX12_worked_52 rfl ?_
        refine G_if_ne (tgt := 65) dX12_worked_53 (by decide) (fun c4 => ?_) (fun c4 => ?_)
        · have w := w.1 c4
          refine G_aload_n 0 rfl dX12_worked_65 rfl ?_
          refine G_getr (j := r0_slip) (k := 17) hs1 (q := (RX12, TX12, 40)) rfl inX12 (by decide) rfl hF_X12_32 dX12_worked_66 ?_
          refine G_iload_n 1 rfl dX12_worked_69 rfl ?_
          obtain ⟨sd1, w⟩ := w
          refine G_lald hs2 sd1 dX12_worked_70 ?_
          exact G_lret rfl dX12_worked_71 ⟨_, rfl, w⟩
        · have w := w.2 c4
          refine G_aload_n 0 rfl dX12_worked_56 rfl ?_
          refine G_getr (j := r0_workedTo) (k := 16) hs1 (q := (RX12, TX12, 40)) rfl inX12 (by decide) rfl hF_X12_28 dX12_worked_57 ?_
          refine G_iload_n 1 rfl dX12_worked_60 rfl ?_
          obtain ⟨sd1, w⟩ := w
          refine G_lald hs3 sd1 dX12_worked_61 ?_
          refine G_goto (tgt := 71) dX12_worked_62 (by decide) ?_
          exact G_lret rfl dX12_worked_71 ⟨_, rfl, w⟩
      · have w := w.2 c3
        refine G_aload_n 0 rfl dX12_worked_37 rfl ?_
        obtain ⟨Q5, ok5, w⟩ := w
        refine G_callV (Z := mX12_workExact) (As := []) (st := []) hL_X12_226 hI_X12_workExact hS_X12_workExact hC_X12_workExact hN_X12 nX12_workExact (by decide) hs1 rfl rfl rfl (Nat.le_of_ble_eq_true rfl) dX12_worked_38 ok5 (fun r_ h_5 z_ => ?_)
        obtain ⟨rfl, q_5⟩ := z_
        have w := w h_5 q_5
        refine G_aload_n 0 rfl dX12_worked_41 rfl ?_
        refine G_iload_n 1 rfl dX12_worked_42 rfl ?_
        refine G_iconst (v := -1) dX12_worked_43 (by decide) ?_
        obtain ⟨Q6, ok6, w⟩ := w
        refine G_callV (Z := mX12_billionths) (As := [.int x1, .int (-1 : Int32)]) (st := []) hL_X12_229 hI_X12_billionths hS_X12_billionths hC_X12_billionths hN_X12 nX12_billionths (by decide) hs1 rfl rfl rfl (Nat.le_of_ble_eq_true rfl) dX12_worked_44 ok6 (fun r_ h_6 z_ => ?_)
        obtain ⟨v_6, rfl, q_6⟩ := z_
        have w := w v_6 h_6 q_6
        exact G_lret rfl dX12_worked_47 ⟨_, rfl, w⟩
    · have w := w.2 c2
      refine G_ldc2 hK_X12_153 dX12_worked_24 ?_
      exact G_lret rfl dX12_worked_27 ⟨_, rfl, w⟩
  · have w := w.2 c1
    refine G_ldc2 hK_X12_221 dX12_worked_8 ?_
    exact G_lret rfl dX12_worked_11 ⟨_, rfl, w⟩
-- LostDigitsModel.exact
theorem dX12_exact_0 : decode cX12_exact 0 = .ok (.iload_n 1, 1) := by decide +kernel
theorem dX12_exact_1 : decode cX12_exact 1 = .ok (.invokestatic 134, 3) := by decide +kernel
theorem dX12_exact_4 : decode cX12_exact 4 = .ok (.ifCond .ne 7, 3) := by decide +kernel
theorem dX12_exact_7 : decode cX12_exact 7 = .ok (.ldc2_w 153, 3) := by decide +kernel
theorem dX12_exact_10 : decode cX12_exact 10 = .ok (.lreturn, 1) := by decide +kernel
theorem dX12_exact_11 : decode cX12_exact 11 = .ok (.aload_n 0, 1) := by decide +kernel
theorem dX12_exact_12 : decode cX12_exact 12 = .ok (.invokevirtual 223, 3) := by decide +kernel
theorem dX12_exact_15 : decode cX12_exact 15 = .ok (.aload_n 0, 1) := by decide +kernel
theorem dX12_exact_16 : decode cX12_exact 16 = .ok (.invokevirtual 226, 3) := by decide +kernel
theorem dX12_exact_19 : decode cX12_exact 19 = .ok (.aload_n 0, 1) := by decide +kernel
theorem dX12_exact_20 : decode cX12_exact 20 = .ok (.getfield 38, 3) := by decide +kernel
theorem dX12_exact_23 : decode cX12_exact 23 = .ok (.iconst 0, 1) := by decide +kernel
theorem dX12_exact_24 : decode cX12_exact 24 = .ok (.laload, 1) := by decide +kernel
theorem dX12_exact_25 : decode cX12_exact 25 = .ok (.lconst 0, 1) := by decide +kernel
theorem dX12_exact_26 : decode cX12_exact 26 = .ok (.lcmp, 1) := by decide +kernel
theorem dX12_exact_27 : decode cX12_exact 27 = .ok (.ifCond .ne 9, 3) := by decide +kernel
theorem dX12_exact_30 : decode cX12_exact 30 = .ok (.ldc2_w 94, 3) := by decide +kernel
theorem dX12_exact_33 : decode cX12_exact 33 = .ok (.goto 22, 3) := by decide +kernel
theorem dX12_exact_36 : decode cX12_exact 36 = .ok (.iload_n 1, 1) := by decide +kernel
theorem dX12_exact_37 : decode cX12_exact 37 = .ok (.ifCond .ne 12, 3) := by decide +kernel
theorem dX12_exact_40 : decode cX12_exact 40 = .ok (.aload_n 0, 1) := by decide +kernel
theorem dX12_exact_41 : decode cX12_exact 41 = .ok (.getfield 35, 3) := by decide +kernel
theorem dX12_exact_44 : decode cX12_exact 44 = .ok (.iconst 0, 1) := by decide +kernel
theorem dX12_exact_45 : decode cX12_exact 45 = .ok (.laload, 1) := by decide +kernel
theorem dX12_exact_46 : decode cX12_exact 46 = .ok (.goto 9, 3) := by decide +kernel
theorem dX12_exact_49 : decode cX12_exact 49 = .ok (.aload_n 0, 1) := by decide +kernel
theorem dX12_exact_50 : decode cX12_exact 50 = .ok (.getfield 38, 3) := by decide +kernel
theorem dX12_exact_53 : decode cX12_exact 53 = .ok (.iconst 0, 1) := by decide +kernel
theorem dX12_exact_54 : decode cX12_exact 54 = .ok (.laload, 1) := by decide +kernel
theorem dX12_exact_55 : decode cX12_exact 55 = .ok (.lreturn, 1) := by decide +kernel
set_option maxRecDepth 10000 in
theorem NX12_exact_0 {d : Nat} {S : fW} {h : fH} {Q : Int64 → fH → Prop} {r0 : Nat} {x1 : Int32} {r0_pad r0_text r0_number r0_span r0_now r0_sizeOf r0_workedTo r0_slip r0_exactUpper r0_exactLower r0_more r0_terms r0_order r0_bestOrder r0_low r0_high r0_built r0_better r0_base r0_kept r0_isKept : Nat}  
    (hs1 : (r0, shX12 r0_pad r0_text r0_number r0_span r0_now r0_sizeOf r0_workedTo r0_slip r0_exactUpper r0_exactLower r0_more r0_terms r0_order r0_bestOrder r0_low r0_high r0_built r0_better r0_base r0_kept r0_isKept) ∈ S)
    (hs2 : (r0_exactLower, shJ 13) ∈ S)
    (hs3 : (r0_exactUpper, shJ 13) ∈ S)
    (w : ∃ Q1 : Int32 → fH → Prop, OkI d mX12_isEnd S [.int x1] h Q1 ∧ ∀ (v_1 : Int32) (h_1 : fH), Q1 v_1 h_1 → ((¬ v_1 = 0 → ∃ Q2 : fH → Prop, OkV d mX12_layText S [.ref r0] h_1 Q2 ∧ ∀ (h_2 : fH), Q2 h_2 → ∃ Q3 : fH → Prop, OkV d mX12_workExact S [.ref r0] h_2 Q3 ∧ ∀ (h_3 : fH), Q3 h_3 → vp_in (0 : Int32) 13 ∧ ((¬ (h_3.2.2.2 r0_exactLower (0 : Int32).toNatClampNeg) = (0 : Int64) → ((¬ x1 = 0 → Q (h_3.2.2.2 r0_exactLower (0 : Int32).toNatClampNeg) h_3) ∧ (x1 = 0 → Q (h_3.2.2.2 r0_exactUpper (0 : Int32).toNatClampNeg) h_3))) ∧ ((h_3.2.2.2 r0_exactLower (0 : Int32).toNatClampNeg) = (0 : Int64) → Q (1000000000000000000 : Int64) h_3))) ∧ (v_1 = 0 → Q (-1000000000000000002 : Int64) h_1))) :
    OkL (d + 1) mX12_exact S [.ref r0, .int x1] h Q := by
  refine Ok.of (by decide) (Nat.le_of_ble_eq_true rfl) ?_
  refine G_iload_n 1 rfl dX12_exact_0 rfl ?_
  obtain ⟨Q1, ok1, w⟩ := w
  refine G_callS (Z := mX12_isEnd) (As := [.int x1]) (st := []) hL_X12_134 hT_X12_isEnd hC_X12_isEnd hN_X12 nX12_isEnd (by decide) rfl (Nat.le_of_ble_eq_true rfl) dX12_exact_1 ok1 (fun r_ h_1 z_ => ?_)
  obtain ⟨v_1, rfl, q_1⟩ := z_
  have w := w v_1 h_1 q_1
  refine G_if_ne (tgt := 11) dX12_exact_4 (by decide) (fun c1 => ?_) (fun c1 => ?_)
  · have w := w.1 c1
    refine G_aload_n 0 rfl dX12_exact_11 rfl ?_
    obtain ⟨Q2, ok2, w⟩ := w
    refine G_callV (Z := mX12_layText) (As := []) (st := []) hL_X12_223 hI_X12_layText hS_X12_layText hC_X12_layText hN_X12 nX12_layText (by decide) hs1 rfl rfl rfl (Nat.le_of_ble_eq_true rfl) dX12_exact_12 ok2 (fun r_ h_2 z_ => ?_)
    obtain ⟨rfl, q_2⟩ := z_
    have w := w h_2 q_2
    refine G_aload_n 0 rfl dX12_exact_15 rfl ?_
    obtain ⟨Q3, ok3, w⟩ := w
    refine G_callV (Z := mX12_workExact) (As := []) (st := []) hL_X12_226 hI_X12_workExact hS_X12_workExact hC_X12_workExact hN_X12 nX12_workExact (by decide) hs1 rfl rfl rfl (Nat.le_of_ble_eq_true rfl) dX12_exact_16 ok3 (fun r_ h_3 z_ => ?_)
    obtain ⟨rfl, q_3⟩ := z_
    have w := w h_3 q_3
    refine G_aload_n 0 rfl dX12_exact_19 rfl ?_
    refine G_getr (j := r0_exactLower) (k := 19) hs1 (q := (RX12, TX12, 40)) rfl inX12 (by decide) rfl hF_X12_38 dX12_exact_20 ?_
    refine G_iconst (v := 0) dX12_exact_23 (by decide) ?_
    obtain ⟨sd1, w⟩ := w
    refine G_lald hs2 sd1 dX12_exact_24 ?_
    refine G_lconst (v := 0) dX12_exact_25 (by decide) ?_
    refine G_lif_ne (tgt := 36) dX12_exact_26 dX12_exact_27 (by decide) (fun c2 => ?_) (fun c2 => ?_)
    · have w := w.1 c2
      refine G_iload_n 1 rfl dX12_exact_36 rfl ?_
      refine G_if_ne (tgt := 49) dX12_exact_37 (by decide) (fun c3 => ?_) (fun c3 => ?_)
      · have w := w.1 c3
        refine G_aload_n 0 rfl dX12_exact_49 rfl ?_
        refine G_getr (j := r0_exactLower) (k := 19) hs1 (q := (RX12, TX12, 40)) rfl inX12 (by decide) rfl hF_X12_38 dX12_exact_50 ?_
        refine G_iconst (v := 0) dX12_exact_53 (by decide) ?_
        refine G_lald hs2 sd1 dX12_exact_54 ?_
        exact G_lret rfl dX12_exact_55 ⟨_, rfl, w⟩
      · have w := w.2 c3
        refine G_aload_n 0 rfl dX12_exact_40 rfl ?_
        refine G_getr (j := r0_exactUpper) (k := 18) hs1 (q := (RX12, TX12, 40)) rfl inX12 (by decide) rfl hF_X12_35 dX12_exact_41 ?_
        refine G_iconst (v := 0) dX12_exact_44 (by decide) ?_
        refine G_lald hs3 sd1 dX12_exact_45 ?_
        refine G_goto (tgt := 55) dX12_exact_46 (by decide) ?_
        exact G_lret rfl dX12_exact_55 ⟨_, rfl, w⟩
    · have w := w.2 c2
      refine G_ldc2 hK_X12_94 dX12_exact_30 ?_
      refine G_goto (tgt := 55) dX12_exact_33 (by decide) ?_
      exact G_lret rfl dX12_exact_55 ⟨_, rfl, w⟩
  · have w := w.2 c1
    refine G_ldc2 hK_X12_153 dX12_exact_7 ?_
    exact G_lret rfl dX12_exact_10 ⟨_, rfl, w⟩
-- LostDigitsModel.lossNow
theorem dX12_lossNow_0 : decode cX12_lossNow 0 = .ok (.aload_n 0, 1) := by decide +kernel
theorem dX12_lossNow_1 : decode cX12_lossNow 1 = .ok (.invokevirtual 233, 3) := by decide +kernel
theorem dX12_lossNow_4 : decode cX12_lossNow 4 = .ok (.aload_n 0, 1) := by decide +kernel
theorem dX12_lossNow_5 : decode cX12_lossNow 5 = .ok (.getfield 28, 3) := by decide +kernel
theorem dX12_lossNow_8 : decode cX12_lossNow 8 = .ok (.iconst 0, 1) := by decide +kernel
theorem dX12_lossNow_9 : decode cX12_lossNow 9 = .ok (.laload, 1) := by decide +kernel
theorem dX12_lossNow_10 : decode cX12_lossNow 10 = .ok (.lstore_n 1, 1) := by decide +kernel
theorem dX12_lossNow_11 : decode cX12_lossNow 11 = .ok (.aload_n 0, 1) := by decide +kernel
theorem dX12_lossNow_12 : decode cX12_lossNow 12 = .ok (.invokevirtual 226, 3) := by decide +kernel
theorem dX12_lossNow_15 : decode cX12_lossNow 15 = .ok (.lload_n 1, 1) := by decide +kernel
theorem dX12_lossNow_16 : decode cX12_lossNow 16 = .ok (.aload_n 0, 1) := by decide +kernel
theorem dX12_lossNow_17 : decode cX12_lossNow 17 = .ok (.iconst 0, 1) := by decide +kernel
theorem dX12_lossNow_18 : decode cX12_lossNow 18 = .ok (.iconst (-1), 1) := by decide +kernel
theorem dX12_lossNow_19 : decode cX12_lossNow 19 = .ok (.invokevirtual 229, 3) := by decide +kernel
theorem dX12_lossNow_22 : decode cX12_lossNow 22 = .ok (.invokestatic 236, 3) := by decide +kernel
theorem dX12_lossNow_25 : decode cX12_lossNow 25 = .ok (.lreturn, 1) := by decide +kernel
set_option maxRecDepth 10000 in
theorem NX12_lossNow_0 {d : Nat} {S : fW} {h : fH} {Q : Int64 → fH → Prop} {r0 : Nat} {r0_pad r0_text r0_number r0_span r0_now r0_sizeOf r0_workedTo r0_slip r0_exactUpper r0_exactLower r0_more r0_terms r0_order r0_bestOrder r0_low r0_high r0_built r0_better r0_base r0_kept r0_isKept : Nat}  
    (hs1 : (r0, shX12 r0_pad r0_text r0_number r0_span r0_now r0_sizeOf r0_workedTo r0_slip r0_exactUpper r0_exactLower r0_more r0_terms r0_order r0_bestOrder r0_low r0_high r0_built r0_better r0_base r0_kept r0_isKept) ∈ S)
    (hs2 : (r0_workedTo, shJ 13) ∈ S)
    (w : ∃ Q1 : fH → Prop, OkV d mX12_work S [.ref r0] h Q1 ∧ ∀ (h_1 : fH), Q1 h_1 → vp_in (0 : Int32) 13 ∧ ∃ Q2 : fH → Prop, OkV d mX12_workExact S [.ref r0] h_1 Q2 ∧ ∀ (h_2 : fH), Q2 h_2 → ∃ Q3 : Int64 → fH → Prop, OkL d mX12_billionths S [.ref r0, .int (0 : Int32), .int (-1 : Int32)] h_2 Q3 ∧ ∀ (v_3 : Int64) (h_3 : fH), Q3 v_3 h_3 → ∃ Q4 : Int64 → fH → Prop, OkL d mX12_less S [.long (h_1.2.2.2 r0_workedTo (0 : Int32).toNatClampNeg), .long v_3] h_3 Q4 ∧ ∀ (v_4 : Int64) (h_4 : fH), Q4 v_4 h_4 → Q v_4 h_4) :
    OkL (d + 1) mX12_lossNow S [.ref r0] h Q := by
  refine Ok.of (by decide) (Nat.le_of_ble_eq_true rfl) ?_
  refine G_aload_n 0 rfl dX12_lossNow_0 rfl ?_
  obtain ⟨Q1, ok1, w⟩ := w
  refine G_callV (Z := mX12_work) (As := []) (st := []) hL_X12_233 hI_X12_work hS_X12_work hC_X12_work hN_X12 nX12_work (by decide) hs1 rfl rfl rfl (Nat.le_of_ble_eq_true rfl) dX12_lossNow_1 ok1 (fun r_ h_1 z_ => ?_)
  obtain ⟨rfl, q_1⟩ := z_
  have w := w h_1 q_1
  refine G_aload_n 0 rfl dX12_lossNow_4 rfl ?_
  refine G_getr (j := r0_workedTo) (k := 16) hs1 (q := (RX12, TX12, 40)) rfl inX12 (by decide) rfl hF_X12_28 dX12_lossNow_5 ?_
  refine G_iconst (v := 0) dX12_lossNow_8 (by decide) ?_
  obtain ⟨sd1, w⟩ := w
  refine G_lald hs2 sd1 dX12_lossNow_9 ?_
  refine G_lstore_n dX12_lossNow_10 rfl (by decide) (lv' := [(1, .long (h_1.2.2.2 r0_workedTo (0 : Int32).toNatClampNeg)), (0, .ref r0)]) rfl ?_
  refine G_aload_n 1 rfl dX12_lossNow_11 rfl ?_
  obtain ⟨Q2, ok2, w⟩ := w
  refine G_callV (Z := mX12_workExact) (As := []) (st := []) hL_X12_226 hI_X12_workExact hS_X12_workExact hC_X12_workExact hN_X12 nX12_workExact (by decide) hs1 rfl rfl rfl (Nat.le_of_ble_eq_true rfl) dX12_lossNow_12 ok2 (fun r_ h_2 z_ => ?_)
  obtain ⟨rfl, q_2⟩ := z_
  have w := w h_2 q_2
  refine G_lload_n 0 rfl dX12_lossNow_15 rfl ?_
  refine G_aload_n 1 rfl dX12_lossNow_16 rfl ?_
  refine G_iconst (v := 0) dX12_lossNow_17 (by decide) ?_
  refine G_iconst (v := -1) dX12_lossNow_18 (by decide) ?_
  obtain ⟨Q3, ok3, w⟩ := w
  refine G_callV (Z := mX12_billionths) (As := [.int (0 : Int32), .int (-1 : Int32)]) (st := [.long (h_1.2.2.2 r0_workedTo (0 : Int32).toNatClampNeg)]) hL_X12_229 hI_X12_billionths hS_X12_billionths hC_X12_billionths hN_X12 nX12_billionths (by decide) hs1 rfl rfl rfl (Nat.le_of_ble_eq_true rfl) dX12_lossNow_19 ok3 (fun r_ h_3 z_ => ?_)
  obtain ⟨v_3, rfl, q_3⟩ := z_
  have w := w v_3 h_3 q_3
  obtain ⟨Q4, ok4, w⟩ := w
  refine G_callS (Z := mX12_less) (As := [.long (h_1.2.2.2 r0_workedTo (0 : Int32).toNatClampNeg), .long v_3]) (st := []) hL_X12_236 hT_X12_less hC_X12_less hN_X12 nX12_less (by decide) rfl (Nat.le_of_ble_eq_true rfl) dX12_lossNow_22 ok4 (fun r_ h_4 z_ => ?_)
  obtain ⟨v_4, rfl, q_4⟩ := z_
  have w := w v_4 h_4 q_4
  exact G_lret rfl dX12_lossNow_25 ⟨_, rfl, w⟩
-- LostDigitsModel.loss
theorem dX12_loss_0 : decode cX12_loss 0 = .ok (.aload_n 0, 1) := by decide +kernel
theorem dX12_loss_1 : decode cX12_loss 1 = .ok (.invokevirtual 223, 3) := by decide +kernel
theorem dX12_loss_4 : decode cX12_loss 4 = .ok (.aload_n 0, 1) := by decide +kernel
theorem dX12_loss_5 : decode cX12_loss 5 = .ok (.invokevirtual 239, 3) := by decide +kernel
theorem dX12_loss_8 : decode cX12_loss 8 = .ok (.lreturn, 1) := by decide +kernel
set_option maxRecDepth 10000 in
theorem NX12_loss_0 {d : Nat} {S : fW} {h : fH} {Q : Int64 → fH → Prop} {r0 : Nat} {r0_pad r0_text r0_number r0_span r0_now r0_sizeOf r0_workedTo r0_slip r0_exactUpper r0_exactLower r0_more r0_terms r0_order r0_bestOrder r0_low r0_high r0_built r0_better r0_base r0_kept r0_isKept : Nat}  
    (hs1 : (r0, shX12 r0_pad r0_text r0_number r0_span r0_now r0_sizeOf r0_workedTo r0_slip r0_exactUpper r0_exactLower r0_more r0_terms r0_order r0_bestOrder r0_low r0_high r0_built r0_better r0_base r0_kept r0_isKept) ∈ S)
    (w : ∃ Q1 : fH → Prop, OkV d mX12_layText S [.ref r0] h Q1 ∧ ∀ (h_1 : fH), Q1 h_1 → ∃ Q2 : Int64 → fH → Prop, OkL d mX12_lossNow S [.ref r0] h_1 Q2 ∧ ∀ (v_2 : Int64) (h_2 : fH), Q2 v_2 h_2 → Q v_2 h_2) :
    OkL (d + 1) mX12_loss S [.ref r0] h Q := by
  refine Ok.of (by decide) (Nat.le_of_ble_eq_true rfl) ?_
  refine G_aload_n 0 rfl dX12_loss_0 rfl ?_
  obtain ⟨Q1, ok1, w⟩ := w
  refine G_callV (Z := mX12_layText) (As := []) (st := []) hL_X12_223 hI_X12_layText hS_X12_layText hC_X12_layText hN_X12 nX12_layText (by decide) hs1 rfl rfl rfl (Nat.le_of_ble_eq_true rfl) dX12_loss_1 ok1 (fun r_ h_1 z_ => ?_)
  obtain ⟨rfl, q_1⟩ := z_
  have w := w h_1 q_1
  refine G_aload_n 0 rfl dX12_loss_4 rfl ?_
  obtain ⟨Q2, ok2, w⟩ := w
  refine G_callV (Z := mX12_lossNow) (As := []) (st := []) hL_X12_239 hI_X12_lossNow hS_X12_lossNow hC_X12_lossNow hN_X12 nX12_lossNow (by decide) hs1 rfl rfl rfl (Nat.le_of_ble_eq_true rfl) dX12_loss_5 ok2 (fun r_ h_2 z_ => ?_)
  obtain ⟨v_2, rfl, q_2⟩ := z_
  have w := w v_2 h_2 q_2
  exact G_lret rfl dX12_loss_8 ⟨_, rfl, w⟩
-- LostDigitsModel.worst
theorem dX12_worst_0 : decode cX12_worst 0 = .ok (.aload_n 0, 1) := by decide +kernel
theorem dX12_worst_1 : decode cX12_worst 1 = .ok (.invokevirtual 223, 3) := by decide +kernel
theorem dX12_worst_4 : decode cX12_worst 4 = .ok (.aload_n 0, 1) := by decide +kernel
theorem dX12_worst_5 : decode cX12_worst 5 = .ok (.invokevirtual 233, 3) := by decide +kernel
theorem dX12_worst_8 : decode cX12_worst 8 = .ok (.aload_n 0, 1) := by decide +kernel
theorem dX12_worst_9 : decode cX12_worst 9 = .ok (.getfield 28, 3) := by decide +kernel
theorem dX12_worst_12 : decode cX12_worst 12 = .ok (.iconst 0, 1) := by decide +kernel
theorem dX12_worst_13 : decode cX12_worst 13 = .ok (.laload, 1) := by decide +kernel
theorem dX12_worst_14 : decode cX12_worst 14 = .ok (.ldc2_w 94, 3) := by decide +kernel
theorem dX12_worst_17 : decode cX12_worst 17 = .ok (.lcmp, 1) := by decide +kernel
theorem dX12_worst_18 : decode cX12_worst 18 = .ok (.ifCond .ne 6, 3) := by decide +kernel
theorem dX12_worst_21 : decode cX12_worst 21 = .ok (.bipush (-3), 2) := by decide +kernel
theorem dX12_worst_23 : decode cX12_worst 23 = .ok (.ireturn, 1) := by decide +kernel
theorem dX12_worst_24 : decode cX12_worst 24 = .ok (.bipush (-6), 2) := by decide +kernel
theorem dX12_worst_26 : decode cX12_worst 26 = .ok (.istore_n 1, 1) := by decide +kernel
theorem dX12_worst_27 : decode cX12_worst 27 = .ok (.lconst 0, 1) := by decide +kernel
theorem dX12_worst_28 : decode cX12_worst 28 = .ok (.lstore_n 2, 1) := by decide +kernel
theorem dX12_worst_29 : decode cX12_worst 29 = .ok (.iconst 0, 1) := by decide +kernel
theorem dX12_worst_30 : decode cX12_worst 30 = .ok (.istore 4, 2) := by decide +kernel
theorem dX12_worst_32 : decode cX12_worst 32 = .ok (.iload 4, 2) := by decide +kernel
theorem dX12_worst_34 : decode cX12_worst 34 = .ok (.aload_n 0, 1) := by decide +kernel
theorem dX12_worst_35 : decode cX12_worst 35 = .ok (.getfield 192, 3) := by decide +kernel
theorem dX12_worst_38 : decode cX12_worst 38 = .ok (.if_icmp .ge 38, 3) := by decide +kernel
theorem dX12_worst_41 : decode cX12_worst 41 = .ok (.aload_n 0, 1) := by decide +kernel
theorem dX12_worst_42 : decode cX12_worst 42 = .ok (.getfield 32, 3) := by decide +kernel
theorem dX12_worst_45 : decode cX12_worst 45 = .ok (.iload 4, 2) := by decide +kernel
theorem dX12_worst_47 : decode cX12_worst 47 = .ok (.laload, 1) := by decide +kernel
theorem dX12_worst_48 : decode cX12_worst 48 = .ok (.invokestatic 98, 3) := by decide +kernel
theorem dX12_worst_51 : decode cX12_worst 51 = .ok (.lload_n 2, 1) := by decide +kernel
theorem dX12_worst_52 : decode cX12_worst 52 = .ok (.lcmp, 1) := by decide +kernel
theorem dX12_worst_53 : decode cX12_worst 53 = .ok (.ifCond .le 17, 3) := by decide +kernel
theorem dX12_worst_56 : decode cX12_worst 56 = .ok (.iload 4, 2) := by decide +kernel
theorem dX12_worst_58 : decode cX12_worst 58 = .ok (.istore_n 1, 1) := by decide +kernel
theorem dX12_worst_59 : decode cX12_worst 59 = .ok (.aload_n 0, 1) := by decide +kernel
theorem dX12_worst_60 : decode cX12_worst 60 = .ok (.getfield 32, 3) := by decide +kernel
theorem dX12_worst_63 : decode cX12_worst 63 = .ok (.iload 4, 2) := by decide +kernel
theorem dX12_worst_65 : decode cX12_worst 65 = .ok (.laload, 1) := by decide +kernel
theorem dX12_worst_66 : decode cX12_worst 66 = .ok (.invokestatic 98, 3) := by decide +kernel
theorem dX12_worst_69 : decode cX12_worst 69 = .ok (.lstore_n 2, 1) := by decide +kernel
theorem dX12_worst_70 : decode cX12_worst 70 = .ok (.iinc 4 1, 3) := by decide +kernel
theorem dX12_worst_73 : decode cX12_worst 73 = .ok (.goto (-41), 3) := by decide +kernel
theorem dX12_worst_76 : decode cX12_worst 76 = .ok (.iload_n 1, 1) := by decide +kernel
theorem dX12_worst_77 : decode cX12_worst 77 = .ok (.ireturn, 1) := by decide +kernel
set_option maxRecDepth 10000 in
theorem NX12_worst_0 {d : Nat} {S : fW} {h : fH} {Q : Int32 → fH → Prop} {r0 : Nat} {r0_pad r0_text r0_number r0_span r0_now r0_sizeOf r0_workedTo r0_slip r0_exactUpper r0_exactLower r0_more r0_terms r0_order r0_bestOrder r0_low r0_high r0_built r0_better r0_base r0_kept r0_isKept : Nat}  
    (hs1 : (r0, shX12 r0_pad r0_text r0_number r0_span r0_now r0_sizeOf r0_workedTo r0_slip r0_exactUpper r0_exactLower r0_more r0_terms r0_order r0_bestOrder r0_low r0_high r0_built r0_better r0_base r0_kept r0_isKept) ∈ S)
    (hs2 : (r0_workedTo, shJ 13) ∈ S)
    (w : ∃ Q1 : fH → Prop, OkV d mX12_layText S [.ref r0] h Q1 ∧ ∀ (h_1 : fH), Q1 h_1 → ∃ Q2 : fH → Prop, OkV d mX12_work S [.ref r0] h_1 Q2 ∧ ∀ (h_2 : fH), Q2 h_2 → vp_in (0 : Int32) 13 ∧ ((¬ (h_2.2.2.2 r0_workedTo (0 : Int32).toNatClampNeg) = (1000000000000000000 : Int64) → G mX12_worst (d + 1) S (f_PI Q) 32 [(0, .ref r0), (1, .int (-6 : Int32)), (2, .long (0 : Int64)), (4, .int (0 : Int32))] [] h_2) ∧ ((h_2.2.2.2 r0_workedTo (0 : Int32).toNatClampNeg) = (1000000000000000000 : Int64) → Q (-3 : Int32) h_2))) :
    OkI (d + 1) mX12_worst S [.ref r0] h Q := by
  refine Ok.of (by decide) (Nat.le_of_ble_eq_true rfl) ?_
  refine G_aload_n 0 rfl dX12_worst_0 rfl ?_
  obtain ⟨Q1, ok1, w⟩ := w
  refine G_callV (Z := mX12_layText) (As := []) (st := []) hL_X12_223 hI_X12_layText hS_X12_layText hC_X12_layText hN_X12 nX12_layText (by decide) hs1 rfl rfl rfl (Nat.le_of_ble_eq_true rfl) dX12_worst_1 ok1 (fun r_ h_1 z_ => ?_)
  obtain ⟨rfl, q_1⟩ := z_
  have w := w h_1 q_1
  refine G_aload_n 0 rfl dX12_worst_4 rfl ?_
  obtain ⟨Q2, ok2, w⟩ := w
  refine G_callV (Z := mX12_work) (As := []) (st := []) hL_X12_233 hI_X12_work hS_X12_work hC_X12_work hN_X12 nX12_work (by decide) hs1 rfl rfl rfl (Nat.le_of_ble_eq_true rfl) dX12_worst_5 ok2 (fun r_ h_2 z_ => ?_)
  obtain ⟨rfl, q_2⟩ := z_
  have w := w h_2 q_2
  refine G_aload_n 0 rfl dX12_worst_8 rfl ?_
  refine G_getr (j := r0_workedTo) (k := 16) hs1 (q := (RX12, TX12, 40)) rfl inX12 (by decide) rfl hF_X12_28 dX12_worst_9 ?_
  refine G_iconst (v := 0) dX12_worst_12 (by decide) ?_
  obtain ⟨sd1, w⟩ := w
  refine G_lald hs2 sd1 dX12_worst_13 ?_
  refine G_ldc2 hK_X12_94 dX12_worst_14 ?_
  refine G_lif_ne (tgt := 24) dX12_worst_17 dX12_worst_18 (by decide) (fun c1 => ?_) (fun c1 => ?_)
  · have w := w.1 c1
    refine G_bipush (v := -6) dX12_worst_24 (by decide) ?_
    refine G_istore_n dX12_worst_26 rfl (by decide) (lv' := [(1, .int (-6 : Int32)), (0, .ref r0)]) rfl ?_
    refine G_lconst (v := 0) dX12_worst_27 (by decide) ?_
    refine G_lstore_n dX12_worst_28 rfl (by decide) (lv' := [(2, .long (0 : Int64)), (1, .int (-6 : Int32)), (0, .ref r0)]) rfl ?_
    refine G_iconst (v := 0) dX12_worst_29 (by decide) ?_
    refine G_istore dX12_worst_30 (by decide) (lv' := [(4, .int (0 : Int32)), (2, .long (0 : Int64)), (1, .int (-6 : Int32)), (0, .ref r0)]) rfl ?_
    exact G_sub [3, 2, 1, 0] rfl w
  · have w := w.2 c1
    refine G_bipush (v := -3) dX12_worst_21 (by decide) ?_
    exact G_iret rfl dX12_worst_23 ⟨_, rfl, w⟩

set_option maxRecDepth 10000 in
theorem NX12_worst_32 {d : Nat} {S : fW} {h : fH} {Q : Int32 → fH → Prop} {r0 : Nat} {x1 : Int32} {x2 : Int64} {x4 : Int32} {r0_pad r0_text r0_number r0_span r0_now r0_sizeOf r0_workedTo r0_slip r0_exactUpper r0_exactLower r0_more r0_terms r0_order r0_bestOrder r0_low r0_high r0_built r0_better r0_base r0_kept r0_isKept : Nat}  
    (hs1 : (r0, shX12 r0_pad r0_text r0_number r0_span r0_now r0_sizeOf r0_workedTo r0_slip r0_exactUpper r0_exactLower r0_more r0_terms r0_order r0_bestOrder r0_low r0_high r0_built r0_better r0_base r0_kept r0_isKept) ∈ S)
    (hs2 : (r0_slip, shJ 13) ∈ S)
    (w : (((h.1 r0 14) ≤ x4 → Q x1 h) ∧ (¬ (h.1 r0 14) ≤ x4 → vp_in x4 13 ∧ ∃ Q1 : Int64 → fH → Prop, OkL d mX12_size S [.long (h.2.2.2 r0_slip x4.toNatClampNeg)] h Q1 ∧ ∀ (v_1 : Int64) (h_1 : fH), Q1 v_1 h_1 → ((v_1 ≤ x2 → G mX12_worst (d + 1) S (f_PI Q) 32 [(0, .ref r0), (1, .int x1), (2, .long x2), (4, .int (x4 + 1))] [] h_1) ∧ (¬ v_1 ≤ x2 → ∃ Q2 : Int64 → fH → Prop, OkL d mX12_size S [.long (h_1.2.2.2 r0_slip x4.toNatClampNeg)] h_1 Q2 ∧ ∀ (v_2 : Int64) (h_2 : fH), Q2 v_2 h_2 → G mX12_worst (d + 1) S (f_PI Q) 32 [(0, .ref r0), (1, .int x4), (2, .long v_2), (4, .int (x4 + 1))] [] h_2))))) :
    G mX12_worst (d + 1) S (f_PI Q) 32 [(0, .ref r0), (1, .int x1), (2, .long x2), (4, .int x4)] [] h := by
  refine G_iload 3 rfl dX12_worst_32 ?_
  refine G_aload_n 0 rfl dX12_worst_34 rfl ?_
  refine G_geti (k := 14) hs1 (q := (RX12, TX12, 40)) rfl inX12 (by decide) (Or.inl rfl) hF_X12_192 dX12_worst_35 ?_
  refine G_icmp_ge (tgt := 76) dX12_worst_38 (by decide) (fun c1 => ?_) (fun c1 => ?_)
  · have w := w.1 c1
    refine G_iload_n 1 rfl dX12_worst_76 rfl ?_
    exact G_iret rfl dX12_worst_77 ⟨_, rfl, w⟩
  · have w := w.2 c1
    refine G_aload_n 0 rfl dX12_worst_41 rfl ?_
    refine G_getr (j := r0_slip) (k := 17) hs1 (q := (RX12, TX12, 40)) rfl inX12 (by decide) rfl hF_X12_32 dX12_worst_42 ?_
    refine G_iload 3 rfl dX12_worst_45 ?_
    obtain ⟨sd1, w⟩ := w
    refine G_lald hs2 sd1 dX12_worst_47 ?_
    obtain ⟨Q1, ok1, w⟩ := w
    refine G_callS (Z := mX12_size) (As := [.long (h.2.2.2 r0_slip x4.toNatClampNeg)]) (st := []) hL_X12_98 hT_X12_size hC_X12_size hN_X12 nX12_size (by decide) rfl (Nat.le_of_ble_eq_true rfl) dX12_worst_48 ok1 (fun r_ h_1 z_ => ?_)
    obtain ⟨v_1, rfl, q_1⟩ := z_
    have w := w v_1 h_1 q_1
    refine G_lload_n 2 rfl dX12_worst_51 rfl ?_
    refine G_lif_le (tgt := 70) dX12_worst_52 dX12_worst_53 (by decide) (fun c2 => ?_) (fun c2 => ?_)
    · have w := w.1 c2
      refine G_iinc (v := 1) 3 rfl dX12_worst_70 (by decide) (by decide) (lv' := [(4, .int (x4 + 1)), (0, .ref r0), (1, .int x1), (2, .long x2)]) rfl ?_
      refine G_goto (tgt := 32) dX12_worst_73 (by decide) ?_
      exact G_sub [1, 2, 3, 0] rfl w
    · have w := w.2 c2
      refine G_iload 3 rfl dX12_worst_56 ?_
      refine G_istore_n dX12_worst_58 rfl (by decide) (lv' := [(1, .int x4), (0, .ref r0), (2, .long x2), (4, .int x4)]) rfl ?_
      refine G_aload_n 1 rfl dX12_worst_59 rfl ?_
      refine G_getr (j := r0_slip) (k := 17) hs1 (q := (RX12, TX12, 40)) rfl inX12 (by decide) rfl hF_X12_32 dX12_worst_60 ?_
      refine G_iload 3 rfl dX12_worst_63 ?_
      refine G_lald hs2 sd1 dX12_worst_65 ?_
      obtain ⟨Q2, ok2, w⟩ := w
      refine G_callS (Z := mX12_size) (As := [.long (h_1.2.2.2 r0_slip x4.toNatClampNeg)]) (st := []) hL_X12_98 hT_X12_size hC_X12_size hN_X12 nX12_size (by decide) rfl (Nat.le_of_ble_eq_true rfl) dX12_worst_66 ok2 (fun r_ h_2 z_ => ?_)
      obtain ⟨v_2, rfl, q_2⟩ := z_
      have w := w v_2 h_2 q_2
      refine G_lstore_n dX12_worst_69 rfl (by decide) (lv' := [(2, .long v_2), (1, .int x4), (0, .ref r0), (4, .int x4)]) rfl ?_
      refine G_iinc (v := 1) 3 rfl dX12_worst_70 (by decide) (by decide) (lv' := [(4, .int (x4 + 1)), (2, .long v_2), (1, .int x4), (0, .ref r0)]) rfl ?_
      refine G_goto (tgt := 32) dX12_worst_73 (by decide) ?_
      exact G_sub [3, 2, 1, 0] rfl w
-- LostDigitsModel.needs
theorem dX12_needs_0 : decode cX12_needs 0 = .ok (.lload_n 1, 1) := by decide +kernel
theorem dX12_needs_1 : decode cX12_needs 1 = .ok (.lconst 0, 1) := by decide +kernel
theorem dX12_needs_2 : decode cX12_needs 2 = .ok (.lcmp, 1) := by decide +kernel
theorem dX12_needs_3 : decode cX12_needs 3 = .ok (.ifCond .ge 6, 3) := by decide +kernel
theorem dX12_needs_6 : decode cX12_needs 6 = .ok (.bipush (-2), 2) := by decide +kernel
theorem dX12_needs_8 : decode cX12_needs 8 = .ok (.ireturn, 1) := by decide +kernel
theorem dX12_needs_9 : decode cX12_needs 9 = .ok (.aload_n 0, 1) := by decide +kernel
theorem dX12_needs_10 : decode cX12_needs 10 = .ok (.getfield 75, 3) := by decide +kernel
theorem dX12_needs_13 : decode cX12_needs 13 = .ok (.istore_n 3, 1) := by decide +kernel
theorem dX12_needs_14 : decode cX12_needs 14 = .ok (.bipush (-6), 2) := by decide +kernel
theorem dX12_needs_16 : decode cX12_needs 16 = .ok (.istore 4, 2) := by decide +kernel
theorem dX12_needs_18 : decode cX12_needs 18 = .ok (.aload_n 0, 1) := by decide +kernel
theorem dX12_needs_19 : decode cX12_needs 19 = .ok (.invokevirtual 223, 3) := by decide +kernel
theorem dX12_needs_22 : decode cX12_needs 22 = .ok (.iconst 1, 1) := by decide +kernel
theorem dX12_needs_23 : decode cX12_needs 23 = .ok (.istore 5, 2) := by decide +kernel
theorem dX12_needs_25 : decode cX12_needs 25 = .ok (.iload 5, 2) := by decide +kernel
theorem dX12_needs_27 : decode cX12_needs 27 = .ok (.iconst 4, 1) := by decide +kernel
theorem dX12_needs_28 : decode cX12_needs 28 = .ok (.if_icmp .gt 54, 3) := by decide +kernel
theorem dX12_needs_31 : decode cX12_needs 31 = .ok (.iload 4, 2) := by decide +kernel
theorem dX12_needs_33 : decode cX12_needs 33 = .ok (.ifCond .ge 49, 3) := by decide +kernel
theorem dX12_needs_36 : decode cX12_needs 36 = .ok (.aload_n 0, 1) := by decide +kernel
theorem dX12_needs_37 : decode cX12_needs 37 = .ok (.iload 5, 2) := by decide +kernel
theorem dX12_needs_39 : decode cX12_needs 39 = .ok (.putfield 75, 3) := by decide +kernel
theorem dX12_needs_42 : decode cX12_needs 42 = .ok (.aload_n 0, 1) := by decide +kernel
theorem dX12_needs_43 : decode cX12_needs 43 = .ok (.invokevirtual 239, 3) := by decide +kernel
theorem dX12_needs_46 : decode cX12_needs 46 = .ok (.lstore 6, 2) := by decide +kernel
theorem dX12_needs_48 : decode cX12_needs 48 = .ok (.lload 6, 2) := by decide +kernel
theorem dX12_needs_50 : decode cX12_needs 50 = .ok (.ldc2_w 94, 3) := by decide +kernel
theorem dX12_needs_53 : decode cX12_needs 53 = .ok (.lcmp, 1) := by decide +kernel
theorem dX12_needs_54 : decode cX12_needs 54 = .ok (.ifCond .eq 18, 3) := by decide +kernel
theorem dX12_needs_57 : decode cX12_needs 57 = .ok (.lload 6, 2) := by decide +kernel
theorem dX12_needs_59 : decode cX12_needs 59 = .ok (.invokestatic 98, 3) := by decide +kernel
theorem dX12_needs_62 : decode cX12_needs 62 = .ok (.lload_n 1, 1) := by decide +kernel
theorem dX12_needs_63 : decode cX12_needs 63 = .ok (.lcmp, 1) := by decide +kernel
theorem dX12_needs_64 : decode cX12_needs 64 = .ok (.ifCond .gt 8, 3) := by decide +kernel
theorem dX12_needs_67 : decode cX12_needs 67 = .ok (.iload 5, 2) := by decide +kernel
theorem dX12_needs_69 : decode cX12_needs 69 = .ok (.goto 5, 3) := by decide +kernel
theorem dX12_needs_72 : decode cX12_needs 72 = .ok (.bipush (-6), 2) := by decide +kernel
theorem dX12_needs_74 : decode cX12_needs 74 = .ok (.istore 4, 2) := by decide +kernel
theorem dX12_needs_76 : decode cX12_needs 76 = .ok (.iinc 5 1, 3) := by decide +kernel
theorem dX12_needs_79 : decode cX12_needs 79 = .ok (.goto (-54), 3) := by decide +kernel
theorem dX12_needs_82 : decode cX12_needs 82 = .ok (.aload_n 0, 1) := by decide +kernel
theorem dX12_needs_83 : decode cX12_needs 83 = .ok (.iload_n 3, 1) := by decide +kernel
theorem dX12_needs_84 : decode cX12_needs 84 = .ok (.putfield 75, 3) := by decide +kernel
theorem dX12_needs_87 : decode cX12_needs 87 = .ok (.iload 4, 2) := by decide +kernel
theorem dX12_needs_89 : decode cX12_needs 89 = .ok (.ireturn, 1) := by decide +kernel
set_option maxRecDepth 10000 in
theorem NX12_needs_0 {d : Nat} {S : fW} {h : fH} {Q : Int32 → fH → Prop} {r0 : Nat} {x1 : Int64} {r0_pad r0_text r0_number r0_span r0_now r0_sizeOf r0_workedTo r0_slip r0_exactUpper r0_exactLower r0_more r0_terms r0_order r0_bestOrder r0_low r0_high r0_built r0_better r0_base r0_kept r0_isKept : Nat}  
    (hs1 : (r0, shX12 r0_pad r0_text r0_number r0_span r0_now r0_sizeOf r0_workedTo r0_slip r0_exactUpper r0_exactLower r0_more r0_terms r0_order r0_bestOrder r0_low r0_high r0_built r0_better r0_base r0_kept r0_isKept) ∈ S)
    (w : (((0 : Int64) ≤ x1 → ∃ Q1 : fH → Prop, OkV d mX12_layText S [.ref r0] h Q1 ∧ ∀ (h_1 : fH), Q1 h_1 → G mX12_needs (d + 1) S (f_PI Q) 25 [(0, .ref r0), (1, .long x1), (3, .int (h.1 r0 0)), (4, .int (-6 : Int32)), (5, .int (1 : Int32))] [] h_1) ∧ (¬ (0 : Int64) ≤ x1 → Q (-2 : Int32) h))) :
    OkI (d + 1) mX12_needs S [.ref r0, .long x1] h Q := by
  refine Ok.of (by decide) (Nat.le_of_ble_eq_true rfl) ?_
  refine G_lload_n 1 rfl dX12_needs_0 rfl ?_
  refine G_lconst (v := 0) dX12_needs_1 (by decide) ?_
  refine G_lif_ge (tgt := 9) dX12_needs_2 dX12_needs_3 (by decide) (fun c1 => ?_) (fun c1 => ?_)
  · have w := w.1 c1
    refine G_aload_n 0 rfl dX12_needs_9 rfl ?_
    refine G_geti (k := 0) hs1 (q := (RX12, TX12, 40)) rfl inX12 (by decide) (Or.inl rfl) hF_X12_75 dX12_needs_10 ?_
    refine G_istore_n dX12_needs_13 rfl (by decide) (lv' := [(3, .int (h.1 r0 0)), (0, .ref r0), (1, .long x1)]) rfl ?_
    refine G_bipush (v := -6) dX12_needs_14 (by decide) ?_
    refine G_istore dX12_needs_16 (by decide) (lv' := [(4, .int (-6 : Int32)), (3, .int (h.1 r0 0)), (0, .ref r0), (1, .long x1)]) rfl ?_
    refine G_aload_n 2 rfl dX12_needs_18 rfl ?_
    obtain ⟨Q1, ok1, w⟩ := w
    refine G_callV (Z := mX12_layText) (As := []) (st := []) hL_X12_223 hI_X12_layText hS_X12_layText hC_X12_layText hN_X12 nX12_layText (by decide) hs1 rfl rfl rfl (Nat.le_of_ble_eq_true rfl) dX12_needs_19 ok1 (fun r_ h_1 z_ => ?_)
    obtain ⟨rfl, q_1⟩ := z_
    have w := w h_1 q_1
    refine G_iconst (v := 1) dX12_needs_22 (by decide) ?_
    refine G_istore dX12_needs_23 (by decide) (lv' := [(5, .int (1 : Int32)), (4, .int (-6 : Int32)), (3, .int (h.1 r0 0)), (0, .ref r0), (1, .long x1)]) rfl ?_
    exact G_sub [3, 4, 2, 1, 0] rfl w
  · have w := w.2 c1
    refine G_bipush (v := -2) dX12_needs_6 (by decide) ?_
    exact G_iret rfl dX12_needs_8 ⟨_, rfl, w⟩

set_option maxRecDepth 10000 in
theorem NX12_needs_25 {d : Nat} {S : fW} {h : fH} {Q : Int32 → fH → Prop} {r0 : Nat} {x1 : Int64} {x3 : Int32} {x4 : Int32} {x5 : Int32} {r0_pad r0_text r0_number r0_span r0_now r0_sizeOf r0_workedTo r0_slip r0_exactUpper r0_exactLower r0_more r0_terms r0_order r0_bestOrder r0_low r0_high r0_built r0_better r0_base r0_kept r0_isKept : Nat}  
    (hs1 : (r0, shX12 r0_pad r0_text r0_number r0_span r0_now r0_sizeOf r0_workedTo r0_slip r0_exactUpper r0_exactLower r0_more r0_terms r0_order r0_bestOrder r0_low r0_high r0_built r0_better r0_base r0_kept r0_isKept) ∈ S)
    (w : (((4 : Int32) < x5 → ∀ g_1 : fH, g_1 = u_fi h r0 0 x3 → Q x4 g_1) ∧ (¬ (4 : Int32) < x5 → ((0 ≤ x4 → ∀ g_2 : fH, g_2 = u_fi h r0 0 x3 → Q x4 g_2) ∧ (¬ 0 ≤ x4 → ∀ g_3 : fH, g_3 = u_fi h r0 0 x5 → ∃ Q1 : Int64 → fH → Prop, OkL d mX12_lossNow S [.ref r0] g_3 Q1 ∧ ∀ (v_1 : Int64) (h_1 : fH), Q1 v_1 h_1 → ((v_1 = (1000000000000000000 : Int64) → G mX12_needs (d + 1) S (f_PI Q) 25 [(0, .ref r0), (1, .long x1), (3, .int x3), (4, .int (-6 : Int32)), (5, .int (x5 + 1))] [] h_1) ∧ (¬ v_1 = (1000000000000000000 : Int64) → ∃ Q2 : Int64 → fH → Prop, OkL d mX12_size S [.long v_1] h_1 Q2 ∧ ∀ (v_2 : Int64) (h_2 : fH), Q2 v_2 h_2 → ((x1 < v_2 → G mX12_needs (d + 1) S (f_PI Q) 25 [(0, .ref r0), (1, .long x1), (3, .int x3), (4, .int (-6 : Int32)), (5, .int (x5 + 1))] [] h_2) ∧ (¬ x1 < v_2 → G mX12_needs (d + 1) S (f_PI Q) 25 [(0, .ref r0), (1, .long x1), (3, .int x3), (4, .int x5), (5, .int (x5 + 1))] [] h_2))))))))) :
    G mX12_needs (d + 1) S (f_PI Q) 25 [(0, .ref r0), (1, .long x1), (3, .int x3), (4, .int x4), (5, .int x5)] [] h := by
  refine G_iload 4 rfl dX12_needs_25 ?_
  refine G_iconst (v := 4) dX12_needs_27 (by decide) ?_
  refine G_icmp_gt (tgt := 82) dX12_needs_28 (by decide) (fun c1 => ?_) (fun c1 => ?_)
  · have w := w.1 c1
    refine G_aload_n 0 rfl dX12_needs_82 rfl ?_
    refine G_iload_n 2 rfl dX12_needs_83 rfl ?_
    refine G_puti (k := 0) tyX12 hs1 (q := (RX12, TX12, 40)) rfl inX12 tyX12_ok nmX12 (by decide) rfl rfl rfl hF_X12_75 dX12_needs_84 ?_
    refine G_nm (fun g_1 e_1 => ?_)
    have w := w g_1 e_1
    refine G_iload 3 rfl dX12_needs_87 ?_
    exact G_iret rfl dX12_needs_89 ⟨_, rfl, w⟩
  · have w := w.2 c1
    refine G_iload 3 rfl dX12_needs_31 ?_
    refine G_if_ge (tgt := 82) dX12_needs_33 (by decide) (fun c2 => ?_) (fun c2 => ?_)
    · have w := w.1 c2
      refine G_aload_n 0 rfl dX12_needs_82 rfl ?_
      refine G_iload_n 2 rfl dX12_needs_83 rfl ?_
      refine G_puti (k := 0) tyX12 hs1 (q := (RX12, TX12, 40)) rfl inX12 tyX12_ok nmX12 (by decide) rfl rfl rfl hF_X12_75 dX12_needs_84 ?_
      refine G_nm (fun g_2 e_2 => ?_)
      have w := w g_2 e_2
      refine G_iload 3 rfl dX12_needs_87 ?_
      exact G_iret rfl dX12_needs_89 ⟨_, rfl, w⟩
    · have w := w.2 c2
      refine G_aload_n 0 rfl dX12_needs_36 rfl ?_
      refine G_iload 4 rfl dX12_needs_37 ?_
      refine G_puti (k := 0) tyX12 hs1 (q := (RX12, TX12, 40)) rfl inX12 tyX12_ok nmX12 (by decide) rfl rfl rfl hF_X12_75 dX12_needs_39 ?_
      refine G_nm (fun g_3 e_3 => ?_)
      have w := w g_3 e_3
      refine G_aload_n 0 rfl dX12_needs_42 rfl ?_
      obtain ⟨Q1, ok1, w⟩ := w
      refine G_callV (Z := mX12_lossNow) (As := []) (st := []) hL_X12_239 hI_X12_lossNow hS_X12_lossNow hC_X12_lossNow hN_X12 nX12_lossNow (by decide) hs1 rfl rfl rfl (Nat.le_of_ble_eq_true rfl) dX12_needs_43 ok1 (fun r_ h_1 z_ => ?_)
      obtain ⟨v_1, rfl, q_1⟩ := z_
      have w := w v_1 h_1 q_1
      refine G_lstore dX12_needs_46 (by decide) (lv' := [(6, .long v_1), (0, .ref r0), (1, .long x1), (3, .int x3), (4, .int x4), (5, .int x5)]) rfl ?_
      refine G_lload 0 rfl dX12_needs_48 ?_
      refine G_ldc2 hK_X12_94 dX12_needs_50 ?_
      refine G_lif_eq (tgt := 72) dX12_needs_53 dX12_needs_54 (by decide) (fun c3 => ?_) (fun c3 => ?_)
      · have w := w.1 c3
        refine G_bipush (v := -6) dX12_needs_72 (by decide) ?_
        refine G_istore dX12_needs_74 (by decide) (lv' := [(4, .int (-6 : Int32)), (6, .long v_1), (0, .ref r0), (1, .long x1), (3, .int x3), (5, .int x5)]) rfl ?_
        refine G_iinc (v := 1) 5 rfl dX12_needs_76 (by decide) (by decide) (lv' := [(5, .int (x5 + 1)), (4, .int (-6 : Int32)), (6, .long v_1), (0, .ref r0), (1, .long x1), (3, .int x3)]) rfl ?_
        refine G_goto (tgt := 25) dX12_needs_79 (by decide) ?_
        exact G_sub [3, 4, 5, 1, 0] rfl w
      · have w := w.2 c3
        refine G_lload 0 rfl dX12_needs_57 ?_
        obtain ⟨Q2, ok2, w⟩ := w
        refine G_callS (Z := mX12_size) (As := [.long v_1]) (st := []) hL_X12_98 hT_X12_size hC_X12_size hN_X12 nX12_size (by decide) rfl (Nat.le_of_ble_eq_true rfl) dX12_needs_59 ok2 (fun r_ h_2 z_ => ?_)
        obtain ⟨v_2, rfl, q_2⟩ := z_
        have w := w v_2 h_2 q_2
        refine G_lload_n 2 rfl dX12_needs_62 rfl ?_
        refine G_lif_gt (tgt := 72) dX12_needs_63 dX12_needs_64 (by decide) (fun c4 => ?_) (fun c4 => ?_)
        · have w := w.1 c4
          refine G_bipush (v := -6) dX12_needs_72 (by decide) ?_
          refine G_istore dX12_needs_74 (by decide) (lv' := [(4, .int (-6 : Int32)), (6, .long v_1), (0, .ref r0), (1, .long x1), (3, .int x3), (5, .int x5)]) rfl ?_
          refine G_iinc (v := 1) 5 rfl dX12_needs_76 (by decide) (by decide) (lv' := [(5, .int (x5 + 1)), (4, .int (-6 : Int32)), (6, .long v_1), (0, .ref r0), (1, .long x1), (3, .int x3)]) rfl ?_
          refine G_goto (tgt := 25) dX12_needs_79 (by decide) ?_
          exact G_sub [3, 4, 5, 1, 0] rfl w
        · have w := w.2 c4
          refine G_iload 5 rfl dX12_needs_67 ?_
          refine G_goto (tgt := 74) dX12_needs_69 (by decide) ?_
          refine G_istore dX12_needs_74 (by decide) (lv' := [(4, .int x5), (6, .long v_1), (0, .ref r0), (1, .long x1), (3, .int x3), (5, .int x5)]) rfl ?_
          refine G_iinc (v := 1) 5 rfl dX12_needs_76 (by decide) (by decide) (lv' := [(5, .int (x5 + 1)), (4, .int x5), (6, .long v_1), (0, .ref r0), (1, .long x1), (3, .int x3)]) rfl ?_
          refine G_goto (tgt := 25) dX12_needs_79 (by decide) ?_
          exact G_sub [3, 4, 5, 1, 0] rfl w
-- LostDigitsModel.term
theorem dX12_term_0 : decode cX12_term 0 = .ok (.lload_n 1, 1) := by decide +kernel
theorem dX12_term_1 : decode cX12_term 1 = .ok (.ldc2_w 243, 3) := by decide +kernel
theorem dX12_term_4 : decode cX12_term 4 = .ok (.lcmp, 1) := by decide +kernel
theorem dX12_term_5 : decode cX12_term 5 = .ok (.ifCond .le 11, 3) := by decide +kernel
theorem dX12_term_8 : decode cX12_term 8 = .ok (.lload_n 1, 1) := by decide +kernel
theorem dX12_term_9 : decode cX12_term 9 = .ok (.ldc2_w 245, 3) := by decide +kernel
theorem dX12_term_12 : decode cX12_term 12 = .ok (.lcmp, 1) := by decide +kernel
theorem dX12_term_13 : decode cX12_term 13 = .ok (.ifCond .lt 6, 3) := by decide +kernel
theorem dX12_term_16 : decode cX12_term 16 = .ok (.bipush (-2), 2) := by decide +kernel
theorem dX12_term_18 : decode cX12_term 18 = .ok (.ireturn, 1) := by decide +kernel
theorem dX12_term_19 : decode cX12_term 19 = .ok (.aload_n 0, 1) := by decide +kernel
theorem dX12_term_20 : decode cX12_term 20 = .ok (.lload_n 1, 1) := by decide +kernel
theorem dX12_term_21 : decode cX12_term 21 = .ok (.aload_n 0, 1) := by decide +kernel
theorem dX12_term_22 : decode cX12_term 22 = .ok (.getfield 142, 3) := by decide +kernel
theorem dX12_term_25 : decode cX12_term 25 = .ok (.iconst 0, 1) := by decide +kernel
theorem dX12_term_26 : decode cX12_term 26 = .ok (.invokevirtual 126, 3) := by decide +kernel
theorem dX12_term_29 : decode cX12_term 29 = .ok (.lstore_n 3, 1) := by decide +kernel
theorem dX12_term_30 : decode cX12_term 30 = .ok (.lload_n 3, 1) := by decide +kernel
theorem dX12_term_31 : decode cX12_term 31 = .ok (.ldc2_w 94, 3) := by decide +kernel
theorem dX12_term_34 : decode cX12_term 34 = .ok (.lcmp, 1) := by decide +kernel
theorem dX12_term_35 : decode cX12_term 35 = .ok (.ifCond .ne 6, 3) := by decide +kernel
theorem dX12_term_38 : decode cX12_term 38 = .ok (.bipush (-2), 2) := by decide +kernel
theorem dX12_term_40 : decode cX12_term 40 = .ok (.ireturn, 1) := by decide +kernel
theorem dX12_term_41 : decode cX12_term 41 = .ok (.aload_n 0, 1) := by decide +kernel
theorem dX12_term_42 : decode cX12_term 42 = .ok (.getfield 247, 3) := by decide +kernel
theorem dX12_term_45 : decode cX12_term 45 = .ok (.bipush 7, 2) := by decide +kernel
theorem dX12_term_47 : decode cX12_term 47 = .ok (.if_icmp .ne 6, 3) := by decide +kernel
theorem dX12_term_50 : decode cX12_term 50 = .ok (.bipush (-4), 2) := by decide +kernel
theorem dX12_term_52 : decode cX12_term 52 = .ok (.ireturn, 1) := by decide +kernel
theorem dX12_term_53 : decode cX12_term 53 = .ok (.aload_n 0, 1) := by decide +kernel
theorem dX12_term_54 : decode cX12_term 54 = .ok (.getfield 44, 3) := by decide +kernel
theorem dX12_term_57 : decode cX12_term 57 = .ok (.aload_n 0, 1) := by decide +kernel
theorem dX12_term_58 : decode cX12_term 58 = .ok (.getfield 247, 3) := by decide +kernel
theorem dX12_term_61 : decode cX12_term 61 = .ok (.lload_n 3, 1) := by decide +kernel
theorem dX12_term_62 : decode cX12_term 62 = .ok (.lastore, 1) := by decide +kernel
theorem dX12_term_63 : decode cX12_term 63 = .ok (.aload_n 0, 1) := by decide +kernel
theorem dX12_term_64 : decode cX12_term 64 = .ok (.dup, 1) := by decide +kernel
theorem dX12_term_65 : decode cX12_term 65 = .ok (.getfield 247, 3) := by decide +kernel
theorem dX12_term_68 : decode cX12_term 68 = .ok (.iconst 1, 1) := by decide +kernel
theorem dX12_term_69 : decode cX12_term 69 = .ok (.iadd, 1) := by decide +kernel
theorem dX12_term_70 : decode cX12_term 70 = .ok (.putfield 247, 3) := by decide +kernel
theorem dX12_term_73 : decode cX12_term 73 = .ok (.aload_n 0, 1) := by decide +kernel
theorem dX12_term_74 : decode cX12_term 74 = .ok (.getfield 247, 3) := by decide +kernel
theorem dX12_term_77 : decode cX12_term 77 = .ok (.ireturn, 1) := by decide +kernel
set_option maxRecDepth 10000 in
theorem NX12_term_0 {d : Nat} {S : fW} {h : fH} {Q : Int32 → fH → Prop} {r0 : Nat} {x1 : Int64} {r0_pad r0_text r0_number r0_span r0_now r0_sizeOf r0_workedTo r0_slip r0_exactUpper r0_exactLower r0_more r0_terms r0_order r0_bestOrder r0_low r0_high r0_built r0_better r0_base r0_kept r0_isKept : Nat}  
    (hs1 : (r0, shX12 r0_pad r0_text r0_number r0_span r0_now r0_sizeOf r0_workedTo r0_slip r0_exactUpper r0_exactLower r0_more r0_terms r0_order r0_bestOrder r0_low r0_high r0_built r0_better r0_base r0_kept r0_isKept) ∈ S)
    (hs2 : (r0_terms, shJ 7) ∈ S)
    (w : ((x1 ≤ (-10000000000000000 : Int64) → Q (-2 : Int32) h) ∧ (¬ x1 ≤ (-10000000000000000 : Int64) → ((x1 < (10000000000000000 : Int64) → ∃ Q1 : Int64 → fH → Prop, OkL d mX12_roundOf S [.ref r0, .long x1, .int (h.1 r0 1), .int (0 : Int32)] h Q1 ∧ ∀ (v_1 : Int64) (h_1 : fH), Q1 v_1 h_1 → ((¬ v_1 = (1000000000000000000 : Int64) → ((¬ (h_1.1 r0 22) = (7 : Int32) → vp_in (h_1.1 r0 22) 7 ∧ ∀ g_1 : fH, g_1 = u_al h_1 r0_terms (vp_updL (h_1.2.2.2 r0_terms) (h_1.1 r0 22).toNatClampNeg v_1) → ∀ g_2 : fH, g_2 = u_fi g_1 r0 22 ((g_1.1 r0 22) + (1 : Int32)) → Q (g_2.1 r0 22) g_2) ∧ ((h_1.1 r0 22) = (7 : Int32) → Q (-4 : Int32) h_1))) ∧ (v_1 = (1000000000000000000 : Int64) → Q (-2 : Int32) h_1))) ∧ (¬ x1 < (10000000000000000 : Int64) → Q (-2 : Int32) h))))) :
    OkI (d + 1) mX12_term S [.ref r0, .long x1] h Q := by
  refine Ok.of (by decide) (Nat.le_of_ble_eq_true rfl) ?_
  refine G_lload_n 1 rfl dX12_term_0 rfl ?_
  refine G_ldc2 hK_X12_243 dX12_term_1 ?_
  refine G_lif_le (tgt := 16) dX12_term_4 dX12_term_5 (by decide) (fun c1 => ?_) (fun c1 => ?_)
  · have w := w.1 c1
    refine G_bipush (v := -2) dX12_term_16 (by decide) ?_
    exact G_iret rfl dX12_term_18 ⟨_, rfl, w⟩
  · have w := w.2 c1
    refine G_lload_n 1 rfl dX12_term_8 rfl ?_
    refine G_ldc2 hK_X12_245 dX12_term_9 ?_
    refine G_lif_lt (tgt := 19) dX12_term_12 dX12_term_13 (by decide) (fun c2 => ?_) (fun c2 => ?_)
    · have w := w.1 c2
      refine G_aload_n 0 rfl dX12_term_19 rfl ?_
      refine G_lload_n 1 rfl dX12_term_20 rfl ?_
      refine G_aload_n 0 rfl dX12_term_21 rfl ?_
      refine G_geti (k := 1) hs1 (q := (RX12, TX12, 40)) rfl inX12 (by decide) (Or.inl rfl) hF_X12_142 dX12_term_22 ?_
      refine G_iconst (v := 0) dX12_term_25 (by decide) ?_
      obtain ⟨Q1, ok1, w⟩ := w
      refine G_callV (Z := mX12_roundOf) (As := [.long x1, .int (h.1 r0 1), .int (0 : Int32)]) (st := []) hL_X12_126 hI_X12_roundOf hS_X12_roundOf hC_X12_roundOf hN_X12 nX12_roundOf (by decide) hs1 rfl rfl rfl (Nat.le_of_ble_eq_true rfl) dX12_term_26 ok1 (fun r_ h_1 z_ => ?_)
      obtain ⟨v_1, rfl, q_1⟩ := z_
      have w := w v_1 h_1 q_1
      refine G_lstore_n dX12_term_29 rfl (by decide) (lv' := [(3, .long v_1), (0, .ref r0), (1, .long x1)]) rfl ?_
      refine G_lload_n 0 rfl dX12_term_30 rfl ?_
      refine G_ldc2 hK_X12_94 dX12_term_31 ?_
      refine G_lif_ne (tgt := 41) dX12_term_34 dX12_term_35 (by decide) (fun c3 => ?_) (fun c3 => ?_)
      · have w := w.1 c3
        refine G_aload_n 1 rfl dX12_term_41 rfl ?_
        refine G_geti (k := 22) hs1 (q := (RX12, TX12, 40)) rfl inX12 (by decide) (Or.inl rfl) hF_X12_247 dX12_term_42 ?_
        refine G_bipush (v := 7) dX12_term_45 (by decide) ?_
        refine G_icmp_ne (tgt := 53) dX12_term_47 (by decide) (fun c4 => ?_) (fun c4 => ?_)
        · have w := w.1 c4
          refine G_aload_n 1 rfl dX12_term_53 rfl ?_
          refine G_getr (j := r0_terms) (k := 21) hs1 (q := (RX12, TX12, 40)) rfl inX12 (by decide) rfl hF_X12_44 dX12_term_54 ?_
          refine G_aload_n 1 rfl dX12_term_57 rfl ?_
          refine G_geti (k := 22) hs1 (q := (RX12, TX12, 40)) rfl inX12 (by decide) (Or.inl rfl) hF_X12_247 dX12_term_58 ?_
          refine G_lload_n 0 rfl dX12_term_61 rfl ?_
          obtain ⟨sd1, w⟩ := w
          refine G_last hs2 sd1 dX12_term_62 ?_
          refine G_nm (fun g_1 e_1 => ?_)
          have w := w g_1 e_1
          refine G_aload_n 1 rfl dX12_term_63 rfl ?_
          refine G_dup dX12_term_64 rfl ?_
          refine G_geti (k := 22) hs1 (q := (RX12, TX12, 40)) rfl inX12 (by decide) (Or.inl rfl) hF_X12_247 dX12_term_65 ?_
          refine G_iconst (v := 1) dX12_term_68 (by decide) ?_
          refine G_iadd dX12_term_69 ?_
          refine G_puti (k := 22) tyX12 hs1 (q := (RX12, TX12, 40)) rfl inX12 tyX12_ok nmX12 (by decide) rfl rfl rfl hF_X12_247 dX12_term_70 ?_
          refine G_nm (fun g_2 e_2 => ?_)
          have w := w g_2 e_2
          refine G_aload_n 1 rfl dX12_term_73 rfl ?_
          refine G_geti (k := 22) hs1 (q := (RX12, TX12, 40)) rfl inX12 (by decide) (Or.inl rfl) hF_X12_247 dX12_term_74 ?_
          exact G_iret rfl dX12_term_77 ⟨_, rfl, w⟩
        · have w := w.2 c4
          refine G_bipush (v := -4) dX12_term_50 (by decide) ?_
          exact G_iret rfl dX12_term_52 ⟨_, rfl, w⟩
      · have w := w.2 c3
        refine G_bipush (v := -2) dX12_term_38 (by decide) ?_
        exact G_iret rfl dX12_term_40 ⟨_, rfl, w⟩
    · have w := w.2 c2
      refine G_bipush (v := -2) dX12_term_16 (by decide) ?_
      exact G_iret rfl dX12_term_18 ⟨_, rfl, w⟩
-- LostDigitsModel.clear
theorem dX12_clear_0 : decode cX12_clear 0 = .ok (.aload_n 0, 1) := by decide +kernel
theorem dX12_clear_1 : decode cX12_clear 1 = .ok (.getfield 247, 3) := by decide +kernel
theorem dX12_clear_4 : decode cX12_clear 4 = .ok (.istore_n 1, 1) := by decide +kernel
theorem dX12_clear_5 : decode cX12_clear 5 = .ok (.aload_n 0, 1) := by decide +kernel
theorem dX12_clear_6 : decode cX12_clear 6 = .ok (.iconst 0, 1) := by decide +kernel
theorem dX12_clear_7 : decode cX12_clear 7 = .ok (.putfield 247, 3) := by decide +kernel
theorem dX12_clear_10 : decode cX12_clear 10 = .ok (.iload_n 1, 1) := by decide +kernel
theorem dX12_clear_11 : decode cX12_clear 11 = .ok (.ireturn, 1) := by decide +kernel
set_option maxRecDepth 10000 in
theorem NX12_clear_0 {d : Nat} {S : fW} {h : fH} {Q : Int32 → fH → Prop} {r0 : Nat} {r0_pad r0_text r0_number r0_span r0_now r0_sizeOf r0_workedTo r0_slip r0_exactUpper r0_exactLower r0_more r0_terms r0_order r0_bestOrder r0_low r0_high r0_built r0_better r0_base r0_kept r0_isKept : Nat}  
    (hs1 : (r0, shX12 r0_pad r0_text r0_number r0_span r0_now r0_sizeOf r0_workedTo r0_slip r0_exactUpper r0_exactLower r0_more r0_terms r0_order r0_bestOrder r0_low r0_high r0_built r0_better r0_base r0_kept r0_isKept) ∈ S)
    (w : ∀ g_1 : fH, g_1 = u_fi h r0 22 (0 : Int32) → Q (h.1 r0 22) g_1) :
    OkI d mX12_clear S [.ref r0] h Q := by
  refine Ok.of (by decide) (Nat.le_of_ble_eq_true rfl) ?_
  refine G_aload_n 0 rfl dX12_clear_0 rfl ?_
  refine G_geti (k := 22) hs1 (q := (RX12, TX12, 40)) rfl inX12 (by decide) (Or.inl rfl) hF_X12_247 dX12_clear_1 ?_
  refine G_istore_n dX12_clear_4 rfl (by decide) (lv' := [(1, .int (h.1 r0 22)), (0, .ref r0)]) rfl ?_
  refine G_aload_n 1 rfl dX12_clear_5 rfl ?_
  refine G_iconst (v := 0) dX12_clear_6 (by decide) ?_
  refine G_puti (k := 22) tyX12 hs1 (q := (RX12, TX12, 40)) rfl inX12 tyX12_ok nmX12 (by decide) rfl rfl rfl hF_X12_247 dX12_clear_7 ?_
  refine G_nm (fun g_1 e_1 => ?_)
  have w := w g_1 e_1
  refine G_iload_n 0 rfl dX12_clear_10 rfl ?_
  exact G_iret rfl dX12_clear_11 ⟨_, rfl, w⟩
-- LostDigitsModel.about
theorem dX12_about_0 : decode cX12_about 0 = .ok (.iload_n 1, 1) := by decide +kernel
theorem dX12_about_1 : decode cX12_about 1 = .ok (.i2l, 1) := by decide +kernel
theorem dX12_about_2 : decode cX12_about 2 = .ok (.lconst 0, 1) := by decide +kernel
theorem dX12_about_3 : decode cX12_about 3 = .ok (.aload_n 0, 1) := by decide +kernel
theorem dX12_about_4 : decode cX12_about 4 = .ok (.getfield 247, 3) := by decide +kernel
theorem dX12_about_7 : decode cX12_about 7 = .ok (.iconst 1, 1) := by decide +kernel
theorem dX12_about_8 : decode cX12_about 8 = .ok (.isub, 1) := by decide +kernel
theorem dX12_about_9 : decode cX12_about 9 = .ok (.i2l, 1) := by decide +kernel
theorem dX12_about_10 : decode cX12_about 10 = .ok (.invokestatic 82, 3) := by decide +kernel
theorem dX12_about_13 : decode cX12_about 13 = .ok (.ifCond .eq 12, 3) := by decide +kernel
theorem dX12_about_16 : decode cX12_about 16 = .ok (.aload_n 0, 1) := by decide +kernel
theorem dX12_about_17 : decode cX12_about 17 = .ok (.getfield 44, 3) := by decide +kernel
theorem dX12_about_20 : decode cX12_about 20 = .ok (.iload_n 1, 1) := by decide +kernel
theorem dX12_about_21 : decode cX12_about 21 = .ok (.laload, 1) := by decide +kernel
theorem dX12_about_22 : decode cX12_about 22 = .ok (.goto 6, 3) := by decide +kernel
theorem dX12_about_25 : decode cX12_about 25 = .ok (.ldc2_w 221, 3) := by decide +kernel
theorem dX12_about_28 : decode cX12_about 28 = .ok (.lreturn, 1) := by decide +kernel
set_option maxRecDepth 10000 in
theorem NX12_about_0 {d : Nat} {S : fW} {h : fH} {Q : Int64 → fH → Prop} {r0 : Nat} {x1 : Int32} {r0_pad r0_text r0_number r0_span r0_now r0_sizeOf r0_workedTo r0_slip r0_exactUpper r0_exactLower r0_more r0_terms r0_order r0_bestOrder r0_low r0_high r0_built r0_better r0_base r0_kept r0_isKept : Nat}  
    (hs1 : (r0, shX12 r0_pad r0_text r0_number r0_span r0_now r0_sizeOf r0_workedTo r0_slip r0_exactUpper r0_exactLower r0_more r0_terms r0_order r0_bestOrder r0_low r0_high r0_built r0_better r0_base r0_kept r0_isKept) ∈ S)
    (hs2 : (r0_terms, shJ 7) ∈ S)
    (w : ∃ Q1 : Int32 → fH → Prop, OkI d mX12_in S [.long x1.toInt64, .long (0 : Int64), .long (((h.1 r0 22) - (1 : Int32)).toInt64)] h Q1 ∧ ∀ (v_1 : Int32) (h_1 : fH), Q1 v_1 h_1 → ((v_1 = 0 → Q (-1000000000000000001 : Int64) h_1) ∧ (¬ v_1 = 0 → vp_in x1 7 ∧ Q (h_1.2.2.2 r0_terms x1.toNatClampNeg) h_1))) :
    OkL (d + 1) mX12_about S [.ref r0, .int x1] h Q := by
  refine Ok.of (by decide) (Nat.le_of_ble_eq_true rfl) ?_
  refine G_iload_n 1 rfl dX12_about_0 rfl ?_
  refine G_i2l dX12_about_1 ?_
  refine G_lconst (v := 0) dX12_about_2 (by decide) ?_
  refine G_aload_n 0 rfl dX12_about_3 rfl ?_
  refine G_geti (k := 22) hs1 (q := (RX12, TX12, 40)) rfl inX12 (by decide) (Or.inl rfl) hF_X12_247 dX12_about_4 ?_
  refine G_iconst (v := 1) dX12_about_7 (by decide) ?_
  refine G_isub dX12_about_8 ?_
  refine G_i2l dX12_about_9 ?_
  obtain ⟨Q1, ok1, w⟩ := w
  refine G_callS (Z := mX12_in) (As := [.long x1.toInt64, .long (0 : Int64), .long (((h.1 r0 22) - (1 : Int32)).toInt64)]) (st := []) hL_X12_82 hT_X12_in hC_X12_in hN_X12 nX12_in (by decide) rfl (Nat.le_of_ble_eq_true rfl) dX12_about_10 ok1 (fun r_ h_1 z_ => ?_)
  obtain ⟨v_1, rfl, q_1⟩ := z_
  have w := w v_1 h_1 q_1
  refine G_if_eq (tgt := 25) dX12_about_13 (by decide) (fun c1 => ?_) (fun c1 => ?_)
  · have w := w.1 c1
    refine G_ldc2 hK_X12_221 dX12_about_25 ?_
    exact G_lret rfl dX12_about_28 ⟨_, rfl, w⟩
  · have w := w.2 c1
    refine G_aload_n 0 rfl dX12_about_16 rfl ?_
    refine G_getr (j := r0_terms) (k := 21) hs1 (q := (RX12, TX12, 40)) rfl inX12 (by decide) rfl hF_X12_44 dX12_about_17 ?_
    refine G_iload_n 1 rfl dX12_about_20 rfl ?_
    obtain ⟨sd1, w⟩ := w
    refine G_lald hs2 sd1 dX12_about_21 ?_
    refine G_goto (tgt := 28) dX12_about_22 (by decide) ?_
    exact G_lret rfl dX12_about_28 ⟨_, rfl, w⟩
-- LostDigitsModel.layOrder
theorem dX12_layOrder_0 : decode cX12_layOrder 0 = .ok (.iconst 0, 1) := by decide +kernel
theorem dX12_layOrder_1 : decode cX12_layOrder 1 = .ok (.istore_n 1, 1) := by decide +kernel
theorem dX12_layOrder_2 : decode cX12_layOrder 2 = .ok (.iload_n 1, 1) := by decide +kernel
theorem dX12_layOrder_3 : decode cX12_layOrder 3 = .ok (.aload_n 0, 1) := by decide +kernel
theorem dX12_layOrder_4 : decode cX12_layOrder 4 = .ok (.getfield 247, 3) := by decide +kernel
theorem dX12_layOrder_7 : decode cX12_layOrder 7 = .ok (.if_icmp .ge 16, 3) := by decide +kernel
theorem dX12_layOrder_10 : decode cX12_layOrder 10 = .ok (.aload_n 0, 1) := by decide +kernel
theorem dX12_layOrder_11 : decode cX12_layOrder 11 = .ok (.getfield 47, 3) := by decide +kernel
theorem dX12_layOrder_14 : decode cX12_layOrder 14 = .ok (.iload_n 1, 1) := by decide +kernel
theorem dX12_layOrder_15 : decode cX12_layOrder 15 = .ok (.iload_n 1, 1) := by decide +kernel
theorem dX12_layOrder_16 : decode cX12_layOrder 16 = .ok (.iastore, 1) := by decide +kernel
theorem dX12_layOrder_17 : decode cX12_layOrder 17 = .ok (.iinc 1 1, 3) := by decide +kernel
theorem dX12_layOrder_20 : decode cX12_layOrder 20 = .ok (.goto (-18), 3) := by decide +kernel
theorem dX12_layOrder_23 : decode cX12_layOrder 23 = .ok (.return_, 1) := by decide +kernel
set_option maxRecDepth 10000 in
theorem NX12_layOrder_0 {d : Nat} {S : fW} {h : fH} {Q : fH → Prop} {r0 : Nat}  
    (w : G mX12_layOrder d S (f_PV Q) 2 [(0, .ref r0), (1, .int (0 : Int32))] [] h) :
    OkV d mX12_layOrder S [.ref r0] h Q := by
  refine Ok.of (by decide) (Nat.le_of_ble_eq_true rfl) ?_
  refine G_iconst (v := 0) dX12_layOrder_0 (by decide) ?_
  refine G_istore_n dX12_layOrder_1 rfl (by decide) (lv' := [(1, .int (0 : Int32)), (0, .ref r0)]) rfl ?_
  exact G_sub [1, 0] rfl w

set_option maxRecDepth 10000 in
theorem NX12_layOrder_2 {d : Nat} {S : fW} {h : fH} {Q : fH → Prop} {r0 : Nat} {x1 : Int32} {r0_pad r0_text r0_number r0_span r0_now r0_sizeOf r0_workedTo r0_slip r0_exactUpper r0_exactLower r0_more r0_terms r0_order r0_bestOrder r0_low r0_high r0_built r0_better r0_base r0_kept r0_isKept : Nat}  
    (hs1 : (r0, shX12 r0_pad r0_text r0_number r0_span r0_now r0_sizeOf r0_workedTo r0_slip r0_exactUpper r0_exactLower r0_more r0_terms r0_order r0_bestOrder r0_low r0_high r0_built r0_better r0_base r0_kept r0_isKept) ∈ S)
    (hs2 : (r0_order, shI 7) ∈ S)
    (w : (((h.1 r0 22) ≤ x1 → Q h) ∧ (¬ (h.1 r0 22) ≤ x1 → vp_in x1 7 ∧ ∀ g_1 : fH, g_1 = u_ai h r0_order (upd (h.2.2.1 r0_order) x1.toNatClampNeg x1) → G mX12_layOrder d S (f_PV Q) 2 [(0, .ref r0), (1, .int (x1 + 1))] [] g_1))) :
    G mX12_layOrder d S (f_PV Q) 2 [(0, .ref r0), (1, .int x1)] [] h := by
  refine G_iload_n 1 rfl dX12_layOrder_2 rfl ?_
  refine G_aload_n 0 rfl dX12_layOrder_3 rfl ?_
  refine G_geti (k := 22) hs1 (q := (RX12, TX12, 40)) rfl inX12 (by decide) (Or.inl rfl) hF_X12_247 dX12_layOrder_4 ?_
  refine G_icmp_ge (tgt := 23) dX12_layOrder_7 (by decide) (fun c1 => ?_) (fun c1 => ?_)
  · have w := w.1 c1
    exact G_vret rfl dX12_layOrder_23 ⟨rfl, w⟩
  · have w := w.2 c1
    refine G_aload_n 0 rfl dX12_layOrder_10 rfl ?_
    refine G_getr (j := r0_order) (k := 23) hs1 (q := (RX12, TX12, 40)) rfl inX12 (by decide) rfl hF_X12_47 dX12_layOrder_11 ?_
    refine G_iload_n 1 rfl dX12_layOrder_14 rfl ?_
    refine G_iload_n 1 rfl dX12_layOrder_15 rfl ?_
    obtain ⟨sd1, w⟩ := w
    refine G_iast hs2 sd1 dX12_layOrder_16 ?_
    refine G_nm (fun g_1 e_1 => ?_)
    have w := w g_1 e_1
    refine G_iinc (v := 1) 1 rfl dX12_layOrder_17 (by decide) (by decide) (lv' := [(1, .int (x1 + 1)), (0, .ref r0)]) rfl ?_
    refine G_goto (tgt := 2) dX12_layOrder_20 (by decide) ?_
    exact G_sub [1, 0] rfl w
-- LostDigitsModel.sumOf
theorem dX12_sumOf_0 : decode cX12_sumOf 0 = .ok (.aload_n 0, 1) := by decide +kernel
theorem dX12_sumOf_1 : decode cX12_sumOf 1 = .ok (.getfield 44, 3) := by decide +kernel
theorem dX12_sumOf_4 : decode cX12_sumOf 4 = .ok (.aload_n 0, 1) := by decide +kernel
theorem dX12_sumOf_5 : decode cX12_sumOf 5 = .ok (.getfield 47, 3) := by decide +kernel
theorem dX12_sumOf_8 : decode cX12_sumOf 8 = .ok (.iload_n 1, 1) := by decide +kernel
theorem dX12_sumOf_9 : decode cX12_sumOf 9 = .ok (.iaload, 1) := by decide +kernel
theorem dX12_sumOf_10 : decode cX12_sumOf 10 = .ok (.laload, 1) := by decide +kernel
theorem dX12_sumOf_11 : decode cX12_sumOf 11 = .ok (.lstore_n 3, 1) := by decide +kernel
theorem dX12_sumOf_12 : decode cX12_sumOf 12 = .ok (.iload_n 1, 1) := by decide +kernel
theorem dX12_sumOf_13 : decode cX12_sumOf 13 = .ok (.iconst 1, 1) := by decide +kernel
theorem dX12_sumOf_14 : decode cX12_sumOf 14 = .ok (.iadd, 1) := by decide +kernel
theorem dX12_sumOf_15 : decode cX12_sumOf 15 = .ok (.istore 5, 2) := by decide +kernel
theorem dX12_sumOf_17 : decode cX12_sumOf 17 = .ok (.iload 5, 2) := by decide +kernel
theorem dX12_sumOf_19 : decode cX12_sumOf 19 = .ok (.iload_n 2, 1) := by decide +kernel
theorem dX12_sumOf_20 : decode cX12_sumOf 20 = .ok (.if_icmp .ge 34, 3) := by decide +kernel
theorem dX12_sumOf_23 : decode cX12_sumOf 23 = .ok (.aload_n 0, 1) := by decide +kernel
theorem dX12_sumOf_24 : decode cX12_sumOf 24 = .ok (.bipush 43, 2) := by decide +kernel
theorem dX12_sumOf_26 : decode cX12_sumOf 26 = .ok (.lload_n 3, 1) := by decide +kernel
theorem dX12_sumOf_27 : decode cX12_sumOf 27 = .ok (.aload_n 0, 1) := by decide +kernel
theorem dX12_sumOf_28 : decode cX12_sumOf 28 = .ok (.getfield 44, 3) := by decide +kernel
theorem dX12_sumOf_31 : decode cX12_sumOf 31 = .ok (.aload_n 0, 1) := by decide +kernel
theorem dX12_sumOf_32 : decode cX12_sumOf 32 = .ok (.getfield 47, 3) := by decide +kernel
theorem dX12_sumOf_35 : decode cX12_sumOf 35 = .ok (.iload 5, 2) := by decide +kernel
theorem dX12_sumOf_37 : decode cX12_sumOf 37 = .ok (.iaload, 1) := by decide +kernel
theorem dX12_sumOf_38 : decode cX12_sumOf 38 = .ok (.laload, 1) := by decide +kernel
theorem dX12_sumOf_39 : decode cX12_sumOf 39 = .ok (.aload_n 0, 1) := by decide +kernel
theorem dX12_sumOf_40 : decode cX12_sumOf 40 = .ok (.getfield 142, 3) := by decide +kernel
theorem dX12_sumOf_43 : decode cX12_sumOf 43 = .ok (.iconst 0, 1) := by decide +kernel
theorem dX12_sumOf_44 : decode cX12_sumOf 44 = .ok (.invokevirtual 198, 3) := by decide +kernel
theorem dX12_sumOf_47 : decode cX12_sumOf 47 = .ok (.lstore_n 3, 1) := by decide +kernel
theorem dX12_sumOf_48 : decode cX12_sumOf 48 = .ok (.iinc 5 1, 3) := by decide +kernel
theorem dX12_sumOf_51 : decode cX12_sumOf 51 = .ok (.goto (-34), 3) := by decide +kernel
theorem dX12_sumOf_54 : decode cX12_sumOf 54 = .ok (.lload_n 3, 1) := by decide +kernel
theorem dX12_sumOf_55 : decode cX12_sumOf 55 = .ok (.lreturn, 1) := by decide +kernel
set_option maxRecDepth 10000 in
theorem NX12_sumOf_0 {d : Nat} {S : fW} {h : fH} {Q : Int64 → fH → Prop} {r0 : Nat} {x1 : Int32} {x2 : Int32} {r0_pad r0_text r0_number r0_span r0_now r0_sizeOf r0_workedTo r0_slip r0_exactUpper r0_exactLower r0_more r0_terms r0_order r0_bestOrder r0_low r0_high r0_built r0_better r0_base r0_kept r0_isKept : Nat}  
    (hs1 : (r0, shX12 r0_pad r0_text r0_number r0_span r0_now r0_sizeOf r0_workedTo r0_slip r0_exactUpper r0_exactLower r0_more r0_terms r0_order r0_bestOrder r0_low r0_high r0_built r0_better r0_base r0_kept r0_isKept) ∈ S)
    (hs2 : (r0_order, shI 7) ∈ S)
    (hs3 : (r0_terms, shJ 7) ∈ S)
    (w : vp_in x1 7 ∧ vp_in (h.2.2.1 r0_order x1.toNatClampNeg) 7 ∧ G mX12_sumOf (d + 1) S (f_PL Q) 17 [(0, .ref r0), (2, .int x2), (3, .long (h.2.2.2 r0_terms (h.2.2.1 r0_order x1.toNatClampNeg).toNatClampNeg)), (5, .int (x1 + (1 : Int32)))] [] h) :
    OkL (d + 1) mX12_sumOf S [.ref r0, .int x1, .int x2] h Q := by
  refine Ok.of (by decide) (Nat.le_of_ble_eq_true rfl) ?_
  refine G_aload_n 0 rfl dX12_sumOf_0 rfl ?_
  refine G_getr (j := r0_terms) (k := 21) hs1 (q := (RX12, TX12, 40)) rfl inX12 (by decide) rfl hF_X12_44 dX12_sumOf_1 ?_
  refine G_aload_n 0 rfl dX12_sumOf_4 rfl ?_
  refine G_getr (j := r0_order) (k := 23) hs1 (q := (RX12, TX12, 40)) rfl inX12 (by decide) rfl hF_X12_47 dX12_sumOf_5 ?_
  refine G_iload_n 1 rfl dX12_sumOf_8 rfl ?_
  obtain ⟨sd1, w⟩ := w
  refine G_iald hs2 sd1 dX12_sumOf_9 ?_
  obtain ⟨sd2, w⟩ := w
  refine G_lald hs3 sd2 dX12_sumOf_10 ?_
  refine G_lstore_n dX12_sumOf_11 rfl (by decide) (lv' := [(3, .long (h.2.2.2 r0_terms (h.2.2.1 r0_order x1.toNatClampNeg).toNatClampNeg)), (0, .ref r0), (1, .int x1), (2, .int x2)]) rfl ?_
  refine G_iload_n 2 rfl dX12_sumOf_12 rfl ?_
  refine G_iconst (v := 1) dX12_sumOf_13 (by decide) ?_
  refine G_iadd dX12_sumOf_14 ?_
  refine G_istore dX12_sumOf_15 (by decide) (lv' := [(5, .int (x1 + (1 : Int32))), (3, .long (h.2.2.2 r0_terms (h.2.2.1 r0_order x1.toNatClampNeg).toNatClampNeg)), (0, .ref r0), (1, .int x1), (2, .int x2)]) rfl ?_
  exact G_sub [2, 4, 1, 0] rfl w

set_option maxRecDepth 10000 in
theorem NX12_sumOf_17 {d : Nat} {S : fW} {h : fH} {Q : Int64 → fH → Prop} {r0 : Nat} {x2 : Int32} {x3 : Int64} {x5 : Int32} {r0_pad r0_text r0_number r0_span r0_now r0_sizeOf r0_workedTo r0_slip r0_exactUpper r0_exactLower r0_more r0_terms r0_order r0_bestOrder r0_low r0_high r0_built r0_better r0_base r0_kept r0_isKept : Nat}  
    (hs1 : (r0, shX12 r0_pad r0_text r0_number r0_span r0_now r0_sizeOf r0_workedTo r0_slip r0_exactUpper r0_exactLower r0_more r0_terms r0_order r0_bestOrder r0_low r0_high r0_built r0_better r0_base r0_kept r0_isKept) ∈ S)
    (hs2 : (r0_order, shI 7) ∈ S)
    (hs3 : (r0_terms, shJ 7) ∈ S)
    (w : ((x2 ≤ x5 → Q x3 h) ∧ (¬ x2 ≤ x5 → vp_in x5 7 ∧ vp_in (h.2.2.1 r0_order x5.toNatClampNeg) 7 ∧ ∃ Q1 : Int64 → fH → Prop, OkL d mX12_made S [.ref r0, .int (43 : Int32), .long x3, .long (h.2.2.2 r0_terms (h.2.2.1 r0_order x5.toNatClampNeg).toNatClampNeg), .int (h.1 r0 1), .int (0 : Int32)] h Q1 ∧ ∀ (v_1 : Int64) (h_1 : fH), Q1 v_1 h_1 → G mX12_sumOf (d + 1) S (f_PL Q) 17 [(0, .ref r0), (2, .int x2), (3, .long v_1), (5, .int (x5 + 1))] [] h_1))) :
    G mX12_sumOf (d + 1) S (f_PL Q) 17 [(0, .ref r0), (2, .int x2), (3, .long x3), (5, .int x5)] [] h := by
  refine G_iload 3 rfl dX12_sumOf_17 ?_
  refine G_iload_n 1 rfl dX12_sumOf_19 rfl ?_
  refine G_icmp_ge (tgt := 54) dX12_sumOf_20 (by decide) (fun c1 => ?_) (fun c1 => ?_)
  · have w := w.1 c1
    refine G_lload_n 2 rfl dX12_sumOf_54 rfl ?_
    exact G_lret rfl dX12_sumOf_55 ⟨_, rfl, w⟩
  · have w := w.2 c1
    refine G_aload_n 0 rfl dX12_sumOf_23 rfl ?_
    refine G_bipush (v := 43) dX12_sumOf_24 (by decide) ?_
    refine G_lload_n 2 rfl dX12_sumOf_26 rfl ?_
    refine G_aload_n 0 rfl dX12_sumOf_27 rfl ?_
    refine G_getr (j := r0_terms) (k := 21) hs1 (q := (RX12, TX12, 40)) rfl inX12 (by decide) rfl hF_X12_44 dX12_sumOf_28 ?_
    refine G_aload_n 0 rfl dX12_sumOf_31 rfl ?_
    refine G_getr (j := r0_order) (k := 23) hs1 (q := (RX12, TX12, 40)) rfl inX12 (by decide) rfl hF_X12_47 dX12_sumOf_32 ?_
    refine G_iload 3 rfl dX12_sumOf_35 ?_
    obtain ⟨sd1, w⟩ := w
    refine G_iald hs2 sd1 dX12_sumOf_37 ?_
    obtain ⟨sd2, w⟩ := w
    refine G_lald hs3 sd2 dX12_sumOf_38 ?_
    refine G_aload_n 0 rfl dX12_sumOf_39 rfl ?_
    refine G_geti (k := 1) hs1 (q := (RX12, TX12, 40)) rfl inX12 (by decide) (Or.inl rfl) hF_X12_142 dX12_sumOf_40 ?_
    refine G_iconst (v := 0) dX12_sumOf_43 (by decide) ?_
    obtain ⟨Q1, ok1, w⟩ := w
    refine G_callV (Z := mX12_made) (As := [.int (43 : Int32), .long x3, .long (h.2.2.2 r0_terms (h.2.2.1 r0_order x5.toNatClampNeg).toNatClampNeg), .int (h.1 r0 1), .int (0 : Int32)]) (st := []) hL_X12_198 hI_X12_made hS_X12_made hC_X12_made hN_X12 nX12_made (by decide) hs1 rfl rfl rfl (Nat.le_of_ble_eq_true rfl) dX12_sumOf_44 ok1 (fun r_ h_1 z_ => ?_)
    obtain ⟨v_1, rfl, q_1⟩ := z_
    have w := w v_1 h_1 q_1
    refine G_lstore_n dX12_sumOf_47 rfl (by decide) (lv' := [(3, .long v_1), (0, .ref r0), (2, .int x2), (5, .int x5)]) rfl ?_
    refine G_iinc (v := 1) 3 rfl dX12_sumOf_48 (by decide) (by decide) (lv' := [(5, .int (x5 + 1)), (3, .long v_1), (0, .ref r0), (2, .int x2)]) rfl ?_
    refine G_goto (tgt := 17) dX12_sumOf_51 (by decide) ?_
    exact G_sub [2, 3, 1, 0] rfl w
-- LostDigitsModel.wholeSum
theorem dX12_wholeSum_0 : decode cX12_wholeSum 0 = .ok (.lconst 0, 1) := by decide +kernel
theorem dX12_wholeSum_1 : decode cX12_wholeSum 1 = .ok (.lstore_n 1, 1) := by decide +kernel
theorem dX12_wholeSum_2 : decode cX12_wholeSum 2 = .ok (.iconst 0, 1) := by decide +kernel
theorem dX12_wholeSum_3 : decode cX12_wholeSum 3 = .ok (.istore_n 3, 1) := by decide +kernel
theorem dX12_wholeSum_4 : decode cX12_wholeSum 4 = .ok (.iload_n 3, 1) := by decide +kernel
theorem dX12_wholeSum_5 : decode cX12_wholeSum 5 = .ok (.aload_n 0, 1) := by decide +kernel
theorem dX12_wholeSum_6 : decode cX12_wholeSum 6 = .ok (.getfield 247, 3) := by decide +kernel
theorem dX12_wholeSum_9 : decode cX12_wholeSum 9 = .ok (.if_icmp .ge 18, 3) := by decide +kernel
theorem dX12_wholeSum_12 : decode cX12_wholeSum 12 = .ok (.lload_n 1, 1) := by decide +kernel
theorem dX12_wholeSum_13 : decode cX12_wholeSum 13 = .ok (.aload_n 0, 1) := by decide +kernel
theorem dX12_wholeSum_14 : decode cX12_wholeSum 14 = .ok (.getfield 44, 3) := by decide +kernel
theorem dX12_wholeSum_17 : decode cX12_wholeSum 17 = .ok (.iload_n 3, 1) := by decide +kernel
theorem dX12_wholeSum_18 : decode cX12_wholeSum 18 = .ok (.laload, 1) := by decide +kernel
theorem dX12_wholeSum_19 : decode cX12_wholeSum 19 = .ok (.ladd, 1) := by decide +kernel
theorem dX12_wholeSum_20 : decode cX12_wholeSum 20 = .ok (.lstore_n 1, 1) := by decide +kernel
theorem dX12_wholeSum_21 : decode cX12_wholeSum 21 = .ok (.iinc 3 1, 3) := by decide +kernel
theorem dX12_wholeSum_24 : decode cX12_wholeSum 24 = .ok (.goto (-20), 3) := by decide +kernel
theorem dX12_wholeSum_27 : decode cX12_wholeSum 27 = .ok (.lload_n 1, 1) := by decide +kernel
theorem dX12_wholeSum_28 : decode cX12_wholeSum 28 = .ok (.lreturn, 1) := by decide +kernel
set_option maxRecDepth 10000 in
theorem NX12_wholeSum_0 {d : Nat} {S : fW} {h : fH} {Q : Int64 → fH → Prop} {r0 : Nat}  
    (w : G mX12_wholeSum d S (f_PL Q) 4 [(0, .ref r0), (1, .long (0 : Int64)), (3, .int (0 : Int32))] [] h) :
    OkL d mX12_wholeSum S [.ref r0] h Q := by
  refine Ok.of (by decide) (Nat.le_of_ble_eq_true rfl) ?_
  refine G_lconst (v := 0) dX12_wholeSum_0 (by decide) ?_
  refine G_lstore_n dX12_wholeSum_1 rfl (by decide) (lv' := [(1, .long (0 : Int64)), (0, .ref r0)]) rfl ?_
  refine G_iconst (v := 0) dX12_wholeSum_2 (by decide) ?_
  refine G_istore_n dX12_wholeSum_3 rfl (by decide) (lv' := [(3, .int (0 : Int32)), (1, .long (0 : Int64)), (0, .ref r0)]) rfl ?_
  exact G_sub [2, 1, 0] rfl w

set_option maxRecDepth 10000 in
theorem NX12_wholeSum_4 {d : Nat} {S : fW} {h : fH} {Q : Int64 → fH → Prop} {r0 : Nat} {x1 : Int64} {x3 : Int32} {r0_pad r0_text r0_number r0_span r0_now r0_sizeOf r0_workedTo r0_slip r0_exactUpper r0_exactLower r0_more r0_terms r0_order r0_bestOrder r0_low r0_high r0_built r0_better r0_base r0_kept r0_isKept : Nat}  
    (hs1 : (r0, shX12 r0_pad r0_text r0_number r0_span r0_now r0_sizeOf r0_workedTo r0_slip r0_exactUpper r0_exactLower r0_more r0_terms r0_order r0_bestOrder r0_low r0_high r0_built r0_better r0_base r0_kept r0_isKept) ∈ S)
    (hs2 : (r0_terms, shJ 7) ∈ S)
    (w : (((h.1 r0 22) ≤ x3 → Q x1 h) ∧ (¬ (h.1 r0 22) ≤ x3 → vp_in x3 7 ∧ G mX12_wholeSum d S (f_PL Q) 4 [(0, .ref r0), (1, .long (x1 + (h.2.2.2 r0_terms x3.toNatClampNeg))), (3, .int (x3 + 1))] [] h))) :
    G mX12_wholeSum d S (f_PL Q) 4 [(0, .ref r0), (1, .long x1), (3, .int x3)] [] h := by
  refine G_iload_n 2 rfl dX12_wholeSum_4 rfl ?_
  refine G_aload_n 0 rfl dX12_wholeSum_5 rfl ?_
  refine G_geti (k := 22) hs1 (q := (RX12, TX12, 40)) rfl inX12 (by decide) (Or.inl rfl) hF_X12_247 dX12_wholeSum_6 ?_
  refine G_icmp_ge (tgt := 27) dX12_wholeSum_9 (by decide) (fun c1 => ?_) (fun c1 => ?_)
  · have w := w.1 c1
    refine G_lload_n 1 rfl dX12_wholeSum_27 rfl ?_
    exact G_lret rfl dX12_wholeSum_28 ⟨_, rfl, w⟩
  · have w := w.2 c1
    refine G_lload_n 1 rfl dX12_wholeSum_12 rfl ?_
    refine G_aload_n 0 rfl dX12_wholeSum_13 rfl ?_
    refine G_getr (j := r0_terms) (k := 21) hs1 (q := (RX12, TX12, 40)) rfl inX12 (by decide) rfl hF_X12_44 dX12_wholeSum_14 ?_
    refine G_iload_n 2 rfl dX12_wholeSum_17 rfl ?_
    obtain ⟨sd1, w⟩ := w
    refine G_lald hs2 sd1 dX12_wholeSum_18 ?_
    refine G_ladd dX12_wholeSum_19 ?_
    refine G_lstore_n dX12_wholeSum_20 rfl (by decide) (lv' := [(1, .long (x1 + (h.2.2.2 r0_terms x3.toNatClampNeg))), (0, .ref r0), (3, .int x3)]) rfl ?_
    refine G_iinc (v := 1) 2 rfl dX12_wholeSum_21 (by decide) (by decide) (lv' := [(3, .int (x3 + 1)), (1, .long (x1 + (h.2.2.2 r0_terms x3.toNatClampNeg))), (0, .ref r0)]) rfl ?_
    refine G_goto (tgt := 4) dX12_wholeSum_24 (by decide) ?_
    exact G_sub [2, 1, 0] rfl w
-- LostDigitsModel.beside
theorem dX12_beside_0 : decode cX12_beside 0 = .ok (.lconst 0, 1) := by decide +kernel
theorem dX12_beside_1 : decode cX12_beside 1 = .ok (.lstore_n 1, 1) := by decide +kernel
theorem dX12_beside_2 : decode cX12_beside 2 = .ok (.lconst 0, 1) := by decide +kernel
theorem dX12_beside_3 : decode cX12_beside 3 = .ok (.lstore_n 3, 1) := by decide +kernel
theorem dX12_beside_4 : decode cX12_beside 4 = .ok (.iconst 0, 1) := by decide +kernel
theorem dX12_beside_5 : decode cX12_beside 5 = .ok (.istore 5, 2) := by decide +kernel
theorem dX12_beside_7 : decode cX12_beside 7 = .ok (.iload 5, 2) := by decide +kernel
theorem dX12_beside_9 : decode cX12_beside 9 = .ok (.aload_n 0, 1) := by decide +kernel
theorem dX12_beside_10 : decode cX12_beside 10 = .ok (.getfield 247, 3) := by decide +kernel
theorem dX12_beside_13 : decode cX12_beside 13 = .ok (.if_icmp .ge 97, 3) := by decide +kernel
theorem dX12_beside_16 : decode cX12_beside 16 = .ok (.aload_n 0, 1) := by decide +kernel
theorem dX12_beside_17 : decode cX12_beside 17 = .ok (.bipush 45, 2) := by decide +kernel
theorem dX12_beside_19 : decode cX12_beside 19 = .ok (.aload_n 0, 1) := by decide +kernel
theorem dX12_beside_20 : decode cX12_beside 20 = .ok (.getfield 44, 3) := by decide +kernel
theorem dX12_beside_23 : decode cX12_beside 23 = .ok (.iload 5, 2) := by decide +kernel
theorem dX12_beside_25 : decode cX12_beside 25 = .ok (.laload, 1) := by decide +kernel
theorem dX12_beside_26 : decode cX12_beside 26 = .ok (.lload_n 3, 1) := by decide +kernel
theorem dX12_beside_27 : decode cX12_beside 27 = .ok (.aload_n 0, 1) := by decide +kernel
theorem dX12_beside_28 : decode cX12_beside 28 = .ok (.getfield 142, 3) := by decide +kernel
theorem dX12_beside_31 : decode cX12_beside 31 = .ok (.iconst 0, 1) := by decide +kernel
theorem dX12_beside_32 : decode cX12_beside 32 = .ok (.invokevirtual 198, 3) := by decide +kernel
theorem dX12_beside_35 : decode cX12_beside 35 = .ok (.lstore 6, 2) := by decide +kernel
theorem dX12_beside_37 : decode cX12_beside 37 = .ok (.aload_n 0, 1) := by decide +kernel
theorem dX12_beside_38 : decode cX12_beside 38 = .ok (.bipush 43, 2) := by decide +kernel
theorem dX12_beside_40 : decode cX12_beside 40 = .ok (.lload_n 1, 1) := by decide +kernel
theorem dX12_beside_41 : decode cX12_beside 41 = .ok (.lload 6, 2) := by decide +kernel
theorem dX12_beside_43 : decode cX12_beside 43 = .ok (.aload_n 0, 1) := by decide +kernel
theorem dX12_beside_44 : decode cX12_beside 44 = .ok (.getfield 142, 3) := by decide +kernel
theorem dX12_beside_47 : decode cX12_beside 47 = .ok (.iconst 0, 1) := by decide +kernel
theorem dX12_beside_48 : decode cX12_beside 48 = .ok (.invokevirtual 198, 3) := by decide +kernel
theorem dX12_beside_51 : decode cX12_beside 51 = .ok (.lstore 8, 2) := by decide +kernel
theorem dX12_beside_53 : decode cX12_beside 53 = .ok (.aload_n 0, 1) := by decide +kernel
theorem dX12_beside_54 : decode cX12_beside 54 = .ok (.bipush 45, 2) := by decide +kernel
theorem dX12_beside_56 : decode cX12_beside 56 = .ok (.aload_n 0, 1) := by decide +kernel
theorem dX12_beside_57 : decode cX12_beside 57 = .ok (.bipush 45, 2) := by decide +kernel
theorem dX12_beside_59 : decode cX12_beside 59 = .ok (.lload 8, 2) := by decide +kernel
theorem dX12_beside_61 : decode cX12_beside 61 = .ok (.lload_n 1, 1) := by decide +kernel
theorem dX12_beside_62 : decode cX12_beside 62 = .ok (.aload_n 0, 1) := by decide +kernel
theorem dX12_beside_63 : decode cX12_beside 63 = .ok (.getfield 142, 3) := by decide +kernel
theorem dX12_beside_66 : decode cX12_beside 66 = .ok (.iconst 0, 1) := by decide +kernel
theorem dX12_beside_67 : decode cX12_beside 67 = .ok (.invokevirtual 198, 3) := by decide +kernel
theorem dX12_beside_70 : decode cX12_beside 70 = .ok (.lload 6, 2) := by decide +kernel
theorem dX12_beside_72 : decode cX12_beside 72 = .ok (.aload_n 0, 1) := by decide +kernel
theorem dX12_beside_73 : decode cX12_beside 73 = .ok (.getfield 142, 3) := by decide +kernel
theorem dX12_beside_76 : decode cX12_beside 76 = .ok (.iconst 0, 1) := by decide +kernel
theorem dX12_beside_77 : decode cX12_beside 77 = .ok (.invokevirtual 198, 3) := by decide +kernel
theorem dX12_beside_80 : decode cX12_beside 80 = .ok (.lstore_n 3, 1) := by decide +kernel
theorem dX12_beside_81 : decode cX12_beside 81 = .ok (.lload 8, 2) := by decide +kernel
theorem dX12_beside_83 : decode cX12_beside 83 = .ok (.lstore_n 1, 1) := by decide +kernel
theorem dX12_beside_84 : decode cX12_beside 84 = .ok (.lload_n 1, 1) := by decide +kernel
theorem dX12_beside_85 : decode cX12_beside 85 = .ok (.ldc2_w 94, 3) := by decide +kernel
theorem dX12_beside_88 : decode cX12_beside 88 = .ok (.lcmp, 1) := by decide +kernel
theorem dX12_beside_89 : decode cX12_beside 89 = .ok (.ifCond .eq 11, 3) := by decide +kernel
theorem dX12_beside_92 : decode cX12_beside 92 = .ok (.lload_n 3, 1) := by decide +kernel
theorem dX12_beside_93 : decode cX12_beside 93 = .ok (.ldc2_w 94, 3) := by decide +kernel
theorem dX12_beside_96 : decode cX12_beside 96 = .ok (.lcmp, 1) := by decide +kernel
theorem dX12_beside_97 : decode cX12_beside 97 = .ok (.ifCond .ne 7, 3) := by decide +kernel
theorem dX12_beside_100 : decode cX12_beside 100 = .ok (.ldc2_w 94, 3) := by decide +kernel
theorem dX12_beside_103 : decode cX12_beside 103 = .ok (.lreturn, 1) := by decide +kernel
theorem dX12_beside_104 : decode cX12_beside 104 = .ok (.iinc 5 1, 3) := by decide +kernel
theorem dX12_beside_107 : decode cX12_beside 107 = .ok (.goto (-100), 3) := by decide +kernel
theorem dX12_beside_110 : decode cX12_beside 110 = .ok (.lload_n 1, 1) := by decide +kernel
theorem dX12_beside_111 : decode cX12_beside 111 = .ok (.lreturn, 1) := by decide +kernel
set_option maxRecDepth 10000 in
theorem NX12_beside_0 {d : Nat} {S : fW} {h : fH} {Q : Int64 → fH → Prop} {r0 : Nat}  
    (w : G mX12_beside (d + 1) S (f_PL Q) 7 [(0, .ref r0), (1, .long (0 : Int64)), (3, .long (0 : Int64)), (5, .int (0 : Int32))] [] h) :
    OkL (d + 1) mX12_beside S [.ref r0] h Q := by
  refine Ok.of (by decide) (Nat.le_of_ble_eq_true rfl) ?_
  refine G_lconst (v := 0) dX12_beside_0 (by decide) ?_
  refine G_lstore_n dX12_beside_1 rfl (by decide) (lv' := [(1, .long (0 : Int64)), (0, .ref r0)]) rfl ?_
  refine G_lconst (v := 0) dX12_beside_2 (by decide) ?_
  refine G_lstore_n dX12_beside_3 rfl (by decide) (lv' := [(3, .long (0 : Int64)), (1, .long (0 : Int64)), (0, .ref r0)]) rfl ?_
  refine G_iconst (v := 0) dX12_beside_4 (by decide) ?_
  refine G_istore dX12_beside_5 (by decide) (lv' := [(5, .int (0 : Int32)), (3, .long (0 : Int64)), (1, .long (0 : Int64)), (0, .ref r0)]) rfl ?_
  exact G_sub [3, 2, 1, 0] rfl w

set_option maxRecDepth 10000 in
theorem NX12_beside_7 {d : Nat} {S : fW} {h : fH} {Q : Int64 → fH → Prop} {r0 : Nat} {x1 : Int64} {x3 : Int64} {x5 : Int32} {r0_pad r0_text r0_number r0_span r0_now r0_sizeOf r0_workedTo r0_slip r0_exactUpper r0_exactLower r0_more r0_terms r0_order r0_bestOrder r0_low r0_high r0_built r0_better r0_base r0_kept r0_isKept : Nat}  
    (hs1 : (r0, shX12 r0_pad r0_text r0_number r0_span r0_now r0_sizeOf r0_workedTo r0_slip r0_exactUpper r0_exactLower r0_more r0_terms r0_order r0_bestOrder r0_low r0_high r0_built r0_better r0_base r0_kept r0_isKept) ∈ S)
    (hs2 : (r0_terms, shJ 7) ∈ S)
    (w : (((h.1 r0 22) ≤ x5 → Q x1 h) ∧ (¬ (h.1 r0 22) ≤ x5 → vp_in x5 7 ∧ ∃ Q1 : Int64 → fH → Prop, OkL d mX12_made S [.ref r0, .int (45 : Int32), .long (h.2.2.2 r0_terms x5.toNatClampNeg), .long x3, .int (h.1 r0 1), .int (0 : Int32)] h Q1 ∧ ∀ (v_1 : Int64) (h_1 : fH), Q1 v_1 h_1 → ∃ Q2 : Int64 → fH → Prop, OkL d mX12_made S [.ref r0, .int (43 : Int32), .long x1, .long v_1, .int (h_1.1 r0 1), .int (0 : Int32)] h_1 Q2 ∧ ∀ (v_2 : Int64) (h_2 : fH), Q2 v_2 h_2 → ∃ Q3 : Int64 → fH → Prop, OkL d mX12_made S [.ref r0, .int (45 : Int32), .long v_2, .long x1, .int (h_2.1 r0 1), .int (0 : Int32)] h_2 Q3 ∧ ∀ (v_3 : Int64) (h_3 : fH), Q3 v_3 h_3 → ∃ Q4 : Int64 → fH → Prop, OkL d mX12_made S [.ref r0, .int (45 : Int32), .long v_3, .long v_1, .int (h_3.1 r0 1), .int (0 : Int32)] h_3 Q4 ∧ ∀ (v_4 : Int64) (h_4 : fH), Q4 v_4 h_4 → ((v_2 = (1000000000000000000 : Int64) → Q (1000000000000000000 : Int64) h_4) ∧ (¬ v_2 = (1000000000000000000 : Int64) → ((¬ v_4 = (1000000000000000000 : Int64) → G mX12_beside (d + 1) S (f_PL Q) 7 [(0, .ref r0), (1, .long v_2), (3, .long v_4), (5, .int (x5 + 1))] [] h_4) ∧ (v_4 = (1000000000000000000 : Int64) → Q (1000000000000000000 : Int64) h_4))))))) :
    G mX12_beside (d + 1) S (f_PL Q) 7 [(0, .ref r0), (1, .long x1), (3, .long x3), (5, .int x5)] [] h := by
  refine G_iload 3 rfl dX12_beside_7 ?_
  refine G_aload_n 0 rfl dX12_beside_9 rfl ?_
  refine G_geti (k := 22) hs1 (q := (RX12, TX12, 40)) rfl inX12 (by decide) (Or.inl rfl) hF_X12_247 dX12_beside_10 ?_
  refine G_icmp_ge (tgt := 110) dX12_beside_13 (by decide) (fun c1 => ?_) (fun c1 => ?_)
  · have w := w.1 c1
    refine G_lload_n 1 rfl dX12_beside_110 rfl ?_
    exact G_lret rfl dX12_beside_111 ⟨_, rfl, w⟩
  · have w := w.2 c1
    refine G_aload_n 0 rfl dX12_beside_16 rfl ?_
    refine G_bipush (v := 45) dX12_beside_17 (by decide) ?_
    refine G_aload_n 0 rfl dX12_beside_19 rfl ?_
    refine G_getr (j := r0_terms) (k := 21) hs1 (q := (RX12, TX12, 40)) rfl inX12 (by decide) rfl hF_X12_44 dX12_beside_20 ?_
    refine G_iload 3 rfl dX12_beside_23 ?_
    obtain ⟨sd1, w⟩ := w
    refine G_lald hs2 sd1 dX12_beside_25 ?_
    refine G_lload_n 2 rfl dX12_beside_26 rfl ?_
    refine G_aload_n 0 rfl dX12_beside_27 rfl ?_
    refine G_geti (k := 1) hs1 (q := (RX12, TX12, 40)) rfl inX12 (by decide) (Or.inl rfl) hF_X12_142 dX12_beside_28 ?_
    refine G_iconst (v := 0) dX12_beside_31 (by decide) ?_
    obtain ⟨Q1, ok1, w⟩ := w
    refine G_callV (Z := mX12_made) (As := [.int (45 : Int32), .long (h.2.2.2 r0_terms x5.toNatClampNeg), .long x3, .int (h.1 r0 1), .int (0 : Int32)]) (st := []) hL_X12_198 hI_X12_made hS_X12_made hC_X12_made hN_X12 nX12_made (by decide) hs1 rfl rfl rfl (Nat.le_of_ble_eq_true rfl) dX12_beside_32 ok1 (fun r_ h_1 z_ => ?_)
    obtain ⟨v_1, rfl, q_1⟩ := z_
    have w := w v_1 h_1 q_1
    refine G_lstore dX12_beside_35 (by decide) (lv' := [(6, .long v_1), (0, .ref r0), (1, .long x1), (3, .long x3), (5, .int x5)]) rfl ?_
    refine G_aload_n 1 rfl dX12_beside_37 rfl ?_
    refine G_bipush (v := 43) dX12_beside_38 (by decide) ?_
    refine G_lload_n 2 rfl dX12_beside_40 rfl ?_
    refine G_lload 0 rfl dX12_beside_41 ?_
    refine G_aload_n 1 rfl dX12_beside_43 rfl ?_
    refine G_geti (k := 1) hs1 (q := (RX12, TX12, 40)) rfl inX12 (by decide) (Or.inl rfl) hF_X12_142 dX12_beside_44 ?_
    refine G_iconst (v := 0) dX12_beside_47 (by decide) ?_
    obtain ⟨Q2, ok2, w⟩ := w
    refine G_callV (Z := mX12_made) (As := [.int (43 : Int32), .long x1, .long v_1, .int (h_1.1 r0 1), .int (0 : Int32)]) (st := []) hL_X12_198 hI_X12_made hS_X12_made hC_X12_made hN_X12 nX12_made (by decide) hs1 rfl rfl rfl (Nat.le_of_ble_eq_true rfl) dX12_beside_48 ok2 (fun r_ h_2 z_ => ?_)
    obtain ⟨v_2, rfl, q_2⟩ := z_
    have w := w v_2 h_2 q_2
    refine G_lstore dX12_beside_51 (by decide) (lv' := [(8, .long v_2), (6, .long v_1), (0, .ref r0), (1, .long x1), (3, .long x3), (5, .int x5)]) rfl ?_
    refine G_aload_n 2 rfl dX12_beside_53 rfl ?_
    refine G_bipush (v := 45) dX12_beside_54 (by decide) ?_
    refine G_aload_n 2 rfl dX12_beside_56 rfl ?_
    refine G_bipush (v := 45) dX12_beside_57 (by decide) ?_
    refine G_lload 0 rfl dX12_beside_59 ?_
    refine G_lload_n 3 rfl dX12_beside_61 rfl ?_
    refine G_aload_n 2 rfl dX12_beside_62 rfl ?_
    refine G_geti (k := 1) hs1 (q := (RX12, TX12, 40)) rfl inX12 (by decide) (Or.inl rfl) hF_X12_142 dX12_beside_63 ?_
    refine G_iconst (v := 0) dX12_beside_66 (by decide) ?_
    obtain ⟨Q3, ok3, w⟩ := w
    refine G_callV (Z := mX12_made) (As := [.int (45 : Int32), .long v_2, .long x1, .int (h_2.1 r0 1), .int (0 : Int32)]) (st := [.int (45 : Int32), .ref r0]) hL_X12_198 hI_X12_made hS_X12_made hC_X12_made hN_X12 nX12_made (by decide) hs1 rfl rfl rfl (Nat.le_of_ble_eq_true rfl) dX12_beside_67 ok3 (fun r_ h_3 z_ => ?_)
    obtain ⟨v_3, rfl, q_3⟩ := z_
    have w := w v_3 h_3 q_3
    refine G_lload 1 rfl dX12_beside_70 ?_
    refine G_aload_n 2 rfl dX12_beside_72 rfl ?_
    refine G_geti (k := 1) hs1 (q := (RX12, TX12, 40)) rfl inX12 (by decide) (Or.inl rfl) hF_X12_142 dX12_beside_73 ?_
    refine G_iconst (v := 0) dX12_beside_76 (by decide) ?_
    obtain ⟨Q4, ok4, w⟩ := w
    refine G_callV (Z := mX12_made) (As := [.int (45 : Int32), .long v_3, .long v_1, .int (h_3.1 r0 1), .int (0 : Int32)]) (st := []) hL_X12_198 hI_X12_made hS_X12_made hC_X12_made hN_X12 nX12_made (by decide) hs1 rfl rfl rfl (Nat.le_of_ble_eq_true rfl) dX12_beside_77 ok4 (fun r_ h_4 z_ => ?_)
    obtain ⟨v_4, rfl, q_4⟩ := z_
    have w := w v_4 h_4 q_4
    refine G_lstore_n dX12_beside_80 rfl (by decide) (lv' := [(3, .long v_4), (8, .long v_2), (6, .long v_1), (0, .ref r0), (1, .long x1), (5, .int x5)]) rfl ?_
    refine G_lload 1 rfl dX12_beside_81 ?_
    refine G_lstore_n dX12_beside_83 rfl (by decide) (lv' := [(1, .long v_2), (3, .long v_4), (8, .long v_2), (6, .long v_1), (0, .ref r0), (5, .int x5)]) rfl ?_
    refine G_lload_n 0 rfl dX12_beside_84 rfl ?_
    refine G_ldc2 hK_X12_94 dX12_beside_85 ?_
    refine G_lif_eq (tgt := 100) dX12_beside_88 dX12_beside_89 (by decide) (fun c2 => ?_) (fun c2 => ?_)
    · have w := w.1 c2
      refine G_ldc2 hK_X12_94 dX12_beside_100 ?_
      exact G_lret rfl dX12_beside_103 ⟨_, rfl, w⟩
    · have w := w.2 c2
      refine G_lload_n 1 rfl dX12_beside_92 rfl ?_
      refine G_ldc2 hK_X12_94 dX12_beside_93 ?_
      refine G_lif_ne (tgt := 104) dX12_beside_96 dX12_beside_97 (by decide) (fun c3 => ?_) (fun c3 => ?_)
      · have w := w.1 c3
        refine G_iinc (v := 1) 5 rfl dX12_beside_104 (by decide) (by decide) (lv' := [(5, .int (x5 + 1)), (1, .long v_2), (3, .long v_4), (8, .long v_2), (6, .long v_1), (0, .ref r0)]) rfl ?_
        refine G_goto (tgt := 7) dX12_beside_107 (by decide) ?_
        exact G_sub [5, 1, 2, 0] rfl w
      · have w := w.2 c3
        refine G_ldc2 hK_X12_94 dX12_beside_100 ?_
        exact G_lret rfl dX12_beside_103 ⟨_, rfl, w⟩
-- LostDigitsModel.halfOf
theorem dX12_halfOf_0 : decode cX12_halfOf 0 = .ok (.iload_n 2, 1) := by decide +kernel
theorem dX12_halfOf_1 : decode cX12_halfOf 1 = .ok (.iload_n 1, 1) := by decide +kernel
theorem dX12_halfOf_2 : decode cX12_halfOf 2 = .ok (.isub, 1) := by decide +kernel
theorem dX12_halfOf_3 : decode cX12_halfOf 3 = .ok (.iconst 4, 1) := by decide +kernel
theorem dX12_halfOf_4 : decode cX12_halfOf 4 = .ok (.if_icmp .ne 33, 3) := by decide +kernel
theorem dX12_halfOf_7 : decode cX12_halfOf 7 = .ok (.aload_n 0, 1) := by decide +kernel
theorem dX12_halfOf_8 : decode cX12_halfOf 8 = .ok (.bipush 43, 2) := by decide +kernel
theorem dX12_halfOf_10 : decode cX12_halfOf 10 = .ok (.aload_n 0, 1) := by decide +kernel
theorem dX12_halfOf_11 : decode cX12_halfOf 11 = .ok (.iload_n 1, 1) := by decide +kernel
theorem dX12_halfOf_12 : decode cX12_halfOf 12 = .ok (.iload_n 1, 1) := by decide +kernel
theorem dX12_halfOf_13 : decode cX12_halfOf 13 = .ok (.iconst 2, 1) := by decide +kernel
theorem dX12_halfOf_14 : decode cX12_halfOf 14 = .ok (.iadd, 1) := by decide +kernel
theorem dX12_halfOf_15 : decode cX12_halfOf 15 = .ok (.invokevirtual 250, 3) := by decide +kernel
theorem dX12_halfOf_18 : decode cX12_halfOf 18 = .ok (.aload_n 0, 1) := by decide +kernel
theorem dX12_halfOf_19 : decode cX12_halfOf 19 = .ok (.iload_n 1, 1) := by decide +kernel
theorem dX12_halfOf_20 : decode cX12_halfOf 20 = .ok (.iconst 2, 1) := by decide +kernel
theorem dX12_halfOf_21 : decode cX12_halfOf 21 = .ok (.iadd, 1) := by decide +kernel
theorem dX12_halfOf_22 : decode cX12_halfOf 22 = .ok (.iload_n 2, 1) := by decide +kernel
theorem dX12_halfOf_23 : decode cX12_halfOf 23 = .ok (.invokevirtual 250, 3) := by decide +kernel
theorem dX12_halfOf_26 : decode cX12_halfOf 26 = .ok (.aload_n 0, 1) := by decide +kernel
theorem dX12_halfOf_27 : decode cX12_halfOf 27 = .ok (.getfield 142, 3) := by decide +kernel
theorem dX12_halfOf_30 : decode cX12_halfOf 30 = .ok (.iconst 0, 1) := by decide +kernel
theorem dX12_halfOf_31 : decode cX12_halfOf 31 = .ok (.invokevirtual 198, 3) := by decide +kernel
theorem dX12_halfOf_34 : decode cX12_halfOf 34 = .ok (.goto 9, 3) := by decide +kernel
theorem dX12_halfOf_37 : decode cX12_halfOf 37 = .ok (.aload_n 0, 1) := by decide +kernel
theorem dX12_halfOf_38 : decode cX12_halfOf 38 = .ok (.iload_n 1, 1) := by decide +kernel
theorem dX12_halfOf_39 : decode cX12_halfOf 39 = .ok (.iload_n 2, 1) := by decide +kernel
theorem dX12_halfOf_40 : decode cX12_halfOf 40 = .ok (.invokevirtual 250, 3) := by decide +kernel
theorem dX12_halfOf_43 : decode cX12_halfOf 43 = .ok (.lreturn, 1) := by decide +kernel
set_option maxRecDepth 10000 in
theorem NX12_halfOf_0 {d : Nat} {S : fW} {h : fH} {Q : Int64 → fH → Prop} {r0 : Nat} {x1 : Int32} {x2 : Int32} {r0_pad r0_text r0_number r0_span r0_now r0_sizeOf r0_workedTo r0_slip r0_exactUpper r0_exactLower r0_more r0_terms r0_order r0_bestOrder r0_low r0_high r0_built r0_better r0_base r0_kept r0_isKept : Nat}  
    (hs1 : (r0, shX12 r0_pad r0_text r0_number r0_span r0_now r0_sizeOf r0_workedTo r0_slip r0_exactUpper r0_exactLower r0_more r0_terms r0_order r0_bestOrder r0_low r0_high r0_built r0_better r0_base r0_kept r0_isKept) ∈ S)
    (w : ((¬ (x2 - x1) = (4 : Int32) → ∃ Q1 : Int64 → fH → Prop, OkL d mX12_sumOf S [.ref r0, .int x1, .int x2] h Q1 ∧ ∀ (v_1 : Int64) (h_1 : fH), Q1 v_1 h_1 → Q v_1 h_1) ∧ ((x2 - x1) = (4 : Int32) → ∃ Q2 : Int64 → fH → Prop, OkL d mX12_sumOf S [.ref r0, .int x1, .int (x1 + (2 : Int32))] h Q2 ∧ ∀ (v_2 : Int64) (h_2 : fH), Q2 v_2 h_2 → ∃ Q3 : Int64 → fH → Prop, OkL d mX12_sumOf S [.ref r0, .int (x1 + (2 : Int32)), .int x2] h_2 Q3 ∧ ∀ (v_3 : Int64) (h_3 : fH), Q3 v_3 h_3 → ∃ Q4 : Int64 → fH → Prop, OkL d mX12_made S [.ref r0, .int (43 : Int32), .long v_2, .long v_3, .int (h_3.1 r0 1), .int (0 : Int32)] h_3 Q4 ∧ ∀ (v_4 : Int64) (h_4 : fH), Q4 v_4 h_4 → Q v_4 h_4))) :
    OkL (d + 1) mX12_halfOf S [.ref r0, .int x1, .int x2] h Q := by
  refine Ok.of (by decide) (Nat.le_of_ble_eq_true rfl) ?_
  refine G_iload_n 2 rfl dX12_halfOf_0 rfl ?_
  refine G_iload_n 1 rfl dX12_halfOf_1 rfl ?_
  refine G_isub dX12_halfOf_2 ?_
  refine G_iconst (v := 4) dX12_halfOf_3 (by decide) ?_
  refine G_icmp_ne (tgt := 37) dX12_halfOf_4 (by decide) (fun c1 => ?_) (fun c1 => ?_)
  · have w := w.1 c1
    refine G_aload_n 0 rfl dX12_halfOf_37 rfl ?_
    refine G_iload_n 1 rfl dX12_halfOf_38 rfl ?_
    refine G_iload_n 2 rfl dX12_halfOf_39 rfl ?_
    obtain ⟨Q1, ok1, w⟩ := w
    refine G_callV (Z := mX12_sumOf) (As := [.int x1, .int x2]) (st := []) hL_X12_250 hI_X12_sumOf hS_X12_sumOf hC_X12_sumOf hN_X12 nX12_sumOf (by decide) hs1 rfl rfl rfl (Nat.le_of_ble_eq_true rfl) dX12_halfOf_40 ok1 (fun r_ h_1 z_ => ?_)
    obtain ⟨v_1, rfl, q_1⟩ := z_
    have w := w v_1 h_1 q_1
    exact G_lret rfl dX12_halfOf_43 ⟨_, rfl, w⟩
  · have w := w.2 c1
    refine G_aload_n 0 rfl dX12_halfOf_7 rfl ?_
    refine G_bipush (v := 43) dX12_halfOf_8 (by decide) ?_
    refine G_aload_n 0 rfl dX12_halfOf_10 rfl ?_
    refine G_iload_n 1 rfl dX12_halfOf_11 rfl ?_
    refine G_iload_n 1 rfl dX12_halfOf_12 rfl ?_
    refine G_iconst (v := 2) dX12_halfOf_13 (by decide) ?_
    refine G_iadd dX12_halfOf_14 ?_
    obtain ⟨Q2, ok2, w⟩ := w
    refine G_callV (Z := mX12_sumOf) (As := [.int x1, .int (x1 + (2 : Int32))]) (st := [.int (43 : Int32), .ref r0]) hL_X12_250 hI_X12_sumOf hS_X12_sumOf hC_X12_sumOf hN_X12 nX12_sumOf (by decide) hs1 rfl rfl rfl (Nat.le_of_ble_eq_true rfl) dX12_halfOf_15 ok2 (fun r_ h_2 z_ => ?_)
    obtain ⟨v_2, rfl, q_2⟩ := z_
    have w := w v_2 h_2 q_2
    refine G_aload_n 0 rfl dX12_halfOf_18 rfl ?_
    refine G_iload_n 1 rfl dX12_halfOf_19 rfl ?_
    refine G_iconst (v := 2) dX12_halfOf_20 (by decide) ?_
    refine G_iadd dX12_halfOf_21 ?_
    refine G_iload_n 2 rfl dX12_halfOf_22 rfl ?_
    obtain ⟨Q3, ok3, w⟩ := w
    refine G_callV (Z := mX12_sumOf) (As := [.int (x1 + (2 : Int32)), .int x2]) (st := [.long v_2, .int (43 : Int32), .ref r0]) hL_X12_250 hI_X12_sumOf hS_X12_sumOf hC_X12_sumOf hN_X12 nX12_sumOf (by decide) hs1 rfl rfl rfl (Nat.le_of_ble_eq_true rfl) dX12_halfOf_23 ok3 (fun r_ h_3 z_ => ?_)
    obtain ⟨v_3, rfl, q_3⟩ := z_
    have w := w v_3 h_3 q_3
    refine G_aload_n 0 rfl dX12_halfOf_26 rfl ?_
    refine G_geti (k := 1) hs1 (q := (RX12, TX12, 40)) rfl inX12 (by decide) (Or.inl rfl) hF_X12_142 dX12_halfOf_27 ?_
    refine G_iconst (v := 0) dX12_halfOf_30 (by decide) ?_
    obtain ⟨Q4, ok4, w⟩ := w
    refine G_callV (Z := mX12_made) (As := [.int (43 : Int32), .long v_2, .long v_3, .int (h_3.1 r0 1), .int (0 : Int32)]) (st := []) hL_X12_198 hI_X12_made hS_X12_made hC_X12_made hN_X12 nX12_made (by decide) hs1 rfl rfl rfl (Nat.le_of_ble_eq_true rfl) dX12_halfOf_31 ok4 (fun r_ h_4 z_ => ?_)
    obtain ⟨v_4, rfl, q_4⟩ := z_
    have w := w v_4 h_4 q_4
    refine G_goto (tgt := 43) dX12_halfOf_34 (by decide) ?_
    exact G_lret rfl dX12_halfOf_43 ⟨_, rfl, w⟩
-- LostDigitsModel.halves
theorem dX12_halves_0 : decode cX12_halves 0 = .ok (.aload_n 0, 1) := by decide +kernel
theorem dX12_halves_1 : decode cX12_halves 1 = .ok (.getfield 247, 3) := by decide +kernel
theorem dX12_halves_4 : decode cX12_halves 4 = .ok (.iconst 1, 1) := by decide +kernel
theorem dX12_halves_5 : decode cX12_halves 5 = .ok (.iadd, 1) := by decide +kernel
theorem dX12_halves_6 : decode cX12_halves 6 = .ok (.iconst 2, 1) := by decide +kernel
theorem dX12_halves_7 : decode cX12_halves 7 = .ok (.idiv, 1) := by decide +kernel
theorem dX12_halves_8 : decode cX12_halves 8 = .ok (.istore_n 1, 1) := by decide +kernel
theorem dX12_halves_9 : decode cX12_halves 9 = .ok (.aload_n 0, 1) := by decide +kernel
theorem dX12_halves_10 : decode cX12_halves 10 = .ok (.iconst 0, 1) := by decide +kernel
theorem dX12_halves_11 : decode cX12_halves 11 = .ok (.iload_n 1, 1) := by decide +kernel
theorem dX12_halves_12 : decode cX12_halves 12 = .ok (.invokevirtual 253, 3) := by decide +kernel
theorem dX12_halves_15 : decode cX12_halves 15 = .ok (.lstore_n 2, 1) := by decide +kernel
theorem dX12_halves_16 : decode cX12_halves 16 = .ok (.iload_n 1, 1) := by decide +kernel
theorem dX12_halves_17 : decode cX12_halves 17 = .ok (.aload_n 0, 1) := by decide +kernel
theorem dX12_halves_18 : decode cX12_halves 18 = .ok (.getfield 247, 3) := by decide +kernel
theorem dX12_halves_21 : decode cX12_halves 21 = .ok (.if_icmp .ne 7, 3) := by decide +kernel
theorem dX12_halves_24 : decode cX12_halves 24 = .ok (.lload_n 2, 1) := by decide +kernel
theorem dX12_halves_25 : decode cX12_halves 25 = .ok (.goto 24, 3) := by decide +kernel
theorem dX12_halves_28 : decode cX12_halves 28 = .ok (.aload_n 0, 1) := by decide +kernel
theorem dX12_halves_29 : decode cX12_halves 29 = .ok (.bipush 43, 2) := by decide +kernel
theorem dX12_halves_31 : decode cX12_halves 31 = .ok (.lload_n 2, 1) := by decide +kernel
theorem dX12_halves_32 : decode cX12_halves 32 = .ok (.aload_n 0, 1) := by decide +kernel
theorem dX12_halves_33 : decode cX12_halves 33 = .ok (.iload_n 1, 1) := by decide +kernel
theorem dX12_halves_34 : decode cX12_halves 34 = .ok (.aload_n 0, 1) := by decide +kernel
theorem dX12_halves_35 : decode cX12_halves 35 = .ok (.getfield 247, 3) := by decide +kernel
theorem dX12_halves_38 : decode cX12_halves 38 = .ok (.invokevirtual 253, 3) := by decide +kernel
theorem dX12_halves_41 : decode cX12_halves 41 = .ok (.aload_n 0, 1) := by decide +kernel
theorem dX12_halves_42 : decode cX12_halves 42 = .ok (.getfield 142, 3) := by decide +kernel
theorem dX12_halves_45 : decode cX12_halves 45 = .ok (.iconst 0, 1) := by decide +kernel
theorem dX12_halves_46 : decode cX12_halves 46 = .ok (.invokevirtual 198, 3) := by decide +kernel
theorem dX12_halves_49 : decode cX12_halves 49 = .ok (.lreturn, 1) := by decide +kernel
set_option maxRecDepth 10000 in
theorem NX12_halves_0 {d : Nat} {S : fW} {h : fH} {Q : Int64 → fH → Prop} {r0 : Nat} {r0_pad r0_text r0_number r0_span r0_now r0_sizeOf r0_workedTo r0_slip r0_exactUpper r0_exactLower r0_more r0_terms r0_order r0_bestOrder r0_low r0_high r0_built r0_better r0_base r0_kept r0_isKept : Nat}  
    (hs1 : (r0, shX12 r0_pad r0_text r0_number r0_span r0_now r0_sizeOf r0_workedTo r0_slip r0_exactUpper r0_exactLower r0_more r0_terms r0_order r0_bestOrder r0_low r0_high r0_built r0_better r0_base r0_kept r0_isKept) ∈ S)
    (w : ∃ Q1 : Int64 → fH → Prop, OkL d mX12_halfOf S [.ref r0, .int (0 : Int32), .int (((h.1 r0 22) + (1 : Int32)) / (2 : Int32))] h Q1 ∧ ∀ (v_1 : Int64) (h_1 : fH), Q1 v_1 h_1 → ((¬ (((h.1 r0 22) + (1 : Int32)) / (2 : Int32)) = (h_1.1 r0 22) → ∃ Q2 : Int64 → fH → Prop, OkL d mX12_halfOf S [.ref r0, .int (((h.1 r0 22) + (1 : Int32)) / (2 : Int32)), .int (h_1.1 r0 22)] h_1 Q2 ∧ ∀ (v_2 : Int64) (h_2 : fH), Q2 v_2 h_2 → ∃ Q3 : Int64 → fH → Prop, OkL d mX12_made S [.ref r0, .int (43 : Int32), .long v_1, .long v_2, .int (h_2.1 r0 1), .int (0 : Int32)] h_2 Q3 ∧ ∀ (v_3 : Int64) (h_3 : fH), Q3 v_3 h_3 → Q v_3 h_3) ∧ ((((h.1 r0 22) + (1 : Int32)) / (2 : Int32)) = (h_1.1 r0 22) → Q v_1 h_1))) :
    OkL (d + 1) mX12_halves S [.ref r0] h Q := by
  refine Ok.of (by decide) (Nat.le_of_ble_eq_true rfl) ?_
  refine G_aload_n 0 rfl dX12_halves_0 rfl ?_
  refine G_geti (k := 22) hs1 (q := (RX12, TX12, 40)) rfl inX12 (by decide) (Or.inl rfl) hF_X12_247 dX12_halves_1 ?_
  refine G_iconst (v := 1) dX12_halves_4 (by decide) ?_
  refine G_iadd dX12_halves_5 ?_
  refine G_iconst (v := 2) dX12_halves_6 (by decide) ?_
  refine G_idiv dX12_halves_7 (by decide) ?_
  refine G_istore_n dX12_halves_8 rfl (by decide) (lv' := [(1, .int (((h.1 r0 22) + (1 : Int32)) / (2 : Int32))), (0, .ref r0)]) rfl ?_
  refine G_aload_n 1 rfl dX12_halves_9 rfl ?_
  refine G_iconst (v := 0) dX12_halves_10 (by decide) ?_
  refine G_iload_n 0 rfl dX12_halves_11 rfl ?_
  obtain ⟨Q1, ok1, w⟩ := w
  refine G_callV (Z := mX12_halfOf) (As := [.int (0 : Int32), .int (((h.1 r0 22) + (1 : Int32)) / (2 : Int32))]) (st := []) hL_X12_253 hI_X12_halfOf hS_X12_halfOf hC_X12_halfOf hN_X12 nX12_halfOf (by decide) hs1 rfl rfl rfl (Nat.le_of_ble_eq_true rfl) dX12_halves_12 ok1 (fun r_ h_1 z_ => ?_)
  obtain ⟨v_1, rfl, q_1⟩ := z_
  have w := w v_1 h_1 q_1
  refine G_lstore_n dX12_halves_15 rfl (by decide) (lv' := [(2, .long v_1), (1, .int (((h.1 r0 22) + (1 : Int32)) / (2 : Int32))), (0, .ref r0)]) rfl ?_
  refine G_iload_n 1 rfl dX12_halves_16 rfl ?_
  refine G_aload_n 2 rfl dX12_halves_17 rfl ?_
  refine G_geti (k := 22) hs1 (q := (RX12, TX12, 40)) rfl inX12 (by decide) (Or.inl rfl) hF_X12_247 dX12_halves_18 ?_
  refine G_icmp_ne (tgt := 28) dX12_halves_21 (by decide) (fun c1 => ?_) (fun c1 => ?_)
  · have w := w.1 c1
    refine G_aload_n 2 rfl dX12_halves_28 rfl ?_
    refine G_bipush (v := 43) dX12_halves_29 (by decide) ?_
    refine G_lload_n 0 rfl dX12_halves_31 rfl ?_
    refine G_aload_n 2 rfl dX12_halves_32 rfl ?_
    refine G_iload_n 1 rfl dX12_halves_33 rfl ?_
    refine G_aload_n 2 rfl dX12_halves_34 rfl ?_
    refine G_geti (k := 22) hs1 (q := (RX12, TX12, 40)) rfl inX12 (by decide) (Or.inl rfl) hF_X12_247 dX12_halves_35 ?_
    obtain ⟨Q2, ok2, w⟩ := w
    refine G_callV (Z := mX12_halfOf) (As := [.int (((h.1 r0 22) + (1 : Int32)) / (2 : Int32)), .int (h_1.1 r0 22)]) (st := [.long v_1, .int (43 : Int32), .ref r0]) hL_X12_253 hI_X12_halfOf hS_X12_halfOf hC_X12_halfOf hN_X12 nX12_halfOf (by decide) hs1 rfl rfl rfl (Nat.le_of_ble_eq_true rfl) dX12_halves_38 ok2 (fun r_ h_2 z_ => ?_)
    obtain ⟨v_2, rfl, q_2⟩ := z_
    have w := w v_2 h_2 q_2
    refine G_aload_n 2 rfl dX12_halves_41 rfl ?_
    refine G_geti (k := 1) hs1 (q := (RX12, TX12, 40)) rfl inX12 (by decide) (Or.inl rfl) hF_X12_142 dX12_halves_42 ?_
    refine G_iconst (v := 0) dX12_halves_45 (by decide) ?_
    obtain ⟨Q3, ok3, w⟩ := w
    refine G_callV (Z := mX12_made) (As := [.int (43 : Int32), .long v_1, .long v_2, .int (h_2.1 r0 1), .int (0 : Int32)]) (st := []) hL_X12_198 hI_X12_made hS_X12_made hC_X12_made hN_X12 nX12_made (by decide) hs1 rfl rfl rfl (Nat.le_of_ble_eq_true rfl) dX12_halves_46 ok3 (fun r_ h_3 z_ => ?_)
    obtain ⟨v_3, rfl, q_3⟩ := z_
    have w := w v_3 h_3 q_3
    exact G_lret rfl dX12_halves_49 ⟨_, rfl, w⟩
  · have w := w.2 c1
    refine G_lload_n 0 rfl dX12_halves_24 rfl ?_
    refine G_goto (tgt := 49) dX12_halves_25 (by decide) ?_
    exact G_lret rfl dX12_halves_49 ⟨_, rfl, w⟩
-- LostDigitsModel.orderBySize
theorem dX12_orderBySize_0 : decode cX12_orderBySize 0 = .ok (.iconst 1, 1) := by decide +kernel
theorem dX12_orderBySize_1 : decode cX12_orderBySize 1 = .ok (.istore_n 1, 1) := by decide +kernel
theorem dX12_orderBySize_2 : decode cX12_orderBySize 2 = .ok (.iload_n 1, 1) := by decide +kernel
theorem dX12_orderBySize_3 : decode cX12_orderBySize 3 = .ok (.aload_n 0, 1) := by decide +kernel
theorem dX12_orderBySize_4 : decode cX12_orderBySize 4 = .ok (.getfield 247, 3) := by decide +kernel
theorem dX12_orderBySize_7 : decode cX12_orderBySize 7 = .ok (.if_icmp .ge 78, 3) := by decide +kernel
theorem dX12_orderBySize_10 : decode cX12_orderBySize 10 = .ok (.aload_n 0, 1) := by decide +kernel
theorem dX12_orderBySize_11 : decode cX12_orderBySize 11 = .ok (.getfield 47, 3) := by decide +kernel
theorem dX12_orderBySize_14 : decode cX12_orderBySize 14 = .ok (.iload_n 1, 1) := by decide +kernel
theorem dX12_orderBySize_15 : decode cX12_orderBySize 15 = .ok (.iaload, 1) := by decide +kernel
theorem dX12_orderBySize_16 : decode cX12_orderBySize 16 = .ok (.istore_n 2, 1) := by decide +kernel
theorem dX12_orderBySize_17 : decode cX12_orderBySize 17 = .ok (.iload_n 1, 1) := by decide +kernel
theorem dX12_orderBySize_18 : decode cX12_orderBySize 18 = .ok (.istore_n 3, 1) := by decide +kernel
theorem dX12_orderBySize_19 : decode cX12_orderBySize 19 = .ok (.iload_n 3, 1) := by decide +kernel
theorem dX12_orderBySize_20 : decode cX12_orderBySize 20 = .ok (.ifCond .le 52, 3) := by decide +kernel
theorem dX12_orderBySize_23 : decode cX12_orderBySize 23 = .ok (.aload_n 0, 1) := by decide +kernel
theorem dX12_orderBySize_24 : decode cX12_orderBySize 24 = .ok (.getfield 44, 3) := by decide +kernel
theorem dX12_orderBySize_27 : decode cX12_orderBySize 27 = .ok (.aload_n 0, 1) := by decide +kernel
theorem dX12_orderBySize_28 : decode cX12_orderBySize 28 = .ok (.getfield 47, 3) := by decide +kernel
theorem dX12_orderBySize_31 : decode cX12_orderBySize 31 = .ok (.iload_n 3, 1) := by decide +kernel
theorem dX12_orderBySize_32 : decode cX12_orderBySize 32 = .ok (.iconst 1, 1) := by decide +kernel
theorem dX12_orderBySize_33 : decode cX12_orderBySize 33 = .ok (.isub, 1) := by decide +kernel
theorem dX12_orderBySize_34 : decode cX12_orderBySize 34 = .ok (.iaload, 1) := by decide +kernel
theorem dX12_orderBySize_35 : decode cX12_orderBySize 35 = .ok (.laload, 1) := by decide +kernel
theorem dX12_orderBySize_36 : decode cX12_orderBySize 36 = .ok (.invokestatic 98, 3) := by decide +kernel
theorem dX12_orderBySize_39 : decode cX12_orderBySize 39 = .ok (.aload_n 0, 1) := by decide +kernel
theorem dX12_orderBySize_40 : decode cX12_orderBySize 40 = .ok (.getfield 44, 3) := by decide +kernel
theorem dX12_orderBySize_43 : decode cX12_orderBySize 43 = .ok (.iload_n 2, 1) := by decide +kernel
theorem dX12_orderBySize_44 : decode cX12_orderBySize 44 = .ok (.laload, 1) := by decide +kernel
theorem dX12_orderBySize_45 : decode cX12_orderBySize 45 = .ok (.invokestatic 98, 3) := by decide +kernel
theorem dX12_orderBySize_48 : decode cX12_orderBySize 48 = .ok (.lcmp, 1) := by decide +kernel
theorem dX12_orderBySize_49 : decode cX12_orderBySize 49 = .ok (.ifCond .le 23, 3) := by decide +kernel
theorem dX12_orderBySize_52 : decode cX12_orderBySize 52 = .ok (.aload_n 0, 1) := by decide +kernel
theorem dX12_orderBySize_53 : decode cX12_orderBySize 53 = .ok (.getfield 47, 3) := by decide +kernel
theorem dX12_orderBySize_56 : decode cX12_orderBySize 56 = .ok (.iload_n 3, 1) := by decide +kernel
theorem dX12_orderBySize_57 : decode cX12_orderBySize 57 = .ok (.aload_n 0, 1) := by decide +kernel
theorem dX12_orderBySize_58 : decode cX12_orderBySize 58 = .ok (.getfield 47, 3) := by decide +kernel
theorem dX12_orderBySize_61 : decode cX12_orderBySize 61 = .ok (.iload_n 3, 1) := by decide +kernel
theorem dX12_orderBySize_62 : decode cX12_orderBySize 62 = .ok (.iconst 1, 1) := by decide +kernel
theorem dX12_orderBySize_63 : decode cX12_orderBySize 63 = .ok (.isub, 1) := by decide +kernel
theorem dX12_orderBySize_64 : decode cX12_orderBySize 64 = .ok (.iaload, 1) := by decide +kernel
theorem dX12_orderBySize_65 : decode cX12_orderBySize 65 = .ok (.iastore, 1) := by decide +kernel
theorem dX12_orderBySize_66 : decode cX12_orderBySize 66 = .ok (.iinc 3 (-1), 3) := by decide +kernel
theorem dX12_orderBySize_69 : decode cX12_orderBySize 69 = .ok (.goto (-50), 3) := by decide +kernel
theorem dX12_orderBySize_72 : decode cX12_orderBySize 72 = .ok (.aload_n 0, 1) := by decide +kernel
theorem dX12_orderBySize_73 : decode cX12_orderBySize 73 = .ok (.getfield 47, 3) := by decide +kernel
theorem dX12_orderBySize_76 : decode cX12_orderBySize 76 = .ok (.iload_n 3, 1) := by decide +kernel
theorem dX12_orderBySize_77 : decode cX12_orderBySize 77 = .ok (.iload_n 2, 1) := by decide +kernel
theorem dX12_orderBySize_78 : decode cX12_orderBySize 78 = .ok (.iastore, 1) := by decide +kernel
theorem dX12_orderBySize_79 : decode cX12_orderBySize 79 = .ok (.iinc 1 1, 3) := by decide +kernel
theorem dX12_orderBySize_82 : decode cX12_orderBySize 82 = .ok (.goto (-80), 3) := by decide +kernel
theorem dX12_orderBySize_85 : decode cX12_orderBySize 85 = .ok (.return_, 1) := by decide +kernel
set_option maxRecDepth 10000 in
theorem NX12_orderBySize_0 {d : Nat} {S : fW} {h : fH} {Q : fH → Prop} {r0 : Nat}  
    (w : G mX12_orderBySize (d + 1) S (f_PV Q) 2 [(0, .ref r0), (1, .int (1 : Int32))] [] h) :
    OkV (d + 1) mX12_orderBySize S [.ref r0] h Q := by
  refine Ok.of (by decide) (Nat.le_of_ble_eq_true rfl) ?_
  refine G_iconst (v := 1) dX12_orderBySize_0 (by decide) ?_
  refine G_istore_n dX12_orderBySize_1 rfl (by decide) (lv' := [(1, .int (1 : Int32)), (0, .ref r0)]) rfl ?_
  exact G_sub [1, 0] rfl w

set_option maxRecDepth 10000 in
theorem NX12_orderBySize_2 {d : Nat} {S : fW} {h : fH} {Q : fH → Prop} {r0 : Nat} {x1 : Int32} {r0_pad r0_text r0_number r0_span r0_now r0_sizeOf r0_workedTo r0_slip r0_exactUpper r0_exactLower r0_more r0_terms r0_order r0_bestOrder r0_low r0_high r0_built r0_better r0_base r0_kept r0_isKept : Nat}  
    (hs1 : (r0, shX12 r0_pad r0_text r0_number r0_span r0_now r0_sizeOf r0_workedTo r0_slip r0_exactUpper r0_exactLower r0_more r0_terms r0_order r0_bestOrder r0_low r0_high r0_built r0_better r0_base r0_kept r0_isKept) ∈ S)
    (hs2 : (r0_order, shI 7) ∈ S)
    (w : (((h.1 r0 22) ≤ x1 → Q h) ∧ (¬ (h.1 r0 22) ≤ x1 → vp_in x1 7 ∧ G mX12_orderBySize (d + 1) S (f_PV Q) 19 [(0, .ref r0), (1, .int x1), (2, .int (h.2.2.1 r0_order x1.toNatClampNeg)), (3, .int x1)] [] h))) :
    G mX12_orderBySize (d + 1) S (f_PV Q) 2 [(0, .ref r0), (1, .int x1)] [] h := by
  refine G_iload_n 1 rfl dX12_orderBySize_2 rfl ?_
  refine G_aload_n 0 rfl dX12_orderBySize_3 rfl ?_
  refine G_geti (k := 22) hs1 (q := (RX12, TX12, 40)) rfl inX12 (by decide) (Or.inl rfl) hF_X12_247 dX12_orderBySize_4 ?_
  refine G_icmp_ge (tgt := 85) dX12_orderBySize_7 (by decide) (fun c1 => ?_) (fun c1 => ?_)
  · have w := w.1 c1
    exact G_vret rfl dX12_orderBySize_85 ⟨rfl, w⟩
  · have w := w.2 c1
    refine G_aload_n 0 rfl dX12_orderBySize_10 rfl ?_
    refine G_getr (j := r0_order) (k := 23) hs1 (q := (RX12, TX12, 40)) rfl inX12 (by decide) rfl hF_X12_47 dX12_orderBySize_11 ?_
    refine G_iload_n 1 rfl dX12_orderBySize_14 rfl ?_
    obtain ⟨sd1, w⟩ := w
    refine G_iald hs2 sd1 dX12_orderBySize_15 ?_
    refine G_istore_n dX12_orderBySize_16 rfl (by decide) (lv' := [(2, .int (h.2.2.1 r0_order x1.toNatClampNeg)), (0, .ref r0), (1, .int x1)]) rfl ?_
    refine G_iload_n 2 rfl dX12_orderBySize_17 rfl ?_
    refine G_istore_n dX12_orderBySize_18 rfl (by decide) (lv' := [(3, .int x1), (2, .int (h.2.2.1 r0_order x1.toNatClampNeg)), (0, .ref r0), (1, .int x1)]) rfl ?_
    exact G_sub [2, 3, 1, 0] rfl w

set_option maxRecDepth 10000 in
theorem NX12_orderBySize_19 {d : Nat} {S : fW} {h : fH} {Q : fH → Prop} {r0 : Nat} {x1 : Int32} {x2 : Int32} {x3 : Int32} {r0_pad r0_text r0_number r0_span r0_now r0_sizeOf r0_workedTo r0_slip r0_exactUpper r0_exactLower r0_more r0_terms r0_order r0_bestOrder r0_low r0_high r0_built r0_better r0_base r0_kept r0_isKept : Nat}  
    (hs1 : (r0, shX12 r0_pad r0_text r0_number r0_span r0_now r0_sizeOf r0_workedTo r0_slip r0_exactUpper r0_exactLower r0_more r0_terms r0_order r0_bestOrder r0_low r0_high r0_built r0_better r0_base r0_kept r0_isKept) ∈ S)
    (hs2 : (r0_order, shI 7) ∈ S)
    (hs3 : (r0_terms, shJ 7) ∈ S)
    (w : ((x3 ≤ 0 → vp_in x3 7 ∧ ∀ g_1 : fH, g_1 = u_ai h r0_order (upd (h.2.2.1 r0_order) x3.toNatClampNeg x2) → G mX12_orderBySize (d + 1) S (f_PV Q) 2 [(0, .ref r0), (1, .int (x1 + 1))] [] g_1) ∧ (¬ x3 ≤ 0 → vp_in (x3 - (1 : Int32)) 7 ∧ vp_in (h.2.2.1 r0_order (x3 - (1 : Int32)).toNatClampNeg) 7 ∧ ∃ Q1 : Int64 → fH → Prop, OkL d mX12_size S [.long (h.2.2.2 r0_terms (h.2.2.1 r0_order (x3 - (1 : Int32)).toNatClampNeg).toNatClampNeg)] h Q1 ∧ ∀ (v_1 : Int64) (h_1 : fH), Q1 v_1 h_1 → vp_in x2 7 ∧ ∃ Q2 : Int64 → fH → Prop, OkL d mX12_size S [.long (h_1.2.2.2 r0_terms x2.toNatClampNeg)] h_1 Q2 ∧ ∀ (v_2 : Int64) (h_2 : fH), Q2 v_2 h_2 → ((v_1 ≤ v_2 → vp_in x3 7 ∧ ∀ g_2 : fH, g_2 = u_ai h_2 r0_order (upd (h_2.2.2.1 r0_order) x3.toNatClampNeg x2) → G mX12_orderBySize (d + 1) S (f_PV Q) 2 [(0, .ref r0), (1, .int (x1 + 1))] [] g_2) ∧ (¬ v_1 ≤ v_2 → vp_in x3 7 ∧ ∀ g_3 : fH, g_3 = u_ai h_2 r0_order (upd (h_2.2.2.1 r0_order) x3.toNatClampNeg (h_2.2.2.1 r0_order (x3 - (1 : Int32)).toNatClampNeg)) → G mX12_orderBySize (d + 1) S (f_PV Q) 19 [(0, .ref r0), (1, .int x1), (2, .int x2), (3, .int (x3 + (-1)))] [] g_3))))) :
    G mX12_orderBySize (d + 1) S (f_PV Q) 19 [(0, .ref r0), (1, .int x1), (2, .int x2), (3, .int x3)] [] h := by
  refine G_iload_n 3 rfl dX12_orderBySize_19 rfl ?_
  refine G_if_le (tgt := 72) dX12_orderBySize_20 (by decide) (fun c1 => ?_) (fun c1 => ?_)
  · have w := w.1 c1
    refine G_aload_n 0 rfl dX12_orderBySize_72 rfl ?_
    refine G_getr (j := r0_order) (k := 23) hs1 (q := (RX12, TX12, 40)) rfl inX12 (by decide) rfl hF_X12_47 dX12_orderBySize_73 ?_
    refine G_iload_n 3 rfl dX12_orderBySize_76 rfl ?_
    refine G_iload_n 2 rfl dX12_orderBySize_77 rfl ?_
    obtain ⟨sd1, w⟩ := w
    refine G_iast hs2 sd1 dX12_orderBySize_78 ?_
    refine G_nm (fun g_1 e_1 => ?_)
    have w := w g_1 e_1
    refine G_iinc (v := 1) 1 rfl dX12_orderBySize_79 (by decide) (by decide) (lv' := [(1, .int (x1 + 1)), (0, .ref r0), (2, .int x2), (3, .int x3)]) rfl ?_
    refine G_goto (tgt := 2) dX12_orderBySize_82 (by decide) ?_
    exact G_sub [1, 0] rfl w
  · have w := w.2 c1
    refine G_aload_n 0 rfl dX12_orderBySize_23 rfl ?_
    refine G_getr (j := r0_terms) (k := 21) hs1 (q := (RX12, TX12, 40)) rfl inX12 (by decide) rfl hF_X12_44 dX12_orderBySize_24 ?_
    refine G_aload_n 0 rfl dX12_orderBySize_27 rfl ?_
    refine G_getr (j := r0_order) (k := 23) hs1 (q := (RX12, TX12, 40)) rfl inX12 (by decide) rfl hF_X12_47 dX12_orderBySize_28 ?_
    refine G_iload_n 3 rfl dX12_orderBySize_31 rfl ?_
    refine G_iconst (v := 1) dX12_orderBySize_32 (by decide) ?_
    refine G_isub dX12_orderBySize_33 ?_
    obtain ⟨sd1, w⟩ := w
    refine G_iald hs2 sd1 dX12_orderBySize_34 ?_
    obtain ⟨sd2, w⟩ := w
    refine G_lald hs3 sd2 dX12_orderBySize_35 ?_
    obtain ⟨Q1, ok1, w⟩ := w
    refine G_callS (Z := mX12_size) (As := [.long (h.2.2.2 r0_terms (h.2.2.1 r0_order (x3 - (1 : Int32)).toNatClampNeg).toNatClampNeg)]) (st := []) hL_X12_98 hT_X12_size hC_X12_size hN_X12 nX12_size (by decide) rfl (Nat.le_of_ble_eq_true rfl) dX12_orderBySize_36 ok1 (fun r_ h_1 z_ => ?_)
    obtain ⟨v_1, rfl, q_1⟩ := z_
    have w := w v_1 h_1 q_1
    refine G_aload_n 0 rfl dX12_orderBySize_39 rfl ?_
    refine G_getr (j := r0_terms) (k := 21) hs1 (q := (RX12, TX12, 40)) rfl inX12 (by decide) rfl hF_X12_44 dX12_orderBySize_40 ?_
    refine G_iload_n 2 rfl dX12_orderBySize_43 rfl ?_
    obtain ⟨sd3, w⟩ := w
    refine G_lald hs3 sd3 dX12_orderBySize_44 ?_
    obtain ⟨Q2, ok2, w⟩ := w
    refine G_callS (Z := mX12_size) (As := [.long (h_1.2.2.2 r0_terms x2.toNatClampNeg)]) (st := [.long v_1]) hL_X12_98 hT_X12_size hC_X12_size hN_X12 nX12_size (by decide) rfl (Nat.le_of_ble_eq_true rfl) dX12_orderBySize_45 ok2 (fun r_ h_2 z_ => ?_)
    obtain ⟨v_2, rfl, q_2⟩ := z_
    have w := w v_2 h_2 q_2
    refine G_lif_le (tgt := 72) dX12_orderBySize_48 dX12_orderBySize_49 (by decide) (fun c2 => ?_) (fun c2 => ?_)
    · have w := w.1 c2
      refine G_aload_n 0 rfl dX12_orderBySize_72 rfl ?_
      refine G_getr (j := r0_order) (k := 23) hs1 (q := (RX12, TX12, 40)) rfl inX12 (by decide) rfl hF_X12_47 dX12_orderBySize_73 ?_
      refine G_iload_n 3 rfl dX12_orderBySize_76 rfl ?_
      refine G_iload_n 2 rfl dX12_orderBySize_77 rfl ?_
      obtain ⟨sd4, w⟩ := w
      refine G_iast hs2 sd4 dX12_orderBySize_78 ?_
      refine G_nm (fun g_2 e_2 => ?_)
      have w := w g_2 e_2
      refine G_iinc (v := 1) 1 rfl dX12_orderBySize_79 (by decide) (by decide) (lv' := [(1, .int (x1 + 1)), (0, .ref r0), (2, .int x2), (3, .int x3)]) rfl ?_
      refine G_goto (tgt := 2) dX12_orderBySize_82 (by decide) ?_
      exact G_sub [1, 0] rfl w
    · have w := w.2 c2
      refine G_aload_n 0 rfl dX12_orderBySize_52 rfl ?_
      refine G_getr (j := r0_order) (k := 23) hs1 (q := (RX12, TX12, 40)) rfl inX12 (by decide) rfl hF_X12_47 dX12_orderBySize_53 ?_
      refine G_iload_n 3 rfl dX12_orderBySize_56 rfl ?_
      refine G_aload_n 0 rfl dX12_orderBySize_57 rfl ?_
      refine G_getr (j := r0_order) (k := 23) hs1 (q := (RX12, TX12, 40)) rfl inX12 (by decide) rfl hF_X12_47 dX12_orderBySize_58 ?_
      refine G_iload_n 3 rfl dX12_orderBySize_61 rfl ?_
      refine G_iconst (v := 1) dX12_orderBySize_62 (by decide) ?_
      refine G_isub dX12_orderBySize_63 ?_
      refine G_iald hs2 sd1 dX12_orderBySize_64 ?_
      obtain ⟨sd4, w⟩ := w
      refine G_iast hs2 sd4 dX12_orderBySize_65 ?_
      refine G_nm (fun g_3 e_3 => ?_)
      have w := w g_3 e_3
      refine G_iinc (v := -1) 3 rfl dX12_orderBySize_66 (by decide) (by decide) (lv' := [(3, .int (x3 + (-1))), (0, .ref r0), (1, .int x1), (2, .int x2)]) rfl ?_
      refine G_goto (tgt := 19) dX12_orderBySize_69 (by decide) ?_
      exact G_sub [1, 2, 3, 0] rfl w

-- LostDigits$Steps.work
theorem dX8_work_0 : decode cX8_work 0 = .ok (.aload_n 1, 1) := by decide +kernel
theorem dX8_work_1 : decode cX8_work 1 = .ok (.getfield 39, 3) := by decide +kernel
theorem dX8_work_4 : decode cX8_work 4 = .ok (.bipush 13, 2) := by decide +kernel
theorem dX8_work_6 : decode cX8_work 6 = .ok (.invokestatic 45, 3) := by decide +kernel
theorem dX8_work_9 : decode cX8_work 9 = .ok (.iconst 1, 1) := by decide +kernel
theorem dX8_work_10 : decode cX8_work 10 = .ok (.isub, 1) := by decide +kernel
theorem dX8_work_11 : decode cX8_work 11 = .ok (.istore_n 3, 1) := by decide +kernel
theorem dX8_work_12 : decode cX8_work 12 = .ok (.iload_n 3, 1) := by decide +kernel
theorem dX8_work_13 : decode cX8_work 13 = .ok (.ifCond .lt 181, 3) := by decide +kernel
theorem dX8_work_16 : decode cX8_work 16 = .ok (.aload_n 1, 1) := by decide +kernel
theorem dX8_work_17 : decode cX8_work 17 = .ok (.iload_n 3, 1) := by decide +kernel
theorem dX8_work_18 : decode cX8_work 18 = .ok (.invokevirtual 51, 3) := by decide +kernel
theorem dX8_work_21 : decode cX8_work 21 = .ok (.istore 4, 2) := by decide +kernel
theorem dX8_work_23 : decode cX8_work 23 = .ok (.iconst 1, 1) := by decide +kernel
theorem dX8_work_24 : decode cX8_work 24 = .ok (.istore 5, 2) := by decide +kernel
theorem dX8_work_26 : decode cX8_work 26 = .ok (.iload 4, 2) := by decide +kernel
theorem dX8_work_28 : decode cX8_work 28 = .ok (.invokestatic 55, 3) := by decide +kernel
theorem dX8_work_31 : decode cX8_work 31 = .ok (.ifCond .eq 73, 3) := by decide +kernel
theorem dX8_work_34 : decode cX8_work 34 = .ok (.aload_n 0, 1) := by decide +kernel
theorem dX8_work_35 : decode cX8_work 35 = .ok (.getfield 9, 3) := by decide +kernel
theorem dX8_work_38 : decode cX8_work 38 = .ok (.iload_n 3, 1) := by decide +kernel
theorem dX8_work_39 : decode cX8_work 39 = .ok (.iconst 1, 1) := by decide +kernel
theorem dX8_work_40 : decode cX8_work 40 = .ok (.iadd, 1) := by decide +kernel
theorem dX8_work_41 : decode cX8_work 41 = .ok (.invokestatic 59, 3) := by decide +kernel
theorem dX8_work_44 : decode cX8_work 44 = .ok (.lstore 6, 2) := by decide +kernel
theorem dX8_work_46 : decode cX8_work 46 = .ok (.aload_n 0, 1) := by decide +kernel
theorem dX8_work_47 : decode cX8_work 47 = .ok (.getfield 9, 3) := by decide +kernel
theorem dX8_work_50 : decode cX8_work 50 = .ok (.aload_n 1, 1) := by decide +kernel
theorem dX8_work_51 : decode cX8_work 51 = .ok (.iload_n 3, 1) := by decide +kernel
theorem dX8_work_52 : decode cX8_work 52 = .ok (.invokevirtual 63, 3) := by decide +kernel
theorem dX8_work_55 : decode cX8_work 55 = .ok (.invokestatic 59, 3) := by decide +kernel
theorem dX8_work_58 : decode cX8_work 58 = .ok (.lstore 8, 2) := by decide +kernel
theorem dX8_work_60 : decode cX8_work 60 = .ok (.lload 6, 2) := by decide +kernel
theorem dX8_work_62 : decode cX8_work 62 = .ok (.ldc2_w 66, 3) := by decide +kernel
theorem dX8_work_65 : decode cX8_work 65 = .ok (.lcmp, 1) := by decide +kernel
theorem dX8_work_66 : decode cX8_work 66 = .ok (.ifCond .eq 32, 3) := by decide +kernel
theorem dX8_work_69 : decode cX8_work 69 = .ok (.lload 8, 2) := by decide +kernel
theorem dX8_work_71 : decode cX8_work 71 = .ok (.ldc2_w 66, 3) := by decide +kernel
theorem dX8_work_74 : decode cX8_work 74 = .ok (.lcmp, 1) := by decide +kernel
theorem dX8_work_75 : decode cX8_work 75 = .ok (.ifCond .eq 23, 3) := by decide +kernel
theorem dX8_work_78 : decode cX8_work 78 = .ok (.aload_n 0, 1) := by decide +kernel
theorem dX8_work_79 : decode cX8_work 79 = .ok (.getfield 35, 3) := by decide +kernel
theorem dX8_work_82 : decode cX8_work 82 = .ok (.iload 4, 2) := by decide +kernel
theorem dX8_work_84 : decode cX8_work 84 = .ok (.lload 6, 2) := by decide +kernel
theorem dX8_work_86 : decode cX8_work 86 = .ok (.lload 8, 2) := by decide +kernel
theorem dX8_work_88 : decode cX8_work 88 = .ok (.invokevirtual 68, 3) := by decide +kernel
theorem dX8_work_91 : decode cX8_work 91 = .ok (.ifCond .eq 7, 3) := by decide +kernel
theorem dX8_work_94 : decode cX8_work 94 = .ok (.iconst 1, 1) := by decide +kernel
theorem dX8_work_95 : decode cX8_work 95 = .ok (.goto 4, 3) := by decide +kernel
theorem dX8_work_98 : decode cX8_work 98 = .ok (.iconst 0, 1) := by decide +kernel
theorem dX8_work_99 : decode cX8_work 99 = .ok (.istore 5, 2) := by decide +kernel
theorem dX8_work_101 : decode cX8_work 101 = .ok (.goto 20, 3) := by decide +kernel
theorem dX8_work_104 : decode cX8_work 104 = .ok (.aload_n 0, 1) := by decide +kernel
theorem dX8_work_105 : decode cX8_work 105 = .ok (.getfield 35, 3) := by decide +kernel
theorem dX8_work_108 : decode cX8_work 108 = .ok (.iload 4, 2) := by decide +kernel
theorem dX8_work_110 : decode cX8_work 110 = .ok (.aload_n 2, 1) := by decide +kernel
theorem dX8_work_111 : decode cX8_work 111 = .ok (.invokestatic 72, 3) := by decide +kernel
theorem dX8_work_114 : decode cX8_work 114 = .ok (.i2l, 1) := by decide +kernel
theorem dX8_work_115 : decode cX8_work 115 = .ok (.lconst 1, 1) := by decide +kernel
theorem dX8_work_116 : decode cX8_work 116 = .ok (.bipush 9, 2) := by decide +kernel
theorem dX8_work_118 : decode cX8_work 118 = .ok (.invokevirtual 76, 3) := by decide +kernel
theorem dX8_work_121 : decode cX8_work 121 = .ok (.aload_n 0, 1) := by decide +kernel
theorem dX8_work_122 : decode cX8_work 122 = .ok (.getfield 9, 3) := by decide +kernel
theorem dX8_work_125 : decode cX8_work 125 = .ok (.iload_n 3, 1) := by decide +kernel
theorem dX8_work_126 : decode cX8_work 126 = .ok (.iload 5, 2) := by decide +kernel
theorem dX8_work_128 : decode cX8_work 128 = .ok (.ifCond .eq 17, 3) := by decide +kernel
theorem dX8_work_131 : decode cX8_work 131 = .ok (.aload_n 0, 1) := by decide +kernel
theorem dX8_work_132 : decode cX8_work 132 = .ok (.getfield 28, 3) := by decide +kernel
theorem dX8_work_135 : decode cX8_work 135 = .ok (.aload_n 0, 1) := by decide +kernel
theorem dX8_work_136 : decode cX8_work 136 = .ok (.getfield 35, 3) := by decide +kernel
theorem dX8_work_139 : decode cX8_work 139 = .ok (.invokevirtual 80, 3) := by decide +kernel
theorem dX8_work_142 : decode cX8_work 142 = .ok (.goto 6, 3) := by decide +kernel
theorem dX8_work_145 : decode cX8_work 145 = .ok (.ldc2_w 66, 3) := by decide +kernel
theorem dX8_work_148 : decode cX8_work 148 = .ok (.lastore, 1) := by decide +kernel
theorem dX8_work_149 : decode cX8_work 149 = .ok (.aload_n 0, 1) := by decide +kernel
theorem dX8_work_150 : decode cX8_work 150 = .ok (.getfield 15, 3) := by decide +kernel
theorem dX8_work_153 : decode cX8_work 153 = .ok (.iload_n 3, 1) := by decide +kernel
theorem dX8_work_154 : decode cX8_work 154 = .ok (.aload_n 0, 1) := by decide +kernel
theorem dX8_work_155 : decode cX8_work 155 = .ok (.getfield 9, 3) := by decide +kernel
theorem dX8_work_158 : decode cX8_work 158 = .ok (.iload_n 3, 1) := by decide +kernel
theorem dX8_work_159 : decode cX8_work 159 = .ok (.laload, 1) := by decide +kernel
theorem dX8_work_160 : decode cX8_work 160 = .ok (.ldc2_w 66, 3) := by decide +kernel
theorem dX8_work_163 : decode cX8_work 163 = .ok (.lcmp, 1) := by decide +kernel
theorem dX8_work_164 : decode cX8_work 164 = .ok (.ifCond .ne 9, 3) := by decide +kernel
theorem dX8_work_167 : decode cX8_work 167 = .ok (.ldc2_w 66, 3) := by decide +kernel
theorem dX8_work_170 : decode cX8_work 170 = .ok (.goto 17, 3) := by decide +kernel
theorem dX8_work_173 : decode cX8_work 173 = .ok (.aload_n 0, 1) := by decide +kernel
theorem dX8_work_174 : decode cX8_work 174 = .ok (.getfield 9, 3) := by decide +kernel
theorem dX8_work_177 : decode cX8_work 177 = .ok (.iload_n 3, 1) := by decide +kernel
theorem dX8_work_178 : decode cX8_work 178 = .ok (.laload, 1) := by decide +kernel
theorem dX8_work_179 : decode cX8_work 179 = .ok (.aload_n 0, 1) := by decide +kernel
theorem dX8_work_180 : decode cX8_work 180 = .ok (.getfield 35, 3) := by decide +kernel
theorem dX8_work_183 : decode cX8_work 183 = .ok (.invokevirtual 84, 3) := by decide +kernel
theorem dX8_work_186 : decode cX8_work 186 = .ok (.lsub, 1) := by decide +kernel
theorem dX8_work_187 : decode cX8_work 187 = .ok (.lastore, 1) := by decide +kernel
theorem dX8_work_188 : decode cX8_work 188 = .ok (.iinc 3 (-1), 3) := by decide +kernel
theorem dX8_work_191 : decode cX8_work 191 = .ok (.goto (-179), 3) := by decide +kernel
theorem dX8_work_194 : decode cX8_work 194 = .ok (.return_, 1) := by decide +kernel
set_option maxRecDepth 10000 in
theorem NX8_work_0 {d : Nat} {S : fW} {h : fH} {Q : fH → Prop} {r0 : Nat} {r1 : Nat} {r2 : Nat} {r1_signs r1_ends r1_letters : Nat}  
    (hs1 : (r1, shX10 r1_signs r1_ends r1_letters) ∈ S)
    (w : G mX8_work (d + 1) S (f_PV Q) 12 [(0, .ref r0), (1, .ref r1), (2, .ref r2), (3, .int ((if (13 : Int32) < (h.1 r1 3) then (13 : Int32) else (h.1 r1 3)) - (1 : Int32)))] [] h) :
    OkV (d + 1) mX8_work S [.ref r0, .ref r1, .ref r2] h Q := by
  refine Ok.of (by decide) (Nat.le_of_ble_eq_true rfl) ?_
  refine G_aload_n 1 rfl dX8_work_0 rfl ?_
  refine G_geti (k := 3) hs1 (q := (RX10, TX10, 4)) rfl inX10 (by decide) (Or.inl rfl) hF_X8_39 dX8_work_1 ?_
  refine G_bipush (v := 13) dX8_work_4 (by decide) ?_
  refine G_mminI hL_X8_45 (Nat.le_of_ble_eq_true rfl) dX8_work_6 ?_
  refine G_iconst (v := 1) dX8_work_9 (by decide) ?_
  refine G_isub dX8_work_10 ?_
  refine G_istore_n dX8_work_11 rfl (by decide) (lv' := [(3, .int ((if (13 : Int32) < (h.1 r1 3) then (13 : Int32) else (h.1 r1 3)) - (1 : Int32))), (0, .ref r0), (1, .ref r1), (2, .ref r2)]) rfl ?_
  exact G_sub [1, 2, 3, 0] rfl w

set_option maxRecDepth 10000 in
theorem NX8_work_12 {d : Nat} {S : fW} {h : fH} {Q : fH → Prop} {r0 : Nat} {r1 : Nat} {r2 : Nat} {x3 : Int32} {r1_signs r1_ends r1_letters r0_values r0_slips r0_fractions r0_rounding r0_ratio : Nat}  
    (hs1 : (r1, shX10 r1_signs r1_ends r1_letters) ∈ S)
    (hs2 : (r0, shX8 r0_values r0_slips r0_fractions r0_rounding r0_ratio) ∈ S)
    (hs3 : (r0_ratio, shX3) ∈ S)
    (hs4 : (r0_rounding, shX4) ∈ S)
    (w : ((x3 < 0 → Q h) ∧ (¬ x3 < 0 → ∃ Q1 : Int32 → fH → Prop, OkI d mX10_signAt S [.ref r1, .int x3] h Q1 ∧ ∀ (v_1 : Int32) (h_1 : fH), Q1 v_1 h_1 → ∃ Q2 : Int32 → fH → Prop, OkI d mX11_isOperator S [.int v_1] h_1 Q2 ∧ ∀ (v_2 : Int32) (h_2 : fH), Q2 v_2 h_2 → ((v_2 = 0 → ∃ Q3 : Int32 → fH → Prop, OkI d mX11_numberOf S [.int v_1, .ref r2] h_2 Q3 ∧ ∀ (v_3 : Int32) (h_3 : fH), Q3 v_3 h_3 → ∃ Q4 : fH → Prop, OkV d mX3_hold S [.ref r0_ratio, .long v_3.toInt64, .long (1 : Int64), .int (9 : Int32)] h_3 Q4 ∧ ∀ (h_4 : fH), Q4 h_4 → ∃ Q5 : Int64 → fH → Prop, OkL d mX4_of S [.ref r0_rounding, .ref r0_ratio] h_4 Q5 ∧ ∀ (v_5 : Int64) (h_5 : fH), Q5 v_5 h_5 → G mX8_work (d + 1) S (f_PV Q) 148 [(0, .ref r0), (1, .ref r1), (2, .ref r2), (3, .int x3)] [.long v_5, .int x3, .ref r0_values] h_5) ∧ (¬ v_2 = 0 → ∃ Q6 : Int64 → fH → Prop, OkL d mX11_at S [.ref r0_values, .int (x3 + (1 : Int32))] h_2 Q6 ∧ ∀ (v_6 : Int64) (h_6 : fH), Q6 v_6 h_6 → ∃ Q7 : Int32 → fH → Prop, OkI d mX10_secondOf S [.ref r1, .int x3] h_6 Q7 ∧ ∀ (v_7 : Int32) (h_7 : fH), Q7 v_7 h_7 → ∃ Q8 : Int64 → fH → Prop, OkL d mX11_at S [.ref r0_values, .int v_7] h_7 Q8 ∧ ∀ (v_8 : Int64) (h_8 : fH), Q8 v_8 h_8 → ((v_6 = (1000000000000000000 : Int64) → G mX8_work (d + 1) S (f_PV Q) 148 [(0, .ref r0), (1, .ref r1), (2, .ref r2), (3, .int x3)] [.long (1000000000000000000 : Int64), .int x3, .ref r0_values] h_8) ∧ (¬ v_6 = (1000000000000000000 : Int64) → ((v_8 = (1000000000000000000 : Int64) → G mX8_work (d + 1) S (f_PV Q) 148 [(0, .ref r0), (1, .ref r1), (2, .ref r2), (3, .int x3)] [.long (1000000000000000000 : Int64), .int x3, .ref r0_values] h_8) ∧ (¬ v_8 = (1000000000000000000 : Int64) → ∃ Q9 : Int32 → fH → Prop, OkI d mX3_join S [.ref r0_ratio, .int v_1, .long v_6, .long v_8] h_8 Q9 ∧ ∀ (v_9 : Int32) (h_9 : fH), Q9 v_9 h_9 → ((v_9 = 0 → G mX8_work (d + 1) S (f_PV Q) 148 [(0, .ref r0), (1, .ref r1), (2, .ref r2), (3, .int x3)] [.long (1000000000000000000 : Int64), .int x3, .ref r0_values] h_9) ∧ (¬ v_9 = 0 → ∃ Q10 : Int64 → fH → Prop, OkL d mX4_of S [.ref r0_rounding, .ref r0_ratio] h_9 Q10 ∧ ∀ (v_10 : Int64) (h_10 : fH), Q10 v_10 h_10 → G mX8_work (d + 1) S (f_PV Q) 148 [(0, .ref r0), (1, .ref r1), (2, .ref r2), (3, .int x3)] [.long v_10, .int x3, .ref r0_values] h_10))))))))))) :
    G mX8_work (d + 1) S (f_PV Q) 12 [(0, .ref r0), (1, .ref r1), (2, .ref r2), (3, .int x3)] [] h := by
  refine G_iload_n 3 rfl dX8_work_12 rfl ?_
  refine G_if_lt (tgt := 194) dX8_work_13 (by decide) (fun c1 => ?_) (fun c1 => ?_)
  · have w := w.1 c1
    exact G_vret rfl dX8_work_194 ⟨rfl, w⟩
  · have w := w.2 c1
    refine G_aload_n 1 rfl dX8_work_16 rfl ?_
    refine G_iload_n 3 rfl dX8_work_17 rfl ?_
    obtain ⟨Q1, ok1, w⟩ := w
    refine G_callV (Z := mX10_signAt) (As := [.int x3]) (st := []) hL_X8_51 hI_X10_signAt hS_X10_signAt hC_X10_signAt hN_X10 nX10_signAt (by decide) hs1 rfl rfl rfl (Nat.le_of_ble_eq_true rfl) dX8_work_18 ok1 (fun r_ h_1 z_ => ?_)
    obtain ⟨v_1, rfl, q_1⟩ := z_
    have w := w v_1 h_1 q_1
    refine G_istore dX8_work_21 (by decide) (lv' := [(4, .int v_1), (0, .ref r0), (1, .ref r1), (2, .ref r2), (3, .int x3)]) rfl ?_
    refine G_iconst (v := 1) dX8_work_23 (by decide) ?_
    refine G_istore dX8_work_24 (by decide) (lv' := [(5, .int (1 : Int32)), (4, .int v_1), (0, .ref r0), (1, .ref r1), (2, .ref r2), (3, .int x3)]) rfl ?_
    refine G_iload 1 rfl dX8_work_26 ?_
    obtain ⟨Q2, ok2, w⟩ := w
    refine G_callN (Z := mX11_isOperator) (As := [.int v_1]) (st := []) hM_X8_55 hT_X11_isOperator hC_X11_isOperator hN_X11 nX11_isOperator (by decide) rfl (Nat.le_of_ble_eq_true rfl) dX8_work_28 ok2 (fun r_ h_2 z_ => ?_)
    obtain ⟨v_2, rfl, q_2⟩ := z_
    have w := w v_2 h_2 q_2
    refine G_if_eq (tgt := 104) dX8_work_31 (by decide) (fun c2 => ?_) (fun c2 => ?_)
    · have w := w.1 c2
      refine G_aload_n 2 rfl dX8_work_104 rfl ?_
      refine G_getr (j := r0_ratio) (k := 4) hs2 (q := (RX8, TX8, 5)) rfl inX8 (by decide) rfl hF_X8_35 dX8_work_105 ?_
      refine G_iload 1 rfl dX8_work_108 ?_
      refine G_aload_n 4 rfl dX8_work_110 rfl ?_
      obtain ⟨Q3, ok3, w⟩ := w
      refine G_callN (Z := mX11_numberOf) (As := [.int v_1, .ref r2]) (st := [.ref r0_ratio]) hM_X8_72 hT_X11_numberOf hC_X11_numberOf hN_X11 nX11_numberOf (by decide) rfl (Nat.le_of_ble_eq_true rfl) dX8_work_111 ok3 (fun r_ h_3 z_ => ?_)
      obtain ⟨v_3, rfl, q_3⟩ := z_
      have w := w v_3 h_3 q_3
      refine G_i2l dX8_work_114 ?_
      refine G_lconst (v := 1) dX8_work_115 (by decide) ?_
      refine G_bipush (v := 9) dX8_work_116 (by decide) ?_
      obtain ⟨Q4, ok4, w⟩ := w
      refine G_callV (Z := mX3_hold) (As := [.long v_3.toInt64, .long (1 : Int64), .int (9 : Int32)]) (st := []) hL_X8_76 hI_X3_hold hS_X3_hold hC_X3_hold hN_X3 nX3_hold (by decide) hs3 rfl rfl rfl (Nat.le_of_ble_eq_true rfl) dX8_work_118 ok4 (fun r_ h_4 z_ => ?_)
      obtain ⟨rfl, q_4⟩ := z_
      have w := w h_4 q_4
      refine G_aload_n 2 rfl dX8_work_121 rfl ?_
      refine G_getr (j := r0_values) (k := 0) hs2 (q := (RX8, TX8, 5)) rfl inX8 (by decide) rfl hF_X8_9 dX8_work_122 ?_
      refine G_iload_n 5 rfl dX8_work_125 rfl ?_
      refine G_iload 0 rfl dX8_work_126 ?_
      refine G_if_eq (tgt := 145) dX8_work_128 (by decide) (fun z_ => absurd z_ (by decide)) (fun _ => ?_)
      refine G_aload_n 2 rfl dX8_work_131 rfl ?_
      refine G_getr (j := r0_rounding) (k := 3) hs2 (q := (RX8, TX8, 5)) rfl inX8 (by decide) rfl hF_X8_28 dX8_work_132 ?_
      refine G_aload_n 2 rfl dX8_work_135 rfl ?_
      refine G_getr (j := r0_ratio) (k := 4) hs2 (q := (RX8, TX8, 5)) rfl inX8 (by decide) rfl hF_X8_35 dX8_work_136 ?_
      obtain ⟨Q5, ok5, w⟩ := w
      refine G_callV (Z := mX4_of) (As := [.ref r0_ratio]) (st := [.int x3, .ref r0_values]) hL_X8_80 hI_X4_of hS_X4_of hC_X4_of hN_X4 nX4_of (by decide) hs4 rfl rfl rfl (Nat.le_of_ble_eq_true rfl) dX8_work_139 ok5 (fun r_ h_5 z_ => ?_)
      obtain ⟨v_5, rfl, q_5⟩ := z_
      have w := w v_5 h_5 q_5
      refine G_goto (tgt := 148) dX8_work_142 (by decide) ?_
      exact G_sub [2, 3, 4, 5] rfl w
    · have w := w.2 c2
      refine G_aload_n 2 rfl dX8_work_34 rfl ?_
      refine G_getr (j := r0_values) (k := 0) hs2 (q := (RX8, TX8, 5)) rfl inX8 (by decide) rfl hF_X8_9 dX8_work_35 ?_
      refine G_iload_n 5 rfl dX8_work_38 rfl ?_
      refine G_iconst (v := 1) dX8_work_39 (by decide) ?_
      refine G_iadd dX8_work_40 ?_
      obtain ⟨Q6, ok6, w⟩ := w
      refine G_callN (Z := mX11_at) (As := [.ref r0_values, .int (x3 + (1 : Int32))]) (st := []) hM_X8_59 hT_X11_at hC_X11_at hN_X11 nX11_at (by decide) rfl (Nat.le_of_ble_eq_true rfl) dX8_work_41 ok6 (fun r_ h_6 z_ => ?_)
      obtain ⟨v_6, rfl, q_6⟩ := z_
      have w := w v_6 h_6 q_6
      refine G_lstore dX8_work_44 (by decide) (lv' := [(6, .long v_6), (5, .int (1 : Int32)), (4, .int v_1), (0, .ref r0), (1, .ref r1), (2, .ref r2), (3, .int x3)]) rfl ?_
      refine G_aload_n 3 rfl dX8_work_46 rfl ?_
      refine G_getr (j := r0_values) (k := 0) hs2 (q := (RX8, TX8, 5)) rfl inX8 (by decide) rfl hF_X8_9 dX8_work_47 ?_
      refine G_aload_n 4 rfl dX8_work_50 rfl ?_
      refine G_iload_n 6 rfl dX8_work_51 rfl ?_
      obtain ⟨Q7, ok7, w⟩ := w
      refine G_callV (Z := mX10_secondOf) (As := [.int x3]) (st := [.ref r0_values]) hL_X8_63 hI_X10_secondOf hS_X10_secondOf hC_X10_secondOf hN_X10 nX10_secondOf (by decide) hs1 rfl rfl rfl (Nat.le_of_ble_eq_true rfl) dX8_work_52 ok7 (fun r_ h_7 z_ => ?_)
      obtain ⟨v_7, rfl, q_7⟩ := z_
      have w := w v_7 h_7 q_7
      obtain ⟨Q8, ok8, w⟩ := w
      refine G_callN (Z := mX11_at) (As := [.ref r0_values, .int v_7]) (st := []) hM_X8_59 hT_X11_at hC_X11_at hN_X11 nX11_at (by decide) rfl (Nat.le_of_ble_eq_true rfl) dX8_work_55 ok8 (fun r_ h_8 z_ => ?_)
      obtain ⟨v_8, rfl, q_8⟩ := z_
      have w := w v_8 h_8 q_8
      refine G_lstore dX8_work_58 (by decide) (lv' := [(8, .long v_8), (6, .long v_6), (5, .int (1 : Int32)), (4, .int v_1), (0, .ref r0), (1, .ref r1), (2, .ref r2), (3, .int x3)]) rfl ?_
      refine G_lload 1 rfl dX8_work_60 ?_
      refine G_ldc2 hK_X8_66 dX8_work_62 ?_
      refine G_lif_eq (tgt := 98) dX8_work_65 dX8_work_66 (by decide) (fun c3 => ?_) (fun c3 => ?_)
      · have w := w.1 c3
        refine G_iconst (v := 0) dX8_work_98 (by decide) ?_
        refine G_istore dX8_work_99 (by decide) (lv' := [(5, .int (0 : Int32)), (8, .long v_8), (6, .long v_6), (4, .int v_1), (0, .ref r0), (1, .ref r1), (2, .ref r2), (3, .int x3)]) rfl ?_
        refine G_goto (tgt := 121) dX8_work_101 (by decide) ?_
        refine G_aload_n 4 rfl dX8_work_121 rfl ?_
        refine G_getr (j := r0_values) (k := 0) hs2 (q := (RX8, TX8, 5)) rfl inX8 (by decide) rfl hF_X8_9 dX8_work_122 ?_
        refine G_iload_n 7 rfl dX8_work_125 rfl ?_
        refine G_iload 0 rfl dX8_work_126 ?_
        refine G_if_eq (tgt := 145) dX8_work_128 (by decide) (fun _ => ?_) (fun z_ => absurd z_ (by decide))
        refine G_ldc2 hK_X8_66 dX8_work_145 ?_
        exact G_sub [4, 5, 6, 7] rfl w
      · have w := w.2 c3
        refine G_lload 0 rfl dX8_work_69 ?_
        refine G_ldc2 hK_X8_66 dX8_work_71 ?_
        refine G_lif_eq (tgt := 98) dX8_work_74 dX8_work_75 (by decide) (fun c4 => ?_) (fun c4 => ?_)
        · have w := w.1 c4
          refine G_iconst (v := 0) dX8_work_98 (by decide) ?_
          refine G_istore dX8_work_99 (by decide) (lv' := [(5, .int (0 : Int32)), (8, .long v_8), (6, .long v_6), (4, .int v_1), (0, .ref r0), (1, .ref r1), (2, .ref r2), (3, .int x3)]) rfl ?_
          refine G_goto (tgt := 121) dX8_work_101 (by decide) ?_
          refine G_aload_n 4 rfl dX8_work_121 rfl ?_
          refine G_getr (j := r0_values) (k := 0) hs2 (q := (RX8, TX8, 5)) rfl inX8 (by decide) rfl hF_X8_9 dX8_work_122 ?_
          refine G_iload_n 7 rfl dX8_work_125 rfl ?_
          refine G_iload 0 rfl dX8_work_126 ?_
          refine G_if_eq (tgt := 145) dX8_work_128 (by decide) (fun _ => ?_) (fun z_ => absurd z_ (by decide))
          refine G_ldc2 hK_X8_66 dX8_work_145 ?_
          exact G_sub [4, 5, 6, 7] rfl w
        · have w := w.2 c4
          refine G_aload_n 4 rfl dX8_work_78 rfl ?_
          refine G_getr (j := r0_ratio) (k := 4) hs2 (q := (RX8, TX8, 5)) rfl inX8 (by decide) rfl hF_X8_35 dX8_work_79 ?_
          refine G_iload 3 rfl dX8_work_82 ?_
          refine G_lload 1 rfl dX8_work_84 ?_
          refine G_lload 0 rfl dX8_work_86 ?_
          obtain ⟨Q9, ok9, w⟩ := w
          refine G_callV (Z := mX3_join) (As := [.int v_1, .long v_6, .long v_8]) (st := []) hL_X8_68 hI_X3_join hS_X3_join hC_X3_join hN_X3 nX3_join (by decide) hs3 rfl rfl rfl (Nat.le_of_ble_eq_true rfl) dX8_work_88 ok9 (fun r_ h_9 z_ => ?_)
          obtain ⟨v_9, rfl, q_9⟩ := z_
          have w := w v_9 h_9 q_9
          refine G_if_eq (tgt := 98) dX8_work_91 (by decide) (fun c5 => ?_) (fun c5 => ?_)
          · have w := w.1 c5
            refine G_iconst (v := 0) dX8_work_98 (by decide) ?_
            refine G_istore dX8_work_99 (by decide) (lv' := [(5, .int (0 : Int32)), (8, .long v_8), (6, .long v_6), (4, .int v_1), (0, .ref r0), (1, .ref r1), (2, .ref r2), (3, .int x3)]) rfl ?_
            refine G_goto (tgt := 121) dX8_work_101 (by decide) ?_
            refine G_aload_n 4 rfl dX8_work_121 rfl ?_
            refine G_getr (j := r0_values) (k := 0) hs2 (q := (RX8, TX8, 5)) rfl inX8 (by decide) rfl hF_X8_9 dX8_work_122 ?_
            refine G_iload_n 7 rfl dX8_work_125 rfl ?_
            refine G_iload 0 rfl dX8_work_126 ?_
            refine G_if_eq (tgt := 145) dX8_work_128 (by decide) (fun _ => ?_) (fun z_ => absurd z_ (by decide))
            refine G_ldc2 hK_X8_66 dX8_work_145 ?_
            exact G_sub [4, 5, 6, 7] rfl w
          · have w := w.2 c5
            refine G_iconst (v := 1) dX8_work_94 (by decide) ?_
            refine G_goto (tgt := 99) dX8_work_95 (by decide) ?_
            refine G_istore dX8_work_99 (by decide) (lv' := [(5, .int (1 : Int32)), (8, .long v_8), (6, .long v_6), (4, .int v_1), (0, .ref r0), (1, .ref r1), (2, .ref r2), (3, .int x3)]) rfl ?_
            refine G_goto (tgt := 121) dX8_work_101 (by decide) ?_
            refine G_aload_n 4 rfl dX8_work_121 rfl ?_
            refine G_getr (j := r0_values) (k := 0) hs2 (q := (RX8, TX8, 5)) rfl inX8 (by decide) rfl hF_X8_9 dX8_work_122 ?_
            refine G_iload_n 7 rfl dX8_work_125 rfl ?_
            refine G_iload 0 rfl dX8_work_126 ?_
            refine G_if_eq (tgt := 145) dX8_work_128 (by decide) (fun z_ => absurd z_ (by decide)) (fun _ => ?_)
            refine G_aload_n 4 rfl dX8_work_131 rfl ?_
            refine G_getr (j := r0_rounding) (k := 3) hs2 (q := (RX8, TX8, 5)) rfl inX8 (by decide) rfl hF_X8_28 dX8_work_132 ?_
            refine G_aload_n 4 rfl dX8_work_135 rfl ?_
            refine G_getr (j := r0_ratio) (k := 4) hs2 (q := (RX8, TX8, 5)) rfl inX8 (by decide) rfl hF_X8_35 dX8_work_136 ?_
            obtain ⟨Q10, ok10, w⟩ := w
            refine G_callV (Z := mX4_of) (As := [.ref r0_ratio]) (st := [.int x3, .ref r0_values]) hL_X8_80 hI_X4_of hS_X4_of hC_X4_of hN_X4 nX4_of (by decide) hs4 rfl rfl rfl (Nat.le_of_ble_eq_true rfl) dX8_work_139 ok10 (fun r_ h_10 z_ => ?_)
            obtain ⟨v_10, rfl, q_10⟩ := z_
            have w := w v_10 h_10 q_10
            refine G_goto (tgt := 148) dX8_work_142 (by decide) ?_
            exact G_sub [4, 5, 6, 7] rfl w

set_option maxRecDepth 10000 in
theorem NX8_work_148 {d : Nat} {S : fW} {h : fH} {Q : fH → Prop} {r0 : Nat} {r1 : Nat} {r2 : Nat} {x3 : Int32} {s0 : Nat} {s1 : Int32} {s2 : Int64} {n_s0 r0_values r0_slips r0_fractions r0_rounding r0_ratio : Nat}  
    (hs1 : (s0, shJ n_s0) ∈ S)
    (hs2 : (r0, shX8 r0_values r0_slips r0_fractions r0_rounding r0_ratio) ∈ S)
    (hs3 : (r0_values, shJ 13) ∈ S)
    (hs4 : (r0_ratio, shX3) ∈ S)
    (hs5 : (r0_slips, shJ 13) ∈ S)
    (w : vp_in s1 n_s0 ∧ ∀ g_1 : fH, g_1 = u_al h s0 (vp_updL (h.2.2.2 s0) s1.toNatClampNeg s2) → vp_in x3 13 ∧ ((¬ (g_1.2.2.2 r0_values x3.toNatClampNeg) = (1000000000000000000 : Int64) → ∃ Q1 : Int64 → fH → Prop, OkL d mX3_cut S [.ref r0_ratio] g_1 Q1 ∧ ∀ (v_1 : Int64) (h_1 : fH), Q1 v_1 h_1 → ∀ g_2 : fH, g_2 = u_al h_1 r0_slips (vp_updL (h_1.2.2.2 r0_slips) x3.toNatClampNeg ((g_1.2.2.2 r0_values x3.toNatClampNeg) - v_1)) → G mX8_work (d + 1) S (f_PV Q) 12 [(0, .ref r0), (1, .ref r1), (2, .ref r2), (3, .int (x3 + (-1)))] [] g_2) ∧ ((g_1.2.2.2 r0_values x3.toNatClampNeg) = (1000000000000000000 : Int64) → ∀ g_3 : fH, g_3 = u_al g_1 r0_slips (vp_updL (g_1.2.2.2 r0_slips) x3.toNatClampNeg (1000000000000000000 : Int64)) → G mX8_work (d + 1) S (f_PV Q) 12 [(0, .ref r0), (1, .ref r1), (2, .ref r2), (3, .int (x3 + (-1)))] [] g_3))) :
    G mX8_work (d + 1) S (f_PV Q) 148 [(0, .ref r0), (1, .ref r1), (2, .ref r2), (3, .int x3)] [.long s2, .int s1, .ref s0] h := by
  obtain ⟨sd1, w⟩ := w
  refine G_last hs1 sd1 dX8_work_148 ?_
  refine G_nm (fun g_1 e_1 => ?_)
  have w := w g_1 e_1
  refine G_aload_n 0 rfl dX8_work_149 rfl ?_
  refine G_getr (j := r0_slips) (k := 1) hs2 (q := (RX8, TX8, 5)) rfl inX8 (by decide) rfl hF_X8_15 dX8_work_150 ?_
  refine G_iload_n 3 rfl dX8_work_153 rfl ?_
  refine G_aload_n 0 rfl dX8_work_154 rfl ?_
  refine G_getr (j := r0_values) (k := 0) hs2 (q := (RX8, TX8, 5)) rfl inX8 (by decide) rfl hF_X8_9 dX8_work_155 ?_
  refine G_iload_n 3 rfl dX8_work_158 rfl ?_
  obtain ⟨sd2, w⟩ := w
  refine G_lald hs3 sd2 dX8_work_159 ?_
  refine G_ldc2 hK_X8_66 dX8_work_160 ?_
  refine G_lif_ne (tgt := 173) dX8_work_163 dX8_work_164 (by decide) (fun c1 => ?_) (fun c1 => ?_)
  · have w := w.1 c1
    refine G_aload_n 0 rfl dX8_work_173 rfl ?_
    refine G_getr (j := r0_values) (k := 0) hs2 (q := (RX8, TX8, 5)) rfl inX8 (by decide) rfl hF_X8_9 dX8_work_174 ?_
    refine G_iload_n 3 rfl dX8_work_177 rfl ?_
    refine G_lald hs3 sd2 dX8_work_178 ?_
    refine G_aload_n 0 rfl dX8_work_179 rfl ?_
    refine G_getr (j := r0_ratio) (k := 4) hs2 (q := (RX8, TX8, 5)) rfl inX8 (by decide) rfl hF_X8_35 dX8_work_180 ?_
    obtain ⟨Q1, ok1, w⟩ := w
    refine G_callV (Z := mX3_cut) (As := []) (st := [.long (g_1.2.2.2 r0_values x3.toNatClampNeg), .int x3, .ref r0_slips]) hL_X8_84 hI_X3_cut hS_X3_cut hC_X3_cut hN_X3 nX3_cut (by decide) hs4 rfl rfl rfl (Nat.le_of_ble_eq_true rfl) dX8_work_183 ok1 (fun r_ h_1 z_ => ?_)
    obtain ⟨v_1, rfl, q_1⟩ := z_
    have w := w v_1 h_1 q_1
    refine G_lsub dX8_work_186 ?_
    refine G_last hs5 sd2 dX8_work_187 ?_
    refine G_nm (fun g_2 e_2 => ?_)
    have w := w g_2 e_2
    refine G_iinc (v := -1) 3 rfl dX8_work_188 (by decide) (by decide) (lv' := [(3, .int (x3 + (-1))), (0, .ref r0), (1, .ref r1), (2, .ref r2)]) rfl ?_
    refine G_goto (tgt := 12) dX8_work_191 (by decide) ?_
    exact G_sub [1, 2, 3, 0] rfl w
  · have w := w.2 c1
    refine G_ldc2 hK_X8_66 dX8_work_167 ?_
    refine G_goto (tgt := 187) dX8_work_170 (by decide) ?_
    refine G_last hs5 sd2 dX8_work_187 ?_
    refine G_nm (fun g_3 e_3 => ?_)
    have w := w g_3 e_3
    refine G_iinc (v := -1) 3 rfl dX8_work_188 (by decide) (by decide) (lv' := [(3, .int (x3 + (-1))), (0, .ref r0), (1, .ref r1), (2, .ref r2)]) rfl ?_
    refine G_goto (tgt := 12) dX8_work_191 (by decide) ?_
    exact G_sub [1, 2, 3, 0] rfl w
-- LostDigits$Steps.lossOf
theorem dX8_lossOf_0 : decode cX8_lossOf 0 = .ok (.aload_n 0, 1) := by decide +kernel
theorem dX8_lossOf_1 : decode cX8_lossOf 1 = .ok (.aload_n 1, 1) := by decide +kernel
theorem dX8_lossOf_2 : decode cX8_lossOf 2 = .ok (.aload_n 2, 1) := by decide +kernel
theorem dX8_lossOf_3 : decode cX8_lossOf 3 = .ok (.invokevirtual 88, 3) := by decide +kernel
theorem dX8_lossOf_6 : decode cX8_lossOf 6 = .ok (.aload_n 0, 1) := by decide +kernel
theorem dX8_lossOf_7 : decode cX8_lossOf 7 = .ok (.getfield 9, 3) := by decide +kernel
theorem dX8_lossOf_10 : decode cX8_lossOf 10 = .ok (.iconst 0, 1) := by decide +kernel
theorem dX8_lossOf_11 : decode cX8_lossOf 11 = .ok (.laload, 1) := by decide +kernel
theorem dX8_lossOf_12 : decode cX8_lossOf 12 = .ok (.ldc2_w 66, 3) := by decide +kernel
theorem dX8_lossOf_15 : decode cX8_lossOf 15 = .ok (.lcmp, 1) := by decide +kernel
theorem dX8_lossOf_16 : decode cX8_lossOf 16 = .ok (.ifCond .ne 7, 3) := by decide +kernel
theorem dX8_lossOf_19 : decode cX8_lossOf 19 = .ok (.ldc2_w 66, 3) := by decide +kernel
theorem dX8_lossOf_22 : decode cX8_lossOf 22 = .ok (.lreturn, 1) := by decide +kernel
theorem dX8_lossOf_23 : decode cX8_lossOf 23 = .ok (.aload_n 0, 1) := by decide +kernel
theorem dX8_lossOf_24 : decode cX8_lossOf 24 = .ok (.getfield 21, 3) := by decide +kernel
theorem dX8_lossOf_27 : decode cX8_lossOf 27 = .ok (.aload_n 1, 1) := by decide +kernel
theorem dX8_lossOf_28 : decode cX8_lossOf 28 = .ok (.aload_n 2, 1) := by decide +kernel
theorem dX8_lossOf_29 : decode cX8_lossOf 29 = .ok (.bipush 32, 2) := by decide +kernel
theorem dX8_lossOf_31 : decode cX8_lossOf 31 = .ok (.invokevirtual 92, 3) := by decide +kernel
theorem dX8_lossOf_34 : decode cX8_lossOf 34 = .ok (.aload_n 0, 1) := by decide +kernel
theorem dX8_lossOf_35 : decode cX8_lossOf 35 = .ok (.getfield 21, 3) := by decide +kernel
theorem dX8_lossOf_38 : decode cX8_lossOf 38 = .ok (.iconst 0, 1) := by decide +kernel
theorem dX8_lossOf_39 : decode cX8_lossOf 39 = .ok (.iconst 0, 1) := by decide +kernel
theorem dX8_lossOf_40 : decode cX8_lossOf 40 = .ok (.invokevirtual 96, 3) := by decide +kernel
theorem dX8_lossOf_43 : decode cX8_lossOf 43 = .ok (.lstore_n 3, 1) := by decide +kernel
theorem dX8_lossOf_44 : decode cX8_lossOf 44 = .ok (.lload_n 3, 1) := by decide +kernel
theorem dX8_lossOf_45 : decode cX8_lossOf 45 = .ok (.ldc2_w 66, 3) := by decide +kernel
theorem dX8_lossOf_48 : decode cX8_lossOf 48 = .ok (.lcmp, 1) := by decide +kernel
theorem dX8_lossOf_49 : decode cX8_lossOf 49 = .ok (.ifCond .ne 9, 3) := by decide +kernel
theorem dX8_lossOf_52 : decode cX8_lossOf 52 = .ok (.ldc2_w 66, 3) := by decide +kernel
theorem dX8_lossOf_55 : decode cX8_lossOf 55 = .ok (.goto 11, 3) := by decide +kernel
theorem dX8_lossOf_58 : decode cX8_lossOf 58 = .ok (.aload_n 0, 1) := by decide +kernel
theorem dX8_lossOf_59 : decode cX8_lossOf 59 = .ok (.getfield 9, 3) := by decide +kernel
theorem dX8_lossOf_62 : decode cX8_lossOf 62 = .ok (.iconst 0, 1) := by decide +kernel
theorem dX8_lossOf_63 : decode cX8_lossOf 63 = .ok (.laload, 1) := by decide +kernel
theorem dX8_lossOf_64 : decode cX8_lossOf 64 = .ok (.lload_n 3, 1) := by decide +kernel
theorem dX8_lossOf_65 : decode cX8_lossOf 65 = .ok (.lsub, 1) := by decide +kernel
theorem dX8_lossOf_66 : decode cX8_lossOf 66 = .ok (.lreturn, 1) := by decide +kernel
set_option maxRecDepth 10000 in
theorem NX8_lossOf_0 {d : Nat} {S : fW} {h : fH} {Q : Int64 → fH → Prop} {r0 : Nat} {r1 : Nat} {r2 : Nat} {r0_values r0_slips r0_fractions r0_rounding r0_ratio r0_fractions_uppers r0_fractions_lowers : Nat}  
    (hs1 : (r0, shX8 r0_values r0_slips r0_fractions r0_rounding r0_ratio) ∈ S)
    (hs2 : (r0_values, shJ 13) ∈ S)
    (hs3 : (r0_fractions, shX0 r0_fractions_uppers r0_fractions_lowers) ∈ S)
    (w : ∃ Q1 : fH → Prop, OkV d mX8_work S [.ref r0, .ref r1, .ref r2] h Q1 ∧ ∀ (h_1 : fH), Q1 h_1 → vp_in (0 : Int32) 13 ∧ ((¬ (h_1.2.2.2 r0_values (0 : Int32).toNatClampNeg) = (1000000000000000000 : Int64) → ∃ Q2 : fH → Prop, OkV d mX0_workParts S [.ref r0_fractions, .ref r1, .ref r2, .int (32 : Int32)] h_1 Q2 ∧ ∀ (h_2 : fH), Q2 h_2 → ∃ Q3 : Int64 → fH → Prop, OkL d mX0_billionths S [.ref r0_fractions, .int (0 : Int32), .int (0 : Int32)] h_2 Q3 ∧ ∀ (v_3 : Int64) (h_3 : fH), Q3 v_3 h_3 → ((¬ v_3 = (1000000000000000000 : Int64) → Q ((h_3.2.2.2 r0_values (0 : Int32).toNatClampNeg) - v_3) h_3) ∧ (v_3 = (1000000000000000000 : Int64) → Q (1000000000000000000 : Int64) h_3))) ∧ ((h_1.2.2.2 r0_values (0 : Int32).toNatClampNeg) = (1000000000000000000 : Int64) → Q (1000000000000000000 : Int64) h_1))) :
    OkL (d + 1) mX8_lossOf S [.ref r0, .ref r1, .ref r2] h Q := by
  refine Ok.of (by decide) (Nat.le_of_ble_eq_true rfl) ?_
  refine G_aload_n 0 rfl dX8_lossOf_0 rfl ?_
  refine G_aload_n 1 rfl dX8_lossOf_1 rfl ?_
  refine G_aload_n 2 rfl dX8_lossOf_2 rfl ?_
  obtain ⟨Q1, ok1, w⟩ := w
  refine G_callV (Z := mX8_work) (As := [.ref r1, .ref r2]) (st := []) hL_X8_88 hI_X8_work hS_X8_work hC_X8_work hN_X8 nX8_work (by decide) hs1 rfl rfl rfl (Nat.le_of_ble_eq_true rfl) dX8_lossOf_3 ok1 (fun r_ h_1 z_ => ?_)
  obtain ⟨rfl, q_1⟩ := z_
  have w := w h_1 q_1
  refine G_aload_n 0 rfl dX8_lossOf_6 rfl ?_
  refine G_getr (j := r0_values) (k := 0) hs1 (q := (RX8, TX8, 5)) rfl inX8 (by decide) rfl hF_X8_9 dX8_lossOf_7 ?_
  refine G_iconst (v := 0) dX8_lossOf_10 (by decide) ?_
  obtain ⟨sd1, w⟩ := w
  refine G_lald hs2 sd1 dX8_lossOf_11 ?_
  refine G_ldc2 hK_X8_66 dX8_lossOf_12 ?_
  refine G_lif_ne (tgt := 23) dX8_lossOf_15 dX8_lossOf_16 (by decide) (fun c1 => ?_) (fun c1 => ?_)
  · have w := w.1 c1
    refine G_aload_n 0 rfl dX8_lossOf_23 rfl ?_
    refine G_getr (j := r0_fractions) (k := 2) hs1 (q := (RX8, TX8, 5)) rfl inX8 (by decide) rfl hF_X8_21 dX8_lossOf_24 ?_
    refine G_aload_n 1 rfl dX8_lossOf_27 rfl ?_
    refine G_aload_n 2 rfl dX8_lossOf_28 rfl ?_
    refine G_bipush (v := 32) dX8_lossOf_29 (by decide) ?_
    obtain ⟨Q2, ok2, w⟩ := w
    refine G_callV (Z := mX0_workParts) (As := [.ref r1, .ref r2, .int (32 : Int32)]) (st := []) hL_X8_92 hI_X0_workParts hS_X0_workParts hC_X0_workParts hN_X0 nX0_workParts (by decide) hs3 rfl rfl rfl (Nat.le_of_ble_eq_true rfl) dX8_lossOf_31 ok2 (fun r_ h_2 z_ => ?_)
    obtain ⟨rfl, q_2⟩ := z_
    have w := w h_2 q_2
    refine G_aload_n 0 rfl dX8_lossOf_34 rfl ?_
    refine G_getr (j := r0_fractions) (k := 2) hs1 (q := (RX8, TX8, 5)) rfl inX8 (by decide) rfl hF_X8_21 dX8_lossOf_35 ?_
    refine G_iconst (v := 0) dX8_lossOf_38 (by decide) ?_
    refine G_iconst (v := 0) dX8_lossOf_39 (by decide) ?_
    obtain ⟨Q3, ok3, w⟩ := w
    refine G_callV (Z := mX0_billionths) (As := [.int (0 : Int32), .int (0 : Int32)]) (st := []) hL_X8_96 hI_X0_billionths hS_X0_billionths hC_X0_billionths hN_X0 nX0_billionths (by decide) hs3 rfl rfl rfl (Nat.le_of_ble_eq_true rfl) dX8_lossOf_40 ok3 (fun r_ h_3 z_ => ?_)
    obtain ⟨v_3, rfl, q_3⟩ := z_
    have w := w v_3 h_3 q_3
    refine G_lstore_n dX8_lossOf_43 rfl (by decide) (lv' := [(3, .long v_3), (0, .ref r0), (1, .ref r1), (2, .ref r2)]) rfl ?_
    refine G_lload_n 0 rfl dX8_lossOf_44 rfl ?_
    refine G_ldc2 hK_X8_66 dX8_lossOf_45 ?_
    refine G_lif_ne (tgt := 58) dX8_lossOf_48 dX8_lossOf_49 (by decide) (fun c2 => ?_) (fun c2 => ?_)
    · have w := w.1 c2
      refine G_aload_n 1 rfl dX8_lossOf_58 rfl ?_
      refine G_getr (j := r0_values) (k := 0) hs1 (q := (RX8, TX8, 5)) rfl inX8 (by decide) rfl hF_X8_9 dX8_lossOf_59 ?_
      refine G_iconst (v := 0) dX8_lossOf_62 (by decide) ?_
      refine G_lald hs2 sd1 dX8_lossOf_63 ?_
      refine G_lload_n 0 rfl dX8_lossOf_64 rfl ?_
      refine G_lsub dX8_lossOf_65 ?_
      exact G_lret rfl dX8_lossOf_66 ⟨_, rfl, w⟩
    · have w := w.2 c2
      refine G_ldc2 hK_X8_66 dX8_lossOf_52 ?_
      refine G_goto (tgt := 66) dX8_lossOf_55 (by decide) ?_
      exact G_lret rfl dX8_lossOf_66 ⟨_, rfl, w⟩
  · have w := w.2 c1
    refine G_ldc2 hK_X8_66 dX8_lossOf_19 ?_
    exact G_lret rfl dX8_lossOf_22 ⟨_, rfl, w⟩

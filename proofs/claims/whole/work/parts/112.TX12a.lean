-- LostDigitsModel.in
theorem dX12_in_0 : decode cX12_in 0 = .ok (.lload_n 0, 1) := by decide +kernel
theorem dX12_in_1 : decode cX12_in 1 = .ok (.lload_n 2, 1) := by decide +kernel
theorem dX12_in_2 : decode cX12_in 2 = .ok (.lcmp, 1) := by decide +kernel
theorem dX12_in_3 : decode cX12_in 3 = .ok (.ifCond .lt 14, 3) := by decide +kernel
theorem dX12_in_6 : decode cX12_in 6 = .ok (.lload_n 0, 1) := by decide +kernel
theorem dX12_in_7 : decode cX12_in 7 = .ok (.lload 4, 2) := by decide +kernel
theorem dX12_in_9 : decode cX12_in 9 = .ok (.lcmp, 1) := by decide +kernel
theorem dX12_in_10 : decode cX12_in 10 = .ok (.ifCond .gt 7, 3) := by decide +kernel
theorem dX12_in_13 : decode cX12_in 13 = .ok (.iconst 1, 1) := by decide +kernel
theorem dX12_in_14 : decode cX12_in 14 = .ok (.goto 4, 3) := by decide +kernel
theorem dX12_in_17 : decode cX12_in 17 = .ok (.iconst 0, 1) := by decide +kernel
theorem dX12_in_18 : decode cX12_in 18 = .ok (.ireturn, 1) := by decide +kernel
set_option maxRecDepth 10000 in
theorem TX12_in_0 {d : Nat} {S : fW} {h : fH} {Q : Int32 → fH → Prop} {x0 : Int64} {x2 : Int64} {x4 : Int64}  
    (k1 : x0 < x2 → Q (0 : Int32) h)
    (k2 : ¬ x0 < x2 → x4 < x0 → Q (0 : Int32) h)
    (k3 : ¬ x0 < x2 → ¬ x4 < x0 → Q (1 : Int32) h) :
    OkI d mX12_in S [.long x0, .long x2, .long x4] h Q := by
  refine Ok.of (by decide) (Nat.le_of_ble_eq_true rfl) ?_
  refine G_lload_n 0 rfl dX12_in_0 rfl ?_
  refine G_lload_n 1 rfl dX12_in_1 rfl ?_
  refine G_lif_lt (tgt := 17) dX12_in_2 dX12_in_3 (by decide) (fun c1 => ?_) (fun c1 => ?_)
  · refine G_iconst (v := 0) dX12_in_17 (by decide) ?_
    exact G_zret rfl (Or.inl rfl) dX12_in_18 ⟨_, rfl, (k1 c1)⟩
  · refine G_lload_n 0 rfl dX12_in_6 rfl ?_
    refine G_lload 2 rfl dX12_in_7 ?_
    refine G_lif_gt (tgt := 17) dX12_in_9 dX12_in_10 (by decide) (fun c2 => ?_) (fun c2 => ?_)
    · refine G_iconst (v := 0) dX12_in_17 (by decide) ?_
      exact G_zret rfl (Or.inl rfl) dX12_in_18 ⟨_, rfl, (k2 c1 c2)⟩
    · refine G_iconst (v := 1) dX12_in_13 (by decide) ?_
      refine G_goto (tgt := 18) dX12_in_14 (by decide) ?_
      exact G_zret rfl (Or.inr rfl) dX12_in_18 ⟨_, rfl, (k3 c1 c2)⟩
-- LostDigitsModel.isEnd
theorem dX12_isEnd_0 : decode cX12_isEnd 0 = .ok (.iload_n 0, 1) := by decide +kernel
theorem dX12_isEnd_1 : decode cX12_isEnd 1 = .ok (.i2l, 1) := by decide +kernel
theorem dX12_isEnd_2 : decode cX12_isEnd 2 = .ok (.lconst 0, 1) := by decide +kernel
theorem dX12_isEnd_3 : decode cX12_isEnd 3 = .ok (.lconst 1, 1) := by decide +kernel
theorem dX12_isEnd_4 : decode cX12_isEnd 4 = .ok (.invokestatic 82, 3) := by decide +kernel
theorem dX12_isEnd_7 : decode cX12_isEnd 7 = .ok (.ireturn, 1) := by decide +kernel
set_option maxRecDepth 10000 in
theorem TX12_isEnd_0 {d : Nat} {S : fW} {h : fH} {Q : Int32 → fH → Prop} {x0 : Int32} {Q1 : Int32 → fH → Prop} 
    (ok1 : OkI d mX12_in S [.long x0.toInt64, .long (0 : Int64), .long (1 : Int64)] h Q1)
    (k1 : ∀ v_1 h_1, Q1 v_1 h_1 → Q v_1 h_1)
    (sd1 : ∀ v_1 h_1, Q1 v_1 h_1 → v_1 = 0 ∨ v_1 = 1) :
    OkI (d + 1) mX12_isEnd S [.int x0] h Q := by
  refine Ok.of (by decide) (Nat.le_of_ble_eq_true rfl) ?_
  refine G_iload_n 0 rfl dX12_isEnd_0 rfl ?_
  refine G_i2l dX12_isEnd_1 ?_
  refine G_lconst (v := 0) dX12_isEnd_2 (by decide) ?_
  refine G_lconst (v := 1) dX12_isEnd_3 (by decide) ?_
  refine G_callS (Z := mX12_in) (As := [.long x0.toInt64, .long (0 : Int64), .long (1 : Int64)]) (st := []) hL_X12_82 hT_X12_in hC_X12_in hN_X12 nX12_in (by decide) rfl (Nat.le_of_ble_eq_true rfl) dX12_isEnd_4 (ok1) (fun r_ h_1 z_ => ?_)
  obtain ⟨v_1, rfl, q_1⟩ := z_
  exact G_zret rfl (sd1 v_1 h_1 q_1) dX12_isEnd_7 ⟨_, rfl, (k1 v_1 h_1 q_1)⟩
-- LostDigitsModel.size
theorem dX12_size_0 : decode cX12_size 0 = .ok (.lload_n 0, 1) := by decide +kernel
theorem dX12_size_1 : decode cX12_size 1 = .ok (.lconst 0, 1) := by decide +kernel
theorem dX12_size_2 : decode cX12_size 2 = .ok (.lcmp, 1) := by decide +kernel
theorem dX12_size_3 : decode cX12_size 3 = .ok (.ifCond .ge 8, 3) := by decide +kernel
theorem dX12_size_6 : decode cX12_size 6 = .ok (.lload_n 0, 1) := by decide +kernel
theorem dX12_size_7 : decode cX12_size 7 = .ok (.lneg, 1) := by decide +kernel
theorem dX12_size_8 : decode cX12_size 8 = .ok (.goto 4, 3) := by decide +kernel
theorem dX12_size_11 : decode cX12_size 11 = .ok (.lload_n 0, 1) := by decide +kernel
theorem dX12_size_12 : decode cX12_size 12 = .ok (.lreturn, 1) := by decide +kernel
set_option maxRecDepth 10000 in
theorem TX12_size_0 {d : Nat} {S : fW} {h : fH} {Q : Int64 → fH → Prop} {x0 : Int64}  
    (k1 : (0 : Int64) ≤ x0 → Q x0 h)
    (k2 : ¬ (0 : Int64) ≤ x0 → Q (-x0) h) :
    OkL d mX12_size S [.long x0] h Q := by
  refine Ok.of (by decide) (Nat.le_of_ble_eq_true rfl) ?_
  refine G_lload_n 0 rfl dX12_size_0 rfl ?_
  refine G_lconst (v := 0) dX12_size_1 (by decide) ?_
  refine G_lif_ge (tgt := 11) dX12_size_2 dX12_size_3 (by decide) (fun c1 => ?_) (fun c1 => ?_)
  · refine G_lload_n 0 rfl dX12_size_11 rfl ?_
    exact G_lret rfl dX12_size_12 ⟨_, rfl, (k1 c1)⟩
  · refine G_lload_n 0 rfl dX12_size_6 rfl ?_
    refine G_lneg dX12_size_7 ?_
    refine G_goto (tgt := 12) dX12_size_8 (by decide) ?_
    exact G_lret rfl dX12_size_12 ⟨_, rfl, (k2 c1)⟩
-- LostDigitsModel.power
theorem dX12_power_0 : decode cX12_power 0 = .ok (.lconst 1, 1) := by decide +kernel
theorem dX12_power_1 : decode cX12_power 1 = .ok (.lstore_n 1, 1) := by decide +kernel
theorem dX12_power_2 : decode cX12_power 2 = .ok (.iconst 0, 1) := by decide +kernel
theorem dX12_power_3 : decode cX12_power 3 = .ok (.istore_n 3, 1) := by decide +kernel
theorem dX12_power_4 : decode cX12_power 4 = .ok (.iload_n 3, 1) := by decide +kernel
theorem dX12_power_5 : decode cX12_power 5 = .ok (.iload_n 0, 1) := by decide +kernel
theorem dX12_power_6 : decode cX12_power 6 = .ok (.if_icmp .ge 15, 3) := by decide +kernel
theorem dX12_power_9 : decode cX12_power 9 = .ok (.lload_n 1, 1) := by decide +kernel
theorem dX12_power_10 : decode cX12_power 10 = .ok (.ldc2_w 86, 3) := by decide +kernel
theorem dX12_power_13 : decode cX12_power 13 = .ok (.lmul, 1) := by decide +kernel
theorem dX12_power_14 : decode cX12_power 14 = .ok (.lstore_n 1, 1) := by decide +kernel
theorem dX12_power_15 : decode cX12_power 15 = .ok (.iinc 3 1, 3) := by decide +kernel
theorem dX12_power_18 : decode cX12_power 18 = .ok (.goto (-14), 3) := by decide +kernel
theorem dX12_power_21 : decode cX12_power 21 = .ok (.lload_n 1, 1) := by decide +kernel
theorem dX12_power_22 : decode cX12_power 22 = .ok (.lreturn, 1) := by decide +kernel
set_option maxRecDepth 10000 in
theorem TX12_power_0 {d : Nat} {S : fW} {h : fH} {Q : Int64 → fH → Prop} {x0 : Int32}  
    (k1 : G mX12_power d S (f_PL Q) 4 [(0, .int x0), (1, .long (1 : Int64)), (3, .int (0 : Int32))] [] h) :
    OkL d mX12_power S [.int x0] h Q := by
  refine Ok.of (by decide) (Nat.le_of_ble_eq_true rfl) ?_
  refine G_lconst (v := 1) dX12_power_0 (by decide) ?_
  refine G_lstore_n dX12_power_1 rfl (by decide) (lv' := [(1, .long (1 : Int64)), (0, .int x0)]) rfl ?_
  refine G_iconst (v := 0) dX12_power_2 (by decide) ?_
  refine G_istore_n dX12_power_3 rfl (by decide) (lv' := [(3, .int (0 : Int32)), (1, .long (1 : Int64)), (0, .int x0)]) rfl ?_
  exact G_sub [2, 1, 0] rfl (k1)

set_option maxRecDepth 10000 in
theorem TX12_power_4 {d : Nat} {S : fW} {h : fH} {Q : Int64 → fH → Prop} {x0 : Int32} {x1 : Int64} {x3 : Int32}  
    (k1 : x0 ≤ x3 → Q x1 h)
    (k2 : ¬ x0 ≤ x3 → G mX12_power d S (f_PL Q) 4 [(0, .int x0), (1, .long (x1 * (10 : Int64))), (3, .int (x3 + 1))] [] h) :
    G mX12_power d S (f_PL Q) 4 [(0, .int x0), (1, .long x1), (3, .int x3)] [] h := by
  refine G_iload_n 2 rfl dX12_power_4 rfl ?_
  refine G_iload_n 0 rfl dX12_power_5 rfl ?_
  refine G_icmp_ge (tgt := 21) dX12_power_6 (by decide) (fun c1 => ?_) (fun c1 => ?_)
  · refine G_lload_n 1 rfl dX12_power_21 rfl ?_
    exact G_lret rfl dX12_power_22 ⟨_, rfl, (k1 c1)⟩
  · refine G_lload_n 1 rfl dX12_power_9 rfl ?_
    refine G_ldc2 hK_X12_86 dX12_power_10 ?_
    refine G_lmul dX12_power_13 ?_
    refine G_lstore_n dX12_power_14 rfl (by decide) (lv' := [(1, .long (x1 * (10 : Int64))), (0, .int x0), (3, .int x3)]) rfl ?_
    refine G_iinc (v := 1) 2 rfl dX12_power_15 (by decide) (by decide) (lv' := [(3, .int (x3 + 1)), (1, .long (x1 * (10 : Int64))), (0, .int x0)]) rfl ?_
    refine G_goto (tgt := 4) dX12_power_18 (by decide) ?_
    exact G_sub [2, 1, 0] rfl (k2 c1)
-- LostDigitsModel.rounded
theorem dX12_rounded_0 : decode cX12_rounded 0 = .ok (.lload_n 2, 1) := by decide +kernel
theorem dX12_rounded_1 : decode cX12_rounded 1 = .ok (.lconst 0, 1) := by decide +kernel
theorem dX12_rounded_2 : decode cX12_rounded 2 = .ok (.lcmp, 1) := by decide +kernel
theorem dX12_rounded_3 : decode cX12_rounded 3 = .ok (.ifCond .ne 5, 3) := by decide +kernel
theorem dX12_rounded_6 : decode cX12_rounded 6 = .ok (.lconst 0, 1) := by decide +kernel
theorem dX12_rounded_7 : decode cX12_rounded 7 = .ok (.lreturn, 1) := by decide +kernel
theorem dX12_rounded_8 : decode cX12_rounded 8 = .ok (.lload_n 2, 1) := by decide +kernel
theorem dX12_rounded_9 : decode cX12_rounded 9 = .ok (.lstore 9, 2) := by decide +kernel
theorem dX12_rounded_11 : decode cX12_rounded 11 = .ok (.lload 4, 2) := by decide +kernel
theorem dX12_rounded_13 : decode cX12_rounded 13 = .ok (.lstore 11, 2) := by decide +kernel
theorem dX12_rounded_15 : decode cX12_rounded 15 = .ok (.iload 6, 2) := by decide +kernel
theorem dX12_rounded_17 : decode cX12_rounded 17 = .ok (.istore 13, 2) := by decide +kernel
theorem dX12_rounded_19 : decode cX12_rounded 19 = .ok (.lload 9, 2) := by decide +kernel
theorem dX12_rounded_21 : decode cX12_rounded 21 = .ok (.ldc2_w 86, 3) := by decide +kernel
theorem dX12_rounded_24 : decode cX12_rounded 24 = .ok (.lload 11, 2) := by decide +kernel
theorem dX12_rounded_26 : decode cX12_rounded 26 = .ok (.lmul, 1) := by decide +kernel
theorem dX12_rounded_27 : decode cX12_rounded 27 = .ok (.lcmp, 1) := by decide +kernel
theorem dX12_rounded_28 : decode cX12_rounded 28 = .ok (.ifCond .lt 17, 3) := by decide +kernel
theorem dX12_rounded_31 : decode cX12_rounded 31 = .ok (.lload 11, 2) := by decide +kernel
theorem dX12_rounded_33 : decode cX12_rounded 33 = .ok (.ldc2_w 86, 3) := by decide +kernel
theorem dX12_rounded_36 : decode cX12_rounded 36 = .ok (.lmul, 1) := by decide +kernel
theorem dX12_rounded_37 : decode cX12_rounded 37 = .ok (.lstore 11, 2) := by decide +kernel
theorem dX12_rounded_39 : decode cX12_rounded 39 = .ok (.iinc 13 1, 3) := by decide +kernel
theorem dX12_rounded_42 : decode cX12_rounded 42 = .ok (.goto (-23), 3) := by decide +kernel
theorem dX12_rounded_45 : decode cX12_rounded 45 = .ok (.lload 9, 2) := by decide +kernel
theorem dX12_rounded_47 : decode cX12_rounded 47 = .ok (.lload 11, 2) := by decide +kernel
theorem dX12_rounded_49 : decode cX12_rounded 49 = .ok (.lcmp, 1) := by decide +kernel
theorem dX12_rounded_50 : decode cX12_rounded 50 = .ok (.ifCond .ge 17, 3) := by decide +kernel
theorem dX12_rounded_53 : decode cX12_rounded 53 = .ok (.lload 9, 2) := by decide +kernel
theorem dX12_rounded_55 : decode cX12_rounded 55 = .ok (.ldc2_w 86, 3) := by decide +kernel
theorem dX12_rounded_58 : decode cX12_rounded 58 = .ok (.lmul, 1) := by decide +kernel
theorem dX12_rounded_59 : decode cX12_rounded 59 = .ok (.lstore 9, 2) := by decide +kernel
theorem dX12_rounded_61 : decode cX12_rounded 61 = .ok (.iinc 13 (-1), 3) := by decide +kernel
theorem dX12_rounded_64 : decode cX12_rounded 64 = .ok (.goto (-19), 3) := by decide +kernel
theorem dX12_rounded_67 : decode cX12_rounded 67 = .ok (.lconst 0, 1) := by decide +kernel
theorem dX12_rounded_68 : decode cX12_rounded 68 = .ok (.lstore 14, 2) := by decide +kernel
theorem dX12_rounded_70 : decode cX12_rounded 70 = .ok (.lload 9, 2) := by decide +kernel
theorem dX12_rounded_72 : decode cX12_rounded 72 = .ok (.lstore 16, 2) := by decide +kernel
theorem dX12_rounded_74 : decode cX12_rounded 74 = .ok (.iconst 0, 1) := by decide +kernel
theorem dX12_rounded_75 : decode cX12_rounded 75 = .ok (.istore 18, 2) := by decide +kernel
theorem dX12_rounded_77 : decode cX12_rounded 77 = .ok (.iload 18, 2) := by decide +kernel
theorem dX12_rounded_79 : decode cX12_rounded 79 = .ok (.aload_n 0, 1) := by decide +kernel
theorem dX12_rounded_80 : decode cX12_rounded 80 = .ok (.getfield 75, 3) := by decide +kernel
theorem dX12_rounded_83 : decode cX12_rounded 83 = .ok (.if_icmp .ge 55, 3) := by decide +kernel
theorem dX12_rounded_86 : decode cX12_rounded 86 = .ok (.iload 18, 2) := by decide +kernel
theorem dX12_rounded_88 : decode cX12_rounded 88 = .ok (.ifCond .ne 8, 3) := by decide +kernel
theorem dX12_rounded_91 : decode cX12_rounded 91 = .ok (.lload 9, 2) := by decide +kernel
theorem dX12_rounded_93 : decode cX12_rounded 93 = .ok (.goto 9, 3) := by decide +kernel
theorem dX12_rounded_96 : decode cX12_rounded 96 = .ok (.ldc2_w 86, 3) := by decide +kernel
theorem dX12_rounded_99 : decode cX12_rounded 99 = .ok (.lload 16, 2) := by decide +kernel
theorem dX12_rounded_101 : decode cX12_rounded 101 = .ok (.lmul, 1) := by decide +kernel
theorem dX12_rounded_102 : decode cX12_rounded 102 = .ok (.lstore 16, 2) := by decide +kernel
theorem dX12_rounded_104 : decode cX12_rounded 104 = .ok (.lload 16, 2) := by decide +kernel
theorem dX12_rounded_106 : decode cX12_rounded 106 = .ok (.lload 11, 2) := by decide +kernel
theorem dX12_rounded_108 : decode cX12_rounded 108 = .ok (.ldiv, 1) := by decide +kernel
theorem dX12_rounded_109 : decode cX12_rounded 109 = .ok (.lstore 19, 2) := by decide +kernel
theorem dX12_rounded_111 : decode cX12_rounded 111 = .ok (.ldc2_w 86, 3) := by decide +kernel
theorem dX12_rounded_114 : decode cX12_rounded 114 = .ok (.lload 14, 2) := by decide +kernel
theorem dX12_rounded_116 : decode cX12_rounded 116 = .ok (.lmul, 1) := by decide +kernel
theorem dX12_rounded_117 : decode cX12_rounded 117 = .ok (.lload 19, 2) := by decide +kernel
theorem dX12_rounded_119 : decode cX12_rounded 119 = .ok (.ladd, 1) := by decide +kernel
theorem dX12_rounded_120 : decode cX12_rounded 120 = .ok (.lstore 14, 2) := by decide +kernel
theorem dX12_rounded_122 : decode cX12_rounded 122 = .ok (.lload 16, 2) := by decide +kernel
theorem dX12_rounded_124 : decode cX12_rounded 124 = .ok (.lload 19, 2) := by decide +kernel
theorem dX12_rounded_126 : decode cX12_rounded 126 = .ok (.lload 11, 2) := by decide +kernel
theorem dX12_rounded_128 : decode cX12_rounded 128 = .ok (.lmul, 1) := by decide +kernel
theorem dX12_rounded_129 : decode cX12_rounded 129 = .ok (.lsub, 1) := by decide +kernel
theorem dX12_rounded_130 : decode cX12_rounded 130 = .ok (.lstore 16, 2) := by decide +kernel
theorem dX12_rounded_132 : decode cX12_rounded 132 = .ok (.iinc 18 1, 3) := by decide +kernel
theorem dX12_rounded_135 : decode cX12_rounded 135 = .ok (.goto (-58), 3) := by decide +kernel
theorem dX12_rounded_138 : decode cX12_rounded 138 = .ok (.iload 7, 2) := by decide +kernel
theorem dX12_rounded_140 : decode cX12_rounded 140 = .ok (.ifCond .ne 46, 3) := by decide +kernel
theorem dX12_rounded_143 : decode cX12_rounded 143 = .ok (.ldc2_w 88, 3) := by decide +kernel
theorem dX12_rounded_146 : decode cX12_rounded 146 = .ok (.lload 16, 2) := by decide +kernel
theorem dX12_rounded_148 : decode cX12_rounded 148 = .ok (.lmul, 1) := by decide +kernel
theorem dX12_rounded_149 : decode cX12_rounded 149 = .ok (.lload 11, 2) := by decide +kernel
theorem dX12_rounded_151 : decode cX12_rounded 151 = .ok (.lcmp, 1) := by decide +kernel
theorem dX12_rounded_152 : decode cX12_rounded 152 = .ok (.ifCond .gt 26, 3) := by decide +kernel
theorem dX12_rounded_155 : decode cX12_rounded 155 = .ok (.ldc2_w 88, 3) := by decide +kernel
theorem dX12_rounded_158 : decode cX12_rounded 158 = .ok (.lload 16, 2) := by decide +kernel
theorem dX12_rounded_160 : decode cX12_rounded 160 = .ok (.lmul, 1) := by decide +kernel
theorem dX12_rounded_161 : decode cX12_rounded 161 = .ok (.lload 11, 2) := by decide +kernel
theorem dX12_rounded_163 : decode cX12_rounded 163 = .ok (.lcmp, 1) := by decide +kernel
theorem dX12_rounded_164 : decode cX12_rounded 164 = .ok (.ifCond .ne 18, 3) := by decide +kernel
theorem dX12_rounded_167 : decode cX12_rounded 167 = .ok (.lload 14, 2) := by decide +kernel
theorem dX12_rounded_169 : decode cX12_rounded 169 = .ok (.ldc2_w 88, 3) := by decide +kernel
theorem dX12_rounded_172 : decode cX12_rounded 172 = .ok (.lrem, 1) := by decide +kernel
theorem dX12_rounded_173 : decode cX12_rounded 173 = .ok (.lconst 1, 1) := by decide +kernel
theorem dX12_rounded_174 : decode cX12_rounded 174 = .ok (.lcmp, 1) := by decide +kernel
theorem dX12_rounded_175 : decode cX12_rounded 175 = .ok (.ifCond .ne 7, 3) := by decide +kernel
theorem dX12_rounded_178 : decode cX12_rounded 178 = .ok (.iconst 1, 1) := by decide +kernel
theorem dX12_rounded_179 : decode cX12_rounded 179 = .ok (.goto 39, 3) := by decide +kernel
theorem dX12_rounded_182 : decode cX12_rounded 182 = .ok (.iconst 0, 1) := by decide +kernel
theorem dX12_rounded_183 : decode cX12_rounded 183 = .ok (.goto 35, 3) := by decide +kernel
theorem dX12_rounded_186 : decode cX12_rounded 186 = .ok (.lload 16, 2) := by decide +kernel
theorem dX12_rounded_188 : decode cX12_rounded 188 = .ok (.lconst 0, 1) := by decide +kernel
theorem dX12_rounded_189 : decode cX12_rounded 189 = .ok (.lcmp, 1) := by decide +kernel
theorem dX12_rounded_190 : decode cX12_rounded 190 = .ok (.ifCond .le 27, 3) := by decide +kernel
theorem dX12_rounded_193 : decode cX12_rounded 193 = .ok (.iload 7, 2) := by decide +kernel
theorem dX12_rounded_195 : decode cX12_rounded 195 = .ok (.iconst 2, 1) := by decide +kernel
theorem dX12_rounded_196 : decode cX12_rounded 196 = .ok (.if_icmp .ne 7, 3) := by decide +kernel
theorem dX12_rounded_199 : decode cX12_rounded 199 = .ok (.iload_n 1, 1) := by decide +kernel
theorem dX12_rounded_200 : decode cX12_rounded 200 = .ok (.ifCond .eq 13, 3) := by decide +kernel
theorem dX12_rounded_203 : decode cX12_rounded 203 = .ok (.iload 7, 2) := by decide +kernel
theorem dX12_rounded_205 : decode cX12_rounded 205 = .ok (.iconst 3, 1) := by decide +kernel
theorem dX12_rounded_206 : decode cX12_rounded 206 = .ok (.if_icmp .ne 11, 3) := by decide +kernel
theorem dX12_rounded_209 : decode cX12_rounded 209 = .ok (.iload_n 1, 1) := by decide +kernel
theorem dX12_rounded_210 : decode cX12_rounded 210 = .ok (.ifCond .eq 7, 3) := by decide +kernel
theorem dX12_rounded_213 : decode cX12_rounded 213 = .ok (.iconst 1, 1) := by decide +kernel
theorem dX12_rounded_214 : decode cX12_rounded 214 = .ok (.goto 4, 3) := by decide +kernel
theorem dX12_rounded_217 : decode cX12_rounded 217 = .ok (.iconst 0, 1) := by decide +kernel
theorem dX12_rounded_218 : decode cX12_rounded 218 = .ok (.istore 18, 2) := by decide +kernel
theorem dX12_rounded_220 : decode cX12_rounded 220 = .ok (.lload 14, 2) := by decide +kernel
theorem dX12_rounded_222 : decode cX12_rounded 222 = .ok (.iload 18, 2) := by decide +kernel
theorem dX12_rounded_224 : decode cX12_rounded 224 = .ok (.ifCond .eq 7, 3) := by decide +kernel
theorem dX12_rounded_227 : decode cX12_rounded 227 = .ok (.lconst 1, 1) := by decide +kernel
theorem dX12_rounded_228 : decode cX12_rounded 228 = .ok (.goto 4, 3) := by decide +kernel
theorem dX12_rounded_231 : decode cX12_rounded 231 = .ok (.lconst 0, 1) := by decide +kernel
theorem dX12_rounded_232 : decode cX12_rounded 232 = .ok (.ladd, 1) := by decide +kernel
theorem dX12_rounded_233 : decode cX12_rounded 233 = .ok (.lstore 14, 2) := by decide +kernel
theorem dX12_rounded_235 : decode cX12_rounded 235 = .ok (.lload 14, 2) := by decide +kernel
theorem dX12_rounded_237 : decode cX12_rounded 237 = .ok (.aload_n 0, 1) := by decide +kernel
theorem dX12_rounded_238 : decode cX12_rounded 238 = .ok (.getfield 75, 3) := by decide +kernel
theorem dX12_rounded_241 : decode cX12_rounded 241 = .ok (.invokestatic 90, 3) := by decide +kernel
theorem dX12_rounded_244 : decode cX12_rounded 244 = .ok (.lcmp, 1) := by decide +kernel
theorem dX12_rounded_245 : decode cX12_rounded 245 = .ok (.ifCond .ne 14, 3) := by decide +kernel
theorem dX12_rounded_248 : decode cX12_rounded 248 = .ok (.lload 14, 2) := by decide +kernel
theorem dX12_rounded_250 : decode cX12_rounded 250 = .ok (.ldc2_w 86, 3) := by decide +kernel
theorem dX12_rounded_253 : decode cX12_rounded 253 = .ok (.ldiv, 1) := by decide +kernel
theorem dX12_rounded_254 : decode cX12_rounded 254 = .ok (.lstore 14, 2) := by decide +kernel
theorem dX12_rounded_256 : decode cX12_rounded 256 = .ok (.iinc 13 1, 3) := by decide +kernel
theorem dX12_rounded_259 : decode cX12_rounded 259 = .ok (.iload 13, 2) := by decide +kernel
theorem dX12_rounded_261 : decode cX12_rounded 261 = .ok (.bipush 6, 2) := by decide +kernel
theorem dX12_rounded_263 : decode cX12_rounded 263 = .ok (.if_icmp .le 7, 3) := by decide +kernel
theorem dX12_rounded_266 : decode cX12_rounded 266 = .ok (.ldc2_w 94, 3) := by decide +kernel
theorem dX12_rounded_269 : decode cX12_rounded 269 = .ok (.lreturn, 1) := by decide +kernel
theorem dX12_rounded_270 : decode cX12_rounded 270 = .ok (.iload 13, 2) := by decide +kernel
theorem dX12_rounded_272 : decode cX12_rounded 272 = .ok (.bipush (-6), 2) := by decide +kernel
theorem dX12_rounded_274 : decode cX12_rounded 274 = .ok (.if_icmp .lt 22, 3) := by decide +kernel
theorem dX12_rounded_277 : decode cX12_rounded 277 = .ok (.lload 14, 2) := by decide +kernel
theorem dX12_rounded_279 : decode cX12_rounded 279 = .ok (.iload 13, 2) := by decide +kernel
theorem dX12_rounded_281 : decode cX12_rounded 281 = .ok (.aload_n 0, 1) := by decide +kernel
theorem dX12_rounded_282 : decode cX12_rounded 282 = .ok (.getfield 75, 3) := by decide +kernel
theorem dX12_rounded_285 : decode cX12_rounded 285 = .ok (.isub, 1) := by decide +kernel
theorem dX12_rounded_286 : decode cX12_rounded 286 = .ok (.bipush 10, 2) := by decide +kernel
theorem dX12_rounded_288 : decode cX12_rounded 288 = .ok (.iadd, 1) := by decide +kernel
theorem dX12_rounded_289 : decode cX12_rounded 289 = .ok (.invokestatic 90, 3) := by decide +kernel
theorem dX12_rounded_292 : decode cX12_rounded 292 = .ok (.lmul, 1) := by decide +kernel
theorem dX12_rounded_293 : decode cX12_rounded 293 = .ok (.goto 35, 3) := by decide +kernel
theorem dX12_rounded_296 : decode cX12_rounded 296 = .ok (.iload 8, 2) := by decide +kernel
theorem dX12_rounded_298 : decode cX12_rounded 298 = .ok (.ifCond .eq 29, 3) := by decide +kernel
theorem dX12_rounded_301 : decode cX12_rounded 301 = .ok (.iload 7, 2) := by decide +kernel
theorem dX12_rounded_303 : decode cX12_rounded 303 = .ok (.iconst 2, 1) := by decide +kernel
theorem dX12_rounded_304 : decode cX12_rounded 304 = .ok (.if_icmp .ne 7, 3) := by decide +kernel
theorem dX12_rounded_307 : decode cX12_rounded 307 = .ok (.iload_n 1, 1) := by decide +kernel
theorem dX12_rounded_308 : decode cX12_rounded 308 = .ok (.ifCond .eq 13, 3) := by decide +kernel
theorem dX12_rounded_311 : decode cX12_rounded 311 = .ok (.iload 7, 2) := by decide +kernel
theorem dX12_rounded_313 : decode cX12_rounded 313 = .ok (.iconst 3, 1) := by decide +kernel
theorem dX12_rounded_314 : decode cX12_rounded 314 = .ok (.if_icmp .ne 13, 3) := by decide +kernel
theorem dX12_rounded_317 : decode cX12_rounded 317 = .ok (.iload_n 1, 1) := by decide +kernel
theorem dX12_rounded_318 : decode cX12_rounded 318 = .ok (.ifCond .eq 9, 3) := by decide +kernel
theorem dX12_rounded_321 : decode cX12_rounded 321 = .ok (.ldc2_w 96, 3) := by decide +kernel
theorem dX12_rounded_324 : decode cX12_rounded 324 = .ok (.goto 4, 3) := by decide +kernel
theorem dX12_rounded_327 : decode cX12_rounded 327 = .ok (.lconst 0, 1) := by decide +kernel
theorem dX12_rounded_328 : decode cX12_rounded 328 = .ok (.lstore 19, 2) := by decide +kernel
theorem dX12_rounded_330 : decode cX12_rounded 330 = .ok (.iload_n 1, 1) := by decide +kernel
theorem dX12_rounded_331 : decode cX12_rounded 331 = .ok (.ifCond .eq 9, 3) := by decide +kernel
theorem dX12_rounded_334 : decode cX12_rounded 334 = .ok (.lload 19, 2) := by decide +kernel
theorem dX12_rounded_336 : decode cX12_rounded 336 = .ok (.lneg, 1) := by decide +kernel
theorem dX12_rounded_337 : decode cX12_rounded 337 = .ok (.goto 5, 3) := by decide +kernel
theorem dX12_rounded_340 : decode cX12_rounded 340 = .ok (.lload 19, 2) := by decide +kernel
theorem dX12_rounded_342 : decode cX12_rounded 342 = .ok (.lreturn, 1) := by decide +kernel
set_option maxRecDepth 10000 in
theorem TX12_rounded_0 {d : Nat} {S : fW} {h : fH} {Q : Int64 → fH → Prop} {r0 : Nat} {x1 : Int32} {x2 : Int64} {x4 : Int64} {x6 : Int32} {x7 : Int32} {x8 : Int32}  
    (k1 : ¬ x2 = (0 : Int64) → G mX12_rounded (d + 1) S (f_PL Q) 19 [(0, .ref r0), (1, .int x1), (7, .int x7), (8, .int x8), (9, .long x2), (11, .long x4), (13, .int x6)] [] h)
    (k2 : x2 = (0 : Int64) → Q (0 : Int64) h) :
    OkL (d + 1) mX12_rounded S [.ref r0, .int x1, .long x2, .long x4, .int x6, .int x7, .int x8] h Q := by
  refine Ok.of (by decide) (Nat.le_of_ble_eq_true rfl) ?_
  refine G_lload_n 2 rfl dX12_rounded_0 rfl ?_
  refine G_lconst (v := 0) dX12_rounded_1 (by decide) ?_
  refine G_lif_ne (tgt := 8) dX12_rounded_2 dX12_rounded_3 (by decide) (fun c1 => ?_) (fun c1 => ?_)
  · refine G_lload_n 2 rfl dX12_rounded_8 rfl ?_
    refine G_lstore dX12_rounded_9 (by decide) (lv' := [(9, .long x2), (0, .ref r0), (1, .int x1), (2, .long x2), (4, .long x4), (6, .int x6), (7, .int x7), (8, .int x8)]) rfl ?_
    refine G_lload 4 rfl dX12_rounded_11 ?_
    refine G_lstore dX12_rounded_13 (by decide) (lv' := [(11, .long x4), (9, .long x2), (0, .ref r0), (1, .int x1), (2, .long x2), (4, .long x4), (6, .int x6), (7, .int x7), (8, .int x8)]) rfl ?_
    refine G_iload 6 rfl dX12_rounded_15 ?_
    refine G_istore dX12_rounded_17 (by decide) (lv' := [(13, .int x6), (11, .long x4), (9, .long x2), (0, .ref r0), (1, .int x1), (2, .long x2), (4, .long x4), (6, .int x6), (7, .int x7), (8, .int x8)]) rfl ?_
    exact G_sub [3, 4, 8, 9, 2, 1, 0] rfl (k1 c1)
  · refine G_lconst (v := 0) dX12_rounded_6 (by decide) ?_
    exact G_lret rfl dX12_rounded_7 ⟨_, rfl, (k2 c1)⟩

set_option maxRecDepth 10000 in
theorem TX12_rounded_19 {d : Nat} {S : fW} {h : fH} {Q : Int64 → fH → Prop} {r0 : Nat} {x1 : Int32} {x7 : Int32} {x8 : Int32} {x9 : Int64} {x11 : Int64} {x13 : Int32}  
    (k1 : x9 < ((10 : Int64) * x11) → G mX12_rounded (d + 1) S (f_PL Q) 45 [(0, .ref r0), (1, .int x1), (7, .int x7), (8, .int x8), (9, .long x9), (11, .long x11), (13, .int x13)] [] h)
    (k2 : ¬ x9 < ((10 : Int64) * x11) → G mX12_rounded (d + 1) S (f_PL Q) 19 [(0, .ref r0), (1, .int x1), (7, .int x7), (8, .int x8), (9, .long x9), (11, .long (x11 * (10 : Int64))), (13, .int (x13 + 1))] [] h) :
    G mX12_rounded (d + 1) S (f_PL Q) 19 [(0, .ref r0), (1, .int x1), (7, .int x7), (8, .int x8), (9, .long x9), (11, .long x11), (13, .int x13)] [] h := by
  refine G_lload 4 rfl dX12_rounded_19 ?_
  refine G_ldc2 hK_X12_86 dX12_rounded_21 ?_
  refine G_lload 5 rfl dX12_rounded_24 ?_
  refine G_lmul dX12_rounded_26 ?_
  refine G_lif_lt (tgt := 45) dX12_rounded_27 dX12_rounded_28 (by decide) (fun c1 => ?_) (fun c1 => ?_)
  · exact G_sub [0, 1, 2, 3, 4, 5, 6] rfl (k1 c1)
  · refine G_lload 5 rfl dX12_rounded_31 ?_
    refine G_ldc2 hK_X12_86 dX12_rounded_33 ?_
    refine G_lmul dX12_rounded_36 ?_
    refine G_lstore dX12_rounded_37 (by decide) (lv' := [(11, .long (x11 * (10 : Int64))), (0, .ref r0), (1, .int x1), (7, .int x7), (8, .int x8), (9, .long x9), (13, .int x13)]) rfl ?_
    refine G_iinc (v := 1) 6 rfl dX12_rounded_39 (by decide) (by decide) (lv' := [(13, .int (x13 + 1)), (11, .long (x11 * (10 : Int64))), (0, .ref r0), (1, .int x1), (7, .int x7), (8, .int x8), (9, .long x9)]) rfl ?_
    refine G_goto (tgt := 19) dX12_rounded_42 (by decide) ?_
    exact G_sub [2, 3, 4, 5, 6, 1, 0] rfl (k2 c1)

set_option maxRecDepth 10000 in
theorem TX12_rounded_45 {d : Nat} {S : fW} {h : fH} {Q : Int64 → fH → Prop} {r0 : Nat} {x1 : Int32} {x7 : Int32} {x8 : Int32} {x9 : Int64} {x11 : Int64} {x13 : Int32}  
    (k1 : x11 ≤ x9 → G mX12_rounded (d + 1) S (f_PL Q) 77 [(0, .ref r0), (1, .int x1), (7, .int x7), (8, .int x8), (9, .long x9), (11, .long x11), (13, .int x13), (14, .long (0 : Int64)), (16, .long x9), (18, .int (0 : Int32))] [] h)
    (k2 : ¬ x11 ≤ x9 → G mX12_rounded (d + 1) S (f_PL Q) 45 [(0, .ref r0), (1, .int x1), (7, .int x7), (8, .int x8), (9, .long (x9 * (10 : Int64))), (11, .long x11), (13, .int (x13 + (-1)))] [] h) :
    G mX12_rounded (d + 1) S (f_PL Q) 45 [(0, .ref r0), (1, .int x1), (7, .int x7), (8, .int x8), (9, .long x9), (11, .long x11), (13, .int x13)] [] h := by
  refine G_lload 4 rfl dX12_rounded_45 ?_
  refine G_lload 5 rfl dX12_rounded_47 ?_
  refine G_lif_ge (tgt := 67) dX12_rounded_49 dX12_rounded_50 (by decide) (fun c1 => ?_) (fun c1 => ?_)
  · refine G_lconst (v := 0) dX12_rounded_67 (by decide) ?_
    refine G_lstore dX12_rounded_68 (by decide) (lv' := [(14, .long (0 : Int64)), (0, .ref r0), (1, .int x1), (7, .int x7), (8, .int x8), (9, .long x9), (11, .long x11), (13, .int x13)]) rfl ?_
    refine G_lload 5 rfl dX12_rounded_70 ?_
    refine G_lstore dX12_rounded_72 (by decide) (lv' := [(16, .long x9), (14, .long (0 : Int64)), (0, .ref r0), (1, .int x1), (7, .int x7), (8, .int x8), (9, .long x9), (11, .long x11), (13, .int x13)]) rfl ?_
    refine G_iconst (v := 0) dX12_rounded_74 (by decide) ?_
    refine G_istore dX12_rounded_75 (by decide) (lv' := [(18, .int (0 : Int32)), (16, .long x9), (14, .long (0 : Int64)), (0, .ref r0), (1, .int x1), (7, .int x7), (8, .int x8), (9, .long x9), (11, .long x11), (13, .int x13)]) rfl ?_
    exact G_sub [3, 4, 5, 6, 7, 8, 9, 2, 1, 0] rfl (k1 c1)
  · refine G_lload 4 rfl dX12_rounded_53 ?_
    refine G_ldc2 hK_X12_86 dX12_rounded_55 ?_
    refine G_lmul dX12_rounded_58 ?_
    refine G_lstore dX12_rounded_59 (by decide) (lv' := [(9, .long (x9 * (10 : Int64))), (0, .ref r0), (1, .int x1), (7, .int x7), (8, .int x8), (11, .long x11), (13, .int x13)]) rfl ?_
    refine G_iinc (v := -1) 6 rfl dX12_rounded_61 (by decide) (by decide) (lv' := [(13, .int (x13 + (-1))), (9, .long (x9 * (10 : Int64))), (0, .ref r0), (1, .int x1), (7, .int x7), (8, .int x8), (11, .long x11)]) rfl ?_
    refine G_goto (tgt := 45) dX12_rounded_64 (by decide) ?_
    exact G_sub [2, 3, 4, 5, 1, 6, 0] rfl (k2 c1)

set_option maxRecDepth 10000 in
theorem TX12_rounded_77 {d : Nat} {S : fW} {h : fH} {Q : Int64 → fH → Prop} {r0 : Nat} {x1 : Int32} {x7 : Int32} {x8 : Int32} {x9 : Int64} {x11 : Int64} {x13 : Int32} {x14 : Int64} {x16 : Int64} {x18 : Int32} {r0_pad r0_text r0_number r0_span r0_now r0_sizeOf r0_workedTo r0_slip r0_exactUpper r0_exactLower r0_more r0_terms r0_order r0_bestOrder r0_low r0_high r0_built r0_better r0_base r0_kept r0_isKept : Nat}  
    (hs1 : (r0, shX12 r0_pad r0_text r0_number r0_span r0_now r0_sizeOf r0_workedTo r0_slip r0_exactUpper r0_exactLower r0_more r0_terms r0_order r0_bestOrder r0_low r0_high r0_built r0_better r0_base r0_kept r0_isKept) ∈ S)
    (k1 : (h.1 r0 0) ≤ x18 → ¬ x7 = 0 → x16 ≤ (0 : Int64) → G mX12_rounded (d + 1) S (f_PL Q) 218 [(0, .ref r0), (1, .int x1), (7, .int x7), (8, .int x8), (13, .int x13), (14, .long x14)] [.int (0 : Int32)] h)
    (k2 : (h.1 r0 0) ≤ x18 → ¬ x7 = 0 → ¬ x16 ≤ (0 : Int64) → ¬ x7 = (2 : Int32) → ¬ x7 = (3 : Int32) → G mX12_rounded (d + 1) S (f_PL Q) 218 [(0, .ref r0), (1, .int x1), (7, .int x7), (8, .int x8), (13, .int x13), (14, .long x14)] [.int (0 : Int32)] h)
    (k3 : (h.1 r0 0) ≤ x18 → ¬ x7 = 0 → ¬ x16 ≤ (0 : Int64) → ¬ x7 = (2 : Int32) → x7 = (3 : Int32) → x1 = 0 → G mX12_rounded (d + 1) S (f_PL Q) 218 [(0, .ref r0), (1, .int x1), (7, .int x7), (8, .int x8), (13, .int x13), (14, .long x14)] [.int (0 : Int32)] h)
    (k4 : (h.1 r0 0) ≤ x18 → ¬ x7 = 0 → ¬ x16 ≤ (0 : Int64) → ¬ x7 = (2 : Int32) → x7 = (3 : Int32) → ¬ x1 = 0 → G mX12_rounded (d + 1) S (f_PL Q) 218 [(0, .ref r0), (1, .int x1), (7, .int x7), (8, .int x8), (13, .int x13), (14, .long x14)] [.int (1 : Int32)] h)
    (k5 : (h.1 r0 0) ≤ x18 → ¬ x7 = 0 → ¬ x16 ≤ (0 : Int64) → x7 = (2 : Int32) → x1 = 0 → G mX12_rounded (d + 1) S (f_PL Q) 218 [(0, .ref r0), (1, .int x1), (7, .int x7), (8, .int x8), (13, .int x13), (14, .long x14)] [.int (1 : Int32)] h)
    (k6 : (h.1 r0 0) ≤ x18 → ¬ x7 = 0 → ¬ x16 ≤ (0 : Int64) → x7 = (2 : Int32) → ¬ x1 = 0 → ¬ x7 = (3 : Int32) → G mX12_rounded (d + 1) S (f_PL Q) 218 [(0, .ref r0), (1, .int x1), (7, .int x7), (8, .int x8), (13, .int x13), (14, .long x14)] [.int (0 : Int32)] h)
    (k7 : (h.1 r0 0) ≤ x18 → ¬ x7 = 0 → ¬ x16 ≤ (0 : Int64) → x7 = (2 : Int32) → ¬ x1 = 0 → x7 = (3 : Int32) → G mX12_rounded (d + 1) S (f_PL Q) 218 [(0, .ref r0), (1, .int x1), (7, .int x7), (8, .int x8), (13, .int x13), (14, .long x14)] [.int (1 : Int32)] h)
    (k8 : (h.1 r0 0) ≤ x18 → x7 = 0 → x11 < ((2 : Int64) * x16) → G mX12_rounded (d + 1) S (f_PL Q) 218 [(0, .ref r0), (1, .int x1), (7, .int x7), (8, .int x8), (13, .int x13), (14, .long x14)] [.int (1 : Int32)] h)
    (k9 : (h.1 r0 0) ≤ x18 → x7 = 0 → ¬ x11 < ((2 : Int64) * x16) → ¬ ((2 : Int64) * x16) = x11 → G mX12_rounded (d + 1) S (f_PL Q) 218 [(0, .ref r0), (1, .int x1), (7, .int x7), (8, .int x8), (13, .int x13), (14, .long x14)] [.int (0 : Int32)] h)
    (k10 : (h.1 r0 0) ≤ x18 → x7 = 0 → ¬ x11 < ((2 : Int64) * x16) → ((2 : Int64) * x16) = x11 → ¬ (x14 - x14 / (2 : Int64) * (2 : Int64)) = (1 : Int64) → G mX12_rounded (d + 1) S (f_PL Q) 218 [(0, .ref r0), (1, .int x1), (7, .int x7), (8, .int x8), (13, .int x13), (14, .long x14)] [.int (0 : Int32)] h)
    (k11 : (h.1 r0 0) ≤ x18 → x7 = 0 → ¬ x11 < ((2 : Int64) * x16) → ((2 : Int64) * x16) = x11 → (x14 - x14 / (2 : Int64) * (2 : Int64)) = (1 : Int64) → G mX12_rounded (d + 1) S (f_PL Q) 218 [(0, .ref r0), (1, .int x1), (7, .int x7), (8, .int x8), (13, .int x13), (14, .long x14)] [.int (1 : Int32)] h)
    (sd1 : ¬ (h.1 r0 0) ≤ x18 → ¬ x18 = 0 → ¬ x11 = 0)
    (k12 : ¬ (h.1 r0 0) ≤ x18 → ¬ x18 = 0 → G mX12_rounded (d + 1) S (f_PL Q) 77 [(0, .ref r0), (1, .int x1), (7, .int x7), (8, .int x8), (9, .long x9), (11, .long x11), (13, .int x13), (14, .long (((10 : Int64) * x14) + (((10 : Int64) * x16) / x11))), (16, .long (((10 : Int64) * x16) - ((((10 : Int64) * x16) / x11) * x11))), (18, .int (x18 + 1))] [] h)
    (sd2 : ¬ (h.1 r0 0) ≤ x18 → x18 = 0 → ¬ x11 = 0)
    (k13 : ¬ (h.1 r0 0) ≤ x18 → x18 = 0 → G mX12_rounded (d + 1) S (f_PL Q) 77 [(0, .ref r0), (1, .int x1), (7, .int x7), (8, .int x8), (9, .long x9), (11, .long x11), (13, .int x13), (14, .long (((10 : Int64) * x14) + (x9 / x11))), (16, .long (x9 - ((x9 / x11) * x11))), (18, .int (x18 + 1))] [] h) :
    G mX12_rounded (d + 1) S (f_PL Q) 77 [(0, .ref r0), (1, .int x1), (7, .int x7), (8, .int x8), (9, .long x9), (11, .long x11), (13, .int x13), (14, .long x14), (16, .long x16), (18, .int x18)] [] h := by
  refine G_iload 9 rfl dX12_rounded_77 ?_
  refine G_aload_n 0 rfl dX12_rounded_79 rfl ?_
  refine G_geti (k := 0) hs1 (q := (RX12, TX12, 40)) rfl inX12 (by decide) (Or.inl rfl) hF_X12_75 dX12_rounded_80 ?_
  refine G_icmp_ge (tgt := 138) dX12_rounded_83 (by decide) (fun c1 => ?_) (fun c1 => ?_)
  · refine G_iload 2 rfl dX12_rounded_138 ?_
    refine G_if_ne (tgt := 186) dX12_rounded_140 (by decide) (fun c2 => ?_) (fun c2 => ?_)
    · refine G_lload 8 rfl dX12_rounded_186 ?_
      refine G_lconst (v := 0) dX12_rounded_188 (by decide) ?_
      refine G_lif_le (tgt := 217) dX12_rounded_189 dX12_rounded_190 (by decide) (fun c3 => ?_) (fun c3 => ?_)
      · refine G_iconst (v := 0) dX12_rounded_217 (by decide) ?_
        exact G_sub [0, 1, 2, 3, 6, 7] rfl (k1 c1 c2 c3)
      · refine G_iload 2 rfl dX12_rounded_193 ?_
        refine G_iconst (v := 2) dX12_rounded_195 (by decide) ?_
        refine G_icmp_ne (tgt := 203) dX12_rounded_196 (by decide) (fun c4 => ?_) (fun c4 => ?_)
        · refine G_iload 2 rfl dX12_rounded_203 ?_
          refine G_iconst (v := 3) dX12_rounded_205 (by decide) ?_
          refine G_icmp_ne (tgt := 217) dX12_rounded_206 (by decide) (fun c5 => ?_) (fun c5 => ?_)
          · refine G_iconst (v := 0) dX12_rounded_217 (by decide) ?_
            exact G_sub [0, 1, 2, 3, 6, 7] rfl (k2 c1 c2 c3 c4 c5)
          · refine G_iload_n 1 rfl dX12_rounded_209 rfl ?_
            refine G_if_eq (tgt := 217) dX12_rounded_210 (by decide) (fun c6 => ?_) (fun c6 => ?_)
            · refine G_iconst (v := 0) dX12_rounded_217 (by decide) ?_
              exact G_sub [0, 1, 2, 3, 6, 7] rfl (k3 c1 c2 c3 c4 c5 c6)
            · refine G_iconst (v := 1) dX12_rounded_213 (by decide) ?_
              refine G_goto (tgt := 218) dX12_rounded_214 (by decide) ?_
              exact G_sub [0, 1, 2, 3, 6, 7] rfl (k4 c1 c2 c3 c4 c5 c6)
        · refine G_iload_n 1 rfl dX12_rounded_199 rfl ?_
          refine G_if_eq (tgt := 213) dX12_rounded_200 (by decide) (fun c5 => ?_) (fun c5 => ?_)
          · refine G_iconst (v := 1) dX12_rounded_213 (by decide) ?_
            refine G_goto (tgt := 218) dX12_rounded_214 (by decide) ?_
            exact G_sub [0, 1, 2, 3, 6, 7] rfl (k5 c1 c2 c3 c4 c5)
          · refine G_iload 2 rfl dX12_rounded_203 ?_
            refine G_iconst (v := 3) dX12_rounded_205 (by decide) ?_
            refine G_icmp_ne (tgt := 217) dX12_rounded_206 (by decide) (fun c6 => ?_) (fun c6 => ?_)
            · refine G_iconst (v := 0) dX12_rounded_217 (by decide) ?_
              exact G_sub [0, 1, 2, 3, 6, 7] rfl (k6 c1 c2 c3 c4 c5 c6)
            · refine G_iload_n 1 rfl dX12_rounded_209 rfl ?_
              refine G_if_eq (tgt := 217) dX12_rounded_210 (by decide) (fun c7 => absurd c7 c5) (fun c7 => ?_)
              refine G_iconst (v := 1) dX12_rounded_213 (by decide) ?_
              refine G_goto (tgt := 218) dX12_rounded_214 (by decide) ?_
              exact G_sub [0, 1, 2, 3, 6, 7] rfl (k7 c1 c2 c3 c4 c5 c6)
    · refine G_ldc2 hK_X12_88 dX12_rounded_143 ?_
      refine G_lload 8 rfl dX12_rounded_146 ?_
      refine G_lmul dX12_rounded_148 ?_
      refine G_lload 5 rfl dX12_rounded_149 ?_
      refine G_lif_gt (tgt := 178) dX12_rounded_151 dX12_rounded_152 (by decide) (fun c3 => ?_) (fun c3 => ?_)
      · refine G_iconst (v := 1) dX12_rounded_178 (by decide) ?_
        refine G_goto (tgt := 218) dX12_rounded_179 (by decide) ?_
        exact G_sub [0, 1, 2, 3, 6, 7] rfl (k8 c1 c2 c3)
      · refine G_ldc2 hK_X12_88 dX12_rounded_155 ?_
        refine G_lload 8 rfl dX12_rounded_158 ?_
        refine G_lmul dX12_rounded_160 ?_
        refine G_lload 5 rfl dX12_rounded_161 ?_
        refine G_lif_ne (tgt := 182) dX12_rounded_163 dX12_rounded_164 (by decide) (fun c4 => ?_) (fun c4 => ?_)
        · refine G_iconst (v := 0) dX12_rounded_182 (by decide) ?_
          refine G_goto (tgt := 218) dX12_rounded_183 (by decide) ?_
          exact G_sub [0, 1, 2, 3, 6, 7] rfl (k9 c1 c2 c3 c4)
        · refine G_lload 7 rfl dX12_rounded_167 ?_
          refine G_ldc2 hK_X12_88 dX12_rounded_169 ?_
          refine G_lrem dX12_rounded_172 (by decide) ?_
          refine G_lconst (v := 1) dX12_rounded_173 (by decide) ?_
          refine G_lif_ne (tgt := 182) dX12_rounded_174 dX12_rounded_175 (by decide) (fun c5 => ?_) (fun c5 => ?_)
          · refine G_iconst (v := 0) dX12_rounded_182 (by decide) ?_
            refine G_goto (tgt := 218) dX12_rounded_183 (by decide) ?_
            exact G_sub [0, 1, 2, 3, 6, 7] rfl (k10 c1 c2 c3 c4 c5)
          · refine G_iconst (v := 1) dX12_rounded_178 (by decide) ?_
            refine G_goto (tgt := 218) dX12_rounded_179 (by decide) ?_
            exact G_sub [0, 1, 2, 3, 6, 7] rfl (k11 c1 c2 c3 c4 c5)
  · refine G_iload 9 rfl dX12_rounded_86 ?_
    refine G_if_ne (tgt := 96) dX12_rounded_88 (by decide) (fun c2 => ?_) (fun c2 => ?_)
    · refine G_ldc2 hK_X12_86 dX12_rounded_96 ?_
      refine G_lload 8 rfl dX12_rounded_99 ?_
      refine G_lmul dX12_rounded_101 ?_
      refine G_lstore dX12_rounded_102 (by decide) (lv' := [(16, .long ((10 : Int64) * x16)), (0, .ref r0), (1, .int x1), (7, .int x7), (8, .int x8), (9, .long x9), (11, .long x11), (13, .int x13), (14, .long x14), (18, .int x18)]) rfl ?_
      refine G_lload 0 rfl dX12_rounded_104 ?_
      refine G_lload 6 rfl dX12_rounded_106 ?_
      refine G_ldiv dX12_rounded_108 (sd1 c1 c2) ?_
      refine G_lstore dX12_rounded_109 (by decide) (lv' := [(19, .long (((10 : Int64) * x16) / x11)), (16, .long ((10 : Int64) * x16)), (0, .ref r0), (1, .int x1), (7, .int x7), (8, .int x8), (9, .long x9), (11, .long x11), (13, .int x13), (14, .long x14), (18, .int x18)]) rfl ?_
      refine G_ldc2 hK_X12_86 dX12_rounded_111 ?_
      refine G_lload 9 rfl dX12_rounded_114 ?_
      refine G_lmul dX12_rounded_116 ?_
      refine G_lload 0 rfl dX12_rounded_117 ?_
      refine G_ladd dX12_rounded_119 ?_
      refine G_lstore dX12_rounded_120 (by decide) (lv' := [(14, .long (((10 : Int64) * x14) + (((10 : Int64) * x16) / x11))), (19, .long (((10 : Int64) * x16) / x11)), (16, .long ((10 : Int64) * x16)), (0, .ref r0), (1, .int x1), (7, .int x7), (8, .int x8), (9, .long x9), (11, .long x11), (13, .int x13), (18, .int x18)]) rfl ?_
      refine G_lload 2 rfl dX12_rounded_122 ?_
      refine G_lload 1 rfl dX12_rounded_124 ?_
      refine G_lload 8 rfl dX12_rounded_126 ?_
      refine G_lmul dX12_rounded_128 ?_
      refine G_lsub dX12_rounded_129 ?_
      refine G_lstore dX12_rounded_130 (by decide) (lv' := [(16, .long (((10 : Int64) * x16) - ((((10 : Int64) * x16) / x11) * x11))), (14, .long (((10 : Int64) * x14) + (((10 : Int64) * x16) / x11))), (19, .long (((10 : Int64) * x16) / x11)), (0, .ref r0), (1, .int x1), (7, .int x7), (8, .int x8), (9, .long x9), (11, .long x11), (13, .int x13), (18, .int x18)]) rfl ?_
      refine G_iinc (v := 1) 10 rfl dX12_rounded_132 (by decide) (by decide) (lv' := [(18, .int (x18 + 1)), (16, .long (((10 : Int64) * x16) - ((((10 : Int64) * x16) / x11) * x11))), (14, .long (((10 : Int64) * x14) + (((10 : Int64) * x16) / x11))), (19, .long (((10 : Int64) * x16) / x11)), (0, .ref r0), (1, .int x1), (7, .int x7), (8, .int x8), (9, .long x9), (11, .long x11), (13, .int x13)]) rfl ?_
      refine G_goto (tgt := 77) dX12_rounded_135 (by decide) ?_
      exact G_sub [4, 5, 6, 7, 8, 9, 10, 2, 1, 0] rfl (k12 c1 c2)
    · refine G_lload 4 rfl dX12_rounded_91 ?_
      refine G_goto (tgt := 102) dX12_rounded_93 (by decide) ?_
      refine G_lstore dX12_rounded_102 (by decide) (lv' := [(16, .long x9), (0, .ref r0), (1, .int x1), (7, .int x7), (8, .int x8), (9, .long x9), (11, .long x11), (13, .int x13), (14, .long x14), (18, .int x18)]) rfl ?_
      refine G_lload 0 rfl dX12_rounded_104 ?_
      refine G_lload 6 rfl dX12_rounded_106 ?_
      refine G_ldiv dX12_rounded_108 (sd2 c1 c2) ?_
      refine G_lstore dX12_rounded_109 (by decide) (lv' := [(19, .long (x9 / x11)), (16, .long x9), (0, .ref r0), (1, .int x1), (7, .int x7), (8, .int x8), (9, .long x9), (11, .long x11), (13, .int x13), (14, .long x14), (18, .int x18)]) rfl ?_
      refine G_ldc2 hK_X12_86 dX12_rounded_111 ?_
      refine G_lload 9 rfl dX12_rounded_114 ?_
      refine G_lmul dX12_rounded_116 ?_
      refine G_lload 0 rfl dX12_rounded_117 ?_
      refine G_ladd dX12_rounded_119 ?_
      refine G_lstore dX12_rounded_120 (by decide) (lv' := [(14, .long (((10 : Int64) * x14) + (x9 / x11))), (19, .long (x9 / x11)), (16, .long x9), (0, .ref r0), (1, .int x1), (7, .int x7), (8, .int x8), (9, .long x9), (11, .long x11), (13, .int x13), (18, .int x18)]) rfl ?_
      refine G_lload 2 rfl dX12_rounded_122 ?_
      refine G_lload 1 rfl dX12_rounded_124 ?_
      refine G_lload 8 rfl dX12_rounded_126 ?_
      refine G_lmul dX12_rounded_128 ?_
      refine G_lsub dX12_rounded_129 ?_
      refine G_lstore dX12_rounded_130 (by decide) (lv' := [(16, .long (x9 - ((x9 / x11) * x11))), (14, .long (((10 : Int64) * x14) + (x9 / x11))), (19, .long (x9 / x11)), (0, .ref r0), (1, .int x1), (7, .int x7), (8, .int x8), (9, .long x9), (11, .long x11), (13, .int x13), (18, .int x18)]) rfl ?_
      refine G_iinc (v := 1) 10 rfl dX12_rounded_132 (by decide) (by decide) (lv' := [(18, .int (x18 + 1)), (16, .long (x9 - ((x9 / x11) * x11))), (14, .long (((10 : Int64) * x14) + (x9 / x11))), (19, .long (x9 / x11)), (0, .ref r0), (1, .int x1), (7, .int x7), (8, .int x8), (9, .long x9), (11, .long x11), (13, .int x13)]) rfl ?_
      refine G_goto (tgt := 77) dX12_rounded_135 (by decide) ?_
      exact G_sub [4, 5, 6, 7, 8, 9, 10, 2, 1, 0] rfl (k13 c1 c2)

set_option maxRecDepth 10000 in
theorem TX12_rounded_218 {d : Nat} {S : fW} {h : fH} {Q : Int64 → fH → Prop} {r0 : Nat} {x1 : Int32} {x7 : Int32} {x8 : Int32} {x13 : Int32} {x14 : Int64} {s0 : Int32} {r0_pad r0_text r0_number r0_span r0_now r0_sizeOf r0_workedTo r0_slip r0_exactUpper r0_exactLower r0_more r0_terms r0_order r0_bestOrder r0_low r0_high r0_built r0_better r0_base r0_kept r0_isKept : Nat} {Q1 : Int64 → fH → Prop} {Q2 : Int64 → fH → Prop} 
    (hs1 : (r0, shX12 r0_pad r0_text r0_number r0_span r0_now r0_sizeOf r0_workedTo r0_slip r0_exactUpper r0_exactLower r0_more r0_terms r0_order r0_bestOrder r0_low r0_high r0_built r0_better r0_base r0_kept r0_isKept) ∈ S)
    (ok1 : s0 = 0 → OkL d mX12_power S [.int (h.1 r0 0)] h Q1)
    (k1 : s0 = 0 → ∀ v_1 h_1, Q1 v_1 h_1 → ¬ (x14 + (0 : Int64)) = v_1 → G mX12_rounded (d + 1) S (f_PL Q) 259 [(0, .ref r0), (1, .int x1), (7, .int x7), (8, .int x8), (13, .int x13), (14, .long (x14 + (0 : Int64)))] [] h_1)
    (k2 : s0 = 0 → ∀ v_1 h_1, Q1 v_1 h_1 → (x14 + (0 : Int64)) = v_1 → G mX12_rounded (d + 1) S (f_PL Q) 259 [(0, .ref r0), (1, .int x1), (7, .int x7), (8, .int x8), (13, .int (x13 + 1)), (14, .long ((x14 + (0 : Int64)) / (10 : Int64)))] [] h_1)
    (ok2 : ¬ s0 = 0 → OkL d mX12_power S [.int (h.1 r0 0)] h Q2)
    (k3 : ¬ s0 = 0 → ∀ v_2 h_2, Q2 v_2 h_2 → ¬ (x14 + (1 : Int64)) = v_2 → G mX12_rounded (d + 1) S (f_PL Q) 259 [(0, .ref r0), (1, .int x1), (7, .int x7), (8, .int x8), (13, .int x13), (14, .long (x14 + (1 : Int64)))] [] h_2)
    (k4 : ¬ s0 = 0 → ∀ v_2 h_2, Q2 v_2 h_2 → (x14 + (1 : Int64)) = v_2 → G mX12_rounded (d + 1) S (f_PL Q) 259 [(0, .ref r0), (1, .int x1), (7, .int x7), (8, .int x8), (13, .int (x13 + 1)), (14, .long ((x14 + (1 : Int64)) / (10 : Int64)))] [] h_2) :
    G mX12_rounded (d + 1) S (f_PL Q) 218 [(0, .ref r0), (1, .int x1), (7, .int x7), (8, .int x8), (13, .int x13), (14, .long x14)] [.int s0] h := by
  refine G_istore dX12_rounded_218 (by decide) (lv' := [(18, .int s0), (0, .ref r0), (1, .int x1), (7, .int x7), (8, .int x8), (13, .int x13), (14, .long x14)]) rfl ?_
  refine G_lload 6 rfl dX12_rounded_220 ?_
  refine G_iload 0 rfl dX12_rounded_222 ?_
  refine G_if_eq (tgt := 231) dX12_rounded_224 (by decide) (fun c1 => ?_) (fun c1 => ?_)
  · refine G_lconst (v := 0) dX12_rounded_231 (by decide) ?_
    refine G_ladd dX12_rounded_232 ?_
    refine G_lstore dX12_rounded_233 (by decide) (lv' := [(14, .long (x14 + (0 : Int64))), (18, .int s0), (0, .ref r0), (1, .int x1), (7, .int x7), (8, .int x8), (13, .int x13)]) rfl ?_
    refine G_lload 0 rfl dX12_rounded_235 ?_
    refine G_aload_n 2 rfl dX12_rounded_237 rfl ?_
    refine G_geti (k := 0) hs1 (q := (RX12, TX12, 40)) rfl inX12 (by decide) (Or.inl rfl) hF_X12_75 dX12_rounded_238 ?_
    refine G_callS (Z := mX12_power) (As := [.int (h.1 r0 0)]) (st := [.long (x14 + (0 : Int64))]) hL_X12_90 hT_X12_power hC_X12_power hN_X12 nX12_power (by decide) rfl (Nat.le_of_ble_eq_true rfl) dX12_rounded_241 (ok1 c1) (fun r_ h_1 z_ => ?_)
    obtain ⟨v_1, rfl, q_1⟩ := z_
    refine G_lif_ne (tgt := 259) dX12_rounded_244 dX12_rounded_245 (by decide) (fun c3 => ?_) (fun c3 => ?_)
    · exact G_sub [2, 3, 4, 5, 6, 0] rfl (k1 c1 v_1 h_1 q_1 c3)
    · refine G_lload 0 rfl dX12_rounded_248 ?_
      refine G_ldc2 hK_X12_86 dX12_rounded_250 ?_
      refine G_ldiv dX12_rounded_253 (by decide) ?_
      refine G_lstore dX12_rounded_254 (by decide) (lv' := [(14, .long ((x14 + (0 : Int64)) / (10 : Int64))), (18, .int s0), (0, .ref r0), (1, .int x1), (7, .int x7), (8, .int x8), (13, .int x13)]) rfl ?_
      refine G_iinc (v := 1) 6 rfl dX12_rounded_256 (by decide) (by decide) (lv' := [(13, .int (x13 + 1)), (14, .long ((x14 + (0 : Int64)) / (10 : Int64))), (18, .int s0), (0, .ref r0), (1, .int x1), (7, .int x7), (8, .int x8)]) rfl ?_
      exact G_sub [3, 4, 5, 6, 0, 1] rfl (k2 c1 v_1 h_1 q_1 c3)
  · refine G_lconst (v := 1) dX12_rounded_227 (by decide) ?_
    refine G_goto (tgt := 232) dX12_rounded_228 (by decide) ?_
    refine G_ladd dX12_rounded_232 ?_
    refine G_lstore dX12_rounded_233 (by decide) (lv' := [(14, .long (x14 + (1 : Int64))), (18, .int s0), (0, .ref r0), (1, .int x1), (7, .int x7), (8, .int x8), (13, .int x13)]) rfl ?_
    refine G_lload 0 rfl dX12_rounded_235 ?_
    refine G_aload_n 2 rfl dX12_rounded_237 rfl ?_
    refine G_geti (k := 0) hs1 (q := (RX12, TX12, 40)) rfl inX12 (by decide) (Or.inl rfl) hF_X12_75 dX12_rounded_238 ?_
    refine G_callS (Z := mX12_power) (As := [.int (h.1 r0 0)]) (st := [.long (x14 + (1 : Int64))]) hL_X12_90 hT_X12_power hC_X12_power hN_X12 nX12_power (by decide) rfl (Nat.le_of_ble_eq_true rfl) dX12_rounded_241 (ok2 c1) (fun r_ h_2 z_ => ?_)
    obtain ⟨v_2, rfl, q_2⟩ := z_
    refine G_lif_ne (tgt := 259) dX12_rounded_244 dX12_rounded_245 (by decide) (fun c3 => ?_) (fun c3 => ?_)
    · exact G_sub [2, 3, 4, 5, 6, 0] rfl (k3 c1 v_2 h_2 q_2 c3)
    · refine G_lload 0 rfl dX12_rounded_248 ?_
      refine G_ldc2 hK_X12_86 dX12_rounded_250 ?_
      refine G_ldiv dX12_rounded_253 (by decide) ?_
      refine G_lstore dX12_rounded_254 (by decide) (lv' := [(14, .long ((x14 + (1 : Int64)) / (10 : Int64))), (18, .int s0), (0, .ref r0), (1, .int x1), (7, .int x7), (8, .int x8), (13, .int x13)]) rfl ?_
      refine G_iinc (v := 1) 6 rfl dX12_rounded_256 (by decide) (by decide) (lv' := [(13, .int (x13 + 1)), (14, .long ((x14 + (1 : Int64)) / (10 : Int64))), (18, .int s0), (0, .ref r0), (1, .int x1), (7, .int x7), (8, .int x8)]) rfl ?_
      exact G_sub [3, 4, 5, 6, 0, 1] rfl (k4 c1 v_2 h_2 q_2 c3)

set_option maxRecDepth 10000 in
theorem TX12_rounded_259 {d : Nat} {S : fW} {h : fH} {Q : Int64 → fH → Prop} {r0 : Nat} {x1 : Int32} {x7 : Int32} {x8 : Int32} {x13 : Int32} {x14 : Int64} {r0_pad r0_text r0_number r0_span r0_now r0_sizeOf r0_workedTo r0_slip r0_exactUpper r0_exactLower r0_more r0_terms r0_order r0_bestOrder r0_low r0_high r0_built r0_better r0_base r0_kept r0_isKept : Nat} {Q1 : Int64 → fH → Prop} 
    (k1 : x13 ≤ (6 : Int32) → x13 < (-6 : Int32) → x8 = 0 → x1 = 0 → Q (0 : Int64) h)
    (k2 : x13 ≤ (6 : Int32) → x13 < (-6 : Int32) → x8 = 0 → ¬ x1 = 0 → Q (-(0 : Int64)) h)
    (k3 : x13 ≤ (6 : Int32) → x13 < (-6 : Int32) → ¬ x8 = 0 → ¬ x7 = (2 : Int32) → G mX12_rounded (d + 1) S (f_PL Q) 311 [(1, .int x1), (7, .int x7)] [] h)
    (k4 : x13 ≤ (6 : Int32) → x13 < (-6 : Int32) → ¬ x8 = 0 → x7 = (2 : Int32) → x1 = 0 → Q (1000 : Int64) h)
    (k5 : x13 ≤ (6 : Int32) → x13 < (-6 : Int32) → ¬ x8 = 0 → x7 = (2 : Int32) → ¬ x1 = 0 → G mX12_rounded (d + 1) S (f_PL Q) 311 [(1, .int x1), (7, .int x7)] [] h)
    (hs1 : (r0, shX12 r0_pad r0_text r0_number r0_span r0_now r0_sizeOf r0_workedTo r0_slip r0_exactUpper r0_exactLower r0_more r0_terms r0_order r0_bestOrder r0_low r0_high r0_built r0_better r0_base r0_kept r0_isKept) ∈ S)
    (ok1 : x13 ≤ (6 : Int32) → ¬ x13 < (-6 : Int32) → OkL d mX12_power S [.int ((x13 - (h.1 r0 0)) + (10 : Int32))] h Q1)
    (k6 : x13 ≤ (6 : Int32) → ¬ x13 < (-6 : Int32) → ∀ v_1 h_1, Q1 v_1 h_1 → x1 = 0 → Q (x14 * v_1) h_1)
    (k7 : x13 ≤ (6 : Int32) → ¬ x13 < (-6 : Int32) → ∀ v_1 h_1, Q1 v_1 h_1 → ¬ x1 = 0 → Q (-(x14 * v_1)) h_1)
    (k8 : ¬ x13 ≤ (6 : Int32) → Q (1000000000000000000 : Int64) h) :
    G mX12_rounded (d + 1) S (f_PL Q) 259 [(0, .ref r0), (1, .int x1), (7, .int x7), (8, .int x8), (13, .int x13), (14, .long x14)] [] h := by
  refine G_iload 4 rfl dX12_rounded_259 ?_
  refine G_bipush (v := 6) dX12_rounded_261 (by decide) ?_
  refine G_icmp_le (tgt := 270) dX12_rounded_263 (by decide) (fun c1 => ?_) (fun c1 => ?_)
  · refine G_iload 4 rfl dX12_rounded_270 ?_
    refine G_bipush (v := -6) dX12_rounded_272 (by decide) ?_
    refine G_icmp_lt (tgt := 296) dX12_rounded_274 (by decide) (fun c2 => ?_) (fun c2 => ?_)
    · refine G_iload 3 rfl dX12_rounded_296 ?_
      refine G_if_eq (tgt := 327) dX12_rounded_298 (by decide) (fun c3 => ?_) (fun c3 => ?_)
      · refine G_lconst (v := 0) dX12_rounded_327 (by decide) ?_
        refine G_lstore dX12_rounded_328 (by decide) (lv' := [(19, .long (0 : Int64)), (0, .ref r0), (1, .int x1), (7, .int x7), (8, .int x8), (13, .int x13), (14, .long x14)]) rfl ?_
        refine G_iload_n 2 rfl dX12_rounded_330 rfl ?_
        refine G_if_eq (tgt := 340) dX12_rounded_331 (by decide) (fun c4 => ?_) (fun c4 => ?_)
        · refine G_lload 0 rfl dX12_rounded_340 ?_
          exact G_lret rfl dX12_rounded_342 ⟨_, rfl, (k1 c1 c2 c3 c4)⟩
        · refine G_lload 0 rfl dX12_rounded_334 ?_
          refine G_lneg dX12_rounded_336 ?_
          refine G_goto (tgt := 342) dX12_rounded_337 (by decide) ?_
          exact G_lret rfl dX12_rounded_342 ⟨_, rfl, (k2 c1 c2 c3 c4)⟩
      · refine G_iload 2 rfl dX12_rounded_301 ?_
        refine G_iconst (v := 2) dX12_rounded_303 (by decide) ?_
        refine G_icmp_ne (tgt := 311) dX12_rounded_304 (by decide) (fun c4 => ?_) (fun c4 => ?_)
        · exact G_sub [1, 2] rfl (k3 c1 c2 c3 c4)
        · refine G_iload_n 1 rfl dX12_rounded_307 rfl ?_
          refine G_if_eq (tgt := 321) dX12_rounded_308 (by decide) (fun c5 => ?_) (fun c5 => ?_)
          · refine G_ldc2 hK_X12_96 dX12_rounded_321 ?_
            refine G_goto (tgt := 328) dX12_rounded_324 (by decide) ?_
            refine G_lstore dX12_rounded_328 (by decide) (lv' := [(19, .long (1000 : Int64)), (0, .ref r0), (1, .int x1), (7, .int x7), (8, .int x8), (13, .int x13), (14, .long x14)]) rfl ?_
            refine G_iload_n 2 rfl dX12_rounded_330 rfl ?_
            refine G_if_eq (tgt := 340) dX12_rounded_331 (by decide) (fun c6 => ?_) (fun c6 => absurd c5 c6)
            refine G_lload 0 rfl dX12_rounded_340 ?_
            exact G_lret rfl dX12_rounded_342 ⟨_, rfl, (k4 c1 c2 c3 c4 c5)⟩
          · exact G_sub [1, 2] rfl (k5 c1 c2 c3 c4 c5)
    · refine G_lload 5 rfl dX12_rounded_277 ?_
      refine G_iload 4 rfl dX12_rounded_279 ?_
      refine G_aload_n 0 rfl dX12_rounded_281 rfl ?_
      refine G_geti (k := 0) hs1 (q := (RX12, TX12, 40)) rfl inX12 (by decide) (Or.inl rfl) hF_X12_75 dX12_rounded_282 ?_
      refine G_isub dX12_rounded_285 ?_
      refine G_bipush (v := 10) dX12_rounded_286 (by decide) ?_
      refine G_iadd dX12_rounded_288 ?_
      refine G_callS (Z := mX12_power) (As := [.int ((x13 - (h.1 r0 0)) + (10 : Int32))]) (st := [.long x14]) hL_X12_90 hT_X12_power hC_X12_power hN_X12 nX12_power (by decide) rfl (Nat.le_of_ble_eq_true rfl) dX12_rounded_289 (ok1 c1 c2) (fun r_ h_1 z_ => ?_)
      obtain ⟨v_1, rfl, q_1⟩ := z_
      refine G_lmul dX12_rounded_292 ?_
      refine G_goto (tgt := 328) dX12_rounded_293 (by decide) ?_
      refine G_lstore dX12_rounded_328 (by decide) (lv' := [(19, .long (x14 * v_1)), (0, .ref r0), (1, .int x1), (7, .int x7), (8, .int x8), (13, .int x13), (14, .long x14)]) rfl ?_
      refine G_iload_n 2 rfl dX12_rounded_330 rfl ?_
      refine G_if_eq (tgt := 340) dX12_rounded_331 (by decide) (fun c4 => ?_) (fun c4 => ?_)
      · refine G_lload 0 rfl dX12_rounded_340 ?_
        exact G_lret rfl dX12_rounded_342 ⟨_, rfl, (k6 c1 c2 v_1 h_1 q_1 c4)⟩
      · refine G_lload 0 rfl dX12_rounded_334 ?_
        refine G_lneg dX12_rounded_336 ?_
        refine G_goto (tgt := 342) dX12_rounded_337 (by decide) ?_
        exact G_lret rfl dX12_rounded_342 ⟨_, rfl, (k7 c1 c2 v_1 h_1 q_1 c4)⟩
  · refine G_ldc2 hK_X12_94 dX12_rounded_266 ?_
    exact G_lret rfl dX12_rounded_269 ⟨_, rfl, (k8 c1)⟩

set_option maxRecDepth 10000 in
theorem TX12_rounded_311 {d : Nat} {S : fW} {h : fH} {Q : Int64 → fH → Prop} {x1 : Int32} {x7 : Int32}  
    (k1 : ¬ x7 = (3 : Int32) → x1 = 0 → Q (0 : Int64) h)
    (k2 : ¬ x7 = (3 : Int32) → ¬ x1 = 0 → Q (-(0 : Int64)) h)
    (k3 : x7 = (3 : Int32) → x1 = 0 → Q (0 : Int64) h)
    (k4 : x7 = (3 : Int32) → ¬ x1 = 0 → Q (-(1000 : Int64)) h) :
    G mX12_rounded (d + 1) S (f_PL Q) 311 [(1, .int x1), (7, .int x7)] [] h := by
  refine G_iload 1 rfl dX12_rounded_311 ?_
  refine G_iconst (v := 3) dX12_rounded_313 (by decide) ?_
  refine G_icmp_ne (tgt := 327) dX12_rounded_314 (by decide) (fun c1 => ?_) (fun c1 => ?_)
  · refine G_lconst (v := 0) dX12_rounded_327 (by decide) ?_
    refine G_lstore dX12_rounded_328 (by decide) (lv' := [(19, .long (0 : Int64)), (1, .int x1), (7, .int x7)]) rfl ?_
    refine G_iload_n 1 rfl dX12_rounded_330 rfl ?_
    refine G_if_eq (tgt := 340) dX12_rounded_331 (by decide) (fun c2 => ?_) (fun c2 => ?_)
    · refine G_lload 0 rfl dX12_rounded_340 ?_
      exact G_lret rfl dX12_rounded_342 ⟨_, rfl, (k1 c1 c2)⟩
    · refine G_lload 0 rfl dX12_rounded_334 ?_
      refine G_lneg dX12_rounded_336 ?_
      refine G_goto (tgt := 342) dX12_rounded_337 (by decide) ?_
      exact G_lret rfl dX12_rounded_342 ⟨_, rfl, (k2 c1 c2)⟩
  · refine G_iload_n 0 rfl dX12_rounded_317 rfl ?_
    refine G_if_eq (tgt := 327) dX12_rounded_318 (by decide) (fun c2 => ?_) (fun c2 => ?_)
    · refine G_lconst (v := 0) dX12_rounded_327 (by decide) ?_
      refine G_lstore dX12_rounded_328 (by decide) (lv' := [(19, .long (0 : Int64)), (1, .int x1), (7, .int x7)]) rfl ?_
      refine G_iload_n 1 rfl dX12_rounded_330 rfl ?_
      refine G_if_eq (tgt := 340) dX12_rounded_331 (by decide) (fun c3 => ?_) (fun c3 => absurd c2 c3)
      refine G_lload 0 rfl dX12_rounded_340 ?_
      exact G_lret rfl dX12_rounded_342 ⟨_, rfl, (k3 c1 c2)⟩
    · refine G_ldc2 hK_X12_96 dX12_rounded_321 ?_
      refine G_goto (tgt := 328) dX12_rounded_324 (by decide) ?_
      refine G_lstore dX12_rounded_328 (by decide) (lv' := [(19, .long (1000 : Int64)), (1, .int x1), (7, .int x7)]) rfl ?_
      refine G_iload_n 1 rfl dX12_rounded_330 rfl ?_
      refine G_if_eq (tgt := 340) dX12_rounded_331 (by decide) (fun c3 => absurd c3 c2) (fun c3 => ?_)
      refine G_lload 0 rfl dX12_rounded_334 ?_
      refine G_lneg dX12_rounded_336 ?_
      refine G_goto (tgt := 342) dX12_rounded_337 (by decide) ?_
      exact G_lret rfl dX12_rounded_342 ⟨_, rfl, (k4 c1 c2)⟩
-- LostDigitsModel.roundOf
theorem dX12_roundOf_0 : decode cX12_roundOf 0 = .ok (.aload_n 0, 1) := by decide +kernel
theorem dX12_roundOf_1 : decode cX12_roundOf 1 = .ok (.lload_n 1, 1) := by decide +kernel
theorem dX12_roundOf_2 : decode cX12_roundOf 2 = .ok (.lconst 0, 1) := by decide +kernel
theorem dX12_roundOf_3 : decode cX12_roundOf 3 = .ok (.lcmp, 1) := by decide +kernel
theorem dX12_roundOf_4 : decode cX12_roundOf 4 = .ok (.ifCond .ge 7, 3) := by decide +kernel
theorem dX12_roundOf_7 : decode cX12_roundOf 7 = .ok (.iconst 1, 1) := by decide +kernel
theorem dX12_roundOf_8 : decode cX12_roundOf 8 = .ok (.goto 4, 3) := by decide +kernel
theorem dX12_roundOf_11 : decode cX12_roundOf 11 = .ok (.iconst 0, 1) := by decide +kernel
theorem dX12_roundOf_12 : decode cX12_roundOf 12 = .ok (.lload_n 1, 1) := by decide +kernel
theorem dX12_roundOf_13 : decode cX12_roundOf 13 = .ok (.invokestatic 98, 3) := by decide +kernel
theorem dX12_roundOf_16 : decode cX12_roundOf 16 = .ok (.lconst 1, 1) := by decide +kernel
theorem dX12_roundOf_17 : decode cX12_roundOf 17 = .ok (.bipush (-9), 2) := by decide +kernel
theorem dX12_roundOf_19 : decode cX12_roundOf 19 = .ok (.iload_n 3, 1) := by decide +kernel
theorem dX12_roundOf_20 : decode cX12_roundOf 20 = .ok (.iload 4, 2) := by decide +kernel
theorem dX12_roundOf_22 : decode cX12_roundOf 22 = .ok (.invokevirtual 102, 3) := by decide +kernel
theorem dX12_roundOf_25 : decode cX12_roundOf 25 = .ok (.lreturn, 1) := by decide +kernel
set_option maxRecDepth 10000 in
theorem TX12_roundOf_0 {d : Nat} {S : fW} {h : fH} {Q : Int64 → fH → Prop} {r0 : Nat} {x1 : Int64} {x3 : Int32} {x4 : Int32} {r0_pad r0_text r0_number r0_span r0_now r0_sizeOf r0_workedTo r0_slip r0_exactUpper r0_exactLower r0_more r0_terms r0_order r0_bestOrder r0_low r0_high r0_built r0_better r0_base r0_kept r0_isKept : Nat} {Q1 : Int64 → fH → Prop} {Q2 : Int64 → fH → Int64 → fH → Prop} {Q3 : Int64 → fH → Prop} {Q4 : Int64 → fH → Int64 → fH → Prop} 
    (ok1 : (0 : Int64) ≤ x1 → OkL d mX12_size S [.long x1] h Q1)
    (hs1 : (r0, shX12 r0_pad r0_text r0_number r0_span r0_now r0_sizeOf r0_workedTo r0_slip r0_exactUpper r0_exactLower r0_more r0_terms r0_order r0_bestOrder r0_low r0_high r0_built r0_better r0_base r0_kept r0_isKept) ∈ S)
    (ok2 : (0 : Int64) ≤ x1 → ∀ v_1 h_1, Q1 v_1 h_1 → OkL d mX12_rounded S [.ref r0, .int (0 : Int32), .long v_1, .long (1 : Int64), .int (-9 : Int32), .int x3, .int x4] h_1 (Q2 v_1 h_1))
    (k1 : (0 : Int64) ≤ x1 → ∀ v_1 h_1, Q1 v_1 h_1 → ∀ v_2 h_2, (Q2 v_1 h_1) v_2 h_2 → Q v_2 h_2)
    (ok3 : ¬ (0 : Int64) ≤ x1 → OkL d mX12_size S [.long x1] h Q3)
    (ok4 : ¬ (0 : Int64) ≤ x1 → ∀ v_3 h_3, Q3 v_3 h_3 → OkL d mX12_rounded S [.ref r0, .int (1 : Int32), .long v_3, .long (1 : Int64), .int (-9 : Int32), .int x3, .int x4] h_3 (Q4 v_3 h_3))
    (k2 : ¬ (0 : Int64) ≤ x1 → ∀ v_3 h_3, Q3 v_3 h_3 → ∀ v_4 h_4, (Q4 v_3 h_3) v_4 h_4 → Q v_4 h_4) :
    OkL (d + 1) mX12_roundOf S [.ref r0, .long x1, .int x3, .int x4] h Q := by
  refine Ok.of (by decide) (Nat.le_of_ble_eq_true rfl) ?_
  refine G_aload_n 0 rfl dX12_roundOf_0 rfl ?_
  refine G_lload_n 1 rfl dX12_roundOf_1 rfl ?_
  refine G_lconst (v := 0) dX12_roundOf_2 (by decide) ?_
  refine G_lif_ge (tgt := 11) dX12_roundOf_3 dX12_roundOf_4 (by decide) (fun c1 => ?_) (fun c1 => ?_)
  · refine G_iconst (v := 0) dX12_roundOf_11 (by decide) ?_
    refine G_lload_n 1 rfl dX12_roundOf_12 rfl ?_
    refine G_callS (Z := mX12_size) (As := [.long x1]) (st := [.int (0 : Int32), .ref r0]) hL_X12_98 hT_X12_size hC_X12_size hN_X12 nX12_size (by decide) rfl (Nat.le_of_ble_eq_true rfl) dX12_roundOf_13 (ok1 c1) (fun r_ h_1 z_ => ?_)
    obtain ⟨v_1, rfl, q_1⟩ := z_
    refine G_lconst (v := 1) dX12_roundOf_16 (by decide) ?_
    refine G_bipush (v := -9) dX12_roundOf_17 (by decide) ?_
    refine G_iload_n 2 rfl dX12_roundOf_19 rfl ?_
    refine G_iload 3 rfl dX12_roundOf_20 ?_
    refine G_callV (Z := mX12_rounded) (As := [.int (0 : Int32), .long v_1, .long (1 : Int64), .int (-9 : Int32), .int x3, .int x4]) (st := []) hL_X12_102 hI_X12_rounded hS_X12_rounded hC_X12_rounded hN_X12 nX12_rounded (by decide) hs1 rfl rfl rfl (Nat.le_of_ble_eq_true rfl) dX12_roundOf_22 (ok2 c1 v_1 h_1 q_1) (fun r_ h_2 z_ => ?_)
    obtain ⟨v_2, rfl, q_2⟩ := z_
    exact G_lret rfl dX12_roundOf_25 ⟨_, rfl, (k1 c1 v_1 h_1 q_1 v_2 h_2 q_2)⟩
  · refine G_iconst (v := 1) dX12_roundOf_7 (by decide) ?_
    refine G_goto (tgt := 12) dX12_roundOf_8 (by decide) ?_
    refine G_lload_n 1 rfl dX12_roundOf_12 rfl ?_
    refine G_callS (Z := mX12_size) (As := [.long x1]) (st := [.int (1 : Int32), .ref r0]) hL_X12_98 hT_X12_size hC_X12_size hN_X12 nX12_size (by decide) rfl (Nat.le_of_ble_eq_true rfl) dX12_roundOf_13 (ok3 c1) (fun r_ h_3 z_ => ?_)
    obtain ⟨v_3, rfl, q_3⟩ := z_
    refine G_lconst (v := 1) dX12_roundOf_16 (by decide) ?_
    refine G_bipush (v := -9) dX12_roundOf_17 (by decide) ?_
    refine G_iload_n 2 rfl dX12_roundOf_19 rfl ?_
    refine G_iload 3 rfl dX12_roundOf_20 ?_
    refine G_callV (Z := mX12_rounded) (As := [.int (1 : Int32), .long v_3, .long (1 : Int64), .int (-9 : Int32), .int x3, .int x4]) (st := []) hL_X12_102 hI_X12_rounded hS_X12_rounded hC_X12_rounded hN_X12 nX12_rounded (by decide) hs1 rfl rfl rfl (Nat.le_of_ble_eq_true rfl) dX12_roundOf_22 (ok4 c1 v_3 h_3 q_3) (fun r_ h_4 z_ => ?_)
    obtain ⟨v_4, rfl, q_4⟩ := z_
    exact G_lret rfl dX12_roundOf_25 ⟨_, rfl, (k2 c1 v_3 h_3 q_3 v_4 h_4 q_4)⟩
-- LostDigitsModel.shorten
theorem dX12_shorten_0 : decode cX12_shorten 0 = .ok (.aload_n 0, 1) := by decide +kernel
theorem dX12_shorten_1 : decode cX12_shorten 1 = .ok (.lload_n 1, 1) := by decide +kernel
theorem dX12_shorten_2 : decode cX12_shorten 2 = .ok (.invokestatic 98, 3) := by decide +kernel
theorem dX12_shorten_5 : decode cX12_shorten 5 = .ok (.putfield 106, 3) := by decide +kernel
theorem dX12_shorten_8 : decode cX12_shorten 8 = .ok (.aload_n 0, 1) := by decide +kernel
theorem dX12_shorten_9 : decode cX12_shorten 9 = .ok (.iconst 0, 1) := by decide +kernel
theorem dX12_shorten_10 : decode cX12_shorten 10 = .ok (.putfield 110, 3) := by decide +kernel
theorem dX12_shorten_13 : decode cX12_shorten 13 = .ok (.aload_n 0, 1) := by decide +kernel
theorem dX12_shorten_14 : decode cX12_shorten 14 = .ok (.getfield 106, 3) := by decide +kernel
theorem dX12_shorten_17 : decode cX12_shorten 17 = .ok (.lconst 0, 1) := by decide +kernel
theorem dX12_shorten_18 : decode cX12_shorten 18 = .ok (.lcmp, 1) := by decide +kernel
theorem dX12_shorten_19 : decode cX12_shorten 19 = .ok (.ifCond .le 41, 3) := by decide +kernel
theorem dX12_shorten_22 : decode cX12_shorten 22 = .ok (.aload_n 0, 1) := by decide +kernel
theorem dX12_shorten_23 : decode cX12_shorten 23 = .ok (.getfield 106, 3) := by decide +kernel
theorem dX12_shorten_26 : decode cX12_shorten 26 = .ok (.ldc2_w 86, 3) := by decide +kernel
theorem dX12_shorten_29 : decode cX12_shorten 29 = .ok (.lrem, 1) := by decide +kernel
theorem dX12_shorten_30 : decode cX12_shorten 30 = .ok (.lconst 0, 1) := by decide +kernel
theorem dX12_shorten_31 : decode cX12_shorten 31 = .ok (.lcmp, 1) := by decide +kernel
theorem dX12_shorten_32 : decode cX12_shorten 32 = .ok (.ifCond .ne 28, 3) := by decide +kernel
theorem dX12_shorten_35 : decode cX12_shorten 35 = .ok (.aload_n 0, 1) := by decide +kernel
theorem dX12_shorten_36 : decode cX12_shorten 36 = .ok (.dup, 1) := by decide +kernel
theorem dX12_shorten_37 : decode cX12_shorten 37 = .ok (.getfield 106, 3) := by decide +kernel
theorem dX12_shorten_40 : decode cX12_shorten 40 = .ok (.ldc2_w 86, 3) := by decide +kernel
theorem dX12_shorten_43 : decode cX12_shorten 43 = .ok (.ldiv, 1) := by decide +kernel
theorem dX12_shorten_44 : decode cX12_shorten 44 = .ok (.putfield 106, 3) := by decide +kernel
theorem dX12_shorten_47 : decode cX12_shorten 47 = .ok (.aload_n 0, 1) := by decide +kernel
theorem dX12_shorten_48 : decode cX12_shorten 48 = .ok (.dup, 1) := by decide +kernel
theorem dX12_shorten_49 : decode cX12_shorten 49 = .ok (.getfield 110, 3) := by decide +kernel
theorem dX12_shorten_52 : decode cX12_shorten 52 = .ok (.iconst 1, 1) := by decide +kernel
theorem dX12_shorten_53 : decode cX12_shorten 53 = .ok (.iadd, 1) := by decide +kernel
theorem dX12_shorten_54 : decode cX12_shorten 54 = .ok (.putfield 110, 3) := by decide +kernel
theorem dX12_shorten_57 : decode cX12_shorten 57 = .ok (.goto (-44), 3) := by decide +kernel
theorem dX12_shorten_60 : decode cX12_shorten 60 = .ok (.return_, 1) := by decide +kernel
set_option maxRecDepth 10000 in
theorem TX12_shorten_0 {d : Nat} {S : fW} {h : fH} {Q : fH → Prop} {r0 : Nat} {x1 : Int64} {r0_pad r0_text r0_number r0_span r0_now r0_sizeOf r0_workedTo r0_slip r0_exactUpper r0_exactLower r0_more r0_terms r0_order r0_bestOrder r0_low r0_high r0_built r0_better r0_base r0_kept r0_isKept : Nat} {Q1 : Int64 → fH → Prop} 
    (ok1 : OkL d mX12_size S [.long x1] h Q1)
    (hs1 : (r0, shX12 r0_pad r0_text r0_number r0_span r0_now r0_sizeOf r0_workedTo r0_slip r0_exactUpper r0_exactLower r0_more r0_terms r0_order r0_bestOrder r0_low r0_high r0_built r0_better r0_base r0_kept r0_isKept) ∈ S)
    (k1 : ∀ v_1 h_1, Q1 v_1 h_1 → G mX12_shorten (d + 1) S (f_PV Q) 13 [(0, .ref r0)] [] (u_fi (u_fl h_1 r0 2 v_1) r0 3 (0 : Int32))) :
    OkV (d + 1) mX12_shorten S [.ref r0, .long x1] h Q := by
  refine Ok.of (by decide) (Nat.le_of_ble_eq_true rfl) ?_
  refine G_aload_n 0 rfl dX12_shorten_0 rfl ?_
  refine G_lload_n 1 rfl dX12_shorten_1 rfl ?_
  refine G_callS (Z := mX12_size) (As := [.long x1]) (st := [.ref r0]) hL_X12_98 hT_X12_size hC_X12_size hN_X12 nX12_size (by decide) rfl (Nat.le_of_ble_eq_true rfl) dX12_shorten_2 (ok1) (fun r_ h_1 z_ => ?_)
  obtain ⟨v_1, rfl, q_1⟩ := z_
  refine G_putl (k := 2) tyX12 hs1 (q := (RX12, TX12, 40)) rfl inX12 tyX12_ok nmX12 (by decide) rfl rfl rfl hF_X12_106 dX12_shorten_5 ?_
  refine G_aload_n 0 rfl dX12_shorten_8 rfl ?_
  refine G_iconst (v := 0) dX12_shorten_9 (by decide) ?_
  refine G_puti (k := 3) tyX12 hs1 (q := (RX12, TX12, 40)) rfl inX12 tyX12_ok nmX12 (by decide) rfl rfl rfl hF_X12_110 dX12_shorten_10 ?_
  exact G_sub [0] rfl (k1 v_1 h_1 q_1)

set_option maxRecDepth 10000 in
theorem TX12_shorten_13 {d : Nat} {S : fW} {h : fH} {Q : fH → Prop} {r0 : Nat} {r0_pad r0_text r0_number r0_span r0_now r0_sizeOf r0_workedTo r0_slip r0_exactUpper r0_exactLower r0_more r0_terms r0_order r0_bestOrder r0_low r0_high r0_built r0_better r0_base r0_kept r0_isKept : Nat}  
    (hs1 : (r0, shX12 r0_pad r0_text r0_number r0_span r0_now r0_sizeOf r0_workedTo r0_slip r0_exactUpper r0_exactLower r0_more r0_terms r0_order r0_bestOrder r0_low r0_high r0_built r0_better r0_base r0_kept r0_isKept) ∈ S)
    (k1 : (h.2.1 r0 2) ≤ (0 : Int64) → Q h)
    (k2 : ¬ (h.2.1 r0 2) ≤ (0 : Int64) → ¬ ((h.2.1 r0 2) - (h.2.1 r0 2) / (10 : Int64) * (10 : Int64)) = (0 : Int64) → Q h)
    (k3 : ¬ (h.2.1 r0 2) ≤ (0 : Int64) → ((h.2.1 r0 2) - (h.2.1 r0 2) / (10 : Int64) * (10 : Int64)) = (0 : Int64) → G mX12_shorten (d + 1) S (f_PV Q) 13 [(0, .ref r0)] [] (u_fi (u_fl h r0 2 ((h.2.1 r0 2) / (10 : Int64))) r0 3 (((u_fl h r0 2 ((h.2.1 r0 2) / (10 : Int64))).1 r0 3) + (1 : Int32)))) :
    G mX12_shorten (d + 1) S (f_PV Q) 13 [(0, .ref r0)] [] h := by
  refine G_aload_n 0 rfl dX12_shorten_13 rfl ?_
  refine G_getl (k := 2) hs1 (q := (RX12, TX12, 40)) rfl inX12 (by decide) rfl hF_X12_106 dX12_shorten_14 ?_
  refine G_lconst (v := 0) dX12_shorten_17 (by decide) ?_
  refine G_lif_le (tgt := 60) dX12_shorten_18 dX12_shorten_19 (by decide) (fun c1 => ?_) (fun c1 => ?_)
  · exact G_vret rfl dX12_shorten_60 ⟨rfl, (k1 c1)⟩
  · refine G_aload_n 0 rfl dX12_shorten_22 rfl ?_
    refine G_getl (k := 2) hs1 (q := (RX12, TX12, 40)) rfl inX12 (by decide) rfl hF_X12_106 dX12_shorten_23 ?_
    refine G_ldc2 hK_X12_86 dX12_shorten_26 ?_
    refine G_lrem dX12_shorten_29 (by decide) ?_
    refine G_lconst (v := 0) dX12_shorten_30 (by decide) ?_
    refine G_lif_ne (tgt := 60) dX12_shorten_31 dX12_shorten_32 (by decide) (fun c2 => ?_) (fun c2 => ?_)
    · exact G_vret rfl dX12_shorten_60 ⟨rfl, (k2 c1 c2)⟩
    · refine G_aload_n 0 rfl dX12_shorten_35 rfl ?_
      refine G_dup dX12_shorten_36 rfl ?_
      refine G_getl (k := 2) hs1 (q := (RX12, TX12, 40)) rfl inX12 (by decide) rfl hF_X12_106 dX12_shorten_37 ?_
      refine G_ldc2 hK_X12_86 dX12_shorten_40 ?_
      refine G_ldiv dX12_shorten_43 (by decide) ?_
      refine G_putl (k := 2) tyX12 hs1 (q := (RX12, TX12, 40)) rfl inX12 tyX12_ok nmX12 (by decide) rfl rfl rfl hF_X12_106 dX12_shorten_44 ?_
      refine G_aload_n 0 rfl dX12_shorten_47 rfl ?_
      refine G_dup dX12_shorten_48 rfl ?_
      refine G_geti (k := 3) hs1 (q := (RX12, TX12, 40)) rfl inX12 (by decide) (Or.inl rfl) hF_X12_110 dX12_shorten_49 ?_
      refine G_iconst (v := 1) dX12_shorten_52 (by decide) ?_
      refine G_iadd dX12_shorten_53 ?_
      refine G_puti (k := 3) tyX12 hs1 (q := (RX12, TX12, 40)) rfl inX12 tyX12_ok nmX12 (by decide) rfl rfl rfl hF_X12_110 dX12_shorten_54 ?_
      refine G_goto (tgt := 13) dX12_shorten_57 (by decide) ?_
      exact G_sub [0] rfl (k3 c1 c2)
-- LostDigitsModel.layBoth
theorem dX12_layBoth_0 : decode cX12_layBoth 0 = .ok (.aload_n 0, 1) := by decide +kernel
theorem dX12_layBoth_1 : decode cX12_layBoth 1 = .ok (.lload_n 2, 1) := by decide +kernel
theorem dX12_layBoth_2 : decode cX12_layBoth 2 = .ok (.invokevirtual 113, 3) := by decide +kernel
theorem dX12_layBoth_5 : decode cX12_layBoth 5 = .ok (.aload_n 0, 1) := by decide +kernel
theorem dX12_layBoth_6 : decode cX12_layBoth 6 = .ok (.getfield 106, 3) := by decide +kernel
theorem dX12_layBoth_9 : decode cX12_layBoth 9 = .ok (.lstore 6, 2) := by decide +kernel
theorem dX12_layBoth_11 : decode cX12_layBoth 11 = .ok (.aload_n 0, 1) := by decide +kernel
theorem dX12_layBoth_12 : decode cX12_layBoth 12 = .ok (.getfield 110, 3) := by decide +kernel
theorem dX12_layBoth_15 : decode cX12_layBoth 15 = .ok (.istore 8, 2) := by decide +kernel
theorem dX12_layBoth_17 : decode cX12_layBoth 17 = .ok (.aload_n 0, 1) := by decide +kernel
theorem dX12_layBoth_18 : decode cX12_layBoth 18 = .ok (.lload 4, 2) := by decide +kernel
theorem dX12_layBoth_20 : decode cX12_layBoth 20 = .ok (.invokevirtual 113, 3) := by decide +kernel
theorem dX12_layBoth_23 : decode cX12_layBoth 23 = .ok (.iload_n 1, 1) := by decide +kernel
theorem dX12_layBoth_24 : decode cX12_layBoth 24 = .ok (.bipush 42, 2) := by decide +kernel
theorem dX12_layBoth_26 : decode cX12_layBoth 26 = .ok (.if_icmp .ne 36, 3) := by decide +kernel
theorem dX12_layBoth_29 : decode cX12_layBoth 29 = .ok (.aload_n 0, 1) := by decide +kernel
theorem dX12_layBoth_30 : decode cX12_layBoth 30 = .ok (.lload 6, 2) := by decide +kernel
theorem dX12_layBoth_32 : decode cX12_layBoth 32 = .ok (.aload_n 0, 1) := by decide +kernel
theorem dX12_layBoth_33 : decode cX12_layBoth 33 = .ok (.getfield 106, 3) := by decide +kernel
theorem dX12_layBoth_36 : decode cX12_layBoth 36 = .ok (.lmul, 1) := by decide +kernel
theorem dX12_layBoth_37 : decode cX12_layBoth 37 = .ok (.putfield 117, 3) := by decide +kernel
theorem dX12_layBoth_40 : decode cX12_layBoth 40 = .ok (.aload_n 0, 1) := by decide +kernel
theorem dX12_layBoth_41 : decode cX12_layBoth 41 = .ok (.lconst 1, 1) := by decide +kernel
theorem dX12_layBoth_42 : decode cX12_layBoth 42 = .ok (.putfield 120, 3) := by decide +kernel
theorem dX12_layBoth_45 : decode cX12_layBoth 45 = .ok (.aload_n 0, 1) := by decide +kernel
theorem dX12_layBoth_46 : decode cX12_layBoth 46 = .ok (.iload 8, 2) := by decide +kernel
theorem dX12_layBoth_48 : decode cX12_layBoth 48 = .ok (.aload_n 0, 1) := by decide +kernel
theorem dX12_layBoth_49 : decode cX12_layBoth 49 = .ok (.getfield 110, 3) := by decide +kernel
theorem dX12_layBoth_52 : decode cX12_layBoth 52 = .ok (.iadd, 1) := by decide +kernel
theorem dX12_layBoth_53 : decode cX12_layBoth 53 = .ok (.bipush 18, 2) := by decide +kernel
theorem dX12_layBoth_55 : decode cX12_layBoth 55 = .ok (.isub, 1) := by decide +kernel
theorem dX12_layBoth_56 : decode cX12_layBoth 56 = .ok (.putfield 123, 3) := by decide +kernel
theorem dX12_layBoth_59 : decode cX12_layBoth 59 = .ok (.goto 28, 3) := by decide +kernel
theorem dX12_layBoth_62 : decode cX12_layBoth 62 = .ok (.aload_n 0, 1) := by decide +kernel
theorem dX12_layBoth_63 : decode cX12_layBoth 63 = .ok (.lload 6, 2) := by decide +kernel
theorem dX12_layBoth_65 : decode cX12_layBoth 65 = .ok (.putfield 117, 3) := by decide +kernel
theorem dX12_layBoth_68 : decode cX12_layBoth 68 = .ok (.aload_n 0, 1) := by decide +kernel
theorem dX12_layBoth_69 : decode cX12_layBoth 69 = .ok (.aload_n 0, 1) := by decide +kernel
theorem dX12_layBoth_70 : decode cX12_layBoth 70 = .ok (.getfield 106, 3) := by decide +kernel
theorem dX12_layBoth_73 : decode cX12_layBoth 73 = .ok (.putfield 120, 3) := by decide +kernel
theorem dX12_layBoth_76 : decode cX12_layBoth 76 = .ok (.aload_n 0, 1) := by decide +kernel
theorem dX12_layBoth_77 : decode cX12_layBoth 77 = .ok (.iload 8, 2) := by decide +kernel
theorem dX12_layBoth_79 : decode cX12_layBoth 79 = .ok (.aload_n 0, 1) := by decide +kernel
theorem dX12_layBoth_80 : decode cX12_layBoth 80 = .ok (.getfield 110, 3) := by decide +kernel
theorem dX12_layBoth_83 : decode cX12_layBoth 83 = .ok (.isub, 1) := by decide +kernel
theorem dX12_layBoth_84 : decode cX12_layBoth 84 = .ok (.putfield 123, 3) := by decide +kernel
theorem dX12_layBoth_87 : decode cX12_layBoth 87 = .ok (.return_, 1) := by decide +kernel
set_option maxRecDepth 10000 in
theorem TX12_layBoth_0 {d : Nat} {S : fW} {h : fH} {Q : fH → Prop} {r0 : Nat} {x1 : Int32} {x2 : Int64} {x4 : Int64} {r0_pad r0_text r0_number r0_span r0_now r0_sizeOf r0_workedTo r0_slip r0_exactUpper r0_exactLower r0_more r0_terms r0_order r0_bestOrder r0_low r0_high r0_built r0_better r0_base r0_kept r0_isKept : Nat} {Q1 : fH → Prop} {Q2 : fH → fH → Prop} 
    (hs1 : (r0, shX12 r0_pad r0_text r0_number r0_span r0_now r0_sizeOf r0_workedTo r0_slip r0_exactUpper r0_exactLower r0_more r0_terms r0_order r0_bestOrder r0_low r0_high r0_built r0_better r0_base r0_kept r0_isKept) ∈ S)
    (ok1 : OkV d mX12_shorten S [.ref r0, .long x2] h Q1)
    (ok2 : ∀ h_1, Q1 h_1 → OkV d mX12_shorten S [.ref r0, .long x4] h_1 (Q2 h_1))
    (k1 : ∀ h_1, Q1 h_1 → ∀ h_2, (Q2 h_1) h_2 → ¬ x1 = (42 : Int32) → Q (u_fi (u_fl (u_fl h_2 r0 4 (h_1.2.1 r0 2)) r0 5 ((u_fl h_2 r0 4 (h_1.2.1 r0 2)).2.1 r0 2)) r0 6 ((h_1.1 r0 3) - ((u_fl (u_fl h_2 r0 4 (h_1.2.1 r0 2)) r0 5 ((u_fl h_2 r0 4 (h_1.2.1 r0 2)).2.1 r0 2)).1 r0 3))))
    (k2 : ∀ h_1, Q1 h_1 → ∀ h_2, (Q2 h_1) h_2 → x1 = (42 : Int32) → Q (u_fi (u_fl (u_fl h_2 r0 4 ((h_1.2.1 r0 2) * (h_2.2.1 r0 2))) r0 5 (1 : Int64)) r0 6 (((h_1.1 r0 3) + ((u_fl (u_fl h_2 r0 4 ((h_1.2.1 r0 2) * (h_2.2.1 r0 2))) r0 5 (1 : Int64)).1 r0 3)) - (18 : Int32)))) :
    OkV (d + 1) mX12_layBoth S [.ref r0, .int x1, .long x2, .long x4] h Q := by
  refine Ok.of (by decide) (Nat.le_of_ble_eq_true rfl) ?_
  refine G_aload_n 0 rfl dX12_layBoth_0 rfl ?_
  refine G_lload_n 2 rfl dX12_layBoth_1 rfl ?_
  refine G_callV (Z := mX12_shorten) (As := [.long x2]) (st := []) hL_X12_113 hI_X12_shorten hS_X12_shorten hC_X12_shorten hN_X12 nX12_shorten (by decide) hs1 rfl rfl rfl (Nat.le_of_ble_eq_true rfl) dX12_layBoth_2 (ok1) (fun r_ h_1 z_ => ?_)
  obtain ⟨rfl, q_1⟩ := z_
  refine G_aload_n 0 rfl dX12_layBoth_5 rfl ?_
  refine G_getl (k := 2) hs1 (q := (RX12, TX12, 40)) rfl inX12 (by decide) rfl hF_X12_106 dX12_layBoth_6 ?_
  refine G_lstore dX12_layBoth_9 (by decide) (lv' := [(6, .long (h_1.2.1 r0 2)), (0, .ref r0), (1, .int x1), (2, .long x2), (4, .long x4)]) rfl ?_
  refine G_aload_n 1 rfl dX12_layBoth_11 rfl ?_
  refine G_geti (k := 3) hs1 (q := (RX12, TX12, 40)) rfl inX12 (by decide) (Or.inl rfl) hF_X12_110 dX12_layBoth_12 ?_
  refine G_istore dX12_layBoth_15 (by decide) (lv' := [(8, .int (h_1.1 r0 3)), (6, .long (h_1.2.1 r0 2)), (0, .ref r0), (1, .int x1), (2, .long x2), (4, .long x4)]) rfl ?_
  refine G_aload_n 2 rfl dX12_layBoth_17 rfl ?_
  refine G_lload 5 rfl dX12_layBoth_18 ?_
  refine G_callV (Z := mX12_shorten) (As := [.long x4]) (st := []) hL_X12_113 hI_X12_shorten hS_X12_shorten hC_X12_shorten hN_X12 nX12_shorten (by decide) hs1 rfl rfl rfl (Nat.le_of_ble_eq_true rfl) dX12_layBoth_20 (ok2 h_1 q_1) (fun r_ h_2 z_ => ?_)
  obtain ⟨rfl, q_2⟩ := z_
  refine G_iload_n 3 rfl dX12_layBoth_23 rfl ?_
  refine G_bipush (v := 42) dX12_layBoth_24 (by decide) ?_
  refine G_icmp_ne (tgt := 62) dX12_layBoth_26 (by decide) (fun c3 => ?_) (fun c3 => ?_)
  · refine G_aload_n 2 rfl dX12_layBoth_62 rfl ?_
    refine G_lload 1 rfl dX12_layBoth_63 ?_
    refine G_putl (k := 4) tyX12 hs1 (q := (RX12, TX12, 40)) rfl inX12 tyX12_ok nmX12 (by decide) rfl rfl rfl hF_X12_117 dX12_layBoth_65 ?_
    refine G_aload_n 2 rfl dX12_layBoth_68 rfl ?_
    refine G_aload_n 2 rfl dX12_layBoth_69 rfl ?_
    refine G_getl (k := 2) hs1 (q := (RX12, TX12, 40)) rfl inX12 (by decide) rfl hF_X12_106 dX12_layBoth_70 ?_
    refine G_putl (k := 5) tyX12 hs1 (q := (RX12, TX12, 40)) rfl inX12 tyX12_ok nmX12 (by decide) rfl rfl rfl hF_X12_120 dX12_layBoth_73 ?_
    refine G_aload_n 2 rfl dX12_layBoth_76 rfl ?_
    refine G_iload 0 rfl dX12_layBoth_77 ?_
    refine G_aload_n 2 rfl dX12_layBoth_79 rfl ?_
    refine G_geti (k := 3) hs1 (q := (RX12, TX12, 40)) rfl inX12 (by decide) (Or.inl rfl) hF_X12_110 dX12_layBoth_80 ?_
    refine G_isub dX12_layBoth_83 ?_
    refine G_puti (k := 6) tyX12 hs1 (q := (RX12, TX12, 40)) rfl inX12 tyX12_ok nmX12 (by decide) rfl rfl rfl hF_X12_123 dX12_layBoth_84 ?_
    exact G_vret rfl dX12_layBoth_87 ⟨rfl, (k1 h_1 q_1 h_2 q_2 c3)⟩
  · refine G_aload_n 2 rfl dX12_layBoth_29 rfl ?_
    refine G_lload 1 rfl dX12_layBoth_30 ?_
    refine G_aload_n 2 rfl dX12_layBoth_32 rfl ?_
    refine G_getl (k := 2) hs1 (q := (RX12, TX12, 40)) rfl inX12 (by decide) rfl hF_X12_106 dX12_layBoth_33 ?_
    refine G_lmul dX12_layBoth_36 ?_
    refine G_putl (k := 4) tyX12 hs1 (q := (RX12, TX12, 40)) rfl inX12 tyX12_ok nmX12 (by decide) rfl rfl rfl hF_X12_117 dX12_layBoth_37 ?_
    refine G_aload_n 2 rfl dX12_layBoth_40 rfl ?_
    refine G_lconst (v := 1) dX12_layBoth_41 (by decide) ?_
    refine G_putl (k := 5) tyX12 hs1 (q := (RX12, TX12, 40)) rfl inX12 tyX12_ok nmX12 (by decide) rfl rfl rfl hF_X12_120 dX12_layBoth_42 ?_
    refine G_aload_n 2 rfl dX12_layBoth_45 rfl ?_
    refine G_iload 0 rfl dX12_layBoth_46 ?_
    refine G_aload_n 2 rfl dX12_layBoth_48 rfl ?_
    refine G_geti (k := 3) hs1 (q := (RX12, TX12, 40)) rfl inX12 (by decide) (Or.inl rfl) hF_X12_110 dX12_layBoth_49 ?_
    refine G_iadd dX12_layBoth_52 ?_
    refine G_bipush (v := 18) dX12_layBoth_53 (by decide) ?_
    refine G_isub dX12_layBoth_55 ?_
    refine G_puti (k := 6) tyX12 hs1 (q := (RX12, TX12, 40)) rfl inX12 tyX12_ok nmX12 (by decide) rfl rfl rfl hF_X12_123 dX12_layBoth_56 ?_
    refine G_goto (tgt := 87) dX12_layBoth_59 (by decide) ?_
    exact G_vret rfl dX12_layBoth_87 ⟨rfl, (k2 h_1 q_1 h_2 q_2 c3)⟩
-- LostDigitsModel.made
theorem dX12_made_0 : decode cX12_made 0 = .ok (.lload_n 2, 1) := by decide +kernel
theorem dX12_made_1 : decode cX12_made 1 = .ok (.ldc2_w 94, 3) := by decide +kernel
theorem dX12_made_4 : decode cX12_made 4 = .ok (.lcmp, 1) := by decide +kernel
theorem dX12_made_5 : decode cX12_made 5 = .ok (.ifCond .eq 12, 3) := by decide +kernel
theorem dX12_made_8 : decode cX12_made 8 = .ok (.lload 4, 2) := by decide +kernel
theorem dX12_made_10 : decode cX12_made 10 = .ok (.ldc2_w 94, 3) := by decide +kernel
theorem dX12_made_13 : decode cX12_made 13 = .ok (.lcmp, 1) := by decide +kernel
theorem dX12_made_14 : decode cX12_made 14 = .ok (.ifCond .ne 7, 3) := by decide +kernel
theorem dX12_made_17 : decode cX12_made 17 = .ok (.ldc2_w 94, 3) := by decide +kernel
theorem dX12_made_20 : decode cX12_made 20 = .ok (.lreturn, 1) := by decide +kernel
theorem dX12_made_21 : decode cX12_made 21 = .ok (.iload_n 1, 1) := by decide +kernel
theorem dX12_made_22 : decode cX12_made 22 = .ok (.bipush 43, 2) := by decide +kernel
theorem dX12_made_24 : decode cX12_made 24 = .ok (.if_icmp .eq 9, 3) := by decide +kernel
theorem dX12_made_27 : decode cX12_made 27 = .ok (.iload_n 1, 1) := by decide +kernel
theorem dX12_made_28 : decode cX12_made 28 = .ok (.bipush 45, 2) := by decide +kernel
theorem dX12_made_30 : decode cX12_made 30 = .ok (.if_icmp .ne 29, 3) := by decide +kernel
theorem dX12_made_33 : decode cX12_made 33 = .ok (.aload_n 0, 1) := by decide +kernel
theorem dX12_made_34 : decode cX12_made 34 = .ok (.iload_n 1, 1) := by decide +kernel
theorem dX12_made_35 : decode cX12_made 35 = .ok (.bipush 43, 2) := by decide +kernel
theorem dX12_made_37 : decode cX12_made 37 = .ok (.if_icmp .ne 10, 3) := by decide +kernel
theorem dX12_made_40 : decode cX12_made 40 = .ok (.lload_n 2, 1) := by decide +kernel
theorem dX12_made_41 : decode cX12_made 41 = .ok (.lload 4, 2) := by decide +kernel
theorem dX12_made_43 : decode cX12_made 43 = .ok (.ladd, 1) := by decide +kernel
theorem dX12_made_44 : decode cX12_made 44 = .ok (.goto 7, 3) := by decide +kernel
theorem dX12_made_47 : decode cX12_made 47 = .ok (.lload_n 2, 1) := by decide +kernel
theorem dX12_made_48 : decode cX12_made 48 = .ok (.lload 4, 2) := by decide +kernel
theorem dX12_made_50 : decode cX12_made 50 = .ok (.lsub, 1) := by decide +kernel
theorem dX12_made_51 : decode cX12_made 51 = .ok (.iload 6, 2) := by decide +kernel
theorem dX12_made_53 : decode cX12_made 53 = .ok (.iload 7, 2) := by decide +kernel
theorem dX12_made_55 : decode cX12_made 55 = .ok (.invokevirtual 126, 3) := by decide +kernel
theorem dX12_made_58 : decode cX12_made 58 = .ok (.lreturn, 1) := by decide +kernel
theorem dX12_made_59 : decode cX12_made 59 = .ok (.iload_n 1, 1) := by decide +kernel
theorem dX12_made_60 : decode cX12_made 60 = .ok (.bipush 47, 2) := by decide +kernel
theorem dX12_made_62 : decode cX12_made 62 = .ok (.if_icmp .ne 14, 3) := by decide +kernel
theorem dX12_made_65 : decode cX12_made 65 = .ok (.lload 4, 2) := by decide +kernel
theorem dX12_made_67 : decode cX12_made 67 = .ok (.lconst 0, 1) := by decide +kernel
theorem dX12_made_68 : decode cX12_made 68 = .ok (.lcmp, 1) := by decide +kernel
theorem dX12_made_69 : decode cX12_made 69 = .ok (.ifCond .ne 7, 3) := by decide +kernel
theorem dX12_made_72 : decode cX12_made 72 = .ok (.ldc2_w 94, 3) := by decide +kernel
theorem dX12_made_75 : decode cX12_made 75 = .ok (.lreturn, 1) := by decide +kernel
theorem dX12_made_76 : decode cX12_made 76 = .ok (.lload_n 2, 1) := by decide +kernel
theorem dX12_made_77 : decode cX12_made 77 = .ok (.lconst 0, 1) := by decide +kernel
theorem dX12_made_78 : decode cX12_made 78 = .ok (.lcmp, 1) := by decide +kernel
theorem dX12_made_79 : decode cX12_made 79 = .ok (.ifCond .eq 10, 3) := by decide +kernel
theorem dX12_made_82 : decode cX12_made 82 = .ok (.lload 4, 2) := by decide +kernel
theorem dX12_made_84 : decode cX12_made 84 = .ok (.lconst 0, 1) := by decide +kernel
theorem dX12_made_85 : decode cX12_made 85 = .ok (.lcmp, 1) := by decide +kernel
theorem dX12_made_86 : decode cX12_made 86 = .ok (.ifCond .ne 5, 3) := by decide +kernel
theorem dX12_made_89 : decode cX12_made 89 = .ok (.lconst 0, 1) := by decide +kernel
theorem dX12_made_90 : decode cX12_made 90 = .ok (.lreturn, 1) := by decide +kernel
theorem dX12_made_91 : decode cX12_made 91 = .ok (.aload_n 0, 1) := by decide +kernel
theorem dX12_made_92 : decode cX12_made 92 = .ok (.iload_n 1, 1) := by decide +kernel
theorem dX12_made_93 : decode cX12_made 93 = .ok (.lload_n 2, 1) := by decide +kernel
theorem dX12_made_94 : decode cX12_made 94 = .ok (.lload 4, 2) := by decide +kernel
theorem dX12_made_96 : decode cX12_made 96 = .ok (.invokevirtual 130, 3) := by decide +kernel
theorem dX12_made_99 : decode cX12_made 99 = .ok (.aload_n 0, 1) := by decide +kernel
theorem dX12_made_100 : decode cX12_made 100 = .ok (.lload_n 2, 1) := by decide +kernel
theorem dX12_made_101 : decode cX12_made 101 = .ok (.lconst 0, 1) := by decide +kernel
theorem dX12_made_102 : decode cX12_made 102 = .ok (.lcmp, 1) := by decide +kernel
theorem dX12_made_103 : decode cX12_made 103 = .ok (.ifCond .ge 7, 3) := by decide +kernel
theorem dX12_made_106 : decode cX12_made 106 = .ok (.iconst 1, 1) := by decide +kernel
theorem dX12_made_107 : decode cX12_made 107 = .ok (.goto 4, 3) := by decide +kernel
theorem dX12_made_110 : decode cX12_made 110 = .ok (.iconst 0, 1) := by decide +kernel
theorem dX12_made_111 : decode cX12_made 111 = .ok (.lload 4, 2) := by decide +kernel
theorem dX12_made_113 : decode cX12_made 113 = .ok (.lconst 0, 1) := by decide +kernel
theorem dX12_made_114 : decode cX12_made 114 = .ok (.lcmp, 1) := by decide +kernel
theorem dX12_made_115 : decode cX12_made 115 = .ok (.ifCond .ge 7, 3) := by decide +kernel
theorem dX12_made_118 : decode cX12_made 118 = .ok (.iconst 1, 1) := by decide +kernel
theorem dX12_made_119 : decode cX12_made 119 = .ok (.goto 4, 3) := by decide +kernel
theorem dX12_made_122 : decode cX12_made 122 = .ok (.iconst 0, 1) := by decide +kernel
theorem dX12_made_123 : decode cX12_made 123 = .ok (.if_icmp .eq 7, 3) := by decide +kernel
theorem dX12_made_126 : decode cX12_made 126 = .ok (.iconst 1, 1) := by decide +kernel
theorem dX12_made_127 : decode cX12_made 127 = .ok (.goto 4, 3) := by decide +kernel
theorem dX12_made_130 : decode cX12_made 130 = .ok (.iconst 0, 1) := by decide +kernel
theorem dX12_made_131 : decode cX12_made 131 = .ok (.aload_n 0, 1) := by decide +kernel
theorem dX12_made_132 : decode cX12_made 132 = .ok (.getfield 117, 3) := by decide +kernel
theorem dX12_made_135 : decode cX12_made 135 = .ok (.aload_n 0, 1) := by decide +kernel
theorem dX12_made_136 : decode cX12_made 136 = .ok (.getfield 120, 3) := by decide +kernel
theorem dX12_made_139 : decode cX12_made 139 = .ok (.aload_n 0, 1) := by decide +kernel
theorem dX12_made_140 : decode cX12_made 140 = .ok (.getfield 123, 3) := by decide +kernel
theorem dX12_made_143 : decode cX12_made 143 = .ok (.iload 6, 2) := by decide +kernel
theorem dX12_made_145 : decode cX12_made 145 = .ok (.iload 7, 2) := by decide +kernel
theorem dX12_made_147 : decode cX12_made 147 = .ok (.invokevirtual 102, 3) := by decide +kernel
theorem dX12_made_150 : decode cX12_made 150 = .ok (.lreturn, 1) := by decide +kernel
set_option maxRecDepth 10000 in
theorem TX12_made_0 {d : Nat} {S : fW} {h : fH} {Q : Int64 → fH → Prop} {r0 : Nat} {x1 : Int32} {x2 : Int64} {x4 : Int64} {x6 : Int32} {x7 : Int32} {r0_pad r0_text r0_number r0_span r0_now r0_sizeOf r0_workedTo r0_slip r0_exactUpper r0_exactLower r0_more r0_terms r0_order r0_bestOrder r0_low r0_high r0_built r0_better r0_base r0_kept r0_isKept : Nat} {Q1 : Int64 → fH → Prop} {Q2 : Int64 → fH → Prop} 
    (k1 : x2 = (1000000000000000000 : Int64) → Q (1000000000000000000 : Int64) h)
    (hs1 : (r0, shX12 r0_pad r0_text r0_number r0_span r0_now r0_sizeOf r0_workedTo r0_slip r0_exactUpper r0_exactLower r0_more r0_terms r0_order r0_bestOrder r0_low r0_high r0_built r0_better r0_base r0_kept r0_isKept) ∈ S)
    (ok1 : ¬ x2 = (1000000000000000000 : Int64) → ¬ x4 = (1000000000000000000 : Int64) → x1 = (43 : Int32) → OkL d mX12_roundOf S [.ref r0, .long (x2 + x4), .int x6, .int x7] h Q1)
    (k2 : ¬ x2 = (1000000000000000000 : Int64) → ¬ x4 = (1000000000000000000 : Int64) → x1 = (43 : Int32) → ∀ v_1 h_1, Q1 v_1 h_1 → Q v_1 h_1)
    (k3 : ¬ x2 = (1000000000000000000 : Int64) → ¬ x4 = (1000000000000000000 : Int64) → ¬ x1 = (43 : Int32) → ¬ x1 = (45 : Int32) → ¬ x1 = (47 : Int32) → G mX12_made (d + 1) S (f_PL Q) 76 [(0, .ref r0), (1, .int x1), (2, .long x2), (4, .long x4), (6, .int x6), (7, .int x7)] [] h)
    (k4 : ¬ x2 = (1000000000000000000 : Int64) → ¬ x4 = (1000000000000000000 : Int64) → ¬ x1 = (43 : Int32) → ¬ x1 = (45 : Int32) → x1 = (47 : Int32) → ¬ x4 = (0 : Int64) → G mX12_made (d + 1) S (f_PL Q) 76 [(0, .ref r0), (1, .int x1), (2, .long x2), (4, .long x4), (6, .int x6), (7, .int x7)] [] h)
    (k5 : ¬ x2 = (1000000000000000000 : Int64) → ¬ x4 = (1000000000000000000 : Int64) → ¬ x1 = (43 : Int32) → ¬ x1 = (45 : Int32) → x1 = (47 : Int32) → x4 = (0 : Int64) → Q (1000000000000000000 : Int64) h)
    (ok2 : ¬ x2 = (1000000000000000000 : Int64) → ¬ x4 = (1000000000000000000 : Int64) → ¬ x1 = (43 : Int32) → x1 = (45 : Int32) → OkL d mX12_roundOf S [.ref r0, .long (x2 - x4), .int x6, .int x7] h Q2)
    (k6 : ¬ x2 = (1000000000000000000 : Int64) → ¬ x4 = (1000000000000000000 : Int64) → ¬ x1 = (43 : Int32) → x1 = (45 : Int32) → ∀ v_2 h_2, Q2 v_2 h_2 → Q v_2 h_2)
    (k7 : ¬ x2 = (1000000000000000000 : Int64) → x4 = (1000000000000000000 : Int64) → Q (1000000000000000000 : Int64) h) :
    OkL (d + 1) mX12_made S [.ref r0, .int x1, .long x2, .long x4, .int x6, .int x7] h Q := by
  refine Ok.of (by decide) (Nat.le_of_ble_eq_true rfl) ?_
  refine G_lload_n 2 rfl dX12_made_0 rfl ?_
  refine G_ldc2 hK_X12_94 dX12_made_1 ?_
  refine G_lif_eq (tgt := 17) dX12_made_4 dX12_made_5 (by decide) (fun c1 => ?_) (fun c1 => ?_)
  · refine G_ldc2 hK_X12_94 dX12_made_17 ?_
    exact G_lret rfl dX12_made_20 ⟨_, rfl, (k1 c1)⟩
  · refine G_lload 3 rfl dX12_made_8 ?_
    refine G_ldc2 hK_X12_94 dX12_made_10 ?_
    refine G_lif_ne (tgt := 21) dX12_made_13 dX12_made_14 (by decide) (fun c2 => ?_) (fun c2 => ?_)
    · refine G_iload_n 1 rfl dX12_made_21 rfl ?_
      refine G_bipush (v := 43) dX12_made_22 (by decide) ?_
      refine G_icmp_eq (tgt := 33) dX12_made_24 (by decide) (fun c3 => ?_) (fun c3 => ?_)
      · refine G_aload_n 0 rfl dX12_made_33 rfl ?_
        refine G_iload_n 1 rfl dX12_made_34 rfl ?_
        refine G_bipush (v := 43) dX12_made_35 (by decide) ?_
        refine G_icmp_ne (tgt := 47) dX12_made_37 (by decide) (fun c4 => absurd c3 c4) (fun c4 => ?_)
        refine G_lload_n 2 rfl dX12_made_40 rfl ?_
        refine G_lload 3 rfl dX12_made_41 ?_
        refine G_ladd dX12_made_43 ?_
        refine G_goto (tgt := 51) dX12_made_44 (by decide) ?_
        refine G_iload 4 rfl dX12_made_51 ?_
        refine G_iload 5 rfl dX12_made_53 ?_
        refine G_callV (Z := mX12_roundOf) (As := [.long (x2 + x4), .int x6, .int x7]) (st := []) hL_X12_126 hI_X12_roundOf hS_X12_roundOf hC_X12_roundOf hN_X12 nX12_roundOf (by decide) hs1 rfl rfl rfl (Nat.le_of_ble_eq_true rfl) dX12_made_55 (ok1 c1 c2 c3) (fun r_ h_1 z_ => ?_)
        obtain ⟨v_1, rfl, q_1⟩ := z_
        exact G_lret rfl dX12_made_58 ⟨_, rfl, (k2 c1 c2 c3 v_1 h_1 q_1)⟩
      · refine G_iload_n 1 rfl dX12_made_27 rfl ?_
        refine G_bipush (v := 45) dX12_made_28 (by decide) ?_
        refine G_icmp_ne (tgt := 59) dX12_made_30 (by decide) (fun c4 => ?_) (fun c4 => ?_)
        · refine G_iload_n 1 rfl dX12_made_59 rfl ?_
          refine G_bipush (v := 47) dX12_made_60 (by decide) ?_
          refine G_icmp_ne (tgt := 76) dX12_made_62 (by decide) (fun c5 => ?_) (fun c5 => ?_)
          · exact G_sub [0, 1, 2, 3, 4, 5] rfl (k3 c1 c2 c3 c4 c5)
          · refine G_lload 3 rfl dX12_made_65 ?_
            refine G_lconst (v := 0) dX12_made_67 (by decide) ?_
            refine G_lif_ne (tgt := 76) dX12_made_68 dX12_made_69 (by decide) (fun c6 => ?_) (fun c6 => ?_)
            · exact G_sub [0, 1, 2, 3, 4, 5] rfl (k4 c1 c2 c3 c4 c5 c6)
            · refine G_ldc2 hK_X12_94 dX12_made_72 ?_
              exact G_lret rfl dX12_made_75 ⟨_, rfl, (k5 c1 c2 c3 c4 c5 c6)⟩
        · refine G_aload_n 0 rfl dX12_made_33 rfl ?_
          refine G_iload_n 1 rfl dX12_made_34 rfl ?_
          refine G_bipush (v := 43) dX12_made_35 (by decide) ?_
          refine G_icmp_ne (tgt := 47) dX12_made_37 (by decide) (fun c5 => ?_) (fun c5 => absurd c5 c3)
          refine G_lload_n 2 rfl dX12_made_47 rfl ?_
          refine G_lload 3 rfl dX12_made_48 ?_
          refine G_lsub dX12_made_50 ?_
          refine G_iload 4 rfl dX12_made_51 ?_
          refine G_iload 5 rfl dX12_made_53 ?_
          refine G_callV (Z := mX12_roundOf) (As := [.long (x2 - x4), .int x6, .int x7]) (st := []) hL_X12_126 hI_X12_roundOf hS_X12_roundOf hC_X12_roundOf hN_X12 nX12_roundOf (by decide) hs1 rfl rfl rfl (Nat.le_of_ble_eq_true rfl) dX12_made_55 (ok2 c1 c2 c3 c4) (fun r_ h_2 z_ => ?_)
          obtain ⟨v_2, rfl, q_2⟩ := z_
          exact G_lret rfl dX12_made_58 ⟨_, rfl, (k6 c1 c2 c3 c4 v_2 h_2 q_2)⟩
    · refine G_ldc2 hK_X12_94 dX12_made_17 ?_
      exact G_lret rfl dX12_made_20 ⟨_, rfl, (k7 c1 c2)⟩

set_option maxRecDepth 10000 in
theorem TX12_made_76 {d : Nat} {S : fW} {h : fH} {Q : Int64 → fH → Prop} {r0 : Nat} {x1 : Int32} {x2 : Int64} {x4 : Int64} {x6 : Int32} {x7 : Int32} {r0_pad r0_text r0_number r0_span r0_now r0_sizeOf r0_workedTo r0_slip r0_exactUpper r0_exactLower r0_more r0_terms r0_order r0_bestOrder r0_low r0_high r0_built r0_better r0_base r0_kept r0_isKept : Nat} {Q1 : fH → Prop} 
    (k1 : x2 = (0 : Int64) → Q (0 : Int64) h)
    (hs1 : (r0, shX12 r0_pad r0_text r0_number r0_span r0_now r0_sizeOf r0_workedTo r0_slip r0_exactUpper r0_exactLower r0_more r0_terms r0_order r0_bestOrder r0_low r0_high r0_built r0_better r0_base r0_kept r0_isKept) ∈ S)
    (ok1 : ¬ x2 = (0 : Int64) → ¬ x4 = (0 : Int64) → OkV d mX12_layBoth S [.ref r0, .int x1, .long x2, .long x4] h Q1)
    (k2 : ¬ x2 = (0 : Int64) → ¬ x4 = (0 : Int64) → ∀ h_1, Q1 h_1 → (0 : Int64) ≤ x2 → G mX12_made (d + 1) S (f_PL Q) 111 [(0, .ref r0), (4, .long x4), (6, .int x6), (7, .int x7)] [.int (0 : Int32), .ref r0] h_1)
    (k3 : ¬ x2 = (0 : Int64) → ¬ x4 = (0 : Int64) → ∀ h_1, Q1 h_1 → ¬ (0 : Int64) ≤ x2 → G mX12_made (d + 1) S (f_PL Q) 111 [(0, .ref r0), (4, .long x4), (6, .int x6), (7, .int x7)] [.int (1 : Int32), .ref r0] h_1)
    (k4 : ¬ x2 = (0 : Int64) → x4 = (0 : Int64) → Q (0 : Int64) h) :
    G mX12_made (d + 1) S (f_PL Q) 76 [(0, .ref r0), (1, .int x1), (2, .long x2), (4, .long x4), (6, .int x6), (7, .int x7)] [] h := by
  refine G_lload_n 2 rfl dX12_made_76 rfl ?_
  refine G_lconst (v := 0) dX12_made_77 (by decide) ?_
  refine G_lif_eq (tgt := 89) dX12_made_78 dX12_made_79 (by decide) (fun c1 => ?_) (fun c1 => ?_)
  · refine G_lconst (v := 0) dX12_made_89 (by decide) ?_
    exact G_lret rfl dX12_made_90 ⟨_, rfl, (k1 c1)⟩
  · refine G_lload 3 rfl dX12_made_82 ?_
    refine G_lconst (v := 0) dX12_made_84 (by decide) ?_
    refine G_lif_ne (tgt := 91) dX12_made_85 dX12_made_86 (by decide) (fun c2 => ?_) (fun c2 => ?_)
    · refine G_aload_n 0 rfl dX12_made_91 rfl ?_
      refine G_iload_n 1 rfl dX12_made_92 rfl ?_
      refine G_lload_n 2 rfl dX12_made_93 rfl ?_
      refine G_lload 3 rfl dX12_made_94 ?_
      refine G_callV (Z := mX12_layBoth) (As := [.int x1, .long x2, .long x4]) (st := []) hL_X12_130 hI_X12_layBoth hS_X12_layBoth hC_X12_layBoth hN_X12 nX12_layBoth (by decide) hs1 rfl rfl rfl (Nat.le_of_ble_eq_true rfl) dX12_made_96 (ok1 c1 c2) (fun r_ h_1 z_ => ?_)
      obtain ⟨rfl, q_1⟩ := z_
      refine G_aload_n 0 rfl dX12_made_99 rfl ?_
      refine G_lload_n 2 rfl dX12_made_100 rfl ?_
      refine G_lconst (v := 0) dX12_made_101 (by decide) ?_
      refine G_lif_ge (tgt := 110) dX12_made_102 dX12_made_103 (by decide) (fun c4 => ?_) (fun c4 => ?_)
      · refine G_iconst (v := 0) dX12_made_110 (by decide) ?_
        exact G_sub [0, 3, 4, 5] rfl (k2 c1 c2 h_1 q_1 c4)
      · refine G_iconst (v := 1) dX12_made_106 (by decide) ?_
        refine G_goto (tgt := 111) dX12_made_107 (by decide) ?_
        exact G_sub [0, 3, 4, 5] rfl (k3 c1 c2 h_1 q_1 c4)
    · refine G_lconst (v := 0) dX12_made_89 (by decide) ?_
      exact G_lret rfl dX12_made_90 ⟨_, rfl, (k4 c1 c2)⟩

set_option maxRecDepth 10000 in
theorem TX12_made_111 {d : Nat} {S : fW} {h : fH} {Q : Int64 → fH → Prop} {r0 : Nat} {x4 : Int64} {x6 : Int32} {x7 : Int32} {s0 : Nat} {s1 : Int32} {r0_pad r0_text r0_number r0_span r0_now r0_sizeOf r0_workedTo r0_slip r0_exactUpper r0_exactLower r0_more r0_terms r0_order r0_bestOrder r0_low r0_high r0_built r0_better r0_base r0_kept r0_isKept s0_pad s0_text s0_number s0_span s0_now s0_sizeOf s0_workedTo s0_slip s0_exactUpper s0_exactLower s0_more s0_terms s0_order s0_bestOrder s0_low s0_high s0_built s0_better s0_base s0_kept s0_isKept : Nat} {Q1 : Int64 → fH → Prop} {Q2 : Int64 → fH → Prop} {Q3 : Int64 → fH → Prop} {Q4 : Int64 → fH → Prop} 
    (hs1 : (r0, shX12 r0_pad r0_text r0_number r0_span r0_now r0_sizeOf r0_workedTo r0_slip r0_exactUpper r0_exactLower r0_more r0_terms r0_order r0_bestOrder r0_low r0_high r0_built r0_better r0_base r0_kept r0_isKept) ∈ S)
    (hs2 : (s0, shX12 s0_pad s0_text s0_number s0_span s0_now s0_sizeOf s0_workedTo s0_slip s0_exactUpper s0_exactLower s0_more s0_terms s0_order s0_bestOrder s0_low s0_high s0_built s0_better s0_base s0_kept s0_isKept) ∈ S)
    (ok1 : (0 : Int64) ≤ x4 → s1 = (0 : Int32) → OkL d mX12_rounded S [.ref s0, .int (0 : Int32), .long (h.2.1 r0 4), .long (h.2.1 r0 5), .int (h.1 r0 6), .int x6, .int x7] h Q1)
    (k1 : (0 : Int64) ≤ x4 → s1 = (0 : Int32) → ∀ v_1 h_1, Q1 v_1 h_1 → Q v_1 h_1)
    (ok2 : (0 : Int64) ≤ x4 → ¬ s1 = (0 : Int32) → OkL d mX12_rounded S [.ref s0, .int (1 : Int32), .long (h.2.1 r0 4), .long (h.2.1 r0 5), .int (h.1 r0 6), .int x6, .int x7] h Q2)
    (k2 : (0 : Int64) ≤ x4 → ¬ s1 = (0 : Int32) → ∀ v_2 h_2, Q2 v_2 h_2 → Q v_2 h_2)
    (ok3 : ¬ (0 : Int64) ≤ x4 → s1 = (1 : Int32) → OkL d mX12_rounded S [.ref s0, .int (0 : Int32), .long (h.2.1 r0 4), .long (h.2.1 r0 5), .int (h.1 r0 6), .int x6, .int x7] h Q3)
    (k3 : ¬ (0 : Int64) ≤ x4 → s1 = (1 : Int32) → ∀ v_3 h_3, Q3 v_3 h_3 → Q v_3 h_3)
    (ok4 : ¬ (0 : Int64) ≤ x4 → ¬ s1 = (1 : Int32) → OkL d mX12_rounded S [.ref s0, .int (1 : Int32), .long (h.2.1 r0 4), .long (h.2.1 r0 5), .int (h.1 r0 6), .int x6, .int x7] h Q4)
    (k4 : ¬ (0 : Int64) ≤ x4 → ¬ s1 = (1 : Int32) → ∀ v_4 h_4, Q4 v_4 h_4 → Q v_4 h_4) :
    G mX12_made (d + 1) S (f_PL Q) 111 [(0, .ref r0), (4, .long x4), (6, .int x6), (7, .int x7)] [.int s1, .ref s0] h := by
  refine G_lload 1 rfl dX12_made_111 ?_
  refine G_lconst (v := 0) dX12_made_113 (by decide) ?_
  refine G_lif_ge (tgt := 122) dX12_made_114 dX12_made_115 (by decide) (fun c1 => ?_) (fun c1 => ?_)
  · refine G_iconst (v := 0) dX12_made_122 (by decide) ?_
    refine G_icmp_eq (tgt := 130) dX12_made_123 (by decide) (fun c2 => ?_) (fun c2 => ?_)
    · refine G_iconst (v := 0) dX12_made_130 (by decide) ?_
      refine G_aload_n 0 rfl dX12_made_131 rfl ?_
      refine G_getl (k := 4) hs1 (q := (RX12, TX12, 40)) rfl inX12 (by decide) rfl hF_X12_117 dX12_made_132 ?_
      refine G_aload_n 0 rfl dX12_made_135 rfl ?_
      refine G_getl (k := 5) hs1 (q := (RX12, TX12, 40)) rfl inX12 (by decide) rfl hF_X12_120 dX12_made_136 ?_
      refine G_aload_n 0 rfl dX12_made_139 rfl ?_
      refine G_geti (k := 6) hs1 (q := (RX12, TX12, 40)) rfl inX12 (by decide) (Or.inl rfl) hF_X12_123 dX12_made_140 ?_
      refine G_iload 2 rfl dX12_made_143 ?_
      refine G_iload 3 rfl dX12_made_145 ?_
      refine G_callV (Z := mX12_rounded) (As := [.int (0 : Int32), .long (h.2.1 r0 4), .long (h.2.1 r0 5), .int (h.1 r0 6), .int x6, .int x7]) (st := []) hL_X12_102 hI_X12_rounded hS_X12_rounded hC_X12_rounded hN_X12 nX12_rounded (by decide) hs2 rfl rfl rfl (Nat.le_of_ble_eq_true rfl) dX12_made_147 (ok1 c1 c2) (fun r_ h_1 z_ => ?_)
      obtain ⟨v_1, rfl, q_1⟩ := z_
      exact G_lret rfl dX12_made_150 ⟨_, rfl, (k1 c1 c2 v_1 h_1 q_1)⟩
    · refine G_iconst (v := 1) dX12_made_126 (by decide) ?_
      refine G_goto (tgt := 131) dX12_made_127 (by decide) ?_
      refine G_aload_n 0 rfl dX12_made_131 rfl ?_
      refine G_getl (k := 4) hs1 (q := (RX12, TX12, 40)) rfl inX12 (by decide) rfl hF_X12_117 dX12_made_132 ?_
      refine G_aload_n 0 rfl dX12_made_135 rfl ?_
      refine G_getl (k := 5) hs1 (q := (RX12, TX12, 40)) rfl inX12 (by decide) rfl hF_X12_120 dX12_made_136 ?_
      refine G_aload_n 0 rfl dX12_made_139 rfl ?_
      refine G_geti (k := 6) hs1 (q := (RX12, TX12, 40)) rfl inX12 (by decide) (Or.inl rfl) hF_X12_123 dX12_made_140 ?_
      refine G_iload 2 rfl dX12_made_143 ?_
      refine G_iload 3 rfl dX12_made_145 ?_
      refine G_callV (Z := mX12_rounded) (As := [.int (1 : Int32), .long (h.2.1 r0 4), .long (h.2.1 r0 5), .int (h.1 r0 6), .int x6, .int x7]) (st := []) hL_X12_102 hI_X12_rounded hS_X12_rounded hC_X12_rounded hN_X12 nX12_rounded (by decide) hs2 rfl rfl rfl (Nat.le_of_ble_eq_true rfl) dX12_made_147 (ok2 c1 c2) (fun r_ h_2 z_ => ?_)
      obtain ⟨v_2, rfl, q_2⟩ := z_
      exact G_lret rfl dX12_made_150 ⟨_, rfl, (k2 c1 c2 v_2 h_2 q_2)⟩
  · refine G_iconst (v := 1) dX12_made_118 (by decide) ?_
    refine G_goto (tgt := 123) dX12_made_119 (by decide) ?_
    refine G_icmp_eq (tgt := 130) dX12_made_123 (by decide) (fun c2 => ?_) (fun c2 => ?_)
    · refine G_iconst (v := 0) dX12_made_130 (by decide) ?_
      refine G_aload_n 0 rfl dX12_made_131 rfl ?_
      refine G_getl (k := 4) hs1 (q := (RX12, TX12, 40)) rfl inX12 (by decide) rfl hF_X12_117 dX12_made_132 ?_
      refine G_aload_n 0 rfl dX12_made_135 rfl ?_
      refine G_getl (k := 5) hs1 (q := (RX12, TX12, 40)) rfl inX12 (by decide) rfl hF_X12_120 dX12_made_136 ?_
      refine G_aload_n 0 rfl dX12_made_139 rfl ?_
      refine G_geti (k := 6) hs1 (q := (RX12, TX12, 40)) rfl inX12 (by decide) (Or.inl rfl) hF_X12_123 dX12_made_140 ?_
      refine G_iload 2 rfl dX12_made_143 ?_
      refine G_iload 3 rfl dX12_made_145 ?_
      refine G_callV (Z := mX12_rounded) (As := [.int (0 : Int32), .long (h.2.1 r0 4), .long (h.2.1 r0 5), .int (h.1 r0 6), .int x6, .int x7]) (st := []) hL_X12_102 hI_X12_rounded hS_X12_rounded hC_X12_rounded hN_X12 nX12_rounded (by decide) hs2 rfl rfl rfl (Nat.le_of_ble_eq_true rfl) dX12_made_147 (ok3 c1 c2) (fun r_ h_3 z_ => ?_)
      obtain ⟨v_3, rfl, q_3⟩ := z_
      exact G_lret rfl dX12_made_150 ⟨_, rfl, (k3 c1 c2 v_3 h_3 q_3)⟩
    · refine G_iconst (v := 1) dX12_made_126 (by decide) ?_
      refine G_goto (tgt := 131) dX12_made_127 (by decide) ?_
      refine G_aload_n 0 rfl dX12_made_131 rfl ?_
      refine G_getl (k := 4) hs1 (q := (RX12, TX12, 40)) rfl inX12 (by decide) rfl hF_X12_117 dX12_made_132 ?_
      refine G_aload_n 0 rfl dX12_made_135 rfl ?_
      refine G_getl (k := 5) hs1 (q := (RX12, TX12, 40)) rfl inX12 (by decide) rfl hF_X12_120 dX12_made_136 ?_
      refine G_aload_n 0 rfl dX12_made_139 rfl ?_
      refine G_geti (k := 6) hs1 (q := (RX12, TX12, 40)) rfl inX12 (by decide) (Or.inl rfl) hF_X12_123 dX12_made_140 ?_
      refine G_iload 2 rfl dX12_made_143 ?_
      refine G_iload 3 rfl dX12_made_145 ?_
      refine G_callV (Z := mX12_rounded) (As := [.int (1 : Int32), .long (h.2.1 r0 4), .long (h.2.1 r0 5), .int (h.1 r0 6), .int x6, .int x7]) (st := []) hL_X12_102 hI_X12_rounded hS_X12_rounded hC_X12_rounded hN_X12 nX12_rounded (by decide) hs2 rfl rfl rfl (Nat.le_of_ble_eq_true rfl) dX12_made_147 (ok4 c1 c2) (fun r_ h_4 z_ => ?_)
      obtain ⟨v_4, rfl, q_4⟩ := z_
      exact G_lret rfl dX12_made_150 ⟨_, rfl, (k4 c1 c2 v_4 h_4 q_4)⟩
-- LostDigitsModel.whole
theorem dX12_whole_0 : decode cX12_whole 0 = .ok (.iload_n 1, 1) := by decide +kernel
theorem dX12_whole_1 : decode cX12_whole 1 = .ok (.bipush 43, 2) := by decide +kernel
theorem dX12_whole_3 : decode cX12_whole 3 = .ok (.if_icmp .eq 9, 3) := by decide +kernel
theorem dX12_whole_6 : decode cX12_whole 6 = .ok (.iload_n 1, 1) := by decide +kernel
theorem dX12_whole_7 : decode cX12_whole 7 = .ok (.bipush 45, 2) := by decide +kernel
theorem dX12_whole_9 : decode cX12_whole 9 = .ok (.if_icmp .ne 21, 3) := by decide +kernel
theorem dX12_whole_12 : decode cX12_whole 12 = .ok (.iload_n 1, 1) := by decide +kernel
theorem dX12_whole_13 : decode cX12_whole 13 = .ok (.bipush 43, 2) := by decide +kernel
theorem dX12_whole_15 : decode cX12_whole 15 = .ok (.if_icmp .ne 10, 3) := by decide +kernel
theorem dX12_whole_18 : decode cX12_whole 18 = .ok (.lload_n 2, 1) := by decide +kernel
theorem dX12_whole_19 : decode cX12_whole 19 = .ok (.lload 4, 2) := by decide +kernel
theorem dX12_whole_21 : decode cX12_whole 21 = .ok (.ladd, 1) := by decide +kernel
theorem dX12_whole_22 : decode cX12_whole 22 = .ok (.goto 7, 3) := by decide +kernel
theorem dX12_whole_25 : decode cX12_whole 25 = .ok (.lload_n 2, 1) := by decide +kernel
theorem dX12_whole_26 : decode cX12_whole 26 = .ok (.lload 4, 2) := by decide +kernel
theorem dX12_whole_28 : decode cX12_whole 28 = .ok (.lsub, 1) := by decide +kernel
theorem dX12_whole_29 : decode cX12_whole 29 = .ok (.lreturn, 1) := by decide +kernel
theorem dX12_whole_30 : decode cX12_whole 30 = .ok (.lload_n 2, 1) := by decide +kernel
theorem dX12_whole_31 : decode cX12_whole 31 = .ok (.lconst 0, 1) := by decide +kernel
theorem dX12_whole_32 : decode cX12_whole 32 = .ok (.lcmp, 1) := by decide +kernel
theorem dX12_whole_33 : decode cX12_whole 33 = .ok (.ifCond .eq 10, 3) := by decide +kernel
theorem dX12_whole_36 : decode cX12_whole 36 = .ok (.lload 4, 2) := by decide +kernel
theorem dX12_whole_38 : decode cX12_whole 38 = .ok (.lconst 0, 1) := by decide +kernel
theorem dX12_whole_39 : decode cX12_whole 39 = .ok (.lcmp, 1) := by decide +kernel
theorem dX12_whole_40 : decode cX12_whole 40 = .ok (.ifCond .ne 5, 3) := by decide +kernel
theorem dX12_whole_43 : decode cX12_whole 43 = .ok (.lconst 0, 1) := by decide +kernel
theorem dX12_whole_44 : decode cX12_whole 44 = .ok (.lreturn, 1) := by decide +kernel
theorem dX12_whole_45 : decode cX12_whole 45 = .ok (.aload_n 0, 1) := by decide +kernel
theorem dX12_whole_46 : decode cX12_whole 46 = .ok (.iload_n 1, 1) := by decide +kernel
theorem dX12_whole_47 : decode cX12_whole 47 = .ok (.lload_n 2, 1) := by decide +kernel
theorem dX12_whole_48 : decode cX12_whole 48 = .ok (.lload 4, 2) := by decide +kernel
theorem dX12_whole_50 : decode cX12_whole 50 = .ok (.invokevirtual 130, 3) := by decide +kernel
theorem dX12_whole_53 : decode cX12_whole 53 = .ok (.aload_n 0, 1) := by decide +kernel
theorem dX12_whole_54 : decode cX12_whole 54 = .ok (.getfield 117, 3) := by decide +kernel
theorem dX12_whole_57 : decode cX12_whole 57 = .ok (.aload_n 0, 1) := by decide +kernel
theorem dX12_whole_58 : decode cX12_whole 58 = .ok (.getfield 120, 3) := by decide +kernel
theorem dX12_whole_61 : decode cX12_whole 61 = .ok (.ldiv, 1) := by decide +kernel
theorem dX12_whole_62 : decode cX12_whole 62 = .ok (.lstore 6, 2) := by decide +kernel
theorem dX12_whole_64 : decode cX12_whole 64 = .ok (.aload_n 0, 1) := by decide +kernel
theorem dX12_whole_65 : decode cX12_whole 65 = .ok (.getfield 117, 3) := by decide +kernel
theorem dX12_whole_68 : decode cX12_whole 68 = .ok (.aload_n 0, 1) := by decide +kernel
theorem dX12_whole_69 : decode cX12_whole 69 = .ok (.getfield 120, 3) := by decide +kernel
theorem dX12_whole_72 : decode cX12_whole 72 = .ok (.lrem, 1) := by decide +kernel
theorem dX12_whole_73 : decode cX12_whole 73 = .ok (.lstore 8, 2) := by decide +kernel
theorem dX12_whole_75 : decode cX12_whole 75 = .ok (.aload_n 0, 1) := by decide +kernel
theorem dX12_whole_76 : decode cX12_whole 76 = .ok (.getfield 123, 3) := by decide +kernel
theorem dX12_whole_79 : decode cX12_whole 79 = .ok (.bipush 9, 2) := by decide +kernel
theorem dX12_whole_81 : decode cX12_whole 81 = .ok (.iadd, 1) := by decide +kernel
theorem dX12_whole_82 : decode cX12_whole 82 = .ok (.istore 10, 2) := by decide +kernel
theorem dX12_whole_84 : decode cX12_whole 84 = .ok (.iconst 0, 1) := by decide +kernel
theorem dX12_whole_85 : decode cX12_whole 85 = .ok (.istore 11, 2) := by decide +kernel
theorem dX12_whole_87 : decode cX12_whole 87 = .ok (.iload 11, 2) := by decide +kernel
theorem dX12_whole_89 : decode cX12_whole 89 = .ok (.iload 10, 2) := by decide +kernel
theorem dX12_whole_91 : decode cX12_whole 91 = .ok (.if_icmp .ge 42, 3) := by decide +kernel
theorem dX12_whole_94 : decode cX12_whole 94 = .ok (.lload 8, 2) := by decide +kernel
theorem dX12_whole_96 : decode cX12_whole 96 = .ok (.ldc2_w 86, 3) := by decide +kernel
theorem dX12_whole_99 : decode cX12_whole 99 = .ok (.lmul, 1) := by decide +kernel
theorem dX12_whole_100 : decode cX12_whole 100 = .ok (.lstore 8, 2) := by decide +kernel
theorem dX12_whole_102 : decode cX12_whole 102 = .ok (.ldc2_w 86, 3) := by decide +kernel
theorem dX12_whole_105 : decode cX12_whole 105 = .ok (.lload 6, 2) := by decide +kernel
theorem dX12_whole_107 : decode cX12_whole 107 = .ok (.lmul, 1) := by decide +kernel
theorem dX12_whole_108 : decode cX12_whole 108 = .ok (.lload 8, 2) := by decide +kernel
theorem dX12_whole_110 : decode cX12_whole 110 = .ok (.aload_n 0, 1) := by decide +kernel
theorem dX12_whole_111 : decode cX12_whole 111 = .ok (.getfield 120, 3) := by decide +kernel
theorem dX12_whole_114 : decode cX12_whole 114 = .ok (.ldiv, 1) := by decide +kernel
theorem dX12_whole_115 : decode cX12_whole 115 = .ok (.ladd, 1) := by decide +kernel
theorem dX12_whole_116 : decode cX12_whole 116 = .ok (.lstore 6, 2) := by decide +kernel
theorem dX12_whole_118 : decode cX12_whole 118 = .ok (.lload 8, 2) := by decide +kernel
theorem dX12_whole_120 : decode cX12_whole 120 = .ok (.aload_n 0, 1) := by decide +kernel
theorem dX12_whole_121 : decode cX12_whole 121 = .ok (.getfield 120, 3) := by decide +kernel
theorem dX12_whole_124 : decode cX12_whole 124 = .ok (.lrem, 1) := by decide +kernel
theorem dX12_whole_125 : decode cX12_whole 125 = .ok (.lstore 8, 2) := by decide +kernel
theorem dX12_whole_127 : decode cX12_whole 127 = .ok (.iinc 11 1, 3) := by decide +kernel
theorem dX12_whole_130 : decode cX12_whole 130 = .ok (.goto (-43), 3) := by decide +kernel
theorem dX12_whole_133 : decode cX12_whole 133 = .ok (.iload 10, 2) := by decide +kernel
theorem dX12_whole_135 : decode cX12_whole 135 = .ok (.istore 11, 2) := by decide +kernel
theorem dX12_whole_137 : decode cX12_whole 137 = .ok (.iload 11, 2) := by decide +kernel
theorem dX12_whole_139 : decode cX12_whole 139 = .ok (.ifCond .ge 17, 3) := by decide +kernel
theorem dX12_whole_142 : decode cX12_whole 142 = .ok (.lload 6, 2) := by decide +kernel
theorem dX12_whole_144 : decode cX12_whole 144 = .ok (.ldc2_w 86, 3) := by decide +kernel
theorem dX12_whole_147 : decode cX12_whole 147 = .ok (.ldiv, 1) := by decide +kernel
theorem dX12_whole_148 : decode cX12_whole 148 = .ok (.lstore 6, 2) := by decide +kernel
theorem dX12_whole_150 : decode cX12_whole 150 = .ok (.iinc 11 1, 3) := by decide +kernel
theorem dX12_whole_153 : decode cX12_whole 153 = .ok (.goto (-16), 3) := by decide +kernel
theorem dX12_whole_156 : decode cX12_whole 156 = .ok (.lload_n 2, 1) := by decide +kernel
theorem dX12_whole_157 : decode cX12_whole 157 = .ok (.lconst 0, 1) := by decide +kernel
theorem dX12_whole_158 : decode cX12_whole 158 = .ok (.lcmp, 1) := by decide +kernel
theorem dX12_whole_159 : decode cX12_whole 159 = .ok (.ifCond .ge 7, 3) := by decide +kernel
theorem dX12_whole_162 : decode cX12_whole 162 = .ok (.iconst 1, 1) := by decide +kernel
theorem dX12_whole_163 : decode cX12_whole 163 = .ok (.goto 4, 3) := by decide +kernel
theorem dX12_whole_166 : decode cX12_whole 166 = .ok (.iconst 0, 1) := by decide +kernel
theorem dX12_whole_167 : decode cX12_whole 167 = .ok (.lload 4, 2) := by decide +kernel
theorem dX12_whole_169 : decode cX12_whole 169 = .ok (.lconst 0, 1) := by decide +kernel
theorem dX12_whole_170 : decode cX12_whole 170 = .ok (.lcmp, 1) := by decide +kernel
theorem dX12_whole_171 : decode cX12_whole 171 = .ok (.ifCond .ge 7, 3) := by decide +kernel
theorem dX12_whole_174 : decode cX12_whole 174 = .ok (.iconst 1, 1) := by decide +kernel
theorem dX12_whole_175 : decode cX12_whole 175 = .ok (.goto 4, 3) := by decide +kernel
theorem dX12_whole_178 : decode cX12_whole 178 = .ok (.iconst 0, 1) := by decide +kernel
theorem dX12_whole_179 : decode cX12_whole 179 = .ok (.if_icmp .eq 9, 3) := by decide +kernel
theorem dX12_whole_182 : decode cX12_whole 182 = .ok (.lload 6, 2) := by decide +kernel
theorem dX12_whole_184 : decode cX12_whole 184 = .ok (.lneg, 1) := by decide +kernel
theorem dX12_whole_185 : decode cX12_whole 185 = .ok (.goto 5, 3) := by decide +kernel
theorem dX12_whole_188 : decode cX12_whole 188 = .ok (.lload 6, 2) := by decide +kernel
theorem dX12_whole_190 : decode cX12_whole 190 = .ok (.lreturn, 1) := by decide +kernel
set_option maxRecDepth 10000 in
theorem TX12_whole_0 {d : Nat} {S : fW} {h : fH} {Q : Int64 → fH → Prop} {r0 : Nat} {x1 : Int32} {x2 : Int64} {x4 : Int64} {r0_pad r0_text r0_number r0_span r0_now r0_sizeOf r0_workedTo r0_slip r0_exactUpper r0_exactLower r0_more r0_terms r0_order r0_bestOrder r0_low r0_high r0_built r0_better r0_base r0_kept r0_isKept : Nat} {Q1 : fH → Prop} 
    (k1 : x1 = (43 : Int32) → Q (x2 + x4) h)
    (k2 : ¬ x1 = (43 : Int32) → ¬ x1 = (45 : Int32) → x2 = (0 : Int64) → Q (0 : Int64) h)
    (hs1 : (r0, shX12 r0_pad r0_text r0_number r0_span r0_now r0_sizeOf r0_workedTo r0_slip r0_exactUpper r0_exactLower r0_more r0_terms r0_order r0_bestOrder r0_low r0_high r0_built r0_better r0_base r0_kept r0_isKept) ∈ S)
    (ok1 : ¬ x1 = (43 : Int32) → ¬ x1 = (45 : Int32) → ¬ x2 = (0 : Int64) → ¬ x4 = (0 : Int64) → OkV d mX12_layBoth S [.ref r0, .int x1, .long x2, .long x4] h Q1)
    (sd1 : ¬ x1 = (43 : Int32) → ¬ x1 = (45 : Int32) → ¬ x2 = (0 : Int64) → ¬ x4 = (0 : Int64) → ∀ h_1, Q1 h_1 → ¬ (h_1.2.1 r0 5) = 0)
    (k3 : ¬ x1 = (43 : Int32) → ¬ x1 = (45 : Int32) → ¬ x2 = (0 : Int64) → ¬ x4 = (0 : Int64) → ∀ h_1, Q1 h_1 → G mX12_whole (d + 1) S (f_PL Q) 87 [(0, .ref r0), (2, .long x2), (4, .long x4), (6, .long ((h_1.2.1 r0 4) / (h_1.2.1 r0 5))), (8, .long ((h_1.2.1 r0 4) - (h_1.2.1 r0 4) / (h_1.2.1 r0 5) * (h_1.2.1 r0 5))), (10, .int ((h_1.1 r0 6) + (9 : Int32))), (11, .int (0 : Int32))] [] h_1)
    (k4 : ¬ x1 = (43 : Int32) → ¬ x1 = (45 : Int32) → ¬ x2 = (0 : Int64) → x4 = (0 : Int64) → Q (0 : Int64) h)
    (k5 : ¬ x1 = (43 : Int32) → x1 = (45 : Int32) → Q (x2 - x4) h) :
    OkL (d + 1) mX12_whole S [.ref r0, .int x1, .long x2, .long x4] h Q := by
  refine Ok.of (by decide) (Nat.le_of_ble_eq_true rfl) ?_
  refine G_iload_n 1 rfl dX12_whole_0 rfl ?_
  refine G_bipush (v := 43) dX12_whole_1 (by decide) ?_
  refine G_icmp_eq (tgt := 12) dX12_whole_3 (by decide) (fun c1 => ?_) (fun c1 => ?_)
  · refine G_iload_n 1 rfl dX12_whole_12 rfl ?_
    refine G_bipush (v := 43) dX12_whole_13 (by decide) ?_
    refine G_icmp_ne (tgt := 25) dX12_whole_15 (by decide) (fun c2 => absurd c1 c2) (fun c2 => ?_)
    refine G_lload_n 2 rfl dX12_whole_18 rfl ?_
    refine G_lload 3 rfl dX12_whole_19 ?_
    refine G_ladd dX12_whole_21 ?_
    refine G_goto (tgt := 29) dX12_whole_22 (by decide) ?_
    exact G_lret rfl dX12_whole_29 ⟨_, rfl, (k1 c1)⟩
  · refine G_iload_n 1 rfl dX12_whole_6 rfl ?_
    refine G_bipush (v := 45) dX12_whole_7 (by decide) ?_
    refine G_icmp_ne (tgt := 30) dX12_whole_9 (by decide) (fun c2 => ?_) (fun c2 => ?_)
    · refine G_lload_n 2 rfl dX12_whole_30 rfl ?_
      refine G_lconst (v := 0) dX12_whole_31 (by decide) ?_
      refine G_lif_eq (tgt := 43) dX12_whole_32 dX12_whole_33 (by decide) (fun c3 => ?_) (fun c3 => ?_)
      · refine G_lconst (v := 0) dX12_whole_43 (by decide) ?_
        exact G_lret rfl dX12_whole_44 ⟨_, rfl, (k2 c1 c2 c3)⟩
      · refine G_lload 3 rfl dX12_whole_36 ?_
        refine G_lconst (v := 0) dX12_whole_38 (by decide) ?_
        refine G_lif_ne (tgt := 45) dX12_whole_39 dX12_whole_40 (by decide) (fun c4 => ?_) (fun c4 => ?_)
        · refine G_aload_n 0 rfl dX12_whole_45 rfl ?_
          refine G_iload_n 1 rfl dX12_whole_46 rfl ?_
          refine G_lload_n 2 rfl dX12_whole_47 rfl ?_
          refine G_lload 3 rfl dX12_whole_48 ?_
          refine G_callV (Z := mX12_layBoth) (As := [.int x1, .long x2, .long x4]) (st := []) hL_X12_130 hI_X12_layBoth hS_X12_layBoth hC_X12_layBoth hN_X12 nX12_layBoth (by decide) hs1 rfl rfl rfl (Nat.le_of_ble_eq_true rfl) dX12_whole_50 (ok1 c1 c2 c3 c4) (fun r_ h_1 z_ => ?_)
          obtain ⟨rfl, q_1⟩ := z_
          refine G_aload_n 0 rfl dX12_whole_53 rfl ?_
          refine G_getl (k := 4) hs1 (q := (RX12, TX12, 40)) rfl inX12 (by decide) rfl hF_X12_117 dX12_whole_54 ?_
          refine G_aload_n 0 rfl dX12_whole_57 rfl ?_
          refine G_getl (k := 5) hs1 (q := (RX12, TX12, 40)) rfl inX12 (by decide) rfl hF_X12_120 dX12_whole_58 ?_
          refine G_ldiv dX12_whole_61 (sd1 c1 c2 c3 c4 h_1 q_1) ?_
          refine G_lstore dX12_whole_62 (by decide) (lv' := [(6, .long ((h_1.2.1 r0 4) / (h_1.2.1 r0 5))), (0, .ref r0), (1, .int x1), (2, .long x2), (4, .long x4)]) rfl ?_
          refine G_aload_n 1 rfl dX12_whole_64 rfl ?_
          refine G_getl (k := 4) hs1 (q := (RX12, TX12, 40)) rfl inX12 (by decide) rfl hF_X12_117 dX12_whole_65 ?_
          refine G_aload_n 1 rfl dX12_whole_68 rfl ?_
          refine G_getl (k := 5) hs1 (q := (RX12, TX12, 40)) rfl inX12 (by decide) rfl hF_X12_120 dX12_whole_69 ?_
          refine G_lrem dX12_whole_72 (sd1 c1 c2 c3 c4 h_1 q_1) ?_
          refine G_lstore dX12_whole_73 (by decide) (lv' := [(8, .long ((h_1.2.1 r0 4) - (h_1.2.1 r0 4) / (h_1.2.1 r0 5) * (h_1.2.1 r0 5))), (6, .long ((h_1.2.1 r0 4) / (h_1.2.1 r0 5))), (0, .ref r0), (1, .int x1), (2, .long x2), (4, .long x4)]) rfl ?_
          refine G_aload_n 2 rfl dX12_whole_75 rfl ?_
          refine G_geti (k := 6) hs1 (q := (RX12, TX12, 40)) rfl inX12 (by decide) (Or.inl rfl) hF_X12_123 dX12_whole_76 ?_
          refine G_bipush (v := 9) dX12_whole_79 (by decide) ?_
          refine G_iadd dX12_whole_81 ?_
          refine G_istore dX12_whole_82 (by decide) (lv' := [(10, .int ((h_1.1 r0 6) + (9 : Int32))), (8, .long ((h_1.2.1 r0 4) - (h_1.2.1 r0 4) / (h_1.2.1 r0 5) * (h_1.2.1 r0 5))), (6, .long ((h_1.2.1 r0 4) / (h_1.2.1 r0 5))), (0, .ref r0), (1, .int x1), (2, .long x2), (4, .long x4)]) rfl ?_
          refine G_iconst (v := 0) dX12_whole_84 (by decide) ?_
          refine G_istore dX12_whole_85 (by decide) (lv' := [(11, .int (0 : Int32)), (10, .int ((h_1.1 r0 6) + (9 : Int32))), (8, .long ((h_1.2.1 r0 4) - (h_1.2.1 r0 4) / (h_1.2.1 r0 5) * (h_1.2.1 r0 5))), (6, .long ((h_1.2.1 r0 4) / (h_1.2.1 r0 5))), (0, .ref r0), (1, .int x1), (2, .long x2), (4, .long x4)]) rfl ?_
          exact G_sub [4, 6, 7, 3, 2, 1, 0] rfl (k3 c1 c2 c3 c4 h_1 q_1)
        · refine G_lconst (v := 0) dX12_whole_43 (by decide) ?_
          exact G_lret rfl dX12_whole_44 ⟨_, rfl, (k4 c1 c2 c3 c4)⟩
    · refine G_iload_n 1 rfl dX12_whole_12 rfl ?_
      refine G_bipush (v := 43) dX12_whole_13 (by decide) ?_
      refine G_icmp_ne (tgt := 25) dX12_whole_15 (by decide) (fun c3 => ?_) (fun c3 => absurd c3 c1)
      refine G_lload_n 2 rfl dX12_whole_25 rfl ?_
      refine G_lload 3 rfl dX12_whole_26 ?_
      refine G_lsub dX12_whole_28 ?_
      exact G_lret rfl dX12_whole_29 ⟨_, rfl, (k5 c1 c2)⟩

set_option maxRecDepth 10000 in
theorem TX12_whole_87 {d : Nat} {S : fW} {h : fH} {Q : Int64 → fH → Prop} {r0 : Nat} {x2 : Int64} {x4 : Int64} {x6 : Int64} {x8 : Int64} {x10 : Int32} {x11 : Int32} {r0_pad r0_text r0_number r0_span r0_now r0_sizeOf r0_workedTo r0_slip r0_exactUpper r0_exactLower r0_more r0_terms r0_order r0_bestOrder r0_low r0_high r0_built r0_better r0_base r0_kept r0_isKept : Nat}  
    (k1 : x10 ≤ x11 → G mX12_whole (d + 1) S (f_PL Q) 137 [(2, .long x2), (4, .long x4), (6, .long x6), (11, .int x10)] [] h)
    (hs1 : (r0, shX12 r0_pad r0_text r0_number r0_span r0_now r0_sizeOf r0_workedTo r0_slip r0_exactUpper r0_exactLower r0_more r0_terms r0_order r0_bestOrder r0_low r0_high r0_built r0_better r0_base r0_kept r0_isKept) ∈ S)
    (sd1 : ¬ x10 ≤ x11 → ¬ (h.2.1 r0 5) = 0)
    (k2 : ¬ x10 ≤ x11 → G mX12_whole (d + 1) S (f_PL Q) 87 [(0, .ref r0), (2, .long x2), (4, .long x4), (6, .long (((10 : Int64) * x6) + ((x8 * (10 : Int64)) / (h.2.1 r0 5)))), (8, .long ((x8 * (10 : Int64)) - (x8 * (10 : Int64)) / (h.2.1 r0 5) * (h.2.1 r0 5))), (10, .int x10), (11, .int (x11 + 1))] [] h) :
    G mX12_whole (d + 1) S (f_PL Q) 87 [(0, .ref r0), (2, .long x2), (4, .long x4), (6, .long x6), (8, .long x8), (10, .int x10), (11, .int x11)] [] h := by
  refine G_iload 6 rfl dX12_whole_87 ?_
  refine G_iload 5 rfl dX12_whole_89 ?_
  refine G_icmp_ge (tgt := 133) dX12_whole_91 (by decide) (fun c1 => ?_) (fun c1 => ?_)
  · refine G_iload 5 rfl dX12_whole_133 ?_
    refine G_istore dX12_whole_135 (by decide) (lv' := [(11, .int x10), (0, .ref r0), (2, .long x2), (4, .long x4), (6, .long x6), (8, .long x8), (10, .int x10)]) rfl ?_
    exact G_sub [2, 3, 4, 0] rfl (k1 c1)
  · refine G_lload 4 rfl dX12_whole_94 ?_
    refine G_ldc2 hK_X12_86 dX12_whole_96 ?_
    refine G_lmul dX12_whole_99 ?_
    refine G_lstore dX12_whole_100 (by decide) (lv' := [(8, .long (x8 * (10 : Int64))), (0, .ref r0), (2, .long x2), (4, .long x4), (6, .long x6), (10, .int x10), (11, .int x11)]) rfl ?_
    refine G_ldc2 hK_X12_86 dX12_whole_102 ?_
    refine G_lload 4 rfl dX12_whole_105 ?_
    refine G_lmul dX12_whole_107 ?_
    refine G_lload 0 rfl dX12_whole_108 ?_
    refine G_aload_n 1 rfl dX12_whole_110 rfl ?_
    refine G_getl (k := 5) hs1 (q := (RX12, TX12, 40)) rfl inX12 (by decide) rfl hF_X12_120 dX12_whole_111 ?_
    refine G_ldiv dX12_whole_114 (sd1 c1) ?_
    refine G_ladd dX12_whole_115 ?_
    refine G_lstore dX12_whole_116 (by decide) (lv' := [(6, .long (((10 : Int64) * x6) + ((x8 * (10 : Int64)) / (h.2.1 r0 5)))), (8, .long (x8 * (10 : Int64))), (0, .ref r0), (2, .long x2), (4, .long x4), (10, .int x10), (11, .int x11)]) rfl ?_
    refine G_lload 1 rfl dX12_whole_118 ?_
    refine G_aload_n 2 rfl dX12_whole_120 rfl ?_
    refine G_getl (k := 5) hs1 (q := (RX12, TX12, 40)) rfl inX12 (by decide) rfl hF_X12_120 dX12_whole_121 ?_
    refine G_lrem dX12_whole_124 (sd1 c1) ?_
    refine G_lstore dX12_whole_125 (by decide) (lv' := [(8, .long ((x8 * (10 : Int64)) - (x8 * (10 : Int64)) / (h.2.1 r0 5) * (h.2.1 r0 5))), (6, .long (((10 : Int64) * x6) + ((x8 * (10 : Int64)) / (h.2.1 r0 5)))), (0, .ref r0), (2, .long x2), (4, .long x4), (10, .int x10), (11, .int x11)]) rfl ?_
    refine G_iinc (v := 1) 6 rfl dX12_whole_127 (by decide) (by decide) (lv' := [(11, .int (x11 + 1)), (8, .long ((x8 * (10 : Int64)) - (x8 * (10 : Int64)) / (h.2.1 r0 5) * (h.2.1 r0 5))), (6, .long (((10 : Int64) * x6) + ((x8 * (10 : Int64)) / (h.2.1 r0 5)))), (0, .ref r0), (2, .long x2), (4, .long x4), (10, .int x10)]) rfl ?_
    refine G_goto (tgt := 87) dX12_whole_130 (by decide) ?_
    exact G_sub [3, 4, 5, 2, 1, 6, 0] rfl (k2 c1)

set_option maxRecDepth 10000 in
theorem TX12_whole_137 {d : Nat} {S : fW} {h : fH} {Q : Int64 → fH → Prop} {x2 : Int64} {x4 : Int64} {x6 : Int64} {x11 : Int32}  
    (k1 : 0 ≤ x11 → (0 : Int64) ≤ x2 → (0 : Int64) ≤ x4 → (0 : Int32) = (0 : Int32) → Q x6 h)
    (k2 : 0 ≤ x11 → (0 : Int64) ≤ x2 → (0 : Int64) ≤ x4 → ¬ (0 : Int32) = (0 : Int32) → Q (-x6) h)
    (k3 : 0 ≤ x11 → (0 : Int64) ≤ x2 → ¬ (0 : Int64) ≤ x4 → (0 : Int32) = (1 : Int32) → Q x6 h)
    (k4 : 0 ≤ x11 → (0 : Int64) ≤ x2 → ¬ (0 : Int64) ≤ x4 → ¬ (0 : Int32) = (1 : Int32) → Q (-x6) h)
    (k5 : 0 ≤ x11 → ¬ (0 : Int64) ≤ x2 → (0 : Int64) ≤ x4 → (1 : Int32) = (0 : Int32) → Q x6 h)
    (k6 : 0 ≤ x11 → ¬ (0 : Int64) ≤ x2 → (0 : Int64) ≤ x4 → ¬ (1 : Int32) = (0 : Int32) → Q (-x6) h)
    (k7 : 0 ≤ x11 → ¬ (0 : Int64) ≤ x2 → ¬ (0 : Int64) ≤ x4 → (1 : Int32) = (1 : Int32) → Q x6 h)
    (k8 : 0 ≤ x11 → ¬ (0 : Int64) ≤ x2 → ¬ (0 : Int64) ≤ x4 → ¬ (1 : Int32) = (1 : Int32) → Q (-x6) h)
    (k9 : ¬ 0 ≤ x11 → G mX12_whole (d + 1) S (f_PL Q) 137 [(2, .long x2), (4, .long x4), (6, .long (x6 / (10 : Int64))), (11, .int (x11 + 1))] [] h) :
    G mX12_whole (d + 1) S (f_PL Q) 137 [(2, .long x2), (4, .long x4), (6, .long x6), (11, .int x11)] [] h := by
  refine G_iload 3 rfl dX12_whole_137 ?_
  refine G_if_ge (tgt := 156) dX12_whole_139 (by decide) (fun c1 => ?_) (fun c1 => ?_)
  · refine G_lload_n 0 rfl dX12_whole_156 rfl ?_
    refine G_lconst (v := 0) dX12_whole_157 (by decide) ?_
    refine G_lif_ge (tgt := 166) dX12_whole_158 dX12_whole_159 (by decide) (fun c2 => ?_) (fun c2 => ?_)
    · refine G_iconst (v := 0) dX12_whole_166 (by decide) ?_
      refine G_lload 1 rfl dX12_whole_167 ?_
      refine G_lconst (v := 0) dX12_whole_169 (by decide) ?_
      refine G_lif_ge (tgt := 178) dX12_whole_170 dX12_whole_171 (by decide) (fun c3 => ?_) (fun c3 => ?_)
      · refine G_iconst (v := 0) dX12_whole_178 (by decide) ?_
        refine G_icmp_eq (tgt := 188) dX12_whole_179 (by decide) (fun c4 => ?_) (fun c4 => ?_)
        · refine G_lload 2 rfl dX12_whole_188 ?_
          exact G_lret rfl dX12_whole_190 ⟨_, rfl, (k1 c1 c2 c3 c4)⟩
        · refine G_lload 2 rfl dX12_whole_182 ?_
          refine G_lneg dX12_whole_184 ?_
          refine G_goto (tgt := 190) dX12_whole_185 (by decide) ?_
          exact G_lret rfl dX12_whole_190 ⟨_, rfl, (k2 c1 c2 c3 c4)⟩
      · refine G_iconst (v := 1) dX12_whole_174 (by decide) ?_
        refine G_goto (tgt := 179) dX12_whole_175 (by decide) ?_
        refine G_icmp_eq (tgt := 188) dX12_whole_179 (by decide) (fun c4 => ?_) (fun c4 => ?_)
        · refine G_lload 2 rfl dX12_whole_188 ?_
          exact G_lret rfl dX12_whole_190 ⟨_, rfl, (k3 c1 c2 c3 c4)⟩
        · refine G_lload 2 rfl dX12_whole_182 ?_
          refine G_lneg dX12_whole_184 ?_
          refine G_goto (tgt := 190) dX12_whole_185 (by decide) ?_
          exact G_lret rfl dX12_whole_190 ⟨_, rfl, (k4 c1 c2 c3 c4)⟩
    · refine G_iconst (v := 1) dX12_whole_162 (by decide) ?_
      refine G_goto (tgt := 167) dX12_whole_163 (by decide) ?_
      refine G_lload 1 rfl dX12_whole_167 ?_
      refine G_lconst (v := 0) dX12_whole_169 (by decide) ?_
      refine G_lif_ge (tgt := 178) dX12_whole_170 dX12_whole_171 (by decide) (fun c3 => ?_) (fun c3 => ?_)
      · refine G_iconst (v := 0) dX12_whole_178 (by decide) ?_
        refine G_icmp_eq (tgt := 188) dX12_whole_179 (by decide) (fun c4 => ?_) (fun c4 => ?_)
        · refine G_lload 2 rfl dX12_whole_188 ?_
          exact G_lret rfl dX12_whole_190 ⟨_, rfl, (k5 c1 c2 c3 c4)⟩
        · refine G_lload 2 rfl dX12_whole_182 ?_
          refine G_lneg dX12_whole_184 ?_
          refine G_goto (tgt := 190) dX12_whole_185 (by decide) ?_
          exact G_lret rfl dX12_whole_190 ⟨_, rfl, (k6 c1 c2 c3 c4)⟩
      · refine G_iconst (v := 1) dX12_whole_174 (by decide) ?_
        refine G_goto (tgt := 179) dX12_whole_175 (by decide) ?_
        refine G_icmp_eq (tgt := 188) dX12_whole_179 (by decide) (fun c4 => ?_) (fun c4 => ?_)
        · refine G_lload 2 rfl dX12_whole_188 ?_
          exact G_lret rfl dX12_whole_190 ⟨_, rfl, (k7 c1 c2 c3 c4)⟩
        · refine G_lload 2 rfl dX12_whole_182 ?_
          refine G_lneg dX12_whole_184 ?_
          refine G_goto (tgt := 190) dX12_whole_185 (by decide) ?_
          exact G_lret rfl dX12_whole_190 ⟨_, rfl, (k8 c1 c2 c3 c4)⟩
  · refine G_lload 2 rfl dX12_whole_142 ?_
    refine G_ldc2 hK_X12_86 dX12_whole_144 ?_
    refine G_ldiv dX12_whole_147 (by decide) ?_
    refine G_lstore dX12_whole_148 (by decide) (lv' := [(6, .long (x6 / (10 : Int64))), (2, .long x2), (4, .long x4), (11, .int x11)]) rfl ?_
    refine G_iinc (v := 1) 3 rfl dX12_whole_150 (by decide) (by decide) (lv' := [(11, .int (x11 + 1)), (6, .long (x6 / (10 : Int64))), (2, .long x2), (4, .long x4)]) rfl ?_
    refine G_goto (tgt := 137) dX12_whole_153 (by decide) ?_
    exact G_sub [2, 3, 1, 0] rfl (k9 c1)
-- LostDigitsModel.set
theorem dX12_set_0 : decode cX12_set 0 = .ok (.iload_n 1, 1) := by decide +kernel
theorem dX12_set_1 : decode cX12_set 1 = .ok (.invokestatic 134, 3) := by decide +kernel
theorem dX12_set_4 : decode cX12_set 4 = .ok (.ifCond .eq 33, 3) := by decide +kernel
theorem dX12_set_7 : decode cX12_set 7 = .ok (.iload_n 2, 1) := by decide +kernel
theorem dX12_set_8 : decode cX12_set 8 = .ok (.i2l, 1) := by decide +kernel
theorem dX12_set_9 : decode cX12_set 9 = .ok (.iload_n 1, 1) := by decide +kernel
theorem dX12_set_10 : decode cX12_set 10 = .ok (.ifCond .ne 7, 3) := by decide +kernel
theorem dX12_set_13 : decode cX12_set 13 = .ok (.lconst 1, 1) := by decide +kernel
theorem dX12_set_14 : decode cX12_set 14 = .ok (.goto 4, 3) := by decide +kernel
theorem dX12_set_17 : decode cX12_set 17 = .ok (.lconst 0, 1) := by decide +kernel
theorem dX12_set_18 : decode cX12_set 18 = .ok (.iload_n 1, 1) := by decide +kernel
theorem dX12_set_19 : decode cX12_set 19 = .ok (.ifCond .ne 9, 3) := by decide +kernel
theorem dX12_set_22 : decode cX12_set 22 = .ok (.ldc2_w 138, 3) := by decide +kernel
theorem dX12_set_25 : decode cX12_set 25 = .ok (.goto 6, 3) := by decide +kernel
theorem dX12_set_28 : decode cX12_set 28 = .ok (.ldc2_w 140, 3) := by decide +kernel
theorem dX12_set_31 : decode cX12_set 31 = .ok (.invokestatic 82, 3) := by decide +kernel
theorem dX12_set_34 : decode cX12_set 34 = .ok (.ifCond .ne 6, 3) := by decide +kernel
theorem dX12_set_37 : decode cX12_set 37 = .ok (.bipush (-2), 2) := by decide +kernel
theorem dX12_set_39 : decode cX12_set 39 = .ok (.ireturn, 1) := by decide +kernel
theorem dX12_set_40 : decode cX12_set 40 = .ok (.iload_n 1, 1) := by decide +kernel
theorem dX12_set_41 : decode cX12_set 41 = .ok (.ifCond .ne 10, 3) := by decide +kernel
theorem dX12_set_44 : decode cX12_set 44 = .ok (.aload_n 0, 1) := by decide +kernel
theorem dX12_set_45 : decode cX12_set 45 = .ok (.getfield 75, 3) := by decide +kernel
theorem dX12_set_48 : decode cX12_set 48 = .ok (.goto 7, 3) := by decide +kernel
theorem dX12_set_51 : decode cX12_set 51 = .ok (.aload_n 0, 1) := by decide +kernel
theorem dX12_set_52 : decode cX12_set 52 = .ok (.getfield 142, 3) := by decide +kernel
theorem dX12_set_55 : decode cX12_set 55 = .ok (.istore_n 3, 1) := by decide +kernel
theorem dX12_set_56 : decode cX12_set 56 = .ok (.iload_n 1, 1) := by decide +kernel
theorem dX12_set_57 : decode cX12_set 57 = .ok (.ifCond .ne 11, 3) := by decide +kernel
theorem dX12_set_60 : decode cX12_set 60 = .ok (.aload_n 0, 1) := by decide +kernel
theorem dX12_set_61 : decode cX12_set 61 = .ok (.iload_n 2, 1) := by decide +kernel
theorem dX12_set_62 : decode cX12_set 62 = .ok (.putfield 75, 3) := by decide +kernel
theorem dX12_set_65 : decode cX12_set 65 = .ok (.goto 8, 3) := by decide +kernel
theorem dX12_set_68 : decode cX12_set 68 = .ok (.aload_n 0, 1) := by decide +kernel
theorem dX12_set_69 : decode cX12_set 69 = .ok (.iload_n 2, 1) := by decide +kernel
theorem dX12_set_70 : decode cX12_set 70 = .ok (.putfield 142, 3) := by decide +kernel
theorem dX12_set_73 : decode cX12_set 73 = .ok (.iload_n 3, 1) := by decide +kernel
theorem dX12_set_74 : decode cX12_set 74 = .ok (.ireturn, 1) := by decide +kernel
set_option maxRecDepth 10000 in
theorem NX12_set_0 {d : Nat} {S : fW} {h : fH} {Q : Int32 → fH → Prop} {r0 : Nat} {x1 : Int32} {x2 : Int32}  
    (w : ∃ Q1 : Int32 → fH → Prop, OkI d mX12_isEnd S [.int x1] h Q1 ∧ ∀ (v_1 : Int32) (h_1 : fH), Q1 v_1 h_1 → ((v_1 = 0 → Q (-2 : Int32) h_1) ∧ (¬ v_1 = 0 → ((¬ x1 = 0 → G mX12_set (d + 1) S (f_PI Q) 31 [(0, .ref r0), (1, .int x1), (2, .int x2)] [.long (3 : Int64), .long (0 : Int64), .long x2.toInt64] h_1) ∧ (x1 = 0 → G mX12_set (d + 1) S (f_PI Q) 31 [(0, .ref r0), (1, .int x1), (2, .int x2)] [.long (4 : Int64), .long (1 : Int64), .long x2.toInt64] h_1))))) :
    OkI (d + 1) mX12_set S [.ref r0, .int x1, .int x2] h Q := by
  refine Ok.of (by decide) (Nat.le_of_ble_eq_true rfl) ?_
  refine G_iload_n 1 rfl dX12_set_0 rfl ?_
  obtain ⟨Q1, ok1, w⟩ := w
  refine G_callS (Z := mX12_isEnd) (As := [.int x1]) (st := []) hL_X12_134 hT_X12_isEnd hC_X12_isEnd hN_X12 nX12_isEnd (by decide) rfl (Nat.le_of_ble_eq_true rfl) dX12_set_1 ok1 (fun r_ h_1 z_ => ?_)
  obtain ⟨v_1, rfl, q_1⟩ := z_
  have w := w v_1 h_1 q_1
  refine G_if_eq (tgt := 37) dX12_set_4 (by decide) (fun c1 => ?_) (fun c1 => ?_)
  · have w := w.1 c1
    refine G_bipush (v := -2) dX12_set_37 (by decide) ?_
    exact G_iret rfl dX12_set_39 ⟨_, rfl, w⟩
  · have w := w.2 c1
    refine G_iload_n 2 rfl dX12_set_7 rfl ?_
    refine G_i2l dX12_set_8 ?_
    refine G_iload_n 1 rfl dX12_set_9 rfl ?_
    refine G_if_ne (tgt := 17) dX12_set_10 (by decide) (fun c2 => ?_) (fun c2 => ?_)
    · have w := w.1 c2
      refine G_lconst (v := 0) dX12_set_17 (by decide) ?_
      refine G_iload_n 1 rfl dX12_set_18 rfl ?_
      refine G_if_ne (tgt := 28) dX12_set_19 (by decide) (fun c3 => ?_) (fun c3 => absurd c3 c2)
      refine G_ldc2 hK_X12_140 dX12_set_28 ?_
      exact G_sub [0, 1, 2] rfl w
    · have w := w.2 c2
      refine G_lconst (v := 1) dX12_set_13 (by decide) ?_
      refine G_goto (tgt := 18) dX12_set_14 (by decide) ?_
      refine G_iload_n 1 rfl dX12_set_18 rfl ?_
      refine G_if_ne (tgt := 28) dX12_set_19 (by decide) (fun c3 => absurd c2 c3) (fun c3 => ?_)
      refine G_ldc2 hK_X12_138 dX12_set_22 ?_
      refine G_goto (tgt := 31) dX12_set_25 (by decide) ?_
      exact G_sub [0, 1, 2] rfl w

set_option maxRecDepth 10000 in
theorem NX12_set_31 {d : Nat} {S : fW} {h : fH} {Q : Int32 → fH → Prop} {r0 : Nat} {x1 : Int32} {x2 : Int32} {s0 : Int64} {s1 : Int64} {s2 : Int64} {r0_pad r0_text r0_number r0_span r0_now r0_sizeOf r0_workedTo r0_slip r0_exactUpper r0_exactLower r0_more r0_terms r0_order r0_bestOrder r0_low r0_high r0_built r0_better r0_base r0_kept r0_isKept : Nat}  
    (hs1 : (r0, shX12 r0_pad r0_text r0_number r0_span r0_now r0_sizeOf r0_workedTo r0_slip r0_exactUpper r0_exactLower r0_more r0_terms r0_order r0_bestOrder r0_low r0_high r0_built r0_better r0_base r0_kept r0_isKept) ∈ S)
    (w : ∃ Q1 : Int32 → fH → Prop, OkI d mX12_in S [.long s0, .long s1, .long s2] h Q1 ∧ ∀ (v_1 : Int32) (h_1 : fH), Q1 v_1 h_1 → ((¬ v_1 = 0 → ((¬ x1 = 0 → ∀ g_1 : fH, g_1 = u_fi h_1 r0 1 x2 → Q (h_1.1 r0 1) g_1) ∧ (x1 = 0 → ∀ g_2 : fH, g_2 = u_fi h_1 r0 0 x2 → Q (h_1.1 r0 0) g_2))) ∧ (v_1 = 0 → Q (-2 : Int32) h_1))) :
    G mX12_set (d + 1) S (f_PI Q) 31 [(0, .ref r0), (1, .int x1), (2, .int x2)] [.long s2, .long s1, .long s0] h := by
  obtain ⟨Q1, ok1, w⟩ := w
  refine G_callS (Z := mX12_in) (As := [.long s0, .long s1, .long s2]) (st := []) hL_X12_82 hT_X12_in hC_X12_in hN_X12 nX12_in (by decide) rfl (Nat.le_of_ble_eq_true rfl) dX12_set_31 ok1 (fun r_ h_1 z_ => ?_)
  obtain ⟨v_1, rfl, q_1⟩ := z_
  have w := w v_1 h_1 q_1
  refine G_if_ne (tgt := 40) dX12_set_34 (by decide) (fun c1 => ?_) (fun c1 => ?_)
  · have w := w.1 c1
    refine G_iload_n 1 rfl dX12_set_40 rfl ?_
    refine G_if_ne (tgt := 51) dX12_set_41 (by decide) (fun c2 => ?_) (fun c2 => ?_)
    · have w := w.1 c2
      refine G_aload_n 0 rfl dX12_set_51 rfl ?_
      refine G_geti (k := 1) hs1 (q := (RX12, TX12, 40)) rfl inX12 (by decide) (Or.inl rfl) hF_X12_142 dX12_set_52 ?_
      refine G_istore_n dX12_set_55 rfl (by decide) (lv' := [(3, .int (h_1.1 r0 1)), (0, .ref r0), (1, .int x1), (2, .int x2)]) rfl ?_
      refine G_iload_n 2 rfl dX12_set_56 rfl ?_
      refine G_if_ne (tgt := 68) dX12_set_57 (by decide) (fun c3 => ?_) (fun c3 => absurd c3 c2)
      refine G_aload_n 1 rfl dX12_set_68 rfl ?_
      refine G_iload_n 3 rfl dX12_set_69 rfl ?_
      refine G_puti (k := 1) tyX12 hs1 (q := (RX12, TX12, 40)) rfl inX12 tyX12_ok nmX12 (by decide) rfl rfl rfl hF_X12_142 dX12_set_70 ?_
      refine G_nm (fun g_1 e_1 => ?_)
      have w := w g_1 e_1
      refine G_iload_n 0 rfl dX12_set_73 rfl ?_
      exact G_iret rfl dX12_set_74 ⟨_, rfl, w⟩
    · have w := w.2 c2
      refine G_aload_n 0 rfl dX12_set_44 rfl ?_
      refine G_geti (k := 0) hs1 (q := (RX12, TX12, 40)) rfl inX12 (by decide) (Or.inl rfl) hF_X12_75 dX12_set_45 ?_
      refine G_goto (tgt := 55) dX12_set_48 (by decide) ?_
      refine G_istore_n dX12_set_55 rfl (by decide) (lv' := [(3, .int (h_1.1 r0 0)), (0, .ref r0), (1, .int x1), (2, .int x2)]) rfl ?_
      refine G_iload_n 2 rfl dX12_set_56 rfl ?_
      refine G_if_ne (tgt := 68) dX12_set_57 (by decide) (fun c3 => absurd c2 c3) (fun c3 => ?_)
      refine G_aload_n 1 rfl dX12_set_60 rfl ?_
      refine G_iload_n 3 rfl dX12_set_61 rfl ?_
      refine G_puti (k := 0) tyX12 hs1 (q := (RX12, TX12, 40)) rfl inX12 tyX12_ok nmX12 (by decide) rfl rfl rfl hF_X12_75 dX12_set_62 ?_
      refine G_nm (fun g_2 e_2 => ?_)
      have w := w g_2 e_2
      refine G_goto (tgt := 73) dX12_set_65 (by decide) ?_
      refine G_iload_n 0 rfl dX12_set_73 rfl ?_
      exact G_iret rfl dX12_set_74 ⟨_, rfl, w⟩
  · have w := w.2 c1
    refine G_bipush (v := -2) dX12_set_37 (by decide) ?_
    exact G_iret rfl dX12_set_39 ⟨_, rfl, w⟩
-- LostDigitsModel.round
theorem dX12_round_0 : decode cX12_round 0 = .ok (.iload_n 1, 1) := by decide +kernel
theorem dX12_round_1 : decode cX12_round 1 = .ok (.i2l, 1) := by decide +kernel
theorem dX12_round_2 : decode cX12_round 2 = .ok (.ldc2_w 145, 3) := by decide +kernel
theorem dX12_round_5 : decode cX12_round 5 = .ok (.ldc2_w 147, 3) := by decide +kernel
theorem dX12_round_8 : decode cX12_round 8 = .ok (.invokestatic 82, 3) := by decide +kernel
theorem dX12_round_11 : decode cX12_round 11 = .ok (.ifCond .eq 29, 3) := by decide +kernel
theorem dX12_round_14 : decode cX12_round 14 = .ok (.iload_n 2, 1) := by decide +kernel
theorem dX12_round_15 : decode cX12_round 15 = .ok (.i2l, 1) := by decide +kernel
theorem dX12_round_16 : decode cX12_round 16 = .ok (.lconst 1, 1) := by decide +kernel
theorem dX12_round_17 : decode cX12_round 17 = .ok (.ldc2_w 147, 3) := by decide +kernel
theorem dX12_round_20 : decode cX12_round 20 = .ok (.invokestatic 82, 3) := by decide +kernel
theorem dX12_round_23 : decode cX12_round 23 = .ok (.ifCond .eq 17, 3) := by decide +kernel
theorem dX12_round_26 : decode cX12_round 26 = .ok (.iload_n 3, 1) := by decide +kernel
theorem dX12_round_27 : decode cX12_round 27 = .ok (.i2l, 1) := by decide +kernel
theorem dX12_round_28 : decode cX12_round 28 = .ok (.ldc2_w 149, 3) := by decide +kernel
theorem dX12_round_31 : decode cX12_round 31 = .ok (.ldc2_w 151, 3) := by decide +kernel
theorem dX12_round_34 : decode cX12_round 34 = .ok (.invokestatic 82, 3) := by decide +kernel
theorem dX12_round_37 : decode cX12_round 37 = .ok (.ifCond .ne 7, 3) := by decide +kernel
theorem dX12_round_40 : decode cX12_round 40 = .ok (.ldc2_w 153, 3) := by decide +kernel
theorem dX12_round_43 : decode cX12_round 43 = .ok (.lreturn, 1) := by decide +kernel
theorem dX12_round_44 : decode cX12_round 44 = .ok (.aload_n 0, 1) := by decide +kernel
theorem dX12_round_45 : decode cX12_round 45 = .ok (.iload_n 1, 1) := by decide +kernel
theorem dX12_round_46 : decode cX12_round 46 = .ok (.ifCond .ge 7, 3) := by decide +kernel
theorem dX12_round_49 : decode cX12_round 49 = .ok (.iconst 1, 1) := by decide +kernel
theorem dX12_round_50 : decode cX12_round 50 = .ok (.goto 4, 3) := by decide +kernel
theorem dX12_round_53 : decode cX12_round 53 = .ok (.iconst 0, 1) := by decide +kernel
theorem dX12_round_54 : decode cX12_round 54 = .ok (.iload_n 1, 1) := by decide +kernel
theorem dX12_round_55 : decode cX12_round 55 = .ok (.i2l, 1) := by decide +kernel
theorem dX12_round_56 : decode cX12_round 56 = .ok (.invokestatic 98, 3) := by decide +kernel
theorem dX12_round_59 : decode cX12_round 59 = .ok (.iload_n 2, 1) := by decide +kernel
theorem dX12_round_60 : decode cX12_round 60 = .ok (.i2l, 1) := by decide +kernel
theorem dX12_round_61 : decode cX12_round 61 = .ok (.iload_n 3, 1) := by decide +kernel
theorem dX12_round_62 : decode cX12_round 62 = .ok (.aload_n 0, 1) := by decide +kernel
theorem dX12_round_63 : decode cX12_round 63 = .ok (.getfield 142, 3) := by decide +kernel
theorem dX12_round_66 : decode cX12_round 66 = .ok (.iconst 0, 1) := by decide +kernel
theorem dX12_round_67 : decode cX12_round 67 = .ok (.invokevirtual 102, 3) := by decide +kernel
theorem dX12_round_70 : decode cX12_round 70 = .ok (.lreturn, 1) := by decide +kernel
set_option maxRecDepth 10000 in
theorem NX12_round_0 {d : Nat} {S : fW} {h : fH} {Q : Int64 → fH → Prop} {r0 : Nat} {x1 : Int32} {x2 : Int32} {x3 : Int32} {r0_pad r0_text r0_number r0_span r0_now r0_sizeOf r0_workedTo r0_slip r0_exactUpper r0_exactLower r0_more r0_terms r0_order r0_bestOrder r0_low r0_high r0_built r0_better r0_base r0_kept r0_isKept : Nat}  
    (hs1 : (r0, shX12 r0_pad r0_text r0_number r0_span r0_now r0_sizeOf r0_workedTo r0_slip r0_exactUpper r0_exactLower r0_more r0_terms r0_order r0_bestOrder r0_low r0_high r0_built r0_better r0_base r0_kept r0_isKept) ∈ S)
    (w : ∃ Q1 : Int32 → fH → Prop, OkI d mX12_in S [.long x1.toInt64, .long (-1000000 : Int64), .long (1000000 : Int64)] h Q1 ∧ ∀ (v_1 : Int32) (h_1 : fH), Q1 v_1 h_1 → ((v_1 = 0 → Q (-1000000000000000002 : Int64) h_1) ∧ (¬ v_1 = 0 → ∃ Q2 : Int32 → fH → Prop, OkI d mX12_in S [.long x2.toInt64, .long (1 : Int64), .long (1000000 : Int64)] h_1 Q2 ∧ ∀ (v_2 : Int32) (h_2 : fH), Q2 v_2 h_2 → ((v_2 = 0 → Q (-1000000000000000002 : Int64) h_2) ∧ (¬ v_2 = 0 → ∃ Q3 : Int32 → fH → Prop, OkI d mX12_in S [.long x3.toInt64, .long (-9 : Int64), .long (9 : Int64)] h_2 Q3 ∧ ∀ (v_3 : Int32) (h_3 : fH), Q3 v_3 h_3 → ((¬ v_3 = 0 → ((0 ≤ x1 → ∃ Q4 : Int64 → fH → Prop, OkL d mX12_size S [.long x1.toInt64] h_3 Q4 ∧ ∀ (v_4 : Int64) (h_4 : fH), Q4 v_4 h_4 → ∃ Q5 : Int64 → fH → Prop, OkL d mX12_rounded S [.ref r0, .int (0 : Int32), .long v_4, .long x2.toInt64, .int x3, .int (h_4.1 r0 1), .int (0 : Int32)] h_4 Q5 ∧ ∀ (v_5 : Int64) (h_5 : fH), Q5 v_5 h_5 → Q v_5 h_5) ∧ (¬ 0 ≤ x1 → ∃ Q6 : Int64 → fH → Prop, OkL d mX12_size S [.long x1.toInt64] h_3 Q6 ∧ ∀ (v_6 : Int64) (h_6 : fH), Q6 v_6 h_6 → ∃ Q7 : Int64 → fH → Prop, OkL d mX12_rounded S [.ref r0, .int (1 : Int32), .long v_6, .long x2.toInt64, .int x3, .int (h_6.1 r0 1), .int (0 : Int32)] h_6 Q7 ∧ ∀ (v_7 : Int64) (h_7 : fH), Q7 v_7 h_7 → Q v_7 h_7))) ∧ (v_3 = 0 → Q (-1000000000000000002 : Int64) h_3))))))) :
    OkL (d + 1) mX12_round S [.ref r0, .int x1, .int x2, .int x3] h Q := by
  refine Ok.of (by decide) (Nat.le_of_ble_eq_true rfl) ?_
  refine G_iload_n 1 rfl dX12_round_0 rfl ?_
  refine G_i2l dX12_round_1 ?_
  refine G_ldc2 hK_X12_145 dX12_round_2 ?_
  refine G_ldc2 hK_X12_147 dX12_round_5 ?_
  obtain ⟨Q1, ok1, w⟩ := w
  refine G_callS (Z := mX12_in) (As := [.long x1.toInt64, .long (-1000000 : Int64), .long (1000000 : Int64)]) (st := []) hL_X12_82 hT_X12_in hC_X12_in hN_X12 nX12_in (by decide) rfl (Nat.le_of_ble_eq_true rfl) dX12_round_8 ok1 (fun r_ h_1 z_ => ?_)
  obtain ⟨v_1, rfl, q_1⟩ := z_
  have w := w v_1 h_1 q_1
  refine G_if_eq (tgt := 40) dX12_round_11 (by decide) (fun c1 => ?_) (fun c1 => ?_)
  · have w := w.1 c1
    refine G_ldc2 hK_X12_153 dX12_round_40 ?_
    exact G_lret rfl dX12_round_43 ⟨_, rfl, w⟩
  · have w := w.2 c1
    refine G_iload_n 2 rfl dX12_round_14 rfl ?_
    refine G_i2l dX12_round_15 ?_
    refine G_lconst (v := 1) dX12_round_16 (by decide) ?_
    refine G_ldc2 hK_X12_147 dX12_round_17 ?_
    obtain ⟨Q2, ok2, w⟩ := w
    refine G_callS (Z := mX12_in) (As := [.long x2.toInt64, .long (1 : Int64), .long (1000000 : Int64)]) (st := []) hL_X12_82 hT_X12_in hC_X12_in hN_X12 nX12_in (by decide) rfl (Nat.le_of_ble_eq_true rfl) dX12_round_20 ok2 (fun r_ h_2 z_ => ?_)
    obtain ⟨v_2, rfl, q_2⟩ := z_
    have w := w v_2 h_2 q_2
    refine G_if_eq (tgt := 40) dX12_round_23 (by decide) (fun c2 => ?_) (fun c2 => ?_)
    · have w := w.1 c2
      refine G_ldc2 hK_X12_153 dX12_round_40 ?_
      exact G_lret rfl dX12_round_43 ⟨_, rfl, w⟩
    · have w := w.2 c2
      refine G_iload_n 3 rfl dX12_round_26 rfl ?_
      refine G_i2l dX12_round_27 ?_
      refine G_ldc2 hK_X12_149 dX12_round_28 ?_
      refine G_ldc2 hK_X12_151 dX12_round_31 ?_
      obtain ⟨Q3, ok3, w⟩ := w
      refine G_callS (Z := mX12_in) (As := [.long x3.toInt64, .long (-9 : Int64), .long (9 : Int64)]) (st := []) hL_X12_82 hT_X12_in hC_X12_in hN_X12 nX12_in (by decide) rfl (Nat.le_of_ble_eq_true rfl) dX12_round_34 ok3 (fun r_ h_3 z_ => ?_)
      obtain ⟨v_3, rfl, q_3⟩ := z_
      have w := w v_3 h_3 q_3
      refine G_if_ne (tgt := 44) dX12_round_37 (by decide) (fun c3 => ?_) (fun c3 => ?_)
      · have w := w.1 c3
        refine G_aload_n 0 rfl dX12_round_44 rfl ?_
        refine G_iload_n 1 rfl dX12_round_45 rfl ?_
        refine G_if_ge (tgt := 53) dX12_round_46 (by decide) (fun c4 => ?_) (fun c4 => ?_)
        · have w := w.1 c4
          refine G_iconst (v := 0) dX12_round_53 (by decide) ?_
          refine G_iload_n 1 rfl dX12_round_54 rfl ?_
          refine G_i2l dX12_round_55 ?_
          obtain ⟨Q4, ok4, w⟩ := w
          refine G_callS (Z := mX12_size) (As := [.long x1.toInt64]) (st := [.int (0 : Int32), .ref r0]) hL_X12_98 hT_X12_size hC_X12_size hN_X12 nX12_size (by decide) rfl (Nat.le_of_ble_eq_true rfl) dX12_round_56 ok4 (fun r_ h_4 z_ => ?_)
          obtain ⟨v_4, rfl, q_4⟩ := z_
          have w := w v_4 h_4 q_4
          refine G_iload_n 2 rfl dX12_round_59 rfl ?_
          refine G_i2l dX12_round_60 ?_
          refine G_iload_n 3 rfl dX12_round_61 rfl ?_
          refine G_aload_n 0 rfl dX12_round_62 rfl ?_
          refine G_geti (k := 1) hs1 (q := (RX12, TX12, 40)) rfl inX12 (by decide) (Or.inl rfl) hF_X12_142 dX12_round_63 ?_
          refine G_iconst (v := 0) dX12_round_66 (by decide) ?_
          obtain ⟨Q5, ok5, w⟩ := w
          refine G_callV (Z := mX12_rounded) (As := [.int (0 : Int32), .long v_4, .long x2.toInt64, .int x3, .int (h_4.1 r0 1), .int (0 : Int32)]) (st := []) hL_X12_102 hI_X12_rounded hS_X12_rounded hC_X12_rounded hN_X12 nX12_rounded (by decide) hs1 rfl rfl rfl (Nat.le_of_ble_eq_true rfl) dX12_round_67 ok5 (fun r_ h_5 z_ => ?_)
          obtain ⟨v_5, rfl, q_5⟩ := z_
          have w := w v_5 h_5 q_5
          exact G_lret rfl dX12_round_70 ⟨_, rfl, w⟩
        · have w := w.2 c4
          refine G_iconst (v := 1) dX12_round_49 (by decide) ?_
          refine G_goto (tgt := 54) dX12_round_50 (by decide) ?_
          refine G_iload_n 1 rfl dX12_round_54 rfl ?_
          refine G_i2l dX12_round_55 ?_
          obtain ⟨Q6, ok6, w⟩ := w
          refine G_callS (Z := mX12_size) (As := [.long x1.toInt64]) (st := [.int (1 : Int32), .ref r0]) hL_X12_98 hT_X12_size hC_X12_size hN_X12 nX12_size (by decide) rfl (Nat.le_of_ble_eq_true rfl) dX12_round_56 ok6 (fun r_ h_6 z_ => ?_)
          obtain ⟨v_6, rfl, q_6⟩ := z_
          have w := w v_6 h_6 q_6
          refine G_iload_n 2 rfl dX12_round_59 rfl ?_
          refine G_i2l dX12_round_60 ?_
          refine G_iload_n 3 rfl dX12_round_61 rfl ?_
          refine G_aload_n 0 rfl dX12_round_62 rfl ?_
          refine G_geti (k := 1) hs1 (q := (RX12, TX12, 40)) rfl inX12 (by decide) (Or.inl rfl) hF_X12_142 dX12_round_63 ?_
          refine G_iconst (v := 0) dX12_round_66 (by decide) ?_
          obtain ⟨Q7, ok7, w⟩ := w
          refine G_callV (Z := mX12_rounded) (As := [.int (1 : Int32), .long v_6, .long x2.toInt64, .int x3, .int (h_6.1 r0 1), .int (0 : Int32)]) (st := []) hL_X12_102 hI_X12_rounded hS_X12_rounded hC_X12_rounded hN_X12 nX12_rounded (by decide) hs1 rfl rfl rfl (Nat.le_of_ble_eq_true rfl) dX12_round_67 ok7 (fun r_ h_7 z_ => ?_)
          obtain ⟨v_7, rfl, q_7⟩ := z_
          have w := w v_7 h_7 q_7
          exact G_lret rfl dX12_round_70 ⟨_, rfl, w⟩
      · have w := w.2 c3
        refine G_ldc2 hK_X12_153 dX12_round_40 ?_
        exact G_lret rfl dX12_round_43 ⟨_, rfl, w⟩
-- LostDigitsModel.say
theorem dX12_say_0 : decode cX12_say 0 = .ok (.iload_n 1, 1) := by decide +kernel
theorem dX12_say_1 : decode cX12_say 1 = .ok (.i2l, 1) := by decide +kernel
theorem dX12_say_2 : decode cX12_say 2 = .ok (.ldc2_w 155, 3) := by decide +kernel
theorem dX12_say_5 : decode cX12_say 5 = .ok (.ldc2_w 157, 3) := by decide +kernel
theorem dX12_say_8 : decode cX12_say 8 = .ok (.invokestatic 82, 3) := by decide +kernel
theorem dX12_say_11 : decode cX12_say 11 = .ok (.ifCond .ne 6, 3) := by decide +kernel
theorem dX12_say_14 : decode cX12_say 14 = .ok (.bipush (-2), 2) := by decide +kernel
theorem dX12_say_16 : decode cX12_say 16 = .ok (.ireturn, 1) := by decide +kernel
theorem dX12_say_17 : decode cX12_say 17 = .ok (.aload_n 0, 1) := by decide +kernel
theorem dX12_say_18 : decode cX12_say 18 = .ok (.getfield 159, 3) := by decide +kernel
theorem dX12_say_21 : decode cX12_say 21 = .ok (.bipush 20, 2) := by decide +kernel
theorem dX12_say_23 : decode cX12_say 23 = .ok (.if_icmp .ne 6, 3) := by decide +kernel
theorem dX12_say_26 : decode cX12_say 26 = .ok (.bipush (-4), 2) := by decide +kernel
theorem dX12_say_28 : decode cX12_say 28 = .ok (.ireturn, 1) := by decide +kernel
theorem dX12_say_29 : decode cX12_say 29 = .ok (.aload_n 0, 1) := by decide +kernel
theorem dX12_say_30 : decode cX12_say 30 = .ok (.getfield 7, 3) := by decide +kernel
theorem dX12_say_33 : decode cX12_say 33 = .ok (.aload_n 0, 1) := by decide +kernel
theorem dX12_say_34 : decode cX12_say 34 = .ok (.getfield 159, 3) := by decide +kernel
theorem dX12_say_37 : decode cX12_say 37 = .ok (.iload_n 1, 1) := by decide +kernel
theorem dX12_say_38 : decode cX12_say 38 = .ok (.iastore, 1) := by decide +kernel
theorem dX12_say_39 : decode cX12_say 39 = .ok (.aload_n 0, 1) := by decide +kernel
theorem dX12_say_40 : decode cX12_say 40 = .ok (.dup, 1) := by decide +kernel
theorem dX12_say_41 : decode cX12_say 41 = .ok (.getfield 159, 3) := by decide +kernel
theorem dX12_say_44 : decode cX12_say 44 = .ok (.iconst 1, 1) := by decide +kernel
theorem dX12_say_45 : decode cX12_say 45 = .ok (.iadd, 1) := by decide +kernel
theorem dX12_say_46 : decode cX12_say 46 = .ok (.putfield 159, 3) := by decide +kernel
theorem dX12_say_49 : decode cX12_say 49 = .ok (.aload_n 0, 1) := by decide +kernel
theorem dX12_say_50 : decode cX12_say 50 = .ok (.getfield 159, 3) := by decide +kernel
theorem dX12_say_53 : decode cX12_say 53 = .ok (.ireturn, 1) := by decide +kernel
set_option maxRecDepth 10000 in
theorem NX12_say_0 {d : Nat} {S : fW} {h : fH} {Q : Int32 → fH → Prop} {r0 : Nat} {x1 : Int32} {r0_pad r0_text r0_number r0_span r0_now r0_sizeOf r0_workedTo r0_slip r0_exactUpper r0_exactLower r0_more r0_terms r0_order r0_bestOrder r0_low r0_high r0_built r0_better r0_base r0_kept r0_isKept : Nat}  
    (hs1 : (r0, shX12 r0_pad r0_text r0_number r0_span r0_now r0_sizeOf r0_workedTo r0_slip r0_exactUpper r0_exactLower r0_more r0_terms r0_order r0_bestOrder r0_low r0_high r0_built r0_better r0_base r0_kept r0_isKept) ∈ S)
    (hs2 : (r0_pad, shI 20) ∈ S)
    (w : ∃ Q1 : Int32 → fH → Prop, OkI d mX12_in S [.long x1.toInt64, .long (33 : Int64), .long (126 : Int64)] h Q1 ∧ ∀ (v_1 : Int32) (h_1 : fH), Q1 v_1 h_1 → ((¬ v_1 = 0 → ((¬ (h_1.1 r0 8) = (20 : Int32) → vp_in (h_1.1 r0 8) 20 ∧ ∀ g_1 : fH, g_1 = u_ai h_1 r0_pad (upd (h_1.2.2.1 r0_pad) (h_1.1 r0 8).toNatClampNeg x1) → ∀ g_2 : fH, g_2 = u_fi g_1 r0 8 ((g_1.1 r0 8) + (1 : Int32)) → Q (g_2.1 r0 8) g_2) ∧ ((h_1.1 r0 8) = (20 : Int32) → Q (-4 : Int32) h_1))) ∧ (v_1 = 0 → Q (-2 : Int32) h_1))) :
    OkI (d + 1) mX12_say S [.ref r0, .int x1] h Q := by
  refine Ok.of (by decide) (Nat.le_of_ble_eq_true rfl) ?_
  refine G_iload_n 1 rfl dX12_say_0 rfl ?_
  refine G_i2l dX12_say_1 ?_
  refine G_ldc2 hK_X12_155 dX12_say_2 ?_
  refine G_ldc2 hK_X12_157 dX12_say_5 ?_
  obtain ⟨Q1, ok1, w⟩ := w
  refine G_callS (Z := mX12_in) (As := [.long x1.toInt64, .long (33 : Int64), .long (126 : Int64)]) (st := []) hL_X12_82 hT_X12_in hC_X12_in hN_X12 nX12_in (by decide) rfl (Nat.le_of_ble_eq_true rfl) dX12_say_8 ok1 (fun r_ h_1 z_ => ?_)
  obtain ⟨v_1, rfl, q_1⟩ := z_
  have w := w v_1 h_1 q_1
  refine G_if_ne (tgt := 17) dX12_say_11 (by decide) (fun c1 => ?_) (fun c1 => ?_)
  · have w := w.1 c1
    refine G_aload_n 0 rfl dX12_say_17 rfl ?_
    refine G_geti (k := 8) hs1 (q := (RX12, TX12, 40)) rfl inX12 (by decide) (Or.inl rfl) hF_X12_159 dX12_say_18 ?_
    refine G_bipush (v := 20) dX12_say_21 (by decide) ?_
    refine G_icmp_ne (tgt := 29) dX12_say_23 (by decide) (fun c2 => ?_) (fun c2 => ?_)
    · have w := w.1 c2
      refine G_aload_n 0 rfl dX12_say_29 rfl ?_
      refine G_getr (j := r0_pad) (k := 7) hs1 (q := (RX12, TX12, 40)) rfl inX12 (by decide) rfl hF_X12_7 dX12_say_30 ?_
      refine G_aload_n 0 rfl dX12_say_33 rfl ?_
      refine G_geti (k := 8) hs1 (q := (RX12, TX12, 40)) rfl inX12 (by decide) (Or.inl rfl) hF_X12_159 dX12_say_34 ?_
      refine G_iload_n 1 rfl dX12_say_37 rfl ?_
      obtain ⟨sd1, w⟩ := w
      refine G_iast hs2 sd1 dX12_say_38 ?_
      refine G_nm (fun g_1 e_1 => ?_)
      have w := w g_1 e_1
      refine G_aload_n 0 rfl dX12_say_39 rfl ?_
      refine G_dup dX12_say_40 rfl ?_
      refine G_geti (k := 8) hs1 (q := (RX12, TX12, 40)) rfl inX12 (by decide) (Or.inl rfl) hF_X12_159 dX12_say_41 ?_
      refine G_iconst (v := 1) dX12_say_44 (by decide) ?_
      refine G_iadd dX12_say_45 ?_
      refine G_puti (k := 8) tyX12 hs1 (q := (RX12, TX12, 40)) rfl inX12 tyX12_ok nmX12 (by decide) rfl rfl rfl hF_X12_159 dX12_say_46 ?_
      refine G_nm (fun g_2 e_2 => ?_)
      have w := w g_2 e_2
      refine G_aload_n 0 rfl dX12_say_49 rfl ?_
      refine G_geti (k := 8) hs1 (q := (RX12, TX12, 40)) rfl inX12 (by decide) (Or.inl rfl) hF_X12_159 dX12_say_50 ?_
      exact G_iret rfl dX12_say_53 ⟨_, rfl, w⟩
    · have w := w.2 c2
      refine G_bipush (v := -4) dX12_say_26 (by decide) ?_
      exact G_iret rfl dX12_say_28 ⟨_, rfl, w⟩
  · have w := w.2 c1
    refine G_bipush (v := -2) dX12_say_14 (by decide) ?_
    exact G_iret rfl dX12_say_16 ⟨_, rfl, w⟩
-- LostDigitsModel.wipe
theorem dX12_wipe_0 : decode cX12_wipe 0 = .ok (.aload_n 0, 1) := by decide +kernel
theorem dX12_wipe_1 : decode cX12_wipe 1 = .ok (.getfield 159, 3) := by decide +kernel
theorem dX12_wipe_4 : decode cX12_wipe 4 = .ok (.istore_n 1, 1) := by decide +kernel
theorem dX12_wipe_5 : decode cX12_wipe 5 = .ok (.aload_n 0, 1) := by decide +kernel
theorem dX12_wipe_6 : decode cX12_wipe 6 = .ok (.iconst 0, 1) := by decide +kernel
theorem dX12_wipe_7 : decode cX12_wipe 7 = .ok (.putfield 159, 3) := by decide +kernel
theorem dX12_wipe_10 : decode cX12_wipe 10 = .ok (.iload_n 1, 1) := by decide +kernel
theorem dX12_wipe_11 : decode cX12_wipe 11 = .ok (.ireturn, 1) := by decide +kernel
set_option maxRecDepth 10000 in
theorem NX12_wipe_0 {d : Nat} {S : fW} {h : fH} {Q : Int32 → fH → Prop} {r0 : Nat} {r0_pad r0_text r0_number r0_span r0_now r0_sizeOf r0_workedTo r0_slip r0_exactUpper r0_exactLower r0_more r0_terms r0_order r0_bestOrder r0_low r0_high r0_built r0_better r0_base r0_kept r0_isKept : Nat}  
    (hs1 : (r0, shX12 r0_pad r0_text r0_number r0_span r0_now r0_sizeOf r0_workedTo r0_slip r0_exactUpper r0_exactLower r0_more r0_terms r0_order r0_bestOrder r0_low r0_high r0_built r0_better r0_base r0_kept r0_isKept) ∈ S)
    (w : ∀ g_1 : fH, g_1 = u_fi h r0 8 (0 : Int32) → Q (h.1 r0 8) g_1) :
    OkI d mX12_wipe S [.ref r0] h Q := by
  refine Ok.of (by decide) (Nat.le_of_ble_eq_true rfl) ?_
  refine G_aload_n 0 rfl dX12_wipe_0 rfl ?_
  refine G_geti (k := 8) hs1 (q := (RX12, TX12, 40)) rfl inX12 (by decide) (Or.inl rfl) hF_X12_159 dX12_wipe_1 ?_
  refine G_istore_n dX12_wipe_4 rfl (by decide) (lv' := [(1, .int (h.1 r0 8)), (0, .ref r0)]) rfl ?_
  refine G_aload_n 1 rfl dX12_wipe_5 rfl ?_
  refine G_iconst (v := 0) dX12_wipe_6 (by decide) ?_
  refine G_puti (k := 8) tyX12 hs1 (q := (RX12, TX12, 40)) rfl inX12 tyX12_ok nmX12 (by decide) rfl rfl rfl hF_X12_159 dX12_wipe_7 ?_
  refine G_nm (fun g_1 e_1 => ?_)
  have w := w g_1 e_1
  refine G_iload_n 0 rfl dX12_wipe_10 rfl ?_
  exact G_iret rfl dX12_wipe_11 ⟨_, rfl, w⟩

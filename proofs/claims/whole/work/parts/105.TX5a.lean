-- LostDigits$Rules.suits
theorem dX5_suits_0 : decode cX5_suits 0 = .ok (.aload_n 0, 1) := by decide +kernel
theorem dX5_suits_1 : decode cX5_suits 1 = .ok (.iload_n 2, 1) := by decide +kernel
theorem dX5_suits_2 : decode cX5_suits 2 = .ok (.invokevirtual 9, 3) := by decide +kernel
theorem dX5_suits_5 : decode cX5_suits 5 = .ok (.istore_n 3, 1) := by decide +kernel
theorem dX5_suits_6 : decode cX5_suits 6 = .ok (.aload_n 0, 1) := by decide +kernel
theorem dX5_suits_7 : decode cX5_suits 7 = .ok (.iload_n 2, 1) := by decide +kernel
theorem dX5_suits_8 : decode cX5_suits 8 = .ok (.iconst 1, 1) := by decide +kernel
theorem dX5_suits_9 : decode cX5_suits 9 = .ok (.iadd, 1) := by decide +kernel
theorem dX5_suits_10 : decode cX5_suits 10 = .ok (.invokevirtual 9, 3) := by decide +kernel
theorem dX5_suits_13 : decode cX5_suits 13 = .ok (.istore 4, 2) := by decide +kernel
theorem dX5_suits_15 : decode cX5_suits 15 = .ok (.aload_n 0, 1) := by decide +kernel
theorem dX5_suits_16 : decode cX5_suits 16 = .ok (.aload_n 0, 1) := by decide +kernel
theorem dX5_suits_17 : decode cX5_suits 17 = .ok (.iload_n 2, 1) := by decide +kernel
theorem dX5_suits_18 : decode cX5_suits 18 = .ok (.invokevirtual 15, 3) := by decide +kernel
theorem dX5_suits_21 : decode cX5_suits 21 = .ok (.invokevirtual 9, 3) := by decide +kernel
theorem dX5_suits_24 : decode cX5_suits 24 = .ok (.istore 5, 2) := by decide +kernel
theorem dX5_suits_26 : decode cX5_suits 26 = .ok (.iload_n 3, 1) := by decide +kernel
theorem dX5_suits_27 : decode cX5_suits 27 = .ok (.bipush 43, 2) := by decide +kernel
theorem dX5_suits_29 : decode cX5_suits 29 = .ok (.if_icmp .eq 9, 3) := by decide +kernel
theorem dX5_suits_32 : decode cX5_suits 32 = .ok (.iload_n 3, 1) := by decide +kernel
theorem dX5_suits_33 : decode cX5_suits 33 = .ok (.bipush 42, 2) := by decide +kernel
theorem dX5_suits_35 : decode cX5_suits 35 = .ok (.if_icmp .ne 7, 3) := by decide +kernel
theorem dX5_suits_38 : decode cX5_suits 38 = .ok (.iconst 1, 1) := by decide +kernel
theorem dX5_suits_39 : decode cX5_suits 39 = .ok (.goto 4, 3) := by decide +kernel
theorem dX5_suits_42 : decode cX5_suits 42 = .ok (.iconst 0, 1) := by decide +kernel
theorem dX5_suits_43 : decode cX5_suits 43 = .ok (.istore 6, 2) := by decide +kernel
theorem dX5_suits_45 : decode cX5_suits 45 = .ok (.iload_n 3, 1) := by decide +kernel
theorem dX5_suits_46 : decode cX5_suits 46 = .ok (.bipush 43, 2) := by decide +kernel
theorem dX5_suits_48 : decode cX5_suits 48 = .ok (.if_icmp .eq 9, 3) := by decide +kernel
theorem dX5_suits_51 : decode cX5_suits 51 = .ok (.iload_n 3, 1) := by decide +kernel
theorem dX5_suits_52 : decode cX5_suits 52 = .ok (.bipush 45, 2) := by decide +kernel
theorem dX5_suits_54 : decode cX5_suits 54 = .ok (.if_icmp .ne 7, 3) := by decide +kernel
theorem dX5_suits_57 : decode cX5_suits 57 = .ok (.iconst 1, 1) := by decide +kernel
theorem dX5_suits_58 : decode cX5_suits 58 = .ok (.goto 4, 3) := by decide +kernel
theorem dX5_suits_61 : decode cX5_suits 61 = .ok (.iconst 0, 1) := by decide +kernel
theorem dX5_suits_62 : decode cX5_suits 62 = .ok (.istore 7, 2) := by decide +kernel
theorem dX5_suits_64 : decode cX5_suits 64 = .ok (.iload_n 1, 1) := by decide +kernel
theorem dX5_suits_65 : decode cX5_suits 65 = .ok (.tableswitch 202 0 6 #[43, 46, 63, 97, 130, 164, 183], 43) := by decide +kernel
theorem dX5_suits_108 : decode cX5_suits 108 = .ok (.iload 6, 2) := by decide +kernel
theorem dX5_suits_110 : decode cX5_suits 110 = .ok (.ireturn, 1) := by decide +kernel
theorem dX5_suits_111 : decode cX5_suits 111 = .ok (.iload 6, 2) := by decide +kernel
theorem dX5_suits_113 : decode cX5_suits 113 = .ok (.ifCond .eq 13, 3) := by decide +kernel
theorem dX5_suits_116 : decode cX5_suits 116 = .ok (.iload 4, 2) := by decide +kernel
theorem dX5_suits_118 : decode cX5_suits 118 = .ok (.iload_n 3, 1) := by decide +kernel
theorem dX5_suits_119 : decode cX5_suits 119 = .ok (.if_icmp .ne 7, 3) := by decide +kernel
theorem dX5_suits_122 : decode cX5_suits 122 = .ok (.iconst 1, 1) := by decide +kernel
theorem dX5_suits_123 : decode cX5_suits 123 = .ok (.goto 4, 3) := by decide +kernel
theorem dX5_suits_126 : decode cX5_suits 126 = .ok (.iconst 0, 1) := by decide +kernel
theorem dX5_suits_127 : decode cX5_suits 127 = .ok (.ireturn, 1) := by decide +kernel
theorem dX5_suits_128 : decode cX5_suits 128 = .ok (.iload_n 3, 1) := by decide +kernel
theorem dX5_suits_129 : decode cX5_suits 129 = .ok (.bipush 42, 2) := by decide +kernel
theorem dX5_suits_131 : decode cX5_suits 131 = .ok (.if_icmp .ne 29, 3) := by decide +kernel
theorem dX5_suits_134 : decode cX5_suits 134 = .ok (.iload 5, 2) := by decide +kernel
theorem dX5_suits_136 : decode cX5_suits 136 = .ok (.bipush 43, 2) := by decide +kernel
theorem dX5_suits_138 : decode cX5_suits 138 = .ok (.if_icmp .eq 10, 3) := by decide +kernel
theorem dX5_suits_141 : decode cX5_suits 141 = .ok (.iload 5, 2) := by decide +kernel
theorem dX5_suits_143 : decode cX5_suits 143 = .ok (.bipush 45, 2) := by decide +kernel
theorem dX5_suits_145 : decode cX5_suits 145 = .ok (.if_icmp .ne 15, 3) := by decide +kernel
theorem dX5_suits_148 : decode cX5_suits 148 = .ok (.aload_n 0, 1) := by decide +kernel
theorem dX5_suits_149 : decode cX5_suits 149 = .ok (.iload_n 2, 1) := by decide +kernel
theorem dX5_suits_150 : decode cX5_suits 150 = .ok (.invokestatic 18, 3) := by decide +kernel
theorem dX5_suits_153 : decode cX5_suits 153 = .ok (.ifCond .eq 7, 3) := by decide +kernel
theorem dX5_suits_156 : decode cX5_suits 156 = .ok (.iconst 1, 1) := by decide +kernel
theorem dX5_suits_157 : decode cX5_suits 157 = .ok (.goto 4, 3) := by decide +kernel
theorem dX5_suits_160 : decode cX5_suits 160 = .ok (.iconst 0, 1) := by decide +kernel
theorem dX5_suits_161 : decode cX5_suits 161 = .ok (.ireturn, 1) := by decide +kernel
theorem dX5_suits_162 : decode cX5_suits 162 = .ok (.iload 7, 2) := by decide +kernel
theorem dX5_suits_164 : decode cX5_suits 164 = .ok (.ifCond .eq 29, 3) := by decide +kernel
theorem dX5_suits_167 : decode cX5_suits 167 = .ok (.iload 4, 2) := by decide +kernel
theorem dX5_suits_169 : decode cX5_suits 169 = .ok (.bipush 42, 2) := by decide +kernel
theorem dX5_suits_171 : decode cX5_suits 171 = .ok (.if_icmp .ne 22, 3) := by decide +kernel
theorem dX5_suits_174 : decode cX5_suits 174 = .ok (.iload 5, 2) := by decide +kernel
theorem dX5_suits_176 : decode cX5_suits 176 = .ok (.bipush 42, 2) := by decide +kernel
theorem dX5_suits_178 : decode cX5_suits 178 = .ok (.if_icmp .ne 15, 3) := by decide +kernel
theorem dX5_suits_181 : decode cX5_suits 181 = .ok (.aload_n 0, 1) := by decide +kernel
theorem dX5_suits_182 : decode cX5_suits 182 = .ok (.iload_n 2, 1) := by decide +kernel
theorem dX5_suits_183 : decode cX5_suits 183 = .ok (.invokestatic 24, 3) := by decide +kernel
theorem dX5_suits_186 : decode cX5_suits 186 = .ok (.ifCond .eq 7, 3) := by decide +kernel
theorem dX5_suits_189 : decode cX5_suits 189 = .ok (.iconst 1, 1) := by decide +kernel
theorem dX5_suits_190 : decode cX5_suits 190 = .ok (.goto 4, 3) := by decide +kernel
theorem dX5_suits_193 : decode cX5_suits 193 = .ok (.iconst 0, 1) := by decide +kernel
theorem dX5_suits_194 : decode cX5_suits 194 = .ok (.ireturn, 1) := by decide +kernel
theorem dX5_suits_195 : decode cX5_suits 195 = .ok (.iload_n 3, 1) := by decide +kernel
theorem dX5_suits_196 : decode cX5_suits 196 = .ok (.bipush 45, 2) := by decide +kernel
theorem dX5_suits_198 : decode cX5_suits 198 = .ok (.if_icmp .ne 29, 3) := by decide +kernel
theorem dX5_suits_201 : decode cX5_suits 201 = .ok (.iload 4, 2) := by decide +kernel
theorem dX5_suits_203 : decode cX5_suits 203 = .ok (.bipush 42, 2) := by decide +kernel
theorem dX5_suits_205 : decode cX5_suits 205 = .ok (.if_icmp .ne 22, 3) := by decide +kernel
theorem dX5_suits_208 : decode cX5_suits 208 = .ok (.iload 5, 2) := by decide +kernel
theorem dX5_suits_210 : decode cX5_suits 210 = .ok (.bipush 42, 2) := by decide +kernel
theorem dX5_suits_212 : decode cX5_suits 212 = .ok (.if_icmp .ne 15, 3) := by decide +kernel
theorem dX5_suits_215 : decode cX5_suits 215 = .ok (.aload_n 0, 1) := by decide +kernel
theorem dX5_suits_216 : decode cX5_suits 216 = .ok (.iload_n 2, 1) := by decide +kernel
theorem dX5_suits_217 : decode cX5_suits 217 = .ok (.invokestatic 27, 3) := by decide +kernel
theorem dX5_suits_220 : decode cX5_suits 220 = .ok (.ifCond .eq 7, 3) := by decide +kernel
theorem dX5_suits_223 : decode cX5_suits 223 = .ok (.iconst 1, 1) := by decide +kernel
theorem dX5_suits_224 : decode cX5_suits 224 = .ok (.goto 4, 3) := by decide +kernel
theorem dX5_suits_227 : decode cX5_suits 227 = .ok (.iconst 0, 1) := by decide +kernel
theorem dX5_suits_228 : decode cX5_suits 228 = .ok (.ireturn, 1) := by decide +kernel
theorem dX5_suits_229 : decode cX5_suits 229 = .ok (.iload_n 3, 1) := by decide +kernel
theorem dX5_suits_230 : decode cX5_suits 230 = .ok (.bipush 45, 2) := by decide +kernel
theorem dX5_suits_232 : decode cX5_suits 232 = .ok (.if_icmp .ne 14, 3) := by decide +kernel
theorem dX5_suits_235 : decode cX5_suits 235 = .ok (.iload 4, 2) := by decide +kernel
theorem dX5_suits_237 : decode cX5_suits 237 = .ok (.bipush 45, 2) := by decide +kernel
theorem dX5_suits_239 : decode cX5_suits 239 = .ok (.if_icmp .ne 7, 3) := by decide +kernel
theorem dX5_suits_242 : decode cX5_suits 242 = .ok (.iconst 1, 1) := by decide +kernel
theorem dX5_suits_243 : decode cX5_suits 243 = .ok (.goto 4, 3) := by decide +kernel
theorem dX5_suits_246 : decode cX5_suits 246 = .ok (.iconst 0, 1) := by decide +kernel
theorem dX5_suits_247 : decode cX5_suits 247 = .ok (.ireturn, 1) := by decide +kernel
theorem dX5_suits_248 : decode cX5_suits 248 = .ok (.iload_n 3, 1) := by decide +kernel
theorem dX5_suits_249 : decode cX5_suits 249 = .ok (.bipush 47, 2) := by decide +kernel
theorem dX5_suits_251 : decode cX5_suits 251 = .ok (.if_icmp .ne 14, 3) := by decide +kernel
theorem dX5_suits_254 : decode cX5_suits 254 = .ok (.iload 5, 2) := by decide +kernel
theorem dX5_suits_256 : decode cX5_suits 256 = .ok (.bipush 47, 2) := by decide +kernel
theorem dX5_suits_258 : decode cX5_suits 258 = .ok (.if_icmp .ne 7, 3) := by decide +kernel
theorem dX5_suits_261 : decode cX5_suits 261 = .ok (.iconst 1, 1) := by decide +kernel
theorem dX5_suits_262 : decode cX5_suits 262 = .ok (.goto 4, 3) := by decide +kernel
theorem dX5_suits_265 : decode cX5_suits 265 = .ok (.iconst 0, 1) := by decide +kernel
theorem dX5_suits_266 : decode cX5_suits 266 = .ok (.ireturn, 1) := by decide +kernel
theorem dX5_suits_267 : decode cX5_suits 267 = .ok (.iconst 0, 1) := by decide +kernel
theorem dX5_suits_268 : decode cX5_suits 268 = .ok (.ireturn, 1) := by decide +kernel
set_option maxRecDepth 10000 in
theorem NX5_suits_0 {d : Nat} {S : fW} {h : fH} {Q : Int32 → fH → Prop} {r0 : Nat} {x1 : Int32} {x2 : Int32} {r0_signs r0_ends r0_letters : Nat}  
    (hs1 : (r0, shX10 r0_signs r0_ends r0_letters) ∈ S)
    (w : ∃ Q1 : Int32 → fH → Prop, OkI d mX10_signAt S [.ref r0, .int x2] h Q1 ∧ ∀ (v_1 : Int32) (h_1 : fH), Q1 v_1 h_1 → ∃ Q2 : Int32 → fH → Prop, OkI d mX10_signAt S [.ref r0, .int (x2 + (1 : Int32))] h_1 Q2 ∧ ∀ (v_2 : Int32) (h_2 : fH), Q2 v_2 h_2 → ∃ Q3 : Int32 → fH → Prop, OkI d mX10_secondOf S [.ref r0, .int x2] h_2 Q3 ∧ ∀ (v_3 : Int32) (h_3 : fH), Q3 v_3 h_3 → ∃ Q4 : Int32 → fH → Prop, OkI d mX10_signAt S [.ref r0, .int v_3] h_3 Q4 ∧ ∀ (v_4 : Int32) (h_4 : fH), Q4 v_4 h_4 → ((v_1 = (43 : Int32) → G mX5_suits (d + 1) S (f_PI Q) 62 [(0, .ref r0), (1, .int x1), (2, .int x2), (3, .int v_1), (4, .int v_2), (5, .int v_4), (6, .int (1 : Int32))] [.int (1 : Int32)] h_4) ∧ (¬ v_1 = (43 : Int32) → ((¬ v_1 = (42 : Int32) → ((¬ v_1 = (45 : Int32) → G mX5_suits (d + 1) S (f_PI Q) 62 [(0, .ref r0), (1, .int x1), (2, .int x2), (3, .int v_1), (4, .int v_2), (5, .int v_4), (6, .int (0 : Int32))] [.int (0 : Int32)] h_4) ∧ (v_1 = (45 : Int32) → G mX5_suits (d + 1) S (f_PI Q) 62 [(0, .ref r0), (1, .int x1), (2, .int x2), (3, .int v_1), (4, .int v_2), (5, .int v_4), (6, .int (0 : Int32))] [.int (1 : Int32)] h_4))) ∧ (v_1 = (42 : Int32) → ((¬ v_1 = (45 : Int32) → G mX5_suits (d + 1) S (f_PI Q) 62 [(0, .ref r0), (1, .int x1), (2, .int x2), (3, .int v_1), (4, .int v_2), (5, .int v_4), (6, .int (1 : Int32))] [.int (0 : Int32)] h_4) ∧ (v_1 = (45 : Int32) → G mX5_suits (d + 1) S (f_PI Q) 62 [(0, .ref r0), (1, .int x1), (2, .int x2), (3, .int v_1), (4, .int v_2), (5, .int v_4), (6, .int (1 : Int32))] [.int (1 : Int32)] h_4))))))) :
    OkI (d + 1) mX5_suits S [.ref r0, .int x1, .int x2] h Q := by
  refine Ok.of (by decide) (Nat.le_of_ble_eq_true rfl) ?_
  refine G_aload_n 0 rfl dX5_suits_0 rfl ?_
  refine G_iload_n 2 rfl dX5_suits_1 rfl ?_
  obtain ⟨Q1, ok1, w⟩ := w
  refine G_callV (Z := mX10_signAt) (As := [.int x2]) (st := []) hL_X5_9 hI_X10_signAt hS_X10_signAt hC_X10_signAt hN_X10 nX10_signAt (by decide) hs1 rfl rfl rfl (Nat.le_of_ble_eq_true rfl) dX5_suits_2 ok1 (fun r_ h_1 z_ => ?_)
  obtain ⟨v_1, rfl, q_1⟩ := z_
  have w := w v_1 h_1 q_1
  refine G_istore_n dX5_suits_5 rfl (by decide) (lv' := [(3, .int v_1), (0, .ref r0), (1, .int x1), (2, .int x2)]) rfl ?_
  refine G_aload_n 1 rfl dX5_suits_6 rfl ?_
  refine G_iload_n 3 rfl dX5_suits_7 rfl ?_
  refine G_iconst (v := 1) dX5_suits_8 (by decide) ?_
  refine G_iadd dX5_suits_9 ?_
  obtain ⟨Q2, ok2, w⟩ := w
  refine G_callV (Z := mX10_signAt) (As := [.int (x2 + (1 : Int32))]) (st := []) hL_X5_9 hI_X10_signAt hS_X10_signAt hC_X10_signAt hN_X10 nX10_signAt (by decide) hs1 rfl rfl rfl (Nat.le_of_ble_eq_true rfl) dX5_suits_10 ok2 (fun r_ h_2 z_ => ?_)
  obtain ⟨v_2, rfl, q_2⟩ := z_
  have w := w v_2 h_2 q_2
  refine G_istore dX5_suits_13 (by decide) (lv' := [(4, .int v_2), (3, .int v_1), (0, .ref r0), (1, .int x1), (2, .int x2)]) rfl ?_
  refine G_aload_n 2 rfl dX5_suits_15 rfl ?_
  refine G_aload_n 2 rfl dX5_suits_16 rfl ?_
  refine G_iload_n 4 rfl dX5_suits_17 rfl ?_
  obtain ⟨Q3, ok3, w⟩ := w
  refine G_callV (Z := mX10_secondOf) (As := [.int x2]) (st := [.ref r0]) hL_X5_15 hI_X10_secondOf hS_X10_secondOf hC_X10_secondOf hN_X10 nX10_secondOf (by decide) hs1 rfl rfl rfl (Nat.le_of_ble_eq_true rfl) dX5_suits_18 ok3 (fun r_ h_3 z_ => ?_)
  obtain ⟨v_3, rfl, q_3⟩ := z_
  have w := w v_3 h_3 q_3
  obtain ⟨Q4, ok4, w⟩ := w
  refine G_callV (Z := mX10_signAt) (As := [.int v_3]) (st := []) hL_X5_9 hI_X10_signAt hS_X10_signAt hC_X10_signAt hN_X10 nX10_signAt (by decide) hs1 rfl rfl rfl (Nat.le_of_ble_eq_true rfl) dX5_suits_21 ok4 (fun r_ h_4 z_ => ?_)
  obtain ⟨v_4, rfl, q_4⟩ := z_
  have w := w v_4 h_4 q_4
  refine G_istore dX5_suits_24 (by decide) (lv' := [(5, .int v_4), (4, .int v_2), (3, .int v_1), (0, .ref r0), (1, .int x1), (2, .int x2)]) rfl ?_
  refine G_iload_n 2 rfl dX5_suits_26 rfl ?_
  refine G_bipush (v := 43) dX5_suits_27 (by decide) ?_
  refine G_icmp_eq (tgt := 38) dX5_suits_29 (by decide) (fun c1 => ?_) (fun c1 => ?_)
  · have w := w.1 c1
    refine G_iconst (v := 1) dX5_suits_38 (by decide) ?_
    refine G_goto (tgt := 43) dX5_suits_39 (by decide) ?_
    refine G_istore dX5_suits_43 (by decide) (lv' := [(6, .int (1 : Int32)), (5, .int v_4), (4, .int v_2), (3, .int v_1), (0, .ref r0), (1, .int x1), (2, .int x2)]) rfl ?_
    refine G_iload_n 3 rfl dX5_suits_45 rfl ?_
    refine G_bipush (v := 43) dX5_suits_46 (by decide) ?_
    refine G_icmp_eq (tgt := 57) dX5_suits_48 (by decide) (fun c2 => ?_) (fun c2 => absurd c1 c2)
    refine G_iconst (v := 1) dX5_suits_57 (by decide) ?_
    refine G_goto (tgt := 62) dX5_suits_58 (by decide) ?_
    exact G_sub [4, 5, 6, 3, 2, 1, 0] rfl w
  · have w := w.2 c1
    refine G_iload_n 2 rfl dX5_suits_32 rfl ?_
    refine G_bipush (v := 42) dX5_suits_33 (by decide) ?_
    refine G_icmp_ne (tgt := 42) dX5_suits_35 (by decide) (fun c2 => ?_) (fun c2 => ?_)
    · have w := w.1 c2
      refine G_iconst (v := 0) dX5_suits_42 (by decide) ?_
      refine G_istore dX5_suits_43 (by decide) (lv' := [(6, .int (0 : Int32)), (5, .int v_4), (4, .int v_2), (3, .int v_1), (0, .ref r0), (1, .int x1), (2, .int x2)]) rfl ?_
      refine G_iload_n 3 rfl dX5_suits_45 rfl ?_
      refine G_bipush (v := 43) dX5_suits_46 (by decide) ?_
      refine G_icmp_eq (tgt := 57) dX5_suits_48 (by decide) (fun c3 => absurd c3 c1) (fun c3 => ?_)
      refine G_iload_n 3 rfl dX5_suits_51 rfl ?_
      refine G_bipush (v := 45) dX5_suits_52 (by decide) ?_
      refine G_icmp_ne (tgt := 61) dX5_suits_54 (by decide) (fun c3 => ?_) (fun c3 => ?_)
      · have w := w.1 c3
        refine G_iconst (v := 0) dX5_suits_61 (by decide) ?_
        exact G_sub [4, 5, 6, 3, 2, 1, 0] rfl w
      · have w := w.2 c3
        refine G_iconst (v := 1) dX5_suits_57 (by decide) ?_
        refine G_goto (tgt := 62) dX5_suits_58 (by decide) ?_
        exact G_sub [4, 5, 6, 3, 2, 1, 0] rfl w
    · have w := w.2 c2
      refine G_iconst (v := 1) dX5_suits_38 (by decide) ?_
      refine G_goto (tgt := 43) dX5_suits_39 (by decide) ?_
      refine G_istore dX5_suits_43 (by decide) (lv' := [(6, .int (1 : Int32)), (5, .int v_4), (4, .int v_2), (3, .int v_1), (0, .ref r0), (1, .int x1), (2, .int x2)]) rfl ?_
      refine G_iload_n 3 rfl dX5_suits_45 rfl ?_
      refine G_bipush (v := 43) dX5_suits_46 (by decide) ?_
      refine G_icmp_eq (tgt := 57) dX5_suits_48 (by decide) (fun c3 => absurd c3 c1) (fun c3 => ?_)
      refine G_iload_n 3 rfl dX5_suits_51 rfl ?_
      refine G_bipush (v := 45) dX5_suits_52 (by decide) ?_
      refine G_icmp_ne (tgt := 61) dX5_suits_54 (by decide) (fun c3 => ?_) (fun c3 => ?_)
      · have w := w.1 c3
        refine G_iconst (v := 0) dX5_suits_61 (by decide) ?_
        exact G_sub [4, 5, 6, 3, 2, 1, 0] rfl w
      · have w := w.2 c3
        refine G_iconst (v := 1) dX5_suits_57 (by decide) ?_
        refine G_goto (tgt := 62) dX5_suits_58 (by decide) ?_
        exact G_sub [4, 5, 6, 3, 2, 1, 0] rfl w

set_option maxRecDepth 10000 in
theorem NX5_suits_62 {d : Nat} {S : fW} {h : fH} {Q : Int32 → fH → Prop} {r0 : Nat} {x1 : Int32} {x2 : Int32} {x3 : Int32} {x4 : Int32} {x5 : Int32} {x6 : Int32} {s0 : Int32}  
    (w : ((x1 = (0 : Int32) → (x6 = 0 ∨ x6 = 1) ∧ Q x6 h) ∧ (¬ x1 = (0 : Int32) → ((x1 = (1 : Int32) → ((x6 = 0 → Q (0 : Int32) h) ∧ (¬ x6 = 0 → ((¬ x4 = x3 → Q (0 : Int32) h) ∧ (x4 = x3 → Q (1 : Int32) h))))) ∧ (¬ x1 = (1 : Int32) → ((x1 = (2 : Int32) → ((¬ x3 = (42 : Int32) → Q (0 : Int32) h) ∧ (x3 = (42 : Int32) → ((x5 = (43 : Int32) → ∃ Q1 : Int32 → fH → Prop, OkI d mX5_hasRoomToSpread S [.ref r0, .int x2] h Q1 ∧ ∀ (v_1 : Int32) (h_1 : fH), Q1 v_1 h_1 → ((v_1 = 0 → Q (0 : Int32) h_1) ∧ (¬ v_1 = 0 → Q (1 : Int32) h_1))) ∧ (¬ x5 = (43 : Int32) → ((¬ x5 = (45 : Int32) → Q (0 : Int32) h) ∧ (x5 = (45 : Int32) → ∃ Q2 : Int32 → fH → Prop, OkI d mX5_hasRoomToSpread S [.ref r0, .int x2] h Q2 ∧ ∀ (v_2 : Int32) (h_2 : fH), Q2 v_2 h_2 → ((v_2 = 0 → Q (0 : Int32) h_2) ∧ (¬ v_2 = 0 → Q (1 : Int32) h_2))))))))) ∧ (¬ x1 = (2 : Int32) → ((x1 = (3 : Int32) → ((s0 = 0 → Q (0 : Int32) h) ∧ (¬ s0 = 0 → ((¬ x4 = (42 : Int32) → Q (0 : Int32) h) ∧ (x4 = (42 : Int32) → ((¬ x5 = (42 : Int32) → Q (0 : Int32) h) ∧ (x5 = (42 : Int32) → ∃ Q3 : Int32 → fH → Prop, OkI d mX5_sharesFactor S [.ref r0, .int x2] h Q3 ∧ ∀ (v_3 : Int32) (h_3 : fH), Q3 v_3 h_3 → ((v_3 = 0 → Q (0 : Int32) h_3) ∧ (¬ v_3 = 0 → Q (1 : Int32) h_3))))))))) ∧ (¬ x1 = (3 : Int32) → ((x1 = (4 : Int32) → ((¬ x3 = (45 : Int32) → Q (0 : Int32) h) ∧ (x3 = (45 : Int32) → ((¬ x4 = (42 : Int32) → Q (0 : Int32) h) ∧ (x4 = (42 : Int32) → ((¬ x5 = (42 : Int32) → Q (0 : Int32) h) ∧ (x5 = (42 : Int32) → ∃ Q4 : Int32 → fH → Prop, OkI d mX5_isOfSquares S [.ref r0, .int x2] h Q4 ∧ ∀ (v_4 : Int32) (h_4 : fH), Q4 v_4 h_4 → ((v_4 = 0 → Q (0 : Int32) h_4) ∧ (¬ v_4 = 0 → Q (1 : Int32) h_4))))))))) ∧ (¬ x1 = (4 : Int32) → ((x1 = (5 : Int32) → ((¬ x3 = (45 : Int32) → Q (0 : Int32) h) ∧ (x3 = (45 : Int32) → ((¬ x4 = (45 : Int32) → Q (0 : Int32) h) ∧ (x4 = (45 : Int32) → Q (1 : Int32) h))))) ∧ (¬ x1 = (5 : Int32) → ((x1 = (6 : Int32) → ((¬ x3 = (47 : Int32) → Q (0 : Int32) h) ∧ (x3 = (47 : Int32) → ((¬ x5 = (47 : Int32) → Q (0 : Int32) h) ∧ (x5 = (47 : Int32) → Q (1 : Int32) h))))) ∧ (¬ x1 = (6 : Int32) → Q (0 : Int32) h))))))))))))))) :
    G mX5_suits (d + 1) S (f_PI Q) 62 [(0, .ref r0), (1, .int x1), (2, .int x2), (3, .int x3), (4, .int x4), (5, .int x5), (6, .int x6)] [.int s0] h := by
  refine G_istore dX5_suits_62 (by decide) (lv' := [(7, .int s0), (0, .ref r0), (1, .int x1), (2, .int x2), (3, .int x3), (4, .int x4), (5, .int x5), (6, .int x6)]) rfl ?_
  refine G_iload_n 2 rfl dX5_suits_64 rfl ?_
  refine Decidable.byCases (p := x1 = (0 : Int32)) (fun c1 => ?_) (fun c1 => ?_)
  · refine G_tabEq (off := 43) (tgt := 108) dX5_suits_65 c1 (by decide) (by decide) (by decide) (by decide) ?_
    have w := w.1 c1
    refine G_iload 7 rfl dX5_suits_108 ?_
    obtain ⟨sd1, w⟩ := w
    exact G_zret rfl sd1 dX5_suits_110 ⟨_, rfl, w⟩
  have w := w.2 c1
  refine Decidable.byCases (p := x1 = (1 : Int32)) (fun c2 => ?_) (fun c2 => ?_)
  · refine G_tabEq (off := 46) (tgt := 111) dX5_suits_65 c2 (by decide) (by decide) (by decide) (by decide) ?_
    have w := w.1 c2
    refine G_iload 7 rfl dX5_suits_111 ?_
    refine G_if_eq (tgt := 126) dX5_suits_113 (by decide) (fun c3 => ?_) (fun c3 => ?_)
    · have w := w.1 c3
      refine G_iconst (v := 0) dX5_suits_126 (by decide) ?_
      exact G_zret rfl (Or.inl rfl) dX5_suits_127 ⟨_, rfl, w⟩
    · have w := w.2 c3
      refine G_iload 5 rfl dX5_suits_116 ?_
      refine G_iload_n 4 rfl dX5_suits_118 rfl ?_
      refine G_icmp_ne (tgt := 126) dX5_suits_119 (by decide) (fun c4 => ?_) (fun c4 => ?_)
      · have w := w.1 c4
        refine G_iconst (v := 0) dX5_suits_126 (by decide) ?_
        exact G_zret rfl (Or.inl rfl) dX5_suits_127 ⟨_, rfl, w⟩
      · have w := w.2 c4
        refine G_iconst (v := 1) dX5_suits_122 (by decide) ?_
        refine G_goto (tgt := 127) dX5_suits_123 (by decide) ?_
        exact G_zret rfl (Or.inr rfl) dX5_suits_127 ⟨_, rfl, w⟩
  have w := w.2 c2
  refine Decidable.byCases (p := x1 = (2 : Int32)) (fun c3 => ?_) (fun c3 => ?_)
  · refine G_tabEq (off := 63) (tgt := 128) dX5_suits_65 c3 (by decide) (by decide) (by decide) (by decide) ?_
    have w := w.1 c3
    refine G_iload_n 4 rfl dX5_suits_128 rfl ?_
    refine G_bipush (v := 42) dX5_suits_129 (by decide) ?_
    refine G_icmp_ne (tgt := 160) dX5_suits_131 (by decide) (fun c4 => ?_) (fun c4 => ?_)
    · have w := w.1 c4
      refine G_iconst (v := 0) dX5_suits_160 (by decide) ?_
      exact G_zret rfl (Or.inl rfl) dX5_suits_161 ⟨_, rfl, w⟩
    · have w := w.2 c4
      refine G_iload 6 rfl dX5_suits_134 ?_
      refine G_bipush (v := 43) dX5_suits_136 (by decide) ?_
      refine G_icmp_eq (tgt := 148) dX5_suits_138 (by decide) (fun c5 => ?_) (fun c5 => ?_)
      · have w := w.1 c5
        refine G_aload_n 1 rfl dX5_suits_148 rfl ?_
        refine G_iload_n 3 rfl dX5_suits_149 rfl ?_
        obtain ⟨Q1, ok1, w⟩ := w
        refine G_callS (Z := mX5_hasRoomToSpread) (As := [.ref r0, .int x2]) (st := []) hL_X5_18 hT_X5_hasRoomToSpread hC_X5_hasRoomToSpread hN_X5 nX5_hasRoomToSpread (by decide) rfl (Nat.le_of_ble_eq_true rfl) dX5_suits_150 ok1 (fun r_ h_1 z_ => ?_)
        obtain ⟨v_1, rfl, q_1⟩ := z_
        have w := w v_1 h_1 q_1
        refine G_if_eq (tgt := 160) dX5_suits_153 (by decide) (fun c6 => ?_) (fun c6 => ?_)
        · have w := w.1 c6
          refine G_iconst (v := 0) dX5_suits_160 (by decide) ?_
          exact G_zret rfl (Or.inl rfl) dX5_suits_161 ⟨_, rfl, w⟩
        · have w := w.2 c6
          refine G_iconst (v := 1) dX5_suits_156 (by decide) ?_
          refine G_goto (tgt := 161) dX5_suits_157 (by decide) ?_
          exact G_zret rfl (Or.inr rfl) dX5_suits_161 ⟨_, rfl, w⟩
      · have w := w.2 c5
        refine G_iload 6 rfl dX5_suits_141 ?_
        refine G_bipush (v := 45) dX5_suits_143 (by decide) ?_
        refine G_icmp_ne (tgt := 160) dX5_suits_145 (by decide) (fun c6 => ?_) (fun c6 => ?_)
        · have w := w.1 c6
          refine G_iconst (v := 0) dX5_suits_160 (by decide) ?_
          exact G_zret rfl (Or.inl rfl) dX5_suits_161 ⟨_, rfl, w⟩
        · have w := w.2 c6
          refine G_aload_n 1 rfl dX5_suits_148 rfl ?_
          refine G_iload_n 3 rfl dX5_suits_149 rfl ?_
          obtain ⟨Q2, ok2, w⟩ := w
          refine G_callS (Z := mX5_hasRoomToSpread) (As := [.ref r0, .int x2]) (st := []) hL_X5_18 hT_X5_hasRoomToSpread hC_X5_hasRoomToSpread hN_X5 nX5_hasRoomToSpread (by decide) rfl (Nat.le_of_ble_eq_true rfl) dX5_suits_150 ok2 (fun r_ h_2 z_ => ?_)
          obtain ⟨v_2, rfl, q_2⟩ := z_
          have w := w v_2 h_2 q_2
          refine G_if_eq (tgt := 160) dX5_suits_153 (by decide) (fun c7 => ?_) (fun c7 => ?_)
          · have w := w.1 c7
            refine G_iconst (v := 0) dX5_suits_160 (by decide) ?_
            exact G_zret rfl (Or.inl rfl) dX5_suits_161 ⟨_, rfl, w⟩
          · have w := w.2 c7
            refine G_iconst (v := 1) dX5_suits_156 (by decide) ?_
            refine G_goto (tgt := 161) dX5_suits_157 (by decide) ?_
            exact G_zret rfl (Or.inr rfl) dX5_suits_161 ⟨_, rfl, w⟩
  have w := w.2 c3
  refine Decidable.byCases (p := x1 = (3 : Int32)) (fun c4 => ?_) (fun c4 => ?_)
  · refine G_tabEq (off := 97) (tgt := 162) dX5_suits_65 c4 (by decide) (by decide) (by decide) (by decide) ?_
    have w := w.1 c4
    refine G_iload 0 rfl dX5_suits_162 ?_
    refine G_if_eq (tgt := 193) dX5_suits_164 (by decide) (fun c5 => ?_) (fun c5 => ?_)
    · have w := w.1 c5
      refine G_iconst (v := 0) dX5_suits_193 (by decide) ?_
      exact G_zret rfl (Or.inl rfl) dX5_suits_194 ⟨_, rfl, w⟩
    · have w := w.2 c5
      refine G_iload 5 rfl dX5_suits_167 ?_
      refine G_bipush (v := 42) dX5_suits_169 (by decide) ?_
      refine G_icmp_ne (tgt := 193) dX5_suits_171 (by decide) (fun c6 => ?_) (fun c6 => ?_)
      · have w := w.1 c6
        refine G_iconst (v := 0) dX5_suits_193 (by decide) ?_
        exact G_zret rfl (Or.inl rfl) dX5_suits_194 ⟨_, rfl, w⟩
      · have w := w.2 c6
        refine G_iload 6 rfl dX5_suits_174 ?_
        refine G_bipush (v := 42) dX5_suits_176 (by decide) ?_
        refine G_icmp_ne (tgt := 193) dX5_suits_178 (by decide) (fun c7 => ?_) (fun c7 => ?_)
        · have w := w.1 c7
          refine G_iconst (v := 0) dX5_suits_193 (by decide) ?_
          exact G_zret rfl (Or.inl rfl) dX5_suits_194 ⟨_, rfl, w⟩
        · have w := w.2 c7
          refine G_aload_n 1 rfl dX5_suits_181 rfl ?_
          refine G_iload_n 3 rfl dX5_suits_182 rfl ?_
          obtain ⟨Q3, ok3, w⟩ := w
          refine G_callS (Z := mX5_sharesFactor) (As := [.ref r0, .int x2]) (st := []) hL_X5_24 hT_X5_sharesFactor hC_X5_sharesFactor hN_X5 nX5_sharesFactor (by decide) rfl (Nat.le_of_ble_eq_true rfl) dX5_suits_183 ok3 (fun r_ h_3 z_ => ?_)
          obtain ⟨v_3, rfl, q_3⟩ := z_
          have w := w v_3 h_3 q_3
          refine G_if_eq (tgt := 193) dX5_suits_186 (by decide) (fun c8 => ?_) (fun c8 => ?_)
          · have w := w.1 c8
            refine G_iconst (v := 0) dX5_suits_193 (by decide) ?_
            exact G_zret rfl (Or.inl rfl) dX5_suits_194 ⟨_, rfl, w⟩
          · have w := w.2 c8
            refine G_iconst (v := 1) dX5_suits_189 (by decide) ?_
            refine G_goto (tgt := 194) dX5_suits_190 (by decide) ?_
            exact G_zret rfl (Or.inr rfl) dX5_suits_194 ⟨_, rfl, w⟩
  have w := w.2 c4
  refine Decidable.byCases (p := x1 = (4 : Int32)) (fun c5 => ?_) (fun c5 => ?_)
  · refine G_tabEq (off := 130) (tgt := 195) dX5_suits_65 c5 (by decide) (by decide) (by decide) (by decide) ?_
    have w := w.1 c5
    refine G_iload_n 4 rfl dX5_suits_195 rfl ?_
    refine G_bipush (v := 45) dX5_suits_196 (by decide) ?_
    refine G_icmp_ne (tgt := 227) dX5_suits_198 (by decide) (fun c6 => ?_) (fun c6 => ?_)
    · have w := w.1 c6
      refine G_iconst (v := 0) dX5_suits_227 (by decide) ?_
      exact G_zret rfl (Or.inl rfl) dX5_suits_228 ⟨_, rfl, w⟩
    · have w := w.2 c6
      refine G_iload 5 rfl dX5_suits_201 ?_
      refine G_bipush (v := 42) dX5_suits_203 (by decide) ?_
      refine G_icmp_ne (tgt := 227) dX5_suits_205 (by decide) (fun c7 => ?_) (fun c7 => ?_)
      · have w := w.1 c7
        refine G_iconst (v := 0) dX5_suits_227 (by decide) ?_
        exact G_zret rfl (Or.inl rfl) dX5_suits_228 ⟨_, rfl, w⟩
      · have w := w.2 c7
        refine G_iload 6 rfl dX5_suits_208 ?_
        refine G_bipush (v := 42) dX5_suits_210 (by decide) ?_
        refine G_icmp_ne (tgt := 227) dX5_suits_212 (by decide) (fun c8 => ?_) (fun c8 => ?_)
        · have w := w.1 c8
          refine G_iconst (v := 0) dX5_suits_227 (by decide) ?_
          exact G_zret rfl (Or.inl rfl) dX5_suits_228 ⟨_, rfl, w⟩
        · have w := w.2 c8
          refine G_aload_n 1 rfl dX5_suits_215 rfl ?_
          refine G_iload_n 3 rfl dX5_suits_216 rfl ?_
          obtain ⟨Q4, ok4, w⟩ := w
          refine G_callS (Z := mX5_isOfSquares) (As := [.ref r0, .int x2]) (st := []) hL_X5_27 hT_X5_isOfSquares hC_X5_isOfSquares hN_X5 nX5_isOfSquares (by decide) rfl (Nat.le_of_ble_eq_true rfl) dX5_suits_217 ok4 (fun r_ h_4 z_ => ?_)
          obtain ⟨v_4, rfl, q_4⟩ := z_
          have w := w v_4 h_4 q_4
          refine G_if_eq (tgt := 227) dX5_suits_220 (by decide) (fun c9 => ?_) (fun c9 => ?_)
          · have w := w.1 c9
            refine G_iconst (v := 0) dX5_suits_227 (by decide) ?_
            exact G_zret rfl (Or.inl rfl) dX5_suits_228 ⟨_, rfl, w⟩
          · have w := w.2 c9
            refine G_iconst (v := 1) dX5_suits_223 (by decide) ?_
            refine G_goto (tgt := 228) dX5_suits_224 (by decide) ?_
            exact G_zret rfl (Or.inr rfl) dX5_suits_228 ⟨_, rfl, w⟩
  have w := w.2 c5
  refine Decidable.byCases (p := x1 = (5 : Int32)) (fun c6 => ?_) (fun c6 => ?_)
  · refine G_tabEq (off := 164) (tgt := 229) dX5_suits_65 c6 (by decide) (by decide) (by decide) (by decide) ?_
    have w := w.1 c6
    refine G_iload_n 4 rfl dX5_suits_229 rfl ?_
    refine G_bipush (v := 45) dX5_suits_230 (by decide) ?_
    refine G_icmp_ne (tgt := 246) dX5_suits_232 (by decide) (fun c7 => ?_) (fun c7 => ?_)
    · have w := w.1 c7
      refine G_iconst (v := 0) dX5_suits_246 (by decide) ?_
      exact G_zret rfl (Or.inl rfl) dX5_suits_247 ⟨_, rfl, w⟩
    · have w := w.2 c7
      refine G_iload 5 rfl dX5_suits_235 ?_
      refine G_bipush (v := 45) dX5_suits_237 (by decide) ?_
      refine G_icmp_ne (tgt := 246) dX5_suits_239 (by decide) (fun c8 => ?_) (fun c8 => ?_)
      · have w := w.1 c8
        refine G_iconst (v := 0) dX5_suits_246 (by decide) ?_
        exact G_zret rfl (Or.inl rfl) dX5_suits_247 ⟨_, rfl, w⟩
      · have w := w.2 c8
        refine G_iconst (v := 1) dX5_suits_242 (by decide) ?_
        refine G_goto (tgt := 247) dX5_suits_243 (by decide) ?_
        exact G_zret rfl (Or.inr rfl) dX5_suits_247 ⟨_, rfl, w⟩
  have w := w.2 c6
  refine Decidable.byCases (p := x1 = (6 : Int32)) (fun c7 => ?_) (fun c7 => ?_)
  · refine G_tabEq (off := 183) (tgt := 248) dX5_suits_65 c7 (by decide) (by decide) (by decide) (by decide) ?_
    have w := w.1 c7
    refine G_iload_n 4 rfl dX5_suits_248 rfl ?_
    refine G_bipush (v := 47) dX5_suits_249 (by decide) ?_
    refine G_icmp_ne (tgt := 265) dX5_suits_251 (by decide) (fun c8 => ?_) (fun c8 => ?_)
    · have w := w.1 c8
      refine G_iconst (v := 0) dX5_suits_265 (by decide) ?_
      exact G_zret rfl (Or.inl rfl) dX5_suits_266 ⟨_, rfl, w⟩
    · have w := w.2 c8
      refine G_iload 6 rfl dX5_suits_254 ?_
      refine G_bipush (v := 47) dX5_suits_256 (by decide) ?_
      refine G_icmp_ne (tgt := 265) dX5_suits_258 (by decide) (fun c9 => ?_) (fun c9 => ?_)
      · have w := w.1 c9
        refine G_iconst (v := 0) dX5_suits_265 (by decide) ?_
        exact G_zret rfl (Or.inl rfl) dX5_suits_266 ⟨_, rfl, w⟩
      · have w := w.2 c9
        refine G_iconst (v := 1) dX5_suits_261 (by decide) ?_
        refine G_goto (tgt := 266) dX5_suits_262 (by decide) ?_
        exact G_zret rfl (Or.inr rfl) dX5_suits_266 ⟨_, rfl, w⟩
  have w := w.2 c7
  refine G_tabOut (tgt := 267) dX5_suits_65 (f_tab7 c1 c2 c3 c4 c5 c6 c7) (by decide) ?_
  refine G_iconst (v := 0) dX5_suits_267 (by decide) ?_
  exact G_zret rfl (Or.inl rfl) dX5_suits_268 ⟨_, rfl, w⟩
-- LostDigits$Rules.hasRoomToSpread
theorem dX5_hasRoomToSpread_0 : decode cX5_hasRoomToSpread 0 = .ok (.aload_n 0, 1) := by decide +kernel
theorem dX5_hasRoomToSpread_1 : decode cX5_hasRoomToSpread 1 = .ok (.iload_n 1, 1) := by decide +kernel
theorem dX5_hasRoomToSpread_2 : decode cX5_hasRoomToSpread 2 = .ok (.iconst 1, 1) := by decide +kernel
theorem dX5_hasRoomToSpread_3 : decode cX5_hasRoomToSpread 3 = .ok (.iadd, 1) := by decide +kernel
theorem dX5_hasRoomToSpread_4 : decode cX5_hasRoomToSpread 4 = .ok (.invokevirtual 30, 3) := by decide +kernel
theorem dX5_hasRoomToSpread_7 : decode cX5_hasRoomToSpread 7 = .ok (.iload_n 1, 1) := by decide +kernel
theorem dX5_hasRoomToSpread_8 : decode cX5_hasRoomToSpread 8 = .ok (.iconst 1, 1) := by decide +kernel
theorem dX5_hasRoomToSpread_9 : decode cX5_hasRoomToSpread 9 = .ok (.iadd, 1) := by decide +kernel
theorem dX5_hasRoomToSpread_10 : decode cX5_hasRoomToSpread 10 = .ok (.isub, 1) := by decide +kernel
theorem dX5_hasRoomToSpread_11 : decode cX5_hasRoomToSpread 11 = .ok (.istore_n 2, 1) := by decide +kernel
theorem dX5_hasRoomToSpread_12 : decode cX5_hasRoomToSpread 12 = .ok (.aload_n 0, 1) := by decide +kernel
theorem dX5_hasRoomToSpread_13 : decode cX5_hasRoomToSpread 13 = .ok (.getfield 33, 3) := by decide +kernel
theorem dX5_hasRoomToSpread_16 : decode cX5_hasRoomToSpread 16 = .ok (.iconst 1, 1) := by decide +kernel
theorem dX5_hasRoomToSpread_17 : decode cX5_hasRoomToSpread 17 = .ok (.iadd, 1) := by decide +kernel
theorem dX5_hasRoomToSpread_18 : decode cX5_hasRoomToSpread 18 = .ok (.iload_n 2, 1) := by decide +kernel
theorem dX5_hasRoomToSpread_19 : decode cX5_hasRoomToSpread 19 = .ok (.iadd, 1) := by decide +kernel
theorem dX5_hasRoomToSpread_20 : decode cX5_hasRoomToSpread 20 = .ok (.bipush 13, 2) := by decide +kernel
theorem dX5_hasRoomToSpread_22 : decode cX5_hasRoomToSpread 22 = .ok (.if_icmp .gt 7, 3) := by decide +kernel
theorem dX5_hasRoomToSpread_25 : decode cX5_hasRoomToSpread 25 = .ok (.iconst 1, 1) := by decide +kernel
theorem dX5_hasRoomToSpread_26 : decode cX5_hasRoomToSpread 26 = .ok (.goto 4, 3) := by decide +kernel
theorem dX5_hasRoomToSpread_29 : decode cX5_hasRoomToSpread 29 = .ok (.iconst 0, 1) := by decide +kernel
theorem dX5_hasRoomToSpread_30 : decode cX5_hasRoomToSpread 30 = .ok (.ireturn, 1) := by decide +kernel
set_option maxRecDepth 10000 in
theorem NX5_hasRoomToSpread_0 {d : Nat} {S : fW} {h : fH} {Q : Int32 → fH → Prop} {r0 : Nat} {x1 : Int32} {r0_signs r0_ends r0_letters : Nat}  
    (hs1 : (r0, shX10 r0_signs r0_ends r0_letters) ∈ S)
    (w : ∃ Q1 : Int32 → fH → Prop, OkI d mX10_endOf S [.ref r0, .int (x1 + (1 : Int32))] h Q1 ∧ ∀ (v_1 : Int32) (h_1 : fH), Q1 v_1 h_1 → (((13 : Int32) < (((h_1.1 r0 3) + (1 : Int32)) + (v_1 - (x1 + (1 : Int32)))) → Q (0 : Int32) h_1) ∧ (¬ (13 : Int32) < (((h_1.1 r0 3) + (1 : Int32)) + (v_1 - (x1 + (1 : Int32)))) → Q (1 : Int32) h_1))) :
    OkI (d + 1) mX5_hasRoomToSpread S [.ref r0, .int x1] h Q := by
  refine Ok.of (by decide) (Nat.le_of_ble_eq_true rfl) ?_
  refine G_aload_n 0 rfl dX5_hasRoomToSpread_0 rfl ?_
  refine G_iload_n 1 rfl dX5_hasRoomToSpread_1 rfl ?_
  refine G_iconst (v := 1) dX5_hasRoomToSpread_2 (by decide) ?_
  refine G_iadd dX5_hasRoomToSpread_3 ?_
  obtain ⟨Q1, ok1, w⟩ := w
  refine G_callV (Z := mX10_endOf) (As := [.int (x1 + (1 : Int32))]) (st := []) hL_X5_30 hI_X10_endOf hS_X10_endOf hC_X10_endOf hN_X10 nX10_endOf (by decide) hs1 rfl rfl rfl (Nat.le_of_ble_eq_true rfl) dX5_hasRoomToSpread_4 ok1 (fun r_ h_1 z_ => ?_)
  obtain ⟨v_1, rfl, q_1⟩ := z_
  have w := w v_1 h_1 q_1
  refine G_iload_n 1 rfl dX5_hasRoomToSpread_7 rfl ?_
  refine G_iconst (v := 1) dX5_hasRoomToSpread_8 (by decide) ?_
  refine G_iadd dX5_hasRoomToSpread_9 ?_
  refine G_isub dX5_hasRoomToSpread_10 ?_
  refine G_istore_n dX5_hasRoomToSpread_11 rfl (by decide) (lv' := [(2, .int (v_1 - (x1 + (1 : Int32)))), (0, .ref r0), (1, .int x1)]) rfl ?_
  refine G_aload_n 1 rfl dX5_hasRoomToSpread_12 rfl ?_
  refine G_geti (k := 3) hs1 (q := (RX10, TX10, 4)) rfl inX10 (by decide) (Or.inl rfl) hF_X5_33 dX5_hasRoomToSpread_13 ?_
  refine G_iconst (v := 1) dX5_hasRoomToSpread_16 (by decide) ?_
  refine G_iadd dX5_hasRoomToSpread_17 ?_
  refine G_iload_n 0 rfl dX5_hasRoomToSpread_18 rfl ?_
  refine G_iadd dX5_hasRoomToSpread_19 ?_
  refine G_bipush (v := 13) dX5_hasRoomToSpread_20 (by decide) ?_
  refine G_icmp_gt (tgt := 29) dX5_hasRoomToSpread_22 (by decide) (fun c1 => ?_) (fun c1 => ?_)
  · have w := w.1 c1
    refine G_iconst (v := 0) dX5_hasRoomToSpread_29 (by decide) ?_
    exact G_zret rfl (Or.inl rfl) dX5_hasRoomToSpread_30 ⟨_, rfl, w⟩
  · have w := w.2 c1
    refine G_iconst (v := 1) dX5_hasRoomToSpread_25 (by decide) ?_
    refine G_goto (tgt := 30) dX5_hasRoomToSpread_26 (by decide) ?_
    exact G_zret rfl (Or.inr rfl) dX5_hasRoomToSpread_30 ⟨_, rfl, w⟩
-- LostDigits$Rules.sharesFactor
theorem dX5_sharesFactor_0 : decode cX5_sharesFactor 0 = .ok (.aload_n 0, 1) := by decide +kernel
theorem dX5_sharesFactor_1 : decode cX5_sharesFactor 1 = .ok (.iload_n 1, 1) := by decide +kernel
theorem dX5_sharesFactor_2 : decode cX5_sharesFactor 2 = .ok (.iconst 2, 1) := by decide +kernel
theorem dX5_sharesFactor_3 : decode cX5_sharesFactor 3 = .ok (.iadd, 1) := by decide +kernel
theorem dX5_sharesFactor_4 : decode cX5_sharesFactor 4 = .ok (.aload_n 0, 1) := by decide +kernel
theorem dX5_sharesFactor_5 : decode cX5_sharesFactor 5 = .ok (.iload_n 1, 1) := by decide +kernel
theorem dX5_sharesFactor_6 : decode cX5_sharesFactor 6 = .ok (.invokevirtual 15, 3) := by decide +kernel
theorem dX5_sharesFactor_9 : decode cX5_sharesFactor 9 = .ok (.iconst 1, 1) := by decide +kernel
theorem dX5_sharesFactor_10 : decode cX5_sharesFactor 10 = .ok (.iadd, 1) := by decide +kernel
theorem dX5_sharesFactor_11 : decode cX5_sharesFactor 11 = .ok (.invokevirtual 37, 3) := by decide +kernel
theorem dX5_sharesFactor_14 : decode cX5_sharesFactor 14 = .ok (.ireturn, 1) := by decide +kernel
set_option maxRecDepth 10000 in
theorem NX5_sharesFactor_0 {d : Nat} {S : fW} {h : fH} {Q : Int32 → fH → Prop} {r0 : Nat} {x1 : Int32} {r0_signs r0_ends r0_letters : Nat}  
    (hs1 : (r0, shX10 r0_signs r0_ends r0_letters) ∈ S)
    (w : ∃ Q1 : Int32 → fH → Prop, OkI d mX10_secondOf S [.ref r0, .int x1] h Q1 ∧ ∀ (v_1 : Int32) (h_1 : fH), Q1 v_1 h_1 → ∃ Q2 : Int32 → fH → Prop, OkI d mX10_areAlike S [.ref r0, .int (x1 + (2 : Int32)), .int (v_1 + (1 : Int32))] h_1 Q2 ∧ ∀ (v_2 : Int32) (h_2 : fH), Q2 v_2 h_2 → (v_2 = 0 ∨ v_2 = 1) ∧ Q v_2 h_2) :
    OkI (d + 1) mX5_sharesFactor S [.ref r0, .int x1] h Q := by
  refine Ok.of (by decide) (Nat.le_of_ble_eq_true rfl) ?_
  refine G_aload_n 0 rfl dX5_sharesFactor_0 rfl ?_
  refine G_iload_n 1 rfl dX5_sharesFactor_1 rfl ?_
  refine G_iconst (v := 2) dX5_sharesFactor_2 (by decide) ?_
  refine G_iadd dX5_sharesFactor_3 ?_
  refine G_aload_n 0 rfl dX5_sharesFactor_4 rfl ?_
  refine G_iload_n 1 rfl dX5_sharesFactor_5 rfl ?_
  obtain ⟨Q1, ok1, w⟩ := w
  refine G_callV (Z := mX10_secondOf) (As := [.int x1]) (st := [.int (x1 + (2 : Int32)), .ref r0]) hL_X5_15 hI_X10_secondOf hS_X10_secondOf hC_X10_secondOf hN_X10 nX10_secondOf (by decide) hs1 rfl rfl rfl (Nat.le_of_ble_eq_true rfl) dX5_sharesFactor_6 ok1 (fun r_ h_1 z_ => ?_)
  obtain ⟨v_1, rfl, q_1⟩ := z_
  have w := w v_1 h_1 q_1
  refine G_iconst (v := 1) dX5_sharesFactor_9 (by decide) ?_
  refine G_iadd dX5_sharesFactor_10 ?_
  obtain ⟨Q2, ok2, w⟩ := w
  refine G_callV (Z := mX10_areAlike) (As := [.int (x1 + (2 : Int32)), .int (v_1 + (1 : Int32))]) (st := []) hL_X5_37 hI_X10_areAlike hS_X10_areAlike hC_X10_areAlike hN_X10 nX10_areAlike (by decide) hs1 rfl rfl rfl (Nat.le_of_ble_eq_true rfl) dX5_sharesFactor_11 ok2 (fun r_ h_2 z_ => ?_)
  obtain ⟨v_2, rfl, q_2⟩ := z_
  have w := w v_2 h_2 q_2
  obtain ⟨sd1, w⟩ := w
  exact G_zret rfl sd1 dX5_sharesFactor_14 ⟨_, rfl, w⟩
-- LostDigits$Rules.isOfSquares
theorem dX5_isOfSquares_0 : decode cX5_isOfSquares 0 = .ok (.aload_n 0, 1) := by decide +kernel
theorem dX5_isOfSquares_1 : decode cX5_isOfSquares 1 = .ok (.iload_n 1, 1) := by decide +kernel
theorem dX5_isOfSquares_2 : decode cX5_isOfSquares 2 = .ok (.invokevirtual 15, 3) := by decide +kernel
theorem dX5_isOfSquares_5 : decode cX5_isOfSquares 5 = .ok (.istore_n 2, 1) := by decide +kernel
theorem dX5_isOfSquares_6 : decode cX5_isOfSquares 6 = .ok (.aload_n 0, 1) := by decide +kernel
theorem dX5_isOfSquares_7 : decode cX5_isOfSquares 7 = .ok (.iload_n 1, 1) := by decide +kernel
theorem dX5_isOfSquares_8 : decode cX5_isOfSquares 8 = .ok (.iconst 2, 1) := by decide +kernel
theorem dX5_isOfSquares_9 : decode cX5_isOfSquares 9 = .ok (.iadd, 1) := by decide +kernel
theorem dX5_isOfSquares_10 : decode cX5_isOfSquares 10 = .ok (.aload_n 0, 1) := by decide +kernel
theorem dX5_isOfSquares_11 : decode cX5_isOfSquares 11 = .ok (.iload_n 1, 1) := by decide +kernel
theorem dX5_isOfSquares_12 : decode cX5_isOfSquares 12 = .ok (.iconst 1, 1) := by decide +kernel
theorem dX5_isOfSquares_13 : decode cX5_isOfSquares 13 = .ok (.iadd, 1) := by decide +kernel
theorem dX5_isOfSquares_14 : decode cX5_isOfSquares 14 = .ok (.invokevirtual 15, 3) := by decide +kernel
theorem dX5_isOfSquares_17 : decode cX5_isOfSquares 17 = .ok (.invokevirtual 37, 3) := by decide +kernel
theorem dX5_isOfSquares_20 : decode cX5_isOfSquares 20 = .ok (.ifCond .eq 22, 3) := by decide +kernel
theorem dX5_isOfSquares_23 : decode cX5_isOfSquares 23 = .ok (.aload_n 0, 1) := by decide +kernel
theorem dX5_isOfSquares_24 : decode cX5_isOfSquares 24 = .ok (.iload_n 2, 1) := by decide +kernel
theorem dX5_isOfSquares_25 : decode cX5_isOfSquares 25 = .ok (.iconst 1, 1) := by decide +kernel
theorem dX5_isOfSquares_26 : decode cX5_isOfSquares 26 = .ok (.iadd, 1) := by decide +kernel
theorem dX5_isOfSquares_27 : decode cX5_isOfSquares 27 = .ok (.aload_n 0, 1) := by decide +kernel
theorem dX5_isOfSquares_28 : decode cX5_isOfSquares 28 = .ok (.iload_n 2, 1) := by decide +kernel
theorem dX5_isOfSquares_29 : decode cX5_isOfSquares 29 = .ok (.invokevirtual 15, 3) := by decide +kernel
theorem dX5_isOfSquares_32 : decode cX5_isOfSquares 32 = .ok (.invokevirtual 37, 3) := by decide +kernel
theorem dX5_isOfSquares_35 : decode cX5_isOfSquares 35 = .ok (.ifCond .eq 7, 3) := by decide +kernel
theorem dX5_isOfSquares_38 : decode cX5_isOfSquares 38 = .ok (.iconst 1, 1) := by decide +kernel
theorem dX5_isOfSquares_39 : decode cX5_isOfSquares 39 = .ok (.goto 4, 3) := by decide +kernel
theorem dX5_isOfSquares_42 : decode cX5_isOfSquares 42 = .ok (.iconst 0, 1) := by decide +kernel
theorem dX5_isOfSquares_43 : decode cX5_isOfSquares 43 = .ok (.ireturn, 1) := by decide +kernel
set_option maxRecDepth 10000 in
theorem NX5_isOfSquares_0 {d : Nat} {S : fW} {h : fH} {Q : Int32 → fH → Prop} {r0 : Nat} {x1 : Int32} {r0_signs r0_ends r0_letters : Nat}  
    (hs1 : (r0, shX10 r0_signs r0_ends r0_letters) ∈ S)
    (w : ∃ Q1 : Int32 → fH → Prop, OkI d mX10_secondOf S [.ref r0, .int x1] h Q1 ∧ ∀ (v_1 : Int32) (h_1 : fH), Q1 v_1 h_1 → ∃ Q2 : Int32 → fH → Prop, OkI d mX10_secondOf S [.ref r0, .int (x1 + (1 : Int32))] h_1 Q2 ∧ ∀ (v_2 : Int32) (h_2 : fH), Q2 v_2 h_2 → ∃ Q3 : Int32 → fH → Prop, OkI d mX10_areAlike S [.ref r0, .int (x1 + (2 : Int32)), .int v_2] h_2 Q3 ∧ ∀ (v_3 : Int32) (h_3 : fH), Q3 v_3 h_3 → ((v_3 = 0 → Q (0 : Int32) h_3) ∧ (¬ v_3 = 0 → ∃ Q4 : Int32 → fH → Prop, OkI d mX10_secondOf S [.ref r0, .int v_1] h_3 Q4 ∧ ∀ (v_4 : Int32) (h_4 : fH), Q4 v_4 h_4 → ∃ Q5 : Int32 → fH → Prop, OkI d mX10_areAlike S [.ref r0, .int (v_1 + (1 : Int32)), .int v_4] h_4 Q5 ∧ ∀ (v_5 : Int32) (h_5 : fH), Q5 v_5 h_5 → ((v_5 = 0 → Q (0 : Int32) h_5) ∧ (¬ v_5 = 0 → Q (1 : Int32) h_5))))) :
    OkI (d + 1) mX5_isOfSquares S [.ref r0, .int x1] h Q := by
  refine Ok.of (by decide) (Nat.le_of_ble_eq_true rfl) ?_
  refine G_aload_n 0 rfl dX5_isOfSquares_0 rfl ?_
  refine G_iload_n 1 rfl dX5_isOfSquares_1 rfl ?_
  obtain ⟨Q1, ok1, w⟩ := w
  refine G_callV (Z := mX10_secondOf) (As := [.int x1]) (st := []) hL_X5_15 hI_X10_secondOf hS_X10_secondOf hC_X10_secondOf hN_X10 nX10_secondOf (by decide) hs1 rfl rfl rfl (Nat.le_of_ble_eq_true rfl) dX5_isOfSquares_2 ok1 (fun r_ h_1 z_ => ?_)
  obtain ⟨v_1, rfl, q_1⟩ := z_
  have w := w v_1 h_1 q_1
  refine G_istore_n dX5_isOfSquares_5 rfl (by decide) (lv' := [(2, .int v_1), (0, .ref r0), (1, .int x1)]) rfl ?_
  refine G_aload_n 1 rfl dX5_isOfSquares_6 rfl ?_
  refine G_iload_n 2 rfl dX5_isOfSquares_7 rfl ?_
  refine G_iconst (v := 2) dX5_isOfSquares_8 (by decide) ?_
  refine G_iadd dX5_isOfSquares_9 ?_
  refine G_aload_n 1 rfl dX5_isOfSquares_10 rfl ?_
  refine G_iload_n 2 rfl dX5_isOfSquares_11 rfl ?_
  refine G_iconst (v := 1) dX5_isOfSquares_12 (by decide) ?_
  refine G_iadd dX5_isOfSquares_13 ?_
  obtain ⟨Q2, ok2, w⟩ := w
  refine G_callV (Z := mX10_secondOf) (As := [.int (x1 + (1 : Int32))]) (st := [.int (x1 + (2 : Int32)), .ref r0]) hL_X5_15 hI_X10_secondOf hS_X10_secondOf hC_X10_secondOf hN_X10 nX10_secondOf (by decide) hs1 rfl rfl rfl (Nat.le_of_ble_eq_true rfl) dX5_isOfSquares_14 ok2 (fun r_ h_2 z_ => ?_)
  obtain ⟨v_2, rfl, q_2⟩ := z_
  have w := w v_2 h_2 q_2
  obtain ⟨Q3, ok3, w⟩ := w
  refine G_callV (Z := mX10_areAlike) (As := [.int (x1 + (2 : Int32)), .int v_2]) (st := []) hL_X5_37 hI_X10_areAlike hS_X10_areAlike hC_X10_areAlike hN_X10 nX10_areAlike (by decide) hs1 rfl rfl rfl (Nat.le_of_ble_eq_true rfl) dX5_isOfSquares_17 ok3 (fun r_ h_3 z_ => ?_)
  obtain ⟨v_3, rfl, q_3⟩ := z_
  have w := w v_3 h_3 q_3
  refine G_if_eq (tgt := 42) dX5_isOfSquares_20 (by decide) (fun c1 => ?_) (fun c1 => ?_)
  · have w := w.1 c1
    refine G_iconst (v := 0) dX5_isOfSquares_42 (by decide) ?_
    exact G_zret rfl (Or.inl rfl) dX5_isOfSquares_43 ⟨_, rfl, w⟩
  · have w := w.2 c1
    refine G_aload_n 1 rfl dX5_isOfSquares_23 rfl ?_
    refine G_iload_n 0 rfl dX5_isOfSquares_24 rfl ?_
    refine G_iconst (v := 1) dX5_isOfSquares_25 (by decide) ?_
    refine G_iadd dX5_isOfSquares_26 ?_
    refine G_aload_n 1 rfl dX5_isOfSquares_27 rfl ?_
    refine G_iload_n 0 rfl dX5_isOfSquares_28 rfl ?_
    obtain ⟨Q4, ok4, w⟩ := w
    refine G_callV (Z := mX10_secondOf) (As := [.int v_1]) (st := [.int (v_1 + (1 : Int32)), .ref r0]) hL_X5_15 hI_X10_secondOf hS_X10_secondOf hC_X10_secondOf hN_X10 nX10_secondOf (by decide) hs1 rfl rfl rfl (Nat.le_of_ble_eq_true rfl) dX5_isOfSquares_29 ok4 (fun r_ h_4 z_ => ?_)
    obtain ⟨v_4, rfl, q_4⟩ := z_
    have w := w v_4 h_4 q_4
    obtain ⟨Q5, ok5, w⟩ := w
    refine G_callV (Z := mX10_areAlike) (As := [.int (v_1 + (1 : Int32)), .int v_4]) (st := []) hL_X5_37 hI_X10_areAlike hS_X10_areAlike hC_X10_areAlike hN_X10 nX10_areAlike (by decide) hs1 rfl rfl rfl (Nat.le_of_ble_eq_true rfl) dX5_isOfSquares_32 ok5 (fun r_ h_5 z_ => ?_)
    obtain ⟨v_5, rfl, q_5⟩ := z_
    have w := w v_5 h_5 q_5
    refine G_if_eq (tgt := 42) dX5_isOfSquares_35 (by decide) (fun c2 => ?_) (fun c2 => ?_)
    · have w := w.1 c2
      refine G_iconst (v := 0) dX5_isOfSquares_42 (by decide) ?_
      exact G_zret rfl (Or.inl rfl) dX5_isOfSquares_43 ⟨_, rfl, w⟩
    · have w := w.2 c2
      refine G_iconst (v := 1) dX5_isOfSquares_38 (by decide) ?_
      refine G_goto (tgt := 43) dX5_isOfSquares_39 (by decide) ?_
      exact G_zret rfl (Or.inr rfl) dX5_isOfSquares_43 ⟨_, rfl, w⟩
-- LostDigits$Rules.write
theorem dX5_write_0 : decode cX5_write 0 = .ok (.aload_n 0, 1) := by decide +kernel
theorem dX5_write_1 : decode cX5_write 1 = .ok (.iload_n 1, 1) := by decide +kernel
theorem dX5_write_2 : decode cX5_write 2 = .ok (.iload_n 2, 1) := by decide +kernel
theorem dX5_write_3 : decode cX5_write 3 = .ok (.invokestatic 41, 3) := by decide +kernel
theorem dX5_write_6 : decode cX5_write 6 = .ok (.ifCond .ne 5, 3) := by decide +kernel
theorem dX5_write_9 : decode cX5_write 9 = .ok (.iconst 0, 1) := by decide +kernel
theorem dX5_write_10 : decode cX5_write 10 = .ok (.ireturn, 1) := by decide +kernel
theorem dX5_write_11 : decode cX5_write 11 = .ok (.aload_n 3, 1) := by decide +kernel
theorem dX5_write_12 : decode cX5_write 12 = .ok (.iconst 0, 1) := by decide +kernel
theorem dX5_write_13 : decode cX5_write 13 = .ok (.putfield 33, 3) := by decide +kernel
theorem dX5_write_16 : decode cX5_write 16 = .ok (.aload_n 3, 1) := by decide +kernel
theorem dX5_write_17 : decode cX5_write 17 = .ok (.aload_n 0, 1) := by decide +kernel
theorem dX5_write_18 : decode cX5_write 18 = .ok (.iconst 0, 1) := by decide +kernel
theorem dX5_write_19 : decode cX5_write 19 = .ok (.iload_n 2, 1) := by decide +kernel
theorem dX5_write_20 : decode cX5_write 20 = .ok (.invokevirtual 45, 3) := by decide +kernel
theorem dX5_write_23 : decode cX5_write 23 = .ok (.iload_n 1, 1) := by decide +kernel
theorem dX5_write_24 : decode cX5_write 24 = .ok (.iconst 2, 1) := by decide +kernel
theorem dX5_write_25 : decode cX5_write 25 = .ok (.if_icmp .eq 13, 3) := by decide +kernel
theorem dX5_write_28 : decode cX5_write 28 = .ok (.iload_n 1, 1) := by decide +kernel
theorem dX5_write_29 : decode cX5_write 29 = .ok (.iconst 3, 1) := by decide +kernel
theorem dX5_write_30 : decode cX5_write 30 = .ok (.if_icmp .eq 8, 3) := by decide +kernel
theorem dX5_write_33 : decode cX5_write 33 = .ok (.iload_n 1, 1) := by decide +kernel
theorem dX5_write_34 : decode cX5_write 34 = .ok (.iconst 4, 1) := by decide +kernel
theorem dX5_write_35 : decode cX5_write 35 = .ok (.if_icmp .ne 13, 3) := by decide +kernel
theorem dX5_write_38 : decode cX5_write 38 = .ok (.aload_n 0, 1) := by decide +kernel
theorem dX5_write_39 : decode cX5_write 39 = .ok (.iload_n 1, 1) := by decide +kernel
theorem dX5_write_40 : decode cX5_write 40 = .ok (.iload_n 2, 1) := by decide +kernel
theorem dX5_write_41 : decode cX5_write 41 = .ok (.aload_n 3, 1) := by decide +kernel
theorem dX5_write_42 : decode cX5_write 42 = .ok (.invokestatic 49, 3) := by decide +kernel
theorem dX5_write_45 : decode cX5_write 45 = .ok (.goto 10, 3) := by decide +kernel
theorem dX5_write_48 : decode cX5_write 48 = .ok (.aload_n 0, 1) := by decide +kernel
theorem dX5_write_49 : decode cX5_write 49 = .ok (.iload_n 1, 1) := by decide +kernel
theorem dX5_write_50 : decode cX5_write 50 = .ok (.iload_n 2, 1) := by decide +kernel
theorem dX5_write_51 : decode cX5_write 51 = .ok (.aload_n 3, 1) := by decide +kernel
theorem dX5_write_52 : decode cX5_write 52 = .ok (.invokestatic 53, 3) := by decide +kernel
theorem dX5_write_55 : decode cX5_write 55 = .ok (.aload_n 3, 1) := by decide +kernel
theorem dX5_write_56 : decode cX5_write 56 = .ok (.aload_n 0, 1) := by decide +kernel
theorem dX5_write_57 : decode cX5_write 57 = .ok (.aload_n 0, 1) := by decide +kernel
theorem dX5_write_58 : decode cX5_write 58 = .ok (.iload_n 2, 1) := by decide +kernel
theorem dX5_write_59 : decode cX5_write 59 = .ok (.invokevirtual 30, 3) := by decide +kernel
theorem dX5_write_62 : decode cX5_write 62 = .ok (.aload_n 0, 1) := by decide +kernel
theorem dX5_write_63 : decode cX5_write 63 = .ok (.getfield 33, 3) := by decide +kernel
theorem dX5_write_66 : decode cX5_write 66 = .ok (.invokevirtual 45, 3) := by decide +kernel
theorem dX5_write_69 : decode cX5_write 69 = .ok (.aload_n 3, 1) := by decide +kernel
theorem dX5_write_70 : decode cX5_write 70 = .ok (.invokevirtual 56, 3) := by decide +kernel
theorem dX5_write_73 : decode cX5_write 73 = .ok (.iconst 1, 1) := by decide +kernel
theorem dX5_write_74 : decode cX5_write 74 = .ok (.ireturn, 1) := by decide +kernel
set_option maxRecDepth 10000 in
theorem NX5_write_0 {d : Nat} {S : fW} {h : fH} {Q : Int32 → fH → Prop} {r0 : Nat} {x1 : Int32} {x2 : Int32} {r3 : Nat} {r3_signs r3_ends r3_letters r0_signs r0_ends r0_letters : Nat}  
    (hs1 : (r3, shX10 r3_signs r3_ends r3_letters) ∈ S)
    (hs2 : (r0, shX10 r0_signs r0_ends r0_letters) ∈ S)
    (w : ∃ Q1 : Int32 → fH → Prop, OkI d mX5_suits S [.ref r0, .int x1, .int x2] h Q1 ∧ ∀ (v_1 : Int32) (h_1 : fH), Q1 v_1 h_1 → ((¬ v_1 = 0 → ∀ g_1 : fH, g_1 = u_fi h_1 r3 3 (0 : Int32) → ∃ Q2 : fH → Prop, OkV d mX10_addPlaces S [.ref r3, .ref r0, .int (0 : Int32), .int x2] g_1 Q2 ∧ ∀ (h_2 : fH), Q2 h_2 → ((x1 = (2 : Int32) → ∃ Q3 : fH → Prop, OkV d mX5_writeFactors S [.ref r0, .int x1, .int x2, .ref r3] h_2 Q3 ∧ ∀ (h_3 : fH), Q3 h_3 → ∃ Q4 : Int32 → fH → Prop, OkI d mX10_endOf S [.ref r0, .int x2] h_3 Q4 ∧ ∀ (v_4 : Int32) (h_4 : fH), Q4 v_4 h_4 → ∃ Q5 : fH → Prop, OkV d mX10_addPlaces S [.ref r3, .ref r0, .int v_4, .int (h_4.1 r0 3)] h_4 Q5 ∧ ∀ (h_5 : fH), Q5 h_5 → ∃ Q6 : fH → Prop, OkV d mX10_findParts S [.ref r3] h_5 Q6 ∧ ∀ (h_6 : fH), Q6 h_6 → Q (1 : Int32) h_6) ∧ (¬ x1 = (2 : Int32) → ((x1 = (3 : Int32) → ∃ Q7 : fH → Prop, OkV d mX5_writeFactors S [.ref r0, .int x1, .int x2, .ref r3] h_2 Q7 ∧ ∀ (h_7 : fH), Q7 h_7 → ∃ Q8 : Int32 → fH → Prop, OkI d mX10_endOf S [.ref r0, .int x2] h_7 Q8 ∧ ∀ (v_8 : Int32) (h_8 : fH), Q8 v_8 h_8 → ∃ Q9 : fH → Prop, OkV d mX10_addPlaces S [.ref r3, .ref r0, .int v_8, .int (h_8.1 r0 3)] h_8 Q9 ∧ ∀ (h_9 : fH), Q9 h_9 → ∃ Q10 : fH → Prop, OkV d mX10_findParts S [.ref r3] h_9 Q10 ∧ ∀ (h_10 : fH), Q10 h_10 → Q (1 : Int32) h_10) ∧ (¬ x1 = (3 : Int32) → ((¬ x1 = (4 : Int32) → ∃ Q11 : fH → Prop, OkV d mX5_writeShift S [.ref r0, .int x1, .int x2, .ref r3] h_2 Q11 ∧ ∀ (h_11 : fH), Q11 h_11 → ∃ Q12 : Int32 → fH → Prop, OkI d mX10_endOf S [.ref r0, .int x2] h_11 Q12 ∧ ∀ (v_12 : Int32) (h_12 : fH), Q12 v_12 h_12 → ∃ Q13 : fH → Prop, OkV d mX10_addPlaces S [.ref r3, .ref r0, .int v_12, .int (h_12.1 r0 3)] h_12 Q13 ∧ ∀ (h_13 : fH), Q13 h_13 → ∃ Q14 : fH → Prop, OkV d mX10_findParts S [.ref r3] h_13 Q14 ∧ ∀ (h_14 : fH), Q14 h_14 → Q (1 : Int32) h_14) ∧ (x1 = (4 : Int32) → ∃ Q15 : fH → Prop, OkV d mX5_writeFactors S [.ref r0, .int x1, .int x2, .ref r3] h_2 Q15 ∧ ∀ (h_15 : fH), Q15 h_15 → ∃ Q16 : Int32 → fH → Prop, OkI d mX10_endOf S [.ref r0, .int x2] h_15 Q16 ∧ ∀ (v_16 : Int32) (h_16 : fH), Q16 v_16 h_16 → ∃ Q17 : fH → Prop, OkV d mX10_addPlaces S [.ref r3, .ref r0, .int v_16, .int (h_16.1 r0 3)] h_16 Q17 ∧ ∀ (h_17 : fH), Q17 h_17 → ∃ Q18 : fH → Prop, OkV d mX10_findParts S [.ref r3] h_17 Q18 ∧ ∀ (h_18 : fH), Q18 h_18 → Q (1 : Int32) h_18))))))) ∧ (v_1 = 0 → Q (0 : Int32) h_1))) :
    OkI (d + 1) mX5_write S [.ref r0, .int x1, .int x2, .ref r3] h Q := by
  refine Ok.of (by decide) (Nat.le_of_ble_eq_true rfl) ?_
  refine G_aload_n 0 rfl dX5_write_0 rfl ?_
  refine G_iload_n 1 rfl dX5_write_1 rfl ?_
  refine G_iload_n 2 rfl dX5_write_2 rfl ?_
  obtain ⟨Q1, ok1, w⟩ := w
  refine G_callS (Z := mX5_suits) (As := [.ref r0, .int x1, .int x2]) (st := []) hL_X5_41 hT_X5_suits hC_X5_suits hN_X5 nX5_suits (by decide) rfl (Nat.le_of_ble_eq_true rfl) dX5_write_3 ok1 (fun r_ h_1 z_ => ?_)
  obtain ⟨v_1, rfl, q_1⟩ := z_
  have w := w v_1 h_1 q_1
  refine G_if_ne (tgt := 11) dX5_write_6 (by decide) (fun c1 => ?_) (fun c1 => ?_)
  · have w := w.1 c1
    refine G_aload_n 3 rfl dX5_write_11 rfl ?_
    refine G_iconst (v := 0) dX5_write_12 (by decide) ?_
    refine G_puti (k := 3) tyX10 hs1 (q := (RX10, TX10, 4)) rfl inX10 tyX10_ok nmX10 (by decide) rfl rfl rfl hF_X5_33 dX5_write_13 ?_
    refine G_nm (fun g_1 e_1 => ?_)
    have w := w g_1 e_1
    refine G_aload_n 3 rfl dX5_write_16 rfl ?_
    refine G_aload_n 0 rfl dX5_write_17 rfl ?_
    refine G_iconst (v := 0) dX5_write_18 (by decide) ?_
    refine G_iload_n 2 rfl dX5_write_19 rfl ?_
    obtain ⟨Q2, ok2, w⟩ := w
    refine G_callV (Z := mX10_addPlaces) (As := [.ref r0, .int (0 : Int32), .int x2]) (st := []) hL_X5_45 hI_X10_addPlaces hS_X10_addPlaces hC_X10_addPlaces hN_X10 nX10_addPlaces (by decide) hs1 rfl rfl rfl (Nat.le_of_ble_eq_true rfl) dX5_write_20 ok2 (fun r_ h_2 z_ => ?_)
    obtain ⟨rfl, q_2⟩ := z_
    have w := w h_2 q_2
    refine G_iload_n 1 rfl dX5_write_23 rfl ?_
    refine G_iconst (v := 2) dX5_write_24 (by decide) ?_
    refine G_icmp_eq (tgt := 38) dX5_write_25 (by decide) (fun c2 => ?_) (fun c2 => ?_)
    · have w := w.1 c2
      refine G_aload_n 0 rfl dX5_write_38 rfl ?_
      refine G_iload_n 1 rfl dX5_write_39 rfl ?_
      refine G_iload_n 2 rfl dX5_write_40 rfl ?_
      refine G_aload_n 3 rfl dX5_write_41 rfl ?_
      obtain ⟨Q3, ok3, w⟩ := w
      refine G_callS (Z := mX5_writeFactors) (As := [.ref r0, .int x1, .int x2, .ref r3]) (st := []) hL_X5_49 hT_X5_writeFactors hC_X5_writeFactors hN_X5 nX5_writeFactors (by decide) rfl (Nat.le_of_ble_eq_true rfl) dX5_write_42 ok3 (fun r_ h_3 z_ => ?_)
      obtain ⟨rfl, q_3⟩ := z_
      have w := w h_3 q_3
      refine G_goto (tgt := 55) dX5_write_45 (by decide) ?_
      refine G_aload_n 3 rfl dX5_write_55 rfl ?_
      refine G_aload_n 0 rfl dX5_write_56 rfl ?_
      refine G_aload_n 0 rfl dX5_write_57 rfl ?_
      refine G_iload_n 2 rfl dX5_write_58 rfl ?_
      obtain ⟨Q4, ok4, w⟩ := w
      refine G_callV (Z := mX10_endOf) (As := [.int x2]) (st := [.ref r0, .ref r3]) hL_X5_30 hI_X10_endOf hS_X10_endOf hC_X10_endOf hN_X10 nX10_endOf (by decide) hs2 rfl rfl rfl (Nat.le_of_ble_eq_true rfl) dX5_write_59 ok4 (fun r_ h_4 z_ => ?_)
      obtain ⟨v_4, rfl, q_4⟩ := z_
      have w := w v_4 h_4 q_4
      refine G_aload_n 0 rfl dX5_write_62 rfl ?_
      refine G_geti (k := 3) hs2 (q := (RX10, TX10, 4)) rfl inX10 (by decide) (Or.inl rfl) hF_X5_33 dX5_write_63 ?_
      obtain ⟨Q5, ok5, w⟩ := w
      refine G_callV (Z := mX10_addPlaces) (As := [.ref r0, .int v_4, .int (h_4.1 r0 3)]) (st := []) hL_X5_45 hI_X10_addPlaces hS_X10_addPlaces hC_X10_addPlaces hN_X10 nX10_addPlaces (by decide) hs1 rfl rfl rfl (Nat.le_of_ble_eq_true rfl) dX5_write_66 ok5 (fun r_ h_5 z_ => ?_)
      obtain ⟨rfl, q_5⟩ := z_
      have w := w h_5 q_5
      refine G_aload_n 3 rfl dX5_write_69 rfl ?_
      obtain ⟨Q6, ok6, w⟩ := w
      refine G_callV (Z := mX10_findParts) (As := []) (st := []) hL_X5_56 hI_X10_findParts hS_X10_findParts hC_X10_findParts hN_X10 nX10_findParts (by decide) hs1 rfl rfl rfl (Nat.le_of_ble_eq_true rfl) dX5_write_70 ok6 (fun r_ h_6 z_ => ?_)
      obtain ⟨rfl, q_6⟩ := z_
      have w := w h_6 q_6
      refine G_iconst (v := 1) dX5_write_73 (by decide) ?_
      exact G_zret rfl (Or.inr rfl) dX5_write_74 ⟨_, rfl, w⟩
    · have w := w.2 c2
      refine G_iload_n 1 rfl dX5_write_28 rfl ?_
      refine G_iconst (v := 3) dX5_write_29 (by decide) ?_
      refine G_icmp_eq (tgt := 38) dX5_write_30 (by decide) (fun c3 => ?_) (fun c3 => ?_)
      · have w := w.1 c3
        refine G_aload_n 0 rfl dX5_write_38 rfl ?_
        refine G_iload_n 1 rfl dX5_write_39 rfl ?_
        refine G_iload_n 2 rfl dX5_write_40 rfl ?_
        refine G_aload_n 3 rfl dX5_write_41 rfl ?_
        obtain ⟨Q7, ok7, w⟩ := w
        refine G_callS (Z := mX5_writeFactors) (As := [.ref r0, .int x1, .int x2, .ref r3]) (st := []) hL_X5_49 hT_X5_writeFactors hC_X5_writeFactors hN_X5 nX5_writeFactors (by decide) rfl (Nat.le_of_ble_eq_true rfl) dX5_write_42 ok7 (fun r_ h_7 z_ => ?_)
        obtain ⟨rfl, q_7⟩ := z_
        have w := w h_7 q_7
        refine G_goto (tgt := 55) dX5_write_45 (by decide) ?_
        refine G_aload_n 3 rfl dX5_write_55 rfl ?_
        refine G_aload_n 0 rfl dX5_write_56 rfl ?_
        refine G_aload_n 0 rfl dX5_write_57 rfl ?_
        refine G_iload_n 2 rfl dX5_write_58 rfl ?_
        obtain ⟨Q8, ok8, w⟩ := w
        refine G_callV (Z := mX10_endOf) (As := [.int x2]) (st := [.ref r0, .ref r3]) hL_X5_30 hI_X10_endOf hS_X10_endOf hC_X10_endOf hN_X10 nX10_endOf (by decide) hs2 rfl rfl rfl (Nat.le_of_ble_eq_true rfl) dX5_write_59 ok8 (fun r_ h_8 z_ => ?_)
        obtain ⟨v_8, rfl, q_8⟩ := z_
        have w := w v_8 h_8 q_8
        refine G_aload_n 0 rfl dX5_write_62 rfl ?_
        refine G_geti (k := 3) hs2 (q := (RX10, TX10, 4)) rfl inX10 (by decide) (Or.inl rfl) hF_X5_33 dX5_write_63 ?_
        obtain ⟨Q9, ok9, w⟩ := w
        refine G_callV (Z := mX10_addPlaces) (As := [.ref r0, .int v_8, .int (h_8.1 r0 3)]) (st := []) hL_X5_45 hI_X10_addPlaces hS_X10_addPlaces hC_X10_addPlaces hN_X10 nX10_addPlaces (by decide) hs1 rfl rfl rfl (Nat.le_of_ble_eq_true rfl) dX5_write_66 ok9 (fun r_ h_9 z_ => ?_)
        obtain ⟨rfl, q_9⟩ := z_
        have w := w h_9 q_9
        refine G_aload_n 3 rfl dX5_write_69 rfl ?_
        obtain ⟨Q10, ok10, w⟩ := w
        refine G_callV (Z := mX10_findParts) (As := []) (st := []) hL_X5_56 hI_X10_findParts hS_X10_findParts hC_X10_findParts hN_X10 nX10_findParts (by decide) hs1 rfl rfl rfl (Nat.le_of_ble_eq_true rfl) dX5_write_70 ok10 (fun r_ h_10 z_ => ?_)
        obtain ⟨rfl, q_10⟩ := z_
        have w := w h_10 q_10
        refine G_iconst (v := 1) dX5_write_73 (by decide) ?_
        exact G_zret rfl (Or.inr rfl) dX5_write_74 ⟨_, rfl, w⟩
      · have w := w.2 c3
        refine G_iload_n 1 rfl dX5_write_33 rfl ?_
        refine G_iconst (v := 4) dX5_write_34 (by decide) ?_
        refine G_icmp_ne (tgt := 48) dX5_write_35 (by decide) (fun c4 => ?_) (fun c4 => ?_)
        · have w := w.1 c4
          refine G_aload_n 0 rfl dX5_write_48 rfl ?_
          refine G_iload_n 1 rfl dX5_write_49 rfl ?_
          refine G_iload_n 2 rfl dX5_write_50 rfl ?_
          refine G_aload_n 3 rfl dX5_write_51 rfl ?_
          obtain ⟨Q11, ok11, w⟩ := w
          refine G_callS (Z := mX5_writeShift) (As := [.ref r0, .int x1, .int x2, .ref r3]) (st := []) hL_X5_53 hT_X5_writeShift hC_X5_writeShift hN_X5 nX5_writeShift (by decide) rfl (Nat.le_of_ble_eq_true rfl) dX5_write_52 ok11 (fun r_ h_11 z_ => ?_)
          obtain ⟨rfl, q_11⟩ := z_
          have w := w h_11 q_11
          refine G_aload_n 3 rfl dX5_write_55 rfl ?_
          refine G_aload_n 0 rfl dX5_write_56 rfl ?_
          refine G_aload_n 0 rfl dX5_write_57 rfl ?_
          refine G_iload_n 2 rfl dX5_write_58 rfl ?_
          obtain ⟨Q12, ok12, w⟩ := w
          refine G_callV (Z := mX10_endOf) (As := [.int x2]) (st := [.ref r0, .ref r3]) hL_X5_30 hI_X10_endOf hS_X10_endOf hC_X10_endOf hN_X10 nX10_endOf (by decide) hs2 rfl rfl rfl (Nat.le_of_ble_eq_true rfl) dX5_write_59 ok12 (fun r_ h_12 z_ => ?_)
          obtain ⟨v_12, rfl, q_12⟩ := z_
          have w := w v_12 h_12 q_12
          refine G_aload_n 0 rfl dX5_write_62 rfl ?_
          refine G_geti (k := 3) hs2 (q := (RX10, TX10, 4)) rfl inX10 (by decide) (Or.inl rfl) hF_X5_33 dX5_write_63 ?_
          obtain ⟨Q13, ok13, w⟩ := w
          refine G_callV (Z := mX10_addPlaces) (As := [.ref r0, .int v_12, .int (h_12.1 r0 3)]) (st := []) hL_X5_45 hI_X10_addPlaces hS_X10_addPlaces hC_X10_addPlaces hN_X10 nX10_addPlaces (by decide) hs1 rfl rfl rfl (Nat.le_of_ble_eq_true rfl) dX5_write_66 ok13 (fun r_ h_13 z_ => ?_)
          obtain ⟨rfl, q_13⟩ := z_
          have w := w h_13 q_13
          refine G_aload_n 3 rfl dX5_write_69 rfl ?_
          obtain ⟨Q14, ok14, w⟩ := w
          refine G_callV (Z := mX10_findParts) (As := []) (st := []) hL_X5_56 hI_X10_findParts hS_X10_findParts hC_X10_findParts hN_X10 nX10_findParts (by decide) hs1 rfl rfl rfl (Nat.le_of_ble_eq_true rfl) dX5_write_70 ok14 (fun r_ h_14 z_ => ?_)
          obtain ⟨rfl, q_14⟩ := z_
          have w := w h_14 q_14
          refine G_iconst (v := 1) dX5_write_73 (by decide) ?_
          exact G_zret rfl (Or.inr rfl) dX5_write_74 ⟨_, rfl, w⟩
        · have w := w.2 c4
          refine G_aload_n 0 rfl dX5_write_38 rfl ?_
          refine G_iload_n 1 rfl dX5_write_39 rfl ?_
          refine G_iload_n 2 rfl dX5_write_40 rfl ?_
          refine G_aload_n 3 rfl dX5_write_41 rfl ?_
          obtain ⟨Q15, ok15, w⟩ := w
          refine G_callS (Z := mX5_writeFactors) (As := [.ref r0, .int x1, .int x2, .ref r3]) (st := []) hL_X5_49 hT_X5_writeFactors hC_X5_writeFactors hN_X5 nX5_writeFactors (by decide) rfl (Nat.le_of_ble_eq_true rfl) dX5_write_42 ok15 (fun r_ h_15 z_ => ?_)
          obtain ⟨rfl, q_15⟩ := z_
          have w := w h_15 q_15
          refine G_goto (tgt := 55) dX5_write_45 (by decide) ?_
          refine G_aload_n 3 rfl dX5_write_55 rfl ?_
          refine G_aload_n 0 rfl dX5_write_56 rfl ?_
          refine G_aload_n 0 rfl dX5_write_57 rfl ?_
          refine G_iload_n 2 rfl dX5_write_58 rfl ?_
          obtain ⟨Q16, ok16, w⟩ := w
          refine G_callV (Z := mX10_endOf) (As := [.int x2]) (st := [.ref r0, .ref r3]) hL_X5_30 hI_X10_endOf hS_X10_endOf hC_X10_endOf hN_X10 nX10_endOf (by decide) hs2 rfl rfl rfl (Nat.le_of_ble_eq_true rfl) dX5_write_59 ok16 (fun r_ h_16 z_ => ?_)
          obtain ⟨v_16, rfl, q_16⟩ := z_
          have w := w v_16 h_16 q_16
          refine G_aload_n 0 rfl dX5_write_62 rfl ?_
          refine G_geti (k := 3) hs2 (q := (RX10, TX10, 4)) rfl inX10 (by decide) (Or.inl rfl) hF_X5_33 dX5_write_63 ?_
          obtain ⟨Q17, ok17, w⟩ := w
          refine G_callV (Z := mX10_addPlaces) (As := [.ref r0, .int v_16, .int (h_16.1 r0 3)]) (st := []) hL_X5_45 hI_X10_addPlaces hS_X10_addPlaces hC_X10_addPlaces hN_X10 nX10_addPlaces (by decide) hs1 rfl rfl rfl (Nat.le_of_ble_eq_true rfl) dX5_write_66 ok17 (fun r_ h_17 z_ => ?_)
          obtain ⟨rfl, q_17⟩ := z_
          have w := w h_17 q_17
          refine G_aload_n 3 rfl dX5_write_69 rfl ?_
          obtain ⟨Q18, ok18, w⟩ := w
          refine G_callV (Z := mX10_findParts) (As := []) (st := []) hL_X5_56 hI_X10_findParts hS_X10_findParts hC_X10_findParts hN_X10 nX10_findParts (by decide) hs1 rfl rfl rfl (Nat.le_of_ble_eq_true rfl) dX5_write_70 ok18 (fun r_ h_18 z_ => ?_)
          obtain ⟨rfl, q_18⟩ := z_
          have w := w h_18 q_18
          refine G_iconst (v := 1) dX5_write_73 (by decide) ?_
          exact G_zret rfl (Or.inr rfl) dX5_write_74 ⟨_, rfl, w⟩
  · have w := w.2 c1
    refine G_iconst (v := 0) dX5_write_9 (by decide) ?_
    exact G_zret rfl (Or.inl rfl) dX5_write_10 ⟨_, rfl, w⟩
-- LostDigits$Rules.writeShift
theorem dX5_writeShift_0 : decode cX5_writeShift 0 = .ok (.aload_n 0, 1) := by decide +kernel
theorem dX5_writeShift_1 : decode cX5_writeShift 1 = .ok (.iload_n 2, 1) := by decide +kernel
theorem dX5_writeShift_2 : decode cX5_writeShift 2 = .ok (.invokevirtual 9, 3) := by decide +kernel
theorem dX5_writeShift_5 : decode cX5_writeShift 5 = .ok (.istore 4, 2) := by decide +kernel
theorem dX5_writeShift_7 : decode cX5_writeShift 7 = .ok (.iload_n 2, 1) := by decide +kernel
theorem dX5_writeShift_8 : decode cX5_writeShift 8 = .ok (.iconst 1, 1) := by decide +kernel
theorem dX5_writeShift_9 : decode cX5_writeShift 9 = .ok (.iadd, 1) := by decide +kernel
theorem dX5_writeShift_10 : decode cX5_writeShift 10 = .ok (.istore 5, 2) := by decide +kernel
theorem dX5_writeShift_12 : decode cX5_writeShift 12 = .ok (.aload_n 0, 1) := by decide +kernel
theorem dX5_writeShift_13 : decode cX5_writeShift 13 = .ok (.iload_n 2, 1) := by decide +kernel
theorem dX5_writeShift_14 : decode cX5_writeShift 14 = .ok (.invokevirtual 15, 3) := by decide +kernel
theorem dX5_writeShift_17 : decode cX5_writeShift 17 = .ok (.istore 6, 2) := by decide +kernel
theorem dX5_writeShift_19 : decode cX5_writeShift 19 = .ok (.aload_n 3, 1) := by decide +kernel
theorem dX5_writeShift_20 : decode cX5_writeShift 20 = .ok (.iload 4, 2) := by decide +kernel
theorem dX5_writeShift_22 : decode cX5_writeShift 22 = .ok (.invokevirtual 59, 3) := by decide +kernel
theorem dX5_writeShift_25 : decode cX5_writeShift 25 = .ok (.iload_n 1, 1) := by decide +kernel
theorem dX5_writeShift_26 : decode cX5_writeShift 26 = .ok (.ifCond .ne 20, 3) := by decide +kernel
theorem dX5_writeShift_29 : decode cX5_writeShift 29 = .ok (.aload_n 3, 1) := by decide +kernel
theorem dX5_writeShift_30 : decode cX5_writeShift 30 = .ok (.aload_n 0, 1) := by decide +kernel
theorem dX5_writeShift_31 : decode cX5_writeShift 31 = .ok (.iload 6, 2) := by decide +kernel
theorem dX5_writeShift_33 : decode cX5_writeShift 33 = .ok (.invokevirtual 63, 3) := by decide +kernel
theorem dX5_writeShift_36 : decode cX5_writeShift 36 = .ok (.aload_n 3, 1) := by decide +kernel
theorem dX5_writeShift_37 : decode cX5_writeShift 37 = .ok (.aload_n 0, 1) := by decide +kernel
theorem dX5_writeShift_38 : decode cX5_writeShift 38 = .ok (.iload 5, 2) := by decide +kernel
theorem dX5_writeShift_40 : decode cX5_writeShift 40 = .ok (.invokevirtual 63, 3) := by decide +kernel
theorem dX5_writeShift_43 : decode cX5_writeShift 43 = .ok (.goto 88, 3) := by decide +kernel
theorem dX5_writeShift_46 : decode cX5_writeShift 46 = .ok (.iload_n 1, 1) := by decide +kernel
theorem dX5_writeShift_47 : decode cX5_writeShift 47 = .ok (.bipush 6, 2) := by decide +kernel
theorem dX5_writeShift_49 : decode cX5_writeShift 49 = .ok (.if_icmp .ne 39, 3) := by decide +kernel
theorem dX5_writeShift_52 : decode cX5_writeShift 52 = .ok (.aload_n 3, 1) := by decide +kernel
theorem dX5_writeShift_53 : decode cX5_writeShift 53 = .ok (.bipush 42, 2) := by decide +kernel
theorem dX5_writeShift_55 : decode cX5_writeShift 55 = .ok (.invokevirtual 59, 3) := by decide +kernel
theorem dX5_writeShift_58 : decode cX5_writeShift 58 = .ok (.aload_n 3, 1) := by decide +kernel
theorem dX5_writeShift_59 : decode cX5_writeShift 59 = .ok (.aload_n 0, 1) := by decide +kernel
theorem dX5_writeShift_60 : decode cX5_writeShift 60 = .ok (.iload 5, 2) := by decide +kernel
theorem dX5_writeShift_62 : decode cX5_writeShift 62 = .ok (.invokevirtual 63, 3) := by decide +kernel
theorem dX5_writeShift_65 : decode cX5_writeShift 65 = .ok (.aload_n 3, 1) := by decide +kernel
theorem dX5_writeShift_66 : decode cX5_writeShift 66 = .ok (.aload_n 0, 1) := by decide +kernel
theorem dX5_writeShift_67 : decode cX5_writeShift 67 = .ok (.aload_n 0, 1) := by decide +kernel
theorem dX5_writeShift_68 : decode cX5_writeShift 68 = .ok (.iload 6, 2) := by decide +kernel
theorem dX5_writeShift_70 : decode cX5_writeShift 70 = .ok (.invokevirtual 15, 3) := by decide +kernel
theorem dX5_writeShift_73 : decode cX5_writeShift 73 = .ok (.invokevirtual 63, 3) := by decide +kernel
theorem dX5_writeShift_76 : decode cX5_writeShift 76 = .ok (.aload_n 3, 1) := by decide +kernel
theorem dX5_writeShift_77 : decode cX5_writeShift 77 = .ok (.aload_n 0, 1) := by decide +kernel
theorem dX5_writeShift_78 : decode cX5_writeShift 78 = .ok (.iload 6, 2) := by decide +kernel
theorem dX5_writeShift_80 : decode cX5_writeShift 80 = .ok (.iconst 1, 1) := by decide +kernel
theorem dX5_writeShift_81 : decode cX5_writeShift 81 = .ok (.iadd, 1) := by decide +kernel
theorem dX5_writeShift_82 : decode cX5_writeShift 82 = .ok (.invokevirtual 63, 3) := by decide +kernel
theorem dX5_writeShift_85 : decode cX5_writeShift 85 = .ok (.goto 46, 3) := by decide +kernel
theorem dX5_writeShift_88 : decode cX5_writeShift 88 = .ok (.aload_n 3, 1) := by decide +kernel
theorem dX5_writeShift_89 : decode cX5_writeShift 89 = .ok (.aload_n 0, 1) := by decide +kernel
theorem dX5_writeShift_90 : decode cX5_writeShift 90 = .ok (.iload 5, 2) := by decide +kernel
theorem dX5_writeShift_92 : decode cX5_writeShift 92 = .ok (.iconst 1, 1) := by decide +kernel
theorem dX5_writeShift_93 : decode cX5_writeShift 93 = .ok (.iadd, 1) := by decide +kernel
theorem dX5_writeShift_94 : decode cX5_writeShift 94 = .ok (.invokevirtual 63, 3) := by decide +kernel
theorem dX5_writeShift_97 : decode cX5_writeShift 97 = .ok (.aload_n 3, 1) := by decide +kernel
theorem dX5_writeShift_98 : decode cX5_writeShift 98 = .ok (.iload_n 1, 1) := by decide +kernel
theorem dX5_writeShift_99 : decode cX5_writeShift 99 = .ok (.iconst 5, 1) := by decide +kernel
theorem dX5_writeShift_100 : decode cX5_writeShift 100 = .ok (.if_icmp .ne 8, 3) := by decide +kernel
theorem dX5_writeShift_103 : decode cX5_writeShift 103 = .ok (.bipush 43, 2) := by decide +kernel
theorem dX5_writeShift_105 : decode cX5_writeShift 105 = .ok (.goto 5, 3) := by decide +kernel
theorem dX5_writeShift_108 : decode cX5_writeShift 108 = .ok (.iload 4, 2) := by decide +kernel
theorem dX5_writeShift_110 : decode cX5_writeShift 110 = .ok (.invokevirtual 59, 3) := by decide +kernel
theorem dX5_writeShift_113 : decode cX5_writeShift 113 = .ok (.aload_n 3, 1) := by decide +kernel
theorem dX5_writeShift_114 : decode cX5_writeShift 114 = .ok (.aload_n 0, 1) := by decide +kernel
theorem dX5_writeShift_115 : decode cX5_writeShift 115 = .ok (.aload_n 0, 1) := by decide +kernel
theorem dX5_writeShift_116 : decode cX5_writeShift 116 = .ok (.iload 5, 2) := by decide +kernel
theorem dX5_writeShift_118 : decode cX5_writeShift 118 = .ok (.invokevirtual 15, 3) := by decide +kernel
theorem dX5_writeShift_121 : decode cX5_writeShift 121 = .ok (.invokevirtual 63, 3) := by decide +kernel
theorem dX5_writeShift_124 : decode cX5_writeShift 124 = .ok (.aload_n 3, 1) := by decide +kernel
theorem dX5_writeShift_125 : decode cX5_writeShift 125 = .ok (.aload_n 0, 1) := by decide +kernel
theorem dX5_writeShift_126 : decode cX5_writeShift 126 = .ok (.iload 6, 2) := by decide +kernel
theorem dX5_writeShift_128 : decode cX5_writeShift 128 = .ok (.invokevirtual 63, 3) := by decide +kernel
theorem dX5_writeShift_131 : decode cX5_writeShift 131 = .ok (.return_, 1) := by decide +kernel
set_option maxRecDepth 10000 in
theorem NX5_writeShift_0 {d : Nat} {S : fW} {h : fH} {Q : fH → Prop} {r0 : Nat} {x1 : Int32} {x2 : Int32} {r3 : Nat} {r0_signs r0_ends r0_letters r3_signs r3_ends r3_letters : Nat}  
    (hs1 : (r0, shX10 r0_signs r0_ends r0_letters) ∈ S)
    (hs2 : (r3, shX10 r3_signs r3_ends r3_letters) ∈ S)
    (w : ∃ Q1 : Int32 → fH → Prop, OkI d mX10_signAt S [.ref r0, .int x2] h Q1 ∧ ∀ (v_1 : Int32) (h_1 : fH), Q1 v_1 h_1 → ∃ Q2 : Int32 → fH → Prop, OkI d mX10_secondOf S [.ref r0, .int x2] h_1 Q2 ∧ ∀ (v_2 : Int32) (h_2 : fH), Q2 v_2 h_2 → ∃ Q3 : fH → Prop, OkV d mX10_add S [.ref r3, .int v_1] h_2 Q3 ∧ ∀ (h_3 : fH), Q3 h_3 → ((¬ x1 = 0 → ((¬ x1 = (6 : Int32) → ∃ Q4 : fH → Prop, OkV d mX10_addPart S [.ref r3, .ref r0, .int ((x2 + (1 : Int32)) + (1 : Int32))] h_3 Q4 ∧ ∀ (h_4 : fH), Q4 h_4 → ((¬ x1 = (5 : Int32) → ∃ Q5 : fH → Prop, OkV d mX10_add S [.ref r3, .int v_1] h_4 Q5 ∧ ∀ (h_5 : fH), Q5 h_5 → ∃ Q6 : Int32 → fH → Prop, OkI d mX10_secondOf S [.ref r0, .int (x2 + (1 : Int32))] h_5 Q6 ∧ ∀ (v_6 : Int32) (h_6 : fH), Q6 v_6 h_6 → ∃ Q7 : fH → Prop, OkV d mX10_addPart S [.ref r3, .ref r0, .int v_6] h_6 Q7 ∧ ∀ (h_7 : fH), Q7 h_7 → ∃ Q8 : fH → Prop, OkV d mX10_addPart S [.ref r3, .ref r0, .int v_2] h_7 Q8 ∧ ∀ (h_8 : fH), Q8 h_8 → Q h_8) ∧ (x1 = (5 : Int32) → ∃ Q9 : fH → Prop, OkV d mX10_add S [.ref r3, .int (43 : Int32)] h_4 Q9 ∧ ∀ (h_9 : fH), Q9 h_9 → ∃ Q10 : Int32 → fH → Prop, OkI d mX10_secondOf S [.ref r0, .int (x2 + (1 : Int32))] h_9 Q10 ∧ ∀ (v_10 : Int32) (h_10 : fH), Q10 v_10 h_10 → ∃ Q11 : fH → Prop, OkV d mX10_addPart S [.ref r3, .ref r0, .int v_10] h_10 Q11 ∧ ∀ (h_11 : fH), Q11 h_11 → ∃ Q12 : fH → Prop, OkV d mX10_addPart S [.ref r3, .ref r0, .int v_2] h_11 Q12 ∧ ∀ (h_12 : fH), Q12 h_12 → Q h_12))) ∧ (x1 = (6 : Int32) → ∃ Q13 : fH → Prop, OkV d mX10_add S [.ref r3, .int (42 : Int32)] h_3 Q13 ∧ ∀ (h_13 : fH), Q13 h_13 → ∃ Q14 : fH → Prop, OkV d mX10_addPart S [.ref r3, .ref r0, .int (x2 + (1 : Int32))] h_13 Q14 ∧ ∀ (h_14 : fH), Q14 h_14 → ∃ Q15 : Int32 → fH → Prop, OkI d mX10_secondOf S [.ref r0, .int v_2] h_14 Q15 ∧ ∀ (v_15 : Int32) (h_15 : fH), Q15 v_15 h_15 → ∃ Q16 : fH → Prop, OkV d mX10_addPart S [.ref r3, .ref r0, .int v_15] h_15 Q16 ∧ ∀ (h_16 : fH), Q16 h_16 → ∃ Q17 : fH → Prop, OkV d mX10_addPart S [.ref r3, .ref r0, .int (v_2 + (1 : Int32))] h_16 Q17 ∧ ∀ (h_17 : fH), Q17 h_17 → Q h_17))) ∧ (x1 = 0 → ∃ Q18 : fH → Prop, OkV d mX10_addPart S [.ref r3, .ref r0, .int v_2] h_3 Q18 ∧ ∀ (h_18 : fH), Q18 h_18 → ∃ Q19 : fH → Prop, OkV d mX10_addPart S [.ref r3, .ref r0, .int (x2 + (1 : Int32))] h_18 Q19 ∧ ∀ (h_19 : fH), Q19 h_19 → Q h_19))) :
    OkV (d + 1) mX5_writeShift S [.ref r0, .int x1, .int x2, .ref r3] h Q := by
  refine Ok.of (by decide) (Nat.le_of_ble_eq_true rfl) ?_
  refine G_aload_n 0 rfl dX5_writeShift_0 rfl ?_
  refine G_iload_n 2 rfl dX5_writeShift_1 rfl ?_
  obtain ⟨Q1, ok1, w⟩ := w
  refine G_callV (Z := mX10_signAt) (As := [.int x2]) (st := []) hL_X5_9 hI_X10_signAt hS_X10_signAt hC_X10_signAt hN_X10 nX10_signAt (by decide) hs1 rfl rfl rfl (Nat.le_of_ble_eq_true rfl) dX5_writeShift_2 ok1 (fun r_ h_1 z_ => ?_)
  obtain ⟨v_1, rfl, q_1⟩ := z_
  have w := w v_1 h_1 q_1
  refine G_istore dX5_writeShift_5 (by decide) (lv' := [(4, .int v_1), (0, .ref r0), (1, .int x1), (2, .int x2), (3, .ref r3)]) rfl ?_
  refine G_iload_n 3 rfl dX5_writeShift_7 rfl ?_
  refine G_iconst (v := 1) dX5_writeShift_8 (by decide) ?_
  refine G_iadd dX5_writeShift_9 ?_
  refine G_istore dX5_writeShift_10 (by decide) (lv' := [(5, .int (x2 + (1 : Int32))), (4, .int v_1), (0, .ref r0), (1, .int x1), (2, .int x2), (3, .ref r3)]) rfl ?_
  refine G_aload_n 2 rfl dX5_writeShift_12 rfl ?_
  refine G_iload_n 4 rfl dX5_writeShift_13 rfl ?_
  obtain ⟨Q2, ok2, w⟩ := w
  refine G_callV (Z := mX10_secondOf) (As := [.int x2]) (st := []) hL_X5_15 hI_X10_secondOf hS_X10_secondOf hC_X10_secondOf hN_X10 nX10_secondOf (by decide) hs1 rfl rfl rfl (Nat.le_of_ble_eq_true rfl) dX5_writeShift_14 ok2 (fun r_ h_2 z_ => ?_)
  obtain ⟨v_2, rfl, q_2⟩ := z_
  have w := w v_2 h_2 q_2
  refine G_istore dX5_writeShift_17 (by decide) (lv' := [(6, .int v_2), (5, .int (x2 + (1 : Int32))), (4, .int v_1), (0, .ref r0), (1, .int x1), (2, .int x2), (3, .ref r3)]) rfl ?_
  refine G_aload_n 6 rfl dX5_writeShift_19 rfl ?_
  refine G_iload 2 rfl dX5_writeShift_20 ?_
  obtain ⟨Q3, ok3, w⟩ := w
  refine G_callV (Z := mX10_add) (As := [.int v_1]) (st := []) hL_X5_59 hI_X10_add hS_X10_add hC_X10_add hN_X10 nX10_add (by decide) hs2 rfl rfl rfl (Nat.le_of_ble_eq_true rfl) dX5_writeShift_22 ok3 (fun r_ h_3 z_ => ?_)
  obtain ⟨rfl, q_3⟩ := z_
  have w := w h_3 q_3
  refine G_iload_n 4 rfl dX5_writeShift_25 rfl ?_
  refine G_if_ne (tgt := 46) dX5_writeShift_26 (by decide) (fun c1 => ?_) (fun c1 => ?_)
  · have w := w.1 c1
    refine G_iload_n 4 rfl dX5_writeShift_46 rfl ?_
    refine G_bipush (v := 6) dX5_writeShift_47 (by decide) ?_
    refine G_icmp_ne (tgt := 88) dX5_writeShift_49 (by decide) (fun c2 => ?_) (fun c2 => ?_)
    · have w := w.1 c2
      refine G_aload_n 6 rfl dX5_writeShift_88 rfl ?_
      refine G_aload_n 3 rfl dX5_writeShift_89 rfl ?_
      refine G_iload 1 rfl dX5_writeShift_90 ?_
      refine G_iconst (v := 1) dX5_writeShift_92 (by decide) ?_
      refine G_iadd dX5_writeShift_93 ?_
      obtain ⟨Q4, ok4, w⟩ := w
      refine G_callV (Z := mX10_addPart) (As := [.ref r0, .int ((x2 + (1 : Int32)) + (1 : Int32))]) (st := []) hL_X5_63 hI_X10_addPart hS_X10_addPart hC_X10_addPart hN_X10 nX10_addPart (by decide) hs2 rfl rfl rfl (Nat.le_of_ble_eq_true rfl) dX5_writeShift_94 ok4 (fun r_ h_4 z_ => ?_)
      obtain ⟨rfl, q_4⟩ := z_
      have w := w h_4 q_4
      refine G_aload_n 6 rfl dX5_writeShift_97 rfl ?_
      refine G_iload_n 4 rfl dX5_writeShift_98 rfl ?_
      refine G_iconst (v := 5) dX5_writeShift_99 (by decide) ?_
      refine G_icmp_ne (tgt := 108) dX5_writeShift_100 (by decide) (fun c3 => ?_) (fun c3 => ?_)
      · have w := w.1 c3
        refine G_iload 2 rfl dX5_writeShift_108 ?_
        obtain ⟨Q5, ok5, w⟩ := w
        refine G_callV (Z := mX10_add) (As := [.int v_1]) (st := []) hL_X5_59 hI_X10_add hS_X10_add hC_X10_add hN_X10 nX10_add (by decide) hs2 rfl rfl rfl (Nat.le_of_ble_eq_true rfl) dX5_writeShift_110 ok5 (fun r_ h_5 z_ => ?_)
        obtain ⟨rfl, q_5⟩ := z_
        have w := w h_5 q_5
        refine G_aload_n 6 rfl dX5_writeShift_113 rfl ?_
        refine G_aload_n 3 rfl dX5_writeShift_114 rfl ?_
        refine G_aload_n 3 rfl dX5_writeShift_115 rfl ?_
        refine G_iload 1 rfl dX5_writeShift_116 ?_
        obtain ⟨Q6, ok6, w⟩ := w
        refine G_callV (Z := mX10_secondOf) (As := [.int (x2 + (1 : Int32))]) (st := [.ref r0, .ref r3]) hL_X5_15 hI_X10_secondOf hS_X10_secondOf hC_X10_secondOf hN_X10 nX10_secondOf (by decide) hs1 rfl rfl rfl (Nat.le_of_ble_eq_true rfl) dX5_writeShift_118 ok6 (fun r_ h_6 z_ => ?_)
        obtain ⟨v_6, rfl, q_6⟩ := z_
        have w := w v_6 h_6 q_6
        obtain ⟨Q7, ok7, w⟩ := w
        refine G_callV (Z := mX10_addPart) (As := [.ref r0, .int v_6]) (st := []) hL_X5_63 hI_X10_addPart hS_X10_addPart hC_X10_addPart hN_X10 nX10_addPart (by decide) hs2 rfl rfl rfl (Nat.le_of_ble_eq_true rfl) dX5_writeShift_121 ok7 (fun r_ h_7 z_ => ?_)
        obtain ⟨rfl, q_7⟩ := z_
        have w := w h_7 q_7
        refine G_aload_n 6 rfl dX5_writeShift_124 rfl ?_
        refine G_aload_n 3 rfl dX5_writeShift_125 rfl ?_
        refine G_iload 0 rfl dX5_writeShift_126 ?_
        obtain ⟨Q8, ok8, w⟩ := w
        refine G_callV (Z := mX10_addPart) (As := [.ref r0, .int v_2]) (st := []) hL_X5_63 hI_X10_addPart hS_X10_addPart hC_X10_addPart hN_X10 nX10_addPart (by decide) hs2 rfl rfl rfl (Nat.le_of_ble_eq_true rfl) dX5_writeShift_128 ok8 (fun r_ h_8 z_ => ?_)
        obtain ⟨rfl, q_8⟩ := z_
        have w := w h_8 q_8
        exact G_vret rfl dX5_writeShift_131 ⟨rfl, w⟩
      · have w := w.2 c3
        refine G_bipush (v := 43) dX5_writeShift_103 (by decide) ?_
        refine G_goto (tgt := 110) dX5_writeShift_105 (by decide) ?_
        obtain ⟨Q9, ok9, w⟩ := w
        refine G_callV (Z := mX10_add) (As := [.int (43 : Int32)]) (st := []) hL_X5_59 hI_X10_add hS_X10_add hC_X10_add hN_X10 nX10_add (by decide) hs2 rfl rfl rfl (Nat.le_of_ble_eq_true rfl) dX5_writeShift_110 ok9 (fun r_ h_9 z_ => ?_)
        obtain ⟨rfl, q_9⟩ := z_
        have w := w h_9 q_9
        refine G_aload_n 6 rfl dX5_writeShift_113 rfl ?_
        refine G_aload_n 3 rfl dX5_writeShift_114 rfl ?_
        refine G_aload_n 3 rfl dX5_writeShift_115 rfl ?_
        refine G_iload 1 rfl dX5_writeShift_116 ?_
        obtain ⟨Q10, ok10, w⟩ := w
        refine G_callV (Z := mX10_secondOf) (As := [.int (x2 + (1 : Int32))]) (st := [.ref r0, .ref r3]) hL_X5_15 hI_X10_secondOf hS_X10_secondOf hC_X10_secondOf hN_X10 nX10_secondOf (by decide) hs1 rfl rfl rfl (Nat.le_of_ble_eq_true rfl) dX5_writeShift_118 ok10 (fun r_ h_10 z_ => ?_)
        obtain ⟨v_10, rfl, q_10⟩ := z_
        have w := w v_10 h_10 q_10
        obtain ⟨Q11, ok11, w⟩ := w
        refine G_callV (Z := mX10_addPart) (As := [.ref r0, .int v_10]) (st := []) hL_X5_63 hI_X10_addPart hS_X10_addPart hC_X10_addPart hN_X10 nX10_addPart (by decide) hs2 rfl rfl rfl (Nat.le_of_ble_eq_true rfl) dX5_writeShift_121 ok11 (fun r_ h_11 z_ => ?_)
        obtain ⟨rfl, q_11⟩ := z_
        have w := w h_11 q_11
        refine G_aload_n 6 rfl dX5_writeShift_124 rfl ?_
        refine G_aload_n 3 rfl dX5_writeShift_125 rfl ?_
        refine G_iload 0 rfl dX5_writeShift_126 ?_
        obtain ⟨Q12, ok12, w⟩ := w
        refine G_callV (Z := mX10_addPart) (As := [.ref r0, .int v_2]) (st := []) hL_X5_63 hI_X10_addPart hS_X10_addPart hC_X10_addPart hN_X10 nX10_addPart (by decide) hs2 rfl rfl rfl (Nat.le_of_ble_eq_true rfl) dX5_writeShift_128 ok12 (fun r_ h_12 z_ => ?_)
        obtain ⟨rfl, q_12⟩ := z_
        have w := w h_12 q_12
        exact G_vret rfl dX5_writeShift_131 ⟨rfl, w⟩
    · have w := w.2 c2
      refine G_aload_n 6 rfl dX5_writeShift_52 rfl ?_
      refine G_bipush (v := 42) dX5_writeShift_53 (by decide) ?_
      obtain ⟨Q13, ok13, w⟩ := w
      refine G_callV (Z := mX10_add) (As := [.int (42 : Int32)]) (st := []) hL_X5_59 hI_X10_add hS_X10_add hC_X10_add hN_X10 nX10_add (by decide) hs2 rfl rfl rfl (Nat.le_of_ble_eq_true rfl) dX5_writeShift_55 ok13 (fun r_ h_13 z_ => ?_)
      obtain ⟨rfl, q_13⟩ := z_
      have w := w h_13 q_13
      refine G_aload_n 6 rfl dX5_writeShift_58 rfl ?_
      refine G_aload_n 3 rfl dX5_writeShift_59 rfl ?_
      refine G_iload 1 rfl dX5_writeShift_60 ?_
      obtain ⟨Q14, ok14, w⟩ := w
      refine G_callV (Z := mX10_addPart) (As := [.ref r0, .int (x2 + (1 : Int32))]) (st := []) hL_X5_63 hI_X10_addPart hS_X10_addPart hC_X10_addPart hN_X10 nX10_addPart (by decide) hs2 rfl rfl rfl (Nat.le_of_ble_eq_true rfl) dX5_writeShift_62 ok14 (fun r_ h_14 z_ => ?_)
      obtain ⟨rfl, q_14⟩ := z_
      have w := w h_14 q_14
      refine G_aload_n 6 rfl dX5_writeShift_65 rfl ?_
      refine G_aload_n 3 rfl dX5_writeShift_66 rfl ?_
      refine G_aload_n 3 rfl dX5_writeShift_67 rfl ?_
      refine G_iload 0 rfl dX5_writeShift_68 ?_
      obtain ⟨Q15, ok15, w⟩ := w
      refine G_callV (Z := mX10_secondOf) (As := [.int v_2]) (st := [.ref r0, .ref r3]) hL_X5_15 hI_X10_secondOf hS_X10_secondOf hC_X10_secondOf hN_X10 nX10_secondOf (by decide) hs1 rfl rfl rfl (Nat.le_of_ble_eq_true rfl) dX5_writeShift_70 ok15 (fun r_ h_15 z_ => ?_)
      obtain ⟨v_15, rfl, q_15⟩ := z_
      have w := w v_15 h_15 q_15
      obtain ⟨Q16, ok16, w⟩ := w
      refine G_callV (Z := mX10_addPart) (As := [.ref r0, .int v_15]) (st := []) hL_X5_63 hI_X10_addPart hS_X10_addPart hC_X10_addPart hN_X10 nX10_addPart (by decide) hs2 rfl rfl rfl (Nat.le_of_ble_eq_true rfl) dX5_writeShift_73 ok16 (fun r_ h_16 z_ => ?_)
      obtain ⟨rfl, q_16⟩ := z_
      have w := w h_16 q_16
      refine G_aload_n 6 rfl dX5_writeShift_76 rfl ?_
      refine G_aload_n 3 rfl dX5_writeShift_77 rfl ?_
      refine G_iload 0 rfl dX5_writeShift_78 ?_
      refine G_iconst (v := 1) dX5_writeShift_80 (by decide) ?_
      refine G_iadd dX5_writeShift_81 ?_
      obtain ⟨Q17, ok17, w⟩ := w
      refine G_callV (Z := mX10_addPart) (As := [.ref r0, .int (v_2 + (1 : Int32))]) (st := []) hL_X5_63 hI_X10_addPart hS_X10_addPart hC_X10_addPart hN_X10 nX10_addPart (by decide) hs2 rfl rfl rfl (Nat.le_of_ble_eq_true rfl) dX5_writeShift_82 ok17 (fun r_ h_17 z_ => ?_)
      obtain ⟨rfl, q_17⟩ := z_
      have w := w h_17 q_17
      refine G_goto (tgt := 131) dX5_writeShift_85 (by decide) ?_
      exact G_vret rfl dX5_writeShift_131 ⟨rfl, w⟩
  · have w := w.2 c1
    refine G_aload_n 6 rfl dX5_writeShift_29 rfl ?_
    refine G_aload_n 3 rfl dX5_writeShift_30 rfl ?_
    refine G_iload 0 rfl dX5_writeShift_31 ?_
    obtain ⟨Q18, ok18, w⟩ := w
    refine G_callV (Z := mX10_addPart) (As := [.ref r0, .int v_2]) (st := []) hL_X5_63 hI_X10_addPart hS_X10_addPart hC_X10_addPart hN_X10 nX10_addPart (by decide) hs2 rfl rfl rfl (Nat.le_of_ble_eq_true rfl) dX5_writeShift_33 ok18 (fun r_ h_18 z_ => ?_)
    obtain ⟨rfl, q_18⟩ := z_
    have w := w h_18 q_18
    refine G_aload_n 6 rfl dX5_writeShift_36 rfl ?_
    refine G_aload_n 3 rfl dX5_writeShift_37 rfl ?_
    refine G_iload 1 rfl dX5_writeShift_38 ?_
    obtain ⟨Q19, ok19, w⟩ := w
    refine G_callV (Z := mX10_addPart) (As := [.ref r0, .int (x2 + (1 : Int32))]) (st := []) hL_X5_63 hI_X10_addPart hS_X10_addPart hC_X10_addPart hN_X10 nX10_addPart (by decide) hs2 rfl rfl rfl (Nat.le_of_ble_eq_true rfl) dX5_writeShift_40 ok19 (fun r_ h_19 z_ => ?_)
    obtain ⟨rfl, q_19⟩ := z_
    have w := w h_19 q_19
    refine G_goto (tgt := 131) dX5_writeShift_43 (by decide) ?_
    exact G_vret rfl dX5_writeShift_131 ⟨rfl, w⟩
-- LostDigits$Rules.writeFactors
theorem dX5_writeFactors_0 : decode cX5_writeFactors 0 = .ok (.iload_n 2, 1) := by decide +kernel
theorem dX5_writeFactors_1 : decode cX5_writeFactors 1 = .ok (.iconst 1, 1) := by decide +kernel
theorem dX5_writeFactors_2 : decode cX5_writeFactors 2 = .ok (.iadd, 1) := by decide +kernel
theorem dX5_writeFactors_3 : decode cX5_writeFactors 3 = .ok (.istore 4, 2) := by decide +kernel
theorem dX5_writeFactors_5 : decode cX5_writeFactors 5 = .ok (.aload_n 0, 1) := by decide +kernel
theorem dX5_writeFactors_6 : decode cX5_writeFactors 6 = .ok (.iload_n 2, 1) := by decide +kernel
theorem dX5_writeFactors_7 : decode cX5_writeFactors 7 = .ok (.invokevirtual 15, 3) := by decide +kernel
theorem dX5_writeFactors_10 : decode cX5_writeFactors 10 = .ok (.istore 5, 2) := by decide +kernel
theorem dX5_writeFactors_12 : decode cX5_writeFactors 12 = .ok (.iload_n 1, 1) := by decide +kernel
theorem dX5_writeFactors_13 : decode cX5_writeFactors 13 = .ok (.iconst 2, 1) := by decide +kernel
theorem dX5_writeFactors_14 : decode cX5_writeFactors 14 = .ok (.if_icmp .ne 62, 3) := by decide +kernel
theorem dX5_writeFactors_17 : decode cX5_writeFactors 17 = .ok (.aload_n 3, 1) := by decide +kernel
theorem dX5_writeFactors_18 : decode cX5_writeFactors 18 = .ok (.aload_n 0, 1) := by decide +kernel
theorem dX5_writeFactors_19 : decode cX5_writeFactors 19 = .ok (.iload 5, 2) := by decide +kernel
theorem dX5_writeFactors_21 : decode cX5_writeFactors 21 = .ok (.invokevirtual 9, 3) := by decide +kernel
theorem dX5_writeFactors_24 : decode cX5_writeFactors 24 = .ok (.invokevirtual 59, 3) := by decide +kernel
theorem dX5_writeFactors_27 : decode cX5_writeFactors 27 = .ok (.aload_n 3, 1) := by decide +kernel
theorem dX5_writeFactors_28 : decode cX5_writeFactors 28 = .ok (.bipush 42, 2) := by decide +kernel
theorem dX5_writeFactors_30 : decode cX5_writeFactors 30 = .ok (.invokevirtual 59, 3) := by decide +kernel
theorem dX5_writeFactors_33 : decode cX5_writeFactors 33 = .ok (.aload_n 3, 1) := by decide +kernel
theorem dX5_writeFactors_34 : decode cX5_writeFactors 34 = .ok (.aload_n 0, 1) := by decide +kernel
theorem dX5_writeFactors_35 : decode cX5_writeFactors 35 = .ok (.iload 4, 2) := by decide +kernel
theorem dX5_writeFactors_37 : decode cX5_writeFactors 37 = .ok (.invokevirtual 63, 3) := by decide +kernel
theorem dX5_writeFactors_40 : decode cX5_writeFactors 40 = .ok (.aload_n 3, 1) := by decide +kernel
theorem dX5_writeFactors_41 : decode cX5_writeFactors 41 = .ok (.aload_n 0, 1) := by decide +kernel
theorem dX5_writeFactors_42 : decode cX5_writeFactors 42 = .ok (.iload 5, 2) := by decide +kernel
theorem dX5_writeFactors_44 : decode cX5_writeFactors 44 = .ok (.iconst 1, 1) := by decide +kernel
theorem dX5_writeFactors_45 : decode cX5_writeFactors 45 = .ok (.iadd, 1) := by decide +kernel
theorem dX5_writeFactors_46 : decode cX5_writeFactors 46 = .ok (.invokevirtual 63, 3) := by decide +kernel
theorem dX5_writeFactors_49 : decode cX5_writeFactors 49 = .ok (.aload_n 3, 1) := by decide +kernel
theorem dX5_writeFactors_50 : decode cX5_writeFactors 50 = .ok (.bipush 42, 2) := by decide +kernel
theorem dX5_writeFactors_52 : decode cX5_writeFactors 52 = .ok (.invokevirtual 59, 3) := by decide +kernel
theorem dX5_writeFactors_55 : decode cX5_writeFactors 55 = .ok (.aload_n 3, 1) := by decide +kernel
theorem dX5_writeFactors_56 : decode cX5_writeFactors 56 = .ok (.aload_n 0, 1) := by decide +kernel
theorem dX5_writeFactors_57 : decode cX5_writeFactors 57 = .ok (.iload 4, 2) := by decide +kernel
theorem dX5_writeFactors_59 : decode cX5_writeFactors 59 = .ok (.invokevirtual 63, 3) := by decide +kernel
theorem dX5_writeFactors_62 : decode cX5_writeFactors 62 = .ok (.aload_n 3, 1) := by decide +kernel
theorem dX5_writeFactors_63 : decode cX5_writeFactors 63 = .ok (.aload_n 0, 1) := by decide +kernel
theorem dX5_writeFactors_64 : decode cX5_writeFactors 64 = .ok (.aload_n 0, 1) := by decide +kernel
theorem dX5_writeFactors_65 : decode cX5_writeFactors 65 = .ok (.iload 5, 2) := by decide +kernel
theorem dX5_writeFactors_67 : decode cX5_writeFactors 67 = .ok (.invokevirtual 15, 3) := by decide +kernel
theorem dX5_writeFactors_70 : decode cX5_writeFactors 70 = .ok (.invokevirtual 63, 3) := by decide +kernel
theorem dX5_writeFactors_73 : decode cX5_writeFactors 73 = .ok (.goto 111, 3) := by decide +kernel
theorem dX5_writeFactors_76 : decode cX5_writeFactors 76 = .ok (.iload_n 1, 1) := by decide +kernel
theorem dX5_writeFactors_77 : decode cX5_writeFactors 77 = .ok (.iconst 3, 1) := by decide +kernel
theorem dX5_writeFactors_78 : decode cX5_writeFactors 78 = .ok (.if_icmp .ne 52, 3) := by decide +kernel
theorem dX5_writeFactors_81 : decode cX5_writeFactors 81 = .ok (.aload_n 3, 1) := by decide +kernel
theorem dX5_writeFactors_82 : decode cX5_writeFactors 82 = .ok (.bipush 42, 2) := by decide +kernel
theorem dX5_writeFactors_84 : decode cX5_writeFactors 84 = .ok (.invokevirtual 59, 3) := by decide +kernel
theorem dX5_writeFactors_87 : decode cX5_writeFactors 87 = .ok (.aload_n 3, 1) := by decide +kernel
theorem dX5_writeFactors_88 : decode cX5_writeFactors 88 = .ok (.aload_n 0, 1) := by decide +kernel
theorem dX5_writeFactors_89 : decode cX5_writeFactors 89 = .ok (.iload 4, 2) := by decide +kernel
theorem dX5_writeFactors_91 : decode cX5_writeFactors 91 = .ok (.iconst 1, 1) := by decide +kernel
theorem dX5_writeFactors_92 : decode cX5_writeFactors 92 = .ok (.iadd, 1) := by decide +kernel
theorem dX5_writeFactors_93 : decode cX5_writeFactors 93 = .ok (.invokevirtual 63, 3) := by decide +kernel
theorem dX5_writeFactors_96 : decode cX5_writeFactors 96 = .ok (.aload_n 3, 1) := by decide +kernel
theorem dX5_writeFactors_97 : decode cX5_writeFactors 97 = .ok (.aload_n 0, 1) := by decide +kernel
theorem dX5_writeFactors_98 : decode cX5_writeFactors 98 = .ok (.iload_n 2, 1) := by decide +kernel
theorem dX5_writeFactors_99 : decode cX5_writeFactors 99 = .ok (.invokevirtual 9, 3) := by decide +kernel
theorem dX5_writeFactors_102 : decode cX5_writeFactors 102 = .ok (.invokevirtual 59, 3) := by decide +kernel
theorem dX5_writeFactors_105 : decode cX5_writeFactors 105 = .ok (.aload_n 3, 1) := by decide +kernel
theorem dX5_writeFactors_106 : decode cX5_writeFactors 106 = .ok (.aload_n 0, 1) := by decide +kernel
theorem dX5_writeFactors_107 : decode cX5_writeFactors 107 = .ok (.aload_n 0, 1) := by decide +kernel
theorem dX5_writeFactors_108 : decode cX5_writeFactors 108 = .ok (.iload 4, 2) := by decide +kernel
theorem dX5_writeFactors_110 : decode cX5_writeFactors 110 = .ok (.invokevirtual 15, 3) := by decide +kernel
theorem dX5_writeFactors_113 : decode cX5_writeFactors 113 = .ok (.invokevirtual 63, 3) := by decide +kernel
theorem dX5_writeFactors_116 : decode cX5_writeFactors 116 = .ok (.aload_n 3, 1) := by decide +kernel
theorem dX5_writeFactors_117 : decode cX5_writeFactors 117 = .ok (.aload_n 0, 1) := by decide +kernel
theorem dX5_writeFactors_118 : decode cX5_writeFactors 118 = .ok (.aload_n 0, 1) := by decide +kernel
theorem dX5_writeFactors_119 : decode cX5_writeFactors 119 = .ok (.iload 5, 2) := by decide +kernel
theorem dX5_writeFactors_121 : decode cX5_writeFactors 121 = .ok (.invokevirtual 15, 3) := by decide +kernel
theorem dX5_writeFactors_124 : decode cX5_writeFactors 124 = .ok (.invokevirtual 63, 3) := by decide +kernel
theorem dX5_writeFactors_127 : decode cX5_writeFactors 127 = .ok (.goto 57, 3) := by decide +kernel
theorem dX5_writeFactors_130 : decode cX5_writeFactors 130 = .ok (.aload_n 3, 1) := by decide +kernel
theorem dX5_writeFactors_131 : decode cX5_writeFactors 131 = .ok (.bipush 42, 2) := by decide +kernel
theorem dX5_writeFactors_133 : decode cX5_writeFactors 133 = .ok (.invokevirtual 59, 3) := by decide +kernel
theorem dX5_writeFactors_136 : decode cX5_writeFactors 136 = .ok (.aload_n 3, 1) := by decide +kernel
theorem dX5_writeFactors_137 : decode cX5_writeFactors 137 = .ok (.bipush 45, 2) := by decide +kernel
theorem dX5_writeFactors_139 : decode cX5_writeFactors 139 = .ok (.invokevirtual 59, 3) := by decide +kernel
theorem dX5_writeFactors_142 : decode cX5_writeFactors 142 = .ok (.aload_n 3, 1) := by decide +kernel
theorem dX5_writeFactors_143 : decode cX5_writeFactors 143 = .ok (.aload_n 0, 1) := by decide +kernel
theorem dX5_writeFactors_144 : decode cX5_writeFactors 144 = .ok (.iload 4, 2) := by decide +kernel
theorem dX5_writeFactors_146 : decode cX5_writeFactors 146 = .ok (.iconst 1, 1) := by decide +kernel
theorem dX5_writeFactors_147 : decode cX5_writeFactors 147 = .ok (.iadd, 1) := by decide +kernel
theorem dX5_writeFactors_148 : decode cX5_writeFactors 148 = .ok (.invokevirtual 63, 3) := by decide +kernel
theorem dX5_writeFactors_151 : decode cX5_writeFactors 151 = .ok (.aload_n 3, 1) := by decide +kernel
theorem dX5_writeFactors_152 : decode cX5_writeFactors 152 = .ok (.aload_n 0, 1) := by decide +kernel
theorem dX5_writeFactors_153 : decode cX5_writeFactors 153 = .ok (.iload 5, 2) := by decide +kernel
theorem dX5_writeFactors_155 : decode cX5_writeFactors 155 = .ok (.iconst 1, 1) := by decide +kernel
theorem dX5_writeFactors_156 : decode cX5_writeFactors 156 = .ok (.iadd, 1) := by decide +kernel
theorem dX5_writeFactors_157 : decode cX5_writeFactors 157 = .ok (.invokevirtual 63, 3) := by decide +kernel
theorem dX5_writeFactors_160 : decode cX5_writeFactors 160 = .ok (.aload_n 3, 1) := by decide +kernel
theorem dX5_writeFactors_161 : decode cX5_writeFactors 161 = .ok (.bipush 43, 2) := by decide +kernel
theorem dX5_writeFactors_163 : decode cX5_writeFactors 163 = .ok (.invokevirtual 59, 3) := by decide +kernel
theorem dX5_writeFactors_166 : decode cX5_writeFactors 166 = .ok (.aload_n 3, 1) := by decide +kernel
theorem dX5_writeFactors_167 : decode cX5_writeFactors 167 = .ok (.aload_n 0, 1) := by decide +kernel
theorem dX5_writeFactors_168 : decode cX5_writeFactors 168 = .ok (.iload 4, 2) := by decide +kernel
theorem dX5_writeFactors_170 : decode cX5_writeFactors 170 = .ok (.iconst 1, 1) := by decide +kernel
theorem dX5_writeFactors_171 : decode cX5_writeFactors 171 = .ok (.iadd, 1) := by decide +kernel
theorem dX5_writeFactors_172 : decode cX5_writeFactors 172 = .ok (.invokevirtual 63, 3) := by decide +kernel
theorem dX5_writeFactors_175 : decode cX5_writeFactors 175 = .ok (.aload_n 3, 1) := by decide +kernel
theorem dX5_writeFactors_176 : decode cX5_writeFactors 176 = .ok (.aload_n 0, 1) := by decide +kernel
theorem dX5_writeFactors_177 : decode cX5_writeFactors 177 = .ok (.iload 5, 2) := by decide +kernel
theorem dX5_writeFactors_179 : decode cX5_writeFactors 179 = .ok (.iconst 1, 1) := by decide +kernel
theorem dX5_writeFactors_180 : decode cX5_writeFactors 180 = .ok (.iadd, 1) := by decide +kernel
theorem dX5_writeFactors_181 : decode cX5_writeFactors 181 = .ok (.invokevirtual 63, 3) := by decide +kernel
theorem dX5_writeFactors_184 : decode cX5_writeFactors 184 = .ok (.return_, 1) := by decide +kernel
set_option maxRecDepth 10000 in
theorem NX5_writeFactors_0 {d : Nat} {S : fW} {h : fH} {Q : fH → Prop} {r0 : Nat} {x1 : Int32} {x2 : Int32} {r3 : Nat} {r0_signs r0_ends r0_letters r3_signs r3_ends r3_letters : Nat}  
    (hs1 : (r0, shX10 r0_signs r0_ends r0_letters) ∈ S)
    (hs2 : (r3, shX10 r3_signs r3_ends r3_letters) ∈ S)
    (w : ∃ Q1 : Int32 → fH → Prop, OkI d mX10_secondOf S [.ref r0, .int x2] h Q1 ∧ ∀ (v_1 : Int32) (h_1 : fH), Q1 v_1 h_1 → ((¬ x1 = (2 : Int32) → ((¬ x1 = (3 : Int32) → ∃ Q2 : fH → Prop, OkV d mX10_add S [.ref r3, .int (42 : Int32)] h_1 Q2 ∧ ∀ (h_2 : fH), Q2 h_2 → ∃ Q3 : fH → Prop, OkV d mX10_add S [.ref r3, .int (45 : Int32)] h_2 Q3 ∧ ∀ (h_3 : fH), Q3 h_3 → ∃ Q4 : fH → Prop, OkV d mX10_addPart S [.ref r3, .ref r0, .int ((x2 + (1 : Int32)) + (1 : Int32))] h_3 Q4 ∧ ∀ (h_4 : fH), Q4 h_4 → ∃ Q5 : fH → Prop, OkV d mX10_addPart S [.ref r3, .ref r0, .int (v_1 + (1 : Int32))] h_4 Q5 ∧ ∀ (h_5 : fH), Q5 h_5 → ∃ Q6 : fH → Prop, OkV d mX10_add S [.ref r3, .int (43 : Int32)] h_5 Q6 ∧ ∀ (h_6 : fH), Q6 h_6 → ∃ Q7 : fH → Prop, OkV d mX10_addPart S [.ref r3, .ref r0, .int ((x2 + (1 : Int32)) + (1 : Int32))] h_6 Q7 ∧ ∀ (h_7 : fH), Q7 h_7 → ∃ Q8 : fH → Prop, OkV d mX10_addPart S [.ref r3, .ref r0, .int (v_1 + (1 : Int32))] h_7 Q8 ∧ ∀ (h_8 : fH), Q8 h_8 → Q h_8) ∧ (x1 = (3 : Int32) → ∃ Q9 : fH → Prop, OkV d mX10_add S [.ref r3, .int (42 : Int32)] h_1 Q9 ∧ ∀ (h_9 : fH), Q9 h_9 → ∃ Q10 : fH → Prop, OkV d mX10_addPart S [.ref r3, .ref r0, .int ((x2 + (1 : Int32)) + (1 : Int32))] h_9 Q10 ∧ ∀ (h_10 : fH), Q10 h_10 → ∃ Q11 : Int32 → fH → Prop, OkI d mX10_signAt S [.ref r0, .int x2] h_10 Q11 ∧ ∀ (v_11 : Int32) (h_11 : fH), Q11 v_11 h_11 → ∃ Q12 : fH → Prop, OkV d mX10_add S [.ref r3, .int v_11] h_11 Q12 ∧ ∀ (h_12 : fH), Q12 h_12 → ∃ Q13 : Int32 → fH → Prop, OkI d mX10_secondOf S [.ref r0, .int (x2 + (1 : Int32))] h_12 Q13 ∧ ∀ (v_13 : Int32) (h_13 : fH), Q13 v_13 h_13 → ∃ Q14 : fH → Prop, OkV d mX10_addPart S [.ref r3, .ref r0, .int v_13] h_13 Q14 ∧ ∀ (h_14 : fH), Q14 h_14 → ∃ Q15 : Int32 → fH → Prop, OkI d mX10_secondOf S [.ref r0, .int v_1] h_14 Q15 ∧ ∀ (v_15 : Int32) (h_15 : fH), Q15 v_15 h_15 → ∃ Q16 : fH → Prop, OkV d mX10_addPart S [.ref r3, .ref r0, .int v_15] h_15 Q16 ∧ ∀ (h_16 : fH), Q16 h_16 → Q h_16))) ∧ (x1 = (2 : Int32) → ∃ Q17 : Int32 → fH → Prop, OkI d mX10_signAt S [.ref r0, .int v_1] h_1 Q17 ∧ ∀ (v_17 : Int32) (h_17 : fH), Q17 v_17 h_17 → ∃ Q18 : fH → Prop, OkV d mX10_add S [.ref r3, .int v_17] h_17 Q18 ∧ ∀ (h_18 : fH), Q18 h_18 → ∃ Q19 : fH → Prop, OkV d mX10_add S [.ref r3, .int (42 : Int32)] h_18 Q19 ∧ ∀ (h_19 : fH), Q19 h_19 → ∃ Q20 : fH → Prop, OkV d mX10_addPart S [.ref r3, .ref r0, .int (x2 + (1 : Int32))] h_19 Q20 ∧ ∀ (h_20 : fH), Q20 h_20 → ∃ Q21 : fH → Prop, OkV d mX10_addPart S [.ref r3, .ref r0, .int (v_1 + (1 : Int32))] h_20 Q21 ∧ ∀ (h_21 : fH), Q21 h_21 → ∃ Q22 : fH → Prop, OkV d mX10_add S [.ref r3, .int (42 : Int32)] h_21 Q22 ∧ ∀ (h_22 : fH), Q22 h_22 → ∃ Q23 : fH → Prop, OkV d mX10_addPart S [.ref r3, .ref r0, .int (x2 + (1 : Int32))] h_22 Q23 ∧ ∀ (h_23 : fH), Q23 h_23 → ∃ Q24 : Int32 → fH → Prop, OkI d mX10_secondOf S [.ref r0, .int v_1] h_23 Q24 ∧ ∀ (v_24 : Int32) (h_24 : fH), Q24 v_24 h_24 → ∃ Q25 : fH → Prop, OkV d mX10_addPart S [.ref r3, .ref r0, .int v_24] h_24 Q25 ∧ ∀ (h_25 : fH), Q25 h_25 → Q h_25))) :
    OkV (d + 1) mX5_writeFactors S [.ref r0, .int x1, .int x2, .ref r3] h Q := by
  refine Ok.of (by decide) (Nat.le_of_ble_eq_true rfl) ?_
  refine G_iload_n 2 rfl dX5_writeFactors_0 rfl ?_
  refine G_iconst (v := 1) dX5_writeFactors_1 (by decide) ?_
  refine G_iadd dX5_writeFactors_2 ?_
  refine G_istore dX5_writeFactors_3 (by decide) (lv' := [(4, .int (x2 + (1 : Int32))), (0, .ref r0), (1, .int x1), (2, .int x2), (3, .ref r3)]) rfl ?_
  refine G_aload_n 1 rfl dX5_writeFactors_5 rfl ?_
  refine G_iload_n 3 rfl dX5_writeFactors_6 rfl ?_
  obtain ⟨Q1, ok1, w⟩ := w
  refine G_callV (Z := mX10_secondOf) (As := [.int x2]) (st := []) hL_X5_15 hI_X10_secondOf hS_X10_secondOf hC_X10_secondOf hN_X10 nX10_secondOf (by decide) hs1 rfl rfl rfl (Nat.le_of_ble_eq_true rfl) dX5_writeFactors_7 ok1 (fun r_ h_1 z_ => ?_)
  obtain ⟨v_1, rfl, q_1⟩ := z_
  have w := w v_1 h_1 q_1
  refine G_istore dX5_writeFactors_10 (by decide) (lv' := [(5, .int v_1), (4, .int (x2 + (1 : Int32))), (0, .ref r0), (1, .int x1), (2, .int x2), (3, .ref r3)]) rfl ?_
  refine G_iload_n 3 rfl dX5_writeFactors_12 rfl ?_
  refine G_iconst (v := 2) dX5_writeFactors_13 (by decide) ?_
  refine G_icmp_ne (tgt := 76) dX5_writeFactors_14 (by decide) (fun c1 => ?_) (fun c1 => ?_)
  · have w := w.1 c1
    refine G_iload_n 3 rfl dX5_writeFactors_76 rfl ?_
    refine G_iconst (v := 3) dX5_writeFactors_77 (by decide) ?_
    refine G_icmp_ne (tgt := 130) dX5_writeFactors_78 (by decide) (fun c2 => ?_) (fun c2 => ?_)
    · have w := w.1 c2
      refine G_aload_n 5 rfl dX5_writeFactors_130 rfl ?_
      refine G_bipush (v := 42) dX5_writeFactors_131 (by decide) ?_
      obtain ⟨Q2, ok2, w⟩ := w
      refine G_callV (Z := mX10_add) (As := [.int (42 : Int32)]) (st := []) hL_X5_59 hI_X10_add hS_X10_add hC_X10_add hN_X10 nX10_add (by decide) hs2 rfl rfl rfl (Nat.le_of_ble_eq_true rfl) dX5_writeFactors_133 ok2 (fun r_ h_2 z_ => ?_)
      obtain ⟨rfl, q_2⟩ := z_
      have w := w h_2 q_2
      refine G_aload_n 5 rfl dX5_writeFactors_136 rfl ?_
      refine G_bipush (v := 45) dX5_writeFactors_137 (by decide) ?_
      obtain ⟨Q3, ok3, w⟩ := w
      refine G_callV (Z := mX10_add) (As := [.int (45 : Int32)]) (st := []) hL_X5_59 hI_X10_add hS_X10_add hC_X10_add hN_X10 nX10_add (by decide) hs2 rfl rfl rfl (Nat.le_of_ble_eq_true rfl) dX5_writeFactors_139 ok3 (fun r_ h_3 z_ => ?_)
      obtain ⟨rfl, q_3⟩ := z_
      have w := w h_3 q_3
      refine G_aload_n 5 rfl dX5_writeFactors_142 rfl ?_
      refine G_aload_n 2 rfl dX5_writeFactors_143 rfl ?_
      refine G_iload 1 rfl dX5_writeFactors_144 ?_
      refine G_iconst (v := 1) dX5_writeFactors_146 (by decide) ?_
      refine G_iadd dX5_writeFactors_147 ?_
      obtain ⟨Q4, ok4, w⟩ := w
      refine G_callV (Z := mX10_addPart) (As := [.ref r0, .int ((x2 + (1 : Int32)) + (1 : Int32))]) (st := []) hL_X5_63 hI_X10_addPart hS_X10_addPart hC_X10_addPart hN_X10 nX10_addPart (by decide) hs2 rfl rfl rfl (Nat.le_of_ble_eq_true rfl) dX5_writeFactors_148 ok4 (fun r_ h_4 z_ => ?_)
      obtain ⟨rfl, q_4⟩ := z_
      have w := w h_4 q_4
      refine G_aload_n 5 rfl dX5_writeFactors_151 rfl ?_
      refine G_aload_n 2 rfl dX5_writeFactors_152 rfl ?_
      refine G_iload 0 rfl dX5_writeFactors_153 ?_
      refine G_iconst (v := 1) dX5_writeFactors_155 (by decide) ?_
      refine G_iadd dX5_writeFactors_156 ?_
      obtain ⟨Q5, ok5, w⟩ := w
      refine G_callV (Z := mX10_addPart) (As := [.ref r0, .int (v_1 + (1 : Int32))]) (st := []) hL_X5_63 hI_X10_addPart hS_X10_addPart hC_X10_addPart hN_X10 nX10_addPart (by decide) hs2 rfl rfl rfl (Nat.le_of_ble_eq_true rfl) dX5_writeFactors_157 ok5 (fun r_ h_5 z_ => ?_)
      obtain ⟨rfl, q_5⟩ := z_
      have w := w h_5 q_5
      refine G_aload_n 5 rfl dX5_writeFactors_160 rfl ?_
      refine G_bipush (v := 43) dX5_writeFactors_161 (by decide) ?_
      obtain ⟨Q6, ok6, w⟩ := w
      refine G_callV (Z := mX10_add) (As := [.int (43 : Int32)]) (st := []) hL_X5_59 hI_X10_add hS_X10_add hC_X10_add hN_X10 nX10_add (by decide) hs2 rfl rfl rfl (Nat.le_of_ble_eq_true rfl) dX5_writeFactors_163 ok6 (fun r_ h_6 z_ => ?_)
      obtain ⟨rfl, q_6⟩ := z_
      have w := w h_6 q_6
      refine G_aload_n 5 rfl dX5_writeFactors_166 rfl ?_
      refine G_aload_n 2 rfl dX5_writeFactors_167 rfl ?_
      refine G_iload 1 rfl dX5_writeFactors_168 ?_
      refine G_iconst (v := 1) dX5_writeFactors_170 (by decide) ?_
      refine G_iadd dX5_writeFactors_171 ?_
      obtain ⟨Q7, ok7, w⟩ := w
      refine G_callV (Z := mX10_addPart) (As := [.ref r0, .int ((x2 + (1 : Int32)) + (1 : Int32))]) (st := []) hL_X5_63 hI_X10_addPart hS_X10_addPart hC_X10_addPart hN_X10 nX10_addPart (by decide) hs2 rfl rfl rfl (Nat.le_of_ble_eq_true rfl) dX5_writeFactors_172 ok7 (fun r_ h_7 z_ => ?_)
      obtain ⟨rfl, q_7⟩ := z_
      have w := w h_7 q_7
      refine G_aload_n 5 rfl dX5_writeFactors_175 rfl ?_
      refine G_aload_n 2 rfl dX5_writeFactors_176 rfl ?_
      refine G_iload 0 rfl dX5_writeFactors_177 ?_
      refine G_iconst (v := 1) dX5_writeFactors_179 (by decide) ?_
      refine G_iadd dX5_writeFactors_180 ?_
      obtain ⟨Q8, ok8, w⟩ := w
      refine G_callV (Z := mX10_addPart) (As := [.ref r0, .int (v_1 + (1 : Int32))]) (st := []) hL_X5_63 hI_X10_addPart hS_X10_addPart hC_X10_addPart hN_X10 nX10_addPart (by decide) hs2 rfl rfl rfl (Nat.le_of_ble_eq_true rfl) dX5_writeFactors_181 ok8 (fun r_ h_8 z_ => ?_)
      obtain ⟨rfl, q_8⟩ := z_
      have w := w h_8 q_8
      exact G_vret rfl dX5_writeFactors_184 ⟨rfl, w⟩
    · have w := w.2 c2
      refine G_aload_n 5 rfl dX5_writeFactors_81 rfl ?_
      refine G_bipush (v := 42) dX5_writeFactors_82 (by decide) ?_
      obtain ⟨Q9, ok9, w⟩ := w
      refine G_callV (Z := mX10_add) (As := [.int (42 : Int32)]) (st := []) hL_X5_59 hI_X10_add hS_X10_add hC_X10_add hN_X10 nX10_add (by decide) hs2 rfl rfl rfl (Nat.le_of_ble_eq_true rfl) dX5_writeFactors_84 ok9 (fun r_ h_9 z_ => ?_)
      obtain ⟨rfl, q_9⟩ := z_
      have w := w h_9 q_9
      refine G_aload_n 5 rfl dX5_writeFactors_87 rfl ?_
      refine G_aload_n 2 rfl dX5_writeFactors_88 rfl ?_
      refine G_iload 1 rfl dX5_writeFactors_89 ?_
      refine G_iconst (v := 1) dX5_writeFactors_91 (by decide) ?_
      refine G_iadd dX5_writeFactors_92 ?_
      obtain ⟨Q10, ok10, w⟩ := w
      refine G_callV (Z := mX10_addPart) (As := [.ref r0, .int ((x2 + (1 : Int32)) + (1 : Int32))]) (st := []) hL_X5_63 hI_X10_addPart hS_X10_addPart hC_X10_addPart hN_X10 nX10_addPart (by decide) hs2 rfl rfl rfl (Nat.le_of_ble_eq_true rfl) dX5_writeFactors_93 ok10 (fun r_ h_10 z_ => ?_)
      obtain ⟨rfl, q_10⟩ := z_
      have w := w h_10 q_10
      refine G_aload_n 5 rfl dX5_writeFactors_96 rfl ?_
      refine G_aload_n 2 rfl dX5_writeFactors_97 rfl ?_
      refine G_iload_n 4 rfl dX5_writeFactors_98 rfl ?_
      obtain ⟨Q11, ok11, w⟩ := w
      refine G_callV (Z := mX10_signAt) (As := [.int x2]) (st := [.ref r3]) hL_X5_9 hI_X10_signAt hS_X10_signAt hC_X10_signAt hN_X10 nX10_signAt (by decide) hs1 rfl rfl rfl (Nat.le_of_ble_eq_true rfl) dX5_writeFactors_99 ok11 (fun r_ h_11 z_ => ?_)
      obtain ⟨v_11, rfl, q_11⟩ := z_
      have w := w v_11 h_11 q_11
      obtain ⟨Q12, ok12, w⟩ := w
      refine G_callV (Z := mX10_add) (As := [.int v_11]) (st := []) hL_X5_59 hI_X10_add hS_X10_add hC_X10_add hN_X10 nX10_add (by decide) hs2 rfl rfl rfl (Nat.le_of_ble_eq_true rfl) dX5_writeFactors_102 ok12 (fun r_ h_12 z_ => ?_)
      obtain ⟨rfl, q_12⟩ := z_
      have w := w h_12 q_12
      refine G_aload_n 5 rfl dX5_writeFactors_105 rfl ?_
      refine G_aload_n 2 rfl dX5_writeFactors_106 rfl ?_
      refine G_aload_n 2 rfl dX5_writeFactors_107 rfl ?_
      refine G_iload 1 rfl dX5_writeFactors_108 ?_
      obtain ⟨Q13, ok13, w⟩ := w
      refine G_callV (Z := mX10_secondOf) (As := [.int (x2 + (1 : Int32))]) (st := [.ref r0, .ref r3]) hL_X5_15 hI_X10_secondOf hS_X10_secondOf hC_X10_secondOf hN_X10 nX10_secondOf (by decide) hs1 rfl rfl rfl (Nat.le_of_ble_eq_true rfl) dX5_writeFactors_110 ok13 (fun r_ h_13 z_ => ?_)
      obtain ⟨v_13, rfl, q_13⟩ := z_
      have w := w v_13 h_13 q_13
      obtain ⟨Q14, ok14, w⟩ := w
      refine G_callV (Z := mX10_addPart) (As := [.ref r0, .int v_13]) (st := []) hL_X5_63 hI_X10_addPart hS_X10_addPart hC_X10_addPart hN_X10 nX10_addPart (by decide) hs2 rfl rfl rfl (Nat.le_of_ble_eq_true rfl) dX5_writeFactors_113 ok14 (fun r_ h_14 z_ => ?_)
      obtain ⟨rfl, q_14⟩ := z_
      have w := w h_14 q_14
      refine G_aload_n 5 rfl dX5_writeFactors_116 rfl ?_
      refine G_aload_n 2 rfl dX5_writeFactors_117 rfl ?_
      refine G_aload_n 2 rfl dX5_writeFactors_118 rfl ?_
      refine G_iload 0 rfl dX5_writeFactors_119 ?_
      obtain ⟨Q15, ok15, w⟩ := w
      refine G_callV (Z := mX10_secondOf) (As := [.int v_1]) (st := [.ref r0, .ref r3]) hL_X5_15 hI_X10_secondOf hS_X10_secondOf hC_X10_secondOf hN_X10 nX10_secondOf (by decide) hs1 rfl rfl rfl (Nat.le_of_ble_eq_true rfl) dX5_writeFactors_121 ok15 (fun r_ h_15 z_ => ?_)
      obtain ⟨v_15, rfl, q_15⟩ := z_
      have w := w v_15 h_15 q_15
      obtain ⟨Q16, ok16, w⟩ := w
      refine G_callV (Z := mX10_addPart) (As := [.ref r0, .int v_15]) (st := []) hL_X5_63 hI_X10_addPart hS_X10_addPart hC_X10_addPart hN_X10 nX10_addPart (by decide) hs2 rfl rfl rfl (Nat.le_of_ble_eq_true rfl) dX5_writeFactors_124 ok16 (fun r_ h_16 z_ => ?_)
      obtain ⟨rfl, q_16⟩ := z_
      have w := w h_16 q_16
      refine G_goto (tgt := 184) dX5_writeFactors_127 (by decide) ?_
      exact G_vret rfl dX5_writeFactors_184 ⟨rfl, w⟩
  · have w := w.2 c1
    refine G_aload_n 5 rfl dX5_writeFactors_17 rfl ?_
    refine G_aload_n 2 rfl dX5_writeFactors_18 rfl ?_
    refine G_iload 0 rfl dX5_writeFactors_19 ?_
    obtain ⟨Q17, ok17, w⟩ := w
    refine G_callV (Z := mX10_signAt) (As := [.int v_1]) (st := [.ref r3]) hL_X5_9 hI_X10_signAt hS_X10_signAt hC_X10_signAt hN_X10 nX10_signAt (by decide) hs1 rfl rfl rfl (Nat.le_of_ble_eq_true rfl) dX5_writeFactors_21 ok17 (fun r_ h_17 z_ => ?_)
    obtain ⟨v_17, rfl, q_17⟩ := z_
    have w := w v_17 h_17 q_17
    obtain ⟨Q18, ok18, w⟩ := w
    refine G_callV (Z := mX10_add) (As := [.int v_17]) (st := []) hL_X5_59 hI_X10_add hS_X10_add hC_X10_add hN_X10 nX10_add (by decide) hs2 rfl rfl rfl (Nat.le_of_ble_eq_true rfl) dX5_writeFactors_24 ok18 (fun r_ h_18 z_ => ?_)
    obtain ⟨rfl, q_18⟩ := z_
    have w := w h_18 q_18
    refine G_aload_n 5 rfl dX5_writeFactors_27 rfl ?_
    refine G_bipush (v := 42) dX5_writeFactors_28 (by decide) ?_
    obtain ⟨Q19, ok19, w⟩ := w
    refine G_callV (Z := mX10_add) (As := [.int (42 : Int32)]) (st := []) hL_X5_59 hI_X10_add hS_X10_add hC_X10_add hN_X10 nX10_add (by decide) hs2 rfl rfl rfl (Nat.le_of_ble_eq_true rfl) dX5_writeFactors_30 ok19 (fun r_ h_19 z_ => ?_)
    obtain ⟨rfl, q_19⟩ := z_
    have w := w h_19 q_19
    refine G_aload_n 5 rfl dX5_writeFactors_33 rfl ?_
    refine G_aload_n 2 rfl dX5_writeFactors_34 rfl ?_
    refine G_iload 1 rfl dX5_writeFactors_35 ?_
    obtain ⟨Q20, ok20, w⟩ := w
    refine G_callV (Z := mX10_addPart) (As := [.ref r0, .int (x2 + (1 : Int32))]) (st := []) hL_X5_63 hI_X10_addPart hS_X10_addPart hC_X10_addPart hN_X10 nX10_addPart (by decide) hs2 rfl rfl rfl (Nat.le_of_ble_eq_true rfl) dX5_writeFactors_37 ok20 (fun r_ h_20 z_ => ?_)
    obtain ⟨rfl, q_20⟩ := z_
    have w := w h_20 q_20
    refine G_aload_n 5 rfl dX5_writeFactors_40 rfl ?_
    refine G_aload_n 2 rfl dX5_writeFactors_41 rfl ?_
    refine G_iload 0 rfl dX5_writeFactors_42 ?_
    refine G_iconst (v := 1) dX5_writeFactors_44 (by decide) ?_
    refine G_iadd dX5_writeFactors_45 ?_
    obtain ⟨Q21, ok21, w⟩ := w
    refine G_callV (Z := mX10_addPart) (As := [.ref r0, .int (v_1 + (1 : Int32))]) (st := []) hL_X5_63 hI_X10_addPart hS_X10_addPart hC_X10_addPart hN_X10 nX10_addPart (by decide) hs2 rfl rfl rfl (Nat.le_of_ble_eq_true rfl) dX5_writeFactors_46 ok21 (fun r_ h_21 z_ => ?_)
    obtain ⟨rfl, q_21⟩ := z_
    have w := w h_21 q_21
    refine G_aload_n 5 rfl dX5_writeFactors_49 rfl ?_
    refine G_bipush (v := 42) dX5_writeFactors_50 (by decide) ?_
    obtain ⟨Q22, ok22, w⟩ := w
    refine G_callV (Z := mX10_add) (As := [.int (42 : Int32)]) (st := []) hL_X5_59 hI_X10_add hS_X10_add hC_X10_add hN_X10 nX10_add (by decide) hs2 rfl rfl rfl (Nat.le_of_ble_eq_true rfl) dX5_writeFactors_52 ok22 (fun r_ h_22 z_ => ?_)
    obtain ⟨rfl, q_22⟩ := z_
    have w := w h_22 q_22
    refine G_aload_n 5 rfl dX5_writeFactors_55 rfl ?_
    refine G_aload_n 2 rfl dX5_writeFactors_56 rfl ?_
    refine G_iload 1 rfl dX5_writeFactors_57 ?_
    obtain ⟨Q23, ok23, w⟩ := w
    refine G_callV (Z := mX10_addPart) (As := [.ref r0, .int (x2 + (1 : Int32))]) (st := []) hL_X5_63 hI_X10_addPart hS_X10_addPart hC_X10_addPart hN_X10 nX10_addPart (by decide) hs2 rfl rfl rfl (Nat.le_of_ble_eq_true rfl) dX5_writeFactors_59 ok23 (fun r_ h_23 z_ => ?_)
    obtain ⟨rfl, q_23⟩ := z_
    have w := w h_23 q_23
    refine G_aload_n 5 rfl dX5_writeFactors_62 rfl ?_
    refine G_aload_n 2 rfl dX5_writeFactors_63 rfl ?_
    refine G_aload_n 2 rfl dX5_writeFactors_64 rfl ?_
    refine G_iload 0 rfl dX5_writeFactors_65 ?_
    obtain ⟨Q24, ok24, w⟩ := w
    refine G_callV (Z := mX10_secondOf) (As := [.int v_1]) (st := [.ref r0, .ref r3]) hL_X5_15 hI_X10_secondOf hS_X10_secondOf hC_X10_secondOf hN_X10 nX10_secondOf (by decide) hs1 rfl rfl rfl (Nat.le_of_ble_eq_true rfl) dX5_writeFactors_67 ok24 (fun r_ h_24 z_ => ?_)
    obtain ⟨v_24, rfl, q_24⟩ := z_
    have w := w v_24 h_24 q_24
    obtain ⟨Q25, ok25, w⟩ := w
    refine G_callV (Z := mX10_addPart) (As := [.ref r0, .int v_24]) (st := []) hL_X5_63 hI_X10_addPart hS_X10_addPart hC_X10_addPart hN_X10 nX10_addPart (by decide) hs2 rfl rfl rfl (Nat.le_of_ble_eq_true rfl) dX5_writeFactors_70 ok25 (fun r_ h_25 z_ => ?_)
    obtain ⟨rfl, q_25⟩ := z_
    have w := w h_25 q_25
    refine G_goto (tgt := 184) dX5_writeFactors_73 (by decide) ?_
    exact G_vret rfl dX5_writeFactors_184 ⟨rfl, w⟩

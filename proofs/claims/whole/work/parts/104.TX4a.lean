-- LostDigits$Rounding.turn
theorem dX4_turn_0 : decode cX4_turn 0 = .ok (.aload_n 0, 1) := by decide +kernel
theorem dX4_turn_1 : decode cX4_turn 1 = .ok (.iload_n 1, 1) := by decide +kernel
theorem dX4_turn_2 : decode cX4_turn 2 = .ok (.putfield 9, 3) := by decide +kernel
theorem dX4_turn_5 : decode cX4_turn 5 = .ok (.aload_n 0, 1) := by decide +kernel
theorem dX4_turn_6 : decode cX4_turn 6 = .ok (.iload_n 2, 1) := by decide +kernel
theorem dX4_turn_7 : decode cX4_turn 7 = .ok (.putfield 15, 3) := by decide +kernel
theorem dX4_turn_10 : decode cX4_turn 10 = .ok (.return_, 1) := by decide +kernel
set_option maxRecDepth 10000 in
theorem NX4_turn_0 {d : Nat} {S : fW} {h : fH} {Q : fH → Prop} {r0 : Nat} {x1 : Int32} {x2 : Int32}  
    (hs1 : (r0, shX4) ∈ S)
    (w : ∀ g_1 : fH, g_1 = u_fi h r0 0 x1 → ∀ g_2 : fH, g_2 = u_fi g_1 r0 1 x2 → Q g_2) :
    OkV d mX4_turn S [.ref r0, .int x1, .int x2] h Q := by
  refine Ok.of (by decide) (Nat.le_of_ble_eq_true rfl) ?_
  refine G_aload_n 0 rfl dX4_turn_0 rfl ?_
  refine G_iload_n 1 rfl dX4_turn_1 rfl ?_
  refine G_puti (k := 0) tyX4 hs1 (q := (RX4, TX4, 3)) rfl inX4 tyX4_ok nmX4 (by decide) rfl rfl rfl hF_X4_9 dX4_turn_2 ?_
  refine G_nm (fun g_1 e_1 => ?_)
  have w := w g_1 e_1
  refine G_aload_n 0 rfl dX4_turn_5 rfl ?_
  refine G_iload_n 2 rfl dX4_turn_6 rfl ?_
  refine G_puti (k := 1) tyX4 hs1 (q := (RX4, TX4, 3)) rfl inX4 tyX4_ok nmX4 (by decide) rfl rfl rfl hF_X4_15 dX4_turn_7 ?_
  refine G_nm (fun g_2 e_2 => ?_)
  have w := w g_2 e_2
  exact G_vret rfl dX4_turn_10 ⟨rfl, w⟩
-- LostDigits$Rounding.of
theorem dX4_of_0 : decode cX4_of 0 = .ok (.aload_n 1, 1) := by decide +kernel
theorem dX4_of_1 : decode cX4_of 1 = .ok (.getfield 22, 3) := by decide +kernel
theorem dX4_of_4 : decode cX4_of 4 = .ok (.lconst 0, 1) := by decide +kernel
theorem dX4_of_5 : decode cX4_of 5 = .ok (.lcmp, 1) := by decide +kernel
theorem dX4_of_6 : decode cX4_of 6 = .ok (.ifCond .ne 5, 3) := by decide +kernel
theorem dX4_of_9 : decode cX4_of 9 = .ok (.lconst 0, 1) := by decide +kernel
theorem dX4_of_10 : decode cX4_of 10 = .ok (.lreturn, 1) := by decide +kernel
theorem dX4_of_11 : decode cX4_of 11 = .ok (.aload_n 1, 1) := by decide +kernel
theorem dX4_of_12 : decode cX4_of 12 = .ok (.getfield 22, 3) := by decide +kernel
theorem dX4_of_15 : decode cX4_of 15 = .ok (.lconst 0, 1) := by decide +kernel
theorem dX4_of_16 : decode cX4_of 16 = .ok (.lcmp, 1) := by decide +kernel
theorem dX4_of_17 : decode cX4_of 17 = .ok (.ifCond .ge 7, 3) := by decide +kernel
theorem dX4_of_20 : decode cX4_of 20 = .ok (.iconst 1, 1) := by decide +kernel
theorem dX4_of_21 : decode cX4_of 21 = .ok (.goto 4, 3) := by decide +kernel
theorem dX4_of_24 : decode cX4_of 24 = .ok (.iconst 0, 1) := by decide +kernel
theorem dX4_of_25 : decode cX4_of 25 = .ok (.istore_n 2, 1) := by decide +kernel
theorem dX4_of_26 : decode cX4_of 26 = .ok (.aload_n 1, 1) := by decide +kernel
theorem dX4_of_27 : decode cX4_of 27 = .ok (.getfield 22, 3) := by decide +kernel
theorem dX4_of_30 : decode cX4_of 30 = .ok (.invokestatic 28, 3) := by decide +kernel
theorem dX4_of_33 : decode cX4_of 33 = .ok (.lstore_n 3, 1) := by decide +kernel
theorem dX4_of_34 : decode cX4_of 34 = .ok (.aload_n 1, 1) := by decide +kernel
theorem dX4_of_35 : decode cX4_of 35 = .ok (.getfield 34, 3) := by decide +kernel
theorem dX4_of_38 : decode cX4_of 38 = .ok (.lstore 5, 2) := by decide +kernel
theorem dX4_of_40 : decode cX4_of 40 = .ok (.aload_n 1, 1) := by decide +kernel
theorem dX4_of_41 : decode cX4_of 41 = .ok (.getfield 37, 3) := by decide +kernel
theorem dX4_of_44 : decode cX4_of 44 = .ok (.istore 7, 2) := by decide +kernel
theorem dX4_of_46 : decode cX4_of 46 = .ok (.iconst 0, 1) := by decide +kernel
theorem dX4_of_47 : decode cX4_of 47 = .ok (.istore 8, 2) := by decide +kernel
theorem dX4_of_49 : decode cX4_of 49 = .ok (.iload 8, 2) := by decide +kernel
theorem dX4_of_51 : decode cX4_of 51 = .ok (.iconst 3, 1) := by decide +kernel
theorem dX4_of_52 : decode cX4_of 52 = .ok (.if_icmp .ge 31, 3) := by decide +kernel
theorem dX4_of_55 : decode cX4_of 55 = .ok (.lload_n 3, 1) := by decide +kernel
theorem dX4_of_56 : decode cX4_of 56 = .ok (.ldc2_w 40, 3) := by decide +kernel
theorem dX4_of_59 : decode cX4_of 59 = .ok (.ldiv, 1) := by decide +kernel
theorem dX4_of_60 : decode cX4_of 60 = .ok (.lload 5, 2) := by decide +kernel
theorem dX4_of_62 : decode cX4_of 62 = .ok (.lcmp, 1) := by decide +kernel
theorem dX4_of_63 : decode cX4_of 63 = .ok (.ifCond .lt 20, 3) := by decide +kernel
theorem dX4_of_66 : decode cX4_of 66 = .ok (.lload 5, 2) := by decide +kernel
theorem dX4_of_68 : decode cX4_of 68 = .ok (.ldc2_w 40, 3) := by decide +kernel
theorem dX4_of_71 : decode cX4_of 71 = .ok (.lmul, 1) := by decide +kernel
theorem dX4_of_72 : decode cX4_of 72 = .ok (.lstore 5, 2) := by decide +kernel
theorem dX4_of_74 : decode cX4_of 74 = .ok (.iinc 7 5, 3) := by decide +kernel
theorem dX4_of_77 : decode cX4_of 77 = .ok (.iinc 8 1, 3) := by decide +kernel
theorem dX4_of_80 : decode cX4_of 80 = .ok (.goto (-31), 3) := by decide +kernel
theorem dX4_of_83 : decode cX4_of 83 = .ok (.iconst 0, 1) := by decide +kernel
theorem dX4_of_84 : decode cX4_of 84 = .ok (.istore 8, 2) := by decide +kernel
theorem dX4_of_86 : decode cX4_of 86 = .ok (.iload 8, 2) := by decide +kernel
theorem dX4_of_88 : decode cX4_of 88 = .ok (.bipush 16, 2) := by decide +kernel
theorem dX4_of_90 : decode cX4_of 90 = .ok (.if_icmp .ge 31, 3) := by decide +kernel
theorem dX4_of_93 : decode cX4_of 93 = .ok (.lload_n 3, 1) := by decide +kernel
theorem dX4_of_94 : decode cX4_of 94 = .ok (.ldc2_w 42, 3) := by decide +kernel
theorem dX4_of_97 : decode cX4_of 97 = .ok (.ldiv, 1) := by decide +kernel
theorem dX4_of_98 : decode cX4_of 98 = .ok (.lload 5, 2) := by decide +kernel
theorem dX4_of_100 : decode cX4_of 100 = .ok (.lcmp, 1) := by decide +kernel
theorem dX4_of_101 : decode cX4_of 101 = .ok (.ifCond .lt 20, 3) := by decide +kernel
theorem dX4_of_104 : decode cX4_of 104 = .ok (.lload 5, 2) := by decide +kernel
theorem dX4_of_106 : decode cX4_of 106 = .ok (.ldc2_w 42, 3) := by decide +kernel
theorem dX4_of_109 : decode cX4_of 109 = .ok (.lmul, 1) := by decide +kernel
theorem dX4_of_110 : decode cX4_of 110 = .ok (.lstore 5, 2) := by decide +kernel
theorem dX4_of_112 : decode cX4_of 112 = .ok (.iinc 7 1, 3) := by decide +kernel
theorem dX4_of_115 : decode cX4_of 115 = .ok (.iinc 8 1, 3) := by decide +kernel
theorem dX4_of_118 : decode cX4_of 118 = .ok (.goto (-32), 3) := by decide +kernel
theorem dX4_of_121 : decode cX4_of 121 = .ok (.iconst 0, 1) := by decide +kernel
theorem dX4_of_122 : decode cX4_of 122 = .ok (.istore 8, 2) := by decide +kernel
theorem dX4_of_124 : decode cX4_of 124 = .ok (.iload 8, 2) := by decide +kernel
theorem dX4_of_126 : decode cX4_of 126 = .ok (.bipush 16, 2) := by decide +kernel
theorem dX4_of_128 : decode cX4_of 128 = .ok (.if_icmp .ge 25, 3) := by decide +kernel
theorem dX4_of_131 : decode cX4_of 131 = .ok (.lload_n 3, 1) := by decide +kernel
theorem dX4_of_132 : decode cX4_of 132 = .ok (.lload 5, 2) := by decide +kernel
theorem dX4_of_134 : decode cX4_of 134 = .ok (.lcmp, 1) := by decide +kernel
theorem dX4_of_135 : decode cX4_of 135 = .ok (.ifCond .ge 18, 3) := by decide +kernel
theorem dX4_of_138 : decode cX4_of 138 = .ok (.lload_n 3, 1) := by decide +kernel
theorem dX4_of_139 : decode cX4_of 139 = .ok (.ldc2_w 42, 3) := by decide +kernel
theorem dX4_of_142 : decode cX4_of 142 = .ok (.lmul, 1) := by decide +kernel
theorem dX4_of_143 : decode cX4_of 143 = .ok (.lstore_n 3, 1) := by decide +kernel
theorem dX4_of_144 : decode cX4_of 144 = .ok (.iinc 7 (-1), 3) := by decide +kernel
theorem dX4_of_147 : decode cX4_of 147 = .ok (.iinc 8 1, 3) := by decide +kernel
theorem dX4_of_150 : decode cX4_of 150 = .ok (.goto (-26), 3) := by decide +kernel
theorem dX4_of_153 : decode cX4_of 153 = .ok (.lload 5, 2) := by decide +kernel
theorem dX4_of_155 : decode cX4_of 155 = .ok (.lconst 0, 1) := by decide +kernel
theorem dX4_of_156 : decode cX4_of 156 = .ok (.lcmp, 1) := by decide +kernel
theorem dX4_of_157 : decode cX4_of 157 = .ok (.ifCond .gt 5, 3) := by decide +kernel
theorem dX4_of_160 : decode cX4_of 160 = .ok (.lconst 0, 1) := by decide +kernel
theorem dX4_of_161 : decode cX4_of 161 = .ok (.lreturn, 1) := by decide +kernel
theorem dX4_of_162 : decode cX4_of 162 = .ok (.lload_n 3, 1) := by decide +kernel
theorem dX4_of_163 : decode cX4_of 163 = .ok (.lload 5, 2) := by decide +kernel
theorem dX4_of_165 : decode cX4_of 165 = .ok (.ldiv, 1) := by decide +kernel
theorem dX4_of_166 : decode cX4_of 166 = .ok (.lstore 8, 2) := by decide +kernel
theorem dX4_of_168 : decode cX4_of 168 = .ok (.lload_n 3, 1) := by decide +kernel
theorem dX4_of_169 : decode cX4_of 169 = .ok (.lload 5, 2) := by decide +kernel
theorem dX4_of_171 : decode cX4_of 171 = .ok (.lrem, 1) := by decide +kernel
theorem dX4_of_172 : decode cX4_of 172 = .ok (.lstore 10, 2) := by decide +kernel
theorem dX4_of_174 : decode cX4_of 174 = .ok (.iconst 1, 1) := by decide +kernel
theorem dX4_of_175 : decode cX4_of 175 = .ok (.istore 12, 2) := by decide +kernel
theorem dX4_of_177 : decode cX4_of 177 = .ok (.iload 12, 2) := by decide +kernel
theorem dX4_of_179 : decode cX4_of 179 = .ok (.aload_n 0, 1) := by decide +kernel
theorem dX4_of_180 : decode cX4_of 180 = .ok (.getfield 9, 3) := by decide +kernel
theorem dX4_of_183 : decode cX4_of 183 = .ok (.if_icmp .ge 41, 3) := by decide +kernel
theorem dX4_of_186 : decode cX4_of 186 = .ok (.lload 10, 2) := by decide +kernel
theorem dX4_of_188 : decode cX4_of 188 = .ok (.ldc2_w 42, 3) := by decide +kernel
theorem dX4_of_191 : decode cX4_of 191 = .ok (.lmul, 1) := by decide +kernel
theorem dX4_of_192 : decode cX4_of 192 = .ok (.lstore 10, 2) := by decide +kernel
theorem dX4_of_194 : decode cX4_of 194 = .ok (.lload 8, 2) := by decide +kernel
theorem dX4_of_196 : decode cX4_of 196 = .ok (.ldc2_w 42, 3) := by decide +kernel
theorem dX4_of_199 : decode cX4_of 199 = .ok (.lmul, 1) := by decide +kernel
theorem dX4_of_200 : decode cX4_of 200 = .ok (.lload 10, 2) := by decide +kernel
theorem dX4_of_202 : decode cX4_of 202 = .ok (.lload 5, 2) := by decide +kernel
theorem dX4_of_204 : decode cX4_of 204 = .ok (.ldiv, 1) := by decide +kernel
theorem dX4_of_205 : decode cX4_of 205 = .ok (.ladd, 1) := by decide +kernel
theorem dX4_of_206 : decode cX4_of 206 = .ok (.lstore 8, 2) := by decide +kernel
theorem dX4_of_208 : decode cX4_of 208 = .ok (.lload 10, 2) := by decide +kernel
theorem dX4_of_210 : decode cX4_of 210 = .ok (.lload 5, 2) := by decide +kernel
theorem dX4_of_212 : decode cX4_of 212 = .ok (.lrem, 1) := by decide +kernel
theorem dX4_of_213 : decode cX4_of 213 = .ok (.lstore 10, 2) := by decide +kernel
theorem dX4_of_215 : decode cX4_of 215 = .ok (.iinc 7 (-1), 3) := by decide +kernel
theorem dX4_of_218 : decode cX4_of 218 = .ok (.iinc 12 1, 3) := by decide +kernel
theorem dX4_of_221 : decode cX4_of 221 = .ok (.goto (-44), 3) := by decide +kernel
theorem dX4_of_224 : decode cX4_of 224 = .ok (.aload_n 0, 1) := by decide +kernel
theorem dX4_of_225 : decode cX4_of 225 = .ok (.aload_n 0, 1) := by decide +kernel
theorem dX4_of_226 : decode cX4_of 226 = .ok (.lload 8, 2) := by decide +kernel
theorem dX4_of_228 : decode cX4_of 228 = .ok (.lload 10, 2) := by decide +kernel
theorem dX4_of_230 : decode cX4_of 230 = .ok (.lload 5, 2) := by decide +kernel
theorem dX4_of_232 : decode cX4_of 232 = .ok (.iload_n 2, 1) := by decide +kernel
theorem dX4_of_233 : decode cX4_of 233 = .ok (.invokevirtual 44, 3) := by decide +kernel
theorem dX4_of_236 : decode cX4_of 236 = .ok (.ifCond .eq 10, 3) := by decide +kernel
theorem dX4_of_239 : decode cX4_of 239 = .ok (.lload 8, 2) := by decide +kernel
theorem dX4_of_241 : decode cX4_of 241 = .ok (.lconst 1, 1) := by decide +kernel
theorem dX4_of_242 : decode cX4_of 242 = .ok (.ladd, 1) := by decide +kernel
theorem dX4_of_243 : decode cX4_of 243 = .ok (.goto 5, 3) := by decide +kernel
theorem dX4_of_246 : decode cX4_of 246 = .ok (.lload 8, 2) := by decide +kernel
theorem dX4_of_248 : decode cX4_of 248 = .ok (.iload 7, 2) := by decide +kernel
theorem dX4_of_250 : decode cX4_of 250 = .ok (.iload_n 2, 1) := by decide +kernel
theorem dX4_of_251 : decode cX4_of 251 = .ok (.invokevirtual 48, 3) := by decide +kernel
theorem dX4_of_254 : decode cX4_of 254 = .ok (.lreturn, 1) := by decide +kernel
set_option maxRecDepth 10000 in
theorem TX4_of_0 {d : Nat} {S : fW} {h : fH} {Q : Int64 → fH → Prop} {r0 : Nat} {r1 : Nat}  
    (hs1 : (r1, shX3) ∈ S)
    (k1 : ¬ (h.2.1 r1 0) = (0 : Int64) → (0 : Int64) ≤ (h.2.1 r1 0) → G mX4_of (d + 1) S (f_PL Q) 49 [(0, .ref r0), (2, .int (0 : Int32)), (3, .long (if 0 < (h.2.1 r1 0) then h.2.1 r1 0 else -(h.2.1 r1 0))), (5, .long (h.2.1 r1 1)), (7, .int (h.1 r1 2)), (8, .int (0 : Int32))] [] h)
    (k2 : ¬ (h.2.1 r1 0) = (0 : Int64) → ¬ (0 : Int64) ≤ (h.2.1 r1 0) → G mX4_of (d + 1) S (f_PL Q) 49 [(0, .ref r0), (2, .int (1 : Int32)), (3, .long (if 0 < (h.2.1 r1 0) then h.2.1 r1 0 else -(h.2.1 r1 0))), (5, .long (h.2.1 r1 1)), (7, .int (h.1 r1 2)), (8, .int (0 : Int32))] [] h)
    (k3 : (h.2.1 r1 0) = (0 : Int64) → Q (0 : Int64) h) :
    OkL (d + 1) mX4_of S [.ref r0, .ref r1] h Q := by
  refine Ok.of (by decide) (Nat.le_of_ble_eq_true rfl) ?_
  refine G_aload_n 1 rfl dX4_of_0 rfl ?_
  refine G_getl (k := 0) hs1 (q := (RX3, TX3, 3)) rfl inX3 (by decide) rfl hF_X4_22 dX4_of_1 ?_
  refine G_lconst (v := 0) dX4_of_4 (by decide) ?_
  refine G_lif_ne (tgt := 11) dX4_of_5 dX4_of_6 (by decide) (fun c1 => ?_) (fun c1 => ?_)
  · refine G_aload_n 1 rfl dX4_of_11 rfl ?_
    refine G_getl (k := 0) hs1 (q := (RX3, TX3, 3)) rfl inX3 (by decide) rfl hF_X4_22 dX4_of_12 ?_
    refine G_lconst (v := 0) dX4_of_15 (by decide) ?_
    refine G_lif_ge (tgt := 24) dX4_of_16 dX4_of_17 (by decide) (fun c2 => ?_) (fun c2 => ?_)
    · refine G_iconst (v := 0) dX4_of_24 (by decide) ?_
      refine G_istore_n dX4_of_25 rfl (by decide) (lv' := [(2, .int (0 : Int32)), (0, .ref r0), (1, .ref r1)]) rfl ?_
      refine G_aload_n 2 rfl dX4_of_26 rfl ?_
      refine G_getl (k := 0) hs1 (q := (RX3, TX3, 3)) rfl inX3 (by decide) rfl hF_X4_22 dX4_of_27 ?_
      refine G_mabs hL_X4_28 (Nat.le_of_ble_eq_true rfl) dX4_of_30 ?_
      refine G_lstore_n dX4_of_33 rfl (by decide) (lv' := [(3, .long (if 0 < (h.2.1 r1 0) then h.2.1 r1 0 else -(h.2.1 r1 0))), (2, .int (0 : Int32)), (0, .ref r0), (1, .ref r1)]) rfl ?_
      refine G_aload_n 3 rfl dX4_of_34 rfl ?_
      refine G_getl (k := 1) hs1 (q := (RX3, TX3, 3)) rfl inX3 (by decide) rfl hF_X4_34 dX4_of_35 ?_
      refine G_lstore dX4_of_38 (by decide) (lv' := [(5, .long (h.2.1 r1 1)), (3, .long (if 0 < (h.2.1 r1 0) then h.2.1 r1 0 else -(h.2.1 r1 0))), (2, .int (0 : Int32)), (0, .ref r0), (1, .ref r1)]) rfl ?_
      refine G_aload_n 4 rfl dX4_of_40 rfl ?_
      refine G_geti (k := 2) hs1 (q := (RX3, TX3, 3)) rfl inX3 (by decide) (Or.inl rfl) hF_X4_37 dX4_of_41 ?_
      refine G_istore dX4_of_44 (by decide) (lv' := [(7, .int (h.1 r1 2)), (5, .long (h.2.1 r1 1)), (3, .long (if 0 < (h.2.1 r1 0) then h.2.1 r1 0 else -(h.2.1 r1 0))), (2, .int (0 : Int32)), (0, .ref r0), (1, .ref r1)]) rfl ?_
      refine G_iconst (v := 0) dX4_of_46 (by decide) ?_
      refine G_istore dX4_of_47 (by decide) (lv' := [(8, .int (0 : Int32)), (7, .int (h.1 r1 2)), (5, .long (h.2.1 r1 1)), (3, .long (if 0 < (h.2.1 r1 0) then h.2.1 r1 0 else -(h.2.1 r1 0))), (2, .int (0 : Int32)), (0, .ref r0), (1, .ref r1)]) rfl ?_
      exact G_sub [5, 4, 3, 2, 1, 0] rfl (k1 c1 c2)
    · refine G_iconst (v := 1) dX4_of_20 (by decide) ?_
      refine G_goto (tgt := 25) dX4_of_21 (by decide) ?_
      refine G_istore_n dX4_of_25 rfl (by decide) (lv' := [(2, .int (1 : Int32)), (0, .ref r0), (1, .ref r1)]) rfl ?_
      refine G_aload_n 2 rfl dX4_of_26 rfl ?_
      refine G_getl (k := 0) hs1 (q := (RX3, TX3, 3)) rfl inX3 (by decide) rfl hF_X4_22 dX4_of_27 ?_
      refine G_mabs hL_X4_28 (Nat.le_of_ble_eq_true rfl) dX4_of_30 ?_
      refine G_lstore_n dX4_of_33 rfl (by decide) (lv' := [(3, .long (if 0 < (h.2.1 r1 0) then h.2.1 r1 0 else -(h.2.1 r1 0))), (2, .int (1 : Int32)), (0, .ref r0), (1, .ref r1)]) rfl ?_
      refine G_aload_n 3 rfl dX4_of_34 rfl ?_
      refine G_getl (k := 1) hs1 (q := (RX3, TX3, 3)) rfl inX3 (by decide) rfl hF_X4_34 dX4_of_35 ?_
      refine G_lstore dX4_of_38 (by decide) (lv' := [(5, .long (h.2.1 r1 1)), (3, .long (if 0 < (h.2.1 r1 0) then h.2.1 r1 0 else -(h.2.1 r1 0))), (2, .int (1 : Int32)), (0, .ref r0), (1, .ref r1)]) rfl ?_
      refine G_aload_n 4 rfl dX4_of_40 rfl ?_
      refine G_geti (k := 2) hs1 (q := (RX3, TX3, 3)) rfl inX3 (by decide) (Or.inl rfl) hF_X4_37 dX4_of_41 ?_
      refine G_istore dX4_of_44 (by decide) (lv' := [(7, .int (h.1 r1 2)), (5, .long (h.2.1 r1 1)), (3, .long (if 0 < (h.2.1 r1 0) then h.2.1 r1 0 else -(h.2.1 r1 0))), (2, .int (1 : Int32)), (0, .ref r0), (1, .ref r1)]) rfl ?_
      refine G_iconst (v := 0) dX4_of_46 (by decide) ?_
      refine G_istore dX4_of_47 (by decide) (lv' := [(8, .int (0 : Int32)), (7, .int (h.1 r1 2)), (5, .long (h.2.1 r1 1)), (3, .long (if 0 < (h.2.1 r1 0) then h.2.1 r1 0 else -(h.2.1 r1 0))), (2, .int (1 : Int32)), (0, .ref r0), (1, .ref r1)]) rfl ?_
      exact G_sub [5, 4, 3, 2, 1, 0] rfl (k2 c1 c2)
  · refine G_lconst (v := 0) dX4_of_9 (by decide) ?_
    exact G_lret rfl dX4_of_10 ⟨_, rfl, (k3 c1)⟩

set_option maxRecDepth 10000 in
theorem TX4_of_49 {d : Nat} {S : fW} {h : fH} {Q : Int64 → fH → Prop} {r0 : Nat} {x2 : Int32} {x3 : Int64} {x5 : Int64} {x7 : Int32} {x8 : Int32}  
    (k1 : (3 : Int32) ≤ x8 → G mX4_of (d + 1) S (f_PL Q) 86 [(0, .ref r0), (2, .int x2), (3, .long x3), (5, .long x5), (7, .int x7), (8, .int (0 : Int32))] [] h)
    (k2 : ¬ (3 : Int32) ≤ x8 → (x3 / (100000 : Int64)) < x5 → G mX4_of (d + 1) S (f_PL Q) 86 [(0, .ref r0), (2, .int x2), (3, .long x3), (5, .long x5), (7, .int x7), (8, .int (0 : Int32))] [] h)
    (k3 : ¬ (3 : Int32) ≤ x8 → ¬ (x3 / (100000 : Int64)) < x5 → G mX4_of (d + 1) S (f_PL Q) 49 [(0, .ref r0), (2, .int x2), (3, .long x3), (5, .long (x5 * (100000 : Int64))), (7, .int (x7 + 5)), (8, .int (x8 + 1))] [] h) :
    G mX4_of (d + 1) S (f_PL Q) 49 [(0, .ref r0), (2, .int x2), (3, .long x3), (5, .long x5), (7, .int x7), (8, .int x8)] [] h := by
  refine G_iload 5 rfl dX4_of_49 ?_
  refine G_iconst (v := 3) dX4_of_51 (by decide) ?_
  refine G_icmp_ge (tgt := 83) dX4_of_52 (by decide) (fun c1 => ?_) (fun c1 => ?_)
  · refine G_iconst (v := 0) dX4_of_83 (by decide) ?_
    refine G_istore dX4_of_84 (by decide) (lv' := [(8, .int (0 : Int32)), (0, .ref r0), (2, .int x2), (3, .long x3), (5, .long x5), (7, .int x7)]) rfl ?_
    exact G_sub [1, 2, 3, 4, 5, 0] rfl (k1 c1)
  · refine G_lload_n 2 rfl dX4_of_55 rfl ?_
    refine G_ldc2 hK_X4_40 dX4_of_56 ?_
    refine G_ldiv dX4_of_59 (by decide) ?_
    refine G_lload 3 rfl dX4_of_60 ?_
    refine G_lif_lt (tgt := 83) dX4_of_62 dX4_of_63 (by decide) (fun c2 => ?_) (fun c2 => ?_)
    · refine G_iconst (v := 0) dX4_of_83 (by decide) ?_
      refine G_istore dX4_of_84 (by decide) (lv' := [(8, .int (0 : Int32)), (0, .ref r0), (2, .int x2), (3, .long x3), (5, .long x5), (7, .int x7)]) rfl ?_
      exact G_sub [1, 2, 3, 4, 5, 0] rfl (k2 c1 c2)
    · refine G_lload 3 rfl dX4_of_66 ?_
      refine G_ldc2 hK_X4_40 dX4_of_68 ?_
      refine G_lmul dX4_of_71 ?_
      refine G_lstore dX4_of_72 (by decide) (lv' := [(5, .long (x5 * (100000 : Int64))), (0, .ref r0), (2, .int x2), (3, .long x3), (7, .int x7), (8, .int x8)]) rfl ?_
      refine G_iinc (v := 5) 4 rfl dX4_of_74 (by decide) (by decide) (lv' := [(7, .int (x7 + 5)), (5, .long (x5 * (100000 : Int64))), (0, .ref r0), (2, .int x2), (3, .long x3), (8, .int x8)]) rfl ?_
      refine G_iinc (v := 1) 5 rfl dX4_of_77 (by decide) (by decide) (lv' := [(8, .int (x8 + 1)), (7, .int (x7 + 5)), (5, .long (x5 * (100000 : Int64))), (0, .ref r0), (2, .int x2), (3, .long x3)]) rfl ?_
      refine G_goto (tgt := 49) dX4_of_80 (by decide) ?_
      exact G_sub [3, 4, 5, 2, 1, 0] rfl (k3 c1 c2)

set_option maxRecDepth 10000 in
theorem TX4_of_86 {d : Nat} {S : fW} {h : fH} {Q : Int64 → fH → Prop} {r0 : Nat} {x2 : Int32} {x3 : Int64} {x5 : Int64} {x7 : Int32} {x8 : Int32}  
    (k1 : (16 : Int32) ≤ x8 → G mX4_of (d + 1) S (f_PL Q) 124 [(0, .ref r0), (2, .int x2), (3, .long x3), (5, .long x5), (7, .int x7), (8, .int (0 : Int32))] [] h)
    (k2 : ¬ (16 : Int32) ≤ x8 → (x3 / (10 : Int64)) < x5 → G mX4_of (d + 1) S (f_PL Q) 124 [(0, .ref r0), (2, .int x2), (3, .long x3), (5, .long x5), (7, .int x7), (8, .int (0 : Int32))] [] h)
    (k3 : ¬ (16 : Int32) ≤ x8 → ¬ (x3 / (10 : Int64)) < x5 → G mX4_of (d + 1) S (f_PL Q) 86 [(0, .ref r0), (2, .int x2), (3, .long x3), (5, .long (x5 * (10 : Int64))), (7, .int (x7 + 1)), (8, .int (x8 + 1))] [] h) :
    G mX4_of (d + 1) S (f_PL Q) 86 [(0, .ref r0), (2, .int x2), (3, .long x3), (5, .long x5), (7, .int x7), (8, .int x8)] [] h := by
  refine G_iload 5 rfl dX4_of_86 ?_
  refine G_bipush (v := 16) dX4_of_88 (by decide) ?_
  refine G_icmp_ge (tgt := 121) dX4_of_90 (by decide) (fun c1 => ?_) (fun c1 => ?_)
  · refine G_iconst (v := 0) dX4_of_121 (by decide) ?_
    refine G_istore dX4_of_122 (by decide) (lv' := [(8, .int (0 : Int32)), (0, .ref r0), (2, .int x2), (3, .long x3), (5, .long x5), (7, .int x7)]) rfl ?_
    exact G_sub [1, 2, 3, 4, 5, 0] rfl (k1 c1)
  · refine G_lload_n 2 rfl dX4_of_93 rfl ?_
    refine G_ldc2 hK_X4_42 dX4_of_94 ?_
    refine G_ldiv dX4_of_97 (by decide) ?_
    refine G_lload 3 rfl dX4_of_98 ?_
    refine G_lif_lt (tgt := 121) dX4_of_100 dX4_of_101 (by decide) (fun c2 => ?_) (fun c2 => ?_)
    · refine G_iconst (v := 0) dX4_of_121 (by decide) ?_
      refine G_istore dX4_of_122 (by decide) (lv' := [(8, .int (0 : Int32)), (0, .ref r0), (2, .int x2), (3, .long x3), (5, .long x5), (7, .int x7)]) rfl ?_
      exact G_sub [1, 2, 3, 4, 5, 0] rfl (k2 c1 c2)
    · refine G_lload 3 rfl dX4_of_104 ?_
      refine G_ldc2 hK_X4_42 dX4_of_106 ?_
      refine G_lmul dX4_of_109 ?_
      refine G_lstore dX4_of_110 (by decide) (lv' := [(5, .long (x5 * (10 : Int64))), (0, .ref r0), (2, .int x2), (3, .long x3), (7, .int x7), (8, .int x8)]) rfl ?_
      refine G_iinc (v := 1) 4 rfl dX4_of_112 (by decide) (by decide) (lv' := [(7, .int (x7 + 1)), (5, .long (x5 * (10 : Int64))), (0, .ref r0), (2, .int x2), (3, .long x3), (8, .int x8)]) rfl ?_
      refine G_iinc (v := 1) 5 rfl dX4_of_115 (by decide) (by decide) (lv' := [(8, .int (x8 + 1)), (7, .int (x7 + 1)), (5, .long (x5 * (10 : Int64))), (0, .ref r0), (2, .int x2), (3, .long x3)]) rfl ?_
      refine G_goto (tgt := 86) dX4_of_118 (by decide) ?_
      exact G_sub [3, 4, 5, 2, 1, 0] rfl (k3 c1 c2)

set_option maxRecDepth 10000 in
theorem TX4_of_124 {d : Nat} {S : fW} {h : fH} {Q : Int64 → fH → Prop} {r0 : Nat} {x2 : Int32} {x3 : Int64} {x5 : Int64} {x7 : Int32} {x8 : Int32}  
    (sd1 : (16 : Int32) ≤ x8 → (0 : Int64) < x5 → ¬ x5 = 0)
    (k1 : (16 : Int32) ≤ x8 → (0 : Int64) < x5 → G mX4_of (d + 1) S (f_PL Q) 177 [(0, .ref r0), (2, .int x2), (5, .long x5), (7, .int x7), (8, .long (x3 / x5)), (10, .long (x3 - x3 / x5 * x5)), (12, .int (1 : Int32))] [] h)
    (k2 : (16 : Int32) ≤ x8 → ¬ (0 : Int64) < x5 → Q (0 : Int64) h)
    (sd2 : ¬ (16 : Int32) ≤ x8 → x5 ≤ x3 → (0 : Int64) < x5 → ¬ x5 = 0)
    (k3 : ¬ (16 : Int32) ≤ x8 → x5 ≤ x3 → (0 : Int64) < x5 → G mX4_of (d + 1) S (f_PL Q) 177 [(0, .ref r0), (2, .int x2), (5, .long x5), (7, .int x7), (8, .long (x3 / x5)), (10, .long (x3 - x3 / x5 * x5)), (12, .int (1 : Int32))] [] h)
    (k4 : ¬ (16 : Int32) ≤ x8 → x5 ≤ x3 → ¬ (0 : Int64) < x5 → Q (0 : Int64) h)
    (k5 : ¬ (16 : Int32) ≤ x8 → ¬ x5 ≤ x3 → G mX4_of (d + 1) S (f_PL Q) 124 [(0, .ref r0), (2, .int x2), (3, .long (x3 * (10 : Int64))), (5, .long x5), (7, .int (x7 + (-1))), (8, .int (x8 + 1))] [] h) :
    G mX4_of (d + 1) S (f_PL Q) 124 [(0, .ref r0), (2, .int x2), (3, .long x3), (5, .long x5), (7, .int x7), (8, .int x8)] [] h := by
  refine G_iload 5 rfl dX4_of_124 ?_
  refine G_bipush (v := 16) dX4_of_126 (by decide) ?_
  refine G_icmp_ge (tgt := 153) dX4_of_128 (by decide) (fun c1 => ?_) (fun c1 => ?_)
  · refine G_lload 3 rfl dX4_of_153 ?_
    refine G_lconst (v := 0) dX4_of_155 (by decide) ?_
    refine G_lif_gt (tgt := 162) dX4_of_156 dX4_of_157 (by decide) (fun c2 => ?_) (fun c2 => ?_)
    · refine G_lload_n 2 rfl dX4_of_162 rfl ?_
      refine G_lload 3 rfl dX4_of_163 ?_
      refine G_ldiv dX4_of_165 (sd1 c1 c2) ?_
      refine G_lstore dX4_of_166 (by decide) (lv' := [(8, .long (x3 / x5)), (0, .ref r0), (2, .int x2), (3, .long x3), (5, .long x5), (7, .int x7)]) rfl ?_
      refine G_lload_n 3 rfl dX4_of_168 rfl ?_
      refine G_lload 4 rfl dX4_of_169 ?_
      refine G_lrem dX4_of_171 (sd1 c1 c2) ?_
      refine G_lstore dX4_of_172 (by decide) (lv' := [(10, .long (x3 - x3 / x5 * x5)), (8, .long (x3 / x5)), (0, .ref r0), (2, .int x2), (3, .long x3), (5, .long x5), (7, .int x7)]) rfl ?_
      refine G_iconst (v := 1) dX4_of_174 (by decide) ?_
      refine G_istore dX4_of_175 (by decide) (lv' := [(12, .int (1 : Int32)), (10, .long (x3 - x3 / x5 * x5)), (8, .long (x3 / x5)), (0, .ref r0), (2, .int x2), (3, .long x3), (5, .long x5), (7, .int x7)]) rfl ?_
      exact G_sub [3, 4, 6, 7, 2, 1, 0] rfl (k1 c1 c2)
    · refine G_lconst (v := 0) dX4_of_160 (by decide) ?_
      exact G_lret rfl dX4_of_161 ⟨_, rfl, (k2 c1 c2)⟩
  · refine G_lload_n 2 rfl dX4_of_131 rfl ?_
    refine G_lload 3 rfl dX4_of_132 ?_
    refine G_lif_ge (tgt := 153) dX4_of_134 dX4_of_135 (by decide) (fun c2 => ?_) (fun c2 => ?_)
    · refine G_lload 3 rfl dX4_of_153 ?_
      refine G_lconst (v := 0) dX4_of_155 (by decide) ?_
      refine G_lif_gt (tgt := 162) dX4_of_156 dX4_of_157 (by decide) (fun c3 => ?_) (fun c3 => ?_)
      · refine G_lload_n 2 rfl dX4_of_162 rfl ?_
        refine G_lload 3 rfl dX4_of_163 ?_
        refine G_ldiv dX4_of_165 (sd2 c1 c2 c3) ?_
        refine G_lstore dX4_of_166 (by decide) (lv' := [(8, .long (x3 / x5)), (0, .ref r0), (2, .int x2), (3, .long x3), (5, .long x5), (7, .int x7)]) rfl ?_
        refine G_lload_n 3 rfl dX4_of_168 rfl ?_
        refine G_lload 4 rfl dX4_of_169 ?_
        refine G_lrem dX4_of_171 (sd2 c1 c2 c3) ?_
        refine G_lstore dX4_of_172 (by decide) (lv' := [(10, .long (x3 - x3 / x5 * x5)), (8, .long (x3 / x5)), (0, .ref r0), (2, .int x2), (3, .long x3), (5, .long x5), (7, .int x7)]) rfl ?_
        refine G_iconst (v := 1) dX4_of_174 (by decide) ?_
        refine G_istore dX4_of_175 (by decide) (lv' := [(12, .int (1 : Int32)), (10, .long (x3 - x3 / x5 * x5)), (8, .long (x3 / x5)), (0, .ref r0), (2, .int x2), (3, .long x3), (5, .long x5), (7, .int x7)]) rfl ?_
        exact G_sub [3, 4, 6, 7, 2, 1, 0] rfl (k3 c1 c2 c3)
      · refine G_lconst (v := 0) dX4_of_160 (by decide) ?_
        exact G_lret rfl dX4_of_161 ⟨_, rfl, (k4 c1 c2 c3)⟩
    · refine G_lload_n 2 rfl dX4_of_138 rfl ?_
      refine G_ldc2 hK_X4_42 dX4_of_139 ?_
      refine G_lmul dX4_of_142 ?_
      refine G_lstore_n dX4_of_143 rfl (by decide) (lv' := [(3, .long (x3 * (10 : Int64))), (0, .ref r0), (2, .int x2), (5, .long x5), (7, .int x7), (8, .int x8)]) rfl ?_
      refine G_iinc (v := -1) 4 rfl dX4_of_144 (by decide) (by decide) (lv' := [(7, .int (x7 + (-1))), (3, .long (x3 * (10 : Int64))), (0, .ref r0), (2, .int x2), (5, .long x5), (8, .int x8)]) rfl ?_
      refine G_iinc (v := 1) 5 rfl dX4_of_147 (by decide) (by decide) (lv' := [(8, .int (x8 + 1)), (7, .int (x7 + (-1))), (3, .long (x3 * (10 : Int64))), (0, .ref r0), (2, .int x2), (5, .long x5)]) rfl ?_
      refine G_goto (tgt := 124) dX4_of_150 (by decide) ?_
      exact G_sub [3, 4, 2, 5, 1, 0] rfl (k5 c1 c2)

set_option maxRecDepth 10000 in
theorem TX4_of_177 {d : Nat} {S : fW} {h : fH} {Q : Int64 → fH → Prop} {r0 : Nat} {x2 : Int32} {x5 : Int64} {x7 : Int32} {x8 : Int64} {x10 : Int64} {x12 : Int32} {Q1 : Int32 → fH → Prop} {Q2 : Int32 → fH → Int64 → fH → Prop} {Q3 : Int32 → fH → Int64 → fH → Prop} 
    (hs1 : (r0, shX4) ∈ S)
    (ok1 : (h.1 r0 0) ≤ x12 → OkI d mX4_goesOn S [.ref r0, .long x8, .long x10, .long x5, .int x2] h Q1)
    (ok2 : (h.1 r0 0) ≤ x12 → ∀ v_1 h_1, Q1 v_1 h_1 → v_1 = 0 → OkL d mX4_placed S [.ref r0, .long x8, .int x7, .int x2] h_1 (Q2 v_1 h_1))
    (k1 : (h.1 r0 0) ≤ x12 → ∀ v_1 h_1, Q1 v_1 h_1 → v_1 = 0 → ∀ v_2 h_2, (Q2 v_1 h_1) v_2 h_2 → Q v_2 h_2)
    (ok3 : (h.1 r0 0) ≤ x12 → ∀ v_1 h_1, Q1 v_1 h_1 → ¬ v_1 = 0 → OkL d mX4_placed S [.ref r0, .long (x8 + (1 : Int64)), .int x7, .int x2] h_1 (Q3 v_1 h_1))
    (k2 : (h.1 r0 0) ≤ x12 → ∀ v_1 h_1, Q1 v_1 h_1 → ¬ v_1 = 0 → ∀ v_3 h_3, (Q3 v_1 h_1) v_3 h_3 → Q v_3 h_3)
    (sd1 : ¬ (h.1 r0 0) ≤ x12 → ¬ x5 = 0)
    (k3 : ¬ (h.1 r0 0) ≤ x12 → G mX4_of (d + 1) S (f_PL Q) 177 [(0, .ref r0), (2, .int x2), (5, .long x5), (7, .int (x7 + (-1))), (8, .long ((x8 * (10 : Int64)) + ((x10 * (10 : Int64)) / x5))), (10, .long ((x10 * (10 : Int64)) - (x10 * (10 : Int64)) / x5 * x5)), (12, .int (x12 + 1))] [] h) :
    G mX4_of (d + 1) S (f_PL Q) 177 [(0, .ref r0), (2, .int x2), (5, .long x5), (7, .int x7), (8, .long x8), (10, .long x10), (12, .int x12)] [] h := by
  refine G_iload 6 rfl dX4_of_177 ?_
  refine G_aload_n 0 rfl dX4_of_179 rfl ?_
  refine G_geti (k := 0) hs1 (q := (RX4, TX4, 3)) rfl inX4 (by decide) (Or.inl rfl) hF_X4_9 dX4_of_180 ?_
  refine G_icmp_ge (tgt := 224) dX4_of_183 (by decide) (fun c1 => ?_) (fun c1 => ?_)
  · refine G_aload_n 0 rfl dX4_of_224 rfl ?_
    refine G_aload_n 0 rfl dX4_of_225 rfl ?_
    refine G_lload 4 rfl dX4_of_226 ?_
    refine G_lload 5 rfl dX4_of_228 ?_
    refine G_lload 2 rfl dX4_of_230 ?_
    refine G_iload_n 1 rfl dX4_of_232 rfl ?_
    refine G_callV (Z := mX4_goesOn) (As := [.long x8, .long x10, .long x5, .int x2]) (st := [.ref r0]) hL_X4_44 hI_X4_goesOn hS_X4_goesOn hC_X4_goesOn hN_X4 nX4_goesOn (by decide) hs1 rfl rfl rfl (Nat.le_of_ble_eq_true rfl) dX4_of_233 (ok1 c1) (fun r_ h_1 z_ => ?_)
    obtain ⟨v_1, rfl, q_1⟩ := z_
    refine G_if_eq (tgt := 246) dX4_of_236 (by decide) (fun c3 => ?_) (fun c3 => ?_)
    · refine G_lload 4 rfl dX4_of_246 ?_
      refine G_iload 3 rfl dX4_of_248 ?_
      refine G_iload_n 1 rfl dX4_of_250 rfl ?_
      refine G_callV (Z := mX4_placed) (As := [.long x8, .int x7, .int x2]) (st := []) hL_X4_48 hI_X4_placed hS_X4_placed hC_X4_placed hN_X4 nX4_placed (by decide) hs1 rfl rfl rfl (Nat.le_of_ble_eq_true rfl) dX4_of_251 (ok2 c1 v_1 h_1 q_1 c3) (fun r_ h_2 z_ => ?_)
      obtain ⟨v_2, rfl, q_2⟩ := z_
      exact G_lret rfl dX4_of_254 ⟨_, rfl, (k1 c1 v_1 h_1 q_1 c3 v_2 h_2 q_2)⟩
    · refine G_lload 4 rfl dX4_of_239 ?_
      refine G_lconst (v := 1) dX4_of_241 (by decide) ?_
      refine G_ladd dX4_of_242 ?_
      refine G_goto (tgt := 248) dX4_of_243 (by decide) ?_
      refine G_iload 3 rfl dX4_of_248 ?_
      refine G_iload_n 1 rfl dX4_of_250 rfl ?_
      refine G_callV (Z := mX4_placed) (As := [.long (x8 + (1 : Int64)), .int x7, .int x2]) (st := []) hL_X4_48 hI_X4_placed hS_X4_placed hC_X4_placed hN_X4 nX4_placed (by decide) hs1 rfl rfl rfl (Nat.le_of_ble_eq_true rfl) dX4_of_251 (ok3 c1 v_1 h_1 q_1 c3) (fun r_ h_3 z_ => ?_)
      obtain ⟨v_3, rfl, q_3⟩ := z_
      exact G_lret rfl dX4_of_254 ⟨_, rfl, (k2 c1 v_1 h_1 q_1 c3 v_3 h_3 q_3)⟩
  · refine G_lload 5 rfl dX4_of_186 ?_
    refine G_ldc2 hK_X4_42 dX4_of_188 ?_
    refine G_lmul dX4_of_191 ?_
    refine G_lstore dX4_of_192 (by decide) (lv' := [(10, .long (x10 * (10 : Int64))), (0, .ref r0), (2, .int x2), (5, .long x5), (7, .int x7), (8, .long x8), (12, .int x12)]) rfl ?_
    refine G_lload 5 rfl dX4_of_194 ?_
    refine G_ldc2 hK_X4_42 dX4_of_196 ?_
    refine G_lmul dX4_of_199 ?_
    refine G_lload 0 rfl dX4_of_200 ?_
    refine G_lload 3 rfl dX4_of_202 ?_
    refine G_ldiv dX4_of_204 (sd1 c1) ?_
    refine G_ladd dX4_of_205 ?_
    refine G_lstore dX4_of_206 (by decide) (lv' := [(8, .long ((x8 * (10 : Int64)) + ((x10 * (10 : Int64)) / x5))), (10, .long (x10 * (10 : Int64))), (0, .ref r0), (2, .int x2), (5, .long x5), (7, .int x7), (12, .int x12)]) rfl ?_
    refine G_lload 1 rfl dX4_of_208 ?_
    refine G_lload 4 rfl dX4_of_210 ?_
    refine G_lrem dX4_of_212 (sd1 c1) ?_
    refine G_lstore dX4_of_213 (by decide) (lv' := [(10, .long ((x10 * (10 : Int64)) - (x10 * (10 : Int64)) / x5 * x5)), (8, .long ((x8 * (10 : Int64)) + ((x10 * (10 : Int64)) / x5))), (0, .ref r0), (2, .int x2), (5, .long x5), (7, .int x7), (12, .int x12)]) rfl ?_
    refine G_iinc (v := -1) 5 rfl dX4_of_215 (by decide) (by decide) (lv' := [(7, .int (x7 + (-1))), (10, .long ((x10 * (10 : Int64)) - (x10 * (10 : Int64)) / x5 * x5)), (8, .long ((x8 * (10 : Int64)) + ((x10 * (10 : Int64)) / x5))), (0, .ref r0), (2, .int x2), (5, .long x5), (12, .int x12)]) rfl ?_
    refine G_iinc (v := 1) 6 rfl dX4_of_218 (by decide) (by decide) (lv' := [(12, .int (x12 + 1)), (7, .int (x7 + (-1))), (10, .long ((x10 * (10 : Int64)) - (x10 * (10 : Int64)) / x5 * x5)), (8, .long ((x8 * (10 : Int64)) + ((x10 * (10 : Int64)) / x5))), (0, .ref r0), (2, .int x2), (5, .long x5)]) rfl ?_
    refine G_goto (tgt := 177) dX4_of_221 (by decide) ?_
    exact G_sub [4, 5, 6, 1, 3, 2, 0] rfl (k3 c1)
-- LostDigits$Rounding.goesOn
theorem dX4_goesOn_0 : decode cX4_goesOn 0 = .ok (.aload_n 0, 1) := by decide +kernel
theorem dX4_goesOn_1 : decode cX4_goesOn 1 = .ok (.getfield 15, 3) := by decide +kernel
theorem dX4_goesOn_4 : decode cX4_goesOn 4 = .ok (.iconst 2, 1) := by decide +kernel
theorem dX4_goesOn_5 : decode cX4_goesOn 5 = .ok (.if_icmp .ne 20, 3) := by decide +kernel
theorem dX4_goesOn_8 : decode cX4_goesOn 8 = .ok (.lload_n 3, 1) := by decide +kernel
theorem dX4_goesOn_9 : decode cX4_goesOn 9 = .ok (.lconst 0, 1) := by decide +kernel
theorem dX4_goesOn_10 : decode cX4_goesOn 10 = .ok (.lcmp, 1) := by decide +kernel
theorem dX4_goesOn_11 : decode cX4_goesOn 11 = .ok (.ifCond .le 12, 3) := by decide +kernel
theorem dX4_goesOn_14 : decode cX4_goesOn 14 = .ok (.iload 7, 2) := by decide +kernel
theorem dX4_goesOn_16 : decode cX4_goesOn 16 = .ok (.ifCond .ne 7, 3) := by decide +kernel
theorem dX4_goesOn_19 : decode cX4_goesOn 19 = .ok (.iconst 1, 1) := by decide +kernel
theorem dX4_goesOn_20 : decode cX4_goesOn 20 = .ok (.goto 4, 3) := by decide +kernel
theorem dX4_goesOn_23 : decode cX4_goesOn 23 = .ok (.iconst 0, 1) := by decide +kernel
theorem dX4_goesOn_24 : decode cX4_goesOn 24 = .ok (.ireturn, 1) := by decide +kernel
theorem dX4_goesOn_25 : decode cX4_goesOn 25 = .ok (.aload_n 0, 1) := by decide +kernel
theorem dX4_goesOn_26 : decode cX4_goesOn 26 = .ok (.getfield 15, 3) := by decide +kernel
theorem dX4_goesOn_29 : decode cX4_goesOn 29 = .ok (.iconst 3, 1) := by decide +kernel
theorem dX4_goesOn_30 : decode cX4_goesOn 30 = .ok (.if_icmp .ne 20, 3) := by decide +kernel
theorem dX4_goesOn_33 : decode cX4_goesOn 33 = .ok (.lload_n 3, 1) := by decide +kernel
theorem dX4_goesOn_34 : decode cX4_goesOn 34 = .ok (.lconst 0, 1) := by decide +kernel
theorem dX4_goesOn_35 : decode cX4_goesOn 35 = .ok (.lcmp, 1) := by decide +kernel
theorem dX4_goesOn_36 : decode cX4_goesOn 36 = .ok (.ifCond .le 12, 3) := by decide +kernel
theorem dX4_goesOn_39 : decode cX4_goesOn 39 = .ok (.iload 7, 2) := by decide +kernel
theorem dX4_goesOn_41 : decode cX4_goesOn 41 = .ok (.ifCond .eq 7, 3) := by decide +kernel
theorem dX4_goesOn_44 : decode cX4_goesOn 44 = .ok (.iconst 1, 1) := by decide +kernel
theorem dX4_goesOn_45 : decode cX4_goesOn 45 = .ok (.goto 4, 3) := by decide +kernel
theorem dX4_goesOn_48 : decode cX4_goesOn 48 = .ok (.iconst 0, 1) := by decide +kernel
theorem dX4_goesOn_49 : decode cX4_goesOn 49 = .ok (.ireturn, 1) := by decide +kernel
theorem dX4_goesOn_50 : decode cX4_goesOn 50 = .ok (.aload_n 0, 1) := by decide +kernel
theorem dX4_goesOn_51 : decode cX4_goesOn 51 = .ok (.getfield 15, 3) := by decide +kernel
theorem dX4_goesOn_54 : decode cX4_goesOn 54 = .ok (.ifCond .ne 37, 3) := by decide +kernel
theorem dX4_goesOn_57 : decode cX4_goesOn 57 = .ok (.lload_n 3, 1) := by decide +kernel
theorem dX4_goesOn_58 : decode cX4_goesOn 58 = .ok (.lload 5, 2) := by decide +kernel
theorem dX4_goesOn_60 : decode cX4_goesOn 60 = .ok (.lload_n 3, 1) := by decide +kernel
theorem dX4_goesOn_61 : decode cX4_goesOn 61 = .ok (.lsub, 1) := by decide +kernel
theorem dX4_goesOn_62 : decode cX4_goesOn 62 = .ok (.lcmp, 1) := by decide +kernel
theorem dX4_goesOn_63 : decode cX4_goesOn 63 = .ok (.ifCond .gt 22, 3) := by decide +kernel
theorem dX4_goesOn_66 : decode cX4_goesOn 66 = .ok (.lload_n 3, 1) := by decide +kernel
theorem dX4_goesOn_67 : decode cX4_goesOn 67 = .ok (.lload 5, 2) := by decide +kernel
theorem dX4_goesOn_69 : decode cX4_goesOn 69 = .ok (.lload_n 3, 1) := by decide +kernel
theorem dX4_goesOn_70 : decode cX4_goesOn 70 = .ok (.lsub, 1) := by decide +kernel
theorem dX4_goesOn_71 : decode cX4_goesOn 71 = .ok (.lcmp, 1) := by decide +kernel
theorem dX4_goesOn_72 : decode cX4_goesOn 72 = .ok (.ifCond .ne 17, 3) := by decide +kernel
theorem dX4_goesOn_75 : decode cX4_goesOn 75 = .ok (.lload_n 1, 1) := by decide +kernel
theorem dX4_goesOn_76 : decode cX4_goesOn 76 = .ok (.ldc2_w 52, 3) := by decide +kernel
theorem dX4_goesOn_79 : decode cX4_goesOn 79 = .ok (.lrem, 1) := by decide +kernel
theorem dX4_goesOn_80 : decode cX4_goesOn 80 = .ok (.lconst 1, 1) := by decide +kernel
theorem dX4_goesOn_81 : decode cX4_goesOn 81 = .ok (.lcmp, 1) := by decide +kernel
theorem dX4_goesOn_82 : decode cX4_goesOn 82 = .ok (.ifCond .ne 7, 3) := by decide +kernel
theorem dX4_goesOn_85 : decode cX4_goesOn 85 = .ok (.iconst 1, 1) := by decide +kernel
theorem dX4_goesOn_86 : decode cX4_goesOn 86 = .ok (.goto 4, 3) := by decide +kernel
theorem dX4_goesOn_89 : decode cX4_goesOn 89 = .ok (.iconst 0, 1) := by decide +kernel
theorem dX4_goesOn_90 : decode cX4_goesOn 90 = .ok (.ireturn, 1) := by decide +kernel
theorem dX4_goesOn_91 : decode cX4_goesOn 91 = .ok (.iconst 0, 1) := by decide +kernel
theorem dX4_goesOn_92 : decode cX4_goesOn 92 = .ok (.ireturn, 1) := by decide +kernel
set_option maxRecDepth 10000 in
theorem TX4_goesOn_0 {d : Nat} {S : fW} {h : fH} {Q : Int32 → fH → Prop} {r0 : Nat} {x1 : Int64} {x3 : Int64} {x5 : Int64} {x7 : Int32}  
    (hs1 : (r0, shX4) ∈ S)
    (k1 : ¬ (h.1 r0 1) = (2 : Int32) → ¬ (h.1 r0 1) = (3 : Int32) → ¬ (h.1 r0 1) = 0 → Q (0 : Int32) h)
    (k2 : ¬ (h.1 r0 1) = (2 : Int32) → ¬ (h.1 r0 1) = (3 : Int32) → (h.1 r0 1) = 0 → (x5 - x3) < x3 → Q (1 : Int32) h)
    (k3 : ¬ (h.1 r0 1) = (2 : Int32) → ¬ (h.1 r0 1) = (3 : Int32) → (h.1 r0 1) = 0 → ¬ (x5 - x3) < x3 → ¬ x3 = (x5 - x3) → Q (0 : Int32) h)
    (k4 : ¬ (h.1 r0 1) = (2 : Int32) → ¬ (h.1 r0 1) = (3 : Int32) → (h.1 r0 1) = 0 → ¬ (x5 - x3) < x3 → x3 = (x5 - x3) → ¬ (x1 - x1 / (2 : Int64) * (2 : Int64)) = (1 : Int64) → Q (0 : Int32) h)
    (k5 : ¬ (h.1 r0 1) = (2 : Int32) → ¬ (h.1 r0 1) = (3 : Int32) → (h.1 r0 1) = 0 → ¬ (x5 - x3) < x3 → x3 = (x5 - x3) → (x1 - x1 / (2 : Int64) * (2 : Int64)) = (1 : Int64) → Q (1 : Int32) h)
    (k6 : ¬ (h.1 r0 1) = (2 : Int32) → (h.1 r0 1) = (3 : Int32) → x3 ≤ (0 : Int64) → Q (0 : Int32) h)
    (k7 : ¬ (h.1 r0 1) = (2 : Int32) → (h.1 r0 1) = (3 : Int32) → ¬ x3 ≤ (0 : Int64) → x7 = 0 → Q (0 : Int32) h)
    (k8 : ¬ (h.1 r0 1) = (2 : Int32) → (h.1 r0 1) = (3 : Int32) → ¬ x3 ≤ (0 : Int64) → ¬ x7 = 0 → Q (1 : Int32) h)
    (k9 : (h.1 r0 1) = (2 : Int32) → x3 ≤ (0 : Int64) → Q (0 : Int32) h)
    (k10 : (h.1 r0 1) = (2 : Int32) → ¬ x3 ≤ (0 : Int64) → ¬ x7 = 0 → Q (0 : Int32) h)
    (k11 : (h.1 r0 1) = (2 : Int32) → ¬ x3 ≤ (0 : Int64) → x7 = 0 → Q (1 : Int32) h) :
    OkI d mX4_goesOn S [.ref r0, .long x1, .long x3, .long x5, .int x7] h Q := by
  refine Ok.of (by decide) (Nat.le_of_ble_eq_true rfl) ?_
  refine G_aload_n 0 rfl dX4_goesOn_0 rfl ?_
  refine G_geti (k := 1) hs1 (q := (RX4, TX4, 3)) rfl inX4 (by decide) (Or.inl rfl) hF_X4_15 dX4_goesOn_1 ?_
  refine G_iconst (v := 2) dX4_goesOn_4 (by decide) ?_
  refine G_icmp_ne (tgt := 25) dX4_goesOn_5 (by decide) (fun c1 => ?_) (fun c1 => ?_)
  · refine G_aload_n 0 rfl dX4_goesOn_25 rfl ?_
    refine G_geti (k := 1) hs1 (q := (RX4, TX4, 3)) rfl inX4 (by decide) (Or.inl rfl) hF_X4_15 dX4_goesOn_26 ?_
    refine G_iconst (v := 3) dX4_goesOn_29 (by decide) ?_
    refine G_icmp_ne (tgt := 50) dX4_goesOn_30 (by decide) (fun c2 => ?_) (fun c2 => ?_)
    · refine G_aload_n 0 rfl dX4_goesOn_50 rfl ?_
      refine G_geti (k := 1) hs1 (q := (RX4, TX4, 3)) rfl inX4 (by decide) (Or.inl rfl) hF_X4_15 dX4_goesOn_51 ?_
      refine G_if_ne (tgt := 91) dX4_goesOn_54 (by decide) (fun c3 => ?_) (fun c3 => ?_)
      · refine G_iconst (v := 0) dX4_goesOn_91 (by decide) ?_
        exact G_zret rfl (Or.inl rfl) dX4_goesOn_92 ⟨_, rfl, (k1 c1 c2 c3)⟩
      · refine G_lload_n 2 rfl dX4_goesOn_57 rfl ?_
        refine G_lload 3 rfl dX4_goesOn_58 ?_
        refine G_lload_n 2 rfl dX4_goesOn_60 rfl ?_
        refine G_lsub dX4_goesOn_61 ?_
        refine G_lif_gt (tgt := 85) dX4_goesOn_62 dX4_goesOn_63 (by decide) (fun c4 => ?_) (fun c4 => ?_)
        · refine G_iconst (v := 1) dX4_goesOn_85 (by decide) ?_
          refine G_goto (tgt := 90) dX4_goesOn_86 (by decide) ?_
          exact G_zret rfl (Or.inr rfl) dX4_goesOn_90 ⟨_, rfl, (k2 c1 c2 c3 c4)⟩
        · refine G_lload_n 2 rfl dX4_goesOn_66 rfl ?_
          refine G_lload 3 rfl dX4_goesOn_67 ?_
          refine G_lload_n 2 rfl dX4_goesOn_69 rfl ?_
          refine G_lsub dX4_goesOn_70 ?_
          refine G_lif_ne (tgt := 89) dX4_goesOn_71 dX4_goesOn_72 (by decide) (fun c5 => ?_) (fun c5 => ?_)
          · refine G_iconst (v := 0) dX4_goesOn_89 (by decide) ?_
            exact G_zret rfl (Or.inl rfl) dX4_goesOn_90 ⟨_, rfl, (k3 c1 c2 c3 c4 c5)⟩
          · refine G_lload_n 1 rfl dX4_goesOn_75 rfl ?_
            refine G_ldc2 hK_X4_52 dX4_goesOn_76 ?_
            refine G_lrem dX4_goesOn_79 (by decide) ?_
            refine G_lconst (v := 1) dX4_goesOn_80 (by decide) ?_
            refine G_lif_ne (tgt := 89) dX4_goesOn_81 dX4_goesOn_82 (by decide) (fun c6 => ?_) (fun c6 => ?_)
            · refine G_iconst (v := 0) dX4_goesOn_89 (by decide) ?_
              exact G_zret rfl (Or.inl rfl) dX4_goesOn_90 ⟨_, rfl, (k4 c1 c2 c3 c4 c5 c6)⟩
            · refine G_iconst (v := 1) dX4_goesOn_85 (by decide) ?_
              refine G_goto (tgt := 90) dX4_goesOn_86 (by decide) ?_
              exact G_zret rfl (Or.inr rfl) dX4_goesOn_90 ⟨_, rfl, (k5 c1 c2 c3 c4 c5 c6)⟩
    · refine G_lload_n 2 rfl dX4_goesOn_33 rfl ?_
      refine G_lconst (v := 0) dX4_goesOn_34 (by decide) ?_
      refine G_lif_le (tgt := 48) dX4_goesOn_35 dX4_goesOn_36 (by decide) (fun c3 => ?_) (fun c3 => ?_)
      · refine G_iconst (v := 0) dX4_goesOn_48 (by decide) ?_
        exact G_zret rfl (Or.inl rfl) dX4_goesOn_49 ⟨_, rfl, (k6 c1 c2 c3)⟩
      · refine G_iload 4 rfl dX4_goesOn_39 ?_
        refine G_if_eq (tgt := 48) dX4_goesOn_41 (by decide) (fun c4 => ?_) (fun c4 => ?_)
        · refine G_iconst (v := 0) dX4_goesOn_48 (by decide) ?_
          exact G_zret rfl (Or.inl rfl) dX4_goesOn_49 ⟨_, rfl, (k7 c1 c2 c3 c4)⟩
        · refine G_iconst (v := 1) dX4_goesOn_44 (by decide) ?_
          refine G_goto (tgt := 49) dX4_goesOn_45 (by decide) ?_
          exact G_zret rfl (Or.inr rfl) dX4_goesOn_49 ⟨_, rfl, (k8 c1 c2 c3 c4)⟩
  · refine G_lload_n 2 rfl dX4_goesOn_8 rfl ?_
    refine G_lconst (v := 0) dX4_goesOn_9 (by decide) ?_
    refine G_lif_le (tgt := 23) dX4_goesOn_10 dX4_goesOn_11 (by decide) (fun c2 => ?_) (fun c2 => ?_)
    · refine G_iconst (v := 0) dX4_goesOn_23 (by decide) ?_
      exact G_zret rfl (Or.inl rfl) dX4_goesOn_24 ⟨_, rfl, (k9 c1 c2)⟩
    · refine G_iload 4 rfl dX4_goesOn_14 ?_
      refine G_if_ne (tgt := 23) dX4_goesOn_16 (by decide) (fun c3 => ?_) (fun c3 => ?_)
      · refine G_iconst (v := 0) dX4_goesOn_23 (by decide) ?_
        exact G_zret rfl (Or.inl rfl) dX4_goesOn_24 ⟨_, rfl, (k10 c1 c2 c3)⟩
      · refine G_iconst (v := 1) dX4_goesOn_19 (by decide) ?_
        refine G_goto (tgt := 24) dX4_goesOn_20 (by decide) ?_
        exact G_zret rfl (Or.inr rfl) dX4_goesOn_24 ⟨_, rfl, (k11 c1 c2 c3)⟩
-- LostDigits$Rounding.placed
theorem dX4_placed_0 : decode cX4_placed 0 = .ok (.aload_n 0, 1) := by decide +kernel
theorem dX4_placed_1 : decode cX4_placed 1 = .ok (.getfield 9, 3) := by decide +kernel
theorem dX4_placed_4 : decode cX4_placed 4 = .ok (.iconst 1, 1) := by decide +kernel
theorem dX4_placed_5 : decode cX4_placed 5 = .ok (.if_icmp .lt 28, 3) := by decide +kernel
theorem dX4_placed_8 : decode cX4_placed 8 = .ok (.aload_n 0, 1) := by decide +kernel
theorem dX4_placed_9 : decode cX4_placed 9 = .ok (.getfield 9, 3) := by decide +kernel
theorem dX4_placed_12 : decode cX4_placed 12 = .ok (.iconst 4, 1) := by decide +kernel
theorem dX4_placed_13 : decode cX4_placed 13 = .ok (.if_icmp .gt 20, 3) := by decide +kernel
theorem dX4_placed_16 : decode cX4_placed 16 = .ok (.lload_n 1, 1) := by decide +kernel
theorem dX4_placed_17 : decode cX4_placed 17 = .ok (.getstatic 54, 3) := by decide +kernel
theorem dX4_placed_20 : decode cX4_placed 20 = .ok (.aload_n 0, 1) := by decide +kernel
theorem dX4_placed_21 : decode cX4_placed 21 = .ok (.getfield 9, 3) := by decide +kernel
theorem dX4_placed_24 : decode cX4_placed 24 = .ok (.laload, 1) := by decide +kernel
theorem dX4_placed_25 : decode cX4_placed 25 = .ok (.lcmp, 1) := by decide +kernel
theorem dX4_placed_26 : decode cX4_placed 26 = .ok (.ifCond .lt 7, 3) := by decide +kernel
theorem dX4_placed_29 : decode cX4_placed 29 = .ok (.iconst 1, 1) := by decide +kernel
theorem dX4_placed_30 : decode cX4_placed 30 = .ok (.goto 4, 3) := by decide +kernel
theorem dX4_placed_33 : decode cX4_placed 33 = .ok (.iconst 0, 1) := by decide +kernel
theorem dX4_placed_34 : decode cX4_placed 34 = .ok (.istore 5, 2) := by decide +kernel
theorem dX4_placed_36 : decode cX4_placed 36 = .ok (.iload 5, 2) := by decide +kernel
theorem dX4_placed_38 : decode cX4_placed 38 = .ok (.ifCond .eq 11, 3) := by decide +kernel
theorem dX4_placed_41 : decode cX4_placed 41 = .ok (.lload_n 1, 1) := by decide +kernel
theorem dX4_placed_42 : decode cX4_placed 42 = .ok (.ldc2_w 42, 3) := by decide +kernel
theorem dX4_placed_45 : decode cX4_placed 45 = .ok (.ldiv, 1) := by decide +kernel
theorem dX4_placed_46 : decode cX4_placed 46 = .ok (.goto 4, 3) := by decide +kernel
theorem dX4_placed_49 : decode cX4_placed 49 = .ok (.lload_n 1, 1) := by decide +kernel
theorem dX4_placed_50 : decode cX4_placed 50 = .ok (.lstore 6, 2) := by decide +kernel
theorem dX4_placed_52 : decode cX4_placed 52 = .ok (.iload 5, 2) := by decide +kernel
theorem dX4_placed_54 : decode cX4_placed 54 = .ok (.ifCond .eq 9, 3) := by decide +kernel
theorem dX4_placed_57 : decode cX4_placed 57 = .ok (.iload_n 3, 1) := by decide +kernel
theorem dX4_placed_58 : decode cX4_placed 58 = .ok (.iconst 1, 1) := by decide +kernel
theorem dX4_placed_59 : decode cX4_placed 59 = .ok (.iadd, 1) := by decide +kernel
theorem dX4_placed_60 : decode cX4_placed 60 = .ok (.goto 4, 3) := by decide +kernel
theorem dX4_placed_63 : decode cX4_placed 63 = .ok (.iload_n 3, 1) := by decide +kernel
theorem dX4_placed_64 : decode cX4_placed 64 = .ok (.istore 8, 2) := by decide +kernel
theorem dX4_placed_66 : decode cX4_placed 66 = .ok (.iload 8, 2) := by decide +kernel
theorem dX4_placed_68 : decode cX4_placed 68 = .ok (.aload_n 0, 1) := by decide +kernel
theorem dX4_placed_69 : decode cX4_placed 69 = .ok (.getfield 9, 3) := by decide +kernel
theorem dX4_placed_72 : decode cX4_placed 72 = .ok (.iadd, 1) := by decide +kernel
theorem dX4_placed_73 : decode cX4_placed 73 = .ok (.iconst 1, 1) := by decide +kernel
theorem dX4_placed_74 : decode cX4_placed 74 = .ok (.isub, 1) := by decide +kernel
theorem dX4_placed_75 : decode cX4_placed 75 = .ok (.istore 9, 2) := by decide +kernel
theorem dX4_placed_77 : decode cX4_placed 77 = .ok (.iload 9, 2) := by decide +kernel
theorem dX4_placed_79 : decode cX4_placed 79 = .ok (.bipush 16, 2) := by decide +kernel
theorem dX4_placed_81 : decode cX4_placed 81 = .ok (.if_icmp .lt 7, 3) := by decide +kernel
theorem dX4_placed_84 : decode cX4_placed 84 = .ok (.ldc2_w 58, 3) := by decide +kernel
theorem dX4_placed_87 : decode cX4_placed 87 = .ok (.lreturn, 1) := by decide +kernel
theorem dX4_placed_88 : decode cX4_placed 88 = .ok (.lconst 0, 1) := by decide +kernel
theorem dX4_placed_89 : decode cX4_placed 89 = .ok (.lstore 10, 2) := by decide +kernel
theorem dX4_placed_91 : decode cX4_placed 91 = .ok (.iload 9, 2) := by decide +kernel
theorem dX4_placed_93 : decode cX4_placed 93 = .ok (.iconst 3, 1) := by decide +kernel
theorem dX4_placed_94 : decode cX4_placed 94 = .ok (.if_icmp .lt 31, 3) := by decide +kernel
theorem dX4_placed_97 : decode cX4_placed 97 = .ok (.iload 8, 2) := by decide +kernel
theorem dX4_placed_99 : decode cX4_placed 99 = .ok (.ifCond .lt 26, 3) := by decide +kernel
theorem dX4_placed_102 : decode cX4_placed 102 = .ok (.iload 8, 2) := by decide +kernel
theorem dX4_placed_104 : decode cX4_placed 104 = .ok (.getstatic 54, 3) := by decide +kernel
theorem dX4_placed_107 : decode cX4_placed 107 = .ok (.arraylength, 1) := by decide +kernel
theorem dX4_placed_108 : decode cX4_placed 108 = .ok (.if_icmp .ge 17, 3) := by decide +kernel
theorem dX4_placed_111 : decode cX4_placed 111 = .ok (.lload 6, 2) := by decide +kernel
theorem dX4_placed_113 : decode cX4_placed 113 = .ok (.getstatic 54, 3) := by decide +kernel
theorem dX4_placed_116 : decode cX4_placed 116 = .ok (.iload 8, 2) := by decide +kernel
theorem dX4_placed_118 : decode cX4_placed 118 = .ok (.laload, 1) := by decide +kernel
theorem dX4_placed_119 : decode cX4_placed 119 = .ok (.lmul, 1) := by decide +kernel
theorem dX4_placed_120 : decode cX4_placed 120 = .ok (.lstore 10, 2) := by decide +kernel
theorem dX4_placed_122 : decode cX4_placed 122 = .ok (.goto 32, 3) := by decide +kernel
theorem dX4_placed_125 : decode cX4_placed 125 = .ok (.aload_n 0, 1) := by decide +kernel
theorem dX4_placed_126 : decode cX4_placed 126 = .ok (.getfield 18, 3) := by decide +kernel
theorem dX4_placed_129 : decode cX4_placed 129 = .ok (.ifCond .eq 25, 3) := by decide +kernel
theorem dX4_placed_132 : decode cX4_placed 132 = .ok (.aload_n 0, 1) := by decide +kernel
theorem dX4_placed_133 : decode cX4_placed 133 = .ok (.getfield 15, 3) := by decide +kernel
theorem dX4_placed_136 : decode cX4_placed 136 = .ok (.iload 4, 2) := by decide +kernel
theorem dX4_placed_138 : decode cX4_placed 138 = .ok (.ifCond .eq 7, 3) := by decide +kernel
theorem dX4_placed_141 : decode cX4_placed 141 = .ok (.iconst 3, 1) := by decide +kernel
theorem dX4_placed_142 : decode cX4_placed 142 = .ok (.goto 4, 3) := by decide +kernel
theorem dX4_placed_145 : decode cX4_placed 145 = .ok (.iconst 2, 1) := by decide +kernel
theorem dX4_placed_146 : decode cX4_placed 146 = .ok (.if_icmp .ne 8, 3) := by decide +kernel
theorem dX4_placed_149 : decode cX4_placed 149 = .ok (.ldc2_w 60, 3) := by decide +kernel
theorem dX4_placed_152 : decode cX4_placed 152 = .ok (.lstore 10, 2) := by decide +kernel
theorem dX4_placed_154 : decode cX4_placed 154 = .ok (.iload 4, 2) := by decide +kernel
theorem dX4_placed_156 : decode cX4_placed 156 = .ok (.ifCond .eq 9, 3) := by decide +kernel
theorem dX4_placed_159 : decode cX4_placed 159 = .ok (.lload 10, 2) := by decide +kernel
theorem dX4_placed_161 : decode cX4_placed 161 = .ok (.lneg, 1) := by decide +kernel
theorem dX4_placed_162 : decode cX4_placed 162 = .ok (.goto 5, 3) := by decide +kernel
theorem dX4_placed_165 : decode cX4_placed 165 = .ok (.lload 10, 2) := by decide +kernel
theorem dX4_placed_167 : decode cX4_placed 167 = .ok (.lreturn, 1) := by decide +kernel
set_option maxRecDepth 10000 in
theorem TX4_placed_0 {d : Nat} {S : fW} {h : fH} {Q : Int64 → fH → Prop} {r0 : Nat} {x1 : Int64} {x3 : Int32} {x4 : Int32}  
    (hs1 : (r0, shX4) ∈ S)
    (k1 : (h.1 r0 0) < (1 : Int32) → G mX4_placed d S (f_PL Q) 34 [(0, .ref r0), (1, .long x1), (3, .int x3), (4, .int x4)] [.int (0 : Int32)] h)
    (k2 : ¬ (h.1 r0 0) < (1 : Int32) → (4 : Int32) < (h.1 r0 0) → G mX4_placed d S (f_PL Q) 34 [(0, .ref r0), (1, .long x1), (3, .int x3), (4, .int x4)] [.int (0 : Int32)] h)
    (sd1 : ¬ (h.1 r0 0) < (1 : Int32) → ¬ (4 : Int32) < (h.1 r0 0) → vp_in (h.1 r0 0) 19)
    (k3 : ¬ (h.1 r0 0) < (1 : Int32) → ¬ (4 : Int32) < (h.1 r0 0) → x1 < (f_ten (h.1 r0 0).toNatClampNeg) → G mX4_placed d S (f_PL Q) 34 [(0, .ref r0), (1, .long x1), (3, .int x3), (4, .int x4)] [.int (0 : Int32)] h)
    (k4 : ¬ (h.1 r0 0) < (1 : Int32) → ¬ (4 : Int32) < (h.1 r0 0) → ¬ x1 < (f_ten (h.1 r0 0).toNatClampNeg) → G mX4_placed d S (f_PL Q) 34 [(0, .ref r0), (1, .long x1), (3, .int x3), (4, .int x4)] [.int (1 : Int32)] h) :
    OkL d mX4_placed S [.ref r0, .long x1, .int x3, .int x4] h Q := by
  refine Ok.of (by decide) (Nat.le_of_ble_eq_true rfl) ?_
  refine G_aload_n 0 rfl dX4_placed_0 rfl ?_
  refine G_geti (k := 0) hs1 (q := (RX4, TX4, 3)) rfl inX4 (by decide) (Or.inl rfl) hF_X4_9 dX4_placed_1 ?_
  refine G_iconst (v := 1) dX4_placed_4 (by decide) ?_
  refine G_icmp_lt (tgt := 33) dX4_placed_5 (by decide) (fun c1 => ?_) (fun c1 => ?_)
  · refine G_iconst (v := 0) dX4_placed_33 (by decide) ?_
    exact G_sub [0, 1, 2, 3] rfl (k1 c1)
  · refine G_aload_n 0 rfl dX4_placed_8 rfl ?_
    refine G_geti (k := 0) hs1 (q := (RX4, TX4, 3)) rfl inX4 (by decide) (Or.inl rfl) hF_X4_9 dX4_placed_9 ?_
    refine G_iconst (v := 4) dX4_placed_12 (by decide) ?_
    refine G_icmp_gt (tgt := 33) dX4_placed_13 (by decide) (fun c2 => ?_) (fun c2 => ?_)
    · refine G_iconst (v := 0) dX4_placed_33 (by decide) ?_
      exact G_sub [0, 1, 2, 3] rfl (k2 c1 c2)
    · refine G_lload_n 1 rfl dX4_placed_16 rfl ?_
      refine G_tens hM_X4_54 dX4_placed_17 ?_
      refine G_aload_n 0 rfl dX4_placed_20 rfl ?_
      refine G_geti (k := 0) hs1 (q := (RX4, TX4, 3)) rfl inX4 (by decide) (Or.inl rfl) hF_X4_9 dX4_placed_21 ?_
      refine G_tlal (sd1 c1 c2) dX4_placed_24 ?_
      refine G_lif_lt (tgt := 33) dX4_placed_25 dX4_placed_26 (by decide) (fun c3 => ?_) (fun c3 => ?_)
      · refine G_iconst (v := 0) dX4_placed_33 (by decide) ?_
        exact G_sub [0, 1, 2, 3] rfl (k3 c1 c2 c3)
      · refine G_iconst (v := 1) dX4_placed_29 (by decide) ?_
        refine G_goto (tgt := 34) dX4_placed_30 (by decide) ?_
        exact G_sub [0, 1, 2, 3] rfl (k4 c1 c2 c3)

set_option maxRecDepth 10000 in
theorem TX4_placed_34 {d : Nat} {S : fW} {h : fH} {Q : Int64 → fH → Prop} {r0 : Nat} {x1 : Int64} {x3 : Int32} {x4 : Int32} {s0 : Int32}  
    (k1 : s0 = 0 → G mX4_placed d S (f_PL Q) 64 [(0, .ref r0), (4, .int x4), (6, .long x1)] [.int x3] h)
    (k2 : ¬ s0 = 0 → G mX4_placed d S (f_PL Q) 64 [(0, .ref r0), (4, .int x4), (6, .long (x1 / (10 : Int64)))] [.int (x3 + (1 : Int32))] h) :
    G mX4_placed d S (f_PL Q) 34 [(0, .ref r0), (1, .long x1), (3, .int x3), (4, .int x4)] [.int s0] h := by
  refine G_istore dX4_placed_34 (by decide) (lv' := [(5, .int s0), (0, .ref r0), (1, .long x1), (3, .int x3), (4, .int x4)]) rfl ?_
  refine G_iload 0 rfl dX4_placed_36 ?_
  refine G_if_eq (tgt := 49) dX4_placed_38 (by decide) (fun c1 => ?_) (fun c1 => ?_)
  · refine G_lload_n 2 rfl dX4_placed_49 rfl ?_
    refine G_lstore dX4_placed_50 (by decide) (lv' := [(6, .long x1), (5, .int s0), (0, .ref r0), (1, .long x1), (3, .int x3), (4, .int x4)]) rfl ?_
    refine G_iload 1 rfl dX4_placed_52 ?_
    refine G_if_eq (tgt := 63) dX4_placed_54 (by decide) (fun c2 => ?_) (fun c2 => absurd c1 c2)
    refine G_iload_n 4 rfl dX4_placed_63 rfl ?_
    exact G_sub [2, 5, 0] rfl (k1 c1)
  · refine G_lload_n 2 rfl dX4_placed_41 rfl ?_
    refine G_ldc2 hK_X4_42 dX4_placed_42 ?_
    refine G_ldiv dX4_placed_45 (by decide) ?_
    refine G_goto (tgt := 50) dX4_placed_46 (by decide) ?_
    refine G_lstore dX4_placed_50 (by decide) (lv' := [(6, .long (x1 / (10 : Int64))), (5, .int s0), (0, .ref r0), (1, .long x1), (3, .int x3), (4, .int x4)]) rfl ?_
    refine G_iload 1 rfl dX4_placed_52 ?_
    refine G_if_eq (tgt := 63) dX4_placed_54 (by decide) (fun c2 => absurd c2 c1) (fun c2 => ?_)
    refine G_iload_n 4 rfl dX4_placed_57 rfl ?_
    refine G_iconst (v := 1) dX4_placed_58 (by decide) ?_
    refine G_iadd dX4_placed_59 ?_
    refine G_goto (tgt := 64) dX4_placed_60 (by decide) ?_
    exact G_sub [2, 5, 0] rfl (k2 c1)

set_option maxRecDepth 10000 in
theorem TX4_placed_64 {d : Nat} {S : fW} {h : fH} {Q : Int64 → fH → Prop} {r0 : Nat} {x4 : Int32} {x6 : Int64} {s0 : Int32}  
    (hs1 : (r0, shX4) ∈ S)
    (k1 : ((s0 + (h.1 r0 0)) - (1 : Int32)) < (16 : Int32) → ((s0 + (h.1 r0 0)) - (1 : Int32)) < (3 : Int32) → G mX4_placed d S (f_PL Q) 125 [(0, .ref r0), (4, .int x4), (10, .long (0 : Int64))] [] h)
    (k2 : ((s0 + (h.1 r0 0)) - (1 : Int32)) < (16 : Int32) → ¬ ((s0 + (h.1 r0 0)) - (1 : Int32)) < (3 : Int32) → s0 < 0 → G mX4_placed d S (f_PL Q) 125 [(0, .ref r0), (4, .int x4), (10, .long (0 : Int64))] [] h)
    (k3 : ((s0 + (h.1 r0 0)) - (1 : Int32)) < (16 : Int32) → ¬ ((s0 + (h.1 r0 0)) - (1 : Int32)) < (3 : Int32) → ¬ s0 < 0 → (19 : Int32) ≤ s0 → G mX4_placed d S (f_PL Q) 125 [(0, .ref r0), (4, .int x4), (10, .long (0 : Int64))] [] h)
    (sd1 : ((s0 + (h.1 r0 0)) - (1 : Int32)) < (16 : Int32) → ¬ ((s0 + (h.1 r0 0)) - (1 : Int32)) < (3 : Int32) → ¬ s0 < 0 → ¬ (19 : Int32) ≤ s0 → vp_in s0 19)
    (k4 : ((s0 + (h.1 r0 0)) - (1 : Int32)) < (16 : Int32) → ¬ ((s0 + (h.1 r0 0)) - (1 : Int32)) < (3 : Int32) → ¬ s0 < 0 → ¬ (19 : Int32) ≤ s0 → x4 = 0 → Q (x6 * (f_ten s0.toNatClampNeg)) h)
    (k5 : ((s0 + (h.1 r0 0)) - (1 : Int32)) < (16 : Int32) → ¬ ((s0 + (h.1 r0 0)) - (1 : Int32)) < (3 : Int32) → ¬ s0 < 0 → ¬ (19 : Int32) ≤ s0 → ¬ x4 = 0 → Q (-(x6 * (f_ten s0.toNatClampNeg))) h)
    (k6 : ¬ ((s0 + (h.1 r0 0)) - (1 : Int32)) < (16 : Int32) → Q (1000000000000000000 : Int64) h) :
    G mX4_placed d S (f_PL Q) 64 [(0, .ref r0), (4, .int x4), (6, .long x6)] [.int s0] h := by
  refine G_istore dX4_placed_64 (by decide) (lv' := [(8, .int s0), (0, .ref r0), (4, .int x4), (6, .long x6)]) rfl ?_
  refine G_iload 0 rfl dX4_placed_66 ?_
  refine G_aload_n 1 rfl dX4_placed_68 rfl ?_
  refine G_geti (k := 0) hs1 (q := (RX4, TX4, 3)) rfl inX4 (by decide) (Or.inl rfl) hF_X4_9 dX4_placed_69 ?_
  refine G_iadd dX4_placed_72 ?_
  refine G_iconst (v := 1) dX4_placed_73 (by decide) ?_
  refine G_isub dX4_placed_74 ?_
  refine G_istore dX4_placed_75 (by decide) (lv' := [(9, .int ((s0 + (h.1 r0 0)) - (1 : Int32))), (8, .int s0), (0, .ref r0), (4, .int x4), (6, .long x6)]) rfl ?_
  refine G_iload 0 rfl dX4_placed_77 ?_
  refine G_bipush (v := 16) dX4_placed_79 (by decide) ?_
  refine G_icmp_lt (tgt := 88) dX4_placed_81 (by decide) (fun c1 => ?_) (fun c1 => ?_)
  · refine G_lconst (v := 0) dX4_placed_88 (by decide) ?_
    refine G_lstore dX4_placed_89 (by decide) (lv' := [(10, .long (0 : Int64)), (9, .int ((s0 + (h.1 r0 0)) - (1 : Int32))), (8, .int s0), (0, .ref r0), (4, .int x4), (6, .long x6)]) rfl ?_
    refine G_iload 1 rfl dX4_placed_91 ?_
    refine G_iconst (v := 3) dX4_placed_93 (by decide) ?_
    refine G_icmp_lt (tgt := 125) dX4_placed_94 (by decide) (fun c2 => ?_) (fun c2 => ?_)
    · exact G_sub [3, 4, 0] rfl (k1 c1 c2)
    · refine G_iload 2 rfl dX4_placed_97 ?_
      refine G_if_lt (tgt := 125) dX4_placed_99 (by decide) (fun c3 => ?_) (fun c3 => ?_)
      · exact G_sub [3, 4, 0] rfl (k2 c1 c2 c3)
      · refine G_iload 2 rfl dX4_placed_102 ?_
        refine G_tens hM_X4_54 dX4_placed_104 ?_
        refine G_tlen dX4_placed_107 ?_
        refine G_icmp_ge (tgt := 125) dX4_placed_108 (by decide) (fun c4 => ?_) (fun c4 => ?_)
        · exact G_sub [3, 4, 0] rfl (k3 c1 c2 c3 c4)
        · refine G_lload 5 rfl dX4_placed_111 ?_
          refine G_tens hM_X4_54 dX4_placed_113 ?_
          refine G_iload 2 rfl dX4_placed_116 ?_
          refine G_tlal (sd1 c1 c2 c3 c4) dX4_placed_118 ?_
          refine G_lmul dX4_placed_119 ?_
          refine G_lstore dX4_placed_120 (by decide) (lv' := [(10, .long (x6 * (f_ten s0.toNatClampNeg))), (9, .int ((s0 + (h.1 r0 0)) - (1 : Int32))), (8, .int s0), (0, .ref r0), (4, .int x4), (6, .long x6)]) rfl ?_
          refine G_goto (tgt := 154) dX4_placed_122 (by decide) ?_
          refine G_iload 4 rfl dX4_placed_154 ?_
          refine G_if_eq (tgt := 165) dX4_placed_156 (by decide) (fun c5 => ?_) (fun c5 => ?_)
          · refine G_lload 0 rfl dX4_placed_165 ?_
            exact G_lret rfl dX4_placed_167 ⟨_, rfl, (k4 c1 c2 c3 c4 c5)⟩
          · refine G_lload 0 rfl dX4_placed_159 ?_
            refine G_lneg dX4_placed_161 ?_
            refine G_goto (tgt := 167) dX4_placed_162 (by decide) ?_
            exact G_lret rfl dX4_placed_167 ⟨_, rfl, (k5 c1 c2 c3 c4 c5)⟩
  · refine G_ldc2 hK_X4_58 dX4_placed_84 ?_
    exact G_lret rfl dX4_placed_87 ⟨_, rfl, (k6 c1)⟩

set_option maxRecDepth 10000 in
theorem TX4_placed_125 {d : Nat} {S : fW} {h : fH} {Q : Int64 → fH → Prop} {r0 : Nat} {x4 : Int32} {x10 : Int64}  
    (hs1 : (r0, shX4) ∈ S)
    (k1 : (h.1 r0 2) = 0 → x4 = 0 → Q x10 h)
    (k2 : (h.1 r0 2) = 0 → ¬ x4 = 0 → Q (-x10) h)
    (k3 : ¬ (h.1 r0 2) = 0 → x4 = 0 → ¬ (h.1 r0 1) = (2 : Int32) → Q x10 h)
    (k4 : ¬ (h.1 r0 2) = 0 → x4 = 0 → (h.1 r0 1) = (2 : Int32) → Q (1000 : Int64) h)
    (k5 : ¬ (h.1 r0 2) = 0 → ¬ x4 = 0 → ¬ (h.1 r0 1) = (3 : Int32) → Q (-x10) h)
    (k6 : ¬ (h.1 r0 2) = 0 → ¬ x4 = 0 → (h.1 r0 1) = (3 : Int32) → Q (-(1000 : Int64)) h) :
    G mX4_placed d S (f_PL Q) 125 [(0, .ref r0), (4, .int x4), (10, .long x10)] [] h := by
  refine G_aload_n 0 rfl dX4_placed_125 rfl ?_
  refine G_geti (k := 2) hs1 (q := (RX4, TX4, 3)) rfl inX4 (by decide) (Or.inr rfl) hF_X4_18 dX4_placed_126 ?_
  refine G_if_eq (tgt := 154) dX4_placed_129 (by decide) (fun c1 => ?_) (fun c1 => ?_)
  · refine G_iload 1 rfl dX4_placed_154 ?_
    refine G_if_eq (tgt := 165) dX4_placed_156 (by decide) (fun c2 => ?_) (fun c2 => ?_)
    · refine G_lload 2 rfl dX4_placed_165 ?_
      exact G_lret rfl dX4_placed_167 ⟨_, rfl, (k1 c1 c2)⟩
    · refine G_lload 2 rfl dX4_placed_159 ?_
      refine G_lneg dX4_placed_161 ?_
      refine G_goto (tgt := 167) dX4_placed_162 (by decide) ?_
      exact G_lret rfl dX4_placed_167 ⟨_, rfl, (k2 c1 c2)⟩
  · refine G_aload_n 0 rfl dX4_placed_132 rfl ?_
    refine G_geti (k := 1) hs1 (q := (RX4, TX4, 3)) rfl inX4 (by decide) (Or.inl rfl) hF_X4_15 dX4_placed_133 ?_
    refine G_iload 1 rfl dX4_placed_136 ?_
    refine G_if_eq (tgt := 145) dX4_placed_138 (by decide) (fun c2 => ?_) (fun c2 => ?_)
    · refine G_iconst (v := 2) dX4_placed_145 (by decide) ?_
      refine G_icmp_ne (tgt := 154) dX4_placed_146 (by decide) (fun c3 => ?_) (fun c3 => ?_)
      · refine G_iload 1 rfl dX4_placed_154 ?_
        refine G_if_eq (tgt := 165) dX4_placed_156 (by decide) (fun c4 => ?_) (fun c4 => absurd c2 c4)
        refine G_lload 2 rfl dX4_placed_165 ?_
        exact G_lret rfl dX4_placed_167 ⟨_, rfl, (k3 c1 c2 c3)⟩
      · refine G_ldc2 hK_X4_60 dX4_placed_149 ?_
        refine G_lstore dX4_placed_152 (by decide) (lv' := [(10, .long (1000 : Int64)), (0, .ref r0), (4, .int x4)]) rfl ?_
        refine G_iload 2 rfl dX4_placed_154 ?_
        refine G_if_eq (tgt := 165) dX4_placed_156 (by decide) (fun c4 => ?_) (fun c4 => absurd c2 c4)
        refine G_lload 0 rfl dX4_placed_165 ?_
        exact G_lret rfl dX4_placed_167 ⟨_, rfl, (k4 c1 c2 c3)⟩
    · refine G_iconst (v := 3) dX4_placed_141 (by decide) ?_
      refine G_goto (tgt := 146) dX4_placed_142 (by decide) ?_
      refine G_icmp_ne (tgt := 154) dX4_placed_146 (by decide) (fun c3 => ?_) (fun c3 => ?_)
      · refine G_iload 1 rfl dX4_placed_154 ?_
        refine G_if_eq (tgt := 165) dX4_placed_156 (by decide) (fun c4 => absurd c4 c2) (fun c4 => ?_)
        refine G_lload 2 rfl dX4_placed_159 ?_
        refine G_lneg dX4_placed_161 ?_
        refine G_goto (tgt := 167) dX4_placed_162 (by decide) ?_
        exact G_lret rfl dX4_placed_167 ⟨_, rfl, (k5 c1 c2 c3)⟩
      · refine G_ldc2 hK_X4_60 dX4_placed_149 ?_
        refine G_lstore dX4_placed_152 (by decide) (lv' := [(10, .long (1000 : Int64)), (0, .ref r0), (4, .int x4)]) rfl ?_
        refine G_iload 2 rfl dX4_placed_154 ?_
        refine G_if_eq (tgt := 165) dX4_placed_156 (by decide) (fun c4 => absurd c4 c2) (fun c4 => ?_)
        refine G_lload 0 rfl dX4_placed_159 ?_
        refine G_lneg dX4_placed_161 ?_
        refine G_goto (tgt := 167) dX4_placed_162 (by decide) ?_
        exact G_lret rfl dX4_placed_167 ⟨_, rfl, (k6 c1 c2 c3)⟩

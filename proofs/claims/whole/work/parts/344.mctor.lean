/-! ===== the reference's constructor ===== -/
def X0 : stP := ([], pg0, none, none)
theorem dX12_init_0 : decode cX12_init 0 = .ok (.aload_n 0, 1) := by decide +kernel
theorem dX12_init_1 : decode cX12_init 1 = .ok (.invokespecial 1, 3) := by decide +kernel
theorem dX12_init_4 : decode cX12_init 4 = .ok (.aload_n 0, 1) := by decide +kernel
theorem dX12_init_5 : decode cX12_init 5 = .ok (.bipush 20, 2) := by decide +kernel
theorem dX12_init_7 : decode cX12_init 7 = .ok (.newarray .int, 2) := by decide +kernel
theorem dX12_init_9 : decode cX12_init 9 = .ok (.putfield 7, 3) := by decide +kernel
theorem dX12_init_12 : decode cX12_init 12 = .ok (.aload_n 0, 1) := by decide +kernel
theorem dX12_init_13 : decode cX12_init 13 = .ok (.bipush 13, 2) := by decide +kernel
theorem dX12_init_15 : decode cX12_init 15 = .ok (.newarray .int, 2) := by decide +kernel
theorem dX12_init_17 : decode cX12_init 17 = .ok (.putfield 13, 3) := by decide +kernel
theorem dX12_init_20 : decode cX12_init 20 = .ok (.aload_n 0, 1) := by decide +kernel
theorem dX12_init_21 : decode cX12_init 21 = .ok (.iconst 5, 1) := by decide +kernel
theorem dX12_init_22 : decode cX12_init 22 = .ok (.newarray .int, 2) := by decide +kernel
theorem dX12_init_24 : decode cX12_init 24 = .ok (.putfield 16, 3) := by decide +kernel
theorem dX12_init_27 : decode cX12_init 27 = .ok (.aload_n 0, 1) := by decide +kernel
theorem dX12_init_28 : decode cX12_init 28 = .ok (.iconst 5, 1) := by decide +kernel
theorem dX12_init_29 : decode cX12_init 29 = .ok (.newarray .int, 2) := by decide +kernel
theorem dX12_init_31 : decode cX12_init 31 = .ok (.putfield 19, 3) := by decide +kernel
theorem dX12_init_34 : decode cX12_init 34 = .ok (.aload_n 0, 1) := by decide +kernel
theorem dX12_init_35 : decode cX12_init 35 = .ok (.bipush 13, 2) := by decide +kernel
theorem dX12_init_37 : decode cX12_init 37 = .ok (.newarray .int, 2) := by decide +kernel
theorem dX12_init_39 : decode cX12_init 39 = .ok (.putfield 22, 3) := by decide +kernel
theorem dX12_init_42 : decode cX12_init 42 = .ok (.aload_n 0, 1) := by decide +kernel
theorem dX12_init_43 : decode cX12_init 43 = .ok (.bipush 13, 2) := by decide +kernel
theorem dX12_init_45 : decode cX12_init 45 = .ok (.newarray .int, 2) := by decide +kernel
theorem dX12_init_47 : decode cX12_init 47 = .ok (.putfield 25, 3) := by decide +kernel
theorem dX12_init_50 : decode cX12_init 50 = .ok (.aload_n 0, 1) := by decide +kernel
theorem dX12_init_51 : decode cX12_init 51 = .ok (.bipush 13, 2) := by decide +kernel
theorem dX12_init_53 : decode cX12_init 53 = .ok (.newarray .long, 2) := by decide +kernel
theorem dX12_init_55 : decode cX12_init 55 = .ok (.putfield 28, 3) := by decide +kernel
theorem dX12_init_58 : decode cX12_init 58 = .ok (.aload_n 0, 1) := by decide +kernel
theorem dX12_init_59 : decode cX12_init 59 = .ok (.bipush 13, 2) := by decide +kernel
theorem dX12_init_61 : decode cX12_init 61 = .ok (.newarray .long, 2) := by decide +kernel
theorem dX12_init_63 : decode cX12_init 63 = .ok (.putfield 32, 3) := by decide +kernel
theorem dX12_init_66 : decode cX12_init 66 = .ok (.aload_n 0, 1) := by decide +kernel
theorem dX12_init_67 : decode cX12_init 67 = .ok (.bipush 13, 2) := by decide +kernel
theorem dX12_init_69 : decode cX12_init 69 = .ok (.newarray .long, 2) := by decide +kernel
theorem dX12_init_71 : decode cX12_init 71 = .ok (.putfield 35, 3) := by decide +kernel
theorem dX12_init_74 : decode cX12_init 74 = .ok (.aload_n 0, 1) := by decide +kernel
theorem dX12_init_75 : decode cX12_init 75 = .ok (.bipush 13, 2) := by decide +kernel
theorem dX12_init_77 : decode cX12_init 77 = .ok (.newarray .long, 2) := by decide +kernel
theorem dX12_init_79 : decode cX12_init 79 = .ok (.putfield 38, 3) := by decide +kernel
theorem dX12_init_82 : decode cX12_init 82 = .ok (.aload_n 0, 1) := by decide +kernel
theorem dX12_init_83 : decode cX12_init 83 = .ok (.iconst 5, 1) := by decide +kernel
theorem dX12_init_84 : decode cX12_init 84 = .ok (.newarray .int, 2) := by decide +kernel
theorem dX12_init_86 : decode cX12_init 86 = .ok (.putfield 41, 3) := by decide +kernel
theorem dX12_init_89 : decode cX12_init 89 = .ok (.aload_n 0, 1) := by decide +kernel
theorem dX12_init_90 : decode cX12_init 90 = .ok (.bipush 7, 2) := by decide +kernel
theorem dX12_init_92 : decode cX12_init 92 = .ok (.newarray .long, 2) := by decide +kernel
theorem dX12_init_94 : decode cX12_init 94 = .ok (.putfield 44, 3) := by decide +kernel
theorem dX12_init_97 : decode cX12_init 97 = .ok (.aload_n 0, 1) := by decide +kernel
theorem dX12_init_98 : decode cX12_init 98 = .ok (.bipush 7, 2) := by decide +kernel
theorem dX12_init_100 : decode cX12_init 100 = .ok (.newarray .int, 2) := by decide +kernel
theorem dX12_init_102 : decode cX12_init 102 = .ok (.putfield 47, 3) := by decide +kernel
theorem dX12_init_105 : decode cX12_init 105 = .ok (.aload_n 0, 1) := by decide +kernel
theorem dX12_init_106 : decode cX12_init 106 = .ok (.bipush 7, 2) := by decide +kernel
theorem dX12_init_108 : decode cX12_init 108 = .ok (.newarray .int, 2) := by decide +kernel
theorem dX12_init_110 : decode cX12_init 110 = .ok (.putfield 50, 3) := by decide +kernel
theorem dX12_init_113 : decode cX12_init 113 = .ok (.aload_n 0, 1) := by decide +kernel
theorem dX12_init_114 : decode cX12_init 114 = .ok (.bipush 13, 2) := by decide +kernel
theorem dX12_init_116 : decode cX12_init 116 = .ok (.newarray .long, 2) := by decide +kernel
theorem dX12_init_118 : decode cX12_init 118 = .ok (.putfield 53, 3) := by decide +kernel
theorem dX12_init_121 : decode cX12_init 121 = .ok (.aload_n 0, 1) := by decide +kernel
theorem dX12_init_122 : decode cX12_init 122 = .ok (.bipush 13, 2) := by decide +kernel
theorem dX12_init_124 : decode cX12_init 124 = .ok (.newarray .long, 2) := by decide +kernel
theorem dX12_init_126 : decode cX12_init 126 = .ok (.putfield 56, 3) := by decide +kernel
theorem dX12_init_129 : decode cX12_init 129 = .ok (.aload_n 0, 1) := by decide +kernel
theorem dX12_init_130 : decode cX12_init 130 = .ok (.bipush 32, 2) := by decide +kernel
theorem dX12_init_132 : decode cX12_init 132 = .ok (.newarray .int, 2) := by decide +kernel
theorem dX12_init_134 : decode cX12_init 134 = .ok (.putfield 59, 3) := by decide +kernel
theorem dX12_init_137 : decode cX12_init 137 = .ok (.aload_n 0, 1) := by decide +kernel
theorem dX12_init_138 : decode cX12_init 138 = .ok (.bipush 13, 2) := by decide +kernel
theorem dX12_init_140 : decode cX12_init 140 = .ok (.newarray .int, 2) := by decide +kernel
theorem dX12_init_142 : decode cX12_init 142 = .ok (.putfield 62, 3) := by decide +kernel
theorem dX12_init_145 : decode cX12_init 145 = .ok (.aload_n 0, 1) := by decide +kernel
theorem dX12_init_146 : decode cX12_init 146 = .ok (.bipush 13, 2) := by decide +kernel
theorem dX12_init_148 : decode cX12_init 148 = .ok (.newarray .int, 2) := by decide +kernel
theorem dX12_init_150 : decode cX12_init 150 = .ok (.putfield 65, 3) := by decide +kernel
theorem dX12_init_153 : decode cX12_init 153 = .ok (.aload_n 0, 1) := by decide +kernel
theorem dX12_init_154 : decode cX12_init 154 = .ok (.bipush 80, 2) := by decide +kernel
theorem dX12_init_156 : decode cX12_init 156 = .ok (.newarray .long, 2) := by decide +kernel
theorem dX12_init_158 : decode cX12_init 158 = .ok (.putfield 68, 3) := by decide +kernel
theorem dX12_init_161 : decode cX12_init 161 = .ok (.aload_n 0, 1) := by decide +kernel
theorem dX12_init_162 : decode cX12_init 162 = .ok (.iconst 2, 1) := by decide +kernel
theorem dX12_init_163 : decode cX12_init 163 = .ok (.newarray .boolean, 2) := by decide +kernel
theorem dX12_init_165 : decode cX12_init 165 = .ok (.putfield 71, 3) := by decide +kernel
theorem dX12_init_168 : decode cX12_init 168 = .ok (.aload_n 0, 1) := by decide +kernel
theorem dX12_init_169 : decode cX12_init 169 = .ok (.iconst 3, 1) := by decide +kernel
theorem dX12_init_170 : decode cX12_init 170 = .ok (.putfield 75, 3) := by decide +kernel
theorem dX12_init_173 : decode cX12_init 173 = .ok (.aload_n 0, 1) := by decide +kernel
theorem dX12_init_174 : decode cX12_init 174 = .ok (.getfield 13, 3) := by decide +kernel
theorem dX12_init_177 : decode cX12_init 177 = .ok (.iconst 0, 1) := by decide +kernel
theorem dX12_init_178 : decode cX12_init 178 = .ok (.bipush 97, 2) := by decide +kernel
theorem dX12_init_180 : decode cX12_init 180 = .ok (.iastore, 1) := by decide +kernel
theorem dX12_init_181 : decode cX12_init 181 = .ok (.aload_n 0, 1) := by decide +kernel
theorem dX12_init_182 : decode cX12_init 182 = .ok (.iconst 1, 1) := by decide +kernel
theorem dX12_init_183 : decode cX12_init 183 = .ok (.putfield 79, 3) := by decide +kernel
theorem dX12_init_186 : decode cX12_init 186 = .ok (.iconst 0, 1) := by decide +kernel
theorem dX12_init_187 : decode cX12_init 187 = .ok (.istore_n 1, 1) := by decide +kernel
theorem dX12_init_188 : decode cX12_init 188 = .ok (.iload_n 1, 1) := by decide +kernel
theorem dX12_init_189 : decode cX12_init 189 = .ok (.iconst 5, 1) := by decide +kernel
theorem dX12_init_190 : decode cX12_init 190 = .ok (.if_icmp .ge 16, 3) := by decide +kernel
theorem dX12_init_193 : decode cX12_init 193 = .ok (.aload_n 0, 1) := by decide +kernel
theorem dX12_init_194 : decode cX12_init 194 = .ok (.getfield 16, 3) := by decide +kernel
theorem dX12_init_197 : decode cX12_init 197 = .ok (.iload_n 1, 1) := by decide +kernel
theorem dX12_init_198 : decode cX12_init 198 = .ok (.iconst 1, 1) := by decide +kernel
theorem dX12_init_199 : decode cX12_init 199 = .ok (.iastore, 1) := by decide +kernel
theorem dX12_init_200 : decode cX12_init 200 = .ok (.iinc 1 1, 3) := by decide +kernel
theorem dX12_init_203 : decode cX12_init 203 = .ok (.goto (-15), 3) := by decide +kernel
theorem dX12_init_206 : decode cX12_init 206 = .ok (.return_, 1) := by decide +kernel
set_option maxHeartbeats 2000000 in
theorem kX12_init {d : Nat} : OkC (d + 1) 21 313 mX12_init 11 [0, 0, 1, 0, 1, 1, 0, 3, 0, 3, 0, 3, 3, 3, 0, 3, 3, 3, 3, 3, 3, 3, 0, 3, 1, 0, 3, 3, 3, 3, 0, 3, 0, 1, 3, 0, 3, 3, 0, 2] SM (fun h => MRel h X0) := by
  refine OkC.of (by decide) rfl (by decide) (by decide) (GC_nm (fun h0 e0 => ?_))
  refine GC_aload_n 0 rfl dX12_init_0 rfl ?_
  refine GC_obj hL_X12_1 dX12_init_1 ?_
  refine GC_aload_n 0 rfl dX12_init_4 rfl ?_
  refine GC_bipush (v := 20) dX12_init_5 (by decide) ?_
  refine GC_newaI (n := 2) (M := 20) (f_t 78 (by decide +kernel) rfl) (by decide) (by decide) (by decide) (wlt.cons ⟨by decide, s_lt_l (by decide)⟩ (wlt.nl 2)) rfl rfl (by decide) (by decide) (by decide) dX12_init_7 (fun h1 o1 z1 => ?_)
  have w1 : wlt 3 ([(2, shI 20)]) := ((wlt.nl 2).mono (by decide)).app (wlt.cons ⟨by decide, Or.inl (by decide)⟩ (wlt.nl 3))
  refine GC_w (S' := ((1, .inl (11, [0, 0, 1, 0, 1, 1, 0, 3, 0, 3, 0, 3, 3, 3, 0, 3, 3, 3, 3, 3, 3, 3, 0, 3, 1, 0, 3, 3, 3, 3, 0, 3, 0, 1, 3, 0, 3, 3, 0, 2])) :: [(2, shI 20)])) rfl ?_
  refine GC_putr (k := 7) (j := 2) (q := (RX12, TX12, 40)) tyX12 rfl inX12 tyX12_ok nmX12 (by decide) (by decide) (fun _ => rfl) (fun _ => rfl) rfl rfl hF_X12_7 dX12_init_9 rfl ?_
  refine GC_w (S' := ((1, .inl (11, [0, 0, 1, 0, 1, 1, 0, 6, 0, 3, 0, 3, 3, 3, 0, 3, 3, 3, 3, 3, 3, 3, 0, 3, 1, 0, 3, 3, 3, 3, 0, 3, 0, 1, 3, 0, 3, 3, 0, 2])) :: [(2, shI 20)])) rfl ?_
  refine GC_aload_n 0 rfl dX12_init_12 rfl ?_
  refine GC_bipush (v := 13) dX12_init_13 (by decide) ?_
  refine GC_newaI (n := 3) (M := 13) (f_t 78 (by decide +kernel) rfl) (by decide) (by decide) (by decide) (wlt.cons ⟨by decide, s_lt_l (by decide)⟩ w1) rfl rfl (by decide) (by decide) (by decide) dX12_init_15 (fun h2 o2 z2 => ?_)
  have w2 : wlt 4 ([(2, shI 20), (3, shI 13)]) := (w1.mono (by decide)).app (wlt.cons ⟨by decide, Or.inl (by decide)⟩ (wlt.nl 4))
  refine GC_w (S' := ((1, .inl (11, [0, 0, 1, 0, 1, 1, 0, 6, 0, 3, 0, 3, 3, 3, 0, 3, 3, 3, 3, 3, 3, 3, 0, 3, 1, 0, 3, 3, 3, 3, 0, 3, 0, 1, 3, 0, 3, 3, 0, 2])) :: [(2, shI 20), (3, shI 13)])) rfl ?_
  refine GC_putr (k := 9) (j := 3) (q := (RX12, TX12, 40)) tyX12 rfl inX12 tyX12_ok nmX12 (by decide) (by decide) (fun _ => rfl) (fun _ => rfl) rfl rfl hF_X12_13 dX12_init_17 rfl ?_
  refine GC_w (S' := ((1, .inl (11, [0, 0, 1, 0, 1, 1, 0, 6, 0, 7, 0, 3, 3, 3, 0, 3, 3, 3, 3, 3, 3, 3, 0, 3, 1, 0, 3, 3, 3, 3, 0, 3, 0, 1, 3, 0, 3, 3, 0, 2])) :: [(2, shI 20), (3, shI 13)])) rfl ?_
  refine GC_aload_n 0 rfl dX12_init_20 rfl ?_
  refine GC_iconst (v := 5) dX12_init_21 (by decide) ?_
  refine GC_newaI (n := 4) (M := 5) (f_t 78 (by decide +kernel) rfl) (by decide) (by decide) (by decide) (wlt.cons ⟨by decide, s_lt_l (by decide)⟩ w2) rfl rfl (by decide) (by decide) (by decide) dX12_init_22 (fun h3 o3 z3 => ?_)
  have w3 : wlt 5 ([(2, shI 20), (3, shI 13), (4, shI 5)]) := (w2.mono (by decide)).app (wlt.cons ⟨by decide, Or.inl (by decide)⟩ (wlt.nl 5))
  refine GC_w (S' := ((1, .inl (11, [0, 0, 1, 0, 1, 1, 0, 6, 0, 7, 0, 3, 3, 3, 0, 3, 3, 3, 3, 3, 3, 3, 0, 3, 1, 0, 3, 3, 3, 3, 0, 3, 0, 1, 3, 0, 3, 3, 0, 2])) :: [(2, shI 20), (3, shI 13), (4, shI 5)])) rfl ?_
  refine GC_putr (k := 11) (j := 4) (q := (RX12, TX12, 40)) tyX12 rfl inX12 tyX12_ok nmX12 (by decide) (by decide) (fun _ => rfl) (fun _ => rfl) rfl rfl hF_X12_16 dX12_init_24 rfl ?_
  refine GC_w (S' := ((1, .inl (11, [0, 0, 1, 0, 1, 1, 0, 6, 0, 7, 0, 8, 3, 3, 0, 3, 3, 3, 3, 3, 3, 3, 0, 3, 1, 0, 3, 3, 3, 3, 0, 3, 0, 1, 3, 0, 3, 3, 0, 2])) :: [(2, shI 20), (3, shI 13), (4, shI 5)])) rfl ?_
  refine GC_aload_n 0 rfl dX12_init_27 rfl ?_
  refine GC_iconst (v := 5) dX12_init_28 (by decide) ?_
  refine GC_newaI (n := 5) (M := 5) (f_t 78 (by decide +kernel) rfl) (by decide) (by decide) (by decide) (wlt.cons ⟨by decide, s_lt_l (by decide)⟩ w3) rfl rfl (by decide) (by decide) (by decide) dX12_init_29 (fun h4 o4 z4 => ?_)
  have w4 : wlt 6 ([(2, shI 20), (3, shI 13), (4, shI 5), (5, shI 5)]) := (w3.mono (by decide)).app (wlt.cons ⟨by decide, Or.inl (by decide)⟩ (wlt.nl 6))
  refine GC_w (S' := ((1, .inl (11, [0, 0, 1, 0, 1, 1, 0, 6, 0, 7, 0, 8, 3, 3, 0, 3, 3, 3, 3, 3, 3, 3, 0, 3, 1, 0, 3, 3, 3, 3, 0, 3, 0, 1, 3, 0, 3, 3, 0, 2])) :: [(2, shI 20), (3, shI 13), (4, shI 5), (5, shI 5)])) rfl ?_
  refine GC_putr (k := 12) (j := 5) (q := (RX12, TX12, 40)) tyX12 rfl inX12 tyX12_ok nmX12 (by decide) (by decide) (fun _ => rfl) (fun _ => rfl) rfl rfl hF_X12_19 dX12_init_31 rfl ?_
  refine GC_w (S' := ((1, .inl (11, [0, 0, 1, 0, 1, 1, 0, 6, 0, 7, 0, 8, 9, 3, 0, 3, 3, 3, 3, 3, 3, 3, 0, 3, 1, 0, 3, 3, 3, 3, 0, 3, 0, 1, 3, 0, 3, 3, 0, 2])) :: [(2, shI 20), (3, shI 13), (4, shI 5), (5, shI 5)])) rfl ?_
  refine GC_aload_n 0 rfl dX12_init_34 rfl ?_
  refine GC_bipush (v := 13) dX12_init_35 (by decide) ?_
  refine GC_newaI (n := 6) (M := 13) (f_t 78 (by decide +kernel) rfl) (by decide) (by decide) (by decide) (wlt.cons ⟨by decide, s_lt_l (by decide)⟩ w4) rfl rfl (by decide) (by decide) (by decide) dX12_init_37 (fun h5 o5 z5 => ?_)
  have w5 : wlt 7 ([(2, shI 20), (3, shI 13), (4, shI 5), (5, shI 5), (6, shI 13)]) := (w4.mono (by decide)).app (wlt.cons ⟨by decide, Or.inl (by decide)⟩ (wlt.nl 7))
  refine GC_w (S' := ((1, .inl (11, [0, 0, 1, 0, 1, 1, 0, 6, 0, 7, 0, 8, 9, 3, 0, 3, 3, 3, 3, 3, 3, 3, 0, 3, 1, 0, 3, 3, 3, 3, 0, 3, 0, 1, 3, 0, 3, 3, 0, 2])) :: [(2, shI 20), (3, shI 13), (4, shI 5), (5, shI 5), (6, shI 13)])) rfl ?_
  refine GC_putr (k := 13) (j := 6) (q := (RX12, TX12, 40)) tyX12 rfl inX12 tyX12_ok nmX12 (by decide) (by decide) (fun _ => rfl) (fun _ => rfl) rfl rfl hF_X12_22 dX12_init_39 rfl ?_
  refine GC_w (S' := ((1, .inl (11, [0, 0, 1, 0, 1, 1, 0, 6, 0, 7, 0, 8, 9, 10, 0, 3, 3, 3, 3, 3, 3, 3, 0, 3, 1, 0, 3, 3, 3, 3, 0, 3, 0, 1, 3, 0, 3, 3, 0, 2])) :: [(2, shI 20), (3, shI 13), (4, shI 5), (5, shI 5), (6, shI 13)])) rfl ?_
  refine GC_aload_n 0 rfl dX12_init_42 rfl ?_
  refine GC_bipush (v := 13) dX12_init_43 (by decide) ?_
  refine GC_newaI (n := 7) (M := 13) (f_t 78 (by decide +kernel) rfl) (by decide) (by decide) (by decide) (wlt.cons ⟨by decide, s_lt_l (by decide)⟩ w5) rfl rfl (by decide) (by decide) (by decide) dX12_init_45 (fun h6 o6 z6 => ?_)
  have w6 : wlt 8 ([(2, shI 20), (3, shI 13), (4, shI 5), (5, shI 5), (6, shI 13), (7, shI 13)]) := (w5.mono (by decide)).app (wlt.cons ⟨by decide, Or.inl (by decide)⟩ (wlt.nl 8))
  refine GC_w (S' := ((1, .inl (11, [0, 0, 1, 0, 1, 1, 0, 6, 0, 7, 0, 8, 9, 10, 0, 3, 3, 3, 3, 3, 3, 3, 0, 3, 1, 0, 3, 3, 3, 3, 0, 3, 0, 1, 3, 0, 3, 3, 0, 2])) :: [(2, shI 20), (3, shI 13), (4, shI 5), (5, shI 5), (6, shI 13), (7, shI 13)])) rfl ?_
  refine GC_putr (k := 15) (j := 7) (q := (RX12, TX12, 40)) tyX12 rfl inX12 tyX12_ok nmX12 (by decide) (by decide) (fun _ => rfl) (fun _ => rfl) rfl rfl hF_X12_25 dX12_init_47 rfl ?_
  refine GC_w (S' := ((1, .inl (11, [0, 0, 1, 0, 1, 1, 0, 6, 0, 7, 0, 8, 9, 10, 0, 11, 3, 3, 3, 3, 3, 3, 0, 3, 1, 0, 3, 3, 3, 3, 0, 3, 0, 1, 3, 0, 3, 3, 0, 2])) :: [(2, shI 20), (3, shI 13), (4, shI 5), (5, shI 5), (6, shI 13), (7, shI 13)])) rfl ?_
  refine GC_aload_n 0 rfl dX12_init_50 rfl ?_
  refine GC_bipush (v := 13) dX12_init_51 (by decide) ?_
  refine GC_newaJ (n := 8) (M := 13) (f_t 124 (by decide +kernel) rfl) (by decide) (by decide) (by decide) (wlt.cons ⟨by decide, s_lt_l (by decide)⟩ w6) rfl rfl (by decide) (by decide) (by decide) dX12_init_53 (fun h7 o7 z7 => ?_)
  have w7 : wlt 9 ([(2, shI 20), (3, shI 13), (4, shI 5), (5, shI 5), (6, shI 13), (7, shI 13), (8, shJ 13)]) := (w6.mono (by decide)).app (wlt.cons ⟨by decide, Or.inl (by decide)⟩ (wlt.nl 9))
  refine GC_w (S' := ((1, .inl (11, [0, 0, 1, 0, 1, 1, 0, 6, 0, 7, 0, 8, 9, 10, 0, 11, 3, 3, 3, 3, 3, 3, 0, 3, 1, 0, 3, 3, 3, 3, 0, 3, 0, 1, 3, 0, 3, 3, 0, 2])) :: [(2, shI 20), (3, shI 13), (4, shI 5), (5, shI 5), (6, shI 13), (7, shI 13), (8, shJ 13)])) rfl ?_
  refine GC_putr (k := 16) (j := 8) (q := (RX12, TX12, 40)) tyX12 rfl inX12 tyX12_ok nmX12 (by decide) (by decide) (fun _ => rfl) (fun _ => rfl) rfl rfl hF_X12_28 dX12_init_55 rfl ?_
  refine GC_w (S' := ((1, .inl (11, [0, 0, 1, 0, 1, 1, 0, 6, 0, 7, 0, 8, 9, 10, 0, 11, 12, 3, 3, 3, 3, 3, 0, 3, 1, 0, 3, 3, 3, 3, 0, 3, 0, 1, 3, 0, 3, 3, 0, 2])) :: [(2, shI 20), (3, shI 13), (4, shI 5), (5, shI 5), (6, shI 13), (7, shI 13), (8, shJ 13)])) rfl ?_
  refine GC_aload_n 0 rfl dX12_init_58 rfl ?_
  refine GC_bipush (v := 13) dX12_init_59 (by decide) ?_
  refine GC_newaJ (n := 9) (M := 13) (f_t 124 (by decide +kernel) rfl) (by decide) (by decide) (by decide) (wlt.cons ⟨by decide, s_lt_l (by decide)⟩ w7) rfl rfl (by decide) (by decide) (by decide) dX12_init_61 (fun h8 o8 z8 => ?_)
  have w8 : wlt 10 ([(2, shI 20), (3, shI 13), (4, shI 5), (5, shI 5), (6, shI 13), (7, shI 13), (8, shJ 13), (9, shJ 13)]) := (w7.mono (by decide)).app (wlt.cons ⟨by decide, Or.inl (by decide)⟩ (wlt.nl 10))
  refine GC_w (S' := ((1, .inl (11, [0, 0, 1, 0, 1, 1, 0, 6, 0, 7, 0, 8, 9, 10, 0, 11, 12, 3, 3, 3, 3, 3, 0, 3, 1, 0, 3, 3, 3, 3, 0, 3, 0, 1, 3, 0, 3, 3, 0, 2])) :: [(2, shI 20), (3, shI 13), (4, shI 5), (5, shI 5), (6, shI 13), (7, shI 13), (8, shJ 13), (9, shJ 13)])) rfl ?_
  refine GC_putr (k := 17) (j := 9) (q := (RX12, TX12, 40)) tyX12 rfl inX12 tyX12_ok nmX12 (by decide) (by decide) (fun _ => rfl) (fun _ => rfl) rfl rfl hF_X12_32 dX12_init_63 rfl ?_
  refine GC_w (S' := ((1, .inl (11, [0, 0, 1, 0, 1, 1, 0, 6, 0, 7, 0, 8, 9, 10, 0, 11, 12, 13, 3, 3, 3, 3, 0, 3, 1, 0, 3, 3, 3, 3, 0, 3, 0, 1, 3, 0, 3, 3, 0, 2])) :: [(2, shI 20), (3, shI 13), (4, shI 5), (5, shI 5), (6, shI 13), (7, shI 13), (8, shJ 13), (9, shJ 13)])) rfl ?_
  refine GC_aload_n 0 rfl dX12_init_66 rfl ?_
  refine GC_bipush (v := 13) dX12_init_67 (by decide) ?_
  refine GC_newaJ (n := 10) (M := 13) (f_t 124 (by decide +kernel) rfl) (by decide) (by decide) (by decide) (wlt.cons ⟨by decide, s_lt_l (by decide)⟩ w8) rfl rfl (by decide) (by decide) (by decide) dX12_init_69 (fun h9 o9 z9 => ?_)
  have w9 : wlt 11 ([(2, shI 20), (3, shI 13), (4, shI 5), (5, shI 5), (6, shI 13), (7, shI 13), (8, shJ 13), (9, shJ 13), (10, shJ 13)]) := (w8.mono (by decide)).app (wlt.cons ⟨by decide, Or.inl (by decide)⟩ (wlt.nl 11))
  refine GC_w (S' := ((1, .inl (11, [0, 0, 1, 0, 1, 1, 0, 6, 0, 7, 0, 8, 9, 10, 0, 11, 12, 13, 3, 3, 3, 3, 0, 3, 1, 0, 3, 3, 3, 3, 0, 3, 0, 1, 3, 0, 3, 3, 0, 2])) :: [(2, shI 20), (3, shI 13), (4, shI 5), (5, shI 5), (6, shI 13), (7, shI 13), (8, shJ 13), (9, shJ 13), (10, shJ 13)])) rfl ?_
  refine GC_putr (k := 18) (j := 10) (q := (RX12, TX12, 40)) tyX12 rfl inX12 tyX12_ok nmX12 (by decide) (by decide) (fun _ => rfl) (fun _ => rfl) rfl rfl hF_X12_35 dX12_init_71 rfl ?_
  refine GC_w (S' := ((1, .inl (11, [0, 0, 1, 0, 1, 1, 0, 6, 0, 7, 0, 8, 9, 10, 0, 11, 12, 13, 14, 3, 3, 3, 0, 3, 1, 0, 3, 3, 3, 3, 0, 3, 0, 1, 3, 0, 3, 3, 0, 2])) :: [(2, shI 20), (3, shI 13), (4, shI 5), (5, shI 5), (6, shI 13), (7, shI 13), (8, shJ 13), (9, shJ 13), (10, shJ 13)])) rfl ?_
  refine GC_aload_n 0 rfl dX12_init_74 rfl ?_
  refine GC_bipush (v := 13) dX12_init_75 (by decide) ?_
  refine GC_newaJ (n := 11) (M := 13) (f_t 124 (by decide +kernel) rfl) (by decide) (by decide) (by decide) (wlt.cons ⟨by decide, s_lt_l (by decide)⟩ w9) rfl rfl (by decide) (by decide) (by decide) dX12_init_77 (fun h10 o10 z10 => ?_)
  have w10 : wlt 12 ([(2, shI 20), (3, shI 13), (4, shI 5), (5, shI 5), (6, shI 13), (7, shI 13), (8, shJ 13), (9, shJ 13), (10, shJ 13), (11, shJ 13)]) := (w9.mono (by decide)).app (wlt.cons ⟨by decide, Or.inl (by decide)⟩ (wlt.nl 12))
  refine GC_w (S' := ((1, .inl (11, [0, 0, 1, 0, 1, 1, 0, 6, 0, 7, 0, 8, 9, 10, 0, 11, 12, 13, 14, 3, 3, 3, 0, 3, 1, 0, 3, 3, 3, 3, 0, 3, 0, 1, 3, 0, 3, 3, 0, 2])) :: [(2, shI 20), (3, shI 13), (4, shI 5), (5, shI 5), (6, shI 13), (7, shI 13), (8, shJ 13), (9, shJ 13), (10, shJ 13), (11, shJ 13)])) rfl ?_
  refine GC_putr (k := 19) (j := 11) (q := (RX12, TX12, 40)) tyX12 rfl inX12 tyX12_ok nmX12 (by decide) (by decide) (fun _ => rfl) (fun _ => rfl) rfl rfl hF_X12_38 dX12_init_79 rfl ?_
  refine GC_w (S' := ((1, .inl (11, [0, 0, 1, 0, 1, 1, 0, 6, 0, 7, 0, 8, 9, 10, 0, 11, 12, 13, 14, 15, 3, 3, 0, 3, 1, 0, 3, 3, 3, 3, 0, 3, 0, 1, 3, 0, 3, 3, 0, 2])) :: [(2, shI 20), (3, shI 13), (4, shI 5), (5, shI 5), (6, shI 13), (7, shI 13), (8, shJ 13), (9, shJ 13), (10, shJ 13), (11, shJ 13)])) rfl ?_
  refine GC_aload_n 0 rfl dX12_init_82 rfl ?_
  refine GC_iconst (v := 5) dX12_init_83 (by decide) ?_
  refine GC_newaI (n := 12) (M := 5) (f_t 78 (by decide +kernel) rfl) (by decide) (by decide) (by decide) (wlt.cons ⟨by decide, s_lt_l (by decide)⟩ w10) rfl rfl (by decide) (by decide) (by decide) dX12_init_84 (fun h11 o11 z11 => ?_)
  have w11 : wlt 13 ([(2, shI 20), (3, shI 13), (4, shI 5), (5, shI 5), (6, shI 13), (7, shI 13), (8, shJ 13), (9, shJ 13), (10, shJ 13), (11, shJ 13), (12, shI 5)]) := (w10.mono (by decide)).app (wlt.cons ⟨by decide, Or.inl (by decide)⟩ (wlt.nl 13))
  refine GC_w (S' := ((1, .inl (11, [0, 0, 1, 0, 1, 1, 0, 6, 0, 7, 0, 8, 9, 10, 0, 11, 12, 13, 14, 15, 3, 3, 0, 3, 1, 0, 3, 3, 3, 3, 0, 3, 0, 1, 3, 0, 3, 3, 0, 2])) :: [(2, shI 20), (3, shI 13), (4, shI 5), (5, shI 5), (6, shI 13), (7, shI 13), (8, shJ 13), (9, shJ 13), (10, shJ 13), (11, shJ 13), (12, shI 5)])) rfl ?_
  refine GC_putr (k := 20) (j := 12) (q := (RX12, TX12, 40)) tyX12 rfl inX12 tyX12_ok nmX12 (by decide) (by decide) (fun _ => rfl) (fun _ => rfl) rfl rfl hF_X12_41 dX12_init_86 rfl ?_
  refine GC_w (S' := ((1, .inl (11, [0, 0, 1, 0, 1, 1, 0, 6, 0, 7, 0, 8, 9, 10, 0, 11, 12, 13, 14, 15, 16, 3, 0, 3, 1, 0, 3, 3, 3, 3, 0, 3, 0, 1, 3, 0, 3, 3, 0, 2])) :: [(2, shI 20), (3, shI 13), (4, shI 5), (5, shI 5), (6, shI 13), (7, shI 13), (8, shJ 13), (9, shJ 13), (10, shJ 13), (11, shJ 13), (12, shI 5)])) rfl ?_
  refine GC_aload_n 0 rfl dX12_init_89 rfl ?_
  refine GC_bipush (v := 7) dX12_init_90 (by decide) ?_
  refine GC_newaJ (n := 13) (M := 7) (f_t 124 (by decide +kernel) rfl) (by decide) (by decide) (by decide) (wlt.cons ⟨by decide, s_lt_l (by decide)⟩ w11) rfl rfl (by decide) (by decide) (by decide) dX12_init_92 (fun h12 o12 z12 => ?_)
  have w12 : wlt 14 ([(2, shI 20), (3, shI 13), (4, shI 5), (5, shI 5), (6, shI 13), (7, shI 13), (8, shJ 13), (9, shJ 13), (10, shJ 13), (11, shJ 13), (12, shI 5), (13, shJ 7)]) := (w11.mono (by decide)).app (wlt.cons ⟨by decide, Or.inl (by decide)⟩ (wlt.nl 14))
  refine GC_w (S' := ((1, .inl (11, [0, 0, 1, 0, 1, 1, 0, 6, 0, 7, 0, 8, 9, 10, 0, 11, 12, 13, 14, 15, 16, 3, 0, 3, 1, 0, 3, 3, 3, 3, 0, 3, 0, 1, 3, 0, 3, 3, 0, 2])) :: [(2, shI 20), (3, shI 13), (4, shI 5), (5, shI 5), (6, shI 13), (7, shI 13), (8, shJ 13), (9, shJ 13), (10, shJ 13), (11, shJ 13), (12, shI 5), (13, shJ 7)])) rfl ?_
  refine GC_putr (k := 21) (j := 13) (q := (RX12, TX12, 40)) tyX12 rfl inX12 tyX12_ok nmX12 (by decide) (by decide) (fun _ => rfl) (fun _ => rfl) rfl rfl hF_X12_44 dX12_init_94 rfl ?_
  refine GC_w (S' := ((1, .inl (11, [0, 0, 1, 0, 1, 1, 0, 6, 0, 7, 0, 8, 9, 10, 0, 11, 12, 13, 14, 15, 16, 17, 0, 3, 1, 0, 3, 3, 3, 3, 0, 3, 0, 1, 3, 0, 3, 3, 0, 2])) :: [(2, shI 20), (3, shI 13), (4, shI 5), (5, shI 5), (6, shI 13), (7, shI 13), (8, shJ 13), (9, shJ 13), (10, shJ 13), (11, shJ 13), (12, shI 5), (13, shJ 7)])) rfl ?_
  refine GC_aload_n 0 rfl dX12_init_97 rfl ?_
  refine GC_bipush (v := 7) dX12_init_98 (by decide) ?_
  refine GC_newaI (n := 14) (M := 7) (f_t 78 (by decide +kernel) rfl) (by decide) (by decide) (by decide) (wlt.cons ⟨by decide, s_lt_l (by decide)⟩ w12) rfl rfl (by decide) (by decide) (by decide) dX12_init_100 (fun h13 o13 z13 => ?_)
  have w13 : wlt 15 ([(2, shI 20), (3, shI 13), (4, shI 5), (5, shI 5), (6, shI 13), (7, shI 13), (8, shJ 13), (9, shJ 13), (10, shJ 13), (11, shJ 13), (12, shI 5), (13, shJ 7), (14, shI 7)]) := (w12.mono (by decide)).app (wlt.cons ⟨by decide, Or.inl (by decide)⟩ (wlt.nl 15))
  refine GC_w (S' := ((1, .inl (11, [0, 0, 1, 0, 1, 1, 0, 6, 0, 7, 0, 8, 9, 10, 0, 11, 12, 13, 14, 15, 16, 17, 0, 3, 1, 0, 3, 3, 3, 3, 0, 3, 0, 1, 3, 0, 3, 3, 0, 2])) :: [(2, shI 20), (3, shI 13), (4, shI 5), (5, shI 5), (6, shI 13), (7, shI 13), (8, shJ 13), (9, shJ 13), (10, shJ 13), (11, shJ 13), (12, shI 5), (13, shJ 7), (14, shI 7)])) rfl ?_
  refine GC_putr (k := 23) (j := 14) (q := (RX12, TX12, 40)) tyX12 rfl inX12 tyX12_ok nmX12 (by decide) (by decide) (fun _ => rfl) (fun _ => rfl) rfl rfl hF_X12_47 dX12_init_102 rfl ?_
  refine GC_w (S' := ((1, .inl (11, [0, 0, 1, 0, 1, 1, 0, 6, 0, 7, 0, 8, 9, 10, 0, 11, 12, 13, 14, 15, 16, 17, 0, 18, 1, 0, 3, 3, 3, 3, 0, 3, 0, 1, 3, 0, 3, 3, 0, 2])) :: [(2, shI 20), (3, shI 13), (4, shI 5), (5, shI 5), (6, shI 13), (7, shI 13), (8, shJ 13), (9, shJ 13), (10, shJ 13), (11, shJ 13), (12, shI 5), (13, shJ 7), (14, shI 7)])) rfl ?_
  refine GC_aload_n 0 rfl dX12_init_105 rfl ?_
  refine GC_bipush (v := 7) dX12_init_106 (by decide) ?_
  refine GC_newaI (n := 15) (M := 7) (f_t 78 (by decide +kernel) rfl) (by decide) (by decide) (by decide) (wlt.cons ⟨by decide, s_lt_l (by decide)⟩ w13) rfl rfl (by decide) (by decide) (by decide) dX12_init_108 (fun h14 o14 z14 => ?_)
  have w14 : wlt 16 ([(2, shI 20), (3, shI 13), (4, shI 5), (5, shI 5), (6, shI 13), (7, shI 13), (8, shJ 13), (9, shJ 13), (10, shJ 13), (11, shJ 13), (12, shI 5), (13, shJ 7), (14, shI 7), (15, shI 7)]) := (w13.mono (by decide)).app (wlt.cons ⟨by decide, Or.inl (by decide)⟩ (wlt.nl 16))
  refine GC_w (S' := ((1, .inl (11, [0, 0, 1, 0, 1, 1, 0, 6, 0, 7, 0, 8, 9, 10, 0, 11, 12, 13, 14, 15, 16, 17, 0, 18, 1, 0, 3, 3, 3, 3, 0, 3, 0, 1, 3, 0, 3, 3, 0, 2])) :: [(2, shI 20), (3, shI 13), (4, shI 5), (5, shI 5), (6, shI 13), (7, shI 13), (8, shJ 13), (9, shJ 13), (10, shJ 13), (11, shJ 13), (12, shI 5), (13, shJ 7), (14, shI 7), (15, shI 7)])) rfl ?_
  refine GC_putr (k := 26) (j := 15) (q := (RX12, TX12, 40)) tyX12 rfl inX12 tyX12_ok nmX12 (by decide) (by decide) (fun _ => rfl) (fun _ => rfl) rfl rfl hF_X12_50 dX12_init_110 rfl ?_
  refine GC_w (S' := ((1, .inl (11, [0, 0, 1, 0, 1, 1, 0, 6, 0, 7, 0, 8, 9, 10, 0, 11, 12, 13, 14, 15, 16, 17, 0, 18, 1, 0, 19, 3, 3, 3, 0, 3, 0, 1, 3, 0, 3, 3, 0, 2])) :: [(2, shI 20), (3, shI 13), (4, shI 5), (5, shI 5), (6, shI 13), (7, shI 13), (8, shJ 13), (9, shJ 13), (10, shJ 13), (11, shJ 13), (12, shI 5), (13, shJ 7), (14, shI 7), (15, shI 7)])) rfl ?_
  refine GC_aload_n 0 rfl dX12_init_113 rfl ?_
  refine GC_bipush (v := 13) dX12_init_114 (by decide) ?_
  refine GC_newaJ (n := 16) (M := 13) (f_t 124 (by decide +kernel) rfl) (by decide) (by decide) (by decide) (wlt.cons ⟨by decide, s_lt_l (by decide)⟩ w14) rfl rfl (by decide) (by decide) (by decide) dX12_init_116 (fun h15 o15 z15 => ?_)
  have w15 : wlt 17 ([(2, shI 20), (3, shI 13), (4, shI 5), (5, shI 5), (6, shI 13), (7, shI 13), (8, shJ 13), (9, shJ 13), (10, shJ 13), (11, shJ 13), (12, shI 5), (13, shJ 7), (14, shI 7), (15, shI 7), (16, shJ 13)]) := (w14.mono (by decide)).app (wlt.cons ⟨by decide, Or.inl (by decide)⟩ (wlt.nl 17))
  refine GC_w (S' := ((1, .inl (11, [0, 0, 1, 0, 1, 1, 0, 6, 0, 7, 0, 8, 9, 10, 0, 11, 12, 13, 14, 15, 16, 17, 0, 18, 1, 0, 19, 3, 3, 3, 0, 3, 0, 1, 3, 0, 3, 3, 0, 2])) :: [(2, shI 20), (3, shI 13), (4, shI 5), (5, shI 5), (6, shI 13), (7, shI 13), (8, shJ 13), (9, shJ 13), (10, shJ 13), (11, shJ 13), (12, shI 5), (13, shJ 7), (14, shI 7), (15, shI 7), (16, shJ 13)])) rfl ?_
  refine GC_putr (k := 27) (j := 16) (q := (RX12, TX12, 40)) tyX12 rfl inX12 tyX12_ok nmX12 (by decide) (by decide) (fun _ => rfl) (fun _ => rfl) rfl rfl hF_X12_53 dX12_init_118 rfl ?_
  refine GC_w (S' := ((1, .inl (11, [0, 0, 1, 0, 1, 1, 0, 6, 0, 7, 0, 8, 9, 10, 0, 11, 12, 13, 14, 15, 16, 17, 0, 18, 1, 0, 19, 20, 3, 3, 0, 3, 0, 1, 3, 0, 3, 3, 0, 2])) :: [(2, shI 20), (3, shI 13), (4, shI 5), (5, shI 5), (6, shI 13), (7, shI 13), (8, shJ 13), (9, shJ 13), (10, shJ 13), (11, shJ 13), (12, shI 5), (13, shJ 7), (14, shI 7), (15, shI 7), (16, shJ 13)])) rfl ?_
  refine GC_aload_n 0 rfl dX12_init_121 rfl ?_
  refine GC_bipush (v := 13) dX12_init_122 (by decide) ?_
  refine GC_newaJ (n := 17) (M := 13) (f_t 124 (by decide +kernel) rfl) (by decide) (by decide) (by decide) (wlt.cons ⟨by decide, s_lt_l (by decide)⟩ w15) rfl rfl (by decide) (by decide) (by decide) dX12_init_124 (fun h16 o16 z16 => ?_)
  have w16 : wlt 18 ([(2, shI 20), (3, shI 13), (4, shI 5), (5, shI 5), (6, shI 13), (7, shI 13), (8, shJ 13), (9, shJ 13), (10, shJ 13), (11, shJ 13), (12, shI 5), (13, shJ 7), (14, shI 7), (15, shI 7), (16, shJ 13), (17, shJ 13)]) := (w15.mono (by decide)).app (wlt.cons ⟨by decide, Or.inl (by decide)⟩ (wlt.nl 18))
  refine GC_w (S' := ((1, .inl (11, [0, 0, 1, 0, 1, 1, 0, 6, 0, 7, 0, 8, 9, 10, 0, 11, 12, 13, 14, 15, 16, 17, 0, 18, 1, 0, 19, 20, 3, 3, 0, 3, 0, 1, 3, 0, 3, 3, 0, 2])) :: [(2, shI 20), (3, shI 13), (4, shI 5), (5, shI 5), (6, shI 13), (7, shI 13), (8, shJ 13), (9, shJ 13), (10, shJ 13), (11, shJ 13), (12, shI 5), (13, shJ 7), (14, shI 7), (15, shI 7), (16, shJ 13), (17, shJ 13)])) rfl ?_
  refine GC_putr (k := 28) (j := 17) (q := (RX12, TX12, 40)) tyX12 rfl inX12 tyX12_ok nmX12 (by decide) (by decide) (fun _ => rfl) (fun _ => rfl) rfl rfl hF_X12_56 dX12_init_126 rfl ?_
  refine GC_w (S' := ((1, .inl (11, [0, 0, 1, 0, 1, 1, 0, 6, 0, 7, 0, 8, 9, 10, 0, 11, 12, 13, 14, 15, 16, 17, 0, 18, 1, 0, 19, 20, 21, 3, 0, 3, 0, 1, 3, 0, 3, 3, 0, 2])) :: [(2, shI 20), (3, shI 13), (4, shI 5), (5, shI 5), (6, shI 13), (7, shI 13), (8, shJ 13), (9, shJ 13), (10, shJ 13), (11, shJ 13), (12, shI 5), (13, shJ 7), (14, shI 7), (15, shI 7), (16, shJ 13), (17, shJ 13)])) rfl ?_
  refine GC_aload_n 0 rfl dX12_init_129 rfl ?_
  refine GC_bipush (v := 32) dX12_init_130 (by decide) ?_
  refine GC_newaI (n := 18) (M := 32) (f_t 78 (by decide +kernel) rfl) (by decide) (by decide) (by decide) (wlt.cons ⟨by decide, s_lt_l (by decide)⟩ w16) rfl rfl (by decide) (by decide) (by decide) dX12_init_132 (fun h17 o17 z17 => ?_)
  have w17 : wlt 19 ([(2, shI 20), (3, shI 13), (4, shI 5), (5, shI 5), (6, shI 13), (7, shI 13), (8, shJ 13), (9, shJ 13), (10, shJ 13), (11, shJ 13), (12, shI 5), (13, shJ 7), (14, shI 7), (15, shI 7), (16, shJ 13), (17, shJ 13), (18, shI 32)]) := (w16.mono (by decide)).app (wlt.cons ⟨by decide, Or.inl (by decide)⟩ (wlt.nl 19))
  refine GC_w (S' := ((1, .inl (11, [0, 0, 1, 0, 1, 1, 0, 6, 0, 7, 0, 8, 9, 10, 0, 11, 12, 13, 14, 15, 16, 17, 0, 18, 1, 0, 19, 20, 21, 3, 0, 3, 0, 1, 3, 0, 3, 3, 0, 2])) :: [(2, shI 20), (3, shI 13), (4, shI 5), (5, shI 5), (6, shI 13), (7, shI 13), (8, shJ 13), (9, shJ 13), (10, shJ 13), (11, shJ 13), (12, shI 5), (13, shJ 7), (14, shI 7), (15, shI 7), (16, shJ 13), (17, shJ 13), (18, shI 32)])) rfl ?_
  refine GC_putr (k := 29) (j := 18) (q := (RX12, TX12, 40)) tyX12 rfl inX12 tyX12_ok nmX12 (by decide) (by decide) (fun _ => rfl) (fun _ => rfl) rfl rfl hF_X12_59 dX12_init_134 rfl ?_
  refine GC_w (S' := ((1, .inl (11, [0, 0, 1, 0, 1, 1, 0, 6, 0, 7, 0, 8, 9, 10, 0, 11, 12, 13, 14, 15, 16, 17, 0, 18, 1, 0, 19, 20, 21, 22, 0, 3, 0, 1, 3, 0, 3, 3, 0, 2])) :: [(2, shI 20), (3, shI 13), (4, shI 5), (5, shI 5), (6, shI 13), (7, shI 13), (8, shJ 13), (9, shJ 13), (10, shJ 13), (11, shJ 13), (12, shI 5), (13, shJ 7), (14, shI 7), (15, shI 7), (16, shJ 13), (17, shJ 13), (18, shI 32)])) rfl ?_
  refine GC_aload_n 0 rfl dX12_init_137 rfl ?_
  refine GC_bipush (v := 13) dX12_init_138 (by decide) ?_
  refine GC_newaI (n := 19) (M := 13) (f_t 78 (by decide +kernel) rfl) (by decide) (by decide) (by decide) (wlt.cons ⟨by decide, s_lt_l (by decide)⟩ w17) rfl rfl (by decide) (by decide) (by decide) dX12_init_140 (fun h18 o18 z18 => ?_)
  have w18 : wlt 20 ([(2, shI 20), (3, shI 13), (4, shI 5), (5, shI 5), (6, shI 13), (7, shI 13), (8, shJ 13), (9, shJ 13), (10, shJ 13), (11, shJ 13), (12, shI 5), (13, shJ 7), (14, shI 7), (15, shI 7), (16, shJ 13), (17, shJ 13), (18, shI 32), (19, shI 13)]) := (w17.mono (by decide)).app (wlt.cons ⟨by decide, Or.inl (by decide)⟩ (wlt.nl 20))
  refine GC_w (S' := ((1, .inl (11, [0, 0, 1, 0, 1, 1, 0, 6, 0, 7, 0, 8, 9, 10, 0, 11, 12, 13, 14, 15, 16, 17, 0, 18, 1, 0, 19, 20, 21, 22, 0, 3, 0, 1, 3, 0, 3, 3, 0, 2])) :: [(2, shI 20), (3, shI 13), (4, shI 5), (5, shI 5), (6, shI 13), (7, shI 13), (8, shJ 13), (9, shJ 13), (10, shJ 13), (11, shJ 13), (12, shI 5), (13, shJ 7), (14, shI 7), (15, shI 7), (16, shJ 13), (17, shJ 13), (18, shI 32), (19, shI 13)])) rfl ?_
  refine GC_putr (k := 31) (j := 19) (q := (RX12, TX12, 40)) tyX12 rfl inX12 tyX12_ok nmX12 (by decide) (by decide) (fun _ => rfl) (fun _ => rfl) rfl rfl hF_X12_62 dX12_init_142 rfl ?_
  refine GC_w (S' := ((1, .inl (11, [0, 0, 1, 0, 1, 1, 0, 6, 0, 7, 0, 8, 9, 10, 0, 11, 12, 13, 14, 15, 16, 17, 0, 18, 1, 0, 19, 20, 21, 22, 0, 23, 0, 1, 3, 0, 3, 3, 0, 2])) :: [(2, shI 20), (3, shI 13), (4, shI 5), (5, shI 5), (6, shI 13), (7, shI 13), (8, shJ 13), (9, shJ 13), (10, shJ 13), (11, shJ 13), (12, shI 5), (13, shJ 7), (14, shI 7), (15, shI 7), (16, shJ 13), (17, shJ 13), (18, shI 32), (19, shI 13)])) rfl ?_
  refine GC_aload_n 0 rfl dX12_init_145 rfl ?_
  refine GC_bipush (v := 13) dX12_init_146 (by decide) ?_
  refine GC_newaI (n := 20) (M := 13) (f_t 78 (by decide +kernel) rfl) (by decide) (by decide) (by decide) (wlt.cons ⟨by decide, s_lt_l (by decide)⟩ w18) rfl rfl (by decide) (by decide) (by decide) dX12_init_148 (fun h19 o19 z19 => ?_)
  have w19 : wlt 21 ([(2, shI 20), (3, shI 13), (4, shI 5), (5, shI 5), (6, shI 13), (7, shI 13), (8, shJ 13), (9, shJ 13), (10, shJ 13), (11, shJ 13), (12, shI 5), (13, shJ 7), (14, shI 7), (15, shI 7), (16, shJ 13), (17, shJ 13), (18, shI 32), (19, shI 13), (20, shI 13)]) := (w18.mono (by decide)).app (wlt.cons ⟨by decide, Or.inl (by decide)⟩ (wlt.nl 21))
  refine GC_w (S' := ((1, .inl (11, [0, 0, 1, 0, 1, 1, 0, 6, 0, 7, 0, 8, 9, 10, 0, 11, 12, 13, 14, 15, 16, 17, 0, 18, 1, 0, 19, 20, 21, 22, 0, 23, 0, 1, 3, 0, 3, 3, 0, 2])) :: [(2, shI 20), (3, shI 13), (4, shI 5), (5, shI 5), (6, shI 13), (7, shI 13), (8, shJ 13), (9, shJ 13), (10, shJ 13), (11, shJ 13), (12, shI 5), (13, shJ 7), (14, shI 7), (15, shI 7), (16, shJ 13), (17, shJ 13), (18, shI 32), (19, shI 13), (20, shI 13)])) rfl ?_
  refine GC_putr (k := 34) (j := 20) (q := (RX12, TX12, 40)) tyX12 rfl inX12 tyX12_ok nmX12 (by decide) (by decide) (fun _ => rfl) (fun _ => rfl) rfl rfl hF_X12_65 dX12_init_150 rfl ?_
  refine GC_w (S' := ((1, .inl (11, [0, 0, 1, 0, 1, 1, 0, 6, 0, 7, 0, 8, 9, 10, 0, 11, 12, 13, 14, 15, 16, 17, 0, 18, 1, 0, 19, 20, 21, 22, 0, 23, 0, 1, 24, 0, 3, 3, 0, 2])) :: [(2, shI 20), (3, shI 13), (4, shI 5), (5, shI 5), (6, shI 13), (7, shI 13), (8, shJ 13), (9, shJ 13), (10, shJ 13), (11, shJ 13), (12, shI 5), (13, shJ 7), (14, shI 7), (15, shI 7), (16, shJ 13), (17, shJ 13), (18, shI 32), (19, shI 13), (20, shI 13)])) rfl ?_
  refine GC_aload_n 0 rfl dX12_init_153 rfl ?_
  refine GC_bipush (v := 80) dX12_init_154 (by decide) ?_
  refine GC_newaJ (n := 21) (M := 80) (f_t 124 (by decide +kernel) rfl) (by decide) (by decide) (by decide) (wlt.cons ⟨by decide, s_lt_l (by decide)⟩ w19) rfl rfl (by decide) (by decide) (by decide) dX12_init_156 (fun h20 o20 z20 => ?_)
  have w20 : wlt 22 ([(2, shI 20), (3, shI 13), (4, shI 5), (5, shI 5), (6, shI 13), (7, shI 13), (8, shJ 13), (9, shJ 13), (10, shJ 13), (11, shJ 13), (12, shI 5), (13, shJ 7), (14, shI 7), (15, shI 7), (16, shJ 13), (17, shJ 13), (18, shI 32), (19, shI 13), (20, shI 13), (21, shJ 80)]) := (w19.mono (by decide)).app (wlt.cons ⟨by decide, Or.inl (by decide)⟩ (wlt.nl 22))
  refine GC_w (S' := ((1, .inl (11, [0, 0, 1, 0, 1, 1, 0, 6, 0, 7, 0, 8, 9, 10, 0, 11, 12, 13, 14, 15, 16, 17, 0, 18, 1, 0, 19, 20, 21, 22, 0, 23, 0, 1, 24, 0, 3, 3, 0, 2])) :: [(2, shI 20), (3, shI 13), (4, shI 5), (5, shI 5), (6, shI 13), (7, shI 13), (8, shJ 13), (9, shJ 13), (10, shJ 13), (11, shJ 13), (12, shI 5), (13, shJ 7), (14, shI 7), (15, shI 7), (16, shJ 13), (17, shJ 13), (18, shI 32), (19, shI 13), (20, shI 13), (21, shJ 80)])) rfl ?_
  refine GC_putr (k := 36) (j := 21) (q := (RX12, TX12, 40)) tyX12 rfl inX12 tyX12_ok nmX12 (by decide) (by decide) (fun _ => rfl) (fun _ => rfl) rfl rfl hF_X12_68 dX12_init_158 rfl ?_
  refine GC_w (S' := ((1, .inl (11, [0, 0, 1, 0, 1, 1, 0, 6, 0, 7, 0, 8, 9, 10, 0, 11, 12, 13, 14, 15, 16, 17, 0, 18, 1, 0, 19, 20, 21, 22, 0, 23, 0, 1, 24, 0, 25, 3, 0, 2])) :: [(2, shI 20), (3, shI 13), (4, shI 5), (5, shI 5), (6, shI 13), (7, shI 13), (8, shJ 13), (9, shJ 13), (10, shJ 13), (11, shJ 13), (12, shI 5), (13, shJ 7), (14, shI 7), (15, shI 7), (16, shJ 13), (17, shJ 13), (18, shI 32), (19, shI 13), (20, shI 13), (21, shJ 80)])) rfl ?_
  refine GC_aload_n 0 rfl dX12_init_161 rfl ?_
  refine GC_iconst (v := 2) dX12_init_162 (by decide) ?_
  refine GC_newaZ (n := 22) (M := 2) (f_t 964 (by decide +kernel) rfl) (by decide) (by decide) (by decide) (wlt.cons ⟨by decide, s_lt_l (by decide)⟩ w20) rfl rfl (by decide) (by decide) (by decide) dX12_init_163 (fun h21 o21 z21 => ?_)
  have w21 : wlt 23 ([(2, shI 20), (3, shI 13), (4, shI 5), (5, shI 5), (6, shI 13), (7, shI 13), (8, shJ 13), (9, shJ 13), (10, shJ 13), (11, shJ 13), (12, shI 5), (13, shJ 7), (14, shI 7), (15, shI 7), (16, shJ 13), (17, shJ 13), (18, shI 32), (19, shI 13), (20, shI 13), (21, shJ 80), (22, shZ 2)]) := (w20.mono (by decide)).app (wlt.cons ⟨by decide, Or.inl (by decide)⟩ (wlt.nl 23))
  refine GC_w (S' := ((1, .inl (11, [0, 0, 1, 0, 1, 1, 0, 6, 0, 7, 0, 8, 9, 10, 0, 11, 12, 13, 14, 15, 16, 17, 0, 18, 1, 0, 19, 20, 21, 22, 0, 23, 0, 1, 24, 0, 25, 3, 0, 2])) :: [(2, shI 20), (3, shI 13), (4, shI 5), (5, shI 5), (6, shI 13), (7, shI 13), (8, shJ 13), (9, shJ 13), (10, shJ 13), (11, shJ 13), (12, shI 5), (13, shJ 7), (14, shI 7), (15, shI 7), (16, shJ 13), (17, shJ 13), (18, shI 32), (19, shI 13), (20, shI 13), (21, shJ 80), (22, shZ 2)])) rfl ?_
  refine GC_putr (k := 37) (j := 22) (q := (RX12, TX12, 40)) tyX12 rfl inX12 tyX12_ok nmX12 (by decide) (by decide) (fun _ => rfl) (fun _ => rfl) rfl rfl hF_X12_71 dX12_init_165 rfl ?_
  refine GC_w (S' := ((1, .inl (11, [0, 0, 1, 0, 1, 1, 0, 6, 0, 7, 0, 8, 9, 10, 0, 11, 12, 13, 14, 15, 16, 17, 0, 18, 1, 0, 19, 20, 21, 22, 0, 23, 0, 1, 24, 0, 25, 26, 0, 2])) :: [(2, shI 20), (3, shI 13), (4, shI 5), (5, shI 5), (6, shI 13), (7, shI 13), (8, shJ 13), (9, shJ 13), (10, shJ 13), (11, shJ 13), (12, shI 5), (13, shJ 7), (14, shI 7), (15, shI 7), (16, shJ 13), (17, shJ 13), (18, shI 32), (19, shI 13), (20, shI 13), (21, shJ 80), (22, shZ 2)])) rfl ?_
  refine GC_aload_n 0 rfl dX12_init_168 rfl ?_
  refine GC_iconst (v := 3) dX12_init_169 (by decide) ?_
  refine GC_puti (r := 1) (k := 0) (q := (RX12, TX12, 40)) tyX12 List.mem_cons_self rfl inX12 tyX12_ok nmX12 (by decide) rfl rfl rfl hF_X12_75 dX12_init_170 (GC_nm (fun h22 e22 => ?_))
  refine GC_aload_n 0 rfl dX12_init_173 rfl ?_
  refine GC_getr (k := 9) (j := 3) (q := (RX12, TX12, 40)) List.mem_cons_self rfl inX12 (by decide) rfl hF_X12_13 dX12_init_174 ?_
  refine GC_iconst (v := 0) dX12_init_177 (by decide) ?_
  refine GC_bipush (v := 97) dX12_init_178 (by decide) ?_
  refine GC_iast (List.mem_of_getElem? (i := 2) rfl) (vp_in_nI (n := 0) (by decide) (by decide)) dX12_init_180 (GC_nm (fun h23 e23 => ?_))
  refine GC_aload_n 0 rfl dX12_init_181 rfl ?_
  refine GC_iconst (v := 1) dX12_init_182 (by decide) ?_
  refine GC_puti (r := 1) (k := 10) (q := (RX12, TX12, 40)) tyX12 List.mem_cons_self rfl inX12 tyX12_ok nmX12 (by decide) rfl rfl rfl hF_X12_79 dX12_init_183 (GC_nm (fun h24 e24 => ?_))
  refine GC_w (S' := SM) rfl ?_
  have oo20 : fLt 22 h20 h21 := o21
  have oo19 : fLt 21 h19 h21 := o20.tr (oo20.mono (by decide))
  have oo18 : fLt 20 h18 h21 := o19.tr (oo19.mono (by decide))
  have oo17 : fLt 19 h17 h21 := o18.tr (oo18.mono (by decide))
  have oo16 : fLt 18 h16 h21 := o17.tr (oo17.mono (by decide))
  have oo15 : fLt 17 h15 h21 := o16.tr (oo16.mono (by decide))
  have oo14 : fLt 16 h14 h21 := o15.tr (oo15.mono (by decide))
  have oo13 : fLt 15 h13 h21 := o14.tr (oo14.mono (by decide))
  have oo12 : fLt 14 h12 h21 := o13.tr (oo13.mono (by decide))
  have oo11 : fLt 13 h11 h21 := o12.tr (oo12.mono (by decide))
  have oo10 : fLt 12 h10 h21 := o11.tr (oo11.mono (by decide))
  have oo9 : fLt 11 h9 h21 := o10.tr (oo10.mono (by decide))
  have oo8 : fLt 10 h8 h21 := o9.tr (oo9.mono (by decide))
  have oo7 : fLt 9 h7 h21 := o8.tr (oo8.mono (by decide))
  have oo6 : fLt 8 h6 h21 := o7.tr (oo7.mono (by decide))
  have oo5 : fLt 7 h5 h21 := o6.tr (oo6.mono (by decide))
  have oo4 : fLt 6 h4 h21 := o5.tr (oo5.mono (by decide))
  have oo3 : fLt 5 h3 h21 := o4.tr (oo4.mono (by decide))
  have oo2 : fLt 4 h2 h21 := o3.tr (oo3.mono (by decide))
  have oo1 : fLt 3 h1 h21 := o2.tr (oo2.mono (by decide))
  have oo0 : fLt 2 h0 h21 := o1.tr (oo1.mono (by decide))
  have f0 : ∀ j, h21.1 1 j = 0 := fun j => by rw [(oo0 1 (by decide)).1, e0]; rfl
  have r4 : h24.2.2.1 4 = fun _ => 0 := by rw [e24, e23]; show (u_ai h22 3 _).2.2.1 4 = _; rw [u_ai_n _ _ (by decide), e22]; show h21.2.2.1 4 = _; rw [(oo3 4 (by decide)).2.2.1]; exact z3
  have r5 : h21.2.2.1 5 = fun _ => 0 := by rw [(oo4 5 (by decide)).2.2.1]; exact z4
  have r12 : h21.2.2.1 12 = fun _ => 0 := by rw [(oo11 12 (by decide)).2.2.1]; exact z11
  have r22 : h21.2.2.1 22 = fun _ => 0 := z21
  refine GC_iconst (v := 0) dX12_init_186 (by decide) ?_
  refine GC_istore_n dX12_init_187 rfl (by decide) rfl ?_
  have key : ∀ (m i : Nat) (g : fH), m + i = 5 → fOff [4] h24 g → (∀ j, j < i → g.2.2.1 4 j = 1) → GC mX12_init (d + 1) 21 313 SM (fun h => MRel h X0) SM 21 313 188 [(1, .int (nI i)), (0, .ref 1)] [] g := by
    intro m
    induction m with
    | zero =>
      intro i g hm o9 a1
      have ei : i = 5 := by omega
      subst ei
      refine GC_iload_n 0 rfl dX12_init_188 rfl ?_
      refine GC_iconst (v := 5) dX12_init_189 (by decide) ?_
      refine GC_icmp_ge (tgt := 206) dX12_init_190 (by decide) (fun _ => ?_) (fun q => absurd (by decide) q)
      refine GC_vret rfl dX12_init_206 rfl rfl rfl ?_
      have q0 : g.1 1 = h24.1 1 := (o9 1 (by decide)).1
      have fj : ∀ j, j ≠ 0 → j ≠ 10 → g.1 1 j = 0 := fun j j0 j1 => by rw [q0, e24, u_fi_n _ _ j1, e23, u_ai_1, e22, u_fi_n _ _ j0]; exact f0 j
      have rr : ∀ a, a ≠ 4 → a ≠ 3 → g.2.2.1 a = h21.2.2.1 a := fun a a4 a3 => by
        rw [(o9 a (by simpa using a4)).2.2.1, e24, u_fi_2, e23, u_ai_n _ _ a3, e22]
        rfl
      refine ⟨⟨by rw [fj 8 (by decide) (by decide)]; rfl, fun i hi => by simp [X0] at hi⟩, ⟨⟨?_, fun i hi => ?_⟩, ⟨?_, ?_⟩, fun j hj => ⟨?_, ?_⟩, ?_, fun j hj => absurd hj (Nat.not_lt_zero j)⟩, ?_, ?_, fun j hj => ?_⟩
      · rw [q0, e24, u_fi_s]; rfl
      · have : i = 0 := by have : i < 1 := hi; omega
        subst this
        rw [(o9 3 (by decide)).2.2.1, e24, u_fi_2, e23, u_ai_s]
        rfl
      · rw [q0, e24, u_fi_n _ _ (by decide), e23, u_ai_1, e22, u_fi_s]; rfl
      · rw [fj 1 (by decide) (by decide)]; rfl
      · rw [a1 j hj]; show _ = num1 j; unfold num1; rw [if_pos hj]
      · rw [rr 5 (by decide) (by decide), r5]; rfl
      · rw [fj 22 (by decide) (by decide)]; rfl
      · show g.2.2.1 22 0 = 0
        rw [rr 22 (by decide) (by decide), r22]
      · show g.2.2.1 22 1 = 0
        rw [rr 22 (by decide) (by decide), r22]
      · rw [rr 12 (by decide) (by decide), r12]
    | succ m ih =>
      intro i g hm o9 a1
      refine GC_iload_n 0 rfl dX12_init_188 rfl ?_
      refine GC_iconst (v := 5) dX12_init_189 (by decide) ?_
      refine GC_icmp_ge (tgt := 206) dX12_init_190 (by decide) (fun q => absurd q (nI_ge (a := i) (b := 5) (by omega) (by decide))) (fun _ => ?_)
      refine GC_aload_n 1 rfl dX12_init_193 rfl ?_
      refine GC_getr (k := 11) (j := 4) (q := (RX12, TX12, 40)) List.mem_cons_self rfl inX12 (by decide) rfl hF_X12_16 dX12_init_194 ?_
      refine GC_iload_n 0 rfl dX12_init_197 rfl ?_
      refine GC_iconst (v := 1) dX12_init_198 (by decide) ?_
      refine GC_iast (a := 4) (n := 5) (List.mem_of_getElem? (i := 3) rfl) (vp_in_nI (by omega) (by decide)) dX12_init_199 ?_
      rw [nI_clamp (by omega)]
      refine GC_iinc (v := 1) 0 rfl dX12_init_200 (by decide) (by decide) rfl ?_
      rw [nI1]
      refine GC_goto (tgt := 188) dX12_init_203 (by decide) ?_
      refine ih (i + 1) _ (by omega) (o9.of (f_off_ai _ _ _) (by simp)) (fun j hj => ?_)
      rw [u_ai_s]
      by_cases c : j = i
      · subst c; rw [upd_s]
      · rw [upd_n _ _ c]; exact a1 j (by omega)
  exact key 5 0 h24 rfl fOff.rf (fun j hj => by omega)

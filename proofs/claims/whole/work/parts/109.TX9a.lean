-- LostDigits$Sums.take
theorem dX9_take_0 : decode cX9_take 0 = .ok (.aload_n 0, 1) := by decide +kernel
theorem dX9_take_1 : decode cX9_take 1 = .ok (.getfield 21, 3) := by decide +kernel
theorem dX9_take_4 : decode cX9_take 4 = .ok (.aload_n 1, 1) := by decide +kernel
theorem dX9_take_5 : decode cX9_take 5 = .ok (.getfield 37, 3) := by decide +kernel
theorem dX9_take_8 : decode cX9_take 8 = .ok (.aload_n 1, 1) := by decide +kernel
theorem dX9_take_9 : decode cX9_take 9 = .ok (.getfield 42, 3) := by decide +kernel
theorem dX9_take_12 : decode cX9_take 12 = .ok (.invokevirtual 45, 3) := by decide +kernel
theorem dX9_take_15 : decode cX9_take 15 = .ok (.aload_n 1, 1) := by decide +kernel
theorem dX9_take_16 : decode cX9_take 16 = .ok (.getfield 49, 3) := by decide +kernel
theorem dX9_take_19 : decode cX9_take 19 = .ok (.iconst 0, 1) := by decide +kernel
theorem dX9_take_20 : decode cX9_take 20 = .ok (.aload_n 0, 1) := by decide +kernel
theorem dX9_take_21 : decode cX9_take 21 = .ok (.getfield 25, 3) := by decide +kernel
theorem dX9_take_24 : decode cX9_take 24 = .ok (.iconst 0, 1) := by decide +kernel
theorem dX9_take_25 : decode cX9_take 25 = .ok (.bipush 7, 2) := by decide +kernel
theorem dX9_take_27 : decode cX9_take 27 = .ok (.invokestatic 50, 3) := by decide +kernel
theorem dX9_take_30 : decode cX9_take 30 = .ok (.aload_n 0, 1) := by decide +kernel
theorem dX9_take_31 : decode cX9_take 31 = .ok (.iconst 0, 1) := by decide +kernel
theorem dX9_take_32 : decode cX9_take 32 = .ok (.aload_n 1, 1) := by decide +kernel
theorem dX9_take_33 : decode cX9_take 33 = .ok (.getfield 56, 3) := by decide +kernel
theorem dX9_take_36 : decode cX9_take 36 = .ok (.bipush 7, 2) := by decide +kernel
theorem dX9_take_38 : decode cX9_take 38 = .ok (.invokestatic 59, 3) := by decide +kernel
theorem dX9_take_41 : decode cX9_take 41 = .ok (.invokestatic 65, 3) := by decide +kernel
theorem dX9_take_44 : decode cX9_take 44 = .ok (.putfield 33, 3) := by decide +kernel
theorem dX9_take_47 : decode cX9_take 47 = .ok (.return_, 1) := by decide +kernel
set_option maxRecDepth 10000 in
theorem NX9_take_0 {d : Nat} {S : fW} {h : fH} {Q : fH → Prop} {r0 : Nat} {r1 : Nat} {r0_ratio r0_rounding r0_terms r0_sizes r1_text r1_numbers r1_spans r1_terms : Nat}  
    (hs1 : (r0, shX9 r0_ratio r0_rounding r0_terms r0_sizes) ∈ S)
    (hs2 : (r1, shX2 r1_text r1_numbers r1_spans r1_terms) ∈ S)
    (hs3 : (r0_rounding, shX4) ∈ S)
    (hs4 : (r1_terms, shJ 7) ∈ S)
    (hs5 : (r0_terms, shJ 7) ∈ S)
    (w : ∃ Q1 : fH → Prop, OkV d mX4_turn S [.ref r0_rounding, .int (h.1 r1 5), .int (h.1 r1 6)] h Q1 ∧ ∀ (h_1 : fH), Q1 h_1 → ∀ g_1 : fH, g_1 = u_al h_1 r0_terms (va_cpy (h_1.2.2.2 r1_terms) (h_1.2.2.2 r0_terms) 0 0 7) → ∀ g_2 : fH, g_2 = u_fi g_1 r0 4 (if (0 : Int32) < (if (7 : Int32) < (g_1.1 r1 4) then (7 : Int32) else (g_1.1 r1 4)) then (if (7 : Int32) < (g_1.1 r1 4) then (7 : Int32) else (g_1.1 r1 4)) else (0 : Int32)) → Q g_2) :
    OkV (d + 1) mX9_take S [.ref r0, .ref r1] h Q := by
  refine Ok.of (by decide) (Nat.le_of_ble_eq_true rfl) ?_
  refine G_aload_n 0 rfl dX9_take_0 rfl ?_
  refine G_getr (j := r0_rounding) (k := 1) hs1 (q := (RX9, TX9, 5)) rfl inX9 (by decide) rfl hF_X9_21 dX9_take_1 ?_
  refine G_aload_n 1 rfl dX9_take_4 rfl ?_
  refine G_geti (k := 5) hs2 (q := (RX2, TX2, 8)) rfl inX2 (by decide) (Or.inl rfl) hF_X9_37 dX9_take_5 ?_
  refine G_aload_n 1 rfl dX9_take_8 rfl ?_
  refine G_geti (k := 6) hs2 (q := (RX2, TX2, 8)) rfl inX2 (by decide) (Or.inl rfl) hF_X9_42 dX9_take_9 ?_
  obtain ⟨Q1, ok1, w⟩ := w
  refine G_callV (Z := mX4_turn) (As := [.int (h.1 r1 5), .int (h.1 r1 6)]) (st := []) hL_X9_45 hI_X4_turn hS_X4_turn hC_X4_turn hN_X4 nX4_turn (by decide) hs3 rfl rfl rfl (Nat.le_of_ble_eq_true rfl) dX9_take_12 ok1 (fun r_ h_1 z_ => ?_)
  obtain ⟨rfl, q_1⟩ := z_
  have w := w h_1 q_1
  refine G_aload_n 1 rfl dX9_take_15 rfl ?_
  refine G_getr (j := r1_terms) (k := 3) hs2 (q := (RX2, TX2, 8)) rfl inX2 (by decide) rfl hF_X9_49 dX9_take_16 ?_
  refine G_iconst (v := 0) dX9_take_19 (by decide) ?_
  refine G_aload_n 0 rfl dX9_take_20 rfl ?_
  refine G_getr (j := r0_terms) (k := 2) hs1 (q := (RX9, TX9, 5)) rfl inX9 (by decide) rfl hF_X9_25 dX9_take_21 ?_
  refine G_iconst (v := 0) dX9_take_24 (by decide) ?_
  refine G_bipush (v := 7) dX9_take_25 (by decide) ?_
  refine G_copyL hL_X9_50 hs4 hs5 (by decide) (by decide) (by decide) (Nat.le_of_ble_eq_true rfl) dX9_take_27 ?_
  refine G_nm (fun g_1 e_1 => ?_)
  have w := w g_1 e_1
  refine G_aload_n 0 rfl dX9_take_30 rfl ?_
  refine G_iconst (v := 0) dX9_take_31 (by decide) ?_
  refine G_aload_n 1 rfl dX9_take_32 rfl ?_
  refine G_geti (k := 4) hs2 (q := (RX2, TX2, 8)) rfl inX2 (by decide) (Or.inl rfl) hF_X9_56 dX9_take_33 ?_
  refine G_bipush (v := 7) dX9_take_36 (by decide) ?_
  refine G_mminI hL_X9_59 (Nat.le_of_ble_eq_true rfl) dX9_take_38 ?_
  refine G_mmaxI hL_X9_65 (Nat.le_of_ble_eq_true rfl) dX9_take_41 ?_
  refine G_puti (k := 4) tyX9 hs1 (q := (RX9, TX9, 5)) rfl inX9 tyX9_ok nmX9 (by decide) rfl rfl rfl hF_X9_33 dX9_take_44 ?_
  refine G_nm (fun g_2 e_2 => ?_)
  have w := w g_2 e_2
  exact G_vret rfl dX9_take_47 ⟨rfl, w⟩
-- LostDigits$Sums.plus
theorem dX9_plus_0 : decode cX9_plus 0 = .ok (.lload_n 1, 1) := by decide +kernel
theorem dX9_plus_1 : decode cX9_plus 1 = .ok (.ldc2_w 68, 3) := by decide +kernel
theorem dX9_plus_4 : decode cX9_plus 4 = .ok (.lcmp, 1) := by decide +kernel
theorem dX9_plus_5 : decode cX9_plus 5 = .ok (.ifCond .eq 11, 3) := by decide +kernel
theorem dX9_plus_8 : decode cX9_plus 8 = .ok (.lload_n 3, 1) := by decide +kernel
theorem dX9_plus_9 : decode cX9_plus 9 = .ok (.ldc2_w 68, 3) := by decide +kernel
theorem dX9_plus_12 : decode cX9_plus 12 = .ok (.lcmp, 1) := by decide +kernel
theorem dX9_plus_13 : decode cX9_plus 13 = .ok (.ifCond .ne 7, 3) := by decide +kernel
theorem dX9_plus_16 : decode cX9_plus 16 = .ok (.ldc2_w 68, 3) := by decide +kernel
theorem dX9_plus_19 : decode cX9_plus 19 = .ok (.lreturn, 1) := by decide +kernel
theorem dX9_plus_20 : decode cX9_plus 20 = .ok (.aload_n 0, 1) := by decide +kernel
theorem dX9_plus_21 : decode cX9_plus 21 = .ok (.getfield 12, 3) := by decide +kernel
theorem dX9_plus_24 : decode cX9_plus 24 = .ok (.lload_n 1, 1) := by decide +kernel
theorem dX9_plus_25 : decode cX9_plus 25 = .ok (.lload_n 3, 1) := by decide +kernel
theorem dX9_plus_26 : decode cX9_plus 26 = .ok (.ladd, 1) := by decide +kernel
theorem dX9_plus_27 : decode cX9_plus 27 = .ok (.lconst 1, 1) := by decide +kernel
theorem dX9_plus_28 : decode cX9_plus 28 = .ok (.iconst 0, 1) := by decide +kernel
theorem dX9_plus_29 : decode cX9_plus 29 = .ok (.invokevirtual 70, 3) := by decide +kernel
theorem dX9_plus_32 : decode cX9_plus 32 = .ok (.aload_n 0, 1) := by decide +kernel
theorem dX9_plus_33 : decode cX9_plus 33 = .ok (.getfield 21, 3) := by decide +kernel
theorem dX9_plus_36 : decode cX9_plus 36 = .ok (.aload_n 0, 1) := by decide +kernel
theorem dX9_plus_37 : decode cX9_plus 37 = .ok (.getfield 12, 3) := by decide +kernel
theorem dX9_plus_40 : decode cX9_plus 40 = .ok (.invokevirtual 74, 3) := by decide +kernel
theorem dX9_plus_43 : decode cX9_plus 43 = .ok (.lreturn, 1) := by decide +kernel
set_option maxRecDepth 10000 in
theorem NX9_plus_0 {d : Nat} {S : fW} {h : fH} {Q : Int64 → fH → Prop} {r0 : Nat} {x1 : Int64} {x3 : Int64} {r0_ratio r0_rounding r0_terms r0_sizes : Nat}  
    (hs1 : (r0, shX9 r0_ratio r0_rounding r0_terms r0_sizes) ∈ S)
    (hs2 : (r0_ratio, shX3) ∈ S)
    (hs3 : (r0_rounding, shX4) ∈ S)
    (w : ((x1 = (1000000000000000000 : Int64) → Q (1000000000000000000 : Int64) h) ∧ (¬ x1 = (1000000000000000000 : Int64) → ((¬ x3 = (1000000000000000000 : Int64) → ∃ Q1 : fH → Prop, OkV d mX3_hold S [.ref r0_ratio, .long (x1 + x3), .long (1 : Int64), .int (0 : Int32)] h Q1 ∧ ∀ (h_1 : fH), Q1 h_1 → ∃ Q2 : Int64 → fH → Prop, OkL d mX4_of S [.ref r0_rounding, .ref r0_ratio] h_1 Q2 ∧ ∀ (v_2 : Int64) (h_2 : fH), Q2 v_2 h_2 → Q v_2 h_2) ∧ (x3 = (1000000000000000000 : Int64) → Q (1000000000000000000 : Int64) h))))) :
    OkL (d + 1) mX9_plus S [.ref r0, .long x1, .long x3] h Q := by
  refine Ok.of (by decide) (Nat.le_of_ble_eq_true rfl) ?_
  refine G_lload_n 1 rfl dX9_plus_0 rfl ?_
  refine G_ldc2 hK_X9_68 dX9_plus_1 ?_
  refine G_lif_eq (tgt := 16) dX9_plus_4 dX9_plus_5 (by decide) (fun c1 => ?_) (fun c1 => ?_)
  · have w := w.1 c1
    refine G_ldc2 hK_X9_68 dX9_plus_16 ?_
    exact G_lret rfl dX9_plus_19 ⟨_, rfl, w⟩
  · have w := w.2 c1
    refine G_lload_n 2 rfl dX9_plus_8 rfl ?_
    refine G_ldc2 hK_X9_68 dX9_plus_9 ?_
    refine G_lif_ne (tgt := 20) dX9_plus_12 dX9_plus_13 (by decide) (fun c2 => ?_) (fun c2 => ?_)
    · have w := w.1 c2
      refine G_aload_n 0 rfl dX9_plus_20 rfl ?_
      refine G_getr (j := r0_ratio) (k := 0) hs1 (q := (RX9, TX9, 5)) rfl inX9 (by decide) rfl hF_X9_12 dX9_plus_21 ?_
      refine G_lload_n 1 rfl dX9_plus_24 rfl ?_
      refine G_lload_n 2 rfl dX9_plus_25 rfl ?_
      refine G_ladd dX9_plus_26 ?_
      refine G_lconst (v := 1) dX9_plus_27 (by decide) ?_
      refine G_iconst (v := 0) dX9_plus_28 (by decide) ?_
      obtain ⟨Q1, ok1, w⟩ := w
      refine G_callV (Z := mX3_hold) (As := [.long (x1 + x3), .long (1 : Int64), .int (0 : Int32)]) (st := []) hL_X9_70 hI_X3_hold hS_X3_hold hC_X3_hold hN_X3 nX3_hold (by decide) hs2 rfl rfl rfl (Nat.le_of_ble_eq_true rfl) dX9_plus_29 ok1 (fun r_ h_1 z_ => ?_)
      obtain ⟨rfl, q_1⟩ := z_
      have w := w h_1 q_1
      refine G_aload_n 0 rfl dX9_plus_32 rfl ?_
      refine G_getr (j := r0_rounding) (k := 1) hs1 (q := (RX9, TX9, 5)) rfl inX9 (by decide) rfl hF_X9_21 dX9_plus_33 ?_
      refine G_aload_n 0 rfl dX9_plus_36 rfl ?_
      refine G_getr (j := r0_ratio) (k := 0) hs1 (q := (RX9, TX9, 5)) rfl inX9 (by decide) rfl hF_X9_12 dX9_plus_37 ?_
      obtain ⟨Q2, ok2, w⟩ := w
      refine G_callV (Z := mX4_of) (As := [.ref r0_ratio]) (st := []) hL_X9_74 hI_X4_of hS_X4_of hC_X4_of hN_X4 nX4_of (by decide) hs3 rfl rfl rfl (Nat.le_of_ble_eq_true rfl) dX9_plus_40 ok2 (fun r_ h_2 z_ => ?_)
      obtain ⟨v_2, rfl, q_2⟩ := z_
      have w := w v_2 h_2 q_2
      exact G_lret rfl dX9_plus_43 ⟨_, rfl, w⟩
    · have w := w.2 c2
      refine G_ldc2 hK_X9_68 dX9_plus_16 ?_
      exact G_lret rfl dX9_plus_19 ⟨_, rfl, w⟩
-- LostDigits$Sums.less
theorem dX9_less_0 : decode cX9_less 0 = .ok (.lload_n 3, 1) := by decide +kernel
theorem dX9_less_1 : decode cX9_less 1 = .ok (.ldc2_w 68, 3) := by decide +kernel
theorem dX9_less_4 : decode cX9_less 4 = .ok (.lcmp, 1) := by decide +kernel
theorem dX9_less_5 : decode cX9_less 5 = .ok (.ifCond .ne 9, 3) := by decide +kernel
theorem dX9_less_8 : decode cX9_less 8 = .ok (.ldc2_w 68, 3) := by decide +kernel
theorem dX9_less_11 : decode cX9_less 11 = .ok (.goto 10, 3) := by decide +kernel
theorem dX9_less_14 : decode cX9_less 14 = .ok (.aload_n 0, 1) := by decide +kernel
theorem dX9_less_15 : decode cX9_less 15 = .ok (.lload_n 1, 1) := by decide +kernel
theorem dX9_less_16 : decode cX9_less 16 = .ok (.lload_n 3, 1) := by decide +kernel
theorem dX9_less_17 : decode cX9_less 17 = .ok (.lneg, 1) := by decide +kernel
theorem dX9_less_18 : decode cX9_less 18 = .ok (.invokevirtual 78, 3) := by decide +kernel
theorem dX9_less_21 : decode cX9_less 21 = .ok (.lreturn, 1) := by decide +kernel
set_option maxRecDepth 10000 in
theorem NX9_less_0 {d : Nat} {S : fW} {h : fH} {Q : Int64 → fH → Prop} {r0 : Nat} {x1 : Int64} {x3 : Int64} {r0_ratio r0_rounding r0_terms r0_sizes : Nat}  
    (hs1 : (r0, shX9 r0_ratio r0_rounding r0_terms r0_sizes) ∈ S)
    (w : ((¬ x3 = (1000000000000000000 : Int64) → ∃ Q1 : Int64 → fH → Prop, OkL d mX9_plus S [.ref r0, .long x1, .long (-x3)] h Q1 ∧ ∀ (v_1 : Int64) (h_1 : fH), Q1 v_1 h_1 → Q v_1 h_1) ∧ (x3 = (1000000000000000000 : Int64) → Q (1000000000000000000 : Int64) h))) :
    OkL (d + 1) mX9_less S [.ref r0, .long x1, .long x3] h Q := by
  refine Ok.of (by decide) (Nat.le_of_ble_eq_true rfl) ?_
  refine G_lload_n 2 rfl dX9_less_0 rfl ?_
  refine G_ldc2 hK_X9_68 dX9_less_1 ?_
  refine G_lif_ne (tgt := 14) dX9_less_4 dX9_less_5 (by decide) (fun c1 => ?_) (fun c1 => ?_)
  · have w := w.1 c1
    refine G_aload_n 0 rfl dX9_less_14 rfl ?_
    refine G_lload_n 1 rfl dX9_less_15 rfl ?_
    refine G_lload_n 2 rfl dX9_less_16 rfl ?_
    refine G_lneg dX9_less_17 ?_
    obtain ⟨Q1, ok1, w⟩ := w
    refine G_callV (Z := mX9_plus) (As := [.long x1, .long (-x3)]) (st := []) hL_X9_78 hI_X9_plus hS_X9_plus hC_X9_plus hN_X9 nX9_plus (by decide) hs1 rfl rfl rfl (Nat.le_of_ble_eq_true rfl) dX9_less_18 ok1 (fun r_ h_1 z_ => ?_)
    obtain ⟨v_1, rfl, q_1⟩ := z_
    have w := w v_1 h_1 q_1
    exact G_lret rfl dX9_less_21 ⟨_, rfl, w⟩
  · have w := w.2 c1
    refine G_ldc2 hK_X9_68 dX9_less_8 ?_
    refine G_goto (tgt := 21) dX9_less_11 (by decide) ?_
    exact G_lret rfl dX9_less_21 ⟨_, rfl, w⟩
-- LostDigits$Sums.whole
theorem dX9_whole_0 : decode cX9_whole 0 = .ok (.lconst 0, 1) := by decide +kernel
theorem dX9_whole_1 : decode cX9_whole 1 = .ok (.lstore_n 1, 1) := by decide +kernel
theorem dX9_whole_2 : decode cX9_whole 2 = .ok (.iconst 0, 1) := by decide +kernel
theorem dX9_whole_3 : decode cX9_whole 3 = .ok (.istore_n 3, 1) := by decide +kernel
theorem dX9_whole_4 : decode cX9_whole 4 = .ok (.iload_n 3, 1) := by decide +kernel
theorem dX9_whole_5 : decode cX9_whole 5 = .ok (.aload_n 0, 1) := by decide +kernel
theorem dX9_whole_6 : decode cX9_whole 6 = .ok (.getfield 33, 3) := by decide +kernel
theorem dX9_whole_9 : decode cX9_whole 9 = .ok (.if_icmp .ge 18, 3) := by decide +kernel
theorem dX9_whole_12 : decode cX9_whole 12 = .ok (.lload_n 1, 1) := by decide +kernel
theorem dX9_whole_13 : decode cX9_whole 13 = .ok (.aload_n 0, 1) := by decide +kernel
theorem dX9_whole_14 : decode cX9_whole 14 = .ok (.getfield 25, 3) := by decide +kernel
theorem dX9_whole_17 : decode cX9_whole 17 = .ok (.iload_n 3, 1) := by decide +kernel
theorem dX9_whole_18 : decode cX9_whole 18 = .ok (.laload, 1) := by decide +kernel
theorem dX9_whole_19 : decode cX9_whole 19 = .ok (.ladd, 1) := by decide +kernel
theorem dX9_whole_20 : decode cX9_whole 20 = .ok (.lstore_n 1, 1) := by decide +kernel
theorem dX9_whole_21 : decode cX9_whole 21 = .ok (.iinc 3 1, 3) := by decide +kernel
theorem dX9_whole_24 : decode cX9_whole 24 = .ok (.goto (-20), 3) := by decide +kernel
theorem dX9_whole_27 : decode cX9_whole 27 = .ok (.lload_n 1, 1) := by decide +kernel
theorem dX9_whole_28 : decode cX9_whole 28 = .ok (.lreturn, 1) := by decide +kernel
set_option maxRecDepth 10000 in
theorem NX9_whole_0 {d : Nat} {S : fW} {h : fH} {Q : Int64 → fH → Prop} {r0 : Nat}  
    (w : G mX9_whole d S (f_PL Q) 4 [(0, .ref r0), (1, .long (0 : Int64)), (3, .int (0 : Int32))] [] h) :
    OkL d mX9_whole S [.ref r0] h Q := by
  refine Ok.of (by decide) (Nat.le_of_ble_eq_true rfl) ?_
  refine G_lconst (v := 0) dX9_whole_0 (by decide) ?_
  refine G_lstore_n dX9_whole_1 rfl (by decide) (lv' := [(1, .long (0 : Int64)), (0, .ref r0)]) rfl ?_
  refine G_iconst (v := 0) dX9_whole_2 (by decide) ?_
  refine G_istore_n dX9_whole_3 rfl (by decide) (lv' := [(3, .int (0 : Int32)), (1, .long (0 : Int64)), (0, .ref r0)]) rfl ?_
  exact G_sub [2, 1, 0] rfl w

set_option maxRecDepth 10000 in
theorem NX9_whole_4 {d : Nat} {S : fW} {h : fH} {Q : Int64 → fH → Prop} {r0 : Nat} {x1 : Int64} {x3 : Int32} {r0_ratio r0_rounding r0_terms r0_sizes : Nat}  
    (hs1 : (r0, shX9 r0_ratio r0_rounding r0_terms r0_sizes) ∈ S)
    (hs2 : (r0_terms, shJ 7) ∈ S)
    (w : (((h.1 r0 4) ≤ x3 → Q x1 h) ∧ (¬ (h.1 r0 4) ≤ x3 → vp_in x3 7 ∧ G mX9_whole d S (f_PL Q) 4 [(0, .ref r0), (1, .long (x1 + (h.2.2.2 r0_terms x3.toNatClampNeg))), (3, .int (x3 + 1))] [] h))) :
    G mX9_whole d S (f_PL Q) 4 [(0, .ref r0), (1, .long x1), (3, .int x3)] [] h := by
  refine G_iload_n 2 rfl dX9_whole_4 rfl ?_
  refine G_aload_n 0 rfl dX9_whole_5 rfl ?_
  refine G_geti (k := 4) hs1 (q := (RX9, TX9, 5)) rfl inX9 (by decide) (Or.inl rfl) hF_X9_33 dX9_whole_6 ?_
  refine G_icmp_ge (tgt := 27) dX9_whole_9 (by decide) (fun c1 => ?_) (fun c1 => ?_)
  · have w := w.1 c1
    refine G_lload_n 1 rfl dX9_whole_27 rfl ?_
    exact G_lret rfl dX9_whole_28 ⟨_, rfl, w⟩
  · have w := w.2 c1
    refine G_lload_n 1 rfl dX9_whole_12 rfl ?_
    refine G_aload_n 0 rfl dX9_whole_13 rfl ?_
    refine G_getr (j := r0_terms) (k := 2) hs1 (q := (RX9, TX9, 5)) rfl inX9 (by decide) rfl hF_X9_25 dX9_whole_14 ?_
    refine G_iload_n 2 rfl dX9_whole_17 rfl ?_
    obtain ⟨sd1, w⟩ := w
    refine G_lald hs2 sd1 dX9_whole_18 ?_
    refine G_ladd dX9_whole_19 ?_
    refine G_lstore_n dX9_whole_20 rfl (by decide) (lv' := [(1, .long (x1 + (h.2.2.2 r0_terms x3.toNatClampNeg))), (0, .ref r0), (3, .int x3)]) rfl ?_
    refine G_iinc (v := 1) 2 rfl dX9_whole_21 (by decide) (by decide) (lv' := [(3, .int (x3 + 1)), (1, .long (x1 + (h.2.2.2 r0_terms x3.toNatClampNeg))), (0, .ref r0)]) rfl ?_
    refine G_goto (tgt := 4) dX9_whole_24 (by decide) ?_
    exact G_sub [2, 1, 0] rfl w
-- LostDigits$Sums.asTold
theorem dX9_asTold_0 : decode cX9_asTold 0 = .ok (.aload_n 0, 1) := by decide +kernel
theorem dX9_asTold_1 : decode cX9_asTold 1 = .ok (.getfield 25, 3) := by decide +kernel
theorem dX9_asTold_4 : decode cX9_asTold 4 = .ok (.iconst 0, 1) := by decide +kernel
theorem dX9_asTold_5 : decode cX9_asTold 5 = .ok (.laload, 1) := by decide +kernel
theorem dX9_asTold_6 : decode cX9_asTold 6 = .ok (.lstore_n 1, 1) := by decide +kernel
theorem dX9_asTold_7 : decode cX9_asTold 7 = .ok (.iconst 1, 1) := by decide +kernel
theorem dX9_asTold_8 : decode cX9_asTold 8 = .ok (.istore_n 3, 1) := by decide +kernel
theorem dX9_asTold_9 : decode cX9_asTold 9 = .ok (.iload_n 3, 1) := by decide +kernel
theorem dX9_asTold_10 : decode cX9_asTold 10 = .ok (.aload_n 0, 1) := by decide +kernel
theorem dX9_asTold_11 : decode cX9_asTold 11 = .ok (.getfield 33, 3) := by decide +kernel
theorem dX9_asTold_14 : decode cX9_asTold 14 = .ok (.if_icmp .ge 21, 3) := by decide +kernel
theorem dX9_asTold_17 : decode cX9_asTold 17 = .ok (.aload_n 0, 1) := by decide +kernel
theorem dX9_asTold_18 : decode cX9_asTold 18 = .ok (.lload_n 1, 1) := by decide +kernel
theorem dX9_asTold_19 : decode cX9_asTold 19 = .ok (.aload_n 0, 1) := by decide +kernel
theorem dX9_asTold_20 : decode cX9_asTold 20 = .ok (.getfield 25, 3) := by decide +kernel
theorem dX9_asTold_23 : decode cX9_asTold 23 = .ok (.iload_n 3, 1) := by decide +kernel
theorem dX9_asTold_24 : decode cX9_asTold 24 = .ok (.laload, 1) := by decide +kernel
theorem dX9_asTold_25 : decode cX9_asTold 25 = .ok (.invokevirtual 78, 3) := by decide +kernel
theorem dX9_asTold_28 : decode cX9_asTold 28 = .ok (.lstore_n 1, 1) := by decide +kernel
theorem dX9_asTold_29 : decode cX9_asTold 29 = .ok (.iinc 3 1, 3) := by decide +kernel
theorem dX9_asTold_32 : decode cX9_asTold 32 = .ok (.goto (-23), 3) := by decide +kernel
theorem dX9_asTold_35 : decode cX9_asTold 35 = .ok (.lload_n 1, 1) := by decide +kernel
theorem dX9_asTold_36 : decode cX9_asTold 36 = .ok (.lreturn, 1) := by decide +kernel
set_option maxRecDepth 10000 in
theorem NX9_asTold_0 {d : Nat} {S : fW} {h : fH} {Q : Int64 → fH → Prop} {r0 : Nat} {r0_ratio r0_rounding r0_terms r0_sizes : Nat}  
    (hs1 : (r0, shX9 r0_ratio r0_rounding r0_terms r0_sizes) ∈ S)
    (hs2 : (r0_terms, shJ 7) ∈ S)
    (w : vp_in (0 : Int32) 7 ∧ G mX9_asTold (d + 1) S (f_PL Q) 9 [(0, .ref r0), (1, .long (h.2.2.2 r0_terms (0 : Int32).toNatClampNeg)), (3, .int (1 : Int32))] [] h) :
    OkL (d + 1) mX9_asTold S [.ref r0] h Q := by
  refine Ok.of (by decide) (Nat.le_of_ble_eq_true rfl) ?_
  refine G_aload_n 0 rfl dX9_asTold_0 rfl ?_
  refine G_getr (j := r0_terms) (k := 2) hs1 (q := (RX9, TX9, 5)) rfl inX9 (by decide) rfl hF_X9_25 dX9_asTold_1 ?_
  refine G_iconst (v := 0) dX9_asTold_4 (by decide) ?_
  obtain ⟨sd1, w⟩ := w
  refine G_lald hs2 sd1 dX9_asTold_5 ?_
  refine G_lstore_n dX9_asTold_6 rfl (by decide) (lv' := [(1, .long (h.2.2.2 r0_terms (0 : Int32).toNatClampNeg)), (0, .ref r0)]) rfl ?_
  refine G_iconst (v := 1) dX9_asTold_7 (by decide) ?_
  refine G_istore_n dX9_asTold_8 rfl (by decide) (lv' := [(3, .int (1 : Int32)), (1, .long (h.2.2.2 r0_terms (0 : Int32).toNatClampNeg)), (0, .ref r0)]) rfl ?_
  exact G_sub [2, 1, 0] rfl w

set_option maxRecDepth 10000 in
theorem NX9_asTold_9 {d : Nat} {S : fW} {h : fH} {Q : Int64 → fH → Prop} {r0 : Nat} {x1 : Int64} {x3 : Int32} {r0_ratio r0_rounding r0_terms r0_sizes : Nat}  
    (hs1 : (r0, shX9 r0_ratio r0_rounding r0_terms r0_sizes) ∈ S)
    (hs2 : (r0_terms, shJ 7) ∈ S)
    (w : (((h.1 r0 4) ≤ x3 → Q x1 h) ∧ (¬ (h.1 r0 4) ≤ x3 → vp_in x3 7 ∧ ∃ Q1 : Int64 → fH → Prop, OkL d mX9_plus S [.ref r0, .long x1, .long (h.2.2.2 r0_terms x3.toNatClampNeg)] h Q1 ∧ ∀ (v_1 : Int64) (h_1 : fH), Q1 v_1 h_1 → G mX9_asTold (d + 1) S (f_PL Q) 9 [(0, .ref r0), (1, .long v_1), (3, .int (x3 + 1))] [] h_1))) :
    G mX9_asTold (d + 1) S (f_PL Q) 9 [(0, .ref r0), (1, .long x1), (3, .int x3)] [] h := by
  refine G_iload_n 2 rfl dX9_asTold_9 rfl ?_
  refine G_aload_n 0 rfl dX9_asTold_10 rfl ?_
  refine G_geti (k := 4) hs1 (q := (RX9, TX9, 5)) rfl inX9 (by decide) (Or.inl rfl) hF_X9_33 dX9_asTold_11 ?_
  refine G_icmp_ge (tgt := 35) dX9_asTold_14 (by decide) (fun c1 => ?_) (fun c1 => ?_)
  · have w := w.1 c1
    refine G_lload_n 1 rfl dX9_asTold_35 rfl ?_
    exact G_lret rfl dX9_asTold_36 ⟨_, rfl, w⟩
  · have w := w.2 c1
    refine G_aload_n 0 rfl dX9_asTold_17 rfl ?_
    refine G_lload_n 1 rfl dX9_asTold_18 rfl ?_
    refine G_aload_n 0 rfl dX9_asTold_19 rfl ?_
    refine G_getr (j := r0_terms) (k := 2) hs1 (q := (RX9, TX9, 5)) rfl inX9 (by decide) rfl hF_X9_25 dX9_asTold_20 ?_
    refine G_iload_n 2 rfl dX9_asTold_23 rfl ?_
    obtain ⟨sd1, w⟩ := w
    refine G_lald hs2 sd1 dX9_asTold_24 ?_
    obtain ⟨Q1, ok1, w⟩ := w
    refine G_callV (Z := mX9_plus) (As := [.long x1, .long (h.2.2.2 r0_terms x3.toNatClampNeg)]) (st := []) hL_X9_78 hI_X9_plus hS_X9_plus hC_X9_plus hN_X9 nX9_plus (by decide) hs1 rfl rfl rfl (Nat.le_of_ble_eq_true rfl) dX9_asTold_25 ok1 (fun r_ h_1 z_ => ?_)
    obtain ⟨v_1, rfl, q_1⟩ := z_
    have w := w v_1 h_1 q_1
    refine G_lstore_n dX9_asTold_28 rfl (by decide) (lv' := [(1, .long v_1), (0, .ref r0), (3, .int x3)]) rfl ?_
    refine G_iinc (v := 1) 2 rfl dX9_asTold_29 (by decide) (by decide) (lv' := [(3, .int (x3 + 1)), (1, .long v_1), (0, .ref r0)]) rfl ?_
    refine G_goto (tgt := 9) dX9_asTold_32 (by decide) ?_
    exact G_sub [2, 1, 0] rfl w
-- LostDigits$Sums.beside
theorem dX9_beside_0 : decode cX9_beside 0 = .ok (.lconst 0, 1) := by decide +kernel
theorem dX9_beside_1 : decode cX9_beside 1 = .ok (.lstore_n 1, 1) := by decide +kernel
theorem dX9_beside_2 : decode cX9_beside 2 = .ok (.lconst 0, 1) := by decide +kernel
theorem dX9_beside_3 : decode cX9_beside 3 = .ok (.lstore_n 3, 1) := by decide +kernel
theorem dX9_beside_4 : decode cX9_beside 4 = .ok (.iconst 0, 1) := by decide +kernel
theorem dX9_beside_5 : decode cX9_beside 5 = .ok (.istore 5, 2) := by decide +kernel
theorem dX9_beside_7 : decode cX9_beside 7 = .ok (.iload 5, 2) := by decide +kernel
theorem dX9_beside_9 : decode cX9_beside 9 = .ok (.aload_n 0, 1) := by decide +kernel
theorem dX9_beside_10 : decode cX9_beside 10 = .ok (.getfield 33, 3) := by decide +kernel
theorem dX9_beside_13 : decode cX9_beside 13 = .ok (.if_icmp .ge 61, 3) := by decide +kernel
theorem dX9_beside_16 : decode cX9_beside 16 = .ok (.aload_n 0, 1) := by decide +kernel
theorem dX9_beside_17 : decode cX9_beside 17 = .ok (.aload_n 0, 1) := by decide +kernel
theorem dX9_beside_18 : decode cX9_beside 18 = .ok (.getfield 25, 3) := by decide +kernel
theorem dX9_beside_21 : decode cX9_beside 21 = .ok (.iload 5, 2) := by decide +kernel
theorem dX9_beside_23 : decode cX9_beside 23 = .ok (.laload, 1) := by decide +kernel
theorem dX9_beside_24 : decode cX9_beside 24 = .ok (.lload_n 3, 1) := by decide +kernel
theorem dX9_beside_25 : decode cX9_beside 25 = .ok (.invokevirtual 82, 3) := by decide +kernel
theorem dX9_beside_28 : decode cX9_beside 28 = .ok (.lstore 6, 2) := by decide +kernel
theorem dX9_beside_30 : decode cX9_beside 30 = .ok (.aload_n 0, 1) := by decide +kernel
theorem dX9_beside_31 : decode cX9_beside 31 = .ok (.lload_n 1, 1) := by decide +kernel
theorem dX9_beside_32 : decode cX9_beside 32 = .ok (.lload 6, 2) := by decide +kernel
theorem dX9_beside_34 : decode cX9_beside 34 = .ok (.invokevirtual 78, 3) := by decide +kernel
theorem dX9_beside_37 : decode cX9_beside 37 = .ok (.lstore 8, 2) := by decide +kernel
theorem dX9_beside_39 : decode cX9_beside 39 = .ok (.aload_n 0, 1) := by decide +kernel
theorem dX9_beside_40 : decode cX9_beside 40 = .ok (.aload_n 0, 1) := by decide +kernel
theorem dX9_beside_41 : decode cX9_beside 41 = .ok (.lload 8, 2) := by decide +kernel
theorem dX9_beside_43 : decode cX9_beside 43 = .ok (.lload_n 1, 1) := by decide +kernel
theorem dX9_beside_44 : decode cX9_beside 44 = .ok (.invokevirtual 82, 3) := by decide +kernel
theorem dX9_beside_47 : decode cX9_beside 47 = .ok (.lload 6, 2) := by decide +kernel
theorem dX9_beside_49 : decode cX9_beside 49 = .ok (.invokevirtual 82, 3) := by decide +kernel
theorem dX9_beside_52 : decode cX9_beside 52 = .ok (.lstore_n 3, 1) := by decide +kernel
theorem dX9_beside_53 : decode cX9_beside 53 = .ok (.lload 8, 2) := by decide +kernel
theorem dX9_beside_55 : decode cX9_beside 55 = .ok (.lstore_n 1, 1) := by decide +kernel
theorem dX9_beside_56 : decode cX9_beside 56 = .ok (.lload_n 3, 1) := by decide +kernel
theorem dX9_beside_57 : decode cX9_beside 57 = .ok (.ldc2_w 68, 3) := by decide +kernel
theorem dX9_beside_60 : decode cX9_beside 60 = .ok (.lcmp, 1) := by decide +kernel
theorem dX9_beside_61 : decode cX9_beside 61 = .ok (.ifCond .ne 7, 3) := by decide +kernel
theorem dX9_beside_64 : decode cX9_beside 64 = .ok (.ldc2_w 68, 3) := by decide +kernel
theorem dX9_beside_67 : decode cX9_beside 67 = .ok (.lreturn, 1) := by decide +kernel
theorem dX9_beside_68 : decode cX9_beside 68 = .ok (.iinc 5 1, 3) := by decide +kernel
theorem dX9_beside_71 : decode cX9_beside 71 = .ok (.goto (-64), 3) := by decide +kernel
theorem dX9_beside_74 : decode cX9_beside 74 = .ok (.lload_n 1, 1) := by decide +kernel
theorem dX9_beside_75 : decode cX9_beside 75 = .ok (.lreturn, 1) := by decide +kernel
set_option maxRecDepth 10000 in
theorem NX9_beside_0 {d : Nat} {S : fW} {h : fH} {Q : Int64 → fH → Prop} {r0 : Nat}  
    (w : G mX9_beside (d + 1) S (f_PL Q) 7 [(0, .ref r0), (1, .long (0 : Int64)), (3, .long (0 : Int64)), (5, .int (0 : Int32))] [] h) :
    OkL (d + 1) mX9_beside S [.ref r0] h Q := by
  refine Ok.of (by decide) (Nat.le_of_ble_eq_true rfl) ?_
  refine G_lconst (v := 0) dX9_beside_0 (by decide) ?_
  refine G_lstore_n dX9_beside_1 rfl (by decide) (lv' := [(1, .long (0 : Int64)), (0, .ref r0)]) rfl ?_
  refine G_lconst (v := 0) dX9_beside_2 (by decide) ?_
  refine G_lstore_n dX9_beside_3 rfl (by decide) (lv' := [(3, .long (0 : Int64)), (1, .long (0 : Int64)), (0, .ref r0)]) rfl ?_
  refine G_iconst (v := 0) dX9_beside_4 (by decide) ?_
  refine G_istore dX9_beside_5 (by decide) (lv' := [(5, .int (0 : Int32)), (3, .long (0 : Int64)), (1, .long (0 : Int64)), (0, .ref r0)]) rfl ?_
  exact G_sub [3, 2, 1, 0] rfl w

set_option maxRecDepth 10000 in
theorem NX9_beside_7 {d : Nat} {S : fW} {h : fH} {Q : Int64 → fH → Prop} {r0 : Nat} {x1 : Int64} {x3 : Int64} {x5 : Int32} {r0_ratio r0_rounding r0_terms r0_sizes : Nat}  
    (hs1 : (r0, shX9 r0_ratio r0_rounding r0_terms r0_sizes) ∈ S)
    (hs2 : (r0_terms, shJ 7) ∈ S)
    (w : (((h.1 r0 4) ≤ x5 → Q x1 h) ∧ (¬ (h.1 r0 4) ≤ x5 → vp_in x5 7 ∧ ∃ Q1 : Int64 → fH → Prop, OkL d mX9_less S [.ref r0, .long (h.2.2.2 r0_terms x5.toNatClampNeg), .long x3] h Q1 ∧ ∀ (v_1 : Int64) (h_1 : fH), Q1 v_1 h_1 → ∃ Q2 : Int64 → fH → Prop, OkL d mX9_plus S [.ref r0, .long x1, .long v_1] h_1 Q2 ∧ ∀ (v_2 : Int64) (h_2 : fH), Q2 v_2 h_2 → ∃ Q3 : Int64 → fH → Prop, OkL d mX9_less S [.ref r0, .long v_2, .long x1] h_2 Q3 ∧ ∀ (v_3 : Int64) (h_3 : fH), Q3 v_3 h_3 → ∃ Q4 : Int64 → fH → Prop, OkL d mX9_less S [.ref r0, .long v_3, .long v_1] h_3 Q4 ∧ ∀ (v_4 : Int64) (h_4 : fH), Q4 v_4 h_4 → ((¬ v_4 = (1000000000000000000 : Int64) → G mX9_beside (d + 1) S (f_PL Q) 7 [(0, .ref r0), (1, .long v_2), (3, .long v_4), (5, .int (x5 + 1))] [] h_4) ∧ (v_4 = (1000000000000000000 : Int64) → Q (1000000000000000000 : Int64) h_4))))) :
    G mX9_beside (d + 1) S (f_PL Q) 7 [(0, .ref r0), (1, .long x1), (3, .long x3), (5, .int x5)] [] h := by
  refine G_iload 3 rfl dX9_beside_7 ?_
  refine G_aload_n 0 rfl dX9_beside_9 rfl ?_
  refine G_geti (k := 4) hs1 (q := (RX9, TX9, 5)) rfl inX9 (by decide) (Or.inl rfl) hF_X9_33 dX9_beside_10 ?_
  refine G_icmp_ge (tgt := 74) dX9_beside_13 (by decide) (fun c1 => ?_) (fun c1 => ?_)
  · have w := w.1 c1
    refine G_lload_n 1 rfl dX9_beside_74 rfl ?_
    exact G_lret rfl dX9_beside_75 ⟨_, rfl, w⟩
  · have w := w.2 c1
    refine G_aload_n 0 rfl dX9_beside_16 rfl ?_
    refine G_aload_n 0 rfl dX9_beside_17 rfl ?_
    refine G_getr (j := r0_terms) (k := 2) hs1 (q := (RX9, TX9, 5)) rfl inX9 (by decide) rfl hF_X9_25 dX9_beside_18 ?_
    refine G_iload 3 rfl dX9_beside_21 ?_
    obtain ⟨sd1, w⟩ := w
    refine G_lald hs2 sd1 dX9_beside_23 ?_
    refine G_lload_n 2 rfl dX9_beside_24 rfl ?_
    obtain ⟨Q1, ok1, w⟩ := w
    refine G_callV (Z := mX9_less) (As := [.long (h.2.2.2 r0_terms x5.toNatClampNeg), .long x3]) (st := []) hL_X9_82 hI_X9_less hS_X9_less hC_X9_less hN_X9 nX9_less (by decide) hs1 rfl rfl rfl (Nat.le_of_ble_eq_true rfl) dX9_beside_25 ok1 (fun r_ h_1 z_ => ?_)
    obtain ⟨v_1, rfl, q_1⟩ := z_
    have w := w v_1 h_1 q_1
    refine G_lstore dX9_beside_28 (by decide) (lv' := [(6, .long v_1), (0, .ref r0), (1, .long x1), (3, .long x3), (5, .int x5)]) rfl ?_
    refine G_aload_n 1 rfl dX9_beside_30 rfl ?_
    refine G_lload_n 2 rfl dX9_beside_31 rfl ?_
    refine G_lload 0 rfl dX9_beside_32 ?_
    obtain ⟨Q2, ok2, w⟩ := w
    refine G_callV (Z := mX9_plus) (As := [.long x1, .long v_1]) (st := []) hL_X9_78 hI_X9_plus hS_X9_plus hC_X9_plus hN_X9 nX9_plus (by decide) hs1 rfl rfl rfl (Nat.le_of_ble_eq_true rfl) dX9_beside_34 ok2 (fun r_ h_2 z_ => ?_)
    obtain ⟨v_2, rfl, q_2⟩ := z_
    have w := w v_2 h_2 q_2
    refine G_lstore dX9_beside_37 (by decide) (lv' := [(8, .long v_2), (6, .long v_1), (0, .ref r0), (1, .long x1), (3, .long x3), (5, .int x5)]) rfl ?_
    refine G_aload_n 2 rfl dX9_beside_39 rfl ?_
    refine G_aload_n 2 rfl dX9_beside_40 rfl ?_
    refine G_lload 0 rfl dX9_beside_41 ?_
    refine G_lload_n 3 rfl dX9_beside_43 rfl ?_
    obtain ⟨Q3, ok3, w⟩ := w
    refine G_callV (Z := mX9_less) (As := [.long v_2, .long x1]) (st := [.ref r0]) hL_X9_82 hI_X9_less hS_X9_less hC_X9_less hN_X9 nX9_less (by decide) hs1 rfl rfl rfl (Nat.le_of_ble_eq_true rfl) dX9_beside_44 ok3 (fun r_ h_3 z_ => ?_)
    obtain ⟨v_3, rfl, q_3⟩ := z_
    have w := w v_3 h_3 q_3
    refine G_lload 1 rfl dX9_beside_47 ?_
    obtain ⟨Q4, ok4, w⟩ := w
    refine G_callV (Z := mX9_less) (As := [.long v_3, .long v_1]) (st := []) hL_X9_82 hI_X9_less hS_X9_less hC_X9_less hN_X9 nX9_less (by decide) hs1 rfl rfl rfl (Nat.le_of_ble_eq_true rfl) dX9_beside_49 ok4 (fun r_ h_4 z_ => ?_)
    obtain ⟨v_4, rfl, q_4⟩ := z_
    have w := w v_4 h_4 q_4
    refine G_lstore_n dX9_beside_52 rfl (by decide) (lv' := [(3, .long v_4), (8, .long v_2), (6, .long v_1), (0, .ref r0), (1, .long x1), (5, .int x5)]) rfl ?_
    refine G_lload 1 rfl dX9_beside_53 ?_
    refine G_lstore_n dX9_beside_55 rfl (by decide) (lv' := [(1, .long v_2), (3, .long v_4), (8, .long v_2), (6, .long v_1), (0, .ref r0), (5, .int x5)]) rfl ?_
    refine G_lload_n 1 rfl dX9_beside_56 rfl ?_
    refine G_ldc2 hK_X9_68 dX9_beside_57 ?_
    refine G_lif_ne (tgt := 68) dX9_beside_60 dX9_beside_61 (by decide) (fun c2 => ?_) (fun c2 => ?_)
    · have w := w.1 c2
      refine G_iinc (v := 1) 5 rfl dX9_beside_68 (by decide) (by decide) (lv' := [(5, .int (x5 + 1)), (1, .long v_2), (3, .long v_4), (8, .long v_2), (6, .long v_1), (0, .ref r0)]) rfl ?_
      refine G_goto (tgt := 7) dX9_beside_71 (by decide) ?_
      exact G_sub [5, 1, 2, 0] rfl w
    · have w := w.2 c2
      refine G_ldc2 hK_X9_68 dX9_beside_64 ?_
      exact G_lret rfl dX9_beside_67 ⟨_, rfl, w⟩
-- LostDigits$Sums.halves
theorem dX9_halves_0 : decode cX9_halves 0 = .ok (.aload_n 0, 1) := by decide +kernel
theorem dX9_halves_1 : decode cX9_halves 1 = .ok (.iconst 0, 1) := by decide +kernel
theorem dX9_halves_2 : decode cX9_halves 2 = .ok (.aload_n 0, 1) := by decide +kernel
theorem dX9_halves_3 : decode cX9_halves 3 = .ok (.getfield 33, 3) := by decide +kernel
theorem dX9_halves_6 : decode cX9_halves 6 = .ok (.iconst 0, 1) := by decide +kernel
theorem dX9_halves_7 : decode cX9_halves 7 = .ok (.invokevirtual 85, 3) := by decide +kernel
theorem dX9_halves_10 : decode cX9_halves 10 = .ok (.lreturn, 1) := by decide +kernel
set_option maxRecDepth 10000 in
theorem NX9_halves_0 {d : Nat} {S : fW} {h : fH} {Q : Int64 → fH → Prop} {r0 : Nat} {r0_ratio r0_rounding r0_terms r0_sizes : Nat}  
    (hs1 : (r0, shX9 r0_ratio r0_rounding r0_terms r0_sizes) ∈ S)
    (w : ∃ Q1 : Int64 → fH → Prop, OkL d mX9_halfSum S [.ref r0, .int (0 : Int32), .int (h.1 r0 4), .int (0 : Int32)] h Q1 ∧ ∀ (v_1 : Int64) (h_1 : fH), Q1 v_1 h_1 → Q v_1 h_1) :
    OkL (d + 1) mX9_halves S [.ref r0] h Q := by
  refine Ok.of (by decide) (Nat.le_of_ble_eq_true rfl) ?_
  refine G_aload_n 0 rfl dX9_halves_0 rfl ?_
  refine G_iconst (v := 0) dX9_halves_1 (by decide) ?_
  refine G_aload_n 0 rfl dX9_halves_2 rfl ?_
  refine G_geti (k := 4) hs1 (q := (RX9, TX9, 5)) rfl inX9 (by decide) (Or.inl rfl) hF_X9_33 dX9_halves_3 ?_
  refine G_iconst (v := 0) dX9_halves_6 (by decide) ?_
  obtain ⟨Q1, ok1, w⟩ := w
  refine G_callV (Z := mX9_halfSum) (As := [.int (0 : Int32), .int (h.1 r0 4), .int (0 : Int32)]) (st := []) hL_X9_85 hI_X9_halfSum hS_X9_halfSum hC_X9_halfSum hN_X9 nX9_halfSum (by decide) hs1 rfl rfl rfl (Nat.le_of_ble_eq_true rfl) dX9_halves_7 ok1 (fun r_ h_1 z_ => ?_)
  obtain ⟨v_1, rfl, q_1⟩ := z_
  have w := w v_1 h_1 q_1
  exact G_lret rfl dX9_halves_10 ⟨_, rfl, w⟩
-- LostDigits$Sums.halfSum
theorem dX9_halfSum_0 : decode cX9_halfSum 0 = .ok (.iload_n 2, 1) := by decide +kernel
theorem dX9_halfSum_1 : decode cX9_halfSum 1 = .ok (.iload_n 1, 1) := by decide +kernel
theorem dX9_halfSum_2 : decode cX9_halfSum 2 = .ok (.isub, 1) := by decide +kernel
theorem dX9_halfSum_3 : decode cX9_halfSum 3 = .ok (.istore 4, 2) := by decide +kernel
theorem dX9_halfSum_5 : decode cX9_halfSum 5 = .ok (.iload_n 1, 1) := by decide +kernel
theorem dX9_halfSum_6 : decode cX9_halfSum 6 = .ok (.ifCond .lt 23, 3) := by decide +kernel
theorem dX9_halfSum_9 : decode cX9_halfSum 9 = .ok (.iload_n 2, 1) := by decide +kernel
theorem dX9_halfSum_10 : decode cX9_halfSum 10 = .ok (.aload_n 0, 1) := by decide +kernel
theorem dX9_halfSum_11 : decode cX9_halfSum 11 = .ok (.getfield 33, 3) := by decide +kernel
theorem dX9_halfSum_14 : decode cX9_halfSum 14 = .ok (.if_icmp .gt 15, 3) := by decide +kernel
theorem dX9_halfSum_17 : decode cX9_halfSum 17 = .ok (.iload 4, 2) := by decide +kernel
theorem dX9_halfSum_19 : decode cX9_halfSum 19 = .ok (.iconst 1, 1) := by decide +kernel
theorem dX9_halfSum_20 : decode cX9_halfSum 20 = .ok (.if_icmp .lt 9, 3) := by decide +kernel
theorem dX9_halfSum_23 : decode cX9_halfSum 23 = .ok (.iload_n 3, 1) := by decide +kernel
theorem dX9_halfSum_24 : decode cX9_halfSum 24 = .ok (.bipush 7, 2) := by decide +kernel
theorem dX9_halfSum_26 : decode cX9_halfSum 26 = .ok (.if_icmp .le 5, 3) := by decide +kernel
theorem dX9_halfSum_29 : decode cX9_halfSum 29 = .ok (.lconst 0, 1) := by decide +kernel
theorem dX9_halfSum_30 : decode cX9_halfSum 30 = .ok (.lreturn, 1) := by decide +kernel
theorem dX9_halfSum_31 : decode cX9_halfSum 31 = .ok (.iload 4, 2) := by decide +kernel
theorem dX9_halfSum_33 : decode cX9_halfSum 33 = .ok (.iconst 1, 1) := by decide +kernel
theorem dX9_halfSum_34 : decode cX9_halfSum 34 = .ok (.if_icmp .ne 10, 3) := by decide +kernel
theorem dX9_halfSum_37 : decode cX9_halfSum 37 = .ok (.aload_n 0, 1) := by decide +kernel
theorem dX9_halfSum_38 : decode cX9_halfSum 38 = .ok (.getfield 25, 3) := by decide +kernel
theorem dX9_halfSum_41 : decode cX9_halfSum 41 = .ok (.iload_n 1, 1) := by decide +kernel
theorem dX9_halfSum_42 : decode cX9_halfSum 42 = .ok (.laload, 1) := by decide +kernel
theorem dX9_halfSum_43 : decode cX9_halfSum 43 = .ok (.lreturn, 1) := by decide +kernel
theorem dX9_halfSum_44 : decode cX9_halfSum 44 = .ok (.iload_n 1, 1) := by decide +kernel
theorem dX9_halfSum_45 : decode cX9_halfSum 45 = .ok (.iload 4, 2) := by decide +kernel
theorem dX9_halfSum_47 : decode cX9_halfSum 47 = .ok (.iconst 1, 1) := by decide +kernel
theorem dX9_halfSum_48 : decode cX9_halfSum 48 = .ok (.iadd, 1) := by decide +kernel
theorem dX9_halfSum_49 : decode cX9_halfSum 49 = .ok (.iconst 2, 1) := by decide +kernel
theorem dX9_halfSum_50 : decode cX9_halfSum 50 = .ok (.idiv, 1) := by decide +kernel
theorem dX9_halfSum_51 : decode cX9_halfSum 51 = .ok (.iadd, 1) := by decide +kernel
theorem dX9_halfSum_52 : decode cX9_halfSum 52 = .ok (.istore 5, 2) := by decide +kernel
theorem dX9_halfSum_54 : decode cX9_halfSum 54 = .ok (.aload_n 0, 1) := by decide +kernel
theorem dX9_halfSum_55 : decode cX9_halfSum 55 = .ok (.aload_n 0, 1) := by decide +kernel
theorem dX9_halfSum_56 : decode cX9_halfSum 56 = .ok (.iload_n 1, 1) := by decide +kernel
theorem dX9_halfSum_57 : decode cX9_halfSum 57 = .ok (.iload 5, 2) := by decide +kernel
theorem dX9_halfSum_59 : decode cX9_halfSum 59 = .ok (.iload_n 3, 1) := by decide +kernel
theorem dX9_halfSum_60 : decode cX9_halfSum 60 = .ok (.iconst 1, 1) := by decide +kernel
theorem dX9_halfSum_61 : decode cX9_halfSum 61 = .ok (.iadd, 1) := by decide +kernel
theorem dX9_halfSum_62 : decode cX9_halfSum 62 = .ok (.invokevirtual 85, 3) := by decide +kernel
theorem dX9_halfSum_65 : decode cX9_halfSum 65 = .ok (.aload_n 0, 1) := by decide +kernel
theorem dX9_halfSum_66 : decode cX9_halfSum 66 = .ok (.iload 5, 2) := by decide +kernel
theorem dX9_halfSum_68 : decode cX9_halfSum 68 = .ok (.iload_n 2, 1) := by decide +kernel
theorem dX9_halfSum_69 : decode cX9_halfSum 69 = .ok (.iload_n 3, 1) := by decide +kernel
theorem dX9_halfSum_70 : decode cX9_halfSum 70 = .ok (.iconst 1, 1) := by decide +kernel
theorem dX9_halfSum_71 : decode cX9_halfSum 71 = .ok (.iadd, 1) := by decide +kernel
theorem dX9_halfSum_72 : decode cX9_halfSum 72 = .ok (.invokevirtual 85, 3) := by decide +kernel
theorem dX9_halfSum_75 : decode cX9_halfSum 75 = .ok (.invokevirtual 78, 3) := by decide +kernel
theorem dX9_halfSum_78 : decode cX9_halfSum 78 = .ok (.lreturn, 1) := by decide +kernel
set_option maxRecDepth 10000 in
theorem NX9_halfSum_0 {d : Nat} {S : fW} {h : fH} {Q : Int64 → fH → Prop} {r0 : Nat} {x1 : Int32} {x2 : Int32} {x3 : Int32} {r0_ratio r0_rounding r0_terms r0_sizes : Nat}  
    (hs1 : (r0, shX9 r0_ratio r0_rounding r0_terms r0_sizes) ∈ S)
    (hs2 : (r0_terms, shJ 7) ∈ S)
    (w : ((x1 < 0 → Q (0 : Int64) h) ∧ (¬ x1 < 0 → (((h.1 r0 4) < x2 → Q (0 : Int64) h) ∧ (¬ (h.1 r0 4) < x2 → (((x2 - x1) < (1 : Int32) → Q (0 : Int64) h) ∧ (¬ (x2 - x1) < (1 : Int32) → ((x3 ≤ (7 : Int32) → ((¬ (x2 - x1) = (1 : Int32) → ∃ Q1 : Int64 → fH → Prop, OkL d mX9_halfSum S [.ref r0, .int x1, .int (x1 + (((x2 - x1) + (1 : Int32)) / (2 : Int32))), .int (x3 + (1 : Int32))] h Q1 ∧ ∀ (v_1 : Int64) (h_1 : fH), Q1 v_1 h_1 → ∃ Q2 : Int64 → fH → Prop, OkL d mX9_halfSum S [.ref r0, .int (x1 + (((x2 - x1) + (1 : Int32)) / (2 : Int32))), .int x2, .int (x3 + (1 : Int32))] h_1 Q2 ∧ ∀ (v_2 : Int64) (h_2 : fH), Q2 v_2 h_2 → ∃ Q3 : Int64 → fH → Prop, OkL d mX9_plus S [.ref r0, .long v_1, .long v_2] h_2 Q3 ∧ ∀ (v_3 : Int64) (h_3 : fH), Q3 v_3 h_3 → Q v_3 h_3) ∧ ((x2 - x1) = (1 : Int32) → vp_in x1 7 ∧ Q (h.2.2.2 r0_terms x1.toNatClampNeg) h))) ∧ (¬ x3 ≤ (7 : Int32) → Q (0 : Int64) h))))))))) :
    OkL (d + 1) mX9_halfSum S [.ref r0, .int x1, .int x2, .int x3] h Q := by
  refine Ok.of (by decide) (Nat.le_of_ble_eq_true rfl) ?_
  refine G_iload_n 2 rfl dX9_halfSum_0 rfl ?_
  refine G_iload_n 1 rfl dX9_halfSum_1 rfl ?_
  refine G_isub dX9_halfSum_2 ?_
  refine G_istore dX9_halfSum_3 (by decide) (lv' := [(4, .int (x2 - x1)), (0, .ref r0), (1, .int x1), (2, .int x2), (3, .int x3)]) rfl ?_
  refine G_iload_n 2 rfl dX9_halfSum_5 rfl ?_
  refine G_if_lt (tgt := 29) dX9_halfSum_6 (by decide) (fun c1 => ?_) (fun c1 => ?_)
  · have w := w.1 c1
    refine G_lconst (v := 0) dX9_halfSum_29 (by decide) ?_
    exact G_lret rfl dX9_halfSum_30 ⟨_, rfl, w⟩
  · have w := w.2 c1
    refine G_iload_n 3 rfl dX9_halfSum_9 rfl ?_
    refine G_aload_n 1 rfl dX9_halfSum_10 rfl ?_
    refine G_geti (k := 4) hs1 (q := (RX9, TX9, 5)) rfl inX9 (by decide) (Or.inl rfl) hF_X9_33 dX9_halfSum_11 ?_
    refine G_icmp_gt (tgt := 29) dX9_halfSum_14 (by decide) (fun c2 => ?_) (fun c2 => ?_)
    · have w := w.1 c2
      refine G_lconst (v := 0) dX9_halfSum_29 (by decide) ?_
      exact G_lret rfl dX9_halfSum_30 ⟨_, rfl, w⟩
    · have w := w.2 c2
      refine G_iload 0 rfl dX9_halfSum_17 ?_
      refine G_iconst (v := 1) dX9_halfSum_19 (by decide) ?_
      refine G_icmp_lt (tgt := 29) dX9_halfSum_20 (by decide) (fun c3 => ?_) (fun c3 => ?_)
      · have w := w.1 c3
        refine G_lconst (v := 0) dX9_halfSum_29 (by decide) ?_
        exact G_lret rfl dX9_halfSum_30 ⟨_, rfl, w⟩
      · have w := w.2 c3
        refine G_iload_n 4 rfl dX9_halfSum_23 rfl ?_
        refine G_bipush (v := 7) dX9_halfSum_24 (by decide) ?_
        refine G_icmp_le (tgt := 31) dX9_halfSum_26 (by decide) (fun c4 => ?_) (fun c4 => ?_)
        · have w := w.1 c4
          refine G_iload 0 rfl dX9_halfSum_31 ?_
          refine G_iconst (v := 1) dX9_halfSum_33 (by decide) ?_
          refine G_icmp_ne (tgt := 44) dX9_halfSum_34 (by decide) (fun c5 => ?_) (fun c5 => ?_)
          · have w := w.1 c5
            refine G_iload_n 2 rfl dX9_halfSum_44 rfl ?_
            refine G_iload 0 rfl dX9_halfSum_45 ?_
            refine G_iconst (v := 1) dX9_halfSum_47 (by decide) ?_
            refine G_iadd dX9_halfSum_48 ?_
            refine G_iconst (v := 2) dX9_halfSum_49 (by decide) ?_
            refine G_idiv dX9_halfSum_50 (by decide) ?_
            refine G_iadd dX9_halfSum_51 ?_
            refine G_istore dX9_halfSum_52 (by decide) (lv' := [(5, .int (x1 + (((x2 - x1) + (1 : Int32)) / (2 : Int32)))), (4, .int (x2 - x1)), (0, .ref r0), (1, .int x1), (2, .int x2), (3, .int x3)]) rfl ?_
            refine G_aload_n 2 rfl dX9_halfSum_54 rfl ?_
            refine G_aload_n 2 rfl dX9_halfSum_55 rfl ?_
            refine G_iload_n 3 rfl dX9_halfSum_56 rfl ?_
            refine G_iload 0 rfl dX9_halfSum_57 ?_
            refine G_iload_n 5 rfl dX9_halfSum_59 rfl ?_
            refine G_iconst (v := 1) dX9_halfSum_60 (by decide) ?_
            refine G_iadd dX9_halfSum_61 ?_
            obtain ⟨Q1, ok1, w⟩ := w
            refine G_callV (Z := mX9_halfSum) (As := [.int x1, .int (x1 + (((x2 - x1) + (1 : Int32)) / (2 : Int32))), .int (x3 + (1 : Int32))]) (st := [.ref r0]) hL_X9_85 hI_X9_halfSum hS_X9_halfSum hC_X9_halfSum hN_X9 nX9_halfSum (by decide) hs1 rfl rfl rfl (Nat.le_of_ble_eq_true rfl) dX9_halfSum_62 ok1 (fun r_ h_1 z_ => ?_)
            obtain ⟨v_1, rfl, q_1⟩ := z_
            have w := w v_1 h_1 q_1
            refine G_aload_n 2 rfl dX9_halfSum_65 rfl ?_
            refine G_iload 0 rfl dX9_halfSum_66 ?_
            refine G_iload_n 4 rfl dX9_halfSum_68 rfl ?_
            refine G_iload_n 5 rfl dX9_halfSum_69 rfl ?_
            refine G_iconst (v := 1) dX9_halfSum_70 (by decide) ?_
            refine G_iadd dX9_halfSum_71 ?_
            obtain ⟨Q2, ok2, w⟩ := w
            refine G_callV (Z := mX9_halfSum) (As := [.int (x1 + (((x2 - x1) + (1 : Int32)) / (2 : Int32))), .int x2, .int (x3 + (1 : Int32))]) (st := [.long v_1, .ref r0]) hL_X9_85 hI_X9_halfSum hS_X9_halfSum hC_X9_halfSum hN_X9 nX9_halfSum (by decide) hs1 rfl rfl rfl (Nat.le_of_ble_eq_true rfl) dX9_halfSum_72 ok2 (fun r_ h_2 z_ => ?_)
            obtain ⟨v_2, rfl, q_2⟩ := z_
            have w := w v_2 h_2 q_2
            obtain ⟨Q3, ok3, w⟩ := w
            refine G_callV (Z := mX9_plus) (As := [.long v_1, .long v_2]) (st := []) hL_X9_78 hI_X9_plus hS_X9_plus hC_X9_plus hN_X9 nX9_plus (by decide) hs1 rfl rfl rfl (Nat.le_of_ble_eq_true rfl) dX9_halfSum_75 ok3 (fun r_ h_3 z_ => ?_)
            obtain ⟨v_3, rfl, q_3⟩ := z_
            have w := w v_3 h_3 q_3
            exact G_lret rfl dX9_halfSum_78 ⟨_, rfl, w⟩
          · have w := w.2 c5
            refine G_aload_n 1 rfl dX9_halfSum_37 rfl ?_
            refine G_getr (j := r0_terms) (k := 2) hs1 (q := (RX9, TX9, 5)) rfl inX9 (by decide) rfl hF_X9_25 dX9_halfSum_38 ?_
            refine G_iload_n 2 rfl dX9_halfSum_41 rfl ?_
            obtain ⟨sd1, w⟩ := w
            refine G_lald hs2 sd1 dX9_halfSum_42 ?_
            exact G_lret rfl dX9_halfSum_43 ⟨_, rfl, w⟩
        · have w := w.2 c4
          refine G_lconst (v := 0) dX9_halfSum_29 (by decide) ?_
          exact G_lret rfl dX9_halfSum_30 ⟨_, rfl, w⟩
-- LostDigits$Sums.bySize
theorem dX9_bySize_0 : decode cX9_bySize 0 = .ok (.iconst 0, 1) := by decide +kernel
theorem dX9_bySize_1 : decode cX9_bySize 1 = .ok (.istore_n 1, 1) := by decide +kernel
theorem dX9_bySize_2 : decode cX9_bySize 2 = .ok (.iload_n 1, 1) := by decide +kernel
theorem dX9_bySize_3 : decode cX9_bySize 3 = .ok (.aload_n 0, 1) := by decide +kernel
theorem dX9_bySize_4 : decode cX9_bySize 4 = .ok (.getfield 33, 3) := by decide +kernel
theorem dX9_bySize_7 : decode cX9_bySize 7 = .ok (.if_icmp .ge 14, 3) := by decide +kernel
theorem dX9_bySize_10 : decode cX9_bySize 10 = .ok (.aload_n 0, 1) := by decide +kernel
theorem dX9_bySize_11 : decode cX9_bySize 11 = .ok (.iload_n 1, 1) := by decide +kernel
theorem dX9_bySize_12 : decode cX9_bySize 12 = .ok (.invokevirtual 89, 3) := by decide +kernel
theorem dX9_bySize_15 : decode cX9_bySize 15 = .ok (.iinc 1 1, 3) := by decide +kernel
theorem dX9_bySize_18 : decode cX9_bySize 18 = .ok (.goto (-16), 3) := by decide +kernel
theorem dX9_bySize_21 : decode cX9_bySize 21 = .ok (.aload_n 0, 1) := by decide +kernel
theorem dX9_bySize_22 : decode cX9_bySize 22 = .ok (.getfield 25, 3) := by decide +kernel
theorem dX9_bySize_25 : decode cX9_bySize 25 = .ok (.aload_n 0, 1) := by decide +kernel
theorem dX9_bySize_26 : decode cX9_bySize 26 = .ok (.getfield 29, 3) := by decide +kernel
theorem dX9_bySize_29 : decode cX9_bySize 29 = .ok (.iconst 0, 1) := by decide +kernel
theorem dX9_bySize_30 : decode cX9_bySize 30 = .ok (.iaload, 1) := by decide +kernel
theorem dX9_bySize_31 : decode cX9_bySize 31 = .ok (.invokestatic 93, 3) := by decide +kernel
theorem dX9_bySize_34 : decode cX9_bySize 34 = .ok (.lstore_n 1, 1) := by decide +kernel
theorem dX9_bySize_35 : decode cX9_bySize 35 = .ok (.iconst 1, 1) := by decide +kernel
theorem dX9_bySize_36 : decode cX9_bySize 36 = .ok (.istore_n 3, 1) := by decide +kernel
theorem dX9_bySize_37 : decode cX9_bySize 37 = .ok (.iload_n 3, 1) := by decide +kernel
theorem dX9_bySize_38 : decode cX9_bySize 38 = .ok (.aload_n 0, 1) := by decide +kernel
theorem dX9_bySize_39 : decode cX9_bySize 39 = .ok (.getfield 33, 3) := by decide +kernel
theorem dX9_bySize_42 : decode cX9_bySize 42 = .ok (.if_icmp .ge 28, 3) := by decide +kernel
theorem dX9_bySize_45 : decode cX9_bySize 45 = .ok (.aload_n 0, 1) := by decide +kernel
theorem dX9_bySize_46 : decode cX9_bySize 46 = .ok (.lload_n 1, 1) := by decide +kernel
theorem dX9_bySize_47 : decode cX9_bySize 47 = .ok (.aload_n 0, 1) := by decide +kernel
theorem dX9_bySize_48 : decode cX9_bySize 48 = .ok (.getfield 25, 3) := by decide +kernel
theorem dX9_bySize_51 : decode cX9_bySize 51 = .ok (.aload_n 0, 1) := by decide +kernel
theorem dX9_bySize_52 : decode cX9_bySize 52 = .ok (.getfield 29, 3) := by decide +kernel
theorem dX9_bySize_55 : decode cX9_bySize 55 = .ok (.iload_n 3, 1) := by decide +kernel
theorem dX9_bySize_56 : decode cX9_bySize 56 = .ok (.iaload, 1) := by decide +kernel
theorem dX9_bySize_57 : decode cX9_bySize 57 = .ok (.invokestatic 93, 3) := by decide +kernel
theorem dX9_bySize_60 : decode cX9_bySize 60 = .ok (.invokevirtual 78, 3) := by decide +kernel
theorem dX9_bySize_63 : decode cX9_bySize 63 = .ok (.lstore_n 1, 1) := by decide +kernel
theorem dX9_bySize_64 : decode cX9_bySize 64 = .ok (.iinc 3 1, 3) := by decide +kernel
theorem dX9_bySize_67 : decode cX9_bySize 67 = .ok (.goto (-30), 3) := by decide +kernel
theorem dX9_bySize_70 : decode cX9_bySize 70 = .ok (.lload_n 1, 1) := by decide +kernel
theorem dX9_bySize_71 : decode cX9_bySize 71 = .ok (.lreturn, 1) := by decide +kernel
set_option maxRecDepth 10000 in
theorem NX9_bySize_0 {d : Nat} {S : fW} {h : fH} {Q : Int64 → fH → Prop} {r0 : Nat}  
    (w : G mX9_bySize (d + 1) S (f_PL Q) 2 [(0, .ref r0), (1, .int (0 : Int32))] [] h) :
    OkL (d + 1) mX9_bySize S [.ref r0] h Q := by
  refine Ok.of (by decide) (Nat.le_of_ble_eq_true rfl) ?_
  refine G_iconst (v := 0) dX9_bySize_0 (by decide) ?_
  refine G_istore_n dX9_bySize_1 rfl (by decide) (lv' := [(1, .int (0 : Int32)), (0, .ref r0)]) rfl ?_
  exact G_sub [1, 0] rfl w

set_option maxRecDepth 10000 in
theorem NX9_bySize_2 {d : Nat} {S : fW} {h : fH} {Q : Int64 → fH → Prop} {r0 : Nat} {x1 : Int32} {r0_ratio r0_rounding r0_terms r0_sizes : Nat}  
    (hs1 : (r0, shX9 r0_ratio r0_rounding r0_terms r0_sizes) ∈ S)
    (hs2 : (r0_sizes, shI 7) ∈ S)
    (w : (((h.1 r0 4) ≤ x1 → vp_in (0 : Int32) 7 ∧ ∃ Q1 : Int64 → fH → Prop, OkL d mX11_at S [.ref r0_terms, .int (h.2.2.1 r0_sizes (0 : Int32).toNatClampNeg)] h Q1 ∧ ∀ (v_1 : Int64) (h_1 : fH), Q1 v_1 h_1 → G mX9_bySize (d + 1) S (f_PL Q) 37 [(0, .ref r0), (1, .long v_1), (3, .int (1 : Int32))] [] h_1) ∧ (¬ (h.1 r0 4) ≤ x1 → ∃ Q2 : fH → Prop, OkV d mX9_insertBySize S [.ref r0, .int x1] h Q2 ∧ ∀ (h_2 : fH), Q2 h_2 → G mX9_bySize (d + 1) S (f_PL Q) 2 [(0, .ref r0), (1, .int (x1 + 1))] [] h_2))) :
    G mX9_bySize (d + 1) S (f_PL Q) 2 [(0, .ref r0), (1, .int x1)] [] h := by
  refine G_iload_n 1 rfl dX9_bySize_2 rfl ?_
  refine G_aload_n 0 rfl dX9_bySize_3 rfl ?_
  refine G_geti (k := 4) hs1 (q := (RX9, TX9, 5)) rfl inX9 (by decide) (Or.inl rfl) hF_X9_33 dX9_bySize_4 ?_
  refine G_icmp_ge (tgt := 21) dX9_bySize_7 (by decide) (fun c1 => ?_) (fun c1 => ?_)
  · have w := w.1 c1
    refine G_aload_n 0 rfl dX9_bySize_21 rfl ?_
    refine G_getr (j := r0_terms) (k := 2) hs1 (q := (RX9, TX9, 5)) rfl inX9 (by decide) rfl hF_X9_25 dX9_bySize_22 ?_
    refine G_aload_n 0 rfl dX9_bySize_25 rfl ?_
    refine G_getr (j := r0_sizes) (k := 3) hs1 (q := (RX9, TX9, 5)) rfl inX9 (by decide) rfl hF_X9_29 dX9_bySize_26 ?_
    refine G_iconst (v := 0) dX9_bySize_29 (by decide) ?_
    obtain ⟨sd1, w⟩ := w
    refine G_iald hs2 sd1 dX9_bySize_30 ?_
    obtain ⟨Q1, ok1, w⟩ := w
    refine G_callN (Z := mX11_at) (As := [.ref r0_terms, .int (h.2.2.1 r0_sizes (0 : Int32).toNatClampNeg)]) (st := []) hM_X9_93 hT_X11_at hC_X11_at hN_X11 nX11_at (by decide) rfl (Nat.le_of_ble_eq_true rfl) dX9_bySize_31 ok1 (fun r_ h_1 z_ => ?_)
    obtain ⟨v_1, rfl, q_1⟩ := z_
    have w := w v_1 h_1 q_1
    refine G_lstore_n dX9_bySize_34 rfl (by decide) (lv' := [(1, .long v_1), (0, .ref r0)]) rfl ?_
    refine G_iconst (v := 1) dX9_bySize_35 (by decide) ?_
    refine G_istore_n dX9_bySize_36 rfl (by decide) (lv' := [(3, .int (1 : Int32)), (1, .long v_1), (0, .ref r0)]) rfl ?_
    exact G_sub [2, 1, 0] rfl w
  · have w := w.2 c1
    refine G_aload_n 0 rfl dX9_bySize_10 rfl ?_
    refine G_iload_n 1 rfl dX9_bySize_11 rfl ?_
    obtain ⟨Q2, ok2, w⟩ := w
    refine G_callV (Z := mX9_insertBySize) (As := [.int x1]) (st := []) hL_X9_89 hI_X9_insertBySize hS_X9_insertBySize hC_X9_insertBySize hN_X9 nX9_insertBySize (by decide) hs1 rfl rfl rfl (Nat.le_of_ble_eq_true rfl) dX9_bySize_12 ok2 (fun r_ h_2 z_ => ?_)
    obtain ⟨rfl, q_2⟩ := z_
    have w := w h_2 q_2
    refine G_iinc (v := 1) 1 rfl dX9_bySize_15 (by decide) (by decide) (lv' := [(1, .int (x1 + 1)), (0, .ref r0)]) rfl ?_
    refine G_goto (tgt := 2) dX9_bySize_18 (by decide) ?_
    exact G_sub [1, 0] rfl w

set_option maxRecDepth 10000 in
theorem NX9_bySize_37 {d : Nat} {S : fW} {h : fH} {Q : Int64 → fH → Prop} {r0 : Nat} {x1 : Int64} {x3 : Int32} {r0_ratio r0_rounding r0_terms r0_sizes : Nat}  
    (hs1 : (r0, shX9 r0_ratio r0_rounding r0_terms r0_sizes) ∈ S)
    (hs2 : (r0_sizes, shI 7) ∈ S)
    (w : (((h.1 r0 4) ≤ x3 → Q x1 h) ∧ (¬ (h.1 r0 4) ≤ x3 → vp_in x3 7 ∧ ∃ Q1 : Int64 → fH → Prop, OkL d mX11_at S [.ref r0_terms, .int (h.2.2.1 r0_sizes x3.toNatClampNeg)] h Q1 ∧ ∀ (v_1 : Int64) (h_1 : fH), Q1 v_1 h_1 → ∃ Q2 : Int64 → fH → Prop, OkL d mX9_plus S [.ref r0, .long x1, .long v_1] h_1 Q2 ∧ ∀ (v_2 : Int64) (h_2 : fH), Q2 v_2 h_2 → G mX9_bySize (d + 1) S (f_PL Q) 37 [(0, .ref r0), (1, .long v_2), (3, .int (x3 + 1))] [] h_2))) :
    G mX9_bySize (d + 1) S (f_PL Q) 37 [(0, .ref r0), (1, .long x1), (3, .int x3)] [] h := by
  refine G_iload_n 2 rfl dX9_bySize_37 rfl ?_
  refine G_aload_n 0 rfl dX9_bySize_38 rfl ?_
  refine G_geti (k := 4) hs1 (q := (RX9, TX9, 5)) rfl inX9 (by decide) (Or.inl rfl) hF_X9_33 dX9_bySize_39 ?_
  refine G_icmp_ge (tgt := 70) dX9_bySize_42 (by decide) (fun c1 => ?_) (fun c1 => ?_)
  · have w := w.1 c1
    refine G_lload_n 1 rfl dX9_bySize_70 rfl ?_
    exact G_lret rfl dX9_bySize_71 ⟨_, rfl, w⟩
  · have w := w.2 c1
    refine G_aload_n 0 rfl dX9_bySize_45 rfl ?_
    refine G_lload_n 1 rfl dX9_bySize_46 rfl ?_
    refine G_aload_n 0 rfl dX9_bySize_47 rfl ?_
    refine G_getr (j := r0_terms) (k := 2) hs1 (q := (RX9, TX9, 5)) rfl inX9 (by decide) rfl hF_X9_25 dX9_bySize_48 ?_
    refine G_aload_n 0 rfl dX9_bySize_51 rfl ?_
    refine G_getr (j := r0_sizes) (k := 3) hs1 (q := (RX9, TX9, 5)) rfl inX9 (by decide) rfl hF_X9_29 dX9_bySize_52 ?_
    refine G_iload_n 2 rfl dX9_bySize_55 rfl ?_
    obtain ⟨sd1, w⟩ := w
    refine G_iald hs2 sd1 dX9_bySize_56 ?_
    obtain ⟨Q1, ok1, w⟩ := w
    refine G_callN (Z := mX11_at) (As := [.ref r0_terms, .int (h.2.2.1 r0_sizes x3.toNatClampNeg)]) (st := [.long x1, .ref r0]) hM_X9_93 hT_X11_at hC_X11_at hN_X11 nX11_at (by decide) rfl (Nat.le_of_ble_eq_true rfl) dX9_bySize_57 ok1 (fun r_ h_1 z_ => ?_)
    obtain ⟨v_1, rfl, q_1⟩ := z_
    have w := w v_1 h_1 q_1
    obtain ⟨Q2, ok2, w⟩ := w
    refine G_callV (Z := mX9_plus) (As := [.long x1, .long v_1]) (st := []) hL_X9_78 hI_X9_plus hS_X9_plus hC_X9_plus hN_X9 nX9_plus (by decide) hs1 rfl rfl rfl (Nat.le_of_ble_eq_true rfl) dX9_bySize_60 ok2 (fun r_ h_2 z_ => ?_)
    obtain ⟨v_2, rfl, q_2⟩ := z_
    have w := w v_2 h_2 q_2
    refine G_lstore_n dX9_bySize_63 rfl (by decide) (lv' := [(1, .long v_2), (0, .ref r0), (3, .int x3)]) rfl ?_
    refine G_iinc (v := 1) 2 rfl dX9_bySize_64 (by decide) (by decide) (lv' := [(3, .int (x3 + 1)), (1, .long v_2), (0, .ref r0)]) rfl ?_
    refine G_goto (tgt := 37) dX9_bySize_67 (by decide) ?_
    exact G_sub [2, 1, 0] rfl w
-- LostDigits$Sums.insertBySize
theorem dX9_insertBySize_0 : decode cX9_insertBySize 0 = .ok (.iload_n 1, 1) := by decide +kernel
theorem dX9_insertBySize_1 : decode cX9_insertBySize 1 = .ok (.istore_n 2, 1) := by decide +kernel
theorem dX9_insertBySize_2 : decode cX9_insertBySize 2 = .ok (.iload_n 2, 1) := by decide +kernel
theorem dX9_insertBySize_3 : decode cX9_insertBySize 3 = .ok (.ifCond .le 54, 3) := by decide +kernel
theorem dX9_insertBySize_6 : decode cX9_insertBySize 6 = .ok (.aload_n 0, 1) := by decide +kernel
theorem dX9_insertBySize_7 : decode cX9_insertBySize 7 = .ok (.getfield 25, 3) := by decide +kernel
theorem dX9_insertBySize_10 : decode cX9_insertBySize 10 = .ok (.aload_n 0, 1) := by decide +kernel
theorem dX9_insertBySize_11 : decode cX9_insertBySize 11 = .ok (.getfield 29, 3) := by decide +kernel
theorem dX9_insertBySize_14 : decode cX9_insertBySize 14 = .ok (.iload_n 2, 1) := by decide +kernel
theorem dX9_insertBySize_15 : decode cX9_insertBySize 15 = .ok (.iconst 1, 1) := by decide +kernel
theorem dX9_insertBySize_16 : decode cX9_insertBySize 16 = .ok (.isub, 1) := by decide +kernel
theorem dX9_insertBySize_17 : decode cX9_insertBySize 17 = .ok (.iaload, 1) := by decide +kernel
theorem dX9_insertBySize_18 : decode cX9_insertBySize 18 = .ok (.invokestatic 93, 3) := by decide +kernel
theorem dX9_insertBySize_21 : decode cX9_insertBySize 21 = .ok (.invokestatic 97, 3) := by decide +kernel
theorem dX9_insertBySize_24 : decode cX9_insertBySize 24 = .ok (.aload_n 0, 1) := by decide +kernel
theorem dX9_insertBySize_25 : decode cX9_insertBySize 25 = .ok (.getfield 25, 3) := by decide +kernel
theorem dX9_insertBySize_28 : decode cX9_insertBySize 28 = .ok (.iload_n 1, 1) := by decide +kernel
theorem dX9_insertBySize_29 : decode cX9_insertBySize 29 = .ok (.laload, 1) := by decide +kernel
theorem dX9_insertBySize_30 : decode cX9_insertBySize 30 = .ok (.invokestatic 97, 3) := by decide +kernel
theorem dX9_insertBySize_33 : decode cX9_insertBySize 33 = .ok (.lcmp, 1) := by decide +kernel
theorem dX9_insertBySize_34 : decode cX9_insertBySize 34 = .ok (.ifCond .le 23, 3) := by decide +kernel
theorem dX9_insertBySize_37 : decode cX9_insertBySize 37 = .ok (.aload_n 0, 1) := by decide +kernel
theorem dX9_insertBySize_38 : decode cX9_insertBySize 38 = .ok (.getfield 29, 3) := by decide +kernel
theorem dX9_insertBySize_41 : decode cX9_insertBySize 41 = .ok (.iload_n 2, 1) := by decide +kernel
theorem dX9_insertBySize_42 : decode cX9_insertBySize 42 = .ok (.aload_n 0, 1) := by decide +kernel
theorem dX9_insertBySize_43 : decode cX9_insertBySize 43 = .ok (.getfield 29, 3) := by decide +kernel
theorem dX9_insertBySize_46 : decode cX9_insertBySize 46 = .ok (.iload_n 2, 1) := by decide +kernel
theorem dX9_insertBySize_47 : decode cX9_insertBySize 47 = .ok (.iconst 1, 1) := by decide +kernel
theorem dX9_insertBySize_48 : decode cX9_insertBySize 48 = .ok (.isub, 1) := by decide +kernel
theorem dX9_insertBySize_49 : decode cX9_insertBySize 49 = .ok (.iaload, 1) := by decide +kernel
theorem dX9_insertBySize_50 : decode cX9_insertBySize 50 = .ok (.iastore, 1) := by decide +kernel
theorem dX9_insertBySize_51 : decode cX9_insertBySize 51 = .ok (.iinc 2 (-1), 3) := by decide +kernel
theorem dX9_insertBySize_54 : decode cX9_insertBySize 54 = .ok (.goto (-52), 3) := by decide +kernel
theorem dX9_insertBySize_57 : decode cX9_insertBySize 57 = .ok (.aload_n 0, 1) := by decide +kernel
theorem dX9_insertBySize_58 : decode cX9_insertBySize 58 = .ok (.getfield 29, 3) := by decide +kernel
theorem dX9_insertBySize_61 : decode cX9_insertBySize 61 = .ok (.iload_n 2, 1) := by decide +kernel
theorem dX9_insertBySize_62 : decode cX9_insertBySize 62 = .ok (.iload_n 1, 1) := by decide +kernel
theorem dX9_insertBySize_63 : decode cX9_insertBySize 63 = .ok (.iastore, 1) := by decide +kernel
theorem dX9_insertBySize_64 : decode cX9_insertBySize 64 = .ok (.return_, 1) := by decide +kernel
set_option maxRecDepth 10000 in
theorem NX9_insertBySize_0 {d : Nat} {S : fW} {h : fH} {Q : fH → Prop} {r0 : Nat} {x1 : Int32}  
    (w : G mX9_insertBySize (d + 1) S (f_PV Q) 2 [(0, .ref r0), (1, .int x1), (2, .int x1)] [] h) :
    OkV (d + 1) mX9_insertBySize S [.ref r0, .int x1] h Q := by
  refine Ok.of (by decide) (Nat.le_of_ble_eq_true rfl) ?_
  refine G_iload_n 1 rfl dX9_insertBySize_0 rfl ?_
  refine G_istore_n dX9_insertBySize_1 rfl (by decide) (lv' := [(2, .int x1), (0, .ref r0), (1, .int x1)]) rfl ?_
  exact G_sub [1, 2, 0] rfl w

set_option maxRecDepth 10000 in
theorem NX9_insertBySize_2 {d : Nat} {S : fW} {h : fH} {Q : fH → Prop} {r0 : Nat} {x1 : Int32} {x2 : Int32} {r0_ratio r0_rounding r0_terms r0_sizes : Nat}  
    (hs1 : (r0, shX9 r0_ratio r0_rounding r0_terms r0_sizes) ∈ S)
    (hs2 : (r0_sizes, shI 7) ∈ S)
    (hs3 : (r0_terms, shJ 7) ∈ S)
    (w : ((x2 ≤ 0 → vp_in x2 7 ∧ ∀ g_1 : fH, g_1 = u_ai h r0_sizes (upd (h.2.2.1 r0_sizes) x2.toNatClampNeg x1) → Q g_1) ∧ (¬ x2 ≤ 0 → vp_in (x2 - (1 : Int32)) 7 ∧ ∃ Q1 : Int64 → fH → Prop, OkL d mX11_at S [.ref r0_terms, .int (h.2.2.1 r0_sizes (x2 - (1 : Int32)).toNatClampNeg)] h Q1 ∧ ∀ (v_1 : Int64) (h_1 : fH), Q1 v_1 h_1 → vp_in x1 7 ∧ (((if 0 < v_1 then v_1 else -v_1) ≤ (if 0 < (h_1.2.2.2 r0_terms x1.toNatClampNeg) then h_1.2.2.2 r0_terms x1.toNatClampNeg else -(h_1.2.2.2 r0_terms x1.toNatClampNeg)) → vp_in x2 7 ∧ ∀ g_2 : fH, g_2 = u_ai h_1 r0_sizes (upd (h_1.2.2.1 r0_sizes) x2.toNatClampNeg x1) → Q g_2) ∧ (¬ (if 0 < v_1 then v_1 else -v_1) ≤ (if 0 < (h_1.2.2.2 r0_terms x1.toNatClampNeg) then h_1.2.2.2 r0_terms x1.toNatClampNeg else -(h_1.2.2.2 r0_terms x1.toNatClampNeg)) → vp_in x2 7 ∧ ∀ g_3 : fH, g_3 = u_ai h_1 r0_sizes (upd (h_1.2.2.1 r0_sizes) x2.toNatClampNeg (h_1.2.2.1 r0_sizes (x2 - (1 : Int32)).toNatClampNeg)) → G mX9_insertBySize (d + 1) S (f_PV Q) 2 [(0, .ref r0), (1, .int x1), (2, .int (x2 + (-1)))] [] g_3))))) :
    G mX9_insertBySize (d + 1) S (f_PV Q) 2 [(0, .ref r0), (1, .int x1), (2, .int x2)] [] h := by
  refine G_iload_n 2 rfl dX9_insertBySize_2 rfl ?_
  refine G_if_le (tgt := 57) dX9_insertBySize_3 (by decide) (fun c1 => ?_) (fun c1 => ?_)
  · have w := w.1 c1
    refine G_aload_n 0 rfl dX9_insertBySize_57 rfl ?_
    refine G_getr (j := r0_sizes) (k := 3) hs1 (q := (RX9, TX9, 5)) rfl inX9 (by decide) rfl hF_X9_29 dX9_insertBySize_58 ?_
    refine G_iload_n 2 rfl dX9_insertBySize_61 rfl ?_
    refine G_iload_n 1 rfl dX9_insertBySize_62 rfl ?_
    obtain ⟨sd1, w⟩ := w
    refine G_iast hs2 sd1 dX9_insertBySize_63 ?_
    refine G_nm (fun g_1 e_1 => ?_)
    have w := w g_1 e_1
    exact G_vret rfl dX9_insertBySize_64 ⟨rfl, w⟩
  · have w := w.2 c1
    refine G_aload_n 0 rfl dX9_insertBySize_6 rfl ?_
    refine G_getr (j := r0_terms) (k := 2) hs1 (q := (RX9, TX9, 5)) rfl inX9 (by decide) rfl hF_X9_25 dX9_insertBySize_7 ?_
    refine G_aload_n 0 rfl dX9_insertBySize_10 rfl ?_
    refine G_getr (j := r0_sizes) (k := 3) hs1 (q := (RX9, TX9, 5)) rfl inX9 (by decide) rfl hF_X9_29 dX9_insertBySize_11 ?_
    refine G_iload_n 2 rfl dX9_insertBySize_14 rfl ?_
    refine G_iconst (v := 1) dX9_insertBySize_15 (by decide) ?_
    refine G_isub dX9_insertBySize_16 ?_
    obtain ⟨sd1, w⟩ := w
    refine G_iald hs2 sd1 dX9_insertBySize_17 ?_
    obtain ⟨Q1, ok1, w⟩ := w
    refine G_callN (Z := mX11_at) (As := [.ref r0_terms, .int (h.2.2.1 r0_sizes (x2 - (1 : Int32)).toNatClampNeg)]) (st := []) hM_X9_93 hT_X11_at hC_X11_at hN_X11 nX11_at (by decide) rfl (Nat.le_of_ble_eq_true rfl) dX9_insertBySize_18 ok1 (fun r_ h_1 z_ => ?_)
    obtain ⟨v_1, rfl, q_1⟩ := z_
    have w := w v_1 h_1 q_1
    refine G_mabs hL_X9_97 (Nat.le_of_ble_eq_true rfl) dX9_insertBySize_21 ?_
    refine G_aload_n 0 rfl dX9_insertBySize_24 rfl ?_
    refine G_getr (j := r0_terms) (k := 2) hs1 (q := (RX9, TX9, 5)) rfl inX9 (by decide) rfl hF_X9_25 dX9_insertBySize_25 ?_
    refine G_iload_n 1 rfl dX9_insertBySize_28 rfl ?_
    obtain ⟨sd2, w⟩ := w
    refine G_lald hs3 sd2 dX9_insertBySize_29 ?_
    refine G_mabs hL_X9_97 (Nat.le_of_ble_eq_true rfl) dX9_insertBySize_30 ?_
    refine G_lif_le (tgt := 57) dX9_insertBySize_33 dX9_insertBySize_34 (by decide) (fun c2 => ?_) (fun c2 => ?_)
    · have w := w.1 c2
      refine G_aload_n 0 rfl dX9_insertBySize_57 rfl ?_
      refine G_getr (j := r0_sizes) (k := 3) hs1 (q := (RX9, TX9, 5)) rfl inX9 (by decide) rfl hF_X9_29 dX9_insertBySize_58 ?_
      refine G_iload_n 2 rfl dX9_insertBySize_61 rfl ?_
      refine G_iload_n 1 rfl dX9_insertBySize_62 rfl ?_
      obtain ⟨sd3, w⟩ := w
      refine G_iast hs2 sd3 dX9_insertBySize_63 ?_
      refine G_nm (fun g_2 e_2 => ?_)
      have w := w g_2 e_2
      exact G_vret rfl dX9_insertBySize_64 ⟨rfl, w⟩
    · have w := w.2 c2
      refine G_aload_n 0 rfl dX9_insertBySize_37 rfl ?_
      refine G_getr (j := r0_sizes) (k := 3) hs1 (q := (RX9, TX9, 5)) rfl inX9 (by decide) rfl hF_X9_29 dX9_insertBySize_38 ?_
      refine G_iload_n 2 rfl dX9_insertBySize_41 rfl ?_
      refine G_aload_n 0 rfl dX9_insertBySize_42 rfl ?_
      refine G_getr (j := r0_sizes) (k := 3) hs1 (q := (RX9, TX9, 5)) rfl inX9 (by decide) rfl hF_X9_29 dX9_insertBySize_43 ?_
      refine G_iload_n 2 rfl dX9_insertBySize_46 rfl ?_
      refine G_iconst (v := 1) dX9_insertBySize_47 (by decide) ?_
      refine G_isub dX9_insertBySize_48 ?_
      refine G_iald hs2 sd1 dX9_insertBySize_49 ?_
      obtain ⟨sd3, w⟩ := w
      refine G_iast hs2 sd3 dX9_insertBySize_50 ?_
      refine G_nm (fun g_3 e_3 => ?_)
      have w := w g_3 e_3
      refine G_iinc (v := -1) 2 rfl dX9_insertBySize_51 (by decide) (by decide) (lv' := [(2, .int (x2 + (-1))), (0, .ref r0), (1, .int x1)]) rfl ?_
      refine G_goto (tgt := 2) dX9_insertBySize_54 (by decide) ?_
      exact G_sub [1, 2, 0] rfl w

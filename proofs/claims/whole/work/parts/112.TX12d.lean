-- LostDigitsModel.sum
theorem dX12_sum_0 : decode cX12_sum 0 = .ok (.iload_n 1, 1) := by decide +kernel
theorem dX12_sum_1 : decode cX12_sum 1 = .ok (.i2l, 1) := by decide +kernel
theorem dX12_sum_2 : decode cX12_sum 2 = .ok (.lconst 0, 1) := by decide +kernel
theorem dX12_sum_3 : decode cX12_sum 3 = .ok (.ldc2_w 138, 3) := by decide +kernel
theorem dX12_sum_6 : decode cX12_sum 6 = .ok (.invokestatic 82, 3) := by decide +kernel
theorem dX12_sum_9 : decode cX12_sum 9 = .ok (.ifCond .ne 7, 3) := by decide +kernel
theorem dX12_sum_12 : decode cX12_sum 12 = .ok (.ldc2_w 153, 3) := by decide +kernel
theorem dX12_sum_15 : decode cX12_sum 15 = .ok (.lreturn, 1) := by decide +kernel
theorem dX12_sum_16 : decode cX12_sum 16 = .ok (.aload_n 0, 1) := by decide +kernel
theorem dX12_sum_17 : decode cX12_sum 17 = .ok (.getfield 247, 3) := by decide +kernel
theorem dX12_sum_20 : decode cX12_sum 20 = .ok (.ifCond .ne 7, 3) := by decide +kernel
theorem dX12_sum_23 : decode cX12_sum 23 = .ok (.ldc2_w 256, 3) := by decide +kernel
theorem dX12_sum_26 : decode cX12_sum 26 = .ok (.lreturn, 1) := by decide +kernel
theorem dX12_sum_27 : decode cX12_sum 27 = .ok (.aload_n 0, 1) := by decide +kernel
theorem dX12_sum_28 : decode cX12_sum 28 = .ok (.invokevirtual 258, 3) := by decide +kernel
theorem dX12_sum_31 : decode cX12_sum 31 = .ok (.iload_n 1, 1) := by decide +kernel
theorem dX12_sum_32 : decode cX12_sum 32 = .ok (.iconst 1, 1) := by decide +kernel
theorem dX12_sum_33 : decode cX12_sum 33 = .ok (.if_icmp .ne 8, 3) := by decide +kernel
theorem dX12_sum_36 : decode cX12_sum 36 = .ok (.aload_n 0, 1) := by decide +kernel
theorem dX12_sum_37 : decode cX12_sum 37 = .ok (.invokevirtual 261, 3) := by decide +kernel
theorem dX12_sum_40 : decode cX12_sum 40 = .ok (.lreturn, 1) := by decide +kernel
theorem dX12_sum_41 : decode cX12_sum 41 = .ok (.iload_n 1, 1) := by decide +kernel
theorem dX12_sum_42 : decode cX12_sum 42 = .ok (.iconst 2, 1) := by decide +kernel
theorem dX12_sum_43 : decode cX12_sum 43 = .ok (.if_icmp .ne 8, 3) := by decide +kernel
theorem dX12_sum_46 : decode cX12_sum 46 = .ok (.aload_n 0, 1) := by decide +kernel
theorem dX12_sum_47 : decode cX12_sum 47 = .ok (.invokevirtual 264, 3) := by decide +kernel
theorem dX12_sum_50 : decode cX12_sum 50 = .ok (.lreturn, 1) := by decide +kernel
theorem dX12_sum_51 : decode cX12_sum 51 = .ok (.iload_n 1, 1) := by decide +kernel
theorem dX12_sum_52 : decode cX12_sum 52 = .ok (.iconst 3, 1) := by decide +kernel
theorem dX12_sum_53 : decode cX12_sum 53 = .ok (.if_icmp .ne 7, 3) := by decide +kernel
theorem dX12_sum_56 : decode cX12_sum 56 = .ok (.aload_n 0, 1) := by decide +kernel
theorem dX12_sum_57 : decode cX12_sum 57 = .ok (.invokevirtual 267, 3) := by decide +kernel
theorem dX12_sum_60 : decode cX12_sum 60 = .ok (.iload_n 1, 1) := by decide +kernel
theorem dX12_sum_61 : decode cX12_sum 61 = .ok (.iconst 4, 1) := by decide +kernel
theorem dX12_sum_62 : decode cX12_sum 62 = .ok (.if_icmp .ne 10, 3) := by decide +kernel
theorem dX12_sum_65 : decode cX12_sum 65 = .ok (.aload_n 0, 1) := by decide +kernel
theorem dX12_sum_66 : decode cX12_sum 66 = .ok (.invokevirtual 270, 3) := by decide +kernel
theorem dX12_sum_69 : decode cX12_sum 69 = .ok (.goto 12, 3) := by decide +kernel
theorem dX12_sum_72 : decode cX12_sum 72 = .ok (.aload_n 0, 1) := by decide +kernel
theorem dX12_sum_73 : decode cX12_sum 73 = .ok (.iconst 0, 1) := by decide +kernel
theorem dX12_sum_74 : decode cX12_sum 74 = .ok (.aload_n 0, 1) := by decide +kernel
theorem dX12_sum_75 : decode cX12_sum 75 = .ok (.getfield 247, 3) := by decide +kernel
theorem dX12_sum_78 : decode cX12_sum 78 = .ok (.invokevirtual 250, 3) := by decide +kernel
theorem dX12_sum_81 : decode cX12_sum 81 = .ok (.lreturn, 1) := by decide +kernel
set_option maxRecDepth 10000 in
theorem NX12_sum_0 {d : Nat} {S : fW} {h : fH} {Q : Int64 → fH → Prop} {r0 : Nat} {x1 : Int32} {r0_pad r0_text r0_number r0_span r0_now r0_sizeOf r0_workedTo r0_slip r0_exactUpper r0_exactLower r0_more r0_terms r0_order r0_bestOrder r0_low r0_high r0_built r0_better r0_base r0_kept r0_isKept : Nat}  
    (hs1 : (r0, shX12 r0_pad r0_text r0_number r0_span r0_now r0_sizeOf r0_workedTo r0_slip r0_exactUpper r0_exactLower r0_more r0_terms r0_order r0_bestOrder r0_low r0_high r0_built r0_better r0_base r0_kept r0_isKept) ∈ S)
    (w : ∃ Q1 : Int32 → fH → Prop, OkI d mX12_in S [.long x1.toInt64, .long (0 : Int64), .long (4 : Int64)] h Q1 ∧ ∀ (v_1 : Int32) (h_1 : fH), Q1 v_1 h_1 → ((¬ v_1 = 0 → ((¬ (h_1.1 r0 22) = 0 → ∃ Q2 : fH → Prop, OkV d mX12_layOrder S [.ref r0] h_1 Q2 ∧ ∀ (h_2 : fH), Q2 h_2 → ((¬ x1 = (1 : Int32) → ((¬ x1 = (2 : Int32) → ((¬ x1 = (3 : Int32) → ((¬ x1 = (4 : Int32) → ∃ Q3 : Int64 → fH → Prop, OkL d mX12_sumOf S [.ref r0, .int (0 : Int32), .int (h_2.1 r0 22)] h_2 Q3 ∧ ∀ (v_3 : Int64) (h_3 : fH), Q3 v_3 h_3 → Q v_3 h_3) ∧ (x1 = (4 : Int32) → ∃ Q4 : Int64 → fH → Prop, OkL d mX12_wholeSum S [.ref r0] h_2 Q4 ∧ ∀ (v_4 : Int64) (h_4 : fH), Q4 v_4 h_4 → Q v_4 h_4))) ∧ (x1 = (3 : Int32) → ∃ Q5 : fH → Prop, OkV d mX12_orderBySize S [.ref r0] h_2 Q5 ∧ ∀ (h_5 : fH), Q5 h_5 → ((¬ x1 = (4 : Int32) → ∃ Q6 : Int64 → fH → Prop, OkL d mX12_sumOf S [.ref r0, .int (0 : Int32), .int (h_5.1 r0 22)] h_5 Q6 ∧ ∀ (v_6 : Int64) (h_6 : fH), Q6 v_6 h_6 → Q v_6 h_6) ∧ (x1 = (4 : Int32) → ∃ Q7 : Int64 → fH → Prop, OkL d mX12_wholeSum S [.ref r0] h_5 Q7 ∧ ∀ (v_7 : Int64) (h_7 : fH), Q7 v_7 h_7 → Q v_7 h_7))))) ∧ (x1 = (2 : Int32) → ∃ Q8 : Int64 → fH → Prop, OkL d mX12_halves S [.ref r0] h_2 Q8 ∧ ∀ (v_8 : Int64) (h_8 : fH), Q8 v_8 h_8 → Q v_8 h_8))) ∧ (x1 = (1 : Int32) → ∃ Q9 : Int64 → fH → Prop, OkL d mX12_beside S [.ref r0] h_2 Q9 ∧ ∀ (v_9 : Int64) (h_9 : fH), Q9 v_9 h_9 → Q v_9 h_9))) ∧ ((h_1.1 r0 22) = 0 → Q (-1000000000000000006 : Int64) h_1))) ∧ (v_1 = 0 → Q (-1000000000000000002 : Int64) h_1))) :
    OkL (d + 1) mX12_sum S [.ref r0, .int x1] h Q := by
  refine Ok.of (by decide) (Nat.le_of_ble_eq_true rfl) ?_
  refine G_iload_n 1 rfl dX12_sum_0 rfl ?_
  refine G_i2l dX12_sum_1 ?_
  refine G_lconst (v := 0) dX12_sum_2 (by decide) ?_
  refine G_ldc2 hK_X12_138 dX12_sum_3 ?_
  obtain ⟨Q1, ok1, w⟩ := w
  refine G_callS (Z := mX12_in) (As := [.long x1.toInt64, .long (0 : Int64), .long (4 : Int64)]) (st := []) hL_X12_82 hT_X12_in hC_X12_in hN_X12 nX12_in (by decide) rfl (Nat.le_of_ble_eq_true rfl) dX12_sum_6 ok1 (fun r_ h_1 z_ => ?_)
  obtain ⟨v_1, rfl, q_1⟩ := z_
  have w := w v_1 h_1 q_1
  refine G_if_ne (tgt := 16) dX12_sum_9 (by decide) (fun c1 => ?_) (fun c1 => ?_)
  · have w := w.1 c1
    refine G_aload_n 0 rfl dX12_sum_16 rfl ?_
    refine G_geti (k := 22) hs1 (q := (RX12, TX12, 40)) rfl inX12 (by decide) (Or.inl rfl) hF_X12_247 dX12_sum_17 ?_
    refine G_if_ne (tgt := 27) dX12_sum_20 (by decide) (fun c2 => ?_) (fun c2 => ?_)
    · have w := w.1 c2
      refine G_aload_n 0 rfl dX12_sum_27 rfl ?_
      obtain ⟨Q2, ok2, w⟩ := w
      refine G_callV (Z := mX12_layOrder) (As := []) (st := []) hL_X12_258 hI_X12_layOrder hS_X12_layOrder hC_X12_layOrder hN_X12 nX12_layOrder (by decide) hs1 rfl rfl rfl (Nat.le_of_ble_eq_true rfl) dX12_sum_28 ok2 (fun r_ h_2 z_ => ?_)
      obtain ⟨rfl, q_2⟩ := z_
      have w := w h_2 q_2
      refine G_iload_n 1 rfl dX12_sum_31 rfl ?_
      refine G_iconst (v := 1) dX12_sum_32 (by decide) ?_
      refine G_icmp_ne (tgt := 41) dX12_sum_33 (by decide) (fun c3 => ?_) (fun c3 => ?_)
      · have w := w.1 c3
        refine G_iload_n 1 rfl dX12_sum_41 rfl ?_
        refine G_iconst (v := 2) dX12_sum_42 (by decide) ?_
        refine G_icmp_ne (tgt := 51) dX12_sum_43 (by decide) (fun c4 => ?_) (fun c4 => ?_)
        · have w := w.1 c4
          refine G_iload_n 1 rfl dX12_sum_51 rfl ?_
          refine G_iconst (v := 3) dX12_sum_52 (by decide) ?_
          refine G_icmp_ne (tgt := 60) dX12_sum_53 (by decide) (fun c5 => ?_) (fun c5 => ?_)
          · have w := w.1 c5
            refine G_iload_n 1 rfl dX12_sum_60 rfl ?_
            refine G_iconst (v := 4) dX12_sum_61 (by decide) ?_
            refine G_icmp_ne (tgt := 72) dX12_sum_62 (by decide) (fun c6 => ?_) (fun c6 => ?_)
            · have w := w.1 c6
              refine G_aload_n 0 rfl dX12_sum_72 rfl ?_
              refine G_iconst (v := 0) dX12_sum_73 (by decide) ?_
              refine G_aload_n 0 rfl dX12_sum_74 rfl ?_
              refine G_geti (k := 22) hs1 (q := (RX12, TX12, 40)) rfl inX12 (by decide) (Or.inl rfl) hF_X12_247 dX12_sum_75 ?_
              obtain ⟨Q3, ok3, w⟩ := w
              refine G_callV (Z := mX12_sumOf) (As := [.int (0 : Int32), .int (h_2.1 r0 22)]) (st := []) hL_X12_250 hI_X12_sumOf hS_X12_sumOf hC_X12_sumOf hN_X12 nX12_sumOf (by decide) hs1 rfl rfl rfl (Nat.le_of_ble_eq_true rfl) dX12_sum_78 ok3 (fun r_ h_3 z_ => ?_)
              obtain ⟨v_3, rfl, q_3⟩ := z_
              have w := w v_3 h_3 q_3
              exact G_lret rfl dX12_sum_81 ⟨_, rfl, w⟩
            · have w := w.2 c6
              refine G_aload_n 0 rfl dX12_sum_65 rfl ?_
              obtain ⟨Q4, ok4, w⟩ := w
              refine G_callV (Z := mX12_wholeSum) (As := []) (st := []) hL_X12_270 hI_X12_wholeSum hS_X12_wholeSum hC_X12_wholeSum hN_X12 nX12_wholeSum (by decide) hs1 rfl rfl rfl (Nat.le_of_ble_eq_true rfl) dX12_sum_66 ok4 (fun r_ h_4 z_ => ?_)
              obtain ⟨v_4, rfl, q_4⟩ := z_
              have w := w v_4 h_4 q_4
              refine G_goto (tgt := 81) dX12_sum_69 (by decide) ?_
              exact G_lret rfl dX12_sum_81 ⟨_, rfl, w⟩
          · have w := w.2 c5
            refine G_aload_n 0 rfl dX12_sum_56 rfl ?_
            obtain ⟨Q5, ok5, w⟩ := w
            refine G_callV (Z := mX12_orderBySize) (As := []) (st := []) hL_X12_267 hI_X12_orderBySize hS_X12_orderBySize hC_X12_orderBySize hN_X12 nX12_orderBySize (by decide) hs1 rfl rfl rfl (Nat.le_of_ble_eq_true rfl) dX12_sum_57 ok5 (fun r_ h_5 z_ => ?_)
            obtain ⟨rfl, q_5⟩ := z_
            have w := w h_5 q_5
            refine G_iload_n 1 rfl dX12_sum_60 rfl ?_
            refine G_iconst (v := 4) dX12_sum_61 (by decide) ?_
            refine G_icmp_ne (tgt := 72) dX12_sum_62 (by decide) (fun c6 => ?_) (fun c6 => ?_)
            · have w := w.1 c6
              refine G_aload_n 0 rfl dX12_sum_72 rfl ?_
              refine G_iconst (v := 0) dX12_sum_73 (by decide) ?_
              refine G_aload_n 0 rfl dX12_sum_74 rfl ?_
              refine G_geti (k := 22) hs1 (q := (RX12, TX12, 40)) rfl inX12 (by decide) (Or.inl rfl) hF_X12_247 dX12_sum_75 ?_
              obtain ⟨Q6, ok6, w⟩ := w
              refine G_callV (Z := mX12_sumOf) (As := [.int (0 : Int32), .int (h_5.1 r0 22)]) (st := []) hL_X12_250 hI_X12_sumOf hS_X12_sumOf hC_X12_sumOf hN_X12 nX12_sumOf (by decide) hs1 rfl rfl rfl (Nat.le_of_ble_eq_true rfl) dX12_sum_78 ok6 (fun r_ h_6 z_ => ?_)
              obtain ⟨v_6, rfl, q_6⟩ := z_
              have w := w v_6 h_6 q_6
              exact G_lret rfl dX12_sum_81 ⟨_, rfl, w⟩
            · have w := w.2 c6
              refine G_aload_n 0 rfl dX12_sum_65 rfl ?_
              obtain ⟨Q7, ok7, w⟩ := w
              refine G_callV (Z := mX12_wholeSum) (As := []) (st := []) hL_X12_270 hI_X12_wholeSum hS_X12_wholeSum hC_X12_wholeSum hN_X12 nX12_wholeSum (by decide) hs1 rfl rfl rfl (Nat.le_of_ble_eq_true rfl) dX12_sum_66 ok7 (fun r_ h_7 z_ => ?_)
              obtain ⟨v_7, rfl, q_7⟩ := z_
              have w := w v_7 h_7 q_7
              refine G_goto (tgt := 81) dX12_sum_69 (by decide) ?_
              exact G_lret rfl dX12_sum_81 ⟨_, rfl, w⟩
        · have w := w.2 c4
          refine G_aload_n 0 rfl dX12_sum_46 rfl ?_
          obtain ⟨Q8, ok8, w⟩ := w
          refine G_callV (Z := mX12_halves) (As := []) (st := []) hL_X12_264 hI_X12_halves hS_X12_halves hC_X12_halves hN_X12 nX12_halves (by decide) hs1 rfl rfl rfl (Nat.le_of_ble_eq_true rfl) dX12_sum_47 ok8 (fun r_ h_8 z_ => ?_)
          obtain ⟨v_8, rfl, q_8⟩ := z_
          have w := w v_8 h_8 q_8
          exact G_lret rfl dX12_sum_50 ⟨_, rfl, w⟩
      · have w := w.2 c3
        refine G_aload_n 0 rfl dX12_sum_36 rfl ?_
        obtain ⟨Q9, ok9, w⟩ := w
        refine G_callV (Z := mX12_beside) (As := []) (st := []) hL_X12_261 hI_X12_beside hS_X12_beside hC_X12_beside hN_X12 nX12_beside (by decide) hs1 rfl rfl rfl (Nat.le_of_ble_eq_true rfl) dX12_sum_37 ok9 (fun r_ h_9 z_ => ?_)
        obtain ⟨v_9, rfl, q_9⟩ := z_
        have w := w v_9 h_9 q_9
        exact G_lret rfl dX12_sum_40 ⟨_, rfl, w⟩
    · have w := w.2 c2
      refine G_ldc2 hK_X12_256 dX12_sum_23 ?_
      exact G_lret rfl dX12_sum_26 ⟨_, rfl, w⟩
  · have w := w.2 c1
    refine G_ldc2 hK_X12_153 dX12_sum_12 ?_
    exact G_lret rfl dX12_sum_15 ⟨_, rfl, w⟩
-- LostDigitsModel.nextOrder
theorem dX12_nextOrder_0 : decode cX12_nextOrder 0 = .ok (.aload_n 0, 1) := by decide +kernel
theorem dX12_nextOrder_1 : decode cX12_nextOrder 1 = .ok (.getfield 247, 3) := by decide +kernel
theorem dX12_nextOrder_4 : decode cX12_nextOrder 4 = .ok (.iconst 2, 1) := by decide +kernel
theorem dX12_nextOrder_5 : decode cX12_nextOrder 5 = .ok (.isub, 1) := by decide +kernel
theorem dX12_nextOrder_6 : decode cX12_nextOrder 6 = .ok (.istore_n 1, 1) := by decide +kernel
theorem dX12_nextOrder_7 : decode cX12_nextOrder 7 = .ok (.iload_n 1, 1) := by decide +kernel
theorem dX12_nextOrder_8 : decode cX12_nextOrder 8 = .ok (.ifCond .lt 26, 3) := by decide +kernel
theorem dX12_nextOrder_11 : decode cX12_nextOrder 11 = .ok (.aload_n 0, 1) := by decide +kernel
theorem dX12_nextOrder_12 : decode cX12_nextOrder 12 = .ok (.getfield 47, 3) := by decide +kernel
theorem dX12_nextOrder_15 : decode cX12_nextOrder 15 = .ok (.iload_n 1, 1) := by decide +kernel
theorem dX12_nextOrder_16 : decode cX12_nextOrder 16 = .ok (.iaload, 1) := by decide +kernel
theorem dX12_nextOrder_17 : decode cX12_nextOrder 17 = .ok (.aload_n 0, 1) := by decide +kernel
theorem dX12_nextOrder_18 : decode cX12_nextOrder 18 = .ok (.getfield 47, 3) := by decide +kernel
theorem dX12_nextOrder_21 : decode cX12_nextOrder 21 = .ok (.iload_n 1, 1) := by decide +kernel
theorem dX12_nextOrder_22 : decode cX12_nextOrder 22 = .ok (.iconst 1, 1) := by decide +kernel
theorem dX12_nextOrder_23 : decode cX12_nextOrder 23 = .ok (.iadd, 1) := by decide +kernel
theorem dX12_nextOrder_24 : decode cX12_nextOrder 24 = .ok (.iaload, 1) := by decide +kernel
theorem dX12_nextOrder_25 : decode cX12_nextOrder 25 = .ok (.if_icmp .le 9, 3) := by decide +kernel
theorem dX12_nextOrder_28 : decode cX12_nextOrder 28 = .ok (.iinc 1 (-1), 3) := by decide +kernel
theorem dX12_nextOrder_31 : decode cX12_nextOrder 31 = .ok (.goto (-24), 3) := by decide +kernel
theorem dX12_nextOrder_34 : decode cX12_nextOrder 34 = .ok (.iload_n 1, 1) := by decide +kernel
theorem dX12_nextOrder_35 : decode cX12_nextOrder 35 = .ok (.ifCond .ge 5, 3) := by decide +kernel
theorem dX12_nextOrder_38 : decode cX12_nextOrder 38 = .ok (.iconst 0, 1) := by decide +kernel
theorem dX12_nextOrder_39 : decode cX12_nextOrder 39 = .ok (.ireturn, 1) := by decide +kernel
theorem dX12_nextOrder_40 : decode cX12_nextOrder 40 = .ok (.aload_n 0, 1) := by decide +kernel
theorem dX12_nextOrder_41 : decode cX12_nextOrder 41 = .ok (.getfield 247, 3) := by decide +kernel
theorem dX12_nextOrder_44 : decode cX12_nextOrder 44 = .ok (.iconst 1, 1) := by decide +kernel
theorem dX12_nextOrder_45 : decode cX12_nextOrder 45 = .ok (.isub, 1) := by decide +kernel
theorem dX12_nextOrder_46 : decode cX12_nextOrder 46 = .ok (.istore_n 2, 1) := by decide +kernel
theorem dX12_nextOrder_47 : decode cX12_nextOrder 47 = .ok (.aload_n 0, 1) := by decide +kernel
theorem dX12_nextOrder_48 : decode cX12_nextOrder 48 = .ok (.getfield 47, 3) := by decide +kernel
theorem dX12_nextOrder_51 : decode cX12_nextOrder 51 = .ok (.iload_n 2, 1) := by decide +kernel
theorem dX12_nextOrder_52 : decode cX12_nextOrder 52 = .ok (.iaload, 1) := by decide +kernel
theorem dX12_nextOrder_53 : decode cX12_nextOrder 53 = .ok (.aload_n 0, 1) := by decide +kernel
theorem dX12_nextOrder_54 : decode cX12_nextOrder 54 = .ok (.getfield 47, 3) := by decide +kernel
theorem dX12_nextOrder_57 : decode cX12_nextOrder 57 = .ok (.iload_n 1, 1) := by decide +kernel
theorem dX12_nextOrder_58 : decode cX12_nextOrder 58 = .ok (.iaload, 1) := by decide +kernel
theorem dX12_nextOrder_59 : decode cX12_nextOrder 59 = .ok (.if_icmp .ge 9, 3) := by decide +kernel
theorem dX12_nextOrder_62 : decode cX12_nextOrder 62 = .ok (.iinc 2 (-1), 3) := by decide +kernel
theorem dX12_nextOrder_65 : decode cX12_nextOrder 65 = .ok (.goto (-18), 3) := by decide +kernel
theorem dX12_nextOrder_68 : decode cX12_nextOrder 68 = .ok (.aload_n 0, 1) := by decide +kernel
theorem dX12_nextOrder_69 : decode cX12_nextOrder 69 = .ok (.getfield 47, 3) := by decide +kernel
theorem dX12_nextOrder_72 : decode cX12_nextOrder 72 = .ok (.iload_n 1, 1) := by decide +kernel
theorem dX12_nextOrder_73 : decode cX12_nextOrder 73 = .ok (.iaload, 1) := by decide +kernel
theorem dX12_nextOrder_74 : decode cX12_nextOrder 74 = .ok (.istore_n 3, 1) := by decide +kernel
theorem dX12_nextOrder_75 : decode cX12_nextOrder 75 = .ok (.aload_n 0, 1) := by decide +kernel
theorem dX12_nextOrder_76 : decode cX12_nextOrder 76 = .ok (.getfield 47, 3) := by decide +kernel
theorem dX12_nextOrder_79 : decode cX12_nextOrder 79 = .ok (.iload_n 1, 1) := by decide +kernel
theorem dX12_nextOrder_80 : decode cX12_nextOrder 80 = .ok (.aload_n 0, 1) := by decide +kernel
theorem dX12_nextOrder_81 : decode cX12_nextOrder 81 = .ok (.getfield 47, 3) := by decide +kernel
theorem dX12_nextOrder_84 : decode cX12_nextOrder 84 = .ok (.iload_n 2, 1) := by decide +kernel
theorem dX12_nextOrder_85 : decode cX12_nextOrder 85 = .ok (.iaload, 1) := by decide +kernel
theorem dX12_nextOrder_86 : decode cX12_nextOrder 86 = .ok (.iastore, 1) := by decide +kernel
theorem dX12_nextOrder_87 : decode cX12_nextOrder 87 = .ok (.aload_n 0, 1) := by decide +kernel
theorem dX12_nextOrder_88 : decode cX12_nextOrder 88 = .ok (.getfield 47, 3) := by decide +kernel
theorem dX12_nextOrder_91 : decode cX12_nextOrder 91 = .ok (.iload_n 2, 1) := by decide +kernel
theorem dX12_nextOrder_92 : decode cX12_nextOrder 92 = .ok (.iload_n 3, 1) := by decide +kernel
theorem dX12_nextOrder_93 : decode cX12_nextOrder 93 = .ok (.iastore, 1) := by decide +kernel
theorem dX12_nextOrder_94 : decode cX12_nextOrder 94 = .ok (.iload_n 1, 1) := by decide +kernel
theorem dX12_nextOrder_95 : decode cX12_nextOrder 95 = .ok (.iconst 1, 1) := by decide +kernel
theorem dX12_nextOrder_96 : decode cX12_nextOrder 96 = .ok (.iadd, 1) := by decide +kernel
theorem dX12_nextOrder_97 : decode cX12_nextOrder 97 = .ok (.istore 4, 2) := by decide +kernel
theorem dX12_nextOrder_99 : decode cX12_nextOrder 99 = .ok (.aload_n 0, 1) := by decide +kernel
theorem dX12_nextOrder_100 : decode cX12_nextOrder 100 = .ok (.getfield 247, 3) := by decide +kernel
theorem dX12_nextOrder_103 : decode cX12_nextOrder 103 = .ok (.iconst 1, 1) := by decide +kernel
theorem dX12_nextOrder_104 : decode cX12_nextOrder 104 = .ok (.isub, 1) := by decide +kernel
theorem dX12_nextOrder_105 : decode cX12_nextOrder 105 = .ok (.istore 5, 2) := by decide +kernel
theorem dX12_nextOrder_107 : decode cX12_nextOrder 107 = .ok (.iload 4, 2) := by decide +kernel
theorem dX12_nextOrder_109 : decode cX12_nextOrder 109 = .ok (.iload 5, 2) := by decide +kernel
theorem dX12_nextOrder_111 : decode cX12_nextOrder 111 = .ok (.if_icmp .ge 42, 3) := by decide +kernel
theorem dX12_nextOrder_114 : decode cX12_nextOrder 114 = .ok (.aload_n 0, 1) := by decide +kernel
theorem dX12_nextOrder_115 : decode cX12_nextOrder 115 = .ok (.getfield 47, 3) := by decide +kernel
theorem dX12_nextOrder_118 : decode cX12_nextOrder 118 = .ok (.iload 4, 2) := by decide +kernel
theorem dX12_nextOrder_120 : decode cX12_nextOrder 120 = .ok (.iaload, 1) := by decide +kernel
theorem dX12_nextOrder_121 : decode cX12_nextOrder 121 = .ok (.istore_n 3, 1) := by decide +kernel
theorem dX12_nextOrder_122 : decode cX12_nextOrder 122 = .ok (.aload_n 0, 1) := by decide +kernel
theorem dX12_nextOrder_123 : decode cX12_nextOrder 123 = .ok (.getfield 47, 3) := by decide +kernel
theorem dX12_nextOrder_126 : decode cX12_nextOrder 126 = .ok (.iload 4, 2) := by decide +kernel
theorem dX12_nextOrder_128 : decode cX12_nextOrder 128 = .ok (.aload_n 0, 1) := by decide +kernel
theorem dX12_nextOrder_129 : decode cX12_nextOrder 129 = .ok (.getfield 47, 3) := by decide +kernel
theorem dX12_nextOrder_132 : decode cX12_nextOrder 132 = .ok (.iload 5, 2) := by decide +kernel
theorem dX12_nextOrder_134 : decode cX12_nextOrder 134 = .ok (.iaload, 1) := by decide +kernel
theorem dX12_nextOrder_135 : decode cX12_nextOrder 135 = .ok (.iastore, 1) := by decide +kernel
theorem dX12_nextOrder_136 : decode cX12_nextOrder 136 = .ok (.aload_n 0, 1) := by decide +kernel
theorem dX12_nextOrder_137 : decode cX12_nextOrder 137 = .ok (.getfield 47, 3) := by decide +kernel
theorem dX12_nextOrder_140 : decode cX12_nextOrder 140 = .ok (.iload 5, 2) := by decide +kernel
theorem dX12_nextOrder_142 : decode cX12_nextOrder 142 = .ok (.iload_n 3, 1) := by decide +kernel
theorem dX12_nextOrder_143 : decode cX12_nextOrder 143 = .ok (.iastore, 1) := by decide +kernel
theorem dX12_nextOrder_144 : decode cX12_nextOrder 144 = .ok (.iinc 4 1, 3) := by decide +kernel
theorem dX12_nextOrder_147 : decode cX12_nextOrder 147 = .ok (.iinc 5 (-1), 3) := by decide +kernel
theorem dX12_nextOrder_150 : decode cX12_nextOrder 150 = .ok (.goto (-43), 3) := by decide +kernel
theorem dX12_nextOrder_153 : decode cX12_nextOrder 153 = .ok (.iconst 1, 1) := by decide +kernel
theorem dX12_nextOrder_154 : decode cX12_nextOrder 154 = .ok (.ireturn, 1) := by decide +kernel
set_option maxRecDepth 10000 in
theorem NX12_nextOrder_0 {d : Nat} {S : fW} {h : fH} {Q : Int32 → fH → Prop} {r0 : Nat} {r0_pad r0_text r0_number r0_span r0_now r0_sizeOf r0_workedTo r0_slip r0_exactUpper r0_exactLower r0_more r0_terms r0_order r0_bestOrder r0_low r0_high r0_built r0_better r0_base r0_kept r0_isKept : Nat}  
    (hs1 : (r0, shX12 r0_pad r0_text r0_number r0_span r0_now r0_sizeOf r0_workedTo r0_slip r0_exactUpper r0_exactLower r0_more r0_terms r0_order r0_bestOrder r0_low r0_high r0_built r0_better r0_base r0_kept r0_isKept) ∈ S)
    (w : G mX12_nextOrder d S (f_PI Q) 7 [(0, .ref r0), (1, .int ((h.1 r0 22) - (2 : Int32)))] [] h) :
    OkI d mX12_nextOrder S [.ref r0] h Q := by
  refine Ok.of (by decide) (Nat.le_of_ble_eq_true rfl) ?_
  refine G_aload_n 0 rfl dX12_nextOrder_0 rfl ?_
  refine G_geti (k := 22) hs1 (q := (RX12, TX12, 40)) rfl inX12 (by decide) (Or.inl rfl) hF_X12_247 dX12_nextOrder_1 ?_
  refine G_iconst (v := 2) dX12_nextOrder_4 (by decide) ?_
  refine G_isub dX12_nextOrder_5 ?_
  refine G_istore_n dX12_nextOrder_6 rfl (by decide) (lv' := [(1, .int ((h.1 r0 22) - (2 : Int32))), (0, .ref r0)]) rfl ?_
  exact G_sub [1, 0] rfl w

set_option maxRecDepth 10000 in
theorem NX12_nextOrder_7 {d : Nat} {S : fW} {h : fH} {Q : Int32 → fH → Prop} {r0 : Nat} {x1 : Int32} {r0_pad r0_text r0_number r0_span r0_now r0_sizeOf r0_workedTo r0_slip r0_exactUpper r0_exactLower r0_more r0_terms r0_order r0_bestOrder r0_low r0_high r0_built r0_better r0_base r0_kept r0_isKept : Nat}  
    (hs1 : (r0, shX12 r0_pad r0_text r0_number r0_span r0_now r0_sizeOf r0_workedTo r0_slip r0_exactUpper r0_exactLower r0_more r0_terms r0_order r0_bestOrder r0_low r0_high r0_built r0_better r0_base r0_kept r0_isKept) ∈ S)
    (hs2 : (r0_order, shI 7) ∈ S)
    (w : ((x1 < 0 → ((0 ≤ x1 → G mX12_nextOrder d S (f_PI Q) 47 [(0, .ref r0), (1, .int x1), (2, .int ((h.1 r0 22) - (1 : Int32)))] [] h) ∧ (¬ 0 ≤ x1 → Q (0 : Int32) h))) ∧ (¬ x1 < 0 → vp_in x1 7 ∧ vp_in (x1 + (1 : Int32)) 7 ∧ (((h.2.2.1 r0_order x1.toNatClampNeg) ≤ (h.2.2.1 r0_order (x1 + (1 : Int32)).toNatClampNeg) → ((0 ≤ x1 → G mX12_nextOrder d S (f_PI Q) 47 [(0, .ref r0), (1, .int x1), (2, .int ((h.1 r0 22) - (1 : Int32)))] [] h) ∧ (¬ 0 ≤ x1 → Q (0 : Int32) h))) ∧ (¬ (h.2.2.1 r0_order x1.toNatClampNeg) ≤ (h.2.2.1 r0_order (x1 + (1 : Int32)).toNatClampNeg) → G mX12_nextOrder d S (f_PI Q) 7 [(0, .ref r0), (1, .int (x1 + (-1)))] [] h))))) :
    G mX12_nextOrder d S (f_PI Q) 7 [(0, .ref r0), (1, .int x1)] [] h := by
  refine G_iload_n 1 rfl dX12_nextOrder_7 rfl ?_
  refine G_if_lt (tgt := 34) dX12_nextOrder_8 (by decide) (fun c1 => ?_) (fun c1 => ?_)
  · have w := w.1 c1
    refine G_iload_n 1 rfl dX12_nextOrder_34 rfl ?_
    refine G_if_ge (tgt := 40) dX12_nextOrder_35 (by decide) (fun c2 => ?_) (fun c2 => ?_)
    · have w := w.1 c2
      refine G_aload_n 0 rfl dX12_nextOrder_40 rfl ?_
      refine G_geti (k := 22) hs1 (q := (RX12, TX12, 40)) rfl inX12 (by decide) (Or.inl rfl) hF_X12_247 dX12_nextOrder_41 ?_
      refine G_iconst (v := 1) dX12_nextOrder_44 (by decide) ?_
      refine G_isub dX12_nextOrder_45 ?_
      refine G_istore_n dX12_nextOrder_46 rfl (by decide) (lv' := [(2, .int ((h.1 r0 22) - (1 : Int32))), (0, .ref r0), (1, .int x1)]) rfl ?_
      exact G_sub [1, 2, 0] rfl w
    · have w := w.2 c2
      refine G_iconst (v := 0) dX12_nextOrder_38 (by decide) ?_
      exact G_zret rfl (Or.inl rfl) dX12_nextOrder_39 ⟨_, rfl, w⟩
  · have w := w.2 c1
    refine G_aload_n 0 rfl dX12_nextOrder_11 rfl ?_
    refine G_getr (j := r0_order) (k := 23) hs1 (q := (RX12, TX12, 40)) rfl inX12 (by decide) rfl hF_X12_47 dX12_nextOrder_12 ?_
    refine G_iload_n 1 rfl dX12_nextOrder_15 rfl ?_
    obtain ⟨sd1, w⟩ := w
    refine G_iald hs2 sd1 dX12_nextOrder_16 ?_
    refine G_aload_n 0 rfl dX12_nextOrder_17 rfl ?_
    refine G_getr (j := r0_order) (k := 23) hs1 (q := (RX12, TX12, 40)) rfl inX12 (by decide) rfl hF_X12_47 dX12_nextOrder_18 ?_
    refine G_iload_n 1 rfl dX12_nextOrder_21 rfl ?_
    refine G_iconst (v := 1) dX12_nextOrder_22 (by decide) ?_
    refine G_iadd dX12_nextOrder_23 ?_
    obtain ⟨sd2, w⟩ := w
    refine G_iald hs2 sd2 dX12_nextOrder_24 ?_
    refine G_icmp_le (tgt := 34) dX12_nextOrder_25 (by decide) (fun c2 => ?_) (fun c2 => ?_)
    · have w := w.1 c2
      refine G_iload_n 1 rfl dX12_nextOrder_34 rfl ?_
      refine G_if_ge (tgt := 40) dX12_nextOrder_35 (by decide) (fun c3 => ?_) (fun c3 => ?_)
      · have w := w.1 c3
        refine G_aload_n 0 rfl dX12_nextOrder_40 rfl ?_
        refine G_geti (k := 22) hs1 (q := (RX12, TX12, 40)) rfl inX12 (by decide) (Or.inl rfl) hF_X12_247 dX12_nextOrder_41 ?_
        refine G_iconst (v := 1) dX12_nextOrder_44 (by decide) ?_
        refine G_isub dX12_nextOrder_45 ?_
        refine G_istore_n dX12_nextOrder_46 rfl (by decide) (lv' := [(2, .int ((h.1 r0 22) - (1 : Int32))), (0, .ref r0), (1, .int x1)]) rfl ?_
        exact G_sub [1, 2, 0] rfl w
      · have w := w.2 c3
        refine G_iconst (v := 0) dX12_nextOrder_38 (by decide) ?_
        exact G_zret rfl (Or.inl rfl) dX12_nextOrder_39 ⟨_, rfl, w⟩
    · have w := w.2 c2
      refine G_iinc (v := -1) 1 rfl dX12_nextOrder_28 (by decide) (by decide) (lv' := [(1, .int (x1 + (-1))), (0, .ref r0)]) rfl ?_
      refine G_goto (tgt := 7) dX12_nextOrder_31 (by decide) ?_
      exact G_sub [1, 0] rfl w

set_option maxRecDepth 10000 in
theorem NX12_nextOrder_47 {d : Nat} {S : fW} {h : fH} {Q : Int32 → fH → Prop} {r0 : Nat} {x1 : Int32} {x2 : Int32} {r0_pad r0_text r0_number r0_span r0_now r0_sizeOf r0_workedTo r0_slip r0_exactUpper r0_exactLower r0_more r0_terms r0_order r0_bestOrder r0_low r0_high r0_built r0_better r0_base r0_kept r0_isKept : Nat}  
    (hs1 : (r0, shX12 r0_pad r0_text r0_number r0_span r0_now r0_sizeOf r0_workedTo r0_slip r0_exactUpper r0_exactLower r0_more r0_terms r0_order r0_bestOrder r0_low r0_high r0_built r0_better r0_base r0_kept r0_isKept) ∈ S)
    (hs2 : (r0_order, shI 7) ∈ S)
    (w : vp_in x2 7 ∧ vp_in x1 7 ∧ (((h.2.2.1 r0_order x1.toNatClampNeg) ≤ (h.2.2.1 r0_order x2.toNatClampNeg) → ∀ g_1 : fH, g_1 = u_ai h r0_order (upd (h.2.2.1 r0_order) x1.toNatClampNeg (h.2.2.1 r0_order x2.toNatClampNeg)) → ∀ g_2 : fH, g_2 = u_ai g_1 r0_order (upd (g_1.2.2.1 r0_order) x2.toNatClampNeg (h.2.2.1 r0_order x1.toNatClampNeg)) → G mX12_nextOrder d S (f_PI Q) 107 [(0, .ref r0), (4, .int (x1 + (1 : Int32))), (5, .int ((g_2.1 r0 22) - (1 : Int32)))] [] g_2) ∧ (¬ (h.2.2.1 r0_order x1.toNatClampNeg) ≤ (h.2.2.1 r0_order x2.toNatClampNeg) → G mX12_nextOrder d S (f_PI Q) 47 [(0, .ref r0), (1, .int x1), (2, .int (x2 + (-1)))] [] h))) :
    G mX12_nextOrder d S (f_PI Q) 47 [(0, .ref r0), (1, .int x1), (2, .int x2)] [] h := by
  refine G_aload_n 0 rfl dX12_nextOrder_47 rfl ?_
  refine G_getr (j := r0_order) (k := 23) hs1 (q := (RX12, TX12, 40)) rfl inX12 (by decide) rfl hF_X12_47 dX12_nextOrder_48 ?_
  refine G_iload_n 2 rfl dX12_nextOrder_51 rfl ?_
  obtain ⟨sd1, w⟩ := w
  refine G_iald hs2 sd1 dX12_nextOrder_52 ?_
  refine G_aload_n 0 rfl dX12_nextOrder_53 rfl ?_
  refine G_getr (j := r0_order) (k := 23) hs1 (q := (RX12, TX12, 40)) rfl inX12 (by decide) rfl hF_X12_47 dX12_nextOrder_54 ?_
  refine G_iload_n 1 rfl dX12_nextOrder_57 rfl ?_
  obtain ⟨sd2, w⟩ := w
  refine G_iald hs2 sd2 dX12_nextOrder_58 ?_
  refine G_icmp_ge (tgt := 68) dX12_nextOrder_59 (by decide) (fun c1 => ?_) (fun c1 => ?_)
  · have w := w.1 c1
    refine G_aload_n 0 rfl dX12_nextOrder_68 rfl ?_
    refine G_getr (j := r0_order) (k := 23) hs1 (q := (RX12, TX12, 40)) rfl inX12 (by decide) rfl hF_X12_47 dX12_nextOrder_69 ?_
    refine G_iload_n 1 rfl dX12_nextOrder_72 rfl ?_
    refine G_iald hs2 sd2 dX12_nextOrder_73 ?_
    refine G_istore_n dX12_nextOrder_74 rfl (by decide) (lv' := [(3, .int (h.2.2.1 r0_order x1.toNatClampNeg)), (0, .ref r0), (1, .int x1), (2, .int x2)]) rfl ?_
    refine G_aload_n 1 rfl dX12_nextOrder_75 rfl ?_
    refine G_getr (j := r0_order) (k := 23) hs1 (q := (RX12, TX12, 40)) rfl inX12 (by decide) rfl hF_X12_47 dX12_nextOrder_76 ?_
    refine G_iload_n 2 rfl dX12_nextOrder_79 rfl ?_
    refine G_aload_n 1 rfl dX12_nextOrder_80 rfl ?_
    refine G_getr (j := r0_order) (k := 23) hs1 (q := (RX12, TX12, 40)) rfl inX12 (by decide) rfl hF_X12_47 dX12_nextOrder_81 ?_
    refine G_iload_n 3 rfl dX12_nextOrder_84 rfl ?_
    refine G_iald hs2 sd1 dX12_nextOrder_85 ?_
    refine G_iast hs2 sd2 dX12_nextOrder_86 ?_
    refine G_nm (fun g_1 e_1 => ?_)
    have w := w g_1 e_1
    refine G_aload_n 1 rfl dX12_nextOrder_87 rfl ?_
    refine G_getr (j := r0_order) (k := 23) hs1 (q := (RX12, TX12, 40)) rfl inX12 (by decide) rfl hF_X12_47 dX12_nextOrder_88 ?_
    refine G_iload_n 3 rfl dX12_nextOrder_91 rfl ?_
    refine G_iload_n 0 rfl dX12_nextOrder_92 rfl ?_
    refine G_iast hs2 sd1 dX12_nextOrder_93 ?_
    refine G_nm (fun g_2 e_2 => ?_)
    have w := w g_2 e_2
    refine G_iload_n 2 rfl dX12_nextOrder_94 rfl ?_
    refine G_iconst (v := 1) dX12_nextOrder_95 (by decide) ?_
    refine G_iadd dX12_nextOrder_96 ?_
    refine G_istore dX12_nextOrder_97 (by decide) (lv' := [(4, .int (x1 + (1 : Int32))), (3, .int (h.2.2.1 r0_order x1.toNatClampNeg)), (0, .ref r0), (1, .int x1), (2, .int x2)]) rfl ?_
    refine G_aload_n 2 rfl dX12_nextOrder_99 rfl ?_
    refine G_geti (k := 22) hs1 (q := (RX12, TX12, 40)) rfl inX12 (by decide) (Or.inl rfl) hF_X12_247 dX12_nextOrder_100 ?_
    refine G_iconst (v := 1) dX12_nextOrder_103 (by decide) ?_
    refine G_isub dX12_nextOrder_104 ?_
    refine G_istore dX12_nextOrder_105 (by decide) (lv' := [(5, .int ((g_2.1 r0 22) - (1 : Int32))), (4, .int (x1 + (1 : Int32))), (3, .int (h.2.2.1 r0_order x1.toNatClampNeg)), (0, .ref r0), (1, .int x1), (2, .int x2)]) rfl ?_
    exact G_sub [3, 1, 0] rfl w
  · have w := w.2 c1
    refine G_iinc (v := -1) 2 rfl dX12_nextOrder_62 (by decide) (by decide) (lv' := [(2, .int (x2 + (-1))), (0, .ref r0), (1, .int x1)]) rfl ?_
    refine G_goto (tgt := 47) dX12_nextOrder_65 (by decide) ?_
    exact G_sub [1, 2, 0] rfl w

set_option maxRecDepth 10000 in
theorem NX12_nextOrder_107 {d : Nat} {S : fW} {h : fH} {Q : Int32 → fH → Prop} {r0 : Nat} {x4 : Int32} {x5 : Int32} {r0_pad r0_text r0_number r0_span r0_now r0_sizeOf r0_workedTo r0_slip r0_exactUpper r0_exactLower r0_more r0_terms r0_order r0_bestOrder r0_low r0_high r0_built r0_better r0_base r0_kept r0_isKept : Nat}  
    (hs1 : (r0, shX12 r0_pad r0_text r0_number r0_span r0_now r0_sizeOf r0_workedTo r0_slip r0_exactUpper r0_exactLower r0_more r0_terms r0_order r0_bestOrder r0_low r0_high r0_built r0_better r0_base r0_kept r0_isKept) ∈ S)
    (hs2 : (r0_order, shI 7) ∈ S)
    (w : ((x5 ≤ x4 → Q (1 : Int32) h) ∧ (¬ x5 ≤ x4 → vp_in x4 7 ∧ vp_in x5 7 ∧ ∀ g_1 : fH, g_1 = u_ai h r0_order (upd (h.2.2.1 r0_order) x4.toNatClampNeg (h.2.2.1 r0_order x5.toNatClampNeg)) → ∀ g_2 : fH, g_2 = u_ai g_1 r0_order (upd (g_1.2.2.1 r0_order) x5.toNatClampNeg (h.2.2.1 r0_order x4.toNatClampNeg)) → G mX12_nextOrder d S (f_PI Q) 107 [(0, .ref r0), (4, .int (x4 + 1)), (5, .int (x5 + (-1)))] [] g_2))) :
    G mX12_nextOrder d S (f_PI Q) 107 [(0, .ref r0), (4, .int x4), (5, .int x5)] [] h := by
  refine G_iload 1 rfl dX12_nextOrder_107 ?_
  refine G_iload 2 rfl dX12_nextOrder_109 ?_
  refine G_icmp_ge (tgt := 153) dX12_nextOrder_111 (by decide) (fun c1 => ?_) (fun c1 => ?_)
  · have w := w.1 c1
    refine G_iconst (v := 1) dX12_nextOrder_153 (by decide) ?_
    exact G_zret rfl (Or.inr rfl) dX12_nextOrder_154 ⟨_, rfl, w⟩
  · have w := w.2 c1
    refine G_aload_n 0 rfl dX12_nextOrder_114 rfl ?_
    refine G_getr (j := r0_order) (k := 23) hs1 (q := (RX12, TX12, 40)) rfl inX12 (by decide) rfl hF_X12_47 dX12_nextOrder_115 ?_
    refine G_iload 1 rfl dX12_nextOrder_118 ?_
    obtain ⟨sd1, w⟩ := w
    refine G_iald hs2 sd1 dX12_nextOrder_120 ?_
    refine G_istore_n dX12_nextOrder_121 rfl (by decide) (lv' := [(3, .int (h.2.2.1 r0_order x4.toNatClampNeg)), (0, .ref r0), (4, .int x4), (5, .int x5)]) rfl ?_
    refine G_aload_n 1 rfl dX12_nextOrder_122 rfl ?_
    refine G_getr (j := r0_order) (k := 23) hs1 (q := (RX12, TX12, 40)) rfl inX12 (by decide) rfl hF_X12_47 dX12_nextOrder_123 ?_
    refine G_iload 2 rfl dX12_nextOrder_126 ?_
    refine G_aload_n 1 rfl dX12_nextOrder_128 rfl ?_
    refine G_getr (j := r0_order) (k := 23) hs1 (q := (RX12, TX12, 40)) rfl inX12 (by decide) rfl hF_X12_47 dX12_nextOrder_129 ?_
    refine G_iload 3 rfl dX12_nextOrder_132 ?_
    obtain ⟨sd2, w⟩ := w
    refine G_iald hs2 sd2 dX12_nextOrder_134 ?_
    refine G_iast hs2 sd1 dX12_nextOrder_135 ?_
    refine G_nm (fun g_1 e_1 => ?_)
    have w := w g_1 e_1
    refine G_aload_n 1 rfl dX12_nextOrder_136 rfl ?_
    refine G_getr (j := r0_order) (k := 23) hs1 (q := (RX12, TX12, 40)) rfl inX12 (by decide) rfl hF_X12_47 dX12_nextOrder_137 ?_
    refine G_iload 3 rfl dX12_nextOrder_140 ?_
    refine G_iload_n 0 rfl dX12_nextOrder_142 rfl ?_
    refine G_iast hs2 sd2 dX12_nextOrder_143 ?_
    refine G_nm (fun g_2 e_2 => ?_)
    have w := w g_2 e_2
    refine G_iinc (v := 1) 2 rfl dX12_nextOrder_144 (by decide) (by decide) (lv' := [(4, .int (x4 + 1)), (3, .int (h.2.2.1 r0_order x4.toNatClampNeg)), (0, .ref r0), (5, .int x5)]) rfl ?_
    refine G_iinc (v := -1) 3 rfl dX12_nextOrder_147 (by decide) (by decide) (lv' := [(5, .int (x5 + (-1))), (4, .int (x4 + 1)), (3, .int (h.2.2.1 r0_order x4.toNatClampNeg)), (0, .ref r0)]) rfl ?_
    refine G_goto (tgt := 107) dX12_nextOrder_150 (by decide) ?_
    exact G_sub [3, 1, 0] rfl w
-- LostDigitsModel.isBetter
theorem dX12_isBetter_0 : decode cX12_isBetter 0 = .ok (.aload_n 0, 1) := by decide +kernel
theorem dX12_isBetter_1 : decode cX12_isBetter 1 = .ok (.getfield 273, 3) := by decide +kernel
theorem dX12_isBetter_4 : decode cX12_isBetter 4 = .ok (.ifCond .ne 5, 3) := by decide +kernel
theorem dX12_isBetter_7 : decode cX12_isBetter 7 = .ok (.iconst 1, 1) := by decide +kernel
theorem dX12_isBetter_8 : decode cX12_isBetter 8 = .ok (.ireturn, 1) := by decide +kernel
theorem dX12_isBetter_9 : decode cX12_isBetter 9 = .ok (.lload_n 2, 1) := by decide +kernel
theorem dX12_isBetter_10 : decode cX12_isBetter 10 = .ok (.invokestatic 98, 3) := by decide +kernel
theorem dX12_isBetter_13 : decode cX12_isBetter 13 = .ok (.lstore 4, 2) := by decide +kernel
theorem dX12_isBetter_15 : decode cX12_isBetter 15 = .ok (.aload_n 0, 1) := by decide +kernel
theorem dX12_isBetter_16 : decode cX12_isBetter 16 = .ok (.getfield 276, 3) := by decide +kernel
theorem dX12_isBetter_19 : decode cX12_isBetter 19 = .ok (.invokestatic 98, 3) := by decide +kernel
theorem dX12_isBetter_22 : decode cX12_isBetter 22 = .ok (.lstore 6, 2) := by decide +kernel
theorem dX12_isBetter_24 : decode cX12_isBetter 24 = .ok (.iload_n 1, 1) := by decide +kernel
theorem dX12_isBetter_25 : decode cX12_isBetter 25 = .ok (.ifCond .ne 36, 3) := by decide +kernel
theorem dX12_isBetter_28 : decode cX12_isBetter 28 = .ok (.lload 4, 2) := by decide +kernel
theorem dX12_isBetter_30 : decode cX12_isBetter 30 = .ok (.lload 6, 2) := by decide +kernel
theorem dX12_isBetter_32 : decode cX12_isBetter 32 = .ok (.lcmp, 1) := by decide +kernel
theorem dX12_isBetter_33 : decode cX12_isBetter 33 = .ok (.ifCond .lt 20, 3) := by decide +kernel
theorem dX12_isBetter_36 : decode cX12_isBetter 36 = .ok (.lload 4, 2) := by decide +kernel
theorem dX12_isBetter_38 : decode cX12_isBetter 38 = .ok (.lload 6, 2) := by decide +kernel
theorem dX12_isBetter_40 : decode cX12_isBetter 40 = .ok (.lcmp, 1) := by decide +kernel
theorem dX12_isBetter_41 : decode cX12_isBetter 41 = .ok (.ifCond .ne 16, 3) := by decide +kernel
theorem dX12_isBetter_44 : decode cX12_isBetter 44 = .ok (.lload_n 2, 1) := by decide +kernel
theorem dX12_isBetter_45 : decode cX12_isBetter 45 = .ok (.aload_n 0, 1) := by decide +kernel
theorem dX12_isBetter_46 : decode cX12_isBetter 46 = .ok (.getfield 276, 3) := by decide +kernel
theorem dX12_isBetter_49 : decode cX12_isBetter 49 = .ok (.lcmp, 1) := by decide +kernel
theorem dX12_isBetter_50 : decode cX12_isBetter 50 = .ok (.ifCond .le 7, 3) := by decide +kernel
theorem dX12_isBetter_53 : decode cX12_isBetter 53 = .ok (.iconst 1, 1) := by decide +kernel
theorem dX12_isBetter_54 : decode cX12_isBetter 54 = .ok (.goto 37, 3) := by decide +kernel
theorem dX12_isBetter_57 : decode cX12_isBetter 57 = .ok (.iconst 0, 1) := by decide +kernel
theorem dX12_isBetter_58 : decode cX12_isBetter 58 = .ok (.goto 33, 3) := by decide +kernel
theorem dX12_isBetter_61 : decode cX12_isBetter 61 = .ok (.lload 4, 2) := by decide +kernel
theorem dX12_isBetter_63 : decode cX12_isBetter 63 = .ok (.lload 6, 2) := by decide +kernel
theorem dX12_isBetter_65 : decode cX12_isBetter 65 = .ok (.lcmp, 1) := by decide +kernel
theorem dX12_isBetter_66 : decode cX12_isBetter 66 = .ok (.ifCond .gt 20, 3) := by decide +kernel
theorem dX12_isBetter_69 : decode cX12_isBetter 69 = .ok (.lload 4, 2) := by decide +kernel
theorem dX12_isBetter_71 : decode cX12_isBetter 71 = .ok (.lload 6, 2) := by decide +kernel
theorem dX12_isBetter_73 : decode cX12_isBetter 73 = .ok (.lcmp, 1) := by decide +kernel
theorem dX12_isBetter_74 : decode cX12_isBetter 74 = .ok (.ifCond .ne 16, 3) := by decide +kernel
theorem dX12_isBetter_77 : decode cX12_isBetter 77 = .ok (.lload_n 2, 1) := by decide +kernel
theorem dX12_isBetter_78 : decode cX12_isBetter 78 = .ok (.aload_n 0, 1) := by decide +kernel
theorem dX12_isBetter_79 : decode cX12_isBetter 79 = .ok (.getfield 276, 3) := by decide +kernel
theorem dX12_isBetter_82 : decode cX12_isBetter 82 = .ok (.lcmp, 1) := by decide +kernel
theorem dX12_isBetter_83 : decode cX12_isBetter 83 = .ok (.ifCond .le 7, 3) := by decide +kernel
theorem dX12_isBetter_86 : decode cX12_isBetter 86 = .ok (.iconst 1, 1) := by decide +kernel
theorem dX12_isBetter_87 : decode cX12_isBetter 87 = .ok (.goto 4, 3) := by decide +kernel
theorem dX12_isBetter_90 : decode cX12_isBetter 90 = .ok (.iconst 0, 1) := by decide +kernel
theorem dX12_isBetter_91 : decode cX12_isBetter 91 = .ok (.ireturn, 1) := by decide +kernel
set_option maxRecDepth 10000 in
theorem NX12_isBetter_0 {d : Nat} {S : fW} {h : fH} {Q : Int32 → fH → Prop} {r0 : Nat} {x1 : Int32} {x2 : Int64} {r0_pad r0_text r0_number r0_span r0_now r0_sizeOf r0_workedTo r0_slip r0_exactUpper r0_exactLower r0_more r0_terms r0_order r0_bestOrder r0_low r0_high r0_built r0_better r0_base r0_kept r0_isKept : Nat}  
    (hs1 : (r0, shX12 r0_pad r0_text r0_number r0_span r0_now r0_sizeOf r0_workedTo r0_slip r0_exactUpper r0_exactLower r0_more r0_terms r0_order r0_bestOrder r0_low r0_high r0_built r0_better r0_base r0_kept r0_isKept) ∈ S)
    (w : ((¬ (h.1 r0 25) = 0 → ∃ Q1 : Int64 → fH → Prop, OkL d mX12_size S [.long x2] h Q1 ∧ ∀ (v_1 : Int64) (h_1 : fH), Q1 v_1 h_1 → ∃ Q2 : Int64 → fH → Prop, OkL d mX12_size S [.long (h_1.2.1 r0 24)] h_1 Q2 ∧ ∀ (v_2 : Int64) (h_2 : fH), Q2 v_2 h_2 → ((¬ x1 = 0 → ((v_2 < v_1 → Q (1 : Int32) h_2) ∧ (¬ v_2 < v_1 → ((¬ v_1 = v_2 → Q (0 : Int32) h_2) ∧ (v_1 = v_2 → ((x2 ≤ (h_2.2.1 r0 24) → Q (0 : Int32) h_2) ∧ (¬ x2 ≤ (h_2.2.1 r0 24) → Q (1 : Int32) h_2))))))) ∧ (x1 = 0 → ((v_1 < v_2 → Q (1 : Int32) h_2) ∧ (¬ v_1 < v_2 → ((¬ v_1 = v_2 → Q (0 : Int32) h_2) ∧ (v_1 = v_2 → ((x2 ≤ (h_2.2.1 r0 24) → Q (0 : Int32) h_2) ∧ (¬ x2 ≤ (h_2.2.1 r0 24) → Q (1 : Int32) h_2))))))))) ∧ ((h.1 r0 25) = 0 → Q (1 : Int32) h))) :
    OkI (d + 1) mX12_isBetter S [.ref r0, .int x1, .long x2] h Q := by
  refine Ok.of (by decide) (Nat.le_of_ble_eq_true rfl) ?_
  refine G_aload_n 0 rfl dX12_isBetter_0 rfl ?_
  refine G_geti (k := 25) hs1 (q := (RX12, TX12, 40)) rfl inX12 (by decide) (Or.inl rfl) hF_X12_273 dX12_isBetter_1 ?_
  refine G_if_ne (tgt := 9) dX12_isBetter_4 (by decide) (fun c1 => ?_) (fun c1 => ?_)
  · have w := w.1 c1
    refine G_lload_n 2 rfl dX12_isBetter_9 rfl ?_
    obtain ⟨Q1, ok1, w⟩ := w
    refine G_callS (Z := mX12_size) (As := [.long x2]) (st := []) hL_X12_98 hT_X12_size hC_X12_size hN_X12 nX12_size (by decide) rfl (Nat.le_of_ble_eq_true rfl) dX12_isBetter_10 ok1 (fun r_ h_1 z_ => ?_)
    obtain ⟨v_1, rfl, q_1⟩ := z_
    have w := w v_1 h_1 q_1
    refine G_lstore dX12_isBetter_13 (by decide) (lv' := [(4, .long v_1), (0, .ref r0), (1, .int x1), (2, .long x2)]) rfl ?_
    refine G_aload_n 1 rfl dX12_isBetter_15 rfl ?_
    refine G_getl (k := 24) hs1 (q := (RX12, TX12, 40)) rfl inX12 (by decide) rfl hF_X12_276 dX12_isBetter_16 ?_
    obtain ⟨Q2, ok2, w⟩ := w
    refine G_callS (Z := mX12_size) (As := [.long (h_1.2.1 r0 24)]) (st := []) hL_X12_98 hT_X12_size hC_X12_size hN_X12 nX12_size (by decide) rfl (Nat.le_of_ble_eq_true rfl) dX12_isBetter_19 ok2 (fun r_ h_2 z_ => ?_)
    obtain ⟨v_2, rfl, q_2⟩ := z_
    have w := w v_2 h_2 q_2
    refine G_lstore dX12_isBetter_22 (by decide) (lv' := [(6, .long v_2), (4, .long v_1), (0, .ref r0), (1, .int x1), (2, .long x2)]) rfl ?_
    refine G_iload_n 3 rfl dX12_isBetter_24 rfl ?_
    refine G_if_ne (tgt := 61) dX12_isBetter_25 (by decide) (fun c2 => ?_) (fun c2 => ?_)
    · have w := w.1 c2
      refine G_lload 1 rfl dX12_isBetter_61 ?_
      refine G_lload 0 rfl dX12_isBetter_63 ?_
      refine G_lif_gt (tgt := 86) dX12_isBetter_65 dX12_isBetter_66 (by decide) (fun c3 => ?_) (fun c3 => ?_)
      · have w := w.1 c3
        refine G_iconst (v := 1) dX12_isBetter_86 (by decide) ?_
        refine G_goto (tgt := 91) dX12_isBetter_87 (by decide) ?_
        exact G_zret rfl (Or.inr rfl) dX12_isBetter_91 ⟨_, rfl, w⟩
      · have w := w.2 c3
        refine G_lload 1 rfl dX12_isBetter_69 ?_
        refine G_lload 0 rfl dX12_isBetter_71 ?_
        refine G_lif_ne (tgt := 90) dX12_isBetter_73 dX12_isBetter_74 (by decide) (fun c4 => ?_) (fun c4 => ?_)
        · have w := w.1 c4
          refine G_iconst (v := 0) dX12_isBetter_90 (by decide) ?_
          exact G_zret rfl (Or.inl rfl) dX12_isBetter_91 ⟨_, rfl, w⟩
        · have w := w.2 c4
          refine G_lload_n 4 rfl dX12_isBetter_77 rfl ?_
          refine G_aload_n 2 rfl dX12_isBetter_78 rfl ?_
          refine G_getl (k := 24) hs1 (q := (RX12, TX12, 40)) rfl inX12 (by decide) rfl hF_X12_276 dX12_isBetter_79 ?_
          refine G_lif_le (tgt := 90) dX12_isBetter_82 dX12_isBetter_83 (by decide) (fun c5 => ?_) (fun c5 => ?_)
          · have w := w.1 c5
            refine G_iconst (v := 0) dX12_isBetter_90 (by decide) ?_
            exact G_zret rfl (Or.inl rfl) dX12_isBetter_91 ⟨_, rfl, w⟩
          · have w := w.2 c5
            refine G_iconst (v := 1) dX12_isBetter_86 (by decide) ?_
            refine G_goto (tgt := 91) dX12_isBetter_87 (by decide) ?_
            exact G_zret rfl (Or.inr rfl) dX12_isBetter_91 ⟨_, rfl, w⟩
    · have w := w.2 c2
      refine G_lload 1 rfl dX12_isBetter_28 ?_
      refine G_lload 0 rfl dX12_isBetter_30 ?_
      refine G_lif_lt (tgt := 53) dX12_isBetter_32 dX12_isBetter_33 (by decide) (fun c3 => ?_) (fun c3 => ?_)
      · have w := w.1 c3
        refine G_iconst (v := 1) dX12_isBetter_53 (by decide) ?_
        refine G_goto (tgt := 91) dX12_isBetter_54 (by decide) ?_
        exact G_zret rfl (Or.inr rfl) dX12_isBetter_91 ⟨_, rfl, w⟩
      · have w := w.2 c3
        refine G_lload 1 rfl dX12_isBetter_36 ?_
        refine G_lload 0 rfl dX12_isBetter_38 ?_
        refine G_lif_ne (tgt := 57) dX12_isBetter_40 dX12_isBetter_41 (by decide) (fun c4 => ?_) (fun c4 => ?_)
        · have w := w.1 c4
          refine G_iconst (v := 0) dX12_isBetter_57 (by decide) ?_
          refine G_goto (tgt := 91) dX12_isBetter_58 (by decide) ?_
          exact G_zret rfl (Or.inl rfl) dX12_isBetter_91 ⟨_, rfl, w⟩
        · have w := w.2 c4
          refine G_lload_n 4 rfl dX12_isBetter_44 rfl ?_
          refine G_aload_n 2 rfl dX12_isBetter_45 rfl ?_
          refine G_getl (k := 24) hs1 (q := (RX12, TX12, 40)) rfl inX12 (by decide) rfl hF_X12_276 dX12_isBetter_46 ?_
          refine G_lif_le (tgt := 57) dX12_isBetter_49 dX12_isBetter_50 (by decide) (fun c5 => ?_) (fun c5 => ?_)
          · have w := w.1 c5
            refine G_iconst (v := 0) dX12_isBetter_57 (by decide) ?_
            refine G_goto (tgt := 91) dX12_isBetter_58 (by decide) ?_
            exact G_zret rfl (Or.inl rfl) dX12_isBetter_91 ⟨_, rfl, w⟩
          · have w := w.2 c5
            refine G_iconst (v := 1) dX12_isBetter_53 (by decide) ?_
            refine G_goto (tgt := 91) dX12_isBetter_54 (by decide) ?_
            exact G_zret rfl (Or.inr rfl) dX12_isBetter_91 ⟨_, rfl, w⟩
  · have w := w.2 c1
    refine G_iconst (v := 1) dX12_isBetter_7 (by decide) ?_
    exact G_zret rfl (Or.inr rfl) dX12_isBetter_8 ⟨_, rfl, w⟩
-- LostDigitsModel.findOrders
theorem dX12_findOrders_0 : decode cX12_findOrders 0 = .ok (.aload_n 0, 1) := by decide +kernel
theorem dX12_findOrders_1 : decode cX12_findOrders 1 = .ok (.iconst 0, 1) := by decide +kernel
theorem dX12_findOrders_2 : decode cX12_findOrders 2 = .ok (.putfield 273, 3) := by decide +kernel
theorem dX12_findOrders_5 : decode cX12_findOrders 5 = .ok (.aload_n 0, 1) := by decide +kernel
theorem dX12_findOrders_6 : decode cX12_findOrders 6 = .ok (.invokevirtual 270, 3) := by decide +kernel
theorem dX12_findOrders_9 : decode cX12_findOrders 9 = .ok (.lstore_n 2, 1) := by decide +kernel
theorem dX12_findOrders_10 : decode cX12_findOrders 10 = .ok (.aload_n 0, 1) := by decide +kernel
theorem dX12_findOrders_11 : decode cX12_findOrders 11 = .ok (.invokevirtual 258, 3) := by decide +kernel
theorem dX12_findOrders_14 : decode cX12_findOrders 14 = .ok (.aload_n 0, 1) := by decide +kernel
theorem dX12_findOrders_15 : decode cX12_findOrders 15 = .ok (.getfield 247, 3) := by decide +kernel
theorem dX12_findOrders_18 : decode cX12_findOrders 18 = .ok (.ifCond .le 7, 3) := by decide +kernel
theorem dX12_findOrders_21 : decode cX12_findOrders 21 = .ok (.iconst 1, 1) := by decide +kernel
theorem dX12_findOrders_22 : decode cX12_findOrders 22 = .ok (.goto 4, 3) := by decide +kernel
theorem dX12_findOrders_25 : decode cX12_findOrders 25 = .ok (.iconst 0, 1) := by decide +kernel
theorem dX12_findOrders_26 : decode cX12_findOrders 26 = .ok (.istore 4, 2) := by decide +kernel
theorem dX12_findOrders_28 : decode cX12_findOrders 28 = .ok (.iload 4, 2) := by decide +kernel
theorem dX12_findOrders_30 : decode cX12_findOrders 30 = .ok (.ifCond .eq 126, 3) := by decide +kernel
theorem dX12_findOrders_33 : decode cX12_findOrders 33 = .ok (.aload_n 0, 1) := by decide +kernel
theorem dX12_findOrders_34 : decode cX12_findOrders 34 = .ok (.iconst 0, 1) := by decide +kernel
theorem dX12_findOrders_35 : decode cX12_findOrders 35 = .ok (.aload_n 0, 1) := by decide +kernel
theorem dX12_findOrders_36 : decode cX12_findOrders 36 = .ok (.getfield 247, 3) := by decide +kernel
theorem dX12_findOrders_39 : decode cX12_findOrders 39 = .ok (.invokevirtual 250, 3) := by decide +kernel
theorem dX12_findOrders_42 : decode cX12_findOrders 42 = .ok (.lstore 5, 2) := by decide +kernel
theorem dX12_findOrders_44 : decode cX12_findOrders 44 = .ok (.lload 5, 2) := by decide +kernel
theorem dX12_findOrders_46 : decode cX12_findOrders 46 = .ok (.lload_n 2, 1) := by decide +kernel
theorem dX12_findOrders_47 : decode cX12_findOrders 47 = .ok (.invokestatic 236, 3) := by decide +kernel
theorem dX12_findOrders_50 : decode cX12_findOrders 50 = .ok (.lstore 7, 2) := by decide +kernel
theorem dX12_findOrders_52 : decode cX12_findOrders 52 = .ok (.lload 5, 2) := by decide +kernel
theorem dX12_findOrders_54 : decode cX12_findOrders 54 = .ok (.ldc2_w 94, 3) := by decide +kernel
theorem dX12_findOrders_57 : decode cX12_findOrders 57 = .ok (.lcmp, 1) := by decide +kernel
theorem dX12_findOrders_58 : decode cX12_findOrders 58 = .ok (.ifCond .eq 56, 3) := by decide +kernel
theorem dX12_findOrders_61 : decode cX12_findOrders 61 = .ok (.aload_n 0, 1) := by decide +kernel
theorem dX12_findOrders_62 : decode cX12_findOrders 62 = .ok (.iload_n 1, 1) := by decide +kernel
theorem dX12_findOrders_63 : decode cX12_findOrders 63 = .ok (.lload 7, 2) := by decide +kernel
theorem dX12_findOrders_65 : decode cX12_findOrders 65 = .ok (.invokevirtual 279, 3) := by decide +kernel
theorem dX12_findOrders_68 : decode cX12_findOrders 68 = .ok (.ifCond .eq 46, 3) := by decide +kernel
theorem dX12_findOrders_71 : decode cX12_findOrders 71 = .ok (.aload_n 0, 1) := by decide +kernel
theorem dX12_findOrders_72 : decode cX12_findOrders 72 = .ok (.lload 7, 2) := by decide +kernel
theorem dX12_findOrders_74 : decode cX12_findOrders 74 = .ok (.putfield 276, 3) := by decide +kernel
theorem dX12_findOrders_77 : decode cX12_findOrders 77 = .ok (.aload_n 0, 1) := by decide +kernel
theorem dX12_findOrders_78 : decode cX12_findOrders 78 = .ok (.iconst 0, 1) := by decide +kernel
theorem dX12_findOrders_79 : decode cX12_findOrders 79 = .ok (.putfield 273, 3) := by decide +kernel
theorem dX12_findOrders_82 : decode cX12_findOrders 82 = .ok (.iconst 0, 1) := by decide +kernel
theorem dX12_findOrders_83 : decode cX12_findOrders 83 = .ok (.istore 9, 2) := by decide +kernel
theorem dX12_findOrders_85 : decode cX12_findOrders 85 = .ok (.iload 9, 2) := by decide +kernel
theorem dX12_findOrders_87 : decode cX12_findOrders 87 = .ok (.aload_n 0, 1) := by decide +kernel
theorem dX12_findOrders_88 : decode cX12_findOrders 88 = .ok (.getfield 247, 3) := by decide +kernel
theorem dX12_findOrders_91 : decode cX12_findOrders 91 = .ok (.if_icmp .ge 23, 3) := by decide +kernel
theorem dX12_findOrders_94 : decode cX12_findOrders 94 = .ok (.aload_n 0, 1) := by decide +kernel
theorem dX12_findOrders_95 : decode cX12_findOrders 95 = .ok (.getfield 50, 3) := by decide +kernel
theorem dX12_findOrders_98 : decode cX12_findOrders 98 = .ok (.iload 9, 2) := by decide +kernel
theorem dX12_findOrders_100 : decode cX12_findOrders 100 = .ok (.aload_n 0, 1) := by decide +kernel
theorem dX12_findOrders_101 : decode cX12_findOrders 101 = .ok (.getfield 47, 3) := by decide +kernel
theorem dX12_findOrders_104 : decode cX12_findOrders 104 = .ok (.iload 9, 2) := by decide +kernel
theorem dX12_findOrders_106 : decode cX12_findOrders 106 = .ok (.iaload, 1) := by decide +kernel
theorem dX12_findOrders_107 : decode cX12_findOrders 107 = .ok (.iastore, 1) := by decide +kernel
theorem dX12_findOrders_108 : decode cX12_findOrders 108 = .ok (.iinc 9 1, 3) := by decide +kernel
theorem dX12_findOrders_111 : decode cX12_findOrders 111 = .ok (.goto (-26), 3) := by decide +kernel
theorem dX12_findOrders_114 : decode cX12_findOrders 114 = .ok (.aload_n 0, 1) := by decide +kernel
theorem dX12_findOrders_115 : decode cX12_findOrders 115 = .ok (.dup, 1) := by decide +kernel
theorem dX12_findOrders_116 : decode cX12_findOrders 116 = .ok (.getfield 273, 3) := by decide +kernel
theorem dX12_findOrders_119 : decode cX12_findOrders 119 = .ok (.lload 5, 2) := by decide +kernel
theorem dX12_findOrders_121 : decode cX12_findOrders 121 = .ok (.ldc2_w 94, 3) := by decide +kernel
theorem dX12_findOrders_124 : decode cX12_findOrders 124 = .ok (.lcmp, 1) := by decide +kernel
theorem dX12_findOrders_125 : decode cX12_findOrders 125 = .ok (.ifCond .eq 17, 3) := by decide +kernel
theorem dX12_findOrders_128 : decode cX12_findOrders 128 = .ok (.lload 7, 2) := by decide +kernel
theorem dX12_findOrders_130 : decode cX12_findOrders 130 = .ok (.aload_n 0, 1) := by decide +kernel
theorem dX12_findOrders_131 : decode cX12_findOrders 131 = .ok (.getfield 276, 3) := by decide +kernel
theorem dX12_findOrders_134 : decode cX12_findOrders 134 = .ok (.lcmp, 1) := by decide +kernel
theorem dX12_findOrders_135 : decode cX12_findOrders 135 = .ok (.ifCond .ne 7, 3) := by decide +kernel
theorem dX12_findOrders_138 : decode cX12_findOrders 138 = .ok (.iconst 1, 1) := by decide +kernel
theorem dX12_findOrders_139 : decode cX12_findOrders 139 = .ok (.goto 4, 3) := by decide +kernel
theorem dX12_findOrders_142 : decode cX12_findOrders 142 = .ok (.iconst 0, 1) := by decide +kernel
theorem dX12_findOrders_143 : decode cX12_findOrders 143 = .ok (.iadd, 1) := by decide +kernel
theorem dX12_findOrders_144 : decode cX12_findOrders 144 = .ok (.putfield 273, 3) := by decide +kernel
theorem dX12_findOrders_147 : decode cX12_findOrders 147 = .ok (.aload_n 0, 1) := by decide +kernel
theorem dX12_findOrders_148 : decode cX12_findOrders 148 = .ok (.invokevirtual 283, 3) := by decide +kernel
theorem dX12_findOrders_151 : decode cX12_findOrders 151 = .ok (.istore 4, 2) := by decide +kernel
theorem dX12_findOrders_153 : decode cX12_findOrders 153 = .ok (.goto (-125), 3) := by decide +kernel
theorem dX12_findOrders_156 : decode cX12_findOrders 156 = .ok (.return_, 1) := by decide +kernel
set_option maxRecDepth 10000 in
theorem NX12_findOrders_0 {d : Nat} {S : fW} {h : fH} {Q : fH → Prop} {r0 : Nat} {x1 : Int32} {r0_pad r0_text r0_number r0_span r0_now r0_sizeOf r0_workedTo r0_slip r0_exactUpper r0_exactLower r0_more r0_terms r0_order r0_bestOrder r0_low r0_high r0_built r0_better r0_base r0_kept r0_isKept : Nat}  
    (hs1 : (r0, shX12 r0_pad r0_text r0_number r0_span r0_now r0_sizeOf r0_workedTo r0_slip r0_exactUpper r0_exactLower r0_more r0_terms r0_order r0_bestOrder r0_low r0_high r0_built r0_better r0_base r0_kept r0_isKept) ∈ S)
    (w : ∀ g_1 : fH, g_1 = u_fi h r0 25 (0 : Int32) → ∃ Q1 : Int64 → fH → Prop, OkL d mX12_wholeSum S [.ref r0] g_1 Q1 ∧ ∀ (v_1 : Int64) (h_1 : fH), Q1 v_1 h_1 → ∃ Q2 : fH → Prop, OkV d mX12_layOrder S [.ref r0] h_1 Q2 ∧ ∀ (h_2 : fH), Q2 h_2 → (((h_2.1 r0 22) ≤ 0 → G mX12_findOrders (d + 1) S (f_PV Q) 28 [(0, .ref r0), (1, .int x1), (2, .long v_1), (4, .int (0 : Int32))] [] h_2) ∧ (¬ (h_2.1 r0 22) ≤ 0 → G mX12_findOrders (d + 1) S (f_PV Q) 28 [(0, .ref r0), (1, .int x1), (2, .long v_1), (4, .int (1 : Int32))] [] h_2))) :
    OkV (d + 1) mX12_findOrders S [.ref r0, .int x1] h Q := by
  refine Ok.of (by decide) (Nat.le_of_ble_eq_true rfl) ?_
  refine G_aload_n 0 rfl dX12_findOrders_0 rfl ?_
  refine G_iconst (v := 0) dX12_findOrders_1 (by decide) ?_
  refine G_puti (k := 25) tyX12 hs1 (q := (RX12, TX12, 40)) rfl inX12 tyX12_ok nmX12 (by decide) rfl rfl rfl hF_X12_273 dX12_findOrders_2 ?_
  refine G_nm (fun g_1 e_1 => ?_)
  have w := w g_1 e_1
  refine G_aload_n 0 rfl dX12_findOrders_5 rfl ?_
  obtain ⟨Q1, ok1, w⟩ := w
  refine G_callV (Z := mX12_wholeSum) (As := []) (st := []) hL_X12_270 hI_X12_wholeSum hS_X12_wholeSum hC_X12_wholeSum hN_X12 nX12_wholeSum (by decide) hs1 rfl rfl rfl (Nat.le_of_ble_eq_true rfl) dX12_findOrders_6 ok1 (fun r_ h_1 z_ => ?_)
  obtain ⟨v_1, rfl, q_1⟩ := z_
  have w := w v_1 h_1 q_1
  refine G_lstore_n dX12_findOrders_9 rfl (by decide) (lv' := [(2, .long v_1), (0, .ref r0), (1, .int x1)]) rfl ?_
  refine G_aload_n 1 rfl dX12_findOrders_10 rfl ?_
  obtain ⟨Q2, ok2, w⟩ := w
  refine G_callV (Z := mX12_layOrder) (As := []) (st := []) hL_X12_258 hI_X12_layOrder hS_X12_layOrder hC_X12_layOrder hN_X12 nX12_layOrder (by decide) hs1 rfl rfl rfl (Nat.le_of_ble_eq_true rfl) dX12_findOrders_11 ok2 (fun r_ h_2 z_ => ?_)
  obtain ⟨rfl, q_2⟩ := z_
  have w := w h_2 q_2
  refine G_aload_n 1 rfl dX12_findOrders_14 rfl ?_
  refine G_geti (k := 22) hs1 (q := (RX12, TX12, 40)) rfl inX12 (by decide) (Or.inl rfl) hF_X12_247 dX12_findOrders_15 ?_
  refine G_if_le (tgt := 25) dX12_findOrders_18 (by decide) (fun c1 => ?_) (fun c1 => ?_)
  · have w := w.1 c1
    refine G_iconst (v := 0) dX12_findOrders_25 (by decide) ?_
    refine G_istore dX12_findOrders_26 (by decide) (lv' := [(4, .int (0 : Int32)), (2, .long v_1), (0, .ref r0), (1, .int x1)]) rfl ?_
    exact G_sub [2, 3, 1, 0] rfl w
  · have w := w.2 c1
    refine G_iconst (v := 1) dX12_findOrders_21 (by decide) ?_
    refine G_goto (tgt := 26) dX12_findOrders_22 (by decide) ?_
    refine G_istore dX12_findOrders_26 (by decide) (lv' := [(4, .int (1 : Int32)), (2, .long v_1), (0, .ref r0), (1, .int x1)]) rfl ?_
    exact G_sub [2, 3, 1, 0] rfl w

set_option maxRecDepth 10000 in
theorem NX12_findOrders_28 {d : Nat} {S : fW} {h : fH} {Q : fH → Prop} {r0 : Nat} {x1 : Int32} {x2 : Int64} {x4 : Int32} {r0_pad r0_text r0_number r0_span r0_now r0_sizeOf r0_workedTo r0_slip r0_exactUpper r0_exactLower r0_more r0_terms r0_order r0_bestOrder r0_low r0_high r0_built r0_better r0_base r0_kept r0_isKept : Nat}  
    (hs1 : (r0, shX12 r0_pad r0_text r0_number r0_span r0_now r0_sizeOf r0_workedTo r0_slip r0_exactUpper r0_exactLower r0_more r0_terms r0_order r0_bestOrder r0_low r0_high r0_built r0_better r0_base r0_kept r0_isKept) ∈ S)
    (w : ((x4 = 0 → Q h) ∧ (¬ x4 = 0 → ∃ Q1 : Int64 → fH → Prop, OkL d mX12_sumOf S [.ref r0, .int (0 : Int32), .int (h.1 r0 22)] h Q1 ∧ ∀ (v_1 : Int64) (h_1 : fH), Q1 v_1 h_1 → ∃ Q2 : Int64 → fH → Prop, OkL d mX12_less S [.long v_1, .long x2] h_1 Q2 ∧ ∀ (v_2 : Int64) (h_2 : fH), Q2 v_2 h_2 → ((v_1 = (1000000000000000000 : Int64) → G mX12_findOrders (d + 1) S (f_PV Q) 114 [(0, .ref r0), (1, .int x1), (2, .long x2), (5, .long v_1), (7, .long v_2)] [] h_2) ∧ (¬ v_1 = (1000000000000000000 : Int64) → ∃ Q3 : Int32 → fH → Prop, OkI d mX12_isBetter S [.ref r0, .int x1, .long v_2] h_2 Q3 ∧ ∀ (v_3 : Int32) (h_3 : fH), Q3 v_3 h_3 → ((v_3 = 0 → G mX12_findOrders (d + 1) S (f_PV Q) 114 [(0, .ref r0), (1, .int x1), (2, .long x2), (5, .long v_1), (7, .long v_2)] [] h_3) ∧ (¬ v_3 = 0 → ∀ g_1 : fH, g_1 = u_fl h_3 r0 24 v_2 → ∀ g_2 : fH, g_2 = u_fi g_1 r0 25 (0 : Int32) → G mX12_findOrders (d + 1) S (f_PV Q) 85 [(0, .ref r0), (1, .int x1), (2, .long x2), (5, .long v_1), (7, .long v_2), (9, .int (0 : Int32))] [] g_2))))))) :
    G mX12_findOrders (d + 1) S (f_PV Q) 28 [(0, .ref r0), (1, .int x1), (2, .long x2), (4, .int x4)] [] h := by
  refine G_iload 3 rfl dX12_findOrders_28 ?_
  refine G_if_eq (tgt := 156) dX12_findOrders_30 (by decide) (fun c1 => ?_) (fun c1 => ?_)
  · have w := w.1 c1
    exact G_vret rfl dX12_findOrders_156 ⟨rfl, w⟩
  · have w := w.2 c1
    refine G_aload_n 0 rfl dX12_findOrders_33 rfl ?_
    refine G_iconst (v := 0) dX12_findOrders_34 (by decide) ?_
    refine G_aload_n 0 rfl dX12_findOrders_35 rfl ?_
    refine G_geti (k := 22) hs1 (q := (RX12, TX12, 40)) rfl inX12 (by decide) (Or.inl rfl) hF_X12_247 dX12_findOrders_36 ?_
    obtain ⟨Q1, ok1, w⟩ := w
    refine G_callV (Z := mX12_sumOf) (As := [.int (0 : Int32), .int (h.1 r0 22)]) (st := []) hL_X12_250 hI_X12_sumOf hS_X12_sumOf hC_X12_sumOf hN_X12 nX12_sumOf (by decide) hs1 rfl rfl rfl (Nat.le_of_ble_eq_true rfl) dX12_findOrders_39 ok1 (fun r_ h_1 z_ => ?_)
    obtain ⟨v_1, rfl, q_1⟩ := z_
    have w := w v_1 h_1 q_1
    refine G_lstore dX12_findOrders_42 (by decide) (lv' := [(5, .long v_1), (0, .ref r0), (1, .int x1), (2, .long x2), (4, .int x4)]) rfl ?_
    refine G_lload 0 rfl dX12_findOrders_44 ?_
    refine G_lload_n 3 rfl dX12_findOrders_46 rfl ?_
    obtain ⟨Q2, ok2, w⟩ := w
    refine G_callS (Z := mX12_less) (As := [.long v_1, .long x2]) (st := []) hL_X12_236 hT_X12_less hC_X12_less hN_X12 nX12_less (by decide) rfl (Nat.le_of_ble_eq_true rfl) dX12_findOrders_47 ok2 (fun r_ h_2 z_ => ?_)
    obtain ⟨v_2, rfl, q_2⟩ := z_
    have w := w v_2 h_2 q_2
    refine G_lstore dX12_findOrders_50 (by decide) (lv' := [(7, .long v_2), (5, .long v_1), (0, .ref r0), (1, .int x1), (2, .long x2), (4, .int x4)]) rfl ?_
    refine G_lload 1 rfl dX12_findOrders_52 ?_
    refine G_ldc2 hK_X12_94 dX12_findOrders_54 ?_
    refine G_lif_eq (tgt := 114) dX12_findOrders_57 dX12_findOrders_58 (by decide) (fun c2 => ?_) (fun c2 => ?_)
    · have w := w.1 c2
      exact G_sub [2, 3, 4, 1, 0] rfl w
    · have w := w.2 c2
      refine G_aload_n 2 rfl dX12_findOrders_61 rfl ?_
      refine G_iload_n 3 rfl dX12_findOrders_62 rfl ?_
      refine G_lload 0 rfl dX12_findOrders_63 ?_
      obtain ⟨Q3, ok3, w⟩ := w
      refine G_callV (Z := mX12_isBetter) (As := [.int x1, .long v_2]) (st := []) hL_X12_279 hI_X12_isBetter hS_X12_isBetter hC_X12_isBetter hN_X12 nX12_isBetter (by decide) hs1 rfl rfl rfl (Nat.le_of_ble_eq_true rfl) dX12_findOrders_65 ok3 (fun r_ h_3 z_ => ?_)
      obtain ⟨v_3, rfl, q_3⟩ := z_
      have w := w v_3 h_3 q_3
      refine G_if_eq (tgt := 114) dX12_findOrders_68 (by decide) (fun c3 => ?_) (fun c3 => ?_)
      · have w := w.1 c3
        exact G_sub [2, 3, 4, 1, 0] rfl w
      · have w := w.2 c3
        refine G_aload_n 2 rfl dX12_findOrders_71 rfl ?_
        refine G_lload 0 rfl dX12_findOrders_72 ?_
        refine G_putl (k := 24) tyX12 hs1 (q := (RX12, TX12, 40)) rfl inX12 tyX12_ok nmX12 (by decide) rfl rfl rfl hF_X12_276 dX12_findOrders_74 ?_
        refine G_nm (fun g_1 e_1 => ?_)
        have w := w g_1 e_1
        refine G_aload_n 2 rfl dX12_findOrders_77 rfl ?_
        refine G_iconst (v := 0) dX12_findOrders_78 (by decide) ?_
        refine G_puti (k := 25) tyX12 hs1 (q := (RX12, TX12, 40)) rfl inX12 tyX12_ok nmX12 (by decide) rfl rfl rfl hF_X12_273 dX12_findOrders_79 ?_
        refine G_nm (fun g_2 e_2 => ?_)
        have w := w g_2 e_2
        refine G_iconst (v := 0) dX12_findOrders_82 (by decide) ?_
        refine G_istore dX12_findOrders_83 (by decide) (lv' := [(9, .int (0 : Int32)), (7, .long v_2), (5, .long v_1), (0, .ref r0), (1, .int x1), (2, .long x2), (4, .int x4)]) rfl ?_
        exact G_sub [3, 4, 5, 2, 1, 0] rfl w

set_option maxRecDepth 10000 in
theorem NX12_findOrders_85 {d : Nat} {S : fW} {h : fH} {Q : fH → Prop} {r0 : Nat} {x1 : Int32} {x2 : Int64} {x5 : Int64} {x7 : Int64} {x9 : Int32} {r0_pad r0_text r0_number r0_span r0_now r0_sizeOf r0_workedTo r0_slip r0_exactUpper r0_exactLower r0_more r0_terms r0_order r0_bestOrder r0_low r0_high r0_built r0_better r0_base r0_kept r0_isKept : Nat}  
    (hs1 : (r0, shX12 r0_pad r0_text r0_number r0_span r0_now r0_sizeOf r0_workedTo r0_slip r0_exactUpper r0_exactLower r0_more r0_terms r0_order r0_bestOrder r0_low r0_high r0_built r0_better r0_base r0_kept r0_isKept) ∈ S)
    (hs2 : (r0_order, shI 7) ∈ S)
    (hs3 : (r0_bestOrder, shI 7) ∈ S)
    (w : (((h.1 r0 22) ≤ x9 → G mX12_findOrders (d + 1) S (f_PV Q) 114 [(0, .ref r0), (1, .int x1), (2, .long x2), (5, .long x5), (7, .long x7)] [] h) ∧ (¬ (h.1 r0 22) ≤ x9 → vp_in x9 7 ∧ ∀ g_1 : fH, g_1 = u_ai h r0_bestOrder (upd (h.2.2.1 r0_bestOrder) x9.toNatClampNeg (h.2.2.1 r0_order x9.toNatClampNeg)) → G mX12_findOrders (d + 1) S (f_PV Q) 85 [(0, .ref r0), (1, .int x1), (2, .long x2), (5, .long x5), (7, .long x7), (9, .int (x9 + 1))] [] g_1))) :
    G mX12_findOrders (d + 1) S (f_PV Q) 85 [(0, .ref r0), (1, .int x1), (2, .long x2), (5, .long x5), (7, .long x7), (9, .int x9)] [] h := by
  refine G_iload 5 rfl dX12_findOrders_85 ?_
  refine G_aload_n 0 rfl dX12_findOrders_87 rfl ?_
  refine G_geti (k := 22) hs1 (q := (RX12, TX12, 40)) rfl inX12 (by decide) (Or.inl rfl) hF_X12_247 dX12_findOrders_88 ?_
  refine G_icmp_ge (tgt := 114) dX12_findOrders_91 (by decide) (fun c1 => ?_) (fun c1 => ?_)
  · have w := w.1 c1
    exact G_sub [0, 1, 2, 3, 4] rfl w
  · have w := w.2 c1
    refine G_aload_n 0 rfl dX12_findOrders_94 rfl ?_
    refine G_getr (j := r0_bestOrder) (k := 26) hs1 (q := (RX12, TX12, 40)) rfl inX12 (by decide) rfl hF_X12_50 dX12_findOrders_95 ?_
    refine G_iload 5 rfl dX12_findOrders_98 ?_
    refine G_aload_n 0 rfl dX12_findOrders_100 rfl ?_
    refine G_getr (j := r0_order) (k := 23) hs1 (q := (RX12, TX12, 40)) rfl inX12 (by decide) rfl hF_X12_47 dX12_findOrders_101 ?_
    refine G_iload 5 rfl dX12_findOrders_104 ?_
    obtain ⟨sd1, w⟩ := w
    refine G_iald hs2 sd1 dX12_findOrders_106 ?_
    refine G_iast hs3 sd1 dX12_findOrders_107 ?_
    refine G_nm (fun g_1 e_1 => ?_)
    have w := w g_1 e_1
    refine G_iinc (v := 1) 5 rfl dX12_findOrders_108 (by decide) (by decide) (lv' := [(9, .int (x9 + 1)), (0, .ref r0), (1, .int x1), (2, .long x2), (5, .long x5), (7, .long x7)]) rfl ?_
    refine G_goto (tgt := 85) dX12_findOrders_111 (by decide) ?_
    exact G_sub [1, 2, 3, 4, 5, 0] rfl w

set_option maxRecDepth 10000 in
theorem NX12_findOrders_114 {d : Nat} {S : fW} {h : fH} {Q : fH → Prop} {r0 : Nat} {x1 : Int32} {x2 : Int64} {x5 : Int64} {x7 : Int64} {r0_pad r0_text r0_number r0_span r0_now r0_sizeOf r0_workedTo r0_slip r0_exactUpper r0_exactLower r0_more r0_terms r0_order r0_bestOrder r0_low r0_high r0_built r0_better r0_base r0_kept r0_isKept : Nat}  
    (hs1 : (r0, shX12 r0_pad r0_text r0_number r0_span r0_now r0_sizeOf r0_workedTo r0_slip r0_exactUpper r0_exactLower r0_more r0_terms r0_order r0_bestOrder r0_low r0_high r0_built r0_better r0_base r0_kept r0_isKept) ∈ S)
    (w : ((x5 = (1000000000000000000 : Int64) → ∀ g_1 : fH, g_1 = u_fi h r0 25 ((h.1 r0 25) + (0 : Int32)) → ∃ Q1 : Int32 → fH → Prop, OkI d mX12_nextOrder S [.ref r0] g_1 Q1 ∧ ∀ (v_1 : Int32) (h_1 : fH), Q1 v_1 h_1 → G mX12_findOrders (d + 1) S (f_PV Q) 28 [(0, .ref r0), (1, .int x1), (2, .long x2), (4, .int v_1)] [] h_1) ∧ (¬ x5 = (1000000000000000000 : Int64) → ((¬ x7 = (h.2.1 r0 24) → ∀ g_2 : fH, g_2 = u_fi h r0 25 ((h.1 r0 25) + (0 : Int32)) → ∃ Q2 : Int32 → fH → Prop, OkI d mX12_nextOrder S [.ref r0] g_2 Q2 ∧ ∀ (v_2 : Int32) (h_2 : fH), Q2 v_2 h_2 → G mX12_findOrders (d + 1) S (f_PV Q) 28 [(0, .ref r0), (1, .int x1), (2, .long x2), (4, .int v_2)] [] h_2) ∧ (x7 = (h.2.1 r0 24) → ∀ g_3 : fH, g_3 = u_fi h r0 25 ((h.1 r0 25) + (1 : Int32)) → ∃ Q3 : Int32 → fH → Prop, OkI d mX12_nextOrder S [.ref r0] g_3 Q3 ∧ ∀ (v_3 : Int32) (h_3 : fH), Q3 v_3 h_3 → G mX12_findOrders (d + 1) S (f_PV Q) 28 [(0, .ref r0), (1, .int x1), (2, .long x2), (4, .int v_3)] [] h_3))))) :
    G mX12_findOrders (d + 1) S (f_PV Q) 114 [(0, .ref r0), (1, .int x1), (2, .long x2), (5, .long x5), (7, .long x7)] [] h := by
  refine G_aload_n 0 rfl dX12_findOrders_114 rfl ?_
  refine G_dup dX12_findOrders_115 rfl ?_
  refine G_geti (k := 25) hs1 (q := (RX12, TX12, 40)) rfl inX12 (by decide) (Or.inl rfl) hF_X12_273 dX12_findOrders_116 ?_
  refine G_lload 3 rfl dX12_findOrders_119 ?_
  refine G_ldc2 hK_X12_94 dX12_findOrders_121 ?_
  refine G_lif_eq (tgt := 142) dX12_findOrders_124 dX12_findOrders_125 (by decide) (fun c1 => ?_) (fun c1 => ?_)
  · have w := w.1 c1
    refine G_iconst (v := 0) dX12_findOrders_142 (by decide) ?_
    refine G_iadd dX12_findOrders_143 ?_
    refine G_puti (k := 25) tyX12 hs1 (q := (RX12, TX12, 40)) rfl inX12 tyX12_ok nmX12 (by decide) rfl rfl rfl hF_X12_273 dX12_findOrders_144 ?_
    refine G_nm (fun g_1 e_1 => ?_)
    have w := w g_1 e_1
    refine G_aload_n 0 rfl dX12_findOrders_147 rfl ?_
    obtain ⟨Q1, ok1, w⟩ := w
    refine G_callV (Z := mX12_nextOrder) (As := []) (st := []) hL_X12_283 hI_X12_nextOrder hS_X12_nextOrder hC_X12_nextOrder hN_X12 nX12_nextOrder (by decide) hs1 rfl rfl rfl (Nat.le_of_ble_eq_true rfl) dX12_findOrders_148 ok1 (fun r_ h_1 z_ => ?_)
    obtain ⟨v_1, rfl, q_1⟩ := z_
    have w := w v_1 h_1 q_1
    refine G_istore dX12_findOrders_151 (by decide) (lv' := [(4, .int v_1), (0, .ref r0), (1, .int x1), (2, .long x2), (5, .long x5), (7, .long x7)]) rfl ?_
    refine G_goto (tgt := 28) dX12_findOrders_153 (by decide) ?_
    exact G_sub [1, 2, 3, 0] rfl w
  · have w := w.2 c1
    refine G_lload 4 rfl dX12_findOrders_128 ?_
    refine G_aload_n 0 rfl dX12_findOrders_130 rfl ?_
    refine G_getl (k := 24) hs1 (q := (RX12, TX12, 40)) rfl inX12 (by decide) rfl hF_X12_276 dX12_findOrders_131 ?_
    refine G_lif_ne (tgt := 142) dX12_findOrders_134 dX12_findOrders_135 (by decide) (fun c2 => ?_) (fun c2 => ?_)
    · have w := w.1 c2
      refine G_iconst (v := 0) dX12_findOrders_142 (by decide) ?_
      refine G_iadd dX12_findOrders_143 ?_
      refine G_puti (k := 25) tyX12 hs1 (q := (RX12, TX12, 40)) rfl inX12 tyX12_ok nmX12 (by decide) rfl rfl rfl hF_X12_273 dX12_findOrders_144 ?_
      refine G_nm (fun g_2 e_2 => ?_)
      have w := w g_2 e_2
      refine G_aload_n 0 rfl dX12_findOrders_147 rfl ?_
      obtain ⟨Q2, ok2, w⟩ := w
      refine G_callV (Z := mX12_nextOrder) (As := []) (st := []) hL_X12_283 hI_X12_nextOrder hS_X12_nextOrder hC_X12_nextOrder hN_X12 nX12_nextOrder (by decide) hs1 rfl rfl rfl (Nat.le_of_ble_eq_true rfl) dX12_findOrders_148 ok2 (fun r_ h_2 z_ => ?_)
      obtain ⟨v_2, rfl, q_2⟩ := z_
      have w := w v_2 h_2 q_2
      refine G_istore dX12_findOrders_151 (by decide) (lv' := [(4, .int v_2), (0, .ref r0), (1, .int x1), (2, .long x2), (5, .long x5), (7, .long x7)]) rfl ?_
      refine G_goto (tgt := 28) dX12_findOrders_153 (by decide) ?_
      exact G_sub [1, 2, 3, 0] rfl w
    · have w := w.2 c2
      refine G_iconst (v := 1) dX12_findOrders_138 (by decide) ?_
      refine G_goto (tgt := 143) dX12_findOrders_139 (by decide) ?_
      refine G_iadd dX12_findOrders_143 ?_
      refine G_puti (k := 25) tyX12 hs1 (q := (RX12, TX12, 40)) rfl inX12 tyX12_ok nmX12 (by decide) rfl rfl rfl hF_X12_273 dX12_findOrders_144 ?_
      refine G_nm (fun g_3 e_3 => ?_)
      have w := w g_3 e_3
      refine G_aload_n 0 rfl dX12_findOrders_147 rfl ?_
      obtain ⟨Q3, ok3, w⟩ := w
      refine G_callV (Z := mX12_nextOrder) (As := []) (st := []) hL_X12_283 hI_X12_nextOrder hS_X12_nextOrder hC_X12_nextOrder hN_X12 nX12_nextOrder (by decide) hs1 rfl rfl rfl (Nat.le_of_ble_eq_true rfl) dX12_findOrders_148 ok3 (fun r_ h_3 z_ => ?_)
      obtain ⟨v_3, rfl, q_3⟩ := z_
      have w := w v_3 h_3 q_3
      refine G_istore dX12_findOrders_151 (by decide) (lv' := [(4, .int v_3), (0, .ref r0), (1, .int x1), (2, .long x2), (5, .long x5), (7, .long x7)]) rfl ?_
      refine G_goto (tgt := 28) dX12_findOrders_153 (by decide) ?_
      exact G_sub [1, 2, 3, 0] rfl w
-- LostDigitsModel.orders
theorem dX12_orders_0 : decode cX12_orders 0 = .ok (.iload_n 1, 1) := by decide +kernel
theorem dX12_orders_1 : decode cX12_orders 1 = .ok (.invokestatic 134, 3) := by decide +kernel
theorem dX12_orders_4 : decode cX12_orders 4 = .ok (.ifCond .ne 7, 3) := by decide +kernel
theorem dX12_orders_7 : decode cX12_orders 7 = .ok (.ldc2_w 153, 3) := by decide +kernel
theorem dX12_orders_10 : decode cX12_orders 10 = .ok (.lreturn, 1) := by decide +kernel
theorem dX12_orders_11 : decode cX12_orders 11 = .ok (.aload_n 0, 1) := by decide +kernel
theorem dX12_orders_12 : decode cX12_orders 12 = .ok (.iload_n 1, 1) := by decide +kernel
theorem dX12_orders_13 : decode cX12_orders 13 = .ok (.invokevirtual 287, 3) := by decide +kernel
theorem dX12_orders_16 : decode cX12_orders 16 = .ok (.aload_n 0, 1) := by decide +kernel
theorem dX12_orders_17 : decode cX12_orders 17 = .ok (.getfield 273, 3) := by decide +kernel
theorem dX12_orders_20 : decode cX12_orders 20 = .ok (.ifCond .ne 9, 3) := by decide +kernel
theorem dX12_orders_23 : decode cX12_orders 23 = .ok (.ldc2_w 256, 3) := by decide +kernel
theorem dX12_orders_26 : decode cX12_orders 26 = .ok (.goto 7, 3) := by decide +kernel
theorem dX12_orders_29 : decode cX12_orders 29 = .ok (.aload_n 0, 1) := by decide +kernel
theorem dX12_orders_30 : decode cX12_orders 30 = .ok (.getfield 276, 3) := by decide +kernel
theorem dX12_orders_33 : decode cX12_orders 33 = .ok (.lreturn, 1) := by decide +kernel
set_option maxRecDepth 10000 in
theorem NX12_orders_0 {d : Nat} {S : fW} {h : fH} {Q : Int64 → fH → Prop} {r0 : Nat} {x1 : Int32} {r0_pad r0_text r0_number r0_span r0_now r0_sizeOf r0_workedTo r0_slip r0_exactUpper r0_exactLower r0_more r0_terms r0_order r0_bestOrder r0_low r0_high r0_built r0_better r0_base r0_kept r0_isKept : Nat}  
    (hs1 : (r0, shX12 r0_pad r0_text r0_number r0_span r0_now r0_sizeOf r0_workedTo r0_slip r0_exactUpper r0_exactLower r0_more r0_terms r0_order r0_bestOrder r0_low r0_high r0_built r0_better r0_base r0_kept r0_isKept) ∈ S)
    (w : ∃ Q1 : Int32 → fH → Prop, OkI d mX12_isEnd S [.int x1] h Q1 ∧ ∀ (v_1 : Int32) (h_1 : fH), Q1 v_1 h_1 → ((¬ v_1 = 0 → ∃ Q2 : fH → Prop, OkV d mX12_findOrders S [.ref r0, .int x1] h_1 Q2 ∧ ∀ (h_2 : fH), Q2 h_2 → ((¬ (h_2.1 r0 25) = 0 → Q (h_2.2.1 r0 24) h_2) ∧ ((h_2.1 r0 25) = 0 → Q (-1000000000000000006 : Int64) h_2))) ∧ (v_1 = 0 → Q (-1000000000000000002 : Int64) h_1))) :
    OkL (d + 1) mX12_orders S [.ref r0, .int x1] h Q := by
  refine Ok.of (by decide) (Nat.le_of_ble_eq_true rfl) ?_
  refine G_iload_n 1 rfl dX12_orders_0 rfl ?_
  obtain ⟨Q1, ok1, w⟩ := w
  refine G_callS (Z := mX12_isEnd) (As := [.int x1]) (st := []) hL_X12_134 hT_X12_isEnd hC_X12_isEnd hN_X12 nX12_isEnd (by decide) rfl (Nat.le_of_ble_eq_true rfl) dX12_orders_1 ok1 (fun r_ h_1 z_ => ?_)
  obtain ⟨v_1, rfl, q_1⟩ := z_
  have w := w v_1 h_1 q_1
  refine G_if_ne (tgt := 11) dX12_orders_4 (by decide) (fun c1 => ?_) (fun c1 => ?_)
  · have w := w.1 c1
    refine G_aload_n 0 rfl dX12_orders_11 rfl ?_
    refine G_iload_n 1 rfl dX12_orders_12 rfl ?_
    obtain ⟨Q2, ok2, w⟩ := w
    refine G_callV (Z := mX12_findOrders) (As := [.int x1]) (st := []) hL_X12_287 hI_X12_findOrders hS_X12_findOrders hC_X12_findOrders hN_X12 nX12_findOrders (by decide) hs1 rfl rfl rfl (Nat.le_of_ble_eq_true rfl) dX12_orders_13 ok2 (fun r_ h_2 z_ => ?_)
    obtain ⟨rfl, q_2⟩ := z_
    have w := w h_2 q_2
    refine G_aload_n 0 rfl dX12_orders_16 rfl ?_
    refine G_geti (k := 25) hs1 (q := (RX12, TX12, 40)) rfl inX12 (by decide) (Or.inl rfl) hF_X12_273 dX12_orders_17 ?_
    refine G_if_ne (tgt := 29) dX12_orders_20 (by decide) (fun c2 => ?_) (fun c2 => ?_)
    · have w := w.1 c2
      refine G_aload_n 0 rfl dX12_orders_29 rfl ?_
      refine G_getl (k := 24) hs1 (q := (RX12, TX12, 40)) rfl inX12 (by decide) rfl hF_X12_276 dX12_orders_30 ?_
      exact G_lret rfl dX12_orders_33 ⟨_, rfl, w⟩
    · have w := w.2 c2
      refine G_ldc2 hK_X12_256 dX12_orders_23 ?_
      refine G_goto (tgt := 33) dX12_orders_26 (by decide) ?_
      exact G_lret rfl dX12_orders_33 ⟨_, rfl, w⟩
  · have w := w.2 c1
    refine G_ldc2 hK_X12_153 dX12_orders_7 ?_
    exact G_lret rfl dX12_orders_10 ⟨_, rfl, w⟩
-- LostDigitsModel.order
theorem dX12_order_0 : decode cX12_order 0 = .ok (.iload_n 1, 1) := by decide +kernel
theorem dX12_order_1 : decode cX12_order 1 = .ok (.invokestatic 134, 3) := by decide +kernel
theorem dX12_order_4 : decode cX12_order 4 = .ok (.ifCond .ne 6, 3) := by decide +kernel
theorem dX12_order_7 : decode cX12_order 7 = .ok (.bipush (-2), 2) := by decide +kernel
theorem dX12_order_9 : decode cX12_order 9 = .ok (.ireturn, 1) := by decide +kernel
theorem dX12_order_10 : decode cX12_order 10 = .ok (.aload_n 0, 1) := by decide +kernel
theorem dX12_order_11 : decode cX12_order 11 = .ok (.iload_n 1, 1) := by decide +kernel
theorem dX12_order_12 : decode cX12_order 12 = .ok (.invokevirtual 287, 3) := by decide +kernel
theorem dX12_order_15 : decode cX12_order 15 = .ok (.aload_n 0, 1) := by decide +kernel
theorem dX12_order_16 : decode cX12_order 16 = .ok (.getfield 273, 3) := by decide +kernel
theorem dX12_order_19 : decode cX12_order 19 = .ok (.ifCond .ne 6, 3) := by decide +kernel
theorem dX12_order_22 : decode cX12_order 22 = .ok (.bipush (-6), 2) := by decide +kernel
theorem dX12_order_24 : decode cX12_order 24 = .ok (.ireturn, 1) := by decide +kernel
theorem dX12_order_25 : decode cX12_order 25 = .ok (.iload_n 2, 1) := by decide +kernel
theorem dX12_order_26 : decode cX12_order 26 = .ok (.iconst (-1), 1) := by decide +kernel
theorem dX12_order_27 : decode cX12_order 27 = .ok (.if_icmp .ne 10, 3) := by decide +kernel
theorem dX12_order_30 : decode cX12_order 30 = .ok (.aload_n 0, 1) := by decide +kernel
theorem dX12_order_31 : decode cX12_order 31 = .ok (.getfield 273, 3) := by decide +kernel
theorem dX12_order_34 : decode cX12_order 34 = .ok (.goto 30, 3) := by decide +kernel
theorem dX12_order_37 : decode cX12_order 37 = .ok (.iload_n 2, 1) := by decide +kernel
theorem dX12_order_38 : decode cX12_order 38 = .ok (.i2l, 1) := by decide +kernel
theorem dX12_order_39 : decode cX12_order 39 = .ok (.lconst 0, 1) := by decide +kernel
theorem dX12_order_40 : decode cX12_order 40 = .ok (.aload_n 0, 1) := by decide +kernel
theorem dX12_order_41 : decode cX12_order 41 = .ok (.getfield 247, 3) := by decide +kernel
theorem dX12_order_44 : decode cX12_order 44 = .ok (.iconst 1, 1) := by decide +kernel
theorem dX12_order_45 : decode cX12_order 45 = .ok (.isub, 1) := by decide +kernel
theorem dX12_order_46 : decode cX12_order 46 = .ok (.i2l, 1) := by decide +kernel
theorem dX12_order_47 : decode cX12_order 47 = .ok (.invokestatic 82, 3) := by decide +kernel
theorem dX12_order_50 : decode cX12_order 50 = .ok (.ifCond .eq 12, 3) := by decide +kernel
theorem dX12_order_53 : decode cX12_order 53 = .ok (.aload_n 0, 1) := by decide +kernel
theorem dX12_order_54 : decode cX12_order 54 = .ok (.getfield 50, 3) := by decide +kernel
theorem dX12_order_57 : decode cX12_order 57 = .ok (.iload_n 2, 1) := by decide +kernel
theorem dX12_order_58 : decode cX12_order 58 = .ok (.iaload, 1) := by decide +kernel
theorem dX12_order_59 : decode cX12_order 59 = .ok (.goto 5, 3) := by decide +kernel
theorem dX12_order_62 : decode cX12_order 62 = .ok (.bipush (-6), 2) := by decide +kernel
theorem dX12_order_64 : decode cX12_order 64 = .ok (.ireturn, 1) := by decide +kernel
set_option maxRecDepth 10000 in
theorem NX12_order_0 {d : Nat} {S : fW} {h : fH} {Q : Int32 → fH → Prop} {r0 : Nat} {x1 : Int32} {x2 : Int32} {r0_pad r0_text r0_number r0_span r0_now r0_sizeOf r0_workedTo r0_slip r0_exactUpper r0_exactLower r0_more r0_terms r0_order r0_bestOrder r0_low r0_high r0_built r0_better r0_base r0_kept r0_isKept : Nat}  
    (hs1 : (r0, shX12 r0_pad r0_text r0_number r0_span r0_now r0_sizeOf r0_workedTo r0_slip r0_exactUpper r0_exactLower r0_more r0_terms r0_order r0_bestOrder r0_low r0_high r0_built r0_better r0_base r0_kept r0_isKept) ∈ S)
    (hs2 : (r0_bestOrder, shI 7) ∈ S)
    (w : ∃ Q1 : Int32 → fH → Prop, OkI d mX12_isEnd S [.int x1] h Q1 ∧ ∀ (v_1 : Int32) (h_1 : fH), Q1 v_1 h_1 → ((¬ v_1 = 0 → ∃ Q2 : fH → Prop, OkV d mX12_findOrders S [.ref r0, .int x1] h_1 Q2 ∧ ∀ (h_2 : fH), Q2 h_2 → ((¬ (h_2.1 r0 25) = 0 → ((¬ x2 = (-1 : Int32) → ∃ Q3 : Int32 → fH → Prop, OkI d mX12_in S [.long x2.toInt64, .long (0 : Int64), .long (((h_2.1 r0 22) - (1 : Int32)).toInt64)] h_2 Q3 ∧ ∀ (v_3 : Int32) (h_3 : fH), Q3 v_3 h_3 → ((v_3 = 0 → Q (-6 : Int32) h_3) ∧ (¬ v_3 = 0 → vp_in x2 7 ∧ Q (h_3.2.2.1 r0_bestOrder x2.toNatClampNeg) h_3))) ∧ (x2 = (-1 : Int32) → Q (h_2.1 r0 25) h_2))) ∧ ((h_2.1 r0 25) = 0 → Q (-6 : Int32) h_2))) ∧ (v_1 = 0 → Q (-2 : Int32) h_1))) :
    OkI (d + 1) mX12_order S [.ref r0, .int x1, .int x2] h Q := by
  refine Ok.of (by decide) (Nat.le_of_ble_eq_true rfl) ?_
  refine G_iload_n 1 rfl dX12_order_0 rfl ?_
  obtain ⟨Q1, ok1, w⟩ := w
  refine G_callS (Z := mX12_isEnd) (As := [.int x1]) (st := []) hL_X12_134 hT_X12_isEnd hC_X12_isEnd hN_X12 nX12_isEnd (by decide) rfl (Nat.le_of_ble_eq_true rfl) dX12_order_1 ok1 (fun r_ h_1 z_ => ?_)
  obtain ⟨v_1, rfl, q_1⟩ := z_
  have w := w v_1 h_1 q_1
  refine G_if_ne (tgt := 10) dX12_order_4 (by decide) (fun c1 => ?_) (fun c1 => ?_)
  · have w := w.1 c1
    refine G_aload_n 0 rfl dX12_order_10 rfl ?_
    refine G_iload_n 1 rfl dX12_order_11 rfl ?_
    obtain ⟨Q2, ok2, w⟩ := w
    refine G_callV (Z := mX12_findOrders) (As := [.int x1]) (st := []) hL_X12_287 hI_X12_findOrders hS_X12_findOrders hC_X12_findOrders hN_X12 nX12_findOrders (by decide) hs1 rfl rfl rfl (Nat.le_of_ble_eq_true rfl) dX12_order_12 ok2 (fun r_ h_2 z_ => ?_)
    obtain ⟨rfl, q_2⟩ := z_
    have w := w h_2 q_2
    refine G_aload_n 0 rfl dX12_order_15 rfl ?_
    refine G_geti (k := 25) hs1 (q := (RX12, TX12, 40)) rfl inX12 (by decide) (Or.inl rfl) hF_X12_273 dX12_order_16 ?_
    refine G_if_ne (tgt := 25) dX12_order_19 (by decide) (fun c2 => ?_) (fun c2 => ?_)
    · have w := w.1 c2
      refine G_iload_n 2 rfl dX12_order_25 rfl ?_
      refine G_iconst (v := -1) dX12_order_26 (by decide) ?_
      refine G_icmp_ne (tgt := 37) dX12_order_27 (by decide) (fun c3 => ?_) (fun c3 => ?_)
      · have w := w.1 c3
        refine G_iload_n 2 rfl dX12_order_37 rfl ?_
        refine G_i2l dX12_order_38 ?_
        refine G_lconst (v := 0) dX12_order_39 (by decide) ?_
        refine G_aload_n 0 rfl dX12_order_40 rfl ?_
        refine G_geti (k := 22) hs1 (q := (RX12, TX12, 40)) rfl inX12 (by decide) (Or.inl rfl) hF_X12_247 dX12_order_41 ?_
        refine G_iconst (v := 1) dX12_order_44 (by decide) ?_
        refine G_isub dX12_order_45 ?_
        refine G_i2l dX12_order_46 ?_
        obtain ⟨Q3, ok3, w⟩ := w
        refine G_callS (Z := mX12_in) (As := [.long x2.toInt64, .long (0 : Int64), .long (((h_2.1 r0 22) - (1 : Int32)).toInt64)]) (st := []) hL_X12_82 hT_X12_in hC_X12_in hN_X12 nX12_in (by decide) rfl (Nat.le_of_ble_eq_true rfl) dX12_order_47 ok3 (fun r_ h_3 z_ => ?_)
        obtain ⟨v_3, rfl, q_3⟩ := z_
        have w := w v_3 h_3 q_3
        refine G_if_eq (tgt := 62) dX12_order_50 (by decide) (fun c4 => ?_) (fun c4 => ?_)
        · have w := w.1 c4
          refine G_bipush (v := -6) dX12_order_62 (by decide) ?_
          exact G_iret rfl dX12_order_64 ⟨_, rfl, w⟩
        · have w := w.2 c4
          refine G_aload_n 0 rfl dX12_order_53 rfl ?_
          refine G_getr (j := r0_bestOrder) (k := 26) hs1 (q := (RX12, TX12, 40)) rfl inX12 (by decide) rfl hF_X12_50 dX12_order_54 ?_
          refine G_iload_n 2 rfl dX12_order_57 rfl ?_
          obtain ⟨sd1, w⟩ := w
          refine G_iald hs2 sd1 dX12_order_58 ?_
          refine G_goto (tgt := 64) dX12_order_59 (by decide) ?_
          exact G_iret rfl dX12_order_64 ⟨_, rfl, w⟩
      · have w := w.2 c3
        refine G_aload_n 0 rfl dX12_order_30 rfl ?_
        refine G_geti (k := 25) hs1 (q := (RX12, TX12, 40)) rfl inX12 (by decide) (Or.inl rfl) hF_X12_273 dX12_order_31 ?_
        refine G_goto (tgt := 64) dX12_order_34 (by decide) ?_
        exact G_iret rfl dX12_order_64 ⟨_, rfl, w⟩
    · have w := w.2 c2
      refine G_bipush (v := -6) dX12_order_22 (by decide) ?_
      exact G_iret rfl dX12_order_24 ⟨_, rfl, w⟩
  · have w := w.2 c1
    refine G_bipush (v := -2) dX12_order_7 (by decide) ?_
    exact G_iret rfl dX12_order_9 ⟨_, rfl, w⟩
-- LostDigitsModel.layEnds
theorem dX12_layEnds_0 : decode cX12_layEnds 0 = .ok (.aload_n 0, 1) := by decide +kernel
theorem dX12_layEnds_1 : decode cX12_layEnds 1 = .ok (.getfield 53, 3) := by decide +kernel
theorem dX12_layEnds_4 : decode cX12_layEnds 4 = .ok (.iload_n 1, 1) := by decide +kernel
theorem dX12_layEnds_5 : decode cX12_layEnds 5 = .ok (.lload_n 2, 1) := by decide +kernel
theorem dX12_layEnds_6 : decode cX12_layEnds 6 = .ok (.lastore, 1) := by decide +kernel
theorem dX12_layEnds_7 : decode cX12_layEnds 7 = .ok (.aload_n 0, 1) := by decide +kernel
theorem dX12_layEnds_8 : decode cX12_layEnds 8 = .ok (.getfield 56, 3) := by decide +kernel
theorem dX12_layEnds_11 : decode cX12_layEnds 11 = .ok (.iload_n 1, 1) := by decide +kernel
theorem dX12_layEnds_12 : decode cX12_layEnds 12 = .ok (.lload 4, 2) := by decide +kernel
theorem dX12_layEnds_14 : decode cX12_layEnds 14 = .ok (.lastore, 1) := by decide +kernel
theorem dX12_layEnds_15 : decode cX12_layEnds 15 = .ok (.lload_n 2, 1) := by decide +kernel
theorem dX12_layEnds_16 : decode cX12_layEnds 16 = .ok (.ldc2_w 94, 3) := by decide +kernel
theorem dX12_layEnds_19 : decode cX12_layEnds 19 = .ok (.lcmp, 1) := by decide +kernel
theorem dX12_layEnds_20 : decode cX12_layEnds 20 = .ok (.ifCond .eq 12, 3) := by decide +kernel
theorem dX12_layEnds_23 : decode cX12_layEnds 23 = .ok (.lload 4, 2) := by decide +kernel
theorem dX12_layEnds_25 : decode cX12_layEnds 25 = .ok (.ldc2_w 94, 3) := by decide +kernel
theorem dX12_layEnds_28 : decode cX12_layEnds 28 = .ok (.lcmp, 1) := by decide +kernel
theorem dX12_layEnds_29 : decode cX12_layEnds 29 = .ok (.ifCond .ne 21, 3) := by decide +kernel
theorem dX12_layEnds_32 : decode cX12_layEnds 32 = .ok (.aload_n 0, 1) := by decide +kernel
theorem dX12_layEnds_33 : decode cX12_layEnds 33 = .ok (.getfield 53, 3) := by decide +kernel
theorem dX12_layEnds_36 : decode cX12_layEnds 36 = .ok (.iload_n 1, 1) := by decide +kernel
theorem dX12_layEnds_37 : decode cX12_layEnds 37 = .ok (.ldc2_w 94, 3) := by decide +kernel
theorem dX12_layEnds_40 : decode cX12_layEnds 40 = .ok (.lastore, 1) := by decide +kernel
theorem dX12_layEnds_41 : decode cX12_layEnds 41 = .ok (.aload_n 0, 1) := by decide +kernel
theorem dX12_layEnds_42 : decode cX12_layEnds 42 = .ok (.getfield 56, 3) := by decide +kernel
theorem dX12_layEnds_45 : decode cX12_layEnds 45 = .ok (.iload_n 1, 1) := by decide +kernel
theorem dX12_layEnds_46 : decode cX12_layEnds 46 = .ok (.ldc2_w 94, 3) := by decide +kernel
theorem dX12_layEnds_49 : decode cX12_layEnds 49 = .ok (.lastore, 1) := by decide +kernel
theorem dX12_layEnds_50 : decode cX12_layEnds 50 = .ok (.return_, 1) := by decide +kernel
set_option maxRecDepth 10000 in
theorem NX12_layEnds_0 {d : Nat} {S : fW} {h : fH} {Q : fH → Prop} {r0 : Nat} {x1 : Int32} {x2 : Int64} {x4 : Int64} {r0_pad r0_text r0_number r0_span r0_now r0_sizeOf r0_workedTo r0_slip r0_exactUpper r0_exactLower r0_more r0_terms r0_order r0_bestOrder r0_low r0_high r0_built r0_better r0_base r0_kept r0_isKept : Nat}  
    (hs1 : (r0, shX12 r0_pad r0_text r0_number r0_span r0_now r0_sizeOf r0_workedTo r0_slip r0_exactUpper r0_exactLower r0_more r0_terms r0_order r0_bestOrder r0_low r0_high r0_built r0_better r0_base r0_kept r0_isKept) ∈ S)
    (hs2 : (r0_low, shJ 13) ∈ S)
    (hs3 : (r0_high, shJ 13) ∈ S)
    (w : vp_in x1 13 ∧ ∀ g_1 : fH, g_1 = u_al h r0_low (vp_updL (h.2.2.2 r0_low) x1.toNatClampNeg x2) → ∀ g_2 : fH, g_2 = u_al g_1 r0_high (vp_updL (g_1.2.2.2 r0_high) x1.toNatClampNeg x4) → ((x2 = (1000000000000000000 : Int64) → ∀ g_3 : fH, g_3 = u_al g_2 r0_low (vp_updL (g_2.2.2.2 r0_low) x1.toNatClampNeg (1000000000000000000 : Int64)) → ∀ g_4 : fH, g_4 = u_al g_3 r0_high (vp_updL (g_3.2.2.2 r0_high) x1.toNatClampNeg (1000000000000000000 : Int64)) → Q g_4) ∧ (¬ x2 = (1000000000000000000 : Int64) → ((¬ x4 = (1000000000000000000 : Int64) → Q g_2) ∧ (x4 = (1000000000000000000 : Int64) → ∀ g_5 : fH, g_5 = u_al g_2 r0_low (vp_updL (g_2.2.2.2 r0_low) x1.toNatClampNeg (1000000000000000000 : Int64)) → ∀ g_6 : fH, g_6 = u_al g_5 r0_high (vp_updL (g_5.2.2.2 r0_high) x1.toNatClampNeg (1000000000000000000 : Int64)) → Q g_6))))) :
    OkV d mX12_layEnds S [.ref r0, .int x1, .long x2, .long x4] h Q := by
  refine Ok.of (by decide) (Nat.le_of_ble_eq_true rfl) ?_
  refine G_aload_n 0 rfl dX12_layEnds_0 rfl ?_
  refine G_getr (j := r0_low) (k := 27) hs1 (q := (RX12, TX12, 40)) rfl inX12 (by decide) rfl hF_X12_53 dX12_layEnds_1 ?_
  refine G_iload_n 1 rfl dX12_layEnds_4 rfl ?_
  refine G_lload_n 2 rfl dX12_layEnds_5 rfl ?_
  obtain ⟨sd1, w⟩ := w
  refine G_last hs2 sd1 dX12_layEnds_6 ?_
  refine G_nm (fun g_1 e_1 => ?_)
  have w := w g_1 e_1
  refine G_aload_n 0 rfl dX12_layEnds_7 rfl ?_
  refine G_getr (j := r0_high) (k := 28) hs1 (q := (RX12, TX12, 40)) rfl inX12 (by decide) rfl hF_X12_56 dX12_layEnds_8 ?_
  refine G_iload_n 1 rfl dX12_layEnds_11 rfl ?_
  refine G_lload 3 rfl dX12_layEnds_12 ?_
  refine G_last hs3 sd1 dX12_layEnds_14 ?_
  refine G_nm (fun g_2 e_2 => ?_)
  have w := w g_2 e_2
  refine G_lload_n 2 rfl dX12_layEnds_15 rfl ?_
  refine G_ldc2 hK_X12_94 dX12_layEnds_16 ?_
  refine G_lif_eq (tgt := 32) dX12_layEnds_19 dX12_layEnds_20 (by decide) (fun c1 => ?_) (fun c1 => ?_)
  · have w := w.1 c1
    refine G_aload_n 0 rfl dX12_layEnds_32 rfl ?_
    refine G_getr (j := r0_low) (k := 27) hs1 (q := (RX12, TX12, 40)) rfl inX12 (by decide) rfl hF_X12_53 dX12_layEnds_33 ?_
    refine G_iload_n 1 rfl dX12_layEnds_36 rfl ?_
    refine G_ldc2 hK_X12_94 dX12_layEnds_37 ?_
    refine G_last hs2 sd1 dX12_layEnds_40 ?_
    refine G_nm (fun g_3 e_3 => ?_)
    have w := w g_3 e_3
    refine G_aload_n 0 rfl dX12_layEnds_41 rfl ?_
    refine G_getr (j := r0_high) (k := 28) hs1 (q := (RX12, TX12, 40)) rfl inX12 (by decide) rfl hF_X12_56 dX12_layEnds_42 ?_
    refine G_iload_n 1 rfl dX12_layEnds_45 rfl ?_
    refine G_ldc2 hK_X12_94 dX12_layEnds_46 ?_
    refine G_last hs3 sd1 dX12_layEnds_49 ?_
    refine G_nm (fun g_4 e_4 => ?_)
    have w := w g_4 e_4
    exact G_vret rfl dX12_layEnds_50 ⟨rfl, w⟩
  · have w := w.2 c1
    refine G_lload 3 rfl dX12_layEnds_23 ?_
    refine G_ldc2 hK_X12_94 dX12_layEnds_25 ?_
    refine G_lif_ne (tgt := 50) dX12_layEnds_28 dX12_layEnds_29 (by decide) (fun c2 => ?_) (fun c2 => ?_)
    · have w := w.1 c2
      exact G_vret rfl dX12_layEnds_50 ⟨rfl, w⟩
    · have w := w.2 c2
      refine G_aload_n 0 rfl dX12_layEnds_32 rfl ?_
      refine G_getr (j := r0_low) (k := 27) hs1 (q := (RX12, TX12, 40)) rfl inX12 (by decide) rfl hF_X12_53 dX12_layEnds_33 ?_
      refine G_iload_n 1 rfl dX12_layEnds_36 rfl ?_
      refine G_ldc2 hK_X12_94 dX12_layEnds_37 ?_
      refine G_last hs2 sd1 dX12_layEnds_40 ?_
      refine G_nm (fun g_5 e_5 => ?_)
      have w := w g_5 e_5
      refine G_aload_n 0 rfl dX12_layEnds_41 rfl ?_
      refine G_getr (j := r0_high) (k := 28) hs1 (q := (RX12, TX12, 40)) rfl inX12 (by decide) rfl hF_X12_56 dX12_layEnds_42 ?_
      refine G_iload_n 1 rfl dX12_layEnds_45 rfl ?_
      refine G_ldc2 hK_X12_94 dX12_layEnds_46 ?_
      refine G_last hs3 sd1 dX12_layEnds_49 ?_
      refine G_nm (fun g_6 e_6 => ?_)
      have w := w g_6 e_6
      exact G_vret rfl dX12_layEnds_50 ⟨rfl, w⟩
-- LostDigitsModel.ofPairs
theorem dX12_ofPairs_0 : decode cX12_ofPairs 0 = .ok (.lconst 0, 1) := by decide +kernel
theorem dX12_ofPairs_1 : decode cX12_ofPairs 1 = .ok (.lstore 5, 2) := by decide +kernel
theorem dX12_ofPairs_3 : decode cX12_ofPairs 3 = .ok (.iconst 0, 1) := by decide +kernel
theorem dX12_ofPairs_4 : decode cX12_ofPairs 4 = .ok (.istore 7, 2) := by decide +kernel
theorem dX12_ofPairs_6 : decode cX12_ofPairs 6 = .ok (.iload 7, 2) := by decide +kernel
theorem dX12_ofPairs_8 : decode cX12_ofPairs 8 = .ok (.iconst 4, 1) := by decide +kernel
theorem dX12_ofPairs_9 : decode cX12_ofPairs 9 = .ok (.if_icmp .ge 115, 3) := by decide +kernel
theorem dX12_ofPairs_12 : decode cX12_ofPairs 12 = .ok (.aload_n 0, 1) := by decide +kernel
theorem dX12_ofPairs_13 : decode cX12_ofPairs 13 = .ok (.iload_n 1, 1) := by decide +kernel
theorem dX12_ofPairs_14 : decode cX12_ofPairs 14 = .ok (.iload 7, 2) := by decide +kernel
theorem dX12_ofPairs_16 : decode cX12_ofPairs 16 = .ok (.iconst 2, 1) := by decide +kernel
theorem dX12_ofPairs_17 : decode cX12_ofPairs 17 = .ok (.if_icmp .ge 12, 3) := by decide +kernel
theorem dX12_ofPairs_20 : decode cX12_ofPairs 20 = .ok (.aload_n 0, 1) := by decide +kernel
theorem dX12_ofPairs_21 : decode cX12_ofPairs 21 = .ok (.getfield 53, 3) := by decide +kernel
theorem dX12_ofPairs_24 : decode cX12_ofPairs 24 = .ok (.iload_n 2, 1) := by decide +kernel
theorem dX12_ofPairs_25 : decode cX12_ofPairs 25 = .ok (.laload, 1) := by decide +kernel
theorem dX12_ofPairs_26 : decode cX12_ofPairs 26 = .ok (.goto 9, 3) := by decide +kernel
theorem dX12_ofPairs_29 : decode cX12_ofPairs 29 = .ok (.aload_n 0, 1) := by decide +kernel
theorem dX12_ofPairs_30 : decode cX12_ofPairs 30 = .ok (.getfield 56, 3) := by decide +kernel
theorem dX12_ofPairs_33 : decode cX12_ofPairs 33 = .ok (.iload_n 2, 1) := by decide +kernel
theorem dX12_ofPairs_34 : decode cX12_ofPairs 34 = .ok (.laload, 1) := by decide +kernel
theorem dX12_ofPairs_35 : decode cX12_ofPairs 35 = .ok (.iload 7, 2) := by decide +kernel
theorem dX12_ofPairs_37 : decode cX12_ofPairs 37 = .ok (.iconst 2, 1) := by decide +kernel
theorem dX12_ofPairs_38 : decode cX12_ofPairs 38 = .ok (.irem, 1) := by decide +kernel
theorem dX12_ofPairs_39 : decode cX12_ofPairs 39 = .ok (.ifCond .ne 12, 3) := by decide +kernel
theorem dX12_ofPairs_42 : decode cX12_ofPairs 42 = .ok (.aload_n 0, 1) := by decide +kernel
theorem dX12_ofPairs_43 : decode cX12_ofPairs 43 = .ok (.getfield 53, 3) := by decide +kernel
theorem dX12_ofPairs_46 : decode cX12_ofPairs 46 = .ok (.iload_n 3, 1) := by decide +kernel
theorem dX12_ofPairs_47 : decode cX12_ofPairs 47 = .ok (.laload, 1) := by decide +kernel
theorem dX12_ofPairs_48 : decode cX12_ofPairs 48 = .ok (.goto 9, 3) := by decide +kernel
theorem dX12_ofPairs_51 : decode cX12_ofPairs 51 = .ok (.aload_n 0, 1) := by decide +kernel
theorem dX12_ofPairs_52 : decode cX12_ofPairs 52 = .ok (.getfield 56, 3) := by decide +kernel
theorem dX12_ofPairs_55 : decode cX12_ofPairs 55 = .ok (.iload_n 3, 1) := by decide +kernel
theorem dX12_ofPairs_56 : decode cX12_ofPairs 56 = .ok (.laload, 1) := by decide +kernel
theorem dX12_ofPairs_57 : decode cX12_ofPairs 57 = .ok (.iconst 3, 1) := by decide +kernel
theorem dX12_ofPairs_58 : decode cX12_ofPairs 58 = .ok (.iload 4, 2) := by decide +kernel
theorem dX12_ofPairs_60 : decode cX12_ofPairs 60 = .ok (.isub, 1) := by decide +kernel
theorem dX12_ofPairs_61 : decode cX12_ofPairs 61 = .ok (.iconst 1, 1) := by decide +kernel
theorem dX12_ofPairs_62 : decode cX12_ofPairs 62 = .ok (.invokevirtual 198, 3) := by decide +kernel
theorem dX12_ofPairs_65 : decode cX12_ofPairs 65 = .ok (.lstore 8, 2) := by decide +kernel
theorem dX12_ofPairs_67 : decode cX12_ofPairs 67 = .ok (.lload 8, 2) := by decide +kernel
theorem dX12_ofPairs_69 : decode cX12_ofPairs 69 = .ok (.ldc2_w 94, 3) := by decide +kernel
theorem dX12_ofPairs_72 : decode cX12_ofPairs 72 = .ok (.lcmp, 1) := by decide +kernel
theorem dX12_ofPairs_73 : decode cX12_ofPairs 73 = .ok (.ifCond .ne 7, 3) := by decide +kernel
theorem dX12_ofPairs_76 : decode cX12_ofPairs 76 = .ok (.ldc2_w 94, 3) := by decide +kernel
theorem dX12_ofPairs_79 : decode cX12_ofPairs 79 = .ok (.lreturn, 1) := by decide +kernel
theorem dX12_ofPairs_80 : decode cX12_ofPairs 80 = .ok (.iload 7, 2) := by decide +kernel
theorem dX12_ofPairs_82 : decode cX12_ofPairs 82 = .ok (.ifCond .eq 27, 3) := by decide +kernel
theorem dX12_ofPairs_85 : decode cX12_ofPairs 85 = .ok (.iload 4, 2) := by decide +kernel
theorem dX12_ofPairs_87 : decode cX12_ofPairs 87 = .ok (.ifCond .ne 14, 3) := by decide +kernel
theorem dX12_ofPairs_90 : decode cX12_ofPairs 90 = .ok (.lload 8, 2) := by decide +kernel
theorem dX12_ofPairs_92 : decode cX12_ofPairs 92 = .ok (.lload 5, 2) := by decide +kernel
theorem dX12_ofPairs_94 : decode cX12_ofPairs 94 = .ok (.lcmp, 1) := by decide +kernel
theorem dX12_ofPairs_95 : decode cX12_ofPairs 95 = .ok (.ifCond .ge 19, 3) := by decide +kernel
theorem dX12_ofPairs_98 : decode cX12_ofPairs 98 = .ok (.goto 11, 3) := by decide +kernel
theorem dX12_ofPairs_101 : decode cX12_ofPairs 101 = .ok (.lload 8, 2) := by decide +kernel
theorem dX12_ofPairs_103 : decode cX12_ofPairs 103 = .ok (.lload 5, 2) := by decide +kernel
theorem dX12_ofPairs_105 : decode cX12_ofPairs 105 = .ok (.lcmp, 1) := by decide +kernel
theorem dX12_ofPairs_106 : decode cX12_ofPairs 106 = .ok (.ifCond .le 8, 3) := by decide +kernel
theorem dX12_ofPairs_109 : decode cX12_ofPairs 109 = .ok (.lload 8, 2) := by decide +kernel
theorem dX12_ofPairs_111 : decode cX12_ofPairs 111 = .ok (.goto 5, 3) := by decide +kernel
theorem dX12_ofPairs_114 : decode cX12_ofPairs 114 = .ok (.lload 5, 2) := by decide +kernel
theorem dX12_ofPairs_116 : decode cX12_ofPairs 116 = .ok (.lstore 5, 2) := by decide +kernel
theorem dX12_ofPairs_118 : decode cX12_ofPairs 118 = .ok (.iinc 7 1, 3) := by decide +kernel
theorem dX12_ofPairs_121 : decode cX12_ofPairs 121 = .ok (.goto (-115), 3) := by decide +kernel
theorem dX12_ofPairs_124 : decode cX12_ofPairs 124 = .ok (.lload 5, 2) := by decide +kernel
theorem dX12_ofPairs_126 : decode cX12_ofPairs 126 = .ok (.lreturn, 1) := by decide +kernel
set_option maxRecDepth 10000 in
theorem NX12_ofPairs_0 {d : Nat} {S : fW} {h : fH} {Q : Int64 → fH → Prop} {r0 : Nat} {x1 : Int32} {x2 : Int32} {x3 : Int32} {x4 : Int32}  
    (w : G mX12_ofPairs (d + 1) S (f_PL Q) 6 [(0, .ref r0), (1, .int x1), (2, .int x2), (3, .int x3), (4, .int x4), (5, .long (0 : Int64)), (7, .int (0 : Int32))] [] h) :
    OkL (d + 1) mX12_ofPairs S [.ref r0, .int x1, .int x2, .int x3, .int x4] h Q := by
  refine Ok.of (by decide) (Nat.le_of_ble_eq_true rfl) ?_
  refine G_lconst (v := 0) dX12_ofPairs_0 (by decide) ?_
  refine G_lstore dX12_ofPairs_1 (by decide) (lv' := [(5, .long (0 : Int64)), (0, .ref r0), (1, .int x1), (2, .int x2), (3, .int x3), (4, .int x4)]) rfl ?_
  refine G_iconst (v := 0) dX12_ofPairs_3 (by decide) ?_
  refine G_istore dX12_ofPairs_4 (by decide) (lv' := [(7, .int (0 : Int32)), (5, .long (0 : Int64)), (0, .ref r0), (1, .int x1), (2, .int x2), (3, .int x3), (4, .int x4)]) rfl ?_
  exact G_sub [2, 3, 4, 5, 6, 1, 0] rfl w

set_option maxRecDepth 10000 in
theorem NX12_ofPairs_6 {d : Nat} {S : fW} {h : fH} {Q : Int64 → fH → Prop} {r0 : Nat} {x1 : Int32} {x2 : Int32} {x3 : Int32} {x4 : Int32} {x5 : Int64} {x7 : Int32} {r0_pad r0_text r0_number r0_span r0_now r0_sizeOf r0_workedTo r0_slip r0_exactUpper r0_exactLower r0_more r0_terms r0_order r0_bestOrder r0_low r0_high r0_built r0_better r0_base r0_kept r0_isKept : Nat}  
    (hs1 : (r0, shX12 r0_pad r0_text r0_number r0_span r0_now r0_sizeOf r0_workedTo r0_slip r0_exactUpper r0_exactLower r0_more r0_terms r0_order r0_bestOrder r0_low r0_high r0_built r0_better r0_base r0_kept r0_isKept) ∈ S)
    (hs2 : (r0_high, shJ 13) ∈ S)
    (hs3 : (r0_low, shJ 13) ∈ S)
    (w : (((4 : Int32) ≤ x7 → Q x5 h) ∧ (¬ (4 : Int32) ≤ x7 → (((2 : Int32) ≤ x7 → vp_in x2 13 ∧ ((¬ (x7 - x7 / (2 : Int32) * (2 : Int32)) = 0 → vp_in x3 13 ∧ G mX12_ofPairs (d + 1) S (f_PL Q) 57 [(0, .ref r0), (1, .int x1), (2, .int x2), (3, .int x3), (4, .int x4), (5, .long x5), (7, .int x7)] [.long (h.2.2.2 r0_high x3.toNatClampNeg), .long (h.2.2.2 r0_high x2.toNatClampNeg), .int x1, .ref r0] h) ∧ ((x7 - x7 / (2 : Int32) * (2 : Int32)) = 0 → vp_in x3 13 ∧ G mX12_ofPairs (d + 1) S (f_PL Q) 57 [(0, .ref r0), (1, .int x1), (2, .int x2), (3, .int x3), (4, .int x4), (5, .long x5), (7, .int x7)] [.long (h.2.2.2 r0_low x3.toNatClampNeg), .long (h.2.2.2 r0_high x2.toNatClampNeg), .int x1, .ref r0] h))) ∧ (¬ (2 : Int32) ≤ x7 → vp_in x2 13 ∧ ((¬ (x7 - x7 / (2 : Int32) * (2 : Int32)) = 0 → vp_in x3 13 ∧ G mX12_ofPairs (d + 1) S (f_PL Q) 57 [(0, .ref r0), (1, .int x1), (2, .int x2), (3, .int x3), (4, .int x4), (5, .long x5), (7, .int x7)] [.long (h.2.2.2 r0_high x3.toNatClampNeg), .long (h.2.2.2 r0_low x2.toNatClampNeg), .int x1, .ref r0] h) ∧ ((x7 - x7 / (2 : Int32) * (2 : Int32)) = 0 → vp_in x3 13 ∧ G mX12_ofPairs (d + 1) S (f_PL Q) 57 [(0, .ref r0), (1, .int x1), (2, .int x2), (3, .int x3), (4, .int x4), (5, .long x5), (7, .int x7)] [.long (h.2.2.2 r0_low x3.toNatClampNeg), .long (h.2.2.2 r0_low x2.toNatClampNeg), .int x1, .ref r0] h))))))) :
    G mX12_ofPairs (d + 1) S (f_PL Q) 6 [(0, .ref r0), (1, .int x1), (2, .int x2), (3, .int x3), (4, .int x4), (5, .long x5), (7, .int x7)] [] h := by
  refine G_iload 6 rfl dX12_ofPairs_6 ?_
  refine G_iconst (v := 4) dX12_ofPairs_8 (by decide) ?_
  refine G_icmp_ge (tgt := 124) dX12_ofPairs_9 (by decide) (fun c1 => ?_) (fun c1 => ?_)
  · have w := w.1 c1
    refine G_lload 5 rfl dX12_ofPairs_124 ?_
    exact G_lret rfl dX12_ofPairs_126 ⟨_, rfl, w⟩
  · have w := w.2 c1
    refine G_aload_n 0 rfl dX12_ofPairs_12 rfl ?_
    refine G_iload_n 1 rfl dX12_ofPairs_13 rfl ?_
    refine G_iload 6 rfl dX12_ofPairs_14 ?_
    refine G_iconst (v := 2) dX12_ofPairs_16 (by decide) ?_
    refine G_icmp_ge (tgt := 29) dX12_ofPairs_17 (by decide) (fun c2 => ?_) (fun c2 => ?_)
    · have w := w.1 c2
      refine G_aload_n 0 rfl dX12_ofPairs_29 rfl ?_
      refine G_getr (j := r0_high) (k := 28) hs1 (q := (RX12, TX12, 40)) rfl inX12 (by decide) rfl hF_X12_56 dX12_ofPairs_30 ?_
      refine G_iload_n 2 rfl dX12_ofPairs_33 rfl ?_
      obtain ⟨sd1, w⟩ := w
      refine G_lald hs2 sd1 dX12_ofPairs_34 ?_
      refine G_iload 6 rfl dX12_ofPairs_35 ?_
      refine G_iconst (v := 2) dX12_ofPairs_37 (by decide) ?_
      refine G_irem dX12_ofPairs_38 (by decide) ?_
      refine G_if_ne (tgt := 51) dX12_ofPairs_39 (by decide) (fun c3 => ?_) (fun c3 => ?_)
      · have w := w.1 c3
        refine G_aload_n 0 rfl dX12_ofPairs_51 rfl ?_
        refine G_getr (j := r0_high) (k := 28) hs1 (q := (RX12, TX12, 40)) rfl inX12 (by decide) rfl hF_X12_56 dX12_ofPairs_52 ?_
        refine G_iload_n 3 rfl dX12_ofPairs_55 rfl ?_
        obtain ⟨sd2, w⟩ := w
        refine G_lald hs2 sd2 dX12_ofPairs_56 ?_
        exact G_sub [0, 1, 2, 3, 4, 5, 6] rfl w
      · have w := w.2 c3
        refine G_aload_n 0 rfl dX12_ofPairs_42 rfl ?_
        refine G_getr (j := r0_low) (k := 27) hs1 (q := (RX12, TX12, 40)) rfl inX12 (by decide) rfl hF_X12_53 dX12_ofPairs_43 ?_
        refine G_iload_n 3 rfl dX12_ofPairs_46 rfl ?_
        obtain ⟨sd2, w⟩ := w
        refine G_lald hs3 sd2 dX12_ofPairs_47 ?_
        refine G_goto (tgt := 57) dX12_ofPairs_48 (by decide) ?_
        exact G_sub [0, 1, 2, 3, 4, 5, 6] rfl w
    · have w := w.2 c2
      refine G_aload_n 0 rfl dX12_ofPairs_20 rfl ?_
      refine G_getr (j := r0_low) (k := 27) hs1 (q := (RX12, TX12, 40)) rfl inX12 (by decide) rfl hF_X12_53 dX12_ofPairs_21 ?_
      refine G_iload_n 2 rfl dX12_ofPairs_24 rfl ?_
      obtain ⟨sd1, w⟩ := w
      refine G_lald hs3 sd1 dX12_ofPairs_25 ?_
      refine G_goto (tgt := 35) dX12_ofPairs_26 (by decide) ?_
      refine G_iload 6 rfl dX12_ofPairs_35 ?_
      refine G_iconst (v := 2) dX12_ofPairs_37 (by decide) ?_
      refine G_irem dX12_ofPairs_38 (by decide) ?_
      refine G_if_ne (tgt := 51) dX12_ofPairs_39 (by decide) (fun c3 => ?_) (fun c3 => ?_)
      · have w := w.1 c3
        refine G_aload_n 0 rfl dX12_ofPairs_51 rfl ?_
        refine G_getr (j := r0_high) (k := 28) hs1 (q := (RX12, TX12, 40)) rfl inX12 (by decide) rfl hF_X12_56 dX12_ofPairs_52 ?_
        refine G_iload_n 3 rfl dX12_ofPairs_55 rfl ?_
        obtain ⟨sd2, w⟩ := w
        refine G_lald hs2 sd2 dX12_ofPairs_56 ?_
        exact G_sub [0, 1, 2, 3, 4, 5, 6] rfl w
      · have w := w.2 c3
        refine G_aload_n 0 rfl dX12_ofPairs_42 rfl ?_
        refine G_getr (j := r0_low) (k := 27) hs1 (q := (RX12, TX12, 40)) rfl inX12 (by decide) rfl hF_X12_53 dX12_ofPairs_43 ?_
        refine G_iload_n 3 rfl dX12_ofPairs_46 rfl ?_
        obtain ⟨sd2, w⟩ := w
        refine G_lald hs3 sd2 dX12_ofPairs_47 ?_
        refine G_goto (tgt := 57) dX12_ofPairs_48 (by decide) ?_
        exact G_sub [0, 1, 2, 3, 4, 5, 6] rfl w

set_option maxRecDepth 10000 in
theorem NX12_ofPairs_57 {d : Nat} {S : fW} {h : fH} {Q : Int64 → fH → Prop} {r0 : Nat} {x1 : Int32} {x2 : Int32} {x3 : Int32} {x4 : Int32} {x5 : Int64} {x7 : Int32} {s0 : Nat} {s1 : Int32} {s2 : Int64} {s3 : Int64} {s0_pad s0_text s0_number s0_span s0_now s0_sizeOf s0_workedTo s0_slip s0_exactUpper s0_exactLower s0_more s0_terms s0_order s0_bestOrder s0_low s0_high s0_built s0_better s0_base s0_kept s0_isKept : Nat}  
    (hs1 : (s0, shX12 s0_pad s0_text s0_number s0_span s0_now s0_sizeOf s0_workedTo s0_slip s0_exactUpper s0_exactLower s0_more s0_terms s0_order s0_bestOrder s0_low s0_high s0_built s0_better s0_base s0_kept s0_isKept) ∈ S)
    (w : ∃ Q1 : Int64 → fH → Prop, OkL d mX12_made S [.ref s0, .int s1, .long s2, .long s3, .int ((3 : Int32) - x4), .int (1 : Int32)] h Q1 ∧ ∀ (v_1 : Int64) (h_1 : fH), Q1 v_1 h_1 → ((¬ v_1 = (1000000000000000000 : Int64) → ((x7 = 0 → G mX12_ofPairs (d + 1) S (f_PL Q) 6 [(0, .ref r0), (1, .int x1), (2, .int x2), (3, .int x3), (4, .int x4), (5, .long v_1), (7, .int (x7 + 1))] [] h_1) ∧ (¬ x7 = 0 → ((¬ x4 = 0 → ((v_1 ≤ x5 → G mX12_ofPairs (d + 1) S (f_PL Q) 6 [(0, .ref r0), (1, .int x1), (2, .int x2), (3, .int x3), (4, .int x4), (5, .long x5), (7, .int (x7 + 1))] [] h_1) ∧ (¬ v_1 ≤ x5 → G mX12_ofPairs (d + 1) S (f_PL Q) 6 [(0, .ref r0), (1, .int x1), (2, .int x2), (3, .int x3), (4, .int x4), (5, .long v_1), (7, .int (x7 + 1))] [] h_1))) ∧ (x4 = 0 → ((x5 ≤ v_1 → G mX12_ofPairs (d + 1) S (f_PL Q) 6 [(0, .ref r0), (1, .int x1), (2, .int x2), (3, .int x3), (4, .int x4), (5, .long x5), (7, .int (x7 + 1))] [] h_1) ∧ (¬ x5 ≤ v_1 → G mX12_ofPairs (d + 1) S (f_PL Q) 6 [(0, .ref r0), (1, .int x1), (2, .int x2), (3, .int x3), (4, .int x4), (5, .long v_1), (7, .int (x7 + 1))] [] h_1))))))) ∧ (v_1 = (1000000000000000000 : Int64) → Q (1000000000000000000 : Int64) h_1))) :
    G mX12_ofPairs (d + 1) S (f_PL Q) 57 [(0, .ref r0), (1, .int x1), (2, .int x2), (3, .int x3), (4, .int x4), (5, .long x5), (7, .int x7)] [.long s3, .long s2, .int s1, .ref s0] h := by
  refine G_iconst (v := 3) dX12_ofPairs_57 (by decide) ?_
  refine G_iload 4 rfl dX12_ofPairs_58 ?_
  refine G_isub dX12_ofPairs_60 ?_
  refine G_iconst (v := 1) dX12_ofPairs_61 (by decide) ?_
  obtain ⟨Q1, ok1, w⟩ := w
  refine G_callV (Z := mX12_made) (As := [.int s1, .long s2, .long s3, .int ((3 : Int32) - x4), .int (1 : Int32)]) (st := []) hL_X12_198 hI_X12_made hS_X12_made hC_X12_made hN_X12 nX12_made (by decide) hs1 rfl rfl rfl (Nat.le_of_ble_eq_true rfl) dX12_ofPairs_62 ok1 (fun r_ h_1 z_ => ?_)
  obtain ⟨v_1, rfl, q_1⟩ := z_
  have w := w v_1 h_1 q_1
  refine G_lstore dX12_ofPairs_65 (by decide) (lv' := [(8, .long v_1), (0, .ref r0), (1, .int x1), (2, .int x2), (3, .int x3), (4, .int x4), (5, .long x5), (7, .int x7)]) rfl ?_
  refine G_lload 0 rfl dX12_ofPairs_67 ?_
  refine G_ldc2 hK_X12_94 dX12_ofPairs_69 ?_
  refine G_lif_ne (tgt := 80) dX12_ofPairs_72 dX12_ofPairs_73 (by decide) (fun c1 => ?_) (fun c1 => ?_)
  · have w := w.1 c1
    refine G_iload 7 rfl dX12_ofPairs_80 ?_
    refine G_if_eq (tgt := 109) dX12_ofPairs_82 (by decide) (fun c2 => ?_) (fun c2 => ?_)
    · have w := w.1 c2
      refine G_lload 0 rfl dX12_ofPairs_109 ?_
      refine G_goto (tgt := 116) dX12_ofPairs_111 (by decide) ?_
      refine G_lstore dX12_ofPairs_116 (by decide) (lv' := [(5, .long v_1), (8, .long v_1), (0, .ref r0), (1, .int x1), (2, .int x2), (3, .int x3), (4, .int x4), (7, .int x7)]) rfl ?_
      refine G_iinc (v := 1) 7 rfl dX12_ofPairs_118 (by decide) (by decide) (lv' := [(7, .int (x7 + 1)), (5, .long v_1), (8, .long v_1), (0, .ref r0), (1, .int x1), (2, .int x2), (3, .int x3), (4, .int x4)]) rfl ?_
      refine G_goto (tgt := 6) dX12_ofPairs_121 (by decide) ?_
      exact G_sub [3, 4, 5, 6, 7, 1, 0] rfl w
    · have w := w.2 c2
      refine G_iload 5 rfl dX12_ofPairs_85 ?_
      refine G_if_ne (tgt := 101) dX12_ofPairs_87 (by decide) (fun c3 => ?_) (fun c3 => ?_)
      · have w := w.1 c3
        refine G_lload 0 rfl dX12_ofPairs_101 ?_
        refine G_lload 6 rfl dX12_ofPairs_103 ?_
        refine G_lif_le (tgt := 114) dX12_ofPairs_105 dX12_ofPairs_106 (by decide) (fun c4 => ?_) (fun c4 => ?_)
        · have w := w.1 c4
          refine G_lload 6 rfl dX12_ofPairs_114 ?_
          refine G_lstore dX12_ofPairs_116 (by decide) (lv' := [(5, .long x5), (8, .long v_1), (0, .ref r0), (1, .int x1), (2, .int x2), (3, .int x3), (4, .int x4), (7, .int x7)]) rfl ?_
          refine G_iinc (v := 1) 7 rfl dX12_ofPairs_118 (by decide) (by decide) (lv' := [(7, .int (x7 + 1)), (5, .long x5), (8, .long v_1), (0, .ref r0), (1, .int x1), (2, .int x2), (3, .int x3), (4, .int x4)]) rfl ?_
          refine G_goto (tgt := 6) dX12_ofPairs_121 (by decide) ?_
          exact G_sub [3, 4, 5, 6, 7, 1, 0] rfl w
        · have w := w.2 c4
          refine G_lload 0 rfl dX12_ofPairs_109 ?_
          refine G_goto (tgt := 116) dX12_ofPairs_111 (by decide) ?_
          refine G_lstore dX12_ofPairs_116 (by decide) (lv' := [(5, .long v_1), (8, .long v_1), (0, .ref r0), (1, .int x1), (2, .int x2), (3, .int x3), (4, .int x4), (7, .int x7)]) rfl ?_
          refine G_iinc (v := 1) 7 rfl dX12_ofPairs_118 (by decide) (by decide) (lv' := [(7, .int (x7 + 1)), (5, .long v_1), (8, .long v_1), (0, .ref r0), (1, .int x1), (2, .int x2), (3, .int x3), (4, .int x4)]) rfl ?_
          refine G_goto (tgt := 6) dX12_ofPairs_121 (by decide) ?_
          exact G_sub [3, 4, 5, 6, 7, 1, 0] rfl w
      · have w := w.2 c3
        refine G_lload 0 rfl dX12_ofPairs_90 ?_
        refine G_lload 6 rfl dX12_ofPairs_92 ?_
        refine G_lif_ge (tgt := 114) dX12_ofPairs_94 dX12_ofPairs_95 (by decide) (fun c4 => ?_) (fun c4 => ?_)
        · have w := w.1 c4
          refine G_lload 6 rfl dX12_ofPairs_114 ?_
          refine G_lstore dX12_ofPairs_116 (by decide) (lv' := [(5, .long x5), (8, .long v_1), (0, .ref r0), (1, .int x1), (2, .int x2), (3, .int x3), (4, .int x4), (7, .int x7)]) rfl ?_
          refine G_iinc (v := 1) 7 rfl dX12_ofPairs_118 (by decide) (by decide) (lv' := [(7, .int (x7 + 1)), (5, .long x5), (8, .long v_1), (0, .ref r0), (1, .int x1), (2, .int x2), (3, .int x3), (4, .int x4)]) rfl ?_
          refine G_goto (tgt := 6) dX12_ofPairs_121 (by decide) ?_
          exact G_sub [3, 4, 5, 6, 7, 1, 0] rfl w
        · have w := w.2 c4
          refine G_goto (tgt := 109) dX12_ofPairs_98 (by decide) ?_
          refine G_lload 0 rfl dX12_ofPairs_109 ?_
          refine G_goto (tgt := 116) dX12_ofPairs_111 (by decide) ?_
          refine G_lstore dX12_ofPairs_116 (by decide) (lv' := [(5, .long v_1), (8, .long v_1), (0, .ref r0), (1, .int x1), (2, .int x2), (3, .int x3), (4, .int x4), (7, .int x7)]) rfl ?_
          refine G_iinc (v := 1) 7 rfl dX12_ofPairs_118 (by decide) (by decide) (lv' := [(7, .int (x7 + 1)), (5, .long v_1), (8, .long v_1), (0, .ref r0), (1, .int x1), (2, .int x2), (3, .int x3), (4, .int x4)]) rfl ?_
          refine G_goto (tgt := 6) dX12_ofPairs_121 (by decide) ?_
          exact G_sub [3, 4, 5, 6, 7, 1, 0] rfl w
  · have w := w.2 c1
    refine G_ldc2 hK_X12_94 dX12_ofPairs_76 ?_
    exact G_lret rfl dX12_ofPairs_79 ⟨_, rfl, w⟩

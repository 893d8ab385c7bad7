-- LostDigitsModel.isSign
theorem dX12_isSign_0 : decode cX12_isSign 0 = .ok (.iload_n 0, 1) := by decide +kernel
theorem dX12_isSign_1 : decode cX12_isSign 1 = .ok (.bipush 43, 2) := by decide +kernel
theorem dX12_isSign_3 : decode cX12_isSign 3 = .ok (.if_icmp .eq 21, 3) := by decide +kernel
theorem dX12_isSign_6 : decode cX12_isSign 6 = .ok (.iload_n 0, 1) := by decide +kernel
theorem dX12_isSign_7 : decode cX12_isSign 7 = .ok (.bipush 45, 2) := by decide +kernel
theorem dX12_isSign_9 : decode cX12_isSign 9 = .ok (.if_icmp .eq 15, 3) := by decide +kernel
theorem dX12_isSign_12 : decode cX12_isSign 12 = .ok (.iload_n 0, 1) := by decide +kernel
theorem dX12_isSign_13 : decode cX12_isSign 13 = .ok (.bipush 42, 2) := by decide +kernel
theorem dX12_isSign_15 : decode cX12_isSign 15 = .ok (.if_icmp .eq 9, 3) := by decide +kernel
theorem dX12_isSign_18 : decode cX12_isSign 18 = .ok (.iload_n 0, 1) := by decide +kernel
theorem dX12_isSign_19 : decode cX12_isSign 19 = .ok (.bipush 47, 2) := by decide +kernel
theorem dX12_isSign_21 : decode cX12_isSign 21 = .ok (.if_icmp .ne 7, 3) := by decide +kernel
theorem dX12_isSign_24 : decode cX12_isSign 24 = .ok (.iconst 1, 1) := by decide +kernel
theorem dX12_isSign_25 : decode cX12_isSign 25 = .ok (.goto 4, 3) := by decide +kernel
theorem dX12_isSign_28 : decode cX12_isSign 28 = .ok (.iconst 0, 1) := by decide +kernel
theorem dX12_isSign_29 : decode cX12_isSign 29 = .ok (.ireturn, 1) := by decide +kernel
set_option maxRecDepth 10000 in
theorem TX12_isSign_0 {d : Nat} {S : fW} {h : fH} {Q : Int32 → fH → Prop} {x0 : Int32}  
    (k1 : x0 = (43 : Int32) → Q (1 : Int32) h)
    (k2 : ¬ x0 = (43 : Int32) → x0 = (45 : Int32) → Q (1 : Int32) h)
    (k3 : ¬ x0 = (43 : Int32) → ¬ x0 = (45 : Int32) → x0 = (42 : Int32) → Q (1 : Int32) h)
    (k4 : ¬ x0 = (43 : Int32) → ¬ x0 = (45 : Int32) → ¬ x0 = (42 : Int32) → ¬ x0 = (47 : Int32) → Q (0 : Int32) h)
    (k5 : ¬ x0 = (43 : Int32) → ¬ x0 = (45 : Int32) → ¬ x0 = (42 : Int32) → x0 = (47 : Int32) → Q (1 : Int32) h) :
    OkI d mX12_isSign S [.int x0] h Q := by
  refine Ok.of (by decide) (Nat.le_of_ble_eq_true rfl) ?_
  refine G_iload_n 0 rfl dX12_isSign_0 rfl ?_
  refine G_bipush (v := 43) dX12_isSign_1 (by decide) ?_
  refine G_icmp_eq (tgt := 24) dX12_isSign_3 (by decide) (fun c1 => ?_) (fun c1 => ?_)
  · refine G_iconst (v := 1) dX12_isSign_24 (by decide) ?_
    refine G_goto (tgt := 29) dX12_isSign_25 (by decide) ?_
    exact G_zret rfl (Or.inr rfl) dX12_isSign_29 ⟨_, rfl, (k1 c1)⟩
  · refine G_iload_n 0 rfl dX12_isSign_6 rfl ?_
    refine G_bipush (v := 45) dX12_isSign_7 (by decide) ?_
    refine G_icmp_eq (tgt := 24) dX12_isSign_9 (by decide) (fun c2 => ?_) (fun c2 => ?_)
    · refine G_iconst (v := 1) dX12_isSign_24 (by decide) ?_
      refine G_goto (tgt := 29) dX12_isSign_25 (by decide) ?_
      exact G_zret rfl (Or.inr rfl) dX12_isSign_29 ⟨_, rfl, (k2 c1 c2)⟩
    · refine G_iload_n 0 rfl dX12_isSign_12 rfl ?_
      refine G_bipush (v := 42) dX12_isSign_13 (by decide) ?_
      refine G_icmp_eq (tgt := 24) dX12_isSign_15 (by decide) (fun c3 => ?_) (fun c3 => ?_)
      · refine G_iconst (v := 1) dX12_isSign_24 (by decide) ?_
        refine G_goto (tgt := 29) dX12_isSign_25 (by decide) ?_
        exact G_zret rfl (Or.inr rfl) dX12_isSign_29 ⟨_, rfl, (k3 c1 c2 c3)⟩
      · refine G_iload_n 0 rfl dX12_isSign_18 rfl ?_
        refine G_bipush (v := 47) dX12_isSign_19 (by decide) ?_
        refine G_icmp_ne (tgt := 28) dX12_isSign_21 (by decide) (fun c4 => ?_) (fun c4 => ?_)
        · refine G_iconst (v := 0) dX12_isSign_28 (by decide) ?_
          exact G_zret rfl (Or.inl rfl) dX12_isSign_29 ⟨_, rfl, (k4 c1 c2 c3 c4)⟩
        · refine G_iconst (v := 1) dX12_isSign_24 (by decide) ?_
          refine G_goto (tgt := 29) dX12_isSign_25 (by decide) ?_
          exact G_zret rfl (Or.inr rfl) dX12_isSign_29 ⟨_, rfl, (k5 c1 c2 c3 c4)⟩
-- LostDigitsModel.isLetter
theorem dX12_isLetter_0 : decode cX12_isLetter 0 = .ok (.iload_n 0, 1) := by decide +kernel
theorem dX12_isLetter_1 : decode cX12_isLetter 1 = .ok (.i2l, 1) := by decide +kernel
theorem dX12_isLetter_2 : decode cX12_isLetter 2 = .ok (.ldc2_w 162, 3) := by decide +kernel
theorem dX12_isLetter_5 : decode cX12_isLetter 5 = .ok (.ldc2_w 164, 3) := by decide +kernel
theorem dX12_isLetter_8 : decode cX12_isLetter 8 = .ok (.invokestatic 82, 3) := by decide +kernel
theorem dX12_isLetter_11 : decode cX12_isLetter 11 = .ok (.ireturn, 1) := by decide +kernel
set_option maxRecDepth 10000 in
theorem TX12_isLetter_0 {d : Nat} {S : fW} {h : fH} {Q : Int32 → fH → Prop} {x0 : Int32} {Q1 : Int32 → fH → Prop} 
    (ok1 : OkI d mX12_in S [.long x0.toInt64, .long (97 : Int64), .long (101 : Int64)] h Q1)
    (k1 : ∀ v_1 h_1, Q1 v_1 h_1 → Q v_1 h_1)
    (sd1 : ∀ v_1 h_1, Q1 v_1 h_1 → v_1 = 0 ∨ v_1 = 1) :
    OkI (d + 1) mX12_isLetter S [.int x0] h Q := by
  refine Ok.of (by decide) (Nat.le_of_ble_eq_true rfl) ?_
  refine G_iload_n 0 rfl dX12_isLetter_0 rfl ?_
  refine G_i2l dX12_isLetter_1 ?_
  refine G_ldc2 hK_X12_162 dX12_isLetter_2 ?_
  refine G_ldc2 hK_X12_164 dX12_isLetter_5 ?_
  refine G_callS (Z := mX12_in) (As := [.long x0.toInt64, .long (97 : Int64), .long (101 : Int64)]) (st := []) hL_X12_82 hT_X12_in hC_X12_in hN_X12 nX12_in (by decide) rfl (Nat.le_of_ble_eq_true rfl) dX12_isLetter_8 (ok1) (fun r_ h_1 z_ => ?_)
  obtain ⟨v_1, rfl, q_1⟩ := z_
  exact G_zret rfl (sd1 v_1 h_1 q_1) dX12_isLetter_11 ⟨_, rfl, (k1 v_1 h_1 q_1)⟩
-- LostDigitsModel.isDigit
theorem dX12_isDigit_0 : decode cX12_isDigit 0 = .ok (.iload_n 0, 1) := by decide +kernel
theorem dX12_isDigit_1 : decode cX12_isDigit 1 = .ok (.i2l, 1) := by decide +kernel
theorem dX12_isDigit_2 : decode cX12_isDigit 2 = .ok (.ldc2_w 166, 3) := by decide +kernel
theorem dX12_isDigit_5 : decode cX12_isDigit 5 = .ok (.ldc2_w 168, 3) := by decide +kernel
theorem dX12_isDigit_8 : decode cX12_isDigit 8 = .ok (.invokestatic 82, 3) := by decide +kernel
theorem dX12_isDigit_11 : decode cX12_isDigit 11 = .ok (.ireturn, 1) := by decide +kernel
set_option maxRecDepth 10000 in
theorem TX12_isDigit_0 {d : Nat} {S : fW} {h : fH} {Q : Int32 → fH → Prop} {x0 : Int32} {Q1 : Int32 → fH → Prop} 
    (ok1 : OkI d mX12_in S [.long x0.toInt64, .long (48 : Int64), .long (57 : Int64)] h Q1)
    (k1 : ∀ v_1 h_1, Q1 v_1 h_1 → Q v_1 h_1)
    (sd1 : ∀ v_1 h_1, Q1 v_1 h_1 → v_1 = 0 ∨ v_1 = 1) :
    OkI (d + 1) mX12_isDigit S [.int x0] h Q := by
  refine Ok.of (by decide) (Nat.le_of_ble_eq_true rfl) ?_
  refine G_iload_n 0 rfl dX12_isDigit_0 rfl ?_
  refine G_i2l dX12_isDigit_1 ?_
  refine G_ldc2 hK_X12_166 dX12_isDigit_2 ?_
  refine G_ldc2 hK_X12_168 dX12_isDigit_5 ?_
  refine G_callS (Z := mX12_in) (As := [.long x0.toInt64, .long (48 : Int64), .long (57 : Int64)]) (st := []) hL_X12_82 hT_X12_in hC_X12_in hN_X12 nX12_in (by decide) rfl (Nat.le_of_ble_eq_true rfl) dX12_isDigit_8 (ok1) (fun r_ h_1 z_ => ?_)
  obtain ⟨v_1, rfl, q_1⟩ := z_
  exact G_zret rfl (sd1 v_1 h_1 q_1) dX12_isDigit_11 ⟨_, rfl, (k1 v_1 h_1 q_1)⟩
-- LostDigitsModel.fault
theorem dX12_fault_0 : decode cX12_fault 0 = .ok (.iconst 1, 1) := by decide +kernel
theorem dX12_fault_1 : decode cX12_fault 1 = .ok (.istore_n 1, 1) := by decide +kernel
theorem dX12_fault_2 : decode cX12_fault 2 = .ok (.iconst 0, 1) := by decide +kernel
theorem dX12_fault_3 : decode cX12_fault 3 = .ok (.istore_n 2, 1) := by decide +kernel
theorem dX12_fault_4 : decode cX12_fault 4 = .ok (.iload_n 2, 1) := by decide +kernel
theorem dX12_fault_5 : decode cX12_fault 5 = .ok (.aload_n 0, 1) := by decide +kernel
theorem dX12_fault_6 : decode cX12_fault 6 = .ok (.getfield 159, 3) := by decide +kernel
theorem dX12_fault_9 : decode cX12_fault 9 = .ok (.if_icmp .ge 64, 3) := by decide +kernel
theorem dX12_fault_12 : decode cX12_fault 12 = .ok (.aload_n 0, 1) := by decide +kernel
theorem dX12_fault_13 : decode cX12_fault 13 = .ok (.getfield 7, 3) := by decide +kernel
theorem dX12_fault_16 : decode cX12_fault 16 = .ok (.iload_n 2, 1) := by decide +kernel
theorem dX12_fault_17 : decode cX12_fault 17 = .ok (.iaload, 1) := by decide +kernel
theorem dX12_fault_18 : decode cX12_fault 18 = .ok (.istore_n 3, 1) := by decide +kernel
theorem dX12_fault_19 : decode cX12_fault 19 = .ok (.iload_n 1, 1) := by decide +kernel
theorem dX12_fault_20 : decode cX12_fault 20 = .ok (.ifCond .eq 30, 3) := by decide +kernel
theorem dX12_fault_23 : decode cX12_fault 23 = .ok (.iload_n 2, 1) := by decide +kernel
theorem dX12_fault_24 : decode cX12_fault 24 = .ok (.bipush 13, 2) := by decide +kernel
theorem dX12_fault_26 : decode cX12_fault 26 = .ok (.if_icmp .eq 24, 3) := by decide +kernel
theorem dX12_fault_29 : decode cX12_fault 29 = .ok (.iload_n 3, 1) := by decide +kernel
theorem dX12_fault_30 : decode cX12_fault 30 = .ok (.invokestatic 170, 3) := by decide +kernel
theorem dX12_fault_33 : decode cX12_fault 33 = .ok (.ifCond .ne 19, 3) := by decide +kernel
theorem dX12_fault_36 : decode cX12_fault 36 = .ok (.iload_n 3, 1) := by decide +kernel
theorem dX12_fault_37 : decode cX12_fault 37 = .ok (.invokestatic 173, 3) := by decide +kernel
theorem dX12_fault_40 : decode cX12_fault 40 = .ok (.ifCond .ne 12, 3) := by decide +kernel
theorem dX12_fault_43 : decode cX12_fault 43 = .ok (.iload_n 3, 1) := by decide +kernel
theorem dX12_fault_44 : decode cX12_fault 44 = .ok (.invokestatic 176, 3) := by decide +kernel
theorem dX12_fault_47 : decode cX12_fault 47 = .ok (.ifCond .ne 5, 3) := by decide +kernel
theorem dX12_fault_50 : decode cX12_fault 50 = .ok (.iload_n 2, 1) := by decide +kernel
theorem dX12_fault_51 : decode cX12_fault 51 = .ok (.ireturn, 1) := by decide +kernel
theorem dX12_fault_52 : decode cX12_fault 52 = .ok (.iload_n 1, 1) := by decide +kernel
theorem dX12_fault_53 : decode cX12_fault 53 = .ok (.iload_n 3, 1) := by decide +kernel
theorem dX12_fault_54 : decode cX12_fault 54 = .ok (.invokestatic 170, 3) := by decide +kernel
theorem dX12_fault_57 : decode cX12_fault 57 = .ok (.ifCond .eq 7, 3) := by decide +kernel
theorem dX12_fault_60 : decode cX12_fault 60 = .ok (.iconst 1, 1) := by decide +kernel
theorem dX12_fault_61 : decode cX12_fault 61 = .ok (.goto 4, 3) := by decide +kernel
theorem dX12_fault_64 : decode cX12_fault 64 = .ok (.iconst (-1), 1) := by decide +kernel
theorem dX12_fault_65 : decode cX12_fault 65 = .ok (.iadd, 1) := by decide +kernel
theorem dX12_fault_66 : decode cX12_fault 66 = .ok (.istore_n 1, 1) := by decide +kernel
theorem dX12_fault_67 : decode cX12_fault 67 = .ok (.iinc 2 1, 3) := by decide +kernel
theorem dX12_fault_70 : decode cX12_fault 70 = .ok (.goto (-66), 3) := by decide +kernel
theorem dX12_fault_73 : decode cX12_fault 73 = .ok (.iload_n 1, 1) := by decide +kernel
theorem dX12_fault_74 : decode cX12_fault 74 = .ok (.ifCond .ne 8, 3) := by decide +kernel
theorem dX12_fault_77 : decode cX12_fault 77 = .ok (.bipush (-6), 2) := by decide +kernel
theorem dX12_fault_79 : decode cX12_fault 79 = .ok (.goto 7, 3) := by decide +kernel
theorem dX12_fault_82 : decode cX12_fault 82 = .ok (.aload_n 0, 1) := by decide +kernel
theorem dX12_fault_83 : decode cX12_fault 83 = .ok (.getfield 159, 3) := by decide +kernel
theorem dX12_fault_86 : decode cX12_fault 86 = .ok (.ireturn, 1) := by decide +kernel
set_option maxRecDepth 10000 in
theorem NX12_fault_0 {d : Nat} {S : fW} {h : fH} {Q : Int32 → fH → Prop} {r0 : Nat}  
    (w : G mX12_fault (d + 1) S (f_PI Q) 4 [(0, .ref r0), (1, .int (1 : Int32)), (2, .int (0 : Int32))] [] h) :
    OkI (d + 1) mX12_fault S [.ref r0] h Q := by
  refine Ok.of (by decide) (Nat.le_of_ble_eq_true rfl) ?_
  refine G_iconst (v := 1) dX12_fault_0 (by decide) ?_
  refine G_istore_n dX12_fault_1 rfl (by decide) (lv' := [(1, .int (1 : Int32)), (0, .ref r0)]) rfl ?_
  refine G_iconst (v := 0) dX12_fault_2 (by decide) ?_
  refine G_istore_n dX12_fault_3 rfl (by decide) (lv' := [(2, .int (0 : Int32)), (1, .int (1 : Int32)), (0, .ref r0)]) rfl ?_
  exact G_sub [2, 1, 0] rfl w

set_option maxRecDepth 10000 in
theorem NX12_fault_4 {d : Nat} {S : fW} {h : fH} {Q : Int32 → fH → Prop} {r0 : Nat} {x1 : Int32} {x2 : Int32} {r0_pad r0_text r0_number r0_span r0_now r0_sizeOf r0_workedTo r0_slip r0_exactUpper r0_exactLower r0_more r0_terms r0_order r0_bestOrder r0_low r0_high r0_built r0_better r0_base r0_kept r0_isKept : Nat}  
    (hs1 : (r0, shX12 r0_pad r0_text r0_number r0_span r0_now r0_sizeOf r0_workedTo r0_slip r0_exactUpper r0_exactLower r0_more r0_terms r0_order r0_bestOrder r0_low r0_high r0_built r0_better r0_base r0_kept r0_isKept) ∈ S)
    (hs2 : (r0_pad, shI 20) ∈ S)
    (w : (((h.1 r0 8) ≤ x2 → ((¬ x1 = 0 → Q (h.1 r0 8) h) ∧ (x1 = 0 → Q (-6 : Int32) h))) ∧ (¬ (h.1 r0 8) ≤ x2 → vp_in x2 20 ∧ ((x1 = 0 → Q x2 h) ∧ (¬ x1 = 0 → ((x2 = (13 : Int32) → Q x2 h) ∧ (¬ x2 = (13 : Int32) → ∃ Q1 : Int32 → fH → Prop, OkI d mX12_isSign S [.int (h.2.2.1 r0_pad x2.toNatClampNeg)] h Q1 ∧ ∀ (v_1 : Int32) (h_1 : fH), Q1 v_1 h_1 → ((¬ v_1 = 0 → ∃ Q2 : Int32 → fH → Prop, OkI d mX12_isSign S [.int (h.2.2.1 r0_pad x2.toNatClampNeg)] h_1 Q2 ∧ ∀ (v_2 : Int32) (h_2 : fH), Q2 v_2 h_2 → ((v_2 = 0 → G mX12_fault (d + 1) S (f_PI Q) 4 [(0, .ref r0), (1, .int (x1 + (-1 : Int32))), (2, .int (x2 + 1))] [] h_2) ∧ (¬ v_2 = 0 → G mX12_fault (d + 1) S (f_PI Q) 4 [(0, .ref r0), (1, .int (x1 + (1 : Int32))), (2, .int (x2 + 1))] [] h_2))) ∧ (v_1 = 0 → ∃ Q3 : Int32 → fH → Prop, OkI d mX12_isLetter S [.int (h.2.2.1 r0_pad x2.toNatClampNeg)] h_1 Q3 ∧ ∀ (v_3 : Int32) (h_3 : fH), Q3 v_3 h_3 → ((¬ v_3 = 0 → ∃ Q4 : Int32 → fH → Prop, OkI d mX12_isSign S [.int (h.2.2.1 r0_pad x2.toNatClampNeg)] h_3 Q4 ∧ ∀ (v_4 : Int32) (h_4 : fH), Q4 v_4 h_4 → ((v_4 = 0 → G mX12_fault (d + 1) S (f_PI Q) 4 [(0, .ref r0), (1, .int (x1 + (-1 : Int32))), (2, .int (x2 + 1))] [] h_4) ∧ (¬ v_4 = 0 → G mX12_fault (d + 1) S (f_PI Q) 4 [(0, .ref r0), (1, .int (x1 + (1 : Int32))), (2, .int (x2 + 1))] [] h_4))) ∧ (v_3 = 0 → ∃ Q5 : Int32 → fH → Prop, OkI d mX12_isDigit S [.int (h.2.2.1 r0_pad x2.toNatClampNeg)] h_3 Q5 ∧ ∀ (v_5 : Int32) (h_5 : fH), Q5 v_5 h_5 → ((¬ v_5 = 0 → ∃ Q6 : Int32 → fH → Prop, OkI d mX12_isSign S [.int (h.2.2.1 r0_pad x2.toNatClampNeg)] h_5 Q6 ∧ ∀ (v_6 : Int32) (h_6 : fH), Q6 v_6 h_6 → ((v_6 = 0 → G mX12_fault (d + 1) S (f_PI Q) 4 [(0, .ref r0), (1, .int (x1 + (-1 : Int32))), (2, .int (x2 + 1))] [] h_6) ∧ (¬ v_6 = 0 → G mX12_fault (d + 1) S (f_PI Q) 4 [(0, .ref r0), (1, .int (x1 + (1 : Int32))), (2, .int (x2 + 1))] [] h_6))) ∧ (v_5 = 0 → Q x2 h_5))))))))))))) :
    G mX12_fault (d + 1) S (f_PI Q) 4 [(0, .ref r0), (1, .int x1), (2, .int x2)] [] h := by
  refine G_iload_n 2 rfl dX12_fault_4 rfl ?_
  refine G_aload_n 0 rfl dX12_fault_5 rfl ?_
  refine G_geti (k := 8) hs1 (q := (RX12, TX12, 40)) rfl inX12 (by decide) (Or.inl rfl) hF_X12_159 dX12_fault_6 ?_
  refine G_icmp_ge (tgt := 73) dX12_fault_9 (by decide) (fun c1 => ?_) (fun c1 => ?_)
  · have w := w.1 c1
    refine G_iload_n 1 rfl dX12_fault_73 rfl ?_
    refine G_if_ne (tgt := 82) dX12_fault_74 (by decide) (fun c2 => ?_) (fun c2 => ?_)
    · have w := w.1 c2
      refine G_aload_n 0 rfl dX12_fault_82 rfl ?_
      refine G_geti (k := 8) hs1 (q := (RX12, TX12, 40)) rfl inX12 (by decide) (Or.inl rfl) hF_X12_159 dX12_fault_83 ?_
      exact G_iret rfl dX12_fault_86 ⟨_, rfl, w⟩
    · have w := w.2 c2
      refine G_bipush (v := -6) dX12_fault_77 (by decide) ?_
      refine G_goto (tgt := 86) dX12_fault_79 (by decide) ?_
      exact G_iret rfl dX12_fault_86 ⟨_, rfl, w⟩
  · have w := w.2 c1
    refine G_aload_n 0 rfl dX12_fault_12 rfl ?_
    refine G_getr (j := r0_pad) (k := 7) hs1 (q := (RX12, TX12, 40)) rfl inX12 (by decide) rfl hF_X12_7 dX12_fault_13 ?_
    refine G_iload_n 2 rfl dX12_fault_16 rfl ?_
    obtain ⟨sd1, w⟩ := w
    refine G_iald hs2 sd1 dX12_fault_17 ?_
    refine G_istore_n dX12_fault_18 rfl (by decide) (lv' := [(3, .int (h.2.2.1 r0_pad x2.toNatClampNeg)), (0, .ref r0), (1, .int x1), (2, .int x2)]) rfl ?_
    refine G_iload_n 2 rfl dX12_fault_19 rfl ?_
    refine G_if_eq (tgt := 50) dX12_fault_20 (by decide) (fun c2 => ?_) (fun c2 => ?_)
    · have w := w.1 c2
      refine G_iload_n 3 rfl dX12_fault_50 rfl ?_
      exact G_iret rfl dX12_fault_51 ⟨_, rfl, w⟩
    · have w := w.2 c2
      refine G_iload_n 3 rfl dX12_fault_23 rfl ?_
      refine G_bipush (v := 13) dX12_fault_24 (by decide) ?_
      refine G_icmp_eq (tgt := 50) dX12_fault_26 (by decide) (fun c3 => ?_) (fun c3 => ?_)
      · have w := w.1 c3
        refine G_iload_n 3 rfl dX12_fault_50 rfl ?_
        exact G_iret rfl dX12_fault_51 ⟨_, rfl, w⟩
      · have w := w.2 c3
        refine G_iload_n 0 rfl dX12_fault_29 rfl ?_
        obtain ⟨Q1, ok1, w⟩ := w
        refine G_callS (Z := mX12_isSign) (As := [.int (h.2.2.1 r0_pad x2.toNatClampNeg)]) (st := []) hL_X12_170 hT_X12_isSign hC_X12_isSign hN_X12 nX12_isSign (by decide) rfl (Nat.le_of_ble_eq_true rfl) dX12_fault_30 ok1 (fun r_ h_1 z_ => ?_)
        obtain ⟨v_1, rfl, q_1⟩ := z_
        have w := w v_1 h_1 q_1
        refine G_if_ne (tgt := 52) dX12_fault_33 (by decide) (fun c4 => ?_) (fun c4 => ?_)
        · have w := w.1 c4
          refine G_iload_n 2 rfl dX12_fault_52 rfl ?_
          refine G_iload_n 0 rfl dX12_fault_53 rfl ?_
          obtain ⟨Q2, ok2, w⟩ := w
          refine G_callS (Z := mX12_isSign) (As := [.int (h.2.2.1 r0_pad x2.toNatClampNeg)]) (st := [.int x1]) hL_X12_170 hT_X12_isSign hC_X12_isSign hN_X12 nX12_isSign (by decide) rfl (Nat.le_of_ble_eq_true rfl) dX12_fault_54 ok2 (fun r_ h_2 z_ => ?_)
          obtain ⟨v_2, rfl, q_2⟩ := z_
          have w := w v_2 h_2 q_2
          refine G_if_eq (tgt := 64) dX12_fault_57 (by decide) (fun c5 => ?_) (fun c5 => ?_)
          · have w := w.1 c5
            refine G_iconst (v := -1) dX12_fault_64 (by decide) ?_
            refine G_iadd dX12_fault_65 ?_
            refine G_istore_n dX12_fault_66 rfl (by decide) (lv' := [(1, .int (x1 + (-1 : Int32))), (3, .int (h.2.2.1 r0_pad x2.toNatClampNeg)), (0, .ref r0), (2, .int x2)]) rfl ?_
            refine G_iinc (v := 1) 3 rfl dX12_fault_67 (by decide) (by decide) (lv' := [(2, .int (x2 + 1)), (1, .int (x1 + (-1 : Int32))), (3, .int (h.2.2.1 r0_pad x2.toNatClampNeg)), (0, .ref r0)]) rfl ?_
            refine G_goto (tgt := 4) dX12_fault_70 (by decide) ?_
            exact G_sub [3, 1, 0] rfl w
          · have w := w.2 c5
            refine G_iconst (v := 1) dX12_fault_60 (by decide) ?_
            refine G_goto (tgt := 65) dX12_fault_61 (by decide) ?_
            refine G_iadd dX12_fault_65 ?_
            refine G_istore_n dX12_fault_66 rfl (by decide) (lv' := [(1, .int (x1 + (1 : Int32))), (3, .int (h.2.2.1 r0_pad x2.toNatClampNeg)), (0, .ref r0), (2, .int x2)]) rfl ?_
            refine G_iinc (v := 1) 3 rfl dX12_fault_67 (by decide) (by decide) (lv' := [(2, .int (x2 + 1)), (1, .int (x1 + (1 : Int32))), (3, .int (h.2.2.1 r0_pad x2.toNatClampNeg)), (0, .ref r0)]) rfl ?_
            refine G_goto (tgt := 4) dX12_fault_70 (by decide) ?_
            exact G_sub [3, 1, 0] rfl w
        · have w := w.2 c4
          refine G_iload_n 0 rfl dX12_fault_36 rfl ?_
          obtain ⟨Q3, ok3, w⟩ := w
          refine G_callS (Z := mX12_isLetter) (As := [.int (h.2.2.1 r0_pad x2.toNatClampNeg)]) (st := []) hL_X12_173 hT_X12_isLetter hC_X12_isLetter hN_X12 nX12_isLetter (by decide) rfl (Nat.le_of_ble_eq_true rfl) dX12_fault_37 ok3 (fun r_ h_3 z_ => ?_)
          obtain ⟨v_3, rfl, q_3⟩ := z_
          have w := w v_3 h_3 q_3
          refine G_if_ne (tgt := 52) dX12_fault_40 (by decide) (fun c5 => ?_) (fun c5 => ?_)
          · have w := w.1 c5
            refine G_iload_n 2 rfl dX12_fault_52 rfl ?_
            refine G_iload_n 0 rfl dX12_fault_53 rfl ?_
            obtain ⟨Q4, ok4, w⟩ := w
            refine G_callS (Z := mX12_isSign) (As := [.int (h.2.2.1 r0_pad x2.toNatClampNeg)]) (st := [.int x1]) hL_X12_170 hT_X12_isSign hC_X12_isSign hN_X12 nX12_isSign (by decide) rfl (Nat.le_of_ble_eq_true rfl) dX12_fault_54 ok4 (fun r_ h_4 z_ => ?_)
            obtain ⟨v_4, rfl, q_4⟩ := z_
            have w := w v_4 h_4 q_4
            refine G_if_eq (tgt := 64) dX12_fault_57 (by decide) (fun c6 => ?_) (fun c6 => ?_)
            · have w := w.1 c6
              refine G_iconst (v := -1) dX12_fault_64 (by decide) ?_
              refine G_iadd dX12_fault_65 ?_
              refine G_istore_n dX12_fault_66 rfl (by decide) (lv' := [(1, .int (x1 + (-1 : Int32))), (3, .int (h.2.2.1 r0_pad x2.toNatClampNeg)), (0, .ref r0), (2, .int x2)]) rfl ?_
              refine G_iinc (v := 1) 3 rfl dX12_fault_67 (by decide) (by decide) (lv' := [(2, .int (x2 + 1)), (1, .int (x1 + (-1 : Int32))), (3, .int (h.2.2.1 r0_pad x2.toNatClampNeg)), (0, .ref r0)]) rfl ?_
              refine G_goto (tgt := 4) dX12_fault_70 (by decide) ?_
              exact G_sub [3, 1, 0] rfl w
            · have w := w.2 c6
              refine G_iconst (v := 1) dX12_fault_60 (by decide) ?_
              refine G_goto (tgt := 65) dX12_fault_61 (by decide) ?_
              refine G_iadd dX12_fault_65 ?_
              refine G_istore_n dX12_fault_66 rfl (by decide) (lv' := [(1, .int (x1 + (1 : Int32))), (3, .int (h.2.2.1 r0_pad x2.toNatClampNeg)), (0, .ref r0), (2, .int x2)]) rfl ?_
              refine G_iinc (v := 1) 3 rfl dX12_fault_67 (by decide) (by decide) (lv' := [(2, .int (x2 + 1)), (1, .int (x1 + (1 : Int32))), (3, .int (h.2.2.1 r0_pad x2.toNatClampNeg)), (0, .ref r0)]) rfl ?_
              refine G_goto (tgt := 4) dX12_fault_70 (by decide) ?_
              exact G_sub [3, 1, 0] rfl w
          · have w := w.2 c5
            refine G_iload_n 0 rfl dX12_fault_43 rfl ?_
            obtain ⟨Q5, ok5, w⟩ := w
            refine G_callS (Z := mX12_isDigit) (As := [.int (h.2.2.1 r0_pad x2.toNatClampNeg)]) (st := []) hL_X12_176 hT_X12_isDigit hC_X12_isDigit hN_X12 nX12_isDigit (by decide) rfl (Nat.le_of_ble_eq_true rfl) dX12_fault_44 ok5 (fun r_ h_5 z_ => ?_)
            obtain ⟨v_5, rfl, q_5⟩ := z_
            have w := w v_5 h_5 q_5
            refine G_if_ne (tgt := 52) dX12_fault_47 (by decide) (fun c6 => ?_) (fun c6 => ?_)
            · have w := w.1 c6
              refine G_iload_n 2 rfl dX12_fault_52 rfl ?_
              refine G_iload_n 0 rfl dX12_fault_53 rfl ?_
              obtain ⟨Q6, ok6, w⟩ := w
              refine G_callS (Z := mX12_isSign) (As := [.int (h.2.2.1 r0_pad x2.toNatClampNeg)]) (st := [.int x1]) hL_X12_170 hT_X12_isSign hC_X12_isSign hN_X12 nX12_isSign (by decide) rfl (Nat.le_of_ble_eq_true rfl) dX12_fault_54 ok6 (fun r_ h_6 z_ => ?_)
              obtain ⟨v_6, rfl, q_6⟩ := z_
              have w := w v_6 h_6 q_6
              refine G_if_eq (tgt := 64) dX12_fault_57 (by decide) (fun c7 => ?_) (fun c7 => ?_)
              · have w := w.1 c7
                refine G_iconst (v := -1) dX12_fault_64 (by decide) ?_
                refine G_iadd dX12_fault_65 ?_
                refine G_istore_n dX12_fault_66 rfl (by decide) (lv' := [(1, .int (x1 + (-1 : Int32))), (3, .int (h.2.2.1 r0_pad x2.toNatClampNeg)), (0, .ref r0), (2, .int x2)]) rfl ?_
                refine G_iinc (v := 1) 3 rfl dX12_fault_67 (by decide) (by decide) (lv' := [(2, .int (x2 + 1)), (1, .int (x1 + (-1 : Int32))), (3, .int (h.2.2.1 r0_pad x2.toNatClampNeg)), (0, .ref r0)]) rfl ?_
                refine G_goto (tgt := 4) dX12_fault_70 (by decide) ?_
                exact G_sub [3, 1, 0] rfl w
              · have w := w.2 c7
                refine G_iconst (v := 1) dX12_fault_60 (by decide) ?_
                refine G_goto (tgt := 65) dX12_fault_61 (by decide) ?_
                refine G_iadd dX12_fault_65 ?_
                refine G_istore_n dX12_fault_66 rfl (by decide) (lv' := [(1, .int (x1 + (1 : Int32))), (3, .int (h.2.2.1 r0_pad x2.toNatClampNeg)), (0, .ref r0), (2, .int x2)]) rfl ?_
                refine G_iinc (v := 1) 3 rfl dX12_fault_67 (by decide) (by decide) (lv' := [(2, .int (x2 + 1)), (1, .int (x1 + (1 : Int32))), (3, .int (h.2.2.1 r0_pad x2.toNatClampNeg)), (0, .ref r0)]) rfl ?_
                refine G_goto (tgt := 4) dX12_fault_70 (by decide) ?_
                exact G_sub [3, 1, 0] rfl w
            · have w := w.2 c6
              refine G_iload_n 3 rfl dX12_fault_50 rfl ?_
              exact G_iret rfl dX12_fault_51 ⟨_, rfl, w⟩
-- LostDigitsModel.text
theorem dX12_text_0 : decode cX12_text 0 = .ok (.aload_n 0, 1) := by decide +kernel
theorem dX12_text_1 : decode cX12_text 1 = .ok (.invokevirtual 179, 3) := by decide +kernel
theorem dX12_text_4 : decode cX12_text 4 = .ok (.ifCond .lt 6, 3) := by decide +kernel
theorem dX12_text_7 : decode cX12_text 7 = .ok (.bipush (-5), 2) := by decide +kernel
theorem dX12_text_9 : decode cX12_text 9 = .ok (.ireturn, 1) := by decide +kernel
theorem dX12_text_10 : decode cX12_text 10 = .ok (.iconst 0, 1) := by decide +kernel
theorem dX12_text_11 : decode cX12_text 11 = .ok (.istore_n 1, 1) := by decide +kernel
theorem dX12_text_12 : decode cX12_text 12 = .ok (.iload_n 1, 1) := by decide +kernel
theorem dX12_text_13 : decode cX12_text 13 = .ok (.aload_n 0, 1) := by decide +kernel
theorem dX12_text_14 : decode cX12_text 14 = .ok (.getfield 159, 3) := by decide +kernel
theorem dX12_text_17 : decode cX12_text 17 = .ok (.if_icmp .ge 21, 3) := by decide +kernel
theorem dX12_text_20 : decode cX12_text 20 = .ok (.aload_n 0, 1) := by decide +kernel
theorem dX12_text_21 : decode cX12_text 21 = .ok (.getfield 13, 3) := by decide +kernel
theorem dX12_text_24 : decode cX12_text 24 = .ok (.iload_n 1, 1) := by decide +kernel
theorem dX12_text_25 : decode cX12_text 25 = .ok (.aload_n 0, 1) := by decide +kernel
theorem dX12_text_26 : decode cX12_text 26 = .ok (.getfield 7, 3) := by decide +kernel
theorem dX12_text_29 : decode cX12_text 29 = .ok (.iload_n 1, 1) := by decide +kernel
theorem dX12_text_30 : decode cX12_text 30 = .ok (.iaload, 1) := by decide +kernel
theorem dX12_text_31 : decode cX12_text 31 = .ok (.iastore, 1) := by decide +kernel
theorem dX12_text_32 : decode cX12_text 32 = .ok (.iinc 1 1, 3) := by decide +kernel
theorem dX12_text_35 : decode cX12_text 35 = .ok (.goto (-23), 3) := by decide +kernel
theorem dX12_text_38 : decode cX12_text 38 = .ok (.aload_n 0, 1) := by decide +kernel
theorem dX12_text_39 : decode cX12_text 39 = .ok (.aload_n 0, 1) := by decide +kernel
theorem dX12_text_40 : decode cX12_text 40 = .ok (.getfield 159, 3) := by decide +kernel
theorem dX12_text_43 : decode cX12_text 43 = .ok (.putfield 79, 3) := by decide +kernel
theorem dX12_text_46 : decode cX12_text 46 = .ok (.aload_n 0, 1) := by decide +kernel
theorem dX12_text_47 : decode cX12_text 47 = .ok (.iconst 0, 1) := by decide +kernel
theorem dX12_text_48 : decode cX12_text 48 = .ok (.putfield 159, 3) := by decide +kernel
theorem dX12_text_51 : decode cX12_text 51 = .ok (.aload_n 0, 1) := by decide +kernel
theorem dX12_text_52 : decode cX12_text 52 = .ok (.getfield 79, 3) := by decide +kernel
theorem dX12_text_55 : decode cX12_text 55 = .ok (.ireturn, 1) := by decide +kernel
set_option maxRecDepth 10000 in
theorem NX12_text_0 {d : Nat} {S : fW} {h : fH} {Q : Int32 → fH → Prop} {r0 : Nat} {r0_pad r0_text r0_number r0_span r0_now r0_sizeOf r0_workedTo r0_slip r0_exactUpper r0_exactLower r0_more r0_terms r0_order r0_bestOrder r0_low r0_high r0_built r0_better r0_base r0_kept r0_isKept : Nat}  
    (hs1 : (r0, shX12 r0_pad r0_text r0_number r0_span r0_now r0_sizeOf r0_workedTo r0_slip r0_exactUpper r0_exactLower r0_more r0_terms r0_order r0_bestOrder r0_low r0_high r0_built r0_better r0_base r0_kept r0_isKept) ∈ S)
    (w : ∃ Q1 : Int32 → fH → Prop, OkI d mX12_fault S [.ref r0] h Q1 ∧ ∀ (v_1 : Int32) (h_1 : fH), Q1 v_1 h_1 → ((v_1 < 0 → G mX12_text (d + 1) S (f_PI Q) 12 [(0, .ref r0), (1, .int (0 : Int32))] [] h_1) ∧ (¬ v_1 < 0 → Q (-5 : Int32) h_1))) :
    OkI (d + 1) mX12_text S [.ref r0] h Q := by
  refine Ok.of (by decide) (Nat.le_of_ble_eq_true rfl) ?_
  refine G_aload_n 0 rfl dX12_text_0 rfl ?_
  obtain ⟨Q1, ok1, w⟩ := w
  refine G_callV (Z := mX12_fault) (As := []) (st := []) hL_X12_179 hI_X12_fault hS_X12_fault hC_X12_fault hN_X12 nX12_fault (by decide) hs1 rfl rfl rfl (Nat.le_of_ble_eq_true rfl) dX12_text_1 ok1 (fun r_ h_1 z_ => ?_)
  obtain ⟨v_1, rfl, q_1⟩ := z_
  have w := w v_1 h_1 q_1
  refine G_if_lt (tgt := 10) dX12_text_4 (by decide) (fun c1 => ?_) (fun c1 => ?_)
  · have w := w.1 c1
    refine G_iconst (v := 0) dX12_text_10 (by decide) ?_
    refine G_istore_n dX12_text_11 rfl (by decide) (lv' := [(1, .int (0 : Int32)), (0, .ref r0)]) rfl ?_
    exact G_sub [1, 0] rfl w
  · have w := w.2 c1
    refine G_bipush (v := -5) dX12_text_7 (by decide) ?_
    exact G_iret rfl dX12_text_9 ⟨_, rfl, w⟩

set_option maxRecDepth 10000 in
theorem NX12_text_12 {d : Nat} {S : fW} {h : fH} {Q : Int32 → fH → Prop} {r0 : Nat} {x1 : Int32} {r0_pad r0_text r0_number r0_span r0_now r0_sizeOf r0_workedTo r0_slip r0_exactUpper r0_exactLower r0_more r0_terms r0_order r0_bestOrder r0_low r0_high r0_built r0_better r0_base r0_kept r0_isKept : Nat}  
    (hs1 : (r0, shX12 r0_pad r0_text r0_number r0_span r0_now r0_sizeOf r0_workedTo r0_slip r0_exactUpper r0_exactLower r0_more r0_terms r0_order r0_bestOrder r0_low r0_high r0_built r0_better r0_base r0_kept r0_isKept) ∈ S)
    (hs2 : (r0_pad, shI 20) ∈ S)
    (hs3 : (r0_text, shI 13) ∈ S)
    (w : (((h.1 r0 8) ≤ x1 → ∀ g_1 : fH, g_1 = u_fi h r0 10 (h.1 r0 8) → ∀ g_2 : fH, g_2 = u_fi g_1 r0 8 (0 : Int32) → Q (g_2.1 r0 10) g_2) ∧ (¬ (h.1 r0 8) ≤ x1 → vp_in x1 20 ∧ vp_in x1 13 ∧ ∀ g_3 : fH, g_3 = u_ai h r0_text (upd (h.2.2.1 r0_text) x1.toNatClampNeg (h.2.2.1 r0_pad x1.toNatClampNeg)) → G mX12_text (d + 1) S (f_PI Q) 12 [(0, .ref r0), (1, .int (x1 + 1))] [] g_3))) :
    G mX12_text (d + 1) S (f_PI Q) 12 [(0, .ref r0), (1, .int x1)] [] h := by
  refine G_iload_n 1 rfl dX12_text_12 rfl ?_
  refine G_aload_n 0 rfl dX12_text_13 rfl ?_
  refine G_geti (k := 8) hs1 (q := (RX12, TX12, 40)) rfl inX12 (by decide) (Or.inl rfl) hF_X12_159 dX12_text_14 ?_
  refine G_icmp_ge (tgt := 38) dX12_text_17 (by decide) (fun c1 => ?_) (fun c1 => ?_)
  · have w := w.1 c1
    refine G_aload_n 0 rfl dX12_text_38 rfl ?_
    refine G_aload_n 0 rfl dX12_text_39 rfl ?_
    refine G_geti (k := 8) hs1 (q := (RX12, TX12, 40)) rfl inX12 (by decide) (Or.inl rfl) hF_X12_159 dX12_text_40 ?_
    refine G_puti (k := 10) tyX12 hs1 (q := (RX12, TX12, 40)) rfl inX12 tyX12_ok nmX12 (by decide) rfl rfl rfl hF_X12_79 dX12_text_43 ?_
    refine G_nm (fun g_1 e_1 => ?_)
    have w := w g_1 e_1
    refine G_aload_n 0 rfl dX12_text_46 rfl ?_
    refine G_iconst (v := 0) dX12_text_47 (by decide) ?_
    refine G_puti (k := 8) tyX12 hs1 (q := (RX12, TX12, 40)) rfl inX12 tyX12_ok nmX12 (by decide) rfl rfl rfl hF_X12_159 dX12_text_48 ?_
    refine G_nm (fun g_2 e_2 => ?_)
    have w := w g_2 e_2
    refine G_aload_n 0 rfl dX12_text_51 rfl ?_
    refine G_geti (k := 10) hs1 (q := (RX12, TX12, 40)) rfl inX12 (by decide) (Or.inl rfl) hF_X12_79 dX12_text_52 ?_
    exact G_iret rfl dX12_text_55 ⟨_, rfl, w⟩
  · have w := w.2 c1
    refine G_aload_n 0 rfl dX12_text_20 rfl ?_
    refine G_getr (j := r0_text) (k := 9) hs1 (q := (RX12, TX12, 40)) rfl inX12 (by decide) rfl hF_X12_13 dX12_text_21 ?_
    refine G_iload_n 1 rfl dX12_text_24 rfl ?_
    refine G_aload_n 0 rfl dX12_text_25 rfl ?_
    refine G_getr (j := r0_pad) (k := 7) hs1 (q := (RX12, TX12, 40)) rfl inX12 (by decide) rfl hF_X12_7 dX12_text_26 ?_
    refine G_iload_n 1 rfl dX12_text_29 rfl ?_
    obtain ⟨sd1, w⟩ := w
    refine G_iald hs2 sd1 dX12_text_30 ?_
    obtain ⟨sd2, w⟩ := w
    refine G_iast hs3 sd2 dX12_text_31 ?_
    refine G_nm (fun g_3 e_3 => ?_)
    have w := w g_3 e_3
    refine G_iinc (v := 1) 1 rfl dX12_text_32 (by decide) (by decide) (lv' := [(1, .int (x1 + 1)), (0, .ref r0)]) rfl ?_
    refine G_goto (tgt := 12) dX12_text_35 (by decide) ?_
    exact G_sub [1, 0] rfl w
-- LostDigitsModel.isStep
theorem dX12_isStep_0 : decode cX12_isStep 0 = .ok (.iload_n 1, 1) := by decide +kernel
theorem dX12_isStep_1 : decode cX12_isStep 1 = .ok (.i2l, 1) := by decide +kernel
theorem dX12_isStep_2 : decode cX12_isStep 2 = .ok (.lconst 0, 1) := by decide +kernel
theorem dX12_isStep_3 : decode cX12_isStep 3 = .ok (.aload_n 0, 1) := by decide +kernel
theorem dX12_isStep_4 : decode cX12_isStep 4 = .ok (.getfield 79, 3) := by decide +kernel
theorem dX12_isStep_7 : decode cX12_isStep 7 = .ok (.iconst 1, 1) := by decide +kernel
theorem dX12_isStep_8 : decode cX12_isStep 8 = .ok (.isub, 1) := by decide +kernel
theorem dX12_isStep_9 : decode cX12_isStep 9 = .ok (.i2l, 1) := by decide +kernel
theorem dX12_isStep_10 : decode cX12_isStep 10 = .ok (.invokestatic 82, 3) := by decide +kernel
theorem dX12_isStep_13 : decode cX12_isStep 13 = .ok (.ireturn, 1) := by decide +kernel
set_option maxRecDepth 10000 in
theorem NX12_isStep_0 {d : Nat} {S : fW} {h : fH} {Q : Int32 → fH → Prop} {r0 : Nat} {x1 : Int32} {r0_pad r0_text r0_number r0_span r0_now r0_sizeOf r0_workedTo r0_slip r0_exactUpper r0_exactLower r0_more r0_terms r0_order r0_bestOrder r0_low r0_high r0_built r0_better r0_base r0_kept r0_isKept : Nat}  
    (hs1 : (r0, shX12 r0_pad r0_text r0_number r0_span r0_now r0_sizeOf r0_workedTo r0_slip r0_exactUpper r0_exactLower r0_more r0_terms r0_order r0_bestOrder r0_low r0_high r0_built r0_better r0_base r0_kept r0_isKept) ∈ S)
    (w : ∃ Q1 : Int32 → fH → Prop, OkI d mX12_in S [.long x1.toInt64, .long (0 : Int64), .long (((h.1 r0 10) - (1 : Int32)).toInt64)] h Q1 ∧ ∀ (v_1 : Int32) (h_1 : fH), Q1 v_1 h_1 → (v_1 = 0 ∨ v_1 = 1) ∧ Q v_1 h_1) :
    OkI (d + 1) mX12_isStep S [.ref r0, .int x1] h Q := by
  refine Ok.of (by decide) (Nat.le_of_ble_eq_true rfl) ?_
  refine G_iload_n 1 rfl dX12_isStep_0 rfl ?_
  refine G_i2l dX12_isStep_1 ?_
  refine G_lconst (v := 0) dX12_isStep_2 (by decide) ?_
  refine G_aload_n 0 rfl dX12_isStep_3 rfl ?_
  refine G_geti (k := 10) hs1 (q := (RX12, TX12, 40)) rfl inX12 (by decide) (Or.inl rfl) hF_X12_79 dX12_isStep_4 ?_
  refine G_iconst (v := 1) dX12_isStep_7 (by decide) ?_
  refine G_isub dX12_isStep_8 ?_
  refine G_i2l dX12_isStep_9 ?_
  obtain ⟨Q1, ok1, w⟩ := w
  refine G_callS (Z := mX12_in) (As := [.long x1.toInt64, .long (0 : Int64), .long (((h.1 r0 10) - (1 : Int32)).toInt64)]) (st := []) hL_X12_82 hT_X12_in hC_X12_in hN_X12 nX12_in (by decide) rfl (Nat.le_of_ble_eq_true rfl) dX12_isStep_10 ok1 (fun r_ h_1 z_ => ?_)
  obtain ⟨v_1, rfl, q_1⟩ := z_
  have w := w v_1 h_1 q_1
  obtain ⟨sd1, w⟩ := w
  exact G_zret rfl sd1 dX12_isStep_13 ⟨_, rfl, w⟩
-- LostDigitsModel.sign
theorem dX12_sign_0 : decode cX12_sign 0 = .ok (.aload_n 0, 1) := by decide +kernel
theorem dX12_sign_1 : decode cX12_sign 1 = .ok (.iload_n 1, 1) := by decide +kernel
theorem dX12_sign_2 : decode cX12_sign 2 = .ok (.invokevirtual 183, 3) := by decide +kernel
theorem dX12_sign_5 : decode cX12_sign 5 = .ok (.ifCond .eq 12, 3) := by decide +kernel
theorem dX12_sign_8 : decode cX12_sign 8 = .ok (.aload_n 0, 1) := by decide +kernel
theorem dX12_sign_9 : decode cX12_sign 9 = .ok (.getfield 13, 3) := by decide +kernel
theorem dX12_sign_12 : decode cX12_sign 12 = .ok (.iload_n 1, 1) := by decide +kernel
theorem dX12_sign_13 : decode cX12_sign 13 = .ok (.iaload, 1) := by decide +kernel
theorem dX12_sign_14 : decode cX12_sign 14 = .ok (.goto 4, 3) := by decide +kernel
theorem dX12_sign_17 : decode cX12_sign 17 = .ok (.iconst (-1), 1) := by decide +kernel
theorem dX12_sign_18 : decode cX12_sign 18 = .ok (.ireturn, 1) := by decide +kernel
set_option maxRecDepth 10000 in
theorem NX12_sign_0 {d : Nat} {S : fW} {h : fH} {Q : Int32 → fH → Prop} {r0 : Nat} {x1 : Int32} {r0_pad r0_text r0_number r0_span r0_now r0_sizeOf r0_workedTo r0_slip r0_exactUpper r0_exactLower r0_more r0_terms r0_order r0_bestOrder r0_low r0_high r0_built r0_better r0_base r0_kept r0_isKept : Nat}  
    (hs1 : (r0, shX12 r0_pad r0_text r0_number r0_span r0_now r0_sizeOf r0_workedTo r0_slip r0_exactUpper r0_exactLower r0_more r0_terms r0_order r0_bestOrder r0_low r0_high r0_built r0_better r0_base r0_kept r0_isKept) ∈ S)
    (hs2 : (r0_text, shI 13) ∈ S)
    (w : ∃ Q1 : Int32 → fH → Prop, OkI d mX12_isStep S [.ref r0, .int x1] h Q1 ∧ ∀ (v_1 : Int32) (h_1 : fH), Q1 v_1 h_1 → ((v_1 = 0 → Q (-1 : Int32) h_1) ∧ (¬ v_1 = 0 → vp_in x1 13 ∧ Q (h_1.2.2.1 r0_text x1.toNatClampNeg) h_1))) :
    OkI (d + 1) mX12_sign S [.ref r0, .int x1] h Q := by
  refine Ok.of (by decide) (Nat.le_of_ble_eq_true rfl) ?_
  refine G_aload_n 0 rfl dX12_sign_0 rfl ?_
  refine G_iload_n 1 rfl dX12_sign_1 rfl ?_
  obtain ⟨Q1, ok1, w⟩ := w
  refine G_callV (Z := mX12_isStep) (As := [.int x1]) (st := []) hL_X12_183 hI_X12_isStep hS_X12_isStep hC_X12_isStep hN_X12 nX12_isStep (by decide) hs1 rfl rfl rfl (Nat.le_of_ble_eq_true rfl) dX12_sign_2 ok1 (fun r_ h_1 z_ => ?_)
  obtain ⟨v_1, rfl, q_1⟩ := z_
  have w := w v_1 h_1 q_1
  refine G_if_eq (tgt := 17) dX12_sign_5 (by decide) (fun c1 => ?_) (fun c1 => ?_)
  · have w := w.1 c1
    refine G_iconst (v := -1) dX12_sign_17 (by decide) ?_
    exact G_iret rfl dX12_sign_18 ⟨_, rfl, w⟩
  · have w := w.2 c1
    refine G_aload_n 0 rfl dX12_sign_8 rfl ?_
    refine G_getr (j := r0_text) (k := 9) hs1 (q := (RX12, TX12, 40)) rfl inX12 (by decide) rfl hF_X12_13 dX12_sign_9 ?_
    refine G_iload_n 1 rfl dX12_sign_12 rfl ?_
    obtain ⟨sd1, w⟩ := w
    refine G_iald hs2 sd1 dX12_sign_13 ?_
    refine G_goto (tgt := 18) dX12_sign_14 (by decide) ?_
    exact G_iret rfl dX12_sign_18 ⟨_, rfl, w⟩
-- LostDigitsModel.put
theorem dX12_put_0 : decode cX12_put 0 = .ok (.iload_n 1, 1) := by decide +kernel
theorem dX12_put_1 : decode cX12_put 1 = .ok (.i2l, 1) := by decide +kernel
theorem dX12_put_2 : decode cX12_put 2 = .ok (.lconst 0, 1) := by decide +kernel
theorem dX12_put_3 : decode cX12_put 3 = .ok (.ldc2_w 138, 3) := by decide +kernel
theorem dX12_put_6 : decode cX12_put 6 = .ok (.invokestatic 82, 3) := by decide +kernel
theorem dX12_put_9 : decode cX12_put 9 = .ok (.ifCond .eq 42, 3) := by decide +kernel
theorem dX12_put_12 : decode cX12_put 12 = .ok (.iload_n 2, 1) := by decide +kernel
theorem dX12_put_13 : decode cX12_put 13 = .ok (.invokestatic 134, 3) := by decide +kernel
theorem dX12_put_16 : decode cX12_put 16 = .ok (.ifCond .eq 35, 3) := by decide +kernel
theorem dX12_put_19 : decode cX12_put 19 = .ok (.iload_n 3, 1) := by decide +kernel
theorem dX12_put_20 : decode cX12_put 20 = .ok (.i2l, 1) := by decide +kernel
theorem dX12_put_21 : decode cX12_put 21 = .ok (.iload_n 2, 1) := by decide +kernel
theorem dX12_put_22 : decode cX12_put 22 = .ok (.ifCond .ne 9, 3) := by decide +kernel
theorem dX12_put_25 : decode cX12_put 25 = .ok (.ldc2_w 186, 3) := by decide +kernel
theorem dX12_put_28 : decode cX12_put 28 = .ok (.goto 4, 3) := by decide +kernel
theorem dX12_put_31 : decode cX12_put 31 = .ok (.lconst 0, 1) := by decide +kernel
theorem dX12_put_32 : decode cX12_put 32 = .ok (.iload_n 2, 1) := by decide +kernel
theorem dX12_put_33 : decode cX12_put 33 = .ok (.ifCond .ne 9, 3) := by decide +kernel
theorem dX12_put_36 : decode cX12_put 36 = .ok (.ldc2_w 188, 3) := by decide +kernel
theorem dX12_put_39 : decode cX12_put 39 = .ok (.goto 6, 3) := by decide +kernel
theorem dX12_put_42 : decode cX12_put 42 = .ok (.ldc2_w 190, 3) := by decide +kernel
theorem dX12_put_45 : decode cX12_put 45 = .ok (.invokestatic 82, 3) := by decide +kernel
theorem dX12_put_48 : decode cX12_put 48 = .ok (.ifCond .ne 6, 3) := by decide +kernel
theorem dX12_put_51 : decode cX12_put 51 = .ok (.bipush (-2), 2) := by decide +kernel
theorem dX12_put_53 : decode cX12_put 53 = .ok (.ireturn, 1) := by decide +kernel
theorem dX12_put_54 : decode cX12_put 54 = .ok (.iload_n 2, 1) := by decide +kernel
theorem dX12_put_55 : decode cX12_put 55 = .ok (.ifCond .ne 15, 3) := by decide +kernel
theorem dX12_put_58 : decode cX12_put 58 = .ok (.aload_n 0, 1) := by decide +kernel
theorem dX12_put_59 : decode cX12_put 59 = .ok (.getfield 16, 3) := by decide +kernel
theorem dX12_put_62 : decode cX12_put 62 = .ok (.iload_n 1, 1) := by decide +kernel
theorem dX12_put_63 : decode cX12_put 63 = .ok (.iaload, 1) := by decide +kernel
theorem dX12_put_64 : decode cX12_put 64 = .ok (.bipush 100, 2) := by decide +kernel
theorem dX12_put_66 : decode cX12_put 66 = .ok (.iadd, 1) := by decide +kernel
theorem dX12_put_67 : decode cX12_put 67 = .ok (.goto 9, 3) := by decide +kernel
theorem dX12_put_70 : decode cX12_put 70 = .ok (.aload_n 0, 1) := by decide +kernel
theorem dX12_put_71 : decode cX12_put 71 = .ok (.getfield 19, 3) := by decide +kernel
theorem dX12_put_74 : decode cX12_put 74 = .ok (.iload_n 1, 1) := by decide +kernel
theorem dX12_put_75 : decode cX12_put 75 = .ok (.iaload, 1) := by decide +kernel
theorem dX12_put_76 : decode cX12_put 76 = .ok (.istore 4, 2) := by decide +kernel
theorem dX12_put_78 : decode cX12_put 78 = .ok (.iload_n 2, 1) := by decide +kernel
theorem dX12_put_79 : decode cX12_put 79 = .ok (.ifCond .ne 13, 3) := by decide +kernel
theorem dX12_put_82 : decode cX12_put 82 = .ok (.aload_n 0, 1) := by decide +kernel
theorem dX12_put_83 : decode cX12_put 83 = .ok (.getfield 16, 3) := by decide +kernel
theorem dX12_put_86 : decode cX12_put 86 = .ok (.iload_n 1, 1) := by decide +kernel
theorem dX12_put_87 : decode cX12_put 87 = .ok (.iload_n 3, 1) := by decide +kernel
theorem dX12_put_88 : decode cX12_put 88 = .ok (.iastore, 1) := by decide +kernel
theorem dX12_put_89 : decode cX12_put 89 = .ok (.goto 10, 3) := by decide +kernel
theorem dX12_put_92 : decode cX12_put 92 = .ok (.aload_n 0, 1) := by decide +kernel
theorem dX12_put_93 : decode cX12_put 93 = .ok (.getfield 19, 3) := by decide +kernel
theorem dX12_put_96 : decode cX12_put 96 = .ok (.iload_n 1, 1) := by decide +kernel
theorem dX12_put_97 : decode cX12_put 97 = .ok (.iload_n 3, 1) := by decide +kernel
theorem dX12_put_98 : decode cX12_put 98 = .ok (.iastore, 1) := by decide +kernel
theorem dX12_put_99 : decode cX12_put 99 = .ok (.iload 4, 2) := by decide +kernel
theorem dX12_put_101 : decode cX12_put 101 = .ok (.ireturn, 1) := by decide +kernel
set_option maxRecDepth 10000 in
theorem NX12_put_0 {d : Nat} {S : fW} {h : fH} {Q : Int32 → fH → Prop} {r0 : Nat} {x1 : Int32} {x2 : Int32} {x3 : Int32}  
    (w : ∃ Q1 : Int32 → fH → Prop, OkI d mX12_in S [.long x1.toInt64, .long (0 : Int64), .long (4 : Int64)] h Q1 ∧ ∀ (v_1 : Int32) (h_1 : fH), Q1 v_1 h_1 → ((v_1 = 0 → Q (-2 : Int32) h_1) ∧ (¬ v_1 = 0 → ∃ Q2 : Int32 → fH → Prop, OkI d mX12_isEnd S [.int x2] h_1 Q2 ∧ ∀ (v_2 : Int32) (h_2 : fH), Q2 v_2 h_2 → ((v_2 = 0 → Q (-2 : Int32) h_2) ∧ (¬ v_2 = 0 → ((¬ x2 = 0 → G mX12_put (d + 1) S (f_PI Q) 45 [(0, .ref r0), (1, .int x1), (2, .int x2), (3, .int x3)] [.long (5 : Int64), .long (0 : Int64), .long x3.toInt64] h_2) ∧ (x2 = 0 → G mX12_put (d + 1) S (f_PI Q) 45 [(0, .ref r0), (1, .int x1), (2, .int x2), (3, .int x3)] [.long (99 : Int64), .long (-99 : Int64), .long x3.toInt64] h_2))))))) :
    OkI (d + 1) mX12_put S [.ref r0, .int x1, .int x2, .int x3] h Q := by
  refine Ok.of (by decide) (Nat.le_of_ble_eq_true rfl) ?_
  refine G_iload_n 1 rfl dX12_put_0 rfl ?_
  refine G_i2l dX12_put_1 ?_
  refine G_lconst (v := 0) dX12_put_2 (by decide) ?_
  refine G_ldc2 hK_X12_138 dX12_put_3 ?_
  obtain ⟨Q1, ok1, w⟩ := w
  refine G_callS (Z := mX12_in) (As := [.long x1.toInt64, .long (0 : Int64), .long (4 : Int64)]) (st := []) hL_X12_82 hT_X12_in hC_X12_in hN_X12 nX12_in (by decide) rfl (Nat.le_of_ble_eq_true rfl) dX12_put_6 ok1 (fun r_ h_1 z_ => ?_)
  obtain ⟨v_1, rfl, q_1⟩ := z_
  have w := w v_1 h_1 q_1
  refine G_if_eq (tgt := 51) dX12_put_9 (by decide) (fun c1 => ?_) (fun c1 => ?_)
  · have w := w.1 c1
    refine G_bipush (v := -2) dX12_put_51 (by decide) ?_
    exact G_iret rfl dX12_put_53 ⟨_, rfl, w⟩
  · have w := w.2 c1
    refine G_iload_n 2 rfl dX12_put_12 rfl ?_
    obtain ⟨Q2, ok2, w⟩ := w
    refine G_callS (Z := mX12_isEnd) (As := [.int x2]) (st := []) hL_X12_134 hT_X12_isEnd hC_X12_isEnd hN_X12 nX12_isEnd (by decide) rfl (Nat.le_of_ble_eq_true rfl) dX12_put_13 ok2 (fun r_ h_2 z_ => ?_)
    obtain ⟨v_2, rfl, q_2⟩ := z_
    have w := w v_2 h_2 q_2
    refine G_if_eq (tgt := 51) dX12_put_16 (by decide) (fun c2 => ?_) (fun c2 => ?_)
    · have w := w.1 c2
      refine G_bipush (v := -2) dX12_put_51 (by decide) ?_
      exact G_iret rfl dX12_put_53 ⟨_, rfl, w⟩
    · have w := w.2 c2
      refine G_iload_n 3 rfl dX12_put_19 rfl ?_
      refine G_i2l dX12_put_20 ?_
      refine G_iload_n 2 rfl dX12_put_21 rfl ?_
      refine G_if_ne (tgt := 31) dX12_put_22 (by decide) (fun c3 => ?_) (fun c3 => ?_)
      · have w := w.1 c3
        refine G_lconst (v := 0) dX12_put_31 (by decide) ?_
        refine G_iload_n 2 rfl dX12_put_32 rfl ?_
        refine G_if_ne (tgt := 42) dX12_put_33 (by decide) (fun c4 => ?_) (fun c4 => absurd c4 c3)
        refine G_ldc2 hK_X12_190 dX12_put_42 ?_
        exact G_sub [0, 1, 2, 3] rfl w
      · have w := w.2 c3
        refine G_ldc2 hK_X12_186 dX12_put_25 ?_
        refine G_goto (tgt := 32) dX12_put_28 (by decide) ?_
        refine G_iload_n 2 rfl dX12_put_32 rfl ?_
        refine G_if_ne (tgt := 42) dX12_put_33 (by decide) (fun c4 => absurd c3 c4) (fun c4 => ?_)
        refine G_ldc2 hK_X12_188 dX12_put_36 ?_
        refine G_goto (tgt := 45) dX12_put_39 (by decide) ?_
        exact G_sub [0, 1, 2, 3] rfl w

set_option maxRecDepth 10000 in
theorem NX12_put_45 {d : Nat} {S : fW} {h : fH} {Q : Int32 → fH → Prop} {r0 : Nat} {x1 : Int32} {x2 : Int32} {x3 : Int32} {s0 : Int64} {s1 : Int64} {s2 : Int64} {r0_pad r0_text r0_number r0_span r0_now r0_sizeOf r0_workedTo r0_slip r0_exactUpper r0_exactLower r0_more r0_terms r0_order r0_bestOrder r0_low r0_high r0_built r0_better r0_base r0_kept r0_isKept : Nat}  
    (hs1 : (r0, shX12 r0_pad r0_text r0_number r0_span r0_now r0_sizeOf r0_workedTo r0_slip r0_exactUpper r0_exactLower r0_more r0_terms r0_order r0_bestOrder r0_low r0_high r0_built r0_better r0_base r0_kept r0_isKept) ∈ S)
    (hs2 : (r0_span, shI 5) ∈ S)
    (hs3 : (r0_number, shI 5) ∈ S)
    (w : ∃ Q1 : Int32 → fH → Prop, OkI d mX12_in S [.long s0, .long s1, .long s2] h Q1 ∧ ∀ (v_1 : Int32) (h_1 : fH), Q1 v_1 h_1 → ((¬ v_1 = 0 → ((¬ x2 = 0 → vp_in x1 5 ∧ ∀ g_1 : fH, g_1 = u_ai h_1 r0_span (upd (h_1.2.2.1 r0_span) x1.toNatClampNeg x3) → Q (h_1.2.2.1 r0_span x1.toNatClampNeg) g_1) ∧ (x2 = 0 → vp_in x1 5 ∧ ∀ g_2 : fH, g_2 = u_ai h_1 r0_number (upd (h_1.2.2.1 r0_number) x1.toNatClampNeg x3) → Q ((h_1.2.2.1 r0_number x1.toNatClampNeg) + (100 : Int32)) g_2))) ∧ (v_1 = 0 → Q (-2 : Int32) h_1))) :
    G mX12_put (d + 1) S (f_PI Q) 45 [(0, .ref r0), (1, .int x1), (2, .int x2), (3, .int x3)] [.long s2, .long s1, .long s0] h := by
  obtain ⟨Q1, ok1, w⟩ := w
  refine G_callS (Z := mX12_in) (As := [.long s0, .long s1, .long s2]) (st := []) hL_X12_82 hT_X12_in hC_X12_in hN_X12 nX12_in (by decide) rfl (Nat.le_of_ble_eq_true rfl) dX12_put_45 ok1 (fun r_ h_1 z_ => ?_)
  obtain ⟨v_1, rfl, q_1⟩ := z_
  have w := w v_1 h_1 q_1
  refine G_if_ne (tgt := 54) dX12_put_48 (by decide) (fun c1 => ?_) (fun c1 => ?_)
  · have w := w.1 c1
    refine G_iload_n 2 rfl dX12_put_54 rfl ?_
    refine G_if_ne (tgt := 70) dX12_put_55 (by decide) (fun c2 => ?_) (fun c2 => ?_)
    · have w := w.1 c2
      refine G_aload_n 0 rfl dX12_put_70 rfl ?_
      refine G_getr (j := r0_span) (k := 12) hs1 (q := (RX12, TX12, 40)) rfl inX12 (by decide) rfl hF_X12_19 dX12_put_71 ?_
      refine G_iload_n 1 rfl dX12_put_74 rfl ?_
      obtain ⟨sd1, w⟩ := w
      refine G_iald hs2 sd1 dX12_put_75 ?_
      refine G_istore dX12_put_76 (by decide) (lv' := [(4, .int (h_1.2.2.1 r0_span x1.toNatClampNeg)), (0, .ref r0), (1, .int x1), (2, .int x2), (3, .int x3)]) rfl ?_
      refine G_iload_n 3 rfl dX12_put_78 rfl ?_
      refine G_if_ne (tgt := 92) dX12_put_79 (by decide) (fun c3 => ?_) (fun c3 => absurd c3 c2)
      refine G_aload_n 1 rfl dX12_put_92 rfl ?_
      refine G_getr (j := r0_span) (k := 12) hs1 (q := (RX12, TX12, 40)) rfl inX12 (by decide) rfl hF_X12_19 dX12_put_93 ?_
      refine G_iload_n 2 rfl dX12_put_96 rfl ?_
      refine G_iload_n 4 rfl dX12_put_97 rfl ?_
      refine G_iast hs2 sd1 dX12_put_98 ?_
      refine G_nm (fun g_1 e_1 => ?_)
      have w := w g_1 e_1
      refine G_iload 0 rfl dX12_put_99 ?_
      exact G_iret rfl dX12_put_101 ⟨_, rfl, w⟩
    · have w := w.2 c2
      refine G_aload_n 0 rfl dX12_put_58 rfl ?_
      refine G_getr (j := r0_number) (k := 11) hs1 (q := (RX12, TX12, 40)) rfl inX12 (by decide) rfl hF_X12_16 dX12_put_59 ?_
      refine G_iload_n 1 rfl dX12_put_62 rfl ?_
      obtain ⟨sd1, w⟩ := w
      refine G_iald hs3 sd1 dX12_put_63 ?_
      refine G_bipush (v := 100) dX12_put_64 (by decide) ?_
      refine G_iadd dX12_put_66 ?_
      refine G_goto (tgt := 76) dX12_put_67 (by decide) ?_
      refine G_istore dX12_put_76 (by decide) (lv' := [(4, .int ((h_1.2.2.1 r0_number x1.toNatClampNeg) + (100 : Int32))), (0, .ref r0), (1, .int x1), (2, .int x2), (3, .int x3)]) rfl ?_
      refine G_iload_n 3 rfl dX12_put_78 rfl ?_
      refine G_if_ne (tgt := 92) dX12_put_79 (by decide) (fun c3 => absurd c2 c3) (fun c3 => ?_)
      refine G_aload_n 1 rfl dX12_put_82 rfl ?_
      refine G_getr (j := r0_number) (k := 11) hs1 (q := (RX12, TX12, 40)) rfl inX12 (by decide) rfl hF_X12_16 dX12_put_83 ?_
      refine G_iload_n 2 rfl dX12_put_86 rfl ?_
      refine G_iload_n 4 rfl dX12_put_87 rfl ?_
      refine G_iast hs3 sd1 dX12_put_88 ?_
      refine G_nm (fun g_2 e_2 => ?_)
      have w := w g_2 e_2
      refine G_goto (tgt := 99) dX12_put_89 (by decide) ?_
      refine G_iload 0 rfl dX12_put_99 ?_
      exact G_iret rfl dX12_put_101 ⟨_, rfl, w⟩
  · have w := w.2 c1
    refine G_bipush (v := -2) dX12_put_51 (by decide) ?_
    exact G_iret rfl dX12_put_53 ⟨_, rfl, w⟩
-- LostDigitsModel.layText
theorem dX12_layText_0 : decode cX12_layText 0 = .ok (.aload_n 0, 1) := by decide +kernel
theorem dX12_layText_1 : decode cX12_layText 1 = .ok (.aload_n 0, 1) := by decide +kernel
theorem dX12_layText_2 : decode cX12_layText 2 = .ok (.getfield 79, 3) := by decide +kernel
theorem dX12_layText_5 : decode cX12_layText 5 = .ok (.putfield 192, 3) := by decide +kernel
theorem dX12_layText_8 : decode cX12_layText 8 = .ok (.iconst 0, 1) := by decide +kernel
theorem dX12_layText_9 : decode cX12_layText 9 = .ok (.istore_n 1, 1) := by decide +kernel
theorem dX12_layText_10 : decode cX12_layText 10 = .ok (.iload_n 1, 1) := by decide +kernel
theorem dX12_layText_11 : decode cX12_layText 11 = .ok (.aload_n 0, 1) := by decide +kernel
theorem dX12_layText_12 : decode cX12_layText 12 = .ok (.getfield 79, 3) := by decide +kernel
theorem dX12_layText_15 : decode cX12_layText 15 = .ok (.if_icmp .ge 21, 3) := by decide +kernel
theorem dX12_layText_18 : decode cX12_layText 18 = .ok (.aload_n 0, 1) := by decide +kernel
theorem dX12_layText_19 : decode cX12_layText 19 = .ok (.getfield 22, 3) := by decide +kernel
theorem dX12_layText_22 : decode cX12_layText 22 = .ok (.iload_n 1, 1) := by decide +kernel
theorem dX12_layText_23 : decode cX12_layText 23 = .ok (.aload_n 0, 1) := by decide +kernel
theorem dX12_layText_24 : decode cX12_layText 24 = .ok (.getfield 13, 3) := by decide +kernel
theorem dX12_layText_27 : decode cX12_layText 27 = .ok (.iload_n 1, 1) := by decide +kernel
theorem dX12_layText_28 : decode cX12_layText 28 = .ok (.iaload, 1) := by decide +kernel
theorem dX12_layText_29 : decode cX12_layText 29 = .ok (.iastore, 1) := by decide +kernel
theorem dX12_layText_30 : decode cX12_layText 30 = .ok (.iinc 1 1, 3) := by decide +kernel
theorem dX12_layText_33 : decode cX12_layText 33 = .ok (.goto (-23), 3) := by decide +kernel
theorem dX12_layText_36 : decode cX12_layText 36 = .ok (.return_, 1) := by decide +kernel
set_option maxRecDepth 10000 in
theorem NX12_layText_0 {d : Nat} {S : fW} {h : fH} {Q : fH → Prop} {r0 : Nat} {r0_pad r0_text r0_number r0_span r0_now r0_sizeOf r0_workedTo r0_slip r0_exactUpper r0_exactLower r0_more r0_terms r0_order r0_bestOrder r0_low r0_high r0_built r0_better r0_base r0_kept r0_isKept : Nat}  
    (hs1 : (r0, shX12 r0_pad r0_text r0_number r0_span r0_now r0_sizeOf r0_workedTo r0_slip r0_exactUpper r0_exactLower r0_more r0_terms r0_order r0_bestOrder r0_low r0_high r0_built r0_better r0_base r0_kept r0_isKept) ∈ S)
    (w : ∀ g_1 : fH, g_1 = u_fi h r0 14 (h.1 r0 10) → G mX12_layText d S (f_PV Q) 10 [(0, .ref r0), (1, .int (0 : Int32))] [] g_1) :
    OkV d mX12_layText S [.ref r0] h Q := by
  refine Ok.of (by decide) (Nat.le_of_ble_eq_true rfl) ?_
  refine G_aload_n 0 rfl dX12_layText_0 rfl ?_
  refine G_aload_n 0 rfl dX12_layText_1 rfl ?_
  refine G_geti (k := 10) hs1 (q := (RX12, TX12, 40)) rfl inX12 (by decide) (Or.inl rfl) hF_X12_79 dX12_layText_2 ?_
  refine G_puti (k := 14) tyX12 hs1 (q := (RX12, TX12, 40)) rfl inX12 tyX12_ok nmX12 (by decide) rfl rfl rfl hF_X12_192 dX12_layText_5 ?_
  refine G_nm (fun g_1 e_1 => ?_)
  have w := w g_1 e_1
  refine G_iconst (v := 0) dX12_layText_8 (by decide) ?_
  refine G_istore_n dX12_layText_9 rfl (by decide) (lv' := [(1, .int (0 : Int32)), (0, .ref r0)]) rfl ?_
  exact G_sub [1, 0] rfl w

set_option maxRecDepth 10000 in
theorem NX12_layText_10 {d : Nat} {S : fW} {h : fH} {Q : fH → Prop} {r0 : Nat} {x1 : Int32} {r0_pad r0_text r0_number r0_span r0_now r0_sizeOf r0_workedTo r0_slip r0_exactUpper r0_exactLower r0_more r0_terms r0_order r0_bestOrder r0_low r0_high r0_built r0_better r0_base r0_kept r0_isKept : Nat}  
    (hs1 : (r0, shX12 r0_pad r0_text r0_number r0_span r0_now r0_sizeOf r0_workedTo r0_slip r0_exactUpper r0_exactLower r0_more r0_terms r0_order r0_bestOrder r0_low r0_high r0_built r0_better r0_base r0_kept r0_isKept) ∈ S)
    (hs2 : (r0_text, shI 13) ∈ S)
    (hs3 : (r0_now, shI 13) ∈ S)
    (w : (((h.1 r0 10) ≤ x1 → Q h) ∧ (¬ (h.1 r0 10) ≤ x1 → vp_in x1 13 ∧ ∀ g_1 : fH, g_1 = u_ai h r0_now (upd (h.2.2.1 r0_now) x1.toNatClampNeg (h.2.2.1 r0_text x1.toNatClampNeg)) → G mX12_layText d S (f_PV Q) 10 [(0, .ref r0), (1, .int (x1 + 1))] [] g_1))) :
    G mX12_layText d S (f_PV Q) 10 [(0, .ref r0), (1, .int x1)] [] h := by
  refine G_iload_n 1 rfl dX12_layText_10 rfl ?_
  refine G_aload_n 0 rfl dX12_layText_11 rfl ?_
  refine G_geti (k := 10) hs1 (q := (RX12, TX12, 40)) rfl inX12 (by decide) (Or.inl rfl) hF_X12_79 dX12_layText_12 ?_
  refine G_icmp_ge (tgt := 36) dX12_layText_15 (by decide) (fun c1 => ?_) (fun c1 => ?_)
  · have w := w.1 c1
    exact G_vret rfl dX12_layText_36 ⟨rfl, w⟩
  · have w := w.2 c1
    refine G_aload_n 0 rfl dX12_layText_18 rfl ?_
    refine G_getr (j := r0_now) (k := 13) hs1 (q := (RX12, TX12, 40)) rfl inX12 (by decide) rfl hF_X12_22 dX12_layText_19 ?_
    refine G_iload_n 1 rfl dX12_layText_22 rfl ?_
    refine G_aload_n 0 rfl dX12_layText_23 rfl ?_
    refine G_getr (j := r0_text) (k := 9) hs1 (q := (RX12, TX12, 40)) rfl inX12 (by decide) rfl hF_X12_13 dX12_layText_24 ?_
    refine G_iload_n 1 rfl dX12_layText_27 rfl ?_
    obtain ⟨sd1, w⟩ := w
    refine G_iald hs2 sd1 dX12_layText_28 ?_
    refine G_iast hs3 sd1 dX12_layText_29 ?_
    refine G_nm (fun g_1 e_1 => ?_)
    have w := w g_1 e_1
    refine G_iinc (v := 1) 1 rfl dX12_layText_30 (by decide) (by decide) (lv' := [(1, .int (x1 + 1)), (0, .ref r0)]) rfl ?_
    refine G_goto (tgt := 10) dX12_layText_33 (by decide) ?_
    exact G_sub [1, 0] rfl w
-- LostDigitsModel.findSizes
theorem dX12_findSizes_0 : decode cX12_findSizes 0 = .ok (.aload_n 0, 1) := by decide +kernel
theorem dX12_findSizes_1 : decode cX12_findSizes 1 = .ok (.getfield 192, 3) := by decide +kernel
theorem dX12_findSizes_4 : decode cX12_findSizes 4 = .ok (.iconst 1, 1) := by decide +kernel
theorem dX12_findSizes_5 : decode cX12_findSizes 5 = .ok (.isub, 1) := by decide +kernel
theorem dX12_findSizes_6 : decode cX12_findSizes 6 = .ok (.istore_n 1, 1) := by decide +kernel
theorem dX12_findSizes_7 : decode cX12_findSizes 7 = .ok (.iload_n 1, 1) := by decide +kernel
theorem dX12_findSizes_8 : decode cX12_findSizes 8 = .ok (.ifCond .lt 57, 3) := by decide +kernel
theorem dX12_findSizes_11 : decode cX12_findSizes 11 = .ok (.aload_n 0, 1) := by decide +kernel
theorem dX12_findSizes_12 : decode cX12_findSizes 12 = .ok (.getfield 25, 3) := by decide +kernel
theorem dX12_findSizes_15 : decode cX12_findSizes 15 = .ok (.iload_n 1, 1) := by decide +kernel
theorem dX12_findSizes_16 : decode cX12_findSizes 16 = .ok (.iconst 1, 1) := by decide +kernel
theorem dX12_findSizes_17 : decode cX12_findSizes 17 = .ok (.iastore, 1) := by decide +kernel
theorem dX12_findSizes_18 : decode cX12_findSizes 18 = .ok (.aload_n 0, 1) := by decide +kernel
theorem dX12_findSizes_19 : decode cX12_findSizes 19 = .ok (.getfield 22, 3) := by decide +kernel
theorem dX12_findSizes_22 : decode cX12_findSizes 22 = .ok (.iload_n 1, 1) := by decide +kernel
theorem dX12_findSizes_23 : decode cX12_findSizes 23 = .ok (.iaload, 1) := by decide +kernel
theorem dX12_findSizes_24 : decode cX12_findSizes 24 = .ok (.invokestatic 170, 3) := by decide +kernel
theorem dX12_findSizes_27 : decode cX12_findSizes 27 = .ok (.ifCond .eq 32, 3) := by decide +kernel
theorem dX12_findSizes_30 : decode cX12_findSizes 30 = .ok (.aload_n 0, 1) := by decide +kernel
theorem dX12_findSizes_31 : decode cX12_findSizes 31 = .ok (.getfield 25, 3) := by decide +kernel
theorem dX12_findSizes_34 : decode cX12_findSizes 34 = .ok (.iload_n 1, 1) := by decide +kernel
theorem dX12_findSizes_35 : decode cX12_findSizes 35 = .ok (.iconst 1, 1) := by decide +kernel
theorem dX12_findSizes_36 : decode cX12_findSizes 36 = .ok (.iadd, 1) := by decide +kernel
theorem dX12_findSizes_37 : decode cX12_findSizes 37 = .ok (.iaload, 1) := by decide +kernel
theorem dX12_findSizes_38 : decode cX12_findSizes 38 = .ok (.istore_n 2, 1) := by decide +kernel
theorem dX12_findSizes_39 : decode cX12_findSizes 39 = .ok (.aload_n 0, 1) := by decide +kernel
theorem dX12_findSizes_40 : decode cX12_findSizes 40 = .ok (.getfield 25, 3) := by decide +kernel
theorem dX12_findSizes_43 : decode cX12_findSizes 43 = .ok (.iload_n 1, 1) := by decide +kernel
theorem dX12_findSizes_44 : decode cX12_findSizes 44 = .ok (.iconst 1, 1) := by decide +kernel
theorem dX12_findSizes_45 : decode cX12_findSizes 45 = .ok (.iload_n 2, 1) := by decide +kernel
theorem dX12_findSizes_46 : decode cX12_findSizes 46 = .ok (.iadd, 1) := by decide +kernel
theorem dX12_findSizes_47 : decode cX12_findSizes 47 = .ok (.aload_n 0, 1) := by decide +kernel
theorem dX12_findSizes_48 : decode cX12_findSizes 48 = .ok (.getfield 25, 3) := by decide +kernel
theorem dX12_findSizes_51 : decode cX12_findSizes 51 = .ok (.iload_n 1, 1) := by decide +kernel
theorem dX12_findSizes_52 : decode cX12_findSizes 52 = .ok (.iconst 1, 1) := by decide +kernel
theorem dX12_findSizes_53 : decode cX12_findSizes 53 = .ok (.iadd, 1) := by decide +kernel
theorem dX12_findSizes_54 : decode cX12_findSizes 54 = .ok (.iload_n 2, 1) := by decide +kernel
theorem dX12_findSizes_55 : decode cX12_findSizes 55 = .ok (.iadd, 1) := by decide +kernel
theorem dX12_findSizes_56 : decode cX12_findSizes 56 = .ok (.iaload, 1) := by decide +kernel
theorem dX12_findSizes_57 : decode cX12_findSizes 57 = .ok (.iadd, 1) := by decide +kernel
theorem dX12_findSizes_58 : decode cX12_findSizes 58 = .ok (.iastore, 1) := by decide +kernel
theorem dX12_findSizes_59 : decode cX12_findSizes 59 = .ok (.iinc 1 (-1), 3) := by decide +kernel
theorem dX12_findSizes_62 : decode cX12_findSizes 62 = .ok (.goto (-55), 3) := by decide +kernel
theorem dX12_findSizes_65 : decode cX12_findSizes 65 = .ok (.return_, 1) := by decide +kernel
set_option maxRecDepth 10000 in
theorem NX12_findSizes_0 {d : Nat} {S : fW} {h : fH} {Q : fH → Prop} {r0 : Nat} {r0_pad r0_text r0_number r0_span r0_now r0_sizeOf r0_workedTo r0_slip r0_exactUpper r0_exactLower r0_more r0_terms r0_order r0_bestOrder r0_low r0_high r0_built r0_better r0_base r0_kept r0_isKept : Nat}  
    (hs1 : (r0, shX12 r0_pad r0_text r0_number r0_span r0_now r0_sizeOf r0_workedTo r0_slip r0_exactUpper r0_exactLower r0_more r0_terms r0_order r0_bestOrder r0_low r0_high r0_built r0_better r0_base r0_kept r0_isKept) ∈ S)
    (w : G mX12_findSizes (d + 1) S (f_PV Q) 7 [(0, .ref r0), (1, .int ((h.1 r0 14) - (1 : Int32)))] [] h) :
    OkV (d + 1) mX12_findSizes S [.ref r0] h Q := by
  refine Ok.of (by decide) (Nat.le_of_ble_eq_true rfl) ?_
  refine G_aload_n 0 rfl dX12_findSizes_0 rfl ?_
  refine G_geti (k := 14) hs1 (q := (RX12, TX12, 40)) rfl inX12 (by decide) (Or.inl rfl) hF_X12_192 dX12_findSizes_1 ?_
  refine G_iconst (v := 1) dX12_findSizes_4 (by decide) ?_
  refine G_isub dX12_findSizes_5 ?_
  refine G_istore_n dX12_findSizes_6 rfl (by decide) (lv' := [(1, .int ((h.1 r0 14) - (1 : Int32))), (0, .ref r0)]) rfl ?_
  exact G_sub [1, 0] rfl w

set_option maxRecDepth 10000 in
theorem NX12_findSizes_7 {d : Nat} {S : fW} {h : fH} {Q : fH → Prop} {r0 : Nat} {x1 : Int32} {r0_pad r0_text r0_number r0_span r0_now r0_sizeOf r0_workedTo r0_slip r0_exactUpper r0_exactLower r0_more r0_terms r0_order r0_bestOrder r0_low r0_high r0_built r0_better r0_base r0_kept r0_isKept : Nat}  
    (hs1 : (r0, shX12 r0_pad r0_text r0_number r0_span r0_now r0_sizeOf r0_workedTo r0_slip r0_exactUpper r0_exactLower r0_more r0_terms r0_order r0_bestOrder r0_low r0_high r0_built r0_better r0_base r0_kept r0_isKept) ∈ S)
    (hs2 : (r0_sizeOf, shI 13) ∈ S)
    (hs3 : (r0_now, shI 13) ∈ S)
    (w : ((x1 < 0 → Q h) ∧ (¬ x1 < 0 → vp_in x1 13 ∧ ∀ g_1 : fH, g_1 = u_ai h r0_sizeOf (upd (h.2.2.1 r0_sizeOf) x1.toNatClampNeg (1 : Int32)) → ∃ Q1 : Int32 → fH → Prop, OkI d mX12_isSign S [.int (g_1.2.2.1 r0_now x1.toNatClampNeg)] g_1 Q1 ∧ ∀ (v_1 : Int32) (h_1 : fH), Q1 v_1 h_1 → ((v_1 = 0 → G mX12_findSizes (d + 1) S (f_PV Q) 7 [(0, .ref r0), (1, .int (x1 + (-1)))] [] h_1) ∧ (¬ v_1 = 0 → vp_in (x1 + (1 : Int32)) 13 ∧ vp_in ((x1 + (1 : Int32)) + (h_1.2.2.1 r0_sizeOf (x1 + (1 : Int32)).toNatClampNeg)) 13 ∧ ∀ g_2 : fH, g_2 = u_ai h_1 r0_sizeOf (upd (h_1.2.2.1 r0_sizeOf) x1.toNatClampNeg (((1 : Int32) + (h_1.2.2.1 r0_sizeOf (x1 + (1 : Int32)).toNatClampNeg)) + (h_1.2.2.1 r0_sizeOf ((x1 + (1 : Int32)) + (h_1.2.2.1 r0_sizeOf (x1 + (1 : Int32)).toNatClampNeg)).toNatClampNeg))) → G mX12_findSizes (d + 1) S (f_PV Q) 7 [(0, .ref r0), (1, .int (x1 + (-1)))] [] g_2))))) :
    G mX12_findSizes (d + 1) S (f_PV Q) 7 [(0, .ref r0), (1, .int x1)] [] h := by
  refine G_iload_n 1 rfl dX12_findSizes_7 rfl ?_
  refine G_if_lt (tgt := 65) dX12_findSizes_8 (by decide) (fun c1 => ?_) (fun c1 => ?_)
  · have w := w.1 c1
    exact G_vret rfl dX12_findSizes_65 ⟨rfl, w⟩
  · have w := w.2 c1
    refine G_aload_n 0 rfl dX12_findSizes_11 rfl ?_
    refine G_getr (j := r0_sizeOf) (k := 15) hs1 (q := (RX12, TX12, 40)) rfl inX12 (by decide) rfl hF_X12_25 dX12_findSizes_12 ?_
    refine G_iload_n 1 rfl dX12_findSizes_15 rfl ?_
    refine G_iconst (v := 1) dX12_findSizes_16 (by decide) ?_
    obtain ⟨sd1, w⟩ := w
    refine G_iast hs2 sd1 dX12_findSizes_17 ?_
    refine G_nm (fun g_1 e_1 => ?_)
    have w := w g_1 e_1
    refine G_aload_n 0 rfl dX12_findSizes_18 rfl ?_
    refine G_getr (j := r0_now) (k := 13) hs1 (q := (RX12, TX12, 40)) rfl inX12 (by decide) rfl hF_X12_22 dX12_findSizes_19 ?_
    refine G_iload_n 1 rfl dX12_findSizes_22 rfl ?_
    refine G_iald hs3 sd1 dX12_findSizes_23 ?_
    obtain ⟨Q1, ok1, w⟩ := w
    refine G_callS (Z := mX12_isSign) (As := [.int (g_1.2.2.1 r0_now x1.toNatClampNeg)]) (st := []) hL_X12_170 hT_X12_isSign hC_X12_isSign hN_X12 nX12_isSign (by decide) rfl (Nat.le_of_ble_eq_true rfl) dX12_findSizes_24 ok1 (fun r_ h_1 z_ => ?_)
    obtain ⟨v_1, rfl, q_1⟩ := z_
    have w := w v_1 h_1 q_1
    refine G_if_eq (tgt := 59) dX12_findSizes_27 (by decide) (fun c2 => ?_) (fun c2 => ?_)
    · have w := w.1 c2
      refine G_iinc (v := -1) 1 rfl dX12_findSizes_59 (by decide) (by decide) (lv' := [(1, .int (x1 + (-1))), (0, .ref r0)]) rfl ?_
      refine G_goto (tgt := 7) dX12_findSizes_62 (by decide) ?_
      exact G_sub [1, 0] rfl w
    · have w := w.2 c2
      refine G_aload_n 0 rfl dX12_findSizes_30 rfl ?_
      refine G_getr (j := r0_sizeOf) (k := 15) hs1 (q := (RX12, TX12, 40)) rfl inX12 (by decide) rfl hF_X12_25 dX12_findSizes_31 ?_
      refine G_iload_n 1 rfl dX12_findSizes_34 rfl ?_
      refine G_iconst (v := 1) dX12_findSizes_35 (by decide) ?_
      refine G_iadd dX12_findSizes_36 ?_
      obtain ⟨sd2, w⟩ := w
      refine G_iald hs2 sd2 dX12_findSizes_37 ?_
      refine G_istore_n dX12_findSizes_38 rfl (by decide) (lv' := [(2, .int (h_1.2.2.1 r0_sizeOf (x1 + (1 : Int32)).toNatClampNeg)), (0, .ref r0), (1, .int x1)]) rfl ?_
      refine G_aload_n 1 rfl dX12_findSizes_39 rfl ?_
      refine G_getr (j := r0_sizeOf) (k := 15) hs1 (q := (RX12, TX12, 40)) rfl inX12 (by decide) rfl hF_X12_25 dX12_findSizes_40 ?_
      refine G_iload_n 2 rfl dX12_findSizes_43 rfl ?_
      refine G_iconst (v := 1) dX12_findSizes_44 (by decide) ?_
      refine G_iload_n 0 rfl dX12_findSizes_45 rfl ?_
      refine G_iadd dX12_findSizes_46 ?_
      refine G_aload_n 1 rfl dX12_findSizes_47 rfl ?_
      refine G_getr (j := r0_sizeOf) (k := 15) hs1 (q := (RX12, TX12, 40)) rfl inX12 (by decide) rfl hF_X12_25 dX12_findSizes_48 ?_
      refine G_iload_n 2 rfl dX12_findSizes_51 rfl ?_
      refine G_iconst (v := 1) dX12_findSizes_52 (by decide) ?_
      refine G_iadd dX12_findSizes_53 ?_
      refine G_iload_n 0 rfl dX12_findSizes_54 rfl ?_
      refine G_iadd dX12_findSizes_55 ?_
      obtain ⟨sd3, w⟩ := w
      refine G_iald hs2 sd3 dX12_findSizes_56 ?_
      refine G_iadd dX12_findSizes_57 ?_
      refine G_iast hs2 sd1 dX12_findSizes_58 ?_
      refine G_nm (fun g_2 e_2 => ?_)
      have w := w g_2 e_2
      refine G_iinc (v := -1) 2 rfl dX12_findSizes_59 (by decide) (by decide) (lv' := [(1, .int (x1 + (-1))), (2, .int (h_1.2.2.1 r0_sizeOf (x1 + (1 : Int32)).toNatClampNeg)), (0, .ref r0)]) rfl ?_
      refine G_goto (tgt := 7) dX12_findSizes_62 (by decide) ?_
      exact G_sub [2, 0] rfl w
-- LostDigitsModel.wholeAt
theorem dX12_wholeAt_0 : decode cX12_wholeAt 0 = .ok (.aload_n 0, 1) := by decide +kernel
theorem dX12_wholeAt_1 : decode cX12_wholeAt 1 = .ok (.getfield 22, 3) := by decide +kernel
theorem dX12_wholeAt_4 : decode cX12_wholeAt 4 = .ok (.iload_n 1, 1) := by decide +kernel
theorem dX12_wholeAt_5 : decode cX12_wholeAt 5 = .ok (.iaload, 1) := by decide +kernel
theorem dX12_wholeAt_6 : decode cX12_wholeAt 6 = .ok (.invokestatic 173, 3) := by decide +kernel
theorem dX12_wholeAt_9 : decode cX12_wholeAt 9 = .ok (.ifCond .eq 35, 3) := by decide +kernel
theorem dX12_wholeAt_12 : decode cX12_wholeAt 12 = .ok (.aload_n 0, 1) := by decide +kernel
theorem dX12_wholeAt_13 : decode cX12_wholeAt 13 = .ok (.getfield 16, 3) := by decide +kernel
theorem dX12_wholeAt_16 : decode cX12_wholeAt 16 = .ok (.aload_n 0, 1) := by decide +kernel
theorem dX12_wholeAt_17 : decode cX12_wholeAt 17 = .ok (.getfield 22, 3) := by decide +kernel
theorem dX12_wholeAt_20 : decode cX12_wholeAt 20 = .ok (.iload_n 1, 1) := by decide +kernel
theorem dX12_wholeAt_21 : decode cX12_wholeAt 21 = .ok (.iaload, 1) := by decide +kernel
theorem dX12_wholeAt_22 : decode cX12_wholeAt 22 = .ok (.bipush 97, 2) := by decide +kernel
theorem dX12_wholeAt_24 : decode cX12_wholeAt 24 = .ok (.isub, 1) := by decide +kernel
theorem dX12_wholeAt_25 : decode cX12_wholeAt 25 = .ok (.iaload, 1) := by decide +kernel
theorem dX12_wholeAt_26 : decode cX12_wholeAt 26 = .ok (.aload_n 0, 1) := by decide +kernel
theorem dX12_wholeAt_27 : decode cX12_wholeAt 27 = .ok (.getfield 41, 3) := by decide +kernel
theorem dX12_wholeAt_30 : decode cX12_wholeAt 30 = .ok (.aload_n 0, 1) := by decide +kernel
theorem dX12_wholeAt_31 : decode cX12_wholeAt 31 = .ok (.getfield 22, 3) := by decide +kernel
theorem dX12_wholeAt_34 : decode cX12_wholeAt 34 = .ok (.iload_n 1, 1) := by decide +kernel
theorem dX12_wholeAt_35 : decode cX12_wholeAt 35 = .ok (.iaload, 1) := by decide +kernel
theorem dX12_wholeAt_36 : decode cX12_wholeAt 36 = .ok (.bipush 97, 2) := by decide +kernel
theorem dX12_wholeAt_38 : decode cX12_wholeAt 38 = .ok (.isub, 1) := by decide +kernel
theorem dX12_wholeAt_39 : decode cX12_wholeAt 39 = .ok (.iaload, 1) := by decide +kernel
theorem dX12_wholeAt_40 : decode cX12_wholeAt 40 = .ok (.iadd, 1) := by decide +kernel
theorem dX12_wholeAt_41 : decode cX12_wholeAt 41 = .ok (.goto 12, 3) := by decide +kernel
theorem dX12_wholeAt_44 : decode cX12_wholeAt 44 = .ok (.aload_n 0, 1) := by decide +kernel
theorem dX12_wholeAt_45 : decode cX12_wholeAt 45 = .ok (.getfield 22, 3) := by decide +kernel
theorem dX12_wholeAt_48 : decode cX12_wholeAt 48 = .ok (.iload_n 1, 1) := by decide +kernel
theorem dX12_wholeAt_49 : decode cX12_wholeAt 49 = .ok (.iaload, 1) := by decide +kernel
theorem dX12_wholeAt_50 : decode cX12_wholeAt 50 = .ok (.bipush 48, 2) := by decide +kernel
theorem dX12_wholeAt_52 : decode cX12_wholeAt 52 = .ok (.isub, 1) := by decide +kernel
theorem dX12_wholeAt_53 : decode cX12_wholeAt 53 = .ok (.ireturn, 1) := by decide +kernel
set_option maxRecDepth 10000 in
theorem NX12_wholeAt_0 {d : Nat} {S : fW} {h : fH} {Q : Int32 → fH → Prop} {r0 : Nat} {x1 : Int32} {r0_pad r0_text r0_number r0_span r0_now r0_sizeOf r0_workedTo r0_slip r0_exactUpper r0_exactLower r0_more r0_terms r0_order r0_bestOrder r0_low r0_high r0_built r0_better r0_base r0_kept r0_isKept : Nat}  
    (hs1 : (r0, shX12 r0_pad r0_text r0_number r0_span r0_now r0_sizeOf r0_workedTo r0_slip r0_exactUpper r0_exactLower r0_more r0_terms r0_order r0_bestOrder r0_low r0_high r0_built r0_better r0_base r0_kept r0_isKept) ∈ S)
    (hs2 : (r0_now, shI 13) ∈ S)
    (hs3 : (r0_number, shI 5) ∈ S)
    (hs4 : (r0_more, shI 5) ∈ S)
    (w : vp_in x1 13 ∧ ∃ Q1 : Int32 → fH → Prop, OkI d mX12_isLetter S [.int (h.2.2.1 r0_now x1.toNatClampNeg)] h Q1 ∧ ∀ (v_1 : Int32) (h_1 : fH), Q1 v_1 h_1 → ((v_1 = 0 → Q ((h_1.2.2.1 r0_now x1.toNatClampNeg) - (48 : Int32)) h_1) ∧ (¬ v_1 = 0 → vp_in ((h_1.2.2.1 r0_now x1.toNatClampNeg) - (97 : Int32)) 5 ∧ Q ((h_1.2.2.1 r0_number ((h_1.2.2.1 r0_now x1.toNatClampNeg) - (97 : Int32)).toNatClampNeg) + (h_1.2.2.1 r0_more ((h_1.2.2.1 r0_now x1.toNatClampNeg) - (97 : Int32)).toNatClampNeg)) h_1))) :
    OkI (d + 1) mX12_wholeAt S [.ref r0, .int x1] h Q := by
  refine Ok.of (by decide) (Nat.le_of_ble_eq_true rfl) ?_
  refine G_aload_n 0 rfl dX12_wholeAt_0 rfl ?_
  refine G_getr (j := r0_now) (k := 13) hs1 (q := (RX12, TX12, 40)) rfl inX12 (by decide) rfl hF_X12_22 dX12_wholeAt_1 ?_
  refine G_iload_n 1 rfl dX12_wholeAt_4 rfl ?_
  obtain ⟨sd1, w⟩ := w
  refine G_iald hs2 sd1 dX12_wholeAt_5 ?_
  obtain ⟨Q1, ok1, w⟩ := w
  refine G_callS (Z := mX12_isLetter) (As := [.int (h.2.2.1 r0_now x1.toNatClampNeg)]) (st := []) hL_X12_173 hT_X12_isLetter hC_X12_isLetter hN_X12 nX12_isLetter (by decide) rfl (Nat.le_of_ble_eq_true rfl) dX12_wholeAt_6 ok1 (fun r_ h_1 z_ => ?_)
  obtain ⟨v_1, rfl, q_1⟩ := z_
  have w := w v_1 h_1 q_1
  refine G_if_eq (tgt := 44) dX12_wholeAt_9 (by decide) (fun c1 => ?_) (fun c1 => ?_)
  · have w := w.1 c1
    refine G_aload_n 0 rfl dX12_wholeAt_44 rfl ?_
    refine G_getr (j := r0_now) (k := 13) hs1 (q := (RX12, TX12, 40)) rfl inX12 (by decide) rfl hF_X12_22 dX12_wholeAt_45 ?_
    refine G_iload_n 1 rfl dX12_wholeAt_48 rfl ?_
    refine G_iald hs2 sd1 dX12_wholeAt_49 ?_
    refine G_bipush (v := 48) dX12_wholeAt_50 (by decide) ?_
    refine G_isub dX12_wholeAt_52 ?_
    exact G_iret rfl dX12_wholeAt_53 ⟨_, rfl, w⟩
  · have w := w.2 c1
    refine G_aload_n 0 rfl dX12_wholeAt_12 rfl ?_
    refine G_getr (j := r0_number) (k := 11) hs1 (q := (RX12, TX12, 40)) rfl inX12 (by decide) rfl hF_X12_16 dX12_wholeAt_13 ?_
    refine G_aload_n 0 rfl dX12_wholeAt_16 rfl ?_
    refine G_getr (j := r0_now) (k := 13) hs1 (q := (RX12, TX12, 40)) rfl inX12 (by decide) rfl hF_X12_22 dX12_wholeAt_17 ?_
    refine G_iload_n 1 rfl dX12_wholeAt_20 rfl ?_
    refine G_iald hs2 sd1 dX12_wholeAt_21 ?_
    refine G_bipush (v := 97) dX12_wholeAt_22 (by decide) ?_
    refine G_isub dX12_wholeAt_24 ?_
    obtain ⟨sd2, w⟩ := w
    refine G_iald hs3 sd2 dX12_wholeAt_25 ?_
    refine G_aload_n 0 rfl dX12_wholeAt_26 rfl ?_
    refine G_getr (j := r0_more) (k := 20) hs1 (q := (RX12, TX12, 40)) rfl inX12 (by decide) rfl hF_X12_41 dX12_wholeAt_27 ?_
    refine G_aload_n 0 rfl dX12_wholeAt_30 rfl ?_
    refine G_getr (j := r0_now) (k := 13) hs1 (q := (RX12, TX12, 40)) rfl inX12 (by decide) rfl hF_X12_22 dX12_wholeAt_31 ?_
    refine G_iload_n 1 rfl dX12_wholeAt_34 rfl ?_
    refine G_iald hs2 sd1 dX12_wholeAt_35 ?_
    refine G_bipush (v := 97) dX12_wholeAt_36 (by decide) ?_
    refine G_isub dX12_wholeAt_38 ?_
    refine G_iald hs4 sd2 dX12_wholeAt_39 ?_
    refine G_iadd dX12_wholeAt_40 ?_
    refine G_goto (tgt := 53) dX12_wholeAt_41 (by decide) ?_
    exact G_iret rfl dX12_wholeAt_53 ⟨_, rfl, w⟩
-- LostDigitsModel.work
theorem dX12_work_0 : decode cX12_work 0 = .ok (.aload_n 0, 1) := by decide +kernel
theorem dX12_work_1 : decode cX12_work 1 = .ok (.invokevirtual 195, 3) := by decide +kernel
theorem dX12_work_4 : decode cX12_work 4 = .ok (.aload_n 0, 1) := by decide +kernel
theorem dX12_work_5 : decode cX12_work 5 = .ok (.getfield 192, 3) := by decide +kernel
theorem dX12_work_8 : decode cX12_work 8 = .ok (.iconst 1, 1) := by decide +kernel
theorem dX12_work_9 : decode cX12_work 9 = .ok (.isub, 1) := by decide +kernel
theorem dX12_work_10 : decode cX12_work 10 = .ok (.istore_n 1, 1) := by decide +kernel
theorem dX12_work_11 : decode cX12_work 11 = .ok (.iload_n 1, 1) := by decide +kernel
theorem dX12_work_12 : decode cX12_work 12 = .ok (.ifCond .lt 162, 3) := by decide +kernel
theorem dX12_work_15 : decode cX12_work 15 = .ok (.aload_n 0, 1) := by decide +kernel
theorem dX12_work_16 : decode cX12_work 16 = .ok (.getfield 22, 3) := by decide +kernel
theorem dX12_work_19 : decode cX12_work 19 = .ok (.iload_n 1, 1) := by decide +kernel
theorem dX12_work_20 : decode cX12_work 20 = .ok (.iaload, 1) := by decide +kernel
theorem dX12_work_21 : decode cX12_work 21 = .ok (.invokestatic 170, 3) := by decide +kernel
theorem dX12_work_24 : decode cX12_work 24 = .ok (.ifCond .eq 103, 3) := by decide +kernel
theorem dX12_work_27 : decode cX12_work 27 = .ok (.aload_n 0, 1) := by decide +kernel
theorem dX12_work_28 : decode cX12_work 28 = .ok (.getfield 28, 3) := by decide +kernel
theorem dX12_work_31 : decode cX12_work 31 = .ok (.iload_n 1, 1) := by decide +kernel
theorem dX12_work_32 : decode cX12_work 32 = .ok (.iconst 1, 1) := by decide +kernel
theorem dX12_work_33 : decode cX12_work 33 = .ok (.iadd, 1) := by decide +kernel
theorem dX12_work_34 : decode cX12_work 34 = .ok (.laload, 1) := by decide +kernel
theorem dX12_work_35 : decode cX12_work 35 = .ok (.lstore_n 2, 1) := by decide +kernel
theorem dX12_work_36 : decode cX12_work 36 = .ok (.aload_n 0, 1) := by decide +kernel
theorem dX12_work_37 : decode cX12_work 37 = .ok (.getfield 28, 3) := by decide +kernel
theorem dX12_work_40 : decode cX12_work 40 = .ok (.iload_n 1, 1) := by decide +kernel
theorem dX12_work_41 : decode cX12_work 41 = .ok (.iconst 1, 1) := by decide +kernel
theorem dX12_work_42 : decode cX12_work 42 = .ok (.iadd, 1) := by decide +kernel
theorem dX12_work_43 : decode cX12_work 43 = .ok (.aload_n 0, 1) := by decide +kernel
theorem dX12_work_44 : decode cX12_work 44 = .ok (.getfield 25, 3) := by decide +kernel
theorem dX12_work_47 : decode cX12_work 47 = .ok (.iload_n 1, 1) := by decide +kernel
theorem dX12_work_48 : decode cX12_work 48 = .ok (.iconst 1, 1) := by decide +kernel
theorem dX12_work_49 : decode cX12_work 49 = .ok (.iadd, 1) := by decide +kernel
theorem dX12_work_50 : decode cX12_work 50 = .ok (.iaload, 1) := by decide +kernel
theorem dX12_work_51 : decode cX12_work 51 = .ok (.iadd, 1) := by decide +kernel
theorem dX12_work_52 : decode cX12_work 52 = .ok (.laload, 1) := by decide +kernel
theorem dX12_work_53 : decode cX12_work 53 = .ok (.lstore 4, 2) := by decide +kernel
theorem dX12_work_55 : decode cX12_work 55 = .ok (.aload_n 0, 1) := by decide +kernel
theorem dX12_work_56 : decode cX12_work 56 = .ok (.getfield 28, 3) := by decide +kernel
theorem dX12_work_59 : decode cX12_work 59 = .ok (.iload_n 1, 1) := by decide +kernel
theorem dX12_work_60 : decode cX12_work 60 = .ok (.aload_n 0, 1) := by decide +kernel
theorem dX12_work_61 : decode cX12_work 61 = .ok (.aload_n 0, 1) := by decide +kernel
theorem dX12_work_62 : decode cX12_work 62 = .ok (.getfield 22, 3) := by decide +kernel
theorem dX12_work_65 : decode cX12_work 65 = .ok (.iload_n 1, 1) := by decide +kernel
theorem dX12_work_66 : decode cX12_work 66 = .ok (.iaload, 1) := by decide +kernel
theorem dX12_work_67 : decode cX12_work 67 = .ok (.lload_n 2, 1) := by decide +kernel
theorem dX12_work_68 : decode cX12_work 68 = .ok (.lload 4, 2) := by decide +kernel
theorem dX12_work_70 : decode cX12_work 70 = .ok (.aload_n 0, 1) := by decide +kernel
theorem dX12_work_71 : decode cX12_work 71 = .ok (.getfield 142, 3) := by decide +kernel
theorem dX12_work_74 : decode cX12_work 74 = .ok (.iconst 0, 1) := by decide +kernel
theorem dX12_work_75 : decode cX12_work 75 = .ok (.invokevirtual 198, 3) := by decide +kernel
theorem dX12_work_78 : decode cX12_work 78 = .ok (.lastore, 1) := by decide +kernel
theorem dX12_work_79 : decode cX12_work 79 = .ok (.aload_n 0, 1) := by decide +kernel
theorem dX12_work_80 : decode cX12_work 80 = .ok (.getfield 32, 3) := by decide +kernel
theorem dX12_work_83 : decode cX12_work 83 = .ok (.iload_n 1, 1) := by decide +kernel
theorem dX12_work_84 : decode cX12_work 84 = .ok (.aload_n 0, 1) := by decide +kernel
theorem dX12_work_85 : decode cX12_work 85 = .ok (.getfield 28, 3) := by decide +kernel
theorem dX12_work_88 : decode cX12_work 88 = .ok (.iload_n 1, 1) := by decide +kernel
theorem dX12_work_89 : decode cX12_work 89 = .ok (.laload, 1) := by decide +kernel
theorem dX12_work_90 : decode cX12_work 90 = .ok (.ldc2_w 94, 3) := by decide +kernel
theorem dX12_work_93 : decode cX12_work 93 = .ok (.lcmp, 1) := by decide +kernel
theorem dX12_work_94 : decode cX12_work 94 = .ok (.ifCond .ne 9, 3) := by decide +kernel
theorem dX12_work_97 : decode cX12_work 97 = .ok (.ldc2_w 94, 3) := by decide +kernel
theorem dX12_work_100 : decode cX12_work 100 = .ok (.goto 23, 3) := by decide +kernel
theorem dX12_work_103 : decode cX12_work 103 = .ok (.aload_n 0, 1) := by decide +kernel
theorem dX12_work_104 : decode cX12_work 104 = .ok (.getfield 28, 3) := by decide +kernel
theorem dX12_work_107 : decode cX12_work 107 = .ok (.iload_n 1, 1) := by decide +kernel
theorem dX12_work_108 : decode cX12_work 108 = .ok (.laload, 1) := by decide +kernel
theorem dX12_work_109 : decode cX12_work 109 = .ok (.aload_n 0, 1) := by decide +kernel
theorem dX12_work_110 : decode cX12_work 110 = .ok (.aload_n 0, 1) := by decide +kernel
theorem dX12_work_111 : decode cX12_work 111 = .ok (.getfield 22, 3) := by decide +kernel
theorem dX12_work_114 : decode cX12_work 114 = .ok (.iload_n 1, 1) := by decide +kernel
theorem dX12_work_115 : decode cX12_work 115 = .ok (.iaload, 1) := by decide +kernel
theorem dX12_work_116 : decode cX12_work 116 = .ok (.lload_n 2, 1) := by decide +kernel
theorem dX12_work_117 : decode cX12_work 117 = .ok (.lload 4, 2) := by decide +kernel
theorem dX12_work_119 : decode cX12_work 119 = .ok (.invokevirtual 202, 3) := by decide +kernel
theorem dX12_work_122 : decode cX12_work 122 = .ok (.lsub, 1) := by decide +kernel
theorem dX12_work_123 : decode cX12_work 123 = .ok (.lastore, 1) := by decide +kernel
theorem dX12_work_124 : decode cX12_work 124 = .ok (.goto 44, 3) := by decide +kernel
theorem dX12_work_127 : decode cX12_work 127 = .ok (.ldc2_w 206, 3) := by decide +kernel
theorem dX12_work_130 : decode cX12_work 130 = .ok (.aload_n 0, 1) := by decide +kernel
theorem dX12_work_131 : decode cX12_work 131 = .ok (.iload_n 1, 1) := by decide +kernel
theorem dX12_work_132 : decode cX12_work 132 = .ok (.invokevirtual 208, 3) := by decide +kernel
theorem dX12_work_135 : decode cX12_work 135 = .ok (.i2l, 1) := by decide +kernel
theorem dX12_work_136 : decode cX12_work 136 = .ok (.lmul, 1) := by decide +kernel
theorem dX12_work_137 : decode cX12_work 137 = .ok (.lstore_n 2, 1) := by decide +kernel
theorem dX12_work_138 : decode cX12_work 138 = .ok (.aload_n 0, 1) := by decide +kernel
theorem dX12_work_139 : decode cX12_work 139 = .ok (.getfield 28, 3) := by decide +kernel
theorem dX12_work_142 : decode cX12_work 142 = .ok (.iload_n 1, 1) := by decide +kernel
theorem dX12_work_143 : decode cX12_work 143 = .ok (.aload_n 0, 1) := by decide +kernel
theorem dX12_work_144 : decode cX12_work 144 = .ok (.lload_n 2, 1) := by decide +kernel
theorem dX12_work_145 : decode cX12_work 145 = .ok (.aload_n 0, 1) := by decide +kernel
theorem dX12_work_146 : decode cX12_work 146 = .ok (.getfield 142, 3) := by decide +kernel
theorem dX12_work_149 : decode cX12_work 149 = .ok (.iconst 0, 1) := by decide +kernel
theorem dX12_work_150 : decode cX12_work 150 = .ok (.invokevirtual 126, 3) := by decide +kernel
theorem dX12_work_153 : decode cX12_work 153 = .ok (.lastore, 1) := by decide +kernel
theorem dX12_work_154 : decode cX12_work 154 = .ok (.aload_n 0, 1) := by decide +kernel
theorem dX12_work_155 : decode cX12_work 155 = .ok (.getfield 32, 3) := by decide +kernel
theorem dX12_work_158 : decode cX12_work 158 = .ok (.iload_n 1, 1) := by decide +kernel
theorem dX12_work_159 : decode cX12_work 159 = .ok (.aload_n 0, 1) := by decide +kernel
theorem dX12_work_160 : decode cX12_work 160 = .ok (.getfield 28, 3) := by decide +kernel
theorem dX12_work_163 : decode cX12_work 163 = .ok (.iload_n 1, 1) := by decide +kernel
theorem dX12_work_164 : decode cX12_work 164 = .ok (.laload, 1) := by decide +kernel
theorem dX12_work_165 : decode cX12_work 165 = .ok (.lload_n 2, 1) := by decide +kernel
theorem dX12_work_166 : decode cX12_work 166 = .ok (.lsub, 1) := by decide +kernel
theorem dX12_work_167 : decode cX12_work 167 = .ok (.lastore, 1) := by decide +kernel
theorem dX12_work_168 : decode cX12_work 168 = .ok (.iinc 1 (-1), 3) := by decide +kernel
theorem dX12_work_171 : decode cX12_work 171 = .ok (.goto (-160), 3) := by decide +kernel
theorem dX12_work_174 : decode cX12_work 174 = .ok (.return_, 1) := by decide +kernel
set_option maxRecDepth 10000 in
theorem NX12_work_0 {d : Nat} {S : fW} {h : fH} {Q : fH → Prop} {r0 : Nat} {r0_pad r0_text r0_number r0_span r0_now r0_sizeOf r0_workedTo r0_slip r0_exactUpper r0_exactLower r0_more r0_terms r0_order r0_bestOrder r0_low r0_high r0_built r0_better r0_base r0_kept r0_isKept : Nat}  
    (hs1 : (r0, shX12 r0_pad r0_text r0_number r0_span r0_now r0_sizeOf r0_workedTo r0_slip r0_exactUpper r0_exactLower r0_more r0_terms r0_order r0_bestOrder r0_low r0_high r0_built r0_better r0_base r0_kept r0_isKept) ∈ S)
    (w : ∃ Q1 : fH → Prop, OkV d mX12_findSizes S [.ref r0] h Q1 ∧ ∀ (h_1 : fH), Q1 h_1 → G mX12_work (d + 1) S (f_PV Q) 11 [(0, .ref r0), (1, .int ((h_1.1 r0 14) - (1 : Int32)))] [] h_1) :
    OkV (d + 1) mX12_work S [.ref r0] h Q := by
  refine Ok.of (by decide) (Nat.le_of_ble_eq_true rfl) ?_
  refine G_aload_n 0 rfl dX12_work_0 rfl ?_
  obtain ⟨Q1, ok1, w⟩ := w
  refine G_callV (Z := mX12_findSizes) (As := []) (st := []) hL_X12_195 hI_X12_findSizes hS_X12_findSizes hC_X12_findSizes hN_X12 nX12_findSizes (by decide) hs1 rfl rfl rfl (Nat.le_of_ble_eq_true rfl) dX12_work_1 ok1 (fun r_ h_1 z_ => ?_)
  obtain ⟨rfl, q_1⟩ := z_
  have w := w h_1 q_1
  refine G_aload_n 0 rfl dX12_work_4 rfl ?_
  refine G_geti (k := 14) hs1 (q := (RX12, TX12, 40)) rfl inX12 (by decide) (Or.inl rfl) hF_X12_192 dX12_work_5 ?_
  refine G_iconst (v := 1) dX12_work_8 (by decide) ?_
  refine G_isub dX12_work_9 ?_
  refine G_istore_n dX12_work_10 rfl (by decide) (lv' := [(1, .int ((h_1.1 r0 14) - (1 : Int32))), (0, .ref r0)]) rfl ?_
  exact G_sub [1, 0] rfl w

set_option maxRecDepth 10000 in
theorem NX12_work_11 {d : Nat} {S : fW} {h : fH} {Q : fH → Prop} {r0 : Nat} {x1 : Int32} {r0_pad r0_text r0_number r0_span r0_now r0_sizeOf r0_workedTo r0_slip r0_exactUpper r0_exactLower r0_more r0_terms r0_order r0_bestOrder r0_low r0_high r0_built r0_better r0_base r0_kept r0_isKept : Nat}  
    (hs1 : (r0, shX12 r0_pad r0_text r0_number r0_span r0_now r0_sizeOf r0_workedTo r0_slip r0_exactUpper r0_exactLower r0_more r0_terms r0_order r0_bestOrder r0_low r0_high r0_built r0_better r0_base r0_kept r0_isKept) ∈ S)
    (hs2 : (r0_now, shI 13) ∈ S)
    (hs3 : (r0_workedTo, shJ 13) ∈ S)
    (hs4 : (r0_slip, shJ 13) ∈ S)
    (hs5 : (r0_sizeOf, shI 13) ∈ S)
    (w : ((x1 < 0 → Q h) ∧ (¬ x1 < 0 → vp_in x1 13 ∧ ∃ Q1 : Int32 → fH → Prop, OkI d mX12_isSign S [.int (h.2.2.1 r0_now x1.toNatClampNeg)] h Q1 ∧ ∀ (v_1 : Int32) (h_1 : fH), Q1 v_1 h_1 → ((v_1 = 0 → ∃ Q2 : Int32 → fH → Prop, OkI d mX12_wholeAt S [.ref r0, .int x1] h_1 Q2 ∧ ∀ (v_2 : Int32) (h_2 : fH), Q2 v_2 h_2 → ∃ Q3 : Int64 → fH → Prop, OkL d mX12_roundOf S [.ref r0, .long ((1000000000 : Int64) * v_2.toInt64), .int (h_2.1 r0 1), .int (0 : Int32)] h_2 Q3 ∧ ∀ (v_3 : Int64) (h_3 : fH), Q3 v_3 h_3 → ∀ g_1 : fH, g_1 = u_al h_3 r0_workedTo (vp_updL (h_3.2.2.2 r0_workedTo) x1.toNatClampNeg v_3) → ∀ g_2 : fH, g_2 = u_al g_1 r0_slip (vp_updL (g_1.2.2.2 r0_slip) x1.toNatClampNeg ((g_1.2.2.2 r0_workedTo x1.toNatClampNeg) - ((1000000000 : Int64) * v_2.toInt64))) → G mX12_work (d + 1) S (f_PV Q) 11 [(0, .ref r0), (1, .int (x1 + (-1)))] [] g_2) ∧ (¬ v_1 = 0 → vp_in (x1 + (1 : Int32)) 13 ∧ vp_in ((x1 + (1 : Int32)) + (h_1.2.2.1 r0_sizeOf (x1 + (1 : Int32)).toNatClampNeg)) 13 ∧ ∃ Q4 : Int64 → fH → Prop, OkL d mX12_made S [.ref r0, .int (h_1.2.2.1 r0_now x1.toNatClampNeg), .long (h_1.2.2.2 r0_workedTo (x1 + (1 : Int32)).toNatClampNeg), .long (h_1.2.2.2 r0_workedTo ((x1 + (1 : Int32)) + (h_1.2.2.1 r0_sizeOf (x1 + (1 : Int32)).toNatClampNeg)).toNatClampNeg), .int (h_1.1 r0 1), .int (0 : Int32)] h_1 Q4 ∧ ∀ (v_4 : Int64) (h_4 : fH), Q4 v_4 h_4 → ∀ g_3 : fH, g_3 = u_al h_4 r0_workedTo (vp_updL (h_4.2.2.2 r0_workedTo) x1.toNatClampNeg v_4) → ((¬ (g_3.2.2.2 r0_workedTo x1.toNatClampNeg) = (1000000000000000000 : Int64) → ∃ Q5 : Int64 → fH → Prop, OkL d mX12_whole S [.ref r0, .int (g_3.2.2.1 r0_now x1.toNatClampNeg), .long (h_1.2.2.2 r0_workedTo (x1 + (1 : Int32)).toNatClampNeg), .long (h_1.2.2.2 r0_workedTo ((x1 + (1 : Int32)) + (h_1.2.2.1 r0_sizeOf (x1 + (1 : Int32)).toNatClampNeg)).toNatClampNeg)] g_3 Q5 ∧ ∀ (v_5 : Int64) (h_5 : fH), Q5 v_5 h_5 → ∀ g_4 : fH, g_4 = u_al h_5 r0_slip (vp_updL (h_5.2.2.2 r0_slip) x1.toNatClampNeg ((g_3.2.2.2 r0_workedTo x1.toNatClampNeg) - v_5)) → G mX12_work (d + 1) S (f_PV Q) 11 [(0, .ref r0), (1, .int (x1 + (-1)))] [] g_4) ∧ ((g_3.2.2.2 r0_workedTo x1.toNatClampNeg) = (1000000000000000000 : Int64) → ∀ g_5 : fH, g_5 = u_al g_3 r0_slip (vp_updL (g_3.2.2.2 r0_slip) x1.toNatClampNeg (1000000000000000000 : Int64)) → G mX12_work (d + 1) S (f_PV Q) 11 [(0, .ref r0), (1, .int (x1 + (-1)))] [] g_5))))))) :
    G mX12_work (d + 1) S (f_PV Q) 11 [(0, .ref r0), (1, .int x1)] [] h := by
  refine G_iload_n 1 rfl dX12_work_11 rfl ?_
  refine G_if_lt (tgt := 174) dX12_work_12 (by decide) (fun c1 => ?_) (fun c1 => ?_)
  · have w := w.1 c1
    exact G_vret rfl dX12_work_174 ⟨rfl, w⟩
  · have w := w.2 c1
    refine G_aload_n 0 rfl dX12_work_15 rfl ?_
    refine G_getr (j := r0_now) (k := 13) hs1 (q := (RX12, TX12, 40)) rfl inX12 (by decide) rfl hF_X12_22 dX12_work_16 ?_
    refine G_iload_n 1 rfl dX12_work_19 rfl ?_
    obtain ⟨sd1, w⟩ := w
    refine G_iald hs2 sd1 dX12_work_20 ?_
    obtain ⟨Q1, ok1, w⟩ := w
    refine G_callS (Z := mX12_isSign) (As := [.int (h.2.2.1 r0_now x1.toNatClampNeg)]) (st := []) hL_X12_170 hT_X12_isSign hC_X12_isSign hN_X12 nX12_isSign (by decide) rfl (Nat.le_of_ble_eq_true rfl) dX12_work_21 ok1 (fun r_ h_1 z_ => ?_)
    obtain ⟨v_1, rfl, q_1⟩ := z_
    have w := w v_1 h_1 q_1
    refine G_if_eq (tgt := 127) dX12_work_24 (by decide) (fun c2 => ?_) (fun c2 => ?_)
    · have w := w.1 c2
      refine G_ldc2 hK_X12_206 dX12_work_127 ?_
      refine G_aload_n 0 rfl dX12_work_130 rfl ?_
      refine G_iload_n 1 rfl dX12_work_131 rfl ?_
      obtain ⟨Q2, ok2, w⟩ := w
      refine G_callV (Z := mX12_wholeAt) (As := [.int x1]) (st := [.long (1000000000 : Int64)]) hL_X12_208 hI_X12_wholeAt hS_X12_wholeAt hC_X12_wholeAt hN_X12 nX12_wholeAt (by decide) hs1 rfl rfl rfl (Nat.le_of_ble_eq_true rfl) dX12_work_132 ok2 (fun r_ h_2 z_ => ?_)
      obtain ⟨v_2, rfl, q_2⟩ := z_
      have w := w v_2 h_2 q_2
      refine G_i2l dX12_work_135 ?_
      refine G_lmul dX12_work_136 ?_
      refine G_lstore_n dX12_work_137 rfl (by decide) (lv' := [(2, .long ((1000000000 : Int64) * v_2.toInt64)), (0, .ref r0), (1, .int x1)]) rfl ?_
      refine G_aload_n 1 rfl dX12_work_138 rfl ?_
      refine G_getr (j := r0_workedTo) (k := 16) hs1 (q := (RX12, TX12, 40)) rfl inX12 (by decide) rfl hF_X12_28 dX12_work_139 ?_
      refine G_iload_n 2 rfl dX12_work_142 rfl ?_
      refine G_aload_n 1 rfl dX12_work_143 rfl ?_
      refine G_lload_n 0 rfl dX12_work_144 rfl ?_
      refine G_aload_n 1 rfl dX12_work_145 rfl ?_
      refine G_geti (k := 1) hs1 (q := (RX12, TX12, 40)) rfl inX12 (by decide) (Or.inl rfl) hF_X12_142 dX12_work_146 ?_
      refine G_iconst (v := 0) dX12_work_149 (by decide) ?_
      obtain ⟨Q3, ok3, w⟩ := w
      refine G_callV (Z := mX12_roundOf) (As := [.long ((1000000000 : Int64) * v_2.toInt64), .int (h_2.1 r0 1), .int (0 : Int32)]) (st := [.int x1, .ref r0_workedTo]) hL_X12_126 hI_X12_roundOf hS_X12_roundOf hC_X12_roundOf hN_X12 nX12_roundOf (by decide) hs1 rfl rfl rfl (Nat.le_of_ble_eq_true rfl) dX12_work_150 ok3 (fun r_ h_3 z_ => ?_)
      obtain ⟨v_3, rfl, q_3⟩ := z_
      have w := w v_3 h_3 q_3
      refine G_last hs3 sd1 dX12_work_153 ?_
      refine G_nm (fun g_1 e_1 => ?_)
      have w := w g_1 e_1
      refine G_aload_n 1 rfl dX12_work_154 rfl ?_
      refine G_getr (j := r0_slip) (k := 17) hs1 (q := (RX12, TX12, 40)) rfl inX12 (by decide) rfl hF_X12_32 dX12_work_155 ?_
      refine G_iload_n 2 rfl dX12_work_158 rfl ?_
      refine G_aload_n 1 rfl dX12_work_159 rfl ?_
      refine G_getr (j := r0_workedTo) (k := 16) hs1 (q := (RX12, TX12, 40)) rfl inX12 (by decide) rfl hF_X12_28 dX12_work_160 ?_
      refine G_iload_n 2 rfl dX12_work_163 rfl ?_
      refine G_lald hs3 sd1 dX12_work_164 ?_
      refine G_lload_n 0 rfl dX12_work_165 rfl ?_
      refine G_lsub dX12_work_166 ?_
      refine G_last hs4 sd1 dX12_work_167 ?_
      refine G_nm (fun g_2 e_2 => ?_)
      have w := w g_2 e_2
      refine G_iinc (v := -1) 2 rfl dX12_work_168 (by decide) (by decide) (lv' := [(1, .int (x1 + (-1))), (2, .long ((1000000000 : Int64) * v_2.toInt64)), (0, .ref r0)]) rfl ?_
      refine G_goto (tgt := 11) dX12_work_171 (by decide) ?_
      exact G_sub [2, 0] rfl w
    · have w := w.2 c2
      refine G_aload_n 0 rfl dX12_work_27 rfl ?_
      refine G_getr (j := r0_workedTo) (k := 16) hs1 (q := (RX12, TX12, 40)) rfl inX12 (by decide) rfl hF_X12_28 dX12_work_28 ?_
      refine G_iload_n 1 rfl dX12_work_31 rfl ?_
      refine G_iconst (v := 1) dX12_work_32 (by decide) ?_
      refine G_iadd dX12_work_33 ?_
      obtain ⟨sd2, w⟩ := w
      refine G_lald hs3 sd2 dX12_work_34 ?_
      refine G_lstore_n dX12_work_35 rfl (by decide) (lv' := [(2, .long (h_1.2.2.2 r0_workedTo (x1 + (1 : Int32)).toNatClampNeg)), (0, .ref r0), (1, .int x1)]) rfl ?_
      refine G_aload_n 1 rfl dX12_work_36 rfl ?_
      refine G_getr (j := r0_workedTo) (k := 16) hs1 (q := (RX12, TX12, 40)) rfl inX12 (by decide) rfl hF_X12_28 dX12_work_37 ?_
      refine G_iload_n 2 rfl dX12_work_40 rfl ?_
      refine G_iconst (v := 1) dX12_work_41 (by decide) ?_
      refine G_iadd dX12_work_42 ?_
      refine G_aload_n 1 rfl dX12_work_43 rfl ?_
      refine G_getr (j := r0_sizeOf) (k := 15) hs1 (q := (RX12, TX12, 40)) rfl inX12 (by decide) rfl hF_X12_25 dX12_work_44 ?_
      refine G_iload_n 2 rfl dX12_work_47 rfl ?_
      refine G_iconst (v := 1) dX12_work_48 (by decide) ?_
      refine G_iadd dX12_work_49 ?_
      refine G_iald hs5 sd2 dX12_work_50 ?_
      refine G_iadd dX12_work_51 ?_
      obtain ⟨sd3, w⟩ := w
      refine G_lald hs3 sd3 dX12_work_52 ?_
      refine G_lstore dX12_work_53 (by decide) (lv' := [(4, .long (h_1.2.2.2 r0_workedTo ((x1 + (1 : Int32)) + (h_1.2.2.1 r0_sizeOf (x1 + (1 : Int32)).toNatClampNeg)).toNatClampNeg)), (2, .long (h_1.2.2.2 r0_workedTo (x1 + (1 : Int32)).toNatClampNeg)), (0, .ref r0), (1, .int x1)]) rfl ?_
      refine G_aload_n 2 rfl dX12_work_55 rfl ?_
      refine G_getr (j := r0_workedTo) (k := 16) hs1 (q := (RX12, TX12, 40)) rfl inX12 (by decide) rfl hF_X12_28 dX12_work_56 ?_
      refine G_iload_n 3 rfl dX12_work_59 rfl ?_
      refine G_aload_n 2 rfl dX12_work_60 rfl ?_
      refine G_aload_n 2 rfl dX12_work_61 rfl ?_
      refine G_getr (j := r0_now) (k := 13) hs1 (q := (RX12, TX12, 40)) rfl inX12 (by decide) rfl hF_X12_22 dX12_work_62 ?_
      refine G_iload_n 3 rfl dX12_work_65 rfl ?_
      refine G_iald hs2 sd1 dX12_work_66 ?_
      refine G_lload_n 1 rfl dX12_work_67 rfl ?_
      refine G_lload 0 rfl dX12_work_68 ?_
      refine G_aload_n 2 rfl dX12_work_70 rfl ?_
      refine G_geti (k := 1) hs1 (q := (RX12, TX12, 40)) rfl inX12 (by decide) (Or.inl rfl) hF_X12_142 dX12_work_71 ?_
      refine G_iconst (v := 0) dX12_work_74 (by decide) ?_
      obtain ⟨Q4, ok4, w⟩ := w
      refine G_callV (Z := mX12_made) (As := [.int (h_1.2.2.1 r0_now x1.toNatClampNeg), .long (h_1.2.2.2 r0_workedTo (x1 + (1 : Int32)).toNatClampNeg), .long (h_1.2.2.2 r0_workedTo ((x1 + (1 : Int32)) + (h_1.2.2.1 r0_sizeOf (x1 + (1 : Int32)).toNatClampNeg)).toNatClampNeg), .int (h_1.1 r0 1), .int (0 : Int32)]) (st := [.int x1, .ref r0_workedTo]) hL_X12_198 hI_X12_made hS_X12_made hC_X12_made hN_X12 nX12_made (by decide) hs1 rfl rfl rfl (Nat.le_of_ble_eq_true rfl) dX12_work_75 ok4 (fun r_ h_4 z_ => ?_)
      obtain ⟨v_4, rfl, q_4⟩ := z_
      have w := w v_4 h_4 q_4
      refine G_last hs3 sd1 dX12_work_78 ?_
      refine G_nm (fun g_3 e_3 => ?_)
      have w := w g_3 e_3
      refine G_aload_n 2 rfl dX12_work_79 rfl ?_
      refine G_getr (j := r0_slip) (k := 17) hs1 (q := (RX12, TX12, 40)) rfl inX12 (by decide) rfl hF_X12_32 dX12_work_80 ?_
      refine G_iload_n 3 rfl dX12_work_83 rfl ?_
      refine G_aload_n 2 rfl dX12_work_84 rfl ?_
      refine G_getr (j := r0_workedTo) (k := 16) hs1 (q := (RX12, TX12, 40)) rfl inX12 (by decide) rfl hF_X12_28 dX12_work_85 ?_
      refine G_iload_n 3 rfl dX12_work_88 rfl ?_
      refine G_lald hs3 sd1 dX12_work_89 ?_
      refine G_ldc2 hK_X12_94 dX12_work_90 ?_
      refine G_lif_ne (tgt := 103) dX12_work_93 dX12_work_94 (by decide) (fun c3 => ?_) (fun c3 => ?_)
      · have w := w.1 c3
        refine G_aload_n 2 rfl dX12_work_103 rfl ?_
        refine G_getr (j := r0_workedTo) (k := 16) hs1 (q := (RX12, TX12, 40)) rfl inX12 (by decide) rfl hF_X12_28 dX12_work_104 ?_
        refine G_iload_n 3 rfl dX12_work_107 rfl ?_
        refine G_lald hs3 sd1 dX12_work_108 ?_
        refine G_aload_n 2 rfl dX12_work_109 rfl ?_
        refine G_aload_n 2 rfl dX12_work_110 rfl ?_
        refine G_getr (j := r0_now) (k := 13) hs1 (q := (RX12, TX12, 40)) rfl inX12 (by decide) rfl hF_X12_22 dX12_work_111 ?_
        refine G_iload_n 3 rfl dX12_work_114 rfl ?_
        refine G_iald hs2 sd1 dX12_work_115 ?_
        refine G_lload_n 1 rfl dX12_work_116 rfl ?_
        refine G_lload 0 rfl dX12_work_117 ?_
        obtain ⟨Q5, ok5, w⟩ := w
        refine G_callV (Z := mX12_whole) (As := [.int (g_3.2.2.1 r0_now x1.toNatClampNeg), .long (h_1.2.2.2 r0_workedTo (x1 + (1 : Int32)).toNatClampNeg), .long (h_1.2.2.2 r0_workedTo ((x1 + (1 : Int32)) + (h_1.2.2.1 r0_sizeOf (x1 + (1 : Int32)).toNatClampNeg)).toNatClampNeg)]) (st := [.long (g_3.2.2.2 r0_workedTo x1.toNatClampNeg), .int x1, .ref r0_slip]) hL_X12_202 hI_X12_whole hS_X12_whole hC_X12_whole hN_X12 nX12_whole (by decide) hs1 rfl rfl rfl (Nat.le_of_ble_eq_true rfl) dX12_work_119 ok5 (fun r_ h_5 z_ => ?_)
        obtain ⟨v_5, rfl, q_5⟩ := z_
        have w := w v_5 h_5 q_5
        refine G_lsub dX12_work_122 ?_
        refine G_last hs4 sd1 dX12_work_123 ?_
        refine G_nm (fun g_4 e_4 => ?_)
        have w := w g_4 e_4
        refine G_goto (tgt := 168) dX12_work_124 (by decide) ?_
        refine G_iinc (v := -1) 3 rfl dX12_work_168 (by decide) (by decide) (lv' := [(1, .int (x1 + (-1))), (4, .long (h_1.2.2.2 r0_workedTo ((x1 + (1 : Int32)) + (h_1.2.2.1 r0_sizeOf (x1 + (1 : Int32)).toNatClampNeg)).toNatClampNeg)), (2, .long (h_1.2.2.2 r0_workedTo (x1 + (1 : Int32)).toNatClampNeg)), (0, .ref r0)]) rfl ?_
        refine G_goto (tgt := 11) dX12_work_171 (by decide) ?_
        exact G_sub [3, 0] rfl w
      · have w := w.2 c3
        refine G_ldc2 hK_X12_94 dX12_work_97 ?_
        refine G_goto (tgt := 123) dX12_work_100 (by decide) ?_
        refine G_last hs4 sd1 dX12_work_123 ?_
        refine G_nm (fun g_5 e_5 => ?_)
        have w := w g_5 e_5
        refine G_goto (tgt := 168) dX12_work_124 (by decide) ?_
        refine G_iinc (v := -1) 3 rfl dX12_work_168 (by decide) (by decide) (lv' := [(1, .int (x1 + (-1))), (4, .long (h_1.2.2.2 r0_workedTo ((x1 + (1 : Int32)) + (h_1.2.2.1 r0_sizeOf (x1 + (1 : Int32)).toNatClampNeg)).toNatClampNeg)), (2, .long (h_1.2.2.2 r0_workedTo (x1 + (1 : Int32)).toNatClampNeg)), (0, .ref r0)]) rfl ?_
        refine G_goto (tgt := 11) dX12_work_171 (by decide) ?_
        exact G_sub [3, 0] rfl w
-- LostDigitsModel.common
theorem dX12_common_0 : decode cX12_common 0 = .ok (.lload_n 0, 1) := by decide +kernel
theorem dX12_common_1 : decode cX12_common 1 = .ok (.invokestatic 98, 3) := by decide +kernel
theorem dX12_common_4 : decode cX12_common 4 = .ok (.lstore 4, 2) := by decide +kernel
theorem dX12_common_6 : decode cX12_common 6 = .ok (.lload_n 2, 1) := by decide +kernel
theorem dX12_common_7 : decode cX12_common 7 = .ok (.invokestatic 98, 3) := by decide +kernel
theorem dX12_common_10 : decode cX12_common 10 = .ok (.lstore 6, 2) := by decide +kernel
theorem dX12_common_12 : decode cX12_common 12 = .ok (.lload 6, 2) := by decide +kernel
theorem dX12_common_14 : decode cX12_common 14 = .ok (.lconst 0, 1) := by decide +kernel
theorem dX12_common_15 : decode cX12_common 15 = .ok (.lcmp, 1) := by decide +kernel
theorem dX12_common_16 : decode cX12_common 16 = .ok (.ifCond .eq 21, 3) := by decide +kernel
theorem dX12_common_19 : decode cX12_common 19 = .ok (.lload 4, 2) := by decide +kernel
theorem dX12_common_21 : decode cX12_common 21 = .ok (.lload 6, 2) := by decide +kernel
theorem dX12_common_23 : decode cX12_common 23 = .ok (.lrem, 1) := by decide +kernel
theorem dX12_common_24 : decode cX12_common 24 = .ok (.lstore 8, 2) := by decide +kernel
theorem dX12_common_26 : decode cX12_common 26 = .ok (.lload 6, 2) := by decide +kernel
theorem dX12_common_28 : decode cX12_common 28 = .ok (.lstore 4, 2) := by decide +kernel
theorem dX12_common_30 : decode cX12_common 30 = .ok (.lload 8, 2) := by decide +kernel
theorem dX12_common_32 : decode cX12_common 32 = .ok (.lstore 6, 2) := by decide +kernel
theorem dX12_common_34 : decode cX12_common 34 = .ok (.goto (-22), 3) := by decide +kernel
theorem dX12_common_37 : decode cX12_common 37 = .ok (.lload 4, 2) := by decide +kernel
theorem dX12_common_39 : decode cX12_common 39 = .ok (.lreturn, 1) := by decide +kernel
set_option maxRecDepth 10000 in
theorem NX12_common_0 {d : Nat} {S : fW} {h : fH} {Q : Int64 → fH → Prop} {x0 : Int64} {x2 : Int64}  
    (w : ∃ Q1 : Int64 → fH → Prop, OkL d mX12_size S [.long x0] h Q1 ∧ ∀ (v_1 : Int64) (h_1 : fH), Q1 v_1 h_1 → ∃ Q2 : Int64 → fH → Prop, OkL d mX12_size S [.long x2] h_1 Q2 ∧ ∀ (v_2 : Int64) (h_2 : fH), Q2 v_2 h_2 → G mX12_common (d + 1) S (f_PL Q) 12 [(4, .long v_1), (6, .long v_2)] [] h_2) :
    OkL (d + 1) mX12_common S [.long x0, .long x2] h Q := by
  refine Ok.of (by decide) (Nat.le_of_ble_eq_true rfl) ?_
  refine G_lload_n 0 rfl dX12_common_0 rfl ?_
  obtain ⟨Q1, ok1, w⟩ := w
  refine G_callS (Z := mX12_size) (As := [.long x0]) (st := []) hL_X12_98 hT_X12_size hC_X12_size hN_X12 nX12_size (by decide) rfl (Nat.le_of_ble_eq_true rfl) dX12_common_1 ok1 (fun r_ h_1 z_ => ?_)
  obtain ⟨v_1, rfl, q_1⟩ := z_
  have w := w v_1 h_1 q_1
  refine G_lstore dX12_common_4 (by decide) (lv' := [(4, .long v_1), (0, .long x0), (2, .long x2)]) rfl ?_
  refine G_lload_n 2 rfl dX12_common_6 rfl ?_
  obtain ⟨Q2, ok2, w⟩ := w
  refine G_callS (Z := mX12_size) (As := [.long x2]) (st := []) hL_X12_98 hT_X12_size hC_X12_size hN_X12 nX12_size (by decide) rfl (Nat.le_of_ble_eq_true rfl) dX12_common_7 ok2 (fun r_ h_2 z_ => ?_)
  obtain ⟨v_2, rfl, q_2⟩ := z_
  have w := w v_2 h_2 q_2
  refine G_lstore dX12_common_10 (by decide) (lv' := [(6, .long v_2), (4, .long v_1), (0, .long x0), (2, .long x2)]) rfl ?_
  exact G_sub [1, 0] rfl w

set_option maxRecDepth 10000 in
theorem NX12_common_12 {d : Nat} {S : fW} {h : fH} {Q : Int64 → fH → Prop} {x4 : Int64} {x6 : Int64}  
    (w : ((x6 = (0 : Int64) → Q x4 h) ∧ (¬ x6 = (0 : Int64) → ¬ x6 = 0 ∧ G mX12_common (d + 1) S (f_PL Q) 12 [(4, .long x6), (6, .long (x4 - x4 / x6 * x6))] [] h))) :
    G mX12_common (d + 1) S (f_PL Q) 12 [(4, .long x4), (6, .long x6)] [] h := by
  refine G_lload 1 rfl dX12_common_12 ?_
  refine G_lconst (v := 0) dX12_common_14 (by decide) ?_
  refine G_lif_eq (tgt := 37) dX12_common_15 dX12_common_16 (by decide) (fun c1 => ?_) (fun c1 => ?_)
  · have w := w.1 c1
    refine G_lload 0 rfl dX12_common_37 ?_
    exact G_lret rfl dX12_common_39 ⟨_, rfl, w⟩
  · have w := w.2 c1
    refine G_lload 0 rfl dX12_common_19 ?_
    refine G_lload 1 rfl dX12_common_21 ?_
    obtain ⟨sd1, w⟩ := w
    refine G_lrem dX12_common_23 sd1 ?_
    refine G_lstore dX12_common_24 (by decide) (lv' := [(8, .long (x4 - x4 / x6 * x6)), (4, .long x4), (6, .long x6)]) rfl ?_
    refine G_lload 2 rfl dX12_common_26 ?_
    refine G_lstore dX12_common_28 (by decide) (lv' := [(4, .long x6), (8, .long (x4 - x4 / x6 * x6)), (6, .long x6)]) rfl ?_
    refine G_lload 1 rfl dX12_common_30 ?_
    refine G_lstore dX12_common_32 (by decide) (lv' := [(6, .long (x4 - x4 / x6 * x6)), (4, .long x6), (8, .long (x4 - x4 / x6 * x6))]) rfl ?_
    refine G_goto (tgt := 12) dX12_common_34 (by decide) ?_
    exact G_sub [1, 0] rfl w
-- LostDigitsModel.layExact
theorem dX12_layExact_0 : decode cX12_layExact 0 = .ok (.lload 4, 2) := by decide +kernel
theorem dX12_layExact_2 : decode cX12_layExact 2 = .ok (.lconst 0, 1) := by decide +kernel
theorem dX12_layExact_3 : decode cX12_layExact 3 = .ok (.lcmp, 1) := by decide +kernel
theorem dX12_layExact_4 : decode cX12_layExact 4 = .ok (.ifCond .ne 18, 3) := by decide +kernel
theorem dX12_layExact_7 : decode cX12_layExact 7 = .ok (.aload_n 0, 1) := by decide +kernel
theorem dX12_layExact_8 : decode cX12_layExact 8 = .ok (.getfield 35, 3) := by decide +kernel
theorem dX12_layExact_11 : decode cX12_layExact 11 = .ok (.iload_n 1, 1) := by decide +kernel
theorem dX12_layExact_12 : decode cX12_layExact 12 = .ok (.lconst 0, 1) := by decide +kernel
theorem dX12_layExact_13 : decode cX12_layExact 13 = .ok (.lastore, 1) := by decide +kernel
theorem dX12_layExact_14 : decode cX12_layExact 14 = .ok (.aload_n 0, 1) := by decide +kernel
theorem dX12_layExact_15 : decode cX12_layExact 15 = .ok (.getfield 38, 3) := by decide +kernel
theorem dX12_layExact_18 : decode cX12_layExact 18 = .ok (.iload_n 1, 1) := by decide +kernel
theorem dX12_layExact_19 : decode cX12_layExact 19 = .ok (.lconst 0, 1) := by decide +kernel
theorem dX12_layExact_20 : decode cX12_layExact 20 = .ok (.lastore, 1) := by decide +kernel
theorem dX12_layExact_21 : decode cX12_layExact 21 = .ok (.return_, 1) := by decide +kernel
theorem dX12_layExact_22 : decode cX12_layExact 22 = .ok (.lload_n 2, 1) := by decide +kernel
theorem dX12_layExact_23 : decode cX12_layExact 23 = .ok (.lload 4, 2) := by decide +kernel
theorem dX12_layExact_25 : decode cX12_layExact 25 = .ok (.invokestatic 212, 3) := by decide +kernel
theorem dX12_layExact_28 : decode cX12_layExact 28 = .ok (.lstore 6, 2) := by decide +kernel
theorem dX12_layExact_30 : decode cX12_layExact 30 = .ok (.lload 4, 2) := by decide +kernel
theorem dX12_layExact_32 : decode cX12_layExact 32 = .ok (.lconst 0, 1) := by decide +kernel
theorem dX12_layExact_33 : decode cX12_layExact 33 = .ok (.lcmp, 1) := by decide +kernel
theorem dX12_layExact_34 : decode cX12_layExact 34 = .ok (.ifCond .ge 9, 3) := by decide +kernel
theorem dX12_layExact_37 : decode cX12_layExact 37 = .ok (.lload 6, 2) := by decide +kernel
theorem dX12_layExact_39 : decode cX12_layExact 39 = .ok (.lneg, 1) := by decide +kernel
theorem dX12_layExact_40 : decode cX12_layExact 40 = .ok (.goto 5, 3) := by decide +kernel
theorem dX12_layExact_43 : decode cX12_layExact 43 = .ok (.lload 6, 2) := by decide +kernel
theorem dX12_layExact_45 : decode cX12_layExact 45 = .ok (.lstore 6, 2) := by decide +kernel
theorem dX12_layExact_47 : decode cX12_layExact 47 = .ok (.aload_n 0, 1) := by decide +kernel
theorem dX12_layExact_48 : decode cX12_layExact 48 = .ok (.getfield 35, 3) := by decide +kernel
theorem dX12_layExact_51 : decode cX12_layExact 51 = .ok (.iload_n 1, 1) := by decide +kernel
theorem dX12_layExact_52 : decode cX12_layExact 52 = .ok (.lload_n 2, 1) := by decide +kernel
theorem dX12_layExact_53 : decode cX12_layExact 53 = .ok (.lload 6, 2) := by decide +kernel
theorem dX12_layExact_55 : decode cX12_layExact 55 = .ok (.ldiv, 1) := by decide +kernel
theorem dX12_layExact_56 : decode cX12_layExact 56 = .ok (.lastore, 1) := by decide +kernel
theorem dX12_layExact_57 : decode cX12_layExact 57 = .ok (.aload_n 0, 1) := by decide +kernel
theorem dX12_layExact_58 : decode cX12_layExact 58 = .ok (.getfield 38, 3) := by decide +kernel
theorem dX12_layExact_61 : decode cX12_layExact 61 = .ok (.iload_n 1, 1) := by decide +kernel
theorem dX12_layExact_62 : decode cX12_layExact 62 = .ok (.lload 4, 2) := by decide +kernel
theorem dX12_layExact_64 : decode cX12_layExact 64 = .ok (.lload 6, 2) := by decide +kernel
theorem dX12_layExact_66 : decode cX12_layExact 66 = .ok (.ldiv, 1) := by decide +kernel
theorem dX12_layExact_67 : decode cX12_layExact 67 = .ok (.lastore, 1) := by decide +kernel
theorem dX12_layExact_68 : decode cX12_layExact 68 = .ok (.return_, 1) := by decide +kernel
set_option maxRecDepth 10000 in
theorem NX12_layExact_0 {d : Nat} {S : fW} {h : fH} {Q : fH → Prop} {r0 : Nat} {x1 : Int32} {x2 : Int64} {x4 : Int64} {r0_pad r0_text r0_number r0_span r0_now r0_sizeOf r0_workedTo r0_slip r0_exactUpper r0_exactLower r0_more r0_terms r0_order r0_bestOrder r0_low r0_high r0_built r0_better r0_base r0_kept r0_isKept : Nat}  
    (hs1 : (r0, shX12 r0_pad r0_text r0_number r0_span r0_now r0_sizeOf r0_workedTo r0_slip r0_exactUpper r0_exactLower r0_more r0_terms r0_order r0_bestOrder r0_low r0_high r0_built r0_better r0_base r0_kept r0_isKept) ∈ S)
    (hs2 : (r0_exactUpper, shJ 13) ∈ S)
    (hs3 : (r0_exactLower, shJ 13) ∈ S)
    (w : ((¬ x4 = (0 : Int64) → ∃ Q1 : Int64 → fH → Prop, OkL d mX12_common S [.long x2, .long x4] h Q1 ∧ ∀ (v_1 : Int64) (h_1 : fH), Q1 v_1 h_1 → (((0 : Int64) ≤ x4 → ¬ v_1 = 0 ∧ vp_in x1 13 ∧ ∀ g_1 : fH, g_1 = u_al h_1 r0_exactUpper (vp_updL (h_1.2.2.2 r0_exactUpper) x1.toNatClampNeg (x2 / v_1)) → ∀ g_2 : fH, g_2 = u_al g_1 r0_exactLower (vp_updL (g_1.2.2.2 r0_exactLower) x1.toNatClampNeg (x4 / v_1)) → Q g_2) ∧ (¬ (0 : Int64) ≤ x4 → ¬ (-v_1) = 0 ∧ vp_in x1 13 ∧ ∀ g_3 : fH, g_3 = u_al h_1 r0_exactUpper (vp_updL (h_1.2.2.2 r0_exactUpper) x1.toNatClampNeg (x2 / (-v_1))) → ∀ g_4 : fH, g_4 = u_al g_3 r0_exactLower (vp_updL (g_3.2.2.2 r0_exactLower) x1.toNatClampNeg (x4 / (-v_1))) → Q g_4))) ∧ (x4 = (0 : Int64) → vp_in x1 13 ∧ ∀ g_5 : fH, g_5 = u_al h r0_exactUpper (vp_updL (h.2.2.2 r0_exactUpper) x1.toNatClampNeg (0 : Int64)) → ∀ g_6 : fH, g_6 = u_al g_5 r0_exactLower (vp_updL (g_5.2.2.2 r0_exactLower) x1.toNatClampNeg (0 : Int64)) → Q g_6))) :
    OkV (d + 1) mX12_layExact S [.ref r0, .int x1, .long x2, .long x4] h Q := by
  refine Ok.of (by decide) (Nat.le_of_ble_eq_true rfl) ?_
  refine G_lload 3 rfl dX12_layExact_0 ?_
  refine G_lconst (v := 0) dX12_layExact_2 (by decide) ?_
  refine G_lif_ne (tgt := 22) dX12_layExact_3 dX12_layExact_4 (by decide) (fun c1 => ?_) (fun c1 => ?_)
  · have w := w.1 c1
    refine G_lload_n 2 rfl dX12_layExact_22 rfl ?_
    refine G_lload 3 rfl dX12_layExact_23 ?_
    obtain ⟨Q1, ok1, w⟩ := w
    refine G_callS (Z := mX12_common) (As := [.long x2, .long x4]) (st := []) hL_X12_212 hT_X12_common hC_X12_common hN_X12 nX12_common (by decide) rfl (Nat.le_of_ble_eq_true rfl) dX12_layExact_25 ok1 (fun r_ h_1 z_ => ?_)
    obtain ⟨v_1, rfl, q_1⟩ := z_
    have w := w v_1 h_1 q_1
    refine G_lstore dX12_layExact_28 (by decide) (lv' := [(6, .long v_1), (0, .ref r0), (1, .int x1), (2, .long x2), (4, .long x4)]) rfl ?_
    refine G_lload 4 rfl dX12_layExact_30 ?_
    refine G_lconst (v := 0) dX12_layExact_32 (by decide) ?_
    refine G_lif_ge (tgt := 43) dX12_layExact_33 dX12_layExact_34 (by decide) (fun c2 => ?_) (fun c2 => ?_)
    · have w := w.1 c2
      refine G_lload 0 rfl dX12_layExact_43 ?_
      refine G_lstore dX12_layExact_45 (by decide) (lv' := [(6, .long v_1), (0, .ref r0), (1, .int x1), (2, .long x2), (4, .long x4)]) rfl ?_
      refine G_aload_n 1 rfl dX12_layExact_47 rfl ?_
      refine G_getr (j := r0_exactUpper) (k := 18) hs1 (q := (RX12, TX12, 40)) rfl inX12 (by decide) rfl hF_X12_35 dX12_layExact_48 ?_
      refine G_iload_n 2 rfl dX12_layExact_51 rfl ?_
      refine G_lload_n 3 rfl dX12_layExact_52 rfl ?_
      refine G_lload 0 rfl dX12_layExact_53 ?_
      obtain ⟨sd1, w⟩ := w
      refine G_ldiv dX12_layExact_55 sd1 ?_
      obtain ⟨sd2, w⟩ := w
      refine G_last hs2 sd2 dX12_layExact_56 ?_
      refine G_nm (fun g_1 e_1 => ?_)
      have w := w g_1 e_1
      refine G_aload_n 1 rfl dX12_layExact_57 rfl ?_
      refine G_getr (j := r0_exactLower) (k := 19) hs1 (q := (RX12, TX12, 40)) rfl inX12 (by decide) rfl hF_X12_38 dX12_layExact_58 ?_
      refine G_iload_n 2 rfl dX12_layExact_61 rfl ?_
      refine G_lload 4 rfl dX12_layExact_62 ?_
      refine G_lload 0 rfl dX12_layExact_64 ?_
      refine G_ldiv dX12_layExact_66 sd1 ?_
      refine G_last hs3 sd2 dX12_layExact_67 ?_
      refine G_nm (fun g_2 e_2 => ?_)
      have w := w g_2 e_2
      exact G_vret rfl dX12_layExact_68 ⟨rfl, w⟩
    · have w := w.2 c2
      refine G_lload 0 rfl dX12_layExact_37 ?_
      refine G_lneg dX12_layExact_39 ?_
      refine G_goto (tgt := 45) dX12_layExact_40 (by decide) ?_
      refine G_lstore dX12_layExact_45 (by decide) (lv' := [(6, .long (-v_1)), (0, .ref r0), (1, .int x1), (2, .long x2), (4, .long x4)]) rfl ?_
      refine G_aload_n 1 rfl dX12_layExact_47 rfl ?_
      refine G_getr (j := r0_exactUpper) (k := 18) hs1 (q := (RX12, TX12, 40)) rfl inX12 (by decide) rfl hF_X12_35 dX12_layExact_48 ?_
      refine G_iload_n 2 rfl dX12_layExact_51 rfl ?_
      refine G_lload_n 3 rfl dX12_layExact_52 rfl ?_
      refine G_lload 0 rfl dX12_layExact_53 ?_
      obtain ⟨sd1, w⟩ := w
      refine G_ldiv dX12_layExact_55 sd1 ?_
      obtain ⟨sd2, w⟩ := w
      refine G_last hs2 sd2 dX12_layExact_56 ?_
      refine G_nm (fun g_3 e_3 => ?_)
      have w := w g_3 e_3
      refine G_aload_n 1 rfl dX12_layExact_57 rfl ?_
      refine G_getr (j := r0_exactLower) (k := 19) hs1 (q := (RX12, TX12, 40)) rfl inX12 (by decide) rfl hF_X12_38 dX12_layExact_58 ?_
      refine G_iload_n 2 rfl dX12_layExact_61 rfl ?_
      refine G_lload 4 rfl dX12_layExact_62 ?_
      refine G_lload 0 rfl dX12_layExact_64 ?_
      refine G_ldiv dX12_layExact_66 sd1 ?_
      refine G_last hs3 sd2 dX12_layExact_67 ?_
      refine G_nm (fun g_4 e_4 => ?_)
      have w := w g_4 e_4
      exact G_vret rfl dX12_layExact_68 ⟨rfl, w⟩
  · have w := w.2 c1
    refine G_aload_n 0 rfl dX12_layExact_7 rfl ?_
    refine G_getr (j := r0_exactUpper) (k := 18) hs1 (q := (RX12, TX12, 40)) rfl inX12 (by decide) rfl hF_X12_35 dX12_layExact_8 ?_
    refine G_iload_n 1 rfl dX12_layExact_11 rfl ?_
    refine G_lconst (v := 0) dX12_layExact_12 (by decide) ?_
    obtain ⟨sd1, w⟩ := w
    refine G_last hs2 sd1 dX12_layExact_13 ?_
    refine G_nm (fun g_5 e_5 => ?_)
    have w := w g_5 e_5
    refine G_aload_n 0 rfl dX12_layExact_14 rfl ?_
    refine G_getr (j := r0_exactLower) (k := 19) hs1 (q := (RX12, TX12, 40)) rfl inX12 (by decide) rfl hF_X12_38 dX12_layExact_15 ?_
    refine G_iload_n 1 rfl dX12_layExact_18 rfl ?_
    refine G_lconst (v := 0) dX12_layExact_19 (by decide) ?_
    refine G_last hs3 sd1 dX12_layExact_20 ?_
    refine G_nm (fun g_6 e_6 => ?_)
    have w := w g_6 e_6
    exact G_vret rfl dX12_layExact_21 ⟨rfl, w⟩
-- LostDigitsModel.workExact
theorem dX12_workExact_0 : decode cX12_workExact 0 = .ok (.aload_n 0, 1) := by decide +kernel
theorem dX12_workExact_1 : decode cX12_workExact 1 = .ok (.invokevirtual 195, 3) := by decide +kernel
theorem dX12_workExact_4 : decode cX12_workExact 4 = .ok (.aload_n 0, 1) := by decide +kernel
theorem dX12_workExact_5 : decode cX12_workExact 5 = .ok (.getfield 192, 3) := by decide +kernel
theorem dX12_workExact_8 : decode cX12_workExact 8 = .ok (.iconst 1, 1) := by decide +kernel
theorem dX12_workExact_9 : decode cX12_workExact 9 = .ok (.isub, 1) := by decide +kernel
theorem dX12_workExact_10 : decode cX12_workExact 10 = .ok (.istore_n 1, 1) := by decide +kernel
theorem dX12_workExact_11 : decode cX12_workExact 11 = .ok (.iload_n 1, 1) := by decide +kernel
theorem dX12_workExact_12 : decode cX12_workExact 12 = .ok (.ifCond .lt 219, 3) := by decide +kernel
theorem dX12_workExact_15 : decode cX12_workExact 15 = .ok (.aload_n 0, 1) := by decide +kernel
theorem dX12_workExact_16 : decode cX12_workExact 16 = .ok (.getfield 22, 3) := by decide +kernel
theorem dX12_workExact_19 : decode cX12_workExact 19 = .ok (.iload_n 1, 1) := by decide +kernel
theorem dX12_workExact_20 : decode cX12_workExact 20 = .ok (.iaload, 1) := by decide +kernel
theorem dX12_workExact_21 : decode cX12_workExact 21 = .ok (.invokestatic 170, 3) := by decide +kernel
theorem dX12_workExact_24 : decode cX12_workExact 24 = .ok (.ifCond .ne 18, 3) := by decide +kernel
theorem dX12_workExact_27 : decode cX12_workExact 27 = .ok (.aload_n 0, 1) := by decide +kernel
theorem dX12_workExact_28 : decode cX12_workExact 28 = .ok (.iload_n 1, 1) := by decide +kernel
theorem dX12_workExact_29 : decode cX12_workExact 29 = .ok (.aload_n 0, 1) := by decide +kernel
theorem dX12_workExact_30 : decode cX12_workExact 30 = .ok (.iload_n 1, 1) := by decide +kernel
theorem dX12_workExact_31 : decode cX12_workExact 31 = .ok (.invokevirtual 208, 3) := by decide +kernel
theorem dX12_workExact_34 : decode cX12_workExact 34 = .ok (.i2l, 1) := by decide +kernel
theorem dX12_workExact_35 : decode cX12_workExact 35 = .ok (.lconst 1, 1) := by decide +kernel
theorem dX12_workExact_36 : decode cX12_workExact 36 = .ok (.invokevirtual 216, 3) := by decide +kernel
theorem dX12_workExact_39 : decode cX12_workExact 39 = .ok (.goto 186, 3) := by decide +kernel
theorem dX12_workExact_42 : decode cX12_workExact 42 = .ok (.iload_n 1, 1) := by decide +kernel
theorem dX12_workExact_43 : decode cX12_workExact 43 = .ok (.iconst 1, 1) := by decide +kernel
theorem dX12_workExact_44 : decode cX12_workExact 44 = .ok (.iadd, 1) := by decide +kernel
theorem dX12_workExact_45 : decode cX12_workExact 45 = .ok (.istore_n 2, 1) := by decide +kernel
theorem dX12_workExact_46 : decode cX12_workExact 46 = .ok (.iload_n 2, 1) := by decide +kernel
theorem dX12_workExact_47 : decode cX12_workExact 47 = .ok (.aload_n 0, 1) := by decide +kernel
theorem dX12_workExact_48 : decode cX12_workExact 48 = .ok (.getfield 25, 3) := by decide +kernel
theorem dX12_workExact_51 : decode cX12_workExact 51 = .ok (.iload_n 2, 1) := by decide +kernel
theorem dX12_workExact_52 : decode cX12_workExact 52 = .ok (.iaload, 1) := by decide +kernel
theorem dX12_workExact_53 : decode cX12_workExact 53 = .ok (.iadd, 1) := by decide +kernel
theorem dX12_workExact_54 : decode cX12_workExact 54 = .ok (.istore_n 3, 1) := by decide +kernel
theorem dX12_workExact_55 : decode cX12_workExact 55 = .ok (.aload_n 0, 1) := by decide +kernel
theorem dX12_workExact_56 : decode cX12_workExact 56 = .ok (.getfield 35, 3) := by decide +kernel
theorem dX12_workExact_59 : decode cX12_workExact 59 = .ok (.iload_n 2, 1) := by decide +kernel
theorem dX12_workExact_60 : decode cX12_workExact 60 = .ok (.laload, 1) := by decide +kernel
theorem dX12_workExact_61 : decode cX12_workExact 61 = .ok (.lstore 4, 2) := by decide +kernel
theorem dX12_workExact_63 : decode cX12_workExact 63 = .ok (.aload_n 0, 1) := by decide +kernel
theorem dX12_workExact_64 : decode cX12_workExact 64 = .ok (.getfield 38, 3) := by decide +kernel
theorem dX12_workExact_67 : decode cX12_workExact 67 = .ok (.iload_n 2, 1) := by decide +kernel
theorem dX12_workExact_68 : decode cX12_workExact 68 = .ok (.laload, 1) := by decide +kernel
theorem dX12_workExact_69 : decode cX12_workExact 69 = .ok (.lstore 6, 2) := by decide +kernel
theorem dX12_workExact_71 : decode cX12_workExact 71 = .ok (.aload_n 0, 1) := by decide +kernel
theorem dX12_workExact_72 : decode cX12_workExact 72 = .ok (.getfield 35, 3) := by decide +kernel
theorem dX12_workExact_75 : decode cX12_workExact 75 = .ok (.iload_n 3, 1) := by decide +kernel
theorem dX12_workExact_76 : decode cX12_workExact 76 = .ok (.laload, 1) := by decide +kernel
theorem dX12_workExact_77 : decode cX12_workExact 77 = .ok (.lstore 8, 2) := by decide +kernel
theorem dX12_workExact_79 : decode cX12_workExact 79 = .ok (.aload_n 0, 1) := by decide +kernel
theorem dX12_workExact_80 : decode cX12_workExact 80 = .ok (.getfield 38, 3) := by decide +kernel
theorem dX12_workExact_83 : decode cX12_workExact 83 = .ok (.iload_n 3, 1) := by decide +kernel
theorem dX12_workExact_84 : decode cX12_workExact 84 = .ok (.laload, 1) := by decide +kernel
theorem dX12_workExact_85 : decode cX12_workExact 85 = .ok (.lstore 10, 2) := by decide +kernel
theorem dX12_workExact_87 : decode cX12_workExact 87 = .ok (.lload 6, 2) := by decide +kernel
theorem dX12_workExact_89 : decode cX12_workExact 89 = .ok (.lconst 0, 1) := by decide +kernel
theorem dX12_workExact_90 : decode cX12_workExact 90 = .ok (.lcmp, 1) := by decide +kernel
theorem dX12_workExact_91 : decode cX12_workExact 91 = .ok (.ifCond .eq 10, 3) := by decide +kernel
theorem dX12_workExact_94 : decode cX12_workExact 94 = .ok (.lload 10, 2) := by decide +kernel
theorem dX12_workExact_96 : decode cX12_workExact 96 = .ok (.lconst 0, 1) := by decide +kernel
theorem dX12_workExact_97 : decode cX12_workExact 97 = .ok (.lcmp, 1) := by decide +kernel
theorem dX12_workExact_98 : decode cX12_workExact 98 = .ok (.ifCond .ne 13, 3) := by decide +kernel
theorem dX12_workExact_101 : decode cX12_workExact 101 = .ok (.aload_n 0, 1) := by decide +kernel
theorem dX12_workExact_102 : decode cX12_workExact 102 = .ok (.iload_n 1, 1) := by decide +kernel
theorem dX12_workExact_103 : decode cX12_workExact 103 = .ok (.lconst 0, 1) := by decide +kernel
theorem dX12_workExact_104 : decode cX12_workExact 104 = .ok (.lconst 0, 1) := by decide +kernel
theorem dX12_workExact_105 : decode cX12_workExact 105 = .ok (.invokevirtual 216, 3) := by decide +kernel
theorem dX12_workExact_108 : decode cX12_workExact 108 = .ok (.goto 117, 3) := by decide +kernel
theorem dX12_workExact_111 : decode cX12_workExact 111 = .ok (.aload_n 0, 1) := by decide +kernel
theorem dX12_workExact_112 : decode cX12_workExact 112 = .ok (.getfield 22, 3) := by decide +kernel
theorem dX12_workExact_115 : decode cX12_workExact 115 = .ok (.iload_n 1, 1) := by decide +kernel
theorem dX12_workExact_116 : decode cX12_workExact 116 = .ok (.iaload, 1) := by decide +kernel
theorem dX12_workExact_117 : decode cX12_workExact 117 = .ok (.bipush 43, 2) := by decide +kernel
theorem dX12_workExact_119 : decode cX12_workExact 119 = .ok (.if_icmp .ne 27, 3) := by decide +kernel
theorem dX12_workExact_122 : decode cX12_workExact 122 = .ok (.aload_n 0, 1) := by decide +kernel
theorem dX12_workExact_123 : decode cX12_workExact 123 = .ok (.iload_n 1, 1) := by decide +kernel
theorem dX12_workExact_124 : decode cX12_workExact 124 = .ok (.lload 4, 2) := by decide +kernel
theorem dX12_workExact_126 : decode cX12_workExact 126 = .ok (.lload 10, 2) := by decide +kernel
theorem dX12_workExact_128 : decode cX12_workExact 128 = .ok (.lmul, 1) := by decide +kernel
theorem dX12_workExact_129 : decode cX12_workExact 129 = .ok (.lload 8, 2) := by decide +kernel
theorem dX12_workExact_131 : decode cX12_workExact 131 = .ok (.lload 6, 2) := by decide +kernel
theorem dX12_workExact_133 : decode cX12_workExact 133 = .ok (.lmul, 1) := by decide +kernel
theorem dX12_workExact_134 : decode cX12_workExact 134 = .ok (.ladd, 1) := by decide +kernel
theorem dX12_workExact_135 : decode cX12_workExact 135 = .ok (.lload 6, 2) := by decide +kernel
theorem dX12_workExact_137 : decode cX12_workExact 137 = .ok (.lload 10, 2) := by decide +kernel
theorem dX12_workExact_139 : decode cX12_workExact 139 = .ok (.lmul, 1) := by decide +kernel
theorem dX12_workExact_140 : decode cX12_workExact 140 = .ok (.invokevirtual 216, 3) := by decide +kernel
theorem dX12_workExact_143 : decode cX12_workExact 143 = .ok (.goto 82, 3) := by decide +kernel
theorem dX12_workExact_146 : decode cX12_workExact 146 = .ok (.aload_n 0, 1) := by decide +kernel
theorem dX12_workExact_147 : decode cX12_workExact 147 = .ok (.getfield 22, 3) := by decide +kernel
theorem dX12_workExact_150 : decode cX12_workExact 150 = .ok (.iload_n 1, 1) := by decide +kernel
theorem dX12_workExact_151 : decode cX12_workExact 151 = .ok (.iaload, 1) := by decide +kernel
theorem dX12_workExact_152 : decode cX12_workExact 152 = .ok (.bipush 45, 2) := by decide +kernel
theorem dX12_workExact_154 : decode cX12_workExact 154 = .ok (.if_icmp .ne 27, 3) := by decide +kernel
theorem dX12_workExact_157 : decode cX12_workExact 157 = .ok (.aload_n 0, 1) := by decide +kernel
theorem dX12_workExact_158 : decode cX12_workExact 158 = .ok (.iload_n 1, 1) := by decide +kernel
theorem dX12_workExact_159 : decode cX12_workExact 159 = .ok (.lload 4, 2) := by decide +kernel
theorem dX12_workExact_161 : decode cX12_workExact 161 = .ok (.lload 10, 2) := by decide +kernel
theorem dX12_workExact_163 : decode cX12_workExact 163 = .ok (.lmul, 1) := by decide +kernel
theorem dX12_workExact_164 : decode cX12_workExact 164 = .ok (.lload 8, 2) := by decide +kernel
theorem dX12_workExact_166 : decode cX12_workExact 166 = .ok (.lload 6, 2) := by decide +kernel
theorem dX12_workExact_168 : decode cX12_workExact 168 = .ok (.lmul, 1) := by decide +kernel
theorem dX12_workExact_169 : decode cX12_workExact 169 = .ok (.lsub, 1) := by decide +kernel
theorem dX12_workExact_170 : decode cX12_workExact 170 = .ok (.lload 6, 2) := by decide +kernel
theorem dX12_workExact_172 : decode cX12_workExact 172 = .ok (.lload 10, 2) := by decide +kernel
theorem dX12_workExact_174 : decode cX12_workExact 174 = .ok (.lmul, 1) := by decide +kernel
theorem dX12_workExact_175 : decode cX12_workExact 175 = .ok (.invokevirtual 216, 3) := by decide +kernel
theorem dX12_workExact_178 : decode cX12_workExact 178 = .ok (.goto 47, 3) := by decide +kernel
theorem dX12_workExact_181 : decode cX12_workExact 181 = .ok (.aload_n 0, 1) := by decide +kernel
theorem dX12_workExact_182 : decode cX12_workExact 182 = .ok (.getfield 22, 3) := by decide +kernel
theorem dX12_workExact_185 : decode cX12_workExact 185 = .ok (.iload_n 1, 1) := by decide +kernel
theorem dX12_workExact_186 : decode cX12_workExact 186 = .ok (.iaload, 1) := by decide +kernel
theorem dX12_workExact_187 : decode cX12_workExact 187 = .ok (.bipush 42, 2) := by decide +kernel
theorem dX12_workExact_189 : decode cX12_workExact 189 = .ok (.if_icmp .ne 21, 3) := by decide +kernel
theorem dX12_workExact_192 : decode cX12_workExact 192 = .ok (.aload_n 0, 1) := by decide +kernel
theorem dX12_workExact_193 : decode cX12_workExact 193 = .ok (.iload_n 1, 1) := by decide +kernel
theorem dX12_workExact_194 : decode cX12_workExact 194 = .ok (.lload 4, 2) := by decide +kernel
theorem dX12_workExact_196 : decode cX12_workExact 196 = .ok (.lload 8, 2) := by decide +kernel
theorem dX12_workExact_198 : decode cX12_workExact 198 = .ok (.lmul, 1) := by decide +kernel
theorem dX12_workExact_199 : decode cX12_workExact 199 = .ok (.lload 6, 2) := by decide +kernel
theorem dX12_workExact_201 : decode cX12_workExact 201 = .ok (.lload 10, 2) := by decide +kernel
theorem dX12_workExact_203 : decode cX12_workExact 203 = .ok (.lmul, 1) := by decide +kernel
theorem dX12_workExact_204 : decode cX12_workExact 204 = .ok (.invokevirtual 216, 3) := by decide +kernel
theorem dX12_workExact_207 : decode cX12_workExact 207 = .ok (.goto 18, 3) := by decide +kernel
theorem dX12_workExact_210 : decode cX12_workExact 210 = .ok (.aload_n 0, 1) := by decide +kernel
theorem dX12_workExact_211 : decode cX12_workExact 211 = .ok (.iload_n 1, 1) := by decide +kernel
theorem dX12_workExact_212 : decode cX12_workExact 212 = .ok (.lload 4, 2) := by decide +kernel
theorem dX12_workExact_214 : decode cX12_workExact 214 = .ok (.lload 10, 2) := by decide +kernel
theorem dX12_workExact_216 : decode cX12_workExact 216 = .ok (.lmul, 1) := by decide +kernel
theorem dX12_workExact_217 : decode cX12_workExact 217 = .ok (.lload 6, 2) := by decide +kernel
theorem dX12_workExact_219 : decode cX12_workExact 219 = .ok (.lload 8, 2) := by decide +kernel
theorem dX12_workExact_221 : decode cX12_workExact 221 = .ok (.lmul, 1) := by decide +kernel
theorem dX12_workExact_222 : decode cX12_workExact 222 = .ok (.invokevirtual 216, 3) := by decide +kernel
theorem dX12_workExact_225 : decode cX12_workExact 225 = .ok (.iinc 1 (-1), 3) := by decide +kernel
theorem dX12_workExact_228 : decode cX12_workExact 228 = .ok (.goto (-217), 3) := by decide +kernel
theorem dX12_workExact_231 : decode cX12_workExact 231 = .ok (.return_, 1) := by decide +kernel
set_option maxRecDepth 10000 in
theorem NX12_workExact_0 {d : Nat} {S : fW} {h : fH} {Q : fH → Prop} {r0 : Nat} {r0_pad r0_text r0_number r0_span r0_now r0_sizeOf r0_workedTo r0_slip r0_exactUpper r0_exactLower r0_more r0_terms r0_order r0_bestOrder r0_low r0_high r0_built r0_better r0_base r0_kept r0_isKept : Nat}  
    (hs1 : (r0, shX12 r0_pad r0_text r0_number r0_span r0_now r0_sizeOf r0_workedTo r0_slip r0_exactUpper r0_exactLower r0_more r0_terms r0_order r0_bestOrder r0_low r0_high r0_built r0_better r0_base r0_kept r0_isKept) ∈ S)
    (w : ∃ Q1 : fH → Prop, OkV d mX12_findSizes S [.ref r0] h Q1 ∧ ∀ (h_1 : fH), Q1 h_1 → G mX12_workExact (d + 1) S (f_PV Q) 11 [(0, .ref r0), (1, .int ((h_1.1 r0 14) - (1 : Int32)))] [] h_1) :
    OkV (d + 1) mX12_workExact S [.ref r0] h Q := by
  refine Ok.of (by decide) (Nat.le_of_ble_eq_true rfl) ?_
  refine G_aload_n 0 rfl dX12_workExact_0 rfl ?_
  obtain ⟨Q1, ok1, w⟩ := w
  refine G_callV (Z := mX12_findSizes) (As := []) (st := []) hL_X12_195 hI_X12_findSizes hS_X12_findSizes hC_X12_findSizes hN_X12 nX12_findSizes (by decide) hs1 rfl rfl rfl (Nat.le_of_ble_eq_true rfl) dX12_workExact_1 ok1 (fun r_ h_1 z_ => ?_)
  obtain ⟨rfl, q_1⟩ := z_
  have w := w h_1 q_1
  refine G_aload_n 0 rfl dX12_workExact_4 rfl ?_
  refine G_geti (k := 14) hs1 (q := (RX12, TX12, 40)) rfl inX12 (by decide) (Or.inl rfl) hF_X12_192 dX12_workExact_5 ?_
  refine G_iconst (v := 1) dX12_workExact_8 (by decide) ?_
  refine G_isub dX12_workExact_9 ?_
  refine G_istore_n dX12_workExact_10 rfl (by decide) (lv' := [(1, .int ((h_1.1 r0 14) - (1 : Int32))), (0, .ref r0)]) rfl ?_
  exact G_sub [1, 0] rfl w

set_option maxRecDepth 10000 in
theorem NX12_workExact_11 {d : Nat} {S : fW} {h : fH} {Q : fH → Prop} {r0 : Nat} {x1 : Int32} {r0_pad r0_text r0_number r0_span r0_now r0_sizeOf r0_workedTo r0_slip r0_exactUpper r0_exactLower r0_more r0_terms r0_order r0_bestOrder r0_low r0_high r0_built r0_better r0_base r0_kept r0_isKept : Nat}  
    (hs1 : (r0, shX12 r0_pad r0_text r0_number r0_span r0_now r0_sizeOf r0_workedTo r0_slip r0_exactUpper r0_exactLower r0_more r0_terms r0_order r0_bestOrder r0_low r0_high r0_built r0_better r0_base r0_kept r0_isKept) ∈ S)
    (hs2 : (r0_now, shI 13) ∈ S)
    (hs3 : (r0_sizeOf, shI 13) ∈ S)
    (hs4 : (r0_exactUpper, shJ 13) ∈ S)
    (hs5 : (r0_exactLower, shJ 13) ∈ S)
    (w : ((x1 < 0 → Q h) ∧ (¬ x1 < 0 → vp_in x1 13 ∧ ∃ Q1 : Int32 → fH → Prop, OkI d mX12_isSign S [.int (h.2.2.1 r0_now x1.toNatClampNeg)] h Q1 ∧ ∀ (v_1 : Int32) (h_1 : fH), Q1 v_1 h_1 → ((¬ v_1 = 0 → vp_in (x1 + (1 : Int32)) 13 ∧ vp_in ((x1 + (1 : Int32)) + (h_1.2.2.1 r0_sizeOf (x1 + (1 : Int32)).toNatClampNeg)) 13 ∧ (((h_1.2.2.2 r0_exactLower (x1 + (1 : Int32)).toNatClampNeg) = (0 : Int64) → ∃ Q2 : fH → Prop, OkV d mX12_layExact S [.ref r0, .int x1, .long (0 : Int64), .long (0 : Int64)] h_1 Q2 ∧ ∀ (h_2 : fH), Q2 h_2 → G mX12_workExact (d + 1) S (f_PV Q) 11 [(0, .ref r0), (1, .int (x1 + (-1)))] [] h_2) ∧ (¬ (h_1.2.2.2 r0_exactLower (x1 + (1 : Int32)).toNatClampNeg) = (0 : Int64) → ((¬ (h_1.2.2.2 r0_exactLower ((x1 + (1 : Int32)) + (h_1.2.2.1 r0_sizeOf (x1 + (1 : Int32)).toNatClampNeg)).toNatClampNeg) = (0 : Int64) → ((¬ (h_1.2.2.1 r0_now x1.toNatClampNeg) = (43 : Int32) → ((¬ (h_1.2.2.1 r0_now x1.toNatClampNeg) = (45 : Int32) → ((¬ (h_1.2.2.1 r0_now x1.toNatClampNeg) = (42 : Int32) → ∃ Q3 : fH → Prop, OkV d mX12_layExact S [.ref r0, .int x1, .long ((h_1.2.2.2 r0_exactUpper (x1 + (1 : Int32)).toNatClampNeg) * (h_1.2.2.2 r0_exactLower ((x1 + (1 : Int32)) + (h_1.2.2.1 r0_sizeOf (x1 + (1 : Int32)).toNatClampNeg)).toNatClampNeg)), .long ((h_1.2.2.2 r0_exactLower (x1 + (1 : Int32)).toNatClampNeg) * (h_1.2.2.2 r0_exactUpper ((x1 + (1 : Int32)) + (h_1.2.2.1 r0_sizeOf (x1 + (1 : Int32)).toNatClampNeg)).toNatClampNeg))] h_1 Q3 ∧ ∀ (h_3 : fH), Q3 h_3 → G mX12_workExact (d + 1) S (f_PV Q) 11 [(0, .ref r0), (1, .int (x1 + (-1)))] [] h_3) ∧ ((h_1.2.2.1 r0_now x1.toNatClampNeg) = (42 : Int32) → ∃ Q4 : fH → Prop, OkV d mX12_layExact S [.ref r0, .int x1, .long ((h_1.2.2.2 r0_exactUpper (x1 + (1 : Int32)).toNatClampNeg) * (h_1.2.2.2 r0_exactUpper ((x1 + (1 : Int32)) + (h_1.2.2.1 r0_sizeOf (x1 + (1 : Int32)).toNatClampNeg)).toNatClampNeg)), .long ((h_1.2.2.2 r0_exactLower (x1 + (1 : Int32)).toNatClampNeg) * (h_1.2.2.2 r0_exactLower ((x1 + (1 : Int32)) + (h_1.2.2.1 r0_sizeOf (x1 + (1 : Int32)).toNatClampNeg)).toNatClampNeg))] h_1 Q4 ∧ ∀ (h_4 : fH), Q4 h_4 → G mX12_workExact (d + 1) S (f_PV Q) 11 [(0, .ref r0), (1, .int (x1 + (-1)))] [] h_4))) ∧ ((h_1.2.2.1 r0_now x1.toNatClampNeg) = (45 : Int32) → ∃ Q5 : fH → Prop, OkV d mX12_layExact S [.ref r0, .int x1, .long (((h_1.2.2.2 r0_exactUpper (x1 + (1 : Int32)).toNatClampNeg) * (h_1.2.2.2 r0_exactLower ((x1 + (1 : Int32)) + (h_1.2.2.1 r0_sizeOf (x1 + (1 : Int32)).toNatClampNeg)).toNatClampNeg)) - ((h_1.2.2.2 r0_exactUpper ((x1 + (1 : Int32)) + (h_1.2.2.1 r0_sizeOf (x1 + (1 : Int32)).toNatClampNeg)).toNatClampNeg) * (h_1.2.2.2 r0_exactLower (x1 + (1 : Int32)).toNatClampNeg))), .long ((h_1.2.2.2 r0_exactLower (x1 + (1 : Int32)).toNatClampNeg) * (h_1.2.2.2 r0_exactLower ((x1 + (1 : Int32)) + (h_1.2.2.1 r0_sizeOf (x1 + (1 : Int32)).toNatClampNeg)).toNatClampNeg))] h_1 Q5 ∧ ∀ (h_5 : fH), Q5 h_5 → G mX12_workExact (d + 1) S (f_PV Q) 11 [(0, .ref r0), (1, .int (x1 + (-1)))] [] h_5))) ∧ ((h_1.2.2.1 r0_now x1.toNatClampNeg) = (43 : Int32) → ∃ Q6 : fH → Prop, OkV d mX12_layExact S [.ref r0, .int x1, .long (((h_1.2.2.2 r0_exactUpper (x1 + (1 : Int32)).toNatClampNeg) * (h_1.2.2.2 r0_exactLower ((x1 + (1 : Int32)) + (h_1.2.2.1 r0_sizeOf (x1 + (1 : Int32)).toNatClampNeg)).toNatClampNeg)) + ((h_1.2.2.2 r0_exactUpper ((x1 + (1 : Int32)) + (h_1.2.2.1 r0_sizeOf (x1 + (1 : Int32)).toNatClampNeg)).toNatClampNeg) * (h_1.2.2.2 r0_exactLower (x1 + (1 : Int32)).toNatClampNeg))), .long ((h_1.2.2.2 r0_exactLower (x1 + (1 : Int32)).toNatClampNeg) * (h_1.2.2.2 r0_exactLower ((x1 + (1 : Int32)) + (h_1.2.2.1 r0_sizeOf (x1 + (1 : Int32)).toNatClampNeg)).toNatClampNeg))] h_1 Q6 ∧ ∀ (h_6 : fH), Q6 h_6 → G mX12_workExact (d + 1) S (f_PV Q) 11 [(0, .ref r0), (1, .int (x1 + (-1)))] [] h_6))) ∧ ((h_1.2.2.2 r0_exactLower ((x1 + (1 : Int32)) + (h_1.2.2.1 r0_sizeOf (x1 + (1 : Int32)).toNatClampNeg)).toNatClampNeg) = (0 : Int64) → ∃ Q7 : fH → Prop, OkV d mX12_layExact S [.ref r0, .int x1, .long (0 : Int64), .long (0 : Int64)] h_1 Q7 ∧ ∀ (h_7 : fH), Q7 h_7 → G mX12_workExact (d + 1) S (f_PV Q) 11 [(0, .ref r0), (1, .int (x1 + (-1)))] [] h_7))))) ∧ (v_1 = 0 → ∃ Q8 : Int32 → fH → Prop, OkI d mX12_wholeAt S [.ref r0, .int x1] h_1 Q8 ∧ ∀ (v_8 : Int32) (h_8 : fH), Q8 v_8 h_8 → ∃ Q9 : fH → Prop, OkV d mX12_layExact S [.ref r0, .int x1, .long v_8.toInt64, .long (1 : Int64)] h_8 Q9 ∧ ∀ (h_9 : fH), Q9 h_9 → G mX12_workExact (d + 1) S (f_PV Q) 11 [(0, .ref r0), (1, .int (x1 + (-1)))] [] h_9))))) :
    G mX12_workExact (d + 1) S (f_PV Q) 11 [(0, .ref r0), (1, .int x1)] [] h := by
  refine G_iload_n 1 rfl dX12_workExact_11 rfl ?_
  refine G_if_lt (tgt := 231) dX12_workExact_12 (by decide) (fun c1 => ?_) (fun c1 => ?_)
  · have w := w.1 c1
    exact G_vret rfl dX12_workExact_231 ⟨rfl, w⟩
  · have w := w.2 c1
    refine G_aload_n 0 rfl dX12_workExact_15 rfl ?_
    refine G_getr (j := r0_now) (k := 13) hs1 (q := (RX12, TX12, 40)) rfl inX12 (by decide) rfl hF_X12_22 dX12_workExact_16 ?_
    refine G_iload_n 1 rfl dX12_workExact_19 rfl ?_
    obtain ⟨sd1, w⟩ := w
    refine G_iald hs2 sd1 dX12_workExact_20 ?_
    obtain ⟨Q1, ok1, w⟩ := w
    refine G_callS (Z := mX12_isSign) (As := [.int (h.2.2.1 r0_now x1.toNatClampNeg)]) (st := []) hL_X12_170 hT_X12_isSign hC_X12_isSign hN_X12 nX12_isSign (by decide) rfl (Nat.le_of_ble_eq_true rfl) dX12_workExact_21 ok1 (fun r_ h_1 z_ => ?_)
    obtain ⟨v_1, rfl, q_1⟩ := z_
    have w := w v_1 h_1 q_1
    refine G_if_ne (tgt := 42) dX12_workExact_24 (by decide) (fun c2 => ?_) (fun c2 => ?_)
    · have w := w.1 c2
      refine G_iload_n 1 rfl dX12_workExact_42 rfl ?_
      refine G_iconst (v := 1) dX12_workExact_43 (by decide) ?_
      refine G_iadd dX12_workExact_44 ?_
      refine G_istore_n dX12_workExact_45 rfl (by decide) (lv' := [(2, .int (x1 + (1 : Int32))), (0, .ref r0), (1, .int x1)]) rfl ?_
      refine G_iload_n 0 rfl dX12_workExact_46 rfl ?_
      refine G_aload_n 1 rfl dX12_workExact_47 rfl ?_
      refine G_getr (j := r0_sizeOf) (k := 15) hs1 (q := (RX12, TX12, 40)) rfl inX12 (by decide) rfl hF_X12_25 dX12_workExact_48 ?_
      refine G_iload_n 0 rfl dX12_workExact_51 rfl ?_
      obtain ⟨sd2, w⟩ := w
      refine G_iald hs3 sd2 dX12_workExact_52 ?_
      refine G_iadd dX12_workExact_53 ?_
      refine G_istore_n dX12_workExact_54 rfl (by decide) (lv' := [(3, .int ((x1 + (1 : Int32)) + (h_1.2.2.1 r0_sizeOf (x1 + (1 : Int32)).toNatClampNeg))), (2, .int (x1 + (1 : Int32))), (0, .ref r0), (1, .int x1)]) rfl ?_
      refine G_aload_n 2 rfl dX12_workExact_55 rfl ?_
      refine G_getr (j := r0_exactUpper) (k := 18) hs1 (q := (RX12, TX12, 40)) rfl inX12 (by decide) rfl hF_X12_35 dX12_workExact_56 ?_
      refine G_iload_n 1 rfl dX12_workExact_59 rfl ?_
      refine G_lald hs4 sd2 dX12_workExact_60 ?_
      refine G_lstore dX12_workExact_61 (by decide) (lv' := [(4, .long (h_1.2.2.2 r0_exactUpper (x1 + (1 : Int32)).toNatClampNeg)), (3, .int ((x1 + (1 : Int32)) + (h_1.2.2.1 r0_sizeOf (x1 + (1 : Int32)).toNatClampNeg))), (2, .int (x1 + (1 : Int32))), (0, .ref r0), (1, .int x1)]) rfl ?_
      refine G_aload_n 3 rfl dX12_workExact_63 rfl ?_
      refine G_getr (j := r0_exactLower) (k := 19) hs1 (q := (RX12, TX12, 40)) rfl inX12 (by decide) rfl hF_X12_38 dX12_workExact_64 ?_
      refine G_iload_n 2 rfl dX12_workExact_67 rfl ?_
      refine G_lald hs5 sd2 dX12_workExact_68 ?_
      refine G_lstore dX12_workExact_69 (by decide) (lv' := [(6, .long (h_1.2.2.2 r0_exactLower (x1 + (1 : Int32)).toNatClampNeg)), (4, .long (h_1.2.2.2 r0_exactUpper (x1 + (1 : Int32)).toNatClampNeg)), (3, .int ((x1 + (1 : Int32)) + (h_1.2.2.1 r0_sizeOf (x1 + (1 : Int32)).toNatClampNeg))), (2, .int (x1 + (1 : Int32))), (0, .ref r0), (1, .int x1)]) rfl ?_
      refine G_aload_n 4 rfl dX12_workExact_71 rfl ?_
      refine G_getr (j := r0_exactUpper) (k := 18) hs1 (q := (RX12, TX12, 40)) rfl inX12 (by decide) rfl hF_X12_35 dX12_workExact_72 ?_
      refine G_iload_n 2 rfl dX12_workExact_75 rfl ?_
      obtain ⟨sd3, w⟩ := w
      refine G_lald hs4 sd3 dX12_workExact_76 ?_
      refine G_lstore dX12_workExact_77 (by decide) (lv' := [(8, .long (h_1.2.2.2 r0_exactUpper ((x1 + (1 : Int32)) + (h_1.2.2.1 r0_sizeOf (x1 + (1 : Int32)).toNatClampNeg)).toNatClampNeg)), (6, .long (h_1.2.2.2 r0_exactLower (x1 + (1 : Int32)).toNatClampNeg)), (4, .long (h_1.2.2.2 r0_exactUpper (x1 + (1 : Int32)).toNatClampNeg)), (3, .int ((x1 + (1 : Int32)) + (h_1.2.2.1 r0_sizeOf (x1 + (1 : Int32)).toNatClampNeg))), (2, .int (x1 + (1 : Int32))), (0, .ref r0), (1, .int x1)]) rfl ?_
      refine G_aload_n 5 rfl dX12_workExact_79 rfl ?_
      refine G_getr (j := r0_exactLower) (k := 19) hs1 (q := (RX12, TX12, 40)) rfl inX12 (by decide) rfl hF_X12_38 dX12_workExact_80 ?_
      refine G_iload_n 3 rfl dX12_workExact_83 rfl ?_
      refine G_lald hs5 sd3 dX12_workExact_84 ?_
      refine G_lstore dX12_workExact_85 (by decide) (lv' := [(10, .long (h_1.2.2.2 r0_exactLower ((x1 + (1 : Int32)) + (h_1.2.2.1 r0_sizeOf (x1 + (1 : Int32)).toNatClampNeg)).toNatClampNeg)), (8, .long (h_1.2.2.2 r0_exactUpper ((x1 + (1 : Int32)) + (h_1.2.2.1 r0_sizeOf (x1 + (1 : Int32)).toNatClampNeg)).toNatClampNeg)), (6, .long (h_1.2.2.2 r0_exactLower (x1 + (1 : Int32)).toNatClampNeg)), (4, .long (h_1.2.2.2 r0_exactUpper (x1 + (1 : Int32)).toNatClampNeg)), (3, .int ((x1 + (1 : Int32)) + (h_1.2.2.1 r0_sizeOf (x1 + (1 : Int32)).toNatClampNeg))), (2, .int (x1 + (1 : Int32))), (0, .ref r0), (1, .int x1)]) rfl ?_
      refine G_lload 2 rfl dX12_workExact_87 ?_
      refine G_lconst (v := 0) dX12_workExact_89 (by decide) ?_
      refine G_lif_eq (tgt := 101) dX12_workExact_90 dX12_workExact_91 (by decide) (fun c3 => ?_) (fun c3 => ?_)
      · have w := w.1 c3
        refine G_aload_n 6 rfl dX12_workExact_101 rfl ?_
        refine G_iload_n 7 rfl dX12_workExact_102 rfl ?_
        refine G_lconst (v := 0) dX12_workExact_103 (by decide) ?_
        refine G_lconst (v := 0) dX12_workExact_104 (by decide) ?_
        obtain ⟨Q2, ok2, w⟩ := w
        refine G_callV (Z := mX12_layExact) (As := [.int x1, .long (0 : Int64), .long (0 : Int64)]) (st := []) hL_X12_216 hI_X12_layExact hS_X12_layExact hC_X12_layExact hN_X12 nX12_layExact (by decide) hs1 rfl rfl rfl (Nat.le_of_ble_eq_true rfl) dX12_workExact_105 ok2 (fun r_ h_2 z_ => ?_)
        obtain ⟨rfl, q_2⟩ := z_
        have w := w h_2 q_2
        refine G_goto (tgt := 225) dX12_workExact_108 (by decide) ?_
        refine G_iinc (v := -1) 7 rfl dX12_workExact_225 (by decide) (by decide) (lv' := [(1, .int (x1 + (-1))), (10, .long (h_1.2.2.2 r0_exactLower ((x1 + (1 : Int32)) + (h_1.2.2.1 r0_sizeOf (x1 + (1 : Int32)).toNatClampNeg)).toNatClampNeg)), (8, .long (h_1.2.2.2 r0_exactUpper ((x1 + (1 : Int32)) + (h_1.2.2.1 r0_sizeOf (x1 + (1 : Int32)).toNatClampNeg)).toNatClampNeg)), (6, .long (h_1.2.2.2 r0_exactLower (x1 + (1 : Int32)).toNatClampNeg)), (4, .long (h_1.2.2.2 r0_exactUpper (x1 + (1 : Int32)).toNatClampNeg)), (3, .int ((x1 + (1 : Int32)) + (h_1.2.2.1 r0_sizeOf (x1 + (1 : Int32)).toNatClampNeg))), (2, .int (x1 + (1 : Int32))), (0, .ref r0)]) rfl ?_
        refine G_goto (tgt := 11) dX12_workExact_228 (by decide) ?_
        exact G_sub [7, 0] rfl w
      · have w := w.2 c3
        refine G_lload 0 rfl dX12_workExact_94 ?_
        refine G_lconst (v := 0) dX12_workExact_96 (by decide) ?_
        refine G_lif_ne (tgt := 111) dX12_workExact_97 dX12_workExact_98 (by decide) (fun c4 => ?_) (fun c4 => ?_)
        · have w := w.1 c4
          refine G_aload_n 6 rfl dX12_workExact_111 rfl ?_
          refine G_getr (j := r0_now) (k := 13) hs1 (q := (RX12, TX12, 40)) rfl inX12 (by decide) rfl hF_X12_22 dX12_workExact_112 ?_
          refine G_iload_n 7 rfl dX12_workExact_115 rfl ?_
          refine G_iald hs2 sd1 dX12_workExact_116 ?_
          refine G_bipush (v := 43) dX12_workExact_117 (by decide) ?_
          refine G_icmp_ne (tgt := 146) dX12_workExact_119 (by decide) (fun c5 => ?_) (fun c5 => ?_)
          · have w := w.1 c5
            refine G_aload_n 6 rfl dX12_workExact_146 rfl ?_
            refine G_getr (j := r0_now) (k := 13) hs1 (q := (RX12, TX12, 40)) rfl inX12 (by decide) rfl hF_X12_22 dX12_workExact_147 ?_
            refine G_iload_n 7 rfl dX12_workExact_150 rfl ?_
            refine G_iald hs2 sd1 dX12_workExact_151 ?_
            refine G_bipush (v := 45) dX12_workExact_152 (by decide) ?_
            refine G_icmp_ne (tgt := 181) dX12_workExact_154 (by decide) (fun c6 => ?_) (fun c6 => ?_)
            · have w := w.1 c6
              refine G_aload_n 6 rfl dX12_workExact_181 rfl ?_
              refine G_getr (j := r0_now) (k := 13) hs1 (q := (RX12, TX12, 40)) rfl inX12 (by decide) rfl hF_X12_22 dX12_workExact_182 ?_
              refine G_iload_n 7 rfl dX12_workExact_185 rfl ?_
              refine G_iald hs2 sd1 dX12_workExact_186 ?_
              refine G_bipush (v := 42) dX12_workExact_187 (by decide) ?_
              refine G_icmp_ne (tgt := 210) dX12_workExact_189 (by decide) (fun c7 => ?_) (fun c7 => ?_)
              · have w := w.1 c7
                refine G_aload_n 6 rfl dX12_workExact_210 rfl ?_
                refine G_iload_n 7 rfl dX12_workExact_211 rfl ?_
                refine G_lload 3 rfl dX12_workExact_212 ?_
                refine G_lload 0 rfl dX12_workExact_214 ?_
                refine G_lmul dX12_workExact_216 ?_
                refine G_lload 2 rfl dX12_workExact_217 ?_
                refine G_lload 1 rfl dX12_workExact_219 ?_
                refine G_lmul dX12_workExact_221 ?_
                obtain ⟨Q3, ok3, w⟩ := w
                refine G_callV (Z := mX12_layExact) (As := [.int x1, .long ((h_1.2.2.2 r0_exactUpper (x1 + (1 : Int32)).toNatClampNeg) * (h_1.2.2.2 r0_exactLower ((x1 + (1 : Int32)) + (h_1.2.2.1 r0_sizeOf (x1 + (1 : Int32)).toNatClampNeg)).toNatClampNeg)), .long ((h_1.2.2.2 r0_exactLower (x1 + (1 : Int32)).toNatClampNeg) * (h_1.2.2.2 r0_exactUpper ((x1 + (1 : Int32)) + (h_1.2.2.1 r0_sizeOf (x1 + (1 : Int32)).toNatClampNeg)).toNatClampNeg))]) (st := []) hL_X12_216 hI_X12_layExact hS_X12_layExact hC_X12_layExact hN_X12 nX12_layExact (by decide) hs1 rfl rfl rfl (Nat.le_of_ble_eq_true rfl) dX12_workExact_222 ok3 (fun r_ h_3 z_ => ?_)
                obtain ⟨rfl, q_3⟩ := z_
                have w := w h_3 q_3
                refine G_iinc (v := -1) 7 rfl dX12_workExact_225 (by decide) (by decide) (lv' := [(1, .int (x1 + (-1))), (10, .long (h_1.2.2.2 r0_exactLower ((x1 + (1 : Int32)) + (h_1.2.2.1 r0_sizeOf (x1 + (1 : Int32)).toNatClampNeg)).toNatClampNeg)), (8, .long (h_1.2.2.2 r0_exactUpper ((x1 + (1 : Int32)) + (h_1.2.2.1 r0_sizeOf (x1 + (1 : Int32)).toNatClampNeg)).toNatClampNeg)), (6, .long (h_1.2.2.2 r0_exactLower (x1 + (1 : Int32)).toNatClampNeg)), (4, .long (h_1.2.2.2 r0_exactUpper (x1 + (1 : Int32)).toNatClampNeg)), (3, .int ((x1 + (1 : Int32)) + (h_1.2.2.1 r0_sizeOf (x1 + (1 : Int32)).toNatClampNeg))), (2, .int (x1 + (1 : Int32))), (0, .ref r0)]) rfl ?_
                refine G_goto (tgt := 11) dX12_workExact_228 (by decide) ?_
                exact G_sub [7, 0] rfl w
              · have w := w.2 c7
                refine G_aload_n 6 rfl dX12_workExact_192 rfl ?_
                refine G_iload_n 7 rfl dX12_workExact_193 rfl ?_
                refine G_lload 3 rfl dX12_workExact_194 ?_
                refine G_lload 1 rfl dX12_workExact_196 ?_
                refine G_lmul dX12_workExact_198 ?_
                refine G_lload 2 rfl dX12_workExact_199 ?_
                refine G_lload 0 rfl dX12_workExact_201 ?_
                refine G_lmul dX12_workExact_203 ?_
                obtain ⟨Q4, ok4, w⟩ := w
                refine G_callV (Z := mX12_layExact) (As := [.int x1, .long ((h_1.2.2.2 r0_exactUpper (x1 + (1 : Int32)).toNatClampNeg) * (h_1.2.2.2 r0_exactUpper ((x1 + (1 : Int32)) + (h_1.2.2.1 r0_sizeOf (x1 + (1 : Int32)).toNatClampNeg)).toNatClampNeg)), .long ((h_1.2.2.2 r0_exactLower (x1 + (1 : Int32)).toNatClampNeg) * (h_1.2.2.2 r0_exactLower ((x1 + (1 : Int32)) + (h_1.2.2.1 r0_sizeOf (x1 + (1 : Int32)).toNatClampNeg)).toNatClampNeg))]) (st := []) hL_X12_216 hI_X12_layExact hS_X12_layExact hC_X12_layExact hN_X12 nX12_layExact (by decide) hs1 rfl rfl rfl (Nat.le_of_ble_eq_true rfl) dX12_workExact_204 ok4 (fun r_ h_4 z_ => ?_)
                obtain ⟨rfl, q_4⟩ := z_
                have w := w h_4 q_4
                refine G_goto (tgt := 225) dX12_workExact_207 (by decide) ?_
                refine G_iinc (v := -1) 7 rfl dX12_workExact_225 (by decide) (by decide) (lv' := [(1, .int (x1 + (-1))), (10, .long (h_1.2.2.2 r0_exactLower ((x1 + (1 : Int32)) + (h_1.2.2.1 r0_sizeOf (x1 + (1 : Int32)).toNatClampNeg)).toNatClampNeg)), (8, .long (h_1.2.2.2 r0_exactUpper ((x1 + (1 : Int32)) + (h_1.2.2.1 r0_sizeOf (x1 + (1 : Int32)).toNatClampNeg)).toNatClampNeg)), (6, .long (h_1.2.2.2 r0_exactLower (x1 + (1 : Int32)).toNatClampNeg)), (4, .long (h_1.2.2.2 r0_exactUpper (x1 + (1 : Int32)).toNatClampNeg)), (3, .int ((x1 + (1 : Int32)) + (h_1.2.2.1 r0_sizeOf (x1 + (1 : Int32)).toNatClampNeg))), (2, .int (x1 + (1 : Int32))), (0, .ref r0)]) rfl ?_
                refine G_goto (tgt := 11) dX12_workExact_228 (by decide) ?_
                exact G_sub [7, 0] rfl w
            · have w := w.2 c6
              refine G_aload_n 6 rfl dX12_workExact_157 rfl ?_
              refine G_iload_n 7 rfl dX12_workExact_158 rfl ?_
              refine G_lload 3 rfl dX12_workExact_159 ?_
              refine G_lload 0 rfl dX12_workExact_161 ?_
              refine G_lmul dX12_workExact_163 ?_
              refine G_lload 1 rfl dX12_workExact_164 ?_
              refine G_lload 2 rfl dX12_workExact_166 ?_
              refine G_lmul dX12_workExact_168 ?_
              refine G_lsub dX12_workExact_169 ?_
              refine G_lload 2 rfl dX12_workExact_170 ?_
              refine G_lload 0 rfl dX12_workExact_172 ?_
              refine G_lmul dX12_workExact_174 ?_
              obtain ⟨Q5, ok5, w⟩ := w
              refine G_callV (Z := mX12_layExact) (As := [.int x1, .long (((h_1.2.2.2 r0_exactUpper (x1 + (1 : Int32)).toNatClampNeg) * (h_1.2.2.2 r0_exactLower ((x1 + (1 : Int32)) + (h_1.2.2.1 r0_sizeOf (x1 + (1 : Int32)).toNatClampNeg)).toNatClampNeg)) - ((h_1.2.2.2 r0_exactUpper ((x1 + (1 : Int32)) + (h_1.2.2.1 r0_sizeOf (x1 + (1 : Int32)).toNatClampNeg)).toNatClampNeg) * (h_1.2.2.2 r0_exactLower (x1 + (1 : Int32)).toNatClampNeg))), .long ((h_1.2.2.2 r0_exactLower (x1 + (1 : Int32)).toNatClampNeg) * (h_1.2.2.2 r0_exactLower ((x1 + (1 : Int32)) + (h_1.2.2.1 r0_sizeOf (x1 + (1 : Int32)).toNatClampNeg)).toNatClampNeg))]) (st := []) hL_X12_216 hI_X12_layExact hS_X12_layExact hC_X12_layExact hN_X12 nX12_layExact (by decide) hs1 rfl rfl rfl (Nat.le_of_ble_eq_true rfl) dX12_workExact_175 ok5 (fun r_ h_5 z_ => ?_)
              obtain ⟨rfl, q_5⟩ := z_
              have w := w h_5 q_5
              refine G_goto (tgt := 225) dX12_workExact_178 (by decide) ?_
              refine G_iinc (v := -1) 7 rfl dX12_workExact_225 (by decide) (by decide) (lv' := [(1, .int (x1 + (-1))), (10, .long (h_1.2.2.2 r0_exactLower ((x1 + (1 : Int32)) + (h_1.2.2.1 r0_sizeOf (x1 + (1 : Int32)).toNatClampNeg)).toNatClampNeg)), (8, .long (h_1.2.2.2 r0_exactUpper ((x1 + (1 : Int32)) + (h_1.2.2.1 r0_sizeOf (x1 + (1 : Int32)).toNatClampNeg)).toNatClampNeg)), (6, .long (h_1.2.2.2 r0_exactLower (x1 + (1 : Int32)).toNatClampNeg)), (4, .long (h_1.2.2.2 r0_exactUpper (x1 + (1 : Int32)).toNatClampNeg)), (3, .int ((x1 + (1 : Int32)) + (h_1.2.2.1 r0_sizeOf (x1 + (1 : Int32)).toNatClampNeg))), (2, .int (x1 + (1 : Int32))), (0, .ref r0)]) rfl ?_
              refine G_goto (tgt := 11) dX12_workExact_228 (by decide) ?_
              exact G_sub [7, 0] rfl w
          · have w := w.2 c5
            refine G_aload_n 6 rfl dX12_workExact_122 rfl ?_
            refine G_iload_n 7 rfl dX12_workExact_123 rfl ?_
            refine G_lload 3 rfl dX12_workExact_124 ?_
            refine G_lload 0 rfl dX12_workExact_126 ?_
            refine G_lmul dX12_workExact_128 ?_
            refine G_lload 1 rfl dX12_workExact_129 ?_
            refine G_lload 2 rfl dX12_workExact_131 ?_
            refine G_lmul dX12_workExact_133 ?_
            refine G_ladd dX12_workExact_134 ?_
            refine G_lload 2 rfl dX12_workExact_135 ?_
            refine G_lload 0 rfl dX12_workExact_137 ?_
            refine G_lmul dX12_workExact_139 ?_
            obtain ⟨Q6, ok6, w⟩ := w
            refine G_callV (Z := mX12_layExact) (As := [.int x1, .long (((h_1.2.2.2 r0_exactUpper (x1 + (1 : Int32)).toNatClampNeg) * (h_1.2.2.2 r0_exactLower ((x1 + (1 : Int32)) + (h_1.2.2.1 r0_sizeOf (x1 + (1 : Int32)).toNatClampNeg)).toNatClampNeg)) + ((h_1.2.2.2 r0_exactUpper ((x1 + (1 : Int32)) + (h_1.2.2.1 r0_sizeOf (x1 + (1 : Int32)).toNatClampNeg)).toNatClampNeg) * (h_1.2.2.2 r0_exactLower (x1 + (1 : Int32)).toNatClampNeg))), .long ((h_1.2.2.2 r0_exactLower (x1 + (1 : Int32)).toNatClampNeg) * (h_1.2.2.2 r0_exactLower ((x1 + (1 : Int32)) + (h_1.2.2.1 r0_sizeOf (x1 + (1 : Int32)).toNatClampNeg)).toNatClampNeg))]) (st := []) hL_X12_216 hI_X12_layExact hS_X12_layExact hC_X12_layExact hN_X12 nX12_layExact (by decide) hs1 rfl rfl rfl (Nat.le_of_ble_eq_true rfl) dX12_workExact_140 ok6 (fun r_ h_6 z_ => ?_)
            obtain ⟨rfl, q_6⟩ := z_
            have w := w h_6 q_6
            refine G_goto (tgt := 225) dX12_workExact_143 (by decide) ?_
            refine G_iinc (v := -1) 7 rfl dX12_workExact_225 (by decide) (by decide) (lv' := [(1, .int (x1 + (-1))), (10, .long (h_1.2.2.2 r0_exactLower ((x1 + (1 : Int32)) + (h_1.2.2.1 r0_sizeOf (x1 + (1 : Int32)).toNatClampNeg)).toNatClampNeg)), (8, .long (h_1.2.2.2 r0_exactUpper ((x1 + (1 : Int32)) + (h_1.2.2.1 r0_sizeOf (x1 + (1 : Int32)).toNatClampNeg)).toNatClampNeg)), (6, .long (h_1.2.2.2 r0_exactLower (x1 + (1 : Int32)).toNatClampNeg)), (4, .long (h_1.2.2.2 r0_exactUpper (x1 + (1 : Int32)).toNatClampNeg)), (3, .int ((x1 + (1 : Int32)) + (h_1.2.2.1 r0_sizeOf (x1 + (1 : Int32)).toNatClampNeg))), (2, .int (x1 + (1 : Int32))), (0, .ref r0)]) rfl ?_
            refine G_goto (tgt := 11) dX12_workExact_228 (by decide) ?_
            exact G_sub [7, 0] rfl w
        · have w := w.2 c4
          refine G_aload_n 6 rfl dX12_workExact_101 rfl ?_
          refine G_iload_n 7 rfl dX12_workExact_102 rfl ?_
          refine G_lconst (v := 0) dX12_workExact_103 (by decide) ?_
          refine G_lconst (v := 0) dX12_workExact_104 (by decide) ?_
          obtain ⟨Q7, ok7, w⟩ := w
          refine G_callV (Z := mX12_layExact) (As := [.int x1, .long (0 : Int64), .long (0 : Int64)]) (st := []) hL_X12_216 hI_X12_layExact hS_X12_layExact hC_X12_layExact hN_X12 nX12_layExact (by decide) hs1 rfl rfl rfl (Nat.le_of_ble_eq_true rfl) dX12_workExact_105 ok7 (fun r_ h_7 z_ => ?_)
          obtain ⟨rfl, q_7⟩ := z_
          have w := w h_7 q_7
          refine G_goto (tgt := 225) dX12_workExact_108 (by decide) ?_
          refine G_iinc (v := -1) 7 rfl dX12_workExact_225 (by decide) (by decide) (lv' := [(1, .int (x1 + (-1))), (10, .long (h_1.2.2.2 r0_exactLower ((x1 + (1 : Int32)) + (h_1.2.2.1 r0_sizeOf (x1 + (1 : Int32)).toNatClampNeg)).toNatClampNeg)), (8, .long (h_1.2.2.2 r0_exactUpper ((x1 + (1 : Int32)) + (h_1.2.2.1 r0_sizeOf (x1 + (1 : Int32)).toNatClampNeg)).toNatClampNeg)), (6, .long (h_1.2.2.2 r0_exactLower (x1 + (1 : Int32)).toNatClampNeg)), (4, .long (h_1.2.2.2 r0_exactUpper (x1 + (1 : Int32)).toNatClampNeg)), (3, .int ((x1 + (1 : Int32)) + (h_1.2.2.1 r0_sizeOf (x1 + (1 : Int32)).toNatClampNeg))), (2, .int (x1 + (1 : Int32))), (0, .ref r0)]) rfl ?_
          refine G_goto (tgt := 11) dX12_workExact_228 (by decide) ?_
          exact G_sub [7, 0] rfl w
    · have w := w.2 c2
      refine G_aload_n 0 rfl dX12_workExact_27 rfl ?_
      refine G_iload_n 1 rfl dX12_workExact_28 rfl ?_
      refine G_aload_n 0 rfl dX12_workExact_29 rfl ?_
      refine G_iload_n 1 rfl dX12_workExact_30 rfl ?_
      obtain ⟨Q8, ok8, w⟩ := w
      refine G_callV (Z := mX12_wholeAt) (As := [.int x1]) (st := [.int x1, .ref r0]) hL_X12_208 hI_X12_wholeAt hS_X12_wholeAt hC_X12_wholeAt hN_X12 nX12_wholeAt (by decide) hs1 rfl rfl rfl (Nat.le_of_ble_eq_true rfl) dX12_workExact_31 ok8 (fun r_ h_8 z_ => ?_)
      obtain ⟨v_8, rfl, q_8⟩ := z_
      have w := w v_8 h_8 q_8
      refine G_i2l dX12_workExact_34 ?_
      refine G_lconst (v := 1) dX12_workExact_35 (by decide) ?_
      obtain ⟨Q9, ok9, w⟩ := w
      refine G_callV (Z := mX12_layExact) (As := [.int x1, .long v_8.toInt64, .long (1 : Int64)]) (st := []) hL_X12_216 hI_X12_layExact hS_X12_layExact hC_X12_layExact hN_X12 nX12_layExact (by decide) hs1 rfl rfl rfl (Nat.le_of_ble_eq_true rfl) dX12_workExact_36 ok9 (fun r_ h_9 z_ => ?_)
      obtain ⟨rfl, q_9⟩ := z_
      have w := w h_9 q_9
      refine G_goto (tgt := 225) dX12_workExact_39 (by decide) ?_
      refine G_iinc (v := -1) 1 rfl dX12_workExact_225 (by decide) (by decide) (lv' := [(1, .int (x1 + (-1))), (0, .ref r0)]) rfl ?_
      refine G_goto (tgt := 11) dX12_workExact_228 (by decide) ?_
      exact G_sub [1, 0] rfl w

-- LostDigitsModel.layBase
theorem dX12_layBase_0 : decode cX12_layBase 0 = .ok (.aload_n 0, 1) := by decide +kernel
theorem dX12_layBase_1 : decode cX12_layBase 1 = .ok (.aload_n 0, 1) := by decide +kernel
theorem dX12_layBase_2 : decode cX12_layBase 2 = .ok (.getfield 345, 3) := by decide +kernel
theorem dX12_layBase_5 : decode cX12_layBase 5 = .ok (.putfield 192, 3) := by decide +kernel
theorem dX12_layBase_8 : decode cX12_layBase 8 = .ok (.iconst 0, 1) := by decide +kernel
theorem dX12_layBase_9 : decode cX12_layBase 9 = .ok (.istore_n 1, 1) := by decide +kernel
theorem dX12_layBase_10 : decode cX12_layBase 10 = .ok (.iload_n 1, 1) := by decide +kernel
theorem dX12_layBase_11 : decode cX12_layBase 11 = .ok (.aload_n 0, 1) := by decide +kernel
theorem dX12_layBase_12 : decode cX12_layBase 12 = .ok (.getfield 345, 3) := by decide +kernel
theorem dX12_layBase_15 : decode cX12_layBase 15 = .ok (.if_icmp .ge 21, 3) := by decide +kernel
theorem dX12_layBase_18 : decode cX12_layBase 18 = .ok (.aload_n 0, 1) := by decide +kernel
theorem dX12_layBase_19 : decode cX12_layBase 19 = .ok (.getfield 22, 3) := by decide +kernel
theorem dX12_layBase_22 : decode cX12_layBase 22 = .ok (.iload_n 1, 1) := by decide +kernel
theorem dX12_layBase_23 : decode cX12_layBase 23 = .ok (.aload_n 0, 1) := by decide +kernel
theorem dX12_layBase_24 : decode cX12_layBase 24 = .ok (.getfield 65, 3) := by decide +kernel
theorem dX12_layBase_27 : decode cX12_layBase 27 = .ok (.iload_n 1, 1) := by decide +kernel
theorem dX12_layBase_28 : decode cX12_layBase 28 = .ok (.iaload, 1) := by decide +kernel
theorem dX12_layBase_29 : decode cX12_layBase 29 = .ok (.iastore, 1) := by decide +kernel
theorem dX12_layBase_30 : decode cX12_layBase 30 = .ok (.iinc 1 1, 3) := by decide +kernel
theorem dX12_layBase_33 : decode cX12_layBase 33 = .ok (.goto (-23), 3) := by decide +kernel
theorem dX12_layBase_36 : decode cX12_layBase 36 = .ok (.return_, 1) := by decide +kernel

set_option maxRecDepth 10000 in
theorem TX12_layBase_0 {d : Nat} {S : fW} {h : fH} {Q : fH → Prop} {r0 : Nat} {r0_pad r0_text r0_number r0_span r0_now r0_sizeOf r0_workedTo r0_slip r0_exactUpper r0_exactLower r0_more r0_terms r0_order r0_bestOrder r0_low r0_high r0_built r0_better r0_base r0_kept r0_isKept : Nat}  
    (hs1 : (r0, shX12 r0_pad r0_text r0_number r0_span r0_now r0_sizeOf r0_workedTo r0_slip r0_exactUpper r0_exactLower r0_more r0_terms r0_order r0_bestOrder r0_low r0_high r0_built r0_better r0_base r0_kept r0_isKept) ∈ S)
    (k1 : G mX12_layBase d S (f_PV Q) 10 [(0, .ref r0), (1, .int (0 : Int32))] [] (u_fi h r0 14 (h.1 r0 35))) :
    OkV d mX12_layBase S [.ref r0] h Q := by
  refine Ok.of (by decide) (Nat.le_of_ble_eq_true rfl) ?_
  refine G_aload_n 0 rfl dX12_layBase_0 rfl ?_
  refine G_aload_n 0 rfl dX12_layBase_1 rfl ?_
  refine G_geti (k := 35) hs1 (q := (RX12, TX12, 40)) rfl inX12 (by decide) (Or.inl rfl) hF_X12_345 dX12_layBase_2 ?_
  refine G_puti (k := 14) tyX12 hs1 (q := (RX12, TX12, 40)) rfl inX12 tyX12_ok nmX12 (by decide) rfl rfl rfl hF_X12_192 dX12_layBase_5 ?_
  refine G_iconst (v := 0) dX12_layBase_8 (by decide) ?_
  refine G_istore_n dX12_layBase_9 rfl (by decide) (lv' := [(1, .int (0 : Int32)), (0, .ref r0)]) rfl ?_
  exact G_sub [1, 0] rfl (k1)

set_option maxRecDepth 10000 in
theorem TX12_layBase_10 {d : Nat} {S : fW} {h : fH} {Q : fH → Prop} {r0 : Nat} {x1 : Int32} {r0_pad r0_text r0_number r0_span r0_now r0_sizeOf r0_workedTo r0_slip r0_exactUpper r0_exactLower r0_more r0_terms r0_order r0_bestOrder r0_low r0_high r0_built r0_better r0_base r0_kept r0_isKept : Nat}  
    (hs1 : (r0, shX12 r0_pad r0_text r0_number r0_span r0_now r0_sizeOf r0_workedTo r0_slip r0_exactUpper r0_exactLower r0_more r0_terms r0_order r0_bestOrder r0_low r0_high r0_built r0_better r0_base r0_kept r0_isKept) ∈ S)
    (k1 : (h.1 r0 35) ≤ x1 → Q h)
    (hs2 : (r0_base, shI 13) ∈ S)
    (sd1 : ¬ (h.1 r0 35) ≤ x1 → vp_in x1 13)
    (hs3 : (r0_now, shI 13) ∈ S)
    (k2 : ¬ (h.1 r0 35) ≤ x1 → G mX12_layBase d S (f_PV Q) 10 [(0, .ref r0), (1, .int (x1 + 1))] [] (u_ai h r0_now (upd (h.2.2.1 r0_now) x1.toNatClampNeg (h.2.2.1 r0_base x1.toNatClampNeg)))) :
    G mX12_layBase d S (f_PV Q) 10 [(0, .ref r0), (1, .int x1)] [] h := by
  refine G_iload_n 1 rfl dX12_layBase_10 rfl ?_
  refine G_aload_n 0 rfl dX12_layBase_11 rfl ?_
  refine G_geti (k := 35) hs1 (q := (RX12, TX12, 40)) rfl inX12 (by decide) (Or.inl rfl) hF_X12_345 dX12_layBase_12 ?_
  refine G_icmp_ge (tgt := 36) dX12_layBase_15 (by decide) (fun c1 => ?_) (fun c1 => ?_)
  · exact G_vret rfl dX12_layBase_36 ⟨rfl, (k1 c1)⟩
  · refine G_aload_n 0 rfl dX12_layBase_18 rfl ?_
    refine G_getr (j := r0_now) (k := 13) hs1 (q := (RX12, TX12, 40)) rfl inX12 (by decide) rfl hF_X12_22 dX12_layBase_19 ?_
    refine G_iload_n 1 rfl dX12_layBase_22 rfl ?_
    refine G_aload_n 0 rfl dX12_layBase_23 rfl ?_
    refine G_getr (j := r0_base) (k := 34) hs1 (q := (RX12, TX12, 40)) rfl inX12 (by decide) rfl hF_X12_65 dX12_layBase_24 ?_
    refine G_iload_n 1 rfl dX12_layBase_27 rfl ?_
    refine G_iald hs2 (sd1 c1) dX12_layBase_28 ?_
    refine G_iast hs3 (sd1 c1) dX12_layBase_29 ?_
    refine G_iinc (v := 1) 1 rfl dX12_layBase_30 (by decide) (by decide) (lv' := [(1, .int (x1 + 1)), (0, .ref r0)]) rfl ?_
    refine G_goto (tgt := 10) dX12_layBase_33 (by decide) ?_
    exact G_sub [1, 0] rfl (k2 c1)

-- LostDigitsModel.keepBase
theorem dX12_keepBase_0 : decode cX12_keepBase 0 = .ok (.aload_n 0, 1) := by decide +kernel
theorem dX12_keepBase_1 : decode cX12_keepBase 1 = .ok (.aload_n 0, 1) := by decide +kernel
theorem dX12_keepBase_2 : decode cX12_keepBase 2 = .ok (.getfield 192, 3) := by decide +kernel
theorem dX12_keepBase_5 : decode cX12_keepBase 5 = .ok (.putfield 345, 3) := by decide +kernel
theorem dX12_keepBase_8 : decode cX12_keepBase 8 = .ok (.iconst 0, 1) := by decide +kernel
theorem dX12_keepBase_9 : decode cX12_keepBase 9 = .ok (.istore_n 1, 1) := by decide +kernel
theorem dX12_keepBase_10 : decode cX12_keepBase 10 = .ok (.iload_n 1, 1) := by decide +kernel
theorem dX12_keepBase_11 : decode cX12_keepBase 11 = .ok (.aload_n 0, 1) := by decide +kernel
theorem dX12_keepBase_12 : decode cX12_keepBase 12 = .ok (.getfield 192, 3) := by decide +kernel
theorem dX12_keepBase_15 : decode cX12_keepBase 15 = .ok (.if_icmp .ge 21, 3) := by decide +kernel
theorem dX12_keepBase_18 : decode cX12_keepBase 18 = .ok (.aload_n 0, 1) := by decide +kernel
theorem dX12_keepBase_19 : decode cX12_keepBase 19 = .ok (.getfield 65, 3) := by decide +kernel
theorem dX12_keepBase_22 : decode cX12_keepBase 22 = .ok (.iload_n 1, 1) := by decide +kernel
theorem dX12_keepBase_23 : decode cX12_keepBase 23 = .ok (.aload_n 0, 1) := by decide +kernel
theorem dX12_keepBase_24 : decode cX12_keepBase 24 = .ok (.getfield 22, 3) := by decide +kernel
theorem dX12_keepBase_27 : decode cX12_keepBase 27 = .ok (.iload_n 1, 1) := by decide +kernel
theorem dX12_keepBase_28 : decode cX12_keepBase 28 = .ok (.iaload, 1) := by decide +kernel
theorem dX12_keepBase_29 : decode cX12_keepBase 29 = .ok (.iastore, 1) := by decide +kernel
theorem dX12_keepBase_30 : decode cX12_keepBase 30 = .ok (.iinc 1 1, 3) := by decide +kernel
theorem dX12_keepBase_33 : decode cX12_keepBase 33 = .ok (.goto (-23), 3) := by decide +kernel
theorem dX12_keepBase_36 : decode cX12_keepBase 36 = .ok (.return_, 1) := by decide +kernel

set_option maxRecDepth 10000 in
theorem TX12_keepBase_0 {d : Nat} {S : fW} {h : fH} {Q : fH → Prop} {r0 : Nat} {r0_pad r0_text r0_number r0_span r0_now r0_sizeOf r0_workedTo r0_slip r0_exactUpper r0_exactLower r0_more r0_terms r0_order r0_bestOrder r0_low r0_high r0_built r0_better r0_base r0_kept r0_isKept : Nat}  
    (hs1 : (r0, shX12 r0_pad r0_text r0_number r0_span r0_now r0_sizeOf r0_workedTo r0_slip r0_exactUpper r0_exactLower r0_more r0_terms r0_order r0_bestOrder r0_low r0_high r0_built r0_better r0_base r0_kept r0_isKept) ∈ S)
    (k1 : G mX12_keepBase d S (f_PV Q) 10 [(0, .ref r0), (1, .int (0 : Int32))] [] (u_fi h r0 35 (h.1 r0 14))) :
    OkV d mX12_keepBase S [.ref r0] h Q := by
  refine Ok.of (by decide) (Nat.le_of_ble_eq_true rfl) ?_
  refine G_aload_n 0 rfl dX12_keepBase_0 rfl ?_
  refine G_aload_n 0 rfl dX12_keepBase_1 rfl ?_
  refine G_geti (k := 14) hs1 (q := (RX12, TX12, 40)) rfl inX12 (by decide) (Or.inl rfl) hF_X12_192 dX12_keepBase_2 ?_
  refine G_puti (k := 35) tyX12 hs1 (q := (RX12, TX12, 40)) rfl inX12 tyX12_ok nmX12 (by decide) rfl rfl rfl hF_X12_345 dX12_keepBase_5 ?_
  refine G_iconst (v := 0) dX12_keepBase_8 (by decide) ?_
  refine G_istore_n dX12_keepBase_9 rfl (by decide) (lv' := [(1, .int (0 : Int32)), (0, .ref r0)]) rfl ?_
  exact G_sub [1, 0] rfl (k1)

set_option maxRecDepth 10000 in
theorem TX12_keepBase_10 {d : Nat} {S : fW} {h : fH} {Q : fH → Prop} {r0 : Nat} {x1 : Int32} {r0_pad r0_text r0_number r0_span r0_now r0_sizeOf r0_workedTo r0_slip r0_exactUpper r0_exactLower r0_more r0_terms r0_order r0_bestOrder r0_low r0_high r0_built r0_better r0_base r0_kept r0_isKept : Nat}  
    (hs1 : (r0, shX12 r0_pad r0_text r0_number r0_span r0_now r0_sizeOf r0_workedTo r0_slip r0_exactUpper r0_exactLower r0_more r0_terms r0_order r0_bestOrder r0_low r0_high r0_built r0_better r0_base r0_kept r0_isKept) ∈ S)
    (k1 : (h.1 r0 14) ≤ x1 → Q h)
    (hs2 : (r0_now, shI 13) ∈ S)
    (sd1 : ¬ (h.1 r0 14) ≤ x1 → vp_in x1 13)
    (hs3 : (r0_base, shI 13) ∈ S)
    (k2 : ¬ (h.1 r0 14) ≤ x1 → G mX12_keepBase d S (f_PV Q) 10 [(0, .ref r0), (1, .int (x1 + 1))] [] (u_ai h r0_base (upd (h.2.2.1 r0_base) x1.toNatClampNeg (h.2.2.1 r0_now x1.toNatClampNeg)))) :
    G mX12_keepBase d S (f_PV Q) 10 [(0, .ref r0), (1, .int x1)] [] h := by
  refine G_iload_n 1 rfl dX12_keepBase_10 rfl ?_
  refine G_aload_n 0 rfl dX12_keepBase_11 rfl ?_
  refine G_geti (k := 14) hs1 (q := (RX12, TX12, 40)) rfl inX12 (by decide) (Or.inl rfl) hF_X12_192 dX12_keepBase_12 ?_
  refine G_icmp_ge (tgt := 36) dX12_keepBase_15 (by decide) (fun c1 => ?_) (fun c1 => ?_)
  · exact G_vret rfl dX12_keepBase_36 ⟨rfl, (k1 c1)⟩
  · refine G_aload_n 0 rfl dX12_keepBase_18 rfl ?_
    refine G_getr (j := r0_base) (k := 34) hs1 (q := (RX12, TX12, 40)) rfl inX12 (by decide) rfl hF_X12_65 dX12_keepBase_19 ?_
    refine G_iload_n 1 rfl dX12_keepBase_22 rfl ?_
    refine G_aload_n 0 rfl dX12_keepBase_23 rfl ?_
    refine G_getr (j := r0_now) (k := 13) hs1 (q := (RX12, TX12, 40)) rfl inX12 (by decide) rfl hF_X12_22 dX12_keepBase_24 ?_
    refine G_iload_n 1 rfl dX12_keepBase_27 rfl ?_
    refine G_iald hs2 (sd1 c1) dX12_keepBase_28 ?_
    refine G_iast hs3 (sd1 c1) dX12_keepBase_29 ?_
    refine G_iinc (v := 1) 1 rfl dX12_keepBase_30 (by decide) (by decide) (lv' := [(1, .int (x1 + 1)), (0, .ref r0)]) rfl ?_
    refine G_goto (tgt := 10) dX12_keepBase_33 (by decide) ?_
    exact G_sub [1, 0] rfl (k2 c1)

-- LostDigitsModel.holdAll
theorem dX12_holdAll_0 : decode cX12_holdAll 0 = .ok (.aload_n 0, 1) := by decide +kernel
theorem dX12_holdAll_1 : decode cX12_holdAll 1 = .ok (.getfield 345, 3) := by decide +kernel
theorem dX12_holdAll_4 : decode cX12_holdAll 4 = .ok (.istore_n 1, 1) := by decide +kernel
theorem dX12_holdAll_5 : decode cX12_holdAll 5 = .ok (.iconst 0, 1) := by decide +kernel
theorem dX12_holdAll_6 : decode cX12_holdAll 6 = .ok (.istore_n 2, 1) := by decide +kernel
theorem dX12_holdAll_7 : decode cX12_holdAll 7 = .ok (.iload_n 2, 1) := by decide +kernel
theorem dX12_holdAll_8 : decode cX12_holdAll 8 = .ok (.iload_n 1, 1) := by decide +kernel
theorem dX12_holdAll_9 : decode cX12_holdAll 9 = .ok (.if_icmp .ge 44, 3) := by decide +kernel
theorem dX12_holdAll_12 : decode cX12_holdAll 12 = .ok (.iconst 0, 1) := by decide +kernel
theorem dX12_holdAll_13 : decode cX12_holdAll 13 = .ok (.istore_n 3, 1) := by decide +kernel
theorem dX12_holdAll_14 : decode cX12_holdAll 14 = .ok (.iload_n 3, 1) := by decide +kernel
theorem dX12_holdAll_15 : decode cX12_holdAll 15 = .ok (.bipush 7, 2) := by decide +kernel
theorem dX12_holdAll_17 : decode cX12_holdAll 17 = .ok (.if_icmp .ge 30, 3) := by decide +kernel
theorem dX12_holdAll_20 : decode cX12_holdAll 20 = .ok (.aload_n 0, 1) := by decide +kernel
theorem dX12_holdAll_21 : decode cX12_holdAll 21 = .ok (.invokevirtual 348, 3) := by decide +kernel
theorem dX12_holdAll_24 : decode cX12_holdAll 24 = .ok (.aload_n 0, 1) := by decide +kernel
theorem dX12_holdAll_25 : decode cX12_holdAll 25 = .ok (.iload_n 3, 1) := by decide +kernel
theorem dX12_holdAll_26 : decode cX12_holdAll 26 = .ok (.iload_n 2, 1) := by decide +kernel
theorem dX12_holdAll_27 : decode cX12_holdAll 27 = .ok (.invokevirtual 336, 3) := by decide +kernel
theorem dX12_holdAll_30 : decode cX12_holdAll 30 = .ok (.ifCond .eq 11, 3) := by decide +kernel
theorem dX12_holdAll_33 : decode cX12_holdAll 33 = .ok (.aload_n 0, 1) := by decide +kernel
theorem dX12_holdAll_34 : decode cX12_holdAll 34 = .ok (.invokevirtual 351, 3) := by decide +kernel
theorem dX12_holdAll_37 : decode cX12_holdAll 37 = .ok (.aload_n 0, 1) := by decide +kernel
theorem dX12_holdAll_38 : decode cX12_holdAll 38 = .ok (.invokevirtual 354, 3) := by decide +kernel
theorem dX12_holdAll_41 : decode cX12_holdAll 41 = .ok (.iinc 3 1, 3) := by decide +kernel
theorem dX12_holdAll_44 : decode cX12_holdAll 44 = .ok (.goto (-30), 3) := by decide +kernel
theorem dX12_holdAll_47 : decode cX12_holdAll 47 = .ok (.iinc 2 1, 3) := by decide +kernel
theorem dX12_holdAll_50 : decode cX12_holdAll 50 = .ok (.goto (-43), 3) := by decide +kernel
theorem dX12_holdAll_53 : decode cX12_holdAll 53 = .ok (.return_, 1) := by decide +kernel

set_option maxRecDepth 10000 in
theorem TX12_holdAll_0 {d : Nat} {S : fW} {h : fH} {Q : fH → Prop} {r0 : Nat} {r0_pad r0_text r0_number r0_span r0_now r0_sizeOf r0_workedTo r0_slip r0_exactUpper r0_exactLower r0_more r0_terms r0_order r0_bestOrder r0_low r0_high r0_built r0_better r0_base r0_kept r0_isKept : Nat}  
    (hs1 : (r0, shX12 r0_pad r0_text r0_number r0_span r0_now r0_sizeOf r0_workedTo r0_slip r0_exactUpper r0_exactLower r0_more r0_terms r0_order r0_bestOrder r0_low r0_high r0_built r0_better r0_base r0_kept r0_isKept) ∈ S)
    (k1 : G mX12_holdAll (d + 1) S (f_PV Q) 7 [(0, .ref r0), (1, .int (h.1 r0 35)), (2, .int (0 : Int32))] [] h) :
    OkV (d + 1) mX12_holdAll S [.ref r0] h Q := by
  refine Ok.of (by decide) (Nat.le_of_ble_eq_true rfl) ?_
  refine G_aload_n 0 rfl dX12_holdAll_0 rfl ?_
  refine G_geti (k := 35) hs1 (q := (RX12, TX12, 40)) rfl inX12 (by decide) (Or.inl rfl) hF_X12_345 dX12_holdAll_1 ?_
  refine G_istore_n dX12_holdAll_4 rfl (by decide) (lv' := [(1, .int (h.1 r0 35)), (0, .ref r0)]) rfl ?_
  refine G_iconst (v := 0) dX12_holdAll_5 (by decide) ?_
  refine G_istore_n dX12_holdAll_6 rfl (by decide) (lv' := [(2, .int (0 : Int32)), (1, .int (h.1 r0 35)), (0, .ref r0)]) rfl ?_
  exact G_sub [2, 1, 0] rfl (k1)

set_option maxRecDepth 10000 in
theorem TX12_holdAll_7 {d : Nat} {S : fW} {h : fH} {Q : fH → Prop} {r0 : Nat} {x1 : Int32} {x2 : Int32}  
    (k1 : x1 ≤ x2 → Q h)
    (k2 : ¬ x1 ≤ x2 → G mX12_holdAll (d + 1) S (f_PV Q) 14 [(0, .ref r0), (1, .int x1), (2, .int x2), (3, .int (0 : Int32))] [] h) :
    G mX12_holdAll (d + 1) S (f_PV Q) 7 [(0, .ref r0), (1, .int x1), (2, .int x2)] [] h := by
  refine G_iload_n 2 rfl dX12_holdAll_7 rfl ?_
  refine G_iload_n 1 rfl dX12_holdAll_8 rfl ?_
  refine G_icmp_ge (tgt := 53) dX12_holdAll_9 (by decide) (fun c1 => ?_) (fun c1 => ?_)
  · exact G_vret rfl dX12_holdAll_53 ⟨rfl, (k1 c1)⟩
  · refine G_iconst (v := 0) dX12_holdAll_12 (by decide) ?_
    refine G_istore_n dX12_holdAll_13 rfl (by decide) (lv' := [(3, .int (0 : Int32)), (0, .ref r0), (1, .int x1), (2, .int x2)]) rfl ?_
    exact G_sub [1, 2, 3, 0] rfl (k2 c1)

set_option maxRecDepth 10000 in
theorem TX12_holdAll_14 {d : Nat} {S : fW} {h : fH} {Q : fH → Prop} {r0 : Nat} {x1 : Int32} {x2 : Int32} {x3 : Int32} {r0_pad r0_text r0_number r0_span r0_now r0_sizeOf r0_workedTo r0_slip r0_exactUpper r0_exactLower r0_more r0_terms r0_order r0_bestOrder r0_low r0_high r0_built r0_better r0_base r0_kept r0_isKept : Nat} {Q1 : fH → Prop} {Q2 : fH → Int32 → fH → Prop} {Q3 : fH → Int32 → fH → fH → Prop} {Q4 : fH → Int32 → fH → fH → fH → Prop} 
    (k1 : (7 : Int32) ≤ x3 → G mX12_holdAll (d + 1) S (f_PV Q) 7 [(0, .ref r0), (1, .int x1), (2, .int (x2 + 1))] [] h)
    (hs1 : (r0, shX12 r0_pad r0_text r0_number r0_span r0_now r0_sizeOf r0_workedTo r0_slip r0_exactUpper r0_exactLower r0_more r0_terms r0_order r0_bestOrder r0_low r0_high r0_built r0_better r0_base r0_kept r0_isKept) ∈ S)
    (ok1 : ¬ (7 : Int32) ≤ x3 → OkV d mX12_layBase S [.ref r0] h Q1)
    (ok2 : ¬ (7 : Int32) ≤ x3 → ∀ h_1, Q1 h_1 → OkI d mX12_build S [.ref r0, .int x3, .int x2] h_1 (Q2 h_1))
    (k2 : ¬ (7 : Int32) ≤ x3 → ∀ h_1, Q1 h_1 → ∀ v_2 h_2, (Q2 h_1) v_2 h_2 → v_2 = 0 → G mX12_holdAll (d + 1) S (f_PV Q) 14 [(0, .ref r0), (1, .int x1), (2, .int x2), (3, .int (x3 + 1))] [] h_2)
    (ok3 : ¬ (7 : Int32) ≤ x3 → ∀ h_1, Q1 h_1 → ∀ v_2 h_2, (Q2 h_1) v_2 h_2 → ¬ v_2 = 0 → OkV d mX12_layBuilt S [.ref r0] h_2 (Q3 h_1 v_2 h_2))
    (ok4 : ¬ (7 : Int32) ≤ x3 → ∀ h_1, Q1 h_1 → ∀ v_2 h_2, (Q2 h_1) v_2 h_2 → ¬ v_2 = 0 → ∀ h_3, (Q3 h_1 v_2 h_2) h_3 → OkV d mX12_hold S [.ref r0] h_3 (Q4 h_1 v_2 h_2 h_3))
    (k3 : ¬ (7 : Int32) ≤ x3 → ∀ h_1, Q1 h_1 → ∀ v_2 h_2, (Q2 h_1) v_2 h_2 → ¬ v_2 = 0 → ∀ h_3, (Q3 h_1 v_2 h_2) h_3 → ∀ h_4, (Q4 h_1 v_2 h_2 h_3) h_4 → G mX12_holdAll (d + 1) S (f_PV Q) 14 [(0, .ref r0), (1, .int x1), (2, .int x2), (3, .int (x3 + 1))] [] h_4) :
    G mX12_holdAll (d + 1) S (f_PV Q) 14 [(0, .ref r0), (1, .int x1), (2, .int x2), (3, .int x3)] [] h := by
  refine G_iload_n 3 rfl dX12_holdAll_14 rfl ?_
  refine G_bipush (v := 7) dX12_holdAll_15 (by decide) ?_
  refine G_icmp_ge (tgt := 47) dX12_holdAll_17 (by decide) (fun c1 => ?_) (fun c1 => ?_)
  · refine G_iinc (v := 1) 2 rfl dX12_holdAll_47 (by decide) (by decide) (lv' := [(2, .int (x2 + 1)), (0, .ref r0), (1, .int x1), (3, .int x3)]) rfl ?_
    refine G_goto (tgt := 7) dX12_holdAll_50 (by decide) ?_
    exact G_sub [1, 2, 0] rfl (k1 c1)
  · refine G_aload_n 0 rfl dX12_holdAll_20 rfl ?_
    refine G_callV (Z := mX12_layBase) (As := []) (st := []) hL_X12_348 hI_X12_layBase hS_X12_layBase hC_X12_layBase hN_X12 nX12_layBase (by decide) hs1 rfl rfl rfl (Nat.le_of_ble_eq_true rfl) dX12_holdAll_21 (ok1 c1) (fun r_ h_1 z_ => ?_)
    obtain ⟨rfl, q_1⟩ := z_
    refine G_aload_n 0 rfl dX12_holdAll_24 rfl ?_
    refine G_iload_n 3 rfl dX12_holdAll_25 rfl ?_
    refine G_iload_n 2 rfl dX12_holdAll_26 rfl ?_
    refine G_callV (Z := mX12_build) (As := [.int x3, .int x2]) (st := []) hL_X12_336 hI_X12_build hS_X12_build hC_X12_build hN_X12 nX12_build (by decide) hs1 rfl rfl rfl (Nat.le_of_ble_eq_true rfl) dX12_holdAll_27 (ok2 c1 h_1 q_1) (fun r_ h_2 z_ => ?_)
    obtain ⟨v_2, rfl, q_2⟩ := z_
    refine G_if_eq (tgt := 41) dX12_holdAll_30 (by decide) (fun c4 => ?_) (fun c4 => ?_)
    · refine G_iinc (v := 1) 3 rfl dX12_holdAll_41 (by decide) (by decide) (lv' := [(3, .int (x3 + 1)), (0, .ref r0), (1, .int x1), (2, .int x2)]) rfl ?_
      refine G_goto (tgt := 14) dX12_holdAll_44 (by decide) ?_
      exact G_sub [1, 2, 3, 0] rfl (k2 c1 h_1 q_1 v_2 h_2 q_2 c4)
    · refine G_aload_n 0 rfl dX12_holdAll_33 rfl ?_
      refine G_callV (Z := mX12_layBuilt) (As := []) (st := []) hL_X12_351 hI_X12_layBuilt hS_X12_layBuilt hC_X12_layBuilt hN_X12 nX12_layBuilt (by decide) hs1 rfl rfl rfl (Nat.le_of_ble_eq_true rfl) dX12_holdAll_34 (ok3 c1 h_1 q_1 v_2 h_2 q_2 c4) (fun r_ h_3 z_ => ?_)
      obtain ⟨rfl, q_3⟩ := z_
      refine G_aload_n 0 rfl dX12_holdAll_37 rfl ?_
      refine G_callV (Z := mX12_hold) (As := []) (st := []) hL_X12_354 hI_X12_hold hS_X12_hold hC_X12_hold hN_X12 nX12_hold (by decide) hs1 rfl rfl rfl (Nat.le_of_ble_eq_true rfl) dX12_holdAll_38 (ok4 c1 h_1 q_1 v_2 h_2 q_2 c4 h_3 q_3) (fun r_ h_4 z_ => ?_)
      obtain ⟨rfl, q_4⟩ := z_
      refine G_iinc (v := 1) 3 rfl dX12_holdAll_41 (by decide) (by decide) (lv' := [(3, .int (x3 + 1)), (0, .ref r0), (1, .int x1), (2, .int x2)]) rfl ?_
      refine G_goto (tgt := 14) dX12_holdAll_44 (by decide) ?_
      exact G_sub [1, 2, 3, 0] rfl (k3 c1 h_1 q_1 v_2 h_2 q_2 c4 h_3 q_3 h_4 q_4)

-- LostDigitsModel.findBetter
theorem dX12_findBetter_0 : decode cX12_findBetter 0 = .ok (.aload_n 0, 1) := by decide +kernel
theorem dX12_findBetter_1 : decode cX12_findBetter 1 = .ok (.iconst 0, 1) := by decide +kernel
theorem dX12_findBetter_2 : decode cX12_findBetter 2 = .ok (.putfield 339, 3) := by decide +kernel
theorem dX12_findBetter_5 : decode cX12_findBetter 5 = .ok (.aload_n 0, 1) := by decide +kernel
theorem dX12_findBetter_6 : decode cX12_findBetter 6 = .ok (.invokevirtual 223, 3) := by decide +kernel
theorem dX12_findBetter_9 : decode cX12_findBetter 9 = .ok (.aload_n 0, 1) := by decide +kernel
theorem dX12_findBetter_10 : decode cX12_findBetter 10 = .ok (.invokevirtual 354, 3) := by decide +kernel
theorem dX12_findBetter_13 : decode cX12_findBetter 13 = .ok (.iload_n 1, 1) := by decide +kernel
theorem dX12_findBetter_14 : decode cX12_findBetter 14 = .ok (.ifCond .le 15, 3) := by decide +kernel
theorem dX12_findBetter_17 : decode cX12_findBetter 17 = .ok (.aload_n 0, 1) := by decide +kernel
theorem dX12_findBetter_18 : decode cX12_findBetter 18 = .ok (.invokevirtual 223, 3) := by decide +kernel
theorem dX12_findBetter_21 : decode cX12_findBetter 21 = .ok (.aload_n 0, 1) := by decide +kernel
theorem dX12_findBetter_22 : decode cX12_findBetter 22 = .ok (.invokevirtual 357, 3) := by decide +kernel
theorem dX12_findBetter_25 : decode cX12_findBetter 25 = .ok (.aload_n 0, 1) := by decide +kernel
theorem dX12_findBetter_26 : decode cX12_findBetter 26 = .ok (.invokevirtual 360, 3) := by decide +kernel
theorem dX12_findBetter_29 : decode cX12_findBetter 29 = .ok (.iconst 0, 1) := by decide +kernel
theorem dX12_findBetter_30 : decode cX12_findBetter 30 = .ok (.istore_n 2, 1) := by decide +kernel
theorem dX12_findBetter_31 : decode cX12_findBetter 31 = .ok (.iload_n 2, 1) := by decide +kernel
theorem dX12_findBetter_32 : decode cX12_findBetter 32 = .ok (.aload_n 0, 1) := by decide +kernel
theorem dX12_findBetter_33 : decode cX12_findBetter 33 = .ok (.getfield 79, 3) := by decide +kernel
theorem dX12_findBetter_36 : decode cX12_findBetter 36 = .ok (.if_icmp .ge 53, 3) := by decide +kernel
theorem dX12_findBetter_39 : decode cX12_findBetter 39 = .ok (.iload_n 1, 1) := by decide +kernel
theorem dX12_findBetter_40 : decode cX12_findBetter 40 = .ok (.iconst 1, 1) := by decide +kernel
theorem dX12_findBetter_41 : decode cX12_findBetter 41 = .ok (.if_icmp .le 48, 3) := by decide +kernel
theorem dX12_findBetter_44 : decode cX12_findBetter 44 = .ok (.iconst 0, 1) := by decide +kernel
theorem dX12_findBetter_45 : decode cX12_findBetter 45 = .ok (.istore_n 3, 1) := by decide +kernel
theorem dX12_findBetter_46 : decode cX12_findBetter 46 = .ok (.iload_n 3, 1) := by decide +kernel
theorem dX12_findBetter_47 : decode cX12_findBetter 47 = .ok (.bipush 7, 2) := by decide +kernel
theorem dX12_findBetter_49 : decode cX12_findBetter 49 = .ok (.if_icmp .ge 34, 3) := by decide +kernel
theorem dX12_findBetter_52 : decode cX12_findBetter 52 = .ok (.aload_n 0, 1) := by decide +kernel
theorem dX12_findBetter_53 : decode cX12_findBetter 53 = .ok (.invokevirtual 223, 3) := by decide +kernel
theorem dX12_findBetter_56 : decode cX12_findBetter 56 = .ok (.aload_n 0, 1) := by decide +kernel
theorem dX12_findBetter_57 : decode cX12_findBetter 57 = .ok (.iload_n 3, 1) := by decide +kernel
theorem dX12_findBetter_58 : decode cX12_findBetter 58 = .ok (.iload_n 2, 1) := by decide +kernel
theorem dX12_findBetter_59 : decode cX12_findBetter 59 = .ok (.invokevirtual 336, 3) := by decide +kernel
theorem dX12_findBetter_62 : decode cX12_findBetter 62 = .ok (.ifCond .eq 15, 3) := by decide +kernel
theorem dX12_findBetter_65 : decode cX12_findBetter 65 = .ok (.aload_n 0, 1) := by decide +kernel
theorem dX12_findBetter_66 : decode cX12_findBetter 66 = .ok (.invokevirtual 351, 3) := by decide +kernel
theorem dX12_findBetter_69 : decode cX12_findBetter 69 = .ok (.aload_n 0, 1) := by decide +kernel
theorem dX12_findBetter_70 : decode cX12_findBetter 70 = .ok (.invokevirtual 357, 3) := by decide +kernel
theorem dX12_findBetter_73 : decode cX12_findBetter 73 = .ok (.aload_n 0, 1) := by decide +kernel
theorem dX12_findBetter_74 : decode cX12_findBetter 74 = .ok (.invokevirtual 360, 3) := by decide +kernel
theorem dX12_findBetter_77 : decode cX12_findBetter 77 = .ok (.iinc 3 1, 3) := by decide +kernel
theorem dX12_findBetter_80 : decode cX12_findBetter 80 = .ok (.goto (-34), 3) := by decide +kernel
theorem dX12_findBetter_83 : decode cX12_findBetter 83 = .ok (.iinc 2 1, 3) := by decide +kernel
theorem dX12_findBetter_86 : decode cX12_findBetter 86 = .ok (.goto (-55), 3) := by decide +kernel
theorem dX12_findBetter_89 : decode cX12_findBetter 89 = .ok (.return_, 1) := by decide +kernel

set_option maxRecDepth 10000 in
theorem TX12_findBetter_0 {d : Nat} {S : fW} {h : fH} {Q : fH → Prop} {r0 : Nat} {x1 : Int32} {r0_pad r0_text r0_number r0_span r0_now r0_sizeOf r0_workedTo r0_slip r0_exactUpper r0_exactLower r0_more r0_terms r0_order r0_bestOrder r0_low r0_high r0_built r0_better r0_base r0_kept r0_isKept : Nat} {Q1 : fH → Prop} {Q2 : fH → fH → Prop} {Q3 : fH → fH → fH → Prop} {Q4 : fH → fH → fH → fH → Prop} {Q5 : fH → fH → fH → fH → fH → Prop} 
    (hs1 : (r0, shX12 r0_pad r0_text r0_number r0_span r0_now r0_sizeOf r0_workedTo r0_slip r0_exactUpper r0_exactLower r0_more r0_terms r0_order r0_bestOrder r0_low r0_high r0_built r0_better r0_base r0_kept r0_isKept) ∈ S)
    (ok1 : OkV d mX12_layText S [.ref r0] (u_fi h r0 32 (0 : Int32)) Q1)
    (ok2 : ∀ h_1, Q1 h_1 → OkV d mX12_hold S [.ref r0] h_1 (Q2 h_1))
    (k1 : ∀ h_1, Q1 h_1 → ∀ h_2, (Q2 h_1) h_2 → x1 ≤ 0 → G mX12_findBetter (d + 1) S (f_PV Q) 31 [(0, .ref r0), (1, .int x1), (2, .int (0 : Int32))] [] h_2)
    (ok3 : ∀ h_1, Q1 h_1 → ∀ h_2, (Q2 h_1) h_2 → ¬ x1 ≤ 0 → OkV d mX12_layText S [.ref r0] h_2 (Q3 h_1 h_2))
    (ok4 : ∀ h_1, Q1 h_1 → ∀ h_2, (Q2 h_1) h_2 → ¬ x1 ≤ 0 → ∀ h_3, (Q3 h_1 h_2) h_3 → OkV d mX12_keepBase S [.ref r0] h_3 (Q4 h_1 h_2 h_3))
    (ok5 : ∀ h_1, Q1 h_1 → ∀ h_2, (Q2 h_1) h_2 → ¬ x1 ≤ 0 → ∀ h_3, (Q3 h_1 h_2) h_3 → ∀ h_4, (Q4 h_1 h_2 h_3) h_4 → OkV d mX12_holdAll S [.ref r0] h_4 (Q5 h_1 h_2 h_3 h_4))
    (k2 : ∀ h_1, Q1 h_1 → ∀ h_2, (Q2 h_1) h_2 → ¬ x1 ≤ 0 → ∀ h_3, (Q3 h_1 h_2) h_3 → ∀ h_4, (Q4 h_1 h_2 h_3) h_4 → ∀ h_5, (Q5 h_1 h_2 h_3 h_4) h_5 → G mX12_findBetter (d + 1) S (f_PV Q) 31 [(0, .ref r0), (1, .int x1), (2, .int (0 : Int32))] [] h_5) :
    OkV (d + 1) mX12_findBetter S [.ref r0, .int x1] h Q := by
  refine Ok.of (by decide) (Nat.le_of_ble_eq_true rfl) ?_
  refine G_aload_n 0 rfl dX12_findBetter_0 rfl ?_
  refine G_iconst (v := 0) dX12_findBetter_1 (by decide) ?_
  refine G_puti (k := 32) tyX12 hs1 (q := (RX12, TX12, 40)) rfl inX12 tyX12_ok nmX12 (by decide) rfl rfl rfl hF_X12_339 dX12_findBetter_2 ?_
  refine G_aload_n 0 rfl dX12_findBetter_5 rfl ?_
  refine G_callV (Z := mX12_layText) (As := []) (st := []) hL_X12_223 hI_X12_layText hS_X12_layText hC_X12_layText hN_X12 nX12_layText (by decide) hs1 rfl rfl rfl (Nat.le_of_ble_eq_true rfl) dX12_findBetter_6 (ok1) (fun r_ h_1 z_ => ?_)
  obtain ⟨rfl, q_1⟩ := z_
  refine G_aload_n 0 rfl dX12_findBetter_9 rfl ?_
  refine G_callV (Z := mX12_hold) (As := []) (st := []) hL_X12_354 hI_X12_hold hS_X12_hold hC_X12_hold hN_X12 nX12_hold (by decide) hs1 rfl rfl rfl (Nat.le_of_ble_eq_true rfl) dX12_findBetter_10 (ok2 h_1 q_1) (fun r_ h_2 z_ => ?_)
  obtain ⟨rfl, q_2⟩ := z_
  refine G_iload_n 1 rfl dX12_findBetter_13 rfl ?_
  refine G_if_le (tgt := 29) dX12_findBetter_14 (by decide) (fun c3 => ?_) (fun c3 => ?_)
  · refine G_iconst (v := 0) dX12_findBetter_29 (by decide) ?_
    refine G_istore_n dX12_findBetter_30 rfl (by decide) (lv' := [(2, .int (0 : Int32)), (0, .ref r0), (1, .int x1)]) rfl ?_
    exact G_sub [1, 2, 0] rfl (k1 h_1 q_1 h_2 q_2 c3)
  · refine G_aload_n 0 rfl dX12_findBetter_17 rfl ?_
    refine G_callV (Z := mX12_layText) (As := []) (st := []) hL_X12_223 hI_X12_layText hS_X12_layText hC_X12_layText hN_X12 nX12_layText (by decide) hs1 rfl rfl rfl (Nat.le_of_ble_eq_true rfl) dX12_findBetter_18 (ok3 h_1 q_1 h_2 q_2 c3) (fun r_ h_3 z_ => ?_)
    obtain ⟨rfl, q_3⟩ := z_
    refine G_aload_n 0 rfl dX12_findBetter_21 rfl ?_
    refine G_callV (Z := mX12_keepBase) (As := []) (st := []) hL_X12_357 hI_X12_keepBase hS_X12_keepBase hC_X12_keepBase hN_X12 nX12_keepBase (by decide) hs1 rfl rfl rfl (Nat.le_of_ble_eq_true rfl) dX12_findBetter_22 (ok4 h_1 q_1 h_2 q_2 c3 h_3 q_3) (fun r_ h_4 z_ => ?_)
    obtain ⟨rfl, q_4⟩ := z_
    refine G_aload_n 0 rfl dX12_findBetter_25 rfl ?_
    refine G_callV (Z := mX12_holdAll) (As := []) (st := []) hL_X12_360 hI_X12_holdAll hS_X12_holdAll hC_X12_holdAll hN_X12 nX12_holdAll (by decide) hs1 rfl rfl rfl (Nat.le_of_ble_eq_true rfl) dX12_findBetter_26 (ok5 h_1 q_1 h_2 q_2 c3 h_3 q_3 h_4 q_4) (fun r_ h_5 z_ => ?_)
    obtain ⟨rfl, q_5⟩ := z_
    refine G_iconst (v := 0) dX12_findBetter_29 (by decide) ?_
    refine G_istore_n dX12_findBetter_30 rfl (by decide) (lv' := [(2, .int (0 : Int32)), (0, .ref r0), (1, .int x1)]) rfl ?_
    exact G_sub [1, 2, 0] rfl (k2 h_1 q_1 h_2 q_2 c3 h_3 q_3 h_4 q_4 h_5 q_5)

set_option maxRecDepth 10000 in
theorem TX12_findBetter_31 {d : Nat} {S : fW} {h : fH} {Q : fH → Prop} {r0 : Nat} {x1 : Int32} {x2 : Int32} {r0_pad r0_text r0_number r0_span r0_now r0_sizeOf r0_workedTo r0_slip r0_exactUpper r0_exactLower r0_more r0_terms r0_order r0_bestOrder r0_low r0_high r0_built r0_better r0_base r0_kept r0_isKept : Nat}  
    (hs1 : (r0, shX12 r0_pad r0_text r0_number r0_span r0_now r0_sizeOf r0_workedTo r0_slip r0_exactUpper r0_exactLower r0_more r0_terms r0_order r0_bestOrder r0_low r0_high r0_built r0_better r0_base r0_kept r0_isKept) ∈ S)
    (k1 : (h.1 r0 10) ≤ x2 → Q h)
    (k2 : ¬ (h.1 r0 10) ≤ x2 → x1 ≤ (1 : Int32) → Q h)
    (k3 : ¬ (h.1 r0 10) ≤ x2 → ¬ x1 ≤ (1 : Int32) → G mX12_findBetter (d + 1) S (f_PV Q) 46 [(0, .ref r0), (1, .int x1), (2, .int x2), (3, .int (0 : Int32))] [] h) :
    G mX12_findBetter (d + 1) S (f_PV Q) 31 [(0, .ref r0), (1, .int x1), (2, .int x2)] [] h := by
  refine G_iload_n 2 rfl dX12_findBetter_31 rfl ?_
  refine G_aload_n 0 rfl dX12_findBetter_32 rfl ?_
  refine G_geti (k := 10) hs1 (q := (RX12, TX12, 40)) rfl inX12 (by decide) (Or.inl rfl) hF_X12_79 dX12_findBetter_33 ?_
  refine G_icmp_ge (tgt := 89) dX12_findBetter_36 (by decide) (fun c1 => ?_) (fun c1 => ?_)
  · exact G_vret rfl dX12_findBetter_89 ⟨rfl, (k1 c1)⟩
  · refine G_iload_n 1 rfl dX12_findBetter_39 rfl ?_
    refine G_iconst (v := 1) dX12_findBetter_40 (by decide) ?_
    refine G_icmp_le (tgt := 89) dX12_findBetter_41 (by decide) (fun c2 => ?_) (fun c2 => ?_)
    · exact G_vret rfl dX12_findBetter_89 ⟨rfl, (k2 c1 c2)⟩
    · refine G_iconst (v := 0) dX12_findBetter_44 (by decide) ?_
      refine G_istore_n dX12_findBetter_45 rfl (by decide) (lv' := [(3, .int (0 : Int32)), (0, .ref r0), (1, .int x1), (2, .int x2)]) rfl ?_
      exact G_sub [1, 2, 3, 0] rfl (k3 c1 c2)

set_option maxRecDepth 10000 in
theorem TX12_findBetter_46 {d : Nat} {S : fW} {h : fH} {Q : fH → Prop} {r0 : Nat} {x1 : Int32} {x2 : Int32} {x3 : Int32} {r0_pad r0_text r0_number r0_span r0_now r0_sizeOf r0_workedTo r0_slip r0_exactUpper r0_exactLower r0_more r0_terms r0_order r0_bestOrder r0_low r0_high r0_built r0_better r0_base r0_kept r0_isKept : Nat} {Q1 : fH → Prop} {Q2 : fH → Int32 → fH → Prop} {Q3 : fH → Int32 → fH → fH → Prop} {Q4 : fH → Int32 → fH → fH → fH → Prop} {Q5 : fH → Int32 → fH → fH → fH → fH → Prop} 
    (k1 : (7 : Int32) ≤ x3 → G mX12_findBetter (d + 1) S (f_PV Q) 31 [(0, .ref r0), (1, .int x1), (2, .int (x2 + 1))] [] h)
    (hs1 : (r0, shX12 r0_pad r0_text r0_number r0_span r0_now r0_sizeOf r0_workedTo r0_slip r0_exactUpper r0_exactLower r0_more r0_terms r0_order r0_bestOrder r0_low r0_high r0_built r0_better r0_base r0_kept r0_isKept) ∈ S)
    (ok1 : ¬ (7 : Int32) ≤ x3 → OkV d mX12_layText S [.ref r0] h Q1)
    (ok2 : ¬ (7 : Int32) ≤ x3 → ∀ h_1, Q1 h_1 → OkI d mX12_build S [.ref r0, .int x3, .int x2] h_1 (Q2 h_1))
    (k2 : ¬ (7 : Int32) ≤ x3 → ∀ h_1, Q1 h_1 → ∀ v_2 h_2, (Q2 h_1) v_2 h_2 → v_2 = 0 → G mX12_findBetter (d + 1) S (f_PV Q) 46 [(0, .ref r0), (1, .int x1), (2, .int x2), (3, .int (x3 + 1))] [] h_2)
    (ok3 : ¬ (7 : Int32) ≤ x3 → ∀ h_1, Q1 h_1 → ∀ v_2 h_2, (Q2 h_1) v_2 h_2 → ¬ v_2 = 0 → OkV d mX12_layBuilt S [.ref r0] h_2 (Q3 h_1 v_2 h_2))
    (ok4 : ¬ (7 : Int32) ≤ x3 → ∀ h_1, Q1 h_1 → ∀ v_2 h_2, (Q2 h_1) v_2 h_2 → ¬ v_2 = 0 → ∀ h_3, (Q3 h_1 v_2 h_2) h_3 → OkV d mX12_keepBase S [.ref r0] h_3 (Q4 h_1 v_2 h_2 h_3))
    (ok5 : ¬ (7 : Int32) ≤ x3 → ∀ h_1, Q1 h_1 → ∀ v_2 h_2, (Q2 h_1) v_2 h_2 → ¬ v_2 = 0 → ∀ h_3, (Q3 h_1 v_2 h_2) h_3 → ∀ h_4, (Q4 h_1 v_2 h_2 h_3) h_4 → OkV d mX12_holdAll S [.ref r0] h_4 (Q5 h_1 v_2 h_2 h_3 h_4))
    (k3 : ¬ (7 : Int32) ≤ x3 → ∀ h_1, Q1 h_1 → ∀ v_2 h_2, (Q2 h_1) v_2 h_2 → ¬ v_2 = 0 → ∀ h_3, (Q3 h_1 v_2 h_2) h_3 → ∀ h_4, (Q4 h_1 v_2 h_2 h_3) h_4 → ∀ h_5, (Q5 h_1 v_2 h_2 h_3 h_4) h_5 → G mX12_findBetter (d + 1) S (f_PV Q) 46 [(0, .ref r0), (1, .int x1), (2, .int x2), (3, .int (x3 + 1))] [] h_5) :
    G mX12_findBetter (d + 1) S (f_PV Q) 46 [(0, .ref r0), (1, .int x1), (2, .int x2), (3, .int x3)] [] h := by
  refine G_iload_n 3 rfl dX12_findBetter_46 rfl ?_
  refine G_bipush (v := 7) dX12_findBetter_47 (by decide) ?_
  refine G_icmp_ge (tgt := 83) dX12_findBetter_49 (by decide) (fun c1 => ?_) (fun c1 => ?_)
  · refine G_iinc (v := 1) 2 rfl dX12_findBetter_83 (by decide) (by decide) (lv' := [(2, .int (x2 + 1)), (0, .ref r0), (1, .int x1), (3, .int x3)]) rfl ?_
    refine G_goto (tgt := 31) dX12_findBetter_86 (by decide) ?_
    exact G_sub [1, 2, 0] rfl (k1 c1)
  · refine G_aload_n 0 rfl dX12_findBetter_52 rfl ?_
    refine G_callV (Z := mX12_layText) (As := []) (st := []) hL_X12_223 hI_X12_layText hS_X12_layText hC_X12_layText hN_X12 nX12_layText (by decide) hs1 rfl rfl rfl (Nat.le_of_ble_eq_true rfl) dX12_findBetter_53 (ok1 c1) (fun r_ h_1 z_ => ?_)
    obtain ⟨rfl, q_1⟩ := z_
    refine G_aload_n 0 rfl dX12_findBetter_56 rfl ?_
    refine G_iload_n 3 rfl dX12_findBetter_57 rfl ?_
    refine G_iload_n 2 rfl dX12_findBetter_58 rfl ?_
    refine G_callV (Z := mX12_build) (As := [.int x3, .int x2]) (st := []) hL_X12_336 hI_X12_build hS_X12_build hC_X12_build hN_X12 nX12_build (by decide) hs1 rfl rfl rfl (Nat.le_of_ble_eq_true rfl) dX12_findBetter_59 (ok2 c1 h_1 q_1) (fun r_ h_2 z_ => ?_)
    obtain ⟨v_2, rfl, q_2⟩ := z_
    refine G_if_eq (tgt := 77) dX12_findBetter_62 (by decide) (fun c4 => ?_) (fun c4 => ?_)
    · refine G_iinc (v := 1) 3 rfl dX12_findBetter_77 (by decide) (by decide) (lv' := [(3, .int (x3 + 1)), (0, .ref r0), (1, .int x1), (2, .int x2)]) rfl ?_
      refine G_goto (tgt := 46) dX12_findBetter_80 (by decide) ?_
      exact G_sub [1, 2, 3, 0] rfl (k2 c1 h_1 q_1 v_2 h_2 q_2 c4)
    · refine G_aload_n 0 rfl dX12_findBetter_65 rfl ?_
      refine G_callV (Z := mX12_layBuilt) (As := []) (st := []) hL_X12_351 hI_X12_layBuilt hS_X12_layBuilt hC_X12_layBuilt hN_X12 nX12_layBuilt (by decide) hs1 rfl rfl rfl (Nat.le_of_ble_eq_true rfl) dX12_findBetter_66 (ok3 c1 h_1 q_1 v_2 h_2 q_2 c4) (fun r_ h_3 z_ => ?_)
      obtain ⟨rfl, q_3⟩ := z_
      refine G_aload_n 0 rfl dX12_findBetter_69 rfl ?_
      refine G_callV (Z := mX12_keepBase) (As := []) (st := []) hL_X12_357 hI_X12_keepBase hS_X12_keepBase hC_X12_keepBase hN_X12 nX12_keepBase (by decide) hs1 rfl rfl rfl (Nat.le_of_ble_eq_true rfl) dX12_findBetter_70 (ok4 c1 h_1 q_1 v_2 h_2 q_2 c4 h_3 q_3) (fun r_ h_4 z_ => ?_)
      obtain ⟨rfl, q_4⟩ := z_
      refine G_aload_n 0 rfl dX12_findBetter_73 rfl ?_
      refine G_callV (Z := mX12_holdAll) (As := []) (st := []) hL_X12_360 hI_X12_holdAll hS_X12_holdAll hC_X12_holdAll hN_X12 nX12_holdAll (by decide) hs1 rfl rfl rfl (Nat.le_of_ble_eq_true rfl) dX12_findBetter_74 (ok5 c1 h_1 q_1 v_2 h_2 q_2 c4 h_3 q_3 h_4 q_4) (fun r_ h_5 z_ => ?_)
      obtain ⟨rfl, q_5⟩ := z_
      refine G_iinc (v := 1) 3 rfl dX12_findBetter_77 (by decide) (by decide) (lv' := [(3, .int (x3 + 1)), (0, .ref r0), (1, .int x1), (2, .int x2)]) rfl ?_
      refine G_goto (tgt := 46) dX12_findBetter_80 (by decide) ?_
      exact G_sub [1, 2, 3, 0] rfl (k3 c1 h_1 q_1 v_2 h_2 q_2 c4 h_3 q_3 h_4 q_4 h_5 q_5)

-- LostDigitsModel.better
theorem dX12_better_0 : decode cX12_better 0 = .ok (.iload_n 1, 1) := by decide +kernel
theorem dX12_better_1 : decode cX12_better 1 = .ok (.i2l, 1) := by decide +kernel
theorem dX12_better_2 : decode cX12_better 2 = .ok (.lconst 0, 1) := by decide +kernel
theorem dX12_better_3 : decode cX12_better 3 = .ok (.ldc2_w 88, 3) := by decide +kernel
theorem dX12_better_6 : decode cX12_better 6 = .ok (.invokestatic 82, 3) := by decide +kernel
theorem dX12_better_9 : decode cX12_better 9 = .ok (.ifCond .ne 7, 3) := by decide +kernel
theorem dX12_better_12 : decode cX12_better 12 = .ok (.ldc2_w 153, 3) := by decide +kernel
theorem dX12_better_15 : decode cX12_better 15 = .ok (.lreturn, 1) := by decide +kernel
theorem dX12_better_16 : decode cX12_better 16 = .ok (.aload_n 0, 1) := by decide +kernel
theorem dX12_better_17 : decode cX12_better 17 = .ok (.iload_n 1, 1) := by decide +kernel
theorem dX12_better_18 : decode cX12_better 18 = .ok (.invokevirtual 363, 3) := by decide +kernel
theorem dX12_better_21 : decode cX12_better 21 = .ok (.aload_n 0, 1) := by decide +kernel
theorem dX12_better_22 : decode cX12_better 22 = .ok (.getfield 339, 3) := by decide +kernel
theorem dX12_better_25 : decode cX12_better 25 = .ok (.ifCond .ne 9, 3) := by decide +kernel
theorem dX12_better_28 : decode cX12_better 28 = .ok (.ldc2_w 256, 3) := by decide +kernel
theorem dX12_better_31 : decode cX12_better 31 = .ok (.goto 7, 3) := by decide +kernel
theorem dX12_better_34 : decode cX12_better 34 = .ok (.aload_n 0, 1) := by decide +kernel
theorem dX12_better_35 : decode cX12_better 35 = .ok (.getfield 342, 3) := by decide +kernel
theorem dX12_better_38 : decode cX12_better 38 = .ok (.lreturn, 1) := by decide +kernel

set_option maxRecDepth 10000 in
theorem TX12_better_0 {d : Nat} {S : fW} {h : fH} {Q : Int64 → fH → Prop} {r0 : Nat} {x1 : Int32} {r0_pad r0_text r0_number r0_span r0_now r0_sizeOf r0_workedTo r0_slip r0_exactUpper r0_exactLower r0_more r0_terms r0_order r0_bestOrder r0_low r0_high r0_built r0_better r0_base r0_kept r0_isKept : Nat} {Q1 : Int32 → fH → Prop} {Q2 : Int32 → fH → fH → Prop} 
    (ok1 : OkI d mX12_in S [.long x1.toInt64, .long (0 : Int64), .long (2 : Int64)] h Q1)
    (hs1 : (r0, shX12 r0_pad r0_text r0_number r0_span r0_now r0_sizeOf r0_workedTo r0_slip r0_exactUpper r0_exactLower r0_more r0_terms r0_order r0_bestOrder r0_low r0_high r0_built r0_better r0_base r0_kept r0_isKept) ∈ S)
    (ok2 : ∀ v_1 h_1, Q1 v_1 h_1 → ¬ v_1 = 0 → OkV d mX12_findBetter S [.ref r0, .int x1] h_1 (Q2 v_1 h_1))
    (k1 : ∀ v_1 h_1, Q1 v_1 h_1 → ¬ v_1 = 0 → ∀ h_2, (Q2 v_1 h_1) h_2 → ¬ (h_2.1 r0 32) = 0 → Q (h_2.2.1 r0 33) h_2)
    (k2 : ∀ v_1 h_1, Q1 v_1 h_1 → ¬ v_1 = 0 → ∀ h_2, (Q2 v_1 h_1) h_2 → (h_2.1 r0 32) = 0 → Q (-1000000000000000006 : Int64) h_2)
    (k3 : ∀ v_1 h_1, Q1 v_1 h_1 → v_1 = 0 → Q (-1000000000000000002 : Int64) h_1) :
    OkL (d + 1) mX12_better S [.ref r0, .int x1] h Q := by
  refine Ok.of (by decide) (Nat.le_of_ble_eq_true rfl) ?_
  refine G_iload_n 1 rfl dX12_better_0 rfl ?_
  refine G_i2l dX12_better_1 ?_
  refine G_lconst (v := 0) dX12_better_2 (by decide) ?_
  refine G_ldc2 hK_X12_88 dX12_better_3 ?_
  refine G_callS (Z := mX12_in) (As := [.long x1.toInt64, .long (0 : Int64), .long (2 : Int64)]) (st := []) hL_X12_82 hT_X12_in hC_X12_in hN_X12 nX12_in (by decide) rfl (Nat.le_of_ble_eq_true rfl) dX12_better_6 (ok1) (fun r_ h_1 z_ => ?_)
  obtain ⟨v_1, rfl, q_1⟩ := z_
  refine G_if_ne (tgt := 16) dX12_better_9 (by decide) (fun c2 => ?_) (fun c2 => ?_)
  · refine G_aload_n 0 rfl dX12_better_16 rfl ?_
    refine G_iload_n 1 rfl dX12_better_17 rfl ?_
    refine G_callV (Z := mX12_findBetter) (As := [.int x1]) (st := []) hL_X12_363 hI_X12_findBetter hS_X12_findBetter hC_X12_findBetter hN_X12 nX12_findBetter (by decide) hs1 rfl rfl rfl (Nat.le_of_ble_eq_true rfl) dX12_better_18 (ok2 v_1 h_1 q_1 c2) (fun r_ h_2 z_ => ?_)
    obtain ⟨rfl, q_2⟩ := z_
    refine G_aload_n 0 rfl dX12_better_21 rfl ?_
    refine G_geti (k := 32) hs1 (q := (RX12, TX12, 40)) rfl inX12 (by decide) (Or.inl rfl) hF_X12_339 dX12_better_22 ?_
    refine G_if_ne (tgt := 34) dX12_better_25 (by decide) (fun c4 => ?_) (fun c4 => ?_)
    · refine G_aload_n 0 rfl dX12_better_34 rfl ?_
      refine G_getl (k := 33) hs1 (q := (RX12, TX12, 40)) rfl inX12 (by decide) rfl hF_X12_342 dX12_better_35 ?_
      exact G_lret rfl dX12_better_38 ⟨_, rfl, (k1 v_1 h_1 q_1 c2 h_2 q_2 c4)⟩
    · refine G_ldc2 hK_X12_256 dX12_better_28 ?_
      refine G_goto (tgt := 38) dX12_better_31 (by decide) ?_
      exact G_lret rfl dX12_better_38 ⟨_, rfl, (k2 v_1 h_1 q_1 c2 h_2 q_2 c4)⟩
  · refine G_ldc2 hK_X12_153 dX12_better_12 ?_
    exact G_lret rfl dX12_better_15 ⟨_, rfl, (k3 v_1 h_1 q_1 c2)⟩

-- LostDigitsModel.betterSign
theorem dX12_betterSign_0 : decode cX12_betterSign 0 = .ok (.iload_n 1, 1) := by decide +kernel
theorem dX12_betterSign_1 : decode cX12_betterSign 1 = .ok (.i2l, 1) := by decide +kernel
theorem dX12_betterSign_2 : decode cX12_betterSign 2 = .ok (.lconst 0, 1) := by decide +kernel
theorem dX12_betterSign_3 : decode cX12_betterSign 3 = .ok (.ldc2_w 88, 3) := by decide +kernel
theorem dX12_betterSign_6 : decode cX12_betterSign 6 = .ok (.invokestatic 82, 3) := by decide +kernel
theorem dX12_betterSign_9 : decode cX12_betterSign 9 = .ok (.ifCond .ne 6, 3) := by decide +kernel
theorem dX12_betterSign_12 : decode cX12_betterSign 12 = .ok (.bipush (-2), 2) := by decide +kernel
theorem dX12_betterSign_14 : decode cX12_betterSign 14 = .ok (.ireturn, 1) := by decide +kernel
theorem dX12_betterSign_15 : decode cX12_betterSign 15 = .ok (.aload_n 0, 1) := by decide +kernel
theorem dX12_betterSign_16 : decode cX12_betterSign 16 = .ok (.iload_n 1, 1) := by decide +kernel
theorem dX12_betterSign_17 : decode cX12_betterSign 17 = .ok (.invokevirtual 363, 3) := by decide +kernel
theorem dX12_betterSign_20 : decode cX12_betterSign 20 = .ok (.iload_n 2, 1) := by decide +kernel
theorem dX12_betterSign_21 : decode cX12_betterSign 21 = .ok (.iconst (-1), 1) := by decide +kernel
theorem dX12_betterSign_22 : decode cX12_betterSign 22 = .ok (.if_icmp .ne 17, 3) := by decide +kernel
theorem dX12_betterSign_25 : decode cX12_betterSign 25 = .ok (.aload_n 0, 1) := by decide +kernel
theorem dX12_betterSign_26 : decode cX12_betterSign 26 = .ok (.getfield 339, 3) := by decide +kernel
theorem dX12_betterSign_29 : decode cX12_betterSign 29 = .ok (.ifCond .le 10, 3) := by decide +kernel
theorem dX12_betterSign_32 : decode cX12_betterSign 32 = .ok (.aload_n 0, 1) := by decide +kernel
theorem dX12_betterSign_33 : decode cX12_betterSign 33 = .ok (.getfield 339, 3) := by decide +kernel
theorem dX12_betterSign_36 : decode cX12_betterSign 36 = .ok (.goto 30, 3) := by decide +kernel
theorem dX12_betterSign_39 : decode cX12_betterSign 39 = .ok (.iload_n 2, 1) := by decide +kernel
theorem dX12_betterSign_40 : decode cX12_betterSign 40 = .ok (.i2l, 1) := by decide +kernel
theorem dX12_betterSign_41 : decode cX12_betterSign 41 = .ok (.lconst 0, 1) := by decide +kernel
theorem dX12_betterSign_42 : decode cX12_betterSign 42 = .ok (.aload_n 0, 1) := by decide +kernel
theorem dX12_betterSign_43 : decode cX12_betterSign 43 = .ok (.getfield 339, 3) := by decide +kernel
theorem dX12_betterSign_46 : decode cX12_betterSign 46 = .ok (.iconst 1, 1) := by decide +kernel
theorem dX12_betterSign_47 : decode cX12_betterSign 47 = .ok (.isub, 1) := by decide +kernel
theorem dX12_betterSign_48 : decode cX12_betterSign 48 = .ok (.i2l, 1) := by decide +kernel
theorem dX12_betterSign_49 : decode cX12_betterSign 49 = .ok (.invokestatic 82, 3) := by decide +kernel
theorem dX12_betterSign_52 : decode cX12_betterSign 52 = .ok (.ifCond .eq 12, 3) := by decide +kernel
theorem dX12_betterSign_55 : decode cX12_betterSign 55 = .ok (.aload_n 0, 1) := by decide +kernel
theorem dX12_betterSign_56 : decode cX12_betterSign 56 = .ok (.getfield 62, 3) := by decide +kernel
theorem dX12_betterSign_59 : decode cX12_betterSign 59 = .ok (.iload_n 2, 1) := by decide +kernel
theorem dX12_betterSign_60 : decode cX12_betterSign 60 = .ok (.iaload, 1) := by decide +kernel
theorem dX12_betterSign_61 : decode cX12_betterSign 61 = .ok (.goto 5, 3) := by decide +kernel
theorem dX12_betterSign_64 : decode cX12_betterSign 64 = .ok (.bipush (-6), 2) := by decide +kernel
theorem dX12_betterSign_66 : decode cX12_betterSign 66 = .ok (.ireturn, 1) := by decide +kernel

set_option maxRecDepth 10000 in
theorem TX12_betterSign_0 {d : Nat} {S : fW} {h : fH} {Q : Int32 → fH → Prop} {r0 : Nat} {x1 : Int32} {x2 : Int32} {r0_pad r0_text r0_number r0_span r0_now r0_sizeOf r0_workedTo r0_slip r0_exactUpper r0_exactLower r0_more r0_terms r0_order r0_bestOrder r0_low r0_high r0_built r0_better r0_base r0_kept r0_isKept : Nat} {Q1 : Int32 → fH → Prop} {Q2 : Int32 → fH → fH → Prop} {Q3 : Int32 → fH → fH → Int32 → fH → Prop} {Q4 : Int32 → fH → fH → Int32 → fH → Prop} 
    (ok1 : OkI d mX12_in S [.long x1.toInt64, .long (0 : Int64), .long (2 : Int64)] h Q1)
    (hs1 : (r0, shX12 r0_pad r0_text r0_number r0_span r0_now r0_sizeOf r0_workedTo r0_slip r0_exactUpper r0_exactLower r0_more r0_terms r0_order r0_bestOrder r0_low r0_high r0_built r0_better r0_base r0_kept r0_isKept) ∈ S)
    (ok2 : ∀ v_1 h_1, Q1 v_1 h_1 → ¬ v_1 = 0 → OkV d mX12_findBetter S [.ref r0, .int x1] h_1 (Q2 v_1 h_1))
    (ok3 : ∀ v_1 h_1, Q1 v_1 h_1 → ¬ v_1 = 0 → ∀ h_2, (Q2 v_1 h_1) h_2 → ¬ x2 = (-1 : Int32) → OkI d mX12_in S [.long x2.toInt64, .long (0 : Int64), .long (((h_2.1 r0 32) - (1 : Int32)).toInt64)] h_2 (Q3 v_1 h_1 h_2))
    (k1 : ∀ v_1 h_1, Q1 v_1 h_1 → ¬ v_1 = 0 → ∀ h_2, (Q2 v_1 h_1) h_2 → ¬ x2 = (-1 : Int32) → ∀ v_3 h_3, (Q3 v_1 h_1 h_2) v_3 h_3 → v_3 = 0 → Q (-6 : Int32) h_3)
    (hs2 : (r0_better, shI 13) ∈ S)
    (sd1 : ∀ v_1 h_1, Q1 v_1 h_1 → ¬ v_1 = 0 → ∀ h_2, (Q2 v_1 h_1) h_2 → ¬ x2 = (-1 : Int32) → ∀ v_3 h_3, (Q3 v_1 h_1 h_2) v_3 h_3 → ¬ v_3 = 0 → vp_in x2 13)
    (k2 : ∀ v_1 h_1, Q1 v_1 h_1 → ¬ v_1 = 0 → ∀ h_2, (Q2 v_1 h_1) h_2 → ¬ x2 = (-1 : Int32) → ∀ v_3 h_3, (Q3 v_1 h_1 h_2) v_3 h_3 → ¬ v_3 = 0 → Q (h_3.2.2.1 r0_better x2.toNatClampNeg) h_3)
    (ok4 : ∀ v_1 h_1, Q1 v_1 h_1 → ¬ v_1 = 0 → ∀ h_2, (Q2 v_1 h_1) h_2 → x2 = (-1 : Int32) → (h_2.1 r0 32) ≤ 0 → OkI d mX12_in S [.long x2.toInt64, .long (0 : Int64), .long (((h_2.1 r0 32) - (1 : Int32)).toInt64)] h_2 (Q4 v_1 h_1 h_2))
    (k3 : ∀ v_1 h_1, Q1 v_1 h_1 → ¬ v_1 = 0 → ∀ h_2, (Q2 v_1 h_1) h_2 → x2 = (-1 : Int32) → (h_2.1 r0 32) ≤ 0 → ∀ v_4 h_4, (Q4 v_1 h_1 h_2) v_4 h_4 → v_4 = 0 → Q (-6 : Int32) h_4)
    (sd2 : ∀ v_1 h_1, Q1 v_1 h_1 → ¬ v_1 = 0 → ∀ h_2, (Q2 v_1 h_1) h_2 → x2 = (-1 : Int32) → (h_2.1 r0 32) ≤ 0 → ∀ v_4 h_4, (Q4 v_1 h_1 h_2) v_4 h_4 → ¬ v_4 = 0 → vp_in x2 13)
    (k4 : ∀ v_1 h_1, Q1 v_1 h_1 → ¬ v_1 = 0 → ∀ h_2, (Q2 v_1 h_1) h_2 → x2 = (-1 : Int32) → (h_2.1 r0 32) ≤ 0 → ∀ v_4 h_4, (Q4 v_1 h_1 h_2) v_4 h_4 → ¬ v_4 = 0 → Q (h_4.2.2.1 r0_better x2.toNatClampNeg) h_4)
    (k5 : ∀ v_1 h_1, Q1 v_1 h_1 → ¬ v_1 = 0 → ∀ h_2, (Q2 v_1 h_1) h_2 → x2 = (-1 : Int32) → ¬ (h_2.1 r0 32) ≤ 0 → Q (h_2.1 r0 32) h_2)
    (k6 : ∀ v_1 h_1, Q1 v_1 h_1 → v_1 = 0 → Q (-2 : Int32) h_1) :
    OkI (d + 1) mX12_betterSign S [.ref r0, .int x1, .int x2] h Q := by
  refine Ok.of (by decide) (Nat.le_of_ble_eq_true rfl) ?_
  refine G_iload_n 1 rfl dX12_betterSign_0 rfl ?_
  refine G_i2l dX12_betterSign_1 ?_
  refine G_lconst (v := 0) dX12_betterSign_2 (by decide) ?_
  refine G_ldc2 hK_X12_88 dX12_betterSign_3 ?_
  refine G_callS (Z := mX12_in) (As := [.long x1.toInt64, .long (0 : Int64), .long (2 : Int64)]) (st := []) hL_X12_82 hT_X12_in hC_X12_in hN_X12 nX12_in (by decide) rfl (Nat.le_of_ble_eq_true rfl) dX12_betterSign_6 (ok1) (fun r_ h_1 z_ => ?_)
  obtain ⟨v_1, rfl, q_1⟩ := z_
  refine G_if_ne (tgt := 15) dX12_betterSign_9 (by decide) (fun c2 => ?_) (fun c2 => ?_)
  · refine G_aload_n 0 rfl dX12_betterSign_15 rfl ?_
    refine G_iload_n 1 rfl dX12_betterSign_16 rfl ?_
    refine G_callV (Z := mX12_findBetter) (As := [.int x1]) (st := []) hL_X12_363 hI_X12_findBetter hS_X12_findBetter hC_X12_findBetter hN_X12 nX12_findBetter (by decide) hs1 rfl rfl rfl (Nat.le_of_ble_eq_true rfl) dX12_betterSign_17 (ok2 v_1 h_1 q_1 c2) (fun r_ h_2 z_ => ?_)
    obtain ⟨rfl, q_2⟩ := z_
    refine G_iload_n 2 rfl dX12_betterSign_20 rfl ?_
    refine G_iconst (v := -1) dX12_betterSign_21 (by decide) ?_
    refine G_icmp_ne (tgt := 39) dX12_betterSign_22 (by decide) (fun c4 => ?_) (fun c4 => ?_)
    · refine G_iload_n 2 rfl dX12_betterSign_39 rfl ?_
      refine G_i2l dX12_betterSign_40 ?_
      refine G_lconst (v := 0) dX12_betterSign_41 (by decide) ?_
      refine G_aload_n 0 rfl dX12_betterSign_42 rfl ?_
      refine G_geti (k := 32) hs1 (q := (RX12, TX12, 40)) rfl inX12 (by decide) (Or.inl rfl) hF_X12_339 dX12_betterSign_43 ?_
      refine G_iconst (v := 1) dX12_betterSign_46 (by decide) ?_
      refine G_isub dX12_betterSign_47 ?_
      refine G_i2l dX12_betterSign_48 ?_
      refine G_callS (Z := mX12_in) (As := [.long x2.toInt64, .long (0 : Int64), .long (((h_2.1 r0 32) - (1 : Int32)).toInt64)]) (st := []) hL_X12_82 hT_X12_in hC_X12_in hN_X12 nX12_in (by decide) rfl (Nat.le_of_ble_eq_true rfl) dX12_betterSign_49 (ok3 v_1 h_1 q_1 c2 h_2 q_2 c4) (fun r_ h_3 z_ => ?_)
      obtain ⟨v_3, rfl, q_3⟩ := z_
      refine G_if_eq (tgt := 64) dX12_betterSign_52 (by decide) (fun c6 => ?_) (fun c6 => ?_)
      · refine G_bipush (v := -6) dX12_betterSign_64 (by decide) ?_
        exact G_iret rfl dX12_betterSign_66 ⟨_, rfl, (k1 v_1 h_1 q_1 c2 h_2 q_2 c4 v_3 h_3 q_3 c6)⟩
      · refine G_aload_n 0 rfl dX12_betterSign_55 rfl ?_
        refine G_getr (j := r0_better) (k := 31) hs1 (q := (RX12, TX12, 40)) rfl inX12 (by decide) rfl hF_X12_62 dX12_betterSign_56 ?_
        refine G_iload_n 2 rfl dX12_betterSign_59 rfl ?_
        refine G_iald hs2 (sd1 v_1 h_1 q_1 c2 h_2 q_2 c4 v_3 h_3 q_3 c6) dX12_betterSign_60 ?_
        refine G_goto (tgt := 66) dX12_betterSign_61 (by decide) ?_
        exact G_iret rfl dX12_betterSign_66 ⟨_, rfl, (k2 v_1 h_1 q_1 c2 h_2 q_2 c4 v_3 h_3 q_3 c6)⟩
    · refine G_aload_n 0 rfl dX12_betterSign_25 rfl ?_
      refine G_geti (k := 32) hs1 (q := (RX12, TX12, 40)) rfl inX12 (by decide) (Or.inl rfl) hF_X12_339 dX12_betterSign_26 ?_
      refine G_if_le (tgt := 39) dX12_betterSign_29 (by decide) (fun c5 => ?_) (fun c5 => ?_)
      · refine G_iload_n 2 rfl dX12_betterSign_39 rfl ?_
        refine G_i2l dX12_betterSign_40 ?_
        refine G_lconst (v := 0) dX12_betterSign_41 (by decide) ?_
        refine G_aload_n 0 rfl dX12_betterSign_42 rfl ?_
        refine G_geti (k := 32) hs1 (q := (RX12, TX12, 40)) rfl inX12 (by decide) (Or.inl rfl) hF_X12_339 dX12_betterSign_43 ?_
        refine G_iconst (v := 1) dX12_betterSign_46 (by decide) ?_
        refine G_isub dX12_betterSign_47 ?_
        refine G_i2l dX12_betterSign_48 ?_
        refine G_callS (Z := mX12_in) (As := [.long x2.toInt64, .long (0 : Int64), .long (((h_2.1 r0 32) - (1 : Int32)).toInt64)]) (st := []) hL_X12_82 hT_X12_in hC_X12_in hN_X12 nX12_in (by decide) rfl (Nat.le_of_ble_eq_true rfl) dX12_betterSign_49 (ok4 v_1 h_1 q_1 c2 h_2 q_2 c4 c5) (fun r_ h_4 z_ => ?_)
        obtain ⟨v_4, rfl, q_4⟩ := z_
        refine G_if_eq (tgt := 64) dX12_betterSign_52 (by decide) (fun c7 => ?_) (fun c7 => ?_)
        · refine G_bipush (v := -6) dX12_betterSign_64 (by decide) ?_
          exact G_iret rfl dX12_betterSign_66 ⟨_, rfl, (k3 v_1 h_1 q_1 c2 h_2 q_2 c4 c5 v_4 h_4 q_4 c7)⟩
        · refine G_aload_n 0 rfl dX12_betterSign_55 rfl ?_
          refine G_getr (j := r0_better) (k := 31) hs1 (q := (RX12, TX12, 40)) rfl inX12 (by decide) rfl hF_X12_62 dX12_betterSign_56 ?_
          refine G_iload_n 2 rfl dX12_betterSign_59 rfl ?_
          refine G_iald hs2 (sd2 v_1 h_1 q_1 c2 h_2 q_2 c4 c5 v_4 h_4 q_4 c7) dX12_betterSign_60 ?_
          refine G_goto (tgt := 66) dX12_betterSign_61 (by decide) ?_
          exact G_iret rfl dX12_betterSign_66 ⟨_, rfl, (k4 v_1 h_1 q_1 c2 h_2 q_2 c4 c5 v_4 h_4 q_4 c7)⟩
      · refine G_aload_n 0 rfl dX12_betterSign_32 rfl ?_
        refine G_geti (k := 32) hs1 (q := (RX12, TX12, 40)) rfl inX12 (by decide) (Or.inl rfl) hF_X12_339 dX12_betterSign_33 ?_
        refine G_goto (tgt := 66) dX12_betterSign_36 (by decide) ?_
        exact G_iret rfl dX12_betterSign_66 ⟨_, rfl, (k5 v_1 h_1 q_1 c2 h_2 q_2 c4 c5)⟩
  · refine G_bipush (v := -2) dX12_betterSign_12 (by decide) ?_
    exact G_iret rfl dX12_betterSign_14 ⟨_, rfl, (k6 v_1 h_1 q_1 c2)⟩

-- LostDigitsModel.pass
theorem dX12_pass_0 : decode cX12_pass 0 = .ok (.aload_n 0, 1) := by decide +kernel
theorem dX12_pass_1 : decode cX12_pass 1 = .ok (.getfield 366, 3) := by decide +kernel
theorem dX12_pass_4 : decode cX12_pass 4 = .ok (.ifCond .eq 7, 3) := by decide +kernel
theorem dX12_pass_7 : decode cX12_pass 7 = .ok (.lload_n 1, 1) := by decide +kernel
theorem dX12_pass_8 : decode cX12_pass 8 = .ok (.goto 12, 3) := by decide +kernel
theorem dX12_pass_11 : decode cX12_pass 11 = .ok (.aload_n 0, 1) := by decide +kernel
theorem dX12_pass_12 : decode cX12_pass 12 = .ok (.getfield 68, 3) := by decide +kernel
theorem dX12_pass_15 : decode cX12_pass 15 = .ok (.aload_n 0, 1) := by decide +kernel
theorem dX12_pass_16 : decode cX12_pass 16 = .ok (.getfield 370, 3) := by decide +kernel
theorem dX12_pass_19 : decode cX12_pass 19 = .ok (.laload, 1) := by decide +kernel
theorem dX12_pass_20 : decode cX12_pass 20 = .ok (.lstore_n 3, 1) := by decide +kernel
theorem dX12_pass_21 : decode cX12_pass 21 = .ok (.aload_n 0, 1) := by decide +kernel
theorem dX12_pass_22 : decode cX12_pass 22 = .ok (.getfield 68, 3) := by decide +kernel
theorem dX12_pass_25 : decode cX12_pass 25 = .ok (.aload_n 0, 1) := by decide +kernel
theorem dX12_pass_26 : decode cX12_pass 26 = .ok (.getfield 370, 3) := by decide +kernel
theorem dX12_pass_29 : decode cX12_pass 29 = .ok (.lload_n 3, 1) := by decide +kernel
theorem dX12_pass_30 : decode cX12_pass 30 = .ok (.lastore, 1) := by decide +kernel
theorem dX12_pass_31 : decode cX12_pass 31 = .ok (.aload_n 0, 1) := by decide +kernel
theorem dX12_pass_32 : decode cX12_pass 32 = .ok (.dup, 1) := by decide +kernel
theorem dX12_pass_33 : decode cX12_pass 33 = .ok (.getfield 370, 3) := by decide +kernel
theorem dX12_pass_36 : decode cX12_pass 36 = .ok (.iconst 1, 1) := by decide +kernel
theorem dX12_pass_37 : decode cX12_pass 37 = .ok (.iadd, 1) := by decide +kernel
theorem dX12_pass_38 : decode cX12_pass 38 = .ok (.putfield 370, 3) := by decide +kernel
theorem dX12_pass_41 : decode cX12_pass 41 = .ok (.lload_n 3, 1) := by decide +kernel
theorem dX12_pass_42 : decode cX12_pass 42 = .ok (.lreturn, 1) := by decide +kernel

set_option maxRecDepth 10000 in
theorem TX12_pass_0 {d : Nat} {S : fW} {h : fH} {Q : Int64 → fH → Prop} {r0 : Nat} {x1 : Int64} {r0_pad r0_text r0_number r0_span r0_now r0_sizeOf r0_workedTo r0_slip r0_exactUpper r0_exactLower r0_more r0_terms r0_order r0_bestOrder r0_low r0_high r0_built r0_better r0_base r0_kept r0_isKept : Nat}  
    (hs1 : (r0, shX12 r0_pad r0_text r0_number r0_span r0_now r0_sizeOf r0_workedTo r0_slip r0_exactUpper r0_exactLower r0_more r0_terms r0_order r0_bestOrder r0_low r0_high r0_built r0_better r0_base r0_kept r0_isKept) ∈ S)
    (hs2 : (r0_kept, shJ 80) ∈ S)
    (sd1 : (h.1 r0 39) = 0 → vp_in (h.1 r0 38) 80)
    (k1 : (h.1 r0 39) = 0 → Q (h.2.2.2 r0_kept (h.1 r0 38).toNatClampNeg) (u_fi (u_al h r0_kept (vp_updL (h.2.2.2 r0_kept) (h.1 r0 38).toNatClampNeg (h.2.2.2 r0_kept (h.1 r0 38).toNatClampNeg))) r0 38 (((u_al h r0_kept (vp_updL (h.2.2.2 r0_kept) (h.1 r0 38).toNatClampNeg (h.2.2.2 r0_kept (h.1 r0 38).toNatClampNeg))).1 r0 38) + (1 : Int32))))
    (sd2 : ¬ (h.1 r0 39) = 0 → vp_in (h.1 r0 38) 80)
    (k2 : ¬ (h.1 r0 39) = 0 → Q x1 (u_fi (u_al h r0_kept (vp_updL (h.2.2.2 r0_kept) (h.1 r0 38).toNatClampNeg x1)) r0 38 (((u_al h r0_kept (vp_updL (h.2.2.2 r0_kept) (h.1 r0 38).toNatClampNeg x1)).1 r0 38) + (1 : Int32)))) :
    OkL d mX12_pass S [.ref r0, .long x1] h Q := by
  refine Ok.of (by decide) (Nat.le_of_ble_eq_true rfl) ?_
  refine G_aload_n 0 rfl dX12_pass_0 rfl ?_
  refine G_geti (k := 39) hs1 (q := (RX12, TX12, 40)) rfl inX12 (by decide) (Or.inr rfl) hF_X12_366 dX12_pass_1 ?_
  refine G_if_eq (tgt := 11) dX12_pass_4 (by decide) (fun c1 => ?_) (fun c1 => ?_)
  · refine G_aload_n 0 rfl dX12_pass_11 rfl ?_
    refine G_getr (j := r0_kept) (k := 36) hs1 (q := (RX12, TX12, 40)) rfl inX12 (by decide) rfl hF_X12_68 dX12_pass_12 ?_
    refine G_aload_n 0 rfl dX12_pass_15 rfl ?_
    refine G_geti (k := 38) hs1 (q := (RX12, TX12, 40)) rfl inX12 (by decide) (Or.inl rfl) hF_X12_370 dX12_pass_16 ?_
    refine G_lald hs2 (sd1 c1) dX12_pass_19 ?_
    refine G_lstore_n dX12_pass_20 rfl (by decide) (lv' := [(3, .long (h.2.2.2 r0_kept (h.1 r0 38).toNatClampNeg)), (0, .ref r0), (1, .long x1)]) rfl ?_
    refine G_aload_n 1 rfl dX12_pass_21 rfl ?_
    refine G_getr (j := r0_kept) (k := 36) hs1 (q := (RX12, TX12, 40)) rfl inX12 (by decide) rfl hF_X12_68 dX12_pass_22 ?_
    refine G_aload_n 1 rfl dX12_pass_25 rfl ?_
    refine G_geti (k := 38) hs1 (q := (RX12, TX12, 40)) rfl inX12 (by decide) (Or.inl rfl) hF_X12_370 dX12_pass_26 ?_
    refine G_lload_n 0 rfl dX12_pass_29 rfl ?_
    refine G_last hs2 (sd1 c1) dX12_pass_30 ?_
    refine G_aload_n 1 rfl dX12_pass_31 rfl ?_
    refine G_dup dX12_pass_32 rfl ?_
    refine G_geti (k := 38) hs1 (q := (RX12, TX12, 40)) rfl inX12 (by decide) (Or.inl rfl) hF_X12_370 dX12_pass_33 ?_
    refine G_iconst (v := 1) dX12_pass_36 (by decide) ?_
    refine G_iadd dX12_pass_37 ?_
    refine G_puti (k := 38) tyX12 hs1 (q := (RX12, TX12, 40)) rfl inX12 tyX12_ok nmX12 (by decide) rfl rfl rfl hF_X12_370 dX12_pass_38 ?_
    refine G_lload_n 0 rfl dX12_pass_41 rfl ?_
    exact G_lret rfl dX12_pass_42 ⟨_, rfl, (k1 c1)⟩
  · refine G_lload_n 1 rfl dX12_pass_7 rfl ?_
    refine G_goto (tgt := 20) dX12_pass_8 (by decide) ?_
    refine G_lstore_n dX12_pass_20 rfl (by decide) (lv' := [(3, .long x1), (0, .ref r0), (1, .long x1)]) rfl ?_
    refine G_aload_n 1 rfl dX12_pass_21 rfl ?_
    refine G_getr (j := r0_kept) (k := 36) hs1 (q := (RX12, TX12, 40)) rfl inX12 (by decide) rfl hF_X12_68 dX12_pass_22 ?_
    refine G_aload_n 1 rfl dX12_pass_25 rfl ?_
    refine G_geti (k := 38) hs1 (q := (RX12, TX12, 40)) rfl inX12 (by decide) (Or.inl rfl) hF_X12_370 dX12_pass_26 ?_
    refine G_lload_n 0 rfl dX12_pass_29 rfl ?_
    refine G_last hs2 (sd2 c1) dX12_pass_30 ?_
    refine G_aload_n 1 rfl dX12_pass_31 rfl ?_
    refine G_dup dX12_pass_32 rfl ?_
    refine G_geti (k := 38) hs1 (q := (RX12, TX12, 40)) rfl inX12 (by decide) (Or.inl rfl) hF_X12_370 dX12_pass_33 ?_
    refine G_iconst (v := 1) dX12_pass_36 (by decide) ?_
    refine G_iadd dX12_pass_37 ?_
    refine G_puti (k := 38) tyX12 hs1 (q := (RX12, TX12, 40)) rfl inX12 tyX12_ok nmX12 (by decide) rfl rfl rfl hF_X12_370 dX12_pass_38 ?_
    refine G_lload_n 0 rfl dX12_pass_41 rfl ?_
    exact G_lret rfl dX12_pass_42 ⟨_, rfl, (k2 c1)⟩

-- LostDigitsModel.passAll
theorem dX12_passAll_0 : decode cX12_passAll 0 = .ok (.aload_n 0, 1) := by decide +kernel
theorem dX12_passAll_1 : decode cX12_passAll 1 = .ok (.aload_n 0, 1) := by decide +kernel
theorem dX12_passAll_2 : decode cX12_passAll 2 = .ok (.aload_n 0, 1) := by decide +kernel
theorem dX12_passAll_3 : decode cX12_passAll 3 = .ok (.getfield 75, 3) := by decide +kernel
theorem dX12_passAll_6 : decode cX12_passAll 6 = .ok (.i2l, 1) := by decide +kernel
theorem dX12_passAll_7 : decode cX12_passAll 7 = .ok (.invokevirtual 373, 3) := by decide +kernel
theorem dX12_passAll_10 : decode cX12_passAll 10 = .ok (.l2i, 1) := by decide +kernel
theorem dX12_passAll_11 : decode cX12_passAll 11 = .ok (.putfield 75, 3) := by decide +kernel
theorem dX12_passAll_14 : decode cX12_passAll 14 = .ok (.aload_n 0, 1) := by decide +kernel
theorem dX12_passAll_15 : decode cX12_passAll 15 = .ok (.aload_n 0, 1) := by decide +kernel
theorem dX12_passAll_16 : decode cX12_passAll 16 = .ok (.aload_n 0, 1) := by decide +kernel
theorem dX12_passAll_17 : decode cX12_passAll 17 = .ok (.getfield 142, 3) := by decide +kernel
theorem dX12_passAll_20 : decode cX12_passAll 20 = .ok (.i2l, 1) := by decide +kernel
theorem dX12_passAll_21 : decode cX12_passAll 21 = .ok (.invokevirtual 373, 3) := by decide +kernel
theorem dX12_passAll_24 : decode cX12_passAll 24 = .ok (.l2i, 1) := by decide +kernel
theorem dX12_passAll_25 : decode cX12_passAll 25 = .ok (.putfield 142, 3) := by decide +kernel
theorem dX12_passAll_28 : decode cX12_passAll 28 = .ok (.aload_n 0, 1) := by decide +kernel
theorem dX12_passAll_29 : decode cX12_passAll 29 = .ok (.aload_n 0, 1) := by decide +kernel
theorem dX12_passAll_30 : decode cX12_passAll 30 = .ok (.aload_n 0, 1) := by decide +kernel
theorem dX12_passAll_31 : decode cX12_passAll 31 = .ok (.getfield 79, 3) := by decide +kernel
theorem dX12_passAll_34 : decode cX12_passAll 34 = .ok (.i2l, 1) := by decide +kernel
theorem dX12_passAll_35 : decode cX12_passAll 35 = .ok (.invokevirtual 373, 3) := by decide +kernel
theorem dX12_passAll_38 : decode cX12_passAll 38 = .ok (.l2i, 1) := by decide +kernel
theorem dX12_passAll_39 : decode cX12_passAll 39 = .ok (.putfield 79, 3) := by decide +kernel
theorem dX12_passAll_42 : decode cX12_passAll 42 = .ok (.aload_n 0, 1) := by decide +kernel
theorem dX12_passAll_43 : decode cX12_passAll 43 = .ok (.aload_n 0, 1) := by decide +kernel
theorem dX12_passAll_44 : decode cX12_passAll 44 = .ok (.aload_n 0, 1) := by decide +kernel
theorem dX12_passAll_45 : decode cX12_passAll 45 = .ok (.getfield 247, 3) := by decide +kernel
theorem dX12_passAll_48 : decode cX12_passAll 48 = .ok (.i2l, 1) := by decide +kernel
theorem dX12_passAll_49 : decode cX12_passAll 49 = .ok (.invokevirtual 373, 3) := by decide +kernel
theorem dX12_passAll_52 : decode cX12_passAll 52 = .ok (.l2i, 1) := by decide +kernel
theorem dX12_passAll_53 : decode cX12_passAll 53 = .ok (.putfield 247, 3) := by decide +kernel
theorem dX12_passAll_56 : decode cX12_passAll 56 = .ok (.iconst 0, 1) := by decide +kernel
theorem dX12_passAll_57 : decode cX12_passAll 57 = .ok (.istore_n 1, 1) := by decide +kernel
theorem dX12_passAll_58 : decode cX12_passAll 58 = .ok (.iload_n 1, 1) := by decide +kernel
theorem dX12_passAll_59 : decode cX12_passAll 59 = .ok (.bipush 13, 2) := by decide +kernel
theorem dX12_passAll_61 : decode cX12_passAll 61 = .ok (.if_icmp .ge 27, 3) := by decide +kernel
theorem dX12_passAll_64 : decode cX12_passAll 64 = .ok (.aload_n 0, 1) := by decide +kernel
theorem dX12_passAll_65 : decode cX12_passAll 65 = .ok (.getfield 13, 3) := by decide +kernel
theorem dX12_passAll_68 : decode cX12_passAll 68 = .ok (.iload_n 1, 1) := by decide +kernel
theorem dX12_passAll_69 : decode cX12_passAll 69 = .ok (.aload_n 0, 1) := by decide +kernel
theorem dX12_passAll_70 : decode cX12_passAll 70 = .ok (.aload_n 0, 1) := by decide +kernel
theorem dX12_passAll_71 : decode cX12_passAll 71 = .ok (.getfield 13, 3) := by decide +kernel
theorem dX12_passAll_74 : decode cX12_passAll 74 = .ok (.iload_n 1, 1) := by decide +kernel
theorem dX12_passAll_75 : decode cX12_passAll 75 = .ok (.iaload, 1) := by decide +kernel
theorem dX12_passAll_76 : decode cX12_passAll 76 = .ok (.i2l, 1) := by decide +kernel
theorem dX12_passAll_77 : decode cX12_passAll 77 = .ok (.invokevirtual 373, 3) := by decide +kernel
theorem dX12_passAll_80 : decode cX12_passAll 80 = .ok (.l2i, 1) := by decide +kernel
theorem dX12_passAll_81 : decode cX12_passAll 81 = .ok (.iastore, 1) := by decide +kernel
theorem dX12_passAll_82 : decode cX12_passAll 82 = .ok (.iinc 1 1, 3) := by decide +kernel
theorem dX12_passAll_85 : decode cX12_passAll 85 = .ok (.goto (-27), 3) := by decide +kernel
theorem dX12_passAll_88 : decode cX12_passAll 88 = .ok (.iconst 0, 1) := by decide +kernel
theorem dX12_passAll_89 : decode cX12_passAll 89 = .ok (.istore_n 1, 1) := by decide +kernel
theorem dX12_passAll_90 : decode cX12_passAll 90 = .ok (.iload_n 1, 1) := by decide +kernel
theorem dX12_passAll_91 : decode cX12_passAll 91 = .ok (.iconst 5, 1) := by decide +kernel
theorem dX12_passAll_92 : decode cX12_passAll 92 = .ok (.if_icmp .ge 45, 3) := by decide +kernel
theorem dX12_passAll_95 : decode cX12_passAll 95 = .ok (.aload_n 0, 1) := by decide +kernel
theorem dX12_passAll_96 : decode cX12_passAll 96 = .ok (.getfield 16, 3) := by decide +kernel
theorem dX12_passAll_99 : decode cX12_passAll 99 = .ok (.iload_n 1, 1) := by decide +kernel
theorem dX12_passAll_100 : decode cX12_passAll 100 = .ok (.aload_n 0, 1) := by decide +kernel
theorem dX12_passAll_101 : decode cX12_passAll 101 = .ok (.aload_n 0, 1) := by decide +kernel
theorem dX12_passAll_102 : decode cX12_passAll 102 = .ok (.getfield 16, 3) := by decide +kernel
theorem dX12_passAll_105 : decode cX12_passAll 105 = .ok (.iload_n 1, 1) := by decide +kernel
theorem dX12_passAll_106 : decode cX12_passAll 106 = .ok (.iaload, 1) := by decide +kernel
theorem dX12_passAll_107 : decode cX12_passAll 107 = .ok (.i2l, 1) := by decide +kernel
theorem dX12_passAll_108 : decode cX12_passAll 108 = .ok (.invokevirtual 373, 3) := by decide +kernel
theorem dX12_passAll_111 : decode cX12_passAll 111 = .ok (.l2i, 1) := by decide +kernel
theorem dX12_passAll_112 : decode cX12_passAll 112 = .ok (.iastore, 1) := by decide +kernel
theorem dX12_passAll_113 : decode cX12_passAll 113 = .ok (.aload_n 0, 1) := by decide +kernel
theorem dX12_passAll_114 : decode cX12_passAll 114 = .ok (.getfield 19, 3) := by decide +kernel
theorem dX12_passAll_117 : decode cX12_passAll 117 = .ok (.iload_n 1, 1) := by decide +kernel
theorem dX12_passAll_118 : decode cX12_passAll 118 = .ok (.aload_n 0, 1) := by decide +kernel
theorem dX12_passAll_119 : decode cX12_passAll 119 = .ok (.aload_n 0, 1) := by decide +kernel
theorem dX12_passAll_120 : decode cX12_passAll 120 = .ok (.getfield 19, 3) := by decide +kernel
theorem dX12_passAll_123 : decode cX12_passAll 123 = .ok (.iload_n 1, 1) := by decide +kernel
theorem dX12_passAll_124 : decode cX12_passAll 124 = .ok (.iaload, 1) := by decide +kernel
theorem dX12_passAll_125 : decode cX12_passAll 125 = .ok (.i2l, 1) := by decide +kernel
theorem dX12_passAll_126 : decode cX12_passAll 126 = .ok (.invokevirtual 373, 3) := by decide +kernel
theorem dX12_passAll_129 : decode cX12_passAll 129 = .ok (.l2i, 1) := by decide +kernel
theorem dX12_passAll_130 : decode cX12_passAll 130 = .ok (.iastore, 1) := by decide +kernel
theorem dX12_passAll_131 : decode cX12_passAll 131 = .ok (.iinc 1 1, 3) := by decide +kernel
theorem dX12_passAll_134 : decode cX12_passAll 134 = .ok (.goto (-44), 3) := by decide +kernel
theorem dX12_passAll_137 : decode cX12_passAll 137 = .ok (.iconst 0, 1) := by decide +kernel
theorem dX12_passAll_138 : decode cX12_passAll 138 = .ok (.istore_n 1, 1) := by decide +kernel
theorem dX12_passAll_139 : decode cX12_passAll 139 = .ok (.iload_n 1, 1) := by decide +kernel
theorem dX12_passAll_140 : decode cX12_passAll 140 = .ok (.bipush 7, 2) := by decide +kernel
theorem dX12_passAll_142 : decode cX12_passAll 142 = .ok (.if_icmp .ge 25, 3) := by decide +kernel
theorem dX12_passAll_145 : decode cX12_passAll 145 = .ok (.aload_n 0, 1) := by decide +kernel
theorem dX12_passAll_146 : decode cX12_passAll 146 = .ok (.getfield 44, 3) := by decide +kernel
theorem dX12_passAll_149 : decode cX12_passAll 149 = .ok (.iload_n 1, 1) := by decide +kernel
theorem dX12_passAll_150 : decode cX12_passAll 150 = .ok (.aload_n 0, 1) := by decide +kernel
theorem dX12_passAll_151 : decode cX12_passAll 151 = .ok (.aload_n 0, 1) := by decide +kernel
theorem dX12_passAll_152 : decode cX12_passAll 152 = .ok (.getfield 44, 3) := by decide +kernel
theorem dX12_passAll_155 : decode cX12_passAll 155 = .ok (.iload_n 1, 1) := by decide +kernel
theorem dX12_passAll_156 : decode cX12_passAll 156 = .ok (.laload, 1) := by decide +kernel
theorem dX12_passAll_157 : decode cX12_passAll 157 = .ok (.invokevirtual 373, 3) := by decide +kernel
theorem dX12_passAll_160 : decode cX12_passAll 160 = .ok (.lastore, 1) := by decide +kernel
theorem dX12_passAll_161 : decode cX12_passAll 161 = .ok (.iinc 1 1, 3) := by decide +kernel
theorem dX12_passAll_164 : decode cX12_passAll 164 = .ok (.goto (-25), 3) := by decide +kernel
theorem dX12_passAll_167 : decode cX12_passAll 167 = .ok (.return_, 1) := by decide +kernel

set_option maxRecDepth 10000 in
theorem TX12_passAll_0 {d : Nat} {S : fW} {h : fH} {Q : fH → Prop} {r0 : Nat} {r0_pad r0_text r0_number r0_span r0_now r0_sizeOf r0_workedTo r0_slip r0_exactUpper r0_exactLower r0_more r0_terms r0_order r0_bestOrder r0_low r0_high r0_built r0_better r0_base r0_kept r0_isKept : Nat} {Q1 : Int64 → fH → Prop} {Q2 : Int64 → fH → Int64 → fH → Prop} {Q3 : Int64 → fH → Int64 → fH → Int64 → fH → Prop} {Q4 : Int64 → fH → Int64 → fH → Int64 → fH → Int64 → fH → Prop} 
    (hs1 : (r0, shX12 r0_pad r0_text r0_number r0_span r0_now r0_sizeOf r0_workedTo r0_slip r0_exactUpper r0_exactLower r0_more r0_terms r0_order r0_bestOrder r0_low r0_high r0_built r0_better r0_base r0_kept r0_isKept) ∈ S)
    (ok1 : OkL d mX12_pass S [.ref r0, .long ((h.1 r0 0).toInt64)] h Q1)
    (ok2 : ∀ v_1 h_1, Q1 v_1 h_1 → OkL d mX12_pass S [.ref r0, .long (((u_fi h_1 r0 0 v_1.toInt32).1 r0 1).toInt64)] (u_fi h_1 r0 0 v_1.toInt32) (Q2 v_1 h_1))
    (ok3 : ∀ v_1 h_1, Q1 v_1 h_1 → ∀ v_2 h_2, (Q2 v_1 h_1) v_2 h_2 → OkL d mX12_pass S [.ref r0, .long (((u_fi h_2 r0 1 v_2.toInt32).1 r0 10).toInt64)] (u_fi h_2 r0 1 v_2.toInt32) (Q3 v_1 h_1 v_2 h_2))
    (ok4 : ∀ v_1 h_1, Q1 v_1 h_1 → ∀ v_2 h_2, (Q2 v_1 h_1) v_2 h_2 → ∀ v_3 h_3, (Q3 v_1 h_1 v_2 h_2) v_3 h_3 → OkL d mX12_pass S [.ref r0, .long (((u_fi h_3 r0 10 v_3.toInt32).1 r0 22).toInt64)] (u_fi h_3 r0 10 v_3.toInt32) (Q4 v_1 h_1 v_2 h_2 v_3 h_3))
    (k1 : ∀ v_1 h_1, Q1 v_1 h_1 → ∀ v_2 h_2, (Q2 v_1 h_1) v_2 h_2 → ∀ v_3 h_3, (Q3 v_1 h_1 v_2 h_2) v_3 h_3 → ∀ v_4 h_4, (Q4 v_1 h_1 v_2 h_2 v_3 h_3) v_4 h_4 → G mX12_passAll (d + 1) S (f_PV Q) 58 [(0, .ref r0), (1, .int (0 : Int32))] [] (u_fi h_4 r0 22 v_4.toInt32)) :
    OkV (d + 1) mX12_passAll S [.ref r0] h Q := by
  refine Ok.of (by decide) (Nat.le_of_ble_eq_true rfl) ?_
  refine G_aload_n 0 rfl dX12_passAll_0 rfl ?_
  refine G_aload_n 0 rfl dX12_passAll_1 rfl ?_
  refine G_aload_n 0 rfl dX12_passAll_2 rfl ?_
  refine G_geti (k := 0) hs1 (q := (RX12, TX12, 40)) rfl inX12 (by decide) (Or.inl rfl) hF_X12_75 dX12_passAll_3 ?_
  refine G_i2l dX12_passAll_6 ?_
  refine G_callV (Z := mX12_pass) (As := [.long ((h.1 r0 0).toInt64)]) (st := [.ref r0]) hL_X12_373 hI_X12_pass hS_X12_pass hC_X12_pass hN_X12 nX12_pass (by decide) hs1 rfl rfl rfl (Nat.le_of_ble_eq_true rfl) dX12_passAll_7 (ok1) (fun r_ h_1 z_ => ?_)
  obtain ⟨v_1, rfl, q_1⟩ := z_
  refine G_l2i dX12_passAll_10 ?_
  refine G_puti (k := 0) tyX12 hs1 (q := (RX12, TX12, 40)) rfl inX12 tyX12_ok nmX12 (by decide) rfl rfl rfl hF_X12_75 dX12_passAll_11 ?_
  refine G_aload_n 0 rfl dX12_passAll_14 rfl ?_
  refine G_aload_n 0 rfl dX12_passAll_15 rfl ?_
  refine G_aload_n 0 rfl dX12_passAll_16 rfl ?_
  refine G_geti (k := 1) hs1 (q := (RX12, TX12, 40)) rfl inX12 (by decide) (Or.inl rfl) hF_X12_142 dX12_passAll_17 ?_
  refine G_i2l dX12_passAll_20 ?_
  refine G_callV (Z := mX12_pass) (As := [.long (((u_fi h_1 r0 0 v_1.toInt32).1 r0 1).toInt64)]) (st := [.ref r0]) hL_X12_373 hI_X12_pass hS_X12_pass hC_X12_pass hN_X12 nX12_pass (by decide) hs1 rfl rfl rfl (Nat.le_of_ble_eq_true rfl) dX12_passAll_21 (ok2 v_1 h_1 q_1) (fun r_ h_2 z_ => ?_)
  obtain ⟨v_2, rfl, q_2⟩ := z_
  refine G_l2i dX12_passAll_24 ?_
  refine G_puti (k := 1) tyX12 hs1 (q := (RX12, TX12, 40)) rfl inX12 tyX12_ok nmX12 (by decide) rfl rfl rfl hF_X12_142 dX12_passAll_25 ?_
  refine G_aload_n 0 rfl dX12_passAll_28 rfl ?_
  refine G_aload_n 0 rfl dX12_passAll_29 rfl ?_
  refine G_aload_n 0 rfl dX12_passAll_30 rfl ?_
  refine G_geti (k := 10) hs1 (q := (RX12, TX12, 40)) rfl inX12 (by decide) (Or.inl rfl) hF_X12_79 dX12_passAll_31 ?_
  refine G_i2l dX12_passAll_34 ?_
  refine G_callV (Z := mX12_pass) (As := [.long (((u_fi h_2 r0 1 v_2.toInt32).1 r0 10).toInt64)]) (st := [.ref r0]) hL_X12_373 hI_X12_pass hS_X12_pass hC_X12_pass hN_X12 nX12_pass (by decide) hs1 rfl rfl rfl (Nat.le_of_ble_eq_true rfl) dX12_passAll_35 (ok3 v_1 h_1 q_1 v_2 h_2 q_2) (fun r_ h_3 z_ => ?_)
  obtain ⟨v_3, rfl, q_3⟩ := z_
  refine G_l2i dX12_passAll_38 ?_
  refine G_puti (k := 10) tyX12 hs1 (q := (RX12, TX12, 40)) rfl inX12 tyX12_ok nmX12 (by decide) rfl rfl rfl hF_X12_79 dX12_passAll_39 ?_
  refine G_aload_n 0 rfl dX12_passAll_42 rfl ?_
  refine G_aload_n 0 rfl dX12_passAll_43 rfl ?_
  refine G_aload_n 0 rfl dX12_passAll_44 rfl ?_
  refine G_geti (k := 22) hs1 (q := (RX12, TX12, 40)) rfl inX12 (by decide) (Or.inl rfl) hF_X12_247 dX12_passAll_45 ?_
  refine G_i2l dX12_passAll_48 ?_
  refine G_callV (Z := mX12_pass) (As := [.long (((u_fi h_3 r0 10 v_3.toInt32).1 r0 22).toInt64)]) (st := [.ref r0]) hL_X12_373 hI_X12_pass hS_X12_pass hC_X12_pass hN_X12 nX12_pass (by decide) hs1 rfl rfl rfl (Nat.le_of_ble_eq_true rfl) dX12_passAll_49 (ok4 v_1 h_1 q_1 v_2 h_2 q_2 v_3 h_3 q_3) (fun r_ h_4 z_ => ?_)
  obtain ⟨v_4, rfl, q_4⟩ := z_
  refine G_l2i dX12_passAll_52 ?_
  refine G_puti (k := 22) tyX12 hs1 (q := (RX12, TX12, 40)) rfl inX12 tyX12_ok nmX12 (by decide) rfl rfl rfl hF_X12_247 dX12_passAll_53 ?_
  refine G_iconst (v := 0) dX12_passAll_56 (by decide) ?_
  refine G_istore_n dX12_passAll_57 rfl (by decide) (lv' := [(1, .int (0 : Int32)), (0, .ref r0)]) rfl ?_
  exact G_sub [1, 0] rfl (k1 v_1 h_1 q_1 v_2 h_2 q_2 v_3 h_3 q_3 v_4 h_4 q_4)

set_option maxRecDepth 10000 in
theorem TX12_passAll_58 {d : Nat} {S : fW} {h : fH} {Q : fH → Prop} {r0 : Nat} {x1 : Int32} {r0_pad r0_text r0_number r0_span r0_now r0_sizeOf r0_workedTo r0_slip r0_exactUpper r0_exactLower r0_more r0_terms r0_order r0_bestOrder r0_low r0_high r0_built r0_better r0_base r0_kept r0_isKept : Nat} {Q1 : Int64 → fH → Prop} 
    (k1 : (13 : Int32) ≤ x1 → G mX12_passAll (d + 1) S (f_PV Q) 90 [(0, .ref r0), (1, .int (0 : Int32))] [] h)
    (hs1 : (r0, shX12 r0_pad r0_text r0_number r0_span r0_now r0_sizeOf r0_workedTo r0_slip r0_exactUpper r0_exactLower r0_more r0_terms r0_order r0_bestOrder r0_low r0_high r0_built r0_better r0_base r0_kept r0_isKept) ∈ S)
    (hs2 : (r0_text, shI 13) ∈ S)
    (sd1 : ¬ (13 : Int32) ≤ x1 → vp_in x1 13)
    (ok1 : ¬ (13 : Int32) ≤ x1 → OkL d mX12_pass S [.ref r0, .long ((h.2.2.1 r0_text x1.toNatClampNeg).toInt64)] h Q1)
    (k2 : ¬ (13 : Int32) ≤ x1 → ∀ v_1 h_1, Q1 v_1 h_1 → G mX12_passAll (d + 1) S (f_PV Q) 58 [(0, .ref r0), (1, .int (x1 + 1))] [] (u_ai h_1 r0_text (upd (h_1.2.2.1 r0_text) x1.toNatClampNeg v_1.toInt32))) :
    G mX12_passAll (d + 1) S (f_PV Q) 58 [(0, .ref r0), (1, .int x1)] [] h := by
  refine G_iload_n 1 rfl dX12_passAll_58 rfl ?_
  refine G_bipush (v := 13) dX12_passAll_59 (by decide) ?_
  refine G_icmp_ge (tgt := 88) dX12_passAll_61 (by decide) (fun c1 => ?_) (fun c1 => ?_)
  · refine G_iconst (v := 0) dX12_passAll_88 (by decide) ?_
    refine G_istore_n dX12_passAll_89 rfl (by decide) (lv' := [(1, .int (0 : Int32)), (0, .ref r0)]) rfl ?_
    exact G_sub [1, 0] rfl (k1 c1)
  · refine G_aload_n 0 rfl dX12_passAll_64 rfl ?_
    refine G_getr (j := r0_text) (k := 9) hs1 (q := (RX12, TX12, 40)) rfl inX12 (by decide) rfl hF_X12_13 dX12_passAll_65 ?_
    refine G_iload_n 1 rfl dX12_passAll_68 rfl ?_
    refine G_aload_n 0 rfl dX12_passAll_69 rfl ?_
    refine G_aload_n 0 rfl dX12_passAll_70 rfl ?_
    refine G_getr (j := r0_text) (k := 9) hs1 (q := (RX12, TX12, 40)) rfl inX12 (by decide) rfl hF_X12_13 dX12_passAll_71 ?_
    refine G_iload_n 1 rfl dX12_passAll_74 rfl ?_
    refine G_iald hs2 (sd1 c1) dX12_passAll_75 ?_
    refine G_i2l dX12_passAll_76 ?_
    refine G_callV (Z := mX12_pass) (As := [.long ((h.2.2.1 r0_text x1.toNatClampNeg).toInt64)]) (st := [.int x1, .ref r0_text]) hL_X12_373 hI_X12_pass hS_X12_pass hC_X12_pass hN_X12 nX12_pass (by decide) hs1 rfl rfl rfl (Nat.le_of_ble_eq_true rfl) dX12_passAll_77 (ok1 c1) (fun r_ h_1 z_ => ?_)
    obtain ⟨v_1, rfl, q_1⟩ := z_
    refine G_l2i dX12_passAll_80 ?_
    refine G_iast hs2 (sd1 c1) dX12_passAll_81 ?_
    refine G_iinc (v := 1) 1 rfl dX12_passAll_82 (by decide) (by decide) (lv' := [(1, .int (x1 + 1)), (0, .ref r0)]) rfl ?_
    refine G_goto (tgt := 58) dX12_passAll_85 (by decide) ?_
    exact G_sub [1, 0] rfl (k2 c1 v_1 h_1 q_1)

set_option maxRecDepth 10000 in
theorem TX12_passAll_90 {d : Nat} {S : fW} {h : fH} {Q : fH → Prop} {r0 : Nat} {x1 : Int32} {r0_pad r0_text r0_number r0_span r0_now r0_sizeOf r0_workedTo r0_slip r0_exactUpper r0_exactLower r0_more r0_terms r0_order r0_bestOrder r0_low r0_high r0_built r0_better r0_base r0_kept r0_isKept : Nat} {Q1 : Int64 → fH → Prop} {Q2 : Int64 → fH → Int64 → fH → Prop} 
    (k1 : (5 : Int32) ≤ x1 → G mX12_passAll (d + 1) S (f_PV Q) 139 [(0, .ref r0), (1, .int (0 : Int32))] [] h)
    (hs1 : (r0, shX12 r0_pad r0_text r0_number r0_span r0_now r0_sizeOf r0_workedTo r0_slip r0_exactUpper r0_exactLower r0_more r0_terms r0_order r0_bestOrder r0_low r0_high r0_built r0_better r0_base r0_kept r0_isKept) ∈ S)
    (hs2 : (r0_number, shI 5) ∈ S)
    (sd1 : ¬ (5 : Int32) ≤ x1 → vp_in x1 5)
    (ok1 : ¬ (5 : Int32) ≤ x1 → OkL d mX12_pass S [.ref r0, .long ((h.2.2.1 r0_number x1.toNatClampNeg).toInt64)] h Q1)
    (hs3 : (r0_span, shI 5) ∈ S)
    (ok2 : ¬ (5 : Int32) ≤ x1 → ∀ v_1 h_1, Q1 v_1 h_1 → OkL d mX12_pass S [.ref r0, .long (((u_ai h_1 r0_number (upd (h_1.2.2.1 r0_number) x1.toNatClampNeg v_1.toInt32)).2.2.1 r0_span x1.toNatClampNeg).toInt64)] (u_ai h_1 r0_number (upd (h_1.2.2.1 r0_number) x1.toNatClampNeg v_1.toInt32)) (Q2 v_1 h_1))
    (k2 : ¬ (5 : Int32) ≤ x1 → ∀ v_1 h_1, Q1 v_1 h_1 → ∀ v_2 h_2, (Q2 v_1 h_1) v_2 h_2 → G mX12_passAll (d + 1) S (f_PV Q) 90 [(0, .ref r0), (1, .int (x1 + 1))] [] (u_ai h_2 r0_span (upd (h_2.2.2.1 r0_span) x1.toNatClampNeg v_2.toInt32))) :
    G mX12_passAll (d + 1) S (f_PV Q) 90 [(0, .ref r0), (1, .int x1)] [] h := by
  refine G_iload_n 1 rfl dX12_passAll_90 rfl ?_
  refine G_iconst (v := 5) dX12_passAll_91 (by decide) ?_
  refine G_icmp_ge (tgt := 137) dX12_passAll_92 (by decide) (fun c1 => ?_) (fun c1 => ?_)
  · refine G_iconst (v := 0) dX12_passAll_137 (by decide) ?_
    refine G_istore_n dX12_passAll_138 rfl (by decide) (lv' := [(1, .int (0 : Int32)), (0, .ref r0)]) rfl ?_
    exact G_sub [1, 0] rfl (k1 c1)
  · refine G_aload_n 0 rfl dX12_passAll_95 rfl ?_
    refine G_getr (j := r0_number) (k := 11) hs1 (q := (RX12, TX12, 40)) rfl inX12 (by decide) rfl hF_X12_16 dX12_passAll_96 ?_
    refine G_iload_n 1 rfl dX12_passAll_99 rfl ?_
    refine G_aload_n 0 rfl dX12_passAll_100 rfl ?_
    refine G_aload_n 0 rfl dX12_passAll_101 rfl ?_
    refine G_getr (j := r0_number) (k := 11) hs1 (q := (RX12, TX12, 40)) rfl inX12 (by decide) rfl hF_X12_16 dX12_passAll_102 ?_
    refine G_iload_n 1 rfl dX12_passAll_105 rfl ?_
    refine G_iald hs2 (sd1 c1) dX12_passAll_106 ?_
    refine G_i2l dX12_passAll_107 ?_
    refine G_callV (Z := mX12_pass) (As := [.long ((h.2.2.1 r0_number x1.toNatClampNeg).toInt64)]) (st := [.int x1, .ref r0_number]) hL_X12_373 hI_X12_pass hS_X12_pass hC_X12_pass hN_X12 nX12_pass (by decide) hs1 rfl rfl rfl (Nat.le_of_ble_eq_true rfl) dX12_passAll_108 (ok1 c1) (fun r_ h_1 z_ => ?_)
    obtain ⟨v_1, rfl, q_1⟩ := z_
    refine G_l2i dX12_passAll_111 ?_
    refine G_iast hs2 (sd1 c1) dX12_passAll_112 ?_
    refine G_aload_n 0 rfl dX12_passAll_113 rfl ?_
    refine G_getr (j := r0_span) (k := 12) hs1 (q := (RX12, TX12, 40)) rfl inX12 (by decide) rfl hF_X12_19 dX12_passAll_114 ?_
    refine G_iload_n 1 rfl dX12_passAll_117 rfl ?_
    refine G_aload_n 0 rfl dX12_passAll_118 rfl ?_
    refine G_aload_n 0 rfl dX12_passAll_119 rfl ?_
    refine G_getr (j := r0_span) (k := 12) hs1 (q := (RX12, TX12, 40)) rfl inX12 (by decide) rfl hF_X12_19 dX12_passAll_120 ?_
    refine G_iload_n 1 rfl dX12_passAll_123 rfl ?_
    refine G_iald hs3 (sd1 c1) dX12_passAll_124 ?_
    refine G_i2l dX12_passAll_125 ?_
    refine G_callV (Z := mX12_pass) (As := [.long (((u_ai h_1 r0_number (upd (h_1.2.2.1 r0_number) x1.toNatClampNeg v_1.toInt32)).2.2.1 r0_span x1.toNatClampNeg).toInt64)]) (st := [.int x1, .ref r0_span]) hL_X12_373 hI_X12_pass hS_X12_pass hC_X12_pass hN_X12 nX12_pass (by decide) hs1 rfl rfl rfl (Nat.le_of_ble_eq_true rfl) dX12_passAll_126 (ok2 c1 v_1 h_1 q_1) (fun r_ h_2 z_ => ?_)
    obtain ⟨v_2, rfl, q_2⟩ := z_
    refine G_l2i dX12_passAll_129 ?_
    refine G_iast hs3 (sd1 c1) dX12_passAll_130 ?_
    refine G_iinc (v := 1) 1 rfl dX12_passAll_131 (by decide) (by decide) (lv' := [(1, .int (x1 + 1)), (0, .ref r0)]) rfl ?_
    refine G_goto (tgt := 90) dX12_passAll_134 (by decide) ?_
    exact G_sub [1, 0] rfl (k2 c1 v_1 h_1 q_1 v_2 h_2 q_2)

set_option maxRecDepth 10000 in
theorem TX12_passAll_139 {d : Nat} {S : fW} {h : fH} {Q : fH → Prop} {r0 : Nat} {x1 : Int32} {r0_pad r0_text r0_number r0_span r0_now r0_sizeOf r0_workedTo r0_slip r0_exactUpper r0_exactLower r0_more r0_terms r0_order r0_bestOrder r0_low r0_high r0_built r0_better r0_base r0_kept r0_isKept : Nat} {Q1 : Int64 → fH → Prop} 
    (k1 : (7 : Int32) ≤ x1 → Q h)
    (hs1 : (r0, shX12 r0_pad r0_text r0_number r0_span r0_now r0_sizeOf r0_workedTo r0_slip r0_exactUpper r0_exactLower r0_more r0_terms r0_order r0_bestOrder r0_low r0_high r0_built r0_better r0_base r0_kept r0_isKept) ∈ S)
    (hs2 : (r0_terms, shJ 7) ∈ S)
    (sd1 : ¬ (7 : Int32) ≤ x1 → vp_in x1 7)
    (ok1 : ¬ (7 : Int32) ≤ x1 → OkL d mX12_pass S [.ref r0, .long (h.2.2.2 r0_terms x1.toNatClampNeg)] h Q1)
    (k2 : ¬ (7 : Int32) ≤ x1 → ∀ v_1 h_1, Q1 v_1 h_1 → G mX12_passAll (d + 1) S (f_PV Q) 139 [(0, .ref r0), (1, .int (x1 + 1))] [] (u_al h_1 r0_terms (vp_updL (h_1.2.2.2 r0_terms) x1.toNatClampNeg v_1))) :
    G mX12_passAll (d + 1) S (f_PV Q) 139 [(0, .ref r0), (1, .int x1)] [] h := by
  refine G_iload_n 1 rfl dX12_passAll_139 rfl ?_
  refine G_bipush (v := 7) dX12_passAll_140 (by decide) ?_
  refine G_icmp_ge (tgt := 167) dX12_passAll_142 (by decide) (fun c1 => ?_) (fun c1 => ?_)
  · exact G_vret rfl dX12_passAll_167 ⟨rfl, (k1 c1)⟩
  · refine G_aload_n 0 rfl dX12_passAll_145 rfl ?_
    refine G_getr (j := r0_terms) (k := 21) hs1 (q := (RX12, TX12, 40)) rfl inX12 (by decide) rfl hF_X12_44 dX12_passAll_146 ?_
    refine G_iload_n 1 rfl dX12_passAll_149 rfl ?_
    refine G_aload_n 0 rfl dX12_passAll_150 rfl ?_
    refine G_aload_n 0 rfl dX12_passAll_151 rfl ?_
    refine G_getr (j := r0_terms) (k := 21) hs1 (q := (RX12, TX12, 40)) rfl inX12 (by decide) rfl hF_X12_44 dX12_passAll_152 ?_
    refine G_iload_n 1 rfl dX12_passAll_155 rfl ?_
    refine G_lald hs2 (sd1 c1) dX12_passAll_156 ?_
    refine G_callV (Z := mX12_pass) (As := [.long (h.2.2.2 r0_terms x1.toNatClampNeg)]) (st := [.int x1, .ref r0_terms]) hL_X12_373 hI_X12_pass hS_X12_pass hC_X12_pass hN_X12 nX12_pass (by decide) hs1 rfl rfl rfl (Nat.le_of_ble_eq_true rfl) dX12_passAll_157 (ok1 c1) (fun r_ h_1 z_ => ?_)
    obtain ⟨v_1, rfl, q_1⟩ := z_
    refine G_last hs2 (sd1 c1) dX12_passAll_160 ?_
    refine G_iinc (v := 1) 1 rfl dX12_passAll_161 (by decide) (by decide) (lv' := [(1, .int (x1 + 1)), (0, .ref r0)]) rfl ?_
    refine G_goto (tgt := 139) dX12_passAll_164 (by decide) ?_
    exact G_sub [1, 0] rfl (k2 c1 v_1 h_1 q_1)

-- LostDigitsModel.image
theorem dX12_image_0 : decode cX12_image 0 = .ok (.iload_n 1, 1) := by decide +kernel
theorem dX12_image_1 : decode cX12_image 1 = .ok (.invokestatic 134, 3) := by decide +kernel
theorem dX12_image_4 : decode cX12_image 4 = .ok (.ifCond .ne 6, 3) := by decide +kernel
theorem dX12_image_7 : decode cX12_image 7 = .ok (.bipush (-2), 2) := by decide +kernel
theorem dX12_image_9 : decode cX12_image 9 = .ok (.ireturn, 1) := by decide +kernel
theorem dX12_image_10 : decode cX12_image 10 = .ok (.aload_n 0, 1) := by decide +kernel
theorem dX12_image_11 : decode cX12_image 11 = .ok (.bipush 40, 2) := by decide +kernel
theorem dX12_image_13 : decode cX12_image 13 = .ok (.iload_n 1, 1) := by decide +kernel
theorem dX12_image_14 : decode cX12_image 14 = .ok (.imul, 1) := by decide +kernel
theorem dX12_image_15 : decode cX12_image 15 = .ok (.putfield 370, 3) := by decide +kernel
theorem dX12_image_18 : decode cX12_image 18 = .ok (.aload_n 0, 1) := by decide +kernel
theorem dX12_image_19 : decode cX12_image 19 = .ok (.iconst 1, 1) := by decide +kernel
theorem dX12_image_20 : decode cX12_image 20 = .ok (.putfield 366, 3) := by decide +kernel
theorem dX12_image_23 : decode cX12_image 23 = .ok (.aload_n 0, 1) := by decide +kernel
theorem dX12_image_24 : decode cX12_image 24 = .ok (.invokevirtual 376, 3) := by decide +kernel
theorem dX12_image_27 : decode cX12_image 27 = .ok (.aload_n 0, 1) := by decide +kernel
theorem dX12_image_28 : decode cX12_image 28 = .ok (.getfield 71, 3) := by decide +kernel
theorem dX12_image_31 : decode cX12_image 31 = .ok (.iload_n 1, 1) := by decide +kernel
theorem dX12_image_32 : decode cX12_image 32 = .ok (.iconst 1, 1) := by decide +kernel
theorem dX12_image_33 : decode cX12_image 33 = .ok (.bastore, 1) := by decide +kernel
theorem dX12_image_34 : decode cX12_image 34 = .ok (.iconst 1, 1) := by decide +kernel
theorem dX12_image_35 : decode cX12_image 35 = .ok (.ireturn, 1) := by decide +kernel

set_option maxRecDepth 10000 in
theorem TX12_image_0 {d : Nat} {S : fW} {h : fH} {Q : Int32 → fH → Prop} {r0 : Nat} {x1 : Int32} {r0_pad r0_text r0_number r0_span r0_now r0_sizeOf r0_workedTo r0_slip r0_exactUpper r0_exactLower r0_more r0_terms r0_order r0_bestOrder r0_low r0_high r0_built r0_better r0_base r0_kept r0_isKept : Nat} {Q1 : Int32 → fH → Prop} {Q2 : Int32 → fH → fH → Prop} 
    (ok1 : OkI d mX12_isEnd S [.int x1] h Q1)
    (hs1 : (r0, shX12 r0_pad r0_text r0_number r0_span r0_now r0_sizeOf r0_workedTo r0_slip r0_exactUpper r0_exactLower r0_more r0_terms r0_order r0_bestOrder r0_low r0_high r0_built r0_better r0_base r0_kept r0_isKept) ∈ S)
    (ok2 : ∀ v_1 h_1, Q1 v_1 h_1 → ¬ v_1 = 0 → OkV d mX12_passAll S [.ref r0] (u_fi (u_fi h_1 r0 38 ((40 : Int32) * x1)) r0 39 (1 : Int32)) (Q2 v_1 h_1))
    (hs2 : (r0_isKept, shZ 2) ∈ S)
    (sd1 : ∀ v_1 h_1, Q1 v_1 h_1 → ¬ v_1 = 0 → ∀ h_2, (Q2 v_1 h_1) h_2 → vp_in x1 2)
    (k1 : ∀ v_1 h_1, Q1 v_1 h_1 → ¬ v_1 = 0 → ∀ h_2, (Q2 v_1 h_1) h_2 → Q (1 : Int32) (u_ai h_2 r0_isKept (upd (h_2.2.2.1 r0_isKept) x1.toNatClampNeg (1 : Int32))))
    (k2 : ∀ v_1 h_1, Q1 v_1 h_1 → v_1 = 0 → Q (-2 : Int32) h_1) :
    OkI (d + 1) mX12_image S [.ref r0, .int x1] h Q := by
  refine Ok.of (by decide) (Nat.le_of_ble_eq_true rfl) ?_
  refine G_iload_n 1 rfl dX12_image_0 rfl ?_
  refine G_callS (Z := mX12_isEnd) (As := [.int x1]) (st := []) hL_X12_134 hT_X12_isEnd hC_X12_isEnd hN_X12 nX12_isEnd (by decide) rfl (Nat.le_of_ble_eq_true rfl) dX12_image_1 (ok1) (fun r_ h_1 z_ => ?_)
  obtain ⟨v_1, rfl, q_1⟩ := z_
  refine G_if_ne (tgt := 10) dX12_image_4 (by decide) (fun c2 => ?_) (fun c2 => ?_)
  · refine G_aload_n 0 rfl dX12_image_10 rfl ?_
    refine G_bipush (v := 40) dX12_image_11 (by decide) ?_
    refine G_iload_n 1 rfl dX12_image_13 rfl ?_
    refine G_imul dX12_image_14 ?_
    refine G_puti (k := 38) tyX12 hs1 (q := (RX12, TX12, 40)) rfl inX12 tyX12_ok nmX12 (by decide) rfl rfl rfl hF_X12_370 dX12_image_15 ?_
    refine G_aload_n 0 rfl dX12_image_18 rfl ?_
    refine G_iconst (v := 1) dX12_image_19 (by decide) ?_
    refine G_putz (k := 39) tyX12 hs1 (q := (RX12, TX12, 40)) rfl inX12 tyX12_ok nmX12 (by decide) rfl rfl rfl (Or.inr rfl) hF_X12_366 dX12_image_20 ?_
    refine G_aload_n 0 rfl dX12_image_23 rfl ?_
    refine G_callV (Z := mX12_passAll) (As := []) (st := []) hL_X12_376 hI_X12_passAll hS_X12_passAll hC_X12_passAll hN_X12 nX12_passAll (by decide) hs1 rfl rfl rfl (Nat.le_of_ble_eq_true rfl) dX12_image_24 (ok2 v_1 h_1 q_1 c2) (fun r_ h_2 z_ => ?_)
    obtain ⟨rfl, q_2⟩ := z_
    refine G_aload_n 0 rfl dX12_image_27 rfl ?_
    refine G_getr (j := r0_isKept) (k := 37) hs1 (q := (RX12, TX12, 40)) rfl inX12 (by decide) rfl hF_X12_71 dX12_image_28 ?_
    refine G_iload_n 1 rfl dX12_image_31 rfl ?_
    refine G_iconst (v := 1) dX12_image_32 (by decide) ?_
    refine G_zast hs2 (sd1 v_1 h_1 q_1 c2 h_2 q_2) (Or.inr rfl) dX12_image_33 ?_
    refine G_iconst (v := 1) dX12_image_34 (by decide) ?_
    exact G_iret rfl dX12_image_35 ⟨_, rfl, (k1 v_1 h_1 q_1 c2 h_2 q_2)⟩
  · refine G_bipush (v := -2) dX12_image_7 (by decide) ?_
    exact G_iret rfl dX12_image_9 ⟨_, rfl, (k2 v_1 h_1 q_1 c2)⟩

-- LostDigitsModel.restore
theorem dX12_restore_0 : decode cX12_restore 0 = .ok (.iload_n 1, 1) := by decide +kernel
theorem dX12_restore_1 : decode cX12_restore 1 = .ok (.invokestatic 134, 3) := by decide +kernel
theorem dX12_restore_4 : decode cX12_restore 4 = .ok (.ifCond .ne 6, 3) := by decide +kernel
theorem dX12_restore_7 : decode cX12_restore 7 = .ok (.bipush (-2), 2) := by decide +kernel
theorem dX12_restore_9 : decode cX12_restore 9 = .ok (.ireturn, 1) := by decide +kernel
theorem dX12_restore_10 : decode cX12_restore 10 = .ok (.aload_n 0, 1) := by decide +kernel
theorem dX12_restore_11 : decode cX12_restore 11 = .ok (.getfield 71, 3) := by decide +kernel
theorem dX12_restore_14 : decode cX12_restore 14 = .ok (.iload_n 1, 1) := by decide +kernel
theorem dX12_restore_15 : decode cX12_restore 15 = .ok (.baload, 1) := by decide +kernel
theorem dX12_restore_16 : decode cX12_restore 16 = .ok (.ifCond .ne 6, 3) := by decide +kernel
theorem dX12_restore_19 : decode cX12_restore 19 = .ok (.bipush (-3), 2) := by decide +kernel
theorem dX12_restore_21 : decode cX12_restore 21 = .ok (.ireturn, 1) := by decide +kernel
theorem dX12_restore_22 : decode cX12_restore 22 = .ok (.aload_n 0, 1) := by decide +kernel
theorem dX12_restore_23 : decode cX12_restore 23 = .ok (.bipush 40, 2) := by decide +kernel
theorem dX12_restore_25 : decode cX12_restore 25 = .ok (.iload_n 1, 1) := by decide +kernel
theorem dX12_restore_26 : decode cX12_restore 26 = .ok (.imul, 1) := by decide +kernel
theorem dX12_restore_27 : decode cX12_restore 27 = .ok (.putfield 370, 3) := by decide +kernel
theorem dX12_restore_30 : decode cX12_restore 30 = .ok (.aload_n 0, 1) := by decide +kernel
theorem dX12_restore_31 : decode cX12_restore 31 = .ok (.iconst 0, 1) := by decide +kernel
theorem dX12_restore_32 : decode cX12_restore 32 = .ok (.putfield 366, 3) := by decide +kernel
theorem dX12_restore_35 : decode cX12_restore 35 = .ok (.aload_n 0, 1) := by decide +kernel
theorem dX12_restore_36 : decode cX12_restore 36 = .ok (.invokevirtual 376, 3) := by decide +kernel
theorem dX12_restore_39 : decode cX12_restore 39 = .ok (.iconst 1, 1) := by decide +kernel
theorem dX12_restore_40 : decode cX12_restore 40 = .ok (.ireturn, 1) := by decide +kernel

set_option maxRecDepth 10000 in
theorem TX12_restore_0 {d : Nat} {S : fW} {h : fH} {Q : Int32 → fH → Prop} {r0 : Nat} {x1 : Int32} {r0_pad r0_text r0_number r0_span r0_now r0_sizeOf r0_workedTo r0_slip r0_exactUpper r0_exactLower r0_more r0_terms r0_order r0_bestOrder r0_low r0_high r0_built r0_better r0_base r0_kept r0_isKept : Nat} {Q1 : Int32 → fH → Prop} {Q2 : Int32 → fH → fH → Prop} 
    (ok1 : OkI d mX12_isEnd S [.int x1] h Q1)
    (hs1 : (r0, shX12 r0_pad r0_text r0_number r0_span r0_now r0_sizeOf r0_workedTo r0_slip r0_exactUpper r0_exactLower r0_more r0_terms r0_order r0_bestOrder r0_low r0_high r0_built r0_better r0_base r0_kept r0_isKept) ∈ S)
    (hs2 : (r0_isKept, shZ 2) ∈ S)
    (sd1 : ∀ v_1 h_1, Q1 v_1 h_1 → ¬ v_1 = 0 → vp_in x1 2)
    (ok2 : ∀ v_1 h_1, Q1 v_1 h_1 → ¬ v_1 = 0 → ¬ (h_1.2.2.1 r0_isKept x1.toNatClampNeg) = 0 → OkV d mX12_passAll S [.ref r0] (u_fi (u_fi h_1 r0 38 ((40 : Int32) * x1)) r0 39 (0 : Int32)) (Q2 v_1 h_1))
    (k1 : ∀ v_1 h_1, Q1 v_1 h_1 → ¬ v_1 = 0 → ¬ (h_1.2.2.1 r0_isKept x1.toNatClampNeg) = 0 → ∀ h_2, (Q2 v_1 h_1) h_2 → Q (1 : Int32) h_2)
    (k2 : ∀ v_1 h_1, Q1 v_1 h_1 → ¬ v_1 = 0 → (h_1.2.2.1 r0_isKept x1.toNatClampNeg) = 0 → Q (-3 : Int32) h_1)
    (k3 : ∀ v_1 h_1, Q1 v_1 h_1 → v_1 = 0 → Q (-2 : Int32) h_1) :
    OkI (d + 1) mX12_restore S [.ref r0, .int x1] h Q := by
  refine Ok.of (by decide) (Nat.le_of_ble_eq_true rfl) ?_
  refine G_iload_n 1 rfl dX12_restore_0 rfl ?_
  refine G_callS (Z := mX12_isEnd) (As := [.int x1]) (st := []) hL_X12_134 hT_X12_isEnd hC_X12_isEnd hN_X12 nX12_isEnd (by decide) rfl (Nat.le_of_ble_eq_true rfl) dX12_restore_1 (ok1) (fun r_ h_1 z_ => ?_)
  obtain ⟨v_1, rfl, q_1⟩ := z_
  refine G_if_ne (tgt := 10) dX12_restore_4 (by decide) (fun c2 => ?_) (fun c2 => ?_)
  · refine G_aload_n 0 rfl dX12_restore_10 rfl ?_
    refine G_getr (j := r0_isKept) (k := 37) hs1 (q := (RX12, TX12, 40)) rfl inX12 (by decide) rfl hF_X12_71 dX12_restore_11 ?_
    refine G_iload_n 1 rfl dX12_restore_14 rfl ?_
    refine G_zald hs2 (sd1 v_1 h_1 q_1 c2) dX12_restore_15 ?_
    refine G_if_ne (tgt := 22) dX12_restore_16 (by decide) (fun c3 => ?_) (fun c3 => ?_)
    · refine G_aload_n 0 rfl dX12_restore_22 rfl ?_
      refine G_bipush (v := 40) dX12_restore_23 (by decide) ?_
      refine G_iload_n 1 rfl dX12_restore_25 rfl ?_
      refine G_imul dX12_restore_26 ?_
      refine G_puti (k := 38) tyX12 hs1 (q := (RX12, TX12, 40)) rfl inX12 tyX12_ok nmX12 (by decide) rfl rfl rfl hF_X12_370 dX12_restore_27 ?_
      refine G_aload_n 0 rfl dX12_restore_30 rfl ?_
      refine G_iconst (v := 0) dX12_restore_31 (by decide) ?_
      refine G_putz (k := 39) tyX12 hs1 (q := (RX12, TX12, 40)) rfl inX12 tyX12_ok nmX12 (by decide) rfl rfl rfl (Or.inl rfl) hF_X12_366 dX12_restore_32 ?_
      refine G_aload_n 0 rfl dX12_restore_35 rfl ?_
      refine G_callV (Z := mX12_passAll) (As := []) (st := []) hL_X12_376 hI_X12_passAll hS_X12_passAll hC_X12_passAll hN_X12 nX12_passAll (by decide) hs1 rfl rfl rfl (Nat.le_of_ble_eq_true rfl) dX12_restore_36 (ok2 v_1 h_1 q_1 c2 c3) (fun r_ h_2 z_ => ?_)
      obtain ⟨rfl, q_2⟩ := z_
      refine G_iconst (v := 1) dX12_restore_39 (by decide) ?_
      exact G_iret rfl dX12_restore_40 ⟨_, rfl, (k1 v_1 h_1 q_1 c2 c3 h_2 q_2)⟩
    · refine G_bipush (v := -3) dX12_restore_19 (by decide) ?_
      exact G_iret rfl dX12_restore_21 ⟨_, rfl, (k2 v_1 h_1 q_1 c2 c3)⟩
  · refine G_bipush (v := -2) dX12_restore_7 (by decide) ?_
    exact G_iret rfl dX12_restore_9 ⟨_, rfl, (k3 v_1 h_1 q_1 c2)⟩

-- LostDigitsModel.told
theorem dX12_told_0 : decode cX12_told 0 = .ok (.iload_n 1, 1) := by decide +kernel
theorem dX12_told_1 : decode cX12_told 1 = .ok (.i2l, 1) := by decide +kernel
theorem dX12_told_2 : decode cX12_told 2 = .ok (.ldc2_w 86, 3) := by decide +kernel
theorem dX12_told_5 : decode cX12_told 5 = .ok (.ldc2_w 379, 3) := by decide +kernel
theorem dX12_told_8 : decode cX12_told 8 = .ok (.invokestatic 82, 3) := by decide +kernel
theorem dX12_told_11 : decode cX12_told 11 = .ok (.ifCond .eq 16, 3) := by decide +kernel
theorem dX12_told_14 : decode cX12_told 14 = .ok (.aload_n 0, 1) := by decide +kernel
theorem dX12_told_15 : decode cX12_told 15 = .ok (.getfield 16, 3) := by decide +kernel
theorem dX12_told_18 : decode cX12_told 18 = .ok (.iload_n 1, 1) := by decide +kernel
theorem dX12_told_19 : decode cX12_told 19 = .ok (.bipush 10, 2) := by decide +kernel
theorem dX12_told_21 : decode cX12_told 21 = .ok (.isub, 1) := by decide +kernel
theorem dX12_told_22 : decode cX12_told 22 = .ok (.iaload, 1) := by decide +kernel
theorem dX12_told_23 : decode cX12_told 23 = .ok (.bipush 100, 2) := by decide +kernel
theorem dX12_told_25 : decode cX12_told 25 = .ok (.iadd, 1) := by decide +kernel
theorem dX12_told_26 : decode cX12_told 26 = .ok (.ireturn, 1) := by decide +kernel
theorem dX12_told_27 : decode cX12_told 27 = .ok (.iload_n 1, 1) := by decide +kernel
theorem dX12_told_28 : decode cX12_told 28 = .ok (.i2l, 1) := by decide +kernel
theorem dX12_told_29 : decode cX12_told 29 = .ok (.ldc2_w 381, 3) := by decide +kernel
theorem dX12_told_32 : decode cX12_told 32 = .ok (.ldc2_w 383, 3) := by decide +kernel
theorem dX12_told_35 : decode cX12_told 35 = .ok (.invokestatic 82, 3) := by decide +kernel
theorem dX12_told_38 : decode cX12_told 38 = .ok (.ifCond .eq 13, 3) := by decide +kernel
theorem dX12_told_41 : decode cX12_told 41 = .ok (.aload_n 0, 1) := by decide +kernel
theorem dX12_told_42 : decode cX12_told 42 = .ok (.getfield 19, 3) := by decide +kernel
theorem dX12_told_45 : decode cX12_told 45 = .ok (.iload_n 1, 1) := by decide +kernel
theorem dX12_told_46 : decode cX12_told 46 = .ok (.bipush 20, 2) := by decide +kernel
theorem dX12_told_48 : decode cX12_told 48 = .ok (.isub, 1) := by decide +kernel
theorem dX12_told_49 : decode cX12_told 49 = .ok (.iaload, 1) := by decide +kernel
theorem dX12_told_50 : decode cX12_told 50 = .ok (.ireturn, 1) := by decide +kernel
theorem dX12_told_51 : decode cX12_told 51 = .ok (.iload_n 1, 1) := by decide +kernel
theorem dX12_told_52 : decode cX12_told 52 = .ok (.tableswitch 61 0 4 #[36, 41, 46, 51, 56], 36) := by decide +kernel
theorem dX12_told_88 : decode cX12_told 88 = .ok (.aload_n 0, 1) := by decide +kernel
theorem dX12_told_89 : decode cX12_told 89 = .ok (.getfield 159, 3) := by decide +kernel
theorem dX12_told_92 : decode cX12_told 92 = .ok (.ireturn, 1) := by decide +kernel
theorem dX12_told_93 : decode cX12_told 93 = .ok (.aload_n 0, 1) := by decide +kernel
theorem dX12_told_94 : decode cX12_told 94 = .ok (.getfield 79, 3) := by decide +kernel
theorem dX12_told_97 : decode cX12_told 97 = .ok (.ireturn, 1) := by decide +kernel
theorem dX12_told_98 : decode cX12_told 98 = .ok (.aload_n 0, 1) := by decide +kernel
theorem dX12_told_99 : decode cX12_told 99 = .ok (.getfield 75, 3) := by decide +kernel
theorem dX12_told_102 : decode cX12_told 102 = .ok (.ireturn, 1) := by decide +kernel
theorem dX12_told_103 : decode cX12_told 103 = .ok (.aload_n 0, 1) := by decide +kernel
theorem dX12_told_104 : decode cX12_told 104 = .ok (.getfield 142, 3) := by decide +kernel
theorem dX12_told_107 : decode cX12_told 107 = .ok (.ireturn, 1) := by decide +kernel
theorem dX12_told_108 : decode cX12_told 108 = .ok (.aload_n 0, 1) := by decide +kernel
theorem dX12_told_109 : decode cX12_told 109 = .ok (.getfield 247, 3) := by decide +kernel
theorem dX12_told_112 : decode cX12_told 112 = .ok (.ireturn, 1) := by decide +kernel
theorem dX12_told_113 : decode cX12_told 113 = .ok (.bipush (-2), 2) := by decide +kernel
theorem dX12_told_115 : decode cX12_told 115 = .ok (.ireturn, 1) := by decide +kernel

set_option maxRecDepth 10000 in
theorem TX12_told_0 {d : Nat} {S : fW} {h : fH} {Q : Int32 → fH → Prop} {r0 : Nat} {x1 : Int32} {r0_pad r0_text r0_number r0_span r0_now r0_sizeOf r0_workedTo r0_slip r0_exactUpper r0_exactLower r0_more r0_terms r0_order r0_bestOrder r0_low r0_high r0_built r0_better r0_base r0_kept r0_isKept : Nat} {Q1 : Int32 → fH → Prop} {Q2 : Int32 → fH → Int32 → fH → Prop} 
    (ok1 : OkI d mX12_in S [.long x1.toInt64, .long (10 : Int64), .long (14 : Int64)] h Q1)
    (ok2 : ∀ v_1 h_1, Q1 v_1 h_1 → v_1 = 0 → OkI d mX12_in S [.long x1.toInt64, .long (20 : Int64), .long (24 : Int64)] h_1 (Q2 v_1 h_1))
    (hs1 : (r0, shX12 r0_pad r0_text r0_number r0_span r0_now r0_sizeOf r0_workedTo r0_slip r0_exactUpper r0_exactLower r0_more r0_terms r0_order r0_bestOrder r0_low r0_high r0_built r0_better r0_base r0_kept r0_isKept) ∈ S)
    (k1 : ∀ v_1 h_1, Q1 v_1 h_1 → v_1 = 0 → ∀ v_2 h_2, (Q2 v_1 h_1) v_2 h_2 → v_2 = 0 → x1 = (0 : Int32) → Q (h_2.1 r0 8) h_2)
    (k2 : ∀ v_1 h_1, Q1 v_1 h_1 → v_1 = 0 → ∀ v_2 h_2, (Q2 v_1 h_1) v_2 h_2 → v_2 = 0 → ¬ x1 = (0 : Int32) → x1 = (1 : Int32) → Q (h_2.1 r0 10) h_2)
    (k3 : ∀ v_1 h_1, Q1 v_1 h_1 → v_1 = 0 → ∀ v_2 h_2, (Q2 v_1 h_1) v_2 h_2 → v_2 = 0 → ¬ x1 = (0 : Int32) → ¬ x1 = (1 : Int32) → x1 = (2 : Int32) → Q (h_2.1 r0 0) h_2)
    (k4 : ∀ v_1 h_1, Q1 v_1 h_1 → v_1 = 0 → ∀ v_2 h_2, (Q2 v_1 h_1) v_2 h_2 → v_2 = 0 → ¬ x1 = (0 : Int32) → ¬ x1 = (1 : Int32) → ¬ x1 = (2 : Int32) → x1 = (3 : Int32) → Q (h_2.1 r0 1) h_2)
    (k5 : ∀ v_1 h_1, Q1 v_1 h_1 → v_1 = 0 → ∀ v_2 h_2, (Q2 v_1 h_1) v_2 h_2 → v_2 = 0 → ¬ x1 = (0 : Int32) → ¬ x1 = (1 : Int32) → ¬ x1 = (2 : Int32) → ¬ x1 = (3 : Int32) → x1 = (4 : Int32) → Q (h_2.1 r0 22) h_2)
    (k6 : ∀ v_1 h_1, Q1 v_1 h_1 → v_1 = 0 → ∀ v_2 h_2, (Q2 v_1 h_1) v_2 h_2 → v_2 = 0 → ¬ x1 = (0 : Int32) → ¬ x1 = (1 : Int32) → ¬ x1 = (2 : Int32) → ¬ x1 = (3 : Int32) → ¬ x1 = (4 : Int32) → Q (-2 : Int32) h_2)
    (hs2 : (r0_span, shI 5) ∈ S)
    (sd1 : ∀ v_1 h_1, Q1 v_1 h_1 → v_1 = 0 → ∀ v_2 h_2, (Q2 v_1 h_1) v_2 h_2 → ¬ v_2 = 0 → vp_in (x1 - (20 : Int32)) 5)
    (k7 : ∀ v_1 h_1, Q1 v_1 h_1 → v_1 = 0 → ∀ v_2 h_2, (Q2 v_1 h_1) v_2 h_2 → ¬ v_2 = 0 → Q (h_2.2.2.1 r0_span (x1 - (20 : Int32)).toNatClampNeg) h_2)
    (hs3 : (r0_number, shI 5) ∈ S)
    (sd2 : ∀ v_1 h_1, Q1 v_1 h_1 → ¬ v_1 = 0 → vp_in (x1 - (10 : Int32)) 5)
    (k8 : ∀ v_1 h_1, Q1 v_1 h_1 → ¬ v_1 = 0 → Q ((h_1.2.2.1 r0_number (x1 - (10 : Int32)).toNatClampNeg) + (100 : Int32)) h_1) :
    OkI (d + 1) mX12_told S [.ref r0, .int x1] h Q := by
  refine Ok.of (by decide) (Nat.le_of_ble_eq_true rfl) ?_
  refine G_iload_n 1 rfl dX12_told_0 rfl ?_
  refine G_i2l dX12_told_1 ?_
  refine G_ldc2 hK_X12_86 dX12_told_2 ?_
  refine G_ldc2 hK_X12_379 dX12_told_5 ?_
  refine G_callS (Z := mX12_in) (As := [.long x1.toInt64, .long (10 : Int64), .long (14 : Int64)]) (st := []) hL_X12_82 hT_X12_in hC_X12_in hN_X12 nX12_in (by decide) rfl (Nat.le_of_ble_eq_true rfl) dX12_told_8 (ok1) (fun r_ h_1 z_ => ?_)
  obtain ⟨v_1, rfl, q_1⟩ := z_
  refine G_if_eq (tgt := 27) dX12_told_11 (by decide) (fun c2 => ?_) (fun c2 => ?_)
  · refine G_iload_n 1 rfl dX12_told_27 rfl ?_
    refine G_i2l dX12_told_28 ?_
    refine G_ldc2 hK_X12_381 dX12_told_29 ?_
    refine G_ldc2 hK_X12_383 dX12_told_32 ?_
    refine G_callS (Z := mX12_in) (As := [.long x1.toInt64, .long (20 : Int64), .long (24 : Int64)]) (st := []) hL_X12_82 hT_X12_in hC_X12_in hN_X12 nX12_in (by decide) rfl (Nat.le_of_ble_eq_true rfl) dX12_told_35 (ok2 v_1 h_1 q_1 c2) (fun r_ h_2 z_ => ?_)
    obtain ⟨v_2, rfl, q_2⟩ := z_
    refine G_if_eq (tgt := 51) dX12_told_38 (by decide) (fun c4 => ?_) (fun c4 => ?_)
    · refine G_iload_n 1 rfl dX12_told_51 rfl ?_
      refine Decidable.byCases (p := x1 = (0 : Int32)) (fun c5 => ?_) (fun c5 => ?_)
      · refine G_tabEq (off := 36) (tgt := 88) dX12_told_52 c5 (by decide) (by decide) (by decide) (by decide) ?_
        refine G_aload_n 0 rfl dX12_told_88 rfl ?_
        refine G_geti (k := 8) hs1 (q := (RX12, TX12, 40)) rfl inX12 (by decide) (Or.inl rfl) hF_X12_159 dX12_told_89 ?_
        exact G_iret rfl dX12_told_92 ⟨_, rfl, (k1 v_1 h_1 q_1 c2 v_2 h_2 q_2 c4 c5)⟩
      refine Decidable.byCases (p := x1 = (1 : Int32)) (fun c6 => ?_) (fun c6 => ?_)
      · refine G_tabEq (off := 41) (tgt := 93) dX12_told_52 c6 (by decide) (by decide) (by decide) (by decide) ?_
        refine G_aload_n 0 rfl dX12_told_93 rfl ?_
        refine G_geti (k := 10) hs1 (q := (RX12, TX12, 40)) rfl inX12 (by decide) (Or.inl rfl) hF_X12_79 dX12_told_94 ?_
        exact G_iret rfl dX12_told_97 ⟨_, rfl, (k2 v_1 h_1 q_1 c2 v_2 h_2 q_2 c4 c5 c6)⟩
      refine Decidable.byCases (p := x1 = (2 : Int32)) (fun c7 => ?_) (fun c7 => ?_)
      · refine G_tabEq (off := 46) (tgt := 98) dX12_told_52 c7 (by decide) (by decide) (by decide) (by decide) ?_
        refine G_aload_n 0 rfl dX12_told_98 rfl ?_
        refine G_geti (k := 0) hs1 (q := (RX12, TX12, 40)) rfl inX12 (by decide) (Or.inl rfl) hF_X12_75 dX12_told_99 ?_
        exact G_iret rfl dX12_told_102 ⟨_, rfl, (k3 v_1 h_1 q_1 c2 v_2 h_2 q_2 c4 c5 c6 c7)⟩
      refine Decidable.byCases (p := x1 = (3 : Int32)) (fun c8 => ?_) (fun c8 => ?_)
      · refine G_tabEq (off := 51) (tgt := 103) dX12_told_52 c8 (by decide) (by decide) (by decide) (by decide) ?_
        refine G_aload_n 0 rfl dX12_told_103 rfl ?_
        refine G_geti (k := 1) hs1 (q := (RX12, TX12, 40)) rfl inX12 (by decide) (Or.inl rfl) hF_X12_142 dX12_told_104 ?_
        exact G_iret rfl dX12_told_107 ⟨_, rfl, (k4 v_1 h_1 q_1 c2 v_2 h_2 q_2 c4 c5 c6 c7 c8)⟩
      refine Decidable.byCases (p := x1 = (4 : Int32)) (fun c9 => ?_) (fun c9 => ?_)
      · refine G_tabEq (off := 56) (tgt := 108) dX12_told_52 c9 (by decide) (by decide) (by decide) (by decide) ?_
        refine G_aload_n 0 rfl dX12_told_108 rfl ?_
        refine G_geti (k := 22) hs1 (q := (RX12, TX12, 40)) rfl inX12 (by decide) (Or.inl rfl) hF_X12_247 dX12_told_109 ?_
        exact G_iret rfl dX12_told_112 ⟨_, rfl, (k5 v_1 h_1 q_1 c2 v_2 h_2 q_2 c4 c5 c6 c7 c8 c9)⟩
      refine G_tabOut (tgt := 113) dX12_told_52 (f_tab5 c5 c6 c7 c8 c9) (by decide) ?_
      refine G_bipush (v := -2) dX12_told_113 (by decide) ?_
      exact G_iret rfl dX12_told_115 ⟨_, rfl, (k6 v_1 h_1 q_1 c2 v_2 h_2 q_2 c4 c5 c6 c7 c8 c9)⟩
    · refine G_aload_n 0 rfl dX12_told_41 rfl ?_
      refine G_getr (j := r0_span) (k := 12) hs1 (q := (RX12, TX12, 40)) rfl inX12 (by decide) rfl hF_X12_19 dX12_told_42 ?_
      refine G_iload_n 1 rfl dX12_told_45 rfl ?_
      refine G_bipush (v := 20) dX12_told_46 (by decide) ?_
      refine G_isub dX12_told_48 ?_
      refine G_iald hs2 (sd1 v_1 h_1 q_1 c2 v_2 h_2 q_2 c4) dX12_told_49 ?_
      exact G_iret rfl dX12_told_50 ⟨_, rfl, (k7 v_1 h_1 q_1 c2 v_2 h_2 q_2 c4)⟩
  · refine G_aload_n 0 rfl dX12_told_14 rfl ?_
    refine G_getr (j := r0_number) (k := 11) hs1 (q := (RX12, TX12, 40)) rfl inX12 (by decide) rfl hF_X12_16 dX12_told_15 ?_
    refine G_iload_n 1 rfl dX12_told_18 rfl ?_
    refine G_bipush (v := 10) dX12_told_19 (by decide) ?_
    refine G_isub dX12_told_21 ?_
    refine G_iald hs3 (sd2 v_1 h_1 q_1 c2) dX12_told_22 ?_
    refine G_bipush (v := 100) dX12_told_23 (by decide) ?_
    refine G_iadd dX12_told_25 ?_
    exact G_iret rfl dX12_told_26 ⟨_, rfl, (k8 v_1 h_1 q_1 c2)⟩


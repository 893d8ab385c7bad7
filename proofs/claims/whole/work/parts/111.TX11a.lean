-- LostDigits.set
theorem dX11_set_0 : decode cX11_set 0 = .ok (.iload_n 1, 1) := by decide +kernel
theorem dX11_set_1 : decode cX11_set 1 = .ok (.ifCond .ne 35, 3) := by decide +kernel
theorem dX11_set_4 : decode cX11_set 4 = .ok (.iload_n 2, 1) := by decide +kernel
theorem dX11_set_5 : decode cX11_set 5 = .ok (.iconst 1, 1) := by decide +kernel
theorem dX11_set_6 : decode cX11_set 6 = .ok (.if_icmp .lt 30, 3) := by decide +kernel
theorem dX11_set_9 : decode cX11_set 9 = .ok (.iload_n 2, 1) := by decide +kernel
theorem dX11_set_10 : decode cX11_set 10 = .ok (.iconst 4, 1) := by decide +kernel
theorem dX11_set_11 : decode cX11_set 11 = .ok (.if_icmp .gt 25, 3) := by decide +kernel
theorem dX11_set_14 : decode cX11_set 14 = .ok (.aload_n 0, 1) := by decide +kernel
theorem dX11_set_15 : decode cX11_set 15 = .ok (.getfield 12, 3) := by decide +kernel
theorem dX11_set_18 : decode cX11_set 18 = .ok (.getfield 79, 3) := by decide +kernel
theorem dX11_set_21 : decode cX11_set 21 = .ok (.istore_n 3, 1) := by decide +kernel
theorem dX11_set_22 : decode cX11_set 22 = .ok (.aload_n 0, 1) := by decide +kernel
theorem dX11_set_23 : decode cX11_set 23 = .ok (.getfield 12, 3) := by decide +kernel
theorem dX11_set_26 : decode cX11_set 26 = .ok (.iload_n 2, 1) := by decide +kernel
theorem dX11_set_27 : decode cX11_set 27 = .ok (.putfield 79, 3) := by decide +kernel
theorem dX11_set_30 : decode cX11_set 30 = .ok (.aload_n 0, 1) := by decide +kernel
theorem dX11_set_31 : decode cX11_set 31 = .ok (.invokevirtual 82, 3) := by decide +kernel
theorem dX11_set_34 : decode cX11_set 34 = .ok (.iload_n 3, 1) := by decide +kernel
theorem dX11_set_35 : decode cX11_set 35 = .ok (.ireturn, 1) := by decide +kernel
theorem dX11_set_36 : decode cX11_set 36 = .ok (.iload_n 1, 1) := by decide +kernel
theorem dX11_set_37 : decode cX11_set 37 = .ok (.iconst 1, 1) := by decide +kernel
theorem dX11_set_38 : decode cX11_set 38 = .ok (.if_icmp .ne 34, 3) := by decide +kernel
theorem dX11_set_41 : decode cX11_set 41 = .ok (.iload_n 2, 1) := by decide +kernel
theorem dX11_set_42 : decode cX11_set 42 = .ok (.ifCond .lt 30, 3) := by decide +kernel
theorem dX11_set_45 : decode cX11_set 45 = .ok (.iload_n 2, 1) := by decide +kernel
theorem dX11_set_46 : decode cX11_set 46 = .ok (.iconst 3, 1) := by decide +kernel
theorem dX11_set_47 : decode cX11_set 47 = .ok (.if_icmp .gt 25, 3) := by decide +kernel
theorem dX11_set_50 : decode cX11_set 50 = .ok (.aload_n 0, 1) := by decide +kernel
theorem dX11_set_51 : decode cX11_set 51 = .ok (.getfield 12, 3) := by decide +kernel
theorem dX11_set_54 : decode cX11_set 54 = .ok (.getfield 85, 3) := by decide +kernel
theorem dX11_set_57 : decode cX11_set 57 = .ok (.istore_n 3, 1) := by decide +kernel
theorem dX11_set_58 : decode cX11_set 58 = .ok (.aload_n 0, 1) := by decide +kernel
theorem dX11_set_59 : decode cX11_set 59 = .ok (.getfield 12, 3) := by decide +kernel
theorem dX11_set_62 : decode cX11_set 62 = .ok (.iload_n 2, 1) := by decide +kernel
theorem dX11_set_63 : decode cX11_set 63 = .ok (.putfield 85, 3) := by decide +kernel
theorem dX11_set_66 : decode cX11_set 66 = .ok (.aload_n 0, 1) := by decide +kernel
theorem dX11_set_67 : decode cX11_set 67 = .ok (.invokevirtual 82, 3) := by decide +kernel
theorem dX11_set_70 : decode cX11_set 70 = .ok (.iload_n 3, 1) := by decide +kernel
theorem dX11_set_71 : decode cX11_set 71 = .ok (.ireturn, 1) := by decide +kernel
theorem dX11_set_72 : decode cX11_set 72 = .ok (.bipush (-2), 2) := by decide +kernel
theorem dX11_set_74 : decode cX11_set 74 = .ok (.ireturn, 1) := by decide +kernel
set_option maxRecDepth 10000 in
theorem NX11_set_0 {d : Nat} {S : fW} {h : fH} {Q : Int32 → fH → Prop} {r0 : Nat} {x1 : Int32} {x2 : Int32} {r0_now r0_imageZero r0_imageOne r0_pad r0_ratio r0_rounding r0_steps r0_sums r0_allOrders r0_spans r0_search r0_now_text r0_now_numbers r0_now_spans r0_now_terms : Nat}  
    (hs1 : (r0, shX11 r0_now r0_imageZero r0_imageOne r0_pad r0_ratio r0_rounding r0_steps r0_sums r0_allOrders r0_spans r0_search) ∈ S)
    (hs2 : (r0_now, shX2 r0_now_text r0_now_numbers r0_now_spans r0_now_terms) ∈ S)
    (w : ((¬ x1 = 0 → G mX11_set (d + 1) S (f_PI Q) 36 [(0, .ref r0), (1, .int x1), (2, .int x2)] [] h) ∧ (x1 = 0 → ((x2 < (1 : Int32) → G mX11_set (d + 1) S (f_PI Q) 36 [(0, .ref r0), (1, .int x1), (2, .int x2)] [] h) ∧ (¬ x2 < (1 : Int32) → (((4 : Int32) < x2 → G mX11_set (d + 1) S (f_PI Q) 36 [(0, .ref r0), (1, .int x1), (2, .int x2)] [] h) ∧ (¬ (4 : Int32) < x2 → ∀ g_1 : fH, g_1 = u_fi h r0_now 5 x2 → ∃ Q1 : fH → Prop, OkV d mX11_forgetFindings S [.ref r0] g_1 Q1 ∧ ∀ (h_1 : fH), Q1 h_1 → Q (h.1 r0_now 5) h_1))))))) :
    OkI (d + 1) mX11_set S [.ref r0, .int x1, .int x2] h Q := by
  refine Ok.of (by decide) (Nat.le_of_ble_eq_true rfl) ?_
  refine G_iload_n 1 rfl dX11_set_0 rfl ?_
  refine G_if_ne (tgt := 36) dX11_set_1 (by decide) (fun c1 => ?_) (fun c1 => ?_)
  · have w := w.1 c1
    exact G_sub [0, 1, 2] rfl w
  · have w := w.2 c1
    refine G_iload_n 2 rfl dX11_set_4 rfl ?_
    refine G_iconst (v := 1) dX11_set_5 (by decide) ?_
    refine G_icmp_lt (tgt := 36) dX11_set_6 (by decide) (fun c2 => ?_) (fun c2 => ?_)
    · have w := w.1 c2
      exact G_sub [0, 1, 2] rfl w
    · have w := w.2 c2
      refine G_iload_n 2 rfl dX11_set_9 rfl ?_
      refine G_iconst (v := 4) dX11_set_10 (by decide) ?_
      refine G_icmp_gt (tgt := 36) dX11_set_11 (by decide) (fun c3 => ?_) (fun c3 => ?_)
      · have w := w.1 c3
        exact G_sub [0, 1, 2] rfl w
      · have w := w.2 c3
        refine G_aload_n 0 rfl dX11_set_14 rfl ?_
        refine G_getr (j := r0_now) (k := 0) hs1 (q := (RX11, TX11, 12)) rfl inX11 (by decide) rfl hF_X11_12 dX11_set_15 ?_
        refine G_geti (k := 5) hs2 (q := (RX2, TX2, 8)) rfl inX2 (by decide) (Or.inl rfl) hF_X11_79 dX11_set_18 ?_
        refine G_istore_n dX11_set_21 rfl (by decide) (lv' := [(3, .int (h.1 r0_now 5)), (0, .ref r0), (1, .int x1), (2, .int x2)]) rfl ?_
        refine G_aload_n 1 rfl dX11_set_22 rfl ?_
        refine G_getr (j := r0_now) (k := 0) hs1 (q := (RX11, TX11, 12)) rfl inX11 (by decide) rfl hF_X11_12 dX11_set_23 ?_
        refine G_iload_n 3 rfl dX11_set_26 rfl ?_
        refine G_puti (k := 5) tyX2 hs2 (q := (RX2, TX2, 8)) rfl inX2 tyX2_ok nmX2 (by decide) rfl rfl rfl hF_X11_79 dX11_set_27 ?_
        refine G_nm (fun g_1 e_1 => ?_)
        have w := w g_1 e_1
        refine G_aload_n 1 rfl dX11_set_30 rfl ?_
        obtain ⟨Q1, ok1, w⟩ := w
        refine G_callV (Z := mX11_forgetFindings) (As := []) (st := []) hL_X11_82 hI_X11_forgetFindings hS_X11_forgetFindings hC_X11_forgetFindings hN_X11 nX11_forgetFindings (by decide) hs1 rfl rfl rfl (Nat.le_of_ble_eq_true rfl) dX11_set_31 ok1 (fun r_ h_1 z_ => ?_)
        obtain ⟨rfl, q_1⟩ := z_
        have w := w h_1 q_1
        refine G_iload_n 0 rfl dX11_set_34 rfl ?_
        exact G_iret rfl dX11_set_35 ⟨_, rfl, w⟩

set_option maxRecDepth 10000 in
theorem NX11_set_36 {d : Nat} {S : fW} {h : fH} {Q : Int32 → fH → Prop} {r0 : Nat} {x1 : Int32} {x2 : Int32} {r0_now r0_imageZero r0_imageOne r0_pad r0_ratio r0_rounding r0_steps r0_sums r0_allOrders r0_spans r0_search r0_now_text r0_now_numbers r0_now_spans r0_now_terms : Nat}  
    (hs1 : (r0, shX11 r0_now r0_imageZero r0_imageOne r0_pad r0_ratio r0_rounding r0_steps r0_sums r0_allOrders r0_spans r0_search) ∈ S)
    (hs2 : (r0_now, shX2 r0_now_text r0_now_numbers r0_now_spans r0_now_terms) ∈ S)
    (w : ((¬ x1 = (1 : Int32) → Q (-2 : Int32) h) ∧ (x1 = (1 : Int32) → ((x2 < 0 → Q (-2 : Int32) h) ∧ (¬ x2 < 0 → (((3 : Int32) < x2 → Q (-2 : Int32) h) ∧ (¬ (3 : Int32) < x2 → ∀ g_1 : fH, g_1 = u_fi h r0_now 6 x2 → ∃ Q1 : fH → Prop, OkV d mX11_forgetFindings S [.ref r0] g_1 Q1 ∧ ∀ (h_1 : fH), Q1 h_1 → Q (h.1 r0_now 6) h_1))))))) :
    G mX11_set (d + 1) S (f_PI Q) 36 [(0, .ref r0), (1, .int x1), (2, .int x2)] [] h := by
  refine G_iload_n 1 rfl dX11_set_36 rfl ?_
  refine G_iconst (v := 1) dX11_set_37 (by decide) ?_
  refine G_icmp_ne (tgt := 72) dX11_set_38 (by decide) (fun c1 => ?_) (fun c1 => ?_)
  · have w := w.1 c1
    refine G_bipush (v := -2) dX11_set_72 (by decide) ?_
    exact G_iret rfl dX11_set_74 ⟨_, rfl, w⟩
  · have w := w.2 c1
    refine G_iload_n 2 rfl dX11_set_41 rfl ?_
    refine G_if_lt (tgt := 72) dX11_set_42 (by decide) (fun c2 => ?_) (fun c2 => ?_)
    · have w := w.1 c2
      refine G_bipush (v := -2) dX11_set_72 (by decide) ?_
      exact G_iret rfl dX11_set_74 ⟨_, rfl, w⟩
    · have w := w.2 c2
      refine G_iload_n 2 rfl dX11_set_45 rfl ?_
      refine G_iconst (v := 3) dX11_set_46 (by decide) ?_
      refine G_icmp_gt (tgt := 72) dX11_set_47 (by decide) (fun c3 => ?_) (fun c3 => ?_)
      · have w := w.1 c3
        refine G_bipush (v := -2) dX11_set_72 (by decide) ?_
        exact G_iret rfl dX11_set_74 ⟨_, rfl, w⟩
      · have w := w.2 c3
        refine G_aload_n 0 rfl dX11_set_50 rfl ?_
        refine G_getr (j := r0_now) (k := 0) hs1 (q := (RX11, TX11, 12)) rfl inX11 (by decide) rfl hF_X11_12 dX11_set_51 ?_
        refine G_geti (k := 6) hs2 (q := (RX2, TX2, 8)) rfl inX2 (by decide) (Or.inl rfl) hF_X11_85 dX11_set_54 ?_
        refine G_istore_n dX11_set_57 rfl (by decide) (lv' := [(3, .int (h.1 r0_now 6)), (0, .ref r0), (1, .int x1), (2, .int x2)]) rfl ?_
        refine G_aload_n 1 rfl dX11_set_58 rfl ?_
        refine G_getr (j := r0_now) (k := 0) hs1 (q := (RX11, TX11, 12)) rfl inX11 (by decide) rfl hF_X11_12 dX11_set_59 ?_
        refine G_iload_n 3 rfl dX11_set_62 rfl ?_
        refine G_puti (k := 6) tyX2 hs2 (q := (RX2, TX2, 8)) rfl inX2 tyX2_ok nmX2 (by decide) rfl rfl rfl hF_X11_85 dX11_set_63 ?_
        refine G_nm (fun g_1 e_1 => ?_)
        have w := w g_1 e_1
        refine G_aload_n 1 rfl dX11_set_66 rfl ?_
        obtain ⟨Q1, ok1, w⟩ := w
        refine G_callV (Z := mX11_forgetFindings) (As := []) (st := []) hL_X11_82 hI_X11_forgetFindings hS_X11_forgetFindings hC_X11_forgetFindings hN_X11 nX11_forgetFindings (by decide) hs1 rfl rfl rfl (Nat.le_of_ble_eq_true rfl) dX11_set_67 ok1 (fun r_ h_1 z_ => ?_)
        obtain ⟨rfl, q_1⟩ := z_
        have w := w h_1 q_1
        refine G_iload_n 0 rfl dX11_set_70 rfl ?_
        exact G_iret rfl dX11_set_71 ⟨_, rfl, w⟩
-- LostDigits.round
theorem dX11_round_0 : decode cX11_round 0 = .ok (.iload_n 1, 1) := by decide +kernel
theorem dX11_round_1 : decode cX11_round 1 = .ok (.ldc 88, 2) := by decide +kernel
theorem dX11_round_3 : decode cX11_round 3 = .ok (.if_icmp .lt 32, 3) := by decide +kernel
theorem dX11_round_6 : decode cX11_round 6 = .ok (.iload_n 1, 1) := by decide +kernel
theorem dX11_round_7 : decode cX11_round 7 = .ok (.ldc 89, 2) := by decide +kernel
theorem dX11_round_9 : decode cX11_round 9 = .ok (.if_icmp .gt 26, 3) := by decide +kernel
theorem dX11_round_12 : decode cX11_round 12 = .ok (.iload_n 2, 1) := by decide +kernel
theorem dX11_round_13 : decode cX11_round 13 = .ok (.iconst 1, 1) := by decide +kernel
theorem dX11_round_14 : decode cX11_round 14 = .ok (.if_icmp .lt 21, 3) := by decide +kernel
theorem dX11_round_17 : decode cX11_round 17 = .ok (.iload_n 2, 1) := by decide +kernel
theorem dX11_round_18 : decode cX11_round 18 = .ok (.ldc 89, 2) := by decide +kernel
theorem dX11_round_20 : decode cX11_round 20 = .ok (.if_icmp .gt 15, 3) := by decide +kernel
theorem dX11_round_23 : decode cX11_round 23 = .ok (.iload_n 3, 1) := by decide +kernel
theorem dX11_round_24 : decode cX11_round 24 = .ok (.bipush (-9), 2) := by decide +kernel
theorem dX11_round_26 : decode cX11_round 26 = .ok (.if_icmp .lt 9, 3) := by decide +kernel
theorem dX11_round_29 : decode cX11_round 29 = .ok (.iload_n 3, 1) := by decide +kernel
theorem dX11_round_30 : decode cX11_round 30 = .ok (.bipush 9, 2) := by decide +kernel
theorem dX11_round_32 : decode cX11_round 32 = .ok (.if_icmp .le 7, 3) := by decide +kernel
theorem dX11_round_35 : decode cX11_round 35 = .ok (.ldc2_w 90, 3) := by decide +kernel
theorem dX11_round_38 : decode cX11_round 38 = .ok (.lreturn, 1) := by decide +kernel
theorem dX11_round_39 : decode cX11_round 39 = .ok (.aload_n 0, 1) := by decide +kernel
theorem dX11_round_40 : decode cX11_round 40 = .ok (.getfield 33, 3) := by decide +kernel
theorem dX11_round_43 : decode cX11_round 43 = .ok (.iload_n 1, 1) := by decide +kernel
theorem dX11_round_44 : decode cX11_round 44 = .ok (.i2l, 1) := by decide +kernel
theorem dX11_round_45 : decode cX11_round 45 = .ok (.iload_n 2, 1) := by decide +kernel
theorem dX11_round_46 : decode cX11_round 46 = .ok (.i2l, 1) := by decide +kernel
theorem dX11_round_47 : decode cX11_round 47 = .ok (.iload_n 3, 1) := by decide +kernel
theorem dX11_round_48 : decode cX11_round 48 = .ok (.bipush 9, 2) := by decide +kernel
theorem dX11_round_50 : decode cX11_round 50 = .ok (.iadd, 1) := by decide +kernel
theorem dX11_round_51 : decode cX11_round 51 = .ok (.invokevirtual 92, 3) := by decide +kernel
theorem dX11_round_54 : decode cX11_round 54 = .ok (.aload_n 0, 1) := by decide +kernel
theorem dX11_round_55 : decode cX11_round 55 = .ok (.getfield 40, 3) := by decide +kernel
theorem dX11_round_58 : decode cX11_round 58 = .ok (.aload_n 0, 1) := by decide +kernel
theorem dX11_round_59 : decode cX11_round 59 = .ok (.getfield 12, 3) := by decide +kernel
theorem dX11_round_62 : decode cX11_round 62 = .ok (.getfield 79, 3) := by decide +kernel
theorem dX11_round_65 : decode cX11_round 65 = .ok (.aload_n 0, 1) := by decide +kernel
theorem dX11_round_66 : decode cX11_round 66 = .ok (.getfield 12, 3) := by decide +kernel
theorem dX11_round_69 : decode cX11_round 69 = .ok (.getfield 85, 3) := by decide +kernel
theorem dX11_round_72 : decode cX11_round 72 = .ok (.invokevirtual 96, 3) := by decide +kernel
theorem dX11_round_75 : decode cX11_round 75 = .ok (.aload_n 0, 1) := by decide +kernel
theorem dX11_round_76 : decode cX11_round 76 = .ok (.getfield 40, 3) := by decide +kernel
theorem dX11_round_79 : decode cX11_round 79 = .ok (.aload_n 0, 1) := by decide +kernel
theorem dX11_round_80 : decode cX11_round 80 = .ok (.getfield 33, 3) := by decide +kernel
theorem dX11_round_83 : decode cX11_round 83 = .ok (.invokevirtual 100, 3) := by decide +kernel
theorem dX11_round_86 : decode cX11_round 86 = .ok (.lreturn, 1) := by decide +kernel
set_option maxRecDepth 10000 in
theorem NX11_round_0 {d : Nat} {S : fW} {h : fH} {Q : Int64 → fH → Prop} {r0 : Nat} {x1 : Int32} {x2 : Int32} {x3 : Int32} {r0_now r0_imageZero r0_imageOne r0_pad r0_ratio r0_rounding r0_steps r0_sums r0_allOrders r0_spans r0_search r0_now_text r0_now_numbers r0_now_spans r0_now_terms : Nat}  
    (hs1 : (r0, shX11 r0_now r0_imageZero r0_imageOne r0_pad r0_ratio r0_rounding r0_steps r0_sums r0_allOrders r0_spans r0_search) ∈ S)
    (hs2 : (r0_ratio, shX3) ∈ S)
    (hs3 : (r0_now, shX2 r0_now_text r0_now_numbers r0_now_spans r0_now_terms) ∈ S)
    (hs4 : (r0_rounding, shX4) ∈ S)
    (w : ((x1 < (-1000000 : Int32) → Q (-1000000000000000002 : Int64) h) ∧ (¬ x1 < (-1000000 : Int32) → (((1000000 : Int32) < x1 → Q (-1000000000000000002 : Int64) h) ∧ (¬ (1000000 : Int32) < x1 → ((x2 < (1 : Int32) → Q (-1000000000000000002 : Int64) h) ∧ (¬ x2 < (1 : Int32) → (((1000000 : Int32) < x2 → Q (-1000000000000000002 : Int64) h) ∧ (¬ (1000000 : Int32) < x2 → ((x3 < (-9 : Int32) → Q (-1000000000000000002 : Int64) h) ∧ (¬ x3 < (-9 : Int32) → ((x3 ≤ (9 : Int32) → ∃ Q1 : fH → Prop, OkV d mX3_hold S [.ref r0_ratio, .long x1.toInt64, .long x2.toInt64, .int (x3 + (9 : Int32))] h Q1 ∧ ∀ (h_1 : fH), Q1 h_1 → ∃ Q2 : fH → Prop, OkV d mX4_turn S [.ref r0_rounding, .int (h_1.1 r0_now 5), .int (h_1.1 r0_now 6)] h_1 Q2 ∧ ∀ (h_2 : fH), Q2 h_2 → ∃ Q3 : Int64 → fH → Prop, OkL d mX4_of S [.ref r0_rounding, .ref r0_ratio] h_2 Q3 ∧ ∀ (v_3 : Int64) (h_3 : fH), Q3 v_3 h_3 → Q v_3 h_3) ∧ (¬ x3 ≤ (9 : Int32) → Q (-1000000000000000002 : Int64) h))))))))))))) :
    OkL (d + 1) mX11_round S [.ref r0, .int x1, .int x2, .int x3] h Q := by
  refine Ok.of (by decide) (Nat.le_of_ble_eq_true rfl) ?_
  refine G_iload_n 1 rfl dX11_round_0 rfl ?_
  refine G_ldc hK_X11_88 dX11_round_1 ?_
  refine G_icmp_lt (tgt := 35) dX11_round_3 (by decide) (fun c1 => ?_) (fun c1 => ?_)
  · have w := w.1 c1
    refine G_ldc2 hK_X11_90 dX11_round_35 ?_
    exact G_lret rfl dX11_round_38 ⟨_, rfl, w⟩
  · have w := w.2 c1
    refine G_iload_n 1 rfl dX11_round_6 rfl ?_
    refine G_ldc hK_X11_89 dX11_round_7 ?_
    refine G_icmp_gt (tgt := 35) dX11_round_9 (by decide) (fun c2 => ?_) (fun c2 => ?_)
    · have w := w.1 c2
      refine G_ldc2 hK_X11_90 dX11_round_35 ?_
      exact G_lret rfl dX11_round_38 ⟨_, rfl, w⟩
    · have w := w.2 c2
      refine G_iload_n 2 rfl dX11_round_12 rfl ?_
      refine G_iconst (v := 1) dX11_round_13 (by decide) ?_
      refine G_icmp_lt (tgt := 35) dX11_round_14 (by decide) (fun c3 => ?_) (fun c3 => ?_)
      · have w := w.1 c3
        refine G_ldc2 hK_X11_90 dX11_round_35 ?_
        exact G_lret rfl dX11_round_38 ⟨_, rfl, w⟩
      · have w := w.2 c3
        refine G_iload_n 2 rfl dX11_round_17 rfl ?_
        refine G_ldc hK_X11_89 dX11_round_18 ?_
        refine G_icmp_gt (tgt := 35) dX11_round_20 (by decide) (fun c4 => ?_) (fun c4 => ?_)
        · have w := w.1 c4
          refine G_ldc2 hK_X11_90 dX11_round_35 ?_
          exact G_lret rfl dX11_round_38 ⟨_, rfl, w⟩
        · have w := w.2 c4
          refine G_iload_n 3 rfl dX11_round_23 rfl ?_
          refine G_bipush (v := -9) dX11_round_24 (by decide) ?_
          refine G_icmp_lt (tgt := 35) dX11_round_26 (by decide) (fun c5 => ?_) (fun c5 => ?_)
          · have w := w.1 c5
            refine G_ldc2 hK_X11_90 dX11_round_35 ?_
            exact G_lret rfl dX11_round_38 ⟨_, rfl, w⟩
          · have w := w.2 c5
            refine G_iload_n 3 rfl dX11_round_29 rfl ?_
            refine G_bipush (v := 9) dX11_round_30 (by decide) ?_
            refine G_icmp_le (tgt := 39) dX11_round_32 (by decide) (fun c6 => ?_) (fun c6 => ?_)
            · have w := w.1 c6
              refine G_aload_n 0 rfl dX11_round_39 rfl ?_
              refine G_getr (j := r0_ratio) (k := 5) hs1 (q := (RX11, TX11, 12)) rfl inX11 (by decide) rfl hF_X11_33 dX11_round_40 ?_
              refine G_iload_n 1 rfl dX11_round_43 rfl ?_
              refine G_i2l dX11_round_44 ?_
              refine G_iload_n 2 rfl dX11_round_45 rfl ?_
              refine G_i2l dX11_round_46 ?_
              refine G_iload_n 3 rfl dX11_round_47 rfl ?_
              refine G_bipush (v := 9) dX11_round_48 (by decide) ?_
              refine G_iadd dX11_round_50 ?_
              obtain ⟨Q1, ok1, w⟩ := w
              refine G_callV (Z := mX3_hold) (As := [.long x1.toInt64, .long x2.toInt64, .int (x3 + (9 : Int32))]) (st := []) hL_X11_92 hI_X3_hold hS_X3_hold hC_X3_hold hN_X3 nX3_hold (by decide) hs2 rfl rfl rfl (Nat.le_of_ble_eq_true rfl) dX11_round_51 ok1 (fun r_ h_1 z_ => ?_)
              obtain ⟨rfl, q_1⟩ := z_
              have w := w h_1 q_1
              refine G_aload_n 0 rfl dX11_round_54 rfl ?_
              refine G_getr (j := r0_rounding) (k := 6) hs1 (q := (RX11, TX11, 12)) rfl inX11 (by decide) rfl hF_X11_40 dX11_round_55 ?_
              refine G_aload_n 0 rfl dX11_round_58 rfl ?_
              refine G_getr (j := r0_now) (k := 0) hs1 (q := (RX11, TX11, 12)) rfl inX11 (by decide) rfl hF_X11_12 dX11_round_59 ?_
              refine G_geti (k := 5) hs3 (q := (RX2, TX2, 8)) rfl inX2 (by decide) (Or.inl rfl) hF_X11_79 dX11_round_62 ?_
              refine G_aload_n 0 rfl dX11_round_65 rfl ?_
              refine G_getr (j := r0_now) (k := 0) hs1 (q := (RX11, TX11, 12)) rfl inX11 (by decide) rfl hF_X11_12 dX11_round_66 ?_
              refine G_geti (k := 6) hs3 (q := (RX2, TX2, 8)) rfl inX2 (by decide) (Or.inl rfl) hF_X11_85 dX11_round_69 ?_
              obtain ⟨Q2, ok2, w⟩ := w
              refine G_callV (Z := mX4_turn) (As := [.int (h_1.1 r0_now 5), .int (h_1.1 r0_now 6)]) (st := []) hL_X11_96 hI_X4_turn hS_X4_turn hC_X4_turn hN_X4 nX4_turn (by decide) hs4 rfl rfl rfl (Nat.le_of_ble_eq_true rfl) dX11_round_72 ok2 (fun r_ h_2 z_ => ?_)
              obtain ⟨rfl, q_2⟩ := z_
              have w := w h_2 q_2
              refine G_aload_n 0 rfl dX11_round_75 rfl ?_
              refine G_getr (j := r0_rounding) (k := 6) hs1 (q := (RX11, TX11, 12)) rfl inX11 (by decide) rfl hF_X11_40 dX11_round_76 ?_
              refine G_aload_n 0 rfl dX11_round_79 rfl ?_
              refine G_getr (j := r0_ratio) (k := 5) hs1 (q := (RX11, TX11, 12)) rfl inX11 (by decide) rfl hF_X11_33 dX11_round_80 ?_
              obtain ⟨Q3, ok3, w⟩ := w
              refine G_callV (Z := mX4_of) (As := [.ref r0_ratio]) (st := []) hL_X11_100 hI_X4_of hS_X4_of hC_X4_of hN_X4 nX4_of (by decide) hs4 rfl rfl rfl (Nat.le_of_ble_eq_true rfl) dX11_round_83 ok3 (fun r_ h_3 z_ => ?_)
              obtain ⟨v_3, rfl, q_3⟩ := z_
              have w := w v_3 h_3 q_3
              exact G_lret rfl dX11_round_86 ⟨_, rfl, w⟩
            · have w := w.2 c6
              refine G_ldc2 hK_X11_90 dX11_round_35 ?_
              exact G_lret rfl dX11_round_38 ⟨_, rfl, w⟩
-- LostDigits.say
theorem dX11_say_0 : decode cX11_say 0 = .ok (.iload_n 1, 1) := by decide +kernel
theorem dX11_say_1 : decode cX11_say 1 = .ok (.bipush 33, 2) := by decide +kernel
theorem dX11_say_3 : decode cX11_say 3 = .ok (.if_icmp .lt 9, 3) := by decide +kernel
theorem dX11_say_6 : decode cX11_say 6 = .ok (.iload_n 1, 1) := by decide +kernel
theorem dX11_say_7 : decode cX11_say 7 = .ok (.bipush 126, 2) := by decide +kernel
theorem dX11_say_9 : decode cX11_say 9 = .ok (.if_icmp .le 6, 3) := by decide +kernel
theorem dX11_say_12 : decode cX11_say 12 = .ok (.bipush (-2), 2) := by decide +kernel
theorem dX11_say_14 : decode cX11_say 14 = .ok (.ireturn, 1) := by decide +kernel
theorem dX11_say_15 : decode cX11_say 15 = .ok (.aload_n 0, 1) := by decide +kernel
theorem dX11_say_16 : decode cX11_say 16 = .ok (.getfield 26, 3) := by decide +kernel
theorem dX11_say_19 : decode cX11_say 19 = .ok (.bipush 20, 2) := by decide +kernel
theorem dX11_say_21 : decode cX11_say 21 = .ok (.if_icmp .lt 6, 3) := by decide +kernel
theorem dX11_say_24 : decode cX11_say 24 = .ok (.bipush (-4), 2) := by decide +kernel
theorem dX11_say_26 : decode cX11_say 26 = .ok (.ireturn, 1) := by decide +kernel
theorem dX11_say_27 : decode cX11_say 27 = .ok (.aload_n 0, 1) := by decide +kernel
theorem dX11_say_28 : decode cX11_say 28 = .ok (.getfield 22, 3) := by decide +kernel
theorem dX11_say_31 : decode cX11_say 31 = .ok (.aload_n 0, 1) := by decide +kernel
theorem dX11_say_32 : decode cX11_say 32 = .ok (.getfield 26, 3) := by decide +kernel
theorem dX11_say_35 : decode cX11_say 35 = .ok (.iload_n 1, 1) := by decide +kernel
theorem dX11_say_36 : decode cX11_say 36 = .ok (.iastore, 1) := by decide +kernel
theorem dX11_say_37 : decode cX11_say 37 = .ok (.aload_n 0, 1) := by decide +kernel
theorem dX11_say_38 : decode cX11_say 38 = .ok (.dup, 1) := by decide +kernel
theorem dX11_say_39 : decode cX11_say 39 = .ok (.getfield 26, 3) := by decide +kernel
theorem dX11_say_42 : decode cX11_say 42 = .ok (.iconst 1, 1) := by decide +kernel
theorem dX11_say_43 : decode cX11_say 43 = .ok (.iadd, 1) := by decide +kernel
theorem dX11_say_44 : decode cX11_say 44 = .ok (.putfield 26, 3) := by decide +kernel
theorem dX11_say_47 : decode cX11_say 47 = .ok (.aload_n 0, 1) := by decide +kernel
theorem dX11_say_48 : decode cX11_say 48 = .ok (.getfield 26, 3) := by decide +kernel
theorem dX11_say_51 : decode cX11_say 51 = .ok (.ireturn, 1) := by decide +kernel
set_option maxRecDepth 10000 in
theorem NX11_say_0 {d : Nat} {S : fW} {h : fH} {Q : Int32 → fH → Prop} {r0 : Nat} {x1 : Int32} {r0_now r0_imageZero r0_imageOne r0_pad r0_ratio r0_rounding r0_steps r0_sums r0_allOrders r0_spans r0_search : Nat}  
    (hs1 : (r0, shX11 r0_now r0_imageZero r0_imageOne r0_pad r0_ratio r0_rounding r0_steps r0_sums r0_allOrders r0_spans r0_search) ∈ S)
    (hs2 : (r0_pad, shI 20) ∈ S)
    (w : ((x1 < (33 : Int32) → Q (-2 : Int32) h) ∧ (¬ x1 < (33 : Int32) → ((x1 ≤ (126 : Int32) → (((h.1 r0 4) < (20 : Int32) → vp_in (h.1 r0 4) 20 ∧ ∀ g_1 : fH, g_1 = u_ai h r0_pad (upd (h.2.2.1 r0_pad) (h.1 r0 4).toNatClampNeg x1) → ∀ g_2 : fH, g_2 = u_fi g_1 r0 4 ((g_1.1 r0 4) + (1 : Int32)) → Q (g_2.1 r0 4) g_2) ∧ (¬ (h.1 r0 4) < (20 : Int32) → Q (-4 : Int32) h))) ∧ (¬ x1 ≤ (126 : Int32) → Q (-2 : Int32) h))))) :
    OkI d mX11_say S [.ref r0, .int x1] h Q := by
  refine Ok.of (by decide) (Nat.le_of_ble_eq_true rfl) ?_
  refine G_iload_n 1 rfl dX11_say_0 rfl ?_
  refine G_bipush (v := 33) dX11_say_1 (by decide) ?_
  refine G_icmp_lt (tgt := 12) dX11_say_3 (by decide) (fun c1 => ?_) (fun c1 => ?_)
  · have w := w.1 c1
    refine G_bipush (v := -2) dX11_say_12 (by decide) ?_
    exact G_iret rfl dX11_say_14 ⟨_, rfl, w⟩
  · have w := w.2 c1
    refine G_iload_n 1 rfl dX11_say_6 rfl ?_
    refine G_bipush (v := 126) dX11_say_7 (by decide) ?_
    refine G_icmp_le (tgt := 15) dX11_say_9 (by decide) (fun c2 => ?_) (fun c2 => ?_)
    · have w := w.1 c2
      refine G_aload_n 0 rfl dX11_say_15 rfl ?_
      refine G_geti (k := 4) hs1 (q := (RX11, TX11, 12)) rfl inX11 (by decide) (Or.inl rfl) hF_X11_26 dX11_say_16 ?_
      refine G_bipush (v := 20) dX11_say_19 (by decide) ?_
      refine G_icmp_lt (tgt := 27) dX11_say_21 (by decide) (fun c3 => ?_) (fun c3 => ?_)
      · have w := w.1 c3
        refine G_aload_n 0 rfl dX11_say_27 rfl ?_
        refine G_getr (j := r0_pad) (k := 3) hs1 (q := (RX11, TX11, 12)) rfl inX11 (by decide) rfl hF_X11_22 dX11_say_28 ?_
        refine G_aload_n 0 rfl dX11_say_31 rfl ?_
        refine G_geti (k := 4) hs1 (q := (RX11, TX11, 12)) rfl inX11 (by decide) (Or.inl rfl) hF_X11_26 dX11_say_32 ?_
        refine G_iload_n 1 rfl dX11_say_35 rfl ?_
        obtain ⟨sd1, w⟩ := w
        refine G_iast hs2 sd1 dX11_say_36 ?_
        refine G_nm (fun g_1 e_1 => ?_)
        have w := w g_1 e_1
        refine G_aload_n 0 rfl dX11_say_37 rfl ?_
        refine G_dup dX11_say_38 rfl ?_
        refine G_geti (k := 4) hs1 (q := (RX11, TX11, 12)) rfl inX11 (by decide) (Or.inl rfl) hF_X11_26 dX11_say_39 ?_
        refine G_iconst (v := 1) dX11_say_42 (by decide) ?_
        refine G_iadd dX11_say_43 ?_
        refine G_puti (k := 4) tyX11 hs1 (q := (RX11, TX11, 12)) rfl inX11 tyX11_ok nmX11 (by decide) rfl rfl rfl hF_X11_26 dX11_say_44 ?_
        refine G_nm (fun g_2 e_2 => ?_)
        have w := w g_2 e_2
        refine G_aload_n 0 rfl dX11_say_47 rfl ?_
        refine G_geti (k := 4) hs1 (q := (RX11, TX11, 12)) rfl inX11 (by decide) (Or.inl rfl) hF_X11_26 dX11_say_48 ?_
        exact G_iret rfl dX11_say_51 ⟨_, rfl, w⟩
      · have w := w.2 c3
        refine G_bipush (v := -4) dX11_say_24 (by decide) ?_
        exact G_iret rfl dX11_say_26 ⟨_, rfl, w⟩
    · have w := w.2 c2
      refine G_bipush (v := -2) dX11_say_12 (by decide) ?_
      exact G_iret rfl dX11_say_14 ⟨_, rfl, w⟩
-- LostDigits.wipe
theorem dX11_wipe_0 : decode cX11_wipe 0 = .ok (.aload_n 0, 1) := by decide +kernel
theorem dX11_wipe_1 : decode cX11_wipe 1 = .ok (.getfield 26, 3) := by decide +kernel
theorem dX11_wipe_4 : decode cX11_wipe 4 = .ok (.istore_n 1, 1) := by decide +kernel
theorem dX11_wipe_5 : decode cX11_wipe 5 = .ok (.aload_n 0, 1) := by decide +kernel
theorem dX11_wipe_6 : decode cX11_wipe 6 = .ok (.iconst 0, 1) := by decide +kernel
theorem dX11_wipe_7 : decode cX11_wipe 7 = .ok (.putfield 26, 3) := by decide +kernel
theorem dX11_wipe_10 : decode cX11_wipe 10 = .ok (.iload_n 1, 1) := by decide +kernel
theorem dX11_wipe_11 : decode cX11_wipe 11 = .ok (.ireturn, 1) := by decide +kernel
set_option maxRecDepth 10000 in
theorem NX11_wipe_0 {d : Nat} {S : fW} {h : fH} {Q : Int32 → fH → Prop} {r0 : Nat} {r0_now r0_imageZero r0_imageOne r0_pad r0_ratio r0_rounding r0_steps r0_sums r0_allOrders r0_spans r0_search : Nat}  
    (hs1 : (r0, shX11 r0_now r0_imageZero r0_imageOne r0_pad r0_ratio r0_rounding r0_steps r0_sums r0_allOrders r0_spans r0_search) ∈ S)
    (w : ∀ g_1 : fH, g_1 = u_fi h r0 4 (0 : Int32) → Q (h.1 r0 4) g_1) :
    OkI d mX11_wipe S [.ref r0] h Q := by
  refine Ok.of (by decide) (Nat.le_of_ble_eq_true rfl) ?_
  refine G_aload_n 0 rfl dX11_wipe_0 rfl ?_
  refine G_geti (k := 4) hs1 (q := (RX11, TX11, 12)) rfl inX11 (by decide) (Or.inl rfl) hF_X11_26 dX11_wipe_1 ?_
  refine G_istore_n dX11_wipe_4 rfl (by decide) (lv' := [(1, .int (h.1 r0 4)), (0, .ref r0)]) rfl ?_
  refine G_aload_n 1 rfl dX11_wipe_5 rfl ?_
  refine G_iconst (v := 0) dX11_wipe_6 (by decide) ?_
  refine G_puti (k := 4) tyX11 hs1 (q := (RX11, TX11, 12)) rfl inX11 tyX11_ok nmX11 (by decide) rfl rfl rfl hF_X11_26 dX11_wipe_7 ?_
  refine G_nm (fun g_1 e_1 => ?_)
  have w := w g_1 e_1
  refine G_iload_n 0 rfl dX11_wipe_10 rfl ?_
  exact G_iret rfl dX11_wipe_11 ⟨_, rfl, w⟩
-- LostDigits.fault
theorem dX11_fault_0 : decode cX11_fault 0 = .ok (.iconst 1, 1) := by decide +kernel
theorem dX11_fault_1 : decode cX11_fault 1 = .ok (.istore_n 1, 1) := by decide +kernel
theorem dX11_fault_2 : decode cX11_fault 2 = .ok (.iconst 0, 1) := by decide +kernel
theorem dX11_fault_3 : decode cX11_fault 3 = .ok (.istore_n 2, 1) := by decide +kernel
theorem dX11_fault_4 : decode cX11_fault 4 = .ok (.iload_n 2, 1) := by decide +kernel
theorem dX11_fault_5 : decode cX11_fault 5 = .ok (.aload_n 0, 1) := by decide +kernel
theorem dX11_fault_6 : decode cX11_fault 6 = .ok (.getfield 26, 3) := by decide +kernel
theorem dX11_fault_9 : decode cX11_fault 9 = .ok (.if_icmp .ge 77, 3) := by decide +kernel
theorem dX11_fault_12 : decode cX11_fault 12 = .ok (.iload_n 2, 1) := by decide +kernel
theorem dX11_fault_13 : decode cX11_fault 13 = .ok (.bipush 20, 2) := by decide +kernel
theorem dX11_fault_15 : decode cX11_fault 15 = .ok (.if_icmp .ge 71, 3) := by decide +kernel
theorem dX11_fault_18 : decode cX11_fault 18 = .ok (.iload_n 2, 1) := by decide +kernel
theorem dX11_fault_19 : decode cX11_fault 19 = .ok (.bipush 13, 2) := by decide +kernel
theorem dX11_fault_21 : decode cX11_fault 21 = .ok (.if_icmp .ge 7, 3) := by decide +kernel
theorem dX11_fault_24 : decode cX11_fault 24 = .ok (.iload_n 1, 1) := by decide +kernel
theorem dX11_fault_25 : decode cX11_fault 25 = .ok (.ifCond .ne 5, 3) := by decide +kernel
theorem dX11_fault_28 : decode cX11_fault 28 = .ok (.iload_n 2, 1) := by decide +kernel
theorem dX11_fault_29 : decode cX11_fault 29 = .ok (.ireturn, 1) := by decide +kernel
theorem dX11_fault_30 : decode cX11_fault 30 = .ok (.aload_n 0, 1) := by decide +kernel
theorem dX11_fault_31 : decode cX11_fault 31 = .ok (.getfield 22, 3) := by decide +kernel
theorem dX11_fault_34 : decode cX11_fault 34 = .ok (.iload_n 2, 1) := by decide +kernel
theorem dX11_fault_35 : decode cX11_fault 35 = .ok (.iaload, 1) := by decide +kernel
theorem dX11_fault_36 : decode cX11_fault 36 = .ok (.invokestatic 104, 3) := by decide +kernel
theorem dX11_fault_39 : decode cX11_fault 39 = .ok (.ifCond .eq 9, 3) := by decide +kernel
theorem dX11_fault_42 : decode cX11_fault 42 = .ok (.iinc 1 1, 3) := by decide +kernel
theorem dX11_fault_45 : decode cX11_fault 45 = .ok (.goto 35, 3) := by decide +kernel
theorem dX11_fault_48 : decode cX11_fault 48 = .ok (.aload_n 0, 1) := by decide +kernel
theorem dX11_fault_49 : decode cX11_fault 49 = .ok (.getfield 22, 3) := by decide +kernel
theorem dX11_fault_52 : decode cX11_fault 52 = .ok (.iload_n 2, 1) := by decide +kernel
theorem dX11_fault_53 : decode cX11_fault 53 = .ok (.iaload, 1) := by decide +kernel
theorem dX11_fault_54 : decode cX11_fault 54 = .ok (.invokestatic 108, 3) := by decide +kernel
theorem dX11_fault_57 : decode cX11_fault 57 = .ok (.ifCond .ne 15, 3) := by decide +kernel
theorem dX11_fault_60 : decode cX11_fault 60 = .ok (.aload_n 0, 1) := by decide +kernel
theorem dX11_fault_61 : decode cX11_fault 61 = .ok (.getfield 22, 3) := by decide +kernel
theorem dX11_fault_64 : decode cX11_fault 64 = .ok (.iload_n 2, 1) := by decide +kernel
theorem dX11_fault_65 : decode cX11_fault 65 = .ok (.iaload, 1) := by decide +kernel
theorem dX11_fault_66 : decode cX11_fault 66 = .ok (.invokestatic 111, 3) := by decide +kernel
theorem dX11_fault_69 : decode cX11_fault 69 = .ok (.ifCond .eq 9, 3) := by decide +kernel
theorem dX11_fault_72 : decode cX11_fault 72 = .ok (.iinc 1 (-1), 3) := by decide +kernel
theorem dX11_fault_75 : decode cX11_fault 75 = .ok (.goto 5, 3) := by decide +kernel
theorem dX11_fault_78 : decode cX11_fault 78 = .ok (.iload_n 2, 1) := by decide +kernel
theorem dX11_fault_79 : decode cX11_fault 79 = .ok (.ireturn, 1) := by decide +kernel
theorem dX11_fault_80 : decode cX11_fault 80 = .ok (.iinc 2 1, 3) := by decide +kernel
theorem dX11_fault_83 : decode cX11_fault 83 = .ok (.goto (-79), 3) := by decide +kernel
theorem dX11_fault_86 : decode cX11_fault 86 = .ok (.iload_n 1, 1) := by decide +kernel
theorem dX11_fault_87 : decode cX11_fault 87 = .ok (.ifCond .ne 8, 3) := by decide +kernel
theorem dX11_fault_90 : decode cX11_fault 90 = .ok (.bipush (-6), 2) := by decide +kernel
theorem dX11_fault_92 : decode cX11_fault 92 = .ok (.goto 7, 3) := by decide +kernel
theorem dX11_fault_95 : decode cX11_fault 95 = .ok (.aload_n 0, 1) := by decide +kernel
theorem dX11_fault_96 : decode cX11_fault 96 = .ok (.getfield 26, 3) := by decide +kernel
theorem dX11_fault_99 : decode cX11_fault 99 = .ok (.ireturn, 1) := by decide +kernel
set_option maxRecDepth 10000 in
theorem NX11_fault_0 {d : Nat} {S : fW} {h : fH} {Q : Int32 → fH → Prop} {r0 : Nat}  
    (w : G mX11_fault (d + 1) S (f_PI Q) 4 [(0, .ref r0), (1, .int (1 : Int32)), (2, .int (0 : Int32))] [] h) :
    OkI (d + 1) mX11_fault S [.ref r0] h Q := by
  refine Ok.of (by decide) (Nat.le_of_ble_eq_true rfl) ?_
  refine G_iconst (v := 1) dX11_fault_0 (by decide) ?_
  refine G_istore_n dX11_fault_1 rfl (by decide) (lv' := [(1, .int (1 : Int32)), (0, .ref r0)]) rfl ?_
  refine G_iconst (v := 0) dX11_fault_2 (by decide) ?_
  refine G_istore_n dX11_fault_3 rfl (by decide) (lv' := [(2, .int (0 : Int32)), (1, .int (1 : Int32)), (0, .ref r0)]) rfl ?_
  exact G_sub [2, 1, 0] rfl w

set_option maxRecDepth 10000 in
theorem NX11_fault_4 {d : Nat} {S : fW} {h : fH} {Q : Int32 → fH → Prop} {r0 : Nat} {x1 : Int32} {x2 : Int32} {r0_now r0_imageZero r0_imageOne r0_pad r0_ratio r0_rounding r0_steps r0_sums r0_allOrders r0_spans r0_search : Nat}  
    (hs1 : (r0, shX11 r0_now r0_imageZero r0_imageOne r0_pad r0_ratio r0_rounding r0_steps r0_sums r0_allOrders r0_spans r0_search) ∈ S)
    (hs2 : (r0_pad, shI 20) ∈ S)
    (w : (((h.1 r0 4) ≤ x2 → ((¬ x1 = 0 → Q (h.1 r0 4) h) ∧ (x1 = 0 → Q (-6 : Int32) h))) ∧ (¬ (h.1 r0 4) ≤ x2 → (((20 : Int32) ≤ x2 → ((¬ x1 = 0 → Q (h.1 r0 4) h) ∧ (x1 = 0 → Q (-6 : Int32) h))) ∧ (¬ (20 : Int32) ≤ x2 → (((13 : Int32) ≤ x2 → Q x2 h) ∧ (¬ (13 : Int32) ≤ x2 → ((¬ x1 = 0 → vp_in x2 20 ∧ ∃ Q1 : Int32 → fH → Prop, OkI d mX11_isOperator S [.int (h.2.2.1 r0_pad x2.toNatClampNeg)] h Q1 ∧ ∀ (v_1 : Int32) (h_1 : fH), Q1 v_1 h_1 → ((v_1 = 0 → ∃ Q2 : Int32 → fH → Prop, OkI d mX11_isLetter S [.int (h_1.2.2.1 r0_pad x2.toNatClampNeg)] h_1 Q2 ∧ ∀ (v_2 : Int32) (h_2 : fH), Q2 v_2 h_2 → ((¬ v_2 = 0 → G mX11_fault (d + 1) S (f_PI Q) 4 [(0, .ref r0), (1, .int (x1 + (-1))), (2, .int (x2 + 1))] [] h_2) ∧ (v_2 = 0 → ∃ Q3 : Int32 → fH → Prop, OkI d mX11_isDigit S [.int (h_2.2.2.1 r0_pad x2.toNatClampNeg)] h_2 Q3 ∧ ∀ (v_3 : Int32) (h_3 : fH), Q3 v_3 h_3 → ((v_3 = 0 → Q x2 h_3) ∧ (¬ v_3 = 0 → G mX11_fault (d + 1) S (f_PI Q) 4 [(0, .ref r0), (1, .int (x1 + (-1))), (2, .int (x2 + 1))] [] h_3))))) ∧ (¬ v_1 = 0 → G mX11_fault (d + 1) S (f_PI Q) 4 [(0, .ref r0), (1, .int (x1 + 1)), (2, .int (x2 + 1))] [] h_1))) ∧ (x1 = 0 → Q x2 h))))))))) :
    G mX11_fault (d + 1) S (f_PI Q) 4 [(0, .ref r0), (1, .int x1), (2, .int x2)] [] h := by
  refine G_iload_n 2 rfl dX11_fault_4 rfl ?_
  refine G_aload_n 0 rfl dX11_fault_5 rfl ?_
  refine G_geti (k := 4) hs1 (q := (RX11, TX11, 12)) rfl inX11 (by decide) (Or.inl rfl) hF_X11_26 dX11_fault_6 ?_
  refine G_icmp_ge (tgt := 86) dX11_fault_9 (by decide) (fun c1 => ?_) (fun c1 => ?_)
  · have w := w.1 c1
    refine G_iload_n 1 rfl dX11_fault_86 rfl ?_
    refine G_if_ne (tgt := 95) dX11_fault_87 (by decide) (fun c2 => ?_) (fun c2 => ?_)
    · have w := w.1 c2
      refine G_aload_n 0 rfl dX11_fault_95 rfl ?_
      refine G_geti (k := 4) hs1 (q := (RX11, TX11, 12)) rfl inX11 (by decide) (Or.inl rfl) hF_X11_26 dX11_fault_96 ?_
      exact G_iret rfl dX11_fault_99 ⟨_, rfl, w⟩
    · have w := w.2 c2
      refine G_bipush (v := -6) dX11_fault_90 (by decide) ?_
      refine G_goto (tgt := 99) dX11_fault_92 (by decide) ?_
      exact G_iret rfl dX11_fault_99 ⟨_, rfl, w⟩
  · have w := w.2 c1
    refine G_iload_n 2 rfl dX11_fault_12 rfl ?_
    refine G_bipush (v := 20) dX11_fault_13 (by decide) ?_
    refine G_icmp_ge (tgt := 86) dX11_fault_15 (by decide) (fun c2 => ?_) (fun c2 => ?_)
    · have w := w.1 c2
      refine G_iload_n 1 rfl dX11_fault_86 rfl ?_
      refine G_if_ne (tgt := 95) dX11_fault_87 (by decide) (fun c3 => ?_) (fun c3 => ?_)
      · have w := w.1 c3
        refine G_aload_n 0 rfl dX11_fault_95 rfl ?_
        refine G_geti (k := 4) hs1 (q := (RX11, TX11, 12)) rfl inX11 (by decide) (Or.inl rfl) hF_X11_26 dX11_fault_96 ?_
        exact G_iret rfl dX11_fault_99 ⟨_, rfl, w⟩
      · have w := w.2 c3
        refine G_bipush (v := -6) dX11_fault_90 (by decide) ?_
        refine G_goto (tgt := 99) dX11_fault_92 (by decide) ?_
        exact G_iret rfl dX11_fault_99 ⟨_, rfl, w⟩
    · have w := w.2 c2
      refine G_iload_n 2 rfl dX11_fault_18 rfl ?_
      refine G_bipush (v := 13) dX11_fault_19 (by decide) ?_
      refine G_icmp_ge (tgt := 28) dX11_fault_21 (by decide) (fun c3 => ?_) (fun c3 => ?_)
      · have w := w.1 c3
        refine G_iload_n 2 rfl dX11_fault_28 rfl ?_
        exact G_iret rfl dX11_fault_29 ⟨_, rfl, w⟩
      · have w := w.2 c3
        refine G_iload_n 1 rfl dX11_fault_24 rfl ?_
        refine G_if_ne (tgt := 30) dX11_fault_25 (by decide) (fun c4 => ?_) (fun c4 => ?_)
        · have w := w.1 c4
          refine G_aload_n 0 rfl dX11_fault_30 rfl ?_
          refine G_getr (j := r0_pad) (k := 3) hs1 (q := (RX11, TX11, 12)) rfl inX11 (by decide) rfl hF_X11_22 dX11_fault_31 ?_
          refine G_iload_n 2 rfl dX11_fault_34 rfl ?_
          obtain ⟨sd1, w⟩ := w
          refine G_iald hs2 sd1 dX11_fault_35 ?_
          obtain ⟨Q1, ok1, w⟩ := w
          refine G_callS (Z := mX11_isOperator) (As := [.int (h.2.2.1 r0_pad x2.toNatClampNeg)]) (st := []) hL_X11_104 hT_X11_isOperator hC_X11_isOperator hN_X11 nX11_isOperator (by decide) rfl (Nat.le_of_ble_eq_true rfl) dX11_fault_36 ok1 (fun r_ h_1 z_ => ?_)
          obtain ⟨v_1, rfl, q_1⟩ := z_
          have w := w v_1 h_1 q_1
          refine G_if_eq (tgt := 48) dX11_fault_39 (by decide) (fun c5 => ?_) (fun c5 => ?_)
          · have w := w.1 c5
            refine G_aload_n 0 rfl dX11_fault_48 rfl ?_
            refine G_getr (j := r0_pad) (k := 3) hs1 (q := (RX11, TX11, 12)) rfl inX11 (by decide) rfl hF_X11_22 dX11_fault_49 ?_
            refine G_iload_n 2 rfl dX11_fault_52 rfl ?_
            refine G_iald hs2 sd1 dX11_fault_53 ?_
            obtain ⟨Q2, ok2, w⟩ := w
            refine G_callS (Z := mX11_isLetter) (As := [.int (h_1.2.2.1 r0_pad x2.toNatClampNeg)]) (st := []) hL_X11_108 hT_X11_isLetter hC_X11_isLetter hN_X11 nX11_isLetter (by decide) rfl (Nat.le_of_ble_eq_true rfl) dX11_fault_54 ok2 (fun r_ h_2 z_ => ?_)
            obtain ⟨v_2, rfl, q_2⟩ := z_
            have w := w v_2 h_2 q_2
            refine G_if_ne (tgt := 72) dX11_fault_57 (by decide) (fun c6 => ?_) (fun c6 => ?_)
            · have w := w.1 c6
              refine G_iinc (v := -1) 1 rfl dX11_fault_72 (by decide) (by decide) (lv' := [(1, .int (x1 + (-1))), (0, .ref r0), (2, .int x2)]) rfl ?_
              refine G_goto (tgt := 80) dX11_fault_75 (by decide) ?_
              refine G_iinc (v := 1) 2 rfl dX11_fault_80 (by decide) (by decide) (lv' := [(2, .int (x2 + 1)), (1, .int (x1 + (-1))), (0, .ref r0)]) rfl ?_
              refine G_goto (tgt := 4) dX11_fault_83 (by decide) ?_
              exact G_sub [2, 1, 0] rfl w
            · have w := w.2 c6
              refine G_aload_n 0 rfl dX11_fault_60 rfl ?_
              refine G_getr (j := r0_pad) (k := 3) hs1 (q := (RX11, TX11, 12)) rfl inX11 (by decide) rfl hF_X11_22 dX11_fault_61 ?_
              refine G_iload_n 2 rfl dX11_fault_64 rfl ?_
              refine G_iald hs2 sd1 dX11_fault_65 ?_
              obtain ⟨Q3, ok3, w⟩ := w
              refine G_callS (Z := mX11_isDigit) (As := [.int (h_2.2.2.1 r0_pad x2.toNatClampNeg)]) (st := []) hL_X11_111 hT_X11_isDigit hC_X11_isDigit hN_X11 nX11_isDigit (by decide) rfl (Nat.le_of_ble_eq_true rfl) dX11_fault_66 ok3 (fun r_ h_3 z_ => ?_)
              obtain ⟨v_3, rfl, q_3⟩ := z_
              have w := w v_3 h_3 q_3
              refine G_if_eq (tgt := 78) dX11_fault_69 (by decide) (fun c7 => ?_) (fun c7 => ?_)
              · have w := w.1 c7
                refine G_iload_n 2 rfl dX11_fault_78 rfl ?_
                exact G_iret rfl dX11_fault_79 ⟨_, rfl, w⟩
              · have w := w.2 c7
                refine G_iinc (v := -1) 1 rfl dX11_fault_72 (by decide) (by decide) (lv' := [(1, .int (x1 + (-1))), (0, .ref r0), (2, .int x2)]) rfl ?_
                refine G_goto (tgt := 80) dX11_fault_75 (by decide) ?_
                refine G_iinc (v := 1) 2 rfl dX11_fault_80 (by decide) (by decide) (lv' := [(2, .int (x2 + 1)), (1, .int (x1 + (-1))), (0, .ref r0)]) rfl ?_
                refine G_goto (tgt := 4) dX11_fault_83 (by decide) ?_
                exact G_sub [2, 1, 0] rfl w
          · have w := w.2 c5
            refine G_iinc (v := 1) 1 rfl dX11_fault_42 (by decide) (by decide) (lv' := [(1, .int (x1 + 1)), (0, .ref r0), (2, .int x2)]) rfl ?_
            refine G_goto (tgt := 80) dX11_fault_45 (by decide) ?_
            refine G_iinc (v := 1) 2 rfl dX11_fault_80 (by decide) (by decide) (lv' := [(2, .int (x2 + 1)), (1, .int (x1 + 1)), (0, .ref r0)]) rfl ?_
            refine G_goto (tgt := 4) dX11_fault_83 (by decide) ?_
            exact G_sub [2, 1, 0] rfl w
        · have w := w.2 c4
          refine G_iload_n 2 rfl dX11_fault_28 rfl ?_
          exact G_iret rfl dX11_fault_29 ⟨_, rfl, w⟩
-- LostDigits.text
theorem dX11_text_0 : decode cX11_text 0 = .ok (.aload_n 0, 1) := by decide +kernel
theorem dX11_text_1 : decode cX11_text 1 = .ok (.invokevirtual 114, 3) := by decide +kernel
theorem dX11_text_4 : decode cX11_text 4 = .ok (.bipush (-6), 2) := by decide +kernel
theorem dX11_text_6 : decode cX11_text 6 = .ok (.if_icmp .eq 6, 3) := by decide +kernel
theorem dX11_text_9 : decode cX11_text 9 = .ok (.bipush (-5), 2) := by decide +kernel
theorem dX11_text_11 : decode cX11_text 11 = .ok (.ireturn, 1) := by decide +kernel
theorem dX11_text_12 : decode cX11_text 12 = .ok (.aload_n 0, 1) := by decide +kernel
theorem dX11_text_13 : decode cX11_text 13 = .ok (.getfield 12, 3) := by decide +kernel
theorem dX11_text_16 : decode cX11_text 16 = .ok (.getfield 118, 3) := by decide +kernel
theorem dX11_text_19 : decode cX11_text 19 = .ok (.aload_n 0, 1) := by decide +kernel
theorem dX11_text_20 : decode cX11_text 20 = .ok (.getfield 22, 3) := by decide +kernel
theorem dX11_text_23 : decode cX11_text 23 = .ok (.aload_n 0, 1) := by decide +kernel
theorem dX11_text_24 : decode cX11_text 24 = .ok (.getfield 26, 3) := by decide +kernel
theorem dX11_text_27 : decode cX11_text 27 = .ok (.invokevirtual 122, 3) := by decide +kernel
theorem dX11_text_30 : decode cX11_text 30 = .ok (.aload_n 0, 1) := by decide +kernel
theorem dX11_text_31 : decode cX11_text 31 = .ok (.iconst 0, 1) := by decide +kernel
theorem dX11_text_32 : decode cX11_text 32 = .ok (.putfield 26, 3) := by decide +kernel
theorem dX11_text_35 : decode cX11_text 35 = .ok (.aload_n 0, 1) := by decide +kernel
theorem dX11_text_36 : decode cX11_text 36 = .ok (.invokevirtual 82, 3) := by decide +kernel
theorem dX11_text_39 : decode cX11_text 39 = .ok (.aload_n 0, 1) := by decide +kernel
theorem dX11_text_40 : decode cX11_text 40 = .ok (.getfield 12, 3) := by decide +kernel
theorem dX11_text_43 : decode cX11_text 43 = .ok (.getfield 118, 3) := by decide +kernel
theorem dX11_text_46 : decode cX11_text 46 = .ok (.getfield 128, 3) := by decide +kernel
theorem dX11_text_49 : decode cX11_text 49 = .ok (.ireturn, 1) := by decide +kernel
set_option maxRecDepth 10000 in
theorem NX11_text_0 {d : Nat} {S : fW} {h : fH} {Q : Int32 → fH → Prop} {r0 : Nat} {r0_now r0_imageZero r0_imageOne r0_pad r0_ratio r0_rounding r0_steps r0_sums r0_allOrders r0_spans r0_search r0_now_text r0_now_numbers r0_now_spans r0_now_terms r0_now_text_signs r0_now_text_ends r0_now_text_letters : Nat}  
    (hs1 : (r0, shX11 r0_now r0_imageZero r0_imageOne r0_pad r0_ratio r0_rounding r0_steps r0_sums r0_allOrders r0_spans r0_search) ∈ S)
    (hs2 : (r0_now, shX2 r0_now_text r0_now_numbers r0_now_spans r0_now_terms) ∈ S)
    (hs3 : (r0_now_text, shX10 r0_now_text_signs r0_now_text_ends r0_now_text_letters) ∈ S)
    (w : ∃ Q1 : Int32 → fH → Prop, OkI d mX11_fault S [.ref r0] h Q1 ∧ ∀ (v_1 : Int32) (h_1 : fH), Q1 v_1 h_1 → ((v_1 = (-6 : Int32) → ∃ Q2 : fH → Prop, OkV d mX10_read S [.ref r0_now_text, .ref r0_pad, .int (h_1.1 r0 4)] h_1 Q2 ∧ ∀ (h_2 : fH), Q2 h_2 → ∀ g_1 : fH, g_1 = u_fi h_2 r0 4 (0 : Int32) → ∃ Q3 : fH → Prop, OkV d mX11_forgetFindings S [.ref r0] g_1 Q3 ∧ ∀ (h_3 : fH), Q3 h_3 → Q (h_3.1 r0_now_text 3) h_3) ∧ (¬ v_1 = (-6 : Int32) → Q (-5 : Int32) h_1))) :
    OkI (d + 1) mX11_text S [.ref r0] h Q := by
  refine Ok.of (by decide) (Nat.le_of_ble_eq_true rfl) ?_
  refine G_aload_n 0 rfl dX11_text_0 rfl ?_
  obtain ⟨Q1, ok1, w⟩ := w
  refine G_callV (Z := mX11_fault) (As := []) (st := []) hL_X11_114 hI_X11_fault hS_X11_fault hC_X11_fault hN_X11 nX11_fault (by decide) hs1 rfl rfl rfl (Nat.le_of_ble_eq_true rfl) dX11_text_1 ok1 (fun r_ h_1 z_ => ?_)
  obtain ⟨v_1, rfl, q_1⟩ := z_
  have w := w v_1 h_1 q_1
  refine G_bipush (v := -6) dX11_text_4 (by decide) ?_
  refine G_icmp_eq (tgt := 12) dX11_text_6 (by decide) (fun c1 => ?_) (fun c1 => ?_)
  · have w := w.1 c1
    refine G_aload_n 0 rfl dX11_text_12 rfl ?_
    refine G_getr (j := r0_now) (k := 0) hs1 (q := (RX11, TX11, 12)) rfl inX11 (by decide) rfl hF_X11_12 dX11_text_13 ?_
    refine G_getr (j := r0_now_text) (k := 0) hs2 (q := (RX2, TX2, 8)) rfl inX2 (by decide) rfl hF_X11_118 dX11_text_16 ?_
    refine G_aload_n 0 rfl dX11_text_19 rfl ?_
    refine G_getr (j := r0_pad) (k := 3) hs1 (q := (RX11, TX11, 12)) rfl inX11 (by decide) rfl hF_X11_22 dX11_text_20 ?_
    refine G_aload_n 0 rfl dX11_text_23 rfl ?_
    refine G_geti (k := 4) hs1 (q := (RX11, TX11, 12)) rfl inX11 (by decide) (Or.inl rfl) hF_X11_26 dX11_text_24 ?_
    obtain ⟨Q2, ok2, w⟩ := w
    refine G_callV (Z := mX10_read) (As := [.ref r0_pad, .int (h_1.1 r0 4)]) (st := []) hL_X11_122 hI_X10_read hS_X10_read hC_X10_read hN_X10 nX10_read (by decide) hs3 rfl rfl rfl (Nat.le_of_ble_eq_true rfl) dX11_text_27 ok2 (fun r_ h_2 z_ => ?_)
    obtain ⟨rfl, q_2⟩ := z_
    have w := w h_2 q_2
    refine G_aload_n 0 rfl dX11_text_30 rfl ?_
    refine G_iconst (v := 0) dX11_text_31 (by decide) ?_
    refine G_puti (k := 4) tyX11 hs1 (q := (RX11, TX11, 12)) rfl inX11 tyX11_ok nmX11 (by decide) rfl rfl rfl hF_X11_26 dX11_text_32 ?_
    refine G_nm (fun g_1 e_1 => ?_)
    have w := w g_1 e_1
    refine G_aload_n 0 rfl dX11_text_35 rfl ?_
    obtain ⟨Q3, ok3, w⟩ := w
    refine G_callV (Z := mX11_forgetFindings) (As := []) (st := []) hL_X11_82 hI_X11_forgetFindings hS_X11_forgetFindings hC_X11_forgetFindings hN_X11 nX11_forgetFindings (by decide) hs1 rfl rfl rfl (Nat.le_of_ble_eq_true rfl) dX11_text_36 ok3 (fun r_ h_3 z_ => ?_)
    obtain ⟨rfl, q_3⟩ := z_
    have w := w h_3 q_3
    refine G_aload_n 0 rfl dX11_text_39 rfl ?_
    refine G_getr (j := r0_now) (k := 0) hs1 (q := (RX11, TX11, 12)) rfl inX11 (by decide) rfl hF_X11_12 dX11_text_40 ?_
    refine G_getr (j := r0_now_text) (k := 0) hs2 (q := (RX2, TX2, 8)) rfl inX2 (by decide) rfl hF_X11_118 dX11_text_43 ?_
    refine G_geti (k := 3) hs3 (q := (RX10, TX10, 4)) rfl inX10 (by decide) (Or.inl rfl) hF_X11_128 dX11_text_46 ?_
    exact G_iret rfl dX11_text_49 ⟨_, rfl, w⟩
  · have w := w.2 c1
    refine G_bipush (v := -5) dX11_text_9 (by decide) ?_
    exact G_iret rfl dX11_text_11 ⟨_, rfl, w⟩
-- LostDigits.sign
theorem dX11_sign_0 : decode cX11_sign 0 = .ok (.aload_n 0, 1) := by decide +kernel
theorem dX11_sign_1 : decode cX11_sign 1 = .ok (.getfield 12, 3) := by decide +kernel
theorem dX11_sign_4 : decode cX11_sign 4 = .ok (.getfield 118, 3) := by decide +kernel
theorem dX11_sign_7 : decode cX11_sign 7 = .ok (.iload_n 1, 1) := by decide +kernel
theorem dX11_sign_8 : decode cX11_sign 8 = .ok (.invokevirtual 131, 3) := by decide +kernel
theorem dX11_sign_11 : decode cX11_sign 11 = .ok (.ifCond .eq 17, 3) := by decide +kernel
theorem dX11_sign_14 : decode cX11_sign 14 = .ok (.aload_n 0, 1) := by decide +kernel
theorem dX11_sign_15 : decode cX11_sign 15 = .ok (.getfield 12, 3) := by decide +kernel
theorem dX11_sign_18 : decode cX11_sign 18 = .ok (.getfield 118, 3) := by decide +kernel
theorem dX11_sign_21 : decode cX11_sign 21 = .ok (.iload_n 1, 1) := by decide +kernel
theorem dX11_sign_22 : decode cX11_sign 22 = .ok (.invokevirtual 134, 3) := by decide +kernel
theorem dX11_sign_25 : decode cX11_sign 25 = .ok (.goto 4, 3) := by decide +kernel
theorem dX11_sign_28 : decode cX11_sign 28 = .ok (.iconst (-1), 1) := by decide +kernel
theorem dX11_sign_29 : decode cX11_sign 29 = .ok (.ireturn, 1) := by decide +kernel
set_option maxRecDepth 10000 in
theorem NX11_sign_0 {d : Nat} {S : fW} {h : fH} {Q : Int32 → fH → Prop} {r0 : Nat} {x1 : Int32} {r0_now r0_imageZero r0_imageOne r0_pad r0_ratio r0_rounding r0_steps r0_sums r0_allOrders r0_spans r0_search r0_now_text r0_now_numbers r0_now_spans r0_now_terms r0_now_text_signs r0_now_text_ends r0_now_text_letters : Nat}  
    (hs1 : (r0, shX11 r0_now r0_imageZero r0_imageOne r0_pad r0_ratio r0_rounding r0_steps r0_sums r0_allOrders r0_spans r0_search) ∈ S)
    (hs2 : (r0_now, shX2 r0_now_text r0_now_numbers r0_now_spans r0_now_terms) ∈ S)
    (hs3 : (r0_now_text, shX10 r0_now_text_signs r0_now_text_ends r0_now_text_letters) ∈ S)
    (w : ∃ Q1 : Int32 → fH → Prop, OkI d mX10_has S [.ref r0_now_text, .int x1] h Q1 ∧ ∀ (v_1 : Int32) (h_1 : fH), Q1 v_1 h_1 → ((v_1 = 0 → Q (-1 : Int32) h_1) ∧ (¬ v_1 = 0 → ∃ Q2 : Int32 → fH → Prop, OkI d mX10_signAt S [.ref r0_now_text, .int x1] h_1 Q2 ∧ ∀ (v_2 : Int32) (h_2 : fH), Q2 v_2 h_2 → Q v_2 h_2))) :
    OkI (d + 1) mX11_sign S [.ref r0, .int x1] h Q := by
  refine Ok.of (by decide) (Nat.le_of_ble_eq_true rfl) ?_
  refine G_aload_n 0 rfl dX11_sign_0 rfl ?_
  refine G_getr (j := r0_now) (k := 0) hs1 (q := (RX11, TX11, 12)) rfl inX11 (by decide) rfl hF_X11_12 dX11_sign_1 ?_
  refine G_getr (j := r0_now_text) (k := 0) hs2 (q := (RX2, TX2, 8)) rfl inX2 (by decide) rfl hF_X11_118 dX11_sign_4 ?_
  refine G_iload_n 1 rfl dX11_sign_7 rfl ?_
  obtain ⟨Q1, ok1, w⟩ := w
  refine G_callV (Z := mX10_has) (As := [.int x1]) (st := []) hL_X11_131 hI_X10_has hS_X10_has hC_X10_has hN_X10 nX10_has (by decide) hs3 rfl rfl rfl (Nat.le_of_ble_eq_true rfl) dX11_sign_8 ok1 (fun r_ h_1 z_ => ?_)
  obtain ⟨v_1, rfl, q_1⟩ := z_
  have w := w v_1 h_1 q_1
  refine G_if_eq (tgt := 28) dX11_sign_11 (by decide) (fun c1 => ?_) (fun c1 => ?_)
  · have w := w.1 c1
    refine G_iconst (v := -1) dX11_sign_28 (by decide) ?_
    exact G_iret rfl dX11_sign_29 ⟨_, rfl, w⟩
  · have w := w.2 c1
    refine G_aload_n 0 rfl dX11_sign_14 rfl ?_
    refine G_getr (j := r0_now) (k := 0) hs1 (q := (RX11, TX11, 12)) rfl inX11 (by decide) rfl hF_X11_12 dX11_sign_15 ?_
    refine G_getr (j := r0_now_text) (k := 0) hs2 (q := (RX2, TX2, 8)) rfl inX2 (by decide) rfl hF_X11_118 dX11_sign_18 ?_
    refine G_iload_n 1 rfl dX11_sign_21 rfl ?_
    obtain ⟨Q2, ok2, w⟩ := w
    refine G_callV (Z := mX10_signAt) (As := [.int x1]) (st := []) hL_X11_134 hI_X10_signAt hS_X10_signAt hC_X10_signAt hN_X10 nX10_signAt (by decide) hs3 rfl rfl rfl (Nat.le_of_ble_eq_true rfl) dX11_sign_22 ok2 (fun r_ h_2 z_ => ?_)
    obtain ⟨v_2, rfl, q_2⟩ := z_
    have w := w v_2 h_2 q_2
    refine G_goto (tgt := 29) dX11_sign_25 (by decide) ?_
    exact G_iret rfl dX11_sign_29 ⟨_, rfl, w⟩
-- LostDigits.put
theorem dX11_put_0 : decode cX11_put 0 = .ok (.iload_n 1, 1) := by decide +kernel
theorem dX11_put_1 : decode cX11_put 1 = .ok (.ifCond .lt 8, 3) := by decide +kernel
theorem dX11_put_4 : decode cX11_put 4 = .ok (.iload_n 1, 1) := by decide +kernel
theorem dX11_put_5 : decode cX11_put 5 = .ok (.iconst 5, 1) := by decide +kernel
theorem dX11_put_6 : decode cX11_put 6 = .ok (.if_icmp .lt 6, 3) := by decide +kernel
theorem dX11_put_9 : decode cX11_put 9 = .ok (.bipush (-2), 2) := by decide +kernel
theorem dX11_put_11 : decode cX11_put 11 = .ok (.ireturn, 1) := by decide +kernel
theorem dX11_put_12 : decode cX11_put 12 = .ok (.iload_n 2, 1) := by decide +kernel
theorem dX11_put_13 : decode cX11_put 13 = .ok (.ifCond .ne 46, 3) := by decide +kernel
theorem dX11_put_16 : decode cX11_put 16 = .ok (.iload_n 3, 1) := by decide +kernel
theorem dX11_put_17 : decode cX11_put 17 = .ok (.bipush (-99), 2) := by decide +kernel
theorem dX11_put_19 : decode cX11_put 19 = .ok (.if_icmp .lt 40, 3) := by decide +kernel
theorem dX11_put_22 : decode cX11_put 22 = .ok (.iload_n 3, 1) := by decide +kernel
theorem dX11_put_23 : decode cX11_put 23 = .ok (.bipush 99, 2) := by decide +kernel
theorem dX11_put_25 : decode cX11_put 25 = .ok (.if_icmp .gt 34, 3) := by decide +kernel
theorem dX11_put_28 : decode cX11_put 28 = .ok (.aload_n 0, 1) := by decide +kernel
theorem dX11_put_29 : decode cX11_put 29 = .ok (.getfield 12, 3) := by decide +kernel
theorem dX11_put_32 : decode cX11_put 32 = .ok (.getfield 138, 3) := by decide +kernel
theorem dX11_put_35 : decode cX11_put 35 = .ok (.iload_n 1, 1) := by decide +kernel
theorem dX11_put_36 : decode cX11_put 36 = .ok (.iaload, 1) := by decide +kernel
theorem dX11_put_37 : decode cX11_put 37 = .ok (.bipush 100, 2) := by decide +kernel
theorem dX11_put_39 : decode cX11_put 39 = .ok (.iadd, 1) := by decide +kernel
theorem dX11_put_40 : decode cX11_put 40 = .ok (.istore 4, 2) := by decide +kernel
theorem dX11_put_42 : decode cX11_put 42 = .ok (.aload_n 0, 1) := by decide +kernel
theorem dX11_put_43 : decode cX11_put 43 = .ok (.getfield 12, 3) := by decide +kernel
theorem dX11_put_46 : decode cX11_put 46 = .ok (.getfield 138, 3) := by decide +kernel
theorem dX11_put_49 : decode cX11_put 49 = .ok (.iload_n 1, 1) := by decide +kernel
theorem dX11_put_50 : decode cX11_put 50 = .ok (.iload_n 3, 1) := by decide +kernel
theorem dX11_put_51 : decode cX11_put 51 = .ok (.iastore, 1) := by decide +kernel
theorem dX11_put_52 : decode cX11_put 52 = .ok (.aload_n 0, 1) := by decide +kernel
theorem dX11_put_53 : decode cX11_put 53 = .ok (.invokevirtual 82, 3) := by decide +kernel
theorem dX11_put_56 : decode cX11_put 56 = .ok (.iload 4, 2) := by decide +kernel
theorem dX11_put_58 : decode cX11_put 58 = .ok (.ireturn, 1) := by decide +kernel
theorem dX11_put_59 : decode cX11_put 59 = .ok (.iload_n 2, 1) := by decide +kernel
theorem dX11_put_60 : decode cX11_put 60 = .ok (.iconst 1, 1) := by decide +kernel
theorem dX11_put_61 : decode cX11_put 61 = .ok (.if_icmp .ne 40, 3) := by decide +kernel
theorem dX11_put_64 : decode cX11_put 64 = .ok (.iload_n 3, 1) := by decide +kernel
theorem dX11_put_65 : decode cX11_put 65 = .ok (.ifCond .lt 36, 3) := by decide +kernel
theorem dX11_put_68 : decode cX11_put 68 = .ok (.iload_n 3, 1) := by decide +kernel
theorem dX11_put_69 : decode cX11_put 69 = .ok (.iconst 5, 1) := by decide +kernel
theorem dX11_put_70 : decode cX11_put 70 = .ok (.if_icmp .gt 31, 3) := by decide +kernel
theorem dX11_put_73 : decode cX11_put 73 = .ok (.aload_n 0, 1) := by decide +kernel
theorem dX11_put_74 : decode cX11_put 74 = .ok (.getfield 12, 3) := by decide +kernel
theorem dX11_put_77 : decode cX11_put 77 = .ok (.getfield 141, 3) := by decide +kernel
theorem dX11_put_80 : decode cX11_put 80 = .ok (.iload_n 1, 1) := by decide +kernel
theorem dX11_put_81 : decode cX11_put 81 = .ok (.iaload, 1) := by decide +kernel
theorem dX11_put_82 : decode cX11_put 82 = .ok (.istore 4, 2) := by decide +kernel
theorem dX11_put_84 : decode cX11_put 84 = .ok (.aload_n 0, 1) := by decide +kernel
theorem dX11_put_85 : decode cX11_put 85 = .ok (.getfield 12, 3) := by decide +kernel
theorem dX11_put_88 : decode cX11_put 88 = .ok (.getfield 141, 3) := by decide +kernel
theorem dX11_put_91 : decode cX11_put 91 = .ok (.iload_n 1, 1) := by decide +kernel
theorem dX11_put_92 : decode cX11_put 92 = .ok (.iload_n 3, 1) := by decide +kernel
theorem dX11_put_93 : decode cX11_put 93 = .ok (.iastore, 1) := by decide +kernel
theorem dX11_put_94 : decode cX11_put 94 = .ok (.aload_n 0, 1) := by decide +kernel
theorem dX11_put_95 : decode cX11_put 95 = .ok (.invokevirtual 82, 3) := by decide +kernel
theorem dX11_put_98 : decode cX11_put 98 = .ok (.iload 4, 2) := by decide +kernel
theorem dX11_put_100 : decode cX11_put 100 = .ok (.ireturn, 1) := by decide +kernel
theorem dX11_put_101 : decode cX11_put 101 = .ok (.bipush (-2), 2) := by decide +kernel
theorem dX11_put_103 : decode cX11_put 103 = .ok (.ireturn, 1) := by decide +kernel
set_option maxRecDepth 10000 in
theorem NX11_put_0 {d : Nat} {S : fW} {h : fH} {Q : Int32 → fH → Prop} {r0 : Nat} {x1 : Int32} {x2 : Int32} {x3 : Int32} {r0_now r0_imageZero r0_imageOne r0_pad r0_ratio r0_rounding r0_steps r0_sums r0_allOrders r0_spans r0_search r0_now_text r0_now_numbers r0_now_spans r0_now_terms : Nat}  
    (hs1 : (r0, shX11 r0_now r0_imageZero r0_imageOne r0_pad r0_ratio r0_rounding r0_steps r0_sums r0_allOrders r0_spans r0_search) ∈ S)
    (hs2 : (r0_now, shX2 r0_now_text r0_now_numbers r0_now_spans r0_now_terms) ∈ S)
    (hs3 : (r0_now_numbers, shI 5) ∈ S)
    (w : ((x1 < 0 → Q (-2 : Int32) h) ∧ (¬ x1 < 0 → ((x1 < (5 : Int32) → ((¬ x2 = 0 → G mX11_put (d + 1) S (f_PI Q) 59 [(0, .ref r0), (1, .int x1), (2, .int x2), (3, .int x3)] [] h) ∧ (x2 = 0 → ((x3 < (-99 : Int32) → G mX11_put (d + 1) S (f_PI Q) 59 [(0, .ref r0), (1, .int x1), (2, .int x2), (3, .int x3)] [] h) ∧ (¬ x3 < (-99 : Int32) → (((99 : Int32) < x3 → G mX11_put (d + 1) S (f_PI Q) 59 [(0, .ref r0), (1, .int x1), (2, .int x2), (3, .int x3)] [] h) ∧ (¬ (99 : Int32) < x3 → vp_in x1 5 ∧ ∀ g_1 : fH, g_1 = u_ai h r0_now_numbers (upd (h.2.2.1 r0_now_numbers) x1.toNatClampNeg x3) → ∃ Q1 : fH → Prop, OkV d mX11_forgetFindings S [.ref r0] g_1 Q1 ∧ ∀ (h_1 : fH), Q1 h_1 → Q ((h.2.2.1 r0_now_numbers x1.toNatClampNeg) + (100 : Int32)) h_1))))))) ∧ (¬ x1 < (5 : Int32) → Q (-2 : Int32) h))))) :
    OkI (d + 1) mX11_put S [.ref r0, .int x1, .int x2, .int x3] h Q := by
  refine Ok.of (by decide) (Nat.le_of_ble_eq_true rfl) ?_
  refine G_iload_n 1 rfl dX11_put_0 rfl ?_
  refine G_if_lt (tgt := 9) dX11_put_1 (by decide) (fun c1 => ?_) (fun c1 => ?_)
  · have w := w.1 c1
    refine G_bipush (v := -2) dX11_put_9 (by decide) ?_
    exact G_iret rfl dX11_put_11 ⟨_, rfl, w⟩
  · have w := w.2 c1
    refine G_iload_n 1 rfl dX11_put_4 rfl ?_
    refine G_iconst (v := 5) dX11_put_5 (by decide) ?_
    refine G_icmp_lt (tgt := 12) dX11_put_6 (by decide) (fun c2 => ?_) (fun c2 => ?_)
    · have w := w.1 c2
      refine G_iload_n 2 rfl dX11_put_12 rfl ?_
      refine G_if_ne (tgt := 59) dX11_put_13 (by decide) (fun c3 => ?_) (fun c3 => ?_)
      · have w := w.1 c3
        exact G_sub [0, 1, 2, 3] rfl w
      · have w := w.2 c3
        refine G_iload_n 3 rfl dX11_put_16 rfl ?_
        refine G_bipush (v := -99) dX11_put_17 (by decide) ?_
        refine G_icmp_lt (tgt := 59) dX11_put_19 (by decide) (fun c4 => ?_) (fun c4 => ?_)
        · have w := w.1 c4
          exact G_sub [0, 1, 2, 3] rfl w
        · have w := w.2 c4
          refine G_iload_n 3 rfl dX11_put_22 rfl ?_
          refine G_bipush (v := 99) dX11_put_23 (by decide) ?_
          refine G_icmp_gt (tgt := 59) dX11_put_25 (by decide) (fun c5 => ?_) (fun c5 => ?_)
          · have w := w.1 c5
            exact G_sub [0, 1, 2, 3] rfl w
          · have w := w.2 c5
            refine G_aload_n 0 rfl dX11_put_28 rfl ?_
            refine G_getr (j := r0_now) (k := 0) hs1 (q := (RX11, TX11, 12)) rfl inX11 (by decide) rfl hF_X11_12 dX11_put_29 ?_
            refine G_getr (j := r0_now_numbers) (k := 1) hs2 (q := (RX2, TX2, 8)) rfl inX2 (by decide) rfl hF_X11_138 dX11_put_32 ?_
            refine G_iload_n 1 rfl dX11_put_35 rfl ?_
            obtain ⟨sd1, w⟩ := w
            refine G_iald hs3 sd1 dX11_put_36 ?_
            refine G_bipush (v := 100) dX11_put_37 (by decide) ?_
            refine G_iadd dX11_put_39 ?_
            refine G_istore dX11_put_40 (by decide) (lv' := [(4, .int ((h.2.2.1 r0_now_numbers x1.toNatClampNeg) + (100 : Int32))), (0, .ref r0), (1, .int x1), (2, .int x2), (3, .int x3)]) rfl ?_
            refine G_aload_n 1 rfl dX11_put_42 rfl ?_
            refine G_getr (j := r0_now) (k := 0) hs1 (q := (RX11, TX11, 12)) rfl inX11 (by decide) rfl hF_X11_12 dX11_put_43 ?_
            refine G_getr (j := r0_now_numbers) (k := 1) hs2 (q := (RX2, TX2, 8)) rfl inX2 (by decide) rfl hF_X11_138 dX11_put_46 ?_
            refine G_iload_n 2 rfl dX11_put_49 rfl ?_
            refine G_iload_n 4 rfl dX11_put_50 rfl ?_
            refine G_iast hs3 sd1 dX11_put_51 ?_
            refine G_nm (fun g_1 e_1 => ?_)
            have w := w g_1 e_1
            refine G_aload_n 1 rfl dX11_put_52 rfl ?_
            obtain ⟨Q1, ok1, w⟩ := w
            refine G_callV (Z := mX11_forgetFindings) (As := []) (st := []) hL_X11_82 hI_X11_forgetFindings hS_X11_forgetFindings hC_X11_forgetFindings hN_X11 nX11_forgetFindings (by decide) hs1 rfl rfl rfl (Nat.le_of_ble_eq_true rfl) dX11_put_53 ok1 (fun r_ h_1 z_ => ?_)
            obtain ⟨rfl, q_1⟩ := z_
            have w := w h_1 q_1
            refine G_iload 0 rfl dX11_put_56 ?_
            exact G_iret rfl dX11_put_58 ⟨_, rfl, w⟩
    · have w := w.2 c2
      refine G_bipush (v := -2) dX11_put_9 (by decide) ?_
      exact G_iret rfl dX11_put_11 ⟨_, rfl, w⟩

set_option maxRecDepth 10000 in
theorem NX11_put_59 {d : Nat} {S : fW} {h : fH} {Q : Int32 → fH → Prop} {r0 : Nat} {x1 : Int32} {x2 : Int32} {x3 : Int32} {r0_now r0_imageZero r0_imageOne r0_pad r0_ratio r0_rounding r0_steps r0_sums r0_allOrders r0_spans r0_search r0_now_text r0_now_numbers r0_now_spans r0_now_terms : Nat}  
    (hs1 : (r0, shX11 r0_now r0_imageZero r0_imageOne r0_pad r0_ratio r0_rounding r0_steps r0_sums r0_allOrders r0_spans r0_search) ∈ S)
    (hs2 : (r0_now, shX2 r0_now_text r0_now_numbers r0_now_spans r0_now_terms) ∈ S)
    (hs3 : (r0_now_spans, shI 5) ∈ S)
    (w : ((¬ x2 = (1 : Int32) → Q (-2 : Int32) h) ∧ (x2 = (1 : Int32) → ((x3 < 0 → Q (-2 : Int32) h) ∧ (¬ x3 < 0 → (((5 : Int32) < x3 → Q (-2 : Int32) h) ∧ (¬ (5 : Int32) < x3 → vp_in x1 5 ∧ ∀ g_1 : fH, g_1 = u_ai h r0_now_spans (upd (h.2.2.1 r0_now_spans) x1.toNatClampNeg x3) → ∃ Q1 : fH → Prop, OkV d mX11_forgetFindings S [.ref r0] g_1 Q1 ∧ ∀ (h_1 : fH), Q1 h_1 → Q (h.2.2.1 r0_now_spans x1.toNatClampNeg) h_1))))))) :
    G mX11_put (d + 1) S (f_PI Q) 59 [(0, .ref r0), (1, .int x1), (2, .int x2), (3, .int x3)] [] h := by
  refine G_iload_n 2 rfl dX11_put_59 rfl ?_
  refine G_iconst (v := 1) dX11_put_60 (by decide) ?_
  refine G_icmp_ne (tgt := 101) dX11_put_61 (by decide) (fun c1 => ?_) (fun c1 => ?_)
  · have w := w.1 c1
    refine G_bipush (v := -2) dX11_put_101 (by decide) ?_
    exact G_iret rfl dX11_put_103 ⟨_, rfl, w⟩
  · have w := w.2 c1
    refine G_iload_n 3 rfl dX11_put_64 rfl ?_
    refine G_if_lt (tgt := 101) dX11_put_65 (by decide) (fun c2 => ?_) (fun c2 => ?_)
    · have w := w.1 c2
      refine G_bipush (v := -2) dX11_put_101 (by decide) ?_
      exact G_iret rfl dX11_put_103 ⟨_, rfl, w⟩
    · have w := w.2 c2
      refine G_iload_n 3 rfl dX11_put_68 rfl ?_
      refine G_iconst (v := 5) dX11_put_69 (by decide) ?_
      refine G_icmp_gt (tgt := 101) dX11_put_70 (by decide) (fun c3 => ?_) (fun c3 => ?_)
      · have w := w.1 c3
        refine G_bipush (v := -2) dX11_put_101 (by decide) ?_
        exact G_iret rfl dX11_put_103 ⟨_, rfl, w⟩
      · have w := w.2 c3
        refine G_aload_n 0 rfl dX11_put_73 rfl ?_
        refine G_getr (j := r0_now) (k := 0) hs1 (q := (RX11, TX11, 12)) rfl inX11 (by decide) rfl hF_X11_12 dX11_put_74 ?_
        refine G_getr (j := r0_now_spans) (k := 2) hs2 (q := (RX2, TX2, 8)) rfl inX2 (by decide) rfl hF_X11_141 dX11_put_77 ?_
        refine G_iload_n 1 rfl dX11_put_80 rfl ?_
        obtain ⟨sd1, w⟩ := w
        refine G_iald hs3 sd1 dX11_put_81 ?_
        refine G_istore dX11_put_82 (by decide) (lv' := [(4, .int (h.2.2.1 r0_now_spans x1.toNatClampNeg)), (0, .ref r0), (1, .int x1), (2, .int x2), (3, .int x3)]) rfl ?_
        refine G_aload_n 1 rfl dX11_put_84 rfl ?_
        refine G_getr (j := r0_now) (k := 0) hs1 (q := (RX11, TX11, 12)) rfl inX11 (by decide) rfl hF_X11_12 dX11_put_85 ?_
        refine G_getr (j := r0_now_spans) (k := 2) hs2 (q := (RX2, TX2, 8)) rfl inX2 (by decide) rfl hF_X11_141 dX11_put_88 ?_
        refine G_iload_n 2 rfl dX11_put_91 rfl ?_
        refine G_iload_n 4 rfl dX11_put_92 rfl ?_
        refine G_iast hs3 sd1 dX11_put_93 ?_
        refine G_nm (fun g_1 e_1 => ?_)
        have w := w g_1 e_1
        refine G_aload_n 1 rfl dX11_put_94 rfl ?_
        obtain ⟨Q1, ok1, w⟩ := w
        refine G_callV (Z := mX11_forgetFindings) (As := []) (st := []) hL_X11_82 hI_X11_forgetFindings hS_X11_forgetFindings hC_X11_forgetFindings hN_X11 nX11_forgetFindings (by decide) hs1 rfl rfl rfl (Nat.le_of_ble_eq_true rfl) dX11_put_95 ok1 (fun r_ h_1 z_ => ?_)
        obtain ⟨rfl, q_1⟩ := z_
        have w := w h_1 q_1
        refine G_iload 0 rfl dX11_put_98 ?_
        exact G_iret rfl dX11_put_100 ⟨_, rfl, w⟩
-- LostDigits.worked
theorem dX11_worked_0 : decode cX11_worked 0 = .ok (.aload_n 0, 1) := by decide +kernel
theorem dX11_worked_1 : decode cX11_worked 1 = .ok (.getfield 12, 3) := by decide +kernel
theorem dX11_worked_4 : decode cX11_worked 4 = .ok (.getfield 118, 3) := by decide +kernel
theorem dX11_worked_7 : decode cX11_worked 7 = .ok (.iload_n 1, 1) := by decide +kernel
theorem dX11_worked_8 : decode cX11_worked 8 = .ok (.invokevirtual 131, 3) := by decide +kernel
theorem dX11_worked_11 : decode cX11_worked 11 = .ok (.ifCond .ne 7, 3) := by decide +kernel
theorem dX11_worked_14 : decode cX11_worked 14 = .ok (.ldc2_w 143, 3) := by decide +kernel
theorem dX11_worked_17 : decode cX11_worked 17 = .ok (.lreturn, 1) := by decide +kernel
theorem dX11_worked_18 : decode cX11_worked 18 = .ok (.iload_n 2, 1) := by decide +kernel
theorem dX11_worked_19 : decode cX11_worked 19 = .ok (.ifCond .lt 8, 3) := by decide +kernel
theorem dX11_worked_22 : decode cX11_worked 22 = .ok (.iload_n 2, 1) := by decide +kernel
theorem dX11_worked_23 : decode cX11_worked 23 = .ok (.iconst 2, 1) := by decide +kernel
theorem dX11_worked_24 : decode cX11_worked 24 = .ok (.if_icmp .le 7, 3) := by decide +kernel
theorem dX11_worked_27 : decode cX11_worked 27 = .ok (.ldc2_w 90, 3) := by decide +kernel
theorem dX11_worked_30 : decode cX11_worked 30 = .ok (.lreturn, 1) := by decide +kernel
theorem dX11_worked_31 : decode cX11_worked 31 = .ok (.iload_n 2, 1) := by decide +kernel
theorem dX11_worked_32 : decode cX11_worked 32 = .ok (.iconst 1, 1) := by decide +kernel
theorem dX11_worked_33 : decode cX11_worked 33 = .ok (.if_icmp .ne 42, 3) := by decide +kernel
theorem dX11_worked_36 : decode cX11_worked 36 = .ok (.aload_n 0, 1) := by decide +kernel
theorem dX11_worked_37 : decode cX11_worked 37 = .ok (.getfield 47, 3) := by decide +kernel
theorem dX11_worked_40 : decode cX11_worked 40 = .ok (.getfield 145, 3) := by decide +kernel
theorem dX11_worked_43 : decode cX11_worked 43 = .ok (.aload_n 0, 1) := by decide +kernel
theorem dX11_worked_44 : decode cX11_worked 44 = .ok (.getfield 12, 3) := by decide +kernel
theorem dX11_worked_47 : decode cX11_worked 47 = .ok (.getfield 118, 3) := by decide +kernel
theorem dX11_worked_50 : decode cX11_worked 50 = .ok (.aload_n 0, 1) := by decide +kernel
theorem dX11_worked_51 : decode cX11_worked 51 = .ok (.getfield 12, 3) := by decide +kernel
theorem dX11_worked_54 : decode cX11_worked 54 = .ok (.getfield 138, 3) := by decide +kernel
theorem dX11_worked_57 : decode cX11_worked 57 = .ok (.bipush 32, 2) := by decide +kernel
theorem dX11_worked_59 : decode cX11_worked 59 = .ok (.invokevirtual 149, 3) := by decide +kernel
theorem dX11_worked_62 : decode cX11_worked 62 = .ok (.aload_n 0, 1) := by decide +kernel
theorem dX11_worked_63 : decode cX11_worked 63 = .ok (.getfield 47, 3) := by decide +kernel
theorem dX11_worked_66 : decode cX11_worked 66 = .ok (.getfield 145, 3) := by decide +kernel
theorem dX11_worked_69 : decode cX11_worked 69 = .ok (.iload_n 1, 1) := by decide +kernel
theorem dX11_worked_70 : decode cX11_worked 70 = .ok (.iconst 0, 1) := by decide +kernel
theorem dX11_worked_71 : decode cX11_worked 71 = .ok (.invokevirtual 155, 3) := by decide +kernel
theorem dX11_worked_74 : decode cX11_worked 74 = .ok (.lreturn, 1) := by decide +kernel
theorem dX11_worked_75 : decode cX11_worked 75 = .ok (.aload_n 0, 1) := by decide +kernel
theorem dX11_worked_76 : decode cX11_worked 76 = .ok (.invokevirtual 159, 3) := by decide +kernel
theorem dX11_worked_79 : decode cX11_worked 79 = .ok (.iload_n 2, 1) := by decide +kernel
theorem dX11_worked_80 : decode cX11_worked 80 = .ok (.ifCond .ne 17, 3) := by decide +kernel
theorem dX11_worked_83 : decode cX11_worked 83 = .ok (.aload_n 0, 1) := by decide +kernel
theorem dX11_worked_84 : decode cX11_worked 84 = .ok (.getfield 47, 3) := by decide +kernel
theorem dX11_worked_87 : decode cX11_worked 87 = .ok (.getfield 162, 3) := by decide +kernel
theorem dX11_worked_90 : decode cX11_worked 90 = .ok (.iload_n 1, 1) := by decide +kernel
theorem dX11_worked_91 : decode cX11_worked 91 = .ok (.invokestatic 166, 3) := by decide +kernel
theorem dX11_worked_94 : decode cX11_worked 94 = .ok (.goto 14, 3) := by decide +kernel
theorem dX11_worked_97 : decode cX11_worked 97 = .ok (.aload_n 0, 1) := by decide +kernel
theorem dX11_worked_98 : decode cX11_worked 98 = .ok (.getfield 47, 3) := by decide +kernel
theorem dX11_worked_101 : decode cX11_worked 101 = .ok (.getfield 170, 3) := by decide +kernel
theorem dX11_worked_104 : decode cX11_worked 104 = .ok (.iload_n 1, 1) := by decide +kernel
theorem dX11_worked_105 : decode cX11_worked 105 = .ok (.invokestatic 166, 3) := by decide +kernel
theorem dX11_worked_108 : decode cX11_worked 108 = .ok (.lreturn, 1) := by decide +kernel
set_option maxRecDepth 10000 in
theorem NX11_worked_0 {d : Nat} {S : fW} {h : fH} {Q : Int64 → fH → Prop} {r0 : Nat} {x1 : Int32} {x2 : Int32} {r0_now r0_imageZero r0_imageOne r0_pad r0_ratio r0_rounding r0_steps r0_sums r0_allOrders r0_spans r0_search r0_now_text r0_now_numbers r0_now_spans r0_now_terms r0_now_text_signs r0_now_text_ends r0_now_text_letters r0_steps_values r0_steps_slips r0_steps_fractions r0_steps_rounding r0_steps_ratio r0_steps_fractions_uppers r0_steps_fractions_lowers : Nat}  
    (hs1 : (r0, shX11 r0_now r0_imageZero r0_imageOne r0_pad r0_ratio r0_rounding r0_steps r0_sums r0_allOrders r0_spans r0_search) ∈ S)
    (hs2 : (r0_now, shX2 r0_now_text r0_now_numbers r0_now_spans r0_now_terms) ∈ S)
    (hs3 : (r0_now_text, shX10 r0_now_text_signs r0_now_text_ends r0_now_text_letters) ∈ S)
    (hs4 : (r0_steps, shX8 r0_steps_values r0_steps_slips r0_steps_fractions r0_steps_rounding r0_steps_ratio) ∈ S)
    (hs5 : (r0_steps_fractions, shX0 r0_steps_fractions_uppers r0_steps_fractions_lowers) ∈ S)
    (w : ∃ Q1 : Int32 → fH → Prop, OkI d mX10_has S [.ref r0_now_text, .int x1] h Q1 ∧ ∀ (v_1 : Int32) (h_1 : fH), Q1 v_1 h_1 → ((¬ v_1 = 0 → ((x2 < 0 → Q (-1000000000000000002 : Int64) h_1) ∧ (¬ x2 < 0 → ((x2 ≤ (2 : Int32) → ((¬ x2 = (1 : Int32) → ∃ Q2 : fH → Prop, OkV d mX11_workNow S [.ref r0] h_1 Q2 ∧ ∀ (h_2 : fH), Q2 h_2 → ((¬ x2 = 0 → ∃ Q3 : Int64 → fH → Prop, OkL d mX11_at S [.ref r0_steps_slips, .int x1] h_2 Q3 ∧ ∀ (v_3 : Int64) (h_3 : fH), Q3 v_3 h_3 → Q v_3 h_3) ∧ (x2 = 0 → ∃ Q4 : Int64 → fH → Prop, OkL d mX11_at S [.ref r0_steps_values, .int x1] h_2 Q4 ∧ ∀ (v_4 : Int64) (h_4 : fH), Q4 v_4 h_4 → Q v_4 h_4))) ∧ (x2 = (1 : Int32) → ∃ Q5 : fH → Prop, OkV d mX0_workParts S [.ref r0_steps_fractions, .ref r0_now_text, .ref r0_now_numbers, .int (32 : Int32)] h_1 Q5 ∧ ∀ (h_5 : fH), Q5 h_5 → ∃ Q6 : Int64 → fH → Prop, OkL d mX0_billionths S [.ref r0_steps_fractions, .int x1, .int (0 : Int32)] h_5 Q6 ∧ ∀ (v_6 : Int64) (h_6 : fH), Q6 v_6 h_6 → Q v_6 h_6))) ∧ (¬ x2 ≤ (2 : Int32) → Q (-1000000000000000002 : Int64) h_1))))) ∧ (v_1 = 0 → Q (-1000000000000000001 : Int64) h_1))) :
    OkL (d + 1) mX11_worked S [.ref r0, .int x1, .int x2] h Q := by
  refine Ok.of (by decide) (Nat.le_of_ble_eq_true rfl) ?_
  refine G_aload_n 0 rfl dX11_worked_0 rfl ?_
  refine G_getr (j := r0_now) (k := 0) hs1 (q := (RX11, TX11, 12)) rfl inX11 (by decide) rfl hF_X11_12 dX11_worked_1 ?_
  refine G_getr (j := r0_now_text) (k := 0) hs2 (q := (RX2, TX2, 8)) rfl inX2 (by decide) rfl hF_X11_118 dX11_worked_4 ?_
  refine G_iload_n 1 rfl dX11_worked_7 rfl ?_
  obtain ⟨Q1, ok1, w⟩ := w
  refine G_callV (Z := mX10_has) (As := [.int x1]) (st := []) hL_X11_131 hI_X10_has hS_X10_has hC_X10_has hN_X10 nX10_has (by decide) hs3 rfl rfl rfl (Nat.le_of_ble_eq_true rfl) dX11_worked_8 ok1 (fun r_ h_1 z_ => ?_)
  obtain ⟨v_1, rfl, q_1⟩ := z_
  have w := w v_1 h_1 q_1
  refine G_if_ne (tgt := 18) dX11_worked_11 (by decide) (fun c1 => ?_) (fun c1 => ?_)
  · have w := w.1 c1
    refine G_iload_n 2 rfl dX11_worked_18 rfl ?_
    refine G_if_lt (tgt := 27) dX11_worked_19 (by decide) (fun c2 => ?_) (fun c2 => ?_)
    · have w := w.1 c2
      refine G_ldc2 hK_X11_90 dX11_worked_27 ?_
      exact G_lret rfl dX11_worked_30 ⟨_, rfl, w⟩
    · have w := w.2 c2
      refine G_iload_n 2 rfl dX11_worked_22 rfl ?_
      refine G_iconst (v := 2) dX11_worked_23 (by decide) ?_
      refine G_icmp_le (tgt := 31) dX11_worked_24 (by decide) (fun c3 => ?_) (fun c3 => ?_)
      · have w := w.1 c3
        refine G_iload_n 2 rfl dX11_worked_31 rfl ?_
        refine G_iconst (v := 1) dX11_worked_32 (by decide) ?_
        refine G_icmp_ne (tgt := 75) dX11_worked_33 (by decide) (fun c4 => ?_) (fun c4 => ?_)
        · have w := w.1 c4
          refine G_aload_n 0 rfl dX11_worked_75 rfl ?_
          obtain ⟨Q2, ok2, w⟩ := w
          refine G_callV (Z := mX11_workNow) (As := []) (st := []) hL_X11_159 hI_X11_workNow hS_X11_workNow hC_X11_workNow hN_X11 nX11_workNow (by decide) hs1 rfl rfl rfl (Nat.le_of_ble_eq_true rfl) dX11_worked_76 ok2 (fun r_ h_2 z_ => ?_)
          obtain ⟨rfl, q_2⟩ := z_
          have w := w h_2 q_2
          refine G_iload_n 2 rfl dX11_worked_79 rfl ?_
          refine G_if_ne (tgt := 97) dX11_worked_80 (by decide) (fun c5 => ?_) (fun c5 => ?_)
          · have w := w.1 c5
            refine G_aload_n 0 rfl dX11_worked_97 rfl ?_
            refine G_getr (j := r0_steps) (k := 7) hs1 (q := (RX11, TX11, 12)) rfl inX11 (by decide) rfl hF_X11_47 dX11_worked_98 ?_
            refine G_getr (j := r0_steps_slips) (k := 1) hs4 (q := (RX8, TX8, 5)) rfl inX8 (by decide) rfl hF_X11_170 dX11_worked_101 ?_
            refine G_iload_n 1 rfl dX11_worked_104 rfl ?_
            obtain ⟨Q3, ok3, w⟩ := w
            refine G_callS (Z := mX11_at) (As := [.ref r0_steps_slips, .int x1]) (st := []) hL_X11_166 hT_X11_at hC_X11_at hN_X11 nX11_at (by decide) rfl (Nat.le_of_ble_eq_true rfl) dX11_worked_105 ok3 (fun r_ h_3 z_ => ?_)
            obtain ⟨v_3, rfl, q_3⟩ := z_
            have w := w v_3 h_3 q_3
            exact G_lret rfl dX11_worked_108 ⟨_, rfl, w⟩
          · have w := w.2 c5
            refine G_aload_n 0 rfl dX11_worked_83 rfl ?_
            refine G_getr (j := r0_steps) (k := 7) hs1 (q := (RX11, TX11, 12)) rfl inX11 (by decide) rfl hF_X11_47 dX11_worked_84 ?_
            refine G_getr (j := r0_steps_values) (k := 0) hs4 (q := (RX8, TX8, 5)) rfl inX8 (by decide) rfl hF_X11_162 dX11_worked_87 ?_
            refine G_iload_n 1 rfl dX11_worked_90 rfl ?_
            obtain ⟨Q4, ok4, w⟩ := w
            refine G_callS (Z := mX11_at) (As := [.ref r0_steps_values, .int x1]) (st := []) hL_X11_166 hT_X11_at hC_X11_at hN_X11 nX11_at (by decide) rfl (Nat.le_of_ble_eq_true rfl) dX11_worked_91 ok4 (fun r_ h_4 z_ => ?_)
            obtain ⟨v_4, rfl, q_4⟩ := z_
            have w := w v_4 h_4 q_4
            refine G_goto (tgt := 108) dX11_worked_94 (by decide) ?_
            exact G_lret rfl dX11_worked_108 ⟨_, rfl, w⟩
        · have w := w.2 c4
          refine G_aload_n 0 rfl dX11_worked_36 rfl ?_
          refine G_getr (j := r0_steps) (k := 7) hs1 (q := (RX11, TX11, 12)) rfl inX11 (by decide) rfl hF_X11_47 dX11_worked_37 ?_
          refine G_getr (j := r0_steps_fractions) (k := 2) hs4 (q := (RX8, TX8, 5)) rfl inX8 (by decide) rfl hF_X11_145 dX11_worked_40 ?_
          refine G_aload_n 0 rfl dX11_worked_43 rfl ?_
          refine G_getr (j := r0_now) (k := 0) hs1 (q := (RX11, TX11, 12)) rfl inX11 (by decide) rfl hF_X11_12 dX11_worked_44 ?_
          refine G_getr (j := r0_now_text) (k := 0) hs2 (q := (RX2, TX2, 8)) rfl inX2 (by decide) rfl hF_X11_118 dX11_worked_47 ?_
          refine G_aload_n 0 rfl dX11_worked_50 rfl ?_
          refine G_getr (j := r0_now) (k := 0) hs1 (q := (RX11, TX11, 12)) rfl inX11 (by decide) rfl hF_X11_12 dX11_worked_51 ?_
          refine G_getr (j := r0_now_numbers) (k := 1) hs2 (q := (RX2, TX2, 8)) rfl inX2 (by decide) rfl hF_X11_138 dX11_worked_54 ?_
          refine G_bipush (v := 32) dX11_worked_57 (by decide) ?_
          obtain ⟨Q5, ok5, w⟩ := w
          refine G_callV (Z := mX0_workParts) (As := [.ref r0_now_text, .ref r0_now_numbers, .int (32 : Int32)]) (st := []) hL_X11_149 hI_X0_workParts hS_X0_workParts hC_X0_workParts hN_X0 nX0_workParts (by decide) hs5 rfl rfl rfl (Nat.le_of_ble_eq_true rfl) dX11_worked_59 ok5 (fun r_ h_5 z_ => ?_)
          obtain ⟨rfl, q_5⟩ := z_
          have w := w h_5 q_5
          refine G_aload_n 0 rfl dX11_worked_62 rfl ?_
          refine G_getr (j := r0_steps) (k := 7) hs1 (q := (RX11, TX11, 12)) rfl inX11 (by decide) rfl hF_X11_47 dX11_worked_63 ?_
          refine G_getr (j := r0_steps_fractions) (k := 2) hs4 (q := (RX8, TX8, 5)) rfl inX8 (by decide) rfl hF_X11_145 dX11_worked_66 ?_
          refine G_iload_n 1 rfl dX11_worked_69 rfl ?_
          refine G_iconst (v := 0) dX11_worked_70 (by decide) ?_
          obtain ⟨Q6, ok6, w⟩ := w
          refine G_callV (Z := mX0_billionths) (As := [.int x1, .int (0 : Int32)]) (st := []) hL_X11_155 hI_X0_billionths hS_X0_billionths hC_X0_billionths hN_X0 nX0_billionths (by decide) hs5 rfl rfl rfl (Nat.le_of_ble_eq_true rfl) dX11_worked_71 ok6 (fun r_ h_6 z_ => ?_)
          obtain ⟨v_6, rfl, q_6⟩ := z_
          have w := w v_6 h_6 q_6
          exact G_lret rfl dX11_worked_74 ⟨_, rfl, w⟩
      · have w := w.2 c3
        refine G_ldc2 hK_X11_90 dX11_worked_27 ?_
        exact G_lret rfl dX11_worked_30 ⟨_, rfl, w⟩
  · have w := w.2 c1
    refine G_ldc2 hK_X11_143 dX11_worked_14 ?_
    exact G_lret rfl dX11_worked_17 ⟨_, rfl, w⟩
-- LostDigits.exact
theorem dX11_exact_0 : decode cX11_exact 0 = .ok (.iload_n 1, 1) := by decide +kernel
theorem dX11_exact_1 : decode cX11_exact 1 = .ok (.ifCond .lt 8, 3) := by decide +kernel
theorem dX11_exact_4 : decode cX11_exact 4 = .ok (.iload_n 1, 1) := by decide +kernel
theorem dX11_exact_5 : decode cX11_exact 5 = .ok (.iconst 1, 1) := by decide +kernel
theorem dX11_exact_6 : decode cX11_exact 6 = .ok (.if_icmp .le 7, 3) := by decide +kernel
theorem dX11_exact_9 : decode cX11_exact 9 = .ok (.ldc2_w 90, 3) := by decide +kernel
theorem dX11_exact_12 : decode cX11_exact 12 = .ok (.lreturn, 1) := by decide +kernel
theorem dX11_exact_13 : decode cX11_exact 13 = .ok (.aload_n 0, 1) := by decide +kernel
theorem dX11_exact_14 : decode cX11_exact 14 = .ok (.getfield 47, 3) := by decide +kernel
theorem dX11_exact_17 : decode cX11_exact 17 = .ok (.getfield 145, 3) := by decide +kernel
theorem dX11_exact_20 : decode cX11_exact 20 = .ok (.aload_n 0, 1) := by decide +kernel
theorem dX11_exact_21 : decode cX11_exact 21 = .ok (.getfield 12, 3) := by decide +kernel
theorem dX11_exact_24 : decode cX11_exact 24 = .ok (.getfield 118, 3) := by decide +kernel
theorem dX11_exact_27 : decode cX11_exact 27 = .ok (.aload_n 0, 1) := by decide +kernel
theorem dX11_exact_28 : decode cX11_exact 28 = .ok (.getfield 12, 3) := by decide +kernel
theorem dX11_exact_31 : decode cX11_exact 31 = .ok (.getfield 138, 3) := by decide +kernel
theorem dX11_exact_34 : decode cX11_exact 34 = .ok (.bipush 32, 2) := by decide +kernel
theorem dX11_exact_36 : decode cX11_exact 36 = .ok (.invokevirtual 149, 3) := by decide +kernel
theorem dX11_exact_39 : decode cX11_exact 39 = .ok (.aload_n 0, 1) := by decide +kernel
theorem dX11_exact_40 : decode cX11_exact 40 = .ok (.getfield 47, 3) := by decide +kernel
theorem dX11_exact_43 : decode cX11_exact 43 = .ok (.getfield 145, 3) := by decide +kernel
theorem dX11_exact_46 : decode cX11_exact 46 = .ok (.iload_n 1, 1) := by decide +kernel
theorem dX11_exact_47 : decode cX11_exact 47 = .ok (.invokevirtual 173, 3) := by decide +kernel
theorem dX11_exact_50 : decode cX11_exact 50 = .ok (.lreturn, 1) := by decide +kernel
set_option maxRecDepth 10000 in
theorem NX11_exact_0 {d : Nat} {S : fW} {h : fH} {Q : Int64 → fH → Prop} {r0 : Nat} {x1 : Int32} {r0_now r0_imageZero r0_imageOne r0_pad r0_ratio r0_rounding r0_steps r0_sums r0_allOrders r0_spans r0_search r0_steps_values r0_steps_slips r0_steps_fractions r0_steps_rounding r0_steps_ratio r0_now_text r0_now_numbers r0_now_spans r0_now_terms r0_steps_fractions_uppers r0_steps_fractions_lowers : Nat}  
    (hs1 : (r0, shX11 r0_now r0_imageZero r0_imageOne r0_pad r0_ratio r0_rounding r0_steps r0_sums r0_allOrders r0_spans r0_search) ∈ S)
    (hs2 : (r0_steps, shX8 r0_steps_values r0_steps_slips r0_steps_fractions r0_steps_rounding r0_steps_ratio) ∈ S)
    (hs3 : (r0_now, shX2 r0_now_text r0_now_numbers r0_now_spans r0_now_terms) ∈ S)
    (hs4 : (r0_steps_fractions, shX0 r0_steps_fractions_uppers r0_steps_fractions_lowers) ∈ S)
    (w : ((x1 < 0 → Q (-1000000000000000002 : Int64) h) ∧ (¬ x1 < 0 → ((x1 ≤ (1 : Int32) → ∃ Q1 : fH → Prop, OkV d mX0_workParts S [.ref r0_steps_fractions, .ref r0_now_text, .ref r0_now_numbers, .int (32 : Int32)] h Q1 ∧ ∀ (h_1 : fH), Q1 h_1 → ∃ Q2 : Int64 → fH → Prop, OkL d mX0_lowest S [.ref r0_steps_fractions, .int x1] h_1 Q2 ∧ ∀ (v_2 : Int64) (h_2 : fH), Q2 v_2 h_2 → Q v_2 h_2) ∧ (¬ x1 ≤ (1 : Int32) → Q (-1000000000000000002 : Int64) h))))) :
    OkL (d + 1) mX11_exact S [.ref r0, .int x1] h Q := by
  refine Ok.of (by decide) (Nat.le_of_ble_eq_true rfl) ?_
  refine G_iload_n 1 rfl dX11_exact_0 rfl ?_
  refine G_if_lt (tgt := 9) dX11_exact_1 (by decide) (fun c1 => ?_) (fun c1 => ?_)
  · have w := w.1 c1
    refine G_ldc2 hK_X11_90 dX11_exact_9 ?_
    exact G_lret rfl dX11_exact_12 ⟨_, rfl, w⟩
  · have w := w.2 c1
    refine G_iload_n 1 rfl dX11_exact_4 rfl ?_
    refine G_iconst (v := 1) dX11_exact_5 (by decide) ?_
    refine G_icmp_le (tgt := 13) dX11_exact_6 (by decide) (fun c2 => ?_) (fun c2 => ?_)
    · have w := w.1 c2
      refine G_aload_n 0 rfl dX11_exact_13 rfl ?_
      refine G_getr (j := r0_steps) (k := 7) hs1 (q := (RX11, TX11, 12)) rfl inX11 (by decide) rfl hF_X11_47 dX11_exact_14 ?_
      refine G_getr (j := r0_steps_fractions) (k := 2) hs2 (q := (RX8, TX8, 5)) rfl inX8 (by decide) rfl hF_X11_145 dX11_exact_17 ?_
      refine G_aload_n 0 rfl dX11_exact_20 rfl ?_
      refine G_getr (j := r0_now) (k := 0) hs1 (q := (RX11, TX11, 12)) rfl inX11 (by decide) rfl hF_X11_12 dX11_exact_21 ?_
      refine G_getr (j := r0_now_text) (k := 0) hs3 (q := (RX2, TX2, 8)) rfl inX2 (by decide) rfl hF_X11_118 dX11_exact_24 ?_
      refine G_aload_n 0 rfl dX11_exact_27 rfl ?_
      refine G_getr (j := r0_now) (k := 0) hs1 (q := (RX11, TX11, 12)) rfl inX11 (by decide) rfl hF_X11_12 dX11_exact_28 ?_
      refine G_getr (j := r0_now_numbers) (k := 1) hs3 (q := (RX2, TX2, 8)) rfl inX2 (by decide) rfl hF_X11_138 dX11_exact_31 ?_
      refine G_bipush (v := 32) dX11_exact_34 (by decide) ?_
      obtain ⟨Q1, ok1, w⟩ := w
      refine G_callV (Z := mX0_workParts) (As := [.ref r0_now_text, .ref r0_now_numbers, .int (32 : Int32)]) (st := []) hL_X11_149 hI_X0_workParts hS_X0_workParts hC_X0_workParts hN_X0 nX0_workParts (by decide) hs4 rfl rfl rfl (Nat.le_of_ble_eq_true rfl) dX11_exact_36 ok1 (fun r_ h_1 z_ => ?_)
      obtain ⟨rfl, q_1⟩ := z_
      have w := w h_1 q_1
      refine G_aload_n 0 rfl dX11_exact_39 rfl ?_
      refine G_getr (j := r0_steps) (k := 7) hs1 (q := (RX11, TX11, 12)) rfl inX11 (by decide) rfl hF_X11_47 dX11_exact_40 ?_
      refine G_getr (j := r0_steps_fractions) (k := 2) hs2 (q := (RX8, TX8, 5)) rfl inX8 (by decide) rfl hF_X11_145 dX11_exact_43 ?_
      refine G_iload_n 1 rfl dX11_exact_46 rfl ?_
      obtain ⟨Q2, ok2, w⟩ := w
      refine G_callV (Z := mX0_lowest) (As := [.int x1]) (st := []) hL_X11_173 hI_X0_lowest hS_X0_lowest hC_X0_lowest hN_X0 nX0_lowest (by decide) hs4 rfl rfl rfl (Nat.le_of_ble_eq_true rfl) dX11_exact_47 ok2 (fun r_ h_2 z_ => ?_)
      obtain ⟨v_2, rfl, q_2⟩ := z_
      have w := w v_2 h_2 q_2
      exact G_lret rfl dX11_exact_50 ⟨_, rfl, w⟩
    · have w := w.2 c2
      refine G_ldc2 hK_X11_90 dX11_exact_9 ?_
      exact G_lret rfl dX11_exact_12 ⟨_, rfl, w⟩
-- LostDigits.loss
theorem dX11_loss_0 : decode cX11_loss 0 = .ok (.aload_n 0, 1) := by decide +kernel
theorem dX11_loss_1 : decode cX11_loss 1 = .ok (.getfield 47, 3) := by decide +kernel
theorem dX11_loss_4 : decode cX11_loss 4 = .ok (.getfield 177, 3) := by decide +kernel
theorem dX11_loss_7 : decode cX11_loss 7 = .ok (.aload_n 0, 1) := by decide +kernel
theorem dX11_loss_8 : decode cX11_loss 8 = .ok (.getfield 12, 3) := by decide +kernel
theorem dX11_loss_11 : decode cX11_loss 11 = .ok (.getfield 79, 3) := by decide +kernel
theorem dX11_loss_14 : decode cX11_loss 14 = .ok (.aload_n 0, 1) := by decide +kernel
theorem dX11_loss_15 : decode cX11_loss 15 = .ok (.getfield 12, 3) := by decide +kernel
theorem dX11_loss_18 : decode cX11_loss 18 = .ok (.getfield 85, 3) := by decide +kernel
theorem dX11_loss_21 : decode cX11_loss 21 = .ok (.invokevirtual 96, 3) := by decide +kernel
theorem dX11_loss_24 : decode cX11_loss 24 = .ok (.aload_n 0, 1) := by decide +kernel
theorem dX11_loss_25 : decode cX11_loss 25 = .ok (.getfield 47, 3) := by decide +kernel
theorem dX11_loss_28 : decode cX11_loss 28 = .ok (.aload_n 0, 1) := by decide +kernel
theorem dX11_loss_29 : decode cX11_loss 29 = .ok (.getfield 12, 3) := by decide +kernel
theorem dX11_loss_32 : decode cX11_loss 32 = .ok (.getfield 118, 3) := by decide +kernel
theorem dX11_loss_35 : decode cX11_loss 35 = .ok (.aload_n 0, 1) := by decide +kernel
theorem dX11_loss_36 : decode cX11_loss 36 = .ok (.getfield 12, 3) := by decide +kernel
theorem dX11_loss_39 : decode cX11_loss 39 = .ok (.getfield 138, 3) := by decide +kernel
theorem dX11_loss_42 : decode cX11_loss 42 = .ok (.invokevirtual 178, 3) := by decide +kernel
theorem dX11_loss_45 : decode cX11_loss 45 = .ok (.lreturn, 1) := by decide +kernel
set_option maxRecDepth 10000 in
theorem NX11_loss_0 {d : Nat} {S : fW} {h : fH} {Q : Int64 → fH → Prop} {r0 : Nat} {r0_now r0_imageZero r0_imageOne r0_pad r0_ratio r0_rounding r0_steps r0_sums r0_allOrders r0_spans r0_search r0_steps_values r0_steps_slips r0_steps_fractions r0_steps_rounding r0_steps_ratio r0_now_text r0_now_numbers r0_now_spans r0_now_terms : Nat}  
    (hs1 : (r0, shX11 r0_now r0_imageZero r0_imageOne r0_pad r0_ratio r0_rounding r0_steps r0_sums r0_allOrders r0_spans r0_search) ∈ S)
    (hs2 : (r0_steps, shX8 r0_steps_values r0_steps_slips r0_steps_fractions r0_steps_rounding r0_steps_ratio) ∈ S)
    (hs3 : (r0_now, shX2 r0_now_text r0_now_numbers r0_now_spans r0_now_terms) ∈ S)
    (hs4 : (r0_steps_rounding, shX4) ∈ S)
    (w : ∃ Q1 : fH → Prop, OkV d mX4_turn S [.ref r0_steps_rounding, .int (h.1 r0_now 5), .int (h.1 r0_now 6)] h Q1 ∧ ∀ (h_1 : fH), Q1 h_1 → ∃ Q2 : Int64 → fH → Prop, OkL d mX8_lossOf S [.ref r0_steps, .ref r0_now_text, .ref r0_now_numbers] h_1 Q2 ∧ ∀ (v_2 : Int64) (h_2 : fH), Q2 v_2 h_2 → Q v_2 h_2) :
    OkL (d + 1) mX11_loss S [.ref r0] h Q := by
  refine Ok.of (by decide) (Nat.le_of_ble_eq_true rfl) ?_
  refine G_aload_n 0 rfl dX11_loss_0 rfl ?_
  refine G_getr (j := r0_steps) (k := 7) hs1 (q := (RX11, TX11, 12)) rfl inX11 (by decide) rfl hF_X11_47 dX11_loss_1 ?_
  refine G_getr (j := r0_steps_rounding) (k := 3) hs2 (q := (RX8, TX8, 5)) rfl inX8 (by decide) rfl hF_X11_177 dX11_loss_4 ?_
  refine G_aload_n 0 rfl dX11_loss_7 rfl ?_
  refine G_getr (j := r0_now) (k := 0) hs1 (q := (RX11, TX11, 12)) rfl inX11 (by decide) rfl hF_X11_12 dX11_loss_8 ?_
  refine G_geti (k := 5) hs3 (q := (RX2, TX2, 8)) rfl inX2 (by decide) (Or.inl rfl) hF_X11_79 dX11_loss_11 ?_
  refine G_aload_n 0 rfl dX11_loss_14 rfl ?_
  refine G_getr (j := r0_now) (k := 0) hs1 (q := (RX11, TX11, 12)) rfl inX11 (by decide) rfl hF_X11_12 dX11_loss_15 ?_
  refine G_geti (k := 6) hs3 (q := (RX2, TX2, 8)) rfl inX2 (by decide) (Or.inl rfl) hF_X11_85 dX11_loss_18 ?_
  obtain ⟨Q1, ok1, w⟩ := w
  refine G_callV (Z := mX4_turn) (As := [.int (h.1 r0_now 5), .int (h.1 r0_now 6)]) (st := []) hL_X11_96 hI_X4_turn hS_X4_turn hC_X4_turn hN_X4 nX4_turn (by decide) hs4 rfl rfl rfl (Nat.le_of_ble_eq_true rfl) dX11_loss_21 ok1 (fun r_ h_1 z_ => ?_)
  obtain ⟨rfl, q_1⟩ := z_
  have w := w h_1 q_1
  refine G_aload_n 0 rfl dX11_loss_24 rfl ?_
  refine G_getr (j := r0_steps) (k := 7) hs1 (q := (RX11, TX11, 12)) rfl inX11 (by decide) rfl hF_X11_47 dX11_loss_25 ?_
  refine G_aload_n 0 rfl dX11_loss_28 rfl ?_
  refine G_getr (j := r0_now) (k := 0) hs1 (q := (RX11, TX11, 12)) rfl inX11 (by decide) rfl hF_X11_12 dX11_loss_29 ?_
  refine G_getr (j := r0_now_text) (k := 0) hs3 (q := (RX2, TX2, 8)) rfl inX2 (by decide) rfl hF_X11_118 dX11_loss_32 ?_
  refine G_aload_n 0 rfl dX11_loss_35 rfl ?_
  refine G_getr (j := r0_now) (k := 0) hs1 (q := (RX11, TX11, 12)) rfl inX11 (by decide) rfl hF_X11_12 dX11_loss_36 ?_
  refine G_getr (j := r0_now_numbers) (k := 1) hs3 (q := (RX2, TX2, 8)) rfl inX2 (by decide) rfl hF_X11_138 dX11_loss_39 ?_
  obtain ⟨Q2, ok2, w⟩ := w
  refine G_callV (Z := mX8_lossOf) (As := [.ref r0_now_text, .ref r0_now_numbers]) (st := []) hL_X11_178 hI_X8_lossOf hS_X8_lossOf hC_X8_lossOf hN_X8 nX8_lossOf (by decide) hs2 rfl rfl rfl (Nat.le_of_ble_eq_true rfl) dX11_loss_42 ok2 (fun r_ h_2 z_ => ?_)
  obtain ⟨v_2, rfl, q_2⟩ := z_
  have w := w v_2 h_2 q_2
  exact G_lret rfl dX11_loss_45 ⟨_, rfl, w⟩
-- LostDigits.worst
theorem dX11_worst_0 : decode cX11_worst 0 = .ok (.aload_n 0, 1) := by decide +kernel
theorem dX11_worst_1 : decode cX11_worst 1 = .ok (.invokevirtual 159, 3) := by decide +kernel
theorem dX11_worst_4 : decode cX11_worst 4 = .ok (.aload_n 0, 1) := by decide +kernel
theorem dX11_worst_5 : decode cX11_worst 5 = .ok (.getfield 47, 3) := by decide +kernel
theorem dX11_worst_8 : decode cX11_worst 8 = .ok (.getfield 162, 3) := by decide +kernel
theorem dX11_worst_11 : decode cX11_worst 11 = .ok (.iconst 0, 1) := by decide +kernel
theorem dX11_worst_12 : decode cX11_worst 12 = .ok (.invokestatic 166, 3) := by decide +kernel
theorem dX11_worst_15 : decode cX11_worst 15 = .ok (.ldc2_w 182, 3) := by decide +kernel
theorem dX11_worst_18 : decode cX11_worst 18 = .ok (.lcmp, 1) := by decide +kernel
theorem dX11_worst_19 : decode cX11_worst 19 = .ok (.ifCond .ne 6, 3) := by decide +kernel
theorem dX11_worst_22 : decode cX11_worst 22 = .ok (.bipush (-3), 2) := by decide +kernel
theorem dX11_worst_24 : decode cX11_worst 24 = .ok (.ireturn, 1) := by decide +kernel
theorem dX11_worst_25 : decode cX11_worst 25 = .ok (.bipush (-6), 2) := by decide +kernel
theorem dX11_worst_27 : decode cX11_worst 27 = .ok (.istore_n 1, 1) := by decide +kernel
theorem dX11_worst_28 : decode cX11_worst 28 = .ok (.lconst 0, 1) := by decide +kernel
theorem dX11_worst_29 : decode cX11_worst 29 = .ok (.lstore_n 2, 1) := by decide +kernel
theorem dX11_worst_30 : decode cX11_worst 30 = .ok (.iconst 0, 1) := by decide +kernel
theorem dX11_worst_31 : decode cX11_worst 31 = .ok (.istore 4, 2) := by decide +kernel
theorem dX11_worst_33 : decode cX11_worst 33 = .ok (.iload 4, 2) := by decide +kernel
theorem dX11_worst_35 : decode cX11_worst 35 = .ok (.aload_n 0, 1) := by decide +kernel
theorem dX11_worst_36 : decode cX11_worst 36 = .ok (.getfield 12, 3) := by decide +kernel
theorem dX11_worst_39 : decode cX11_worst 39 = .ok (.getfield 118, 3) := by decide +kernel
theorem dX11_worst_42 : decode cX11_worst 42 = .ok (.getfield 128, 3) := by decide +kernel
theorem dX11_worst_45 : decode cX11_worst 45 = .ok (.if_icmp .ge 44, 3) := by decide +kernel
theorem dX11_worst_48 : decode cX11_worst 48 = .ok (.iload 4, 2) := by decide +kernel
theorem dX11_worst_50 : decode cX11_worst 50 = .ok (.bipush 13, 2) := by decide +kernel
theorem dX11_worst_52 : decode cX11_worst 52 = .ok (.if_icmp .ge 37, 3) := by decide +kernel
theorem dX11_worst_55 : decode cX11_worst 55 = .ok (.aload_n 0, 1) := by decide +kernel
theorem dX11_worst_56 : decode cX11_worst 56 = .ok (.getfield 47, 3) := by decide +kernel
theorem dX11_worst_59 : decode cX11_worst 59 = .ok (.getfield 170, 3) := by decide +kernel
theorem dX11_worst_62 : decode cX11_worst 62 = .ok (.iload 4, 2) := by decide +kernel
theorem dX11_worst_64 : decode cX11_worst 64 = .ok (.laload, 1) := by decide +kernel
theorem dX11_worst_65 : decode cX11_worst 65 = .ok (.invokestatic 184, 3) := by decide +kernel
theorem dX11_worst_68 : decode cX11_worst 68 = .ok (.lstore 5, 2) := by decide +kernel
theorem dX11_worst_70 : decode cX11_worst 70 = .ok (.lload 5, 2) := by decide +kernel
theorem dX11_worst_72 : decode cX11_worst 72 = .ok (.lload_n 2, 1) := by decide +kernel
theorem dX11_worst_73 : decode cX11_worst 73 = .ok (.lcmp, 1) := by decide +kernel
theorem dX11_worst_74 : decode cX11_worst 74 = .ok (.ifCond .le 9, 3) := by decide +kernel
theorem dX11_worst_77 : decode cX11_worst 77 = .ok (.lload 5, 2) := by decide +kernel
theorem dX11_worst_79 : decode cX11_worst 79 = .ok (.lstore_n 2, 1) := by decide +kernel
theorem dX11_worst_80 : decode cX11_worst 80 = .ok (.iload 4, 2) := by decide +kernel
theorem dX11_worst_82 : decode cX11_worst 82 = .ok (.istore_n 1, 1) := by decide +kernel
theorem dX11_worst_83 : decode cX11_worst 83 = .ok (.iinc 4 1, 3) := by decide +kernel
theorem dX11_worst_86 : decode cX11_worst 86 = .ok (.goto (-53), 3) := by decide +kernel
theorem dX11_worst_89 : decode cX11_worst 89 = .ok (.iload_n 1, 1) := by decide +kernel
theorem dX11_worst_90 : decode cX11_worst 90 = .ok (.ireturn, 1) := by decide +kernel
set_option maxRecDepth 10000 in
theorem NX11_worst_0 {d : Nat} {S : fW} {h : fH} {Q : Int32 → fH → Prop} {r0 : Nat} {r0_now r0_imageZero r0_imageOne r0_pad r0_ratio r0_rounding r0_steps r0_sums r0_allOrders r0_spans r0_search r0_steps_values r0_steps_slips r0_steps_fractions r0_steps_rounding r0_steps_ratio : Nat}  
    (hs1 : (r0, shX11 r0_now r0_imageZero r0_imageOne r0_pad r0_ratio r0_rounding r0_steps r0_sums r0_allOrders r0_spans r0_search) ∈ S)
    (hs2 : (r0_steps, shX8 r0_steps_values r0_steps_slips r0_steps_fractions r0_steps_rounding r0_steps_ratio) ∈ S)
    (w : ∃ Q1 : fH → Prop, OkV d mX11_workNow S [.ref r0] h Q1 ∧ ∀ (h_1 : fH), Q1 h_1 → ∃ Q2 : Int64 → fH → Prop, OkL d mX11_at S [.ref r0_steps_values, .int (0 : Int32)] h_1 Q2 ∧ ∀ (v_2 : Int64) (h_2 : fH), Q2 v_2 h_2 → ((¬ v_2 = (1000000000000000000 : Int64) → G mX11_worst (d + 1) S (f_PI Q) 33 [(0, .ref r0), (1, .int (-6 : Int32)), (2, .long (0 : Int64)), (4, .int (0 : Int32))] [] h_2) ∧ (v_2 = (1000000000000000000 : Int64) → Q (-3 : Int32) h_2))) :
    OkI (d + 1) mX11_worst S [.ref r0] h Q := by
  refine Ok.of (by decide) (Nat.le_of_ble_eq_true rfl) ?_
  refine G_aload_n 0 rfl dX11_worst_0 rfl ?_
  obtain ⟨Q1, ok1, w⟩ := w
  refine G_callV (Z := mX11_workNow) (As := []) (st := []) hL_X11_159 hI_X11_workNow hS_X11_workNow hC_X11_workNow hN_X11 nX11_workNow (by decide) hs1 rfl rfl rfl (Nat.le_of_ble_eq_true rfl) dX11_worst_1 ok1 (fun r_ h_1 z_ => ?_)
  obtain ⟨rfl, q_1⟩ := z_
  have w := w h_1 q_1
  refine G_aload_n 0 rfl dX11_worst_4 rfl ?_
  refine G_getr (j := r0_steps) (k := 7) hs1 (q := (RX11, TX11, 12)) rfl inX11 (by decide) rfl hF_X11_47 dX11_worst_5 ?_
  refine G_getr (j := r0_steps_values) (k := 0) hs2 (q := (RX8, TX8, 5)) rfl inX8 (by decide) rfl hF_X11_162 dX11_worst_8 ?_
  refine G_iconst (v := 0) dX11_worst_11 (by decide) ?_
  obtain ⟨Q2, ok2, w⟩ := w
  refine G_callS (Z := mX11_at) (As := [.ref r0_steps_values, .int (0 : Int32)]) (st := []) hL_X11_166 hT_X11_at hC_X11_at hN_X11 nX11_at (by decide) rfl (Nat.le_of_ble_eq_true rfl) dX11_worst_12 ok2 (fun r_ h_2 z_ => ?_)
  obtain ⟨v_2, rfl, q_2⟩ := z_
  have w := w v_2 h_2 q_2
  refine G_ldc2 hK_X11_182 dX11_worst_15 ?_
  refine G_lif_ne (tgt := 25) dX11_worst_18 dX11_worst_19 (by decide) (fun c1 => ?_) (fun c1 => ?_)
  · have w := w.1 c1
    refine G_bipush (v := -6) dX11_worst_25 (by decide) ?_
    refine G_istore_n dX11_worst_27 rfl (by decide) (lv' := [(1, .int (-6 : Int32)), (0, .ref r0)]) rfl ?_
    refine G_lconst (v := 0) dX11_worst_28 (by decide) ?_
    refine G_lstore_n dX11_worst_29 rfl (by decide) (lv' := [(2, .long (0 : Int64)), (1, .int (-6 : Int32)), (0, .ref r0)]) rfl ?_
    refine G_iconst (v := 0) dX11_worst_30 (by decide) ?_
    refine G_istore dX11_worst_31 (by decide) (lv' := [(4, .int (0 : Int32)), (2, .long (0 : Int64)), (1, .int (-6 : Int32)), (0, .ref r0)]) rfl ?_
    exact G_sub [3, 2, 1, 0] rfl w
  · have w := w.2 c1
    refine G_bipush (v := -3) dX11_worst_22 (by decide) ?_
    exact G_iret rfl dX11_worst_24 ⟨_, rfl, w⟩

set_option maxRecDepth 10000 in
theorem NX11_worst_33 {d : Nat} {S : fW} {h : fH} {Q : Int32 → fH → Prop} {r0 : Nat} {x1 : Int32} {x2 : Int64} {x4 : Int32} {r0_now r0_imageZero r0_imageOne r0_pad r0_ratio r0_rounding r0_steps r0_sums r0_allOrders r0_spans r0_search r0_now_text r0_now_numbers r0_now_spans r0_now_terms r0_now_text_signs r0_now_text_ends r0_now_text_letters r0_steps_values r0_steps_slips r0_steps_fractions r0_steps_rounding r0_steps_ratio : Nat}  
    (hs1 : (r0, shX11 r0_now r0_imageZero r0_imageOne r0_pad r0_ratio r0_rounding r0_steps r0_sums r0_allOrders r0_spans r0_search) ∈ S)
    (hs2 : (r0_now, shX2 r0_now_text r0_now_numbers r0_now_spans r0_now_terms) ∈ S)
    (hs3 : (r0_now_text, shX10 r0_now_text_signs r0_now_text_ends r0_now_text_letters) ∈ S)
    (hs4 : (r0_steps, shX8 r0_steps_values r0_steps_slips r0_steps_fractions r0_steps_rounding r0_steps_ratio) ∈ S)
    (hs5 : (r0_steps_slips, shJ 13) ∈ S)
    (w : (((h.1 r0_now_text 3) ≤ x4 → Q x1 h) ∧ (¬ (h.1 r0_now_text 3) ≤ x4 → (((13 : Int32) ≤ x4 → Q x1 h) ∧ (¬ (13 : Int32) ≤ x4 → vp_in x4 13 ∧ (((if 0 < (h.2.2.2 r0_steps_slips x4.toNatClampNeg) then h.2.2.2 r0_steps_slips x4.toNatClampNeg else -(h.2.2.2 r0_steps_slips x4.toNatClampNeg)) ≤ x2 → G mX11_worst (d + 1) S (f_PI Q) 33 [(0, .ref r0), (1, .int x1), (2, .long x2), (4, .int (x4 + 1))] [] h) ∧ (¬ (if 0 < (h.2.2.2 r0_steps_slips x4.toNatClampNeg) then h.2.2.2 r0_steps_slips x4.toNatClampNeg else -(h.2.2.2 r0_steps_slips x4.toNatClampNeg)) ≤ x2 → G mX11_worst (d + 1) S (f_PI Q) 33 [(0, .ref r0), (1, .int x4), (2, .long (if 0 < (h.2.2.2 r0_steps_slips x4.toNatClampNeg) then h.2.2.2 r0_steps_slips x4.toNatClampNeg else -(h.2.2.2 r0_steps_slips x4.toNatClampNeg))), (4, .int (x4 + 1))] [] h))))))) :
    G mX11_worst (d + 1) S (f_PI Q) 33 [(0, .ref r0), (1, .int x1), (2, .long x2), (4, .int x4)] [] h := by
  refine G_iload 3 rfl dX11_worst_33 ?_
  refine G_aload_n 0 rfl dX11_worst_35 rfl ?_
  refine G_getr (j := r0_now) (k := 0) hs1 (q := (RX11, TX11, 12)) rfl inX11 (by decide) rfl hF_X11_12 dX11_worst_36 ?_
  refine G_getr (j := r0_now_text) (k := 0) hs2 (q := (RX2, TX2, 8)) rfl inX2 (by decide) rfl hF_X11_118 dX11_worst_39 ?_
  refine G_geti (k := 3) hs3 (q := (RX10, TX10, 4)) rfl inX10 (by decide) (Or.inl rfl) hF_X11_128 dX11_worst_42 ?_
  refine G_icmp_ge (tgt := 89) dX11_worst_45 (by decide) (fun c1 => ?_) (fun c1 => ?_)
  · have w := w.1 c1
    refine G_iload_n 1 rfl dX11_worst_89 rfl ?_
    exact G_iret rfl dX11_worst_90 ⟨_, rfl, w⟩
  · have w := w.2 c1
    refine G_iload 3 rfl dX11_worst_48 ?_
    refine G_bipush (v := 13) dX11_worst_50 (by decide) ?_
    refine G_icmp_ge (tgt := 89) dX11_worst_52 (by decide) (fun c2 => ?_) (fun c2 => ?_)
    · have w := w.1 c2
      refine G_iload_n 1 rfl dX11_worst_89 rfl ?_
      exact G_iret rfl dX11_worst_90 ⟨_, rfl, w⟩
    · have w := w.2 c2
      refine G_aload_n 0 rfl dX11_worst_55 rfl ?_
      refine G_getr (j := r0_steps) (k := 7) hs1 (q := (RX11, TX11, 12)) rfl inX11 (by decide) rfl hF_X11_47 dX11_worst_56 ?_
      refine G_getr (j := r0_steps_slips) (k := 1) hs4 (q := (RX8, TX8, 5)) rfl inX8 (by decide) rfl hF_X11_170 dX11_worst_59 ?_
      refine G_iload 3 rfl dX11_worst_62 ?_
      obtain ⟨sd1, w⟩ := w
      refine G_lald hs5 sd1 dX11_worst_64 ?_
      refine G_mabs hL_X11_184 (Nat.le_of_ble_eq_true rfl) dX11_worst_65 ?_
      refine G_lstore dX11_worst_68 (by decide) (lv' := [(5, .long (if 0 < (h.2.2.2 r0_steps_slips x4.toNatClampNeg) then h.2.2.2 r0_steps_slips x4.toNatClampNeg else -(h.2.2.2 r0_steps_slips x4.toNatClampNeg))), (0, .ref r0), (1, .int x1), (2, .long x2), (4, .int x4)]) rfl ?_
      refine G_lload 0 rfl dX11_worst_70 ?_
      refine G_lload_n 3 rfl dX11_worst_72 rfl ?_
      refine G_lif_le (tgt := 83) dX11_worst_73 dX11_worst_74 (by decide) (fun c3 => ?_) (fun c3 => ?_)
      · have w := w.1 c3
        refine G_iinc (v := 1) 4 rfl dX11_worst_83 (by decide) (by decide) (lv' := [(4, .int (x4 + 1)), (5, .long (if 0 < (h.2.2.2 r0_steps_slips x4.toNatClampNeg) then h.2.2.2 r0_steps_slips x4.toNatClampNeg else -(h.2.2.2 r0_steps_slips x4.toNatClampNeg))), (0, .ref r0), (1, .int x1), (2, .long x2)]) rfl ?_
        refine G_goto (tgt := 33) dX11_worst_86 (by decide) ?_
        exact G_sub [2, 3, 4, 0] rfl w
      · have w := w.2 c3
        refine G_lload 0 rfl dX11_worst_77 ?_
        refine G_lstore_n dX11_worst_79 rfl (by decide) (lv' := [(2, .long (if 0 < (h.2.2.2 r0_steps_slips x4.toNatClampNeg) then h.2.2.2 r0_steps_slips x4.toNatClampNeg else -(h.2.2.2 r0_steps_slips x4.toNatClampNeg))), (5, .long (if 0 < (h.2.2.2 r0_steps_slips x4.toNatClampNeg) then h.2.2.2 r0_steps_slips x4.toNatClampNeg else -(h.2.2.2 r0_steps_slips x4.toNatClampNeg))), (0, .ref r0), (1, .int x1), (4, .int x4)]) rfl ?_
        refine G_iload 4 rfl dX11_worst_80 ?_
        refine G_istore_n dX11_worst_82 rfl (by decide) (lv' := [(1, .int x4), (2, .long (if 0 < (h.2.2.2 r0_steps_slips x4.toNatClampNeg) then h.2.2.2 r0_steps_slips x4.toNatClampNeg else -(h.2.2.2 r0_steps_slips x4.toNatClampNeg))), (5, .long (if 0 < (h.2.2.2 r0_steps_slips x4.toNatClampNeg) then h.2.2.2 r0_steps_slips x4.toNatClampNeg else -(h.2.2.2 r0_steps_slips x4.toNatClampNeg))), (0, .ref r0), (4, .int x4)]) rfl ?_
        refine G_iinc (v := 1) 4 rfl dX11_worst_83 (by decide) (by decide) (lv' := [(4, .int (x4 + 1)), (1, .int x4), (2, .long (if 0 < (h.2.2.2 r0_steps_slips x4.toNatClampNeg) then h.2.2.2 r0_steps_slips x4.toNatClampNeg else -(h.2.2.2 r0_steps_slips x4.toNatClampNeg))), (5, .long (if 0 < (h.2.2.2 r0_steps_slips x4.toNatClampNeg) then h.2.2.2 r0_steps_slips x4.toNatClampNeg else -(h.2.2.2 r0_steps_slips x4.toNatClampNeg))), (0, .ref r0)]) rfl ?_
        refine G_goto (tgt := 33) dX11_worst_86 (by decide) ?_
        exact G_sub [4, 1, 2, 0] rfl w
-- LostDigits.needs
theorem dX11_needs_0 : decode cX11_needs 0 = .ok (.lload_n 1, 1) := by decide +kernel
theorem dX11_needs_1 : decode cX11_needs 1 = .ok (.lconst 0, 1) := by decide +kernel
theorem dX11_needs_2 : decode cX11_needs 2 = .ok (.lcmp, 1) := by decide +kernel
theorem dX11_needs_3 : decode cX11_needs 3 = .ok (.ifCond .ge 6, 3) := by decide +kernel
theorem dX11_needs_6 : decode cX11_needs 6 = .ok (.bipush (-2), 2) := by decide +kernel
theorem dX11_needs_8 : decode cX11_needs 8 = .ok (.ireturn, 1) := by decide +kernel
theorem dX11_needs_9 : decode cX11_needs 9 = .ok (.iconst 1, 1) := by decide +kernel
theorem dX11_needs_10 : decode cX11_needs 10 = .ok (.istore_n 3, 1) := by decide +kernel
theorem dX11_needs_11 : decode cX11_needs 11 = .ok (.iload_n 3, 1) := by decide +kernel
theorem dX11_needs_12 : decode cX11_needs 12 = .ok (.iconst 4, 1) := by decide +kernel
theorem dX11_needs_13 : decode cX11_needs 13 = .ok (.if_icmp .gt 71, 3) := by decide +kernel
theorem dX11_needs_16 : decode cX11_needs 16 = .ok (.aload_n 0, 1) := by decide +kernel
theorem dX11_needs_17 : decode cX11_needs 17 = .ok (.getfield 47, 3) := by decide +kernel
theorem dX11_needs_20 : decode cX11_needs 20 = .ok (.getfield 177, 3) := by decide +kernel
theorem dX11_needs_23 : decode cX11_needs 23 = .ok (.iload_n 3, 1) := by decide +kernel
theorem dX11_needs_24 : decode cX11_needs 24 = .ok (.aload_n 0, 1) := by decide +kernel
theorem dX11_needs_25 : decode cX11_needs 25 = .ok (.getfield 12, 3) := by decide +kernel
theorem dX11_needs_28 : decode cX11_needs 28 = .ok (.getfield 85, 3) := by decide +kernel
theorem dX11_needs_31 : decode cX11_needs 31 = .ok (.invokevirtual 96, 3) := by decide +kernel
theorem dX11_needs_34 : decode cX11_needs 34 = .ok (.aload_n 0, 1) := by decide +kernel
theorem dX11_needs_35 : decode cX11_needs 35 = .ok (.getfield 47, 3) := by decide +kernel
theorem dX11_needs_38 : decode cX11_needs 38 = .ok (.aload_n 0, 1) := by decide +kernel
theorem dX11_needs_39 : decode cX11_needs 39 = .ok (.getfield 12, 3) := by decide +kernel
theorem dX11_needs_42 : decode cX11_needs 42 = .ok (.getfield 118, 3) := by decide +kernel
theorem dX11_needs_45 : decode cX11_needs 45 = .ok (.aload_n 0, 1) := by decide +kernel
theorem dX11_needs_46 : decode cX11_needs 46 = .ok (.getfield 12, 3) := by decide +kernel
theorem dX11_needs_49 : decode cX11_needs 49 = .ok (.getfield 138, 3) := by decide +kernel
theorem dX11_needs_52 : decode cX11_needs 52 = .ok (.invokevirtual 178, 3) := by decide +kernel
theorem dX11_needs_55 : decode cX11_needs 55 = .ok (.lstore 4, 2) := by decide +kernel
theorem dX11_needs_57 : decode cX11_needs 57 = .ok (.lload 4, 2) := by decide +kernel
theorem dX11_needs_59 : decode cX11_needs 59 = .ok (.ldc2_w 182, 3) := by decide +kernel
theorem dX11_needs_62 : decode cX11_needs 62 = .ok (.lcmp, 1) := by decide +kernel
theorem dX11_needs_63 : decode cX11_needs 63 = .ok (.ifCond .eq 15, 3) := by decide +kernel
theorem dX11_needs_66 : decode cX11_needs 66 = .ok (.lload 4, 2) := by decide +kernel
theorem dX11_needs_68 : decode cX11_needs 68 = .ok (.invokestatic 184, 3) := by decide +kernel
theorem dX11_needs_71 : decode cX11_needs 71 = .ok (.lload_n 1, 1) := by decide +kernel
theorem dX11_needs_72 : decode cX11_needs 72 = .ok (.lcmp, 1) := by decide +kernel
theorem dX11_needs_73 : decode cX11_needs 73 = .ok (.ifCond .gt 5, 3) := by decide +kernel
theorem dX11_needs_76 : decode cX11_needs 76 = .ok (.iload_n 3, 1) := by decide +kernel
theorem dX11_needs_77 : decode cX11_needs 77 = .ok (.ireturn, 1) := by decide +kernel
theorem dX11_needs_78 : decode cX11_needs 78 = .ok (.iinc 3 1, 3) := by decide +kernel
theorem dX11_needs_81 : decode cX11_needs 81 = .ok (.goto (-70), 3) := by decide +kernel
theorem dX11_needs_84 : decode cX11_needs 84 = .ok (.bipush (-6), 2) := by decide +kernel
theorem dX11_needs_86 : decode cX11_needs 86 = .ok (.ireturn, 1) := by decide +kernel
set_option maxRecDepth 10000 in
theorem NX11_needs_0 {d : Nat} {S : fW} {h : fH} {Q : Int32 → fH → Prop} {r0 : Nat} {x1 : Int64}  
    (w : (((0 : Int64) ≤ x1 → G mX11_needs (d + 1) S (f_PI Q) 11 [(0, .ref r0), (1, .long x1), (3, .int (1 : Int32))] [] h) ∧ (¬ (0 : Int64) ≤ x1 → Q (-2 : Int32) h))) :
    OkI (d + 1) mX11_needs S [.ref r0, .long x1] h Q := by
  refine Ok.of (by decide) (Nat.le_of_ble_eq_true rfl) ?_
  refine G_lload_n 1 rfl dX11_needs_0 rfl ?_
  refine G_lconst (v := 0) dX11_needs_1 (by decide) ?_
  refine G_lif_ge (tgt := 9) dX11_needs_2 dX11_needs_3 (by decide) (fun c1 => ?_) (fun c1 => ?_)
  · have w := w.1 c1
    refine G_iconst (v := 1) dX11_needs_9 (by decide) ?_
    refine G_istore_n dX11_needs_10 rfl (by decide) (lv' := [(3, .int (1 : Int32)), (0, .ref r0), (1, .long x1)]) rfl ?_
    exact G_sub [1, 2, 0] rfl w
  · have w := w.2 c1
    refine G_bipush (v := -2) dX11_needs_6 (by decide) ?_
    exact G_iret rfl dX11_needs_8 ⟨_, rfl, w⟩

set_option maxRecDepth 10000 in
theorem NX11_needs_11 {d : Nat} {S : fW} {h : fH} {Q : Int32 → fH → Prop} {r0 : Nat} {x1 : Int64} {x3 : Int32} {r0_now r0_imageZero r0_imageOne r0_pad r0_ratio r0_rounding r0_steps r0_sums r0_allOrders r0_spans r0_search r0_steps_values r0_steps_slips r0_steps_fractions r0_steps_rounding r0_steps_ratio r0_now_text r0_now_numbers r0_now_spans r0_now_terms : Nat}  
    (hs1 : (r0, shX11 r0_now r0_imageZero r0_imageOne r0_pad r0_ratio r0_rounding r0_steps r0_sums r0_allOrders r0_spans r0_search) ∈ S)
    (hs2 : (r0_steps, shX8 r0_steps_values r0_steps_slips r0_steps_fractions r0_steps_rounding r0_steps_ratio) ∈ S)
    (hs3 : (r0_now, shX2 r0_now_text r0_now_numbers r0_now_spans r0_now_terms) ∈ S)
    (hs4 : (r0_steps_rounding, shX4) ∈ S)
    (w : (((4 : Int32) < x3 → Q (-6 : Int32) h) ∧ (¬ (4 : Int32) < x3 → ∃ Q1 : fH → Prop, OkV d mX4_turn S [.ref r0_steps_rounding, .int x3, .int (h.1 r0_now 6)] h Q1 ∧ ∀ (h_1 : fH), Q1 h_1 → ∃ Q2 : Int64 → fH → Prop, OkL d mX8_lossOf S [.ref r0_steps, .ref r0_now_text, .ref r0_now_numbers] h_1 Q2 ∧ ∀ (v_2 : Int64) (h_2 : fH), Q2 v_2 h_2 → ((v_2 = (1000000000000000000 : Int64) → G mX11_needs (d + 1) S (f_PI Q) 11 [(0, .ref r0), (1, .long x1), (3, .int (x3 + 1))] [] h_2) ∧ (¬ v_2 = (1000000000000000000 : Int64) → ((x1 < (if 0 < v_2 then v_2 else -v_2) → G mX11_needs (d + 1) S (f_PI Q) 11 [(0, .ref r0), (1, .long x1), (3, .int (x3 + 1))] [] h_2) ∧ (¬ x1 < (if 0 < v_2 then v_2 else -v_2) → Q x3 h_2))))))) :
    G mX11_needs (d + 1) S (f_PI Q) 11 [(0, .ref r0), (1, .long x1), (3, .int x3)] [] h := by
  refine G_iload_n 2 rfl dX11_needs_11 rfl ?_
  refine G_iconst (v := 4) dX11_needs_12 (by decide) ?_
  refine G_icmp_gt (tgt := 84) dX11_needs_13 (by decide) (fun c1 => ?_) (fun c1 => ?_)
  · have w := w.1 c1
    refine G_bipush (v := -6) dX11_needs_84 (by decide) ?_
    exact G_iret rfl dX11_needs_86 ⟨_, rfl, w⟩
  · have w := w.2 c1
    refine G_aload_n 0 rfl dX11_needs_16 rfl ?_
    refine G_getr (j := r0_steps) (k := 7) hs1 (q := (RX11, TX11, 12)) rfl inX11 (by decide) rfl hF_X11_47 dX11_needs_17 ?_
    refine G_getr (j := r0_steps_rounding) (k := 3) hs2 (q := (RX8, TX8, 5)) rfl inX8 (by decide) rfl hF_X11_177 dX11_needs_20 ?_
    refine G_iload_n 2 rfl dX11_needs_23 rfl ?_
    refine G_aload_n 0 rfl dX11_needs_24 rfl ?_
    refine G_getr (j := r0_now) (k := 0) hs1 (q := (RX11, TX11, 12)) rfl inX11 (by decide) rfl hF_X11_12 dX11_needs_25 ?_
    refine G_geti (k := 6) hs3 (q := (RX2, TX2, 8)) rfl inX2 (by decide) (Or.inl rfl) hF_X11_85 dX11_needs_28 ?_
    obtain ⟨Q1, ok1, w⟩ := w
    refine G_callV (Z := mX4_turn) (As := [.int x3, .int (h.1 r0_now 6)]) (st := []) hL_X11_96 hI_X4_turn hS_X4_turn hC_X4_turn hN_X4 nX4_turn (by decide) hs4 rfl rfl rfl (Nat.le_of_ble_eq_true rfl) dX11_needs_31 ok1 (fun r_ h_1 z_ => ?_)
    obtain ⟨rfl, q_1⟩ := z_
    have w := w h_1 q_1
    refine G_aload_n 0 rfl dX11_needs_34 rfl ?_
    refine G_getr (j := r0_steps) (k := 7) hs1 (q := (RX11, TX11, 12)) rfl inX11 (by decide) rfl hF_X11_47 dX11_needs_35 ?_
    refine G_aload_n 0 rfl dX11_needs_38 rfl ?_
    refine G_getr (j := r0_now) (k := 0) hs1 (q := (RX11, TX11, 12)) rfl inX11 (by decide) rfl hF_X11_12 dX11_needs_39 ?_
    refine G_getr (j := r0_now_text) (k := 0) hs3 (q := (RX2, TX2, 8)) rfl inX2 (by decide) rfl hF_X11_118 dX11_needs_42 ?_
    refine G_aload_n 0 rfl dX11_needs_45 rfl ?_
    refine G_getr (j := r0_now) (k := 0) hs1 (q := (RX11, TX11, 12)) rfl inX11 (by decide) rfl hF_X11_12 dX11_needs_46 ?_
    refine G_getr (j := r0_now_numbers) (k := 1) hs3 (q := (RX2, TX2, 8)) rfl inX2 (by decide) rfl hF_X11_138 dX11_needs_49 ?_
    obtain ⟨Q2, ok2, w⟩ := w
    refine G_callV (Z := mX8_lossOf) (As := [.ref r0_now_text, .ref r0_now_numbers]) (st := []) hL_X11_178 hI_X8_lossOf hS_X8_lossOf hC_X8_lossOf hN_X8 nX8_lossOf (by decide) hs2 rfl rfl rfl (Nat.le_of_ble_eq_true rfl) dX11_needs_52 ok2 (fun r_ h_2 z_ => ?_)
    obtain ⟨v_2, rfl, q_2⟩ := z_
    have w := w v_2 h_2 q_2
    refine G_lstore dX11_needs_55 (by decide) (lv' := [(4, .long v_2), (0, .ref r0), (1, .long x1), (3, .int x3)]) rfl ?_
    refine G_lload 0 rfl dX11_needs_57 ?_
    refine G_ldc2 hK_X11_182 dX11_needs_59 ?_
    refine G_lif_eq (tgt := 78) dX11_needs_62 dX11_needs_63 (by decide) (fun c2 => ?_) (fun c2 => ?_)
    · have w := w.1 c2
      refine G_iinc (v := 1) 3 rfl dX11_needs_78 (by decide) (by decide) (lv' := [(3, .int (x3 + 1)), (4, .long v_2), (0, .ref r0), (1, .long x1)]) rfl ?_
      refine G_goto (tgt := 11) dX11_needs_81 (by decide) ?_
      exact G_sub [2, 3, 0] rfl w
    · have w := w.2 c2
      refine G_lload 0 rfl dX11_needs_66 ?_
      refine G_mabs hL_X11_184 (Nat.le_of_ble_eq_true rfl) dX11_needs_68 ?_
      refine G_lload_n 2 rfl dX11_needs_71 rfl ?_
      refine G_lif_gt (tgt := 78) dX11_needs_72 dX11_needs_73 (by decide) (fun c3 => ?_) (fun c3 => ?_)
      · have w := w.1 c3
        refine G_iinc (v := 1) 3 rfl dX11_needs_78 (by decide) (by decide) (lv' := [(3, .int (x3 + 1)), (4, .long v_2), (0, .ref r0), (1, .long x1)]) rfl ?_
        refine G_goto (tgt := 11) dX11_needs_81 (by decide) ?_
        exact G_sub [2, 3, 0] rfl w
      · have w := w.2 c3
        refine G_iload_n 3 rfl dX11_needs_76 rfl ?_
        exact G_iret rfl dX11_needs_77 ⟨_, rfl, w⟩
-- LostDigits.term
theorem dX11_term_0 : decode cX11_term 0 = .ok (.lload_n 1, 1) := by decide +kernel
theorem dX11_term_1 : decode cX11_term 1 = .ok (.ldc2_w 190, 3) := by decide +kernel
theorem dX11_term_4 : decode cX11_term 4 = .ok (.lcmp, 1) := by decide +kernel
theorem dX11_term_5 : decode cX11_term 5 = .ok (.ifCond .le 11, 3) := by decide +kernel
theorem dX11_term_8 : decode cX11_term 8 = .ok (.lload_n 1, 1) := by decide +kernel
theorem dX11_term_9 : decode cX11_term 9 = .ok (.ldc2_w 192, 3) := by decide +kernel
theorem dX11_term_12 : decode cX11_term 12 = .ok (.lcmp, 1) := by decide +kernel
theorem dX11_term_13 : decode cX11_term 13 = .ok (.ifCond .lt 6, 3) := by decide +kernel
theorem dX11_term_16 : decode cX11_term 16 = .ok (.bipush (-2), 2) := by decide +kernel
theorem dX11_term_18 : decode cX11_term 18 = .ok (.ireturn, 1) := by decide +kernel
theorem dX11_term_19 : decode cX11_term 19 = .ok (.aload_n 0, 1) := by decide +kernel
theorem dX11_term_20 : decode cX11_term 20 = .ok (.getfield 33, 3) := by decide +kernel
theorem dX11_term_23 : decode cX11_term 23 = .ok (.lload_n 1, 1) := by decide +kernel
theorem dX11_term_24 : decode cX11_term 24 = .ok (.lconst 1, 1) := by decide +kernel
theorem dX11_term_25 : decode cX11_term 25 = .ok (.iconst 0, 1) := by decide +kernel
theorem dX11_term_26 : decode cX11_term 26 = .ok (.invokevirtual 92, 3) := by decide +kernel
theorem dX11_term_29 : decode cX11_term 29 = .ok (.aload_n 0, 1) := by decide +kernel
theorem dX11_term_30 : decode cX11_term 30 = .ok (.getfield 40, 3) := by decide +kernel
theorem dX11_term_33 : decode cX11_term 33 = .ok (.aload_n 0, 1) := by decide +kernel
theorem dX11_term_34 : decode cX11_term 34 = .ok (.getfield 12, 3) := by decide +kernel
theorem dX11_term_37 : decode cX11_term 37 = .ok (.getfield 79, 3) := by decide +kernel
theorem dX11_term_40 : decode cX11_term 40 = .ok (.aload_n 0, 1) := by decide +kernel
theorem dX11_term_41 : decode cX11_term 41 = .ok (.getfield 12, 3) := by decide +kernel
theorem dX11_term_44 : decode cX11_term 44 = .ok (.getfield 85, 3) := by decide +kernel
theorem dX11_term_47 : decode cX11_term 47 = .ok (.invokevirtual 96, 3) := by decide +kernel
theorem dX11_term_50 : decode cX11_term 50 = .ok (.aload_n 0, 1) := by decide +kernel
theorem dX11_term_51 : decode cX11_term 51 = .ok (.getfield 40, 3) := by decide +kernel
theorem dX11_term_54 : decode cX11_term 54 = .ok (.aload_n 0, 1) := by decide +kernel
theorem dX11_term_55 : decode cX11_term 55 = .ok (.getfield 33, 3) := by decide +kernel
theorem dX11_term_58 : decode cX11_term 58 = .ok (.invokevirtual 100, 3) := by decide +kernel
theorem dX11_term_61 : decode cX11_term 61 = .ok (.lstore_n 3, 1) := by decide +kernel
theorem dX11_term_62 : decode cX11_term 62 = .ok (.lload_n 3, 1) := by decide +kernel
theorem dX11_term_63 : decode cX11_term 63 = .ok (.ldc2_w 182, 3) := by decide +kernel
theorem dX11_term_66 : decode cX11_term 66 = .ok (.lcmp, 1) := by decide +kernel
theorem dX11_term_67 : decode cX11_term 67 = .ok (.ifCond .ne 6, 3) := by decide +kernel
theorem dX11_term_70 : decode cX11_term 70 = .ok (.bipush (-2), 2) := by decide +kernel
theorem dX11_term_72 : decode cX11_term 72 = .ok (.ireturn, 1) := by decide +kernel
theorem dX11_term_73 : decode cX11_term 73 = .ok (.aload_n 0, 1) := by decide +kernel
theorem dX11_term_74 : decode cX11_term 74 = .ok (.getfield 12, 3) := by decide +kernel
theorem dX11_term_77 : decode cX11_term 77 = .ok (.getfield 194, 3) := by decide +kernel
theorem dX11_term_80 : decode cX11_term 80 = .ok (.bipush 7, 2) := by decide +kernel
theorem dX11_term_82 : decode cX11_term 82 = .ok (.if_icmp .lt 6, 3) := by decide +kernel
theorem dX11_term_85 : decode cX11_term 85 = .ok (.bipush (-4), 2) := by decide +kernel
theorem dX11_term_87 : decode cX11_term 87 = .ok (.ireturn, 1) := by decide +kernel
theorem dX11_term_88 : decode cX11_term 88 = .ok (.aload_n 0, 1) := by decide +kernel
theorem dX11_term_89 : decode cX11_term 89 = .ok (.getfield 12, 3) := by decide +kernel
theorem dX11_term_92 : decode cX11_term 92 = .ok (.getfield 197, 3) := by decide +kernel
theorem dX11_term_95 : decode cX11_term 95 = .ok (.aload_n 0, 1) := by decide +kernel
theorem dX11_term_96 : decode cX11_term 96 = .ok (.getfield 12, 3) := by decide +kernel
theorem dX11_term_99 : decode cX11_term 99 = .ok (.getfield 194, 3) := by decide +kernel
theorem dX11_term_102 : decode cX11_term 102 = .ok (.lload_n 3, 1) := by decide +kernel
theorem dX11_term_103 : decode cX11_term 103 = .ok (.lastore, 1) := by decide +kernel
theorem dX11_term_104 : decode cX11_term 104 = .ok (.aload_n 0, 1) := by decide +kernel
theorem dX11_term_105 : decode cX11_term 105 = .ok (.getfield 12, 3) := by decide +kernel
theorem dX11_term_108 : decode cX11_term 108 = .ok (.dup, 1) := by decide +kernel
theorem dX11_term_109 : decode cX11_term 109 = .ok (.getfield 194, 3) := by decide +kernel
theorem dX11_term_112 : decode cX11_term 112 = .ok (.iconst 1, 1) := by decide +kernel
theorem dX11_term_113 : decode cX11_term 113 = .ok (.iadd, 1) := by decide +kernel
theorem dX11_term_114 : decode cX11_term 114 = .ok (.putfield 194, 3) := by decide +kernel
theorem dX11_term_117 : decode cX11_term 117 = .ok (.aload_n 0, 1) := by decide +kernel
theorem dX11_term_118 : decode cX11_term 118 = .ok (.invokevirtual 82, 3) := by decide +kernel
theorem dX11_term_121 : decode cX11_term 121 = .ok (.aload_n 0, 1) := by decide +kernel
theorem dX11_term_122 : decode cX11_term 122 = .ok (.getfield 12, 3) := by decide +kernel
theorem dX11_term_125 : decode cX11_term 125 = .ok (.getfield 194, 3) := by decide +kernel
theorem dX11_term_128 : decode cX11_term 128 = .ok (.ireturn, 1) := by decide +kernel
set_option maxRecDepth 10000 in
theorem NX11_term_0 {d : Nat} {S : fW} {h : fH} {Q : Int32 → fH → Prop} {r0 : Nat} {x1 : Int64} {r0_now r0_imageZero r0_imageOne r0_pad r0_ratio r0_rounding r0_steps r0_sums r0_allOrders r0_spans r0_search r0_now_text r0_now_numbers r0_now_spans r0_now_terms : Nat}  
    (hs1 : (r0, shX11 r0_now r0_imageZero r0_imageOne r0_pad r0_ratio r0_rounding r0_steps r0_sums r0_allOrders r0_spans r0_search) ∈ S)
    (hs2 : (r0_ratio, shX3) ∈ S)
    (hs3 : (r0_now, shX2 r0_now_text r0_now_numbers r0_now_spans r0_now_terms) ∈ S)
    (hs4 : (r0_rounding, shX4) ∈ S)
    (hs5 : (r0_now_terms, shJ 7) ∈ S)
    (w : ((x1 ≤ (-10000000000000000 : Int64) → Q (-2 : Int32) h) ∧ (¬ x1 ≤ (-10000000000000000 : Int64) → ((x1 < (10000000000000000 : Int64) → ∃ Q1 : fH → Prop, OkV d mX3_hold S [.ref r0_ratio, .long x1, .long (1 : Int64), .int (0 : Int32)] h Q1 ∧ ∀ (h_1 : fH), Q1 h_1 → ∃ Q2 : fH → Prop, OkV d mX4_turn S [.ref r0_rounding, .int (h_1.1 r0_now 5), .int (h_1.1 r0_now 6)] h_1 Q2 ∧ ∀ (h_2 : fH), Q2 h_2 → ∃ Q3 : Int64 → fH → Prop, OkL d mX4_of S [.ref r0_rounding, .ref r0_ratio] h_2 Q3 ∧ ∀ (v_3 : Int64) (h_3 : fH), Q3 v_3 h_3 → ((¬ v_3 = (1000000000000000000 : Int64) → (((h_3.1 r0_now 4) < (7 : Int32) → vp_in (h_3.1 r0_now 4) 7 ∧ ∀ g_1 : fH, g_1 = u_al h_3 r0_now_terms (vp_updL (h_3.2.2.2 r0_now_terms) (h_3.1 r0_now 4).toNatClampNeg v_3) → ∀ g_2 : fH, g_2 = u_fi g_1 r0_now 4 ((g_1.1 r0_now 4) + (1 : Int32)) → ∃ Q4 : fH → Prop, OkV d mX11_forgetFindings S [.ref r0] g_2 Q4 ∧ ∀ (h_4 : fH), Q4 h_4 → Q (h_4.1 r0_now 4) h_4) ∧ (¬ (h_3.1 r0_now 4) < (7 : Int32) → Q (-4 : Int32) h_3))) ∧ (v_3 = (1000000000000000000 : Int64) → Q (-2 : Int32) h_3))) ∧ (¬ x1 < (10000000000000000 : Int64) → Q (-2 : Int32) h))))) :
    OkI (d + 1) mX11_term S [.ref r0, .long x1] h Q := by
  refine Ok.of (by decide) (Nat.le_of_ble_eq_true rfl) ?_
  refine G_lload_n 1 rfl dX11_term_0 rfl ?_
  refine G_ldc2 hK_X11_190 dX11_term_1 ?_
  refine G_lif_le (tgt := 16) dX11_term_4 dX11_term_5 (by decide) (fun c1 => ?_) (fun c1 => ?_)
  · have w := w.1 c1
    refine G_bipush (v := -2) dX11_term_16 (by decide) ?_
    exact G_iret rfl dX11_term_18 ⟨_, rfl, w⟩
  · have w := w.2 c1
    refine G_lload_n 1 rfl dX11_term_8 rfl ?_
    refine G_ldc2 hK_X11_192 dX11_term_9 ?_
    refine G_lif_lt (tgt := 19) dX11_term_12 dX11_term_13 (by decide) (fun c2 => ?_) (fun c2 => ?_)
    · have w := w.1 c2
      refine G_aload_n 0 rfl dX11_term_19 rfl ?_
      refine G_getr (j := r0_ratio) (k := 5) hs1 (q := (RX11, TX11, 12)) rfl inX11 (by decide) rfl hF_X11_33 dX11_term_20 ?_
      refine G_lload_n 1 rfl dX11_term_23 rfl ?_
      refine G_lconst (v := 1) dX11_term_24 (by decide) ?_
      refine G_iconst (v := 0) dX11_term_25 (by decide) ?_
      obtain ⟨Q1, ok1, w⟩ := w
      refine G_callV (Z := mX3_hold) (As := [.long x1, .long (1 : Int64), .int (0 : Int32)]) (st := []) hL_X11_92 hI_X3_hold hS_X3_hold hC_X3_hold hN_X3 nX3_hold (by decide) hs2 rfl rfl rfl (Nat.le_of_ble_eq_true rfl) dX11_term_26 ok1 (fun r_ h_1 z_ => ?_)
      obtain ⟨rfl, q_1⟩ := z_
      have w := w h_1 q_1
      refine G_aload_n 0 rfl dX11_term_29 rfl ?_
      refine G_getr (j := r0_rounding) (k := 6) hs1 (q := (RX11, TX11, 12)) rfl inX11 (by decide) rfl hF_X11_40 dX11_term_30 ?_
      refine G_aload_n 0 rfl dX11_term_33 rfl ?_
      refine G_getr (j := r0_now) (k := 0) hs1 (q := (RX11, TX11, 12)) rfl inX11 (by decide) rfl hF_X11_12 dX11_term_34 ?_
      refine G_geti (k := 5) hs3 (q := (RX2, TX2, 8)) rfl inX2 (by decide) (Or.inl rfl) hF_X11_79 dX11_term_37 ?_
      refine G_aload_n 0 rfl dX11_term_40 rfl ?_
      refine G_getr (j := r0_now) (k := 0) hs1 (q := (RX11, TX11, 12)) rfl inX11 (by decide) rfl hF_X11_12 dX11_term_41 ?_
      refine G_geti (k := 6) hs3 (q := (RX2, TX2, 8)) rfl inX2 (by decide) (Or.inl rfl) hF_X11_85 dX11_term_44 ?_
      obtain ⟨Q2, ok2, w⟩ := w
      refine G_callV (Z := mX4_turn) (As := [.int (h_1.1 r0_now 5), .int (h_1.1 r0_now 6)]) (st := []) hL_X11_96 hI_X4_turn hS_X4_turn hC_X4_turn hN_X4 nX4_turn (by decide) hs4 rfl rfl rfl (Nat.le_of_ble_eq_true rfl) dX11_term_47 ok2 (fun r_ h_2 z_ => ?_)
      obtain ⟨rfl, q_2⟩ := z_
      have w := w h_2 q_2
      refine G_aload_n 0 rfl dX11_term_50 rfl ?_
      refine G_getr (j := r0_rounding) (k := 6) hs1 (q := (RX11, TX11, 12)) rfl inX11 (by decide) rfl hF_X11_40 dX11_term_51 ?_
      refine G_aload_n 0 rfl dX11_term_54 rfl ?_
      refine G_getr (j := r0_ratio) (k := 5) hs1 (q := (RX11, TX11, 12)) rfl inX11 (by decide) rfl hF_X11_33 dX11_term_55 ?_
      obtain ⟨Q3, ok3, w⟩ := w
      refine G_callV (Z := mX4_of) (As := [.ref r0_ratio]) (st := []) hL_X11_100 hI_X4_of hS_X4_of hC_X4_of hN_X4 nX4_of (by decide) hs4 rfl rfl rfl (Nat.le_of_ble_eq_true rfl) dX11_term_58 ok3 (fun r_ h_3 z_ => ?_)
      obtain ⟨v_3, rfl, q_3⟩ := z_
      have w := w v_3 h_3 q_3
      refine G_lstore_n dX11_term_61 rfl (by decide) (lv' := [(3, .long v_3), (0, .ref r0), (1, .long x1)]) rfl ?_
      refine G_lload_n 0 rfl dX11_term_62 rfl ?_
      refine G_ldc2 hK_X11_182 dX11_term_63 ?_
      refine G_lif_ne (tgt := 73) dX11_term_66 dX11_term_67 (by decide) (fun c3 => ?_) (fun c3 => ?_)
      · have w := w.1 c3
        refine G_aload_n 1 rfl dX11_term_73 rfl ?_
        refine G_getr (j := r0_now) (k := 0) hs1 (q := (RX11, TX11, 12)) rfl inX11 (by decide) rfl hF_X11_12 dX11_term_74 ?_
        refine G_geti (k := 4) hs3 (q := (RX2, TX2, 8)) rfl inX2 (by decide) (Or.inl rfl) hF_X11_194 dX11_term_77 ?_
        refine G_bipush (v := 7) dX11_term_80 (by decide) ?_
        refine G_icmp_lt (tgt := 88) dX11_term_82 (by decide) (fun c4 => ?_) (fun c4 => ?_)
        · have w := w.1 c4
          refine G_aload_n 1 rfl dX11_term_88 rfl ?_
          refine G_getr (j := r0_now) (k := 0) hs1 (q := (RX11, TX11, 12)) rfl inX11 (by decide) rfl hF_X11_12 dX11_term_89 ?_
          refine G_getr (j := r0_now_terms) (k := 3) hs3 (q := (RX2, TX2, 8)) rfl inX2 (by decide) rfl hF_X11_197 dX11_term_92 ?_
          refine G_aload_n 1 rfl dX11_term_95 rfl ?_
          refine G_getr (j := r0_now) (k := 0) hs1 (q := (RX11, TX11, 12)) rfl inX11 (by decide) rfl hF_X11_12 dX11_term_96 ?_
          refine G_geti (k := 4) hs3 (q := (RX2, TX2, 8)) rfl inX2 (by decide) (Or.inl rfl) hF_X11_194 dX11_term_99 ?_
          refine G_lload_n 0 rfl dX11_term_102 rfl ?_
          obtain ⟨sd1, w⟩ := w
          refine G_last hs5 sd1 dX11_term_103 ?_
          refine G_nm (fun g_1 e_1 => ?_)
          have w := w g_1 e_1
          refine G_aload_n 1 rfl dX11_term_104 rfl ?_
          refine G_getr (j := r0_now) (k := 0) hs1 (q := (RX11, TX11, 12)) rfl inX11 (by decide) rfl hF_X11_12 dX11_term_105 ?_
          refine G_dup dX11_term_108 rfl ?_
          refine G_geti (k := 4) hs3 (q := (RX2, TX2, 8)) rfl inX2 (by decide) (Or.inl rfl) hF_X11_194 dX11_term_109 ?_
          refine G_iconst (v := 1) dX11_term_112 (by decide) ?_
          refine G_iadd dX11_term_113 ?_
          refine G_puti (k := 4) tyX2 hs3 (q := (RX2, TX2, 8)) rfl inX2 tyX2_ok nmX2 (by decide) rfl rfl rfl hF_X11_194 dX11_term_114 ?_
          refine G_nm (fun g_2 e_2 => ?_)
          have w := w g_2 e_2
          refine G_aload_n 1 rfl dX11_term_117 rfl ?_
          obtain ⟨Q4, ok4, w⟩ := w
          refine G_callV (Z := mX11_forgetFindings) (As := []) (st := []) hL_X11_82 hI_X11_forgetFindings hS_X11_forgetFindings hC_X11_forgetFindings hN_X11 nX11_forgetFindings (by decide) hs1 rfl rfl rfl (Nat.le_of_ble_eq_true rfl) dX11_term_118 ok4 (fun r_ h_4 z_ => ?_)
          obtain ⟨rfl, q_4⟩ := z_
          have w := w h_4 q_4
          refine G_aload_n 1 rfl dX11_term_121 rfl ?_
          refine G_getr (j := r0_now) (k := 0) hs1 (q := (RX11, TX11, 12)) rfl inX11 (by decide) rfl hF_X11_12 dX11_term_122 ?_
          refine G_geti (k := 4) hs3 (q := (RX2, TX2, 8)) rfl inX2 (by decide) (Or.inl rfl) hF_X11_194 dX11_term_125 ?_
          exact G_iret rfl dX11_term_128 ⟨_, rfl, w⟩
        · have w := w.2 c4
          refine G_bipush (v := -4) dX11_term_85 (by decide) ?_
          exact G_iret rfl dX11_term_87 ⟨_, rfl, w⟩
      · have w := w.2 c3
        refine G_bipush (v := -2) dX11_term_70 (by decide) ?_
        exact G_iret rfl dX11_term_72 ⟨_, rfl, w⟩
    · have w := w.2 c2
      refine G_bipush (v := -2) dX11_term_16 (by decide) ?_
      exact G_iret rfl dX11_term_18 ⟨_, rfl, w⟩
-- LostDigits.clear
theorem dX11_clear_0 : decode cX11_clear 0 = .ok (.aload_n 0, 1) := by decide +kernel
theorem dX11_clear_1 : decode cX11_clear 1 = .ok (.getfield 12, 3) := by decide +kernel
theorem dX11_clear_4 : decode cX11_clear 4 = .ok (.getfield 194, 3) := by decide +kernel
theorem dX11_clear_7 : decode cX11_clear 7 = .ok (.istore_n 1, 1) := by decide +kernel
theorem dX11_clear_8 : decode cX11_clear 8 = .ok (.aload_n 0, 1) := by decide +kernel
theorem dX11_clear_9 : decode cX11_clear 9 = .ok (.getfield 12, 3) := by decide +kernel
theorem dX11_clear_12 : decode cX11_clear 12 = .ok (.iconst 0, 1) := by decide +kernel
theorem dX11_clear_13 : decode cX11_clear 13 = .ok (.putfield 194, 3) := by decide +kernel
theorem dX11_clear_16 : decode cX11_clear 16 = .ok (.aload_n 0, 1) := by decide +kernel
theorem dX11_clear_17 : decode cX11_clear 17 = .ok (.invokevirtual 82, 3) := by decide +kernel
theorem dX11_clear_20 : decode cX11_clear 20 = .ok (.iload_n 1, 1) := by decide +kernel
theorem dX11_clear_21 : decode cX11_clear 21 = .ok (.ireturn, 1) := by decide +kernel
set_option maxRecDepth 10000 in
theorem NX11_clear_0 {d : Nat} {S : fW} {h : fH} {Q : Int32 → fH → Prop} {r0 : Nat} {r0_now r0_imageZero r0_imageOne r0_pad r0_ratio r0_rounding r0_steps r0_sums r0_allOrders r0_spans r0_search r0_now_text r0_now_numbers r0_now_spans r0_now_terms : Nat}  
    (hs1 : (r0, shX11 r0_now r0_imageZero r0_imageOne r0_pad r0_ratio r0_rounding r0_steps r0_sums r0_allOrders r0_spans r0_search) ∈ S)
    (hs2 : (r0_now, shX2 r0_now_text r0_now_numbers r0_now_spans r0_now_terms) ∈ S)
    (w : ∀ g_1 : fH, g_1 = u_fi h r0_now 4 (0 : Int32) → ∃ Q1 : fH → Prop, OkV d mX11_forgetFindings S [.ref r0] g_1 Q1 ∧ ∀ (h_1 : fH), Q1 h_1 → Q (h.1 r0_now 4) h_1) :
    OkI (d + 1) mX11_clear S [.ref r0] h Q := by
  refine Ok.of (by decide) (Nat.le_of_ble_eq_true rfl) ?_
  refine G_aload_n 0 rfl dX11_clear_0 rfl ?_
  refine G_getr (j := r0_now) (k := 0) hs1 (q := (RX11, TX11, 12)) rfl inX11 (by decide) rfl hF_X11_12 dX11_clear_1 ?_
  refine G_geti (k := 4) hs2 (q := (RX2, TX2, 8)) rfl inX2 (by decide) (Or.inl rfl) hF_X11_194 dX11_clear_4 ?_
  refine G_istore_n dX11_clear_7 rfl (by decide) (lv' := [(1, .int (h.1 r0_now 4)), (0, .ref r0)]) rfl ?_
  refine G_aload_n 1 rfl dX11_clear_8 rfl ?_
  refine G_getr (j := r0_now) (k := 0) hs1 (q := (RX11, TX11, 12)) rfl inX11 (by decide) rfl hF_X11_12 dX11_clear_9 ?_
  refine G_iconst (v := 0) dX11_clear_12 (by decide) ?_
  refine G_puti (k := 4) tyX2 hs2 (q := (RX2, TX2, 8)) rfl inX2 tyX2_ok nmX2 (by decide) rfl rfl rfl hF_X11_194 dX11_clear_13 ?_
  refine G_nm (fun g_1 e_1 => ?_)
  have w := w g_1 e_1
  refine G_aload_n 1 rfl dX11_clear_16 rfl ?_
  obtain ⟨Q1, ok1, w⟩ := w
  refine G_callV (Z := mX11_forgetFindings) (As := []) (st := []) hL_X11_82 hI_X11_forgetFindings hS_X11_forgetFindings hC_X11_forgetFindings hN_X11 nX11_forgetFindings (by decide) hs1 rfl rfl rfl (Nat.le_of_ble_eq_true rfl) dX11_clear_17 ok1 (fun r_ h_1 z_ => ?_)
  obtain ⟨rfl, q_1⟩ := z_
  have w := w h_1 q_1
  refine G_iload_n 0 rfl dX11_clear_20 rfl ?_
  exact G_iret rfl dX11_clear_21 ⟨_, rfl, w⟩
-- LostDigits.about
theorem dX11_about_0 : decode cX11_about 0 = .ok (.iload_n 1, 1) := by decide +kernel
theorem dX11_about_1 : decode cX11_about 1 = .ok (.ifCond .lt 28, 3) := by decide +kernel
theorem dX11_about_4 : decode cX11_about 4 = .ok (.iload_n 1, 1) := by decide +kernel
theorem dX11_about_5 : decode cX11_about 5 = .ok (.aload_n 0, 1) := by decide +kernel
theorem dX11_about_6 : decode cX11_about 6 = .ok (.getfield 12, 3) := by decide +kernel
theorem dX11_about_9 : decode cX11_about 9 = .ok (.getfield 194, 3) := by decide +kernel
theorem dX11_about_12 : decode cX11_about 12 = .ok (.if_icmp .ge 17, 3) := by decide +kernel
theorem dX11_about_15 : decode cX11_about 15 = .ok (.aload_n 0, 1) := by decide +kernel
theorem dX11_about_16 : decode cX11_about 16 = .ok (.getfield 12, 3) := by decide +kernel
theorem dX11_about_19 : decode cX11_about 19 = .ok (.getfield 197, 3) := by decide +kernel
theorem dX11_about_22 : decode cX11_about 22 = .ok (.iload_n 1, 1) := by decide +kernel
theorem dX11_about_23 : decode cX11_about 23 = .ok (.invokestatic 166, 3) := by decide +kernel
theorem dX11_about_26 : decode cX11_about 26 = .ok (.goto 6, 3) := by decide +kernel
theorem dX11_about_29 : decode cX11_about 29 = .ok (.ldc2_w 143, 3) := by decide +kernel
theorem dX11_about_32 : decode cX11_about 32 = .ok (.lreturn, 1) := by decide +kernel
set_option maxRecDepth 10000 in
theorem NX11_about_0 {d : Nat} {S : fW} {h : fH} {Q : Int64 → fH → Prop} {r0 : Nat} {x1 : Int32} {r0_now r0_imageZero r0_imageOne r0_pad r0_ratio r0_rounding r0_steps r0_sums r0_allOrders r0_spans r0_search r0_now_text r0_now_numbers r0_now_spans r0_now_terms : Nat}  
    (hs1 : (r0, shX11 r0_now r0_imageZero r0_imageOne r0_pad r0_ratio r0_rounding r0_steps r0_sums r0_allOrders r0_spans r0_search) ∈ S)
    (hs2 : (r0_now, shX2 r0_now_text r0_now_numbers r0_now_spans r0_now_terms) ∈ S)
    (w : ((x1 < 0 → Q (-1000000000000000001 : Int64) h) ∧ (¬ x1 < 0 → (((h.1 r0_now 4) ≤ x1 → Q (-1000000000000000001 : Int64) h) ∧ (¬ (h.1 r0_now 4) ≤ x1 → ∃ Q1 : Int64 → fH → Prop, OkL d mX11_at S [.ref r0_now_terms, .int x1] h Q1 ∧ ∀ (v_1 : Int64) (h_1 : fH), Q1 v_1 h_1 → Q v_1 h_1))))) :
    OkL (d + 1) mX11_about S [.ref r0, .int x1] h Q := by
  refine Ok.of (by decide) (Nat.le_of_ble_eq_true rfl) ?_
  refine G_iload_n 1 rfl dX11_about_0 rfl ?_
  refine G_if_lt (tgt := 29) dX11_about_1 (by decide) (fun c1 => ?_) (fun c1 => ?_)
  · have w := w.1 c1
    refine G_ldc2 hK_X11_143 dX11_about_29 ?_
    exact G_lret rfl dX11_about_32 ⟨_, rfl, w⟩
  · have w := w.2 c1
    refine G_iload_n 1 rfl dX11_about_4 rfl ?_
    refine G_aload_n 0 rfl dX11_about_5 rfl ?_
    refine G_getr (j := r0_now) (k := 0) hs1 (q := (RX11, TX11, 12)) rfl inX11 (by decide) rfl hF_X11_12 dX11_about_6 ?_
    refine G_geti (k := 4) hs2 (q := (RX2, TX2, 8)) rfl inX2 (by decide) (Or.inl rfl) hF_X11_194 dX11_about_9 ?_
    refine G_icmp_ge (tgt := 29) dX11_about_12 (by decide) (fun c2 => ?_) (fun c2 => ?_)
    · have w := w.1 c2
      refine G_ldc2 hK_X11_143 dX11_about_29 ?_
      exact G_lret rfl dX11_about_32 ⟨_, rfl, w⟩
    · have w := w.2 c2
      refine G_aload_n 0 rfl dX11_about_15 rfl ?_
      refine G_getr (j := r0_now) (k := 0) hs1 (q := (RX11, TX11, 12)) rfl inX11 (by decide) rfl hF_X11_12 dX11_about_16 ?_
      refine G_getr (j := r0_now_terms) (k := 3) hs2 (q := (RX2, TX2, 8)) rfl inX2 (by decide) rfl hF_X11_197 dX11_about_19 ?_
      refine G_iload_n 1 rfl dX11_about_22 rfl ?_
      obtain ⟨Q1, ok1, w⟩ := w
      refine G_callS (Z := mX11_at) (As := [.ref r0_now_terms, .int x1]) (st := []) hL_X11_166 hT_X11_at hC_X11_at hN_X11 nX11_at (by decide) rfl (Nat.le_of_ble_eq_true rfl) dX11_about_23 ok1 (fun r_ h_1 z_ => ?_)
      obtain ⟨v_1, rfl, q_1⟩ := z_
      have w := w v_1 h_1 q_1
      refine G_goto (tgt := 32) dX11_about_26 (by decide) ?_
      exact G_lret rfl dX11_about_32 ⟨_, rfl, w⟩
-- LostDigits.sum
theorem dX11_sum_0 : decode cX11_sum 0 = .ok (.iload_n 1, 1) := by decide +kernel
theorem dX11_sum_1 : decode cX11_sum 1 = .ok (.ifCond .lt 8, 3) := by decide +kernel
theorem dX11_sum_4 : decode cX11_sum 4 = .ok (.iload_n 1, 1) := by decide +kernel
theorem dX11_sum_5 : decode cX11_sum 5 = .ok (.iconst 4, 1) := by decide +kernel
theorem dX11_sum_6 : decode cX11_sum 6 = .ok (.if_icmp .le 7, 3) := by decide +kernel
theorem dX11_sum_9 : decode cX11_sum 9 = .ok (.ldc2_w 90, 3) := by decide +kernel
theorem dX11_sum_12 : decode cX11_sum 12 = .ok (.lreturn, 1) := by decide +kernel
theorem dX11_sum_13 : decode cX11_sum 13 = .ok (.aload_n 0, 1) := by decide +kernel
theorem dX11_sum_14 : decode cX11_sum 14 = .ok (.getfield 12, 3) := by decide +kernel
theorem dX11_sum_17 : decode cX11_sum 17 = .ok (.getfield 194, 3) := by decide +kernel
theorem dX11_sum_20 : decode cX11_sum 20 = .ok (.ifCond .ne 7, 3) := by decide +kernel
theorem dX11_sum_23 : decode cX11_sum 23 = .ok (.ldc2_w 200, 3) := by decide +kernel
theorem dX11_sum_26 : decode cX11_sum 26 = .ok (.lreturn, 1) := by decide +kernel
theorem dX11_sum_27 : decode cX11_sum 27 = .ok (.aload_n 0, 1) := by decide +kernel
theorem dX11_sum_28 : decode cX11_sum 28 = .ok (.getfield 54, 3) := by decide +kernel
theorem dX11_sum_31 : decode cX11_sum 31 = .ok (.aload_n 0, 1) := by decide +kernel
theorem dX11_sum_32 : decode cX11_sum 32 = .ok (.getfield 12, 3) := by decide +kernel
theorem dX11_sum_35 : decode cX11_sum 35 = .ok (.invokevirtual 202, 3) := by decide +kernel
theorem dX11_sum_38 : decode cX11_sum 38 = .ok (.iload_n 1, 1) := by decide +kernel
theorem dX11_sum_39 : decode cX11_sum 39 = .ok (.tableswitch 61 0 3 #[29, 37, 45, 53], 29) := by decide +kernel
theorem dX11_sum_68 : decode cX11_sum 68 = .ok (.aload_n 0, 1) := by decide +kernel
theorem dX11_sum_69 : decode cX11_sum 69 = .ok (.getfield 54, 3) := by decide +kernel
theorem dX11_sum_72 : decode cX11_sum 72 = .ok (.invokevirtual 206, 3) := by decide +kernel
theorem dX11_sum_75 : decode cX11_sum 75 = .ok (.lreturn, 1) := by decide +kernel
theorem dX11_sum_76 : decode cX11_sum 76 = .ok (.aload_n 0, 1) := by decide +kernel
theorem dX11_sum_77 : decode cX11_sum 77 = .ok (.getfield 54, 3) := by decide +kernel
theorem dX11_sum_80 : decode cX11_sum 80 = .ok (.invokevirtual 210, 3) := by decide +kernel
theorem dX11_sum_83 : decode cX11_sum 83 = .ok (.lreturn, 1) := by decide +kernel
theorem dX11_sum_84 : decode cX11_sum 84 = .ok (.aload_n 0, 1) := by decide +kernel
theorem dX11_sum_85 : decode cX11_sum 85 = .ok (.getfield 54, 3) := by decide +kernel
theorem dX11_sum_88 : decode cX11_sum 88 = .ok (.invokevirtual 213, 3) := by decide +kernel
theorem dX11_sum_91 : decode cX11_sum 91 = .ok (.lreturn, 1) := by decide +kernel
theorem dX11_sum_92 : decode cX11_sum 92 = .ok (.aload_n 0, 1) := by decide +kernel
theorem dX11_sum_93 : decode cX11_sum 93 = .ok (.getfield 54, 3) := by decide +kernel
theorem dX11_sum_96 : decode cX11_sum 96 = .ok (.invokevirtual 216, 3) := by decide +kernel
theorem dX11_sum_99 : decode cX11_sum 99 = .ok (.lreturn, 1) := by decide +kernel
theorem dX11_sum_100 : decode cX11_sum 100 = .ok (.aload_n 0, 1) := by decide +kernel
theorem dX11_sum_101 : decode cX11_sum 101 = .ok (.getfield 54, 3) := by decide +kernel
theorem dX11_sum_104 : decode cX11_sum 104 = .ok (.invokevirtual 219, 3) := by decide +kernel
theorem dX11_sum_107 : decode cX11_sum 107 = .ok (.lreturn, 1) := by decide +kernel
set_option maxRecDepth 10000 in
theorem NX11_sum_0 {d : Nat} {S : fW} {h : fH} {Q : Int64 → fH → Prop} {r0 : Nat} {x1 : Int32} {r0_now r0_imageZero r0_imageOne r0_pad r0_ratio r0_rounding r0_steps r0_sums r0_allOrders r0_spans r0_search r0_now_text r0_now_numbers r0_now_spans r0_now_terms r0_sums_ratio r0_sums_rounding r0_sums_terms r0_sums_sizes : Nat}  
    (hs1 : (r0, shX11 r0_now r0_imageZero r0_imageOne r0_pad r0_ratio r0_rounding r0_steps r0_sums r0_allOrders r0_spans r0_search) ∈ S)
    (hs2 : (r0_now, shX2 r0_now_text r0_now_numbers r0_now_spans r0_now_terms) ∈ S)
    (hs3 : (r0_sums, shX9 r0_sums_ratio r0_sums_rounding r0_sums_terms r0_sums_sizes) ∈ S)
    (w : ((x1 < 0 → Q (-1000000000000000002 : Int64) h) ∧ (¬ x1 < 0 → ((x1 ≤ (4 : Int32) → ((¬ (h.1 r0_now 4) = 0 → ∃ Q1 : fH → Prop, OkV d mX9_take S [.ref r0_sums, .ref r0_now] h Q1 ∧ ∀ (h_1 : fH), Q1 h_1 → ((x1 = (0 : Int32) → ∃ Q2 : Int64 → fH → Prop, OkL d mX9_asTold S [.ref r0_sums] h_1 Q2 ∧ ∀ (v_2 : Int64) (h_2 : fH), Q2 v_2 h_2 → Q v_2 h_2) ∧ (¬ x1 = (0 : Int32) → ((x1 = (1 : Int32) → ∃ Q3 : Int64 → fH → Prop, OkL d mX9_beside S [.ref r0_sums] h_1 Q3 ∧ ∀ (v_3 : Int64) (h_3 : fH), Q3 v_3 h_3 → Q v_3 h_3) ∧ (¬ x1 = (1 : Int32) → ((x1 = (2 : Int32) → ∃ Q4 : Int64 → fH → Prop, OkL d mX9_halves S [.ref r0_sums] h_1 Q4 ∧ ∀ (v_4 : Int64) (h_4 : fH), Q4 v_4 h_4 → Q v_4 h_4) ∧ (¬ x1 = (2 : Int32) → ((x1 = (3 : Int32) → ∃ Q5 : Int64 → fH → Prop, OkL d mX9_bySize S [.ref r0_sums] h_1 Q5 ∧ ∀ (v_5 : Int64) (h_5 : fH), Q5 v_5 h_5 → Q v_5 h_5) ∧ (¬ x1 = (3 : Int32) → ∃ Q6 : Int64 → fH → Prop, OkL d mX9_whole S [.ref r0_sums] h_1 Q6 ∧ ∀ (v_6 : Int64) (h_6 : fH), Q6 v_6 h_6 → Q v_6 h_6))))))))) ∧ ((h.1 r0_now 4) = 0 → Q (-1000000000000000006 : Int64) h))) ∧ (¬ x1 ≤ (4 : Int32) → Q (-1000000000000000002 : Int64) h))))) :
    OkL (d + 1) mX11_sum S [.ref r0, .int x1] h Q := by
  refine Ok.of (by decide) (Nat.le_of_ble_eq_true rfl) ?_
  refine G_iload_n 1 rfl dX11_sum_0 rfl ?_
  refine G_if_lt (tgt := 9) dX11_sum_1 (by decide) (fun c1 => ?_) (fun c1 => ?_)
  · have w := w.1 c1
    refine G_ldc2 hK_X11_90 dX11_sum_9 ?_
    exact G_lret rfl dX11_sum_12 ⟨_, rfl, w⟩
  · have w := w.2 c1
    refine G_iload_n 1 rfl dX11_sum_4 rfl ?_
    refine G_iconst (v := 4) dX11_sum_5 (by decide) ?_
    refine G_icmp_le (tgt := 13) dX11_sum_6 (by decide) (fun c2 => ?_) (fun c2 => ?_)
    · have w := w.1 c2
      refine G_aload_n 0 rfl dX11_sum_13 rfl ?_
      refine G_getr (j := r0_now) (k := 0) hs1 (q := (RX11, TX11, 12)) rfl inX11 (by decide) rfl hF_X11_12 dX11_sum_14 ?_
      refine G_geti (k := 4) hs2 (q := (RX2, TX2, 8)) rfl inX2 (by decide) (Or.inl rfl) hF_X11_194 dX11_sum_17 ?_
      refine G_if_ne (tgt := 27) dX11_sum_20 (by decide) (fun c3 => ?_) (fun c3 => ?_)
      · have w := w.1 c3
        refine G_aload_n 0 rfl dX11_sum_27 rfl ?_
        refine G_getr (j := r0_sums) (k := 8) hs1 (q := (RX11, TX11, 12)) rfl inX11 (by decide) rfl hF_X11_54 dX11_sum_28 ?_
        refine G_aload_n 0 rfl dX11_sum_31 rfl ?_
        refine G_getr (j := r0_now) (k := 0) hs1 (q := (RX11, TX11, 12)) rfl inX11 (by decide) rfl hF_X11_12 dX11_sum_32 ?_
        obtain ⟨Q1, ok1, w⟩ := w
        refine G_callV (Z := mX9_take) (As := [.ref r0_now]) (st := []) hL_X11_202 hI_X9_take hS_X9_take hC_X9_take hN_X9 nX9_take (by decide) hs3 rfl rfl rfl (Nat.le_of_ble_eq_true rfl) dX11_sum_35 ok1 (fun r_ h_1 z_ => ?_)
        obtain ⟨rfl, q_1⟩ := z_
        have w := w h_1 q_1
        refine G_iload_n 1 rfl dX11_sum_38 rfl ?_
        refine Decidable.byCases (p := x1 = (0 : Int32)) (fun c4 => ?_) (fun c4 => ?_)
        · refine G_tabEq (off := 29) (tgt := 68) dX11_sum_39 c4 (by decide) (by decide) (by decide) (by decide) ?_
          have w := w.1 c4
          refine G_aload_n 0 rfl dX11_sum_68 rfl ?_
          refine G_getr (j := r0_sums) (k := 8) hs1 (q := (RX11, TX11, 12)) rfl inX11 (by decide) rfl hF_X11_54 dX11_sum_69 ?_
          obtain ⟨Q2, ok2, w⟩ := w
          refine G_callV (Z := mX9_asTold) (As := []) (st := []) hL_X11_206 hI_X9_asTold hS_X9_asTold hC_X9_asTold hN_X9 nX9_asTold (by decide) hs3 rfl rfl rfl (Nat.le_of_ble_eq_true rfl) dX11_sum_72 ok2 (fun r_ h_2 z_ => ?_)
          obtain ⟨v_2, rfl, q_2⟩ := z_
          have w := w v_2 h_2 q_2
          exact G_lret rfl dX11_sum_75 ⟨_, rfl, w⟩
        have w := w.2 c4
        refine Decidable.byCases (p := x1 = (1 : Int32)) (fun c5 => ?_) (fun c5 => ?_)
        · refine G_tabEq (off := 37) (tgt := 76) dX11_sum_39 c5 (by decide) (by decide) (by decide) (by decide) ?_
          have w := w.1 c5
          refine G_aload_n 0 rfl dX11_sum_76 rfl ?_
          refine G_getr (j := r0_sums) (k := 8) hs1 (q := (RX11, TX11, 12)) rfl inX11 (by decide) rfl hF_X11_54 dX11_sum_77 ?_
          obtain ⟨Q3, ok3, w⟩ := w
          refine G_callV (Z := mX9_beside) (As := []) (st := []) hL_X11_210 hI_X9_beside hS_X9_beside hC_X9_beside hN_X9 nX9_beside (by decide) hs3 rfl rfl rfl (Nat.le_of_ble_eq_true rfl) dX11_sum_80 ok3 (fun r_ h_3 z_ => ?_)
          obtain ⟨v_3, rfl, q_3⟩ := z_
          have w := w v_3 h_3 q_3
          exact G_lret rfl dX11_sum_83 ⟨_, rfl, w⟩
        have w := w.2 c5
        refine Decidable.byCases (p := x1 = (2 : Int32)) (fun c6 => ?_) (fun c6 => ?_)
        · refine G_tabEq (off := 45) (tgt := 84) dX11_sum_39 c6 (by decide) (by decide) (by decide) (by decide) ?_
          have w := w.1 c6
          refine G_aload_n 0 rfl dX11_sum_84 rfl ?_
          refine G_getr (j := r0_sums) (k := 8) hs1 (q := (RX11, TX11, 12)) rfl inX11 (by decide) rfl hF_X11_54 dX11_sum_85 ?_
          obtain ⟨Q4, ok4, w⟩ := w
          refine G_callV (Z := mX9_halves) (As := []) (st := []) hL_X11_213 hI_X9_halves hS_X9_halves hC_X9_halves hN_X9 nX9_halves (by decide) hs3 rfl rfl rfl (Nat.le_of_ble_eq_true rfl) dX11_sum_88 ok4 (fun r_ h_4 z_ => ?_)
          obtain ⟨v_4, rfl, q_4⟩ := z_
          have w := w v_4 h_4 q_4
          exact G_lret rfl dX11_sum_91 ⟨_, rfl, w⟩
        have w := w.2 c6
        refine Decidable.byCases (p := x1 = (3 : Int32)) (fun c7 => ?_) (fun c7 => ?_)
        · refine G_tabEq (off := 53) (tgt := 92) dX11_sum_39 c7 (by decide) (by decide) (by decide) (by decide) ?_
          have w := w.1 c7
          refine G_aload_n 0 rfl dX11_sum_92 rfl ?_
          refine G_getr (j := r0_sums) (k := 8) hs1 (q := (RX11, TX11, 12)) rfl inX11 (by decide) rfl hF_X11_54 dX11_sum_93 ?_
          obtain ⟨Q5, ok5, w⟩ := w
          refine G_callV (Z := mX9_bySize) (As := []) (st := []) hL_X11_216 hI_X9_bySize hS_X9_bySize hC_X9_bySize hN_X9 nX9_bySize (by decide) hs3 rfl rfl rfl (Nat.le_of_ble_eq_true rfl) dX11_sum_96 ok5 (fun r_ h_5 z_ => ?_)
          obtain ⟨v_5, rfl, q_5⟩ := z_
          have w := w v_5 h_5 q_5
          exact G_lret rfl dX11_sum_99 ⟨_, rfl, w⟩
        have w := w.2 c7
        refine G_tabOut (tgt := 100) dX11_sum_39 (f_tab4 c4 c5 c6 c7) (by decide) ?_
        refine G_aload_n 0 rfl dX11_sum_100 rfl ?_
        refine G_getr (j := r0_sums) (k := 8) hs1 (q := (RX11, TX11, 12)) rfl inX11 (by decide) rfl hF_X11_54 dX11_sum_101 ?_
        obtain ⟨Q6, ok6, w⟩ := w
        refine G_callV (Z := mX9_whole) (As := []) (st := []) hL_X11_219 hI_X9_whole hS_X9_whole hC_X9_whole hN_X9 nX9_whole (by decide) hs3 rfl rfl rfl (Nat.le_of_ble_eq_true rfl) dX11_sum_104 ok6 (fun r_ h_6 z_ => ?_)
        obtain ⟨v_6, rfl, q_6⟩ := z_
        have w := w v_6 h_6 q_6
        exact G_lret rfl dX11_sum_107 ⟨_, rfl, w⟩
      · have w := w.2 c3
        refine G_ldc2 hK_X11_200 dX11_sum_23 ?_
        exact G_lret rfl dX11_sum_26 ⟨_, rfl, w⟩
    · have w := w.2 c2
      refine G_ldc2 hK_X11_90 dX11_sum_9 ?_
      exact G_lret rfl dX11_sum_12 ⟨_, rfl, w⟩
-- LostDigits.orders
theorem dX11_orders_0 : decode cX11_orders 0 = .ok (.iload_n 1, 1) := by decide +kernel
theorem dX11_orders_1 : decode cX11_orders 1 = .ok (.ifCond .lt 8, 3) := by decide +kernel
theorem dX11_orders_4 : decode cX11_orders 4 = .ok (.iload_n 1, 1) := by decide +kernel
theorem dX11_orders_5 : decode cX11_orders 5 = .ok (.iconst 1, 1) := by decide +kernel
theorem dX11_orders_6 : decode cX11_orders 6 = .ok (.if_icmp .le 7, 3) := by decide +kernel
theorem dX11_orders_9 : decode cX11_orders 9 = .ok (.ldc2_w 90, 3) := by decide +kernel
theorem dX11_orders_12 : decode cX11_orders 12 = .ok (.lreturn, 1) := by decide +kernel
theorem dX11_orders_13 : decode cX11_orders 13 = .ok (.aload_n 0, 1) := by decide +kernel
theorem dX11_orders_14 : decode cX11_orders 14 = .ok (.getfield 61, 3) := by decide +kernel
theorem dX11_orders_17 : decode cX11_orders 17 = .ok (.aload_n 0, 1) := by decide +kernel
theorem dX11_orders_18 : decode cX11_orders 18 = .ok (.getfield 12, 3) := by decide +kernel
theorem dX11_orders_21 : decode cX11_orders 21 = .ok (.invokevirtual 222, 3) := by decide +kernel
theorem dX11_orders_24 : decode cX11_orders 24 = .ok (.aload_n 0, 1) := by decide +kernel
theorem dX11_orders_25 : decode cX11_orders 25 = .ok (.getfield 61, 3) := by decide +kernel
theorem dX11_orders_28 : decode cX11_orders 28 = .ok (.getfield 225, 3) := by decide +kernel
theorem dX11_orders_31 : decode cX11_orders 31 = .ok (.iload_n 1, 1) := by decide +kernel
theorem dX11_orders_32 : decode cX11_orders 32 = .ok (.iaload, 1) := by decide +kernel
theorem dX11_orders_33 : decode cX11_orders 33 = .ok (.ifCond .ne 9, 3) := by decide +kernel
theorem dX11_orders_36 : decode cX11_orders 36 = .ok (.ldc2_w 200, 3) := by decide +kernel
theorem dX11_orders_39 : decode cX11_orders 39 = .ok (.goto 12, 3) := by decide +kernel
theorem dX11_orders_42 : decode cX11_orders 42 = .ok (.aload_n 0, 1) := by decide +kernel
theorem dX11_orders_43 : decode cX11_orders 43 = .ok (.getfield 61, 3) := by decide +kernel
theorem dX11_orders_46 : decode cX11_orders 46 = .ok (.getfield 228, 3) := by decide +kernel
theorem dX11_orders_49 : decode cX11_orders 49 = .ok (.iload_n 1, 1) := by decide +kernel
theorem dX11_orders_50 : decode cX11_orders 50 = .ok (.laload, 1) := by decide +kernel
theorem dX11_orders_51 : decode cX11_orders 51 = .ok (.lreturn, 1) := by decide +kernel
set_option maxRecDepth 10000 in
theorem NX11_orders_0 {d : Nat} {S : fW} {h : fH} {Q : Int64 → fH → Prop} {r0 : Nat} {x1 : Int32} {r0_now r0_imageZero r0_imageOne r0_pad r0_ratio r0_rounding r0_steps r0_sums r0_allOrders r0_spans r0_search r0_allOrders_sums r0_allOrders_path r0_allOrders_losses r0_allOrders_counts r0_allOrders_firsts : Nat}  
    (hs1 : (r0, shX11 r0_now r0_imageZero r0_imageOne r0_pad r0_ratio r0_rounding r0_steps r0_sums r0_allOrders r0_spans r0_search) ∈ S)
    (hs2 : (r0_allOrders, shX1 r0_allOrders_sums r0_allOrders_path r0_allOrders_losses r0_allOrders_counts r0_allOrders_firsts) ∈ S)
    (hs3 : (r0_allOrders_counts, shI 2) ∈ S)
    (hs4 : (r0_allOrders_losses, shJ 2) ∈ S)
    (w : ((x1 < 0 → Q (-1000000000000000002 : Int64) h) ∧ (¬ x1 < 0 → ((x1 ≤ (1 : Int32) → ∃ Q1 : fH → Prop, OkV d mX1_find S [.ref r0_allOrders, .ref r0_now] h Q1 ∧ ∀ (h_1 : fH), Q1 h_1 → vp_in x1 2 ∧ ((¬ (h_1.2.2.1 r0_allOrders_counts x1.toNatClampNeg) = 0 → Q (h_1.2.2.2 r0_allOrders_losses x1.toNatClampNeg) h_1) ∧ ((h_1.2.2.1 r0_allOrders_counts x1.toNatClampNeg) = 0 → Q (-1000000000000000006 : Int64) h_1))) ∧ (¬ x1 ≤ (1 : Int32) → Q (-1000000000000000002 : Int64) h))))) :
    OkL (d + 1) mX11_orders S [.ref r0, .int x1] h Q := by
  refine Ok.of (by decide) (Nat.le_of_ble_eq_true rfl) ?_
  refine G_iload_n 1 rfl dX11_orders_0 rfl ?_
  refine G_if_lt (tgt := 9) dX11_orders_1 (by decide) (fun c1 => ?_) (fun c1 => ?_)
  · have w := w.1 c1
    refine G_ldc2 hK_X11_90 dX11_orders_9 ?_
    exact G_lret rfl dX11_orders_12 ⟨_, rfl, w⟩
  · have w := w.2 c1
    refine G_iload_n 1 rfl dX11_orders_4 rfl ?_
    refine G_iconst (v := 1) dX11_orders_5 (by decide) ?_
    refine G_icmp_le (tgt := 13) dX11_orders_6 (by decide) (fun c2 => ?_) (fun c2 => ?_)
    · have w := w.1 c2
      refine G_aload_n 0 rfl dX11_orders_13 rfl ?_
      refine G_getr (j := r0_allOrders) (k := 9) hs1 (q := (RX11, TX11, 12)) rfl inX11 (by decide) rfl hF_X11_61 dX11_orders_14 ?_
      refine G_aload_n 0 rfl dX11_orders_17 rfl ?_
      refine G_getr (j := r0_now) (k := 0) hs1 (q := (RX11, TX11, 12)) rfl inX11 (by decide) rfl hF_X11_12 dX11_orders_18 ?_
      obtain ⟨Q1, ok1, w⟩ := w
      refine G_callV (Z := mX1_find) (As := [.ref r0_now]) (st := []) hL_X11_222 hI_X1_find hS_X1_find hC_X1_find hN_X1 nX1_find (by decide) hs2 rfl rfl rfl (Nat.le_of_ble_eq_true rfl) dX11_orders_21 ok1 (fun r_ h_1 z_ => ?_)
      obtain ⟨rfl, q_1⟩ := z_
      have w := w h_1 q_1
      refine G_aload_n 0 rfl dX11_orders_24 rfl ?_
      refine G_getr (j := r0_allOrders) (k := 9) hs1 (q := (RX11, TX11, 12)) rfl inX11 (by decide) rfl hF_X11_61 dX11_orders_25 ?_
      refine G_getr (j := r0_allOrders_counts) (k := 3) hs2 (q := (RX1, TX1, 7)) rfl inX1 (by decide) rfl hF_X11_225 dX11_orders_28 ?_
      refine G_iload_n 1 rfl dX11_orders_31 rfl ?_
      obtain ⟨sd1, w⟩ := w
      refine G_iald hs3 sd1 dX11_orders_32 ?_
      refine G_if_ne (tgt := 42) dX11_orders_33 (by decide) (fun c3 => ?_) (fun c3 => ?_)
      · have w := w.1 c3
        refine G_aload_n 0 rfl dX11_orders_42 rfl ?_
        refine G_getr (j := r0_allOrders) (k := 9) hs1 (q := (RX11, TX11, 12)) rfl inX11 (by decide) rfl hF_X11_61 dX11_orders_43 ?_
        refine G_getr (j := r0_allOrders_losses) (k := 2) hs2 (q := (RX1, TX1, 7)) rfl inX1 (by decide) rfl hF_X11_228 dX11_orders_46 ?_
        refine G_iload_n 1 rfl dX11_orders_49 rfl ?_
        refine G_lald hs4 sd1 dX11_orders_50 ?_
        exact G_lret rfl dX11_orders_51 ⟨_, rfl, w⟩
      · have w := w.2 c3
        refine G_ldc2 hK_X11_200 dX11_orders_36 ?_
        refine G_goto (tgt := 51) dX11_orders_39 (by decide) ?_
        exact G_lret rfl dX11_orders_51 ⟨_, rfl, w⟩
    · have w := w.2 c2
      refine G_ldc2 hK_X11_90 dX11_orders_9 ?_
      exact G_lret rfl dX11_orders_12 ⟨_, rfl, w⟩

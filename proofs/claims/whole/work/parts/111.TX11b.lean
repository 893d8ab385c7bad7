-- LostDigits.order
theorem dX11_order_0 : decode cX11_order 0 = .ok (.iload_n 1, 1) := by decide +kernel
theorem dX11_order_1 : decode cX11_order 1 = .ok (.ifCond .lt 8, 3) := by decide +kernel
theorem dX11_order_4 : decode cX11_order 4 = .ok (.iload_n 1, 1) := by decide +kernel
theorem dX11_order_5 : decode cX11_order 5 = .ok (.iconst 1, 1) := by decide +kernel
theorem dX11_order_6 : decode cX11_order 6 = .ok (.if_icmp .le 6, 3) := by decide +kernel
theorem dX11_order_9 : decode cX11_order 9 = .ok (.bipush (-2), 2) := by decide +kernel
theorem dX11_order_11 : decode cX11_order 11 = .ok (.ireturn, 1) := by decide +kernel
theorem dX11_order_12 : decode cX11_order 12 = .ok (.aload_n 0, 1) := by decide +kernel
theorem dX11_order_13 : decode cX11_order 13 = .ok (.getfield 61, 3) := by decide +kernel
theorem dX11_order_16 : decode cX11_order 16 = .ok (.aload_n 0, 1) := by decide +kernel
theorem dX11_order_17 : decode cX11_order 17 = .ok (.getfield 12, 3) := by decide +kernel
theorem dX11_order_20 : decode cX11_order 20 = .ok (.invokevirtual 222, 3) := by decide +kernel
theorem dX11_order_23 : decode cX11_order 23 = .ok (.aload_n 0, 1) := by decide +kernel
theorem dX11_order_24 : decode cX11_order 24 = .ok (.getfield 61, 3) := by decide +kernel
theorem dX11_order_27 : decode cX11_order 27 = .ok (.getfield 225, 3) := by decide +kernel
theorem dX11_order_30 : decode cX11_order 30 = .ok (.iload_n 1, 1) := by decide +kernel
theorem dX11_order_31 : decode cX11_order 31 = .ok (.iaload, 1) := by decide +kernel
theorem dX11_order_32 : decode cX11_order 32 = .ok (.ifCond .ne 6, 3) := by decide +kernel
theorem dX11_order_35 : decode cX11_order 35 = .ok (.bipush (-6), 2) := by decide +kernel
theorem dX11_order_37 : decode cX11_order 37 = .ok (.ireturn, 1) := by decide +kernel
theorem dX11_order_38 : decode cX11_order 38 = .ok (.iload_n 2, 1) := by decide +kernel
theorem dX11_order_39 : decode cX11_order 39 = .ok (.iconst (-1), 1) := by decide +kernel
theorem dX11_order_40 : decode cX11_order 40 = .ok (.if_icmp .ne 13, 3) := by decide +kernel
theorem dX11_order_43 : decode cX11_order 43 = .ok (.aload_n 0, 1) := by decide +kernel
theorem dX11_order_44 : decode cX11_order 44 = .ok (.getfield 61, 3) := by decide +kernel
theorem dX11_order_47 : decode cX11_order 47 = .ok (.getfield 225, 3) := by decide +kernel
theorem dX11_order_50 : decode cX11_order 50 = .ok (.iload_n 1, 1) := by decide +kernel
theorem dX11_order_51 : decode cX11_order 51 = .ok (.iaload, 1) := by decide +kernel
theorem dX11_order_52 : decode cX11_order 52 = .ok (.ireturn, 1) := by decide +kernel
theorem dX11_order_53 : decode cX11_order 53 = .ok (.iload_n 2, 1) := by decide +kernel
theorem dX11_order_54 : decode cX11_order 54 = .ok (.ifCond .lt 34, 3) := by decide +kernel
theorem dX11_order_57 : decode cX11_order 57 = .ok (.iload_n 2, 1) := by decide +kernel
theorem dX11_order_58 : decode cX11_order 58 = .ok (.aload_n 0, 1) := by decide +kernel
theorem dX11_order_59 : decode cX11_order 59 = .ok (.getfield 12, 3) := by decide +kernel
theorem dX11_order_62 : decode cX11_order 62 = .ok (.getfield 194, 3) := by decide +kernel
theorem dX11_order_65 : decode cX11_order 65 = .ok (.if_icmp .ge 23, 3) := by decide +kernel
theorem dX11_order_68 : decode cX11_order 68 = .ok (.iload_n 2, 1) := by decide +kernel
theorem dX11_order_69 : decode cX11_order 69 = .ok (.bipush 7, 2) := by decide +kernel
theorem dX11_order_71 : decode cX11_order 71 = .ok (.if_icmp .ge 17, 3) := by decide +kernel
theorem dX11_order_74 : decode cX11_order 74 = .ok (.aload_n 0, 1) := by decide +kernel
theorem dX11_order_75 : decode cX11_order 75 = .ok (.getfield 61, 3) := by decide +kernel
theorem dX11_order_78 : decode cX11_order 78 = .ok (.getfield 231, 3) := by decide +kernel
theorem dX11_order_81 : decode cX11_order 81 = .ok (.iload_n 1, 1) := by decide +kernel
theorem dX11_order_82 : decode cX11_order 82 = .ok (.aaload, 1) := by decide +kernel
theorem dX11_order_83 : decode cX11_order 83 = .ok (.iload_n 2, 1) := by decide +kernel
theorem dX11_order_84 : decode cX11_order 84 = .ok (.iaload, 1) := by decide +kernel
theorem dX11_order_85 : decode cX11_order 85 = .ok (.goto 5, 3) := by decide +kernel
theorem dX11_order_88 : decode cX11_order 88 = .ok (.bipush (-6), 2) := by decide +kernel
theorem dX11_order_90 : decode cX11_order 90 = .ok (.ireturn, 1) := by decide +kernel
set_option maxRecDepth 10000 in
theorem NX11_order_0 {d : Nat} {S : fW} {h : fH} {Q : Int32 → fH → Prop} {r0 : Nat} {x1 : Int32} {x2 : Int32} {r0_now r0_imageZero r0_imageOne r0_pad r0_ratio r0_rounding r0_steps r0_sums r0_allOrders r0_spans r0_search r0_allOrders_sums r0_allOrders_path r0_allOrders_losses r0_allOrders_counts r0_allOrders_firsts r0_now_text r0_now_numbers r0_now_spans r0_now_terms : Nat} {g_r0_allOrders_firsts : Nat → Nat}  
    (hs1 : (r0, shX11 r0_now r0_imageZero r0_imageOne r0_pad r0_ratio r0_rounding r0_steps r0_sums r0_allOrders r0_spans r0_search) ∈ S)
    (hs2 : (r0_allOrders, shX1 r0_allOrders_sums r0_allOrders_path r0_allOrders_losses r0_allOrders_counts r0_allOrders_firsts) ∈ S)
    (hs3 : (r0_allOrders_counts, shI 2) ∈ S)
    (hs4 : (r0_now, shX2 r0_now_text r0_now_numbers r0_now_spans r0_now_terms) ∈ S)
    (hs5 : (r0_allOrders_firsts, shII 2 g_r0_allOrders_firsts) ∈ S)
    (hs6 : (g_r0_allOrders_firsts x1.toNatClampNeg, shI 7) ∈ S)
    (w : ((x1 < 0 → Q (-2 : Int32) h) ∧ (¬ x1 < 0 → ((x1 ≤ (1 : Int32) → ∃ Q1 : fH → Prop, OkV d mX1_find S [.ref r0_allOrders, .ref r0_now] h Q1 ∧ ∀ (h_1 : fH), Q1 h_1 → vp_in x1 2 ∧ ((¬ (h_1.2.2.1 r0_allOrders_counts x1.toNatClampNeg) = 0 → ((¬ x2 = (-1 : Int32) → ((x2 < 0 → Q (-6 : Int32) h_1) ∧ (¬ x2 < 0 → (((h_1.1 r0_now 4) ≤ x2 → Q (-6 : Int32) h_1) ∧ (¬ (h_1.1 r0_now 4) ≤ x2 → (((7 : Int32) ≤ x2 → Q (-6 : Int32) h_1) ∧ (¬ (7 : Int32) ≤ x2 → vp_in x2 7 ∧ Q (h_1.2.2.1 (g_r0_allOrders_firsts x1.toNatClampNeg) x2.toNatClampNeg) h_1))))))) ∧ (x2 = (-1 : Int32) → Q (h_1.2.2.1 r0_allOrders_counts x1.toNatClampNeg) h_1))) ∧ ((h_1.2.2.1 r0_allOrders_counts x1.toNatClampNeg) = 0 → Q (-6 : Int32) h_1))) ∧ (¬ x1 ≤ (1 : Int32) → Q (-2 : Int32) h))))) :
    OkI (d + 1) mX11_order S [.ref r0, .int x1, .int x2] h Q := by
  refine Ok.of (by decide) (Nat.le_of_ble_eq_true rfl) ?_
  refine G_iload_n 1 rfl dX11_order_0 rfl ?_
  refine G_if_lt (tgt := 9) dX11_order_1 (by decide) (fun c1 => ?_) (fun c1 => ?_)
  · have w := w.1 c1
    refine G_bipush (v := -2) dX11_order_9 (by decide) ?_
    exact G_iret rfl dX11_order_11 ⟨_, rfl, w⟩
  · have w := w.2 c1
    refine G_iload_n 1 rfl dX11_order_4 rfl ?_
    refine G_iconst (v := 1) dX11_order_5 (by decide) ?_
    refine G_icmp_le (tgt := 12) dX11_order_6 (by decide) (fun c2 => ?_) (fun c2 => ?_)
    · have w := w.1 c2
      refine G_aload_n 0 rfl dX11_order_12 rfl ?_
      refine G_getr (j := r0_allOrders) (k := 9) hs1 (q := (RX11, TX11, 12)) rfl inX11 (by decide) rfl hF_X11_61 dX11_order_13 ?_
      refine G_aload_n 0 rfl dX11_order_16 rfl ?_
      refine G_getr (j := r0_now) (k := 0) hs1 (q := (RX11, TX11, 12)) rfl inX11 (by decide) rfl hF_X11_12 dX11_order_17 ?_
      obtain ⟨Q1, ok1, w⟩ := w
      refine G_callV (Z := mX1_find) (As := [.ref r0_now]) (st := []) hL_X11_222 hI_X1_find hS_X1_find hC_X1_find hN_X1 nX1_find (by decide) hs2 rfl rfl rfl (Nat.le_of_ble_eq_true rfl) dX11_order_20 ok1 (fun r_ h_1 z_ => ?_)
      obtain ⟨rfl, q_1⟩ := z_
      have w := w h_1 q_1
      refine G_aload_n 0 rfl dX11_order_23 rfl ?_
      refine G_getr (j := r0_allOrders) (k := 9) hs1 (q := (RX11, TX11, 12)) rfl inX11 (by decide) rfl hF_X11_61 dX11_order_24 ?_
      refine G_getr (j := r0_allOrders_counts) (k := 3) hs2 (q := (RX1, TX1, 7)) rfl inX1 (by decide) rfl hF_X11_225 dX11_order_27 ?_
      refine G_iload_n 1 rfl dX11_order_30 rfl ?_
      obtain ⟨sd1, w⟩ := w
      refine G_iald hs3 sd1 dX11_order_31 ?_
      refine G_if_ne (tgt := 38) dX11_order_32 (by decide) (fun c3 => ?_) (fun c3 => ?_)
      · have w := w.1 c3
        refine G_iload_n 2 rfl dX11_order_38 rfl ?_
        refine G_iconst (v := -1) dX11_order_39 (by decide) ?_
        refine G_icmp_ne (tgt := 53) dX11_order_40 (by decide) (fun c4 => ?_) (fun c4 => ?_)
        · have w := w.1 c4
          refine G_iload_n 2 rfl dX11_order_53 rfl ?_
          refine G_if_lt (tgt := 88) dX11_order_54 (by decide) (fun c5 => ?_) (fun c5 => ?_)
          · have w := w.1 c5
            refine G_bipush (v := -6) dX11_order_88 (by decide) ?_
            exact G_iret rfl dX11_order_90 ⟨_, rfl, w⟩
          · have w := w.2 c5
            refine G_iload_n 2 rfl dX11_order_57 rfl ?_
            refine G_aload_n 0 rfl dX11_order_58 rfl ?_
            refine G_getr (j := r0_now) (k := 0) hs1 (q := (RX11, TX11, 12)) rfl inX11 (by decide) rfl hF_X11_12 dX11_order_59 ?_
            refine G_geti (k := 4) hs4 (q := (RX2, TX2, 8)) rfl inX2 (by decide) (Or.inl rfl) hF_X11_194 dX11_order_62 ?_
            refine G_icmp_ge (tgt := 88) dX11_order_65 (by decide) (fun c6 => ?_) (fun c6 => ?_)
            · have w := w.1 c6
              refine G_bipush (v := -6) dX11_order_88 (by decide) ?_
              exact G_iret rfl dX11_order_90 ⟨_, rfl, w⟩
            · have w := w.2 c6
              refine G_iload_n 2 rfl dX11_order_68 rfl ?_
              refine G_bipush (v := 7) dX11_order_69 (by decide) ?_
              refine G_icmp_ge (tgt := 88) dX11_order_71 (by decide) (fun c7 => ?_) (fun c7 => ?_)
              · have w := w.1 c7
                refine G_bipush (v := -6) dX11_order_88 (by decide) ?_
                exact G_iret rfl dX11_order_90 ⟨_, rfl, w⟩
              · have w := w.2 c7
                refine G_aload_n 0 rfl dX11_order_74 rfl ?_
                refine G_getr (j := r0_allOrders) (k := 9) hs1 (q := (RX11, TX11, 12)) rfl inX11 (by decide) rfl hF_X11_61 dX11_order_75 ?_
                refine G_getr (j := r0_allOrders_firsts) (k := 4) hs2 (q := (RX1, TX1, 7)) rfl inX1 (by decide) rfl hF_X11_231 dX11_order_78 ?_
                refine G_iload_n 1 rfl dX11_order_81 rfl ?_
                refine G_aald hs5 sd1 dX11_order_82 ?_
                refine G_iload_n 2 rfl dX11_order_83 rfl ?_
                obtain ⟨sd2, w⟩ := w
                refine G_iald hs6 sd2 dX11_order_84 ?_
                refine G_goto (tgt := 90) dX11_order_85 (by decide) ?_
                exact G_iret rfl dX11_order_90 ⟨_, rfl, w⟩
        · have w := w.2 c4
          refine G_aload_n 0 rfl dX11_order_43 rfl ?_
          refine G_getr (j := r0_allOrders) (k := 9) hs1 (q := (RX11, TX11, 12)) rfl inX11 (by decide) rfl hF_X11_61 dX11_order_44 ?_
          refine G_getr (j := r0_allOrders_counts) (k := 3) hs2 (q := (RX1, TX1, 7)) rfl inX1 (by decide) rfl hF_X11_225 dX11_order_47 ?_
          refine G_iload_n 1 rfl dX11_order_50 rfl ?_
          refine G_iald hs3 sd1 dX11_order_51 ?_
          exact G_iret rfl dX11_order_52 ⟨_, rfl, w⟩
      · have w := w.2 c3
        refine G_bipush (v := -6) dX11_order_35 (by decide) ?_
        exact G_iret rfl dX11_order_37 ⟨_, rfl, w⟩
    · have w := w.2 c2
      refine G_bipush (v := -2) dX11_order_9 (by decide) ?_
      exact G_iret rfl dX11_order_11 ⟨_, rfl, w⟩
-- LostDigits.bounds
theorem dX11_bounds_0 : decode cX11_bounds 0 = .ok (.iload_n 1, 1) := by decide +kernel
theorem dX11_bounds_1 : decode cX11_bounds 1 = .ok (.ifCond .lt 8, 3) := by decide +kernel
theorem dX11_bounds_4 : decode cX11_bounds 4 = .ok (.iload_n 1, 1) := by decide +kernel
theorem dX11_bounds_5 : decode cX11_bounds 5 = .ok (.iconst 1, 1) := by decide +kernel
theorem dX11_bounds_6 : decode cX11_bounds 6 = .ok (.if_icmp .le 7, 3) := by decide +kernel
theorem dX11_bounds_9 : decode cX11_bounds 9 = .ok (.ldc2_w 90, 3) := by decide +kernel
theorem dX11_bounds_12 : decode cX11_bounds 12 = .ok (.lreturn, 1) := by decide +kernel
theorem dX11_bounds_13 : decode cX11_bounds 13 = .ok (.aload_n 0, 1) := by decide +kernel
theorem dX11_bounds_14 : decode cX11_bounds 14 = .ok (.getfield 68, 3) := by decide +kernel
theorem dX11_bounds_17 : decode cX11_bounds 17 = .ok (.aload_n 0, 1) := by decide +kernel
theorem dX11_bounds_18 : decode cX11_bounds 18 = .ok (.getfield 12, 3) := by decide +kernel
theorem dX11_bounds_21 : decode cX11_bounds 21 = .ok (.invokevirtual 235, 3) := by decide +kernel
theorem dX11_bounds_24 : decode cX11_bounds 24 = .ok (.iload_n 1, 1) := by decide +kernel
theorem dX11_bounds_25 : decode cX11_bounds 25 = .ok (.ifCond .ne 17, 3) := by decide +kernel
theorem dX11_bounds_28 : decode cX11_bounds 28 = .ok (.aload_n 0, 1) := by decide +kernel
theorem dX11_bounds_29 : decode cX11_bounds 29 = .ok (.getfield 68, 3) := by decide +kernel
theorem dX11_bounds_32 : decode cX11_bounds 32 = .ok (.getfield 238, 3) := by decide +kernel
theorem dX11_bounds_35 : decode cX11_bounds 35 = .ok (.iconst 0, 1) := by decide +kernel
theorem dX11_bounds_36 : decode cX11_bounds 36 = .ok (.invokestatic 166, 3) := by decide +kernel
theorem dX11_bounds_39 : decode cX11_bounds 39 = .ok (.goto 14, 3) := by decide +kernel
theorem dX11_bounds_42 : decode cX11_bounds 42 = .ok (.aload_n 0, 1) := by decide +kernel
theorem dX11_bounds_43 : decode cX11_bounds 43 = .ok (.getfield 68, 3) := by decide +kernel
theorem dX11_bounds_46 : decode cX11_bounds 46 = .ok (.getfield 241, 3) := by decide +kernel
theorem dX11_bounds_49 : decode cX11_bounds 49 = .ok (.iconst 0, 1) := by decide +kernel
theorem dX11_bounds_50 : decode cX11_bounds 50 = .ok (.invokestatic 166, 3) := by decide +kernel
theorem dX11_bounds_53 : decode cX11_bounds 53 = .ok (.lreturn, 1) := by decide +kernel
set_option maxRecDepth 10000 in
theorem NX11_bounds_0 {d : Nat} {S : fW} {h : fH} {Q : Int64 → fH → Prop} {r0 : Nat} {x1 : Int32} {r0_now r0_imageZero r0_imageOne r0_pad r0_ratio r0_rounding r0_steps r0_sums r0_allOrders r0_spans r0_search r0_spans_low r0_spans_high r0_spans_ratio r0_spans_down r0_spans_up r0_spans_fractions r0_spans_trial r0_spans_widths : Nat}  
    (hs1 : (r0, shX11 r0_now r0_imageZero r0_imageOne r0_pad r0_ratio r0_rounding r0_steps r0_sums r0_allOrders r0_spans r0_search) ∈ S)
    (hs2 : (r0_spans, shX7 r0_spans_low r0_spans_high r0_spans_ratio r0_spans_down r0_spans_up r0_spans_fractions r0_spans_trial r0_spans_widths) ∈ S)
    (w : ((x1 < 0 → Q (-1000000000000000002 : Int64) h) ∧ (¬ x1 < 0 → ((x1 ≤ (1 : Int32) → ∃ Q1 : fH → Prop, OkV d mX7_bound S [.ref r0_spans, .ref r0_now] h Q1 ∧ ∀ (h_1 : fH), Q1 h_1 → ((¬ x1 = 0 → ∃ Q2 : Int64 → fH → Prop, OkL d mX11_at S [.ref r0_spans_high, .int (0 : Int32)] h_1 Q2 ∧ ∀ (v_2 : Int64) (h_2 : fH), Q2 v_2 h_2 → Q v_2 h_2) ∧ (x1 = 0 → ∃ Q3 : Int64 → fH → Prop, OkL d mX11_at S [.ref r0_spans_low, .int (0 : Int32)] h_1 Q3 ∧ ∀ (v_3 : Int64) (h_3 : fH), Q3 v_3 h_3 → Q v_3 h_3))) ∧ (¬ x1 ≤ (1 : Int32) → Q (-1000000000000000002 : Int64) h))))) :
    OkL (d + 1) mX11_bounds S [.ref r0, .int x1] h Q := by
  refine Ok.of (by decide) (Nat.le_of_ble_eq_true rfl) ?_
  refine G_iload_n 1 rfl dX11_bounds_0 rfl ?_
  refine G_if_lt (tgt := 9) dX11_bounds_1 (by decide) (fun c1 => ?_) (fun c1 => ?_)
  · have w := w.1 c1
    refine G_ldc2 hK_X11_90 dX11_bounds_9 ?_
    exact G_lret rfl dX11_bounds_12 ⟨_, rfl, w⟩
  · have w := w.2 c1
    refine G_iload_n 1 rfl dX11_bounds_4 rfl ?_
    refine G_iconst (v := 1) dX11_bounds_5 (by decide) ?_
    refine G_icmp_le (tgt := 13) dX11_bounds_6 (by decide) (fun c2 => ?_) (fun c2 => ?_)
    · have w := w.1 c2
      refine G_aload_n 0 rfl dX11_bounds_13 rfl ?_
      refine G_getr (j := r0_spans) (k := 10) hs1 (q := (RX11, TX11, 12)) rfl inX11 (by decide) rfl hF_X11_68 dX11_bounds_14 ?_
      refine G_aload_n 0 rfl dX11_bounds_17 rfl ?_
      refine G_getr (j := r0_now) (k := 0) hs1 (q := (RX11, TX11, 12)) rfl inX11 (by decide) rfl hF_X11_12 dX11_bounds_18 ?_
      obtain ⟨Q1, ok1, w⟩ := w
      refine G_callV (Z := mX7_bound) (As := [.ref r0_now]) (st := []) hL_X11_235 hI_X7_bound hS_X7_bound hC_X7_bound hN_X7 nX7_bound (by decide) hs2 rfl rfl rfl (Nat.le_of_ble_eq_true rfl) dX11_bounds_21 ok1 (fun r_ h_1 z_ => ?_)
      obtain ⟨rfl, q_1⟩ := z_
      have w := w h_1 q_1
      refine G_iload_n 1 rfl dX11_bounds_24 rfl ?_
      refine G_if_ne (tgt := 42) dX11_bounds_25 (by decide) (fun c3 => ?_) (fun c3 => ?_)
      · have w := w.1 c3
        refine G_aload_n 0 rfl dX11_bounds_42 rfl ?_
        refine G_getr (j := r0_spans) (k := 10) hs1 (q := (RX11, TX11, 12)) rfl inX11 (by decide) rfl hF_X11_68 dX11_bounds_43 ?_
        refine G_getr (j := r0_spans_high) (k := 1) hs2 (q := (RX7, TX7, 11)) rfl inX7 (by decide) rfl hF_X11_241 dX11_bounds_46 ?_
        refine G_iconst (v := 0) dX11_bounds_49 (by decide) ?_
        obtain ⟨Q2, ok2, w⟩ := w
        refine G_callS (Z := mX11_at) (As := [.ref r0_spans_high, .int (0 : Int32)]) (st := []) hL_X11_166 hT_X11_at hC_X11_at hN_X11 nX11_at (by decide) rfl (Nat.le_of_ble_eq_true rfl) dX11_bounds_50 ok2 (fun r_ h_2 z_ => ?_)
        obtain ⟨v_2, rfl, q_2⟩ := z_
        have w := w v_2 h_2 q_2
        exact G_lret rfl dX11_bounds_53 ⟨_, rfl, w⟩
      · have w := w.2 c3
        refine G_aload_n 0 rfl dX11_bounds_28 rfl ?_
        refine G_getr (j := r0_spans) (k := 10) hs1 (q := (RX11, TX11, 12)) rfl inX11 (by decide) rfl hF_X11_68 dX11_bounds_29 ?_
        refine G_getr (j := r0_spans_low) (k := 0) hs2 (q := (RX7, TX7, 11)) rfl inX7 (by decide) rfl hF_X11_238 dX11_bounds_32 ?_
        refine G_iconst (v := 0) dX11_bounds_35 (by decide) ?_
        obtain ⟨Q3, ok3, w⟩ := w
        refine G_callS (Z := mX11_at) (As := [.ref r0_spans_low, .int (0 : Int32)]) (st := []) hL_X11_166 hT_X11_at hC_X11_at hN_X11 nX11_at (by decide) rfl (Nat.le_of_ble_eq_true rfl) dX11_bounds_36 ok3 (fun r_ h_3 z_ => ?_)
        obtain ⟨v_3, rfl, q_3⟩ := z_
        have w := w v_3 h_3 q_3
        refine G_goto (tgt := 53) dX11_bounds_39 (by decide) ?_
        exact G_lret rfl dX11_bounds_53 ⟨_, rfl, w⟩
    · have w := w.2 c2
      refine G_ldc2 hK_X11_90 dX11_bounds_9 ?_
      exact G_lret rfl dX11_bounds_12 ⟨_, rfl, w⟩
-- LostDigits.truth
theorem dX11_truth_0 : decode cX11_truth 0 = .ok (.iload_n 1, 1) := by decide +kernel
theorem dX11_truth_1 : decode cX11_truth 1 = .ok (.ifCond .lt 8, 3) := by decide +kernel
theorem dX11_truth_4 : decode cX11_truth 4 = .ok (.iload_n 1, 1) := by decide +kernel
theorem dX11_truth_5 : decode cX11_truth 5 = .ok (.iconst 1, 1) := by decide +kernel
theorem dX11_truth_6 : decode cX11_truth 6 = .ok (.if_icmp .le 7, 3) := by decide +kernel
theorem dX11_truth_9 : decode cX11_truth 9 = .ok (.ldc2_w 90, 3) := by decide +kernel
theorem dX11_truth_12 : decode cX11_truth 12 = .ok (.lreturn, 1) := by decide +kernel
theorem dX11_truth_13 : decode cX11_truth 13 = .ok (.aload_n 0, 1) := by decide +kernel
theorem dX11_truth_14 : decode cX11_truth 14 = .ok (.getfield 68, 3) := by decide +kernel
theorem dX11_truth_17 : decode cX11_truth 17 = .ok (.aload_n 0, 1) := by decide +kernel
theorem dX11_truth_18 : decode cX11_truth 18 = .ok (.getfield 12, 3) := by decide +kernel
theorem dX11_truth_21 : decode cX11_truth 21 = .ok (.invokevirtual 244, 3) := by decide +kernel
theorem dX11_truth_24 : decode cX11_truth 24 = .ok (.iload_n 1, 1) := by decide +kernel
theorem dX11_truth_25 : decode cX11_truth 25 = .ok (.ifCond .ne 13, 3) := by decide +kernel
theorem dX11_truth_28 : decode cX11_truth 28 = .ok (.aload_n 0, 1) := by decide +kernel
theorem dX11_truth_29 : decode cX11_truth 29 = .ok (.getfield 68, 3) := by decide +kernel
theorem dX11_truth_32 : decode cX11_truth 32 = .ok (.getfield 247, 3) := by decide +kernel
theorem dX11_truth_35 : decode cX11_truth 35 = .ok (.goto 10, 3) := by decide +kernel
theorem dX11_truth_38 : decode cX11_truth 38 = .ok (.aload_n 0, 1) := by decide +kernel
theorem dX11_truth_39 : decode cX11_truth 39 = .ok (.getfield 68, 3) := by decide +kernel
theorem dX11_truth_42 : decode cX11_truth 42 = .ok (.getfield 251, 3) := by decide +kernel
theorem dX11_truth_45 : decode cX11_truth 45 = .ok (.lreturn, 1) := by decide +kernel
set_option maxRecDepth 10000 in
theorem NX11_truth_0 {d : Nat} {S : fW} {h : fH} {Q : Int64 → fH → Prop} {r0 : Nat} {x1 : Int32} {r0_now r0_imageZero r0_imageOne r0_pad r0_ratio r0_rounding r0_steps r0_sums r0_allOrders r0_spans r0_search r0_spans_low r0_spans_high r0_spans_ratio r0_spans_down r0_spans_up r0_spans_fractions r0_spans_trial r0_spans_widths : Nat}  
    (hs1 : (r0, shX11 r0_now r0_imageZero r0_imageOne r0_pad r0_ratio r0_rounding r0_steps r0_sums r0_allOrders r0_spans r0_search) ∈ S)
    (hs2 : (r0_spans, shX7 r0_spans_low r0_spans_high r0_spans_ratio r0_spans_down r0_spans_up r0_spans_fractions r0_spans_trial r0_spans_widths) ∈ S)
    (w : ((x1 < 0 → Q (-1000000000000000002 : Int64) h) ∧ (¬ x1 < 0 → ((x1 ≤ (1 : Int32) → ∃ Q1 : fH → Prop, OkV d mX7_findTruth S [.ref r0_spans, .ref r0_now] h Q1 ∧ ∀ (h_1 : fH), Q1 h_1 → ((¬ x1 = 0 → Q (h_1.2.1 r0_spans 9) h_1) ∧ (x1 = 0 → Q (h_1.2.1 r0_spans 8) h_1))) ∧ (¬ x1 ≤ (1 : Int32) → Q (-1000000000000000002 : Int64) h))))) :
    OkL (d + 1) mX11_truth S [.ref r0, .int x1] h Q := by
  refine Ok.of (by decide) (Nat.le_of_ble_eq_true rfl) ?_
  refine G_iload_n 1 rfl dX11_truth_0 rfl ?_
  refine G_if_lt (tgt := 9) dX11_truth_1 (by decide) (fun c1 => ?_) (fun c1 => ?_)
  · have w := w.1 c1
    refine G_ldc2 hK_X11_90 dX11_truth_9 ?_
    exact G_lret rfl dX11_truth_12 ⟨_, rfl, w⟩
  · have w := w.2 c1
    refine G_iload_n 1 rfl dX11_truth_4 rfl ?_
    refine G_iconst (v := 1) dX11_truth_5 (by decide) ?_
    refine G_icmp_le (tgt := 13) dX11_truth_6 (by decide) (fun c2 => ?_) (fun c2 => ?_)
    · have w := w.1 c2
      refine G_aload_n 0 rfl dX11_truth_13 rfl ?_
      refine G_getr (j := r0_spans) (k := 10) hs1 (q := (RX11, TX11, 12)) rfl inX11 (by decide) rfl hF_X11_68 dX11_truth_14 ?_
      refine G_aload_n 0 rfl dX11_truth_17 rfl ?_
      refine G_getr (j := r0_now) (k := 0) hs1 (q := (RX11, TX11, 12)) rfl inX11 (by decide) rfl hF_X11_12 dX11_truth_18 ?_
      obtain ⟨Q1, ok1, w⟩ := w
      refine G_callV (Z := mX7_findTruth) (As := [.ref r0_now]) (st := []) hL_X11_244 hI_X7_findTruth hS_X7_findTruth hC_X7_findTruth hN_X7 nX7_findTruth (by decide) hs2 rfl rfl rfl (Nat.le_of_ble_eq_true rfl) dX11_truth_21 ok1 (fun r_ h_1 z_ => ?_)
      obtain ⟨rfl, q_1⟩ := z_
      have w := w h_1 q_1
      refine G_iload_n 1 rfl dX11_truth_24 rfl ?_
      refine G_if_ne (tgt := 38) dX11_truth_25 (by decide) (fun c3 => ?_) (fun c3 => ?_)
      · have w := w.1 c3
        refine G_aload_n 0 rfl dX11_truth_38 rfl ?_
        refine G_getr (j := r0_spans) (k := 10) hs1 (q := (RX11, TX11, 12)) rfl inX11 (by decide) rfl hF_X11_68 dX11_truth_39 ?_
        refine G_getl (k := 9) hs2 (q := (RX7, TX7, 11)) rfl inX7 (by decide) rfl hF_X11_251 dX11_truth_42 ?_
        exact G_lret rfl dX11_truth_45 ⟨_, rfl, w⟩
      · have w := w.2 c3
        refine G_aload_n 0 rfl dX11_truth_28 rfl ?_
        refine G_getr (j := r0_spans) (k := 10) hs1 (q := (RX11, TX11, 12)) rfl inX11 (by decide) rfl hF_X11_68 dX11_truth_29 ?_
        refine G_getl (k := 8) hs2 (q := (RX7, TX7, 11)) rfl inX7 (by decide) rfl hF_X11_247 dX11_truth_32 ?_
        refine G_goto (tgt := 45) dX11_truth_35 (by decide) ?_
        exact G_lret rfl dX11_truth_45 ⟨_, rfl, w⟩
    · have w := w.2 c2
      refine G_ldc2 hK_X11_90 dX11_truth_9 ?_
      exact G_lret rfl dX11_truth_12 ⟨_, rfl, w⟩
-- LostDigits.fits
theorem dX11_fits_0 : decode cX11_fits 0 = .ok (.aload_n 0, 1) := by decide +kernel
theorem dX11_fits_1 : decode cX11_fits 1 = .ok (.getfield 12, 3) := by decide +kernel
theorem dX11_fits_4 : decode cX11_fits 4 = .ok (.getfield 118, 3) := by decide +kernel
theorem dX11_fits_7 : decode cX11_fits 7 = .ok (.iload_n 2, 1) := by decide +kernel
theorem dX11_fits_8 : decode cX11_fits 8 = .ok (.invokevirtual 131, 3) := by decide +kernel
theorem dX11_fits_11 : decode cX11_fits 11 = .ok (.ifCond .ne 5, 3) := by decide +kernel
theorem dX11_fits_14 : decode cX11_fits 14 = .ok (.iconst (-1), 1) := by decide +kernel
theorem dX11_fits_15 : decode cX11_fits 15 = .ok (.ireturn, 1) := by decide +kernel
theorem dX11_fits_16 : decode cX11_fits 16 = .ok (.iload_n 1, 1) := by decide +kernel
theorem dX11_fits_17 : decode cX11_fits 17 = .ok (.ifCond .lt 9, 3) := by decide +kernel
theorem dX11_fits_20 : decode cX11_fits 20 = .ok (.iload_n 1, 1) := by decide +kernel
theorem dX11_fits_21 : decode cX11_fits 21 = .ok (.bipush 7, 2) := by decide +kernel
theorem dX11_fits_23 : decode cX11_fits 23 = .ok (.if_icmp .lt 6, 3) := by decide +kernel
theorem dX11_fits_26 : decode cX11_fits 26 = .ok (.bipush (-2), 2) := by decide +kernel
theorem dX11_fits_28 : decode cX11_fits 28 = .ok (.ireturn, 1) := by decide +kernel
theorem dX11_fits_29 : decode cX11_fits 29 = .ok (.aload_n 0, 1) := by decide +kernel
theorem dX11_fits_30 : decode cX11_fits 30 = .ok (.getfield 12, 3) := by decide +kernel
theorem dX11_fits_33 : decode cX11_fits 33 = .ok (.getfield 118, 3) := by decide +kernel
theorem dX11_fits_36 : decode cX11_fits 36 = .ok (.iload_n 1, 1) := by decide +kernel
theorem dX11_fits_37 : decode cX11_fits 37 = .ok (.iload_n 2, 1) := by decide +kernel
theorem dX11_fits_38 : decode cX11_fits 38 = .ok (.invokestatic 254, 3) := by decide +kernel
theorem dX11_fits_41 : decode cX11_fits 41 = .ok (.ifCond .eq 7, 3) := by decide +kernel
theorem dX11_fits_44 : decode cX11_fits 44 = .ok (.iconst 1, 1) := by decide +kernel
theorem dX11_fits_45 : decode cX11_fits 45 = .ok (.goto 4, 3) := by decide +kernel
theorem dX11_fits_48 : decode cX11_fits 48 = .ok (.iconst 0, 1) := by decide +kernel
theorem dX11_fits_49 : decode cX11_fits 49 = .ok (.ireturn, 1) := by decide +kernel
set_option maxRecDepth 10000 in
theorem NX11_fits_0 {d : Nat} {S : fW} {h : fH} {Q : Int32 → fH → Prop} {r0 : Nat} {x1 : Int32} {x2 : Int32} {r0_now r0_imageZero r0_imageOne r0_pad r0_ratio r0_rounding r0_steps r0_sums r0_allOrders r0_spans r0_search r0_now_text r0_now_numbers r0_now_spans r0_now_terms r0_now_text_signs r0_now_text_ends r0_now_text_letters : Nat}  
    (hs1 : (r0, shX11 r0_now r0_imageZero r0_imageOne r0_pad r0_ratio r0_rounding r0_steps r0_sums r0_allOrders r0_spans r0_search) ∈ S)
    (hs2 : (r0_now, shX2 r0_now_text r0_now_numbers r0_now_spans r0_now_terms) ∈ S)
    (hs3 : (r0_now_text, shX10 r0_now_text_signs r0_now_text_ends r0_now_text_letters) ∈ S)
    (w : ∃ Q1 : Int32 → fH → Prop, OkI d mX10_has S [.ref r0_now_text, .int x2] h Q1 ∧ ∀ (v_1 : Int32) (h_1 : fH), Q1 v_1 h_1 → ((¬ v_1 = 0 → ((x1 < 0 → Q (-2 : Int32) h_1) ∧ (¬ x1 < 0 → ((x1 < (7 : Int32) → ∃ Q2 : Int32 → fH → Prop, OkI d mX5_suits S [.ref r0_now_text, .int x1, .int x2] h_1 Q2 ∧ ∀ (v_2 : Int32) (h_2 : fH), Q2 v_2 h_2 → ((v_2 = 0 → Q (0 : Int32) h_2) ∧ (¬ v_2 = 0 → Q (1 : Int32) h_2))) ∧ (¬ x1 < (7 : Int32) → Q (-2 : Int32) h_1))))) ∧ (v_1 = 0 → Q (-1 : Int32) h_1))) :
    OkI (d + 1) mX11_fits S [.ref r0, .int x1, .int x2] h Q := by
  refine Ok.of (by decide) (Nat.le_of_ble_eq_true rfl) ?_
  refine G_aload_n 0 rfl dX11_fits_0 rfl ?_
  refine G_getr (j := r0_now) (k := 0) hs1 (q := (RX11, TX11, 12)) rfl inX11 (by decide) rfl hF_X11_12 dX11_fits_1 ?_
  refine G_getr (j := r0_now_text) (k := 0) hs2 (q := (RX2, TX2, 8)) rfl inX2 (by decide) rfl hF_X11_118 dX11_fits_4 ?_
  refine G_iload_n 2 rfl dX11_fits_7 rfl ?_
  obtain ⟨Q1, ok1, w⟩ := w
  refine G_callV (Z := mX10_has) (As := [.int x2]) (st := []) hL_X11_131 hI_X10_has hS_X10_has hC_X10_has hN_X10 nX10_has (by decide) hs3 rfl rfl rfl (Nat.le_of_ble_eq_true rfl) dX11_fits_8 ok1 (fun r_ h_1 z_ => ?_)
  obtain ⟨v_1, rfl, q_1⟩ := z_
  have w := w v_1 h_1 q_1
  refine G_if_ne (tgt := 16) dX11_fits_11 (by decide) (fun c1 => ?_) (fun c1 => ?_)
  · have w := w.1 c1
    refine G_iload_n 1 rfl dX11_fits_16 rfl ?_
    refine G_if_lt (tgt := 26) dX11_fits_17 (by decide) (fun c2 => ?_) (fun c2 => ?_)
    · have w := w.1 c2
      refine G_bipush (v := -2) dX11_fits_26 (by decide) ?_
      exact G_iret rfl dX11_fits_28 ⟨_, rfl, w⟩
    · have w := w.2 c2
      refine G_iload_n 1 rfl dX11_fits_20 rfl ?_
      refine G_bipush (v := 7) dX11_fits_21 (by decide) ?_
      refine G_icmp_lt (tgt := 29) dX11_fits_23 (by decide) (fun c3 => ?_) (fun c3 => ?_)
      · have w := w.1 c3
        refine G_aload_n 0 rfl dX11_fits_29 rfl ?_
        refine G_getr (j := r0_now) (k := 0) hs1 (q := (RX11, TX11, 12)) rfl inX11 (by decide) rfl hF_X11_12 dX11_fits_30 ?_
        refine G_getr (j := r0_now_text) (k := 0) hs2 (q := (RX2, TX2, 8)) rfl inX2 (by decide) rfl hF_X11_118 dX11_fits_33 ?_
        refine G_iload_n 1 rfl dX11_fits_36 rfl ?_
        refine G_iload_n 2 rfl dX11_fits_37 rfl ?_
        obtain ⟨Q2, ok2, w⟩ := w
        refine G_callS (Z := mX5_suits) (As := [.ref r0_now_text, .int x1, .int x2]) (st := []) hL_X11_254 hT_X5_suits hC_X5_suits hN_X5 nX5_suits (by decide) rfl (Nat.le_of_ble_eq_true rfl) dX11_fits_38 ok2 (fun r_ h_2 z_ => ?_)
        obtain ⟨v_2, rfl, q_2⟩ := z_
        have w := w v_2 h_2 q_2
        refine G_if_eq (tgt := 48) dX11_fits_41 (by decide) (fun c4 => ?_) (fun c4 => ?_)
        · have w := w.1 c4
          refine G_iconst (v := 0) dX11_fits_48 (by decide) ?_
          exact G_iret rfl dX11_fits_49 ⟨_, rfl, w⟩
        · have w := w.2 c4
          refine G_iconst (v := 1) dX11_fits_44 (by decide) ?_
          refine G_goto (tgt := 49) dX11_fits_45 (by decide) ?_
          exact G_iret rfl dX11_fits_49 ⟨_, rfl, w⟩
      · have w := w.2 c3
        refine G_bipush (v := -2) dX11_fits_26 (by decide) ?_
        exact G_iret rfl dX11_fits_28 ⟨_, rfl, w⟩
  · have w := w.2 c1
    refine G_iconst (v := -1) dX11_fits_14 (by decide) ?_
    exact G_iret rfl dX11_fits_15 ⟨_, rfl, w⟩
-- LostDigits.change
theorem dX11_change_0 : decode cX11_change 0 = .ok (.aload_n 0, 1) := by decide +kernel
theorem dX11_change_1 : decode cX11_change 1 = .ok (.getfield 12, 3) := by decide +kernel
theorem dX11_change_4 : decode cX11_change 4 = .ok (.getfield 118, 3) := by decide +kernel
theorem dX11_change_7 : decode cX11_change 7 = .ok (.iload_n 2, 1) := by decide +kernel
theorem dX11_change_8 : decode cX11_change 8 = .ok (.invokevirtual 131, 3) := by decide +kernel
theorem dX11_change_11 : decode cX11_change 11 = .ok (.ifCond .ne 5, 3) := by decide +kernel
theorem dX11_change_14 : decode cX11_change 14 = .ok (.iconst (-1), 1) := by decide +kernel
theorem dX11_change_15 : decode cX11_change 15 = .ok (.ireturn, 1) := by decide +kernel
theorem dX11_change_16 : decode cX11_change 16 = .ok (.iload_n 1, 1) := by decide +kernel
theorem dX11_change_17 : decode cX11_change 17 = .ok (.ifCond .lt 9, 3) := by decide +kernel
theorem dX11_change_20 : decode cX11_change 20 = .ok (.iload_n 1, 1) := by decide +kernel
theorem dX11_change_21 : decode cX11_change 21 = .ok (.bipush 7, 2) := by decide +kernel
theorem dX11_change_23 : decode cX11_change 23 = .ok (.if_icmp .lt 6, 3) := by decide +kernel
theorem dX11_change_26 : decode cX11_change 26 = .ok (.bipush (-2), 2) := by decide +kernel
theorem dX11_change_28 : decode cX11_change 28 = .ok (.ireturn, 1) := by decide +kernel
theorem dX11_change_29 : decode cX11_change 29 = .ok (.aload_n 0, 1) := by decide +kernel
theorem dX11_change_30 : decode cX11_change 30 = .ok (.getfield 12, 3) := by decide +kernel
theorem dX11_change_33 : decode cX11_change 33 = .ok (.getfield 118, 3) := by decide +kernel
theorem dX11_change_36 : decode cX11_change 36 = .ok (.iload_n 1, 1) := by decide +kernel
theorem dX11_change_37 : decode cX11_change 37 = .ok (.iload_n 2, 1) := by decide +kernel
theorem dX11_change_38 : decode cX11_change 38 = .ok (.aload_n 0, 1) := by decide +kernel
theorem dX11_change_39 : decode cX11_change 39 = .ok (.getfield 75, 3) := by decide +kernel
theorem dX11_change_42 : decode cX11_change 42 = .ok (.getfield 260, 3) := by decide +kernel
theorem dX11_change_45 : decode cX11_change 45 = .ok (.invokestatic 263, 3) := by decide +kernel
theorem dX11_change_48 : decode cX11_change 48 = .ok (.ifCond .ne 6, 3) := by decide +kernel
theorem dX11_change_51 : decode cX11_change 51 = .ok (.bipush (-5), 2) := by decide +kernel
theorem dX11_change_53 : decode cX11_change 53 = .ok (.ireturn, 1) := by decide +kernel
theorem dX11_change_54 : decode cX11_change 54 = .ok (.aload_n 0, 1) := by decide +kernel
theorem dX11_change_55 : decode cX11_change 55 = .ok (.getfield 12, 3) := by decide +kernel
theorem dX11_change_58 : decode cX11_change 58 = .ok (.getfield 118, 3) := by decide +kernel
theorem dX11_change_61 : decode cX11_change 61 = .ok (.aload_n 0, 1) := by decide +kernel
theorem dX11_change_62 : decode cX11_change 62 = .ok (.getfield 75, 3) := by decide +kernel
theorem dX11_change_65 : decode cX11_change 65 = .ok (.getfield 260, 3) := by decide +kernel
theorem dX11_change_68 : decode cX11_change 68 = .ok (.invokevirtual 267, 3) := by decide +kernel
theorem dX11_change_71 : decode cX11_change 71 = .ok (.aload_n 0, 1) := by decide +kernel
theorem dX11_change_72 : decode cX11_change 72 = .ok (.invokevirtual 82, 3) := by decide +kernel
theorem dX11_change_75 : decode cX11_change 75 = .ok (.aload_n 0, 1) := by decide +kernel
theorem dX11_change_76 : decode cX11_change 76 = .ok (.getfield 12, 3) := by decide +kernel
theorem dX11_change_79 : decode cX11_change 79 = .ok (.getfield 118, 3) := by decide +kernel
theorem dX11_change_82 : decode cX11_change 82 = .ok (.getfield 128, 3) := by decide +kernel
theorem dX11_change_85 : decode cX11_change 85 = .ok (.ireturn, 1) := by decide +kernel
set_option maxRecDepth 10000 in
theorem NX11_change_0 {d : Nat} {S : fW} {h : fH} {Q : Int32 → fH → Prop} {r0 : Nat} {x1 : Int32} {x2 : Int32} {r0_now r0_imageZero r0_imageOne r0_pad r0_ratio r0_rounding r0_steps r0_sums r0_allOrders r0_spans r0_search r0_now_text r0_now_numbers r0_now_spans r0_now_terms r0_now_text_signs r0_now_text_ends r0_now_text_letters r0_search_steps r0_search_once r0_search_twice r0_search_best : Nat}  
    (hs1 : (r0, shX11 r0_now r0_imageZero r0_imageOne r0_pad r0_ratio r0_rounding r0_steps r0_sums r0_allOrders r0_spans r0_search) ∈ S)
    (hs2 : (r0_now, shX2 r0_now_text r0_now_numbers r0_now_spans r0_now_terms) ∈ S)
    (hs3 : (r0_now_text, shX10 r0_now_text_signs r0_now_text_ends r0_now_text_letters) ∈ S)
    (hs4 : (r0_search, shX6 r0_search_steps r0_search_once r0_search_twice r0_search_best) ∈ S)
    (w : ∃ Q1 : Int32 → fH → Prop, OkI d mX10_has S [.ref r0_now_text, .int x2] h Q1 ∧ ∀ (v_1 : Int32) (h_1 : fH), Q1 v_1 h_1 → ((¬ v_1 = 0 → ((x1 < 0 → Q (-2 : Int32) h_1) ∧ (¬ x1 < 0 → ((x1 < (7 : Int32) → ∃ Q2 : Int32 → fH → Prop, OkI d mX5_write S [.ref r0_now_text, .int x1, .int x2, .ref r0_search_once] h_1 Q2 ∧ ∀ (v_2 : Int32) (h_2 : fH), Q2 v_2 h_2 → ((¬ v_2 = 0 → ∃ Q3 : fH → Prop, OkV d mX10_copyFrom S [.ref r0_now_text, .ref r0_search_once] h_2 Q3 ∧ ∀ (h_3 : fH), Q3 h_3 → ∃ Q4 : fH → Prop, OkV d mX11_forgetFindings S [.ref r0] h_3 Q4 ∧ ∀ (h_4 : fH), Q4 h_4 → Q (h_4.1 r0_now_text 3) h_4) ∧ (v_2 = 0 → Q (-5 : Int32) h_2))) ∧ (¬ x1 < (7 : Int32) → Q (-2 : Int32) h_1))))) ∧ (v_1 = 0 → Q (-1 : Int32) h_1))) :
    OkI (d + 1) mX11_change S [.ref r0, .int x1, .int x2] h Q := by
  refine Ok.of (by decide) (Nat.le_of_ble_eq_true rfl) ?_
  refine G_aload_n 0 rfl dX11_change_0 rfl ?_
  refine G_getr (j := r0_now) (k := 0) hs1 (q := (RX11, TX11, 12)) rfl inX11 (by decide) rfl hF_X11_12 dX11_change_1 ?_
  refine G_getr (j := r0_now_text) (k := 0) hs2 (q := (RX2, TX2, 8)) rfl inX2 (by decide) rfl hF_X11_118 dX11_change_4 ?_
  refine G_iload_n 2 rfl dX11_change_7 rfl ?_
  obtain ⟨Q1, ok1, w⟩ := w
  refine G_callV (Z := mX10_has) (As := [.int x2]) (st := []) hL_X11_131 hI_X10_has hS_X10_has hC_X10_has hN_X10 nX10_has (by decide) hs3 rfl rfl rfl (Nat.le_of_ble_eq_true rfl) dX11_change_8 ok1 (fun r_ h_1 z_ => ?_)
  obtain ⟨v_1, rfl, q_1⟩ := z_
  have w := w v_1 h_1 q_1
  refine G_if_ne (tgt := 16) dX11_change_11 (by decide) (fun c1 => ?_) (fun c1 => ?_)
  · have w := w.1 c1
    refine G_iload_n 1 rfl dX11_change_16 rfl ?_
    refine G_if_lt (tgt := 26) dX11_change_17 (by decide) (fun c2 => ?_) (fun c2 => ?_)
    · have w := w.1 c2
      refine G_bipush (v := -2) dX11_change_26 (by decide) ?_
      exact G_iret rfl dX11_change_28 ⟨_, rfl, w⟩
    · have w := w.2 c2
      refine G_iload_n 1 rfl dX11_change_20 rfl ?_
      refine G_bipush (v := 7) dX11_change_21 (by decide) ?_
      refine G_icmp_lt (tgt := 29) dX11_change_23 (by decide) (fun c3 => ?_) (fun c3 => ?_)
      · have w := w.1 c3
        refine G_aload_n 0 rfl dX11_change_29 rfl ?_
        refine G_getr (j := r0_now) (k := 0) hs1 (q := (RX11, TX11, 12)) rfl inX11 (by decide) rfl hF_X11_12 dX11_change_30 ?_
        refine G_getr (j := r0_now_text) (k := 0) hs2 (q := (RX2, TX2, 8)) rfl inX2 (by decide) rfl hF_X11_118 dX11_change_33 ?_
        refine G_iload_n 1 rfl dX11_change_36 rfl ?_
        refine G_iload_n 2 rfl dX11_change_37 rfl ?_
        refine G_aload_n 0 rfl dX11_change_38 rfl ?_
        refine G_getr (j := r0_search) (k := 11) hs1 (q := (RX11, TX11, 12)) rfl inX11 (by decide) rfl hF_X11_75 dX11_change_39 ?_
        refine G_getr (j := r0_search_once) (k := 1) hs4 (q := (RX6, TX6, 6)) rfl inX6 (by decide) rfl hF_X11_260 dX11_change_42 ?_
        obtain ⟨Q2, ok2, w⟩ := w
        refine G_callS (Z := mX5_write) (As := [.ref r0_now_text, .int x1, .int x2, .ref r0_search_once]) (st := []) hL_X11_263 hT_X5_write hC_X5_write hN_X5 nX5_write (by decide) rfl (Nat.le_of_ble_eq_true rfl) dX11_change_45 ok2 (fun r_ h_2 z_ => ?_)
        obtain ⟨v_2, rfl, q_2⟩ := z_
        have w := w v_2 h_2 q_2
        refine G_if_ne (tgt := 54) dX11_change_48 (by decide) (fun c4 => ?_) (fun c4 => ?_)
        · have w := w.1 c4
          refine G_aload_n 0 rfl dX11_change_54 rfl ?_
          refine G_getr (j := r0_now) (k := 0) hs1 (q := (RX11, TX11, 12)) rfl inX11 (by decide) rfl hF_X11_12 dX11_change_55 ?_
          refine G_getr (j := r0_now_text) (k := 0) hs2 (q := (RX2, TX2, 8)) rfl inX2 (by decide) rfl hF_X11_118 dX11_change_58 ?_
          refine G_aload_n 0 rfl dX11_change_61 rfl ?_
          refine G_getr (j := r0_search) (k := 11) hs1 (q := (RX11, TX11, 12)) rfl inX11 (by decide) rfl hF_X11_75 dX11_change_62 ?_
          refine G_getr (j := r0_search_once) (k := 1) hs4 (q := (RX6, TX6, 6)) rfl inX6 (by decide) rfl hF_X11_260 dX11_change_65 ?_
          obtain ⟨Q3, ok3, w⟩ := w
          refine G_callV (Z := mX10_copyFrom) (As := [.ref r0_search_once]) (st := []) hL_X11_267 hI_X10_copyFrom hS_X10_copyFrom hC_X10_copyFrom hN_X10 nX10_copyFrom (by decide) hs3 rfl rfl rfl (Nat.le_of_ble_eq_true rfl) dX11_change_68 ok3 (fun r_ h_3 z_ => ?_)
          obtain ⟨rfl, q_3⟩ := z_
          have w := w h_3 q_3
          refine G_aload_n 0 rfl dX11_change_71 rfl ?_
          obtain ⟨Q4, ok4, w⟩ := w
          refine G_callV (Z := mX11_forgetFindings) (As := []) (st := []) hL_X11_82 hI_X11_forgetFindings hS_X11_forgetFindings hC_X11_forgetFindings hN_X11 nX11_forgetFindings (by decide) hs1 rfl rfl rfl (Nat.le_of_ble_eq_true rfl) dX11_change_72 ok4 (fun r_ h_4 z_ => ?_)
          obtain ⟨rfl, q_4⟩ := z_
          have w := w h_4 q_4
          refine G_aload_n 0 rfl dX11_change_75 rfl ?_
          refine G_getr (j := r0_now) (k := 0) hs1 (q := (RX11, TX11, 12)) rfl inX11 (by decide) rfl hF_X11_12 dX11_change_76 ?_
          refine G_getr (j := r0_now_text) (k := 0) hs2 (q := (RX2, TX2, 8)) rfl inX2 (by decide) rfl hF_X11_118 dX11_change_79 ?_
          refine G_geti (k := 3) hs3 (q := (RX10, TX10, 4)) rfl inX10 (by decide) (Or.inl rfl) hF_X11_128 dX11_change_82 ?_
          exact G_iret rfl dX11_change_85 ⟨_, rfl, w⟩
        · have w := w.2 c4
          refine G_bipush (v := -5) dX11_change_51 (by decide) ?_
          exact G_iret rfl dX11_change_53 ⟨_, rfl, w⟩
      · have w := w.2 c3
        refine G_bipush (v := -2) dX11_change_26 (by decide) ?_
        exact G_iret rfl dX11_change_28 ⟨_, rfl, w⟩
  · have w := w.2 c1
    refine G_iconst (v := -1) dX11_change_14 (by decide) ?_
    exact G_iret rfl dX11_change_15 ⟨_, rfl, w⟩
-- LostDigits.better
theorem dX11_better_0 : decode cX11_better 0 = .ok (.iload_n 1, 1) := by decide +kernel
theorem dX11_better_1 : decode cX11_better 1 = .ok (.ifCond .lt 8, 3) := by decide +kernel
theorem dX11_better_4 : decode cX11_better 4 = .ok (.iload_n 1, 1) := by decide +kernel
theorem dX11_better_5 : decode cX11_better 5 = .ok (.iconst 2, 1) := by decide +kernel
theorem dX11_better_6 : decode cX11_better 6 = .ok (.if_icmp .le 7, 3) := by decide +kernel
theorem dX11_better_9 : decode cX11_better 9 = .ok (.ldc2_w 90, 3) := by decide +kernel
theorem dX11_better_12 : decode cX11_better 12 = .ok (.lreturn, 1) := by decide +kernel
theorem dX11_better_13 : decode cX11_better 13 = .ok (.aload_n 0, 1) := by decide +kernel
theorem dX11_better_14 : decode cX11_better 14 = .ok (.getfield 75, 3) := by decide +kernel
theorem dX11_better_17 : decode cX11_better 17 = .ok (.aload_n 0, 1) := by decide +kernel
theorem dX11_better_18 : decode cX11_better 18 = .ok (.getfield 12, 3) := by decide +kernel
theorem dX11_better_21 : decode cX11_better 21 = .ok (.iload_n 1, 1) := by decide +kernel
theorem dX11_better_22 : decode cX11_better 22 = .ok (.invokevirtual 271, 3) := by decide +kernel
theorem dX11_better_25 : decode cX11_better 25 = .ok (.aload_n 0, 1) := by decide +kernel
theorem dX11_better_26 : decode cX11_better 26 = .ok (.getfield 75, 3) := by decide +kernel
theorem dX11_better_29 : decode cX11_better 29 = .ok (.getfield 274, 3) := by decide +kernel
theorem dX11_better_32 : decode cX11_better 32 = .ok (.ldc2_w 182, 3) := by decide +kernel
theorem dX11_better_35 : decode cX11_better 35 = .ok (.lcmp, 1) := by decide +kernel
theorem dX11_better_36 : decode cX11_better 36 = .ok (.ifCond .ne 9, 3) := by decide +kernel
theorem dX11_better_39 : decode cX11_better 39 = .ok (.ldc2_w 200, 3) := by decide +kernel
theorem dX11_better_42 : decode cX11_better 42 = .ok (.goto 10, 3) := by decide +kernel
theorem dX11_better_45 : decode cX11_better 45 = .ok (.aload_n 0, 1) := by decide +kernel
theorem dX11_better_46 : decode cX11_better 46 = .ok (.getfield 75, 3) := by decide +kernel
theorem dX11_better_49 : decode cX11_better 49 = .ok (.getfield 274, 3) := by decide +kernel
theorem dX11_better_52 : decode cX11_better 52 = .ok (.lreturn, 1) := by decide +kernel
set_option maxRecDepth 10000 in
theorem NX11_better_0 {d : Nat} {S : fW} {h : fH} {Q : Int64 → fH → Prop} {r0 : Nat} {x1 : Int32} {r0_now r0_imageZero r0_imageOne r0_pad r0_ratio r0_rounding r0_steps r0_sums r0_allOrders r0_spans r0_search r0_search_steps r0_search_once r0_search_twice r0_search_best : Nat}  
    (hs1 : (r0, shX11 r0_now r0_imageZero r0_imageOne r0_pad r0_ratio r0_rounding r0_steps r0_sums r0_allOrders r0_spans r0_search) ∈ S)
    (hs2 : (r0_search, shX6 r0_search_steps r0_search_once r0_search_twice r0_search_best) ∈ S)
    (w : ((x1 < 0 → Q (-1000000000000000002 : Int64) h) ∧ (¬ x1 < 0 → ((x1 ≤ (2 : Int32) → ∃ Q1 : fH → Prop, OkV d mX6_find S [.ref r0_search, .ref r0_now, .int x1] h Q1 ∧ ∀ (h_1 : fH), Q1 h_1 → ((¬ (h_1.2.1 r0_search 4) = (1000000000000000000 : Int64) → Q (h_1.2.1 r0_search 4) h_1) ∧ ((h_1.2.1 r0_search 4) = (1000000000000000000 : Int64) → Q (-1000000000000000006 : Int64) h_1))) ∧ (¬ x1 ≤ (2 : Int32) → Q (-1000000000000000002 : Int64) h))))) :
    OkL (d + 1) mX11_better S [.ref r0, .int x1] h Q := by
  refine Ok.of (by decide) (Nat.le_of_ble_eq_true rfl) ?_
  refine G_iload_n 1 rfl dX11_better_0 rfl ?_
  refine G_if_lt (tgt := 9) dX11_better_1 (by decide) (fun c1 => ?_) (fun c1 => ?_)
  · have w := w.1 c1
    refine G_ldc2 hK_X11_90 dX11_better_9 ?_
    exact G_lret rfl dX11_better_12 ⟨_, rfl, w⟩
  · have w := w.2 c1
    refine G_iload_n 1 rfl dX11_better_4 rfl ?_
    refine G_iconst (v := 2) dX11_better_5 (by decide) ?_
    refine G_icmp_le (tgt := 13) dX11_better_6 (by decide) (fun c2 => ?_) (fun c2 => ?_)
    · have w := w.1 c2
      refine G_aload_n 0 rfl dX11_better_13 rfl ?_
      refine G_getr (j := r0_search) (k := 11) hs1 (q := (RX11, TX11, 12)) rfl inX11 (by decide) rfl hF_X11_75 dX11_better_14 ?_
      refine G_aload_n 0 rfl dX11_better_17 rfl ?_
      refine G_getr (j := r0_now) (k := 0) hs1 (q := (RX11, TX11, 12)) rfl inX11 (by decide) rfl hF_X11_12 dX11_better_18 ?_
      refine G_iload_n 1 rfl dX11_better_21 rfl ?_
      obtain ⟨Q1, ok1, w⟩ := w
      refine G_callV (Z := mX6_find) (As := [.ref r0_now, .int x1]) (st := []) hL_X11_271 hI_X6_find hS_X6_find hC_X6_find hN_X6 nX6_find (by decide) hs2 rfl rfl rfl (Nat.le_of_ble_eq_true rfl) dX11_better_22 ok1 (fun r_ h_1 z_ => ?_)
      obtain ⟨rfl, q_1⟩ := z_
      have w := w h_1 q_1
      refine G_aload_n 0 rfl dX11_better_25 rfl ?_
      refine G_getr (j := r0_search) (k := 11) hs1 (q := (RX11, TX11, 12)) rfl inX11 (by decide) rfl hF_X11_75 dX11_better_26 ?_
      refine G_getl (k := 4) hs2 (q := (RX6, TX6, 6)) rfl inX6 (by decide) rfl hF_X11_274 dX11_better_29 ?_
      refine G_ldc2 hK_X11_182 dX11_better_32 ?_
      refine G_lif_ne (tgt := 45) dX11_better_35 dX11_better_36 (by decide) (fun c3 => ?_) (fun c3 => ?_)
      · have w := w.1 c3
        refine G_aload_n 0 rfl dX11_better_45 rfl ?_
        refine G_getr (j := r0_search) (k := 11) hs1 (q := (RX11, TX11, 12)) rfl inX11 (by decide) rfl hF_X11_75 dX11_better_46 ?_
        refine G_getl (k := 4) hs2 (q := (RX6, TX6, 6)) rfl inX6 (by decide) rfl hF_X11_274 dX11_better_49 ?_
        exact G_lret rfl dX11_better_52 ⟨_, rfl, w⟩
      · have w := w.2 c3
        refine G_ldc2 hK_X11_200 dX11_better_39 ?_
        refine G_goto (tgt := 52) dX11_better_42 (by decide) ?_
        exact G_lret rfl dX11_better_52 ⟨_, rfl, w⟩
    · have w := w.2 c2
      refine G_ldc2 hK_X11_90 dX11_better_9 ?_
      exact G_lret rfl dX11_better_12 ⟨_, rfl, w⟩
-- LostDigits.betterSign
theorem dX11_betterSign_0 : decode cX11_betterSign 0 = .ok (.iload_n 1, 1) := by decide +kernel
theorem dX11_betterSign_1 : decode cX11_betterSign 1 = .ok (.ifCond .lt 8, 3) := by decide +kernel
theorem dX11_betterSign_4 : decode cX11_betterSign 4 = .ok (.iload_n 1, 1) := by decide +kernel
theorem dX11_betterSign_5 : decode cX11_betterSign 5 = .ok (.iconst 2, 1) := by decide +kernel
theorem dX11_betterSign_6 : decode cX11_betterSign 6 = .ok (.if_icmp .le 6, 3) := by decide +kernel
theorem dX11_betterSign_9 : decode cX11_betterSign 9 = .ok (.bipush (-2), 2) := by decide +kernel
theorem dX11_betterSign_11 : decode cX11_betterSign 11 = .ok (.ireturn, 1) := by decide +kernel
theorem dX11_betterSign_12 : decode cX11_betterSign 12 = .ok (.aload_n 0, 1) := by decide +kernel
theorem dX11_betterSign_13 : decode cX11_betterSign 13 = .ok (.getfield 75, 3) := by decide +kernel
theorem dX11_betterSign_16 : decode cX11_betterSign 16 = .ok (.aload_n 0, 1) := by decide +kernel
theorem dX11_betterSign_17 : decode cX11_betterSign 17 = .ok (.getfield 12, 3) := by decide +kernel
theorem dX11_betterSign_20 : decode cX11_betterSign 20 = .ok (.iload_n 1, 1) := by decide +kernel
theorem dX11_betterSign_21 : decode cX11_betterSign 21 = .ok (.invokevirtual 271, 3) := by decide +kernel
theorem dX11_betterSign_24 : decode cX11_betterSign 24 = .ok (.aload_n 0, 1) := by decide +kernel
theorem dX11_betterSign_25 : decode cX11_betterSign 25 = .ok (.getfield 75, 3) := by decide +kernel
theorem dX11_betterSign_28 : decode cX11_betterSign 28 = .ok (.getfield 274, 3) := by decide +kernel
theorem dX11_betterSign_31 : decode cX11_betterSign 31 = .ok (.ldc2_w 182, 3) := by decide +kernel
theorem dX11_betterSign_34 : decode cX11_betterSign 34 = .ok (.lcmp, 1) := by decide +kernel
theorem dX11_betterSign_35 : decode cX11_betterSign 35 = .ok (.ifCond .ne 6, 3) := by decide +kernel
theorem dX11_betterSign_38 : decode cX11_betterSign 38 = .ok (.bipush (-6), 2) := by decide +kernel
theorem dX11_betterSign_40 : decode cX11_betterSign 40 = .ok (.ireturn, 1) := by decide +kernel
theorem dX11_betterSign_41 : decode cX11_betterSign 41 = .ok (.iload_n 2, 1) := by decide +kernel
theorem dX11_betterSign_42 : decode cX11_betterSign 42 = .ok (.iconst (-1), 1) := by decide +kernel
theorem dX11_betterSign_43 : decode cX11_betterSign 43 = .ok (.if_icmp .ne 14, 3) := by decide +kernel
theorem dX11_betterSign_46 : decode cX11_betterSign 46 = .ok (.aload_n 0, 1) := by decide +kernel
theorem dX11_betterSign_47 : decode cX11_betterSign 47 = .ok (.getfield 75, 3) := by decide +kernel
theorem dX11_betterSign_50 : decode cX11_betterSign 50 = .ok (.getfield 277, 3) := by decide +kernel
theorem dX11_betterSign_53 : decode cX11_betterSign 53 = .ok (.getfield 128, 3) := by decide +kernel
theorem dX11_betterSign_56 : decode cX11_betterSign 56 = .ok (.ireturn, 1) := by decide +kernel
theorem dX11_betterSign_57 : decode cX11_betterSign 57 = .ok (.aload_n 0, 1) := by decide +kernel
theorem dX11_betterSign_58 : decode cX11_betterSign 58 = .ok (.getfield 75, 3) := by decide +kernel
theorem dX11_betterSign_61 : decode cX11_betterSign 61 = .ok (.getfield 277, 3) := by decide +kernel
theorem dX11_betterSign_64 : decode cX11_betterSign 64 = .ok (.iload_n 2, 1) := by decide +kernel
theorem dX11_betterSign_65 : decode cX11_betterSign 65 = .ok (.invokevirtual 131, 3) := by decide +kernel
theorem dX11_betterSign_68 : decode cX11_betterSign 68 = .ok (.ifCond .eq 17, 3) := by decide +kernel
theorem dX11_betterSign_71 : decode cX11_betterSign 71 = .ok (.aload_n 0, 1) := by decide +kernel
theorem dX11_betterSign_72 : decode cX11_betterSign 72 = .ok (.getfield 75, 3) := by decide +kernel
theorem dX11_betterSign_75 : decode cX11_betterSign 75 = .ok (.getfield 277, 3) := by decide +kernel
theorem dX11_betterSign_78 : decode cX11_betterSign 78 = .ok (.iload_n 2, 1) := by decide +kernel
theorem dX11_betterSign_79 : decode cX11_betterSign 79 = .ok (.invokevirtual 134, 3) := by decide +kernel
theorem dX11_betterSign_82 : decode cX11_betterSign 82 = .ok (.goto 5, 3) := by decide +kernel
theorem dX11_betterSign_85 : decode cX11_betterSign 85 = .ok (.bipush (-6), 2) := by decide +kernel
theorem dX11_betterSign_87 : decode cX11_betterSign 87 = .ok (.ireturn, 1) := by decide +kernel
set_option maxRecDepth 10000 in
theorem NX11_betterSign_0 {d : Nat} {S : fW} {h : fH} {Q : Int32 → fH → Prop} {r0 : Nat} {x1 : Int32} {x2 : Int32} {r0_now r0_imageZero r0_imageOne r0_pad r0_ratio r0_rounding r0_steps r0_sums r0_allOrders r0_spans r0_search r0_search_steps r0_search_once r0_search_twice r0_search_best r0_search_best_signs r0_search_best_ends r0_search_best_letters : Nat}  
    (hs1 : (r0, shX11 r0_now r0_imageZero r0_imageOne r0_pad r0_ratio r0_rounding r0_steps r0_sums r0_allOrders r0_spans r0_search) ∈ S)
    (hs2 : (r0_search, shX6 r0_search_steps r0_search_once r0_search_twice r0_search_best) ∈ S)
    (hs3 : (r0_search_best, shX10 r0_search_best_signs r0_search_best_ends r0_search_best_letters) ∈ S)
    (w : ((x1 < 0 → Q (-2 : Int32) h) ∧ (¬ x1 < 0 → ((x1 ≤ (2 : Int32) → ∃ Q1 : fH → Prop, OkV d mX6_find S [.ref r0_search, .ref r0_now, .int x1] h Q1 ∧ ∀ (h_1 : fH), Q1 h_1 → ((¬ (h_1.2.1 r0_search 4) = (1000000000000000000 : Int64) → ((¬ x2 = (-1 : Int32) → ∃ Q2 : Int32 → fH → Prop, OkI d mX10_has S [.ref r0_search_best, .int x2] h_1 Q2 ∧ ∀ (v_2 : Int32) (h_2 : fH), Q2 v_2 h_2 → ((v_2 = 0 → Q (-6 : Int32) h_2) ∧ (¬ v_2 = 0 → ∃ Q3 : Int32 → fH → Prop, OkI d mX10_signAt S [.ref r0_search_best, .int x2] h_2 Q3 ∧ ∀ (v_3 : Int32) (h_3 : fH), Q3 v_3 h_3 → Q v_3 h_3))) ∧ (x2 = (-1 : Int32) → Q (h_1.1 r0_search_best 3) h_1))) ∧ ((h_1.2.1 r0_search 4) = (1000000000000000000 : Int64) → Q (-6 : Int32) h_1))) ∧ (¬ x1 ≤ (2 : Int32) → Q (-2 : Int32) h))))) :
    OkI (d + 1) mX11_betterSign S [.ref r0, .int x1, .int x2] h Q := by
  refine Ok.of (by decide) (Nat.le_of_ble_eq_true rfl) ?_
  refine G_iload_n 1 rfl dX11_betterSign_0 rfl ?_
  refine G_if_lt (tgt := 9) dX11_betterSign_1 (by decide) (fun c1 => ?_) (fun c1 => ?_)
  · have w := w.1 c1
    refine G_bipush (v := -2) dX11_betterSign_9 (by decide) ?_
    exact G_iret rfl dX11_betterSign_11 ⟨_, rfl, w⟩
  · have w := w.2 c1
    refine G_iload_n 1 rfl dX11_betterSign_4 rfl ?_
    refine G_iconst (v := 2) dX11_betterSign_5 (by decide) ?_
    refine G_icmp_le (tgt := 12) dX11_betterSign_6 (by decide) (fun c2 => ?_) (fun c2 => ?_)
    · have w := w.1 c2
      refine G_aload_n 0 rfl dX11_betterSign_12 rfl ?_
      refine G_getr (j := r0_search) (k := 11) hs1 (q := (RX11, TX11, 12)) rfl inX11 (by decide) rfl hF_X11_75 dX11_betterSign_13 ?_
      refine G_aload_n 0 rfl dX11_betterSign_16 rfl ?_
      refine G_getr (j := r0_now) (k := 0) hs1 (q := (RX11, TX11, 12)) rfl inX11 (by decide) rfl hF_X11_12 dX11_betterSign_17 ?_
      refine G_iload_n 1 rfl dX11_betterSign_20 rfl ?_
      obtain ⟨Q1, ok1, w⟩ := w
      refine G_callV (Z := mX6_find) (As := [.ref r0_now, .int x1]) (st := []) hL_X11_271 hI_X6_find hS_X6_find hC_X6_find hN_X6 nX6_find (by decide) hs2 rfl rfl rfl (Nat.le_of_ble_eq_true rfl) dX11_betterSign_21 ok1 (fun r_ h_1 z_ => ?_)
      obtain ⟨rfl, q_1⟩ := z_
      have w := w h_1 q_1
      refine G_aload_n 0 rfl dX11_betterSign_24 rfl ?_
      refine G_getr (j := r0_search) (k := 11) hs1 (q := (RX11, TX11, 12)) rfl inX11 (by decide) rfl hF_X11_75 dX11_betterSign_25 ?_
      refine G_getl (k := 4) hs2 (q := (RX6, TX6, 6)) rfl inX6 (by decide) rfl hF_X11_274 dX11_betterSign_28 ?_
      refine G_ldc2 hK_X11_182 dX11_betterSign_31 ?_
      refine G_lif_ne (tgt := 41) dX11_betterSign_34 dX11_betterSign_35 (by decide) (fun c3 => ?_) (fun c3 => ?_)
      · have w := w.1 c3
        refine G_iload_n 2 rfl dX11_betterSign_41 rfl ?_
        refine G_iconst (v := -1) dX11_betterSign_42 (by decide) ?_
        refine G_icmp_ne (tgt := 57) dX11_betterSign_43 (by decide) (fun c4 => ?_) (fun c4 => ?_)
        · have w := w.1 c4
          refine G_aload_n 0 rfl dX11_betterSign_57 rfl ?_
          refine G_getr (j := r0_search) (k := 11) hs1 (q := (RX11, TX11, 12)) rfl inX11 (by decide) rfl hF_X11_75 dX11_betterSign_58 ?_
          refine G_getr (j := r0_search_best) (k := 3) hs2 (q := (RX6, TX6, 6)) rfl inX6 (by decide) rfl hF_X11_277 dX11_betterSign_61 ?_
          refine G_iload_n 2 rfl dX11_betterSign_64 rfl ?_
          obtain ⟨Q2, ok2, w⟩ := w
          refine G_callV (Z := mX10_has) (As := [.int x2]) (st := []) hL_X11_131 hI_X10_has hS_X10_has hC_X10_has hN_X10 nX10_has (by decide) hs3 rfl rfl rfl (Nat.le_of_ble_eq_true rfl) dX11_betterSign_65 ok2 (fun r_ h_2 z_ => ?_)
          obtain ⟨v_2, rfl, q_2⟩ := z_
          have w := w v_2 h_2 q_2
          refine G_if_eq (tgt := 85) dX11_betterSign_68 (by decide) (fun c5 => ?_) (fun c5 => ?_)
          · have w := w.1 c5
            refine G_bipush (v := -6) dX11_betterSign_85 (by decide) ?_
            exact G_iret rfl dX11_betterSign_87 ⟨_, rfl, w⟩
          · have w := w.2 c5
            refine G_aload_n 0 rfl dX11_betterSign_71 rfl ?_
            refine G_getr (j := r0_search) (k := 11) hs1 (q := (RX11, TX11, 12)) rfl inX11 (by decide) rfl hF_X11_75 dX11_betterSign_72 ?_
            refine G_getr (j := r0_search_best) (k := 3) hs2 (q := (RX6, TX6, 6)) rfl inX6 (by decide) rfl hF_X11_277 dX11_betterSign_75 ?_
            refine G_iload_n 2 rfl dX11_betterSign_78 rfl ?_
            obtain ⟨Q3, ok3, w⟩ := w
            refine G_callV (Z := mX10_signAt) (As := [.int x2]) (st := []) hL_X11_134 hI_X10_signAt hS_X10_signAt hC_X10_signAt hN_X10 nX10_signAt (by decide) hs3 rfl rfl rfl (Nat.le_of_ble_eq_true rfl) dX11_betterSign_79 ok3 (fun r_ h_3 z_ => ?_)
            obtain ⟨v_3, rfl, q_3⟩ := z_
            have w := w v_3 h_3 q_3
            refine G_goto (tgt := 87) dX11_betterSign_82 (by decide) ?_
            exact G_iret rfl dX11_betterSign_87 ⟨_, rfl, w⟩
        · have w := w.2 c4
          refine G_aload_n 0 rfl dX11_betterSign_46 rfl ?_
          refine G_getr (j := r0_search) (k := 11) hs1 (q := (RX11, TX11, 12)) rfl inX11 (by decide) rfl hF_X11_75 dX11_betterSign_47 ?_
          refine G_getr (j := r0_search_best) (k := 3) hs2 (q := (RX6, TX6, 6)) rfl inX6 (by decide) rfl hF_X11_277 dX11_betterSign_50 ?_
          refine G_geti (k := 3) hs3 (q := (RX10, TX10, 4)) rfl inX10 (by decide) (Or.inl rfl) hF_X11_128 dX11_betterSign_53 ?_
          exact G_iret rfl dX11_betterSign_56 ⟨_, rfl, w⟩
      · have w := w.2 c3
        refine G_bipush (v := -6) dX11_betterSign_38 (by decide) ?_
        exact G_iret rfl dX11_betterSign_40 ⟨_, rfl, w⟩
    · have w := w.2 c2
      refine G_bipush (v := -2) dX11_betterSign_9 (by decide) ?_
      exact G_iret rfl dX11_betterSign_11 ⟨_, rfl, w⟩
-- LostDigits.image
theorem dX11_image_0 : decode cX11_image 0 = .ok (.iload_n 1, 1) := by decide +kernel
theorem dX11_image_1 : decode cX11_image 1 = .ok (.ifCond .lt 8, 3) := by decide +kernel
theorem dX11_image_4 : decode cX11_image 4 = .ok (.iload_n 1, 1) := by decide +kernel
theorem dX11_image_5 : decode cX11_image 5 = .ok (.iconst 1, 1) := by decide +kernel
theorem dX11_image_6 : decode cX11_image 6 = .ok (.if_icmp .le 6, 3) := by decide +kernel
theorem dX11_image_9 : decode cX11_image 9 = .ok (.bipush (-2), 2) := by decide +kernel
theorem dX11_image_11 : decode cX11_image 11 = .ok (.ireturn, 1) := by decide +kernel
theorem dX11_image_12 : decode cX11_image 12 = .ok (.iload_n 1, 1) := by decide +kernel
theorem dX11_image_13 : decode cX11_image 13 = .ok (.ifCond .ne 10, 3) := by decide +kernel
theorem dX11_image_16 : decode cX11_image 16 = .ok (.aload_n 0, 1) := by decide +kernel
theorem dX11_image_17 : decode cX11_image 17 = .ok (.getfield 16, 3) := by decide +kernel
theorem dX11_image_20 : decode cX11_image 20 = .ok (.goto 7, 3) := by decide +kernel
theorem dX11_image_23 : decode cX11_image 23 = .ok (.aload_n 0, 1) := by decide +kernel
theorem dX11_image_24 : decode cX11_image 24 = .ok (.getfield 19, 3) := by decide +kernel
theorem dX11_image_27 : decode cX11_image 27 = .ok (.astore_n 2, 1) := by decide +kernel
theorem dX11_image_28 : decode cX11_image 28 = .ok (.aload_n 2, 1) := by decide +kernel
theorem dX11_image_29 : decode cX11_image 29 = .ok (.aload_n 0, 1) := by decide +kernel
theorem dX11_image_30 : decode cX11_image 30 = .ok (.getfield 12, 3) := by decide +kernel
theorem dX11_image_33 : decode cX11_image 33 = .ok (.invokevirtual 280, 3) := by decide +kernel
theorem dX11_image_36 : decode cX11_image 36 = .ok (.aload_n 2, 1) := by decide +kernel
theorem dX11_image_37 : decode cX11_image 37 = .ok (.iconst 1, 1) := by decide +kernel
theorem dX11_image_38 : decode cX11_image 38 = .ok (.putfield 282, 3) := by decide +kernel
theorem dX11_image_41 : decode cX11_image 41 = .ok (.iconst 1, 1) := by decide +kernel
theorem dX11_image_42 : decode cX11_image 42 = .ok (.ireturn, 1) := by decide +kernel
set_option maxRecDepth 10000 in
theorem NX11_image_0 {d : Nat} {S : fW} {h : fH} {Q : Int32 → fH → Prop} {r0 : Nat} {x1 : Int32} {r0_now r0_imageZero r0_imageOne r0_pad r0_ratio r0_rounding r0_steps r0_sums r0_allOrders r0_spans r0_search r0_imageOne_text r0_imageOne_numbers r0_imageOne_spans r0_imageOne_terms r0_imageZero_text r0_imageZero_numbers r0_imageZero_spans r0_imageZero_terms : Nat}  
    (hs1 : (r0, shX11 r0_now r0_imageZero r0_imageOne r0_pad r0_ratio r0_rounding r0_steps r0_sums r0_allOrders r0_spans r0_search) ∈ S)
    (hs2 : (r0_imageOne, shX2 r0_imageOne_text r0_imageOne_numbers r0_imageOne_spans r0_imageOne_terms) ∈ S)
    (hs3 : (r0_imageZero, shX2 r0_imageZero_text r0_imageZero_numbers r0_imageZero_spans r0_imageZero_terms) ∈ S)
    (w : ((x1 < 0 → Q (-2 : Int32) h) ∧ (¬ x1 < 0 → ((x1 ≤ (1 : Int32) → ((¬ x1 = 0 → ∃ Q1 : fH → Prop, OkV d mX2_copyFrom S [.ref r0_imageOne, .ref r0_now] h Q1 ∧ ∀ (h_1 : fH), Q1 h_1 → ∀ g_1 : fH, g_1 = u_fi h_1 r0_imageOne 7 (1 : Int32) → Q (1 : Int32) g_1) ∧ (x1 = 0 → ∃ Q2 : fH → Prop, OkV d mX2_copyFrom S [.ref r0_imageZero, .ref r0_now] h Q2 ∧ ∀ (h_2 : fH), Q2 h_2 → ∀ g_2 : fH, g_2 = u_fi h_2 r0_imageZero 7 (1 : Int32) → Q (1 : Int32) g_2))) ∧ (¬ x1 ≤ (1 : Int32) → Q (-2 : Int32) h))))) :
    OkI (d + 1) mX11_image S [.ref r0, .int x1] h Q := by
  refine Ok.of (by decide) (Nat.le_of_ble_eq_true rfl) ?_
  refine G_iload_n 1 rfl dX11_image_0 rfl ?_
  refine G_if_lt (tgt := 9) dX11_image_1 (by decide) (fun c1 => ?_) (fun c1 => ?_)
  · have w := w.1 c1
    refine G_bipush (v := -2) dX11_image_9 (by decide) ?_
    exact G_iret rfl dX11_image_11 ⟨_, rfl, w⟩
  · have w := w.2 c1
    refine G_iload_n 1 rfl dX11_image_4 rfl ?_
    refine G_iconst (v := 1) dX11_image_5 (by decide) ?_
    refine G_icmp_le (tgt := 12) dX11_image_6 (by decide) (fun c2 => ?_) (fun c2 => ?_)
    · have w := w.1 c2
      refine G_iload_n 1 rfl dX11_image_12 rfl ?_
      refine G_if_ne (tgt := 23) dX11_image_13 (by decide) (fun c3 => ?_) (fun c3 => ?_)
      · have w := w.1 c3
        refine G_aload_n 0 rfl dX11_image_23 rfl ?_
        refine G_getr (j := r0_imageOne) (k := 2) hs1 (q := (RX11, TX11, 12)) rfl inX11 (by decide) rfl hF_X11_19 dX11_image_24 ?_
        refine G_astore_n dX11_image_27 rfl (by decide) (lv' := [(2, .ref r0_imageOne), (0, .ref r0), (1, .int x1)]) rfl ?_
        refine G_aload_n 0 rfl dX11_image_28 rfl ?_
        refine G_aload_n 1 rfl dX11_image_29 rfl ?_
        refine G_getr (j := r0_now) (k := 0) hs1 (q := (RX11, TX11, 12)) rfl inX11 (by decide) rfl hF_X11_12 dX11_image_30 ?_
        obtain ⟨Q1, ok1, w⟩ := w
        refine G_callV (Z := mX2_copyFrom) (As := [.ref r0_now]) (st := []) hL_X11_280 hI_X2_copyFrom hS_X2_copyFrom hC_X2_copyFrom hN_X2 nX2_copyFrom (by decide) hs2 rfl rfl rfl (Nat.le_of_ble_eq_true rfl) dX11_image_33 ok1 (fun r_ h_1 z_ => ?_)
        obtain ⟨rfl, q_1⟩ := z_
        have w := w h_1 q_1
        refine G_aload_n 0 rfl dX11_image_36 rfl ?_
        refine G_iconst (v := 1) dX11_image_37 (by decide) ?_
        refine G_putz (k := 7) tyX2 hs2 (q := (RX2, TX2, 8)) rfl inX2 tyX2_ok nmX2 (by decide) rfl rfl rfl (Or.inr rfl) hF_X11_282 dX11_image_38 ?_
        refine G_nm (fun g_1 e_1 => ?_)
        have w := w g_1 e_1
        refine G_iconst (v := 1) dX11_image_41 (by decide) ?_
        exact G_iret rfl dX11_image_42 ⟨_, rfl, w⟩
      · have w := w.2 c3
        refine G_aload_n 0 rfl dX11_image_16 rfl ?_
        refine G_getr (j := r0_imageZero) (k := 1) hs1 (q := (RX11, TX11, 12)) rfl inX11 (by decide) rfl hF_X11_16 dX11_image_17 ?_
        refine G_goto (tgt := 27) dX11_image_20 (by decide) ?_
        refine G_astore_n dX11_image_27 rfl (by decide) (lv' := [(2, .ref r0_imageZero), (0, .ref r0), (1, .int x1)]) rfl ?_
        refine G_aload_n 0 rfl dX11_image_28 rfl ?_
        refine G_aload_n 1 rfl dX11_image_29 rfl ?_
        refine G_getr (j := r0_now) (k := 0) hs1 (q := (RX11, TX11, 12)) rfl inX11 (by decide) rfl hF_X11_12 dX11_image_30 ?_
        obtain ⟨Q2, ok2, w⟩ := w
        refine G_callV (Z := mX2_copyFrom) (As := [.ref r0_now]) (st := []) hL_X11_280 hI_X2_copyFrom hS_X2_copyFrom hC_X2_copyFrom hN_X2 nX2_copyFrom (by decide) hs3 rfl rfl rfl (Nat.le_of_ble_eq_true rfl) dX11_image_33 ok2 (fun r_ h_2 z_ => ?_)
        obtain ⟨rfl, q_2⟩ := z_
        have w := w h_2 q_2
        refine G_aload_n 0 rfl dX11_image_36 rfl ?_
        refine G_iconst (v := 1) dX11_image_37 (by decide) ?_
        refine G_putz (k := 7) tyX2 hs3 (q := (RX2, TX2, 8)) rfl inX2 tyX2_ok nmX2 (by decide) rfl rfl rfl (Or.inr rfl) hF_X11_282 dX11_image_38 ?_
        refine G_nm (fun g_2 e_2 => ?_)
        have w := w g_2 e_2
        refine G_iconst (v := 1) dX11_image_41 (by decide) ?_
        exact G_iret rfl dX11_image_42 ⟨_, rfl, w⟩
    · have w := w.2 c2
      refine G_bipush (v := -2) dX11_image_9 (by decide) ?_
      exact G_iret rfl dX11_image_11 ⟨_, rfl, w⟩
-- LostDigits.restore
theorem dX11_restore_0 : decode cX11_restore 0 = .ok (.iload_n 1, 1) := by decide +kernel
theorem dX11_restore_1 : decode cX11_restore 1 = .ok (.ifCond .lt 8, 3) := by decide +kernel
theorem dX11_restore_4 : decode cX11_restore 4 = .ok (.iload_n 1, 1) := by decide +kernel
theorem dX11_restore_5 : decode cX11_restore 5 = .ok (.iconst 1, 1) := by decide +kernel
theorem dX11_restore_6 : decode cX11_restore 6 = .ok (.if_icmp .le 6, 3) := by decide +kernel
theorem dX11_restore_9 : decode cX11_restore 9 = .ok (.bipush (-2), 2) := by decide +kernel
theorem dX11_restore_11 : decode cX11_restore 11 = .ok (.ireturn, 1) := by decide +kernel
theorem dX11_restore_12 : decode cX11_restore 12 = .ok (.iload_n 1, 1) := by decide +kernel
theorem dX11_restore_13 : decode cX11_restore 13 = .ok (.ifCond .ne 10, 3) := by decide +kernel
theorem dX11_restore_16 : decode cX11_restore 16 = .ok (.aload_n 0, 1) := by decide +kernel
theorem dX11_restore_17 : decode cX11_restore 17 = .ok (.getfield 16, 3) := by decide +kernel
theorem dX11_restore_20 : decode cX11_restore 20 = .ok (.goto 7, 3) := by decide +kernel
theorem dX11_restore_23 : decode cX11_restore 23 = .ok (.aload_n 0, 1) := by decide +kernel
theorem dX11_restore_24 : decode cX11_restore 24 = .ok (.getfield 19, 3) := by decide +kernel
theorem dX11_restore_27 : decode cX11_restore 27 = .ok (.astore_n 2, 1) := by decide +kernel
theorem dX11_restore_28 : decode cX11_restore 28 = .ok (.aload_n 2, 1) := by decide +kernel
theorem dX11_restore_29 : decode cX11_restore 29 = .ok (.getfield 282, 3) := by decide +kernel
theorem dX11_restore_32 : decode cX11_restore 32 = .ok (.ifCond .ne 6, 3) := by decide +kernel
theorem dX11_restore_35 : decode cX11_restore 35 = .ok (.bipush (-3), 2) := by decide +kernel
theorem dX11_restore_37 : decode cX11_restore 37 = .ok (.ireturn, 1) := by decide +kernel
theorem dX11_restore_38 : decode cX11_restore 38 = .ok (.aload_n 0, 1) := by decide +kernel
theorem dX11_restore_39 : decode cX11_restore 39 = .ok (.getfield 12, 3) := by decide +kernel
theorem dX11_restore_42 : decode cX11_restore 42 = .ok (.aload_n 2, 1) := by decide +kernel
theorem dX11_restore_43 : decode cX11_restore 43 = .ok (.invokevirtual 280, 3) := by decide +kernel
theorem dX11_restore_46 : decode cX11_restore 46 = .ok (.aload_n 0, 1) := by decide +kernel
theorem dX11_restore_47 : decode cX11_restore 47 = .ok (.invokevirtual 82, 3) := by decide +kernel
theorem dX11_restore_50 : decode cX11_restore 50 = .ok (.iconst 1, 1) := by decide +kernel
theorem dX11_restore_51 : decode cX11_restore 51 = .ok (.ireturn, 1) := by decide +kernel
set_option maxRecDepth 10000 in
theorem NX11_restore_0 {d : Nat} {S : fW} {h : fH} {Q : Int32 → fH → Prop} {r0 : Nat} {x1 : Int32} {r0_now r0_imageZero r0_imageOne r0_pad r0_ratio r0_rounding r0_steps r0_sums r0_allOrders r0_spans r0_search r0_imageOne_text r0_imageOne_numbers r0_imageOne_spans r0_imageOne_terms r0_now_text r0_now_numbers r0_now_spans r0_now_terms r0_imageZero_text r0_imageZero_numbers r0_imageZero_spans r0_imageZero_terms : Nat}  
    (hs1 : (r0, shX11 r0_now r0_imageZero r0_imageOne r0_pad r0_ratio r0_rounding r0_steps r0_sums r0_allOrders r0_spans r0_search) ∈ S)
    (hs2 : (r0_imageOne, shX2 r0_imageOne_text r0_imageOne_numbers r0_imageOne_spans r0_imageOne_terms) ∈ S)
    (hs3 : (r0_now, shX2 r0_now_text r0_now_numbers r0_now_spans r0_now_terms) ∈ S)
    (hs4 : (r0_imageZero, shX2 r0_imageZero_text r0_imageZero_numbers r0_imageZero_spans r0_imageZero_terms) ∈ S)
    (w : ((x1 < 0 → Q (-2 : Int32) h) ∧ (¬ x1 < 0 → ((x1 ≤ (1 : Int32) → ((¬ x1 = 0 → ((¬ (h.1 r0_imageOne 7) = 0 → ∃ Q1 : fH → Prop, OkV d mX2_copyFrom S [.ref r0_now, .ref r0_imageOne] h Q1 ∧ ∀ (h_1 : fH), Q1 h_1 → ∃ Q2 : fH → Prop, OkV d mX11_forgetFindings S [.ref r0] h_1 Q2 ∧ ∀ (h_2 : fH), Q2 h_2 → Q (1 : Int32) h_2) ∧ ((h.1 r0_imageOne 7) = 0 → Q (-3 : Int32) h))) ∧ (x1 = 0 → ((¬ (h.1 r0_imageZero 7) = 0 → ∃ Q3 : fH → Prop, OkV d mX2_copyFrom S [.ref r0_now, .ref r0_imageZero] h Q3 ∧ ∀ (h_3 : fH), Q3 h_3 → ∃ Q4 : fH → Prop, OkV d mX11_forgetFindings S [.ref r0] h_3 Q4 ∧ ∀ (h_4 : fH), Q4 h_4 → Q (1 : Int32) h_4) ∧ ((h.1 r0_imageZero 7) = 0 → Q (-3 : Int32) h))))) ∧ (¬ x1 ≤ (1 : Int32) → Q (-2 : Int32) h))))) :
    OkI (d + 1) mX11_restore S [.ref r0, .int x1] h Q := by
  refine Ok.of (by decide) (Nat.le_of_ble_eq_true rfl) ?_
  refine G_iload_n 1 rfl dX11_restore_0 rfl ?_
  refine G_if_lt (tgt := 9) dX11_restore_1 (by decide) (fun c1 => ?_) (fun c1 => ?_)
  · have w := w.1 c1
    refine G_bipush (v := -2) dX11_restore_9 (by decide) ?_
    exact G_iret rfl dX11_restore_11 ⟨_, rfl, w⟩
  · have w := w.2 c1
    refine G_iload_n 1 rfl dX11_restore_4 rfl ?_
    refine G_iconst (v := 1) dX11_restore_5 (by decide) ?_
    refine G_icmp_le (tgt := 12) dX11_restore_6 (by decide) (fun c2 => ?_) (fun c2 => ?_)
    · have w := w.1 c2
      refine G_iload_n 1 rfl dX11_restore_12 rfl ?_
      refine G_if_ne (tgt := 23) dX11_restore_13 (by decide) (fun c3 => ?_) (fun c3 => ?_)
      · have w := w.1 c3
        refine G_aload_n 0 rfl dX11_restore_23 rfl ?_
        refine G_getr (j := r0_imageOne) (k := 2) hs1 (q := (RX11, TX11, 12)) rfl inX11 (by decide) rfl hF_X11_19 dX11_restore_24 ?_
        refine G_astore_n dX11_restore_27 rfl (by decide) (lv' := [(2, .ref r0_imageOne), (0, .ref r0), (1, .int x1)]) rfl ?_
        refine G_aload_n 0 rfl dX11_restore_28 rfl ?_
        refine G_geti (k := 7) hs2 (q := (RX2, TX2, 8)) rfl inX2 (by decide) (Or.inr rfl) hF_X11_282 dX11_restore_29 ?_
        refine G_if_ne (tgt := 38) dX11_restore_32 (by decide) (fun c4 => ?_) (fun c4 => ?_)
        · have w := w.1 c4
          refine G_aload_n 1 rfl dX11_restore_38 rfl ?_
          refine G_getr (j := r0_now) (k := 0) hs1 (q := (RX11, TX11, 12)) rfl inX11 (by decide) rfl hF_X11_12 dX11_restore_39 ?_
          refine G_aload_n 0 rfl dX11_restore_42 rfl ?_
          obtain ⟨Q1, ok1, w⟩ := w
          refine G_callV (Z := mX2_copyFrom) (As := [.ref r0_imageOne]) (st := []) hL_X11_280 hI_X2_copyFrom hS_X2_copyFrom hC_X2_copyFrom hN_X2 nX2_copyFrom (by decide) hs3 rfl rfl rfl (Nat.le_of_ble_eq_true rfl) dX11_restore_43 ok1 (fun r_ h_1 z_ => ?_)
          obtain ⟨rfl, q_1⟩ := z_
          have w := w h_1 q_1
          refine G_aload_n 1 rfl dX11_restore_46 rfl ?_
          obtain ⟨Q2, ok2, w⟩ := w
          refine G_callV (Z := mX11_forgetFindings) (As := []) (st := []) hL_X11_82 hI_X11_forgetFindings hS_X11_forgetFindings hC_X11_forgetFindings hN_X11 nX11_forgetFindings (by decide) hs1 rfl rfl rfl (Nat.le_of_ble_eq_true rfl) dX11_restore_47 ok2 (fun r_ h_2 z_ => ?_)
          obtain ⟨rfl, q_2⟩ := z_
          have w := w h_2 q_2
          refine G_iconst (v := 1) dX11_restore_50 (by decide) ?_
          exact G_iret rfl dX11_restore_51 ⟨_, rfl, w⟩
        · have w := w.2 c4
          refine G_bipush (v := -3) dX11_restore_35 (by decide) ?_
          exact G_iret rfl dX11_restore_37 ⟨_, rfl, w⟩
      · have w := w.2 c3
        refine G_aload_n 0 rfl dX11_restore_16 rfl ?_
        refine G_getr (j := r0_imageZero) (k := 1) hs1 (q := (RX11, TX11, 12)) rfl inX11 (by decide) rfl hF_X11_16 dX11_restore_17 ?_
        refine G_goto (tgt := 27) dX11_restore_20 (by decide) ?_
        refine G_astore_n dX11_restore_27 rfl (by decide) (lv' := [(2, .ref r0_imageZero), (0, .ref r0), (1, .int x1)]) rfl ?_
        refine G_aload_n 0 rfl dX11_restore_28 rfl ?_
        refine G_geti (k := 7) hs4 (q := (RX2, TX2, 8)) rfl inX2 (by decide) (Or.inr rfl) hF_X11_282 dX11_restore_29 ?_
        refine G_if_ne (tgt := 38) dX11_restore_32 (by decide) (fun c4 => ?_) (fun c4 => ?_)
        · have w := w.1 c4
          refine G_aload_n 1 rfl dX11_restore_38 rfl ?_
          refine G_getr (j := r0_now) (k := 0) hs1 (q := (RX11, TX11, 12)) rfl inX11 (by decide) rfl hF_X11_12 dX11_restore_39 ?_
          refine G_aload_n 0 rfl dX11_restore_42 rfl ?_
          obtain ⟨Q3, ok3, w⟩ := w
          refine G_callV (Z := mX2_copyFrom) (As := [.ref r0_imageZero]) (st := []) hL_X11_280 hI_X2_copyFrom hS_X2_copyFrom hC_X2_copyFrom hN_X2 nX2_copyFrom (by decide) hs3 rfl rfl rfl (Nat.le_of_ble_eq_true rfl) dX11_restore_43 ok3 (fun r_ h_3 z_ => ?_)
          obtain ⟨rfl, q_3⟩ := z_
          have w := w h_3 q_3
          refine G_aload_n 1 rfl dX11_restore_46 rfl ?_
          obtain ⟨Q4, ok4, w⟩ := w
          refine G_callV (Z := mX11_forgetFindings) (As := []) (st := []) hL_X11_82 hI_X11_forgetFindings hS_X11_forgetFindings hC_X11_forgetFindings hN_X11 nX11_forgetFindings (by decide) hs1 rfl rfl rfl (Nat.le_of_ble_eq_true rfl) dX11_restore_47 ok4 (fun r_ h_4 z_ => ?_)
          obtain ⟨rfl, q_4⟩ := z_
          have w := w h_4 q_4
          refine G_iconst (v := 1) dX11_restore_50 (by decide) ?_
          exact G_iret rfl dX11_restore_51 ⟨_, rfl, w⟩
        · have w := w.2 c4
          refine G_bipush (v := -3) dX11_restore_35 (by decide) ?_
          exact G_iret rfl dX11_restore_37 ⟨_, rfl, w⟩
    · have w := w.2 c2
      refine G_bipush (v := -2) dX11_restore_9 (by decide) ?_
      exact G_iret rfl dX11_restore_11 ⟨_, rfl, w⟩
-- LostDigits.told
theorem dX11_told_0 : decode cX11_told 0 = .ok (.iload_n 1, 1) := by decide +kernel
theorem dX11_told_1 : decode cX11_told 1 = .ok (.bipush 10, 2) := by decide +kernel
theorem dX11_told_3 : decode cX11_told 3 = .ok (.if_icmp .lt 25, 3) := by decide +kernel
theorem dX11_told_6 : decode cX11_told 6 = .ok (.iload_n 1, 1) := by decide +kernel
theorem dX11_told_7 : decode cX11_told 7 = .ok (.bipush 15, 2) := by decide +kernel
theorem dX11_told_9 : decode cX11_told 9 = .ok (.if_icmp .ge 19, 3) := by decide +kernel
theorem dX11_told_12 : decode cX11_told 12 = .ok (.aload_n 0, 1) := by decide +kernel
theorem dX11_told_13 : decode cX11_told 13 = .ok (.getfield 12, 3) := by decide +kernel
theorem dX11_told_16 : decode cX11_told 16 = .ok (.getfield 138, 3) := by decide +kernel
theorem dX11_told_19 : decode cX11_told 19 = .ok (.iload_n 1, 1) := by decide +kernel
theorem dX11_told_20 : decode cX11_told 20 = .ok (.bipush 10, 2) := by decide +kernel
theorem dX11_told_22 : decode cX11_told 22 = .ok (.isub, 1) := by decide +kernel
theorem dX11_told_23 : decode cX11_told 23 = .ok (.iaload, 1) := by decide +kernel
theorem dX11_told_24 : decode cX11_told 24 = .ok (.bipush 100, 2) := by decide +kernel
theorem dX11_told_26 : decode cX11_told 26 = .ok (.iadd, 1) := by decide +kernel
theorem dX11_told_27 : decode cX11_told 27 = .ok (.ireturn, 1) := by decide +kernel
theorem dX11_told_28 : decode cX11_told 28 = .ok (.iload_n 1, 1) := by decide +kernel
theorem dX11_told_29 : decode cX11_told 29 = .ok (.bipush 20, 2) := by decide +kernel
theorem dX11_told_31 : decode cX11_told 31 = .ok (.if_icmp .lt 22, 3) := by decide +kernel
theorem dX11_told_34 : decode cX11_told 34 = .ok (.iload_n 1, 1) := by decide +kernel
theorem dX11_told_35 : decode cX11_told 35 = .ok (.bipush 25, 2) := by decide +kernel
theorem dX11_told_37 : decode cX11_told 37 = .ok (.if_icmp .ge 16, 3) := by decide +kernel
theorem dX11_told_40 : decode cX11_told 40 = .ok (.aload_n 0, 1) := by decide +kernel
theorem dX11_told_41 : decode cX11_told 41 = .ok (.getfield 12, 3) := by decide +kernel
theorem dX11_told_44 : decode cX11_told 44 = .ok (.getfield 141, 3) := by decide +kernel
theorem dX11_told_47 : decode cX11_told 47 = .ok (.iload_n 1, 1) := by decide +kernel
theorem dX11_told_48 : decode cX11_told 48 = .ok (.bipush 20, 2) := by decide +kernel
theorem dX11_told_50 : decode cX11_told 50 = .ok (.isub, 1) := by decide +kernel
theorem dX11_told_51 : decode cX11_told 51 = .ok (.iaload, 1) := by decide +kernel
theorem dX11_told_52 : decode cX11_told 52 = .ok (.ireturn, 1) := by decide +kernel
theorem dX11_told_53 : decode cX11_told 53 = .ok (.iload_n 1, 1) := by decide +kernel
theorem dX11_told_54 : decode cX11_told 54 = .ok (.tableswitch 74 0 4 #[34, 39, 50, 58, 66], 34) := by decide +kernel
theorem dX11_told_88 : decode cX11_told 88 = .ok (.aload_n 0, 1) := by decide +kernel
theorem dX11_told_89 : decode cX11_told 89 = .ok (.getfield 26, 3) := by decide +kernel
theorem dX11_told_92 : decode cX11_told 92 = .ok (.ireturn, 1) := by decide +kernel
theorem dX11_told_93 : decode cX11_told 93 = .ok (.aload_n 0, 1) := by decide +kernel
theorem dX11_told_94 : decode cX11_told 94 = .ok (.getfield 12, 3) := by decide +kernel
theorem dX11_told_97 : decode cX11_told 97 = .ok (.getfield 118, 3) := by decide +kernel
theorem dX11_told_100 : decode cX11_told 100 = .ok (.getfield 128, 3) := by decide +kernel
theorem dX11_told_103 : decode cX11_told 103 = .ok (.ireturn, 1) := by decide +kernel
theorem dX11_told_104 : decode cX11_told 104 = .ok (.aload_n 0, 1) := by decide +kernel
theorem dX11_told_105 : decode cX11_told 105 = .ok (.getfield 12, 3) := by decide +kernel
theorem dX11_told_108 : decode cX11_told 108 = .ok (.getfield 79, 3) := by decide +kernel
theorem dX11_told_111 : decode cX11_told 111 = .ok (.ireturn, 1) := by decide +kernel
theorem dX11_told_112 : decode cX11_told 112 = .ok (.aload_n 0, 1) := by decide +kernel
theorem dX11_told_113 : decode cX11_told 113 = .ok (.getfield 12, 3) := by decide +kernel
theorem dX11_told_116 : decode cX11_told 116 = .ok (.getfield 85, 3) := by decide +kernel
theorem dX11_told_119 : decode cX11_told 119 = .ok (.ireturn, 1) := by decide +kernel
theorem dX11_told_120 : decode cX11_told 120 = .ok (.aload_n 0, 1) := by decide +kernel
theorem dX11_told_121 : decode cX11_told 121 = .ok (.getfield 12, 3) := by decide +kernel
theorem dX11_told_124 : decode cX11_told 124 = .ok (.getfield 194, 3) := by decide +kernel
theorem dX11_told_127 : decode cX11_told 127 = .ok (.ireturn, 1) := by decide +kernel
theorem dX11_told_128 : decode cX11_told 128 = .ok (.bipush (-2), 2) := by decide +kernel
theorem dX11_told_130 : decode cX11_told 130 = .ok (.ireturn, 1) := by decide +kernel
set_option maxRecDepth 10000 in
theorem NX11_told_0 {d : Nat} {S : fW} {h : fH} {Q : Int32 → fH → Prop} {r0 : Nat} {x1 : Int32} {r0_now r0_imageZero r0_imageOne r0_pad r0_ratio r0_rounding r0_steps r0_sums r0_allOrders r0_spans r0_search r0_now_text r0_now_numbers r0_now_spans r0_now_terms : Nat}  
    (hs1 : (r0, shX11 r0_now r0_imageZero r0_imageOne r0_pad r0_ratio r0_rounding r0_steps r0_sums r0_allOrders r0_spans r0_search) ∈ S)
    (hs2 : (r0_now, shX2 r0_now_text r0_now_numbers r0_now_spans r0_now_terms) ∈ S)
    (hs3 : (r0_now_numbers, shI 5) ∈ S)
    (w : ((x1 < (10 : Int32) → G mX11_told d S (f_PI Q) 28 [(0, .ref r0), (1, .int x1)] [] h) ∧ (¬ x1 < (10 : Int32) → (((15 : Int32) ≤ x1 → G mX11_told d S (f_PI Q) 28 [(0, .ref r0), (1, .int x1)] [] h) ∧ (¬ (15 : Int32) ≤ x1 → vp_in (x1 - (10 : Int32)) 5 ∧ Q ((h.2.2.1 r0_now_numbers (x1 - (10 : Int32)).toNatClampNeg) + (100 : Int32)) h))))) :
    OkI d mX11_told S [.ref r0, .int x1] h Q := by
  refine Ok.of (by decide) (Nat.le_of_ble_eq_true rfl) ?_
  refine G_iload_n 1 rfl dX11_told_0 rfl ?_
  refine G_bipush (v := 10) dX11_told_1 (by decide) ?_
  refine G_icmp_lt (tgt := 28) dX11_told_3 (by decide) (fun c1 => ?_) (fun c1 => ?_)
  · have w := w.1 c1
    exact G_sub [0, 1] rfl w
  · have w := w.2 c1
    refine G_iload_n 1 rfl dX11_told_6 rfl ?_
    refine G_bipush (v := 15) dX11_told_7 (by decide) ?_
    refine G_icmp_ge (tgt := 28) dX11_told_9 (by decide) (fun c2 => ?_) (fun c2 => ?_)
    · have w := w.1 c2
      exact G_sub [0, 1] rfl w
    · have w := w.2 c2
      refine G_aload_n 0 rfl dX11_told_12 rfl ?_
      refine G_getr (j := r0_now) (k := 0) hs1 (q := (RX11, TX11, 12)) rfl inX11 (by decide) rfl hF_X11_12 dX11_told_13 ?_
      refine G_getr (j := r0_now_numbers) (k := 1) hs2 (q := (RX2, TX2, 8)) rfl inX2 (by decide) rfl hF_X11_138 dX11_told_16 ?_
      refine G_iload_n 1 rfl dX11_told_19 rfl ?_
      refine G_bipush (v := 10) dX11_told_20 (by decide) ?_
      refine G_isub dX11_told_22 ?_
      obtain ⟨sd1, w⟩ := w
      refine G_iald hs3 sd1 dX11_told_23 ?_
      refine G_bipush (v := 100) dX11_told_24 (by decide) ?_
      refine G_iadd dX11_told_26 ?_
      exact G_iret rfl dX11_told_27 ⟨_, rfl, w⟩

set_option maxRecDepth 10000 in
theorem NX11_told_28 {d : Nat} {S : fW} {h : fH} {Q : Int32 → fH → Prop} {r0 : Nat} {x1 : Int32} {r0_now r0_imageZero r0_imageOne r0_pad r0_ratio r0_rounding r0_steps r0_sums r0_allOrders r0_spans r0_search r0_now_text r0_now_numbers r0_now_spans r0_now_terms r0_now_text_signs r0_now_text_ends r0_now_text_letters : Nat}  
    (hs1 : (r0, shX11 r0_now r0_imageZero r0_imageOne r0_pad r0_ratio r0_rounding r0_steps r0_sums r0_allOrders r0_spans r0_search) ∈ S)
    (hs2 : (r0_now, shX2 r0_now_text r0_now_numbers r0_now_spans r0_now_terms) ∈ S)
    (hs3 : (r0_now_text, shX10 r0_now_text_signs r0_now_text_ends r0_now_text_letters) ∈ S)
    (hs4 : (r0_now_spans, shI 5) ∈ S)
    (w : ((x1 < (20 : Int32) → ((x1 = (0 : Int32) → Q (h.1 r0 4) h) ∧ (¬ x1 = (0 : Int32) → ((x1 = (1 : Int32) → Q (h.1 r0_now_text 3) h) ∧ (¬ x1 = (1 : Int32) → ((x1 = (2 : Int32) → Q (h.1 r0_now 5) h) ∧ (¬ x1 = (2 : Int32) → ((x1 = (3 : Int32) → Q (h.1 r0_now 6) h) ∧ (¬ x1 = (3 : Int32) → ((x1 = (4 : Int32) → Q (h.1 r0_now 4) h) ∧ (¬ x1 = (4 : Int32) → Q (-2 : Int32) h))))))))))) ∧ (¬ x1 < (20 : Int32) → (((25 : Int32) ≤ x1 → ((x1 = (0 : Int32) → Q (h.1 r0 4) h) ∧ (¬ x1 = (0 : Int32) → ((x1 = (1 : Int32) → Q (h.1 r0_now_text 3) h) ∧ (¬ x1 = (1 : Int32) → ((x1 = (2 : Int32) → Q (h.1 r0_now 5) h) ∧ (¬ x1 = (2 : Int32) → ((x1 = (3 : Int32) → Q (h.1 r0_now 6) h) ∧ (¬ x1 = (3 : Int32) → ((x1 = (4 : Int32) → Q (h.1 r0_now 4) h) ∧ (¬ x1 = (4 : Int32) → Q (-2 : Int32) h))))))))))) ∧ (¬ (25 : Int32) ≤ x1 → vp_in (x1 - (20 : Int32)) 5 ∧ Q (h.2.2.1 r0_now_spans (x1 - (20 : Int32)).toNatClampNeg) h))))) :
    G mX11_told d S (f_PI Q) 28 [(0, .ref r0), (1, .int x1)] [] h := by
  refine G_iload_n 1 rfl dX11_told_28 rfl ?_
  refine G_bipush (v := 20) dX11_told_29 (by decide) ?_
  refine G_icmp_lt (tgt := 53) dX11_told_31 (by decide) (fun c1 => ?_) (fun c1 => ?_)
  · have w := w.1 c1
    refine G_iload_n 1 rfl dX11_told_53 rfl ?_
    refine Decidable.byCases (p := x1 = (0 : Int32)) (fun c2 => ?_) (fun c2 => ?_)
    · refine G_tabEq (off := 34) (tgt := 88) dX11_told_54 c2 (by decide) (by decide) (by decide) (by decide) ?_
      have w := w.1 c2
      refine G_aload_n 0 rfl dX11_told_88 rfl ?_
      refine G_geti (k := 4) hs1 (q := (RX11, TX11, 12)) rfl inX11 (by decide) (Or.inl rfl) hF_X11_26 dX11_told_89 ?_
      exact G_iret rfl dX11_told_92 ⟨_, rfl, w⟩
    have w := w.2 c2
    refine Decidable.byCases (p := x1 = (1 : Int32)) (fun c3 => ?_) (fun c3 => ?_)
    · refine G_tabEq (off := 39) (tgt := 93) dX11_told_54 c3 (by decide) (by decide) (by decide) (by decide) ?_
      have w := w.1 c3
      refine G_aload_n 0 rfl dX11_told_93 rfl ?_
      refine G_getr (j := r0_now) (k := 0) hs1 (q := (RX11, TX11, 12)) rfl inX11 (by decide) rfl hF_X11_12 dX11_told_94 ?_
      refine G_getr (j := r0_now_text) (k := 0) hs2 (q := (RX2, TX2, 8)) rfl inX2 (by decide) rfl hF_X11_118 dX11_told_97 ?_
      refine G_geti (k := 3) hs3 (q := (RX10, TX10, 4)) rfl inX10 (by decide) (Or.inl rfl) hF_X11_128 dX11_told_100 ?_
      exact G_iret rfl dX11_told_103 ⟨_, rfl, w⟩
    have w := w.2 c3
    refine Decidable.byCases (p := x1 = (2 : Int32)) (fun c4 => ?_) (fun c4 => ?_)
    · refine G_tabEq (off := 50) (tgt := 104) dX11_told_54 c4 (by decide) (by decide) (by decide) (by decide) ?_
      have w := w.1 c4
      refine G_aload_n 0 rfl dX11_told_104 rfl ?_
      refine G_getr (j := r0_now) (k := 0) hs1 (q := (RX11, TX11, 12)) rfl inX11 (by decide) rfl hF_X11_12 dX11_told_105 ?_
      refine G_geti (k := 5) hs2 (q := (RX2, TX2, 8)) rfl inX2 (by decide) (Or.inl rfl) hF_X11_79 dX11_told_108 ?_
      exact G_iret rfl dX11_told_111 ⟨_, rfl, w⟩
    have w := w.2 c4
    refine Decidable.byCases (p := x1 = (3 : Int32)) (fun c5 => ?_) (fun c5 => ?_)
    · refine G_tabEq (off := 58) (tgt := 112) dX11_told_54 c5 (by decide) (by decide) (by decide) (by decide) ?_
      have w := w.1 c5
      refine G_aload_n 0 rfl dX11_told_112 rfl ?_
      refine G_getr (j := r0_now) (k := 0) hs1 (q := (RX11, TX11, 12)) rfl inX11 (by decide) rfl hF_X11_12 dX11_told_113 ?_
      refine G_geti (k := 6) hs2 (q := (RX2, TX2, 8)) rfl inX2 (by decide) (Or.inl rfl) hF_X11_85 dX11_told_116 ?_
      exact G_iret rfl dX11_told_119 ⟨_, rfl, w⟩
    have w := w.2 c5
    refine Decidable.byCases (p := x1 = (4 : Int32)) (fun c6 => ?_) (fun c6 => ?_)
    · refine G_tabEq (off := 66) (tgt := 120) dX11_told_54 c6 (by decide) (by decide) (by decide) (by decide) ?_
      have w := w.1 c6
      refine G_aload_n 0 rfl dX11_told_120 rfl ?_
      refine G_getr (j := r0_now) (k := 0) hs1 (q := (RX11, TX11, 12)) rfl inX11 (by decide) rfl hF_X11_12 dX11_told_121 ?_
      refine G_geti (k := 4) hs2 (q := (RX2, TX2, 8)) rfl inX2 (by decide) (Or.inl rfl) hF_X11_194 dX11_told_124 ?_
      exact G_iret rfl dX11_told_127 ⟨_, rfl, w⟩
    have w := w.2 c6
    refine G_tabOut (tgt := 128) dX11_told_54 (f_tab5 c2 c3 c4 c5 c6) (by decide) ?_
    refine G_bipush (v := -2) dX11_told_128 (by decide) ?_
    exact G_iret rfl dX11_told_130 ⟨_, rfl, w⟩
  · have w := w.2 c1
    refine G_iload_n 1 rfl dX11_told_34 rfl ?_
    refine G_bipush (v := 25) dX11_told_35 (by decide) ?_
    refine G_icmp_ge (tgt := 53) dX11_told_37 (by decide) (fun c2 => ?_) (fun c2 => ?_)
    · have w := w.1 c2
      refine G_iload_n 1 rfl dX11_told_53 rfl ?_
      refine Decidable.byCases (p := x1 = (0 : Int32)) (fun c3 => ?_) (fun c3 => ?_)
      · refine G_tabEq (off := 34) (tgt := 88) dX11_told_54 c3 (by decide) (by decide) (by decide) (by decide) ?_
        have w := w.1 c3
        refine G_aload_n 0 rfl dX11_told_88 rfl ?_
        refine G_geti (k := 4) hs1 (q := (RX11, TX11, 12)) rfl inX11 (by decide) (Or.inl rfl) hF_X11_26 dX11_told_89 ?_
        exact G_iret rfl dX11_told_92 ⟨_, rfl, w⟩
      have w := w.2 c3
      refine Decidable.byCases (p := x1 = (1 : Int32)) (fun c4 => ?_) (fun c4 => ?_)
      · refine G_tabEq (off := 39) (tgt := 93) dX11_told_54 c4 (by decide) (by decide) (by decide) (by decide) ?_
        have w := w.1 c4
        refine G_aload_n 0 rfl dX11_told_93 rfl ?_
        refine G_getr (j := r0_now) (k := 0) hs1 (q := (RX11, TX11, 12)) rfl inX11 (by decide) rfl hF_X11_12 dX11_told_94 ?_
        refine G_getr (j := r0_now_text) (k := 0) hs2 (q := (RX2, TX2, 8)) rfl inX2 (by decide) rfl hF_X11_118 dX11_told_97 ?_
        refine G_geti (k := 3) hs3 (q := (RX10, TX10, 4)) rfl inX10 (by decide) (Or.inl rfl) hF_X11_128 dX11_told_100 ?_
        exact G_iret rfl dX11_told_103 ⟨_, rfl, w⟩
      have w := w.2 c4
      refine Decidable.byCases (p := x1 = (2 : Int32)) (fun c5 => ?_) (fun c5 => ?_)
      · refine G_tabEq (off := 50) (tgt := 104) dX11_told_54 c5 (by decide) (by decide) (by decide) (by decide) ?_
        have w := w.1 c5
        refine G_aload_n 0 rfl dX11_told_104 rfl ?_
        refine G_getr (j := r0_now) (k := 0) hs1 (q := (RX11, TX11, 12)) rfl inX11 (by decide) rfl hF_X11_12 dX11_told_105 ?_
        refine G_geti (k := 5) hs2 (q := (RX2, TX2, 8)) rfl inX2 (by decide) (Or.inl rfl) hF_X11_79 dX11_told_108 ?_
        exact G_iret rfl dX11_told_111 ⟨_, rfl, w⟩
      have w := w.2 c5
      refine Decidable.byCases (p := x1 = (3 : Int32)) (fun c6 => ?_) (fun c6 => ?_)
      · refine G_tabEq (off := 58) (tgt := 112) dX11_told_54 c6 (by decide) (by decide) (by decide) (by decide) ?_
        have w := w.1 c6
        refine G_aload_n 0 rfl dX11_told_112 rfl ?_
        refine G_getr (j := r0_now) (k := 0) hs1 (q := (RX11, TX11, 12)) rfl inX11 (by decide) rfl hF_X11_12 dX11_told_113 ?_
        refine G_geti (k := 6) hs2 (q := (RX2, TX2, 8)) rfl inX2 (by decide) (Or.inl rfl) hF_X11_85 dX11_told_116 ?_
        exact G_iret rfl dX11_told_119 ⟨_, rfl, w⟩
      have w := w.2 c6
      refine Decidable.byCases (p := x1 = (4 : Int32)) (fun c7 => ?_) (fun c7 => ?_)
      · refine G_tabEq (off := 66) (tgt := 120) dX11_told_54 c7 (by decide) (by decide) (by decide) (by decide) ?_
        have w := w.1 c7
        refine G_aload_n 0 rfl dX11_told_120 rfl ?_
        refine G_getr (j := r0_now) (k := 0) hs1 (q := (RX11, TX11, 12)) rfl inX11 (by decide) rfl hF_X11_12 dX11_told_121 ?_
        refine G_geti (k := 4) hs2 (q := (RX2, TX2, 8)) rfl inX2 (by decide) (Or.inl rfl) hF_X11_194 dX11_told_124 ?_
        exact G_iret rfl dX11_told_127 ⟨_, rfl, w⟩
      have w := w.2 c7
      refine G_tabOut (tgt := 128) dX11_told_54 (f_tab5 c3 c4 c5 c6 c7) (by decide) ?_
      refine G_bipush (v := -2) dX11_told_128 (by decide) ?_
      exact G_iret rfl dX11_told_130 ⟨_, rfl, w⟩
    · have w := w.2 c2
      refine G_aload_n 0 rfl dX11_told_40 rfl ?_
      refine G_getr (j := r0_now) (k := 0) hs1 (q := (RX11, TX11, 12)) rfl inX11 (by decide) rfl hF_X11_12 dX11_told_41 ?_
      refine G_getr (j := r0_now_spans) (k := 2) hs2 (q := (RX2, TX2, 8)) rfl inX2 (by decide) rfl hF_X11_141 dX11_told_44 ?_
      refine G_iload_n 1 rfl dX11_told_47 rfl ?_
      refine G_bipush (v := 20) dX11_told_48 (by decide) ?_
      refine G_isub dX11_told_50 ?_
      obtain ⟨sd1, w⟩ := w
      refine G_iald hs4 sd1 dX11_told_51 ?_
      exact G_iret rfl dX11_told_52 ⟨_, rfl, w⟩
-- LostDigits.workNow
theorem dX11_workNow_0 : decode cX11_workNow 0 = .ok (.aload_n 0, 1) := by decide +kernel
theorem dX11_workNow_1 : decode cX11_workNow 1 = .ok (.getfield 47, 3) := by decide +kernel
theorem dX11_workNow_4 : decode cX11_workNow 4 = .ok (.getfield 177, 3) := by decide +kernel
theorem dX11_workNow_7 : decode cX11_workNow 7 = .ok (.aload_n 0, 1) := by decide +kernel
theorem dX11_workNow_8 : decode cX11_workNow 8 = .ok (.getfield 12, 3) := by decide +kernel
theorem dX11_workNow_11 : decode cX11_workNow 11 = .ok (.getfield 79, 3) := by decide +kernel
theorem dX11_workNow_14 : decode cX11_workNow 14 = .ok (.aload_n 0, 1) := by decide +kernel
theorem dX11_workNow_15 : decode cX11_workNow 15 = .ok (.getfield 12, 3) := by decide +kernel
theorem dX11_workNow_18 : decode cX11_workNow 18 = .ok (.getfield 85, 3) := by decide +kernel
theorem dX11_workNow_21 : decode cX11_workNow 21 = .ok (.invokevirtual 96, 3) := by decide +kernel
theorem dX11_workNow_24 : decode cX11_workNow 24 = .ok (.aload_n 0, 1) := by decide +kernel
theorem dX11_workNow_25 : decode cX11_workNow 25 = .ok (.getfield 47, 3) := by decide +kernel
theorem dX11_workNow_28 : decode cX11_workNow 28 = .ok (.aload_n 0, 1) := by decide +kernel
theorem dX11_workNow_29 : decode cX11_workNow 29 = .ok (.getfield 12, 3) := by decide +kernel
theorem dX11_workNow_32 : decode cX11_workNow 32 = .ok (.getfield 118, 3) := by decide +kernel
theorem dX11_workNow_35 : decode cX11_workNow 35 = .ok (.aload_n 0, 1) := by decide +kernel
theorem dX11_workNow_36 : decode cX11_workNow 36 = .ok (.getfield 12, 3) := by decide +kernel
theorem dX11_workNow_39 : decode cX11_workNow 39 = .ok (.getfield 138, 3) := by decide +kernel
theorem dX11_workNow_42 : decode cX11_workNow 42 = .ok (.invokevirtual 286, 3) := by decide +kernel
theorem dX11_workNow_45 : decode cX11_workNow 45 = .ok (.return_, 1) := by decide +kernel
set_option maxRecDepth 10000 in
theorem NX11_workNow_0 {d : Nat} {S : fW} {h : fH} {Q : fH → Prop} {r0 : Nat} {r0_now r0_imageZero r0_imageOne r0_pad r0_ratio r0_rounding r0_steps r0_sums r0_allOrders r0_spans r0_search r0_steps_values r0_steps_slips r0_steps_fractions r0_steps_rounding r0_steps_ratio r0_now_text r0_now_numbers r0_now_spans r0_now_terms : Nat}  
    (hs1 : (r0, shX11 r0_now r0_imageZero r0_imageOne r0_pad r0_ratio r0_rounding r0_steps r0_sums r0_allOrders r0_spans r0_search) ∈ S)
    (hs2 : (r0_steps, shX8 r0_steps_values r0_steps_slips r0_steps_fractions r0_steps_rounding r0_steps_ratio) ∈ S)
    (hs3 : (r0_now, shX2 r0_now_text r0_now_numbers r0_now_spans r0_now_terms) ∈ S)
    (hs4 : (r0_steps_rounding, shX4) ∈ S)
    (w : ∃ Q1 : fH → Prop, OkV d mX4_turn S [.ref r0_steps_rounding, .int (h.1 r0_now 5), .int (h.1 r0_now 6)] h Q1 ∧ ∀ (h_1 : fH), Q1 h_1 → ∃ Q2 : fH → Prop, OkV d mX8_work S [.ref r0_steps, .ref r0_now_text, .ref r0_now_numbers] h_1 Q2 ∧ ∀ (h_2 : fH), Q2 h_2 → Q h_2) :
    OkV (d + 1) mX11_workNow S [.ref r0] h Q := by
  refine Ok.of (by decide) (Nat.le_of_ble_eq_true rfl) ?_
  refine G_aload_n 0 rfl dX11_workNow_0 rfl ?_
  refine G_getr (j := r0_steps) (k := 7) hs1 (q := (RX11, TX11, 12)) rfl inX11 (by decide) rfl hF_X11_47 dX11_workNow_1 ?_
  refine G_getr (j := r0_steps_rounding) (k := 3) hs2 (q := (RX8, TX8, 5)) rfl inX8 (by decide) rfl hF_X11_177 dX11_workNow_4 ?_
  refine G_aload_n 0 rfl dX11_workNow_7 rfl ?_
  refine G_getr (j := r0_now) (k := 0) hs1 (q := (RX11, TX11, 12)) rfl inX11 (by decide) rfl hF_X11_12 dX11_workNow_8 ?_
  refine G_geti (k := 5) hs3 (q := (RX2, TX2, 8)) rfl inX2 (by decide) (Or.inl rfl) hF_X11_79 dX11_workNow_11 ?_
  refine G_aload_n 0 rfl dX11_workNow_14 rfl ?_
  refine G_getr (j := r0_now) (k := 0) hs1 (q := (RX11, TX11, 12)) rfl inX11 (by decide) rfl hF_X11_12 dX11_workNow_15 ?_
  refine G_geti (k := 6) hs3 (q := (RX2, TX2, 8)) rfl inX2 (by decide) (Or.inl rfl) hF_X11_85 dX11_workNow_18 ?_
  obtain ⟨Q1, ok1, w⟩ := w
  refine G_callV (Z := mX4_turn) (As := [.int (h.1 r0_now 5), .int (h.1 r0_now 6)]) (st := []) hL_X11_96 hI_X4_turn hS_X4_turn hC_X4_turn hN_X4 nX4_turn (by decide) hs4 rfl rfl rfl (Nat.le_of_ble_eq_true rfl) dX11_workNow_21 ok1 (fun r_ h_1 z_ => ?_)
  obtain ⟨rfl, q_1⟩ := z_
  have w := w h_1 q_1
  refine G_aload_n 0 rfl dX11_workNow_24 rfl ?_
  refine G_getr (j := r0_steps) (k := 7) hs1 (q := (RX11, TX11, 12)) rfl inX11 (by decide) rfl hF_X11_47 dX11_workNow_25 ?_
  refine G_aload_n 0 rfl dX11_workNow_28 rfl ?_
  refine G_getr (j := r0_now) (k := 0) hs1 (q := (RX11, TX11, 12)) rfl inX11 (by decide) rfl hF_X11_12 dX11_workNow_29 ?_
  refine G_getr (j := r0_now_text) (k := 0) hs3 (q := (RX2, TX2, 8)) rfl inX2 (by decide) rfl hF_X11_118 dX11_workNow_32 ?_
  refine G_aload_n 0 rfl dX11_workNow_35 rfl ?_
  refine G_getr (j := r0_now) (k := 0) hs1 (q := (RX11, TX11, 12)) rfl inX11 (by decide) rfl hF_X11_12 dX11_workNow_36 ?_
  refine G_getr (j := r0_now_numbers) (k := 1) hs3 (q := (RX2, TX2, 8)) rfl inX2 (by decide) rfl hF_X11_138 dX11_workNow_39 ?_
  obtain ⟨Q2, ok2, w⟩ := w
  refine G_callV (Z := mX8_work) (As := [.ref r0_now_text, .ref r0_now_numbers]) (st := []) hL_X11_286 hI_X8_work hS_X8_work hC_X8_work hN_X8 nX8_work (by decide) hs2 rfl rfl rfl (Nat.le_of_ble_eq_true rfl) dX11_workNow_42 ok2 (fun r_ h_2 z_ => ?_)
  obtain ⟨rfl, q_2⟩ := z_
  have w := w h_2 q_2
  exact G_vret rfl dX11_workNow_45 ⟨rfl, w⟩
-- LostDigits.forgetFindings
theorem dX11_forgetFindings_0 : decode cX11_forgetFindings 0 = .ok (.aload_n 0, 1) := by decide +kernel
theorem dX11_forgetFindings_1 : decode cX11_forgetFindings 1 = .ok (.getfield 61, 3) := by decide +kernel
theorem dX11_forgetFindings_4 : decode cX11_forgetFindings 4 = .ok (.iconst 0, 1) := by decide +kernel
theorem dX11_forgetFindings_5 : decode cX11_forgetFindings 5 = .ok (.putfield 290, 3) := by decide +kernel
theorem dX11_forgetFindings_8 : decode cX11_forgetFindings 8 = .ok (.aload_n 0, 1) := by decide +kernel
theorem dX11_forgetFindings_9 : decode cX11_forgetFindings 9 = .ok (.getfield 68, 3) := by decide +kernel
theorem dX11_forgetFindings_12 : decode cX11_forgetFindings 12 = .ok (.iconst 0, 1) := by decide +kernel
theorem dX11_forgetFindings_13 : decode cX11_forgetFindings 13 = .ok (.putfield 293, 3) := by decide +kernel
theorem dX11_forgetFindings_16 : decode cX11_forgetFindings 16 = .ok (.aload_n 0, 1) := by decide +kernel
theorem dX11_forgetFindings_17 : decode cX11_forgetFindings 17 = .ok (.getfield 75, 3) := by decide +kernel
theorem dX11_forgetFindings_20 : decode cX11_forgetFindings 20 = .ok (.bipush (-6), 2) := by decide +kernel
theorem dX11_forgetFindings_22 : decode cX11_forgetFindings 22 = .ok (.putfield 294, 3) := by decide +kernel
theorem dX11_forgetFindings_25 : decode cX11_forgetFindings 25 = .ok (.return_, 1) := by decide +kernel
set_option maxRecDepth 10000 in
theorem NX11_forgetFindings_0 {d : Nat} {S : fW} {h : fH} {Q : fH → Prop} {r0 : Nat} {r0_now r0_imageZero r0_imageOne r0_pad r0_ratio r0_rounding r0_steps r0_sums r0_allOrders r0_spans r0_search r0_allOrders_sums r0_allOrders_path r0_allOrders_losses r0_allOrders_counts r0_allOrders_firsts r0_spans_low r0_spans_high r0_spans_ratio r0_spans_down r0_spans_up r0_spans_fractions r0_spans_trial r0_spans_widths r0_search_steps r0_search_once r0_search_twice r0_search_best : Nat}  
    (hs1 : (r0, shX11 r0_now r0_imageZero r0_imageOne r0_pad r0_ratio r0_rounding r0_steps r0_sums r0_allOrders r0_spans r0_search) ∈ S)
    (hs2 : (r0_allOrders, shX1 r0_allOrders_sums r0_allOrders_path r0_allOrders_losses r0_allOrders_counts r0_allOrders_firsts) ∈ S)
    (hs3 : (r0_spans, shX7 r0_spans_low r0_spans_high r0_spans_ratio r0_spans_down r0_spans_up r0_spans_fractions r0_spans_trial r0_spans_widths) ∈ S)
    (hs4 : (r0_search, shX6 r0_search_steps r0_search_once r0_search_twice r0_search_best) ∈ S)
    (w : ∀ g_1 : fH, g_1 = u_fi h r0_allOrders 6 (0 : Int32) → ∀ g_2 : fH, g_2 = u_fi g_1 r0_spans 10 (0 : Int32) → ∀ g_3 : fH, g_3 = u_fi g_2 r0_search 5 (-6 : Int32) → Q g_3) :
    OkV d mX11_forgetFindings S [.ref r0] h Q := by
  refine Ok.of (by decide) (Nat.le_of_ble_eq_true rfl) ?_
  refine G_aload_n 0 rfl dX11_forgetFindings_0 rfl ?_
  refine G_getr (j := r0_allOrders) (k := 9) hs1 (q := (RX11, TX11, 12)) rfl inX11 (by decide) rfl hF_X11_61 dX11_forgetFindings_1 ?_
  refine G_iconst (v := 0) dX11_forgetFindings_4 (by decide) ?_
  refine G_putz (k := 6) tyX1 hs2 (q := (RX1, TX1, 7)) rfl inX1 tyX1_ok nmX1 (by decide) rfl rfl rfl (Or.inl rfl) hF_X11_290 dX11_forgetFindings_5 ?_
  refine G_nm (fun g_1 e_1 => ?_)
  have w := w g_1 e_1
  refine G_aload_n 0 rfl dX11_forgetFindings_8 rfl ?_
  refine G_getr (j := r0_spans) (k := 10) hs1 (q := (RX11, TX11, 12)) rfl inX11 (by decide) rfl hF_X11_68 dX11_forgetFindings_9 ?_
  refine G_iconst (v := 0) dX11_forgetFindings_12 (by decide) ?_
  refine G_putz (k := 10) tyX7 hs3 (q := (RX7, TX7, 11)) rfl inX7 tyX7_ok nmX7 (by decide) rfl rfl rfl (Or.inl rfl) hF_X11_293 dX11_forgetFindings_13 ?_
  refine G_nm (fun g_2 e_2 => ?_)
  have w := w g_2 e_2
  refine G_aload_n 0 rfl dX11_forgetFindings_16 rfl ?_
  refine G_getr (j := r0_search) (k := 11) hs1 (q := (RX11, TX11, 12)) rfl inX11 (by decide) rfl hF_X11_75 dX11_forgetFindings_17 ?_
  refine G_bipush (v := -6) dX11_forgetFindings_20 (by decide) ?_
  refine G_puti (k := 5) tyX6 hs4 (q := (RX6, TX6, 6)) rfl inX6 tyX6_ok nmX6 (by decide) rfl rfl rfl hF_X11_294 dX11_forgetFindings_22 ?_
  refine G_nm (fun g_3 e_3 => ?_)
  have w := w g_3 e_3
  exact G_vret rfl dX11_forgetFindings_25 ⟨rfl, w⟩
-- LostDigits.isOperator
theorem dX11_isOperator_0 : decode cX11_isOperator 0 = .ok (.iload_n 0, 1) := by decide +kernel
theorem dX11_isOperator_1 : decode cX11_isOperator 1 = .ok (.bipush 43, 2) := by decide +kernel
theorem dX11_isOperator_3 : decode cX11_isOperator 3 = .ok (.if_icmp .eq 21, 3) := by decide +kernel
theorem dX11_isOperator_6 : decode cX11_isOperator 6 = .ok (.iload_n 0, 1) := by decide +kernel
theorem dX11_isOperator_7 : decode cX11_isOperator 7 = .ok (.bipush 45, 2) := by decide +kernel
theorem dX11_isOperator_9 : decode cX11_isOperator 9 = .ok (.if_icmp .eq 15, 3) := by decide +kernel
theorem dX11_isOperator_12 : decode cX11_isOperator 12 = .ok (.iload_n 0, 1) := by decide +kernel
theorem dX11_isOperator_13 : decode cX11_isOperator 13 = .ok (.bipush 42, 2) := by decide +kernel
theorem dX11_isOperator_15 : decode cX11_isOperator 15 = .ok (.if_icmp .eq 9, 3) := by decide +kernel
theorem dX11_isOperator_18 : decode cX11_isOperator 18 = .ok (.iload_n 0, 1) := by decide +kernel
theorem dX11_isOperator_19 : decode cX11_isOperator 19 = .ok (.bipush 47, 2) := by decide +kernel
theorem dX11_isOperator_21 : decode cX11_isOperator 21 = .ok (.if_icmp .ne 7, 3) := by decide +kernel
theorem dX11_isOperator_24 : decode cX11_isOperator 24 = .ok (.iconst 1, 1) := by decide +kernel
theorem dX11_isOperator_25 : decode cX11_isOperator 25 = .ok (.goto 4, 3) := by decide +kernel
theorem dX11_isOperator_28 : decode cX11_isOperator 28 = .ok (.iconst 0, 1) := by decide +kernel
theorem dX11_isOperator_29 : decode cX11_isOperator 29 = .ok (.ireturn, 1) := by decide +kernel
set_option maxRecDepth 10000 in
theorem TX11_isOperator_0 {d : Nat} {S : fW} {h : fH} {Q : Int32 → fH → Prop} {x0 : Int32}  
    (k1 : x0 = (43 : Int32) → Q (1 : Int32) h)
    (k2 : ¬ x0 = (43 : Int32) → x0 = (45 : Int32) → Q (1 : Int32) h)
    (k3 : ¬ x0 = (43 : Int32) → ¬ x0 = (45 : Int32) → x0 = (42 : Int32) → Q (1 : Int32) h)
    (k4 : ¬ x0 = (43 : Int32) → ¬ x0 = (45 : Int32) → ¬ x0 = (42 : Int32) → ¬ x0 = (47 : Int32) → Q (0 : Int32) h)
    (k5 : ¬ x0 = (43 : Int32) → ¬ x0 = (45 : Int32) → ¬ x0 = (42 : Int32) → x0 = (47 : Int32) → Q (1 : Int32) h) :
    OkI d mX11_isOperator S [.int x0] h Q := by
  refine Ok.of (by decide) (Nat.le_of_ble_eq_true rfl) ?_
  refine G_iload_n 0 rfl dX11_isOperator_0 rfl ?_
  refine G_bipush (v := 43) dX11_isOperator_1 (by decide) ?_
  refine G_icmp_eq (tgt := 24) dX11_isOperator_3 (by decide) (fun c1 => ?_) (fun c1 => ?_)
  · refine G_iconst (v := 1) dX11_isOperator_24 (by decide) ?_
    refine G_goto (tgt := 29) dX11_isOperator_25 (by decide) ?_
    exact G_zret rfl (Or.inr rfl) dX11_isOperator_29 ⟨_, rfl, (k1 c1)⟩
  · refine G_iload_n 0 rfl dX11_isOperator_6 rfl ?_
    refine G_bipush (v := 45) dX11_isOperator_7 (by decide) ?_
    refine G_icmp_eq (tgt := 24) dX11_isOperator_9 (by decide) (fun c2 => ?_) (fun c2 => ?_)
    · refine G_iconst (v := 1) dX11_isOperator_24 (by decide) ?_
      refine G_goto (tgt := 29) dX11_isOperator_25 (by decide) ?_
      exact G_zret rfl (Or.inr rfl) dX11_isOperator_29 ⟨_, rfl, (k2 c1 c2)⟩
    · refine G_iload_n 0 rfl dX11_isOperator_12 rfl ?_
      refine G_bipush (v := 42) dX11_isOperator_13 (by decide) ?_
      refine G_icmp_eq (tgt := 24) dX11_isOperator_15 (by decide) (fun c3 => ?_) (fun c3 => ?_)
      · refine G_iconst (v := 1) dX11_isOperator_24 (by decide) ?_
        refine G_goto (tgt := 29) dX11_isOperator_25 (by decide) ?_
        exact G_zret rfl (Or.inr rfl) dX11_isOperator_29 ⟨_, rfl, (k3 c1 c2 c3)⟩
      · refine G_iload_n 0 rfl dX11_isOperator_18 rfl ?_
        refine G_bipush (v := 47) dX11_isOperator_19 (by decide) ?_
        refine G_icmp_ne (tgt := 28) dX11_isOperator_21 (by decide) (fun c4 => ?_) (fun c4 => ?_)
        · refine G_iconst (v := 0) dX11_isOperator_28 (by decide) ?_
          exact G_zret rfl (Or.inl rfl) dX11_isOperator_29 ⟨_, rfl, (k4 c1 c2 c3 c4)⟩
        · refine G_iconst (v := 1) dX11_isOperator_24 (by decide) ?_
          refine G_goto (tgt := 29) dX11_isOperator_25 (by decide) ?_
          exact G_zret rfl (Or.inr rfl) dX11_isOperator_29 ⟨_, rfl, (k5 c1 c2 c3 c4)⟩
-- LostDigits.isLetter
theorem dX11_isLetter_0 : decode cX11_isLetter 0 = .ok (.iload_n 0, 1) := by decide +kernel
theorem dX11_isLetter_1 : decode cX11_isLetter 1 = .ok (.bipush 97, 2) := by decide +kernel
theorem dX11_isLetter_3 : decode cX11_isLetter 3 = .ok (.if_icmp .lt 13, 3) := by decide +kernel
theorem dX11_isLetter_6 : decode cX11_isLetter 6 = .ok (.iload_n 0, 1) := by decide +kernel
theorem dX11_isLetter_7 : decode cX11_isLetter 7 = .ok (.bipush 102, 2) := by decide +kernel
theorem dX11_isLetter_9 : decode cX11_isLetter 9 = .ok (.if_icmp .ge 7, 3) := by decide +kernel
theorem dX11_isLetter_12 : decode cX11_isLetter 12 = .ok (.iconst 1, 1) := by decide +kernel
theorem dX11_isLetter_13 : decode cX11_isLetter 13 = .ok (.goto 4, 3) := by decide +kernel
theorem dX11_isLetter_16 : decode cX11_isLetter 16 = .ok (.iconst 0, 1) := by decide +kernel
theorem dX11_isLetter_17 : decode cX11_isLetter 17 = .ok (.ireturn, 1) := by decide +kernel
set_option maxRecDepth 10000 in
theorem TX11_isLetter_0 {d : Nat} {S : fW} {h : fH} {Q : Int32 → fH → Prop} {x0 : Int32}  
    (k1 : x0 < (97 : Int32) → Q (0 : Int32) h)
    (k2 : ¬ x0 < (97 : Int32) → (102 : Int32) ≤ x0 → Q (0 : Int32) h)
    (k3 : ¬ x0 < (97 : Int32) → ¬ (102 : Int32) ≤ x0 → Q (1 : Int32) h) :
    OkI d mX11_isLetter S [.int x0] h Q := by
  refine Ok.of (by decide) (Nat.le_of_ble_eq_true rfl) ?_
  refine G_iload_n 0 rfl dX11_isLetter_0 rfl ?_
  refine G_bipush (v := 97) dX11_isLetter_1 (by decide) ?_
  refine G_icmp_lt (tgt := 16) dX11_isLetter_3 (by decide) (fun c1 => ?_) (fun c1 => ?_)
  · refine G_iconst (v := 0) dX11_isLetter_16 (by decide) ?_
    exact G_zret rfl (Or.inl rfl) dX11_isLetter_17 ⟨_, rfl, (k1 c1)⟩
  · refine G_iload_n 0 rfl dX11_isLetter_6 rfl ?_
    refine G_bipush (v := 102) dX11_isLetter_7 (by decide) ?_
    refine G_icmp_ge (tgt := 16) dX11_isLetter_9 (by decide) (fun c2 => ?_) (fun c2 => ?_)
    · refine G_iconst (v := 0) dX11_isLetter_16 (by decide) ?_
      exact G_zret rfl (Or.inl rfl) dX11_isLetter_17 ⟨_, rfl, (k2 c1 c2)⟩
    · refine G_iconst (v := 1) dX11_isLetter_12 (by decide) ?_
      refine G_goto (tgt := 17) dX11_isLetter_13 (by decide) ?_
      exact G_zret rfl (Or.inr rfl) dX11_isLetter_17 ⟨_, rfl, (k3 c1 c2)⟩
-- LostDigits.isDigit
theorem dX11_isDigit_0 : decode cX11_isDigit 0 = .ok (.iload_n 0, 1) := by decide +kernel
theorem dX11_isDigit_1 : decode cX11_isDigit 1 = .ok (.bipush 48, 2) := by decide +kernel
theorem dX11_isDigit_3 : decode cX11_isDigit 3 = .ok (.if_icmp .lt 13, 3) := by decide +kernel
theorem dX11_isDigit_6 : decode cX11_isDigit 6 = .ok (.iload_n 0, 1) := by decide +kernel
theorem dX11_isDigit_7 : decode cX11_isDigit 7 = .ok (.bipush 57, 2) := by decide +kernel
theorem dX11_isDigit_9 : decode cX11_isDigit 9 = .ok (.if_icmp .gt 7, 3) := by decide +kernel
theorem dX11_isDigit_12 : decode cX11_isDigit 12 = .ok (.iconst 1, 1) := by decide +kernel
theorem dX11_isDigit_13 : decode cX11_isDigit 13 = .ok (.goto 4, 3) := by decide +kernel
theorem dX11_isDigit_16 : decode cX11_isDigit 16 = .ok (.iconst 0, 1) := by decide +kernel
theorem dX11_isDigit_17 : decode cX11_isDigit 17 = .ok (.ireturn, 1) := by decide +kernel
set_option maxRecDepth 10000 in
theorem TX11_isDigit_0 {d : Nat} {S : fW} {h : fH} {Q : Int32 → fH → Prop} {x0 : Int32}  
    (k1 : x0 < (48 : Int32) → Q (0 : Int32) h)
    (k2 : ¬ x0 < (48 : Int32) → (57 : Int32) < x0 → Q (0 : Int32) h)
    (k3 : ¬ x0 < (48 : Int32) → ¬ (57 : Int32) < x0 → Q (1 : Int32) h) :
    OkI d mX11_isDigit S [.int x0] h Q := by
  refine Ok.of (by decide) (Nat.le_of_ble_eq_true rfl) ?_
  refine G_iload_n 0 rfl dX11_isDigit_0 rfl ?_
  refine G_bipush (v := 48) dX11_isDigit_1 (by decide) ?_
  refine G_icmp_lt (tgt := 16) dX11_isDigit_3 (by decide) (fun c1 => ?_) (fun c1 => ?_)
  · refine G_iconst (v := 0) dX11_isDigit_16 (by decide) ?_
    exact G_zret rfl (Or.inl rfl) dX11_isDigit_17 ⟨_, rfl, (k1 c1)⟩
  · refine G_iload_n 0 rfl dX11_isDigit_6 rfl ?_
    refine G_bipush (v := 57) dX11_isDigit_7 (by decide) ?_
    refine G_icmp_gt (tgt := 16) dX11_isDigit_9 (by decide) (fun c2 => ?_) (fun c2 => ?_)
    · refine G_iconst (v := 0) dX11_isDigit_16 (by decide) ?_
      exact G_zret rfl (Or.inl rfl) dX11_isDigit_17 ⟨_, rfl, (k2 c1 c2)⟩
    · refine G_iconst (v := 1) dX11_isDigit_12 (by decide) ?_
      refine G_goto (tgt := 17) dX11_isDigit_13 (by decide) ?_
      exact G_zret rfl (Or.inr rfl) dX11_isDigit_17 ⟨_, rfl, (k3 c1 c2)⟩
-- LostDigits.numberOf
theorem dX11_numberOf_0 : decode cX11_numberOf 0 = .ok (.iload_n 0, 1) := by decide +kernel
theorem dX11_numberOf_1 : decode cX11_numberOf 1 = .ok (.invokestatic 111, 3) := by decide +kernel
theorem dX11_numberOf_4 : decode cX11_numberOf 4 = .ok (.ifCond .eq 8, 3) := by decide +kernel
theorem dX11_numberOf_7 : decode cX11_numberOf 7 = .ok (.iload_n 0, 1) := by decide +kernel
theorem dX11_numberOf_8 : decode cX11_numberOf 8 = .ok (.bipush 48, 2) := by decide +kernel
theorem dX11_numberOf_10 : decode cX11_numberOf 10 = .ok (.isub, 1) := by decide +kernel
theorem dX11_numberOf_11 : decode cX11_numberOf 11 = .ok (.ireturn, 1) := by decide +kernel
theorem dX11_numberOf_12 : decode cX11_numberOf 12 = .ok (.iload_n 0, 1) := by decide +kernel
theorem dX11_numberOf_13 : decode cX11_numberOf 13 = .ok (.bipush 97, 2) := by decide +kernel
theorem dX11_numberOf_15 : decode cX11_numberOf 15 = .ok (.isub, 1) := by decide +kernel
theorem dX11_numberOf_16 : decode cX11_numberOf 16 = .ok (.istore_n 2, 1) := by decide +kernel
theorem dX11_numberOf_17 : decode cX11_numberOf 17 = .ok (.iload_n 2, 1) := by decide +kernel
theorem dX11_numberOf_18 : decode cX11_numberOf 18 = .ok (.ifCond .lt 15, 3) := by decide +kernel
theorem dX11_numberOf_21 : decode cX11_numberOf 21 = .ok (.iload_n 2, 1) := by decide +kernel
theorem dX11_numberOf_22 : decode cX11_numberOf 22 = .ok (.aload_n 1, 1) := by decide +kernel
theorem dX11_numberOf_23 : decode cX11_numberOf 23 = .ok (.arraylength, 1) := by decide +kernel
theorem dX11_numberOf_24 : decode cX11_numberOf 24 = .ok (.if_icmp .ge 9, 3) := by decide +kernel
theorem dX11_numberOf_27 : decode cX11_numberOf 27 = .ok (.aload_n 1, 1) := by decide +kernel
theorem dX11_numberOf_28 : decode cX11_numberOf 28 = .ok (.iload_n 2, 1) := by decide +kernel
theorem dX11_numberOf_29 : decode cX11_numberOf 29 = .ok (.iaload, 1) := by decide +kernel
theorem dX11_numberOf_30 : decode cX11_numberOf 30 = .ok (.goto 4, 3) := by decide +kernel
theorem dX11_numberOf_33 : decode cX11_numberOf 33 = .ok (.iconst 0, 1) := by decide +kernel
theorem dX11_numberOf_34 : decode cX11_numberOf 34 = .ok (.ireturn, 1) := by decide +kernel
set_option maxRecDepth 10000 in
theorem TX11_numberOf_0 {d : Nat} {S : fW} {h : fH} {Q : Int32 → fH → Prop} {x0 : Int32} {r1 : Nat} {n_r1 : Nat} {Q1 : Int32 → fH → Prop} 
    (ok1 : OkI d mX11_isDigit S [.int x0] h Q1)
    (k1 : ∀ v_1 h_1, Q1 v_1 h_1 → v_1 = 0 → (x0 - (97 : Int32)) < 0 → Q (0 : Int32) h_1)
    (hs1 : (r1, shI n_r1) ∈ S)
    (k2 : ∀ v_1 h_1, Q1 v_1 h_1 → v_1 = 0 → ¬ (x0 - (97 : Int32)) < 0 → (Int32.ofNat n_r1) ≤ (x0 - (97 : Int32)) → Q (0 : Int32) h_1)
    (sd1 : ∀ v_1 h_1, Q1 v_1 h_1 → v_1 = 0 → ¬ (x0 - (97 : Int32)) < 0 → ¬ (Int32.ofNat n_r1) ≤ (x0 - (97 : Int32)) → vp_in (x0 - (97 : Int32)) n_r1)
    (k3 : ∀ v_1 h_1, Q1 v_1 h_1 → v_1 = 0 → ¬ (x0 - (97 : Int32)) < 0 → ¬ (Int32.ofNat n_r1) ≤ (x0 - (97 : Int32)) → Q (h_1.2.2.1 r1 (x0 - (97 : Int32)).toNatClampNeg) h_1)
    (k4 : ∀ v_1 h_1, Q1 v_1 h_1 → ¬ v_1 = 0 → Q (x0 - (48 : Int32)) h_1) :
    OkI (d + 1) mX11_numberOf S [.int x0, .ref r1] h Q := by
  refine Ok.of (by decide) (Nat.le_of_ble_eq_true rfl) ?_
  refine G_iload_n 0 rfl dX11_numberOf_0 rfl ?_
  refine G_callS (Z := mX11_isDigit) (As := [.int x0]) (st := []) hL_X11_111 hT_X11_isDigit hC_X11_isDigit hN_X11 nX11_isDigit (by decide) rfl (Nat.le_of_ble_eq_true rfl) dX11_numberOf_1 (ok1) (fun r_ h_1 z_ => ?_)
  obtain ⟨v_1, rfl, q_1⟩ := z_
  refine G_if_eq (tgt := 12) dX11_numberOf_4 (by decide) (fun c2 => ?_) (fun c2 => ?_)
  · refine G_iload_n 0 rfl dX11_numberOf_12 rfl ?_
    refine G_bipush (v := 97) dX11_numberOf_13 (by decide) ?_
    refine G_isub dX11_numberOf_15 ?_
    refine G_istore_n dX11_numberOf_16 rfl (by decide) (lv' := [(2, .int (x0 - (97 : Int32))), (0, .int x0), (1, .ref r1)]) rfl ?_
    refine G_iload_n 0 rfl dX11_numberOf_17 rfl ?_
    refine G_if_lt (tgt := 33) dX11_numberOf_18 (by decide) (fun c3 => ?_) (fun c3 => ?_)
    · refine G_iconst (v := 0) dX11_numberOf_33 (by decide) ?_
      exact G_iret rfl dX11_numberOf_34 ⟨_, rfl, (k1 v_1 h_1 q_1 c2 c3)⟩
    · refine G_iload_n 0 rfl dX11_numberOf_21 rfl ?_
      refine G_aload_n 2 rfl dX11_numberOf_22 rfl ?_
      refine G_alenI hs1 dX11_numberOf_23 ?_
      refine G_icmp_ge (tgt := 33) dX11_numberOf_24 (by decide) (fun c4 => ?_) (fun c4 => ?_)
      · refine G_iconst (v := 0) dX11_numberOf_33 (by decide) ?_
        exact G_iret rfl dX11_numberOf_34 ⟨_, rfl, (k2 v_1 h_1 q_1 c2 c3 c4)⟩
      · refine G_aload_n 2 rfl dX11_numberOf_27 rfl ?_
        refine G_iload_n 0 rfl dX11_numberOf_28 rfl ?_
        refine G_iald hs1 (sd1 v_1 h_1 q_1 c2 c3 c4) dX11_numberOf_29 ?_
        refine G_goto (tgt := 34) dX11_numberOf_30 (by decide) ?_
        exact G_iret rfl dX11_numberOf_34 ⟨_, rfl, (k3 v_1 h_1 q_1 c2 c3 c4)⟩
  · refine G_iload_n 0 rfl dX11_numberOf_7 rfl ?_
    refine G_bipush (v := 48) dX11_numberOf_8 (by decide) ?_
    refine G_isub dX11_numberOf_10 ?_
    exact G_iret rfl dX11_numberOf_11 ⟨_, rfl, (k4 v_1 h_1 q_1 c2)⟩
-- LostDigits.at
theorem dX11_at_0 : decode cX11_at 0 = .ok (.iload_n 1, 1) := by decide +kernel
theorem dX11_at_1 : decode cX11_at 1 = .ok (.ifCond .lt 15, 3) := by decide +kernel
theorem dX11_at_4 : decode cX11_at 4 = .ok (.iload_n 1, 1) := by decide +kernel
theorem dX11_at_5 : decode cX11_at 5 = .ok (.aload_n 0, 1) := by decide +kernel
theorem dX11_at_6 : decode cX11_at 6 = .ok (.arraylength, 1) := by decide +kernel
theorem dX11_at_7 : decode cX11_at 7 = .ok (.if_icmp .ge 9, 3) := by decide +kernel
theorem dX11_at_10 : decode cX11_at 10 = .ok (.aload_n 0, 1) := by decide +kernel
theorem dX11_at_11 : decode cX11_at 11 = .ok (.iload_n 1, 1) := by decide +kernel
theorem dX11_at_12 : decode cX11_at 12 = .ok (.laload, 1) := by decide +kernel
theorem dX11_at_13 : decode cX11_at 13 = .ok (.goto 6, 3) := by decide +kernel
theorem dX11_at_16 : decode cX11_at 16 = .ok (.ldc2_w 182, 3) := by decide +kernel
theorem dX11_at_19 : decode cX11_at 19 = .ok (.lreturn, 1) := by decide +kernel
set_option maxRecDepth 10000 in
theorem TX11_at_0 {d : Nat} {S : fW} {h : fH} {Q : Int64 → fH → Prop} {r0 : Nat} {x1 : Int32} {n_r0 : Nat}  
    (k1 : x1 < 0 → Q (1000000000000000000 : Int64) h)
    (hs1 : (r0, shJ n_r0) ∈ S)
    (k2 : ¬ x1 < 0 → (Int32.ofNat n_r0) ≤ x1 → Q (1000000000000000000 : Int64) h)
    (sd1 : ¬ x1 < 0 → ¬ (Int32.ofNat n_r0) ≤ x1 → vp_in x1 n_r0)
    (k3 : ¬ x1 < 0 → ¬ (Int32.ofNat n_r0) ≤ x1 → Q (h.2.2.2 r0 x1.toNatClampNeg) h) :
    OkL d mX11_at S [.ref r0, .int x1] h Q := by
  refine Ok.of (by decide) (Nat.le_of_ble_eq_true rfl) ?_
  refine G_iload_n 1 rfl dX11_at_0 rfl ?_
  refine G_if_lt (tgt := 16) dX11_at_1 (by decide) (fun c1 => ?_) (fun c1 => ?_)
  · refine G_ldc2 hK_X11_182 dX11_at_16 ?_
    exact G_lret rfl dX11_at_19 ⟨_, rfl, (k1 c1)⟩
  · refine G_iload_n 1 rfl dX11_at_4 rfl ?_
    refine G_aload_n 0 rfl dX11_at_5 rfl ?_
    refine G_alenL hs1 dX11_at_6 ?_
    refine G_icmp_ge (tgt := 16) dX11_at_7 (by decide) (fun c2 => ?_) (fun c2 => ?_)
    · refine G_ldc2 hK_X11_182 dX11_at_16 ?_
      exact G_lret rfl dX11_at_19 ⟨_, rfl, (k2 c1 c2)⟩
    · refine G_aload_n 0 rfl dX11_at_10 rfl ?_
      refine G_iload_n 1 rfl dX11_at_11 rfl ?_
      refine G_lald hs1 (sd1 c1 c2) dX11_at_12 ?_
      refine G_goto (tgt := 19) dX11_at_13 (by decide) ?_
      exact G_lret rfl dX11_at_19 ⟨_, rfl, (k3 c1 c2)⟩

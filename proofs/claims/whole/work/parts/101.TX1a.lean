-- LostDigits$Orders.find
theorem dX1_find_0 : decode cX1_find 0 = .ok (.aload_n 0, 1) := by decide +kernel
theorem dX1_find_1 : decode cX1_find 1 = .ok (.getfield 38, 3) := by decide +kernel
theorem dX1_find_4 : decode cX1_find 4 = .ok (.ifCond .eq 4, 3) := by decide +kernel
theorem dX1_find_7 : decode cX1_find 7 = .ok (.return_, 1) := by decide +kernel
theorem dX1_find_8 : decode cX1_find 8 = .ok (.aload_n 0, 1) := by decide +kernel
theorem dX1_find_9 : decode cX1_find 9 = .ok (.iconst 1, 1) := by decide +kernel
theorem dX1_find_10 : decode cX1_find 10 = .ok (.putfield 38, 3) := by decide +kernel
theorem dX1_find_13 : decode cX1_find 13 = .ok (.aload_n 0, 1) := by decide +kernel
theorem dX1_find_14 : decode cX1_find 14 = .ok (.getfield 26, 3) := by decide +kernel
theorem dX1_find_17 : decode cX1_find 17 = .ok (.iconst 0, 1) := by decide +kernel
theorem dX1_find_18 : decode cX1_find 18 = .ok (.iconst 0, 1) := by decide +kernel
theorem dX1_find_19 : decode cX1_find 19 = .ok (.iastore, 1) := by decide +kernel
theorem dX1_find_20 : decode cX1_find 20 = .ok (.aload_n 0, 1) := by decide +kernel
theorem dX1_find_21 : decode cX1_find 21 = .ok (.getfield 26, 3) := by decide +kernel
theorem dX1_find_24 : decode cX1_find 24 = .ok (.iconst 1, 1) := by decide +kernel
theorem dX1_find_25 : decode cX1_find 25 = .ok (.iconst 0, 1) := by decide +kernel
theorem dX1_find_26 : decode cX1_find 26 = .ok (.iastore, 1) := by decide +kernel
theorem dX1_find_27 : decode cX1_find 27 = .ok (.aload_n 0, 1) := by decide +kernel
theorem dX1_find_28 : decode cX1_find 28 = .ok (.getfield 12, 3) := by decide +kernel
theorem dX1_find_31 : decode cX1_find 31 = .ok (.aload_n 1, 1) := by decide +kernel
theorem dX1_find_32 : decode cX1_find 32 = .ok (.invokevirtual 42, 3) := by decide +kernel
theorem dX1_find_35 : decode cX1_find 35 = .ok (.aload_n 0, 1) := by decide +kernel
theorem dX1_find_36 : decode cX1_find 36 = .ok (.aload_n 0, 1) := by decide +kernel
theorem dX1_find_37 : decode cX1_find 37 = .ok (.getfield 12, 3) := by decide +kernel
theorem dX1_find_40 : decode cX1_find 40 = .ok (.invokevirtual 46, 3) := by decide +kernel
theorem dX1_find_43 : decode cX1_find 43 = .ok (.putfield 34, 3) := by decide +kernel
theorem dX1_find_46 : decode cX1_find 46 = .ok (.aload_n 0, 1) := by decide +kernel
theorem dX1_find_47 : decode cX1_find 47 = .ok (.getfield 12, 3) := by decide +kernel
theorem dX1_find_50 : decode cX1_find 50 = .ok (.getfield 49, 3) := by decide +kernel
theorem dX1_find_53 : decode cX1_find 53 = .ok (.ifCond .le 10, 3) := by decide +kernel
theorem dX1_find_56 : decode cX1_find 56 = .ok (.aload_n 0, 1) := by decide +kernel
theorem dX1_find_57 : decode cX1_find 57 = .ok (.iconst 0, 1) := by decide +kernel
theorem dX1_find_58 : decode cX1_find 58 = .ok (.iconst 0, 1) := by decide +kernel
theorem dX1_find_59 : decode cX1_find 59 = .ok (.lconst 0, 1) := by decide +kernel
theorem dX1_find_60 : decode cX1_find 60 = .ok (.invokevirtual 53, 3) := by decide +kernel
theorem dX1_find_63 : decode cX1_find 63 = .ok (.return_, 1) := by decide +kernel
set_option maxRecDepth 10000 in
theorem NX1_find_0 {d : Nat} {S : fW} {h : fH} {Q : fH → Prop} {r0 : Nat} {r1 : Nat} {r0_sums r0_path r0_losses r0_counts r0_firsts r0_sums_ratio r0_sums_rounding r0_sums_terms r0_sums_sizes : Nat}  
    (hs1 : (r0, shX1 r0_sums r0_path r0_losses r0_counts r0_firsts) ∈ S)
    (hs2 : (r0_counts, shI 2) ∈ S)
    (hs3 : (r0_sums, shX9 r0_sums_ratio r0_sums_rounding r0_sums_terms r0_sums_sizes) ∈ S)
    (w : (((h.1 r0 6) = 0 → ∀ g_1 : fH, g_1 = u_fi h r0 6 (1 : Int32) → vp_in (0 : Int32) 2 ∧ ∀ g_2 : fH, g_2 = u_ai g_1 r0_counts (upd (g_1.2.2.1 r0_counts) (0 : Int32).toNatClampNeg (0 : Int32)) → vp_in (1 : Int32) 2 ∧ ∀ g_3 : fH, g_3 = u_ai g_2 r0_counts (upd (g_2.2.2.1 r0_counts) (1 : Int32).toNatClampNeg (0 : Int32)) → ∃ Q1 : fH → Prop, OkV d mX9_take S [.ref r0_sums, .ref r1] g_3 Q1 ∧ ∀ (h_1 : fH), Q1 h_1 → ∃ Q2 : Int64 → fH → Prop, OkL d mX9_whole S [.ref r0_sums] h_1 Q2 ∧ ∀ (v_2 : Int64) (h_2 : fH), Q2 v_2 h_2 → ∀ g_4 : fH, g_4 = u_fl h_2 r0 5 v_2 → (((g_4.1 r0_sums 4) ≤ 0 → Q g_4) ∧ (¬ (g_4.1 r0_sums 4) ≤ 0 → ∃ Q3 : fH → Prop, OkV d mX1_extend S [.ref r0, .int (0 : Int32), .int (0 : Int32), .long (0 : Int64)] g_4 Q3 ∧ ∀ (h_3 : fH), Q3 h_3 → Q h_3))) ∧ (¬ (h.1 r0 6) = 0 → Q h))) :
    OkV (d + 1) mX1_find S [.ref r0, .ref r1] h Q := by
  refine Ok.of (by decide) (Nat.le_of_ble_eq_true rfl) ?_
  refine G_aload_n 0 rfl dX1_find_0 rfl ?_
  refine G_geti (k := 6) hs1 (q := (RX1, TX1, 7)) rfl inX1 (by decide) (Or.inr rfl) hF_X1_38 dX1_find_1 ?_
  refine G_if_eq (tgt := 8) dX1_find_4 (by decide) (fun c1 => ?_) (fun c1 => ?_)
  · have w := w.1 c1
    refine G_aload_n 0 rfl dX1_find_8 rfl ?_
    refine G_iconst (v := 1) dX1_find_9 (by decide) ?_
    refine G_putz (k := 6) tyX1 hs1 (q := (RX1, TX1, 7)) rfl inX1 tyX1_ok nmX1 (by decide) rfl rfl rfl (Or.inr rfl) hF_X1_38 dX1_find_10 ?_
    refine G_nm (fun g_1 e_1 => ?_)
    have w := w g_1 e_1
    refine G_aload_n 0 rfl dX1_find_13 rfl ?_
    refine G_getr (j := r0_counts) (k := 3) hs1 (q := (RX1, TX1, 7)) rfl inX1 (by decide) rfl hF_X1_26 dX1_find_14 ?_
    refine G_iconst (v := 0) dX1_find_17 (by decide) ?_
    refine G_iconst (v := 0) dX1_find_18 (by decide) ?_
    obtain ⟨sd1, w⟩ := w
    refine G_iast hs2 sd1 dX1_find_19 ?_
    refine G_nm (fun g_2 e_2 => ?_)
    have w := w g_2 e_2
    refine G_aload_n 0 rfl dX1_find_20 rfl ?_
    refine G_getr (j := r0_counts) (k := 3) hs1 (q := (RX1, TX1, 7)) rfl inX1 (by decide) rfl hF_X1_26 dX1_find_21 ?_
    refine G_iconst (v := 1) dX1_find_24 (by decide) ?_
    refine G_iconst (v := 0) dX1_find_25 (by decide) ?_
    obtain ⟨sd2, w⟩ := w
    refine G_iast hs2 sd2 dX1_find_26 ?_
    refine G_nm (fun g_3 e_3 => ?_)
    have w := w g_3 e_3
    refine G_aload_n 0 rfl dX1_find_27 rfl ?_
    refine G_getr (j := r0_sums) (k := 0) hs1 (q := (RX1, TX1, 7)) rfl inX1 (by decide) rfl hF_X1_12 dX1_find_28 ?_
    refine G_aload_n 1 rfl dX1_find_31 rfl ?_
    obtain ⟨Q1, ok1, w⟩ := w
    refine G_callV (Z := mX9_take) (As := [.ref r1]) (st := []) hL_X1_42 hI_X9_take hS_X9_take hC_X9_take hN_X9 nX9_take (by decide) hs3 rfl rfl rfl (Nat.le_of_ble_eq_true rfl) dX1_find_32 ok1 (fun r_ h_1 z_ => ?_)
    obtain ⟨rfl, q_1⟩ := z_
    have w := w h_1 q_1
    refine G_aload_n 0 rfl dX1_find_35 rfl ?_
    refine G_aload_n 0 rfl dX1_find_36 rfl ?_
    refine G_getr (j := r0_sums) (k := 0) hs1 (q := (RX1, TX1, 7)) rfl inX1 (by decide) rfl hF_X1_12 dX1_find_37 ?_
    obtain ⟨Q2, ok2, w⟩ := w
    refine G_callV (Z := mX9_whole) (As := []) (st := [.ref r0]) hL_X1_46 hI_X9_whole hS_X9_whole hC_X9_whole hN_X9 nX9_whole (by decide) hs3 rfl rfl rfl (Nat.le_of_ble_eq_true rfl) dX1_find_40 ok2 (fun r_ h_2 z_ => ?_)
    obtain ⟨v_2, rfl, q_2⟩ := z_
    have w := w v_2 h_2 q_2
    refine G_putl (k := 5) tyX1 hs1 (q := (RX1, TX1, 7)) rfl inX1 tyX1_ok nmX1 (by decide) rfl rfl rfl hF_X1_34 dX1_find_43 ?_
    refine G_nm (fun g_4 e_4 => ?_)
    have w := w g_4 e_4
    refine G_aload_n 0 rfl dX1_find_46 rfl ?_
    refine G_getr (j := r0_sums) (k := 0) hs1 (q := (RX1, TX1, 7)) rfl inX1 (by decide) rfl hF_X1_12 dX1_find_47 ?_
    refine G_geti (k := 4) hs3 (q := (RX9, TX9, 5)) rfl inX9 (by decide) (Or.inl rfl) hF_X1_49 dX1_find_50 ?_
    refine G_if_le (tgt := 63) dX1_find_53 (by decide) (fun c2 => ?_) (fun c2 => ?_)
    · have w := w.1 c2
      exact G_vret rfl dX1_find_63 ⟨rfl, w⟩
    · have w := w.2 c2
      refine G_aload_n 0 rfl dX1_find_56 rfl ?_
      refine G_iconst (v := 0) dX1_find_57 (by decide) ?_
      refine G_iconst (v := 0) dX1_find_58 (by decide) ?_
      refine G_lconst (v := 0) dX1_find_59 (by decide) ?_
      obtain ⟨Q3, ok3, w⟩ := w
      refine G_callV (Z := mX1_extend) (As := [.int (0 : Int32), .int (0 : Int32), .long (0 : Int64)]) (st := []) hL_X1_53 hI_X1_extend hS_X1_extend hC_X1_extend hN_X1 nX1_extend (by decide) hs1 rfl rfl rfl (Nat.le_of_ble_eq_true rfl) dX1_find_60 ok3 (fun r_ h_3 z_ => ?_)
      obtain ⟨rfl, q_3⟩ := z_
      have w := w h_3 q_3
      exact G_vret rfl dX1_find_63 ⟨rfl, w⟩
  · have w := w.2 c1
    exact G_vret rfl dX1_find_7 ⟨rfl, w⟩
-- LostDigits$Orders.extend
theorem dX1_extend_0 : decode cX1_extend 0 = .ok (.iload_n 1, 1) := by decide +kernel
theorem dX1_extend_1 : decode cX1_extend 1 = .ok (.aload_n 0, 1) := by decide +kernel
theorem dX1_extend_2 : decode cX1_extend 2 = .ok (.getfield 12, 3) := by decide +kernel
theorem dX1_extend_5 : decode cX1_extend 5 = .ok (.getfield 49, 3) := by decide +kernel
theorem dX1_extend_8 : decode cX1_extend 8 = .ok (.if_icmp .ge 9, 3) := by decide +kernel
theorem dX1_extend_11 : decode cX1_extend 11 = .ok (.iload_n 1, 1) := by decide +kernel
theorem dX1_extend_12 : decode cX1_extend 12 = .ok (.bipush 7, 2) := by decide +kernel
theorem dX1_extend_14 : decode cX1_extend 14 = .ok (.if_icmp .lt 26, 3) := by decide +kernel
theorem dX1_extend_17 : decode cX1_extend 17 = .ok (.aload_n 0, 1) := by decide +kernel
theorem dX1_extend_18 : decode cX1_extend 18 = .ok (.iconst 0, 1) := by decide +kernel
theorem dX1_extend_19 : decode cX1_extend 19 = .ok (.lload_n 3, 1) := by decide +kernel
theorem dX1_extend_20 : decode cX1_extend 20 = .ok (.aload_n 0, 1) := by decide +kernel
theorem dX1_extend_21 : decode cX1_extend 21 = .ok (.getfield 34, 3) := by decide +kernel
theorem dX1_extend_24 : decode cX1_extend 24 = .ok (.lsub, 1) := by decide +kernel
theorem dX1_extend_25 : decode cX1_extend 25 = .ok (.invokevirtual 57, 3) := by decide +kernel
theorem dX1_extend_28 : decode cX1_extend 28 = .ok (.aload_n 0, 1) := by decide +kernel
theorem dX1_extend_29 : decode cX1_extend 29 = .ok (.iconst 1, 1) := by decide +kernel
theorem dX1_extend_30 : decode cX1_extend 30 = .ok (.lload_n 3, 1) := by decide +kernel
theorem dX1_extend_31 : decode cX1_extend 31 = .ok (.aload_n 0, 1) := by decide +kernel
theorem dX1_extend_32 : decode cX1_extend 32 = .ok (.getfield 34, 3) := by decide +kernel
theorem dX1_extend_35 : decode cX1_extend 35 = .ok (.lsub, 1) := by decide +kernel
theorem dX1_extend_36 : decode cX1_extend 36 = .ok (.invokevirtual 57, 3) := by decide +kernel
theorem dX1_extend_39 : decode cX1_extend 39 = .ok (.return_, 1) := by decide +kernel
theorem dX1_extend_40 : decode cX1_extend 40 = .ok (.iconst 0, 1) := by decide +kernel
theorem dX1_extend_41 : decode cX1_extend 41 = .ok (.istore 5, 2) := by decide +kernel
theorem dX1_extend_43 : decode cX1_extend 43 = .ok (.iload 5, 2) := by decide +kernel
theorem dX1_extend_45 : decode cX1_extend 45 = .ok (.aload_n 0, 1) := by decide +kernel
theorem dX1_extend_46 : decode cX1_extend 46 = .ok (.getfield 12, 3) := by decide +kernel
theorem dX1_extend_49 : decode cX1_extend 49 = .ok (.getfield 49, 3) := by decide +kernel
theorem dX1_extend_52 : decode cX1_extend 52 = .ok (.if_icmp .ge 87, 3) := by decide +kernel
theorem dX1_extend_55 : decode cX1_extend 55 = .ok (.iload_n 2, 1) := by decide +kernel
theorem dX1_extend_56 : decode cX1_extend 56 = .ok (.iload 5, 2) := by decide +kernel
theorem dX1_extend_58 : decode cX1_extend 58 = .ok (.ishr, 1) := by decide +kernel
theorem dX1_extend_59 : decode cX1_extend 59 = .ok (.iconst 1, 1) := by decide +kernel
theorem dX1_extend_60 : decode cX1_extend 60 = .ok (.iand, 1) := by decide +kernel
theorem dX1_extend_61 : decode cX1_extend 61 = .ok (.ifCond .ne 72, 3) := by decide +kernel
theorem dX1_extend_64 : decode cX1_extend 64 = .ok (.iload_n 1, 1) := by decide +kernel
theorem dX1_extend_65 : decode cX1_extend 65 = .ok (.ifCond .ne 16, 3) := by decide +kernel
theorem dX1_extend_68 : decode cX1_extend 68 = .ok (.aload_n 0, 1) := by decide +kernel
theorem dX1_extend_69 : decode cX1_extend 69 = .ok (.getfield 12, 3) := by decide +kernel
theorem dX1_extend_72 : decode cX1_extend 72 = .ok (.getfield 61, 3) := by decide +kernel
theorem dX1_extend_75 : decode cX1_extend 75 = .ok (.iload 5, 2) := by decide +kernel
theorem dX1_extend_77 : decode cX1_extend 77 = .ok (.laload, 1) := by decide +kernel
theorem dX1_extend_78 : decode cX1_extend 78 = .ok (.goto 21, 3) := by decide +kernel
theorem dX1_extend_81 : decode cX1_extend 81 = .ok (.aload_n 0, 1) := by decide +kernel
theorem dX1_extend_82 : decode cX1_extend 82 = .ok (.getfield 12, 3) := by decide +kernel
theorem dX1_extend_85 : decode cX1_extend 85 = .ok (.lload_n 3, 1) := by decide +kernel
theorem dX1_extend_86 : decode cX1_extend 86 = .ok (.aload_n 0, 1) := by decide +kernel
theorem dX1_extend_87 : decode cX1_extend 87 = .ok (.getfield 12, 3) := by decide +kernel
theorem dX1_extend_90 : decode cX1_extend 90 = .ok (.getfield 61, 3) := by decide +kernel
theorem dX1_extend_93 : decode cX1_extend 93 = .ok (.iload 5, 2) := by decide +kernel
theorem dX1_extend_95 : decode cX1_extend 95 = .ok (.laload, 1) := by decide +kernel
theorem dX1_extend_96 : decode cX1_extend 96 = .ok (.invokevirtual 64, 3) := by decide +kernel
theorem dX1_extend_99 : decode cX1_extend 99 = .ok (.lstore 6, 2) := by decide +kernel
theorem dX1_extend_101 : decode cX1_extend 101 = .ok (.lload 6, 2) := by decide +kernel
theorem dX1_extend_103 : decode cX1_extend 103 = .ok (.ldc2_w 68, 3) := by decide +kernel
theorem dX1_extend_106 : decode cX1_extend 106 = .ok (.lcmp, 1) := by decide +kernel
theorem dX1_extend_107 : decode cX1_extend 107 = .ok (.ifCond .eq 26, 3) := by decide +kernel
theorem dX1_extend_110 : decode cX1_extend 110 = .ok (.aload_n 0, 1) := by decide +kernel
theorem dX1_extend_111 : decode cX1_extend 111 = .ok (.getfield 18, 3) := by decide +kernel
theorem dX1_extend_114 : decode cX1_extend 114 = .ok (.iload_n 1, 1) := by decide +kernel
theorem dX1_extend_115 : decode cX1_extend 115 = .ok (.iload 5, 2) := by decide +kernel
theorem dX1_extend_117 : decode cX1_extend 117 = .ok (.iastore, 1) := by decide +kernel
theorem dX1_extend_118 : decode cX1_extend 118 = .ok (.aload_n 0, 1) := by decide +kernel
theorem dX1_extend_119 : decode cX1_extend 119 = .ok (.iload_n 1, 1) := by decide +kernel
theorem dX1_extend_120 : decode cX1_extend 120 = .ok (.iconst 1, 1) := by decide +kernel
theorem dX1_extend_121 : decode cX1_extend 121 = .ok (.iadd, 1) := by decide +kernel
theorem dX1_extend_122 : decode cX1_extend 122 = .ok (.iload_n 2, 1) := by decide +kernel
theorem dX1_extend_123 : decode cX1_extend 123 = .ok (.iconst 1, 1) := by decide +kernel
theorem dX1_extend_124 : decode cX1_extend 124 = .ok (.iload 5, 2) := by decide +kernel
theorem dX1_extend_126 : decode cX1_extend 126 = .ok (.ishl, 1) := by decide +kernel
theorem dX1_extend_127 : decode cX1_extend 127 = .ok (.ior, 1) := by decide +kernel
theorem dX1_extend_128 : decode cX1_extend 128 = .ok (.lload 6, 2) := by decide +kernel
theorem dX1_extend_130 : decode cX1_extend 130 = .ok (.invokevirtual 53, 3) := by decide +kernel
theorem dX1_extend_133 : decode cX1_extend 133 = .ok (.iinc 5 1, 3) := by decide +kernel
theorem dX1_extend_136 : decode cX1_extend 136 = .ok (.goto (-93), 3) := by decide +kernel
theorem dX1_extend_139 : decode cX1_extend 139 = .ok (.return_, 1) := by decide +kernel
set_option maxRecDepth 10000 in
theorem NX1_extend_0 {d : Nat} {S : fW} {h : fH} {Q : fH → Prop} {r0 : Nat} {x1 : Int32} {x2 : Int32} {x3 : Int64} {r0_sums r0_path r0_losses r0_counts r0_firsts r0_sums_ratio r0_sums_rounding r0_sums_terms r0_sums_sizes : Nat}  
    (hs1 : (r0, shX1 r0_sums r0_path r0_losses r0_counts r0_firsts) ∈ S)
    (hs2 : (r0_sums, shX9 r0_sums_ratio r0_sums_rounding r0_sums_terms r0_sums_sizes) ∈ S)
    (w : (((h.1 r0_sums 4) ≤ x1 → ∃ Q1 : fH → Prop, OkV d mX1_note S [.ref r0, .int (0 : Int32), .long (x3 - (h.2.1 r0 5))] h Q1 ∧ ∀ (h_1 : fH), Q1 h_1 → ∃ Q2 : fH → Prop, OkV d mX1_note S [.ref r0, .int (1 : Int32), .long (x3 - (h_1.2.1 r0 5))] h_1 Q2 ∧ ∀ (h_2 : fH), Q2 h_2 → Q h_2) ∧ (¬ (h.1 r0_sums 4) ≤ x1 → ((x1 < (7 : Int32) → G mX1_extend (d + 1) S (f_PV Q) 43 [(0, .ref r0), (1, .int x1), (2, .int x2), (3, .long x3), (5, .int (0 : Int32))] [] h) ∧ (¬ x1 < (7 : Int32) → ∃ Q3 : fH → Prop, OkV d mX1_note S [.ref r0, .int (0 : Int32), .long (x3 - (h.2.1 r0 5))] h Q3 ∧ ∀ (h_3 : fH), Q3 h_3 → ∃ Q4 : fH → Prop, OkV d mX1_note S [.ref r0, .int (1 : Int32), .long (x3 - (h_3.2.1 r0 5))] h_3 Q4 ∧ ∀ (h_4 : fH), Q4 h_4 → Q h_4))))) :
    OkV (d + 1) mX1_extend S [.ref r0, .int x1, .int x2, .long x3] h Q := by
  refine Ok.of (by decide) (Nat.le_of_ble_eq_true rfl) ?_
  refine G_iload_n 1 rfl dX1_extend_0 rfl ?_
  refine G_aload_n 0 rfl dX1_extend_1 rfl ?_
  refine G_getr (j := r0_sums) (k := 0) hs1 (q := (RX1, TX1, 7)) rfl inX1 (by decide) rfl hF_X1_12 dX1_extend_2 ?_
  refine G_geti (k := 4) hs2 (q := (RX9, TX9, 5)) rfl inX9 (by decide) (Or.inl rfl) hF_X1_49 dX1_extend_5 ?_
  refine G_icmp_ge (tgt := 17) dX1_extend_8 (by decide) (fun c1 => ?_) (fun c1 => ?_)
  · have w := w.1 c1
    refine G_aload_n 0 rfl dX1_extend_17 rfl ?_
    refine G_iconst (v := 0) dX1_extend_18 (by decide) ?_
    refine G_lload_n 3 rfl dX1_extend_19 rfl ?_
    refine G_aload_n 0 rfl dX1_extend_20 rfl ?_
    refine G_getl (k := 5) hs1 (q := (RX1, TX1, 7)) rfl inX1 (by decide) rfl hF_X1_34 dX1_extend_21 ?_
    refine G_lsub dX1_extend_24 ?_
    obtain ⟨Q1, ok1, w⟩ := w
    refine G_callV (Z := mX1_note) (As := [.int (0 : Int32), .long (x3 - (h.2.1 r0 5))]) (st := []) hL_X1_57 hI_X1_note hS_X1_note hC_X1_note hN_X1 nX1_note (by decide) hs1 rfl rfl rfl (Nat.le_of_ble_eq_true rfl) dX1_extend_25 ok1 (fun r_ h_1 z_ => ?_)
    obtain ⟨rfl, q_1⟩ := z_
    have w := w h_1 q_1
    refine G_aload_n 0 rfl dX1_extend_28 rfl ?_
    refine G_iconst (v := 1) dX1_extend_29 (by decide) ?_
    refine G_lload_n 3 rfl dX1_extend_30 rfl ?_
    refine G_aload_n 0 rfl dX1_extend_31 rfl ?_
    refine G_getl (k := 5) hs1 (q := (RX1, TX1, 7)) rfl inX1 (by decide) rfl hF_X1_34 dX1_extend_32 ?_
    refine G_lsub dX1_extend_35 ?_
    obtain ⟨Q2, ok2, w⟩ := w
    refine G_callV (Z := mX1_note) (As := [.int (1 : Int32), .long (x3 - (h_1.2.1 r0 5))]) (st := []) hL_X1_57 hI_X1_note hS_X1_note hC_X1_note hN_X1 nX1_note (by decide) hs1 rfl rfl rfl (Nat.le_of_ble_eq_true rfl) dX1_extend_36 ok2 (fun r_ h_2 z_ => ?_)
    obtain ⟨rfl, q_2⟩ := z_
    have w := w h_2 q_2
    exact G_vret rfl dX1_extend_39 ⟨rfl, w⟩
  · have w := w.2 c1
    refine G_iload_n 1 rfl dX1_extend_11 rfl ?_
    refine G_bipush (v := 7) dX1_extend_12 (by decide) ?_
    refine G_icmp_lt (tgt := 40) dX1_extend_14 (by decide) (fun c2 => ?_) (fun c2 => ?_)
    · have w := w.1 c2
      refine G_iconst (v := 0) dX1_extend_40 (by decide) ?_
      refine G_istore dX1_extend_41 (by decide) (lv' := [(5, .int (0 : Int32)), (0, .ref r0), (1, .int x1), (2, .int x2), (3, .long x3)]) rfl ?_
      exact G_sub [1, 2, 3, 4, 0] rfl w
    · have w := w.2 c2
      refine G_aload_n 0 rfl dX1_extend_17 rfl ?_
      refine G_iconst (v := 0) dX1_extend_18 (by decide) ?_
      refine G_lload_n 3 rfl dX1_extend_19 rfl ?_
      refine G_aload_n 0 rfl dX1_extend_20 rfl ?_
      refine G_getl (k := 5) hs1 (q := (RX1, TX1, 7)) rfl inX1 (by decide) rfl hF_X1_34 dX1_extend_21 ?_
      refine G_lsub dX1_extend_24 ?_
      obtain ⟨Q3, ok3, w⟩ := w
      refine G_callV (Z := mX1_note) (As := [.int (0 : Int32), .long (x3 - (h.2.1 r0 5))]) (st := []) hL_X1_57 hI_X1_note hS_X1_note hC_X1_note hN_X1 nX1_note (by decide) hs1 rfl rfl rfl (Nat.le_of_ble_eq_true rfl) dX1_extend_25 ok3 (fun r_ h_3 z_ => ?_)
      obtain ⟨rfl, q_3⟩ := z_
      have w := w h_3 q_3
      refine G_aload_n 0 rfl dX1_extend_28 rfl ?_
      refine G_iconst (v := 1) dX1_extend_29 (by decide) ?_
      refine G_lload_n 3 rfl dX1_extend_30 rfl ?_
      refine G_aload_n 0 rfl dX1_extend_31 rfl ?_
      refine G_getl (k := 5) hs1 (q := (RX1, TX1, 7)) rfl inX1 (by decide) rfl hF_X1_34 dX1_extend_32 ?_
      refine G_lsub dX1_extend_35 ?_
      obtain ⟨Q4, ok4, w⟩ := w
      refine G_callV (Z := mX1_note) (As := [.int (1 : Int32), .long (x3 - (h_3.2.1 r0 5))]) (st := []) hL_X1_57 hI_X1_note hS_X1_note hC_X1_note hN_X1 nX1_note (by decide) hs1 rfl rfl rfl (Nat.le_of_ble_eq_true rfl) dX1_extend_36 ok4 (fun r_ h_4 z_ => ?_)
      obtain ⟨rfl, q_4⟩ := z_
      have w := w h_4 q_4
      exact G_vret rfl dX1_extend_39 ⟨rfl, w⟩

set_option maxRecDepth 10000 in
theorem NX1_extend_43 {d : Nat} {S : fW} {h : fH} {Q : fH → Prop} {r0 : Nat} {x1 : Int32} {x2 : Int32} {x3 : Int64} {x5 : Int32} {r0_sums r0_path r0_losses r0_counts r0_firsts r0_sums_ratio r0_sums_rounding r0_sums_terms r0_sums_sizes : Nat}  
    (hs1 : (r0, shX1 r0_sums r0_path r0_losses r0_counts r0_firsts) ∈ S)
    (hs2 : (r0_sums, shX9 r0_sums_ratio r0_sums_rounding r0_sums_terms r0_sums_sizes) ∈ S)
    (hs3 : (r0_sums_terms, shJ 7) ∈ S)
    (w : (((h.1 r0_sums 4) ≤ x5 → Q h) ∧ (¬ (h.1 r0_sums 4) ≤ x5 → ((¬ ((x2 >>> (x5 &&& 31)) &&& (1 : Int32)) = 0 → G mX1_extend (d + 1) S (f_PV Q) 43 [(0, .ref r0), (1, .int x1), (2, .int x2), (3, .long x3), (5, .int (x5 + 1))] [] h) ∧ (((x2 >>> (x5 &&& 31)) &&& (1 : Int32)) = 0 → ((¬ x1 = 0 → vp_in x5 7 ∧ ∃ Q1 : Int64 → fH → Prop, OkL d mX9_plus S [.ref r0_sums, .long x3, .long (h.2.2.2 r0_sums_terms x5.toNatClampNeg)] h Q1 ∧ ∀ (v_1 : Int64) (h_1 : fH), Q1 v_1 h_1 → G mX1_extend (d + 1) S (f_PV Q) 99 [(0, .ref r0), (1, .int x1), (2, .int x2), (3, .long x3), (5, .int x5)] [.long v_1] h_1) ∧ (x1 = 0 → vp_in x5 7 ∧ G mX1_extend (d + 1) S (f_PV Q) 99 [(0, .ref r0), (1, .int x1), (2, .int x2), (3, .long x3), (5, .int x5)] [.long (h.2.2.2 r0_sums_terms x5.toNatClampNeg)] h))))))) :
    G mX1_extend (d + 1) S (f_PV Q) 43 [(0, .ref r0), (1, .int x1), (2, .int x2), (3, .long x3), (5, .int x5)] [] h := by
  refine G_iload 4 rfl dX1_extend_43 ?_
  refine G_aload_n 0 rfl dX1_extend_45 rfl ?_
  refine G_getr (j := r0_sums) (k := 0) hs1 (q := (RX1, TX1, 7)) rfl inX1 (by decide) rfl hF_X1_12 dX1_extend_46 ?_
  refine G_geti (k := 4) hs2 (q := (RX9, TX9, 5)) rfl inX9 (by decide) (Or.inl rfl) hF_X1_49 dX1_extend_49 ?_
  refine G_icmp_ge (tgt := 139) dX1_extend_52 (by decide) (fun c1 => ?_) (fun c1 => ?_)
  · have w := w.1 c1
    exact G_vret rfl dX1_extend_139 ⟨rfl, w⟩
  · have w := w.2 c1
    refine G_iload_n 2 rfl dX1_extend_55 rfl ?_
    refine G_iload 4 rfl dX1_extend_56 ?_
    refine G_ishr dX1_extend_58 ?_
    refine G_iconst (v := 1) dX1_extend_59 (by decide) ?_
    refine G_iand dX1_extend_60 ?_
    refine G_if_ne (tgt := 133) dX1_extend_61 (by decide) (fun c2 => ?_) (fun c2 => ?_)
    · have w := w.1 c2
      refine G_iinc (v := 1) 4 rfl dX1_extend_133 (by decide) (by decide) (lv' := [(5, .int (x5 + 1)), (0, .ref r0), (1, .int x1), (2, .int x2), (3, .long x3)]) rfl ?_
      refine G_goto (tgt := 43) dX1_extend_136 (by decide) ?_
      exact G_sub [1, 2, 3, 4, 0] rfl w
    · have w := w.2 c2
      refine G_iload_n 1 rfl dX1_extend_64 rfl ?_
      refine G_if_ne (tgt := 81) dX1_extend_65 (by decide) (fun c3 => ?_) (fun c3 => ?_)
      · have w := w.1 c3
        refine G_aload_n 0 rfl dX1_extend_81 rfl ?_
        refine G_getr (j := r0_sums) (k := 0) hs1 (q := (RX1, TX1, 7)) rfl inX1 (by decide) rfl hF_X1_12 dX1_extend_82 ?_
        refine G_lload_n 3 rfl dX1_extend_85 rfl ?_
        refine G_aload_n 0 rfl dX1_extend_86 rfl ?_
        refine G_getr (j := r0_sums) (k := 0) hs1 (q := (RX1, TX1, 7)) rfl inX1 (by decide) rfl hF_X1_12 dX1_extend_87 ?_
        refine G_getr (j := r0_sums_terms) (k := 2) hs2 (q := (RX9, TX9, 5)) rfl inX9 (by decide) rfl hF_X1_61 dX1_extend_90 ?_
        refine G_iload 4 rfl dX1_extend_93 ?_
        obtain ⟨sd1, w⟩ := w
        refine G_lald hs3 sd1 dX1_extend_95 ?_
        obtain ⟨Q1, ok1, w⟩ := w
        refine G_callV (Z := mX9_plus) (As := [.long x3, .long (h.2.2.2 r0_sums_terms x5.toNatClampNeg)]) (st := []) hL_X1_64 hI_X9_plus hS_X9_plus hC_X9_plus hN_X9 nX9_plus (by decide) hs2 rfl rfl rfl (Nat.le_of_ble_eq_true rfl) dX1_extend_96 ok1 (fun r_ h_1 z_ => ?_)
        obtain ⟨v_1, rfl, q_1⟩ := z_
        have w := w v_1 h_1 q_1
        exact G_sub [0, 1, 2, 3, 4] rfl w
      · have w := w.2 c3
        refine G_aload_n 0 rfl dX1_extend_68 rfl ?_
        refine G_getr (j := r0_sums) (k := 0) hs1 (q := (RX1, TX1, 7)) rfl inX1 (by decide) rfl hF_X1_12 dX1_extend_69 ?_
        refine G_getr (j := r0_sums_terms) (k := 2) hs2 (q := (RX9, TX9, 5)) rfl inX9 (by decide) rfl hF_X1_61 dX1_extend_72 ?_
        refine G_iload 4 rfl dX1_extend_75 ?_
        obtain ⟨sd1, w⟩ := w
        refine G_lald hs3 sd1 dX1_extend_77 ?_
        refine G_goto (tgt := 99) dX1_extend_78 (by decide) ?_
        exact G_sub [0, 1, 2, 3, 4] rfl w

set_option maxRecDepth 10000 in
theorem NX1_extend_99 {d : Nat} {S : fW} {h : fH} {Q : fH → Prop} {r0 : Nat} {x1 : Int32} {x2 : Int32} {x3 : Int64} {x5 : Int32} {s0 : Int64} {r0_sums r0_path r0_losses r0_counts r0_firsts : Nat}  
    (hs1 : (r0, shX1 r0_sums r0_path r0_losses r0_counts r0_firsts) ∈ S)
    (hs2 : (r0_path, shI 7) ∈ S)
    (w : ((s0 = (1000000000000000000 : Int64) → G mX1_extend (d + 1) S (f_PV Q) 43 [(0, .ref r0), (1, .int x1), (2, .int x2), (3, .long x3), (5, .int (x5 + 1))] [] h) ∧ (¬ s0 = (1000000000000000000 : Int64) → vp_in x1 7 ∧ ∀ g_1 : fH, g_1 = u_ai h r0_path (upd (h.2.2.1 r0_path) x1.toNatClampNeg x5) → ∃ Q1 : fH → Prop, OkV d mX1_extend S [.ref r0, .int (x1 + (1 : Int32)), .int (x2 ||| ((1 : Int32) <<< (x5 &&& 31))), .long s0] g_1 Q1 ∧ ∀ (h_1 : fH), Q1 h_1 → G mX1_extend (d + 1) S (f_PV Q) 43 [(0, .ref r0), (1, .int x1), (2, .int x2), (3, .long x3), (5, .int (x5 + 1))] [] h_1))) :
    G mX1_extend (d + 1) S (f_PV Q) 99 [(0, .ref r0), (1, .int x1), (2, .int x2), (3, .long x3), (5, .int x5)] [.long s0] h := by
  refine G_lstore dX1_extend_99 (by decide) (lv' := [(6, .long s0), (0, .ref r0), (1, .int x1), (2, .int x2), (3, .long x3), (5, .int x5)]) rfl ?_
  refine G_lload 0 rfl dX1_extend_101 ?_
  refine G_ldc2 hK_X1_68 dX1_extend_103 ?_
  refine G_lif_eq (tgt := 133) dX1_extend_106 dX1_extend_107 (by decide) (fun c1 => ?_) (fun c1 => ?_)
  · have w := w.1 c1
    refine G_iinc (v := 1) 5 rfl dX1_extend_133 (by decide) (by decide) (lv' := [(5, .int (x5 + 1)), (6, .long s0), (0, .ref r0), (1, .int x1), (2, .int x2), (3, .long x3)]) rfl ?_
    refine G_goto (tgt := 43) dX1_extend_136 (by decide) ?_
    exact G_sub [2, 3, 4, 5, 0] rfl w
  · have w := w.2 c1
    refine G_aload_n 1 rfl dX1_extend_110 rfl ?_
    refine G_getr (j := r0_path) (k := 1) hs1 (q := (RX1, TX1, 7)) rfl inX1 (by decide) rfl hF_X1_18 dX1_extend_111 ?_
    refine G_iload_n 2 rfl dX1_extend_114 rfl ?_
    refine G_iload 5 rfl dX1_extend_115 ?_
    obtain ⟨sd1, w⟩ := w
    refine G_iast hs2 sd1 dX1_extend_117 ?_
    refine G_nm (fun g_1 e_1 => ?_)
    have w := w g_1 e_1
    refine G_aload_n 1 rfl dX1_extend_118 rfl ?_
    refine G_iload_n 2 rfl dX1_extend_119 rfl ?_
    refine G_iconst (v := 1) dX1_extend_120 (by decide) ?_
    refine G_iadd dX1_extend_121 ?_
    refine G_iload_n 3 rfl dX1_extend_122 rfl ?_
    refine G_iconst (v := 1) dX1_extend_123 (by decide) ?_
    refine G_iload 5 rfl dX1_extend_124 ?_
    refine G_ishl dX1_extend_126 ?_
    refine G_ior dX1_extend_127 ?_
    refine G_lload 0 rfl dX1_extend_128 ?_
    obtain ⟨Q1, ok1, w⟩ := w
    refine G_callV (Z := mX1_extend) (As := [.int (x1 + (1 : Int32)), .int (x2 ||| ((1 : Int32) <<< (x5 &&& 31))), .long s0]) (st := []) hL_X1_53 hI_X1_extend hS_X1_extend hC_X1_extend hN_X1 nX1_extend (by decide) hs1 rfl rfl rfl (Nat.le_of_ble_eq_true rfl) dX1_extend_130 ok1 (fun r_ h_1 z_ => ?_)
    obtain ⟨rfl, q_1⟩ := z_
    have w := w h_1 q_1
    refine G_iinc (v := 1) 5 rfl dX1_extend_133 (by decide) (by decide) (lv' := [(5, .int (x5 + 1)), (6, .long s0), (0, .ref r0), (1, .int x1), (2, .int x2), (3, .long x3)]) rfl ?_
    refine G_goto (tgt := 43) dX1_extend_136 (by decide) ?_
    exact G_sub [2, 3, 4, 5, 0] rfl w
-- LostDigits$Orders.note
theorem dX1_note_0 : decode cX1_note 0 = .ok (.aload_n 0, 1) := by decide +kernel
theorem dX1_note_1 : decode cX1_note 1 = .ok (.getfield 26, 3) := by decide +kernel
theorem dX1_note_4 : decode cX1_note 4 = .ok (.iload_n 1, 1) := by decide +kernel
theorem dX1_note_5 : decode cX1_note 5 = .ok (.iaload, 1) := by decide +kernel
theorem dX1_note_6 : decode cX1_note 6 = .ok (.ifCond .le 27, 3) := by decide +kernel
theorem dX1_note_9 : decode cX1_note 9 = .ok (.lload_n 2, 1) := by decide +kernel
theorem dX1_note_10 : decode cX1_note 10 = .ok (.aload_n 0, 1) := by decide +kernel
theorem dX1_note_11 : decode cX1_note 11 = .ok (.getfield 22, 3) := by decide +kernel
theorem dX1_note_14 : decode cX1_note 14 = .ok (.iload_n 1, 1) := by decide +kernel
theorem dX1_note_15 : decode cX1_note 15 = .ok (.laload, 1) := by decide +kernel
theorem dX1_note_16 : decode cX1_note 16 = .ok (.lcmp, 1) := by decide +kernel
theorem dX1_note_17 : decode cX1_note 17 = .ok (.ifCond .ne 16, 3) := by decide +kernel
theorem dX1_note_20 : decode cX1_note 20 = .ok (.aload_n 0, 1) := by decide +kernel
theorem dX1_note_21 : decode cX1_note 21 = .ok (.getfield 26, 3) := by decide +kernel
theorem dX1_note_24 : decode cX1_note 24 = .ok (.iload_n 1, 1) := by decide +kernel
theorem dX1_note_25 : decode cX1_note 25 = .ok (.dup2, 1) := by decide +kernel
theorem dX1_note_26 : decode cX1_note 26 = .ok (.iaload, 1) := by decide +kernel
theorem dX1_note_27 : decode cX1_note 27 = .ok (.iconst 1, 1) := by decide +kernel
theorem dX1_note_28 : decode cX1_note 28 = .ok (.iadd, 1) := by decide +kernel
theorem dX1_note_29 : decode cX1_note 29 = .ok (.iastore, 1) := by decide +kernel
theorem dX1_note_30 : decode cX1_note 30 = .ok (.goto 57, 3) := by decide +kernel
theorem dX1_note_33 : decode cX1_note 33 = .ok (.aload_n 0, 1) := by decide +kernel
theorem dX1_note_34 : decode cX1_note 34 = .ok (.getfield 26, 3) := by decide +kernel
theorem dX1_note_37 : decode cX1_note 37 = .ok (.iload_n 1, 1) := by decide +kernel
theorem dX1_note_38 : decode cX1_note 38 = .ok (.iaload, 1) := by decide +kernel
theorem dX1_note_39 : decode cX1_note 39 = .ok (.ifCond .eq 17, 3) := by decide +kernel
theorem dX1_note_42 : decode cX1_note 42 = .ok (.iload_n 1, 1) := by decide +kernel
theorem dX1_note_43 : decode cX1_note 43 = .ok (.lload_n 2, 1) := by decide +kernel
theorem dX1_note_44 : decode cX1_note 44 = .ok (.aload_n 0, 1) := by decide +kernel
theorem dX1_note_45 : decode cX1_note 45 = .ok (.getfield 22, 3) := by decide +kernel
theorem dX1_note_48 : decode cX1_note 48 = .ok (.iload_n 1, 1) := by decide +kernel
theorem dX1_note_49 : decode cX1_note 49 = .ok (.laload, 1) := by decide +kernel
theorem dX1_note_50 : decode cX1_note 50 = .ok (.invokestatic 70, 3) := by decide +kernel
theorem dX1_note_53 : decode cX1_note 53 = .ok (.ifCond .eq 34, 3) := by decide +kernel
theorem dX1_note_56 : decode cX1_note 56 = .ok (.aload_n 0, 1) := by decide +kernel
theorem dX1_note_57 : decode cX1_note 57 = .ok (.getfield 26, 3) := by decide +kernel
theorem dX1_note_60 : decode cX1_note 60 = .ok (.iload_n 1, 1) := by decide +kernel
theorem dX1_note_61 : decode cX1_note 61 = .ok (.iconst 1, 1) := by decide +kernel
theorem dX1_note_62 : decode cX1_note 62 = .ok (.iastore, 1) := by decide +kernel
theorem dX1_note_63 : decode cX1_note 63 = .ok (.aload_n 0, 1) := by decide +kernel
theorem dX1_note_64 : decode cX1_note 64 = .ok (.getfield 22, 3) := by decide +kernel
theorem dX1_note_67 : decode cX1_note 67 = .ok (.iload_n 1, 1) := by decide +kernel
theorem dX1_note_68 : decode cX1_note 68 = .ok (.lload_n 2, 1) := by decide +kernel
theorem dX1_note_69 : decode cX1_note 69 = .ok (.lastore, 1) := by decide +kernel
theorem dX1_note_70 : decode cX1_note 70 = .ok (.aload_n 0, 1) := by decide +kernel
theorem dX1_note_71 : decode cX1_note 71 = .ok (.getfield 18, 3) := by decide +kernel
theorem dX1_note_74 : decode cX1_note 74 = .ok (.iconst 0, 1) := by decide +kernel
theorem dX1_note_75 : decode cX1_note 75 = .ok (.aload_n 0, 1) := by decide +kernel
theorem dX1_note_76 : decode cX1_note 76 = .ok (.getfield 31, 3) := by decide +kernel
theorem dX1_note_79 : decode cX1_note 79 = .ok (.iload_n 1, 1) := by decide +kernel
theorem dX1_note_80 : decode cX1_note 80 = .ok (.aaload, 1) := by decide +kernel
theorem dX1_note_81 : decode cX1_note 81 = .ok (.iconst 0, 1) := by decide +kernel
theorem dX1_note_82 : decode cX1_note 82 = .ok (.bipush 7, 2) := by decide +kernel
theorem dX1_note_84 : decode cX1_note 84 = .ok (.invokestatic 74, 3) := by decide +kernel
theorem dX1_note_87 : decode cX1_note 87 = .ok (.return_, 1) := by decide +kernel
set_option maxRecDepth 10000 in
theorem NX1_note_0 {d : Nat} {S : fW} {h : fH} {Q : fH → Prop} {r0 : Nat} {x1 : Int32} {x2 : Int64} {r0_sums r0_path r0_losses r0_counts r0_firsts : Nat}  
    (hs1 : (r0, shX1 r0_sums r0_path r0_losses r0_counts r0_firsts) ∈ S)
    (hs2 : (r0_counts, shI 2) ∈ S)
    (hs3 : (r0_losses, shJ 2) ∈ S)
    (w : vp_in x1 2 ∧ (((h.2.2.1 r0_counts x1.toNatClampNeg) ≤ 0 → G mX1_note (d + 1) S (f_PV Q) 33 [(0, .ref r0), (1, .int x1), (2, .long x2)] [] h) ∧ (¬ (h.2.2.1 r0_counts x1.toNatClampNeg) ≤ 0 → ((¬ x2 = (h.2.2.2 r0_losses x1.toNatClampNeg) → G mX1_note (d + 1) S (f_PV Q) 33 [(0, .ref r0), (1, .int x1), (2, .long x2)] [] h) ∧ (x2 = (h.2.2.2 r0_losses x1.toNatClampNeg) → ∀ g_1 : fH, g_1 = u_ai h r0_counts (upd (h.2.2.1 r0_counts) x1.toNatClampNeg ((h.2.2.1 r0_counts x1.toNatClampNeg) + (1 : Int32))) → Q g_1))))) :
    OkV (d + 1) mX1_note S [.ref r0, .int x1, .long x2] h Q := by
  refine Ok.of (by decide) (Nat.le_of_ble_eq_true rfl) ?_
  refine G_aload_n 0 rfl dX1_note_0 rfl ?_
  refine G_getr (j := r0_counts) (k := 3) hs1 (q := (RX1, TX1, 7)) rfl inX1 (by decide) rfl hF_X1_26 dX1_note_1 ?_
  refine G_iload_n 1 rfl dX1_note_4 rfl ?_
  obtain ⟨sd1, w⟩ := w
  refine G_iald hs2 sd1 dX1_note_5 ?_
  refine G_if_le (tgt := 33) dX1_note_6 (by decide) (fun c1 => ?_) (fun c1 => ?_)
  · have w := w.1 c1
    exact G_sub [0, 1, 2] rfl w
  · have w := w.2 c1
    refine G_lload_n 2 rfl dX1_note_9 rfl ?_
    refine G_aload_n 0 rfl dX1_note_10 rfl ?_
    refine G_getr (j := r0_losses) (k := 2) hs1 (q := (RX1, TX1, 7)) rfl inX1 (by decide) rfl hF_X1_22 dX1_note_11 ?_
    refine G_iload_n 1 rfl dX1_note_14 rfl ?_
    refine G_lald hs3 sd1 dX1_note_15 ?_
    refine G_lif_ne (tgt := 33) dX1_note_16 dX1_note_17 (by decide) (fun c2 => ?_) (fun c2 => ?_)
    · have w := w.1 c2
      exact G_sub [0, 1, 2] rfl w
    · have w := w.2 c2
      refine G_aload_n 0 rfl dX1_note_20 rfl ?_
      refine G_getr (j := r0_counts) (k := 3) hs1 (q := (RX1, TX1, 7)) rfl inX1 (by decide) rfl hF_X1_26 dX1_note_21 ?_
      refine G_iload_n 1 rfl dX1_note_24 rfl ?_
      refine G_dup2 dX1_note_25 rfl rfl ?_
      refine G_iald hs2 sd1 dX1_note_26 ?_
      refine G_iconst (v := 1) dX1_note_27 (by decide) ?_
      refine G_iadd dX1_note_28 ?_
      refine G_iast hs2 sd1 dX1_note_29 ?_
      refine G_nm (fun g_1 e_1 => ?_)
      have w := w g_1 e_1
      refine G_goto (tgt := 87) dX1_note_30 (by decide) ?_
      exact G_vret rfl dX1_note_87 ⟨rfl, w⟩

set_option maxRecDepth 10000 in
theorem NX1_note_33 {d : Nat} {S : fW} {h : fH} {Q : fH → Prop} {r0 : Nat} {x1 : Int32} {x2 : Int64} {r0_sums r0_path r0_losses r0_counts r0_firsts : Nat} {g_r0_firsts : Nat → Nat}  
    (hs1 : (r0, shX1 r0_sums r0_path r0_losses r0_counts r0_firsts) ∈ S)
    (hs2 : (r0_counts, shI 2) ∈ S)
    (hs3 : (r0_losses, shJ 2) ∈ S)
    (hs4 : (r0_firsts, shII 2 g_r0_firsts) ∈ S)
    (hs5 : (r0_path, shI 7) ∈ S)
    (hs6 : (g_r0_firsts x1.toNatClampNeg, shI 7) ∈ S)
    (w : vp_in x1 2 ∧ (((h.2.2.1 r0_counts x1.toNatClampNeg) = 0 → ∀ g_1 : fH, g_1 = u_ai h r0_counts (upd (h.2.2.1 r0_counts) x1.toNatClampNeg (1 : Int32)) → ∀ g_2 : fH, g_2 = u_al g_1 r0_losses (vp_updL (g_1.2.2.2 r0_losses) x1.toNatClampNeg x2) → ∀ g_3 : fH, g_3 = u_ai g_2 (g_r0_firsts x1.toNatClampNeg) (va_cpy (g_2.2.2.1 r0_path) (g_2.2.2.1 (g_r0_firsts x1.toNatClampNeg)) 0 0 7) → Q g_3) ∧ (¬ (h.2.2.1 r0_counts x1.toNatClampNeg) = 0 → ∃ Q1 : Int32 → fH → Prop, OkI d mX1_isPreferred S [.int x1, .long x2, .long (h.2.2.2 r0_losses x1.toNatClampNeg)] h Q1 ∧ ∀ (v_1 : Int32) (h_1 : fH), Q1 v_1 h_1 → ((v_1 = 0 → Q h_1) ∧ (¬ v_1 = 0 → ∀ g_4 : fH, g_4 = u_ai h_1 r0_counts (upd (h_1.2.2.1 r0_counts) x1.toNatClampNeg (1 : Int32)) → ∀ g_5 : fH, g_5 = u_al g_4 r0_losses (vp_updL (g_4.2.2.2 r0_losses) x1.toNatClampNeg x2) → ∀ g_6 : fH, g_6 = u_ai g_5 (g_r0_firsts x1.toNatClampNeg) (va_cpy (g_5.2.2.1 r0_path) (g_5.2.2.1 (g_r0_firsts x1.toNatClampNeg)) 0 0 7) → Q g_6))))) :
    G mX1_note (d + 1) S (f_PV Q) 33 [(0, .ref r0), (1, .int x1), (2, .long x2)] [] h := by
  refine G_aload_n 0 rfl dX1_note_33 rfl ?_
  refine G_getr (j := r0_counts) (k := 3) hs1 (q := (RX1, TX1, 7)) rfl inX1 (by decide) rfl hF_X1_26 dX1_note_34 ?_
  refine G_iload_n 1 rfl dX1_note_37 rfl ?_
  obtain ⟨sd1, w⟩ := w
  refine G_iald hs2 sd1 dX1_note_38 ?_
  refine G_if_eq (tgt := 56) dX1_note_39 (by decide) (fun c1 => ?_) (fun c1 => ?_)
  · have w := w.1 c1
    refine G_aload_n 0 rfl dX1_note_56 rfl ?_
    refine G_getr (j := r0_counts) (k := 3) hs1 (q := (RX1, TX1, 7)) rfl inX1 (by decide) rfl hF_X1_26 dX1_note_57 ?_
    refine G_iload_n 1 rfl dX1_note_60 rfl ?_
    refine G_iconst (v := 1) dX1_note_61 (by decide) ?_
    refine G_iast hs2 sd1 dX1_note_62 ?_
    refine G_nm (fun g_1 e_1 => ?_)
    have w := w g_1 e_1
    refine G_aload_n 0 rfl dX1_note_63 rfl ?_
    refine G_getr (j := r0_losses) (k := 2) hs1 (q := (RX1, TX1, 7)) rfl inX1 (by decide) rfl hF_X1_22 dX1_note_64 ?_
    refine G_iload_n 1 rfl dX1_note_67 rfl ?_
    refine G_lload_n 2 rfl dX1_note_68 rfl ?_
    refine G_last hs3 sd1 dX1_note_69 ?_
    refine G_nm (fun g_2 e_2 => ?_)
    have w := w g_2 e_2
    refine G_aload_n 0 rfl dX1_note_70 rfl ?_
    refine G_getr (j := r0_path) (k := 1) hs1 (q := (RX1, TX1, 7)) rfl inX1 (by decide) rfl hF_X1_18 dX1_note_71 ?_
    refine G_iconst (v := 0) dX1_note_74 (by decide) ?_
    refine G_aload_n 0 rfl dX1_note_75 rfl ?_
    refine G_getr (j := r0_firsts) (k := 4) hs1 (q := (RX1, TX1, 7)) rfl inX1 (by decide) rfl hF_X1_31 dX1_note_76 ?_
    refine G_iload_n 1 rfl dX1_note_79 rfl ?_
    refine G_aald hs4 sd1 dX1_note_80 ?_
    refine G_iconst (v := 0) dX1_note_81 (by decide) ?_
    refine G_bipush (v := 7) dX1_note_82 (by decide) ?_
    refine G_copyI hL_X1_74 hs5 hs6 (by decide) (by decide) (by decide) (Nat.le_of_ble_eq_true rfl) dX1_note_84 ?_
    refine G_nm (fun g_3 e_3 => ?_)
    have w := w g_3 e_3
    exact G_vret rfl dX1_note_87 ⟨rfl, w⟩
  · have w := w.2 c1
    refine G_iload_n 1 rfl dX1_note_42 rfl ?_
    refine G_lload_n 2 rfl dX1_note_43 rfl ?_
    refine G_aload_n 0 rfl dX1_note_44 rfl ?_
    refine G_getr (j := r0_losses) (k := 2) hs1 (q := (RX1, TX1, 7)) rfl inX1 (by decide) rfl hF_X1_22 dX1_note_45 ?_
    refine G_iload_n 1 rfl dX1_note_48 rfl ?_
    refine G_lald hs3 sd1 dX1_note_49 ?_
    obtain ⟨Q1, ok1, w⟩ := w
    refine G_callS (Z := mX1_isPreferred) (As := [.int x1, .long x2, .long (h.2.2.2 r0_losses x1.toNatClampNeg)]) (st := []) hL_X1_70 hT_X1_isPreferred hC_X1_isPreferred hN_X1 nX1_isPreferred (by decide) rfl (Nat.le_of_ble_eq_true rfl) dX1_note_50 ok1 (fun r_ h_1 z_ => ?_)
    obtain ⟨v_1, rfl, q_1⟩ := z_
    have w := w v_1 h_1 q_1
    refine G_if_eq (tgt := 87) dX1_note_53 (by decide) (fun c2 => ?_) (fun c2 => ?_)
    · have w := w.1 c2
      exact G_vret rfl dX1_note_87 ⟨rfl, w⟩
    · have w := w.2 c2
      refine G_aload_n 0 rfl dX1_note_56 rfl ?_
      refine G_getr (j := r0_counts) (k := 3) hs1 (q := (RX1, TX1, 7)) rfl inX1 (by decide) rfl hF_X1_26 dX1_note_57 ?_
      refine G_iload_n 1 rfl dX1_note_60 rfl ?_
      refine G_iconst (v := 1) dX1_note_61 (by decide) ?_
      refine G_iast hs2 sd1 dX1_note_62 ?_
      refine G_nm (fun g_4 e_4 => ?_)
      have w := w g_4 e_4
      refine G_aload_n 0 rfl dX1_note_63 rfl ?_
      refine G_getr (j := r0_losses) (k := 2) hs1 (q := (RX1, TX1, 7)) rfl inX1 (by decide) rfl hF_X1_22 dX1_note_64 ?_
      refine G_iload_n 1 rfl dX1_note_67 rfl ?_
      refine G_lload_n 2 rfl dX1_note_68 rfl ?_
      refine G_last hs3 sd1 dX1_note_69 ?_
      refine G_nm (fun g_5 e_5 => ?_)
      have w := w g_5 e_5
      refine G_aload_n 0 rfl dX1_note_70 rfl ?_
      refine G_getr (j := r0_path) (k := 1) hs1 (q := (RX1, TX1, 7)) rfl inX1 (by decide) rfl hF_X1_18 dX1_note_71 ?_
      refine G_iconst (v := 0) dX1_note_74 (by decide) ?_
      refine G_aload_n 0 rfl dX1_note_75 rfl ?_
      refine G_getr (j := r0_firsts) (k := 4) hs1 (q := (RX1, TX1, 7)) rfl inX1 (by decide) rfl hF_X1_31 dX1_note_76 ?_
      refine G_iload_n 1 rfl dX1_note_79 rfl ?_
      refine G_aald hs4 sd1 dX1_note_80 ?_
      refine G_iconst (v := 0) dX1_note_81 (by decide) ?_
      refine G_bipush (v := 7) dX1_note_82 (by decide) ?_
      refine G_copyI hL_X1_74 hs5 hs6 (by decide) (by decide) (by decide) (Nat.le_of_ble_eq_true rfl) dX1_note_84 ?_
      refine G_nm (fun g_6 e_6 => ?_)
      have w := w g_6 e_6
      exact G_vret rfl dX1_note_87 ⟨rfl, w⟩
-- LostDigits$Orders.isPreferred
theorem dX1_isPreferred_0 : decode cX1_isPreferred 0 = .ok (.lload_n 1, 1) := by decide +kernel
theorem dX1_isPreferred_1 : decode cX1_isPreferred 1 = .ok (.invokestatic 80, 3) := by decide +kernel
theorem dX1_isPreferred_4 : decode cX1_isPreferred 4 = .ok (.lstore 5, 2) := by decide +kernel
theorem dX1_isPreferred_6 : decode cX1_isPreferred 6 = .ok (.lload_n 3, 1) := by decide +kernel
theorem dX1_isPreferred_7 : decode cX1_isPreferred 7 = .ok (.invokestatic 80, 3) := by decide +kernel
theorem dX1_isPreferred_10 : decode cX1_isPreferred 10 = .ok (.lstore 7, 2) := by decide +kernel
theorem dX1_isPreferred_12 : decode cX1_isPreferred 12 = .ok (.lload 5, 2) := by decide +kernel
theorem dX1_isPreferred_14 : decode cX1_isPreferred 14 = .ok (.lload 7, 2) := by decide +kernel
theorem dX1_isPreferred_16 : decode cX1_isPreferred 16 = .ok (.lcmp, 1) := by decide +kernel
theorem dX1_isPreferred_17 : decode cX1_isPreferred 17 = .ok (.ifCond .ne 15, 3) := by decide +kernel
theorem dX1_isPreferred_20 : decode cX1_isPreferred 20 = .ok (.lload_n 1, 1) := by decide +kernel
theorem dX1_isPreferred_21 : decode cX1_isPreferred 21 = .ok (.lload_n 3, 1) := by decide +kernel
theorem dX1_isPreferred_22 : decode cX1_isPreferred 22 = .ok (.lcmp, 1) := by decide +kernel
theorem dX1_isPreferred_23 : decode cX1_isPreferred 23 = .ok (.ifCond .le 7, 3) := by decide +kernel
theorem dX1_isPreferred_26 : decode cX1_isPreferred 26 = .ok (.iconst 1, 1) := by decide +kernel
theorem dX1_isPreferred_27 : decode cX1_isPreferred 27 = .ok (.goto 4, 3) := by decide +kernel
theorem dX1_isPreferred_30 : decode cX1_isPreferred 30 = .ok (.iconst 0, 1) := by decide +kernel
theorem dX1_isPreferred_31 : decode cX1_isPreferred 31 = .ok (.ireturn, 1) := by decide +kernel
theorem dX1_isPreferred_32 : decode cX1_isPreferred 32 = .ok (.iload_n 0, 1) := by decide +kernel
theorem dX1_isPreferred_33 : decode cX1_isPreferred 33 = .ok (.ifCond .ne 19, 3) := by decide +kernel
theorem dX1_isPreferred_36 : decode cX1_isPreferred 36 = .ok (.lload 5, 2) := by decide +kernel
theorem dX1_isPreferred_38 : decode cX1_isPreferred 38 = .ok (.lload 7, 2) := by decide +kernel
theorem dX1_isPreferred_40 : decode cX1_isPreferred 40 = .ok (.lcmp, 1) := by decide +kernel
theorem dX1_isPreferred_41 : decode cX1_isPreferred 41 = .ok (.ifCond .ge 7, 3) := by decide +kernel
theorem dX1_isPreferred_44 : decode cX1_isPreferred 44 = .ok (.iconst 1, 1) := by decide +kernel
theorem dX1_isPreferred_45 : decode cX1_isPreferred 45 = .ok (.goto 20, 3) := by decide +kernel
theorem dX1_isPreferred_48 : decode cX1_isPreferred 48 = .ok (.iconst 0, 1) := by decide +kernel
theorem dX1_isPreferred_49 : decode cX1_isPreferred 49 = .ok (.goto 16, 3) := by decide +kernel
theorem dX1_isPreferred_52 : decode cX1_isPreferred 52 = .ok (.lload 5, 2) := by decide +kernel
theorem dX1_isPreferred_54 : decode cX1_isPreferred 54 = .ok (.lload 7, 2) := by decide +kernel
theorem dX1_isPreferred_56 : decode cX1_isPreferred 56 = .ok (.lcmp, 1) := by decide +kernel
theorem dX1_isPreferred_57 : decode cX1_isPreferred 57 = .ok (.ifCond .le 7, 3) := by decide +kernel
theorem dX1_isPreferred_60 : decode cX1_isPreferred 60 = .ok (.iconst 1, 1) := by decide +kernel
theorem dX1_isPreferred_61 : decode cX1_isPreferred 61 = .ok (.goto 4, 3) := by decide +kernel
theorem dX1_isPreferred_64 : decode cX1_isPreferred 64 = .ok (.iconst 0, 1) := by decide +kernel
theorem dX1_isPreferred_65 : decode cX1_isPreferred 65 = .ok (.ireturn, 1) := by decide +kernel
set_option maxRecDepth 10000 in
theorem NX1_isPreferred_0 {d : Nat} {S : fW} {h : fH} {Q : Int32 → fH → Prop} {x0 : Int32} {x1 : Int64} {x3 : Int64}  
    (w : ((¬ (if 0 < x1 then x1 else -x1) = (if 0 < x3 then x3 else -x3) → ((¬ x0 = 0 → (((if 0 < x1 then x1 else -x1) ≤ (if 0 < x3 then x3 else -x3) → Q (0 : Int32) h) ∧ (¬ (if 0 < x1 then x1 else -x1) ≤ (if 0 < x3 then x3 else -x3) → Q (1 : Int32) h))) ∧ (x0 = 0 → (((if 0 < x3 then x3 else -x3) ≤ (if 0 < x1 then x1 else -x1) → Q (0 : Int32) h) ∧ (¬ (if 0 < x3 then x3 else -x3) ≤ (if 0 < x1 then x1 else -x1) → Q (1 : Int32) h))))) ∧ ((if 0 < x1 then x1 else -x1) = (if 0 < x3 then x3 else -x3) → ((x1 ≤ x3 → Q (0 : Int32) h) ∧ (¬ x1 ≤ x3 → Q (1 : Int32) h))))) :
    OkI (d + 1) mX1_isPreferred S [.int x0, .long x1, .long x3] h Q := by
  refine Ok.of (by decide) (Nat.le_of_ble_eq_true rfl) ?_
  refine G_lload_n 1 rfl dX1_isPreferred_0 rfl ?_
  refine G_mabs hL_X1_80 (Nat.le_of_ble_eq_true rfl) dX1_isPreferred_1 ?_
  refine G_lstore dX1_isPreferred_4 (by decide) (lv' := [(5, .long (if 0 < x1 then x1 else -x1)), (0, .int x0), (1, .long x1), (3, .long x3)]) rfl ?_
  refine G_lload_n 3 rfl dX1_isPreferred_6 rfl ?_
  refine G_mabs hL_X1_80 (Nat.le_of_ble_eq_true rfl) dX1_isPreferred_7 ?_
  refine G_lstore dX1_isPreferred_10 (by decide) (lv' := [(7, .long (if 0 < x3 then x3 else -x3)), (5, .long (if 0 < x1 then x1 else -x1)), (0, .int x0), (1, .long x1), (3, .long x3)]) rfl ?_
  refine G_lload 1 rfl dX1_isPreferred_12 ?_
  refine G_lload 0 rfl dX1_isPreferred_14 ?_
  refine G_lif_ne (tgt := 32) dX1_isPreferred_16 dX1_isPreferred_17 (by decide) (fun c1 => ?_) (fun c1 => ?_)
  · have w := w.1 c1
    refine G_iload_n 2 rfl dX1_isPreferred_32 rfl ?_
    refine G_if_ne (tgt := 52) dX1_isPreferred_33 (by decide) (fun c2 => ?_) (fun c2 => ?_)
    · have w := w.1 c2
      refine G_lload 1 rfl dX1_isPreferred_52 ?_
      refine G_lload 0 rfl dX1_isPreferred_54 ?_
      refine G_lif_le (tgt := 64) dX1_isPreferred_56 dX1_isPreferred_57 (by decide) (fun c3 => ?_) (fun c3 => ?_)
      · have w := w.1 c3
        refine G_iconst (v := 0) dX1_isPreferred_64 (by decide) ?_
        exact G_zret rfl (Or.inl rfl) dX1_isPreferred_65 ⟨_, rfl, w⟩
      · have w := w.2 c3
        refine G_iconst (v := 1) dX1_isPreferred_60 (by decide) ?_
        refine G_goto (tgt := 65) dX1_isPreferred_61 (by decide) ?_
        exact G_zret rfl (Or.inr rfl) dX1_isPreferred_65 ⟨_, rfl, w⟩
    · have w := w.2 c2
      refine G_lload 1 rfl dX1_isPreferred_36 ?_
      refine G_lload 0 rfl dX1_isPreferred_38 ?_
      refine G_lif_ge (tgt := 48) dX1_isPreferred_40 dX1_isPreferred_41 (by decide) (fun c3 => ?_) (fun c3 => ?_)
      · have w := w.1 c3
        refine G_iconst (v := 0) dX1_isPreferred_48 (by decide) ?_
        refine G_goto (tgt := 65) dX1_isPreferred_49 (by decide) ?_
        exact G_zret rfl (Or.inl rfl) dX1_isPreferred_65 ⟨_, rfl, w⟩
      · have w := w.2 c3
        refine G_iconst (v := 1) dX1_isPreferred_44 (by decide) ?_
        refine G_goto (tgt := 65) dX1_isPreferred_45 (by decide) ?_
        exact G_zret rfl (Or.inr rfl) dX1_isPreferred_65 ⟨_, rfl, w⟩
  · have w := w.2 c1
    refine G_lload_n 3 rfl dX1_isPreferred_20 rfl ?_
    refine G_lload_n 4 rfl dX1_isPreferred_21 rfl ?_
    refine G_lif_le (tgt := 30) dX1_isPreferred_22 dX1_isPreferred_23 (by decide) (fun c2 => ?_) (fun c2 => ?_)
    · have w := w.1 c2
      refine G_iconst (v := 0) dX1_isPreferred_30 (by decide) ?_
      exact G_zret rfl (Or.inl rfl) dX1_isPreferred_31 ⟨_, rfl, w⟩
    · have w := w.2 c2
      refine G_iconst (v := 1) dX1_isPreferred_26 (by decide) ?_
      refine G_goto (tgt := 31) dX1_isPreferred_27 (by decide) ?_
      exact G_zret rfl (Or.inr rfl) dX1_isPreferred_31 ⟨_, rfl, w⟩

-- LostDigits$Search.find
theorem dX6_find_0 : decode cX6_find 0 = .ok (.aload_n 0, 1) := by decide +kernel
theorem dX6_find_1 : decode cX6_find 1 = .ok (.getfield 37, 3) := by decide +kernel
theorem dX6_find_4 : decode cX6_find 4 = .ok (.iload_n 2, 1) := by decide +kernel
theorem dX6_find_5 : decode cX6_find 5 = .ok (.if_icmp .ne 4, 3) := by decide +kernel
theorem dX6_find_8 : decode cX6_find 8 = .ok (.return_, 1) := by decide +kernel
theorem dX6_find_9 : decode cX6_find 9 = .ok (.aload_n 0, 1) := by decide +kernel
theorem dX6_find_10 : decode cX6_find 10 = .ok (.iload_n 2, 1) := by decide +kernel
theorem dX6_find_11 : decode cX6_find 11 = .ok (.putfield 37, 3) := by decide +kernel
theorem dX6_find_14 : decode cX6_find 14 = .ok (.aload_n 0, 1) := by decide +kernel
theorem dX6_find_15 : decode cX6_find 15 = .ok (.ldc2_w 31, 3) := by decide +kernel
theorem dX6_find_18 : decode cX6_find 18 = .ok (.putfield 33, 3) := by decide +kernel
theorem dX6_find_21 : decode cX6_find 21 = .ok (.aload_n 0, 1) := by decide +kernel
theorem dX6_find_22 : decode cX6_find 22 = .ok (.getfield 12, 3) := by decide +kernel
theorem dX6_find_25 : decode cX6_find 25 = .ok (.getfield 41, 3) := by decide +kernel
theorem dX6_find_28 : decode cX6_find 28 = .ok (.aload_n 1, 1) := by decide +kernel
theorem dX6_find_29 : decode cX6_find 29 = .ok (.getfield 45, 3) := by decide +kernel
theorem dX6_find_32 : decode cX6_find 32 = .ok (.aload_n 1, 1) := by decide +kernel
theorem dX6_find_33 : decode cX6_find 33 = .ok (.getfield 50, 3) := by decide +kernel
theorem dX6_find_36 : decode cX6_find 36 = .ok (.invokevirtual 53, 3) := by decide +kernel
theorem dX6_find_39 : decode cX6_find 39 = .ok (.aload_n 0, 1) := by decide +kernel
theorem dX6_find_40 : decode cX6_find 40 = .ok (.aload_n 1, 1) := by decide +kernel
theorem dX6_find_41 : decode cX6_find 41 = .ok (.getfield 59, 3) := by decide +kernel
theorem dX6_find_44 : decode cX6_find 44 = .ok (.aload_n 1, 1) := by decide +kernel
theorem dX6_find_45 : decode cX6_find 45 = .ok (.getfield 62, 3) := by decide +kernel
theorem dX6_find_48 : decode cX6_find 48 = .ok (.invokevirtual 66, 3) := by decide +kernel
theorem dX6_find_51 : decode cX6_find 51 = .ok (.iconst 1, 1) := by decide +kernel
theorem dX6_find_52 : decode cX6_find 52 = .ok (.istore_n 3, 1) := by decide +kernel
theorem dX6_find_53 : decode cX6_find 53 = .ok (.iload_n 3, 1) := by decide +kernel
theorem dX6_find_54 : decode cX6_find 54 = .ok (.iload_n 2, 1) := by decide +kernel
theorem dX6_find_55 : decode cX6_find 55 = .ok (.if_icmp .gt 90, 3) := by decide +kernel
theorem dX6_find_58 : decode cX6_find 58 = .ok (.iload_n 3, 1) := by decide +kernel
theorem dX6_find_59 : decode cX6_find 59 = .ok (.iconst 2, 1) := by decide +kernel
theorem dX6_find_60 : decode cX6_find 60 = .ok (.if_icmp .gt 85, 3) := by decide +kernel
theorem dX6_find_63 : decode cX6_find 63 = .ok (.iconst 0, 1) := by decide +kernel
theorem dX6_find_64 : decode cX6_find 64 = .ok (.istore 4, 2) := by decide +kernel
theorem dX6_find_66 : decode cX6_find 66 = .ok (.iload 4, 2) := by decide +kernel
theorem dX6_find_68 : decode cX6_find 68 = .ok (.aload_n 1, 1) := by decide +kernel
theorem dX6_find_69 : decode cX6_find 69 = .ok (.getfield 59, 3) := by decide +kernel
theorem dX6_find_72 : decode cX6_find 72 = .ok (.getfield 70, 3) := by decide +kernel
theorem dX6_find_75 : decode cX6_find 75 = .ok (.bipush 7, 2) := by decide +kernel
theorem dX6_find_77 : decode cX6_find 77 = .ok (.imul, 1) := by decide +kernel
theorem dX6_find_78 : decode cX6_find 78 = .ok (.if_icmp .ge 61, 3) := by decide +kernel
theorem dX6_find_81 : decode cX6_find 81 = .ok (.aload_n 1, 1) := by decide +kernel
theorem dX6_find_82 : decode cX6_find 82 = .ok (.getfield 59, 3) := by decide +kernel
theorem dX6_find_85 : decode cX6_find 85 = .ok (.iload 4, 2) := by decide +kernel
theorem dX6_find_87 : decode cX6_find 87 = .ok (.bipush 7, 2) := by decide +kernel
theorem dX6_find_89 : decode cX6_find 89 = .ok (.irem, 1) := by decide +kernel
theorem dX6_find_90 : decode cX6_find 90 = .ok (.iload 4, 2) := by decide +kernel
theorem dX6_find_92 : decode cX6_find 92 = .ok (.bipush 7, 2) := by decide +kernel
theorem dX6_find_94 : decode cX6_find 94 = .ok (.idiv, 1) := by decide +kernel
theorem dX6_find_95 : decode cX6_find 95 = .ok (.aload_n 0, 1) := by decide +kernel
theorem dX6_find_96 : decode cX6_find 96 = .ok (.getfield 21, 3) := by decide +kernel
theorem dX6_find_99 : decode cX6_find 99 = .ok (.invokestatic 73, 3) := by decide +kernel
theorem dX6_find_102 : decode cX6_find 102 = .ok (.ifCond .eq 31, 3) := by decide +kernel
theorem dX6_find_105 : decode cX6_find 105 = .ok (.iload_n 3, 1) := by decide +kernel
theorem dX6_find_106 : decode cX6_find 106 = .ok (.iconst 1, 1) := by decide +kernel
theorem dX6_find_107 : decode cX6_find 107 = .ok (.if_icmp .ne 18, 3) := by decide +kernel
theorem dX6_find_110 : decode cX6_find 110 = .ok (.aload_n 0, 1) := by decide +kernel
theorem dX6_find_111 : decode cX6_find 111 = .ok (.aload_n 0, 1) := by decide +kernel
theorem dX6_find_112 : decode cX6_find 112 = .ok (.getfield 21, 3) := by decide +kernel
theorem dX6_find_115 : decode cX6_find 115 = .ok (.aload_n 1, 1) := by decide +kernel
theorem dX6_find_116 : decode cX6_find 116 = .ok (.getfield 62, 3) := by decide +kernel
theorem dX6_find_119 : decode cX6_find 119 = .ok (.invokevirtual 66, 3) := by decide +kernel
theorem dX6_find_122 : decode cX6_find 122 = .ok (.goto 11, 3) := by decide +kernel
theorem dX6_find_125 : decode cX6_find 125 = .ok (.aload_n 0, 1) := by decide +kernel
theorem dX6_find_126 : decode cX6_find 126 = .ok (.aload_n 1, 1) := by decide +kernel
theorem dX6_find_127 : decode cX6_find 127 = .ok (.getfield 62, 3) := by decide +kernel
theorem dX6_find_130 : decode cX6_find 130 = .ok (.invokevirtual 79, 3) := by decide +kernel
theorem dX6_find_133 : decode cX6_find 133 = .ok (.iinc 4 1, 3) := by decide +kernel
theorem dX6_find_136 : decode cX6_find 136 = .ok (.goto (-70), 3) := by decide +kernel
theorem dX6_find_139 : decode cX6_find 139 = .ok (.iinc 3 1, 3) := by decide +kernel
theorem dX6_find_142 : decode cX6_find 142 = .ok (.goto (-89), 3) := by decide +kernel
theorem dX6_find_145 : decode cX6_find 145 = .ok (.return_, 1) := by decide +kernel
set_option maxRecDepth 10000 in
theorem NX6_find_0 {d : Nat} {S : fW} {h : fH} {Q : fH → Prop} {r0 : Nat} {r1 : Nat} {x2 : Int32} {r0_steps r0_once r0_twice r0_best r0_steps_values r0_steps_slips r0_steps_fractions r0_steps_rounding r0_steps_ratio r1_text r1_numbers r1_spans r1_terms : Nat}  
    (hs1 : (r0, shX6 r0_steps r0_once r0_twice r0_best) ∈ S)
    (hs2 : (r0_steps, shX8 r0_steps_values r0_steps_slips r0_steps_fractions r0_steps_rounding r0_steps_ratio) ∈ S)
    (hs3 : (r1, shX2 r1_text r1_numbers r1_spans r1_terms) ∈ S)
    (hs4 : (r0_steps_rounding, shX4) ∈ S)
    (w : ((¬ (h.1 r0 5) = x2 → ∀ g_1 : fH, g_1 = u_fi h r0 5 x2 → ∀ g_2 : fH, g_2 = u_fl g_1 r0 4 (1000000000000000000 : Int64) → ∃ Q1 : fH → Prop, OkV d mX4_turn S [.ref r0_steps_rounding, .int (g_2.1 r1 5), .int (g_2.1 r1 6)] g_2 Q1 ∧ ∀ (h_1 : fH), Q1 h_1 → ∃ Q2 : fH → Prop, OkV d mX6_consider S [.ref r0, .ref r1_text, .ref r1_numbers] h_1 Q2 ∧ ∀ (h_2 : fH), Q2 h_2 → G mX6_find (d + 1) S (f_PV Q) 53 [(0, .ref r0), (1, .ref r1), (2, .int x2), (3, .int (1 : Int32))] [] h_2) ∧ ((h.1 r0 5) = x2 → Q h))) :
    OkV (d + 1) mX6_find S [.ref r0, .ref r1, .int x2] h Q := by
  refine Ok.of (by decide) (Nat.le_of_ble_eq_true rfl) ?_
  refine G_aload_n 0 rfl dX6_find_0 rfl ?_
  refine G_geti (k := 5) hs1 (q := (RX6, TX6, 6)) rfl inX6 (by decide) (Or.inl rfl) hF_X6_37 dX6_find_1 ?_
  refine G_iload_n 2 rfl dX6_find_4 rfl ?_
  refine G_icmp_ne (tgt := 9) dX6_find_5 (by decide) (fun c1 => ?_) (fun c1 => ?_)
  · have w := w.1 c1
    refine G_aload_n 0 rfl dX6_find_9 rfl ?_
    refine G_iload_n 2 rfl dX6_find_10 rfl ?_
    refine G_puti (k := 5) tyX6 hs1 (q := (RX6, TX6, 6)) rfl inX6 tyX6_ok nmX6 (by decide) rfl rfl rfl hF_X6_37 dX6_find_11 ?_
    refine G_nm (fun g_1 e_1 => ?_)
    have w := w g_1 e_1
    refine G_aload_n 0 rfl dX6_find_14 rfl ?_
    refine G_ldc2 hK_X6_31 dX6_find_15 ?_
    refine G_putl (k := 4) tyX6 hs1 (q := (RX6, TX6, 6)) rfl inX6 tyX6_ok nmX6 (by decide) rfl rfl rfl hF_X6_33 dX6_find_18 ?_
    refine G_nm (fun g_2 e_2 => ?_)
    have w := w g_2 e_2
    refine G_aload_n 0 rfl dX6_find_21 rfl ?_
    refine G_getr (j := r0_steps) (k := 0) hs1 (q := (RX6, TX6, 6)) rfl inX6 (by decide) rfl hF_X6_12 dX6_find_22 ?_
    refine G_getr (j := r0_steps_rounding) (k := 3) hs2 (q := (RX8, TX8, 5)) rfl inX8 (by decide) rfl hF_X6_41 dX6_find_25 ?_
    refine G_aload_n 1 rfl dX6_find_28 rfl ?_
    refine G_geti (k := 5) hs3 (q := (RX2, TX2, 8)) rfl inX2 (by decide) (Or.inl rfl) hF_X6_45 dX6_find_29 ?_
    refine G_aload_n 1 rfl dX6_find_32 rfl ?_
    refine G_geti (k := 6) hs3 (q := (RX2, TX2, 8)) rfl inX2 (by decide) (Or.inl rfl) hF_X6_50 dX6_find_33 ?_
    obtain ⟨Q1, ok1, w⟩ := w
    refine G_callV (Z := mX4_turn) (As := [.int (g_2.1 r1 5), .int (g_2.1 r1 6)]) (st := []) hL_X6_53 hI_X4_turn hS_X4_turn hC_X4_turn hN_X4 nX4_turn (by decide) hs4 rfl rfl rfl (Nat.le_of_ble_eq_true rfl) dX6_find_36 ok1 (fun r_ h_1 z_ => ?_)
    obtain ⟨rfl, q_1⟩ := z_
    have w := w h_1 q_1
    refine G_aload_n 0 rfl dX6_find_39 rfl ?_
    refine G_aload_n 1 rfl dX6_find_40 rfl ?_
    refine G_getr (j := r1_text) (k := 0) hs3 (q := (RX2, TX2, 8)) rfl inX2 (by decide) rfl hF_X6_59 dX6_find_41 ?_
    refine G_aload_n 1 rfl dX6_find_44 rfl ?_
    refine G_getr (j := r1_numbers) (k := 1) hs3 (q := (RX2, TX2, 8)) rfl inX2 (by decide) rfl hF_X6_62 dX6_find_45 ?_
    obtain ⟨Q2, ok2, w⟩ := w
    refine G_callV (Z := mX6_consider) (As := [.ref r1_text, .ref r1_numbers]) (st := []) hL_X6_66 hI_X6_consider hS_X6_consider hC_X6_consider hN_X6 nX6_consider (by decide) hs1 rfl rfl rfl (Nat.le_of_ble_eq_true rfl) dX6_find_48 ok2 (fun r_ h_2 z_ => ?_)
    obtain ⟨rfl, q_2⟩ := z_
    have w := w h_2 q_2
    refine G_iconst (v := 1) dX6_find_51 (by decide) ?_
    refine G_istore_n dX6_find_52 rfl (by decide) (lv' := [(3, .int (1 : Int32)), (0, .ref r0), (1, .ref r1), (2, .int x2)]) rfl ?_
    exact G_sub [1, 2, 3, 0] rfl w
  · have w := w.2 c1
    exact G_vret rfl dX6_find_8 ⟨rfl, w⟩

set_option maxRecDepth 10000 in
theorem NX6_find_53 {d : Nat} {S : fW} {h : fH} {Q : fH → Prop} {r0 : Nat} {r1 : Nat} {x2 : Int32} {x3 : Int32}  
    (w : ((x2 < x3 → Q h) ∧ (¬ x2 < x3 → (((2 : Int32) < x3 → Q h) ∧ (¬ (2 : Int32) < x3 → G mX6_find (d + 1) S (f_PV Q) 66 [(0, .ref r0), (1, .ref r1), (2, .int x2), (3, .int x3), (4, .int (0 : Int32))] [] h))))) :
    G mX6_find (d + 1) S (f_PV Q) 53 [(0, .ref r0), (1, .ref r1), (2, .int x2), (3, .int x3)] [] h := by
  refine G_iload_n 3 rfl dX6_find_53 rfl ?_
  refine G_iload_n 2 rfl dX6_find_54 rfl ?_
  refine G_icmp_gt (tgt := 145) dX6_find_55 (by decide) (fun c1 => ?_) (fun c1 => ?_)
  · have w := w.1 c1
    exact G_vret rfl dX6_find_145 ⟨rfl, w⟩
  · have w := w.2 c1
    refine G_iload_n 3 rfl dX6_find_58 rfl ?_
    refine G_iconst (v := 2) dX6_find_59 (by decide) ?_
    refine G_icmp_gt (tgt := 145) dX6_find_60 (by decide) (fun c2 => ?_) (fun c2 => ?_)
    · have w := w.1 c2
      exact G_vret rfl dX6_find_145 ⟨rfl, w⟩
    · have w := w.2 c2
      refine G_iconst (v := 0) dX6_find_63 (by decide) ?_
      refine G_istore dX6_find_64 (by decide) (lv' := [(4, .int (0 : Int32)), (0, .ref r0), (1, .ref r1), (2, .int x2), (3, .int x3)]) rfl ?_
      exact G_sub [1, 2, 3, 4, 0] rfl w

set_option maxRecDepth 10000 in
theorem NX6_find_66 {d : Nat} {S : fW} {h : fH} {Q : fH → Prop} {r0 : Nat} {r1 : Nat} {x2 : Int32} {x3 : Int32} {x4 : Int32} {r1_text r1_numbers r1_spans r1_terms r1_text_signs r1_text_ends r1_text_letters r0_steps r0_once r0_twice r0_best : Nat}  
    (hs1 : (r1, shX2 r1_text r1_numbers r1_spans r1_terms) ∈ S)
    (hs2 : (r1_text, shX10 r1_text_signs r1_text_ends r1_text_letters) ∈ S)
    (hs3 : (r0, shX6 r0_steps r0_once r0_twice r0_best) ∈ S)
    (w : ((((h.1 r1_text 3) * (7 : Int32)) ≤ x4 → G mX6_find (d + 1) S (f_PV Q) 53 [(0, .ref r0), (1, .ref r1), (2, .int x2), (3, .int (x3 + 1))] [] h) ∧ (¬ ((h.1 r1_text 3) * (7 : Int32)) ≤ x4 → ∃ Q1 : Int32 → fH → Prop, OkI d mX5_write S [.ref r1_text, .int (x4 - x4 / (7 : Int32) * (7 : Int32)), .int (x4 / (7 : Int32)), .ref r0_once] h Q1 ∧ ∀ (v_1 : Int32) (h_1 : fH), Q1 v_1 h_1 → ((v_1 = 0 → G mX6_find (d + 1) S (f_PV Q) 66 [(0, .ref r0), (1, .ref r1), (2, .int x2), (3, .int x3), (4, .int (x4 + 1))] [] h_1) ∧ (¬ v_1 = 0 → ((¬ x3 = (1 : Int32) → ∃ Q2 : fH → Prop, OkV d mX6_changeAgain S [.ref r0, .ref r1_numbers] h_1 Q2 ∧ ∀ (h_2 : fH), Q2 h_2 → G mX6_find (d + 1) S (f_PV Q) 66 [(0, .ref r0), (1, .ref r1), (2, .int x2), (3, .int x3), (4, .int (x4 + 1))] [] h_2) ∧ (x3 = (1 : Int32) → ∃ Q3 : fH → Prop, OkV d mX6_consider S [.ref r0, .ref r0_once, .ref r1_numbers] h_1 Q3 ∧ ∀ (h_3 : fH), Q3 h_3 → G mX6_find (d + 1) S (f_PV Q) 66 [(0, .ref r0), (1, .ref r1), (2, .int x2), (3, .int x3), (4, .int (x4 + 1))] [] h_3))))))) :
    G mX6_find (d + 1) S (f_PV Q) 66 [(0, .ref r0), (1, .ref r1), (2, .int x2), (3, .int x3), (4, .int x4)] [] h := by
  refine G_iload 4 rfl dX6_find_66 ?_
  refine G_aload_n 1 rfl dX6_find_68 rfl ?_
  refine G_getr (j := r1_text) (k := 0) hs1 (q := (RX2, TX2, 8)) rfl inX2 (by decide) rfl hF_X6_59 dX6_find_69 ?_
  refine G_geti (k := 3) hs2 (q := (RX10, TX10, 4)) rfl inX10 (by decide) (Or.inl rfl) hF_X6_70 dX6_find_72 ?_
  refine G_bipush (v := 7) dX6_find_75 (by decide) ?_
  refine G_imul dX6_find_77 ?_
  refine G_icmp_ge (tgt := 139) dX6_find_78 (by decide) (fun c1 => ?_) (fun c1 => ?_)
  · have w := w.1 c1
    refine G_iinc (v := 1) 3 rfl dX6_find_139 (by decide) (by decide) (lv' := [(3, .int (x3 + 1)), (0, .ref r0), (1, .ref r1), (2, .int x2), (4, .int x4)]) rfl ?_
    refine G_goto (tgt := 53) dX6_find_142 (by decide) ?_
    exact G_sub [1, 2, 3, 0] rfl w
  · have w := w.2 c1
    refine G_aload_n 1 rfl dX6_find_81 rfl ?_
    refine G_getr (j := r1_text) (k := 0) hs1 (q := (RX2, TX2, 8)) rfl inX2 (by decide) rfl hF_X6_59 dX6_find_82 ?_
    refine G_iload 4 rfl dX6_find_85 ?_
    refine G_bipush (v := 7) dX6_find_87 (by decide) ?_
    refine G_irem dX6_find_89 (by decide) ?_
    refine G_iload 4 rfl dX6_find_90 ?_
    refine G_bipush (v := 7) dX6_find_92 (by decide) ?_
    refine G_idiv dX6_find_94 (by decide) ?_
    refine G_aload_n 0 rfl dX6_find_95 rfl ?_
    refine G_getr (j := r0_once) (k := 1) hs3 (q := (RX6, TX6, 6)) rfl inX6 (by decide) rfl hF_X6_21 dX6_find_96 ?_
    obtain ⟨Q1, ok1, w⟩ := w
    refine G_callS (Z := mX5_write) (As := [.ref r1_text, .int (x4 - x4 / (7 : Int32) * (7 : Int32)), .int (x4 / (7 : Int32)), .ref r0_once]) (st := []) hL_X6_73 hT_X5_write hC_X5_write hN_X5 nX5_write (by decide) rfl (Nat.le_of_ble_eq_true rfl) dX6_find_99 ok1 (fun r_ h_1 z_ => ?_)
    obtain ⟨v_1, rfl, q_1⟩ := z_
    have w := w v_1 h_1 q_1
    refine G_if_eq (tgt := 133) dX6_find_102 (by decide) (fun c2 => ?_) (fun c2 => ?_)
    · have w := w.1 c2
      refine G_iinc (v := 1) 4 rfl dX6_find_133 (by decide) (by decide) (lv' := [(4, .int (x4 + 1)), (0, .ref r0), (1, .ref r1), (2, .int x2), (3, .int x3)]) rfl ?_
      refine G_goto (tgt := 66) dX6_find_136 (by decide) ?_
      exact G_sub [1, 2, 3, 4, 0] rfl w
    · have w := w.2 c2
      refine G_iload_n 3 rfl dX6_find_105 rfl ?_
      refine G_iconst (v := 1) dX6_find_106 (by decide) ?_
      refine G_icmp_ne (tgt := 125) dX6_find_107 (by decide) (fun c3 => ?_) (fun c3 => ?_)
      · have w := w.1 c3
        refine G_aload_n 0 rfl dX6_find_125 rfl ?_
        refine G_aload_n 1 rfl dX6_find_126 rfl ?_
        refine G_getr (j := r1_numbers) (k := 1) hs1 (q := (RX2, TX2, 8)) rfl inX2 (by decide) rfl hF_X6_62 dX6_find_127 ?_
        obtain ⟨Q2, ok2, w⟩ := w
        refine G_callV (Z := mX6_changeAgain) (As := [.ref r1_numbers]) (st := []) hL_X6_79 hI_X6_changeAgain hS_X6_changeAgain hC_X6_changeAgain hN_X6 nX6_changeAgain (by decide) hs3 rfl rfl rfl (Nat.le_of_ble_eq_true rfl) dX6_find_130 ok2 (fun r_ h_2 z_ => ?_)
        obtain ⟨rfl, q_2⟩ := z_
        have w := w h_2 q_2
        refine G_iinc (v := 1) 4 rfl dX6_find_133 (by decide) (by decide) (lv' := [(4, .int (x4 + 1)), (0, .ref r0), (1, .ref r1), (2, .int x2), (3, .int x3)]) rfl ?_
        refine G_goto (tgt := 66) dX6_find_136 (by decide) ?_
        exact G_sub [1, 2, 3, 4, 0] rfl w
      · have w := w.2 c3
        refine G_aload_n 0 rfl dX6_find_110 rfl ?_
        refine G_aload_n 0 rfl dX6_find_111 rfl ?_
        refine G_getr (j := r0_once) (k := 1) hs3 (q := (RX6, TX6, 6)) rfl inX6 (by decide) rfl hF_X6_21 dX6_find_112 ?_
        refine G_aload_n 1 rfl dX6_find_115 rfl ?_
        refine G_getr (j := r1_numbers) (k := 1) hs1 (q := (RX2, TX2, 8)) rfl inX2 (by decide) rfl hF_X6_62 dX6_find_116 ?_
        obtain ⟨Q3, ok3, w⟩ := w
        refine G_callV (Z := mX6_consider) (As := [.ref r0_once, .ref r1_numbers]) (st := []) hL_X6_66 hI_X6_consider hS_X6_consider hC_X6_consider hN_X6 nX6_consider (by decide) hs3 rfl rfl rfl (Nat.le_of_ble_eq_true rfl) dX6_find_119 ok3 (fun r_ h_3 z_ => ?_)
        obtain ⟨rfl, q_3⟩ := z_
        have w := w h_3 q_3
        refine G_goto (tgt := 133) dX6_find_122 (by decide) ?_
        refine G_iinc (v := 1) 4 rfl dX6_find_133 (by decide) (by decide) (lv' := [(4, .int (x4 + 1)), (0, .ref r0), (1, .ref r1), (2, .int x2), (3, .int x3)]) rfl ?_
        refine G_goto (tgt := 66) dX6_find_136 (by decide) ?_
        exact G_sub [1, 2, 3, 4, 0] rfl w
-- LostDigits$Search.changeAgain
theorem dX6_changeAgain_0 : decode cX6_changeAgain 0 = .ok (.iconst 0, 1) := by decide +kernel
theorem dX6_changeAgain_1 : decode cX6_changeAgain 1 = .ok (.istore_n 2, 1) := by decide +kernel
theorem dX6_changeAgain_2 : decode cX6_changeAgain 2 = .ok (.iload_n 2, 1) := by decide +kernel
theorem dX6_changeAgain_3 : decode cX6_changeAgain 3 = .ok (.aload_n 0, 1) := by decide +kernel
theorem dX6_changeAgain_4 : decode cX6_changeAgain 4 = .ok (.getfield 21, 3) := by decide +kernel
theorem dX6_changeAgain_7 : decode cX6_changeAgain 7 = .ok (.getfield 70, 3) := by decide +kernel
theorem dX6_changeAgain_10 : decode cX6_changeAgain 10 = .ok (.bipush 7, 2) := by decide +kernel
theorem dX6_changeAgain_12 : decode cX6_changeAgain 12 = .ok (.imul, 1) := by decide +kernel
theorem dX6_changeAgain_13 : decode cX6_changeAgain 13 = .ok (.if_icmp .ge 40, 3) := by decide +kernel
theorem dX6_changeAgain_16 : decode cX6_changeAgain 16 = .ok (.aload_n 0, 1) := by decide +kernel
theorem dX6_changeAgain_17 : decode cX6_changeAgain 17 = .ok (.getfield 21, 3) := by decide +kernel
theorem dX6_changeAgain_20 : decode cX6_changeAgain 20 = .ok (.iload_n 2, 1) := by decide +kernel
theorem dX6_changeAgain_21 : decode cX6_changeAgain 21 = .ok (.bipush 7, 2) := by decide +kernel
theorem dX6_changeAgain_23 : decode cX6_changeAgain 23 = .ok (.irem, 1) := by decide +kernel
theorem dX6_changeAgain_24 : decode cX6_changeAgain 24 = .ok (.iload_n 2, 1) := by decide +kernel
theorem dX6_changeAgain_25 : decode cX6_changeAgain 25 = .ok (.bipush 7, 2) := by decide +kernel
theorem dX6_changeAgain_27 : decode cX6_changeAgain 27 = .ok (.idiv, 1) := by decide +kernel
theorem dX6_changeAgain_28 : decode cX6_changeAgain 28 = .ok (.aload_n 0, 1) := by decide +kernel
theorem dX6_changeAgain_29 : decode cX6_changeAgain 29 = .ok (.getfield 25, 3) := by decide +kernel
theorem dX6_changeAgain_32 : decode cX6_changeAgain 32 = .ok (.invokestatic 73, 3) := by decide +kernel
theorem dX6_changeAgain_35 : decode cX6_changeAgain 35 = .ok (.ifCond .eq 12, 3) := by decide +kernel
theorem dX6_changeAgain_38 : decode cX6_changeAgain 38 = .ok (.aload_n 0, 1) := by decide +kernel
theorem dX6_changeAgain_39 : decode cX6_changeAgain 39 = .ok (.aload_n 0, 1) := by decide +kernel
theorem dX6_changeAgain_40 : decode cX6_changeAgain 40 = .ok (.getfield 25, 3) := by decide +kernel
theorem dX6_changeAgain_43 : decode cX6_changeAgain 43 = .ok (.aload_n 1, 1) := by decide +kernel
theorem dX6_changeAgain_44 : decode cX6_changeAgain 44 = .ok (.invokevirtual 66, 3) := by decide +kernel
theorem dX6_changeAgain_47 : decode cX6_changeAgain 47 = .ok (.iinc 2 1, 3) := by decide +kernel
theorem dX6_changeAgain_50 : decode cX6_changeAgain 50 = .ok (.goto (-48), 3) := by decide +kernel
theorem dX6_changeAgain_53 : decode cX6_changeAgain 53 = .ok (.return_, 1) := by decide +kernel
set_option maxRecDepth 10000 in
theorem NX6_changeAgain_0 {d : Nat} {S : fW} {h : fH} {Q : fH → Prop} {r0 : Nat} {r1 : Nat}  
    (w : G mX6_changeAgain (d + 1) S (f_PV Q) 2 [(0, .ref r0), (1, .ref r1), (2, .int (0 : Int32))] [] h) :
    OkV (d + 1) mX6_changeAgain S [.ref r0, .ref r1] h Q := by
  refine Ok.of (by decide) (Nat.le_of_ble_eq_true rfl) ?_
  refine G_iconst (v := 0) dX6_changeAgain_0 (by decide) ?_
  refine G_istore_n dX6_changeAgain_1 rfl (by decide) (lv' := [(2, .int (0 : Int32)), (0, .ref r0), (1, .ref r1)]) rfl ?_
  exact G_sub [1, 2, 0] rfl w

set_option maxRecDepth 10000 in
theorem NX6_changeAgain_2 {d : Nat} {S : fW} {h : fH} {Q : fH → Prop} {r0 : Nat} {r1 : Nat} {x2 : Int32} {r0_steps r0_once r0_twice r0_best r0_once_signs r0_once_ends r0_once_letters : Nat}  
    (hs1 : (r0, shX6 r0_steps r0_once r0_twice r0_best) ∈ S)
    (hs2 : (r0_once, shX10 r0_once_signs r0_once_ends r0_once_letters) ∈ S)
    (w : ((((h.1 r0_once 3) * (7 : Int32)) ≤ x2 → Q h) ∧ (¬ ((h.1 r0_once 3) * (7 : Int32)) ≤ x2 → ∃ Q1 : Int32 → fH → Prop, OkI d mX5_write S [.ref r0_once, .int (x2 - x2 / (7 : Int32) * (7 : Int32)), .int (x2 / (7 : Int32)), .ref r0_twice] h Q1 ∧ ∀ (v_1 : Int32) (h_1 : fH), Q1 v_1 h_1 → ((v_1 = 0 → G mX6_changeAgain (d + 1) S (f_PV Q) 2 [(0, .ref r0), (1, .ref r1), (2, .int (x2 + 1))] [] h_1) ∧ (¬ v_1 = 0 → ∃ Q2 : fH → Prop, OkV d mX6_consider S [.ref r0, .ref r0_twice, .ref r1] h_1 Q2 ∧ ∀ (h_2 : fH), Q2 h_2 → G mX6_changeAgain (d + 1) S (f_PV Q) 2 [(0, .ref r0), (1, .ref r1), (2, .int (x2 + 1))] [] h_2))))) :
    G mX6_changeAgain (d + 1) S (f_PV Q) 2 [(0, .ref r0), (1, .ref r1), (2, .int x2)] [] h := by
  refine G_iload_n 2 rfl dX6_changeAgain_2 rfl ?_
  refine G_aload_n 0 rfl dX6_changeAgain_3 rfl ?_
  refine G_getr (j := r0_once) (k := 1) hs1 (q := (RX6, TX6, 6)) rfl inX6 (by decide) rfl hF_X6_21 dX6_changeAgain_4 ?_
  refine G_geti (k := 3) hs2 (q := (RX10, TX10, 4)) rfl inX10 (by decide) (Or.inl rfl) hF_X6_70 dX6_changeAgain_7 ?_
  refine G_bipush (v := 7) dX6_changeAgain_10 (by decide) ?_
  refine G_imul dX6_changeAgain_12 ?_
  refine G_icmp_ge (tgt := 53) dX6_changeAgain_13 (by decide) (fun c1 => ?_) (fun c1 => ?_)
  · have w := w.1 c1
    exact G_vret rfl dX6_changeAgain_53 ⟨rfl, w⟩
  · have w := w.2 c1
    refine G_aload_n 0 rfl dX6_changeAgain_16 rfl ?_
    refine G_getr (j := r0_once) (k := 1) hs1 (q := (RX6, TX6, 6)) rfl inX6 (by decide) rfl hF_X6_21 dX6_changeAgain_17 ?_
    refine G_iload_n 2 rfl dX6_changeAgain_20 rfl ?_
    refine G_bipush (v := 7) dX6_changeAgain_21 (by decide) ?_
    refine G_irem dX6_changeAgain_23 (by decide) ?_
    refine G_iload_n 2 rfl dX6_changeAgain_24 rfl ?_
    refine G_bipush (v := 7) dX6_changeAgain_25 (by decide) ?_
    refine G_idiv dX6_changeAgain_27 (by decide) ?_
    refine G_aload_n 0 rfl dX6_changeAgain_28 rfl ?_
    refine G_getr (j := r0_twice) (k := 2) hs1 (q := (RX6, TX6, 6)) rfl inX6 (by decide) rfl hF_X6_25 dX6_changeAgain_29 ?_
    obtain ⟨Q1, ok1, w⟩ := w
    refine G_callS (Z := mX5_write) (As := [.ref r0_once, .int (x2 - x2 / (7 : Int32) * (7 : Int32)), .int (x2 / (7 : Int32)), .ref r0_twice]) (st := []) hL_X6_73 hT_X5_write hC_X5_write hN_X5 nX5_write (by decide) rfl (Nat.le_of_ble_eq_true rfl) dX6_changeAgain_32 ok1 (fun r_ h_1 z_ => ?_)
    obtain ⟨v_1, rfl, q_1⟩ := z_
    have w := w v_1 h_1 q_1
    refine G_if_eq (tgt := 47) dX6_changeAgain_35 (by decide) (fun c2 => ?_) (fun c2 => ?_)
    · have w := w.1 c2
      refine G_iinc (v := 1) 2 rfl dX6_changeAgain_47 (by decide) (by decide) (lv' := [(2, .int (x2 + 1)), (0, .ref r0), (1, .ref r1)]) rfl ?_
      refine G_goto (tgt := 2) dX6_changeAgain_50 (by decide) ?_
      exact G_sub [1, 2, 0] rfl w
    · have w := w.2 c2
      refine G_aload_n 0 rfl dX6_changeAgain_38 rfl ?_
      refine G_aload_n 0 rfl dX6_changeAgain_39 rfl ?_
      refine G_getr (j := r0_twice) (k := 2) hs1 (q := (RX6, TX6, 6)) rfl inX6 (by decide) rfl hF_X6_25 dX6_changeAgain_40 ?_
      refine G_aload_n 1 rfl dX6_changeAgain_43 rfl ?_
      obtain ⟨Q2, ok2, w⟩ := w
      refine G_callV (Z := mX6_consider) (As := [.ref r0_twice, .ref r1]) (st := []) hL_X6_66 hI_X6_consider hS_X6_consider hC_X6_consider hN_X6 nX6_consider (by decide) hs1 rfl rfl rfl (Nat.le_of_ble_eq_true rfl) dX6_changeAgain_44 ok2 (fun r_ h_2 z_ => ?_)
      obtain ⟨rfl, q_2⟩ := z_
      have w := w h_2 q_2
      refine G_iinc (v := 1) 2 rfl dX6_changeAgain_47 (by decide) (by decide) (lv' := [(2, .int (x2 + 1)), (0, .ref r0), (1, .ref r1)]) rfl ?_
      refine G_goto (tgt := 2) dX6_changeAgain_50 (by decide) ?_
      exact G_sub [1, 2, 0] rfl w
-- LostDigits$Search.consider
theorem dX6_consider_0 : decode cX6_consider 0 = .ok (.aload_n 0, 1) := by decide +kernel
theorem dX6_consider_1 : decode cX6_consider 1 = .ok (.getfield 12, 3) := by decide +kernel
theorem dX6_consider_4 : decode cX6_consider 4 = .ok (.aload_n 1, 1) := by decide +kernel
theorem dX6_consider_5 : decode cX6_consider 5 = .ok (.aload_n 2, 1) := by decide +kernel
theorem dX6_consider_6 : decode cX6_consider 6 = .ok (.invokevirtual 83, 3) := by decide +kernel
theorem dX6_consider_9 : decode cX6_consider 9 = .ok (.lstore_n 3, 1) := by decide +kernel
theorem dX6_consider_10 : decode cX6_consider 10 = .ok (.lload_n 3, 1) := by decide +kernel
theorem dX6_consider_11 : decode cX6_consider 11 = .ok (.ldc2_w 31, 3) := by decide +kernel
theorem dX6_consider_14 : decode cX6_consider 14 = .ok (.lcmp, 1) := by decide +kernel
theorem dX6_consider_15 : decode cX6_consider 15 = .ok (.ifCond .eq 42, 3) := by decide +kernel
theorem dX6_consider_18 : decode cX6_consider 18 = .ok (.aload_n 0, 1) := by decide +kernel
theorem dX6_consider_19 : decode cX6_consider 19 = .ok (.getfield 33, 3) := by decide +kernel
theorem dX6_consider_22 : decode cX6_consider 22 = .ok (.ldc2_w 31, 3) := by decide +kernel
theorem dX6_consider_25 : decode cX6_consider 25 = .ok (.lcmp, 1) := by decide +kernel
theorem dX6_consider_26 : decode cX6_consider 26 = .ok (.ifCond .eq 18, 3) := by decide +kernel
theorem dX6_consider_29 : decode cX6_consider 29 = .ok (.lload_n 3, 1) := by decide +kernel
theorem dX6_consider_30 : decode cX6_consider 30 = .ok (.invokestatic 87, 3) := by decide +kernel
theorem dX6_consider_33 : decode cX6_consider 33 = .ok (.aload_n 0, 1) := by decide +kernel
theorem dX6_consider_34 : decode cX6_consider 34 = .ok (.getfield 33, 3) := by decide +kernel
theorem dX6_consider_37 : decode cX6_consider 37 = .ok (.invokestatic 87, 3) := by decide +kernel
theorem dX6_consider_40 : decode cX6_consider 40 = .ok (.lcmp, 1) := by decide +kernel
theorem dX6_consider_41 : decode cX6_consider 41 = .ok (.ifCond .ge 16, 3) := by decide +kernel
theorem dX6_consider_44 : decode cX6_consider 44 = .ok (.aload_n 0, 1) := by decide +kernel
theorem dX6_consider_45 : decode cX6_consider 45 = .ok (.lload_n 3, 1) := by decide +kernel
theorem dX6_consider_46 : decode cX6_consider 46 = .ok (.putfield 33, 3) := by decide +kernel
theorem dX6_consider_49 : decode cX6_consider 49 = .ok (.aload_n 0, 1) := by decide +kernel
theorem dX6_consider_50 : decode cX6_consider 50 = .ok (.getfield 28, 3) := by decide +kernel
theorem dX6_consider_53 : decode cX6_consider 53 = .ok (.aload_n 1, 1) := by decide +kernel
theorem dX6_consider_54 : decode cX6_consider 54 = .ok (.invokevirtual 93, 3) := by decide +kernel
theorem dX6_consider_57 : decode cX6_consider 57 = .ok (.return_, 1) := by decide +kernel
set_option maxRecDepth 10000 in
theorem NX6_consider_0 {d : Nat} {S : fW} {h : fH} {Q : fH → Prop} {r0 : Nat} {r1 : Nat} {r2 : Nat} {r0_steps r0_once r0_twice r0_best r0_steps_values r0_steps_slips r0_steps_fractions r0_steps_rounding r0_steps_ratio r0_best_signs r0_best_ends r0_best_letters : Nat}  
    (hs1 : (r0, shX6 r0_steps r0_once r0_twice r0_best) ∈ S)
    (hs2 : (r0_steps, shX8 r0_steps_values r0_steps_slips r0_steps_fractions r0_steps_rounding r0_steps_ratio) ∈ S)
    (hs3 : (r0_best, shX10 r0_best_signs r0_best_ends r0_best_letters) ∈ S)
    (w : ∃ Q1 : Int64 → fH → Prop, OkL d mX8_lossOf S [.ref r0_steps, .ref r1, .ref r2] h Q1 ∧ ∀ (v_1 : Int64) (h_1 : fH), Q1 v_1 h_1 → ((v_1 = (1000000000000000000 : Int64) → Q h_1) ∧ (¬ v_1 = (1000000000000000000 : Int64) → (((h_1.2.1 r0 4) = (1000000000000000000 : Int64) → ∀ g_1 : fH, g_1 = u_fl h_1 r0 4 v_1 → ∃ Q2 : fH → Prop, OkV d mX10_copyFrom S [.ref r0_best, .ref r1] g_1 Q2 ∧ ∀ (h_2 : fH), Q2 h_2 → Q h_2) ∧ (¬ (h_1.2.1 r0 4) = (1000000000000000000 : Int64) → (((if 0 < (h_1.2.1 r0 4) then h_1.2.1 r0 4 else -(h_1.2.1 r0 4)) ≤ (if 0 < v_1 then v_1 else -v_1) → Q h_1) ∧ (¬ (if 0 < (h_1.2.1 r0 4) then h_1.2.1 r0 4 else -(h_1.2.1 r0 4)) ≤ (if 0 < v_1 then v_1 else -v_1) → ∀ g_2 : fH, g_2 = u_fl h_1 r0 4 v_1 → ∃ Q3 : fH → Prop, OkV d mX10_copyFrom S [.ref r0_best, .ref r1] g_2 Q3 ∧ ∀ (h_3 : fH), Q3 h_3 → Q h_3))))))) :
    OkV (d + 1) mX6_consider S [.ref r0, .ref r1, .ref r2] h Q := by
  refine Ok.of (by decide) (Nat.le_of_ble_eq_true rfl) ?_
  refine G_aload_n 0 rfl dX6_consider_0 rfl ?_
  refine G_getr (j := r0_steps) (k := 0) hs1 (q := (RX6, TX6, 6)) rfl inX6 (by decide) rfl hF_X6_12 dX6_consider_1 ?_
  refine G_aload_n 1 rfl dX6_consider_4 rfl ?_
  refine G_aload_n 2 rfl dX6_consider_5 rfl ?_
  obtain ⟨Q1, ok1, w⟩ := w
  refine G_callV (Z := mX8_lossOf) (As := [.ref r1, .ref r2]) (st := []) hL_X6_83 hI_X8_lossOf hS_X8_lossOf hC_X8_lossOf hN_X8 nX8_lossOf (by decide) hs2 rfl rfl rfl (Nat.le_of_ble_eq_true rfl) dX6_consider_6 ok1 (fun r_ h_1 z_ => ?_)
  obtain ⟨v_1, rfl, q_1⟩ := z_
  have w := w v_1 h_1 q_1
  refine G_lstore_n dX6_consider_9 rfl (by decide) (lv' := [(3, .long v_1), (0, .ref r0), (1, .ref r1), (2, .ref r2)]) rfl ?_
  refine G_lload_n 0 rfl dX6_consider_10 rfl ?_
  refine G_ldc2 hK_X6_31 dX6_consider_11 ?_
  refine G_lif_eq (tgt := 57) dX6_consider_14 dX6_consider_15 (by decide) (fun c1 => ?_) (fun c1 => ?_)
  · have w := w.1 c1
    exact G_vret rfl dX6_consider_57 ⟨rfl, w⟩
  · have w := w.2 c1
    refine G_aload_n 1 rfl dX6_consider_18 rfl ?_
    refine G_getl (k := 4) hs1 (q := (RX6, TX6, 6)) rfl inX6 (by decide) rfl hF_X6_33 dX6_consider_19 ?_
    refine G_ldc2 hK_X6_31 dX6_consider_22 ?_
    refine G_lif_eq (tgt := 44) dX6_consider_25 dX6_consider_26 (by decide) (fun c2 => ?_) (fun c2 => ?_)
    · have w := w.1 c2
      refine G_aload_n 1 rfl dX6_consider_44 rfl ?_
      refine G_lload_n 0 rfl dX6_consider_45 rfl ?_
      refine G_putl (k := 4) tyX6 hs1 (q := (RX6, TX6, 6)) rfl inX6 tyX6_ok nmX6 (by decide) rfl rfl rfl hF_X6_33 dX6_consider_46 ?_
      refine G_nm (fun g_1 e_1 => ?_)
      have w := w g_1 e_1
      refine G_aload_n 1 rfl dX6_consider_49 rfl ?_
      refine G_getr (j := r0_best) (k := 3) hs1 (q := (RX6, TX6, 6)) rfl inX6 (by decide) rfl hF_X6_28 dX6_consider_50 ?_
      refine G_aload_n 2 rfl dX6_consider_53 rfl ?_
      obtain ⟨Q2, ok2, w⟩ := w
      refine G_callV (Z := mX10_copyFrom) (As := [.ref r1]) (st := []) hL_X6_93 hI_X10_copyFrom hS_X10_copyFrom hC_X10_copyFrom hN_X10 nX10_copyFrom (by decide) hs3 rfl rfl rfl (Nat.le_of_ble_eq_true rfl) dX6_consider_54 ok2 (fun r_ h_2 z_ => ?_)
      obtain ⟨rfl, q_2⟩ := z_
      have w := w h_2 q_2
      exact G_vret rfl dX6_consider_57 ⟨rfl, w⟩
    · have w := w.2 c2
      refine G_lload_n 0 rfl dX6_consider_29 rfl ?_
      refine G_mabs hL_X6_87 (Nat.le_of_ble_eq_true rfl) dX6_consider_30 ?_
      refine G_aload_n 1 rfl dX6_consider_33 rfl ?_
      refine G_getl (k := 4) hs1 (q := (RX6, TX6, 6)) rfl inX6 (by decide) rfl hF_X6_33 dX6_consider_34 ?_
      refine G_mabs hL_X6_87 (Nat.le_of_ble_eq_true rfl) dX6_consider_37 ?_
      refine G_lif_ge (tgt := 57) dX6_consider_40 dX6_consider_41 (by decide) (fun c3 => ?_) (fun c3 => ?_)
      · have w := w.1 c3
        exact G_vret rfl dX6_consider_57 ⟨rfl, w⟩
      · have w := w.2 c3
        refine G_aload_n 1 rfl dX6_consider_44 rfl ?_
        refine G_lload_n 0 rfl dX6_consider_45 rfl ?_
        refine G_putl (k := 4) tyX6 hs1 (q := (RX6, TX6, 6)) rfl inX6 tyX6_ok nmX6 (by decide) rfl rfl rfl hF_X6_33 dX6_consider_46 ?_
        refine G_nm (fun g_2 e_2 => ?_)
        have w := w g_2 e_2
        refine G_aload_n 1 rfl dX6_consider_49 rfl ?_
        refine G_getr (j := r0_best) (k := 3) hs1 (q := (RX6, TX6, 6)) rfl inX6 (by decide) rfl hF_X6_28 dX6_consider_50 ?_
        refine G_aload_n 2 rfl dX6_consider_53 rfl ?_
        obtain ⟨Q3, ok3, w⟩ := w
        refine G_callV (Z := mX10_copyFrom) (As := [.ref r1]) (st := []) hL_X6_93 hI_X10_copyFrom hS_X10_copyFrom hC_X10_copyFrom hN_X10 nX10_copyFrom (by decide) hs3 rfl rfl rfl (Nat.le_of_ble_eq_true rfl) dX6_consider_54 ok3 (fun r_ h_3 z_ => ?_)
        obtain ⟨rfl, q_3⟩ := z_
        have w := w h_3 q_3
        exact G_vret rfl dX6_consider_57 ⟨rfl, w⟩

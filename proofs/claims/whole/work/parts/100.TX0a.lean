-- LostDigits$Fractions.workParts
theorem dX0_workParts_0 : decode cX0_workParts 0 = .ok (.aload_n 1, 1) := by decide +kernel
theorem dX0_workParts_1 : decode cX0_workParts 1 = .ok (.getfield 18, 3) := by decide +kernel
theorem dX0_workParts_4 : decode cX0_workParts 4 = .ok (.bipush 13, 2) := by decide +kernel
theorem dX0_workParts_6 : decode cX0_workParts 6 = .ok (.invokestatic 24, 3) := by decide +kernel
theorem dX0_workParts_9 : decode cX0_workParts 9 = .ok (.iconst 1, 1) := by decide +kernel
theorem dX0_workParts_10 : decode cX0_workParts 10 = .ok (.isub, 1) := by decide +kernel
theorem dX0_workParts_11 : decode cX0_workParts 11 = .ok (.istore 4, 2) := by decide +kernel
theorem dX0_workParts_13 : decode cX0_workParts 13 = .ok (.iload 4, 2) := by decide +kernel
theorem dX0_workParts_15 : decode cX0_workParts 15 = .ok (.ifCond .lt 77, 3) := by decide +kernel
theorem dX0_workParts_18 : decode cX0_workParts 18 = .ok (.aload_n 1, 1) := by decide +kernel
theorem dX0_workParts_19 : decode cX0_workParts 19 = .ok (.getfield 30, 3) := by decide +kernel
theorem dX0_workParts_22 : decode cX0_workParts 22 = .ok (.iload 4, 2) := by decide +kernel
theorem dX0_workParts_24 : decode cX0_workParts 24 = .ok (.iaload, 1) := by decide +kernel
theorem dX0_workParts_25 : decode cX0_workParts 25 = .ok (.iload_n 3, 1) := by decide +kernel
theorem dX0_workParts_26 : decode cX0_workParts 26 = .ok (.iand, 1) := by decide +kernel
theorem dX0_workParts_27 : decode cX0_workParts 27 = .ok (.ifCond .eq 59, 3) := by decide +kernel
theorem dX0_workParts_30 : decode cX0_workParts 30 = .ok (.aload_n 1, 1) := by decide +kernel
theorem dX0_workParts_31 : decode cX0_workParts 31 = .ok (.getfield 34, 3) := by decide +kernel
theorem dX0_workParts_34 : decode cX0_workParts 34 = .ok (.iload 4, 2) := by decide +kernel
theorem dX0_workParts_36 : decode cX0_workParts 36 = .ok (.iaload, 1) := by decide +kernel
theorem dX0_workParts_37 : decode cX0_workParts 37 = .ok (.istore 5, 2) := by decide +kernel
theorem dX0_workParts_39 : decode cX0_workParts 39 = .ok (.iload 5, 2) := by decide +kernel
theorem dX0_workParts_41 : decode cX0_workParts 41 = .ok (.invokestatic 37, 3) := by decide +kernel
theorem dX0_workParts_44 : decode cX0_workParts 44 = .ok (.ifCond .eq 20, 3) := by decide +kernel
theorem dX0_workParts_47 : decode cX0_workParts 47 = .ok (.aload_n 0, 1) := by decide +kernel
theorem dX0_workParts_48 : decode cX0_workParts 48 = .ok (.iload 4, 2) := by decide +kernel
theorem dX0_workParts_50 : decode cX0_workParts 50 = .ok (.iload 5, 2) := by decide +kernel
theorem dX0_workParts_52 : decode cX0_workParts 52 = .ok (.aload_n 1, 1) := by decide +kernel
theorem dX0_workParts_53 : decode cX0_workParts 53 = .ok (.iload 4, 2) := by decide +kernel
theorem dX0_workParts_55 : decode cX0_workParts 55 = .ok (.invokevirtual 41, 3) := by decide +kernel
theorem dX0_workParts_58 : decode cX0_workParts 58 = .ok (.invokevirtual 45, 3) := by decide +kernel
theorem dX0_workParts_61 : decode cX0_workParts 61 = .ok (.goto 25, 3) := by decide +kernel
theorem dX0_workParts_64 : decode cX0_workParts 64 = .ok (.aload_n 0, 1) := by decide +kernel
theorem dX0_workParts_65 : decode cX0_workParts 65 = .ok (.getfield 9, 3) := by decide +kernel
theorem dX0_workParts_68 : decode cX0_workParts 68 = .ok (.iload 4, 2) := by decide +kernel
theorem dX0_workParts_70 : decode cX0_workParts 70 = .ok (.iload 5, 2) := by decide +kernel
theorem dX0_workParts_72 : decode cX0_workParts 72 = .ok (.aload_n 2, 1) := by decide +kernel
theorem dX0_workParts_73 : decode cX0_workParts 73 = .ok (.invokestatic 49, 3) := by decide +kernel
theorem dX0_workParts_76 : decode cX0_workParts 76 = .ok (.i2l, 1) := by decide +kernel
theorem dX0_workParts_77 : decode cX0_workParts 77 = .ok (.lastore, 1) := by decide +kernel
theorem dX0_workParts_78 : decode cX0_workParts 78 = .ok (.aload_n 0, 1) := by decide +kernel
theorem dX0_workParts_79 : decode cX0_workParts 79 = .ok (.getfield 15, 3) := by decide +kernel
theorem dX0_workParts_82 : decode cX0_workParts 82 = .ok (.iload 4, 2) := by decide +kernel
theorem dX0_workParts_84 : decode cX0_workParts 84 = .ok (.lconst 1, 1) := by decide +kernel
theorem dX0_workParts_85 : decode cX0_workParts 85 = .ok (.lastore, 1) := by decide +kernel
theorem dX0_workParts_86 : decode cX0_workParts 86 = .ok (.iinc 4 (-1), 3) := by decide +kernel
theorem dX0_workParts_89 : decode cX0_workParts 89 = .ok (.goto (-76), 3) := by decide +kernel
theorem dX0_workParts_92 : decode cX0_workParts 92 = .ok (.return_, 1) := by decide +kernel
set_option maxRecDepth 10000 in
theorem NX0_workParts_0 {d : Nat} {S : fW} {h : fH} {Q : fH → Prop} {r0 : Nat} {r1 : Nat} {r2 : Nat} {x3 : Int32} {r1_signs r1_ends r1_letters : Nat}  
    (hs1 : (r1, shX10 r1_signs r1_ends r1_letters) ∈ S)
    (w : G mX0_workParts (d + 1) S (f_PV Q) 13 [(0, .ref r0), (1, .ref r1), (2, .ref r2), (3, .int x3), (4, .int ((if (13 : Int32) < (h.1 r1 3) then (13 : Int32) else (h.1 r1 3)) - (1 : Int32)))] [] h) :
    OkV (d + 1) mX0_workParts S [.ref r0, .ref r1, .ref r2, .int x3] h Q := by
  refine Ok.of (by decide) (Nat.le_of_ble_eq_true rfl) ?_
  refine G_aload_n 1 rfl dX0_workParts_0 rfl ?_
  refine G_geti (k := 3) hs1 (q := (RX10, TX10, 4)) rfl inX10 (by decide) (Or.inl rfl) hF_X0_18 dX0_workParts_1 ?_
  refine G_bipush (v := 13) dX0_workParts_4 (by decide) ?_
  refine G_mminI hL_X0_24 (Nat.le_of_ble_eq_true rfl) dX0_workParts_6 ?_
  refine G_iconst (v := 1) dX0_workParts_9 (by decide) ?_
  refine G_isub dX0_workParts_10 ?_
  refine G_istore dX0_workParts_11 (by decide) (lv' := [(4, .int ((if (13 : Int32) < (h.1 r1 3) then (13 : Int32) else (h.1 r1 3)) - (1 : Int32))), (0, .ref r0), (1, .ref r1), (2, .ref r2), (3, .int x3)]) rfl ?_
  exact G_sub [1, 2, 3, 4, 0] rfl w

set_option maxRecDepth 10000 in
theorem NX0_workParts_13 {d : Nat} {S : fW} {h : fH} {Q : fH → Prop} {r0 : Nat} {r1 : Nat} {r2 : Nat} {x3 : Int32} {x4 : Int32} {r1_signs r1_ends r1_letters r0_uppers r0_lowers : Nat}  
    (hs1 : (r1, shX10 r1_signs r1_ends r1_letters) ∈ S)
    (hs2 : (r1_letters, shI 13) ∈ S)
    (hs3 : (r1_signs, shI 13) ∈ S)
    (hs4 : (r0, shX0 r0_uppers r0_lowers) ∈ S)
    (hs5 : (r0_uppers, shJ 13) ∈ S)
    (hs6 : (r0_lowers, shJ 13) ∈ S)
    (w : ((x4 < 0 → Q h) ∧ (¬ x4 < 0 → vp_in x4 13 ∧ ((((h.2.2.1 r1_letters x4.toNatClampNeg) &&& x3) = 0 → G mX0_workParts (d + 1) S (f_PV Q) 13 [(0, .ref r0), (1, .ref r1), (2, .ref r2), (3, .int x3), (4, .int (x4 + (-1)))] [] h) ∧ (¬ ((h.2.2.1 r1_letters x4.toNatClampNeg) &&& x3) = 0 → ∃ Q1 : Int32 → fH → Prop, OkI d mX11_isOperator S [.int (h.2.2.1 r1_signs x4.toNatClampNeg)] h Q1 ∧ ∀ (v_1 : Int32) (h_1 : fH), Q1 v_1 h_1 → ((v_1 = 0 → ∃ Q2 : Int32 → fH → Prop, OkI d mX11_numberOf S [.int (h.2.2.1 r1_signs x4.toNatClampNeg), .ref r2] h_1 Q2 ∧ ∀ (v_2 : Int32) (h_2 : fH), Q2 v_2 h_2 → ∀ g_1 : fH, g_1 = u_al h_2 r0_uppers (vp_updL (h_2.2.2.2 r0_uppers) x4.toNatClampNeg v_2.toInt64) → ∀ g_2 : fH, g_2 = u_al g_1 r0_lowers (vp_updL (g_1.2.2.2 r0_lowers) x4.toNatClampNeg (1 : Int64)) → G mX0_workParts (d + 1) S (f_PV Q) 13 [(0, .ref r0), (1, .ref r1), (2, .ref r2), (3, .int x3), (4, .int (x4 + (-1)))] [] g_2) ∧ (¬ v_1 = 0 → ∃ Q3 : Int32 → fH → Prop, OkI d mX10_secondOf S [.ref r1, .int x4] h_1 Q3 ∧ ∀ (v_3 : Int32) (h_3 : fH), Q3 v_3 h_3 → ∃ Q4 : fH → Prop, OkV d mX0_join S [.ref r0, .int x4, .int (h.2.2.1 r1_signs x4.toNatClampNeg), .int v_3] h_3 Q4 ∧ ∀ (h_4 : fH), Q4 h_4 → G mX0_workParts (d + 1) S (f_PV Q) 13 [(0, .ref r0), (1, .ref r1), (2, .ref r2), (3, .int x3), (4, .int (x4 + (-1)))] [] h_4))))))) :
    G mX0_workParts (d + 1) S (f_PV Q) 13 [(0, .ref r0), (1, .ref r1), (2, .ref r2), (3, .int x3), (4, .int x4)] [] h := by
  refine G_iload 4 rfl dX0_workParts_13 ?_
  refine G_if_lt (tgt := 92) dX0_workParts_15 (by decide) (fun c1 => ?_) (fun c1 => ?_)
  · have w := w.1 c1
    exact G_vret rfl dX0_workParts_92 ⟨rfl, w⟩
  · have w := w.2 c1
    refine G_aload_n 1 rfl dX0_workParts_18 rfl ?_
    refine G_getr (j := r1_letters) (k := 2) hs1 (q := (RX10, TX10, 4)) rfl inX10 (by decide) rfl hF_X0_30 dX0_workParts_19 ?_
    refine G_iload 4 rfl dX0_workParts_22 ?_
    obtain ⟨sd1, w⟩ := w
    refine G_iald hs2 sd1 dX0_workParts_24 ?_
    refine G_iload_n 3 rfl dX0_workParts_25 rfl ?_
    refine G_iand dX0_workParts_26 ?_
    refine G_if_eq (tgt := 86) dX0_workParts_27 (by decide) (fun c2 => ?_) (fun c2 => ?_)
    · have w := w.1 c2
      refine G_iinc (v := -1) 4 rfl dX0_workParts_86 (by decide) (by decide) (lv' := [(4, .int (x4 + (-1))), (0, .ref r0), (1, .ref r1), (2, .ref r2), (3, .int x3)]) rfl ?_
      refine G_goto (tgt := 13) dX0_workParts_89 (by decide) ?_
      exact G_sub [1, 2, 3, 4, 0] rfl w
    · have w := w.2 c2
      refine G_aload_n 1 rfl dX0_workParts_30 rfl ?_
      refine G_getr (j := r1_signs) (k := 0) hs1 (q := (RX10, TX10, 4)) rfl inX10 (by decide) rfl hF_X0_34 dX0_workParts_31 ?_
      refine G_iload 4 rfl dX0_workParts_34 ?_
      refine G_iald hs3 sd1 dX0_workParts_36 ?_
      refine G_istore dX0_workParts_37 (by decide) (lv' := [(5, .int (h.2.2.1 r1_signs x4.toNatClampNeg)), (0, .ref r0), (1, .ref r1), (2, .ref r2), (3, .int x3), (4, .int x4)]) rfl ?_
      refine G_iload 0 rfl dX0_workParts_39 ?_
      obtain ⟨Q1, ok1, w⟩ := w
      refine G_callN (Z := mX11_isOperator) (As := [.int (h.2.2.1 r1_signs x4.toNatClampNeg)]) (st := []) hM_X0_37 hT_X11_isOperator hC_X11_isOperator hN_X11 nX11_isOperator (by decide) rfl (Nat.le_of_ble_eq_true rfl) dX0_workParts_41 ok1 (fun r_ h_1 z_ => ?_)
      obtain ⟨v_1, rfl, q_1⟩ := z_
      have w := w v_1 h_1 q_1
      refine G_if_eq (tgt := 64) dX0_workParts_44 (by decide) (fun c3 => ?_) (fun c3 => ?_)
      · have w := w.1 c3
        refine G_aload_n 1 rfl dX0_workParts_64 rfl ?_
        refine G_getr (j := r0_uppers) (k := 0) hs4 (q := (RX0, TX0, 2)) rfl inX0 (by decide) rfl hF_X0_9 dX0_workParts_65 ?_
        refine G_iload 5 rfl dX0_workParts_68 ?_
        refine G_iload 0 rfl dX0_workParts_70 ?_
        refine G_aload_n 3 rfl dX0_workParts_72 rfl ?_
        obtain ⟨Q2, ok2, w⟩ := w
        refine G_callN (Z := mX11_numberOf) (As := [.int (h.2.2.1 r1_signs x4.toNatClampNeg), .ref r2]) (st := [.int x4, .ref r0_uppers]) hM_X0_49 hT_X11_numberOf hC_X11_numberOf hN_X11 nX11_numberOf (by decide) rfl (Nat.le_of_ble_eq_true rfl) dX0_workParts_73 ok2 (fun r_ h_2 z_ => ?_)
        obtain ⟨v_2, rfl, q_2⟩ := z_
        have w := w v_2 h_2 q_2
        refine G_i2l dX0_workParts_76 ?_
        refine G_last hs5 sd1 dX0_workParts_77 ?_
        refine G_nm (fun g_1 e_1 => ?_)
        have w := w g_1 e_1
        refine G_aload_n 1 rfl dX0_workParts_78 rfl ?_
        refine G_getr (j := r0_lowers) (k := 1) hs4 (q := (RX0, TX0, 2)) rfl inX0 (by decide) rfl hF_X0_15 dX0_workParts_79 ?_
        refine G_iload 5 rfl dX0_workParts_82 ?_
        refine G_lconst (v := 1) dX0_workParts_84 (by decide) ?_
        refine G_last hs6 sd1 dX0_workParts_85 ?_
        refine G_nm (fun g_2 e_2 => ?_)
        have w := w g_2 e_2
        refine G_iinc (v := -1) 5 rfl dX0_workParts_86 (by decide) (by decide) (lv' := [(4, .int (x4 + (-1))), (5, .int (h.2.2.1 r1_signs x4.toNatClampNeg)), (0, .ref r0), (1, .ref r1), (2, .ref r2), (3, .int x3)]) rfl ?_
        refine G_goto (tgt := 13) dX0_workParts_89 (by decide) ?_
        exact G_sub [2, 3, 4, 5, 0] rfl w
      · have w := w.2 c3
        refine G_aload_n 1 rfl dX0_workParts_47 rfl ?_
        refine G_iload 5 rfl dX0_workParts_48 ?_
        refine G_iload 0 rfl dX0_workParts_50 ?_
        refine G_aload_n 2 rfl dX0_workParts_52 rfl ?_
        refine G_iload 5 rfl dX0_workParts_53 ?_
        obtain ⟨Q3, ok3, w⟩ := w
        refine G_callV (Z := mX10_secondOf) (As := [.int x4]) (st := [.int (h.2.2.1 r1_signs x4.toNatClampNeg), .int x4, .ref r0]) hL_X0_41 hI_X10_secondOf hS_X10_secondOf hC_X10_secondOf hN_X10 nX10_secondOf (by decide) hs1 rfl rfl rfl (Nat.le_of_ble_eq_true rfl) dX0_workParts_55 ok3 (fun r_ h_3 z_ => ?_)
        obtain ⟨v_3, rfl, q_3⟩ := z_
        have w := w v_3 h_3 q_3
        obtain ⟨Q4, ok4, w⟩ := w
        refine G_callV (Z := mX0_join) (As := [.int x4, .int (h.2.2.1 r1_signs x4.toNatClampNeg), .int v_3]) (st := []) hL_X0_45 hI_X0_join hS_X0_join hC_X0_join hN_X0 nX0_join (by decide) hs4 rfl rfl rfl (Nat.le_of_ble_eq_true rfl) dX0_workParts_58 ok4 (fun r_ h_4 z_ => ?_)
        obtain ⟨rfl, q_4⟩ := z_
        have w := w h_4 q_4
        refine G_goto (tgt := 86) dX0_workParts_61 (by decide) ?_
        refine G_iinc (v := -1) 5 rfl dX0_workParts_86 (by decide) (by decide) (lv' := [(4, .int (x4 + (-1))), (5, .int (h.2.2.1 r1_signs x4.toNatClampNeg)), (0, .ref r0), (1, .ref r1), (2, .ref r2), (3, .int x3)]) rfl ?_
        refine G_goto (tgt := 13) dX0_workParts_89 (by decide) ?_
        exact G_sub [2, 3, 4, 5, 0] rfl w
-- LostDigits$Fractions.join
theorem dX0_join_0 : decode cX0_join 0 = .ok (.iload_n 1, 1) := by decide +kernel
theorem dX0_join_1 : decode cX0_join 1 = .ok (.iconst 1, 1) := by decide +kernel
theorem dX0_join_2 : decode cX0_join 2 = .ok (.iadd, 1) := by decide +kernel
theorem dX0_join_3 : decode cX0_join 3 = .ok (.istore 4, 2) := by decide +kernel
theorem dX0_join_5 : decode cX0_join 5 = .ok (.aload_n 0, 1) := by decide +kernel
theorem dX0_join_6 : decode cX0_join 6 = .ok (.getfield 9, 3) := by decide +kernel
theorem dX0_join_9 : decode cX0_join 9 = .ok (.iload_n 1, 1) := by decide +kernel
theorem dX0_join_10 : decode cX0_join 10 = .ok (.lconst 0, 1) := by decide +kernel
theorem dX0_join_11 : decode cX0_join 11 = .ok (.lastore, 1) := by decide +kernel
theorem dX0_join_12 : decode cX0_join 12 = .ok (.aload_n 0, 1) := by decide +kernel
theorem dX0_join_13 : decode cX0_join 13 = .ok (.getfield 15, 3) := by decide +kernel
theorem dX0_join_16 : decode cX0_join 16 = .ok (.iload_n 1, 1) := by decide +kernel
theorem dX0_join_17 : decode cX0_join 17 = .ok (.lconst 0, 1) := by decide +kernel
theorem dX0_join_18 : decode cX0_join 18 = .ok (.lastore, 1) := by decide +kernel
theorem dX0_join_19 : decode cX0_join 19 = .ok (.iload 4, 2) := by decide +kernel
theorem dX0_join_21 : decode cX0_join 21 = .ok (.bipush 13, 2) := by decide +kernel
theorem dX0_join_23 : decode cX0_join 23 = .ok (.if_icmp .ge 13, 3) := by decide +kernel
theorem dX0_join_26 : decode cX0_join 26 = .ok (.iload_n 3, 1) := by decide +kernel
theorem dX0_join_27 : decode cX0_join 27 = .ok (.ifCond .lt 9, 3) := by decide +kernel
theorem dX0_join_30 : decode cX0_join 30 = .ok (.iload_n 3, 1) := by decide +kernel
theorem dX0_join_31 : decode cX0_join 31 = .ok (.bipush 13, 2) := by decide +kernel
theorem dX0_join_33 : decode cX0_join 33 = .ok (.if_icmp .lt 4, 3) := by decide +kernel
theorem dX0_join_36 : decode cX0_join 36 = .ok (.return_, 1) := by decide +kernel
theorem dX0_join_37 : decode cX0_join 37 = .ok (.aload_n 0, 1) := by decide +kernel
theorem dX0_join_38 : decode cX0_join 38 = .ok (.getfield 9, 3) := by decide +kernel
theorem dX0_join_41 : decode cX0_join 41 = .ok (.iload 4, 2) := by decide +kernel
theorem dX0_join_43 : decode cX0_join 43 = .ok (.laload, 1) := by decide +kernel
theorem dX0_join_44 : decode cX0_join 44 = .ok (.lstore 5, 2) := by decide +kernel
theorem dX0_join_46 : decode cX0_join 46 = .ok (.aload_n 0, 1) := by decide +kernel
theorem dX0_join_47 : decode cX0_join 47 = .ok (.getfield 15, 3) := by decide +kernel
theorem dX0_join_50 : decode cX0_join 50 = .ok (.iload 4, 2) := by decide +kernel
theorem dX0_join_52 : decode cX0_join 52 = .ok (.laload, 1) := by decide +kernel
theorem dX0_join_53 : decode cX0_join 53 = .ok (.lstore 7, 2) := by decide +kernel
theorem dX0_join_55 : decode cX0_join 55 = .ok (.aload_n 0, 1) := by decide +kernel
theorem dX0_join_56 : decode cX0_join 56 = .ok (.getfield 9, 3) := by decide +kernel
theorem dX0_join_59 : decode cX0_join 59 = .ok (.iload_n 3, 1) := by decide +kernel
theorem dX0_join_60 : decode cX0_join 60 = .ok (.laload, 1) := by decide +kernel
theorem dX0_join_61 : decode cX0_join 61 = .ok (.lstore 9, 2) := by decide +kernel
theorem dX0_join_63 : decode cX0_join 63 = .ok (.aload_n 0, 1) := by decide +kernel
theorem dX0_join_64 : decode cX0_join 64 = .ok (.getfield 15, 3) := by decide +kernel
theorem dX0_join_67 : decode cX0_join 67 = .ok (.iload_n 3, 1) := by decide +kernel
theorem dX0_join_68 : decode cX0_join 68 = .ok (.laload, 1) := by decide +kernel
theorem dX0_join_69 : decode cX0_join 69 = .ok (.lstore 11, 2) := by decide +kernel
theorem dX0_join_71 : decode cX0_join 71 = .ok (.lload 7, 2) := by decide +kernel
theorem dX0_join_73 : decode cX0_join 73 = .ok (.lconst 0, 1) := by decide +kernel
theorem dX0_join_74 : decode cX0_join 74 = .ok (.lcmp, 1) := by decide +kernel
theorem dX0_join_75 : decode cX0_join 75 = .ok (.ifCond .eq 10, 3) := by decide +kernel
theorem dX0_join_78 : decode cX0_join 78 = .ok (.lload 11, 2) := by decide +kernel
theorem dX0_join_80 : decode cX0_join 80 = .ok (.lconst 0, 1) := by decide +kernel
theorem dX0_join_81 : decode cX0_join 81 = .ok (.lcmp, 1) := by decide +kernel
theorem dX0_join_82 : decode cX0_join 82 = .ok (.ifCond .ne 4, 3) := by decide +kernel
theorem dX0_join_85 : decode cX0_join 85 = .ok (.return_, 1) := by decide +kernel
theorem dX0_join_86 : decode cX0_join 86 = .ok (.iload_n 2, 1) := by decide +kernel
theorem dX0_join_87 : decode cX0_join 87 = .ok (.bipush 47, 2) := by decide +kernel
theorem dX0_join_89 : decode cX0_join 89 = .ok (.if_icmp .ne 45, 3) := by decide +kernel
theorem dX0_join_92 : decode cX0_join 92 = .ok (.aload_n 0, 1) := by decide +kernel
theorem dX0_join_93 : decode cX0_join 93 = .ok (.getfield 9, 3) := by decide +kernel
theorem dX0_join_96 : decode cX0_join 96 = .ok (.iload_n 1, 1) := by decide +kernel
theorem dX0_join_97 : decode cX0_join 97 = .ok (.lload 9, 2) := by decide +kernel
theorem dX0_join_99 : decode cX0_join 99 = .ok (.lconst 0, 1) := by decide +kernel
theorem dX0_join_100 : decode cX0_join 100 = .ok (.lcmp, 1) := by decide +kernel
theorem dX0_join_101 : decode cX0_join 101 = .ok (.ifCond .ge 12, 3) := by decide +kernel
theorem dX0_join_104 : decode cX0_join 104 = .ok (.lload 5, 2) := by decide +kernel
theorem dX0_join_106 : decode cX0_join 106 = .ok (.lneg, 1) := by decide +kernel
theorem dX0_join_107 : decode cX0_join 107 = .ok (.lload 11, 2) := by decide +kernel
theorem dX0_join_109 : decode cX0_join 109 = .ok (.lmul, 1) := by decide +kernel
theorem dX0_join_110 : decode cX0_join 110 = .ok (.goto 8, 3) := by decide +kernel
theorem dX0_join_113 : decode cX0_join 113 = .ok (.lload 5, 2) := by decide +kernel
theorem dX0_join_115 : decode cX0_join 115 = .ok (.lload 11, 2) := by decide +kernel
theorem dX0_join_117 : decode cX0_join 117 = .ok (.lmul, 1) := by decide +kernel
theorem dX0_join_118 : decode cX0_join 118 = .ok (.lastore, 1) := by decide +kernel
theorem dX0_join_119 : decode cX0_join 119 = .ok (.aload_n 0, 1) := by decide +kernel
theorem dX0_join_120 : decode cX0_join 120 = .ok (.getfield 15, 3) := by decide +kernel
theorem dX0_join_123 : decode cX0_join 123 = .ok (.iload_n 1, 1) := by decide +kernel
theorem dX0_join_124 : decode cX0_join 124 = .ok (.lload 7, 2) := by decide +kernel
theorem dX0_join_126 : decode cX0_join 126 = .ok (.lload 9, 2) := by decide +kernel
theorem dX0_join_128 : decode cX0_join 128 = .ok (.invokestatic 53, 3) := by decide +kernel
theorem dX0_join_131 : decode cX0_join 131 = .ok (.lmul, 1) := by decide +kernel
theorem dX0_join_132 : decode cX0_join 132 = .ok (.lastore, 1) := by decide +kernel
theorem dX0_join_133 : decode cX0_join 133 = .ok (.return_, 1) := by decide +kernel
theorem dX0_join_134 : decode cX0_join 134 = .ok (.aload_n 0, 1) := by decide +kernel
theorem dX0_join_135 : decode cX0_join 135 = .ok (.getfield 15, 3) := by decide +kernel
theorem dX0_join_138 : decode cX0_join 138 = .ok (.iload_n 1, 1) := by decide +kernel
theorem dX0_join_139 : decode cX0_join 139 = .ok (.lload 7, 2) := by decide +kernel
theorem dX0_join_141 : decode cX0_join 141 = .ok (.lload 11, 2) := by decide +kernel
theorem dX0_join_143 : decode cX0_join 143 = .ok (.lmul, 1) := by decide +kernel
theorem dX0_join_144 : decode cX0_join 144 = .ok (.lastore, 1) := by decide +kernel
theorem dX0_join_145 : decode cX0_join 145 = .ok (.iload_n 2, 1) := by decide +kernel
theorem dX0_join_146 : decode cX0_join 146 = .ok (.bipush 42, 2) := by decide +kernel
theorem dX0_join_148 : decode cX0_join 148 = .ok (.if_icmp .ne 17, 3) := by decide +kernel
theorem dX0_join_151 : decode cX0_join 151 = .ok (.aload_n 0, 1) := by decide +kernel
theorem dX0_join_152 : decode cX0_join 152 = .ok (.getfield 9, 3) := by decide +kernel
theorem dX0_join_155 : decode cX0_join 155 = .ok (.iload_n 1, 1) := by decide +kernel
theorem dX0_join_156 : decode cX0_join 156 = .ok (.lload 5, 2) := by decide +kernel
theorem dX0_join_158 : decode cX0_join 158 = .ok (.lload 9, 2) := by decide +kernel
theorem dX0_join_160 : decode cX0_join 160 = .ok (.lmul, 1) := by decide +kernel
theorem dX0_join_161 : decode cX0_join 161 = .ok (.lastore, 1) := by decide +kernel
theorem dX0_join_162 : decode cX0_join 162 = .ok (.goto 46, 3) := by decide +kernel
theorem dX0_join_165 : decode cX0_join 165 = .ok (.iload_n 2, 1) := by decide +kernel
theorem dX0_join_166 : decode cX0_join 166 = .ok (.bipush 43, 2) := by decide +kernel
theorem dX0_join_168 : decode cX0_join 168 = .ok (.if_icmp .ne 23, 3) := by decide +kernel
theorem dX0_join_171 : decode cX0_join 171 = .ok (.aload_n 0, 1) := by decide +kernel
theorem dX0_join_172 : decode cX0_join 172 = .ok (.getfield 9, 3) := by decide +kernel
theorem dX0_join_175 : decode cX0_join 175 = .ok (.iload_n 1, 1) := by decide +kernel
theorem dX0_join_176 : decode cX0_join 176 = .ok (.lload 5, 2) := by decide +kernel
theorem dX0_join_178 : decode cX0_join 178 = .ok (.lload 11, 2) := by decide +kernel
theorem dX0_join_180 : decode cX0_join 180 = .ok (.lmul, 1) := by decide +kernel
theorem dX0_join_181 : decode cX0_join 181 = .ok (.lload 9, 2) := by decide +kernel
theorem dX0_join_183 : decode cX0_join 183 = .ok (.lload 7, 2) := by decide +kernel
theorem dX0_join_185 : decode cX0_join 185 = .ok (.lmul, 1) := by decide +kernel
theorem dX0_join_186 : decode cX0_join 186 = .ok (.ladd, 1) := by decide +kernel
theorem dX0_join_187 : decode cX0_join 187 = .ok (.lastore, 1) := by decide +kernel
theorem dX0_join_188 : decode cX0_join 188 = .ok (.goto 20, 3) := by decide +kernel
theorem dX0_join_191 : decode cX0_join 191 = .ok (.aload_n 0, 1) := by decide +kernel
theorem dX0_join_192 : decode cX0_join 192 = .ok (.getfield 9, 3) := by decide +kernel
theorem dX0_join_195 : decode cX0_join 195 = .ok (.iload_n 1, 1) := by decide +kernel
theorem dX0_join_196 : decode cX0_join 196 = .ok (.lload 5, 2) := by decide +kernel
theorem dX0_join_198 : decode cX0_join 198 = .ok (.lload 11, 2) := by decide +kernel
theorem dX0_join_200 : decode cX0_join 200 = .ok (.lmul, 1) := by decide +kernel
theorem dX0_join_201 : decode cX0_join 201 = .ok (.lload 9, 2) := by decide +kernel
theorem dX0_join_203 : decode cX0_join 203 = .ok (.lload 7, 2) := by decide +kernel
theorem dX0_join_205 : decode cX0_join 205 = .ok (.lmul, 1) := by decide +kernel
theorem dX0_join_206 : decode cX0_join 206 = .ok (.lsub, 1) := by decide +kernel
theorem dX0_join_207 : decode cX0_join 207 = .ok (.lastore, 1) := by decide +kernel
theorem dX0_join_208 : decode cX0_join 208 = .ok (.return_, 1) := by decide +kernel
set_option maxRecDepth 10000 in
theorem NX0_join_0 {d : Nat} {S : fW} {h : fH} {Q : fH → Prop} {r0 : Nat} {x1 : Int32} {x2 : Int32} {x3 : Int32} {r0_uppers r0_lowers : Nat}  
    (hs1 : (r0, shX0 r0_uppers r0_lowers) ∈ S)
    (hs2 : (r0_uppers, shJ 13) ∈ S)
    (hs3 : (r0_lowers, shJ 13) ∈ S)
    (w : vp_in x1 13 ∧ ∀ g_1 : fH, g_1 = u_al h r0_uppers (vp_updL (h.2.2.2 r0_uppers) x1.toNatClampNeg (0 : Int64)) → ∀ g_2 : fH, g_2 = u_al g_1 r0_lowers (vp_updL (g_1.2.2.2 r0_lowers) x1.toNatClampNeg (0 : Int64)) → (((13 : Int32) ≤ (x1 + (1 : Int32)) → Q g_2) ∧ (¬ (13 : Int32) ≤ (x1 + (1 : Int32)) → ((x3 < 0 → Q g_2) ∧ (¬ x3 < 0 → ((x3 < (13 : Int32) → vp_in (x1 + (1 : Int32)) 13 ∧ vp_in x3 13 ∧ (((g_2.2.2.2 r0_lowers (x1 + (1 : Int32)).toNatClampNeg) = (0 : Int64) → Q g_2) ∧ (¬ (g_2.2.2.2 r0_lowers (x1 + (1 : Int32)).toNatClampNeg) = (0 : Int64) → ((¬ (g_2.2.2.2 r0_lowers x3.toNatClampNeg) = (0 : Int64) → ((¬ x2 = (47 : Int32) → ∀ g_3 : fH, g_3 = u_al g_2 r0_lowers (vp_updL (g_2.2.2.2 r0_lowers) x1.toNatClampNeg ((g_2.2.2.2 r0_lowers (x1 + (1 : Int32)).toNatClampNeg) * (g_2.2.2.2 r0_lowers x3.toNatClampNeg))) → ((¬ x2 = (42 : Int32) → ((¬ x2 = (43 : Int32) → ∀ g_4 : fH, g_4 = u_al g_3 r0_uppers (vp_updL (g_3.2.2.2 r0_uppers) x1.toNatClampNeg (((g_2.2.2.2 r0_uppers (x1 + (1 : Int32)).toNatClampNeg) * (g_2.2.2.2 r0_lowers x3.toNatClampNeg)) - ((g_2.2.2.2 r0_uppers x3.toNatClampNeg) * (g_2.2.2.2 r0_lowers (x1 + (1 : Int32)).toNatClampNeg)))) → Q g_4) ∧ (x2 = (43 : Int32) → ∀ g_5 : fH, g_5 = u_al g_3 r0_uppers (vp_updL (g_3.2.2.2 r0_uppers) x1.toNatClampNeg (((g_2.2.2.2 r0_uppers (x1 + (1 : Int32)).toNatClampNeg) * (g_2.2.2.2 r0_lowers x3.toNatClampNeg)) + ((g_2.2.2.2 r0_uppers x3.toNatClampNeg) * (g_2.2.2.2 r0_lowers (x1 + (1 : Int32)).toNatClampNeg)))) → Q g_5))) ∧ (x2 = (42 : Int32) → ∀ g_6 : fH, g_6 = u_al g_3 r0_uppers (vp_updL (g_3.2.2.2 r0_uppers) x1.toNatClampNeg ((g_2.2.2.2 r0_uppers (x1 + (1 : Int32)).toNatClampNeg) * (g_2.2.2.2 r0_uppers x3.toNatClampNeg))) → Q g_6))) ∧ (x2 = (47 : Int32) → (((0 : Int64) ≤ (g_2.2.2.2 r0_uppers x3.toNatClampNeg) → ∀ g_7 : fH, g_7 = u_al g_2 r0_uppers (vp_updL (g_2.2.2.2 r0_uppers) x1.toNatClampNeg ((g_2.2.2.2 r0_uppers (x1 + (1 : Int32)).toNatClampNeg) * (g_2.2.2.2 r0_lowers x3.toNatClampNeg))) → ∀ g_8 : fH, g_8 = u_al g_7 r0_lowers (vp_updL (g_7.2.2.2 r0_lowers) x1.toNatClampNeg ((g_2.2.2.2 r0_lowers (x1 + (1 : Int32)).toNatClampNeg) * (if 0 < (g_2.2.2.2 r0_uppers x3.toNatClampNeg) then g_2.2.2.2 r0_uppers x3.toNatClampNeg else -(g_2.2.2.2 r0_uppers x3.toNatClampNeg)))) → Q g_8) ∧ (¬ (0 : Int64) ≤ (g_2.2.2.2 r0_uppers x3.toNatClampNeg) → ∀ g_9 : fH, g_9 = u_al g_2 r0_uppers (vp_updL (g_2.2.2.2 r0_uppers) x1.toNatClampNeg ((-(g_2.2.2.2 r0_uppers (x1 + (1 : Int32)).toNatClampNeg)) * (g_2.2.2.2 r0_lowers x3.toNatClampNeg))) → ∀ g_10 : fH, g_10 = u_al g_9 r0_lowers (vp_updL (g_9.2.2.2 r0_lowers) x1.toNatClampNeg ((g_2.2.2.2 r0_lowers (x1 + (1 : Int32)).toNatClampNeg) * (if 0 < (g_2.2.2.2 r0_uppers x3.toNatClampNeg) then g_2.2.2.2 r0_uppers x3.toNatClampNeg else -(g_2.2.2.2 r0_uppers x3.toNatClampNeg)))) → Q g_10))))) ∧ ((g_2.2.2.2 r0_lowers x3.toNatClampNeg) = (0 : Int64) → Q g_2))))) ∧ (¬ x3 < (13 : Int32) → Q g_2))))))) :
    OkV (d + 1) mX0_join S [.ref r0, .int x1, .int x2, .int x3] h Q := by
  refine Ok.of (by decide) (Nat.le_of_ble_eq_true rfl) ?_
  refine G_iload_n 1 rfl dX0_join_0 rfl ?_
  refine G_iconst (v := 1) dX0_join_1 (by decide) ?_
  refine G_iadd dX0_join_2 ?_
  refine G_istore dX0_join_3 (by decide) (lv' := [(4, .int (x1 + (1 : Int32))), (0, .ref r0), (1, .int x1), (2, .int x2), (3, .int x3)]) rfl ?_
  refine G_aload_n 1 rfl dX0_join_5 rfl ?_
  refine G_getr (j := r0_uppers) (k := 0) hs1 (q := (RX0, TX0, 2)) rfl inX0 (by decide) rfl hF_X0_9 dX0_join_6 ?_
  refine G_iload_n 2 rfl dX0_join_9 rfl ?_
  refine G_lconst (v := 0) dX0_join_10 (by decide) ?_
  obtain ⟨sd1, w⟩ := w
  refine G_last hs2 sd1 dX0_join_11 ?_
  refine G_nm (fun g_1 e_1 => ?_)
  have w := w g_1 e_1
  refine G_aload_n 1 rfl dX0_join_12 rfl ?_
  refine G_getr (j := r0_lowers) (k := 1) hs1 (q := (RX0, TX0, 2)) rfl inX0 (by decide) rfl hF_X0_15 dX0_join_13 ?_
  refine G_iload_n 2 rfl dX0_join_16 rfl ?_
  refine G_lconst (v := 0) dX0_join_17 (by decide) ?_
  refine G_last hs3 sd1 dX0_join_18 ?_
  refine G_nm (fun g_2 e_2 => ?_)
  have w := w g_2 e_2
  refine G_iload 0 rfl dX0_join_19 ?_
  refine G_bipush (v := 13) dX0_join_21 (by decide) ?_
  refine G_icmp_ge (tgt := 36) dX0_join_23 (by decide) (fun c1 => ?_) (fun c1 => ?_)
  · have w := w.1 c1
    exact G_vret rfl dX0_join_36 ⟨rfl, w⟩
  · have w := w.2 c1
    refine G_iload_n 4 rfl dX0_join_26 rfl ?_
    refine G_if_lt (tgt := 36) dX0_join_27 (by decide) (fun c2 => ?_) (fun c2 => ?_)
    · have w := w.1 c2
      exact G_vret rfl dX0_join_36 ⟨rfl, w⟩
    · have w := w.2 c2
      refine G_iload_n 4 rfl dX0_join_30 rfl ?_
      refine G_bipush (v := 13) dX0_join_31 (by decide) ?_
      refine G_icmp_lt (tgt := 37) dX0_join_33 (by decide) (fun c3 => ?_) (fun c3 => ?_)
      · have w := w.1 c3
        refine G_aload_n 1 rfl dX0_join_37 rfl ?_
        refine G_getr (j := r0_uppers) (k := 0) hs1 (q := (RX0, TX0, 2)) rfl inX0 (by decide) rfl hF_X0_9 dX0_join_38 ?_
        refine G_iload 0 rfl dX0_join_41 ?_
        obtain ⟨sd2, w⟩ := w
        refine G_lald hs2 sd2 dX0_join_43 ?_
        refine G_lstore dX0_join_44 (by decide) (lv' := [(5, .long (g_2.2.2.2 r0_uppers (x1 + (1 : Int32)).toNatClampNeg)), (4, .int (x1 + (1 : Int32))), (0, .ref r0), (1, .int x1), (2, .int x2), (3, .int x3)]) rfl ?_
        refine G_aload_n 2 rfl dX0_join_46 rfl ?_
        refine G_getr (j := r0_lowers) (k := 1) hs1 (q := (RX0, TX0, 2)) rfl inX0 (by decide) rfl hF_X0_15 dX0_join_47 ?_
        refine G_iload 1 rfl dX0_join_50 ?_
        refine G_lald hs3 sd2 dX0_join_52 ?_
        refine G_lstore dX0_join_53 (by decide) (lv' := [(7, .long (g_2.2.2.2 r0_lowers (x1 + (1 : Int32)).toNatClampNeg)), (5, .long (g_2.2.2.2 r0_uppers (x1 + (1 : Int32)).toNatClampNeg)), (4, .int (x1 + (1 : Int32))), (0, .ref r0), (1, .int x1), (2, .int x2), (3, .int x3)]) rfl ?_
        refine G_aload_n 3 rfl dX0_join_55 rfl ?_
        refine G_getr (j := r0_uppers) (k := 0) hs1 (q := (RX0, TX0, 2)) rfl inX0 (by decide) rfl hF_X0_9 dX0_join_56 ?_
        refine G_iload_n 6 rfl dX0_join_59 rfl ?_
        obtain ⟨sd3, w⟩ := w
        refine G_lald hs2 sd3 dX0_join_60 ?_
        refine G_lstore dX0_join_61 (by decide) (lv' := [(9, .long (g_2.2.2.2 r0_uppers x3.toNatClampNeg)), (7, .long (g_2.2.2.2 r0_lowers (x1 + (1 : Int32)).toNatClampNeg)), (5, .long (g_2.2.2.2 r0_uppers (x1 + (1 : Int32)).toNatClampNeg)), (4, .int (x1 + (1 : Int32))), (0, .ref r0), (1, .int x1), (2, .int x2), (3, .int x3)]) rfl ?_
        refine G_aload_n 4 rfl dX0_join_63 rfl ?_
        refine G_getr (j := r0_lowers) (k := 1) hs1 (q := (RX0, TX0, 2)) rfl inX0 (by decide) rfl hF_X0_15 dX0_join_64 ?_
        refine G_iload_n 7 rfl dX0_join_67 rfl ?_
        refine G_lald hs3 sd3 dX0_join_68 ?_
        refine G_lstore dX0_join_69 (by decide) (lv' := [(11, .long (g_2.2.2.2 r0_lowers x3.toNatClampNeg)), (9, .long (g_2.2.2.2 r0_uppers x3.toNatClampNeg)), (7, .long (g_2.2.2.2 r0_lowers (x1 + (1 : Int32)).toNatClampNeg)), (5, .long (g_2.2.2.2 r0_uppers (x1 + (1 : Int32)).toNatClampNeg)), (4, .int (x1 + (1 : Int32))), (0, .ref r0), (1, .int x1), (2, .int x2), (3, .int x3)]) rfl ?_
        refine G_lload 2 rfl dX0_join_71 ?_
        refine G_lconst (v := 0) dX0_join_73 (by decide) ?_
        refine G_lif_eq (tgt := 85) dX0_join_74 dX0_join_75 (by decide) (fun c4 => ?_) (fun c4 => ?_)
        · have w := w.1 c4
          exact G_vret rfl dX0_join_85 ⟨rfl, w⟩
        · have w := w.2 c4
          refine G_lload 0 rfl dX0_join_78 ?_
          refine G_lconst (v := 0) dX0_join_80 (by decide) ?_
          refine G_lif_ne (tgt := 86) dX0_join_81 dX0_join_82 (by decide) (fun c5 => ?_) (fun c5 => ?_)
          · have w := w.1 c5
            refine G_iload_n 7 rfl dX0_join_86 rfl ?_
            refine G_bipush (v := 47) dX0_join_87 (by decide) ?_
            refine G_icmp_ne (tgt := 134) dX0_join_89 (by decide) (fun c6 => ?_) (fun c6 => ?_)
            · have w := w.1 c6
              refine G_aload_n 5 rfl dX0_join_134 rfl ?_
              refine G_getr (j := r0_lowers) (k := 1) hs1 (q := (RX0, TX0, 2)) rfl inX0 (by decide) rfl hF_X0_15 dX0_join_135 ?_
              refine G_iload_n 6 rfl dX0_join_138 rfl ?_
              refine G_lload 2 rfl dX0_join_139 ?_
              refine G_lload 0 rfl dX0_join_141 ?_
              refine G_lmul dX0_join_143 ?_
              refine G_last hs3 sd1 dX0_join_144 ?_
              refine G_nm (fun g_3 e_3 => ?_)
              have w := w g_3 e_3
              refine G_iload_n 7 rfl dX0_join_145 rfl ?_
              refine G_bipush (v := 42) dX0_join_146 (by decide) ?_
              refine G_icmp_ne (tgt := 165) dX0_join_148 (by decide) (fun c7 => ?_) (fun c7 => ?_)
              · have w := w.1 c7
                refine G_iload_n 7 rfl dX0_join_165 rfl ?_
                refine G_bipush (v := 43) dX0_join_166 (by decide) ?_
                refine G_icmp_ne (tgt := 191) dX0_join_168 (by decide) (fun c8 => ?_) (fun c8 => ?_)
                · have w := w.1 c8
                  refine G_aload_n 5 rfl dX0_join_191 rfl ?_
                  refine G_getr (j := r0_uppers) (k := 0) hs1 (q := (RX0, TX0, 2)) rfl inX0 (by decide) rfl hF_X0_9 dX0_join_192 ?_
                  refine G_iload_n 6 rfl dX0_join_195 rfl ?_
                  refine G_lload 3 rfl dX0_join_196 ?_
                  refine G_lload 0 rfl dX0_join_198 ?_
                  refine G_lmul dX0_join_200 ?_
                  refine G_lload 1 rfl dX0_join_201 ?_
                  refine G_lload 2 rfl dX0_join_203 ?_
                  refine G_lmul dX0_join_205 ?_
                  refine G_lsub dX0_join_206 ?_
                  refine G_last hs2 sd1 dX0_join_207 ?_
                  refine G_nm (fun g_4 e_4 => ?_)
                  have w := w g_4 e_4
                  exact G_vret rfl dX0_join_208 ⟨rfl, w⟩
                · have w := w.2 c8
                  refine G_aload_n 5 rfl dX0_join_171 rfl ?_
                  refine G_getr (j := r0_uppers) (k := 0) hs1 (q := (RX0, TX0, 2)) rfl inX0 (by decide) rfl hF_X0_9 dX0_join_172 ?_
                  refine G_iload_n 6 rfl dX0_join_175 rfl ?_
                  refine G_lload 3 rfl dX0_join_176 ?_
                  refine G_lload 0 rfl dX0_join_178 ?_
                  refine G_lmul dX0_join_180 ?_
                  refine G_lload 1 rfl dX0_join_181 ?_
                  refine G_lload 2 rfl dX0_join_183 ?_
                  refine G_lmul dX0_join_185 ?_
                  refine G_ladd dX0_join_186 ?_
                  refine G_last hs2 sd1 dX0_join_187 ?_
                  refine G_nm (fun g_5 e_5 => ?_)
                  have w := w g_5 e_5
                  refine G_goto (tgt := 208) dX0_join_188 (by decide) ?_
                  exact G_vret rfl dX0_join_208 ⟨rfl, w⟩
              · have w := w.2 c7
                refine G_aload_n 5 rfl dX0_join_151 rfl ?_
                refine G_getr (j := r0_uppers) (k := 0) hs1 (q := (RX0, TX0, 2)) rfl inX0 (by decide) rfl hF_X0_9 dX0_join_152 ?_
                refine G_iload_n 6 rfl dX0_join_155 rfl ?_
                refine G_lload 3 rfl dX0_join_156 ?_
                refine G_lload 1 rfl dX0_join_158 ?_
                refine G_lmul dX0_join_160 ?_
                refine G_last hs2 sd1 dX0_join_161 ?_
                refine G_nm (fun g_6 e_6 => ?_)
                have w := w g_6 e_6
                refine G_goto (tgt := 208) dX0_join_162 (by decide) ?_
                exact G_vret rfl dX0_join_208 ⟨rfl, w⟩
            · have w := w.2 c6
              refine G_aload_n 5 rfl dX0_join_92 rfl ?_
              refine G_getr (j := r0_uppers) (k := 0) hs1 (q := (RX0, TX0, 2)) rfl inX0 (by decide) rfl hF_X0_9 dX0_join_93 ?_
              refine G_iload_n 6 rfl dX0_join_96 rfl ?_
              refine G_lload 1 rfl dX0_join_97 ?_
              refine G_lconst (v := 0) dX0_join_99 (by decide) ?_
              refine G_lif_ge (tgt := 113) dX0_join_100 dX0_join_101 (by decide) (fun c7 => ?_) (fun c7 => ?_)
              · have w := w.1 c7
                refine G_lload 3 rfl dX0_join_113 ?_
                refine G_lload 0 rfl dX0_join_115 ?_
                refine G_lmul dX0_join_117 ?_
                refine G_last hs2 sd1 dX0_join_118 ?_
                refine G_nm (fun g_7 e_7 => ?_)
                have w := w g_7 e_7
                refine G_aload_n 5 rfl dX0_join_119 rfl ?_
                refine G_getr (j := r0_lowers) (k := 1) hs1 (q := (RX0, TX0, 2)) rfl inX0 (by decide) rfl hF_X0_15 dX0_join_120 ?_
                refine G_iload_n 6 rfl dX0_join_123 rfl ?_
                refine G_lload 2 rfl dX0_join_124 ?_
                refine G_lload 1 rfl dX0_join_126 ?_
                refine G_mabs hL_X0_53 (Nat.le_of_ble_eq_true rfl) dX0_join_128 ?_
                refine G_lmul dX0_join_131 ?_
                refine G_last hs3 sd1 dX0_join_132 ?_
                refine G_nm (fun g_8 e_8 => ?_)
                have w := w g_8 e_8
                exact G_vret rfl dX0_join_133 ⟨rfl, w⟩
              · have w := w.2 c7
                refine G_lload 3 rfl dX0_join_104 ?_
                refine G_lneg dX0_join_106 ?_
                refine G_lload 0 rfl dX0_join_107 ?_
                refine G_lmul dX0_join_109 ?_
                refine G_goto (tgt := 118) dX0_join_110 (by decide) ?_
                refine G_last hs2 sd1 dX0_join_118 ?_
                refine G_nm (fun g_9 e_9 => ?_)
                have w := w g_9 e_9
                refine G_aload_n 5 rfl dX0_join_119 rfl ?_
                refine G_getr (j := r0_lowers) (k := 1) hs1 (q := (RX0, TX0, 2)) rfl inX0 (by decide) rfl hF_X0_15 dX0_join_120 ?_
                refine G_iload_n 6 rfl dX0_join_123 rfl ?_
                refine G_lload 2 rfl dX0_join_124 ?_
                refine G_lload 1 rfl dX0_join_126 ?_
                refine G_mabs hL_X0_53 (Nat.le_of_ble_eq_true rfl) dX0_join_128 ?_
                refine G_lmul dX0_join_131 ?_
                refine G_last hs3 sd1 dX0_join_132 ?_
                refine G_nm (fun g_10 e_10 => ?_)
                have w := w g_10 e_10
                exact G_vret rfl dX0_join_133 ⟨rfl, w⟩
          · have w := w.2 c5
            exact G_vret rfl dX0_join_85 ⟨rfl, w⟩
      · have w := w.2 c3
        exact G_vret rfl dX0_join_36 ⟨rfl, w⟩
-- LostDigits$Fractions.billionths
theorem dX0_billionths_0 : decode cX0_billionths 0 = .ok (.iload_n 1, 1) := by decide +kernel
theorem dX0_billionths_1 : decode cX0_billionths 1 = .ok (.ifCond .lt 20, 3) := by decide +kernel
theorem dX0_billionths_4 : decode cX0_billionths 4 = .ok (.iload_n 1, 1) := by decide +kernel
theorem dX0_billionths_5 : decode cX0_billionths 5 = .ok (.bipush 13, 2) := by decide +kernel
theorem dX0_billionths_7 : decode cX0_billionths 7 = .ok (.if_icmp .ge 14, 3) := by decide +kernel
theorem dX0_billionths_10 : decode cX0_billionths 10 = .ok (.aload_n 0, 1) := by decide +kernel
theorem dX0_billionths_11 : decode cX0_billionths 11 = .ok (.getfield 15, 3) := by decide +kernel
theorem dX0_billionths_14 : decode cX0_billionths 14 = .ok (.iload_n 1, 1) := by decide +kernel
theorem dX0_billionths_15 : decode cX0_billionths 15 = .ok (.laload, 1) := by decide +kernel
theorem dX0_billionths_16 : decode cX0_billionths 16 = .ok (.lconst 0, 1) := by decide +kernel
theorem dX0_billionths_17 : decode cX0_billionths 17 = .ok (.lcmp, 1) := by decide +kernel
theorem dX0_billionths_18 : decode cX0_billionths 18 = .ok (.ifCond .gt 7, 3) := by decide +kernel
theorem dX0_billionths_21 : decode cX0_billionths 21 = .ok (.ldc2_w 57, 3) := by decide +kernel
theorem dX0_billionths_24 : decode cX0_billionths 24 = .ok (.lreturn, 1) := by decide +kernel
theorem dX0_billionths_25 : decode cX0_billionths 25 = .ok (.aload_n 0, 1) := by decide +kernel
theorem dX0_billionths_26 : decode cX0_billionths 26 = .ok (.getfield 15, 3) := by decide +kernel
theorem dX0_billionths_29 : decode cX0_billionths 29 = .ok (.iload_n 1, 1) := by decide +kernel
theorem dX0_billionths_30 : decode cX0_billionths 30 = .ok (.laload, 1) := by decide +kernel
theorem dX0_billionths_31 : decode cX0_billionths 31 = .ok (.lstore_n 3, 1) := by decide +kernel
theorem dX0_billionths_32 : decode cX0_billionths 32 = .ok (.aload_n 0, 1) := by decide +kernel
theorem dX0_billionths_33 : decode cX0_billionths 33 = .ok (.getfield 9, 3) := by decide +kernel
theorem dX0_billionths_36 : decode cX0_billionths 36 = .ok (.iload_n 1, 1) := by decide +kernel
theorem dX0_billionths_37 : decode cX0_billionths 37 = .ok (.laload, 1) := by decide +kernel
theorem dX0_billionths_38 : decode cX0_billionths 38 = .ok (.lconst 0, 1) := by decide +kernel
theorem dX0_billionths_39 : decode cX0_billionths 39 = .ok (.lcmp, 1) := by decide +kernel
theorem dX0_billionths_40 : decode cX0_billionths 40 = .ok (.ifCond .ge 7, 3) := by decide +kernel
theorem dX0_billionths_43 : decode cX0_billionths 43 = .ok (.iconst 1, 1) := by decide +kernel
theorem dX0_billionths_44 : decode cX0_billionths 44 = .ok (.goto 4, 3) := by decide +kernel
theorem dX0_billionths_47 : decode cX0_billionths 47 = .ok (.iconst 0, 1) := by decide +kernel
theorem dX0_billionths_48 : decode cX0_billionths 48 = .ok (.istore 5, 2) := by decide +kernel
theorem dX0_billionths_50 : decode cX0_billionths 50 = .ok (.aload_n 0, 1) := by decide +kernel
theorem dX0_billionths_51 : decode cX0_billionths 51 = .ok (.getfield 9, 3) := by decide +kernel
theorem dX0_billionths_54 : decode cX0_billionths 54 = .ok (.iload_n 1, 1) := by decide +kernel
theorem dX0_billionths_55 : decode cX0_billionths 55 = .ok (.laload, 1) := by decide +kernel
theorem dX0_billionths_56 : decode cX0_billionths 56 = .ok (.invokestatic 53, 3) := by decide +kernel
theorem dX0_billionths_59 : decode cX0_billionths 59 = .ok (.lstore 6, 2) := by decide +kernel
theorem dX0_billionths_61 : decode cX0_billionths 61 = .ok (.lload 6, 2) := by decide +kernel
theorem dX0_billionths_63 : decode cX0_billionths 63 = .ok (.lload_n 3, 1) := by decide +kernel
theorem dX0_billionths_64 : decode cX0_billionths 64 = .ok (.ldiv, 1) := by decide +kernel
theorem dX0_billionths_65 : decode cX0_billionths 65 = .ok (.lstore 8, 2) := by decide +kernel
theorem dX0_billionths_67 : decode cX0_billionths 67 = .ok (.lload 6, 2) := by decide +kernel
theorem dX0_billionths_69 : decode cX0_billionths 69 = .ok (.lload_n 3, 1) := by decide +kernel
theorem dX0_billionths_70 : decode cX0_billionths 70 = .ok (.lrem, 1) := by decide +kernel
theorem dX0_billionths_71 : decode cX0_billionths 71 = .ok (.lstore 10, 2) := by decide +kernel
theorem dX0_billionths_73 : decode cX0_billionths 73 = .ok (.lload 8, 2) := by decide +kernel
theorem dX0_billionths_75 : decode cX0_billionths 75 = .ok (.ldc2_w 59, 3) := by decide +kernel
theorem dX0_billionths_78 : decode cX0_billionths 78 = .ok (.lcmp, 1) := by decide +kernel
theorem dX0_billionths_79 : decode cX0_billionths 79 = .ok (.ifCond .lt 7, 3) := by decide +kernel
theorem dX0_billionths_82 : decode cX0_billionths 82 = .ok (.ldc2_w 57, 3) := by decide +kernel
theorem dX0_billionths_85 : decode cX0_billionths 85 = .ok (.lreturn, 1) := by decide +kernel
theorem dX0_billionths_86 : decode cX0_billionths 86 = .ok (.iconst 0, 1) := by decide +kernel
theorem dX0_billionths_87 : decode cX0_billionths 87 = .ok (.istore 12, 2) := by decide +kernel
theorem dX0_billionths_89 : decode cX0_billionths 89 = .ok (.iload 12, 2) := by decide +kernel
theorem dX0_billionths_91 : decode cX0_billionths 91 = .ok (.iconst 3, 1) := by decide +kernel
theorem dX0_billionths_92 : decode cX0_billionths 92 = .ok (.if_icmp .ge 36, 3) := by decide +kernel
theorem dX0_billionths_95 : decode cX0_billionths 95 = .ok (.lload 10, 2) := by decide +kernel
theorem dX0_billionths_97 : decode cX0_billionths 97 = .ok (.ldc2_w 61, 3) := by decide +kernel
theorem dX0_billionths_100 : decode cX0_billionths 100 = .ok (.lmul, 1) := by decide +kernel
theorem dX0_billionths_101 : decode cX0_billionths 101 = .ok (.lstore 10, 2) := by decide +kernel
theorem dX0_billionths_103 : decode cX0_billionths 103 = .ok (.lload 8, 2) := by decide +kernel
theorem dX0_billionths_105 : decode cX0_billionths 105 = .ok (.ldc2_w 61, 3) := by decide +kernel
theorem dX0_billionths_108 : decode cX0_billionths 108 = .ok (.lmul, 1) := by decide +kernel
theorem dX0_billionths_109 : decode cX0_billionths 109 = .ok (.lload 10, 2) := by decide +kernel
theorem dX0_billionths_111 : decode cX0_billionths 111 = .ok (.lload_n 3, 1) := by decide +kernel
theorem dX0_billionths_112 : decode cX0_billionths 112 = .ok (.ldiv, 1) := by decide +kernel
theorem dX0_billionths_113 : decode cX0_billionths 113 = .ok (.ladd, 1) := by decide +kernel
theorem dX0_billionths_114 : decode cX0_billionths 114 = .ok (.lstore 8, 2) := by decide +kernel
theorem dX0_billionths_116 : decode cX0_billionths 116 = .ok (.lload 10, 2) := by decide +kernel
theorem dX0_billionths_118 : decode cX0_billionths 118 = .ok (.lload_n 3, 1) := by decide +kernel
theorem dX0_billionths_119 : decode cX0_billionths 119 = .ok (.lrem, 1) := by decide +kernel
theorem dX0_billionths_120 : decode cX0_billionths 120 = .ok (.lstore 10, 2) := by decide +kernel
theorem dX0_billionths_122 : decode cX0_billionths 122 = .ok (.iinc 12 1, 3) := by decide +kernel
theorem dX0_billionths_125 : decode cX0_billionths 125 = .ok (.goto (-36), 3) := by decide +kernel
theorem dX0_billionths_128 : decode cX0_billionths 128 = .ok (.lload 10, 2) := by decide +kernel
theorem dX0_billionths_130 : decode cX0_billionths 130 = .ok (.lconst 0, 1) := by decide +kernel
theorem dX0_billionths_131 : decode cX0_billionths 131 = .ok (.lcmp, 1) := by decide +kernel
theorem dX0_billionths_132 : decode cX0_billionths 132 = .ok (.ifCond .eq 23, 3) := by decide +kernel
theorem dX0_billionths_135 : decode cX0_billionths 135 = .ok (.iload_n 2, 1) := by decide +kernel
theorem dX0_billionths_136 : decode cX0_billionths 136 = .ok (.iload 5, 2) := by decide +kernel
theorem dX0_billionths_138 : decode cX0_billionths 138 = .ok (.ifCond .eq 7, 3) := by decide +kernel
theorem dX0_billionths_141 : decode cX0_billionths 141 = .ok (.iconst (-1), 1) := by decide +kernel
theorem dX0_billionths_142 : decode cX0_billionths 142 = .ok (.goto 4, 3) := by decide +kernel
theorem dX0_billionths_145 : decode cX0_billionths 145 = .ok (.iconst 1, 1) := by decide +kernel
theorem dX0_billionths_146 : decode cX0_billionths 146 = .ok (.if_icmp .ne 9, 3) := by decide +kernel
theorem dX0_billionths_149 : decode cX0_billionths 149 = .ok (.lload 8, 2) := by decide +kernel
theorem dX0_billionths_151 : decode cX0_billionths 151 = .ok (.lconst 1, 1) := by decide +kernel
theorem dX0_billionths_152 : decode cX0_billionths 152 = .ok (.ladd, 1) := by decide +kernel
theorem dX0_billionths_153 : decode cX0_billionths 153 = .ok (.lstore 8, 2) := by decide +kernel
theorem dX0_billionths_155 : decode cX0_billionths 155 = .ok (.iload 5, 2) := by decide +kernel
theorem dX0_billionths_157 : decode cX0_billionths 157 = .ok (.ifCond .eq 9, 3) := by decide +kernel
theorem dX0_billionths_160 : decode cX0_billionths 160 = .ok (.lload 8, 2) := by decide +kernel
theorem dX0_billionths_162 : decode cX0_billionths 162 = .ok (.lneg, 1) := by decide +kernel
theorem dX0_billionths_163 : decode cX0_billionths 163 = .ok (.goto 5, 3) := by decide +kernel
theorem dX0_billionths_166 : decode cX0_billionths 166 = .ok (.lload 8, 2) := by decide +kernel
theorem dX0_billionths_168 : decode cX0_billionths 168 = .ok (.lreturn, 1) := by decide +kernel
set_option maxRecDepth 10000 in
theorem NX0_billionths_0 {d : Nat} {S : fW} {h : fH} {Q : Int64 → fH → Prop} {r0 : Nat} {x1 : Int32} {x2 : Int32} {r0_uppers r0_lowers : Nat}  
    (hs1 : (r0, shX0 r0_uppers r0_lowers) ∈ S)
    (hs2 : (r0_lowers, shJ 13) ∈ S)
    (hs3 : (r0_uppers, shJ 13) ∈ S)
    (w : ((x1 < 0 → Q (1000000000000000000 : Int64) h) ∧ (¬ x1 < 0 → (((13 : Int32) ≤ x1 → Q (1000000000000000000 : Int64) h) ∧ (¬ (13 : Int32) ≤ x1 → vp_in x1 13 ∧ (((0 : Int64) < (h.2.2.2 r0_lowers x1.toNatClampNeg) → (((0 : Int64) ≤ (h.2.2.2 r0_uppers x1.toNatClampNeg) → ¬ (h.2.2.2 r0_lowers x1.toNatClampNeg) = 0 ∧ ((((if 0 < (h.2.2.2 r0_uppers x1.toNatClampNeg) then h.2.2.2 r0_uppers x1.toNatClampNeg else -(h.2.2.2 r0_uppers x1.toNatClampNeg)) / (h.2.2.2 r0_lowers x1.toNatClampNeg)) < (10000000 : Int64) → G mX0_billionths (d + 1) S (f_PL Q) 89 [(2, .int x2), (3, .long (h.2.2.2 r0_lowers x1.toNatClampNeg)), (5, .int (0 : Int32)), (8, .long ((if 0 < (h.2.2.2 r0_uppers x1.toNatClampNeg) then h.2.2.2 r0_uppers x1.toNatClampNeg else -(h.2.2.2 r0_uppers x1.toNatClampNeg)) / (h.2.2.2 r0_lowers x1.toNatClampNeg))), (10, .long ((if 0 < (h.2.2.2 r0_uppers x1.toNatClampNeg) then h.2.2.2 r0_uppers x1.toNatClampNeg else -(h.2.2.2 r0_uppers x1.toNatClampNeg)) - (if 0 < (h.2.2.2 r0_uppers x1.toNatClampNeg) then h.2.2.2 r0_uppers x1.toNatClampNeg else -(h.2.2.2 r0_uppers x1.toNatClampNeg)) / (h.2.2.2 r0_lowers x1.toNatClampNeg) * (h.2.2.2 r0_lowers x1.toNatClampNeg))), (12, .int (0 : Int32))] [] h) ∧ (¬ ((if 0 < (h.2.2.2 r0_uppers x1.toNatClampNeg) then h.2.2.2 r0_uppers x1.toNatClampNeg else -(h.2.2.2 r0_uppers x1.toNatClampNeg)) / (h.2.2.2 r0_lowers x1.toNatClampNeg)) < (10000000 : Int64) → Q (1000000000000000000 : Int64) h))) ∧ (¬ (0 : Int64) ≤ (h.2.2.2 r0_uppers x1.toNatClampNeg) → ¬ (h.2.2.2 r0_lowers x1.toNatClampNeg) = 0 ∧ ((((if 0 < (h.2.2.2 r0_uppers x1.toNatClampNeg) then h.2.2.2 r0_uppers x1.toNatClampNeg else -(h.2.2.2 r0_uppers x1.toNatClampNeg)) / (h.2.2.2 r0_lowers x1.toNatClampNeg)) < (10000000 : Int64) → G mX0_billionths (d + 1) S (f_PL Q) 89 [(2, .int x2), (3, .long (h.2.2.2 r0_lowers x1.toNatClampNeg)), (5, .int (1 : Int32)), (8, .long ((if 0 < (h.2.2.2 r0_uppers x1.toNatClampNeg) then h.2.2.2 r0_uppers x1.toNatClampNeg else -(h.2.2.2 r0_uppers x1.toNatClampNeg)) / (h.2.2.2 r0_lowers x1.toNatClampNeg))), (10, .long ((if 0 < (h.2.2.2 r0_uppers x1.toNatClampNeg) then h.2.2.2 r0_uppers x1.toNatClampNeg else -(h.2.2.2 r0_uppers x1.toNatClampNeg)) - (if 0 < (h.2.2.2 r0_uppers x1.toNatClampNeg) then h.2.2.2 r0_uppers x1.toNatClampNeg else -(h.2.2.2 r0_uppers x1.toNatClampNeg)) / (h.2.2.2 r0_lowers x1.toNatClampNeg) * (h.2.2.2 r0_lowers x1.toNatClampNeg))), (12, .int (0 : Int32))] [] h) ∧ (¬ ((if 0 < (h.2.2.2 r0_uppers x1.toNatClampNeg) then h.2.2.2 r0_uppers x1.toNatClampNeg else -(h.2.2.2 r0_uppers x1.toNatClampNeg)) / (h.2.2.2 r0_lowers x1.toNatClampNeg)) < (10000000 : Int64) → Q (1000000000000000000 : Int64) h))))) ∧ (¬ (0 : Int64) < (h.2.2.2 r0_lowers x1.toNatClampNeg) → Q (1000000000000000000 : Int64) h))))))) :
    OkL (d + 1) mX0_billionths S [.ref r0, .int x1, .int x2] h Q := by
  refine Ok.of (by decide) (Nat.le_of_ble_eq_true rfl) ?_
  refine G_iload_n 1 rfl dX0_billionths_0 rfl ?_
  refine G_if_lt (tgt := 21) dX0_billionths_1 (by decide) (fun c1 => ?_) (fun c1 => ?_)
  · have w := w.1 c1
    refine G_ldc2 hK_X0_57 dX0_billionths_21 ?_
    exact G_lret rfl dX0_billionths_24 ⟨_, rfl, w⟩
  · have w := w.2 c1
    refine G_iload_n 1 rfl dX0_billionths_4 rfl ?_
    refine G_bipush (v := 13) dX0_billionths_5 (by decide) ?_
    refine G_icmp_ge (tgt := 21) dX0_billionths_7 (by decide) (fun c2 => ?_) (fun c2 => ?_)
    · have w := w.1 c2
      refine G_ldc2 hK_X0_57 dX0_billionths_21 ?_
      exact G_lret rfl dX0_billionths_24 ⟨_, rfl, w⟩
    · have w := w.2 c2
      refine G_aload_n 0 rfl dX0_billionths_10 rfl ?_
      refine G_getr (j := r0_lowers) (k := 1) hs1 (q := (RX0, TX0, 2)) rfl inX0 (by decide) rfl hF_X0_15 dX0_billionths_11 ?_
      refine G_iload_n 1 rfl dX0_billionths_14 rfl ?_
      obtain ⟨sd1, w⟩ := w
      refine G_lald hs2 sd1 dX0_billionths_15 ?_
      refine G_lconst (v := 0) dX0_billionths_16 (by decide) ?_
      refine G_lif_gt (tgt := 25) dX0_billionths_17 dX0_billionths_18 (by decide) (fun c3 => ?_) (fun c3 => ?_)
      · have w := w.1 c3
        refine G_aload_n 0 rfl dX0_billionths_25 rfl ?_
        refine G_getr (j := r0_lowers) (k := 1) hs1 (q := (RX0, TX0, 2)) rfl inX0 (by decide) rfl hF_X0_15 dX0_billionths_26 ?_
        refine G_iload_n 1 rfl dX0_billionths_29 rfl ?_
        refine G_lald hs2 sd1 dX0_billionths_30 ?_
        refine G_lstore_n dX0_billionths_31 rfl (by decide) (lv' := [(3, .long (h.2.2.2 r0_lowers x1.toNatClampNeg)), (0, .ref r0), (1, .int x1), (2, .int x2)]) rfl ?_
        refine G_aload_n 1 rfl dX0_billionths_32 rfl ?_
        refine G_getr (j := r0_uppers) (k := 0) hs1 (q := (RX0, TX0, 2)) rfl inX0 (by decide) rfl hF_X0_9 dX0_billionths_33 ?_
        refine G_iload_n 2 rfl dX0_billionths_36 rfl ?_
        refine G_lald hs3 sd1 dX0_billionths_37 ?_
        refine G_lconst (v := 0) dX0_billionths_38 (by decide) ?_
        refine G_lif_ge (tgt := 47) dX0_billionths_39 dX0_billionths_40 (by decide) (fun c4 => ?_) (fun c4 => ?_)
        · have w := w.1 c4
          refine G_iconst (v := 0) dX0_billionths_47 (by decide) ?_
          refine G_istore dX0_billionths_48 (by decide) (lv' := [(5, .int (0 : Int32)), (3, .long (h.2.2.2 r0_lowers x1.toNatClampNeg)), (0, .ref r0), (1, .int x1), (2, .int x2)]) rfl ?_
          refine G_aload_n 2 rfl dX0_billionths_50 rfl ?_
          refine G_getr (j := r0_uppers) (k := 0) hs1 (q := (RX0, TX0, 2)) rfl inX0 (by decide) rfl hF_X0_9 dX0_billionths_51 ?_
          refine G_iload_n 3 rfl dX0_billionths_54 rfl ?_
          refine G_lald hs3 sd1 dX0_billionths_55 ?_
          refine G_mabs hL_X0_53 (Nat.le_of_ble_eq_true rfl) dX0_billionths_56 ?_
          refine G_lstore dX0_billionths_59 (by decide) (lv' := [(6, .long (if 0 < (h.2.2.2 r0_uppers x1.toNatClampNeg) then h.2.2.2 r0_uppers x1.toNatClampNeg else -(h.2.2.2 r0_uppers x1.toNatClampNeg))), (5, .int (0 : Int32)), (3, .long (h.2.2.2 r0_lowers x1.toNatClampNeg)), (0, .ref r0), (1, .int x1), (2, .int x2)]) rfl ?_
          refine G_lload 0 rfl dX0_billionths_61 ?_
          refine G_lload_n 2 rfl dX0_billionths_63 rfl ?_
          obtain ⟨sd2, w⟩ := w
          refine G_ldiv dX0_billionths_64 sd2 ?_
          refine G_lstore dX0_billionths_65 (by decide) (lv' := [(8, .long ((if 0 < (h.2.2.2 r0_uppers x1.toNatClampNeg) then h.2.2.2 r0_uppers x1.toNatClampNeg else -(h.2.2.2 r0_uppers x1.toNatClampNeg)) / (h.2.2.2 r0_lowers x1.toNatClampNeg))), (6, .long (if 0 < (h.2.2.2 r0_uppers x1.toNatClampNeg) then h.2.2.2 r0_uppers x1.toNatClampNeg else -(h.2.2.2 r0_uppers x1.toNatClampNeg))), (5, .int (0 : Int32)), (3, .long (h.2.2.2 r0_lowers x1.toNatClampNeg)), (0, .ref r0), (1, .int x1), (2, .int x2)]) rfl ?_
          refine G_lload 1 rfl dX0_billionths_67 ?_
          refine G_lload_n 3 rfl dX0_billionths_69 rfl ?_
          refine G_lrem dX0_billionths_70 sd2 ?_
          refine G_lstore dX0_billionths_71 (by decide) (lv' := [(10, .long ((if 0 < (h.2.2.2 r0_uppers x1.toNatClampNeg) then h.2.2.2 r0_uppers x1.toNatClampNeg else -(h.2.2.2 r0_uppers x1.toNatClampNeg)) - (if 0 < (h.2.2.2 r0_uppers x1.toNatClampNeg) then h.2.2.2 r0_uppers x1.toNatClampNeg else -(h.2.2.2 r0_uppers x1.toNatClampNeg)) / (h.2.2.2 r0_lowers x1.toNatClampNeg) * (h.2.2.2 r0_lowers x1.toNatClampNeg))), (8, .long ((if 0 < (h.2.2.2 r0_uppers x1.toNatClampNeg) then h.2.2.2 r0_uppers x1.toNatClampNeg else -(h.2.2.2 r0_uppers x1.toNatClampNeg)) / (h.2.2.2 r0_lowers x1.toNatClampNeg))), (6, .long (if 0 < (h.2.2.2 r0_uppers x1.toNatClampNeg) then h.2.2.2 r0_uppers x1.toNatClampNeg else -(h.2.2.2 r0_uppers x1.toNatClampNeg))), (5, .int (0 : Int32)), (3, .long (h.2.2.2 r0_lowers x1.toNatClampNeg)), (0, .ref r0), (1, .int x1), (2, .int x2)]) rfl ?_
          refine G_lload 1 rfl dX0_billionths_73 ?_
          refine G_ldc2 hK_X0_59 dX0_billionths_75 ?_
          refine G_lif_lt (tgt := 86) dX0_billionths_78 dX0_billionths_79 (by decide) (fun c5 => ?_) (fun c5 => ?_)
          · have w := w.1 c5
            refine G_iconst (v := 0) dX0_billionths_86 (by decide) ?_
            refine G_istore dX0_billionths_87 (by decide) (lv' := [(12, .int (0 : Int32)), (10, .long ((if 0 < (h.2.2.2 r0_uppers x1.toNatClampNeg) then h.2.2.2 r0_uppers x1.toNatClampNeg else -(h.2.2.2 r0_uppers x1.toNatClampNeg)) - (if 0 < (h.2.2.2 r0_uppers x1.toNatClampNeg) then h.2.2.2 r0_uppers x1.toNatClampNeg else -(h.2.2.2 r0_uppers x1.toNatClampNeg)) / (h.2.2.2 r0_lowers x1.toNatClampNeg) * (h.2.2.2 r0_lowers x1.toNatClampNeg))), (8, .long ((if 0 < (h.2.2.2 r0_uppers x1.toNatClampNeg) then h.2.2.2 r0_uppers x1.toNatClampNeg else -(h.2.2.2 r0_uppers x1.toNatClampNeg)) / (h.2.2.2 r0_lowers x1.toNatClampNeg))), (6, .long (if 0 < (h.2.2.2 r0_uppers x1.toNatClampNeg) then h.2.2.2 r0_uppers x1.toNatClampNeg else -(h.2.2.2 r0_uppers x1.toNatClampNeg))), (5, .int (0 : Int32)), (3, .long (h.2.2.2 r0_lowers x1.toNatClampNeg)), (0, .ref r0), (1, .int x1), (2, .int x2)]) rfl ?_
            exact G_sub [8, 5, 4, 2, 1, 0] rfl w
          · have w := w.2 c5
            refine G_ldc2 hK_X0_57 dX0_billionths_82 ?_
            exact G_lret rfl dX0_billionths_85 ⟨_, rfl, w⟩
        · have w := w.2 c4
          refine G_iconst (v := 1) dX0_billionths_43 (by decide) ?_
          refine G_goto (tgt := 48) dX0_billionths_44 (by decide) ?_
          refine G_istore dX0_billionths_48 (by decide) (lv' := [(5, .int (1 : Int32)), (3, .long (h.2.2.2 r0_lowers x1.toNatClampNeg)), (0, .ref r0), (1, .int x1), (2, .int x2)]) rfl ?_
          refine G_aload_n 2 rfl dX0_billionths_50 rfl ?_
          refine G_getr (j := r0_uppers) (k := 0) hs1 (q := (RX0, TX0, 2)) rfl inX0 (by decide) rfl hF_X0_9 dX0_billionths_51 ?_
          refine G_iload_n 3 rfl dX0_billionths_54 rfl ?_
          refine G_lald hs3 sd1 dX0_billionths_55 ?_
          refine G_mabs hL_X0_53 (Nat.le_of_ble_eq_true rfl) dX0_billionths_56 ?_
          refine G_lstore dX0_billionths_59 (by decide) (lv' := [(6, .long (if 0 < (h.2.2.2 r0_uppers x1.toNatClampNeg) then h.2.2.2 r0_uppers x1.toNatClampNeg else -(h.2.2.2 r0_uppers x1.toNatClampNeg))), (5, .int (1 : Int32)), (3, .long (h.2.2.2 r0_lowers x1.toNatClampNeg)), (0, .ref r0), (1, .int x1), (2, .int x2)]) rfl ?_
          refine G_lload 0 rfl dX0_billionths_61 ?_
          refine G_lload_n 2 rfl dX0_billionths_63 rfl ?_
          obtain ⟨sd2, w⟩ := w
          refine G_ldiv dX0_billionths_64 sd2 ?_
          refine G_lstore dX0_billionths_65 (by decide) (lv' := [(8, .long ((if 0 < (h.2.2.2 r0_uppers x1.toNatClampNeg) then h.2.2.2 r0_uppers x1.toNatClampNeg else -(h.2.2.2 r0_uppers x1.toNatClampNeg)) / (h.2.2.2 r0_lowers x1.toNatClampNeg))), (6, .long (if 0 < (h.2.2.2 r0_uppers x1.toNatClampNeg) then h.2.2.2 r0_uppers x1.toNatClampNeg else -(h.2.2.2 r0_uppers x1.toNatClampNeg))), (5, .int (1 : Int32)), (3, .long (h.2.2.2 r0_lowers x1.toNatClampNeg)), (0, .ref r0), (1, .int x1), (2, .int x2)]) rfl ?_
          refine G_lload 1 rfl dX0_billionths_67 ?_
          refine G_lload_n 3 rfl dX0_billionths_69 rfl ?_
          refine G_lrem dX0_billionths_70 sd2 ?_
          refine G_lstore dX0_billionths_71 (by decide) (lv' := [(10, .long ((if 0 < (h.2.2.2 r0_uppers x1.toNatClampNeg) then h.2.2.2 r0_uppers x1.toNatClampNeg else -(h.2.2.2 r0_uppers x1.toNatClampNeg)) - (if 0 < (h.2.2.2 r0_uppers x1.toNatClampNeg) then h.2.2.2 r0_uppers x1.toNatClampNeg else -(h.2.2.2 r0_uppers x1.toNatClampNeg)) / (h.2.2.2 r0_lowers x1.toNatClampNeg) * (h.2.2.2 r0_lowers x1.toNatClampNeg))), (8, .long ((if 0 < (h.2.2.2 r0_uppers x1.toNatClampNeg) then h.2.2.2 r0_uppers x1.toNatClampNeg else -(h.2.2.2 r0_uppers x1.toNatClampNeg)) / (h.2.2.2 r0_lowers x1.toNatClampNeg))), (6, .long (if 0 < (h.2.2.2 r0_uppers x1.toNatClampNeg) then h.2.2.2 r0_uppers x1.toNatClampNeg else -(h.2.2.2 r0_uppers x1.toNatClampNeg))), (5, .int (1 : Int32)), (3, .long (h.2.2.2 r0_lowers x1.toNatClampNeg)), (0, .ref r0), (1, .int x1), (2, .int x2)]) rfl ?_
          refine G_lload 1 rfl dX0_billionths_73 ?_
          refine G_ldc2 hK_X0_59 dX0_billionths_75 ?_
          refine G_lif_lt (tgt := 86) dX0_billionths_78 dX0_billionths_79 (by decide) (fun c5 => ?_) (fun c5 => ?_)
          · have w := w.1 c5
            refine G_iconst (v := 0) dX0_billionths_86 (by decide) ?_
            refine G_istore dX0_billionths_87 (by decide) (lv' := [(12, .int (0 : Int32)), (10, .long ((if 0 < (h.2.2.2 r0_uppers x1.toNatClampNeg) then h.2.2.2 r0_uppers x1.toNatClampNeg else -(h.2.2.2 r0_uppers x1.toNatClampNeg)) - (if 0 < (h.2.2.2 r0_uppers x1.toNatClampNeg) then h.2.2.2 r0_uppers x1.toNatClampNeg else -(h.2.2.2 r0_uppers x1.toNatClampNeg)) / (h.2.2.2 r0_lowers x1.toNatClampNeg) * (h.2.2.2 r0_lowers x1.toNatClampNeg))), (8, .long ((if 0 < (h.2.2.2 r0_uppers x1.toNatClampNeg) then h.2.2.2 r0_uppers x1.toNatClampNeg else -(h.2.2.2 r0_uppers x1.toNatClampNeg)) / (h.2.2.2 r0_lowers x1.toNatClampNeg))), (6, .long (if 0 < (h.2.2.2 r0_uppers x1.toNatClampNeg) then h.2.2.2 r0_uppers x1.toNatClampNeg else -(h.2.2.2 r0_uppers x1.toNatClampNeg))), (5, .int (1 : Int32)), (3, .long (h.2.2.2 r0_lowers x1.toNatClampNeg)), (0, .ref r0), (1, .int x1), (2, .int x2)]) rfl ?_
            exact G_sub [8, 5, 4, 2, 1, 0] rfl w
          · have w := w.2 c5
            refine G_ldc2 hK_X0_57 dX0_billionths_82 ?_
            exact G_lret rfl dX0_billionths_85 ⟨_, rfl, w⟩
      · have w := w.2 c3
        refine G_ldc2 hK_X0_57 dX0_billionths_21 ?_
        exact G_lret rfl dX0_billionths_24 ⟨_, rfl, w⟩

set_option maxRecDepth 10000 in
theorem NX0_billionths_89 {d : Nat} {S : fW} {h : fH} {Q : Int64 → fH → Prop} {x2 : Int32} {x3 : Int64} {x5 : Int32} {x8 : Int64} {x10 : Int64} {x12 : Int32}  
    (w : (((3 : Int32) ≤ x12 → ((x10 = (0 : Int64) → ((x5 = 0 → Q x8 h) ∧ (¬ x5 = 0 → Q (-x8) h))) ∧ (¬ x10 = (0 : Int64) → ((x5 = 0 → ((¬ x2 = (1 : Int32) → Q x8 h) ∧ (x2 = (1 : Int32) → Q (x8 + (1 : Int64)) h))) ∧ (¬ x5 = 0 → ((¬ x2 = (-1 : Int32) → Q (-x8) h) ∧ (x2 = (-1 : Int32) → Q (-(x8 + (1 : Int64))) h))))))) ∧ (¬ (3 : Int32) ≤ x12 → ¬ x3 = 0 ∧ G mX0_billionths (d + 1) S (f_PL Q) 89 [(2, .int x2), (3, .long x3), (5, .int x5), (8, .long ((x8 * (1000 : Int64)) + ((x10 * (1000 : Int64)) / x3))), (10, .long ((x10 * (1000 : Int64)) - (x10 * (1000 : Int64)) / x3 * x3)), (12, .int (x12 + 1))] [] h))) :
    G mX0_billionths (d + 1) S (f_PL Q) 89 [(2, .int x2), (3, .long x3), (5, .int x5), (8, .long x8), (10, .long x10), (12, .int x12)] [] h := by
  refine G_iload 5 rfl dX0_billionths_89 ?_
  refine G_iconst (v := 3) dX0_billionths_91 (by decide) ?_
  refine G_icmp_ge (tgt := 128) dX0_billionths_92 (by decide) (fun c1 => ?_) (fun c1 => ?_)
  · have w := w.1 c1
    refine G_lload 4 rfl dX0_billionths_128 ?_
    refine G_lconst (v := 0) dX0_billionths_130 (by decide) ?_
    refine G_lif_eq (tgt := 155) dX0_billionths_131 dX0_billionths_132 (by decide) (fun c2 => ?_) (fun c2 => ?_)
    · have w := w.1 c2
      refine G_iload 2 rfl dX0_billionths_155 ?_
      refine G_if_eq (tgt := 166) dX0_billionths_157 (by decide) (fun c3 => ?_) (fun c3 => ?_)
      · have w := w.1 c3
        refine G_lload 3 rfl dX0_billionths_166 ?_
        exact G_lret rfl dX0_billionths_168 ⟨_, rfl, w⟩
      · have w := w.2 c3
        refine G_lload 3 rfl dX0_billionths_160 ?_
        refine G_lneg dX0_billionths_162 ?_
        refine G_goto (tgt := 168) dX0_billionths_163 (by decide) ?_
        exact G_lret rfl dX0_billionths_168 ⟨_, rfl, w⟩
    · have w := w.2 c2
      refine G_iload_n 0 rfl dX0_billionths_135 rfl ?_
      refine G_iload 2 rfl dX0_billionths_136 ?_
      refine G_if_eq (tgt := 145) dX0_billionths_138 (by decide) (fun c3 => ?_) (fun c3 => ?_)
      · have w := w.1 c3
        refine G_iconst (v := 1) dX0_billionths_145 (by decide) ?_
        refine G_icmp_ne (tgt := 155) dX0_billionths_146 (by decide) (fun c4 => ?_) (fun c4 => ?_)
        · have w := w.1 c4
          refine G_iload 2 rfl dX0_billionths_155 ?_
          refine G_if_eq (tgt := 166) dX0_billionths_157 (by decide) (fun c5 => ?_) (fun c5 => absurd c3 c5)
          refine G_lload 3 rfl dX0_billionths_166 ?_
          exact G_lret rfl dX0_billionths_168 ⟨_, rfl, w⟩
        · have w := w.2 c4
          refine G_lload 3 rfl dX0_billionths_149 ?_
          refine G_lconst (v := 1) dX0_billionths_151 (by decide) ?_
          refine G_ladd dX0_billionths_152 ?_
          refine G_lstore dX0_billionths_153 (by decide) (lv' := [(8, .long (x8 + (1 : Int64))), (2, .int x2), (3, .long x3), (5, .int x5), (10, .long x10), (12, .int x12)]) rfl ?_
          refine G_iload 3 rfl dX0_billionths_155 ?_
          refine G_if_eq (tgt := 166) dX0_billionths_157 (by decide) (fun c5 => ?_) (fun c5 => absurd c3 c5)
          refine G_lload 0 rfl dX0_billionths_166 ?_
          exact G_lret rfl dX0_billionths_168 ⟨_, rfl, w⟩
      · have w := w.2 c3
        refine G_iconst (v := -1) dX0_billionths_141 (by decide) ?_
        refine G_goto (tgt := 146) dX0_billionths_142 (by decide) ?_
        refine G_icmp_ne (tgt := 155) dX0_billionths_146 (by decide) (fun c4 => ?_) (fun c4 => ?_)
        · have w := w.1 c4
          refine G_iload 2 rfl dX0_billionths_155 ?_
          refine G_if_eq (tgt := 166) dX0_billionths_157 (by decide) (fun c5 => absurd c5 c3) (fun c5 => ?_)
          refine G_lload 3 rfl dX0_billionths_160 ?_
          refine G_lneg dX0_billionths_162 ?_
          refine G_goto (tgt := 168) dX0_billionths_163 (by decide) ?_
          exact G_lret rfl dX0_billionths_168 ⟨_, rfl, w⟩
        · have w := w.2 c4
          refine G_lload 3 rfl dX0_billionths_149 ?_
          refine G_lconst (v := 1) dX0_billionths_151 (by decide) ?_
          refine G_ladd dX0_billionths_152 ?_
          refine G_lstore dX0_billionths_153 (by decide) (lv' := [(8, .long (x8 + (1 : Int64))), (2, .int x2), (3, .long x3), (5, .int x5), (10, .long x10), (12, .int x12)]) rfl ?_
          refine G_iload 3 rfl dX0_billionths_155 ?_
          refine G_if_eq (tgt := 166) dX0_billionths_157 (by decide) (fun c5 => absurd c5 c3) (fun c5 => ?_)
          refine G_lload 0 rfl dX0_billionths_160 ?_
          refine G_lneg dX0_billionths_162 ?_
          refine G_goto (tgt := 168) dX0_billionths_163 (by decide) ?_
          exact G_lret rfl dX0_billionths_168 ⟨_, rfl, w⟩
  · have w := w.2 c1
    refine G_lload 4 rfl dX0_billionths_95 ?_
    refine G_ldc2 hK_X0_61 dX0_billionths_97 ?_
    refine G_lmul dX0_billionths_100 ?_
    refine G_lstore dX0_billionths_101 (by decide) (lv' := [(10, .long (x10 * (1000 : Int64))), (2, .int x2), (3, .long x3), (5, .int x5), (8, .long x8), (12, .int x12)]) rfl ?_
    refine G_lload 4 rfl dX0_billionths_103 ?_
    refine G_ldc2 hK_X0_61 dX0_billionths_105 ?_
    refine G_lmul dX0_billionths_108 ?_
    refine G_lload 0 rfl dX0_billionths_109 ?_
    refine G_lload_n 2 rfl dX0_billionths_111 rfl ?_
    obtain ⟨sd1, w⟩ := w
    refine G_ldiv dX0_billionths_112 sd1 ?_
    refine G_ladd dX0_billionths_113 ?_
    refine G_lstore dX0_billionths_114 (by decide) (lv' := [(8, .long ((x8 * (1000 : Int64)) + ((x10 * (1000 : Int64)) / x3))), (10, .long (x10 * (1000 : Int64))), (2, .int x2), (3, .long x3), (5, .int x5), (12, .int x12)]) rfl ?_
    refine G_lload 1 rfl dX0_billionths_116 ?_
    refine G_lload_n 3 rfl dX0_billionths_118 rfl ?_
    refine G_lrem dX0_billionths_119 sd1 ?_
    refine G_lstore dX0_billionths_120 (by decide) (lv' := [(10, .long ((x10 * (1000 : Int64)) - (x10 * (1000 : Int64)) / x3 * x3)), (8, .long ((x8 * (1000 : Int64)) + ((x10 * (1000 : Int64)) / x3))), (2, .int x2), (3, .long x3), (5, .int x5), (12, .int x12)]) rfl ?_
    refine G_iinc (v := 1) 5 rfl dX0_billionths_122 (by decide) (by decide) (lv' := [(12, .int (x12 + 1)), (10, .long ((x10 * (1000 : Int64)) - (x10 * (1000 : Int64)) / x3 * x3)), (8, .long ((x8 * (1000 : Int64)) + ((x10 * (1000 : Int64)) / x3))), (2, .int x2), (3, .long x3), (5, .int x5)]) rfl ?_
    refine G_goto (tgt := 89) dX0_billionths_125 (by decide) ?_
    exact G_sub [3, 4, 5, 2, 1, 0] rfl w
-- LostDigits$Fractions.lowest
theorem dX0_lowest_0 : decode cX0_lowest 0 = .ok (.aload_n 0, 1) := by decide +kernel
theorem dX0_lowest_1 : decode cX0_lowest 1 = .ok (.getfield 15, 3) := by decide +kernel
theorem dX0_lowest_4 : decode cX0_lowest 4 = .ok (.iconst 0, 1) := by decide +kernel
theorem dX0_lowest_5 : decode cX0_lowest 5 = .ok (.laload, 1) := by decide +kernel
theorem dX0_lowest_6 : decode cX0_lowest 6 = .ok (.lconst 0, 1) := by decide +kernel
theorem dX0_lowest_7 : decode cX0_lowest 7 = .ok (.lcmp, 1) := by decide +kernel
theorem dX0_lowest_8 : decode cX0_lowest 8 = .ok (.ifCond .gt 7, 3) := by decide +kernel
theorem dX0_lowest_11 : decode cX0_lowest 11 = .ok (.ldc2_w 57, 3) := by decide +kernel
theorem dX0_lowest_14 : decode cX0_lowest 14 = .ok (.lreturn, 1) := by decide +kernel
theorem dX0_lowest_15 : decode cX0_lowest 15 = .ok (.aload_n 0, 1) := by decide +kernel
theorem dX0_lowest_16 : decode cX0_lowest 16 = .ok (.getfield 9, 3) := by decide +kernel
theorem dX0_lowest_19 : decode cX0_lowest 19 = .ok (.iconst 0, 1) := by decide +kernel
theorem dX0_lowest_20 : decode cX0_lowest 20 = .ok (.laload, 1) := by decide +kernel
theorem dX0_lowest_21 : decode cX0_lowest 21 = .ok (.invokestatic 53, 3) := by decide +kernel
theorem dX0_lowest_24 : decode cX0_lowest 24 = .ok (.aload_n 0, 1) := by decide +kernel
theorem dX0_lowest_25 : decode cX0_lowest 25 = .ok (.getfield 15, 3) := by decide +kernel
theorem dX0_lowest_28 : decode cX0_lowest 28 = .ok (.iconst 0, 1) := by decide +kernel
theorem dX0_lowest_29 : decode cX0_lowest 29 = .ok (.laload, 1) := by decide +kernel
theorem dX0_lowest_30 : decode cX0_lowest 30 = .ok (.invokestatic 63, 3) := by decide +kernel
theorem dX0_lowest_33 : decode cX0_lowest 33 = .ok (.lstore_n 2, 1) := by decide +kernel
theorem dX0_lowest_34 : decode cX0_lowest 34 = .ok (.lload_n 2, 1) := by decide +kernel
theorem dX0_lowest_35 : decode cX0_lowest 35 = .ok (.lconst 0, 1) := by decide +kernel
theorem dX0_lowest_36 : decode cX0_lowest 36 = .ok (.lcmp, 1) := by decide +kernel
theorem dX0_lowest_37 : decode cX0_lowest 37 = .ok (.ifCond .gt 7, 3) := by decide +kernel
theorem dX0_lowest_40 : decode cX0_lowest 40 = .ok (.ldc2_w 57, 3) := by decide +kernel
theorem dX0_lowest_43 : decode cX0_lowest 43 = .ok (.lreturn, 1) := by decide +kernel
theorem dX0_lowest_44 : decode cX0_lowest 44 = .ok (.iload_n 1, 1) := by decide +kernel
theorem dX0_lowest_45 : decode cX0_lowest 45 = .ok (.ifCond .ne 14, 3) := by decide +kernel
theorem dX0_lowest_48 : decode cX0_lowest 48 = .ok (.aload_n 0, 1) := by decide +kernel
theorem dX0_lowest_49 : decode cX0_lowest 49 = .ok (.getfield 9, 3) := by decide +kernel
theorem dX0_lowest_52 : decode cX0_lowest 52 = .ok (.iconst 0, 1) := by decide +kernel
theorem dX0_lowest_53 : decode cX0_lowest 53 = .ok (.laload, 1) := by decide +kernel
theorem dX0_lowest_54 : decode cX0_lowest 54 = .ok (.lload_n 2, 1) := by decide +kernel
theorem dX0_lowest_55 : decode cX0_lowest 55 = .ok (.ldiv, 1) := by decide +kernel
theorem dX0_lowest_56 : decode cX0_lowest 56 = .ok (.goto 11, 3) := by decide +kernel
theorem dX0_lowest_59 : decode cX0_lowest 59 = .ok (.aload_n 0, 1) := by decide +kernel
theorem dX0_lowest_60 : decode cX0_lowest 60 = .ok (.getfield 15, 3) := by decide +kernel
theorem dX0_lowest_63 : decode cX0_lowest 63 = .ok (.iconst 0, 1) := by decide +kernel
theorem dX0_lowest_64 : decode cX0_lowest 64 = .ok (.laload, 1) := by decide +kernel
theorem dX0_lowest_65 : decode cX0_lowest 65 = .ok (.lload_n 2, 1) := by decide +kernel
theorem dX0_lowest_66 : decode cX0_lowest 66 = .ok (.ldiv, 1) := by decide +kernel
theorem dX0_lowest_67 : decode cX0_lowest 67 = .ok (.lreturn, 1) := by decide +kernel
set_option maxRecDepth 10000 in
theorem NX0_lowest_0 {d : Nat} {S : fW} {h : fH} {Q : Int64 → fH → Prop} {r0 : Nat} {x1 : Int32} {r0_uppers r0_lowers : Nat}  
    (hs1 : (r0, shX0 r0_uppers r0_lowers) ∈ S)
    (hs2 : (r0_lowers, shJ 13) ∈ S)
    (hs3 : (r0_uppers, shJ 13) ∈ S)
    (w : vp_in (0 : Int32) 13 ∧ (((0 : Int64) < (h.2.2.2 r0_lowers (0 : Int32).toNatClampNeg) → ∃ Q1 : Int64 → fH → Prop, OkL d mX0_sharedDivisor S [.long (if 0 < (h.2.2.2 r0_uppers (0 : Int32).toNatClampNeg) then h.2.2.2 r0_uppers (0 : Int32).toNatClampNeg else -(h.2.2.2 r0_uppers (0 : Int32).toNatClampNeg)), .long (h.2.2.2 r0_lowers (0 : Int32).toNatClampNeg)] h Q1 ∧ ∀ (v_1 : Int64) (h_1 : fH), Q1 v_1 h_1 → (((0 : Int64) < v_1 → ((¬ x1 = 0 → ¬ v_1 = 0 ∧ Q ((h_1.2.2.2 r0_lowers (0 : Int32).toNatClampNeg) / v_1) h_1) ∧ (x1 = 0 → ¬ v_1 = 0 ∧ Q ((h_1.2.2.2 r0_uppers (0 : Int32).toNatClampNeg) / v_1) h_1))) ∧ (¬ (0 : Int64) < v_1 → Q (1000000000000000000 : Int64) h_1))) ∧ (¬ (0 : Int64) < (h.2.2.2 r0_lowers (0 : Int32).toNatClampNeg) → Q (1000000000000000000 : Int64) h))) :
    OkL (d + 1) mX0_lowest S [.ref r0, .int x1] h Q := by
  refine Ok.of (by decide) (Nat.le_of_ble_eq_true rfl) ?_
  refine G_aload_n 0 rfl dX0_lowest_0 rfl ?_
  refine G_getr (j := r0_lowers) (k := 1) hs1 (q := (RX0, TX0, 2)) rfl inX0 (by decide) rfl hF_X0_15 dX0_lowest_1 ?_
  refine G_iconst (v := 0) dX0_lowest_4 (by decide) ?_
  obtain ⟨sd1, w⟩ := w
  refine G_lald hs2 sd1 dX0_lowest_5 ?_
  refine G_lconst (v := 0) dX0_lowest_6 (by decide) ?_
  refine G_lif_gt (tgt := 15) dX0_lowest_7 dX0_lowest_8 (by decide) (fun c1 => ?_) (fun c1 => ?_)
  · have w := w.1 c1
    refine G_aload_n 0 rfl dX0_lowest_15 rfl ?_
    refine G_getr (j := r0_uppers) (k := 0) hs1 (q := (RX0, TX0, 2)) rfl inX0 (by decide) rfl hF_X0_9 dX0_lowest_16 ?_
    refine G_iconst (v := 0) dX0_lowest_19 (by decide) ?_
    refine G_lald hs3 sd1 dX0_lowest_20 ?_
    refine G_mabs hL_X0_53 (Nat.le_of_ble_eq_true rfl) dX0_lowest_21 ?_
    refine G_aload_n 0 rfl dX0_lowest_24 rfl ?_
    refine G_getr (j := r0_lowers) (k := 1) hs1 (q := (RX0, TX0, 2)) rfl inX0 (by decide) rfl hF_X0_15 dX0_lowest_25 ?_
    refine G_iconst (v := 0) dX0_lowest_28 (by decide) ?_
    refine G_lald hs2 sd1 dX0_lowest_29 ?_
    obtain ⟨Q1, ok1, w⟩ := w
    refine G_callS (Z := mX0_sharedDivisor) (As := [.long (if 0 < (h.2.2.2 r0_uppers (0 : Int32).toNatClampNeg) then h.2.2.2 r0_uppers (0 : Int32).toNatClampNeg else -(h.2.2.2 r0_uppers (0 : Int32).toNatClampNeg)), .long (h.2.2.2 r0_lowers (0 : Int32).toNatClampNeg)]) (st := []) hL_X0_63 hT_X0_sharedDivisor hC_X0_sharedDivisor hN_X0 nX0_sharedDivisor (by decide) rfl (Nat.le_of_ble_eq_true rfl) dX0_lowest_30 ok1 (fun r_ h_1 z_ => ?_)
    obtain ⟨v_1, rfl, q_1⟩ := z_
    have w := w v_1 h_1 q_1
    refine G_lstore_n dX0_lowest_33 rfl (by decide) (lv' := [(2, .long v_1), (0, .ref r0), (1, .int x1)]) rfl ?_
    refine G_lload_n 0 rfl dX0_lowest_34 rfl ?_
    refine G_lconst (v := 0) dX0_lowest_35 (by decide) ?_
    refine G_lif_gt (tgt := 44) dX0_lowest_36 dX0_lowest_37 (by decide) (fun c2 => ?_) (fun c2 => ?_)
    · have w := w.1 c2
      refine G_iload_n 2 rfl dX0_lowest_44 rfl ?_
      refine G_if_ne (tgt := 59) dX0_lowest_45 (by decide) (fun c3 => ?_) (fun c3 => ?_)
      · have w := w.1 c3
        refine G_aload_n 1 rfl dX0_lowest_59 rfl ?_
        refine G_getr (j := r0_lowers) (k := 1) hs1 (q := (RX0, TX0, 2)) rfl inX0 (by decide) rfl hF_X0_15 dX0_lowest_60 ?_
        refine G_iconst (v := 0) dX0_lowest_63 (by decide) ?_
        refine G_lald hs2 sd1 dX0_lowest_64 ?_
        refine G_lload_n 0 rfl dX0_lowest_65 rfl ?_
        obtain ⟨sd2, w⟩ := w
        refine G_ldiv dX0_lowest_66 sd2 ?_
        exact G_lret rfl dX0_lowest_67 ⟨_, rfl, w⟩
      · have w := w.2 c3
        refine G_aload_n 1 rfl dX0_lowest_48 rfl ?_
        refine G_getr (j := r0_uppers) (k := 0) hs1 (q := (RX0, TX0, 2)) rfl inX0 (by decide) rfl hF_X0_9 dX0_lowest_49 ?_
        refine G_iconst (v := 0) dX0_lowest_52 (by decide) ?_
        refine G_lald hs3 sd1 dX0_lowest_53 ?_
        refine G_lload_n 0 rfl dX0_lowest_54 rfl ?_
        obtain ⟨sd2, w⟩ := w
        refine G_ldiv dX0_lowest_55 sd2 ?_
        refine G_goto (tgt := 67) dX0_lowest_56 (by decide) ?_
        exact G_lret rfl dX0_lowest_67 ⟨_, rfl, w⟩
    · have w := w.2 c2
      refine G_ldc2 hK_X0_57 dX0_lowest_40 ?_
      exact G_lret rfl dX0_lowest_43 ⟨_, rfl, w⟩
  · have w := w.2 c1
    refine G_ldc2 hK_X0_57 dX0_lowest_11 ?_
    exact G_lret rfl dX0_lowest_14 ⟨_, rfl, w⟩
-- LostDigits$Fractions.sharedDivisor
theorem dX0_sharedDivisor_0 : decode cX0_sharedDivisor 0 = .ok (.lload_n 0, 1) := by decide +kernel
theorem dX0_sharedDivisor_1 : decode cX0_sharedDivisor 1 = .ok (.lstore 4, 2) := by decide +kernel
theorem dX0_sharedDivisor_3 : decode cX0_sharedDivisor 3 = .ok (.lload_n 2, 1) := by decide +kernel
theorem dX0_sharedDivisor_4 : decode cX0_sharedDivisor 4 = .ok (.lstore 6, 2) := by decide +kernel
theorem dX0_sharedDivisor_6 : decode cX0_sharedDivisor 6 = .ok (.iconst 0, 1) := by decide +kernel
theorem dX0_sharedDivisor_7 : decode cX0_sharedDivisor 7 = .ok (.istore 8, 2) := by decide +kernel
theorem dX0_sharedDivisor_9 : decode cX0_sharedDivisor 9 = .ok (.iload 8, 2) := by decide +kernel
theorem dX0_sharedDivisor_11 : decode cX0_sharedDivisor 11 = .ok (.sipush 200, 3) := by decide +kernel
theorem dX0_sharedDivisor_14 : decode cX0_sharedDivisor 14 = .ok (.if_icmp .ge 31, 3) := by decide +kernel
theorem dX0_sharedDivisor_17 : decode cX0_sharedDivisor 17 = .ok (.lload 6, 2) := by decide +kernel
theorem dX0_sharedDivisor_19 : decode cX0_sharedDivisor 19 = .ok (.lconst 0, 1) := by decide +kernel
theorem dX0_sharedDivisor_20 : decode cX0_sharedDivisor 20 = .ok (.lcmp, 1) := by decide +kernel
theorem dX0_sharedDivisor_21 : decode cX0_sharedDivisor 21 = .ok (.ifCond .eq 24, 3) := by decide +kernel
theorem dX0_sharedDivisor_24 : decode cX0_sharedDivisor 24 = .ok (.lload 4, 2) := by decide +kernel
theorem dX0_sharedDivisor_26 : decode cX0_sharedDivisor 26 = .ok (.lload 6, 2) := by decide +kernel
theorem dX0_sharedDivisor_28 : decode cX0_sharedDivisor 28 = .ok (.lrem, 1) := by decide +kernel
theorem dX0_sharedDivisor_29 : decode cX0_sharedDivisor 29 = .ok (.lstore 9, 2) := by decide +kernel
theorem dX0_sharedDivisor_31 : decode cX0_sharedDivisor 31 = .ok (.lload 6, 2) := by decide +kernel
theorem dX0_sharedDivisor_33 : decode cX0_sharedDivisor 33 = .ok (.lstore 4, 2) := by decide +kernel
theorem dX0_sharedDivisor_35 : decode cX0_sharedDivisor 35 = .ok (.lload 9, 2) := by decide +kernel
theorem dX0_sharedDivisor_37 : decode cX0_sharedDivisor 37 = .ok (.lstore 6, 2) := by decide +kernel
theorem dX0_sharedDivisor_39 : decode cX0_sharedDivisor 39 = .ok (.iinc 8 1, 3) := by decide +kernel
theorem dX0_sharedDivisor_42 : decode cX0_sharedDivisor 42 = .ok (.goto (-33), 3) := by decide +kernel
theorem dX0_sharedDivisor_45 : decode cX0_sharedDivisor 45 = .ok (.lload 4, 2) := by decide +kernel
theorem dX0_sharedDivisor_47 : decode cX0_sharedDivisor 47 = .ok (.lreturn, 1) := by decide +kernel
set_option maxRecDepth 10000 in
theorem NX0_sharedDivisor_0 {d : Nat} {S : fW} {h : fH} {Q : Int64 → fH → Prop} {x0 : Int64} {x2 : Int64}  
    (w : G mX0_sharedDivisor d S (f_PL Q) 9 [(4, .long x0), (6, .long x2), (8, .int (0 : Int32))] [] h) :
    OkL d mX0_sharedDivisor S [.long x0, .long x2] h Q := by
  refine Ok.of (by decide) (Nat.le_of_ble_eq_true rfl) ?_
  refine G_lload_n 0 rfl dX0_sharedDivisor_0 rfl ?_
  refine G_lstore dX0_sharedDivisor_1 (by decide) (lv' := [(4, .long x0), (0, .long x0), (2, .long x2)]) rfl ?_
  refine G_lload_n 2 rfl dX0_sharedDivisor_3 rfl ?_
  refine G_lstore dX0_sharedDivisor_4 (by decide) (lv' := [(6, .long x2), (4, .long x0), (0, .long x0), (2, .long x2)]) rfl ?_
  refine G_iconst (v := 0) dX0_sharedDivisor_6 (by decide) ?_
  refine G_istore dX0_sharedDivisor_7 (by decide) (lv' := [(8, .int (0 : Int32)), (6, .long x2), (4, .long x0), (0, .long x0), (2, .long x2)]) rfl ?_
  exact G_sub [2, 1, 0] rfl w

set_option maxRecDepth 10000 in
theorem NX0_sharedDivisor_9 {d : Nat} {S : fW} {h : fH} {Q : Int64 → fH → Prop} {x4 : Int64} {x6 : Int64} {x8 : Int32}  
    (w : (((200 : Int32) ≤ x8 → Q x4 h) ∧ (¬ (200 : Int32) ≤ x8 → ((x6 = (0 : Int64) → Q x4 h) ∧ (¬ x6 = (0 : Int64) → ¬ x6 = 0 ∧ G mX0_sharedDivisor d S (f_PL Q) 9 [(4, .long x6), (6, .long (x4 - x4 / x6 * x6)), (8, .int (x8 + 1))] [] h))))) :
    G mX0_sharedDivisor d S (f_PL Q) 9 [(4, .long x4), (6, .long x6), (8, .int x8)] [] h := by
  refine G_iload 2 rfl dX0_sharedDivisor_9 ?_
  refine G_sipush (v := 200) dX0_sharedDivisor_11 (by decide) ?_
  refine G_icmp_ge (tgt := 45) dX0_sharedDivisor_14 (by decide) (fun c1 => ?_) (fun c1 => ?_)
  · have w := w.1 c1
    refine G_lload 0 rfl dX0_sharedDivisor_45 ?_
    exact G_lret rfl dX0_sharedDivisor_47 ⟨_, rfl, w⟩
  · have w := w.2 c1
    refine G_lload 1 rfl dX0_sharedDivisor_17 ?_
    refine G_lconst (v := 0) dX0_sharedDivisor_19 (by decide) ?_
    refine G_lif_eq (tgt := 45) dX0_sharedDivisor_20 dX0_sharedDivisor_21 (by decide) (fun c2 => ?_) (fun c2 => ?_)
    · have w := w.1 c2
      refine G_lload 0 rfl dX0_sharedDivisor_45 ?_
      exact G_lret rfl dX0_sharedDivisor_47 ⟨_, rfl, w⟩
    · have w := w.2 c2
      refine G_lload 0 rfl dX0_sharedDivisor_24 ?_
      refine G_lload 1 rfl dX0_sharedDivisor_26 ?_
      obtain ⟨sd1, w⟩ := w
      refine G_lrem dX0_sharedDivisor_28 sd1 ?_
      refine G_lstore dX0_sharedDivisor_29 (by decide) (lv' := [(9, .long (x4 - x4 / x6 * x6)), (4, .long x4), (6, .long x6), (8, .int x8)]) rfl ?_
      refine G_lload 2 rfl dX0_sharedDivisor_31 ?_
      refine G_lstore dX0_sharedDivisor_33 (by decide) (lv' := [(4, .long x6), (9, .long (x4 - x4 / x6 * x6)), (6, .long x6), (8, .int x8)]) rfl ?_
      refine G_lload 1 rfl dX0_sharedDivisor_35 ?_
      refine G_lstore dX0_sharedDivisor_37 (by decide) (lv' := [(6, .long (x4 - x4 / x6 * x6)), (4, .long x6), (9, .long (x4 - x4 / x6 * x6)), (8, .int x8)]) rfl ?_
      refine G_iinc (v := 1) 3 rfl dX0_sharedDivisor_39 (by decide) (by decide) (lv' := [(8, .int (x8 + 1)), (6, .long (x4 - x4 / x6 * x6)), (4, .long x6), (9, .long (x4 - x4 / x6 * x6))]) rfl ?_
      refine G_goto (tgt := 9) dX0_sharedDivisor_42 (by decide) ?_
      exact G_sub [2, 1, 0] rfl w

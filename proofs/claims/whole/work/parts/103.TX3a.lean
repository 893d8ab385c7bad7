-- LostDigits$Ratio.hold
theorem dX3_hold_0 : decode cX3_hold 0 = .ok (.aload_n 0, 1) := by decide +kernel
theorem dX3_hold_1 : decode cX3_hold 1 = .ok (.lload_n 1, 1) := by decide +kernel
theorem dX3_hold_2 : decode cX3_hold 2 = .ok (.putfield 9, 3) := by decide +kernel
theorem dX3_hold_5 : decode cX3_hold 5 = .ok (.aload_n 0, 1) := by decide +kernel
theorem dX3_hold_6 : decode cX3_hold 6 = .ok (.lload_n 3, 1) := by decide +kernel
theorem dX3_hold_7 : decode cX3_hold 7 = .ok (.putfield 15, 3) := by decide +kernel
theorem dX3_hold_10 : decode cX3_hold 10 = .ok (.aload_n 0, 1) := by decide +kernel
theorem dX3_hold_11 : decode cX3_hold 11 = .ok (.iload 5, 2) := by decide +kernel
theorem dX3_hold_13 : decode cX3_hold 13 = .ok (.putfield 18, 3) := by decide +kernel
theorem dX3_hold_16 : decode cX3_hold 16 = .ok (.return_, 1) := by decide +kernel
set_option maxRecDepth 10000 in
theorem TX3_hold_0 {d : Nat} {S : fW} {h : fH} {Q : fH → Prop} {r0 : Nat} {x1 : Int64} {x3 : Int64} {x5 : Int32}  
    (hs1 : (r0, shX3) ∈ S)
    (k1 : Q (u_fi (u_fl (u_fl h r0 0 x1) r0 1 x3) r0 2 x5)) :
    OkV d mX3_hold S [.ref r0, .long x1, .long x3, .int x5] h Q := by
  refine Ok.of (by decide) (Nat.le_of_ble_eq_true rfl) ?_
  refine G_aload_n 0 rfl dX3_hold_0 rfl ?_
  refine G_lload_n 1 rfl dX3_hold_1 rfl ?_
  refine G_putl (k := 0) tyX3 hs1 (q := (RX3, TX3, 3)) rfl inX3 tyX3_ok nmX3 (by decide) rfl rfl rfl hF_X3_9 dX3_hold_2 ?_
  refine G_aload_n 0 rfl dX3_hold_5 rfl ?_
  refine G_lload_n 2 rfl dX3_hold_6 rfl ?_
  refine G_putl (k := 1) tyX3 hs1 (q := (RX3, TX3, 3)) rfl inX3 tyX3_ok nmX3 (by decide) rfl rfl rfl hF_X3_15 dX3_hold_7 ?_
  refine G_aload_n 0 rfl dX3_hold_10 rfl ?_
  refine G_iload 3 rfl dX3_hold_11 ?_
  refine G_puti (k := 2) tyX3 hs1 (q := (RX3, TX3, 3)) rfl inX3 tyX3_ok nmX3 (by decide) rfl rfl rfl hF_X3_18 dX3_hold_13 ?_
  exact G_vret rfl dX3_hold_16 ⟨rfl, (k1)⟩
-- LostDigits$Ratio.join
theorem dX3_join_0 : decode cX3_join 0 = .ok (.iload_n 1, 1) := by decide +kernel
theorem dX3_join_1 : decode cX3_join 1 = .ok (.bipush 43, 2) := by decide +kernel
theorem dX3_join_3 : decode cX3_join 3 = .ok (.if_icmp .eq 9, 3) := by decide +kernel
theorem dX3_join_6 : decode cX3_join 6 = .ok (.iload_n 1, 1) := by decide +kernel
theorem dX3_join_7 : decode cX3_join 7 = .ok (.bipush 45, 2) := by decide +kernel
theorem dX3_join_9 : decode cX3_join 9 = .ok (.if_icmp .ne 28, 3) := by decide +kernel
theorem dX3_join_12 : decode cX3_join 12 = .ok (.aload_n 0, 1) := by decide +kernel
theorem dX3_join_13 : decode cX3_join 13 = .ok (.iload_n 1, 1) := by decide +kernel
theorem dX3_join_14 : decode cX3_join 14 = .ok (.bipush 43, 2) := by decide +kernel
theorem dX3_join_16 : decode cX3_join 16 = .ok (.if_icmp .ne 10, 3) := by decide +kernel
theorem dX3_join_19 : decode cX3_join 19 = .ok (.lload_n 2, 1) := by decide +kernel
theorem dX3_join_20 : decode cX3_join 20 = .ok (.lload 4, 2) := by decide +kernel
theorem dX3_join_22 : decode cX3_join 22 = .ok (.ladd, 1) := by decide +kernel
theorem dX3_join_23 : decode cX3_join 23 = .ok (.goto 7, 3) := by decide +kernel
theorem dX3_join_26 : decode cX3_join 26 = .ok (.lload_n 2, 1) := by decide +kernel
theorem dX3_join_27 : decode cX3_join 27 = .ok (.lload 4, 2) := by decide +kernel
theorem dX3_join_29 : decode cX3_join 29 = .ok (.lsub, 1) := by decide +kernel
theorem dX3_join_30 : decode cX3_join 30 = .ok (.lconst 1, 1) := by decide +kernel
theorem dX3_join_31 : decode cX3_join 31 = .ok (.iconst 0, 1) := by decide +kernel
theorem dX3_join_32 : decode cX3_join 32 = .ok (.invokevirtual 22, 3) := by decide +kernel
theorem dX3_join_35 : decode cX3_join 35 = .ok (.iconst 1, 1) := by decide +kernel
theorem dX3_join_36 : decode cX3_join 36 = .ok (.ireturn, 1) := by decide +kernel
theorem dX3_join_37 : decode cX3_join 37 = .ok (.lload_n 2, 1) := by decide +kernel
theorem dX3_join_38 : decode cX3_join 38 = .ok (.invokestatic 26, 3) := by decide +kernel
theorem dX3_join_41 : decode cX3_join 41 = .ok (.istore 6, 2) := by decide +kernel
theorem dX3_join_43 : decode cX3_join 43 = .ok (.lload 4, 2) := by decide +kernel
theorem dX3_join_45 : decode cX3_join 45 = .ok (.invokestatic 26, 3) := by decide +kernel
theorem dX3_join_48 : decode cX3_join 48 = .ok (.istore 7, 2) := by decide +kernel
theorem dX3_join_50 : decode cX3_join 50 = .ok (.lload_n 2, 1) := by decide +kernel
theorem dX3_join_51 : decode cX3_join 51 = .ok (.getstatic 30, 3) := by decide +kernel
theorem dX3_join_54 : decode cX3_join 54 = .ok (.iload 6, 2) := by decide +kernel
theorem dX3_join_56 : decode cX3_join 56 = .ok (.laload, 1) := by decide +kernel
theorem dX3_join_57 : decode cX3_join 57 = .ok (.ldiv, 1) := by decide +kernel
theorem dX3_join_58 : decode cX3_join 58 = .ok (.lstore 8, 2) := by decide +kernel
theorem dX3_join_60 : decode cX3_join 60 = .ok (.lload 4, 2) := by decide +kernel
theorem dX3_join_62 : decode cX3_join 62 = .ok (.getstatic 30, 3) := by decide +kernel
theorem dX3_join_65 : decode cX3_join 65 = .ok (.iload 7, 2) := by decide +kernel
theorem dX3_join_67 : decode cX3_join 67 = .ok (.laload, 1) := by decide +kernel
theorem dX3_join_68 : decode cX3_join 68 = .ok (.ldiv, 1) := by decide +kernel
theorem dX3_join_69 : decode cX3_join 69 = .ok (.lstore 10, 2) := by decide +kernel
theorem dX3_join_71 : decode cX3_join 71 = .ok (.iload_n 1, 1) := by decide +kernel
theorem dX3_join_72 : decode cX3_join 72 = .ok (.bipush 42, 2) := by decide +kernel
theorem dX3_join_74 : decode cX3_join 74 = .ok (.if_icmp .ne 23, 3) := by decide +kernel
theorem dX3_join_77 : decode cX3_join 77 = .ok (.aload_n 0, 1) := by decide +kernel
theorem dX3_join_78 : decode cX3_join 78 = .ok (.lload 8, 2) := by decide +kernel
theorem dX3_join_80 : decode cX3_join 80 = .ok (.lload 10, 2) := by decide +kernel
theorem dX3_join_82 : decode cX3_join 82 = .ok (.lmul, 1) := by decide +kernel
theorem dX3_join_83 : decode cX3_join 83 = .ok (.lconst 1, 1) := by decide +kernel
theorem dX3_join_84 : decode cX3_join 84 = .ok (.iload 6, 2) := by decide +kernel
theorem dX3_join_86 : decode cX3_join 86 = .ok (.iload 7, 2) := by decide +kernel
theorem dX3_join_88 : decode cX3_join 88 = .ok (.iadd, 1) := by decide +kernel
theorem dX3_join_89 : decode cX3_join 89 = .ok (.bipush 9, 2) := by decide +kernel
theorem dX3_join_91 : decode cX3_join 91 = .ok (.isub, 1) := by decide +kernel
theorem dX3_join_92 : decode cX3_join 92 = .ok (.invokevirtual 22, 3) := by decide +kernel
theorem dX3_join_95 : decode cX3_join 95 = .ok (.iconst 1, 1) := by decide +kernel
theorem dX3_join_96 : decode cX3_join 96 = .ok (.ireturn, 1) := by decide +kernel
theorem dX3_join_97 : decode cX3_join 97 = .ok (.aload_n 0, 1) := by decide +kernel
theorem dX3_join_98 : decode cX3_join 98 = .ok (.lload 4, 2) := by decide +kernel
theorem dX3_join_100 : decode cX3_join 100 = .ok (.lconst 0, 1) := by decide +kernel
theorem dX3_join_101 : decode cX3_join 101 = .ok (.lcmp, 1) := by decide +kernel
theorem dX3_join_102 : decode cX3_join 102 = .ok (.ifCond .ge 9, 3) := by decide +kernel
theorem dX3_join_105 : decode cX3_join 105 = .ok (.lload 8, 2) := by decide +kernel
theorem dX3_join_107 : decode cX3_join 107 = .ok (.lneg, 1) := by decide +kernel
theorem dX3_join_108 : decode cX3_join 108 = .ok (.goto 5, 3) := by decide +kernel
theorem dX3_join_111 : decode cX3_join 111 = .ok (.lload 8, 2) := by decide +kernel
theorem dX3_join_113 : decode cX3_join 113 = .ok (.lload 10, 2) := by decide +kernel
theorem dX3_join_115 : decode cX3_join 115 = .ok (.invokestatic 34, 3) := by decide +kernel
theorem dX3_join_118 : decode cX3_join 118 = .ok (.iload 6, 2) := by decide +kernel
theorem dX3_join_120 : decode cX3_join 120 = .ok (.iload 7, 2) := by decide +kernel
theorem dX3_join_122 : decode cX3_join 122 = .ok (.isub, 1) := by decide +kernel
theorem dX3_join_123 : decode cX3_join 123 = .ok (.bipush 9, 2) := by decide +kernel
theorem dX3_join_125 : decode cX3_join 125 = .ok (.iadd, 1) := by decide +kernel
theorem dX3_join_126 : decode cX3_join 126 = .ok (.invokevirtual 22, 3) := by decide +kernel
theorem dX3_join_129 : decode cX3_join 129 = .ok (.lload 4, 2) := by decide +kernel
theorem dX3_join_131 : decode cX3_join 131 = .ok (.lconst 0, 1) := by decide +kernel
theorem dX3_join_132 : decode cX3_join 132 = .ok (.lcmp, 1) := by decide +kernel
theorem dX3_join_133 : decode cX3_join 133 = .ok (.ifCond .eq 7, 3) := by decide +kernel
theorem dX3_join_136 : decode cX3_join 136 = .ok (.iconst 1, 1) := by decide +kernel
theorem dX3_join_137 : decode cX3_join 137 = .ok (.goto 4, 3) := by decide +kernel
theorem dX3_join_140 : decode cX3_join 140 = .ok (.iconst 0, 1) := by decide +kernel
theorem dX3_join_141 : decode cX3_join 141 = .ok (.ireturn, 1) := by decide +kernel
set_option maxRecDepth 10000 in
theorem TX3_join_0 {d : Nat} {S : fW} {h : fH} {Q : Int32 → fH → Prop} {r0 : Nat} {x1 : Int32} {x2 : Int64} {x4 : Int64} {Q1 : fH → Prop} {Q2 : Int32 → fH → Prop} {Q3 : Int32 → fH → Int32 → fH → Prop} {Q4 : Int32 → fH → Int32 → fH → fH → Prop} {Q5 : Int32 → fH → Int32 → fH → fH → Prop} {Q6 : Int32 → fH → Int32 → fH → fH → Prop} {Q7 : fH → Prop} 
    (hs1 : (r0, shX3) ∈ S)
    (ok1 : x1 = (43 : Int32) → OkV d mX3_hold S [.ref r0, .long (x2 + x4), .long (1 : Int64), .int (0 : Int32)] h Q1)
    (k1 : x1 = (43 : Int32) → ∀ h_1, Q1 h_1 → Q (1 : Int32) h_1)
    (ok2 : ¬ x1 = (43 : Int32) → ¬ x1 = (45 : Int32) → OkI d mX3_lastZeros S [.long x2] h Q2)
    (ok3 : ¬ x1 = (43 : Int32) → ¬ x1 = (45 : Int32) → ∀ v_2 h_2, Q2 v_2 h_2 → OkI d mX3_lastZeros S [.long x4] h_2 (Q3 v_2 h_2))
    (sd1 : ¬ x1 = (43 : Int32) → ¬ x1 = (45 : Int32) → ∀ v_2 h_2, Q2 v_2 h_2 → ∀ v_3 h_3, (Q3 v_2 h_2) v_3 h_3 → vp_in v_2 19)
    (sd2 : ¬ x1 = (43 : Int32) → ¬ x1 = (45 : Int32) → ∀ v_2 h_2, Q2 v_2 h_2 → ∀ v_3 h_3, (Q3 v_2 h_2) v_3 h_3 → ¬ (f_ten v_2.toNatClampNeg) = 0)
    (sd3 : ¬ x1 = (43 : Int32) → ¬ x1 = (45 : Int32) → ∀ v_2 h_2, Q2 v_2 h_2 → ∀ v_3 h_3, (Q3 v_2 h_2) v_3 h_3 → vp_in v_3 19)
    (sd4 : ¬ x1 = (43 : Int32) → ¬ x1 = (45 : Int32) → ∀ v_2 h_2, Q2 v_2 h_2 → ∀ v_3 h_3, (Q3 v_2 h_2) v_3 h_3 → ¬ (f_ten v_3.toNatClampNeg) = 0)
    (ok4 : ¬ x1 = (43 : Int32) → ¬ x1 = (45 : Int32) → ∀ v_2 h_2, Q2 v_2 h_2 → ∀ v_3 h_3, (Q3 v_2 h_2) v_3 h_3 → ¬ x1 = (42 : Int32) → (0 : Int64) ≤ x4 → OkV d mX3_hold S [.ref r0, .long (x2 / (f_ten v_2.toNatClampNeg)), .long (if 0 < (x4 / (f_ten v_3.toNatClampNeg)) then x4 / (f_ten v_3.toNatClampNeg) else -(x4 / (f_ten v_3.toNatClampNeg))), .int ((v_2 - v_3) + (9 : Int32))] h_3 (Q4 v_2 h_2 v_3 h_3))
    (k2 : ¬ x1 = (43 : Int32) → ¬ x1 = (45 : Int32) → ∀ v_2 h_2, Q2 v_2 h_2 → ∀ v_3 h_3, (Q3 v_2 h_2) v_3 h_3 → ¬ x1 = (42 : Int32) → (0 : Int64) ≤ x4 → ∀ h_4, (Q4 v_2 h_2 v_3 h_3) h_4 → x4 = (0 : Int64) → Q (0 : Int32) h_4)
    (k3 : ¬ x1 = (43 : Int32) → ¬ x1 = (45 : Int32) → ∀ v_2 h_2, Q2 v_2 h_2 → ∀ v_3 h_3, (Q3 v_2 h_2) v_3 h_3 → ¬ x1 = (42 : Int32) → (0 : Int64) ≤ x4 → ∀ h_4, (Q4 v_2 h_2 v_3 h_3) h_4 → ¬ x4 = (0 : Int64) → Q (1 : Int32) h_4)
    (ok5 : ¬ x1 = (43 : Int32) → ¬ x1 = (45 : Int32) → ∀ v_2 h_2, Q2 v_2 h_2 → ∀ v_3 h_3, (Q3 v_2 h_2) v_3 h_3 → ¬ x1 = (42 : Int32) → ¬ (0 : Int64) ≤ x4 → OkV d mX3_hold S [.ref r0, .long (-(x2 / (f_ten v_2.toNatClampNeg))), .long (if 0 < (x4 / (f_ten v_3.toNatClampNeg)) then x4 / (f_ten v_3.toNatClampNeg) else -(x4 / (f_ten v_3.toNatClampNeg))), .int ((v_2 - v_3) + (9 : Int32))] h_3 (Q5 v_2 h_2 v_3 h_3))
    (k4 : ¬ x1 = (43 : Int32) → ¬ x1 = (45 : Int32) → ∀ v_2 h_2, Q2 v_2 h_2 → ∀ v_3 h_3, (Q3 v_2 h_2) v_3 h_3 → ¬ x1 = (42 : Int32) → ¬ (0 : Int64) ≤ x4 → ∀ h_5, (Q5 v_2 h_2 v_3 h_3) h_5 → x4 = (0 : Int64) → Q (0 : Int32) h_5)
    (k5 : ¬ x1 = (43 : Int32) → ¬ x1 = (45 : Int32) → ∀ v_2 h_2, Q2 v_2 h_2 → ∀ v_3 h_3, (Q3 v_2 h_2) v_3 h_3 → ¬ x1 = (42 : Int32) → ¬ (0 : Int64) ≤ x4 → ∀ h_5, (Q5 v_2 h_2 v_3 h_3) h_5 → ¬ x4 = (0 : Int64) → Q (1 : Int32) h_5)
    (ok6 : ¬ x1 = (43 : Int32) → ¬ x1 = (45 : Int32) → ∀ v_2 h_2, Q2 v_2 h_2 → ∀ v_3 h_3, (Q3 v_2 h_2) v_3 h_3 → x1 = (42 : Int32) → OkV d mX3_hold S [.ref r0, .long ((x2 / (f_ten v_2.toNatClampNeg)) * (x4 / (f_ten v_3.toNatClampNeg))), .long (1 : Int64), .int ((v_2 + v_3) - (9 : Int32))] h_3 (Q6 v_2 h_2 v_3 h_3))
    (k6 : ¬ x1 = (43 : Int32) → ¬ x1 = (45 : Int32) → ∀ v_2 h_2, Q2 v_2 h_2 → ∀ v_3 h_3, (Q3 v_2 h_2) v_3 h_3 → x1 = (42 : Int32) → ∀ h_6, (Q6 v_2 h_2 v_3 h_3) h_6 → Q (1 : Int32) h_6)
    (ok7 : ¬ x1 = (43 : Int32) → x1 = (45 : Int32) → OkV d mX3_hold S [.ref r0, .long (x2 - x4), .long (1 : Int64), .int (0 : Int32)] h Q7)
    (k7 : ¬ x1 = (43 : Int32) → x1 = (45 : Int32) → ∀ h_7, Q7 h_7 → Q (1 : Int32) h_7) :
    OkI (d + 1) mX3_join S [.ref r0, .int x1, .long x2, .long x4] h Q := by
  refine Ok.of (by decide) (Nat.le_of_ble_eq_true rfl) ?_
  refine G_iload_n 1 rfl dX3_join_0 rfl ?_
  refine G_bipush (v := 43) dX3_join_1 (by decide) ?_
  refine G_icmp_eq (tgt := 12) dX3_join_3 (by decide) (fun c1 => ?_) (fun c1 => ?_)
  · refine G_aload_n 0 rfl dX3_join_12 rfl ?_
    refine G_iload_n 1 rfl dX3_join_13 rfl ?_
    refine G_bipush (v := 43) dX3_join_14 (by decide) ?_
    refine G_icmp_ne (tgt := 26) dX3_join_16 (by decide) (fun c2 => absurd c1 c2) (fun c2 => ?_)
    refine G_lload_n 2 rfl dX3_join_19 rfl ?_
    refine G_lload 3 rfl dX3_join_20 ?_
    refine G_ladd dX3_join_22 ?_
    refine G_goto (tgt := 30) dX3_join_23 (by decide) ?_
    refine G_lconst (v := 1) dX3_join_30 (by decide) ?_
    refine G_iconst (v := 0) dX3_join_31 (by decide) ?_
    refine G_callV (Z := mX3_hold) (As := [.long (x2 + x4), .long (1 : Int64), .int (0 : Int32)]) (st := []) hL_X3_22 hI_X3_hold hS_X3_hold hC_X3_hold hN_X3 nX3_hold (by decide) hs1 rfl rfl rfl (Nat.le_of_ble_eq_true rfl) dX3_join_32 (ok1 c1) (fun r_ h_1 z_ => ?_)
    obtain ⟨rfl, q_1⟩ := z_
    refine G_iconst (v := 1) dX3_join_35 (by decide) ?_
    exact G_zret rfl (Or.inr rfl) dX3_join_36 ⟨_, rfl, (k1 c1 h_1 q_1)⟩
  · refine G_iload_n 1 rfl dX3_join_6 rfl ?_
    refine G_bipush (v := 45) dX3_join_7 (by decide) ?_
    refine G_icmp_ne (tgt := 37) dX3_join_9 (by decide) (fun c2 => ?_) (fun c2 => ?_)
    · refine G_lload_n 2 rfl dX3_join_37 rfl ?_
      refine G_callS (Z := mX3_lastZeros) (As := [.long x2]) (st := []) hL_X3_26 hT_X3_lastZeros hC_X3_lastZeros hN_X3 nX3_lastZeros (by decide) rfl (Nat.le_of_ble_eq_true rfl) dX3_join_38 (ok2 c1 c2) (fun r_ h_2 z_ => ?_)
      obtain ⟨v_2, rfl, q_2⟩ := z_
      refine G_istore dX3_join_41 (by decide) (lv' := [(6, .int v_2), (0, .ref r0), (1, .int x1), (2, .long x2), (4, .long x4)]) rfl ?_
      refine G_lload 4 rfl dX3_join_43 ?_
      refine G_callS (Z := mX3_lastZeros) (As := [.long x4]) (st := []) hL_X3_26 hT_X3_lastZeros hC_X3_lastZeros hN_X3 nX3_lastZeros (by decide) rfl (Nat.le_of_ble_eq_true rfl) dX3_join_45 (ok3 c1 c2 v_2 h_2 q_2) (fun r_ h_3 z_ => ?_)
      obtain ⟨v_3, rfl, q_3⟩ := z_
      refine G_istore dX3_join_48 (by decide) (lv' := [(7, .int v_3), (6, .int v_2), (0, .ref r0), (1, .int x1), (2, .long x2), (4, .long x4)]) rfl ?_
      refine G_lload_n 4 rfl dX3_join_50 rfl ?_
      refine G_tens hM_X3_30 dX3_join_51 ?_
      refine G_iload 1 rfl dX3_join_54 ?_
      refine G_tlal (sd1 c1 c2 v_2 h_2 q_2 v_3 h_3 q_3) dX3_join_56 ?_
      refine G_ldiv dX3_join_57 (sd2 c1 c2 v_2 h_2 q_2 v_3 h_3 q_3) ?_
      refine G_lstore dX3_join_58 (by decide) (lv' := [(8, .long (x2 / (f_ten v_2.toNatClampNeg))), (7, .int v_3), (6, .int v_2), (0, .ref r0), (1, .int x1), (2, .long x2), (4, .long x4)]) rfl ?_
      refine G_lload 6 rfl dX3_join_60 ?_
      refine G_tens hM_X3_30 dX3_join_62 ?_
      refine G_iload 1 rfl dX3_join_65 ?_
      refine G_tlal (sd3 c1 c2 v_2 h_2 q_2 v_3 h_3 q_3) dX3_join_67 ?_
      refine G_ldiv dX3_join_68 (sd4 c1 c2 v_2 h_2 q_2 v_3 h_3 q_3) ?_
      refine G_lstore dX3_join_69 (by decide) (lv' := [(10, .long (x4 / (f_ten v_3.toNatClampNeg))), (8, .long (x2 / (f_ten v_2.toNatClampNeg))), (7, .int v_3), (6, .int v_2), (0, .ref r0), (1, .int x1), (2, .long x2), (4, .long x4)]) rfl ?_
      refine G_iload_n 5 rfl dX3_join_71 rfl ?_
      refine G_bipush (v := 42) dX3_join_72 (by decide) ?_
      refine G_icmp_ne (tgt := 97) dX3_join_74 (by decide) (fun c5 => ?_) (fun c5 => ?_)
      · refine G_aload_n 4 rfl dX3_join_97 rfl ?_
        refine G_lload 7 rfl dX3_join_98 ?_
        refine G_lconst (v := 0) dX3_join_100 (by decide) ?_
        refine G_lif_ge (tgt := 111) dX3_join_101 dX3_join_102 (by decide) (fun c6 => ?_) (fun c6 => ?_)
        · refine G_lload 1 rfl dX3_join_111 ?_
          refine G_lload 0 rfl dX3_join_113 ?_
          refine G_mabs hL_X3_34 (Nat.le_of_ble_eq_true rfl) dX3_join_115 ?_
          refine G_iload 3 rfl dX3_join_118 ?_
          refine G_iload 2 rfl dX3_join_120 ?_
          refine G_isub dX3_join_122 ?_
          refine G_bipush (v := 9) dX3_join_123 (by decide) ?_
          refine G_iadd dX3_join_125 ?_
          refine G_callV (Z := mX3_hold) (As := [.long (x2 / (f_ten v_2.toNatClampNeg)), .long (if 0 < (x4 / (f_ten v_3.toNatClampNeg)) then x4 / (f_ten v_3.toNatClampNeg) else -(x4 / (f_ten v_3.toNatClampNeg))), .int ((v_2 - v_3) + (9 : Int32))]) (st := []) hL_X3_22 hI_X3_hold hS_X3_hold hC_X3_hold hN_X3 nX3_hold (by decide) hs1 rfl rfl rfl (Nat.le_of_ble_eq_true rfl) dX3_join_126 (ok4 c1 c2 v_2 h_2 q_2 v_3 h_3 q_3 c5 c6) (fun r_ h_4 z_ => ?_)
          obtain ⟨rfl, q_4⟩ := z_
          refine G_lload 7 rfl dX3_join_129 ?_
          refine G_lconst (v := 0) dX3_join_131 (by decide) ?_
          refine G_lif_eq (tgt := 140) dX3_join_132 dX3_join_133 (by decide) (fun c8 => ?_) (fun c8 => ?_)
          · refine G_iconst (v := 0) dX3_join_140 (by decide) ?_
            exact G_zret rfl (Or.inl rfl) dX3_join_141 ⟨_, rfl, (k2 c1 c2 v_2 h_2 q_2 v_3 h_3 q_3 c5 c6 h_4 q_4 c8)⟩
          · refine G_iconst (v := 1) dX3_join_136 (by decide) ?_
            refine G_goto (tgt := 141) dX3_join_137 (by decide) ?_
            exact G_zret rfl (Or.inr rfl) dX3_join_141 ⟨_, rfl, (k3 c1 c2 v_2 h_2 q_2 v_3 h_3 q_3 c5 c6 h_4 q_4 c8)⟩
        · refine G_lload 1 rfl dX3_join_105 ?_
          refine G_lneg dX3_join_107 ?_
          refine G_goto (tgt := 113) dX3_join_108 (by decide) ?_
          refine G_lload 0 rfl dX3_join_113 ?_
          refine G_mabs hL_X3_34 (Nat.le_of_ble_eq_true rfl) dX3_join_115 ?_
          refine G_iload 3 rfl dX3_join_118 ?_
          refine G_iload 2 rfl dX3_join_120 ?_
          refine G_isub dX3_join_122 ?_
          refine G_bipush (v := 9) dX3_join_123 (by decide) ?_
          refine G_iadd dX3_join_125 ?_
          refine G_callV (Z := mX3_hold) (As := [.long (-(x2 / (f_ten v_2.toNatClampNeg))), .long (if 0 < (x4 / (f_ten v_3.toNatClampNeg)) then x4 / (f_ten v_3.toNatClampNeg) else -(x4 / (f_ten v_3.toNatClampNeg))), .int ((v_2 - v_3) + (9 : Int32))]) (st := []) hL_X3_22 hI_X3_hold hS_X3_hold hC_X3_hold hN_X3 nX3_hold (by decide) hs1 rfl rfl rfl (Nat.le_of_ble_eq_true rfl) dX3_join_126 (ok5 c1 c2 v_2 h_2 q_2 v_3 h_3 q_3 c5 c6) (fun r_ h_5 z_ => ?_)
          obtain ⟨rfl, q_5⟩ := z_
          refine G_lload 7 rfl dX3_join_129 ?_
          refine G_lconst (v := 0) dX3_join_131 (by decide) ?_
          refine G_lif_eq (tgt := 140) dX3_join_132 dX3_join_133 (by decide) (fun c8 => ?_) (fun c8 => ?_)
          · refine G_iconst (v := 0) dX3_join_140 (by decide) ?_
            exact G_zret rfl (Or.inl rfl) dX3_join_141 ⟨_, rfl, (k4 c1 c2 v_2 h_2 q_2 v_3 h_3 q_3 c5 c6 h_5 q_5 c8)⟩
          · refine G_iconst (v := 1) dX3_join_136 (by decide) ?_
            refine G_goto (tgt := 141) dX3_join_137 (by decide) ?_
            exact G_zret rfl (Or.inr rfl) dX3_join_141 ⟨_, rfl, (k5 c1 c2 v_2 h_2 q_2 v_3 h_3 q_3 c5 c6 h_5 q_5 c8)⟩
      · refine G_aload_n 4 rfl dX3_join_77 rfl ?_
        refine G_lload 1 rfl dX3_join_78 ?_
        refine G_lload 0 rfl dX3_join_80 ?_
        refine G_lmul dX3_join_82 ?_
        refine G_lconst (v := 1) dX3_join_83 (by decide) ?_
        refine G_iload 3 rfl dX3_join_84 ?_
        refine G_iload 2 rfl dX3_join_86 ?_
        refine G_iadd dX3_join_88 ?_
        refine G_bipush (v := 9) dX3_join_89 (by decide) ?_
        refine G_isub dX3_join_91 ?_
        refine G_callV (Z := mX3_hold) (As := [.long ((x2 / (f_ten v_2.toNatClampNeg)) * (x4 / (f_ten v_3.toNatClampNeg))), .long (1 : Int64), .int ((v_2 + v_3) - (9 : Int32))]) (st := []) hL_X3_22 hI_X3_hold hS_X3_hold hC_X3_hold hN_X3 nX3_hold (by decide) hs1 rfl rfl rfl (Nat.le_of_ble_eq_true rfl) dX3_join_92 (ok6 c1 c2 v_2 h_2 q_2 v_3 h_3 q_3 c5) (fun r_ h_6 z_ => ?_)
        obtain ⟨rfl, q_6⟩ := z_
        refine G_iconst (v := 1) dX3_join_95 (by decide) ?_
        exact G_zret rfl (Or.inr rfl) dX3_join_96 ⟨_, rfl, (k6 c1 c2 v_2 h_2 q_2 v_3 h_3 q_3 c5 h_6 q_6)⟩
    · refine G_aload_n 0 rfl dX3_join_12 rfl ?_
      refine G_iload_n 1 rfl dX3_join_13 rfl ?_
      refine G_bipush (v := 43) dX3_join_14 (by decide) ?_
      refine G_icmp_ne (tgt := 26) dX3_join_16 (by decide) (fun c3 => ?_) (fun c3 => absurd c3 c1)
      refine G_lload_n 2 rfl dX3_join_26 rfl ?_
      refine G_lload 3 rfl dX3_join_27 ?_
      refine G_lsub dX3_join_29 ?_
      refine G_lconst (v := 1) dX3_join_30 (by decide) ?_
      refine G_iconst (v := 0) dX3_join_31 (by decide) ?_
      refine G_callV (Z := mX3_hold) (As := [.long (x2 - x4), .long (1 : Int64), .int (0 : Int32)]) (st := []) hL_X3_22 hI_X3_hold hS_X3_hold hC_X3_hold hN_X3 nX3_hold (by decide) hs1 rfl rfl rfl (Nat.le_of_ble_eq_true rfl) dX3_join_32 (ok7 c1 c2) (fun r_ h_7 z_ => ?_)
      obtain ⟨rfl, q_7⟩ := z_
      refine G_iconst (v := 1) dX3_join_35 (by decide) ?_
      exact G_zret rfl (Or.inr rfl) dX3_join_36 ⟨_, rfl, (k7 c1 c2 h_7 q_7)⟩
-- LostDigits$Ratio.lastZeros
theorem dX3_lastZeros_0 : decode cX3_lastZeros 0 = .ok (.iconst 0, 1) := by decide +kernel
theorem dX3_lastZeros_1 : decode cX3_lastZeros 1 = .ok (.istore_n 2, 1) := by decide +kernel
theorem dX3_lastZeros_2 : decode cX3_lastZeros 2 = .ok (.lload_n 0, 1) := by decide +kernel
theorem dX3_lastZeros_3 : decode cX3_lastZeros 3 = .ok (.lstore_n 3, 1) := by decide +kernel
theorem dX3_lastZeros_4 : decode cX3_lastZeros 4 = .ok (.iload_n 2, 1) := by decide +kernel
theorem dX3_lastZeros_5 : decode cX3_lastZeros 5 = .ok (.bipush 16, 2) := by decide +kernel
theorem dX3_lastZeros_7 : decode cX3_lastZeros 7 = .ok (.if_icmp .ge 31, 3) := by decide +kernel
theorem dX3_lastZeros_10 : decode cX3_lastZeros 10 = .ok (.lload_n 3, 1) := by decide +kernel
theorem dX3_lastZeros_11 : decode cX3_lastZeros 11 = .ok (.lconst 0, 1) := by decide +kernel
theorem dX3_lastZeros_12 : decode cX3_lastZeros 12 = .ok (.lcmp, 1) := by decide +kernel
theorem dX3_lastZeros_13 : decode cX3_lastZeros 13 = .ok (.ifCond .eq 25, 3) := by decide +kernel
theorem dX3_lastZeros_16 : decode cX3_lastZeros 16 = .ok (.lload_n 3, 1) := by decide +kernel
theorem dX3_lastZeros_17 : decode cX3_lastZeros 17 = .ok (.ldc2_w 40, 3) := by decide +kernel
theorem dX3_lastZeros_20 : decode cX3_lastZeros 20 = .ok (.lrem, 1) := by decide +kernel
theorem dX3_lastZeros_21 : decode cX3_lastZeros 21 = .ok (.lconst 0, 1) := by decide +kernel
theorem dX3_lastZeros_22 : decode cX3_lastZeros 22 = .ok (.lcmp, 1) := by decide +kernel
theorem dX3_lastZeros_23 : decode cX3_lastZeros 23 = .ok (.ifCond .ne 15, 3) := by decide +kernel
theorem dX3_lastZeros_26 : decode cX3_lastZeros 26 = .ok (.lload_n 3, 1) := by decide +kernel
theorem dX3_lastZeros_27 : decode cX3_lastZeros 27 = .ok (.ldc2_w 40, 3) := by decide +kernel
theorem dX3_lastZeros_30 : decode cX3_lastZeros 30 = .ok (.ldiv, 1) := by decide +kernel
theorem dX3_lastZeros_31 : decode cX3_lastZeros 31 = .ok (.lstore_n 3, 1) := by decide +kernel
theorem dX3_lastZeros_32 : decode cX3_lastZeros 32 = .ok (.iinc 2 1, 3) := by decide +kernel
theorem dX3_lastZeros_35 : decode cX3_lastZeros 35 = .ok (.goto (-31), 3) := by decide +kernel
theorem dX3_lastZeros_38 : decode cX3_lastZeros 38 = .ok (.iload_n 2, 1) := by decide +kernel
theorem dX3_lastZeros_39 : decode cX3_lastZeros 39 = .ok (.ireturn, 1) := by decide +kernel
set_option maxRecDepth 10000 in
theorem TX3_lastZeros_0 {d : Nat} {S : fW} {h : fH} {Q : Int32 → fH → Prop} {x0 : Int64}  
    (k1 : G mX3_lastZeros d S (f_PI Q) 4 [(2, .int (0 : Int32)), (3, .long x0)] [] h) :
    OkI d mX3_lastZeros S [.long x0] h Q := by
  refine Ok.of (by decide) (Nat.le_of_ble_eq_true rfl) ?_
  refine G_iconst (v := 0) dX3_lastZeros_0 (by decide) ?_
  refine G_istore_n dX3_lastZeros_1 rfl (by decide) (lv' := [(2, .int (0 : Int32)), (0, .long x0)]) rfl ?_
  refine G_lload_n 1 rfl dX3_lastZeros_2 rfl ?_
  refine G_lstore_n dX3_lastZeros_3 rfl (by decide) (lv' := [(3, .long x0), (2, .int (0 : Int32)), (0, .long x0)]) rfl ?_
  exact G_sub [1, 0] rfl (k1)

set_option maxRecDepth 10000 in
theorem TX3_lastZeros_4 {d : Nat} {S : fW} {h : fH} {Q : Int32 → fH → Prop} {x2 : Int32} {x3 : Int64}  
    (k1 : (16 : Int32) ≤ x2 → Q x2 h)
    (k2 : ¬ (16 : Int32) ≤ x2 → x3 = (0 : Int64) → Q x2 h)
    (k3 : ¬ (16 : Int32) ≤ x2 → ¬ x3 = (0 : Int64) → ¬ (x3 - x3 / (10 : Int64) * (10 : Int64)) = (0 : Int64) → Q x2 h)
    (k4 : ¬ (16 : Int32) ≤ x2 → ¬ x3 = (0 : Int64) → (x3 - x3 / (10 : Int64) * (10 : Int64)) = (0 : Int64) → G mX3_lastZeros d S (f_PI Q) 4 [(2, .int (x2 + 1)), (3, .long (x3 / (10 : Int64)))] [] h) :
    G mX3_lastZeros d S (f_PI Q) 4 [(2, .int x2), (3, .long x3)] [] h := by
  refine G_iload_n 0 rfl dX3_lastZeros_4 rfl ?_
  refine G_bipush (v := 16) dX3_lastZeros_5 (by decide) ?_
  refine G_icmp_ge (tgt := 38) dX3_lastZeros_7 (by decide) (fun c1 => ?_) (fun c1 => ?_)
  · refine G_iload_n 0 rfl dX3_lastZeros_38 rfl ?_
    exact G_iret rfl dX3_lastZeros_39 ⟨_, rfl, (k1 c1)⟩
  · refine G_lload_n 1 rfl dX3_lastZeros_10 rfl ?_
    refine G_lconst (v := 0) dX3_lastZeros_11 (by decide) ?_
    refine G_lif_eq (tgt := 38) dX3_lastZeros_12 dX3_lastZeros_13 (by decide) (fun c2 => ?_) (fun c2 => ?_)
    · refine G_iload_n 0 rfl dX3_lastZeros_38 rfl ?_
      exact G_iret rfl dX3_lastZeros_39 ⟨_, rfl, (k2 c1 c2)⟩
    · refine G_lload_n 1 rfl dX3_lastZeros_16 rfl ?_
      refine G_ldc2 hK_X3_40 dX3_lastZeros_17 ?_
      refine G_lrem dX3_lastZeros_20 (by decide) ?_
      refine G_lconst (v := 0) dX3_lastZeros_21 (by decide) ?_
      refine G_lif_ne (tgt := 38) dX3_lastZeros_22 dX3_lastZeros_23 (by decide) (fun c3 => ?_) (fun c3 => ?_)
      · refine G_iload_n 0 rfl dX3_lastZeros_38 rfl ?_
        exact G_iret rfl dX3_lastZeros_39 ⟨_, rfl, (k3 c1 c2 c3)⟩
      · refine G_lload_n 1 rfl dX3_lastZeros_26 rfl ?_
        refine G_ldc2 hK_X3_40 dX3_lastZeros_27 ?_
        refine G_ldiv dX3_lastZeros_30 (by decide) ?_
        refine G_lstore_n dX3_lastZeros_31 rfl (by decide) (lv' := [(3, .long (x3 / (10 : Int64))), (2, .int x2)]) rfl ?_
        refine G_iinc (v := 1) 1 rfl dX3_lastZeros_32 (by decide) (by decide) (lv' := [(2, .int (x2 + 1)), (3, .long (x3 / (10 : Int64)))]) rfl ?_
        refine G_goto (tgt := 4) dX3_lastZeros_35 (by decide) ?_
        exact G_sub [0, 1] rfl (k4 c1 c2 c3)
-- LostDigits$Ratio.cut
theorem dX3_cut_0 : decode cX3_cut 0 = .ok (.aload_n 0, 1) := by decide +kernel
theorem dX3_cut_1 : decode cX3_cut 1 = .ok (.getfield 15, 3) := by decide +kernel
theorem dX3_cut_4 : decode cX3_cut 4 = .ok (.lconst 0, 1) := by decide +kernel
theorem dX3_cut_5 : decode cX3_cut 5 = .ok (.lcmp, 1) := by decide +kernel
theorem dX3_cut_6 : decode cX3_cut 6 = .ok (.ifCond .gt 5, 3) := by decide +kernel
theorem dX3_cut_9 : decode cX3_cut 9 = .ok (.lconst 0, 1) := by decide +kernel
theorem dX3_cut_10 : decode cX3_cut 10 = .ok (.lreturn, 1) := by decide +kernel
theorem dX3_cut_11 : decode cX3_cut 11 = .ok (.aload_n 0, 1) := by decide +kernel
theorem dX3_cut_12 : decode cX3_cut 12 = .ok (.getfield 9, 3) := by decide +kernel
theorem dX3_cut_15 : decode cX3_cut 15 = .ok (.invokestatic 34, 3) := by decide +kernel
theorem dX3_cut_18 : decode cX3_cut 18 = .ok (.lstore_n 1, 1) := by decide +kernel
theorem dX3_cut_19 : decode cX3_cut 19 = .ok (.lload_n 1, 1) := by decide +kernel
theorem dX3_cut_20 : decode cX3_cut 20 = .ok (.aload_n 0, 1) := by decide +kernel
theorem dX3_cut_21 : decode cX3_cut 21 = .ok (.getfield 15, 3) := by decide +kernel
theorem dX3_cut_24 : decode cX3_cut 24 = .ok (.ldiv, 1) := by decide +kernel
theorem dX3_cut_25 : decode cX3_cut 25 = .ok (.lstore_n 3, 1) := by decide +kernel
theorem dX3_cut_26 : decode cX3_cut 26 = .ok (.lload_n 1, 1) := by decide +kernel
theorem dX3_cut_27 : decode cX3_cut 27 = .ok (.aload_n 0, 1) := by decide +kernel
theorem dX3_cut_28 : decode cX3_cut 28 = .ok (.getfield 15, 3) := by decide +kernel
theorem dX3_cut_31 : decode cX3_cut 31 = .ok (.lrem, 1) := by decide +kernel
theorem dX3_cut_32 : decode cX3_cut 32 = .ok (.lstore 5, 2) := by decide +kernel
theorem dX3_cut_34 : decode cX3_cut 34 = .ok (.iconst 0, 1) := by decide +kernel
theorem dX3_cut_35 : decode cX3_cut 35 = .ok (.istore 7, 2) := by decide +kernel
theorem dX3_cut_37 : decode cX3_cut 37 = .ok (.iload 7, 2) := by decide +kernel
theorem dX3_cut_39 : decode cX3_cut 39 = .ok (.aload_n 0, 1) := by decide +kernel
theorem dX3_cut_40 : decode cX3_cut 40 = .ok (.getfield 18, 3) := by decide +kernel
theorem dX3_cut_43 : decode cX3_cut 43 = .ok (.if_icmp .ge 40, 3) := by decide +kernel
theorem dX3_cut_46 : decode cX3_cut 46 = .ok (.lload 5, 2) := by decide +kernel
theorem dX3_cut_48 : decode cX3_cut 48 = .ok (.ldc2_w 40, 3) := by decide +kernel
theorem dX3_cut_51 : decode cX3_cut 51 = .ok (.lmul, 1) := by decide +kernel
theorem dX3_cut_52 : decode cX3_cut 52 = .ok (.lstore 5, 2) := by decide +kernel
theorem dX3_cut_54 : decode cX3_cut 54 = .ok (.lload_n 3, 1) := by decide +kernel
theorem dX3_cut_55 : decode cX3_cut 55 = .ok (.ldc2_w 40, 3) := by decide +kernel
theorem dX3_cut_58 : decode cX3_cut 58 = .ok (.lmul, 1) := by decide +kernel
theorem dX3_cut_59 : decode cX3_cut 59 = .ok (.lload 5, 2) := by decide +kernel
theorem dX3_cut_61 : decode cX3_cut 61 = .ok (.aload_n 0, 1) := by decide +kernel
theorem dX3_cut_62 : decode cX3_cut 62 = .ok (.getfield 15, 3) := by decide +kernel
theorem dX3_cut_65 : decode cX3_cut 65 = .ok (.ldiv, 1) := by decide +kernel
theorem dX3_cut_66 : decode cX3_cut 66 = .ok (.ladd, 1) := by decide +kernel
theorem dX3_cut_67 : decode cX3_cut 67 = .ok (.lstore_n 3, 1) := by decide +kernel
theorem dX3_cut_68 : decode cX3_cut 68 = .ok (.lload 5, 2) := by decide +kernel
theorem dX3_cut_70 : decode cX3_cut 70 = .ok (.aload_n 0, 1) := by decide +kernel
theorem dX3_cut_71 : decode cX3_cut 71 = .ok (.getfield 15, 3) := by decide +kernel
theorem dX3_cut_74 : decode cX3_cut 74 = .ok (.lrem, 1) := by decide +kernel
theorem dX3_cut_75 : decode cX3_cut 75 = .ok (.lstore 5, 2) := by decide +kernel
theorem dX3_cut_77 : decode cX3_cut 77 = .ok (.iinc 7 1, 3) := by decide +kernel
theorem dX3_cut_80 : decode cX3_cut 80 = .ok (.goto (-43), 3) := by decide +kernel
theorem dX3_cut_83 : decode cX3_cut 83 = .ok (.iconst 0, 1) := by decide +kernel
theorem dX3_cut_84 : decode cX3_cut 84 = .ok (.istore 7, 2) := by decide +kernel
theorem dX3_cut_86 : decode cX3_cut 86 = .ok (.iload 7, 2) := by decide +kernel
theorem dX3_cut_88 : decode cX3_cut 88 = .ok (.aload_n 0, 1) := by decide +kernel
theorem dX3_cut_89 : decode cX3_cut 89 = .ok (.getfield 18, 3) := by decide +kernel
theorem dX3_cut_92 : decode cX3_cut 92 = .ok (.if_icmp .le 15, 3) := by decide +kernel
theorem dX3_cut_95 : decode cX3_cut 95 = .ok (.lload_n 3, 1) := by decide +kernel
theorem dX3_cut_96 : decode cX3_cut 96 = .ok (.ldc2_w 40, 3) := by decide +kernel
theorem dX3_cut_99 : decode cX3_cut 99 = .ok (.ldiv, 1) := by decide +kernel
theorem dX3_cut_100 : decode cX3_cut 100 = .ok (.lstore_n 3, 1) := by decide +kernel
theorem dX3_cut_101 : decode cX3_cut 101 = .ok (.iinc 7 (-1), 3) := by decide +kernel
theorem dX3_cut_104 : decode cX3_cut 104 = .ok (.goto (-18), 3) := by decide +kernel
theorem dX3_cut_107 : decode cX3_cut 107 = .ok (.aload_n 0, 1) := by decide +kernel
theorem dX3_cut_108 : decode cX3_cut 108 = .ok (.getfield 9, 3) := by decide +kernel
theorem dX3_cut_111 : decode cX3_cut 111 = .ok (.lconst 0, 1) := by decide +kernel
theorem dX3_cut_112 : decode cX3_cut 112 = .ok (.lcmp, 1) := by decide +kernel
theorem dX3_cut_113 : decode cX3_cut 113 = .ok (.ifCond .ge 8, 3) := by decide +kernel
theorem dX3_cut_116 : decode cX3_cut 116 = .ok (.lload_n 3, 1) := by decide +kernel
theorem dX3_cut_117 : decode cX3_cut 117 = .ok (.lneg, 1) := by decide +kernel
theorem dX3_cut_118 : decode cX3_cut 118 = .ok (.goto 4, 3) := by decide +kernel
theorem dX3_cut_121 : decode cX3_cut 121 = .ok (.lload_n 3, 1) := by decide +kernel
theorem dX3_cut_122 : decode cX3_cut 122 = .ok (.lreturn, 1) := by decide +kernel
set_option maxRecDepth 10000 in
theorem TX3_cut_0 {d : Nat} {S : fW} {h : fH} {Q : Int64 → fH → Prop} {r0 : Nat}  
    (hs1 : (r0, shX3) ∈ S)
    (sd1 : (0 : Int64) < (h.2.1 r0 1) → ¬ (h.2.1 r0 1) = 0)
    (k1 : (0 : Int64) < (h.2.1 r0 1) → G mX3_cut (d + 1) S (f_PL Q) 37 [(0, .ref r0), (3, .long ((if 0 < (h.2.1 r0 0) then h.2.1 r0 0 else -(h.2.1 r0 0)) / (h.2.1 r0 1))), (5, .long ((if 0 < (h.2.1 r0 0) then h.2.1 r0 0 else -(h.2.1 r0 0)) - (if 0 < (h.2.1 r0 0) then h.2.1 r0 0 else -(h.2.1 r0 0)) / (h.2.1 r0 1) * (h.2.1 r0 1))), (7, .int (0 : Int32))] [] h)
    (k2 : ¬ (0 : Int64) < (h.2.1 r0 1) → Q (0 : Int64) h) :
    OkL (d + 1) mX3_cut S [.ref r0] h Q := by
  refine Ok.of (by decide) (Nat.le_of_ble_eq_true rfl) ?_
  refine G_aload_n 0 rfl dX3_cut_0 rfl ?_
  refine G_getl (k := 1) hs1 (q := (RX3, TX3, 3)) rfl inX3 (by decide) rfl hF_X3_15 dX3_cut_1 ?_
  refine G_lconst (v := 0) dX3_cut_4 (by decide) ?_
  refine G_lif_gt (tgt := 11) dX3_cut_5 dX3_cut_6 (by decide) (fun c1 => ?_) (fun c1 => ?_)
  · refine G_aload_n 0 rfl dX3_cut_11 rfl ?_
    refine G_getl (k := 0) hs1 (q := (RX3, TX3, 3)) rfl inX3 (by decide) rfl hF_X3_9 dX3_cut_12 ?_
    refine G_mabs hL_X3_34 (Nat.le_of_ble_eq_true rfl) dX3_cut_15 ?_
    refine G_lstore_n dX3_cut_18 rfl (by decide) (lv' := [(1, .long (if 0 < (h.2.1 r0 0) then h.2.1 r0 0 else -(h.2.1 r0 0))), (0, .ref r0)]) rfl ?_
    refine G_lload_n 0 rfl dX3_cut_19 rfl ?_
    refine G_aload_n 1 rfl dX3_cut_20 rfl ?_
    refine G_getl (k := 1) hs1 (q := (RX3, TX3, 3)) rfl inX3 (by decide) rfl hF_X3_15 dX3_cut_21 ?_
    refine G_ldiv dX3_cut_24 (sd1 c1) ?_
    refine G_lstore_n dX3_cut_25 rfl (by decide) (lv' := [(3, .long ((if 0 < (h.2.1 r0 0) then h.2.1 r0 0 else -(h.2.1 r0 0)) / (h.2.1 r0 1))), (1, .long (if 0 < (h.2.1 r0 0) then h.2.1 r0 0 else -(h.2.1 r0 0))), (0, .ref r0)]) rfl ?_
    refine G_lload_n 1 rfl dX3_cut_26 rfl ?_
    refine G_aload_n 2 rfl dX3_cut_27 rfl ?_
    refine G_getl (k := 1) hs1 (q := (RX3, TX3, 3)) rfl inX3 (by decide) rfl hF_X3_15 dX3_cut_28 ?_
    refine G_lrem dX3_cut_31 (sd1 c1) ?_
    refine G_lstore dX3_cut_32 (by decide) (lv' := [(5, .long ((if 0 < (h.2.1 r0 0) then h.2.1 r0 0 else -(h.2.1 r0 0)) - (if 0 < (h.2.1 r0 0) then h.2.1 r0 0 else -(h.2.1 r0 0)) / (h.2.1 r0 1) * (h.2.1 r0 1))), (3, .long ((if 0 < (h.2.1 r0 0) then h.2.1 r0 0 else -(h.2.1 r0 0)) / (h.2.1 r0 1))), (1, .long (if 0 < (h.2.1 r0 0) then h.2.1 r0 0 else -(h.2.1 r0 0))), (0, .ref r0)]) rfl ?_
    refine G_iconst (v := 0) dX3_cut_34 (by decide) ?_
    refine G_istore dX3_cut_35 (by decide) (lv' := [(7, .int (0 : Int32)), (5, .long ((if 0 < (h.2.1 r0 0) then h.2.1 r0 0 else -(h.2.1 r0 0)) - (if 0 < (h.2.1 r0 0) then h.2.1 r0 0 else -(h.2.1 r0 0)) / (h.2.1 r0 1) * (h.2.1 r0 1))), (3, .long ((if 0 < (h.2.1 r0 0) then h.2.1 r0 0 else -(h.2.1 r0 0)) / (h.2.1 r0 1))), (1, .long (if 0 < (h.2.1 r0 0) then h.2.1 r0 0 else -(h.2.1 r0 0))), (0, .ref r0)]) rfl ?_
    exact G_sub [4, 2, 1, 0] rfl (k1 c1)
  · refine G_lconst (v := 0) dX3_cut_9 (by decide) ?_
    exact G_lret rfl dX3_cut_10 ⟨_, rfl, (k2 c1)⟩

set_option maxRecDepth 10000 in
theorem TX3_cut_37 {d : Nat} {S : fW} {h : fH} {Q : Int64 → fH → Prop} {r0 : Nat} {x3 : Int64} {x5 : Int64} {x7 : Int32}  
    (hs1 : (r0, shX3) ∈ S)
    (k1 : (h.1 r0 2) ≤ x7 → G mX3_cut (d + 1) S (f_PL Q) 86 [(0, .ref r0), (3, .long x3), (7, .int (0 : Int32))] [] h)
    (sd1 : ¬ (h.1 r0 2) ≤ x7 → ¬ (h.2.1 r0 1) = 0)
    (k2 : ¬ (h.1 r0 2) ≤ x7 → G mX3_cut (d + 1) S (f_PL Q) 37 [(0, .ref r0), (3, .long ((x3 * (10 : Int64)) + ((x5 * (10 : Int64)) / (h.2.1 r0 1)))), (5, .long ((x5 * (10 : Int64)) - (x5 * (10 : Int64)) / (h.2.1 r0 1) * (h.2.1 r0 1))), (7, .int (x7 + 1))] [] h) :
    G mX3_cut (d + 1) S (f_PL Q) 37 [(0, .ref r0), (3, .long x3), (5, .long x5), (7, .int x7)] [] h := by
  refine G_iload 3 rfl dX3_cut_37 ?_
  refine G_aload_n 0 rfl dX3_cut_39 rfl ?_
  refine G_geti (k := 2) hs1 (q := (RX3, TX3, 3)) rfl inX3 (by decide) (Or.inl rfl) hF_X3_18 dX3_cut_40 ?_
  refine G_icmp_ge (tgt := 83) dX3_cut_43 (by decide) (fun c1 => ?_) (fun c1 => ?_)
  · refine G_iconst (v := 0) dX3_cut_83 (by decide) ?_
    refine G_istore dX3_cut_84 (by decide) (lv' := [(7, .int (0 : Int32)), (0, .ref r0), (3, .long x3), (5, .long x5)]) rfl ?_
    exact G_sub [1, 2, 0] rfl (k1 c1)
  · refine G_lload 2 rfl dX3_cut_46 ?_
    refine G_ldc2 hK_X3_40 dX3_cut_48 ?_
    refine G_lmul dX3_cut_51 ?_
    refine G_lstore dX3_cut_52 (by decide) (lv' := [(5, .long (x5 * (10 : Int64))), (0, .ref r0), (3, .long x3), (7, .int x7)]) rfl ?_
    refine G_lload_n 2 rfl dX3_cut_54 rfl ?_
    refine G_ldc2 hK_X3_40 dX3_cut_55 ?_
    refine G_lmul dX3_cut_58 ?_
    refine G_lload 0 rfl dX3_cut_59 ?_
    refine G_aload_n 1 rfl dX3_cut_61 rfl ?_
    refine G_getl (k := 1) hs1 (q := (RX3, TX3, 3)) rfl inX3 (by decide) rfl hF_X3_15 dX3_cut_62 ?_
    refine G_ldiv dX3_cut_65 (sd1 c1) ?_
    refine G_ladd dX3_cut_66 ?_
    refine G_lstore_n dX3_cut_67 rfl (by decide) (lv' := [(3, .long ((x3 * (10 : Int64)) + ((x5 * (10 : Int64)) / (h.2.1 r0 1)))), (5, .long (x5 * (10 : Int64))), (0, .ref r0), (7, .int x7)]) rfl ?_
    refine G_lload 1 rfl dX3_cut_68 ?_
    refine G_aload_n 2 rfl dX3_cut_70 rfl ?_
    refine G_getl (k := 1) hs1 (q := (RX3, TX3, 3)) rfl inX3 (by decide) rfl hF_X3_15 dX3_cut_71 ?_
    refine G_lrem dX3_cut_74 (sd1 c1) ?_
    refine G_lstore dX3_cut_75 (by decide) (lv' := [(5, .long ((x5 * (10 : Int64)) - (x5 * (10 : Int64)) / (h.2.1 r0 1) * (h.2.1 r0 1))), (3, .long ((x3 * (10 : Int64)) + ((x5 * (10 : Int64)) / (h.2.1 r0 1)))), (0, .ref r0), (7, .int x7)]) rfl ?_
    refine G_iinc (v := 1) 3 rfl dX3_cut_77 (by decide) (by decide) (lv' := [(7, .int (x7 + 1)), (5, .long ((x5 * (10 : Int64)) - (x5 * (10 : Int64)) / (h.2.1 r0 1) * (h.2.1 r0 1))), (3, .long ((x3 * (10 : Int64)) + ((x5 * (10 : Int64)) / (h.2.1 r0 1)))), (0, .ref r0)]) rfl ?_
    refine G_goto (tgt := 37) dX3_cut_80 (by decide) ?_
    exact G_sub [3, 2, 1, 0] rfl (k2 c1)

set_option maxRecDepth 10000 in
theorem TX3_cut_86 {d : Nat} {S : fW} {h : fH} {Q : Int64 → fH → Prop} {r0 : Nat} {x3 : Int64} {x7 : Int32}  
    (hs1 : (r0, shX3) ∈ S)
    (k1 : x7 ≤ (h.1 r0 2) → (0 : Int64) ≤ (h.2.1 r0 0) → Q x3 h)
    (k2 : x7 ≤ (h.1 r0 2) → ¬ (0 : Int64) ≤ (h.2.1 r0 0) → Q (-x3) h)
    (k3 : ¬ x7 ≤ (h.1 r0 2) → G mX3_cut (d + 1) S (f_PL Q) 86 [(0, .ref r0), (3, .long (x3 / (10 : Int64))), (7, .int (x7 + (-1)))] [] h) :
    G mX3_cut (d + 1) S (f_PL Q) 86 [(0, .ref r0), (3, .long x3), (7, .int x7)] [] h := by
  refine G_iload 2 rfl dX3_cut_86 ?_
  refine G_aload_n 0 rfl dX3_cut_88 rfl ?_
  refine G_geti (k := 2) hs1 (q := (RX3, TX3, 3)) rfl inX3 (by decide) (Or.inl rfl) hF_X3_18 dX3_cut_89 ?_
  refine G_icmp_le (tgt := 107) dX3_cut_92 (by decide) (fun c1 => ?_) (fun c1 => ?_)
  · refine G_aload_n 0 rfl dX3_cut_107 rfl ?_
    refine G_getl (k := 0) hs1 (q := (RX3, TX3, 3)) rfl inX3 (by decide) rfl hF_X3_9 dX3_cut_108 ?_
    refine G_lconst (v := 0) dX3_cut_111 (by decide) ?_
    refine G_lif_ge (tgt := 121) dX3_cut_112 dX3_cut_113 (by decide) (fun c2 => ?_) (fun c2 => ?_)
    · refine G_lload_n 1 rfl dX3_cut_121 rfl ?_
      exact G_lret rfl dX3_cut_122 ⟨_, rfl, (k1 c1 c2)⟩
    · refine G_lload_n 1 rfl dX3_cut_116 rfl ?_
      refine G_lneg dX3_cut_117 ?_
      refine G_goto (tgt := 122) dX3_cut_118 (by decide) ?_
      exact G_lret rfl dX3_cut_122 ⟨_, rfl, (k2 c1 c2)⟩
  · refine G_lload_n 1 rfl dX3_cut_95 rfl ?_
    refine G_ldc2 hK_X3_40 dX3_cut_96 ?_
    refine G_ldiv dX3_cut_99 (by decide) ?_
    refine G_lstore_n dX3_cut_100 rfl (by decide) (lv' := [(3, .long (x3 / (10 : Int64))), (0, .ref r0), (7, .int x7)]) rfl ?_
    refine G_iinc (v := -1) 2 rfl dX3_cut_101 (by decide) (by decide) (lv' := [(7, .int (x7 + (-1))), (3, .long (x3 / (10 : Int64))), (0, .ref r0)]) rfl ?_
    refine G_goto (tgt := 86) dX3_cut_104 (by decide) ?_
    exact G_sub [2, 1, 0] rfl (k3 c1)

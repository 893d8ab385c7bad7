-- LostDigits$Spans.bound
theorem dX7_bound_0 : decode cX7_bound 0 = .ok (.aload_n 0, 1) := by decide +kernel
theorem dX7_bound_1 : decode cX7_bound 1 = .ok (.getfield 28, 3) := by decide +kernel
theorem dX7_bound_4 : decode cX7_bound 4 = .ok (.aload_n 1, 1) := by decide +kernel
theorem dX7_bound_5 : decode cX7_bound 5 = .ok (.getfield 65, 3) := by decide +kernel
theorem dX7_bound_8 : decode cX7_bound 8 = .ok (.iconst 3, 1) := by decide +kernel
theorem dX7_bound_9 : decode cX7_bound 9 = .ok (.invokevirtual 71, 3) := by decide +kernel
theorem dX7_bound_12 : decode cX7_bound 12 = .ok (.aload_n 0, 1) := by decide +kernel
theorem dX7_bound_13 : decode cX7_bound 13 = .ok (.getfield 32, 3) := by decide +kernel
theorem dX7_bound_16 : decode cX7_bound 16 = .ok (.aload_n 1, 1) := by decide +kernel
theorem dX7_bound_17 : decode cX7_bound 17 = .ok (.getfield 65, 3) := by decide +kernel
theorem dX7_bound_20 : decode cX7_bound 20 = .ok (.iconst 2, 1) := by decide +kernel
theorem dX7_bound_21 : decode cX7_bound 21 = .ok (.invokevirtual 71, 3) := by decide +kernel
theorem dX7_bound_24 : decode cX7_bound 24 = .ok (.aload_n 1, 1) := by decide +kernel
theorem dX7_bound_25 : decode cX7_bound 25 = .ok (.getfield 75, 3) := by decide +kernel
theorem dX7_bound_28 : decode cX7_bound 28 = .ok (.getfield 79, 3) := by decide +kernel
theorem dX7_bound_31 : decode cX7_bound 31 = .ok (.bipush 13, 2) := by decide +kernel
theorem dX7_bound_33 : decode cX7_bound 33 = .ok (.invokestatic 84, 3) := by decide +kernel
theorem dX7_bound_36 : decode cX7_bound 36 = .ok (.iconst 1, 1) := by decide +kernel
theorem dX7_bound_37 : decode cX7_bound 37 = .ok (.isub, 1) := by decide +kernel
theorem dX7_bound_38 : decode cX7_bound 38 = .ok (.istore_n 2, 1) := by decide +kernel
theorem dX7_bound_39 : decode cX7_bound 39 = .ok (.iload_n 2, 1) := by decide +kernel
theorem dX7_bound_40 : decode cX7_bound 40 = .ok (.ifCond .lt 136, 3) := by decide +kernel
theorem dX7_bound_43 : decode cX7_bound 43 = .ok (.aload_n 1, 1) := by decide +kernel
theorem dX7_bound_44 : decode cX7_bound 44 = .ok (.getfield 75, 3) := by decide +kernel
theorem dX7_bound_47 : decode cX7_bound 47 = .ok (.iload_n 2, 1) := by decide +kernel
theorem dX7_bound_48 : decode cX7_bound 48 = .ok (.invokevirtual 90, 3) := by decide +kernel
theorem dX7_bound_51 : decode cX7_bound 51 = .ok (.istore_n 3, 1) := by decide +kernel
theorem dX7_bound_52 : decode cX7_bound 52 = .ok (.iload_n 3, 1) := by decide +kernel
theorem dX7_bound_53 : decode cX7_bound 53 = .ok (.invokestatic 94, 3) := by decide +kernel
theorem dX7_bound_56 : decode cX7_bound 56 = .ok (.ifCond .eq 20, 3) := by decide +kernel
theorem dX7_bound_59 : decode cX7_bound 59 = .ok (.aload_n 0, 1) := by decide +kernel
theorem dX7_bound_60 : decode cX7_bound 60 = .ok (.iload_n 2, 1) := by decide +kernel
theorem dX7_bound_61 : decode cX7_bound 61 = .ok (.iload_n 3, 1) := by decide +kernel
theorem dX7_bound_62 : decode cX7_bound 62 = .ok (.aload_n 1, 1) := by decide +kernel
theorem dX7_bound_63 : decode cX7_bound 63 = .ok (.getfield 75, 3) := by decide +kernel
theorem dX7_bound_66 : decode cX7_bound 66 = .ok (.iload_n 2, 1) := by decide +kernel
theorem dX7_bound_67 : decode cX7_bound 67 = .ok (.invokevirtual 98, 3) := by decide +kernel
theorem dX7_bound_70 : decode cX7_bound 70 = .ok (.invokevirtual 101, 3) := by decide +kernel
theorem dX7_bound_73 : decode cX7_bound 73 = .ok (.goto 97, 3) := by decide +kernel
theorem dX7_bound_76 : decode cX7_bound 76 = .ok (.iload_n 3, 1) := by decide +kernel
theorem dX7_bound_77 : decode cX7_bound 77 = .ok (.invokestatic 105, 3) := by decide +kernel
theorem dX7_bound_80 : decode cX7_bound 80 = .ok (.ifCond .eq 14, 3) := by decide +kernel
theorem dX7_bound_83 : decode cX7_bound 83 = .ok (.iload_n 3, 1) := by decide +kernel
theorem dX7_bound_84 : decode cX7_bound 84 = .ok (.aload_n 1, 1) := by decide +kernel
theorem dX7_bound_85 : decode cX7_bound 85 = .ok (.getfield 108, 3) := by decide +kernel
theorem dX7_bound_88 : decode cX7_bound 88 = .ok (.invokestatic 111, 3) := by decide +kernel
theorem dX7_bound_91 : decode cX7_bound 91 = .ok (.goto 4, 3) := by decide +kernel
theorem dX7_bound_94 : decode cX7_bound 94 = .ok (.iconst 0, 1) := by decide +kernel
theorem dX7_bound_95 : decode cX7_bound 95 = .ok (.istore 4, 2) := by decide +kernel
theorem dX7_bound_97 : decode cX7_bound 97 = .ok (.iload_n 3, 1) := by decide +kernel
theorem dX7_bound_98 : decode cX7_bound 98 = .ok (.aload_n 1, 1) := by decide +kernel
theorem dX7_bound_99 : decode cX7_bound 99 = .ok (.getfield 115, 3) := by decide +kernel
theorem dX7_bound_102 : decode cX7_bound 102 = .ok (.invokestatic 111, 3) := by decide +kernel
theorem dX7_bound_105 : decode cX7_bound 105 = .ok (.istore 5, 2) := by decide +kernel
theorem dX7_bound_107 : decode cX7_bound 107 = .ok (.aload_n 0, 1) := by decide +kernel
theorem dX7_bound_108 : decode cX7_bound 108 = .ok (.getfield 21, 3) := by decide +kernel
theorem dX7_bound_111 : decode cX7_bound 111 = .ok (.iload 5, 2) := by decide +kernel
theorem dX7_bound_113 : decode cX7_bound 113 = .ok (.i2l, 1) := by decide +kernel
theorem dX7_bound_114 : decode cX7_bound 114 = .ok (.lconst 1, 1) := by decide +kernel
theorem dX7_bound_115 : decode cX7_bound 115 = .ok (.bipush 9, 2) := by decide +kernel
theorem dX7_bound_117 : decode cX7_bound 117 = .ok (.invokevirtual 118, 3) := by decide +kernel
theorem dX7_bound_120 : decode cX7_bound 120 = .ok (.aload_n 0, 1) := by decide +kernel
theorem dX7_bound_121 : decode cX7_bound 121 = .ok (.getfield 9, 3) := by decide +kernel
theorem dX7_bound_124 : decode cX7_bound 124 = .ok (.iload_n 2, 1) := by decide +kernel
theorem dX7_bound_125 : decode cX7_bound 125 = .ok (.aload_n 0, 1) := by decide +kernel
theorem dX7_bound_126 : decode cX7_bound 126 = .ok (.getfield 28, 3) := by decide +kernel
theorem dX7_bound_129 : decode cX7_bound 129 = .ok (.aload_n 0, 1) := by decide +kernel
theorem dX7_bound_130 : decode cX7_bound 130 = .ok (.getfield 21, 3) := by decide +kernel
theorem dX7_bound_133 : decode cX7_bound 133 = .ok (.invokevirtual 122, 3) := by decide +kernel
theorem dX7_bound_136 : decode cX7_bound 136 = .ok (.lastore, 1) := by decide +kernel
theorem dX7_bound_137 : decode cX7_bound 137 = .ok (.aload_n 0, 1) := by decide +kernel
theorem dX7_bound_138 : decode cX7_bound 138 = .ok (.getfield 21, 3) := by decide +kernel
theorem dX7_bound_141 : decode cX7_bound 141 = .ok (.iload 5, 2) := by decide +kernel
theorem dX7_bound_143 : decode cX7_bound 143 = .ok (.iload 4, 2) := by decide +kernel
theorem dX7_bound_145 : decode cX7_bound 145 = .ok (.iadd, 1) := by decide +kernel
theorem dX7_bound_146 : decode cX7_bound 146 = .ok (.i2l, 1) := by decide +kernel
theorem dX7_bound_147 : decode cX7_bound 147 = .ok (.lconst 1, 1) := by decide +kernel
theorem dX7_bound_148 : decode cX7_bound 148 = .ok (.bipush 9, 2) := by decide +kernel
theorem dX7_bound_150 : decode cX7_bound 150 = .ok (.invokevirtual 118, 3) := by decide +kernel
theorem dX7_bound_153 : decode cX7_bound 153 = .ok (.aload_n 0, 1) := by decide +kernel
theorem dX7_bound_154 : decode cX7_bound 154 = .ok (.getfield 15, 3) := by decide +kernel
theorem dX7_bound_157 : decode cX7_bound 157 = .ok (.iload_n 2, 1) := by decide +kernel
theorem dX7_bound_158 : decode cX7_bound 158 = .ok (.aload_n 0, 1) := by decide +kernel
theorem dX7_bound_159 : decode cX7_bound 159 = .ok (.getfield 32, 3) := by decide +kernel
theorem dX7_bound_162 : decode cX7_bound 162 = .ok (.aload_n 0, 1) := by decide +kernel
theorem dX7_bound_163 : decode cX7_bound 163 = .ok (.getfield 21, 3) := by decide +kernel
theorem dX7_bound_166 : decode cX7_bound 166 = .ok (.invokevirtual 122, 3) := by decide +kernel
theorem dX7_bound_169 : decode cX7_bound 169 = .ok (.lastore, 1) := by decide +kernel
theorem dX7_bound_170 : decode cX7_bound 170 = .ok (.iinc 2 (-1), 3) := by decide +kernel
theorem dX7_bound_173 : decode cX7_bound 173 = .ok (.goto (-134), 3) := by decide +kernel
theorem dX7_bound_176 : decode cX7_bound 176 = .ok (.return_, 1) := by decide +kernel
set_option maxRecDepth 10000 in
theorem NX7_bound_0 {d : Nat} {S : fW} {h : fH} {Q : fH → Prop} {r0 : Nat} {r1 : Nat} {r0_low r0_high r0_ratio r0_down r0_up r0_fractions r0_trial r0_widths r1_text r1_numbers r1_spans r1_terms r1_text_signs r1_text_ends r1_text_letters : Nat}  
    (hs1 : (r0, shX7 r0_low r0_high r0_ratio r0_down r0_up r0_fractions r0_trial r0_widths) ∈ S)
    (hs2 : (r1, shX2 r1_text r1_numbers r1_spans r1_terms) ∈ S)
    (hs3 : (r0_down, shX4) ∈ S)
    (hs4 : (r0_up, shX4) ∈ S)
    (hs5 : (r1_text, shX10 r1_text_signs r1_text_ends r1_text_letters) ∈ S)
    (w : ∃ Q1 : fH → Prop, OkV d mX4_turn S [.ref r0_down, .int (h.1 r1 5), .int (3 : Int32)] h Q1 ∧ ∀ (h_1 : fH), Q1 h_1 → ∃ Q2 : fH → Prop, OkV d mX4_turn S [.ref r0_up, .int (h_1.1 r1 5), .int (2 : Int32)] h_1 Q2 ∧ ∀ (h_2 : fH), Q2 h_2 → G mX7_bound (d + 1) S (f_PV Q) 39 [(0, .ref r0), (1, .ref r1), (2, .int ((if (13 : Int32) < (h_2.1 r1_text 3) then (13 : Int32) else (h_2.1 r1_text 3)) - (1 : Int32)))] [] h_2) :
    OkV (d + 1) mX7_bound S [.ref r0, .ref r1] h Q := by
  refine Ok.of (by decide) (Nat.le_of_ble_eq_true rfl) ?_
  refine G_aload_n 0 rfl dX7_bound_0 rfl ?_
  refine G_getr (j := r0_down) (k := 3) hs1 (q := (RX7, TX7, 11)) rfl inX7 (by decide) rfl hF_X7_28 dX7_bound_1 ?_
  refine G_aload_n 1 rfl dX7_bound_4 rfl ?_
  refine G_geti (k := 5) hs2 (q := (RX2, TX2, 8)) rfl inX2 (by decide) (Or.inl rfl) hF_X7_65 dX7_bound_5 ?_
  refine G_iconst (v := 3) dX7_bound_8 (by decide) ?_
  obtain ⟨Q1, ok1, w⟩ := w
  refine G_callV (Z := mX4_turn) (As := [.int (h.1 r1 5), .int (3 : Int32)]) (st := []) hL_X7_71 hI_X4_turn hS_X4_turn hC_X4_turn hN_X4 nX4_turn (by decide) hs3 rfl rfl rfl (Nat.le_of_ble_eq_true rfl) dX7_bound_9 ok1 (fun r_ h_1 z_ => ?_)
  obtain ⟨rfl, q_1⟩ := z_
  have w := w h_1 q_1
  refine G_aload_n 0 rfl dX7_bound_12 rfl ?_
  refine G_getr (j := r0_up) (k := 4) hs1 (q := (RX7, TX7, 11)) rfl inX7 (by decide) rfl hF_X7_32 dX7_bound_13 ?_
  refine G_aload_n 1 rfl dX7_bound_16 rfl ?_
  refine G_geti (k := 5) hs2 (q := (RX2, TX2, 8)) rfl inX2 (by decide) (Or.inl rfl) hF_X7_65 dX7_bound_17 ?_
  refine G_iconst (v := 2) dX7_bound_20 (by decide) ?_
  obtain ⟨Q2, ok2, w⟩ := w
  refine G_callV (Z := mX4_turn) (As := [.int (h_1.1 r1 5), .int (2 : Int32)]) (st := []) hL_X7_71 hI_X4_turn hS_X4_turn hC_X4_turn hN_X4 nX4_turn (by decide) hs4 rfl rfl rfl (Nat.le_of_ble_eq_true rfl) dX7_bound_21 ok2 (fun r_ h_2 z_ => ?_)
  obtain ⟨rfl, q_2⟩ := z_
  have w := w h_2 q_2
  refine G_aload_n 1 rfl dX7_bound_24 rfl ?_
  refine G_getr (j := r1_text) (k := 0) hs2 (q := (RX2, TX2, 8)) rfl inX2 (by decide) rfl hF_X7_75 dX7_bound_25 ?_
  refine G_geti (k := 3) hs5 (q := (RX10, TX10, 4)) rfl inX10 (by decide) (Or.inl rfl) hF_X7_79 dX7_bound_28 ?_
  refine G_bipush (v := 13) dX7_bound_31 (by decide) ?_
  refine G_mminI hL_X7_84 (Nat.le_of_ble_eq_true rfl) dX7_bound_33 ?_
  refine G_iconst (v := 1) dX7_bound_36 (by decide) ?_
  refine G_isub dX7_bound_37 ?_
  refine G_istore_n dX7_bound_38 rfl (by decide) (lv' := [(2, .int ((if (13 : Int32) < (h_2.1 r1_text 3) then (13 : Int32) else (h_2.1 r1_text 3)) - (1 : Int32))), (0, .ref r0), (1, .ref r1)]) rfl ?_
  exact G_sub [1, 2, 0] rfl w

set_option maxRecDepth 10000 in
theorem NX7_bound_39 {d : Nat} {S : fW} {h : fH} {Q : fH → Prop} {r0 : Nat} {r1 : Nat} {x2 : Int32} {r1_text r1_numbers r1_spans r1_terms r1_text_signs r1_text_ends r1_text_letters r0_low r0_high r0_ratio r0_down r0_up r0_fractions r0_trial r0_widths : Nat}  
    (hs1 : (r1, shX2 r1_text r1_numbers r1_spans r1_terms) ∈ S)
    (hs2 : (r1_text, shX10 r1_text_signs r1_text_ends r1_text_letters) ∈ S)
    (hs3 : (r0, shX7 r0_low r0_high r0_ratio r0_down r0_up r0_fractions r0_trial r0_widths) ∈ S)
    (w : ((x2 < 0 → Q h) ∧ (¬ x2 < 0 → ∃ Q1 : Int32 → fH → Prop, OkI d mX10_signAt S [.ref r1_text, .int x2] h Q1 ∧ ∀ (v_1 : Int32) (h_1 : fH), Q1 v_1 h_1 → ∃ Q2 : Int32 → fH → Prop, OkI d mX11_isOperator S [.int v_1] h_1 Q2 ∧ ∀ (v_2 : Int32) (h_2 : fH), Q2 v_2 h_2 → ((v_2 = 0 → ∃ Q3 : Int32 → fH → Prop, OkI d mX11_isLetter S [.int v_1] h_2 Q3 ∧ ∀ (v_3 : Int32) (h_3 : fH), Q3 v_3 h_3 → ((v_3 = 0 → G mX7_bound (d + 1) S (f_PV Q) 95 [(0, .ref r0), (1, .ref r1), (2, .int x2), (3, .int v_1)] [.int (0 : Int32)] h_3) ∧ (¬ v_3 = 0 → ∃ Q4 : Int32 → fH → Prop, OkI d mX11_numberOf S [.int v_1, .ref r1_spans] h_3 Q4 ∧ ∀ (v_4 : Int32) (h_4 : fH), Q4 v_4 h_4 → G mX7_bound (d + 1) S (f_PV Q) 95 [(0, .ref r0), (1, .ref r1), (2, .int x2), (3, .int v_1)] [.int v_4] h_4))) ∧ (¬ v_2 = 0 → ∃ Q5 : Int32 → fH → Prop, OkI d mX10_secondOf S [.ref r1_text, .int x2] h_2 Q5 ∧ ∀ (v_5 : Int32) (h_5 : fH), Q5 v_5 h_5 → ∃ Q6 : fH → Prop, OkV d mX7_join S [.ref r0, .int x2, .int v_1, .int v_5] h_5 Q6 ∧ ∀ (h_6 : fH), Q6 h_6 → G mX7_bound (d + 1) S (f_PV Q) 39 [(0, .ref r0), (1, .ref r1), (2, .int (x2 + (-1)))] [] h_6))))) :
    G mX7_bound (d + 1) S (f_PV Q) 39 [(0, .ref r0), (1, .ref r1), (2, .int x2)] [] h := by
  refine G_iload_n 2 rfl dX7_bound_39 rfl ?_
  refine G_if_lt (tgt := 176) dX7_bound_40 (by decide) (fun c1 => ?_) (fun c1 => ?_)
  · have w := w.1 c1
    exact G_vret rfl dX7_bound_176 ⟨rfl, w⟩
  · have w := w.2 c1
    refine G_aload_n 1 rfl dX7_bound_43 rfl ?_
    refine G_getr (j := r1_text) (k := 0) hs1 (q := (RX2, TX2, 8)) rfl inX2 (by decide) rfl hF_X7_75 dX7_bound_44 ?_
    refine G_iload_n 2 rfl dX7_bound_47 rfl ?_
    obtain ⟨Q1, ok1, w⟩ := w
    refine G_callV (Z := mX10_signAt) (As := [.int x2]) (st := []) hL_X7_90 hI_X10_signAt hS_X10_signAt hC_X10_signAt hN_X10 nX10_signAt (by decide) hs2 rfl rfl rfl (Nat.le_of_ble_eq_true rfl) dX7_bound_48 ok1 (fun r_ h_1 z_ => ?_)
    obtain ⟨v_1, rfl, q_1⟩ := z_
    have w := w v_1 h_1 q_1
    refine G_istore_n dX7_bound_51 rfl (by decide) (lv' := [(3, .int v_1), (0, .ref r0), (1, .ref r1), (2, .int x2)]) rfl ?_
    refine G_iload_n 0 rfl dX7_bound_52 rfl ?_
    obtain ⟨Q2, ok2, w⟩ := w
    refine G_callN (Z := mX11_isOperator) (As := [.int v_1]) (st := []) hM_X7_94 hT_X11_isOperator hC_X11_isOperator hN_X11 nX11_isOperator (by decide) rfl (Nat.le_of_ble_eq_true rfl) dX7_bound_53 ok2 (fun r_ h_2 z_ => ?_)
    obtain ⟨v_2, rfl, q_2⟩ := z_
    have w := w v_2 h_2 q_2
    refine G_if_eq (tgt := 76) dX7_bound_56 (by decide) (fun c2 => ?_) (fun c2 => ?_)
    · have w := w.1 c2
      refine G_iload_n 0 rfl dX7_bound_76 rfl ?_
      obtain ⟨Q3, ok3, w⟩ := w
      refine G_callN (Z := mX11_isLetter) (As := [.int v_1]) (st := []) hM_X7_105 hT_X11_isLetter hC_X11_isLetter hN_X11 nX11_isLetter (by decide) rfl (Nat.le_of_ble_eq_true rfl) dX7_bound_77 ok3 (fun r_ h_3 z_ => ?_)
      obtain ⟨v_3, rfl, q_3⟩ := z_
      have w := w v_3 h_3 q_3
      refine G_if_eq (tgt := 94) dX7_bound_80 (by decide) (fun c3 => ?_) (fun c3 => ?_)
      · have w := w.1 c3
        refine G_iconst (v := 0) dX7_bound_94 (by decide) ?_
        exact G_sub [1, 2, 3, 0] rfl w
      · have w := w.2 c3
        refine G_iload_n 0 rfl dX7_bound_83 rfl ?_
        refine G_aload_n 2 rfl dX7_bound_84 rfl ?_
        refine G_getr (j := r1_spans) (k := 2) hs1 (q := (RX2, TX2, 8)) rfl inX2 (by decide) rfl hF_X7_108 dX7_bound_85 ?_
        obtain ⟨Q4, ok4, w⟩ := w
        refine G_callN (Z := mX11_numberOf) (As := [.int v_1, .ref r1_spans]) (st := []) hM_X7_111 hT_X11_numberOf hC_X11_numberOf hN_X11 nX11_numberOf (by decide) rfl (Nat.le_of_ble_eq_true rfl) dX7_bound_88 ok4 (fun r_ h_4 z_ => ?_)
        obtain ⟨v_4, rfl, q_4⟩ := z_
        have w := w v_4 h_4 q_4
        refine G_goto (tgt := 95) dX7_bound_91 (by decide) ?_
        exact G_sub [1, 2, 3, 0] rfl w
    · have w := w.2 c2
      refine G_aload_n 1 rfl dX7_bound_59 rfl ?_
      refine G_iload_n 3 rfl dX7_bound_60 rfl ?_
      refine G_iload_n 0 rfl dX7_bound_61 rfl ?_
      refine G_aload_n 2 rfl dX7_bound_62 rfl ?_
      refine G_getr (j := r1_text) (k := 0) hs1 (q := (RX2, TX2, 8)) rfl inX2 (by decide) rfl hF_X7_75 dX7_bound_63 ?_
      refine G_iload_n 3 rfl dX7_bound_66 rfl ?_
      obtain ⟨Q5, ok5, w⟩ := w
      refine G_callV (Z := mX10_secondOf) (As := [.int x2]) (st := [.int v_1, .int x2, .ref r0]) hL_X7_98 hI_X10_secondOf hS_X10_secondOf hC_X10_secondOf hN_X10 nX10_secondOf (by decide) hs2 rfl rfl rfl (Nat.le_of_ble_eq_true rfl) dX7_bound_67 ok5 (fun r_ h_5 z_ => ?_)
      obtain ⟨v_5, rfl, q_5⟩ := z_
      have w := w v_5 h_5 q_5
      obtain ⟨Q6, ok6, w⟩ := w
      refine G_callV (Z := mX7_join) (As := [.int x2, .int v_1, .int v_5]) (st := []) hL_X7_101 hI_X7_join hS_X7_join hC_X7_join hN_X7 nX7_join (by decide) hs3 rfl rfl rfl (Nat.le_of_ble_eq_true rfl) dX7_bound_70 ok6 (fun r_ h_6 z_ => ?_)
      obtain ⟨rfl, q_6⟩ := z_
      have w := w h_6 q_6
      refine G_goto (tgt := 170) dX7_bound_73 (by decide) ?_
      refine G_iinc (v := -1) 3 rfl dX7_bound_170 (by decide) (by decide) (lv' := [(2, .int (x2 + (-1))), (3, .int v_1), (0, .ref r0), (1, .ref r1)]) rfl ?_
      refine G_goto (tgt := 39) dX7_bound_173 (by decide) ?_
      exact G_sub [2, 3, 0] rfl w

set_option maxRecDepth 10000 in
theorem NX7_bound_95 {d : Nat} {S : fW} {h : fH} {Q : fH → Prop} {r0 : Nat} {r1 : Nat} {x2 : Int32} {x3 : Int32} {s0 : Int32} {r1_text r1_numbers r1_spans r1_terms r0_low r0_high r0_ratio r0_down r0_up r0_fractions r0_trial r0_widths : Nat}  
    (hs1 : (r1, shX2 r1_text r1_numbers r1_spans r1_terms) ∈ S)
    (hs2 : (r0, shX7 r0_low r0_high r0_ratio r0_down r0_up r0_fractions r0_trial r0_widths) ∈ S)
    (hs3 : (r0_ratio, shX3) ∈ S)
    (hs4 : (r0_down, shX4) ∈ S)
    (hs5 : (r0_low, shJ 13) ∈ S)
    (hs6 : (r0_up, shX4) ∈ S)
    (hs7 : (r0_high, shJ 13) ∈ S)
    (w : ∃ Q1 : Int32 → fH → Prop, OkI d mX11_numberOf S [.int x3, .ref r1_numbers] h Q1 ∧ ∀ (v_1 : Int32) (h_1 : fH), Q1 v_1 h_1 → ∃ Q2 : fH → Prop, OkV d mX3_hold S [.ref r0_ratio, .long v_1.toInt64, .long (1 : Int64), .int (9 : Int32)] h_1 Q2 ∧ ∀ (h_2 : fH), Q2 h_2 → ∃ Q3 : Int64 → fH → Prop, OkL d mX4_of S [.ref r0_down, .ref r0_ratio] h_2 Q3 ∧ ∀ (v_3 : Int64) (h_3 : fH), Q3 v_3 h_3 → vp_in x2 13 ∧ ∀ g_1 : fH, g_1 = u_al h_3 r0_low (vp_updL (h_3.2.2.2 r0_low) x2.toNatClampNeg v_3) → ∃ Q4 : fH → Prop, OkV d mX3_hold S [.ref r0_ratio, .long ((v_1 + s0).toInt64), .long (1 : Int64), .int (9 : Int32)] g_1 Q4 ∧ ∀ (h_4 : fH), Q4 h_4 → ∃ Q5 : Int64 → fH → Prop, OkL d mX4_of S [.ref r0_up, .ref r0_ratio] h_4 Q5 ∧ ∀ (v_5 : Int64) (h_5 : fH), Q5 v_5 h_5 → ∀ g_2 : fH, g_2 = u_al h_5 r0_high (vp_updL (h_5.2.2.2 r0_high) x2.toNatClampNeg v_5) → G mX7_bound (d + 1) S (f_PV Q) 39 [(0, .ref r0), (1, .ref r1), (2, .int (x2 + (-1)))] [] g_2) :
    G mX7_bound (d + 1) S (f_PV Q) 95 [(0, .ref r0), (1, .ref r1), (2, .int x2), (3, .int x3)] [.int s0] h := by
  refine G_istore dX7_bound_95 (by decide) (lv' := [(4, .int s0), (0, .ref r0), (1, .ref r1), (2, .int x2), (3, .int x3)]) rfl ?_
  refine G_iload_n 4 rfl dX7_bound_97 rfl ?_
  refine G_aload_n 2 rfl dX7_bound_98 rfl ?_
  refine G_getr (j := r1_numbers) (k := 1) hs1 (q := (RX2, TX2, 8)) rfl inX2 (by decide) rfl hF_X7_115 dX7_bound_99 ?_
  obtain ⟨Q1, ok1, w⟩ := w
  refine G_callN (Z := mX11_numberOf) (As := [.int x3, .ref r1_numbers]) (st := []) hM_X7_111 hT_X11_numberOf hC_X11_numberOf hN_X11 nX11_numberOf (by decide) rfl (Nat.le_of_ble_eq_true rfl) dX7_bound_102 ok1 (fun r_ h_1 z_ => ?_)
  obtain ⟨v_1, rfl, q_1⟩ := z_
  have w := w v_1 h_1 q_1
  refine G_istore dX7_bound_105 (by decide) (lv' := [(5, .int v_1), (4, .int s0), (0, .ref r0), (1, .ref r1), (2, .int x2), (3, .int x3)]) rfl ?_
  refine G_aload_n 2 rfl dX7_bound_107 rfl ?_
  refine G_getr (j := r0_ratio) (k := 2) hs2 (q := (RX7, TX7, 11)) rfl inX7 (by decide) rfl hF_X7_21 dX7_bound_108 ?_
  refine G_iload 0 rfl dX7_bound_111 ?_
  refine G_i2l dX7_bound_113 ?_
  refine G_lconst (v := 1) dX7_bound_114 (by decide) ?_
  refine G_bipush (v := 9) dX7_bound_115 (by decide) ?_
  obtain ⟨Q2, ok2, w⟩ := w
  refine G_callV (Z := mX3_hold) (As := [.long v_1.toInt64, .long (1 : Int64), .int (9 : Int32)]) (st := []) hL_X7_118 hI_X3_hold hS_X3_hold hC_X3_hold hN_X3 nX3_hold (by decide) hs3 rfl rfl rfl (Nat.le_of_ble_eq_true rfl) dX7_bound_117 ok2 (fun r_ h_2 z_ => ?_)
  obtain ⟨rfl, q_2⟩ := z_
  have w := w h_2 q_2
  refine G_aload_n 2 rfl dX7_bound_120 rfl ?_
  refine G_getr (j := r0_low) (k := 0) hs2 (q := (RX7, TX7, 11)) rfl inX7 (by decide) rfl hF_X7_9 dX7_bound_121 ?_
  refine G_iload_n 4 rfl dX7_bound_124 rfl ?_
  refine G_aload_n 2 rfl dX7_bound_125 rfl ?_
  refine G_getr (j := r0_down) (k := 3) hs2 (q := (RX7, TX7, 11)) rfl inX7 (by decide) rfl hF_X7_28 dX7_bound_126 ?_
  refine G_aload_n 2 rfl dX7_bound_129 rfl ?_
  refine G_getr (j := r0_ratio) (k := 2) hs2 (q := (RX7, TX7, 11)) rfl inX7 (by decide) rfl hF_X7_21 dX7_bound_130 ?_
  obtain ⟨Q3, ok3, w⟩ := w
  refine G_callV (Z := mX4_of) (As := [.ref r0_ratio]) (st := [.int x2, .ref r0_low]) hL_X7_122 hI_X4_of hS_X4_of hC_X4_of hN_X4 nX4_of (by decide) hs4 rfl rfl rfl (Nat.le_of_ble_eq_true rfl) dX7_bound_133 ok3 (fun r_ h_3 z_ => ?_)
  obtain ⟨v_3, rfl, q_3⟩ := z_
  have w := w v_3 h_3 q_3
  obtain ⟨sd1, w⟩ := w
  refine G_last hs5 sd1 dX7_bound_136 ?_
  refine G_nm (fun g_1 e_1 => ?_)
  have w := w g_1 e_1
  refine G_aload_n 2 rfl dX7_bound_137 rfl ?_
  refine G_getr (j := r0_ratio) (k := 2) hs2 (q := (RX7, TX7, 11)) rfl inX7 (by decide) rfl hF_X7_21 dX7_bound_138 ?_
  refine G_iload 0 rfl dX7_bound_141 ?_
  refine G_iload 1 rfl dX7_bound_143 ?_
  refine G_iadd dX7_bound_145 ?_
  refine G_i2l dX7_bound_146 ?_
  refine G_lconst (v := 1) dX7_bound_147 (by decide) ?_
  refine G_bipush (v := 9) dX7_bound_148 (by decide) ?_
  obtain ⟨Q4, ok4, w⟩ := w
  refine G_callV (Z := mX3_hold) (As := [.long ((v_1 + s0).toInt64), .long (1 : Int64), .int (9 : Int32)]) (st := []) hL_X7_118 hI_X3_hold hS_X3_hold hC_X3_hold hN_X3 nX3_hold (by decide) hs3 rfl rfl rfl (Nat.le_of_ble_eq_true rfl) dX7_bound_150 ok4 (fun r_ h_4 z_ => ?_)
  obtain ⟨rfl, q_4⟩ := z_
  have w := w h_4 q_4
  refine G_aload_n 2 rfl dX7_bound_153 rfl ?_
  refine G_getr (j := r0_high) (k := 1) hs2 (q := (RX7, TX7, 11)) rfl inX7 (by decide) rfl hF_X7_15 dX7_bound_154 ?_
  refine G_iload_n 4 rfl dX7_bound_157 rfl ?_
  refine G_aload_n 2 rfl dX7_bound_158 rfl ?_
  refine G_getr (j := r0_up) (k := 4) hs2 (q := (RX7, TX7, 11)) rfl inX7 (by decide) rfl hF_X7_32 dX7_bound_159 ?_
  refine G_aload_n 2 rfl dX7_bound_162 rfl ?_
  refine G_getr (j := r0_ratio) (k := 2) hs2 (q := (RX7, TX7, 11)) rfl inX7 (by decide) rfl hF_X7_21 dX7_bound_163 ?_
  obtain ⟨Q5, ok5, w⟩ := w
  refine G_callV (Z := mX4_of) (As := [.ref r0_ratio]) (st := [.int x2, .ref r0_high]) hL_X7_122 hI_X4_of hS_X4_of hC_X4_of hN_X4 nX4_of (by decide) hs6 rfl rfl rfl (Nat.le_of_ble_eq_true rfl) dX7_bound_166 ok5 (fun r_ h_5 z_ => ?_)
  obtain ⟨v_5, rfl, q_5⟩ := z_
  have w := w v_5 h_5 q_5
  refine G_last hs7 sd1 dX7_bound_169 ?_
  refine G_nm (fun g_2 e_2 => ?_)
  have w := w g_2 e_2
  refine G_iinc (v := -1) 4 rfl dX7_bound_170 (by decide) (by decide) (lv' := [(2, .int (x2 + (-1))), (5, .int v_1), (4, .int s0), (0, .ref r0), (1, .ref r1), (3, .int x3)]) rfl ?_
  refine G_goto (tgt := 39) dX7_bound_173 (by decide) ?_
  exact G_sub [3, 4, 0] rfl w
-- LostDigits$Spans.join
theorem dX7_join_0 : decode cX7_join 0 = .ok (.aload_n 0, 1) := by decide +kernel
theorem dX7_join_1 : decode cX7_join 1 = .ok (.getfield 9, 3) := by decide +kernel
theorem dX7_join_4 : decode cX7_join 4 = .ok (.iload_n 1, 1) := by decide +kernel
theorem dX7_join_5 : decode cX7_join 5 = .ok (.iconst 1, 1) := by decide +kernel
theorem dX7_join_6 : decode cX7_join 6 = .ok (.iadd, 1) := by decide +kernel
theorem dX7_join_7 : decode cX7_join 7 = .ok (.invokestatic 126, 3) := by decide +kernel
theorem dX7_join_10 : decode cX7_join 10 = .ok (.lstore 4, 2) := by decide +kernel
theorem dX7_join_12 : decode cX7_join 12 = .ok (.aload_n 0, 1) := by decide +kernel
theorem dX7_join_13 : decode cX7_join 13 = .ok (.getfield 15, 3) := by decide +kernel
theorem dX7_join_16 : decode cX7_join 16 = .ok (.iload_n 1, 1) := by decide +kernel
theorem dX7_join_17 : decode cX7_join 17 = .ok (.iconst 1, 1) := by decide +kernel
theorem dX7_join_18 : decode cX7_join 18 = .ok (.iadd, 1) := by decide +kernel
theorem dX7_join_19 : decode cX7_join 19 = .ok (.invokestatic 126, 3) := by decide +kernel
theorem dX7_join_22 : decode cX7_join 22 = .ok (.lstore 6, 2) := by decide +kernel
theorem dX7_join_24 : decode cX7_join 24 = .ok (.aload_n 0, 1) := by decide +kernel
theorem dX7_join_25 : decode cX7_join 25 = .ok (.getfield 9, 3) := by decide +kernel
theorem dX7_join_28 : decode cX7_join 28 = .ok (.iload_n 3, 1) := by decide +kernel
theorem dX7_join_29 : decode cX7_join 29 = .ok (.invokestatic 126, 3) := by decide +kernel
theorem dX7_join_32 : decode cX7_join 32 = .ok (.lstore 8, 2) := by decide +kernel
theorem dX7_join_34 : decode cX7_join 34 = .ok (.aload_n 0, 1) := by decide +kernel
theorem dX7_join_35 : decode cX7_join 35 = .ok (.getfield 15, 3) := by decide +kernel
theorem dX7_join_38 : decode cX7_join 38 = .ok (.iload_n 3, 1) := by decide +kernel
theorem dX7_join_39 : decode cX7_join 39 = .ok (.invokestatic 126, 3) := by decide +kernel
theorem dX7_join_42 : decode cX7_join 42 = .ok (.lstore 10, 2) := by decide +kernel
theorem dX7_join_44 : decode cX7_join 44 = .ok (.lload 4, 2) := by decide +kernel
theorem dX7_join_46 : decode cX7_join 46 = .ok (.ldc2_w 49, 3) := by decide +kernel
theorem dX7_join_49 : decode cX7_join 49 = .ok (.lcmp, 1) := by decide +kernel
theorem dX7_join_50 : decode cX7_join 50 = .ok (.ifCond .eq 12, 3) := by decide +kernel
theorem dX7_join_53 : decode cX7_join 53 = .ok (.lload 8, 2) := by decide +kernel
theorem dX7_join_55 : decode cX7_join 55 = .ok (.ldc2_w 49, 3) := by decide +kernel
theorem dX7_join_58 : decode cX7_join 58 = .ok (.lcmp, 1) := by decide +kernel
theorem dX7_join_59 : decode cX7_join 59 = .ok (.ifCond .ne 7, 3) := by decide +kernel
theorem dX7_join_62 : decode cX7_join 62 = .ok (.iconst 1, 1) := by decide +kernel
theorem dX7_join_63 : decode cX7_join 63 = .ok (.goto 4, 3) := by decide +kernel
theorem dX7_join_66 : decode cX7_join 66 = .ok (.iconst 0, 1) := by decide +kernel
theorem dX7_join_67 : decode cX7_join 67 = .ok (.istore 12, 2) := by decide +kernel
theorem dX7_join_69 : decode cX7_join 69 = .ok (.iload 12, 2) := by decide +kernel
theorem dX7_join_71 : decode cX7_join 71 = .ok (.ifCond .ne 23, 3) := by decide +kernel
theorem dX7_join_74 : decode cX7_join 74 = .ok (.iload_n 2, 1) := by decide +kernel
theorem dX7_join_75 : decode cX7_join 75 = .ok (.bipush 47, 2) := by decide +kernel
theorem dX7_join_77 : decode cX7_join 77 = .ok (.if_icmp .ne 23, 3) := by decide +kernel
theorem dX7_join_80 : decode cX7_join 80 = .ok (.lload 8, 2) := by decide +kernel
theorem dX7_join_82 : decode cX7_join 82 = .ok (.lconst 0, 1) := by decide +kernel
theorem dX7_join_83 : decode cX7_join 83 = .ok (.lcmp, 1) := by decide +kernel
theorem dX7_join_84 : decode cX7_join 84 = .ok (.ifCond .gt 16, 3) := by decide +kernel
theorem dX7_join_87 : decode cX7_join 87 = .ok (.lload 10, 2) := by decide +kernel
theorem dX7_join_89 : decode cX7_join 89 = .ok (.lconst 0, 1) := by decide +kernel
theorem dX7_join_90 : decode cX7_join 90 = .ok (.lcmp, 1) := by decide +kernel
theorem dX7_join_91 : decode cX7_join 91 = .ok (.ifCond .lt 9, 3) := by decide +kernel
theorem dX7_join_94 : decode cX7_join 94 = .ok (.aload_n 0, 1) := by decide +kernel
theorem dX7_join_95 : decode cX7_join 95 = .ok (.iload_n 1, 1) := by decide +kernel
theorem dX7_join_96 : decode cX7_join 96 = .ok (.invokevirtual 130, 3) := by decide +kernel
theorem dX7_join_99 : decode cX7_join 99 = .ok (.return_, 1) := by decide +kernel
theorem dX7_join_100 : decode cX7_join 100 = .ok (.aload_n 0, 1) := by decide +kernel
theorem dX7_join_101 : decode cX7_join 101 = .ok (.getfield 9, 3) := by decide +kernel
theorem dX7_join_104 : decode cX7_join 104 = .ok (.iload_n 1, 1) := by decide +kernel
theorem dX7_join_105 : decode cX7_join 105 = .ok (.ldc2_w 136, 3) := by decide +kernel
theorem dX7_join_108 : decode cX7_join 108 = .ok (.lastore, 1) := by decide +kernel
theorem dX7_join_109 : decode cX7_join 109 = .ok (.aload_n 0, 1) := by decide +kernel
theorem dX7_join_110 : decode cX7_join 110 = .ok (.getfield 15, 3) := by decide +kernel
theorem dX7_join_113 : decode cX7_join 113 = .ok (.iload_n 1, 1) := by decide +kernel
theorem dX7_join_114 : decode cX7_join 114 = .ok (.ldc2_w 138, 3) := by decide +kernel
theorem dX7_join_117 : decode cX7_join 117 = .ok (.lastore, 1) := by decide +kernel
theorem dX7_join_118 : decode cX7_join 118 = .ok (.aload_n 0, 1) := by decide +kernel
theorem dX7_join_119 : decode cX7_join 119 = .ok (.iload_n 1, 1) := by decide +kernel
theorem dX7_join_120 : decode cX7_join 120 = .ok (.iload_n 2, 1) := by decide +kernel
theorem dX7_join_121 : decode cX7_join 121 = .ok (.lload 4, 2) := by decide +kernel
theorem dX7_join_123 : decode cX7_join 123 = .ok (.lload 8, 2) := by decide +kernel
theorem dX7_join_125 : decode cX7_join 125 = .ok (.invokevirtual 140, 3) := by decide +kernel
theorem dX7_join_128 : decode cX7_join 128 = .ok (.istore 13, 2) := by decide +kernel
theorem dX7_join_130 : decode cX7_join 130 = .ok (.iload 13, 2) := by decide +kernel
theorem dX7_join_132 : decode cX7_join 132 = .ok (.aload_n 0, 1) := by decide +kernel
theorem dX7_join_133 : decode cX7_join 133 = .ok (.iload_n 1, 1) := by decide +kernel
theorem dX7_join_134 : decode cX7_join 134 = .ok (.iload_n 2, 1) := by decide +kernel
theorem dX7_join_135 : decode cX7_join 135 = .ok (.lload 4, 2) := by decide +kernel
theorem dX7_join_137 : decode cX7_join 137 = .ok (.lload 10, 2) := by decide +kernel
theorem dX7_join_139 : decode cX7_join 139 = .ok (.invokevirtual 140, 3) := by decide +kernel
theorem dX7_join_142 : decode cX7_join 142 = .ok (.iand, 1) := by decide +kernel
theorem dX7_join_143 : decode cX7_join 143 = .ok (.istore 13, 2) := by decide +kernel
theorem dX7_join_145 : decode cX7_join 145 = .ok (.iload 13, 2) := by decide +kernel
theorem dX7_join_147 : decode cX7_join 147 = .ok (.aload_n 0, 1) := by decide +kernel
theorem dX7_join_148 : decode cX7_join 148 = .ok (.iload_n 1, 1) := by decide +kernel
theorem dX7_join_149 : decode cX7_join 149 = .ok (.iload_n 2, 1) := by decide +kernel
theorem dX7_join_150 : decode cX7_join 150 = .ok (.lload 6, 2) := by decide +kernel
theorem dX7_join_152 : decode cX7_join 152 = .ok (.lload 8, 2) := by decide +kernel
theorem dX7_join_154 : decode cX7_join 154 = .ok (.invokevirtual 140, 3) := by decide +kernel
theorem dX7_join_157 : decode cX7_join 157 = .ok (.iand, 1) := by decide +kernel
theorem dX7_join_158 : decode cX7_join 158 = .ok (.istore 13, 2) := by decide +kernel
theorem dX7_join_160 : decode cX7_join 160 = .ok (.iload 13, 2) := by decide +kernel
theorem dX7_join_162 : decode cX7_join 162 = .ok (.aload_n 0, 1) := by decide +kernel
theorem dX7_join_163 : decode cX7_join 163 = .ok (.iload_n 1, 1) := by decide +kernel
theorem dX7_join_164 : decode cX7_join 164 = .ok (.iload_n 2, 1) := by decide +kernel
theorem dX7_join_165 : decode cX7_join 165 = .ok (.lload 6, 2) := by decide +kernel
theorem dX7_join_167 : decode cX7_join 167 = .ok (.lload 10, 2) := by decide +kernel
theorem dX7_join_169 : decode cX7_join 169 = .ok (.invokevirtual 140, 3) := by decide +kernel
theorem dX7_join_172 : decode cX7_join 172 = .ok (.iand, 1) := by decide +kernel
theorem dX7_join_173 : decode cX7_join 173 = .ok (.istore 13, 2) := by decide +kernel
theorem dX7_join_175 : decode cX7_join 175 = .ok (.iload 13, 2) := by decide +kernel
theorem dX7_join_177 : decode cX7_join 177 = .ok (.ifCond .ne 8, 3) := by decide +kernel
theorem dX7_join_180 : decode cX7_join 180 = .ok (.aload_n 0, 1) := by decide +kernel
theorem dX7_join_181 : decode cX7_join 181 = .ok (.iload_n 1, 1) := by decide +kernel
theorem dX7_join_182 : decode cX7_join 182 = .ok (.invokevirtual 130, 3) := by decide +kernel
theorem dX7_join_185 : decode cX7_join 185 = .ok (.return_, 1) := by decide +kernel
set_option maxRecDepth 10000 in
theorem NX7_join_0 {d : Nat} {S : fW} {h : fH} {Q : fH → Prop} {r0 : Nat} {x1 : Int32} {x2 : Int32} {x3 : Int32} {r0_low r0_high r0_ratio r0_down r0_up r0_fractions r0_trial r0_widths : Nat}  
    (hs1 : (r0, shX7 r0_low r0_high r0_ratio r0_down r0_up r0_fractions r0_trial r0_widths) ∈ S)
    (w : ∃ Q1 : Int64 → fH → Prop, OkL d mX11_at S [.ref r0_low, .int (x1 + (1 : Int32))] h Q1 ∧ ∀ (v_1 : Int64) (h_1 : fH), Q1 v_1 h_1 → ∃ Q2 : Int64 → fH → Prop, OkL d mX11_at S [.ref r0_high, .int (x1 + (1 : Int32))] h_1 Q2 ∧ ∀ (v_2 : Int64) (h_2 : fH), Q2 v_2 h_2 → ∃ Q3 : Int64 → fH → Prop, OkL d mX11_at S [.ref r0_low, .int x3] h_2 Q3 ∧ ∀ (v_3 : Int64) (h_3 : fH), Q3 v_3 h_3 → ∃ Q4 : Int64 → fH → Prop, OkL d mX11_at S [.ref r0_high, .int x3] h_3 Q4 ∧ ∀ (v_4 : Int64) (h_4 : fH), Q4 v_4 h_4 → ((v_1 = (1000000000000000000 : Int64) → G mX7_join (d + 1) S (f_PV Q) 62 [(0, .ref r0), (1, .int x1), (2, .int x2), (4, .long v_1), (6, .long v_2), (8, .long v_3), (10, .long v_4)] [] h_4) ∧ (¬ v_1 = (1000000000000000000 : Int64) → ((¬ v_3 = (1000000000000000000 : Int64) → ((¬ x2 = (47 : Int32) → G mX7_join (d + 1) S (f_PV Q) 100 [(0, .ref r0), (1, .int x1), (2, .int x2), (4, .long v_1), (6, .long v_2), (8, .long v_3), (10, .long v_4)] [] h_4) ∧ (x2 = (47 : Int32) → (((0 : Int64) < v_3 → G mX7_join (d + 1) S (f_PV Q) 100 [(0, .ref r0), (1, .int x1), (2, .int x2), (4, .long v_1), (6, .long v_2), (8, .long v_3), (10, .long v_4)] [] h_4) ∧ (¬ (0 : Int64) < v_3 → ((v_4 < (0 : Int64) → G mX7_join (d + 1) S (f_PV Q) 100 [(0, .ref r0), (1, .int x1), (2, .int x2), (4, .long v_1), (6, .long v_2), (8, .long v_3), (10, .long v_4)] [] h_4) ∧ (¬ v_4 < (0 : Int64) → ∃ Q5 : fH → Prop, OkV d mX7_makeGreat S [.ref r0, .int x1] h_4 Q5 ∧ ∀ (h_5 : fH), Q5 h_5 → Q h_5))))))) ∧ (v_3 = (1000000000000000000 : Int64) → G mX7_join (d + 1) S (f_PV Q) 62 [(0, .ref r0), (1, .int x1), (2, .int x2), (4, .long v_1), (6, .long v_2), (8, .long v_3), (10, .long v_4)] [] h_4))))) :
    OkV (d + 1) mX7_join S [.ref r0, .int x1, .int x2, .int x3] h Q := by
  refine Ok.of (by decide) (Nat.le_of_ble_eq_true rfl) ?_
  refine G_aload_n 0 rfl dX7_join_0 rfl ?_
  refine G_getr (j := r0_low) (k := 0) hs1 (q := (RX7, TX7, 11)) rfl inX7 (by decide) rfl hF_X7_9 dX7_join_1 ?_
  refine G_iload_n 1 rfl dX7_join_4 rfl ?_
  refine G_iconst (v := 1) dX7_join_5 (by decide) ?_
  refine G_iadd dX7_join_6 ?_
  obtain ⟨Q1, ok1, w⟩ := w
  refine G_callN (Z := mX11_at) (As := [.ref r0_low, .int (x1 + (1 : Int32))]) (st := []) hM_X7_126 hT_X11_at hC_X11_at hN_X11 nX11_at (by decide) rfl (Nat.le_of_ble_eq_true rfl) dX7_join_7 ok1 (fun r_ h_1 z_ => ?_)
  obtain ⟨v_1, rfl, q_1⟩ := z_
  have w := w v_1 h_1 q_1
  refine G_lstore dX7_join_10 (by decide) (lv' := [(4, .long v_1), (0, .ref r0), (1, .int x1), (2, .int x2), (3, .int x3)]) rfl ?_
  refine G_aload_n 1 rfl dX7_join_12 rfl ?_
  refine G_getr (j := r0_high) (k := 1) hs1 (q := (RX7, TX7, 11)) rfl inX7 (by decide) rfl hF_X7_15 dX7_join_13 ?_
  refine G_iload_n 2 rfl dX7_join_16 rfl ?_
  refine G_iconst (v := 1) dX7_join_17 (by decide) ?_
  refine G_iadd dX7_join_18 ?_
  obtain ⟨Q2, ok2, w⟩ := w
  refine G_callN (Z := mX11_at) (As := [.ref r0_high, .int (x1 + (1 : Int32))]) (st := []) hM_X7_126 hT_X11_at hC_X11_at hN_X11 nX11_at (by decide) rfl (Nat.le_of_ble_eq_true rfl) dX7_join_19 ok2 (fun r_ h_2 z_ => ?_)
  obtain ⟨v_2, rfl, q_2⟩ := z_
  have w := w v_2 h_2 q_2
  refine G_lstore dX7_join_22 (by decide) (lv' := [(6, .long v_2), (4, .long v_1), (0, .ref r0), (1, .int x1), (2, .int x2), (3, .int x3)]) rfl ?_
  refine G_aload_n 2 rfl dX7_join_24 rfl ?_
  refine G_getr (j := r0_low) (k := 0) hs1 (q := (RX7, TX7, 11)) rfl inX7 (by decide) rfl hF_X7_9 dX7_join_25 ?_
  refine G_iload_n 5 rfl dX7_join_28 rfl ?_
  obtain ⟨Q3, ok3, w⟩ := w
  refine G_callN (Z := mX11_at) (As := [.ref r0_low, .int x3]) (st := []) hM_X7_126 hT_X11_at hC_X11_at hN_X11 nX11_at (by decide) rfl (Nat.le_of_ble_eq_true rfl) dX7_join_29 ok3 (fun r_ h_3 z_ => ?_)
  obtain ⟨v_3, rfl, q_3⟩ := z_
  have w := w v_3 h_3 q_3
  refine G_lstore dX7_join_32 (by decide) (lv' := [(8, .long v_3), (6, .long v_2), (4, .long v_1), (0, .ref r0), (1, .int x1), (2, .int x2), (3, .int x3)]) rfl ?_
  refine G_aload_n 3 rfl dX7_join_34 rfl ?_
  refine G_getr (j := r0_high) (k := 1) hs1 (q := (RX7, TX7, 11)) rfl inX7 (by decide) rfl hF_X7_15 dX7_join_35 ?_
  refine G_iload_n 6 rfl dX7_join_38 rfl ?_
  obtain ⟨Q4, ok4, w⟩ := w
  refine G_callN (Z := mX11_at) (As := [.ref r0_high, .int x3]) (st := []) hM_X7_126 hT_X11_at hC_X11_at hN_X11 nX11_at (by decide) rfl (Nat.le_of_ble_eq_true rfl) dX7_join_39 ok4 (fun r_ h_4 z_ => ?_)
  obtain ⟨v_4, rfl, q_4⟩ := z_
  have w := w v_4 h_4 q_4
  refine G_lstore dX7_join_42 (by decide) (lv' := [(10, .long v_4), (8, .long v_3), (6, .long v_2), (4, .long v_1), (0, .ref r0), (1, .int x1), (2, .int x2), (3, .int x3)]) rfl ?_
  refine G_lload 3 rfl dX7_join_44 ?_
  refine G_ldc2 hK_X7_49 dX7_join_46 ?_
  refine G_lif_eq (tgt := 62) dX7_join_49 dX7_join_50 (by decide) (fun c1 => ?_) (fun c1 => ?_)
  · have w := w.1 c1
    exact G_sub [4, 5, 6, 3, 2, 1, 0] rfl w
  · have w := w.2 c1
    refine G_lload 1 rfl dX7_join_53 ?_
    refine G_ldc2 hK_X7_49 dX7_join_55 ?_
    refine G_lif_ne (tgt := 66) dX7_join_58 dX7_join_59 (by decide) (fun c2 => ?_) (fun c2 => ?_)
    · have w := w.1 c2
      refine G_iconst (v := 0) dX7_join_66 (by decide) ?_
      refine G_istore dX7_join_67 (by decide) (lv' := [(12, .int (0 : Int32)), (10, .long v_4), (8, .long v_3), (6, .long v_2), (4, .long v_1), (0, .ref r0), (1, .int x1), (2, .int x2), (3, .int x3)]) rfl ?_
      refine G_iload 0 rfl dX7_join_69 ?_
      refine G_if_ne (tgt := 94) dX7_join_71 (by decide) (fun z_ => absurd z_ (by decide)) (fun _ => ?_)
      refine G_iload_n 7 rfl dX7_join_74 rfl ?_
      refine G_bipush (v := 47) dX7_join_75 (by decide) ?_
      refine G_icmp_ne (tgt := 100) dX7_join_77 (by decide) (fun c3 => ?_) (fun c3 => ?_)
      · have w := w.1 c3
        exact G_sub [5, 6, 7, 4, 3, 2, 1] rfl w
      · have w := w.2 c3
        refine G_lload 2 rfl dX7_join_80 ?_
        refine G_lconst (v := 0) dX7_join_82 (by decide) ?_
        refine G_lif_gt (tgt := 100) dX7_join_83 dX7_join_84 (by decide) (fun c4 => ?_) (fun c4 => ?_)
        · have w := w.1 c4
          exact G_sub [5, 6, 7, 4, 3, 2, 1] rfl w
        · have w := w.2 c4
          refine G_lload 1 rfl dX7_join_87 ?_
          refine G_lconst (v := 0) dX7_join_89 (by decide) ?_
          refine G_lif_lt (tgt := 100) dX7_join_90 dX7_join_91 (by decide) (fun c5 => ?_) (fun c5 => ?_)
          · have w := w.1 c5
            exact G_sub [5, 6, 7, 4, 3, 2, 1] rfl w
          · have w := w.2 c5
            refine G_aload_n 5 rfl dX7_join_94 rfl ?_
            refine G_iload_n 6 rfl dX7_join_95 rfl ?_
            obtain ⟨Q5, ok5, w⟩ := w
            refine G_callV (Z := mX7_makeGreat) (As := [.int x1]) (st := []) hL_X7_130 hI_X7_makeGreat hS_X7_makeGreat hC_X7_makeGreat hN_X7 nX7_makeGreat (by decide) hs1 rfl rfl rfl (Nat.le_of_ble_eq_true rfl) dX7_join_96 ok5 (fun r_ h_5 z_ => ?_)
            obtain ⟨rfl, q_5⟩ := z_
            have w := w h_5 q_5
            exact G_vret rfl dX7_join_99 ⟨rfl, w⟩
    · have w := w.2 c2
      exact G_sub [4, 5, 6, 3, 2, 1, 0] rfl w

set_option maxRecDepth 10000 in
theorem NX7_join_62 {d : Nat} {S : fW} {h : fH} {Q : fH → Prop} {r0 : Nat} {x1 : Int32} {x2 : Int32} {x4 : Int64} {x6 : Int64} {x8 : Int64} {x10 : Int64} {r0_low r0_high r0_ratio r0_down r0_up r0_fractions r0_trial r0_widths : Nat}  
    (hs1 : (r0, shX7 r0_low r0_high r0_ratio r0_down r0_up r0_fractions r0_trial r0_widths) ∈ S)
    (w : ∃ Q1 : fH → Prop, OkV d mX7_makeGreat S [.ref r0, .int x1] h Q1 ∧ ∀ (h_1 : fH), Q1 h_1 → Q h_1) :
    G mX7_join (d + 1) S (f_PV Q) 62 [(0, .ref r0), (1, .int x1), (2, .int x2), (4, .long x4), (6, .long x6), (8, .long x8), (10, .long x10)] [] h := by
  refine G_iconst (v := 1) dX7_join_62 (by decide) ?_
  refine G_goto (tgt := 67) dX7_join_63 (by decide) ?_
  refine G_istore dX7_join_67 (by decide) (lv' := [(12, .int (1 : Int32)), (0, .ref r0), (1, .int x1), (2, .int x2), (4, .long x4), (6, .long x6), (8, .long x8), (10, .long x10)]) rfl ?_
  refine G_iload 0 rfl dX7_join_69 ?_
  refine G_if_ne (tgt := 94) dX7_join_71 (by decide) (fun _ => ?_) (fun z_ => absurd z_ (by decide))
  refine G_aload_n 1 rfl dX7_join_94 rfl ?_
  refine G_iload_n 2 rfl dX7_join_95 rfl ?_
  obtain ⟨Q1, ok1, w⟩ := w
  refine G_callV (Z := mX7_makeGreat) (As := [.int x1]) (st := []) hL_X7_130 hI_X7_makeGreat hS_X7_makeGreat hC_X7_makeGreat hN_X7 nX7_makeGreat (by decide) hs1 rfl rfl rfl (Nat.le_of_ble_eq_true rfl) dX7_join_96 ok1 (fun r_ h_1 z_ => ?_)
  obtain ⟨rfl, q_1⟩ := z_
  have w := w h_1 q_1
  exact G_vret rfl dX7_join_99 ⟨rfl, w⟩

set_option maxRecDepth 10000 in
theorem NX7_join_100 {d : Nat} {S : fW} {h : fH} {Q : fH → Prop} {r0 : Nat} {x1 : Int32} {x2 : Int32} {x4 : Int64} {x6 : Int64} {x8 : Int64} {x10 : Int64} {r0_low r0_high r0_ratio r0_down r0_up r0_fractions r0_trial r0_widths : Nat}  
    (hs1 : (r0, shX7 r0_low r0_high r0_ratio r0_down r0_up r0_fractions r0_trial r0_widths) ∈ S)
    (hs2 : (r0_low, shJ 13) ∈ S)
    (hs3 : (r0_high, shJ 13) ∈ S)
    (w : vp_in x1 13 ∧ ∀ g_1 : fH, g_1 = u_al h r0_low (vp_updL (h.2.2.2 r0_low) x1.toNatClampNeg (9223372036854775807 : Int64)) → ∀ g_2 : fH, g_2 = u_al g_1 r0_high (vp_updL (g_1.2.2.2 r0_high) x1.toNatClampNeg (-9223372036854775808 : Int64)) → ∃ Q1 : Int32 → fH → Prop, OkI d mX7_widen S [.ref r0, .int x1, .int x2, .long x4, .long x8] g_2 Q1 ∧ ∀ (v_1 : Int32) (h_1 : fH), Q1 v_1 h_1 → ∃ Q2 : Int32 → fH → Prop, OkI d mX7_widen S [.ref r0, .int x1, .int x2, .long x4, .long x10] h_1 Q2 ∧ ∀ (v_2 : Int32) (h_2 : fH), Q2 v_2 h_2 → ∃ Q3 : Int32 → fH → Prop, OkI d mX7_widen S [.ref r0, .int x1, .int x2, .long x6, .long x8] h_2 Q3 ∧ ∀ (v_3 : Int32) (h_3 : fH), Q3 v_3 h_3 → ∃ Q4 : Int32 → fH → Prop, OkI d mX7_widen S [.ref r0, .int x1, .int x2, .long x6, .long x10] h_3 Q4 ∧ ∀ (v_4 : Int32) (h_4 : fH), Q4 v_4 h_4 → ((¬ (((v_1 &&& v_2) &&& v_3) &&& v_4) = 0 → Q h_4) ∧ ((((v_1 &&& v_2) &&& v_3) &&& v_4) = 0 → ∃ Q5 : fH → Prop, OkV d mX7_makeGreat S [.ref r0, .int x1] h_4 Q5 ∧ ∀ (h_5 : fH), Q5 h_5 → Q h_5))) :
    G mX7_join (d + 1) S (f_PV Q) 100 [(0, .ref r0), (1, .int x1), (2, .int x2), (4, .long x4), (6, .long x6), (8, .long x8), (10, .long x10)] [] h := by
  refine G_aload_n 0 rfl dX7_join_100 rfl ?_
  refine G_getr (j := r0_low) (k := 0) hs1 (q := (RX7, TX7, 11)) rfl inX7 (by decide) rfl hF_X7_9 dX7_join_101 ?_
  refine G_iload_n 1 rfl dX7_join_104 rfl ?_
  refine G_ldc2 hK_X7_136 dX7_join_105 ?_
  obtain ⟨sd1, w⟩ := w
  refine G_last hs2 sd1 dX7_join_108 ?_
  refine G_nm (fun g_1 e_1 => ?_)
  have w := w g_1 e_1
  refine G_aload_n 0 rfl dX7_join_109 rfl ?_
  refine G_getr (j := r0_high) (k := 1) hs1 (q := (RX7, TX7, 11)) rfl inX7 (by decide) rfl hF_X7_15 dX7_join_110 ?_
  refine G_iload_n 1 rfl dX7_join_113 rfl ?_
  refine G_ldc2 hK_X7_138 dX7_join_114 ?_
  refine G_last hs3 sd1 dX7_join_117 ?_
  refine G_nm (fun g_2 e_2 => ?_)
  have w := w g_2 e_2
  refine G_aload_n 0 rfl dX7_join_118 rfl ?_
  refine G_iload_n 1 rfl dX7_join_119 rfl ?_
  refine G_iload_n 2 rfl dX7_join_120 rfl ?_
  refine G_lload 3 rfl dX7_join_121 ?_
  refine G_lload 5 rfl dX7_join_123 ?_
  obtain ⟨Q1, ok1, w⟩ := w
  refine G_callV (Z := mX7_widen) (As := [.int x1, .int x2, .long x4, .long x8]) (st := []) hL_X7_140 hI_X7_widen hS_X7_widen hC_X7_widen hN_X7 nX7_widen (by decide) hs1 rfl rfl rfl (Nat.le_of_ble_eq_true rfl) dX7_join_125 ok1 (fun r_ h_1 z_ => ?_)
  obtain ⟨v_1, rfl, q_1⟩ := z_
  have w := w v_1 h_1 q_1
  refine G_istore dX7_join_128 (by decide) (lv' := [(13, .int v_1), (0, .ref r0), (1, .int x1), (2, .int x2), (4, .long x4), (6, .long x6), (8, .long x8), (10, .long x10)]) rfl ?_
  refine G_iload 0 rfl dX7_join_130 ?_
  refine G_aload_n 1 rfl dX7_join_132 rfl ?_
  refine G_iload_n 2 rfl dX7_join_133 rfl ?_
  refine G_iload_n 3 rfl dX7_join_134 rfl ?_
  refine G_lload 4 rfl dX7_join_135 ?_
  refine G_lload 7 rfl dX7_join_137 ?_
  obtain ⟨Q2, ok2, w⟩ := w
  refine G_callV (Z := mX7_widen) (As := [.int x1, .int x2, .long x4, .long x10]) (st := [.int v_1]) hL_X7_140 hI_X7_widen hS_X7_widen hC_X7_widen hN_X7 nX7_widen (by decide) hs1 rfl rfl rfl (Nat.le_of_ble_eq_true rfl) dX7_join_139 ok2 (fun r_ h_2 z_ => ?_)
  obtain ⟨v_2, rfl, q_2⟩ := z_
  have w := w v_2 h_2 q_2
  refine G_iand dX7_join_142 ?_
  refine G_istore dX7_join_143 (by decide) (lv' := [(13, .int (v_1 &&& v_2)), (0, .ref r0), (1, .int x1), (2, .int x2), (4, .long x4), (6, .long x6), (8, .long x8), (10, .long x10)]) rfl ?_
  refine G_iload 0 rfl dX7_join_145 ?_
  refine G_aload_n 1 rfl dX7_join_147 rfl ?_
  refine G_iload_n 2 rfl dX7_join_148 rfl ?_
  refine G_iload_n 3 rfl dX7_join_149 rfl ?_
  refine G_lload 5 rfl dX7_join_150 ?_
  refine G_lload 6 rfl dX7_join_152 ?_
  obtain ⟨Q3, ok3, w⟩ := w
  refine G_callV (Z := mX7_widen) (As := [.int x1, .int x2, .long x6, .long x8]) (st := [.int (v_1 &&& v_2)]) hL_X7_140 hI_X7_widen hS_X7_widen hC_X7_widen hN_X7 nX7_widen (by decide) hs1 rfl rfl rfl (Nat.le_of_ble_eq_true rfl) dX7_join_154 ok3 (fun r_ h_3 z_ => ?_)
  obtain ⟨v_3, rfl, q_3⟩ := z_
  have w := w v_3 h_3 q_3
  refine G_iand dX7_join_157 ?_
  refine G_istore dX7_join_158 (by decide) (lv' := [(13, .int ((v_1 &&& v_2) &&& v_3)), (0, .ref r0), (1, .int x1), (2, .int x2), (4, .long x4), (6, .long x6), (8, .long x8), (10, .long x10)]) rfl ?_
  refine G_iload 0 rfl dX7_join_160 ?_
  refine G_aload_n 1 rfl dX7_join_162 rfl ?_
  refine G_iload_n 2 rfl dX7_join_163 rfl ?_
  refine G_iload_n 3 rfl dX7_join_164 rfl ?_
  refine G_lload 5 rfl dX7_join_165 ?_
  refine G_lload 7 rfl dX7_join_167 ?_
  obtain ⟨Q4, ok4, w⟩ := w
  refine G_callV (Z := mX7_widen) (As := [.int x1, .int x2, .long x6, .long x10]) (st := [.int ((v_1 &&& v_2) &&& v_3)]) hL_X7_140 hI_X7_widen hS_X7_widen hC_X7_widen hN_X7 nX7_widen (by decide) hs1 rfl rfl rfl (Nat.le_of_ble_eq_true rfl) dX7_join_169 ok4 (fun r_ h_4 z_ => ?_)
  obtain ⟨v_4, rfl, q_4⟩ := z_
  have w := w v_4 h_4 q_4
  refine G_iand dX7_join_172 ?_
  refine G_istore dX7_join_173 (by decide) (lv' := [(13, .int (((v_1 &&& v_2) &&& v_3) &&& v_4)), (0, .ref r0), (1, .int x1), (2, .int x2), (4, .long x4), (6, .long x6), (8, .long x8), (10, .long x10)]) rfl ?_
  refine G_iload 0 rfl dX7_join_175 ?_
  refine G_if_ne (tgt := 185) dX7_join_177 (by decide) (fun c1 => ?_) (fun c1 => ?_)
  · have w := w.1 c1
    exact G_vret rfl dX7_join_185 ⟨rfl, w⟩
  · have w := w.2 c1
    refine G_aload_n 1 rfl dX7_join_180 rfl ?_
    refine G_iload_n 2 rfl dX7_join_181 rfl ?_
    obtain ⟨Q5, ok5, w⟩ := w
    refine G_callV (Z := mX7_makeGreat) (As := [.int x1]) (st := []) hL_X7_130 hI_X7_makeGreat hS_X7_makeGreat hC_X7_makeGreat hN_X7 nX7_makeGreat (by decide) hs1 rfl rfl rfl (Nat.le_of_ble_eq_true rfl) dX7_join_182 ok5 (fun r_ h_5 z_ => ?_)
    obtain ⟨rfl, q_5⟩ := z_
    have w := w h_5 q_5
    exact G_vret rfl dX7_join_185 ⟨rfl, w⟩
-- LostDigits$Spans.makeGreat
theorem dX7_makeGreat_0 : decode cX7_makeGreat 0 = .ok (.aload_n 0, 1) := by decide +kernel
theorem dX7_makeGreat_1 : decode cX7_makeGreat 1 = .ok (.getfield 9, 3) := by decide +kernel
theorem dX7_makeGreat_4 : decode cX7_makeGreat 4 = .ok (.iload_n 1, 1) := by decide +kernel
theorem dX7_makeGreat_5 : decode cX7_makeGreat 5 = .ok (.ldc2_w 49, 3) := by decide +kernel
theorem dX7_makeGreat_8 : decode cX7_makeGreat 8 = .ok (.lastore, 1) := by decide +kernel
theorem dX7_makeGreat_9 : decode cX7_makeGreat 9 = .ok (.aload_n 0, 1) := by decide +kernel
theorem dX7_makeGreat_10 : decode cX7_makeGreat 10 = .ok (.getfield 15, 3) := by decide +kernel
theorem dX7_makeGreat_13 : decode cX7_makeGreat 13 = .ok (.iload_n 1, 1) := by decide +kernel
theorem dX7_makeGreat_14 : decode cX7_makeGreat 14 = .ok (.ldc2_w 49, 3) := by decide +kernel
theorem dX7_makeGreat_17 : decode cX7_makeGreat 17 = .ok (.lastore, 1) := by decide +kernel
theorem dX7_makeGreat_18 : decode cX7_makeGreat 18 = .ok (.return_, 1) := by decide +kernel
set_option maxRecDepth 10000 in
theorem NX7_makeGreat_0 {d : Nat} {S : fW} {h : fH} {Q : fH → Prop} {r0 : Nat} {x1 : Int32} {r0_low r0_high r0_ratio r0_down r0_up r0_fractions r0_trial r0_widths : Nat}  
    (hs1 : (r0, shX7 r0_low r0_high r0_ratio r0_down r0_up r0_fractions r0_trial r0_widths) ∈ S)
    (hs2 : (r0_low, shJ 13) ∈ S)
    (hs3 : (r0_high, shJ 13) ∈ S)
    (w : vp_in x1 13 ∧ ∀ g_1 : fH, g_1 = u_al h r0_low (vp_updL (h.2.2.2 r0_low) x1.toNatClampNeg (1000000000000000000 : Int64)) → ∀ g_2 : fH, g_2 = u_al g_1 r0_high (vp_updL (g_1.2.2.2 r0_high) x1.toNatClampNeg (1000000000000000000 : Int64)) → Q g_2) :
    OkV d mX7_makeGreat S [.ref r0, .int x1] h Q := by
  refine Ok.of (by decide) (Nat.le_of_ble_eq_true rfl) ?_
  refine G_aload_n 0 rfl dX7_makeGreat_0 rfl ?_
  refine G_getr (j := r0_low) (k := 0) hs1 (q := (RX7, TX7, 11)) rfl inX7 (by decide) rfl hF_X7_9 dX7_makeGreat_1 ?_
  refine G_iload_n 1 rfl dX7_makeGreat_4 rfl ?_
  refine G_ldc2 hK_X7_49 dX7_makeGreat_5 ?_
  obtain ⟨sd1, w⟩ := w
  refine G_last hs2 sd1 dX7_makeGreat_8 ?_
  refine G_nm (fun g_1 e_1 => ?_)
  have w := w g_1 e_1
  refine G_aload_n 0 rfl dX7_makeGreat_9 rfl ?_
  refine G_getr (j := r0_high) (k := 1) hs1 (q := (RX7, TX7, 11)) rfl inX7 (by decide) rfl hF_X7_15 dX7_makeGreat_10 ?_
  refine G_iload_n 1 rfl dX7_makeGreat_13 rfl ?_
  refine G_ldc2 hK_X7_49 dX7_makeGreat_14 ?_
  refine G_last hs3 sd1 dX7_makeGreat_17 ?_
  refine G_nm (fun g_2 e_2 => ?_)
  have w := w g_2 e_2
  exact G_vret rfl dX7_makeGreat_18 ⟨rfl, w⟩
-- LostDigits$Spans.widen
theorem dX7_widen_0 : decode cX7_widen 0 = .ok (.aload_n 0, 1) := by decide +kernel
theorem dX7_widen_1 : decode cX7_widen 1 = .ok (.getfield 21, 3) := by decide +kernel
theorem dX7_widen_4 : decode cX7_widen 4 = .ok (.iload_n 2, 1) := by decide +kernel
theorem dX7_widen_5 : decode cX7_widen 5 = .ok (.lload_n 3, 1) := by decide +kernel
theorem dX7_widen_6 : decode cX7_widen 6 = .ok (.lload 5, 2) := by decide +kernel
theorem dX7_widen_8 : decode cX7_widen 8 = .ok (.invokevirtual 144, 3) := by decide +kernel
theorem dX7_widen_11 : decode cX7_widen 11 = .ok (.ifCond .ne 5, 3) := by decide +kernel
theorem dX7_widen_14 : decode cX7_widen 14 = .ok (.iconst 0, 1) := by decide +kernel
theorem dX7_widen_15 : decode cX7_widen 15 = .ok (.ireturn, 1) := by decide +kernel
theorem dX7_widen_16 : decode cX7_widen 16 = .ok (.aload_n 0, 1) := by decide +kernel
theorem dX7_widen_17 : decode cX7_widen 17 = .ok (.getfield 28, 3) := by decide +kernel
theorem dX7_widen_20 : decode cX7_widen 20 = .ok (.aload_n 0, 1) := by decide +kernel
theorem dX7_widen_21 : decode cX7_widen 21 = .ok (.getfield 21, 3) := by decide +kernel
theorem dX7_widen_24 : decode cX7_widen 24 = .ok (.invokevirtual 122, 3) := by decide +kernel
theorem dX7_widen_27 : decode cX7_widen 27 = .ok (.lstore 7, 2) := by decide +kernel
theorem dX7_widen_29 : decode cX7_widen 29 = .ok (.aload_n 0, 1) := by decide +kernel
theorem dX7_widen_30 : decode cX7_widen 30 = .ok (.getfield 32, 3) := by decide +kernel
theorem dX7_widen_33 : decode cX7_widen 33 = .ok (.aload_n 0, 1) := by decide +kernel
theorem dX7_widen_34 : decode cX7_widen 34 = .ok (.getfield 21, 3) := by decide +kernel
theorem dX7_widen_37 : decode cX7_widen 37 = .ok (.invokevirtual 122, 3) := by decide +kernel
theorem dX7_widen_40 : decode cX7_widen 40 = .ok (.lstore 9, 2) := by decide +kernel
theorem dX7_widen_42 : decode cX7_widen 42 = .ok (.aload_n 0, 1) := by decide +kernel
theorem dX7_widen_43 : decode cX7_widen 43 = .ok (.getfield 9, 3) := by decide +kernel
theorem dX7_widen_46 : decode cX7_widen 46 = .ok (.iload_n 1, 1) := by decide +kernel
theorem dX7_widen_47 : decode cX7_widen 47 = .ok (.aload_n 0, 1) := by decide +kernel
theorem dX7_widen_48 : decode cX7_widen 48 = .ok (.getfield 9, 3) := by decide +kernel
theorem dX7_widen_51 : decode cX7_widen 51 = .ok (.iload_n 1, 1) := by decide +kernel
theorem dX7_widen_52 : decode cX7_widen 52 = .ok (.laload, 1) := by decide +kernel
theorem dX7_widen_53 : decode cX7_widen 53 = .ok (.lload 7, 2) := by decide +kernel
theorem dX7_widen_55 : decode cX7_widen 55 = .ok (.invokestatic 147, 3) := by decide +kernel
theorem dX7_widen_58 : decode cX7_widen 58 = .ok (.lastore, 1) := by decide +kernel
theorem dX7_widen_59 : decode cX7_widen 59 = .ok (.aload_n 0, 1) := by decide +kernel
theorem dX7_widen_60 : decode cX7_widen 60 = .ok (.getfield 15, 3) := by decide +kernel
theorem dX7_widen_63 : decode cX7_widen 63 = .ok (.iload_n 1, 1) := by decide +kernel
theorem dX7_widen_64 : decode cX7_widen 64 = .ok (.aload_n 0, 1) := by decide +kernel
theorem dX7_widen_65 : decode cX7_widen 65 = .ok (.getfield 15, 3) := by decide +kernel
theorem dX7_widen_68 : decode cX7_widen 68 = .ok (.iload_n 1, 1) := by decide +kernel
theorem dX7_widen_69 : decode cX7_widen 69 = .ok (.laload, 1) := by decide +kernel
theorem dX7_widen_70 : decode cX7_widen 70 = .ok (.lload 9, 2) := by decide +kernel
theorem dX7_widen_72 : decode cX7_widen 72 = .ok (.invokestatic 150, 3) := by decide +kernel
theorem dX7_widen_75 : decode cX7_widen 75 = .ok (.lastore, 1) := by decide +kernel
theorem dX7_widen_76 : decode cX7_widen 76 = .ok (.lload 7, 2) := by decide +kernel
theorem dX7_widen_78 : decode cX7_widen 78 = .ok (.ldc2_w 49, 3) := by decide +kernel
theorem dX7_widen_81 : decode cX7_widen 81 = .ok (.lcmp, 1) := by decide +kernel
theorem dX7_widen_82 : decode cX7_widen 82 = .ok (.ifCond .eq 16, 3) := by decide +kernel
theorem dX7_widen_85 : decode cX7_widen 85 = .ok (.lload 9, 2) := by decide +kernel
theorem dX7_widen_87 : decode cX7_widen 87 = .ok (.ldc2_w 49, 3) := by decide +kernel
theorem dX7_widen_90 : decode cX7_widen 90 = .ok (.lcmp, 1) := by decide +kernel
theorem dX7_widen_91 : decode cX7_widen 91 = .ok (.ifCond .eq 7, 3) := by decide +kernel
theorem dX7_widen_94 : decode cX7_widen 94 = .ok (.iconst 1, 1) := by decide +kernel
theorem dX7_widen_95 : decode cX7_widen 95 = .ok (.goto 4, 3) := by decide +kernel
theorem dX7_widen_98 : decode cX7_widen 98 = .ok (.iconst 0, 1) := by decide +kernel
theorem dX7_widen_99 : decode cX7_widen 99 = .ok (.ireturn, 1) := by decide +kernel
set_option maxRecDepth 10000 in
theorem NX7_widen_0 {d : Nat} {S : fW} {h : fH} {Q : Int32 → fH → Prop} {r0 : Nat} {x1 : Int32} {x2 : Int32} {x3 : Int64} {x5 : Int64} {r0_low r0_high r0_ratio r0_down r0_up r0_fractions r0_trial r0_widths : Nat}  
    (hs1 : (r0, shX7 r0_low r0_high r0_ratio r0_down r0_up r0_fractions r0_trial r0_widths) ∈ S)
    (hs2 : (r0_ratio, shX3) ∈ S)
    (hs3 : (r0_down, shX4) ∈ S)
    (hs4 : (r0_up, shX4) ∈ S)
    (hs5 : (r0_low, shJ 13) ∈ S)
    (hs6 : (r0_high, shJ 13) ∈ S)
    (w : ∃ Q1 : Int32 → fH → Prop, OkI d mX3_join S [.ref r0_ratio, .int x2, .long x3, .long x5] h Q1 ∧ ∀ (v_1 : Int32) (h_1 : fH), Q1 v_1 h_1 → ((¬ v_1 = 0 → ∃ Q2 : Int64 → fH → Prop, OkL d mX4_of S [.ref r0_down, .ref r0_ratio] h_1 Q2 ∧ ∀ (v_2 : Int64) (h_2 : fH), Q2 v_2 h_2 → ∃ Q3 : Int64 → fH → Prop, OkL d mX4_of S [.ref r0_up, .ref r0_ratio] h_2 Q3 ∧ ∀ (v_3 : Int64) (h_3 : fH), Q3 v_3 h_3 → vp_in x1 13 ∧ ∀ g_1 : fH, g_1 = u_al h_3 r0_low (vp_updL (h_3.2.2.2 r0_low) x1.toNatClampNeg (if v_2 < (h_3.2.2.2 r0_low x1.toNatClampNeg) then v_2 else (h_3.2.2.2 r0_low x1.toNatClampNeg))) → ∀ g_2 : fH, g_2 = u_al g_1 r0_high (vp_updL (g_1.2.2.2 r0_high) x1.toNatClampNeg (if v_3 < (g_1.2.2.2 r0_high x1.toNatClampNeg) then (g_1.2.2.2 r0_high x1.toNatClampNeg) else v_3)) → ((v_2 = (1000000000000000000 : Int64) → Q (0 : Int32) g_2) ∧ (¬ v_2 = (1000000000000000000 : Int64) → ((v_3 = (1000000000000000000 : Int64) → Q (0 : Int32) g_2) ∧ (¬ v_3 = (1000000000000000000 : Int64) → Q (1 : Int32) g_2))))) ∧ (v_1 = 0 → Q (0 : Int32) h_1))) :
    OkI (d + 1) mX7_widen S [.ref r0, .int x1, .int x2, .long x3, .long x5] h Q := by
  refine Ok.of (by decide) (Nat.le_of_ble_eq_true rfl) ?_
  refine G_aload_n 0 rfl dX7_widen_0 rfl ?_
  refine G_getr (j := r0_ratio) (k := 2) hs1 (q := (RX7, TX7, 11)) rfl inX7 (by decide) rfl hF_X7_21 dX7_widen_1 ?_
  refine G_iload_n 2 rfl dX7_widen_4 rfl ?_
  refine G_lload_n 3 rfl dX7_widen_5 rfl ?_
  refine G_lload 4 rfl dX7_widen_6 ?_
  obtain ⟨Q1, ok1, w⟩ := w
  refine G_callV (Z := mX3_join) (As := [.int x2, .long x3, .long x5]) (st := []) hL_X7_144 hI_X3_join hS_X3_join hC_X3_join hN_X3 nX3_join (by decide) hs2 rfl rfl rfl (Nat.le_of_ble_eq_true rfl) dX7_widen_8 ok1 (fun r_ h_1 z_ => ?_)
  obtain ⟨v_1, rfl, q_1⟩ := z_
  have w := w v_1 h_1 q_1
  refine G_if_ne (tgt := 16) dX7_widen_11 (by decide) (fun c1 => ?_) (fun c1 => ?_)
  · have w := w.1 c1
    refine G_aload_n 0 rfl dX7_widen_16 rfl ?_
    refine G_getr (j := r0_down) (k := 3) hs1 (q := (RX7, TX7, 11)) rfl inX7 (by decide) rfl hF_X7_28 dX7_widen_17 ?_
    refine G_aload_n 0 rfl dX7_widen_20 rfl ?_
    refine G_getr (j := r0_ratio) (k := 2) hs1 (q := (RX7, TX7, 11)) rfl inX7 (by decide) rfl hF_X7_21 dX7_widen_21 ?_
    obtain ⟨Q2, ok2, w⟩ := w
    refine G_callV (Z := mX4_of) (As := [.ref r0_ratio]) (st := []) hL_X7_122 hI_X4_of hS_X4_of hC_X4_of hN_X4 nX4_of (by decide) hs3 rfl rfl rfl (Nat.le_of_ble_eq_true rfl) dX7_widen_24 ok2 (fun r_ h_2 z_ => ?_)
    obtain ⟨v_2, rfl, q_2⟩ := z_
    have w := w v_2 h_2 q_2
    refine G_lstore dX7_widen_27 (by decide) (lv' := [(7, .long v_2), (0, .ref r0), (1, .int x1), (2, .int x2), (3, .long x3), (5, .long x5)]) rfl ?_
    refine G_aload_n 1 rfl dX7_widen_29 rfl ?_
    refine G_getr (j := r0_up) (k := 4) hs1 (q := (RX7, TX7, 11)) rfl inX7 (by decide) rfl hF_X7_32 dX7_widen_30 ?_
    refine G_aload_n 1 rfl dX7_widen_33 rfl ?_
    refine G_getr (j := r0_ratio) (k := 2) hs1 (q := (RX7, TX7, 11)) rfl inX7 (by decide) rfl hF_X7_21 dX7_widen_34 ?_
    obtain ⟨Q3, ok3, w⟩ := w
    refine G_callV (Z := mX4_of) (As := [.ref r0_ratio]) (st := []) hL_X7_122 hI_X4_of hS_X4_of hC_X4_of hN_X4 nX4_of (by decide) hs4 rfl rfl rfl (Nat.le_of_ble_eq_true rfl) dX7_widen_37 ok3 (fun r_ h_3 z_ => ?_)
    obtain ⟨v_3, rfl, q_3⟩ := z_
    have w := w v_3 h_3 q_3
    refine G_lstore dX7_widen_40 (by decide) (lv' := [(9, .long v_3), (7, .long v_2), (0, .ref r0), (1, .int x1), (2, .int x2), (3, .long x3), (5, .long x5)]) rfl ?_
    refine G_aload_n 2 rfl dX7_widen_42 rfl ?_
    refine G_getr (j := r0_low) (k := 0) hs1 (q := (RX7, TX7, 11)) rfl inX7 (by decide) rfl hF_X7_9 dX7_widen_43 ?_
    refine G_iload_n 3 rfl dX7_widen_46 rfl ?_
    refine G_aload_n 2 rfl dX7_widen_47 rfl ?_
    refine G_getr (j := r0_low) (k := 0) hs1 (q := (RX7, TX7, 11)) rfl inX7 (by decide) rfl hF_X7_9 dX7_widen_48 ?_
    refine G_iload_n 3 rfl dX7_widen_51 rfl ?_
    obtain ⟨sd1, w⟩ := w
    refine G_lald hs5 sd1 dX7_widen_52 ?_
    refine G_lload 1 rfl dX7_widen_53 ?_
    refine G_mminL hL_X7_147 (Nat.le_of_ble_eq_true rfl) dX7_widen_55 ?_
    refine G_last hs5 sd1 dX7_widen_58 ?_
    refine G_nm (fun g_1 e_1 => ?_)
    have w := w g_1 e_1
    refine G_aload_n 2 rfl dX7_widen_59 rfl ?_
    refine G_getr (j := r0_high) (k := 1) hs1 (q := (RX7, TX7, 11)) rfl inX7 (by decide) rfl hF_X7_15 dX7_widen_60 ?_
    refine G_iload_n 3 rfl dX7_widen_63 rfl ?_
    refine G_aload_n 2 rfl dX7_widen_64 rfl ?_
    refine G_getr (j := r0_high) (k := 1) hs1 (q := (RX7, TX7, 11)) rfl inX7 (by decide) rfl hF_X7_15 dX7_widen_65 ?_
    refine G_iload_n 3 rfl dX7_widen_68 rfl ?_
    refine G_lald hs6 sd1 dX7_widen_69 ?_
    refine G_lload 0 rfl dX7_widen_70 ?_
    refine G_mmaxL hL_X7_150 (Nat.le_of_ble_eq_true rfl) dX7_widen_72 ?_
    refine G_last hs6 sd1 dX7_widen_75 ?_
    refine G_nm (fun g_2 e_2 => ?_)
    have w := w g_2 e_2
    refine G_lload 1 rfl dX7_widen_76 ?_
    refine G_ldc2 hK_X7_49 dX7_widen_78 ?_
    refine G_lif_eq (tgt := 98) dX7_widen_81 dX7_widen_82 (by decide) (fun c2 => ?_) (fun c2 => ?_)
    · have w := w.1 c2
      refine G_iconst (v := 0) dX7_widen_98 (by decide) ?_
      exact G_zret rfl (Or.inl rfl) dX7_widen_99 ⟨_, rfl, w⟩
    · have w := w.2 c2
      refine G_lload 0 rfl dX7_widen_85 ?_
      refine G_ldc2 hK_X7_49 dX7_widen_87 ?_
      refine G_lif_eq (tgt := 98) dX7_widen_90 dX7_widen_91 (by decide) (fun c3 => ?_) (fun c3 => ?_)
      · have w := w.1 c3
        refine G_iconst (v := 0) dX7_widen_98 (by decide) ?_
        exact G_zret rfl (Or.inl rfl) dX7_widen_99 ⟨_, rfl, w⟩
      · have w := w.2 c3
        refine G_iconst (v := 1) dX7_widen_94 (by decide) ?_
        refine G_goto (tgt := 99) dX7_widen_95 (by decide) ?_
        exact G_zret rfl (Or.inr rfl) dX7_widen_99 ⟨_, rfl, w⟩
  · have w := w.2 c1
    refine G_iconst (v := 0) dX7_widen_14 (by decide) ?_
    exact G_zret rfl (Or.inl rfl) dX7_widen_15 ⟨_, rfl, w⟩
-- LostDigits$Spans.findTruth
theorem dX7_findTruth_0 : decode cX7_findTruth 0 = .ok (.aload_n 0, 1) := by decide +kernel
theorem dX7_findTruth_1 : decode cX7_findTruth 1 = .ok (.getfield 58, 3) := by decide +kernel
theorem dX7_findTruth_4 : decode cX7_findTruth 4 = .ok (.ifCond .eq 4, 3) := by decide +kernel
theorem dX7_findTruth_7 : decode cX7_findTruth 7 = .ok (.return_, 1) := by decide +kernel
theorem dX7_findTruth_8 : decode cX7_findTruth 8 = .ok (.aload_n 0, 1) := by decide +kernel
theorem dX7_findTruth_9 : decode cX7_findTruth 9 = .ok (.iconst 1, 1) := by decide +kernel
theorem dX7_findTruth_10 : decode cX7_findTruth 10 = .ok (.putfield 58, 3) := by decide +kernel
theorem dX7_findTruth_13 : decode cX7_findTruth 13 = .ok (.aload_n 0, 1) := by decide +kernel
theorem dX7_findTruth_14 : decode cX7_findTruth 14 = .ok (.aload_n 1, 1) := by decide +kernel
theorem dX7_findTruth_15 : decode cX7_findTruth 15 = .ok (.invokevirtual 153, 3) := by decide +kernel
theorem dX7_findTruth_18 : decode cX7_findTruth 18 = .ok (.istore_n 2, 1) := by decide +kernel
theorem dX7_findTruth_19 : decode cX7_findTruth 19 = .ok (.bipush 32, 2) := by decide +kernel
theorem dX7_findTruth_21 : decode cX7_findTruth 21 = .ok (.istore_n 3, 1) := by decide +kernel
theorem dX7_findTruth_22 : decode cX7_findTruth 22 = .ok (.aload_n 0, 1) := by decide +kernel
theorem dX7_findTruth_23 : decode cX7_findTruth 23 = .ok (.ldc2_w 49, 3) := by decide +kernel
theorem dX7_findTruth_26 : decode cX7_findTruth 26 = .ok (.putfield 51, 3) := by decide +kernel
theorem dX7_findTruth_29 : decode cX7_findTruth 29 = .ok (.aload_n 0, 1) := by decide +kernel
theorem dX7_findTruth_30 : decode cX7_findTruth 30 = .ok (.ldc2_w 157, 3) := by decide +kernel
theorem dX7_findTruth_33 : decode cX7_findTruth 33 = .ok (.putfield 55, 3) := by decide +kernel
theorem dX7_findTruth_36 : decode cX7_findTruth 36 = .ok (.iconst 0, 1) := by decide +kernel
theorem dX7_findTruth_37 : decode cX7_findTruth 37 = .ok (.istore 4, 2) := by decide +kernel
theorem dX7_findTruth_39 : decode cX7_findTruth 39 = .ok (.iload 4, 2) := by decide +kernel
theorem dX7_findTruth_41 : decode cX7_findTruth 41 = .ok (.iload_n 2, 1) := by decide +kernel
theorem dX7_findTruth_42 : decode cX7_findTruth 42 = .ok (.if_icmp .ge 105, 3) := by decide +kernel
theorem dX7_findTruth_45 : decode cX7_findTruth 45 = .ok (.aload_n 0, 1) := by decide +kernel
theorem dX7_findTruth_46 : decode cX7_findTruth 46 = .ok (.getfield 38, 3) := by decide +kernel
theorem dX7_findTruth_49 : decode cX7_findTruth 49 = .ok (.aload_n 1, 1) := by decide +kernel
theorem dX7_findTruth_50 : decode cX7_findTruth 50 = .ok (.getfield 75, 3) := by decide +kernel
theorem dX7_findTruth_53 : decode cX7_findTruth 53 = .ok (.aload_n 0, 1) := by decide +kernel
theorem dX7_findTruth_54 : decode cX7_findTruth 54 = .ok (.getfield 42, 3) := by decide +kernel
theorem dX7_findTruth_57 : decode cX7_findTruth 57 = .ok (.iload_n 3, 1) := by decide +kernel
theorem dX7_findTruth_58 : decode cX7_findTruth 58 = .ok (.invokevirtual 159, 3) := by decide +kernel
theorem dX7_findTruth_61 : decode cX7_findTruth 61 = .ok (.aload_n 0, 1) := by decide +kernel
theorem dX7_findTruth_62 : decode cX7_findTruth 62 = .ok (.getfield 38, 3) := by decide +kernel
theorem dX7_findTruth_65 : decode cX7_findTruth 65 = .ok (.iconst 0, 1) := by decide +kernel
theorem dX7_findTruth_66 : decode cX7_findTruth 66 = .ok (.iconst (-1), 1) := by decide +kernel
theorem dX7_findTruth_67 : decode cX7_findTruth 67 = .ok (.invokevirtual 163, 3) := by decide +kernel
theorem dX7_findTruth_70 : decode cX7_findTruth 70 = .ok (.lstore 5, 2) := by decide +kernel
theorem dX7_findTruth_72 : decode cX7_findTruth 72 = .ok (.lload 5, 2) := by decide +kernel
theorem dX7_findTruth_74 : decode cX7_findTruth 74 = .ok (.ldc2_w 49, 3) := by decide +kernel
theorem dX7_findTruth_77 : decode cX7_findTruth 77 = .ok (.lcmp, 1) := by decide +kernel
theorem dX7_findTruth_78 : decode cX7_findTruth 78 = .ok (.ifCond .ne 18, 3) := by decide +kernel
theorem dX7_findTruth_81 : decode cX7_findTruth 81 = .ok (.aload_n 0, 1) := by decide +kernel
theorem dX7_findTruth_82 : decode cX7_findTruth 82 = .ok (.ldc2_w 49, 3) := by decide +kernel
theorem dX7_findTruth_85 : decode cX7_findTruth 85 = .ok (.putfield 51, 3) := by decide +kernel
theorem dX7_findTruth_88 : decode cX7_findTruth 88 = .ok (.aload_n 0, 1) := by decide +kernel
theorem dX7_findTruth_89 : decode cX7_findTruth 89 = .ok (.ldc2_w 49, 3) := by decide +kernel
theorem dX7_findTruth_92 : decode cX7_findTruth 92 = .ok (.putfield 55, 3) := by decide +kernel
theorem dX7_findTruth_95 : decode cX7_findTruth 95 = .ok (.return_, 1) := by decide +kernel
theorem dX7_findTruth_96 : decode cX7_findTruth 96 = .ok (.aload_n 0, 1) := by decide +kernel
theorem dX7_findTruth_97 : decode cX7_findTruth 97 = .ok (.aload_n 0, 1) := by decide +kernel
theorem dX7_findTruth_98 : decode cX7_findTruth 98 = .ok (.getfield 51, 3) := by decide +kernel
theorem dX7_findTruth_101 : decode cX7_findTruth 101 = .ok (.lload 5, 2) := by decide +kernel
theorem dX7_findTruth_103 : decode cX7_findTruth 103 = .ok (.invokestatic 147, 3) := by decide +kernel
theorem dX7_findTruth_106 : decode cX7_findTruth 106 = .ok (.putfield 51, 3) := by decide +kernel
theorem dX7_findTruth_109 : decode cX7_findTruth 109 = .ok (.lload 5, 2) := by decide +kernel
theorem dX7_findTruth_111 : decode cX7_findTruth 111 = .ok (.aload_n 0, 1) := by decide +kernel
theorem dX7_findTruth_112 : decode cX7_findTruth 112 = .ok (.getfield 55, 3) := by decide +kernel
theorem dX7_findTruth_115 : decode cX7_findTruth 115 = .ok (.lcmp, 1) := by decide +kernel
theorem dX7_findTruth_116 : decode cX7_findTruth 116 = .ok (.ifCond .lt 16, 3) := by decide +kernel
theorem dX7_findTruth_119 : decode cX7_findTruth 119 = .ok (.aload_n 0, 1) := by decide +kernel
theorem dX7_findTruth_120 : decode cX7_findTruth 120 = .ok (.aload_n 0, 1) := by decide +kernel
theorem dX7_findTruth_121 : decode cX7_findTruth 121 = .ok (.getfield 38, 3) := by decide +kernel
theorem dX7_findTruth_124 : decode cX7_findTruth 124 = .ok (.iconst 0, 1) := by decide +kernel
theorem dX7_findTruth_125 : decode cX7_findTruth 125 = .ok (.iconst 1, 1) := by decide +kernel
theorem dX7_findTruth_126 : decode cX7_findTruth 126 = .ok (.invokevirtual 163, 3) := by decide +kernel
theorem dX7_findTruth_129 : decode cX7_findTruth 129 = .ok (.putfield 55, 3) := by decide +kernel
theorem dX7_findTruth_132 : decode cX7_findTruth 132 = .ok (.aload_n 0, 1) := by decide +kernel
theorem dX7_findTruth_133 : decode cX7_findTruth 133 = .ok (.aload_n 1, 1) := by decide +kernel
theorem dX7_findTruth_134 : decode cX7_findTruth 134 = .ok (.getfield 115, 3) := by decide +kernel
theorem dX7_findTruth_137 : decode cX7_findTruth 137 = .ok (.invokevirtual 167, 3) := by decide +kernel
theorem dX7_findTruth_140 : decode cX7_findTruth 140 = .ok (.istore_n 3, 1) := by decide +kernel
theorem dX7_findTruth_141 : decode cX7_findTruth 141 = .ok (.iinc 4 1, 3) := by decide +kernel
theorem dX7_findTruth_144 : decode cX7_findTruth 144 = .ok (.goto (-105), 3) := by decide +kernel
theorem dX7_findTruth_147 : decode cX7_findTruth 147 = .ok (.return_, 1) := by decide +kernel
set_option maxRecDepth 10000 in
theorem NX7_findTruth_0 {d : Nat} {S : fW} {h : fH} {Q : fH → Prop} {r0 : Nat} {r1 : Nat} {r0_low r0_high r0_ratio r0_down r0_up r0_fractions r0_trial r0_widths : Nat}  
    (hs1 : (r0, shX7 r0_low r0_high r0_ratio r0_down r0_up r0_fractions r0_trial r0_widths) ∈ S)
    (w : (((h.1 r0 10) = 0 → ∀ g_1 : fH, g_1 = u_fi h r0 10 (1 : Int32) → ∃ Q1 : Int32 → fH → Prop, OkI d mX7_startTrials S [.ref r0, .ref r1] g_1 Q1 ∧ ∀ (v_1 : Int32) (h_1 : fH), Q1 v_1 h_1 → ∀ g_2 : fH, g_2 = u_fl h_1 r0 8 (1000000000000000000 : Int64) → ∀ g_3 : fH, g_3 = u_fl g_2 r0 9 (-1000000000000000000 : Int64) → G mX7_findTruth (d + 1) S (f_PV Q) 39 [(0, .ref r0), (1, .ref r1), (2, .int v_1), (3, .int (32 : Int32)), (4, .int (0 : Int32))] [] g_3) ∧ (¬ (h.1 r0 10) = 0 → Q h))) :
    OkV (d + 1) mX7_findTruth S [.ref r0, .ref r1] h Q := by
  refine Ok.of (by decide) (Nat.le_of_ble_eq_true rfl) ?_
  refine G_aload_n 0 rfl dX7_findTruth_0 rfl ?_
  refine G_geti (k := 10) hs1 (q := (RX7, TX7, 11)) rfl inX7 (by decide) (Or.inr rfl) hF_X7_58 dX7_findTruth_1 ?_
  refine G_if_eq (tgt := 8) dX7_findTruth_4 (by decide) (fun c1 => ?_) (fun c1 => ?_)
  · have w := w.1 c1
    refine G_aload_n 0 rfl dX7_findTruth_8 rfl ?_
    refine G_iconst (v := 1) dX7_findTruth_9 (by decide) ?_
    refine G_putz (k := 10) tyX7 hs1 (q := (RX7, TX7, 11)) rfl inX7 tyX7_ok nmX7 (by decide) rfl rfl rfl (Or.inr rfl) hF_X7_58 dX7_findTruth_10 ?_
    refine G_nm (fun g_1 e_1 => ?_)
    have w := w g_1 e_1
    refine G_aload_n 0 rfl dX7_findTruth_13 rfl ?_
    refine G_aload_n 1 rfl dX7_findTruth_14 rfl ?_
    obtain ⟨Q1, ok1, w⟩ := w
    refine G_callV (Z := mX7_startTrials) (As := [.ref r1]) (st := []) hL_X7_153 hI_X7_startTrials hS_X7_startTrials hC_X7_startTrials hN_X7 nX7_startTrials (by decide) hs1 rfl rfl rfl (Nat.le_of_ble_eq_true rfl) dX7_findTruth_15 ok1 (fun r_ h_1 z_ => ?_)
    obtain ⟨v_1, rfl, q_1⟩ := z_
    have w := w v_1 h_1 q_1
    refine G_istore_n dX7_findTruth_18 rfl (by decide) (lv' := [(2, .int v_1), (0, .ref r0), (1, .ref r1)]) rfl ?_
    refine G_bipush (v := 32) dX7_findTruth_19 (by decide) ?_
    refine G_istore_n dX7_findTruth_21 rfl (by decide) (lv' := [(3, .int (32 : Int32)), (2, .int v_1), (0, .ref r0), (1, .ref r1)]) rfl ?_
    refine G_aload_n 2 rfl dX7_findTruth_22 rfl ?_
    refine G_ldc2 hK_X7_49 dX7_findTruth_23 ?_
    refine G_putl (k := 8) tyX7 hs1 (q := (RX7, TX7, 11)) rfl inX7 tyX7_ok nmX7 (by decide) rfl rfl rfl hF_X7_51 dX7_findTruth_26 ?_
    refine G_nm (fun g_2 e_2 => ?_)
    have w := w g_2 e_2
    refine G_aload_n 2 rfl dX7_findTruth_29 rfl ?_
    refine G_ldc2 hK_X7_157 dX7_findTruth_30 ?_
    refine G_putl (k := 9) tyX7 hs1 (q := (RX7, TX7, 11)) rfl inX7 tyX7_ok nmX7 (by decide) rfl rfl rfl hF_X7_55 dX7_findTruth_33 ?_
    refine G_nm (fun g_3 e_3 => ?_)
    have w := w g_3 e_3
    refine G_iconst (v := 0) dX7_findTruth_36 (by decide) ?_
    refine G_istore dX7_findTruth_37 (by decide) (lv' := [(4, .int (0 : Int32)), (3, .int (32 : Int32)), (2, .int v_1), (0, .ref r0), (1, .ref r1)]) rfl ?_
    exact G_sub [3, 4, 2, 1, 0] rfl w
  · have w := w.2 c1
    exact G_vret rfl dX7_findTruth_7 ⟨rfl, w⟩

set_option maxRecDepth 10000 in
theorem NX7_findTruth_39 {d : Nat} {S : fW} {h : fH} {Q : fH → Prop} {r0 : Nat} {r1 : Nat} {x2 : Int32} {x3 : Int32} {x4 : Int32} {r0_low r0_high r0_ratio r0_down r0_up r0_fractions r0_trial r0_widths r1_text r1_numbers r1_spans r1_terms r0_fractions_uppers r0_fractions_lowers : Nat}  
    (hs1 : (r0, shX7 r0_low r0_high r0_ratio r0_down r0_up r0_fractions r0_trial r0_widths) ∈ S)
    (hs2 : (r1, shX2 r1_text r1_numbers r1_spans r1_terms) ∈ S)
    (hs3 : (r0_fractions, shX0 r0_fractions_uppers r0_fractions_lowers) ∈ S)
    (w : ((x2 ≤ x4 → Q h) ∧ (¬ x2 ≤ x4 → ∃ Q1 : fH → Prop, OkV d mX0_workParts S [.ref r0_fractions, .ref r1_text, .ref r0_trial, .int x3] h Q1 ∧ ∀ (h_1 : fH), Q1 h_1 → ∃ Q2 : Int64 → fH → Prop, OkL d mX0_billionths S [.ref r0_fractions, .int (0 : Int32), .int (-1 : Int32)] h_1 Q2 ∧ ∀ (v_2 : Int64) (h_2 : fH), Q2 v_2 h_2 → ((¬ v_2 = (1000000000000000000 : Int64) → ∀ g_1 : fH, g_1 = u_fl h_2 r0 8 (if v_2 < (h_2.2.1 r0 8) then v_2 else (h_2.2.1 r0 8)) → ((v_2 < (g_1.2.1 r0 9) → ∃ Q3 : Int32 → fH → Prop, OkI d mX7_nextTrial S [.ref r0, .ref r1_numbers] g_1 Q3 ∧ ∀ (v_3 : Int32) (h_3 : fH), Q3 v_3 h_3 → G mX7_findTruth (d + 1) S (f_PV Q) 39 [(0, .ref r0), (1, .ref r1), (2, .int x2), (3, .int v_3), (4, .int (x4 + 1))] [] h_3) ∧ (¬ v_2 < (g_1.2.1 r0 9) → ∃ Q4 : Int64 → fH → Prop, OkL d mX0_billionths S [.ref r0_fractions, .int (0 : Int32), .int (1 : Int32)] g_1 Q4 ∧ ∀ (v_4 : Int64) (h_4 : fH), Q4 v_4 h_4 → ∀ g_2 : fH, g_2 = u_fl h_4 r0 9 v_4 → ∃ Q5 : Int32 → fH → Prop, OkI d mX7_nextTrial S [.ref r0, .ref r1_numbers] g_2 Q5 ∧ ∀ (v_5 : Int32) (h_5 : fH), Q5 v_5 h_5 → G mX7_findTruth (d + 1) S (f_PV Q) 39 [(0, .ref r0), (1, .ref r1), (2, .int x2), (3, .int v_5), (4, .int (x4 + 1))] [] h_5))) ∧ (v_2 = (1000000000000000000 : Int64) → ∀ g_3 : fH, g_3 = u_fl h_2 r0 8 (1000000000000000000 : Int64) → ∀ g_4 : fH, g_4 = u_fl g_3 r0 9 (1000000000000000000 : Int64) → Q g_4))))) :
    G mX7_findTruth (d + 1) S (f_PV Q) 39 [(0, .ref r0), (1, .ref r1), (2, .int x2), (3, .int x3), (4, .int x4)] [] h := by
  refine G_iload 4 rfl dX7_findTruth_39 ?_
  refine G_iload_n 2 rfl dX7_findTruth_41 rfl ?_
  refine G_icmp_ge (tgt := 147) dX7_findTruth_42 (by decide) (fun c1 => ?_) (fun c1 => ?_)
  · have w := w.1 c1
    exact G_vret rfl dX7_findTruth_147 ⟨rfl, w⟩
  · have w := w.2 c1
    refine G_aload_n 0 rfl dX7_findTruth_45 rfl ?_
    refine G_getr (j := r0_fractions) (k := 5) hs1 (q := (RX7, TX7, 11)) rfl inX7 (by decide) rfl hF_X7_38 dX7_findTruth_46 ?_
    refine G_aload_n 1 rfl dX7_findTruth_49 rfl ?_
    refine G_getr (j := r1_text) (k := 0) hs2 (q := (RX2, TX2, 8)) rfl inX2 (by decide) rfl hF_X7_75 dX7_findTruth_50 ?_
    refine G_aload_n 0 rfl dX7_findTruth_53 rfl ?_
    refine G_getr (j := r0_trial) (k := 6) hs1 (q := (RX7, TX7, 11)) rfl inX7 (by decide) rfl hF_X7_42 dX7_findTruth_54 ?_
    refine G_iload_n 3 rfl dX7_findTruth_57 rfl ?_
    obtain ⟨Q1, ok1, w⟩ := w
    refine G_callV (Z := mX0_workParts) (As := [.ref r1_text, .ref r0_trial, .int x3]) (st := []) hL_X7_159 hI_X0_workParts hS_X0_workParts hC_X0_workParts hN_X0 nX0_workParts (by decide) hs3 rfl rfl rfl (Nat.le_of_ble_eq_true rfl) dX7_findTruth_58 ok1 (fun r_ h_1 z_ => ?_)
    obtain ⟨rfl, q_1⟩ := z_
    have w := w h_1 q_1
    refine G_aload_n 0 rfl dX7_findTruth_61 rfl ?_
    refine G_getr (j := r0_fractions) (k := 5) hs1 (q := (RX7, TX7, 11)) rfl inX7 (by decide) rfl hF_X7_38 dX7_findTruth_62 ?_
    refine G_iconst (v := 0) dX7_findTruth_65 (by decide) ?_
    refine G_iconst (v := -1) dX7_findTruth_66 (by decide) ?_
    obtain ⟨Q2, ok2, w⟩ := w
    refine G_callV (Z := mX0_billionths) (As := [.int (0 : Int32), .int (-1 : Int32)]) (st := []) hL_X7_163 hI_X0_billionths hS_X0_billionths hC_X0_billionths hN_X0 nX0_billionths (by decide) hs3 rfl rfl rfl (Nat.le_of_ble_eq_true rfl) dX7_findTruth_67 ok2 (fun r_ h_2 z_ => ?_)
    obtain ⟨v_2, rfl, q_2⟩ := z_
    have w := w v_2 h_2 q_2
    refine G_lstore dX7_findTruth_70 (by decide) (lv' := [(5, .long v_2), (0, .ref r0), (1, .ref r1), (2, .int x2), (3, .int x3), (4, .int x4)]) rfl ?_
    refine G_lload 0 rfl dX7_findTruth_72 ?_
    refine G_ldc2 hK_X7_49 dX7_findTruth_74 ?_
    refine G_lif_ne (tgt := 96) dX7_findTruth_77 dX7_findTruth_78 (by decide) (fun c2 => ?_) (fun c2 => ?_)
    · have w := w.1 c2
      refine G_aload_n 1 rfl dX7_findTruth_96 rfl ?_
      refine G_aload_n 1 rfl dX7_findTruth_97 rfl ?_
      refine G_getl (k := 8) hs1 (q := (RX7, TX7, 11)) rfl inX7 (by decide) rfl hF_X7_51 dX7_findTruth_98 ?_
      refine G_lload 0 rfl dX7_findTruth_101 ?_
      refine G_mminL hL_X7_147 (Nat.le_of_ble_eq_true rfl) dX7_findTruth_103 ?_
      refine G_putl (k := 8) tyX7 hs1 (q := (RX7, TX7, 11)) rfl inX7 tyX7_ok nmX7 (by decide) rfl rfl rfl hF_X7_51 dX7_findTruth_106 ?_
      refine G_nm (fun g_1 e_1 => ?_)
      have w := w g_1 e_1
      refine G_lload 0 rfl dX7_findTruth_109 ?_
      refine G_aload_n 1 rfl dX7_findTruth_111 rfl ?_
      refine G_getl (k := 9) hs1 (q := (RX7, TX7, 11)) rfl inX7 (by decide) rfl hF_X7_55 dX7_findTruth_112 ?_
      refine G_lif_lt (tgt := 132) dX7_findTruth_115 dX7_findTruth_116 (by decide) (fun c3 => ?_) (fun c3 => ?_)
      · have w := w.1 c3
        refine G_aload_n 1 rfl dX7_findTruth_132 rfl ?_
        refine G_aload_n 2 rfl dX7_findTruth_133 rfl ?_
        refine G_getr (j := r1_numbers) (k := 1) hs2 (q := (RX2, TX2, 8)) rfl inX2 (by decide) rfl hF_X7_115 dX7_findTruth_134 ?_
        obtain ⟨Q3, ok3, w⟩ := w
        refine G_callV (Z := mX7_nextTrial) (As := [.ref r1_numbers]) (st := []) hL_X7_167 hI_X7_nextTrial hS_X7_nextTrial hC_X7_nextTrial hN_X7 nX7_nextTrial (by decide) hs1 rfl rfl rfl (Nat.le_of_ble_eq_true rfl) dX7_findTruth_137 ok3 (fun r_ h_3 z_ => ?_)
        obtain ⟨v_3, rfl, q_3⟩ := z_
        have w := w v_3 h_3 q_3
        refine G_istore_n dX7_findTruth_140 rfl (by decide) (lv' := [(3, .int v_3), (5, .long v_2), (0, .ref r0), (1, .ref r1), (2, .int x2), (4, .int x4)]) rfl ?_
        refine G_iinc (v := 1) 5 rfl dX7_findTruth_141 (by decide) (by decide) (lv' := [(4, .int (x4 + 1)), (3, .int v_3), (5, .long v_2), (0, .ref r0), (1, .ref r1), (2, .int x2)]) rfl ?_
        refine G_goto (tgt := 39) dX7_findTruth_144 (by decide) ?_
        exact G_sub [3, 4, 5, 1, 0] rfl w
      · have w := w.2 c3
        refine G_aload_n 1 rfl dX7_findTruth_119 rfl ?_
        refine G_aload_n 1 rfl dX7_findTruth_120 rfl ?_
        refine G_getr (j := r0_fractions) (k := 5) hs1 (q := (RX7, TX7, 11)) rfl inX7 (by decide) rfl hF_X7_38 dX7_findTruth_121 ?_
        refine G_iconst (v := 0) dX7_findTruth_124 (by decide) ?_
        refine G_iconst (v := 1) dX7_findTruth_125 (by decide) ?_
        obtain ⟨Q4, ok4, w⟩ := w
        refine G_callV (Z := mX0_billionths) (As := [.int (0 : Int32), .int (1 : Int32)]) (st := [.ref r0]) hL_X7_163 hI_X0_billionths hS_X0_billionths hC_X0_billionths hN_X0 nX0_billionths (by decide) hs3 rfl rfl rfl (Nat.le_of_ble_eq_true rfl) dX7_findTruth_126 ok4 (fun r_ h_4 z_ => ?_)
        obtain ⟨v_4, rfl, q_4⟩ := z_
        have w := w v_4 h_4 q_4
        refine G_putl (k := 9) tyX7 hs1 (q := (RX7, TX7, 11)) rfl inX7 tyX7_ok nmX7 (by decide) rfl rfl rfl hF_X7_55 dX7_findTruth_129 ?_
        refine G_nm (fun g_2 e_2 => ?_)
        have w := w g_2 e_2
        refine G_aload_n 1 rfl dX7_findTruth_132 rfl ?_
        refine G_aload_n 2 rfl dX7_findTruth_133 rfl ?_
        refine G_getr (j := r1_numbers) (k := 1) hs2 (q := (RX2, TX2, 8)) rfl inX2 (by decide) rfl hF_X7_115 dX7_findTruth_134 ?_
        obtain ⟨Q5, ok5, w⟩ := w
        refine G_callV (Z := mX7_nextTrial) (As := [.ref r1_numbers]) (st := []) hL_X7_167 hI_X7_nextTrial hS_X7_nextTrial hC_X7_nextTrial hN_X7 nX7_nextTrial (by decide) hs1 rfl rfl rfl (Nat.le_of_ble_eq_true rfl) dX7_findTruth_137 ok5 (fun r_ h_5 z_ => ?_)
        obtain ⟨v_5, rfl, q_5⟩ := z_
        have w := w v_5 h_5 q_5
        refine G_istore_n dX7_findTruth_140 rfl (by decide) (lv' := [(3, .int v_5), (5, .long v_2), (0, .ref r0), (1, .ref r1), (2, .int x2), (4, .int x4)]) rfl ?_
        refine G_iinc (v := 1) 5 rfl dX7_findTruth_141 (by decide) (by decide) (lv' := [(4, .int (x4 + 1)), (3, .int v_5), (5, .long v_2), (0, .ref r0), (1, .ref r1), (2, .int x2)]) rfl ?_
        refine G_goto (tgt := 39) dX7_findTruth_144 (by decide) ?_
        exact G_sub [3, 4, 5, 1, 0] rfl w
    · have w := w.2 c2
      refine G_aload_n 1 rfl dX7_findTruth_81 rfl ?_
      refine G_ldc2 hK_X7_49 dX7_findTruth_82 ?_
      refine G_putl (k := 8) tyX7 hs1 (q := (RX7, TX7, 11)) rfl inX7 tyX7_ok nmX7 (by decide) rfl rfl rfl hF_X7_51 dX7_findTruth_85 ?_
      refine G_nm (fun g_3 e_3 => ?_)
      have w := w g_3 e_3
      refine G_aload_n 1 rfl dX7_findTruth_88 rfl ?_
      refine G_ldc2 hK_X7_49 dX7_findTruth_89 ?_
      refine G_putl (k := 9) tyX7 hs1 (q := (RX7, TX7, 11)) rfl inX7 tyX7_ok nmX7 (by decide) rfl rfl rfl hF_X7_55 dX7_findTruth_92 ?_
      refine G_nm (fun g_4 e_4 => ?_)
      have w := w g_4 e_4
      exact G_vret rfl dX7_findTruth_95 ⟨rfl, w⟩
-- LostDigits$Spans.startTrials
theorem dX7_startTrials_0 : decode cX7_startTrials 0 = .ok (.aload_n 1, 1) := by decide +kernel
theorem dX7_startTrials_1 : decode cX7_startTrials 1 = .ok (.getfield 75, 3) := by decide +kernel
theorem dX7_startTrials_4 : decode cX7_startTrials 4 = .ok (.iconst 0, 1) := by decide +kernel
theorem dX7_startTrials_5 : decode cX7_startTrials 5 = .ok (.invokevirtual 171, 3) := by decide +kernel
theorem dX7_startTrials_8 : decode cX7_startTrials 8 = .ok (.istore_n 2, 1) := by decide +kernel
theorem dX7_startTrials_9 : decode cX7_startTrials 9 = .ok (.iconst 1, 1) := by decide +kernel
theorem dX7_startTrials_10 : decode cX7_startTrials 10 = .ok (.istore_n 3, 1) := by decide +kernel
theorem dX7_startTrials_11 : decode cX7_startTrials 11 = .ok (.iconst 0, 1) := by decide +kernel
theorem dX7_startTrials_12 : decode cX7_startTrials 12 = .ok (.istore 4, 2) := by decide +kernel
theorem dX7_startTrials_14 : decode cX7_startTrials 14 = .ok (.iload 4, 2) := by decide +kernel
theorem dX7_startTrials_16 : decode cX7_startTrials 16 = .ok (.iconst 5, 1) := by decide +kernel
theorem dX7_startTrials_17 : decode cX7_startTrials 17 = .ok (.if_icmp .ge 62, 3) := by decide +kernel
theorem dX7_startTrials_20 : decode cX7_startTrials 20 = .ok (.aload_n 0, 1) := by decide +kernel
theorem dX7_startTrials_21 : decode cX7_startTrials 21 = .ok (.getfield 42, 3) := by decide +kernel
theorem dX7_startTrials_24 : decode cX7_startTrials 24 = .ok (.iload 4, 2) := by decide +kernel
theorem dX7_startTrials_26 : decode cX7_startTrials 26 = .ok (.aload_n 1, 1) := by decide +kernel
theorem dX7_startTrials_27 : decode cX7_startTrials 27 = .ok (.getfield 115, 3) := by decide +kernel
theorem dX7_startTrials_30 : decode cX7_startTrials 30 = .ok (.iload 4, 2) := by decide +kernel
theorem dX7_startTrials_32 : decode cX7_startTrials 32 = .ok (.iaload, 1) := by decide +kernel
theorem dX7_startTrials_33 : decode cX7_startTrials 33 = .ok (.iastore, 1) := by decide +kernel
theorem dX7_startTrials_34 : decode cX7_startTrials 34 = .ok (.aload_n 0, 1) := by decide +kernel
theorem dX7_startTrials_35 : decode cX7_startTrials 35 = .ok (.getfield 46, 3) := by decide +kernel
theorem dX7_startTrials_38 : decode cX7_startTrials 38 = .ok (.iload 4, 2) := by decide +kernel
theorem dX7_startTrials_40 : decode cX7_startTrials 40 = .ok (.iload_n 2, 1) := by decide +kernel
theorem dX7_startTrials_41 : decode cX7_startTrials 41 = .ok (.iconst 1, 1) := by decide +kernel
theorem dX7_startTrials_42 : decode cX7_startTrials 42 = .ok (.iload 4, 2) := by decide +kernel
theorem dX7_startTrials_44 : decode cX7_startTrials 44 = .ok (.ishl, 1) := by decide +kernel
theorem dX7_startTrials_45 : decode cX7_startTrials 45 = .ok (.iand, 1) := by decide +kernel
theorem dX7_startTrials_46 : decode cX7_startTrials 46 = .ok (.ifCond .ne 7, 3) := by decide +kernel
theorem dX7_startTrials_49 : decode cX7_startTrials 49 = .ok (.iconst 0, 1) := by decide +kernel
theorem dX7_startTrials_50 : decode cX7_startTrials 50 = .ok (.goto 10, 3) := by decide +kernel
theorem dX7_startTrials_53 : decode cX7_startTrials 53 = .ok (.aload_n 1, 1) := by decide +kernel
theorem dX7_startTrials_54 : decode cX7_startTrials 54 = .ok (.getfield 108, 3) := by decide +kernel
theorem dX7_startTrials_57 : decode cX7_startTrials 57 = .ok (.iload 4, 2) := by decide +kernel
theorem dX7_startTrials_59 : decode cX7_startTrials 59 = .ok (.iaload, 1) := by decide +kernel
theorem dX7_startTrials_60 : decode cX7_startTrials 60 = .ok (.iastore, 1) := by decide +kernel
theorem dX7_startTrials_61 : decode cX7_startTrials 61 = .ok (.iload_n 3, 1) := by decide +kernel
theorem dX7_startTrials_62 : decode cX7_startTrials 62 = .ok (.aload_n 0, 1) := by decide +kernel
theorem dX7_startTrials_63 : decode cX7_startTrials 63 = .ok (.getfield 46, 3) := by decide +kernel
theorem dX7_startTrials_66 : decode cX7_startTrials 66 = .ok (.iload 4, 2) := by decide +kernel
theorem dX7_startTrials_68 : decode cX7_startTrials 68 = .ok (.iaload, 1) := by decide +kernel
theorem dX7_startTrials_69 : decode cX7_startTrials 69 = .ok (.iconst 1, 1) := by decide +kernel
theorem dX7_startTrials_70 : decode cX7_startTrials 70 = .ok (.iadd, 1) := by decide +kernel
theorem dX7_startTrials_71 : decode cX7_startTrials 71 = .ok (.imul, 1) := by decide +kernel
theorem dX7_startTrials_72 : decode cX7_startTrials 72 = .ok (.istore_n 3, 1) := by decide +kernel
theorem dX7_startTrials_73 : decode cX7_startTrials 73 = .ok (.iinc 4 1, 3) := by decide +kernel
theorem dX7_startTrials_76 : decode cX7_startTrials 76 = .ok (.goto (-62), 3) := by decide +kernel
theorem dX7_startTrials_79 : decode cX7_startTrials 79 = .ok (.iload_n 3, 1) := by decide +kernel
theorem dX7_startTrials_80 : decode cX7_startTrials 80 = .ok (.ireturn, 1) := by decide +kernel
set_option maxRecDepth 10000 in
theorem NX7_startTrials_0 {d : Nat} {S : fW} {h : fH} {Q : Int32 → fH → Prop} {r0 : Nat} {r1 : Nat} {r1_text r1_numbers r1_spans r1_terms r1_text_signs r1_text_ends r1_text_letters : Nat}  
    (hs1 : (r1, shX2 r1_text r1_numbers r1_spans r1_terms) ∈ S)
    (hs2 : (r1_text, shX10 r1_text_signs r1_text_ends r1_text_letters) ∈ S)
    (w : ∃ Q1 : Int32 → fH → Prop, OkI d mX10_lettersOf S [.ref r1_text, .int (0 : Int32)] h Q1 ∧ ∀ (v_1 : Int32) (h_1 : fH), Q1 v_1 h_1 → G mX7_startTrials (d + 1) S (f_PI Q) 14 [(0, .ref r0), (1, .ref r1), (2, .int v_1), (3, .int (1 : Int32)), (4, .int (0 : Int32))] [] h_1) :
    OkI (d + 1) mX7_startTrials S [.ref r0, .ref r1] h Q := by
  refine Ok.of (by decide) (Nat.le_of_ble_eq_true rfl) ?_
  refine G_aload_n 1 rfl dX7_startTrials_0 rfl ?_
  refine G_getr (j := r1_text) (k := 0) hs1 (q := (RX2, TX2, 8)) rfl inX2 (by decide) rfl hF_X7_75 dX7_startTrials_1 ?_
  refine G_iconst (v := 0) dX7_startTrials_4 (by decide) ?_
  obtain ⟨Q1, ok1, w⟩ := w
  refine G_callV (Z := mX10_lettersOf) (As := [.int (0 : Int32)]) (st := []) hL_X7_171 hI_X10_lettersOf hS_X10_lettersOf hC_X10_lettersOf hN_X10 nX10_lettersOf (by decide) hs2 rfl rfl rfl (Nat.le_of_ble_eq_true rfl) dX7_startTrials_5 ok1 (fun r_ h_1 z_ => ?_)
  obtain ⟨v_1, rfl, q_1⟩ := z_
  have w := w v_1 h_1 q_1
  refine G_istore_n dX7_startTrials_8 rfl (by decide) (lv' := [(2, .int v_1), (0, .ref r0), (1, .ref r1)]) rfl ?_
  refine G_iconst (v := 1) dX7_startTrials_9 (by decide) ?_
  refine G_istore_n dX7_startTrials_10 rfl (by decide) (lv' := [(3, .int (1 : Int32)), (2, .int v_1), (0, .ref r0), (1, .ref r1)]) rfl ?_
  refine G_iconst (v := 0) dX7_startTrials_11 (by decide) ?_
  refine G_istore dX7_startTrials_12 (by decide) (lv' := [(4, .int (0 : Int32)), (3, .int (1 : Int32)), (2, .int v_1), (0, .ref r0), (1, .ref r1)]) rfl ?_
  exact G_sub [3, 4, 2, 1, 0] rfl w

set_option maxRecDepth 10000 in
theorem NX7_startTrials_14 {d : Nat} {S : fW} {h : fH} {Q : Int32 → fH → Prop} {r0 : Nat} {r1 : Nat} {x2 : Int32} {x3 : Int32} {x4 : Int32} {r0_low r0_high r0_ratio r0_down r0_up r0_fractions r0_trial r0_widths r1_text r1_numbers r1_spans r1_terms : Nat}  
    (hs1 : (r0, shX7 r0_low r0_high r0_ratio r0_down r0_up r0_fractions r0_trial r0_widths) ∈ S)
    (hs2 : (r1, shX2 r1_text r1_numbers r1_spans r1_terms) ∈ S)
    (hs3 : (r1_numbers, shI 5) ∈ S)
    (hs4 : (r0_trial, shI 5) ∈ S)
    (hs5 : (r1_spans, shI 5) ∈ S)
    (hs6 : (r0_widths, shI 5) ∈ S)
    (w : (((5 : Int32) ≤ x4 → Q x3 h) ∧ (¬ (5 : Int32) ≤ x4 → vp_in x4 5 ∧ ∀ g_1 : fH, g_1 = u_ai h r0_trial (upd (h.2.2.1 r0_trial) x4.toNatClampNeg (h.2.2.1 r1_numbers x4.toNatClampNeg)) → ((¬ (x2 &&& ((1 : Int32) <<< (x4 &&& 31))) = 0 → ∀ g_2 : fH, g_2 = u_ai g_1 r0_widths (upd (g_1.2.2.1 r0_widths) x4.toNatClampNeg (g_1.2.2.1 r1_spans x4.toNatClampNeg)) → G mX7_startTrials (d + 1) S (f_PI Q) 14 [(0, .ref r0), (1, .ref r1), (2, .int x2), (3, .int (x3 * ((g_2.2.2.1 r0_widths x4.toNatClampNeg) + (1 : Int32)))), (4, .int (x4 + 1))] [] g_2) ∧ ((x2 &&& ((1 : Int32) <<< (x4 &&& 31))) = 0 → ∀ g_3 : fH, g_3 = u_ai g_1 r0_widths (upd (g_1.2.2.1 r0_widths) x4.toNatClampNeg (0 : Int32)) → G mX7_startTrials (d + 1) S (f_PI Q) 14 [(0, .ref r0), (1, .ref r1), (2, .int x2), (3, .int (x3 * ((g_3.2.2.1 r0_widths x4.toNatClampNeg) + (1 : Int32)))), (4, .int (x4 + 1))] [] g_3))))) :
    G mX7_startTrials (d + 1) S (f_PI Q) 14 [(0, .ref r0), (1, .ref r1), (2, .int x2), (3, .int x3), (4, .int x4)] [] h := by
  refine G_iload 4 rfl dX7_startTrials_14 ?_
  refine G_iconst (v := 5) dX7_startTrials_16 (by decide) ?_
  refine G_icmp_ge (tgt := 79) dX7_startTrials_17 (by decide) (fun c1 => ?_) (fun c1 => ?_)
  · have w := w.1 c1
    refine G_iload_n 3 rfl dX7_startTrials_79 rfl ?_
    exact G_iret rfl dX7_startTrials_80 ⟨_, rfl, w⟩
  · have w := w.2 c1
    refine G_aload_n 0 rfl dX7_startTrials_20 rfl ?_
    refine G_getr (j := r0_trial) (k := 6) hs1 (q := (RX7, TX7, 11)) rfl inX7 (by decide) rfl hF_X7_42 dX7_startTrials_21 ?_
    refine G_iload 4 rfl dX7_startTrials_24 ?_
    refine G_aload_n 1 rfl dX7_startTrials_26 rfl ?_
    refine G_getr (j := r1_numbers) (k := 1) hs2 (q := (RX2, TX2, 8)) rfl inX2 (by decide) rfl hF_X7_115 dX7_startTrials_27 ?_
    refine G_iload 4 rfl dX7_startTrials_30 ?_
    obtain ⟨sd1, w⟩ := w
    refine G_iald hs3 sd1 dX7_startTrials_32 ?_
    refine G_iast hs4 sd1 dX7_startTrials_33 ?_
    refine G_nm (fun g_1 e_1 => ?_)
    have w := w g_1 e_1
    refine G_aload_n 0 rfl dX7_startTrials_34 rfl ?_
    refine G_getr (j := r0_widths) (k := 7) hs1 (q := (RX7, TX7, 11)) rfl inX7 (by decide) rfl hF_X7_46 dX7_startTrials_35 ?_
    refine G_iload 4 rfl dX7_startTrials_38 ?_
    refine G_iload_n 2 rfl dX7_startTrials_40 rfl ?_
    refine G_iconst (v := 1) dX7_startTrials_41 (by decide) ?_
    refine G_iload 4 rfl dX7_startTrials_42 ?_
    refine G_ishl dX7_startTrials_44 ?_
    refine G_iand dX7_startTrials_45 ?_
    refine G_if_ne (tgt := 53) dX7_startTrials_46 (by decide) (fun c2 => ?_) (fun c2 => ?_)
    · have w := w.1 c2
      refine G_aload_n 1 rfl dX7_startTrials_53 rfl ?_
      refine G_getr (j := r1_spans) (k := 2) hs2 (q := (RX2, TX2, 8)) rfl inX2 (by decide) rfl hF_X7_108 dX7_startTrials_54 ?_
      refine G_iload 4 rfl dX7_startTrials_57 ?_
      refine G_iald hs5 sd1 dX7_startTrials_59 ?_
      refine G_iast hs6 sd1 dX7_startTrials_60 ?_
      refine G_nm (fun g_2 e_2 => ?_)
      have w := w g_2 e_2
      refine G_iload_n 3 rfl dX7_startTrials_61 rfl ?_
      refine G_aload_n 0 rfl dX7_startTrials_62 rfl ?_
      refine G_getr (j := r0_widths) (k := 7) hs1 (q := (RX7, TX7, 11)) rfl inX7 (by decide) rfl hF_X7_46 dX7_startTrials_63 ?_
      refine G_iload 4 rfl dX7_startTrials_66 ?_
      refine G_iald hs6 sd1 dX7_startTrials_68 ?_
      refine G_iconst (v := 1) dX7_startTrials_69 (by decide) ?_
      refine G_iadd dX7_startTrials_70 ?_
      refine G_imul dX7_startTrials_71 ?_
      refine G_istore_n dX7_startTrials_72 rfl (by decide) (lv' := [(3, .int (x3 * ((g_2.2.2.1 r0_widths x4.toNatClampNeg) + (1 : Int32)))), (0, .ref r0), (1, .ref r1), (2, .int x2), (4, .int x4)]) rfl ?_
      refine G_iinc (v := 1) 4 rfl dX7_startTrials_73 (by decide) (by decide) (lv' := [(4, .int (x4 + 1)), (3, .int (x3 * ((g_2.2.2.1 r0_widths x4.toNatClampNeg) + (1 : Int32)))), (0, .ref r0), (1, .ref r1), (2, .int x2)]) rfl ?_
      refine G_goto (tgt := 14) dX7_startTrials_76 (by decide) ?_
      exact G_sub [2, 3, 4, 1, 0] rfl w
    · have w := w.2 c2
      refine G_iconst (v := 0) dX7_startTrials_49 (by decide) ?_
      refine G_goto (tgt := 60) dX7_startTrials_50 (by decide) ?_
      refine G_iast hs6 sd1 dX7_startTrials_60 ?_
      refine G_nm (fun g_3 e_3 => ?_)
      have w := w g_3 e_3
      refine G_iload_n 3 rfl dX7_startTrials_61 rfl ?_
      refine G_aload_n 0 rfl dX7_startTrials_62 rfl ?_
      refine G_getr (j := r0_widths) (k := 7) hs1 (q := (RX7, TX7, 11)) rfl inX7 (by decide) rfl hF_X7_46 dX7_startTrials_63 ?_
      refine G_iload 4 rfl dX7_startTrials_66 ?_
      refine G_iald hs6 sd1 dX7_startTrials_68 ?_
      refine G_iconst (v := 1) dX7_startTrials_69 (by decide) ?_
      refine G_iadd dX7_startTrials_70 ?_
      refine G_imul dX7_startTrials_71 ?_
      refine G_istore_n dX7_startTrials_72 rfl (by decide) (lv' := [(3, .int (x3 * ((g_3.2.2.1 r0_widths x4.toNatClampNeg) + (1 : Int32)))), (0, .ref r0), (1, .ref r1), (2, .int x2), (4, .int x4)]) rfl ?_
      refine G_iinc (v := 1) 4 rfl dX7_startTrials_73 (by decide) (by decide) (lv' := [(4, .int (x4 + 1)), (3, .int (x3 * ((g_3.2.2.1 r0_widths x4.toNatClampNeg) + (1 : Int32)))), (0, .ref r0), (1, .ref r1), (2, .int x2)]) rfl ?_
      refine G_goto (tgt := 14) dX7_startTrials_76 (by decide) ?_
      exact G_sub [2, 3, 4, 1, 0] rfl w
-- LostDigits$Spans.nextTrial
theorem dX7_nextTrial_0 : decode cX7_nextTrial 0 = .ok (.iconst 0, 1) := by decide +kernel
theorem dX7_nextTrial_1 : decode cX7_nextTrial 1 = .ok (.istore_n 2, 1) := by decide +kernel
theorem dX7_nextTrial_2 : decode cX7_nextTrial 2 = .ok (.iconst 0, 1) := by decide +kernel
theorem dX7_nextTrial_3 : decode cX7_nextTrial 3 = .ok (.istore_n 3, 1) := by decide +kernel
theorem dX7_nextTrial_4 : decode cX7_nextTrial 4 = .ok (.iload_n 3, 1) := by decide +kernel
theorem dX7_nextTrial_5 : decode cX7_nextTrial 5 = .ok (.iconst 5, 1) := by decide +kernel
theorem dX7_nextTrial_6 : decode cX7_nextTrial 6 = .ok (.if_icmp .ge 61, 3) := by decide +kernel
theorem dX7_nextTrial_9 : decode cX7_nextTrial 9 = .ok (.iload_n 3, 1) := by decide +kernel
theorem dX7_nextTrial_10 : decode cX7_nextTrial 10 = .ok (.aload_n 1, 1) := by decide +kernel
theorem dX7_nextTrial_11 : decode cX7_nextTrial 11 = .ok (.arraylength, 1) := by decide +kernel
theorem dX7_nextTrial_12 : decode cX7_nextTrial 12 = .ok (.if_icmp .ge 55, 3) := by decide +kernel
theorem dX7_nextTrial_15 : decode cX7_nextTrial 15 = .ok (.iload_n 2, 1) := by decide +kernel
theorem dX7_nextTrial_16 : decode cX7_nextTrial 16 = .ok (.iconst 1, 1) := by decide +kernel
theorem dX7_nextTrial_17 : decode cX7_nextTrial 17 = .ok (.iload_n 3, 1) := by decide +kernel
theorem dX7_nextTrial_18 : decode cX7_nextTrial 18 = .ok (.ishl, 1) := by decide +kernel
theorem dX7_nextTrial_19 : decode cX7_nextTrial 19 = .ok (.ior, 1) := by decide +kernel
theorem dX7_nextTrial_20 : decode cX7_nextTrial 20 = .ok (.istore_n 2, 1) := by decide +kernel
theorem dX7_nextTrial_21 : decode cX7_nextTrial 21 = .ok (.aload_n 0, 1) := by decide +kernel
theorem dX7_nextTrial_22 : decode cX7_nextTrial 22 = .ok (.getfield 42, 3) := by decide +kernel
theorem dX7_nextTrial_25 : decode cX7_nextTrial 25 = .ok (.iload_n 3, 1) := by decide +kernel
theorem dX7_nextTrial_26 : decode cX7_nextTrial 26 = .ok (.iaload, 1) := by decide +kernel
theorem dX7_nextTrial_27 : decode cX7_nextTrial 27 = .ok (.aload_n 1, 1) := by decide +kernel
theorem dX7_nextTrial_28 : decode cX7_nextTrial 28 = .ok (.iload_n 3, 1) := by decide +kernel
theorem dX7_nextTrial_29 : decode cX7_nextTrial 29 = .ok (.iaload, 1) := by decide +kernel
theorem dX7_nextTrial_30 : decode cX7_nextTrial 30 = .ok (.aload_n 0, 1) := by decide +kernel
theorem dX7_nextTrial_31 : decode cX7_nextTrial 31 = .ok (.getfield 46, 3) := by decide +kernel
theorem dX7_nextTrial_34 : decode cX7_nextTrial 34 = .ok (.iload_n 3, 1) := by decide +kernel
theorem dX7_nextTrial_35 : decode cX7_nextTrial 35 = .ok (.iaload, 1) := by decide +kernel
theorem dX7_nextTrial_36 : decode cX7_nextTrial 36 = .ok (.iadd, 1) := by decide +kernel
theorem dX7_nextTrial_37 : decode cX7_nextTrial 37 = .ok (.if_icmp .ge 15, 3) := by decide +kernel
theorem dX7_nextTrial_40 : decode cX7_nextTrial 40 = .ok (.aload_n 0, 1) := by decide +kernel
theorem dX7_nextTrial_41 : decode cX7_nextTrial 41 = .ok (.getfield 42, 3) := by decide +kernel
theorem dX7_nextTrial_44 : decode cX7_nextTrial 44 = .ok (.iload_n 3, 1) := by decide +kernel
theorem dX7_nextTrial_45 : decode cX7_nextTrial 45 = .ok (.dup2, 1) := by decide +kernel
theorem dX7_nextTrial_46 : decode cX7_nextTrial 46 = .ok (.iaload, 1) := by decide +kernel
theorem dX7_nextTrial_47 : decode cX7_nextTrial 47 = .ok (.iconst 1, 1) := by decide +kernel
theorem dX7_nextTrial_48 : decode cX7_nextTrial 48 = .ok (.iadd, 1) := by decide +kernel
theorem dX7_nextTrial_49 : decode cX7_nextTrial 49 = .ok (.iastore, 1) := by decide +kernel
theorem dX7_nextTrial_50 : decode cX7_nextTrial 50 = .ok (.iload_n 2, 1) := by decide +kernel
theorem dX7_nextTrial_51 : decode cX7_nextTrial 51 = .ok (.ireturn, 1) := by decide +kernel
theorem dX7_nextTrial_52 : decode cX7_nextTrial 52 = .ok (.aload_n 0, 1) := by decide +kernel
theorem dX7_nextTrial_53 : decode cX7_nextTrial 53 = .ok (.getfield 42, 3) := by decide +kernel
theorem dX7_nextTrial_56 : decode cX7_nextTrial 56 = .ok (.iload_n 3, 1) := by decide +kernel
theorem dX7_nextTrial_57 : decode cX7_nextTrial 57 = .ok (.aload_n 1, 1) := by decide +kernel
theorem dX7_nextTrial_58 : decode cX7_nextTrial 58 = .ok (.iload_n 3, 1) := by decide +kernel
theorem dX7_nextTrial_59 : decode cX7_nextTrial 59 = .ok (.iaload, 1) := by decide +kernel
theorem dX7_nextTrial_60 : decode cX7_nextTrial 60 = .ok (.iastore, 1) := by decide +kernel
theorem dX7_nextTrial_61 : decode cX7_nextTrial 61 = .ok (.iinc 3 1, 3) := by decide +kernel
theorem dX7_nextTrial_64 : decode cX7_nextTrial 64 = .ok (.goto (-60), 3) := by decide +kernel
theorem dX7_nextTrial_67 : decode cX7_nextTrial 67 = .ok (.iload_n 2, 1) := by decide +kernel
theorem dX7_nextTrial_68 : decode cX7_nextTrial 68 = .ok (.ireturn, 1) := by decide +kernel
set_option maxRecDepth 10000 in
theorem NX7_nextTrial_0 {d : Nat} {S : fW} {h : fH} {Q : Int32 → fH → Prop} {r0 : Nat} {r1 : Nat}  
    (w : G mX7_nextTrial d S (f_PI Q) 4 [(0, .ref r0), (1, .ref r1), (2, .int (0 : Int32)), (3, .int (0 : Int32))] [] h) :
    OkI d mX7_nextTrial S [.ref r0, .ref r1] h Q := by
  refine Ok.of (by decide) (Nat.le_of_ble_eq_true rfl) ?_
  refine G_iconst (v := 0) dX7_nextTrial_0 (by decide) ?_
  refine G_istore_n dX7_nextTrial_1 rfl (by decide) (lv' := [(2, .int (0 : Int32)), (0, .ref r0), (1, .ref r1)]) rfl ?_
  refine G_iconst (v := 0) dX7_nextTrial_2 (by decide) ?_
  refine G_istore_n dX7_nextTrial_3 rfl (by decide) (lv' := [(3, .int (0 : Int32)), (2, .int (0 : Int32)), (0, .ref r0), (1, .ref r1)]) rfl ?_
  exact G_sub [2, 3, 1, 0] rfl w

set_option maxRecDepth 10000 in
theorem NX7_nextTrial_4 {d : Nat} {S : fW} {h : fH} {Q : Int32 → fH → Prop} {r0 : Nat} {r1 : Nat} {x2 : Int32} {x3 : Int32} {n_r1 r0_low r0_high r0_ratio r0_down r0_up r0_fractions r0_trial r0_widths : Nat}  
    (hs1 : (r1, shI n_r1) ∈ S)
    (hs2 : (r0, shX7 r0_low r0_high r0_ratio r0_down r0_up r0_fractions r0_trial r0_widths) ∈ S)
    (hs3 : (r0_trial, shI 5) ∈ S)
    (hs4 : (r0_widths, shI 5) ∈ S)
    (w : (((5 : Int32) ≤ x3 → Q x2 h) ∧ (¬ (5 : Int32) ≤ x3 → (((Int32.ofNat n_r1) ≤ x3 → Q x2 h) ∧ (¬ (Int32.ofNat n_r1) ≤ x3 → vp_in x3 5 ∧ vp_in x3 n_r1 ∧ ((((h.2.2.1 r1 x3.toNatClampNeg) + (h.2.2.1 r0_widths x3.toNatClampNeg)) ≤ (h.2.2.1 r0_trial x3.toNatClampNeg) → ∀ g_1 : fH, g_1 = u_ai h r0_trial (upd (h.2.2.1 r0_trial) x3.toNatClampNeg (h.2.2.1 r1 x3.toNatClampNeg)) → G mX7_nextTrial d S (f_PI Q) 4 [(0, .ref r0), (1, .ref r1), (2, .int (x2 ||| ((1 : Int32) <<< (x3 &&& 31)))), (3, .int (x3 + 1))] [] g_1) ∧ (¬ ((h.2.2.1 r1 x3.toNatClampNeg) + (h.2.2.1 r0_widths x3.toNatClampNeg)) ≤ (h.2.2.1 r0_trial x3.toNatClampNeg) → ∀ g_2 : fH, g_2 = u_ai h r0_trial (upd (h.2.2.1 r0_trial) x3.toNatClampNeg ((h.2.2.1 r0_trial x3.toNatClampNeg) + (1 : Int32))) → Q (x2 ||| ((1 : Int32) <<< (x3 &&& 31))) g_2))))))) :
    G mX7_nextTrial d S (f_PI Q) 4 [(0, .ref r0), (1, .ref r1), (2, .int x2), (3, .int x3)] [] h := by
  refine G_iload_n 3 rfl dX7_nextTrial_4 rfl ?_
  refine G_iconst (v := 5) dX7_nextTrial_5 (by decide) ?_
  refine G_icmp_ge (tgt := 67) dX7_nextTrial_6 (by decide) (fun c1 => ?_) (fun c1 => ?_)
  · have w := w.1 c1
    refine G_iload_n 2 rfl dX7_nextTrial_67 rfl ?_
    exact G_iret rfl dX7_nextTrial_68 ⟨_, rfl, w⟩
  · have w := w.2 c1
    refine G_iload_n 3 rfl dX7_nextTrial_9 rfl ?_
    refine G_aload_n 1 rfl dX7_nextTrial_10 rfl ?_
    refine G_alenI hs1 dX7_nextTrial_11 ?_
    refine G_icmp_ge (tgt := 67) dX7_nextTrial_12 (by decide) (fun c2 => ?_) (fun c2 => ?_)
    · have w := w.1 c2
      refine G_iload_n 2 rfl dX7_nextTrial_67 rfl ?_
      exact G_iret rfl dX7_nextTrial_68 ⟨_, rfl, w⟩
    · have w := w.2 c2
      refine G_iload_n 2 rfl dX7_nextTrial_15 rfl ?_
      refine G_iconst (v := 1) dX7_nextTrial_16 (by decide) ?_
      refine G_iload_n 3 rfl dX7_nextTrial_17 rfl ?_
      refine G_ishl dX7_nextTrial_18 ?_
      refine G_ior dX7_nextTrial_19 ?_
      refine G_istore_n dX7_nextTrial_20 rfl (by decide) (lv' := [(2, .int (x2 ||| ((1 : Int32) <<< (x3 &&& 31)))), (0, .ref r0), (1, .ref r1), (3, .int x3)]) rfl ?_
      refine G_aload_n 1 rfl dX7_nextTrial_21 rfl ?_
      refine G_getr (j := r0_trial) (k := 6) hs2 (q := (RX7, TX7, 11)) rfl inX7 (by decide) rfl hF_X7_42 dX7_nextTrial_22 ?_
      refine G_iload_n 3 rfl dX7_nextTrial_25 rfl ?_
      obtain ⟨sd1, w⟩ := w
      refine G_iald hs3 sd1 dX7_nextTrial_26 ?_
      refine G_aload_n 2 rfl dX7_nextTrial_27 rfl ?_
      refine G_iload_n 3 rfl dX7_nextTrial_28 rfl ?_
      obtain ⟨sd2, w⟩ := w
      refine G_iald hs1 sd2 dX7_nextTrial_29 ?_
      refine G_aload_n 1 rfl dX7_nextTrial_30 rfl ?_
      refine G_getr (j := r0_widths) (k := 7) hs2 (q := (RX7, TX7, 11)) rfl inX7 (by decide) rfl hF_X7_46 dX7_nextTrial_31 ?_
      refine G_iload_n 3 rfl dX7_nextTrial_34 rfl ?_
      refine G_iald hs4 sd1 dX7_nextTrial_35 ?_
      refine G_iadd dX7_nextTrial_36 ?_
      refine G_icmp_ge (tgt := 52) dX7_nextTrial_37 (by decide) (fun c3 => ?_) (fun c3 => ?_)
      · have w := w.1 c3
        refine G_aload_n 1 rfl dX7_nextTrial_52 rfl ?_
        refine G_getr (j := r0_trial) (k := 6) hs2 (q := (RX7, TX7, 11)) rfl inX7 (by decide) rfl hF_X7_42 dX7_nextTrial_53 ?_
        refine G_iload_n 3 rfl dX7_nextTrial_56 rfl ?_
        refine G_aload_n 2 rfl dX7_nextTrial_57 rfl ?_
        refine G_iload_n 3 rfl dX7_nextTrial_58 rfl ?_
        refine G_iald hs1 sd2 dX7_nextTrial_59 ?_
        refine G_iast hs3 sd1 dX7_nextTrial_60 ?_
        refine G_nm (fun g_1 e_1 => ?_)
        have w := w g_1 e_1
        refine G_iinc (v := 1) 3 rfl dX7_nextTrial_61 (by decide) (by decide) (lv' := [(3, .int (x3 + 1)), (2, .int (x2 ||| ((1 : Int32) <<< (x3 &&& 31)))), (0, .ref r0), (1, .ref r1)]) rfl ?_
        refine G_goto (tgt := 4) dX7_nextTrial_64 (by decide) ?_
        exact G_sub [2, 3, 1, 0] rfl w
      · have w := w.2 c3
        refine G_aload_n 1 rfl dX7_nextTrial_40 rfl ?_
        refine G_getr (j := r0_trial) (k := 6) hs2 (q := (RX7, TX7, 11)) rfl inX7 (by decide) rfl hF_X7_42 dX7_nextTrial_41 ?_
        refine G_iload_n 3 rfl dX7_nextTrial_44 rfl ?_
        refine G_dup2 dX7_nextTrial_45 rfl rfl ?_
        refine G_iald hs3 sd1 dX7_nextTrial_46 ?_
        refine G_iconst (v := 1) dX7_nextTrial_47 (by decide) ?_
        refine G_iadd dX7_nextTrial_48 ?_
        refine G_iast hs3 sd1 dX7_nextTrial_49 ?_
        refine G_nm (fun g_2 e_2 => ?_)
        have w := w g_2 e_2
        refine G_iload_n 0 rfl dX7_nextTrial_50 rfl ?_
        exact G_iret rfl dX7_nextTrial_51 ⟨_, rfl, w⟩

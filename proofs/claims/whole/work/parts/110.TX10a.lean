-- LostDigits$Text.copyFrom
theorem dX10_copyFrom_0 : decode cX10_copyFrom 0 = .ok (.aload_n 1, 1) := by decide +kernel
theorem dX10_copyFrom_1 : decode cX10_copyFrom 1 = .ok (.getfield 9, 3) := by decide +kernel
theorem dX10_copyFrom_4 : decode cX10_copyFrom 4 = .ok (.iconst 0, 1) := by decide +kernel
theorem dX10_copyFrom_5 : decode cX10_copyFrom 5 = .ok (.aload_n 0, 1) := by decide +kernel
theorem dX10_copyFrom_6 : decode cX10_copyFrom 6 = .ok (.getfield 9, 3) := by decide +kernel
theorem dX10_copyFrom_9 : decode cX10_copyFrom 9 = .ok (.iconst 0, 1) := by decide +kernel
theorem dX10_copyFrom_10 : decode cX10_copyFrom 10 = .ok (.bipush 13, 2) := by decide +kernel
theorem dX10_copyFrom_12 : decode cX10_copyFrom 12 = .ok (.invokestatic 28, 3) := by decide +kernel
theorem dX10_copyFrom_15 : decode cX10_copyFrom 15 = .ok (.aload_n 1, 1) := by decide +kernel
theorem dX10_copyFrom_16 : decode cX10_copyFrom 16 = .ok (.getfield 15, 3) := by decide +kernel
theorem dX10_copyFrom_19 : decode cX10_copyFrom 19 = .ok (.iconst 0, 1) := by decide +kernel
theorem dX10_copyFrom_20 : decode cX10_copyFrom 20 = .ok (.aload_n 0, 1) := by decide +kernel
theorem dX10_copyFrom_21 : decode cX10_copyFrom 21 = .ok (.getfield 15, 3) := by decide +kernel
theorem dX10_copyFrom_24 : decode cX10_copyFrom 24 = .ok (.iconst 0, 1) := by decide +kernel
theorem dX10_copyFrom_25 : decode cX10_copyFrom 25 = .ok (.bipush 13, 2) := by decide +kernel
theorem dX10_copyFrom_27 : decode cX10_copyFrom 27 = .ok (.invokestatic 28, 3) := by decide +kernel
theorem dX10_copyFrom_30 : decode cX10_copyFrom 30 = .ok (.aload_n 1, 1) := by decide +kernel
theorem dX10_copyFrom_31 : decode cX10_copyFrom 31 = .ok (.getfield 18, 3) := by decide +kernel
theorem dX10_copyFrom_34 : decode cX10_copyFrom 34 = .ok (.iconst 0, 1) := by decide +kernel
theorem dX10_copyFrom_35 : decode cX10_copyFrom 35 = .ok (.aload_n 0, 1) := by decide +kernel
theorem dX10_copyFrom_36 : decode cX10_copyFrom 36 = .ok (.getfield 18, 3) := by decide +kernel
theorem dX10_copyFrom_39 : decode cX10_copyFrom 39 = .ok (.iconst 0, 1) := by decide +kernel
theorem dX10_copyFrom_40 : decode cX10_copyFrom 40 = .ok (.bipush 13, 2) := by decide +kernel
theorem dX10_copyFrom_42 : decode cX10_copyFrom 42 = .ok (.invokestatic 28, 3) := by decide +kernel
theorem dX10_copyFrom_45 : decode cX10_copyFrom 45 = .ok (.aload_n 0, 1) := by decide +kernel
theorem dX10_copyFrom_46 : decode cX10_copyFrom 46 = .ok (.aload_n 1, 1) := by decide +kernel
theorem dX10_copyFrom_47 : decode cX10_copyFrom 47 = .ok (.getfield 21, 3) := by decide +kernel
theorem dX10_copyFrom_50 : decode cX10_copyFrom 50 = .ok (.putfield 21, 3) := by decide +kernel
theorem dX10_copyFrom_53 : decode cX10_copyFrom 53 = .ok (.return_, 1) := by decide +kernel
set_option maxRecDepth 10000 in
theorem NX10_copyFrom_0 {d : Nat} {S : fW} {h : fH} {Q : fH → Prop} {r0 : Nat} {r1 : Nat} {r1_signs r1_ends r1_letters r0_signs r0_ends r0_letters : Nat}  
    (hs1 : (r1, shX10 r1_signs r1_ends r1_letters) ∈ S)
    (hs2 : (r0, shX10 r0_signs r0_ends r0_letters) ∈ S)
    (hs3 : (r1_signs, shI 13) ∈ S)
    (hs4 : (r0_signs, shI 13) ∈ S)
    (hs5 : (r1_ends, shI 13) ∈ S)
    (hs6 : (r0_ends, shI 13) ∈ S)
    (hs7 : (r1_letters, shI 13) ∈ S)
    (hs8 : (r0_letters, shI 13) ∈ S)
    (w : ∀ g_1 : fH, g_1 = u_ai h r0_signs (va_cpy (h.2.2.1 r1_signs) (h.2.2.1 r0_signs) 0 0 13) → ∀ g_2 : fH, g_2 = u_ai g_1 r0_ends (va_cpy (g_1.2.2.1 r1_ends) (g_1.2.2.1 r0_ends) 0 0 13) → ∀ g_3 : fH, g_3 = u_ai g_2 r0_letters (va_cpy (g_2.2.2.1 r1_letters) (g_2.2.2.1 r0_letters) 0 0 13) → ∀ g_4 : fH, g_4 = u_fi g_3 r0 3 (g_3.1 r1 3) → Q g_4) :
    OkV (d + 1) mX10_copyFrom S [.ref r0, .ref r1] h Q := by
  refine Ok.of (by decide) (Nat.le_of_ble_eq_true rfl) ?_
  refine G_aload_n 1 rfl dX10_copyFrom_0 rfl ?_
  refine G_getr (j := r1_signs) (k := 0) hs1 (q := (RX10, TX10, 4)) rfl inX10 (by decide) rfl hF_X10_9 dX10_copyFrom_1 ?_
  refine G_iconst (v := 0) dX10_copyFrom_4 (by decide) ?_
  refine G_aload_n 0 rfl dX10_copyFrom_5 rfl ?_
  refine G_getr (j := r0_signs) (k := 0) hs2 (q := (RX10, TX10, 4)) rfl inX10 (by decide) rfl hF_X10_9 dX10_copyFrom_6 ?_
  refine G_iconst (v := 0) dX10_copyFrom_9 (by decide) ?_
  refine G_bipush (v := 13) dX10_copyFrom_10 (by decide) ?_
  refine G_copyI hL_X10_28 hs3 hs4 (by decide) (by decide) (by decide) (Nat.le_of_ble_eq_true rfl) dX10_copyFrom_12 ?_
  refine G_nm (fun g_1 e_1 => ?_)
  have w := w g_1 e_1
  refine G_aload_n 1 rfl dX10_copyFrom_15 rfl ?_
  refine G_getr (j := r1_ends) (k := 1) hs1 (q := (RX10, TX10, 4)) rfl inX10 (by decide) rfl hF_X10_15 dX10_copyFrom_16 ?_
  refine G_iconst (v := 0) dX10_copyFrom_19 (by decide) ?_
  refine G_aload_n 0 rfl dX10_copyFrom_20 rfl ?_
  refine G_getr (j := r0_ends) (k := 1) hs2 (q := (RX10, TX10, 4)) rfl inX10 (by decide) rfl hF_X10_15 dX10_copyFrom_21 ?_
  refine G_iconst (v := 0) dX10_copyFrom_24 (by decide) ?_
  refine G_bipush (v := 13) dX10_copyFrom_25 (by decide) ?_
  refine G_copyI hL_X10_28 hs5 hs6 (by decide) (by decide) (by decide) (Nat.le_of_ble_eq_true rfl) dX10_copyFrom_27 ?_
  refine G_nm (fun g_2 e_2 => ?_)
  have w := w g_2 e_2
  refine G_aload_n 1 rfl dX10_copyFrom_30 rfl ?_
  refine G_getr (j := r1_letters) (k := 2) hs1 (q := (RX10, TX10, 4)) rfl inX10 (by decide) rfl hF_X10_18 dX10_copyFrom_31 ?_
  refine G_iconst (v := 0) dX10_copyFrom_34 (by decide) ?_
  refine G_aload_n 0 rfl dX10_copyFrom_35 rfl ?_
  refine G_getr (j := r0_letters) (k := 2) hs2 (q := (RX10, TX10, 4)) rfl inX10 (by decide) rfl hF_X10_18 dX10_copyFrom_36 ?_
  refine G_iconst (v := 0) dX10_copyFrom_39 (by decide) ?_
  refine G_bipush (v := 13) dX10_copyFrom_40 (by decide) ?_
  refine G_copyI hL_X10_28 hs7 hs8 (by decide) (by decide) (by decide) (Nat.le_of_ble_eq_true rfl) dX10_copyFrom_42 ?_
  refine G_nm (fun g_3 e_3 => ?_)
  have w := w g_3 e_3
  refine G_aload_n 0 rfl dX10_copyFrom_45 rfl ?_
  refine G_aload_n 1 rfl dX10_copyFrom_46 rfl ?_
  refine G_geti (k := 3) hs1 (q := (RX10, TX10, 4)) rfl inX10 (by decide) (Or.inl rfl) hF_X10_21 dX10_copyFrom_47 ?_
  refine G_puti (k := 3) tyX10 hs2 (q := (RX10, TX10, 4)) rfl inX10 tyX10_ok nmX10 (by decide) rfl rfl rfl hF_X10_21 dX10_copyFrom_50 ?_
  refine G_nm (fun g_4 e_4 => ?_)
  have w := w g_4 e_4
  exact G_vret rfl dX10_copyFrom_53 ⟨rfl, w⟩
-- LostDigits$Text.read
theorem dX10_read_0 : decode cX10_read 0 = .ok (.aload_n 0, 1) := by decide +kernel
theorem dX10_read_1 : decode cX10_read 1 = .ok (.iconst 0, 1) := by decide +kernel
theorem dX10_read_2 : decode cX10_read 2 = .ok (.putfield 21, 3) := by decide +kernel
theorem dX10_read_5 : decode cX10_read 5 = .ok (.iconst 0, 1) := by decide +kernel
theorem dX10_read_6 : decode cX10_read 6 = .ok (.istore_n 3, 1) := by decide +kernel
theorem dX10_read_7 : decode cX10_read 7 = .ok (.iload_n 3, 1) := by decide +kernel
theorem dX10_read_8 : decode cX10_read 8 = .ok (.iload_n 2, 1) := by decide +kernel
theorem dX10_read_9 : decode cX10_read 9 = .ok (.if_icmp .ge 22, 3) := by decide +kernel
theorem dX10_read_12 : decode cX10_read 12 = .ok (.iload_n 3, 1) := by decide +kernel
theorem dX10_read_13 : decode cX10_read 13 = .ok (.aload_n 1, 1) := by decide +kernel
theorem dX10_read_14 : decode cX10_read 14 = .ok (.arraylength, 1) := by decide +kernel
theorem dX10_read_15 : decode cX10_read 15 = .ok (.if_icmp .ge 16, 3) := by decide +kernel
theorem dX10_read_18 : decode cX10_read 18 = .ok (.aload_n 0, 1) := by decide +kernel
theorem dX10_read_19 : decode cX10_read 19 = .ok (.aload_n 1, 1) := by decide +kernel
theorem dX10_read_20 : decode cX10_read 20 = .ok (.iload_n 3, 1) := by decide +kernel
theorem dX10_read_21 : decode cX10_read 21 = .ok (.iaload, 1) := by decide +kernel
theorem dX10_read_22 : decode cX10_read 22 = .ok (.invokevirtual 34, 3) := by decide +kernel
theorem dX10_read_25 : decode cX10_read 25 = .ok (.iinc 3 1, 3) := by decide +kernel
theorem dX10_read_28 : decode cX10_read 28 = .ok (.goto (-21), 3) := by decide +kernel
theorem dX10_read_31 : decode cX10_read 31 = .ok (.aload_n 0, 1) := by decide +kernel
theorem dX10_read_32 : decode cX10_read 32 = .ok (.invokevirtual 25, 3) := by decide +kernel
theorem dX10_read_35 : decode cX10_read 35 = .ok (.return_, 1) := by decide +kernel
set_option maxRecDepth 10000 in
theorem NX10_read_0 {d : Nat} {S : fW} {h : fH} {Q : fH → Prop} {r0 : Nat} {r1 : Nat} {x2 : Int32} {r0_signs r0_ends r0_letters : Nat}  
    (hs1 : (r0, shX10 r0_signs r0_ends r0_letters) ∈ S)
    (w : ∀ g_1 : fH, g_1 = u_fi h r0 3 (0 : Int32) → G mX10_read (d + 1) S (f_PV Q) 7 [(0, .ref r0), (1, .ref r1), (2, .int x2), (3, .int (0 : Int32))] [] g_1) :
    OkV (d + 1) mX10_read S [.ref r0, .ref r1, .int x2] h Q := by
  refine Ok.of (by decide) (Nat.le_of_ble_eq_true rfl) ?_
  refine G_aload_n 0 rfl dX10_read_0 rfl ?_
  refine G_iconst (v := 0) dX10_read_1 (by decide) ?_
  refine G_puti (k := 3) tyX10 hs1 (q := (RX10, TX10, 4)) rfl inX10 tyX10_ok nmX10 (by decide) rfl rfl rfl hF_X10_21 dX10_read_2 ?_
  refine G_nm (fun g_1 e_1 => ?_)
  have w := w g_1 e_1
  refine G_iconst (v := 0) dX10_read_5 (by decide) ?_
  refine G_istore_n dX10_read_6 rfl (by decide) (lv' := [(3, .int (0 : Int32)), (0, .ref r0), (1, .ref r1), (2, .int x2)]) rfl ?_
  exact G_sub [1, 2, 3, 0] rfl w

set_option maxRecDepth 10000 in
theorem NX10_read_7 {d : Nat} {S : fW} {h : fH} {Q : fH → Prop} {r0 : Nat} {r1 : Nat} {x2 : Int32} {x3 : Int32} {r0_signs r0_ends r0_letters n_r1 : Nat}  
    (hs1 : (r0, shX10 r0_signs r0_ends r0_letters) ∈ S)
    (hs2 : (r1, shI n_r1) ∈ S)
    (w : ((x2 ≤ x3 → ∃ Q1 : fH → Prop, OkV d mX10_findParts S [.ref r0] h Q1 ∧ ∀ (h_1 : fH), Q1 h_1 → Q h_1) ∧ (¬ x2 ≤ x3 → (((Int32.ofNat n_r1) ≤ x3 → ∃ Q2 : fH → Prop, OkV d mX10_findParts S [.ref r0] h Q2 ∧ ∀ (h_2 : fH), Q2 h_2 → Q h_2) ∧ (¬ (Int32.ofNat n_r1) ≤ x3 → vp_in x3 n_r1 ∧ ∃ Q3 : fH → Prop, OkV d mX10_add S [.ref r0, .int (h.2.2.1 r1 x3.toNatClampNeg)] h Q3 ∧ ∀ (h_3 : fH), Q3 h_3 → G mX10_read (d + 1) S (f_PV Q) 7 [(0, .ref r0), (1, .ref r1), (2, .int x2), (3, .int (x3 + 1))] [] h_3))))) :
    G mX10_read (d + 1) S (f_PV Q) 7 [(0, .ref r0), (1, .ref r1), (2, .int x2), (3, .int x3)] [] h := by
  refine G_iload_n 3 rfl dX10_read_7 rfl ?_
  refine G_iload_n 2 rfl dX10_read_8 rfl ?_
  refine G_icmp_ge (tgt := 31) dX10_read_9 (by decide) (fun c1 => ?_) (fun c1 => ?_)
  · have w := w.1 c1
    refine G_aload_n 0 rfl dX10_read_31 rfl ?_
    obtain ⟨Q1, ok1, w⟩ := w
    refine G_callV (Z := mX10_findParts) (As := []) (st := []) hL_X10_25 hI_X10_findParts hS_X10_findParts hC_X10_findParts hN_X10 nX10_findParts (by decide) hs1 rfl rfl rfl (Nat.le_of_ble_eq_true rfl) dX10_read_32 ok1 (fun r_ h_1 z_ => ?_)
    obtain ⟨rfl, q_1⟩ := z_
    have w := w h_1 q_1
    exact G_vret rfl dX10_read_35 ⟨rfl, w⟩
  · have w := w.2 c1
    refine G_iload_n 3 rfl dX10_read_12 rfl ?_
    refine G_aload_n 1 rfl dX10_read_13 rfl ?_
    refine G_alenI hs2 dX10_read_14 ?_
    refine G_icmp_ge (tgt := 31) dX10_read_15 (by decide) (fun c2 => ?_) (fun c2 => ?_)
    · have w := w.1 c2
      refine G_aload_n 0 rfl dX10_read_31 rfl ?_
      obtain ⟨Q2, ok2, w⟩ := w
      refine G_callV (Z := mX10_findParts) (As := []) (st := []) hL_X10_25 hI_X10_findParts hS_X10_findParts hC_X10_findParts hN_X10 nX10_findParts (by decide) hs1 rfl rfl rfl (Nat.le_of_ble_eq_true rfl) dX10_read_32 ok2 (fun r_ h_2 z_ => ?_)
      obtain ⟨rfl, q_2⟩ := z_
      have w := w h_2 q_2
      exact G_vret rfl dX10_read_35 ⟨rfl, w⟩
    · have w := w.2 c2
      refine G_aload_n 0 rfl dX10_read_18 rfl ?_
      refine G_aload_n 1 rfl dX10_read_19 rfl ?_
      refine G_iload_n 3 rfl dX10_read_20 rfl ?_
      obtain ⟨sd1, w⟩ := w
      refine G_iald hs2 sd1 dX10_read_21 ?_
      obtain ⟨Q3, ok3, w⟩ := w
      refine G_callV (Z := mX10_add) (As := [.int (h.2.2.1 r1 x3.toNatClampNeg)]) (st := []) hL_X10_34 hI_X10_add hS_X10_add hC_X10_add hN_X10 nX10_add (by decide) hs1 rfl rfl rfl (Nat.le_of_ble_eq_true rfl) dX10_read_22 ok3 (fun r_ h_3 z_ => ?_)
      obtain ⟨rfl, q_3⟩ := z_
      have w := w h_3 q_3
      refine G_iinc (v := 1) 3 rfl dX10_read_25 (by decide) (by decide) (lv' := [(3, .int (x3 + 1)), (0, .ref r0), (1, .ref r1), (2, .int x2)]) rfl ?_
      refine G_goto (tgt := 7) dX10_read_28 (by decide) ?_
      exact G_sub [1, 2, 3, 0] rfl w
-- LostDigits$Text.add
theorem dX10_add_0 : decode cX10_add 0 = .ok (.aload_n 0, 1) := by decide +kernel
theorem dX10_add_1 : decode cX10_add 1 = .ok (.getfield 21, 3) := by decide +kernel
theorem dX10_add_4 : decode cX10_add 4 = .ok (.ifCond .lt 32, 3) := by decide +kernel
theorem dX10_add_7 : decode cX10_add 7 = .ok (.aload_n 0, 1) := by decide +kernel
theorem dX10_add_8 : decode cX10_add 8 = .ok (.getfield 21, 3) := by decide +kernel
theorem dX10_add_11 : decode cX10_add 11 = .ok (.bipush 13, 2) := by decide +kernel
theorem dX10_add_13 : decode cX10_add 13 = .ok (.if_icmp .ge 23, 3) := by decide +kernel
theorem dX10_add_16 : decode cX10_add 16 = .ok (.aload_n 0, 1) := by decide +kernel
theorem dX10_add_17 : decode cX10_add 17 = .ok (.getfield 9, 3) := by decide +kernel
theorem dX10_add_20 : decode cX10_add 20 = .ok (.aload_n 0, 1) := by decide +kernel
theorem dX10_add_21 : decode cX10_add 21 = .ok (.getfield 21, 3) := by decide +kernel
theorem dX10_add_24 : decode cX10_add 24 = .ok (.iload_n 1, 1) := by decide +kernel
theorem dX10_add_25 : decode cX10_add 25 = .ok (.iastore, 1) := by decide +kernel
theorem dX10_add_26 : decode cX10_add 26 = .ok (.aload_n 0, 1) := by decide +kernel
theorem dX10_add_27 : decode cX10_add 27 = .ok (.dup, 1) := by decide +kernel
theorem dX10_add_28 : decode cX10_add 28 = .ok (.getfield 21, 3) := by decide +kernel
theorem dX10_add_31 : decode cX10_add 31 = .ok (.iconst 1, 1) := by decide +kernel
theorem dX10_add_32 : decode cX10_add 32 = .ok (.iadd, 1) := by decide +kernel
theorem dX10_add_33 : decode cX10_add 33 = .ok (.putfield 21, 3) := by decide +kernel
theorem dX10_add_36 : decode cX10_add 36 = .ok (.return_, 1) := by decide +kernel
set_option maxRecDepth 10000 in
theorem NX10_add_0 {d : Nat} {S : fW} {h : fH} {Q : fH → Prop} {r0 : Nat} {x1 : Int32} {r0_signs r0_ends r0_letters : Nat}  
    (hs1 : (r0, shX10 r0_signs r0_ends r0_letters) ∈ S)
    (hs2 : (r0_signs, shI 13) ∈ S)
    (w : (((h.1 r0 3) < 0 → Q h) ∧ (¬ (h.1 r0 3) < 0 → (((13 : Int32) ≤ (h.1 r0 3) → Q h) ∧ (¬ (13 : Int32) ≤ (h.1 r0 3) → vp_in (h.1 r0 3) 13 ∧ ∀ g_1 : fH, g_1 = u_ai h r0_signs (upd (h.2.2.1 r0_signs) (h.1 r0 3).toNatClampNeg x1) → ∀ g_2 : fH, g_2 = u_fi g_1 r0 3 ((g_1.1 r0 3) + (1 : Int32)) → Q g_2))))) :
    OkV d mX10_add S [.ref r0, .int x1] h Q := by
  refine Ok.of (by decide) (Nat.le_of_ble_eq_true rfl) ?_
  refine G_aload_n 0 rfl dX10_add_0 rfl ?_
  refine G_geti (k := 3) hs1 (q := (RX10, TX10, 4)) rfl inX10 (by decide) (Or.inl rfl) hF_X10_21 dX10_add_1 ?_
  refine G_if_lt (tgt := 36) dX10_add_4 (by decide) (fun c1 => ?_) (fun c1 => ?_)
  · have w := w.1 c1
    exact G_vret rfl dX10_add_36 ⟨rfl, w⟩
  · have w := w.2 c1
    refine G_aload_n 0 rfl dX10_add_7 rfl ?_
    refine G_geti (k := 3) hs1 (q := (RX10, TX10, 4)) rfl inX10 (by decide) (Or.inl rfl) hF_X10_21 dX10_add_8 ?_
    refine G_bipush (v := 13) dX10_add_11 (by decide) ?_
    refine G_icmp_ge (tgt := 36) dX10_add_13 (by decide) (fun c2 => ?_) (fun c2 => ?_)
    · have w := w.1 c2
      exact G_vret rfl dX10_add_36 ⟨rfl, w⟩
    · have w := w.2 c2
      refine G_aload_n 0 rfl dX10_add_16 rfl ?_
      refine G_getr (j := r0_signs) (k := 0) hs1 (q := (RX10, TX10, 4)) rfl inX10 (by decide) rfl hF_X10_9 dX10_add_17 ?_
      refine G_aload_n 0 rfl dX10_add_20 rfl ?_
      refine G_geti (k := 3) hs1 (q := (RX10, TX10, 4)) rfl inX10 (by decide) (Or.inl rfl) hF_X10_21 dX10_add_21 ?_
      refine G_iload_n 1 rfl dX10_add_24 rfl ?_
      obtain ⟨sd1, w⟩ := w
      refine G_iast hs2 sd1 dX10_add_25 ?_
      refine G_nm (fun g_1 e_1 => ?_)
      have w := w g_1 e_1
      refine G_aload_n 0 rfl dX10_add_26 rfl ?_
      refine G_dup dX10_add_27 rfl ?_
      refine G_geti (k := 3) hs1 (q := (RX10, TX10, 4)) rfl inX10 (by decide) (Or.inl rfl) hF_X10_21 dX10_add_28 ?_
      refine G_iconst (v := 1) dX10_add_31 (by decide) ?_
      refine G_iadd dX10_add_32 ?_
      refine G_puti (k := 3) tyX10 hs1 (q := (RX10, TX10, 4)) rfl inX10 tyX10_ok nmX10 (by decide) rfl rfl rfl hF_X10_21 dX10_add_33 ?_
      refine G_nm (fun g_2 e_2 => ?_)
      have w := w g_2 e_2
      exact G_vret rfl dX10_add_36 ⟨rfl, w⟩
-- LostDigits$Text.addPlaces
theorem dX10_addPlaces_0 : decode cX10_addPlaces 0 = .ok (.iload_n 2, 1) := by decide +kernel
theorem dX10_addPlaces_1 : decode cX10_addPlaces 1 = .ok (.istore 4, 2) := by decide +kernel
theorem dX10_addPlaces_3 : decode cX10_addPlaces 3 = .ok (.iload 4, 2) := by decide +kernel
theorem dX10_addPlaces_5 : decode cX10_addPlaces 5 = .ok (.iload_n 3, 1) := by decide +kernel
theorem dX10_addPlaces_6 : decode cX10_addPlaces 6 = .ok (.if_icmp .ge 19, 3) := by decide +kernel
theorem dX10_addPlaces_9 : decode cX10_addPlaces 9 = .ok (.aload_n 0, 1) := by decide +kernel
theorem dX10_addPlaces_10 : decode cX10_addPlaces 10 = .ok (.aload_n 1, 1) := by decide +kernel
theorem dX10_addPlaces_11 : decode cX10_addPlaces 11 = .ok (.iload 4, 2) := by decide +kernel
theorem dX10_addPlaces_13 : decode cX10_addPlaces 13 = .ok (.invokevirtual 38, 3) := by decide +kernel
theorem dX10_addPlaces_16 : decode cX10_addPlaces 16 = .ok (.invokevirtual 34, 3) := by decide +kernel
theorem dX10_addPlaces_19 : decode cX10_addPlaces 19 = .ok (.iinc 4 1, 3) := by decide +kernel
theorem dX10_addPlaces_22 : decode cX10_addPlaces 22 = .ok (.goto (-19), 3) := by decide +kernel
theorem dX10_addPlaces_25 : decode cX10_addPlaces 25 = .ok (.return_, 1) := by decide +kernel
set_option maxRecDepth 10000 in
theorem NX10_addPlaces_0 {d : Nat} {S : fW} {h : fH} {Q : fH → Prop} {r0 : Nat} {r1 : Nat} {x2 : Int32} {x3 : Int32}  
    (w : G mX10_addPlaces (d + 1) S (f_PV Q) 3 [(0, .ref r0), (1, .ref r1), (3, .int x3), (4, .int x2)] [] h) :
    OkV (d + 1) mX10_addPlaces S [.ref r0, .ref r1, .int x2, .int x3] h Q := by
  refine Ok.of (by decide) (Nat.le_of_ble_eq_true rfl) ?_
  refine G_iload_n 2 rfl dX10_addPlaces_0 rfl ?_
  refine G_istore dX10_addPlaces_1 (by decide) (lv' := [(4, .int x2), (0, .ref r0), (1, .ref r1), (2, .int x2), (3, .int x3)]) rfl ?_
  exact G_sub [1, 2, 4, 0] rfl w

set_option maxRecDepth 10000 in
theorem NX10_addPlaces_3 {d : Nat} {S : fW} {h : fH} {Q : fH → Prop} {r0 : Nat} {r1 : Nat} {x3 : Int32} {x4 : Int32} {r1_signs r1_ends r1_letters r0_signs r0_ends r0_letters : Nat}  
    (hs1 : (r1, shX10 r1_signs r1_ends r1_letters) ∈ S)
    (hs2 : (r0, shX10 r0_signs r0_ends r0_letters) ∈ S)
    (w : ((x3 ≤ x4 → Q h) ∧ (¬ x3 ≤ x4 → ∃ Q1 : Int32 → fH → Prop, OkI d mX10_signAt S [.ref r1, .int x4] h Q1 ∧ ∀ (v_1 : Int32) (h_1 : fH), Q1 v_1 h_1 → ∃ Q2 : fH → Prop, OkV d mX10_add S [.ref r0, .int v_1] h_1 Q2 ∧ ∀ (h_2 : fH), Q2 h_2 → G mX10_addPlaces (d + 1) S (f_PV Q) 3 [(0, .ref r0), (1, .ref r1), (3, .int x3), (4, .int (x4 + 1))] [] h_2))) :
    G mX10_addPlaces (d + 1) S (f_PV Q) 3 [(0, .ref r0), (1, .ref r1), (3, .int x3), (4, .int x4)] [] h := by
  refine G_iload 3 rfl dX10_addPlaces_3 ?_
  refine G_iload_n 2 rfl dX10_addPlaces_5 rfl ?_
  refine G_icmp_ge (tgt := 25) dX10_addPlaces_6 (by decide) (fun c1 => ?_) (fun c1 => ?_)
  · have w := w.1 c1
    exact G_vret rfl dX10_addPlaces_25 ⟨rfl, w⟩
  · have w := w.2 c1
    refine G_aload_n 0 rfl dX10_addPlaces_9 rfl ?_
    refine G_aload_n 1 rfl dX10_addPlaces_10 rfl ?_
    refine G_iload 3 rfl dX10_addPlaces_11 ?_
    obtain ⟨Q1, ok1, w⟩ := w
    refine G_callV (Z := mX10_signAt) (As := [.int x4]) (st := [.ref r0]) hL_X10_38 hI_X10_signAt hS_X10_signAt hC_X10_signAt hN_X10 nX10_signAt (by decide) hs1 rfl rfl rfl (Nat.le_of_ble_eq_true rfl) dX10_addPlaces_13 ok1 (fun r_ h_1 z_ => ?_)
    obtain ⟨v_1, rfl, q_1⟩ := z_
    have w := w v_1 h_1 q_1
    obtain ⟨Q2, ok2, w⟩ := w
    refine G_callV (Z := mX10_add) (As := [.int v_1]) (st := []) hL_X10_34 hI_X10_add hS_X10_add hC_X10_add hN_X10 nX10_add (by decide) hs2 rfl rfl rfl (Nat.le_of_ble_eq_true rfl) dX10_addPlaces_16 ok2 (fun r_ h_2 z_ => ?_)
    obtain ⟨rfl, q_2⟩ := z_
    have w := w h_2 q_2
    refine G_iinc (v := 1) 3 rfl dX10_addPlaces_19 (by decide) (by decide) (lv' := [(4, .int (x4 + 1)), (0, .ref r0), (1, .ref r1), (3, .int x3)]) rfl ?_
    refine G_goto (tgt := 3) dX10_addPlaces_22 (by decide) ?_
    exact G_sub [1, 2, 3, 0] rfl w
-- LostDigits$Text.addPart
theorem dX10_addPart_0 : decode cX10_addPart 0 = .ok (.aload_n 0, 1) := by decide +kernel
theorem dX10_addPart_1 : decode cX10_addPart 1 = .ok (.aload_n 1, 1) := by decide +kernel
theorem dX10_addPart_2 : decode cX10_addPart 2 = .ok (.iload_n 2, 1) := by decide +kernel
theorem dX10_addPart_3 : decode cX10_addPart 3 = .ok (.aload_n 1, 1) := by decide +kernel
theorem dX10_addPart_4 : decode cX10_addPart 4 = .ok (.iload_n 2, 1) := by decide +kernel
theorem dX10_addPart_5 : decode cX10_addPart 5 = .ok (.invokevirtual 42, 3) := by decide +kernel
theorem dX10_addPart_8 : decode cX10_addPart 8 = .ok (.invokevirtual 45, 3) := by decide +kernel
theorem dX10_addPart_11 : decode cX10_addPart 11 = .ok (.return_, 1) := by decide +kernel
set_option maxRecDepth 10000 in
theorem NX10_addPart_0 {d : Nat} {S : fW} {h : fH} {Q : fH → Prop} {r0 : Nat} {r1 : Nat} {x2 : Int32} {r1_signs r1_ends r1_letters r0_signs r0_ends r0_letters : Nat}  
    (hs1 : (r1, shX10 r1_signs r1_ends r1_letters) ∈ S)
    (hs2 : (r0, shX10 r0_signs r0_ends r0_letters) ∈ S)
    (w : ∃ Q1 : Int32 → fH → Prop, OkI d mX10_endOf S [.ref r1, .int x2] h Q1 ∧ ∀ (v_1 : Int32) (h_1 : fH), Q1 v_1 h_1 → ∃ Q2 : fH → Prop, OkV d mX10_addPlaces S [.ref r0, .ref r1, .int x2, .int v_1] h_1 Q2 ∧ ∀ (h_2 : fH), Q2 h_2 → Q h_2) :
    OkV (d + 1) mX10_addPart S [.ref r0, .ref r1, .int x2] h Q := by
  refine Ok.of (by decide) (Nat.le_of_ble_eq_true rfl) ?_
  refine G_aload_n 0 rfl dX10_addPart_0 rfl ?_
  refine G_aload_n 1 rfl dX10_addPart_1 rfl ?_
  refine G_iload_n 2 rfl dX10_addPart_2 rfl ?_
  refine G_aload_n 1 rfl dX10_addPart_3 rfl ?_
  refine G_iload_n 2 rfl dX10_addPart_4 rfl ?_
  obtain ⟨Q1, ok1, w⟩ := w
  refine G_callV (Z := mX10_endOf) (As := [.int x2]) (st := [.int x2, .ref r1, .ref r0]) hL_X10_42 hI_X10_endOf hS_X10_endOf hC_X10_endOf hN_X10 nX10_endOf (by decide) hs1 rfl rfl rfl (Nat.le_of_ble_eq_true rfl) dX10_addPart_5 ok1 (fun r_ h_1 z_ => ?_)
  obtain ⟨v_1, rfl, q_1⟩ := z_
  have w := w v_1 h_1 q_1
  obtain ⟨Q2, ok2, w⟩ := w
  refine G_callV (Z := mX10_addPlaces) (As := [.ref r1, .int x2, .int v_1]) (st := []) hL_X10_45 hI_X10_addPlaces hS_X10_addPlaces hC_X10_addPlaces hN_X10 nX10_addPlaces (by decide) hs2 rfl rfl rfl (Nat.le_of_ble_eq_true rfl) dX10_addPart_8 ok2 (fun r_ h_2 z_ => ?_)
  obtain ⟨rfl, q_2⟩ := z_
  have w := w h_2 q_2
  exact G_vret rfl dX10_addPart_11 ⟨rfl, w⟩
-- LostDigits$Text.findParts
theorem dX10_findParts_0 : decode cX10_findParts 0 = .ok (.aload_n 0, 1) := by decide +kernel
theorem dX10_findParts_1 : decode cX10_findParts 1 = .ok (.getfield 21, 3) := by decide +kernel
theorem dX10_findParts_4 : decode cX10_findParts 4 = .ok (.bipush 13, 2) := by decide +kernel
theorem dX10_findParts_6 : decode cX10_findParts 6 = .ok (.invokestatic 49, 3) := by decide +kernel
theorem dX10_findParts_9 : decode cX10_findParts 9 = .ok (.iconst 1, 1) := by decide +kernel
theorem dX10_findParts_10 : decode cX10_findParts 10 = .ok (.isub, 1) := by decide +kernel
theorem dX10_findParts_11 : decode cX10_findParts 11 = .ok (.istore_n 1, 1) := by decide +kernel
theorem dX10_findParts_12 : decode cX10_findParts 12 = .ok (.iload_n 1, 1) := by decide +kernel
theorem dX10_findParts_13 : decode cX10_findParts 13 = .ok (.ifCond .lt 108, 3) := by decide +kernel
theorem dX10_findParts_16 : decode cX10_findParts 16 = .ok (.aload_n 0, 1) := by decide +kernel
theorem dX10_findParts_17 : decode cX10_findParts 17 = .ok (.getfield 9, 3) := by decide +kernel
theorem dX10_findParts_20 : decode cX10_findParts 20 = .ok (.iload_n 1, 1) := by decide +kernel
theorem dX10_findParts_21 : decode cX10_findParts 21 = .ok (.iaload, 1) := by decide +kernel
theorem dX10_findParts_22 : decode cX10_findParts 22 = .ok (.invokestatic 55, 3) := by decide +kernel
theorem dX10_findParts_25 : decode cX10_findParts 25 = .ok (.ifCond .eq 44, 3) := by decide +kernel
theorem dX10_findParts_28 : decode cX10_findParts 28 = .ok (.aload_n 0, 1) := by decide +kernel
theorem dX10_findParts_29 : decode cX10_findParts 29 = .ok (.iload_n 1, 1) := by decide +kernel
theorem dX10_findParts_30 : decode cX10_findParts 30 = .ok (.iconst 1, 1) := by decide +kernel
theorem dX10_findParts_31 : decode cX10_findParts 31 = .ok (.iadd, 1) := by decide +kernel
theorem dX10_findParts_32 : decode cX10_findParts 32 = .ok (.invokevirtual 42, 3) := by decide +kernel
theorem dX10_findParts_35 : decode cX10_findParts 35 = .ok (.istore_n 2, 1) := by decide +kernel
theorem dX10_findParts_36 : decode cX10_findParts 36 = .ok (.aload_n 0, 1) := by decide +kernel
theorem dX10_findParts_37 : decode cX10_findParts 37 = .ok (.getfield 15, 3) := by decide +kernel
theorem dX10_findParts_40 : decode cX10_findParts 40 = .ok (.iload_n 1, 1) := by decide +kernel
theorem dX10_findParts_41 : decode cX10_findParts 41 = .ok (.aload_n 0, 1) := by decide +kernel
theorem dX10_findParts_42 : decode cX10_findParts 42 = .ok (.iload_n 2, 1) := by decide +kernel
theorem dX10_findParts_43 : decode cX10_findParts 43 = .ok (.invokevirtual 42, 3) := by decide +kernel
theorem dX10_findParts_46 : decode cX10_findParts 46 = .ok (.iastore, 1) := by decide +kernel
theorem dX10_findParts_47 : decode cX10_findParts 47 = .ok (.aload_n 0, 1) := by decide +kernel
theorem dX10_findParts_48 : decode cX10_findParts 48 = .ok (.getfield 18, 3) := by decide +kernel
theorem dX10_findParts_51 : decode cX10_findParts 51 = .ok (.iload_n 1, 1) := by decide +kernel
theorem dX10_findParts_52 : decode cX10_findParts 52 = .ok (.aload_n 0, 1) := by decide +kernel
theorem dX10_findParts_53 : decode cX10_findParts 53 = .ok (.iload_n 1, 1) := by decide +kernel
theorem dX10_findParts_54 : decode cX10_findParts 54 = .ok (.iconst 1, 1) := by decide +kernel
theorem dX10_findParts_55 : decode cX10_findParts 55 = .ok (.iadd, 1) := by decide +kernel
theorem dX10_findParts_56 : decode cX10_findParts 56 = .ok (.invokevirtual 59, 3) := by decide +kernel
theorem dX10_findParts_59 : decode cX10_findParts 59 = .ok (.aload_n 0, 1) := by decide +kernel
theorem dX10_findParts_60 : decode cX10_findParts 60 = .ok (.iload_n 2, 1) := by decide +kernel
theorem dX10_findParts_61 : decode cX10_findParts 61 = .ok (.invokevirtual 59, 3) := by decide +kernel
theorem dX10_findParts_64 : decode cX10_findParts 64 = .ok (.ior, 1) := by decide +kernel
theorem dX10_findParts_65 : decode cX10_findParts 65 = .ok (.iastore, 1) := by decide +kernel
theorem dX10_findParts_66 : decode cX10_findParts 66 = .ok (.goto 49, 3) := by decide +kernel
theorem dX10_findParts_69 : decode cX10_findParts 69 = .ok (.aload_n 0, 1) := by decide +kernel
theorem dX10_findParts_70 : decode cX10_findParts 70 = .ok (.getfield 15, 3) := by decide +kernel
theorem dX10_findParts_73 : decode cX10_findParts 73 = .ok (.iload_n 1, 1) := by decide +kernel
theorem dX10_findParts_74 : decode cX10_findParts 74 = .ok (.iload_n 1, 1) := by decide +kernel
theorem dX10_findParts_75 : decode cX10_findParts 75 = .ok (.iconst 1, 1) := by decide +kernel
theorem dX10_findParts_76 : decode cX10_findParts 76 = .ok (.iadd, 1) := by decide +kernel
theorem dX10_findParts_77 : decode cX10_findParts 77 = .ok (.iastore, 1) := by decide +kernel
theorem dX10_findParts_78 : decode cX10_findParts 78 = .ok (.aload_n 0, 1) := by decide +kernel
theorem dX10_findParts_79 : decode cX10_findParts 79 = .ok (.getfield 18, 3) := by decide +kernel
theorem dX10_findParts_82 : decode cX10_findParts 82 = .ok (.iload_n 1, 1) := by decide +kernel
theorem dX10_findParts_83 : decode cX10_findParts 83 = .ok (.aload_n 0, 1) := by decide +kernel
theorem dX10_findParts_84 : decode cX10_findParts 84 = .ok (.getfield 9, 3) := by decide +kernel
theorem dX10_findParts_87 : decode cX10_findParts 87 = .ok (.iload_n 1, 1) := by decide +kernel
theorem dX10_findParts_88 : decode cX10_findParts 88 = .ok (.iaload, 1) := by decide +kernel
theorem dX10_findParts_89 : decode cX10_findParts 89 = .ok (.invokestatic 62, 3) := by decide +kernel
theorem dX10_findParts_92 : decode cX10_findParts 92 = .ok (.ifCond .eq 20, 3) := by decide +kernel
theorem dX10_findParts_95 : decode cX10_findParts 95 = .ok (.bipush 32, 2) := by decide +kernel
theorem dX10_findParts_97 : decode cX10_findParts 97 = .ok (.iconst 1, 1) := by decide +kernel
theorem dX10_findParts_98 : decode cX10_findParts 98 = .ok (.aload_n 0, 1) := by decide +kernel
theorem dX10_findParts_99 : decode cX10_findParts 99 = .ok (.getfield 9, 3) := by decide +kernel
theorem dX10_findParts_102 : decode cX10_findParts 102 = .ok (.iload_n 1, 1) := by decide +kernel
theorem dX10_findParts_103 : decode cX10_findParts 103 = .ok (.iaload, 1) := by decide +kernel
theorem dX10_findParts_104 : decode cX10_findParts 104 = .ok (.bipush 97, 2) := by decide +kernel
theorem dX10_findParts_106 : decode cX10_findParts 106 = .ok (.isub, 1) := by decide +kernel
theorem dX10_findParts_107 : decode cX10_findParts 107 = .ok (.ishl, 1) := by decide +kernel
theorem dX10_findParts_108 : decode cX10_findParts 108 = .ok (.ior, 1) := by decide +kernel
theorem dX10_findParts_109 : decode cX10_findParts 109 = .ok (.goto 5, 3) := by decide +kernel
theorem dX10_findParts_112 : decode cX10_findParts 112 = .ok (.bipush 32, 2) := by decide +kernel
theorem dX10_findParts_114 : decode cX10_findParts 114 = .ok (.iastore, 1) := by decide +kernel
theorem dX10_findParts_115 : decode cX10_findParts 115 = .ok (.iinc 1 (-1), 3) := by decide +kernel
theorem dX10_findParts_118 : decode cX10_findParts 118 = .ok (.goto (-106), 3) := by decide +kernel
theorem dX10_findParts_121 : decode cX10_findParts 121 = .ok (.return_, 1) := by decide +kernel
set_option maxRecDepth 10000 in
theorem TX10_findParts_0 {d : Nat} {S : fW} {h : fH} {Q : fH → Prop} {r0 : Nat} {r0_signs r0_ends r0_letters : Nat}  
    (hs1 : (r0, shX10 r0_signs r0_ends r0_letters) ∈ S)
    (k1 : G mX10_findParts (d + 1) S (f_PV Q) 12 [(0, .ref r0), (1, .int ((if (13 : Int32) < (h.1 r0 3) then (13 : Int32) else (h.1 r0 3)) - (1 : Int32)))] [] h) :
    OkV (d + 1) mX10_findParts S [.ref r0] h Q := by
  refine Ok.of (by decide) (Nat.le_of_ble_eq_true rfl) ?_
  refine G_aload_n 0 rfl dX10_findParts_0 rfl ?_
  refine G_geti (k := 3) hs1 (q := (RX10, TX10, 4)) rfl inX10 (by decide) (Or.inl rfl) hF_X10_21 dX10_findParts_1 ?_
  refine G_bipush (v := 13) dX10_findParts_4 (by decide) ?_
  refine G_mminI hL_X10_49 (Nat.le_of_ble_eq_true rfl) dX10_findParts_6 ?_
  refine G_iconst (v := 1) dX10_findParts_9 (by decide) ?_
  refine G_isub dX10_findParts_10 ?_
  refine G_istore_n dX10_findParts_11 rfl (by decide) (lv' := [(1, .int ((if (13 : Int32) < (h.1 r0 3) then (13 : Int32) else (h.1 r0 3)) - (1 : Int32))), (0, .ref r0)]) rfl ?_
  exact G_sub [1, 0] rfl (k1)

set_option maxRecDepth 10000 in
theorem TX10_findParts_12 {d : Nat} {S : fW} {h : fH} {Q : fH → Prop} {r0 : Nat} {x1 : Int32} {r0_signs r0_ends r0_letters : Nat} {Q1 : Int32 → fH → Prop} {Q2 : Int32 → fH → Int32 → fH → Prop} {Q3 : Int32 → fH → Int32 → fH → Prop} {Q4 : Int32 → fH → Int32 → fH → Int32 → fH → Prop} {Q5 : Int32 → fH → Int32 → fH → Int32 → fH → Int32 → fH → Prop} {Q6 : Int32 → fH → Int32 → fH → Int32 → fH → Int32 → fH → Int32 → fH → Prop} 
    (k1 : x1 < 0 → Q h)
    (hs1 : (r0, shX10 r0_signs r0_ends r0_letters) ∈ S)
    (hs2 : (r0_signs, shI 13) ∈ S)
    (sd1 : ¬ x1 < 0 → vp_in x1 13)
    (ok1 : ¬ x1 < 0 → OkI d mX11_isOperator S [.int (h.2.2.1 r0_signs x1.toNatClampNeg)] h Q1)
    (hs3 : (r0_ends, shI 13) ∈ S)
    (ok2 : ¬ x1 < 0 → ∀ v_1 h_1, Q1 v_1 h_1 → v_1 = 0 → OkI d mX11_isLetter S [.int ((u_ai h_1 r0_ends (upd (h_1.2.2.1 r0_ends) x1.toNatClampNeg (x1 + (1 : Int32)))).2.2.1 r0_signs x1.toNatClampNeg)] (u_ai h_1 r0_ends (upd (h_1.2.2.1 r0_ends) x1.toNatClampNeg (x1 + (1 : Int32)))) (Q2 v_1 h_1))
    (hs4 : (r0_letters, shI 13) ∈ S)
    (k2 : ¬ x1 < 0 → ∀ v_1 h_1, Q1 v_1 h_1 → v_1 = 0 → ∀ v_2 h_2, (Q2 v_1 h_1) v_2 h_2 → v_2 = 0 → G mX10_findParts (d + 1) S (f_PV Q) 12 [(0, .ref r0), (1, .int (x1 + (-1)))] [] (u_ai h_2 r0_letters (upd (h_2.2.2.1 r0_letters) x1.toNatClampNeg (32 : Int32))))
    (k3 : ¬ x1 < 0 → ∀ v_1 h_1, Q1 v_1 h_1 → v_1 = 0 → ∀ v_2 h_2, (Q2 v_1 h_1) v_2 h_2 → ¬ v_2 = 0 → G mX10_findParts (d + 1) S (f_PV Q) 12 [(0, .ref r0), (1, .int (x1 + (-1)))] [] (u_ai h_2 r0_letters (upd (h_2.2.2.1 r0_letters) x1.toNatClampNeg ((32 : Int32) ||| ((1 : Int32) <<< (((h_2.2.2.1 r0_signs x1.toNatClampNeg) - (97 : Int32)) &&& 31))))))
    (ok3 : ¬ x1 < 0 → ∀ v_1 h_1, Q1 v_1 h_1 → ¬ v_1 = 0 → OkI d mX10_endOf S [.ref r0, .int (x1 + (1 : Int32))] h_1 (Q3 v_1 h_1))
    (ok4 : ¬ x1 < 0 → ∀ v_1 h_1, Q1 v_1 h_1 → ¬ v_1 = 0 → ∀ v_3 h_3, (Q3 v_1 h_1) v_3 h_3 → OkI d mX10_endOf S [.ref r0, .int v_3] h_3 (Q4 v_1 h_1 v_3 h_3))
    (ok5 : ¬ x1 < 0 → ∀ v_1 h_1, Q1 v_1 h_1 → ¬ v_1 = 0 → ∀ v_3 h_3, (Q3 v_1 h_1) v_3 h_3 → ∀ v_4 h_4, (Q4 v_1 h_1 v_3 h_3) v_4 h_4 → OkI d mX10_lettersOf S [.ref r0, .int (x1 + (1 : Int32))] (u_ai h_4 r0_ends (upd (h_4.2.2.1 r0_ends) x1.toNatClampNeg v_4)) (Q5 v_1 h_1 v_3 h_3 v_4 h_4))
    (ok6 : ¬ x1 < 0 → ∀ v_1 h_1, Q1 v_1 h_1 → ¬ v_1 = 0 → ∀ v_3 h_3, (Q3 v_1 h_1) v_3 h_3 → ∀ v_4 h_4, (Q4 v_1 h_1 v_3 h_3) v_4 h_4 → ∀ v_5 h_5, (Q5 v_1 h_1 v_3 h_3 v_4 h_4) v_5 h_5 → OkI d mX10_lettersOf S [.ref r0, .int v_3] h_5 (Q6 v_1 h_1 v_3 h_3 v_4 h_4 v_5 h_5))
    (k4 : ¬ x1 < 0 → ∀ v_1 h_1, Q1 v_1 h_1 → ¬ v_1 = 0 → ∀ v_3 h_3, (Q3 v_1 h_1) v_3 h_3 → ∀ v_4 h_4, (Q4 v_1 h_1 v_3 h_3) v_4 h_4 → ∀ v_5 h_5, (Q5 v_1 h_1 v_3 h_3 v_4 h_4) v_5 h_5 → ∀ v_6 h_6, (Q6 v_1 h_1 v_3 h_3 v_4 h_4 v_5 h_5) v_6 h_6 → G mX10_findParts (d + 1) S (f_PV Q) 12 [(0, .ref r0), (1, .int (x1 + (-1)))] [] (u_ai h_6 r0_letters (upd (h_6.2.2.1 r0_letters) x1.toNatClampNeg (v_5 ||| v_6)))) :
    G mX10_findParts (d + 1) S (f_PV Q) 12 [(0, .ref r0), (1, .int x1)] [] h := by
  refine G_iload_n 1 rfl dX10_findParts_12 rfl ?_
  refine G_if_lt (tgt := 121) dX10_findParts_13 (by decide) (fun c1 => ?_) (fun c1 => ?_)
  · exact G_vret rfl dX10_findParts_121 ⟨rfl, (k1 c1)⟩
  · refine G_aload_n 0 rfl dX10_findParts_16 rfl ?_
    refine G_getr (j := r0_signs) (k := 0) hs1 (q := (RX10, TX10, 4)) rfl inX10 (by decide) rfl hF_X10_9 dX10_findParts_17 ?_
    refine G_iload_n 1 rfl dX10_findParts_20 rfl ?_
    refine G_iald hs2 (sd1 c1) dX10_findParts_21 ?_
    refine G_callN (Z := mX11_isOperator) (As := [.int (h.2.2.1 r0_signs x1.toNatClampNeg)]) (st := []) hM_X10_55 hT_X11_isOperator hC_X11_isOperator hN_X11 nX11_isOperator (by decide) rfl (Nat.le_of_ble_eq_true rfl) dX10_findParts_22 (ok1 c1) (fun r_ h_1 z_ => ?_)
    obtain ⟨v_1, rfl, q_1⟩ := z_
    refine G_if_eq (tgt := 69) dX10_findParts_25 (by decide) (fun c3 => ?_) (fun c3 => ?_)
    · refine G_aload_n 0 rfl dX10_findParts_69 rfl ?_
      refine G_getr (j := r0_ends) (k := 1) hs1 (q := (RX10, TX10, 4)) rfl inX10 (by decide) rfl hF_X10_15 dX10_findParts_70 ?_
      refine G_iload_n 1 rfl dX10_findParts_73 rfl ?_
      refine G_iload_n 1 rfl dX10_findParts_74 rfl ?_
      refine G_iconst (v := 1) dX10_findParts_75 (by decide) ?_
      refine G_iadd dX10_findParts_76 ?_
      refine G_iast hs3 (sd1 c1) dX10_findParts_77 ?_
      refine G_aload_n 0 rfl dX10_findParts_78 rfl ?_
      refine G_getr (j := r0_letters) (k := 2) hs1 (q := (RX10, TX10, 4)) rfl inX10 (by decide) rfl hF_X10_18 dX10_findParts_79 ?_
      refine G_iload_n 1 rfl dX10_findParts_82 rfl ?_
      refine G_aload_n 0 rfl dX10_findParts_83 rfl ?_
      refine G_getr (j := r0_signs) (k := 0) hs1 (q := (RX10, TX10, 4)) rfl inX10 (by decide) rfl hF_X10_9 dX10_findParts_84 ?_
      refine G_iload_n 1 rfl dX10_findParts_87 rfl ?_
      refine G_iald hs2 (sd1 c1) dX10_findParts_88 ?_
      refine G_callN (Z := mX11_isLetter) (As := [.int ((u_ai h_1 r0_ends (upd (h_1.2.2.1 r0_ends) x1.toNatClampNeg (x1 + (1 : Int32)))).2.2.1 r0_signs x1.toNatClampNeg)]) (st := [.int x1, .ref r0_letters]) hM_X10_62 hT_X11_isLetter hC_X11_isLetter hN_X11 nX11_isLetter (by decide) rfl (Nat.le_of_ble_eq_true rfl) dX10_findParts_89 (ok2 c1 v_1 h_1 q_1 c3) (fun r_ h_2 z_ => ?_)
      obtain ⟨v_2, rfl, q_2⟩ := z_
      refine G_if_eq (tgt := 112) dX10_findParts_92 (by decide) (fun c5 => ?_) (fun c5 => ?_)
      · refine G_bipush (v := 32) dX10_findParts_112 (by decide) ?_
        refine G_iast hs4 (sd1 c1) dX10_findParts_114 ?_
        refine G_iinc (v := -1) 1 rfl dX10_findParts_115 (by decide) (by decide) (lv' := [(1, .int (x1 + (-1))), (0, .ref r0)]) rfl ?_
        refine G_goto (tgt := 12) dX10_findParts_118 (by decide) ?_
        exact G_sub [1, 0] rfl (k2 c1 v_1 h_1 q_1 c3 v_2 h_2 q_2 c5)
      · refine G_bipush (v := 32) dX10_findParts_95 (by decide) ?_
        refine G_iconst (v := 1) dX10_findParts_97 (by decide) ?_
        refine G_aload_n 0 rfl dX10_findParts_98 rfl ?_
        refine G_getr (j := r0_signs) (k := 0) hs1 (q := (RX10, TX10, 4)) rfl inX10 (by decide) rfl hF_X10_9 dX10_findParts_99 ?_
        refine G_iload_n 1 rfl dX10_findParts_102 rfl ?_
        refine G_iald hs2 (sd1 c1) dX10_findParts_103 ?_
        refine G_bipush (v := 97) dX10_findParts_104 (by decide) ?_
        refine G_isub dX10_findParts_106 ?_
        refine G_ishl dX10_findParts_107 ?_
        refine G_ior dX10_findParts_108 ?_
        refine G_goto (tgt := 114) dX10_findParts_109 (by decide) ?_
        refine G_iast hs4 (sd1 c1) dX10_findParts_114 ?_
        refine G_iinc (v := -1) 1 rfl dX10_findParts_115 (by decide) (by decide) (lv' := [(1, .int (x1 + (-1))), (0, .ref r0)]) rfl ?_
        refine G_goto (tgt := 12) dX10_findParts_118 (by decide) ?_
        exact G_sub [1, 0] rfl (k3 c1 v_1 h_1 q_1 c3 v_2 h_2 q_2 c5)
    · refine G_aload_n 0 rfl dX10_findParts_28 rfl ?_
      refine G_iload_n 1 rfl dX10_findParts_29 rfl ?_
      refine G_iconst (v := 1) dX10_findParts_30 (by decide) ?_
      refine G_iadd dX10_findParts_31 ?_
      refine G_callV (Z := mX10_endOf) (As := [.int (x1 + (1 : Int32))]) (st := []) hL_X10_42 hI_X10_endOf hS_X10_endOf hC_X10_endOf hN_X10 nX10_endOf (by decide) hs1 rfl rfl rfl (Nat.le_of_ble_eq_true rfl) dX10_findParts_32 (ok3 c1 v_1 h_1 q_1 c3) (fun r_ h_3 z_ => ?_)
      obtain ⟨v_3, rfl, q_3⟩ := z_
      refine G_istore_n dX10_findParts_35 rfl (by decide) (lv' := [(2, .int v_3), (0, .ref r0), (1, .int x1)]) rfl ?_
      refine G_aload_n 1 rfl dX10_findParts_36 rfl ?_
      refine G_getr (j := r0_ends) (k := 1) hs1 (q := (RX10, TX10, 4)) rfl inX10 (by decide) rfl hF_X10_15 dX10_findParts_37 ?_
      refine G_iload_n 2 rfl dX10_findParts_40 rfl ?_
      refine G_aload_n 1 rfl dX10_findParts_41 rfl ?_
      refine G_iload_n 0 rfl dX10_findParts_42 rfl ?_
      refine G_callV (Z := mX10_endOf) (As := [.int v_3]) (st := [.int x1, .ref r0_ends]) hL_X10_42 hI_X10_endOf hS_X10_endOf hC_X10_endOf hN_X10 nX10_endOf (by decide) hs1 rfl rfl rfl (Nat.le_of_ble_eq_true rfl) dX10_findParts_43 (ok4 c1 v_1 h_1 q_1 c3 v_3 h_3 q_3) (fun r_ h_4 z_ => ?_)
      obtain ⟨v_4, rfl, q_4⟩ := z_
      refine G_iast hs3 (sd1 c1) dX10_findParts_46 ?_
      refine G_aload_n 1 rfl dX10_findParts_47 rfl ?_
      refine G_getr (j := r0_letters) (k := 2) hs1 (q := (RX10, TX10, 4)) rfl inX10 (by decide) rfl hF_X10_18 dX10_findParts_48 ?_
      refine G_iload_n 2 rfl dX10_findParts_51 rfl ?_
      refine G_aload_n 1 rfl dX10_findParts_52 rfl ?_
      refine G_iload_n 2 rfl dX10_findParts_53 rfl ?_
      refine G_iconst (v := 1) dX10_findParts_54 (by decide) ?_
      refine G_iadd dX10_findParts_55 ?_
      refine G_callV (Z := mX10_lettersOf) (As := [.int (x1 + (1 : Int32))]) (st := [.int x1, .ref r0_letters]) hL_X10_59 hI_X10_lettersOf hS_X10_lettersOf hC_X10_lettersOf hN_X10 nX10_lettersOf (by decide) hs1 rfl rfl rfl (Nat.le_of_ble_eq_true rfl) dX10_findParts_56 (ok5 c1 v_1 h_1 q_1 c3 v_3 h_3 q_3 v_4 h_4 q_4) (fun r_ h_5 z_ => ?_)
      obtain ⟨v_5, rfl, q_5⟩ := z_
      refine G_aload_n 1 rfl dX10_findParts_59 rfl ?_
      refine G_iload_n 0 rfl dX10_findParts_60 rfl ?_
      refine G_callV (Z := mX10_lettersOf) (As := [.int v_3]) (st := [.int v_5, .int x1, .ref r0_letters]) hL_X10_59 hI_X10_lettersOf hS_X10_lettersOf hC_X10_lettersOf hN_X10 nX10_lettersOf (by decide) hs1 rfl rfl rfl (Nat.le_of_ble_eq_true rfl) dX10_findParts_61 (ok6 c1 v_1 h_1 q_1 c3 v_3 h_3 q_3 v_4 h_4 q_4 v_5 h_5 q_5) (fun r_ h_6 z_ => ?_)
      obtain ⟨v_6, rfl, q_6⟩ := z_
      refine G_ior dX10_findParts_64 ?_
      refine G_iast hs4 (sd1 c1) dX10_findParts_65 ?_
      refine G_goto (tgt := 115) dX10_findParts_66 (by decide) ?_
      refine G_iinc (v := -1) 2 rfl dX10_findParts_115 (by decide) (by decide) (lv' := [(1, .int (x1 + (-1))), (2, .int v_3), (0, .ref r0)]) rfl ?_
      refine G_goto (tgt := 12) dX10_findParts_118 (by decide) ?_
      exact G_sub [2, 0] rfl (k4 c1 v_1 h_1 q_1 c3 v_3 h_3 q_3 v_4 h_4 q_4 v_5 h_5 q_5 v_6 h_6 q_6)
-- LostDigits$Text.has
theorem dX10_has_0 : decode cX10_has 0 = .ok (.iload_n 1, 1) := by decide +kernel
theorem dX10_has_1 : decode cX10_has 1 = .ok (.ifCond .lt 15, 3) := by decide +kernel
theorem dX10_has_4 : decode cX10_has 4 = .ok (.iload_n 1, 1) := by decide +kernel
theorem dX10_has_5 : decode cX10_has 5 = .ok (.aload_n 0, 1) := by decide +kernel
theorem dX10_has_6 : decode cX10_has 6 = .ok (.getfield 21, 3) := by decide +kernel
theorem dX10_has_9 : decode cX10_has 9 = .ok (.if_icmp .ge 7, 3) := by decide +kernel
theorem dX10_has_12 : decode cX10_has 12 = .ok (.iconst 1, 1) := by decide +kernel
theorem dX10_has_13 : decode cX10_has 13 = .ok (.goto 4, 3) := by decide +kernel
theorem dX10_has_16 : decode cX10_has 16 = .ok (.iconst 0, 1) := by decide +kernel
theorem dX10_has_17 : decode cX10_has 17 = .ok (.ireturn, 1) := by decide +kernel
set_option maxRecDepth 10000 in
theorem TX10_has_0 {d : Nat} {S : fW} {h : fH} {Q : Int32 → fH → Prop} {r0 : Nat} {x1 : Int32} {r0_signs r0_ends r0_letters : Nat}  
    (k1 : x1 < 0 → Q (0 : Int32) h)
    (hs1 : (r0, shX10 r0_signs r0_ends r0_letters) ∈ S)
    (k2 : ¬ x1 < 0 → (h.1 r0 3) ≤ x1 → Q (0 : Int32) h)
    (k3 : ¬ x1 < 0 → ¬ (h.1 r0 3) ≤ x1 → Q (1 : Int32) h) :
    OkI d mX10_has S [.ref r0, .int x1] h Q := by
  refine Ok.of (by decide) (Nat.le_of_ble_eq_true rfl) ?_
  refine G_iload_n 1 rfl dX10_has_0 rfl ?_
  refine G_if_lt (tgt := 16) dX10_has_1 (by decide) (fun c1 => ?_) (fun c1 => ?_)
  · refine G_iconst (v := 0) dX10_has_16 (by decide) ?_
    exact G_zret rfl (Or.inl rfl) dX10_has_17 ⟨_, rfl, (k1 c1)⟩
  · refine G_iload_n 1 rfl dX10_has_4 rfl ?_
    refine G_aload_n 0 rfl dX10_has_5 rfl ?_
    refine G_geti (k := 3) hs1 (q := (RX10, TX10, 4)) rfl inX10 (by decide) (Or.inl rfl) hF_X10_21 dX10_has_6 ?_
    refine G_icmp_ge (tgt := 16) dX10_has_9 (by decide) (fun c2 => ?_) (fun c2 => ?_)
    · refine G_iconst (v := 0) dX10_has_16 (by decide) ?_
      exact G_zret rfl (Or.inl rfl) dX10_has_17 ⟨_, rfl, (k2 c1 c2)⟩
    · refine G_iconst (v := 1) dX10_has_12 (by decide) ?_
      refine G_goto (tgt := 17) dX10_has_13 (by decide) ?_
      exact G_zret rfl (Or.inr rfl) dX10_has_17 ⟨_, rfl, (k3 c1 c2)⟩
-- LostDigits$Text.signAt
theorem dX10_signAt_0 : decode cX10_signAt 0 = .ok (.iload_n 1, 1) := by decide +kernel
theorem dX10_signAt_1 : decode cX10_signAt 1 = .ok (.ifCond .lt 20, 3) := by decide +kernel
theorem dX10_signAt_4 : decode cX10_signAt 4 = .ok (.iload_n 1, 1) := by decide +kernel
theorem dX10_signAt_5 : decode cX10_signAt 5 = .ok (.aload_n 0, 1) := by decide +kernel
theorem dX10_signAt_6 : decode cX10_signAt 6 = .ok (.getfield 21, 3) := by decide +kernel
theorem dX10_signAt_9 : decode cX10_signAt 9 = .ok (.if_icmp .ge 12, 3) := by decide +kernel
theorem dX10_signAt_12 : decode cX10_signAt 12 = .ok (.aload_n 0, 1) := by decide +kernel
theorem dX10_signAt_13 : decode cX10_signAt 13 = .ok (.getfield 9, 3) := by decide +kernel
theorem dX10_signAt_16 : decode cX10_signAt 16 = .ok (.iload_n 1, 1) := by decide +kernel
theorem dX10_signAt_17 : decode cX10_signAt 17 = .ok (.iaload, 1) := by decide +kernel
theorem dX10_signAt_18 : decode cX10_signAt 18 = .ok (.goto 4, 3) := by decide +kernel
theorem dX10_signAt_21 : decode cX10_signAt 21 = .ok (.iconst 0, 1) := by decide +kernel
theorem dX10_signAt_22 : decode cX10_signAt 22 = .ok (.ireturn, 1) := by decide +kernel
set_option maxRecDepth 10000 in
theorem TX10_signAt_0 {d : Nat} {S : fW} {h : fH} {Q : Int32 → fH → Prop} {r0 : Nat} {x1 : Int32} {r0_signs r0_ends r0_letters : Nat}  
    (k1 : x1 < 0 → Q (0 : Int32) h)
    (hs1 : (r0, shX10 r0_signs r0_ends r0_letters) ∈ S)
    (k2 : ¬ x1 < 0 → (h.1 r0 3) ≤ x1 → Q (0 : Int32) h)
    (hs2 : (r0_signs, shI 13) ∈ S)
    (sd1 : ¬ x1 < 0 → ¬ (h.1 r0 3) ≤ x1 → vp_in x1 13)
    (k3 : ¬ x1 < 0 → ¬ (h.1 r0 3) ≤ x1 → Q (h.2.2.1 r0_signs x1.toNatClampNeg) h) :
    OkI d mX10_signAt S [.ref r0, .int x1] h Q := by
  refine Ok.of (by decide) (Nat.le_of_ble_eq_true rfl) ?_
  refine G_iload_n 1 rfl dX10_signAt_0 rfl ?_
  refine G_if_lt (tgt := 21) dX10_signAt_1 (by decide) (fun c1 => ?_) (fun c1 => ?_)
  · refine G_iconst (v := 0) dX10_signAt_21 (by decide) ?_
    exact G_iret rfl dX10_signAt_22 ⟨_, rfl, (k1 c1)⟩
  · refine G_iload_n 1 rfl dX10_signAt_4 rfl ?_
    refine G_aload_n 0 rfl dX10_signAt_5 rfl ?_
    refine G_geti (k := 3) hs1 (q := (RX10, TX10, 4)) rfl inX10 (by decide) (Or.inl rfl) hF_X10_21 dX10_signAt_6 ?_
    refine G_icmp_ge (tgt := 21) dX10_signAt_9 (by decide) (fun c2 => ?_) (fun c2 => ?_)
    · refine G_iconst (v := 0) dX10_signAt_21 (by decide) ?_
      exact G_iret rfl dX10_signAt_22 ⟨_, rfl, (k2 c1 c2)⟩
    · refine G_aload_n 0 rfl dX10_signAt_12 rfl ?_
      refine G_getr (j := r0_signs) (k := 0) hs1 (q := (RX10, TX10, 4)) rfl inX10 (by decide) rfl hF_X10_9 dX10_signAt_13 ?_
      refine G_iload_n 1 rfl dX10_signAt_16 rfl ?_
      refine G_iald hs2 (sd1 c1 c2) dX10_signAt_17 ?_
      refine G_goto (tgt := 22) dX10_signAt_18 (by decide) ?_
      exact G_iret rfl dX10_signAt_22 ⟨_, rfl, (k3 c1 c2)⟩
-- LostDigits$Text.endOf
theorem dX10_endOf_0 : decode cX10_endOf 0 = .ok (.iload_n 1, 1) := by decide +kernel
theorem dX10_endOf_1 : decode cX10_endOf 1 = .ok (.ifCond .lt 20, 3) := by decide +kernel
theorem dX10_endOf_4 : decode cX10_endOf 4 = .ok (.iload_n 1, 1) := by decide +kernel
theorem dX10_endOf_5 : decode cX10_endOf 5 = .ok (.aload_n 0, 1) := by decide +kernel
theorem dX10_endOf_6 : decode cX10_endOf 6 = .ok (.getfield 21, 3) := by decide +kernel
theorem dX10_endOf_9 : decode cX10_endOf 9 = .ok (.if_icmp .ge 12, 3) := by decide +kernel
theorem dX10_endOf_12 : decode cX10_endOf 12 = .ok (.aload_n 0, 1) := by decide +kernel
theorem dX10_endOf_13 : decode cX10_endOf 13 = .ok (.getfield 15, 3) := by decide +kernel
theorem dX10_endOf_16 : decode cX10_endOf 16 = .ok (.iload_n 1, 1) := by decide +kernel
theorem dX10_endOf_17 : decode cX10_endOf 17 = .ok (.iaload, 1) := by decide +kernel
theorem dX10_endOf_18 : decode cX10_endOf 18 = .ok (.goto 7, 3) := by decide +kernel
theorem dX10_endOf_21 : decode cX10_endOf 21 = .ok (.aload_n 0, 1) := by decide +kernel
theorem dX10_endOf_22 : decode cX10_endOf 22 = .ok (.getfield 21, 3) := by decide +kernel
theorem dX10_endOf_25 : decode cX10_endOf 25 = .ok (.ireturn, 1) := by decide +kernel
set_option maxRecDepth 10000 in
theorem TX10_endOf_0 {d : Nat} {S : fW} {h : fH} {Q : Int32 → fH → Prop} {r0 : Nat} {x1 : Int32} {r0_signs r0_ends r0_letters : Nat}  
    (hs1 : (r0, shX10 r0_signs r0_ends r0_letters) ∈ S)
    (k1 : x1 < 0 → Q (h.1 r0 3) h)
    (k2 : ¬ x1 < 0 → (h.1 r0 3) ≤ x1 → Q (h.1 r0 3) h)
    (hs2 : (r0_ends, shI 13) ∈ S)
    (sd1 : ¬ x1 < 0 → ¬ (h.1 r0 3) ≤ x1 → vp_in x1 13)
    (k3 : ¬ x1 < 0 → ¬ (h.1 r0 3) ≤ x1 → Q (h.2.2.1 r0_ends x1.toNatClampNeg) h) :
    OkI d mX10_endOf S [.ref r0, .int x1] h Q := by
  refine Ok.of (by decide) (Nat.le_of_ble_eq_true rfl) ?_
  refine G_iload_n 1 rfl dX10_endOf_0 rfl ?_
  refine G_if_lt (tgt := 21) dX10_endOf_1 (by decide) (fun c1 => ?_) (fun c1 => ?_)
  · refine G_aload_n 0 rfl dX10_endOf_21 rfl ?_
    refine G_geti (k := 3) hs1 (q := (RX10, TX10, 4)) rfl inX10 (by decide) (Or.inl rfl) hF_X10_21 dX10_endOf_22 ?_
    exact G_iret rfl dX10_endOf_25 ⟨_, rfl, (k1 c1)⟩
  · refine G_iload_n 1 rfl dX10_endOf_4 rfl ?_
    refine G_aload_n 0 rfl dX10_endOf_5 rfl ?_
    refine G_geti (k := 3) hs1 (q := (RX10, TX10, 4)) rfl inX10 (by decide) (Or.inl rfl) hF_X10_21 dX10_endOf_6 ?_
    refine G_icmp_ge (tgt := 21) dX10_endOf_9 (by decide) (fun c2 => ?_) (fun c2 => ?_)
    · refine G_aload_n 0 rfl dX10_endOf_21 rfl ?_
      refine G_geti (k := 3) hs1 (q := (RX10, TX10, 4)) rfl inX10 (by decide) (Or.inl rfl) hF_X10_21 dX10_endOf_22 ?_
      exact G_iret rfl dX10_endOf_25 ⟨_, rfl, (k2 c1 c2)⟩
    · refine G_aload_n 0 rfl dX10_endOf_12 rfl ?_
      refine G_getr (j := r0_ends) (k := 1) hs1 (q := (RX10, TX10, 4)) rfl inX10 (by decide) rfl hF_X10_15 dX10_endOf_13 ?_
      refine G_iload_n 1 rfl dX10_endOf_16 rfl ?_
      refine G_iald hs2 (sd1 c1 c2) dX10_endOf_17 ?_
      refine G_goto (tgt := 25) dX10_endOf_18 (by decide) ?_
      exact G_iret rfl dX10_endOf_25 ⟨_, rfl, (k3 c1 c2)⟩
-- LostDigits$Text.lettersOf
theorem dX10_lettersOf_0 : decode cX10_lettersOf 0 = .ok (.iload_n 1, 1) := by decide +kernel
theorem dX10_lettersOf_1 : decode cX10_lettersOf 1 = .ok (.ifCond .lt 20, 3) := by decide +kernel
theorem dX10_lettersOf_4 : decode cX10_lettersOf 4 = .ok (.iload_n 1, 1) := by decide +kernel
theorem dX10_lettersOf_5 : decode cX10_lettersOf 5 = .ok (.aload_n 0, 1) := by decide +kernel
theorem dX10_lettersOf_6 : decode cX10_lettersOf 6 = .ok (.getfield 21, 3) := by decide +kernel
theorem dX10_lettersOf_9 : decode cX10_lettersOf 9 = .ok (.if_icmp .ge 12, 3) := by decide +kernel
theorem dX10_lettersOf_12 : decode cX10_lettersOf 12 = .ok (.aload_n 0, 1) := by decide +kernel
theorem dX10_lettersOf_13 : decode cX10_lettersOf 13 = .ok (.getfield 18, 3) := by decide +kernel
theorem dX10_lettersOf_16 : decode cX10_lettersOf 16 = .ok (.iload_n 1, 1) := by decide +kernel
theorem dX10_lettersOf_17 : decode cX10_lettersOf 17 = .ok (.iaload, 1) := by decide +kernel
theorem dX10_lettersOf_18 : decode cX10_lettersOf 18 = .ok (.goto 5, 3) := by decide +kernel
theorem dX10_lettersOf_21 : decode cX10_lettersOf 21 = .ok (.bipush 32, 2) := by decide +kernel
theorem dX10_lettersOf_23 : decode cX10_lettersOf 23 = .ok (.ireturn, 1) := by decide +kernel
set_option maxRecDepth 10000 in
theorem TX10_lettersOf_0 {d : Nat} {S : fW} {h : fH} {Q : Int32 → fH → Prop} {r0 : Nat} {x1 : Int32} {r0_signs r0_ends r0_letters : Nat}  
    (k1 : x1 < 0 → Q (32 : Int32) h)
    (hs1 : (r0, shX10 r0_signs r0_ends r0_letters) ∈ S)
    (k2 : ¬ x1 < 0 → (h.1 r0 3) ≤ x1 → Q (32 : Int32) h)
    (hs2 : (r0_letters, shI 13) ∈ S)
    (sd1 : ¬ x1 < 0 → ¬ (h.1 r0 3) ≤ x1 → vp_in x1 13)
    (k3 : ¬ x1 < 0 → ¬ (h.1 r0 3) ≤ x1 → Q (h.2.2.1 r0_letters x1.toNatClampNeg) h) :
    OkI d mX10_lettersOf S [.ref r0, .int x1] h Q := by
  refine Ok.of (by decide) (Nat.le_of_ble_eq_true rfl) ?_
  refine G_iload_n 1 rfl dX10_lettersOf_0 rfl ?_
  refine G_if_lt (tgt := 21) dX10_lettersOf_1 (by decide) (fun c1 => ?_) (fun c1 => ?_)
  · refine G_bipush (v := 32) dX10_lettersOf_21 (by decide) ?_
    exact G_iret rfl dX10_lettersOf_23 ⟨_, rfl, (k1 c1)⟩
  · refine G_iload_n 1 rfl dX10_lettersOf_4 rfl ?_
    refine G_aload_n 0 rfl dX10_lettersOf_5 rfl ?_
    refine G_geti (k := 3) hs1 (q := (RX10, TX10, 4)) rfl inX10 (by decide) (Or.inl rfl) hF_X10_21 dX10_lettersOf_6 ?_
    refine G_icmp_ge (tgt := 21) dX10_lettersOf_9 (by decide) (fun c2 => ?_) (fun c2 => ?_)
    · refine G_bipush (v := 32) dX10_lettersOf_21 (by decide) ?_
      exact G_iret rfl dX10_lettersOf_23 ⟨_, rfl, (k2 c1 c2)⟩
    · refine G_aload_n 0 rfl dX10_lettersOf_12 rfl ?_
      refine G_getr (j := r0_letters) (k := 2) hs1 (q := (RX10, TX10, 4)) rfl inX10 (by decide) rfl hF_X10_18 dX10_lettersOf_13 ?_
      refine G_iload_n 1 rfl dX10_lettersOf_16 rfl ?_
      refine G_iald hs2 (sd1 c1 c2) dX10_lettersOf_17 ?_
      refine G_goto (tgt := 23) dX10_lettersOf_18 (by decide) ?_
      exact G_iret rfl dX10_lettersOf_23 ⟨_, rfl, (k3 c1 c2)⟩
-- LostDigits$Text.secondOf
theorem dX10_secondOf_0 : decode cX10_secondOf 0 = .ok (.aload_n 0, 1) := by decide +kernel
theorem dX10_secondOf_1 : decode cX10_secondOf 1 = .ok (.iload_n 1, 1) := by decide +kernel
theorem dX10_secondOf_2 : decode cX10_secondOf 2 = .ok (.iconst 1, 1) := by decide +kernel
theorem dX10_secondOf_3 : decode cX10_secondOf 3 = .ok (.iadd, 1) := by decide +kernel
theorem dX10_secondOf_4 : decode cX10_secondOf 4 = .ok (.invokevirtual 42, 3) := by decide +kernel
theorem dX10_secondOf_7 : decode cX10_secondOf 7 = .ok (.ireturn, 1) := by decide +kernel
set_option maxRecDepth 10000 in
theorem TX10_secondOf_0 {d : Nat} {S : fW} {h : fH} {Q : Int32 → fH → Prop} {r0 : Nat} {x1 : Int32} {r0_signs r0_ends r0_letters : Nat} {Q1 : Int32 → fH → Prop} 
    (hs1 : (r0, shX10 r0_signs r0_ends r0_letters) ∈ S)
    (ok1 : OkI d mX10_endOf S [.ref r0, .int (x1 + (1 : Int32))] h Q1)
    (k1 : ∀ v_1 h_1, Q1 v_1 h_1 → Q v_1 h_1) :
    OkI (d + 1) mX10_secondOf S [.ref r0, .int x1] h Q := by
  refine Ok.of (by decide) (Nat.le_of_ble_eq_true rfl) ?_
  refine G_aload_n 0 rfl dX10_secondOf_0 rfl ?_
  refine G_iload_n 1 rfl dX10_secondOf_1 rfl ?_
  refine G_iconst (v := 1) dX10_secondOf_2 (by decide) ?_
  refine G_iadd dX10_secondOf_3 ?_
  refine G_callV (Z := mX10_endOf) (As := [.int (x1 + (1 : Int32))]) (st := []) hL_X10_42 hI_X10_endOf hS_X10_endOf hC_X10_endOf hN_X10 nX10_endOf (by decide) hs1 rfl rfl rfl (Nat.le_of_ble_eq_true rfl) dX10_secondOf_4 (ok1) (fun r_ h_1 z_ => ?_)
  obtain ⟨v_1, rfl, q_1⟩ := z_
  exact G_iret rfl dX10_secondOf_7 ⟨_, rfl, (k1 v_1 h_1 q_1)⟩
-- LostDigits$Text.areAlike
theorem dX10_areAlike_0 : decode cX10_areAlike 0 = .ok (.aload_n 0, 1) := by decide +kernel
theorem dX10_areAlike_1 : decode cX10_areAlike 1 = .ok (.iload_n 1, 1) := by decide +kernel
theorem dX10_areAlike_2 : decode cX10_areAlike 2 = .ok (.invokevirtual 42, 3) := by decide +kernel
theorem dX10_areAlike_5 : decode cX10_areAlike 5 = .ok (.iload_n 1, 1) := by decide +kernel
theorem dX10_areAlike_6 : decode cX10_areAlike 6 = .ok (.isub, 1) := by decide +kernel
theorem dX10_areAlike_7 : decode cX10_areAlike 7 = .ok (.istore_n 3, 1) := by decide +kernel
theorem dX10_areAlike_8 : decode cX10_areAlike 8 = .ok (.aload_n 0, 1) := by decide +kernel
theorem dX10_areAlike_9 : decode cX10_areAlike 9 = .ok (.iload_n 2, 1) := by decide +kernel
theorem dX10_areAlike_10 : decode cX10_areAlike 10 = .ok (.invokevirtual 42, 3) := by decide +kernel
theorem dX10_areAlike_13 : decode cX10_areAlike 13 = .ok (.iload_n 2, 1) := by decide +kernel
theorem dX10_areAlike_14 : decode cX10_areAlike 14 = .ok (.isub, 1) := by decide +kernel
theorem dX10_areAlike_15 : decode cX10_areAlike 15 = .ok (.iload_n 3, 1) := by decide +kernel
theorem dX10_areAlike_16 : decode cX10_areAlike 16 = .ok (.if_icmp .eq 5, 3) := by decide +kernel
theorem dX10_areAlike_19 : decode cX10_areAlike 19 = .ok (.iconst 0, 1) := by decide +kernel
theorem dX10_areAlike_20 : decode cX10_areAlike 20 = .ok (.ireturn, 1) := by decide +kernel
theorem dX10_areAlike_21 : decode cX10_areAlike 21 = .ok (.iconst 0, 1) := by decide +kernel
theorem dX10_areAlike_22 : decode cX10_areAlike 22 = .ok (.istore 4, 2) := by decide +kernel
theorem dX10_areAlike_24 : decode cX10_areAlike 24 = .ok (.iload 4, 2) := by decide +kernel
theorem dX10_areAlike_26 : decode cX10_areAlike 26 = .ok (.iload_n 3, 1) := by decide +kernel
theorem dX10_areAlike_27 : decode cX10_areAlike 27 = .ok (.if_icmp .ge 30, 3) := by decide +kernel
theorem dX10_areAlike_30 : decode cX10_areAlike 30 = .ok (.aload_n 0, 1) := by decide +kernel
theorem dX10_areAlike_31 : decode cX10_areAlike 31 = .ok (.iload_n 1, 1) := by decide +kernel
theorem dX10_areAlike_32 : decode cX10_areAlike 32 = .ok (.iload 4, 2) := by decide +kernel
theorem dX10_areAlike_34 : decode cX10_areAlike 34 = .ok (.iadd, 1) := by decide +kernel
theorem dX10_areAlike_35 : decode cX10_areAlike 35 = .ok (.invokevirtual 38, 3) := by decide +kernel
theorem dX10_areAlike_38 : decode cX10_areAlike 38 = .ok (.aload_n 0, 1) := by decide +kernel
theorem dX10_areAlike_39 : decode cX10_areAlike 39 = .ok (.iload_n 2, 1) := by decide +kernel
theorem dX10_areAlike_40 : decode cX10_areAlike 40 = .ok (.iload 4, 2) := by decide +kernel
theorem dX10_areAlike_42 : decode cX10_areAlike 42 = .ok (.iadd, 1) := by decide +kernel
theorem dX10_areAlike_43 : decode cX10_areAlike 43 = .ok (.invokevirtual 38, 3) := by decide +kernel
theorem dX10_areAlike_46 : decode cX10_areAlike 46 = .ok (.if_icmp .eq 5, 3) := by decide +kernel
theorem dX10_areAlike_49 : decode cX10_areAlike 49 = .ok (.iconst 0, 1) := by decide +kernel
theorem dX10_areAlike_50 : decode cX10_areAlike 50 = .ok (.ireturn, 1) := by decide +kernel
theorem dX10_areAlike_51 : decode cX10_areAlike 51 = .ok (.iinc 4 1, 3) := by decide +kernel
theorem dX10_areAlike_54 : decode cX10_areAlike 54 = .ok (.goto (-30), 3) := by decide +kernel
theorem dX10_areAlike_57 : decode cX10_areAlike 57 = .ok (.iconst 1, 1) := by decide +kernel
theorem dX10_areAlike_58 : decode cX10_areAlike 58 = .ok (.ireturn, 1) := by decide +kernel
set_option maxRecDepth 10000 in
theorem NX10_areAlike_0 {d : Nat} {S : fW} {h : fH} {Q : Int32 → fH → Prop} {r0 : Nat} {x1 : Int32} {x2 : Int32} {r0_signs r0_ends r0_letters : Nat}  
    (hs1 : (r0, shX10 r0_signs r0_ends r0_letters) ∈ S)
    (w : ∃ Q1 : Int32 → fH → Prop, OkI d mX10_endOf S [.ref r0, .int x1] h Q1 ∧ ∀ (v_1 : Int32) (h_1 : fH), Q1 v_1 h_1 → ∃ Q2 : Int32 → fH → Prop, OkI d mX10_endOf S [.ref r0, .int x2] h_1 Q2 ∧ ∀ (v_2 : Int32) (h_2 : fH), Q2 v_2 h_2 → (((v_2 - x2) = (v_1 - x1) → G mX10_areAlike (d + 1) S (f_PI Q) 24 [(0, .ref r0), (1, .int x1), (2, .int x2), (3, .int (v_1 - x1)), (4, .int (0 : Int32))] [] h_2) ∧ (¬ (v_2 - x2) = (v_1 - x1) → Q (0 : Int32) h_2))) :
    OkI (d + 1) mX10_areAlike S [.ref r0, .int x1, .int x2] h Q := by
  refine Ok.of (by decide) (Nat.le_of_ble_eq_true rfl) ?_
  refine G_aload_n 0 rfl dX10_areAlike_0 rfl ?_
  refine G_iload_n 1 rfl dX10_areAlike_1 rfl ?_
  obtain ⟨Q1, ok1, w⟩ := w
  refine G_callV (Z := mX10_endOf) (As := [.int x1]) (st := []) hL_X10_42 hI_X10_endOf hS_X10_endOf hC_X10_endOf hN_X10 nX10_endOf (by decide) hs1 rfl rfl rfl (Nat.le_of_ble_eq_true rfl) dX10_areAlike_2 ok1 (fun r_ h_1 z_ => ?_)
  obtain ⟨v_1, rfl, q_1⟩ := z_
  have w := w v_1 h_1 q_1
  refine G_iload_n 1 rfl dX10_areAlike_5 rfl ?_
  refine G_isub dX10_areAlike_6 ?_
  refine G_istore_n dX10_areAlike_7 rfl (by decide) (lv' := [(3, .int (v_1 - x1)), (0, .ref r0), (1, .int x1), (2, .int x2)]) rfl ?_
  refine G_aload_n 1 rfl dX10_areAlike_8 rfl ?_
  refine G_iload_n 3 rfl dX10_areAlike_9 rfl ?_
  obtain ⟨Q2, ok2, w⟩ := w
  refine G_callV (Z := mX10_endOf) (As := [.int x2]) (st := []) hL_X10_42 hI_X10_endOf hS_X10_endOf hC_X10_endOf hN_X10 nX10_endOf (by decide) hs1 rfl rfl rfl (Nat.le_of_ble_eq_true rfl) dX10_areAlike_10 ok2 (fun r_ h_2 z_ => ?_)
  obtain ⟨v_2, rfl, q_2⟩ := z_
  have w := w v_2 h_2 q_2
  refine G_iload_n 3 rfl dX10_areAlike_13 rfl ?_
  refine G_isub dX10_areAlike_14 ?_
  refine G_iload_n 0 rfl dX10_areAlike_15 rfl ?_
  refine G_icmp_eq (tgt := 21) dX10_areAlike_16 (by decide) (fun c1 => ?_) (fun c1 => ?_)
  · have w := w.1 c1
    refine G_iconst (v := 0) dX10_areAlike_21 (by decide) ?_
    refine G_istore dX10_areAlike_22 (by decide) (lv' := [(4, .int (0 : Int32)), (3, .int (v_1 - x1)), (0, .ref r0), (1, .int x1), (2, .int x2)]) rfl ?_
    exact G_sub [2, 3, 4, 1, 0] rfl w
  · have w := w.2 c1
    refine G_iconst (v := 0) dX10_areAlike_19 (by decide) ?_
    exact G_zret rfl (Or.inl rfl) dX10_areAlike_20 ⟨_, rfl, w⟩

set_option maxRecDepth 10000 in
theorem NX10_areAlike_24 {d : Nat} {S : fW} {h : fH} {Q : Int32 → fH → Prop} {r0 : Nat} {x1 : Int32} {x2 : Int32} {x3 : Int32} {x4 : Int32} {r0_signs r0_ends r0_letters : Nat}  
    (hs1 : (r0, shX10 r0_signs r0_ends r0_letters) ∈ S)
    (w : ((x3 ≤ x4 → Q (1 : Int32) h) ∧ (¬ x3 ≤ x4 → ∃ Q1 : Int32 → fH → Prop, OkI d mX10_signAt S [.ref r0, .int (x1 + x4)] h Q1 ∧ ∀ (v_1 : Int32) (h_1 : fH), Q1 v_1 h_1 → ∃ Q2 : Int32 → fH → Prop, OkI d mX10_signAt S [.ref r0, .int (x2 + x4)] h_1 Q2 ∧ ∀ (v_2 : Int32) (h_2 : fH), Q2 v_2 h_2 → ((v_1 = v_2 → G mX10_areAlike (d + 1) S (f_PI Q) 24 [(0, .ref r0), (1, .int x1), (2, .int x2), (3, .int x3), (4, .int (x4 + 1))] [] h_2) ∧ (¬ v_1 = v_2 → Q (0 : Int32) h_2))))) :
    G mX10_areAlike (d + 1) S (f_PI Q) 24 [(0, .ref r0), (1, .int x1), (2, .int x2), (3, .int x3), (4, .int x4)] [] h := by
  refine G_iload 4 rfl dX10_areAlike_24 ?_
  refine G_iload_n 3 rfl dX10_areAlike_26 rfl ?_
  refine G_icmp_ge (tgt := 57) dX10_areAlike_27 (by decide) (fun c1 => ?_) (fun c1 => ?_)
  · have w := w.1 c1
    refine G_iconst (v := 1) dX10_areAlike_57 (by decide) ?_
    exact G_zret rfl (Or.inr rfl) dX10_areAlike_58 ⟨_, rfl, w⟩
  · have w := w.2 c1
    refine G_aload_n 0 rfl dX10_areAlike_30 rfl ?_
    refine G_iload_n 1 rfl dX10_areAlike_31 rfl ?_
    refine G_iload 4 rfl dX10_areAlike_32 ?_
    refine G_iadd dX10_areAlike_34 ?_
    obtain ⟨Q1, ok1, w⟩ := w
    refine G_callV (Z := mX10_signAt) (As := [.int (x1 + x4)]) (st := []) hL_X10_38 hI_X10_signAt hS_X10_signAt hC_X10_signAt hN_X10 nX10_signAt (by decide) hs1 rfl rfl rfl (Nat.le_of_ble_eq_true rfl) dX10_areAlike_35 ok1 (fun r_ h_1 z_ => ?_)
    obtain ⟨v_1, rfl, q_1⟩ := z_
    have w := w v_1 h_1 q_1
    refine G_aload_n 0 rfl dX10_areAlike_38 rfl ?_
    refine G_iload_n 2 rfl dX10_areAlike_39 rfl ?_
    refine G_iload 4 rfl dX10_areAlike_40 ?_
    refine G_iadd dX10_areAlike_42 ?_
    obtain ⟨Q2, ok2, w⟩ := w
    refine G_callV (Z := mX10_signAt) (As := [.int (x2 + x4)]) (st := [.int v_1]) hL_X10_38 hI_X10_signAt hS_X10_signAt hC_X10_signAt hN_X10 nX10_signAt (by decide) hs1 rfl rfl rfl (Nat.le_of_ble_eq_true rfl) dX10_areAlike_43 ok2 (fun r_ h_2 z_ => ?_)
    obtain ⟨v_2, rfl, q_2⟩ := z_
    have w := w v_2 h_2 q_2
    refine G_icmp_eq (tgt := 51) dX10_areAlike_46 (by decide) (fun c2 => ?_) (fun c2 => ?_)
    · have w := w.1 c2
      refine G_iinc (v := 1) 4 rfl dX10_areAlike_51 (by decide) (by decide) (lv' := [(4, .int (x4 + 1)), (0, .ref r0), (1, .int x1), (2, .int x2), (3, .int x3)]) rfl ?_
      refine G_goto (tgt := 24) dX10_areAlike_54 (by decide) ?_
      exact G_sub [1, 2, 3, 4, 0] rfl w
    · have w := w.2 c2
      refine G_iconst (v := 0) dX10_areAlike_49 (by decide) ?_
      exact G_zret rfl (Or.inl rfl) dX10_areAlike_50 ⟨_, rfl, w⟩

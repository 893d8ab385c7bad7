-- LostDigits$Page.copyFrom
theorem dX2_copyFrom_0 : decode cX2_copyFrom 0 = .ok (.aload_n 0, 1) := by decide +kernel
theorem dX2_copyFrom_1 : decode cX2_copyFrom 1 = .ok (.getfield 12, 3) := by decide +kernel
theorem dX2_copyFrom_4 : decode cX2_copyFrom 4 = .ok (.aload_n 1, 1) := by decide +kernel
theorem dX2_copyFrom_5 : decode cX2_copyFrom 5 = .ok (.getfield 12, 3) := by decide +kernel
theorem dX2_copyFrom_8 : decode cX2_copyFrom 8 = .ok (.invokevirtual 43, 3) := by decide +kernel
theorem dX2_copyFrom_11 : decode cX2_copyFrom 11 = .ok (.aload_n 1, 1) := by decide +kernel
theorem dX2_copyFrom_12 : decode cX2_copyFrom 12 = .ok (.getfield 18, 3) := by decide +kernel
theorem dX2_copyFrom_15 : decode cX2_copyFrom 15 = .ok (.iconst 0, 1) := by decide +kernel
theorem dX2_copyFrom_16 : decode cX2_copyFrom 16 = .ok (.aload_n 0, 1) := by decide +kernel
theorem dX2_copyFrom_17 : decode cX2_copyFrom 17 = .ok (.getfield 18, 3) := by decide +kernel
theorem dX2_copyFrom_20 : decode cX2_copyFrom 20 = .ok (.iconst 0, 1) := by decide +kernel
theorem dX2_copyFrom_21 : decode cX2_copyFrom 21 = .ok (.iconst 5, 1) := by decide +kernel
theorem dX2_copyFrom_22 : decode cX2_copyFrom 22 = .ok (.invokestatic 47, 3) := by decide +kernel
theorem dX2_copyFrom_25 : decode cX2_copyFrom 25 = .ok (.aload_n 1, 1) := by decide +kernel
theorem dX2_copyFrom_26 : decode cX2_copyFrom 26 = .ok (.getfield 22, 3) := by decide +kernel
theorem dX2_copyFrom_29 : decode cX2_copyFrom 29 = .ok (.iconst 0, 1) := by decide +kernel
theorem dX2_copyFrom_30 : decode cX2_copyFrom 30 = .ok (.aload_n 0, 1) := by decide +kernel
theorem dX2_copyFrom_31 : decode cX2_copyFrom 31 = .ok (.getfield 22, 3) := by decide +kernel
theorem dX2_copyFrom_34 : decode cX2_copyFrom 34 = .ok (.iconst 0, 1) := by decide +kernel
theorem dX2_copyFrom_35 : decode cX2_copyFrom 35 = .ok (.iconst 5, 1) := by decide +kernel
theorem dX2_copyFrom_36 : decode cX2_copyFrom 36 = .ok (.invokestatic 47, 3) := by decide +kernel
theorem dX2_copyFrom_39 : decode cX2_copyFrom 39 = .ok (.aload_n 1, 1) := by decide +kernel
theorem dX2_copyFrom_40 : decode cX2_copyFrom 40 = .ok (.getfield 25, 3) := by decide +kernel
theorem dX2_copyFrom_43 : decode cX2_copyFrom 43 = .ok (.iconst 0, 1) := by decide +kernel
theorem dX2_copyFrom_44 : decode cX2_copyFrom 44 = .ok (.aload_n 0, 1) := by decide +kernel
theorem dX2_copyFrom_45 : decode cX2_copyFrom 45 = .ok (.getfield 25, 3) := by decide +kernel
theorem dX2_copyFrom_48 : decode cX2_copyFrom 48 = .ok (.iconst 0, 1) := by decide +kernel
theorem dX2_copyFrom_49 : decode cX2_copyFrom 49 = .ok (.bipush 7, 2) := by decide +kernel
theorem dX2_copyFrom_51 : decode cX2_copyFrom 51 = .ok (.invokestatic 47, 3) := by decide +kernel
theorem dX2_copyFrom_54 : decode cX2_copyFrom 54 = .ok (.aload_n 0, 1) := by decide +kernel
theorem dX2_copyFrom_55 : decode cX2_copyFrom 55 = .ok (.aload_n 1, 1) := by decide +kernel
theorem dX2_copyFrom_56 : decode cX2_copyFrom 56 = .ok (.getfield 29, 3) := by decide +kernel
theorem dX2_copyFrom_59 : decode cX2_copyFrom 59 = .ok (.putfield 29, 3) := by decide +kernel
theorem dX2_copyFrom_62 : decode cX2_copyFrom 62 = .ok (.aload_n 0, 1) := by decide +kernel
theorem dX2_copyFrom_63 : decode cX2_copyFrom 63 = .ok (.aload_n 1, 1) := by decide +kernel
theorem dX2_copyFrom_64 : decode cX2_copyFrom 64 = .ok (.getfield 33, 3) := by decide +kernel
theorem dX2_copyFrom_67 : decode cX2_copyFrom 67 = .ok (.putfield 33, 3) := by decide +kernel
theorem dX2_copyFrom_70 : decode cX2_copyFrom 70 = .ok (.aload_n 0, 1) := by decide +kernel
theorem dX2_copyFrom_71 : decode cX2_copyFrom 71 = .ok (.aload_n 1, 1) := by decide +kernel
theorem dX2_copyFrom_72 : decode cX2_copyFrom 72 = .ok (.getfield 36, 3) := by decide +kernel
theorem dX2_copyFrom_75 : decode cX2_copyFrom 75 = .ok (.putfield 36, 3) := by decide +kernel
theorem dX2_copyFrom_78 : decode cX2_copyFrom 78 = .ok (.return_, 1) := by decide +kernel
set_option maxRecDepth 10000 in
theorem NX2_copyFrom_0 {d : Nat} {S : fW} {h : fH} {Q : fH → Prop} {r0 : Nat} {r1 : Nat} {r0_text r0_numbers r0_spans r0_terms r1_text r1_numbers r1_spans r1_terms r0_text_signs r0_text_ends r0_text_letters : Nat}  
    (hs1 : (r0, shX2 r0_text r0_numbers r0_spans r0_terms) ∈ S)
    (hs2 : (r1, shX2 r1_text r1_numbers r1_spans r1_terms) ∈ S)
    (hs3 : (r0_text, shX10 r0_text_signs r0_text_ends r0_text_letters) ∈ S)
    (hs4 : (r1_numbers, shI 5) ∈ S)
    (hs5 : (r0_numbers, shI 5) ∈ S)
    (hs6 : (r1_spans, shI 5) ∈ S)
    (hs7 : (r0_spans, shI 5) ∈ S)
    (hs8 : (r1_terms, shJ 7) ∈ S)
    (hs9 : (r0_terms, shJ 7) ∈ S)
    (w : ∃ Q1 : fH → Prop, OkV d mX10_copyFrom S [.ref r0_text, .ref r1_text] h Q1 ∧ ∀ (h_1 : fH), Q1 h_1 → ∀ g_1 : fH, g_1 = u_ai h_1 r0_numbers (va_cpy (h_1.2.2.1 r1_numbers) (h_1.2.2.1 r0_numbers) 0 0 5) → ∀ g_2 : fH, g_2 = u_ai g_1 r0_spans (va_cpy (g_1.2.2.1 r1_spans) (g_1.2.2.1 r0_spans) 0 0 5) → ∀ g_3 : fH, g_3 = u_al g_2 r0_terms (va_cpy (g_2.2.2.2 r1_terms) (g_2.2.2.2 r0_terms) 0 0 7) → ∀ g_4 : fH, g_4 = u_fi g_3 r0 4 (g_3.1 r1 4) → ∀ g_5 : fH, g_5 = u_fi g_4 r0 5 (g_4.1 r1 5) → ∀ g_6 : fH, g_6 = u_fi g_5 r0 6 (g_5.1 r1 6) → Q g_6) :
    OkV (d + 1) mX2_copyFrom S [.ref r0, .ref r1] h Q := by
  refine Ok.of (by decide) (Nat.le_of_ble_eq_true rfl) ?_
  refine G_aload_n 0 rfl dX2_copyFrom_0 rfl ?_
  refine G_getr (j := r0_text) (k := 0) hs1 (q := (RX2, TX2, 8)) rfl inX2 (by decide) rfl hF_X2_12 dX2_copyFrom_1 ?_
  refine G_aload_n 1 rfl dX2_copyFrom_4 rfl ?_
  refine G_getr (j := r1_text) (k := 0) hs2 (q := (RX2, TX2, 8)) rfl inX2 (by decide) rfl hF_X2_12 dX2_copyFrom_5 ?_
  obtain ⟨Q1, ok1, w⟩ := w
  refine G_callV (Z := mX10_copyFrom) (As := [.ref r1_text]) (st := []) hL_X2_43 hI_X10_copyFrom hS_X10_copyFrom hC_X10_copyFrom hN_X10 nX10_copyFrom (by decide) hs3 rfl rfl rfl (Nat.le_of_ble_eq_true rfl) dX2_copyFrom_8 ok1 (fun r_ h_1 z_ => ?_)
  obtain ⟨rfl, q_1⟩ := z_
  have w := w h_1 q_1
  refine G_aload_n 1 rfl dX2_copyFrom_11 rfl ?_
  refine G_getr (j := r1_numbers) (k := 1) hs2 (q := (RX2, TX2, 8)) rfl inX2 (by decide) rfl hF_X2_18 dX2_copyFrom_12 ?_
  refine G_iconst (v := 0) dX2_copyFrom_15 (by decide) ?_
  refine G_aload_n 0 rfl dX2_copyFrom_16 rfl ?_
  refine G_getr (j := r0_numbers) (k := 1) hs1 (q := (RX2, TX2, 8)) rfl inX2 (by decide) rfl hF_X2_18 dX2_copyFrom_17 ?_
  refine G_iconst (v := 0) dX2_copyFrom_20 (by decide) ?_
  refine G_iconst (v := 5) dX2_copyFrom_21 (by decide) ?_
  refine G_copyI hL_X2_47 hs4 hs5 (by decide) (by decide) (by decide) (Nat.le_of_ble_eq_true rfl) dX2_copyFrom_22 ?_
  refine G_nm (fun g_1 e_1 => ?_)
  have w := w g_1 e_1
  refine G_aload_n 1 rfl dX2_copyFrom_25 rfl ?_
  refine G_getr (j := r1_spans) (k := 2) hs2 (q := (RX2, TX2, 8)) rfl inX2 (by decide) rfl hF_X2_22 dX2_copyFrom_26 ?_
  refine G_iconst (v := 0) dX2_copyFrom_29 (by decide) ?_
  refine G_aload_n 0 rfl dX2_copyFrom_30 rfl ?_
  refine G_getr (j := r0_spans) (k := 2) hs1 (q := (RX2, TX2, 8)) rfl inX2 (by decide) rfl hF_X2_22 dX2_copyFrom_31 ?_
  refine G_iconst (v := 0) dX2_copyFrom_34 (by decide) ?_
  refine G_iconst (v := 5) dX2_copyFrom_35 (by decide) ?_
  refine G_copyI hL_X2_47 hs6 hs7 (by decide) (by decide) (by decide) (Nat.le_of_ble_eq_true rfl) dX2_copyFrom_36 ?_
  refine G_nm (fun g_2 e_2 => ?_)
  have w := w g_2 e_2
  refine G_aload_n 1 rfl dX2_copyFrom_39 rfl ?_
  refine G_getr (j := r1_terms) (k := 3) hs2 (q := (RX2, TX2, 8)) rfl inX2 (by decide) rfl hF_X2_25 dX2_copyFrom_40 ?_
  refine G_iconst (v := 0) dX2_copyFrom_43 (by decide) ?_
  refine G_aload_n 0 rfl dX2_copyFrom_44 rfl ?_
  refine G_getr (j := r0_terms) (k := 3) hs1 (q := (RX2, TX2, 8)) rfl inX2 (by decide) rfl hF_X2_25 dX2_copyFrom_45 ?_
  refine G_iconst (v := 0) dX2_copyFrom_48 (by decide) ?_
  refine G_bipush (v := 7) dX2_copyFrom_49 (by decide) ?_
  refine G_copyL hL_X2_47 hs8 hs9 (by decide) (by decide) (by decide) (Nat.le_of_ble_eq_true rfl) dX2_copyFrom_51 ?_
  refine G_nm (fun g_3 e_3 => ?_)
  have w := w g_3 e_3
  refine G_aload_n 0 rfl dX2_copyFrom_54 rfl ?_
  refine G_aload_n 1 rfl dX2_copyFrom_55 rfl ?_
  refine G_geti (k := 4) hs2 (q := (RX2, TX2, 8)) rfl inX2 (by decide) (Or.inl rfl) hF_X2_29 dX2_copyFrom_56 ?_
  refine G_puti (k := 4) tyX2 hs1 (q := (RX2, TX2, 8)) rfl inX2 tyX2_ok nmX2 (by decide) rfl rfl rfl hF_X2_29 dX2_copyFrom_59 ?_
  refine G_nm (fun g_4 e_4 => ?_)
  have w := w g_4 e_4
  refine G_aload_n 0 rfl dX2_copyFrom_62 rfl ?_
  refine G_aload_n 1 rfl dX2_copyFrom_63 rfl ?_
  refine G_geti (k := 5) hs2 (q := (RX2, TX2, 8)) rfl inX2 (by decide) (Or.inl rfl) hF_X2_33 dX2_copyFrom_64 ?_
  refine G_puti (k := 5) tyX2 hs1 (q := (RX2, TX2, 8)) rfl inX2 tyX2_ok nmX2 (by decide) rfl rfl rfl hF_X2_33 dX2_copyFrom_67 ?_
  refine G_nm (fun g_5 e_5 => ?_)
  have w := w g_5 e_5
  refine G_aload_n 0 rfl dX2_copyFrom_70 rfl ?_
  refine G_aload_n 1 rfl dX2_copyFrom_71 rfl ?_
  refine G_geti (k := 6) hs2 (q := (RX2, TX2, 8)) rfl inX2 (by decide) (Or.inl rfl) hF_X2_36 dX2_copyFrom_72 ?_
  refine G_puti (k := 6) tyX2 hs1 (q := (RX2, TX2, 8)) rfl inX2 tyX2_ok nmX2 (by decide) rfl rfl rfl hF_X2_36 dX2_copyFrom_75 ?_
  refine G_nm (fun g_6 e_6 => ?_)
  have w := w g_6 e_6
  exact G_vret rfl dX2_copyFrom_78 ⟨rfl, w⟩

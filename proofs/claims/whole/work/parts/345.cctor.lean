/-! ===== the class's constructor ===== -/
def SCs (k : Nat) : fW := (SC.drop 1).take k
theorem gmu_C : (fun i => gmu 10 i + 41) = gfC := funext fun i => by
  unfold gmu gfC
  split <;> rfl
theorem cwO_eq2 : SCs 40 ++ shf 41 cwX1 = SCs 52 := by
  have h : shf 41 cwX1 = [(42, shX1 43 48 49 50 51), (43, shX9 44 45 46 47), (44, shX3), (45, shX4), (46, shJ 7), (47, shI 7), (48, shI 7), (49, shJ 2), (50, shI 2), (51, .inr (3, 2, fun i => gmu 10 i + 41)), (52, shI 7), (53, shI 7)] := rfl
  rw [h, gmu_C]
  rfl
theorem cwO_eq (x : Nat × fS) : (x :: SCs 40) ++ shf (42 - 1) cwX1 = x :: SCs 52 := by
  show x :: (SCs 40 ++ shf 41 cwX1) = _
  rw [cwO_eq2]
theorem dX11_init_0 : decode cX11_init 0 = .ok (.aload_n 0, 1) := by decide +kernel
theorem dX11_init_1 : decode cX11_init 1 = .ok (.invokespecial 3, 3) := by decide +kernel
theorem dX11_init_4 : decode cX11_init 4 = .ok (.aload_n 0, 1) := by decide +kernel
theorem dX11_init_5 : decode cX11_init 5 = .ok (.new 9, 3) := by decide +kernel
theorem dX11_init_8 : decode cX11_init 8 = .ok (.dup, 1) := by decide +kernel
theorem dX11_init_9 : decode cX11_init 9 = .ok (.invokespecial 11, 3) := by decide +kernel
theorem dX11_init_12 : decode cX11_init 12 = .ok (.putfield 12, 3) := by decide +kernel
theorem dX11_init_15 : decode cX11_init 15 = .ok (.aload_n 0, 1) := by decide +kernel
theorem dX11_init_16 : decode cX11_init 16 = .ok (.new 9, 3) := by decide +kernel
theorem dX11_init_19 : decode cX11_init 19 = .ok (.dup, 1) := by decide +kernel
theorem dX11_init_20 : decode cX11_init 20 = .ok (.invokespecial 11, 3) := by decide +kernel
theorem dX11_init_23 : decode cX11_init 23 = .ok (.putfield 16, 3) := by decide +kernel
theorem dX11_init_26 : decode cX11_init 26 = .ok (.aload_n 0, 1) := by decide +kernel
theorem dX11_init_27 : decode cX11_init 27 = .ok (.new 9, 3) := by decide +kernel
theorem dX11_init_30 : decode cX11_init 30 = .ok (.dup, 1) := by decide +kernel
theorem dX11_init_31 : decode cX11_init 31 = .ok (.invokespecial 11, 3) := by decide +kernel
theorem dX11_init_34 : decode cX11_init 34 = .ok (.putfield 19, 3) := by decide +kernel
theorem dX11_init_37 : decode cX11_init 37 = .ok (.aload_n 0, 1) := by decide +kernel
theorem dX11_init_38 : decode cX11_init 38 = .ok (.bipush 20, 2) := by decide +kernel
theorem dX11_init_40 : decode cX11_init 40 = .ok (.newarray .int, 2) := by decide +kernel
theorem dX11_init_42 : decode cX11_init 42 = .ok (.putfield 22, 3) := by decide +kernel
theorem dX11_init_45 : decode cX11_init 45 = .ok (.aload_n 0, 1) := by decide +kernel
theorem dX11_init_46 : decode cX11_init 46 = .ok (.iconst 0, 1) := by decide +kernel
theorem dX11_init_47 : decode cX11_init 47 = .ok (.putfield 26, 3) := by decide +kernel
theorem dX11_init_50 : decode cX11_init 50 = .ok (.aload_n 0, 1) := by decide +kernel
theorem dX11_init_51 : decode cX11_init 51 = .ok (.new 30, 3) := by decide +kernel
theorem dX11_init_54 : decode cX11_init 54 = .ok (.dup, 1) := by decide +kernel
theorem dX11_init_55 : decode cX11_init 55 = .ok (.invokespecial 32, 3) := by decide +kernel
theorem dX11_init_58 : decode cX11_init 58 = .ok (.putfield 33, 3) := by decide +kernel
theorem dX11_init_61 : decode cX11_init 61 = .ok (.aload_n 0, 1) := by decide +kernel
theorem dX11_init_62 : decode cX11_init 62 = .ok (.new 37, 3) := by decide +kernel
theorem dX11_init_65 : decode cX11_init 65 = .ok (.dup, 1) := by decide +kernel
theorem dX11_init_66 : decode cX11_init 66 = .ok (.invokespecial 39, 3) := by decide +kernel
theorem dX11_init_69 : decode cX11_init 69 = .ok (.putfield 40, 3) := by decide +kernel
theorem dX11_init_72 : decode cX11_init 72 = .ok (.aload_n 0, 1) := by decide +kernel
theorem dX11_init_73 : decode cX11_init 73 = .ok (.new 44, 3) := by decide +kernel
theorem dX11_init_76 : decode cX11_init 76 = .ok (.dup, 1) := by decide +kernel
theorem dX11_init_77 : decode cX11_init 77 = .ok (.invokespecial 46, 3) := by decide +kernel
theorem dX11_init_80 : decode cX11_init 80 = .ok (.putfield 47, 3) := by decide +kernel
theorem dX11_init_83 : decode cX11_init 83 = .ok (.aload_n 0, 1) := by decide +kernel
theorem dX11_init_84 : decode cX11_init 84 = .ok (.new 51, 3) := by decide +kernel
theorem dX11_init_87 : decode cX11_init 87 = .ok (.dup, 1) := by decide +kernel
theorem dX11_init_88 : decode cX11_init 88 = .ok (.invokespecial 53, 3) := by decide +kernel
theorem dX11_init_91 : decode cX11_init 91 = .ok (.putfield 54, 3) := by decide +kernel
theorem dX11_init_94 : decode cX11_init 94 = .ok (.aload_n 0, 1) := by decide +kernel
theorem dX11_init_95 : decode cX11_init 95 = .ok (.new 58, 3) := by decide +kernel
theorem dX11_init_98 : decode cX11_init 98 = .ok (.dup, 1) := by decide +kernel
theorem dX11_init_99 : decode cX11_init 99 = .ok (.invokespecial 60, 3) := by decide +kernel
theorem dX11_init_102 : decode cX11_init 102 = .ok (.putfield 61, 3) := by decide +kernel
theorem dX11_init_105 : decode cX11_init 105 = .ok (.aload_n 0, 1) := by decide +kernel
theorem dX11_init_106 : decode cX11_init 106 = .ok (.new 65, 3) := by decide +kernel
theorem dX11_init_109 : decode cX11_init 109 = .ok (.dup, 1) := by decide +kernel
theorem dX11_init_110 : decode cX11_init 110 = .ok (.invokespecial 67, 3) := by decide +kernel
theorem dX11_init_113 : decode cX11_init 113 = .ok (.putfield 68, 3) := by decide +kernel
theorem dX11_init_116 : decode cX11_init 116 = .ok (.aload_n 0, 1) := by decide +kernel
theorem dX11_init_117 : decode cX11_init 117 = .ok (.new 72, 3) := by decide +kernel
theorem dX11_init_120 : decode cX11_init 120 = .ok (.dup, 1) := by decide +kernel
theorem dX11_init_121 : decode cX11_init 121 = .ok (.invokespecial 74, 3) := by decide +kernel
theorem dX11_init_124 : decode cX11_init 124 = .ok (.putfield 75, 3) := by decide +kernel
theorem dX11_init_127 : decode cX11_init 127 = .ok (.return_, 1) := by decide +kernel
theorem PcOk.sh {k z : fH} {n0 : Nat} {P : pgP} (x : PcOk z 1 2 3 4 5 6 7 8 P) (s : fShf n0 k z) : PcOk k (1 + (n0 - 1)) (2 + (n0 - 1)) (3 + (n0 - 1)) (4 + (n0 - 1)) (5 + (n0 - 1)) (6 + (n0 - 1)) (7 + (n0 - 1)) (8 + (n0 - 1)) P := by
  obtain ⟨y1, y2, y3, y4, y5, y6, y7⟩ := x
  exact ⟨y1.sh s (by decide) (by decide) (by decide) (by decide), by rw [(s 6 (by decide)).2.2.1]; exact y2, by rw [(s 7 (by decide)).2.2.1]; exact y3, by rw [(s 8 (by decide)).2.2.2]; exact y4, by rw [(s 1 (by decide)).1]; exact y5, by rw [(s 1 (by decide)).1]; exact y6, by rw [(s 1 (by decide)).1]; exact y7⟩
theorem PcZ.sh {k z : fH} {n0 : Nat} (x : PcZ z 6 7 8) (s : fShf n0 k z) : PcZ k (6 + (n0 - 1)) (7 + (n0 - 1)) (8 + (n0 - 1)) := by
  unfold PcZ
  rw [(s 6 (by decide)).2.2.1, (s 7 (by decide)).2.2.1, (s 8 (by decide)).2.2.2]
  exact x
theorem PcOk.eq {h k : fH} {pg tx a b c nu sp te : Nat} {P : pgP} (x : PcOk h pg tx a b c nu sp te P) (e : ∀ i ∈ [pg, tx, a, b, c, nu, sp, te], fEq i h k) : PcOk k pg tx a b c nu sp te P := by
  obtain ⟨y1, y2, y3, y4, y5, y6, y7⟩ := x
  exact ⟨y1.eq (e _ (by simp)) (e _ (by simp)) (e _ (by simp)) (e _ (by simp)), by rw [(e nu (by simp)).2.2.1]; exact y2, by rw [(e sp (by simp)).2.2.1]; exact y3, by rw [(e te (by simp)).2.2.2]; exact y4, by rw [(e pg (by simp)).1]; exact y5, by rw [(e pg (by simp)).1]; exact y6, by rw [(e pg (by simp)).1]; exact y7⟩
theorem PcZ.eq {h k : fH} {nu sp te : Nat} (x : PcZ h nu sp te) (e : ∀ i ∈ [nu, sp, te], fEq i h k) : PcZ k nu sp te := by
  unfold PcZ
  rw [(e nu (by simp)).2.2.1, (e sp (by simp)).2.2.1, (e te (by simp)).2.2.2]
  exact x
set_option maxHeartbeats 4000000 in
theorem kX11_init {d : Nat} : OkC (d + 4) 84 663 mX11_init 10 [3, 3, 3, 3, 0, 3, 3, 3, 3, 3, 3, 3] SC (fun h => CRel h X0) := by
  refine OkC.of (by decide) rfl (by decide) (by decide) (GC_nm (fun h0 e0 => ?_))
  refine GC_aload_n 0 rfl dX11_init_0 rfl ?_
  refine GC_obj hL_X11_3 dX11_init_1 ?_
  refine GC_aload_n 0 rfl dX11_init_4 rfl ?_
  refine GC_new (ci := 2) (n := 2) (q := (RX2, TX2, 8)) (fds := [3, 3, 3, 3, 0, 0, 0, 2]) tyX2 (f_t 24 (by decide +kernel) rfl) (f_t 25 (by decide +kernel) rfl) hN_X2 rfl inX2 tyX2_ok (by decide +kernel) (by decide) (wlt.cons ⟨by decide, s_lt_l (by decide)⟩ (wlt.nl 2)) rfl rfl (by decide) (by decide) (by decide) dX11_init_5 ?_
  refine GC_dup dX11_init_8 rfl ?_
  have w1 : wlt 10 (SCs 8) := ((wlt.nl 2).mono (by decide)).app (cwX2_lt.sh (o := 1))
  refine GC_init (n := 2) (S' := ((1, .inl (10, [3, 3, 3, 3, 0, 3, 3, 3, 3, 3, 3, 3])) :: SCs 8)) (Or.inl hL_X11_11) hI_X2_init hC_X2_init hN_X2 nX2_init rfl (by decide) (by decide) (kX2_init (d := d)) (f_z_1 _ _) (f_z_2 _ _) (wlt.cons ⟨by decide, s_lt_l (by decide)⟩ (wlt.nl 2)) cwX2_ge rfl rfl (by decide) (by decide) (by decide) (by decide) dX11_init_9 rfl (fun h1 y1 p1 q1 s1 => ?_)
  have o1 : fLt 2 h0 h1 := (fLt.z h0 2).tr q1
  refine GC_putr (k := 0) (j := 2) (q := (RX11, TX11, 12)) tyX11 rfl inX11 tyX11_ok nmX11 (by decide) (by decide) (fun _ => rfl) (fun _ => rfl) rfl rfl hF_X11_12 dX11_init_12 rfl ?_
  refine GC_w (S' := ((1, .inl (10, [6, 3, 3, 3, 0, 3, 3, 3, 3, 3, 3, 3])) :: SCs 8)) rfl ?_
  refine GC_aload_n 0 rfl dX11_init_15 rfl ?_
  refine GC_new (ci := 2) (n := 10) (q := (RX2, TX2, 8)) (fds := [3, 3, 3, 3, 0, 0, 0, 2]) tyX2 (f_t 24 (by decide +kernel) rfl) (f_t 25 (by decide +kernel) rfl) hN_X2 rfl inX2 tyX2_ok (by decide +kernel) (by decide) (wlt.cons ⟨by decide, s_lt_l (by decide)⟩ w1) rfl rfl (by decide) (by decide) (by decide) dX11_init_16 ?_
  refine GC_dup dX11_init_19 rfl ?_
  have w2 : wlt 18 (SCs 16) := (w1.mono (by decide)).app (cwX2_lt.sh (o := 9))
  refine GC_init (n := 10) (S' := ((1, .inl (10, [6, 3, 3, 3, 0, 3, 3, 3, 3, 3, 3, 3])) :: SCs 16)) (Or.inl hL_X11_11) hI_X2_init hC_X2_init hN_X2 nX2_init rfl (by decide) (by decide) (kX2_init (d := d)) (f_z_1 _ _) (f_z_2 _ _) (wlt.cons ⟨by decide, s_lt_l (by decide)⟩ w1) cwX2_ge rfl rfl (by decide) (by decide) (by decide) (by decide) dX11_init_20 rfl (fun h2 y2 p2 q2 s2 => ?_)
  have o2 : fLt 10 h1 h2 := (fLt.z h1 10).tr q2
  refine GC_putr (k := 1) (j := 10) (q := (RX11, TX11, 12)) tyX11 rfl inX11 tyX11_ok nmX11 (by decide) (by decide) (fun _ => rfl) (fun _ => rfl) rfl rfl hF_X11_16 dX11_init_23 rfl ?_
  refine GC_w (S' := ((1, .inl (10, [6, 14, 3, 3, 0, 3, 3, 3, 3, 3, 3, 3])) :: SCs 16)) rfl ?_
  refine GC_aload_n 0 rfl dX11_init_26 rfl ?_
  refine GC_new (ci := 2) (n := 18) (q := (RX2, TX2, 8)) (fds := [3, 3, 3, 3, 0, 0, 0, 2]) tyX2 (f_t 24 (by decide +kernel) rfl) (f_t 25 (by decide +kernel) rfl) hN_X2 rfl inX2 tyX2_ok (by decide +kernel) (by decide) (wlt.cons ⟨by decide, s_lt_l (by decide)⟩ w2) rfl rfl (by decide) (by decide) (by decide) dX11_init_27 ?_
  refine GC_dup dX11_init_30 rfl ?_
  have w3 : wlt 26 (SCs 24) := (w2.mono (by decide)).app (cwX2_lt.sh (o := 17))
  refine GC_init (n := 18) (S' := ((1, .inl (10, [6, 14, 3, 3, 0, 3, 3, 3, 3, 3, 3, 3])) :: SCs 24)) (Or.inl hL_X11_11) hI_X2_init hC_X2_init hN_X2 nX2_init rfl (by decide) (by decide) (kX2_init (d := d)) (f_z_1 _ _) (f_z_2 _ _) (wlt.cons ⟨by decide, s_lt_l (by decide)⟩ w2) cwX2_ge rfl rfl (by decide) (by decide) (by decide) (by decide) dX11_init_31 rfl (fun h3 y3 p3 q3 s3 => ?_)
  have o3 : fLt 18 h2 h3 := (fLt.z h2 18).tr q3
  refine GC_putr (k := 2) (j := 18) (q := (RX11, TX11, 12)) tyX11 rfl inX11 tyX11_ok nmX11 (by decide) (by decide) (fun _ => rfl) (fun _ => rfl) rfl rfl hF_X11_19 dX11_init_34 rfl ?_
  refine GC_w (S' := ((1, .inl (10, [6, 14, 22, 3, 0, 3, 3, 3, 3, 3, 3, 3])) :: SCs 24)) rfl ?_
  refine GC_aload_n 0 rfl dX11_init_37 rfl ?_
  refine GC_bipush (v := 20) dX11_init_38 (by decide) ?_
  refine GC_newaI (n := 26) (M := 20) (f_t 78 (by decide +kernel) rfl) (by decide) (by decide) (by decide) (wlt.cons ⟨by decide, s_lt_l (by decide)⟩ w3) rfl rfl (by decide) (by decide) (by decide) dX11_init_40 (fun h4 o4 z4 => ?_)
  have w4 : wlt 27 (SCs 25) := (w3.mono (by decide)).app (wlt.cons ⟨by decide, Or.inl (by decide)⟩ (wlt.nl 27))
  refine GC_w (S' := ((1, .inl (10, [6, 14, 22, 3, 0, 3, 3, 3, 3, 3, 3, 3])) :: SCs 25)) rfl ?_
  refine GC_putr (k := 3) (j := 26) (q := (RX11, TX11, 12)) tyX11 rfl inX11 tyX11_ok nmX11 (by decide) (by decide) (fun _ => rfl) (fun _ => rfl) rfl rfl hF_X11_22 dX11_init_42 rfl ?_
  refine GC_w (S' := ((1, .inl (10, [6, 14, 22, 30, 0, 3, 3, 3, 3, 3, 3, 3])) :: SCs 25)) rfl ?_
  refine GC_aload_n 0 rfl dX11_init_45 rfl ?_
  refine GC_iconst (v := 0) dX11_init_46 (by decide) ?_
  refine GC_puti (r := 1) (k := 4) (q := (RX11, TX11, 12)) tyX11 List.mem_cons_self rfl inX11 tyX11_ok nmX11 (by decide) rfl rfl rfl hF_X11_26 dX11_init_47 (GC_nm (fun h5 e5 => ?_))
  refine GC_aload_n 0 rfl dX11_init_50 rfl ?_
  refine GC_new (ci := 3) (n := 27) (q := (RX3, TX3, 3)) (fds := [1, 1, 0]) tyX3 (f_t 125 (by decide +kernel) rfl) (f_t 126 (by decide +kernel) rfl) hN_X3 rfl inX3 tyX3_ok (by decide +kernel) (by decide) (wlt.cons ⟨by decide, s_lt_l (by decide)⟩ w4) rfl rfl (by decide) (by decide) (by decide) dX11_init_51 ?_
  refine GC_dup dX11_init_54 rfl ?_
  have w5 : wlt 28 (SCs 26) := (w4.mono (by decide)).app (cwX3_lt.sh (o := 26))
  refine GC_init (n := 27) (S' := ((1, .inl (10, [6, 14, 22, 30, 0, 3, 3, 3, 3, 3, 3, 3])) :: SCs 26)) (Or.inr ⟨_, hM_X11_32⟩) hI_X3_init hC_X3_init hN_X3 nX3_init rfl (by decide) (by decide) (kX3_init (d := d + 2)) (f_z_1 _ _) (f_z_2 _ _) (wlt.cons ⟨by decide, s_lt_l (by decide)⟩ w4) cwX3_ge rfl rfl (by decide) (by decide) (by decide) (by decide) dX11_init_55 rfl (fun h6 y6 p6 q6 s6 => ?_)
  have o6 : fLt 27 h5 h6 := (fLt.z h5 27).tr q6
  refine GC_putr (k := 5) (j := 27) (q := (RX11, TX11, 12)) tyX11 rfl inX11 tyX11_ok nmX11 (by decide) (by decide) (fun _ => rfl) (fun _ => rfl) rfl rfl hF_X11_33 dX11_init_58 rfl ?_
  refine GC_w (S' := ((1, .inl (10, [6, 14, 22, 30, 0, 31, 3, 3, 3, 3, 3, 3])) :: SCs 26)) rfl ?_
  refine GC_aload_n 0 rfl dX11_init_61 rfl ?_
  refine GC_new (ci := 4) (n := 28) (q := (RX4, TX4, 3)) (fds := [0, 0, 2]) tyX4 (f_t 144 (by decide +kernel) rfl) (f_t 145 (by decide +kernel) rfl) hN_X4 rfl inX4 tyX4_ok (by decide +kernel) (by decide) (wlt.cons ⟨by decide, s_lt_l (by decide)⟩ w5) rfl rfl (by decide) (by decide) (by decide) dX11_init_62 ?_
  refine GC_dup dX11_init_65 rfl ?_
  have w6 : wlt 29 (SCs 27) := (w5.mono (by decide)).app (cwX4_lt.sh (o := 27))
  refine GC_init (n := 28) (S' := ((1, .inl (10, [6, 14, 22, 30, 0, 31, 3, 3, 3, 3, 3, 3])) :: SCs 27)) (Or.inr ⟨_, hM_X11_39⟩) hI_X4_init hC_X4_init hN_X4 nX4_init rfl (by decide) (by decide) (kX4_init (d := d + 2)) (f_z_1 _ _) (f_z_2 _ _) (wlt.cons ⟨by decide, s_lt_l (by decide)⟩ w5) cwX4_ge rfl rfl (by decide) (by decide) (by decide) (by decide) dX11_init_66 rfl (fun h7 y7 p7 q7 s7 => ?_)
  have o7 : fLt 28 h6 h7 := (fLt.z h6 28).tr q7
  refine GC_putr (k := 6) (j := 28) (q := (RX11, TX11, 12)) tyX11 rfl inX11 tyX11_ok nmX11 (by decide) (by decide) (fun _ => rfl) (fun _ => rfl) rfl rfl hF_X11_40 dX11_init_69 rfl ?_
  refine GC_w (S' := ((1, .inl (10, [6, 14, 22, 30, 0, 31, 32, 3, 3, 3, 3, 3])) :: SCs 27)) rfl ?_
  refine GC_aload_n 0 rfl dX11_init_72 rfl ?_
  refine GC_new (ci := 7) (n := 29) (q := (RX8, TX8, 5)) (fds := [3, 3, 3, 3, 3]) tyX8 (f_t 161 (by decide +kernel) rfl) (f_t 162 (by decide +kernel) rfl) hN_X8 rfl inX8 tyX8_ok (by decide +kernel) (by decide) (wlt.cons ⟨by decide, s_lt_l (by decide)⟩ w6) rfl rfl (by decide) (by decide) (by decide) dX11_init_73 ?_
  refine GC_dup dX11_init_76 rfl ?_
  have w7 : wlt 37 (SCs 35) := (w6.mono (by decide)).app (cwX8_lt.sh (o := 28))
  refine GC_init (n := 29) (S' := ((1, .inl (10, [6, 14, 22, 30, 0, 31, 32, 3, 3, 3, 3, 3])) :: SCs 35)) (Or.inr ⟨_, hM_X11_46⟩) hI_X8_init hC_X8_init hN_X8 nX8_init rfl (by decide) (by decide) (kX8_init (d := d + 1)) (f_z_1 _ _) (f_z_2 _ _) (wlt.cons ⟨by decide, s_lt_l (by decide)⟩ w6) cwX8_ge rfl rfl (by decide) (by decide) (by decide) (by decide) dX11_init_77 rfl (fun h8 y8 p8 q8 s8 => ?_)
  have o8 : fLt 29 h7 h8 := (fLt.z h7 29).tr q8
  refine GC_putr (k := 7) (j := 29) (q := (RX11, TX11, 12)) tyX11 rfl inX11 tyX11_ok nmX11 (by decide) (by decide) (fun _ => rfl) (fun _ => rfl) rfl rfl hF_X11_47 dX11_init_80 rfl ?_
  refine GC_w (S' := ((1, .inl (10, [6, 14, 22, 30, 0, 31, 32, 33, 3, 3, 3, 3])) :: SCs 35)) rfl ?_
  refine GC_aload_n 0 rfl dX11_init_83 rfl ?_
  refine GC_new (ci := 8) (n := 37) (q := (RX9, TX9, 5)) (fds := [3, 3, 3, 3, 0]) tyX9 (f_t 205 (by decide +kernel) rfl) (f_t 206 (by decide +kernel) rfl) hN_X9 rfl inX9 tyX9_ok (by decide +kernel) (by decide) (wlt.cons ⟨by decide, s_lt_l (by decide)⟩ w7) rfl rfl (by decide) (by decide) (by decide) dX11_init_84 ?_
  refine GC_dup dX11_init_87 rfl ?_
  have w8 : wlt 42 (SCs 40) := (w7.mono (by decide)).app (cwX9_lt.sh (o := 36))
  refine GC_init (n := 37) (S' := ((1, .inl (10, [6, 14, 22, 30, 0, 31, 32, 33, 3, 3, 3, 3])) :: SCs 40)) (Or.inr ⟨_, hM_X11_53⟩) hI_X9_init hC_X9_init hN_X9 nX9_init rfl (by decide) (by decide) (kX9_init (d := d + 1)) (f_z_1 _ _) (f_z_2 _ _) (wlt.cons ⟨by decide, s_lt_l (by decide)⟩ w7) cwX9_ge rfl rfl (by decide) (by decide) (by decide) (by decide) dX11_init_88 rfl (fun h9 y9 p9 q9 s9 => ?_)
  have o9 : fLt 37 h8 h9 := (fLt.z h8 37).tr q9
  refine GC_putr (k := 8) (j := 37) (q := (RX11, TX11, 12)) tyX11 rfl inX11 tyX11_ok nmX11 (by decide) (by decide) (fun _ => rfl) (fun _ => rfl) rfl rfl hF_X11_54 dX11_init_91 rfl ?_
  refine GC_w (S' := ((1, .inl (10, [6, 14, 22, 30, 0, 31, 32, 33, 41, 3, 3, 3])) :: SCs 40)) rfl ?_
  refine GC_aload_n 0 rfl dX11_init_94 rfl ?_
  refine GC_new (ci := 1) (n := 42) (q := (RX1, TX1, 7)) (fds := [3, 3, 3, 3, 3, 1, 2]) tyX1 (f_t 233 (by decide +kernel) rfl) (f_t 234 (by decide +kernel) rfl) hN_X1 rfl inX1 tyX1_ok (by decide +kernel) (by decide) (wlt.cons ⟨by decide, s_lt_l (by decide)⟩ w8) rfl rfl (by decide) (by decide) (by decide) dX11_init_95 ?_
  refine GC_dup dX11_init_98 rfl ?_
  have w9 : wlt 54 (SCs 52) := by
    have w0 := (w8.mono (by decide : 42 ≤ 54)).app (cwX1_lt.sh (o := 41))
    rw [cwO_eq2] at w0
    exact w0
  refine GC_init (n := 42) (S' := ((1, .inl (10, [6, 14, 22, 30, 0, 31, 32, 33, 41, 3, 3, 3])) :: SCs 52)) (Or.inr ⟨_, hM_X11_60⟩) hI_X1_init hC_X1_init hN_X1 nX1_init rfl (by decide) (by decide) (kX1_init (d := d)) (f_z_1 _ _) (f_z_2 _ _) (wlt.cons ⟨by decide, s_lt_l (by decide)⟩ w8) cwX1_ge rfl rfl (by decide) (by decide) (by decide) (by decide) dX11_init_99 (cwO_eq _) (fun h10 y10 p10 q10 s10 => ?_)
  have o10 : fLt 42 h9 h10 := (fLt.z h9 42).tr q10
  refine GC_putr (k := 9) (j := 42) (q := (RX11, TX11, 12)) tyX11 rfl inX11 tyX11_ok nmX11 (by decide) (by decide) (fun _ => rfl) (fun _ => rfl) rfl rfl hF_X11_61 dX11_init_102 rfl ?_
  refine GC_w (S' := ((1, .inl (10, [6, 14, 22, 30, 0, 31, 32, 33, 41, 46, 3, 3])) :: SCs 52)) rfl ?_
  refine GC_aload_n 0 rfl dX11_init_105 rfl ?_
  refine GC_new (ci := 6) (n := 54) (q := (RX7, TX7, 11)) (fds := [3, 3, 3, 3, 3, 3, 3, 3, 1, 1, 2]) tyX7 (f_t 269 (by decide +kernel) rfl) (f_t 270 (by decide +kernel) rfl) hN_X7 rfl inX7 tyX7_ok (by decide +kernel) (by decide) (wlt.cons ⟨by decide, s_lt_l (by decide)⟩ w9) rfl rfl (by decide) (by decide) (by decide) dX11_init_106 ?_
  refine GC_dup dX11_init_109 rfl ?_
  have w10 : wlt 65 (SCs 63) := (w9.mono (by decide)).app (cwX7_lt.sh (o := 53))
  refine GC_init (n := 54) (S' := ((1, .inl (10, [6, 14, 22, 30, 0, 31, 32, 33, 41, 46, 3, 3])) :: SCs 63)) (Or.inl hL_X11_67) hI_X7_init hC_X7_init hN_X7 nX7_init rfl (by decide) (by decide) (kX7_init (d := d + 1)) (f_z_1 _ _) (f_z_2 _ _) (wlt.cons ⟨by decide, s_lt_l (by decide)⟩ w9) cwX7_ge rfl rfl (by decide) (by decide) (by decide) (by decide) dX11_init_110 rfl (fun h11 y11 p11 q11 s11 => ?_)
  have o11 : fLt 54 h10 h11 := (fLt.z h10 54).tr q11
  refine GC_putr (k := 10) (j := 54) (q := (RX11, TX11, 12)) tyX11 rfl inX11 tyX11_ok nmX11 (by decide) (by decide) (fun _ => rfl) (fun _ => rfl) rfl rfl hF_X11_68 dX11_init_113 rfl ?_
  refine GC_w (S' := ((1, .inl (10, [6, 14, 22, 30, 0, 31, 32, 33, 41, 46, 58, 3])) :: SCs 63)) rfl ?_
  refine GC_aload_n 0 rfl dX11_init_116 rfl ?_
  refine GC_new (ci := 5) (n := 65) (q := (RX6, TX6, 6)) (fds := [3, 3, 3, 3, 1, 0]) tyX6 (f_t 321 (by decide +kernel) rfl) (f_t 322 (by decide +kernel) rfl) hN_X6 rfl inX6 tyX6_ok (by decide +kernel) (by decide) (wlt.cons ⟨by decide, s_lt_l (by decide)⟩ w10) rfl rfl (by decide) (by decide) (by decide) dX11_init_117 ?_
  refine GC_dup dX11_init_120 rfl ?_
  have w11 : wlt 86 (SCs 84) := (w10.mono (by decide)).app (cwX6_lt.sh (o := 64))
  refine GC_init (n := 65) (S' := ((1, .inl (10, [6, 14, 22, 30, 0, 31, 32, 33, 41, 46, 58, 3])) :: SCs 84)) (Or.inr ⟨_, hM_X11_74⟩) hI_X6_init hC_X6_init hN_X6 nX6_init rfl (by decide) (by decide) (kX6_init (d := d)) (f_z_1 _ _) (f_z_2 _ _) (wlt.cons ⟨by decide, s_lt_l (by decide)⟩ w10) cwX6_ge rfl rfl (by decide) (by decide) (by decide) (by decide) dX11_init_121 rfl (fun h12 y12 p12 q12 s12 => ?_)
  have o12 : fLt 65 h11 h12 := (fLt.z h11 65).tr q12
  refine GC_putr (k := 11) (j := 65) (q := (RX11, TX11, 12)) tyX11 rfl inX11 tyX11_ok nmX11 (by decide) (by decide) (fun _ => rfl) (fun _ => rfl) rfl rfl hF_X11_75 dX11_init_124 rfl ?_
  refine GC_w (S' := ((1, .inl (10, [6, 14, 22, 30, 0, 31, 32, 33, 41, 46, 58, 69])) :: SCs 84)) rfl ?_
  refine GC_vret rfl dX11_init_127 rfl rfl rfl ?_
  have t11 : fLt 65 h11 h12 := o12
  have t10 : fLt 54 h10 h12 := o11.tr (t11.mono (by decide))
  have t9 : fLt 42 h9 h12 := o10.tr (t10.mono (by decide))
  have t8 : fLt 37 h8 h12 := o9.tr (t9.mono (by decide))
  have t7 : fLt 29 h7 h12 := o8.tr (t8.mono (by decide))
  have t6 : fLt 28 h6 h12 := o7.tr (t7.mono (by decide))
  have t5 : fLt 27 h5 h12 := o6.tr (t6.mono (by decide))
  have t4 : ∀ a, a < 27 → a ≠ 1 → fEq a h4 h12 := fun a ha a1 => by
    have x := t5 a ha
    rw [e5] at x
    exact ⟨x.1.trans (u_fi_o _ _ _ a1), x.2⟩
  have t3 : ∀ a, a < 26 → a ≠ 1 → fEq a h3 h12 := fun a ha a1 => (fEq.lt o4 ha).tr (t4 a (by omega) a1)
  have t2 : ∀ a, a < 18 → a ≠ 1 → fEq a h2 h12 := fun a ha a1 => (fEq.lt o3 ha).tr (t3 a (by omega) a1)
  have t1 : ∀ a, a < 10 → a ≠ 1 → fEq a h1 h12 := fun a ha a1 => (fEq.lt o2 ha).tr (t2 a (by omega) a1)
  have b1 : PcOk h1 2 3 4 5 6 7 8 9 pg0 := p1.1.sh s1
  have c1 : PcZ h1 7 8 9 := p1.2.2.sh s1
  have c2 : PcZ h2 15 16 17 := p2.2.2.sh s2
  have c3 : PcZ h3 23 24 25 := p3.2.2.sh s3
  have m1 : ∀ {L : List Nat} {n : Nat}, L.all (fun i => decide (i < n ∧ i ≠ 1)) = true → ∀ i ∈ L, i < n ∧ i ≠ 1 := fun q i hi => of_decide_eq_true (List.all_eq_true.mp q i hi)
  have k10 : h12.1 42 = y10.1 1 := ((t10 42 (by decide)).1).trans (s10 1 (by decide)).1
  have k11 : h12.1 54 = y11.1 1 := ((t11 54 (by decide)).1).trans (s11 1 (by decide)).1
  have k12 : h12.1 65 = y12.1 1 := (s12 1 (by decide)).1
  refine ⟨⟨⟨?_, fun i hi => absurd hi (Nat.not_lt_zero i)⟩, b1.eq (fun i hi => ?_), ?_, ?_, c1.eq (fun i hi => ?_), c2.eq (fun i hi => ?_), c3.eq (fun i hi => ?_)⟩, ⟨⟨?_, ?_, ?_, ?_, ?_⟩, ?_, ?_⟩, fun z => ?_, fun z => ?_, fun R hR z => ?_⟩
  · rw [(t5 1 (by decide)).1, e5, u_fi_s]; rfl
  · have := m1 (L := [2, 3, 4, 5, 6, 7, 8, 9]) (n := 10) (by decide) i hi
    exact t1 i this.1 this.2
  · show h12.1 10 7 = 0
    rw [(t2 10 (by decide) (by decide)).1, show h2.1 10 = y2.1 1 from (s2 1 (by decide)).1]
    exact p2.2.1
  · show h12.1 18 7 = 0
    rw [(t3 18 (by decide) (by decide)).1, show h3.1 18 = y3.1 1 from (s3 1 (by decide)).1]
    exact p3.2.1
  · have := m1 (L := [7, 8, 9]) (n := 10) (by decide) i hi
    exact t1 i this.1 this.2
  · have := m1 (L := [15, 16, 17]) (n := 18) (by decide) i hi
    exact t2 i this.1 this.2
  · have := m1 (L := [23, 24, 25]) (n := 26) (by decide) i hi
    exact t3 i this.1 this.2
  · rw [(t7 28 (by decide)).1, show h7.1 28 = y7.1 1 from (s7 1 (by decide)).1]; exact p7
  · rw [(t8 35 (by decide)).1, show h8.1 35 = y8.1 7 from (s8 7 (by decide)).1]; exact p8
  · rw [(t9 39 (by decide)).1, show h9.1 39 = y9.1 3 from (s9 3 (by decide)).1]; exact p9
  · rw [(t10 45 (by decide)).1, show h10.1 45 = y10.1 4 from (s10 4 (by decide)).1]; exact p10.2
  · rw [show h12.1 72 = y12.1 8 from (s12 8 (by decide)).1]; exact p12.2
  · rw [(t11 58 (by decide)).1, show h11.1 58 = y11.1 5 from (s11 5 (by decide)).1]; exact p11.2.1
  · rw [(t11 59 (by decide)).1, show h11.1 59 = y11.1 6 from (s11 6 (by decide)).1]; exact p11.2.2
  · rw [k10] at z; exact absurd p10.1 z
  · rw [k11] at z; exact absurd p11.1 z
  · rw [k12, p12.1] at z
    rcases (show R = 0 ∨ R = 1 ∨ R = 2 by omega) with rfl | rfl | rfl <;> exact absurd z (by decide)

/-! ===== the constructors ===== -/
theorem wlt.nl (n : Nat) : wlt n [] := fun x hx => absurd hx List.not_mem_nil
theorem s_lt_l {n ci : Nat} {fds : List Nat} (h : ∀ fd ∈ fds, fd < n + 4) : s_lt n (.inl (ci, fds)) := h
theorem f_z_1 (h : fH) (n : Nat) : (f_z h n).1 n = fun _ => 0 := by simp [f_z]
theorem f_z_2 (h : fH) (n : Nat) : (f_z h n).2.1 n = fun _ => 0 := by simp [f_z]
theorem wlt_mu (n : Nat) : wlt (n + 3) [(n, shII 2 (gmu n)), (n + 1, shI 7), (n + 2, shI 7)] := by
  refine wlt.cons ⟨by omega, Or.inr (fun i => ?_)⟩ (wlt.cons ⟨by show n + 1 < n + 3; omega, Or.inl (by decide)⟩ (wlt.cons ⟨by show n + 2 < n + 3; omega, Or.inl (by decide)⟩ (wlt.nl _)))
  unfold gmu
  split <;> omega
section GNM
variable {Y : fM} {d C N : Nat} {S1 S S' : fW} {Post : fH → Prop} {cs us pc : Nat} {lv : List (Nat × Value)} {st : List Value} {h : fH}
theorem GC_nm (k : ∀ h' : fH, h' = h → GC Y d C N S1 Post S cs us pc lv st h') : GC Y d C N S1 Post S cs us pc lv st h := k h rfl
theorem GC_w (e : S = S') (k : GC Y d C N S1 Post S' cs us pc lv st h) : GC Y d C N S1 Post S cs us pc lv st h := by rw [e]; exact k
end GNM
/-- the heaps agree at a cell -/
def fEq (a : Nat) (h k : fH) : Prop := k.1 a = h.1 a ∧ k.2.1 a = h.2.1 a ∧ k.2.2.1 a = h.2.2.1 a ∧ k.2.2.2 a = h.2.2.2 a
theorem fEq.lt {n a : Nat} {h k : fH} (o : fLt n h k) (ha : a < n) : fEq a h k := o a ha
theorem fEq.tr {a : Nat} {h k l : fH} (x : fEq a h k) (y : fEq a k l) : fEq a h l := ⟨y.1.trans x.1, y.2.1.trans x.2.1, y.2.2.1.trans x.2.2.1, y.2.2.2.trans x.2.2.2⟩
theorem TxOk.eq {h k : fH} {r a b c n : Nat} {t : Nat → Int32} (x : TxOk h r a b c t n) (e1 : fEq r h k) (e2 : fEq a h k) (e3 : fEq b h k) (e4 : fEq c h k) : TxOk k r a b c t n := by
  obtain ⟨x1, x2, x3, x4, x5⟩ := x
  exact ⟨by rw [e1.1]; exact x1, x2, fun i hi => by rw [e2.2.2.1]; exact x3 i hi, fun i hi => by rw [e3.2.2.1]; exact x4 i hi, fun i hi => by rw [e4.2.2.1]; exact x5 i hi⟩
theorem TxOk.sh {k z : fH} {r a b c n n0 : Nat} {t : Nat → Int32} (x : TxOk z r a b c t n) (s : fShf n0 k z) (h1 : 1 ≤ r) (h2 : 1 ≤ a) (h3 : 1 ≤ b) (h4 : 1 ≤ c) : TxOk k (r + (n0 - 1)) (a + (n0 - 1)) (b + (n0 - 1)) (c + (n0 - 1)) t n := by
  obtain ⟨x1, x2, x3, x4, x5⟩ := x
  exact ⟨by rw [(s r h1).1]; exact x1, x2, fun i hi => by rw [(s a h2).2.2.1]; exact x3 i hi, fun i hi => by rw [(s b h3).2.2.1]; exact x4 i hi, fun i hi => by rw [(s c h4).2.2.1]; exact x5 i hi⟩
def num1 : Nat → Int32 := fun j => if j < 5 then 1 else 0
def pg0 : pgP := ([97], num1, fun _ => 0, fun _ => 0, 0, 3, 0)
theorem wge.cons {x : Nat × fS} {T : fW} (a : 1 ≤ x.1 ∧ s_ge x.2) (b : wge T) : wge (x :: T) := fun y hy => by
  rcases List.mem_cons.mp hy with rfl | h
  · exact a
  · exact b y h
theorem wge.nl : wge [] := fun x hx => absurd hx List.not_mem_nil
theorem s_ge_l {ci : Nat} {fds : List Nat} (h : ∀ fd ∈ fds, fd ≠ 4) : s_ge (.inl (ci, fds)) := h
theorem dX0_init_0 : decode cX0_init 0 = .ok (.aload_n 0, 1) := by decide +kernel
theorem dX0_init_1 : decode cX0_init 1 = .ok (.invokespecial 3, 3) := by decide +kernel
theorem dX0_init_4 : decode cX0_init 4 = .ok (.aload_n 0, 1) := by decide +kernel
theorem dX0_init_5 : decode cX0_init 5 = .ok (.bipush 13, 2) := by decide +kernel
theorem dX0_init_7 : decode cX0_init 7 = .ok (.newarray .long, 2) := by decide +kernel
theorem dX0_init_9 : decode cX0_init 9 = .ok (.putfield 9, 3) := by decide +kernel
theorem dX0_init_12 : decode cX0_init 12 = .ok (.aload_n 0, 1) := by decide +kernel
theorem dX0_init_13 : decode cX0_init 13 = .ok (.bipush 13, 2) := by decide +kernel
theorem dX0_init_15 : decode cX0_init 15 = .ok (.newarray .long, 2) := by decide +kernel
theorem dX0_init_17 : decode cX0_init 17 = .ok (.putfield 15, 3) := by decide +kernel
theorem dX0_init_20 : decode cX0_init 20 = .ok (.return_, 1) := by decide +kernel
def cwX0 : fW := [(1, shX0 2 3), (2, shJ 13), (3, shJ 13)]
theorem cwX0_lt : wlt 4 cwX0 := (wlt.cons ⟨by decide, s_lt_l (by decide)⟩ (wlt.cons ⟨by decide, Or.inl (by decide)⟩ (wlt.cons ⟨by decide, Or.inl (by decide)⟩ (wlt.nl _))))
theorem cwX0_ge : wge cwX0 := (wge.cons ⟨by decide, s_ge_l (by decide)⟩ (wge.cons ⟨by decide, Or.inl (by decide)⟩ (wge.cons ⟨by decide, Or.inl (by decide)⟩ wge.nl)))
theorem kX0_init {d : Nat} : OkC (d + 1) 2 26 mX0_init 0 [3, 3] cwX0 (fun _ => True) := by
  refine OkC.of (by decide) rfl (by decide) (by decide) (GC_nm (fun h0 e0 => ?_))
  refine GC_aload_n 0 rfl dX0_init_0 rfl ?_
  refine GC_obj hL_X0_3 dX0_init_1 ?_
  refine GC_aload_n 0 rfl dX0_init_4 rfl ?_
  refine GC_bipush (v := 13) dX0_init_5 (by decide) ?_
  refine GC_newaJ (n := 2) (M := 13) (f_t 124 (by decide +kernel) rfl) (by decide) (by decide) (by decide) (wlt.cons ⟨by decide, s_lt_l (by decide)⟩ (wlt.nl 2)) rfl rfl (by decide) (by decide) (by decide) dX0_init_7 (fun h1 o1 z1 => ?_)
  have w1 : wlt 3 ([(2, shJ 13)]) := ((wlt.nl 2).mono (by decide)).app (wlt.cons ⟨by decide, Or.inl (by decide)⟩ (wlt.nl 3))
  refine GC_w (S' := ((1, .inl (0, [3, 3])) :: [(2, shJ 13)])) rfl ?_
  refine GC_putr (k := 0) (j := 2) (q := (RX0, TX0, 2)) tyX0 rfl inX0 tyX0_ok nmX0 (by decide) (by decide) (fun _ => rfl) (fun _ => rfl) rfl rfl hF_X0_9 dX0_init_9 rfl ?_
  refine GC_w (S' := ((1, .inl (0, [6, 3])) :: [(2, shJ 13)])) rfl ?_
  refine GC_aload_n 0 rfl dX0_init_12 rfl ?_
  refine GC_bipush (v := 13) dX0_init_13 (by decide) ?_
  refine GC_newaJ (n := 3) (M := 13) (f_t 124 (by decide +kernel) rfl) (by decide) (by decide) (by decide) (wlt.cons ⟨by decide, s_lt_l (by decide)⟩ w1) rfl rfl (by decide) (by decide) (by decide) dX0_init_15 (fun h2 o2 z2 => ?_)
  have w2 : wlt 4 ([(2, shJ 13), (3, shJ 13)]) := (w1.mono (by decide)).app (wlt.cons ⟨by decide, Or.inl (by decide)⟩ (wlt.nl 4))
  refine GC_w (S' := ((1, .inl (0, [6, 3])) :: [(2, shJ 13), (3, shJ 13)])) rfl ?_
  refine GC_putr (k := 1) (j := 3) (q := (RX0, TX0, 2)) tyX0 rfl inX0 tyX0_ok nmX0 (by decide) (by decide) (fun _ => rfl) (fun _ => rfl) rfl rfl hF_X0_15 dX0_init_17 rfl ?_
  refine GC_w (S' := ((1, .inl (0, [6, 7])) :: [(2, shJ 13), (3, shJ 13)])) rfl ?_
  refine GC_vret rfl dX0_init_20 rfl rfl rfl ?_
  exact trivial
theorem dX3_init_0 : decode cX3_init 0 = .ok (.aload_n 0, 1) := by decide +kernel
theorem dX3_init_1 : decode cX3_init 1 = .ok (.invokespecial 3, 3) := by decide +kernel
theorem dX3_init_4 : decode cX3_init 4 = .ok (.aload_n 0, 1) := by decide +kernel
theorem dX3_init_5 : decode cX3_init 5 = .ok (.lconst 0, 1) := by decide +kernel
theorem dX3_init_6 : decode cX3_init 6 = .ok (.putfield 9, 3) := by decide +kernel
theorem dX3_init_9 : decode cX3_init 9 = .ok (.aload_n 0, 1) := by decide +kernel
theorem dX3_init_10 : decode cX3_init 10 = .ok (.lconst 1, 1) := by decide +kernel
theorem dX3_init_11 : decode cX3_init 11 = .ok (.putfield 15, 3) := by decide +kernel
theorem dX3_init_14 : decode cX3_init 14 = .ok (.aload_n 0, 1) := by decide +kernel
theorem dX3_init_15 : decode cX3_init 15 = .ok (.iconst 0, 1) := by decide +kernel
theorem dX3_init_16 : decode cX3_init 16 = .ok (.putfield 18, 3) := by decide +kernel
theorem dX3_init_19 : decode cX3_init 19 = .ok (.return_, 1) := by decide +kernel
def cwX3 : fW := [(1, shX3)]
theorem cwX3_lt : wlt 2 cwX3 := (wlt.cons ⟨by decide, s_lt_l (by decide)⟩ (wlt.nl _))
theorem cwX3_ge : wge cwX3 := (wge.cons ⟨by decide, s_ge_l (by decide)⟩ wge.nl)
theorem kX3_init {d : Nat} : OkC (d + 1) 0 0 mX3_init 3 [1, 1, 0] cwX3 (fun _ => True) := by
  refine OkC.of (by decide) rfl (by decide) (by decide) (GC_nm (fun h0 e0 => ?_))
  refine GC_aload_n 0 rfl dX3_init_0 rfl ?_
  refine GC_obj hL_X3_3 dX3_init_1 ?_
  refine GC_aload_n 0 rfl dX3_init_4 rfl ?_
  refine GC_lconst (v := 0) dX3_init_5 (by decide) ?_
  refine GC_putl (r := 1) (k := 0) (q := (RX3, TX3, 3)) tyX3 List.mem_cons_self rfl inX3 tyX3_ok nmX3 (by decide) rfl rfl rfl hF_X3_9 dX3_init_6 (GC_nm (fun h1 e1 => ?_))
  refine GC_aload_n 0 rfl dX3_init_9 rfl ?_
  refine GC_lconst (v := 1) dX3_init_10 (by decide) ?_
  refine GC_putl (r := 1) (k := 1) (q := (RX3, TX3, 3)) tyX3 List.mem_cons_self rfl inX3 tyX3_ok nmX3 (by decide) rfl rfl rfl hF_X3_15 dX3_init_11 (GC_nm (fun h2 e2 => ?_))
  refine GC_aload_n 0 rfl dX3_init_14 rfl ?_
  refine GC_iconst (v := 0) dX3_init_15 (by decide) ?_
  refine GC_puti (r := 1) (k := 2) (q := (RX3, TX3, 3)) tyX3 List.mem_cons_self rfl inX3 tyX3_ok nmX3 (by decide) rfl rfl rfl hF_X3_18 dX3_init_16 (GC_nm (fun h3 e3 => ?_))
  refine GC_vret rfl dX3_init_19 rfl rfl rfl ?_
  exact trivial
theorem dX4_init_0 : decode cX4_init 0 = .ok (.aload_n 0, 1) := by decide +kernel
theorem dX4_init_1 : decode cX4_init 1 = .ok (.invokespecial 3, 3) := by decide +kernel
theorem dX4_init_4 : decode cX4_init 4 = .ok (.aload_n 0, 1) := by decide +kernel
theorem dX4_init_5 : decode cX4_init 5 = .ok (.iconst 3, 1) := by decide +kernel
theorem dX4_init_6 : decode cX4_init 6 = .ok (.putfield 9, 3) := by decide +kernel
theorem dX4_init_9 : decode cX4_init 9 = .ok (.aload_n 0, 1) := by decide +kernel
theorem dX4_init_10 : decode cX4_init 10 = .ok (.iconst 0, 1) := by decide +kernel
theorem dX4_init_11 : decode cX4_init 11 = .ok (.putfield 15, 3) := by decide +kernel
theorem dX4_init_14 : decode cX4_init 14 = .ok (.aload_n 0, 1) := by decide +kernel
theorem dX4_init_15 : decode cX4_init 15 = .ok (.iconst 0, 1) := by decide +kernel
theorem dX4_init_16 : decode cX4_init 16 = .ok (.putfield 18, 3) := by decide +kernel
theorem dX4_init_19 : decode cX4_init 19 = .ok (.return_, 1) := by decide +kernel
def cwX4 : fW := [(1, shX4)]
theorem cwX4_lt : wlt 2 cwX4 := (wlt.cons ⟨by decide, s_lt_l (by decide)⟩ (wlt.nl _))
theorem cwX4_ge : wge cwX4 := (wge.cons ⟨by decide, s_ge_l (by decide)⟩ wge.nl)
theorem kX4_init {d : Nat} : OkC (d + 1) 0 0 mX4_init 4 [0, 0, 2] cwX4 (fun h => h.1 1 2 = bI false) := by
  refine OkC.of (by decide) rfl (by decide) (by decide) (GC_nm (fun h0 e0 => ?_))
  refine GC_aload_n 0 rfl dX4_init_0 rfl ?_
  refine GC_obj hL_X4_3 dX4_init_1 ?_
  refine GC_aload_n 0 rfl dX4_init_4 rfl ?_
  refine GC_iconst (v := 3) dX4_init_5 (by decide) ?_
  refine GC_puti (r := 1) (k := 0) (q := (RX4, TX4, 3)) tyX4 List.mem_cons_self rfl inX4 tyX4_ok nmX4 (by decide) rfl rfl rfl hF_X4_9 dX4_init_6 (GC_nm (fun h1 e1 => ?_))
  refine GC_aload_n 0 rfl dX4_init_9 rfl ?_
  refine GC_iconst (v := 0) dX4_init_10 (by decide) ?_
  refine GC_puti (r := 1) (k := 1) (q := (RX4, TX4, 3)) tyX4 List.mem_cons_self rfl inX4 tyX4_ok nmX4 (by decide) rfl rfl rfl hF_X4_15 dX4_init_11 (GC_nm (fun h2 e2 => ?_))
  refine GC_aload_n 0 rfl dX4_init_14 rfl ?_
  refine GC_iconst (v := 0) dX4_init_15 (by decide) ?_
  refine GC_putz (r := 1) (k := 2) (q := (RX4, TX4, 3)) tyX4 List.mem_cons_self rfl inX4 tyX4_ok nmX4 (by decide) rfl (by decide) rfl rfl hF_X4_18 dX4_init_16 (GC_nm (fun h3 e3 => ?_))
  refine GC_vret rfl dX4_init_19 rfl rfl rfl ?_
  exact (by rw [e3, u_fi_s]; rfl)
theorem dX10_init_0 : decode cX10_init 0 = .ok (.aload_n 0, 1) := by decide +kernel
theorem dX10_init_1 : decode cX10_init 1 = .ok (.invokespecial 3, 3) := by decide +kernel
theorem dX10_init_4 : decode cX10_init 4 = .ok (.aload_n 0, 1) := by decide +kernel
theorem dX10_init_5 : decode cX10_init 5 = .ok (.bipush 13, 2) := by decide +kernel
theorem dX10_init_7 : decode cX10_init 7 = .ok (.newarray .int, 2) := by decide +kernel
theorem dX10_init_9 : decode cX10_init 9 = .ok (.putfield 9, 3) := by decide +kernel
theorem dX10_init_12 : decode cX10_init 12 = .ok (.aload_n 0, 1) := by decide +kernel
theorem dX10_init_13 : decode cX10_init 13 = .ok (.bipush 13, 2) := by decide +kernel
theorem dX10_init_15 : decode cX10_init 15 = .ok (.newarray .int, 2) := by decide +kernel
theorem dX10_init_17 : decode cX10_init 17 = .ok (.putfield 15, 3) := by decide +kernel
theorem dX10_init_20 : decode cX10_init 20 = .ok (.aload_n 0, 1) := by decide +kernel
theorem dX10_init_21 : decode cX10_init 21 = .ok (.bipush 13, 2) := by decide +kernel
theorem dX10_init_23 : decode cX10_init 23 = .ok (.newarray .int, 2) := by decide +kernel
theorem dX10_init_25 : decode cX10_init 25 = .ok (.putfield 18, 3) := by decide +kernel
theorem dX10_init_28 : decode cX10_init 28 = .ok (.aload_n 0, 1) := by decide +kernel
theorem dX10_init_29 : decode cX10_init 29 = .ok (.getfield 9, 3) := by decide +kernel
theorem dX10_init_32 : decode cX10_init 32 = .ok (.iconst 0, 1) := by decide +kernel
theorem dX10_init_33 : decode cX10_init 33 = .ok (.bipush 97, 2) := by decide +kernel
theorem dX10_init_35 : decode cX10_init 35 = .ok (.iastore, 1) := by decide +kernel
theorem dX10_init_36 : decode cX10_init 36 = .ok (.aload_n 0, 1) := by decide +kernel
theorem dX10_init_37 : decode cX10_init 37 = .ok (.iconst 1, 1) := by decide +kernel
theorem dX10_init_38 : decode cX10_init 38 = .ok (.putfield 21, 3) := by decide +kernel
theorem dX10_init_41 : decode cX10_init 41 = .ok (.aload_n 0, 1) := by decide +kernel
theorem dX10_init_42 : decode cX10_init 42 = .ok (.invokevirtual 25, 3) := by decide +kernel
theorem dX10_init_45 : decode cX10_init 45 = .ok (.return_, 1) := by decide +kernel
def cwX10 : fW := [(1, shX10 2 3 4), (2, shI 13), (3, shI 13), (4, shI 13)]
theorem cwX10_lt : wlt 5 cwX10 := (wlt.cons ⟨by decide, s_lt_l (by decide)⟩ (wlt.cons ⟨by decide, Or.inl (by decide)⟩ (wlt.cons ⟨by decide, Or.inl (by decide)⟩ (wlt.cons ⟨by decide, Or.inl (by decide)⟩ (wlt.nl _)))))
theorem cwX10_ge : wge cwX10 := (wge.cons ⟨by decide, s_ge_l (by decide)⟩ (wge.cons ⟨by decide, Or.inl (by decide)⟩ (wge.cons ⟨by decide, Or.inl (by decide)⟩ (wge.cons ⟨by decide, Or.inl (by decide)⟩ wge.nl))))
theorem cwX10_tx : TxS cwX10 1 2 3 4 := ⟨⟨List.mem_of_getElem? (i := 0) rfl, List.mem_of_getElem? (i := 1) rfl, List.mem_of_getElem? (i := 2) rfl, List.mem_of_getElem? (i := 3) rfl⟩, by decide, by decide, by decide, by decide, by decide, by decide⟩
theorem kX10_init {d : Nat} : OkC (d + 2) 3 39 mX10_init 9 [3, 3, 3, 0] cwX10 (fun h => TxOk h 1 2 3 4 (rw' [97]) 1) := by
  refine OkC.of (by decide) rfl (by decide) (by decide) (GC_nm (fun h0 e0 => ?_))
  refine GC_aload_n 0 rfl dX10_init_0 rfl ?_
  refine GC_obj hL_X10_3 dX10_init_1 ?_
  refine GC_aload_n 0 rfl dX10_init_4 rfl ?_
  refine GC_bipush (v := 13) dX10_init_5 (by decide) ?_
  refine GC_newaI (n := 2) (M := 13) (f_t 78 (by decide +kernel) rfl) (by decide) (by decide) (by decide) (wlt.cons ⟨by decide, s_lt_l (by decide)⟩ (wlt.nl 2)) rfl rfl (by decide) (by decide) (by decide) dX10_init_7 (fun h1 o1 z1 => ?_)
  have w1 : wlt 3 ([(2, shI 13)]) := ((wlt.nl 2).mono (by decide)).app (wlt.cons ⟨by decide, Or.inl (by decide)⟩ (wlt.nl 3))
  refine GC_w (S' := ((1, .inl (9, [3, 3, 3, 0])) :: [(2, shI 13)])) rfl ?_
  refine GC_putr (k := 0) (j := 2) (q := (RX10, TX10, 4)) tyX10 rfl inX10 tyX10_ok nmX10 (by decide) (by decide) (fun _ => rfl) (fun _ => rfl) rfl rfl hF_X10_9 dX10_init_9 rfl ?_
  refine GC_w (S' := ((1, .inl (9, [6, 3, 3, 0])) :: [(2, shI 13)])) rfl ?_
  refine GC_aload_n 0 rfl dX10_init_12 rfl ?_
  refine GC_bipush (v := 13) dX10_init_13 (by decide) ?_
  refine GC_newaI (n := 3) (M := 13) (f_t 78 (by decide +kernel) rfl) (by decide) (by decide) (by decide) (wlt.cons ⟨by decide, s_lt_l (by decide)⟩ w1) rfl rfl (by decide) (by decide) (by decide) dX10_init_15 (fun h2 o2 z2 => ?_)
  have w2 : wlt 4 ([(2, shI 13), (3, shI 13)]) := (w1.mono (by decide)).app (wlt.cons ⟨by decide, Or.inl (by decide)⟩ (wlt.nl 4))
  refine GC_w (S' := ((1, .inl (9, [6, 3, 3, 0])) :: [(2, shI 13), (3, shI 13)])) rfl ?_
  refine GC_putr (k := 1) (j := 3) (q := (RX10, TX10, 4)) tyX10 rfl inX10 tyX10_ok nmX10 (by decide) (by decide) (fun _ => rfl) (fun _ => rfl) rfl rfl hF_X10_15 dX10_init_17 rfl ?_
  refine GC_w (S' := ((1, .inl (9, [6, 7, 3, 0])) :: [(2, shI 13), (3, shI 13)])) rfl ?_
  refine GC_aload_n 0 rfl dX10_init_20 rfl ?_
  refine GC_bipush (v := 13) dX10_init_21 (by decide) ?_
  refine GC_newaI (n := 4) (M := 13) (f_t 78 (by decide +kernel) rfl) (by decide) (by decide) (by decide) (wlt.cons ⟨by decide, s_lt_l (by decide)⟩ w2) rfl rfl (by decide) (by decide) (by decide) dX10_init_23 (fun h3 o3 z3 => ?_)
  have w3 : wlt 5 ([(2, shI 13), (3, shI 13), (4, shI 13)]) := (w2.mono (by decide)).app (wlt.cons ⟨by decide, Or.inl (by decide)⟩ (wlt.nl 5))
  refine GC_w (S' := ((1, .inl (9, [6, 7, 3, 0])) :: [(2, shI 13), (3, shI 13), (4, shI 13)])) rfl ?_
  refine GC_putr (k := 2) (j := 4) (q := (RX10, TX10, 4)) tyX10 rfl inX10 tyX10_ok nmX10 (by decide) (by decide) (fun _ => rfl) (fun _ => rfl) rfl rfl hF_X10_18 dX10_init_25 rfl ?_
  refine GC_w (S' := ((1, .inl (9, [6, 7, 8, 0])) :: [(2, shI 13), (3, shI 13), (4, shI 13)])) rfl ?_
  refine GC_aload_n 0 rfl dX10_init_28 rfl ?_
  refine GC_getr (k := 0) (j := 2) (q := (RX10, TX10, 4)) List.mem_cons_self rfl inX10 (by decide) rfl hF_X10_9 dX10_init_29 ?_
  refine GC_iconst (v := 0) dX10_init_32 (by decide) ?_
  refine GC_bipush (v := 97) dX10_init_33 (by decide) ?_
  refine GC_iast (List.mem_of_getElem? (i := 1) rfl) (vp_in_nI (n := 0) (by decide) (by decide)) dX10_init_35 (GC_nm (fun h4 e4 => ?_))
  refine GC_aload_n 0 rfl dX10_init_36 rfl ?_
  refine GC_iconst (v := 1) dX10_init_37 (by decide) ?_
  refine GC_puti (r := 1) (k := 3) (q := (RX10, TX10, 4)) tyX10 List.mem_cons_self rfl inX10 tyX10_ok nmX10 (by decide) rfl rfl rfl hF_X10_21 dX10_init_38 (GC_nm (fun h5 e5 => ?_))
  refine GC_aload_n 0 rfl dX10_init_41 rfl ?_
  refine GC_w (S' := cwX10) rfl ?_
  refine GC_callV (Z := mX10_findParts) (n := 0) hL_X10_25 hI_X10_findParts hS_X10_findParts hC_X10_findParts hN_X10 nX10_findParts (by decide) List.mem_cons_self (q := (RX10, TX10, 4)) rfl rfl (by decide) (by decide) dX10_init_42 (s_findParts (d := d) (n := 1) (t := rw' [97]) (o := fun i => 1 - i) (S := cwX10) (r := 1) (a := 2) (b := 3) (c := 4) cwX10_tx (by rw [e5, u_fi_s]; rfl) (by decide) (fun i hi => by rw [show i = 0 by omega, e5, u_fi_2, e4, u_ai_s]; rfl) ⟨rfl, rfl, fun i hi => by rw [show i = 0 by omega]; exact ⟨by decide, by decide⟩⟩) (fun h6 r6 => ?_)
  refine GC_vret rfl dX10_init_45 rfl rfl rfl ?_
  exact r6.1
theorem dX8_init_0 : decode cX8_init 0 = .ok (.aload_n 0, 1) := by decide +kernel
theorem dX8_init_1 : decode cX8_init 1 = .ok (.invokespecial 3, 3) := by decide +kernel
theorem dX8_init_4 : decode cX8_init 4 = .ok (.aload_n 0, 1) := by decide +kernel
theorem dX8_init_5 : decode cX8_init 5 = .ok (.bipush 13, 2) := by decide +kernel
theorem dX8_init_7 : decode cX8_init 7 = .ok (.newarray .long, 2) := by decide +kernel
theorem dX8_init_9 : decode cX8_init 9 = .ok (.putfield 9, 3) := by decide +kernel
theorem dX8_init_12 : decode cX8_init 12 = .ok (.aload_n 0, 1) := by decide +kernel
theorem dX8_init_13 : decode cX8_init 13 = .ok (.bipush 13, 2) := by decide +kernel
theorem dX8_init_15 : decode cX8_init 15 = .ok (.newarray .long, 2) := by decide +kernel
theorem dX8_init_17 : decode cX8_init 17 = .ok (.putfield 15, 3) := by decide +kernel
theorem dX8_init_20 : decode cX8_init 20 = .ok (.aload_n 0, 1) := by decide +kernel
theorem dX8_init_21 : decode cX8_init 21 = .ok (.new 18, 3) := by decide +kernel
theorem dX8_init_24 : decode cX8_init 24 = .ok (.dup, 1) := by decide +kernel
theorem dX8_init_25 : decode cX8_init 25 = .ok (.invokespecial 20, 3) := by decide +kernel
theorem dX8_init_28 : decode cX8_init 28 = .ok (.putfield 21, 3) := by decide +kernel
theorem dX8_init_31 : decode cX8_init 31 = .ok (.aload_n 0, 1) := by decide +kernel
theorem dX8_init_32 : decode cX8_init 32 = .ok (.new 25, 3) := by decide +kernel
theorem dX8_init_35 : decode cX8_init 35 = .ok (.dup, 1) := by decide +kernel
theorem dX8_init_36 : decode cX8_init 36 = .ok (.invokespecial 27, 3) := by decide +kernel
theorem dX8_init_39 : decode cX8_init 39 = .ok (.putfield 28, 3) := by decide +kernel
theorem dX8_init_42 : decode cX8_init 42 = .ok (.aload_n 0, 1) := by decide +kernel
theorem dX8_init_43 : decode cX8_init 43 = .ok (.new 32, 3) := by decide +kernel
theorem dX8_init_46 : decode cX8_init 46 = .ok (.dup, 1) := by decide +kernel
theorem dX8_init_47 : decode cX8_init 47 = .ok (.invokespecial 34, 3) := by decide +kernel
theorem dX8_init_50 : decode cX8_init 50 = .ok (.putfield 35, 3) := by decide +kernel
theorem dX8_init_53 : decode cX8_init 53 = .ok (.return_, 1) := by decide +kernel
def cwX8 : fW := [(1, shX8 2 3 4 7 8), (2, shJ 13), (3, shJ 13), (4, shX0 5 6), (5, shJ 13), (6, shJ 13), (7, shX4), (8, shX3)]
theorem cwX8_lt : wlt 9 cwX8 := (wlt.cons ⟨by decide, s_lt_l (by decide)⟩ (wlt.cons ⟨by decide, Or.inl (by decide)⟩ (wlt.cons ⟨by decide, Or.inl (by decide)⟩ (wlt.cons ⟨by decide, s_lt_l (by decide)⟩ (wlt.cons ⟨by decide, Or.inl (by decide)⟩ (wlt.cons ⟨by decide, Or.inl (by decide)⟩ (wlt.cons ⟨by decide, s_lt_l (by decide)⟩ (wlt.cons ⟨by decide, s_lt_l (by decide)⟩ (wlt.nl _)))))))))
theorem cwX8_ge : wge cwX8 := (wge.cons ⟨by decide, s_ge_l (by decide)⟩ (wge.cons ⟨by decide, Or.inl (by decide)⟩ (wge.cons ⟨by decide, Or.inl (by decide)⟩ (wge.cons ⟨by decide, s_ge_l (by decide)⟩ (wge.cons ⟨by decide, Or.inl (by decide)⟩ (wge.cons ⟨by decide, Or.inl (by decide)⟩ (wge.cons ⟨by decide, s_ge_l (by decide)⟩ (wge.cons ⟨by decide, s_ge_l (by decide)⟩ wge.nl))))))))
theorem kX8_init {d : Nat} : OkC (d + 2) 7 60 mX8_init 7 [3, 3, 3, 3, 3] cwX8 (fun h => h.1 7 2 = bI false) := by
  refine OkC.of (by decide) rfl (by decide) (by decide) (GC_nm (fun h0 e0 => ?_))
  refine GC_aload_n 0 rfl dX8_init_0 rfl ?_
  refine GC_obj hL_X8_3 dX8_init_1 ?_
  refine GC_aload_n 0 rfl dX8_init_4 rfl ?_
  refine GC_bipush (v := 13) dX8_init_5 (by decide) ?_
  refine GC_newaJ (n := 2) (M := 13) (f_t 124 (by decide +kernel) rfl) (by decide) (by decide) (by decide) (wlt.cons ⟨by decide, s_lt_l (by decide)⟩ (wlt.nl 2)) rfl rfl (by decide) (by decide) (by decide) dX8_init_7 (fun h1 o1 z1 => ?_)
  have w1 : wlt 3 ([(2, shJ 13)]) := ((wlt.nl 2).mono (by decide)).app (wlt.cons ⟨by decide, Or.inl (by decide)⟩ (wlt.nl 3))
  refine GC_w (S' := ((1, .inl (7, [3, 3, 3, 3, 3])) :: [(2, shJ 13)])) rfl ?_
  refine GC_putr (k := 0) (j := 2) (q := (RX8, TX8, 5)) tyX8 rfl inX8 tyX8_ok nmX8 (by decide) (by decide) (fun _ => rfl) (fun _ => rfl) rfl rfl hF_X8_9 dX8_init_9 rfl ?_
  refine GC_w (S' := ((1, .inl (7, [6, 3, 3, 3, 3])) :: [(2, shJ 13)])) rfl ?_
  refine GC_aload_n 0 rfl dX8_init_12 rfl ?_
  refine GC_bipush (v := 13) dX8_init_13 (by decide) ?_
  refine GC_newaJ (n := 3) (M := 13) (f_t 124 (by decide +kernel) rfl) (by decide) (by decide) (by decide) (wlt.cons ⟨by decide, s_lt_l (by decide)⟩ w1) rfl rfl (by decide) (by decide) (by decide) dX8_init_15 (fun h2 o2 z2 => ?_)
  have w2 : wlt 4 ([(2, shJ 13), (3, shJ 13)]) := (w1.mono (by decide)).app (wlt.cons ⟨by decide, Or.inl (by decide)⟩ (wlt.nl 4))
  refine GC_w (S' := ((1, .inl (7, [6, 3, 3, 3, 3])) :: [(2, shJ 13), (3, shJ 13)])) rfl ?_
  refine GC_putr (k := 1) (j := 3) (q := (RX8, TX8, 5)) tyX8 rfl inX8 tyX8_ok nmX8 (by decide) (by decide) (fun _ => rfl) (fun _ => rfl) rfl rfl hF_X8_15 dX8_init_17 rfl ?_
  refine GC_w (S' := ((1, .inl (7, [6, 7, 3, 3, 3])) :: [(2, shJ 13), (3, shJ 13)])) rfl ?_
  refine GC_aload_n 0 rfl dX8_init_20 rfl ?_
  refine GC_new (ci := 0) (n := 4) (q := (RX0, TX0, 2)) (fds := [3, 3]) tyX0 (f_t 167 (by decide +kernel) rfl) (f_t 168 (by decide +kernel) rfl) hN_X0 rfl inX0 tyX0_ok (by decide +kernel) (by decide) (wlt.cons ⟨by decide, s_lt_l (by decide)⟩ w2) rfl rfl (by decide) (by decide) (by decide) dX8_init_21 ?_
  refine GC_dup dX8_init_24 rfl ?_
  have w3 : wlt 7 ([(2, shJ 13), (3, shJ 13), (4, shX0 5 6), (5, shJ 13), (6, shJ 13)]) := (w2.mono (by decide)).app (cwX0_lt.sh (o := 3))
  refine GC_init (n := 4) (S' := ((1, .inl (7, [6, 7, 3, 3, 3])) :: [(2, shJ 13), (3, shJ 13), (4, shX0 5 6), (5, shJ 13), (6, shJ 13)])) (Or.inr ⟨_, hM_X8_20⟩) hI_X0_init hC_X0_init hN_X0 nX0_init rfl (by decide) (by decide) (kX0_init (d := d)) (f_z_1 _ _) (f_z_2 _ _) (wlt.cons ⟨by decide, s_lt_l (by decide)⟩ w2) cwX0_ge rfl rfl (by decide) (by decide) (by decide) (by decide) dX8_init_25 rfl (fun h3 y3 p3 q3 s3 => ?_)
  have o3 : fLt 4 h2 h3 := (fLt.z h2 4).tr q3
  refine GC_putr (k := 2) (j := 4) (q := (RX8, TX8, 5)) tyX8 rfl inX8 tyX8_ok nmX8 (by decide) (by decide) (fun _ => rfl) (fun _ => rfl) rfl rfl hF_X8_21 dX8_init_28 rfl ?_
  refine GC_w (S' := ((1, .inl (7, [6, 7, 8, 3, 3])) :: [(2, shJ 13), (3, shJ 13), (4, shX0 5 6), (5, shJ 13), (6, shJ 13)])) rfl ?_
  refine GC_aload_n 0 rfl dX8_init_31 rfl ?_
  refine GC_new (ci := 4) (n := 7) (q := (RX4, TX4, 3)) (fds := [0, 0, 2]) tyX4 (f_t 180 (by decide +kernel) rfl) (f_t 145 (by decide +kernel) rfl) hN_X4 rfl inX4 tyX4_ok (by decide +kernel) (by decide) (wlt.cons ⟨by decide, s_lt_l (by decide)⟩ w3) rfl rfl (by decide) (by decide) (by decide) dX8_init_32 ?_
  refine GC_dup dX8_init_35 rfl ?_
  have w4 : wlt 8 ([(2, shJ 13), (3, shJ 13), (4, shX0 5 6), (5, shJ 13), (6, shJ 13), (7, shX4)]) := (w3.mono (by decide)).app (cwX4_lt.sh (o := 6))
  refine GC_init (n := 7) (S' := ((1, .inl (7, [6, 7, 8, 3, 3])) :: [(2, shJ 13), (3, shJ 13), (4, shX0 5 6), (5, shJ 13), (6, shJ 13), (7, shX4)])) (Or.inr ⟨_, hM_X8_27⟩) hI_X4_init hC_X4_init hN_X4 nX4_init rfl (by decide) (by decide) (kX4_init (d := d)) (f_z_1 _ _) (f_z_2 _ _) (wlt.cons ⟨by decide, s_lt_l (by decide)⟩ w3) cwX4_ge rfl rfl (by decide) (by decide) (by decide) (by decide) dX8_init_36 rfl (fun h4 y4 p4 q4 s4 => ?_)
  have o4 : fLt 7 h3 h4 := (fLt.z h3 7).tr q4
  refine GC_putr (k := 3) (j := 7) (q := (RX8, TX8, 5)) tyX8 rfl inX8 tyX8_ok nmX8 (by decide) (by decide) (fun _ => rfl) (fun _ => rfl) rfl rfl hF_X8_28 dX8_init_39 rfl ?_
  refine GC_w (S' := ((1, .inl (7, [6, 7, 8, 11, 3])) :: [(2, shJ 13), (3, shJ 13), (4, shX0 5 6), (5, shJ 13), (6, shJ 13), (7, shX4)])) rfl ?_
  refine GC_aload_n 0 rfl dX8_init_42 rfl ?_
  refine GC_new (ci := 3) (n := 8) (q := (RX3, TX3, 3)) (fds := [1, 1, 0]) tyX3 (f_t 182 (by decide +kernel) rfl) (f_t 126 (by decide +kernel) rfl) hN_X3 rfl inX3 tyX3_ok (by decide +kernel) (by decide) (wlt.cons ⟨by decide, s_lt_l (by decide)⟩ w4) rfl rfl (by decide) (by decide) (by decide) dX8_init_43 ?_
  refine GC_dup dX8_init_46 rfl ?_
  have w5 : wlt 9 ([(2, shJ 13), (3, shJ 13), (4, shX0 5 6), (5, shJ 13), (6, shJ 13), (7, shX4), (8, shX3)]) := (w4.mono (by decide)).app (cwX3_lt.sh (o := 7))
  refine GC_init (n := 8) (S' := ((1, .inl (7, [6, 7, 8, 11, 3])) :: [(2, shJ 13), (3, shJ 13), (4, shX0 5 6), (5, shJ 13), (6, shJ 13), (7, shX4), (8, shX3)])) (Or.inr ⟨_, hM_X8_34⟩) hI_X3_init hC_X3_init hN_X3 nX3_init rfl (by decide) (by decide) (kX3_init (d := d)) (f_z_1 _ _) (f_z_2 _ _) (wlt.cons ⟨by decide, s_lt_l (by decide)⟩ w4) cwX3_ge rfl rfl (by decide) (by decide) (by decide) (by decide) dX8_init_47 rfl (fun h5 y5 p5 q5 s5 => ?_)
  have o5 : fLt 8 h4 h5 := (fLt.z h4 8).tr q5
  refine GC_putr (k := 4) (j := 8) (q := (RX8, TX8, 5)) tyX8 rfl inX8 tyX8_ok nmX8 (by decide) (by decide) (fun _ => rfl) (fun _ => rfl) rfl rfl hF_X8_35 dX8_init_50 rfl ?_
  refine GC_w (S' := ((1, .inl (7, [6, 7, 8, 11, 12])) :: [(2, shJ 13), (3, shJ 13), (4, shX0 5 6), (5, shJ 13), (6, shJ 13), (7, shX4), (8, shX3)])) rfl ?_
  refine GC_vret rfl dX8_init_53 rfl rfl rfl ?_
  rw [(o5 7 (by decide)).1, show h4.1 7 = y4.1 1 from (s4 1 (by decide)).1]
  exact p4
theorem dX9_init_0 : decode cX9_init 0 = .ok (.aload_n 0, 1) := by decide +kernel
theorem dX9_init_1 : decode cX9_init 1 = .ok (.invokespecial 3, 3) := by decide +kernel
theorem dX9_init_4 : decode cX9_init 4 = .ok (.aload_n 0, 1) := by decide +kernel
theorem dX9_init_5 : decode cX9_init 5 = .ok (.new 9, 3) := by decide +kernel
theorem dX9_init_8 : decode cX9_init 8 = .ok (.dup, 1) := by decide +kernel
theorem dX9_init_9 : decode cX9_init 9 = .ok (.invokespecial 11, 3) := by decide +kernel
theorem dX9_init_12 : decode cX9_init 12 = .ok (.putfield 12, 3) := by decide +kernel
theorem dX9_init_15 : decode cX9_init 15 = .ok (.aload_n 0, 1) := by decide +kernel
theorem dX9_init_16 : decode cX9_init 16 = .ok (.new 18, 3) := by decide +kernel
theorem dX9_init_19 : decode cX9_init 19 = .ok (.dup, 1) := by decide +kernel
theorem dX9_init_20 : decode cX9_init 20 = .ok (.invokespecial 20, 3) := by decide +kernel
theorem dX9_init_23 : decode cX9_init 23 = .ok (.putfield 21, 3) := by decide +kernel
theorem dX9_init_26 : decode cX9_init 26 = .ok (.aload_n 0, 1) := by decide +kernel
theorem dX9_init_27 : decode cX9_init 27 = .ok (.bipush 7, 2) := by decide +kernel
theorem dX9_init_29 : decode cX9_init 29 = .ok (.newarray .long, 2) := by decide +kernel
theorem dX9_init_31 : decode cX9_init 31 = .ok (.putfield 25, 3) := by decide +kernel
theorem dX9_init_34 : decode cX9_init 34 = .ok (.aload_n 0, 1) := by decide +kernel
theorem dX9_init_35 : decode cX9_init 35 = .ok (.bipush 7, 2) := by decide +kernel
theorem dX9_init_37 : decode cX9_init 37 = .ok (.newarray .int, 2) := by decide +kernel
theorem dX9_init_39 : decode cX9_init 39 = .ok (.putfield 29, 3) := by decide +kernel
theorem dX9_init_42 : decode cX9_init 42 = .ok (.aload_n 0, 1) := by decide +kernel
theorem dX9_init_43 : decode cX9_init 43 = .ok (.iconst 0, 1) := by decide +kernel
theorem dX9_init_44 : decode cX9_init 44 = .ok (.putfield 33, 3) := by decide +kernel
theorem dX9_init_47 : decode cX9_init 47 = .ok (.return_, 1) := by decide +kernel
def cwX9 : fW := [(1, shX9 2 3 4 5), (2, shX3), (3, shX4), (4, shJ 7), (5, shI 7)]
theorem cwX9_lt : wlt 6 cwX9 := (wlt.cons ⟨by decide, s_lt_l (by decide)⟩ (wlt.cons ⟨by decide, s_lt_l (by decide)⟩ (wlt.cons ⟨by decide, s_lt_l (by decide)⟩ (wlt.cons ⟨by decide, Or.inl (by decide)⟩ (wlt.cons ⟨by decide, Or.inl (by decide)⟩ (wlt.nl _))))))
theorem cwX9_ge : wge cwX9 := (wge.cons ⟨by decide, s_ge_l (by decide)⟩ (wge.cons ⟨by decide, s_ge_l (by decide)⟩ (wge.cons ⟨by decide, s_ge_l (by decide)⟩ (wge.cons ⟨by decide, Or.inl (by decide)⟩ (wge.cons ⟨by decide, Or.inl (by decide)⟩ wge.nl)))))
theorem kX9_init {d : Nat} : OkC (d + 2) 4 20 mX9_init 8 [3, 3, 3, 3, 0] cwX9 (fun h => h.1 3 2 = bI false) := by
  refine OkC.of (by decide) rfl (by decide) (by decide) (GC_nm (fun h0 e0 => ?_))
  refine GC_aload_n 0 rfl dX9_init_0 rfl ?_
  refine GC_obj hL_X9_3 dX9_init_1 ?_
  refine GC_aload_n 0 rfl dX9_init_4 rfl ?_
  refine GC_new (ci := 3) (n := 2) (q := (RX3, TX3, 3)) (fds := [1, 1, 0]) tyX3 (f_t 211 (by decide +kernel) rfl) (f_t 126 (by decide +kernel) rfl) hN_X3 rfl inX3 tyX3_ok (by decide +kernel) (by decide) (wlt.cons ⟨by decide, s_lt_l (by decide)⟩ (wlt.nl 2)) rfl rfl (by decide) (by decide) (by decide) dX9_init_5 ?_
  refine GC_dup dX9_init_8 rfl ?_
  have w1 : wlt 3 ([(2, shX3)]) := ((wlt.nl 2).mono (by decide)).app (cwX3_lt.sh (o := 1))
  refine GC_init (n := 2) (S' := ((1, .inl (8, [3, 3, 3, 3, 0])) :: [(2, shX3)])) (Or.inr ⟨_, hM_X9_11⟩) hI_X3_init hC_X3_init hN_X3 nX3_init rfl (by decide) (by decide) (kX3_init (d := d)) (f_z_1 _ _) (f_z_2 _ _) (wlt.cons ⟨by decide, s_lt_l (by decide)⟩ (wlt.nl 2)) cwX3_ge rfl rfl (by decide) (by decide) (by decide) (by decide) dX9_init_9 rfl (fun h1 y1 p1 q1 s1 => ?_)
  have o1 : fLt 2 h0 h1 := (fLt.z h0 2).tr q1
  refine GC_putr (k := 0) (j := 2) (q := (RX9, TX9, 5)) tyX9 rfl inX9 tyX9_ok nmX9 (by decide) (by decide) (fun _ => rfl) (fun _ => rfl) rfl rfl hF_X9_12 dX9_init_12 rfl ?_
  refine GC_w (S' := ((1, .inl (8, [6, 3, 3, 3, 0])) :: [(2, shX3)])) rfl ?_
  refine GC_aload_n 0 rfl dX9_init_15 rfl ?_
  refine GC_new (ci := 4) (n := 3) (q := (RX4, TX4, 3)) (fds := [0, 0, 2]) tyX4 (f_t 213 (by decide +kernel) rfl) (f_t 145 (by decide +kernel) rfl) hN_X4 rfl inX4 tyX4_ok (by decide +kernel) (by decide) (wlt.cons ⟨by decide, s_lt_l (by decide)⟩ w1) rfl rfl (by decide) (by decide) (by decide) dX9_init_16 ?_
  refine GC_dup dX9_init_19 rfl ?_
  have w2 : wlt 4 ([(2, shX3), (3, shX4)]) := (w1.mono (by decide)).app (cwX4_lt.sh (o := 2))
  refine GC_init (n := 3) (S' := ((1, .inl (8, [6, 3, 3, 3, 0])) :: [(2, shX3), (3, shX4)])) (Or.inr ⟨_, hM_X9_20⟩) hI_X4_init hC_X4_init hN_X4 nX4_init rfl (by decide) (by decide) (kX4_init (d := d)) (f_z_1 _ _) (f_z_2 _ _) (wlt.cons ⟨by decide, s_lt_l (by decide)⟩ w1) cwX4_ge rfl rfl (by decide) (by decide) (by decide) (by decide) dX9_init_20 rfl (fun h2 y2 p2 q2 s2 => ?_)
  have o2 : fLt 3 h1 h2 := (fLt.z h1 3).tr q2
  refine GC_putr (k := 1) (j := 3) (q := (RX9, TX9, 5)) tyX9 rfl inX9 tyX9_ok nmX9 (by decide) (by decide) (fun _ => rfl) (fun _ => rfl) rfl rfl hF_X9_21 dX9_init_23 rfl ?_
  refine GC_w (S' := ((1, .inl (8, [6, 7, 3, 3, 0])) :: [(2, shX3), (3, shX4)])) rfl ?_
  refine GC_aload_n 0 rfl dX9_init_26 rfl ?_
  refine GC_bipush (v := 7) dX9_init_27 (by decide) ?_
  refine GC_newaJ (n := 4) (M := 7) (f_t 124 (by decide +kernel) rfl) (by decide) (by decide) (by decide) (wlt.cons ⟨by decide, s_lt_l (by decide)⟩ w2) rfl rfl (by decide) (by decide) (by decide) dX9_init_29 (fun h3 o3 z3 => ?_)
  have w3 : wlt 5 ([(2, shX3), (3, shX4), (4, shJ 7)]) := (w2.mono (by decide)).app (wlt.cons ⟨by decide, Or.inl (by decide)⟩ (wlt.nl 5))
  refine GC_w (S' := ((1, .inl (8, [6, 7, 3, 3, 0])) :: [(2, shX3), (3, shX4), (4, shJ 7)])) rfl ?_
  refine GC_putr (k := 2) (j := 4) (q := (RX9, TX9, 5)) tyX9 rfl inX9 tyX9_ok nmX9 (by decide) (by decide) (fun _ => rfl) (fun _ => rfl) rfl rfl hF_X9_25 dX9_init_31 rfl ?_
  refine GC_w (S' := ((1, .inl (8, [6, 7, 8, 3, 0])) :: [(2, shX3), (3, shX4), (4, shJ 7)])) rfl ?_
  refine GC_aload_n 0 rfl dX9_init_34 rfl ?_
  refine GC_bipush (v := 7) dX9_init_35 (by decide) ?_
  refine GC_newaI (n := 5) (M := 7) (f_t 78 (by decide +kernel) rfl) (by decide) (by decide) (by decide) (wlt.cons ⟨by decide, s_lt_l (by decide)⟩ w3) rfl rfl (by decide) (by decide) (by decide) dX9_init_37 (fun h4 o4 z4 => ?_)
  have w4 : wlt 6 ([(2, shX3), (3, shX4), (4, shJ 7), (5, shI 7)]) := (w3.mono (by decide)).app (wlt.cons ⟨by decide, Or.inl (by decide)⟩ (wlt.nl 6))
  refine GC_w (S' := ((1, .inl (8, [6, 7, 8, 3, 0])) :: [(2, shX3), (3, shX4), (4, shJ 7), (5, shI 7)])) rfl ?_
  refine GC_putr (k := 3) (j := 5) (q := (RX9, TX9, 5)) tyX9 rfl inX9 tyX9_ok nmX9 (by decide) (by decide) (fun _ => rfl) (fun _ => rfl) rfl rfl hF_X9_29 dX9_init_39 rfl ?_
  refine GC_w (S' := ((1, .inl (8, [6, 7, 8, 9, 0])) :: [(2, shX3), (3, shX4), (4, shJ 7), (5, shI 7)])) rfl ?_
  refine GC_aload_n 0 rfl dX9_init_42 rfl ?_
  refine GC_iconst (v := 0) dX9_init_43 (by decide) ?_
  refine GC_puti (r := 1) (k := 4) (q := (RX9, TX9, 5)) tyX9 List.mem_cons_self rfl inX9 tyX9_ok nmX9 (by decide) rfl rfl rfl hF_X9_33 dX9_init_44 (GC_nm (fun h5 e5 => ?_))
  refine GC_vret rfl dX9_init_47 rfl rfl rfl ?_
  rw [e5, u_fi_o _ _ _ (by decide), (o4 3 (by decide)).1, (o3 3 (by decide)).1, show h2.1 3 = y2.1 1 from (s2 1 (by decide)).1]
  exact p2
theorem dX7_init_0 : decode cX7_init 0 = .ok (.aload_n 0, 1) := by decide +kernel
theorem dX7_init_1 : decode cX7_init 1 = .ok (.invokespecial 3, 3) := by decide +kernel
theorem dX7_init_4 : decode cX7_init 4 = .ok (.aload_n 0, 1) := by decide +kernel
theorem dX7_init_5 : decode cX7_init 5 = .ok (.bipush 13, 2) := by decide +kernel
theorem dX7_init_7 : decode cX7_init 7 = .ok (.newarray .long, 2) := by decide +kernel
theorem dX7_init_9 : decode cX7_init 9 = .ok (.putfield 9, 3) := by decide +kernel
theorem dX7_init_12 : decode cX7_init 12 = .ok (.aload_n 0, 1) := by decide +kernel
theorem dX7_init_13 : decode cX7_init 13 = .ok (.bipush 13, 2) := by decide +kernel
theorem dX7_init_15 : decode cX7_init 15 = .ok (.newarray .long, 2) := by decide +kernel
theorem dX7_init_17 : decode cX7_init 17 = .ok (.putfield 15, 3) := by decide +kernel
theorem dX7_init_20 : decode cX7_init 20 = .ok (.aload_n 0, 1) := by decide +kernel
theorem dX7_init_21 : decode cX7_init 21 = .ok (.new 18, 3) := by decide +kernel
theorem dX7_init_24 : decode cX7_init 24 = .ok (.dup, 1) := by decide +kernel
theorem dX7_init_25 : decode cX7_init 25 = .ok (.invokespecial 20, 3) := by decide +kernel
theorem dX7_init_28 : decode cX7_init 28 = .ok (.putfield 21, 3) := by decide +kernel
theorem dX7_init_31 : decode cX7_init 31 = .ok (.aload_n 0, 1) := by decide +kernel
theorem dX7_init_32 : decode cX7_init 32 = .ok (.new 25, 3) := by decide +kernel
theorem dX7_init_35 : decode cX7_init 35 = .ok (.dup, 1) := by decide +kernel
theorem dX7_init_36 : decode cX7_init 36 = .ok (.invokespecial 27, 3) := by decide +kernel
theorem dX7_init_39 : decode cX7_init 39 = .ok (.putfield 28, 3) := by decide +kernel
theorem dX7_init_42 : decode cX7_init 42 = .ok (.aload_n 0, 1) := by decide +kernel
theorem dX7_init_43 : decode cX7_init 43 = .ok (.new 25, 3) := by decide +kernel
theorem dX7_init_46 : decode cX7_init 46 = .ok (.dup, 1) := by decide +kernel
theorem dX7_init_47 : decode cX7_init 47 = .ok (.invokespecial 27, 3) := by decide +kernel
theorem dX7_init_50 : decode cX7_init 50 = .ok (.putfield 32, 3) := by decide +kernel
theorem dX7_init_53 : decode cX7_init 53 = .ok (.aload_n 0, 1) := by decide +kernel
theorem dX7_init_54 : decode cX7_init 54 = .ok (.new 35, 3) := by decide +kernel
theorem dX7_init_57 : decode cX7_init 57 = .ok (.dup, 1) := by decide +kernel
theorem dX7_init_58 : decode cX7_init 58 = .ok (.invokespecial 37, 3) := by decide +kernel
theorem dX7_init_61 : decode cX7_init 61 = .ok (.putfield 38, 3) := by decide +kernel
theorem dX7_init_64 : decode cX7_init 64 = .ok (.aload_n 0, 1) := by decide +kernel
theorem dX7_init_65 : decode cX7_init 65 = .ok (.iconst 5, 1) := by decide +kernel
theorem dX7_init_66 : decode cX7_init 66 = .ok (.newarray .int, 2) := by decide +kernel
theorem dX7_init_68 : decode cX7_init 68 = .ok (.putfield 42, 3) := by decide +kernel
theorem dX7_init_71 : decode cX7_init 71 = .ok (.aload_n 0, 1) := by decide +kernel
theorem dX7_init_72 : decode cX7_init 72 = .ok (.iconst 5, 1) := by decide +kernel
theorem dX7_init_73 : decode cX7_init 73 = .ok (.newarray .int, 2) := by decide +kernel
theorem dX7_init_75 : decode cX7_init 75 = .ok (.putfield 46, 3) := by decide +kernel
theorem dX7_init_78 : decode cX7_init 78 = .ok (.aload_n 0, 1) := by decide +kernel
theorem dX7_init_79 : decode cX7_init 79 = .ok (.ldc2_w 49, 3) := by decide +kernel
theorem dX7_init_82 : decode cX7_init 82 = .ok (.putfield 51, 3) := by decide +kernel
theorem dX7_init_85 : decode cX7_init 85 = .ok (.aload_n 0, 1) := by decide +kernel
theorem dX7_init_86 : decode cX7_init 86 = .ok (.ldc2_w 49, 3) := by decide +kernel
theorem dX7_init_89 : decode cX7_init 89 = .ok (.putfield 55, 3) := by decide +kernel
theorem dX7_init_92 : decode cX7_init 92 = .ok (.aload_n 0, 1) := by decide +kernel
theorem dX7_init_93 : decode cX7_init 93 = .ok (.iconst 0, 1) := by decide +kernel
theorem dX7_init_94 : decode cX7_init 94 = .ok (.putfield 58, 3) := by decide +kernel
theorem dX7_init_97 : decode cX7_init 97 = .ok (.aload_n 0, 1) := by decide +kernel
theorem dX7_init_98 : decode cX7_init 98 = .ok (.getfield 28, 3) := by decide +kernel
theorem dX7_init_101 : decode cX7_init 101 = .ok (.iconst 1, 1) := by decide +kernel
theorem dX7_init_102 : decode cX7_init 102 = .ok (.putfield 62, 3) := by decide +kernel
theorem dX7_init_105 : decode cX7_init 105 = .ok (.aload_n 0, 1) := by decide +kernel
theorem dX7_init_106 : decode cX7_init 106 = .ok (.getfield 32, 3) := by decide +kernel
theorem dX7_init_109 : decode cX7_init 109 = .ok (.iconst 1, 1) := by decide +kernel
theorem dX7_init_110 : decode cX7_init 110 = .ok (.putfield 62, 3) := by decide +kernel
theorem dX7_init_113 : decode cX7_init 113 = .ok (.return_, 1) := by decide +kernel
def cwX7 : fW := [(1, shX7 2 3 4 5 6 7 10 11), (2, shJ 13), (3, shJ 13), (4, shX3), (5, shX4), (6, shX4), (7, shX0 8 9), (8, shJ 13), (9, shJ 13), (10, shI 5), (11, shI 5)]
theorem cwX7_lt : wlt 12 cwX7 := (wlt.cons ⟨by decide, s_lt_l (by decide)⟩ (wlt.cons ⟨by decide, Or.inl (by decide)⟩ (wlt.cons ⟨by decide, Or.inl (by decide)⟩ (wlt.cons ⟨by decide, s_lt_l (by decide)⟩ (wlt.cons ⟨by decide, s_lt_l (by decide)⟩ (wlt.cons ⟨by decide, s_lt_l (by decide)⟩ (wlt.cons ⟨by decide, s_lt_l (by decide)⟩ (wlt.cons ⟨by decide, Or.inl (by decide)⟩ (wlt.cons ⟨by decide, Or.inl (by decide)⟩ (wlt.cons ⟨by decide, Or.inl (by decide)⟩ (wlt.cons ⟨by decide, Or.inl (by decide)⟩ (wlt.nl _))))))))))))
theorem cwX7_ge : wge cwX7 := (wge.cons ⟨by decide, s_ge_l (by decide)⟩ (wge.cons ⟨by decide, Or.inl (by decide)⟩ (wge.cons ⟨by decide, Or.inl (by decide)⟩ (wge.cons ⟨by decide, s_ge_l (by decide)⟩ (wge.cons ⟨by decide, s_ge_l (by decide)⟩ (wge.cons ⟨by decide, s_ge_l (by decide)⟩ (wge.cons ⟨by decide, s_ge_l (by decide)⟩ (wge.cons ⟨by decide, Or.inl (by decide)⟩ (wge.cons ⟨by decide, Or.inl (by decide)⟩ (wge.cons ⟨by decide, Or.inl (by decide)⟩ (wge.cons ⟨by decide, Or.inl (by decide)⟩ wge.nl)))))))))))
theorem kX7_init {d : Nat} : OkC (d + 2) 10 73 mX7_init 6 [3, 3, 3, 3, 3, 3, 3, 3, 1, 1, 2] cwX7 (fun h => h.1 1 10 = 0 ∧ h.1 5 2 = bI true ∧ h.1 6 2 = bI true) := by
  refine OkC.of (by decide) rfl (by decide) (by decide) (GC_nm (fun h0 e0 => ?_))
  refine GC_aload_n 0 rfl dX7_init_0 rfl ?_
  refine GC_obj hL_X7_3 dX7_init_1 ?_
  refine GC_aload_n 0 rfl dX7_init_4 rfl ?_
  refine GC_bipush (v := 13) dX7_init_5 (by decide) ?_
  refine GC_newaJ (n := 2) (M := 13) (f_t 124 (by decide +kernel) rfl) (by decide) (by decide) (by decide) (wlt.cons ⟨by decide, s_lt_l (by decide)⟩ (wlt.nl 2)) rfl rfl (by decide) (by decide) (by decide) dX7_init_7 (fun h1 o1 z1 => ?_)
  have w1 : wlt 3 ([(2, shJ 13)]) := ((wlt.nl 2).mono (by decide)).app (wlt.cons ⟨by decide, Or.inl (by decide)⟩ (wlt.nl 3))
  refine GC_w (S' := ((1, .inl (6, [3, 3, 3, 3, 3, 3, 3, 3, 1, 1, 2])) :: [(2, shJ 13)])) rfl ?_
  refine GC_putr (k := 0) (j := 2) (q := (RX7, TX7, 11)) tyX7 rfl inX7 tyX7_ok nmX7 (by decide) (by decide) (fun _ => rfl) (fun _ => rfl) rfl rfl hF_X7_9 dX7_init_9 rfl ?_
  refine GC_w (S' := ((1, .inl (6, [6, 3, 3, 3, 3, 3, 3, 3, 1, 1, 2])) :: [(2, shJ 13)])) rfl ?_
  refine GC_aload_n 0 rfl dX7_init_12 rfl ?_
  refine GC_bipush (v := 13) dX7_init_13 (by decide) ?_
  refine GC_newaJ (n := 3) (M := 13) (f_t 124 (by decide +kernel) rfl) (by decide) (by decide) (by decide) (wlt.cons ⟨by decide, s_lt_l (by decide)⟩ w1) rfl rfl (by decide) (by decide) (by decide) dX7_init_15 (fun h2 o2 z2 => ?_)
  have w2 : wlt 4 ([(2, shJ 13), (3, shJ 13)]) := (w1.mono (by decide)).app (wlt.cons ⟨by decide, Or.inl (by decide)⟩ (wlt.nl 4))
  refine GC_w (S' := ((1, .inl (6, [6, 3, 3, 3, 3, 3, 3, 3, 1, 1, 2])) :: [(2, shJ 13), (3, shJ 13)])) rfl ?_
  refine GC_putr (k := 1) (j := 3) (q := (RX7, TX7, 11)) tyX7 rfl inX7 tyX7_ok nmX7 (by decide) (by decide) (fun _ => rfl) (fun _ => rfl) rfl rfl hF_X7_15 dX7_init_17 rfl ?_
  refine GC_w (S' := ((1, .inl (6, [6, 7, 3, 3, 3, 3, 3, 3, 1, 1, 2])) :: [(2, shJ 13), (3, shJ 13)])) rfl ?_
  refine GC_aload_n 0 rfl dX7_init_20 rfl ?_
  refine GC_new (ci := 3) (n := 4) (q := (RX3, TX3, 3)) (fds := [1, 1, 0]) tyX3 (f_t 275 (by decide +kernel) rfl) (f_t 126 (by decide +kernel) rfl) hN_X3 rfl inX3 tyX3_ok (by decide +kernel) (by decide) (wlt.cons ⟨by decide, s_lt_l (by decide)⟩ w2) rfl rfl (by decide) (by decide) (by decide) dX7_init_21 ?_
  refine GC_dup dX7_init_24 rfl ?_
  have w3 : wlt 5 ([(2, shJ 13), (3, shJ 13), (4, shX3)]) := (w2.mono (by decide)).app (cwX3_lt.sh (o := 3))
  refine GC_init (n := 4) (S' := ((1, .inl (6, [6, 7, 3, 3, 3, 3, 3, 3, 1, 1, 2])) :: [(2, shJ 13), (3, shJ 13), (4, shX3)])) (Or.inr ⟨_, hM_X7_20⟩) hI_X3_init hC_X3_init hN_X3 nX3_init rfl (by decide) (by decide) (kX3_init (d := d)) (f_z_1 _ _) (f_z_2 _ _) (wlt.cons ⟨by decide, s_lt_l (by decide)⟩ w2) cwX3_ge rfl rfl (by decide) (by decide) (by decide) (by decide) dX7_init_25 rfl (fun h3 y3 p3 q3 s3 => ?_)
  have o3 : fLt 4 h2 h3 := (fLt.z h2 4).tr q3
  refine GC_putr (k := 2) (j := 4) (q := (RX7, TX7, 11)) tyX7 rfl inX7 tyX7_ok nmX7 (by decide) (by decide) (fun _ => rfl) (fun _ => rfl) rfl rfl hF_X7_21 dX7_init_28 rfl ?_
  refine GC_w (S' := ((1, .inl (6, [6, 7, 8, 3, 3, 3, 3, 3, 1, 1, 2])) :: [(2, shJ 13), (3, shJ 13), (4, shX3)])) rfl ?_
  refine GC_aload_n 0 rfl dX7_init_31 rfl ?_
  refine GC_new (ci := 4) (n := 5) (q := (RX4, TX4, 3)) (fds := [0, 0, 2]) tyX4 (f_t 277 (by decide +kernel) rfl) (f_t 145 (by decide +kernel) rfl) hN_X4 rfl inX4 tyX4_ok (by decide +kernel) (by decide) (wlt.cons ⟨by decide, s_lt_l (by decide)⟩ w3) rfl rfl (by decide) (by decide) (by decide) dX7_init_32 ?_
  refine GC_dup dX7_init_35 rfl ?_
  have w4 : wlt 6 ([(2, shJ 13), (3, shJ 13), (4, shX3), (5, shX4)]) := (w3.mono (by decide)).app (cwX4_lt.sh (o := 4))
  refine GC_init (n := 5) (S' := ((1, .inl (6, [6, 7, 8, 3, 3, 3, 3, 3, 1, 1, 2])) :: [(2, shJ 13), (3, shJ 13), (4, shX3), (5, shX4)])) (Or.inr ⟨_, hM_X7_27⟩) hI_X4_init hC_X4_init hN_X4 nX4_init rfl (by decide) (by decide) (kX4_init (d := d)) (f_z_1 _ _) (f_z_2 _ _) (wlt.cons ⟨by decide, s_lt_l (by decide)⟩ w3) cwX4_ge rfl rfl (by decide) (by decide) (by decide) (by decide) dX7_init_36 rfl (fun h4 y4 p4 q4 s4 => ?_)
  have o4 : fLt 5 h3 h4 := (fLt.z h3 5).tr q4
  refine GC_putr (k := 3) (j := 5) (q := (RX7, TX7, 11)) tyX7 rfl inX7 tyX7_ok nmX7 (by decide) (by decide) (fun _ => rfl) (fun _ => rfl) rfl rfl hF_X7_28 dX7_init_39 rfl ?_
  refine GC_w (S' := ((1, .inl (6, [6, 7, 8, 9, 3, 3, 3, 3, 1, 1, 2])) :: [(2, shJ 13), (3, shJ 13), (4, shX3), (5, shX4)])) rfl ?_
  refine GC_aload_n 0 rfl dX7_init_42 rfl ?_
  refine GC_new (ci := 4) (n := 6) (q := (RX4, TX4, 3)) (fds := [0, 0, 2]) tyX4 (f_t 277 (by decide +kernel) rfl) (f_t 145 (by decide +kernel) rfl) hN_X4 rfl inX4 tyX4_ok (by decide +kernel) (by decide) (wlt.cons ⟨by decide, s_lt_l (by decide)⟩ w4) rfl rfl (by decide) (by decide) (by decide) dX7_init_43 ?_
  refine GC_dup dX7_init_46 rfl ?_
  have w5 : wlt 7 ([(2, shJ 13), (3, shJ 13), (4, shX3), (5, shX4), (6, shX4)]) := (w4.mono (by decide)).app (cwX4_lt.sh (o := 5))
  refine GC_init (n := 6) (S' := ((1, .inl (6, [6, 7, 8, 9, 3, 3, 3, 3, 1, 1, 2])) :: [(2, shJ 13), (3, shJ 13), (4, shX3), (5, shX4), (6, shX4)])) (Or.inr ⟨_, hM_X7_27⟩) hI_X4_init hC_X4_init hN_X4 nX4_init rfl (by decide) (by decide) (kX4_init (d := d)) (f_z_1 _ _) (f_z_2 _ _) (wlt.cons ⟨by decide, s_lt_l (by decide)⟩ w4) cwX4_ge rfl rfl (by decide) (by decide) (by decide) (by decide) dX7_init_47 rfl (fun h5 y5 p5 q5 s5 => ?_)
  have o5 : fLt 6 h4 h5 := (fLt.z h4 6).tr q5
  refine GC_putr (k := 4) (j := 6) (q := (RX7, TX7, 11)) tyX7 rfl inX7 tyX7_ok nmX7 (by decide) (by decide) (fun _ => rfl) (fun _ => rfl) rfl rfl hF_X7_32 dX7_init_50 rfl ?_
  refine GC_w (S' := ((1, .inl (6, [6, 7, 8, 9, 10, 3, 3, 3, 1, 1, 2])) :: [(2, shJ 13), (3, shJ 13), (4, shX3), (5, shX4), (6, shX4)])) rfl ?_
  refine GC_aload_n 0 rfl dX7_init_53 rfl ?_
  refine GC_new (ci := 0) (n := 7) (q := (RX0, TX0, 2)) (fds := [3, 3]) tyX0 (f_t 279 (by decide +kernel) rfl) (f_t 168 (by decide +kernel) rfl) hN_X0 rfl inX0 tyX0_ok (by decide +kernel) (by decide) (wlt.cons ⟨by decide, s_lt_l (by decide)⟩ w5) rfl rfl (by decide) (by decide) (by decide) dX7_init_54 ?_
  refine GC_dup dX7_init_57 rfl ?_
  have w6 : wlt 10 ([(2, shJ 13), (3, shJ 13), (4, shX3), (5, shX4), (6, shX4), (7, shX0 8 9), (8, shJ 13), (9, shJ 13)]) := (w5.mono (by decide)).app (cwX0_lt.sh (o := 6))
  refine GC_init (n := 7) (S' := ((1, .inl (6, [6, 7, 8, 9, 10, 3, 3, 3, 1, 1, 2])) :: [(2, shJ 13), (3, shJ 13), (4, shX3), (5, shX4), (6, shX4), (7, shX0 8 9), (8, shJ 13), (9, shJ 13)])) (Or.inr ⟨_, hM_X7_37⟩) hI_X0_init hC_X0_init hN_X0 nX0_init rfl (by decide) (by decide) (kX0_init (d := d)) (f_z_1 _ _) (f_z_2 _ _) (wlt.cons ⟨by decide, s_lt_l (by decide)⟩ w5) cwX0_ge rfl rfl (by decide) (by decide) (by decide) (by decide) dX7_init_58 rfl (fun h6 y6 p6 q6 s6 => ?_)
  have o6 : fLt 7 h5 h6 := (fLt.z h5 7).tr q6
  refine GC_putr (k := 5) (j := 7) (q := (RX7, TX7, 11)) tyX7 rfl inX7 tyX7_ok nmX7 (by decide) (by decide) (fun _ => rfl) (fun _ => rfl) rfl rfl hF_X7_38 dX7_init_61 rfl ?_
  refine GC_w (S' := ((1, .inl (6, [6, 7, 8, 9, 10, 11, 3, 3, 1, 1, 2])) :: [(2, shJ 13), (3, shJ 13), (4, shX3), (5, shX4), (6, shX4), (7, shX0 8 9), (8, shJ 13), (9, shJ 13)])) rfl ?_
  refine GC_aload_n 0 rfl dX7_init_64 rfl ?_
  refine GC_iconst (v := 5) dX7_init_65 (by decide) ?_
  refine GC_newaI (n := 10) (M := 5) (f_t 78 (by decide +kernel) rfl) (by decide) (by decide) (by decide) (wlt.cons ⟨by decide, s_lt_l (by decide)⟩ w6) rfl rfl (by decide) (by decide) (by decide) dX7_init_66 (fun h7 o7 z7 => ?_)
  have w7 : wlt 11 ([(2, shJ 13), (3, shJ 13), (4, shX3), (5, shX4), (6, shX4), (7, shX0 8 9), (8, shJ 13), (9, shJ 13), (10, shI 5)]) := (w6.mono (by decide)).app (wlt.cons ⟨by decide, Or.inl (by decide)⟩ (wlt.nl 11))
  refine GC_w (S' := ((1, .inl (6, [6, 7, 8, 9, 10, 11, 3, 3, 1, 1, 2])) :: [(2, shJ 13), (3, shJ 13), (4, shX3), (5, shX4), (6, shX4), (7, shX0 8 9), (8, shJ 13), (9, shJ 13), (10, shI 5)])) rfl ?_
  refine GC_putr (k := 6) (j := 10) (q := (RX7, TX7, 11)) tyX7 rfl inX7 tyX7_ok nmX7 (by decide) (by decide) (fun _ => rfl) (fun _ => rfl) rfl rfl hF_X7_42 dX7_init_68 rfl ?_
  refine GC_w (S' := ((1, .inl (6, [6, 7, 8, 9, 10, 11, 14, 3, 1, 1, 2])) :: [(2, shJ 13), (3, shJ 13), (4, shX3), (5, shX4), (6, shX4), (7, shX0 8 9), (8, shJ 13), (9, shJ 13), (10, shI 5)])) rfl ?_
  refine GC_aload_n 0 rfl dX7_init_71 rfl ?_
  refine GC_iconst (v := 5) dX7_init_72 (by decide) ?_
  refine GC_newaI (n := 11) (M := 5) (f_t 78 (by decide +kernel) rfl) (by decide) (by decide) (by decide) (wlt.cons ⟨by decide, s_lt_l (by decide)⟩ w7) rfl rfl (by decide) (by decide) (by decide) dX7_init_73 (fun h8 o8 z8 => ?_)
  have w8 : wlt 12 ([(2, shJ 13), (3, shJ 13), (4, shX3), (5, shX4), (6, shX4), (7, shX0 8 9), (8, shJ 13), (9, shJ 13), (10, shI 5), (11, shI 5)]) := (w7.mono (by decide)).app (wlt.cons ⟨by decide, Or.inl (by decide)⟩ (wlt.nl 12))
  refine GC_w (S' := ((1, .inl (6, [6, 7, 8, 9, 10, 11, 14, 3, 1, 1, 2])) :: [(2, shJ 13), (3, shJ 13), (4, shX3), (5, shX4), (6, shX4), (7, shX0 8 9), (8, shJ 13), (9, shJ 13), (10, shI 5), (11, shI 5)])) rfl ?_
  refine GC_putr (k := 7) (j := 11) (q := (RX7, TX7, 11)) tyX7 rfl inX7 tyX7_ok nmX7 (by decide) (by decide) (fun _ => rfl) (fun _ => rfl) rfl rfl hF_X7_46 dX7_init_75 rfl ?_
  refine GC_w (S' := ((1, .inl (6, [6, 7, 8, 9, 10, 11, 14, 15, 1, 1, 2])) :: [(2, shJ 13), (3, shJ 13), (4, shX3), (5, shX4), (6, shX4), (7, shX0 8 9), (8, shJ 13), (9, shJ 13), (10, shI 5), (11, shI 5)])) rfl ?_
  refine GC_aload_n 0 rfl dX7_init_78 rfl ?_
  refine GC_ldc2 (v := 1000000000000000000) hK_X7_49 dX7_init_79 ?_
  refine GC_putl (r := 1) (k := 8) (q := (RX7, TX7, 11)) tyX7 List.mem_cons_self rfl inX7 tyX7_ok nmX7 (by decide) rfl rfl rfl hF_X7_51 dX7_init_82 (GC_nm (fun h9 e9 => ?_))
  refine GC_aload_n 0 rfl dX7_init_85 rfl ?_
  refine GC_ldc2 (v := 1000000000000000000) hK_X7_49 dX7_init_86 ?_
  refine GC_putl (r := 1) (k := 9) (q := (RX7, TX7, 11)) tyX7 List.mem_cons_self rfl inX7 tyX7_ok nmX7 (by decide) rfl rfl rfl hF_X7_55 dX7_init_89 (GC_nm (fun h10 e10 => ?_))
  refine GC_aload_n 0 rfl dX7_init_92 rfl ?_
  refine GC_iconst (v := 0) dX7_init_93 (by decide) ?_
  refine GC_putz (r := 1) (k := 10) (q := (RX7, TX7, 11)) tyX7 List.mem_cons_self rfl inX7 tyX7_ok nmX7 (by decide) rfl (by decide) rfl rfl hF_X7_58 dX7_init_94 (GC_nm (fun h11 e11 => ?_))
  refine GC_aload_n 0 rfl dX7_init_97 rfl ?_
  refine GC_getr (k := 3) (j := 5) (q := (RX7, TX7, 11)) List.mem_cons_self rfl inX7 (by decide) rfl hF_X7_28 dX7_init_98 ?_
  refine GC_iconst (v := 1) dX7_init_101 (by decide) ?_
  refine GC_putz (r := 5) (k := 2) (q := (RX4, TX4, 3)) tyX4 (List.mem_of_getElem? (i := 4) rfl) rfl inX4 tyX4_ok nmX4 (by decide) rfl (by decide) rfl rfl hF_X7_62 dX7_init_102 (GC_nm (fun h12 e12 => ?_))
  refine GC_aload_n 0 rfl dX7_init_105 rfl ?_
  refine GC_getr (k := 4) (j := 6) (q := (RX7, TX7, 11)) List.mem_cons_self rfl inX7 (by decide) rfl hF_X7_32 dX7_init_106 ?_
  refine GC_iconst (v := 1) dX7_init_109 (by decide) ?_
  refine GC_putz (r := 6) (k := 2) (q := (RX4, TX4, 3)) tyX4 (List.mem_of_getElem? (i := 5) rfl) rfl inX4 tyX4_ok nmX4 (by decide) rfl (by decide) rfl rfl hF_X7_62 dX7_init_110 (GC_nm (fun h13 e13 => ?_))
  refine GC_vret rfl dX7_init_113 rfl rfl rfl ?_
  refine ⟨?_, ?_, ?_⟩
  · rw [e13, u_fi_o _ _ _ (by decide), e12, u_fi_o _ _ _ (by decide), e11, u_fi_s]
  · rw [e13, u_fi_o _ _ _ (by decide), e12, u_fi_s]; rfl
  · rw [e13, u_fi_s]; rfl
theorem dX1_init_0 : decode cX1_init 0 = .ok (.aload_n 0, 1) := by decide +kernel
theorem dX1_init_1 : decode cX1_init 1 = .ok (.invokespecial 3, 3) := by decide +kernel
theorem dX1_init_4 : decode cX1_init 4 = .ok (.aload_n 0, 1) := by decide +kernel
theorem dX1_init_5 : decode cX1_init 5 = .ok (.new 9, 3) := by decide +kernel
theorem dX1_init_8 : decode cX1_init 8 = .ok (.dup, 1) := by decide +kernel
theorem dX1_init_9 : decode cX1_init 9 = .ok (.invokespecial 11, 3) := by decide +kernel
theorem dX1_init_12 : decode cX1_init 12 = .ok (.putfield 12, 3) := by decide +kernel
theorem dX1_init_15 : decode cX1_init 15 = .ok (.aload_n 0, 1) := by decide +kernel
theorem dX1_init_16 : decode cX1_init 16 = .ok (.bipush 7, 2) := by decide +kernel
theorem dX1_init_18 : decode cX1_init 18 = .ok (.newarray .int, 2) := by decide +kernel
theorem dX1_init_20 : decode cX1_init 20 = .ok (.putfield 18, 3) := by decide +kernel
theorem dX1_init_23 : decode cX1_init 23 = .ok (.aload_n 0, 1) := by decide +kernel
theorem dX1_init_24 : decode cX1_init 24 = .ok (.iconst 2, 1) := by decide +kernel
theorem dX1_init_25 : decode cX1_init 25 = .ok (.newarray .long, 2) := by decide +kernel
theorem dX1_init_27 : decode cX1_init 27 = .ok (.putfield 22, 3) := by decide +kernel
theorem dX1_init_30 : decode cX1_init 30 = .ok (.aload_n 0, 1) := by decide +kernel
theorem dX1_init_31 : decode cX1_init 31 = .ok (.iconst 2, 1) := by decide +kernel
theorem dX1_init_32 : decode cX1_init 32 = .ok (.newarray .int, 2) := by decide +kernel
theorem dX1_init_34 : decode cX1_init 34 = .ok (.putfield 26, 3) := by decide +kernel
theorem dX1_init_37 : decode cX1_init 37 = .ok (.aload_n 0, 1) := by decide +kernel
theorem dX1_init_38 : decode cX1_init 38 = .ok (.iconst 2, 1) := by decide +kernel
theorem dX1_init_39 : decode cX1_init 39 = .ok (.bipush 7, 2) := by decide +kernel
theorem dX1_init_41 : decode cX1_init 41 = .ok (.multianewarray 29 2, 4) := by decide +kernel
theorem dX1_init_45 : decode cX1_init 45 = .ok (.putfield 31, 3) := by decide +kernel
theorem dX1_init_48 : decode cX1_init 48 = .ok (.aload_n 0, 1) := by decide +kernel
theorem dX1_init_49 : decode cX1_init 49 = .ok (.lconst 0, 1) := by decide +kernel
theorem dX1_init_50 : decode cX1_init 50 = .ok (.putfield 34, 3) := by decide +kernel
theorem dX1_init_53 : decode cX1_init 53 = .ok (.aload_n 0, 1) := by decide +kernel
theorem dX1_init_54 : decode cX1_init 54 = .ok (.iconst 0, 1) := by decide +kernel
theorem dX1_init_55 : decode cX1_init 55 = .ok (.putfield 38, 3) := by decide +kernel
theorem dX1_init_58 : decode cX1_init 58 = .ok (.return_, 1) := by decide +kernel
def cwX1 : fW := [(1, shX1 2 7 8 9 10), (2, shX9 3 4 5 6), (3, shX3), (4, shX4), (5, shJ 7), (6, shI 7), (7, shI 7), (8, shJ 2), (9, shI 2), (10, shII 2 (gmu 10)), (11, shI 7), (12, shI 7)]
theorem cwX1_lt : wlt 13 cwX1 := (wlt.cons ⟨by decide, s_lt_l (by decide)⟩ (wlt.cons ⟨by decide, s_lt_l (by decide)⟩ (wlt.cons ⟨by decide, s_lt_l (by decide)⟩ (wlt.cons ⟨by decide, s_lt_l (by decide)⟩ (wlt.cons ⟨by decide, Or.inl (by decide)⟩ (wlt.cons ⟨by decide, Or.inl (by decide)⟩ (wlt.cons ⟨by decide, Or.inl (by decide)⟩ (wlt.cons ⟨by decide, Or.inl (by decide)⟩ (wlt.cons ⟨by decide, Or.inl (by decide)⟩ (wlt.cons ⟨by decide, Or.inr (fun i => by unfold gmu; split <;> decide)⟩ (wlt.cons ⟨by decide, Or.inl (by decide)⟩ (wlt.cons ⟨by decide, Or.inl (by decide)⟩ (wlt.nl _)))))))))))))
theorem cwX1_ge : wge cwX1 := (wge.cons ⟨by decide, s_ge_l (by decide)⟩ (wge.cons ⟨by decide, s_ge_l (by decide)⟩ (wge.cons ⟨by decide, s_ge_l (by decide)⟩ (wge.cons ⟨by decide, s_ge_l (by decide)⟩ (wge.cons ⟨by decide, Or.inl (by decide)⟩ (wge.cons ⟨by decide, Or.inl (by decide)⟩ (wge.cons ⟨by decide, Or.inl (by decide)⟩ (wge.cons ⟨by decide, Or.inl (by decide)⟩ (wge.cons ⟨by decide, Or.inl (by decide)⟩ (wge.cons ⟨by decide, Or.inr (fun i => by unfold gmu; split <;> decide)⟩ (wge.cons ⟨by decide, Or.inl (by decide)⟩ (wge.cons ⟨by decide, Or.inl (by decide)⟩ wge.nl))))))))))))
theorem kX1_init {d : Nat} : OkC (d + 3) 11 52 mX1_init 1 [3, 3, 3, 3, 3, 1, 2] cwX1 (fun h => h.1 1 6 = 0 ∧ h.1 4 2 = bI false) := by
  refine OkC.of (by decide) rfl (by decide) (by decide) (GC_nm (fun h0 e0 => ?_))
  refine GC_aload_n 0 rfl dX1_init_0 rfl ?_
  refine GC_obj hL_X1_3 dX1_init_1 ?_
  refine GC_aload_n 0 rfl dX1_init_4 rfl ?_
  refine GC_new (ci := 8) (n := 2) (q := (RX9, TX9, 5)) (fds := [3, 3, 3, 3, 0]) tyX9 (f_t 239 (by decide +kernel) rfl) (f_t 206 (by decide +kernel) rfl) hN_X9 rfl inX9 tyX9_ok (by decide +kernel) (by decide) (wlt.cons ⟨by decide, s_lt_l (by decide)⟩ (wlt.nl 2)) rfl rfl (by decide) (by decide) (by decide) dX1_init_5 ?_
  refine GC_dup dX1_init_8 rfl ?_
  have w1 : wlt 7 ([(2, shX9 3 4 5 6), (3, shX3), (4, shX4), (5, shJ 7), (6, shI 7)]) := ((wlt.nl 2).mono (by decide)).app (cwX9_lt.sh (o := 1))
  refine GC_init (n := 2) (S' := ((1, .inl (1, [3, 3, 3, 3, 3, 1, 2])) :: [(2, shX9 3 4 5 6), (3, shX3), (4, shX4), (5, shJ 7), (6, shI 7)])) (Or.inr ⟨_, hM_X1_11⟩) hI_X9_init hC_X9_init hN_X9 nX9_init rfl (by decide) (by decide) (kX9_init (d := d)) (f_z_1 _ _) (f_z_2 _ _) (wlt.cons ⟨by decide, s_lt_l (by decide)⟩ (wlt.nl 2)) cwX9_ge rfl rfl (by decide) (by decide) (by decide) (by decide) dX1_init_9 rfl (fun h1 y1 p1 q1 s1 => ?_)
  have o1 : fLt 2 h0 h1 := (fLt.z h0 2).tr q1
  refine GC_putr (k := 0) (j := 2) (q := (RX1, TX1, 7)) tyX1 rfl inX1 tyX1_ok nmX1 (by decide) (by decide) (fun _ => rfl) (fun _ => rfl) rfl rfl hF_X1_12 dX1_init_12 rfl ?_
  refine GC_w (S' := ((1, .inl (1, [6, 3, 3, 3, 3, 1, 2])) :: [(2, shX9 3 4 5 6), (3, shX3), (4, shX4), (5, shJ 7), (6, shI 7)])) rfl ?_
  refine GC_aload_n 0 rfl dX1_init_15 rfl ?_
  refine GC_bipush (v := 7) dX1_init_16 (by decide) ?_
  refine GC_newaI (n := 7) (M := 7) (f_t 78 (by decide +kernel) rfl) (by decide) (by decide) (by decide) (wlt.cons ⟨by decide, s_lt_l (by decide)⟩ w1) rfl rfl (by decide) (by decide) (by decide) dX1_init_18 (fun h2 o2 z2 => ?_)
  have w2 : wlt 8 ([(2, shX9 3 4 5 6), (3, shX3), (4, shX4), (5, shJ 7), (6, shI 7), (7, shI 7)]) := (w1.mono (by decide)).app (wlt.cons ⟨by decide, Or.inl (by decide)⟩ (wlt.nl 8))
  refine GC_w (S' := ((1, .inl (1, [6, 3, 3, 3, 3, 1, 2])) :: [(2, shX9 3 4 5 6), (3, shX3), (4, shX4), (5, shJ 7), (6, shI 7), (7, shI 7)])) rfl ?_
  refine GC_putr (k := 1) (j := 7) (q := (RX1, TX1, 7)) tyX1 rfl inX1 tyX1_ok nmX1 (by decide) (by decide) (fun _ => rfl) (fun _ => rfl) rfl rfl hF_X1_18 dX1_init_20 rfl ?_
  refine GC_w (S' := ((1, .inl (1, [6, 11, 3, 3, 3, 1, 2])) :: [(2, shX9 3 4 5 6), (3, shX3), (4, shX4), (5, shJ 7), (6, shI 7), (7, shI 7)])) rfl ?_
  refine GC_aload_n 0 rfl dX1_init_23 rfl ?_
  refine GC_iconst (v := 2) dX1_init_24 (by decide) ?_
  refine GC_newaJ (n := 8) (M := 2) (f_t 124 (by decide +kernel) rfl) (by decide) (by decide) (by decide) (wlt.cons ⟨by decide, s_lt_l (by decide)⟩ w2) rfl rfl (by decide) (by decide) (by decide) dX1_init_25 (fun h3 o3 z3 => ?_)
  have w3 : wlt 9 ([(2, shX9 3 4 5 6), (3, shX3), (4, shX4), (5, shJ 7), (6, shI 7), (7, shI 7), (8, shJ 2)]) := (w2.mono (by decide)).app (wlt.cons ⟨by decide, Or.inl (by decide)⟩ (wlt.nl 9))
  refine GC_w (S' := ((1, .inl (1, [6, 11, 3, 3, 3, 1, 2])) :: [(2, shX9 3 4 5 6), (3, shX3), (4, shX4), (5, shJ 7), (6, shI 7), (7, shI 7), (8, shJ 2)])) rfl ?_
  refine GC_putr (k := 2) (j := 8) (q := (RX1, TX1, 7)) tyX1 rfl inX1 tyX1_ok nmX1 (by decide) (by decide) (fun _ => rfl) (fun _ => rfl) rfl rfl hF_X1_22 dX1_init_27 rfl ?_
  refine GC_w (S' := ((1, .inl (1, [6, 11, 12, 3, 3, 1, 2])) :: [(2, shX9 3 4 5 6), (3, shX3), (4, shX4), (5, shJ 7), (6, shI 7), (7, shI 7), (8, shJ 2)])) rfl ?_
  refine GC_aload_n 0 rfl dX1_init_30 rfl ?_
  refine GC_iconst (v := 2) dX1_init_31 (by decide) ?_
  refine GC_newaI (n := 9) (M := 2) (f_t 78 (by decide +kernel) rfl) (by decide) (by decide) (by decide) (wlt.cons ⟨by decide, s_lt_l (by decide)⟩ w3) rfl rfl (by decide) (by decide) (by decide) dX1_init_32 (fun h4 o4 z4 => ?_)
  have w4 : wlt 10 ([(2, shX9 3 4 5 6), (3, shX3), (4, shX4), (5, shJ 7), (6, shI 7), (7, shI 7), (8, shJ 2), (9, shI 2)]) := (w3.mono (by decide)).app (wlt.cons ⟨by decide, Or.inl (by decide)⟩ (wlt.nl 10))
  refine GC_w (S' := ((1, .inl (1, [6, 11, 12, 3, 3, 1, 2])) :: [(2, shX9 3 4 5 6), (3, shX3), (4, shX4), (5, shJ 7), (6, shI 7), (7, shI 7), (8, shJ 2), (9, shI 2)])) rfl ?_
  refine GC_putr (k := 3) (j := 9) (q := (RX1, TX1, 7)) tyX1 rfl inX1 tyX1_ok nmX1 (by decide) (by decide) (fun _ => rfl) (fun _ => rfl) rfl rfl hF_X1_26 dX1_init_34 rfl ?_
  refine GC_w (S' := ((1, .inl (1, [6, 11, 12, 13, 3, 1, 2])) :: [(2, shX9 3 4 5 6), (3, shX3), (4, shX4), (5, shJ 7), (6, shI 7), (7, shI 7), (8, shJ 2), (9, shI 2)])) rfl ?_
  refine GC_aload_n 0 rfl dX1_init_37 rfl ?_
  refine GC_iconst (v := 2) dX1_init_38 (by decide) ?_
  refine GC_bipush (v := 7) dX1_init_39 (by decide) ?_
  refine GC_multi (n := 10) (f_t 241 (by decide +kernel) rfl) (wlt.cons ⟨by decide, s_lt_l (by decide)⟩ w4) rfl rfl (by decide) (by decide) (by decide) dX1_init_41 (fun h5 o5 => ?_)
  have w5 : wlt 13 ([(2, shX9 3 4 5 6), (3, shX3), (4, shX4), (5, shJ 7), (6, shI 7), (7, shI 7), (8, shJ 2), (9, shI 2), (10, shII 2 (gmu 10)), (11, shI 7), (12, shI 7)]) := (w4.mono (by decide)).app (wlt_mu 10)
  refine GC_w (S' := ((1, .inl (1, [6, 11, 12, 13, 3, 1, 2])) :: [(2, shX9 3 4 5 6), (3, shX3), (4, shX4), (5, shJ 7), (6, shI 7), (7, shI 7), (8, shJ 2), (9, shI 2), (10, shII 2 (gmu 10)), (11, shI 7), (12, shI 7)])) rfl ?_
  refine GC_putr (k := 4) (j := 10) (q := (RX1, TX1, 7)) tyX1 rfl inX1 tyX1_ok nmX1 (by decide) (by decide) (fun _ => rfl) (fun _ => rfl) rfl rfl hF_X1_31 dX1_init_45 rfl ?_
  refine GC_w (S' := ((1, .inl (1, [6, 11, 12, 13, 14, 1, 2])) :: [(2, shX9 3 4 5 6), (3, shX3), (4, shX4), (5, shJ 7), (6, shI 7), (7, shI 7), (8, shJ 2), (9, shI 2), (10, shII 2 (gmu 10)), (11, shI 7), (12, shI 7)])) rfl ?_
  refine GC_aload_n 0 rfl dX1_init_48 rfl ?_
  refine GC_lconst (v := 0) dX1_init_49 (by decide) ?_
  refine GC_putl (r := 1) (k := 5) (q := (RX1, TX1, 7)) tyX1 List.mem_cons_self rfl inX1 tyX1_ok nmX1 (by decide) rfl rfl rfl hF_X1_34 dX1_init_50 (GC_nm (fun h6 e6 => ?_))
  refine GC_aload_n 0 rfl dX1_init_53 rfl ?_
  refine GC_iconst (v := 0) dX1_init_54 (by decide) ?_
  refine GC_putz (r := 1) (k := 6) (q := (RX1, TX1, 7)) tyX1 List.mem_cons_self rfl inX1 tyX1_ok nmX1 (by decide) rfl (by decide) rfl rfl hF_X1_38 dX1_init_55 (GC_nm (fun h7 e7 => ?_))
  refine GC_vret rfl dX1_init_58 rfl rfl rfl ?_
  refine ⟨by rw [e7, u_fi_s], ?_⟩
  rw [e7, u_fi_o _ _ _ (by decide), e6, u_fl_1, (o5 4 (by decide)).1, (o4 4 (by decide)).1, (o3 4 (by decide)).1, (o2 4 (by decide)).1, show h1.1 4 = y1.1 3 from (s1 3 (by decide)).1]
  exact p1
theorem dX6_init_0 : decode cX6_init 0 = .ok (.aload_n 0, 1) := by decide +kernel
theorem dX6_init_1 : decode cX6_init 1 = .ok (.invokespecial 3, 3) := by decide +kernel
theorem dX6_init_4 : decode cX6_init 4 = .ok (.aload_n 0, 1) := by decide +kernel
theorem dX6_init_5 : decode cX6_init 5 = .ok (.new 9, 3) := by decide +kernel
theorem dX6_init_8 : decode cX6_init 8 = .ok (.dup, 1) := by decide +kernel
theorem dX6_init_9 : decode cX6_init 9 = .ok (.invokespecial 11, 3) := by decide +kernel
theorem dX6_init_12 : decode cX6_init 12 = .ok (.putfield 12, 3) := by decide +kernel
theorem dX6_init_15 : decode cX6_init 15 = .ok (.aload_n 0, 1) := by decide +kernel
theorem dX6_init_16 : decode cX6_init 16 = .ok (.new 18, 3) := by decide +kernel
theorem dX6_init_19 : decode cX6_init 19 = .ok (.dup, 1) := by decide +kernel
theorem dX6_init_20 : decode cX6_init 20 = .ok (.invokespecial 20, 3) := by decide +kernel
theorem dX6_init_23 : decode cX6_init 23 = .ok (.putfield 21, 3) := by decide +kernel
theorem dX6_init_26 : decode cX6_init 26 = .ok (.aload_n 0, 1) := by decide +kernel
theorem dX6_init_27 : decode cX6_init 27 = .ok (.new 18, 3) := by decide +kernel
theorem dX6_init_30 : decode cX6_init 30 = .ok (.dup, 1) := by decide +kernel
theorem dX6_init_31 : decode cX6_init 31 = .ok (.invokespecial 20, 3) := by decide +kernel
theorem dX6_init_34 : decode cX6_init 34 = .ok (.putfield 25, 3) := by decide +kernel
theorem dX6_init_37 : decode cX6_init 37 = .ok (.aload_n 0, 1) := by decide +kernel
theorem dX6_init_38 : decode cX6_init 38 = .ok (.new 18, 3) := by decide +kernel
theorem dX6_init_41 : decode cX6_init 41 = .ok (.dup, 1) := by decide +kernel
theorem dX6_init_42 : decode cX6_init 42 = .ok (.invokespecial 20, 3) := by decide +kernel
theorem dX6_init_45 : decode cX6_init 45 = .ok (.putfield 28, 3) := by decide +kernel
theorem dX6_init_48 : decode cX6_init 48 = .ok (.aload_n 0, 1) := by decide +kernel
theorem dX6_init_49 : decode cX6_init 49 = .ok (.ldc2_w 31, 3) := by decide +kernel
theorem dX6_init_52 : decode cX6_init 52 = .ok (.putfield 33, 3) := by decide +kernel
theorem dX6_init_55 : decode cX6_init 55 = .ok (.aload_n 0, 1) := by decide +kernel
theorem dX6_init_56 : decode cX6_init 56 = .ok (.bipush (-6), 2) := by decide +kernel
theorem dX6_init_58 : decode cX6_init 58 = .ok (.putfield 37, 3) := by decide +kernel
theorem dX6_init_61 : decode cX6_init 61 = .ok (.return_, 1) := by decide +kernel
def cwX6 : fW := [(1, shX6 2 10 14 18), (2, shX8 3 4 5 8 9), (3, shJ 13), (4, shJ 13), (5, shX0 6 7), (6, shJ 13), (7, shJ 13), (8, shX4), (9, shX3), (10, shX10 11 12 13), (11, shI 13), (12, shI 13), (13, shI 13), (14, shX10 15 16 17), (15, shI 13), (16, shI 13), (17, shI 13), (18, shX10 19 20 21), (19, shI 13), (20, shI 13), (21, shI 13)]
theorem cwX6_lt : wlt 22 cwX6 := (wlt.cons ⟨by decide, s_lt_l (by decide)⟩ (wlt.cons ⟨by decide, s_lt_l (by decide)⟩ (wlt.cons ⟨by decide, Or.inl (by decide)⟩ (wlt.cons ⟨by decide, Or.inl (by decide)⟩ (wlt.cons ⟨by decide, s_lt_l (by decide)⟩ (wlt.cons ⟨by decide, Or.inl (by decide)⟩ (wlt.cons ⟨by decide, Or.inl (by decide)⟩ (wlt.cons ⟨by decide, s_lt_l (by decide)⟩ (wlt.cons ⟨by decide, s_lt_l (by decide)⟩ (wlt.cons ⟨by decide, s_lt_l (by decide)⟩ (wlt.cons ⟨by decide, Or.inl (by decide)⟩ (wlt.cons ⟨by decide, Or.inl (by decide)⟩ (wlt.cons ⟨by decide, Or.inl (by decide)⟩ (wlt.cons ⟨by decide, s_lt_l (by decide)⟩ (wlt.cons ⟨by decide, Or.inl (by decide)⟩ (wlt.cons ⟨by decide, Or.inl (by decide)⟩ (wlt.cons ⟨by decide, Or.inl (by decide)⟩ (wlt.cons ⟨by decide, s_lt_l (by decide)⟩ (wlt.cons ⟨by decide, Or.inl (by decide)⟩ (wlt.cons ⟨by decide, Or.inl (by decide)⟩ (wlt.cons ⟨by decide, Or.inl (by decide)⟩ (wlt.nl _))))))))))))))))))))))
theorem cwX6_ge : wge cwX6 := (wge.cons ⟨by decide, s_ge_l (by decide)⟩ (wge.cons ⟨by decide, s_ge_l (by decide)⟩ (wge.cons ⟨by decide, Or.inl (by decide)⟩ (wge.cons ⟨by decide, Or.inl (by decide)⟩ (wge.cons ⟨by decide, s_ge_l (by decide)⟩ (wge.cons ⟨by decide, Or.inl (by decide)⟩ (wge.cons ⟨by decide, Or.inl (by decide)⟩ (wge.cons ⟨by decide, s_ge_l (by decide)⟩ (wge.cons ⟨by decide, s_ge_l (by decide)⟩ (wge.cons ⟨by decide, s_ge_l (by decide)⟩ (wge.cons ⟨by decide, Or.inl (by decide)⟩ (wge.cons ⟨by decide, Or.inl (by decide)⟩ (wge.cons ⟨by decide, Or.inl (by decide)⟩ (wge.cons ⟨by decide, s_ge_l (by decide)⟩ (wge.cons ⟨by decide, Or.inl (by decide)⟩ (wge.cons ⟨by decide, Or.inl (by decide)⟩ (wge.cons ⟨by decide, Or.inl (by decide)⟩ (wge.cons ⟨by decide, s_ge_l (by decide)⟩ (wge.cons ⟨by decide, Or.inl (by decide)⟩ (wge.cons ⟨by decide, Or.inl (by decide)⟩ (wge.cons ⟨by decide, Or.inl (by decide)⟩ wge.nl)))))))))))))))))))))
theorem kX6_init {d : Nat} : OkC (d + 3) 20 194 mX6_init 5 [3, 3, 3, 3, 1, 0] cwX6 (fun h => h.1 1 5 = -6 ∧ h.1 8 2 = bI false) := by
  refine OkC.of (by decide) rfl (by decide) (by decide) (GC_nm (fun h0 e0 => ?_))
  refine GC_aload_n 0 rfl dX6_init_0 rfl ?_
  refine GC_obj hL_X6_3 dX6_init_1 ?_
  refine GC_aload_n 0 rfl dX6_init_4 rfl ?_
  refine GC_new (ci := 7) (n := 2) (q := (RX8, TX8, 5)) (fds := [3, 3, 3, 3, 3]) tyX8 (f_t 327 (by decide +kernel) rfl) (f_t 162 (by decide +kernel) rfl) hN_X8 rfl inX8 tyX8_ok (by decide +kernel) (by decide) (wlt.cons ⟨by decide, s_lt_l (by decide)⟩ (wlt.nl 2)) rfl rfl (by decide) (by decide) (by decide) dX6_init_5 ?_
  refine GC_dup dX6_init_8 rfl ?_
  have w1 : wlt 10 ([(2, shX8 3 4 5 8 9), (3, shJ 13), (4, shJ 13), (5, shX0 6 7), (6, shJ 13), (7, shJ 13), (8, shX4), (9, shX3)]) := ((wlt.nl 2).mono (by decide)).app (cwX8_lt.sh (o := 1))
  refine GC_init (n := 2) (S' := ((1, .inl (5, [3, 3, 3, 3, 1, 0])) :: [(2, shX8 3 4 5 8 9), (3, shJ 13), (4, shJ 13), (5, shX0 6 7), (6, shJ 13), (7, shJ 13), (8, shX4), (9, shX3)])) (Or.inr ⟨_, hM_X6_11⟩) hI_X8_init hC_X8_init hN_X8 nX8_init rfl (by decide) (by decide) (kX8_init (d := d)) (f_z_1 _ _) (f_z_2 _ _) (wlt.cons ⟨by decide, s_lt_l (by decide)⟩ (wlt.nl 2)) cwX8_ge rfl rfl (by decide) (by decide) (by decide) (by decide) dX6_init_9 rfl (fun h1 y1 p1 q1 s1 => ?_)
  have o1 : fLt 2 h0 h1 := (fLt.z h0 2).tr q1
  refine GC_putr (k := 0) (j := 2) (q := (RX6, TX6, 6)) tyX6 rfl inX6 tyX6_ok nmX6 (by decide) (by decide) (fun _ => rfl) (fun _ => rfl) rfl rfl hF_X6_12 dX6_init_12 rfl ?_
  refine GC_w (S' := ((1, .inl (5, [6, 3, 3, 3, 1, 0])) :: [(2, shX8 3 4 5 8 9), (3, shJ 13), (4, shJ 13), (5, shX0 6 7), (6, shJ 13), (7, shJ 13), (8, shX4), (9, shX3)])) rfl ?_
  refine GC_aload_n 0 rfl dX6_init_15 rfl ?_
  refine GC_new (ci := 9) (n := 10) (q := (RX10, TX10, 4)) (fds := [3, 3, 3, 0]) tyX10 (f_t 329 (by decide +kernel) rfl) (f_t 31 (by decide +kernel) rfl) hN_X10 rfl inX10 tyX10_ok (by decide +kernel) (by decide) (wlt.cons ⟨by decide, s_lt_l (by decide)⟩ w1) rfl rfl (by decide) (by decide) (by decide) dX6_init_16 ?_
  refine GC_dup dX6_init_19 rfl ?_
  have w2 : wlt 14 ([(2, shX8 3 4 5 8 9), (3, shJ 13), (4, shJ 13), (5, shX0 6 7), (6, shJ 13), (7, shJ 13), (8, shX4), (9, shX3), (10, shX10 11 12 13), (11, shI 13), (12, shI 13), (13, shI 13)]) := (w1.mono (by decide)).app (cwX10_lt.sh (o := 9))
  refine GC_init (n := 10) (S' := ((1, .inl (5, [6, 3, 3, 3, 1, 0])) :: [(2, shX8 3 4 5 8 9), (3, shJ 13), (4, shJ 13), (5, shX0 6 7), (6, shJ 13), (7, shJ 13), (8, shX4), (9, shX3), (10, shX10 11 12 13), (11, shI 13), (12, shI 13), (13, shI 13)])) (Or.inl hL_X6_20) hI_X10_init hC_X10_init hN_X10 nX10_init rfl (by decide) (by decide) (kX10_init (d := d)) (f_z_1 _ _) (f_z_2 _ _) (wlt.cons ⟨by decide, s_lt_l (by decide)⟩ w1) cwX10_ge rfl rfl (by decide) (by decide) (by decide) (by decide) dX6_init_20 rfl (fun h2 y2 p2 q2 s2 => ?_)
  have o2 : fLt 10 h1 h2 := (fLt.z h1 10).tr q2
  refine GC_putr (k := 1) (j := 10) (q := (RX6, TX6, 6)) tyX6 rfl inX6 tyX6_ok nmX6 (by decide) (by decide) (fun _ => rfl) (fun _ => rfl) rfl rfl hF_X6_21 dX6_init_23 rfl ?_
  refine GC_w (S' := ((1, .inl (5, [6, 14, 3, 3, 1, 0])) :: [(2, shX8 3 4 5 8 9), (3, shJ 13), (4, shJ 13), (5, shX0 6 7), (6, shJ 13), (7, shJ 13), (8, shX4), (9, shX3), (10, shX10 11 12 13), (11, shI 13), (12, shI 13), (13, shI 13)])) rfl ?_
  refine GC_aload_n 0 rfl dX6_init_26 rfl ?_
  refine GC_new (ci := 9) (n := 14) (q := (RX10, TX10, 4)) (fds := [3, 3, 3, 0]) tyX10 (f_t 329 (by decide +kernel) rfl) (f_t 31 (by decide +kernel) rfl) hN_X10 rfl inX10 tyX10_ok (by decide +kernel) (by decide) (wlt.cons ⟨by decide, s_lt_l (by decide)⟩ w2) rfl rfl (by decide) (by decide) (by decide) dX6_init_27 ?_
  refine GC_dup dX6_init_30 rfl ?_
  have w3 : wlt 18 ([(2, shX8 3 4 5 8 9), (3, shJ 13), (4, shJ 13), (5, shX0 6 7), (6, shJ 13), (7, shJ 13), (8, shX4), (9, shX3), (10, shX10 11 12 13), (11, shI 13), (12, shI 13), (13, shI 13), (14, shX10 15 16 17), (15, shI 13), (16, shI 13), (17, shI 13)]) := (w2.mono (by decide)).app (cwX10_lt.sh (o := 13))
  refine GC_init (n := 14) (S' := ((1, .inl (5, [6, 14, 3, 3, 1, 0])) :: [(2, shX8 3 4 5 8 9), (3, shJ 13), (4, shJ 13), (5, shX0 6 7), (6, shJ 13), (7, shJ 13), (8, shX4), (9, shX3), (10, shX10 11 12 13), (11, shI 13), (12, shI 13), (13, shI 13), (14, shX10 15 16 17), (15, shI 13), (16, shI 13), (17, shI 13)])) (Or.inl hL_X6_20) hI_X10_init hC_X10_init hN_X10 nX10_init rfl (by decide) (by decide) (kX10_init (d := d)) (f_z_1 _ _) (f_z_2 _ _) (wlt.cons ⟨by decide, s_lt_l (by decide)⟩ w2) cwX10_ge rfl rfl (by decide) (by decide) (by decide) (by decide) dX6_init_31 rfl (fun h3 y3 p3 q3 s3 => ?_)
  have o3 : fLt 14 h2 h3 := (fLt.z h2 14).tr q3
  refine GC_putr (k := 2) (j := 14) (q := (RX6, TX6, 6)) tyX6 rfl inX6 tyX6_ok nmX6 (by decide) (by decide) (fun _ => rfl) (fun _ => rfl) rfl rfl hF_X6_25 dX6_init_34 rfl ?_
  refine GC_w (S' := ((1, .inl (5, [6, 14, 18, 3, 1, 0])) :: [(2, shX8 3 4 5 8 9), (3, shJ 13), (4, shJ 13), (5, shX0 6 7), (6, shJ 13), (7, shJ 13), (8, shX4), (9, shX3), (10, shX10 11 12 13), (11, shI 13), (12, shI 13), (13, shI 13), (14, shX10 15 16 17), (15, shI 13), (16, shI 13), (17, shI 13)])) rfl ?_
  refine GC_aload_n 0 rfl dX6_init_37 rfl ?_
  refine GC_new (ci := 9) (n := 18) (q := (RX10, TX10, 4)) (fds := [3, 3, 3, 0]) tyX10 (f_t 329 (by decide +kernel) rfl) (f_t 31 (by decide +kernel) rfl) hN_X10 rfl inX10 tyX10_ok (by decide +kernel) (by decide) (wlt.cons ⟨by decide, s_lt_l (by decide)⟩ w3) rfl rfl (by decide) (by decide) (by decide) dX6_init_38 ?_
  refine GC_dup dX6_init_41 rfl ?_
  have w4 : wlt 22 ([(2, shX8 3 4 5 8 9), (3, shJ 13), (4, shJ 13), (5, shX0 6 7), (6, shJ 13), (7, shJ 13), (8, shX4), (9, shX3), (10, shX10 11 12 13), (11, shI 13), (12, shI 13), (13, shI 13), (14, shX10 15 16 17), (15, shI 13), (16, shI 13), (17, shI 13), (18, shX10 19 20 21), (19, shI 13), (20, shI 13), (21, shI 13)]) := (w3.mono (by decide)).app (cwX10_lt.sh (o := 17))
  refine GC_init (n := 18) (S' := ((1, .inl (5, [6, 14, 18, 3, 1, 0])) :: [(2, shX8 3 4 5 8 9), (3, shJ 13), (4, shJ 13), (5, shX0 6 7), (6, shJ 13), (7, shJ 13), (8, shX4), (9, shX3), (10, shX10 11 12 13), (11, shI 13), (12, shI 13), (13, shI 13), (14, shX10 15 16 17), (15, shI 13), (16, shI 13), (17, shI 13), (18, shX10 19 20 21), (19, shI 13), (20, shI 13), (21, shI 13)])) (Or.inl hL_X6_20) hI_X10_init hC_X10_init hN_X10 nX10_init rfl (by decide) (by decide) (kX10_init (d := d)) (f_z_1 _ _) (f_z_2 _ _) (wlt.cons ⟨by decide, s_lt_l (by decide)⟩ w3) cwX10_ge rfl rfl (by decide) (by decide) (by decide) (by decide) dX6_init_42 rfl (fun h4 y4 p4 q4 s4 => ?_)
  have o4 : fLt 18 h3 h4 := (fLt.z h3 18).tr q4
  refine GC_putr (k := 3) (j := 18) (q := (RX6, TX6, 6)) tyX6 rfl inX6 tyX6_ok nmX6 (by decide) (by decide) (fun _ => rfl) (fun _ => rfl) rfl rfl hF_X6_28 dX6_init_45 rfl ?_
  refine GC_w (S' := ((1, .inl (5, [6, 14, 18, 22, 1, 0])) :: [(2, shX8 3 4 5 8 9), (3, shJ 13), (4, shJ 13), (5, shX0 6 7), (6, shJ 13), (7, shJ 13), (8, shX4), (9, shX3), (10, shX10 11 12 13), (11, shI 13), (12, shI 13), (13, shI 13), (14, shX10 15 16 17), (15, shI 13), (16, shI 13), (17, shI 13), (18, shX10 19 20 21), (19, shI 13), (20, shI 13), (21, shI 13)])) rfl ?_
  refine GC_aload_n 0 rfl dX6_init_48 rfl ?_
  refine GC_ldc2 (v := 1000000000000000000) hK_X6_31 dX6_init_49 ?_
  refine GC_putl (r := 1) (k := 4) (q := (RX6, TX6, 6)) tyX6 List.mem_cons_self rfl inX6 tyX6_ok nmX6 (by decide) rfl rfl rfl hF_X6_33 dX6_init_52 (GC_nm (fun h5 e5 => ?_))
  refine GC_aload_n 0 rfl dX6_init_55 rfl ?_
  refine GC_bipush (v := (-6)) dX6_init_56 (by decide) ?_
  refine GC_puti (r := 1) (k := 5) (q := (RX6, TX6, 6)) tyX6 List.mem_cons_self rfl inX6 tyX6_ok nmX6 (by decide) rfl rfl rfl hF_X6_37 dX6_init_58 (GC_nm (fun h6 e6 => ?_))
  refine GC_vret rfl dX6_init_61 rfl rfl rfl ?_
  refine ⟨by rw [e6, u_fi_s], ?_⟩
  rw [e6, u_fi_o _ _ _ (by decide), e5, u_fl_1, (o4 8 (by decide)).1, (o3 8 (by decide)).1, (o2 8 (by decide)).1, show h1.1 8 = y1.1 7 from (s1 7 (by decide)).1]
  exact p1
theorem dX2_init_0 : decode cX2_init 0 = .ok (.aload_n 0, 1) := by decide +kernel
theorem dX2_init_1 : decode cX2_init 1 = .ok (.invokespecial 3, 3) := by decide +kernel
theorem dX2_init_4 : decode cX2_init 4 = .ok (.aload_n 0, 1) := by decide +kernel
theorem dX2_init_5 : decode cX2_init 5 = .ok (.new 9, 3) := by decide +kernel
theorem dX2_init_8 : decode cX2_init 8 = .ok (.dup, 1) := by decide +kernel
theorem dX2_init_9 : decode cX2_init 9 = .ok (.invokespecial 11, 3) := by decide +kernel
theorem dX2_init_12 : decode cX2_init 12 = .ok (.putfield 12, 3) := by decide +kernel
theorem dX2_init_15 : decode cX2_init 15 = .ok (.aload_n 0, 1) := by decide +kernel
theorem dX2_init_16 : decode cX2_init 16 = .ok (.iconst 5, 1) := by decide +kernel
theorem dX2_init_17 : decode cX2_init 17 = .ok (.newarray .int, 2) := by decide +kernel
theorem dX2_init_19 : decode cX2_init 19 = .ok (.putfield 18, 3) := by decide +kernel
theorem dX2_init_22 : decode cX2_init 22 = .ok (.aload_n 0, 1) := by decide +kernel
theorem dX2_init_23 : decode cX2_init 23 = .ok (.iconst 5, 1) := by decide +kernel
theorem dX2_init_24 : decode cX2_init 24 = .ok (.newarray .int, 2) := by decide +kernel
theorem dX2_init_26 : decode cX2_init 26 = .ok (.putfield 22, 3) := by decide +kernel
theorem dX2_init_29 : decode cX2_init 29 = .ok (.aload_n 0, 1) := by decide +kernel
theorem dX2_init_30 : decode cX2_init 30 = .ok (.bipush 7, 2) := by decide +kernel
theorem dX2_init_32 : decode cX2_init 32 = .ok (.newarray .long, 2) := by decide +kernel
theorem dX2_init_34 : decode cX2_init 34 = .ok (.putfield 25, 3) := by decide +kernel
theorem dX2_init_37 : decode cX2_init 37 = .ok (.aload_n 0, 1) := by decide +kernel
theorem dX2_init_38 : decode cX2_init 38 = .ok (.iconst 0, 1) := by decide +kernel
theorem dX2_init_39 : decode cX2_init 39 = .ok (.putfield 29, 3) := by decide +kernel
theorem dX2_init_42 : decode cX2_init 42 = .ok (.aload_n 0, 1) := by decide +kernel
theorem dX2_init_43 : decode cX2_init 43 = .ok (.iconst 3, 1) := by decide +kernel
theorem dX2_init_44 : decode cX2_init 44 = .ok (.putfield 33, 3) := by decide +kernel
theorem dX2_init_47 : decode cX2_init 47 = .ok (.aload_n 0, 1) := by decide +kernel
theorem dX2_init_48 : decode cX2_init 48 = .ok (.iconst 0, 1) := by decide +kernel
theorem dX2_init_49 : decode cX2_init 49 = .ok (.putfield 36, 3) := by decide +kernel
theorem dX2_init_52 : decode cX2_init 52 = .ok (.aload_n 0, 1) := by decide +kernel
theorem dX2_init_53 : decode cX2_init 53 = .ok (.iconst 0, 1) := by decide +kernel
theorem dX2_init_54 : decode cX2_init 54 = .ok (.putfield 39, 3) := by decide +kernel
theorem dX2_init_57 : decode cX2_init 57 = .ok (.iconst 0, 1) := by decide +kernel
theorem dX2_init_58 : decode cX2_init 58 = .ok (.istore_n 1, 1) := by decide +kernel
theorem dX2_init_59 : decode cX2_init 59 = .ok (.iload_n 1, 1) := by decide +kernel
theorem dX2_init_60 : decode cX2_init 60 = .ok (.iconst 5, 1) := by decide +kernel
theorem dX2_init_61 : decode cX2_init 61 = .ok (.if_icmp .ge 16, 3) := by decide +kernel
theorem dX2_init_64 : decode cX2_init 64 = .ok (.aload_n 0, 1) := by decide +kernel
theorem dX2_init_65 : decode cX2_init 65 = .ok (.getfield 18, 3) := by decide +kernel
theorem dX2_init_68 : decode cX2_init 68 = .ok (.iload_n 1, 1) := by decide +kernel
theorem dX2_init_69 : decode cX2_init 69 = .ok (.iconst 1, 1) := by decide +kernel
theorem dX2_init_70 : decode cX2_init 70 = .ok (.iastore, 1) := by decide +kernel
theorem dX2_init_71 : decode cX2_init 71 = .ok (.iinc 1 1, 3) := by decide +kernel
theorem dX2_init_74 : decode cX2_init 74 = .ok (.goto (-15), 3) := by decide +kernel
theorem dX2_init_77 : decode cX2_init 77 = .ok (.return_, 1) := by decide +kernel
def cwX2 : fW := [(1, shX2 2 6 7 8), (2, shX10 3 4 5), (3, shI 13), (4, shI 13), (5, shI 13), (6, shI 5), (7, shI 5), (8, shJ 7)]
theorem cwX2_lt : wlt 9 cwX2 := (wlt.cons ⟨by decide, s_lt_l (by decide)⟩ (wlt.cons ⟨by decide, s_lt_l (by decide)⟩ (wlt.cons ⟨by decide, Or.inl (by decide)⟩ (wlt.cons ⟨by decide, Or.inl (by decide)⟩ (wlt.cons ⟨by decide, Or.inl (by decide)⟩ (wlt.cons ⟨by decide, Or.inl (by decide)⟩ (wlt.cons ⟨by decide, Or.inl (by decide)⟩ (wlt.cons ⟨by decide, Or.inl (by decide)⟩ (wlt.nl _)))))))))
theorem cwX2_ge : wge cwX2 := (wge.cons ⟨by decide, s_ge_l (by decide)⟩ (wge.cons ⟨by decide, s_ge_l (by decide)⟩ (wge.cons ⟨by decide, Or.inl (by decide)⟩ (wge.cons ⟨by decide, Or.inl (by decide)⟩ (wge.cons ⟨by decide, Or.inl (by decide)⟩ (wge.cons ⟨by decide, Or.inl (by decide)⟩ (wge.cons ⟨by decide, Or.inl (by decide)⟩ (wge.cons ⟨by decide, Or.inl (by decide)⟩ wge.nl))))))))
theorem kX2_init {d : Nat} : OkC (d + 3) 7 60 mX2_init 2 [3, 3, 3, 3, 0, 0, 0, 2] cwX2 (fun h => PcOk h 1 2 3 4 5 6 7 8 pg0 ∧ h.1 1 7 = 0 ∧ PcZ h 6 7 8) := by
  refine OkC.of (by decide) rfl (by decide) (by decide) (GC_nm (fun h0 e0 => ?_))
  refine GC_aload_n 0 rfl dX2_init_0 rfl ?_
  refine GC_obj hL_X2_3 dX2_init_1 ?_
  refine GC_aload_n 0 rfl dX2_init_4 rfl ?_
  refine GC_new (ci := 9) (n := 2) (q := (RX10, TX10, 4)) (fds := [3, 3, 3, 0]) tyX10 (f_t 30 (by decide +kernel) rfl) (f_t 31 (by decide +kernel) rfl) hN_X10 rfl inX10 tyX10_ok (by decide +kernel) (by decide) (wlt.cons ⟨by decide, s_lt_l (by decide)⟩ (wlt.nl 2)) rfl rfl (by decide) (by decide) (by decide) dX2_init_5 ?_
  refine GC_dup dX2_init_8 rfl ?_
  have w1 : wlt 6 ([(2, shX10 3 4 5), (3, shI 13), (4, shI 13), (5, shI 13)]) := ((wlt.nl 2).mono (by decide)).app (cwX10_lt.sh (o := 1))
  refine GC_init (n := 2) (S' := ((1, .inl (2, [3, 3, 3, 3, 0, 0, 0, 2])) :: [(2, shX10 3 4 5), (3, shI 13), (4, shI 13), (5, shI 13)])) (Or.inl hL_X2_11) hI_X10_init hC_X10_init hN_X10 nX10_init rfl (by decide) (by decide) (kX10_init (d := d)) (f_z_1 _ _) (f_z_2 _ _) (wlt.cons ⟨by decide, s_lt_l (by decide)⟩ (wlt.nl 2)) cwX10_ge rfl rfl (by decide) (by decide) (by decide) (by decide) dX2_init_9 rfl (fun h1 y1 p1 q1 s1 => ?_)
  have o1 : fLt 2 h0 h1 := (fLt.z h0 2).tr q1
  refine GC_putr (k := 0) (j := 2) (q := (RX2, TX2, 8)) tyX2 rfl inX2 tyX2_ok nmX2 (by decide) (by decide) (fun _ => rfl) (fun _ => rfl) rfl rfl hF_X2_12 dX2_init_12 rfl ?_
  refine GC_w (S' := ((1, .inl (2, [6, 3, 3, 3, 0, 0, 0, 2])) :: [(2, shX10 3 4 5), (3, shI 13), (4, shI 13), (5, shI 13)])) rfl ?_
  refine GC_aload_n 0 rfl dX2_init_15 rfl ?_
  refine GC_iconst (v := 5) dX2_init_16 (by decide) ?_
  refine GC_newaI (n := 6) (M := 5) (f_t 78 (by decide +kernel) rfl) (by decide) (by decide) (by decide) (wlt.cons ⟨by decide, s_lt_l (by decide)⟩ w1) rfl rfl (by decide) (by decide) (by decide) dX2_init_17 (fun h2 o2 z2 => ?_)
  have w2 : wlt 7 ([(2, shX10 3 4 5), (3, shI 13), (4, shI 13), (5, shI 13), (6, shI 5)]) := (w1.mono (by decide)).app (wlt.cons ⟨by decide, Or.inl (by decide)⟩ (wlt.nl 7))
  refine GC_w (S' := ((1, .inl (2, [6, 3, 3, 3, 0, 0, 0, 2])) :: [(2, shX10 3 4 5), (3, shI 13), (4, shI 13), (5, shI 13), (6, shI 5)])) rfl ?_
  refine GC_putr (k := 1) (j := 6) (q := (RX2, TX2, 8)) tyX2 rfl inX2 tyX2_ok nmX2 (by decide) (by decide) (fun _ => rfl) (fun _ => rfl) rfl rfl hF_X2_18 dX2_init_19 rfl ?_
  refine GC_w (S' := ((1, .inl (2, [6, 10, 3, 3, 0, 0, 0, 2])) :: [(2, shX10 3 4 5), (3, shI 13), (4, shI 13), (5, shI 13), (6, shI 5)])) rfl ?_
  refine GC_aload_n 0 rfl dX2_init_22 rfl ?_
  refine GC_iconst (v := 5) dX2_init_23 (by decide) ?_
  refine GC_newaI (n := 7) (M := 5) (f_t 78 (by decide +kernel) rfl) (by decide) (by decide) (by decide) (wlt.cons ⟨by decide, s_lt_l (by decide)⟩ w2) rfl rfl (by decide) (by decide) (by decide) dX2_init_24 (fun h3 o3 z3 => ?_)
  have w3 : wlt 8 ([(2, shX10 3 4 5), (3, shI 13), (4, shI 13), (5, shI 13), (6, shI 5), (7, shI 5)]) := (w2.mono (by decide)).app (wlt.cons ⟨by decide, Or.inl (by decide)⟩ (wlt.nl 8))
  refine GC_w (S' := ((1, .inl (2, [6, 10, 3, 3, 0, 0, 0, 2])) :: [(2, shX10 3 4 5), (3, shI 13), (4, shI 13), (5, shI 13), (6, shI 5), (7, shI 5)])) rfl ?_
  refine GC_putr (k := 2) (j := 7) (q := (RX2, TX2, 8)) tyX2 rfl inX2 tyX2_ok nmX2 (by decide) (by decide) (fun _ => rfl) (fun _ => rfl) rfl rfl hF_X2_22 dX2_init_26 rfl ?_
  refine GC_w (S' := ((1, .inl (2, [6, 10, 11, 3, 0, 0, 0, 2])) :: [(2, shX10 3 4 5), (3, shI 13), (4, shI 13), (5, shI 13), (6, shI 5), (7, shI 5)])) rfl ?_
  refine GC_aload_n 0 rfl dX2_init_29 rfl ?_
  refine GC_bipush (v := 7) dX2_init_30 (by decide) ?_
  refine GC_newaJ (n := 8) (M := 7) (f_t 124 (by decide +kernel) rfl) (by decide) (by decide) (by decide) (wlt.cons ⟨by decide, s_lt_l (by decide)⟩ w3) rfl rfl (by decide) (by decide) (by decide) dX2_init_32 (fun h4 o4 z4 => ?_)
  have w4 : wlt 9 ([(2, shX10 3 4 5), (3, shI 13), (4, shI 13), (5, shI 13), (6, shI 5), (7, shI 5), (8, shJ 7)]) := (w3.mono (by decide)).app (wlt.cons ⟨by decide, Or.inl (by decide)⟩ (wlt.nl 9))
  refine GC_w (S' := ((1, .inl (2, [6, 10, 11, 3, 0, 0, 0, 2])) :: [(2, shX10 3 4 5), (3, shI 13), (4, shI 13), (5, shI 13), (6, shI 5), (7, shI 5), (8, shJ 7)])) rfl ?_
  refine GC_putr (k := 3) (j := 8) (q := (RX2, TX2, 8)) tyX2 rfl inX2 tyX2_ok nmX2 (by decide) (by decide) (fun _ => rfl) (fun _ => rfl) rfl rfl hF_X2_25 dX2_init_34 rfl ?_
  refine GC_w (S' := ((1, .inl (2, [6, 10, 11, 12, 0, 0, 0, 2])) :: [(2, shX10 3 4 5), (3, shI 13), (4, shI 13), (5, shI 13), (6, shI 5), (7, shI 5), (8, shJ 7)])) rfl ?_
  refine GC_aload_n 0 rfl dX2_init_37 rfl ?_
  refine GC_iconst (v := 0) dX2_init_38 (by decide) ?_
  refine GC_puti (r := 1) (k := 4) (q := (RX2, TX2, 8)) tyX2 List.mem_cons_self rfl inX2 tyX2_ok nmX2 (by decide) rfl rfl rfl hF_X2_29 dX2_init_39 (GC_nm (fun h5 e5 => ?_))
  refine GC_aload_n 0 rfl dX2_init_42 rfl ?_
  refine GC_iconst (v := 3) dX2_init_43 (by decide) ?_
  refine GC_puti (r := 1) (k := 5) (q := (RX2, TX2, 8)) tyX2 List.mem_cons_self rfl inX2 tyX2_ok nmX2 (by decide) rfl rfl rfl hF_X2_33 dX2_init_44 (GC_nm (fun h6 e6 => ?_))
  refine GC_aload_n 0 rfl dX2_init_47 rfl ?_
  refine GC_iconst (v := 0) dX2_init_48 (by decide) ?_
  refine GC_puti (r := 1) (k := 6) (q := (RX2, TX2, 8)) tyX2 List.mem_cons_self rfl inX2 tyX2_ok nmX2 (by decide) rfl rfl rfl hF_X2_36 dX2_init_49 (GC_nm (fun h7 e7 => ?_))
  refine GC_aload_n 0 rfl dX2_init_52 rfl ?_
  refine GC_iconst (v := 0) dX2_init_53 (by decide) ?_
  refine GC_putz (r := 1) (k := 7) (q := (RX2, TX2, 8)) tyX2 List.mem_cons_self rfl inX2 tyX2_ok nmX2 (by decide) rfl (by decide) rfl rfl hF_X2_39 dX2_init_54 (GC_nm (fun h8 e8 => ?_))
  refine GC_w (S' := cwX2) rfl ?_
  refine GC_iconst (v := 0) dX2_init_57 (by decide) ?_
  refine GC_istore_n dX2_init_58 rfl (by decide) rfl ?_
  have rz : h8.2.2.1 6 = fun _ => 0 := by rw [e8, e7, e6, e5]; show h4.2.2.1 6 = _; rw [(o4 6 (by decide)).2.2.1, (o3 6 (by decide)).2.2.1]; exact z2
  have key : ∀ (m i : Nat) (g : fH), m + i = 5 → fOff [6] h8 g → (∀ j, j < i → g.2.2.1 6 j = 1) → (∀ j, i ≤ j → g.2.2.1 6 j = 0) → GC mX2_init (d + 3) 7 60 cwX2 (fun h => PcOk h 1 2 3 4 5 6 7 8 pg0 ∧ h.1 1 7 = 0 ∧ PcZ h 6 7 8) cwX2 7 60 59 [(1, .int (nI i)), (0, .ref 1)] [] g := by
    intro m
    induction m with
    | zero =>
      intro i g hm o9 a1 a2
      have ei : i = 5 := by omega
      subst ei
      refine GC_iload_n 0 rfl dX2_init_59 rfl ?_
      refine GC_iconst (v := 5) dX2_init_60 (by decide) ?_
      refine GC_icmp_ge (tgt := 77) dX2_init_61 (by decide) (fun _ => ?_) (fun q => absurd (by decide) q)
      refine GC_vret rfl dX2_init_77 rfl rfl rfl ?_
      have q1 : ∀ a, a ≠ 6 → a ≠ 1 → fEq a h4 g := fun a h6 h1 => by
        have := o9 a (by simpa using h6)
        rw [e8, e7, e6, e5] at this
        refine ⟨?_, this.2.1, this.2.2.1, this.2.2.2⟩
        rw [this.1, u_fi_o _ _ _ h1, u_fi_o _ _ _ h1, u_fi_o _ _ _ h1, u_fi_o _ _ _ h1]
      have q0 : g.1 1 = h8.1 1 := (o9 1 (by decide)).1
      have q2 : ∀ a, a < 6 → a ≠ 1 → fEq a h1 g := fun a h6 h1 => (fEq.lt o2 (by omega)).tr ((fEq.lt o3 (by omega)).tr ((fEq.lt o4 (by omega)).tr (q1 a (by omega) h1)))
      have t1 : TxOk h1 2 3 4 5 (rw' [97]) 1 := TxOk.sh p1 s1 (by decide) (by decide) (by decide) (by decide)
      have n6 : g.2.2.1 6 = num1 := funext fun j => by
        unfold num1
        by_cases q : j < 5
        · rw [if_pos q]; exact a1 j q
        · rw [if_neg q]; exact a2 j (by omega)
      have n7 : g.2.2.1 7 = fun _ => 0 := by rw [(q1 7 (by decide) (by decide)).2.2.1, (o4 7 (by decide)).2.2.1]; exact z3
      have n8 : g.2.2.2 8 = fun _ => 0 := by rw [(q1 8 (by decide) (by decide)).2.2.2]; exact z4
      refine ⟨⟨t1.eq (q2 2 (by decide) (by decide)) (q2 3 (by decide) (by decide)) (q2 4 (by decide) (by decide)) (q2 5 (by decide) (by decide)), n6, n7, n8, ?_, ?_, ?_⟩, ?_, ?_, ?_, ?_⟩
      · rw [q0, e8, u_fi_n _ _ (by decide), e7, u_fi_n _ _ (by decide), e6, u_fi_n _ _ (by decide), e5, u_fi_s]; rfl
      · rw [q0, e8, u_fi_n _ _ (by decide), e7, u_fi_n _ _ (by decide), e6, u_fi_s]; rfl
      · rw [q0, e8, u_fi_n _ _ (by decide), e7, u_fi_s]; rfl
      · rw [q0, e8, u_fi_s]
      · rw [n6]; exact fun j hj => by unfold num1; rw [if_neg (by omega)]
      · rw [n7]; exact fun j hj => rfl
      · rw [n8]; exact fun j hj => rfl
    | succ m ih =>
      intro i g hm o9 a1 a2
      refine GC_iload_n 0 rfl dX2_init_59 rfl ?_
      refine GC_iconst (v := 5) dX2_init_60 (by decide) ?_
      refine GC_icmp_ge (tgt := 77) dX2_init_61 (by decide) (fun q => absurd q (nI_ge (a := i) (b := 5) (by omega) (by decide))) (fun _ => ?_)
      refine GC_aload_n 1 rfl dX2_init_64 rfl ?_
      refine GC_getr (k := 1) (j := 6) (q := (RX2, TX2, 8)) List.mem_cons_self rfl inX2 (by decide) rfl hF_X2_18 dX2_init_65 ?_
      refine GC_iload_n 0 rfl dX2_init_68 rfl ?_
      refine GC_iconst (v := 1) dX2_init_69 (by decide) ?_
      refine GC_iast (a := 6) (n := 5) (List.mem_of_getElem? (i := 5) rfl) (vp_in_nI (by omega) (by decide)) dX2_init_70 ?_
      rw [nI_clamp (by omega)]
      refine GC_iinc (v := 1) 0 rfl dX2_init_71 (by decide) (by decide) rfl ?_
      rw [nI1]
      refine GC_goto (tgt := 59) dX2_init_74 (by decide) ?_
      refine ih (i + 1) _ (by omega) (o9.of (f_off_ai _ _ _) (by simp)) (fun j hj => ?_) (fun j hj => ?_)
      · rw [u_ai_s]
        by_cases c : j = i
        · subst c; rw [upd_s]
        · rw [upd_n _ _ c]; exact a1 j (by omega)
      · rw [u_ai_s, upd_n _ _ (by omega)]; exact a2 j (by omega)
  exact key 5 0 h8 rfl fOff.rf (fun j hj => by omega) (fun j _ => by rw [rz])

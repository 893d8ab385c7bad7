/-! ===== the law's loop ===== -/
section LAWL
variable {p : Program} {l : Launch} {e : Env} {s : State} {m : MethodId} {below : List Frame} {meth : Method} {c : Code} {b L : Nat} {xs : Nat → Int32} {D : va_G} {cA : Nat → ClassId} {a0 : Nat} {σ1 σ2 : Nat → Nat}
theorem lw_head {H : Heap} {locs : List Loc} {ls : Array Slot} {x3 : Int32} (E : lw_En p s m meth c b L xs D cA a0) (hS : va_S (fun q => s.heap.size ≤ q) s.heap H locs) (hl : lv_has ls 4 [(3, .int x3), (2, .ref (σ2 1)), (1, .ref (σ1 1)), (0, .ref b)])
    (kf : ¬ Int32.ofNat L - 4 < x3 → W p l e room_1 s m #[Value.ref b] below meth c H locs 600000 7302250 (lw_Z below #[Value.ref b] s) (F0 m 26 ls [])) : W p l e room_1 s m #[Value.ref b] below meth c H locs 600000 7302250 (lw_Z below #[Value.ref b] s) (F0 m 18 ls []) := by
  obtain ⟨hx, hb, hr, hml4, hown, htl, hX, hbl, hlocks, hgv⟩ := E.1
  have hbA : ¬ (fun q : Nat => s.heap.size ≤ q) b := Nat.not_le.mpr hbl
  refine lv_iload_n hx hb dL_18 rfl (lv_at hl 0 rfl) ?_
  refine lv_aload_n hx hb dL_19 rfl (lv_at hl 3 rfl) ?_
  refine va_slen hx hb hX hbl hbA hS dL_20 ?_
  refine lv_iconst (v := 4) hx hb dL_21 (by decide) ?_
  refine lv_isub hx hb dL_22 ?_
  refine lv_icmp_gt (tgt := 920) hx hb dL_23 (by decide) (fun _ => ?_) kf
  refine lv_iconst (v := 1) hx hb dL_920 (by decide) ?_
  refine va_forget (fun q hq => hS.2.2 q hq) ?_
  exact lw_ret hx hb hr hlocks dL_921
theorem lw_body {H : Heap} {locs : List Loc} {ls : Array Slot} {h1 h2 : fH} {X : stP} {x3 : Int32} (E : lw_En p s m meth c b L xs D cA a0) (e1 : σ1 0 = a0) (e2 : σ2 0 = a0) (w : LWd D cA σ1 σ2 h1 h2 (fun q => s.heap.size ≤ q) H) (hS : va_S (fun q => s.heap.size ≤ q) s.heap H locs) (hl : lv_has ls 4 [(3, .int x3), (2, .ref (σ2 1)), (1, .ref (σ1 1)), (0, .ref b)]) (i0 : vp_in x3 L) (i1 : vp_in (x3 + 1) L) (i2 : vp_in (x3 + 2) L) (i3 : vp_in (x3 + 3) L) (x : CRel h1 X) (y : MRel h2 X) (v : StV X) (kk : lwK p l e s m below meth c b D cA σ1 σ2 ls) : W p l e room_1 s m #[Value.ref b] below meth c H locs 600000 7302250 (lw_Z below #[Value.ref b] s) (F0 m 26 ls []) := by
  obtain ⟨hx, hb, hr, hml4, hown, htl, hX, hbl, hlocks, hgv⟩ := E.1
  have hbA : ¬ (fun q : Nat => s.heap.size ≤ q) b := Nat.not_le.mpr hbl
  refine lv_aload_n hx hb dL_26 rfl (lv_at hl 3 rfl) ?_
  refine lv_iload_n hx hb dL_27 rfl (lv_at hl 0 rfl) ?_
  refine va_sld hx hb hX hbl hbA hS i0 dL_28 ?_
  refine lv_bipush (v := 31) hx hb dL_29 (by decide) ?_
  refine lv_iand hx hb dL_31 ?_
  generalize xs x3.toNatClampNeg &&& 31 = z
  by_cases c0 : z = 0
  · subst c0
    exact lv_tableIn (tgt := 160) hx hb dL_32 (by decide) (by decide) rfl (by decide) (lw_k0 E e1 e2 w hS hl i1 i2 i3 x y v kk)
  by_cases c1 : z = 1
  · subst c1
    exact lv_tableIn (tgt := 193) hx hb dL_32 (by decide) (by decide) rfl (by decide) (lw_k1 E e1 e2 w hS hl i1 i2 i3 x y v kk)
  by_cases c2 : z = 2
  · subst c2
    exact lv_tableIn (tgt := 237) hx hb dL_32 (by decide) (by decide) rfl (by decide) (lw_k2 E e1 e2 w hS hl i1 i2 i3 x y v kk)
  by_cases c3 : z = 3
  · subst c3
    exact lv_tableIn (tgt := 260) hx hb dL_32 (by decide) (by decide) rfl (by decide) (lw_k3 E e1 e2 w hS hl i1 i2 i3 x y v kk)
  by_cases c4 : z = 4
  · subst c4
    exact lv_tableIn (tgt := 273) hx hb dL_32 (by decide) (by decide) rfl (by decide) (lw_k4 E e1 e2 w hS hl i1 i2 i3 x y v kk)
  by_cases c5 : z = 5
  · subst c5
    exact lv_tableIn (tgt := 286) hx hb dL_32 (by decide) (by decide) rfl (by decide) (lw_k5 E e1 e2 w hS hl i1 i2 i3 x y v kk)
  by_cases c6 : z = 6
  · subst c6
    exact lv_tableIn (tgt := 299) hx hb dL_32 (by decide) (by decide) rfl (by decide) (lw_k6 E e1 e2 w hS hl i1 i2 i3 x y v kk)
  by_cases c7 : z = 7
  · subst c7
    exact lv_tableIn (tgt := 322) hx hb dL_32 (by decide) (by decide) rfl (by decide) (lw_k7 E e1 e2 w hS hl i1 i2 i3 x y v kk)
  by_cases c8 : z = 8
  · subst c8
    exact lv_tableIn (tgt := 365) hx hb dL_32 (by decide) (by decide) rfl (by decide) (lw_k8 E e1 e2 w hS hl i1 i2 i3 x y v kk)
  by_cases c9 : z = 9
  · subst c9
    exact lv_tableIn (tgt := 399) hx hb dL_32 (by decide) (by decide) rfl (by decide) (lw_k9 E e1 e2 w hS hl i1 i2 i3 x y v kk)
  by_cases c10 : z = 10
  · subst c10
    exact lv_tableIn (tgt := 423) hx hb dL_32 (by decide) (by decide) rfl (by decide) (lw_k10 E e1 e2 w hS hl i1 i2 i3 x y v kk)
  by_cases c11 : z = 11
  · subst c11
    exact lv_tableIn (tgt := 437) hx hb dL_32 (by decide) (by decide) rfl (by decide) (lw_k11 E e1 e2 w hS hl i1 i2 i3 x y v kk)
  by_cases c12 : z = 12
  · subst c12
    exact lv_tableIn (tgt := 450) hx hb dL_32 (by decide) (by decide) rfl (by decide) (lw_k12 E e1 e2 w hS hl i1 i2 i3 x y v kk)
  by_cases c13 : z = 13
  · subst c13
    exact lv_tableIn (tgt := 503) hx hb dL_32 (by decide) (by decide) rfl (by decide) (lw_k13 E e1 e2 w hS hl i1 i2 i3 x y v kk)
  by_cases c14 : z = 14
  · subst c14
    exact lv_tableIn (tgt := 556) hx hb dL_32 (by decide) (by decide) rfl (by decide) (lw_k14 E e1 e2 w hS hl i1 i2 i3 x y v kk)
  by_cases c15 : z = 15
  · subst c15
    exact lv_tableIn (tgt := 569) hx hb dL_32 (by decide) (by decide) rfl (by decide) (lw_k15 E e1 e2 w hS hl i1 i2 i3 x y v kk)
  by_cases c16 : z = 16
  · subst c16
    exact lv_tableIn (tgt := 593) hx hb dL_32 (by decide) (by decide) rfl (by decide) (lw_k16 E e1 e2 w hS hl i1 i2 i3 x y v kk)
  by_cases c17 : z = 17
  · subst c17
    exact lv_tableIn (tgt := 617) hx hb dL_32 (by decide) (by decide) rfl (by decide) (lw_k17 E e1 e2 w hS hl i1 i2 i3 x y v kk)
  by_cases c18 : z = 18
  · subst c18
    exact lv_tableIn (tgt := 641) hx hb dL_32 (by decide) (by decide) rfl (by decide) (lw_k18 E e1 e2 w hS hl i1 i2 i3 x y v kk)
  by_cases c19 : z = 19
  · subst c19
    exact lv_tableIn (tgt := 674) hx hb dL_32 (by decide) (by decide) rfl (by decide) (lw_k19 E e1 e2 w hS hl i1 i2 i3 x y v kk)
  by_cases c20 : z = 20
  · subst c20
    exact lv_tableIn (tgt := 698) hx hb dL_32 (by decide) (by decide) rfl (by decide) (lw_k20 E e1 e2 w hS hl i1 i2 i3 x y v kk)
  by_cases c21 : z = 21
  · subst c21
    exact lv_tableIn (tgt := 722) hx hb dL_32 (by decide) (by decide) rfl (by decide) (lw_k21 E e1 e2 w hS hl i1 i2 i3 x y v kk)
  by_cases c22 : z = 22
  · subst c22
    exact lv_tableIn (tgt := 755) hx hb dL_32 (by decide) (by decide) rfl (by decide) (lw_k22 E e1 e2 w hS hl i1 i2 i3 x y v kk)
  by_cases c23 : z = 23
  · subst c23
    exact lv_tableIn (tgt := 788) hx hb dL_32 (by decide) (by decide) rfl (by decide) (lw_k23 E e1 e2 w hS hl i1 i2 i3 x y v kk)
  by_cases c24 : z = 24
  · subst c24
    exact lv_tableIn (tgt := 812) hx hb dL_32 (by decide) (by decide) rfl (by decide) (lw_k24 E e1 e2 w hS hl i1 i2 i3 x y v kk)
  by_cases c25 : z = 25
  · subst c25
    exact lv_tableIn (tgt := 845) hx hb dL_32 (by decide) (by decide) rfl (by decide) (lw_k25 E e1 e2 w hS hl i1 i2 i3 x y v kk)
  by_cases c26 : z = 26
  · subst c26
    exact lv_tableIn (tgt := 868) hx hb dL_32 (by decide) (by decide) rfl (by decide) (lw_k26 E e1 e2 w hS hl i1 i2 i3 x y v kk)
  by_cases c27 : z = 27
  · subst c27
    exact lv_tableIn (tgt := 891) hx hb dL_32 (by decide) (by decide) rfl (by decide) (lw_k27 E e1 e2 w hS hl i1 i2 i3 x y v kk)
  exact lv_tableOut (tgt := 914) hx hb dL_32 (f_tab28 c0 c1 c2 c3 c4 c5 c6 c7 c8 c9 c10 c11 c12 c13 c14 c15 c16 c17 c18 c19 c20 c21 c22 c23 c24 c25 c26 c27) (by decide) (kk _ _ _ _ _ x y v w hS)
theorem lw_loop (hL : L ≤ 2048) (E : lw_En p s m meth c b L xs D cA a0) (e1 : σ1 0 = a0) (e2 : σ2 0 = a0) : ∀ (k i : Nat) (H : Heap) (locs : List Loc) (ls : Array Slot) (h1 h2 : fH) (X : stP), L ≤ i + k → i ≤ 4000 → CRel h1 X → MRel h2 X → StV X → LWd D cA σ1 σ2 h1 h2 (fun q => s.heap.size ≤ q) H → va_S (fun q => s.heap.size ≤ q) s.heap H locs → lv_has ls 4 [(3, .int (nI i)), (2, .ref (σ2 1)), (1, .ref (σ1 1)), (0, .ref b)] →
    W p l e room_1 s m #[Value.ref b] below meth c H locs 600000 7302250 (lw_Z below #[Value.ref b] s) (F0 m 18 ls []) := by
  have cmp : ∀ i : Nat, i ≤ 4000 → ¬ Int32.ofNat L - 4 < nI i → i + 4 ≤ L := by
    intro i hi q
    have q := Int32.not_lt.mp q
    rw [Int32.le_iff_toInt_le, nI_toInt (by omega), show Int32.ofNat L = nI L from rfl, i_sub_toInt (by rw [nI_toInt (by omega)]; simp; omega) (by rw [nI_toInt (by omega)]; simp; omega), nI_toInt (by omega)] at q
    simp at q
    omega
  intro k
  induction k with
  | zero =>
    intro i H locs ls h1 h2 X hk hi x y v w hS hl
    refine lw_head E hS hl (fun q => ?_)
    have := cmp i hi q
    omega
  | succ k ih =>
    intro i H locs ls h1 h2 X hk hi x y v w hS hl
    refine lw_head E hS hl (fun q => ?_)
    have hc := cmp i hi q
    refine lw_body E e1 e2 w hS hl (vp_in_nI (by omega) (by omega)) (by rw [nI1]; exact vp_in_nI (by omega) (by omega)) (by rw [show nI i + 2 = nI (i + 2) from nI_add i 2]; exact vp_in_nI (by omega) (by omega)) (by rw [show nI i + 3 = nI (i + 3) from nI_add i 3]; exact vp_in_nI (by omega) (by omega)) x y v (fun h1 h2 X H locs x y v w hS => ?_)
    obtain ⟨hx, hb, hr, hml4, hown, htl, hX, hbl, hlocks, hgv⟩ := E.1
    refine lv_iinc (v := nI (i + 4)) (lv' := [(3, .int (nI (i + 4))), (2, .ref (σ2 1)), (1, .ref (σ1 1)), (0, .ref b)]) hx hb dL_914 hl (k := 0) rfl (by first | exact nI_add i 4 | exact (nI_add i 4).symm) (by decide) rfl (fun ls hl => ?_)
    refine lv_goto (tgt := 18) hx hb dL_917 (by decide) ?_
    exact ih (i + 4) H locs ls h1 h2 X (by omega) (by omega) x y v w hS hl
end LAWL
theorem lw_joined {D : va_G} {cA : Nat → ClassId} {σ1 σ2 : Nat → Nat} {h1 h2 : fH} {A : Nat → Prop} {H : Heap} (hP : va_P D f_cl (f_w σ1 cA h1 SC ++ f_w σ2 cA h2 SM) H) (hD : va_D A (f_w σ1 cA h1 SC ++ f_w σ2 cA h2 SM)) : LWd D cA σ1 σ2 h1 h2 A H := by
  have lf : ∀ {k : Nat} {q : Nat × va_E}, (f_w σ1 cA h1 SC)[k]? = some q → (f_w σ1 cA h1 SC ++ f_w σ2 cA h2 SM)[k]? = some q := fun {k q} hk => by
    rw [List.getElem?_append_left (List.getElem?_eq_some_iff.mp hk).1]; exact hk
  have rt : ∀ {k : Nat} {q : Nat × va_E}, (f_w σ2 cA h2 SM)[k]? = some q → (f_w σ1 cA h1 SC ++ f_w σ2 cA h2 SM)[(f_w σ1 cA h1 SC).length + k]? = some q := fun {k q} hk => by
    rw [List.getElem?_append_right (by omega), Nat.add_sub_cancel_left]; exact hk
  refine ⟨fun k q hk => hP k q (lf hk), fun k q hk => hP _ q (rt hk), ⟨fun i j r t hi hj e => hD.1 i j r t (lf hi) (lf hj) e, fun k q hk => hD.2 k q (lf hk)⟩, ⟨fun i j r t hi hj e => by have := hD.1 _ _ r t (rt hi) (rt hj) e; omega, fun k q hk => hD.2 _ q (rt hk)⟩, fun r hr t ht e => ?_⟩
  obtain ⟨i, hi⟩ := List.getElem?_of_mem hr
  obtain ⟨j, hj⟩ := List.getElem?_of_mem ht
  have a1 := f_w_get (σ := σ1) (cA := cA) (h := h1) hi
  have a2 := f_w_get (σ := σ2) (cA := cA) (h := h2) hj
  have := hD.1 _ _ _ _ (lf a1) (rt a2) e
  have := (List.getElem?_eq_some_iff.mp a1).1
  omega
theorem lw_free {A : Nat → Prop} {H0 H : Heap} {locs : List Loc} {w0 : va_W} {r : Nat × va_E} (hD : va_D A (w0 ++ [r])) (hS : va_S A H0 H locs) (hA : ∀ q : Nat, H0.size ≤ q → A q) : ∀ q, va_A [r] H.size q → A q := by
  intro q hq
  rcases hq with ⟨k, ex, hx⟩ | hq
  · have : k = 0 := by have := (List.getElem?_eq_some_iff.mp hx).1; simp at this; exact this
    subst this
    cases hx
    exact hD.2 w0.length _ (by rw [List.getElem?_append_right (Nat.le_refl _), Nat.sub_self]; rfl)
  · exact hA q (Nat.le_trans hS.1 hq)
set_option maxHeartbeats 4000000 in
/-- THE LAW, from its entry -/
theorem whole_start {p : Program} {e : Env} {s : State} {m : MethodId} {below : List Frame} {meth : Method} {c : Code} (l : Launch) {b L : Nat} {xs : Nat → Int32} (hL : L ≤ 2048) (C0 : lw_At p s m meth c b L xs) : W p l e room_1 s m #[Value.ref b] below meth c s.heap [] 0 0 (lw_Z below #[Value.ref b] s) (entryFrame m ([Value.ref b] : List Value).toArray 4) := by
  obtain ⟨hx, hb, hr, hml, hown, htl, hX, hbl, hlocks, hgv⟩ := id C0
  have ft := f_of_lw htl
  obtain ⟨D, cA, hK, hao⟩ := st_K htl
  obtain ⟨a0, hsgA⟩ := st_sg htl hgv
  have hsg := hsgA (fun q => s.heap.size ≤ q) (fun a ha => Nat.not_le.mpr ha)
  have E : lw_En p s m meth c b L xs D cA a0 := ⟨C0, hK, hao, hsg⟩
  have hA : ∀ q : Nat, s.heap.size ≤ q → (fun q : Nat => s.heap.size ≤ q) q := fun _ h => h
  have hS : va_S (fun q : Nat => s.heap.size ≤ q) s.heap s.heap [] := va_S.rf
  have hP : va_P D f_cl [] s.heap := fun k q h => by simp at h
  have hD : va_D (fun q : Nat => s.heap.size ≤ q) [] := ⟨fun i j p q h => by simp at h, fun k q h => by simp at h⟩
  have hl := lv_entry ([.ref b]) (n := 4) (Nat.le_of_ble_eq_true rfl)
  rw [lg_entry_eq]
  generalize (lg_sl ([.ref b]) ++ List.replicate (4 - (lg_sl ([.ref b])).length) Slot.unset).toArray = ls at hl ⊢
  have hl : lv_has ls 4 [(0, .ref b)] := hl
  refine va_new (ci := 10) (fs := f_fs id fZ 0 0 [3, 3, 3, 3, 0, 3, 3, 3, 3, 3, 3, 3]) hx hb ft inX11 tyX11 tyX11_ok hown (ft (.classLink RL 7 RX11) (f_t 16 (by decide +kernel) rfl)) (ft (.instantiable RX11 12) (f_t 17 (by decide +kernel) rfl)) (ft _ hN_X11) hK hP hD hS hA rfl (by decide +kernel) (by decide) (by decide) dL_0 (fun q1 H hP hD hS => ?_)
  refine lv_dup hx hb dL_3 rfl ?_
  have hF := lw_free (w0 := []) hD hS hA
  have hrun : va_Run p l e room_1 s m #[Value.ref b] below meth c H [] (0 + 1) (0 + 12) 84 663 (F0 m (0 + 3 + 1) ls [.ref q1, .ref q1]) [.ref q1] (f_QC D cA a0 q1 (va_A [(q1, .inr (10, f_fs id fZ 0 0 [3, 3, 3, 3, 0, 3, 3, 3, 3, 3, 3, 3]))] H.size) SC (fun h => CRel h X0) (Value.ref q1 :: []).toArray) (va_A [(q1, .inr (10, f_fs id fZ 0 0 [3, 3, 3, 3, 0, 3, 3, 3, 3, 3, 3, 3]))] H.size) :=
    va_runI (As := []) ⟨hx, hb, hml, hown, ft⟩ (kX11_init (d := 16) l D cA a0 q1 H.size) (cwI 0 ft (f_good mX11_init hC_X11_init) rfl rfl rfl (ft _ hN_X11) (ft _ hL_L_9) (ft _ hI_X11_init) rfl nX11_init ⟨by decide, by decide⟩) (fc_pre (w0 := []) hP hS hK hsg hao hF) rfl rfl hl.1 rfl (lv_room (Nat.le_of_ble_eq_true rfl)) dL_4 ⟨by decide, by decide⟩
  refine fc_init (w0 := []) (x := (q1, .inr (10, f_fs id fZ 0 0 [3, 3, 3, 3, 0, 3, 3, 3, 3, 3, 3, 3]))) hrun hP hD hS hF (fun σ1 h1 H locs z0 z1 x1 hP hD hS => ?_)
  have z1 : σ1 1 = q1 := z1
  refine lv_astore_n (lv' := [(1, .ref q1), (0, .ref b)]) hx hb dL_7 rfl hl (by decide) rfl (fun ls hl => ?_)
  have hP : va_P D f_cl (f_w σ1 cA h1 SC) H := hP
  have hD : va_D (fun q : Nat => s.heap.size ≤ q) (f_w σ1 cA h1 SC) := hD
  refine va_new (ci := 11) (fs := f_fs id fZ 0 0 [0, 0, 1, 0, 1, 1, 0, 3, 0, 3, 0, 3, 3, 3, 0, 3, 3, 3, 3, 3, 3, 3, 0, 3, 1, 0, 3, 3, 3, 3, 0, 3, 0, 1, 3, 0, 3, 3, 0, 2]) hx hb ft inX12 tyX12 tyX12_ok hown (ft (.classLink RL 10 RX12) (f_t 837 (by decide +kernel) rfl)) (ft (.instantiable RX12 40) (f_t 838 (by decide +kernel) rfl)) (ft _ hN_X12) hK hP hD hS hA rfl (by decide +kernel) (by decide) (by decide) dL_8 (fun q2 H hP hD hS => ?_)
  refine lv_dup hx hb dL_11 rfl ?_
  have hF := lw_free hD hS hA
  have hrun : va_Run p l e room_1 s m #[Value.ref b] below meth c H locs (0 + 1 + 84 + 1) (0 + 12 + 663 + 40) 21 313 (F0 m (8 + 3 + 1) ls [.ref q2, .ref q2]) [.ref q2] (f_QC D cA a0 q2 (va_A [(q2, .inr (11, f_fs id fZ 0 0 [0, 0, 1, 0, 1, 1, 0, 3, 0, 3, 0, 3, 3, 3, 0, 3, 3, 3, 3, 3, 3, 3, 0, 3, 1, 0, 3, 3, 3, 3, 0, 3, 0, 1, 3, 0, 3, 3, 0, 2]))] H.size) SM (fun h => MRel h X0) (Value.ref q2 :: []).toArray) (va_A [(q2, .inr (11, f_fs id fZ 0 0 [0, 0, 1, 0, 1, 1, 0, 3, 0, 3, 0, 3, 3, 3, 0, 3, 3, 3, 3, 3, 3, 3, 0, 3, 1, 0, 3, 3, 3, 3, 0, 3, 0, 1, 3, 0, 3, 3, 0, 2]))] H.size) :=
    va_runI (As := []) ⟨hx, hb, hml, hown, ft⟩ (kX12_init (d := 19) l D cA a0 q2 H.size) (cwI 0 ft (f_good mX12_init hC_X12_init) rfl rfl rfl (ft _ hN_X12) (ft _ hL_L_12) (ft _ hI_X12_init) rfl nX12_init ⟨by decide, by decide⟩) (fc_pre hP hS hK hsg hao hF) rfl rfl hl.1 rfl (lv_room (Nat.le_of_ble_eq_true rfl)) dL_12 ⟨by decide, by decide⟩
  refine fc_init (x := (q2, .inr (11, f_fs id fZ 0 0 [0, 0, 1, 0, 1, 1, 0, 3, 0, 3, 0, 3, 3, 3, 0, 3, 3, 3, 3, 3, 3, 3, 0, 3, 1, 0, 3, 3, 3, 3, 0, 3, 0, 1, 3, 0, 3, 3, 0, 2]))) hrun hP hD hS hF (fun σ2 h2 H locs y0 y1 x2 hP hD hS => ?_)
  have y1 : σ2 1 = q2 := y1
  refine lv_astore_n (lv' := [(2, .ref q2), (1, .ref q1), (0, .ref b)]) hx hb dL_15 rfl hl (by decide) rfl (fun ls hl => ?_)
  refine lv_iconst (v := 0) hx hb dL_16 (by decide) ?_
  refine lv_istore_n (lv' := [(3, .int 0), (2, .ref q2), (1, .ref q1), (0, .ref b)]) hx hb dL_17 rfl hl (by decide) rfl (fun ls hl => ?_)
  refine W.widen (k := 600000) (n := 7302250) (by decide) (by decide) ?_
  rw [← z1, ← y1] at hl
  exact lw_loop hL E z0 y0 L 0 H locs ls h1 h2 X0 (by omega) (by omega) x1 x2 X0_ok (lw_joined hP hD) hS hl

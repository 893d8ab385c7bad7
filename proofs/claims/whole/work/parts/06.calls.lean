section GCALLS
variable {Y : fM} {d : Nat} {S : fW} {Post : Option Value → fH → Prop} {pc : Nat} {lv lv' : List (Nat × Value)} {st : List Value} {h : fH}
theorem f_catsum (σ : Nat → Nat) (st : List Value) : ((st.map (f_v σ)).map fun v => v.category).sum = (st.map fun v => v.category).sum := by
  rw [List.map_map]
  congr 1
  apply List.map_congr_left
  intro v _
  exact f_v_cat σ v
/-- what a callee's name must be -/
def f_nm (y : MethodName) (n : Nat) : Prop := y.cls ≠ "java/lang/invoke/MethodHandle" ∧ y.cls ≠ "java/lang/invoke/VarHandle" ∧ (parseMethodDescriptor y.desc).map (fun d => d.parameters.length) = some n
theorem f_pre {D : va_G} {cA : Nat → ClassId} {σ : Nat → Nat} {A : Nat → Prop} {s : State} {H : Heap} {locs : List Loc} {vs : List Value} (hP : va_P D f_cl (f_w σ cA h S) H) (hD : va_D A (f_w σ cA h S)) (hS : va_S A s.heap H locs) (hK : va_K D f_cl (f_tys cA) s) (hA : ∀ q : Nat, s.heap.size ≤ q → A q) (hg : f_sg σ A s s.heap) : ∀ U : State, U.heap = H → s.WarmedH U.vm → f_Pc D cA σ A S vs h (vs.map (f_v σ)).toArray U := by
  intro U hU hW
  refine ⟨rfl, ⟨by rw [hU]; exact hP, hD⟩, va_K.moved hW.alike hK, fun q hq => hA q (Nat.le_trans hS.1 (by rw [← hU]; exact hq)), ?_⟩
  rw [hU]
  exact f_sg_kept (f_sg_warm hW hg) hS.2.1
/-- a call of a method of an object's class -/
theorem G_callV {Z : fM} {index ci b n : Nat} {fds : List Nat} {q : vw_C} {As : List Value} {Q : Option Value → fH → Prop} (hlink : Cond.methodLink Y.1.cls index Z.1 ∈ f_tbl) (hI : Cond.instanceMethod Z.1 ∈ f_tbl) (hSel : Cond.selects Z.1.cls Z.1 Z.1 ∈ f_tbl) (hC : Cond.code Z.1 Z.2.1 Z.2.2.1 Z.2.2.2 ∈ f_tbl) (hN : Cond.initialized Z.1.cls ∈ f_tbl) (hnm : f_nm Z.1 n) (hml : Z.2.2.1 ≤ 77) (hm : (b, .inl (ci, fds)) ∈ S) (hc : f_cl[ci]? = some q) (hq : q.1 = Z.1.cls) (hn : As.length = n) (hst : (st.map fun v => v.category).sum ≤ 8) (hd : decode Y.2.1 pc = .ok (.invokevirtual index, 3)) (ok : Ok d Z S (.ref b :: As) h Q) (kk : ∀ r h', Q r h' → G Y (d + 1) S Post (pc + 3) lv (r.toList ++ st) h') : G Y (d + 1) S Post pc lv (As.reverse ++ .ref b :: st) h := by
  intro p l e s m args below meth c D cA σ A E H locs ls hP hD hS hl
  obtain ⟨q0, hq0⟩ := List.getElem?_of_mem hm
  have hts := E.2.2.2.2.2.1
  have hK := E.2.2.2.2.2.2.2.2.1
  have hrv := va_recv hK hP hc (f_w_get (σ := σ) (cA := cA) (h := h) hq0)
  rw [hq] at hrv
  have cw : CallW (f_room (d + 1)) s args Y.1.cls Z.1.cls index Z.1 Z.2.1 Z.2.2.1 Z.2.2.2 (.code Z.1 Z.2.1 Z.2.2.1 Z.2.2.2 :: f_tbl) (f_room d) 0 0 n := ⟨callB_of n hts (f_good Z hC) rfl rfl rfl (hts _ hN) (hts _ hlink) hnm ⟨Nat.le_refl _, by simp only [f_room]; omega⟩, hts _ hI, hts _ hSel⟩
  have hstk : (As.reverse ++ .ref b :: st).map (f_v σ) = (As.map (f_v σ)).reverse ++ .ref (σ b) :: st.map (f_v σ) := by simp [f_v]
  rw [hstk]
  refine f_call (va_runV (As := As.map (f_v σ)) (b := σ b) (C := Z.1.cls) ⟨E.1, E.2.1, E.2.2.1, E.2.2.2.2.1, hts⟩ (ok l D cA σ A) cw ⟨f_blind D cA σ A S (.ref b :: As) h, hrv, f_pre hP hD hS hK E.2.2.2.2.2.2.2.2.2 E.2.2.2.2.2.2.1⟩ rfl (by simpa using hn) hl.1 rfl (lv_room (by rw [f_catsum]; exact hst)) hd ⟨Nat.le_refl _, Nat.le_refl _⟩) hS (fun r h' H1 locs1 hr hP hD hS => ?_)
  exact kk r h' hr p l e s m args below meth c D cA σ A E H1 locs1 ls hP hD hS hl
/-- a call of a static method -/
theorem G_callS {Z : fM} {index n : Nat} {As : List Value} {Q : Option Value → fH → Prop} (hlink : Cond.methodLink Y.1.cls index Z.1 ∈ f_tbl) (hT : Cond.static Z.1 ∈ f_tbl) (hC : Cond.code Z.1 Z.2.1 Z.2.2.1 Z.2.2.2 ∈ f_tbl) (hN : Cond.initialized Z.1.cls ∈ f_tbl) (hnm : f_nm Z.1 n) (hml : Z.2.2.1 ≤ 77) (hn : As.length = n) (hst : (st.map fun v => v.category).sum ≤ 8) (hd : decode Y.2.1 pc = .ok (.invokestatic index, 3)) (ok : Ok d Z S As h Q) (kk : ∀ r h', Q r h' → G Y (d + 1) S Post (pc + 3) lv (r.toList ++ st) h') : G Y (d + 1) S Post pc lv (As.reverse ++ st) h := by
  intro p l e s m args below meth c D cA σ A E H locs ls hP hD hS hl
  have hts := E.2.2.2.2.2.1
  have hK := E.2.2.2.2.2.2.2.2.1
  have cw : CallB (f_room (d + 1)) s args Y.1.cls index Z.1 Z.2.1 Z.2.2.1 Z.2.2.2 (.code Z.1 Z.2.1 Z.2.2.1 Z.2.2.2 :: f_tbl) (f_room d) 0 0 n := callB_of n hts (f_good Z hC) rfl rfl rfl (hts _ hN) (hts _ hlink) hnm ⟨Nat.le_refl _, by simp only [f_room]; omega⟩
  have hstk : (As.reverse ++ st).map (f_v σ) = (As.map (f_v σ)).reverse ++ st.map (f_v σ) := by simp
  rw [hstk]
  refine f_call (va_runS (As := As.map (f_v σ)) ⟨E.1, E.2.1, E.2.2.1, E.2.2.2.2.1, hts⟩ (ok l D cA σ A) ⟨cw, hts _ hT⟩ ⟨f_blind D cA σ A S As h, f_pre hP hD hS hK E.2.2.2.2.2.2.2.2.2 E.2.2.2.2.2.2.1⟩ rfl (by simpa using hn) hl.1 rfl (lv_room (by rw [f_catsum]; exact hst)) hd ⟨Nat.le_refl _, Nat.le_refl _⟩) hS (fun r h' H1 locs1 hr hP hD hS => ?_)
  exact kk r h' hr p l e s m args below meth c D cA σ A E H1 locs1 ls hP hD hS hl
/-- a call of a nest mate's static method -/
theorem G_callN {Z : fM} {index n : Nat} {host : String} {As : List Value} {Q : Option Value → fH → Prop} (hlink : Cond.methodLinkNest Y.1.cls index Z.1 host ∈ f_nst) (hT : Cond.static Z.1 ∈ f_tbl) (hC : Cond.code Z.1 Z.2.1 Z.2.2.1 Z.2.2.2 ∈ f_tbl) (hN : Cond.initialized Z.1.cls ∈ f_tbl) (hnm : f_nm Z.1 n) (hml : Z.2.2.1 ≤ 77) (hn : As.length = n) (hst : (st.map fun v => v.category).sum ≤ 8) (hd : decode Y.2.1 pc = .ok (.invokestatic index, 3)) (ok : Ok d Z S As h Q) (kk : ∀ r h', Q r h' → G Y (d + 1) S Post (pc + 3) lv (r.toList ++ st) h') : G Y (d + 1) S Post pc lv (As.reverse ++ st) h := by
  intro p l e s m args below meth c D cA σ A E H locs ls hP hD hS hl
  have hts := E.2.2.2.2.2.1
  have hK := E.2.2.2.2.2.2.2.2.1
  have cw : va_CN (f_room (d + 1)) s args Y.1.cls index Z.1 host Z.2.1 Z.2.2.1 Z.2.2.2 (.code Z.1 Z.2.1 Z.2.2.1 Z.2.2.2 :: f_tbl) (f_room d) 0 0 n := va_cnB n hts (f_good Z hC) rfl rfl rfl (E.2.2.2.2.2.2.1.2.2 _ hlink) (hts _ hN) hnm ⟨Nat.le_refl _, by simp only [f_room]; omega⟩
  have hstk : (As.reverse ++ st).map (f_v σ) = (As.map (f_v σ)).reverse ++ st.map (f_v σ) := by simp
  rw [hstk]
  refine f_call (va_runSN (As := As.map (f_v σ)) ⟨E.1, E.2.1, E.2.2.1, E.2.2.2.2.1, hts⟩ (ok l D cA σ A) ⟨cw, hts _ hT, trivial⟩ ⟨f_blind D cA σ A S As h, f_pre hP hD hS hK E.2.2.2.2.2.2.2.2.2 E.2.2.2.2.2.2.1⟩ rfl (by simpa using hn) hl.1 rfl (lv_room (by rw [f_catsum]; exact hst)) hd ⟨Nat.le_refl _, Nat.le_refl _⟩) hS (fun r h' H1 locs1 hr hP hD hS => ?_)
  exact kk r h' hr p l e s m args below meth c D cA σ A E H1 locs1 ls hP hD hS hl
-- Math
theorem G_mabs {index : Nat} {x : Int64} (hlink : Cond.methodLink Y.1.cls index yJ9_abs_067f4 ∈ f_tbl) (hst : (st.map fun v => v.category).sum ≤ 8) (hd : decode Y.2.1 pc = .ok (.invokestatic index, 3)) (kk : G Y (d + 1) S Post (pc + 3) lv (.long (if 0 < x then x else -x) :: st) h) : G Y (d + 1) S Post pc lv (.long x :: st) h := fun p l e s m args below meth c D cA σ A E H locs ls hP hD hS hl => va_mabs_long (rest := st.map (f_v σ)) E.1 E.2.1 (E.2.2.1.trans hl.1.symm) E.2.2.2.2.1 (E.2.2.2.2.2.1 _ hlink) (E.2.2.2.2.2.1 _ hT_J9_abs_067f4) (E.2.2.2.2.2.1 _ hN_J9) (E.2.2.2.2.2.1 _ hC_J9_abs_067f4) (Nat.le_add_left 1 d) (by rw [f_catsum]; simp only [f_room]; omega) (Nat.le_refl _) (Nat.le_refl _) hd (kk p l e s m args below meth c D cA σ A E H locs ls hP hD hS hl)
theorem G_mmaxL {index : Nat} {x y : Int64} (hlink : Cond.methodLink Y.1.cls index yJ9_max_f86c9 ∈ f_tbl) (hst : (st.map fun v => v.category).sum ≤ 8) (hd : decode Y.2.1 pc = .ok (.invokestatic index, 3)) (kk : G Y (d + 1) S Post (pc + 3) lv (.long (if y < x then x else y) :: st) h) : G Y (d + 1) S Post pc lv (.long y :: .long x :: st) h := fun p l e s m args below meth c D cA σ A E H locs ls hP hD hS hl => va_mmax_long (rest := st.map (f_v σ)) E.1 E.2.1 (E.2.2.1.trans hl.1.symm) E.2.2.2.2.1 (E.2.2.2.2.2.1 _ hlink) (E.2.2.2.2.2.1 _ hT_J9_max_f86c9) (E.2.2.2.2.2.1 _ hN_J9) (E.2.2.2.2.2.1 _ hC_J9_max_f86c9) (Nat.le_add_left 1 d) (by rw [f_catsum]; simp only [f_room]; omega) (Nat.le_refl _) (Nat.le_refl _) hd (kk p l e s m args below meth c D cA σ A E H locs ls hP hD hS hl)
theorem G_mminL {index : Nat} {x y : Int64} (hlink : Cond.methodLink Y.1.cls index yJ9_min_f86c9 ∈ f_tbl) (hst : (st.map fun v => v.category).sum ≤ 8) (hd : decode Y.2.1 pc = .ok (.invokestatic index, 3)) (kk : G Y (d + 1) S Post (pc + 3) lv (.long (if y < x then y else x) :: st) h) : G Y (d + 1) S Post pc lv (.long y :: .long x :: st) h := fun p l e s m args below meth c D cA σ A E H locs ls hP hD hS hl => va_mmin_long (rest := st.map (f_v σ)) E.1 E.2.1 (E.2.2.1.trans hl.1.symm) E.2.2.2.2.1 (E.2.2.2.2.2.1 _ hlink) (E.2.2.2.2.2.1 _ hT_J9_min_f86c9) (E.2.2.2.2.2.1 _ hN_J9) (E.2.2.2.2.2.1 _ hC_J9_min_f86c9) (Nat.le_add_left 1 d) (by rw [f_catsum]; simp only [f_room]; omega) (Nat.le_refl _) (Nat.le_refl _) hd (kk p l e s m args below meth c D cA σ A E H locs ls hP hD hS hl)
theorem G_mmaxI {index : Nat} {x y : Int32} (hlink : Cond.methodLink Y.1.cls index yJ9_max_7cf53 ∈ f_tbl) (hst : (st.map fun v => v.category).sum ≤ 8) (hd : decode Y.2.1 pc = .ok (.invokestatic index, 3)) (kk : G Y (d + 1) S Post (pc + 3) lv (.int (if x < y then y else x) :: st) h) : G Y (d + 1) S Post pc lv (.int y :: .int x :: st) h := fun p l e s m args below meth c D cA σ A E H locs ls hP hD hS hl => va_mmax (rest := st.map (f_v σ)) E.1 E.2.1 (E.2.2.1.trans hl.1.symm) E.2.2.2.2.1 (E.2.2.2.2.2.1 _ hlink) (E.2.2.2.2.2.1 _ hT_J9_max_7cf53) (E.2.2.2.2.2.1 _ hN_J9) (E.2.2.2.2.2.1 _ hC_J9_max_7cf53) (Nat.le_add_left 1 d) (by rw [f_catsum]; simp only [f_room]; omega) (Nat.le_refl _) (Nat.le_refl _) hd (kk p l e s m args below meth c D cA σ A E H locs ls hP hD hS hl)
theorem G_mminI {index : Nat} {x y : Int32} (hlink : Cond.methodLink Y.1.cls index yJ9_min_7cf53 ∈ f_tbl) (hst : (st.map fun v => v.category).sum ≤ 8) (hd : decode Y.2.1 pc = .ok (.invokestatic index, 3)) (kk : G Y (d + 1) S Post (pc + 3) lv (.int (if y < x then y else x) :: st) h) : G Y (d + 1) S Post pc lv (.int y :: .int x :: st) h := fun p l e s m args below meth c D cA σ A E H locs ls hP hD hS hl => va_mmin (rest := st.map (f_v σ)) E.1 E.2.1 (E.2.2.1.trans hl.1.symm) E.2.2.2.2.1 (E.2.2.2.2.2.1 _ hlink) (E.2.2.2.2.2.1 _ hT_J9_min_7cf53) (E.2.2.2.2.2.1 _ hN_J9) (E.2.2.2.2.2.1 _ hC_J9_min_7cf53) (Nat.le_add_left 1 d) (by rw [f_catsum]; simp only [f_room]; omega) (Nat.le_refl _) (Nat.le_refl _) hd (kk p l e s m args below meth c D cA σ A E H locs ls hP hD hS hl)
end GCALLS

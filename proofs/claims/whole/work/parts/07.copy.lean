theorem hT_copy : Cond.static arraycopyName ∈ f_tbl := f_t 605 (by decide +kernel) rfl
theorem hV_copy : Cond.native arraycopyName ∈ f_tbl := f_t 606 (by decide +kernel) rfl
section GCOPY
variable {Y : fM} {d : Nat} {S : fW} {Post : Option Value → fH → Prop} {pc : Nat} {lv lv' : List (Nat × Value)} {st : List Value} {h : fH}
theorem G_copyI {index a0 a n0 n1 : Nat} {g0 g1 : Nat → Nat} {n : Int32} (hlink : Cond.methodLink Y.1.cls index arraycopyName ∈ f_tbl) (hm0 : (a0, .inr (0, n0, g0)) ∈ S) (hm1 : (a, .inr (0, n1, g1)) ∈ S) (h3 : ¬ n < 0) (h4 : n.toNatClampNeg ≤ n0) (h5 : n.toNatClampNeg ≤ n1) (hst : (st.map fun v => v.category).sum ≤ 8) (hd : decode Y.2.1 pc = .ok (.invokestatic index, 3)) (kk : G Y (d + 1) S Post (pc + 3) lv st (u_ai h a (va_cpy (h.2.2.1 a0) (h.2.2.1 a) 0 0 n.toNatClampNeg))) : G Y (d + 1) S Post pc lv (.int n :: .int 0 :: .ref a :: .int 0 :: .ref a0 :: st) h := by
  intro p l e s m args below meth c D cA σ A E H locs ls hP hD hS hl
  obtain ⟨q0, hq0⟩ := List.getElem?_of_mem hm0
  obtain ⟨q1, hq1⟩ := List.getElem?_of_mem hm1
  have hts := E.2.2.2.2.2.1
  refine va_copyi (sp := 0) (dp := 0) (n := n) (ty := .int) (rest := st.map (f_v σ)) E.1 E.2.1 (E.2.2.1.trans hl.1.symm) E.2.2.2.2.1 (hts _ hlink) (hts _ hV_copy) (hts _ hT_copy) (hts _ hN_J10) E.2.2.2.2.2.2.2.2.1 hP hD hS q0 q1 0 0 (f_w_get hq0) (f_w_get hq1) rfl rfl rfl (by decide) (by decide) h3 (by simpa using h4) (by simpa using h5) (fun _ _ => rfl) (Nat.le_add_left 1 d) (by rw [f_catsum]; simp [f_room, nativeFrameWords]; omega) hd (fun H1 locs1 hP hD1 hS => ?_)
  have hset := f_w_set hq1 hD (f_off_ai h a (va_cpy (h.2.2.1 a0) (h.2.2.1 a) 0 0 n.toNatClampNeg))
  simp only [f_e, u_ai, if_true] at hset
  have hz : (0 : Int32).toNatClampNeg = 0 := by decide
  rw [hz, hset] at hP hD1
  exact kk p l e s m args below meth c D cA σ A E H1 locs1 ls hP hD1 hS hl
theorem G_copyL {index a0 a n0 n1 : Nat} {g0 g1 : Nat → Nat} {n : Int32} (hlink : Cond.methodLink Y.1.cls index arraycopyName ∈ f_tbl) (hm0 : (a0, .inr (1, n0, g0)) ∈ S) (hm1 : (a, .inr (1, n1, g1)) ∈ S) (h3 : ¬ n < 0) (h4 : n.toNatClampNeg ≤ n0) (h5 : n.toNatClampNeg ≤ n1) (hst : (st.map fun v => v.category).sum ≤ 8) (hd : decode Y.2.1 pc = .ok (.invokestatic index, 3)) (kk : G Y (d + 1) S Post (pc + 3) lv st (u_al h a (va_cpy (h.2.2.2 a0) (h.2.2.2 a) 0 0 n.toNatClampNeg))) : G Y (d + 1) S Post pc lv (.int n :: .int 0 :: .ref a :: .int 0 :: .ref a0 :: st) h := by
  intro p l e s m args below meth c D cA σ A E H locs ls hP hD hS hl
  obtain ⟨q0, hq0⟩ := List.getElem?_of_mem hm0
  obtain ⟨q1, hq1⟩ := List.getElem?_of_mem hm1
  have hts := E.2.2.2.2.2.1
  refine va_copyl (sp := 0) (dp := 0) (n := n) (ty := .long) (rest := st.map (f_v σ)) E.1 E.2.1 (E.2.2.1.trans hl.1.symm) E.2.2.2.2.1 (hts _ hlink) (hts _ hV_copy) (hts _ hT_copy) (hts _ hN_J10) E.2.2.2.2.2.2.2.2.1 hP hD hS q0 q1 1 1 (f_w_get hq0) (f_w_get hq1) rfl rfl rfl (by decide) (by decide) h3 (by simpa using h4) (by simpa using h5) (fun _ _ => rfl) (Nat.le_add_left 1 d) (by rw [f_catsum]; simp [f_room, nativeFrameWords]; omega) hd (fun H1 locs1 hP hD1 hS => ?_)
  have hset := f_w_set hq1 hD (f_off_al h a (va_cpy (h.2.2.2 a0) (h.2.2.2 a) 0 0 n.toNatClampNeg))
  simp only [f_e, u_al, if_true] at hset
  have hz : (0 : Int32).toNatClampNeg = 0 := by decide
  rw [hz, hset] at hP hD1
  exact kk p l e s m args below meth c D cA σ A E H1 locs1 ls hP hD1 hS hl
end GCOPY

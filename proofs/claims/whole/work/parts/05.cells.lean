section GCELLS
variable {Y : fM} {d : Nat} {S : fW} {Post : Option Value → fH → Prop} {pc : Nat} {lv lv' : List (Nat × Value)} {st : List Value} {h : fH}
-- fields
theorem G_geti {r ci k index : Nat} {fds : List Nat} {q : vw_C} (hm : (r, .inl (ci, fds)) ∈ S) (hc : f_cl[ci]? = some q) (hin : ∀ w ∈ u_ws q.1 q.2.1 q.2.2, w ∈ f_tbl) (hk : k < q.2.2) (hf : fds[k]? = some 0 ∨ fds[k]? = some 2) (hlink : Cond.fieldLink Y.1.cls index (q.2.1 k).1 (q.2.1 k).2.1 (q.2.1 k).2.2.1 ∈ f_tbl) (hd : decode Y.2.1 pc = .ok (.getfield index, 3)) (kk : G Y d S Post (pc + 3) lv (.int (h.1 r k) :: st) h) : G Y d S Post pc lv (.ref r :: st) h := by
  intro p l e s m args below meth c D cA σ A E H locs ls hP hD hS hl
  obtain ⟨q0, hq⟩ := List.getElem?_of_mem hm
  refine va_get E.1 E.2.1 E.2.2.2.2.2.1 hin E.2.2.2.2.1 E.2.2.2.2.2.2.2.2.1 hP q0 (f_w_get hq) hc k hk (E.2.2.2.2.2.1 _ hlink) (fun _ z => z) (v := .int (h.1 r k)) ?_ hd (kk p l e s m args below meth c D cA σ A E H locs ls hP hD hS hl)
  rw [f_fs_get]
  rcases hf with z | z <;> rw [z] <;> simp [f_fv]
theorem G_getl {r ci k index : Nat} {fds : List Nat} {q : vw_C} (hm : (r, .inl (ci, fds)) ∈ S) (hc : f_cl[ci]? = some q) (hin : ∀ w ∈ u_ws q.1 q.2.1 q.2.2, w ∈ f_tbl) (hk : k < q.2.2) (hf : fds[k]? = some 1) (hlink : Cond.fieldLink Y.1.cls index (q.2.1 k).1 (q.2.1 k).2.1 (q.2.1 k).2.2.1 ∈ f_tbl) (hd : decode Y.2.1 pc = .ok (.getfield index, 3)) (kk : G Y d S Post (pc + 3) lv (.long (h.2.1 r k) :: st) h) : G Y d S Post pc lv (.ref r :: st) h := by
  intro p l e s m args below meth c D cA σ A E H locs ls hP hD hS hl
  obtain ⟨q0, hq⟩ := List.getElem?_of_mem hm
  refine va_get E.1 E.2.1 E.2.2.2.2.2.1 hin E.2.2.2.2.1 E.2.2.2.2.2.2.2.2.1 hP q0 (f_w_get hq) hc k hk (E.2.2.2.2.2.1 _ hlink) (fun _ z => z) (v := .long (h.2.1 r k)) ?_ hd (kk p l e s m args below meth c D cA σ A E H locs ls hP hD hS hl)
  rw [f_fs_get, hf]
  simp [f_fv]
theorem G_getr {r ci k index j : Nat} {fds : List Nat} {q : vw_C} (hm : (r, .inl (ci, fds)) ∈ S) (hc : f_cl[ci]? = some q) (hin : ∀ w ∈ u_ws q.1 q.2.1 q.2.2, w ∈ f_tbl) (hk : k < q.2.2) (hf : fds[k]? = some (j + 4)) (hlink : Cond.fieldLink Y.1.cls index (q.2.1 k).1 (q.2.1 k).2.1 (q.2.1 k).2.2.1 ∈ f_tbl) (hd : decode Y.2.1 pc = .ok (.getfield index, 3)) (kk : G Y d S Post (pc + 3) lv (.ref j :: st) h) : G Y d S Post pc lv (.ref r :: st) h := by
  intro p l e s m args below meth c D cA σ A E H locs ls hP hD hS hl
  obtain ⟨q0, hq⟩ := List.getElem?_of_mem hm
  refine va_get E.1 E.2.1 E.2.2.2.2.2.1 hin E.2.2.2.2.1 E.2.2.2.2.2.2.2.2.1 hP q0 (f_w_get hq) hc k hk (E.2.2.2.2.2.1 _ hlink) (fun _ z => z) (v := .ref (σ j)) ?_ hd (kk p l e s m args below meth c D cA σ A E H locs ls hP hD hS hl)
  rw [f_fs_get, hf]
  simp [f_fv]
theorem G_puti {r ci k index : Nat} {fds : List Nat} {q : vw_C} {v : Int32} (ty0 : Nat → FieldType) (hm : (r, .inl (ci, fds)) ∈ S) (hc : f_cl[ci]? = some q) (hin : ∀ w ∈ u_ws q.1 q.2.1 q.2.2, w ∈ f_tbl) (hty : ∀ k, k < q.2.2 → parseFieldDescriptor (q.2.1 k).2.2.1 = some (ty0 k)) (hnm : ∀ a, a < q.2.2 → ∀ b, b < q.2.2 → a ≠ b → (q.2.1 a).2.1 ≠ (q.2.1 b).2.1) (hk : k < q.2.2) (hf : fds[k]? = some 0) (ht : ty0 k = .int) (hfin : (q.2.1 k).2.2.2 = false) (hlink : Cond.fieldLink Y.1.cls index (q.2.1 k).1 (q.2.1 k).2.1 (q.2.1 k).2.2.1 ∈ f_tbl) (hd : decode Y.2.1 pc = .ok (.putfield index, 3)) (kk : G Y d S Post (pc + 3) lv st (u_fi h r k v)) : G Y d S Post pc lv (.int v :: .ref r :: st) h := by
  intro p l e s m args below meth c D cA σ A E H locs ls hP hD hS hl
  obtain ⟨q0, hq⟩ := List.getElem?_of_mem hm
  have hset : (f_w σ cA h S).set q0 (σ r, .inr (ci, (f_fs σ h r 0 fds).set k (.int v))) = f_w σ cA (u_fi h r k v) S := by
    rw [f_fs_set (h' := u_fi h r k v) (fun fd e => by rw [hf] at e; cases e; simp [f_fv, u_fi, upd]) (fun j fd hj => f_fv_fi hj)]
    exact f_w_set hq hD (f_off_fi h r k v)
  refine va_put (v := .int v) (ty := .int) E.1 E.2.1 E.2.2.2.2.2.1 hin ty0 hty hnm E.2.2.2.2.1 E.2.2.2.2.2.2.2.2.1 hP hD hS q0 (f_w_get hq) hc k hk (E.2.2.2.2.2.1 _ hlink) (fun _ z => z) hfin (by rw [hty k hk, ht]) rfl rfl (by rw [f_fs_len]; exact (List.getElem?_eq_some_iff.mp hf).1) hd (fun H1 locs1 hP hD hS => ?_)
  rw [hset] at hP hD
  exact kk p l e s m args below meth c D cA σ A E H1 locs1 ls hP hD hS hl
theorem G_putz {r ci k index : Nat} {fds : List Nat} {q : vw_C} {v : Int32} (ty0 : Nat → FieldType) (hm : (r, .inl (ci, fds)) ∈ S) (hc : f_cl[ci]? = some q) (hin : ∀ w ∈ u_ws q.1 q.2.1 q.2.2, w ∈ f_tbl) (hty : ∀ k, k < q.2.2 → parseFieldDescriptor (q.2.1 k).2.2.1 = some (ty0 k)) (hnm : ∀ a, a < q.2.2 → ∀ b, b < q.2.2 → a ≠ b → (q.2.1 a).2.1 ≠ (q.2.1 b).2.1) (hk : k < q.2.2) (hf : fds[k]? = some 2) (ht : ty0 k = .boolean) (hfin : (q.2.1 k).2.2.2 = false) (hv : v = 0 ∨ v = 1) (hlink : Cond.fieldLink Y.1.cls index (q.2.1 k).1 (q.2.1 k).2.1 (q.2.1 k).2.2.1 ∈ f_tbl) (hd : decode Y.2.1 pc = .ok (.putfield index, 3)) (kk : G Y d S Post (pc + 3) lv st (u_fi h r k v)) : G Y d S Post pc lv (.int v :: .ref r :: st) h := by
  intro p l e s m args below meth c D cA σ A E H locs ls hP hD hS hl
  obtain ⟨q0, hq⟩ := List.getElem?_of_mem hm
  have hset : (f_w σ cA h S).set q0 (σ r, .inr (ci, (f_fs σ h r 0 fds).set k (.int v))) = f_w σ cA (u_fi h r k v) S := by
    rw [f_fs_set (h' := u_fi h r k v) (fun fd e => by rw [hf] at e; cases e; simp [f_fv, u_fi, upd]) (fun j fd hj => f_fv_fi hj)]
    exact f_w_set hq hD (f_off_fi h r k v)
  refine va_put (v := .int v) (ty := .boolean) E.1 E.2.1 E.2.2.2.2.2.1 hin ty0 hty hnm E.2.2.2.2.1 E.2.2.2.2.2.2.2.2.1 hP hD hS q0 (f_w_get hq) hc k hk (E.2.2.2.2.2.1 _ hlink) (fun _ z => z) hfin (by rw [hty k hk, ht]) (by rcases hv with rfl | rfl <;> decide) (by rcases hv with rfl | rfl <;> decide) (by rw [f_fs_len]; exact (List.getElem?_eq_some_iff.mp hf).1) hd (fun H1 locs1 hP hD hS => ?_)
  rw [hset] at hP hD
  exact kk p l e s m args below meth c D cA σ A E H1 locs1 ls hP hD hS hl
theorem G_putl {r ci k index : Nat} {fds : List Nat} {q : vw_C} {v : Int64} (ty0 : Nat → FieldType) (hm : (r, .inl (ci, fds)) ∈ S) (hc : f_cl[ci]? = some q) (hin : ∀ w ∈ u_ws q.1 q.2.1 q.2.2, w ∈ f_tbl) (hty : ∀ k, k < q.2.2 → parseFieldDescriptor (q.2.1 k).2.2.1 = some (ty0 k)) (hnm : ∀ a, a < q.2.2 → ∀ b, b < q.2.2 → a ≠ b → (q.2.1 a).2.1 ≠ (q.2.1 b).2.1) (hk : k < q.2.2) (hf : fds[k]? = some 1) (ht : ty0 k = .long) (hfin : (q.2.1 k).2.2.2 = false) (hlink : Cond.fieldLink Y.1.cls index (q.2.1 k).1 (q.2.1 k).2.1 (q.2.1 k).2.2.1 ∈ f_tbl) (hd : decode Y.2.1 pc = .ok (.putfield index, 3)) (kk : G Y d S Post (pc + 3) lv st (u_fl h r k v)) : G Y d S Post pc lv (.long v :: .ref r :: st) h := by
  intro p l e s m args below meth c D cA σ A E H locs ls hP hD hS hl
  obtain ⟨q0, hq⟩ := List.getElem?_of_mem hm
  have hset : (f_w σ cA h S).set q0 (σ r, .inr (ci, (f_fs σ h r 0 fds).set k (.long v))) = f_w σ cA (u_fl h r k v) S := by
    rw [f_fs_set (h' := u_fl h r k v) (fun fd e => by rw [hf] at e; cases e; simp [f_fv, u_fl, vp_updL]) (fun j fd hj => f_fv_fl hj)]
    exact f_w_set hq hD (f_off_fl h r k v)
  refine va_put (v := .long v) (ty := .long) E.1 E.2.1 E.2.2.2.2.2.1 hin ty0 hty hnm E.2.2.2.2.1 E.2.2.2.2.2.2.2.2.1 hP hD hS q0 (f_w_get hq) hc k hk (E.2.2.2.2.2.1 _ hlink) (fun _ z => z) hfin (by rw [hty k hk, ht]) rfl rfl (by rw [f_fs_len]; exact (List.getElem?_eq_some_iff.mp hf).1) hd (fun H1 locs1 hP hD hS => ?_)
  rw [hset] at hP hD
  exact kk p l e s m args below meth c D cA σ A E H1 locs1 ls hP hD hS hl
-- rows
theorem G_iald {a n : Nat} {g : Nat → Nat} {i : Int32} (hm : (a, .inr (0, n, g)) ∈ S) (hin : vp_in i n) (hd : decode Y.2.1 pc = .ok (.iaload, 1)) (kk : G Y d S Post (pc + 1) lv (.int (h.2.2.1 a i.toNatClampNeg) :: st) h) : G Y d S Post pc lv (.int i :: .ref a :: st) h := by
  intro p l e s m args below meth c D cA σ A E H locs ls hP hD hS hl
  obtain ⟨q0, hq⟩ := List.getElem?_of_mem hm
  exact va_iald E.1 E.2.1 E.2.2.2.2.2.2.2.2.1 hP q0 0 (f_w_get hq) rfl hin hd (kk p l e s m args below meth c D cA σ A E H locs ls hP hD hS hl)
theorem G_zald {a n : Nat} {g : Nat → Nat} {i : Int32} (hm : (a, .inr (2, n, g)) ∈ S) (hin : vp_in i n) (hd : decode Y.2.1 pc = .ok (.baload, 1)) (kk : G Y d S Post (pc + 1) lv (.int (h.2.2.1 a i.toNatClampNeg) :: st) h) : G Y d S Post pc lv (.int i :: .ref a :: st) h := by
  intro p l e s m args below meth c D cA σ A E H locs ls hP hD hS hl
  obtain ⟨q0, hq⟩ := List.getElem?_of_mem hm
  exact va_zald E.1 E.2.1 E.2.2.2.2.2.2.2.2.1 hP q0 2 (f_w_get hq) rfl hin hd (kk p l e s m args below meth c D cA σ A E H locs ls hP hD hS hl)
theorem G_lald {a n : Nat} {g : Nat → Nat} {i : Int32} (hm : (a, .inr (1, n, g)) ∈ S) (hin : vp_in i n) (hd : decode Y.2.1 pc = .ok (.laload, 1)) (kk : G Y d S Post (pc + 1) lv (.long (h.2.2.2 a i.toNatClampNeg) :: st) h) : G Y d S Post pc lv (.int i :: .ref a :: st) h := by
  intro p l e s m args below meth c D cA σ A E H locs ls hP hD hS hl
  obtain ⟨q0, hq⟩ := List.getElem?_of_mem hm
  exact va_lald E.1 E.2.1 E.2.2.2.2.2.2.2.2.1 hP q0 1 (f_w_get hq) rfl hin hd (kk p l e s m args below meth c D cA σ A E H locs ls hP hD hS hl)
theorem G_aald {a n : Nat} {g : Nat → Nat} {i : Int32} (hm : (a, .inr (3, n, g)) ∈ S) (hin : vp_in i n) (hd : decode Y.2.1 pc = .ok (.aaload, 1)) (kk : G Y d S Post (pc + 1) lv (.ref (g i.toNatClampNeg) :: st) h) : G Y d S Post pc lv (.int i :: .ref a :: st) h := by
  intro p l e s m args below meth c D cA σ A E H locs ls hP hD hS hl
  obtain ⟨q0, hq⟩ := List.getElem?_of_mem hm
  have hlt : i.toNatClampNeg < n := Nat.not_le.mp fun q => hin (Or.inr q)
  have hcell : H[σ a]? = some (vp_cell (cA 3) (n, .inr (.inr (.inr (.inr (fun i => some (σ (g i)))))))) := hP q0 _ (f_w_get hq)
  exact W.aald (v := .ref (σ (g i.toNatClampNeg))) (ty := .array .int) E.1 E.2.1 hcell ((E.2.2.2.2.2.2.2.2.1.2 3 _ rfl).1 n (fun j => va_rf (some (σ (g j))))) rfl (fun q => by cases q) (by show ¬ (i < 0 ∨ (arrV _ _ _).slots.size ≤ _); rw [arrV_size]; exact hin) (by show (arrV _ _ _).slots[_]? = _; rw [arrV_read _ _ hlt]; rfl) rfl rfl hd (kk p l e s m args below meth c D cA σ A E H locs ls hP hD hS hl)
theorem G_iast {a n : Nat} {g : Nat → Nat} {i x : Int32} (hm : (a, .inr (0, n, g)) ∈ S) (hin : vp_in i n) (hd : decode Y.2.1 pc = .ok (.iastore, 1)) (kk : G Y d S Post (pc + 1) lv st (u_ai h a (upd (h.2.2.1 a) i.toNatClampNeg x))) : G Y d S Post pc lv (.int x :: .int i :: .ref a :: st) h := by
  intro p l e s m args below meth c D cA σ A E H locs ls hP hD hS hl
  obtain ⟨q0, hq⟩ := List.getElem?_of_mem hm
  refine va_iast E.1 E.2.1 E.2.2.2.2.2.2.2.2.1 hP hD hS q0 0 (f_w_get hq) rfl hin hd (fun H1 locs1 hP hD1 hS => ?_)
  have hset := f_w_set hq hD (f_off_ai h a (upd (h.2.2.1 a) i.toNatClampNeg x))
  simp only [f_e, u_ai, if_true] at hset
  rw [hset] at hP hD1
  exact kk p l e s m args below meth c D cA σ A E H1 locs1 ls hP hD1 hS hl
theorem G_zast {a n : Nat} {g : Nat → Nat} {i x : Int32} (hm : (a, .inr (2, n, g)) ∈ S) (hin : vp_in i n) (hx : x = 0 ∨ x = 1) (hd : decode Y.2.1 pc = .ok (.bastore, 1)) (kk : G Y d S Post (pc + 1) lv st (u_ai h a (upd (h.2.2.1 a) i.toNatClampNeg x))) : G Y d S Post pc lv (.int x :: .int i :: .ref a :: st) h := by
  intro p l e s m args below meth c D cA σ A E H locs ls hP hD hS hl
  obtain ⟨q0, hq⟩ := List.getElem?_of_mem hm
  refine va_zast E.1 E.2.1 E.2.2.2.2.2.2.2.2.1 hP hD hS q0 2 (f_w_get hq) rfl hin hd (fun H1 locs1 hP hD1 hS => ?_)
  have hx2 : vp_nar .boolean x = x := by rcases hx with rfl | rfl <;> decide
  rw [hx2] at hP hD1
  have hset := f_w_set hq hD (f_off_ai h a (upd (h.2.2.1 a) i.toNatClampNeg x))
  simp only [f_e, u_ai, if_true] at hset
  rw [hset] at hP hD1
  exact kk p l e s m args below meth c D cA σ A E H1 locs1 ls hP hD1 hS hl
theorem G_last {a n : Nat} {g : Nat → Nat} {i : Int32} {x : Int64} (hm : (a, .inr (1, n, g)) ∈ S) (hin : vp_in i n) (hd : decode Y.2.1 pc = .ok (.lastore, 1)) (kk : G Y d S Post (pc + 1) lv st (u_al h a (vp_updL (h.2.2.2 a) i.toNatClampNeg x))) : G Y d S Post pc lv (.long x :: .int i :: .ref a :: st) h := by
  intro p l e s m args below meth c D cA σ A E H locs ls hP hD hS hl
  obtain ⟨q0, hq⟩ := List.getElem?_of_mem hm
  refine va_last E.1 E.2.1 E.2.2.2.2.2.2.2.2.1 hP hD hS q0 1 (f_w_get hq) rfl hin hd (fun H1 locs1 hP hD1 hS => ?_)
  have hset := f_w_set hq hD (f_off_al h a (vp_updL (h.2.2.2 a) i.toNatClampNeg x))
  simp only [f_e, u_al, if_true] at hset
  rw [hset] at hP hD1
  exact kk p l e s m args below meth c D cA σ A E H1 locs1 ls hP hD1 hS hl
theorem G_alenI {a n : Nat} {g : Nat → Nat} (hm : (a, .inr (0, n, g)) ∈ S) (hd : decode Y.2.1 pc = .ok (.arraylength, 1)) (kk : G Y d S Post (pc + 1) lv (.int (Int32.ofNat n) :: st) h) : G Y d S Post pc lv (.ref a :: st) h := by
  intro p l e s m args below meth c D cA σ A E H locs ls hP hD hS hl
  obtain ⟨q0, hq⟩ := List.getElem?_of_mem hm
  exact va_alen E.1 E.2.1 E.2.2.2.2.2.2.2.2.1 hP q0 0 (f_w_get hq) (ty := .int) rfl rfl hd (kk p l e s m args below meth c D cA σ A E H locs ls hP hD hS hl)
theorem G_alenL {a n : Nat} {g : Nat → Nat} (hm : (a, .inr (1, n, g)) ∈ S) (hd : decode Y.2.1 pc = .ok (.arraylength, 1)) (kk : G Y d S Post (pc + 1) lv (.int (Int32.ofNat n) :: st) h) : G Y d S Post pc lv (.ref a :: st) h := by
  intro p l e s m args below meth c D cA σ A E H locs ls hP hD hS hl
  obtain ⟨q0, hq⟩ := List.getElem?_of_mem hm
  exact va_alen E.1 E.2.1 E.2.2.2.2.2.2.2.2.1 hP q0 1 (f_w_get hq) (ty := .long) rfl rfl hd (kk p l e s m args below meth c D cA σ A E H locs ls hP hD hS hl)
-- the static row
theorem G_tens {index : Nat} (hlink : Cond.fieldLinkNest Y.1.cls index RX11 "TENS" "[J" "LostDigits" ∈ f_nst) (hd : decode Y.2.1 pc = .ok (.getstatic index, 3)) (kk : G Y d S Post (pc + 3) lv (.ref 0 :: st) h) : G Y d S Post pc lv st h := fun p l e s m args below meth c D cA σ A E H locs ls hP hD hS hl => va_getsN (C := RX11) (v := .ref (σ 0)) E.1 E.2.1 E.2.2.2.2.2.2.1.1 hS E.2.2.2.2.1 (va_Nw.use rfl (E.2.2.2.2.2.2.1.2.2 _ hlink)) (fun _ z => z) hd (kk p l e s m args below meth c D cA σ A E H locs ls hP hD hS hl)
theorem G_tlal {i : Int32} (hin : vp_in i 19) (hd : decode Y.2.1 pc = .ok (.laload, 1)) (kk : G Y d S Post (pc + 1) lv (.long (f_ten i.toNatClampNeg) :: st) h) : G Y d S Post pc lv (.int i :: .ref 0 :: st) h := fun p l e s m args below meth c D cA σ A E H locs ls hP hD hS hl => va_tl E.1 E.2.1 E.2.2.2.2.2.2.1.2.1 hS hin rfl hd (kk p l e s m args below meth c D cA σ A E H locs ls hP hD hS hl)
theorem G_tlen (hd : decode Y.2.1 pc = .ok (.arraylength, 1)) (kk : G Y d S Post (pc + 1) lv (.int 19 :: st) h) : G Y d S Post pc lv (.ref 0 :: st) h := fun p l e s m args below meth c D cA σ A E H locs ls hP hD hS hl => va_tlen E.1 E.2.1 E.2.2.2.2.2.2.1.2.1 hS (v := 19) rfl hd (kk p l e s m args below meth c D cA σ A E H locs ls hP hD hS hl)
end GCELLS

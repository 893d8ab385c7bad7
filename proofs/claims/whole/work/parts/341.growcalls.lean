/-! ===== constructors call constructors ===== -/
section GCALLC
variable {p : Program} {l : Launch} {e : Env} {R : Room} {s : State} {m : MethodId} {args : Array Value} {below : List Frame} {meth : Method} {c : Code} {H : Heap} {locs : List Loc} {Q : State → Prop}
theorem va_nd_range : ∀ (n k : Nat), va_nd (List.range' k n) = true
  | 0, _ => rfl
  | n + 1, k => by
    rw [List.range'_succ]
    unfold va_nd
    rw [va_nd_range n (k + 1)]
    simp [List.mem_range']
    omega
theorem map_range_get (w0 : va_W) (x : Nat × va_E) : (List.range' 0 w0.length).map (fun i => (w0 ++ [x])[i]?) = w0.map some := by
  apply List.ext_getElem
  · simp
  · intro i h1 h2
    simp only [List.length_map, List.length_range'] at h1
    rw [List.getElem_map, List.getElem_map, List.getElem_range', show 0 + 1 * i = i by omega, List.getElem?_append_left h1, List.getElem?_eq_getElem h1]
theorem fc_init {cs us CZ NZ pc : Nat} {ls : Array Slot} {st0 rest : List Value} {D : va_G} {cA : Nat → ClassId} {A : Nat → Prop} {a0 : Nat} {SZ : fW} {PZ : fH → Prop} {a : Array Value} {w0 : va_W} {x : Nat × va_E}
    (hr : va_Run p l e R s m args below meth c H locs cs us CZ NZ (F0 m pc ls st0) rest (f_QC D cA a0 x.1 (va_A [x] H.size) SZ PZ a) (va_A [x] H.size)) (hP : va_P D f_cl (w0 ++ [x]) H) (hD : va_D A (w0 ++ [x])) (hS : va_S A s.heap H locs) (hF : ∀ q, va_A [x] H.size q → A q)
    (kk : ∀ (σz : Nat → Nat) (hz : fH) (H1 : Heap) (locs1 : List Loc), σz 0 = a0 → σz 1 = x.1 → PZ hz → va_P D f_cl (w0 ++ f_w σz cA hz SZ) H1 → va_D A (w0 ++ f_w σz cA hz SZ) → va_S A s.heap H1 locs1 → W p l e R s m args below meth c H1 locs1 (cs + CZ) (us + NZ) Q (F0 m (pc + 3) ls rest)) : W p l e R s m args below meth c H locs cs us Q (F0 m pc ls st0) := by
  intro T hT X
  obtain ⟨v, st₀, t, T', L, h0, X', hL, e1, e2, ⟨⟨σz, hz, hv, z0, z1, hp, hPz, hDz⟩, hzz, hk⟩, stp⟩ := hr T hT X
  cases hv
  rw [h0] at hzz hk
  obtain ⟨hP2, hD2⟩ := va_join (wr := w0) (wc := [x]) (w1 := f_w σz cA hz SZ) hP hD [w0.length] (List.range' 0 w0.length) (by show [(w0 ++ [x])[w0.length]?] = [some x]; rw [List.getElem?_append_right (Nat.le_refl _), Nat.sub_self]; rfl) (map_range_get w0 x) (va_nd_range _ _) (by
    intro i hi
    rw [List.mem_range'] at hi
    obtain ⟨j, hj, rfl⟩ := hi
    simp
    omega) hk hF hPz hDz
  obtain ⟨t2, a1, b1⟩ := kk σz hz T'.heap (locs ++ L) z0 z1 hp (by rw [e1]; exact hP2) hD2
    ⟨Nat.le_trans hS.1 (by rw [e1]; exact hzz), fun q h1 h2 => by rw [e1, hk q (Nat.lt_of_lt_of_le h1 hS.1) (fun w => h2 (hF q w))]; exact hS.2.1 q h1 h2, fun q hq => by
      rcases List.mem_append.mp hq with h | h
      · exact hS.2.2 q h
      · exact hF _ (hL q h)⟩ T' rfl X'
  exact ⟨t2, stp t2 a1, b1⟩
end GCALLC
section GCALLD
variable {Y : fM} {d C N : Nat} {S1 S : fW} {Post : fH → Prop} {cs us pc : Nat} {lv lv' : List (Nat × Value)} {st : List Value} {h : fH}
theorem fc_pre {D : va_G} {cA : Nat → ClassId} {A : Nat → Prop} {a0 ci : Nat} {fds : List Nat} {s : State} {H : Heap} {locs : List Loc} {w0 : va_W} {b : Nat} (hP : va_P D f_cl (w0 ++ [(b, .inr (ci, f_fs id fZ 0 0 fds))]) H) (hS : va_S A s.heap H locs) (hK : va_K D f_cl (f_tys cA) s) (hg : f_sg (fun _ => a0) A s s.heap) (ha : f_ao cA s) (hF : ∀ q, va_A [(b, .inr (ci, f_fs id fZ 0 0 fds))] H.size q → A q) :
    PreS s H (va_Pc [.ref b] (fun U => U.heap.size = H.size ∧ va_P D f_cl [(b, .inr (ci, f_fs id fZ 0 0 fds))] U.heap ∧ va_D (fun _ => True) [(b, .inr (ci, f_fs id fZ 0 0 fds))] ∧ va_K D f_cl (f_tys cA) U ∧ f_sg (fun _ => a0) (va_A [(b, .inr (ci, f_fs id fZ 0 0 fds))] H.size) U U.heap ∧ f_ao cA U)) (.ref b :: []) := by
  refine ⟨fun a U g mk q => ?_, fun U hU hW => ⟨rfl, by rw [hU], ?_, ?_, va_K.moved hW.alike hK, ?_, ha.moved hW.alike⟩⟩
  · obtain ⟨q0, q1, qP, qD, qK, qg, qa⟩ := q
    exact ⟨q0, q1, qP, qD, va_K.moved (u := U) (U := U.calling g mk a) (Vm.Alike.refl U.vm) qK, f_sg_same (u := U) (U := U.calling g mk a) rfl qg, qa.moved (u := U) (U := U.calling g mk a) (Vm.Alike.refl U.vm)⟩
  · rw [hU]
    intro k q hk
    have : k = 0 := by have := (List.getElem?_eq_some_iff.mp hk).1; simp at this; exact this
    subst this
    exact hP w0.length q (by rw [List.getElem?_append_right (Nat.le_refl _), Nat.sub_self]; exact hk)
  · refine ⟨fun i j p q hi hj _ => ?_, fun _ _ _ => trivial⟩
    have a1 := (List.getElem?_eq_some_iff.mp hi).1
    have a2 := (List.getElem?_eq_some_iff.mp hj).1
    simp at a1 a2
    omega
  · rw [hU]
    exact f_sg_nar (f_sg_kept (f_sg_warm hW hg) hS.2.1) hF
theorem fc_world {σ σz : Nat → Nat} {cA : Nat → ClassId} {n : Nat} {hz : fH} {SZ : fW} (h1 : 2 ≤ n) (hw : wlt n S) (hg : wge SZ) : f_w (f_ms n σ σz) cA (f_mg n h hz) (S ++ shf (n - 1) SZ) = f_w σ cA h S ++ f_w σz cA hz SZ := by
  rw [f_w_app, f_w_c hw (fun i hi => by unfold f_ms; rw [if_pos hi]) (fLt.mg h hz n), f_w_sh (σ := σz) hg (fun i hi => by unfold f_ms; rw [if_neg (by omega), show i + (n - 1) - (n - 1) = i by omega]) (fShf.mg h hz (by omega))]
/-- a constructor is called for the newest object -/
theorem GC_init {y : MethodName} {code : ByteArray} {ml index ci n CZ NZ : Nat} {fds : List Nat} {SZ S' : fW} {PZ : fH → Prop} (hlink : Cond.methodLink Y.1.cls index y ∈ f_tbl ∨ ∃ host, Cond.methodLinkNest Y.1.cls index y host ∈ f_nst) (hI : Cond.instanceMethod y ∈ f_tbl) (hC : Cond.code y code ml none ∈ f_tbl) (hN : Cond.initialized y.cls ∈ f_tbl) (hnm : f_nm y 0) (hi : y.name = "<init>") (hml : ml ≤ 77) (hk : ∀ fd ∈ fds, fd < 0 + 4)
    (ok : OkC d CZ NZ (y, code, ml, none) ci fds SZ PZ) (hz1 : h.1 n = fun _ => 0) (hz2 : h.2.1 n = fun _ => 0) (hw : wlt n S) (hg : wge SZ) (hv : (lv.all fun q => vltB n q.2) = true) (hst : st.all (vltB (n + 1)) = true) (hsum : (st.map fun v => v.category).sum ≤ 8) (h1 : 2 ≤ n) (hcs : cs + CZ ≤ C) (hus : us + NZ ≤ N) (hd : decode Y.2.1 pc = .ok (.invokespecial index, 3)) (hS' : S ++ shf (n - 1) SZ = S')
    (kk : ∀ h' hz : fH, PZ hz → fLt n h h' → fShf n h' hz → GC Y (d + 1) C N S1 Post S' (cs + CZ) (us + NZ) (pc + 3) lv st h') : GC Y (d + 1) C N S1 Post (S ++ [(n, .inl (ci, fds))]) cs us pc lv (.ref n :: st) h := by
  subst hS'
  intro p l e s m args below meth c D cA a0 a1 A E σ H locs ls e0 e1 hP hD hS hl
  have hts := E.2.2.2.2.2.1
  have hK := E.2.2.2.2.2.2.2.2.1
  have efs : f_fs σ h n 0 fds = f_fs id fZ 0 0 fds := f_fs_c (σ := id) (τ := σ) (h := fZ) (k := h) (r := 0) (r' := n) (n := 0) (fun i hi => absurd hi (Nat.not_lt_zero i)) (by rw [hz1]; rfl) (by rw [hz2]; rfl) fds 0 hk
  have ew : f_w σ cA h (S ++ [(n, .inl (ci, fds))]) = f_w σ cA h S ++ [(σ n, .inr (ci, f_fs id fZ 0 0 fds))] := by
    rw [f_w_app]
    simp [f_w, f_e, efs]
  rw [ew] at hP hD
  have hF : ∀ q, va_A [(σ n, .inr (ci, f_fs id fZ 0 0 fds))] H.size q → A q := by
    intro q hq
    rcases hq with ⟨k, ex, hx⟩ | hq
    · have : k = 0 := by have := (List.getElem?_eq_some_iff.mp hx).1; simp at this; exact this
      subst this
      cases hx
      exact hD.2 (f_w σ cA h S).length (σ n, .inr (ci, f_fs id fZ 0 0 fds)) (by simp)
    · exact E.2.2.2.2.2.2.2.2.2.1 q (Nat.le_trans hS.1 hq)
  have hroom : 8 + (ml + 11) + (f_roomC d CZ NZ).locals ≤ (f_roomC (d + 1) C N).locals := by simp only [f_roomC]; omega
  have hpre := fc_pre hP hS hK E.2.2.2.2.2.2.1 E.2.2.2.2.2.2.2.2.2.2.2 hF
  have hG := f_good (y, code, ml, none) hC
  have hrun : va_Run p l e (f_roomC (d + 1) C N) s m args below meth c H locs cs us CZ NZ (F0 m pc ls ((.ref n :: st).map (f_v σ))) (st.map (f_v σ)) (f_QC D cA a0 (σ n) (va_A [(σ n, .inr (ci, f_fs id fZ 0 0 fds))] H.size) SZ PZ (Value.ref (σ n) :: []).toArray) (va_A [(σ n, .inr (ci, f_fs id fZ 0 0 fds))] H.size) := by
    rcases hlink with hl1 | ⟨host, hl2⟩
    · exact va_runI (As := []) ⟨E.1, E.2.1, E.2.2.1, E.2.2.2.2.1, hts⟩ (ok l D cA a0 (σ n) H.size) (cwI 0 hts hG rfl rfl rfl (hts _ hN) (hts _ hl1) (hts _ hI) hi hnm ⟨Nat.le_refl _, hroom⟩) hpre rfl rfl hl.1 rfl (lv_room (by rw [f_catsum]; exact hsum)) hd ⟨hcs, hus⟩
    · exact va_runIN (As := []) ⟨E.1, E.2.1, E.2.2.1, E.2.2.2.2.1, hts⟩ (ok l D cA a0 (σ n) H.size) ⟨va_cnB 0 hts hG rfl rfl rfl (E.2.2.2.2.2.2.1.2.2 _ hl2) (hts _ hN) hnm ⟨Nat.le_refl _, hroom⟩, hi, hts _ hI⟩ hpre rfl rfl hl.1 rfl (lv_room (by rw [f_catsum]; exact hsum)) hd ⟨hcs, hus⟩
  refine fc_init (w0 := f_w σ cA h S) (x := (σ n, .inr (ci, f_fs id fZ 0 0 fds))) hrun hP hD hS hF (fun σz hz H1 locs1 z0 z1 hp hP1 hD1 hS1 => ?_)
  have hs : ∀ i, i < n → f_ms n σ σz i = σ i := fun i hi => by unfold f_ms; rw [if_pos hi]
  have hs2 : ∀ i, i < n + 1 → f_ms n σ σz i = σ i := fun i hi => by
    by_cases q : i < n
    · exact hs i q
    · have : i = n := by omega
      subst this
      unfold f_ms
      rw [if_neg (by omega), show i - (i - 1) = 1 by omega, z1]
  have := kk (f_mg n h hz) hz hp (fLt.mg h hz n) (fShf.mg h hz (by omega)) p l e s m args below meth c D cA a0 a1 A E (f_ms n σ σz) H1 locs1 ls (by rw [hs 0 (by omega)]; exact e0) (by rw [hs 1 (by omega)]; exact e1) (by rw [fc_world h1 hw hg]; exact hP1) (by rw [fc_world h1 hw hg]; exact hD1) hS1 (by rw [f_lv_c hs hv]; exact hl)
  rw [f_st_c hs2 hst] at this
  exact this
/-- a plain method is called over the whole world -/
theorem GC_callV {Z : fM} {index ci b n : Nat} {fds : List Nat} {q : vw_C} {Q : fH → Prop} (hlink : Cond.methodLink Y.1.cls index Z.1 ∈ f_tbl) (hI : Cond.instanceMethod Z.1 ∈ f_tbl) (hSel : Cond.selects Z.1.cls Z.1 Z.1 ∈ f_tbl) (hC : Cond.code Z.1 Z.2.1 Z.2.2.1 Z.2.2.2 ∈ f_tbl) (hN : Cond.initialized Z.1.cls ∈ f_tbl) (hnm : f_nm Z.1 0) (hml : Z.2.2.1 ≤ 77) (hm : (b, .inl (ci, fds)) ∈ S) (hc : f_cl[ci]? = some q) (hq : q.1 = Z.1.cls) (hcs : cs ≤ C) (hus : us ≤ N) (hd : decode Y.2.1 pc = .ok (.invokevirtual index, 3)) (ok : OkV d Z S [.ref b] h Q) (kk : ∀ h', Q h' → GC Y (d + 1) C N S1 Post S cs us (pc + 3) lv [] h') : GC Y (d + 1) C N S1 Post S cs us pc lv [.ref b] h := by
  intro p l e s m args below meth c D cA a0 a1 A E σ H locs ls e0 e1 hP hD hS hl
  obtain ⟨q0, hq0⟩ := List.getElem?_of_mem hm
  have hts := E.2.2.2.2.2.1
  have hK := E.2.2.2.2.2.2.2.2.1
  have hrv := va_recv hK hP hc (f_w_get (σ := σ) (cA := cA) (h := h) hq0)
  rw [hq] at hrv
  have cw : CallW (f_roomC (d + 1) C N) s args Y.1.cls Z.1.cls index Z.1 Z.2.1 Z.2.2.1 Z.2.2.2 (.code Z.1 Z.2.1 Z.2.2.1 Z.2.2.2 :: f_tbl) (f_room d) 0 0 0 := ⟨callB_of 0 hts (f_good Z hC) rfl rfl rfl (hts _ hN) (hts _ hlink) hnm ⟨Nat.le_refl _, by simp only [f_room, f_roomC]; omega⟩, hts _ hI, hts _ hSel⟩
  have hr : va_Run p l e (f_roomC (d + 1) C N) s m args below meth c H locs cs us 0 0 (F0 m pc ls [.ref (σ b)]) [] (f_Q D cA σ A S (f_PV Q) (Value.ref (σ b) :: []).toArray) A := va_runV (As := []) (b := σ b) (C := Z.1.cls) ⟨E.1, E.2.1, E.2.2.1, E.2.2.2.2.1, hts⟩ (ok l D cA σ A) cw ⟨f_blind D cA σ A S [.ref b] h, hrv, f_pre (vs := [.ref b]) hP hD hS hK E.2.2.2.2.2.2.2.2.2.1 (f_sg_of e0 E.2.2.2.2.2.2.1)⟩ rfl rfl hl.1 rfl (lv_room (by simp)) hd ⟨hcs, hus⟩
  intro T hT X
  obtain ⟨v, st₀, t, T', L, h0, X', hL, e1', e2, ⟨⟨r, h', hv, hp, hP1, hD1⟩, hz, hk⟩, stp⟩ := hr T hT X
  cases hv
  obtain ⟨rfl, hp⟩ := hp
  rw [h0] at hz hk
  obtain ⟨t2, a1', b1⟩ := kk h' hp p l e s m args below meth c D cA a0 a1 A E σ T'.heap (locs ++ L) ls e0 e1 (by rw [e1']; exact hP1) hD1
    ⟨Nat.le_trans hS.1 (by rw [e1']; exact hz), fun q h1 h2 => by rw [e1', hk q (Nat.lt_of_lt_of_le h1 hS.1) h2]; exact hS.2.1 q h1 h2, fun q hq => by
      rcases List.mem_append.mp hq with h | h
      · exact hS.2.2 q h
      · exact hL q h⟩ hl T' rfl X'
  exact ⟨t2, stp t2 a1', b1⟩
end GCALLD

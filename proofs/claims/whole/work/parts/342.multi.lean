/-! ===== new int[2][7] ===== -/
section MULTI
variable {E : CtlPost} {e : Env} {d : Bool} {acts : List Action} {s : State}
def mu_c (c : ClassId) (n : Nat) (v : Value) : Cell := { cls := c, slots := Array.replicate n v, vm := .none }
theorem mu_new {c comp : ClassId} {k : Class} {ty : FieldType} {n : Nat} {v : Value} (hk : s.vm.classes[c]? = some k) (hkind : k.kind = .array comp ty) (hl : n ≤ e.platform.arrayLengthLimit) (hb : n * componentBytes ty ≤ e.platform.maxHeapBytes) (hfit : fits ty v = true) {Q : Addr → Pre}
    (h1 : s.heap.size < e.platform.maxCells) (h2 : s.slotsUsed + n ≤ e.platform.maxSlots) (hq : ∀ a', Q s.heap.size d a' (s.pushCell (mu_c c n v))) : wp (Jvm.newArray c n v) Q E e d acts s := by
  have hl' : ¬ n > e.platform.arrayLengthLimit := by omega
  have hb' : ¬ n * componentBytes ty > e.platform.maxHeapBytes := by omega
  simp only [Jvm.newArray, Jvm.arrayFits, Sem.wp_bind', _root_.Jvm.W.ask, _root_.Jvm.W.ite, hl', if_false, Sem.wp_pure', _root_.Jvm.W.theClass, hk, hkind, hb', _root_.Jvm.W.alloc, Option.some.injEq, exists_eq_left', Array.size_replicate]
  rw [if_neg (by omega)]
  refine ⟨h1, h2, fun i w hw => ?_, hq _⟩
  rw [Array.getElem?_replicate] at hw
  split at hw
  · cases hw
    simp [State.fitsSlot, State.slotType?, hk, hkind, hfit]
  · cases hw
def mu_o (c3 : ClassId) (a : Nat) : Cell := (mu_c c3 2 .null).setSlot 0 (.ref (a + 1))
def mu_1 (s : State) (c3 c0 : ClassId) : State := ((s.pushCell (mu_c c3 2 .null)).pushCell (mu_c c0 7 (.int 0))).setCell s.heap.size (mu_o c3 s.heap.size)
def mu_2 (s : State) (c3 c0 : ClassId) : State := ((mu_1 s c3 c0).pushCell (mu_c c0 7 (.int 0))).setCell s.heap.size ((mu_o c3 s.heap.size).setSlot 1 (.ref (s.heap.size + 2)))
theorem mu_1_facts (s : State) (c3 c0 : ClassId) : (mu_1 s c3 c0).vm = s.vm ∧ (mu_1 s c3 c0).heap.size = s.heap.size + 2 ∧ (mu_1 s c3 c0).slotsUsed = s.slotsUsed + 9 ∧ (mu_1 s c3 c0).heap[s.heap.size]? = some (mu_o c3 s.heap.size) := by
  refine ⟨rfl, ?_, ?_, ?_⟩
  · simp [mu_1, State.setCell, State.pushCell]
  · simp [mu_1, mu_c]
  · simp [mu_1, State.setCell, State.pushCell, Array.getElem?_setIfInBounds]
    omega
theorem mu_wp {c3 c0 cc : ClassId} {k3 k0 : Class} (hk3 : s.vm.classes[c3]? = some k3) (hkind3 : k3.kind = .array c0 (.array .int)) (hk0 : s.vm.classes[c0]? = some k0) (hkind0 : k0.kind = .array cc .int)
    (hl : 7 ≤ e.platform.arrayLengthLimit) (hb : 28 ≤ e.platform.maxHeapBytes) (hc : s.heap.size + 3 ≤ e.platform.maxCells) (hs : s.slotsUsed + 16 ≤ e.platform.maxSlots) {Q : Addr → Pre} (hq : ∀ d' a', Q s.heap.size d' a' (mu_2 s c3 c0)) : wp (multianewarray.make c3 [2, 7]) Q E e d acts s := by
  have n2 : ¬ (2 : Int32) < 0 := by decide
  have n7 : ¬ (7 : Int32) < 0 := by decide
  have inner : ∀ (t : State) (d' : Bool) (a' : List Action) (Q' : Addr → Pre), t.vm = s.vm → t.heap.size + 1 ≤ e.platform.maxCells → t.slotsUsed + 7 ≤ e.platform.maxSlots → (∀ b', Q' t.heap.size d' b' (t.pushCell (mu_c c0 7 (.int 0)))) → wp (multianewarray.make c0 [7]) Q' E e d' a' t := by
    intro t d' a' Q' hv h1 h2 h3
    rw [multianewarray.make]
    simp only [Sem.wp_bind', _root_.Jvm.W.ite, n7, if_false, Sem.wp_pure', _root_.Jvm.W.theClass, hv, hk0, hkind0, Option.some.injEq, exists_eq_left']
    exact mu_new (by rw [hv]; exact hk0) hkind0 (by exact hl) (by exact hb) rfl (by omega) (by exact h2) h3
  rw [multianewarray.make]
  simp only [Sem.wp_bind', _root_.Jvm.W.ite, n2, if_false, Sem.wp_pure', _root_.Jvm.W.theClass, hk3, hkind3, Option.some.injEq, exists_eq_left']
  refine mu_new hk3 hkind3 (by show 2 ≤ _; omega) (by show 2 * 4 ≤ _; omega) rfl (by omega) (by show _ + 2 ≤ _; omega) (fun a1 => ?_)
  have hf : ([(7 : Int32)].find? (· < 0)) = none := by decide
  simp only [hf]
  rw [ite_self, Sem.wp_bind', Std.Legacy.Range.forIn_eq_forIn_range']
  show wp (forIn [0, 1] PUnit.unit _) _ E e _ _ _
  simp only [List.forIn_cons, List.forIn_nil, Sem.wp_bind', Sem.wp_pure']
  have z1 : (s.pushCell (mu_c c3 2 .null)).heap.size = s.heap.size + 1 := by simp [State.pushCell]
  have u1 : (s.pushCell (mu_c c3 2 .null)).slotsUsed = s.slotsUsed + 2 := by simp [mu_c]
  obtain ⟨v1, w1, w2, w3⟩ := mu_1_facts s c3 c0
  refine inner (s.pushCell (mu_c c3 2 .null)) _ _ _ rfl (by rw [z1]; omega) (by rw [u1]; omega) (fun b1 => ?_)
  rw [z1]
  simp only [Sem.wp_bind', _root_.Jvm.W.writeLoc, Sem.wp_pure']
  refine ⟨mu_c c3 2 .null, by simp [State.pushCell, Array.getElem?_push], by simp [mu_c], by simp [mu_c], by simp [State.fitsSlot, State.slotType?, mu_c, hk3, hkind3, fits], ?_⟩
  show wp (multianewarray.make c0 [7]) _ E e _ _ (mu_1 s c3 c0)
  refine inner (mu_1 s c3 c0) _ _ _ v1 (by rw [w1]; omega) (by rw [w2]; omega) (fun b2 => ?_)
  rw [w1]
  simp only [Sem.wp_bind', _root_.Jvm.W.writeLoc, Sem.wp_pure']
  refine ⟨mu_o c3 s.heap.size, by rw [← w3]; simp [State.pushCell, Array.getElem?_push, w1], by simp [mu_o, mu_c, Cell.setSlot], by simp [mu_o, mu_c, Cell.setSlot], ?_, ?_⟩
  · show State.fitsSlot (mu_1 s c3 c0) c3 .none 1 _ = true
    simp [State.fitsSlot, State.slotType?, v1, hk3, hkind3, fits]
  · exact hq _ _
theorem mu_2_top (s : State) (f : JFrame) (c3 c0 : ClassId) : mu_2 (s.setTop f) c3 c0 = (mu_2 s c3 c0).setTop f := by
  simp only [mu_2, mu_1, State.heap_setTop, State.pushCell_setTop, State.setCell_setTop]
theorem mu_2_facts (s : State) (c3 c0 : ClassId) : (mu_2 s c3 c0).heap.size = s.heap.size + 3 ∧ (∀ q, q < s.heap.size → (mu_2 s c3 c0).heap[q]? = s.heap[q]?) ∧ (mu_2 s c3 c0).heap[s.heap.size]? = some ((mu_o c3 s.heap.size).setSlot 1 (.ref (s.heap.size + 2))) ∧ (mu_2 s c3 c0).heap[s.heap.size + 1]? = some (mu_c c0 7 (.int 0)) ∧ (mu_2 s c3 c0).heap[s.heap.size + 2]? = some (mu_c c0 7 (.int 0)) := by
  refine ⟨?_, fun q hq => ?_, ?_, ?_, ?_⟩
  · simp [mu_2, mu_1, State.setCell, State.pushCell]
  · have a1 : ¬ s.heap.size = q := by omega
    have a2 : ¬ q = s.heap.size := by omega
    have a3 : ¬ q = s.heap.size + 1 := by omega
    have a4 : ¬ q = s.heap.size + 2 := by omega
    have a5 : ¬ q = s.heap.size + 1 + 1 := by omega
    simp [mu_2, mu_1, State.setCell, State.pushCell, Array.getElem?_setIfInBounds, Array.getElem?_push, a1, a2, a3, a4, a5]
  · simp [mu_2, mu_1, State.setCell, State.pushCell, Array.getElem?_setIfInBounds]
    omega
  · simp only [mu_2, mu_1, State.setCell, State.pushCell]
    rw [Array.getElem?_setIfInBounds, if_neg (by omega), Array.getElem?_push, if_neg (by simp), Array.getElem?_setIfInBounds, if_neg (by omega), Array.getElem?_push, if_pos (by simp)]
  · simp only [mu_2, mu_1, State.setCell, State.pushCell]
    rw [Array.getElem?_setIfInBounds, if_neg (by omega), Array.getElem?_push, if_pos (by simp)]
end MULTI
section MULTIW
variable {p : Program} {l : Launch} {e : Env} {R : Room} {s : State} {m : MethodId} {args : Array Value} {below : List Frame} {meth : Method} {c : Code} {H : Heap} {locs : List Loc} {Q : State → Prop} {cells slots : Nat}
theorem W_multi (hexec : p.tables.exec = Jvm.exec) {cc : ByteArray} (hb : c.code = cc) {own : String} {index : Nat} (hown : s.vm.findClass own = some m.cls) (hcl : (Cond.classLink own index "[[I").before args s = true) {c3 c0 : ClassId} (hf3 : s.vm.findClass "[[I" = some c3) (h3 : ∃ k : Class, s.vm.classes[c3]? = some k ∧ k.kind = .array c0 (.array .int)) (h0 : ∃ (k : Class) (x : ClassId), s.vm.classes[c0]? = some k ∧ k.kind = .array x .int)
    {pc : Nat} {ls : Array Slot} {rest : List Value} (hcells : cells + 3 ≤ R.cells) (hslots : slots + 16 ≤ R.slots) (hdg : decode cc pc = .ok (.multianewarray index 2, 4))
    (kk : ∀ H1 : Heap, H1.size = H.size + 3 → (∀ q, q < H.size → H1[q]? = H[q]?) → H1[H.size]? = some ((mu_o c3 H.size).setSlot 1 (.ref (H.size + 2))) → H1[H.size + 1]? = some (mu_c c0 7 (.int 0)) → H1[H.size + 2]? = some (mu_c c0 7 (.int 0)) → W p l e R s m args below meth c H1 (locs ++ [⟨H.size, 0⟩] ++ [⟨H.size, 1⟩]) (cells + 3) (slots + 16) Q (F0 m (pc + 4) ls (.ref H.size :: rest))) : W p l e R s m args below meth c H locs cells slots Q (F0 m pc ls (.int 7 :: .int 2 :: rest)) := by
  intro T hT X
  subst hT
  subst hb
  have hpl : e.platform.magicAccessors = ({} : Platform).magicAccessors := by rw [X.admits.platform]
  obtain ⟨cq, hfc, hcl1⟩ := Cond.classLink_spec hown hcl e.platform hpl
  cases hf3.symm.trans hfc
  obtain ⟨hg₁, hwarm₁, hready₁⟩ := State.classEntry (e := e) X.warmed hcl1
  generalize T.vm.noted m.cls index (.cls c3) = vm₁ at hg₁ hwarm₁ hready₁
  have hal : s.vm.Alike vm₁ := hwarm₁.alike
  obtain ⟨k3, a3, b3⟩ := h3
  obtain ⟨k0, x0, a0, b0⟩ := h0
  obtain ⟨k3', a3', e3⟩ := hal.2.2 _ _ a3
  obtain ⟨k0', a0', e0⟩ := hal.2.2 _ _ a0
  have b3' : k3'.kind = .array c0 (.array .int) := by rw [e3]; exact b3
  have b0' : k0'.kind = .array x0 .int := by rw [e0]; exact b0
  have X₁ := X.noted hwarm₁
  obtain ⟨f1, f2, f3, f4, f5⟩ := mu_2_facts (T.setVm vm₁) c3 c0
  obtain ⟨-, g1, g2, g3⟩ := mu_1_facts (T.setVm vm₁) c3 c0
  have Y1 : Stand p l e R s m args below meth c (mu_1 (T.setVm vm₁) c3 c0) (locs ++ [⟨T.heap.size, 0⟩]) (cells + 1 + 1) (slots + 2 + 7) :=
    ((X₁.pushed (mu_c c3 2 .null)).pushed (mu_c c0 7 (.int 0))).stored (a := T.heap.size) (cell := mu_c c3 2 .null) (by simp [State.pushCell, Array.getElem?_push]) 0 (.ref (T.heap.size + 1))
  have Y2 : Stand p l e R s m args below meth c (mu_2 (T.setVm vm₁) c3 c0) (locs ++ [⟨T.heap.size, 0⟩] ++ [⟨T.heap.size, 1⟩]) (cells + 1 + 1 + 1) (slots + 2 + 7 + 7) :=
    (Y1.pushed (mu_c c0 7 (.int 0))).stored (a := T.heap.size) (cell := mu_o c3 T.heap.size) (by
      have g1' : (mu_1 (T.setVm vm₁) c3 c0).heap.size = T.heap.size + 2 := g1
      have g3' : (mu_1 (T.setVm vm₁) c3 c0).heap[T.heap.size]? = some (mu_o c3 T.heap.size) := g3
      rw [← g3']
      simp [State.pushCell, Array.getElem?_push, g1']) 1 (.ref (T.heap.size + 2))
  obtain ⟨hr1, hr2⟩ := X.roomAbove hcells hslots
  obtain ⟨t2, r1, r2⟩ := kk (mu_2 (T.setVm vm₁) c3 c0).heap f1 f2 f3 f4 f5 _ rfl Y2
  refine ⟨t2, ?_, r2⟩
  have hl1 : 7 ≤ e.platform.arrayLengthLimit := by rw [Launch.admits_arrayLengthLimit X.admits]; omega
  have hh1 : 28 ≤ e.platform.maxHeapBytes := by rw [Launch.admits_maxHeapBytes X.admits]; omega
  jvm_step X.here [hexec, hdg]
  simp only [multianewarray.sem, Sem.wp_bind', _root_.Jvm.W.resolveClassAt_links (State.method?_setTop (F0 m pc ls (.int 7 :: .int 2 :: rest)) X.here.top) hg₁]
  rw [_root_.Jvm.W.popN, if_neg (by decide)]
  refine ⟨F0 m pc ls (.int 7 :: .int 2 :: rest), State.topJava?_setTop' (s := T.setVm vm₁) (F0 m pc ls (.int 7 :: .int 2 :: rest)) X.here.top, [.int 2, .int 7], rest, rfl, rfl, ?_⟩
  simp only [List.mapM_cons, List.mapM_nil, Sem.wp_bind', Sem.wp_pure']
  refine mu_wp (k3 := k3') (k0 := k0') (c0 := c0) (cc := x0) a3' b3' a0' b0' hl1 hh1 (by show T.heap.size + 3 ≤ _; omega) (by show T.slotsUsed + 16 ≤ _; omega) (fun d' acts' => ?_)
  have eS : ((T.setTop (F0 m pc ls (.int 7 :: .int 2 :: rest))).setVm vm₁).setTop { F0 m pc ls (.int 7 :: .int 2 :: rest) with stack := rest } = (T.setVm vm₁).setTop { F0 m pc ls (.int 7 :: .int 2 :: rest) with stack := rest } := by
    show ((T.setVm vm₁).setTop _).setTop _ = _
    rw [State.setTop_setTop]
  rw [eS, mu_2_top]
  simp only [Sem.wp_bind', _root_.Jvm.W.mark, _root_.Jvm.W.pushRef, State.topJava?_setTop' _ Y2.here.top, Option.some.injEq, exists_eq_left', State.setTop_setTop, State.heap_setTop]
  intro acts
  simp [jvm, Y2.here.top]
  exact r1
end MULTIW
section GMULTI
variable {Y : fM} {d C N : Nat} {S1 S : fW} {Post : fH → Prop} {cs us pc : Nat} {lv : List (Nat × Value)} {st : List Value} {h : fH}
def gmu (n : Nat) : Nat → Nat := fun k => if k = 0 then n + 1 else n + 2
def f_zz (h : fH) (n : Nat) : fH := f_z (f_z (f_z h n) (n + 1)) (n + 2)
theorem mu_arr (c : ClassId) (f : Nat → Value) : arrV c 2 f = { cls := c, slots := #[f 0, f 1], vm := .none } := by
  unfold arrV
  congr 1
theorem GC_multi {index n : Nat} (hcl : Cond.classLink Y.1.cls index "[[I" ∈ f_tbl) (hw : wlt n S) (hv : (lv.all fun q => vltB n q.2) = true) (hst : st.all (vltB n) = true) (h1 : 2 ≤ n) (hcs : cs + 3 ≤ C) (hus : us + 16 ≤ N) (hd : decode Y.2.1 pc = .ok (.multianewarray index 2, 4))
    (kk : ∀ h' : fH, fLt n h h' → GC Y d C N S1 Post (S ++ [(n, .inr (3, 2, gmu n)), (n + 1, .inr (0, 7, fun _ => 0)), (n + 2, .inr (0, 7, fun _ => 0))]) (cs + 3) (us + 16) (pc + 4) lv (.ref n :: st) h') : GC Y d C N S1 Post S cs us pc lv (.int 7 :: .int 2 :: st) h := by
  intro p l e s m args below meth c D cA a0 a1 A E σ H locs ls e0 e1 hP hD hS hl
  have hK := E.2.2.2.2.2.2.2.2.1
  have hA := E.2.2.2.2.2.2.2.2.2.1
  have hf3 : s.vm.findClass "[[I" = some (cA 3) := (hK.2 3 _ rfl).2
  obtain ⟨-, k0, hk0, x0, hx0⟩ := (hK.2 0 _ rfl).1 7 (fun _ => .int 0)
  have hk0' : s.vm.classes[cA 0]? = some k0 := hk0
  refine W_multi E.1 E.2.1 E.2.2.2.2.1 (E.2.2.2.2.2.1 _ hcl) hf3 E.2.2.2.2.2.2.2.2.2.2.2 ⟨k0, x0, hk0', hx0⟩ hcs hus hd (fun H1 z1 z2 z3 z4 z5 => ?_)
  let τ : Nat → Nat := fun i => if i = n then H.size else if i = n + 1 then H.size + 1 else if i = n + 2 then H.size + 2 else σ i
  have hs : ∀ i, i < n → τ i = σ i := fun i hi => by show (if i = n then _ else _) = _; rw [if_neg (by omega), if_neg (by omega), if_neg (by omega)]
  have t0 : τ n = H.size := by show (if n = n then _ else _) = _; rw [if_pos rfl]
  have t1 : τ (n + 1) = H.size + 1 := by show (if n + 1 = n then _ else _) = _; rw [if_neg (by omega), if_pos rfl]
  have t2 : τ (n + 2) = H.size + 2 := by show (if n + 2 = n then _ else _) = _; rw [if_neg (by omega), if_neg (by omega), if_pos rfl]
  have hlt : fLt n h (f_zz h n) := ((fLt.z h n).tr ((fLt.z (f_z h n) (n + 1)).mono (by omega))).tr ((fLt.z _ (n + 2)).mono (by omega))
  have r1 : (f_zz h n).2.2.1 (n + 1) = fun _ => 0 := by simp [f_zz, f_z]
  have r2 : (f_zz h n).2.2.1 (n + 2) = fun _ => 0 := by simp [f_zz, f_z]
  have ew : f_w τ cA (f_zz h n) (S ++ [(n, .inr (3, 2, gmu n)), (n + 1, .inr (0, 7, fun _ => 0)), (n + 2, .inr (0, 7, fun _ => 0))]) = f_w σ cA h S ++ [(H.size, .inl (cA 3, 2, .inr (.inr (.inr (.inr (fun i => some (τ (gmu n i)))))))), (H.size + 1, .inl (cA 0, 7, .inl (fun _ => 0))), (H.size + 2, .inl (cA 0, 7, .inl (fun _ => 0)))] := by
    rw [f_w_app, f_w_c hw hs hlt]
    simp only [f_w, List.map_cons, List.map_nil, f_e, t0, t1, t2, r1, r2]
  have old : ∀ (k : Nat) (x : Nat × va_E), (f_w σ cA h S)[k]? = some x → x.1 < H.size := fun k x hx => (hP k x hx).lt
  have new : ∀ (k : Nat) (x : Nat × va_E), ([(H.size, .inl (cA 3, 2, .inr (.inr (.inr (.inr (fun i => some (τ (gmu n i)))))))), (H.size + 1, .inl (cA 0, 7, .inl (fun _ => 0))), (H.size + 2, .inl (cA 0, 7, .inl (fun _ => 0)))] : va_W)[k]? = some x → x.1 = H.size + k ∧ va_at D f_cl x H1 := by
    intro k x hx
    have hk : k < 3 := (List.getElem?_eq_some_iff.mp hx).1
    rcases (show k = 0 ∨ k = 1 ∨ k = 2 by omega) with rfl | rfl | rfl
    · cases hx
      refine ⟨rfl, ?_⟩
      show H1[H.size]? = some (vp_cell (cA 3) _)
      rw [z3]
      congr 1
      rw [vp_cell_q, mu_arr]
      have g0 : τ (gmu n 0) = H.size + 1 := by show τ (if 0 = 0 then _ else _) = _; rw [if_pos rfl]; exact t1
      have g1 : τ (gmu n 1) = H.size + 2 := by show τ (if 1 = 0 then _ else _) = _; rw [if_neg (by decide)]; exact t2
      show _ = ({ cls := cA 3, slots := #[.ref (τ (gmu n 0)), .ref (τ (gmu n 1))], vm := .none } : Cell)
      rw [g0, g1]
      rfl
    · cases hx
      refine ⟨rfl, ?_⟩
      show H1[H.size + 1]? = some (vp_cell (cA 0) _)
      rw [z4]
      exact congrArg some (arrV_new _ _ _)
    · cases hx
      refine ⟨rfl, ?_⟩
      show H1[H.size + 2]? = some (vp_cell (cA 0) _)
      rw [z5]
      exact congrArg some (arrV_new _ _ _)
  generalize hnw : ([(H.size, .inl (cA 3, 2, .inr (.inr (.inr (.inr (fun i => some (τ (gmu n i)))))))), (H.size + 1, .inl (cA 0, 7, .inl (fun _ => 0))), (H.size + 2, .inl (cA 0, 7, .inl (fun _ => 0)))] : va_W) = nw at ew new
  have hP1 : va_P D f_cl (f_w σ cA h S ++ nw) H1 := fun k x hx => by
    by_cases hk : k < (f_w σ cA h S).length
    · rw [List.getElem?_append_left hk] at hx
      exact (hP k x hx).kept (z2 x.1 (old k x hx))
    · rw [List.getElem?_append_right (by omega)] at hx
      exact (new _ x hx).2
  have hD1 : va_D A (f_w σ cA h S ++ nw) := by
    refine ⟨fun i j x y hi hj exy => ?_, fun k x hx => ?_⟩
    · by_cases hi' : i < (f_w σ cA h S).length
      · rw [List.getElem?_append_left hi'] at hi
        have q1 := old i x hi
        by_cases hj' : j < (f_w σ cA h S).length
        · rw [List.getElem?_append_left hj'] at hj
          exact hD.1 i j x y hi hj exy
        · rw [List.getElem?_append_right (by omega)] at hj
          have := (new _ y hj).1
          omega
      · rw [List.getElem?_append_right (by omega)] at hi
        have q1 := (new _ x hi).1
        by_cases hj' : j < (f_w σ cA h S).length
        · rw [List.getElem?_append_left hj'] at hj
          have := old j y hj
          omega
        · rw [List.getElem?_append_right (by omega)] at hj
          have := (new _ y hj).1
          omega
    · by_cases hk : k < (f_w σ cA h S).length
      · rw [List.getElem?_append_left hk] at hx
        exact hD.2 k x hx
      · rw [List.getElem?_append_right (by omega)] at hx
        have := (new _ x hx).1
        have := hS.1
        exact hA _ (by omega)
  have hS1' : va_S A s.heap H1 (locs ++ [⟨H.size, 0⟩] ++ [⟨H.size, 1⟩]) := by
    refine ⟨by have := hS.1; omega, fun q h1 h2 => ?_, fun q hq => ?_⟩
    · rw [z2 q (Nat.lt_of_lt_of_le h1 hS.1)]
      exact hS.2.1 q h1 h2
    · simp only [List.append_assoc, List.mem_append, List.mem_cons, List.not_mem_nil, or_false] at hq
      rcases hq with w | rfl | rfl
      · exact hS.2.2 q w
      · exact hA _ hS.1
      · exact hA _ hS.1
  have hl1 : lv_has ls Y.2.2.1 (f_lv τ lv) := by rw [f_lv_c hs hv]; exact hl
  have := kk (f_zz h n) hlt p l e s m args below meth c D cA a0 a1 A E τ H1 _ ls (by rw [hs 0 (by omega)]; exact e0) (by rw [hs 1 (by omega)]; exact e1) (by rw [ew]; exact hP1) (by rw [ew]; exact hD1) hS1' hl1
  rw [List.map_cons, f_st_c hs hst] at this
  simp only [f_v, t0] at this
  exact this
end GMULTI

/-! THE CLAIM OUT OF ONE WALK OF THE LAW'S BODY. Your part is whole_start (and what it stands on); all else here is the same for every law, but numbers. -/
def R_law : String := "LostDigitsLaw"
def lw_P (b : Addr) (xs : List Int32) (args : Array Value) (s : State) : Prop := args = #[.ref b] ∧ s.IntsAt b xs ∧ xs.length ≤ 2048 ∧ (Jvm.Cond.and given_1 narrow_1).before args s = true
def lw_Q (_ : Array Value) (s : State) (o : Outcome) (t : State) : Prop := o = .returned (some (.int 1)) ∧ Framed s o t [] 600000 7302250
def lw_Z (below : List Frame) (a : Array Value) (s : State) : State → Prop := fun t => ∃ o, t.status = .running ∧ Ended t below o ∧ lw_Q a s o t
/-- the law's own end, with 1 on the stack, nothing written that was there before, its room as the claim has it -/
theorem lw_ret {p : Program} {l : Launch} {e : Env} {s : State} {m : MethodId} {below : List Frame} {meth : Method} {c : Code} {b : Nat} (hx : p.tables.exec = Jvm.exec) (hb : c.code = code) (hr : meth.sig.returnType = ret) (hlocks : meth.locks = false) {pc : Nat} {H : Heap} {ls : Array Slot} (hdg : decode code pc = .ok (.ireturn, 1)) : W p l e room_1 s m #[Value.ref b] below meth c H [] 600000 7302250 (lw_Z below #[Value.ref b] s) (F0 m pc ls [.int 1]) := by
  intro T hT X
  obtain ⟨fs, hret, hrun, hended, hW, hframe⟩ := X.leave (v := some (.int 1)) (hlocks := hlocks) (fun h => by rw [hr] at h; cases h)
  have hmeth' : T.vm.method? m = some meth := X.method'
  refine ⟨T.setFrames fs, ?_, .returned (some (.int 1)), hrun, hended, rfl, ⟨_, rfl⟩, hW, hframe⟩
  jvm_step X.here [X.here.top, hx, hb, hdg, hmeth', hr, ret, narrow_b1]
  (try refine ⟨rfl, ?_⟩); (try refine ⟨rfl, ?_⟩)
  first | (intro acts; rw [hret _ acts rfl rfl rfl]) | rw [hret _ _ rfl rfl rfl]
  exact Steps.refl _
/-- what holds at the law's entry: the machine, the code, the tables' words (any of lw_tbl by 'hts w (by decide +kernel)'), the script of L ints xs at the cell b, what the Statement gives of the start (any of its parts by flat_of_before) -/
def lw_At (p : Program) (s : State) (m : MethodId) (meth : Method) (c : Code) (b L : Nat) (xs : Nat → Int32) : Prop :=
  p.tables.exec = Jvm.exec ∧ c.code = code ∧ meth.sig.returnType = ret ∧ c.maxLocals = 4 ∧ s.vm.findClass R_law = some m.cls ∧ (∀ w ∈ lw_tbl, w.before #[Value.ref b] s = true) ∧ va_X b L xs s s.heap ∧ b < s.heap.size ∧ meth.locks = false ∧ (Jvm.Cond.and given_1 narrow_1).before #[Value.ref b] s = true
/-! ===== the law: both worlds, calls ===== -/
/-- the class's world and the reference's, apart -/
def LWd (D : va_G) (cA : Nat → ClassId) (σ1 σ2 : Nat → Nat) (h1 h2 : fH) (A : Nat → Prop) (H : Heap) : Prop :=
  va_P D f_cl (f_w σ1 cA h1 SC) H ∧ va_P D f_cl (f_w σ2 cA h2 SM) H ∧ va_D A (f_w σ1 cA h1 SC) ∧ va_D A (f_w σ2 cA h2 SM) ∧ ∀ r ∈ SC, ∀ t ∈ SM, σ1 r.1 ≠ σ2 t.1
def lw_En (p : Program) (s : State) (m : MethodId) (meth : Method) (c : Code) (b L : Nat) (xs : Nat → Int32) (D : va_G) (cA : Nat → ClassId) (a0 : Nat) : Prop :=
  lw_At p s m meth c b L xs ∧ va_K D f_cl (f_tys cA) s ∧ f_ao cA s ∧ f_sg (fun _ => a0) (fun q => s.heap.size ≤ q) s s.heap
theorem f_w_mem {σ : Nat → Nat} {cA : Nat → ClassId} {h : fH} {S : fW} {k : Nat} {q : Nat × va_E} (e : (f_w σ cA h S)[k]? = some q) : ∃ r ∈ S, q.1 = σ r.1 := by
  unfold f_w at e
  rw [List.getElem?_map] at e
  cases hs : S[k]? with
  | none => rw [hs] at e; cases e
  | some r =>
    rw [hs] at e
    cases e
    exact ⟨r, List.mem_of_getElem? hs, rfl⟩
theorem LWd.cl {D : va_G} {cA : Nat → ClassId} {σ1 σ2 : Nat → Nat} {h1 h2 h1' : fH} {A : Nat → Prop} {H H1 : Heap} (w : LWd D cA σ1 σ2 h1 h2 A H) (hP : va_P D f_cl (f_w σ1 cA h1' SC) H1) (hD : va_D A (f_w σ1 cA h1' SC)) (hk : ∀ q : Nat, q < H.size → ¬ va_A (f_w σ1 cA h1 SC) H.size q → H1[q]? = H[q]?) : LWd D cA σ1 σ2 h1' h2 A H1 := by
  refine ⟨hP, w.2.1.kept (fun k q hq => ?_), hD, w.2.2.2.1, w.2.2.2.2⟩
  have hlt := (w.2.1 k q hq).lt
  refine hk q.1 hlt (fun z => ?_)
  rcases z with ⟨k', e', hk'⟩ | z
  · obtain ⟨r, hr, er⟩ := f_w_mem hk'
    obtain ⟨t, ht, et⟩ := f_w_mem hq
    exact w.2.2.2.2 r hr t ht (er.symm.trans et)
  · omega
theorem LWd.mo {D : va_G} {cA : Nat → ClassId} {σ1 σ2 : Nat → Nat} {h1 h2 h2' : fH} {A : Nat → Prop} {H H1 : Heap} (w : LWd D cA σ1 σ2 h1 h2 A H) (hP : va_P D f_cl (f_w σ2 cA h2' SM) H1) (hD : va_D A (f_w σ2 cA h2' SM)) (hk : ∀ q : Nat, q < H.size → ¬ va_A (f_w σ2 cA h2 SM) H.size q → H1[q]? = H[q]?) : LWd D cA σ1 σ2 h1 h2' A H1 := by
  refine ⟨w.1.kept (fun k q hq => ?_), hP, w.2.2.1, hD, w.2.2.2.2⟩
  have hlt := (w.1 k q hq).lt
  refine hk q.1 hlt (fun z => ?_)
  rcases z with ⟨k', e', hk'⟩ | z
  · obtain ⟨r, hr, er⟩ := f_w_mem hq
    obtain ⟨t, ht, et⟩ := f_w_mem hk'
    exact w.2.2.2.2 r hr t ht (er.symm.trans et)
  · omega
section LWCALL
variable {p : Program} {l : Launch} {e : Env} {s : State} {m : MethodId} {below : List Frame} {meth : Method} {c : Code} {H : Heap} {locs : List Loc} {Q : State → Prop} {b L : Nat} {xs : Nat → Int32} {D : va_G} {cA : Nat → ClassId} {a0 : Nat} {pc index n : Nat} {ls : Array Slot} {Z : fM} {As rest : List Value}
theorem lw_call {ci : Nat} {fds : List Nat} {q : vw_C} {S : fW} {σ : Nat → Nat} {h : fH} {Post : Option Value → fH → Prop} (E : lw_En p s m meth c b L xs D cA a0) (hlink : Cond.methodLink R_law index Z.1 ∈ f_tbl) (hI : Cond.instanceMethod Z.1 ∈ f_tbl) (hSel : Cond.selects Z.1.cls Z.1 Z.1 ∈ f_tbl) (hC : Cond.code Z.1 Z.2.1 Z.2.2.1 Z.2.2.2 ∈ f_tbl) (hN : Cond.initialized Z.1.cls ∈ f_tbl) (hnm : f_nm Z.1 n) (hml : Z.2.2.1 ≤ 77)
    (hm : (1, .inl (ci, fds)) ∈ S) (hc : f_cl[ci]? = some q) (hq : q.1 = Z.1.cls) (hn : As.length = n) (hAs : As.map (f_v σ) = As) (e0 : σ 0 = a0) (ok : Ok 20 Z S (.ref 1 :: As) h Post) (hP : va_P D f_cl (f_w σ cA h S) H) (hD : va_D (fun q => s.heap.size ≤ q) (f_w σ cA h S)) (hS : va_S (fun q => s.heap.size ≤ q) s.heap H locs) (hsize : ls.size = 4) (hst : (rest.map fun v => v.category).sum ≤ 8) (hd : decode code pc = .ok (.invokevirtual index, 3))
    (kk : ∀ (r : Option Value) (h' : fH) (H1 : Heap) (locs1 : List Loc), Post r h' → va_P D f_cl (f_w σ cA h' S) H1 → va_D (fun q => s.heap.size ≤ q) (f_w σ cA h' S) → va_S (fun q => s.heap.size ≤ q) s.heap H1 locs1 → (∀ q : Nat, q < H.size → ¬ va_A (f_w σ cA h S) H.size q → H1[q]? = H[q]?) → W p l e room_1 s m #[Value.ref b] below meth c H1 locs1 600000 7302250 Q (F0 m (pc + 3) ls ((r.map (f_v σ)).toList ++ rest))) :
    W p l e room_1 s m #[Value.ref b] below meth c H locs 600000 7302250 Q (F0 m pc ls (As.reverse ++ .ref (σ 1) :: rest)) := by
  obtain ⟨⟨hx, hb, hr, hml4, hown, htl, hX, hbl, hlocks, hgv⟩, hK, hao, hsg⟩ := E
  have hts := f_of_lw htl
  obtain ⟨q0, hq0⟩ := List.getElem?_of_mem hm
  have hrv := va_recv hK hP hc (f_w_get (σ := σ) (cA := cA) (h := h) hq0)
  rw [hq] at hrv
  have hF : ∀ q, va_A (f_w σ cA h S) H.size q → s.heap.size ≤ q := by
    intro q z
    rcases z with ⟨k, e', hk⟩ | z
    · exact hD.2 k _ hk
    · exact Nat.le_trans hS.1 z
  have hD' : va_D (va_A (f_w σ cA h S) H.size) (f_w σ cA h S) := ⟨hD.1, fun k q hk => Or.inl ⟨k, q.2, hk⟩⟩
  have cw : CallW room_1 s #[Value.ref b] R_law Z.1.cls index Z.1 Z.2.1 Z.2.2.1 Z.2.2.2 (.code Z.1 Z.2.1 Z.2.2.1 Z.2.2.2 :: f_tbl) (f_room 20) 0 0 n := ⟨callB_of n hts (f_good Z hC) rfl rfl rfl (hts _ hN) (hts _ hlink) hnm ⟨by show 20 + 1 ≤ 2048; decide, by show 8 + (Z.2.2.1 + 11) + 96 * 20 ≤ 84000; omega⟩, hts _ hI, hts _ hSel⟩
  have hstk : As.reverse ++ .ref (σ 1) :: rest = (As.map (f_v σ)).reverse ++ .ref (σ 1) :: rest := by rw [hAs]
  rw [hstk]
  have hrun : va_Run p l e room_1 s m #[Value.ref b] below meth c H locs 600000 7302250 0 0 (F0 m pc ls ((As.map (f_v σ)).reverse ++ .ref (σ 1) :: rest)) rest (f_Q D cA σ (va_A (f_w σ cA h S) H.size) S Post (Value.ref (σ 1) :: As.map (f_v σ)).toArray) (va_A (f_w σ cA h S) H.size) :=
    va_runV (As := As.map (f_v σ)) (b := σ 1) (C := Z.1.cls) ⟨hx, hb, hml4, hown, hts⟩ (ok l D cA σ (va_A (f_w σ cA h S) H.size)) cw ⟨f_blind D cA σ _ S (.ref 1 :: As) h, hrv, fun U hU hW => ⟨rfl, ⟨by rw [hU]; exact hP, hD'⟩, va_K.moved hW.alike hK, fun q hq => Or.inr (by rw [← hU]; exact hq), by rw [hU]; exact f_sg_of e0 (f_sg_nar (f_sg_kept (f_sg_warm hW hsg) hS.2.1) hF)⟩⟩ rfl (by simpa using hn) hsize rfl (lv_room hst) hd ⟨Nat.le_refl _, Nat.le_refl _⟩
  intro T hT X
  obtain ⟨v, st₀, t, T', L', h0, X', hL, e1', e2, ⟨⟨r, h', hv, hp, hP1, hD1⟩, hz, hk⟩, stp⟩ := hrun T hT X
  cases hv
  rw [h0] at hz hk
  obtain ⟨t2, a1', b1⟩ := kk r h' T'.heap (locs ++ L') hp (by rw [e1']; exact hP1) ⟨hD1.1, fun k q hk => hF _ (hD1.2 k q hk)⟩
    ⟨Nat.le_trans hS.1 (by rw [e1']; exact hz), fun q h1 h2 => by rw [e1', hk q (Nat.lt_of_lt_of_le h1 hS.1) (fun w => h2 (hF q w))]; exact hS.2.1 q h1 h2, fun q hq => by
      rcases List.mem_append.mp hq with w | w
      · exact hS.2.2 q w
      · exact hF _ (hL q w)⟩ (fun q h1 h2 => by rw [e1']; exact hk q h1 h2) T' rfl X'
  exact ⟨t2, stp t2 a1', b1⟩
theorem lw_cI {σ1 σ2 : Nat → Nat} {h1 h2 : fH} {Qa : Int32 → fH → Prop} (E : lw_En p s m meth c b L xs D cA a0) (hlink : Cond.methodLink R_law index Z.1 ∈ f_tbl) (hI : Cond.instanceMethod Z.1 ∈ f_tbl) (hSel : Cond.selects Z.1.cls Z.1 Z.1 ∈ f_tbl) (hC : Cond.code Z.1 Z.2.1 Z.2.2.1 Z.2.2.2 ∈ f_tbl) (hN : Cond.initialized Z.1.cls ∈ f_tbl) (hnm : f_nm Z.1 n) (hml : Z.2.2.1 ≤ 77)
    (hq : RX11 = Z.1.cls) (hn : As.length = n) (hAs : As.map (f_v σ1) = As) (e0 : σ1 0 = a0) (ok : OkI 20 Z SC (.ref 1 :: As) h1 Qa) (w : LWd D cA σ1 σ2 h1 h2 (fun q => s.heap.size ≤ q) H) (hS : va_S (fun q => s.heap.size ≤ q) s.heap H locs) (hsize : ls.size = 4) (hst : (rest.map fun v => v.category).sum ≤ 8) (hd : decode code pc = .ok (.invokevirtual index, 3))
    (kk : ∀ (v : Int32) (h' : fH) (H1 : Heap) (locs1 : List Loc), Qa v h' → LWd D cA σ1 σ2 h' h2 (fun q => s.heap.size ≤ q) H1 → va_S (fun q => s.heap.size ≤ q) s.heap H1 locs1 → W p l e room_1 s m #[Value.ref b] below meth c H1 locs1 600000 7302250 Q (F0 m (pc + 3) ls (.int v :: rest))) :
    W p l e room_1 s m #[Value.ref b] below meth c H locs 600000 7302250 Q (F0 m pc ls (As.reverse ++ .ref (σ1 1) :: rest)) := by
  refine lw_call (q := (RX11, TX11, 12)) E hlink hI hSel hC hN hnm hml hC1 rfl hq hn hAs e0 ok w.1 w.2.2.1 hS hsize hst hd (fun r h' H1 locs1 hp hP1 hD1 hS1 hk => ?_)
  obtain ⟨v, rfl, hp⟩ := hp
  exact kk v h' H1 locs1 hp (w.cl hP1 hD1 hk) hS1
theorem lw_cL {σ1 σ2 : Nat → Nat} {h1 h2 : fH} {Qa : Int64 → fH → Prop} (E : lw_En p s m meth c b L xs D cA a0) (hlink : Cond.methodLink R_law index Z.1 ∈ f_tbl) (hI : Cond.instanceMethod Z.1 ∈ f_tbl) (hSel : Cond.selects Z.1.cls Z.1 Z.1 ∈ f_tbl) (hC : Cond.code Z.1 Z.2.1 Z.2.2.1 Z.2.2.2 ∈ f_tbl) (hN : Cond.initialized Z.1.cls ∈ f_tbl) (hnm : f_nm Z.1 n) (hml : Z.2.2.1 ≤ 77)
    (hq : RX11 = Z.1.cls) (hn : As.length = n) (hAs : As.map (f_v σ1) = As) (e0 : σ1 0 = a0) (ok : OkL 20 Z SC (.ref 1 :: As) h1 Qa) (w : LWd D cA σ1 σ2 h1 h2 (fun q => s.heap.size ≤ q) H) (hS : va_S (fun q => s.heap.size ≤ q) s.heap H locs) (hsize : ls.size = 4) (hst : (rest.map fun v => v.category).sum ≤ 8) (hd : decode code pc = .ok (.invokevirtual index, 3))
    (kk : ∀ (v : Int64) (h' : fH) (H1 : Heap) (locs1 : List Loc), Qa v h' → LWd D cA σ1 σ2 h' h2 (fun q => s.heap.size ≤ q) H1 → va_S (fun q => s.heap.size ≤ q) s.heap H1 locs1 → W p l e room_1 s m #[Value.ref b] below meth c H1 locs1 600000 7302250 Q (F0 m (pc + 3) ls (.long v :: rest))) :
    W p l e room_1 s m #[Value.ref b] below meth c H locs 600000 7302250 Q (F0 m pc ls (As.reverse ++ .ref (σ1 1) :: rest)) := by
  refine lw_call (q := (RX11, TX11, 12)) E hlink hI hSel hC hN hnm hml hC1 rfl hq hn hAs e0 ok w.1 w.2.2.1 hS hsize hst hd (fun r h' H1 locs1 hp hP1 hD1 hS1 hk => ?_)
  obtain ⟨v, rfl, hp⟩ := hp
  exact kk v h' H1 locs1 hp (w.cl hP1 hD1 hk) hS1
theorem lw_mI {σ1 σ2 : Nat → Nat} {h1 h2 : fH} {Qa : Int32 → fH → Prop} (E : lw_En p s m meth c b L xs D cA a0) (hlink : Cond.methodLink R_law index Z.1 ∈ f_tbl) (hI : Cond.instanceMethod Z.1 ∈ f_tbl) (hSel : Cond.selects Z.1.cls Z.1 Z.1 ∈ f_tbl) (hC : Cond.code Z.1 Z.2.1 Z.2.2.1 Z.2.2.2 ∈ f_tbl) (hN : Cond.initialized Z.1.cls ∈ f_tbl) (hnm : f_nm Z.1 n) (hml : Z.2.2.1 ≤ 77)
    (hq : RX12 = Z.1.cls) (hn : As.length = n) (hAs : As.map (f_v σ2) = As) (e0 : σ2 0 = a0) (ok : OkI 20 Z SM (.ref 1 :: As) h2 Qa) (w : LWd D cA σ1 σ2 h1 h2 (fun q => s.heap.size ≤ q) H) (hS : va_S (fun q => s.heap.size ≤ q) s.heap H locs) (hsize : ls.size = 4) (hst : (rest.map fun v => v.category).sum ≤ 8) (hd : decode code pc = .ok (.invokevirtual index, 3))
    (kk : ∀ (v : Int32) (h' : fH) (H1 : Heap) (locs1 : List Loc), Qa v h' → LWd D cA σ1 σ2 h1 h' (fun q => s.heap.size ≤ q) H1 → va_S (fun q => s.heap.size ≤ q) s.heap H1 locs1 → W p l e room_1 s m #[Value.ref b] below meth c H1 locs1 600000 7302250 Q (F0 m (pc + 3) ls (.int v :: rest))) :
    W p l e room_1 s m #[Value.ref b] below meth c H locs 600000 7302250 Q (F0 m pc ls (As.reverse ++ .ref (σ2 1) :: rest)) := by
  refine lw_call (q := (RX12, TX12, 40)) E hlink hI hSel hC hN hnm hml hM rfl hq hn hAs e0 ok w.2.1 w.2.2.2.1 hS hsize hst hd (fun r h' H1 locs1 hp hP1 hD1 hS1 hk => ?_)
  obtain ⟨v, rfl, hp⟩ := hp
  exact kk v h' H1 locs1 hp (w.mo hP1 hD1 hk) hS1
theorem lw_mL {σ1 σ2 : Nat → Nat} {h1 h2 : fH} {Qa : Int64 → fH → Prop} (E : lw_En p s m meth c b L xs D cA a0) (hlink : Cond.methodLink R_law index Z.1 ∈ f_tbl) (hI : Cond.instanceMethod Z.1 ∈ f_tbl) (hSel : Cond.selects Z.1.cls Z.1 Z.1 ∈ f_tbl) (hC : Cond.code Z.1 Z.2.1 Z.2.2.1 Z.2.2.2 ∈ f_tbl) (hN : Cond.initialized Z.1.cls ∈ f_tbl) (hnm : f_nm Z.1 n) (hml : Z.2.2.1 ≤ 77)
    (hq : RX12 = Z.1.cls) (hn : As.length = n) (hAs : As.map (f_v σ2) = As) (e0 : σ2 0 = a0) (ok : OkL 20 Z SM (.ref 1 :: As) h2 Qa) (w : LWd D cA σ1 σ2 h1 h2 (fun q => s.heap.size ≤ q) H) (hS : va_S (fun q => s.heap.size ≤ q) s.heap H locs) (hsize : ls.size = 4) (hst : (rest.map fun v => v.category).sum ≤ 8) (hd : decode code pc = .ok (.invokevirtual index, 3))
    (kk : ∀ (v : Int64) (h' : fH) (H1 : Heap) (locs1 : List Loc), Qa v h' → LWd D cA σ1 σ2 h1 h' (fun q => s.heap.size ≤ q) H1 → va_S (fun q => s.heap.size ≤ q) s.heap H1 locs1 → W p l e room_1 s m #[Value.ref b] below meth c H1 locs1 600000 7302250 Q (F0 m (pc + 3) ls (.long v :: rest))) :
    W p l e room_1 s m #[Value.ref b] below meth c H locs 600000 7302250 Q (F0 m pc ls (As.reverse ++ .ref (σ2 1) :: rest)) := by
  refine lw_call (q := (RX12, TX12, 40)) E hlink hI hSel hC hN hnm hml hM rfl hq hn hAs e0 ok w.2.1 w.2.2.2.1 hS hsize hst hd (fun r h' H1 locs1 hp hP1 hD1 hS1 hk => ?_)
  obtain ⟨v, rfl, hp⟩ := hp
  exact kk v h' H1 locs1 hp (w.mo hP1 hD1 hk) hS1
end LWCALL

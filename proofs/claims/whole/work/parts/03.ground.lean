/-! ===== THE FLAT MACHINE: worlds of a fixed shape, by ids; a heap is four maps: int fields, long fields, int rows, long rows ===== -/
abbrev fH : Type := (Nat → Nat → Int32) × (Nat → Nat → Int64) × (Nat → Nat → Int32) × (Nat → Nat → Int64)
/-- a shape: an object (its class' number in f_cl; a field's kind: 0 int, 1 long, 2 boolean, 3 null, j + 4 the cell of id j), or a row (0 int, 1 long, 2 boolean, 3 int[]; its length; the ids of its rows) -/
abbrev fS : Type := (Nat × List Nat) ⊕ (Nat × Nat × (Nat → Nat))
abbrev fW : Type := List (Nat × fS)
/-- a method: its name, its bytes, how many locals, what it answers -/
abbrev fM : Type := MethodName × ByteArray × Nat × Option FieldType
def f_v (σ : Nat → Nat) : Value → Value
  | .ref k => .ref (σ k)
  | .int x => .int x
  | .long x => .long x
  | v => v
def f_fv (σ : Nat → Nat) (h : fH) (r k : Nat) : Nat → Value
  | 0 => .int (h.1 r k)
  | 1 => .long (h.2.1 r k)
  | 2 => .int (h.1 r k)
  | 3 => .null
  | j + 4 => .ref (σ j)
def f_fs (σ : Nat → Nat) (h : fH) (r : Nat) : Nat → List Nat → List Value
  | _, [] => []
  | k, fd :: t => f_fv σ h r k fd :: f_fs σ h r (k + 1) t
def f_e (σ : Nat → Nat) (cA : Nat → ClassId) (h : fH) (r : Nat) : fS → va_E
  | .inl (ci, fds) => .inr (ci, f_fs σ h r 0 fds)
  | .inr (0, n, _) => .inl (cA 0, n, .inl (h.2.2.1 r))
  | .inr (1, n, _) => .inl (cA 1, n, .inr (.inl (h.2.2.2 r)))
  | .inr (2, n, _) => .inl (cA 2, n, .inl (h.2.2.1 r))
  | .inr (_ + 3, n, g) => .inl (cA 3, n, .inr (.inr (.inr (.inr (fun i => some (σ (g i)))))))
def f_w (σ : Nat → Nat) (cA : Nat → ClassId) (h : fH) (S : fW) : va_W := S.map fun q => (σ q.1, f_e σ cA h q.1 q.2)
def f_tys (cA : Nat → ClassId) : List (ClassId × FieldType) := [(cA 0, .int), (cA 1, .long), (cA 2, .boolean), (cA 3, .array .int)]
def f_lv (σ : Nat → Nat) (lv : List (Nat × Value)) : List (Nat × Value) := lv.map fun q => (q.1, f_v σ q.2)
def f_s1 (i : Nat) (v : Value) (lv : List (Nat × Value)) : List (Nat × Value) := (i, v) :: lv.filter (fun q => !(q.1 == i) && !(q.1 + 1 == i && q.2.category == 2))
def f_s2 (i : Nat) (v : Value) (lv : List (Nat × Value)) : List (Nat × Value) := (i, v) :: lv.filter (fun q => !(q.1 == i) && (!(q.1 == i + 1) && !(q.1 + 1 == i && q.2.category == 2)))
def u_fi (h : fH) (r k : Nat) (v : Int32) : fH := (fun a => if a = r then upd (h.1 a) k v else h.1 a, h.2)
def u_fl (h : fH) (r k : Nat) (v : Int64) : fH := (h.1, fun a => if a = r then vp_updL (h.2.1 a) k v else h.2.1 a, h.2.2)
def u_ai (h : fH) (r : Nat) (f : Nat → Int32) : fH := (h.1, h.2.1, fun a => if a = r then f else h.2.2.1 a, h.2.2.2)
def u_al (h : fH) (r : Nat) (f : Nat → Int64) : fH := (h.1, h.2.1, h.2.2.1, fun a => if a = r then f else h.2.2.2 a)
def f_room (d : Nat) : Room := { frames := d, cells := 0, slots := 0, locals := 96 * d }
def f_ten (j : Nat) : Int64 := Int64.ofNat (10 ^ j)
/-- the static row TENS (id 0), the words of nest mates -/
def f_sg (σ : Nat → Nat) (A : Nat → Prop) (U : State) (H : Heap) : Prop := va_Z RX11 "TENS" "[J" (.ref (σ 0)) A U H ∧ va_T .long (σ 0) 19 (fun j => .long (f_ten j)) A U H ∧ ∀ w ∈ f_nst, va_Nw w U
def f_B (D : va_G) (cA : Nat → ClassId) (σ : Nat → Nat) (A : Nat → Prop) (S : fW) (h : fH) (U : State) : Prop := (va_P D f_cl (f_w σ cA h S) U.heap ∧ va_D A (f_w σ cA h S)) ∧ va_K D f_cl (f_tys cA) U ∧ (∀ q : Nat, U.heap.size ≤ q → A q) ∧ f_sg σ A U U.heap
def f_Pc (D : va_G) (cA : Nat → ClassId) (σ : Nat → Nat) (A : Nat → Prop) (S : fW) (vs : List Value) (h : fH) : Array Value → State → Prop := va_Pc (vs.map (f_v σ)) (f_B D cA σ A S h)
def f_Q (D : va_G) (cA : Nat → ClassId) (σ : Nat → Nat) (A : Nat → Prop) (S : fW) (Post : Option Value → fH → Prop) : Array Value → State → Outcome → State → Prop := fun _ st oc t =>
  (∃ (r : Option Value) (h : fH), oc = .returned (r.map (f_v σ)) ∧ Post r h ∧ va_P D f_cl (f_w σ cA h S) t.heap ∧ va_D A (f_w σ cA h S)) ∧ va_F A st t
/-- A METHOD'S MEANING: from the heap h with these arguments it ends, its answer and heap are as Post has them; nothing outside the world is written, nothing made; d: how deep its calls go -/
def Ok (d : Nat) (Y : fM) (S : fW) (vs : List Value) (h : fH) (Post : Option Value → fH → Prop) : Prop :=
  ∀ (l : Launch) (D : va_G) (cA : Nat → ClassId) (σ : Nat → Nat) (A : Nat → Prop), Met l Y.1 (.code Y.1 Y.2.1 Y.2.2.1 Y.2.2.2 :: f_tbl) (f_room d) (f_Pc D cA σ A S vs h) (f_Q D cA σ A S Post) 0 0 A
def f_E (Y : fM) (p : Program) (s : State) (m : MethodId) (args : Array Value) (meth : Method) (c : Code) (D : va_G) (cA : Nat → ClassId) (σ : Nat → Nat) (A : Nat → Prop) : Prop :=
  p.tables.exec = Jvm.exec ∧ c.code = Y.2.1 ∧ c.maxLocals = Y.2.2.1 ∧ meth.sig.returnType = Y.2.2.2 ∧ s.vm.findClass Y.1.cls = some m.cls ∧ (∀ w ∈ f_tbl, w.before args s = true) ∧ f_sg σ A s s.heap ∧ meth.locks = false ∧ va_K D f_cl (f_tys cA) s ∧ (∀ q : Nat, s.heap.size ≤ q → A q)
/-- the flat machine, at pc with locals lv, stack st, heap h, comes to its end with Post -/
def G (Y : fM) (d : Nat) (S : fW) (Post : Option Value → fH → Prop) (pc : Nat) (lv : List (Nat × Value)) (st : List Value) (h : fH) : Prop :=
  ∀ (p : Program) (l : Launch) (e : Env) (s : State) (m : MethodId) (args : Array Value) (below : List Frame) (meth : Method) (c : Code) (D : va_G) (cA : Nat → ClassId) (σ : Nat → Nat) (A : Nat → Prop), f_E Y p s m args meth c D cA σ A →
  ∀ (H : Heap) (locs : List Loc) (ls : Array Slot), va_P D f_cl (f_w σ cA h S) H → va_D A (f_w σ cA h S) → va_S A s.heap H locs → lv_has ls Y.2.2.1 (f_lv σ lv) →
  W p l e (f_room d) s m args below meth c H locs 0 0 (MQ below (f_Q D cA σ A S Post) args s 0 0 A) (F0 m pc ls (st.map (f_v σ)))
-- pure rows
theorem f_v_cat (σ : Nat → Nat) (v : Value) : (f_v σ v).category = v.category := by cases v <;> rfl
theorem f_lv_get {σ : Nat → Nat} {lv : List (Nat × Value)} {j i : Nat} {v : Value} (h : lv[j]? = some (i, v)) : (f_lv σ lv)[j]? = some (i, f_v σ v) := by
  simp [f_lv, h]
theorem f_at {σ : Nat → Nat} {ls : Array Slot} {n : Nat} {lv : List (Nat × Value)} (hl : lv_has ls n (f_lv σ lv)) (j : Nat) {i : Nat} {v : Value} (h : lv[j]? = some (i, v)) : ls[i]? = some (.val (f_v σ v)) := lv_at hl j (f_lv_get h)
theorem f_filter (σ : Nat → Nat) (P : Nat → Nat → Bool) (lv : List (Nat × Value)) : (f_lv σ lv).filter (fun q => P q.1 q.2.category) = f_lv σ (lv.filter (fun q => P q.1 q.2.category)) := by
  unfold f_lv
  rw [List.filter_map]
  congr 1
  apply List.filter_congr
  intro q _
  simp [f_v_cat]
theorem f_s1_map (σ : Nat → Nat) (i : Nat) (v : Value) (lv : List (Nat × Value)) : (i, f_v σ v) :: (f_lv σ lv).filter (fun q => !(q.1 == i) && !(q.1 + 1 == i && q.2.category == 2)) = f_lv σ (f_s1 i v lv) := by
  rw [f_filter σ (fun a b => !(a == i) && !(a + 1 == i && b == 2)) lv]
  rfl
theorem f_s2_map (σ : Nat → Nat) (i : Nat) (v : Value) (lv : List (Nat × Value)) : (i, f_v σ v) :: (f_lv σ lv).filter (fun q => !(q.1 == i) && (!(q.1 == i + 1) && !(q.1 + 1 == i && q.2.category == 2))) = f_lv σ (f_s2 i v lv) := by
  rw [f_filter σ (fun a b => !(a == i) && (!(a == i + 1) && !(a + 1 == i && b == 2))) lv]
  rfl
theorem f_fs_get (σ : Nat → Nat) (h : fH) (r : Nat) : ∀ (fds : List Nat) (k i : Nat), (f_fs σ h r k fds)[i]? = (fds[i]?).map (f_fv σ h r (k + i))
  | [], k, i => by simp [f_fs]
  | fd :: t, k, 0 => by simp [f_fs]
  | fd :: t, k, i + 1 => by
    simp only [f_fs, List.getElem?_cons_succ]
    rw [f_fs_get σ h r t (k + 1) i]
    congr 2
    omega
theorem f_fs_len (σ : Nat → Nat) (h : fH) (r : Nat) : ∀ (fds : List Nat) (k : Nat), (f_fs σ h r k fds).length = fds.length
  | [], k => rfl
  | fd :: t, k => by simp [f_fs, f_fs_len σ h r t (k + 1)]
/-- the heaps agree but at the cell of id r -/
def f_off (h h' : fH) (r : Nat) : Prop := ∀ a : Nat, a ≠ r → h'.1 a = h.1 a ∧ h'.2.1 a = h.2.1 a ∧ h'.2.2.1 a = h.2.2.1 a ∧ h'.2.2.2 a = h.2.2.2 a
theorem f_fv_of {σ : Nat → Nat} {h h' : fH} {r k fd : Nat} (h1 : h'.1 r = h.1 r) (h2 : h'.2.1 r = h.2.1 r) : f_fv σ h' r k fd = f_fv σ h r k fd := by
  match fd with
  | 0 => simp [f_fv, h1]
  | 1 => simp [f_fv, h2]
  | 2 => simp [f_fv, h1]
  | 3 => simp [f_fv]
  | j + 4 => simp [f_fv]
theorem f_fs_of {σ : Nat → Nat} {h h' : fH} {r : Nat} (h1 : h'.1 r = h.1 r) (h2 : h'.2.1 r = h.2.1 r) : ∀ (fds : List Nat) (k : Nat), f_fs σ h' r k fds = f_fs σ h r k fds
  | [], k => rfl
  | fd :: t, k => by simp only [f_fs, f_fv_of h1 h2, f_fs_of h1 h2 t (k + 1)]
theorem f_e_of {σ : Nat → Nat} {cA : Nat → ClassId} {h h' : fH} {r : Nat} (sh : fS) (h1 : h'.1 r = h.1 r) (h2 : h'.2.1 r = h.2.1 r) (h3 : h'.2.2.1 r = h.2.2.1 r) (h4 : h'.2.2.2 r = h.2.2.2 r) : f_e σ cA h' r sh = f_e σ cA h r sh := by
  match sh with
  | .inl (ci, fds) => simp only [f_e, f_fs_of h1 h2]
  | .inr (0, n, g) => simp only [f_e, h3]
  | .inr (1, n, g) => simp only [f_e, h4]
  | .inr (2, n, g) => simp only [f_e, h3]
  | .inr (j + 3, n, g) => simp only [f_e]
theorem f_w_get {σ : Nat → Nat} {cA : Nat → ClassId} {h : fH} {S : fW} {q r : Nat} {sh : fS} (hq : S[q]? = some (r, sh)) : (f_w σ cA h S)[q]? = some (σ r, f_e σ cA h r sh) := by
  simp [f_w, hq]
theorem f_w_set {σ : Nat → Nat} {cA : Nat → ClassId} {h h' : fH} {S : fW} {A : Nat → Prop} {q r : Nat} {sh : fS} (hq : S[q]? = some (r, sh)) (hD : va_D A (f_w σ cA h S)) (ho : f_off h h' r) : (f_w σ cA h S).set q (σ r, f_e σ cA h' r sh) = f_w σ cA h' S := by
  apply List.ext_getElem?
  intro j
  rw [List.getElem?_set]
  by_cases e : q = j
  · subst e
    have hlt : q < (f_w σ cA h S).length := by
      have := (List.getElem?_eq_some_iff.mp hq).1
      simpa [f_w] using this
    rw [if_pos rfl, if_pos hlt, f_w_get hq]
  · rw [if_neg e]
    cases hj : S[j]? with
    | none => simp [f_w, hj]
    | some x =>
      obtain ⟨r', sh'⟩ := x
      rw [f_w_get hj, f_w_get hj]
      have hne : r' ≠ r := by
        intro er
        subst er
        exact e (hD.1 q j _ _ (f_w_get hq) (f_w_get hj) rfl)
      obtain ⟨a1, a2, a3, a4⟩ := ho r' hne
      rw [f_e_of sh' a1 a2 a3 a4]
theorem f_D {σ : Nat → Nat} {cA : Nat → ClassId} {h h' : fH} {S : fW} {A : Nat → Prop} (hD : va_D A (f_w σ cA h S)) : va_D A (f_w σ cA h' S) := by
  have key : ∀ (k : Nat) (q : Nat × va_E), (f_w σ cA h' S)[k]? = some q → ∃ e, (f_w σ cA h S)[k]? = some (q.1, e) := by
    intro k q hk
    cases hj : S[k]? with
    | none => simp [f_w, hj] at hk
    | some x =>
      obtain ⟨r, sh⟩ := x
      rw [f_w_get hj] at hk
      cases hk
      exact ⟨_, f_w_get hj⟩
  refine ⟨fun i j p q hi hj e => ?_, fun k q hk => ?_⟩
  · obtain ⟨e1, h1⟩ := key i p hi
    obtain ⟨e2, h2⟩ := key j q hj
    exact hD.1 i j _ _ h1 h2 e
  · obtain ⟨e1, h1⟩ := key k q hk
    exact hD.2 k (q.1, e1) h1
theorem f_off_fi (h : fH) (r k : Nat) (v : Int32) : f_off h (u_fi h r k v) r := fun a ha => by simp [u_fi, ha]
theorem f_off_fl (h : fH) (r k : Nat) (v : Int64) : f_off h (u_fl h r k v) r := fun a ha => by simp [u_fl, ha]
theorem f_off_ai (h : fH) (r : Nat) (f : Nat → Int32) : f_off h (u_ai h r f) r := fun a ha => by simp [u_ai, ha]
theorem f_off_al (h : fH) (r : Nat) (f : Nat → Int64) : f_off h (u_al h r f) r := fun a ha => by simp [u_al, ha]
theorem f_fs_set {σ : Nat → Nat} {h h' : fH} {r k : Nat} {fds : List Nat} {v : Value} (hv : ∀ fd, fds[k]? = some fd → f_fv σ h' r k fd = v) (ho : ∀ j fd, j ≠ k → f_fv σ h' r j fd = f_fv σ h r j fd) : (f_fs σ h r 0 fds).set k v = f_fs σ h' r 0 fds := by
  apply List.ext_getElem?
  intro j
  rw [List.getElem?_set, f_fs_get, f_fs_get]
  by_cases e : k = j
  · subst e
    rw [if_pos rfl, f_fs_len]
    by_cases hk : k < fds.length
    · rw [if_pos hk, List.getElem?_eq_getElem hk]
      simp only [Option.map_some, Nat.zero_add]
      rw [hv _ (List.getElem?_eq_getElem hk)]
    · rw [if_neg hk, List.getElem?_eq_none (Nat.le_of_not_lt hk)]
      rfl
  · rw [if_neg e]
    cases fds[j]? with
    | none => rfl
    | some fd => simp only [Option.map_some, Nat.zero_add]; rw [ho j fd (fun q => e q.symm)]
theorem f_fv_fi {σ : Nat → Nat} {h : fH} {r k j fd : Nat} {v : Int32} (hj : j ≠ k) : f_fv σ (u_fi h r k v) r j fd = f_fv σ h r j fd := by
  match fd with
  | 0 => simp [f_fv, u_fi, upd, hj]
  | 1 => simp [f_fv, u_fi]
  | 2 => simp [f_fv, u_fi, upd, hj]
  | 3 => simp [f_fv]
  | j + 4 => simp [f_fv]
theorem f_fv_fl {σ : Nat → Nat} {h : fH} {r k j fd : Nat} {v : Int64} (hj : j ≠ k) : f_fv σ (u_fl h r k v) r j fd = f_fv σ h r j fd := by
  match fd with
  | 0 => simp [f_fv, u_fl]
  | 1 => simp [f_fv, u_fl, vp_updL, hj]
  | 2 => simp [f_fv, u_fl]
  | 3 => simp [f_fv]
  | j + 4 => simp [f_fv]
theorem f_args (σ : Nat → Nat) : ∀ (vs : List Value) (i : Nat), lv_args i (vs.map (f_v σ)) = f_lv σ (lv_args i vs)
  | [], i => rfl
  | v :: vs, i => by
    simp only [List.map_cons, lv_args, f_v_cat, f_lv, List.map_cons]
    rw [f_args σ vs]
    rfl
theorem f_sl (σ : Nat → Nat) (vs : List Value) : (lg_sl (vs.map (f_v σ))).length = (lg_sl vs).length := by
  induction vs with
  | nil => rfl
  | cons v vs ih =>
    simp only [lg_sl, List.map_cons, List.flatMap_cons, List.length_append] at ih ⊢
    rw [ih, f_v_cat]
    by_cases h : v.category = 2 <;> simp [h]
-- the nest's words go through calls
def f_isN : Cond → Bool
  | .methodLinkNest .. => true
  | .fieldLinkNest .. => true
  | _ => false
theorem f_nst_isN : ∀ w ∈ f_nst, f_isN w = true := by decide +kernel
theorem f_isN_tab {w : Cond} (h : f_isN w = true) : w.onTables = true := by
  cases w <;> first | rfl | cases h
theorem f_isN_warm {w : Cond} (h : f_isN w = true) {s U : State} (hW : s.WarmedH U.vm) (hZ : va_Nw w s) : va_Nw w U := by
  cases w <;> first | exact va_Nw.warmM hW hZ | exact va_Nw.warmF hW hZ | cases h
theorem f_sg_same {σ : Nat → Nat} {A : Nat → Prop} {u U : State} {H : Heap} (hvm : u.vm = U.vm) (h : f_sg σ A u H) : f_sg σ A U H := by
  obtain ⟨h1, h2, h3⟩ := h
  have ha : u.vm.Alike U.vm := by rw [hvm]; exact Vm.Alike.refl U.vm
  exact ⟨h1.moved ha, h2.moved ha, fun w hw => (h3 w hw).same (f_isN_tab (f_nst_isN w hw)) hvm⟩
theorem f_sg_warm {σ : Nat → Nat} {A : Nat → Prop} {s U : State} {H : Heap} (hW : s.WarmedH U.vm) (h : f_sg σ A s H) : f_sg σ A U H := by
  obtain ⟨h1, h2, h3⟩ := h
  exact ⟨h1.moved hW.alike, h2.moved hW.alike, fun w hw => f_isN_warm (f_nst_isN w hw) hW (h3 w hw)⟩
theorem f_sg_kept {σ : Nat → Nat} {A : Nat → Prop} {U : State} {H H1 : Heap} (h : f_sg σ A U H) (hq : ∀ a : Nat, a < H.size → ¬ A a → H1[a]? = H[a]?) : f_sg σ A U H1 := ⟨h.1.kept hq, h.2.1.kept hq, h.2.2⟩
theorem f_blind (D : va_G) (cA : Nat → ClassId) (σ : Nat → Nat) (A : Nat → Prop) (S : fW) (vs : List Value) (h : fH) : FrameBlind (f_Pc D cA σ A S vs h) := by
  intro a U g mk q
  obtain ⟨q1, q2, q3, q4, q5⟩ := q
  exact ⟨q1, q2, va_K.moved (u := U) (U := U.calling g mk a) (Vm.Alike.refl U.vm) q3, q4, f_sg_same (u := U) (U := U.calling g mk a) rfl q5⟩
theorem f_good (Y : fM) (hc : Cond.code Y.1 Y.2.1 Y.2.2.1 Y.2.2.2 ∈ f_tbl) : GoodIn f_tbl (.code Y.1 Y.2.1 Y.2.2.1 Y.2.2.2 :: f_tbl) := by
  intro w hw
  rcases List.mem_cons.mp hw with rfl | hw
  · exact ⟨hc, f_tbl_ok hc⟩
  · exact ⟨hw, f_tbl_ok hw⟩
/-- a method is proved from its entry -/
theorem Ok.of {d : Nat} {Y : fM} {S : fW} {vs : List Value} {h : fH} {Post : Option Value → fH → Prop} (hy : plainName Y.1.cls = true) (hn : (lg_sl vs).length ≤ Y.2.2.1) (g : G Y d S Post 0 (lv_args 0 vs) [] h) : Ok d Y S vs h Post := by
  intro l D cA σ A
  refine Met.ofW (cc := Y.2.1) (maxL := Y.2.2.1) (ret := Y.2.2.2) hy rfl ?_
  intro p e s m args below meth c s₁ B hml hv
  obtain ⟨rfl, ⟨hP, hD⟩, hK, hA, hsg⟩ := hv
  have hts := atoms_spec (ws := .code Y.1 Y.2.1 Y.2.2.1 Y.2.2.2 :: f_tbl) B.pre
  have hown : s.vm.findClass Y.1.cls = some m.cls := findClass_of_methodNamed B.named
  have hl := lv_entry (vs.map (f_v σ)) (n := Y.2.2.1) (by rw [f_sl]; exact hn)
  rw [f_args] at hl
  rw [lg_entry_eq]
  exact g p l e s m _ below meth c D cA σ A ⟨B.exec, B.bytes, hml, B.returns, hown, fun w hw => hts w (List.mem_cons_of_mem _ hw), hsg, B.notSynchronized, hK, hA⟩ s.heap [] _ hP hD va_S.rf hl
theorem f_opt (σ : Nat → Nat) (r : Option Value) (st : List Value) : (r.map (f_v σ)).toList ++ st.map (f_v σ) = (r.toList ++ st).map (f_v σ) := by cases r <;> rfl
section FCALL
variable {p : Program} {l : Launch} {e : Env} {R : Room} {s : State} {m : MethodId} {args : Array Value} {below : List Frame} {meth : Method} {c : Code} {H : Heap} {locs : List Loc} {Q : State → Prop}
theorem f_call {D : va_G} {cA : Nat → ClassId} {σ : Nat → Nat} {A : Nat → Prop} {S : fW} {Post : Option Value → fH → Prop} {pc : Nat} {ls : Array Slot} {st0 rest : List Value} {a : Array Value} (hr : va_Run p l e R s m args below meth c H locs 0 0 0 0 (F0 m pc ls st0) (rest.map (f_v σ)) (f_Q D cA σ A S Post a) A) (hS : va_S A s.heap H locs)
    (kk : ∀ (r : Option Value) (h' : fH) (H1 : Heap) (locs1 : List Loc), Post r h' → va_P D f_cl (f_w σ cA h' S) H1 → va_D A (f_w σ cA h' S) → va_S A s.heap H1 locs1 → W p l e R s m args below meth c H1 locs1 0 0 Q (F0 m (pc + 3) ls ((r.toList ++ rest).map (f_v σ)))) : W p l e R s m args below meth c H locs 0 0 Q (F0 m pc ls st0) := by
  intro T hT X
  obtain ⟨v, st₀, t, T', L, h0, X', hL, e1, e2, ⟨⟨r, h', hv, hp, hP, hD⟩, hz, hk⟩, st⟩ := hr T hT X
  cases hv
  rw [h0] at hz hk
  obtain ⟨t2, a1, b1⟩ := kk r h' T'.heap (locs ++ L) hp (by rw [e1]; exact hP) hD
    ⟨Nat.le_trans hS.1 (by rw [e1]; exact hz), fun q h1 h2 => by rw [e1, hk q (Nat.lt_of_lt_of_le h1 hS.1) h2]; exact hS.2.1 q h1 h2, fun q hq => by
      rcases List.mem_append.mp hq with h | h
      · exact hS.2.2 q h
      · exact hL q h⟩ T' rfl X'
  rw [← f_opt] at a1
  exact ⟨t2, st t2 a1, b1⟩
end FCALL

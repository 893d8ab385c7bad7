/-! ===== constructors: worlds that grow ===== -/
def f_roomC (d C N : Nat) : Room := { frames := d, cells := C, slots := N, locals := 96 * d }
/-- the component of int[][] is int[] -/
def f_ao (cA : Nat → ClassId) (U : State) : Prop := ∃ k : Class, U.vm.classes[cA 3]? = some k ∧ k.kind = .array (cA 0) (.array .int)
theorem f_ao.moved {cA : Nat → ClassId} {u U : State} (h : u.vm.Alike U.vm) (x : f_ao cA u) : f_ao cA U := by
  obtain ⟨k, x1, x2⟩ := x
  obtain ⟨k', y1, y2⟩ := h.2.2 _ _ x1
  exact ⟨k', y1, by rw [y2]; exact x2⟩
theorem f_sg_of {σ : Nat → Nat} {a0 : Nat} {A : Nat → Prop} {U : State} {H : Heap} (e : σ 0 = a0) (h : f_sg (fun _ => a0) A U H) : f_sg σ A U H := by
  unfold f_sg at h ⊢
  rw [e]
  exact h
theorem f_sg_to {σ : Nat → Nat} {a0 : Nat} {A : Nat → Prop} {U : State} {H : Heap} (e : σ 0 = a0) (h : f_sg σ A U H) : f_sg (fun _ => a0) A U H := by
  unfold f_sg at h ⊢
  rw [e] at h
  exact h
theorem f_sg_nar {σ : Nat → Nat} {A B : Nat → Prop} {U : State} {H : Heap} (h : f_sg σ A U H) (hAB : ∀ q, B q → A q) : f_sg σ B U H := ⟨h.1.narrow hAB, h.2.1.narrow hAB, h.2.2⟩
/-- ids below n -/
def s_lt (n : Nat) : fS → Prop
  | .inl (_, fds) => ∀ fd ∈ fds, fd < n + 4
  | .inr (k, _, g) => k < 3 ∨ ∀ i, g i < n
def wlt (n : Nat) (S : fW) : Prop := ∀ x ∈ S, x.1 < n ∧ s_lt n x.2
def s_ge : fS → Prop
  | .inl (_, fds) => ∀ fd ∈ fds, fd ≠ 4
  | .inr (k, _, g) => k < 3 ∨ ∀ i, 1 ≤ g i
def wge (S : fW) : Prop := ∀ x ∈ S, 1 ≤ x.1 ∧ s_ge x.2
def s_sh (o : Nat) : fS → fS
  | .inl (c, fds) => .inl (c, fds.map (fun fd => if fd < 4 then fd else fd + o))
  | .inr (k, n, g) => if k < 3 then .inr (k, n, g) else .inr (k, n, fun i => g i + o)
def shf (o : Nat) (S : fW) : fW := S.map fun x => (x.1 + o, s_sh o x.2)
theorem s_lt.mono {n m : Nat} (h : n ≤ m) : ∀ {s : fS}, s_lt n s → s_lt m s
  | .inl (_, fds), q => fun fd hf => Nat.lt_of_lt_of_le (q fd hf) (by omega)
  | .inr (k, _, g), q => q.imp id (fun w i => Nat.lt_of_lt_of_le (w i) h)
theorem wlt.mono {n m : Nat} {S : fW} (q : wlt n S) (h : n ≤ m) : wlt m S := fun x hx => ⟨Nat.lt_of_lt_of_le (q x hx).1 h, (q x hx).2.mono h⟩
theorem wlt.app {n : Nat} {S T : fW} (a : wlt n S) (b : wlt n T) : wlt n (S ++ T) := fun x hx => by
  rcases List.mem_append.mp hx with h | h
  · exact a x h
  · exact b x h
theorem wlt.cons {n : Nat} {x : Nat × fS} {T : fW} (a : x.1 < n ∧ s_lt n x.2) (b : wlt n T) : wlt n (x :: T) := fun y hy => by
  rcases List.mem_cons.mp hy with rfl | h
  · exact a
  · exact b y h
theorem s_lt.sh {n o : Nat} : ∀ {s : fS}, s_lt n s → s_lt (n + o) (s_sh o s)
  | .inl (_, fds), q => fun fd hf => by
    obtain ⟨x, hx, rfl⟩ := List.mem_map.mp hf
    have := q x hx
    split <;> omega
  | .inr (k, m, g), q => by
    by_cases h : k < 3
    · simp only [s_sh, if_pos h]; exact Or.inl h
    · simp only [s_sh, if_neg h]; exact Or.inr (fun i => Nat.add_lt_add_right ((q.resolve_left h) i) o)
theorem wlt.sh {n o : Nat} {S : fW} (q : wlt n S) : wlt (n + o) (shf o S) := fun x hx => by
  obtain ⟨y, hy, rfl⟩ := List.mem_map.mp hx
  exact ⟨by have := (q y hy).1; simp only; omega, (q y hy).2.sh⟩
/-- the heaps agree below n -/
def fLt (n : Nat) (h k : fH) : Prop := ∀ a, a < n → k.1 a = h.1 a ∧ k.2.1 a = h.2.1 a ∧ k.2.2.1 a = h.2.2.1 a ∧ k.2.2.2 a = h.2.2.2 a
/-- the heap k bears z's cells from n on -/
def fShf (n : Nat) (k z : fH) : Prop := ∀ i, 1 ≤ i → k.1 (i + (n - 1)) = z.1 i ∧ k.2.1 (i + (n - 1)) = z.2.1 i ∧ k.2.2.1 (i + (n - 1)) = z.2.2.1 i ∧ k.2.2.2 (i + (n - 1)) = z.2.2.2 i
def f_z (h : fH) (n : Nat) : fH := (fun a => if a = n then fun _ => 0 else h.1 a, fun a => if a = n then fun _ => 0 else h.2.1 a, fun a => if a = n then fun _ => 0 else h.2.2.1 a, fun a => if a = n then fun _ => 0 else h.2.2.2 a)
def fZ : fH := (fun _ _ => 0, fun _ _ => 0, fun _ _ => 0, fun _ _ => 0)
def f_mg (n : Nat) (h z : fH) : fH := (fun a => if a < n then h.1 a else z.1 (a - (n - 1)), fun a => if a < n then h.2.1 a else z.2.1 (a - (n - 1)), fun a => if a < n then h.2.2.1 a else z.2.2.1 (a - (n - 1)), fun a => if a < n then h.2.2.2 a else z.2.2.2 (a - (n - 1)))
def f_us (σ : Nat → Nat) (n q : Nat) : Nat → Nat := fun i => if i = n then q else σ i
def f_ms (n : Nat) (σ τ : Nat → Nat) : Nat → Nat := fun i => if i < n then σ i else τ (i - (n - 1))
theorem fLt.z (h : fH) (n : Nat) : fLt n h (f_z h n) := fun a ha => by
  have : ¬ a = n := by omega
  simp [f_z, this]
theorem fLt.mg (h z : fH) (n : Nat) : fLt n h (f_mg n h z) := fun a ha => by simp [f_mg, ha]
theorem fLt.tr {n : Nat} {h k l : fH} (a : fLt n h k) (b : fLt n k l) : fLt n h l := fun x hx => ⟨(b x hx).1.trans (a x hx).1, (b x hx).2.1.trans (a x hx).2.1, (b x hx).2.2.1.trans (a x hx).2.2.1, (b x hx).2.2.2.trans (a x hx).2.2.2⟩
theorem fLt.mono {n m : Nat} {h k : fH} (a : fLt m h k) (q : n ≤ m) : fLt n h k := fun x hx => a x (by omega)
theorem fShf.mg (h z : fH) {n : Nat} (hn : 1 ≤ n) : fShf n (f_mg n h z) z := fun i hi => by
  have e1 : ¬ i + (n - 1) < n := by omega
  have e2 : i + (n - 1) - (n - 1) = i := by omega
  simp [f_mg, e1, e2]
theorem f_fs_c {σ τ : Nat → Nat} {h k : fH} {r r' n : Nat} (hs : ∀ i, i < n → τ i = σ i) (h1 : k.1 r' = h.1 r) (h2 : k.2.1 r' = h.2.1 r) : ∀ (fds : List Nat) (j : Nat), (∀ fd ∈ fds, fd < n + 4) → f_fs τ k r' j fds = f_fs σ h r j fds
  | [], _, _ => rfl
  | fd :: t, j, q => by
    have ih := f_fs_c hs h1 h2 t (j + 1) (fun x hx => q x (List.mem_cons_of_mem _ hx))
    have q0 := q fd (List.mem_cons_self)
    simp only [f_fs, ih]
    congr 1
    match fd, q0 with
    | 0, _ => simp [f_fv, h1]
    | 1, _ => simp [f_fv, h2]
    | 2, _ => simp [f_fv, h1]
    | 3, _ => simp [f_fv]
    | i + 4, q0 => simp only [f_fv]; rw [hs i (by omega)]
theorem f_w_c {σ τ : Nat → Nat} {cA : Nat → ClassId} {h k : fH} {n : Nat} {S : fW} (w : wlt n S) (hs : ∀ i, i < n → τ i = σ i) (hh : fLt n h k) : f_w τ cA k S = f_w σ cA h S := by
  unfold f_w
  apply List.map_congr_left
  intro x hx
  obtain ⟨r, sh⟩ := x
  obtain ⟨w1, w2⟩ := w _ hx
  obtain ⟨a1, a2, a3, a4⟩ := hh r w1
  simp only at w1 w2 ⊢
  rw [hs r w1]
  congr 1
  match sh, w2 with
  | .inl (ci, fds), w2 => simp only [f_e]; rw [f_fs_c hs a1 a2 fds 0 w2]
  | .inr (0, m, g), _ => simp only [f_e, a3]
  | .inr (1, m, g), _ => simp only [f_e, a4]
  | .inr (2, m, g), _ => simp only [f_e, a3]
  | .inr (j + 3, m, g), w2 =>
    simp only [f_e]
    have q : ∀ i, g i < n := w2.resolve_left (by omega)
    have ef : (fun i => some (τ (g i))) = fun i => some (σ (g i)) := funext fun i => by rw [hs _ (q i)]
    rw [ef]
theorem f_fs_sh {σ τ : Nat → Nat} {h k : fH} {r r' o : Nat} (hs : ∀ i, 1 ≤ i → τ (i + o) = σ i) (h1 : k.1 r' = h.1 r) (h2 : k.2.1 r' = h.2.1 r) : ∀ (fds : List Nat) (j : Nat), (∀ fd ∈ fds, fd ≠ 4) → f_fs τ k r' j (fds.map (fun fd => if fd < 4 then fd else fd + o)) = f_fs σ h r j fds
  | [], _, _ => rfl
  | fd :: t, j, q => by
    have ih := f_fs_sh hs h1 h2 t (j + 1) (fun x hx => q x (List.mem_cons_of_mem _ hx))
    have q0 := q fd (List.mem_cons_self)
    simp only [List.map_cons, f_fs, ih]
    congr 1
    match fd, q0 with
    | 0, _ => simp [f_fv, h1]
    | 1, _ => simp [f_fv, h2]
    | 2, _ => simp [f_fv, h1]
    | 3, _ => simp [f_fv]
    | i + 4, q0 =>
      rw [if_neg (by omega), show i + 4 + o = (i + o) + 4 by omega]
      simp only [f_fv]
      rw [hs i (by omega)]
theorem f_w_sh {σ τ : Nat → Nat} {cA : Nat → ClassId} {h k : fH} {o : Nat} {S : fW} (w : wge S) (hs : ∀ i, 1 ≤ i → τ (i + o) = σ i) (hh : ∀ i, 1 ≤ i → k.1 (i + o) = h.1 i ∧ k.2.1 (i + o) = h.2.1 i ∧ k.2.2.1 (i + o) = h.2.2.1 i ∧ k.2.2.2 (i + o) = h.2.2.2 i) : f_w τ cA k (shf o S) = f_w σ cA h S := by
  unfold f_w shf
  rw [List.map_map]
  apply List.map_congr_left
  intro x hx
  obtain ⟨r, sh⟩ := x
  obtain ⟨w1, w2⟩ := w _ hx
  obtain ⟨a1, a2, a3, a4⟩ := hh r w1
  simp only [Function.comp] at w1 w2 ⊢
  rw [hs r w1]
  congr 1
  match sh, w2 with
  | .inl (ci, fds), w2 => simp only [s_sh, f_e]; rw [f_fs_sh hs a1 a2 fds 0 w2]
  | .inr (0, m, g), _ => simp only [s_sh, f_e, show (0 : Nat) < 3 by decide, if_true, a3]
  | .inr (1, m, g), _ => simp only [s_sh, f_e, show (1 : Nat) < 3 by decide, if_true, a4]
  | .inr (2, m, g), _ => simp only [s_sh, f_e, show (2 : Nat) < 3 by decide, if_true, a3]
  | .inr (j + 3, m, g), w2 =>
    have q : ∀ i, 1 ≤ g i := w2.resolve_left (by omega)
    simp only [s_sh, show ¬ j + 3 < 3 by omega, if_false, f_e]
    have ef : (fun i => some (τ (g i + o))) = fun i => some (σ (g i)) := funext fun i => by rw [hs _ (q i)]
    rw [ef]
theorem f_w_app (σ : Nat → Nat) (cA : Nat → ClassId) (h : fH) (S T : fW) : f_w σ cA h (S ++ T) = f_w σ cA h S ++ f_w σ cA h T := List.map_append
-- values whose ids lie below n
def vltB (n : Nat) : Value → Bool
  | .ref k => decide (k < n)
  | _ => true
theorem f_v_c {σ τ : Nat → Nat} {n : Nat} (hs : ∀ i, i < n → τ i = σ i) : ∀ {v : Value}, vltB n v = true → f_v τ v = f_v σ v := by
  intro v q
  cases v <;> first | rfl | skip
  case ref k => simp only [f_v]; rw [hs k (of_decide_eq_true q)]
theorem f_st_c {σ τ : Nat → Nat} {n : Nat} (hs : ∀ i, i < n → τ i = σ i) {st : List Value} (q : st.all (vltB n) = true) : st.map (f_v τ) = st.map (f_v σ) := by
  apply List.map_congr_left
  intro v hv
  exact f_v_c hs (List.all_eq_true.mp q v hv)
theorem f_lv_c {σ τ : Nat → Nat} {n : Nat} (hs : ∀ i, i < n → τ i = σ i) {lv : List (Nat × Value)} (q : (lv.all fun x => vltB n x.2) = true) : f_lv τ lv = f_lv σ lv := by
  apply List.map_congr_left
  intro x hx
  rw [f_v_c hs (List.all_eq_true.mp q x hx)]
-- the judgement
def f_EC (Y : fM) (p : Program) (s : State) (m : MethodId) (args : Array Value) (meth : Method) (c : Code) (D : va_G) (cA : Nat → ClassId) (a0 : Nat) (A : Nat → Prop) : Prop :=
  p.tables.exec = Jvm.exec ∧ c.code = Y.2.1 ∧ c.maxLocals = Y.2.2.1 ∧ meth.sig.returnType = Y.2.2.2 ∧ s.vm.findClass Y.1.cls = some m.cls ∧ (∀ w ∈ f_tbl, w.before args s = true) ∧ f_sg (fun _ => a0) A s s.heap ∧ meth.locks = false ∧ va_K D f_cl (f_tys cA) s ∧ (∀ q : Nat, s.heap.size ≤ q → A q) ∧ meth.name = "<init>" ∧ f_ao cA s
def f_QC (D : va_G) (cA : Nat → ClassId) (a0 a1 : Nat) (A : Nat → Prop) (S1 : fW) (Post : fH → Prop) : Array Value → State → Outcome → State → Prop := fun _ st oc t =>
  (∃ (σ : Nat → Nat) (h : fH), oc = .returned none ∧ σ 0 = a0 ∧ σ 1 = a1 ∧ Post h ∧ va_P D f_cl (f_w σ cA h S1) t.heap ∧ va_D A (f_w σ cA h S1)) ∧ va_F A st t
def GC (Y : fM) (d C N : Nat) (S1 : fW) (Post : fH → Prop) (S : fW) (cs us : Nat) (pc : Nat) (lv : List (Nat × Value)) (st : List Value) (h : fH) : Prop :=
  ∀ (p : Program) (l : Launch) (e : Env) (s : State) (m : MethodId) (args : Array Value) (below : List Frame) (meth : Method) (c : Code) (D : va_G) (cA : Nat → ClassId) (a0 a1 : Nat) (A : Nat → Prop), f_EC Y p s m args meth c D cA a0 A →
  ∀ (σ : Nat → Nat) (H : Heap) (locs : List Loc) (ls : Array Slot), σ 0 = a0 → σ 1 = a1 → va_P D f_cl (f_w σ cA h S) H → va_D A (f_w σ cA h S) → va_S A s.heap H locs → lv_has ls Y.2.2.1 (f_lv σ lv) →
  W p l e (f_roomC d C N) s m args below meth c H locs cs us (MQ below (f_QC D cA a0 a1 A S1 Post) args s C N A) (F0 m pc ls (st.map (f_v σ)))
section GGROW
variable {Y : fM} {d C N : Nat} {S1 S : fW} {Post : fH → Prop} {cs us pc : Nat} {lv lv' : List (Nat × Value)} {st : List Value} {h : fH}
theorem GC_iconst {n : Int} {v : Int32} (hd : decode Y.2.1 pc = .ok (.iconst n, 1)) (hv : Int32.ofInt n = v) (k : GC Y d C N S1 Post S cs us (pc + 1) lv (.int v :: st) h) : GC Y d C N S1 Post S cs us pc lv (st) h := fun p l e s m args below meth c D cA a0 a1 A E σ H locs ls e0 e1 hP hD hS hl => lv_iconst E.1 E.2.1 hd hv (k p l e s m args below meth c D cA a0 a1 A E σ H locs ls e0 e1 hP hD hS hl)
theorem GC_bipush {n : Int} {v : Int32} (hd : decode Y.2.1 pc = .ok (.bipush n, 2)) (hv : (Int8.ofInt n).toInt32 = v) (k : GC Y d C N S1 Post S cs us (pc + 2) lv (.int v :: st) h) : GC Y d C N S1 Post S cs us pc lv (st) h := fun p l e s m args below meth c D cA a0 a1 A E σ H locs ls e0 e1 hP hD hS hl => lv_bipush E.1 E.2.1 hd hv (k p l e s m args below meth c D cA a0 a1 A E σ H locs ls e0 e1 hP hD hS hl)
theorem GC_lconst {n : Fin 2} {v : Int64} (hd : decode Y.2.1 pc = .ok (.lconst n, 1)) (hv : Int64.ofNat (n : Nat) = v) (k : GC Y d C N S1 Post S cs us (pc + 1) lv (.long v :: st) h) : GC Y d C N S1 Post S cs us pc lv (st) h := fun p l e s m args below meth c D cA a0 a1 A E σ H locs ls e0 e1 hP hD hS hl => lv_lconst E.1 E.2.1 hd hv (k p l e s m args below meth c D cA a0 a1 A E σ H locs ls e0 e1 hP hD hS hl)
theorem GC_dup {va : Value} (hd : decode Y.2.1 pc = .ok (.dup, 1)) (hc : va.category = 1) (k : GC Y d C N S1 Post S cs us (pc + 1) lv (va :: va :: st) h) : GC Y d C N S1 Post S cs us pc lv (va :: st) h := fun p l e s m args below meth c D cA a0 a1 A E σ H locs ls e0 e1 hP hD hS hl => lv_dup E.1 E.2.1 hd ((f_v_cat σ va).trans hc) (k p l e s m args below meth c D cA a0 a1 A E σ H locs ls e0 e1 hP hD hS hl)
theorem GC_iload_n {k4 : Fin 4} {i : Nat} {x : Int32} (j : Nat) (hj : lv[j]? = some (i, .int x)) (hd : decode Y.2.1 pc = .ok (.iload_n k4, 1)) (hi : (k4 : Nat) = i) (k : GC Y d C N S1 Post S cs us (pc + 1) lv (.int x :: st) h) : GC Y d C N S1 Post S cs us pc lv st h := fun p l e s m args below meth c D cA a0 a1 A E σ H locs ls e0 e1 hP hD hS hl => lv_iload_n E.1 E.2.1 hd hi (f_at hl j hj) (k p l e s m args below meth c D cA a0 a1 A E σ H locs ls e0 e1 hP hD hS hl)
theorem GC_aload_n {k4 : Fin 4} {i : Nat} {x : Nat} (j : Nat) (hj : lv[j]? = some (i, .ref x)) (hd : decode Y.2.1 pc = .ok (.aload_n k4, 1)) (hi : (k4 : Nat) = i) (k : GC Y d C N S1 Post S cs us (pc + 1) lv (.ref x :: st) h) : GC Y d C N S1 Post S cs us pc lv st h := fun p l e s m args below meth c D cA a0 a1 A E σ H locs ls e0 e1 hP hD hS hl => lv_aload_n E.1 E.2.1 hd hi (f_at hl j hj) (k p l e s m args below meth c D cA a0 a1 A E σ H locs ls e0 e1 hP hD hS hl)
theorem GC_istore_n {k4 : Fin 4} {i : Nat} {x : Int32} (hd : decode Y.2.1 pc = .ok (.istore_n k4, 1)) (hi : (k4 : Nat) = i) (hn : i < Y.2.2.1) (hs : f_s1 i (.int x) lv = lv') (k : GC Y d C N S1 Post S cs us (pc + 1) lv' st h) : GC Y d C N S1 Post S cs us pc lv (.int x :: st) h := fun p l e s m args below meth c D cA a0 a1 A E σ H locs ls e0 e1 hP hD hS hl => lv_istore_n (lv' := f_lv σ lv') E.1 E.2.1 hd hi hl hn (by rw [← hs]; exact f_s1_map σ i (.int x) lv) (fun ls hl => k p l e s m args below meth c D cA a0 a1 A E σ H locs ls e0 e1 hP hD hS hl)
theorem GC_iinc {i : Nat} {n : Int} {x v : Int32} (j : Nat) (hj : lv[j]? = some (i, .int x)) (hd : decode Y.2.1 pc = .ok (.iinc i n, 3)) (hv : Int32.ofInt n = v) (hn : i < Y.2.2.1) (hs : f_s1 i (.int (x + v)) lv = lv') (k : GC Y d C N S1 Post S cs us (pc + 3) lv' st h) : GC Y d C N S1 Post S cs us pc lv st h := fun p l e s m args below meth c D cA a0 a1 A E σ H locs ls e0 e1 hP hD hS hl => lv_iinc (v := x + v) (lv' := f_lv σ lv') E.1 E.2.1 hd hl (f_lv_get hj) (by rw [hv]) hn (by rw [← hs]; exact f_s1_map σ i (.int (x + v)) lv) (fun ls hl => k p l e s m args below meth c D cA a0 a1 A E σ H locs ls e0 e1 hP hD hS hl)
theorem GC_ldc2 {index : Nat} {v : Int64} (hc : Cond.constantLong Y.1.cls index v ∈ f_tbl) (hd : decode Y.2.1 pc = .ok (.ldc2_w index, 3)) (k : GC Y d C N S1 Post S cs us (pc + 3) lv (.long v :: st) h) : GC Y d C N S1 Post S cs us pc lv st h := fun p l e s m args below meth c D cA a0 a1 A E σ H locs ls e0 e1 hP hD hS hl => lv_ldc2 E.1 E.2.1 E.2.2.2.2.1 (E.2.2.2.2.2.1 _ hc) hd (k p l e s m args below meth c D cA a0 a1 A E σ H locs ls e0 e1 hP hD hS hl)
theorem GC_icmp_ge {x y : Int32} {off : Int} {tgt : Nat} (hd : decode Y.2.1 pc = .ok (.if_icmp .ge off, 3)) (ht : (pc : Int) + off = (tgt : Int)) (kt : y ≤ x → GC Y d C N S1 Post S cs us tgt lv st h) (kf : ¬ y ≤ x → GC Y d C N S1 Post S cs us (pc + 3) lv st h) : GC Y d C N S1 Post S cs us pc lv (.int y :: .int x :: st) h := fun p l e s m args below meth c D cA a0 a1 A E σ H locs ls e0 e1 hP hD hS hl => lv_icmp_ge E.1 E.2.1 hd ht (fun q => kt q p l e s m args below meth c D cA a0 a1 A E σ H locs ls e0 e1 hP hD hS hl) (fun q => kf q p l e s m args below meth c D cA a0 a1 A E σ H locs ls e0 e1 hP hD hS hl)
theorem GC_goto {off : Int} {tgt : Nat} (hd : decode Y.2.1 pc = .ok (.goto off, 3)) (ht : (pc : Int) + off = (tgt : Int)) (k : GC Y d C N S1 Post S cs us tgt lv st h) : GC Y d C N S1 Post S cs us pc lv st h := fun p l e s m args below meth c D cA a0 a1 A E σ H locs ls e0 e1 hP hD hS hl => lv_goto E.1 E.2.1 hd ht (k p l e s m args below meth c D cA a0 a1 A E σ H locs ls e0 e1 hP hD hS hl)
theorem GC_vret (hr : Y.2.2.2 = none) (hd : decode Y.2.1 pc = .ok (.return_, 1)) (hc : cs = C) (hu : us = N) (hS1 : S = S1) (hp : Post h) : GC Y d C N S1 Post S cs us pc lv [] h := by
  subst hc hu hS1
  exact fun p l e s m args below meth c D cA a0 a1 A E σ H locs ls e0 e1 hP hD hS hl => W.vret E.1 E.2.1 (E.2.2.2.1.trans hr) (fun t ht _ => ⟨⟨σ, h, rfl, e0, e1, hp, by rw [ht]; exact hP, hD⟩, hS.F ht⟩) hS.2.2 hd E.2.2.2.2.2.2.2.1
theorem GC_obj {idx : Nat} (hlink : Cond.methodLink Y.1.cls idx objectInit ∈ f_tbl) (hd : decode Y.2.1 pc = .ok (.invokespecial idx, 3)) (k : GC Y (d + 1) C N S1 Post S cs us (pc + 3) lv [] h) : GC Y (d + 1) C N S1 Post S cs us pc lv [.ref 1] h := fun p l e s m args below meth c D cA a0 a1 A E σ H locs ls e0 e1 hP hD hS hl => by
  refine W.objInit E.1 E.2.1 E.2.2.2.2.1 (E.2.2.2.2.2.1 _ hlink) (E.2.2.2.2.2.1 _ (f_t 22 (by decide +kernel) rfl)) (E.2.2.2.2.2.1 _ (f_t 23 (by decide +kernel) rfl)) rfl (by rw [E.2.2.1]; exact hl.1) rfl hd (Nat.le_add_left 1 d) ?_ ?_
  · show 2 * 0 + 0 + 12 ≤ 96 * (d + 1)
    omega
  · exact W.eq (g2 := F0 m (pc + 3) ls []) rfl (k p l e s m args below meth c D cA a0 a1 A E σ H locs ls e0 e1 hP hD hS hl)
theorem GC_puti {r ci k index : Nat} {fds : List Nat} {q : vw_C} {v : Int32} (ty0 : Nat → FieldType) (hm : (r, .inl (ci, fds)) ∈ S) (hc : f_cl[ci]? = some q) (hin : ∀ w ∈ u_ws q.1 q.2.1 q.2.2, w ∈ f_tbl) (hty : ∀ k, k < q.2.2 → parseFieldDescriptor (q.2.1 k).2.2.1 = some (ty0 k)) (hnm : ∀ a, a < q.2.2 → ∀ b, b < q.2.2 → a ≠ b → (q.2.1 a).2.1 ≠ (q.2.1 b).2.1) (hk : k < q.2.2) (hf : fds[k]? = some 0) (ht : ty0 k = .int) (hfin : (q.2.1 k).2.2.2 = false) (hlink : Cond.fieldLink Y.1.cls index (q.2.1 k).1 (q.2.1 k).2.1 (q.2.1 k).2.2.1 ∈ f_tbl) (hd : decode Y.2.1 pc = .ok (.putfield index, 3)) (kk : GC Y d C N S1 Post S cs us (pc + 3) lv st (u_fi h r k v)) : GC Y d C N S1 Post S cs us pc lv (.int v :: .ref r :: st) h := by
  intro p l e s m args below meth c D cA a0 a1 A E σ H locs ls e0 e1 hP hD hS hl
  obtain ⟨q0, hq⟩ := List.getElem?_of_mem hm
  have hset : (f_w σ cA h S).set q0 (σ r, .inr (ci, (f_fs σ h r 0 fds).set k (.int v))) = f_w σ cA (u_fi h r k v) S := by
    rw [f_fs_set (h' := u_fi h r k v) (fun fd e => by rw [hf] at e; cases e; simp [f_fv, u_fi, upd]) (fun j fd hj => f_fv_fi hj)]
    exact f_w_set hq hD (f_off_fi h r k v)
  refine va_put (v := .int v) (ty := .int) E.1 E.2.1 E.2.2.2.2.2.1 hin ty0 hty hnm E.2.2.2.2.1 E.2.2.2.2.2.2.2.2.1 hP hD hS q0 (f_w_get hq) hc k hk (E.2.2.2.2.2.1 _ hlink) (fun _ z => z) hfin (by rw [hty k hk, ht]) rfl rfl (by rw [f_fs_len]; exact (List.getElem?_eq_some_iff.mp hf).1) hd (fun H1 locs1 hP hD hS => ?_)
  rw [hset] at hP hD
  exact kk p l e s m args below meth c D cA a0 a1 A E σ H1 locs1 ls e0 e1 hP hD hS hl
theorem GC_putz {r ci k index : Nat} {fds : List Nat} {q : vw_C} {v : Int32} (ty0 : Nat → FieldType) (hm : (r, .inl (ci, fds)) ∈ S) (hc : f_cl[ci]? = some q) (hin : ∀ w ∈ u_ws q.1 q.2.1 q.2.2, w ∈ f_tbl) (hty : ∀ k, k < q.2.2 → parseFieldDescriptor (q.2.1 k).2.2.1 = some (ty0 k)) (hnm : ∀ a, a < q.2.2 → ∀ b, b < q.2.2 → a ≠ b → (q.2.1 a).2.1 ≠ (q.2.1 b).2.1) (hk : k < q.2.2) (hf : fds[k]? = some 2) (hv : v = 0 ∨ v = 1) (ht : ty0 k = .boolean) (hfin : (q.2.1 k).2.2.2 = false) (hlink : Cond.fieldLink Y.1.cls index (q.2.1 k).1 (q.2.1 k).2.1 (q.2.1 k).2.2.1 ∈ f_tbl) (hd : decode Y.2.1 pc = .ok (.putfield index, 3)) (kk : GC Y d C N S1 Post S cs us (pc + 3) lv st (u_fi h r k v)) : GC Y d C N S1 Post S cs us pc lv (.int v :: .ref r :: st) h := by
  intro p l e s m args below meth c D cA a0 a1 A E σ H locs ls e0 e1 hP hD hS hl
  obtain ⟨q0, hq⟩ := List.getElem?_of_mem hm
  have hset : (f_w σ cA h S).set q0 (σ r, .inr (ci, (f_fs σ h r 0 fds).set k (.int v))) = f_w σ cA (u_fi h r k v) S := by
    rw [f_fs_set (h' := u_fi h r k v) (fun fd e => by rw [hf] at e; cases e; simp [f_fv, u_fi, upd]) (fun j fd hj => f_fv_fi hj)]
    exact f_w_set hq hD (f_off_fi h r k v)
  refine va_put (v := .int v) (ty := .boolean) E.1 E.2.1 E.2.2.2.2.2.1 hin ty0 hty hnm E.2.2.2.2.1 E.2.2.2.2.2.2.2.2.1 hP hD hS q0 (f_w_get hq) hc k hk (E.2.2.2.2.2.1 _ hlink) (fun _ z => z) hfin (by rw [hty k hk, ht]) (by rcases hv with rfl | rfl <;> decide) (by rcases hv with rfl | rfl <;> decide) (by rw [f_fs_len]; exact (List.getElem?_eq_some_iff.mp hf).1) hd (fun H1 locs1 hP hD hS => ?_)
  rw [hset] at hP hD
  exact kk p l e s m args below meth c D cA a0 a1 A E σ H1 locs1 ls e0 e1 hP hD hS hl
theorem GC_putl {r ci k index : Nat} {fds : List Nat} {q : vw_C} {v : Int64} (ty0 : Nat → FieldType) (hm : (r, .inl (ci, fds)) ∈ S) (hc : f_cl[ci]? = some q) (hin : ∀ w ∈ u_ws q.1 q.2.1 q.2.2, w ∈ f_tbl) (hty : ∀ k, k < q.2.2 → parseFieldDescriptor (q.2.1 k).2.2.1 = some (ty0 k)) (hnm : ∀ a, a < q.2.2 → ∀ b, b < q.2.2 → a ≠ b → (q.2.1 a).2.1 ≠ (q.2.1 b).2.1) (hk : k < q.2.2) (hf : fds[k]? = some 1) (ht : ty0 k = .long) (hfin : (q.2.1 k).2.2.2 = false) (hlink : Cond.fieldLink Y.1.cls index (q.2.1 k).1 (q.2.1 k).2.1 (q.2.1 k).2.2.1 ∈ f_tbl) (hd : decode Y.2.1 pc = .ok (.putfield index, 3)) (kk : GC Y d C N S1 Post S cs us (pc + 3) lv st (u_fl h r k v)) : GC Y d C N S1 Post S cs us pc lv (.long v :: .ref r :: st) h := by
  intro p l e s m args below meth c D cA a0 a1 A E σ H locs ls e0 e1 hP hD hS hl
  obtain ⟨q0, hq⟩ := List.getElem?_of_mem hm
  have hset : (f_w σ cA h S).set q0 (σ r, .inr (ci, (f_fs σ h r 0 fds).set k (.long v))) = f_w σ cA (u_fl h r k v) S := by
    rw [f_fs_set (h' := u_fl h r k v) (fun fd e => by rw [hf] at e; cases e; simp [f_fv, u_fl, vp_updL]) (fun j fd hj => f_fv_fl hj)]
    exact f_w_set hq hD (f_off_fl h r k v)
  refine va_put (v := .long v) (ty := .long) E.1 E.2.1 E.2.2.2.2.2.1 hin ty0 hty hnm E.2.2.2.2.1 E.2.2.2.2.2.2.2.2.1 hP hD hS q0 (f_w_get hq) hc k hk (E.2.2.2.2.2.1 _ hlink) (fun _ z => z) hfin (by rw [hty k hk, ht]) rfl rfl (by rw [f_fs_len]; exact (List.getElem?_eq_some_iff.mp hf).1) hd (fun H1 locs1 hP hD hS => ?_)
  rw [hset] at hP hD
  exact kk p l e s m args below meth c D cA a0 a1 A E σ H1 locs1 ls e0 e1 hP hD hS hl
theorem f_fs_sr {σ : Nat → Nat} {h : fH} {r k j : Nat} {fds : List Nat} : (f_fs σ h r 0 fds).set k (.ref (σ j)) = f_fs σ h r 0 (fds.set k (j + 4)) := by
  apply List.ext_getElem?
  intro i
  rw [List.getElem?_set, f_fs_get, f_fs_get, List.getElem?_set]
  by_cases e : k = i
  · subst e
    rw [if_pos rfl, if_pos rfl, f_fs_len]
    by_cases hk : k < fds.length
    · rw [if_pos hk, if_pos hk]; rfl
    · rw [if_neg hk, if_neg hk]; rfl
  · rw [if_neg e, if_neg e]
/-- a final reference of this -/
theorem GC_putr {ci k index j : Nat} {fds fds' : List Nat} {S0 : fW} {q : vw_C} (ty0 : Nat → FieldType) (hc : f_cl[ci]? = some q) (hin : ∀ w ∈ u_ws q.1 q.2.1 q.2.2, w ∈ f_tbl) (hty : ∀ k, k < q.2.2 → parseFieldDescriptor (q.2.1 k).2.2.1 = some (ty0 k)) (hnm : ∀ a, a < q.2.2 → ∀ b, b < q.2.2 → a ≠ b → (q.2.1 a).2.1 ≠ (q.2.1 b).2.1) (hk : k < q.2.2) (hkl : k < fds.length) (hn : ∀ a, narrow (ty0 k) (.ref a) = .ref a) (hft : ∀ a, fits (ty0 k) (.ref a) = true) (hfin : (q.2.1 k).2.2.2 = true) (hdc : (q.2.1 k).1 = Y.1.cls) (hlink : Cond.fieldLink Y.1.cls index (q.2.1 k).1 (q.2.1 k).2.1 (q.2.1 k).2.2.1 ∈ f_tbl) (hd : decode Y.2.1 pc = .ok (.putfield index, 3)) (hf' : fds.set k (j + 4) = fds') (kk : GC Y d C N S1 Post ((1, .inl (ci, fds')) :: S0) cs us (pc + 3) lv st h) : GC Y d C N S1 Post ((1, .inl (ci, fds)) :: S0) cs us pc lv (.ref j :: .ref 1 :: st) h := by
  intro p l e s m args below meth c D cA a0 a1 A E σ H locs ls e0 e1 hP hD hS hl
  subst hf'
  have hset : (f_w σ cA h ((1, .inl (ci, fds)) :: S0)).set 0 (σ 1, .inr (ci, (f_fs σ h 1 0 fds).set k (.ref (σ j)))) = f_w σ cA h ((1, .inl (ci, fds.set k (j + 4))) :: S0) := by
    rw [f_fs_sr]
    rfl
  refine va_putF (v := .ref (σ j)) (ty := ty0 k) E.1 E.2.1 E.2.2.2.2.2.1 hin ty0 hty hnm E.2.2.2.2.1 E.2.2.2.2.2.2.2.2.1 hP hD hS 0 rfl hc k hk (E.2.2.2.2.2.1 _ hlink) (fun _ z => z) hfin E.2.2.2.2.2.2.2.2.2.2.1 hdc (hty k hk) (hn _) (hft _) (by rw [f_fs_len]; exact hkl) hd (fun H1 locs1 hP hD hS => ?_)
  rw [hset] at hP hD
  exact kk p l e s m args below meth c D cA a0 a1 A E σ H1 locs1 ls e0 e1 hP hD hS hl
theorem GC_getr {r ci k index j : Nat} {fds : List Nat} {q : vw_C} (hm : (r, .inl (ci, fds)) ∈ S) (hc : f_cl[ci]? = some q) (hin : ∀ w ∈ u_ws q.1 q.2.1 q.2.2, w ∈ f_tbl) (hk : k < q.2.2) (hf : fds[k]? = some (j + 4)) (hlink : Cond.fieldLink Y.1.cls index (q.2.1 k).1 (q.2.1 k).2.1 (q.2.1 k).2.2.1 ∈ f_tbl) (hd : decode Y.2.1 pc = .ok (.getfield index, 3)) (kk : GC Y d C N S1 Post S cs us (pc + 3) lv (.ref j :: st) h) : GC Y d C N S1 Post S cs us pc lv (.ref r :: st) h := by
  intro p l e s m args below meth c D cA a0 a1 A E σ H locs ls e0 e1 hP hD hS hl
  obtain ⟨q0, hq⟩ := List.getElem?_of_mem hm
  refine va_get E.1 E.2.1 E.2.2.2.2.2.1 hin E.2.2.2.2.1 E.2.2.2.2.2.2.2.2.1 hP q0 (f_w_get hq) hc k hk (E.2.2.2.2.2.1 _ hlink) (fun _ z => z) (v := .ref (σ j)) ?_ hd (kk p l e s m args below meth c D cA a0 a1 A E σ H locs ls e0 e1 hP hD hS hl)
  rw [f_fs_get, hf]
  simp [f_fv]
theorem GC_iast {a n : Nat} {g : Nat → Nat} {i x : Int32} (hm : (a, .inr (0, n, g)) ∈ S) (hin : vp_in i n) (hd : decode Y.2.1 pc = .ok (.iastore, 1)) (kk : GC Y d C N S1 Post S cs us (pc + 1) lv st (u_ai h a (upd (h.2.2.1 a) i.toNatClampNeg x))) : GC Y d C N S1 Post S cs us pc lv (.int x :: .int i :: .ref a :: st) h := by
  intro p l e s m args below meth c D cA a0 a1 A E σ H locs ls e0 e1 hP hD hS hl
  obtain ⟨q0, hq⟩ := List.getElem?_of_mem hm
  refine va_iast E.1 E.2.1 E.2.2.2.2.2.2.2.2.1 hP hD hS q0 0 (f_w_get hq) rfl hin hd (fun H1 locs1 hP hD1 hS => ?_)
  have hset := f_w_set hq hD (f_off_ai h a (upd (h.2.2.1 a) i.toNatClampNeg x))
  simp only [f_e, u_ai, if_true] at hset
  rw [hset] at hP hD1
  exact kk p l e s m args below meth c D cA a0 a1 A E σ H1 locs1 ls e0 e1 hP hD1 hS hl
theorem GC_newaI {n M : Nat} {x : Int32} (harr : Cond.arrayClass .int ∈ f_tbl) (hx : ¬ x < 0) (hM : x.toNatClampNeg = M) (hM2 : M ≤ 1000) (hw : wlt n S) (hv : (lv.all fun q => vltB n q.2) = true) (hst : st.all (vltB n) = true) (h1 : 2 ≤ n) (hcs : cs + 1 ≤ C) (hus : us + M ≤ N) (hd : decode Y.2.1 pc = .ok (.newarray .int, 2)) (kk : ∀ h' : fH, fLt n h h' → h'.2.2.1 n = (fun _ => 0) → GC Y d C N S1 Post (S ++ [(n, .inr (0, M, fun _ => 0))]) (cs + 1) (us + M) (pc + 2) lv (.ref n :: st) h') : GC Y d C N S1 Post S cs us pc lv (.int x :: st) h := by
  intro p l e s m args below meth c D cA a0 a1 A E σ H locs ls e0 e1 hP hD hS hl
  refine va_newa (atype := .int) (ty := .int) (N' := M) (a0 := (M, (.inl (fun _ => 0)))) E.1 E.2.1 (E.2.2.2.2.2.1 _ harr) rfl E.2.2.2.2.2.2.2.2.1 hP hD hS E.2.2.2.2.2.2.2.2.2.1 (fun _ => rfl) hx hM (by show M * _ ≤ _; simp [componentBytes]; omega) hcs hus hd (fun q cB H1 hK1 hP1 hD1 hS1 => ?_)
  have ecB : cB = cA 0 := by
    have b1 := (hK1.2 4 _ rfl).2
    have b2 := (E.2.2.2.2.2.2.2.2.1.2 0 _ rfl).2
    exact Option.some.inj (b1.symm.trans b2)
  subst ecB
  have hs : ∀ i, i < n → f_us σ n q i = σ i := fun i hi => by unfold f_us; rw [if_neg (by omega)]
  have ew : f_w (f_us σ n q) cA (f_z h n) (S ++ [(n, .inr (0, M, fun _ => 0))]) = f_w σ cA h S ++ [(q, .inl (cA 0, M, (.inl (fun _ => 0))))] := by
    rw [f_w_app, f_w_c hw hs (fLt.z h n)]
    simp [f_w, f_e, f_us, f_z]
  have hl1 : lv_has ls Y.2.2.1 (f_lv (f_us σ n q) lv) := by rw [f_lv_c hs hv]; exact hl
  have := kk (f_z h n) (fLt.z h n) (by simp [f_z]) p l e s m args below meth c D cA a0 a1 A E (f_us σ n q) H1 locs ls (by rw [hs 0 (by omega)]; exact e0) (by rw [hs 1 (by omega)]; exact e1) (by rw [ew]; exact hP1) (by rw [ew]; exact hD1) hS1 hl1
  rw [List.map_cons, f_st_c hs hst] at this
  simpa [f_v, f_us] using this
theorem GC_newaJ {n M : Nat} {x : Int32} (harr : Cond.arrayClass .long ∈ f_tbl) (hx : ¬ x < 0) (hM : x.toNatClampNeg = M) (hM2 : M ≤ 1000) (hw : wlt n S) (hv : (lv.all fun q => vltB n q.2) = true) (hst : st.all (vltB n) = true) (h1 : 2 ≤ n) (hcs : cs + 1 ≤ C) (hus : us + M ≤ N) (hd : decode Y.2.1 pc = .ok (.newarray .long, 2)) (kk : ∀ h' : fH, fLt n h h' → h'.2.2.2 n = (fun _ => 0) → GC Y d C N S1 Post (S ++ [(n, .inr (1, M, fun _ => 0))]) (cs + 1) (us + M) (pc + 2) lv (.ref n :: st) h') : GC Y d C N S1 Post S cs us pc lv (.int x :: st) h := by
  intro p l e s m args below meth c D cA a0 a1 A E σ H locs ls e0 e1 hP hD hS hl
  refine va_newa (atype := .long) (ty := .long) (N' := M) (a0 := (M, (.inr (.inl (fun _ => 0))))) E.1 E.2.1 (E.2.2.2.2.2.1 _ harr) rfl E.2.2.2.2.2.2.2.2.1 hP hD hS E.2.2.2.2.2.2.2.2.2.1 (fun _ => rfl) hx hM (by show M * _ ≤ _; simp [componentBytes]; omega) hcs hus hd (fun q cB H1 hK1 hP1 hD1 hS1 => ?_)
  have ecB : cB = cA 1 := by
    have b1 := (hK1.2 4 _ rfl).2
    have b2 := (E.2.2.2.2.2.2.2.2.1.2 1 _ rfl).2
    exact Option.some.inj (b1.symm.trans b2)
  subst ecB
  have hs : ∀ i, i < n → f_us σ n q i = σ i := fun i hi => by unfold f_us; rw [if_neg (by omega)]
  have ew : f_w (f_us σ n q) cA (f_z h n) (S ++ [(n, .inr (1, M, fun _ => 0))]) = f_w σ cA h S ++ [(q, .inl (cA 1, M, (.inr (.inl (fun _ => 0)))))] := by
    rw [f_w_app, f_w_c hw hs (fLt.z h n)]
    simp [f_w, f_e, f_us, f_z]
  have hl1 : lv_has ls Y.2.2.1 (f_lv (f_us σ n q) lv) := by rw [f_lv_c hs hv]; exact hl
  have := kk (f_z h n) (fLt.z h n) (by simp [f_z]) p l e s m args below meth c D cA a0 a1 A E (f_us σ n q) H1 locs ls (by rw [hs 0 (by omega)]; exact e0) (by rw [hs 1 (by omega)]; exact e1) (by rw [ew]; exact hP1) (by rw [ew]; exact hD1) hS1 hl1
  rw [List.map_cons, f_st_c hs hst] at this
  simpa [f_v, f_us] using this
theorem GC_newaZ {n M : Nat} {x : Int32} (harr : Cond.arrayClass .boolean ∈ f_tbl) (hx : ¬ x < 0) (hM : x.toNatClampNeg = M) (hM2 : M ≤ 1000) (hw : wlt n S) (hv : (lv.all fun q => vltB n q.2) = true) (hst : st.all (vltB n) = true) (h1 : 2 ≤ n) (hcs : cs + 1 ≤ C) (hus : us + M ≤ N) (hd : decode Y.2.1 pc = .ok (.newarray .boolean, 2)) (kk : ∀ h' : fH, fLt n h h' → h'.2.2.1 n = (fun _ => 0) → GC Y d C N S1 Post (S ++ [(n, .inr (2, M, fun _ => 0))]) (cs + 1) (us + M) (pc + 2) lv (.ref n :: st) h') : GC Y d C N S1 Post S cs us pc lv (.int x :: st) h := by
  intro p l e s m args below meth c D cA a0 a1 A E σ H locs ls e0 e1 hP hD hS hl
  refine va_newa (atype := .boolean) (ty := .boolean) (N' := M) (a0 := (M, (.inl (fun _ => 0)))) E.1 E.2.1 (E.2.2.2.2.2.1 _ harr) rfl E.2.2.2.2.2.2.2.2.1 hP hD hS E.2.2.2.2.2.2.2.2.2.1 (fun _ => rfl) hx hM (by show M * _ ≤ _; simp [componentBytes]; omega) hcs hus hd (fun q cB H1 hK1 hP1 hD1 hS1 => ?_)
  have ecB : cB = cA 2 := by
    have b1 := (hK1.2 4 _ rfl).2
    have b2 := (E.2.2.2.2.2.2.2.2.1.2 2 _ rfl).2
    exact Option.some.inj (b1.symm.trans b2)
  subst ecB
  have hs : ∀ i, i < n → f_us σ n q i = σ i := fun i hi => by unfold f_us; rw [if_neg (by omega)]
  have ew : f_w (f_us σ n q) cA (f_z h n) (S ++ [(n, .inr (2, M, fun _ => 0))]) = f_w σ cA h S ++ [(q, .inl (cA 2, M, (.inl (fun _ => 0))))] := by
    rw [f_w_app, f_w_c hw hs (fLt.z h n)]
    simp [f_w, f_e, f_us, f_z]
  have hl1 : lv_has ls Y.2.2.1 (f_lv (f_us σ n q) lv) := by rw [f_lv_c hs hv]; exact hl
  have := kk (f_z h n) (fLt.z h n) (by simp [f_z]) p l e s m args below meth c D cA a0 a1 A E (f_us σ n q) H1 locs ls (by rw [hs 0 (by omega)]; exact e0) (by rw [hs 1 (by omega)]; exact e1) (by rw [ew]; exact hP1) (by rw [ew]; exact hD1) hS1 hl1
  rw [List.map_cons, f_st_c hs hst] at this
  simpa [f_v, f_us] using this
theorem GC_new {index ci n : Nat} {q : vw_C} {fds : List Nat} (ty0 : Nat → FieldType) (hcl : Cond.classLink Y.1.cls index q.1 ∈ f_tbl) (hinst : Cond.instantiable q.1 q.2.2 ∈ f_tbl) (hini : Cond.initialized q.1 ∈ f_tbl) (hc : f_cl[ci]? = some q) (hin : ∀ w ∈ u_ws q.1 q.2.1 q.2.2, w ∈ f_tbl) (hty : ∀ k, k < q.2.2 → parseFieldDescriptor (q.2.1 k).2.2.1 = some (ty0 k)) (hfs : ∀ j, j < q.2.2 → defaultValue (ty0 j) = vp_V (f_fs id fZ 0 0 fds) j) (hk : ∀ fd ∈ fds, fd < 0 + 4) (hw : wlt n S) (hv : (lv.all fun q => vltB n q.2) = true) (hst : st.all (vltB n) = true) (h1 : 2 ≤ n) (hcs : cs + 1 ≤ C) (hus : us + q.2.2 ≤ N) (hd : decode Y.2.1 pc = .ok (.new index, 3)) (kk : GC Y d C N S1 Post (S ++ [(n, .inl (ci, fds))]) (cs + 1) (us + q.2.2) (pc + 3) lv (.ref n :: st) (f_z h n)) : GC Y d C N S1 Post S cs us pc lv st h := by
  intro p l e s m args below meth c D cA a0 a1 A E σ H locs ls e0 e1 hP hD hS hl
  have efs : ∀ τ : Nat → Nat, f_fs τ (f_z h n) n 0 fds = f_fs id fZ 0 0 fds := fun τ => f_fs_c (σ := id) (τ := τ) (h := fZ) (k := f_z h n) (r := 0) (r' := n) (n := 0) (fun i hi => absurd hi (Nat.not_lt_zero i)) (by simp [f_z, fZ]) (by simp [f_z, fZ]) fds 0 hk
  refine va_new (ci := ci) (fs := f_fs id fZ 0 0 fds) E.1 E.2.1 E.2.2.2.2.2.1 hin ty0 hty E.2.2.2.2.1 (E.2.2.2.2.2.1 _ hcl) (E.2.2.2.2.2.1 _ hinst) (E.2.2.2.2.2.1 _ hini) E.2.2.2.2.2.2.2.2.1 hP hD hS E.2.2.2.2.2.2.2.2.2.1 hc hfs hcs hus hd (fun q H1 hP1 hD1 hS1 => ?_)
  have hs : ∀ i, i < n → f_us σ n q i = σ i := fun i hi => by unfold f_us; rw [if_neg (by omega)]
  have ew : f_w (f_us σ n q) cA (f_z h n) (S ++ [(n, .inl (ci, fds))]) = f_w σ cA h S ++ [(q, .inr (ci, f_fs id fZ 0 0 fds))] := by
    rw [f_w_app, f_w_c hw hs (fLt.z h n)]
    simp [f_w, f_e, f_us, efs]
  have hl1 : lv_has ls Y.2.2.1 (f_lv (f_us σ n q) lv) := by rw [f_lv_c hs hv]; exact hl
  have := kk p l e s m args below meth c D cA a0 a1 A E (f_us σ n q) H1 locs ls (by rw [hs 0 (by omega)]; exact e0) (by rw [hs 1 (by omega)]; exact e1) (by rw [ew]; exact hP1) (by rw [ew]; exact hD1) hS1 hl1
  rw [List.map_cons, f_st_c hs hst] at this
  simpa [f_v, f_us] using this
/-- a constructor's contract: this has its first values; it ends with the world S1 -/
def OkC (d C N : Nat) (Y : fM) (ci : Nat) (fds : List Nat) (S1 : fW) (Post : fH → Prop) : Prop :=
  ∀ (l : Launch) (D : va_G) (cA : Nat → ClassId) (a0 a1 z : Nat), Met l Y.1 (.code Y.1 Y.2.1 Y.2.2.1 Y.2.2.2 :: f_tbl) (f_roomC d C N)
    (va_Pc [.ref a1] (fun U => U.heap.size = z ∧ va_P D f_cl [(a1, .inr (ci, f_fs id fZ 0 0 fds))] U.heap ∧ va_D (fun _ => True) [(a1, .inr (ci, f_fs id fZ 0 0 fds))] ∧ va_K D f_cl (f_tys cA) U ∧ f_sg (fun _ => a0) (va_A [(a1, .inr (ci, f_fs id fZ 0 0 fds))] z) U U.heap ∧ f_ao cA U))
    (f_QC D cA a0 a1 (va_A [(a1, .inr (ci, f_fs id fZ 0 0 fds))] z) S1 Post) C N (va_A [(a1, .inr (ci, f_fs id fZ 0 0 fds))] z)
theorem OkC.of {ci : Nat} {fds : List Nat} (hy : plainName Y.1.cls = true) (hyn : Y.1.name = "<init>") (hn : 1 ≤ Y.2.2.1) (hk : ∀ fd ∈ fds, fd < 0 + 4) (g : GC Y d C N S1 Post [(1, .inl (ci, fds))] 0 0 0 [(0, .ref 1)] [] fZ) : OkC d C N Y ci fds S1 Post := by
  intro l D cA a0 a1 z
  refine Met.ofW (cc := Y.2.1) (maxL := Y.2.2.1) (ret := Y.2.2.2) hy rfl ?_
  intro p e s m args below meth c s₁ B hml hv
  obtain ⟨rfl, rfl, hP, hD, hK, hsg, hao⟩ := hv
  have hts := atoms_spec (ws := .code Y.1 Y.2.1 Y.2.2.1 Y.2.2.2 :: f_tbl) B.pre
  have hown : s.vm.findClass Y.1.cls = some m.cls := findClass_of_methodNamed B.named
  have hin : meth.name = "<init>" := by rw [(name_of_methodNamed B.named B.method).1]; exact hyn
  have hD1 := hD.self (sz := s.heap.size)
  have hl := lv_entry ([.ref a1]) (n := Y.2.2.1) (show (lg_sl [Value.ref a1]).length ≤ Y.2.2.1 from hn)
  rw [lg_entry_eq]
  have es : ∀ τ : Nat → Nat, f_fs τ fZ 1 0 fds = f_fs id fZ 0 0 fds := fun τ => f_fs_c (σ := id) (τ := τ) (h := fZ) (k := fZ) (r := 0) (r' := 1) (n := 0) (fun i hi => absurd hi (Nat.not_lt_zero i)) rfl rfl fds 0 hk
  have ew : f_w (fun i => if i = 0 then a0 else a1) cA fZ [(1, .inl (ci, fds))] = [(a1, .inr (ci, f_fs id fZ 0 0 fds))] := by
    simp [f_w, f_e, es]
  exact g p l e s m _ below meth c D cA a0 a1 _ ⟨B.exec, B.bytes, hml, B.returns, hown, fun w hw => hts w (List.mem_cons_of_mem _ hw), hsg, B.notSynchronized, hK, fun q hq => Or.inr hq, hin, hao⟩ (fun i => if i = 0 then a0 else a1) s.heap [] _ rfl rfl (by rw [ew]; exact hP) (by rw [ew]; exact hD1) va_S.rf hl
end GGROW

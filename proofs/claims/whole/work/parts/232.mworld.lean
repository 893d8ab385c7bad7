/-! ===== the reference's world: 1 the object; 2 pad, 3 text, 4 number, 5 span, 6 now, 7 sizeOf, 8 workedTo, 9 slip, 10 exactUpper, 11 exactLower, 12 more, 13 terms, 14 order, 15 bestOrder, 16 low, 17 high, 18 built, 19 better, 20 base, 21 kept, 22 isKept ===== -/
def SM : fW := [(1, shX12 2 3 4 5 6 7 8 9 10 11 12 13 14 15 16 17 18 19 20 21 22), (2, shI 20), (3, shI 13), (4, shI 5), (5, shI 5), (6, shI 13), (7, shI 13), (8, shJ 13), (9, shJ 13), (10, shJ 13), (11, shJ 13), (12, shI 5), (13, shJ 7), (14, shI 7), (15, shI 7), (16, shJ 13), (17, shJ 13), (18, shI 32), (19, shI 13), (20, shI 13), (21, shJ 80), (22, shZ 2)]
theorem hM : (1, shX12 2 3 4 5 6 7 8 9 10 11 12 13 14 15 16 17 18 19 20 21 22) ∈ SM := List.mem_of_getElem? (i := 0) rfl
theorem hMi : (1, shM (fun k => k + 2)) ∈ SM := hM
theorem hM2 : (2, shI 20) ∈ SM := List.mem_of_getElem? (i := 1) rfl
theorem hM3 : (3, shI 13) ∈ SM := List.mem_of_getElem? (i := 2) rfl
theorem hM4 : (4, shI 5) ∈ SM := List.mem_of_getElem? (i := 3) rfl
theorem hM5 : (5, shI 5) ∈ SM := List.mem_of_getElem? (i := 4) rfl
theorem hM6 : (6, shI 13) ∈ SM := List.mem_of_getElem? (i := 5) rfl
theorem hM7 : (7, shI 13) ∈ SM := List.mem_of_getElem? (i := 6) rfl
theorem hM8 : (8, shJ 13) ∈ SM := List.mem_of_getElem? (i := 7) rfl
theorem hM9 : (9, shJ 13) ∈ SM := List.mem_of_getElem? (i := 8) rfl
theorem hM10 : (10, shJ 13) ∈ SM := List.mem_of_getElem? (i := 9) rfl
theorem hM11 : (11, shJ 13) ∈ SM := List.mem_of_getElem? (i := 10) rfl
theorem hM12 : (12, shI 5) ∈ SM := List.mem_of_getElem? (i := 11) rfl
theorem hM13 : (13, shJ 7) ∈ SM := List.mem_of_getElem? (i := 12) rfl
theorem hM14 : (14, shI 7) ∈ SM := List.mem_of_getElem? (i := 13) rfl
theorem hM15 : (15, shI 7) ∈ SM := List.mem_of_getElem? (i := 14) rfl
theorem hM16 : (16, shJ 13) ∈ SM := List.mem_of_getElem? (i := 15) rfl
theorem hM17 : (17, shJ 13) ∈ SM := List.mem_of_getElem? (i := 16) rfl
theorem hM18 : (18, shI 32) ∈ SM := List.mem_of_getElem? (i := 17) rfl
theorem hM19 : (19, shI 13) ∈ SM := List.mem_of_getElem? (i := 18) rfl
theorem hM20 : (20, shI 13) ∈ SM := List.mem_of_getElem? (i := 19) rfl
theorem hM21 : (21, shJ 80) ∈ SM := List.mem_of_getElem? (i := 20) rfl
theorem hM22 : (22, shZ 2) ∈ SM := List.mem_of_getElem? (i := 21) rfl
/-- which int fields, long fields, int rows, long rows may differ -/
abbrev fL : Type := List Nat × List Nat × List Nat × List Nat
def fsub (p q : fL) : Bool := p.1.all (fun x => q.1.contains x) && (p.2.1.all (fun x => q.2.1.contains x) && (p.2.2.1.all (fun x => q.2.2.1.contains x) && p.2.2.2.all (fun x => q.2.2.2.contains x)))
def mF (p : fL) (h k : fH) : Prop := (∀ j, j ∉ p.1 → k.1 1 j = h.1 1 j) ∧ (∀ j, j ∉ p.2.1 → k.2.1 1 j = h.2.1 1 j) ∧ (∀ a, a ∉ p.2.2.1 → k.2.2.1 a = h.2.2.1 a) ∧ (∀ a, a ∉ p.2.2.2 → k.2.2.2 a = h.2.2.2 a)
theorem mF.rf {p : fL} {h : fH} : mF p h h := ⟨fun _ _ => rfl, fun _ _ => rfl, fun _ _ => rfl, fun _ _ => rfl⟩
theorem fsub_in {l m : List Nat} (h : l.all (fun x => m.contains x) = true) {x : Nat} (hx : x ∉ m) : x ∉ l := by
  intro hl
  rw [List.all_eq_true] at h
  exact hx (List.contains_iff_mem.mp (h x hl))
theorem mF.mono {p q : fL} {h k : fH} (a : mF p h k) (s : fsub p q = true) : mF q h k := by
  unfold fsub at s
  simp only [Bool.and_eq_true] at s
  exact ⟨fun j hj => a.1 j (fsub_in s.1 hj), fun j hj => a.2.1 j (fsub_in s.2.1 hj), fun j hj => a.2.2.1 j (fsub_in s.2.2.1 hj), fun j hj => a.2.2.2 j (fsub_in s.2.2.2 hj)⟩
theorem mF.tr {p : fL} {h h1 h2 : fH} (a : mF p h h1) (b : mF p h1 h2) : mF p h h2 := ⟨fun j hj => (b.1 j hj).trans (a.1 j hj), fun j hj => (b.2.1 j hj).trans (a.2.1 j hj), fun j hj => (b.2.2.1 j hj).trans (a.2.2.1 j hj), fun j hj => (b.2.2.2 j hj).trans (a.2.2.2 j hj)⟩
theorem mF.go {p q : fL} {h h1 h2 : fH} (a : mF p h h1) (b : mF q h1 h2) (s : fsub q p = true) : mF p h h2 := a.tr (b.mono s)
theorem mF.fi {p : fL} {h h1 : fH} {j : Nat} {v : Int32} (a : mF p h h1) (hj : j ∈ p.1) : mF p h (u_fi h1 1 j v) := by
  refine ⟨fun x hx => ?_, a.2.1, a.2.2.1, a.2.2.2⟩
  rw [u_fi_n _ _ (show x ≠ j from fun e => hx (by rw [e]; exact hj))]
  exact a.1 x hx
theorem mF.fl {p : fL} {h h1 : fH} {j : Nat} {v : Int64} (a : mF p h h1) (hj : j ∈ p.2.1) : mF p h (u_fl h1 1 j v) := by
  refine ⟨a.1, fun x hx => ?_, a.2.2.1, a.2.2.2⟩
  rw [u_fl_n _ _ (show x ≠ j from fun e => hx (by rw [e]; exact hj))]
  exact a.2.1 x hx
theorem mF.ai {p : fL} {h h1 : fH} {r : Nat} {f : Nat → Int32} (a : mF p h h1) (hj : r ∈ p.2.2.1) : mF p h (u_ai h1 r f) := by
  refine ⟨a.1, a.2.1, fun x hx => ?_, a.2.2.2⟩
  rw [u_ai_n _ _ (show x ≠ r from fun e => hx (by rw [e]; exact hj))]
  exact a.2.2.1 x hx
theorem mF.al {p : fL} {h h1 : fH} {r : Nat} {f : Nat → Int64} (a : mF p h h1) (hj : r ∈ p.2.2.2) : mF p h (u_al h1 r f) := by
  refine ⟨a.1, a.2.1, a.2.2.1, fun x hx => ?_⟩
  rw [u_al_n _ _ (show x ≠ r from fun e => hx (by rw [e]; exact hj))]
  exact a.2.2.2 x hx
/-- what made and whole may change -/
abbrev fScr : fL := ([2, 3, 4, 5, 6], [2, 3, 4, 5, 6], [], [])
theorem scr_in {j : Nat} (h : j ∉ [2, 3, 4, 5, 6]) : j < 2 ∨ 7 ≤ j := by
  simp at h
  omega
theorem mF.scr {h k : fH} (a : mScr 1 h k) : mF fScr h k := ⟨fun j hj => (a.1 1 j (Or.inr (scr_in hj))).1, fun j hj => (a.1 1 j (Or.inr (scr_in hj))).2, fun a_ _ => by rw [a.2], fun a_ _ => by rw [a.2]⟩

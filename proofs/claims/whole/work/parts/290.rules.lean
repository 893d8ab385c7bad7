/-! ===== rules: texts as lists; what a rule makes is a text ===== -/
def seg (t : Nat → Int32) (i k : Nat) : List Int32 := (List.range' i k).map t
theorem seg_len (t : Nat → Int32) (i k : Nat) : (seg t i k).length = k := by simp [seg]
theorem seg_app (t : Nat → Int32) (i j k : Nat) : seg t i (j + k) = seg t i j ++ seg t (i + j) k := by
  unfold seg
  rw [← List.map_append]
  congr 1
  have := List.range'_append (s := i) (m := j) (n := k) (step := 1)
  simpa using this.symm
theorem seg_cons (t : Nat → Int32) (i k : Nat) : seg t i (k + 1) = t i :: seg t (i + 1) k := by
  unfold seg
  rw [List.range'_succ]
  rfl
theorem seg_get {t : Nat → Int32} {i k j : Nat} (hj : j < k) : (seg t i k).getD j 0 = t (i + j) := by
  unfold seg
  rw [List.getD_eq_getElem?_getD, List.getElem?_map, List.getElem?_range' hj]
  simp
/-- how many texts are still due behind a list of signs -/
def cnt : List Int32 → Nat → Option Nat
  | [], k => some k
  | _ :: _, 0 => none
  | c :: L, k + 1 => if isOpB c then cnt L (k + 2) else cnt L k
theorem cnt_app : ∀ (A B : List Int32) (k : Nat), cnt (A ++ B) k = (cnt A k).bind (cnt B)
  | [], B, k => rfl
  | c :: A, B, 0 => rfl
  | c :: A, B, k + 1 => by
    simp only [List.cons_append, cnt]
    split
    · exact cnt_app A B (k + 2)
    · exact cnt_app A B k
theorem cnt_add : ∀ (A : List Int32) (k j m : Nat), cnt A k = some j → cnt A (k + m) = some (j + m)
  | [], k, j, m, h => by
    simp only [cnt, Option.some.injEq] at h ⊢
    omega
  | c :: A, 0, j, m, h => by simp [cnt] at h
  | c :: A, k + 1, j, m, h => by
    rw [show k + 1 + m = (k + m) + 1 by omega]
    simp only [cnt] at h ⊢
    split at h
    · next q =>
      rw [if_pos q, show k + m + 2 = k + 2 + m by omega]
      exact cnt_add A (k + 2) j m h
    · next q =>
      rw [if_neg q]
      exact cnt_add A k j m h
def isPt (P : List Int32) : Prop := cnt P 1 = some 0
theorem cnt_op {c : Int32} {L : List Int32} {k : Nat} (h : isOpB c = true) : cnt (c :: L) (k + 1) = cnt L (k + 2) := by simp only [cnt, if_pos h]
theorem cnt_pt {P L : List Int32} {k : Nat} (h : isPt P) : cnt (P ++ L) (k + 1) = cnt L k := by
  rw [cnt_app, Nat.add_comm, cnt_add P 1 0 k h, Nat.zero_add]
  rfl
theorem cnt_pt1 {P : List Int32} {k : Nat} (h : isPt P) : cnt P (k + 1) = some k := by
  rw [Nat.add_comm, cnt_add P 1 0 k h, Nat.zero_add]
/-- the part that begins at i -/
def prt (t : Nat → Int32) (n i : Nat) : List Int32 := seg t i (sz t n i)
section RULES
variable {o : Nat → Nat} {t : Nat → Int32} {n : Nat}
theorem prt_op (hv : valO o t n) {i : Nat} (hi : i < n) (c : isOpB (t i) = true) : prt t n i = t i :: (prt t n (i + 1) ++ prt t n (i + 1 + sz t n (i + 1))) := by
  unfold prt
  rw [sz_op hv hi c, show 1 + sz t n (i + 1) + sz t n (i + 1 + sz t n (i + 1)) = (sz t n (i + 1) + sz t n (i + 1 + sz t n (i + 1))) + 1 by omega, seg_cons, seg_app]
theorem prt_pt (hv : valO o t n) : ∀ i, i < n → isPt (prt t n i) := by
  refine right_ind n (fun i hi ih => ?_)
  cases c : isOpB (t i)
  · unfold prt isPt
    rw [sz_leaf c, seg_cons]
    simp [cnt, c, seg]
  · obtain ⟨h1, h2⟩ := op_in hv hi c
    have hp := sz_pos t n (i + 1)
    rw [prt_op hv hi c]
    unfold isPt
    rw [cnt_op c, cnt_pt (ih _ (by omega) h1), cnt_pt1 (ih _ (by omega) h2)]
theorem pre_cnt (hv : valO o t n) : ∀ i, i ≤ n → cnt (seg t 0 i) 1 = some (o i)
  | 0, _ => by simp [seg, cnt, hv.1]
  | i + 1, hi => by
    obtain ⟨p1, p2⟩ := hv.2.2 i (by omega)
    rw [seg_app, cnt_app, pre_cnt hv i (by omega), Nat.zero_add]
    show cnt (seg t i 1) (o i) = some (o (i + 1))
    obtain ⟨k, hk⟩ : ∃ k, o i = k + 1 := ⟨o i - 1, by omega⟩
    rw [p2, hk, seg_cons]
    simp only [cnt, seg, List.range'_zero, List.map_nil]
    split <;> simp
theorem suf_cnt (hv : valO o t n) : ∀ (k i : Nat), i + k = n → cnt (seg t i k) (o i) = some 0
  | 0, i, h => by
    have : i = n := by omega
    subst this
    simp [seg, cnt, hv.2.1]
  | k + 1, i, h => by
    obtain ⟨p1, p2⟩ := hv.2.2 i (by omega)
    obtain ⟨q, hq⟩ : ∃ q, o i = q + 1 := ⟨o i - 1, by omega⟩
    have ih := suf_cnt hv k (i + 1) (by omega)
    rw [p2, hq] at ih
    rw [seg_cons, hq]
    simp only [cnt]
    split
    · next c => rw [if_pos c] at ih; exact ih
    · next c => rw [if_neg c] at ih; simpa using ih
/-- a list of signs that is a text -/
theorem val_of {L : List Int32} (h : cnt L 1 = some 0) : valO (fun i => (cnt (L.take i) 1).getD 0) (fun i => L.getD i 0) L.length := by
  refine ⟨by simp [cnt], by simp [h], fun i hi => ?_⟩
  have e1 : cnt L 1 = (cnt (L.take i) 1).bind (cnt (L.drop i)) := by rw [← cnt_app, List.take_append_drop]
  have e2 : L.take (i + 1) = L.take i ++ [L[i]] := by rw [List.take_add_one, List.getElem?_eq_getElem hi]; rfl
  have e3 : L.drop i = L[i] :: L.drop (i + 1) := List.drop_eq_getElem_cons hi
  have e4 : L.getD i 0 = L[i] := by simp [hi]
  rw [h] at e1
  cases hc : cnt (L.take i) 1 with
  | none => rw [hc] at e1; cases e1
  | some k =>
    rw [hc] at e1
    simp only [Option.bind] at e1
    rw [e3] at e1
    cases k with
    | zero => simp [cnt] at e1
    | succ k =>
      simp only
      rw [e2, cnt_app, hc, e4]
      simp only [Option.bind, Option.getD, cnt]
      refine ⟨by omega, ?_⟩
      by_cases c : isOpB L[i] = true
      · simp [c]
      · simp [c]
/-- a letter, a digit or an operator -/
def sgB (c : Int32) : Bool := isOpB c || (isLetB c || isDigB c)
theorem TxV.sg (hv : TxV t n) {i : Nat} (hi : i < n) : sgB (t i) = true := by
  unfold sgB
  cases c : isOpB (t i)
  · rcases hv.2.2 i hi c with q | q <;> simp [q]
  · rfl
theorem TxV.of {L : List Int32} (h1 : cnt L 1 = some 0) (h2 : L.length ≤ 13) (h3 : L.all sgB = true) : TxV (fun i => L.getD i 0) L.length := by
  refine ⟨⟨_, val_of h1⟩, h2, fun i hi c => ?_⟩
  have e4 : L.getD i 0 = L[i] := by simp [hi]
  rw [List.all_eq_true] at h3
  have := h3 L[i] (List.getElem_mem hi)
  simp only [e4] at c ⊢
  unfold sgB at this
  rw [c] at this
  simpa using this
theorem seg_sg (hv : TxV t n) {i k : Nat} (h : i + k ≤ n) : (seg t i k).all sgB = true := by
  unfold seg
  rw [List.all_eq_true]
  intro x hx
  rw [List.mem_map] at hx
  obtain ⟨q, hq, rfl⟩ := hx
  rw [List.mem_range'] at hq
  obtain ⟨j, hj, e⟩ := hq
  exact hv.sg (by omega)
/-- what a rule makes of the part at s -/
def mdL (rule : Nat) (t : Nat → Int32) (n s : Nat) : List Int32 :=
  let a := s + 1
  let b := a + sz t n a
  let P := prt t n
  if rule = 0 then t s :: (P b ++ P a)
  else if rule = 1 then t s :: (P (a + 1) ++ t s :: (P (a + 1 + sz t n (a + 1)) ++ P b))
  else if rule = 2 then t b :: 42 :: (P a ++ (P (b + 1) ++ 42 :: (P a ++ P (b + 1 + sz t n (b + 1)))))
  else if rule = 3 then 42 :: (P (a + 1) ++ t s :: (P (a + 1 + sz t n (a + 1)) ++ P (b + 1 + sz t n (b + 1))))
  else if rule = 4 then 42 :: 45 :: (P (a + 1) ++ (P (b + 1) ++ 43 :: (P (a + 1) ++ P (b + 1))))
  else if rule = 5 then t s :: (P (a + 1) ++ 43 :: (P (a + 1 + sz t n (a + 1)) ++ P b))
  else t s :: 42 :: (P a ++ (P (b + 1 + sz t n (b + 1)) ++ P (b + 1)))
def wrL (rule : Nat) (t : Nat → Int32) (n s : Nat) : List Int32 := seg t 0 s ++ (mdL rule t n s ++ seg t (s + sz t n s) (n - s - sz t n s))
/-- whether the signs are a rule's -/
def sgR (rule : Nat) (t : Nat → Int32) (n s : Nat) : Bool :=
  let a := s + 1
  let b := a + sz t n a
  if rule = 0 then decide (t s = 43 ∨ t s = 42)
  else if rule = 1 then decide ((t s = 43 ∨ t s = 42) ∧ t a = t s)
  else if rule = 2 then decide (t s = 42 ∧ (t b = 43 ∨ t b = 45))
  else if rule = 3 then decide ((t s = 43 ∨ t s = 45) ∧ t a = 42 ∧ t b = 42 ∧ prt t n (a + 1) = prt t n (b + 1))
  else if rule = 4 then decide (t s = 45 ∧ t a = 42 ∧ t b = 42 ∧ prt t n (a + 1) = prt t n (a + 1 + sz t n (a + 1)) ∧ prt t n (b + 1) = prt t n (b + 1 + sz t n (b + 1)))
  else if rule = 5 then decide (t s = 45 ∧ t a = 45)
  else decide (t s = 47 ∧ t b = 47)
def okR (rule : Nat) (t : Nat → Int32) (n s : Nat) : Bool := sgR rule t n s && decide ((wrL rule t n s).length ≤ 13)
theorem op42 : isOpB 42 = true := by decide
theorem op43 : isOpB 43 = true := by decide
theorem op45 : isOpB 45 = true := by decide
theorem op47 : isOpB 47 = true := by decide
theorem sg42 : sgB 42 = true := by decide
theorem sg43 : sgB 43 = true := by decide
theorem sg45 : sgB 45 = true := by decide
theorem sgR_op {rule s : Nat} (h : sgR rule t n s = true) : isOpB (t s) = true := by
  unfold sgR at h
  have k : ∀ c : Int32, (c = 43 ∨ c = 45 ∨ c = 42 ∨ c = 47) → isOpB c = true := by rintro c (rfl | rfl | rfl | rfl) <;> decide
  apply k
  simp only at h
  split at h
  · simp at h; rcases h with h | h <;> simp [h]
  · split at h
    · simp at h; rcases h.1 with h | h <;> simp [h]
    · split at h
      · simp at h; simp [h.1]
      · split at h
        · simp at h; rcases h.1 with h | h <;> simp [h]
        · split at h
          · simp at h; simp [h.1]
          · split at h
            · simp at h; simp [h.1]
            · simp at h; simp [h.1]
theorem md_ok (hv : TxV t n) {rule s : Nat} (hs : s < n) (h : sgR rule t n s = true) : isPt (mdL rule t n s) ∧ (mdL rule t n s).all sgB = true := by
  have hop := sgR_op h
  obtain ⟨⟨o, hvo⟩, _⟩ := id hv
  obtain ⟨a1, b1⟩ := op_in hvo hs hop
  have pt : ∀ i, i < n → isPt (prt t n i) := prt_pt hvo
  have ps : ∀ i, i < n → (prt t n i).all sgB = true := fun i hi => seg_sg hv (sz_le hvo hi)
  have sg : ∀ i, i < n → sgB (t i) = true := fun i hi => hv.sg hi
  unfold sgR at h
  unfold mdL
  simp only at h ⊢
  generalize hb : s + 1 + sz t n (s + 1) = b at *
  have inA : isOpB (t (s + 1)) = true → s + 1 + 1 < n ∧ s + 1 + 1 + sz t n (s + 1 + 1) < n := fun q => op_in hvo a1 q
  have inB : isOpB (t b) = true → b + 1 < n ∧ b + 1 + sz t n (b + 1) < n := fun q => op_in hvo b1 q
  by_cases r0 : rule = 0
  · rw [if_pos r0] at h
    rw [if_pos r0]
    refine ⟨?_, by simp only [List.all_cons, List.all_append, ps _ b1, ps _ a1, sg _ hs, Bool.and_self]⟩
    unfold isPt
    rw [cnt_op hop, cnt_pt (pt _ b1), cnt_pt1 (pt _ a1)]
  rw [if_neg r0] at h
  rw [if_neg r0]
  by_cases r1 : rule = 1
  · rw [if_pos r1] at h
    rw [if_pos r1]
    simp only [decide_eq_true_eq] at h
    obtain ⟨p1, p2⟩ := inA (by rw [h.2]; exact hop)
    refine ⟨?_, by simp only [List.all_cons, List.all_append, ps _ b1, ps _ p1, ps _ p2, sg _ hs, Bool.and_self]⟩
    unfold isPt
    rw [cnt_op hop, cnt_pt (pt _ p1), cnt_op hop, cnt_pt (pt _ p2), cnt_pt1 (pt _ b1)]
  rw [if_neg r1] at h
  rw [if_neg r1]
  by_cases r2 : rule = 2
  · rw [if_pos r2] at h
    rw [if_pos r2]
    simp only [decide_eq_true_eq] at h
    have hob : isOpB (t b) = true := by rcases h.2 with q | q <;> rw [q] <;> decide
    obtain ⟨p1, p2⟩ := inB hob
    refine ⟨?_, by simp only [List.all_cons, List.all_append, ps _ a1, ps _ p1, ps _ p2, sg _ b1, sg42, Bool.and_self]⟩
    unfold isPt
    rw [cnt_op hob, cnt_op op42, cnt_pt (pt _ a1), cnt_pt (pt _ p1), cnt_op op42, cnt_pt (pt _ a1), cnt_pt1 (pt _ p2)]
  rw [if_neg r2] at h
  rw [if_neg r2]
  by_cases r3 : rule = 3
  · rw [if_pos r3] at h
    rw [if_pos r3]
    simp only [decide_eq_true_eq] at h
    obtain ⟨p1, p2⟩ := inA (by rw [h.2.1]; exact op42)
    obtain ⟨q1, q2⟩ := inB (by rw [h.2.2.1]; exact op42)
    refine ⟨?_, by simp only [List.all_cons, List.all_append, ps _ p1, ps _ p2, ps _ q2, sg _ hs, sg42, Bool.and_self]⟩
    unfold isPt
    rw [cnt_op op42, cnt_pt (pt _ p1), cnt_op hop, cnt_pt (pt _ p2), cnt_pt1 (pt _ q2)]
  rw [if_neg r3] at h
  rw [if_neg r3]
  by_cases r4 : rule = 4
  · rw [if_pos r4] at h
    rw [if_pos r4]
    simp only [decide_eq_true_eq] at h
    obtain ⟨p1, p2⟩ := inA (by rw [h.2.1]; exact op42)
    obtain ⟨q1, q2⟩ := inB (by rw [h.2.2.1]; exact op42)
    refine ⟨?_, by simp only [List.all_cons, List.all_append, ps _ p1, ps _ q1, sg42, sg45, sg43, Bool.and_self]⟩
    unfold isPt
    rw [cnt_op op42, cnt_op op45, cnt_pt (pt _ p1), cnt_pt (pt _ q1), cnt_op op43, cnt_pt (pt _ p1), cnt_pt1 (pt _ q1)]
  rw [if_neg r4] at h
  rw [if_neg r4]
  by_cases r5 : rule = 5
  · rw [if_pos r5] at h
    rw [if_pos r5]
    simp only [decide_eq_true_eq] at h
    obtain ⟨p1, p2⟩ := inA (by rw [h.2]; exact op45)
    refine ⟨?_, by simp only [List.all_cons, List.all_append, ps _ p1, ps _ p2, ps _ b1, sg _ hs, sg43, Bool.and_self]⟩
    unfold isPt
    rw [cnt_op hop, cnt_pt (pt _ p1), cnt_op op43, cnt_pt (pt _ p2), cnt_pt1 (pt _ b1)]
  rw [if_neg r5] at h
  rw [if_neg r5]
  simp only [decide_eq_true_eq] at h
  obtain ⟨q1, q2⟩ := inB (by rw [h.2]; exact op47)
  refine ⟨?_, by simp only [List.all_cons, List.all_append, ps _ a1, ps _ q1, ps _ q2, sg _ hs, sg42, Bool.and_self]⟩
  unfold isPt
  rw [cnt_op hop, cnt_op op42, cnt_pt (pt _ a1), cnt_pt (pt _ q2), cnt_pt1 (pt _ q1)]
/-- what a rule writes is a text -/
theorem wr_ok (hv : TxV t n) {rule s : Nat} (hs : s < n) (h : okR rule t n s = true) : TxV (fun i => (wrL rule t n s).getD i 0) (wrL rule t n s).length := by
  unfold okR at h
  simp only [Bool.and_eq_true, decide_eq_true_eq] at h
  obtain ⟨m1, m2⟩ := md_ok hv hs h.1
  obtain ⟨⟨o, hvo⟩, h13, _⟩ := id hv
  have hz := sz_le hvo hs
  have ho := sz_o hvo hs
  refine TxV.of ?_ h.2 ?_
  · unfold wrL
    rw [cnt_app, pre_cnt hvo s (by omega)]
    show cnt (mdL rule t n s ++ seg t (s + sz t n s) (n - s - sz t n s)) (o s) = some 0
    rw [← ho, cnt_pt m1]
    exact suf_cnt hvo _ _ (by omega)
  · unfold wrL
    rw [List.all_append, List.all_append, seg_sg hv (by omega), m2, seg_sg hv (by omega)]
    rfl
end RULES

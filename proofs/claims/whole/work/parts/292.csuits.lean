/-! ===== the class's Rules.suits ===== -/
theorem prt_len (t : Nat → Int32) (n i : Nat) : (prt t n i).length = sz t n i := seg_len _ _ _
section SUITS
variable {o : Nat → Nat} {t : Nat → Int32} {n : Nat}
theorem wr_len (hv : TxV t n) {rule s : Nat} (hs : s < n) (h : sgR rule t n s = true) : (wrL rule t n s).length ≤ 13 ↔ (rule = 2 → n + 1 + sz t n (s + 1) ≤ 13) := by
  have hop := sgR_op h
  obtain ⟨⟨o, hvo⟩, h13, _⟩ := id hv
  obtain ⟨a1, b1⟩ := op_in hvo hs hop
  have hz := sz_le hvo hs
  have e0 := sz_op hvo hs hop
  unfold sgR at h
  unfold wrL mdL
  simp only at h ⊢
  generalize hb : s + 1 + sz t n (s + 1) = b at *
  have opA : isOpB (t (s + 1)) = true → sz t n (s + 1) = 1 + sz t n (s + 1 + 1) + sz t n (s + 1 + 1 + sz t n (s + 1 + 1)) := fun q => sz_op hvo a1 q
  have opB : isOpB (t b) = true → sz t n b = 1 + sz t n (b + 1) + sz t n (b + 1 + sz t n (b + 1)) := fun q => sz_op hvo b1 q
  by_cases r0 : rule = 0
  · rw [if_pos r0] at h
    rw [if_pos r0]
    simp only [List.length_append, List.length_cons, seg_len, prt_len]
    omega
  rw [if_neg r0] at h
  rw [if_neg r0]
  by_cases r1 : rule = 1
  · rw [if_pos r1] at h
    rw [if_pos r1]
    simp only [decide_eq_true_eq] at h
    have ea := opA (by rw [h.2]; exact hop)
    simp only [List.length_append, List.length_cons, seg_len, prt_len]
    omega
  rw [if_neg r1] at h
  rw [if_neg r1]
  by_cases r2 : rule = 2
  · rw [if_pos r2] at h
    rw [if_pos r2]
    simp only [decide_eq_true_eq] at h
    have eb := opB (by rcases h.2 with q | q <;> rw [q] <;> decide)
    simp only [List.length_append, List.length_cons, seg_len, prt_len]
    omega
  rw [if_neg r2] at h
  rw [if_neg r2]
  by_cases r3 : rule = 3
  · rw [if_pos r3] at h
    rw [if_pos r3]
    simp only [decide_eq_true_eq] at h
    have ea := opA (by rw [h.2.1]; exact op42)
    have eb := opB (by rw [h.2.2.1]; exact op42)
    simp only [List.length_append, List.length_cons, seg_len, prt_len]
    omega
  rw [if_neg r3] at h
  rw [if_neg r3]
  by_cases r4 : rule = 4
  · rw [if_pos r4] at h
    rw [if_pos r4]
    simp only [decide_eq_true_eq] at h
    have ea := opA (by rw [h.2.1]; exact op42)
    have eb := opB (by rw [h.2.2.1]; exact op42)
    have p1 := (prt_eq.mp h.2.2.2.1).1
    have p2 := (prt_eq.mp h.2.2.2.2).1
    simp only [List.length_append, List.length_cons, seg_len, prt_len]
    omega
  rw [if_neg r4] at h
  rw [if_neg r4]
  by_cases r5 : rule = 5
  · rw [if_pos r5] at h
    rw [if_pos r5]
    simp only [decide_eq_true_eq] at h
    have ea := opA (by rw [h.2]; exact op45)
    simp only [List.length_append, List.length_cons, seg_len, prt_len]
    omega
  rw [if_neg r5] at h
  rw [if_neg r5]
  simp only [decide_eq_true_eq] at h
  have eb := opB (by rw [h.2]; exact op47)
  simp only [List.length_append, List.length_cons, seg_len, prt_len]
  omega
theorem okR_is (hv : TxV t n) {rule s : Nat} (hs : s < n) : okR rule t n s = (sgR rule t n s && decide (rule = 2 → n + 1 + sz t n (s + 1) ≤ 13)) := by
  unfold okR
  cases h : sgR rule t n s
  · rfl
  · have := wr_len hv hs h
    simp only [Bool.true_and]
    congr 1
    exact propext this
end SUITS
section CSUITS
variable {d : Nat} {S : fW} {h : fH} {r a b c n s : Nat} {t : Nat → Int32}
theorem s_hasRoom (T : TxS S r a b c) (y : TxOk h r a b c t n) (hv : TxV t n) (hs : s + 1 < n) : OkI (d + 1) mX5_hasRoomToSpread S [.ref r, .int (nI s)] h (fun v k => v = bI (decide (n + 1 + sz t n (s + 1) ≤ 13)) ∧ k = h) := by
  obtain ⟨⟨o, hvo⟩, h13, _⟩ := id hv
  have hz := sz_le hvo hs
  refine NX5_hasRoomToSpread_0 T.1.1 ?_
  rw [nI1]
  refine ⟨_, s_endOf T y.1 h13 (by omega), ?_⟩
  rintro _ h ⟨rfl, rfl⟩
  rw [if_pos hs, y.2.2.2.1 _ hs, y.1, nI1, pk_sub (by omega), Nat.add_sub_cancel_left, nI_add]
  have ce : ((13 : Int32) < nI (n + 1 + sz t n (s + 1))) ↔ 13 < n + 1 + sz t n (s + 1) := nI_ltI (a := 13) (by decide) (by omega)
  rw [ce]
  refine ⟨fun z => ⟨?_, rfl⟩, fun z => ⟨?_, rfl⟩⟩
  · rw [decide_eq_false (by omega)]; rfl
  · rw [decide_eq_true (by omega)]; rfl
theorem s_sharesFactor (T : TxS S r a b c) (y : TxOk h r a b c t n) (hv : TxV t n) (hs : s < n) (hop : isOpB (t s) = true) (ha : isOpB (t (s + 1)) = true) (hb : isOpB (t (s + 1 + sz t n (s + 1))) = true) : OkI (d + 2) mX5_sharesFactor S [.ref r, .int (nI s)] h (fun v k => v = bI (decide (prt t n (s + 1 + 1) = prt t n (s + 1 + sz t n (s + 1) + 1))) ∧ k = h) := by
  obtain ⟨⟨o, hvo⟩, h13, _⟩ := id hv
  obtain ⟨a1, b1⟩ := op_in hvo hs hop
  obtain ⟨a2, a3⟩ := op_in hvo a1 ha
  obtain ⟨b2, b3⟩ := op_in hvo b1 hb
  refine NX5_sharesFactor_0 T.1.1 ⟨_, s_secondOp T y hvo hs hop, ?_⟩
  rintro _ h ⟨rfl, rfl⟩
  rw [show (2 : Int32) = nI 2 from rfl, nI_add, nI1]
  refine ⟨_, s_areAlike (d := d) T y ⟨o, hvo⟩ (by omega) b2, ?_⟩
  rintro _ h ⟨rfl, rfl⟩
  exact ⟨bI_01 _, rfl, rfl⟩
theorem s_isOfSquares (T : TxS S r a b c) (y : TxOk h r a b c t n) (hv : TxV t n) (hs : s < n) (hop : isOpB (t s) = true) (ha : isOpB (t (s + 1)) = true) (hb : isOpB (t (s + 1 + sz t n (s + 1))) = true) : OkI (d + 2) mX5_isOfSquares S [.ref r, .int (nI s)] h (fun v k => v = bI (decide (prt t n (s + 1 + 1) = prt t n (s + 1 + 1 + sz t n (s + 1 + 1)) ∧ prt t n (s + 1 + sz t n (s + 1) + 1) = prt t n (s + 1 + sz t n (s + 1) + 1 + sz t n (s + 1 + sz t n (s + 1) + 1)))) ∧ k = h) := by
  obtain ⟨⟨o, hvo⟩, h13, _⟩ := id hv
  obtain ⟨a1, b1⟩ := op_in hvo hs hop
  obtain ⟨a2, a3⟩ := op_in hvo a1 ha
  obtain ⟨b2, b3⟩ := op_in hvo b1 hb
  refine NX5_isOfSquares_0 T.1.1 ⟨_, s_secondOp T y hvo hs hop, ?_⟩
  rintro _ h ⟨rfl, rfl⟩
  rw [nI1]
  refine ⟨_, s_secondOp T y hvo a1 ha, ?_⟩
  rintro _ h ⟨rfl, rfl⟩
  rw [show (2 : Int32) = nI 2 from rfl, nI_add, nI1]
  refine ⟨_, s_areAlike (d := d) T y ⟨o, hvo⟩ (by omega) a3, ?_⟩
  rintro _ h ⟨rfl, rfl⟩
  refine ⟨fun z => ⟨?_, rfl⟩, fun z => ?_⟩
  · have z := bI_0.mp z
    simp only [decide_eq_false_iff_not] at z
    rw [decide_eq_false (fun q => z q.1)]; rfl
  · have z := bI_n0.mp z
    simp only [decide_eq_true_eq] at z
    refine ⟨_, s_secondOp T y hvo b1 hb, ?_⟩
    rintro _ h ⟨rfl, rfl⟩
    refine ⟨_, s_areAlike (d := d) T y ⟨o, hvo⟩ b2 b3, ?_⟩
    rintro _ h ⟨rfl, rfl⟩
    refine ⟨fun w => ⟨?_, rfl⟩, fun w => ⟨?_, rfl⟩⟩
    · have w := bI_0.mp w
      simp only [decide_eq_false_iff_not] at w
      rw [decide_eq_false (fun q => w q.2)]; rfl
    · have w := bI_n0.mp w
      simp only [decide_eq_true_eq] at w
      rw [decide_eq_true ⟨z, w⟩]; rfl
end CSUITS

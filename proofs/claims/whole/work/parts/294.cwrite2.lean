/-! ===== the class's Rules.write ===== -/
section WRITE2
variable {d : Nat} {S : fW} {h : fH} {r a b c r3 a3 b3 c3 n s : Nat} {t : Nat → Int32} {L : List Int32}
theorem s_writeShift {rule : Nat} (T3 : TxS S r3 a3 b3 c3) (T : TxS S r a b c) (nd : [r3, a3, r, a, b, c].Nodup) (y : TxOk h r a b c t n) (hv : TxV t n) (hs : s < n) (hg : sgR rule t n s = true) (hr : rule = 0 ∨ rule = 1 ∨ rule = 5 ∨ rule = 6) (x : BtT h r3 a3 L) :
    OkV (d + 3) mX5_writeShift S [.ref r, .int (nI rule), .int (nI s), .ref r3] h (fun k => BtT k r3 a3 (L ++ mdL rule t n s) ∧ fOff [r3, a3] h k) := by
  obtain ⟨⟨o, hvo⟩, h13, _⟩ := id hv
  have hop := sgR_op hg
  obtain ⟨a1, b1⟩ := op_in hvo hs hop
  have ys : ∀ k, fOff [r3, a3] h k → TxOk k r a b c t n := fun k ok => y.off ok (nd_out nd 2 [0, 1] rfl rfl (by decide)) (nd_out nd 3 [0, 1] rfl rfl (by decide)) (nd_out nd 4 [0, 1] rfl rfl (by decide)) (nd_out nd 5 [0, 1] rfl rfl (by decide))
  have hz := sz_le hvo hs
  refine NX5_writeShift_0 T.1.1 T3.1.1 ⟨_, s_signAt T y.1 h13 (by omega), ?_⟩
  rintro _ h ⟨rfl, rfl⟩
  rw [if_pos hs, y.2.2.1 s hs]
  refine ⟨_, s_secondOp T y hvo hs hop, ?_⟩
  rintro _ h ⟨rfl, rfl⟩
  refine ⟨_, s_add T3 x, ?_⟩
  rintro k1 ⟨x1, o1⟩
  have e0 : (nI rule = (0 : Int32)) ↔ rule = 0 := nI_eq (b := 0) (by omega) (by decide)
  have e6 : (nI rule = (6 : Int32)) ↔ rule = 6 := nI_eq (b := 6) (by omega) (by decide)
  have e5 : (nI rule = (5 : Int32)) ↔ rule = 5 := nI_eq (b := 5) (by omega) (by decide)
  rw [e0, e6, e5, nI1, nI1, nI1]
  unfold sgR at hg
  simp only at hg
  refine ⟨fun z => ⟨fun z6 => ?_, fun z6 => ?_⟩, fun z => ?_⟩
  · -- 1 and 5
    have hA : isOpB (t (s + 1)) = true := by
      rcases hr with q | q | q | q
      · exact absurd q z
      · rw [if_neg z, if_pos q] at hg
        simp only [decide_eq_true_eq] at hg
        rw [hg.2]; exact hop
      · subst q
        simp at hg
        rw [hg.2]; exact op45
      · exact absurd q z6
    obtain ⟨a2, a3'⟩ := op_in hvo a1 hA
    refine ⟨_, s_addPart (d := d) T3 T nd (ys k1 o1) ⟨o, hvo⟩ x1 a2, ?_⟩
    rintro k2 ⟨x2, o2⟩
    have o12 := o1.tr o2
    have rest : ∀ ch : Int32, (rule = 1 ∧ ch = t s ∨ rule = 5 ∧ ch = 43) → ∃ Q9 : fH → Prop, OkV (d + 2) mX10_add S [.ref r3, .int ch] k2 Q9 ∧ ∀ (k9 : fH), Q9 k9 → ∃ Q10 : Int32 → fH → Prop, OkI (d + 2) mX10_secondOf S [.ref r, .int (nI (s + 1))] k9 Q10 ∧ ∀ (v10 : Int32) (k10 : fH), Q10 v10 k10 → ∃ Q11 : fH → Prop, OkV (d + 2) mX10_addPart S [.ref r3, .ref r, .int v10] k10 Q11 ∧ ∀ (k11 : fH), Q11 k11 → ∃ Q12 : fH → Prop, OkV (d + 2) mX10_addPart S [.ref r3, .ref r, .int (nI (s + 1 + sz t n (s + 1)))] k11 Q12 ∧ ∀ (k12 : fH), Q12 k12 → (BtT k12 r3 a3 (L ++ mdL rule t n s) ∧ fOff [r3, a3] h k12) := by
      intro ch hch
      refine ⟨_, s_add T3 x2, ?_⟩
      rintro k3 ⟨x3, o3⟩
      have o13 := o12.tr o3
      refine ⟨_, s_secondOp T (ys k3 o13) hvo a1 hA, ?_⟩
      rintro _ k3 ⟨rfl, rfl⟩
      refine ⟨_, s_addPart (d := d) T3 T nd (ys k3 o13) ⟨o, hvo⟩ x3 a3', ?_⟩
      rintro k4 ⟨x4, o4⟩
      have o14 := o13.tr o4
      refine ⟨_, s_addPart (d := d) T3 T nd (ys k4 o14) ⟨o, hvo⟩ x4 b1, ?_⟩
      rintro k5 ⟨x5, o5⟩
      refine ⟨?_, o14.tr o5⟩
      rcases hch with ⟨q, rfl⟩ | ⟨q, rfl⟩
      · subst q; simpa [mdL, List.append_assoc] using x5
      · subst q; simpa [mdL, List.append_assoc] using x5
    refine ⟨fun z5 => rest (t s) (Or.inl ⟨by omega, rfl⟩), fun z5 => rest 43 (Or.inr ⟨z5, rfl⟩)⟩
  · -- 6
    subst z6
    have hB : isOpB (t (s + 1 + sz t n (s + 1))) = true := by
      simp at hg
      rw [hg.2]; exact op47
    obtain ⟨b2, b3'⟩ := op_in hvo b1 hB
    refine ⟨_, s_add T3 x1, ?_⟩
    rintro k2 ⟨x2, o2⟩
    have o12 := o1.tr o2
    refine ⟨_, s_addPart (d := d) T3 T nd (ys k2 o12) ⟨o, hvo⟩ x2 a1, ?_⟩
    rintro k3 ⟨x3, o3⟩
    have o13 := o12.tr o3
    refine ⟨_, s_secondOp T (ys k3 o13) hvo b1 hB, ?_⟩
    rintro _ k3 ⟨rfl, rfl⟩
    refine ⟨_, s_addPart (d := d) T3 T nd (ys k3 o13) ⟨o, hvo⟩ x3 b3', ?_⟩
    rintro k4 ⟨x4, o4⟩
    have o14 := o13.tr o4
    refine ⟨_, s_addPart (d := d) T3 T nd (ys k4 o14) ⟨o, hvo⟩ x4 b2, ?_⟩
    rintro k5 ⟨x5, o5⟩
    exact ⟨by simpa [mdL, List.append_assoc] using x5, o14.tr o5⟩
  · subst z
    refine ⟨_, s_addPart (d := d) T3 T nd (ys k1 o1) ⟨o, hvo⟩ x1 b1, ?_⟩
    rintro k2 ⟨x2, o2⟩
    have o12 := o1.tr o2
    refine ⟨_, s_addPart (d := d) T3 T nd (ys k2 o12) ⟨o, hvo⟩ x2 a1, ?_⟩
    rintro k3 ⟨x3, o3⟩
    exact ⟨by simpa [mdL, List.append_assoc] using x3, o12.tr o3⟩
theorem s_writeFactors {rule : Nat} (T3 : TxS S r3 a3 b3 c3) (T : TxS S r a b c) (nd : [r3, a3, r, a, b, c].Nodup) (y : TxOk h r a b c t n) (hv : TxV t n) (hs : s < n) (hg : sgR rule t n s = true) (hr : rule = 2 ∨ rule = 3 ∨ rule = 4) (x : BtT h r3 a3 L) :
    OkV (d + 3) mX5_writeFactors S [.ref r, .int (nI rule), .int (nI s), .ref r3] h (fun k => BtT k r3 a3 (L ++ mdL rule t n s) ∧ fOff [r3, a3] h k) := by
  obtain ⟨⟨o, hvo⟩, h13, _⟩ := id hv
  have hop := sgR_op hg
  obtain ⟨a1, b1⟩ := op_in hvo hs hop
  have ys : ∀ k, fOff [r3, a3] h k → TxOk k r a b c t n := fun k ok => y.off ok (nd_out nd 2 [0, 1] rfl rfl (by decide)) (nd_out nd 3 [0, 1] rfl rfl (by decide)) (nd_out nd 4 [0, 1] rfl rfl (by decide)) (nd_out nd 5 [0, 1] rfl rfl (by decide))
  have hz := sz_le hvo hs
  refine NX5_writeFactors_0 T.1.1 T3.1.1 ⟨_, s_secondOp T y hvo hs hop, ?_⟩
  rintro _ h ⟨rfl, rfl⟩
  have e2 : (nI rule = (2 : Int32)) ↔ rule = 2 := nI_eq (b := 2) (by omega) (by decide)
  have e3 : (nI rule = (3 : Int32)) ↔ rule = 3 := nI_eq (b := 3) (by omega) (by decide)
  rw [e2, e3, nI1, nI1, nI1]
  unfold sgR at hg
  simp only at hg
  refine ⟨fun z2 => ⟨fun z3 => ?_, fun z3 => ?_⟩, fun z2 => ?_⟩
  · have q : rule = 4 := by omega
    subst q
    simp at hg
    obtain ⟨a2, a3'⟩ := op_in hvo a1 (by rw [hg.2.1]; exact op42)
    obtain ⟨b2, b3'⟩ := op_in hvo b1 (by rw [hg.2.2.1]; exact op42)
    refine ⟨_, s_add T3 x, ?_⟩
    rintro k1 ⟨x1, o1⟩
    refine ⟨_, s_add T3 x1, ?_⟩
    rintro k2 ⟨x2, o2⟩
    have o2 := o1.tr o2
    refine ⟨_, s_addPart (d := d) T3 T nd (ys k2 o2) ⟨o, hvo⟩ x2 a2, ?_⟩
    rintro k3 ⟨x3, o3⟩
    have o3 := o2.tr o3
    refine ⟨_, s_addPart (d := d) T3 T nd (ys k3 o3) ⟨o, hvo⟩ x3 b2, ?_⟩
    rintro k4 ⟨x4, o4⟩
    have o4 := o3.tr o4
    refine ⟨_, s_add T3 x4, ?_⟩
    rintro k5 ⟨x5, o5⟩
    have o5 := o4.tr o5
    refine ⟨_, s_addPart (d := d) T3 T nd (ys k5 o5) ⟨o, hvo⟩ x5 a2, ?_⟩
    rintro k6 ⟨x6, o6⟩
    have o6 := o5.tr o6
    refine ⟨_, s_addPart (d := d) T3 T nd (ys k6 o6) ⟨o, hvo⟩ x6 b2, ?_⟩
    rintro k7 ⟨x7, o7⟩
    exact ⟨by simpa [mdL, List.append_assoc] using x7, o6.tr o7⟩
  · subst z3
    simp at hg
    obtain ⟨a2, a3'⟩ := op_in hvo a1 (by rw [hg.2.1]; exact op42)
    obtain ⟨b2, b3'⟩ := op_in hvo b1 (by rw [hg.2.2.1]; exact op42)
    refine ⟨_, s_add T3 x, ?_⟩
    rintro k1 ⟨x1, o1⟩
    refine ⟨_, s_addPart (d := d) T3 T nd (ys k1 o1) ⟨o, hvo⟩ x1 a2, ?_⟩
    rintro k2 ⟨x2, o2⟩
    have o2 := o1.tr o2
    refine ⟨_, s_signAt T (ys k2 o2).1 h13 (by omega), ?_⟩
    rintro _ k2 ⟨rfl, rfl⟩
    rw [if_pos hs, (ys k2 o2).2.2.1 s hs]
    refine ⟨_, s_add T3 x2, ?_⟩
    rintro k3 ⟨x3, o3⟩
    have o3 := o2.tr o3
    refine ⟨_, s_secondOp T (ys k3 o3) hvo a1 (by rw [hg.2.1]; exact op42), ?_⟩
    rintro _ k3 ⟨rfl, rfl⟩
    refine ⟨_, s_addPart (d := d) T3 T nd (ys k3 o3) ⟨o, hvo⟩ x3 a3', ?_⟩
    rintro k4 ⟨x4, o4⟩
    have o4 := o3.tr o4
    refine ⟨_, s_secondOp T (ys k4 o4) hvo b1 (by rw [hg.2.2.1]; exact op42), ?_⟩
    rintro _ k4 ⟨rfl, rfl⟩
    refine ⟨_, s_addPart (d := d) T3 T nd (ys k4 o4) ⟨o, hvo⟩ x4 b3', ?_⟩
    rintro k5 ⟨x5, o5⟩
    exact ⟨by simpa [mdL, List.append_assoc] using x5, o4.tr o5⟩
  · subst z2
    simp at hg
    have hB : isOpB (t (s + 1 + sz t n (s + 1))) = true := by rcases hg.2 with q | q <;> rw [q] <;> decide
    obtain ⟨b2, b3'⟩ := op_in hvo b1 hB
    refine ⟨_, s_signAt T y.1 h13 (by omega), ?_⟩
    rintro _ h ⟨rfl, rfl⟩
    rw [if_pos b1, y.2.2.1 _ b1]
    refine ⟨_, s_add T3 x, ?_⟩
    rintro k1 ⟨x1, o1⟩
    refine ⟨_, s_add T3 x1, ?_⟩
    rintro k2 ⟨x2, o2⟩
    have o2 := o1.tr o2
    refine ⟨_, s_addPart (d := d) T3 T nd (ys k2 o2) ⟨o, hvo⟩ x2 a1, ?_⟩
    rintro k3 ⟨x3, o3⟩
    have o3 := o2.tr o3
    refine ⟨_, s_addPart (d := d) T3 T nd (ys k3 o3) ⟨o, hvo⟩ x3 b2, ?_⟩
    rintro k4 ⟨x4, o4⟩
    have o4 := o3.tr o4
    refine ⟨_, s_add T3 x4, ?_⟩
    rintro k5 ⟨x5, o5⟩
    have o5 := o4.tr o5
    refine ⟨_, s_addPart (d := d) T3 T nd (ys k5 o5) ⟨o, hvo⟩ x5 a1, ?_⟩
    rintro k6 ⟨x6, o6⟩
    have o6 := o5.tr o6
    refine ⟨_, s_secondOp T (ys k6 o6) hvo b1 hB, ?_⟩
    rintro _ k6 ⟨rfl, rfl⟩
    refine ⟨_, s_addPart (d := d) T3 T nd (ys k6 o6) ⟨o, hvo⟩ x6 b3', ?_⟩
    rintro k7 ⟨x7, o7⟩
    exact ⟨by simpa [mdL, List.append_assoc] using x7, o6.tr o7⟩
/-- a rule is written into another Text, if it fits -/
theorem s_write {rule : Nat} (T3 : TxS S r3 a3 b3 c3) (T : TxS S r a b c) (nd : [r3, a3, b3, c3, r, a, b, c].Nodup) (y : TxOk h r a b c t n) (hv : TxV t n) (hs : s < n) (hr : rule ≤ 6) :
    OkI (d + 4) mX5_write S [.ref r, .int (nI rule), .int (nI s), .ref r3] h (fun v k => v = bI (okR rule t n s) ∧ (okR rule t n s = true → TxOk k r3 a3 b3 c3 (fun i => (wrL rule t n s).getD i 0) (wrL rule t n s).length) ∧ fOff [r3, a3, b3, c3] h k) := by
  obtain ⟨⟨o, hvo⟩, h13, _⟩ := id hv
  have nd6 : [r3, a3, r, a, b, c].Nodup := nd_sub nd [0, 1, 4, 5, 6, 7] _ rfl (by decide)
  have hz := sz_le hvo hs
  refine NX5_write_0 T3.1.1 T.1.1 ⟨_, s_suits (d := d) T y hv hs hr, ?_⟩
  rintro _ h ⟨rfl, rfl⟩
  refine ⟨fun z => ?_, fun z => ?_⟩
  · have z := bI_n0.mp z
    have hg : sgR rule t n s = true := by unfold okR at z; rw [Bool.and_eq_true] at z; exact z.1
    have hl : (wrL rule t n s).length ≤ 13 := by unfold okR at z; rw [Bool.and_eq_true, decide_eq_true_eq] at z; exact z.2
    rintro k1 hk1
    have o1 : fOff [r3, a3] h k1 := by rw [hk1]; exact fOff.rf.of (f_off_fi _ _ _ _) (by simp)
    have x1 : BtT k1 r3 a3 [] := by rw [hk1]; exact ⟨by rw [u_fi_s]; rfl, fun i hi => by simp at hi⟩
    clear hk1
    have ys : ∀ k, fOff [r3, a3] h k → TxOk k r a b c t n := fun k ok => y.off ok (nd_out nd 4 [0, 1] rfl rfl (by decide)) (nd_out nd 5 [0, 1] rfl rfl (by decide)) (nd_out nd 6 [0, 1] rfl rfl (by decide)) (nd_out nd 7 [0, 1] rfl rfl (by decide))
    refine ⟨_, s_addPlaces (d := d + 2) (i := 0) (j := s) T3 T nd6 (ys k1 o1) x1 (Nat.zero_le s) (by omega), ?_⟩
    rintro k2 ⟨x2, o2⟩
    rw [Nat.sub_zero, List.nil_append] at x2
    have o2 := o1.tr o2
    -- the end
    have fin : ∀ k3, BtT k3 r3 a3 (seg t 0 s ++ mdL rule t n s) → fOff [r3, a3] h k3 → ∃ Q9 : Int32 → fH → Prop, OkI (d + 3) mX10_endOf S [.ref r, .int (nI s)] k3 Q9 ∧ ∀ (v9 : Int32) (k9 : fH), Q9 v9 k9 → ∃ Q10 : fH → Prop, OkV (d + 3) mX10_addPlaces S [.ref r3, .ref r, .int v9, .int (k9.1 r 3)] k9 Q10 ∧ ∀ (k10 : fH), Q10 k10 → ∃ Q11 : fH → Prop, OkV (d + 3) mX10_findParts S [.ref r3] k10 Q11 ∧ ∀ (k11 : fH), Q11 k11 → ((1 : Int32) = bI (okR rule t n s) ∧ (okR rule t n s = true → TxOk k11 r3 a3 b3 c3 (fun i => (wrL rule t n s).getD i 0) (wrL rule t n s).length) ∧ fOff [r3, a3, b3, c3] h k11) := by
      intro k3 x3 o3
      refine ⟨_, s_endOf T (ys k3 o3).1 h13 (by omega), ?_⟩
      rintro _ k3 ⟨rfl, rfl⟩
      rw [if_pos hs, (ys k3 o3).2.2.2.1 s hs, (ys k3 o3).1]
      refine ⟨_, s_addPlaces (d := d + 2) T3 T nd6 (ys k3 o3) x3 hz (Nat.le_refl n), ?_⟩
      rintro k4 ⟨x4, o4⟩
      have ew : seg t 0 s ++ mdL rule t n s ++ seg t (s + sz t n s) (n - (s + sz t n s)) = wrL rule t n s := by
        unfold wrL
        rw [List.append_assoc, Nat.sub_sub]
      rw [ew] at x4
      obtain ⟨⟨o9, hv9⟩, _⟩ := wr_ok hv hs z
      refine ⟨_, x4.done (d := d + 2) T3 hl hv9, ?_⟩
      rintro k5 ⟨x5, o5⟩
      exact ⟨by rw [z]; rfl, fun _ => x5, ((o3.tr o4).mono (by simp)).tr (o5.mono (by simp))⟩
    have e2 : (nI rule = (2 : Int32)) ↔ rule = 2 := nI_eq (b := 2) (by omega) (by decide)
    have e3 : (nI rule = (3 : Int32)) ↔ rule = 3 := nI_eq (b := 3) (by omega) (by decide)
    have e4 : (nI rule = (4 : Int32)) ↔ rule = 4 := nI_eq (b := 4) (by omega) (by decide)
    rw [e2, e3, e4]
    have fac : (rule = 2 ∨ rule = 3 ∨ rule = 4) → OkV (d + 3) mX5_writeFactors S [.ref r, .int (nI rule), .int (nI s), .ref r3] k2 (fun k => BtT k r3 a3 (seg t 0 s ++ mdL rule t n s) ∧ fOff [r3, a3] k2 k) := fun hq => s_writeFactors (d := d) T3 T nd6 (ys k2 o2) hv hs hg hq x2
    refine ⟨fun q => ⟨_, fac (Or.inl q), fun k3 hk3 => fin k3 hk3.1 (o2.tr hk3.2)⟩, fun q2 => ⟨fun q => ⟨_, fac (Or.inr (Or.inl q)), fun k3 hk3 => fin k3 hk3.1 (o2.tr hk3.2)⟩, fun q3 => ⟨fun q4 => ?_, fun q => ⟨_, fac (Or.inr (Or.inr q)), fun k3 hk3 => fin k3 hk3.1 (o2.tr hk3.2)⟩⟩⟩⟩
    exact ⟨_, s_writeShift (d := d) T3 T nd6 (ys k2 o2) hv hs hg (by omega) x2, fun k3 hk3 => fin k3 hk3.1 (o2.tr hk3.2)⟩
  · have z := bI_0.mp z
    exact ⟨by rw [z]; rfl, (fun w => by rw [z] at w; cases w), fOff.rf⟩
end WRITE2

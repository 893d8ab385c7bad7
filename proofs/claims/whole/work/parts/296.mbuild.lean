/-! ===== the reference's build ===== -/
section WL2
variable {t : Nat → Int32} {n : Nat}
theorem wr_len2 (hv : TxV t n) {rule s : Nat} (hs : s < n) (h : sgR rule t n s = true) : (wrL rule t n s).length ≤ n + 1 + sz t n (s + 1) := by
  have hop := sgR_op h
  obtain ⟨⟨o, hvo⟩, h13, _⟩ := id hv
  obtain ⟨a1, b1⟩ := op_in hvo hs hop
  have hz := sz_le hvo hs
  have e0 := sz_op hvo hs hop
  unfold sgR at h
  unfold wrL mdL
  simp only at h ⊢
  generalize hb : s + 1 + sz t n (s + 1) = b at *
  have opA : isOpB (t (s + 1)) = true → sz t n (s + 1) = 1 + sz t n (s + 1 + 1) + sz t n (s + 1 + 1 + sz t n (s + 1 + 1)) := fun q => sz_op hvo a1 q
  have opB : isOpB (t b) = true → sz t n b = 1 + sz t n (b + 1) + sz t n (b + 1 + sz t n (b + 1)) := fun q => sz_op hvo b1 q
  by_cases r0 : rule = 0
  · rw [if_pos r0] at h
    rw [if_pos r0]
    simp only [List.length_append, List.length_cons, seg_len, prt_len]
    omega
  rw [if_neg r0] at h
  rw [if_neg r0]
  by_cases r1 : rule = 1
  · rw [if_pos r1] at h
    rw [if_pos r1]
    simp only [decide_eq_true_eq] at h
    have ea := opA (by rw [h.2]; exact hop)
    simp only [List.length_append, List.length_cons, seg_len, prt_len]
    omega
  rw [if_neg r1] at h
  rw [if_neg r1]
  by_cases r2 : rule = 2
  · rw [if_pos r2] at h
    rw [if_pos r2]
    simp only [decide_eq_true_eq] at h
    have eb := opB (by rcases h.2 with q | q <;> rw [q] <;> decide)
    simp only [List.length_append, List.length_cons, seg_len, prt_len]
    omega
  rw [if_neg r2] at h
  rw [if_neg r2]
  by_cases r3 : rule = 3
  · rw [if_pos r3] at h
    rw [if_pos r3]
    simp only [decide_eq_true_eq] at h
    have ea := opA (by rw [h.2.1]; exact op42)
    have eb := opB (by rw [h.2.2.1]; exact op42)
    simp only [List.length_append, List.length_cons, seg_len, prt_len]
    omega
  rw [if_neg r3] at h
  rw [if_neg r3]
  by_cases r4 : rule = 4
  · rw [if_pos r4] at h
    rw [if_pos r4]
    simp only [decide_eq_true_eq] at h
    have ea := opA (by rw [h.2.1]; exact op42)
    have eb := opB (by rw [h.2.2.1]; exact op42)
    have p1 := (prt_eq.mp h.2.2.2.1).1
    have p2 := (prt_eq.mp h.2.2.2.2).1
    simp only [List.length_append, List.length_cons, seg_len, prt_len]
    omega
  rw [if_neg r4] at h
  rw [if_neg r4]
  by_cases r5 : rule = 5
  · rw [if_pos r5] at h
    rw [if_pos r5]
    simp only [decide_eq_true_eq] at h
    have ea := opA (by rw [h.2]; exact op45)
    simp only [List.length_append, List.length_cons, seg_len, prt_len]
    omega
  rw [if_neg r5] at h
  rw [if_neg r5]
  simp only [decide_eq_true_eq] at h
  have eb := opB (by rw [h.2]; exact op47)
  simp only [List.length_append, List.length_cons, seg_len, prt_len]
  omega
end WL2
section MBUILD
variable {d : Nat} {h : fH} {n s : Nat} {t : Nat → Int32} {L : List Int32}
theorem s_buildPart {rule : Nat} (hN : MNow h t n) (hz : MSz h t n) (hv : TxV t n) (hs : s < n) (hg : sgR rule t n s = true) (hr : rule ≤ 6) (x : MBt h L) (hT : L.length + (mdL rule t n s).length ≤ 32) :
    OkV (d + 2) mX12_buildPart SM [.ref 1, .int (nI rule), .int (t s), .int (nI (s + 1)), .int (nI (s + 1 + sz t n (s + 1)))] h (fun k => MBt k (L ++ mdL rule t n s) ∧ mF fBt h k) := by
  obtain ⟨⟨o, hvo⟩, h13, _⟩ := id hv
  have hop := sgR_op hg
  obtain ⟨a1, b1⟩ := op_in hvo hs hop
  have hR : ∀ k, k ≤ 6 → ((nI rule = nI k) ↔ rule = k) := fun k hk => nI_eq (by omega) (by omega)
  have ad : ∀ {k : fH} {M : List Int32} (ch : Int32), MBt k M → M.length < 32 → OkV (d + 1) mX12_add SM [.ref 1, .int ch] k (fun k' => MBt k' (M ++ [ch]) ∧ mF fBt k k') := fun ch xk hl => s_madd xk hl
  have ap : ∀ {k : fH} {M : List Int32} (i : Nat), mF fBt h k → MBt k M → i < n → M.length + sz t n i ≤ 32 → OkV (d + 1) mX12_addPart SM [.ref 1, .int (nI i)] k (fun k' => MBt k' (M ++ prt t n i) ∧ mF fBt k k') := fun i fk xk hi hl => s_maddPart (d := d) h13 (hN.of fk (by decide) (by decide)) (hz.of fk (by decide)) ⟨o, hvo⟩ xk hi hl
  have szr : ∀ {k : fH} (i : Nat), mF fBt h k → i < n → k.2.2.1 7 (nI i).toNatClampNeg = nI (sz t n i) := fun i fk hi => by rw [nI_clamp (by omega)]; exact (hz.of fk (by decide)) i hi
  unfold sgR at hg
  simp only at hg
  refine NX12_buildPart_0 hM hM7 hM6 ?_
  rw [nI1, nI1]
  refine ⟨fun r0 => ⟨fun r1 => ⟨fun r2 => ⟨fun r3 => ⟨fun r4 => ⟨fun r5 => ?_, fun r5 => ?_⟩, fun r4 => ?_⟩, fun r3 => ?_⟩, fun r2 => ?_⟩, fun r1 => ?_⟩, fun r0 => ?_⟩
  · have r6 : rule = 6 := by
      have k0 : ¬ rule = 0 := fun q => r0 ((hR 0 (by decide)).mpr q)
      have k1 : ¬ rule = 1 := fun q => r1 ((hR 1 (by decide)).mpr q)
      have k2 : ¬ rule = 2 := fun q => r2 ((hR 2 (by decide)).mpr q)
      have k3 : ¬ rule = 3 := fun q => r3 ((hR 3 (by decide)).mpr q)
      have k4 : ¬ rule = 4 := fun q => r4 ((hR 4 (by decide)).mpr q)
      have k5 : ¬ rule = 5 := fun q => r5 ((hR 5 (by decide)).mpr q)
      omega
    subst r6
    simp at hg
    obtain ⟨b2, b3⟩ := op_in hvo b1 (by rw [hg.2]; exact op47)
    simp [mdL, prt_len] at hT
    refine ⟨_, ad 47 x (by omega), ?_⟩
    rintro k1 ⟨x1, f1⟩
    refine ⟨_, ad 42 x1 (by simp; omega), ?_⟩
    rintro k2 ⟨x2, f2⟩
    have f2 := f1.tr f2
    refine ⟨_, ap _ f2 x2 a1 (by simp; omega), ?_⟩
    rintro k3 ⟨x3, f3⟩
    have f3 := f2.tr f3
    refine ⟨vp_in_nI (by omega) (by decide), ?_⟩
    rw [szr _ f3 b2, nI_add]
    refine ⟨_, ap _ f3 x3 b3 (by simp [prt_len]; omega), ?_⟩
    rintro k4 ⟨x4, f4⟩
    have f4 := f3.tr f4
    refine ⟨_, ap _ f4 x4 b2 (by simp [prt_len]; omega), ?_⟩
    rintro k5 ⟨x5, f5⟩
    refine ⟨?_, f4.tr f5⟩
    rw [← hg.1] at x5
    simpa [mdL, List.append_assoc] using x5
  · have r5 := (hR 5 (by decide)).mp r5
    subst r5
    simp at hg
    obtain ⟨a2, a3⟩ := op_in hvo a1 (by rw [hg.2]; exact op45)
    simp [mdL, prt_len] at hT
    refine ⟨_, ad 45 x (by omega), ?_⟩
    rintro k1 ⟨x1, f1⟩
    refine ⟨_, ap _ f1 x1 a2 (by simp; omega), ?_⟩
    rintro k2 ⟨x2, f2⟩
    have f2 := f1.tr f2
    refine ⟨_, ad 43 x2 (by simp [prt_len]; omega), ?_⟩
    rintro k3 ⟨x3, f3⟩
    have f3 := f2.tr f3
    refine ⟨vp_in_nI (by omega) (by decide), ?_⟩
    rw [szr _ f3 a2, nI_add]
    refine ⟨_, ap _ f3 x3 a3 (by simp [prt_len]; omega), ?_⟩
    rintro k4 ⟨x4, f4⟩
    have f4 := f3.tr f4
    refine ⟨_, ap _ f4 x4 b1 (by simp [prt_len]; omega), ?_⟩
    rintro k5 ⟨x5, f5⟩
    refine ⟨?_, f4.tr f5⟩
    have e45 : mdL 5 t n s = 45 :: (prt t n (s + 1 + 1) ++ 43 :: (prt t n (s + 1 + 1 + sz t n (s + 1 + 1)) ++ prt t n (s + 1 + sz t n (s + 1)))) := by simp [mdL, hg.1]
    rw [e45]
    simpa [List.append_assoc] using x5
  · have r4 := (hR 4 (by decide)).mp r4
    subst r4
    simp at hg
    obtain ⟨a2, a3⟩ := op_in hvo a1 (by rw [hg.2.1]; exact op42)
    obtain ⟨b2, b3⟩ := op_in hvo b1 (by rw [hg.2.2.1]; exact op42)
    simp [mdL, prt_len] at hT
    refine ⟨_, ad 42 x (by omega), ?_⟩
    rintro k1 ⟨x1, f1⟩
    refine ⟨_, ad 45 x1 (by simp; omega), ?_⟩
    rintro k2 ⟨x2, f2⟩
    have f2 := f1.tr f2
    refine ⟨_, ap _ f2 x2 a2 (by simp; omega), ?_⟩
    rintro k3 ⟨x3, f3⟩
    have f3 := f2.tr f3
    refine ⟨_, ap _ f3 x3 b2 (by simp [prt_len]; omega), ?_⟩
    rintro k4 ⟨x4, f4⟩
    have f4 := f3.tr f4
    refine ⟨_, ad 43 x4 (by simp [prt_len]; omega), ?_⟩
    rintro k5 ⟨x5, f5⟩
    have f5 := f4.tr f5
    refine ⟨_, ap _ f5 x5 a2 (by simp [prt_len]; omega), ?_⟩
    rintro k6 ⟨x6, f6⟩
    have f6 := f5.tr f6
    refine ⟨_, ap _ f6 x6 b2 (by simp [prt_len]; omega), ?_⟩
    rintro k7 ⟨x7, f7⟩
    exact ⟨by simpa [mdL, List.append_assoc] using x7, f6.tr f7⟩
  · have r3 := (hR 3 (by decide)).mp r3
    subst r3
    simp at hg
    obtain ⟨a2, a3⟩ := op_in hvo a1 (by rw [hg.2.1]; exact op42)
    obtain ⟨b2, b3⟩ := op_in hvo b1 (by rw [hg.2.2.1]; exact op42)
    simp [mdL, prt_len] at hT
    refine ⟨_, ad 42 x (by omega), ?_⟩
    rintro k1 ⟨x1, f1⟩
    refine ⟨_, ap _ f1 x1 a2 (by simp; omega), ?_⟩
    rintro k2 ⟨x2, f2⟩
    have f2 := f1.tr f2
    refine ⟨_, ad (t s) x2 (by simp [prt_len]; omega), ?_⟩
    rintro k3 ⟨x3, f3⟩
    have f3 := f2.tr f3
    refine ⟨vp_in_nI (by omega) (by decide), ?_⟩
    rw [szr _ f3 a2, nI_add]
    refine ⟨_, ap _ f3 x3 a3 (by simp [prt_len]; omega), ?_⟩
    rintro k4 ⟨x4, f4⟩
    have f4 := f3.tr f4
    refine ⟨vp_in_nI (by omega) (by decide), ?_⟩
    rw [szr _ f4 b2, nI_add]
    refine ⟨_, ap _ f4 x4 b3 (by simp [prt_len]; omega), ?_⟩
    rintro k5 ⟨x5, f5⟩
    exact ⟨by simpa [mdL, List.append_assoc] using x5, f4.tr f5⟩
  · have r2 := (hR 2 (by decide)).mp r2
    subst r2
    simp at hg
    have hB : isOpB (t (s + 1 + sz t n (s + 1))) = true := by rcases hg.2 with q | q <;> rw [q] <;> decide
    obtain ⟨b2, b3⟩ := op_in hvo b1 hB
    simp [mdL, prt_len] at hT
    refine ⟨vp_in_nI (by omega) (by decide), ?_⟩
    rw [nI_clamp (by omega), hN.2 _ b1]
    refine ⟨_, ad _ x (by omega), ?_⟩
    rintro k1 ⟨x1, f1⟩
    refine ⟨_, ad 42 x1 (by simp; omega), ?_⟩
    rintro k2 ⟨x2, f2⟩
    have f2 := f1.tr f2
    refine ⟨_, ap _ f2 x2 a1 (by simp; omega), ?_⟩
    rintro k3 ⟨x3, f3⟩
    have f3 := f2.tr f3
    refine ⟨_, ap _ f3 x3 b2 (by simp [prt_len]; omega), ?_⟩
    rintro k4 ⟨x4, f4⟩
    have f4 := f3.tr f4
    refine ⟨_, ad 42 x4 (by simp [prt_len]; omega), ?_⟩
    rintro k5 ⟨x5, f5⟩
    have f5 := f4.tr f5
    refine ⟨_, ap _ f5 x5 a1 (by simp [prt_len]; omega), ?_⟩
    rintro k6 ⟨x6, f6⟩
    have f6 := f5.tr f6
    refine ⟨vp_in_nI (by omega) (by decide), ?_⟩
    rw [szr _ f6 b2, nI_add]
    refine ⟨_, ap _ f6 x6 b3 (by simp [prt_len]; omega), ?_⟩
    rintro k7 ⟨x7, f7⟩
    exact ⟨by simpa [mdL, List.append_assoc] using x7, f6.tr f7⟩
  · have r1 := (hR 1 (by decide)).mp r1
    subst r1
    simp at hg
    obtain ⟨a2, a3⟩ := op_in hvo a1 (by rw [hg.2]; exact hop)
    simp [mdL, prt_len] at hT
    refine ⟨_, ad (t s) x (by omega), ?_⟩
    rintro k1 ⟨x1, f1⟩
    refine ⟨_, ap _ f1 x1 a2 (by simp; omega), ?_⟩
    rintro k2 ⟨x2, f2⟩
    have f2 := f1.tr f2
    refine ⟨_, ad (t s) x2 (by simp [prt_len]; omega), ?_⟩
    rintro k3 ⟨x3, f3⟩
    have f3 := f2.tr f3
    refine ⟨vp_in_nI (by omega) (by decide), ?_⟩
    rw [szr _ f3 a2, nI_add]
    refine ⟨_, ap _ f3 x3 a3 (by simp [prt_len]; omega), ?_⟩
    rintro k4 ⟨x4, f4⟩
    have f4 := f3.tr f4
    refine ⟨_, ap _ f4 x4 b1 (by simp [prt_len]; omega), ?_⟩
    rintro k5 ⟨x5, f5⟩
    exact ⟨by simpa [mdL, List.append_assoc] using x5, f4.tr f5⟩
  · have r0 := (hR 0 (by decide)).mp r0
    subst r0
    simp [mdL, prt_len] at hT
    refine ⟨_, ad (t s) x (by omega), ?_⟩
    rintro k1 ⟨x1, f1⟩
    refine ⟨_, ap _ f1 x1 b1 (by simp; omega), ?_⟩
    rintro k2 ⟨x2, f2⟩
    have f2 := f1.tr f2
    refine ⟨_, ap _ f2 x2 a1 (by simp [prt_len]; omega), ?_⟩
    rintro k3 ⟨x3, f3⟩
    exact ⟨by simpa [mdL, List.append_assoc] using x3, f2.tr f3⟩
abbrev fBl : fL := ([30], [], [7, 18], [])
theorem s_build {rule : Nat} (hN : MNow h t n) (hv : TxV t n) (hs : s < n) (hr : rule ≤ 6) :
    OkI (d + 3) mX12_build SM [.ref 1, .int (nI rule), .int (nI s)] h (fun v k => v = bI (okR rule t n s) ∧ (okR rule t n s = true → MBt k (wrL rule t n s)) ∧ mF fBl h k) := by
  obtain ⟨⟨o, hvo⟩, h13, _⟩ := id hv
  have hz9 := sz_le hvo hs
  have nok : sgR rule t n s = false → okR rule t n s = false := fun e => by unfold okR; rw [e]; rfl
  refine NX12_build_0 hM hM6 hM7 ⟨_, s_findSizes (d := d + 1) h13 hN ⟨o, hvo⟩, ?_⟩
  rintro h1 ⟨hz, f1⟩
  have hN1 := hN.of f1 (by decide) (by decide)
  have f1' : mF fBl h h1 := f1.mono (by decide)
  refine ⟨vp_in_nI (by omega) (by decide), ?_⟩
  rw [nI_clamp (by omega), hN1.2 s hs]
  refine ⟨_, s_misSign, ?_⟩
  rintro _ h1 ⟨rfl, rfl⟩
  refine ⟨fun z => ?_, fun z => ?_⟩
  · have hop := bI_n0.mp z
    obtain ⟨a1, b1⟩ := op_in hvo hs hop
    rw [nI1]
    refine ⟨vp_in_nI (by omega) (by decide), ?_⟩
    rw [nI_clamp (by omega), hz _ a1, nI_add]
    refine ⟨_, s_hasSigns (d := d + 1) h13 hN1 hz ⟨o, hvo⟩ hs hop hr, ?_⟩
    rintro _ h1 ⟨rfl, rfl⟩
    refine ⟨fun y => ?_, fun y => ?_⟩
    · have hg := bI_n0.mp y
      have hw2 := wr_len2 hv hs hg
      have hwl : (wrL rule t n s).length = s + (mdL rule t n s).length + (n - s - sz t n s) := by
        unfold wrL
        rw [List.length_append, List.length_append, seg_len, seg_len]
        omega
      have hza := sz_le hvo a1
      rintro k1 hk1
      have fk1 : mF fBl h k1 := by rw [hk1]; exact f1'.fi (by decide)
      have x1 : MBt k1 [] := by rw [hk1]; exact ⟨by rw [u_fi_s]; rfl, fun i hi => by simp at hi⟩
      have hN2 : MNow k1 t n := by rw [hk1]; exact hN1.of (mF.rf.fi (p := fBt) (by decide)) (by decide) (by decide)
      have hz2 : MSz k1 t n := by rw [hk1]; exact hz
      clear hk1
      -- what stands behind
      have suf : ∀ (m q : Nat) (M : List Int32) (k : fH), m + q = n → s + sz t n s ≤ q → M.length = s + (mdL rule t n s).length + (q - (s + sz t n s)) → MBt k M → M ++ seg t q m = wrL rule t n s → MNow k t n → mF fBl h k → G mX12_build (d + 3) SM (f_PI (fun v k => v = bI (okR rule t n s) ∧ (okR rule t n s = true → MBt k (wrL rule t n s)) ∧ mF fBl h k)) 103 [(0, .ref 1), (6, .int (nI q))] [] k := by
        intro m
        induction m with
        | zero =>
          intro q M k hq hsq hM' xk e kN fk
          have : q = n := by omega
          subst this
          have eM : M = wrL rule t q s := by rw [← e]; simp [seg]
          rw [eM] at xk
          refine NX12_build_103 hM hM6 ⟨fun _ => ?_, fun w => absurd (by rw [kN.1]; exact Int32.le_refl _) w⟩
          rw [xk.1]
          have ce : ((13 : Int32) < nI (wrL rule t q s).length) ↔ 13 < (wrL rule t q s).length := nI_ltI (a := 13) (by decide) (by omega)
          rw [ce]
          refine ⟨fun w => ⟨?_, fun u => ?_, fk⟩, fun w => ⟨?_, fun _ => xk, fk⟩⟩
          · have : okR rule t q s = false := by unfold okR; rw [decide_eq_false (by omega), Bool.and_false]
            rw [this]; rfl
          · unfold okR at u
            rw [Bool.and_eq_true, decide_eq_true_eq] at u
            omega
          · have : okR rule t q s = true := by unfold okR; rw [hg, decide_eq_true (by omega)]; rfl
            rw [this]; rfl
        | succ m ih =>
          intro q M k hq hsq hM' xk e kN fk
          refine NX12_build_103 hM hM6 ⟨fun w => absurd w (by rw [kN.1]; exact nI_ge (by omega) (by omega)), fun _ => ⟨vp_in_nI (by omega) (by decide), ?_⟩⟩
          rw [nI_clamp (by omega), kN.2 q (by omega), nI1]
          refine ⟨_, s_madd xk (by omega), ?_⟩
          rintro k2 ⟨x2, f2⟩
          refine ih (q + 1) _ k2 (by omega) (by omega) (by rw [List.length_append, List.length_singleton]; omega) x2 ?_ (kN.of f2 (by decide) (by decide)) (fk.go f2 (by decide))
          rw [← e, seg_cons, List.append_assoc]
          rfl
      have pre : ∀ (m q : Nat) (k : fH), m + q = s → MBt k (seg t 0 q) → MNow k t n → MSz k t n → mF fBl h k → G mX12_build (d + 3) SM (f_PI (fun v k => v = bI (okR rule t n s) ∧ (okR rule t n s = true → MBt k (wrL rule t n s)) ∧ mF fBl h k)) 60 [(0, .ref 1), (1, .int (nI rule)), (2, .int (nI s)), (3, .int (t s)), (4, .int (nI (s + 1))), (5, .int (nI (s + 1 + sz t n (s + 1)))), (6, .int (nI q))] [] k := by
        intro m
        induction m with
        | zero =>
          intro q k hq xk kN kz fk
          have : q = s := by omega
          subst this
          refine NX12_build_60 hM hM7 hM6 ⟨fun _ => ⟨_, s_buildPart (d := d) kN kz hv hs hg hr xk (by rw [seg_len]; omega), ?_⟩, fun w => absurd (Int32.le_refl _) w⟩
          rintro k2 ⟨x2, f2⟩
          have kz2 := kz.of f2 (by decide)
          refine ⟨vp_in_nI (by omega) (by decide), ?_⟩
          rw [nI_clamp (by omega), kz2 q hs, nI_add]
          refine suf (n - q - sz t n q) (q + sz t n q) _ k2 (by omega) (Nat.le_refl _) ?_ x2 ?_ (kN.of f2 (by decide) (by decide)) (fk.go f2 (by decide))
          · rw [List.length_append, seg_len]; omega
          · unfold wrL; rw [List.append_assoc]
        | succ m ih =>
          intro q k hq xk kN kz fk
          refine NX12_build_60 hM hM7 hM6 ⟨fun w => absurd w (nI_ge (by omega) (by omega)), fun _ => ⟨vp_in_nI (by omega) (by decide), ?_⟩⟩
          rw [nI_clamp (by omega), kN.2 q (by omega), nI1]
          refine ⟨_, s_madd xk (by rw [seg_len]; omega), ?_⟩
          rintro k2 ⟨x2, f2⟩
          refine ih (q + 1) k2 (by omega) ?_ (kN.of f2 (by decide) (by decide)) (kz.of f2 (by decide)) (fk.go f2 (by decide))
          rw [seg_app, Nat.zero_add]
          exact x2
      exact pre s 0 k1 (by omega) x1 hN2 hz2 fk1
    · have e := nok (bI_0.mp y)
      exact ⟨by rw [e]; rfl, (fun w => by rw [e] at w; cases w), f1'⟩
  · have hnop := bI_0.mp z
    have e : okR rule t n s = false := nok (by
      cases q : sgR rule t n s
      · rfl
      · rw [sgR_op q] at hnop; cases hnop)
    exact ⟨by rw [e]; rfl, (fun w => by rw [e] at w; cases w), f1'⟩
end MBUILD

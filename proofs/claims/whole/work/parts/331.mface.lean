/-! ===== the reference's face: settings, rounding, the pad, the text ===== -/
section MFACE1
variable {h : fH} {X : stP}
theorem MPg.f0 {P : pgP} (x : MPg h P) (e : Nat) : MPg (u_fi h 1 0 (nI e)) (wD P e) := by
  obtain ⟨⟨t1, t2⟩, ⟨d1, d2⟩, n1, c1, c2⟩ := x
  exact ⟨⟨by rw [u_fi_n _ _ (by decide)]; exact t1, t2⟩, ⟨u_fi_s _ _ _ _, by rw [u_fi_n _ _ (by decide)]; exact d2⟩, n1, by rw [u_fi_n _ _ (by decide)]; exact c1, c2⟩
theorem MPg.f1 {P : pgP} (x : MPg h P) (e : Nat) : MPg (u_fi h 1 1 (nI e)) (wW P e) := by
  obtain ⟨⟨t1, t2⟩, ⟨d1, d2⟩, n1, c1, c2⟩ := x
  exact ⟨⟨by rw [u_fi_n _ _ (by decide)]; exact t1, t2⟩, ⟨by rw [u_fi_n _ _ (by decide)]; exact d1, u_fi_s _ _ _ _⟩, n1, by rw [u_fi_n _ _ (by decide)]; exact c1, c2⟩
/-- a page's field -/
theorem MRel.fi {P' : pgP} {j : Nat} {w : Int32} (x : MRel h X) (hj : j ≠ 8) (p : MPg (u_fi h 1 j w) P') : MRel (u_fi h 1 j w) (X.1, P', X.2.2) :=
  ⟨⟨by rw [u_fi_n _ _ (Ne.symm hj)]; exact x.1.1, x.1.2⟩, p, x.2.2.1.of rfl rfl, x.2.2.2.1.of rfl rfl, x.2.2.2.2⟩
theorem r_set {a b : Int32} (x : MRel h X) : OkI 20 mX12_set SM [.ref 1, .int a, .int b] h (fun y k => y = (pu_set X a b).1 ∧ MRel k (pu_set X a b).2) := by
  refine NX12_set_0 (d := 19) ⟨_, s_isEnd, ?_⟩
  rintro _ k ⟨rfl, rfl⟩
  refine ⟨fun z => ?_, fun z => ⟨fun z1 => ?_, fun z1 => ?_⟩⟩
  · have z := of_decide_eq_false (bI_0.mp z)
    rw [show pu_set X a b = (-2, X) by unfold pu_set; rw [if_neg (fun q => z (by rw [q.1]; decide)), if_neg (fun q => z (by rw [q.1]; decide))]]
    exact ⟨rfl, x⟩
  · have z := of_decide_eq_true (bI_n0.mp z)
    obtain ⟨j, hj, rfl⟩ := nI_of2 (M := 1) (n := 1) rfl (Int32.not_lt.mpr z.1) z.2
    have e1 : nI j = 1 := by
      rcases (show j = 0 ∨ j = 1 by omega) with rfl | rfl
      · exact absurd rfl z1
      · rfl
    refine NX12_set_31 (d := 19) hM ⟨_, s_in32 (lo := 0) (hi := 3) rfl rfl, ?_⟩
    rintro _ k ⟨rfl, rfl⟩
    refine ⟨fun w => ⟨fun w1 => ?_, fun w1 => absurd w1 z1⟩, fun w => ?_⟩
    · have w := of_decide_eq_true (bI_n0.mp w)
      intro g1 e2
      obtain ⟨q, hq, rfl⟩ := nI_of2 (M := 3) (n := 3) rfl (Int32.not_lt.mpr w.1) w.2
      rw [show pu_set X (nI j) (nI q) = (nI (pW X.2.1), X.1, wW X.2.1 q, X.2.2) by unfold pu_set; rw [if_neg (fun y => z1 y.1), if_pos ⟨e1, Int32.not_lt.mpr w.1, Int32.not_lt.mpr w.2⟩, nI_clamp (by omega)]]
      rw [e2]
      exact ⟨x.hW, x.fi (by decide) (x.2.1.f1 q)⟩
    · have w := of_decide_eq_false (bI_0.mp w)
      rw [show pu_set X (nI j) b = (-2, X) by unfold pu_set; rw [if_neg (fun y => z1 y.1), if_neg (fun y => w ⟨Int32.not_lt.mp y.2.1, Int32.not_lt.mp y.2.2⟩)]]
      exact ⟨rfl, x⟩
  · refine NX12_set_31 (d := 19) hM ⟨_, s_in32 (lo := 1) (hi := 4) rfl rfl, ?_⟩
    rintro _ k ⟨rfl, rfl⟩
    refine ⟨fun w => ⟨fun w1 => absurd z1 w1, fun _ => ?_⟩, fun w => ?_⟩
    · have w := of_decide_eq_true (bI_n0.mp w)
      intro g1 e2
      obtain ⟨q, hq, rfl⟩ := nI_of2 (x := b) (M := 4) (n := 4) rfl (fun y => Int32.not_lt.mpr w.1 (Int32.lt_trans y (by decide))) w.2
      rw [show pu_set X a (nI q) = (nI (pD X.2.1), X.1, wD X.2.1 q, X.2.2) by unfold pu_set; rw [if_pos ⟨z1, Int32.not_lt.mpr w.1, Int32.not_lt.mpr w.2⟩, nI_clamp (by omega)]]
      rw [e2]
      exact ⟨x.hD, x.fi (by decide) (x.2.1.f0 q)⟩
    · have w := of_decide_eq_false (bI_0.mp w)
      rw [show pu_set X a b = (-2, X) by unfold pu_set; rw [if_neg (fun y => w ⟨Int32.not_lt.mp y.2.1, Int32.not_lt.mp y.2.2⟩), if_neg (fun y => by rw [z1] at y; exact absurd y.1 (by decide))]]
      exact ⟨rfl, x⟩
theorem r_round {a b c : Int32} (x : MRel h X) (v : StV X) : OkL 20 mX12_round SM [.ref 1, .int a, .int b, .int c] h (fun y k => y = pu_round X a b c ∧ MRel k X) := by
  have bad : ∀ k : fH, MRel k X → ¬ (¬ a < -1000000 ∧ ¬ 1000000 < a ∧ ¬ b < 1 ∧ ¬ 1000000 < b ∧ ¬ c < -9 ∧ c ≤ 9) → (-1000000000000000002 : Int64) = pu_round X a b c ∧ MRel k X := fun k y q => ⟨by unfold pu_round; rw [if_neg q]; rfl, y⟩
  refine NX12_round_0 (d := 19) hM ⟨_, s_in32 (lo := -1000000) (hi := 1000000) rfl rfl, ?_⟩
  rintro _ k ⟨rfl, rfl⟩
  refine ⟨fun z => bad k x (fun q => of_decide_eq_false (bI_0.mp z) ⟨Int32.not_lt.mp q.1, Int32.not_lt.mp q.2.1⟩), fun z1 => ?_⟩
  have z1 := of_decide_eq_true (bI_n0.mp z1)
  refine ⟨_, s_in32 (lo := 1) (hi := 1000000) rfl rfl, ?_⟩
  rintro _ k ⟨rfl, rfl⟩
  refine ⟨fun z => bad k x (fun q => of_decide_eq_false (bI_0.mp z) ⟨Int32.not_lt.mp q.2.2.1, Int32.not_lt.mp q.2.2.2.1⟩), fun z2 => ?_⟩
  have z2 := of_decide_eq_true (bI_n0.mp z2)
  refine ⟨_, s_in32 (lo := -9) (hi := 9) rfl rfl, ?_⟩
  rintro _ k ⟨rfl, rfl⟩
  refine ⟨fun z3 => ?_, fun z => bad k x (fun q => of_decide_eq_false (bI_0.mp z) ⟨Int32.not_lt.mp q.2.2.2.2.1, q.2.2.2.2.2⟩)⟩
  have z3 := of_decide_eq_true (bI_n0.mp z3)
  have a1 : -1000000 ≤ a.toInt := by have := z1.1; rw [Int32.le_iff_toInt_le] at this; simpa using this
  have a2 : a.toInt ≤ 1000000 := by have := z1.2; rw [Int32.le_iff_toInt_le] at this; simpa using this
  have b1 : 1 ≤ b.toInt := by have := z2.1; rw [Int32.le_iff_toInt_le] at this; simpa using this
  have b2 : b.toInt ≤ 1000000 := by have := z2.2; rw [Int32.le_iff_toInt_le] at this; simpa using this
  have c1 : -9 ≤ c.toInt := by have := z3.1; rw [Int32.le_iff_toInt_le] at this; simpa using this
  have c2 : c.toInt ≤ 9 := by have := z3.2; rw [Int32.le_iff_toInt_le] at this; simpa using this
  have eb : b.toInt64 = lN b.toInt.toNat := by
    rw [← lN_ofInt, show ((b.toInt.toNat : Nat) : Int) = b.toInt by omega, ← Int64.toInt_inj, i64_abs, Int64.toInt_ofInt_of_le (by omega) (by omega)]
  have ea : absL a.toInt64 = lN a.toInt.natAbs := by rw [absL_nat (by rw [i64_abs]; omega), i64_abs]
  have ec : c = Int32.ofInt c.toInt := (Int32.ofInt_toInt c).symm
  have e : pu_round X a b c = Int64.ofInt (rndF (pD X.2.1) (pW X.2.1) false (decide (a.toInt < 0)) a.toInt.natAbs b.toInt.toNat (c.toInt + 9)) := by
    unfold pu_round; rw [if_pos ⟨Int32.not_lt.mpr z1.1, Int32.not_lt.mpr z1.2, Int32.not_lt.mpr z2.1, Int32.not_lt.mpr z2.2, Int32.not_lt.mpr z3.1, z3.2⟩]
  rw [e]
  have core : ∀ (below : Bool), decide (a.toInt < 0) = below → OkL 19 mX12_rounded SM [.ref 1, .int (bI below), .long (absL a.toInt64), .long b.toInt64, .int c, .int (k.1 1 1), .int 0] k (fun y k' => y = Int64.ofInt (rndF (pD X.2.1) (pW X.2.1) false (decide (a.toInt < 0)) a.toInt.natAbs b.toInt.toNat (c.toInt + 9)) ∧ k' = k) := by
    intro below hb
    have q := s_rounded (d := 18) (D := pD X.2.1) (W := pW X.2.1) (tiny := false) (below := below) (n := a.toInt.natAbs) (d0 := b.toInt.toNat) (e := c.toInt) hMi x.hD v.2.1.2.2.2.2.1 v.2.1.2.2.2.2.2.1 v.2.1.2.2.2.2.2.2 (by omega) (by omega) (by omega) (by omega) (by omega)
    rw [← eb, ← ea, ← ec, ← x.hW] at q
    rw [hb]
    exact q
  refine ⟨fun z => ?_, fun z => ?_⟩
  · refine ⟨_, s_size, ?_⟩
    rintro _ k ⟨rfl, rfl⟩
    have q : decide (a.toInt < 0) = false := decide_eq_false (by rw [Int32.le_iff_toInt_le] at z; simpa using z)
    refine ⟨_, core false q, ?_⟩
    rintro _ k ⟨rfl, rfl⟩
    exact ⟨rfl, x⟩
  · refine ⟨_, s_size, ?_⟩
    rintro _ k ⟨rfl, rfl⟩
    have q : decide (a.toInt < 0) = true := decide_eq_true (by rw [Int32.le_iff_toInt_le] at z; simpa using z)
    refine ⟨_, core true q, ?_⟩
    rintro _ k ⟨rfl, rfl⟩
    exact ⟨rfl, x⟩
/-- another pad -/
theorem MRel.pad {k : fH} {L : List Int32} (x : MRel h X) (b : mF ([8], [], [2], []) h k) (p1 : k.1 1 8 = nI L.length) (p2 : ∀ i, i < L.length → k.2.2.1 2 i = rw' L i) : MRel k (L, X.2) := by
  obtain ⟨_, ⟨⟨t1, t2⟩, ⟨d1, d2⟩, n1, c1, c2⟩, i0, i1, z⟩ := x
  refine ⟨⟨p1, p2⟩, ⟨⟨by rw [b.1 _ (by decide)]; exact t1, fun i hi => by rw [b.2.2.1 _ (by decide)]; exact t2 i hi⟩, ⟨by rw [b.1 _ (by decide)]; exact d1, by rw [b.1 _ (by decide)]; exact d2⟩, fun j hj => by rw [b.2.2.1 _ (by decide), b.2.2.1 _ (by decide)]; exact n1 j hj, by rw [b.1 _ (by decide)]; exact c1, fun j hj => by rw [b.2.2.2 _ (by decide)]; exact c2 j hj⟩, i0.of (b.2.2.2 _ (by decide)) (b.2.2.1 _ (by decide)), i1.of (b.2.2.2 _ (by decide)) (b.2.2.1 _ (by decide)), fun j hj => by rw [b.2.2.1 _ (by decide)]; exact z j hj⟩
theorem r_say {s : Int32} (x : MRel h X) (v : StV X) : OkI 20 mX12_say SM [.ref 1, .int s] h (fun y k => y = (pu_say X s).1 ∧ MRel k (pu_say X s).2) := by
  have hp := x.1.1
  have hl := v.1
  refine NX12_say_0 (d := 19) hM hM2 ⟨_, s_in32 (lo := 33) (hi := 126) rfl rfl, ?_⟩
  rintro _ k ⟨rfl, rfl⟩
  refine ⟨fun z => ⟨fun z1 => ?_, fun z1 => ?_⟩, fun z => ?_⟩
  · have z := of_decide_eq_true (bI_n0.mp z)
    rw [hp] at z1 ⊢
    have hn : X.1.length < 20 := by
      rcases Nat.lt_or_ge X.1.length 20 with q | q
      · exact q
      · exact absurd (by rw [show X.1.length = 20 by omega]; rfl) z1
    refine ⟨vp_in_nI hn (by decide), ?_⟩
    rw [nI_clamp (by omega)]
    intro g1 e1 g2 e2
    have e3 : g2.1 1 8 = nI (X.1.length + 1) := by rw [e2, u_fi_s, e1, u_ai_1, hp, nI1]
    have o : mF ([8], [], [2], []) k g2 := by rw [e2, e1]; exact (mF.rf.ai (by decide)).fi (by decide)
    rw [show pu_say X s = (nI (X.1.length + 1), X.1 ++ [s], X.2) by unfold pu_say; rw [if_pos ⟨Int32.not_lt.mpr z.1, z.2⟩, if_pos hn]]
    refine ⟨e3, x.pad o (by rw [e3]; simp) (fun i hi => ?_)⟩
    rw [e2, u_fi_2, e1, u_ai_s]
    simp only [List.length_append, List.length_cons, List.length_nil] at hi
    by_cases c : i = X.1.length
    · subst c; rw [upd_s, rw_app_r]
    · rw [upd_n _ _ c, rw_app_l (by omega)]; exact x.1.2 i (by omega)
  · have z := of_decide_eq_true (bI_n0.mp z)
    rw [hp] at z1
    have hn : ¬ X.1.length < 20 := fun q => by
      have := (nI_eq (a := X.1.length) (b := 20) (by omega) (by decide)).mp z1
      omega
    rw [show pu_say X s = (-4, X) by unfold pu_say; rw [if_pos ⟨Int32.not_lt.mpr z.1, z.2⟩, if_neg hn]]; exact ⟨rfl, x⟩
  · have z := of_decide_eq_false (bI_0.mp z)
    rw [show pu_say X s = (-2, X) by unfold pu_say; rw [if_neg (fun q => z ⟨Int32.not_lt.mp q.1, q.2⟩)]]; exact ⟨rfl, x⟩
theorem r_wipe (x : MRel h X) : OkI 20 mX12_wipe SM [.ref 1] h (fun y k => y = (pu_wipe X).1 ∧ MRel k (pu_wipe X).2) := by
  refine NX12_wipe_0 (d := 20) hM ?_
  intro g1 e1
  have o : mF ([8], [], [2], []) h g1 := by rw [e1]; exact mF.rf.fi (by decide)
  exact ⟨x.1.1, x.pad o (by rw [e1, u_fi_s]; rfl) (fun i hi => by simp at hi)⟩
theorem r_fault {d : Nat} (x : MRel h X) (v : StV X) : OkI (d + 2) mX12_fault SM [.ref 1] h (fun y k => y = pu_fault X ∧ k = h) := by
  have hp := x.1.1
  have hl := v.1
  refine NX12_fault_0 ?_
  have key : ∀ (r : List Int32) (i o : Nat), X.1.drop i = r → i ≤ X.1.length → o ≤ i + 1 → i ≤ 13 → G mX12_fault (d + 2) SM (f_PI (fun y k => y = faF r i o ∧ k = h)) 4 [(0, .ref 1), (1, .int (nI o)), (2, .int (nI i))] [] h := by
    intro r
    induction r with
    | nil =>
      intro i o hr hi ho _
      have e : i = X.1.length := by
        have := congrArg List.length hr
        simp at this
        omega
      refine NX12_fault_4 hM hM2 ⟨fun _ => ⟨fun z1 => ?_, fun z1 => ?_⟩, fun z => absurd (by rw [hp, e]; exact Int32.le_refl _) z⟩
      · refine ⟨?_, rfl⟩
        unfold faF
        rw [if_neg (fun q => z1 (by rw [q]; rfl)), hp, e]
      · refine ⟨?_, rfl⟩
        unfold faF
        rw [if_pos ((nI_eq (a := o) (b := 0) (by omega) (by decide)).mp z1)]
    | cons c r ih =>
      intro i o hr hi ho h13
      obtain ⟨hi2, hc, hd⟩ := dropc hr
      have hrow : h.2.2.1 2 i = c := by rw [x.1.2 i hi2]; exact hc
      refine NX12_fault_4 hM hM2 ⟨fun z => absurd z (by rw [hp]; exact nI_ge hi2 (by omega)), fun _ => ⟨vp_in_nI (by omega) (by decide), ?_⟩⟩
      refine ⟨fun z => ?_, fun z => ⟨fun z1 => ?_, fun z1 => ?_⟩⟩
      · refine ⟨?_, rfl⟩
        unfold faF
        rw [if_pos (Or.inr ((nI_eq (a := o) (b := 0) (by omega) (by decide)).mp z))]
      · refine ⟨?_, rfl⟩
        unfold faF
        have := (nI_eq (a := i) (b := 13) (by omega) (by decide)).mp z1
        rw [if_pos (Or.inl (by omega))]
      · have n13 : ¬ (13 ≤ i ∨ o = 0) := by
          rintro (q | q)
          · exact z1 (by rw [show i = 13 by omega]; rfl)
          · exact z (by rw [q]; rfl)
        have hi13 : i < 13 := by omega
        have om : nI o + (-1) = nI (o - 1) := by
          obtain ⟨o', rfl⟩ : ∃ o', o = o' + 1 := ⟨o - 1, by omega⟩
          rw [Nat.add_sub_cancel, nI_succ, Int32.add_assoc, show (1 : Int32) + -1 = 0 from by decide, Int32.add_zero]
        have hG : isOpB c = false → (isLetB c || isDigB c) = true → faF (c :: r) i o = faF r (i + 1) (o - 1) := fun y q => by
          rw [faF, if_neg n13, if_neg (by rw [y]; decide), if_pos q]
        have hG2 : isOpB c = true → faF (c :: r) i o = faF r (i + 1) (o + 1) := fun y => by rw [faF, if_neg n13, if_pos y]
        rw [nI_clamp (by omega), hrow, nI1, nI1, om]
        have nxt : ∀ y : Bool, isOpB c = y → (y = false → (isLetB c || isDigB c) = true) → ∃ Q1 : Int32 → fH → Prop, OkI (d + 1) mX12_isSign SM [.int c] h Q1 ∧ ∀ (v_2 : Int32) (h_2 : fH), Q1 v_2 h_2 → ((v_2 = 0 → G mX12_fault (d + 2) SM (f_PI (fun y k => y = faF (c :: r) i o ∧ k = h)) 4 [(0, .ref 1), (1, .int (nI (o - 1))), (2, .int (nI (i + 1)))] [] h_2) ∧ (¬ v_2 = 0 → G mX12_fault (d + 2) SM (f_PI (fun y k => y = faF (c :: r) i o ∧ k = h)) 4 [(0, .ref 1), (1, .int (nI (o + 1))), (2, .int (nI (i + 1)))] [] h_2)) := by
          intro y hy hl
          refine ⟨_, s_misSign, ?_⟩
          rintro _ k ⟨rfl, rfl⟩
          refine ⟨fun w => ?_, fun w => ?_⟩
          · have w := bI_0.mp w
            rw [hG w (hl (by rw [← hy]; exact w))]
            exact ih (i + 1) (o - 1) hd hi2 (by omega) (by omega)
          · rw [hG2 (bI_n0.mp w)]
            exact ih (i + 1) (o + 1) hd hi2 (by omega) (by omega)
        refine ⟨_, s_misSign, ?_⟩
        rintro _ k ⟨rfl, rfl⟩
        refine ⟨fun y => nxt true (bI_n0.mp y) (fun q => by cases q), fun y => ?_⟩
        have y := bI_0.mp y
        refine ⟨_, s_misLetter, ?_⟩
        rintro _ k ⟨rfl, rfl⟩
        refine ⟨fun y2 => nxt false y (fun _ => by rw [bI_n0.mp y2]; rfl), fun y2 => ?_⟩
        refine ⟨_, s_misDigit, ?_⟩
        rintro _ k ⟨rfl, rfl⟩
        refine ⟨fun y3 => nxt false y (fun _ => by rw [bI_n0.mp y3, Bool.or_true]), fun y3 => ⟨?_, rfl⟩⟩
        unfold faF
        rw [if_neg n13, if_neg (by rw [y]; decide), if_neg (by rw [bI_0.mp y2, bI_0.mp y3]; decide)]
  exact key X.1 0 1 rfl (by omega) (by omega) (by omega)
end MFACE1

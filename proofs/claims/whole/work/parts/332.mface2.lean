/-! ===== the reference's face: text, sign, put, worked, exact, loss, worst, needs ===== -/
section MFACE2
variable {h : fH} {X : stP}
/-- another page -/
theorem MRel.pg {k : fH} {P' : pgP} (x : MRel h X) (b : mF ([0, 1, 10, 22], [], [3, 4, 5], [13]) h k) (p : MPg k P') : MRel k (X.1, P', X.2.2) :=
  ⟨⟨by rw [b.1 _ (by decide)]; exact x.1.1, fun i hi => by rw [b.2.2.1 _ (by decide)]; exact x.1.2 i hi⟩, p, x.2.2.1.of (b.2.2.2 _ (by decide)) (b.2.2.1 _ (by decide)), x.2.2.2.1.of (b.2.2.2 _ (by decide)) (b.2.2.1 _ (by decide)), fun j hj => by rw [b.2.2.1 _ (by decide)]; exact x.2.2.2.2 j hj⟩
theorem faF_sg : ∀ (L : List Int32) (i o : Nat), i + L.length ≤ 20 → faF L i o = -6 ∨ ¬ faF L i o < 0
  | [], i, o, hi => by
    unfold faF
    simp at hi
    split
    · exact Or.inl rfl
    · exact Or.inr (nI_pos (by omega))
  | c :: r, i, o, hi => by
    unfold faF
    simp only [List.length_cons] at hi
    split
    · exact Or.inr (nI_pos (by omega))
    · split
      · exact faF_sg r (i + 1) (o + 1) (by omega)
      · split
        · exact faF_sg r (i + 1) (o - 1) (by omega)
        · exact Or.inr (nI_pos (by omega))
theorem r_text (x : MRel h X) (v : StV X) : OkI 20 mX12_text SM [.ref 1] h (fun y k => y = (pu_text X).1 ∧ MRel k (pu_text X).2) := by
  have hp := x.1.1
  refine NX12_text_0 (d := 19) hM ⟨_, r_fault (d := 17) x v, ?_⟩
  rintro _ k ⟨rfl, rfl⟩
  have sg := faF_sg X.1 0 1 (by have := v.1; omega)
  refine ⟨fun z => ?_, fun z => ?_⟩
  · have z6 : pu_fault X = -6 := by
      rcases sg with q | q
      · exact q
      · exact absurd z q
    obtain ⟨t1, t2⟩ := fault_ok z6
    rw [show pu_text X = (nI X.1.length, [], wT X.2.1 X.1, X.2.2) by unfold pu_text; rw [if_pos z6]]
    have key : ∀ (m i : Nat) (g : fH), m + i = X.1.length → mF ([], [], [3], []) k g → (∀ j, j < i → g.2.2.1 3 j = rw' X.1 j) → G mX12_text 20 SM (f_PI (fun y k => y = nI X.1.length ∧ MRel k ([], wT X.2.1 X.1, X.2.2))) 12 [(0, .ref 1), (1, .int (nI i))] [] g := by
      intro m
      induction m with
      | zero =>
        intro i g hm fg hr
        refine NX12_text_12 (d := 19) hM hM2 hM3 ⟨fun _ => ?_, fun z => absurd (by rw [fg.1 8 (by decide), hp]; exact nI_le (by omega) (by omega)) z⟩
        intro g1 e1 g2 e2
        have e8 : g.1 1 8 = nI X.1.length := by rw [fg.1 8 (by decide)]; exact hp
        rw [e8] at e1
        have b1 : mF ([0, 1, 10, 22], [], [3, 4, 5], [13]) k g1 := by rw [e1]; exact (fg.mono (by decide)).fi (by decide)
        have r10 : g1.1 1 10 = nI X.1.length := by rw [e1, u_fi_s]
        have p1 : MPg g1 (wT X.2.1 X.1) := by
          obtain ⟨⟨t1, t2⟩, ⟨d1, d2⟩, n1, c1, c2⟩ := x.2.1
          refine ⟨⟨r10, fun i hi => ?_⟩, ⟨?_, ?_⟩, fun j hj => ?_, ?_, fun j hj => ?_⟩
          · rw [e1, u_fi_2]; exact hr i (by have : i < X.1.length := hi; omega)
          · rw [e1, u_fi_n _ _ (by decide), fg.1 _ (by decide)]; exact d1
          · rw [e1, u_fi_n _ _ (by decide), fg.1 _ (by decide)]; exact d2
          · rw [e1, u_fi_2, fg.2.2.1 _ (by decide), fg.2.2.1 _ (by decide)]; exact n1 j hj
          · rw [e1, u_fi_n _ _ (by decide), fg.1 _ (by decide)]; exact c1
          · rw [e1, u_fi_2, fg.2.2.2 _ (by decide)]; exact c2 j hj
        have x1 := x.pg b1 p1
        have b2 : mF ([8], [], [2], []) g1 g2 := by rw [e2]; exact mF.rf.fi (by decide)
        exact ⟨by rw [b2.1 10 (by decide)]; exact r10, x1.pad b2 (by rw [e2, u_fi_s]; rfl) (fun i hi => by simp at hi)⟩
      | succ m ih =>
        intro i g hm fg hr
        refine NX12_text_12 (d := 19) hM hM2 hM3 ⟨fun z => absurd z (by rw [fg.1 8 (by decide), hp]; exact nI_ge (by omega) (by omega)), fun _ => ⟨vp_in_nI (by omega) (by decide), vp_in_nI (by omega) (by decide), ?_⟩⟩
        rw [nI_clamp (by omega), nI1]
        intro g1 e1
        refine ih (i + 1) g1 (by omega) (by rw [e1]; exact fg.ai (by decide)) (fun j hj => ?_)
        rw [e1, u_ai_s]
        by_cases c : j = i
        · subst c; rw [upd_s, fg.2.2.1 2 (by decide)]; exact x.1.2 j (by omega)
        · rw [upd_n _ _ c]; exact hr j (by omega)
    exact key X.1.length 0 k (by omega) mF.rf (fun j hj => by omega)
  · have z6 : ¬ pu_fault X = -6 := fun q => z (by rw [q]; decide)
    rw [show pu_text X = (-5, X) by unfold pu_text; rw [if_neg z6]]
    exact ⟨rfl, x⟩
theorem r_sign {s : Int32} (x : MRel h X) (v : StV X) : OkI 20 mX12_sign SM [.ref 1, .int s] h (fun y k => y = pu_sign X s ∧ MRel k X) := by
  have h13 := v.t13
  refine NX12_sign_0 (d := 19) hM hM3 ⟨_, r_isStep (d := 18) x v, ?_⟩
  rintro _ k ⟨rfl, rfl⟩
  refine ⟨fun z => ?_, fun z => ?_⟩
  · have z := of_decide_eq_false (bI_0.mp z)
    exact ⟨by unfold pu_sign; rw [if_neg z], x⟩
  · have z := of_decide_eq_true (bI_n0.mp z)
    obtain ⟨j, hj, rfl⟩ := in_n (by omega) z
    refine ⟨vp_in_nI (by omega) (by decide), ?_, x⟩
    unfold pu_sign
    rw [if_pos z, nI_clamp (by omega)]
    exact x.tx.2 j hj
theorem r_put {l w e : Int32} (x : MRel h X) : OkI 20 mX12_put SM [.ref 1, .int l, .int w, .int e] h (fun y k => y = (pu_put X l w e).1 ∧ MRel k (pu_put X l w e).2) := by
  refine NX12_put_0 (d := 19) ⟨_, s_in32 (lo := 0) (hi := 4) rfl rfl, ?_⟩
  rintro _ k ⟨rfl, rfl⟩
  refine ⟨fun z => ?_, fun z => ?_⟩
  · have z := of_decide_eq_false (bI_0.mp z)
    have q : ¬ (¬ l < 0 ∧ l < 5) := by
      intro q
      refine z ⟨Int32.not_lt.mp q.1, ?_⟩
      have := q.2
      rw [Int32.lt_iff_toInt_lt] at this
      rw [Int32.le_iff_toInt_le]
      simp at this ⊢
      omega
    rw [show pu_put X l w e = (-2, X) by unfold pu_put; rw [if_neg q]]; exact ⟨rfl, x⟩
  · have z := of_decide_eq_true (bI_n0.mp z)
    obtain ⟨j, hj, rfl⟩ := nI_of2 (M := 4) (n := 4) rfl (Int32.not_lt.mpr z.1) z.2
    have zl : ¬ nI j < 0 ∧ nI j < 5 := ⟨nI_pos (by omega), nI_lt (a := j) (b := 5) (by omega) (by decide)⟩
    refine ⟨_, s_isEnd, ?_⟩
    rintro _ k ⟨rfl, rfl⟩
    refine ⟨fun y => ?_, fun y => ⟨fun y1 => ?_, fun y1 => ?_⟩⟩
    · have y := of_decide_eq_false (bI_0.mp y)
      rw [show pu_put X (nI j) w e = (-2, X) by unfold pu_put; rw [if_pos zl, if_neg (fun q => y (by rw [q.1]; decide)), if_neg (fun q => y (by rw [q.1]; decide))]]
      exact ⟨rfl, x⟩
    · have y := of_decide_eq_true (bI_n0.mp y)
      obtain ⟨q, hq, rfl⟩ := nI_of2 (M := 1) (n := 1) rfl (Int32.not_lt.mpr y.1) y.2
      have e1 : nI q = 1 := by
        rcases (show q = 0 ∨ q = 1 by omega) with rfl | rfl
        · exact absurd rfl y1
        · rfl
      refine NX12_put_45 (d := 19) hM hM5 hM4 ⟨_, s_in32 (lo := 0) (hi := 5) rfl rfl, ?_⟩
      rintro _ k ⟨rfl, rfl⟩
      refine ⟨fun u => ⟨fun u1 => ⟨vp_in_nI (by omega) (by decide), ?_⟩, fun u1 => absurd u1 y1⟩, fun u => ?_⟩
      · have u := of_decide_eq_true (bI_n0.mp u)
        rw [nI_clamp (by omega)]
        intro g1 e2
        rw [show pu_put X (nI j) (nI q) e = (pSp X.2.1 j, X.1, wSp X.2.1 (upd (pSp X.2.1) j e), X.2.2) by unfold pu_put; rw [if_pos zl, if_neg (fun q => y1 q.1), if_pos ⟨e1, Int32.not_lt.mpr u.1, Int32.not_lt.mpr u.2⟩, nI_clamp (by omega)]]
        obtain ⟨⟨t1, t2⟩, ⟨d1, d2⟩, n1, c1, c2⟩ := id x.2.1
        refine ⟨(n1 j (by omega)).2, x.pg (by rw [e2]; exact mF.rf.ai (by decide)) ⟨⟨by rw [e2]; exact t1, fun i hi => ?_⟩, ⟨by rw [e2]; exact d1, by rw [e2]; exact d2⟩, fun i hi => ⟨?_, ?_⟩, by rw [e2]; exact c1, fun i hi => by rw [e2]; exact c2 i hi⟩⟩
        · rw [e2, u_ai_n _ _ (by decide)]; exact t2 i hi
        · rw [e2, u_ai_n _ _ (by decide)]; exact (n1 i hi).1
        · rw [e2, u_ai_s]
          by_cases c : i = j
          · subst c; rw [upd_s]; exact (upd_s _ _ _).symm
          · rw [upd_n _ _ c]; exact ((n1 i hi).2).trans (upd_n _ _ c).symm
      · have u := of_decide_eq_false (bI_0.mp u)
        rw [show pu_put X (nI j) (nI q) e = (-2, X) by unfold pu_put; rw [if_pos zl, if_neg (fun q => y1 q.1), if_neg (fun q => u ⟨Int32.not_lt.mp q.2.1, Int32.not_lt.mp q.2.2⟩)]]
        exact ⟨rfl, x⟩
    · refine NX12_put_45 (d := 19) hM hM5 hM4 ⟨_, s_in32 (lo := -99) (hi := 99) rfl rfl, ?_⟩
      rintro _ k ⟨rfl, rfl⟩
      refine ⟨fun u => ⟨fun u1 => absurd y1 u1, fun u1 => ⟨vp_in_nI (by omega) (by decide), ?_⟩⟩, fun u => ?_⟩
      · have u := of_decide_eq_true (bI_n0.mp u)
        rw [nI_clamp (by omega)]
        intro g1 e2
        rw [show pu_put X (nI j) w e = (pNu X.2.1 j + 100, X.1, wNu X.2.1 (upd (pNu X.2.1) j e), X.2.2) by unfold pu_put; rw [if_pos zl, if_pos ⟨y1, Int32.not_lt.mpr u.1, Int32.not_lt.mpr u.2⟩, nI_clamp (by omega)]]
        obtain ⟨⟨t1, t2⟩, ⟨d1, d2⟩, n1, c1, c2⟩ := id x.2.1
        refine ⟨by rw [(n1 j (by omega)).1], x.pg (by rw [e2]; exact mF.rf.ai (by decide)) ⟨⟨by rw [e2]; exact t1, fun i hi => ?_⟩, ⟨by rw [e2]; exact d1, by rw [e2]; exact d2⟩, fun i hi => ⟨?_, ?_⟩, by rw [e2]; exact c1, fun i hi => by rw [e2]; exact c2 i hi⟩⟩
        · rw [e2, u_ai_n _ _ (by decide)]; exact t2 i hi
        · rw [e2, u_ai_s]
          by_cases c : i = j
          · subst c; rw [upd_s]; exact (upd_s _ _ _).symm
          · rw [upd_n _ _ c]; exact ((n1 i hi).1).trans (upd_n _ _ c).symm
        · rw [e2, u_ai_n _ _ (by decide)]; exact (n1 i hi).2
      · have u := of_decide_eq_false (bI_0.mp u)
        rw [show pu_put X (nI j) w e = (-2, X) by unfold pu_put; rw [if_pos zl, if_neg (fun q => u ⟨Int32.not_lt.mp q.2.1, Int32.not_lt.mp q.2.2⟩), if_neg (fun q => by rw [y1] at q; exact absurd q.1 (by decide))]]
        exact ⟨rfl, x⟩
abbrev XNow (h : fH) (X : stP) : Prop := MNow h (rw' (pT X.2.1)) (pT X.2.1).length
theorem r_lay {d : Nat} (x : MRel h X) (v : StV X) : OkV d mX12_layText SM [.ref 1] h (fun k => XNow k X ∧ MRel k X ∧ mF ([14], [], [6], []) h k) :=
  OkV.post (s_layT v.t13 x.tx) (fun k q => ⟨q.1, x.of q.2 (by decide), q.2⟩)
theorem r_work {d : Nat} (x : MRel h X) (v : StV X) (N : XNow h X) : OkV (d + 4) mX12_work SM [.ref 1] h (fun k => (∀ i, i < (pT X.2.1).length → k.2.2.2 8 i = pwk X i ∧ k.2.2.2 9 i = psl X i) ∧ mF fWk h k) := by
  refine OkV.post (s_mwork (d := d) (D := pD X.2.1) (W := pW X.2.1) N v.2.1.1 x.hD v.2.1.2.2.2.2.1 v.2.1.2.2.2.2.2.1 x.hW v.2.1.2.2.2.2.2.2 rfl (x.nmB v)) ?_
  rintro k ⟨r1, f1⟩
  have e : ∀ j, j < 5 → mNum h j = pNu X.2.1 j := fun j hj => x.nu hj
  exact ⟨fun i hi => ⟨by rw [(r1 i hi).1, wkF_c e], by rw [(r1 i hi).2, slF_c e]⟩, f1⟩
theorem r_workExact {d : Nat} (x : MRel h X) (v : StV X) (N : XNow h X) : OkV (d + 3) mX12_workExact SM [.ref 1] h (fun k => (∀ i, i < (pT X.2.1).length → k.2.2.2 10 i = Int64.ofInt (nzF (pfr X i).1 (pfr X i).2).1 ∧ k.2.2.2 11 i = Int64.ofInt (nzF (pfr X i).1 (pfr X i).2).2) ∧ mF fEx h k) := by
  refine OkV.post (s_workExact (d := d) N v.2.1.1 rfl (x.nmB v)) ?_
  rintro k ⟨r1, f1⟩
  have e : ∀ j, j < 5 → mNum h j = pNu X.2.1 j := fun j hj => x.nu hj
  refine ⟨fun i hi => ?_, f1⟩
  have := r1 i hi
  unfold frR at this
  rw [frC_c e] at this
  exact this
theorem r_worked {s w : Int32} (x : MRel h X) (v : StV X) : OkL 20 mX12_worked SM [.ref 1, .int s, .int w] h (fun y k => y = pu_worked X s w ∧ MRel k X) := by
  have h13 := v.t13
  refine NX12_worked_0 (d := 19) hM hM9 hM8 ⟨_, r_isStep (d := 18) x v, ?_⟩
  rintro _ k ⟨rfl, rfl⟩
  refine ⟨fun z => ?_, fun z => ?_⟩
  · have z := of_decide_eq_true (bI_n0.mp z)
    obtain ⟨j, hj, rfl⟩ := in_n (by omega) z
    refine ⟨_, s_in32 (lo := 0) (hi := 2) rfl rfl, ?_⟩
    rintro _ k ⟨rfl, rfl⟩
    refine ⟨fun y => ?_, fun y => ?_⟩
    · have y := of_decide_eq_true (bI_n0.mp y)
      have yw : ¬ w < 0 ∧ w ≤ 2 := ⟨Int32.not_lt.mpr y.1, y.2⟩
      refine ⟨_, r_lay x v, ?_⟩
      rintro k1 ⟨N1, x1, -⟩
      refine ⟨fun y3 => ?_, fun y3 => ?_⟩
      · refine ⟨_, r_work (d := 15) x1 v N1, ?_⟩
        rintro k2 ⟨r2, f2⟩
        have x2 := x1.of f2 (by decide)
        refine ⟨fun y4 => ⟨vp_in_nI (by omega) (by decide), ?_, x2⟩, fun y4 => ⟨vp_in_nI (by omega) (by decide), ?_, x2⟩⟩
        · rw [nI_clamp (by omega), (r2 j hj).2]
          unfold pu_worked
          rw [if_pos z, if_pos yw, if_neg y3, if_neg y4, nI_clamp (by omega)]
        · rw [nI_clamp (by omega), (r2 j hj).1]
          unfold pu_worked
          rw [if_pos z, if_pos yw, if_neg y3, if_pos y4, nI_clamp (by omega)]
      · refine ⟨_, r_workExact (d := 16) x1 v N1, ?_⟩
        rintro k2 ⟨r2, f2⟩
        have x2 := x1.of f2 (by decide)
        obtain ⟨b1, b2, b3⟩ := frR_small v.2.1.1 v.2.1.2.1.b hj
        refine ⟨_, s_mbillionths (d := 18) (e := -1) (by omega) (r2 j hj).1 (r2 j hj).2 b1 b2 b3 (by decide) (by decide), ?_⟩
        rintro _ k2 ⟨rfl, rfl⟩
        refine ⟨?_, x2⟩
        unfold pu_worked
        rw [if_pos z, if_pos yw, if_pos y3, nI_clamp (by omega), biF_nz (frC_small v.2.1.1 v.2.1.2.1.b hj).2.2]
    · have y := of_decide_eq_false (bI_0.mp y)
      exact ⟨by unfold pu_worked; rw [if_pos z, if_neg (fun q => y ⟨Int32.not_lt.mp q.1, q.2⟩)]; rfl, x⟩
  · have z := of_decide_eq_false (bI_0.mp z)
    exact ⟨by unfold pu_worked; rw [if_neg z]; rfl, x⟩
theorem isEnd_iff {p : Int32} : (0 ≤ p ∧ p ≤ 1) ↔ (¬ p < 0 ∧ p ≤ 1) := ⟨fun q => ⟨Int32.not_lt.mpr q.1, q.2⟩, fun q => ⟨Int32.not_lt.mp q.1, q.2⟩⟩
theorem r_exact {p : Int32} (x : MRel h X) (v : StV X) : OkL 20 mX12_exact SM [.ref 1, .int p] h (fun y k => y = pu_exact X p ∧ MRel k X) := by
  have h0 := v.t1
  refine NX12_exact_0 (d := 19) hM hM11 hM10 ⟨_, s_isEnd, ?_⟩
  rintro _ k ⟨rfl, rfl⟩
  refine ⟨fun z => ?_, fun z => ?_⟩
  · have z := isEnd_iff.mp (of_decide_eq_true (bI_n0.mp z))
    refine ⟨_, r_lay x v, ?_⟩
    rintro k1 ⟨N1, x1, -⟩
    refine ⟨_, r_workExact (d := 16) x1 v N1, ?_⟩
    rintro k2 ⟨r2, f2⟩
    have x2 := x1.of f2 (by decide)
    obtain ⟨b1, b2, b3⟩ := frC_small v.2.1.1 v.2.1.2.1.b (i := 0) (by omega)
    obtain ⟨c1, c2, c3⟩ := frR_small v.2.1.1 v.2.1.2.1.b (i := 0) (by omega)
    have e : pu_exact X p = (if (pfr X 0).2 = 0 then 1000000000000000000 else if p = 0 then Int64.ofInt (nzF (pfr X 0).1 (pfr X 0).2).1 else Int64.ofInt (nzF (pfr X 0).1 (pfr X 0).2).2) := by unfold pu_exact; rw [if_pos z]
    rw [e]
    refine ⟨vp_in_nI (n := 0) (by decide) (by decide), ?_⟩
    rw [show (0 : Int32).toNatClampNeg = 0 from rfl, (r2 0 (by omega)).1, (r2 0 (by omega)).2]
    have iz : Int64.ofInt (nzF (pfr X 0).1 (pfr X 0).2).2 = 0 ↔ (pfr X 0).2 = 0 := by
      rw [lO_0 (by unfold frR at c2; exact Nat.lt_of_le_of_lt c2 (by decide))]
      constructor
      · intro q
        rcases (show (pfr X 0).2 = 0 ∨ 0 < (pfr X 0).2 by have : 0 ≤ (pfr X 0).2 := b3; omega) with w | w
        · exact w
        · have := (nzF_times (U := (pfr X 0).1) w).2.2.2
          omega
      · intro q
        rw [q, nzF_0]
    refine ⟨fun q => ⟨fun q1 => ⟨?_, x2⟩, fun q1 => ⟨?_, x2⟩⟩, fun q => ⟨?_, x2⟩⟩
    · rw [if_neg (fun w => q (iz.mpr w)), if_neg q1]
    · rw [if_neg (fun w => q (iz.mpr w)), if_pos q1]
    · rw [if_pos (iz.mp q)]
  · have z := of_decide_eq_false (bI_0.mp z)
    exact ⟨by unfold pu_exact; rw [if_neg (fun q => z (isEnd_iff.mpr q))]; rfl, x⟩
theorem r_lossAt {d D : Nat} (e : ∀ j, j < 5 → mNum h j = pNu X.2.1 j) (v : StV X) (N : XNow h X) (hD : h.1 1 0 = nI D) (hD1 : 1 ≤ D) (hD4 : D ≤ 4) (hW : h.1 1 1 = nI (pW X.2.1)) : OkL (d + 5) mX12_lossNow SM [.ref 1] h (fun y k => y = loF D (pW X.2.1) (pNu X.2.1) (rw' (pT X.2.1)) (pT X.2.1).length ∧ mF fLo h k) := by
  refine OkL.post (s_lossNow (d := d) (D := D) (W := pW X.2.1) N v.2.1.1 hD hD1 hD4 hW v.2.1.2.2.2.2.2.2 rfl (fun j hj => by rw [e j hj]; exact v.2.1.2.1.b j hj)) ?_
  rintro y k ⟨q, f1⟩
  exact ⟨by rw [q, loF_c e], f1⟩
theorem r_loss (x : MRel h X) (v : StV X) : OkL 20 mX12_loss SM [.ref 1] h (fun y k => y = pu_loss X ∧ MRel k X) := by
  refine NX12_loss_0 (d := 19) hM ⟨_, r_lay x v, ?_⟩
  rintro k1 ⟨N1, x1, -⟩
  refine ⟨_, r_lossAt (d := 14) (fun j hj => x1.nu hj) v N1 x1.hD v.2.1.2.2.2.2.1 v.2.1.2.2.2.2.2.1 x1.hW, ?_⟩
  rintro _ k2 ⟨rfl, f2⟩
  exact ⟨rfl, x1.of f2 (by decide)⟩
theorem r_worst (x : MRel h X) (v : StV X) : OkI 20 mX12_worst SM [.ref 1] h (fun y k => y = pu_worst X ∧ MRel k X) := by
  have h0 := v.t1
  have h13 := v.t13
  refine NX12_worst_0 (d := 19) hM hM8 ⟨_, r_lay x v, ?_⟩
  rintro k1 ⟨N1, x1, -⟩
  refine ⟨_, r_work (d := 15) x1 v N1, ?_⟩
  rintro k ⟨r1, f2⟩
  have x2 := x1.of f2 (by decide)
  have N2 : XNow k X := N1.of f2 (by decide) (by decide)
  refine ⟨vp_in_nI (n := 0) (by decide) (by decide), ?_⟩
  rw [show (0 : Int32).toNatClampNeg = 0 from rfl, (r1 0 (by omega)).1]
  refine ⟨fun z => ?_, fun z => ⟨by unfold pu_worst; rw [if_pos z], x2⟩⟩
  have key : ∀ (m i : Nat) (b : Int32) (mo : Int64), m + i = (pT X.2.1).length → wsF (psl X) m i b mo = pu_worst X → G mX12_worst 20 SM (f_PI (fun y k => y = pu_worst X ∧ MRel k X)) 32 [(0, .ref 1), (1, .int b), (2, .long mo), (4, .int (nI i))] [] k := by
    intro m
    induction m with
    | zero =>
      intro i b mo hm hw
      exact NX12_worst_32 (d := 19) hM hM9 ⟨fun _ => ⟨hw, x2⟩, fun q => absurd (by rw [N2.1]; exact nI_le (by omega) (by omega)) q⟩
    | succ m ih =>
      intro i b mo hm hw
      refine NX12_worst_32 (d := 19) hM hM9 ⟨fun q => absurd q (by rw [N2.1]; exact nI_ge (by omega) (by omega)), fun _ => ⟨vp_in_nI (by omega) (by decide), ?_⟩⟩
      rw [nI_clamp (by omega), (r1 i (by omega)).2, nI1]
      refine ⟨_, s_size, ?_⟩
      rintro _ k ⟨rfl, rfl⟩
      unfold wsF at hw
      refine ⟨fun q => ?_, fun q => ?_⟩
      · rw [if_pos q] at hw
        exact ih (i + 1) b mo (by omega) hw
      · rw [if_neg q] at hw
        rw [(r1 i (by omega)).2]
        refine ⟨_, s_size, ?_⟩
        rintro _ k ⟨rfl, rfl⟩
        exact ih (i + 1) (nI i) _ (by omega) hw
  exact key (pT X.2.1).length 0 (-6) 0 (by omega) (by unfold pu_worst; rw [if_neg z])
abbrev fNe : fL := ([0, 2, 3, 4, 5, 6, 14], [2, 3, 4, 5, 6], [6, 7], [8, 9, 10, 11])
theorem r_needs {tr : Int64} (x : MRel h X) (v : StV X) : OkI 20 mX12_needs SM [.ref 1, .long tr] h (fun y k => y = pu_needs X tr ∧ MRel k X) := by
  refine NX12_needs_0 (d := 19) hM ⟨fun z => ?_, fun z => ⟨by unfold pu_needs; rw [if_neg z], x⟩⟩
  refine ⟨_, r_lay x v, ?_⟩
  rintro k1 ⟨N1, x1, f1⟩
  rw [x.hD]
  -- the end: the digits are as they were
  have fin : ∀ g : fH, mF fNe h g → MRel (u_fi g 1 0 (nI (pD X.2.1))) X := by
    intro g fg
    refine x.of (p := ([2, 3, 4, 5, 6, 14], [2, 3, 4, 5, 6], [6, 7], [8, 9, 10, 11])) ⟨fun j hj => ?_, fg.2.1, fg.2.2.1, fg.2.2.2⟩ (by decide)
    by_cases c : j = 0
    · subst c; rw [u_fi_s, x.hD]
    · rw [u_fi_n _ _ c]
      refine fg.1 j ?_
      simp only [List.mem_cons, List.not_mem_nil, or_false] at hj ⊢
      omega
  have done : ∀ (g : fH) (j : Nat) (q : Int32), j < 10 → mF fNe h g → nI j = pu_needs X tr → G mX12_needs 20 SM (f_PI (fun y k => y = pu_needs X tr ∧ MRel k X)) 25 [(0, .ref 1), (1, .long tr), (3, .int (nI (pD X.2.1))), (4, .int (nI j)), (5, .int q)] [] g := by
    intro g j q hj fg e
    refine NX12_needs_25 (d := 19) hM ⟨fun _ => ?_, fun _ => ⟨fun _ => ?_, fun w => absurd (nI_pos' (by omega)) w⟩⟩
    · rintro g1 rfl
      exact ⟨e, fin g fg⟩
    · rintro g1 rfl
      exact ⟨e, fin g fg⟩
  have key : ∀ (m j : Nat) (g : fH), m + j = 5 → 1 ≤ j → mF fNe h g → XNow g X → ndF (fun k => loF k (pW X.2.1) (pNu X.2.1) (rw' (pT X.2.1)) (pT X.2.1).length) tr m j = pu_needs X tr → G mX12_needs 20 SM (f_PI (fun y k => y = pu_needs X tr ∧ MRel k X)) 25 [(0, .ref 1), (1, .long tr), (3, .int (nI (pD X.2.1))), (4, .int (-6)), (5, .int (nI j))] [] g := by
    intro m
    induction m with
    | zero =>
      intro j g hm hj fg Ng hw
      have e : j = 5 := by omega
      subst e
      refine NX12_needs_25 (d := 19) hM ⟨fun _ => ?_, fun q => absurd (by decide) q⟩
      rintro g1 rfl
      exact ⟨hw, fin g fg⟩
    | succ m ih =>
      intro j g hm hj fg Ng hw
      refine NX12_needs_25 (d := 19) hM ⟨fun q => absurd q (nI_nlt (a := 4) (b := j) (by omega) (by decide)), fun _ => ⟨fun q => absurd q (by decide), fun _ => ?_⟩⟩
      intro g3 e3
      have f3 : mF fNe h g3 := by rw [e3]; exact fg.fi (by decide)
      have m3 : ∀ q, q < 5 → mNum g3 q = pNu X.2.1 q := fun q hq => by rw [mNum_of f3 (by decide) (by decide)]; exact x.nu hq
      have N3 : XNow g3 X := by
        refine ⟨?_, fun i hi => ?_⟩
        · rw [e3, u_fi_n _ _ (by decide)]; exact Ng.1
        · rw [e3, u_fi_2]; exact Ng.2 i hi
      refine ⟨_, r_lossAt (d := 14) (D := j) m3 v N3 (by rw [e3, u_fi_s]) hj (by omega) (by rw [f3.1 1 (by decide)]; exact x.hW), ?_⟩
      rintro _ g4 ⟨rfl, f4⟩
      have f5 := f3.go f4 (by decide)
      have N5 : XNow g4 X := N3.of f4 (by decide) (by decide)
      rw [nI1]
      unfold ndF at hw
      refine ⟨fun q => ?_, fun q => ?_⟩
      · rw [if_pos q] at hw
        exact ih (j + 1) g4 (by omega) (by omega) f5 N5 hw
      · rw [if_neg q] at hw
        refine ⟨_, s_size, ?_⟩
        rintro _ g4 ⟨rfl, rfl⟩
        refine ⟨fun q2 => ?_, fun q2 => ?_⟩
        · rw [if_pos q2] at hw
          exact ih (j + 1) g4 (by omega) (by omega) f5 N5 hw
        · rw [if_neg q2] at hw
          exact done g4 j _ (by omega) f5 hw
  exact key 4 1 k1 rfl (by decide) (f1.mono (by decide)) N1 (by unfold pu_needs; rw [if_pos z])
end MFACE2

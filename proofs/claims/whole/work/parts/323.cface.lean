/-! ===== the class's face: settings, rounding, the pad, the text ===== -/
section CFACE1
variable {h : fH} {X : stP}
theorem CRel.tx (x : CRel h X) : TxOk h 3 4 5 6 (rw' (pT X.2.1)) (pT X.2.1).length := x.1.2.1.1
theorem CRel.hn (x : CRel h X) : h.1 2 4 = nI (pN X.2.1) := x.1.2.1.2.2.2.2.1
theorem CRel.hD (x : CRel h X) : h.1 2 5 = nI (pD X.2.1) := x.1.2.1.2.2.2.2.2.1
theorem CRel.hW (x : CRel h X) : h.1 2 6 = nI (pW X.2.1) := x.1.2.1.2.2.2.2.2.2
theorem CRel.ln (x : CRel h X) : h.1 3 3 = nI (pT X.2.1).length := x.1.2.1.1.1
theorem StV.t13 (v : StV X) : (pT X.2.1).length ≤ 13 := v.2.1.1.2.1
theorem StV.t1 (v : StV X) : 1 ≤ (pT X.2.1).length := v.2.1.1.pos
theorem StV.n7 (v : StV X) : pN X.2.1 ≤ 7 := v.2.1.2.2.2.1.1
theorem CCo.f5 (x : CCo h X) (e : Nat) : CCo (u_fi h 2 5 (nI e)) (X.1, wD X.2.1 e, X.2.2) := by
  have o : fOff [2] h (u_fi h 2 5 (nI e)) := fOff.rf.of (f_off_fi _ _ _ _) (by simp)
  obtain ⟨y1, y2, y3, y4, y5, y6, y7⟩ := id x.2.1
  exact x.pg (o.mono (by simp)) ⟨y1.off o (by decide) (by decide) (by decide) (by decide), y2, y3, y4, by rw [u_fi_n _ _ (by decide)]; exact y5, u_fi_s _ _ _ _, by rw [u_fi_n _ _ (by decide)]; exact y7⟩ x.2.2.2.2.1
theorem CCo.f6 (x : CCo h X) (e : Nat) : CCo (u_fi h 2 6 (nI e)) (X.1, wW X.2.1 e, X.2.2) := by
  have o : fOff [2] h (u_fi h 2 6 (nI e)) := fOff.rf.of (f_off_fi _ _ _ _) (by simp)
  obtain ⟨y1, y2, y3, y4, y5, y6, y7⟩ := id x.2.1
  exact x.pg (o.mono (by simp)) ⟨y1.off o (by decide) (by decide) (by decide) (by decide), y2, y3, y4, by rw [u_fi_n _ _ (by decide)]; exact y5, by rw [u_fi_n _ _ (by decide)]; exact y6, u_fi_s _ _ _ _⟩ x.2.2.2.2.1
theorem c_set {a b : Int32} (x : CRel h X) : OkI 20 mX11_set SC [.ref 1, .int a, .int b] h (fun y k => y = (pu_set X a b).1 ∧ CRel k (pu_set X a b).2) := by
  have y6 := x.1.2.1.2.2.2.2.2.1
  have y7 := x.1.2.1.2.2.2.2.2.2
  have g36 : ¬ (a = 0 ∧ ¬ b < 1 ∧ ¬ 4 < b) → G mX11_set 20 SC (f_PI (fun y k => y = (pu_set X a b).1 ∧ CRel k (pu_set X a b).2)) 36 [(0, .ref 1), (1, .int a), (2, .int b)] [] h := by
    intro q
    refine NX11_set_36 (d := 19) hC1 hC2 ⟨fun z => ?_, fun z => ⟨fun z1 => ?_, fun z1 => ⟨fun z2 => ?_, fun z2 => ?_⟩⟩⟩
    · rw [show pu_set X a b = (-2, X) by unfold pu_set; rw [if_neg q, if_neg (fun w => z w.1)]]; exact ⟨rfl, x⟩
    · rw [show pu_set X a b = (-2, X) by unfold pu_set; rw [if_neg q, if_neg (fun w => w.2.1 z1)]]; exact ⟨rfl, x⟩
    · rw [show pu_set X a b = (-2, X) by unfold pu_set; rw [if_neg q, if_neg (fun w => w.2.2 z2)]]; exact ⟨rfl, x⟩
    · intro g1 e1
      refine ⟨_, s_forget, ?_⟩
      intro k fg
      obtain ⟨j, hj, rfl⟩ := nI_of2 (M := 3) (n := 3) rfl z1 (Int32.not_lt.mp z2)
      rw [show pu_set X a (nI j) = (nI (pW X.2.1), X.1, wW X.2.1 j, X.2.2) by unfold pu_set; rw [if_neg q, if_pos ⟨z, z1, z2⟩, nI_clamp (by omega)]]
      rw [e1] at fg
      exact ⟨y7, CRel.fg (x.1.f6 j) (x.2.1.off (fOff.rf.of (f_off_fi _ _ _ _) (by simp) : fOff [2] h _) (by decide)) fg⟩
  refine NX11_set_0 (d := 19) hC1 hC2 ⟨fun z => g36 (fun q => z q.1), fun z => ⟨fun z1 => g36 (fun q => q.2.1 z1), fun z1 => ⟨fun z2 => g36 (fun q => q.2.2 z2), fun z2 => ?_⟩⟩⟩
  intro g1 e1
  refine ⟨_, s_forget, ?_⟩
  intro k fg
  obtain ⟨j, hj, rfl⟩ := nI_of2 (x := b) (M := 4) (n := 4) rfl (fun w => z1 (Int32.lt_trans w (by decide))) (Int32.not_lt.mp z2)
  rw [show pu_set X a (nI j) = (nI (pD X.2.1), X.1, wD X.2.1 j, X.2.2) by unfold pu_set; rw [if_pos ⟨z, z1, z2⟩, nI_clamp (by omega)]]
  rw [e1] at fg
  exact ⟨y6, CRel.fg (x.1.f5 j) (x.2.1.off (fOff.rf.of (f_off_fi _ _ _ _) (by simp) : fOff [2] h _) (by decide)) fg⟩
theorem fOff_hold (h : fH) (r : Nat) (u l : Int64) (t : Int32) : fOff [r] h (holdH h r u l t) := fOff.rf.hold (by simp)
theorem i64_abs {a : Int32} : a.toInt64.toInt = a.toInt := Int32.toInt_toInt64 a
theorem c_round {a b c : Int32} (x : CRel h X) (v : StV X) : OkL 20 mX11_round SC [.ref 1, .int a, .int b, .int c] h (fun y k => y = pu_round X a b c ∧ CRel k X) := by
  have bad : ¬ (¬ a < -1000000 ∧ ¬ 1000000 < a ∧ ¬ b < 1 ∧ ¬ 1000000 < b ∧ ¬ c < -9 ∧ c ≤ 9) → (-1000000000000000002 : Int64) = pu_round X a b c ∧ CRel h X := fun q => ⟨by unfold pu_round; rw [if_neg q]; rfl, x⟩
  refine NX11_round_0 (d := 19) hC1 hC27 hC2 hC28 ⟨fun z => bad (fun q => q.1 z), fun z1 => ⟨fun z => bad (fun q => q.2.1 z), fun z2 => ⟨fun z => bad (fun q => q.2.2.1 z), fun z3 => ⟨fun z => bad (fun q => q.2.2.2.1 z), fun z4 => ⟨fun z => bad (fun q => q.2.2.2.2.1 z), fun z5 => ⟨fun z6 => ?_, fun z => bad (fun q => z q.2.2.2.2.2)⟩⟩⟩⟩⟩⟩
  refine ⟨_, s_hold hC27, ?_⟩
  rintro _ rfl
  refine ⟨_, s_turn hC28, ?_⟩
  rintro _ rfl
  have x1 := x.off (fOff_hold h 27 a.toInt64 b.toInt64 (c + 9)) (by decide) (by decide) (by decide)
  have x2 := x1.tu 28 ((holdH h 27 a.toInt64 b.toInt64 (c + 9)).1 2 5) ((holdH h 27 a.toInt64 b.toInt64 (c + 9)).1 2 6) (by decide) (by decide)
  have a1 : -1000000 ≤ a.toInt := by have := Int32.not_lt.mp z1; rw [Int32.le_iff_toInt_le] at this; simpa using this
  have a2 : a.toInt ≤ 1000000 := by have := Int32.not_lt.mp z2; rw [Int32.le_iff_toInt_le] at this; simpa using this
  have b1 : 1 ≤ b.toInt := by have := Int32.not_lt.mp z3; rw [Int32.le_iff_toInt_le] at this; simpa using this
  have b2 : b.toInt ≤ 1000000 := by have := Int32.not_lt.mp z4; rw [Int32.le_iff_toInt_le] at this; simpa using this
  have c1 : -9 ≤ c.toInt := by have := Int32.not_lt.mp z5; rw [Int32.le_iff_toInt_le] at this; simpa using this
  have c2 : c.toInt ≤ 9 := by rw [Int32.le_iff_toInt_le] at z6; simpa using z6
  have eu : (u_fi (u_fi (holdH h 27 a.toInt64 b.toInt64 (c + 9)) 28 0 ((holdH h 27 a.toInt64 b.toInt64 (c + 9)).1 2 5)) 28 1 ((holdH h 27 a.toInt64 b.toInt64 (c + 9)).1 2 6)).2.1 27 0 = a.toInt64 := holdH_u h 27 a.toInt64 b.toInt64 (c + 9)
  refine ⟨_, s_of (D := pD X.2.1) (W := pW X.2.1) (tiny := false) (d0 := b.toInt.toNat) (t := c.toInt + 9) hC28 hC27 ?_ v.2.1.2.2.2.2.1 v.2.1.2.2.2.2.2.1 ?_ v.2.1.2.2.2.2.2.2 x2.2.1.1.1 ?_ ?_ ?_ ?_ ?_ ?_ ?_, ?_⟩
  · rw [u_fi_n _ _ (by decide), u_fi_s]; exact x1.1.2.1.2.2.2.2.2.1
  · rw [u_fi_s]; exact x1.1.2.1.2.2.2.2.2.2
  · rw [eu, i64_abs]; omega
  · omega
  · omega
  · show (holdH h 27 a.toInt64 b.toInt64 (c + 9)).2.1 27 1 = _
    rw [holdH_l, ← lN_ofInt, show ((b.toInt.toNat : Nat) : Int) = b.toInt by omega]
    rw [← Int64.toInt_inj, i64_abs, Int64.toInt_ofInt_of_le (by omega) (by omega)]
  · rw [u_fi_o _ _ _ (by decide), u_fi_o _ _ _ (by decide), holdH_t, ← Int32.toInt_inj, iO_toInt (by omega) (by omega), i_add_toInt (by simp; omega) (by simp; omega)]
    rfl
  · omega
  · omega
  rintro _ _ ⟨rfl, rfl⟩
  refine ⟨?_, x2⟩
  rw [eu, i64_abs]
  unfold pu_round
  rw [if_pos ⟨z1, z2, z3, z4, z5, z6⟩]
theorem c_say {s : Int32} (x : CRel h X) (v : StV X) : OkI 20 mX11_say SC [.ref 1, .int s] h (fun y k => y = (pu_say X s).1 ∧ CRel k (pu_say X s).2) := by
  have hp := x.1.1.1
  have hl := v.1
  refine NX11_say_0 (d := 20) hC1 hC26 ⟨fun z => ?_, fun z => ⟨fun z1 => ⟨fun z2 => ?_, fun z2 => ?_⟩, fun z1 => ?_⟩⟩
  · rw [show pu_say X s = (-2, X) by unfold pu_say; rw [if_neg (fun q => q.1 z)]]; exact ⟨rfl, x⟩
  · rw [hp] at z2 ⊢
    have hn : X.1.length < 20 := (nI_ltI (a := X.1.length) (b := 20) (by omega) (by decide)).mp z2
    refine ⟨vp_in_nI hn (by decide), ?_⟩
    rw [nI_clamp (by omega)]
    intro g1 e1 g2 e2
    have e3 : g2.1 1 4 = nI (X.1.length + 1) := by rw [e2, u_fi_s, e1, u_ai_1, hp, nI1]
    have o : fOff [1, 26] h g2 := by rw [e2, e1]; exact (fOff.rf.of (f_off_ai _ _ _) (by simp)).of (f_off_fi _ _ _ _) (by simp)
    rw [show pu_say X s = (nI (X.1.length + 1), X.1 ++ [s], X.2) by unfold pu_say; rw [if_pos ⟨z, z1⟩, if_pos hn]]
    refine ⟨e3, x.1.pad o (by rw [e3]; simp) (fun i hi => ?_), x.2.1.off o (by decide), x.2.2.off o (by decide)⟩
    rw [e2, u_fi_2, e1, u_ai_s]
    simp only [List.length_append, List.length_cons, List.length_nil] at hi
    by_cases c : i = X.1.length
    · subst c; rw [upd_s, rw_app_r]
    · rw [upd_n _ _ c, rw_app_l (by omega)]; exact x.1.1.2 i (by omega)
  · rw [hp] at z2
    have hn : ¬ X.1.length < 20 := fun q => z2 (nI_lt (a := X.1.length) (b := 20) q (by decide))
    rw [show pu_say X s = (-4, X) by unfold pu_say; rw [if_pos ⟨z, z1⟩, if_neg hn]]; exact ⟨rfl, x⟩
  · rw [show pu_say X s = (-2, X) by unfold pu_say; rw [if_neg (fun q => z1 q.2)]]; exact ⟨rfl, x⟩
theorem c_wipe (x : CRel h X) : OkI 20 mX11_wipe SC [.ref 1] h (fun y k => y = (pu_wipe X).1 ∧ CRel k (pu_wipe X).2) := by
  refine NX11_wipe_0 (d := 20) hC1 ?_
  intro g1 e1
  have o : fOff [1, 26] h g1 := by rw [e1]; exact fOff.rf.of (f_off_fi _ _ _ _) (by simp)
  exact ⟨x.1.1.1, x.1.pad o (by rw [e1, u_fi_s]; rfl) (fun i hi => by simp at hi), x.2.1.off o (by decide), x.2.2.off o (by decide)⟩
theorem c_fault {d : Nat} (x : CRel h X) (v : StV X) : OkI (d + 1) mX11_fault SC [.ref 1] h (fun y k => y = pu_fault X ∧ k = h) := by
  have hp := x.1.1.1
  have hl := v.1
  refine NX11_fault_0 ?_
  have key : ∀ (r : List Int32) (i o : Nat), X.1.drop i = r → i ≤ X.1.length → o ≤ i + 1 → G mX11_fault (d + 1) SC (f_PI (fun y k => y = faF r i o ∧ k = h)) 4 [(0, .ref 1), (1, .int (nI o)), (2, .int (nI i))] [] h := by
    intro r
    induction r with
    | nil =>
      intro i o hr hi ho
      have e : i = X.1.length := by
        have := congrArg List.length hr
        simp at this
        omega
      refine NX11_fault_4 hC1 hC26 ⟨fun _ => ⟨fun z1 => ?_, fun z1 => ?_⟩, fun z => absurd (by rw [hp, e]; exact Int32.le_refl _) z⟩
      · refine ⟨?_, rfl⟩
        unfold faF
        rw [if_neg (fun q => z1 (by rw [q]; rfl)), hp, e]
      · refine ⟨?_, rfl⟩
        unfold faF
        rw [if_pos ((nI_eq (a := o) (b := 0) (by omega) (by decide)).mp z1)]
    | cons c r ih =>
      intro i o hr hi ho
      obtain ⟨hi2, hc, hd⟩ := dropc hr
      have hrow : h.2.2.1 26 i = c := by rw [x.1.1.2 i hi2]; exact hc
      refine NX11_fault_4 hC1 hC26 ⟨fun z => absurd z (by rw [hp]; exact nI_ge hi2 (by omega)), fun _ => ⟨fun z => absurd z (nI_ge (a := i) (b := 20) (by omega) (by decide)), fun _ => ⟨fun z => ?_, fun z => ⟨fun z1 => ⟨vp_in_nI (by omega) (by decide), ?_⟩, fun z1 => ?_⟩⟩⟩⟩
      · have : 13 ≤ i := (nI_leI (a := 13) (b := i) (by decide) (by omega)).mp z
        refine ⟨?_, rfl⟩
        unfold faF
        rw [if_pos (Or.inl this)]
      · have n13 : ¬ (13 ≤ i ∨ o = 0) := by
          rintro (q | q)
          · exact z (nI_le (a := 13) (b := i) q (by omega))
          · exact z1 (by rw [q]; rfl)
        rw [nI_clamp (by omega), hrow, nI1, nI1]
        refine ⟨_, s_isOperator, ?_⟩
        rintro _ k ⟨rfl, rfl⟩
        refine ⟨fun y => ?_, fun y => ?_⟩
        · have y := bI_0.mp y
          rw [hrow]
          refine ⟨_, s_isLetter, ?_⟩
          rintro _ k ⟨rfl, rfl⟩
          have om : nI o + (-1) = nI (o - 1) := by
            obtain ⟨o', rfl⟩ : ∃ o', o = o' + 1 := ⟨o - 1, by omega⟩
            rw [Nat.add_sub_cancel, nI_succ, Int32.add_assoc, show (1 : Int32) + -1 = 0 from by decide, Int32.add_zero]
          have hG : (isLetB c || isDigB c) = true → faF (c :: r) i o = faF r (i + 1) (o - 1) := fun q => by
            rw [faF, if_neg n13, if_neg (by rw [y]; decide), if_pos q]
          refine ⟨fun y2 => ?_, fun y2 => ?_⟩
          · rw [om, hG (by rw [bI_n0.mp y2]; rfl)]
            exact ih (i + 1) (o - 1) hd hi2 (by omega)
          · rw [hrow]
            refine ⟨_, s_isDigit, ?_⟩
            rintro _ k ⟨rfl, rfl⟩
            refine ⟨fun y3 => ?_, fun y3 => ?_⟩
            · refine ⟨?_, rfl⟩
              unfold faF
              rw [if_neg n13, if_neg (by rw [y]; decide), if_neg (by rw [bI_0.mp y2, bI_0.mp y3]; decide)]
            · rw [om, hG (by rw [bI_n0.mp y3, Bool.or_true])]
              exact ih (i + 1) (o - 1) hd hi2 (by omega)
        · have y := bI_n0.mp y
          have hG2 : faF (c :: r) i o = faF r (i + 1) (o + 1) := by rw [faF, if_neg n13, if_pos y]
          rw [hG2]
          exact ih (i + 1) (o + 1) hd hi2 (by omega)
      · refine ⟨?_, rfl⟩
        unfold faF
        rw [if_pos (Or.inr ((nI_eq (a := o) (b := 0) (by omega) (by decide)).mp z1))]
  exact key X.1 0 1 rfl (by omega) (by omega)
theorem c_text (x : CRel h X) (v : StV X) : OkI 20 mX11_text SC [.ref 1] h (fun y k => y = (pu_text X).1 ∧ CRel k (pu_text X).2) := by
  have hp := x.1.1.1
  refine NX11_text_0 (d := 19) hC1 hC2 hC3 ⟨_, c_fault (d := 18) x v, ?_⟩
  rintro _ k ⟨rfl, rfl⟩
  refine ⟨fun z => ?_, fun z => ?_⟩
  · obtain ⟨t1, t2⟩ := fault_ok z
    obtain ⟨⟨o, hvo⟩, _⟩ := id t1
    have ag : ∀ i, i < X.1.length → rw' X.1 i = k.2.2.1 26 i := fun i hi => (x.1.1.2 i hi).symm
    rw [hp]
    refine ⟨_, s_read (d := 17) tC3 hC26 (by decide) t2 (valO_congr hvo ag), ?_⟩
    rintro k1 ⟨r1, o1⟩
    intro g1 e1
    refine ⟨_, s_forget, ?_⟩
    intro k3 fg
    rw [show pu_text X = (nI X.1.length, [], wT X.2.1 X.1, X.2.2) by unfold pu_text; rw [if_pos z]]
    have r2 : TxOk k1 3 4 5 6 (rw' X.1) X.1.length := r1.congr (valO_congr hvo ag) (fun i hi => (ag i hi).symm)
    have c1 : CCo k1 (X.1, wT X.2.1 X.1, X.2.2) := by
      obtain ⟨y1, y2, y3, y4, y5, y6, y7⟩ := id x.1.2.1
      refine x.1.pg (o1.mono (by simp)) ⟨r2, ?_, ?_, ?_, ?_, ?_, ?_⟩ (x.1.2.2.2.2.1.off o1 (by decide) (by decide) (by decide))
      · rw [(o1 7 (by decide)).2.2.1]; exact y2
      · rw [(o1 8 (by decide)).2.2.1]; exact y3
      · rw [(o1 9 (by decide)).2.2.2]; exact y4
      · rw [(o1 2 (by decide)).1]; exact y5
      · rw [(o1 2 (by decide)).1]; exact y6
      · rw [(o1 2 (by decide)).1]; exact y7
    have o2 : fOff [1, 26] k1 g1 := by rw [e1]; exact fOff.rf.of (f_off_fi _ _ _ _) (by simp)
    have c2 : CCo g1 ([], wT X.2.1 X.1, X.2.2) := c1.pad o2 (by rw [e1, u_fi_s]; rfl) (fun i hi => by simp at hi)
    refine ⟨?_, CRel.fg c2 ((x.2.1.off o1 (by decide)).off o2 (by decide)) fg⟩
    rw [(fg.2.2 3 (by decide)).1, (o2 3 (by decide)).1]
    exact r1.1
  · rw [show pu_text X = (-5, X) by unfold pu_text; rw [if_neg z]]
    exact ⟨rfl, x⟩
theorem c_sign {s : Int32} (x : CRel h X) (v : StV X) : OkI 20 mX11_sign SC [.ref 1, .int s] h (fun y k => y = pu_sign X s ∧ CRel k X) := by
  have t := x.tx
  have h13 := v.t13
  refine NX11_sign_0 (d := 19) hC1 hC2 hC3 ⟨_, s_has tC3, ?_⟩
  rintro _ k ⟨rfl, rfl⟩
  rw [t.1]
  refine ⟨fun z => ?_, fun z => ?_⟩
  · have z := of_decide_eq_false (bI_0.mp z)
    exact ⟨by unfold pu_sign; rw [if_neg z], x⟩
  · have z := of_decide_eq_true (bI_n0.mp z)
    obtain ⟨j, hj, rfl⟩ := in_n (by omega) z
    refine ⟨_, s_signAt tC3 t.1 h13 (by omega), ?_⟩
    rintro _ k ⟨rfl, rfl⟩
    refine ⟨?_, x⟩
    unfold pu_sign
    rw [if_pos z, if_pos hj, nI_clamp (by omega)]
    exact t.2.2.1 j hj
theorem CCo.nu (x : CCo h X) {j : Nat} (hj : j < 5) (e : Int32) : CCo (u_ai h 7 (upd (h.2.2.1 7) j e)) (X.1, wNu X.2.1 (upd (pNu X.2.1) j e), X.2.2) := by
  have o : fOff [7] h (u_ai h 7 (upd (h.2.2.1 7) j e)) := fOff.rf.of (f_off_ai _ _ _) (by simp)
  obtain ⟨y1, y2, y3, y4, y5, y6, y7⟩ := id x.2.1
  have z := x.2.2.2.2.1
  refine x.pg (o.mono (by simp)) ⟨y1.off o (by decide) (by decide) (by decide) (by decide), ?_, ?_, y4, y5, y6, y7⟩ ⟨?_, ?_, z.2.2⟩
  · rw [u_ai_s, y2]; rfl
  · rw [u_ai_n _ _ (by decide)]; exact y3
  · rw [u_ai_s]; exact fun q hq => by rw [upd_n _ _ (by omega)]; exact z.1 q hq
  · rw [u_ai_n _ _ (by decide)]; exact z.2.1
theorem CCo.sp (x : CCo h X) {j : Nat} (hj : j < 5) (e : Int32) : CCo (u_ai h 8 (upd (h.2.2.1 8) j e)) (X.1, wSp X.2.1 (upd (pSp X.2.1) j e), X.2.2) := by
  have o : fOff [8] h (u_ai h 8 (upd (h.2.2.1 8) j e)) := fOff.rf.of (f_off_ai _ _ _) (by simp)
  obtain ⟨y1, y2, y3, y4, y5, y6, y7⟩ := id x.2.1
  have z := x.2.2.2.2.1
  refine x.pg (o.mono (by simp)) ⟨y1.off o (by decide) (by decide) (by decide) (by decide), ?_, ?_, y4, y5, y6, y7⟩ ⟨?_, ?_, z.2.2⟩
  · rw [u_ai_n _ _ (by decide)]; exact y2
  · rw [u_ai_s, y3]; rfl
  · rw [u_ai_n _ _ (by decide)]; exact z.1
  · rw [u_ai_s]; exact fun q hq => by rw [upd_n _ _ (by omega)]; exact z.2.1 q hq
theorem c_put {l w e : Int32} (x : CRel h X) : OkI 20 mX11_put SC [.ref 1, .int l, .int w, .int e] h (fun y k => y = (pu_put X l w e).1 ∧ CRel k (pu_put X l w e).2) := by
  have y2 := x.1.2.1.2.1
  have y3 := x.1.2.1.2.2.1
  refine NX11_put_0 (d := 19) hC1 hC2 hC7 ⟨fun z => ?_, fun z => ⟨fun z1 => ?_, fun z1 => ?_⟩⟩
  · rw [show pu_put X l w e = (-2, X) by unfold pu_put; rw [if_neg (fun q => q.1 z)]]; exact ⟨rfl, x⟩
  · obtain ⟨j, hj, rfl⟩ := in_n (p := l) (n := 5) (by decide) ⟨Int32.not_lt.mp z, z1⟩
    have g59 : ¬ (w = 0 ∧ ¬ e < -99 ∧ ¬ 99 < e) → G mX11_put 20 SC (f_PI (fun y k => y = (pu_put X (nI j) w e).1 ∧ CRel k (pu_put X (nI j) w e).2)) 59 [(0, .ref 1), (1, .int (nI j)), (2, .int w), (3, .int e)] [] h := by
      intro q
      have bad : ¬ (w = 1 ∧ ¬ e < 0 ∧ ¬ 5 < e) → (-2 : Int32) = (pu_put X (nI j) w e).1 ∧ CRel h (pu_put X (nI j) w e).2 := fun q2 => by
        rw [show pu_put X (nI j) w e = (-2, X) by unfold pu_put; rw [if_pos ⟨z, z1⟩, if_neg q, if_neg q2]]; exact ⟨rfl, x⟩
      refine NX11_put_59 (d := 19) hC1 hC2 hC8 ⟨fun y => bad (fun q2 => y q2.1), fun y1 => ⟨fun y => bad (fun q2 => q2.2.1 y), fun y2 => ⟨fun y => bad (fun q2 => q2.2.2 y), fun y4 => ⟨vp_in_nI hj (by decide), ?_⟩⟩⟩⟩
      rw [nI_clamp (by omega)]
      intro g1 e1
      refine ⟨_, s_forget, ?_⟩
      intro k fg
      rw [show pu_put X (nI j) w e = (pSp X.2.1 j, X.1, wSp X.2.1 (upd (pSp X.2.1) j e), X.2.2) by unfold pu_put; rw [if_pos ⟨z, z1⟩, if_neg q, if_pos ⟨y1, y2, y4⟩, nI_clamp (by omega)]]
      rw [e1] at fg
      exact ⟨by rw [y3], CRel.fg (x.1.sp hj e) (x.2.1.off (fOff.rf.of (f_off_ai _ _ _) (by simp) : fOff [8] h _) (by decide)) fg⟩
    refine ⟨fun y => g59 (fun q => y q.1), fun y1 => ⟨fun y => g59 (fun q => q.2.1 y), fun y5 => ⟨fun y => g59 (fun q => q.2.2 y), fun y4 => ⟨vp_in_nI hj (by decide), ?_⟩⟩⟩⟩
    rw [nI_clamp (by omega)]
    intro g1 e1
    refine ⟨_, s_forget, ?_⟩
    intro k fg
    rw [show pu_put X (nI j) w e = (pNu X.2.1 j + 100, X.1, wNu X.2.1 (upd (pNu X.2.1) j e), X.2.2) by unfold pu_put; rw [if_pos ⟨z, z1⟩, if_pos ⟨y1, y5, y4⟩, nI_clamp (by omega)]]
    rw [e1] at fg
    exact ⟨by rw [y2], CRel.fg (x.1.nu hj e) (x.2.1.off (fOff.rf.of (f_off_ai _ _ _) (by simp) : fOff [7] h _) (by decide)) fg⟩
  · rw [show pu_put X l w e = (-2, X) by unfold pu_put; rw [if_neg (fun q => z1 q.2)]]; exact ⟨rfl, x⟩
end CFACE1

/-! ===== the class's face: bounds, truth, rules, images, told ===== -/
section CFACE4
variable {h : fH} {X : stP}
theorem c_bounds {e : Int32} (x : CRel h X) (v : StV X) : OkL 20 mX11_bounds SC [.ref 1, .int e] h (fun y k => y = pu_bounds X e ∧ CRel k X) := by
  have h0 := v.t1
  have bad : ¬ (¬ e < 0 ∧ e ≤ 1) → (-1000000000000000002 : Int64) = pu_bounds X e ∧ CRel h X := fun q => ⟨by unfold pu_bounds; rw [if_neg q]; rfl, x⟩
  refine NX11_bounds_0 (d := 19) hC1 hC54 ⟨fun z => bad (fun q => q.1 z), fun z1 => ⟨fun z2 => ?_, fun z => bad (fun q => z q.2)⟩⟩
  refine ⟨_, s_bound (d := 15) (D := pD X.2.1) (f := pNu X.2.1) (g := pSp X.2.1) spC tC3 x.tx v.2.1.1 hC2 hC7 hC8 (by decide) x.hD v.2.1.2.2.2.2.1 v.2.1.2.2.2.2.2.1 x.2.1.2.1 x.2.1.2.2 x.1.2.1.2.1 x.1.2.1.2.2.1 v.2.1.2.1.b v.2.1.2.2.1, ?_⟩
  rintro k ⟨r1, du, o1⟩
  have x1 : CRel k X := by
    refine ⟨x.1.off o1 (by decide), x.2.1.off2 (fun i hi => ?_), x.2.2.off o1 (by decide)⟩
    by_cases c : i = 58
    · subst c; rw [du.1.2.2, x.2.1.2.1]
    by_cases c2 : i = 59
    · subst c2; rw [du.2.2.2, x.2.1.2.2]
    · rw [(o1 i (by simp only [List.mem_cons, List.not_mem_nil, or_false] at hi ⊢; omega)).1]
  refine ⟨fun y => ?_, fun y => ?_⟩
  · refine ⟨_, s_at (by decide) hC56, ?_⟩
    rintro _ k ⟨rfl, rfl⟩
    refine ⟨?_, x1⟩
    rw [show (0 : Int32) = nI 0 from rfl, atF_in (by decide) (by decide), (r1 0 (by omega)).2]
    unfold pu_bounds
    rw [if_pos ⟨z1, z2⟩, if_neg y]
  · refine ⟨_, s_at (by decide) hC55, ?_⟩
    rintro _ k ⟨rfl, rfl⟩
    refine ⟨?_, x1⟩
    rw [show (0 : Int32) = nI 0 from rfl, atF_in (by decide) (by decide), (r1 0 (by omega)).1]
    unfold pu_bounds
    rw [if_pos ⟨z1, z2⟩, if_pos y]
theorem c_truth {e : Int32} (x : CRel h X) (v : StV X) : OkL 20 mX11_truth SC [.ref 1, .int e] h (fun y k => pr_truth X e y ∧ CRel k X) := by
  have bad : ¬ (¬ e < 0 ∧ e ≤ 1) → pr_truth X e (-1000000000000000002 : Int64) ∧ CRel h X := fun q => ⟨by unfold pr_truth; rw [if_neg q]; rfl, x⟩
  refine NX11_truth_0 (d := 19) hC1 hC54 ⟨fun z => bad (fun q => q.1 z), fun z1 => ⟨fun z2 => ?_, fun z => bad (fun q => z q.2)⟩⟩
  refine ⟨_, s_findTruth (d := 16) (f := pNu X.2.1) (gw := gwF (pSp X.2.1)) spC frC60 tC3 x.tx v.2.1.1 hC2 hC7 hC8 hC63 hC64 (by decide) x.1.2.1.2.1 v.2.1.2.1 (fun j hj => by rw [x.1.2.1.2.2.1]; exact gwF_is v.2.1.2.2.1 hj) (gwF_le v.2.1.2.2.1) x.2.2.2.1, ?_⟩
  rintro k ⟨r1, f1, o1⟩
  have x1 : CRel k X := ⟨x.1.off o1 (by decide), x.2.1.off o1 (by decide), x.2.2.1.off o1 (by decide), fun _ => r1, x.2.2.2.2.off o1 (by decide)⟩
  obtain ⟨p, q, ⟨p1, p2⟩, q1, q2⟩ := r1
  refine ⟨fun y => ⟨?_, x1⟩, fun y => ⟨?_, x1⟩⟩
  · obtain ⟨j, hj, rfl⟩ := nI_of2 (M := 1) (n := 1) rfl z1 z2
    have ej : j = 1 := by
      rcases (show j = 0 ∨ j = 1 by omega) with rfl | rfl
      · exact absurd rfl y
      · rfl
    subst ej
    unfold pr_truth
    rw [if_pos ⟨z1, z2⟩]
    exact ⟨q, q1, q2⟩
  · subst y
    unfold pr_truth
    rw [if_pos ⟨z1, z2⟩]
    exact ⟨p, p1, p2⟩
theorem c_fits {r s : Int32} (x : CRel h X) (v : StV X) : OkI 20 mX11_fits SC [.ref 1, .int r, .int s] h (fun y k => y = pu_fits X r s ∧ CRel k X) := by
  have t := x.tx
  have h13 := v.t13
  refine NX11_fits_0 (d := 19) hC1 hC2 hC3 ⟨_, s_has tC3, ?_⟩
  rintro _ k ⟨rfl, rfl⟩
  rw [t.1]
  refine ⟨fun z => ?_, fun z => ?_⟩
  · have z := of_decide_eq_true (bI_n0.mp z)
    have bad : ¬ (¬ r < 0 ∧ r < 7) → (-2 : Int32) = pu_fits X r s ∧ CRel k X := fun q => ⟨by unfold pu_fits; rw [if_pos z, if_neg q], x⟩
    refine ⟨fun y => bad (fun q => q.1 y), fun y1 => ⟨fun y2 => ?_, fun y => bad (fun q => y q.2)⟩⟩
    obtain ⟨j, hj, rfl⟩ := in_n (by omega) z
    obtain ⟨q, hq, rfl⟩ := in_n (p := r) (n := 7) (by decide) ⟨Int32.not_lt.mp y1, y2⟩
    have e : pu_fits X (nI q) (nI j) = bI (okR q (rw' (pT X.2.1)) (pT X.2.1).length j) := by unfold pu_fits pok; rw [if_pos z, if_pos ⟨y1, y2⟩, nI_clamp (by omega), nI_clamp (by omega)]
    rw [e]
    refine ⟨_, s_suits (d := 16) tC3 t v.2.1.1 hj (by omega), ?_⟩
    rintro _ k ⟨rfl, rfl⟩
    exact ⟨fun y => ⟨y.symm, x⟩, fun y => ⟨by rw [bI_n0.mp y]; rfl, x⟩⟩
  · have z := of_decide_eq_false (bI_0.mp z)
    exact ⟨by unfold pu_fits; rw [if_neg z], x⟩
theorem c_change {r s : Int32} (x : CRel h X) (v : StV X) : OkI 20 mX11_change SC [.ref 1, .int r, .int s] h (fun y k => y = (pu_change X r s).1 ∧ CRel k (pu_change X r s).2) := by
  have t := x.tx
  have h13 := v.t13
  refine NX11_change_0 (d := 19) hC1 hC2 hC3 hC65 ⟨_, s_has tC3, ?_⟩
  rintro _ k ⟨rfl, rfl⟩
  rw [t.1]
  refine ⟨fun z => ?_, fun z => ?_⟩
  · have z := of_decide_eq_true (bI_n0.mp z)
    have bad : ¬ (¬ r < 0 ∧ r < 7) → (-2 : Int32) = (pu_change X r s).1 ∧ CRel k (pu_change X r s).2 := fun q => by
      rw [show pu_change X r s = (-2, X) by unfold pu_change; rw [if_pos z, if_neg q]]; exact ⟨rfl, x⟩
    refine ⟨fun y => bad (fun q => q.1 y), fun y1 => ⟨fun y2 => ?_, fun y => bad (fun q => y q.2)⟩⟩
    obtain ⟨j, hj, rfl⟩ := in_n (by omega) z
    obtain ⟨q, hq, rfl⟩ := in_n (p := r) (n := 7) (by decide) ⟨Int32.not_lt.mp y1, y2⟩
    have e : pu_change X (nI q) (nI j) = (if okR q (rw' (pT X.2.1)) (pT X.2.1).length j = true then (nI (wrL q (rw' (pT X.2.1)) (pT X.2.1).length j).length, X.1, wT X.2.1 (wrL q (rw' (pT X.2.1)) (pT X.2.1).length j), X.2.2) else (-5, X)) := by unfold pu_change pok pwr; rw [if_pos z, if_pos ⟨y1, y2⟩, nI_clamp (by omega), nI_clamp (by omega)]
    rw [e]
    refine ⟨_, s_write (d := 15) tC74 tC3 (by decide) t v.2.1.1 hj (by omega), ?_⟩
    rintro _ k1 ⟨rfl, r1, o1⟩
    have x1 := x.off o1 (by decide) (by decide) (by decide)
    refine ⟨fun y => ?_, fun y => ?_⟩
    · have y := bI_n0.mp y
      rw [if_pos y]
      refine ⟨_, s_tcopy (d := 18) tC3 tC74 (by decide) (r1 y), ?_⟩
      rintro k2 ⟨r2, o2⟩
      refine ⟨_, s_forget, ?_⟩
      intro k3 fg
      have c1 : CCo k2 (X.1, wT X.2.1 (wrL q (rw' (pT X.2.1)) (pT X.2.1).length j), X.2.2) := by
        obtain ⟨y1, y2, y3, y4, y5, y6, y7⟩ := id x1.1.2.1
        refine x1.1.pg (o2.mono (by simp)) ⟨r2, ?_, ?_, ?_, ?_, ?_, ?_⟩ (x1.1.2.2.2.2.1.off o2 (by decide) (by decide) (by decide))
        · rw [(o2 7 (by decide)).2.2.1]; exact y2
        · rw [(o2 8 (by decide)).2.2.1]; exact y3
        · rw [(o2 9 (by decide)).2.2.2]; exact y4
        · rw [(o2 2 (by decide)).1]; exact y5
        · rw [(o2 2 (by decide)).1]; exact y6
        · rw [(o2 2 (by decide)).1]; exact y7
      refine ⟨?_, CRel.fg c1 (x1.2.1.off o2 (by decide)) fg⟩
      rw [(fg.2.2 3 (by decide)).1]
      exact r2.1
    · rw [if_neg (by rw [bI_0.mp y]; decide)]
      exact ⟨rfl, x1⟩
  · have z := of_decide_eq_false (bI_0.mp z)
    rw [show pu_change X r s = (-1, X) by unfold pu_change; rw [if_neg z]]; exact ⟨rfl, x⟩
theorem c_find6 {R : Nat} (hR : R ≤ 2) (x : CRel h X) (v : StV X) : OkV 19 mX6_find SC [.ref 65, .ref 2, .int (nI R)] h (fun k => BsOk k 65 82 83 84 85 (btF (pD X.2.1) (pW X.2.1) (pNu X.2.1) R (pT X.2.1)) ∧ CRel k X) := by
  refine OkV.post (s_find6 (d := 12) (D := pD X.2.1) (W := pW X.2.1) (f := pNu X.2.1) (T := pT X.2.1) pgC x.tx v.2.1.1 x.hD v.2.1.2.2.2.2.1 v.2.1.2.2.2.2.2.1 x.hW v.2.1.2.2.2.2.2.2 x.2.1.1.2.2.2.2 x.1.2.1.2.1 v.2.1.2.1.b hR (x.2.2.2.2 R hR)) ?_
  rintro k ⟨⟨r1, r2⟩, f1, o1⟩
  refine ⟨r2, x.1.off o1 (by decide), x.2.1.off2 (fun i hi => ?_), x.2.2.1.off o1 (by decide), x.2.2.2.1.off o1 (by decide), fun R' hR' z => ?_⟩
  · by_cases c : i = 72
    · subst c; rw [f1, x.2.1.1.2.2.2.2]
    · rw [(o1 i (by simp only [List.mem_cons, List.not_mem_nil, or_false] at hi ⊢; omega)).1]
  · rw [r1] at z
    rw [← (nI_eq (a := R) (b := R') (by omega) (by omega)).mp z]
    exact r2
theorem c_better {r : Int32} (x : CRel h X) (v : StV X) : OkL 20 mX11_better SC [.ref 1, .int r] h (fun y k => y = pu_better X r ∧ CRel k X) := by
  have bad : ¬ (¬ r < 0 ∧ r ≤ 2) → (-1000000000000000002 : Int64) = pu_better X r ∧ CRel h X := fun q => ⟨by unfold pu_better; rw [if_neg q]; rfl, x⟩
  refine NX11_better_0 (d := 19) hC1 hC65 ⟨fun z => bad (fun q => q.1 z), fun z1 => ⟨fun z2 => ?_, fun z => bad (fun q => z q.2)⟩⟩
  obtain ⟨R, hR, rfl⟩ := nI_of2 (M := 2) (n := 2) rfl z1 z2
  refine ⟨_, c_find6 hR x v, ?_⟩
  rintro k ⟨b1, x1⟩
  have e : pu_better X (nI R) = beA (btF (pD X.2.1) (pW X.2.1) (pNu X.2.1) R (pT X.2.1)) := by unfold pu_better pbt; rw [if_pos ⟨z1, z2⟩, nI_clamp (by omega)]
  rw [e]
  cases hb : btF (pD X.2.1) (pW X.2.1) (pNu X.2.1) R (pT X.2.1) with
  | none =>
    rw [hb] at b1
    have b1 : k.2.1 65 4 = 1000000000000000000 := b1
    exact ⟨fun z => absurd b1 z, fun _ => ⟨rfl, x1⟩⟩
  | some q =>
    obtain ⟨l, U⟩ := q
    rw [hb] at b1
    obtain ⟨b2, b3, _⟩ := b1
    exact ⟨fun z => ⟨b2, x1⟩, fun z => absurd (by rw [← b2]; exact z) b3⟩
theorem beS_some (i : Int32) (l : Int64) (U : List Int32) : beS i (some (l, U)) = (if i = -1 then nI U.length else if 0 ≤ i ∧ i < nI U.length then rw' U i.toNatClampNeg else -6) := rfl
theorem c_betterSign {r i : Int32} (x : CRel h X) (v : StV X) : OkI 20 mX11_betterSign SC [.ref 1, .int r, .int i] h (fun y k => y = pu_betterSign X r i ∧ CRel k X) := by
  have bad : ¬ (¬ r < 0 ∧ r ≤ 2) → (-2 : Int32) = pu_betterSign X r i ∧ CRel h X := fun q => ⟨by unfold pu_betterSign; rw [if_neg q], x⟩
  refine NX11_betterSign_0 (d := 19) hC1 hC65 hC82 ⟨fun z => bad (fun q => q.1 z), fun z1 => ⟨fun z2 => ?_, fun z => bad (fun q => z q.2)⟩⟩
  obtain ⟨R, hR, rfl⟩ := nI_of2 (M := 2) (n := 2) rfl z1 z2
  refine ⟨_, c_find6 hR x v, ?_⟩
  rintro k ⟨b1, x1⟩
  have e : pu_betterSign X (nI R) i = beS i (btF (pD X.2.1) (pW X.2.1) (pNu X.2.1) R (pT X.2.1)) := by unfold pu_betterSign pbt; rw [if_pos ⟨z1, z2⟩, nI_clamp (by omega)]
  rw [e]
  cases hb : btF (pD X.2.1) (pW X.2.1) (pNu X.2.1) R (pT X.2.1) with
  | none =>
    rw [hb] at b1
    have b1 : k.2.1 65 4 = 1000000000000000000 := b1
    exact ⟨fun z => absurd b1 z, fun _ => ⟨rfl, x1⟩⟩
  | some q =>
    obtain ⟨l, U⟩ := q
    rw [hb] at b1
    obtain ⟨b2, b3, tb, b5⟩ := b1
    have h13 : U.length ≤ 13 := b5.2.1
    refine ⟨fun z => ⟨fun y => ?_, fun y => ⟨by rw [beS_some, if_pos y]; exact tb.1, x1⟩⟩, fun z => absurd (by rw [← b2]; exact z) b3⟩
    refine ⟨_, s_has tC82, ?_⟩
    rintro _ k ⟨rfl, rfl⟩
    rw [tb.1]
    refine ⟨fun w => ?_, fun w => ?_⟩
    · have w := of_decide_eq_false (bI_0.mp w)
      exact ⟨by rw [beS_some, if_neg y, if_neg w], x1⟩
    · have w := of_decide_eq_true (bI_n0.mp w)
      obtain ⟨j, hj, rfl⟩ := in_n (by omega) w
      refine ⟨_, s_signAt tC82 tb.1 h13 (by omega), ?_⟩
      rintro _ k ⟨rfl, rfl⟩
      refine ⟨?_, x1⟩
      rw [beS_some, if_neg y, if_pos w, if_pos hj, nI_clamp (by omega)]
      exact tb.2.2.1 j hj
theorem pcS2 : PcS SC 2 3 4 5 6 7 8 9 := ⟨hC2, tC3, hC7, hC8, hC9⟩
theorem pcS10 : PcS SC 10 11 12 13 14 15 16 17 := ⟨hC10, tC11, hC15, hC16, hC17⟩
theorem pcS18 : PcS SC 18 19 20 21 22 23 24 25 := ⟨hC18, tC19, hC23, hC24, hC25⟩
theorem PcOk.z {k : fH} {p t a b c n s e p' t' a' b' c' n' s' e' : Nat} {P : pgP} (x : PcOk k p t a b c n s e P) (y : PcOk h p' t' a' b' c' n' s' e' P) (z : PcZ h n' s' e') : PcZ k n s e := by
  unfold PcZ
  rw [x.2.1, x.2.2.1, x.2.2.2.1, ← y.2.1, ← y.2.2.1, ← y.2.2.2.1]
  exact z
theorem PcOk.f7 {p t a b c n s e : Nat} {P : pgP} (x : PcOk h p t a b c n s e P) (w : Int32) (h1 : t ≠ p) (h2 : a ≠ p) (h3 : b ≠ p) (h4 : c ≠ p) : PcOk (u_fi h p 7 w) p t a b c n s e P := by
  obtain ⟨y1, y2, y3, y4, y5, y6, y7⟩ := x
  have o : fOff [p] h (u_fi h p 7 w) := fOff.rf.of (f_off_fi _ _ _ _) (by simp)
  exact ⟨y1.off o (by simpa using h1) (by simpa using h2) (by simpa using h3) (by simpa using h4), y2, y3, y4, by rw [u_fi_n _ _ (by decide)]; exact y5, by rw [u_fi_n _ _ (by decide)]; exact y6, by rw [u_fi_n _ _ (by decide)]; exact y7⟩
theorem c_image {n : Int32} (x : CRel h X) : OkI 20 mX11_image SC [.ref 1, .int n] h (fun y k => y = (pu_image X n).1 ∧ CRel k (pu_image X n).2) := by
  obtain ⟨_, p, i0, i1, z0, z1, z2⟩ := id x.1
  have bad : ¬ n = 0 → ¬ n = 1 → (-2 : Int32) = (pu_image X n).1 ∧ CRel h (pu_image X n).2 := fun q1 q2 => by
    rw [show pu_image X n = (-2, X) by unfold pu_image; rw [if_neg q1, if_neg q2]]; exact ⟨rfl, x⟩
  refine NX11_image_0 (d := 19) hC1 hC18 hC10 ⟨fun z => bad (fun q => by rw [q] at z; exact absurd z (by decide)) (fun q => by rw [q] at z; exact absurd z (by decide)), fun w1 => ⟨fun w2 => ⟨fun w3 => ?_, fun w3 => ?_⟩, fun z => bad (fun q => z (by rw [q]; decide)) (fun q => z (by rw [q]; decide))⟩⟩
  · have e1 : n = 1 := by
      obtain ⟨j, hj, rfl⟩ := nI_of2 (M := 1) (n := 1) rfl w1 w2
      rcases (show j = 0 ∨ j = 1 by omega) with rfl | rfl
      · exact absurd rfl w3
      · rfl
    refine ⟨_, s_pcopy (d := 17) pcS18 pcS2 (by decide) p z2 z0, ?_⟩
    rintro k ⟨p1, o1⟩
    intro g1 e2
    rw [show pu_image X n = (1, X.1, X.2.1, X.2.2.1, some X.2.1) by unfold pu_image; rw [if_neg w3, if_pos e1]]
    have o2 : fOff [18, 19, 20, 21, 22, 23, 24, 25] h g1 := by rw [e2]; exact o1.of (f_off_fi _ _ _ _) (by simp)
    have p2 : PcOk g1 18 19 20 21 22 23 24 25 X.2.1 := by rw [e2]; exact p1.f7 1 (by decide) (by decide) (by decide) (by decide)
    exact ⟨rfl, x.1.im1 o2 ⟨by rw [e2, u_fi_s], p2⟩ (p2.z p z0), x.2.1.off o2 (by decide), x.2.2.off o2 (by decide)⟩
  · refine ⟨_, s_pcopy (d := 17) pcS10 pcS2 (by decide) p z1 z0, ?_⟩
    rintro k ⟨p1, o1⟩
    intro g1 e2
    rw [show pu_image X n = (1, X.1, X.2.1, some X.2.1, X.2.2.2) by unfold pu_image; rw [if_pos w3]]
    have o2 : fOff [10, 11, 12, 13, 14, 15, 16, 17] h g1 := by rw [e2]; exact o1.of (f_off_fi _ _ _ _) (by simp)
    have p2 : PcOk g1 10 11 12 13 14 15 16 17 X.2.1 := by rw [e2]; exact p1.f7 1 (by decide) (by decide) (by decide) (by decide)
    exact ⟨rfl, x.1.im0 o2 ⟨by rw [e2, u_fi_s], p2⟩ (p2.z p z0), x.2.1.off o2 (by decide), x.2.2.off o2 (by decide)⟩
theorem CIm.k {p t a b c n s e : Nat} {Q : Option pgP} (x : CIm h p t a b c n s e Q) : (h.1 p 7 = 0 → Q = none) ∧ (¬ h.1 p 7 = 0 → ∃ P, Q = some P ∧ PcOk h p t a b c n s e P) := by
  cases Q with
  | none => exact ⟨fun _ => rfl, fun z => absurd x z⟩
  | some P => exact ⟨fun z => (by rw [x.1] at z; exact absurd z (by decide)), fun _ => ⟨P, rfl, x.2⟩⟩
theorem c_restore {n : Int32} (x : CRel h X) : OkI 20 mX11_restore SC [.ref 1, .int n] h (fun y k => y = (pu_restore X n).1 ∧ CRel k (pu_restore X n).2) := by
  obtain ⟨_, p, i0, i1, z0, z1, z2⟩ := id x.1
  have bad : ¬ n = 0 → ¬ n = 1 → (-2 : Int32) = (pu_restore X n).1 ∧ CRel h (pu_restore X n).2 := fun q1 q2 => by
    rw [show pu_restore X n = (-2, X) by unfold pu_restore; rw [if_neg q1, if_neg q2]]; exact ⟨rfl, x⟩
  refine NX11_restore_0 (d := 19) hC1 hC18 hC2 hC10 ⟨fun z => bad (fun q => by rw [q] at z; exact absurd z (by decide)) (fun q => by rw [q] at z; exact absurd z (by decide)), fun w1 => ⟨fun w2 => ⟨fun w3 => ?_, fun w3 => ?_⟩, fun z => bad (fun q => z (by rw [q]; decide)) (fun q => z (by rw [q]; decide))⟩⟩
  · have e1 : n = 1 := by
      obtain ⟨j, hj, rfl⟩ := nI_of2 (M := 1) (n := 1) rfl w1 w2
      rcases (show j = 0 ∨ j = 1 by omega) with rfl | rfl
      · exact absurd rfl w3
      · rfl
    rw [show pu_restore X n = reS X X.2.2.2 by unfold pu_restore; rw [if_neg w3, if_pos e1]]
    refine ⟨fun y => ?_, fun y => ?_⟩
    · obtain ⟨Q, eQ, pQ⟩ := i1.k.2 y
      refine ⟨_, s_pcopy (d := 17) pcS2 pcS18 (by decide) pQ z0 z2, ?_⟩
      rintro k ⟨p1, o1⟩
      refine ⟨_, s_forget, ?_⟩
      intro k2 fg
      rw [eQ]
      exact ⟨rfl, CRel.fg (x.1.pg o1 p1 (p1.z pQ z2)) (x.2.1.off o1 (by decide)) fg⟩
    · rw [i1.k.1 y]
      exact ⟨rfl, x⟩
  · rw [show pu_restore X n = reS X X.2.2.1 by unfold pu_restore; rw [if_pos w3]]
    refine ⟨fun y => ?_, fun y => ?_⟩
    · obtain ⟨Q, eQ, pQ⟩ := i0.k.2 y
      refine ⟨_, s_pcopy (d := 17) pcS2 pcS10 (by decide) pQ z0 z1, ?_⟩
      rintro k ⟨p1, o1⟩
      refine ⟨_, s_forget, ?_⟩
      intro k2 fg
      rw [eQ]
      exact ⟨rfl, CRel.fg (x.1.pg o1 p1 (p1.z pQ z1)) (x.2.1.off o1 (by decide)) fg⟩
    · rw [i0.k.1 y]
      exact ⟨rfl, x⟩
theorem vp_sub {w a b : Int32} (ha : 0 ≤ a.toInt) (hb : b.toInt = a.toInt + 5) (h1 : ¬ w < a) (h2 : w < b) : vp_in (w - a) 5 := by
  rw [vp_in_iff]
  have h1 := Int32.not_lt.mp h1
  rw [Int32.le_iff_toInt_le] at h1
  rw [Int32.lt_iff_toInt_lt] at h2
  have := Int32.toInt_lt w
  rw [i_sub_toInt (by omega) (by omega)]
  omega
theorem c_told {w : Int32} (x : CRel h X) : OkI 20 mX11_told SC [.ref 1, .int w] h (fun y k => y = pu_told X w ∧ CRel k X) := by
  have y2 := x.1.2.1.2.1
  have y3 := x.1.2.1.2.2.1
  have g28 : ¬ (¬ w < 10 ∧ w < 15) → G mX11_told 20 SC (f_PI (fun y k => y = pu_told X w ∧ CRel k X)) 28 [(0, .ref 1), (1, .int w)] [] h := by
    intro q
    have e1 : ¬ (¬ w < 20 ∧ w < 25) → pu_told X w = (if w = 0 then nI X.1.length else if w = 1 then nI (pT X.2.1).length else if w = 2 then nI (pD X.2.1) else if w = 3 then nI (pW X.2.1) else if w = 4 then nI (pN X.2.1) else -2) := fun q2 => by unfold pu_told; rw [if_neg q, if_neg q2]
    refine NX11_told_28 (d := 20) hC1 hC2 hC3 hC8 ⟨fun z => ?_, fun z => ⟨fun z1 => ?_, fun z1 => ?_⟩⟩
    · rw [e1 (fun q2 => q2.1 z)]
      exact ⟨fun a => ⟨by rw [if_pos a]; exact x.1.1.1, x⟩, fun a0 => ⟨fun a => ⟨by rw [if_neg a0, if_pos a]; exact x.ln, x⟩, fun a1 => ⟨fun a => ⟨by rw [if_neg a0, if_neg a1, if_pos a]; exact x.hD, x⟩, fun a2 => ⟨fun a => ⟨by rw [if_neg a0, if_neg a1, if_neg a2, if_pos a]; exact x.hW, x⟩, fun a3 => ⟨fun a => ⟨by rw [if_neg a0, if_neg a1, if_neg a2, if_neg a3, if_pos a]; exact x.hn, x⟩, fun a4 => ⟨by rw [if_neg a0, if_neg a1, if_neg a2, if_neg a3, if_neg a4], x⟩⟩⟩⟩⟩⟩
    · rw [e1 (fun q2 => Int32.not_lt.mpr z1 q2.2)]
      exact ⟨fun a => ⟨by rw [if_pos a]; exact x.1.1.1, x⟩, fun a0 => ⟨fun a => ⟨by rw [if_neg a0, if_pos a]; exact x.ln, x⟩, fun a1 => ⟨fun a => ⟨by rw [if_neg a0, if_neg a1, if_pos a]; exact x.hD, x⟩, fun a2 => ⟨fun a => ⟨by rw [if_neg a0, if_neg a1, if_neg a2, if_pos a]; exact x.hW, x⟩, fun a3 => ⟨fun a => ⟨by rw [if_neg a0, if_neg a1, if_neg a2, if_neg a3, if_pos a]; exact x.hn, x⟩, fun a4 => ⟨by rw [if_neg a0, if_neg a1, if_neg a2, if_neg a3, if_neg a4], x⟩⟩⟩⟩⟩⟩
    · refine ⟨vp_sub (a := 20) (b := 25) (by decide) (by decide) z (Int32.not_le.mp z1), ?_, x⟩
      unfold pu_told
      rw [if_neg q, if_pos ⟨z, Int32.not_le.mp z1⟩, y3]
  refine NX11_told_0 (d := 20) hC1 hC2 hC7 ⟨fun z => g28 (fun q => q.1 z), fun z => ⟨fun z1 => g28 (fun q => Int32.not_lt.mpr z1 q.2), fun z1 => ?_⟩⟩
  refine ⟨vp_sub (a := 10) (b := 15) (by decide) (by decide) z (Int32.not_le.mp z1), ?_, x⟩
  unfold pu_told
  rw [if_pos ⟨z, Int32.not_le.mp z1⟩, y2]
end CFACE4

/-! ===== the class's face: worked, exact, loss, worst, needs ===== -/
section CFACE2
variable {h : fH} {X : stP}
theorem c_workNow {d : Nat} (x : CRel h X) (v : StV X) : OkV (d + 4) mX11_workNow SC [.ref 1] h (fun k => (∀ i, i < (pT X.2.1).length → k.2.2.2 30 i = pwk X i ∧ k.2.2.2 31 i = psl X i) ∧ CRel k X) := by
  refine NX11_workNow_0 hC1 hC29 hC2 hC35 ⟨_, s_turn hC35, ?_⟩
  rintro _ rfl
  have x1 := x.tu 35 (h.1 2 5) (h.1 2 6) (by decide) (by decide)
  refine ⟨_, s_work (d := d) (D := pD X.2.1) (W := pW X.2.1) tC3 x1.1.2.1.1 v.2.1.1 stC29 hC7 (by decide) ?_ v.2.1.2.2.2.2.1 v.2.1.2.2.2.2.2.1 ?_ v.2.1.2.2.2.2.2.2 x1.2.1.1.2.1 x1.1.2.1.2.1 v.2.1.2.1.b, ?_⟩
  · rw [u_fi_n _ _ (by decide), u_fi_s]; exact x.1.2.1.2.2.2.2.2.1
  · rw [u_fi_s]; exact x.1.2.1.2.2.2.2.2.2
  rintro k ⟨r1, o1⟩
  exact ⟨r1, x1.off o1 (by decide) (by decide) (by decide)⟩
theorem c_worked {s w : Int32} (x : CRel h X) (v : StV X) : OkL 20 mX11_worked SC [.ref 1, .int s, .int w] h (fun y k => y = pu_worked X s w ∧ CRel k X) := by
  have t := x.tx
  have h13 := v.t13
  refine NX11_worked_0 (d := 19) hC1 hC2 hC3 hC29 hC32 ⟨_, s_has tC3, ?_⟩
  rintro _ k ⟨rfl, rfl⟩
  rw [t.1]
  refine ⟨fun z => ?_, fun z => ?_⟩
  · have z := of_decide_eq_true (bI_n0.mp z)
    have bad : ¬ (¬ w < 0 ∧ w ≤ 2) → (-1000000000000000002 : Int64) = pu_worked X s w ∧ CRel k X := fun q => ⟨by unfold pu_worked; rw [if_pos z, if_neg q]; rfl, x⟩
    obtain ⟨j, hj, rfl⟩ := in_n (by omega) z
    refine ⟨fun y => bad (fun q => q.1 y), fun y1 => ⟨fun y2 => ⟨fun y3 => ?_, fun y3 => ?_⟩, fun y => bad (fun q => y q.2)⟩⟩
    · refine ⟨_, c_workNow (d := 15) x v, ?_⟩
      rintro k1 ⟨r1, x1⟩
      refine ⟨fun y4 => ?_, fun y4 => ?_⟩
      · refine ⟨_, s_at (by decide) hC31, ?_⟩
        rintro _ k1 ⟨rfl, rfl⟩
        refine ⟨?_, x1⟩
        rw [atF_in (by decide) (by omega), (r1 j hj).2]
        unfold pu_worked
        rw [if_pos z, if_pos ⟨y1, y2⟩, if_neg y3, if_neg y4, nI_clamp (by omega)]
      · refine ⟨_, s_at (by decide) hC30, ?_⟩
        rintro _ k1 ⟨rfl, rfl⟩
        refine ⟨?_, x1⟩
        rw [atF_in (by decide) (by omega), (r1 j hj).1]
        unfold pu_worked
        rw [if_pos z, if_pos ⟨y1, y2⟩, if_neg y3, if_pos y4, nI_clamp (by omega)]
    · refine ⟨_, s_workAll (d := 17) tC3 t v.2.1.1 frC32 hC7 (by decide) x.1.2.1.2.1 v.2.1.2.1.b, ?_⟩
      rintro k1 ⟨r1, o1⟩
      have x1 := x.off o1 (by decide) (by decide) (by decide)
      obtain ⟨b1, b2, b3⟩ := frC_small v.2.1.1 v.2.1.2.1.b hj
      refine ⟨_, s_billionths (d := 18) (e := -1) frC32 (by omega) (r1 j hj).1 (r1 j hj).2 b1 b2 b3 (by decide) (by decide), ?_⟩
      rintro _ k1 ⟨rfl, rfl⟩
      refine ⟨?_, x1⟩
      unfold pu_worked
      rw [if_pos z, if_pos ⟨y1, y2⟩, if_pos y3, nI_clamp (by omega)]
  · have z := of_decide_eq_false (bI_0.mp z)
    exact ⟨by unfold pu_worked; rw [if_neg z]; rfl, x⟩
theorem c_exact {p : Int32} (x : CRel h X) (v : StV X) : OkL 20 mX11_exact SC [.ref 1, .int p] h (fun y k => y = pu_exact X p ∧ CRel k X) := by
  have t := x.tx
  have bad : ¬ (¬ p < 0 ∧ p ≤ 1) → (-1000000000000000002 : Int64) = pu_exact X p ∧ CRel h X := fun q => ⟨by unfold pu_exact; rw [if_neg q]; rfl, x⟩
  refine NX11_exact_0 (d := 19) hC1 hC29 hC2 hC32 ⟨fun z => bad (fun q => q.1 z), fun z1 => ⟨fun z2 => ?_, fun z => bad (fun q => z q.2)⟩⟩
  refine ⟨_, s_workAll (d := 17) tC3 t v.2.1.1 frC32 hC7 (by decide) x.1.2.1.2.1 v.2.1.2.1.b, ?_⟩
  rintro k1 ⟨r1, o1⟩
  have x1 := x.off o1 (by decide) (by decide) (by decide)
  have h0 := v.t1
  obtain ⟨b1, b2, b3⟩ := frC_small v.2.1.1 v.2.1.2.1.b (i := 0) (by omega)
  refine ⟨_, s_lowest (d := 18) frC32 (r1 0 (by omega)).1 (r1 0 (by omega)).2 b1 b2 b3, ?_⟩
  rintro _ k1 ⟨rfl, rfl⟩
  have e : pu_exact X p = (if (pfr X 0).2 = 0 then 1000000000000000000 else if p = 0 then Int64.ofInt (nzF (pfr X 0).1 (pfr X 0).2).1 else Int64.ofInt (nzF (pfr X 0).1 (pfr X 0).2).2) := by unfold pu_exact; rw [if_pos ⟨z1, z2⟩]
  rw [e]
  exact ⟨rfl, x1⟩
theorem c_lossAt {d D : Nat} (x : CRel h X) (v : StV X) (hD1 : 1 ≤ D) (hD4 : D ≤ 4) (h1 : h.1 35 0 = nI D) (h2 : h.1 35 1 = nI (pW X.2.1)) : OkL (d + 4) mX8_lossOf SC [.ref 29, .ref 3, .ref 7] h (fun y k => y = loF D (pW X.2.1) (pNu X.2.1) (rw' (pT X.2.1)) (pT X.2.1).length ∧ CRel k X) := by
  refine OkL.post (s_lossOf (d := d) (D := D) (W := pW X.2.1) tC3 x.1.2.1.1 v.2.1.1 stC29 frC32 hC7 (by decide) h1 hD1 hD4 h2 v.2.1.2.2.2.2.2.2 x.2.1.1.2.1 x.1.2.1.2.1 v.2.1.2.1.b) ?_
  rintro y k ⟨e, o1⟩
  exact ⟨e, x.off o1 (by decide) (by decide) (by decide)⟩
theorem c_loss (x : CRel h X) (v : StV X) : OkL 20 mX11_loss SC [.ref 1] h (fun y k => y = pu_loss X ∧ CRel k X) := by
  refine NX11_loss_0 (d := 19) hC1 hC29 hC2 hC35 ⟨_, s_turn hC35, ?_⟩
  rintro _ rfl
  have x1 := x.tu 35 (h.1 2 5) (h.1 2 6) (by decide) (by decide)
  refine ⟨_, c_lossAt (d := 15) (D := pD X.2.1) x1 v v.2.1.2.2.2.2.1 v.2.1.2.2.2.2.2.1 ?_ ?_, ?_⟩
  · rw [u_fi_n _ _ (by decide), u_fi_s]; exact x.1.2.1.2.2.2.2.2.1
  · rw [u_fi_s]; exact x.1.2.1.2.2.2.2.2.2
  rintro _ k ⟨rfl, x2⟩
  exact ⟨rfl, x2⟩
theorem c_worst (x : CRel h X) (v : StV X) : OkI 20 mX11_worst SC [.ref 1] h (fun y k => y = pu_worst X ∧ CRel k X) := by
  have h0 := v.t1
  have h13 := v.t13
  refine NX11_worst_0 (d := 19) hC1 hC29 ⟨_, c_workNow (d := 15) x v, ?_⟩
  rintro k ⟨r1, x1⟩
  refine ⟨_, s_at (by decide) hC30, ?_⟩
  rintro _ k ⟨rfl, rfl⟩
  rw [show (0 : Int32) = nI 0 from rfl, atF_in (by decide) (by decide), (r1 0 (by omega)).1]
  refine ⟨fun z => ?_, fun z => ⟨by unfold pu_worst; rw [if_pos z], x1⟩⟩
  have key : ∀ (m i : Nat) (b : Int32) (mo : Int64), m + i = (pT X.2.1).length → wsF (psl X) m i b mo = pu_worst X → G mX11_worst 20 SC (f_PI (fun y k => y = pu_worst X ∧ CRel k X)) 33 [(0, .ref 1), (1, .int b), (2, .long mo), (4, .int (nI i))] [] k := by
    intro m
    induction m with
    | zero =>
      intro i b mo hm hw
      refine NX11_worst_33 (d := 19) hC1 hC2 hC3 hC29 hC31 ⟨fun _ => ⟨hw, x1⟩, fun q => absurd (by rw [x1.ln]; exact nI_le (by omega) (by omega)) q⟩
    | succ m ih =>
      intro i b mo hm hw
      refine NX11_worst_33 (d := 19) hC1 hC2 hC3 hC29 hC31 ⟨fun q => absurd q (by rw [x1.ln]; exact nI_ge (by omega) (by omega)), fun _ => ⟨fun q => absurd q (nI_ge (a := i) (b := 13) (by omega) (by decide)), fun _ => ⟨vp_in_nI (by omega) (by decide), ?_⟩⟩⟩
      rw [nI_clamp (by omega), (r1 i (by omega)).2, absL_m, nI1]
      unfold wsF at hw
      refine ⟨fun q => ?_, fun q => ?_⟩
      · rw [if_pos q] at hw
        exact ih (i + 1) b mo (by omega) hw
      · rw [if_neg q] at hw
        exact ih (i + 1) (nI i) _ (by omega) hw
  exact key (pT X.2.1).length 0 (-6) 0 (by omega) (by unfold pu_worst; rw [if_neg z])
theorem c_needs {tr : Int64} (x : CRel h X) (v : StV X) : OkI 20 mX11_needs SC [.ref 1, .long tr] h (fun y k => y = pu_needs X tr ∧ CRel k X) := by
  refine NX11_needs_0 (d := 19) ⟨fun z => ?_, fun z => ⟨by unfold pu_needs; rw [if_neg z], x⟩⟩
  have key : ∀ (m j : Nat) (k : fH), m + j = 5 → 1 ≤ j → CRel k X → ndF (fun k => loF k (pW X.2.1) (pNu X.2.1) (rw' (pT X.2.1)) (pT X.2.1).length) tr m j = pu_needs X tr → G mX11_needs 20 SC (f_PI (fun y k => y = pu_needs X tr ∧ CRel k X)) 11 [(0, .ref 1), (1, .long tr), (3, .int (nI j))] [] k := by
    intro m
    induction m with
    | zero =>
      intro j k hm hj xk hw
      have e : j = 5 := by omega
      subst e
      exact NX11_needs_11 (d := 19) hC1 hC29 hC2 hC35 ⟨fun _ => ⟨hw, xk⟩, fun q => absurd (by decide) q⟩
    | succ m ih =>
      intro j k hm hj xk hw
      refine NX11_needs_11 (d := 19) hC1 hC29 hC2 hC35 ⟨fun q => absurd q (nI_nlt (a := 4) (b := j) (by omega) (by decide)), fun _ => ⟨_, s_turn hC35, ?_⟩⟩
      rintro _ rfl
      have x1 := xk.tu 35 (nI j) (k.1 2 6) (by decide) (by decide)
      refine ⟨_, c_lossAt (d := 15) (D := j) x1 v hj (by omega) ?_ ?_, ?_⟩
      · rw [u_fi_n _ _ (by decide), u_fi_s]
      · rw [u_fi_s]; exact xk.1.2.1.2.2.2.2.2.2
      rintro _ k2 ⟨rfl, x2⟩
      rw [absL_m, nI1]
      unfold ndF at hw
      refine ⟨fun q => ?_, fun q => ⟨fun q2 => ?_, fun q2 => ?_⟩⟩
      · rw [if_pos q] at hw
        exact ih (j + 1) k2 (by omega) (by omega) x2 hw
      · rw [if_neg q, if_pos q2] at hw
        exact ih (j + 1) k2 (by omega) (by omega) x2 hw
      · rw [if_neg q, if_neg q2] at hw
        exact ⟨hw, x2⟩
  exact key 4 1 h rfl (by decide) x (by unfold pu_needs; rw [if_pos z])
end CFACE2

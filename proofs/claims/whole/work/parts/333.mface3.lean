/-! ===== the reference's face: terms, sums, orders, bounds, truth, rules ===== -/
section MFACE3
variable {h : fH} {X : stP}
theorem r_term {e : Int64} (x : MRel h X) (v : StV X) : OkI 20 mX12_term SM [.ref 1, .long e] h (fun y k => y = (pu_term X e).1 ∧ MRel k (pu_term X e).2) := by
  have h7 := v.n7
  have hn := x.hn
  have bad : ¬ (¬ e ≤ -10000000000000000 ∧ e < 10000000000000000) → (-2 : Int32) = (pu_term X e).1 ∧ MRel h (pu_term X e).2 := fun q => by
    rw [show pu_term X e = (-2, X) by unfold pu_term; rw [if_neg q]]; exact ⟨rfl, x⟩
  refine NX12_term_0 (d := 19) hM hM13 ⟨fun z => bad (fun q => q.1 z), fun z1 => ⟨fun z2 => ?_, fun z => bad (fun q => z q.2)⟩⟩
  have a1 : -10000000000000000 < e.toInt := by rw [Int64.le_iff_toInt_le] at z1; simp at z1; omega
  have a2 : e.toInt < 10000000000000000 := by rw [Int64.lt_iff_toInt_lt] at z2; simpa using z2
  have q := s_mroundOf (d := 17) (D := pD X.2.1) (W := pW X.2.1) (tiny := false) (x := e) hMi x.hD v.2.1.2.2.2.2.1 v.2.1.2.2.2.2.2.1 v.2.1.2.2.2.2.2.2 (by omega)
  rw [← x.hW] at q
  refine ⟨_, q, ?_⟩
  rintro _ k ⟨rfl, rfl⟩
  refine ⟨fun z3 => ⟨fun z4 => ?_, fun z4 => ?_⟩, fun z3 => ?_⟩
  · rw [hn] at z4 ⊢
    have hl : pN X.2.1 < 7 := by
      rcases Nat.lt_or_ge (pN X.2.1) 7 with w | w
      · exact w
      · exact absurd (by rw [show pN X.2.1 = 7 by omega]; rfl) z4
    refine ⟨vp_in_nI hl (by decide), ?_⟩
    rw [nI_clamp (by omega)]
    intro g1 e1 g2 e3
    rw [show pu_term X e = (nI (pN X.2.1 + 1), X.1, wTe X.2.1 (vp_updL (pTe X.2.1) (pN X.2.1) (ptd X e)) (pN X.2.1 + 1), X.2.2) by unfold pu_term; rw [if_pos ⟨z1, z2⟩, if_neg z3, if_pos hl]]
    have b1 : mF ([0, 1, 10, 22], [], [3, 4, 5], [13]) k g2 := by rw [e3, e1]; exact (mF.rf.al (by decide)).fi (by decide)
    have r22 : g2.1 1 22 = nI (pN X.2.1 + 1) := by rw [e3, u_fi_s, e1, u_al_1, hn, nI1]
    have fo : ∀ j, j ≠ 22 → g2.1 1 j = k.1 1 j := fun j hj => by rw [e3, u_fi_n _ _ hj, e1, u_al_1]
    have ro : g2.2.2.1 = k.2.2.1 := by rw [e3, u_fi_2, e1]; rfl
    obtain ⟨⟨t1, t2⟩, ⟨d1, d2⟩, n1, c1, c2⟩ := id x.2.1
    refine ⟨r22, x.pg b1 ⟨⟨by rw [fo _ (by decide)]; exact t1, fun i hi => by rw [ro]; exact t2 i hi⟩, ⟨by rw [fo _ (by decide)]; exact d1, by rw [fo _ (by decide)]; exact d2⟩, fun i hi => by rw [ro]; exact n1 i hi, r22, fun i hi => ?_⟩⟩
    rw [e3, u_fi_2, e1, u_al_s]
    have hi : i < pN X.2.1 + 1 := hi
    by_cases c : i = pN X.2.1
    · subst c; rw [pk_uLs]; exact pk_uLs.symm
    · rw [pk_uLn c]; exact (c2 i (by omega)).trans (pk_uLn c).symm
  · rw [hn] at z4
    have hl : ¬ pN X.2.1 < 7 := fun w => by
      have := (nI_eq (a := pN X.2.1) (b := 7) (by omega) (by decide)).mp z4
      omega
    rw [show pu_term X e = (-4, X) by unfold pu_term; rw [if_pos ⟨z1, z2⟩, if_neg z3, if_neg hl]]; exact ⟨rfl, x⟩
  · rw [show pu_term X e = (-2, X) by unfold pu_term; rw [if_pos ⟨z1, z2⟩, if_pos z3]]; exact ⟨rfl, x⟩
theorem r_clear (x : MRel h X) : OkI 20 mX12_clear SM [.ref 1] h (fun y k => y = (pu_clear X).1 ∧ MRel k (pu_clear X).2) := by
  refine NX12_clear_0 (d := 20) hM ?_
  intro g1 e1
  obtain ⟨⟨t1, t2⟩, ⟨d1, d2⟩, n1, c1, c2⟩ := id x.2.1
  refine ⟨x.hn, x.pg (by rw [e1]; exact mF.rf.fi (by decide)) ⟨⟨by rw [e1, u_fi_n _ _ (by decide)]; exact t1, fun i hi => by rw [e1]; exact t2 i hi⟩, ⟨by rw [e1, u_fi_n _ _ (by decide)]; exact d1, by rw [e1, u_fi_n _ _ (by decide)]; exact d2⟩, fun i hi => by rw [e1]; exact n1 i hi, by rw [e1, u_fi_s]; rfl, fun i hi => absurd hi (Nat.not_lt_zero i)⟩⟩
theorem r_about {t : Int32} (x : MRel h X) (v : StV X) : OkL 20 mX12_about SM [.ref 1, .int t] h (fun y k => y = pu_about X t ∧ MRel k X) := by
  have h7 := v.n7
  refine NX12_about_0 (d := 19) hM hM13 ?_
  rw [x.hn]
  refine ⟨_, s_inN (by omega), ?_⟩
  rintro _ k ⟨rfl, rfl⟩
  refine ⟨fun z => ?_, fun z => ?_⟩
  · have z := of_decide_eq_false (bI_0.mp z)
    exact ⟨by unfold pu_about; rw [if_neg z]; rfl, x⟩
  · have z := of_decide_eq_true (bI_n0.mp z)
    obtain ⟨j, hj, rfl⟩ := in_n (by omega) z
    refine ⟨vp_in_nI (by omega) (by decide), ?_, x⟩
    unfold pu_about
    rw [if_pos z, nI_clamp (by omega)]
    exact x.2.1.2.2.2.2 j hj
theorem r_sum {w : Int32} (x : MRel h X) (v : StV X) : OkL 20 mX12_sum SM [.ref 1, .int w] h (fun y k => y = pu_sum X w ∧ MRel k X) := by
  have hn := x.hn
  have h7 := v.n7
  refine NX12_sum_0 (d := 19) hM ⟨_, s_in32 (lo := 0) (hi := 4) rfl rfl, ?_⟩
  rintro _ k ⟨rfl, rfl⟩
  refine ⟨fun z => ⟨fun z3 => ?_, fun z3 => ?_⟩, fun z => ?_⟩
  · have z := of_decide_eq_true (bI_n0.mp z)
    have zw : ¬ w < 0 ∧ w ≤ 4 := ⟨Int32.not_lt.mpr z.1, z.2⟩
    rw [hn] at z3
    have h1 : 1 ≤ pN X.2.1 := by
      rcases Nat.eq_zero_or_pos (pN X.2.1) with q | q
      · rw [q] at z3; exact absurd rfl z3
      · exact q
    have e : pu_sum X w = (if w = 0 then smA (pD X.2.1) (pW X.2.1) (pTe X.2.1) id 0 (pN X.2.1) else if w = 1 then bsF (pD X.2.1) (pW X.2.1) (pTe X.2.1) (pN X.2.1) 0 0 0
     else if w = 2 then hfF (pD X.2.1) (pW X.2.1) (pTe X.2.1) 3 0 (pN X.2.1) else if w = 3 then smA (pD X.2.1) (pW X.2.1) (pTe X.2.1) (bzF (pTe X.2.1) (pN X.2.1)) 0 (pN X.2.1) else whF (pTe X.2.1) (pN X.2.1)) := by
      unfold pu_sum; rw [if_pos zw, if_neg (by omega)]
    rw [e]
    refine ⟨_, s_layOrder (x.tm v), ?_⟩
    rintro k1 ⟨o1, f1⟩
    have x1 := x.of f1 (by decide)
    refine ⟨fun y1 => ⟨fun y2 => ⟨fun y3 => ⟨fun y4 => ?_, fun y4 => ?_⟩, fun y3 => ?_⟩, fun y2 => ?_⟩, fun y1 => ?_⟩
    · have y0 : w = 0 := by
        obtain ⟨j, hj, rfl⟩ := nI_of2 (M := 4) (n := 4) rfl zw.1 zw.2
        rcases (show j = 0 ∨ j = 1 ∨ j = 2 ∨ j = 3 ∨ j = 4 by omega) with rfl | rfl | rfl | rfl | rfl
        · rfl
        · exact absurd rfl y1
        · exact absurd rfl y2
        · exact absurd rfl y3
        · exact absurd rfl y4
      rw [x1.hn, show (0 : Int32) = nI 0 from rfl]
      refine ⟨_, s_sumOf (d := 15) (x1.dw v) (x1.tm v) o1 (by omega) (Nat.le_refl _), ?_⟩
      rintro _ k2 ⟨rfl, f2⟩
      exact ⟨by rw [if_pos (show w = nI 0 from y0)], x1.of f2 (by decide)⟩
    · refine ⟨_, s_wholeSum (x1.tm v), ?_⟩
      rintro _ k2 ⟨rfl, rfl⟩
      exact ⟨by rw [if_neg (by rw [y4]; decide), if_neg y1, if_neg y2, if_neg y3], x1⟩
    · refine ⟨_, s_orderBySize (d := 18) (x1.tm v) o1 h1, ?_⟩
      rintro k2 ⟨o2, f2⟩
      have x2 := x1.of f2 (by decide)
      refine ⟨fun y4 => ?_, fun y4 => absurd y4 (by rw [y3]; decide)⟩
      rw [x2.hn, show (0 : Int32) = nI 0 from rfl]
      refine ⟨_, s_sumOf (d := 15) (x2.dw v) (x2.tm v) o2 (by omega) (Nat.le_refl _), ?_⟩
      rintro _ k3 ⟨rfl, f3⟩
      exact ⟨by rw [if_neg (by rw [y3]; decide), if_neg y1, if_neg y2, if_pos y3], x2.of f3 (by decide)⟩
    · refine ⟨_, s_mhalves (d := 13) (x1.dw v) (x1.tm v) o1 h1, ?_⟩
      rintro _ k2 ⟨rfl, f2⟩
      exact ⟨by rw [if_neg (by rw [y2]; decide), if_neg y1, if_pos y2], x1.of f2 (by decide)⟩
    · refine ⟨_, s_mbeside (d := 15) (x1.dw v) (x1.tm v), ?_⟩
      rintro _ k2 ⟨rfl, f2⟩
      exact ⟨by rw [if_neg (by rw [y1]; decide), if_pos y1], x1.of f2 (by decide)⟩
  · have z := of_decide_eq_true (bI_n0.mp z)
    rw [hn] at z3
    have h0 : pN X.2.1 = 0 := (nI_eq (a := pN X.2.1) (b := 0) (by omega) (by decide)).mp z3
    exact ⟨by unfold pu_sum; rw [if_pos ⟨Int32.not_lt.mpr z.1, z.2⟩, if_pos h0]; rfl, x⟩
  · have z := of_decide_eq_false (bI_0.mp z)
    exact ⟨by unfold pu_sum; rw [if_neg (fun q => z ⟨Int32.not_lt.mp q.1, q.2⟩)]; rfl, x⟩
theorem r_orders {m : Int32} (x : MRel h X) (v : StV X) : OkL 20 mX12_orders SM [.ref 1, .int m] h (fun y k => y = pu_orders X m ∧ MRel k X) := by
  refine NX12_orders_0 (d := 19) hM ⟨_, s_isEnd, ?_⟩
  rintro _ k ⟨rfl, rfl⟩
  refine ⟨fun z => ?_, fun z => ?_⟩
  · have z := isEnd_iff.mp (of_decide_eq_true (bI_n0.mp z))
    obtain ⟨j, hj, rfl⟩ := nI_of2 (M := 1) (n := 1) rfl z.1 z.2
    refine ⟨_, s_findOrders (d := 13) hj (x.dw v) (x.tm v), ?_⟩
    rintro k1 ⟨r1, f1⟩
    have x1 := x.of f1 (by decide)
    have e : pu_orders X (nI j) = (if nI (por X j).1 = 0 then LO6 else (por X j).2.1) := by unfold pu_orders; rw [if_pos z, nI_clamp (by omega)]
    rw [e, r1.1.1]
    refine ⟨fun q => ⟨?_, x1⟩, fun q => ⟨by rw [if_pos q]; rfl, x1⟩⟩
    rw [if_neg q]
    exact (r1.2 (fun w => q (by rw [w]; rfl))).1
  · have z := of_decide_eq_false (bI_0.mp z)
    exact ⟨by unfold pu_orders; rw [if_neg (fun q => z (isEnd_iff.mpr q))]; rfl, x⟩
theorem r_order {m i : Int32} (x : MRel h X) (v : StV X) : OkI 20 mX12_order SM [.ref 1, .int m, .int i] h (fun y k => y = pu_order X m i ∧ MRel k X) := by
  have h7 := v.n7
  refine NX12_order_0 (d := 19) hM hM15 ⟨_, s_isEnd, ?_⟩
  rintro _ k ⟨rfl, rfl⟩
  refine ⟨fun z => ?_, fun z => ?_⟩
  · have z := isEnd_iff.mp (of_decide_eq_true (bI_n0.mp z))
    obtain ⟨j, hj, rfl⟩ := nI_of2 (M := 1) (n := 1) rfl z.1 z.2
    refine ⟨_, s_findOrders (d := 13) hj (x.dw v) (x.tm v), ?_⟩
    rintro k1 ⟨r1, f1⟩
    have x1 := x.of f1 (by decide)
    have e : pu_order X (nI j) i = (if nI (por X j).1 = 0 then -6 else if i = -1 then nI (por X j).1 else if 0 ≤ i ∧ i < nI (pN X.2.1) then nI ((por X j).2.2.getD i.toNatClampNeg 0) else -6) := by unfold pu_order; rw [if_pos z, nI_clamp (by omega)]
    rw [e, r1.1.1, x1.hn]
    refine ⟨fun q => ⟨fun y => ?_, fun y => ⟨by rw [if_neg q, if_pos y], x1⟩⟩, fun q => ⟨by rw [if_pos q], x1⟩⟩
    refine ⟨_, s_inN (by omega), ?_⟩
    rintro _ k1 ⟨rfl, rfl⟩
    refine ⟨fun u => ?_, fun u => ?_⟩
    · have u := of_decide_eq_false (bI_0.mp u)
      exact ⟨by rw [if_neg q, if_neg y, if_neg u], x1⟩
    · have u := of_decide_eq_true (bI_n0.mp u)
      obtain ⟨i', hi, rfl⟩ := in_n (by omega) u
      refine ⟨vp_in_nI (by omega) (by decide), ?_, x1⟩
      rw [if_neg q, if_neg y, if_pos u, nI_clamp (by omega)]
      exact (r1.2 (fun w => q (by rw [w]; rfl))).2 i' hi
  · have z := of_decide_eq_false (bI_0.mp z)
    exact ⟨by unfold pu_order; rw [if_neg (fun q => z (isEnd_iff.mpr q))], x⟩
theorem MRel.txv (x : MRel h X) (v : StV X) : TxV (h.2.2.1 3) (pT X.2.1).length := TxV.congr (t := rw' (pT X.2.1)) v.2.1.1 (fun i hi => (x.tx.2 i hi).symm)
theorem r_bounds {e : Int32} (x : MRel h X) (v : StV X) : OkL 20 mX12_bounds SM [.ref 1, .int e] h (fun y k => y = pu_bounds X e ∧ MRel k X) := by
  have h0 := v.t1
  refine NX12_bounds_0 (d := 19) hM hM17 hM16 ⟨_, s_isEnd, ?_⟩
  rintro _ k ⟨rfl, rfl⟩
  refine ⟨fun z => ?_, fun z => ?_⟩
  · have z := isEnd_iff.mp (of_decide_eq_true (bI_n0.mp z))
    refine ⟨_, s_findEnds (d := 13) (D := pD X.2.1) x.ln (x.txv v) rfl x.hD v.2.1.2.2.2.2.1 v.2.1.2.2.2.2.2.1 rfl (x.nmB v) rfl (fun j hj => by rw [(x.2.1.2.2.1 j hj).2]; exact v.2.1.2.2.1 j hj), ?_⟩
    rintro k1 ⟨r1, f1⟩
    have x1 := x.of f1 (by decide)
    obtain ⟨⟨o, hvo⟩, _⟩ := x.txv v
    have ev0 : spF (pD X.2.1) (mNum k) (k.2.2.1 5) (k.2.2.1 3) (pT X.2.1).length 0 = pbo X := by
      rw [spF_c (fun j hj => x.nu hj) (fun j hj => (x.2.1.2.2.1 j hj).2)]
      exact ev_congr hvo x.tx.2 0 (by omega)
    have r2 := r1 0 (by omega)
    rw [ev0] at r2
    refine ⟨fun y => ⟨vp_in_nI (n := 0) (by decide) (by decide), ?_, x1⟩, fun y => ⟨vp_in_nI (n := 0) (by decide) (by decide), ?_, x1⟩⟩
    · rw [show (0 : Int32).toNatClampNeg = 0 from rfl, r2.2]
      unfold pu_bounds
      rw [if_pos z, if_neg y]
    · rw [show (0 : Int32).toNatClampNeg = 0 from rfl, r2.1]
      unfold pu_bounds
      rw [if_pos z, if_pos y]
  · have z := of_decide_eq_false (bI_0.mp z)
    exact ⟨by unfold pu_bounds; rw [if_neg (fun q => z (isEnd_iff.mpr q))]; rfl, x⟩
theorem r_truth {e : Int32} (x : MRel h X) (v : StV X) : OkL 20 mX12_truth SM [.ref 1, .int e] h (fun y k => pr_truth X e y ∧ MRel k X) := by
  have h0 := v.t1
  refine NX12_truth_0 (d := 19) hM ⟨_, s_isEnd, ?_⟩
  rintro _ k ⟨rfl, rfl⟩
  refine ⟨fun z => ?_, fun z => ?_⟩
  · have z := of_decide_eq_false (bI_0.mp z)
    exact ⟨by unfold pr_truth; rw [if_neg (fun q => z (isEnd_iff.mpr q))]; rfl, x⟩
  · have z := isEnd_iff.mp (of_decide_eq_true (bI_n0.mp z))
    obtain ⟨j, hj, rfl⟩ := nI_of2 (M := 1) (n := 1) rfl z.1 z.2
    have nu4 : ∀ j, j < 5 → k.2.2.1 4 j = pNu X.2.1 j := fun j hj => (x.2.1.2.2.1 j hj).1
    refine ⟨_, s_truthOf (d := 14) (gw := gwF (pSp X.2.1)) hj x.ln rfl (x.txv v) rfl (fun j hj => by rw [nu4 j hj]; exact v.2.1.2.1 j hj) (fun j hj => by rw [(x.2.1.2.2.1 j hj).2]; exact gwF_is v.2.1.2.2.1 hj) (gwF_le v.2.1.2.2.1) x.2.2.2.2, ?_⟩
    rintro _ k1 ⟨⟨V, rfl, tv⟩, z1, f1⟩
    obtain ⟨⟨o, hvo⟩, _⟩ := x.txv v
    refine ⟨?_, ?_⟩
    · unfold pr_truth
      rw [if_pos z, nI_clamp (by omega)]
      refine ⟨V, rfl, ?_⟩
      rw [wdF_c hvo h0 x.tx.2] at tv
      exact TrOk_c nu4 hvo h0 x.tx.2 tv
    · have f2 : mF ([14], [], [6, 7, 12], [10, 11]) k k1 := f1
      obtain ⟨⟨a1, a2⟩, ⟨⟨t1, t2⟩, ⟨d1, d2⟩, n1, c1, c2⟩, i0, i1, _⟩ := x
      exact ⟨⟨by rw [f2.1 _ (by decide)]; exact a1, fun i hi => by rw [f2.2.2.1 _ (by decide)]; exact a2 i hi⟩, ⟨⟨by rw [f2.1 _ (by decide)]; exact t1, fun i hi => by rw [f2.2.2.1 _ (by decide)]; exact t2 i hi⟩, ⟨by rw [f2.1 _ (by decide)]; exact d1, by rw [f2.1 _ (by decide)]; exact d2⟩, fun i hi => by rw [f2.2.2.1 _ (by decide), f2.2.2.1 _ (by decide)]; exact n1 i hi, by rw [f2.1 _ (by decide)]; exact c1, fun i hi => by rw [f2.2.2.2 _ (by decide)]; exact c2 i hi⟩, i0.of (f2.2.2.2 _ (by decide)) (f2.2.2.1 _ (by decide)), i1.of (f2.2.2.2 _ (by decide)) (f2.2.2.1 _ (by decide)), z1⟩
theorem isRule_iff {p : Int32} : (0 ≤ p ∧ p ≤ 6) ↔ (¬ p < 0 ∧ p < 7) := by
  rw [Int32.not_lt, Int32.le_iff_toInt_le (y := 6), Int32.lt_iff_toInt_lt (y := 7)]
  simp
  omega
theorem r_fits {r s : Int32} (x : MRel h X) (v : StV X) : OkI 20 mX12_fits SM [.ref 1, .int r, .int s] h (fun y k => y = pu_fits X r s ∧ MRel k X) := by
  have h13 := v.t13
  refine NX12_fits_0 (d := 19) hM ⟨_, r_isStep (d := 18) x v, ?_⟩
  rintro _ k ⟨rfl, rfl⟩
  refine ⟨fun z => ?_, fun z => ?_⟩
  · have z := of_decide_eq_true (bI_n0.mp z)
    refine ⟨_, s_isRule, ?_⟩
    rintro _ k ⟨rfl, rfl⟩
    refine ⟨fun y => ?_, fun y => ?_⟩
    · have y := isRule_iff.mp (of_decide_eq_true (bI_n0.mp y))
      obtain ⟨j, hj, rfl⟩ := in_n (by omega) z
      obtain ⟨q, hq, rfl⟩ := in_n (p := r) (n := 7) (by decide) ⟨Int32.not_lt.mp y.1, y.2⟩
      have e : pu_fits X (nI q) (nI j) = bI (okR q (rw' (pT X.2.1)) (pT X.2.1).length j) := by unfold pu_fits pok; rw [if_pos z, if_pos y, nI_clamp (by omega), nI_clamp (by omega)]
      rw [e]
      refine ⟨_, r_lay x v, ?_⟩
      rintro k1 ⟨N1, x1, -⟩
      refine ⟨_, s_build (d := 16) N1 v.2.1.1 hj (by omega), ?_⟩
      rintro _ k2 ⟨rfl, -, f2⟩
      have x2 := x1.of f2 (by decide)
      exact ⟨fun w => ⟨w.symm, x2⟩, fun w => ⟨by rw [bI_n0.mp w]; rfl, x2⟩⟩
    · have y := of_decide_eq_false (bI_0.mp y)
      exact ⟨by unfold pu_fits; rw [if_pos z, if_neg (fun q => y (isRule_iff.mpr q))], x⟩
  · have z := of_decide_eq_false (bI_0.mp z)
    exact ⟨by unfold pu_fits; rw [if_neg z], x⟩
theorem r_change {r s : Int32} (x : MRel h X) (v : StV X) : OkI 20 mX12_change SM [.ref 1, .int r, .int s] h (fun y k => y = (pu_change X r s).1 ∧ MRel k (pu_change X r s).2) := by
  have h13 := v.t13
  refine NX12_change_0 (d := 19) hM ⟨_, r_isStep (d := 18) x v, ?_⟩
  rintro _ k ⟨rfl, rfl⟩
  refine ⟨fun z => ?_, fun z => ?_⟩
  · have z := of_decide_eq_true (bI_n0.mp z)
    refine ⟨_, s_isRule, ?_⟩
    rintro _ k ⟨rfl, rfl⟩
    refine ⟨fun y => ?_, fun y => ?_⟩
    · have y := isRule_iff.mp (of_decide_eq_true (bI_n0.mp y))
      obtain ⟨j, hj, rfl⟩ := in_n (by omega) z
      obtain ⟨q, hq, rfl⟩ := in_n (p := r) (n := 7) (by decide) ⟨Int32.not_lt.mp y.1, y.2⟩
      have e : pu_change X (nI q) (nI j) = (if okR q (rw' (pT X.2.1)) (pT X.2.1).length j = true then (nI (wrL q (rw' (pT X.2.1)) (pT X.2.1).length j).length, X.1, wT X.2.1 (wrL q (rw' (pT X.2.1)) (pT X.2.1).length j), X.2.2) else (-5, X)) := by unfold pu_change pok pwr; rw [if_pos z, if_pos y, nI_clamp (by omega), nI_clamp (by omega)]
      rw [e]
      refine ⟨_, r_lay x v, ?_⟩
      rintro k1 ⟨N1, x1, -⟩
      refine ⟨_, s_build (d := 16) N1 v.2.1.1 hj (by omega), ?_⟩
      rintro _ k2 ⟨rfl, r2, f2⟩
      have x2 := x1.of f2 (by decide)
      refine ⟨fun w => ?_, fun w => ?_⟩
      · have w := bI_n0.mp w
        rw [if_pos w]
        have mb := r2 w
        have l13 : (wrL q (rw' (pT X.2.1)) (pT X.2.1).length j).length ≤ 13 := (wr_ok v.2.1.1 hj w).2.1
        generalize wrL q (rw' (pT X.2.1)) (pT X.2.1).length j = L at mb l13
        have key : ∀ (m i : Nat) (g : fH), m + i = L.length → mF ([], [], [3], []) k2 g → (∀ j, j < i → g.2.2.1 3 j = rw' L j) → G mX12_change 20 SM (f_PI (fun y k => y = nI L.length ∧ MRel k (X.1, wT X.2.1 L, X.2.2))) 38 [(0, .ref 1), (3, .int (nI i))] [] g := by
          intro m
          induction m with
          | zero =>
            intro i g hm fg hr
            have e30 : g.1 1 30 = nI L.length := by rw [fg.1 30 (by decide)]; exact mb.1
            refine NX12_change_38 (d := 19) hM hM18 hM3 ⟨fun _ => ?_, fun u => absurd (by rw [e30]; exact nI_le (by omega) (by omega)) u⟩
            intro g1 e1
            rw [e30] at e1
            have b1 : mF ([0, 1, 10, 22], [], [3, 4, 5], [13]) k2 g1 := by rw [e1]; exact (fg.mono (by decide)).fi (by decide)
            have r10 : g1.1 1 10 = nI L.length := by rw [e1, u_fi_s]
            refine ⟨r10, x2.pg b1 ?_⟩
            obtain ⟨⟨t1, t2⟩, ⟨d1, d2⟩, n1, c1, c2⟩ := x2.2.1
            refine ⟨⟨r10, fun i hi => ?_⟩, ⟨?_, ?_⟩, fun j hj => ?_, ?_, fun j hj => ?_⟩
            · rw [e1, u_fi_2]; exact hr i (by have : i < L.length := hi; omega)
            · rw [e1, u_fi_n _ _ (by decide), fg.1 _ (by decide)]; exact d1
            · rw [e1, u_fi_n _ _ (by decide), fg.1 _ (by decide)]; exact d2
            · rw [e1, u_fi_2, fg.2.2.1 _ (by decide), fg.2.2.1 _ (by decide)]; exact n1 j hj
            · rw [e1, u_fi_n _ _ (by decide), fg.1 _ (by decide)]; exact c1
            · rw [e1, u_fi_2, fg.2.2.2 _ (by decide)]; exact c2 j hj
          | succ m ih =>
            intro i g hm fg hr
            have e30 : g.1 1 30 = nI L.length := by rw [fg.1 30 (by decide)]; exact mb.1
            refine NX12_change_38 (d := 19) hM hM18 hM3 ⟨fun u => absurd u (by rw [e30]; exact nI_ge (by omega) (by omega)), fun _ => ⟨vp_in_nI (by omega) (by decide), vp_in_nI (by omega) (by decide), ?_⟩⟩
            rw [nI_clamp (by omega), nI1]
            intro g1 e1
            refine ih (i + 1) g1 (by omega) (by rw [e1]; exact fg.ai (by decide)) (fun j hj => ?_)
            rw [e1, u_ai_s]
            by_cases c : j = i
            · subst c; rw [upd_s, fg.2.2.1 18 (by decide)]; exact mb.2 j (by omega)
            · rw [upd_n _ _ c]; exact hr j (by omega)
        exact key L.length 0 k2 (by omega) mF.rf (fun j hj => by omega)
      · rw [if_neg (by rw [bI_0.mp w]; decide)]
        exact ⟨rfl, x2⟩
    · have y := of_decide_eq_false (bI_0.mp y)
      rw [show pu_change X r s = (-2, X) by unfold pu_change; rw [if_pos z, if_neg (fun q => y (isRule_iff.mpr q))]]; exact ⟨rfl, x⟩
  · have z := of_decide_eq_false (bI_0.mp z)
    rw [show pu_change X r s = (-1, X) by unfold pu_change; rw [if_neg z]]; exact ⟨rfl, x⟩
theorem in2_iff {p : Int32} : (0 ≤ p ∧ p ≤ 2) ↔ (¬ p < 0 ∧ p ≤ 2) := ⟨fun q => ⟨Int32.not_lt.mpr q.1, q.2⟩, fun q => ⟨Int32.not_lt.mp q.1, q.2⟩⟩
theorem r_findBetter {R : Nat} (hR : R ≤ 2) (x : MRel h X) (v : StV X) : OkV 19 mX12_findBetter SM [.ref 1, .int (nI R)] h (fun k => BmOk k (btF (pD X.2.1) (pW X.2.1) (pNu X.2.1) R (pT X.2.1)) ∧ MRel k X) := by
  refine OkV.post (s_mfindBetter (d := 11) (R := R) x.tx v.2.1.1 (x.st v) hR) ?_
  rintro k ⟨b1, f1⟩
  rw [btF_c (fun j hj => x.nu hj)] at b1
  exact ⟨b1, x.of f1 (by decide)⟩
theorem r_better {r : Int32} (x : MRel h X) (v : StV X) : OkL 20 mX12_better SM [.ref 1, .int r] h (fun y k => y = pu_better X r ∧ MRel k X) := by
  refine NX12_better_0 (d := 19) hM ⟨_, s_in32 (lo := 0) (hi := 2) rfl rfl, ?_⟩
  rintro _ k ⟨rfl, rfl⟩
  refine ⟨fun z => ?_, fun z => ?_⟩
  · have z := in2_iff.mp (of_decide_eq_true (bI_n0.mp z))
    obtain ⟨R, hR, rfl⟩ := nI_of2 (M := 2) (n := 2) rfl z.1 z.2
    refine ⟨_, r_findBetter hR x v, ?_⟩
    rintro k1 ⟨b1, x1⟩
    have e : pu_better X (nI R) = beA (btF (pD X.2.1) (pW X.2.1) (pNu X.2.1) R (pT X.2.1)) := by unfold pu_better pbt; rw [if_pos z, nI_clamp (by omega)]
    rw [e]
    cases hb : btF (pD X.2.1) (pW X.2.1) (pNu X.2.1) R (pT X.2.1) with
    | none =>
      rw [hb] at b1
      have b1 : k1.1 1 32 = 0 := b1
      exact ⟨fun w => absurd b1 w, fun _ => ⟨rfl, x1⟩⟩
    | some q =>
      obtain ⟨l, U⟩ := q
      rw [hb] at b1
      obtain ⟨b2, b3, b4, b5, b6⟩ := b1
      have u1 := b6.pos
      have u2 : U.length ≤ 13 := b6.2.1
      exact ⟨fun w => ⟨b3, x1⟩, fun w => absurd w (by rw [b2]; exact nI_ne0 (by omega) (by omega))⟩
  · have z := of_decide_eq_false (bI_0.mp z)
    exact ⟨by unfold pu_better; rw [if_neg (fun q => z (in2_iff.mpr q))]; rfl, x⟩
theorem r_betterSign {r i : Int32} (x : MRel h X) (v : StV X) : OkI 20 mX12_betterSign SM [.ref 1, .int r, .int i] h (fun y k => y = pu_betterSign X r i ∧ MRel k X) := by
  refine NX12_betterSign_0 (d := 19) hM hM19 ⟨_, s_in32 (lo := 0) (hi := 2) rfl rfl, ?_⟩
  rintro _ k ⟨rfl, rfl⟩
  refine ⟨fun z => ?_, fun z => ?_⟩
  · have z := in2_iff.mp (of_decide_eq_true (bI_n0.mp z))
    obtain ⟨R, hR, rfl⟩ := nI_of2 (M := 2) (n := 2) rfl z.1 z.2
    refine ⟨_, r_findBetter hR x v, ?_⟩
    rintro k1 ⟨b1, x1⟩
    have e : pu_betterSign X (nI R) i = beS i (btF (pD X.2.1) (pW X.2.1) (pNu X.2.1) R (pT X.2.1)) := by unfold pu_betterSign pbt; rw [if_pos z, nI_clamp (by omega)]
    rw [e]
    cases hb : btF (pD X.2.1) (pW X.2.1) (pNu X.2.1) R (pT X.2.1) with
    | none =>
      rw [hb] at b1
      have b1 : k1.1 1 32 = nI 0 := b1
      rw [b1]
      have no : ∀ q : Int32, ¬ (0 ≤ q ∧ q < nI 0) := fun q w => Int32.not_lt.mpr w.1 w.2
      refine ⟨fun y => ?_, fun y => ⟨fun y1 => ?_, fun y1 => absurd (by decide) y1⟩⟩
      · refine ⟨_, s_inN (by decide), ?_⟩
        rintro _ k1 ⟨rfl, rfl⟩
        rw [decide_eq_false (no i)]
        exact ⟨fun _ => ⟨rfl, x1⟩, fun w => absurd rfl w⟩
      · refine ⟨_, s_inN (by decide), ?_⟩
        rintro _ k1 ⟨rfl, rfl⟩
        rw [decide_eq_false (no i)]
        exact ⟨fun _ => ⟨rfl, x1⟩, fun w => absurd rfl w⟩
    | some q =>
      obtain ⟨l, U⟩ := q
      rw [hb] at b1
      obtain ⟨b2, b3, b4, b5, b6⟩ := b1
      have u1 := b6.pos
      have u2 : U.length ≤ 13 := b6.2.1
      rw [b2]
      refine ⟨fun y => ?_, fun y => ⟨fun y1 => absurd y1 (nI_nle (by omega) (by omega)), fun y1 => ⟨by rw [beS_some, if_pos y], x1⟩⟩⟩
      refine ⟨_, s_inN (by omega), ?_⟩
      rintro _ k1 ⟨rfl, rfl⟩
      refine ⟨fun w => ?_, fun w => ?_⟩
      · have w := of_decide_eq_false (bI_0.mp w)
        exact ⟨by rw [beS_some, if_neg y, if_neg w], x1⟩
      · have w := of_decide_eq_true (bI_n0.mp w)
        obtain ⟨j, hj, rfl⟩ := in_n (by omega) w
        refine ⟨vp_in_nI (by omega) (by decide), ?_, x1⟩
        rw [beS_some, if_neg y, if_pos w, nI_clamp (by omega)]
        exact b5 j hj
  · have z := of_decide_eq_false (bI_0.mp z)
    exact ⟨by unfold pu_betterSign; rw [if_neg (fun q => z (in2_iff.mpr q))], x⟩
end MFACE3

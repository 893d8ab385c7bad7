/-! ===== the class's face: terms, sums, orders, bounds, truth ===== -/
section CFACE3
variable {h : fH} {X : stP}
theorem CCo.te (x : CCo h X) {g1 g2 : fH} (v : StV X) (hn : pN X.2.1 < 7) {e : Int64} (e1 : g1 = u_al h 9 (vp_updL (h.2.2.2 9) (pN X.2.1) e)) (e2 : g2 = u_fi g1 2 4 ((g1.1 2 4) + 1)) : CCo g2 (X.1, wTe X.2.1 (vp_updL (pTe X.2.1) (pN X.2.1) e) (pN X.2.1 + 1), X.2.2) := by
  obtain ⟨y1, y2, y3, y4, y5, y6, y7⟩ := id x.2.1
  have z := x.2.2.2.2.1
  have o : fOff [2, 9] h g2 := by rw [e2, e1]; exact (fOff.rf.of (f_off_al _ _ _) (by simp)).of (f_off_fi _ _ _ _) (by simp)
  have r : g2.2.2.2 9 = vp_updL (h.2.2.2 9) (pN X.2.1) e := by rw [e2, u_fi_2, e1, u_al_s]
  refine x.pg (o.mono (by simp)) ⟨y1.off o (by decide) (by decide) (by decide) (by decide), ?_, ?_, ?_, ?_, ?_, ?_⟩ ⟨?_, ?_, ?_⟩
  · rw [(o 7 (by decide)).2.2.1]; exact y2
  · rw [(o 8 (by decide)).2.2.1]; exact y3
  · rw [r, y4]; rfl
  · rw [e2, u_fi_s, e1, u_al_1, y5, nI1]; rfl
  · rw [e2, u_fi_n _ _ (by decide), e1, u_al_1]; exact y6
  · rw [e2, u_fi_n _ _ (by decide), e1, u_al_1]; exact y7
  · rw [(o 7 (by decide)).2.2.1]; exact z.1
  · rw [(o 8 (by decide)).2.2.1]; exact z.2.1
  · rw [r]; exact fun q hq => by rw [pk_uLn (by omega)]; exact z.2.2 q hq
theorem c_term {e : Int64} (x : CRel h X) (v : StV X) : OkI 20 mX11_term SC [.ref 1, .long e] h (fun y k => y = (pu_term X e).1 ∧ CRel k (pu_term X e).2) := by
  have bad : ¬ (¬ e ≤ -10000000000000000 ∧ e < 10000000000000000) → (-2 : Int32) = (pu_term X e).1 ∧ CRel h (pu_term X e).2 := fun q => by
    rw [show pu_term X e = (-2, X) by unfold pu_term; rw [if_neg q]]; exact ⟨rfl, x⟩
  refine NX11_term_0 (d := 19) hC1 hC27 hC2 hC28 hC9 ⟨fun z => bad (fun q => q.1 z), fun z1 => ⟨fun z2 => ?_, fun z => bad (fun q => z q.2)⟩⟩
  refine ⟨_, s_hold hC27, ?_⟩
  rintro _ rfl
  refine ⟨_, s_turn hC28, ?_⟩
  intro k2 e2
  have x1 := x.off (fOff_hold h 27 e 1 0) (by decide) (by decide) (by decide)
  have x2 := x1.tu 28 ((holdH h 27 e 1 0).1 2 5) ((holdH h 27 e 1 0).1 2 6) (by decide) (by decide)
  rw [← e2] at x2
  have eu : k2.2.1 27 0 = e := by rw [e2]; exact holdH_u h 27 e 1 0
  have a1 : -10000000000000000 < e.toInt := by rw [Int64.le_iff_toInt_le] at z1; simp at z1; omega
  have a2 : e.toInt < 10000000000000000 := by rw [Int64.lt_iff_toInt_lt] at z2; simpa using z2
  refine ⟨_, s_of (D := pD X.2.1) (W := pW X.2.1) (tiny := false) (d0 := 1) (t := 0) hC28 hC27 ?_ v.2.1.2.2.2.2.1 v.2.1.2.2.2.2.2.1 ?_ v.2.1.2.2.2.2.2.2 x2.2.1.1.1 ?_ (by decide) (by decide) ?_ ?_ (by decide) (by decide), ?_⟩
  · rw [e2, u_fi_n _ _ (by decide), u_fi_s]; exact x1.1.2.1.2.2.2.2.2.1
  · rw [e2, u_fi_s]; exact x1.1.2.1.2.2.2.2.2.2
  · rw [eu]; omega
  · rw [e2]; exact holdH_l h 27 e 1 0
  · rw [e2, u_fi_o _ _ _ (by decide), u_fi_o _ _ _ (by decide), holdH_t]; rfl
  rintro _ k2 ⟨rfl, rfl⟩
  rw [eu]
  have hn := x2.hn
  have h7 := v.n7
  refine ⟨fun z3 => ⟨fun z4 => ?_, fun z4 => ?_⟩, fun z3 => ?_⟩
  · rw [hn] at z4 ⊢
    have hl : pN X.2.1 < 7 := (nI_ltI (a := pN X.2.1) (b := 7) (by omega) (by decide)).mp z4
    refine ⟨vp_in_nI hl (by decide), ?_⟩
    rw [nI_clamp (by omega)]
    intro g1 e1 g2 e3
    refine ⟨_, s_forget, ?_⟩
    intro k fg
    rw [show pu_term X e = (nI (pN X.2.1 + 1), X.1, wTe X.2.1 (vp_updL (pTe X.2.1) (pN X.2.1) (ptd X e)) (pN X.2.1 + 1), X.2.2) by unfold pu_term; rw [if_pos ⟨z1, z2⟩, if_neg z3, if_pos hl]]
    have o : fOff [2, 9] k2 g2 := by rw [e3, e1]; exact (fOff.rf.of (f_off_al _ _ _) (by simp)).of (f_off_fi _ _ _ _) (by simp)
    refine ⟨?_, CRel.fg (x2.1.te v hl e1 e3) (x2.2.1.off o (by decide)) fg⟩
    rw [(fg.2.2 2 (by decide)).1, e3, u_fi_s, e1, u_al_1, hn, nI1]
  · rw [hn] at z4
    have hl : ¬ pN X.2.1 < 7 := fun q => z4 (nI_lt (a := pN X.2.1) (b := 7) q (by decide))
    rw [show pu_term X e = (-4, X) by unfold pu_term; rw [if_pos ⟨z1, z2⟩, if_neg z3, if_neg hl]]; exact ⟨rfl, x2⟩
  · rw [show pu_term X e = (-2, X) by unfold pu_term; rw [if_pos ⟨z1, z2⟩, if_pos z3]]; exact ⟨rfl, x2⟩
theorem c_clear (x : CRel h X) : OkI 20 mX11_clear SC [.ref 1] h (fun y k => y = (pu_clear X).1 ∧ CRel k (pu_clear X).2) := by
  refine NX11_clear_0 (d := 19) hC1 hC2 ?_
  intro g1 e1
  refine ⟨_, s_forget, ?_⟩
  intro k fg
  obtain ⟨y1, y2, y3, y4, y5, y6, y7⟩ := id x.1.2.1
  have o : fOff [2] h g1 := by rw [e1]; exact fOff.rf.of (f_off_fi _ _ _ _) (by simp)
  have c1 : CCo g1 (pu_clear X).2 := by
    refine x.1.pg (o.mono (by simp)) ⟨y1.off o (by decide) (by decide) (by decide) (by decide), ?_, ?_, ?_, ?_, ?_, ?_⟩ (x.1.2.2.2.2.1.off o (by decide) (by decide) (by decide))
    · rw [(o 7 (by decide)).2.2.1]; exact y2
    · rw [(o 8 (by decide)).2.2.1]; exact y3
    · rw [(o 9 (by decide)).2.2.2]; exact y4
    · rw [e1, u_fi_s]; rfl
    · rw [e1, u_fi_n _ _ (by decide)]; exact y6
    · rw [e1, u_fi_n _ _ (by decide)]; exact y7
  exact ⟨y5, CRel.fg c1 (x.2.1.off o (by decide)) fg⟩
theorem c_about {t : Int32} (x : CRel h X) (v : StV X) : OkL 20 mX11_about SC [.ref 1, .int t] h (fun y k => y = pu_about X t ∧ CRel k X) := by
  have hn := x.hn
  have h7 := v.n7
  have bad : ¬ (0 ≤ t ∧ t < nI (pN X.2.1)) → (-1000000000000000001 : Int64) = pu_about X t ∧ CRel h X := fun q => ⟨by unfold pu_about; rw [if_neg q]; rfl, x⟩
  refine NX11_about_0 (d := 19) hC1 hC2 ⟨fun z => bad (fun q => Int32.not_lt.mpr q.1 z), fun z1 => ⟨fun z => bad (fun q => by rw [hn] at z; exact Int32.not_lt.mpr z q.2), fun z2 => ?_⟩⟩
  rw [hn] at z2
  have z : 0 ≤ t ∧ t < nI (pN X.2.1) := ⟨Int32.not_lt.mp z1, Int32.not_le.mp z2⟩
  obtain ⟨j, hj, rfl⟩ := in_n (by omega) z
  refine ⟨_, s_at (by decide) hC9, ?_⟩
  rintro _ k ⟨rfl, rfl⟩
  refine ⟨?_, x⟩
  unfold pu_about
  rw [if_pos z, atF_in (by decide) (by omega), x.1.2.1.2.2.2.1, nI_clamp (by omega)]
theorem c_pgt (x : CRel h X) (v : StV X) : PgT h 2 9 (pD X.2.1) (pW X.2.1) (pTe X.2.1) (pN X.2.1) :=
  ⟨⟨⟨x.1.2.1.2.2.2.2.2.1, x.1.2.1.2.2.2.2.2.2⟩, x.1.2.1.2.2.2.2.1, fun j _ => by rw [x.1.2.1.2.2.2.1]⟩, v.2.1.2.2.2.1.1, v.2.1.2.2.2.1.2, v.2.1.2.2.2.2.1, v.2.1.2.2.2.2.2.1, v.2.1.2.2.2.2.2.2⟩
theorem c_sum {w : Int32} (x : CRel h X) (v : StV X) : OkL 20 mX11_sum SC [.ref 1, .int w] h (fun y k => y = pu_sum X w ∧ CRel k X) := by
  have hn := x.hn
  have h7 := v.n7
  have bad : ¬ (¬ w < 0 ∧ w ≤ 4) → (-1000000000000000002 : Int64) = pu_sum X w ∧ CRel h X := fun q => ⟨by unfold pu_sum; rw [if_neg q]; rfl, x⟩
  refine NX11_sum_0 (d := 19) hC1 hC2 hC37 ⟨fun z => bad (fun q => q.1 z), fun z1 => ⟨fun z2 => ⟨fun z3 => ?_, fun z3 => ?_⟩, fun z => bad (fun q => z q.2)⟩⟩
  · rw [hn] at z3
    have h1 : 1 ≤ pN X.2.1 := by
      rcases Nat.eq_zero_or_pos (pN X.2.1) with q | q
      · rw [q] at z3; exact absurd rfl z3
      · exact q
    refine ⟨_, s_take (d := 18) suC37 ⟨hC2, hC9⟩ (by decide) (c_pgt x v) x.2.1.1.2.2.1, ?_⟩
    rintro k ⟨s1, o1⟩
    have x1 : CRel k X := ⟨x.1.off o1 (by decide), x.2.1.off2 (fun i hi => by
      by_cases c : i = 39
      · subst c; rw [s1.1.2.2, x.2.1.1.2.2.1]
      · rw [(o1 i (by simp only [List.mem_cons, List.not_mem_nil, or_false] at hi ⊢; omega)).1]), x.2.2.off o1 (by decide)⟩
    have e : pu_sum X w = (if w = 0 then smA (pD X.2.1) (pW X.2.1) (pTe X.2.1) id 0 (pN X.2.1) else if w = 1 then bsF (pD X.2.1) (pW X.2.1) (pTe X.2.1) (pN X.2.1) 0 0 0
     else if w = 2 then hfF (pD X.2.1) (pW X.2.1) (pTe X.2.1) 3 0 (pN X.2.1) else if w = 3 then smA (pD X.2.1) (pW X.2.1) (pTe X.2.1) (bzF (pTe X.2.1) (pN X.2.1)) 0 (pN X.2.1) else whF (pTe X.2.1) (pN X.2.1)) := by
      unfold pu_sum; rw [if_pos ⟨z1, z2⟩, if_neg (by omega)]
    rw [e]
    refine ⟨fun y0 => ?_, fun y0 => ⟨fun y1 => ?_, fun y1 => ⟨fun y2 => ?_, fun y2 => ⟨fun y3 => ?_, fun y3 => ?_⟩⟩⟩⟩
    · refine ⟨_, s_asTold (d := 16) suC37 s1 h1, ?_⟩
      rintro _ k2 ⟨rfl, o2⟩
      exact ⟨by rw [if_pos y0], x1.off o2 (by decide) (by decide) (by decide)⟩
    · refine ⟨_, s_beside (d := 15) suC37 s1, ?_⟩
      rintro _ k2 ⟨rfl, o2⟩
      exact ⟨by rw [if_neg y0, if_pos y1], x1.off o2 (by decide) (by decide) (by decide)⟩
    · refine ⟨_, s_halves (d := 12) suC37 s1 h1, ?_⟩
      rintro _ k2 ⟨rfl, o2⟩
      exact ⟨by rw [if_neg y0, if_neg y1, if_pos y2], x1.off o2 (by decide) (by decide) (by decide)⟩
    · refine ⟨_, s_bySize (d := 16) suC37 s1 h1, ?_⟩
      rintro _ k2 ⟨rfl, o2⟩
      exact ⟨by rw [if_neg y0, if_neg y1, if_neg y2, if_pos y3], x1.off o2 (by decide) (by decide) (by decide)⟩
    · refine ⟨_, s_cwhole suC37 s1, ?_⟩
      rintro _ k2 ⟨rfl, rfl⟩
      exact ⟨by rw [if_neg y0, if_neg y1, if_neg y2, if_neg y3], x1⟩
  · rw [hn] at z3
    have h0 : pN X.2.1 = 0 := (nI_eq (a := pN X.2.1) (b := 0) (by omega) (by decide)).mp z3
    exact ⟨by unfold pu_sum; rw [if_pos ⟨z1, z2⟩, if_pos h0]; rfl, x⟩
theorem c_find1 (x : CRel h X) (v : StV X) : OkV 19 mX1_find SC [.ref 42, .ref 2] h (fun k => (OaOk k 50 49 52 (pN X.2.1) 0 (por X 0) ∧ OaOk k 50 49 53 (pN X.2.1) 1 (por X 1)) ∧ CRel k X) := by
  have h7 := v.n7
  have q := s_cfind (d := 15 - pN X.2.1) suC43 orC ⟨hC2, hC9⟩ (by decide) (c_pgt x v) x.2.1.1.2.2.2.1 x.2.2.1
  rw [show 15 - pN X.2.1 + pN X.2.1 + 4 = 19 by omega] at q
  refine OkV.post q ?_
  rintro k ⟨r1, ⟨f1, f2⟩, o1⟩
  refine ⟨r1, x.1.off o1 (by decide), x.2.1.off2 (fun i hi => ?_), fun _ => r1, x.2.2.2.1.off o1 (by decide), x.2.2.2.2.off o1 (by decide)⟩
  by_cases c : i = 45
  · subst c; rw [f2, x.2.1.1.2.2.2.1]
  · rw [(o1 i (by simp only [List.mem_cons, List.not_mem_nil, or_false] at hi ⊢; omega)).1]
/-- the row of an end -/
theorem c_oa {k : fH} {m : Nat} (hm : m ≤ 1) (r : OaOk k 50 49 52 (pN X.2.1) 0 (por X 0) ∧ OaOk k 50 49 53 (pN X.2.1) 1 (por X 1)) : OaOk k 50 49 (gfC m) (pN X.2.1) m (por X m) := by
  rcases (show m = 0 ∨ m = 1 by omega) with rfl | rfl
  · exact r.1
  · exact r.2
theorem c_orders {m : Int32} (x : CRel h X) (v : StV X) : OkL 20 mX11_orders SC [.ref 1, .int m] h (fun y k => y = pu_orders X m ∧ CRel k X) := by
  have bad : ¬ (¬ m < 0 ∧ m ≤ 1) → (-1000000000000000002 : Int64) = pu_orders X m ∧ CRel h X := fun q => ⟨by unfold pu_orders; rw [if_neg q]; rfl, x⟩
  refine NX11_orders_0 (d := 19) hC1 hC42 hC50 hC49 ⟨fun z => bad (fun q => q.1 z), fun z1 => ⟨fun z2 => ?_, fun z => bad (fun q => z q.2)⟩⟩
  obtain ⟨j, hj, rfl⟩ := nI_of2 (M := 1) (n := 1) rfl z1 z2
  refine ⟨_, c_find1 x v, ?_⟩
  rintro k ⟨r1, x1⟩
  have r := c_oa hj r1
  refine ⟨vp_in_nI (by omega) (by decide), ?_⟩
  rw [nI_clamp (by omega), r.1]
  have e : pu_orders X (nI j) = (if nI (por X j).1 = 0 then LO6 else (por X j).2.1) := by unfold pu_orders; rw [if_pos ⟨z1, z2⟩, nI_clamp (by omega)]
  rw [e]
  refine ⟨fun z => ⟨?_, x1⟩, fun z => ⟨by rw [if_pos z]; rfl, x1⟩⟩
  rw [if_neg z]
  exact (r.2 (fun q => z (by rw [q]; rfl))).1
theorem c_order {m i : Int32} (x : CRel h X) (v : StV X) : OkI 20 mX11_order SC [.ref 1, .int m, .int i] h (fun y k => y = pu_order X m i ∧ CRel k X) := by
  have h7 := v.n7
  have bad : ¬ (¬ m < 0 ∧ m ≤ 1) → (-2 : Int32) = pu_order X m i ∧ CRel h X := fun q => ⟨by unfold pu_order; rw [if_neg q], x⟩
  have hg : (gfC m.toNatClampNeg, shI 7) ∈ SC := by
    unfold gfC
    by_cases q : m.toNatClampNeg = 0
    · rw [if_pos q]; exact hC52
    · rw [if_neg q]; exact hC53
  refine NX11_order_0 (d := 19) hC1 hC42 hC50 hC2 hC51 hg ⟨fun z => bad (fun q => q.1 z), fun z1 => ⟨fun z2 => ?_, fun z => bad (fun q => z q.2)⟩⟩
  obtain ⟨j, hj, rfl⟩ := nI_of2 (M := 1) (n := 1) rfl z1 z2
  refine ⟨_, c_find1 x v, ?_⟩
  rintro k ⟨r1, x1⟩
  have r := c_oa hj r1
  have hn := x1.hn
  refine ⟨vp_in_nI (by omega) (by decide), ?_⟩
  rw [nI_clamp (by omega), r.1, hn]
  have e : pu_order X (nI j) i = (if nI (por X j).1 = 0 then -6 else if i = -1 then nI (por X j).1 else if 0 ≤ i ∧ i < nI (pN X.2.1) then nI ((por X j).2.2.getD i.toNatClampNeg 0) else -6) := by unfold pu_order; rw [if_pos ⟨z1, z2⟩, nI_clamp (by omega)]
  rw [e]
  refine ⟨fun z => ⟨fun y => ⟨fun y1 => ?_, fun y1 => ⟨fun y2 => ?_, fun y2 => ⟨fun y3 => ?_, fun y3 => ?_⟩⟩⟩, fun y => ⟨by rw [if_neg z, if_pos y], x1⟩⟩, fun z => ⟨by rw [if_pos z], x1⟩⟩
  · exact ⟨by rw [if_neg z, if_neg y, if_neg (fun q => Int32.not_lt.mpr q.1 y1)], x1⟩
  · exact ⟨by rw [if_neg z, if_neg y, if_neg (fun q => Int32.not_lt.mpr y2 q.2)], x1⟩
  · exact absurd (Int32.le_trans (nI_le (a := pN X.2.1) (b := 7) h7 (by decide)) y3) y2
  · have w : 0 ≤ i ∧ i < nI (pN X.2.1) := ⟨Int32.not_lt.mp y1, Int32.not_le.mp y2⟩
    obtain ⟨i', hi, rfl⟩ := in_n (by omega) w
    refine ⟨vp_in_nI (by omega) (by decide), ?_, x1⟩
    rw [if_neg z, if_neg y, if_pos w, nI_clamp (by omega)]
    exact (r.2 (fun q => z (by rw [q]; rfl))).2 i' hi
end CFACE3

/-! ===== the class's Spans.bound ===== -/
def SpS (S : fW) (sp lw hi ra dn up fr tr wd : Nat) : Prop := (sp, shX7 lw hi ra dn up fr tr wd) ∈ S ∧ (lw, shJ 13) ∈ S ∧ (hi, shJ 13) ∈ S ∧ (ra, shX3) ∈ S ∧ (dn, shX4) ∈ S ∧ (up, shX4) ∈ S
def DuOk (h : fH) (dn up D : Nat) : Prop := (h.1 dn 0 = nI D ∧ h.1 dn 1 = nI 3 ∧ h.1 dn 2 = bI true) ∧ h.1 up 0 = nI D ∧ h.1 up 1 = nI 2 ∧ h.1 up 2 = bI true
theorem DuOk.off {h k : fH} {dn up D : Nat} {L : List Nat} (x : DuOk h dn up D) (o : fOff L h k) (h1 : dn ∉ L) (h2 : up ∉ L) : DuOk k dn up D := by
  unfold DuOk at *
  rw [(o dn h1).1, (o up h2).1]
  exact x
theorem bI_and (a b : Bool) : (bI a &&& bI b) = bI (a && b) := by cases a <;> cases b <;> decide
theorem mn_if (a b : Int64) : (if b < a then b else a) = mnL a b := by
  unfold mnL
  by_cases c : b < a
  · rw [if_pos c, if_neg (Int64.not_le.mpr c)]
  · rw [if_neg c, if_pos (Int64.not_lt.mp c)]
theorem mx_if (a b : Int64) : (if b < a then a else b) = mxL a b := by
  unfold mxL
  by_cases c : b < a
  · rw [if_pos c, if_pos (Int64.le_of_lt c)]
  · rw [if_neg c]
    split
    · next q =>
      have c := Int64.not_lt.mp c
      rw [Int64.le_iff_toInt_le] at c q
      exact Int64.toInt_inj.mp (by omega)
    · rfl
section CBOUND
variable {d : Nat} {S : fW} {h : fH} {sp lw hi ra dn up fr tr wd D : Nat}
theorem s_widen {j : Nat} {c : Int32} {a b : Int64} (X : SpS S sp lw hi ra dn up fr tr wd) (nd : [lw, hi, ra, dn, up].Nodup) (x : DuOk h dn up D) (hD1 : 1 ≤ D) (hD4 : D ≤ 4) (hj : j < 13) (hc : isOpB c = true) (da : dcm a) (db : dcm b) :
    OkI (d + 2) mX7_widen S [.ref sp, .int (nI j), .int c, .long a, .long b] h (fun v k => v = bI (decide (madeF D 3 true c a b ≠ gG ∧ madeF D 2 true c a b ≠ gG)) ∧ (∃ y z : Int64, k.2.2.2 lw = vp_updL (h.2.2.2 lw) j y ∧ k.2.2.2 hi = vp_updL (h.2.2.2 hi) j z ∧ (madeF D 3 true c a b ≠ gG ∧ madeF D 2 true c a b ≠ gG → y = mnL (h.2.2.2 lw j) (madeF D 3 true c a b) ∧ z = mxL (h.2.2.2 hi j) (madeF D 2 true c a b))) ∧ fOff [lw, hi, ra] h k) := by
  obtain ⟨x1, x2, x3, x4, x5, x6⟩ := X
  obtain ⟨⟨q1, q2, q3⟩, q4, q5, q6⟩ := id x
  have n1 : dn ≠ ra := nd_ne nd 3 2 rfl rfl (by decide)
  have n2 : up ≠ ra := nd_ne nd 4 2 rfl rfl (by decide)
  have n3 : lw ≠ hi := nd_ne nd 0 1 rfl rfl (by decide)
  have hc1 : (nI j).toNatClampNeg = j := nI_clamp (by omega)
  have hb1 := db.1
  refine NX7_widen_0 x1 x4 x5 x6 x2 x3 ⟨_, s_join x4 (by omega), ?_⟩
  rintro _ _ ⟨rfl, rfl⟩
  refine ⟨fun q => ?_, fun q => ?_⟩
  · have q := bI_n0.mp q
    simp only [decide_eq_true_eq] at q
    have q' : (c = 43 ∨ c = 45 ∨ c = 42) ∨ ¬ b = 0 := by rcases q with q | q | q | q <;> simp [q]
    have jd := jD_ok (sg := c) db q'
    have je := jE_ok (sg := c) (A := a.toInt) (B := b.toInt)
    have js := jN_small (sg := c) da db
    have ju : (Int64.ofInt (jN c a.toInt b.toInt)).toInt = jN c a.toInt b.toInt := lO_toInt (by omega) (by omega)
    have hval : ∀ W, Int64.ofInt (rndF D W true (decide (jN c a.toInt b.toInt < 0)) (jN c a.toInt b.toInt).natAbs (jD c b.toInt) (jE c a.toInt b.toInt)) = madeF D W true c a b := by
      intro W
      unfold madeF
      rw [if_neg (by simp [dcm_ng da, dcm_ng db]), if_neg]
      · rfl
      · rintro ⟨e1, e2⟩
        rcases q' with q' | q'
        · exact e1 q'
        · exact q' e2
    refine ⟨_, s_of (D := D) (W := 3) (tiny := true) (d0 := jD c b.toInt) (t := jE c a.toInt b.toInt) x5 x4 ?_ hD1 hD4 ?_ (by decide) ?_ ?_ jd.1 jd.2 ?_ ?_ je.1 je.2, ?_⟩
    · rw [holdH_1 _ _ _ _ n1]; exact q1
    · rw [holdH_1 _ _ _ _ n1]; exact q2
    · rw [holdH_1 _ _ _ _ n1]; exact q3
    · rw [holdH_u, ju]; exact js
    · rw [holdH_l]
    · rw [holdH_t]
    rintro _ _ ⟨rfl, rfl⟩
    refine ⟨_, s_of (D := D) (W := 2) (tiny := true) (d0 := jD c b.toInt) (t := jE c a.toInt b.toInt) x6 x4 ?_ hD1 hD4 ?_ (by decide) ?_ ?_ jd.1 jd.2 ?_ ?_ je.1 je.2, ?_⟩
    · rw [holdH_1 _ _ _ _ n2]; exact q4
    · rw [holdH_1 _ _ _ _ n2]; exact q5
    · rw [holdH_1 _ _ _ _ n2]; exact q6
    · rw [holdH_u, ju]; exact js
    · rw [holdH_l]
    · rw [holdH_t]
    rintro _ _ ⟨rfl, rfl⟩
    rw [holdH_u, ju, hval, hval, hc1]
    refine ⟨vp_in_nI hj (by decide), ?_⟩
    rintro g1 rfl g2 hg2
    have o2 : fOff [lw, hi, ra] h g2 := by
      rw [hg2]; exact ((fOff.rf.hold (by simp)).of (f_off_al _ _ _) (by simp)).of (f_off_al _ _ _) (by simp)
    have hrow : (holdH h ra (Int64.ofInt (jN c a.toInt b.toInt)) (lN (jD c b.toInt)) (Int32.ofInt (jE c a.toInt b.toInt))).2.2.2 = h.2.2.2 := by rw [holdH_3]
    have fin : ∃ y z : Int64, g2.2.2.2 lw = vp_updL (h.2.2.2 lw) j y ∧ g2.2.2.2 hi = vp_updL (h.2.2.2 hi) j z ∧ (madeF D 3 true c a b ≠ gG ∧ madeF D 2 true c a b ≠ gG → y = mnL (h.2.2.2 lw j) (madeF D 3 true c a b) ∧ z = mxL (h.2.2.2 hi j) (madeF D 2 true c a b)) := by
      refine ⟨mnL (h.2.2.2 lw j) (madeF D 3 true c a b), mxL (h.2.2.2 hi j) (madeF D 2 true c a b), ?_, ?_, fun _ => ⟨rfl, rfl⟩⟩
      · rw [hg2, u_al_n _ _ n3, u_al_s, hrow, mn_if]
      · rw [hg2, u_al_s, u_al_n _ _ (Ne.symm n3), hrow, mx_if]
    refine ⟨fun y => ⟨?_, fin, o2⟩, fun y => ⟨fun z => ⟨?_, fin, o2⟩, fun z => ⟨?_, fin, o2⟩⟩⟩
    · rw [decide_eq_false (fun w => w.1 y)]; rfl
    · rw [decide_eq_false (fun w => w.2 z)]; rfl
    · rw [decide_eq_true ⟨y, z⟩]; rfl
  · have q := bI_0.mp q
    simp only [decide_eq_false_iff_not, not_or, Classical.not_not] at q
    have hg : ∀ W, madeF D W true c a b = gG := fun W => by
      unfold madeF
      rw [if_neg (by simp [dcm_ng da, dcm_ng db]), if_pos (by simp [q])]; rfl
    refine ⟨?_, ⟨h.2.2.2 lw j, h.2.2.2 hi j, ?_, ?_, fun w => absurd (hg 3) w.1⟩, fOff.rf.hold (by simp)⟩
    · rw [decide_eq_false (fun w => w.1 (hg 3))]; rfl
    · rw [holdH_3]
      funext i
      by_cases e : i = j
      · subst e; rw [pk_uLs]
      · rw [pk_uLn e]
    · rw [holdH_3]
      funext i
      by_cases e : i = j
      · subst e; rw [pk_uLs]
      · rw [pk_uLn e]
theorem s_makeGreat {j : Nat} (X : SpS S sp lw hi ra dn up fr tr wd) (nd : [lw, hi, ra, dn, up].Nodup) (hj : j < 13) : OkV d mX7_makeGreat S [.ref sp, .int (nI j)] h (fun k => k.2.2.2 lw = vp_updL (h.2.2.2 lw) j gG ∧ k.2.2.2 hi = vp_updL (h.2.2.2 hi) j gG ∧ fOff [lw, hi, ra] h k) := by
  have n3 : lw ≠ hi := nd_ne nd 0 1 rfl rfl (by decide)
  refine NX7_makeGreat_0 X.1 X.2.1 X.2.2.1 ⟨vp_in_nI hj (by decide), ?_⟩
  rw [nI_clamp (by omega)]
  rintro g1 rfl g2 rfl
  refine ⟨?_, ?_, (fOff.rf.of (f_off_al _ _ _) (by simp)).of (f_off_al _ _ _) (by simp)⟩
  · rw [u_al_n _ _ n3, u_al_s]; rfl
  · rw [u_al_s, u_al_n _ _ (Ne.symm n3)]; rfl
theorem s_sjoin {i q : Nat} {c : Int32} {A B : spT} (X : SpS S sp lw hi ra dn up fr tr wd) (nd : [lw, hi, ra, dn, up].Nodup) (x : DuOk h dn up D) (hD1 : 1 ≤ D) (hD4 : D ≤ 4) (hi1 : i + 1 < 13) (hq : q < 13) (hiq : i < q) (hc : isOpB c = true) (hA : spOk A) (hB : spOk B)
    (a1 : h.2.2.2 lw (i + 1) = A.1) (a2 : h.2.2.2 hi (i + 1) = A.2) (b1 : h.2.2.2 lw q = B.1) (b2 : h.2.2.2 hi q = B.2) :
    OkV (d + 3) mX7_join S [.ref sp, .int (nI i), .int c, .int (nI q)] h (fun k => k.2.2.2 lw = vp_updL (h.2.2.2 lw) i (spO D c A B).1 ∧ k.2.2.2 hi = vp_updL (h.2.2.2 hi) i (spO D c A B).2 ∧ fOff [lw, hi, ra] h k) := by
  obtain ⟨x1, x2, x3, x4, x5, x6⟩ := id X
  have n3 : lw ≠ hi := nd_ne nd 0 1 rfl rfl (by decide)
  have hc1 : (nI i).toNatClampNeg = i := nI_clamp (by omega)
  -- GREAT
  have mg : ∀ g : fH, fOff [lw, hi, ra] h g → (∀ y : Int64, vp_updL (g.2.2.2 lw) i y = vp_updL (h.2.2.2 lw) i y) → (∀ y : Int64, vp_updL (g.2.2.2 hi) i y = vp_updL (h.2.2.2 hi) i y) → spO D c A B = (gG, gG) → ∃ Q9 : fH → Prop, OkV (d + 2) mX7_makeGreat S [.ref sp, .int (nI i)] g Q9 ∧ ∀ (k9 : fH), Q9 k9 → (k9.2.2.2 lw = vp_updL (h.2.2.2 lw) i (spO D c A B).1 ∧ k9.2.2.2 hi = vp_updL (h.2.2.2 hi) i (spO D c A B).2 ∧ fOff [lw, hi, ra] h k9) := by
    intro g og e1 e2 e
    refine ⟨_, s_makeGreat X nd (by omega), ?_⟩
    rintro k9 ⟨r1, r2, r3⟩
    rw [e]
    exact ⟨by rw [r1, e1], by rw [r2, e2], og.tr r3⟩
  refine NX7_join_0 x1 ?_
  rw [nI1]
  refine ⟨_, s_at (by decide) x2, ?_⟩
  rintro _ h ⟨rfl, rfl⟩
  refine ⟨_, s_at (by decide) x3, ?_⟩
  rintro _ h ⟨rfl, rfl⟩
  refine ⟨_, s_at (by decide) x2, ?_⟩
  rintro _ h ⟨rfl, rfl⟩
  refine ⟨_, s_at (by decide) x3, ?_⟩
  rintro _ h ⟨rfl, rfl⟩
  rw [atF_in (by decide) hi1, atF_in (by decide) hi1, atF_in (by decide) hq, atF_in (by decide) hq, a1, a2, b1, b2]
  have gr : (A.1 = gG ∨ B.1 = gG) → spO D c A B = (gG, gG) := fun z => by unfold spO; rw [if_pos (Or.inl z)]
  -- four pairs
  have four : ¬ A.1 = gG → ¬ B.1 = gG → (c = 47 → 0 < B.1 ∨ B.2 < 0) → G mX7_join (d + 3) S (f_PV (fun k => k.2.2.2 lw = vp_updL (h.2.2.2 lw) i (spO D c A B).1 ∧ k.2.2.2 hi = vp_updL (h.2.2.2 hi) i (spO D c A B).2 ∧ fOff [lw, hi, ra] h k)) 100 [(0, .ref sp), (1, .int (nI i)), (2, .int c), (4, .long A.1), (6, .long A.2), (8, .long B.1), (10, .long B.2)] [] h := by
    intro gA gB hdiv
    have dA := hA.resolve_left (fun e => gA (by rw [e]))
    have dB := hB.resolve_left (fun e => gB (by rw [e]))
    have hO : spO D c A B = sp4 D c A B := by
      unfold spO
      rw [if_neg]
      rintro (w | ⟨w1, w2, w3⟩)
      · exact w.elim gA gB
      · rcases hdiv w1 with z | z
        · exact w2 z
        · exact w3 z
    refine NX7_join_100 x1 x2 x3 ⟨vp_in_nI (by omega) (by decide), ?_⟩
    rw [hc1]
    rintro g1 rfl g2 hg2
    have o0 : fOff [lw, hi, ra] h g2 := by rw [hg2]; exact (fOff.rf.of (f_off_al _ _ _) (by simp)).of (f_off_al _ _ _) (by simp)
    have l0 : g2.2.2.2 lw = vp_updL (h.2.2.2 lw) i 9223372036854775807 := by rw [hg2, u_al_n _ _ n3, u_al_s]
    have r0 : g2.2.2.2 hi = vp_updL (h.2.2.2 hi) i (-9223372036854775808) := by rw [hg2, u_al_s, u_al_n _ _ (Ne.symm n3)]
    clear hg2
    have nin : ∀ y, y = dn ∨ y = up → y ∉ [lw, hi, ra] := by
      rintro y (rfl | rfl)
      · exact nd_out nd 3 [0, 1, 2] rfl rfl (by decide)
      · exact nd_out nd 4 [0, 1, 2] rfl rfl (by decide)
    have xo : ∀ g : fH, fOff [lw, hi, ra] h g → DuOk g dn up D := fun g og => x.off og (nin dn (Or.inl rfl)) (nin up (Or.inr rfl))
    refine ⟨_, s_widen (d := d) X nd (xo _ o0) hD1 hD4 (by omega) hc dA.1 dB.1, ?_⟩
    rintro _ k1 ⟨rfl, ⟨y1, z1, l1, r1, f1⟩, o1⟩
    refine ⟨_, s_widen (d := d) X nd (xo _ (o0.tr o1)) hD1 hD4 (by omega) hc dA.1 dB.2.1, ?_⟩
    rintro _ k2 ⟨rfl, ⟨y2, z2, l2, r2, f2⟩, o2⟩
    refine ⟨_, s_widen (d := d) X nd (xo _ ((o0.tr o1).tr o2)) hD1 hD4 (by omega) hc dA.2.1 dB.1, ?_⟩
    rintro _ k3 ⟨rfl, ⟨y3, z3, l3, r3, f3⟩, o3⟩
    refine ⟨_, s_widen (d := d) X nd (xo _ (((o0.tr o1).tr o2).tr o3)) hD1 hD4 (by omega) hc dA.2.1 dB.2.1, ?_⟩
    rintro _ k4 ⟨rfl, ⟨y4, z4, l4, r4, f4⟩, o4⟩
    have o5 : fOff [lw, hi, ra] h k4 := (((o0.tr o1).tr o2).tr o3).tr o4
    rw [l0, updL2] at l1
    rw [l1, updL2] at l2
    rw [l2, updL2] at l3
    rw [l3, updL2] at l4
    rw [r0, updL2] at r1
    rw [r1, updL2] at r2
    rw [r2, updL2] at r3
    rw [r3, updL2] at r4
    rw [l0, r0, pk_uLs, pk_uLs] at f1
    rw [l1, r1, pk_uLs, pk_uLs] at f2
    rw [l2, r2, pk_uLs, pk_uLs] at f3
    rw [l3, r3, pk_uLs, pk_uLs] at f4
    rw [bI_and, bI_and, bI_and]
    refine ⟨fun w => ?_, fun w => ?_⟩
    · have w := bI_n0.mp w
      simp only [Bool.and_eq_true, decide_eq_true_eq] at w
      obtain ⟨⟨⟨w1, w2⟩, w3⟩, w4⟩ := w
      have e1 := f1 w1
      have e2 := f2 w2
      have e3 := f3 w3
      have e4 := f4 w4
      have m0 : mnL 9223372036854775807 (madeF D 3 true c A.1 B.1) = madeF D 3 true c A.1 B.1 := by
        have hm := (madeF_dcm (W := 3) (tiny := true) (sg := c) hD1 hD4 (Or.inr dA.1) (Or.inr dB.1)).resolve_left w1.1
        unfold mnL
        rw [if_neg]
        rw [Int64.le_iff_toInt_le, show (9223372036854775807 : Int64).toInt = 9223372036854775807 from rfl]
        have := hm.1
        omega
      have M0 : mxL (-9223372036854775808) (madeF D 2 true c A.1 B.1) = madeF D 2 true c A.1 B.1 := by
        have hm := (madeF_dcm (W := 2) (tiny := true) (sg := c) hD1 hD4 (Or.inr dA.1) (Or.inr dB.1)).resolve_left w1.2
        apply mxL_r
        rw [show (-9223372036854775808 : Int64).toInt = -9223372036854775808 from rfl]
        have := hm.1
        omega
      rw [m0, M0] at e1
      have hs : spO D c A B = (y4, z4) := by
        rw [hO]
        unfold sp4
        rw [if_neg (by simp [w1, w2, w3, w4]), e4.1, e4.2, e3.1, e3.2, e2.1, e2.2, e1.1, e1.2]
      rw [hs]
      exact ⟨l4, r4, o5⟩
    · have w := bI_0.mp w
      have hs : spO D c A B = (gG, gG) := by
        rw [hO]
        unfold sp4
        rw [if_pos]
        apply Classical.byContradiction
        intro q
        simp only [not_or] at q
        obtain ⟨p1, p2, p3, p4, p5, p6, p7, p8⟩ := q
        rw [decide_eq_true ⟨p1, p5⟩, decide_eq_true ⟨p2, p6⟩, decide_eq_true ⟨p3, p7⟩, decide_eq_true ⟨p4, p8⟩] at w
        cases w
      exact mg k4 o5 (fun y => by rw [l4, updL2]) (fun y => by rw [r4, updL2]) hs
  have gcut : (A.1 = gG ∨ B.1 = gG) → G mX7_join (d + 3) S (f_PV (fun k => k.2.2.2 lw = vp_updL (h.2.2.2 lw) i (spO D c A B).1 ∧ k.2.2.2 hi = vp_updL (h.2.2.2 hi) i (spO D c A B).2 ∧ fOff [lw, hi, ra] h k)) 62 [(0, .ref sp), (1, .int (nI i)), (2, .int c), (4, .long A.1), (6, .long A.2), (8, .long B.1), (10, .long B.2)] [] h := fun z =>
    NX7_join_62 x1 (mg h fOff.rf (fun _ => rfl) (fun _ => rfl) (gr z))
  refine ⟨fun z => gcut (Or.inl z), fun z => ⟨fun z2 => ⟨fun n7 => four z z2 (fun e => absurd e n7), fun c7 => ⟨fun p => four z z2 (fun _ => Or.inl p), fun p => ⟨fun p2 => four z z2 (fun _ => Or.inr p2), fun p2 => ?_⟩⟩⟩, fun z2 => gcut (Or.inr z2)⟩⟩
  refine mg h fOff.rf (fun _ => rfl) (fun _ => rfl) ?_
  unfold spO
  rw [if_pos (Or.inr ⟨c7, p, p2⟩)]
end CBOUND

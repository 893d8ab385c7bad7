/-! ===== the class's Search.find ===== -/
section CS3
variable {d : Nat} {S : fW} {h : fH} {se st v s fr ro ra u l r1 a1 b1 c1 r2 a2 b2 c2 rb ab bb cb nr r a b c pg sp te D W R dp : Nat} {f : Nat → Int32} {T : List Int32} {A : bA} {Q : fH → Prop}
/-- a text at a depth -/
def dpF (D W : Nat) (f : Nat → Int32) (dp : Nat) (A : bA) (U : List Int32) : bA := if dp = 1 then bsF' D W f A U else (allR U).foldl (bsF' D W f) A
/-- what the search and its page rest on -/
def SpW (S : fW) (se st v s fr ro ra u l r1 a1 b1 c1 r2 a2 b2 c2 rb ab bb cb nr r a b c pg sp te : Nat) : Prop :=
  SeW S se st v s fr ro ra u l r1 a1 b1 c1 r2 a2 b2 c2 rb ab bb cb nr ∧ TxS S r a b c ∧ (pg, shX2 r nr sp te) ∈ S ∧ [v, s, ra, ro, u, l, r1, a1, b1, c1, nr, se, rb, ab, bb, cb, r2, a2, b2, c2, r, a, b, c, pg].Nodup
theorem s_depth (X : SpW S se st v s fr ro ra u l r1 a1 b1 c1 r2 a2 b2 c2 rb ab bb cb nr r a b c pg sp te) (y : TxOk h r a b c (rw' T) T.length) (hT : TxL T) (hR : RoOk h ro D W) (hf : h.2.2.1 nr = f) (hfB : nmB f) (hdp : dp = 1 ∨ dp = 2) (E : bA)
    (next : ∀ g : fH, BsOk g se rb ab bb cb E → g.1 se = h.1 se → fOff [v, s, ra, u, l, se, rb, ab, bb, cb, r2, a2, b2, c2, r1, a1, b1, c1] h g → G mX6_find (d + 7) S (f_PV Q) 53 [(0, .ref se), (1, .ref pg), (2, .int (nI R)), (3, .int (nI (dp + 1)))] [] g) :
    ∀ (k i : Nat) (B : bA) (g : fH), k + i = T.length * 7 → fOff [v, s, ra, u, l, se, rb, ab, bb, cb, r2, a2, b2, c2, r1, a1, b1, c1] h g → g.1 se = h.1 se → BsOk g se rb ab bb cb B → ((List.range' i k).filterMap (opI T)).foldl (dpF D W f dp) B = E → G mX6_find (d + 7) S (f_PV Q) 66 [(0, .ref se), (1, .ref pg), (2, .int (nI R)), (3, .int (nI dp)), (4, .int (nI i))] [] g := by
  obtain ⟨XS, xt, xp, nd⟩ := X
  obtain ⟨x1, x2, x3, x4, x5, x6, x7, -⟩ := id XS
  have h13 : T.length ≤ 13 := hT.2.1
  intro k
  induction k with
  | zero =>
    intro i B g hi og eg hB e
    have yg := y.off og (nd_out nd 20 [0, 1, 2, 4, 5, 11, 12, 13, 14, 15, 16, 17, 18, 19, 6, 7, 8, 9] rfl rfl (by decide)) (nd_out nd 21 [0, 1, 2, 4, 5, 11, 12, 13, 14, 15, 16, 17, 18, 19, 6, 7, 8, 9] rfl rfl (by decide)) (nd_out nd 22 [0, 1, 2, 4, 5, 11, 12, 13, 14, 15, 16, 17, 18, 19, 6, 7, 8, 9] rfl rfl (by decide)) (nd_out nd 23 [0, 1, 2, 4, 5, 11, 12, 13, 14, 15, 16, 17, 18, 19, 6, 7, 8, 9] rfl rfl (by decide))
    refine NX6_find_66 xp xt.1.1 x1 ⟨fun _ => ?_, fun z => absurd ?_ z⟩
    · rw [nI1]
      exact next g (by rw [← e]; simpa using hB) eg og
    · rw [yg.1, show (7 : Int32) = nI 7 from rfl, pk_mul]
      exact nI_le (by omega) (by omega)
  | succ k ih =>
    intro i B g hi og eg hB e
    have yg := y.off og (nd_out nd 20 [0, 1, 2, 4, 5, 11, 12, 13, 14, 15, 16, 17, 18, 19, 6, 7, 8, 9] rfl rfl (by decide)) (nd_out nd 21 [0, 1, 2, 4, 5, 11, 12, 13, 14, 15, 16, 17, 18, 19, 6, 7, 8, 9] rfl rfl (by decide)) (nd_out nd 22 [0, 1, 2, 4, 5, 11, 12, 13, 14, 15, 16, 17, 18, 19, 6, 7, 8, 9] rfl rfl (by decide)) (nd_out nd 23 [0, 1, 2, 4, 5, 11, 12, 13, 14, 15, 16, 17, 18, 19, 6, 7, 8, 9] rfl rfl (by decide))
    have onr := og nr (nd_out nd 10 [0, 1, 2, 4, 5, 11, 12, 13, 14, 15, 16, 17, 18, 19, 6, 7, 8, 9] rfl rfl (by decide))
    have hRg := hR.off og (nd_out nd 3 [0, 1, 2, 4, 5, 11, 12, 13, 14, 15, 16, 17, 18, 19, 6, 7, 8, 9] rfl rfl (by decide))
    rw [fm_cons] at e
    refine NX6_find_66 xp xt.1.1 x1 ⟨fun z => absurd z ?_, fun _ => ?_⟩
    · rw [yg.1, show (7 : Int32) = nI 7 from rfl, pk_mul]
      exact nI_ge (by omega) (by omega)
    rw [i_mod7 (by omega), i_div7 (by omega), nI1]
    refine ⟨_, s_write (d := d + 2) x2 xt (nd_sub nd [6, 7, 8, 9, 20, 21, 22, 23] _ rfl (by decide)) yg hT (by omega) (by omega), ?_⟩
    rintro _ k1 ⟨rfl, hw, o1⟩
    have og1 : fOff [v, s, ra, u, l, se, rb, ab, bb, cb, r2, a2, b2, c2, r1, a1, b1, c1] h k1 := og.tr (o1.mono (by simp))
    have eg1 : k1.1 se = h.1 se := (o1 se (nd_out nd 11 [6, 7, 8, 9] rfl rfl (by decide))).1.trans eg
    have hB1 := hB.off o1 (nd_out nd 11 [6, 7, 8, 9] rfl rfl (by decide)) (nd_out nd 12 [6, 7, 8, 9] rfl rfl (by decide)) (nd_out nd 13 [6, 7, 8, 9] rfl rfl (by decide)) (nd_out nd 14 [6, 7, 8, 9] rfl rfl (by decide)) (nd_out nd 15 [6, 7, 8, 9] rfl rfl (by decide))
    refine ⟨fun z => ?_, fun z => ?_⟩
    · have eo : opI T i = none := by unfold opI; rw [bI_0.mp z]; rfl
      rw [eo] at e
      exact ih (i + 1) B k1 (by omega) og1 eg1 hB1 e
    · have z := bI_n0.mp z
      have eo : opI T i = some (wrL (i % 7) (rw' T) T.length (i / 7)) := by unfold opI; rw [if_pos z]
      have hU := opI_ok hT (by omega) eo
      have y2 := hw z
      rw [eo] at e
      have hR1 := hRg.off o1 (nd_out nd 3 [6, 7, 8, 9] rfl rfl (by decide))
      have hf1 : k1.2.2.1 nr = f := by rw [(o1 nr (nd_out nd 10 [6, 7, 8, 9] rfl rfl (by decide))).2.2.1, onr.2.2.1]; exact hf
      have c1' : nI dp = 1 ↔ dp = 1 := by rcases hdp with rfl | rfl <;> decide
      refine ⟨fun w => ?_, fun w => ?_⟩
      · have w1 : ¬ dp = 1 := fun q => w (c1'.mpr q)
        refine ⟨_, s_changeAgain (d := d) (T := wrL (i % 7) (rw' T) T.length (i / 7)) XS y2 hU hR1 hf1 hfB hB1, ?_⟩
        rintro k2 ⟨hB2, eg2, o2⟩
        refine ih (i + 1) _ k2 (by omega) (og1.tr (o2.mono (by simp))) (eg2.trans eg1) hB2 ?_
        rw [← e]
        simp only [dpF]
        rw [if_neg w1]
      · have w1 : dp = 1 := c1'.mp w
        refine ⟨_, s_consider (d := d + 1) (T := wrL (i % 7) (rw' T) T.length (i / 7)) x1 rfl x2 x4 y2 hU x5 x6 x7 (nd_sub nd [0, 1, 2, 3, 4, 5, 6, 7, 8, 9, 10, 11, 12, 13, 14, 15] _ rfl (by decide)) hR1.1.1 hR1.2.1 hR1.2.2.1 hR1.1.2.1 hR1.2.2.2 hR1.1.2.2 hf1 hfB hB1, ?_⟩
        rintro k2 ⟨hB2, eg2, o2⟩
        refine ih (i + 1) _ k2 (by omega) (og1.tr (o2.mono (by simp))) (eg2.trans eg1) hB2 ?_
        rw [← e]
        simp only [dpF]
        rw [if_pos w1]
theorem dp_1 : (allR T).foldl (dpF D W f 1) A = (allR T).foldl (bsF' D W f) A := rfl
theorem dp_2 : (allR T).foldl (dpF D W f 2) A = ((allR T).flatMap allR).foldl (bsF' D W f) A := by
  rw [List.foldl_flatMap]; rfl
theorem s_find6 (X : SpW S se st v s fr ro ra u l r1 a1 b1 c1 r2 a2 b2 c2 rb ab bb cb nr r a b c pg sp te) (y : TxOk h r a b c (rw' T) T.length) (hT : TxL T) (hD : h.1 pg 5 = nI D) (hD1 : 1 ≤ D) (hD4 : D ≤ 4) (hW : h.1 pg 6 = nI W) (hW3 : W ≤ 3) (hT2 : h.1 ro 2 = bI false) (hf : h.2.2.1 nr = f) (hfB : nmB f) (hR2 : R ≤ 2)
    (hc : h.1 se 5 = nI R → BsOk h se rb ab bb cb (btF D W f R T)) :
    OkV (d + 7) mX6_find S [.ref se, .ref pg, .int (nI R)] h (fun k => (k.1 se 5 = nI R ∧ BsOk k se rb ab bb cb (btF D W f R T)) ∧ k.1 ro 2 = bI false ∧ fOff [v, s, ra, u, l, se, rb, ab, bb, cb, r2, a2, b2, c2, r1, a1, b1, c1, ro] h k) := by
  obtain ⟨XS, xt, xp, nd⟩ := id X
  obtain ⟨x1, x2, x3, x4, x5, x6, x7, -⟩ := id XS
  refine NX6_find_0 x1 x5.1 xp x5.2.2.2.1 ⟨fun _ => ?_, fun z => ⟨⟨z, hc z⟩, hT2, fOff.rf⟩⟩
  intro g1 e1 g2 e2
  have o1 : fOff [se] h g1 := by rw [e1]; exact fOff.rf.of (f_off_fi _ _ _ _) (by simp)
  have o2 : fOff [se] h g2 := by rw [e2]; exact o1.of (f_off_fl _ _ _ _) (by simp)
  have s2 : g2.1 se 5 = nI R := by rw [e2, e1]; exact u_fi_s _ _ _ _
  have t2 : g2.2.1 se 4 = 1000000000000000000 := by rw [e2, u_fl_s]
  have p2 := o2 pg (nd_out nd 24 [11] rfl rfl (by decide))
  rw [p2.1, hD, hW]
  refine ⟨_, s_turn x5.2.2.2.1, ?_⟩
  intro g3 e3
  have o3 : fOff [ro] g2 g3 := by rw [e3]; exact (fOff.rf.of (f_off_fi _ _ _ _) (by simp)).of (f_off_fi _ _ _ _) (by simp)
  have o23 : fOff [se, ro] h g3 := (o2.mono (by simp)).tr (o3.mono (by simp))
  have y3 := y.off o23 (nd_out nd 20 [11, 3] rfl rfl (by decide)) (nd_out nd 21 [11, 3] rfl rfl (by decide)) (nd_out nd 22 [11, 3] rfl rfl (by decide)) (nd_out nd 23 [11, 3] rfl rfl (by decide))
  have q3 := o3 se (nd_out nd 11 [3] rfl rfl (by decide))
  have r2' := o2 ro (nd_out nd 3 [11] rfl rfl (by decide))
  have hR3 : RoOk g3 ro D W := by
    refine ⟨⟨?_, ?_, ?_⟩, hD1, hD4, hW3⟩
    · rw [e3, u_fi_n _ _ (by decide), u_fi_s]
    · rw [e3, u_fi_s]
    · rw [e3, u_fi_n _ _ (by decide), u_fi_n _ _ (by decide), r2'.1]; exact hT2
  have hf3 : g3.2.2.1 nr = f := by rw [(o23 nr (nd_out nd 10 [11, 3] rfl rfl (by decide))).2.2.1]; exact hf
  refine ⟨_, s_consider (d := d + 1) (T := T) (A := none) x1 rfl xt x4 y3 hT x5 x6 x7 (nd_sub nd [0, 1, 2, 3, 4, 5, 20, 21, 22, 23, 10, 11, 12, 13, 14, 15] _ rfl (by decide)) hR3.1.1 hR3.2.1 hR3.2.2.1 hR3.1.2.1 hR3.2.2.2 hR3.1.2.2 hf3 hfB (by show g3.2.1 se 4 = _; rw [q3.2.1]; exact t2), ?_⟩
  rintro g4 ⟨B4, s4, o4⟩
  have o4' : fOff [v, s, ra, u, l, se, rb, ab, bb, cb, r2, a2, b2, c2, r1, a1, b1, c1] g3 g4 := o4.mono (by simp)
  have s4' : g4.1 se 5 = nI R := by rw [s4, q3.1]; exact s2
  -- the end
  have fin : ∀ g : fH, BsOk g se rb ab bb cb (btF D W f R T) → g.1 se = g3.1 se → fOff [v, s, ra, u, l, se, rb, ab, bb, cb, r2, a2, b2, c2, r1, a1, b1, c1] g3 g → ((g.1 se 5 = nI R ∧ BsOk g se rb ab bb cb (btF D W f R T)) ∧ g.1 ro 2 = bI false ∧ fOff [v, s, ra, u, l, se, rb, ab, bb, cb, r2, a2, b2, c2, r1, a1, b1, c1, ro] h g) := by
    intro g hB eg og
    refine ⟨⟨by rw [eg, q3.1]; exact s2, hB⟩, ?_, (o23.mono (by simp)).tr (og.mono (by simp))⟩
    rw [(og ro (nd_out nd 3 [0, 1, 2, 4, 5, 11, 12, 13, 14, 15, 16, 17, 18, 19, 6, 7, 8, 9] rfl rfl (by decide))).1]
    exact hR3.1.2.2
  rw [show (1 : Int32) = nI 1 from rfl]
  rcases (by omega : R = 0 ∨ R = 1 ∨ R = 2) with rfl | rfl | rfl
  · refine NX6_find_53 ⟨fun _ => fin g4 B4 s4 o4', fun z => absurd (by decide) z⟩
  · refine NX6_find_53 ⟨fun z => absurd z (by decide), fun _ => ⟨fun z => absurd z (by decide), fun _ => ?_⟩⟩
    rw [show (0 : Int32) = nI 0 from rfl]
    refine s_depth (d := d) (dp := 1) (R := 1) X y3 hT hR3 hf3 hfB (Or.inl rfl) (btF D W f 1 T) ?_ (T.length * 7) 0 _ g4 (by omega) o4' s4 B4 rfl
    intro g hB eg og
    exact NX6_find_53 ⟨fun _ => fin g hB eg og, fun z => absurd (by decide) z⟩
  · refine NX6_find_53 ⟨fun z => absurd z (by decide), fun _ => ⟨fun z => absurd z (by decide), fun _ => ?_⟩⟩
    rw [show (0 : Int32) = nI 0 from rfl]
    refine s_depth (d := d) (dp := 1) (R := 2) X y3 hT hR3 hf3 hfB (Or.inl rfl) (btF D W f 1 T) ?_ (T.length * 7) 0 _ g4 (by omega) o4' s4 B4 rfl
    intro g hB eg og
    refine NX6_find_53 ⟨fun z => absurd z (by decide), fun _ => ⟨fun z => absurd z (by decide), fun _ => ?_⟩⟩
    rw [show (0 : Int32) = nI 0 from rfl]
    refine s_depth (d := d) (dp := 2) (R := 2) X y3 hT hR3 hf3 hfB (Or.inr rfl) (btF D W f 2 T) ?_ (T.length * 7) 0 _ g (by omega) og eg hB dp_2
    intro g' hB' eg' og'
    exact NX6_find_53 ⟨fun _ => fin g' hB' eg' og', fun z => absurd (by decide) z⟩
end CS3

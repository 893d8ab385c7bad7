/-! ===== the reference's BOUNDS ===== -/
/-- the best of four pairs' ends -/
def opP (D W : Nat) (f : Int64 → Int64 → Int64) (c : Int32) (A B : spT) : Int64 :=
  if madeF D W true c A.1 B.1 = gG ∨ madeF D W true c A.1 B.2 = gG ∨ madeF D W true c A.2 B.1 = gG ∨ madeF D W true c A.2 B.2 = gG then gG
  else f (f (f (madeF D W true c A.1 B.1) (madeF D W true c A.1 B.2)) (madeF D W true c A.2 B.1)) (madeF D W true c A.2 B.2)
theorem mnL_ng {a b : Int64} (ha : ¬ a = gG) (hb : ¬ b = gG) : ¬ mnL a b = gG := by rcases mnL_c a b with e | e <;> rw [e] <;> assumption
theorem mxL_ng {a b : Int64} (ha : ¬ a = gG) (hb : ¬ b = gG) : ¬ mxL a b = gG := by rcases mxL_c a b with e | e <;> rw [e] <;> assumption
theorem opP_sp4 {D : Nat} {c : Int32} {A B : spT} : sp2 (opP D 3 mnL c A B) (opP D 2 mxL c A B) = sp4 D c A B := by
  unfold sp2 sp4 opP
  by_cases g1 : madeF D 3 true c A.1 B.1 = gG ∨ madeF D 3 true c A.1 B.2 = gG ∨ madeF D 3 true c A.2 B.1 = gG ∨ madeF D 3 true c A.2 B.2 = gG
  · have e : ∀ P : Prop, [Decidable P] → True := fun _ _ => trivial
    rw [if_pos g1, if_pos (Or.inl rfl), if_pos]
    rcases g1 with g | g | g | g <;> simp [g]
  · by_cases g2 : madeF D 2 true c A.1 B.1 = gG ∨ madeF D 2 true c A.1 B.2 = gG ∨ madeF D 2 true c A.2 B.1 = gG ∨ madeF D 2 true c A.2 B.2 = gG
    · rw [if_neg g1, if_pos g2, if_pos (Or.inr rfl), if_pos]
      rcases g2 with g | g | g | g <;> simp [g]
    · rw [if_neg g1, if_neg g2]
      simp only [not_or] at g1 g2
      obtain ⟨p1, p2, p3, p4⟩ := g1
      obtain ⟨q1, q2, q3, q4⟩ := g2
      rw [if_neg, if_neg]
      · simp [p1, p2, p3, p4, q1, q2, q3, q4]
      · simp only [not_or]
        exact ⟨mnL_ng (mnL_ng (mnL_ng p1 p2) p3) p4, mxL_ng (mxL_ng (mxL_ng q1 q2) q3) q4⟩
section MBOUND
variable {d : Nat} {h : fH} {n D W : Nat} {t f g : Nat → Int32}
theorem s_layEnds {i : Nat} {x y : Int64} (hi : i < 13) : OkV d mX12_layEnds SM [.ref 1, .int (nI i), .long x, .long y] h (fun k => k.2.2.2 16 = vp_updL (h.2.2.2 16) i (sp2 x y).1 ∧ k.2.2.2 17 = vp_updL (h.2.2.2 17) i (sp2 x y).2 ∧ mF ([], [], [], [16, 17]) h k) := by
  have hc : (nI i).toNatClampNeg = i := nI_clamp (by omega)
  refine NX12_layEnds_0 hM hM16 hM17 ⟨vp_in_nI hi (by decide), ?_⟩
  rw [hc]
  rintro g1 rfl g2 hg2
  have f2 : mF ([], [], [], [16, 17]) h g2 := by rw [hg2]; exact (mF.rf.al (by decide)).al (by decide)
  have l2 : g2.2.2.2 16 = vp_updL (h.2.2.2 16) i x := by rw [hg2, u_al_n _ _ (by decide), u_al_s]
  have r2 : g2.2.2.2 17 = vp_updL (h.2.2.2 17) i y := by rw [hg2, u_al_s, u_al_n _ _ (by decide)]
  clear hg2
  have gr : (x = gG ∨ y = gG) → ∀ g4 : fH, g4 = u_al (u_al g2 16 (vp_updL (g2.2.2.2 16) i 1000000000000000000)) 17 (vp_updL ((u_al g2 16 (vp_updL (g2.2.2.2 16) i 1000000000000000000)).2.2.2 17) i 1000000000000000000) → g4.2.2.2 16 = vp_updL (h.2.2.2 16) i (sp2 x y).1 ∧ g4.2.2.2 17 = vp_updL (h.2.2.2 17) i (sp2 x y).2 ∧ mF ([], [], [], [16, 17]) h g4 := by
    rintro z g4 rfl
    have e : sp2 x y = (gG, gG) := by unfold sp2; rw [if_pos z]
    rw [e]
    refine ⟨?_, ?_, (f2.al (by decide)).al (by decide)⟩
    · rw [u_al_n _ _ (by decide), u_al_s, l2, updL2]; rfl
    · rw [u_al_s, u_al_n _ _ (by decide), r2, updL2]; rfl
  refine ⟨fun z => ?_, fun z => ⟨fun z2 => ?_, fun z2 => ?_⟩⟩
  · rintro g3 rfl g4 hg4
    exact gr (Or.inl z) g4 hg4
  · have e : sp2 x y = (x, y) := by unfold sp2; rw [if_neg]; rintro (w | w); exact z w; exact z2 w
    rw [e]
    exact ⟨l2, r2, f2⟩
  · rintro g3 rfl g4 hg4
    exact gr (Or.inr z2) g4 hg4
theorem s_ofPairs {p q e : Nat} {c : Int32} {A B : spT} {fn : Int64 → Int64 → Int64} (he : (e = 0 ∧ W = 3 ∧ fn = mnL) ∨ (e = 1 ∧ W = 2 ∧ fn = mxL)) (hp : p < 13) (hq : q < 13) (hD : h.1 1 0 = nI D) (hD1 : 1 ≤ D) (hD4 : D ≤ 4) (hc : isOpB c = true) (a1 : dcm A.1) (a2 : dcm A.2) (b1 : dcm B.1) (b2 : dcm B.2)
    (k1 : h.2.2.2 16 p = A.1) (k2 : h.2.2.2 17 p = A.2) (k3 : h.2.2.2 16 q = B.1) (k4 : h.2.2.2 17 q = B.2) :
    OkL (d + 4) mX12_ofPairs SM [.ref 1, .int c, .int (nI p), .int (nI q), .int (nI e)] h (fun v k => v = opP D W fn c A B ∧ mF fScr h k) := by
  have hW : (3 : Int32) - nI e = nI W := by rcases he with ⟨rfl, rfl, _⟩ | ⟨rfl, rfl, _⟩ <;> decide
  have hW3 : W ≤ 3 := by rcases he with ⟨_, rfl, _⟩ | ⟨_, rfl, _⟩ <;> decide
  have cp : (nI p).toNatClampNeg = p := nI_clamp (by omega)
  have cq : (nI q).toNatClampNeg = q := nI_clamp (by omega)
  have stp : ∀ (kk : Nat) (best a b : Int64) (k : fH), kk < 4 → mF fScr h k → dcm a → dcm b → (madeF D W true c a b = gG → opP D W fn c A B = gG) →
      (¬ madeF D W true c a b = gG → ∀ k', mF fScr h k' → G mX12_ofPairs (d + 4) SM (f_PL (fun v k => v = opP D W fn c A B ∧ mF fScr h k)) 6 [(0, .ref 1), (1, .int c), (2, .int (nI p)), (3, .int (nI q)), (4, .int (nI e)), (5, .long (if kk = 0 then madeF D W true c a b else fn best (madeF D W true c a b))), (7, .int (nI (kk + 1)))] [] k') →
      G mX12_ofPairs (d + 4) SM (f_PL (fun v k => v = opP D W fn c A B ∧ mF fScr h k)) 57 [(0, .ref 1), (1, .int c), (2, .int (nI p)), (3, .int (nI q)), (4, .int (nI e)), (5, .long best), (7, .int (nI kk))] [.long b, .long a, .int c, .ref 1] k := by
    intro kk best a b k hkk hf da db hg hn
    refine NX12_ofPairs_57 hM ?_
    rw [hW, show (1 : Int32) = bI true from rfl]
    refine ⟨_, s_made (D := D) (W := W) (tiny := true) (d := d) hMi (by rw [hf.1 0 (by decide)]; exact hD) hD1 hD4 hW3 (op4 hc) (Or.inr da) (Or.inr db), ?_⟩
    rintro _ k' ⟨rfl, hk'⟩
    have hf' : mF fScr h k' := hf.tr (mF.scr hk')
    have kk0 : (nI kk = (0 : Int32)) ↔ kk = 0 := nI_eq (b := 0) (by omega) (by decide)
    rw [show (bI true : Int32) = (1 : Int32) from rfl, nI1]
    refine ⟨fun z => ?_, fun z => ⟨(show gG = opP D W fn c A B from (hg z).symm), hf'⟩⟩
    have hn := hn z k' hf'
    rw [kk0]
    refine ⟨fun y => ?_, fun y => ?_⟩
    · rw [if_pos y] at hn; exact hn
    · rw [if_neg y] at hn
      rcases he with ⟨rfl, rfl, rfl⟩ | ⟨rfl, rfl, rfl⟩
      · refine ⟨fun w => absurd rfl w, fun _ => ⟨fun w => ?_, fun w => ?_⟩⟩
        · unfold mnL at hn; rw [if_pos w] at hn; exact hn
        · unfold mnL at hn; rw [if_neg w] at hn; exact hn
      · refine ⟨fun _ => ⟨fun w => ?_, fun w => ?_⟩, fun w => absurd w (by decide)⟩
        · unfold mxL at hn; rw [if_pos w] at hn; exact hn
        · unfold mxL at hn; rw [if_neg w] at hn; exact hn
  have row : ∀ (k : fH), mF fScr h k → k.2.2.2 16 p = A.1 ∧ k.2.2.2 17 p = A.2 ∧ k.2.2.2 16 q = B.1 ∧ k.2.2.2 17 q = B.2 := fun k hf => by
    rw [hf.2.2.2 16 (by decide), hf.2.2.2 17 (by decide)]; exact ⟨k1, k2, k3, k4⟩
  have grt : ∀ x : Int64, (x = madeF D W true c A.1 B.1 ∨ x = madeF D W true c A.1 B.2 ∨ x = madeF D W true c A.2 B.1 ∨ x = madeF D W true c A.2 B.2) → x = gG → opP D W fn c A B = gG := by
    intro x hx hg
    unfold opP
    rw [if_pos]
    rcases hx with e | e | e | e
    · exact Or.inl (e.symm.trans hg)
    · exact Or.inr (Or.inl (e.symm.trans hg))
    · exact Or.inr (Or.inr (Or.inl (e.symm.trans hg)))
    · exact Or.inr (Or.inr (Or.inr (e.symm.trans hg)))
  refine NX12_ofPairs_0 ?_
  -- four turns
  refine NX12_ofPairs_6 hM hM17 hM16 ⟨fun z => absurd z (by decide), fun _ => ⟨fun z => absurd z (by decide), fun _ => ⟨vp_in_nI hp (by decide), fun z => absurd (by decide) z, fun _ => ⟨vp_in_nI hq (by decide), ?_⟩⟩⟩⟩
  rw [cp, cq, (row h mF.rf).1, (row h mF.rf).2.2.1]
  refine stp 0 0 A.1 B.1 h (by decide) mF.rf a1 b1 (fun w => grt _ (Or.inl rfl) w) (fun g1 h1 f1 => ?_)
  rw [if_pos rfl]
  refine NX12_ofPairs_6 hM hM17 hM16 ⟨fun z => absurd z (by decide), fun _ => ⟨fun z => absurd z (by decide), fun _ => ⟨vp_in_nI hp (by decide), fun _ => ⟨vp_in_nI hq (by decide), ?_⟩, fun z => absurd z (by decide)⟩⟩⟩
  rw [cp, cq, (row h1 f1).1, (row h1 f1).2.2.2]
  refine stp 1 _ A.1 B.2 h1 (by decide) f1 a1 b2 (fun w => grt _ (Or.inr (Or.inl rfl)) w) (fun g2 h2 f2 => ?_)
  rw [if_neg (show ¬ 1 = 0 by decide)]
  refine NX12_ofPairs_6 hM hM17 hM16 ⟨fun z => absurd z (by decide), fun _ => ⟨fun _ => ⟨vp_in_nI hp (by decide), fun z => absurd (by decide) z, fun _ => ⟨vp_in_nI hq (by decide), ?_⟩⟩, fun z => absurd (by decide) z⟩⟩
  rw [cp, cq, (row h2 f2).2.1, (row h2 f2).2.2.1]
  refine stp 2 _ A.2 B.1 h2 (by decide) f2 a2 b1 (fun w => grt _ (Or.inr (Or.inr (Or.inl rfl))) w) (fun g3 h3 f3 => ?_)
  rw [if_neg (show ¬ 2 = 0 by decide)]
  refine NX12_ofPairs_6 hM hM17 hM16 ⟨fun z => absurd z (by decide), fun _ => ⟨fun _ => ⟨vp_in_nI hp (by decide), fun _ => ⟨vp_in_nI hq (by decide), ?_⟩, fun z => absurd z (by decide)⟩, fun z => absurd (by decide) z⟩⟩
  rw [cp, cq, (row h3 f3).2.1, (row h3 f3).2.2.2]
  refine stp 3 _ A.2 B.2 h3 (by decide) f3 a2 b2 (fun w => grt _ (Or.inr (Or.inr (Or.inr rfl))) w) (fun g4 h4 f4 => ?_)
  rw [if_neg (show ¬ 3 = 0 by decide)]
  refine NX12_ofPairs_6 hM hM17 hM16 ⟨fun _ => ⟨?_, f4⟩, fun z => absurd (by decide) z⟩
  unfold opP
  rw [if_neg (by simp [g1, g2, g3, g4])]
abbrev fEn : fL := ([2, 3, 4, 5, 6, 14], [2, 3, 4, 5, 6], [6, 7], [16, 17])
theorem s_findEnds (hn : h.1 1 10 = nI n) (hv : TxV (h.2.2.1 3) n) (ht : h.2.2.1 3 = t) (hD : h.1 1 0 = nI D) (hD1 : 1 ≤ D) (hD4 : D ≤ 4) (hf : mNum h = f) (hfB : nmB f) (hg : h.2.2.1 5 = g) (hgB : snB g) :
    OkV (d + 6) mX12_findEnds SM [.ref 1] h (fun k => (∀ i, i < n → k.2.2.2 16 i = (spF D f g t n i).1 ∧ k.2.2.2 17 i = (spF D f g t n i).2) ∧ mF fEn h k) := by
  rw [ht] at hv
  obtain ⟨⟨o, hvo⟩, h13, hleaf⟩ := id hv
  refine NX12_findEnds_0 hM ⟨_, s_layText h13 hn, ?_⟩
  rw [ht]
  rintro h1 ⟨hN, fr1⟩
  refine ⟨_, s_findSizes (d := d + 4) h13 hN ⟨o, hvo⟩, ?_⟩
  rintro h2 ⟨hsz, fr2⟩
  have f2 : mF fEn h h2 := (fr1.mono (by decide)).go fr2 (by decide)
  have hN2 := hN.of fr2 (by decide) (by decide)
  have key : ∀ (i : Nat) (k : fH), i ≤ n → mF fEn h k → MNow k t n → (∀ j, j < n → k.2.2.1 7 j = nI (sz t n j)) → (∀ j, i ≤ j → j < n → k.2.2.2 16 j = (spF D f g t n j).1 ∧ k.2.2.2 17 j = (spF D f g t n j).2) → G mX12_findEnds (d + 6) SM (f_PV (fun k => (∀ i, i < n → k.2.2.2 16 i = (spF D f g t n i).1 ∧ k.2.2.2 17 i = (spF D f g t n i).2) ∧ mF fEn h k)) 15 [(0, .ref 1), (1, .int (Int32.ofInt ((i : Int) - 1)))] [] k := by
    intro i
    induction i with
    | zero =>
      intro k _ fk _ _ hall
      exact NX12_findEnds_15 hM hM6 hM7 hM16 hM17 hM5 ⟨fun _ => ⟨fun j hj => hall j (by omega) hj, fk⟩, fun z => absurd (by decide) z⟩
    | succ i ih =>
      intro k hi1 fk kN ks hall
      rw [i_pred]
      have hin : i < n := by omega
      have hc : (nI i).toNatClampNeg = i := nI_clamp (by omega)
      have kD : k.1 1 0 = nI D := by rw [fk.1 0 (by decide)]; exact hD
      have kf : mNum k = f := by
        unfold mNum
        rw [fk.2.2.1 4 (by decide), fk.2.2.1 12 (by decide)]; exact hf
      have kg : k.2.2.1 5 = g := by rw [fk.2.2.1 5 (by decide)]; exact hg
      -- the ends are laid
      have lay : ∀ (k1 : fH) (x y : Int64), mF fScr k k1 → sp2 x y = spF D f g t n i → ∃ Q9 : fH → Prop, OkV (d + 5) mX12_layEnds SM [.ref 1, .int (nI i), .long x, .long y] k1 Q9 ∧ ∀ (k9 : fH), Q9 k9 → G mX12_findEnds (d + 6) SM (f_PV (fun k => (∀ i, i < n → k.2.2.2 16 i = (spF D f g t n i).1 ∧ k.2.2.2 17 i = (spF D f g t n i).2) ∧ mF fEn h k)) 15 [(0, .ref 1), (1, .int (nI i + (-1)))] [] k9 := by
        intro k1 x y f1 e
        refine ⟨_, s_layEnds (by omega), ?_⟩
        rintro k9 ⟨r1, r2, r3⟩
        rw [e] at r1 r2
        rw [f1.2.2.2 16 (by decide)] at r1
        rw [f1.2.2.2 17 (by decide)] at r2
        rw [i_dn]
        refine ih k9 (by omega) ((fk.go f1 (by decide)).go r3 (by decide)) ((kN.of f1 (by decide) (by decide)).of r3 (by decide) (by decide)) (fun j hj => by rw [r3.2.2.1 7 (by decide), f1.2.2.1 7 (by decide)]; exact ks j hj) (fun j p1 p2 => ?_)
        rw [r1, r2]
        by_cases e : j = i
        · subst e; rw [pk_uLs, pk_uLs]; exact ⟨rfl, rfl⟩
        · rw [pk_uLn e, pk_uLn e]; exact hall j (by omega) p2
      refine NX12_findEnds_15 hM hM6 hM7 hM16 hM17 hM5 ⟨fun z => absurd z (nI_lt0 (by omega)), fun _ => ⟨vp_in_nI (by omega) (by decide), _, s_misSign, ?_⟩⟩
      rintro _ k ⟨rfl, rfl⟩
      rw [hc, kN.2 i hin]
      refine ⟨fun z => ?_, fun z => ?_⟩
      · have z := bI_n0.mp z
        obtain ⟨p1, p2⟩ := op_in hvo hin z
        have hp := sz_pos t n (i + 1)
        have e : spF D f g t n i = spO D (t i) (spF D f g t n (i + 1)) (spF D f g t n (i + 1 + sz t n (i + 1))) := ev_op hvo hin z
        have sA := spF_ok hD1 hD4 hfB hgB hv _ p1
        have sB := spF_ok hD1 hD4 hfB hgB hv _ p2
        have rA := hall (i + 1) (by omega) p1
        have rB := hall (i + 1 + sz t n (i + 1)) (by omega) p2
        rw [nI1]
        refine ⟨vp_in_nI (by omega) (by decide), ?_⟩
        rw [nI_clamp (by omega), ks _ p1, nI_add, rA.1]
        generalize spF D f g t n (i + 1) = A at *
        have gr : ∀ B, (A.1 = gG ∨ B.1 = gG) → spO D (t i) A B = (gG, gG) := fun B z => by unfold spO; rw [if_pos (Or.inl z)]
        have s2g : sp2 1000000000000000000 1000000000000000000 = (gG, gG) := rfl
        refine ⟨fun y => lay k _ _ mF.rf (by rw [s2g, e, gr _ (Or.inl y)]), fun y => ⟨vp_in_nI (by omega) (by decide), ?_⟩⟩
        rw [nI_clamp (by omega), rB.1, rB.2]
        have hq : i + 1 + sz t n (i + 1) < 13 := by omega
        generalize spF D f g t n (i + 1 + sz t n (i + 1)) = B at *
        generalize i + 1 + sz t n (i + 1) = q at *
        refine ⟨fun y2 => lay k _ _ mF.rf (by rw [s2g, e, gr _ (Or.inr y2)]), fun y2 => ?_⟩
        have dA := sA.resolve_left (fun w => y (by rw [w]; rfl))
        have dB := sB.resolve_left (fun w => y2 (by rw [w]; rfl))
        have cut : (t i = 47 → 0 < B.1 ∨ B.2 < 0) → G mX12_findEnds (d + 6) SM (f_PV (fun k => (∀ i, i < n → k.2.2.2 16 i = (spF D f g t n i).1 ∧ k.2.2.2 17 i = (spF D f g t n i).2) ∧ mF fEn h k)) 181 [(0, .ref 1), (1, .int (nI i)), (2, .int (t i)), (3, .int (nI (i + 1))), (4, .int (nI q))] [] k := by
          intro hdiv
          have hO : spF D f g t n i = sp4 D (t i) A B := by
            rw [e]
            unfold spO
            rw [if_neg]
            rintro (w | ⟨w1, w2, w3⟩)
            · exact w.elim y y2
            · rcases hdiv w1 with u | u
              · exact w2 u
              · exact w3 u
          refine NX12_findEnds_181 hM hM16 hM17 ⟨fun n43 => ⟨fun n45 => ?_, fun c45 => ?_⟩, fun c43 => ?_⟩
          · refine ⟨_, s_ofPairs (d := d + 1) (e := 0) (W := 3) (Or.inl ⟨rfl, rfl, rfl⟩) (by omega) hq kD hD1 hD4 z dA.1 dA.2.1 dB.1 dB.2.1 rA.1 rA.2 rB.1 rB.2, ?_⟩
            rintro _ k1 ⟨rfl, f1⟩
            refine ⟨_, s_ofPairs (d := d + 1) (e := 1) (W := 2) (Or.inr ⟨rfl, rfl, rfl⟩) (by omega) hq (by rw [f1.1 0 (by decide)]; exact kD) hD1 hD4 z dA.1 dA.2.1 dB.1 dB.2.1 (by rw [f1.2.2.2 16 (by decide)]; exact rA.1) (by rw [f1.2.2.2 17 (by decide)]; exact rA.2) (by rw [f1.2.2.2 16 (by decide)]; exact rB.1) (by rw [f1.2.2.2 17 (by decide)]; exact rB.2), ?_⟩
            rintro _ k2 ⟨rfl, fq⟩
            exact lay k2 _ _ (f1.tr fq) (by rw [opP_sp4, hO])
          · rw [nI_clamp (by omega), nI_clamp (by omega), rA.1, rB.2]
            refine ⟨vp_in_nI (by omega) (by decide), vp_in_nI hq (by decide), _, s_made (D := D) (W := 3) (tiny := true) (d := d + 2) hMi kD hD1 hD4 (by decide) (Or.inr (Or.inl rfl)) (Or.inr dA.1) (Or.inr dB.2.1), ?_⟩
            rintro _ k1 ⟨rfl, f1⟩
            have f1 := mF.scr f1
            rw [f1.2.2.2 17 (by decide), f1.2.2.2 16 (by decide), rA.2, rB.1]
            refine ⟨_, s_made (D := D) (W := 2) (tiny := true) (d := d + 2) hMi (by rw [f1.1 0 (by decide)]; exact kD) hD1 hD4 (by decide) (Or.inr (Or.inl rfl)) (Or.inr dA.2.1) (Or.inr dB.1), ?_⟩
            rintro _ k2 ⟨rfl, fq⟩
            refine lay k2 _ _ (f1.tr (mF.scr fq)) ?_
            rw [hO, c45, sp_minus hD1 hD4 dA.1 dA.2.1 dA.2.2 dB.1 dB.2.1 dB.2.2]
          · rw [nI_clamp (by omega), nI_clamp (by omega), rA.1, rB.1]
            refine ⟨vp_in_nI (by omega) (by decide), vp_in_nI hq (by decide), _, s_made (D := D) (W := 3) (tiny := true) (d := d + 2) hMi kD hD1 hD4 (by decide) (Or.inl rfl) (Or.inr dA.1) (Or.inr dB.1), ?_⟩
            rintro _ k1 ⟨rfl, f1⟩
            have f1 := mF.scr f1
            rw [f1.2.2.2 17 (by decide), rA.2, rB.2]
            refine ⟨_, s_made (D := D) (W := 2) (tiny := true) (d := d + 2) hMi (by rw [f1.1 0 (by decide)]; exact kD) hD1 hD4 (by decide) (Or.inl rfl) (Or.inr dA.2.1) (Or.inr dB.2.1), ?_⟩
            rintro _ k2 ⟨rfl, fq⟩
            refine lay k2 _ _ (f1.tr (mF.scr fq)) ?_
            rw [hO, c43, sp_plus hD1 hD4 dA.1 dA.2.1 dA.2.2 dB.1 dB.2.1 dB.2.2]
        refine ⟨fun n7 => cut (fun w => absurd w n7), fun c7 => ⟨fun u => cut (fun _ => Or.inl u), fun u => ⟨fun u2 => cut (fun _ => Or.inr u2), fun u2 => lay k _ _ mF.rf ?_⟩⟩⟩
        rw [s2g, e]
        unfold spO
        rw [if_pos (Or.inr ⟨c7, u, u2⟩)]
      · have z := bI_0.mp z
        have e : spF D f g t n i = lfS D f g (t i) := ev_leaf z
        obtain ⟨ok1, ok2, ok3⟩ := lfS_ok (c := t i) hD1 hD4 hfB hgB
        have s2 : sp2 (lfS D f g (t i)).1 (lfS D f g (t i)).2 = spF D f g t n i := by
          rw [e]; unfold sp2; rw [if_neg]
          rintro (w | w)
          · exact ok2 w
          · exact ok3 w
        have b1 : (lfX f (t i)).natAbs ≤ 104 := lfX_bd hfB
        have b2 := lwX_bd (c := t i) hgB
        have hbt : ((1000000000 : Int64) * (numF (t i) 5 f).toInt64).toInt = lfX f (t i) * 10 ^ 9 := by
          rw [bil_toInt _ (by unfold lfX at b1; omega)]; unfold lfX; omega
        refine ⟨_, s_wholeAt (d := d + 3) h13 kN hin (hleaf i hin z), ?_⟩
        rintro _ k ⟨rfl, rfl⟩
        rw [kf]
        refine ⟨_, s_misLetter, ?_⟩
        rintro _ k ⟨rfl, rfl⟩
        have lo : ∀ {kk : fH}, mF fScr k kk → OkL (d + 5) mX12_roundOf SM [.ref 1, .long ((1000000000 : Int64) * (numF (t i) 5 f).toInt64), .int 3, .int 1] kk (fun v k' => v = (lfS D f g (t i)).1 ∧ k' = kk) := by
          intro kk fkk
          have := s_mroundOf (d := d + 3) (D := D) (W := 3) (tiny := true) (x := (1000000000 : Int64) * (numF (t i) 5 f).toInt64) hMi (by rw [fkk.1 0 (by decide)]; exact kD) hD1 hD4 (by decide) (by rw [hbt]; omega)
          rw [hbt] at this
          exact this
        have hiR : ∀ {kk : fH} (X : Int64), X.toInt = (lfX f (t i) + lwX g (t i)) * 10 ^ 9 → mF fScr k kk → OkL (d + 5) mX12_roundOf SM [.ref 1, .long X, .int 2, .int 1] kk (fun v k' => v = (lfS D f g (t i)).2 ∧ k' = kk) := by
          intro kk X hX fkk
          have := s_mroundOf (d := d + 3) (D := D) (W := 2) (tiny := true) (x := X) hMi (by rw [fkk.1 0 (by decide)]; exact kD) hD1 hD4 (by decide) (by rw [hX]; omega)
          rw [hX] at this
          exact this
        refine ⟨fun y => ?_, fun y => ?_⟩
        · have y := bI_0.mp y
          refine ⟨_, lo mF.rf, ?_⟩
          rintro _ k ⟨rfl, rfl⟩
          refine ⟨_, hiR _ (by rw [hbt]; unfold lwX; rw [y]; simp) mF.rf, ?_⟩
          rintro _ k ⟨rfl, rfl⟩
          exact lay k _ _ mF.rf s2
        · have y := bI_n0.mp y
          obtain ⟨j, hj, e1, e2, e3⟩ := let_at y
          have hw : lwX g (t i) = (g (t i - 97).toNatClampNeg).toInt := by unfold lwX; rw [if_pos y, numF_let y]
          have hX : ((1000000000 : Int64) * (numF (t i) 5 f).toInt64 + (1000000000 : Int64) * (g (t i - 97).toNatClampNeg).toInt64).toInt = (lfX f (t i) + lwX g (t i)) * 10 ^ 9 := by
            have t2 : ((1000000000 : Int64) * (g (t i - 97).toNatClampNeg).toInt64).toInt = lwX g (t i) * 10 ^ 9 := by
              rw [bil_toInt _ (by rw [← hw]; omega), hw]; omega
            have ea : ∀ p q : Int64, p + q = Int64.ofInt (p.toInt + q.toInt) := fun p q => by rw [Int64.ofInt_add, Int64.ofInt_toInt, Int64.ofInt_toInt]
            rw [ea, hbt, t2, lO_toInt (by omega) (by omega)]
            omega
          refine ⟨by rw [e1]; exact vp_in_nI hj (by decide), _, lo mF.rf, ?_⟩
          rintro _ k ⟨rfl, rfl⟩
          rw [kg]
          refine ⟨_, hiR _ hX mF.rf, ?_⟩
          rintro _ k ⟨rfl, rfl⟩
          exact lay k _ _ mF.rf s2
  rw [hN2.1, i_top]
  exact key n h2 (Nat.le_refl n) f2 hN2 hsz (fun j p1 p2 => by omega)
end MBOUND

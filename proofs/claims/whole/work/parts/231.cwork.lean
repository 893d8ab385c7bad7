/-! ===== the class's Steps.work ===== -/
theorem u_al_s (h : fH) (r : Nat) (f : Nat → Int64) : (u_al h r f).2.2.2 r = f := by simp [u_al]
theorem u_al_n (h : fH) {r a : Nat} (f : Nat → Int64) (ha : a ≠ r) : (u_al h r f).2.2.2 a = h.2.2.2 a := by simp [u_al, ha]
theorem u_al_1 (h : fH) (r : Nat) (f : Nat → Int64) : (u_al h r f).1 = h.1 := rfl
theorem u_al_2 (h : fH) (r : Nat) (f : Nat → Int64) : (u_al h r f).2.1 = h.2.1 := rfl
theorem u_al_3 (h : fH) (r : Nat) (f : Nat → Int64) : (u_al h r f).2.2.1 = h.2.2.1 := rfl
theorem fOff.hold {L : List Nat} {h h1 : fH} {r : Nat} {u l : Int64} {t : Int32} (a : fOff L h h1) (hr : r ∈ L) : fOff L h (holdH h1 r u l t) := fun x hx => by
  have hne : x ≠ r := fun e => hx (e ▸ hr)
  have q := a x hx
  rw [holdH_1 _ _ _ _ hne, holdH_2 _ _ _ _ hne, holdH_3]
  exact q
theorem i_dn (i : Nat) : nI i + (-1) = Int32.ofInt ((i : Int) - 1) := by rw [← nI_ofInt, iOm1]
theorem i_top (n : Nat) : nI n - 1 = Int32.ofInt ((n : Int) - 1) := by rw [← nI_ofInt, Int32.ofInt_sub]; rfl
theorem i_pred (i : Nat) : Int32.ofInt (((i + 1 : Nat) : Int) - 1) = nI i := by rw [← nI_ofInt]; congr 1; omega
/-- a Steps in the world, with a text and a row of numbers, apart -/
def StS (S : fW) (st v s fr ro ra : Nat) : Prop := (st, shX8 v s fr ro ra) ∈ S ∧ (v, shJ 13) ∈ S ∧ (s, shJ 13) ∈ S ∧ (ro, shX4) ∈ S ∧ (ra, shX3) ∈ S
section CWORK
variable {d : Nat} {S : fW} {h : fH} {r a b c nr st v s fr ro ra n D W : Nat} {t f : Nat → Int32}
theorem atF_in {n : Nat} {g : Nat → Int64} {j : Nat} (hn : n < 2 ^ 31) (hj : j < n) : atF n g (nI j) = g j := by
  unfold atF
  rw [if_pos ⟨nI_pos' (by omega), nI_lt hj hn⟩, nI_clamp (by omega)]
theorem s_work (T : TxS S r a b c) (x : TxOk h r a b c t n) (hv : TxV t n) (X : StS S st v s fr ro ra) (hnr : (nr, shI 5) ∈ S) (nd : [v, s, ra, ro, r, a, b, c, nr].Nodup)
    (hD : h.1 ro 0 = nI D) (hD1 : 1 ≤ D) (hD4 : D ≤ 4) (hW : h.1 ro 1 = nI W) (hW3 : W ≤ 3) (hT : h.1 ro 2 = bI false) (hf : h.2.2.1 nr = f) (hfB : nmB f) :
    OkV (d + 3) mX8_work S [.ref st, .ref r, .ref nr] h (fun k => (∀ i, i < n → k.2.2.2 v i = wkF D W f t n i ∧ k.2.2.2 s i = slF D W f t n i) ∧ fOff [v, s, ra] h k) := by
  obtain ⟨⟨o, hvo⟩, h13, hleaf⟩ := id hv
  obtain ⟨xst, xv, xs, xro, xra⟩ := X
  simp only [List.nodup_cons, List.mem_cons, List.not_mem_nil, or_false, not_or] at nd
  obtain ⟨⟨nvs, nvra, nvro, nvr, nva, nvb, nvc, nvn⟩, ⟨nsra, nsro, nsr, nsa, nsb, nsc, nsn⟩, ⟨nraro, nrar, nraa, nrab, nrac, nran⟩, ⟨nror, nroa, nrob, nroc, nron⟩, ⟨nra', nrb, nrc, nrn⟩, ⟨nab, nac, nan⟩, ⟨nbc, nbn⟩, ncn, _⟩ := nd
  have nin : ∀ y, y ≠ v → y ≠ s → y ≠ ra → y ∉ [v, s, ra] := fun y h1 h2 h3 => by simp [h1, h2, h3]
  have key : ∀ (i : Nat) (g : fH), i ≤ n → fOff [v, s, ra] h g → (∀ j, i ≤ j → j < n → g.2.2.2 v j = wkF D W f t n j ∧ g.2.2.2 s j = slF D W f t n j) → G mX8_work (d + 3) S (f_PV (fun k => (∀ i, i < n → k.2.2.2 v i = wkF D W f t n i ∧ k.2.2.2 s i = slF D W f t n i) ∧ fOff [v, s, ra] h k)) 12 [(0, .ref st), (1, .ref r), (2, .ref nr), (3, .int (Int32.ofInt ((i : Int) - 1)))] [] g := by
    intro i
    induction i with
    | zero =>
      intro g _ hg hall
      refine NX8_work_12 T.1.1 xst xra xro ⟨fun _ => ⟨fun j hj => hall j (by omega) hj, hg⟩, fun z => absurd (by decide) z⟩
    | succ i ih =>
      intro g hi hg hall
      rw [i_pred]
      have hin : i < n := by omega
      have xg := x.off hg (nin r (Ne.symm nvr) (Ne.symm nsr) (Ne.symm nrar)) (nin a (Ne.symm nva) (Ne.symm nsa) (Ne.symm nraa)) (nin b (Ne.symm nvb) (Ne.symm nsb) (Ne.symm nrab)) (nin c (Ne.symm nvc) (Ne.symm nsc) (Ne.symm nrac))
      have oro := hg ro (nin ro (Ne.symm nvro) (Ne.symm nsro) (Ne.symm nraro))
      have onr := hg nr (nin nr (Ne.symm nvn) (Ne.symm nsn) (Ne.symm nran))
      have hc : (nI i).toNatClampNeg = i := nI_clamp (by omega)
      have hti := xg.2.2.1 i hin
      -- behind the value
      have fin : ∀ (g' : fH) (val : Int64), fOff [ra] g g' → val = wkF D W f t n i → (¬ val = 1000000000000000000 → (0 : Int64) < g'.2.1 ra 1 ∧ ∃ te : Int, g'.1 ra 2 = Int32.ofInt te ∧ -1000 ≤ te ∧ te ≤ 1000 ∧ val - cutF (g'.2.1 ra 0) (g'.2.1 ra 1) te = slF D W f t n i) → (val = 1000000000000000000 → slF D W f t n i = 1000000000000000000) → G mX8_work (d + 3) S (f_PV (fun k => (∀ i, i < n → k.2.2.2 v i = wkF D W f t n i ∧ k.2.2.2 s i = slF D W f t n i) ∧ fOff [v, s, ra] h k)) 148 [(0, .ref st), (1, .ref r), (2, .ref nr), (3, .int (nI i))] [.long val, .int (nI i), .ref v] g' := by
        intro g' val hg' hval hcut hgr
        have hoff : fOff [v, s, ra] h g' := hg.tr (hg'.mono (by simp))
        refine NX8_work_148 xv xst xv xra xs ⟨vp_in_nI (by omega) (by decide), ?_⟩
        rintro g1 rfl
        refine ⟨vp_in_nI (by omega) (by decide), ?_⟩
        rw [u_al_s, hc, pk_uLs]
        have hoff1 : fOff [v, s, ra] h (u_al g' v (vp_updL (g'.2.2.2 v) i val)) := hoff.of (f_off_al _ _ _) (by simp)
        have stp : ∀ w : Int64, w = slF D W f t n i → G mX8_work (d + 3) S (f_PV (fun k => (∀ i, i < n → k.2.2.2 v i = wkF D W f t n i ∧ k.2.2.2 s i = slF D W f t n i) ∧ fOff [v, s, ra] h k)) 12 [(0, .ref st), (1, .ref r), (2, .ref nr), (3, .int (nI i + (-1)))] [] (u_al (u_al g' v (vp_updL (g'.2.2.2 v) i val)) s (vp_updL ((u_al g' v (vp_updL (g'.2.2.2 v) i val)).2.2.2 s) i w)) := by
          intro w hw
          rw [i_dn]
          refine ih _ (by omega) (hoff1.of (f_off_al _ _ _) (by simp)) ?_
          intro j hj1 hj2
          rw [u_al_n _ _ nvs, u_al_s, u_al_s, u_al_n _ _ (Ne.symm nvs)]
          by_cases e : j = i
          · subst e
            rw [pk_uLs, pk_uLs]
            exact ⟨hval, hw⟩
          · rw [pk_uLn e, pk_uLn e, (hg' v (by simp [nvra])).2.2.2, (hg' s (by simp [nsra])).2.2.2]
            exact hall j (by omega) hj2
        refine ⟨fun z => ?_, fun z => ?_⟩
        · obtain ⟨c1, te, c2, c3, c4, c5⟩ := hcut z
          refine ⟨_, s_cut xra (by rw [u_al_2]; exact c1) (by rw [u_al_1]; exact c2) c3 c4, ?_⟩
          rintro _ g ⟨rfl, rfl⟩ g2 rfl
          rw [u_al_2]
          exact stp _ c5
        · rintro g2 rfl
          exact stp _ (hgr z).symm
      refine NX8_work_12 T.1.1 xst xra xro ⟨fun z => absurd z (nI_lt0 (by omega)), fun _ => ?_⟩
      refine ⟨_, s_signAt T xg.1 h13 (by omega), ?_⟩
      rintro _ g ⟨rfl, rfl⟩
      rw [if_pos hin, hti]
      refine ⟨_, s_isOperator, ?_⟩
      rintro _ g ⟨rfl, rfl⟩
      refine ⟨fun z => ?_, fun z => ?_⟩
      · have z := bI_0.mp z
        refine ⟨_, s_numberOf (by decide) hnr, ?_⟩
        rintro _ g ⟨rfl, rfl⟩
        rw [onr.2.2.1, hf]
        refine ⟨_, s_hold xra, ?_⟩
        rintro _ rfl
        have hxt : (numF (t i) 5 f).toInt64.toInt = lfX f (t i) := Int32.toInt_toInt64 _
        have hb := lfX_bd (c := t i) hfB
        refine ⟨_, s_of (D := D) (W := W) (tiny := false) (d0 := 1) (t := 9) xro xra ?_ hD1 hD4 ?_ hW3 ?_ ?_ (by decide) (by decide) ?_ ?_ (by decide) (by decide), ?_⟩
        · rw [holdH_1 _ _ _ _ (Ne.symm nraro), oro.1]; exact hD
        · rw [holdH_1 _ _ _ _ (Ne.symm nraro), oro.1]; exact hW
        · rw [holdH_1 _ _ _ _ (Ne.symm nraro), oro.1]; exact hT
        · rw [holdH_u, hxt]; omega
        · rw [holdH_l]; rfl
        · rw [holdH_t]; rfl
        rintro _ g ⟨rfl, rfl⟩
        rw [holdH_u, hxt]
        have hwk : wkF D W f t n i = lfW D W f (t i) := ev_leaf z
        refine fin _ _ (fOff.rf.hold (by simp)) hwk.symm (fun _ => ?_) (fun q => ?_)
        · rw [holdH_u, holdH_l, holdH_t]
          refine ⟨by decide, 9, rfl, by decide, by decide, ?_⟩
          rw [cutF_leaf]
          unfold slF
          rw [z]
          rfl
        · exact absurd q (dcm_ng (lfW_dcm hD1 hD4 hfB))
      · have z := bI_n0.mp z
        obtain ⟨h1, h2⟩ := op_in hvo hin z
        have hp := sz_pos t n (i + 1)
        rw [nI1]
        refine ⟨_, s_at (by decide) xv, ?_⟩
        rintro _ g ⟨rfl, rfl⟩
        rw [atF_in (by decide) (by omega), (hall (i + 1) (by omega) h1).1]
        refine ⟨_, s_secondOp T xg hvo hin z, ?_⟩
        rintro _ g ⟨rfl, rfl⟩
        refine ⟨_, s_at (by decide) xv, ?_⟩
        rintro _ g ⟨rfl, rfl⟩
        rw [atF_in (by decide) (by omega), (hall _ (by omega) h2).1]
        have hwk : wkF D W f t n i = madeF D W false (t i) (wkF D W f t n (i + 1)) (wkF D W f t n (i + 1 + sz t n (i + 1))) := ev_op hvo hin z
        have dA := wkF_dcm (D := D) (W := W) (f := f) hD1 hD4 hfB hv (i + 1) h1
        have dB := wkF_dcm (D := D) (W := W) (f := f) hD1 hD4 hfB hv _ h2
        have hsl : slF D W f t n i = (if wkF D W f t n i = 1000000000000000000 then 1000000000000000000 else wkF D W f t n i - wholeF (t i) (wkF D W f t n (i + 1)) (wkF D W f t n (i + 1 + sz t n (i + 1)))) := by unfold slF; rw [if_pos z]
        have hslg : wkF D W f t n i = 1000000000000000000 → slF D W f t n i = 1000000000000000000 := fun q => by rw [hsl, if_pos q]
        generalize wkF D W f t n (i + 1) = A at *
        generalize wkF D W f t n (i + 1 + sz t n (i + 1)) = B at *
        have gr : wkF D W f t n i = 1000000000000000000 → ∀ g', fOff [ra] g g' → G mX8_work (d + 3) S (f_PV (fun k => (∀ i, i < n → k.2.2.2 v i = wkF D W f t n i ∧ k.2.2.2 s i = slF D W f t n i) ∧ fOff [v, s, ra] h k)) 148 [(0, .ref st), (1, .ref r), (2, .ref nr), (3, .int (nI i))] [.long 1000000000000000000, .int (nI i), .ref v] g' := fun q g' hg' =>
          fin g' _ hg' q.symm (fun e => absurd rfl e) (fun _ => hslg q)
        refine ⟨fun q => gr (by rw [hwk, madeF, if_pos (Or.inl q)]) _ fOff.rf, fun q1 => ⟨fun q => gr (by rw [hwk, madeF, if_pos (Or.inr q)]) _ fOff.rf, fun q2 => ?_⟩⟩
        have dA := dA.resolve_left q1
        have dB := dB.resolve_left q2
        have hB1 := dB.1
        refine ⟨_, s_join xra (by omega), ?_⟩
        rintro _ g ⟨rfl, rfl⟩
        refine ⟨fun q => ?_, fun q => ?_⟩
        · have q := bI_0.mp q
          simp only [decide_eq_false_iff_not, not_or, Classical.not_not] at q
          refine gr ?_ _ (fOff.rf.hold (by simp))
          rw [hwk, madeF, if_neg (by simp [q1, q2]), if_pos (by simp [q])]
        · have q := bI_n0.mp q
          simp only [decide_eq_true_eq] at q
          have q' : (t i = 43 ∨ t i = 45 ∨ t i = 42) ∨ ¬ B = 0 := by rcases q with q | q | q | q <;> simp [q]
          have jd := jD_ok (sg := t i) dB q'
          have je := jE_ok (sg := t i) (A := A.toInt) (B := B.toInt)
          have js := jN_small (sg := t i) dA dB
          have ju : (Int64.ofInt (jN (t i) A.toInt B.toInt)).toInt = jN (t i) A.toInt B.toInt := lO_toInt (by omega) (by omega)
          refine ⟨_, s_of (D := D) (W := W) (tiny := false) (d0 := jD (t i) B.toInt) (t := jE (t i) A.toInt B.toInt) xro xra ?_ hD1 hD4 ?_ hW3 ?_ ?_ jd.1 jd.2 ?_ ?_ je.1 je.2, ?_⟩
          · rw [holdH_1 _ _ _ _ (Ne.symm nraro), oro.1]; exact hD
          · rw [holdH_1 _ _ _ _ (Ne.symm nraro), oro.1]; exact hW
          · rw [holdH_1 _ _ _ _ (Ne.symm nraro), oro.1]; exact hT
          · rw [holdH_u, ju]; exact js
          · rw [holdH_l]
          · rw [holdH_t]
          rintro _ g ⟨rfl, rfl⟩
          rw [holdH_u, ju]
          have hval : wkF D W f t n i = Int64.ofInt (rndF D W false (decide (jN (t i) A.toInt B.toInt < 0)) (jN (t i) A.toInt B.toInt).natAbs (jD (t i) B.toInt) (jE (t i) A.toInt B.toInt)) := by
            rw [hwk, madeF, if_neg (by simp [q1, q2]), if_neg]
            · rfl
            · rintro ⟨e1, e2⟩
              rcases q' with q' | q'
              · exact e1 q'
              · exact q' e2
          refine fin _ _ (fOff.rf.hold (by simp)) hval.symm (fun e => ?_) (fun e => hslg (hval.trans e))
          rw [holdH_u, holdH_l, holdH_t]
          refine ⟨lN_pos jd.1 (by have := jd.2; omega), _, rfl, je.1, je.2, ?_⟩
          rw [hsl, if_neg (by rw [hval]; exact e), hval]
          rfl
  refine NX8_work_0 T.1.1 ?_
  rw [x.1, min13 x.2.1, i_top]
  exact key n h (Nat.le_refl n) fOff.rf (fun j h1 h2 => by omega)
end CWORK

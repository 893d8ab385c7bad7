/-! ===== the class's Spans.bound: the loop ===== -/
section CB2
variable {d : Nat} {S : fW} {h : fH} {sp lw hi ra dn up fr tr wd r a b c nu sn te pg n D : Nat} {t f g : Nat → Int32}
theorem s_bound (X : SpS S sp lw hi ra dn up fr tr wd) (T : TxS S r a b c) (x : TxOk h r a b c t n) (hv : TxV t n) (hpg : (pg, shX2 r nu sn te) ∈ S) (hnu : (nu, shI 5) ∈ S) (hsn : (sn, shI 5) ∈ S) (nd : [lw, hi, ra, dn, up, r, a, b, c, nu, sn, pg].Nodup)
    (hD : h.1 pg 5 = nI D) (hD1 : 1 ≤ D) (hD4 : D ≤ 4) (t1 : h.1 dn 2 = bI true) (t2 : h.1 up 2 = bI true) (hf : h.2.2.1 nu = f) (hg : h.2.2.1 sn = g) (hfB : nmB f) (hgB : snB g) :
    OkV (d + 4) mX7_bound S [.ref sp, .ref pg] h (fun k => (∀ i, i < n → k.2.2.2 lw i = (spF D f g t n i).1 ∧ k.2.2.2 hi i = (spF D f g t n i).2) ∧ DuOk k dn up D ∧ fOff [lw, hi, ra, dn, up] h k) := by
  obtain ⟨⟨o, hvo⟩, h13, hleaf⟩ := id hv
  obtain ⟨x1, x2, x3, x4, x5, x6⟩ := id X
  have nd5 : [lw, hi, ra, dn, up].Nodup := nd.sublist (List.sublist_append_left [lw, hi, ra, dn, up] [r, a, b, c, nu, sn, pg])
  have n1 : dn ≠ ra := nd_ne nd 3 2 rfl rfl (by decide)
  have n2 : up ≠ ra := nd_ne nd 4 2 rfl rfl (by decide)
  have n3 : lw ≠ hi := nd_ne nd 0 1 rfl rfl (by decide)
  have key : ∀ (i : Nat) (k : fH), i ≤ n → fOff [lw, hi, ra, dn, up] h k → DuOk k dn up D → (∀ j, i ≤ j → j < n → k.2.2.2 lw j = (spF D f g t n j).1 ∧ k.2.2.2 hi j = (spF D f g t n j).2) → G mX7_bound (d + 4) S (f_PV (fun k => (∀ i, i < n → k.2.2.2 lw i = (spF D f g t n i).1 ∧ k.2.2.2 hi i = (spF D f g t n i).2) ∧ DuOk k dn up D ∧ fOff [lw, hi, ra, dn, up] h k)) 39 [(0, .ref sp), (1, .ref pg), (2, .int (Int32.ofInt ((i : Int) - 1)))] [] k := by
    intro i
    induction i with
    | zero =>
      intro k _ ok du hall
      exact NX7_bound_39 hpg T.1.1 x1 ⟨fun _ => ⟨fun j hj => hall j (by omega) hj, du, ok⟩, fun z => absurd (by decide) z⟩
    | succ i ih =>
      intro k hi1 ok du hall
      rw [i_pred]
      have hin : i < n := by omega
      have hc : (nI i).toNatClampNeg = i := nI_clamp (by omega)
      have xk := x.off ok (nd_out nd 5 [0, 1, 2, 3, 4] rfl rfl (by decide)) (nd_out nd 6 [0, 1, 2, 3, 4] rfl rfl (by decide)) (nd_out nd 7 [0, 1, 2, 3, 4] rfl rfl (by decide)) (nd_out nd 8 [0, 1, 2, 3, 4] rfl rfl (by decide))
      have onu := ok nu (nd_out nd 9 [0, 1, 2, 3, 4] rfl rfl (by decide))
      have osn := ok sn (nd_out nd 10 [0, 1, 2, 3, 4] rfl rfl (by decide))
      have nx : ∀ k1 : fH, fOff [lw, hi, ra] k k1 → k1.2.2.2 lw = vp_updL (k.2.2.2 lw) i (spF D f g t n i).1 → k1.2.2.2 hi = vp_updL (k.2.2.2 hi) i (spF D f g t n i).2 → G mX7_bound (d + 4) S (f_PV (fun k => (∀ i, i < n → k.2.2.2 lw i = (spF D f g t n i).1 ∧ k.2.2.2 hi i = (spF D f g t n i).2) ∧ DuOk k dn up D ∧ fOff [lw, hi, ra, dn, up] h k)) 39 [(0, .ref sp), (1, .ref pg), (2, .int (nI i + (-1)))] [] k1 := by
        intro k1 o1 e1 e2
        rw [i_dn]
        refine ih k1 (by omega) (ok.tr (o1.mono (by simp))) (du.off o1 (nd_out nd 3 [0, 1, 2] rfl rfl (by decide)) (nd_out nd 4 [0, 1, 2] rfl rfl (by decide))) (fun j h1 h2 => ?_)
        rw [e1, e2]
        by_cases e : j = i
        · subst e; rw [pk_uLs, pk_uLs]; exact ⟨rfl, rfl⟩
        · rw [pk_uLn e, pk_uLn e]; exact hall j (by omega) h2
      -- a leaf, its width
      have leaf : isOpB (t i) = false → ∀ (w : Int32), w.toInt = lwX g (t i) → G mX7_bound (d + 4) S (f_PV (fun k => (∀ i, i < n → k.2.2.2 lw i = (spF D f g t n i).1 ∧ k.2.2.2 hi i = (spF D f g t n i).2) ∧ DuOk k dn up D ∧ fOff [lw, hi, ra, dn, up] h k)) 95 [(0, .ref sp), (1, .ref pg), (2, .int (nI i)), (3, .int (t i))] [.int w] k := by
        intro z w hw
        have b1 := lfX_bd (c := t i) hfB
        have b2 := lwX_bd (c := t i) hgB
        have e : spF D f g t n i = lfS D f g (t i) := ev_leaf z
        have ex : (numF (t i) 5 f).toInt64.toInt = lfX f (t i) := Int32.toInt_toInt64 _
        have ey : (numF (t i) 5 f + w).toInt64.toInt = lfX f (t i) + lwX g (t i) := by
          rw [Int32.toInt_toInt64, i_add_toInt, hw]
          · rfl
          · rw [hw]; unfold lfX at b1; omega
          · rw [hw]; unfold lfX at b1; omega
        obtain ⟨⟨q1, q2, q3⟩, q4, q5, q6⟩ := id du
        refine NX7_bound_95 hpg x1 x4 x5 x2 x6 x3 ⟨_, s_numberOf (by decide) hnu, ?_⟩
        rintro _ k ⟨rfl, rfl⟩
        rw [onu.2.2.1, hf]
        refine ⟨_, s_hold x4, ?_⟩
        rintro _ rfl
        refine ⟨_, s_of (D := D) (W := 3) (tiny := true) (d0 := 1) (t := 9) x5 x4 ?_ hD1 hD4 ?_ (by decide) ?_ ?_ (by decide) (by decide) ?_ ?_ (by decide) (by decide), ?_⟩
        · rw [holdH_1 _ _ _ _ n1]; exact q1
        · rw [holdH_1 _ _ _ _ n1]; exact q2
        · rw [holdH_1 _ _ _ _ n1]; exact q3
        · rw [holdH_u, ex]; omega
        · rw [holdH_l]; rfl
        · rw [holdH_t]; rfl
        rintro _ _ ⟨rfl, rfl⟩
        refine ⟨vp_in_nI (by omega) (by decide), ?_⟩
        rw [holdH_u, ex, hc]
        rintro g1 hg1
        have o1 : fOff [lw, hi, ra] k g1 := by rw [hg1]; exact (fOff.rf.hold (by simp)).of (f_off_al _ _ _) (by simp)
        have r1 : g1.2.2.2 lw = vp_updL (k.2.2.2 lw) i (spF D f g t n i).1 := by
          rw [hg1, u_al_s, holdH_3, e, ← lf_sc (by omega)]; rfl
        have r2 : g1.2.2.2 hi = k.2.2.2 hi := by rw [hg1, u_al_n _ _ (Ne.symm n3), holdH_3]
        have du1 := du.off o1 (nd_out nd 3 [0, 1, 2] rfl rfl (by decide)) (nd_out nd 4 [0, 1, 2] rfl rfl (by decide))
        obtain ⟨_, q4, q5, q6⟩ := id du1
        clear hg1
        refine ⟨_, s_hold x4, ?_⟩
        rintro _ rfl
        refine ⟨_, s_of (D := D) (W := 2) (tiny := true) (d0 := 1) (t := 9) x6 x4 ?_ hD1 hD4 ?_ (by decide) ?_ ?_ (by decide) (by decide) ?_ ?_ (by decide) (by decide), ?_⟩
        · rw [holdH_1 _ _ _ _ n2]; exact q4
        · rw [holdH_1 _ _ _ _ n2]; exact q5
        · rw [holdH_1 _ _ _ _ n2]; exact q6
        · rw [holdH_u, ey]; omega
        · rw [holdH_l]; rfl
        · rw [holdH_t]; rfl
        rintro _ _ ⟨rfl, rfl⟩
        rw [holdH_u, ey]
        rintro g2 hg2
        refine nx g2 ?_ ?_ ?_
        · rw [hg2]; exact (o1.hold (by simp)).of (f_off_al _ _ _) (by simp)
        · rw [hg2, u_al_n _ _ n3, holdH_3]; exact r1
        · rw [hg2, u_al_s, holdH_3, r2, e, ← lf_sc (by omega)]; rfl
      refine NX7_bound_39 hpg T.1.1 x1 ⟨fun z => absurd z (nI_lt0 (by omega)), fun _ => ?_⟩
      refine ⟨_, s_signAt T xk.1 h13 (by omega), ?_⟩
      rintro _ k ⟨rfl, rfl⟩
      rw [if_pos hin, xk.2.2.1 i hin]
      refine ⟨_, s_isOperator, ?_⟩
      rintro _ k ⟨rfl, rfl⟩
      refine ⟨fun z => ?_, fun z => ?_⟩
      · have z := bI_0.mp z
        refine ⟨_, s_isLetter, ?_⟩
        rintro _ k ⟨rfl, rfl⟩
        refine ⟨fun y => ?_, fun y => ?_⟩
        · exact leaf z 0 (by unfold lwX; rw [bI_0.mp y]; rfl)
        · refine ⟨_, s_numberOf (by decide) hsn, ?_⟩
          rintro _ k ⟨rfl, rfl⟩
          rw [osn.2.2.1, hg]
          exact leaf z _ (by unfold lwX; rw [if_pos (bI_n0.mp y)])
      · have z := bI_n0.mp z
        obtain ⟨p1, p2⟩ := op_in hvo hin z
        have hp := sz_pos t n (i + 1)
        have e : spF D f g t n i = spO D (t i) (spF D f g t n (i + 1)) (spF D f g t n (i + 1 + sz t n (i + 1))) := ev_op hvo hin z
        refine ⟨_, s_secondOp T xk hvo hin z, ?_⟩
        rintro _ k ⟨rfl, rfl⟩
        refine ⟨_, s_sjoin (d := d) X nd5 du hD1 hD4 (by omega) (by omega) (by omega) z (spF_ok hD1 hD4 hfB hgB hv _ p1) (spF_ok hD1 hD4 hfB hgB hv _ p2) (hall _ (by omega) p1).1 (hall _ (by omega) p1).2 (hall _ (by omega) p2).1 (hall _ (by omega) p2).2, ?_⟩
        rintro k1 ⟨r1, r2, o1⟩
        rw [← e] at r1 r2
        exact nx k1 o1 r1 r2
  have m1 : dn ≠ up := nd_ne nd 3 4 rfl rfl (by decide)
  have m2 : pg ≠ dn := nd_ne nd 11 3 rfl rfl (by decide)
  have m3 : r ≠ dn := nd_ne nd 5 3 rfl rfl (by decide)
  have m4 : r ≠ up := nd_ne nd 5 4 rfl rfl (by decide)
  refine NX7_bound_0 x1 hpg x5 x6 T.1.1 ⟨_, s_turn x5, ?_⟩
  rintro _ rfl
  refine ⟨_, s_turn x6, ?_⟩
  rintro k2 hk2
  rw [u_fi_o _ _ _ m2, u_fi_o _ _ _ m2, hD] at hk2
  have len : k2.1 r 3 = nI n := by rw [hk2, u_fi_o _ _ _ m4, u_fi_o _ _ _ m4, u_fi_o _ _ _ m3, u_fi_o _ _ _ m3]; exact x.1
  rw [len, min13 x.2.1, i_top]
  refine key n k2 (Nat.le_refl n) ?_ ?_ (fun j h1 h2 => by omega)
  · rw [hk2]
    exact (((fOff.rf.of (f_off_fi _ _ _ _) (by simp)).of (f_off_fi _ _ _ _) (by simp)).of (f_off_fi _ _ _ _) (by simp)).of (f_off_fi _ _ _ _) (by simp)
  · rw [hk2]
    refine ⟨⟨?_, ?_, ?_⟩, ?_, ?_, ?_⟩
    · rw [u_fi_o _ _ _ m1, u_fi_o _ _ _ m1, u_fi_n _ _ (by decide), u_fi_s]
    · rw [u_fi_o _ _ _ m1, u_fi_o _ _ _ m1, u_fi_s]; rfl
    · rw [u_fi_o _ _ _ m1, u_fi_o _ _ _ m1, u_fi_n _ _ (by decide), u_fi_n _ _ (by decide)]; exact t1
    · rw [u_fi_n _ _ (by decide), u_fi_s]
    · rw [u_fi_s]; rfl
    · rw [u_fi_n _ _ (by decide), u_fi_n _ _ (by decide), u_fi_o _ _ _ (Ne.symm m1), u_fi_o _ _ _ (Ne.symm m1)]; exact t2
end CB2

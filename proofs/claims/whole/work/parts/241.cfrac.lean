/-! ===== the class's Fractions ===== -/
def FrS (S : fW) (fr u l : Nat) : Prop := (fr, shX0 u l) ∈ S ∧ (u, shJ 13) ∈ S ∧ (l, shJ 13) ∈ S ∧ u ≠ l
theorem updL2 (f : Nat → Int64) (i : Nat) (x y : Int64) : vp_updL (vp_updL f i x) i y = vp_updL f i y := by
  funext j
  unfold vp_updL
  split <;> rfl
theorem lO_0 {a : Int} (h : a.natAbs < 2 ^ 62) : Int64.ofInt a = 0 ↔ a = 0 := lO_eq (b := 0) (by omega) (by omega) (by decide) (by decide)
theorem lO_le0 {a : Int} (h : a.natAbs < 2 ^ 62) : 0 ≤ Int64.ofInt a ↔ 0 ≤ a := lO_le (a := 0) (by decide) (by decide) (by omega) (by omega)
theorem lO_lt0 {a : Int} (h : a.natAbs < 2 ^ 62) : 0 < Int64.ofInt a ↔ 0 < a := lO_lt (a := 0) (by decide) (by decide) (by omega) (by omega)
theorem absL_O {a : Int} (h : a.natAbs < 2 ^ 62) : absL (Int64.ofInt a) = lN a.natAbs := by
  have e : (Int64.ofInt a).toInt = a := lO_toInt (by omega) (by omega)
  rw [absL_nat (by rw [e]; omega), e]
section CFRAC
variable {d : Nat} {S : fW} {h : fH} {fr u l r a b c nr n : Nat} {t f : Nat → Int32}
theorem s_fjoin {i q : Nat} {sg : Int32} {A B : Int × Int} (F : FrS S fr u l) (hi : i + 1 < 13) (hq : q < 13) (hiq : i < q) (hc : isOpB sg = true)
    (ua : h.2.2.2 u (i + 1) = Int64.ofInt A.1) (la : h.2.2.2 l (i + 1) = Int64.ofInt A.2) (ub : h.2.2.2 u q = Int64.ofInt B.1) (lb : h.2.2.2 l q = Int64.ofInt B.2)
    (a1 : A.1.natAbs < 2 ^ 62) (a2 : A.2.natAbs < 2 ^ 62) (b1 : B.1.natAbs < 2 ^ 62) (b2 : B.2.natAbs < 2 ^ 62) :
    OkV (d + 1) mX0_join S [.ref fr, .int (nI i), .int sg, .int (nI q)] h (fun k => k.2.2.2 u = vp_updL (h.2.2.2 u) i (Int64.ofInt (opC sg A B).1) ∧ k.2.2.2 l = vp_updL (h.2.2.2 l) i (Int64.ofInt (opC sg A B).2) ∧ fOff [u, l] h k) := by
  obtain ⟨f1, f2, f3, nul⟩ := F
  have hc1 : (nI i).toNatClampNeg = i := nI_clamp (by omega)
  have hc2 : (nI (i + 1)).toNatClampNeg = i + 1 := nI_clamp (by omega)
  have hc3 : (nI q).toNatClampNeg = q := nI_clamp (by omega)
  refine NX0_join_0 f1 f2 f3 ⟨vp_in_nI (by omega) (by decide), ?_⟩
  rintro g1 rfl g2 hg2
  rw [hc1] at hg2
  have gu : g2.2.2.2 u = vp_updL (h.2.2.2 u) i 0 := by rw [hg2, u_al_n _ _ nul, u_al_s]
  have gl : g2.2.2.2 l = vp_updL (h.2.2.2 l) i 0 := by rw [hg2, u_al_s, u_al_n _ _ (Ne.symm nul)]
  have go : fOff [u, l] h g2 := by rw [hg2]; exact (fOff.rf.of (f_off_al _ _ _) (by simp)).of (f_off_al _ _ _) (by simp)
  clear hg2
  have eua : g2.2.2.2 u (i + 1) = Int64.ofInt A.1 := by rw [gu, pk_uLn (by omega)]; exact ua
  have ela : g2.2.2.2 l (i + 1) = Int64.ofInt A.2 := by rw [gl, pk_uLn (by omega)]; exact la
  have eub : g2.2.2.2 u q = Int64.ofInt B.1 := by rw [gu, pk_uLn (by omega)]; exact ub
  have elb : g2.2.2.2 l q = Int64.ofInt B.2 := by rw [gl, pk_uLn (by omega)]; exact lb
  have z0 : (A.2 = 0 ∨ B.2 = 0) → g2.2.2.2 u = vp_updL (h.2.2.2 u) i (Int64.ofInt (opC sg A B).1) ∧ g2.2.2.2 l = vp_updL (h.2.2.2 l) i (Int64.ofInt (opC sg A B).2) ∧ fOff [u, l] h g2 := by
    intro z
    unfold opC
    rw [if_pos z]
    exact ⟨gu, gl, go⟩
  -- lowers first
  have fl : ∀ X Y : Int64, X = Int64.ofInt (opC sg A B).1 → Y = Int64.ofInt (opC sg A B).2 → ∀ g4 : fH, g4 = u_al (u_al g2 l (vp_updL (g2.2.2.2 l) i Y)) u (vp_updL ((u_al g2 l (vp_updL (g2.2.2.2 l) i Y)).2.2.2 u) i X) → g4.2.2.2 u = vp_updL (h.2.2.2 u) i (Int64.ofInt (opC sg A B).1) ∧ g4.2.2.2 l = vp_updL (h.2.2.2 l) i (Int64.ofInt (opC sg A B).2) ∧ fOff [u, l] h g4 := by
    rintro X Y rfl rfl g4 rfl
    refine ⟨?_, ?_, (go.of (f_off_al _ _ _) (by simp)).of (f_off_al _ _ _) (by simp)⟩
    · rw [u_al_s, u_al_n _ _ nul, gu, updL2]
    · rw [u_al_n _ _ (Ne.symm nul), u_al_s, gl, updL2]
  have fu : ∀ X Y : Int64, X = Int64.ofInt (opC sg A B).1 → Y = Int64.ofInt (opC sg A B).2 → ∀ g4 : fH, g4 = u_al (u_al g2 u (vp_updL (g2.2.2.2 u) i X)) l (vp_updL ((u_al g2 u (vp_updL (g2.2.2.2 u) i X)).2.2.2 l) i Y) → g4.2.2.2 u = vp_updL (h.2.2.2 u) i (Int64.ofInt (opC sg A B).1) ∧ g4.2.2.2 l = vp_updL (h.2.2.2 l) i (Int64.ofInt (opC sg A B).2) ∧ fOff [u, l] h g4 := by
    rintro X Y rfl rfl g4 rfl
    refine ⟨?_, ?_, (go.of (f_off_al _ _ _) (by simp)).of (f_off_al _ _ _) (by simp)⟩
    · rw [u_al_n _ _ nul, u_al_s, gu, updL2]
    · rw [u_al_s, u_al_n _ _ (Ne.symm nul), gl, updL2]
  rw [nI1, hc1, hc2, hc3, eua, ela, eub, elb]
  refine ⟨fun z => absurd z (nI_ge (b := 13) hi (by decide)), fun _ => ⟨fun z => absurd z (nI_lt0 (by omega)), fun _ => ⟨fun _ => ⟨vp_in_nI hi (by decide), vp_in_nI hq (by decide), ?_⟩, fun z => absurd (nI_lt hq (by decide)) z⟩⟩⟩
  refine ⟨fun z => z0 (Or.inl ((lO_0 a2).mp z)), fun za => ⟨fun zb => ?_, fun z => z0 (Or.inr ((lO_0 b2).mp z))⟩⟩
  have hn : ¬ (A.2 = 0 ∨ B.2 = 0) := fun q => q.elim (fun q => za ((lO_0 a2).mpr q)) (fun q => zb ((lO_0 b2).mpr q))
  refine ⟨fun n7 => ?_, fun c7 => ?_⟩
  · have e2 : Int64.ofInt A.2 * Int64.ofInt B.2 = Int64.ofInt (opC sg A B).2 := by
      unfold opC; rw [if_neg hn, if_neg n7, Int64.ofInt_mul]
    intro g3 hg3
    subst hg3
    refine ⟨fun n2 => ⟨fun n3 => ?_, fun c3 => ?_⟩, fun c2 => ?_⟩
    · refine fl _ _ ?_ e2
      unfold opC; rw [if_neg hn, if_neg n7]
      simp only
      rw [if_neg n2, if_neg n3, Int64.ofInt_sub, Int64.ofInt_mul, Int64.ofInt_mul]
    · refine fl _ _ ?_ e2
      unfold opC; rw [if_neg hn, if_neg n7]
      simp only
      rw [if_neg n2, if_pos c3, Int64.ofInt_add, Int64.ofInt_mul, Int64.ofInt_mul]
    · refine fl _ _ ?_ e2
      unfold opC; rw [if_neg hn, if_neg n7]
      simp only
      rw [if_pos c2, Int64.ofInt_mul]
  · have e2 : Int64.ofInt A.2 * (if 0 < Int64.ofInt B.1 then Int64.ofInt B.1 else -(Int64.ofInt B.1)) = Int64.ofInt (opC sg A B).2 := by
      unfold opC; rw [if_neg hn, if_pos c7, absL_m, absL_O b1]
      simp only
      rw [Int64.ofInt_mul, lN_ofInt]
    refine ⟨fun z => ?_, fun z => ?_⟩
    · rintro g7 rfl
      refine fu _ _ ?_ e2
      unfold opC; rw [if_neg hn, if_pos c7]
      simp only
      rw [if_neg (by have := (lO_le0 b1).mp z; omega), Int64.ofInt_mul]
    · rintro g7 rfl
      refine fu _ _ ?_ e2
      unfold opC; rw [if_neg hn, if_pos c7]
      simp only
      rw [if_pos (by have : ¬ 0 ≤ B.1 := fun q => z ((lO_le0 b1).mpr q); omega), Int64.ofInt_mul, Int64.ofInt_neg]
theorem s_workParts {m : Int32} (T : TxS S r a b c) (x : TxOk h r a b c t n) (hv : TxV t n) (F : FrS S fr u l) (hnr : (nr, shI 5) ∈ S) (nd : [u, l, r, a, b, c, nr].Nodup) (hf : h.2.2.1 nr = f) (hfB : nmB f)
    (hm : ∀ j, j < n → (lmF t n j &&& m) = 0 → h.2.2.2 u j = Int64.ofInt (frC f t n j).1 ∧ h.2.2.2 l j = Int64.ofInt (frC f t n j).2) :
    OkV (d + 2) mX0_workParts S [.ref fr, .ref r, .ref nr, .int m] h (fun k => (∀ j, j < n → k.2.2.2 u j = Int64.ofInt (frC f t n j).1 ∧ k.2.2.2 l j = Int64.ofInt (frC f t n j).2) ∧ fOff [u, l] h k) := by
  obtain ⟨⟨o, hvo⟩, h13, hleaf⟩ := id hv
  obtain ⟨f1, f2, f3, nul⟩ := id F
  simp only [List.nodup_cons, List.mem_cons, List.not_mem_nil, or_false, not_or] at nd
  obtain ⟨⟨_, nur, nua, nub, nuc, nun⟩, ⟨nlr, nla, nlb, nlc, nln⟩, _⟩ := nd
  have nin : ∀ y, y ≠ u → y ≠ l → y ∉ [u, l] := fun y h1 h2 => by simp [h1, h2]
  have key : ∀ (i : Nat) (g : fH), i ≤ n → fOff [u, l] h g → (∀ j, j < i → g.2.2.2 u j = h.2.2.2 u j ∧ g.2.2.2 l j = h.2.2.2 l j) → (∀ j, i ≤ j → j < n → g.2.2.2 u j = Int64.ofInt (frC f t n j).1 ∧ g.2.2.2 l j = Int64.ofInt (frC f t n j).2) → G mX0_workParts (d + 2) S (f_PV (fun k => (∀ j, j < n → k.2.2.2 u j = Int64.ofInt (frC f t n j).1 ∧ k.2.2.2 l j = Int64.ofInt (frC f t n j).2) ∧ fOff [u, l] h k)) 13 [(0, .ref fr), (1, .ref r), (2, .ref nr), (3, .int m), (4, .int (Int32.ofInt ((i : Int) - 1)))] [] g := by
    intro i
    induction i with
    | zero =>
      intro g _ hg _ hall
      exact NX0_workParts_13 T.1.1 T.1.2.2.2 T.1.2.1 f1 f2 f3 ⟨fun _ => ⟨fun j hj => hall j (by omega) hj, hg⟩, fun z => absurd (by decide) z⟩
    | succ i ih =>
      intro g hi hg hlow hall
      rw [i_pred]
      have hin : i < n := by omega
      have xg := x.off hg (nin r (Ne.symm nur) (Ne.symm nlr)) (nin a (Ne.symm nua) (Ne.symm nla)) (nin b (Ne.symm nub) (Ne.symm nlb)) (nin c (Ne.symm nuc) (Ne.symm nlc))
      have onr := hg nr (nin nr (Ne.symm nun) (Ne.symm nln))
      have hc : (nI i).toNatClampNeg = i := nI_clamp (by omega)
      have nx : ∀ (g' : fH), fOff [u, l] h g' → g'.2.2.2 u = vp_updL (g.2.2.2 u) i (Int64.ofInt (frC f t n i).1) → g'.2.2.2 l = vp_updL (g.2.2.2 l) i (Int64.ofInt (frC f t n i).2) → G mX0_workParts (d + 2) S (f_PV (fun k => (∀ j, j < n → k.2.2.2 u j = Int64.ofInt (frC f t n j).1 ∧ k.2.2.2 l j = Int64.ofInt (frC f t n j).2) ∧ fOff [u, l] h k)) 13 [(0, .ref fr), (1, .ref r), (2, .ref nr), (3, .int m), (4, .int (nI i + (-1)))] [] g' := by
        intro g' o' eu el
        rw [i_dn]
        refine ih g' (by omega) o' (fun j hj => ?_) (fun j h1 h2 => ?_)
        · rw [eu, el, pk_uLn (by omega), pk_uLn (by omega)]; exact hlow j (by omega)
        · rw [eu, el]
          by_cases e : j = i
          · subst e; rw [pk_uLs, pk_uLs]; exact ⟨rfl, rfl⟩
          · rw [pk_uLn e, pk_uLn e]; exact hall j (by omega) h2
      refine NX0_workParts_13 T.1.1 T.1.2.2.2 T.1.2.1 f1 f2 f3 ⟨fun z => absurd z (nI_lt0 (by omega)), fun _ => ⟨vp_in_nI (by omega) (by decide), ?_⟩⟩
      rw [hc, xg.2.2.2.2 i hin, xg.2.2.1 i hin]
      refine ⟨fun z => ?_, fun _ => ⟨_, s_isOperator, ?_⟩⟩
      · rw [i_dn]
        refine ih g (by omega) hg (fun j hj => hlow j (by omega)) (fun j h1 h2 => ?_)
        by_cases e : j = i
        · subst e
          rw [(hlow j (by omega)).1, (hlow j (by omega)).2]
          exact hm j hin z
        · exact hall j (by omega) h2
      · rintro _ _ ⟨rfl, rfl⟩
        refine ⟨fun z => ?_, fun z => ?_⟩
        · have z := bI_0.mp z
          have e : frC f t n i = (lfX f (t i), 1) := ev_leaf z
          refine ⟨_, s_numberOf (by decide) hnr, ?_⟩
          rintro _ _ ⟨rfl, rfl⟩ g1 rfl g2 rfl
          rw [onr.2.2.1, hf]
          have e1 : (numF (t i) 5 f).toInt64 = Int64.ofInt (frC f t n i).1 := by
            rw [e]
            show _ = Int64.ofInt (numF (t i) 5 f).toInt
            rw [← Int32.toInt_toInt64, Int64.ofInt_toInt]
          refine nx _ ((hg.of (f_off_al _ _ _) (by simp)).of (f_off_al _ _ _) (by simp)) ?_ ?_
          · rw [u_al_n _ _ nul, u_al_s, e1]
          · rw [u_al_s, u_al_n _ _ (Ne.symm nul), e]; rfl
        · have z := bI_n0.mp z
          obtain ⟨q1, q2⟩ := op_in hvo hin z
          have hp := sz_pos t n (i + 1)
          have e : frC f t n i = opC (t i) (frC f t n (i + 1)) (frC f t n (i + 1 + sz t n (i + 1))) := ev_op hvo hin z
          have sA := frC_small hv hfB q1
          have sB := frC_small hv hfB q2
          refine ⟨_, s_secondOp T xg hvo hin z, ?_⟩
          rintro _ _ ⟨rfl, rfl⟩
          refine ⟨_, s_fjoin F (by omega) (by omega) (by omega) z (hall _ (by omega) q1).1 (hall _ (by omega) q1).2 (hall _ (by omega) q2).1 (hall _ (by omega) q2).2 (by omega) (by omega) (by omega) (by omega), ?_⟩
          rintro k ⟨k1, k2, k3⟩
          rw [← e] at k1 k2
          exact nx k (hg.tr k3) k1 k2
  refine NX0_workParts_0 T.1.1 ?_
  rw [x.1, min13 x.2.1, i_top]
  exact key n h (Nat.le_refl n) fOff.rf (fun j _ => ⟨rfl, rfl⟩) (fun j h1 h2 => by omega)
/-- each part's letters have the bit of every part -/
theorem lm_every {o : Nat → Nat} (hv : valO o t n) : ∀ i, i < n → ¬ (lmF t n i &&& 32) = 0 := by
  have key : ∀ i, i < n → (lmF t n i &&& 32) = 32 := by
    refine ev_all (P := fun x : Int32 => (x &&& 32) = 32) hv (fun i hi hl => ?_) (fun i x y hi hc hx hy => ?_)
    · unfold lmL
      split
      · next hL =>
        obtain ⟨j, hj, e1, _, _⟩ := let_at hL
        rw [e1]
        rcases (show j = 0 ∨ j = 1 ∨ j = 2 ∨ j = 3 ∨ j = 4 by omega) with rfl | rfl | rfl | rfl | rfl <;> decide
      · decide
    · show ((x ||| y) &&& 32) = 32
      have e : ((x ||| y) &&& 32) = ((x &&& 32) ||| (y &&& 32)) := by
        apply Int32.toBitVec_inj.1
        simp only [Int32.toBitVec_and, Int32.toBitVec_or]
        ext q
        simp
        cases x.toBitVec[q] <;> cases y.toBitVec[q] <;> simp
      rw [e, hx, hy]
      decide
  intro i hi z
  rw [key i hi] at z
  exact absurd z (by decide)
theorem s_workAll (T : TxS S r a b c) (x : TxOk h r a b c t n) (hv : TxV t n) (F : FrS S fr u l) (hnr : (nr, shI 5) ∈ S) (nd : [u, l, r, a, b, c, nr].Nodup) (hf : h.2.2.1 nr = f) (hfB : nmB f) :
    OkV (d + 2) mX0_workParts S [.ref fr, .ref r, .ref nr, .int 32] h (fun k => (∀ j, j < n → k.2.2.2 u j = Int64.ofInt (frC f t n j).1 ∧ k.2.2.2 l j = Int64.ofInt (frC f t n j).2) ∧ fOff [u, l] h k) := by
  obtain ⟨o, hvo⟩ := hv.1
  exact s_workParts T x hv F hnr nd hf hfB (fun j hj z => absurd z (lm_every hvo j hj))
theorem s_billionths {j : Nat} {x2 : Int32} {e U L : Int} (F : FrS S fr u l) (hj : j < 13) (hu : h.2.2.2 u j = Int64.ofInt U) (hl : h.2.2.2 l j = Int64.ofInt L) (b1 : U.natAbs ≤ 8421963387109376) (b2 : L.natAbs ≤ 8421963387109376) (b3 : 0 ≤ L) (t1 : x2 = -1 ↔ e = 0) (t2 : x2 = 1 ↔ e = 1) :
    OkL (d + 1) mX0_billionths S [.ref fr, .int (nI j), .int x2] h (fun v k => v = Int64.ofInt (biF e U L) ∧ k = h) := by
  obtain ⟨f1, f2, f3, nul⟩ := id F
  have hc : (nI j).toNatClampNeg = j := nI_clamp (by omega)
  refine NX0_billionths_0 f1 f3 f2 ⟨fun z => absurd z (nI_lt0 (by omega)), fun _ => ⟨fun z => absurd z (nI_ge (b := 13) hj (by decide)), fun _ => ⟨vp_in_nI hj (by decide), ?_⟩⟩⟩
  rw [hc, hu, hl]
  refine ⟨fun z => ?_, fun z => ?_⟩
  · have hL : 0 < L := (lO_lt0 (by omega)).mp z
    have eL : Int64.ofInt L = lN L.natAbs := by rw [← lN_ofInt]; congr 1; omega
    have hLn : 0 < L.natAbs := by omega
    have nz : ¬ Int64.ofInt L = 0 := fun q => by have := (lO_0 (by omega)).mp q; omega
    have c7 : (lN (U.natAbs / L.natAbs) < (10000000 : Int64)) ↔ U.natAbs / L.natAbs < 10000000 := by
      have : U.natAbs / L.natAbs ≤ U.natAbs := Nat.div_le_self _ _
      exact pk_lLT (b := 10000000) (by omega) (by decide)
    have big : ¬ U.natAbs / L.natAbs < 10000000 → biF e U L = 1000000000000000000 := by
      intro q
      unfold biF
      rw [if_neg (by omega), if_pos (by omega)]
    have low : ∀ (bl : Bool), bl = decide (U < 0) → U.natAbs / L.natAbs < 10000000 → ∀ m k : Nat, m + k = 3 → G mX0_billionths (d + 1) S (f_PL (fun v k => v = Int64.ofInt (biF e U L) ∧ k = h)) 89 [(2, .int x2), (3, .long (lN L.natAbs)), (5, .int (bI bl)), (8, .long (lN (U.natAbs * 1000 ^ k / L.natAbs))), (10, .long (lN (U.natAbs * 1000 ^ k % L.natAbs))), (12, .int (nI k))] [] h := by
      intro bl hbl h7 m
      induction m with
      | zero =>
        intro k hk
        have e3 : k = 3 := by omega
        subst e3
        have hmod := Nat.mod_lt (U.natAbs * 1000 ^ 3) hLn
        have r0 : (lN (U.natAbs * 1000 ^ 3 % L.natAbs) = 0) ↔ U.natAbs * 1000 ^ 3 % L.natAbs = 0 := pk_lEQ (b := 0) (by omega) (by decide)
        have hbq : ∀ aa : Nat, (if ¬ U.natAbs * 1000 ^ 3 % L.natAbs = 0 ∧ ((e = 0 ∧ U < 0) ∨ (e = 1 ∧ ¬ U < 0)) then 1 else 0) = aa → Int64.ofInt (biF e U L) = if bl then -lN (U.natAbs * 1000 ^ 3 / L.natAbs + aa) else lN (U.natAbs * 1000 ^ 3 / L.natAbs + aa) := by
          intro aa ha
          have hb : biF e U L = sgF bl (U.natAbs * 1000 ^ 3 / L.natAbs + aa) := by
            rw [← ha, hbl]
            unfold biF
            rw [if_neg (show ¬ L = 0 by omega), if_neg (show ¬ 10000000 ≤ U.natAbs / L.natAbs by omega)]
          rw [hb, lO_sg]
        refine NX0_billionths_89 ⟨fun _ => ⟨fun q => ?_, fun q => ?_⟩, fun q => absurd (by decide) q⟩
        · have q := r0.mp q
          rw [hbq 0 (if_neg (fun w => w.1 q))]
          refine ⟨fun y => ?_, fun y => ?_⟩
          · rw [bI_0.mp y]; exact ⟨rfl, rfl⟩
          · rw [bI_n0.mp y]; exact ⟨rfl, rfl⟩
        · have q : ¬ U.natAbs * 1000 ^ 3 % L.natAbs = 0 := fun w => q (r0.mpr w)
          refine ⟨fun y => ?_, fun y => ?_⟩
          · have y := bI_0.mp y
            have hU : ¬ U < 0 := by rw [y] at hbl; simpa using hbl.symm
            rw [t2]
            refine ⟨fun w => ?_, fun w => ?_⟩
            · rw [hbq 0 (if_neg (fun p => p.2.elim (fun p => hU p.2) (fun p => w p.1))), y]; exact ⟨rfl, rfl⟩
            · rw [hbq 1 (if_pos ⟨q, Or.inr ⟨w, hU⟩⟩), y, ← lN_1]; exact ⟨rfl, rfl⟩
          · have y := bI_n0.mp y
            have hU : U < 0 := by rw [y] at hbl; simpa using hbl.symm
            rw [t1]
            refine ⟨fun w => ?_, fun w => ?_⟩
            · rw [hbq 0 (if_neg (fun p => p.2.elim (fun p => w p.1) (fun p => p.2 hU))), y]; exact ⟨rfl, rfl⟩
            · rw [hbq 1 (if_pos ⟨q, Or.inl ⟨w, hU⟩⟩), y, ← lN_1]; exact ⟨rfl, rfl⟩
      | succ m ih =>
        intro k hk
        have hmod := Nat.mod_lt (U.natAbs * 1000 ^ k) hLn
        refine NX0_billionths_89 ⟨fun q => ?_, fun _ => ⟨lN_ne0 hLn (by omega), ?_⟩⟩
        · have := (nI_leI (a := 3) (by decide) (by omega)).mp q
          omega
        · obtain ⟨s1, s2⟩ := mulc_div (U.natAbs * 1000 ^ k) L.natAbs 1000 hLn
          rw [show (1000 : Int64) = lN 1000 from rfl, lN_mul, lN_mul, lN_mod (by omega) hLn (by omega), lN_div (by omega) hLn (by omega), lN_add, s1, s2, nI1, Nat.mul_assoc, ← Nat.pow_succ]
          exact ih (k + 1) (by omega)
    rw [absL_m, absL_O (by omega), eL, lN_mod (by omega) hLn (by omega), lN_div (by omega) hLn (by omega)]
    rw [eL] at nz
    have fin : ∀ bl : Bool, bl = decide (U < 0) → (lN (U.natAbs / L.natAbs) < (10000000 : Int64) → G mX0_billionths (d + 1) S (f_PL (fun v k => v = Int64.ofInt (biF e U L) ∧ k = h)) 89 [(2, .int x2), (3, .long (lN L.natAbs)), (5, .int (bI bl)), (8, .long (lN (U.natAbs / L.natAbs))), (10, .long (lN (U.natAbs % L.natAbs))), (12, .int (0 : Int32))] [] h) := by
      intro bl hbl w
      have := low bl hbl (c7.mp w) 3 0 rfl
      rw [Nat.pow_zero, Nat.mul_one] at this
      exact this
    refine ⟨fun y => ⟨nz, fun w => fin false ?_ w, fun w => ?_⟩, fun y => ⟨nz, fun w => fin true ?_ w, fun w => ?_⟩⟩
    · have := (lO_le0 (by omega)).mp y
      simp; omega
    · rw [big (fun q => w (c7.mpr q))]; exact ⟨rfl, rfl⟩
    · have : ¬ 0 ≤ U := fun q => y ((lO_le0 (by omega)).mpr q)
      simp; omega
    · rw [big (fun q => w (c7.mpr q))]; exact ⟨rfl, rfl⟩
  · have hL : L = 0 := by have : ¬ 0 < L := fun q => z ((lO_lt0 (by omega)).mpr q); omega
    refine ⟨?_, rfl⟩
    unfold biF
    rw [if_pos hL]
    rfl
theorem half_mod {x y : Nat} (h0 : 0 < y) (h : y ≤ x) : 2 * (x % y) < x := by
  have h1 := Nat.mod_lt x h0
  have h2 := Nat.div_add_mod x y
  have h3 : 1 ≤ x / y := (Nat.one_le_div_iff h0).mpr h
  have h4 : y * 1 ≤ y * (x / y) := Nat.mul_le_mul_left y h3
  omega
theorem s_sharedDivisor {A B : Nat} (hA : A < 2 ^ 62) (hB : B < 2 ^ 62) : OkL d mX0_sharedDivisor S [.long (lN A), .long (lN B)] h (fun v k => v = lN (Nat.gcd A B) ∧ k = h) := by
  have one : ∀ (a b i : Nat), a < 2 ^ 62 → b < 2 ^ 62 → i < 200 → Nat.gcd a b = Nat.gcd A B → (0 < b → G mX0_sharedDivisor d S (f_PL (fun v k => v = lN (Nat.gcd A B) ∧ k = h)) 9 [(4, .long (lN b)), (6, .long (lN (a % b))), (8, .int (nI (i + 1)))] [] h) → G mX0_sharedDivisor d S (f_PL (fun v k => v = lN (Nat.gcd A B) ∧ k = h)) 9 [(4, .long (lN a)), (6, .long (lN b)), (8, .int (nI i))] [] h := by
    intro a b i ha hb hi hg K
    have b0 : (lN b = 0) ↔ b = 0 := pk_lEQ (b := 0) (by omega) (by decide)
    refine NX0_sharedDivisor_9 ⟨fun z => absurd z (nI_ge (b := 200) hi (by decide)), fun _ => ⟨fun z => ?_, fun z => ⟨z, ?_⟩⟩⟩
    · have z := b0.mp z
      subst z
      rw [Nat.gcd_zero_right] at hg
      exact ⟨by rw [hg], rfl⟩
    · have hb0 : 0 < b := by
        rcases Nat.eq_zero_or_pos b with q | q
        · exact absurd (b0.mpr q) z
        · exact q
      rw [lN_mod (by omega) hb0 (by omega), nI1]
      exact K hb0
  have key : ∀ (k a b i : Nat), a < 2 ^ 62 → b < 2 ^ 62 → b < 2 ^ k → i + 2 * k < 200 → Nat.gcd a b = Nat.gcd A B → G mX0_sharedDivisor d S (f_PL (fun v k => v = lN (Nat.gcd A B) ∧ k = h)) 9 [(4, .long (lN a)), (6, .long (lN b)), (8, .int (nI i))] [] h := by
    intro k
    induction k with
    | zero =>
      intro a b i ha hb hk hi hg
      exact one a b i ha hb (by omega) hg (fun z => by simp at hk; omega)
    | succ k ih =>
      intro a b i ha hb hk hi hg
      refine one a b i ha hb (by omega) hg (fun z => ?_)
      have m1 := Nat.mod_lt a z
      have g1 : Nat.gcd b (a % b) = Nat.gcd A B := by rw [← hg, Nat.gcd_comm a b, Nat.gcd_rec b a, Nat.gcd_comm]
      refine one b (a % b) (i + 1) hb (by omega) (by omega) g1 (fun z2 => ?_)
      have m2 := half_mod z2 (by omega : a % b ≤ b)
      have m3 := Nat.mod_lt b z2
      refine ih (a % b) (b % (a % b)) (i + 1 + 1) (by omega) (by omega) (by rw [Nat.pow_succ] at hk; omega) (by omega) ?_
      rw [← g1, Nat.gcd_comm b (a % b), Nat.gcd_rec (a % b) b, Nat.gcd_comm]
  refine NX0_sharedDivisor_0 ?_
  exact key 62 A B 0 hA hB hB (by decide) rfl
theorem s_lowest {x1 : Int32} {U L : Int} (F : FrS S fr u l) (hu : h.2.2.2 u 0 = Int64.ofInt U) (hl : h.2.2.2 l 0 = Int64.ofInt L) (b1 : U.natAbs ≤ 8421963387109376) (b2 : L.natAbs ≤ 8421963387109376) (b3 : 0 ≤ L) :
    OkL (d + 1) mX0_lowest S [.ref fr, .int x1] h (fun v k => v = (if L = 0 then 1000000000000000000 else if x1 = 0 then Int64.ofInt (nzF U L).1 else Int64.ofInt (nzF U L).2) ∧ k = h) := by
  obtain ⟨f1, f2, f3, nul⟩ := id F
  refine NX0_lowest_0 f1 f3 f2 ⟨vp_in_nI (n := 0) (by decide) (by decide), ?_⟩
  rw [show (0 : Int32).toNatClampNeg = 0 from rfl, hu, hl]
  refine ⟨fun z => ?_, fun z => ?_⟩
  · have hL : 0 < L := (lO_lt0 (by omega)).mp z
    have eL : Int64.ofInt L = lN L.natAbs := by rw [← lN_ofInt]; congr 1; omega
    rw [absL_m, absL_O (by omega), eL]
    refine ⟨_, s_sharedDivisor (by omega) (by omega), ?_⟩
    rintro _ _ ⟨rfl, rfl⟩
    have eg : lN (Nat.gcd U.natAbs L.natAbs) = Int64.ofInt (byF U L) := by
      unfold byF
      rw [if_neg (by omega), ← lN_ofInt]
      rfl
    have hp := byF_pos (U := U) hL
    have hle : (byF U L).natAbs ≤ L.natAbs := by
      have := (byF_dvd U L).2
      have := Int.le_of_dvd hL this
      omega
    rw [eg, hu, hl, if_neg (show ¬ L = 0 by omega)]
    have nz : nzF U L = (U.tdiv (byF U L), L.tdiv (byF U L)) := by unfold nzF; rw [if_neg (by omega)]
    rw [nz, l_div (by omega) (by omega), l_div (by omega) (by omega)]
    have n0 : ¬ Int64.ofInt (byF U L) = 0 := fun q => by have := (lO_0 (by omega)).mp q; omega
    refine ⟨fun _ => ⟨fun y => ⟨n0, by rw [if_neg y], rfl⟩, fun y => ⟨n0, by rw [if_pos y], rfl⟩⟩, fun y => absurd ((lO_lt0 (by omega)).mpr hp) y⟩
  · have hL : L = 0 := by have : ¬ 0 < L := fun q => z ((lO_lt0 (by omega)).mpr q); omega
    rw [if_pos hL]
    exact ⟨rfl, rfl⟩
end CFRAC

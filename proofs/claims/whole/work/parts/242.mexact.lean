/-! ===== the reference's exact fractions ===== -/
section MEXACT
variable {d : Nat} {S : fW} {h : fH} {n : Nat} {t f : Nat → Int32}
theorem s_common {U L : Int} (hU : U.natAbs < 2 ^ 62) (hL : L.natAbs < 2 ^ 62) : OkL (d + 1) mX12_common S [.long (Int64.ofInt U), .long (Int64.ofInt L)] h (fun v k => v = lN (Int.gcd U L) ∧ k = h) := by
  refine NX12_common_0 ⟨_, s_size, ?_⟩
  rintro _ h ⟨rfl, rfl⟩
  refine ⟨_, s_size, ?_⟩
  rintro _ h ⟨rfl, rfl⟩
  rw [absL_O hU, absL_O hL]
  have key : ∀ (bb aa : Nat), aa < 2 ^ 62 → bb < 2 ^ 62 → Nat.gcd aa bb = Int.gcd U L → G mX12_common (d + 1) S (f_PL (fun v k => v = lN (Int.gcd U L) ∧ k = h)) 12 [(4, .long (lN aa)), (6, .long (lN bb))] [] h := by
    intro bb
    induction bb using Nat.strongRecOn with
    | ind bb ih =>
      intro aa ha hb hg
      have b0 : (lN bb = 0) ↔ bb = 0 := pk_lEQ (b := 0) (by omega) (by decide)
      refine NX12_common_12 ⟨fun z => ?_, fun z => ⟨z, ?_⟩⟩
      · have z := b0.mp z
        subst z
        rw [Nat.gcd_zero_right] at hg
        exact ⟨by rw [hg], rfl⟩
      · have hb0 : 0 < bb := by
          rcases Nat.eq_zero_or_pos bb with q | q
          · exact absurd (b0.mpr q) z
          · exact q
        have m1 := Nat.mod_lt aa hb0
        rw [lN_mod (by omega) hb0 (by omega)]
        refine ih (aa % bb) m1 bb hb (by omega) ?_
        rw [← hg, Nat.gcd_comm aa bb, Nat.gcd_rec bb aa, Nat.gcd_comm]
  exact key L.natAbs U.natAbs hU hL rfl
theorem s_layExact {i : Nat} {U L : Int} (hi : i < 13) (hU : U.natAbs < 2 ^ 62) (hL : L.natAbs < 2 ^ 62) : OkV (d + 2) mX12_layExact SM [.ref 1, .int (nI i), .long (Int64.ofInt U), .long (Int64.ofInt L)] h
    (fun k => k.2.2.2 10 = vp_updL (h.2.2.2 10) i (Int64.ofInt (nzF U L).1) ∧ k.2.2.2 11 = vp_updL (h.2.2.2 11) i (Int64.ofInt (nzF U L).2) ∧ mF ([], [], [], [10, 11]) h k) := by
  have hc : (nI i).toNatClampNeg = i := nI_clamp (by omega)
  have fin : ∀ X Y : Int64, X = Int64.ofInt (nzF U L).1 → Y = Int64.ofInt (nzF U L).2 → ∀ k1 : fH, k1 = u_al (u_al h 10 (vp_updL (h.2.2.2 10) i X)) 11 (vp_updL ((u_al h 10 (vp_updL (h.2.2.2 10) i X)).2.2.2 11) i Y) → k1.2.2.2 10 = vp_updL (h.2.2.2 10) i (Int64.ofInt (nzF U L).1) ∧ k1.2.2.2 11 = vp_updL (h.2.2.2 11) i (Int64.ofInt (nzF U L).2) ∧ mF ([], [], [], [10, 11]) h k1 := by
    rintro X Y rfl rfl k1 rfl
    refine ⟨?_, ?_, (mF.rf.al (by decide)).al (by decide)⟩
    · rw [u_al_n _ _ (by decide), u_al_s]
    · rw [u_al_s, u_al_n _ _ (by decide)]
  refine NX12_layExact_0 hM hM10 hM11 ⟨fun z => ?_, fun z => ?_⟩
  · have hL0 : L ≠ 0 := fun q => z ((lO_0 hL).mpr q)
    refine ⟨_, s_common hU hL, ?_⟩
    rintro _ h ⟨rfl, rfl⟩
    have hgp : 0 < Int.gcd U L := Int.gcd_pos_of_ne_zero_right U hL0
    have hgl : Int.gcd U L ≤ L.natAbs := Nat.le_of_dvd (by omega) (Nat.gcd_dvd_right _ _)
    have hby : (byF U L).natAbs = Int.gcd U L := by unfold byF; split <;> omega
    have nz : nzF U L = (U.tdiv (byF U L), L.tdiv (byF U L)) := by unfold nzF; rw [if_neg hL0]
    have hb0 : byF U L ≠ 0 := by omega
    refine ⟨fun y => ?_, fun y => ?_⟩
    · have e : lN (Int.gcd U L) = Int64.ofInt (byF U L) := by
        unfold byF; rw [if_neg (by have := (lO_le0 hL).mp y; omega), lN_ofInt]
      rw [e, hc, l_div hU (by omega), l_div hL (by omega)]
      refine ⟨fun q => hb0 ((lO_0 (by omega)).mp q), vp_in_nI hi (by decide), ?_⟩
      rintro g1 rfl g2 hg2
      exact fin _ _ (by rw [nz]) (by rw [nz]) g2 hg2
    · have e : -lN (Int.gcd U L) = Int64.ofInt (byF U L) := by
        unfold byF; rw [if_pos (by have : ¬ 0 ≤ L := fun q => y ((lO_le0 hL).mpr q); omega), Int64.ofInt_neg, lN_ofInt]
      rw [e, hc, l_div hU (by omega), l_div hL (by omega)]
      refine ⟨fun q => hb0 ((lO_0 (by omega)).mp q), vp_in_nI hi (by decide), ?_⟩
      rintro g1 rfl g2 hg2
      exact fin _ _ (by rw [nz]) (by rw [nz]) g2 hg2
  · have hL0 : L = 0 := (lO_0 hL).mp z
    refine ⟨vp_in_nI hi (by decide), ?_⟩
    rw [hc]
    rintro g1 rfl g2 hg2
    exact fin 0 0 (by rw [hL0, nzF_0]; rfl) (by rw [hL0, nzF_0]; rfl) g2 hg2
abbrev fEx : fL := ([], [], [7], [10, 11])
theorem frR_small (hv : TxV t n) (hf : nmB f) {i : Nat} (hi : i < n) : (frR f t n i).1.natAbs ≤ 8421963387109376 ∧ (frR f t n i).2.natAbs ≤ 8421963387109376 ∧ 0 ≤ (frR f t n i).2 := by
  obtain ⟨a1, a2, a3⟩ := frC_small hv hf hi
  obtain ⟨b1, b2⟩ := nzF_le (U := (frC f t n i).1) (L := (frC f t n i).2)
  unfold frR
  refine ⟨by omega, by omega, ?_⟩
  by_cases z : (frC f t n i).2 = 0
  · rw [z, nzF_0]; decide
  · have := (nzF_times (U := (frC f t n i).1) (L := (frC f t n i).2) (by omega)).2.2.2
    omega
theorem s_workExact (hN : MNow h t n) (hv : TxV t n) (hf : mNum h = f) (hfB : nmB f) :
    OkV (d + 3) mX12_workExact SM [.ref 1] h (fun k => (∀ i, i < n → k.2.2.2 10 i = Int64.ofInt (frR f t n i).1 ∧ k.2.2.2 11 i = Int64.ofInt (frR f t n i).2) ∧ mF fEx h k) := by
  obtain ⟨⟨o, hvo⟩, h13, hleaf⟩ := id hv
  refine NX12_workExact_0 hM ⟨_, s_findSizes h13 hN ⟨o, hvo⟩, ?_⟩
  rintro h1 ⟨hsz, hf1⟩
  have hf1' : mF fEx h h1 := hf1.mono (by decide)
  have key : ∀ (i : Nat) (gq : fH), i ≤ n → mF fEx h gq → (∀ j, j < n → gq.2.2.1 7 j = nI (sz t n j)) → (∀ j, i ≤ j → j < n → gq.2.2.2 10 j = Int64.ofInt (frR f t n j).1 ∧ gq.2.2.2 11 j = Int64.ofInt (frR f t n j).2) → G mX12_workExact (d + 3) SM (f_PV (fun k => (∀ i, i < n → k.2.2.2 10 i = Int64.ofInt (frR f t n i).1 ∧ k.2.2.2 11 i = Int64.ofInt (frR f t n i).2) ∧ mF fEx h k)) 11 [(0, .ref 1), (1, .int (Int32.ofInt ((i : Int) - 1)))] [] gq := by
    intro i
    induction i with
    | zero =>
      intro gq _ hg hs hall
      exact NX12_workExact_11 hM hM6 hM7 hM10 hM11 ⟨fun _ => ⟨fun j hj => hall j (by omega) hj, hg⟩, fun z => absurd (by decide) z⟩
    | succ i ih =>
      intro gq hi hg hs hall
      rw [i_pred]
      have hin : i < n := by omega
      have hc : (nI i).toNatClampNeg = i := nI_clamp (by omega)
      have gN := hN.of hg (by decide) (by decide)
      have gf : mNum gq = f := by rw [mNum_of hg (by decide) (by decide)]; exact hf
      have nx : ∀ (U L : Int), nzF U L = frR f t n i → ∀ (k1 : fH), (k1.2.2.2 10 = vp_updL (gq.2.2.2 10) i (Int64.ofInt (nzF U L).1) ∧ k1.2.2.2 11 = vp_updL (gq.2.2.2 11) i (Int64.ofInt (nzF U L).2) ∧ mF ([], [], [], [10, 11]) gq k1) → G mX12_workExact (d + 3) SM (f_PV (fun k => (∀ i, i < n → k.2.2.2 10 i = Int64.ofInt (frR f t n i).1 ∧ k.2.2.2 11 i = Int64.ofInt (frR f t n i).2) ∧ mF fEx h k)) 11 [(0, .ref 1), (1, .int (nI i + (-1)))] [] k1 := by
        rintro U L e k1 ⟨k10, k11, kf⟩
        rw [i_dn]
        refine ih k1 (by omega) (hg.go kf (by decide)) (fun j hj => by rw [kf.2.2.1 7 (by decide)]; exact hs j hj) ?_
        intro j h1 h2
        rw [k10, k11, e]
        by_cases e : j = i
        · subst e; rw [pk_uLs, pk_uLs]; exact ⟨rfl, rfl⟩
        · rw [pk_uLn e, pk_uLn e]; exact hall j (by omega) h2
      refine NX12_workExact_11 hM hM6 hM7 hM10 hM11 ⟨fun z => absurd z (nI_lt0 (by omega)), fun _ => ⟨vp_in_nI (by omega) (by decide), _, s_misSign, ?_⟩⟩
      rintro _ gq ⟨rfl, rfl⟩
      rw [hc, gN.2 i hin]
      refine ⟨fun z => ?_, fun z => ?_⟩
      · have z := bI_n0.mp z
        obtain ⟨q1, q2⟩ := op_in hvo hin z
        have hp := sz_pos t n (i + 1)
        have er := frR_op hvo hfB hin z
        have sm := opR_small (c := t i) (frC_B' hvo hfB _ q1) (frC_B' hvo hfB _ q2)
        have hlv : lvC t n (i + 1) + lvC t n (i + 1 + sz t n (i + 1)) ≤ 7 := by
          have e2 : lvC t n i = lvC t n (i + 1) + lvC t n (i + 1 + sz t n (i + 1)) := ev_op hvo hin z
          have := lvC_sz hvo i hin
          have := sz_le hvo hin
          omega
        have h7 := Nat.pow_le_pow_right (show 208 > 0 by decide) hlv
        have e7 : (208 : Nat) ^ 7 = 16843926774218752 := by decide
        rw [e7] at h7
        have s1 := frR_small hv hfB q1
        have s2 := frR_small hv hfB q2
        rw [nI1]
        refine ⟨vp_in_nI (by omega) (by decide), ?_⟩
        rw [nI_clamp (by omega), hs _ q1, nI_add]
        refine ⟨vp_in_nI (by omega) (by decide), ?_⟩
        rw [nI_clamp (by omega), (hall _ (by omega) q1).1, (hall _ (by omega) q2).1, (hall _ (by omega) q1).2, (hall _ (by omega) q2).2]
        have sm : 2 * (opR (t i) (frR f t n (i + 1)) (frR f t n (i + 1 + sz t n (i + 1)))).1.natAbs ≤ 16843926774218752 ∧ 2 * (opR (t i) (frR f t n (i + 1)) (frR f t n (i + 1 + sz t n (i + 1)))).2.natAbs ≤ 16843926774218752 := ⟨Nat.le_trans sm.1 h7, Nat.le_trans sm.2 h7⟩
        generalize frR f t n (i + 1) = A at *
        generalize frR f t n (i + 1 + sz t n (i + 1)) = B at *
        have lay : ∀ X Y : Int64, X = Int64.ofInt (opR (t i) A B).1 → Y = Int64.ofInt (opR (t i) A B).2 → ∃ Q9 : fH → Prop, OkV (d + 2) mX12_layExact SM [.ref 1, .int (nI i), .long X, .long Y] gq Q9 ∧ ∀ (k9 : fH), Q9 k9 → G mX12_workExact (d + 3) SM (f_PV (fun k => (∀ i, i < n → k.2.2.2 10 i = Int64.ofInt (frR f t n i).1 ∧ k.2.2.2 11 i = Int64.ofInt (frR f t n i).2) ∧ mF fEx h k)) 11 [(0, .ref 1), (1, .int (nI i + (-1)))] [] k9 := by
          rintro X Y rfl rfl
          exact ⟨_, s_layExact (by omega) (by omega) (by omega), fun k9 hk9 => nx _ _ er.symm k9 hk9⟩
        have z1 : (Int64.ofInt A.2 = 0) ↔ A.2 = 0 := lO_0 (by omega)
        have z2 : (Int64.ofInt B.2 = 0) ↔ B.2 = 0 := lO_0 (by omega)
        rw [z1, z2]
        refine ⟨fun y => lay 0 0 ?_ ?_, fun y => ⟨fun y2 => ⟨fun n43 => ⟨fun n45 => ⟨fun n42 => ?_, fun c42 => ?_⟩, fun c45 => ?_⟩, fun c43 => ?_⟩, fun y2 => lay 0 0 ?_ ?_⟩⟩
        · unfold opR; rw [if_pos (Or.inl y)]; rfl
        · unfold opR; rw [if_pos (Or.inl y)]; rfl
        · refine lay _ _ ?_ ?_ <;> unfold opR <;> rw [if_neg (by simp [y, y2]), if_neg n43, if_neg n45, if_neg n42, ← Int64.ofInt_mul]
        · refine lay _ _ ?_ ?_ <;> unfold opR <;> rw [if_neg (by simp [y, y2]), if_neg n43, if_neg n45, if_pos c42, ← Int64.ofInt_mul]
        · refine lay _ _ ?_ ?_ <;> unfold opR <;> rw [if_neg (by simp [y, y2]), if_neg n43, if_pos c45]
          · simp only; rw [← Int64.ofInt_mul, ← Int64.ofInt_mul, ← Int64.ofInt_sub]
          · simp only; rw [← Int64.ofInt_mul]
        · refine lay _ _ ?_ ?_ <;> unfold opR <;> rw [if_neg (by simp [y, y2]), if_pos c43]
          · simp only; rw [← Int64.ofInt_mul, ← Int64.ofInt_mul, ← Int64.ofInt_add]
          · simp only; rw [← Int64.ofInt_mul]
        · unfold opR; rw [if_pos (Or.inr y2)]; rfl
        · unfold opR; rw [if_pos (Or.inr y2)]; rfl
      · have z := bI_0.mp z
        refine ⟨_, s_wholeAt h13 gN hin (hleaf i hin z), ?_⟩
        rintro _ gq ⟨rfl, rfl⟩
        rw [gf]
        have hb : (lfX f (t i)).natAbs ≤ 104 := lfX_bd hfB
        have e1 : (numF (t i) 5 f).toInt64 = Int64.ofInt (lfX f (t i)) := by
          show _ = Int64.ofInt (numF (t i) 5 f).toInt
          rw [← Int32.toInt_toInt64, Int64.ofInt_toInt]
        have e2 : frR f t n i = nzF (lfX f (t i)) 1 := by
          have e : frC f t n i = (lfX f (t i), 1) := ev_leaf z
          unfold frR; rw [e]
        rw [e1]
        exact ⟨_, s_layExact (L := 1) (by omega) (by omega) (by decide), fun k9 hk9 => nx _ _ e2.symm k9 hk9⟩
  rw [hf1'.1 14 (by decide), hN.1, i_top]
  exact key n h1 (Nat.le_refl n) hf1' hsz (fun j h1 h2 => by omega)
theorem s_mbillionths {j : Nat} {x2 : Int32} {e U L : Int} (hj : j < 13) (hu : h.2.2.2 10 j = Int64.ofInt U) (hl : h.2.2.2 11 j = Int64.ofInt L) (b1 : U.natAbs ≤ 8421963387109376) (b2 : L.natAbs ≤ 8421963387109376) (b3 : 0 ≤ L) (t1 : x2 = 0 ↔ e = 0) (t2 : x2 = 1 ↔ e = 1) :
    OkL (d + 1) mX12_billionths SM [.ref 1, .int (nI j), .int x2] h (fun v k => v = Int64.ofInt (biF e U L) ∧ k = h) := by
  have hc : (nI j).toNatClampNeg = j := nI_clamp (by omega)
  refine NX12_billionths_0 hM hM11 hM10 ⟨vp_in_nI hj (by decide), ?_⟩
  rw [hc, hl]
  refine ⟨fun z => ?_, fun z => ?_⟩
  · have hL : 0 < L := by have : ¬ L = 0 := fun q => z ((lO_0 (by omega)).mpr q); omega
    have eL : Int64.ofInt L = lN L.natAbs := by rw [← lN_ofInt]; congr 1; omega
    have hLn : 0 < L.natAbs := by omega
    refine ⟨_, s_size, ?_⟩
    rintro _ h ⟨rfl, rfl⟩
    rw [hu, absL_O (by omega), eL, lN_mod (by omega) hLn (by omega), lN_div (by omega) hLn (by omega)]
    have nz : ¬ lN L.natAbs = 0 := lN_ne0 hLn (by omega)
    have c7 : (lN (U.natAbs / L.natAbs) < (10000000 : Int64)) ↔ U.natAbs / L.natAbs < 10000000 := by
      have : U.natAbs / L.natAbs ≤ U.natAbs := Nat.div_le_self _ _
      exact pk_lLT (b := 10000000) (by omega) (by decide)
    have big : ¬ U.natAbs / L.natAbs < 10000000 → biF e U L = 1000000000000000000 := by
      intro q
      unfold biF
      rw [if_neg (by omega), if_pos (by omega)]
    have low : ∀ (bl : Bool), bl = decide (U < 0) → U.natAbs / L.natAbs < 10000000 → ∀ m k : Nat, m + k = 9 → G mX12_billionths (d + 1) SM (f_PL (fun v k => v = Int64.ofInt (biF e U L) ∧ k = h)) 79 [(2, .int x2), (3, .long (lN L.natAbs)), (7, .int (bI bl)), (8, .long (lN (U.natAbs * 10 ^ k / L.natAbs))), (10, .long (lN (U.natAbs * 10 ^ k % L.natAbs))), (12, .int (nI k))] [] h := by
      intro bl hbl h7 m
      induction m with
      | zero =>
        intro k hk
        have e3 : k = 9 := by omega
        subst e3
        have hmod := Nat.mod_lt (U.natAbs * 10 ^ 9) hLn
        have r0 : (lN (U.natAbs * 10 ^ 9 % L.natAbs) ≤ 0) ↔ U.natAbs * 10 ^ 9 % L.natAbs = 0 := by
          rw [show (0 : Int64) = lN 0 from rfl, pk_lLE (by omega) (by decide)]; omega
        have hUb : bl = false ↔ ¬ U < 0 := by rw [hbl]; simp
        have hUt : bl = true ↔ U < 0 := by rw [hbl]; simp
        have hbq : ∀ aa : Nat, (if ¬ U.natAbs * 10 ^ 9 % L.natAbs = 0 ∧ ((e = 0 ∧ U < 0) ∨ (e = 1 ∧ ¬ U < 0)) then 1 else 0) = aa → Int64.ofInt (biF e U L) = if bl then -(lN (U.natAbs * 10 ^ 9 / L.natAbs) + lN aa) else lN (U.natAbs * 10 ^ 9 / L.natAbs) + lN aa := by
          intro aa ha
          have hb : biF e U L = sgF bl (U.natAbs * 10 ^ 9 / L.natAbs + aa) := by
            rw [← ha, hbl]
            unfold biF
            rw [if_neg (show ¬ L = 0 by omega), if_neg (show ¬ 10000000 ≤ U.natAbs / L.natAbs by omega)]
          rw [hb, lO_sg, lN_add]
        have two : ¬ U.natAbs * 10 ^ 9 % L.natAbs = 0 → ¬ (e = 0 ∧ U < 0) → G mX12_billionths (d + 1) SM (f_PL (fun v k => v = Int64.ofInt (biF e U L) ∧ k = h)) 137 [(2, .int x2), (7, .int (bI bl))] [.long (lN (U.natAbs * 10 ^ 9 / L.natAbs))] h := by
          intro nr ne
          refine NX12_billionths_137 ?_
          rw [t2]
          refine ⟨fun y => ?_, fun y => ?_⟩
          · rw [hbq 0 (if_neg (fun p => p.2.elim ne (fun p => y p.1)))]
            refine ⟨fun w => ?_, fun w => ?_⟩
            · rw [bI_0.mp w]; exact ⟨rfl, rfl⟩
            · rw [bI_n0.mp w]; exact ⟨rfl, rfl⟩
          · refine ⟨fun w => ?_, fun w => ?_⟩
            · have w := bI_n0.mp w
              rw [hbq 0 (if_neg (fun p => p.2.elim ne (fun p => p.2 (hUt.mp w)))), w]; exact ⟨rfl, rfl⟩
            · have w := bI_0.mp w
              rw [hbq 1 (if_pos ⟨nr, Or.inr ⟨y, hUb.mp w⟩⟩), w]; exact ⟨rfl, rfl⟩
        refine NX12_billionths_79 ⟨fun _ => ⟨fun q => ?_, fun q => ?_⟩, fun q => absurd (by decide) q⟩
        · have q := r0.mp q
          rw [hbq 0 (if_neg (fun w => w.1 q))]
          refine ⟨fun y => ?_, fun y => ?_⟩
          · rw [bI_0.mp y]; exact ⟨rfl, rfl⟩
          · rw [bI_n0.mp y]; exact ⟨rfl, rfl⟩
        · have q : ¬ U.natAbs * 10 ^ 9 % L.natAbs = 0 := fun w => q (r0.mpr w)
          refine ⟨fun y => two q (fun w => y (t1.mpr w.1)), fun y => ⟨fun w => ?_, fun w => two q (fun p => by have := hUb.mp (bI_0.mp w); exact this p.2)⟩⟩
          have w := bI_n0.mp w
          rw [hbq 1 (if_pos ⟨q, Or.inl ⟨t1.mp y, hUt.mp w⟩⟩), w]; exact ⟨rfl, rfl⟩
      | succ m ih =>
        intro k hk
        have hmod := Nat.mod_lt (U.natAbs * 10 ^ k) hLn
        refine NX12_billionths_79 ⟨fun q => ?_, fun _ => ⟨lN_ne0 hLn (by omega), ?_⟩⟩
        · have := (nI_leI (a := 9) (by decide) (by omega)).mp q
          omega
        · obtain ⟨s1, s2⟩ := mulc_div (U.natAbs * 10 ^ k) L.natAbs 10 hLn
          rw [lN_10, Int64.mul_comm (lN 10), lN_mul, lN_mul, lN_mod (by omega) hLn (by omega), lN_div (by omega) hLn (by omega), lN_add, s1, s2, nI1, Nat.mul_assoc, ← Nat.pow_succ]
          exact ih (k + 1) (by omega)
    have fin : ∀ bl : Bool, bl = decide (U < 0) → (lN (U.natAbs / L.natAbs) < (10000000 : Int64) → G mX12_billionths (d + 1) SM (f_PL (fun v k => v = Int64.ofInt (biF e U L) ∧ k = h)) 79 [(2, .int x2), (3, .long (lN L.natAbs)), (7, .int (bI bl)), (8, .long (lN (U.natAbs / L.natAbs))), (10, .long (lN (U.natAbs % L.natAbs))), (12, .int (0 : Int32))] [] h) := by
      intro bl hbl w
      have := low bl hbl (c7.mp w) 9 0 rfl
      rw [Nat.pow_zero, Nat.mul_one] at this
      exact this
    refine ⟨fun y => ⟨nz, fun w => fin false ?_ w, fun w => ?_⟩, fun y => ⟨nz, fun w => fin true ?_ w, fun w => ?_⟩⟩
    · have := (lO_le0 (by omega)).mp y
      simp; omega
    · rw [big (fun q => w (c7.mpr q))]; exact ⟨rfl, rfl⟩
    · have : ¬ 0 ≤ U := fun q => y ((lO_le0 (by omega)).mpr q)
      simp; omega
    · rw [big (fun q => w (c7.mpr q))]; exact ⟨rfl, rfl⟩
  · have hL : L = 0 := (lO_0 (by omega)).mp z
    refine ⟨?_, rfl⟩
    unfold biF
    rw [if_pos hL]
    rfl
/-- LOSS of a text -/
def loF (D W : Nat) (f t : Nat → Int32) (n : Nat) : Int64 := lessF (wkF D W f t n 0) (Int64.ofInt (biF (-1) (frC f t n 0).1 (frC f t n 0).2))
abbrev fLo : fL := ([2, 3, 4, 5, 6], [2, 3, 4, 5, 6], [7], [8, 9, 10, 11])
theorem s_lossNow {D W : Nat} (hN : MNow h t n) (hv : TxV t n) (hD : h.1 1 0 = nI D) (hD1 : 1 ≤ D) (hD4 : D ≤ 4) (hW : h.1 1 1 = nI W) (hW3 : W ≤ 3) (hf : mNum h = f) (hfB : nmB f) :
    OkL (d + 5) mX12_lossNow SM [.ref 1] h (fun v k => v = loF D W f t n ∧ mF fLo h k) := by
  have hpos := hv.pos
  refine NX12_lossNow_0 hM hM8 ⟨_, s_mwork hN hv hD hD1 hD4 hW hW3 hf hfB, ?_⟩
  rintro k1 ⟨hw, hk1⟩
  refine ⟨vp_in_nI (n := 0) (by decide) (by decide), _, s_workExact (d := d + 1) (hN.of hk1 (by decide) (by decide)) hv (by rw [mNum_of hk1 (by decide) (by decide)]; exact hf) hfB, ?_⟩
  rintro k2 ⟨hx, hk2⟩
  have sr := frR_small hv hfB hpos
  refine ⟨_, s_mbillionths (j := 0) (e := -1) (by decide) (hx 0 hpos).1 (hx 0 hpos).2 sr.1 sr.2.1 sr.2.2 (by decide) (by decide), ?_⟩
  rintro _ k2 ⟨rfl, rfl⟩
  refine ⟨_, s_mless, ?_⟩
  rintro _ k2 ⟨rfl, rfl⟩
  refine ⟨?_, (hk1.mono (by decide)).go hk2 (by decide)⟩
  unfold loF
  rw [show (0 : Int32).toNatClampNeg = 0 from rfl, (hw 0 hpos).1]
  unfold frR
  rw [biF_nz (frC_small hv hfB hpos).2.2]
end MEXACT

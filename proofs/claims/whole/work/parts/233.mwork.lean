/-! ===== the reference: layText, findSizes, wholeAt, work ===== -/
section MWORK
variable {d : Nat} {h : fH} {n D W : Nat} {t f : Nat → Int32}
/-- the reference's now holds the text t of n signs -/
def MNow (h : fH) (t : Nat → Int32) (n : Nat) : Prop := h.1 1 14 = nI n ∧ ∀ i, i < n → h.2.2.1 6 i = t i
theorem MNow.of {h k : fH} {t : Nat → Int32} {n : Nat} {p : fL} (a : MNow h t n) (b : mF p h k) (h1 : p.1.contains 14 = false) (h2 : p.2.2.1.contains 6 = false) : MNow k t n := by
  have e1 : 14 ∉ p.1 := fun z => by rw [List.contains_iff_mem.mpr z] at h1; cases h1
  have e2 : 6 ∉ p.2.2.1 := fun z => by rw [List.contains_iff_mem.mpr z] at h2; cases h2
  exact ⟨by rw [b.1 _ e1]; exact a.1, fun i hi => by rw [b.2.2.1 _ e2]; exact a.2 i hi⟩
theorem s_layText (h13 : n ≤ 13) (hn : h.1 1 10 = nI n) : OkV d mX12_layText SM [.ref 1] h (fun k => MNow k (h.2.2.1 3) n ∧ mF ([14], [], [6], []) h k) := by
  refine NX12_layText_0 hM ?_
  rintro g rfl
  have key : ∀ (m i : Nat) (g : fH), m + i = n → mF ([14], [], [6], []) h g → g.1 1 14 = nI n → (∀ j, j < i → g.2.2.1 6 j = h.2.2.1 3 j) → G mX12_layText d SM (f_PV (fun k => MNow k (h.2.2.1 3) n ∧ mF ([14], [], [6], []) h k)) 10 [(0, .ref 1), (1, .int (nI i))] [] g := by
    intro m
    induction m with
    | zero =>
      intro i g hi hg h14 hall
      have e : i = n := by omega
      subst e
      refine NX12_layText_10 hM hM3 hM6 ⟨fun _ => ⟨⟨h14, hall⟩, hg⟩, fun z => absurd ?_ z⟩
      rw [hg.1 10 (by decide), hn]
      exact Int32.le_refl _
    | succ m ih =>
      intro i g hi hg h14 hall
      refine NX12_layText_10 hM hM3 hM6 ⟨fun z => absurd z ?_, fun _ => ⟨vp_in_nI (by omega) (by decide), ?_⟩⟩
      · rw [hg.1 10 (by decide), hn]
        exact nI_ge (by omega) (by omega)
      · rintro g1 rfl
        rw [nI1, nI_clamp (by omega)]
        refine ih (i + 1) _ (by omega) (hg.ai (by decide)) h14 ?_
        intro j hj
        rw [u_ai_s]
        by_cases e : j = i
        · subst e
          rw [upd_s, hg.2.2.1 3 (by decide)]
        · rw [upd_n _ _ e]
          exact hall j (by omega)
  refine key n 0 _ (by omega) (mF.rf.fi (by decide)) ?_ (fun j hj => by omega)
  rw [u_fi_s, hn]
theorem s_findSizes (h13 : n ≤ 13) (hN : MNow h t n) (hv : ∃ o, valO o t n) : OkV (d + 1) mX12_findSizes SM [.ref 1] h (fun k => (∀ i, i < n → k.2.2.1 7 i = nI (sz t n i)) ∧ mF ([], [], [7], []) h k) := by
  obtain ⟨o, hv⟩ := hv
  have key : ∀ (i : Nat) (g : fH), i ≤ n → mF ([], [], [7], []) h g → (∀ j, i ≤ j → j < n → g.2.2.1 7 j = nI (sz t n j)) → G mX12_findSizes (d + 1) SM (f_PV (fun k => (∀ i, i < n → k.2.2.1 7 i = nI (sz t n i)) ∧ mF ([], [], [7], []) h k)) 7 [(0, .ref 1), (1, .int (Int32.ofInt ((i : Int) - 1)))] [] g := by
    intro i
    induction i with
    | zero =>
      intro g _ hg hall
      exact NX12_findSizes_7 hM hM7 hM6 ⟨fun _ => ⟨fun j hj => hall j (by omega) hj, hg⟩, fun z => absurd (by decide) z⟩
    | succ i ih =>
      intro g hi hg hall
      rw [i_pred]
      have hin : i < n := by omega
      have hc : (nI i).toNatClampNeg = i := nI_clamp (by omega)
      have ht : ∀ w : Int32, (u_ai g 7 (upd (g.2.2.1 7) i w)).2.2.1 6 i = t i := fun w => by
        rw [u_ai_n _ _ (by decide), hg.2.2.1 6 (by decide)]; exact hN.2 i hin
      refine NX12_findSizes_7 hM hM7 hM6 ⟨fun z => absurd z (nI_lt0 (by omega)), fun _ => ⟨vp_in_nI (by omega) (by decide), ?_⟩⟩
      rintro g1 rfl
      rw [hc]
      refine ⟨_, s_misSign, ?_⟩
      rintro _ _ ⟨rfl, rfl⟩
      rw [ht]
      have nx : ∀ (g' : fH) (w : Int32), g' = u_ai (u_ai g 7 (upd (g.2.2.1 7) i 1)) 7 (upd ((u_ai g 7 (upd (g.2.2.1 7) i 1)).2.2.1 7) i w) → w = nI (sz t n i) → G mX12_findSizes (d + 1) SM (f_PV (fun k => (∀ i, i < n → k.2.2.1 7 i = nI (sz t n i)) ∧ mF ([], [], [7], []) h k)) 7 [(0, .ref 1), (1, .int (nI i + (-1)))] [] g' := by
        rintro g' w rfl hw
        rw [i_dn]
        refine ih _ (by omega) ((hg.ai (by decide)).ai (by decide)) ?_
        intro j h1 h2
        rw [u_ai_s]
        by_cases e : j = i
        · subst e; rw [upd_s]; exact hw
        · rw [upd_n _ _ e, u_ai_s, upd_n _ _ e]; exact hall j (by omega) h2
      refine ⟨fun z => ?_, fun z => ?_⟩
      · have z := bI_0.mp z
        rw [i_dn]
        refine ih _ (by omega) (hg.ai (by decide)) ?_
        intro j h1 h2
        rw [u_ai_s]
        by_cases e : j = i
        · subst e; rw [upd_s, sz_leaf z]; rfl
        · rw [upd_n _ _ e]; exact hall j (by omega) h2
      · have z := bI_n0.mp z
        obtain ⟨q1, q2⟩ := op_in hv hin z
        have hp := sz_pos t n (i + 1)
        have e1 : (u_ai g 7 (upd (g.2.2.1 7) i 1)).2.2.1 7 (i + 1) = nI (sz t n (i + 1)) := by
          rw [u_ai_s, upd_n _ _ (by omega)]; exact hall _ (by omega) q1
        have e2 : (u_ai g 7 (upd (g.2.2.1 7) i 1)).2.2.1 7 (i + 1 + sz t n (i + 1)) = nI (sz t n (i + 1 + sz t n (i + 1))) := by
          rw [u_ai_s, upd_n _ _ (by omega)]; exact hall _ (by omega) q2
        rw [nI1]
        refine ⟨vp_in_nI (by omega) (by decide), ?_⟩
        rw [nI_clamp (by omega), e1, nI_add]
        refine ⟨vp_in_nI (by omega) (by decide), ?_⟩
        rw [nI_clamp (by omega), e2]
        intro g2 hg2
        refine nx g2 _ hg2 ?_
        rw [sz_op hv hin z, ← nI_add, ← nI_add]
        rfl
  refine NX12_findSizes_0 hM ?_
  rw [hN.1, i_top]
  exact key n h (Nat.le_refl n) mF.rf (fun j h1 h2 => by omega)
/-- the numbers that letters stand for in the reference -/
def mNum (h : fH) : Nat → Int32 := fun j => h.2.2.1 4 j + h.2.2.1 12 j
theorem s_wholeAt {i : Nat} (h13 : n ≤ 13) (hN : MNow h t n) (hi : i < n) (hl : isLetB (t i) = true ∨ isDigB (t i) = true) : OkI (d + 2) mX12_wholeAt SM [.ref 1, .int (nI i)] h (fun v k => v = numF (t i) 5 (mNum h) ∧ k = h) := by
  refine NX12_wholeAt_0 hM hM6 hM4 hM12 ⟨vp_in_nI (by omega) (by decide), _, s_misLetter, ?_⟩
  rintro _ _ ⟨rfl, rfl⟩
  rw [nI_clamp (by omega), hN.2 i hi]
  refine ⟨fun z => ?_, fun z => ?_⟩
  · have z := bI_0.mp z
    have hd : isDigB (t i) = true := hl.resolve_left (by rw [z]; decide)
    exact ⟨(numF_dig hd).symm, rfl⟩
  · have z := bI_n0.mp z
    obtain ⟨j, hj, e1, e2, e3⟩ := let_at z
    refine ⟨by rw [e1]; exact vp_in_nI hj (by decide), ?_, rfl⟩
    rw [numF_let z]
    rfl
theorem bil_toInt (x : Int32) (hx : x.toInt.natAbs ≤ 1000) : ((1000000000 : Int64) * x.toInt64).toInt = 1000000000 * x.toInt := by
  have e : (1000000000 : Int64) * x.toInt64 = Int64.ofInt (1000000000 * x.toInt) := by
    rw [Int64.ofInt_mul, ← Int32.toInt_toInt64 x, Int64.ofInt_toInt]; rfl
  rw [e, lO_toInt (by omega) (by omega)]
theorem mNum_of {h k : fH} {p : fL} (b : mF p h k) (h1 : p.2.2.1.contains 4 = false) (h2 : p.2.2.1.contains 12 = false) : mNum k = mNum h := by
  have e1 : 4 ∉ p.2.2.1 := fun z => by rw [List.contains_iff_mem.mpr z] at h1; cases h1
  have e2 : 12 ∉ p.2.2.1 := fun z => by rw [List.contains_iff_mem.mpr z] at h2; cases h2
  unfold mNum
  rw [b.2.2.1 _ e1, b.2.2.1 _ e2]
abbrev fWk : fL := ([2, 3, 4, 5, 6], [2, 3, 4, 5, 6], [7], [8, 9])
theorem s_mwork (hN : MNow h t n) (hv : TxV t n) (hD : h.1 1 0 = nI D) (hD1 : 1 ≤ D) (hD4 : D ≤ 4) (hW : h.1 1 1 = nI W) (hW3 : W ≤ 3) (hf : mNum h = f) (hfB : nmB f) :
    OkV (d + 4) mX12_work SM [.ref 1] h (fun k => (∀ i, i < n → k.2.2.2 8 i = wkF D W f t n i ∧ k.2.2.2 9 i = slF D W f t n i) ∧ mF fWk h k) := by
  obtain ⟨⟨o, hvo⟩, h13, hleaf⟩ := id hv
  refine NX12_work_0 hM ⟨_, s_findSizes h13 hN ⟨o, hvo⟩, ?_⟩
  rintro h1 ⟨hsz, hf1⟩
  have hf1' : mF fWk h h1 := hf1.mono (by decide)
  have key : ∀ (i : Nat) (g : fH), i ≤ n → mF fWk h g → (∀ j, j < n → g.2.2.1 7 j = nI (sz t n j)) → (∀ j, i ≤ j → j < n → g.2.2.2 8 j = wkF D W f t n j ∧ g.2.2.2 9 j = slF D W f t n j) → G mX12_work (d + 4) SM (f_PV (fun k => (∀ i, i < n → k.2.2.2 8 i = wkF D W f t n i ∧ k.2.2.2 9 i = slF D W f t n i) ∧ mF fWk h k)) 11 [(0, .ref 1), (1, .int (Int32.ofInt ((i : Int) - 1)))] [] g := by
    intro i
    induction i with
    | zero =>
      intro g _ hg hs hall
      exact NX12_work_11 hM hM6 hM8 hM9 hM7 ⟨fun _ => ⟨fun j hj => hall j (by omega) hj, hg⟩, fun z => absurd (by decide) z⟩
    | succ i ih =>
      intro g hi hg hs hall
      rw [i_pred]
      have hin : i < n := by omega
      have hc : (nI i).toNatClampNeg = i := nI_clamp (by omega)
      have gN := hN.of hg (by decide) (by decide)
      have gD : g.1 1 0 = nI D := by rw [hg.1 0 (by decide)]; exact hD
      have gW : g.1 1 1 = nI W := by rw [hg.1 1 (by decide)]; exact hW
      have gf : mNum g = f := by rw [mNum_of hg (by decide) (by decide)]; exact hf
      have nx : ∀ (g' : fH) (x w : Int64), mF fWk h g' → g'.2.2.2 8 = vp_updL (g.2.2.2 8) i x → g'.2.2.2 9 = vp_updL (g.2.2.2 9) i w → g'.2.2.1 7 = g.2.2.1 7 → x = wkF D W f t n i → w = slF D W f t n i → G mX12_work (d + 4) SM (f_PV (fun k => (∀ i, i < n → k.2.2.2 8 i = wkF D W f t n i ∧ k.2.2.2 9 i = slF D W f t n i) ∧ mF fWk h k)) 11 [(0, .ref 1), (1, .int (nI i + (-1)))] [] g' := by
        intro g' x w m8 e8 e9 e7 hx hw
        rw [i_dn]
        refine ih g' (by omega) m8 (fun j hj => by rw [e7]; exact hs j hj) ?_
        intro j h1 h2
        rw [e8, e9]
        by_cases e : j = i
        · subst e; rw [pk_uLs, pk_uLs]; exact ⟨hx, hw⟩
        · rw [pk_uLn e, pk_uLn e]; exact hall j (by omega) h2
      refine NX12_work_11 hM hM6 hM8 hM9 hM7 ⟨fun z => absurd z (nI_lt0 (by omega)), fun _ => ⟨vp_in_nI (by omega) (by decide), _, s_misSign, ?_⟩⟩
      rintro _ _ ⟨rfl, rfl⟩
      rw [hc, gN.2 i hin]
      refine ⟨fun z => ?_, fun z => ?_⟩
      · have z := bI_0.mp z
        refine ⟨_, s_wholeAt h13 gN hin (hleaf i hin z), ?_⟩
        rintro _ _ ⟨rfl, rfl⟩
        rw [gf, gW]
        have hb : (lfX f (t i)).natAbs ≤ 104 := lfX_bd hfB
        have hbt : ((1000000000 : Int64) * (numF (t i) 5 f).toInt64).toInt = 1000000000 * lfX f (t i) := bil_toInt _ (by unfold lfX at hb; omega)
        refine ⟨_, s_mroundOf (D := D) (W := W) (tiny := false) hMi gD hD1 hD4 hW3 (by rw [hbt]; omega), ?_⟩
        rintro _ _ ⟨rfl, rfl⟩ g1 rfl g2 rfl
        have hwk : wkF D W f t n i = lfW D W f (t i) := ev_leaf z
        have hval : Int64.ofInt (rndF D W false (decide (((1000000000 : Int64) * (numF (t i) 5 f).toInt64).toInt < 0)) ((1000000000 : Int64) * (numF (t i) 5 f).toInt64).toInt.natAbs 1 0) = wkF D W f t n i := by
          rw [hwk, hbt]
          unfold lfW
          have e1 : decide (1000000000 * lfX f (t i) < 0) = decide (lfX f (t i) < 0) := by congr 1; apply propext; omega
          have e2 : (1000000000 * lfX f (t i)).natAbs = (lfX f (t i)).natAbs * 10 ^ 9 := by omega
          rw [e1, e2, rndF_sc (by omega)]
        refine nx _ _ (wkF D W f t n i - 1000000000 * (numF (t i) 5 f).toInt64) ((hg.al (by decide)).al (by decide)) ?_ ?_ rfl hval ?_
        · rw [u_al_n _ _ (by decide), u_al_s]
        · rw [u_al_s, u_al_s, pk_uLs, u_al_n _ _ (by decide), hval]
        · unfold slF
          rw [z, hwk]
          rfl
      · have z := bI_n0.mp z
        obtain ⟨q1, q2⟩ := op_in hvo hin z
        have hp := sz_pos t n (i + 1)
        have dA := wkF_dcm (D := D) (W := W) (f := f) hD1 hD4 hfB hv (i + 1) q1
        have dB := wkF_dcm (D := D) (W := W) (f := f) hD1 hD4 hfB hv _ q2
        have hwk : wkF D W f t n i = madeF D W false (t i) (wkF D W f t n (i + 1)) (wkF D W f t n (i + 1 + sz t n (i + 1))) := ev_op hvo hin z
        have hsl : slF D W f t n i = (if wkF D W f t n i = 1000000000000000000 then 1000000000000000000 else wkF D W f t n i - wholeF (t i) (wkF D W f t n (i + 1)) (wkF D W f t n (i + 1 + sz t n (i + 1)))) := by unfold slF; rw [if_pos z]
        rw [nI1]
        refine ⟨vp_in_nI (by omega) (by decide), ?_⟩
        rw [nI_clamp (by omega), hs _ q1, nI_add]
        refine ⟨vp_in_nI (by omega) (by decide), ?_⟩
        rw [nI_clamp (by omega), (hall _ (by omega) q1).1, (hall _ (by omega) q2).1, gW]
        generalize wkF D W f t n (i + 1) = A at *
        generalize wkF D W f t n (i + 1 + sz t n (i + 1)) = B at *
        refine ⟨_, s_made (D := D) (W := W) (tiny := false) (d := d) hMi gD hD1 hD4 hW3 (op4 z) dA dB, ?_⟩
        rintro _ k ⟨rfl, hk⟩
        rintro g3 rfl
        have hk := mF.scr hk
        have hgk : mF fWk h k := hg.go hk (by decide)
        rw [u_al_s, pk_uLs, ← hwk]
        refine ⟨fun y => ?_, fun y => ?_⟩
        · have hA : ¬ A = 1000000000000000000 := fun e => y (by rw [hwk, madeF, if_pos (Or.inl e)])
          have hB : ¬ B = 1000000000000000000 := fun e => y (by rw [hwk, madeF, if_pos (Or.inr e)])
          have hB0 : t i = 47 → ¬ B = 0 := fun e e0 => y (by
            rw [hwk, madeF, if_neg (by simp [hA, hB]), if_pos]
            exact ⟨by rw [e]; decide, e0⟩)
          have e6 : (u_al k 8 (vp_updL (k.2.2.2 8) i (wkF D W f t n i))).2.2.1 6 i = t i := by
            rw [u_al_3, hk.2.2.1 6 (by decide)]; exact gN.2 i hin
          rw [e6]
          refine ⟨_, s_mwhole (d := d) hMi (op4 z) (dA.resolve_left hA) (dB.resolve_left hB) hB0, ?_⟩
          rintro _ k2 ⟨rfl, hk2⟩
          have hk2 := mF.scr hk2
          rintro g4 rfl
          refine nx _ (wkF D W f t n i) _ (((hgk.al (by decide)).go hk2 (by decide)).al (by decide)) ?_ ?_ ?_ rfl (by rw [hsl, if_neg y])
          · rw [u_al_n _ _ (by decide), hk2.2.2.2 8 (by decide), u_al_s, hk.2.2.2 8 (by decide)]
          · rw [u_al_s, hk2.2.2.2 9 (by decide), u_al_n _ _ (by decide), hk.2.2.2 9 (by decide)]
          · rw [u_al_3, hk2.2.2.1 7 (by decide), u_al_3, hk.2.2.1 7 (by decide)]
        · rintro g5 rfl
          refine nx _ (wkF D W f t n i) _ ((hgk.al (by decide)).al (by decide)) ?_ ?_ ?_ rfl (by rw [hsl, if_pos y])
          · rw [u_al_n _ _ (by decide), u_al_s, hk.2.2.2 8 (by decide)]
          · rw [u_al_s, u_al_n _ _ (by decide), hk.2.2.2 9 (by decide)]
          · rw [u_al_3, u_al_3, hk.2.2.1 7 (by decide)]
  rw [hf1'.1 14 (by decide), hN.1, i_top]
  exact key n h1 (Nat.le_refl n) hf1' hsz (fun j h1 h2 => by omega)
end MWORK

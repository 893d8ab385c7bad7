/-! ===== the reference's truthOf ===== -/
section MT2
variable {d : Nat} {h : fH} {n : Nat} {t f : Nat → Int32} {gw : Nat → Nat}
abbrev fTr : fL := ([14], [], [6, 7, 12], [10, 11])
/-- the wheels in the other order -/
def rvM (m : Nat → Nat) : Nat → Nat := fun q => m (4 - q)
def dnM (m : Nat → Nat) (j0 : Nat) : Nat → Nat := fun q => if j0 < q then 0 else if q = j0 then m j0 + 1 else m q
theorem rv_dn {m : Nat → Nat} {j0 q : Nat} (hj : j0 < 5) (hq : q < 5) : rvM (dnM m j0) q = nxM (rvM m) (4 - j0) q := by
  show (if j0 < 4 - q then 0 else if 4 - q = j0 then m j0 + 1 else m (4 - q)) = (if q < 4 - j0 then 0 else if q = 4 - j0 then m (4 - (4 - j0)) + 1 else m (4 - q))
  by_cases p1 : q < 4 - j0
  · rw [if_pos p1, if_pos (show j0 < 4 - q by omega)]
  · rw [if_neg p1, if_neg (show ¬ j0 < 4 - q by omega)]
    by_cases p2 : q = 4 - j0
    · rw [if_pos p2, if_pos (show 4 - q = j0 by omega), show 4 - (4 - j0) = j0 by omega]
    · rw [if_neg p2, if_neg (show ¬ 4 - q = j0 by omega)]
theorem rk_rv_inj {m m2 w : Nat → Nat} (h1 : ∀ j, j < 5 → m j ≤ w j) (h2 : ∀ j, j < 5 → m2 j ≤ w j) (e : rkU (rvM m) (rvM w) 5 0 = rkU (rvM m2) (rvM w) 5 0) : ∀ j, j < 5 → m j = m2 j := by
  have k := rk_inj 5 0 (fun q p1 p2 => h1 (4 - q) (by omega)) (fun q p1 p2 => h2 (4 - q) (by omega)) e
  intro j hj
  have := k (4 - j) (by omega) (by omega)
  unfold rvM at this
  rw [show 4 - (4 - j) = j by omega] at this
  exact this
theorem rk_rv_lt {m w : Nat → Nat} (h1 : ∀ j, j < 5 → m j ≤ w j) : rkU (rvM m) (rvM w) 5 0 < prU (rvM w) 5 0 := rk_lt 5 0 (fun q p1 p2 => h1 (4 - q) (by omega))
theorem s_truthOf {e : Nat} (he : e ≤ 1) (hn : h.1 1 10 = nI n) (ht : h.2.2.1 3 = t) (hv : TxV t n) (hf : h.2.2.1 4 = f) (hfS : nmS f) (hg : ∀ j, j < 5 → h.2.2.1 5 j = nI (gw j)) (hgw : ∀ j, gw j ≤ 5) (hz : ∀ j, j < 5 → h.2.2.1 12 j = 0) :
    OkL (d + 5) mX12_truthOf SM [.ref 1, .int (nI e)] h (fun v k => (∃ V : Int, v = Int64.ofInt V ∧ TrOk f t n (wdF t n gw) e V) ∧ (∀ j, j < 5 → k.2.2.1 12 j = 0) ∧ mF fTr h k) := by
  obtain ⟨⟨o, hvo⟩, h13, hleaf⟩ := id hv
  have hpos := hv.pos
  have hw5 : ∀ j, wdF t n gw j ≤ 5 := fun j => by unfold wdF; split; exact hgw j; omega
  have hP := pr_bd (w := rvM (wdF t n gw)) (fun j => hw5 _) 5 0
  have e01 : (nI e = (0 : Int32)) ↔ e = 0 := nI_eq (b := 0) (by omega) (by decide)
  have e11 : (nI e = (1 : Int32)) ↔ e = 1 := nI_eq (b := 1) (by omega) (by decide)
  have bnd : ∀ m, trV f t n e m = 1000000000000000000 ∨ (trV f t n e m).natAbs ≤ 10 ^ 16 := by
    intro m
    rcases trV_b f t n m with q | q
    · rcases (show e = 0 ∨ e = 1 by omega) with rfl | rfl
      · exact Or.inl q.1
      · exact Or.inl q.2
    · rcases (show e = 0 ∨ e = 1 by omega) with rfl | rfl
      · exact Or.inr q.2.2.1
      · exact Or.inr q.2.2.2
  have bnd2 : ∀ m, (trV f t n e m).natAbs ≤ 10 ^ 18 := fun m => by
    rcases bnd m with q | q
    · rw [q]; decide
    · omega
  refine NX12_truthOf_0 hM ⟨_, s_layText h13 hn, ?_⟩
  rw [ht]
  rintro h1 ⟨hN, fr1⟩
  generalize hw : wdF t n gw = w at *
  have key : ∀ (k i : Nat) (m : Nat → Nat) (gr : Bool) (A : Int) (g : fH), k + i = prU (rvM w) 5 0 → mF fTr h g → MNow g t n → A.natAbs ≤ 10 ^ 18 →
      (gr = true → ∃ m2, (∀ j, j < 5 → m2 j ≤ w j) ∧ trV f t n e m2 = 1000000000000000000) →
      (gr = false → (∀ m2, (∀ j, j < 5 → m2 j ≤ w j) → rkU (rvM m2) (rvM w) 5 0 < i → trV f t n e m2 ≠ 1000000000000000000 ∧ if e = 0 then A ≤ trV f t n e m2 else trV f t n e m2 ≤ A) ∧ (0 < i → ∃ m2, (∀ j, j < 5 → m2 j ≤ w j) ∧ A = trV f t n e m2)) →
      (k = 0 → ∀ j, j < 5 → g.2.2.1 12 j = 0) →
      (0 < k → (∀ j, j < 5 → m j ≤ w j) ∧ rkU (rvM m) (rvM w) 5 0 = i ∧ ∀ j, j < 5 → g.2.2.1 12 j = nI (m j)) →
      G mX12_truthOf (d + 5) SM (f_PL (fun v k => (∃ V : Int, v = Int64.ofInt V ∧ TrOk f t n w e V) ∧ (∀ j, j < 5 → k.2.2.1 12 j = 0) ∧ mF fTr h k)) 14 [(0, .ref 1), (1, .int (nI e)), (2, .int (bI (decide (0 < k)))), (3, .int (bI (decide (i = 0)))), (4, .int (bI gr)), (5, .long (Int64.ofInt A))] [] g := by
    intro k
    induction k with
    | zero =>
      intro i m gr A g hi fg gN bA hgr hng hz0 _
      refine NX12_truthOf_14 hM ⟨fun _ => ⟨fun z => ?_, fun z => ?_⟩, fun z => absurd rfl z⟩
      · have z := bI_0.mp z
        obtain ⟨q1, q2⟩ := hng z
        have cov : ∀ m2, (∀ j, j < 5 → m2 j ≤ w j) → rkU (rvM m2) (rvM w) 5 0 < i := fun m2 h2 => by have := rk_rv_lt h2; omega
        refine ⟨⟨A, rfl, Or.inr ⟨fun m2 h2 => (q1 m2 h2 (cov m2 h2)).1, q2 (by omega), fun m2 h2 => ?_⟩⟩, hz0 rfl, fg⟩
        have := (q1 m2 h2 (cov m2 h2)).2
        rcases (show e = 0 ∨ e = 1 by omega) with rfl | rfl
        · simpa using this
        · simpa using this
      · have z := bI_n0.mp z
        exact ⟨⟨1000000000000000000, rfl, Or.inl ⟨hgr z, rfl⟩⟩, hz0 rfl, fg⟩
    | succ k ih =>
      intro i m gr A g hi fg gN bA hgr hng hz0 hst
      obtain ⟨hm, hrk, hmr⟩ := hst (by omega)
      have hm5 : ∀ j, j < 5 → m j ≤ 5 := fun j hj => by have := hm j hj; have := hw5 j; omega
      have enum : ∀ j, j < 5 → mNum g j = fmF f m j := fun j hj => by
        unfold mNum fmF
        rw [fg.2.2.1 4 (by decide), hf, hmr j hj]
      have nmb : nmB (mNum g) := fun j hj => by rw [enum j hj]; exact fm_nmB hfS hm5 j hj
      have efr : ∀ q, q < n → frC (mNum g) t n q = frC (fmF f m) t n q := fun q hq => frC_all hvo hq enum
      have sm := frC_small hv (fm_nmB hfS hm5) hpos
      refine NX12_truthOf_14 hM ⟨fun z => absurd z (show ¬ bI true = 0 by decide), fun _ => ?_⟩
      refine ⟨_, s_workExact (d := d + 1) (f := mNum g) gN hv rfl nmb, ?_⟩
      rintro k1 ⟨hval, f1⟩
      have sr := frR_small hv nmb hpos
      refine ⟨_, s_mbillionths (d := d + 3) (j := 0) (e := (e : Int)) (by decide) (hval 0 hpos).1 (hval 0 hpos).2 sr.1 sr.2.1 sr.2.2 (by rw [e01]; omega) (by rw [e11]; omega), ?_⟩
      rintro _ k1 ⟨rfl, rfl⟩
      have ev : biF e (frR (mNum g) t n 0).1 (frR (mNum g) t n 0).2 = trV f t n e m := by
        unfold frR trV
        rw [biF_nz (frC_small hv nmb hpos).2.2, efr 0 hpos]
      rw [ev]
      have fg1 : mF fTr h k1 := fg.go f1 (by decide)
      have gN1 := gN.of f1 (by decide) (by decide)
      have hmr1 : ∀ j, j < 5 → k1.2.2.1 12 j = nI (m j) := fun j hj => by rw [f1.2.2.1 12 (by decide)]; exact hmr j hj
      have hb := bnd m
      have hb2 := bnd2 m
      have v0 : (Int64.ofInt (trV f t n e m) = 1000000000000000000) ↔ trV f t n e m = 1000000000000000000 := lO_eq (b := 1000000000000000000) (by omega) (by omega) (by decide) (by decide)
      have same : ∀ m2, (∀ j, j < 5 → m2 j ≤ w j) → rkU (rvM m2) (rvM w) 5 0 = i → trV f t n e m2 = trV f t n e m := by
        intro m2 h2 e2
        have e3 := rk_rv_inj h2 hm (e2.trans hrk.symm)
        unfold trV
        rw [frC_all hvo hpos (fun j hj => (show fmF f m2 j = fmF f m j by unfold fmF; rw [e3 j hj]))]
      -- behind what is great: the best one, then the next numbers
      have cut : ∀ gr2 : Bool, (gr2 = true → ∃ m2, (∀ j, j < 5 → m2 j ≤ w j) ∧ trV f t n e m2 = 1000000000000000000) → (gr2 = false → gr = false ∧ trV f t n e m ≠ 1000000000000000000) → G mX12_truthOf (d + 5) SM (f_PL (fun v k => (∃ V : Int, v = Int64.ofInt V ∧ TrOk f t n w e V) ∧ (∀ j, j < 5 → k.2.2.1 12 j = 0) ∧ mF fTr h k)) 49 [(0, .ref 1), (1, .int (nI e)), (3, .int (bI (decide (i = 0)))), (5, .long (Int64.ofInt A)), (7, .long (Int64.ofInt (trV f t n e m)))] [.int (bI gr2)] k1 := by
        intro gr2 hg1 hg2
        have nxt : ∀ A2 : Int, A2.natAbs ≤ 10 ^ 18 → (gr2 = false → (∀ m2, (∀ j, j < 5 → m2 j ≤ w j) → rkU (rvM m2) (rvM w) 5 0 < i + 1 → trV f t n e m2 ≠ 1000000000000000000 ∧ if e = 0 then A2 ≤ trV f t n e m2 else trV f t n e m2 ≤ A2) ∧ ∃ m2, (∀ j, j < 5 → m2 j ≤ w j) ∧ A2 = trV f t n e m2) →
            ∃ Q9 : Int32 → fH → Prop, OkI (d + 4) mX12_nextNumbers SM [.ref 1] k1 Q9 ∧ ∀ (v9 : Int32) (k9 : fH), Q9 v9 k9 → G mX12_truthOf (d + 5) SM (f_PL (fun v k => (∃ V : Int, v = Int64.ofInt V ∧ TrOk f t n w e V) ∧ (∀ j, j < 5 → k.2.2.1 12 j = 0) ∧ mF fTr h k)) 14 [(0, .ref 1), (1, .int (nI e)), (2, .int v9), (3, .int (0 : Int32)), (4, .int (bI gr2)), (5, .long (Int64.ofInt A2))] [] k9 := by
          intro A2 bA2 hA2
          refine ⟨_, s_nextNumbers (d := d + 3) (gw := gw) (m := m) h13 hpos gN1 ⟨o, hvo⟩ (fun j hj => by rw [fg1.2.2.1 5 (by decide)]; exact hg j hj) hgw hmr1 (by rw [hw]; exact hm), ?_⟩
          rw [hw]
          rintro v9 k9 ⟨hv9, f9⟩
          have fg9 : mF fTr h k9 := fg1.go f9 (by decide)
          have gN9 := gN1.of f9 (by decide) (by decide)
          have i0 : (0 : Int32) = bI (decide (i + 1 = 0)) := rfl
          rw [i0]
          rcases hv9 with ⟨j0, c1, c2, c3, rfl, c4⟩ | ⟨top, rfl, c4⟩
          · have erv : ∀ q, q < 5 → rvM (dnM m j0) q = nxM (rvM m) (4 - j0) q := fun q hq => rv_dn c1 hq
            have er : rkU (rvM (dnM m j0)) (rvM w) 5 0 = i + 1 := by
              rw [rk_congr 5 0 (fun q p1 p2 => erv q (by omega)), rk_next (m := rvM m) (w := rvM w) (j := 4 - j0) 5 0 (by omega) (by omega) (fun q p1 p2 => c2 (4 - q) (by omega) (by omega)), hrk]
            have hm9 : ∀ j, j < 5 → dnM m j0 j ≤ w j := by
              intro j hj
              have := hm j hj
              simp only [dnM]
              split
              · omega
              · split
                · next q => subst q; omega
                · exact this
            have hkp : 0 < k := by have := rk_rv_lt hm9; omega
            have := ih (i + 1) (dnM m j0) gr2 A2 k9 (by omega) fg9 gN9 bA2 hg1 (fun z => ⟨(hA2 z).1, fun _ => (hA2 z).2⟩) (fun z => by omega) (fun _ => ⟨hm9, er, c4⟩)
            rw [decide_eq_true hkp] at this
            exact this
          · have hk0 : k = 0 := by
              have := rk_top (m := rvM m) (w := rvM w) 5 0 (fun q p1 p2 => top (4 - q) (by omega))
              omega
            subst hk0
            exact ih (i + 1) m gr2 A2 k9 (by omega) fg9 gN9 bA2 hg1 (fun z => ⟨(hA2 z).1, fun _ => (hA2 z).2⟩) (fun _ => c4) (fun z => by omega)
        -- m is the first
        have new : (gr2 = false → 0 < i → if e = 0 then trV f t n e m ≤ A else A ≤ trV f t n e m) → gr2 = false → (∀ m2, (∀ j, j < 5 → m2 j ≤ w j) → rkU (rvM m2) (rvM w) 5 0 < i + 1 → trV f t n e m2 ≠ 1000000000000000000 ∧ if e = 0 then trV f t n e m ≤ trV f t n e m2 else trV f t n e m2 ≤ trV f t n e m) ∧ ∃ m2, (∀ j, j < 5 → m2 j ≤ w j) ∧ trV f t n e m = trV f t n e m2 := by
          intro hle z
          obtain ⟨p1, p2⟩ := hg2 z
          refine ⟨fun m2 h2 hr => ?_, m, hm, rfl⟩
          rcases Nat.lt_or_ge (rkU (rvM m2) (rvM w) 5 0) i with q | q
          · obtain ⟨r1, r2⟩ := (hng p1).1 m2 h2 q
            have r3 := hle z (by omega)
            refine ⟨r1, ?_⟩
            split at r2
            · next c => rw [if_pos c] at r3 ⊢; omega
            · next c => rw [if_neg c] at r3 ⊢; omega
          · rw [same m2 h2 (by omega)]
            exact ⟨p2, by split <;> exact Int.le_refl _⟩
        have old : 0 < i → (if e = 0 then A ≤ trV f t n e m else trV f t n e m ≤ A) → gr2 = false → (∀ m2, (∀ j, j < 5 → m2 j ≤ w j) → rkU (rvM m2) (rvM w) 5 0 < i + 1 → trV f t n e m2 ≠ 1000000000000000000 ∧ if e = 0 then A ≤ trV f t n e m2 else trV f t n e m2 ≤ A) ∧ ∃ m2, (∀ j, j < 5 → m2 j ≤ w j) ∧ A = trV f t n e m2 := by
          intro hi0 hle z
          obtain ⟨p1, p2⟩ := hg2 z
          refine ⟨fun m2 h2 hr => ?_, (hng p1).2 hi0⟩
          rcases Nat.lt_or_ge (rkU (rvM m2) (rvM w) 5 0) i with q | q
          · exact (hng p1).1 m2 h2 q
          · rw [same m2 h2 (by omega)]
            exact ⟨p2, hle⟩
        have lei : ∀ {p q : Int}, p.natAbs ≤ 10 ^ 18 → q.natAbs ≤ 10 ^ 18 → ((Int64.ofInt p ≤ Int64.ofInt q) ↔ p ≤ q) := fun {p q} hp hq => lO_le (by omega) (by omega) (by omega) (by omega)
        refine NX12_truthOf_49 hM ⟨fun y => ?_, fun y => ?_⟩
        · have y := bI_n0.mp y
          simp only [decide_eq_true_eq] at y
          exact nxt _ hb2 (new (fun _ q => by omega))
        · have y := bI_0.mp y
          simp only [decide_eq_false_iff_not] at y
          rw [e01, lei hb2 bA, lei bA hb2]
          refine ⟨fun ne => ⟨fun q => nxt A bA (old (by omega) (by rw [if_neg ne]; exact q)), fun q => nxt _ hb2 (new (fun _ _ => by rw [if_neg ne]; omega))⟩, fun e0 => ⟨fun q => nxt A bA (old (by omega) (by rw [if_pos e0]; exact q)), fun q => nxt _ hb2 (new (fun _ _ => by rw [if_pos e0]; omega))⟩⟩
      rw [v0]
      refine ⟨fun z => ?_, fun z => ⟨fun y => ?_, fun y => ?_⟩⟩
      · exact cut true (fun _ => hgr (bI_n0.mp z)) (fun q => by cases q)
      · exact cut false (fun q => by cases q) (fun _ => ⟨bI_0.mp z, y⟩)
      · exact cut true (fun _ => ⟨m, hm, y⟩) (fun q => by cases q)
  have fr1' : mF fTr h h1 := fr1.mono (by decide)
  have h0 := key (prU (rvM w) 5 0) 0 (fun _ => 0) false 0 h1 (by omega) fr1' hN (by decide) (fun q => by cases q) (fun _ => ⟨fun m2 _ hr => by omega, fun q => by omega⟩) (fun q => by omega) (fun _ => ⟨fun j _ => Nat.zero_le _, rk_zero 5 0, fun j hj => by rw [fr1.2.2.1 12 (by decide)]; exact hz j hj⟩)
  rw [decide_eq_true (show 0 < prU (rvM w) 5 0 by omega)] at h0
  exact h0
end MT2

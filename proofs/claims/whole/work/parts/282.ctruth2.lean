/-! ===== the class's findTruth ===== -/
theorem nd_sub {l : List Nat} (nd : l.Nodup) : ∀ (js m : List Nat), js.map (fun j => l[j]?) = m.map some → js.Nodup → m.Nodup
  | [], [], _, _ => by simp
  | [], a :: m, h, _ => by simp at h
  | j :: js, [], h, _ => by simp at h
  | j :: js, a :: m, h, hj => by
    simp only [List.map_cons, List.cons.injEq] at h
    rw [List.nodup_cons] at hj ⊢
    exact ⟨nd_out nd j js h.1 h.2 hj.1, nd_sub nd js m h.2 hj.2⟩
section CT2
variable {d : Nat} {S : fW} {h : fH} {sp lw hi ra dn up fr tr wd r a b c nu sn te pg u l n : Nat} {t f : Nat → Int32} {gw : Nat → Nat}
/-- both ends of the TRUTH lie in a Spans -/
def TrH (h : fH) (sp : Nat) (f t : Nat → Int32) (n : Nat) (w : Nat → Nat) : Prop := ∃ x y : Int, (h.2.1 sp 8 = Int64.ofInt x ∧ TrOk f t n w 0 x) ∧ h.2.1 sp 9 = Int64.ofInt y ∧ TrOk f t n w 1 y
theorem lO_ltB {a b : Int} (ha : a.natAbs ≤ 10 ^ 18) (hb : b.natAbs ≤ 10 ^ 18) : (Int64.ofInt a < Int64.ofInt b) ↔ a < b := lO_lt (by omega) (by omega) (by omega) (by omega)
theorem trV_b (f t : Nat → Int32) (n : Nat) (m : Nat → Nat) : (trV f t n 0 m = 1000000000000000000 ∧ trV f t n 1 m = 1000000000000000000) ∨ (trV f t n 0 m ≤ trV f t n 1 m ∧ trV f t n 1 m ≤ trV f t n 0 m + 1 ∧ (trV f t n 0 m).natAbs ≤ 10 ^ 16 ∧ (trV f t n 1 m).natAbs ≤ 10 ^ 16) := bi_01 _ _
theorem s_findTruth (X : SpS S sp lw hi ra dn up fr tr wd) (F : FrS S fr u l) (T : TxS S r a b c) (x : TxOk h r a b c t n) (hv : TxV t n) (hpg : (pg, shX2 r nu sn te) ∈ S) (hnu : (nu, shI 5) ∈ S) (hsn : (sn, shI 5) ∈ S) (htr : (tr, shI 5) ∈ S) (hwd : (wd, shI 5) ∈ S) (nd : [sp, tr, wd, u, l, r, a, b, c, nu, sn].Nodup)
    (hf : h.2.2.1 nu = f) (hfS : nmS f) (hg : ∀ j, j < 5 → h.2.2.1 sn j = nI (gw j)) (hgw : ∀ j, gw j ≤ 5) (hfound : ¬ h.1 sp 10 = 0 → TrH h sp f t n (wdF t n gw)) :
    OkV (d + 3) mX7_findTruth S [.ref sp, .ref pg] h (fun k => TrH k sp f t n (wdF t n gw) ∧ ¬ k.1 sp 10 = 0 ∧ fOff [sp, tr, wd, u, l] h k) := by
  obtain ⟨⟨o, hvo⟩, h13, hleaf⟩ := id hv
  have hpos := hv.pos
  have hw5 : ∀ j, wdF t n gw j ≤ 5 := fun j => by unfold wdF; split; exact hgw j; omega
  generalize hw : wdF t n gw = w at *
  have ndf : [u, l, r, a, b, c, tr].Nodup := nd_sub nd [3, 4, 5, 6, 7, 8, 1] _ rfl (by decide)
  have ndt : [tr, wd, nu].Nodup := nd_sub nd [1, 2, 9] _ rfl (by decide)
  have nds : [tr, wd, nu, sn].Nodup := nd_sub nd [1, 2, 9, 10] _ rfl (by decide)
  have hP := pr_bd hw5 5 0
  -- the loop
  have key : ∀ (k i : Nat) (m : Nat → Nat) (mk : Int32) (A B : Int) (g : fH), k + i = prU w 5 0 → fOff [sp, tr, wd, u, l] h g → ¬ g.1 sp 10 = 0 → g.2.1 sp 8 = Int64.ofInt A → g.2.1 sp 9 = Int64.ofInt B → A.natAbs ≤ 10 ^ 18 → B.natAbs ≤ 10 ^ 18 →
      (∀ m2, (∀ j, j < 5 → m2 j ≤ w j) → rkU m2 w 5 0 < i → trV f t n 0 m2 ≠ 1000000000000000000 ∧ A ≤ trV f t n 0 m2 ∧ trV f t n 1 m2 ≤ B) → (i = 0 → A = 1000000000000000000 ∧ B = -1000000000000000000) → (0 < i → (∃ m2, (∀ j, j < 5 → m2 j ≤ w j) ∧ A = trV f t n 0 m2) ∧ ∃ m2, (∀ j, j < 5 → m2 j ≤ w j) ∧ B = trV f t n 1 m2) →
      (∀ j, j < 5 → g.2.2.1 wd j = nI (w j)) →
      (0 < k → (∀ j, j < 5 → m j ≤ w j) ∧ rkU m w 5 0 = i ∧ (∀ j, j < 5 → g.2.2.1 tr j = fmF f m j) ∧ ∀ q, q < n → (lmF t n q &&& mk) = 0 → g.2.2.2 u q = Int64.ofInt (frC (fmF f m) t n q).1 ∧ g.2.2.2 l q = Int64.ofInt (frC (fmF f m) t n q).2) →
      G mX7_findTruth (d + 3) S (f_PV (fun k => TrH k sp f t n w ∧ ¬ k.1 sp 10 = 0 ∧ fOff [sp, tr, wd, u, l] h k)) 39 [(0, .ref sp), (1, .ref pg), (2, .int (nI (prU w 5 0))), (3, .int mk), (4, .int (nI i))] [] g := by
    intro k
    induction k with
    | zero =>
      intro i m mk A B g hi og g10 g8 g9 bA bB hall hz hpn gw1 _
      have e : i = prU w 5 0 := by omega
      refine NX7_findTruth_39 X.1 hpg F.1 ⟨fun _ => ⟨⟨A, B, ⟨g8, ?_⟩, g9, ?_⟩, g10, og⟩, fun z => absurd (by rw [e]; exact Int32.le_refl _) z⟩
      · refine Or.inr ⟨fun m2 h2 => (hall m2 h2 (by rw [e]; exact rk_lt 5 0 (fun q p1 p2 => h2 q (by omega)))).1, (hpn (by omega)).1, fun m2 h2 => ?_⟩
        rw [if_pos rfl]
        exact (hall m2 h2 (by rw [e]; exact rk_lt 5 0 (fun q p1 p2 => h2 q (by omega)))).2.1
      · refine Or.inr ⟨fun m2 h2 => ?_, (hpn (by omega)).2, fun m2 h2 => ?_⟩
        · have q := (hall m2 h2 (by rw [e]; exact rk_lt 5 0 (fun q p1 p2 => h2 q (by omega)))).1
          rcases trV_b f t n m2 with ⟨w1, w2⟩ | w3
          · exact absurd w1 q
          · omega
        · rw [if_neg (by decide)]
          exact (hall m2 h2 (by rw [e]; exact rk_lt 5 0 (fun q p1 p2 => h2 q (by omega)))).2.2
    | succ k ih =>
      intro i m mk A B g hi og g10 g8 g9 bA bB hall hz hpn gw1 hst
      obtain ⟨hm, hrk, htr1, hfr⟩ := hst (by omega)
      have hm5 : ∀ j, j < 5 → m j ≤ 5 := fun j hj => by have := hm j hj; have := hw5 j; omega
      have hB5 : (6 : Nat) ^ 5 = 7776 := by decide
      have xg := x.off og (nd_out nd 5 [0, 1, 2, 3, 4] rfl rfl (by decide)) (nd_out nd 6 [0, 1, 2, 3, 4] rfl rfl (by decide)) (nd_out nd 7 [0, 1, 2, 3, 4] rfl rfl (by decide)) (nd_out nd 8 [0, 1, 2, 3, 4] rfl rfl (by decide))
      have onu := og nu (nd_out nd 9 [0, 1, 2, 3, 4] rfl rfl (by decide))
      have efr : ∀ q, q < n → frC (g.2.2.1 tr) t n q = frC (fmF f m) t n q := fun q hq => frC_all hvo hq htr1
      have nmb : nmB (g.2.2.1 tr) := fun j hj => by rw [htr1 j hj]; exact fm_nmB hfS hm5 j hj
      refine NX7_findTruth_39 X.1 hpg F.1 ⟨fun z => absurd z (nI_ge (by omega) (by omega)), fun _ => ?_⟩
      refine ⟨_, s_workParts (d := d) (f := g.2.2.1 tr) T xg hv F htr ndf rfl nmb (fun j hj z => by rw [efr j hj]; exact hfr j hj z), ?_⟩
      rintro k1 ⟨hval, o1⟩
      have hval : ∀ j, j < n → k1.2.2.2 u j = Int64.ofInt (frC (fmF f m) t n j).1 ∧ k1.2.2.2 l j = Int64.ofInt (frC (fmF f m) t n j).2 := fun j hj => by rw [← efr j hj]; exact hval j hj
      have sm := frC_small hv (fm_nmB hfS hm5) hpos
      have osp := o1 sp (nd_out nd 0 [3, 4] rfl rfl (by decide))
      have otr := o1 tr (nd_out nd 1 [3, 4] rfl rfl (by decide))
      have owd := o1 wd (nd_out nd 2 [3, 4] rfl rfl (by decide))
      have og1 : fOff [sp, tr, wd, u, l] h k1 := og.tr (o1.mono (by simp))
      refine ⟨_, s_billionths (d := d + 1) (j := 0) (e := 0) F (by decide) (hval 0 hpos).1 (hval 0 hpos).2 sm.1 sm.2.1 sm.2.2 (by decide) (by decide), ?_⟩
      rintro _ k1 ⟨rfl, rfl⟩
      have ev0 : biF 0 (frC (fmF f m) t n 0).1 (frC (fmF f m) t n 0).2 = trV f t n 0 m := rfl
      have ev1 : biF 1 (frC (fmF f m) t n 0).1 (frC (fmF f m) t n 0).2 = trV f t n 1 m := rfl
      rw [ev0]
      have tb := trV_b f t n m
      have v0 : (Int64.ofInt (trV f t n 0 m) = 1000000000000000000) ↔ trV f t n 0 m = 1000000000000000000 := lO_eq (b := 1000000000000000000) (by omega) (by omega) (by decide) (by decide)
      rw [v0]
      refine ⟨fun z => ?_, fun z => ?_⟩
      · have tb := tb.resolve_left (fun q => z q.1)
        have e8 : k1.2.1 sp 8 = Int64.ofInt A := by rw [osp.2.1]; exact g8
        have e9 : k1.2.1 sp 9 = Int64.ofInt B := by rw [osp.2.1]; exact g9
        rw [e8]
        have c8 : (Int64.ofInt (trV f t n 0 m) < Int64.ofInt A) ↔ trV f t n 0 m < A := lO_ltB (Nat.le_trans tb.2.2.1 (by decide)) bA
        have eA : (if Int64.ofInt (trV f t n 0 m) < Int64.ofInt A then Int64.ofInt (trV f t n 0 m) else Int64.ofInt A) = Int64.ofInt (if trV f t n 0 m < A then trV f t n 0 m else A) := by
          by_cases q : trV f t n 0 m < A
          · rw [if_pos (c8.mpr q), if_pos q]
          · rw [if_neg (fun w => q (c8.mp w)), if_neg q]
        rw [eA]
        rintro k2 hk2
        have o2 : fOff [sp] k1 k2 := by rw [hk2]; exact fOff.rf.of (f_off_fl _ _ _ _) (by simp)
        have f28 : k2.2.1 sp 8 = Int64.ofInt (if trV f t n 0 m < A then trV f t n 0 m else A) := by rw [hk2, u_fl_s]
        have f29 : k2.2.1 sp 9 = Int64.ofInt B := by rw [hk2, u_fl_n _ _ (by decide)]; exact e9
        have f210 : ¬ k2.1 sp 10 = 0 := by rw [hk2, u_fl_1, osp.1]; exact g10
        clear hk2
        have c9 : (Int64.ofInt (trV f t n 0 m) < Int64.ofInt B) ↔ trV f t n 0 m < B := lO_ltB (Nat.le_trans tb.2.2.1 (by decide)) bB
        -- to the next trial
        have nxt : ∀ (k3 : fH) (B' : Int), fOff [sp] k1 k3 → ¬ k3.1 sp 10 = 0 → k3.2.1 sp 8 = Int64.ofInt (if trV f t n 0 m < A then trV f t n 0 m else A) → k3.2.1 sp 9 = Int64.ofInt B' → B'.natAbs ≤ 10 ^ 18 → trV f t n 1 m ≤ B' → (B' = trV f t n 1 m ∨ (B' = B ∧ 0 < i)) → (0 < i → B ≤ B') →
            ∃ Q9 : Int32 → fH → Prop, OkI (d + 2) mX7_nextTrial S [.ref sp, .ref nu] k3 Q9 ∧ ∀ (v9 : Int32) (k9 : fH), Q9 v9 k9 → G mX7_findTruth (d + 3) S (f_PV (fun k => TrH k sp f t n w ∧ ¬ k.1 sp 10 = 0 ∧ fOff [sp, tr, wd, u, l] h k)) 39 [(0, .ref sp), (1, .ref pg), (2, .int (nI (prU w 5 0))), (3, .int v9), (4, .int (nI i + 1))] [] k9 := by
          intro k3 B' o3 q10 q8 q9 bB' hB1 hB2 hB3
          have o13 : fOff [sp, tr, wd, u, l] h k3 := og1.tr (o3.mono (by simp))
          refine ⟨_, s_nextTrial (d := d + 2) (w := w) (m := m) (f := f) X hnu htr hwd ndt (by rw [(o13 nu (nd_out nd 9 [0, 1, 2, 3, 4] rfl rfl (by decide))).2.2.1]; exact hf) hfS (fun j hj => by rw [(o3 tr (nd_out nd 1 [0] rfl rfl (by decide))).2.2.1, otr.2.2.1]; exact htr1 j hj) (fun j hj => by rw [(o3 wd (nd_out nd 2 [0] rfl rfl (by decide))).2.2.1, owd.2.2.1]; exact gw1 j hj) hw5 hm, ?_⟩
          rintro v9 k9 ⟨hv9, o9⟩
          have o39 := o9 sp (nd_out nd 0 [1] rfl rfl (by decide))
          rw [nI1]
          have same : ∀ m2, (∀ j, j < 5 → m2 j ≤ w j) → rkU m2 w 5 0 = i → (trV f t n 0 m2 = trV f t n 0 m ∧ trV f t n 1 m2 = trV f t n 1 m) := by
            intro m2 h2 e2
            have e3 := rk_inj 5 0 (fun q p1 p2 => h2 q (by omega)) (fun q p1 p2 => hm q (by omega)) (e2.trans hrk.symm)
            have e4 : frC (fmF f m2) t n 0 = frC (fmF f m) t n 0 := frC_all hvo hpos (fun j hj => by unfold fmF; rw [e3 j (by omega) (by omega)])
            unfold trV
            rw [e4]
            exact ⟨rfl, rfl⟩
          have fin9 : ∀ m9 : Nat → Nat, (0 < k → (∀ j, j < 5 → m9 j ≤ w j) ∧ rkU m9 w 5 0 = i + 1 ∧ (∀ j, j < 5 → k9.2.2.1 tr j = fmF f m9 j) ∧ ∀ q, q < n → (lmF t n q &&& v9) = 0 → k9.2.2.2 u q = Int64.ofInt (frC (fmF f m9) t n q).1 ∧ k9.2.2.2 l q = Int64.ofInt (frC (fmF f m9) t n q).2) → G mX7_findTruth (d + 3) S (f_PV (fun k => TrH k sp f t n w ∧ ¬ k.1 sp 10 = 0 ∧ fOff [sp, tr, wd, u, l] h k)) 39 [(0, .ref sp), (1, .ref pg), (2, .int (nI (prU w 5 0))), (3, .int v9), (4, .int (nI (i + 1)))] [] k9 := by
            intro m9 hm9
            refine ih (i + 1) m9 v9 (if trV f t n 0 m < A then trV f t n 0 m else A) B' k9 (by omega) (o13.tr (o9.mono (by simp))) (by rw [o39.1]; exact q10) (by rw [o39.2.1]; exact q8) (by rw [o39.2.1]; exact q9) (by split <;> omega) bB' ?_ (fun q => by omega) ?_ (fun j hj => by rw [(o9 wd (nd_out nd 2 [1] rfl rfl (by decide))).2.2.1, (o3 wd (nd_out nd 2 [0] rfl rfl (by decide))).2.2.1, owd.2.2.1]; exact gw1 j hj) hm9
            · intro m2 h2 hr
              rcases Nat.lt_or_ge (rkU m2 w 5 0) i with q | q
              · obtain ⟨p1, p2, p3⟩ := hall m2 h2 q
                have p4 := hB3 (by omega)
                exact ⟨p1, by split <;> omega, by omega⟩
              · obtain ⟨p1, p2⟩ := same m2 h2 (by omega)
                rw [p1, p2]
                exact ⟨z, by split <;> omega, hB1⟩
            · intro _
              constructor
              · by_cases q : trV f t n 0 m < A
                · rw [if_pos q]; exact ⟨m, hm, rfl⟩
                · rw [if_neg q]
                  rcases Nat.eq_zero_or_pos i with e0 | e0
                  · have hA := (hz e0).1
                    rw [hA] at q
                    have h16 := tb.2.2.1
                    exfalso
                    clear hpn hv9 hm9 hall hz hB2 hB3 same ih
                    omega
                  · exact (hpn e0).1
              · rcases hB2 with q | ⟨q1, q2⟩
                · exact ⟨m, hm, q⟩
                · rw [q1]; exact (hpn q2).2
          rcases hv9 with ⟨j0, c1, c2, c3, c4, c5⟩ | top
          · refine fin9 (nxM m j0) (fun _ => ⟨fun j hj => ?_, ?_, c4, ?_⟩)
            · have := hm j hj
              simp only [nxM]
              split
              · omega
              · split
                · next e => subst e; omega
                · exact this
            · rw [rk_next 5 0 (by omega) (by omega) (fun q p1 p2 => c2 q p2), hrk]
            · intro q hq hmask
              have hkeep : frC (fmF f (nxM m j0)) t n q = frC (fmF f m) t n q := by
                refine frC_lm hvo q hq (fun j hj hb => ?_)
                have hnb : ¬ j ≤ j0 := by
                  intro hle
                  have : bt (lmF t n q &&& v9) j = true := by rw [b_and, hb, c5 j hj]; simp [hle]
                  rw [hmask, b_0] at this
                  cases this
                unfold fmF nxM
                rw [if_neg (by omega), if_neg (by omega)]
              rw [hkeep, (o9 u (nd_out nd 3 [1] rfl rfl (by decide))).2.2.2, (o9 l (nd_out nd 4 [1] rfl rfl (by decide))).2.2.2, (o3 u (nd_out nd 3 [0] rfl rfl (by decide))).2.2.2, (o3 l (nd_out nd 4 [0] rfl rfl (by decide))).2.2.2]
              exact hval q hq
          · refine fin9 m (fun hk => ?_)
            have := rk_top (m := m) (w := w) 5 0 (fun j p1 p2 => top j (by omega))
            omega
        rw [f29, c9]
        refine ⟨fun y => ?_, fun y => ?_⟩
        · refine nxt k2 B o2 f210 f28 f29 bB (by omega) (Or.inr ⟨rfl, ?_⟩) (fun _ => Int.le_refl _)
          rcases Nat.eq_zero_or_pos i with e0 | e0
          · have := (hz e0).2
            omega
          · exact e0
        · refine ⟨_, s_billionths (d := d + 1) (j := 0) (e := 1) F (by decide) (by rw [(o2 u (nd_out nd 3 [0] rfl rfl (by decide))).2.2.2]; exact (hval 0 hpos).1) (by rw [(o2 l (nd_out nd 4 [0] rfl rfl (by decide))).2.2.2]; exact (hval 0 hpos).2) sm.1 sm.2.1 sm.2.2 (by decide) (by decide), ?_⟩
          rintro _ k2 ⟨rfl, rfl⟩
          rw [ev1]
          rintro k3 hk3
          refine nxt k3 (trV f t n 1 m) ?_ ?_ ?_ ?_ (by omega) (Int.le_refl _) (Or.inl rfl) (fun _ => by omega)
          · rw [hk3]; exact o2.of (f_off_fl _ _ _ _) (by simp)
          · rw [hk3, u_fl_1]; exact f210
          · rw [hk3, u_fl_n _ _ (by decide)]; exact f28
          · rw [hk3, u_fl_s]
      · rintro k2 rfl k3 hk3
        refine ⟨⟨1000000000000000000, 1000000000000000000, ⟨?_, Or.inl ⟨⟨m, hm, z⟩, rfl⟩⟩, ?_, Or.inl ⟨⟨m, hm, ?_⟩, rfl⟩⟩, ?_, ?_⟩
        · rw [hk3, u_fl_n _ _ (by decide), u_fl_s]; rfl
        · rw [hk3, u_fl_s]; rfl
        · rcases tb with q | q
          · exact q.2
          · omega
        · rw [hk3, u_fl_1, u_fl_1, osp.1]; exact g10
        · rw [hk3]; exact (og1.of (f_off_fl _ _ _ _) (by simp)).of (f_off_fl _ _ _ _) (by simp)
  refine NX7_findTruth_0 X.1 ⟨fun z => ?_, fun z => ⟨hfound z, z, fOff.rf⟩⟩
  rintro k1 hk1
  have o1 : fOff [sp] h k1 := by rw [hk1]; exact fOff.rf.of (f_off_fi _ _ _ _) (by simp)
  have f1 : k1.1 sp 10 = 1 := by rw [hk1, u_fi_s]
  clear hk1
  have x1 := x.off o1 (nd_out nd 5 [0] rfl rfl (by decide)) (nd_out nd 6 [0] rfl rfl (by decide)) (nd_out nd 7 [0] rfl rfl (by decide)) (nd_out nd 8 [0] rfl rfl (by decide))
  refine ⟨_, s_startTrials (d := d + 1) (gw := gw) (f := f) X T x1 hpos hpg hnu hsn htr hwd nds (by rw [(o1 nu (nd_out nd 9 [0] rfl rfl (by decide))).2.2.1]; exact hf) (fun j hj => by rw [(o1 sn (nd_out nd 10 [0] rfl rfl (by decide))).2.2.1]; exact hg j hj) hgw, ?_⟩
  rw [hw]
  rintro _ k2 ⟨rfl, ht2, o2⟩
  rintro k3 rfl k4 hk4
  have hP1 := hP.1
  have osp2 := o2 sp (nd_out nd 0 [1, 2] rfl rfl (by decide))
  have o4 : fOff [sp] k2 k4 := by rw [hk4]; exact (fOff.rf.of (f_off_fl _ _ _ _) (by simp)).of (f_off_fl _ _ _ _) (by simp)
  refine key (prU w 5 0) 0 (fun _ => 0) 32 1000000000000000000 (-1000000000000000000) k4 (by omega) (((o1.mono (by simp)).tr (o2.mono (by simp))).tr (o4.mono (by simp))) ?_ ?_ ?_ (by decide) (by decide) (fun m2 _ hr => by omega) (fun _ => ⟨rfl, rfl⟩) (fun q => by omega) (fun j hj => ?_) (fun _ => ⟨fun j _ => Nat.zero_le _, rk_zero 5 0, fun j hj => ?_, fun q hq hmask => absurd hmask (lm_every hvo q hq)⟩)
  · rw [hk4, u_fl_1, u_fl_1, osp2.1, f1]; decide
  · rw [hk4, u_fl_n _ _ (by decide), u_fl_s]; rfl
  · rw [hk4, u_fl_s]; rfl
  · rw [(o4 wd (nd_out nd 2 [0] rfl rfl (by decide))).2.2.1]; exact (ht2 j hj).2
  · rw [(o4 tr (nd_out nd 1 [0] rfl rfl (by decide))).2.2.1, (ht2 j hj).1]
    unfold fmF
    rw [nI_0, Int32.add_zero]
end CT2

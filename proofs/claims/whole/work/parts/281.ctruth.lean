/-! ===== the class's TRUTH ===== -/
theorem nI_mul (a b : Nat) : nI a * nI b = nI (a * b) := by
  rw [← nI_ofInt, ← nI_ofInt, ← nI_ofInt, ← Int32.ofInt_mul, Int.natCast_mul]
/-- how many more each letter of the text may be -/
def wdF (t : Nat → Int32) (n : Nat) (gw : Nat → Nat) (j : Nat) : Nat := if bt (lmF t n 0) j then gw j else 0
def nmS (f : Nat → Int32) : Prop := ∀ j : Nat, j < 5 → -99 ≤ (f j).toInt ∧ (f j).toInt ≤ 99
theorem fm_toInt {f : Nat → Int32} {m : Nat → Nat} {j : Nat} (hf : nmS f) (hj : j < 5) (hm : m j ≤ 5) : (fmF f m j).toInt = (f j).toInt + m j := by
  have := hf j hj
  have e : (nI (m j)).toInt = (m j : Int) := nI_toInt (by omega)
  unfold fmF
  rw [i_add_toInt (by rw [e]; omega) (by rw [e]; omega), e]
theorem fm_nmB {f : Nat → Int32} {m : Nat → Nat} (hf : nmS f) (hm : ∀ j, j < 5 → m j ≤ 5) : nmB (fmF f m) := by
  intro j hj
  rw [fm_toInt hf hj (hm j hj)]
  have := hf j hj
  have := hm j hj
  omega
theorem frC_all {o : Nat → Nat} {f f' t : Nat → Int32} {n i : Nat} (hv : valO o t n) (hi : i < n) (h : ∀ j, j < 5 → f j = f' j) : frC f t n i = frC f' t n i := frC_lm hv i hi (fun j hj _ => h j hj)
section CTRUTH
variable {d : Nat} {S : fW} {h : fH} {sp lw hi ra dn up fr tr wd r a b c nu sn te pg u l n : Nat} {t f g : Nat → Int32} {gw w m : Nat → Nat}
theorem s_startTrials (X : SpS S sp lw hi ra dn up fr tr wd) (T : TxS S r a b c) (x : TxOk h r a b c t n) (hn : 1 ≤ n) (hpg : (pg, shX2 r nu sn te) ∈ S) (hnu : (nu, shI 5) ∈ S) (hsn : (sn, shI 5) ∈ S) (htr : (tr, shI 5) ∈ S) (hwd : (wd, shI 5) ∈ S) (nd : [tr, wd, nu, sn].Nodup)
    (hf : h.2.2.1 nu = f) (hg : ∀ j, j < 5 → h.2.2.1 sn j = nI (gw j)) (hgw : ∀ j, gw j ≤ 5) :
    OkI (d + 1) mX7_startTrials S [.ref sp, .ref pg] h (fun v k => v = nI (prU (wdF t n gw) 5 0) ∧ (∀ j, j < 5 → k.2.2.1 tr j = f j ∧ k.2.2.1 wd j = nI (wdF t n gw j)) ∧ fOff [tr, wd] h k) := by
  have n1 : tr ≠ wd := nd_ne nd 0 1 rfl rfl (by decide)
  have n2 : nu ∉ [tr, wd] := nd_out nd 2 [0, 1] rfl rfl (by decide)
  have n3 : sn ∉ [tr, wd] := nd_out nd 3 [0, 1] rfl rfl (by decide)
  have hw5 : ∀ j, wdF t n gw j ≤ 5 := fun j => by unfold wdF; split; exact hgw j; omega
  have key : ∀ (k i A : Nat) (h1 : fH), k + i = 5 → A ≤ 6 ^ i → A * prU (wdF t n gw) k i = prU (wdF t n gw) 5 0 → fOff [tr, wd] h h1 → (∀ j, j < i → h1.2.2.1 tr j = f j ∧ h1.2.2.1 wd j = nI (wdF t n gw j)) → G mX7_startTrials (d + 1) S (f_PI (fun v k => v = nI (prU (wdF t n gw) 5 0) ∧ (∀ j, j < 5 → k.2.2.1 tr j = f j ∧ k.2.2.1 wd j = nI (wdF t n gw j)) ∧ fOff [tr, wd] h k)) 14 [(0, .ref sp), (1, .ref pg), (2, .int (lmF t n 0)), (3, .int (nI A)), (4, .int (nI i))] [] h1 := by
    intro k
    induction k with
    | zero =>
      intro i A h1 hi hA hp ho hj
      have e : i = 5 := by omega
      subst e
      have hp : A = prU (wdF t n gw) 5 0 := by rw [← hp]; exact (Nat.mul_one A).symm
      exact NX7_startTrials_14 X.1 hpg hnu htr hsn hwd ⟨fun _ => ⟨by rw [hp], hj, ho⟩, fun z => absurd (by decide) z⟩
    | succ k ih =>
      intro i A h1 hi hA hp ho hj
      have hc : (nI i).toNatClampNeg = i := nI_clamp (by omega)
      have hA2 : (6 : Nat) ^ i ≤ 6 ^ 4 := Nat.pow_le_pow_right (by decide) (by omega)
      have hwi := hw5 i
      refine NX7_startTrials_14 X.1 hpg hnu htr hsn hwd ⟨fun z => absurd z (nI_ge (b := 5) (by omega) (by decide)), fun _ => ⟨vp_in_nI (by omega) (by decide), ?_⟩⟩
      rw [hc, (ho nu n2).2.2.1, hf]
      rintro h2 rfl
      have nx : ∀ (x1 : Int32) (h3 : fH), x1 = nI (wdF t n gw i) → h3 = u_ai (u_ai h1 tr (upd (h1.2.2.1 tr) i (f i))) wd (upd ((u_ai h1 tr (upd (h1.2.2.1 tr) i (f i))).2.2.1 wd) i x1) → G mX7_startTrials (d + 1) S (f_PI (fun v k => v = nI (prU (wdF t n gw) 5 0) ∧ (∀ j, j < 5 → k.2.2.1 tr j = f j ∧ k.2.2.1 wd j = nI (wdF t n gw j)) ∧ fOff [tr, wd] h k)) 14 [(0, .ref sp), (1, .ref pg), (2, .int (lmF t n 0)), (3, .int (nI A * (h3.2.2.1 wd i + 1))), (4, .int (nI i + 1))] [] h3 := by
        rintro x1 h3 rfl rfl
        rw [u_ai_s, upd_s, nI1, nI1, nI_mul]
        refine ih (i + 1) (A * (wdF t n gw i + 1)) _ (by omega) ?_ ?_ ((ho.of (f_off_ai _ _ _) (by simp)).of (f_off_ai _ _ _) (by simp)) (fun j hj1 => ?_)
        · rw [Nat.pow_succ]; exact Nat.mul_le_mul hA (by omega)
        · rw [← hp, Nat.mul_assoc]; rfl
        · rw [u_ai_n _ _ n1, u_ai_s, u_ai_s, u_ai_n _ _ (Ne.symm n1)]
          by_cases e : j = i
          · subst e; rw [upd_s, upd_s]; exact ⟨rfl, rfl⟩
          · rw [upd_n _ _ e, upd_n _ _ e]; exact hj j (by omega)
      rw [b_mask (by omega)]
      refine ⟨fun z => ?_, fun z => ?_⟩
      · have z : bt (lmF t n 0) i = true := by cases q : bt (lmF t n 0) i; exact absurd q z; rfl
        rintro h3 e3
        refine nx _ h3 ?_ e3
        rw [u_ai_n _ _ (by intro e; exact n3 (by simp [e])), (ho sn n3).2.2.1, hg i (by omega)]
        unfold wdF; rw [if_pos z]
      · rintro h3 e3
        refine nx _ h3 ?_ e3
        unfold wdF; rw [z]; rfl
  refine NX7_startTrials_0 hpg T.1.1 ⟨_, s_lettersOf (j := 0) T x.1 x.2.1 (by decide), ?_⟩
  rintro _ h ⟨rfl, rfl⟩
  rw [if_pos (by omega), x.2.2.2.2 0 (by omega)]
  exact key 5 0 1 h (by decide) (by decide) (by rw [Nat.one_mul]) fOff.rf (fun j hj => by omega)
theorem s_nextTrial (X : SpS S sp lw hi ra dn up fr tr wd) (hnu : (nu, shI 5) ∈ S) (htr : (tr, shI 5) ∈ S) (hwd : (wd, shI 5) ∈ S) (nd : [tr, wd, nu].Nodup) (hf : h.2.2.1 nu = f) (hfS : nmS f)
    (ht : ∀ j, j < 5 → h.2.2.1 tr j = fmF f m j) (hw : ∀ j, j < 5 → h.2.2.1 wd j = nI (w j)) (hw5 : ∀ j, w j ≤ 5) (hm : ∀ j, j < 5 → m j ≤ w j) :
    OkI d mX7_nextTrial S [.ref sp, .ref nu] h (fun v k => ((∃ j, j < 5 ∧ (∀ q, q < j → m q = w q) ∧ m j < w j ∧ (∀ q, q < 5 → k.2.2.1 tr q = fmF f (nxM m j) q) ∧ ∀ q, q < 5 → bt v q = decide (q ≤ j)) ∨ ∀ q, q < 5 → m q = w q) ∧ fOff [tr] h k) := by
  have n1 : wd ∉ [tr] := nd_out nd 1 [0] rfl rfl (by decide)
  have n2 : nu ∉ [tr] := nd_out nd 2 [0] rfl rfl (by decide)
  refine NX7_nextTrial_0 ?_
  have key : ∀ (k i : Nat) (v : Int32) (h1 : fH), k + i = 5 → fOff [tr] h h1 → (∀ q, q < i → m q = w q) → (∀ q, q < 5 → h1.2.2.1 tr q = if q < i then f q else fmF f m q) → (∀ q, q < 5 → bt v q = decide (q < i)) → G mX7_nextTrial d S (f_PI (fun v k => ((∃ j, j < 5 ∧ (∀ q, q < j → m q = w q) ∧ m j < w j ∧ (∀ q, q < 5 → k.2.2.1 tr q = fmF f (nxM m j) q) ∧ ∀ q, q < 5 → bt v q = decide (q ≤ j)) ∨ ∀ q, q < 5 → m q = w q) ∧ fOff [tr] h k)) 4 [(0, .ref sp), (1, .ref nu), (2, .int v), (3, .int (nI i))] [] h1 := by
    intro k
    induction k with
    | zero =>
      intro i v h1 hi ho hq ht1 hb
      have e : i = 5 := by omega
      subst e
      exact NX7_nextTrial_4 hnu X.1 htr hwd ⟨fun _ => ⟨Or.inr hq, ho⟩, fun z => absurd (by decide) z⟩
    | succ k ih =>
      intro i v h1 hi ho hq ht1 hb
      have hc : (nI i).toNatClampNeg = i := nI_clamp (by omega)
      have hmi := hm i (by omega)
      have hwi := hw5 i
      refine NX7_nextTrial_4 hnu X.1 htr hwd ⟨fun z => absurd z (nI_ge (b := 5) (by omega) (by decide)), fun _ => ⟨fun z => absurd z (nI_ge (b := 5) (by omega) (by decide)), fun _ => ⟨vp_in_nI (by omega) (by decide), vp_in_nI (by omega) (by decide), ?_⟩⟩⟩
      have e1 : h1.2.2.1 tr i = fmF f m i := by rw [ht1 i (by omega), if_neg (by omega)]
      rw [hc, e1, (ho nu n2).2.2.1, hf, (ho wd n1).2.2.1, hw i (by omega)]
      have ew : (f i + nI (w i)).toInt = (f i).toInt + w i := fm_toInt (m := w) hfS (by omega) hwi
      have em : (fmF f m i).toInt = (f i).toInt + m i := fm_toInt hfS (by omega) (by omega)
      have cmp : (f i + nI (w i) ≤ fmF f m i) ↔ w i ≤ m i := by
        rw [Int32.le_iff_toInt_le, ew, em]; omega
      have hbit : ∀ q, q < 5 → bt (v ||| ((1 : Int32) <<< (nI i &&& 31))) q = decide (q ≤ i) := by
        intro q hq5
        rw [b_set (by omega) (by omega), hb q hq5]
        by_cases c1 : q < i
        · simp [c1, show q ≤ i by omega]
        · by_cases c2 : q = i
          · subst c2; simp
          · simp [c1, c2, show ¬ q ≤ i by omega]
      rw [cmp]
      refine ⟨fun z => ?_, fun z => ?_⟩
      · rintro h2 rfl
        rw [nI1]
        refine ih (i + 1) _ _ (by omega) (ho.of (f_off_ai _ _ _) (by simp)) (fun q hq1 => ?_) (fun q hq5 => ?_) (fun q hq5 => ?_)
        · by_cases e : q = i
          · subst e; omega
          · exact hq q (by omega)
        · rw [u_ai_s]
          by_cases e : q = i
          · subst e; rw [upd_s, if_pos (by omega)]
          · rw [upd_n _ _ e, ht1 q hq5]
            by_cases c1 : q < i
            · rw [if_pos c1, if_pos (by omega)]
            · rw [if_neg c1, if_neg (by omega)]
        · rw [hbit q hq5]
          congr 1
          apply propext; omega
      · rintro h2 rfl
        refine ⟨Or.inl ⟨i, by omega, hq, by omega, fun q hq5 => ?_, hbit⟩, ho.of (f_off_ai _ _ _) (by simp)⟩
        rw [u_ai_s]
        by_cases e : q = i
        · subst e
          rw [upd_s]
          unfold fmF nxM
          rw [if_neg (by omega), if_pos rfl, Int32.add_assoc, nI1]
        · rw [upd_n _ _ e, ht1 q hq5]
          unfold fmF nxM
          by_cases c1 : q < i
          · rw [if_pos c1, if_pos c1, nI_0, Int32.add_zero]
          · rw [if_neg c1, if_neg c1, if_neg e]
  exact key 5 0 0 h (by decide) fOff.rf (fun q hq => by omega) (fun q hq => by rw [if_neg (by omega)]; exact ht q hq) (fun q hq => by rw [b_0]; simp)
end CTRUTH

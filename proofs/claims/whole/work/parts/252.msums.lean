/-! ===== the reference's sums ===== -/
/-- the reference's digits and way -/
def MDW (h : fH) (D W : Nat) : Prop := (h.1 1 0 = nI D ∧ h.1 1 1 = nI W) ∧ 1 ≤ D ∧ D ≤ 4 ∧ W ≤ 3
theorem nin_of {l : List Nat} {x : Nat} (h : l.contains x = false) : x ∉ l := fun z => by rw [List.contains_iff_mem.mpr z] at h; cases h
theorem MDW.of {h k : fH} {D W : Nat} {p : fL} (a : MDW h D W) (b : mF p h k) (h1 : p.1.contains 0 = false) (h2 : p.1.contains 1 = false) : MDW k D W :=
  ⟨⟨by rw [b.1 _ (nin_of h1)]; exact a.1.1, by rw [b.1 _ (nin_of h2)]; exact a.1.2⟩, a.2⟩
/-- the reference's terms -/
def MTm (h : fH) (T : Nat → Int64) (n : Nat) : Prop := (h.1 1 22 = nI n ∧ ∀ j, j < n → h.2.2.2 13 j = T j) ∧ n ≤ 7 ∧ ∀ j, j < n → dcm (T j)
theorem MTm.of {h k : fH} {T : Nat → Int64} {n : Nat} {p : fL} (a : MTm h T n) (b : mF p h k) (h1 : p.1.contains 22 = false) (h2 : p.2.2.2.contains 13 = false) : MTm k T n :=
  ⟨⟨by rw [b.1 _ (nin_of h1)]; exact a.1.1, fun j hj => by rw [b.2.2.2 _ (nin_of h2)]; exact a.1.2 j hj⟩, a.2⟩
/-- the reference's order -/
def MOr (h : fH) (o : Nat → Nat) (n : Nat) : Prop := ∀ j, j < n → h.2.2.1 14 j = nI (o j) ∧ o j < n
theorem MOr.of {h k : fH} {o : Nat → Nat} {n : Nat} {p : fL} (a : MOr h o n) (b : mF p h k) (h2 : p.2.2.1.contains 14 = false) : MOr k o n :=
  fun j hj => ⟨by rw [b.2.2.1 _ (nin_of h2)]; exact (a j hj).1, (a j hj).2⟩
section MSUMS
variable {d : Nat} {h : fH} {D W n : Nat} {T : Nat → Int64} {o : Nat → Nat}
theorem s_mpl {a b : Int64} (x : MDW h D W) (ha : dcmG a) (hb : dcmG b) : OkL (d + 3) mX12_made SM [.ref 1, .int 43, .long a, .long b, .int (h.1 1 1), .int 0] h (fun v k => v = plF' D W a b ∧ mF fScr h k) := by
  rw [x.1.2]
  refine (s_made (D := D) (W := W) (tiny := false) (d := d) hMi x.1.1 x.2.1 x.2.2.1 x.2.2.2 (Or.inl rfl) ha hb).post ?_
  rintro v k ⟨e, hk⟩
  exact ⟨e, mF.scr hk⟩
theorem s_mmi {a b : Int64} (x : MDW h D W) (ha : dcmG a) (hb : dcmG b) : OkL (d + 3) mX12_made SM [.ref 1, .int 45, .long a, .long b, .int (h.1 1 1), .int 0] h (fun v k => v = miF' D W a b ∧ mF fScr h k) := by
  rw [x.1.2]
  refine (s_made (D := D) (W := W) (tiny := false) (d := d) hMi x.1.1 x.2.1 x.2.2.1 x.2.2.2 (Or.inr (Or.inl rfl)) ha hb).post ?_
  rintro v k ⟨e, hk⟩
  exact ⟨e, mF.scr hk⟩
theorem s_layOrder (t : MTm h T n) : OkV d mX12_layOrder SM [.ref 1] h (fun k => MOr k id n ∧ mF ([], [], [14], []) h k) := by
  have h7 := t.2.1
  refine NX12_layOrder_0 ?_
  have key : ∀ (m i : Nat) (k1 : fH), m + i = n → mF ([], [], [14], []) h k1 → (∀ j, j < i → k1.2.2.1 14 j = nI j) → G mX12_layOrder d SM (f_PV (fun k => MOr k id n ∧ mF ([], [], [14], []) h k)) 2 [(0, .ref 1), (1, .int (nI i))] [] k1 := by
    intro m
    induction m with
    | zero =>
      intro i k1 hi hf hs
      have e : i = n := by omega
      subst e
      refine NX12_layOrder_2 hM hM14 ⟨fun _ => ⟨fun j hj => ⟨hs j hj, hj⟩, hf⟩, fun z => absurd ?_ z⟩
      rw [(t.of hf (by decide) (by decide)).1.1]
      exact Int32.le_refl _
    | succ m ih =>
      intro i k1 hi hf hs
      refine NX12_layOrder_2 hM hM14 ⟨fun z => absurd z ?_, fun _ => ⟨vp_in_nI (by omega) (by decide), ?_⟩⟩
      · rw [(t.of hf (by decide) (by decide)).1.1]
        exact nI_ge (by omega) (by omega)
      · rintro k2 rfl
        rw [nI1, nI_clamp (by omega)]
        refine ih (i + 1) _ (by omega) (hf.ai (by decide)) ?_
        intro j hj
        rw [u_ai_s]
        by_cases e : j = i
        · subst e; rw [upd_s]
        · rw [upd_n _ _ e]; exact hs j (by omega)
  exact key n 0 h (by omega) mF.rf (fun j hj => by omega)
theorem s_sumOf {a b : Nat} (x : MDW h D W) (t : MTm h T n) (q : MOr h o n) (hab : a < b) (hb : b ≤ n) : OkL (d + 4) mX12_sumOf SM [.ref 1, .int (nI a), .int (nI b)] h (fun y k => y = smA D W T o a b ∧ mF fScr h k) := by
  have h7 := t.2.1
  have hD1 := x.2.1
  have hD4 := x.2.2.1
  have hTo : ∀ j, j < n → dcm (T (o j)) := fun j hj => t.2.2 _ (q j hj).2
  have key : ∀ (m i : Nat) (sv : Int64) (k1 : fH), m + i = b → dcmG sv → mF fScr h k1 → smF D W T o m i sv = smA D W T o a b → G mX12_sumOf (d + 4) SM (f_PL (fun y k => y = smA D W T o a b ∧ mF fScr h k)) 17 [(0, .ref 1), (2, .int (nI b)), (3, .long sv), (5, .int (nI i))] [] k1 := by
    intro m
    induction m with
    | zero =>
      intro i sv k1 hi hd hf he
      have e : i = b := by omega
      subst e
      exact NX12_sumOf_17 hM hM14 hM13 ⟨fun _ => ⟨he, hf⟩, fun z => absurd (Int32.le_refl _) z⟩
    | succ m ih =>
      intro i sv k1 hi hd hf he
      have qk := q.of hf (by decide) i (by omega)
      refine NX12_sumOf_17 hM hM14 hM13 ⟨fun z => absurd z (nI_ge (by omega) (by omega)), fun _ => ⟨vp_in_nI (by omega) (by decide), ?_⟩⟩
      rw [nI_clamp (n := i) (by omega), qk.1]
      refine ⟨vp_in_nI (by omega) (by decide), ?_⟩
      rw [nI_clamp (by omega), (t.of hf (by decide) (by decide)).1.2 _ qk.2, nI1]
      refine ⟨_, s_mpl (d := d) (x.of hf (by decide) (by decide)) hd (Or.inr (hTo i (by omega))), ?_⟩
      rintro _ k2 ⟨rfl, hk2⟩
      exact ih (i + 1) _ k2 (by omega) (plF'_dcm hD1 hD4 hd (Or.inr (hTo i (by omega)))) (hf.go hk2 (by decide)) he
  have qa := q a (by omega)
  refine NX12_sumOf_0 hM hM14 hM13 ⟨vp_in_nI (by omega) (by decide), ?_⟩
  rw [nI_clamp (n := a) (by omega), qa.1]
  refine ⟨vp_in_nI (by omega) (by decide), ?_⟩
  rw [nI_clamp (by omega), t.1.2 _ qa.2, nI1]
  exact key (b - a - 1) (a + 1) _ h (by omega) (Or.inr (hTo a (by omega))) mF.rf rfl
theorem s_wholeSum (t : MTm h T n) : OkL d mX12_wholeSum SM [.ref 1] h (fun y k => y = whF T n ∧ k = h) := by
  have h7 := t.2.1
  refine NX12_wholeSum_0 ?_
  have key : ∀ m i, m + i = n → G mX12_wholeSum d SM (f_PL (fun y k => y = whF T n ∧ k = h)) 4 [(0, .ref 1), (1, .long (whF T i)), (3, .int (nI i))] [] h := by
    intro m
    induction m with
    | zero =>
      intro i hi
      have e : i = n := by omega
      subst e
      exact NX12_wholeSum_4 hM hM13 ⟨fun _ => ⟨rfl, rfl⟩, fun z => absurd (by rw [t.1.1]; exact Int32.le_refl _) z⟩
    | succ m ih =>
      intro i hi
      refine NX12_wholeSum_4 hM hM13 ⟨fun z => absurd z (by rw [t.1.1]; exact nI_ge (by omega) (by omega)), fun _ => ⟨vp_in_nI (by omega) (by decide), ?_⟩⟩
      rw [nI_clamp (by omega), t.1.2 i (by omega), nI1]
      exact ih (i + 1) (by omega)
  exact key n 0 (by omega)
theorem s_mbeside (x : MDW h D W) (t : MTm h T n) : OkL (d + 4) mX12_beside SM [.ref 1] h (fun y k => y = bsF D W T n 0 0 0 ∧ mF fScr h k) := by
  have h7 := t.2.1
  have hD1 := x.2.1
  have hD4 := x.2.2.1
  have hT := t.2.2
  refine NX12_beside_0 ?_
  have d0 : dcmG 0 := Or.inr ⟨by decide, by decide⟩
  have key : ∀ (m i : Nat) (sv cv : Int64) (k1 : fH), m + i = n → dcmG sv → dcmG cv → mF fScr h k1 → bsF D W T m i sv cv = bsF D W T n 0 0 0 → G mX12_beside (d + 4) SM (f_PL (fun y k => y = bsF D W T n 0 0 0 ∧ mF fScr h k)) 7 [(0, .ref 1), (1, .long sv), (3, .long cv), (5, .int (nI i))] [] k1 := by
    intro m
    induction m with
    | zero =>
      intro i sv cv k1 hi hd hd2 hf he
      have e : i = n := by omega
      subst e
      refine NX12_beside_7 hM hM13 ⟨fun _ => ⟨he, hf⟩, fun z => absurd ?_ z⟩
      rw [(t.of hf (by decide) (by decide)).1.1]; exact Int32.le_refl _
    | succ m ih =>
      intro i sv cv k1 hi hd hd2 hf he
      have tk := t.of hf (by decide) (by decide)
      refine NX12_beside_7 hM hM13 ⟨fun z => absurd z (by rw [tk.1.1]; exact nI_ge (by omega) (by omega)), fun _ => ⟨vp_in_nI (by omega) (by decide), ?_⟩⟩
      rw [nI_clamp (by omega), tk.1.2 i (by omega), nI1]
      have e1 : dcmG (miF' D W (T i) cv) := miF'_dcm hD1 hD4 (Or.inr (hT i (by omega))) hd2
      have e2 : dcmG (plF' D W sv (miF' D W (T i) cv)) := plF'_dcm hD1 hD4 hd e1
      have e3 := miF'_dcm (D := D) (W := W) hD1 hD4 e2 hd
      have e4 := miF'_dcm (D := D) (W := W) hD1 hD4 e3 e1
      have xk := x.of hf (by decide) (by decide)
      refine ⟨_, s_mmi (d := d) xk (Or.inr (hT i (by omega))) hd2, ?_⟩
      rintro _ k2 ⟨rfl, hk2⟩
      have xk := xk.of hk2 (by decide) (by decide)
      refine ⟨_, s_mpl (d := d) xk hd e1, ?_⟩
      rintro _ k3 ⟨rfl, hk3⟩
      have xk := xk.of hk3 (by decide) (by decide)
      refine ⟨_, s_mmi (d := d) xk e2 hd, ?_⟩
      rintro _ k4 ⟨rfl, hk4⟩
      have xk := xk.of hk4 (by decide) (by decide)
      refine ⟨_, s_mmi (d := d) xk e3 e1, ?_⟩
      rintro _ k5 ⟨rfl, hk5⟩
      have hk : mF fScr h k5 := ((hf.tr hk2).tr (hk3.tr hk4)).tr hk5
      simp only [bsF] at he
      refine ⟨fun y => ?_, fun y => ⟨fun y2 => ?_, fun y2 => ?_⟩⟩
      · rw [y, miF'_g, miF'_g, if_pos rfl] at he
        exact ⟨he, hk⟩
      · rw [if_neg y2] at he
        exact ih (i + 1) _ _ k5 (by omega) e2 e4 hk he
      · rw [if_pos y2] at he
        exact ⟨he, hk⟩
  exact key n 0 0 0 h (by omega) d0 d0 mF.rf rfl
theorem s_halfOf {a b : Nat} (x : MDW h D W) (t : MTm h T n) (q : MOr h id n) (hab : a < b) (hb : b ≤ n) : OkL (d + 5) mX12_halfOf SM [.ref 1, .int (nI a), .int (nI b)] h (fun y k => y = hoF D W T a b ∧ mF fScr h k) := by
  have h7 := t.2.1
  refine NX12_halfOf_0 hM ?_
  rw [pk_sub (by omega)]
  refine ⟨fun y => ?_, fun y => ?_⟩
  · have y : ¬ b - a = 4 := fun w => y (by rw [w]; rfl)
    refine ⟨_, s_sumOf (d := d) x t q hab hb, ?_⟩
    rintro _ k1 ⟨rfl, hk1⟩
    exact ⟨by unfold hoF; rw [if_neg y], hk1⟩
  · have y : b - a = 4 := (nI_eq (b := 4) (by omega) (by decide)).mp y
    rw [show (2 : Int32) = nI 2 from rfl, nI_add]
    refine ⟨_, s_sumOf (d := d) x t q (by omega) (by omega), ?_⟩
    rintro _ k1 ⟨rfl, hk1⟩
    refine ⟨_, s_sumOf (d := d) (x.of hk1 (by decide) (by decide)) (t.of hk1 (by decide) (by decide)) (q.of hk1 (by decide)) (by omega) hb, ?_⟩
    rintro _ k2 ⟨rfl, hk2⟩
    have hTo : ∀ j, j < n → dcm (T (id j)) := t.2.2
    refine ⟨_, s_mpl (d := d + 1) (x.of (hk1.tr hk2) (by decide) (by decide)) (smA_dcm x.2.1 x.2.2.1 hTo (by omega) (by omega)) (smA_dcm x.2.1 x.2.2.1 hTo (by omega) hb), ?_⟩
    rintro _ k3 ⟨rfl, hk3⟩
    exact ⟨by unfold hoF; rw [if_pos y], (hk1.tr hk2).tr hk3⟩
theorem hoF_dcm {a b : Nat} (x : MDW h D W) (t : MTm h T n) (hab : a < b) (hb : b ≤ n) : dcmG (hoF D W T a b) := by
  have hTo : ∀ j, j < n → dcm (T (id j)) := t.2.2
  unfold hoF
  split
  · exact plF'_dcm x.2.1 x.2.2.1 (smA_dcm x.2.1 x.2.2.1 hTo (by omega) (by omega)) (smA_dcm x.2.1 x.2.2.1 hTo (by omega) hb)
  · exact smA_dcm x.2.1 x.2.2.1 hTo hab hb
theorem s_mhalves (x : MDW h D W) (t : MTm h T n) (q : MOr h id n) (hn : 1 ≤ n) : OkL (d + 6) mX12_halves SM [.ref 1] h (fun y k => y = hfF D W T 3 0 n ∧ mF fScr h k) := by
  have h7 := t.2.1
  refine NX12_halves_0 hM ?_
  rw [t.1.1, nI1, show (2 : Int32) = nI 2 from rfl, pk_div (by omega) (by decide) (by decide)]
  refine ⟨_, s_halfOf (d := d) (a := 0) x t q (by omega) (by omega), ?_⟩
  rintro _ k1 ⟨rfl, hk1⟩
  have tk := t.of hk1 (by decide) (by decide)
  rw [tk.1.1, hfF_is hn h7]
  refine ⟨fun y => ?_, fun y => ?_⟩
  · have y : ¬ (n + 1) / 2 = n := fun w => y (by rw [w])
    refine ⟨_, s_halfOf (d := d) (x.of hk1 (by decide) (by decide)) tk (q.of hk1 (by decide)) (by omega) (Nat.le_refl n), ?_⟩
    rintro _ k2 ⟨rfl, hk2⟩
    refine ⟨_, s_mpl (d := d + 2) (x.of (hk1.tr hk2) (by decide) (by decide)) (hoF_dcm x t (by omega) (by omega)) (hoF_dcm x t (by omega) (Nat.le_refl n)), ?_⟩
    rintro _ k3 ⟨rfl, hk3⟩
    exact ⟨by rw [if_neg y], (hk1.tr hk2).tr hk3⟩
  · have y : (n + 1) / 2 = n := (nI_eq (by omega) (by omega)).mp y
    exact ⟨by rw [if_pos y], hk1⟩
abbrev fOr : fL := ([], [], [14], [])
theorem s_orderBySize (t : MTm h T n) (q0 : MOr h id n) (hn : 1 ≤ n) : OkV (d + 1) mX12_orderBySize SM [.ref 1] h (fun k => MOr k (bzF T n) n ∧ mF fOr h k) := by
  have h7 := t.2.1
  refine NX12_orderBySize_0 ?_
  -- the outer loop's next turn
  have ins : ∀ (i : Nat), i < n → (∀ (k2 : fH), mF fOr h k2 → (∀ j, j ≤ i → k2.2.2.1 14 j = nI (bzF T (i + 1) j)) → (∀ j, i < j → j < n → k2.2.2.1 14 j = nI j) → G mX12_orderBySize (d + 1) SM (f_PV (fun k => MOr k (bzF T n) n ∧ mF fOr h k)) 2 [(0, .ref 1), (1, .int (nI (i + 1)))] [] k2) →
      ∀ (q : Nat) (P1 : Nat → Nat) (k1 : fH), q ≤ i → mF fOr h k1 → (∀ j, j ≤ i → j ≠ q → k1.2.2.1 14 j = nI (P1 j) ∧ P1 j < n) → (∀ j, i < j → j < n → k1.2.2.1 14 j = nI j) → insF T i q P1 = bzF T (i + 1) → G mX12_orderBySize (d + 1) SM (f_PV (fun k => MOr k (bzF T n) n ∧ mF fOr h k)) 19 [(0, .ref 1), (1, .int (nI i)), (2, .int (nI i)), (3, .int (nI q))] [] k1 := by
    intro i hi K q
    induction q with
    | zero =>
      intro P1 k1 hq hf hj hj2 he
      refine NX12_orderBySize_19 hM hM14 hM13 ⟨fun _ => ⟨vp_in_nI (by omega) (by decide), ?_⟩, fun z => absurd (by decide) z⟩
      rintro k2 rfl
      rw [nI1, nI_clamp (by omega)]
      refine K _ (hf.ai (by decide)) (fun j hji => ?_) (fun j h1 h2 => ?_)
      · rw [u_ai_s, ← he]
        simp only [insF, stF]
        by_cases e : j = 0
        · subst e; rw [upd_s, if_pos rfl]
        · rw [upd_n _ _ e, if_neg e]; exact (hj j hji e).1
      · rw [u_ai_s, upd_n _ _ (by omega)]; exact hj2 j h1 h2
    | succ q ih =>
      intro P1 k1 hq hf hj hj2 he
      have hq1 := hj q (by omega) (by omega)
      have tk := t.of hf (by decide) (by decide)
      refine NX12_orderBySize_19 hM hM14 hM13 ⟨fun z => absurd z (nI_nle (by omega) (by omega)), fun _ => ?_⟩
      rw [nI_pred, nI_clamp (n := q) (by omega), nI_clamp (n := q + 1) (by omega), nI_clamp (n := i) (by omega), hq1.1]
      refine ⟨vp_in_nI (by omega) (by decide), vp_in_nI (by omega) (by decide), ?_⟩
      rw [nI_clamp (by omega), tk.1.2 _ hq1.2]
      refine ⟨_, s_size, ?_⟩
      rintro _ k1 ⟨rfl, rfl⟩
      refine ⟨vp_in_nI (by omega) (by decide), ?_⟩
      rw [tk.1.2 i hi]
      refine ⟨_, s_size, ?_⟩
      rintro _ k1 ⟨rfl, rfl⟩
      refine ⟨fun y => ⟨vp_in_nI (by omega) (by decide), ?_⟩, fun y => ⟨vp_in_nI (by omega) (by decide), ?_⟩⟩
      · rintro k2 rfl
        rw [nI1]
        refine K _ (hf.ai (by decide)) (fun j hji => ?_) (fun j h1 h2 => ?_)
        · rw [u_ai_s, ← he]
          simp only [insF, if_pos y, stF]
          by_cases e : j = q + 1
          · subst e; rw [upd_s, if_pos rfl]
          · rw [upd_n _ _ e, if_neg e]; exact (hj j hji e).1
        · rw [u_ai_s, upd_n _ _ (by omega)]; exact hj2 j h1 h2
      · rintro k2 rfl
        rw [i_dn, i_pred, hq1.1]
        refine ih (stF P1 (q + 1) (P1 q)) _ (by omega) (hf.ai (by decide)) ?_ ?_ ?_
        · intro j hji hne
          rw [u_ai_s]
          simp only [stF]
          by_cases e : j = q + 1
          · subst e; rw [upd_s, if_pos rfl]; exact ⟨rfl, hq1.2⟩
          · rw [upd_n _ _ e, if_neg e]; exact hj j hji e
        · intro j h1 h2
          rw [u_ai_s, upd_n _ _ (by omega)]; exact hj2 j h1 h2
        · rw [← he]
          simp only [insF, if_neg y]
  have key : ∀ (m i : Nat) (k1 : fH), m + i = n → 1 ≤ i → mF fOr h k1 → (∀ j, j < i → k1.2.2.1 14 j = nI (bzF T i j)) → (∀ j, i ≤ j → j < n → k1.2.2.1 14 j = nI j) → G mX12_orderBySize (d + 1) SM (f_PV (fun k => MOr k (bzF T n) n ∧ mF fOr h k)) 2 [(0, .ref 1), (1, .int (nI i))] [] k1 := by
    intro m
    induction m with
    | zero =>
      intro i k1 hi h1 hf hs hs2
      have e : i = n := by omega
      subst e
      refine NX12_orderBySize_2 hM hM14 ⟨fun _ => ⟨fun j hj => ⟨hs j hj, bzF_lt T i j hj⟩, hf⟩, fun z => absurd ?_ z⟩
      rw [(t.of hf (by decide) (by decide)).1.1]; exact Int32.le_refl _
    | succ m ih =>
      intro i k1 hi h1 hf hs hs2
      refine NX12_orderBySize_2 hM hM14 ⟨fun z => absurd z ?_, fun _ => ⟨vp_in_nI (by omega) (by decide), ?_⟩⟩
      · rw [(t.of hf (by decide) (by decide)).1.1]; exact nI_ge (by omega) (by omega)
      · rw [nI_clamp (by omega), hs2 i (by omega) (by omega)]
        refine ins i (by omega) (fun k2 f2 a2 c2 => ih (i + 1) k2 (by omega) (by omega) f2 (fun j hj => a2 j (by omega)) (fun j p1 p2 => c2 j (by omega) p2)) i (bzF T i) k1 (Nat.le_refl i) hf (fun j p1 p2 => ⟨hs j (by omega), by have := bzF_lt T i j (by omega); omega⟩) (fun j p1 p2 => hs2 j (by omega) p2) rfl
  refine key (n - 1) 1 h (by omega) (by decide) mF.rf (fun j hj => ?_) (fun j h1 h2 => (q0 j h2).1)
  have e : j = 0 := by omega
  subst e
  rw [(q0 0 (by omega)).1]
  rfl
end MSUMS

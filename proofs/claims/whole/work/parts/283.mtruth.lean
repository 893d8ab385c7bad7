/-! ===== the reference's TRUTH ===== -/
theorem c97 : ∀ j, j < 5 → isLetB (97 + nI j) = true ∧ isOpB (97 + nI j) = false ∧ (97 + nI j) - 97 = nI j := by decide +kernel
theorem b_32 : ∀ j, j < 5 → bt 32 j = false := by decide +kernel
/-- a part's letters are those that stand in it -/
theorem lm_pos {o : Nat → Nat} {t : Nat → Int32} {n : Nat} (hv : valO o t n) {j : Nat} (hj : j < 5) : ∀ i, i < n → (bt (lmF t n i) j = true ↔ ∃ q, i ≤ q ∧ q < i + sz t n i ∧ t q = 97 + nI j) := by
  obtain ⟨k1, k2, k3⟩ := c97 j hj
  refine right_ind n (fun i hi ih => ?_)
  cases c : isOpB (t i)
  · have em : lmF t n i = lmL (t i) := ev_leaf c
    rw [em, sz_leaf c]
    unfold lmL
    by_cases hL : isLetB (t i) = true
    · obtain ⟨k, hk, q1, q2, q3⟩ := let_at hL
      rw [if_pos hL, q1, b_or, b_one (by omega) (by omega), b_32 j hj]
      constructor
      · intro e
        simp at e
        subst e
        refine ⟨i, Nat.le_refl i, by omega, ?_⟩
        rw [← q1, Int32.add_comm, Int32.sub_add_cancel]
      · rintro ⟨q, p1, p2, p3⟩
        have : q = i := by omega
        subst this
        rw [p3, k3, nI_eq (by omega) (by omega)] at q1
        simp [q1]
    · rw [if_neg hL, b_32 j hj]
      constructor
      · intro e; cases e
      · rintro ⟨q, p1, p2, p3⟩
        have : q = i := by omega
        subst this
        rw [p3] at hL
        exact absurd k1 hL
  · obtain ⟨h1, h2⟩ := op_in hv hi c
    have hp := sz_pos t n (i + 1)
    have em : lmF t n i = (lmF t n (i + 1) ||| lmF t n (i + 1 + sz t n (i + 1))) := ev_op (op := fun _ x y => x ||| y) hv hi c
    rw [em, b_or, Bool.or_eq_true, ih (i + 1) (by omega) h1, ih _ (by omega) h2, sz_op hv hi c]
    constructor
    · rintro (⟨q, p1, p2, p3⟩ | ⟨q, p1, p2, p3⟩)
      · exact ⟨q, by omega, by omega, p3⟩
      · exact ⟨q, by omega, by omega, p3⟩
    · rintro ⟨q, p1, p2, p3⟩
      by_cases e : q = i
      · subst e; rw [p3, k2] at c; cases c
      · by_cases e2 : q < i + 1 + sz t n (i + 1)
        · exact Or.inl ⟨q, by omega, e2, p3⟩
        · exact Or.inr ⟨q, by omega, by omega, p3⟩
theorem sz_whole {o : Nat → Nat} {t : Nat → Int32} {n : Nat} (hv : valO o t n) (hn : 1 ≤ n) : sz t n 0 = n := by
  have h1 := sz_le hv (show 0 < n by omega)
  have h2 := sz_o hv (show 0 < n by omega)
  rw [hv.1, Nat.zero_add] at h2
  rcases Nat.lt_or_ge (sz t n 0) n with z | z
  · have := (hv.2.2 _ z).1
    omega
  · omega
section MTRUTH
variable {d : Nat} {h : fH} {n : Nat} {t f : Nat → Int32} {gw m : Nat → Nat}
theorem s_isIn {j : Nat} (h13 : n ≤ 13) (hn : 1 ≤ n) (hN : MNow h t n) (hv : ∃ o, valO o t n) (hj : j < 5) : OkI d mX12_isIn SM [.ref 1, .int (nI j)] h (fun v k => v = bI (bt (lmF t n 0) j) ∧ k = h) := by
  obtain ⟨o, hvo⟩ := hv
  have hl := lm_pos hvo hj 0 (by omega)
  rw [sz_whole hvo hn, Nat.zero_add] at hl
  refine NX12_isIn_0 ?_
  have key : ∀ (k i : Nat) (b : Bool), k + i = n → (b = true ↔ ∃ q, q < i ∧ t q = 97 + nI j) → G mX12_isIn d SM (f_PI (fun v k => v = bI (bt (lmF t n 0) j) ∧ k = h)) 4 [(0, .ref 1), (1, .int (nI j)), (2, .int (bI b)), (3, .int (nI i))] [] h := by
    intro k
    induction k with
    | zero =>
      intro i b hi hb
      have e : i = n := by omega
      subst e
      refine NX12_isIn_4 hM hM6 ⟨fun _ => ⟨bI_01 b, ?_, rfl⟩, fun z => absurd (by rw [hN.1]; exact Int32.le_refl _) z⟩
      congr 1
      have : b = true ↔ bt (lmF t i 0) j = true := by
        rw [hb, hl]
        constructor
        · rintro ⟨q, p1, p2⟩; exact ⟨q, by omega, p1, p2⟩
        · rintro ⟨q, _, p1, p2⟩; exact ⟨q, p1, p2⟩
      cases b <;> cases hq : bt (lmF t i 0) j <;> simp_all
    | succ k ih =>
      intro i b hi hb
      refine NX12_isIn_4 hM hM6 ⟨fun z => absurd z (by rw [hN.1]; exact nI_ge (by omega) (by omega)), fun _ => ?_⟩
      rw [nI1]
      refine ⟨fun z => ?_, fun z => ⟨vp_in_nI (by omega) (by decide), ?_⟩⟩
      · have z := bI_n0.mp z
        refine ih (i + 1) true (by omega) ⟨fun _ => ?_, fun _ => rfl⟩
        obtain ⟨q, p1, p2⟩ := hb.mp z
        exact ⟨q, by omega, p2⟩
      · have z := bI_0.mp z
        have nb : ¬ ∃ q, q < i ∧ t q = 97 + nI j := fun q => by have := hb.mpr q; rw [z] at this; cases this
        rw [nI_clamp (by omega), hN.2 i (by omega)]
        refine ⟨fun y => ih (i + 1) false (by omega) ⟨(fun q => by cases q), ?_⟩, fun y => ih (i + 1) true (by omega) ⟨fun _ => ⟨i, by omega, y⟩, fun _ => rfl⟩⟩
        rintro ⟨q, p1, p2⟩
        by_cases e : q = i
        · subst e; exact absurd p2 y
        · exact absurd ⟨q, by omega, p2⟩ nb
  exact key n 0 false (by omega) ⟨(fun q => by cases q), fun ⟨q, p1, _⟩ => by omega⟩
theorem s_nextNumbers (h13 : n ≤ 13) (hn : 1 ≤ n) (hN : MNow h t n) (hv : ∃ o, valO o t n) (hg : ∀ j, j < 5 → h.2.2.1 5 j = nI (gw j)) (hgw : ∀ j, gw j ≤ 5) (hmr : ∀ j, j < 5 → h.2.2.1 12 j = nI (m j)) (hm : ∀ j, j < 5 → m j ≤ wdF t n gw j) :
    OkI (d + 1) mX12_nextNumbers SM [.ref 1] h (fun v k => ((∃ j, j < 5 ∧ (∀ q, q < 5 → j < q → m q = wdF t n gw q) ∧ m j < wdF t n gw j ∧ v = 1 ∧ ∀ q, q < 5 → k.2.2.1 12 q = nI (if j < q then 0 else if q = j then m j + 1 else m q)) ∨ ((∀ q, q < 5 → m q = wdF t n gw q) ∧ v = 0 ∧ ∀ q, q < 5 → k.2.2.1 12 q = 0)) ∧ mF ([], [], [12], []) h k) := by
  refine NX12_nextNumbers_0 ?_
  have hw5 : ∀ j, wdF t n gw j ≤ 5 := fun j => by unfold wdF; split; exact hgw j; omega
  have key : ∀ (i : Nat) (g : fH), i ≤ 5 → mF ([], [], [12], []) h g → (∀ q, q < 5 → i ≤ q → m q = wdF t n gw q) → (∀ q, q < 5 → g.2.2.1 12 q = nI (if i ≤ q then 0 else m q)) → G mX12_nextNumbers (d + 1) SM (f_PI (fun v k => ((∃ j, j < 5 ∧ (∀ q, q < 5 → j < q → m q = wdF t n gw q) ∧ m j < wdF t n gw j ∧ v = 1 ∧ ∀ q, q < 5 → k.2.2.1 12 q = nI (if j < q then 0 else if q = j then m j + 1 else m q)) ∨ ((∀ q, q < 5 → m q = wdF t n gw q) ∧ v = 0 ∧ ∀ q, q < 5 → k.2.2.1 12 q = 0)) ∧ mF ([], [], [12], []) h k)) 2 [(0, .ref 1), (1, .int (Int32.ofInt ((i : Int) - 1)))] [] g := by
    intro i
    induction i with
    | zero =>
      intro g _ fg hq hr
      refine NX12_nextNumbers_2 hM hM12 hM5 ⟨fun _ => ⟨Or.inr ⟨fun q hq5 => hq q hq5 (by omega), rfl, fun q hq5 => ?_⟩, fg⟩, fun z => absurd (by decide) z⟩
      rw [hr q hq5, if_pos (by omega)]; rfl
    | succ i ih =>
      intro g hi fg hq hr
      rw [i_pred]
      have hc : (nI i).toNatClampNeg = i := nI_clamp (by omega)
      have hmi := hm i (by omega)
      have hwi := hw5 i
      have gi : g.2.2.1 12 i = nI (m i) := by rw [hr i (by omega), if_neg (by omega)]
      have go : ∀ g1 : fH, g1 = u_ai g 12 (upd (g.2.2.1 12) i 0) → m i = wdF t n gw i → G mX12_nextNumbers (d + 1) SM (f_PI (fun v k => ((∃ j, j < 5 ∧ (∀ q, q < 5 → j < q → m q = wdF t n gw q) ∧ m j < wdF t n gw j ∧ v = 1 ∧ ∀ q, q < 5 → k.2.2.1 12 q = nI (if j < q then 0 else if q = j then m j + 1 else m q)) ∨ ((∀ q, q < 5 → m q = wdF t n gw q) ∧ v = 0 ∧ ∀ q, q < 5 → k.2.2.1 12 q = 0)) ∧ mF ([], [], [12], []) h k)) 2 [(0, .ref 1), (1, .int (nI i + (-1)))] [] g1 := by
        rintro g1 rfl e
        rw [i_dn]
        refine ih _ (by omega) (fg.ai (by decide)) (fun q hq5 hle => ?_) (fun q hq5 => ?_)
        · by_cases c : q = i
          · subst c; exact e
          · exact hq q hq5 (by omega)
        · rw [u_ai_s]
          by_cases c : q = i
          · subst c; rw [upd_s, if_pos (Nat.le_refl _)]; rfl
          · rw [upd_n _ _ c, hr q hq5]
            by_cases c2 : i ≤ q
            · rw [if_pos c2, if_pos (by omega)]
            · rw [if_neg c2, if_neg (by omega)]
      refine NX12_nextNumbers_2 hM hM12 hM5 ⟨fun z => absurd z (nI_lt0 (by omega)), fun _ => ⟨_, s_isIn h13 hn (hN.of fg (by decide) (by decide)) hv (by omega), ?_⟩⟩
      rintro _ g ⟨rfl, rfl⟩
      rw [hc]
      refine ⟨fun z => ⟨vp_in_nI (by omega) (by decide), fun g1 e1 => go g1 e1 ?_⟩, fun z => ⟨vp_in_nI (by omega) (by decide), ?_⟩⟩
      · have : wdF t n gw i = 0 := by unfold wdF; rw [bI_0.mp z]; rfl
        omega
      · have ew : wdF t n gw i = gw i := by unfold wdF; rw [if_pos (bI_n0.mp z)]
        rw [gi, fg.2.2.1 5 (by decide), hg i (by omega)]
        have ce : (nI (m i) = nI (gw i)) ↔ m i = gw i := nI_eq (by omega) (by omega)
        rw [ce]
        refine ⟨fun y => ?_, fun y => fun g1 e1 => go g1 e1 (by omega)⟩
        rintro g1 rfl
        refine ⟨Or.inl ⟨i, by omega, fun q hq5 hlt => hq q hq5 (by omega), by omega, rfl, fun q hq5 => ?_⟩, fg.ai (by decide)⟩
        rw [u_ai_s]
        by_cases c : q = i
        · subst c; rw [upd_s, if_neg (by omega), if_pos rfl, nI1]
        · rw [upd_n _ _ c, hr q hq5]
          by_cases c2 : i < q
          · rw [if_pos c2, if_pos (by omega)]
          · rw [if_neg c2, if_neg (by omega), if_neg c]
  exact key 5 h (Nat.le_refl 5) mF.rf (fun q h1 h2 => by omega) (fun q hq5 => by rw [if_neg (by omega)]; exact hmr q hq5)
end MTRUTH

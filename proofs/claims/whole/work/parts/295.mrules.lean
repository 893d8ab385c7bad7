/-! ===== the reference's rules: add, addPart, isSame, hasSigns ===== -/
/-- built holds the signs L -/
def MBt (h : fH) (L : List Int32) : Prop := h.1 1 30 = nI L.length ∧ ∀ i, i < L.length → h.2.2.1 18 i = L.getD i 0
theorem MBt.of {h k : fH} {L : List Int32} {p : fL} (x : MBt h L) (b : mF p h k) (h1 : p.1.contains 30 = false) (h2 : p.2.2.1.contains 18 = false) : MBt k L :=
  ⟨by rw [b.1 _ (nin_of h1)]; exact x.1, fun i hi => by rw [b.2.2.1 _ (nin_of h2)]; exact x.2 i hi⟩
/-- the sizes of the parts are laid -/
def MSz (h : fH) (t : Nat → Int32) (n : Nat) : Prop := ∀ i, i < n → h.2.2.1 7 i = nI (sz t n i)
theorem MSz.of {h k : fH} {t : Nat → Int32} {n : Nat} {p : fL} (x : MSz h t n) (b : mF p h k) (h2 : p.2.2.1.contains 7 = false) : MSz k t n := fun i hi => by rw [b.2.2.1 _ (nin_of h2)]; exact x i hi
abbrev fBt : fL := ([30], [], [18], [])
section MRULES
variable {d : Nat} {h : fH} {n s : Nat} {t : Nat → Int32} {L : List Int32}
theorem s_madd {ch : Int32} (x : MBt h L) (hl : L.length < 32) : OkV d mX12_add SM [.ref 1, .int ch] h (fun k => MBt k (L ++ [ch]) ∧ mF fBt h k) := by
  obtain ⟨x1, x2⟩ := id x
  refine NX12_add_0 hM hM18 ?_
  rw [x1]
  refine ⟨vp_in_nI hl (by decide), ?_⟩
  rw [nI_clamp (by omega)]
  rintro g1 rfl g2 rfl
  refine ⟨⟨?_, fun i hi => ?_⟩, (mF.rf.ai (by decide)).fi (by decide)⟩
  · rw [u_fi_s, u_ai_1, x1, nI1, List.length_append, List.length_singleton]
  · rw [List.length_append, List.length_singleton] at hi
    show (u_ai h 18 (upd (h.2.2.1 18) L.length ch)).2.2.1 18 i = _
    rw [u_ai_s]
    by_cases q : i = L.length
    · subst q; rw [upd_s, getD_r]
    · rw [upd_n _ _ q, getD_l (by omega)]; exact x2 i (by omega)
theorem s_maddPart {i : Nat} (h13 : n ≤ 13) (hN : MNow h t n) (hz : MSz h t n) (hv : ∃ o, valO o t n) (x : MBt h L) (hi : i < n) (hl : L.length + sz t n i ≤ 32) : OkV (d + 1) mX12_addPart SM [.ref 1, .int (nI i)] h (fun k => MBt k (L ++ prt t n i) ∧ mF fBt h k) := by
  obtain ⟨o, hvo⟩ := hv
  have hle := sz_le hvo hi
  refine NX12_addPart_0 ?_
  have key : ∀ (m q : Nat) (M : List Int32) (k : fH), m + q = i + sz t n i → i ≤ q → M.length = L.length + (q - i) → MBt k M → M ++ seg t q m = L ++ prt t n i → mF fBt h k → G mX12_addPart (d + 1) SM (f_PV (fun k => MBt k (L ++ prt t n i) ∧ mF fBt h k)) 2 [(0, .ref 1), (1, .int (nI i)), (2, .int (nI q))] [] k := by
    intro m
    induction m with
    | zero =>
      intro q M k hq hiq hM' xk e fk
      have hzk := hz.of fk (by decide)
      refine NX12_addPart_2 hM hM7 hM6 ⟨vp_in_nI (by omega) (by decide), ?_⟩
      rw [nI_clamp (by omega), hzk i hi, nI_add]
      refine ⟨fun _ => ⟨?_, fk⟩, fun z => absurd (nI_le (by omega) (by omega)) z⟩
      rw [← e]
      simpa [seg] using xk
    | succ m ih =>
      intro q M k hq hiq hM' xk e fk
      have hzk := hz.of fk (by decide)
      have hNk := hN.of fk (by decide) (by decide)
      refine NX12_addPart_2 hM hM7 hM6 ⟨vp_in_nI (by omega) (by decide), ?_⟩
      rw [nI_clamp (n := i) (by omega), hzk i hi, nI_add]
      refine ⟨fun z => absurd z (nI_ge (by omega) (by omega)), fun _ => ⟨vp_in_nI (by omega) (by decide), ?_⟩⟩
      rw [nI_clamp (by omega), hNk.2 q (by omega), nI1]
      refine ⟨_, s_madd xk (by omega), ?_⟩
      rintro k2 ⟨x2, f2⟩
      refine ih (q + 1) _ k2 (by omega) (by omega) (by rw [List.length_append, List.length_singleton]; omega) x2 ?_ (fk.tr f2)
      rw [← e, seg_cons, List.append_assoc]
      rfl
  exact key (sz t n i) i L h (by omega) (Nat.le_refl i) (by omega) x rfl mF.rf
theorem s_isSame {i j : Nat} (h13 : n ≤ 13) (hN : MNow h t n) (hz : MSz h t n) (hv : ∃ o, valO o t n) (hi : i < n) (hj : j < n) : OkI d mX12_isSame SM [.ref 1, .int (nI i), .int (nI j)] h (fun v k => v = bI (decide (prt t n i = prt t n j)) ∧ k = h) := by
  obtain ⟨o, hvo⟩ := hv
  have hzi := sz_le hvo hi
  have hzj := sz_le hvo hj
  have ce : (nI (sz t n i) = nI (sz t n j)) ↔ sz t n i = sz t n j := nI_eq (by omega) (by omega)
  have no : ¬ prt t n i = prt t n j → ∀ q, G mX12_isSame d SM (f_PI (fun v k => v = bI (decide (prt t n i = prt t n j)) ∧ k = h)) 24 [(0, .ref 1), (1, .int (nI i)), (2, .int (nI j)), (3, .int (0 : Int32)), (4, .int (nI q))] [] h := by
    intro e q
    refine NX12_isSame_24 hM hM7 hM6 ⟨vp_in_nI (by omega) (by decide), fun _ => ⟨Or.inl rfl, ?_, rfl⟩, fun _ => ⟨fun _ => ⟨Or.inl rfl, ?_, rfl⟩, fun w => absurd rfl w⟩⟩
    · rw [decide_eq_false e]; rfl
    · rw [decide_eq_false e]; rfl
  have key : sz t n i = sz t n j → ∀ (m q : Nat), m + q = sz t n i → (∀ p, p < q → t (i + p) = t (j + p)) → G mX12_isSame d SM (f_PI (fun v k => v = bI (decide (prt t n i = prt t n j)) ∧ k = h)) 24 [(0, .ref 1), (1, .int (nI i)), (2, .int (nI j)), (3, .int (1 : Int32)), (4, .int (nI q))] [] h := by
    intro es m
    induction m with
    | zero =>
      intro q hq hp
      have : q = sz t n i := by omega
      subst this
      refine NX12_isSame_24 hM hM7 hM6 ⟨vp_in_nI (by omega) (by decide), ?_⟩
      rw [nI_clamp (n := i) (by omega), hz i hi]
      refine ⟨fun _ => ⟨Or.inr rfl, ?_, rfl⟩, fun w => absurd (Int32.le_refl _) w⟩
      rw [decide_eq_true (prt_eq.mpr ⟨es, hp⟩)]; rfl
    | succ m ih =>
      intro q hq hp
      refine NX12_isSame_24 hM hM7 hM6 ⟨vp_in_nI (by omega) (by decide), ?_⟩
      rw [nI_clamp (n := i) (by omega), hz i hi, nI_add, nI_add, nI1]
      refine ⟨fun w => absurd w (nI_ge (by omega) (by omega)), fun _ => ⟨fun w => absurd w (by decide), fun _ => ⟨vp_in_nI (by omega) (by decide), vp_in_nI (by omega) (by decide), ?_⟩⟩⟩
      rw [nI_clamp (by omega), nI_clamp (by omega), hN.2 (i + q) (by omega), hN.2 (j + q) (by omega)]
      refine ⟨fun w => no (fun e => w ((prt_eq.mp e).2 q (by omega))) (q + 1), fun w => ih (q + 1) (by omega) (fun p hp1 => ?_)⟩
      by_cases e : p = q
      · subst e; exact w
      · exact hp p (by omega)
  refine NX12_isSame_0 hM hM7 ⟨vp_in_nI (by omega) (by decide), vp_in_nI (by omega) (by decide), ?_⟩
  rw [nI_clamp (by omega), nI_clamp (by omega), hz i hi, hz j hj, ce]
  refine ⟨fun z => ?_, fun z => ?_⟩
  · exact no (fun e => z (prt_eq.mp e).1) 0
  · exact key z (sz t n i) 0 (by omega) (fun p hp => by omega)
theorem s_hasSigns {rule : Nat} (h13 : n ≤ 13) (hN : MNow h t n) (hz : MSz h t n) (hv : ∃ o, valO o t n) (hs : s < n) (hop : isOpB (t s) = true) (hr : rule ≤ 6) :
    OkI (d + 1) mX12_hasSigns SM [.ref 1, .int (nI rule), .int (t s), .int (nI (s + 1)), .int (nI (s + 1 + sz t n (s + 1)))] h (fun v k => v = bI (sgR rule t n s) ∧ k = h) := by
  obtain ⟨o, hvo⟩ := hv
  obtain ⟨a1, b1⟩ := op_in hvo hs hop
  have hR : ∀ k, k ≤ 6 → ((nI rule = nI k) ↔ rule = k) := fun k hk => nI_eq (by omega) (by omega)
  have z0 : sgR rule t n s = false → ((0 : Int32) = bI (sgR rule t n s) ∧ h = h) := fun e => ⟨by rw [e]; rfl, rfl⟩
  have z1 : sgR rule t n s = true → ((1 : Int32) = bI (sgR rule t n s) ∧ h = h) := fun e => ⟨by rw [e]; rfl, rfl⟩
  have ca : (nI (s + 1)).toNatClampNeg = s + 1 := nI_clamp (by omega)
  have cb : (nI (s + 1 + sz t n (s + 1))).toNatClampNeg = s + 1 + sz t n (s + 1) := nI_clamp (by omega)
  have inA : vp_in (nI (s + 1)) 13 := vp_in_nI (by omega) (by decide)
  have inB : vp_in (nI (s + 1 + sz t n (s + 1))) 13 := vp_in_nI (by omega) (by decide)
  refine NX12_hasSigns_0 hM hM6 hM7 ?_
  rw [ca, cb, hN.2 _ a1, hN.2 _ b1]
  refine ⟨fun r0 => ?_, fun r0 => ⟨fun r1 => ?_, fun r1 => ⟨fun r2 => ?_, fun r2 => ⟨fun r3 => ?_, fun r3 => ⟨fun r4 => ?_, fun r4 => ⟨fun r5 => ?_, fun r5 => ?_⟩⟩⟩⟩⟩⟩
  · have r0 := (hR 0 (by decide)).mp r0
    subst r0
    refine ⟨fun q => z1 (by simp [sgR, q]), fun q => ⟨fun q2 => z0 (by simp [sgR, q, q2]), fun q2 => z1 (by simp [sgR, q2])⟩⟩
  · have r1 := (hR 1 (by decide)).mp r1
    subst r1
    refine ⟨fun q => ⟨inA, fun w => z0 (by simp [sgR, w]), fun w => z1 (by simp [sgR, q, w])⟩, fun q => ⟨fun q2 => z0 (by simp [sgR, q, q2]), fun q2 => ⟨inA, fun w => z0 (by simp [sgR, w]), fun w => z1 (by simp [sgR, q2, w])⟩⟩⟩
  · have r2 := (hR 2 (by decide)).mp r2
    subst r2
    refine ⟨fun q => z0 (by simp [sgR, q]), fun q => ⟨inB, fun w => z1 (by simp [sgR, q, w]), fun w => ⟨fun w2 => z0 (by simp [sgR, w, w2]), fun w2 => z1 (by simp [sgR, q, w2])⟩⟩⟩
  · have r3 := (hR 3 (by decide)).mp r3
    subst r3
    have cut : (t s = 43 ∨ t s = 45) → G mX12_hasSigns (d + 1) SM (f_PI (fun v k => v = bI (sgR 3 t n s) ∧ k = h)) 134 [(0, .ref 1), (3, .int (nI (s + 1))), (4, .int (nI (s + 1 + sz t n (s + 1))))] [] h := by
      intro hc
      refine NX12_hasSigns_134 hM hM6 ⟨inA, ?_⟩
      rw [ca, cb, hN.2 _ a1, hN.2 _ b1, nI1, nI1]
      refine ⟨fun w => z0 (by simp [sgR, w]), fun w => ⟨inB, fun w2 => z0 (by simp [sgR, w2]), fun w2 => ?_⟩⟩
      obtain ⟨a2, _⟩ := op_in hvo a1 (by rw [w]; exact op42)
      obtain ⟨b2, _⟩ := op_in hvo b1 (by rw [w2]; exact op42)
      refine ⟨_, s_isSame h13 hN hz ⟨o, hvo⟩ a2 b2, ?_⟩
      rintro _ k9 ⟨rfl, rfl⟩
      refine ⟨fun u => ?_, fun u => ?_⟩
      · have u := bI_0.mp u
        simp only [decide_eq_false_iff_not] at u
        exact z0 (by simp [sgR, u])
      · have u := bI_n0.mp u
        simp only [decide_eq_true_eq] at u
        exact z1 (by simp [sgR, hc, w, w2, u])
    refine ⟨fun q => cut (Or.inl q), fun q => ⟨fun q2 => z0 (by simp [sgR, q, q2]), fun q2 => cut (Or.inr q2)⟩⟩
  · have r4 := (hR 4 (by decide)).mp r4
    subst r4
    refine ⟨fun q => z0 (by simp [sgR, q]), fun q => ⟨inA, fun w => z0 (by simp [sgR, w]), fun w => ⟨inB, fun w2 => z0 (by simp [sgR, w2]), fun w2 => ?_⟩⟩⟩
    obtain ⟨a2, a3⟩ := op_in hvo a1 (by rw [w]; exact op42)
    obtain ⟨b2, b3⟩ := op_in hvo b1 (by rw [w2]; exact op42)
    rw [nI1, nI1]
    refine ⟨vp_in_nI (by omega) (by decide), ?_⟩
    rw [nI_clamp (n := s + 1 + 1) (by omega), hz _ a2, nI_add]
    refine ⟨_, s_isSame h13 hN hz ⟨o, hvo⟩ a2 a3, ?_⟩
    rintro _ h ⟨rfl, rfl⟩
    refine ⟨fun u => ?_, fun u => ⟨vp_in_nI (by omega) (by decide), ?_⟩⟩
    · have u := bI_0.mp u
      simp only [decide_eq_false_iff_not] at u
      exact z0 (by simp [sgR, u])
    · have u := bI_n0.mp u
      simp only [decide_eq_true_eq] at u
      rw [nI_clamp (n := s + 1 + sz t n (s + 1) + 1) (by omega), hz _ b2, nI_add]
      refine ⟨_, s_isSame h13 hN hz ⟨o, hvo⟩ b2 b3, ?_⟩
      rintro _ h ⟨rfl, rfl⟩
      refine ⟨fun u2 => ?_, fun u2 => ?_⟩
      · have u2 := bI_0.mp u2
        simp only [decide_eq_false_iff_not] at u2
        exact z0 (by simp [sgR, u2])
      · have u2 := bI_n0.mp u2
        simp only [decide_eq_true_eq] at u2
        refine z1 ?_
        simp only [sgR, Nat.reduceEqDiff, if_false, if_true, decide_eq_true_eq]
        exact ⟨q, w, w2, u, u2⟩
  · have r5 := (hR 5 (by decide)).mp r5
    subst r5
    refine ⟨fun q => z0 (by simp [sgR, q]), fun q => ⟨inA, fun w => z0 (by simp [sgR, w]), fun w => z1 (by simp [sgR, q, w])⟩⟩
  · have r6 : rule = 6 := by
      have k0 : ¬ rule = 0 := fun q => r0 ((hR 0 (by decide)).mpr q)
      have k1 : ¬ rule = 1 := fun q => r1 ((hR 1 (by decide)).mpr q)
      have k2 : ¬ rule = 2 := fun q => r2 ((hR 2 (by decide)).mpr q)
      have k3 : ¬ rule = 3 := fun q => r3 ((hR 3 (by decide)).mpr q)
      have k4 : ¬ rule = 4 := fun q => r4 ((hR 4 (by decide)).mpr q)
      have k5 : ¬ rule = 5 := fun q => r5 ((hR 5 (by decide)).mpr q)
      omega
    subst r6
    refine ⟨fun q => z0 (by simp [sgR, q]), fun q => ⟨inB, fun w => z0 (by simp [sgR, w]), fun w => z1 (by simp [sgR, q, w])⟩⟩
end MRULES

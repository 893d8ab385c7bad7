/-! ===== the reference's face: images, told ===== -/
/-- what is passed is a page -/
def WOk (w : Nat → Int64) (P : pgP) : Prop :=
  (w 0 = (nI (pD P)).toInt64 ∧ w 1 = (nI (pW P)).toInt64 ∧ w 2 = (nI (pT P).length).toInt64 ∧ w 3 = (nI (pN P)).toInt64) ∧
  (∀ i, i < (pT P).length → w (4 + i) = (rw' (pT P) i).toInt64) ∧ (∀ i, i < 5 → w (17 + 2 * i) = (pNu P i).toInt64 ∧ w (17 + 2 * i + 1) = (pSp P i).toInt64) ∧ ∀ i, i < pN P → w (27 + i) = pTe P i
/-- what is written -/
def pwF (h : fH) (q : Nat) : Int64 :=
  if q = 0 then (h.1 1 0).toInt64 else if q = 1 then (h.1 1 1).toInt64 else if q = 2 then (h.1 1 10).toInt64 else if q = 3 then (h.1 1 22).toInt64
  else if q < 17 then (h.2.2.1 3 (q - 4)).toInt64 else if q < 27 then (if (q - 17) % 2 = 0 then (h.2.2.1 4 ((q - 17) / 2)).toInt64 else (h.2.2.1 5 ((q - 17) / 2)).toInt64) else h.2.2.2 13 (q - 27)
section MFACE4
variable {h k : fH} {X : stP} {P : pgP} {b : Nat} {w : Nat → Int64}
theorem pw_t (h : fH) {i : Nat} (hi : i < 13) : pwF h (4 + i) = (h.2.2.1 3 i).toInt64 := by
  unfold pwF
  rw [if_neg (by omega), if_neg (by omega), if_neg (by omega), if_neg (by omega), if_pos (by omega), show 4 + i - 4 = i by omega]
theorem pw_n (h : fH) {i : Nat} (hi : i < 5) : pwF h (17 + 2 * i) = (h.2.2.1 4 i).toInt64 ∧ pwF h (17 + 2 * i + 1) = (h.2.2.1 5 i).toInt64 := by
  unfold pwF
  constructor
  · rw [if_neg (by omega), if_neg (by omega), if_neg (by omega), if_neg (by omega), if_neg (by omega), if_pos (by omega), if_pos (by omega), show (17 + 2 * i - 17) / 2 = i by omega]
  · rw [if_neg (by omega), if_neg (by omega), if_neg (by omega), if_neg (by omega), if_neg (by omega), if_pos (by omega), if_neg (by omega), show (17 + 2 * i + 1 - 17) / 2 = i by omega]
theorem pw_k (h : fH) (i : Nat) : pwF h (27 + i) = h.2.2.2 13 i := by
  unfold pwF
  rw [if_neg (by omega), if_neg (by omega), if_neg (by omega), if_neg (by omega), if_neg (by omega), if_neg (by omega), show 27 + i - 27 = i by omega]
theorem pw_W (h1 : h.1 1 39 = 1) : PaW h b (pwF h) := by
  unfold PaW
  rw [h1]
  have p : ∀ y x : Int64, paF 1 y x = x := fun y x => by unfold paF; rw [if_neg (by decide)]
  simp only [p]
  exact ⟨⟨rfl, rfl, rfl, rfl⟩, fun i hi => pw_t h hi, fun i hi => pw_n h hi, fun i hi => pw_k h i⟩
theorem pr_W (h0 : h.1 1 39 = 0) : PaW h b (fun q => h.2.2.2 21 (b + q)) := by
  unfold PaW
  rw [h0]
  have p : ∀ y x : Int64, y = paF 0 y x := fun y x => by unfold paF; rw [if_pos rfl]
  exact ⟨⟨p _ _, p _ _, p _ _, p _ _⟩, fun i hi => p _ _, fun i hi => ⟨p _ _, p _ _⟩, fun i hi => p _ _⟩
theorem WOk.wr (x : MPg h P) (v : PgV P) : WOk (pwF h) P := by
  obtain ⟨⟨t1, t2⟩, ⟨d1, d2⟩, n1, c1, c2⟩ := x
  have h13 : (pT P).length ≤ 13 := v.1.2.1
  refine ⟨⟨?_, ?_, ?_, ?_⟩, fun i hi => ?_, fun i hi => ?_, fun i hi => ?_⟩
  · rw [← d1]; rfl
  · rw [← d2]; rfl
  · rw [← t1]; rfl
  · rw [← c1]; rfl
  · rw [pw_t h (by omega), t2 i hi]
  · rw [(pw_n h hi).1, (pw_n h hi).2, (n1 i hi).1, (n1 i hi).2]; exact ⟨rfl, rfl⟩
  · rw [pw_k, c2 i hi]
/-- the page passed -/
theorem PaQ.pg (q : PaQ h b w k) (x : WOk w P) (v : PgV P) : MPg k P ∧ MKp k b P := by
  obtain ⟨⟨q0, q1, q2, q3⟩, qt, qn, _, qk, _, _, _, qI, _⟩ := q
  obtain ⟨⟨w0, w1, w2, w3⟩, wt, wn, wk⟩ := x
  have h13 : (pT P).length ≤ 13 := v.1.2.1
  have h7 : pN P ≤ 7 := v.2.2.2.1.1
  refine ⟨⟨⟨?_, fun i hi => ?_⟩, ⟨?_, ?_⟩, fun j hj => ⟨?_, ?_⟩, ?_, fun j hj => ?_⟩, ⟨?_, ?_, ?_, ?_⟩, fun i hi => ?_, fun i hi => ⟨?_, ?_⟩, fun i hi => ?_⟩
  · rw [q2, w2, Int32.toInt32_toInt64]
  · rw [qt i (by omega), wt i hi, Int32.toInt32_toInt64]
  · rw [q0, w0, Int32.toInt32_toInt64]
  · rw [q1, w1, Int32.toInt32_toInt64]
  · rw [(qn j hj).1, (wn j hj).1, Int32.toInt32_toInt64]
  · rw [(qn j hj).2, (wn j hj).2, Int32.toInt32_toInt64]
  · rw [q3, w3, Int32.toInt32_toInt64]
  · rw [qk j (by omega), wk j hj]
  · rw [qI 0 (by decide), w0]
  · rw [qI 1 (by decide), w1]
  · rw [qI 2 (by decide), w2]
  · rw [qI 3 (by decide), w3]
  · rw [qI _ (by omega), wt i hi]
  · rw [qI _ (by omega), (wn i hi).1]
  · rw [qI _ (by omega), (wn i hi).2]
  · rw [qI _ (by omega), wk i hi]
theorem MKp.of2 (x : MKp h b P) (v : PgV P) (e : ∀ q, q < 34 → k.2.2.2 21 (b + q) = h.2.2.2 21 (b + q)) : MKp k b P := by
  obtain ⟨⟨w0, w1, w2, w3⟩, wt, wn, wk⟩ := x
  have h13 : (pT P).length ≤ 13 := v.1.2.1
  have h7 : pN P ≤ 7 := v.2.2.2.1.1
  refine ⟨⟨?_, ?_, ?_, ?_⟩, fun i hi => ?_, fun i hi => ⟨?_, ?_⟩, fun i hi => ?_⟩
  · rw [e 0 (by decide)]; exact w0
  · rw [e 1 (by decide)]; exact w1
  · rw [e 2 (by decide)]; exact w2
  · rw [e 3 (by decide)]; exact w3
  · rw [e _ (by omega)]; exact wt i hi
  · rw [e _ (by omega)]; exact (wn i hi).1
  · rw [e _ (by omega)]; exact (wn i hi).2
  · rw [e _ (by omega)]; exact wk i hi
theorem MIm.of2 {n : Nat} {Q : Option pgP} (x : MIm h b n Q) (v : ∀ P, Q = some P → PgV P) (e : ∀ q, q < 34 → k.2.2.2 21 (b + q) = h.2.2.2 21 (b + q)) (f : k.2.2.1 22 n = h.2.2.1 22 n) : MIm k b n Q := by
  cases Q with
  | none =>
    show k.2.2.1 22 n = 0
    rw [f]; exact x
  | some q => exact ⟨by rw [f]; exact x.1, x.2.of2 (v q rfl) e⟩
theorem MIm.kp {n : Nat} {Q : Option pgP} (x : MIm h b n Q) : (h.2.2.1 22 n = 0 → Q = none) ∧ (¬ h.2.2.1 22 n = 0 → ∃ P, Q = some P ∧ MKp h b P) := by
  cases Q with
  | none => exact ⟨fun _ => rfl, fun z => absurd x z⟩
  | some P => exact ⟨fun z => (by rw [x.1] at z; exact absurd z (by decide)), fun _ => ⟨P, rfl, x.2⟩⟩
theorem i40 (j : Nat) : (40 : Int32) * nI j = nI (40 * j) := nI_mul 40 j
theorem r_image {n : Int32} (x : MRel h X) (v : StV X) : OkI 20 mX12_image SM [.ref 1, .int n] h (fun y k => y = (pu_image X n).1 ∧ MRel k (pu_image X n).2) := by
  refine NX12_image_0 (d := 19) hM hM22 ⟨_, s_isEnd, ?_⟩
  rintro _ k ⟨rfl, rfl⟩
  refine ⟨fun z => ?_, fun z => ?_⟩
  · have z := isEnd_iff.mp (of_decide_eq_true (bI_n0.mp z))
    obtain ⟨j, hj, rfl⟩ := nI_of2 (M := 1) (n := 1) rfl z.1 z.2
    rw [i40]
    intro g1 e1 g2 e2
    have b2 : mF ([38, 39], [], [], []) k g2 := by rw [e2, e1]; exact (mF.rf.fi (by decide)).fi (by decide)
    have x2 := x.of b2 (by decide)
    refine ⟨_, s_passAll (d := 18) (b := 40 * j) (w := pwF g2) (by omega) (by rw [e2, u_fi_n _ _ (by decide), e1, u_fi_s]) (pw_W (by rw [e2, u_fi_s])), ?_⟩
    intro k3 q3
    obtain ⟨p3, m3⟩ := q3.pg (WOk.wr x2.2.1 v.2.1) v.2.1
    obtain ⟨-, -, -, -, -, -, -, qo, -, f3⟩ := q3
    refine ⟨vp_in_nI (by omega) (by decide), ?_⟩
    rw [nI_clamp (by omega)]
    intro g3 e3
    have r22 : g3.2.2.1 22 = upd (g2.2.2.1 22) j 1 := by rw [e3, u_ai_s, f3.2.2.1 22 (by decide)]
    have r21 : g3.2.2.2 21 = k3.2.2.2 21 := by rw [e3]; rfl
    have p4 : MPg g3 X.2.1 := by
      obtain ⟨⟨t1, t2⟩, ⟨d1, d2⟩, n1, c1, c2⟩ := p3
      exact ⟨⟨by rw [e3]; exact t1, fun i hi => by rw [e3, u_ai_n _ _ (by decide)]; exact t2 i hi⟩, ⟨by rw [e3]; exact d1, by rw [e3]; exact d2⟩, fun i hi => by rw [e3, u_ai_n _ _ (by decide), u_ai_n _ _ (by decide)]; exact n1 i hi, by rw [e3]; exact c1, fun i hi => by rw [e3]; exact c2 i hi⟩
    have pad4 : g3.1 1 8 = nI X.1.length ∧ ∀ i, i < X.1.length → g3.2.2.1 2 i = rw' X.1 i := by
      refine ⟨?_, fun i hi => ?_⟩
      · rw [e3, u_ai_1, f3.1 8 (by decide)]; exact x2.1.1
      · rw [e3, u_ai_n _ _ (by decide), f3.2.2.1 2 (by decide)]; exact x2.1.2 i hi
    have z4 : ∀ i, i < 5 → g3.2.2.1 12 i = 0 := fun i hi => by rw [e3, u_ai_n _ _ (by decide), f3.2.2.1 12 (by decide)]; exact x2.2.2.2.2 i hi
    have m4 : MKp g3 (40 * j) X.2.1 := m3.of r21
    rcases (show j = 0 ∨ j = 1 by omega) with rfl | rfl
    · rw [show pu_image X (nI 0) = (1, X.1, X.2.1, some X.2.1, X.2.2.2) by unfold pu_image; rw [if_pos (show nI 0 = 0 from rfl)]]
      refine ⟨rfl, pad4, p4, ⟨by rw [r22, upd_s], m4⟩, x2.2.2.2.1.of2 v.2.2.2 (fun q hq => ?_) (by rw [r22, upd_n _ _ (by decide)]), z4⟩
      rw [r21]; exact qo _ (by omega)
    · rw [show pu_image X (nI 1) = (1, X.1, X.2.1, X.2.2.1, some X.2.1) by unfold pu_image; rw [if_neg (by decide), if_pos (show nI 1 = 1 from rfl)]]
      refine ⟨rfl, pad4, p4, x2.2.2.1.of2 v.2.2.1 (fun q hq => ?_) (by rw [r22, upd_n _ _ (by decide)]), ⟨by rw [r22, upd_s], m4⟩, z4⟩
      rw [r21]; exact qo _ (by omega)
  · have z := of_decide_eq_false (bI_0.mp z)
    rw [show pu_image X n = (-2, X) by unfold pu_image; rw [if_neg (fun q => z (by rw [q]; decide)), if_neg (fun q => z (by rw [q]; decide))]]
    exact ⟨rfl, x⟩
theorem r_restore {n : Int32} (x : MRel h X) (v : StV X) : OkI 20 mX12_restore SM [.ref 1, .int n] h (fun y k => y = (pu_restore X n).1 ∧ MRel k (pu_restore X n).2) := by
  refine NX12_restore_0 (d := 19) hM hM22 ⟨_, s_isEnd, ?_⟩
  rintro _ k ⟨rfl, rfl⟩
  refine ⟨fun z => ?_, fun z => ?_⟩
  · have z := isEnd_iff.mp (of_decide_eq_true (bI_n0.mp z))
    obtain ⟨j, hj, rfl⟩ := nI_of2 (M := 1) (n := 1) rfl z.1 z.2
    refine ⟨vp_in_nI (by omega) (by decide), ?_⟩
    rw [i40, nI_clamp (by omega)]
    have core : ∀ Q : pgP, PgV Q → MKp k (40 * j) Q → ∀ g1 : fH, g1 = u_fi k 1 38 (nI (40 * j)) → ∀ g2 : fH, g2 = u_fi g1 1 39 0 → ∃ Q1 : fH → Prop, OkV 19 mX12_passAll SM [.ref 1] g2 Q1 ∧ ∀ h_2 : fH, Q1 h_2 → (1 : Int32) = (1, X.1, Q, X.2.2).1 ∧ MRel h_2 ((1 : Int32), X.1, Q, X.2.2).2 := by
      intro Q vQ kQ g1 e1 g2 e2
      have b2 : mF ([38, 39], [], [], []) k g2 := by rw [e2, e1]; exact (mF.rf.fi (by decide)).fi (by decide)
      have x2 := x.of b2 (by decide)
      refine ⟨_, s_passAll (d := 18) (b := 40 * j) (w := fun q => g2.2.2.2 21 (40 * j + q)) (by omega) (by rw [e2, u_fi_n _ _ (by decide), e1, u_fi_s]) (pr_W (by rw [e2, u_fi_s])), ?_⟩
      intro k3 q3
      have kQ2 : MKp g2 (40 * j) Q := kQ.of (b2.2.2.2 21 (by decide))
      obtain ⟨p3, m3⟩ := q3.pg kQ2 vQ
      obtain ⟨-, -, -, -, -, -, -, qo, qi, f3⟩ := q3
      have al : ∀ q, k3.2.2.2 21 q = g2.2.2.2 21 q := by
        intro q
        by_cases c : 40 * j ≤ q ∧ q < 40 * j + 34
        · have := qi (q - 40 * j) (by omega)
          simp only [show 40 * j + (q - 40 * j) = q by omega] at this
          exact this
        · exact qo q c
      have r21 : k3.2.2.2 21 = g2.2.2.2 21 := funext al
      have r22 : k3.2.2.1 22 = g2.2.2.1 22 := f3.2.2.1 22 (by decide)
      refine ⟨rfl, ⟨by rw [f3.1 8 (by decide)]; exact x2.1.1, fun i hi => by rw [f3.2.2.1 2 (by decide)]; exact x2.1.2 i hi⟩, p3, x2.2.2.1.of r21 r22, x2.2.2.2.1.of r21 r22, fun i hi => by rw [f3.2.2.1 12 (by decide)]; exact x2.2.2.2.2 i hi⟩
    rcases (show j = 0 ∨ j = 1 by omega) with rfl | rfl
    · rw [show pu_restore X (nI 0) = reS X X.2.2.1 by unfold pu_restore; rw [if_pos (show nI 0 = 0 from rfl)]]
      refine ⟨fun y => ?_, fun y => ?_⟩
      · obtain ⟨Q, eQ, kQ⟩ := x.2.2.1.kp.2 y
        rw [show reS X X.2.2.1 = (1, X.1, Q, X.2.2) by rw [eQ]; rfl]
        exact core Q (v.2.2.1 Q eQ) kQ
      · rw [show reS X X.2.2.1 = (-3, X) by rw [x.2.2.1.kp.1 y]; rfl]
        exact ⟨rfl, x⟩
    · rw [show pu_restore X (nI 1) = reS X X.2.2.2 by unfold pu_restore; rw [if_neg (by decide), if_pos (show nI 1 = 1 from rfl)]]
      refine ⟨fun y => ?_, fun y => ?_⟩
      · obtain ⟨Q, eQ, kQ⟩ := x.2.2.2.1.kp.2 y
        rw [show reS X X.2.2.2 = (1, X.1, Q, X.2.2) by rw [eQ]; rfl]
        exact core Q (v.2.2.2 Q eQ) kQ
      · rw [show reS X X.2.2.2 = (-3, X) by rw [x.2.2.2.1.kp.1 y]; rfl]
        exact ⟨rfl, x⟩
  · have z := of_decide_eq_false (bI_0.mp z)
    rw [show pu_restore X n = (-2, X) by unfold pu_restore; rw [if_neg (fun q => z (by rw [q]; decide)), if_neg (fun q => z (by rw [q]; decide))]]
    exact ⟨rfl, x⟩
theorem in_lt5 {w a b c : Int32} (hb : b.toInt + 1 = c.toInt) : (a ≤ w ∧ w ≤ b) ↔ (¬ w < a ∧ w < c) := by
  rw [Int32.not_lt, Int32.le_iff_toInt_le (y := b), Int32.lt_iff_toInt_lt (y := c)]
  constructor
  · rintro ⟨p, q⟩; exact ⟨p, by omega⟩
  · rintro ⟨p, q⟩; exact ⟨p, by omega⟩
theorem r_told {w : Int32} (x : MRel h X) : OkI 20 mX12_told SM [.ref 1, .int w] h (fun y k => y = pu_told X w ∧ MRel k X) := by
  have n1 := x.2.1.2.2.1
  refine NX12_told_0 (d := 19) hM hM5 hM4 ⟨_, s_in32 (lo := 10) (hi := 14) rfl rfl, ?_⟩
  rintro _ k ⟨rfl, rfl⟩
  refine ⟨fun z => ?_, fun z => ?_⟩
  · have z := of_decide_eq_false (bI_0.mp z)
    have q1 : ¬ (¬ w < 10 ∧ w < 15) := fun q => z ((in_lt5 (by decide)).mpr q)
    refine ⟨_, s_in32 (lo := 20) (hi := 24) rfl rfl, ?_⟩
    rintro _ k ⟨rfl, rfl⟩
    refine ⟨fun y => ?_, fun y => ?_⟩
    · have y := of_decide_eq_false (bI_0.mp y)
      have q2 : ¬ (¬ w < 20 ∧ w < 25) := fun q => y ((in_lt5 (by decide)).mpr q)
      have e1 : pu_told X w = (if w = 0 then nI X.1.length else if w = 1 then nI (pT X.2.1).length else if w = 2 then nI (pD X.2.1) else if w = 3 then nI (pW X.2.1) else if w = 4 then nI (pN X.2.1) else -2) := by unfold pu_told; rw [if_neg q1, if_neg q2]
      rw [e1]
      exact ⟨fun a => ⟨by rw [if_pos a]; exact x.1.1, x⟩, fun a0 => ⟨fun a => ⟨by rw [if_neg a0, if_pos a]; exact x.ln, x⟩, fun a1 => ⟨fun a => ⟨by rw [if_neg a0, if_neg a1, if_pos a]; exact x.hD, x⟩, fun a2 => ⟨fun a => ⟨by rw [if_neg a0, if_neg a1, if_neg a2, if_pos a]; exact x.hW, x⟩, fun a3 => ⟨fun a => ⟨by rw [if_neg a0, if_neg a1, if_neg a2, if_neg a3, if_pos a]; exact x.hn, x⟩, fun a4 => ⟨by rw [if_neg a0, if_neg a1, if_neg a2, if_neg a3, if_neg a4], x⟩⟩⟩⟩⟩⟩
    · have y := (in_lt5 (c := 25) (by decide)).mp (of_decide_eq_true (bI_n0.mp y))
      have i5 := vp_sub (a := 20) (b := 25) (by decide) (by decide) y.1 y.2
      refine ⟨i5, ?_, x⟩
      unfold pu_told
      rw [if_neg q1, if_pos y]
      obtain ⟨j, hj, ej⟩ := vp_in_of i5 (by decide)
      rw [ej, nI_clamp (by omega)]
      exact (n1 j hj).2
  · have y := (in_lt5 (c := 15) (by decide)).mp (of_decide_eq_true (bI_n0.mp z))
    have i5 := vp_sub (a := 10) (b := 15) (by decide) (by decide) y.1 y.2
    refine ⟨i5, ?_, x⟩
    unfold pu_told
    rw [if_pos y]
    obtain ⟨j, hj, ej⟩ := vp_in_of i5 (by decide)
    rw [ej, nI_clamp (by omega), (n1 j hj).1]
end MFACE4

/-! ===== the class's Rules.suits: the whole ===== -/
section SUITS2
variable {d : Nat} {S : fW} {h : fH} {r a b c n s : Nat} {t : Nat → Int32}
theorem okR_r (hv : TxV t n) (hs : s < n) {rule : Nat} {P : Prop} [Decidable P] (hP : (sgR rule t n s = true ∧ (rule = 2 → n + 1 + sz t n (s + 1) ≤ 13)) ↔ P) : okR rule t n s = decide P := by
  rw [okR_is hv hs]
  apply Bool.eq_iff_iff.mpr
  simp only [Bool.and_eq_true, decide_eq_true_eq]
  exact hP
theorem s_suits {rule : Nat} (T : TxS S r a b c) (y : TxOk h r a b c t n) (hv : TxV t n) (hs : s < n) (hr : rule ≤ 6) : OkI (d + 3) mX5_suits S [.ref r, .int (nI rule), .int (nI s)] h (fun v k => v = bI (okR rule t n s) ∧ k = h) := by
  obtain ⟨⟨o, hvo⟩, h13, _⟩ := id hv
  have hR : ∀ k, k ≤ 6 → ((nI rule = nI k) ↔ rule = k) := fun k hk => nI_eq (by omega) (by omega)
  have nop : isOpB (t s) = false → okR rule t n s = false := fun z => by
    cases q : okR rule t n s
    · rfl
    · unfold okR at q
      rw [Bool.and_eq_true] at q
      rw [sgR_op q.1] at z
      cases z
  -- behind the signs
  have tail : ∀ (x4 x5 : Int32) (sp sd : Bool), sp = decide (t s = 43 ∨ t s = 42) → sd = decide (t s = 43 ∨ t s = 45) → (isOpB (t s) = true → x4 = t (s + 1) ∧ x5 = t (s + 1 + sz t n (s + 1))) → G mX5_suits (d + 3) S (f_PI (fun v k => v = bI (okR rule t n s) ∧ k = h)) 62 [(0, .ref r), (1, .int (nI rule)), (2, .int (nI s)), (3, .int (t s)), (4, .int x4), (5, .int x5), (6, .int (bI sp))] [.int (bI sd)] h := by
    intro x4 x5 sp sd hsp hsd hx
    have z0 : okR rule t n s = false → ((0 : Int32) = bI (okR rule t n s) ∧ h = h) := fun e => ⟨by rw [e]; rfl, rfl⟩
    have z1 : okR rule t n s = true → ((1 : Int32) = bI (okR rule t n s) ∧ h = h) := fun e => ⟨by rw [e]; rfl, rfl⟩
    cases hop : isOpB (t s)
    · -- no operator: nothing fits
      have e := nop hop
      have ns : ∀ k : Int32, isOpB k = true → ¬ t s = k := fun k hk q => by rw [q, hk] at hop; cases hop
      have n43 := ns 43 op43
      have n42 := ns 42 op42
      have n45 := ns 45 op45
      have n47 := ns 47 op47
      have e6 : sp = false := by rw [hsp]; simp [n43, n42]
      have e7 : sd = false := by rw [hsd]; simp [n43, n45]
      rw [e6, e7]
      refine NX5_suits_62 ⟨fun _ => ⟨Or.inl rfl, z0 e⟩, fun _ => ⟨fun _ => ⟨fun _ => z0 e, fun q => absurd rfl q⟩, fun _ => ⟨fun _ => ⟨fun _ => z0 e, fun q => absurd q n42⟩, fun _ => ⟨fun _ => ⟨fun _ => z0 e, fun q => absurd rfl q⟩, fun _ => ⟨fun _ => ⟨fun _ => z0 e, fun q => absurd q n45⟩, fun _ => ⟨fun _ => ⟨fun _ => z0 e, fun q => absurd q n45⟩, fun _ => ⟨fun _ => ⟨fun _ => z0 e, fun q => absurd q n47⟩, fun _ => z0 e⟩⟩⟩⟩⟩⟩⟩
    · obtain ⟨h4, h5⟩ := hx hop
      obtain ⟨a1, b1⟩ := op_in hvo hs hop
      subst h4
      subst h5
      have hb0 : (bI sp = 0) ↔ ¬ (t s = 43 ∨ t s = 42) := by rw [bI_0, hsp]; simp
      have hd0 : (bI sd = 0) ↔ ¬ (t s = 43 ∨ t s = 45) := by rw [bI_0, hsd]; simp
      refine NX5_suits_62 ⟨fun r0 => ⟨bI_01 _, ?_, rfl⟩, fun r0 => ⟨fun r1 => ?_, fun r1 => ⟨fun r2 => ?_, fun r2 => ⟨fun r3 => ?_, fun r3 => ⟨fun r4 => ?_, fun r4 => ⟨fun r5 => ?_, fun r5 => ⟨fun r6 => ?_, fun r6 => ?_⟩⟩⟩⟩⟩⟩⟩
      · have r0 := (hR 0 (by decide)).mp r0
        subst r0
        rw [okR_r hv hs (P := t s = 43 ∨ t s = 42) (by simp [sgR]), hsp]
      · have r1 := (hR 1 (by decide)).mp r1
        subst r1
        have ek := okR_r hv hs (rule := 1) (P := (t s = 43 ∨ t s = 42) ∧ t (s + 1) = t s) (by simp [sgR])
        rw [hb0]
        refine ⟨fun q => z0 (by rw [ek]; exact decide_eq_false (fun w => q w.1)), fun q => ⟨fun q2 => z0 (by rw [ek]; exact decide_eq_false (fun w => q2 w.2)), fun q2 => z1 (by rw [ek]; exact decide_eq_true ⟨Classical.not_not.mp q, q2⟩)⟩⟩
      · have r2 := (hR 2 (by decide)).mp r2
        subst r2
        have ek := okR_r hv hs (rule := 2) (P := (t s = 42 ∧ (t (s + 1 + sz t n (s + 1)) = 43 ∨ t (s + 1 + sz t n (s + 1)) = 45)) ∧ n + 1 + sz t n (s + 1) ≤ 13) (by simp [sgR])
        have room : t s = 42 → (t (s + 1 + sz t n (s + 1)) = 43 ∨ t (s + 1 + sz t n (s + 1)) = 45) → ∃ Q9 : Int32 → fH → Prop, OkI (d + 2) mX5_hasRoomToSpread S [.ref r, .int (nI s)] h Q9 ∧ ∀ (v9 : Int32) (k9 : fH), Q9 v9 k9 → ((v9 = 0 → ((0 : Int32) = bI (okR 2 t n s) ∧ k9 = h)) ∧ (¬ v9 = 0 → ((1 : Int32) = bI (okR 2 t n s) ∧ k9 = h))) := by
          intro p1 p2
          refine ⟨_, s_hasRoom (d := d + 1) T y hv a1, ?_⟩
          rintro _ k9 ⟨rfl, rfl⟩
          refine ⟨fun w => ⟨?_, rfl⟩, fun w => ⟨?_, rfl⟩⟩
          · have w := bI_0.mp w
            simp only [decide_eq_false_iff_not] at w
            rw [ek, decide_eq_false (fun u => w u.2)]; rfl
          · have w := bI_n0.mp w
            simp only [decide_eq_true_eq] at w
            rw [ek, decide_eq_true ⟨⟨p1, p2⟩, w⟩]; rfl
        refine ⟨fun q => z0 (by rw [ek]; exact decide_eq_false (fun w => q w.1.1)), fun q => ⟨fun q2 => room q (Or.inl q2), fun q2 => ⟨fun q3 => z0 (by rw [ek]; exact decide_eq_false (fun w => w.1.2.elim q2 q3)), fun q3 => room q (Or.inr q3)⟩⟩⟩
      · have r3 := (hR 3 (by decide)).mp r3
        subst r3
        have ek := okR_r hv hs (rule := 3) (P := (t s = 43 ∨ t s = 45) ∧ t (s + 1) = 42 ∧ t (s + 1 + sz t n (s + 1)) = 42 ∧ prt t n (s + 1 + 1) = prt t n (s + 1 + sz t n (s + 1) + 1)) (by simp [sgR])
        rw [hd0]
        refine ⟨fun q => z0 (by rw [ek]; exact decide_eq_false (fun w => q w.1)), fun q => ⟨fun q2 => z0 (by rw [ek]; exact decide_eq_false (fun w => q2 w.2.1)), fun q2 => ⟨fun q3 => z0 (by rw [ek]; exact decide_eq_false (fun w => q3 w.2.2.1)), fun q3 => ⟨_, s_sharesFactor (d := d) T y hv hs hop (by rw [q2]; exact op42) (by rw [q3]; exact op42), ?_⟩⟩⟩⟩
        rintro _ k9 ⟨rfl, rfl⟩
        refine ⟨fun w => ⟨?_, rfl⟩, fun w => ⟨?_, rfl⟩⟩
        · have w := bI_0.mp w
          simp only [decide_eq_false_iff_not] at w
          rw [ek, decide_eq_false (fun u => w u.2.2.2)]; rfl
        · have w := bI_n0.mp w
          simp only [decide_eq_true_eq] at w
          rw [ek, decide_eq_true ⟨Classical.not_not.mp q, q2, q3, w⟩]; rfl
      · have r4 := (hR 4 (by decide)).mp r4
        subst r4
        have ek := okR_r hv hs (rule := 4) (P := t s = 45 ∧ t (s + 1) = 42 ∧ t (s + 1 + sz t n (s + 1)) = 42 ∧ prt t n (s + 1 + 1) = prt t n (s + 1 + 1 + sz t n (s + 1 + 1)) ∧ prt t n (s + 1 + sz t n (s + 1) + 1) = prt t n (s + 1 + sz t n (s + 1) + 1 + sz t n (s + 1 + sz t n (s + 1) + 1))) (by simp [sgR])
        refine ⟨fun q => z0 (by rw [ek]; exact decide_eq_false (fun w => q w.1)), fun q => ⟨fun q2 => z0 (by rw [ek]; exact decide_eq_false (fun w => q2 w.2.1)), fun q2 => ⟨fun q3 => z0 (by rw [ek]; exact decide_eq_false (fun w => q3 w.2.2.1)), fun q3 => ⟨_, s_isOfSquares (d := d) T y hv hs hop (by rw [q2]; exact op42) (by rw [q3]; exact op42), ?_⟩⟩⟩⟩
        rintro _ k9 ⟨rfl, rfl⟩
        refine ⟨fun w => ⟨?_, rfl⟩, fun w => ⟨?_, rfl⟩⟩
        · have w := bI_0.mp w
          simp only [decide_eq_false_iff_not] at w
          rw [ek, decide_eq_false (fun u => w u.2.2.2)]; rfl
        · have w := bI_n0.mp w
          simp only [decide_eq_true_eq] at w
          rw [ek, decide_eq_true ⟨q, q2, q3, w⟩]; rfl
      · have r5 := (hR 5 (by decide)).mp r5
        subst r5
        have ek := okR_r hv hs (rule := 5) (P := t s = 45 ∧ t (s + 1) = 45) (by simp [sgR])
        refine ⟨fun q => z0 (by rw [ek]; exact decide_eq_false (fun w => q w.1)), fun q => ⟨fun q2 => z0 (by rw [ek]; exact decide_eq_false (fun w => q2 w.2)), fun q2 => z1 (by rw [ek]; exact decide_eq_true ⟨q, q2⟩)⟩⟩
      · have r6 := (hR 6 (by decide)).mp r6
        subst r6
        have ek := okR_r hv hs (rule := 6) (P := t s = 47 ∧ t (s + 1 + sz t n (s + 1)) = 47) (by simp [sgR])
        refine ⟨fun q => z0 (by rw [ek]; exact decide_eq_false (fun w => q w.1)), fun q => ⟨fun q2 => z0 (by rw [ek]; exact decide_eq_false (fun w => q2 w.2)), fun q2 => z1 (by rw [ek]; exact decide_eq_true ⟨q, q2⟩)⟩⟩
      · exfalso
        have k0 := fun q => r0 ((hR 0 (by decide)).mpr q)
        have k1 := fun q => r1 ((hR 1 (by decide)).mpr q)
        have k2 := fun q => r2 ((hR 2 (by decide)).mpr q)
        have k3 := fun q => r3 ((hR 3 (by decide)).mpr q)
        have k4 := fun q => r4 ((hR 4 (by decide)).mpr q)
        have k5 := fun q => r5 ((hR 5 (by decide)).mpr q)
        have k6 := fun q => r6 ((hR 6 (by decide)).mpr q)
        rcases (show rule = 0 ∨ rule = 1 ∨ rule = 2 ∨ rule = 3 ∨ rule = 4 ∨ rule = 5 ∨ rule = 6 by omega) with q | q | q | q | q | q | q
        · exact k0 q
        · exact k1 q
        · exact k2 q
        · exact k3 q
        · exact k4 q
        · exact k5 q
        · exact k6 q
  refine NX5_suits_0 T.1.1 ⟨_, s_signAt T y.1 h13 (by omega), ?_⟩
  rintro _ h ⟨rfl, rfl⟩
  rw [if_pos hs, y.2.2.1 s hs, nI1]
  refine ⟨_, s_signAt T y.1 h13 (by omega), ?_⟩
  rintro _ h ⟨rfl, rfl⟩
  refine ⟨_, s_secondOf T y.1 h13 (by omega), ?_⟩
  rintro _ h ⟨rfl, rfl⟩
  -- where the second part begins
  have hB : ∃ B, B < 100 ∧ (if s + 1 < n then h.2.2.1 b (s + 1) else nI n) = nI B ∧ (isOpB (t s) = true → B = s + 1 + sz t n (s + 1)) := by
    by_cases q : s + 1 < n
    · have := sz_le hvo q
      exact ⟨s + 1 + sz t n (s + 1), by omega, by rw [if_pos q, y.2.2.2.1 _ q], fun _ => rfl⟩
    · exact ⟨n, by omega, by rw [if_neg q], fun w => absurd (op_in hvo hs w).1 q⟩
  obtain ⟨B, hB1, hB2, hB3⟩ := hB
  rw [hB2]
  refine ⟨_, s_signAt T y.1 h13 hB1, ?_⟩
  rintro _ h ⟨rfl, rfl⟩
  have hx : isOpB (t s) = true → (if s + 1 < n then h.2.2.1 a (s + 1) else 0) = t (s + 1) ∧ (if B < n then h.2.2.1 a B else 0) = t (s + 1 + sz t n (s + 1)) := by
    intro w
    obtain ⟨p1, p2⟩ := op_in hvo hs w
    rw [hB3 w, if_pos p1, if_pos p2, y.2.2.1 _ p1, y.2.2.1 _ p2]
    exact ⟨rfl, rfl⟩
  refine ⟨fun q => tail _ _ true true (by simp [q]) (by simp [q]) hx, fun q => ⟨fun q2 => ⟨fun q3 => tail _ _ false false (by simp [q, q2]) (by simp [q, q3]) hx, fun q3 => tail _ _ false true (by simp [q, q2]) (by simp [q3]) hx⟩, fun q2 => ⟨fun q3 => tail _ _ true false (by simp [q2]) (by simp [q, q3]) hx, fun q3 => tail _ _ true true (by simp [q2]) (by simp [q3]) hx⟩⟩⟩
end SUITS2

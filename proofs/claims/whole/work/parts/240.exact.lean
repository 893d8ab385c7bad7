/-! ===== exact fractions: the meaning ===== -/
theorem l_div {a b : Int} (a1 : a.natAbs < 2 ^ 62) (b1 : b.natAbs < 2 ^ 62) : Int64.ofInt a / Int64.ofInt b = Int64.ofInt (a.tdiv b) := by
  have hq := Int.natAbs_tdiv_le_natAbs a b
  rw [← Int64.toInt_inj, Int64.toInt_div_of_ne_left, lO_toInt (by omega) (by omega), lO_toInt (by omega) (by omega), lO_toInt (by omega) (by omega)]
  intro e
  have e := congrArg Int64.toInt e
  rw [lO_toInt (by omega) (by omega), show (Int64.minValue).toInt = -2 ^ 63 from rfl] at e
  omega
/-- what a sign makes of two fractions, not cut down; 0 by 0 where it divides by 0 -/
def opC (c : Int32) (A B : Int × Int) : Int × Int :=
  if A.2 = 0 ∨ B.2 = 0 then (0, 0) else if c = 47 then (if B.1 < 0 then -A.1 * B.2 else A.1 * B.2, A.2 * B.1.natAbs)
  else (if c = 42 then A.1 * B.1 else if c = 43 then A.1 * B.2 + B.1 * A.2 else A.1 * B.2 - B.1 * A.2, A.2 * B.2)
def frC (f t : Nat → Int32) (n i : Nat) : Int × Int := ev (fun c => (lfX f c, 1)) opC t n i
/-- how many letters and digits a part has -/
def lvC (t : Nat → Int32) (n i : Nat) : Nat := ev (fun _ => 1) (fun _ a b => a + b) t n i
theorem lvC_sz {o : Nat → Nat} {t : Nat → Int32} {n : Nat} (hv : valO o t n) : ∀ i, i < n → 2 * lvC t n i = sz t n i + 1 := by
  refine right_ind n (fun i hi ih => ?_)
  unfold lvC at *
  cases c : isOpB (t i)
  · rw [ev_leaf c, sz_leaf c]
  · obtain ⟨h1, h2⟩ := op_in hv hi c
    have hp := sz_pos t n (i + 1)
    rw [ev_op hv hi c, sz_op hv hi c]
    have a := ih (i + 1) (by omega) h1
    have b := ih _ (by omega) h2
    omega
/-- a fraction of k letters and digits: neither number is great -/
def frB (k : Nat) (A : Int × Int) : Prop := 2 * A.1.natAbs ≤ 208 ^ k ∧ 2 * A.2.natAbs ≤ 208 ^ k ∧ 0 ≤ A.2
theorem mulB {a b k j : Nat} (h1 : 2 * a ≤ 208 ^ k) (h2 : 2 * b ≤ 208 ^ j) : 4 * (a * b) ≤ 208 ^ (k + j) := by
  have := Nat.mul_le_mul h1 h2
  rw [← Nat.pow_add] at this
  have e : 2 * a * (2 * b) = 4 * (a * b) := by
    rw [Nat.mul_assoc, Nat.mul_left_comm a 2 b, ← Nat.mul_assoc]
  omega
theorem opC_B {c : Int32} {A B : Int × Int} {k j : Nat} (ha : frB k A) (hb : frB j B) : frB (k + j) (opC c A B) := by
  obtain ⟨a1, a2, a3⟩ := ha
  obtain ⟨b1, b2, b3⟩ := hb
  have p11 := mulB a1 b1
  have p12 := mulB a1 b2
  have p21 := mulB a2 b1
  have p22 := mulB a2 b2
  have e11 := Int.natAbs_mul A.1 B.1
  have e12 := Int.natAbs_mul A.1 B.2
  have e21 := Int.natAbs_mul B.1 A.2
  have e22 := Int.natAbs_mul A.2 B.2
  have e21' := Nat.mul_comm B.1.natAbs A.2.natAbs
  unfold opC
  split
  · exact ⟨by simp, by simp, by simp⟩
  · split
    · refine ⟨?_, ?_, ?_⟩
      · split
        · have := Int.natAbs_mul (-A.1) B.2
          rw [Int.natAbs_neg] at this
          simp only
          omega
        · simp only
          omega
      · have := Int.natAbs_mul A.2 (B.1.natAbs : Int)
        rw [Int.natAbs_natCast] at this
        simp only
        omega
      · exact Int.mul_nonneg a3 (by omega)
    · refine ⟨?_, ?_, ?_⟩
      · simp only
        split
        · omega
        · split <;> omega
      · simp only
        omega
      · exact Int.mul_nonneg a3 b3
theorem frC_B' {o : Nat → Nat} {f t : Nat → Int32} {n : Nat} (hv : valO o t n) (hf : nmB f) : ∀ i, i < n → frB (lvC t n i) (frC f t n i) := by
  refine right_ind n (fun i hi ih => ?_)
  cases c : isOpB (t i)
  · have e1 : frC f t n i = (lfX f (t i), 1) := ev_leaf c
    have e2 : lvC t n i = 1 := ev_leaf c
    have := lfX_bd (c := t i) hf
    rw [e1, e2]
    exact ⟨by simp only; omega, by simp, by simp⟩
  · obtain ⟨h1, h2⟩ := op_in hv hi c
    have hp := sz_pos t n (i + 1)
    have e1 : frC f t n i = opC (t i) (frC f t n (i + 1)) (frC f t n (i + 1 + sz t n (i + 1))) := ev_op hv hi c
    have e2 : lvC t n i = lvC t n (i + 1) + lvC t n (i + 1 + sz t n (i + 1)) := ev_op hv hi c
    rw [e1, e2]
    exact opC_B (ih _ (by omega) h1) (ih _ (by omega) h2)
/-- of a whole text's parts: both numbers, a thousandfold, are longs -/
theorem frC_small {f t : Nat → Int32} {n : Nat} (hv : TxV t n) (hf : nmB f) {i : Nat} (hi : i < n) : (frC f t n i).1.natAbs ≤ 8421963387109376 ∧ (frC f t n i).2.natAbs ≤ 8421963387109376 ∧ 0 ≤ (frC f t n i).2 := by
  obtain ⟨⟨o, hvo⟩, h13, _⟩ := hv
  obtain ⟨b1, b2, b3⟩ := frC_B' hvo hf i hi
  have e := lvC_sz hvo i hi
  have hs := sz_le hvo hi
  have h7 : (208 : Nat) ^ lvC t n i ≤ 208 ^ 7 := Nat.pow_le_pow_right (by decide) (by omega)
  have e7 : (208 : Nat) ^ 7 = 16843926774218752 := by decide
  rw [e7] at h7
  exact ⟨by omega, by omega, b3⟩
-- lowest terms
/-- by what a fraction is cut down -/
def byF (U L : Int) : Int := if L < 0 then -(Int.gcd U L : Int) else (Int.gcd U L : Int)
def nzF (U L : Int) : Int × Int := if L = 0 then (0, 0) else (U.tdiv (byF U L), L.tdiv (byF U L))
theorem byF_sc {k U L : Int} (hk : k ≠ 0) (hL : L ≠ 0) : byF (k * U) (k * L) = k * byF U L := by
  unfold byF
  rw [Int.gcd_mul_left]
  rcases Int.lt_or_gt_of_ne hk with h | h
  · rcases Int.lt_or_gt_of_ne hL with q | q
    · have := Int.mul_pos_of_neg_of_neg h q
      rw [if_neg (by omega), if_pos q, Int.natCast_mul, show ((k.natAbs : Nat) : Int) = -k by omega, Int.neg_mul, Int.mul_neg]
    · have := Int.mul_neg_of_neg_of_pos h q
      rw [if_pos this, if_neg (by omega), Int.natCast_mul, show ((k.natAbs : Nat) : Int) = -k by omega, Int.neg_mul, Int.neg_neg]
  · rcases Int.lt_or_gt_of_ne hL with q | q
    · have := Int.mul_neg_of_pos_of_neg h q
      rw [if_pos this, if_pos q, Int.natCast_mul, show ((k.natAbs : Nat) : Int) = k by omega, Int.mul_neg]
    · have := Int.mul_pos h q
      rw [if_neg (by omega), if_neg (by omega), Int.natCast_mul, show ((k.natAbs : Nat) : Int) = k by omega]
theorem tdiv_sc {k : Int} (hk : k ≠ 0) (a b : Int) : (k * a).tdiv (k * b) = a.tdiv b := by
  rcases Int.lt_or_gt_of_ne hk with h | h
  · have e : ∀ x : Int, k * x = -((-k) * x) := fun x => by rw [Int.neg_mul, Int.neg_neg]
    rw [e a, e b, Int.neg_tdiv_neg, Int.mul_tdiv_mul_of_pos _ _ (by omega)]
  · exact Int.mul_tdiv_mul_of_pos _ _ h
theorem nzF_sc {k U L : Int} (hk : k ≠ 0) : nzF (k * U) (k * L) = nzF U L := by
  unfold nzF
  by_cases hL : L = 0
  · subst hL; simp
  · rw [if_neg hL, if_neg (Int.mul_ne_zero hk hL), byF_sc hk hL, tdiv_sc hk, tdiv_sc hk]
/-- the part's fraction in lowest terms -/
def frR (f t : Nat → Int32) (n i : Nat) : Int × Int := nzF (frC f t n i).1 (frC f t n i).2
theorem byF_pos {U L : Int} (h : 0 < L) : 0 < byF U L := by
  unfold byF
  rw [if_neg (by omega)]
  have := Int.gcd_pos_of_ne_zero_right U (b := L) (by omega)
  omega
theorem byF_dvd (U L : Int) : byF U L ∣ U ∧ byF U L ∣ L := by
  unfold byF
  split
  · exact ⟨Int.neg_dvd.mpr (Int.gcd_dvd_left ..), Int.neg_dvd.mpr (Int.gcd_dvd_right ..)⟩
  · exact ⟨Int.gcd_dvd_left .., Int.gcd_dvd_right ..⟩
theorem nzF_0 (U : Int) : nzF U 0 = (0, 0) := by unfold nzF; rw [if_pos rfl]
/-- a fraction is its lowest terms, so many times -/
theorem nzF_times {U L : Int} (h : 0 < L) : 0 < byF U L ∧ U = byF U L * (nzF U L).1 ∧ L = byF U L * (nzF U L).2 ∧ 0 < (nzF U L).2 := by
  have hp := byF_pos (U := U) h
  obtain ⟨d1, d2⟩ := byF_dvd U L
  have e1 := Int.mul_tdiv_cancel' d1
  have e2 := Int.mul_tdiv_cancel' d2
  have e : nzF U L = (U.tdiv (byF U L), L.tdiv (byF U L)) := by unfold nzF; rw [if_neg (by omega)]
  rw [e]
  refine ⟨hp, e1.symm, e2.symm, ?_⟩
  simp only
  rcases Int.lt_trichotomy (L.tdiv (byF U L)) 0 with q | q | q
  · have := Int.mul_neg_of_pos_of_neg hp q; omega
  · rw [q] at e2; omega
  · exact q
theorem nzF_le {U L : Int} : (nzF U L).1.natAbs ≤ U.natAbs ∧ (nzF U L).2.natAbs ≤ L.natAbs := by
  unfold nzF
  split
  · simp
  · exact ⟨Int.natAbs_tdiv_le_natAbs _ _, Int.natAbs_tdiv_le_natAbs _ _⟩
/-- what a sign makes of two fractions in lowest terms, before it is cut down -/
def opR (c : Int32) (a b : Int × Int) : Int × Int :=
  if a.2 = 0 ∨ b.2 = 0 then (0, 0) else if c = 43 then (a.1 * b.2 + b.1 * a.2, a.2 * b.2) else if c = 45 then (a.1 * b.2 - b.1 * a.2, a.2 * b.2) else if c = 42 then (a.1 * b.1, a.2 * b.2) else (a.1 * b.2, a.2 * b.1)
theorem m4 (k j a b : Int) : k * a * (j * b) = k * j * (a * b) := by
  rw [Int.mul_assoc, Int.mul_left_comm a j b, ← Int.mul_assoc]
theorem opR_nz {c : Int32} {A B : Int × Int} (hc : isOpB c = true) (hA : 0 ≤ A.2) (hB : 0 ≤ B.2) : nzF (opC c A B).1 (opC c A B).2 = nzF (opR c (nzF A.1 A.2) (nzF B.1 B.2)).1 (opR c (nzF A.1 A.2) (nzF B.1 B.2)).2 := by
  by_cases a0 : A.2 = 0
  · simp [opC, opR, a0, nzF_0]
  by_cases b0 : B.2 = 0
  · simp [opC, opR, b0, nzF_0]
  obtain ⟨pa, ea1, ea2, na⟩ := nzF_times (U := A.1) (L := A.2) (by omega)
  obtain ⟨pb, eb1, eb2, nb⟩ := nzF_times (U := B.1) (L := B.2) (by omega)
  have hk : byF A.1 A.2 * byF B.1 B.2 ≠ 0 := Int.mul_ne_zero (by omega) (by omega)
  generalize byF A.1 A.2 = ka at *
  generalize byF B.1 B.2 = kb at *
  generalize nzF A.1 A.2 = a at *
  generalize nzF B.1 B.2 = b at *
  have x12 : A.1 * B.2 = ka * kb * (a.1 * b.2) := by rw [ea1, eb2, m4]
  have x11 : A.1 * B.1 = ka * kb * (a.1 * b.1) := by rw [ea1, eb1, m4]
  have x21 : B.1 * A.2 = ka * kb * (b.1 * a.2) := by rw [ea2, eb1, Int.mul_comm, m4, Int.mul_comm a.2]
  have x21' : A.2 * B.1 = ka * kb * (a.2 * b.1) := by rw [ea2, eb1, m4]
  have x22 : A.2 * B.2 = ka * kb * (a.2 * b.2) := by rw [ea2, eb2, m4]
  have hR : ¬ (a.2 = 0 ∨ b.2 = 0) := by omega
  have hC : ¬ (A.2 = 0 ∨ B.2 = 0) := by simp [a0, b0]
  unfold opC opR
  rw [if_neg hC, if_neg hR]
  rcases op4 hc with rfl | rfl | rfl | rfl
  · rw [if_neg (by decide), if_neg (by decide), if_pos rfl, if_pos rfl]
    simp only
    rw [x12, x21, x22, ← Int.mul_add, nzF_sc hk]
  · rw [if_neg (by decide), if_neg (by decide), if_neg (by decide), if_neg (by decide), if_pos rfl]
    simp only
    rw [x12, x21, x22, ← Int.mul_sub, nzF_sc hk]
  · rw [if_neg (by decide), if_pos rfl, if_neg (by decide), if_neg (by decide), if_pos rfl]
    simp only
    rw [x11, x22, nzF_sc hk]
  · rw [if_pos (show (47 : Int32) = 47 from rfl), if_neg (show ¬ (47 : Int32) = 43 by decide), if_neg (show ¬ (47 : Int32) = 45 by decide), if_neg (show ¬ (47 : Int32) = 42 by decide)]
    simp only
    by_cases hn : B.1 < 0
    · rw [if_pos hn, show ((B.1.natAbs : Nat) : Int) = -B.1 by omega, Int.neg_mul, Int.mul_neg, x12, x21', ← Int.neg_mul (ka * kb), ← Int.neg_mul (ka * kb), nzF_sc (by omega)]
    · rw [if_neg hn, show ((B.1.natAbs : Nat) : Int) = B.1 by omega, x12, x21', nzF_sc hk]
theorem frR_op {o : Nat → Nat} {f t : Nat → Int32} {n : Nat} (hv : valO o t n) (hf : nmB f) {i : Nat} (hi : i < n) (c : isOpB (t i) = true) : frR f t n i = nzF (opR (t i) (frR f t n (i + 1)) (frR f t n (i + 1 + sz t n (i + 1)))).1 (opR (t i) (frR f t n (i + 1)) (frR f t n (i + 1 + sz t n (i + 1)))).2 := by
  obtain ⟨h1, h2⟩ := op_in hv hi c
  have e1 : frC f t n i = opC (t i) (frC f t n (i + 1)) (frC f t n (i + 1 + sz t n (i + 1))) := ev_op hv hi c
  unfold frR
  rw [e1]
  exact opR_nz c (frC_B' hv hf _ h1).2.2 (frC_B' hv hf _ h2).2.2
/-- the numbers before cutting down are small -/
theorem opR_small {k j : Nat} {c : Int32} {A B : Int × Int} (ha : frB k A) (hb : frB j B) : 2 * (opR c (nzF A.1 A.2) (nzF B.1 B.2)).1.natAbs ≤ 208 ^ (k + j) ∧ 2 * (opR c (nzF A.1 A.2) (nzF B.1 B.2)).2.natAbs ≤ 208 ^ (k + j) := by
  obtain ⟨a1, a2, a3⟩ := ha
  obtain ⟨b1, b2, b3⟩ := hb
  have la := nzF_le (U := A.1) (L := A.2)
  have lb := nzF_le (U := B.1) (L := B.2)
  generalize nzF A.1 A.2 = a at *
  generalize nzF B.1 B.2 = b at *
  have a1 : 2 * a.1.natAbs ≤ 208 ^ k := by omega
  have a2 : 2 * a.2.natAbs ≤ 208 ^ k := by omega
  have b1 : 2 * b.1.natAbs ≤ 208 ^ j := by omega
  have b2 : 2 * b.2.natAbs ≤ 208 ^ j := by omega
  have p11 := mulB a1 b1
  have p12 := mulB a1 b2
  have p21 := mulB a2 b1
  have p22 := mulB a2 b2
  have e11 := Int.natAbs_mul a.1 b.1
  have e12 := Int.natAbs_mul a.1 b.2
  have e21 := Int.natAbs_mul b.1 a.2
  have e21b := Int.natAbs_mul a.2 b.1
  have e22 := Int.natAbs_mul a.2 b.2
  have e21' := Nat.mul_comm b.1.natAbs a.2.natAbs
  unfold opR
  split
  · simp
  · split
    · exact ⟨by simp only; omega, by simp only; omega⟩
    · split
      · exact ⟨by simp only; omega, by simp only; omega⟩
      · split
        · exact ⟨by simp only; omega, by simp only; omega⟩
        · exact ⟨by simp only; omega, by simp only; omega⟩
-- billionths
/-- in billionths: cut down (e = 0), up (1), towards 0 (else) -/
def biF (e : Int) (u l : Int) : Int :=
  if l = 0 then 1000000000000000000 else if 10000000 ≤ u.natAbs / l.natAbs then 1000000000000000000
  else sgF (decide (u < 0)) (u.natAbs * 10 ^ 9 / l.natAbs + if ¬ u.natAbs * 10 ^ 9 % l.natAbs = 0 ∧ ((e = 0 ∧ u < 0) ∨ (e = 1 ∧ ¬ u < 0)) then 1 else 0)
theorem biF_sc {e k u l : Int} (hk : 0 < k) : biF e (k * u) (k * l) = biF e u l := by
  unfold biF
  by_cases hl : l = 0
  · subst hl; simp
  have hkl : k * l ≠ 0 := Int.mul_ne_zero (by omega) hl
  have hkn : 0 < k.natAbs := by omega
  have hlt : (k * u < 0) ↔ u < 0 := by
    constructor
    · intro h
      rcases (show u < 0 ∨ 0 ≤ u by omega) with q | q
      · exact q
      · have := Int.mul_nonneg (show 0 ≤ k by omega) q; omega
    · intro h; exact Int.mul_neg_of_pos_of_neg hk h
  rw [if_neg hl, if_neg hkl]
  simp only [Int.natAbs_mul, hlt]
  rw [Nat.mul_div_mul_left _ _ hkn, Nat.mul_assoc, Nat.mul_div_mul_left _ _ hkn, Nat.mul_mod_mul_left]
  have h0 : (k.natAbs * (u.natAbs * 10 ^ 9 % l.natAbs) = 0) ↔ u.natAbs * 10 ^ 9 % l.natAbs = 0 := by
    rw [Nat.mul_eq_zero]
    constructor
    · rintro (h | h)
      · omega
      · exact h
    · exact Or.inr
  simp only [h0]
theorem biF_nz {e u l : Int} (hl : 0 ≤ l) : biF e (nzF u l).1 (nzF u l).2 = biF e u l := by
  by_cases h : l = 0
  · subst h; rw [nzF_0]; simp [biF]
  · obtain ⟨p, e1, e2, _⟩ := nzF_times (U := u) (L := l) (by omega)
    have := biF_sc (e := e) (u := (nzF u l).1) (l := (nzF u l).2) p
    rw [← e1, ← e2] at this
    exact this.symm
theorem mulc_div (M D c : Nat) (h : 0 < D) : M / D * c + M % D * c / D = M * c / D ∧ (M % D * c) % D = (M * c) % D := by
  have e : M * c = D * (M / D * c) + M % D * c := by
    have := Nat.div_add_mod M D
    calc M * c = (D * (M / D) + M % D) * c := by rw [this]
      _ = D * (M / D * c) + M % D * c := by rw [Nat.add_mul, Nat.mul_assoc]
  constructor
  · rw [e, Nat.mul_add_div h]
  · rw [e, Nat.mul_add_mod]

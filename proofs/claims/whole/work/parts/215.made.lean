/-! ===== the reference's made ===== -/
/-- only the reference's own scratch fields 2 to 6 may differ -/
def mScr (m : Nat) (h h' : fH) : Prop := (∀ a k, (a ≠ m ∨ k < 2 ∨ 7 ≤ k) → h'.1 a k = h.1 a k ∧ h'.2.1 a k = h.2.1 a k) ∧ h'.2.2 = h.2.2
theorem mScr.rf {m : Nat} {h : fH} : mScr m h h := ⟨fun _ _ _ => ⟨rfl, rfl⟩, rfl⟩
theorem mScr.tr {m : Nat} {h h1 h2 : fH} (a : mScr m h h1) (b : mScr m h1 h2) : mScr m h h2 := ⟨fun x k hk => ⟨(b.1 x k hk).1.trans (a.1 x k hk).1, (b.1 x k hk).2.trans (a.1 x k hk).2⟩, b.2.trans a.2⟩
theorem mScr.fl {m k : Nat} {h h1 : fH} {v : Int64} (a : mScr m h h1) (k1 : 2 ≤ k) (k2 : k ≤ 6) : mScr m h (u_fl h1 m k v) := by
  refine ⟨fun x j hj => ⟨(a.1 x j hj).1, ?_⟩, a.2⟩
  rw [← (a.1 x j hj).2]
  by_cases hx : x = m
  · subst hx
    have : j ≠ k := by omega
    simp [u_fl, vp_updL, this]
  · simp [u_fl, hx]
theorem mScr.fi {m k : Nat} {h h1 : fH} {v : Int32} (a : mScr m h h1) (k1 : 2 ≤ k) (k2 : k ≤ 6) : mScr m h (u_fi h1 m k v) := by
  refine ⟨fun x j hj => ⟨?_, (a.1 x j hj).2⟩, a.2⟩
  rw [← (a.1 x j hj).1]
  by_cases hx : x = m
  · subst hx
    have : j ≠ k := by omega
    simp [u_fi, upd, this]
  · simp [u_fi, hx]
theorem u_fl_s (h : fH) (r k : Nat) (v : Int64) : (u_fl h r k v).2.1 r k = v := by simp [u_fl, vp_updL]
theorem u_fl_n (h : fH) {r k j : Nat} (v : Int64) (hj : j ≠ k) : (u_fl h r k v).2.1 r j = h.2.1 r j := by simp [u_fl, vp_updL, hj]
theorem u_fl_1 (h : fH) (r k : Nat) (v : Int64) : (u_fl h r k v).1 = h.1 := rfl
theorem u_fi_s (h : fH) (r k : Nat) (v : Int32) : (u_fi h r k v).1 r k = v := by simp [u_fi, upd]
theorem u_fi_n (h : fH) {r k j : Nat} (v : Int32) (hj : j ≠ k) : (u_fi h r k v).1 r j = h.1 r j := by simp [u_fi, upd, hj]
theorem u_fi_2 (h : fH) (r k : Nat) (v : Int32) : (u_fi h r k v).2 = h.2 := rfl
/-- a number without the zeros that it ends with -/
def stI (A : Int) : Nat := A.natAbs / 10 ^ tzI A
theorem tz_div : ∀ f n : Nat, 10 ^ tzK f n * (n / 10 ^ tzK f n) = n
  | 0, n => by simp [tzK]
  | f + 1, n => by
    simp only [tzK]
    split
    · next c =>
      have ih := tz_div f (n / 10)
      have hn : 10 * (n / 10) = n := by omega
      rw [Nat.pow_succ, Nat.mul_comm (10 ^ tzK f (n / 10)) 10, ← Nat.div_div_eq_div_mul, Nat.mul_assoc, ih, hn]
    · simp
theorem stI_pos {A : Int} (h : A ≠ 0) : 1 ≤ stI A := by
  have := tz_div 16 A.natAbs
  rcases Nat.eq_zero_or_pos (stI A) with z | z
  · unfold stI tzI at z
    rw [z] at this
    omega
  · exact z
/-- a decimal of few digits, in billionths -/
def dcm (x : Int64) : Prop := x.toInt.natAbs < 10 ^ 16 ∧ stI x.toInt < 10 ^ 4
section MADE
variable {d : Nat} {S : fW} {h : fH} {m : Nat} {i : Nat → Nat} {D W : Nat} {tiny : Bool}
theorem s_shorten {x : Int64} (hm : (m, shM i) ∈ S) (hx : x.toInt.natAbs < 10 ^ 16) : OkV (d + 1) mX12_shorten S [.ref m, .long x] h (fun k => k.2.1 m 2 = lN (stI x.toInt) ∧ k.1 m 3 = nI (tzI x.toInt) ∧ mScr m h k) := by
  refine TX12_shorten_0 (ok1 := s_size) (hs1 := hm) ?_
  rintro v k ⟨rfl, rfl⟩
  rw [absL_nat (by omega)]
  have key : ∀ (f j : Nat) (g : fH), f + j = 16 → tzI x.toInt = j + tzK f (x.toInt.natAbs / 10 ^ j) → g.2.1 m 2 = lN (x.toInt.natAbs / 10 ^ j) → g.1 m 3 = nI j → mScr m k g → G mX12_shorten (d + 1) S (f_PV (fun k' => k'.2.1 m 2 = lN (stI x.toInt) ∧ k'.1 m 3 = nI (tzI x.toInt) ∧ mScr m k k')) 13 [(0, .ref m)] [] g := by
    intro f
    induction f with
    | zero =>
      intro j g hj ht h2 h3 hs
      have e : j = 16 := by omega
      subst e
      have hz : x.toInt.natAbs / 10 ^ 16 = 0 := Nat.div_eq_of_lt hx
      refine TX12_shorten_13 hm (fun _ => ?_) (fun a => ?_) (fun a => ?_)
      · refine ⟨?_, by rw [h3, ht]; rfl, hs⟩
        rw [h2, stI, ht]; rfl
      · exact absurd (by rw [h2, hz]; decide) a
      · exact absurd (by rw [h2, hz]; decide) a
    | succ f ih =>
      intro j g hj ht h2 h3 hs
      have hle : x.toInt.natAbs / 10 ^ j ≤ x.toInt.natAbs := Nat.div_le_self _ _
      have hnx : x.toInt.natAbs / 10 ^ (j + 1) = x.toInt.natAbs / 10 ^ j / 10 := by rw [Nat.pow_succ, Nat.div_div_eq_div_mul]
      have hst : stI x.toInt = x.toInt.natAbs / 10 ^ tzI x.toInt := rfl
      have done : tzK (f + 1) (x.toInt.natAbs / 10 ^ j) = 0 → (g.2.1 m 2 = lN (stI x.toInt) ∧ g.1 m 3 = nI (tzI x.toInt) ∧ mScr m k g) := by
        intro z
        rw [z, Nat.add_zero] at ht
        exact ⟨by rw [h2, stI, ht], by rw [h3, ht], hs⟩
      have ih2 := ih (j + 1)
      rw [hnx] at ih2
      generalize x.toInt.natAbs / 10 ^ j = q at *
      have e1 : (g.2.1 m 2 ≤ (0 : Int64)) ↔ q = 0 := by
        rw [h2, show (0 : Int64) = lN 0 from rfl, pk_lLE (by omega) (by decide)]; omega
      have e2 : (g.2.1 m 2 - g.2.1 m 2 / (10 : Int64) * (10 : Int64) = (0 : Int64)) ↔ q % 10 = 0 := by
        rw [h2, lN_10, lN_mod (by omega) (by decide) (by decide), show (0 : Int64) = lN 0 from rfl, pk_lEQ (by omega) (by decide)]
      have e3 : g.2.1 m 2 / (10 : Int64) = lN (q / 10) := by
        rw [h2, lN_10, lN_div (by omega) (by decide) (by decide)]
      refine TX12_shorten_13 hm (fun a => ?_) (fun a b => ?_) (fun a b => ?_)
      · rw [e1] at a
        exact done (by simp [tzK, a])
      · rw [e2] at b
        exact done (by simp [tzK, b])
      · rw [e1] at a
        rw [e2] at b
        rw [e3]
        refine ih2 _ (by omega) ?_ ?_ ?_ ((hs.fl (by decide) (by decide)).fi (by decide) (by decide))
        · rw [ht]
          simp only [tzK]
          rw [if_pos (And.intro a b)]
          omega
        · rw [u_fi_2, u_fl_s]
        · rw [u_fi_s, u_fl_1, h3, nI1]
  refine key 16 0 _ (by omega) (by simp [tzI]) ?_ ?_ ((mScr.rf.fl (by decide) (by decide)).fi (by decide) (by decide))
  · rw [u_fi_2, u_fl_s]; simp
  · rw [u_fi_s]; rfl
theorem s_layBoth {sg : Int32} {a b : Int64} (hm : (m, shM i) ∈ S) (ha : a.toInt.natAbs < 10 ^ 16) (hb : b.toInt.natAbs < 10 ^ 16) : OkV (d + 2) mX12_layBoth S [.ref m, .int sg, .long a, .long b] h
    (fun k => k.2.1 m 4 = lN (if sg = 42 then stI a.toInt * stI b.toInt else stI a.toInt) ∧ k.2.1 m 5 = lN (if sg = 42 then 1 else stI b.toInt) ∧ k.1 m 6 = Int32.ofInt (if sg = 42 then (tzI a.toInt + tzI b.toInt : Nat) - 18 else (tzI a.toInt : Int) - tzI b.toInt) ∧ mScr m h k) := by
  refine TX12_layBoth_0 hm (Q1 := fun k => k.2.1 m 2 = lN (stI a.toInt) ∧ k.1 m 3 = nI (tzI a.toInt) ∧ mScr m h k) (Q2 := fun h1 k => k.2.1 m 2 = lN (stI b.toInt) ∧ k.1 m 3 = nI (tzI b.toInt) ∧ mScr m h1 k) (s_shorten hm ha) (fun h1 _ => s_shorten hm hb) ?_ ?_
  · rintro h1 ⟨p1, p2, p3⟩ h2 ⟨q1, q2, q3⟩ c
    refine ⟨?_, ?_, ?_, (((p3.tr q3).fl (by decide) (by decide)).fl (by decide) (by decide)).fi (by decide) (by decide)⟩
    · rw [u_fi_2, u_fl_n _ _ (by decide), u_fl_s, p1, if_neg c]
    · rw [u_fi_2, u_fl_s, u_fl_n _ _ (by decide), q1, if_neg c]
    · rw [u_fi_s, u_fl_1, u_fl_1, p2, q2, if_neg c, Int32.ofInt_sub, nI_ofInt, nI_ofInt]
  · rintro h1 ⟨p1, p2, p3⟩ h2 ⟨q1, q2, q3⟩ c
    refine ⟨?_, ?_, ?_, (((p3.tr q3).fl (by decide) (by decide)).fl (by decide) (by decide)).fi (by decide) (by decide)⟩
    · rw [u_fi_2, u_fl_n _ _ (by decide), u_fl_s, p1, q1, if_pos c, lN_mul]
    · rw [u_fi_2, u_fl_s, if_pos c]; rfl
    · rw [u_fi_s, u_fl_1, u_fl_1, p2, q2, if_pos c, Int32.ofInt_sub, nI_ofInt, ← nI_add]; rfl
/-- what a sign makes of two decimals, rounded -/
def opF (D W : Nat) (tiny : Bool) (sg : Int32) (A B : Int) : Int := rndF D W tiny (decide (jN sg A B < 0)) (jN sg A B).natAbs (jD sg B) (jE sg A B)
def madeF (D W : Nat) (tiny : Bool) (sg : Int32) (a b : Int64) : Int64 :=
  if a = 1000000000000000000 ∨ b = 1000000000000000000 then 1000000000000000000
  else if ¬ (sg = 43 ∨ sg = 45 ∨ sg = 42) ∧ b = 0 then 1000000000000000000 else Int64.ofInt (opF D W tiny sg a.toInt b.toInt)
theorem rndF_0 {D W : Nat} {tiny below : Bool} {L : Nat} {t : Int} : rndF D W tiny below 0 L t = 0 := by simp [rndF]
theorem tdiv_neg_iff {A : Int} {k : Nat} (h : 1 ≤ A.natAbs / 10 ^ k) : A.tdiv (10 ^ k) < 0 ↔ A < 0 := by
  have hc : ((10 : Int) ^ k) = ((10 ^ k : Nat) : Int) := by rw [Int.natCast_pow]; rfl
  rw [hc]
  generalize 10 ^ k = p at *
  generalize hn : A.natAbs = n at *
  rcases (show A = (n : Int) ∨ A = -(n : Int) by omega) with e | e
  · rw [e, ← Int.ofNat_tdiv]; omega
  · have := Nat.div_le_self n p
    rw [e, Int.neg_tdiv, ← Int.ofNat_tdiv]; omega
/-- the end of made: the fraction is laid, it is rounded -/
theorem fin_made {sg s1 : Int32} {a b : Int64} {k : fH} (hm : (m, shM i) ∈ S) (hD : h.1 m 0 = nI D) (hD1 : 1 ≤ D) (hD4 : D ≤ 4) (hW3 : W ≤ 3) (da : dcm a) (db : dcm b) (a0 : ¬ a = 0) (b0 : ¬ b = 0) (n43 : ¬ sg = 43) (n45 : ¬ sg = 45) (hc : sg = 42 ∨ sg = 47)
    (k4 : k.2.1 m 4 = lN (if sg = 42 then stI a.toInt * stI b.toInt else stI a.toInt)) (k5 : k.2.1 m 5 = lN (if sg = 42 then 1 else stI b.toInt)) (k6 : k.1 m 6 = Int32.ofInt (if sg = 42 then (tzI a.toInt + tzI b.toInt : Nat) - 18 else (tzI a.toInt : Int) - tzI b.toInt)) (ks : mScr m h k) (hs1 : s1 = bI (decide (a.toInt < 0))) :
    G mX12_made (d + 3) S (f_PL (fun v k' => v = Int64.ofInt (opF D W tiny sg a.toInt b.toInt) ∧ mScr m h k')) 111 [(0, .ref m), (4, .long b), (6, .int (nI W)), (7, .int (bI tiny))] [.int s1, .ref m] k := by
  have nz : ∀ x : Int64, ¬ x = 0 → x.toInt ≠ 0 := fun x hx e => hx (Int64.toInt_inj.mp (by simpa using e))
  have pa := stI_pos (nz a a0)
  have pb := stI_pos (nz b b0)
  have ta : tzI a.toInt ≤ 16 := tzK_le 16 _
  have tb : tzI b.toInt ≤ 16 := tzK_le 16 _
  have qa : (a.toInt.tdiv (10 ^ tzI a.toInt)).natAbs = stI a.toInt := natAbs_tdiv10 _ _
  have qb : (b.toInt.tdiv (10 ^ tzI b.toInt)).natAbs = stI b.toInt := natAbs_tdiv10 _ _
  have sa := tdiv_neg_iff (A := a.toInt) (k := tzI a.toInt) pa
  have sb := tdiv_neg_iff (A := b.toInt) (k := tzI b.toInt) pb
  have d1 := da.2
  have d2 := db.2
  have hprod : stI a.toInt * stI b.toInt < 10 ^ 8 := Nat.lt_of_lt_of_le (Nat.mul_lt_mul'' d1 d2) (by decide)
  have hDk : k.1 m 0 = nI D := by rw [(ks.1 m 0 (by omega)).1, hD]
  have n1 : 1 ≤ (if sg = 42 then 1 else stI b.toInt) := by split <;> omega
  have n2 : (if sg = 42 then 1 else stI b.toInt) ≤ 10 ^ 16 := by split <;> omega
  have n3 : (if sg = 42 then stI a.toInt * stI b.toInt else stI a.toInt) < 10 ^ 17 := by split <;> omega
  have key : ∀ bel : Bool, bel = decide (jN sg a.toInt b.toInt < 0) → OkL (d + 2) mX12_rounded S [.ref m, .int (bI bel), .long (k.2.1 m 4), .long (k.2.1 m 5), .int (k.1 m 6), .int (nI W), .int (bI tiny)] k (fun v k' => v = Int64.ofInt (opF D W tiny sg a.toInt b.toInt) ∧ mScr m h k') := by
    intro bel hbel
    rw [k4, k5, k6]
    refine (s_rounded (d := d + 1) (S := S) (h := k) (r := m) (i := i) (D := D) (W := W) (tiny := tiny) (below := bel) hm hDk hD1 hD4 hW3 n3 n1 n2 (by split <;> omega) (by split <;> omega)).post ?_
    rintro v k' ⟨rfl, rfl⟩
    refine ⟨?_, ks⟩
    rw [opF, ← hbel]
    congr 1
    have e1 : (jN sg a.toInt b.toInt).natAbs = if sg = 42 then stI a.toInt * stI b.toInt else stI a.toInt := by
      simp only [jN, if_neg n43, if_neg n45]
      split
      · rw [Int.natAbs_mul, qa, qb]
      · split
        · rw [Int.natAbs_neg, qa]
        · rw [qa]
    have e2 : jD sg b.toInt = if sg = 42 then 1 else stI b.toInt := by
      simp only [jD, n43, n45, false_or]
      rfl
    have e3 : jE sg a.toInt b.toInt = (if sg = 42 then ((tzI a.toInt + tzI b.toInt : Nat) : Int) - 18 else (tzI a.toInt : Int) - tzI b.toInt) + 9 := by
      simp only [jE, n43, n45, false_or, if_false]
      split <;> omega
    rw [e1, e2, e3]
  have hsgn : decide (jN sg a.toInt b.toInt < 0) = (decide (a.toInt < 0) != decide (b.toInt < 0)) := by
    have hA0 : a.toInt.tdiv (10 ^ tzI a.toInt) ≠ 0 := by omega
    have hB0 : b.toInt.tdiv (10 ^ tzI b.toInt) ≠ 0 := by omega
    simp only [jN, if_neg n43, if_neg n45]
    by_cases c42 : sg = 42
    · rw [if_pos c42]
      by_cases x1 : a.toInt < 0 <;> by_cases x2 : b.toInt < 0
      · have y1 := sa.mpr x1
        have y2 := sb.mpr x2
        have := Int.mul_pos_of_neg_of_neg y1 y2
        simp [x1, x2]
        omega
      · have y1 := sa.mpr x1
        have y2 : 0 < b.toInt.tdiv (10 ^ tzI b.toInt) := by omega
        have := Int.mul_neg_of_neg_of_pos y1 y2
        simp [x1, x2]
        omega
      · have y1 : 0 < a.toInt.tdiv (10 ^ tzI a.toInt) := by omega
        have y2 := sb.mpr x2
        have := Int.mul_neg_of_pos_of_neg y1 y2
        simp [x1, x2]
        omega
      · have y1 : 0 < a.toInt.tdiv (10 ^ tzI a.toInt) := by omega
        have y2 : 0 < b.toInt.tdiv (10 ^ tzI b.toInt) := by omega
        have := Int.mul_pos y1 y2
        simp [x1, x2]
        omega
    · rw [if_neg c42]
      by_cases x1 : a.toInt < 0 <;> by_cases x2 : b.toInt < 0 <;> simp [x1, x2] <;> omega
  have eb0 : (0 : Int64) ≤ b ↔ ¬ b.toInt < 0 := by rw [Int64.le_iff_toInt_le]; simp
  subst hs1
  refine TX12_made_111 (Q1 := fun v k' => v = Int64.ofInt (opF D W tiny sg a.toInt b.toInt) ∧ mScr m h k') (Q2 := fun v k' => v = Int64.ofInt (opF D W tiny sg a.toInt b.toInt) ∧ mScr m h k') (Q3 := fun v k' => v = Int64.ofInt (opF D W tiny sg a.toInt b.toInt) ∧ mScr m h k') (Q4 := fun v k' => v = Int64.ofInt (opF D W tiny sg a.toInt b.toInt) ∧ mScr m h k') hm hm ?_ (fun _ _ v k z => z) ?_ (fun _ _ v k z => z) ?_ (fun _ _ v k z => z) ?_ (fun _ _ v k z => z)
  · intro x1 x2
    rw [eb0] at x1
    rw [bI_0] at x2
    exact key false (by rw [hsgn, x2]; simp; omega)
  · intro x1 x2
    rw [eb0] at x1
    rw [bI_n0] at x2
    exact key true (by rw [hsgn, x2]; simp; omega)
  · intro x1 x2
    rw [eb0] at x1
    have x3 : decide (a.toInt < 0) = true := by cases hq : decide (a.toInt < 0); rw [hq] at x2; exact absurd x2 (by decide); rfl
    exact key false (by rw [hsgn, x3]; simp; omega)
  · intro x1 x2
    rw [eb0] at x1
    have x3 : decide (a.toInt < 0) = false := by cases hq : decide (a.toInt < 0); rfl; rw [hq] at x2; exact absurd rfl x2
    exact key true (by rw [hsgn, x3]; simp; omega)
theorem s_made {sg : Int32} {a b : Int64} (hm : (m, shM i) ∈ S) (hD : h.1 m 0 = nI D) (hD1 : 1 ≤ D) (hD4 : D ≤ 4) (hW3 : W ≤ 3) (hs : sg = 43 ∨ sg = 45 ∨ sg = 42 ∨ sg = 47) (ha : a = 1000000000000000000 ∨ dcm a) (hb : b = 1000000000000000000 ∨ dcm b) :
    OkL (d + 3) mX12_made S [.ref m, .int sg, .long a, .long b, .int (nI W), .int (bI tiny)] h (fun v k => v = madeF D W tiny sg a b ∧ mScr m h k) := by
  have hmin : (10 : Int64) = 10 := rfl
  have w47 : ¬ (sg = 43 ∨ sg = 45 ∨ sg = 42) → sg = 47 := fun z => by
    rcases hs with z1 | z1 | z1 | z1
    · exact absurd (Or.inl z1) z
    · exact absurd (Or.inr (Or.inl z1)) z
    · exact absurd (Or.inr (Or.inr z1)) z
    · exact z1
  have hda : ¬ a = 1000000000000000000 → dcm a := fun z => ha.resolve_left z
  have hdb : ¬ b = 1000000000000000000 → dcm b := fun z => hb.resolve_left z
  -- sums and differences
  have plus : ∀ x : Int64, x.toInt.natAbs < 10 ^ 17 → x = Int64.ofInt (jN sg a.toInt b.toInt) → (sg = 43 ∨ sg = 45) → (jN sg a.toInt b.toInt).natAbs < 10 ^ 17 → OkL (d + 2) mX12_roundOf S [.ref m, .long x, .int (nI W), .int (bI tiny)] h (fun v k => v = Int64.ofInt (opF D W tiny sg a.toInt b.toInt) ∧ k = h) := by
    intro x hx e hsg hj
    have ht : x.toInt = jN sg a.toInt b.toInt := by rw [e, lO_toInt (by omega) (by omega)]
    have := s_mroundOf (d := d) (S := S) (h := h) (r := m) (i := i) (D := D) (W := W) (tiny := tiny) (x := x) hm hD hD1 hD4 hW3 hx
    refine this.post ?_
    rintro v k ⟨rfl, rfl⟩
    refine ⟨?_, rfl⟩
    rw [opF, ht]
    have e1 : jD sg b.toInt = 1 := by rcases hsg with rfl | rfl <;> simp [jD]
    have e2 : jE sg a.toInt b.toInt = 0 := by rcases hsg with rfl | rfl <;> simp [jE]
    rw [e1, e2]
  -- products and quotients
  have prod : ¬ a = 1000000000000000000 → ¬ b = 1000000000000000000 → ¬ sg = 43 → ¬ sg = 45 → (sg = 42 ∨ (sg = 47 ∧ ¬ b = 0)) → G mX12_made (d + 3) S (f_PL (fun v k => v = madeF D W tiny sg a b ∧ mScr m h k)) 76 [(0, .ref m), (1, .int sg), (2, .long a), (4, .long b), (6, .int (nI W)), (7, .int (bI tiny))] [] h := by
    intro na nb n43 n45 hc
    have da := hda na
    have db := hdb nb
    have hmf : madeF D W tiny sg a b = Int64.ofInt (opF D W tiny sg a.toInt b.toInt) := by
      unfold madeF
      rw [if_neg (by simp [na, nb]), if_neg]
      rintro ⟨z1, z2⟩
      rcases hc with z | ⟨z, z3⟩
      · exact z1 (Or.inr (Or.inr z))
      · exact z3 z2
    have zero : a = 0 ∨ b = 0 → madeF D W tiny sg a b = 0 := by
      intro z
      have hj : jN sg a.toInt b.toInt = 0 := by
        simp only [jN, if_neg n43, if_neg n45]
        rcases hc with rfl | ⟨rfl, z3⟩
        · rw [if_pos rfl]
          rcases z with rfl | rfl <;> simp
        · rw [if_neg (by decide)]
          rcases z with rfl | rfl
          · simp
          · exact absurd rfl z3
      rw [hmf, opF, hj]
      simp [rndF_0]
    refine TX12_made_76 (Q1 := fun k => k.2.1 m 4 = lN (if sg = 42 then stI a.toInt * stI b.toInt else stI a.toInt) ∧ k.2.1 m 5 = lN (if sg = 42 then 1 else stI b.toInt) ∧ k.1 m 6 = Int32.ofInt (if sg = 42 then (tzI a.toInt + tzI b.toInt : Nat) - 18 else (tzI a.toInt : Int) - tzI b.toInt) ∧ mScr m h k) (fun z => ⟨(zero (Or.inl z)).symm, mScr.rf⟩) hm (fun _ _ => s_layBoth hm da.1 db.1) ?_ ?_ (fun _ z => ⟨(zero (Or.inr z)).symm, mScr.rf⟩)
    all_goals
      rintro a0 b0 k ⟨k4, k5, k6, ks⟩ sa
    · have fin := fin_made (tiny := tiny) (d := d) hm hD hD1 hD4 hW3 da db a0 b0 n43 n45 (hc.imp_right And.left) k4 k5 k6 ks (s1 := 0) (by rw [Int64.le_iff_toInt_le] at sa; simp at sa; simp [bI]; omega)
      rw [← hmf] at fin
      exact fin
    · have fin := fin_made (tiny := tiny) (d := d) hm hD hD1 hD4 hW3 da db a0 b0 n43 n45 (hc.imp_right And.left) k4 k5 k6 ks (s1 := 1) (by rw [Int64.le_iff_toInt_le] at sa; simp at sa; simp [bI]; omega)
      rw [← hmf] at fin
      exact fin
  have hsm : ∀ x y : Int64, dcm x → dcm y → x.toInt.natAbs < 10 ^ 16 ∧ y.toInt.natAbs < 10 ^ 16 := fun x y p q => ⟨p.1, q.1⟩
  refine TX12_made_0 (Q1 := fun v k => v = Int64.ofInt (opF D W tiny sg a.toInt b.toInt) ∧ k = h) (Q2 := fun v k => v = Int64.ofInt (opF D W tiny sg a.toInt b.toInt) ∧ k = h) (fun z => ⟨by simp [madeF, z], mScr.rf⟩) hm ?_ ?_ ?_ ?_ ?_ ?_ ?_ (fun _ z => ⟨by simp [madeF, z], mScr.rf⟩)
  · intro na nb e43
    obtain ⟨p, q⟩ := hsm a b (hda na) (hdb nb)
    have hj : jN sg a.toInt b.toInt = a.toInt + b.toInt := by simp [jN, e43]
    have he : a + b = Int64.ofInt (jN sg a.toInt b.toInt) := by rw [hj, Int64.ofInt_add, Int64.ofInt_toInt, Int64.ofInt_toInt]
    refine plus _ ?_ he (Or.inl e43) (by rw [hj]; omega)
    rw [he, hj, lO_toInt (by omega) (by omega)]
    omega
  · rintro na nb e43 v k ⟨rfl, rfl⟩
    refine ⟨?_, mScr.rf⟩
    unfold madeF
    rw [if_neg (by simp [na, nb]), if_neg (by simp [e43])]
  · intro na nb n43 n45 n47
    refine prod na nb n43 n45 (Or.inl ?_)
    rcases hs with z | z | z | z
    · exact absurd z n43
    · exact absurd z n45
    · exact z
    · exact absurd z n47
  · intro na nb n43 n45 e47 b0
    exact prod na nb n43 n45 (Or.inr ⟨e47, b0⟩)
  · intro na nb n43 n45 e47 b0
    refine ⟨?_, mScr.rf⟩
    unfold madeF
    rw [if_neg (by simp [na, nb]), if_pos]
    refine ⟨?_, b0⟩
    subst e47
    decide
  · intro na nb n43 e45
    obtain ⟨p, q⟩ := hsm a b (hda na) (hdb nb)
    have hj : jN sg a.toInt b.toInt = a.toInt - b.toInt := by simp [jN, e45]
    have he : a - b = Int64.ofInt (jN sg a.toInt b.toInt) := by rw [hj, Int64.ofInt_sub, Int64.ofInt_toInt, Int64.ofInt_toInt]
    refine plus _ ?_ he (Or.inr e45) (by rw [hj]; omega)
    rw [he, hj, lO_toInt (by omega) (by omega)]
    omega
  · rintro na nb n43 e45 v k ⟨rfl, rfl⟩
    refine ⟨?_, mScr.rf⟩
    unfold madeF
    rw [if_neg (by simp [na, nb]), if_neg (by simp [e45])]
end MADE

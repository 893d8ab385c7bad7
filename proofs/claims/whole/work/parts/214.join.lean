/-! ===== Ratio: hold, lastZeros, join, cut ===== -/
def tzK : Nat → Nat → Nat
  | 0, _ => 0
  | f + 1, n => if ¬ n = 0 ∧ n % 10 = 0 then tzK f (n / 10) + 1 else 0
theorem tzK_le : ∀ f n, tzK f n ≤ f
  | 0, n => by simp [tzK]
  | f + 1, n => by
    simp only [tzK]
    split
    · have := tzK_le f (n / 10); omega
    · omega
/-- what lies in a Ratio -/
def holdH (h : fH) (r : Nat) (u l : Int64) (t : Int32) : fH := u_fi (u_fl (u_fl h r 0 u) r 1 l) r 2 t
theorem holdH_u (h : fH) (r : Nat) (u l : Int64) (t : Int32) : (holdH h r u l t).2.1 r 0 = u := by simp [holdH, u_fi, u_fl, vp_updL]
theorem holdH_l (h : fH) (r : Nat) (u l : Int64) (t : Int32) : (holdH h r u l t).2.1 r 1 = l := by simp [holdH, u_fi, u_fl, vp_updL]
theorem holdH_t (h : fH) (r : Nat) (u l : Int64) (t : Int32) : (holdH h r u l t).1 r 2 = t := by simp [holdH, u_fi, u_fl, upd]
theorem holdH_1 (h : fH) {r a : Nat} (u l : Int64) (t : Int32) (ha : a ≠ r) : (holdH h r u l t).1 a = h.1 a := by simp [holdH, u_fi, u_fl, ha]
theorem holdH_2 (h : fH) {r a : Nat} (u l : Int64) (t : Int32) (ha : a ≠ r) : (holdH h r u l t).2.1 a = h.2.1 a := by simp [holdH, u_fi, u_fl, ha]
theorem holdH_3 (h : fH) (r : Nat) (u l : Int64) (t : Int32) : (holdH h r u l t).2.2 = h.2.2 := by simp [holdH, u_fi, u_fl]
theorem tdivN_abs (A : Int) (n : Nat) : (A.tdiv (n : Int)).natAbs = A.natAbs / n := Int.natAbs_tdiv A n
theorem tdiv10_abs (A : Int) : (A.tdiv 10).natAbs = A.natAbs / 10 := Int.natAbs_tdiv A 10
theorem tmod10_abs (A : Int) : (A.tmod 10).natAbs = A.natAbs % 10 := Int.natAbs_tmod A 10
theorem l_div10 (x : Int64) : x / 10 = Int64.ofInt (x.toInt.tdiv 10) := by
  rw [← Int64.toInt_inj, Int64.toInt_div_of_ne_right x 10 (by decide)]
  have h1 := Int64.le_toInt x
  have h2 := Int64.toInt_lt x
  rw [show (10 : Int64).toInt = 10 from rfl, lO_toInt]
  · have := tdiv10_abs x.toInt; omega
  · have := tdiv10_abs x.toInt; omega
theorem l_rem10 (x : Int64) : (x - x / 10 * 10 = 0) ↔ x.toInt.natAbs % 10 = 0 := by
  have e : x - x / 10 * 10 = Int64.ofInt (x.toInt.tmod 10) := by
    rw [l_div10, Int.tmod_def, Int64.ofInt_sub, Int64.ofInt_toInt, Int.mul_comm, Int64.ofInt_mul]
    rfl
  have hb := tmod10_abs x.toInt
  have hlt : x.toInt.natAbs % 10 < 10 := Nat.mod_lt _ (by decide)
  rw [e, show (0 : Int64) = Int64.ofInt 0 from rfl, lO_eq (by omega) (by omega) (by decide) (by decide)]
  omega
section JOIN
variable {d : Nat} {S : fW} {h : fH} {r : Nat}
theorem s_hold {u l : Int64} {t : Int32} (hr : (r, shX3) ∈ S) : OkV d mX3_hold S [.ref r, .long u, .long l, .int t] h (fun k => k = holdH h r u l t) := TX3_hold_0 hr rfl
theorem s_lastZeros {x : Int64} : OkI d mX3_lastZeros S [.long x] h (fun v k => v = nI (tzK 16 x.toInt.natAbs) ∧ k = h) := by
  refine TX3_lastZeros_0 ?_
  have key : ∀ (m i : Nat) (y : Int64), m + i = 16 → tzK 16 x.toInt.natAbs = i + tzK m y.toInt.natAbs → G mX3_lastZeros d S (f_PI (fun v k => v = nI (tzK 16 x.toInt.natAbs) ∧ k = h)) 4 [(2, .int (nI i)), (3, .long y)] [] h := by
    intro m
    induction m with
    | zero =>
      intro i y hi ht
      have e : i = 16 := by omega
      subst e
      refine TX3_lastZeros_4 (fun _ => ⟨by rw [ht]; rfl, rfl⟩) (fun a => absurd (show (16 : Int32) ≤ nI 16 by decide) a) (fun a => absurd (show (16 : Int32) ≤ nI 16 by decide) a) (fun a => absurd (show (16 : Int32) ≤ nI 16 by decide) a)
    | succ m ih =>
      intro i y hi ht
      refine TX3_lastZeros_4 (fun a => ?_) (fun _ b => ?_) (fun _ b c => ?_) (fun _ b c => ?_)
      · have : 16 ≤ i := (nI_leI (a := 16) (by decide) (by omega)).mp a
        omega
      · refine ⟨?_, rfl⟩
        rw [ht, b]; rfl
      · rw [l_rem10] at c
        refine ⟨?_, rfl⟩
        rw [ht]
        simp [tzK, c]
      · rw [l_rem10] at c
        rw [nI1]
        refine ih (i + 1) (y / 10) (by omega) ?_
        have hy : ¬ y.toInt.natAbs = 0 := by
          intro z
          exact b (Int64.toInt_inj.mp (by simp; omega))
        rw [ht, l_div10, lO_toInt, tdiv10_abs]
        · simp only [tzK, if_pos (And.intro hy c)]
          omega
        · have h1 := Int64.le_toInt y
          have h2 := Int64.toInt_lt y
          have := tdiv10_abs y.toInt; omega
        · have h1 := Int64.le_toInt y
          have h2 := Int64.toInt_lt y
          have := tdiv10_abs y.toInt; omega
  have := key 16 0 x (by omega) (by omega)
  simpa [nI_0] using this
/-- how many zeros a number ends with -/
def tzI (A : Int) : Nat := tzK 16 A.natAbs
/-- what a sign makes of two numbers: a fraction times a power of ten -/
def jN (sg : Int32) (A B : Int) : Int :=
  if sg = 43 then A + B else if sg = 45 then A - B else if sg = 42 then A.tdiv (10 ^ tzI A) * B.tdiv (10 ^ tzI B) else if B < 0 then -(A.tdiv (10 ^ tzI A)) else A.tdiv (10 ^ tzI A)
def jD (sg : Int32) (B : Int) : Nat := if sg = 43 ∨ sg = 45 ∨ sg = 42 then 1 else B.natAbs / 10 ^ tzI B
def jE (sg : Int32) (A B : Int) : Int := if sg = 43 ∨ sg = 45 then 0 else if sg = 42 then (tzI A + tzI B : Nat) - 9 else (tzI A : Int) - tzI B + 9
theorem f_ten_ofInt (k : Nat) : f_ten k = Int64.ofInt (10 ^ k) := by
  unfold f_ten
  rw [← Int64.ofInt_eq_ofNat, Int.natCast_pow]
  rfl
theorem l_divT {a : Int64} {k : Nat} (hk : k ≤ 16) : a / f_ten k = Int64.ofInt (a.toInt.tdiv (10 ^ k)) := by
  have hp : (10 : Nat) ^ k ≤ 10 ^ 16 := Nat.pow_le_pow_right (by decide) hk
  have hp0 : 0 < (10 : Nat) ^ k := Nat.pow_pos (by decide)
  have hc : ((10 : Int) ^ k) = ((10 ^ k : Nat) : Int) := by rw [Int.natCast_pow]; rfl
  have h1 := Int64.le_toInt a
  have h2 := Int64.toInt_lt a
  rw [f_ten_ofInt, hc, ← Int64.toInt_inj, Int64.toInt_div_of_ne_right]
  · have hq := tdivN_abs a.toInt (10 ^ k)
    have hle : a.toInt.natAbs / 10 ^ k ≤ a.toInt.natAbs := Nat.div_le_self _ _
    rw [lO_toInt (z := ((10 ^ k : Nat) : Int)) (by omega) (by omega)]
    by_cases hm : k = 0
    · subst hm
      simp
    · rw [lO_toInt]
      · omega
      · have : 10 ^ 1 ≤ (10 : Nat) ^ k := Nat.pow_le_pow_right (by decide) (by omega)
        have h3 : a.toInt.natAbs / 10 ^ k ≤ a.toInt.natAbs / 10 := Nat.div_le_div_left (by omega) (by omega)
        omega
  · rw [show (-1 : Int64) = Int64.ofInt (-1) from rfl]
    intro z
    rw [lO_eq (by omega) (by omega) (by decide) (by decide)] at z
    omega
theorem f_ten_ne0 {k : Nat} (hk : k ≤ 16) : ¬ f_ten k = 0 := by
  have hp : (10 : Nat) ^ k ≤ 10 ^ 16 := Nat.pow_le_pow_right (by decide) hk
  exact lN_ne0 (Nat.pow_pos (by decide)) (by omega)
theorem natAbs_tdiv10 (B : Int) (k : Nat) : (B.tdiv (10 ^ k)).natAbs = B.natAbs / 10 ^ k := by
  have hc : ((10 : Int) ^ k) = ((10 ^ k : Nat) : Int) := by rw [Int.natCast_pow]; rfl
  rw [hc]
  exact tdivN_abs B (10 ^ k)
theorem s_join {sg : Int32} {a b : Int64} (hr : (r, shX3) ∈ S) (hb : b.toInt.natAbs < 2 ^ 62) :
    OkI (d + 1) mX3_join S [.ref r, .int sg, .long a, .long b] h (fun v k => v = bI (decide (sg = 43 ∨ sg = 45 ∨ sg = 42 ∨ ¬ b = 0)) ∧ k = holdH h r (Int64.ofInt (jN sg a.toInt b.toInt)) (lN (jD sg b.toInt)) (Int32.ofInt (jE sg a.toInt b.toInt))) := by
  have hka : tzK 16 a.toInt.natAbs ≤ 16 := tzK_le 16 _
  have hkb : tzK 16 b.toInt.natAbs ≤ 16 := tzK_le 16 _
  have ca : (nI (tzK 16 a.toInt.natAbs)).toNatClampNeg = tzI a.toInt := nI_clamp (by omega)
  have cb : (nI (tzK 16 b.toInt.natAbs)).toNatClampNeg = tzI b.toInt := nI_clamp (by omega)
  have ea : a / f_ten (tzI a.toInt) = Int64.ofInt (a.toInt.tdiv (10 ^ tzI a.toInt)) := l_divT hka
  have ebb : b / f_ten (tzI b.toInt) = Int64.ofInt (b.toInt.tdiv (10 ^ tzI b.toInt)) := l_divT hkb
  have hqb : (b.toInt.tdiv (10 ^ tzI b.toInt)).natAbs = b.toInt.natAbs / 10 ^ tzI b.toInt := natAbs_tdiv10 _ _
  have hle : b.toInt.natAbs / 10 ^ tzI b.toInt ≤ b.toInt.natAbs := Nat.div_le_self _ _
  have eab : (if 0 < Int64.ofInt (b.toInt.tdiv (10 ^ tzI b.toInt)) then Int64.ofInt (b.toInt.tdiv (10 ^ tzI b.toInt)) else -Int64.ofInt (b.toInt.tdiv (10 ^ tzI b.toInt))) = lN (b.toInt.natAbs / 10 ^ tzI b.toInt) := by
    rw [absL_m, absL_nat, lO_toInt (by omega) (by omega), hqb]
    rw [lO_toInt (by omega) (by omega)]
    omega
  have et1 : nI (tzK 16 a.toInt.natAbs) - nI (tzK 16 b.toInt.natAbs) + (9 : Int32) = Int32.ofInt ((tzI a.toInt : Int) - tzI b.toInt + 9) := by
    rw [Int32.ofInt_add, Int32.ofInt_sub, nI_ofInt, nI_ofInt]; rfl
  have et2 : nI (tzK 16 a.toInt.natAbs) + nI (tzK 16 b.toInt.natAbs) - (9 : Int32) = Int32.ofInt ((tzI a.toInt + tzI b.toInt : Nat) - 9) := by
    rw [Int32.ofInt_sub, nI_ofInt, ← nI_add]; rfl
  have b0 : (0 : Int64) ≤ b ↔ ¬ b.toInt < 0 := by
    rw [Int64.le_iff_toInt_le]; simp
  refine TX3_join_0 hr (Q1 := fun k => k = holdH h r (a + b) 1 0) (Q2 := fun v k => v = nI (tzK 16 a.toInt.natAbs) ∧ k = h) (Q3 := fun _ _ v k => v = nI (tzK 16 b.toInt.natAbs) ∧ k = h)
    (Q4 := fun _ _ _ _ k => k = holdH h r (Int64.ofInt (a.toInt.tdiv (10 ^ tzI a.toInt))) (lN (b.toInt.natAbs / 10 ^ tzI b.toInt)) (Int32.ofInt ((tzI a.toInt : Int) - tzI b.toInt + 9)))
    (Q5 := fun _ _ _ _ k => k = holdH h r (Int64.ofInt (-(a.toInt.tdiv (10 ^ tzI a.toInt)))) (lN (b.toInt.natAbs / 10 ^ tzI b.toInt)) (Int32.ofInt ((tzI a.toInt : Int) - tzI b.toInt + 9)))
    (Q6 := fun _ _ _ _ k => k = holdH h r (Int64.ofInt (a.toInt.tdiv (10 ^ tzI a.toInt) * b.toInt.tdiv (10 ^ tzI b.toInt))) 1 (Int32.ofInt ((tzI a.toInt + tzI b.toInt : Nat) - 9)))
    (Q7 := fun k => k = holdH h r (a - b) 1 0) (fun _ => s_hold hr) ?_ (fun _ _ => s_lastZeros) ?_ ?_ ?_ ?_ ?_ ?_ ?_ ?_ ?_ ?_ ?_ ?_ ?_ (fun _ _ => s_hold hr) ?_
  · rintro rfl k rfl
    refine ⟨by simp [bI], ?_⟩
    simp only [jN, jD, jE, if_true, true_or]
    rw [Int64.ofInt_add, Int64.ofInt_toInt, Int64.ofInt_toInt]; rfl
  · rintro x y v k ⟨rfl, rfl⟩
    exact s_lastZeros
  · rintro x y v k ⟨rfl, rfl⟩ v2 k2 ⟨rfl, rfl⟩
    exact vp_in_nI (by omega) (by decide)
  · rintro x y v k ⟨rfl, rfl⟩ v2 k2 ⟨rfl, rfl⟩
    rw [ca]
    exact f_ten_ne0 hka
  · rintro x y v k ⟨rfl, rfl⟩ v2 k2 ⟨rfl, rfl⟩
    exact vp_in_nI (by omega) (by decide)
  · rintro x y v k ⟨rfl, rfl⟩ v2 k2 ⟨rfl, rfl⟩
    rw [cb]
    exact f_ten_ne0 hkb
  · rintro x y v k ⟨rfl, rfl⟩ v2 k2 ⟨rfl, rfl⟩ z w
    rw [ca, cb, ea, ebb, eab, et1]
    exact s_hold hr
  · rintro x y v k ⟨rfl, rfl⟩ v2 k2 ⟨rfl, rfl⟩ z w k3 rfl b1
    refine ⟨by simp [bI, x, y, z, b1], ?_⟩
    simp [jN, jD, jE, x, y, z, b0.mp w]
  · rintro x y v k ⟨rfl, rfl⟩ v2 k2 ⟨rfl, rfl⟩ z w k3 rfl b1
    refine ⟨by simp [bI, b1], ?_⟩
    simp [jN, jD, jE, x, y, z, b0.mp w]
  · rintro x y v k ⟨rfl, rfl⟩ v2 k2 ⟨rfl, rfl⟩ z w
    rw [ca, cb, ea, ebb, eab, et1, ← Int64.ofInt_neg]
    exact s_hold hr
  · rintro x y v k ⟨rfl, rfl⟩ v2 k2 ⟨rfl, rfl⟩ z w k3 rfl b1
    exact absurd (by rw [b1]; decide) w
  · rintro x y v k ⟨rfl, rfl⟩ v2 k2 ⟨rfl, rfl⟩ z w k3 rfl b1
    have w' : b.toInt < 0 := by
      rw [b0] at w
      omega
    refine ⟨by simp [bI, b1], ?_⟩
    simp [jN, jD, jE, x, y, z, w']
  · rintro x y v k ⟨rfl, rfl⟩ v2 k2 ⟨rfl, rfl⟩ z
    rw [ca, cb, ea, ebb, et2, ← Int64.ofInt_mul]
    exact s_hold hr
  · rintro x y v k ⟨rfl, rfl⟩ v2 k2 ⟨rfl, rfl⟩ rfl k3 rfl
    refine ⟨by simp [bI], ?_⟩
    simp only [jN, jD, jE, if_neg x, if_neg y, if_true, or_true]
    rw [if_neg (by decide)]
    rfl
  · rintro x rfl k rfl
    refine ⟨by simp [bI], ?_⟩
    simp only [jN, jD, jE, if_neg x, if_true, or_true, true_or]
    rw [Int64.ofInt_sub, Int64.ofInt_toInt, Int64.ofInt_toInt]; rfl
end JOIN

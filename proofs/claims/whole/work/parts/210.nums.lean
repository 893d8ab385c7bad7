/-! ===== numbers: longs and ints as whole numbers ===== -/
theorem lN_ofInt (n : Nat) : Int64.ofInt (n : Int) = lN n := Int64.ofInt_eq_ofNat
theorem nI_ofInt (n : Nat) : Int32.ofInt (n : Int) = nI n := Int32.ofInt_eq_ofNat
theorem lO_toInt {z : Int} (h1 : -2 ^ 63 ≤ z) (h2 : z < 2 ^ 63) : (Int64.ofInt z).toInt = z := Int64.toInt_ofInt_of_le h1 h2
theorem iO_toInt {z : Int} (h1 : -2 ^ 31 ≤ z) (h2 : z < 2 ^ 31) : (Int32.ofInt z).toInt = z := Int32.toInt_ofInt_of_le h1 h2
theorem lO_lt {a b : Int} (a1 : -2 ^ 63 ≤ a) (a2 : a < 2 ^ 63) (b1 : -2 ^ 63 ≤ b) (b2 : b < 2 ^ 63) : Int64.ofInt a < Int64.ofInt b ↔ a < b := by
  rw [Int64.lt_iff_toInt_lt, lO_toInt a1 a2, lO_toInt b1 b2]
theorem lO_le {a b : Int} (a1 : -2 ^ 63 ≤ a) (a2 : a < 2 ^ 63) (b1 : -2 ^ 63 ≤ b) (b2 : b < 2 ^ 63) : Int64.ofInt a ≤ Int64.ofInt b ↔ a ≤ b := by
  rw [Int64.le_iff_toInt_le, lO_toInt a1 a2, lO_toInt b1 b2]
theorem lO_eq {a b : Int} (a1 : -2 ^ 63 ≤ a) (a2 : a < 2 ^ 63) (b1 : -2 ^ 63 ≤ b) (b2 : b < 2 ^ 63) : Int64.ofInt a = Int64.ofInt b ↔ a = b := by
  rw [← Int64.toInt_inj, lO_toInt a1 a2, lO_toInt b1 b2]
theorem iO_lt {a b : Int} (a1 : -2 ^ 31 ≤ a) (a2 : a < 2 ^ 31) (b1 : -2 ^ 31 ≤ b) (b2 : b < 2 ^ 31) : Int32.ofInt a < Int32.ofInt b ↔ a < b := by
  rw [Int32.lt_iff_toInt_lt, iO_toInt a1 a2, iO_toInt b1 b2]
theorem iO_le {a b : Int} (a1 : -2 ^ 31 ≤ a) (a2 : a < 2 ^ 31) (b1 : -2 ^ 31 ≤ b) (b2 : b < 2 ^ 31) : Int32.ofInt a ≤ Int32.ofInt b ↔ a ≤ b := by
  rw [Int32.le_iff_toInt_le, iO_toInt a1 a2, iO_toInt b1 b2]
theorem iO_eq {a b : Int} (a1 : -2 ^ 31 ≤ a) (a2 : a < 2 ^ 31) (b1 : -2 ^ 31 ≤ b) (b2 : b < 2 ^ 31) : Int32.ofInt a = Int32.ofInt b ↔ a = b := by
  rw [← Int32.toInt_inj, iO_toInt a1 a2, iO_toInt b1 b2]
theorem lN_10 : (10 : Int64) = lN 10 := rfl
theorem lN_mod {a b : Nat} (ha : a < 2 ^ 63) (h0 : 0 < b) (hb : b < 2 ^ 63) : lN a - lN a / lN b * lN b = lN (a % b) := pk_lRem ha h0 hb
theorem lN_div {a b : Nat} (ha : a < 2 ^ 63) (h0 : 0 < b) (hb : b < 2 ^ 63) : lN a / lN b = lN (a / b) := pk_lDiv ha h0 hb
theorem lN_ne0 {a : Nat} (h0 : 0 < a) (ha : a < 2 ^ 63) : ¬ lN a = 0 := by
  intro h
  have h2 := (pk_lEQ ha (by decide)).mp (show lN a = lN 0 from h)
  omega
theorem lN_pos {a : Nat} (h0 : 0 < a) (ha : a < 2 ^ 63) : (0 : Int64) < lN a := (pk_lLT (a := 0) (by decide) ha).mpr h0
theorem absL_nn {x : Int64} (h : ¬ x < 0) : absL x = x := by simp [absL, h]
/-- how far a long lies from 0 -/
theorem absL_nat {x : Int64} (h : x.toInt.natAbs < 2 ^ 63) : absL x = lN x.toInt.natAbs := by
  unfold absL
  by_cases a : x < 0
  · rw [if_pos a]
    rw [Int64.lt_iff_toInt_lt] at a
    simp at a
    rw [← lN_ofInt, show ((x.toInt.natAbs : Nat) : Int) = -x.toInt by omega, Int64.ofInt_neg, Int64.ofInt_toInt]
  · rw [if_neg a]
    rw [Int64.lt_iff_toInt_lt] at a
    simp at a
    rw [← lN_ofInt, show ((x.toInt.natAbs : Nat) : Int) = x.toInt by omega, Int64.ofInt_toInt]
/-- how often 10 times d still fits into n -/
def upK : Nat → Nat → Nat → Nat
  | 0, _, _ => 0
  | f + 1, n, d => if 10 * d ≤ n then upK f n (10 * d) + 1 else 0
/-- how often n is taken 10 times until it isn't below d -/
def dnK : Nat → Nat → Nat → Nat
  | 0, _, _ => 0
  | f + 1, n, d => if n < d then dnK f (10 * n) d + 1 else 0
theorem upK_is : ∀ (f n d j : Nat), j ≤ f → (j = 0 ∨ d * 10 ^ j ≤ n) → n < d * 10 ^ (j + 1) → upK f n d = j
  | 0, n, d, j, h1, _, _ => by simp [upK]; omega
  | f + 1, n, d, 0, _, _, h3 => by
    have : ¬ 10 * d ≤ n := by simp at h3; omega
    simp [upK, this]
  | f + 1, n, d, j + 1, h1, h2, h3 => by
    have e : d * 10 ^ (j + 1) = (10 * d) * 10 ^ j := by rw [Nat.pow_succ]; simp [Nat.mul_comm, Nat.mul_left_comm, Nat.mul_assoc]
    have e2 : d * 10 ^ (j + 1 + 1) = (10 * d) * 10 ^ (j + 1) := by rw [Nat.pow_succ _ (j + 1)]; simp [Nat.mul_comm, Nat.mul_left_comm, Nat.mul_assoc]
    have h2' : d * 10 ^ (j + 1) ≤ n := h2.resolve_left (by omega)
    have hp : 0 < 10 ^ j := Nat.pow_pos (by decide)
    have c : 10 * d ≤ n := by
      rw [e] at h2'
      exact Nat.le_trans (Nat.le_mul_of_pos_right _ hp) h2'
    simp only [upK, if_pos c]
    rw [upK_is f n (10 * d) j (by omega) (Or.inr (by rw [← e]; exact h2')) (by rw [← e2]; exact h3)]
theorem dnK_is : ∀ (f n d j : Nat), j ≤ f → (∀ i, i < j → n * 10 ^ i < d) → d ≤ n * 10 ^ j → dnK f n d = j
  | 0, n, d, j, h1, _, _ => by simp [dnK]; omega
  | f + 1, n, d, 0, _, _, h3 => by
    have : ¬ n < d := by simp at h3; omega
    simp [dnK, this]
  | f + 1, n, d, j + 1, h1, h2, h3 => by
    have c : n < d := by have := h2 0 (by omega); simpa using this
    simp only [dnK, if_pos c]
    rw [dnK_is f (10 * n) d j (by omega) (fun i hi => by
      have := h2 (i + 1) (by omega)
      rw [Nat.pow_succ] at this
      have e : 10 * n * 10 ^ i = n * (10 ^ i * 10) := by simp [Nat.mul_comm, Nat.mul_left_comm, Nat.mul_assoc]
      rw [e]; exact this) (by
      rw [Nat.pow_succ] at h3
      have e : 10 * n * 10 ^ j = n * (10 ^ j * 10) := by simp [Nat.mul_comm, Nat.mul_left_comm, Nat.mul_assoc]
      rw [e]; exact h3)]
theorem mul10_div (M D : Nat) (h : 0 < D) : M / D * 10 + M % D * 10 / D = M * 10 / D ∧ (M % D * 10) % D = (M * 10) % D := by
  have e : M * 10 = D * (M / D * 10) + M % D * 10 := by
    have := Nat.div_add_mod M D
    calc M * 10 = (D * (M / D) + M % D) * 10 := by rw [this]
      _ = D * (M / D * 10) + M % D * 10 := by rw [Nat.add_mul, Nat.mul_assoc]
  constructor
  · rw [e, Nat.mul_add_div h]
  · rw [e, Nat.mul_add_mod]

/-! ===== truth: the meaning; wheels that count on ===== -/
def rkU (m w : Nat → Nat) : Nat → Nat → Nat
  | 0, _ => 0
  | k + 1, i => m i + (w i + 1) * rkU m w k (i + 1)
def prU (w : Nat → Nat) : Nat → Nat → Nat
  | 0, _ => 1
  | k + 1, i => (w i + 1) * prU w k (i + 1)
/-- the wheels before j go to 0, j goes on by one -/
def nxM (m : Nat → Nat) (j : Nat) : Nat → Nat := fun i => if i < j then 0 else if i = j then m j + 1 else m i
theorem rk_congr {m m2 w : Nat → Nat} : ∀ (k i : Nat), (∀ q, i ≤ q → q < i + k → m q = m2 q) → rkU m w k i = rkU m2 w k i
  | 0, _, _ => rfl
  | k + 1, i, h => by
    simp only [rkU]
    rw [h i (by omega) (by omega), rk_congr k (i + 1) (fun q h1 h2 => h q (by omega) (by omega))]
theorem rk_next {m w : Nat → Nat} {j : Nat} : ∀ (k i : Nat), i ≤ j → j < i + k → (∀ q, i ≤ q → q < j → m q = w q) → rkU (nxM m j) w k i = rkU m w k i + 1
  | 0, i, h1, h2, _ => by omega
  | k + 1, i, h1, h2, h3 => by
    simp only [rkU]
    by_cases e : i = j
    · subst e
      have e1 : nxM m i i = m i + 1 := by simp [nxM]
      have e2 : rkU (nxM m i) w k (i + 1) = rkU m w k (i + 1) := rk_congr k (i + 1) (fun q p1 p2 => by
        have a1 : ¬ q < i := by omega
        have a2 : ¬ q = i := by omega
        simp [nxM, a1, a2])
      rw [e1, e2]
      omega
    · have e1 : nxM m j i = 0 := by
        have : i < j := by omega
        simp [nxM, this]
      rw [e1, rk_next k (i + 1) (by omega) (by omega) (fun q p1 p2 => h3 q (by omega) p2), h3 i (Nat.le_refl i) (by omega), Nat.mul_add]
      omega
theorem rk_lt {m w : Nat → Nat} : ∀ (k i : Nat), (∀ q, i ≤ q → q < i + k → m q ≤ w q) → rkU m w k i < prU w k i
  | 0, i, _ => by simp [rkU, prU]
  | k + 1, i, h => by
    simp only [rkU, prU]
    have h1 := rk_lt k (i + 1) (fun q p1 p2 => h q (by omega) (by omega))
    have h2 := h i (Nat.le_refl i) (by omega)
    have h3 := Nat.mul_le_mul_left (w i + 1) (show rkU m w k (i + 1) + 1 ≤ prU w k (i + 1) by omega)
    rw [Nat.mul_add] at h3
    omega
theorem rk_top {m w : Nat → Nat} : ∀ (k i : Nat), (∀ q, i ≤ q → q < i + k → m q = w q) → rkU m w k i + 1 = prU w k i
  | 0, i, _ => by simp [rkU, prU]
  | k + 1, i, h => by
    simp only [rkU, prU]
    have h1 := rk_top k (i + 1) (fun q p1 p2 => h q (by omega) (by omega))
    rw [← h1, h i (Nat.le_refl i) (by omega), Nat.mul_add]
    omega
theorem rk_inj {m m2 w : Nat → Nat} : ∀ (k i : Nat), (∀ q, i ≤ q → q < i + k → m q ≤ w q) → (∀ q, i ≤ q → q < i + k → m2 q ≤ w q) → rkU m w k i = rkU m2 w k i → ∀ q, i ≤ q → q < i + k → m q = m2 q
  | 0, i, _, _, _ => fun q h1 h2 => by omega
  | k + 1, i, h, h', e => by
    simp only [rkU] at e
    have a := h i (Nat.le_refl i) (by omega)
    have a' := h' i (Nat.le_refl i) (by omega)
    have e1 : m i = m2 i := by
      have := congrArg (fun x => x % (w i + 1)) e
      simp only [Nat.add_mul_mod_self_left] at this
      rw [Nat.mod_eq_of_lt (by omega), Nat.mod_eq_of_lt (by omega)] at this
      exact this
    have e2 : rkU m w k (i + 1) = rkU m2 w k (i + 1) := by
      rw [e1] at e
      exact Nat.eq_of_mul_eq_mul_left (show 0 < w i + 1 by omega) (by omega)
    have ih := rk_inj k (i + 1) (fun q p1 p2 => h q (by omega) (by omega)) (fun q p1 p2 => h' q (by omega) (by omega)) e2
    intro q h1 h2
    by_cases z : q = i
    · subst z; exact e1
    · exact ih q (by omega) (by omega)
theorem rk_zero {w : Nat → Nat} : ∀ (k i : Nat), rkU (fun _ => 0) w k i = 0
  | 0, _ => rfl
  | k + 1, i => by simp [rkU, rk_zero k (i + 1)]
theorem pr_bd {w : Nat → Nat} (hw : ∀ j, w j ≤ 5) : ∀ (k i : Nat), 1 ≤ prU w k i ∧ prU w k i ≤ 6 ^ k
  | 0, _ => by simp [prU]
  | k + 1, i => by
    have ih := pr_bd hw k (i + 1)
    have h1 := hw i
    simp only [prU]
    constructor
    · exact Nat.mul_pos (by omega) (by omega)
    · rw [Nat.pow_succ, Nat.mul_comm (6 ^ k) 6]
      exact Nat.mul_le_mul (by omega) ih.2
/-- the numbers, so many more -/
def fmF (f : Nat → Int32) (m : Nat → Nat) : Nat → Int32 := fun j => f j + nI (m j)
def trV (f t : Nat → Int32) (n : Nat) (e : Int) (m : Nat → Nat) : Int := biF e (frC (fmF f m) t n 0).1 (frC (fmF f m) t n 0).2
/-- v is the TRUTH's end e -/
def TrOk (f t : Nat → Int32) (n : Nat) (w : Nat → Nat) (e : Int) (v : Int) : Prop :=
  ((∃ m, (∀ j, j < 5 → m j ≤ w j) ∧ trV f t n e m = 1000000000000000000) ∧ v = 1000000000000000000) ∨
  ((∀ m, (∀ j, j < 5 → m j ≤ w j) → trV f t n e m ≠ 1000000000000000000) ∧ (∃ m, (∀ j, j < 5 → m j ≤ w j) ∧ v = trV f t n e m) ∧ ∀ m, (∀ j, j < 5 → m j ≤ w j) → if e = 0 then v ≤ trV f t n e m else trV f t n e m ≤ v)
theorem TrOk.one {f t : Nat → Int32} {n : Nat} {w : Nat → Nat} {e v u : Int} (a : TrOk f t n w e v) (b : TrOk f t n w e u) : v = u := by
  rcases a with ⟨⟨m, h1, h2⟩, rfl⟩ | ⟨a1, ⟨m, h1, h2⟩, a3⟩
  · rcases b with ⟨_, rfl⟩ | ⟨b1, _⟩
    · rfl
    · exact absurd h2 (b1 m h1)
  · rcases b with ⟨⟨m', h1', h2'⟩, _⟩ | ⟨b1, ⟨m', h1', h2'⟩, b3⟩
    · exact absurd h2' (a1 m' h1')
    · have p := a3 m' h1'
      have q := b3 m h1
      rw [← h2'] at p
      rw [← h2] at q
      split at p <;> split at q <;> omega
/-- GREAT, or below 10000000: cut down is at most one below cut up -/
theorem bi_01 (u l : Int) : (biF 0 u l = 1000000000000000000 ∧ biF 1 u l = 1000000000000000000) ∨ (biF 0 u l ≤ biF 1 u l ∧ biF 1 u l ≤ biF 0 u l + 1 ∧ (biF 0 u l).natAbs ≤ 10 ^ 16 ∧ (biF 1 u l).natAbs ≤ 10 ^ 16) := by
  unfold biF
  by_cases hl : l = 0
  · left; rw [if_pos hl, if_pos hl]; exact ⟨rfl, rfl⟩
  · rw [if_neg hl, if_neg hl]
    by_cases hb : 10000000 ≤ u.natAbs / l.natAbs
    · left; rw [if_pos hb, if_pos hb]; exact ⟨rfl, rfl⟩
    · right
      rw [if_neg hb, if_neg hb]
      have hlp : 0 < l.natAbs := by omega
      have hq : u.natAbs * 10 ^ 9 / l.natAbs < 10 ^ 16 := by
        apply Nat.div_lt_of_lt_mul
        have h1 : u.natAbs < l.natAbs * 10000000 := by
          have := Nat.lt_mul_div_succ u.natAbs hlp
          have h2 : l.natAbs * (u.natAbs / l.natAbs + 1) ≤ l.natAbs * 10000000 := Nat.mul_le_mul_left _ (by omega)
          omega
        have h3 := Nat.mul_lt_mul_of_pos_right h1 (show 0 < 10 ^ 9 by decide)
        rw [Nat.mul_assoc] at h3
        exact h3
      generalize u.natAbs * 10 ^ 9 / l.natAbs = q at *
      generalize u.natAbs * 10 ^ 9 % l.natAbs = r at *
      by_cases hu : u < 0
      · rw [decide_eq_true hu]
        by_cases hr : r = 0
        · simp [sgF, hr, hu]; omega
        · simp [sgF, hr, hu]; omega
      · rw [decide_eq_false hu]
        by_cases hr : r = 0
        · simp [sgF, hr, hu]; omega
        · simp [sgF, hr, hu]; omega
/-- a part's fraction rests on its own letters alone -/
theorem frC_lm {o : Nat → Nat} {f f' t : Nat → Int32} {n : Nat} (hv : valO o t n) : ∀ i, i < n → (∀ j, j < 5 → bt (lmF t n i) j = true → f j = f' j) → frC f t n i = frC f' t n i := by
  refine right_ind n (fun i hi ih => ?_)
  intro hj
  cases c : isOpB (t i)
  · have e1 : frC f t n i = (lfX f (t i), 1) := ev_leaf c
    have e2 : frC f' t n i = (lfX f' (t i), 1) := ev_leaf c
    rw [e1, e2]
    have : numF (t i) 5 f = numF (t i) 5 f' := by
      by_cases hL : isLetB (t i) = true
      · obtain ⟨j, hj5, q1, q2, q3⟩ := let_at hL
        rw [numF_let hL, numF_let hL, q3]
        apply hj j hj5
        have em : lmF t n i = lmL (t i) := ev_leaf c
        rw [em]
        unfold lmL
        rw [if_pos hL, q1, b_or, b_one (by omega) (by omega)]
        simp
      · unfold numF
        split
        · rfl
        · rw [if_neg, if_neg]
          all_goals
            rintro ⟨w1, w2⟩
            apply hL
            rw [isLet_iff]
            rw [Int32.le_iff_toInt_le] at w1
            rw [Int32.lt_iff_toInt_lt, show (Int32.ofNat 5).toInt = 5 from rfl] at w2
            have w1 : 0 ≤ (t i - 97).toInt := w1
            have hb1 := Int32.le_toInt (t i)
            have hb2 := Int32.toInt_lt (t i)
            have e97 : t i = (t i - 97) + 97 := by rw [Int32.sub_add_cancel]
            have : (t i).toInt = (t i - 97).toInt + 97 := by
              conv => lhs; rw [e97]
              rw [i_add_toInt (by rw [i97]; omega) (by rw [i97]; omega), i97]
            omega
    unfold lfX
    rw [this]
  · obtain ⟨h1, h2⟩ := op_in hv hi c
    have hp := sz_pos t n (i + 1)
    have e1 : frC f t n i = opC (t i) (frC f t n (i + 1)) (frC f t n (i + 1 + sz t n (i + 1))) := ev_op hv hi c
    have e2 : frC f' t n i = opC (t i) (frC f' t n (i + 1)) (frC f' t n (i + 1 + sz t n (i + 1))) := ev_op hv hi c
    have em : lmF t n i = (lmF t n (i + 1) ||| lmF t n (i + 1 + sz t n (i + 1))) := ev_op (op := fun _ x y => x ||| y) hv hi c
    rw [e1, e2, ih (i + 1) (by omega) h1 (fun j hj5 hb => hj j hj5 (by rw [em, b_or, hb]; rfl)), ih _ (by omega) h2 (fun j hj5 hb => hj j hj5 (by rw [em, b_or, hb]; simp))]

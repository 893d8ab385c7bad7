/-! ===== sums: the meaning ===== -/
def plF' (D W : Nat) (a b : Int64) : Int64 := madeF D W false 43 a b
def miF' (D W : Nat) (a b : Int64) : Int64 := madeF D W false 45 a b
theorem plF'_dcm {D W : Nat} {a b : Int64} (hD1 : 1 ≤ D) (hD4 : D ≤ 4) (ha : dcmG a) (hb : dcmG b) : dcmG (plF' D W a b) := madeF_dcm hD1 hD4 ha hb
theorem miF'_dcm {D W : Nat} {a b : Int64} (hD1 : 1 ≤ D) (hD4 : D ≤ 4) (ha : dcmG a) (hb : dcmG b) : dcmG (miF' D W a b) := madeF_dcm hD1 hD4 ha hb
theorem plF'_g (D W : Nat) (b : Int64) : plF' D W 1000000000000000000 b = 1000000000000000000 := by unfold plF' madeF; rw [if_pos (Or.inl rfl)]
theorem miF'_g (D W : Nat) (b : Int64) : miF' D W 1000000000000000000 b = 1000000000000000000 := by unfold miF' madeF; rw [if_pos (Or.inl rfl)]
theorem l_neg_toInt {x : Int64} (h : x.toInt.natAbs < 2 ^ 62) : (-x).toInt = -x.toInt := by
  have e : -x = Int64.ofInt (-x.toInt) := by rw [Int64.ofInt_neg, Int64.ofInt_toInt]
  rw [e, lO_toInt (by omega) (by omega)]
theorem dcm_neg {x : Int64} (h : dcm x) : dcm (-x) := by
  have h1 := h.1
  have e := l_neg_toInt (x := x) (by omega)
  unfold dcm at *
  rw [e]
  unfold stI tzI at *
  rw [Int.natAbs_neg]
  exact h
theorem miF'_neg {D W : Nat} {a b : Int64} (hb : dcm b) : plF' D W a (-b) = miF' D W a b := by
  have h1 := hb.1
  have e := l_neg_toInt (x := b) (by omega)
  have n1 := dcm_ng hb
  have n2 := dcm_ng (dcm_neg hb)
  unfold plF' miF' madeF
  by_cases ha : a = 1000000000000000000
  · rw [if_pos (Or.inl ha), if_pos (Or.inl ha)]
  · rw [if_neg (show ¬ (a = 1000000000000000000 ∨ -b = 1000000000000000000) by simp [ha, n2]), if_neg (show ¬ (a = 1000000000000000000 ∨ b = 1000000000000000000) by simp [ha, n1]), if_neg (by simp), if_neg (by simp), e]
    congr 1
/-- a sum goes on: m terms more in the order o, from the i-th on -/
def smF (D W : Nat) (T : Nat → Int64) (o : Nat → Nat) : Nat → Nat → Int64 → Int64
  | 0, _, s => s
  | m + 1, i, s => smF D W T o m (i + 1) (plF' D W s (T (o i)))
def smA (D W : Nat) (T : Nat → Int64) (o : Nat → Nat) (a b : Nat) : Int64 := smF D W T o (b - a - 1) (a + 1) (T (o a))
theorem smF_dcm {D W : Nat} {T : Nat → Int64} {o : Nat → Nat} {n : Nat} (hD1 : 1 ≤ D) (hD4 : D ≤ 4) (hT : ∀ j, j < n → dcm (T (o j))) : ∀ (m i : Nat) (s : Int64), i + m ≤ n → dcmG s → dcmG (smF D W T o m i s)
  | 0, _, s, _, hs => hs
  | m + 1, i, s, hi, hs => smF_dcm hD1 hD4 hT m (i + 1) _ (by omega) (plF'_dcm hD1 hD4 hs (Or.inr (hT i (by omega))))
theorem smA_dcm {D W : Nat} {T : Nat → Int64} {o : Nat → Nat} {n a b : Nat} (hD1 : 1 ≤ D) (hD4 : D ≤ 4) (hT : ∀ j, j < n → dcm (T (o j))) (hab : a < b) (hb : b ≤ n) : dcmG (smA D W T o a b) :=
  smF_dcm hD1 hD4 hT _ _ _ (by omega) (Or.inr (hT a (by omega)))
def whF (T : Nat → Int64) : Nat → Int64
  | 0 => 0
  | k + 1 => whF T k + T k
def bsF (D W : Nat) (T : Nat → Int64) : Nat → Nat → Int64 → Int64 → Int64
  | 0, _, s, _ => s
  | m + 1, i, s, c => if miF' D W (miF' D W (plF' D W s (miF' D W (T i) c)) s) (miF' D W (T i) c) = 1000000000000000000 then 1000000000000000000 else bsF D W T m (i + 1) (plF' D W s (miF' D W (T i) c)) (miF' D W (miF' D W (plF' D W s (miF' D W (T i) c)) s) (miF' D W (T i) c))
def hfF (D W : Nat) (T : Nat → Int64) : Nat → Nat → Nat → Int64
  | 0, a, _ => T a
  | k + 1, a, b => if b - a = 1 then T a else plF' D W (hfF D W T k a (a + (b - a + 1) / 2)) (hfF D W T k (a + (b - a + 1) / 2) b)
def hoF (D W : Nat) (T : Nat → Int64) (a b : Nat) : Int64 := if b - a = 4 then plF' D W (smA D W T id a (a + 2)) (smA D W T id (a + 2) b) else smA D W T id a b
theorem hfF_is {D W : Nat} {T : Nat → Int64} {n : Nat} (h1 : 1 ≤ n) (h7 : n ≤ 7) : hfF D W T 3 0 n = if (n + 1) / 2 = n then hoF D W T 0 ((n + 1) / 2) else plF' D W (hoF D W T 0 ((n + 1) / 2)) (hoF D W T ((n + 1) / 2) n) := by
  rcases (show n = 1 ∨ n = 2 ∨ n = 3 ∨ n = 4 ∨ n = 5 ∨ n = 6 ∨ n = 7 by omega) with rfl | rfl | rfl | rfl | rfl | rfl | rfl <;> simp [hfF, hoF, smA, smF]
/-- held is put in its place among the first ones of p, from place q down -/
def stF (p : Nat → Nat) (q x : Nat) : Nat → Nat := fun j => if j = q then x else p j
def insF (T : Nat → Int64) (held : Nat) : Nat → (Nat → Nat) → (Nat → Nat)
  | 0, p => stF p 0 held
  | q + 1, p => if absL (T (p q)) ≤ absL (T held) then stF p (q + 1) held else insF T held q (stF p (q + 1) (p q))
def bzF (T : Nat → Int64) : Nat → (Nat → Nat)
  | 0 => fun j => j
  | k + 1 => insF T k k (bzF T k)
theorem insF_le {T : Nat → Int64} {held m : Nat} (hh : held ≤ m) : ∀ (q : Nat) (p : Nat → Nat), q ≤ m → (∀ j, j ≤ m → j ≠ q → p j ≤ m) → ∀ j, j ≤ m → insF T held q p j ≤ m
  | 0, p, hq, hp, j, hj => by
    simp only [insF, stF]
    split
    · exact hh
    · exact hp j hj (by omega)
  | q + 1, p, hq, hp, j, hj => by
    simp only [insF]
    split
    · simp only [stF]
      split
      · exact hh
      · exact hp j hj (by omega)
    · refine insF_le hh q _ (by omega) (fun i hi hne => ?_) j hj
      simp only [stF]
      split
      · exact hp q (by omega) (by omega)
      · exact hp i hi (by omega)
theorem bzF_lt (T : Nat → Int64) : ∀ (k j : Nat), j < k → bzF T k j < k
  | 0, j, h => by omega
  | k + 1, j, h => by
    simp only [bzF]
    have := insF_le (T := T) (held := k) (m := k) (Nat.le_refl k) k (bzF T k) (Nat.le_refl k) (fun i hi hne => by have := bzF_lt T k i (by omega); omega) j (by omega)
    omega

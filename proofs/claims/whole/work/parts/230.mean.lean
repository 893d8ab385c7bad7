/-! ===== what a text is worked to, its slips: the meaning ===== -/
theorem i_sub_toInt {a b : Int32} (h1 : -2 ^ 31 ≤ a.toInt - b.toInt) (h2 : a.toInt - b.toInt < 2 ^ 31) : (a - b).toInt = a.toInt - b.toInt := by
  have e : a - b = Int32.ofInt (a.toInt - b.toInt) := by rw [Int32.ofInt_sub, Int32.ofInt_toInt, Int32.ofInt_toInt]
  rw [e, iO_toInt h1 h2]
theorem i_add_toInt {a b : Int32} (h1 : -2 ^ 31 ≤ a.toInt + b.toInt) (h2 : a.toInt + b.toInt < 2 ^ 31) : (a + b).toInt = a.toInt + b.toInt := by
  have e : a + b = Int32.ofInt (a.toInt + b.toInt) := by rw [Int32.ofInt_add, Int32.ofInt_toInt, Int32.ofInt_toInt]
  rw [e, iO_toInt h1 h2]
theorem isDig_iff {c : Int32} : isDigB c = true ↔ 48 ≤ c.toInt ∧ c.toInt ≤ 57 := by
  unfold isDigB
  rw [decide_eq_true_eq, Int32.le_iff_toInt_le, Int32.le_iff_toInt_le]
  exact Iff.rfl
theorem isLet_iff {c : Int32} : isLetB c = true ↔ 97 ≤ c.toInt ∧ c.toInt ≤ 101 := by
  unfold isLetB
  rw [decide_eq_true_eq, Int32.le_iff_toInt_le, Int32.le_iff_toInt_le]
  exact Iff.rfl
theorem i97 : (97 : Int32).toInt = 97 := rfl
theorem i48 : (48 : Int32).toInt = 48 := rfl
/-- a letter's place -/
theorem let_at {c : Int32} (h : isLetB c = true) : ∃ j : Nat, j < 5 ∧ c - 97 = nI j ∧ c.toInt = 97 + j ∧ (c - 97).toNatClampNeg = j := by
  obtain ⟨h1, h2⟩ := isLet_iff.mp h
  refine ⟨(c.toInt - 97).toNat, by omega, ?_, by omega, ?_⟩
  · rw [← nI_ofInt, show (((c.toInt - 97).toNat : Nat) : Int) = c.toInt - 97 by omega, Int32.ofInt_sub, Int32.ofInt_toInt]
    rfl
  · show (c - 97).toInt.toNat = _
    rw [i_sub_toInt (by rw [i97]; omega) (by rw [i97]; omega), i97]
theorem numF_let {c : Int32} {f : Nat → Int32} (h : isLetB c = true) : numF c 5 f = f (c - 97).toNatClampNeg := by
  obtain ⟨j, hj, e1, e2, e3⟩ := let_at h
  have hd : ¬ isDigB c = true := by rw [isDig_iff]; omega
  unfold numF
  rw [if_neg hd, if_pos]
  rw [e1]
  exact ⟨nI_pos' (by omega), nI_lt hj (by decide)⟩
theorem numF_dig {c : Int32} {f : Nat → Int32} (h : isDigB c = true) : numF c 5 f = c - 48 := by
  unfold numF
  rw [if_pos h]
/-- the numbers that letters stand for are small -/
def nmB (f : Nat → Int32) : Prop := ∀ j : Nat, j < 5 → -104 ≤ (f j).toInt ∧ (f j).toInt ≤ 104
def lfX (f : Nat → Int32) (c : Int32) : Int := (numF c 5 f).toInt
theorem lfX_bd {f : Nat → Int32} {c : Int32} (hf : nmB f) : (lfX f c).natAbs ≤ 104 := by
  unfold lfX numF
  split
  · next h =>
    have := isDig_iff.mp h
    rw [i_sub_toInt (by rw [i48]; omega) (by rw [i48]; omega), i48]
    omega
  · split
    · next h =>
      have h1 := h.1
      have h2 := h.2
      rw [Int32.le_iff_toInt_le] at h1
      rw [Int32.lt_iff_toInt_lt, show (Int32.ofNat 5).toInt = 5 from rfl] at h2
      have h1 : 0 ≤ (c - 97).toInt := h1
      have := hf (c - 97).toNatClampNeg (by show (c - 97).toInt.toNat < 5; omega)
      omega
    · decide
theorem numF_congr {c : Int32} {f g : Nat → Int32} (h : ∀ j, j < 5 → f j = g j) : numF c 5 f = numF c 5 g := by
  unfold numF
  split
  · rfl
  · split
    · next z =>
      have h1 := z.1
      have h2 := z.2
      rw [Int32.le_iff_toInt_le] at h1
      rw [Int32.lt_iff_toInt_lt, show (Int32.ofNat 5).toInt = 5 from rfl] at h2
      have h1 : 0 ≤ (c - 97).toInt := h1
      exact h _ (by show (c - 97).toInt.toNat < 5; omega)
    · rfl
-- rounding of small whole numbers
theorem plE_fin {D W : Nat} {tiny below : Bool} {s : Nat} {zz : Int} (hD1 : 1 ≤ D) (hD4 : D ≤ 4) (hs : s < 10 ^ D) (c : ¬ 16 ≤ zz + D - 1) : dcmI (plE D W tiny below s zz) := by
  rcases plE_dcm (W := W) (tiny := tiny) (below := below) (zz := zz) hD1 hD4 hs with h | h
  · exfalso
    unfold plE at h
    rw [if_neg c] at h
    have hd : (10 : Nat) ^ D ≤ 10 ^ 4 := Nat.pow_le_pow_right (by decide) hD4
    have key : ∀ m : Nat, m < 10 ^ 16 → sgF below m ≠ 1000000000000000000 := by
      intro m hm e
      have := sgF_abs below m
      rw [e] at this
      omega
    revert h
    apply key
    split
    · have h1 : s * 10 ^ zz.toNat < 10 ^ D * 10 ^ zz.toNat := Nat.mul_lt_mul_of_pos_right hs (Nat.pow_pos (by decide))
      rw [← Nat.pow_add] at h1
      have h2 : (10 : Nat) ^ (D + zz.toNat) ≤ 10 ^ 16 := Nat.pow_le_pow_right (by decide) (by omega)
      omega
    · by_cases c4 : (tiny && decide (W = if below then 3 else 2)) = true
      · rw [if_pos c4]; omega
      · rw [if_neg c4]; omega
  · exact h
theorem kept_lt {D n d : Nat} (hD1 : 1 ≤ D) (hd : 1 ≤ d) (hn : n < 10 ^ 17) : nrmN n d * 10 ^ (D - 1) / nrmD n d < 10 ^ D := by
  have h1 := nrm_lt hd hn
  apply Nat.div_lt_of_lt_mul
  have hp : 0 < 10 ^ (D - 1) := Nat.pow_pos (by decide)
  have e10 : nrmD n d * 10 ^ D = 10 * nrmD n d * 10 ^ (D - 1) := by
    have : (10 : Nat) ^ D = 10 ^ (D - 1) * 10 := by rw [← Nat.pow_succ]; congr 1; omega
    rw [this]
    simp [Nat.mul_comm, Nat.mul_left_comm, Nat.mul_assoc]
  rw [e10]
  exact Nat.mul_lt_mul_of_pos_right h1 hp
theorem rndF_fin {D W : Nat} {tiny below : Bool} {n d : Nat} {t : Int} (hD1 : 1 ≤ D) (hD4 : D ≤ 4) (hd : 1 ≤ d) (hn : n < 10 ^ 17) (ht : t + upK 40 n d ≤ 14) : dcmI (rndF D W tiny below n d t) := by
  unfold rndF
  split
  · exact dcmI_mk (b := false) (s := 0) (z := 0) (by decide) (by decide) (by decide)
  · have h3 := kept_lt (D := D) hD1 hd hn
    have hk : nrmN n d * 10 ^ (D - 1) / nrmD n d + (if goF W below (nrmN n d * 10 ^ (D - 1) / nrmD n d) (nrmN n d * 10 ^ (D - 1) % nrmD n d) (nrmD n d) then 1 else 0) ≤ 10 ^ D := by split <;> omega
    generalize nrmN n d * 10 ^ (D - 1) / nrmD n d + (if goF W below (nrmN n d * 10 ^ (D - 1) / nrmD n d) (nrmN n d * 10 ^ (D - 1) % nrmD n d) (nrmD n d) then 1 else 0) = k at *
    unfold plF
    split
    · refine plE_fin hD1 hD4 ?_ (by omega)
      have : 1 ≤ (10 : Nat) ^ D := Nat.pow_pos (by decide)
      omega
    · exact plE_fin hD1 hD4 (by omega) (by omega)
theorem dnK_0 {f n d : Nat} (h : ¬ n < d) : dnK f n d = 0 := by cases f <;> simp [dnK, h]
theorem upK_small : ∀ n, n < 105 → upK 40 n 1 ≤ 2 := by decide +kernel
theorem upK_ge : ∀ (f n d : Nat), upK f n d = 0 ∨ d * 10 ^ upK f n d ≤ n
  | 0, n, d => Or.inl rfl
  | f + 1, n, d => by
    simp only [upK]
    split
    · next c =>
      right
      have e : d * 10 ^ (upK f n (10 * d) + 1) = (10 * d) * 10 ^ upK f n (10 * d) := by rw [Nat.pow_succ]; simp [Nat.mul_comm, Nat.mul_left_comm, Nat.mul_assoc]
      rw [e]
      rcases upK_ge f n (10 * d) with h | h
      · rw [h]; simpa using c
      · exact h
    · exact Or.inl rfl
theorem goF_sc {W : Nat} {b : Bool} {k r L c : Nat} (hc : 0 < c) : goF W b k (r * c) (L * c) = goF W b k r L := by
  have e1 : (0 < r * c) ↔ 0 < r := by
    constructor
    · intro h; exact Nat.pos_of_mul_pos_right h
    · intro h; exact Nat.mul_pos h hc
  have e2 : (L * c < 2 * (r * c)) ↔ L < 2 * r := by rw [← Nat.mul_assoc]; exact Nat.mul_lt_mul_right hc
  have e3 : (2 * (r * c) = L * c) ↔ 2 * r = L := by rw [← Nat.mul_assoc]; exact Nat.mul_left_inj (by omega)
  unfold goF
  simp only [e1, e2, e3]
theorem rndF_sc {D W : Nat} {tiny b : Bool} {n : Nat} (hn : n < 10 ^ 8) : rndF D W tiny b (n * 10 ^ 9) 1 0 = rndF D W tiny b n 1 9 := by
  rcases Nat.eq_zero_or_pos n with h0 | h0
  · subst h0; simp [rndF]
  · have g1 := upK_ge 40 n 1
    have g2 := upK_lt 40 n 1 (by decide) (by omega)
    have hu : upK 40 (n * 10 ^ 9) 1 = upK 40 n 1 + 9 := by
      generalize upK 40 n 1 = u at *
      have hu8 : u < 9 := by
        rcases g1 with h | h
        · omega
        · rcases Nat.lt_or_ge u 9 with z | z
          · exact z
          · have := Nat.pow_le_pow_right (show 10 > 0 by decide) z
            omega
      refine upK_is 40 _ 1 (u + 9) (by omega) (Or.inr ?_) ?_
      · rw [Nat.pow_add, ← Nat.mul_assoc]
        apply Nat.mul_le_mul_right
        rcases g1 with h | h
        · subst h; simp; omega
        · exact h
      · rw [show u + 9 + 1 = (u + 1) + 9 by omega, Nat.pow_add, ← Nat.mul_assoc]
        exact Nat.mul_lt_mul_of_pos_right g2 (by decide)
    have d1 : dnK 40 n 1 = 0 := dnK_0 (by omega)
    have d2 : dnK 40 (n * 10 ^ 9) 1 = 0 := dnK_0 (by omega)
    have eN : nrmN (n * 10 ^ 9) 1 * 10 ^ (D - 1) = nrmN n 1 * 10 ^ (D - 1) * 10 ^ 9 := by
      unfold nrmN
      rw [d1, d2, Nat.pow_zero, Nat.mul_one, Nat.mul_one, Nat.mul_assoc, Nat.mul_assoc, Nat.mul_comm (10 ^ 9)]
    have eD : nrmD (n * 10 ^ 9) 1 = nrmD n 1 * 10 ^ 9 := by
      unfold nrmD
      rw [hu, Nat.pow_add, Nat.mul_assoc]
    unfold rndF
    rw [if_neg (show ¬ n * 10 ^ 9 = 0 by omega), if_neg (show ¬ n = 0 by omega), eN, eD, Nat.mul_div_mul_right _ _ (by decide), Nat.mul_mod_mul_right, goF_sc (by decide), hu, d1, d2]
    congr 1
    omega
/-- a letter or digit, rounded -/
def lfW (D W : Nat) (f : Nat → Int32) (c : Int32) : Int64 := Int64.ofInt (rndF D W false (decide (lfX f c < 0)) (lfX f c).natAbs 1 9)
theorem lfW_dcm {D W : Nat} {f : Nat → Int32} {c : Int32} (hD1 : 1 ≤ D) (hD4 : D ≤ 4) (hf : nmB f) : dcm (lfW D W f c) := by
  have h1 := lfX_bd (c := c) hf
  have h2 := upK_small (lfX f c).natAbs (by omega)
  exact dcmI_of (rndF_fin hD1 hD4 (by decide) (by omega) (by omega))
theorem dcm_ng {x : Int64} (h : dcm x) : ¬ x = 1000000000000000000 := by
  intro e
  have := h.1
  rw [e] at this
  revert this
  decide
/-- what the part at i is worked to -/
def wkF (D W : Nat) (f : Nat → Int32) (t : Nat → Int32) (n i : Nat) : Int64 := ev (lfW D W f) (madeF D W false) t n i
/-- its slip -/
def slF (D W : Nat) (f : Nat → Int32) (t : Nat → Int32) (n i : Nat) : Int64 :=
  if isOpB (t i) then (if wkF D W f t n i = 1000000000000000000 then 1000000000000000000 else wkF D W f t n i - wholeF (t i) (wkF D W f t n (i + 1)) (wkF D W f t n (i + 1 + sz t n (i + 1)))) else lfW D W f (t i) - 1000000000 * (numF (t i) 5 f).toInt64
/-- t's first n signs are a text of letters and digits -/
def TxV (t : Nat → Int32) (n : Nat) : Prop := (∃ o, valO o t n) ∧ n ≤ 13 ∧ ∀ i, i < n → isOpB (t i) = false → isLetB (t i) = true ∨ isDigB (t i) = true
theorem TxV.pos {t : Nat → Int32} {n : Nat} (h : TxV t n) : 1 ≤ n := by
  obtain ⟨⟨o, h1, h2, _⟩, _⟩ := h
  rcases Nat.eq_zero_or_pos n with z | z
  · subst z; omega
  · exact z
theorem wkF_dcm {D W : Nat} {f t : Nat → Int32} {n : Nat} (hD1 : 1 ≤ D) (hD4 : D ≤ 4) (hf : nmB f) (hv : TxV t n) : ∀ i, i < n → dcmG (wkF D W f t n i) := by
  obtain ⟨⟨o, hv⟩, _⟩ := hv
  exact ev_all hv (fun i _ _ => Or.inr (lfW_dcm hD1 hD4 hf)) (fun i a b _ _ ha hb => madeF_dcm hD1 hD4 ha hb)
theorem op4 {c : Int32} (h : isOpB c = true) : c = 43 ∨ c = 45 ∨ c = 42 ∨ c = 47 := by
  unfold isOpB at h
  simp only [Bool.or_eq_true, decide_eq_true_eq] at h
  exact h
theorem cutW_1 : ∀ (k : Nat) (w : Int64), cutW 1 k w 0 = w * f_ten k
  | 0, w => by
    show w = w * f_ten 0
    rw [show f_ten 0 = 1 from rfl, Int64.mul_one]
  | k + 1, w => by
    simp only [cutW]
    rw [show (0 : Int64) * 10 = 0 from rfl, show (0 : Int64) / 1 = 0 from rfl, Int64.add_zero, show (0 : Int64) * 1 = 0 from rfl, show (0 : Int64) - 0 = 0 from rfl, cutW_1 k (w * 10), Int64.mul_assoc]
    congr 1
    show (10 : Int64) * lN (10 ^ k) = lN (10 ^ (k + 1))
    rw [lN_10, lN_mul, Nat.pow_succ, Nat.mul_comm]
theorem cutF_leaf (u : Int64) : cutF u 1 9 = 1000000000 * u := by
  unfold cutF
  rw [Int64.div_one, Int64.mul_one, Int64.sub_self, show (9 : Int).toNat = 9 from rfl, show (-(9 : Int)).toNat = 0 from rfl, cutW_1]
  simp only [dvW]
  rw [show f_ten 9 = 1000000000 from rfl]
  unfold absL
  split
  · rw [Int64.neg_mul, Int64.neg_neg, Int64.mul_comm]
  · rw [Int64.mul_comm]

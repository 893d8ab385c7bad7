/-! ===== what is rounded is a decimal of few digits, or GREAT; cutting ===== -/
theorem tzK_ge : ∀ (z f s : Nat), 1 ≤ s → z ≤ f → z ≤ tzK f (s * 10 ^ z)
  | 0, f, s, _, _ => by omega
  | z + 1, 0, s, _, h => by omega
  | z + 1, f + 1, s, hs, h => by
    have e : s * 10 ^ (z + 1) = s * 10 ^ z * 10 := (p10 s z).symm
    have hp : 1 ≤ s * 10 ^ z := Nat.mul_pos hs (Nat.pow_pos (by decide))
    simp only [tzK]
    rw [if_pos (by rw [e]; omega)]
    have := tzK_ge z f s hs (by omega)
    rw [show s * 10 ^ (z + 1) / 10 = s * 10 ^ z by rw [e]; omega]
    omega
theorem st_le {n s z : Nat} (e : n = s * 10 ^ z) (hz : z ≤ 16) : n / 10 ^ tzK 16 n ≤ s := by
  rcases Nat.eq_zero_or_pos s with h0 | h0
  · subst h0
    simp at e
    subst e
    simp
  · have h1 := tzK_ge z 16 s h0 hz
    rw [← e] at h1
    have h2 : n / 10 ^ tzK 16 n ≤ n / 10 ^ z := Nat.div_le_div_left (Nat.pow_le_pow_right (by decide) h1) (Nat.pow_pos (by decide))
    have h3 : n / 10 ^ z = s := by rw [e]; exact Nat.mul_div_cancel s (Nat.pow_pos (by decide))
    omega
theorem sgF_abs (b : Bool) (n : Nat) : (sgF b n).natAbs = n := by cases b <;> simp [sgF]
/-- a whole number of billionths that is a decimal of few digits -/
def dcmI (A : Int) : Prop := A.natAbs < 10 ^ 16 ∧ stI A < 10 ^ 4
theorem dcmI_of {A : Int} (h : dcmI A) : dcm (Int64.ofInt A) := by
  have h1 := h.1
  have e : (Int64.ofInt A).toInt = A := lO_toInt (by omega) (by omega)
  unfold dcm
  rw [e]
  exact h
theorem dcmI_mk {b : Bool} {s z : Nat} (hs : s < 10 ^ 4) (hz : z ≤ 16) (hn : s * 10 ^ z < 10 ^ 16) : dcmI (sgF b (s * 10 ^ z)) := by
  refine ⟨by rw [sgF_abs]; exact hn, ?_⟩
  unfold stI tzI
  rw [sgF_abs]
  have := st_le (n := s * 10 ^ z) rfl hz
  omega
theorem plE_dcm {D W : Nat} {tiny below : Bool} {s : Nat} {zz : Int} (hD1 : 1 ≤ D) (hD4 : D ≤ 4) (hs : s < 10 ^ D) : plE D W tiny below s zz = 1000000000000000000 ∨ dcmI (plE D W tiny below s zz) := by
  unfold plE
  split
  · exact Or.inl rfl
  · next c =>
    right
    have hd : (10 : Nat) ^ D ≤ 10 ^ 4 := Nat.pow_le_pow_right (by decide) hD4
    split
    · next c3 =>
      refine dcmI_mk (by omega) (by omega) ?_
      have h1 : s * 10 ^ zz.toNat < 10 ^ D * 10 ^ zz.toNat := Nat.mul_lt_mul_of_pos_right hs (Nat.pow_pos (by decide))
      rw [← Nat.pow_add] at h1
      have h2 : (10 : Nat) ^ (D + zz.toNat) ≤ 10 ^ 16 := Nat.pow_le_pow_right (by decide) (by omega)
      omega
    · by_cases c4 : (tiny && decide (W = if below then 3 else 2)) = true
      · rw [if_pos c4]
        exact dcmI_mk (s := 1000) (z := 0) (by decide) (by decide) (by decide)
      · rw [if_neg c4]
        exact dcmI_mk (s := 0) (z := 0) (by decide) (by decide) (by decide)
theorem plF_dcm {D W : Nat} {tiny below : Bool} {k : Nat} {z : Int} (hD1 : 1 ≤ D) (hD4 : D ≤ 4) (hk : k ≤ 10 ^ D) : plF D W tiny below k z = 1000000000000000000 ∨ dcmI (plF D W tiny below k z) := by
  unfold plF
  split
  · refine plE_dcm hD1 hD4 ?_
    have : 1 ≤ (10 : Nat) ^ D := Nat.pow_pos (by decide)
    omega
  · exact plE_dcm hD1 hD4 (by omega)
theorem upK_lt : ∀ (f n d : Nat), 1 ≤ d → n < d * 10 ^ f → n < d * 10 ^ (upK f n d + 1)
  | 0, n, d, h1, h => by simp at h; simp [upK]; omega
  | f + 1, n, d, h1, h => by
    simp only [upK]
    split
    · have e : ∀ j, d * 10 ^ (j + 1) = (10 * d) * 10 ^ j := fun j => by rw [Nat.pow_succ]; simp [Nat.mul_comm, Nat.mul_left_comm, Nat.mul_assoc]
      rw [e] at h ⊢
      exact upK_lt f n (10 * d) (by omega) h
    · simp; omega
theorem dnK_lt : ∀ (f n d : Nat), n < d → n * 10 ^ dnK f n d < 10 * d
  | 0, n, d, h => by simp [dnK]; omega
  | f + 1, n, d, h => by
    simp only [dnK, if_pos h]
    have e : n * 10 ^ (dnK f (10 * n) d + 1) = 10 * n * 10 ^ dnK f (10 * n) d := by rw [Nat.pow_succ]; simp [Nat.mul_comm, Nat.mul_left_comm, Nat.mul_assoc]
    rw [e]
    by_cases c : 10 * n < d
    · exact dnK_lt f (10 * n) d c
    · have : dnK f (10 * n) d = 0 := by cases f <;> simp [dnK, c]
      rw [this]; simp; omega
theorem nrm_lt {n d : Nat} (hd : 1 ≤ d) (hn : n < 10 ^ 17) : nrmN n d < 10 * nrmD n d := by
  unfold nrmN nrmD
  by_cases c : n < d
  · have h1 := dnK_lt 40 n d c
    have h2 : d ≤ d * 10 ^ upK 40 n d := Nat.le_mul_of_pos_right _ (Nat.pow_pos (by decide))
    omega
  · have h0 : dnK 40 n d = 0 := by simp [dnK, c]
    have hbig : 1 * 10 ^ 17 ≤ d * 10 ^ 40 := Nat.mul_le_mul hd (Nat.pow_le_pow_right (by decide) (by decide))
    have h1 := upK_lt 40 n d hd (by omega)
    rw [← p10] at h1
    rw [h0]
    simp
    omega
theorem nrmD_pos {n d : Nat} (hd : 1 ≤ d) : 1 ≤ nrmD n d := Nat.mul_pos hd (Nat.pow_pos (by decide))
theorem rndF_dcm {D W : Nat} {tiny below : Bool} {n d : Nat} {t : Int} (hD1 : 1 ≤ D) (hD4 : D ≤ 4) (hd : 1 ≤ d) (hn : n < 10 ^ 17) : rndF D W tiny below n d t = 1000000000000000000 ∨ dcmI (rndF D W tiny below n d t) := by
  unfold rndF
  split
  · exact Or.inr (dcmI_mk (b := false) (s := 0) (z := 0) (by decide) (by decide) (by decide))
  · refine plF_dcm hD1 hD4 ?_
    have h1 := nrm_lt hd hn
    have h2 := nrmD_pos (n := n) hd
    have h3 : nrmN n d * 10 ^ (D - 1) / nrmD n d < 10 ^ D := by
      apply Nat.div_lt_of_lt_mul
      have hp : 0 < 10 ^ (D - 1) := Nat.pow_pos (by decide)
      have e10 : nrmD n d * 10 ^ D = 10 * nrmD n d * 10 ^ (D - 1) := by
        have : (10 : Nat) ^ D = 10 ^ (D - 1) * 10 := by rw [← Nat.pow_succ]; congr 1; omega
        rw [this]
        simp [Nat.mul_comm, Nat.mul_left_comm, Nat.mul_assoc]
      rw [e10]
      exact Nat.mul_lt_mul_of_pos_right h1 hp
    split <;> omega
/-- a decimal or GREAT -/
def dcmG (x : Int64) : Prop := x = 1000000000000000000 ∨ dcm x
theorem dcmG_of {A : Int} (h : A = 1000000000000000000 ∨ dcmI A) : dcmG (Int64.ofInt A) := by
  rcases h with rfl | h
  · exact Or.inl rfl
  · exact Or.inr (dcmI_of h)
theorem jN_small {sg : Int32} {a b : Int64} (ha : dcm a) (hb : dcm b) : (jN sg a.toInt b.toInt).natAbs < 10 ^ 17 := by
  have a1 := ha.1
  have a2 := ha.2
  have b1 := hb.1
  have b2 := hb.2
  have qa : (a.toInt.tdiv (10 ^ tzI a.toInt)).natAbs = stI a.toInt := natAbs_tdiv10 _ _
  have qb : (b.toInt.tdiv (10 ^ tzI b.toInt)).natAbs = stI b.toInt := natAbs_tdiv10 _ _
  have hprod : stI a.toInt * stI b.toInt < 10 ^ 8 := Nat.lt_of_lt_of_le (Nat.mul_lt_mul'' a2 b2) (by decide)
  unfold jN
  split
  · omega
  · split
    · omega
    · split
      · rw [Int.natAbs_mul, qa, qb]; omega
      · split <;> omega
theorem jD_ok {sg : Int32} {b : Int64} (hb : dcm b) (h0 : (sg = 43 ∨ sg = 45 ∨ sg = 42) ∨ ¬ b = 0) : 1 ≤ jD sg b.toInt ∧ jD sg b.toInt ≤ 10 ^ 16 := by
  have b2 := hb.2
  unfold jD
  split
  · omega
  · next c =>
    have hb0 : b.toInt ≠ 0 := fun e => (h0.resolve_left c) (Int64.toInt_inj.mp (by simpa using e))
    have := stI_pos hb0
    unfold stI at this b2
    omega
theorem jE_ok {sg : Int32} {A B : Int} : -1000 ≤ jE sg A B ∧ jE sg A B ≤ 1000 := by
  have h1 : tzI A ≤ 16 := tzK_le 16 _
  have h2 : tzI B ≤ 16 := tzK_le 16 _
  unfold jE
  split
  · omega
  · split <;> omega
theorem madeF_dcm {D W : Nat} {tiny : Bool} {sg : Int32} {a b : Int64} (hD1 : 1 ≤ D) (hD4 : D ≤ 4) (ha : dcmG a) (hb : dcmG b) : dcmG (madeF D W tiny sg a b) := by
  unfold madeF
  split
  · exact Or.inl rfl
  · next c =>
    split
    · exact Or.inl rfl
    · next c2 =>
      have da := ha.resolve_left (fun z => c (Or.inl z))
      have db := hb.resolve_left (fun z => c (Or.inr z))
      refine dcmG_of (rndF_dcm hD1 hD4 (jD_ok db ?_).1 (jN_small da db))
      by_cases z : sg = 43 ∨ sg = 45 ∨ sg = 42
      · exact Or.inl z
      · exact Or.inr (fun q => c2 ⟨z, q⟩)
-- cutting
def cutW (l : Int64) : Nat → Int64 → Int64 → Int64
  | 0, w, _ => w
  | k + 1, w, r => cutW l k (w * 10 + r * 10 / l) (r * 10 - r * 10 / l * l)
def dvW : Nat → Int64 → Int64
  | 0, w => w
  | k + 1, w => dvW k (w / 10)
def cutF (u l : Int64) (t : Int) : Int64 :=
  if u < 0 then -(dvW (-t).toNat (cutW l t.toNat (absL u / l) (absL u - absL u / l * l))) else dvW (-t).toNat (cutW l t.toNat (absL u / l) (absL u - absL u / l * l))
section CUT
variable {d : Nat} {S : fW} {h : fH} {r : Nat} {t : Int}
theorem s_cut (hr : (r, shX3) ∈ S) (hl : (0 : Int64) < h.2.1 r 1) (ht : h.1 r 2 = Int32.ofInt t) (t1 : -1000 ≤ t) (t2 : t ≤ 1000) : OkL (d + 1) mX3_cut S [.ref r] h (fun v k => v = cutF (h.2.1 r 0) (h.2.1 r 1) t ∧ k = h) := by
  have hl0 : ¬ h.2.1 r 1 = 0 := fun e => by rw [e] at hl; exact absurd hl (by decide)
  have low : ∀ (m j : Nat) (w : Int64), m + j = (-t).toNat → (∀ v : Int64, v = dvW m w → (fun v k => v = cutF (h.2.1 r 0) (h.2.1 r 1) t ∧ k = h) (if h.2.1 r 0 < 0 then -v else v) h) → G mX3_cut (d + 1) S (f_PL (fun v k => v = cutF (h.2.1 r 0) (h.2.1 r 1) t ∧ k = h)) 86 [(0, .ref r), (3, .long w), (7, .int (Int32.ofInt (-j)))] [] h := by
    intro m
    induction m with
    | zero =>
      intro j w hj hv
      have hc : Int32.ofInt (-(j : Int)) ≤ h.1 r 2 := by
        rw [ht, iO_le (by omega) (by omega) (by omega) (by omega)]; omega
      refine TX3_cut_86 hr (fun _ b => ?_) (fun _ b => ?_) (fun a => absurd hc a)
      · have := hv w rfl
        rw [if_neg (Int64.not_lt.mpr b)] at this
        exact this
      · have := hv w rfl
        rw [if_pos (Int64.not_le.mp b)] at this
        exact this
    | succ m ih =>
      intro j w hj hv
      have hc : ¬ Int32.ofInt (-(j : Int)) ≤ h.1 r 2 := by
        rw [ht, iO_le (by omega) (by omega) (by omega) (by omega)]; omega
      refine TX3_cut_86 hr (fun a => absurd a hc) (fun a => absurd a hc) (fun _ => ?_)
      rw [iOm1, show -(j : Int) - 1 = -((j + 1 : Nat) : Int) by omega]
      exact ih (j + 1) (w / 10) (by omega) hv
  have high : ∀ (m j : Nat) (w q : Int64), m + j = t.toNat → cutW (h.2.1 r 1) t.toNat (absL (h.2.1 r 0) / h.2.1 r 1) (absL (h.2.1 r 0) - absL (h.2.1 r 0) / h.2.1 r 1 * h.2.1 r 1) = cutW (h.2.1 r 1) m w q → G mX3_cut (d + 1) S (f_PL (fun v k => v = cutF (h.2.1 r 0) (h.2.1 r 1) t ∧ k = h)) 37 [(0, .ref r), (3, .long w), (5, .long q), (7, .int (nI j))] [] h := by
    intro m
    induction m with
    | zero =>
      intro j w q hj hv
      have hc : h.1 r 2 ≤ nI j := by
        rw [ht, ← nI_ofInt, iO_le (by omega) (by omega) (by omega) (by omega)]; omega
      refine TX3_cut_37 hr (fun _ => ?_) (fun a => absurd hc a) (fun a => absurd hc a)
      refine low (-t).toNat 0 w (by omega) ?_
      rintro v rfl
      refine ⟨?_, rfl⟩
      unfold cutF
      rw [hv]
      rfl
    | succ m ih =>
      intro j w q hj hv
      have hc : ¬ h.1 r 2 ≤ nI j := by
        rw [ht, ← nI_ofInt, iO_le (by omega) (by omega) (by omega) (by omega)]; omega
      refine TX3_cut_37 hr (fun a => absurd a hc) (fun _ => hl0) (fun _ => ?_)
      rw [nI1]
      exact ih (j + 1) _ _ (by omega) hv
  refine TX3_cut_0 hr (fun _ => hl0) (fun _ => ?_) (fun a => absurd hl a)
  rw [absL_m]
  exact high t.toNat 0 _ _ (by omega) rfl
end CUT

/-! ===== rounding down and up keeps the order of numbers ===== -/
/-- below 0 likewise -/
def ngF (x : Int) : Int := if x = 1000000000000000000 then 1000000000000000000 else -x
theorem plE_ng {D W V : Nat} {s : Nat} {zz : Int} (hD1 : 1 ≤ D) (hD4 : D ≤ 4) (hs : s < 10 ^ D) (hw : (W = 3 ∧ V = 2) ∨ (W = 2 ∧ V = 3)) : plE D W true true s zz = ngF (plE D V true false s zz) := by
  by_cases c : 16 ≤ zz + D - 1
  · unfold plE ngF
    rw [if_pos c, if_pos c, if_pos rfl]
  · have hb := (plE_fin (W := V) (tiny := true) (below := false) hD1 hD4 hs c).1
    have hne : plE D V true false s zz ≠ 1000000000000000000 := by
      intro e
      rw [e] at hb
      revert hb
      decide
    unfold ngF
    rw [if_neg hne]
    unfold plE
    rw [if_neg c, if_neg c]
    have e : (decide (W = if true = true then 3 else 2)) = decide (V = if false = true then 3 else 2) := by
      rcases hw with ⟨rfl, rfl⟩ | ⟨rfl, rfl⟩ <;> rfl
    rw [e]
    rfl
theorem plF_ng {D W V : Nat} {k : Nat} {z : Int} (hD1 : 1 ≤ D) (hD4 : D ≤ 4) (hk : k ≤ 10 ^ D) (hw : (W = 3 ∧ V = 2) ∨ (W = 2 ∧ V = 3)) : plF D W true true k z = ngF (plF D V true false k z) := by
  have hp : 1 ≤ (10 : Nat) ^ D := Nat.pow_pos (by decide)
  unfold plF
  split
  · exact plE_ng hD1 hD4 (by omega) hw
  · exact plE_ng hD1 hD4 (by omega) hw
theorem rndF_ng {D W V : Nat} {n d : Nat} {t : Int} (hD1 : 1 ≤ D) (hD4 : D ≤ 4) (hd : 1 ≤ d) (hn : n < 10 ^ 17) (hw : (W = 3 ∧ V = 2) ∨ (W = 2 ∧ V = 3)) : rndF D W true true n d t = ngF (rndF D V true false n d t) := by
  unfold rndF
  split
  · rfl
  · have h3 := kept_lt (D := D) hD1 hd hn
    have e : goF W true (nrmN n d * 10 ^ (D - 1) / nrmD n d) (nrmN n d * 10 ^ (D - 1) % nrmD n d) (nrmD n d) = goF V false (nrmN n d * 10 ^ (D - 1) / nrmD n d) (nrmN n d * 10 ^ (D - 1) % nrmD n d) (nrmD n d) := by
      unfold goF
      rcases hw with ⟨rfl, rfl⟩ | ⟨rfl, rfl⟩ <;> simp
    rw [e]
    refine plF_ng hD1 hD4 ?_ hw
    split <;> omega
/-- down is not above up -/
theorem rndF_du0 {D : Nat} {n d : Nat} {t : Int} (hD1 : 1 ≤ D) (hD4 : D ≤ 4) (hd : 1 ≤ d) (hn : n < 10 ^ 17) : 0 ≤ rndF D 3 true false n d t ∧ rndF D 3 true false n d t ≤ rndF D 2 true false n d t ∧ rndF D 2 true false n d t ≤ 1000000000000000000 := by
  unfold rndF
  split
  · exact ⟨by decide, by decide, by decide⟩
  · have h3 := kept_lt (D := D) hD1 hd hn
    generalize hK : nrmN n d * 10 ^ (D - 1) / nrmD n d = K at *
    generalize hR : nrmN n d * 10 ^ (D - 1) % nrmD n d = R at *
    generalize t + upK 40 n d - dnK 40 n d - (D - 1 : Nat) = z
    have g3 : goF 3 false K R (nrmD n d) = false := by simp [goF]
    rw [g3]
    have hc : K + (if goF 2 false K R (nrmD n d) = true then 1 else 0) = K ∨ K + (if goF 2 false K R (nrmD n d) = true then 1 else 0) = K + 1 := by split <;> simp
    generalize K + (if goF 2 false K R (nrmD n d) = true then 1 else 0) = K' at *
    simp only [Bool.false_eq_true, if_false, Nat.add_zero]
    have l1 : plF D 3 true false K z = if 16 ≤ z + D - 1 then 1000000000000000000 else ((if 3 ≤ z + D - 1 then K * 10 ^ z.toNat else 0 : Nat) : Int) := by
      unfold plF
      rw [if_neg (by omega)]
      unfold plE
      simp [sgF]
    have u1 : ∀ (s : Nat) (zz : Int), plE D 2 true false s zz = if 16 ≤ zz + D - 1 then 1000000000000000000 else ((if 3 ≤ zz + D - 1 then s * 10 ^ zz.toNat else 1000 : Nat) : Int) := by
      intro s zz
      unfold plE
      simp [sgF]
    have hlt : ∀ (s : Nat) (zz : Int), s < 10 ^ D → ¬ 16 ≤ zz + D - 1 → s * 10 ^ zz.toNat < 10 ^ 16 ∨ zz < 0 := by
      intro s zz hs hz
      by_cases h0 : zz < 0
      · exact Or.inr h0
      · left
        have h1 : s * 10 ^ zz.toNat < 10 ^ D * 10 ^ zz.toNat := Nat.mul_lt_mul_of_pos_right hs (Nat.pow_pos (by decide))
        rw [← Nat.pow_add] at h1
        have h2 : (10 : Nat) ^ (D + zz.toNat) ≤ 10 ^ 16 := Nat.pow_le_pow_right (by decide) (by omega)
        omega
    have hD : (10 : Nat) ^ D = 10 ^ (D - 1) * 10 := by rw [← Nat.pow_succ]; congr 1; omega
    have hDp : 1 ≤ (10 : Nat) ^ (D - 1) := Nat.pow_pos (by decide)
    rw [l1]
    unfold plF
    by_cases ck : 10 ^ D ≤ K'
    · have eK : K' / 10 = 10 ^ (D - 1) := by omega
      have hK9 : K' = 10 ^ D := by omega
      rw [if_pos ck, eK, u1]
      by_cases c16 : 16 ≤ z + D - 1
      · rw [if_pos c16, if_pos (by omega)]
        exact ⟨by decide, Int.le_refl _, Int.le_refl _⟩
      · rw [if_neg c16]
        by_cases c17 : 16 ≤ z + 1 + D - 1
        · rw [if_pos c17]
          refine ⟨by omega, ?_, Int.le_refl _⟩
          split
          · have := hlt K z (by omega) c16
            omega
          · decide
        · rw [if_neg c17]
          have hb := hlt (10 ^ (D - 1)) (z + 1) (by omega) c17
          refine ⟨by omega, ?_, ?_⟩
          · by_cases c3 : 3 ≤ z + D - 1
            · rw [if_pos c3, if_pos (by omega)]
              have ez : (z + 1).toNat = z.toNat + 1 := by omega
              have e10 : 10 ^ (D - 1) * 10 ^ (z + 1).toNat = 10 ^ D * 10 ^ z.toNat := by
                rw [ez, Nat.pow_succ, hD]
                simp [Nat.mul_comm, Nat.mul_left_comm, Nat.mul_assoc]
              rw [e10]
              have : K * 10 ^ z.toNat ≤ 10 ^ D * 10 ^ z.toNat := Nat.mul_le_mul_right _ (by omega)
              omega
            · rw [if_neg c3]; omega
          · split <;> omega
    · rw [if_neg ck, u1]
      by_cases c16 : 16 ≤ z + D - 1
      · rw [if_pos c16, if_pos c16]
        exact ⟨by decide, Int.le_refl _, Int.le_refl _⟩
      · rw [if_neg c16, if_neg c16]
        have hb := hlt K' z (by omega) c16
        refine ⟨by omega, ?_, ?_⟩
        · by_cases c3 : 3 ≤ z + D - 1
          · rw [if_pos c3, if_pos c3]
            have : K * 10 ^ z.toNat ≤ K' * 10 ^ z.toNat := Nat.mul_le_mul_right _ (by omega)
            omega
          · rw [if_neg c3]; omega
        · split <;> omega
theorem ngF_le {x y : Int} (hx : x ≤ 1000000000000000000) (h : x ≤ y) (hy : y ≠ 1000000000000000000) : ngF y ≤ ngF x := by
  unfold ngF
  rw [if_neg hy]
  split <;> omega
theorem plE_3 {D W s : Nat} {ti b : Bool} {zz : Int} (h1 : ¬ 16 ≤ zz + D - 1) (h2 : 3 ≤ zz + D - 1) : plE D W ti b s zz = sgF b (s * 10 ^ zz.toNat) := by
  unfold plE
  rw [if_neg h1, if_pos h2]
theorem plE_0 {D W s : Nat} {ti b : Bool} {zz : Int} (h1 : ¬ 16 ≤ zz + D - 1) (h2 : ¬ 3 ≤ zz + D - 1) : plE D W ti b s zz = sgF b (if ti && decide (W = if b then 3 else 2) then 1000 else 0) := by
  unfold plE
  rw [if_neg h1, if_neg h2]
theorem plE_G {D W s : Nat} {ti b : Bool} {zz : Int} (h1 : 16 ≤ zz + D - 1) : plE D W ti b s zz = 1000000000000000000 := by
  unfold plE
  rw [if_pos h1]
theorem plF_G {D W k : Nat} {ti b : Bool} {z : Int} (h1 : 16 ≤ z + D - 1) : plF D W ti b k z = 1000000000000000000 := by
  unfold plF
  split
  · rw [plE_G (by omega)]
  · rw [plE_G h1]
-- sums: whole numbers of billionths
theorem upK_n {n : Nat} (h1 : 1 ≤ n) (hn : n < 10 ^ 17) : 10 ^ upK 40 n 1 ≤ n ∧ n < 10 ^ (upK 40 n 1 + 1) ∧ upK 40 n 1 ≤ 16 := by
  have g1 := upK_ge 40 n 1
  have g2 := upK_lt 40 n 1 (by decide) (by omega)
  rw [Nat.one_mul] at g1 g2
  have h0 : 10 ^ upK 40 n 1 ≤ n := by
    rcases g1 with h | h
    · rw [h]; simpa using h1
    · exact h
  refine ⟨h0, g2, ?_⟩
  rcases Nat.lt_or_ge (upK 40 n 1) 17 with z | z
  · omega
  · have := Nat.pow_le_pow_right (show 10 > 0 by decide) z
    omega
/-- rounded down, up: numbers not below 0 -/
def flF (D n : Nat) : Int := rndF D 3 true false n 1 0
def ceF (D n : Nat) : Int := rndF D 2 true false n 1 0
theorem fc_raw {D n : Nat} (hD1 : 1 ≤ D) (hD4 : D ≤ 4) (h1 : 1 ≤ n) (hn : n < 10 ^ 17) (h3 : 3 ≤ upK 40 n 1) (h15 : upK 40 n 1 ≤ 15) :
    ∃ q, 1 ≤ q ∧ 10 ^ upK 40 n 1 = q * 10 ^ (D - 1) ∧ 10 ^ (upK 40 n 1 + 1) = q * 10 ^ D ∧ q = 10 ^ (upK 40 n 1 - (D - 1)) ∧ flF D n = ((n / q * q : Nat) : Int) ∧
      ceF D n = if upK 40 n 1 = 15 ∧ n / q + (if n % q = 0 then 0 else 1) = 10 ^ D then 1000000000000000000 else (((n / q + (if n % q = 0 then 0 else 1)) * q : Nat) : Int) := by
  obtain ⟨k1, k2, k3⟩ := upK_n h1 hn
  have hd0 : dnK 40 n 1 = 0 := dnK_0 (by omega)
  have hN : nrmN n 1 = n := by unfold nrmN; rw [hd0]; simp
  have hDn : nrmD n 1 = 10 ^ upK 40 n 1 := by unfold nrmD; simp
  have hkl := kept_lt (D := D) (n := n) (d := 1) hD1 (by decide) hn
  have hDD : (10 : Nat) ^ D = 10 ^ (D - 1) * 10 := by rw [← Nat.pow_succ]; congr 1; omega
  have hDp : 1 ≤ (10 : Nat) ^ (D - 1) := Nat.pow_pos (by decide)
  unfold flF ceF rndF
  rw [if_neg (show ¬ n = 0 by omega), if_neg (show ¬ n = 0 by omega), hd0]
  rw [hN, hDn] at hkl ⊢
  generalize upK 40 n 1 = u at *
  have eu : (10 : Nat) ^ u = 10 ^ (u - (D - 1)) * 10 ^ (D - 1) := by rw [← Nat.pow_add]; congr 1; omega
  have hq1 : 1 ≤ (10 : Nat) ^ (u - (D - 1)) := Nat.pow_pos (by decide)
  refine ⟨10 ^ (u - (D - 1)), hq1, eu, ?_, rfl, ?_, ?_⟩
  · rw [Nat.pow_succ, eu, hDD, Nat.mul_assoc]
  all_goals
    rw [eu, Nat.mul_div_mul_right _ _ hDp] at hkl
    rw [eu, Nat.mul_div_mul_right _ _ hDp, Nat.mul_mod_mul_right]
    generalize hqq : 10 ^ (u - (D - 1)) = q at *
    have ez : (0 : Int) + (u : Int) - ((0 : Nat) : Int) - ((D - 1 : Nat) : Int) = ((u - (D - 1) : Nat) : Int) := by omega
    rw [ez]
  · have g3 : goF 3 false (n / q) (n % q * 10 ^ (D - 1)) (q * 10 ^ (D - 1)) = false := by simp [goF]
    rw [g3]
    simp only [Bool.false_eq_true, if_false, Nat.add_zero]
    unfold plF
    rw [if_neg (show ¬ 10 ^ D ≤ _ by omega)]
    rw [plE_3 (by omega) (by omega), Int.toNat_natCast, hqq]
    rfl
  · have g2 : goF 2 false (n / q) (n % q * 10 ^ (D - 1)) (q * 10 ^ (D - 1)) = decide (¬ n % q = 0) := by
      simp only [goF, if_true, Bool.not_false, Bool.and_true]
      congr 1
      apply propext
      constructor
      · intro h e; rw [e] at h; simp at h
      · intro h; exact Nat.mul_pos (by omega) hDp
    rw [g2]
    have ec : n / q + (if decide (¬ n % q = 0) = true then 1 else 0) = n / q + (if n % q = 0 then 0 else 1) := by
      by_cases c : n % q = 0 <;> simp [c]
    rw [ec]
    have hK' : n / q + (if n % q = 0 then 0 else 1) ≤ 10 ^ D := by split <;> omega
    generalize n / q + (if n % q = 0 then 0 else 1) = K' at *
    unfold plF
    by_cases ck : 10 ^ D ≤ K'
    · have eK : K' = 10 ^ D := by omega
      have eK2 : K' / 10 = 10 ^ (D - 1) := by omega
      rw [if_pos ck, eK2]
      by_cases c15 : u = 15
      · rw [plE_G (by omega), if_pos ⟨c15, eK⟩]
      · rw [plE_3 (by omega) (by omega), if_neg (fun w => c15 w.1)]
        have e1 : (((u - (D - 1) : Nat) : Int) + 1).toNat = u - (D - 1) + 1 := by omega
        rw [e1, Nat.pow_succ, hqq, eK, hDD]
        simp only [sgF, Bool.false_eq_true, if_false]
        congr 1
        rw [Nat.mul_comm q 10, ← Nat.mul_assoc]
    · rw [if_neg ck]
      rw [plE_3 (by omega) (by omega), if_neg (fun w => ck (by omega)), Int.toNat_natCast, hqq]
      rfl
theorem fc_small {D n : Nat} (hD1 : 1 ≤ D) (hD4 : D ≤ 4) (h1 : 1 ≤ n) (hn : n < 10 ^ 17) (h3 : upK 40 n 1 < 3) : flF D n = 0 ∧ ceF D n = 1000 := by
  have hd0 : dnK 40 n 1 = 0 := dnK_0 (by omega)
  have hkl := kept_lt (D := D) (n := n) (d := 1) hD1 (by decide) hn
  have hDD : (10 : Nat) ^ D = 10 ^ (D - 1) * 10 := by rw [← Nat.pow_succ]; congr 1; omega
  unfold flF ceF rndF
  rw [if_neg (show ¬ n = 0 by omega), if_neg (show ¬ n = 0 by omega), hd0]
  generalize nrmN n 1 * 10 ^ (D - 1) / nrmD n 1 = K at *
  generalize nrmN n 1 * 10 ^ (D - 1) % nrmD n 1 = R at *
  generalize upK 40 n 1 = u at *
  constructor
  · have g3 : goF 3 false K R (nrmD n 1) = false := by simp [goF]
    rw [g3]
    simp only [Bool.false_eq_true, if_false, Nat.add_zero]
    unfold plF
    rw [if_neg (show ¬ 10 ^ D ≤ _ by omega)]
    rw [plE_0 (by omega) (by omega)]
    rfl
  · have hK' : K + (if goF 2 false K R (nrmD n 1) = true then 1 else 0) ≤ 10 ^ D := by split <;> omega
    generalize K + (if goF 2 false K R (nrmD n 1) = true then 1 else 0) = K' at *
    unfold plF
    by_cases ck : 10 ^ D ≤ K'
    · have eK2 : K' / 10 = 10 ^ (D - 1) := by omega
      rw [if_pos ck, eK2]
      by_cases c3 : 3 ≤ (0 : Int) + (u : Int) - ((0 : Nat) : Int) - ((D - 1 : Nat) : Int) + 1 + (D : Int) - 1
      · rw [plE_3 (by omega) c3]
        have e1 : ((0 : Int) + (u : Int) - ((0 : Nat) : Int) - ((D - 1 : Nat) : Int) + 1).toNat = 4 - D := by omega
        rw [e1, ← Nat.pow_add, show D - 1 + (4 - D) = 3 by omega]
        rfl
      · rw [plE_0 (by omega) c3]
        rfl
    · rw [if_neg ck, plE_0 (by omega) (by omega)]
      rfl
theorem fc_big {D n : Nat} (hD1 : 1 ≤ D) (hD4 : D ≤ 4) (h1 : 1 ≤ n) (hn : n < 10 ^ 17) (h3 : 16 ≤ upK 40 n 1) : flF D n = 1000000000000000000 ∧ ceF D n = 1000000000000000000 := by
  have hd0 : dnK 40 n 1 = 0 := dnK_0 (by omega)
  have hkl := kept_lt (D := D) (n := n) (d := 1) hD1 (by decide) hn
  unfold flF ceF rndF
  rw [if_neg (show ¬ n = 0 by omega), if_neg (show ¬ n = 0 by omega), hd0]
  generalize nrmN n 1 * 10 ^ (D - 1) / nrmD n 1 = K at *
  generalize nrmN n 1 * 10 ^ (D - 1) % nrmD n 1 = R at *
  generalize upK 40 n 1 = u at *
  constructor
  · rw [plF_G (by omega)]
  · rw [plF_G (by omega)]
theorem upK_mono {n m : Nat} (h1 : 1 ≤ n) (hnm : n ≤ m) (hm : m < 10 ^ 17) : upK 40 n 1 ≤ upK 40 m 1 := by
  obtain ⟨a1, a2, a3⟩ := upK_n h1 (by omega)
  obtain ⟨b1, b2, b3⟩ := upK_n (n := m) (by omega) hm
  rcases Nat.lt_or_ge (upK 40 m 1) (upK 40 n 1) with z | z
  · have := Nat.pow_le_pow_right (show 10 > 0 by decide) (show upK 40 m 1 + 1 ≤ upK 40 n 1 by omega)
    omega
  · exact z
theorem fl_mono {D n m : Nat} (hD1 : 1 ≤ D) (hD4 : D ≤ 4) (hnm : n ≤ m) (hm : m < 10 ^ 17) : flF D n ≤ flF D m := by
  have nn := rndF_du0 (n := m) (d := 1) (t := 0) hD1 hD4 (by decide) hm
  have tt := rndF_du0 (n := n) (d := 1) (t := 0) hD1 hD4 (by decide) (by omega)
  rcases Nat.eq_zero_or_pos n with h0 | h1
  · subst h0
    have : flF D 0 = 0 := by unfold flF; exact rndF_0
    rw [this]; exact nn.1
  · have hu := upK_mono h1 hnm hm
    by_cases c16 : 16 ≤ upK 40 m 1
    · rw [(fc_big hD1 hD4 (by omega) hm c16).1]
      exact Int.le_trans tt.2.1 tt.2.2
    · by_cases c3 : upK 40 n 1 < 3
      · rw [(fc_small hD1 hD4 h1 (by omega) c3).1]; exact nn.1
      · obtain ⟨q, q1, q2, q3, q4, q5, _⟩ := fc_raw hD1 hD4 h1 (by omega) (by omega) (by omega)
        obtain ⟨r, r1, r2, r3, r4, r5, _⟩ := fc_raw hD1 hD4 (by omega) hm (by omega) (by omega)
        rw [q5, r5]
        obtain ⟨a1, a2, a3⟩ := upK_n h1 (by omega)
        obtain ⟨b1, b2, b3⟩ := upK_n (n := m) (by omega) hm
        by_cases e : upK 40 n 1 = upK 40 m 1
        · have eq : q = r := by rw [q4, r4, e]
          subst eq
          have := Nat.mul_le_mul_right q (Nat.div_le_div_right (c := q) hnm)
          omega
        · have h2 := Nat.pow_le_pow_right (show 10 > 0 by decide) (show upK 40 n 1 + 1 ≤ upK 40 m 1 by omega)
          have h3 : n / q * q ≤ n := Nat.div_mul_le_self n q
          have h4 : 10 ^ (D - 1) ≤ m / r := (Nat.le_div_iff_mul_le (by omega)).mpr (by rw [Nat.mul_comm]; omega)
          have h5 := Nat.mul_le_mul_right r h4
          rw [Nat.mul_comm] at h5
          omega
theorem ce_mono {D n m : Nat} (hD1 : 1 ≤ D) (hD4 : D ≤ 4) (hnm : n ≤ m) (hm : m < 10 ^ 17) : ceF D n ≤ ceF D m := by
  have nn := rndF_du0 (n := m) (d := 1) (t := 0) hD1 hD4 (by decide) hm
  have tt := rndF_du0 (n := n) (d := 1) (t := 0) hD1 hD4 (by decide) (by omega)
  rcases Nat.eq_zero_or_pos n with h0 | h1
  · subst h0
    have : ceF D 0 = 0 := by unfold ceF; exact rndF_0
    rw [this]; exact Int.le_trans nn.1 nn.2.1
  · have hu := upK_mono h1 hnm hm
    by_cases c16 : 16 ≤ upK 40 m 1
    · rw [(fc_big hD1 hD4 (by omega) hm c16).2]
      exact tt.2.2
    · by_cases c3 : upK 40 m 1 < 3
      · rw [(fc_small hD1 hD4 h1 (by omega) (by omega)).2, (fc_small hD1 hD4 (by omega) hm c3).2]; exact Int.le_refl _
      · obtain ⟨r, r1, r2, r3, r4, _, r5⟩ := fc_raw hD1 hD4 (by omega) hm (by omega) (by omega)
        obtain ⟨b1, b2, b3⟩ := upK_n (n := m) (by omega) hm
        -- m is not above its rounding up
        have mle : m ≤ (m / r + (if m % r = 0 then 0 else 1)) * r := by
          have := Nat.div_add_mod m r
          have hc := Nat.mul_comm r (m / r)
          split
          · rw [Nat.add_zero]; omega
          · have := Nat.mod_lt m (show 0 < r by omega)
            rw [Nat.add_mul, Nat.one_mul]; omega
        have mle2 : (m : Int) ≤ ceF D m := by
          rw [r5]
          by_cases g9 : upK 40 m 1 = 15 ∧ m / r + (if m % r = 0 then 0 else 1) = 10 ^ D
          · rw [if_pos g9]; omega
          · rw [if_neg g9]; omega
        by_cases c4 : upK 40 n 1 < 3
        · rw [(fc_small hD1 hD4 h1 (by omega) c4).2]
          have := Nat.pow_le_pow_right (show 10 > 0 by decide) (show 3 ≤ upK 40 m 1 by omega)
          omega
        · obtain ⟨q, q1, q2, q3, q4, _, q5⟩ := fc_raw hD1 hD4 h1 (by omega) (by omega) (by omega)
          obtain ⟨a1, a2, a3⟩ := upK_n h1 (by omega)
          have nK : n / q + (if n % q = 0 then 0 else 1) ≤ 10 ^ D := by
            have : n / q < 10 ^ D := Nat.div_lt_of_lt_mul (by rw [← q3]; exact a2)
            split <;> omega
          by_cases e : upK 40 n 1 = upK 40 m 1
          · have eq : q = r := by rw [q4, r4, e]
            subst eq
            have mK : m / q + (if m % q = 0 then 0 else 1) ≤ 10 ^ D := by
              have : m / q < 10 ^ D := Nat.div_lt_of_lt_mul (by rw [← r3]; exact b2)
              split <;> omega
            have hKK : n / q + (if n % q = 0 then 0 else 1) ≤ m / q + (if m % q = 0 then 0 else 1) := by
              have hdv := Nat.div_le_div_right (c := q) hnm
              have e1 := Nat.div_add_mod n q
              have e2 := Nat.div_add_mod m q
              by_cases z1 : n % q = 0
              · rw [if_pos z1]; omega
              · rw [if_neg z1]
                by_cases z2 : m % q = 0
                · rw [if_pos z2]
                  rcases Nat.lt_or_ge (n / q) (m / q) with w | w
                  · omega
                  · have : n / q = m / q := by omega
                    rw [this] at e1
                    omega
                · rw [if_neg z2]; omega
            rw [q5, r5]
            by_cases g1 : upK 40 n 1 = 15 ∧ n / q + (if n % q = 0 then 0 else 1) = 10 ^ D
            · rw [if_pos g1, if_pos ⟨by omega, by omega⟩]; exact Int.le_refl _
            · rw [if_neg g1]
              have hmul := Nat.mul_le_mul_right q nK
              have h15 := Nat.pow_le_pow_right (show 10 > 0 by decide) (show upK 40 n 1 + 1 ≤ 16 by omega)
              rw [Nat.mul_comm (10 ^ D) q, ← q3] at hmul
              by_cases g9 : upK 40 m 1 = 15 ∧ m / q + (if m % q = 0 then 0 else 1) = 10 ^ D
              · rw [if_pos g9]; omega
              · rw [if_neg g9]
                have := Nat.mul_le_mul_right q hKK
                omega
          · rw [q5, if_neg (by omega)]
            have hmul := Nat.mul_le_mul_right q nK
            rw [Nat.mul_comm (10 ^ D) q, ← q3] at hmul
            have h2 := Nat.pow_le_pow_right (show 10 > 0 by decide) (show upK 40 n 1 + 1 ≤ upK 40 m 1 by omega)
            omega

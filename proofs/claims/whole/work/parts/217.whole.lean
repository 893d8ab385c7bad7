/-! ===== the reference's whole is the cut ===== -/
theorem jN_sgn {sg : Int32} {a b : Int64} (a0 : ¬ a = 0) (b0 : ¬ b = 0) (n43 : ¬ sg = 43) (n45 : ¬ sg = 45) : decide (jN sg a.toInt b.toInt < 0) = (decide (a.toInt < 0) != decide (b.toInt < 0)) := by
  have nz : ∀ x : Int64, ¬ x = 0 → x.toInt ≠ 0 := fun x hx e => hx (Int64.toInt_inj.mp (by simpa using e))
  have pa := stI_pos (nz a a0)
  have pb := stI_pos (nz b b0)
  have qa : (a.toInt.tdiv (10 ^ tzI a.toInt)).natAbs = stI a.toInt := natAbs_tdiv10 _ _
  have qb : (b.toInt.tdiv (10 ^ tzI b.toInt)).natAbs = stI b.toInt := natAbs_tdiv10 _ _
  have sa := tdiv_neg_iff (A := a.toInt) (k := tzI a.toInt) pa
  have sb := tdiv_neg_iff (A := b.toInt) (k := tzI b.toInt) pb
  have hA0 : a.toInt.tdiv (10 ^ tzI a.toInt) ≠ 0 := by omega
  have hB0 : b.toInt.tdiv (10 ^ tzI b.toInt) ≠ 0 := by omega
  simp only [jN, if_neg n43, if_neg n45]
  by_cases c42 : sg = 42
  · rw [if_pos c42]
    by_cases x1 : a.toInt < 0 <;> by_cases x2 : b.toInt < 0
    · have y1 := sa.mpr x1
      have y2 := sb.mpr x2
      have := Int.mul_pos_of_neg_of_neg y1 y2
      simp [x1, x2]
      omega
    · have y1 := sa.mpr x1
      have y2 : 0 < b.toInt.tdiv (10 ^ tzI b.toInt) := by omega
      have := Int.mul_neg_of_neg_of_pos y1 y2
      simp [x1, x2]
      omega
    · have y1 : 0 < a.toInt.tdiv (10 ^ tzI a.toInt) := by omega
      have y2 := sb.mpr x2
      have := Int.mul_neg_of_pos_of_neg y1 y2
      simp [x1, x2]
      omega
    · have y1 : 0 < a.toInt.tdiv (10 ^ tzI a.toInt) := by omega
      have y2 : 0 < b.toInt.tdiv (10 ^ tzI b.toInt) := by omega
      have := Int.mul_pos y1 y2
      simp [x1, x2]
      omega
  · rw [if_neg c42]
    by_cases x1 : a.toInt < 0 <;> by_cases x2 : b.toInt < 0 <;> simp [x1, x2] <;> omega
theorem jN_abs {sg : Int32} {a b : Int64} (n43 : ¬ sg = 43) (n45 : ¬ sg = 45) : (jN sg a.toInt b.toInt).natAbs = if sg = 42 then stI a.toInt * stI b.toInt else stI a.toInt := by
  have qa : (a.toInt.tdiv (10 ^ tzI a.toInt)).natAbs = stI a.toInt := natAbs_tdiv10 _ _
  have qb : (b.toInt.tdiv (10 ^ tzI b.toInt)).natAbs = stI b.toInt := natAbs_tdiv10 _ _
  simp only [jN, if_neg n43, if_neg n45]
  split
  · rw [Int.natAbs_mul, qa, qb]
  · split
    · rw [Int.natAbs_neg, qa]
    · rw [qa]
theorem cutW_0 (l : Int64) : ∀ k, cutW l k 0 0 = 0
  | 0 => rfl
  | k + 1 => by
    simp only [cutW]
    rw [show (0 : Int64) * 10 = 0 from rfl, Int64.zero_div, show (0 : Int64) + 0 = 0 from rfl, Int64.zero_mul, show (0 : Int64) - 0 = 0 from rfl]
    exact cutW_0 l k
theorem dvW_0 : ∀ k, dvW k 0 = 0
  | 0 => rfl
  | k + 1 => by
    simp only [dvW]
    rw [show (0 : Int64) / 10 = 0 from rfl]
    exact dvW_0 k
theorem cutF_0 (l : Int64) (t : Int) : cutF 0 l t = 0 := by
  unfold cutF
  rw [if_neg (by decide), show absL 0 = 0 from rfl, Int64.zero_div, Int64.zero_mul, show (0 : Int64) - 0 = 0 from rfl, cutW_0, dvW_0]
theorem cutF_1 (u : Int64) : cutF u 1 0 = u := by
  unfold cutF
  simp only [Int.toNat_zero, cutW, dvW, Int.neg_zero, Int64.div_one]
  unfold absL
  by_cases c : u < 0
  · simp [c]
  · simp [c]
section MWHOLE
variable {d : Nat} {S : fW} {h : fH} {m : Nat} {i : Nat → Nat}
/-- what a sign makes of two decimals, cut to billionths -/
def wholeF (sg : Int32) (a b : Int64) : Int64 := cutF (Int64.ofInt (jN sg a.toInt b.toInt)) (lN (jD sg b.toInt)) (jE sg a.toInt b.toInt)
theorem s_mwhole {sg : Int32} {a b : Int64} (hm : (m, shM i) ∈ S) (hs : sg = 43 ∨ sg = 45 ∨ sg = 42 ∨ sg = 47) (da : dcm a) (db : dcm b) (hb0 : sg = 47 → ¬ b = 0) : OkL (d + 3) mX12_whole S [.ref m, .int sg, .long a, .long b] h (fun v k => v = wholeF sg a b ∧ mScr m h k) := by
  have nz : ∀ x : Int64, ¬ x = 0 → x.toInt ≠ 0 := fun x hx e => hx (Int64.toInt_inj.mp (by simpa using e))
  have hE := jE_ok (sg := sg) (A := a.toInt) (B := b.toInt)
  have hJ := jN_small (sg := sg) da db
  have zero : ¬ sg = 43 → ¬ sg = 45 → (a = 0 ∨ b = 0) → wholeF sg a b = 0 := by
    intro n43 n45 z
    have hj : jN sg a.toInt b.toInt = 0 := by
      simp only [jN, if_neg n43, if_neg n45]
      by_cases c : sg = 42
      · rw [if_pos c]
        rcases z with rfl | rfl <;> simp
      · have c7 : sg = 47 := by rcases hs with q | q | q | q <;> first | exact absurd q n43 | exact absurd q n45 | exact absurd q c | exact q
        rw [if_neg c]
        rcases z with rfl | rfl
        · simp
        · exact absurd rfl (hb0 c7)
    unfold wholeF
    rw [hj]
    exact cutF_0 _ _
  refine TX12_whole_0 (Q1 := fun k => k.2.1 m 4 = lN (if sg = 42 then stI a.toInt * stI b.toInt else stI a.toInt) ∧ k.2.1 m 5 = lN (if sg = 42 then 1 else stI b.toInt) ∧ k.1 m 6 = Int32.ofInt (if sg = 42 then (tzI a.toInt + tzI b.toInt : Nat) - 18 else (tzI a.toInt : Int) - tzI b.toInt) ∧ mScr m h k) ?_ (fun n43 n45 z => ⟨(zero n43 n45 (Or.inl z)).symm, mScr.rf⟩) hm (fun _ _ _ _ => s_layBoth hm da.1 db.1) ?_ ?_ (fun n43 n45 _ z => ⟨(zero n43 n45 (Or.inr z)).symm, mScr.rf⟩) ?_
  · intro e
    refine ⟨?_, mScr.rf⟩
    unfold wholeF
    have e1 : jN sg a.toInt b.toInt = a.toInt + b.toInt := by simp [jN, e]
    have e2 : jD sg b.toInt = 1 := by simp [jD, e]
    have e3 : jE sg a.toInt b.toInt = 0 := by simp [jE, e]
    rw [e1, e2, e3, Int64.ofInt_add, Int64.ofInt_toInt, Int64.ofInt_toInt]
    exact (cutF_1 _).symm
  · rintro n43 n45 a0 b0 k ⟨k4, k5, k6, ks⟩
    rw [k5]
    have pb := stI_pos (nz b b0)
    have := db.2
    split
    · exact lN_ne0 (by decide) (by decide)
    · exact lN_ne0 pb (by omega)
  · rintro n43 n45 a0 b0 k ⟨k4, k5, k6, ks⟩
    have pb := stI_pos (nz b b0)
    have db2 := db.2
    have hD : jD sg b.toInt = if sg = 42 then 1 else stI b.toInt := by
      simp only [jD, n43, n45, false_or]
      rfl
    have hT : k.1 m 6 + (9 : Int32) = Int32.ofInt (jE sg a.toInt b.toInt) := by
      rw [k6, show (9 : Int32) = Int32.ofInt 9 from rfl, ← Int32.ofInt_add]
      congr 1
      simp only [jE, n43, n45, false_or, if_false]
      split <;> omega
    have hU : k.2.1 m 4 = absL (Int64.ofInt (jN sg a.toInt b.toInt)) := by
      rw [absL_nat, lO_toInt (by omega) (by omega), jN_abs n43 n45, k4]
      rw [lO_toInt (by omega) (by omega)]
      omega
    have hL0 : ¬ k.2.1 m 5 = 0 := by
      rw [k5]
      split
      · exact lN_ne0 (by decide) (by decide)
      · exact lN_ne0 pb (by omega)
    have hL : k.2.1 m 5 = lN (jD sg b.toInt) := by rw [k5, hD]
    rw [hT]
    generalize hte : jE sg a.toInt b.toInt = t at *
    generalize hu : Int64.ofInt (jN sg a.toInt b.toInt) = u at *
    have hsg : (u < 0) ↔ ((decide (a.toInt < 0) != decide (b.toInt < 0)) = true) := by
      rw [← jN_sgn a0 b0 n43 n45, ← hu, show (0 : Int64) = Int64.ofInt 0 from rfl, lO_lt (by omega) (by omega) (by decide) (by decide)]
      simp
    have hW : wholeF sg a b = cutF u (k.2.1 m 5) t := by unfold wholeF; rw [hu, hte, hL]
    have low : ∀ (f j : Nat) (w : Int64), f + j = (-t).toNat → t ≤ 0 → (∀ v : Int64, v = dvW f w → (if u < 0 then -v else v) = wholeF sg a b) → G mX12_whole (d + 3) S (f_PL (fun v k => v = wholeF sg a b ∧ mScr m h k)) 137 [(2, .long a), (4, .long b), (6, .long w), (11, .int (Int32.ofInt (t + j)))] [] k := by
      intro f
      induction f with
      | zero =>
        intro j w hj ht0 hv
        have hc : (0 : Int32) ≤ Int32.ofInt (t + j) := by
          rw [show (0 : Int32) = Int32.ofInt 0 from rfl, iO_le (by omega) (by omega) (by omega) (by omega)]; omega
        have hv := hv w rfl
        have ea0 : (0 : Int64) ≤ a ↔ ¬ a.toInt < 0 := by rw [Int64.le_iff_toInt_le]; simp
        have eb0 : (0 : Int64) ≤ b ↔ ¬ b.toInt < 0 := by rw [Int64.le_iff_toInt_le]; simp
        refine TX12_whole_137 ?_ ?_ ?_ ?_ ?_ ?_ ?_ ?_ (fun a => absurd hc a) <;> intro _ x y z
        · rw [ea0] at x; rw [eb0] at y
          rw [if_neg (by rw [hsg]; simp [x, y])] at hv
          exact ⟨hv, ks⟩
        · exact absurd rfl z
        · exact absurd z (by decide)
        · rw [ea0] at x; rw [eb0] at y
          rw [if_pos (by rw [hsg]; simp [x]; omega)] at hv
          exact ⟨hv, ks⟩
        · exact absurd z (by decide)
        · rw [ea0] at x; rw [eb0] at y
          rw [if_pos (by rw [hsg]; simp; omega)] at hv
          exact ⟨hv, ks⟩
        · rw [ea0] at x; rw [eb0] at y
          rw [if_neg (by rw [hsg]; simp; omega)] at hv
          exact ⟨hv, ks⟩
        · exact absurd rfl z
      | succ f ih =>
        intro j w hj ht0 hv
        have hc : ¬ (0 : Int32) ≤ Int32.ofInt (t + j) := by
          rw [show (0 : Int32) = Int32.ofInt 0 from rfl, iO_le (by omega) (by omega) (by omega) (by omega)]; omega
        refine TX12_whole_137 (fun a => absurd a hc) (fun a => absurd a hc) (fun a => absurd a hc) (fun a => absurd a hc) (fun a => absurd a hc) (fun a => absurd a hc) (fun a => absurd a hc) (fun a => absurd a hc) (fun _ => ?_)
        rw [iO1, show t + (j : Int) + 1 = t + ((j + 1 : Nat) : Int) by omega]
        exact ih (j + 1) (w / 10) (by omega) ht0 hv
    have high : ∀ (f j : Nat) (w q : Int64), f + j = t.toNat → cutW (k.2.1 m 5) t.toNat (absL u / k.2.1 m 5) (absL u - absL u / k.2.1 m 5 * k.2.1 m 5) = cutW (k.2.1 m 5) f w q → G mX12_whole (d + 3) S (f_PL (fun v k => v = wholeF sg a b ∧ mScr m h k)) 87 [(0, .ref m), (2, .long a), (4, .long b), (6, .long w), (8, .long q), (10, .int (Int32.ofInt t)), (11, .int (nI j))] [] k := by
      intro f
      induction f with
      | zero =>
        intro j w q hj hv
        have hc : Int32.ofInt t ≤ nI j := by
          rw [← nI_ofInt, iO_le (by omega) (by omega) (by omega) (by omega)]; omega
        refine TX12_whole_87 (fun _ => ?_) hm (fun a => absurd hc a) (fun a => absurd hc a)
        have fin : ∀ v : Int64, v = dvW (-t).toNat w → (if u < 0 then -v else v) = wholeF sg a b := by
          rintro v rfl
          rw [hW]
          unfold cutF
          rw [hv]
          rfl
        by_cases ht0 : t ≤ 0
        · have := low (-t).toNat 0 w (by omega) ht0 fin
          simpa using this
        · have e0 : (-t).toNat = 0 := by omega
          rw [e0] at fin
          have hv := fin w rfl
          have hc : (0 : Int32) ≤ Int32.ofInt t := by
            rw [show (0 : Int32) = Int32.ofInt 0 from rfl, iO_le (by omega) (by omega) (by omega) (by omega)]; omega
          have ea0 : (0 : Int64) ≤ a ↔ ¬ a.toInt < 0 := by rw [Int64.le_iff_toInt_le]; simp
          have eb0 : (0 : Int64) ≤ b ↔ ¬ b.toInt < 0 := by rw [Int64.le_iff_toInt_le]; simp
          refine TX12_whole_137 ?_ ?_ ?_ ?_ ?_ ?_ ?_ ?_ (fun a => absurd hc a) <;> intro _ x y z
          · rw [ea0] at x; rw [eb0] at y
            rw [if_neg (by rw [hsg]; simp [x, y])] at hv
            exact ⟨hv, ks⟩
          · exact absurd rfl z
          · exact absurd z (by decide)
          · rw [ea0] at x; rw [eb0] at y
            rw [if_pos (by rw [hsg]; simp [x]; omega)] at hv
            exact ⟨hv, ks⟩
          · exact absurd z (by decide)
          · rw [ea0] at x; rw [eb0] at y
            rw [if_pos (by rw [hsg]; simp; omega)] at hv
            exact ⟨hv, ks⟩
          · rw [ea0] at x; rw [eb0] at y
            rw [if_neg (by rw [hsg]; simp; omega)] at hv
            exact ⟨hv, ks⟩
          · exact absurd rfl z
      | succ f ih =>
        intro j w q hj hv
        have hc : ¬ Int32.ofInt t ≤ nI j := by
          rw [← nI_ofInt, iO_le (by omega) (by omega) (by omega) (by omega)]; omega
        refine TX12_whole_87 (fun a => absurd a hc) hm (fun _ => hL0) (fun _ => ?_)
        rw [nI1, Int64.mul_comm 10 w]
        exact ih (j + 1) _ _ (by omega) hv
    rw [hU]
    exact high t.toNat 0 _ _ (by omega) rfl
  · intro n43 e
    refine ⟨?_, mScr.rf⟩
    unfold wholeF
    have e1 : jN sg a.toInt b.toInt = a.toInt - b.toInt := by simp [jN, e]
    have e2 : jD sg b.toInt = 1 := by simp [jD, e]
    have e3 : jE sg a.toInt b.toInt = 0 := by simp [jE, e]
    rw [e1, e2, e3, Int64.ofInt_sub, Int64.ofInt_toInt, Int64.ofInt_toInt]
    exact (cutF_1 _).symm
end MWHOLE

/-! ===== spans: the meaning ===== -/
def rdF (D : Nat) (s : Int) : Int := rndF D 3 true (decide (s < 0)) s.natAbs 1 0
def ruF (D : Nat) (s : Int) : Int := rndF D 2 true (decide (s < 0)) s.natAbs 1 0
section MONO
variable {D : Nat} {s s' : Int}
theorem rd_pos (h : 0 ≤ s) : rdF D s = flF D s.natAbs := by
  unfold rdF flF
  rw [decide_eq_false (by omega)]
theorem ru_pos (h : 0 ≤ s) : ruF D s = ceF D s.natAbs := by
  unfold ruF ceF
  rw [decide_eq_false (by omega)]
theorem rd_neg (hD1 : 1 ≤ D) (hD4 : D ≤ 4) (h : s < 0) (hs : s.natAbs < 10 ^ 17) : rdF D s = ngF (ceF D s.natAbs) := by
  unfold rdF ceF
  rw [decide_eq_true h]
  exact rndF_ng hD1 hD4 (by decide) hs (Or.inl ⟨rfl, rfl⟩)
theorem ru_neg (hD1 : 1 ≤ D) (hD4 : D ≤ 4) (h : s < 0) (hs : s.natAbs < 10 ^ 17) : ruF D s = ngF (flF D s.natAbs) := by
  unfold ruF flF
  rw [decide_eq_true h]
  exact rndF_ng hD1 hD4 (by decide) hs (Or.inr ⟨rfl, rfl⟩)
theorem fc_bd {n : Nat} (hD1 : 1 ≤ D) (hD4 : D ≤ 4) (hn : n < 10 ^ 17) : 0 ≤ flF D n ∧ flF D n ≤ ceF D n ∧ ceF D n ≤ 1000000000000000000 := rndF_du0 hD1 hD4 (by decide) hn
theorem ngF_g {x : Int} (h0 : 0 ≤ x) (h : ngF x = 1000000000000000000) : x = 1000000000000000000 := by
  unfold ngF at h
  split at h
  · assumption
  · omega
theorem ngF_n {x : Int} (h : ngF x ≠ 1000000000000000000) : ngF x = -x ∧ x ≠ 1000000000000000000 := by
  unfold ngF at *
  split at h
  · exact absurd rfl h
  · next c => exact ⟨by rw [if_neg c], c⟩
theorem rd_mono (hD1 : 1 ≤ D) (hD4 : D ≤ 4) (hs : s.natAbs < 10 ^ 17) (hs' : s'.natAbs < 10 ^ 17) (hle : s ≤ s') (h1 : rdF D s ≠ 1000000000000000000) (h2 : rdF D s' ≠ 1000000000000000000) : rdF D s ≤ rdF D s' := by
  by_cases p : 0 ≤ s
  · rw [rd_pos p, rd_pos (by omega)]
    exact fl_mono hD1 hD4 (by omega) hs'
  · rw [rd_neg hD1 hD4 (by omega) hs] at h1 ⊢
    rw [(ngF_n h1).1]
    have b := fc_bd (n := s.natAbs) hD1 hD4 hs
    by_cases p' : 0 ≤ s'
    · rw [rd_pos p']
      have b' := fc_bd (n := s'.natAbs) hD1 hD4 hs'
      omega
    · rw [rd_neg hD1 hD4 (by omega) hs'] at h2 ⊢
      rw [(ngF_n h2).1]
      have := ce_mono (n := s'.natAbs) (m := s.natAbs) hD1 hD4 (by omega) hs
      omega
theorem ru_mono (hD1 : 1 ≤ D) (hD4 : D ≤ 4) (hs : s.natAbs < 10 ^ 17) (hs' : s'.natAbs < 10 ^ 17) (hle : s ≤ s') (h1 : ruF D s ≠ 1000000000000000000) (h2 : ruF D s' ≠ 1000000000000000000) : ruF D s ≤ ruF D s' := by
  by_cases p : 0 ≤ s
  · rw [ru_pos p, ru_pos (by omega)]
    exact ce_mono hD1 hD4 (by omega) hs'
  · rw [ru_neg hD1 hD4 (by omega) hs] at h1 ⊢
    rw [(ngF_n h1).1]
    have b := fc_bd (n := s.natAbs) hD1 hD4 hs
    by_cases p' : 0 ≤ s'
    · rw [ru_pos p']
      have b' := fc_bd (n := s'.natAbs) hD1 hD4 hs'
      omega
    · rw [ru_neg hD1 hD4 (by omega) hs'] at h2 ⊢
      rw [(ngF_n h2).1]
      have := fl_mono (n := s'.natAbs) (m := s.natAbs) hD1 hD4 (by omega) hs
      omega
/-- what is GREAT: all above are so rounded up, or all below rounded down -/
theorem rd_gr (hD1 : 1 ≤ D) (hD4 : D ≤ 4) (hs : s.natAbs < 10 ^ 17) (h : rdF D s = 1000000000000000000) : (∀ s' : Int, s ≤ s' → s'.natAbs < 10 ^ 17 → ruF D s' = 1000000000000000000) ∨ (∀ s' : Int, s' ≤ s → s'.natAbs < 10 ^ 17 → rdF D s' = 1000000000000000000) := by
  by_cases p : 0 ≤ s
  · left
    intro s' h1 h2
    rw [rd_pos p] at h
    have := fl_mono (n := s.natAbs) (m := s'.natAbs) hD1 hD4 (by omega) h2
    have b := fc_bd (n := s'.natAbs) hD1 hD4 h2
    rw [ru_pos (by omega)]
    omega
  · right
    intro s' h1 h2
    have b := fc_bd (n := s.natAbs) hD1 hD4 hs
    rw [rd_neg hD1 hD4 (by omega) hs] at h
    have h := ngF_g (by omega) h
    have := ce_mono (n := s.natAbs) (m := s'.natAbs) hD1 hD4 (by omega) h2
    have b' := fc_bd (n := s'.natAbs) hD1 hD4 h2
    rw [rd_neg hD1 hD4 (by omega) h2]
    unfold ngF
    rw [if_pos (by omega)]
theorem ru_gr (hD1 : 1 ≤ D) (hD4 : D ≤ 4) (hs : s.natAbs < 10 ^ 17) (h : ruF D s = 1000000000000000000) : (∀ s' : Int, s ≤ s' → s'.natAbs < 10 ^ 17 → ruF D s' = 1000000000000000000) ∨ (∀ s' : Int, s' ≤ s → s'.natAbs < 10 ^ 17 → rdF D s' = 1000000000000000000) := by
  by_cases p : 0 ≤ s
  · left
    intro s' h1 h2
    rw [ru_pos p] at h
    have := ce_mono (n := s.natAbs) (m := s'.natAbs) hD1 hD4 (by omega) h2
    have b := fc_bd (n := s'.natAbs) hD1 hD4 h2
    rw [ru_pos (by omega)]
    omega
  · right
    intro s' h1 h2
    have b := fc_bd (n := s.natAbs) hD1 hD4 hs
    rw [ru_neg hD1 hD4 (by omega) hs] at h
    have h := ngF_g (by omega) h
    have := fl_mono (n := s.natAbs) (m := s'.natAbs) hD1 hD4 (by omega) h2
    have b' := fc_bd (n := s'.natAbs) hD1 hD4 h2
    rw [rd_neg hD1 hD4 (by omega) h2]
    unfold ngF
    rw [if_pos (by omega)]
theorem rd_ru (hD1 : 1 ≤ D) (hD4 : D ≤ 4) (hs : s.natAbs < 10 ^ 17) (h1 : rdF D s ≠ 1000000000000000000) (h2 : ruF D s ≠ 1000000000000000000) : rdF D s ≤ ruF D s := by
  have b := fc_bd (n := s.natAbs) hD1 hD4 hs
  by_cases p : 0 ≤ s
  · rw [rd_pos p, ru_pos p]; exact b.2.1
  · rw [rd_neg hD1 hD4 (by omega) hs] at h1 ⊢
    rw [ru_neg hD1 hD4 (by omega) hs] at h2 ⊢
    rw [(ngF_n h1).1, (ngF_n h2).1]
    omega
end MONO
-- spans as pairs of longs
abbrev spT : Type := Int64 × Int64
def gG : Int64 := 1000000000000000000
def mnL (a b : Int64) : Int64 := if a ≤ b then a else b
def mxL (a b : Int64) : Int64 := if b ≤ a then a else b
/-- of all four pairs of ends -/
def sp4 (D : Nat) (c : Int32) (A B : spT) : spT :=
  if madeF D 3 true c A.1 B.1 = gG ∨ madeF D 3 true c A.1 B.2 = gG ∨ madeF D 3 true c A.2 B.1 = gG ∨ madeF D 3 true c A.2 B.2 = gG ∨ madeF D 2 true c A.1 B.1 = gG ∨ madeF D 2 true c A.1 B.2 = gG ∨ madeF D 2 true c A.2 B.1 = gG ∨ madeF D 2 true c A.2 B.2 = gG then (gG, gG)
  else (mnL (mnL (mnL (madeF D 3 true c A.1 B.1) (madeF D 3 true c A.1 B.2)) (madeF D 3 true c A.2 B.1)) (madeF D 3 true c A.2 B.2), mxL (mxL (mxL (madeF D 2 true c A.1 B.1) (madeF D 2 true c A.1 B.2)) (madeF D 2 true c A.2 B.1)) (madeF D 2 true c A.2 B.2))
/-- what a sign makes of two spans -/
def spO (D : Nat) (c : Int32) (A B : spT) : spT := if (A.1 = gG ∨ B.1 = gG) ∨ (c = 47 ∧ ¬ 0 < B.1 ∧ ¬ B.2 < 0) then (gG, gG) else sp4 D c A B
/-- two ends, GREAT if one is -/
def sp2 (x y : Int64) : spT := if x = gG ∨ y = gG then (gG, gG) else (x, y)
/-- a span that is not GREAT has two decimals for ends, in order -/
def spOk (A : spT) : Prop := A = (gG, gG) ∨ (dcm A.1 ∧ dcm A.2 ∧ A.1.toInt ≤ A.2.toInt)
theorem mnL_c (a b : Int64) : mnL a b = a ∨ mnL a b = b := by unfold mnL; split <;> simp
theorem mxL_c (a b : Int64) : mxL a b = a ∨ mxL a b = b := by unfold mxL; split <;> simp
theorem mnL_le (a b : Int64) : (mnL a b).toInt ≤ a.toInt ∧ (mnL a b).toInt ≤ b.toInt := by
  unfold mnL
  split
  · next h => rw [Int64.le_iff_toInt_le] at h; exact ⟨Int.le_refl _, h⟩
  · next h => rw [Int64.le_iff_toInt_le] at h; exact ⟨by omega, Int.le_refl _⟩
theorem mxL_le (a b : Int64) : a.toInt ≤ (mxL a b).toInt ∧ b.toInt ≤ (mxL a b).toInt := by
  unfold mxL
  split
  · next h => rw [Int64.le_iff_toInt_le] at h; exact ⟨Int.le_refl _, h⟩
  · next h => rw [Int64.le_iff_toInt_le] at h; exact ⟨by omega, Int.le_refl _⟩
theorem mnL_l {a b : Int64} (h : a.toInt ≤ b.toInt) : mnL a b = a := by
  unfold mnL
  rw [if_pos (Int64.le_iff_toInt_le.mpr h)]
theorem mxL_r {a b : Int64} (h : a.toInt ≤ b.toInt) : mxL a b = b := by
  unfold mxL
  split
  · next q =>
    rw [Int64.le_iff_toInt_le] at q
    exact Int64.toInt_inj.mp (by omega)
  · rfl

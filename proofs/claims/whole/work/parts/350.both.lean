/-! ===== both sides of each call ===== -/
section STV
variable {X : stP}
theorem StV.pg {P : pgP} {L : List Int32} (v : StV X) (hl : L.length ≤ 20) (p : PgV P) : StV (L, P, X.2.2) := ⟨hl, p, v.2.2.1, v.2.2.2⟩
theorem v_set {a b : Int32} (v : StV X) : StV (pu_set X a b).2 := by
  obtain ⟨p1, p2, p3, p4, p5, p6, p7⟩ := id v.2.1
  unfold pu_set
  split
  · next q =>
    obtain ⟨j, hj, rfl⟩ := nI_of2 (x := b) (M := 4) (n := 4) rfl (fun w => q.2.1 (Int32.lt_trans w (by decide))) (Int32.not_lt.mp q.2.2)
    have h1 : 1 ≤ j := by
      rcases Nat.eq_zero_or_pos j with w | w
      · subst w; exact absurd (by decide) q.2.1
      · exact w
    rw [nI_clamp (by omega)]
    exact v.pg v.1 ⟨p1, p2, p3, p4, h1, hj, p7⟩
  · split
    · next q =>
      obtain ⟨j, hj, rfl⟩ := nI_of2 (x := b) (M := 3) (n := 3) rfl q.2.1 (Int32.not_lt.mp q.2.2)
      rw [nI_clamp (by omega)]
      exact v.pg v.1 ⟨p1, p2, p3, p4, p5, p6, hj⟩
    · exact v
theorem v_say {s : Int32} (v : StV X) : StV (pu_say X s).2 := by
  unfold pu_say
  split
  · split
    · next q => exact ⟨by simp; omega, v.2⟩
    · exact v
  · exact v
theorem v_wipe (v : StV X) : StV (pu_wipe X).2 := ⟨by simp [pu_wipe], v.2⟩
theorem v_text (v : StV X) : StV (pu_text X).2 := by
  obtain ⟨p1, p2, p3, p4, p5, p6, p7⟩ := id v.2.1
  unfold pu_text
  split
  · next q => exact v.pg (by simp) ⟨(fault_ok q).1, p2, p3, p4, p5, p6, p7⟩
  · exact v
theorem v_put {l w e : Int32} (v : StV X) : StV (pu_put X l w e).2 := by
  obtain ⟨p1, p2, p3, p4, p5, p6, p7⟩ := id v.2.1
  unfold pu_put
  split
  · split
    · next q =>
      refine v.pg v.1 ⟨p1, fun j hj => ?_, p3, p4, p5, p6, p7⟩
      have a1 := Int32.not_lt.mp q.2.1
      have a2 := Int32.not_lt.mp q.2.2
      rw [Int32.le_iff_toInt_le] at a1 a2
      show -99 ≤ (upd (pNu X.2.1) l.toNatClampNeg e j).toInt ∧ (upd (pNu X.2.1) l.toNatClampNeg e j).toInt ≤ 99
      by_cases c : j = l.toNatClampNeg
      · rw [c, upd_s]; exact ⟨by simpa using a1, by simpa using a2⟩
      · rw [upd_n _ _ c]; exact p2 j hj
    · split
      · next q =>
        refine v.pg v.1 ⟨p1, p2, fun j hj => ?_, p4, p5, p6, p7⟩
        have a1 := Int32.not_lt.mp q.2.1
        have a2 := Int32.not_lt.mp q.2.2
        rw [Int32.le_iff_toInt_le] at a1 a2
        show 0 ≤ (upd (pSp X.2.1) l.toNatClampNeg e j).toInt ∧ (upd (pSp X.2.1) l.toNatClampNeg e j).toInt ≤ 5
        by_cases c : j = l.toNatClampNeg
        · rw [c, upd_s]; exact ⟨by simpa using a1, by simpa using a2⟩
        · rw [upd_n _ _ c]; exact p3 j hj
      · exact v
  · exact v
theorem v_term {y : Int64} (v : StV X) : StV (pu_term X y).2 := by
  obtain ⟨p1, p2, p3, p4, p5, p6, p7⟩ := id v.2.1
  unfold pu_term
  split
  · next q =>
    split
    · exact v
    · next g =>
      split
      · next c =>
        refine v.pg v.1 ⟨p1, p2, p3, ⟨?_, fun j hj => ?_⟩, p5, p6, p7⟩
        · show pN X.2.1 + 1 ≤ 7
          omega
        · show dcm (vp_updL (pTe X.2.1) (pN X.2.1) (ptd X y) j)
          have hj : j < pN X.2.1 + 1 := hj
          by_cases e : j = pN X.2.1
          · rw [e, pk_uLs]
            have a1 : -10000000000000000 < y.toInt := by have := q.1; rw [Int64.le_iff_toInt_le] at this; simp at this; omega
            have a2 : y.toInt < 10000000000000000 := by have := q.2; rw [Int64.lt_iff_toInt_lt] at this; simpa using this
            rcases dcmG_of (rndF_dcm (D := pD X.2.1) (W := pW X.2.1) (tiny := false) (below := decide (y.toInt < 0)) (n := y.toInt.natAbs) (d := 1) (t := 0) p5 p6 (by decide) (by omega)) with w | w
            · exact absurd w g
            · exact w
          · rw [pk_uLn e]; exact p4.2 j (by omega)
      · exact v
  · exact v
theorem v_clear (v : StV X) : StV (pu_clear X).2 := by
  obtain ⟨p1, p2, p3, p4, p5, p6, p7⟩ := id v.2.1
  exact v.pg v.1 ⟨p1, p2, p3, ⟨Nat.zero_le _, fun j hj => absurd hj (Nat.not_lt_zero j)⟩, p5, p6, p7⟩
theorem v_change {r s : Int32} (v : StV X) : StV (pu_change X r s).2 := by
  obtain ⟨p1, p2, p3, p4, p5, p6, p7⟩ := id v.2.1
  have h13 := v.t13
  unfold pu_change
  split
  · next z =>
    obtain ⟨j, hj, rfl⟩ := in_n (by omega) z
    split
    · split
      · next q =>
        refine v.pg v.1 ⟨?_, p2, p3, p4, p5, p6, p7⟩
        unfold pok at q
        rw [nI_clamp (n := j) (by omega)] at q
        have := wr_ok p1 hj q
        show TxL (pwr X r (nI j))
        unfold pwr
        rw [nI_clamp (n := j) (by omega)]
        exact this
      · exact v
    · exact v
  · exact v
theorem v_image {n : Int32} (v : StV X) : StV (pu_image X n).2 := by
  unfold pu_image
  split
  · exact ⟨v.1, v.2.1, fun Q hQ => by cases hQ; exact v.2.1, v.2.2.2⟩
  · split
    · exact ⟨v.1, v.2.1, v.2.2.1, fun Q hQ => by cases hQ; exact v.2.1⟩
    · exact v
theorem v_reS {O : Option pgP} (v : StV X) (o : ∀ Q, O = some Q → PgV Q) : StV (reS X O).2 := by
  cases O with
  | none => exact v
  | some Q => exact v.pg v.1 (o Q rfl)
theorem v_restore {n : Int32} (v : StV X) : StV (pu_restore X n).2 := by
  unfold pu_restore
  split
  · exact v_reS v v.2.2.1
  · split
    · exact v_reS v v.2.2.2
    · exact v
end STV
/-- both answer the same, and stay related -/
def BI (mC mM : fM) (vs : List Value) (h1 h2 : fH) : Prop := ∃ (X' : stP) (a : Int32), StV X' ∧ OkI 20 mC SC (.ref 1 :: vs) h1 (fun y k => y = a ∧ CRel k X') ∧ OkI 20 mM SM (.ref 1 :: vs) h2 (fun y k => y = a ∧ MRel k X')
def BL (mC mM : fM) (vs : List Value) (h1 h2 : fH) : Prop := ∃ (X' : stP) (a : Int64), StV X' ∧ OkL 20 mC SC (.ref 1 :: vs) h1 (fun y k => y = a ∧ CRel k X') ∧ OkL 20 mM SM (.ref 1 :: vs) h2 (fun y k => y = a ∧ MRel k X')
section BOTH
variable {h1 h2 : fH} {X : stP}
theorem bo_set (x : CRel h1 X) (y : MRel h2 X) (v : StV X) (a b : Int32) : BI mX11_set mX12_set [.int a, .int b] h1 h2 := ⟨_, _, v_set v, c_set x, r_set y⟩
theorem bo_round (x : CRel h1 X) (y : MRel h2 X) (v : StV X) (a b c : Int32) : BL mX11_round mX12_round [.int a, .int b, .int c] h1 h2 := ⟨X, _, v, c_round x v, r_round y v⟩
theorem bo_say (x : CRel h1 X) (y : MRel h2 X) (v : StV X) (a : Int32) : BI mX11_say mX12_say [.int a] h1 h2 := ⟨_, _, v_say v, c_say x v, r_say y v⟩
theorem bo_wipe (x : CRel h1 X) (y : MRel h2 X) (v : StV X) : BI mX11_wipe mX12_wipe [] h1 h2 := ⟨_, _, v_wipe v, c_wipe x, r_wipe y⟩
theorem bo_fault (x : CRel h1 X) (y : MRel h2 X) (v : StV X) : BI mX11_fault mX12_fault [] h1 h2 := ⟨X, pu_fault X, v, OkI.post (c_fault (d := 19) x v) (fun r k q => ⟨q.1, by rw [q.2]; exact x⟩), OkI.post (r_fault (d := 18) y v) (fun r k q => ⟨q.1, by rw [q.2]; exact y⟩)⟩
theorem bo_text (x : CRel h1 X) (y : MRel h2 X) (v : StV X) : BI mX11_text mX12_text [] h1 h2 := ⟨_, _, v_text v, c_text x v, r_text y v⟩
theorem bo_sign (x : CRel h1 X) (y : MRel h2 X) (v : StV X) (a : Int32) : BI mX11_sign mX12_sign [.int a] h1 h2 := ⟨X, _, v, c_sign x v, r_sign y v⟩
theorem bo_put (x : CRel h1 X) (y : MRel h2 X) (v : StV X) (a b c : Int32) : BI mX11_put mX12_put [.int a, .int b, .int c] h1 h2 := ⟨_, _, v_put v, c_put x, r_put y⟩
theorem bo_worked (x : CRel h1 X) (y : MRel h2 X) (v : StV X) (a b : Int32) : BL mX11_worked mX12_worked [.int a, .int b] h1 h2 := ⟨X, _, v, c_worked x v, r_worked y v⟩
theorem bo_exact (x : CRel h1 X) (y : MRel h2 X) (v : StV X) (a : Int32) : BL mX11_exact mX12_exact [.int a] h1 h2 := ⟨X, _, v, c_exact x v, r_exact y v⟩
theorem bo_loss (x : CRel h1 X) (y : MRel h2 X) (v : StV X) : BL mX11_loss mX12_loss [] h1 h2 := ⟨X, _, v, c_loss x v, r_loss y v⟩
theorem bo_worst (x : CRel h1 X) (y : MRel h2 X) (v : StV X) : BI mX11_worst mX12_worst [] h1 h2 := ⟨X, _, v, c_worst x v, r_worst y v⟩
theorem bo_needs (x : CRel h1 X) (y : MRel h2 X) (v : StV X) (a : Int64) : BI mX11_needs mX12_needs [.long a] h1 h2 := ⟨X, _, v, c_needs x v, r_needs y v⟩
theorem bo_term (x : CRel h1 X) (y : MRel h2 X) (v : StV X) (a : Int64) : BI mX11_term mX12_term [.long a] h1 h2 := ⟨_, _, v_term v, c_term x v, r_term y v⟩
theorem bo_clear (x : CRel h1 X) (y : MRel h2 X) (v : StV X) : BI mX11_clear mX12_clear [] h1 h2 := ⟨_, _, v_clear v, c_clear x, r_clear y⟩
theorem bo_about (x : CRel h1 X) (y : MRel h2 X) (v : StV X) (a : Int32) : BL mX11_about mX12_about [.int a] h1 h2 := ⟨X, _, v, c_about x v, r_about y v⟩
theorem bo_sum (x : CRel h1 X) (y : MRel h2 X) (v : StV X) (a : Int32) : BL mX11_sum mX12_sum [.int a] h1 h2 := ⟨X, _, v, c_sum x v, r_sum y v⟩
theorem bo_orders (x : CRel h1 X) (y : MRel h2 X) (v : StV X) (a : Int32) : BL mX11_orders mX12_orders [.int a] h1 h2 := ⟨X, _, v, c_orders x v, r_orders y v⟩
theorem bo_order (x : CRel h1 X) (y : MRel h2 X) (v : StV X) (a b : Int32) : BI mX11_order mX12_order [.int a, .int b] h1 h2 := ⟨X, _, v, c_order x v, r_order y v⟩
theorem bo_bounds (x : CRel h1 X) (y : MRel h2 X) (v : StV X) (a : Int32) : BL mX11_bounds mX12_bounds [.int a] h1 h2 := ⟨X, _, v, c_bounds x v, r_bounds y v⟩
theorem pr_one {e : Int32} {a b : Int64} (p : pr_truth X e a) (q : pr_truth X e b) : a = b := by
  unfold pr_truth at p q
  split at p
  · next w =>
    rw [if_pos w] at q
    obtain ⟨V, rfl, p2⟩ := p
    obtain ⟨U, rfl, q2⟩ := q
    rw [p2.one q2]
  · next w =>
    rw [if_neg w] at q
    rw [p, q]
theorem bo_truth (x : CRel h1 X) (y : MRel h2 X) (v : StV X) (a : Int32) : BL mX11_truth mX12_truth [.int a] h1 h2 := by
  by_cases hex : ∃ w, pr_truth X a w
  · obtain ⟨w, hw⟩ := hex
    exact ⟨X, w, v, OkL.post (c_truth x v) (fun r k q => ⟨pr_one q.1 hw, q.2⟩), OkL.post (r_truth y v) (fun r k q => ⟨pr_one q.1 hw, q.2⟩)⟩
  · exact ⟨X, 0, v, OkL.post (c_truth x v) (fun r k q => absurd ⟨r, q.1⟩ hex), OkL.post (r_truth y v) (fun r k q => absurd ⟨r, q.1⟩ hex)⟩
theorem bo_fits (x : CRel h1 X) (y : MRel h2 X) (v : StV X) (a b : Int32) : BI mX11_fits mX12_fits [.int a, .int b] h1 h2 := ⟨X, _, v, c_fits x v, r_fits y v⟩
theorem bo_change (x : CRel h1 X) (y : MRel h2 X) (v : StV X) (a b : Int32) : BI mX11_change mX12_change [.int a, .int b] h1 h2 := ⟨_, _, v_change v, c_change x v, r_change y v⟩
theorem bo_better (x : CRel h1 X) (y : MRel h2 X) (v : StV X) (a : Int32) : BL mX11_better mX12_better [.int a] h1 h2 := ⟨X, _, v, c_better x v, r_better y v⟩
theorem bo_betterSign (x : CRel h1 X) (y : MRel h2 X) (v : StV X) (a b : Int32) : BI mX11_betterSign mX12_betterSign [.int a, .int b] h1 h2 := ⟨X, _, v, c_betterSign x v, r_betterSign y v⟩
theorem bo_image (x : CRel h1 X) (y : MRel h2 X) (v : StV X) (a : Int32) : BI mX11_image mX12_image [.int a] h1 h2 := ⟨_, _, v_image v, c_image x, r_image y v⟩
theorem bo_restore (x : CRel h1 X) (y : MRel h2 X) (v : StV X) (a : Int32) : BI mX11_restore mX12_restore [.int a] h1 h2 := ⟨_, _, v_restore v, c_restore x, r_restore y v⟩
theorem bo_told (x : CRel h1 X) (y : MRel h2 X) (v : StV X) (a : Int32) : BI mX11_told mX12_told [.int a] h1 h2 := ⟨X, _, v, c_told x, r_told y⟩
end BOTH
theorem X0_ok : StV X0 := by
  refine ⟨by decide, ⟨TxV.of (L := [97]) (by decide) (by decide) (by decide), fun j hj => ?_, fun j hj => ?_, ⟨by decide, fun j hj => absurd hj (Nat.not_lt_zero j)⟩, by decide, by decide, by decide⟩, fun Q hQ => (by cases hQ), fun Q hQ => (by cases hQ)⟩
  · show -99 ≤ (num1 j).toInt ∧ (num1 j).toInt ≤ 99
    unfold num1
    rw [if_pos hj]
    decide
  · show 0 ≤ (0 : Int32).toInt ∧ (0 : Int32).toInt ≤ 5
    decide

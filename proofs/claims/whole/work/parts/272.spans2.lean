/-! ===== spans: sums and differences by two pairs, ends in order ===== -/
theorem mn4 {w v1 v2 v3 v4 : Int64} (h1 : w.toInt ≤ v1.toInt) (h2 : w.toInt ≤ v2.toInt) (h3 : w.toInt ≤ v3.toInt) (h4 : w.toInt ≤ v4.toInt) (hm : w = v1 ∨ w = v2 ∨ w = v3 ∨ w = v4) : mnL (mnL (mnL v1 v2) v3) v4 = w := by
  have a := mnL_le v1 v2
  have b := mnL_le (mnL v1 v2) v3
  have c := mnL_le (mnL (mnL v1 v2) v3) v4
  apply Int64.toInt_inj.mp
  have up : w.toInt ≤ (mnL (mnL (mnL v1 v2) v3) v4).toInt := by
    rcases mnL_c (mnL (mnL v1 v2) v3) v4 with e | e
    · rw [e]
      rcases mnL_c (mnL v1 v2) v3 with e | e
      · rw [e]
        rcases mnL_c v1 v2 with e | e
        · rw [e]; exact h1
        · rw [e]; exact h2
      · rw [e]; exact h3
    · rw [e]; exact h4
  rcases hm with rfl | rfl | rfl | rfl <;> omega
theorem mx4 {w v1 v2 v3 v4 : Int64} (h1 : v1.toInt ≤ w.toInt) (h2 : v2.toInt ≤ w.toInt) (h3 : v3.toInt ≤ w.toInt) (h4 : v4.toInt ≤ w.toInt) (hm : w = v1 ∨ w = v2 ∨ w = v3 ∨ w = v4) : mxL (mxL (mxL v1 v2) v3) v4 = w := by
  have a := mxL_le v1 v2
  have b := mxL_le (mxL v1 v2) v3
  have c := mxL_le (mxL (mxL v1 v2) v3) v4
  apply Int64.toInt_inj.mp
  have up : (mxL (mxL (mxL v1 v2) v3) v4).toInt ≤ w.toInt := by
    rcases mxL_c (mxL (mxL v1 v2) v3) v4 with e | e
    · rw [e]
      rcases mxL_c (mxL v1 v2) v3 with e | e
      · rw [e]
        rcases mxL_c v1 v2 with e | e
        · rw [e]; exact h1
        · rw [e]; exact h2
      · rw [e]; exact h3
    · rw [e]; exact h4
  rcases hm with rfl | rfl | rfl | rfl <;> omega
section SPAN
variable {D : Nat}
theorem rd_dcm (hD1 : 1 ≤ D) (hD4 : D ≤ 4) {s : Int} (hs : s.natAbs < 10 ^ 17) : rdF D s = 1000000000000000000 ∨ dcmI (rdF D s) := rndF_dcm hD1 hD4 (by decide) hs
theorem ru_dcm (hD1 : 1 ≤ D) (hD4 : D ≤ 4) {s : Int} (hs : s.natAbs < 10 ^ 17) : ruF D s = 1000000000000000000 ∨ dcmI (ruF D s) := rndF_dcm hD1 hD4 (by decide) hs
theorem oG {x : Int} (h : x = 1000000000000000000 ∨ dcmI x) : (Int64.ofInt x = gG ↔ x = 1000000000000000000) ∧ (Int64.ofInt x).toInt = x := by
  have hb : x = 1000000000000000000 ∨ x.natAbs < 10 ^ 16 := h.imp id (fun q => q.1)
  refine ⟨?_, lO_toInt (by omega) (by omega)⟩
  show Int64.ofInt x = Int64.ofInt 1000000000000000000 ↔ _
  exact lO_eq (by omega) (by omega) (by decide) (by decide)
theorem sp_lin {c : Int32} {A B : spT} {x1 x2 x3 x4 m M : Int} (hD1 : 1 ≤ D) (hD4 : D ≤ 4) (k1 : x1.natAbs < 10 ^ 17) (k2 : x2.natAbs < 10 ^ 17) (k3 : x3.natAbs < 10 ^ 17) (k4 : x4.natAbs < 10 ^ 17)
    (d1 : madeF D 3 true c A.1 B.1 = Int64.ofInt (rdF D x1)) (d2 : madeF D 3 true c A.1 B.2 = Int64.ofInt (rdF D x2)) (d3 : madeF D 3 true c A.2 B.1 = Int64.ofInt (rdF D x3)) (d4 : madeF D 3 true c A.2 B.2 = Int64.ofInt (rdF D x4))
    (u1 : madeF D 2 true c A.1 B.1 = Int64.ofInt (ruF D x1)) (u2 : madeF D 2 true c A.1 B.2 = Int64.ofInt (ruF D x2)) (u3 : madeF D 2 true c A.2 B.1 = Int64.ofInt (ruF D x3)) (u4 : madeF D 2 true c A.2 B.2 = Int64.ofInt (ruF D x4))
    (m1 : m ≤ x1) (m2 : m ≤ x2) (m3 : m ≤ x3) (m4 : m ≤ x4) (mm : m = x1 ∨ m = x2 ∨ m = x3 ∨ m = x4) (M1 : x1 ≤ M) (M2 : x2 ≤ M) (M3 : x3 ≤ M) (M4 : x4 ≤ M) (MM : M = x1 ∨ M = x2 ∨ M = x3 ∨ M = x4) :
    sp4 D c A B = sp2 (Int64.ofInt (rdF D m)) (Int64.ofInt (ruF D M)) := by
  have km : m.natAbs < 10 ^ 17 := by rcases mm with rfl | rfl | rfl | rfl <;> assumption
  have kM : M.natAbs < 10 ^ 17 := by rcases MM with rfl | rfl | rfl | rfl <;> assumption
  unfold sp4 sp2
  rw [d1, d2, d3, d4, u1, u2, u3, u4]
  simp only [(oG (rd_dcm hD1 hD4 k1)).1, (oG (rd_dcm hD1 hD4 k2)).1, (oG (rd_dcm hD1 hD4 k3)).1, (oG (rd_dcm hD1 hD4 k4)).1, (oG (ru_dcm hD1 hD4 k1)).1, (oG (ru_dcm hD1 hD4 k2)).1, (oG (ru_dcm hD1 hD4 k3)).1, (oG (ru_dcm hD1 hD4 k4)).1, (oG (rd_dcm hD1 hD4 km)).1, (oG (ru_dcm hD1 hD4 kM)).1]
  have one : ∀ x : Int, x.natAbs < 10 ^ 17 → m ≤ x → x ≤ M → (rdF D x = 1000000000000000000 ∨ ruF D x = 1000000000000000000) → (rdF D m = 1000000000000000000 ∨ ruF D M = 1000000000000000000) := by
    intro x kx hx1 hx2 hx
    rcases hx with hx | hx
    · rcases rd_gr hD1 hD4 kx hx with q | q
      · exact Or.inr (q M hx2 kM)
      · exact Or.inl (q m hx1 km)
    · rcases ru_gr hD1 hD4 kx hx with q | q
      · exact Or.inr (q M hx2 kM)
      · exact Or.inl (q m hx1 km)
  by_cases g : rdF D m = 1000000000000000000 ∨ ruF D M = 1000000000000000000
  · rw [if_pos g, if_pos]
    rcases g with g | g
    · rcases mm with rfl | rfl | rfl | rfl <;> simp [g]
    · rcases MM with rfl | rfl | rfl | rfl <;> simp [g]
  · have n1 := fun h => g (one x1 k1 m1 M1 h)
    have n2 := fun h => g (one x2 k2 m2 M2 h)
    have n3 := fun h => g (one x3 k3 m3 M3 h)
    have n4 := fun h => g (one x4 k4 m4 M4 h)
    rw [not_or] at g
    have n1 := not_or.mp n1
    have n2 := not_or.mp n2
    have n3 := not_or.mp n3
    have n4 := not_or.mp n4
    rw [if_neg (by simp [g, n1, n2, n3, n4]), if_neg (by simp [g])]
    congr 1
    · apply mn4
      · rw [(oG (rd_dcm hD1 hD4 km)).2, (oG (rd_dcm hD1 hD4 k1)).2]; exact rd_mono hD1 hD4 km k1 m1 g.1 n1.1
      · rw [(oG (rd_dcm hD1 hD4 km)).2, (oG (rd_dcm hD1 hD4 k2)).2]; exact rd_mono hD1 hD4 km k2 m2 g.1 n2.1
      · rw [(oG (rd_dcm hD1 hD4 km)).2, (oG (rd_dcm hD1 hD4 k3)).2]; exact rd_mono hD1 hD4 km k3 m3 g.1 n3.1
      · rw [(oG (rd_dcm hD1 hD4 km)).2, (oG (rd_dcm hD1 hD4 k4)).2]; exact rd_mono hD1 hD4 km k4 m4 g.1 n4.1
      · rcases mm with rfl | rfl | rfl | rfl <;> simp
    · apply mx4
      · rw [(oG (ru_dcm hD1 hD4 kM)).2, (oG (ru_dcm hD1 hD4 k1)).2]; exact ru_mono hD1 hD4 k1 kM M1 n1.2 g.2
      · rw [(oG (ru_dcm hD1 hD4 kM)).2, (oG (ru_dcm hD1 hD4 k2)).2]; exact ru_mono hD1 hD4 k2 kM M2 n2.2 g.2
      · rw [(oG (ru_dcm hD1 hD4 kM)).2, (oG (ru_dcm hD1 hD4 k3)).2]; exact ru_mono hD1 hD4 k3 kM M3 n3.2 g.2
      · rw [(oG (ru_dcm hD1 hD4 kM)).2, (oG (ru_dcm hD1 hD4 k4)).2]; exact ru_mono hD1 hD4 k4 kM M4 n4.2 g.2
      · rcases MM with rfl | rfl | rfl | rfl <;> simp
theorem made_p {W : Nat} {a b : Int64} (da : dcm a) (db : dcm b) : madeF D W true 43 a b = Int64.ofInt (rndF D W true (decide (a.toInt + b.toInt < 0)) (a.toInt + b.toInt).natAbs 1 0) := by
  unfold madeF
  rw [if_neg (by simp [dcm_ng da, dcm_ng db]), if_neg (by simp)]
  rfl
theorem made_m {W : Nat} {a b : Int64} (da : dcm a) (db : dcm b) : madeF D W true 45 a b = Int64.ofInt (rndF D W true (decide (a.toInt - b.toInt < 0)) (a.toInt - b.toInt).natAbs 1 0) := by
  unfold madeF
  rw [if_neg (by simp [dcm_ng da, dcm_ng db]), if_neg (by simp)]
  rfl
theorem sp_plus {A B : spT} (hD1 : 1 ≤ D) (hD4 : D ≤ 4) (a1 : dcm A.1) (a2 : dcm A.2) (a3 : A.1.toInt ≤ A.2.toInt) (b1 : dcm B.1) (b2 : dcm B.2) (b3 : B.1.toInt ≤ B.2.toInt) : sp4 D 43 A B = sp2 (madeF D 3 true 43 A.1 B.1) (madeF D 2 true 43 A.2 B.2) := by
  have := a1.1
  have := a2.1
  have := b1.1
  have := b2.1
  rw [made_p a1 b1, made_p a2 b2]
  exact sp_lin (x1 := A.1.toInt + B.1.toInt) (x2 := A.1.toInt + B.2.toInt) (x3 := A.2.toInt + B.1.toInt) (x4 := A.2.toInt + B.2.toInt) (m := A.1.toInt + B.1.toInt) (M := A.2.toInt + B.2.toInt) hD1 hD4 (by omega) (by omega) (by omega) (by omega) (made_p a1 b1) (made_p a1 b2) (made_p a2 b1) (made_p a2 b2) (made_p a1 b1) (made_p a1 b2) (made_p a2 b1) (made_p a2 b2) (by omega) (by omega) (by omega) (by omega) (Or.inl rfl) (by omega) (by omega) (by omega) (by omega) (Or.inr (Or.inr (Or.inr rfl)))
theorem sp_minus {A B : spT} (hD1 : 1 ≤ D) (hD4 : D ≤ 4) (a1 : dcm A.1) (a2 : dcm A.2) (a3 : A.1.toInt ≤ A.2.toInt) (b1 : dcm B.1) (b2 : dcm B.2) (b3 : B.1.toInt ≤ B.2.toInt) : sp4 D 45 A B = sp2 (madeF D 3 true 45 A.1 B.2) (madeF D 2 true 45 A.2 B.1) := by
  have := a1.1
  have := a2.1
  have := b1.1
  have := b2.1
  rw [made_m a1 b2, made_m a2 b1]
  exact sp_lin (x1 := A.1.toInt - B.1.toInt) (x2 := A.1.toInt - B.2.toInt) (x3 := A.2.toInt - B.1.toInt) (x4 := A.2.toInt - B.2.toInt) (m := A.1.toInt - B.2.toInt) (M := A.2.toInt - B.1.toInt) hD1 hD4 (by omega) (by omega) (by omega) (by omega) (made_m a1 b1) (made_m a1 b2) (made_m a2 b1) (made_m a2 b2) (made_m a1 b1) (made_m a1 b2) (made_m a2 b1) (made_m a2 b2) (by omega) (by omega) (by omega) (by omega) (Or.inr (Or.inl rfl)) (by omega) (by omega) (by omega) (by omega) (Or.inr (Or.inr (Or.inl rfl)))
/-- rounded down is not above rounded up -/
theorem made_du {c : Int32} {a b : Int64} (hD1 : 1 ≤ D) (hD4 : D ≤ 4) (ha : dcmG a) (hb : dcmG b) (h1 : madeF D 3 true c a b ≠ gG) (h2 : madeF D 2 true c a b ≠ gG) : (madeF D 3 true c a b).toInt ≤ (madeF D 2 true c a b).toInt := by
  by_cases g1 : a = 1000000000000000000 ∨ b = 1000000000000000000
  · exact absurd (by unfold madeF; rw [if_pos g1]; rfl) h1
  · by_cases g2 : ¬ (c = 43 ∨ c = 45 ∨ c = 42) ∧ b = 0
    · exact absurd (by unfold madeF; rw [if_neg g1, if_pos g2]; rfl) h1
    · have da := ha.resolve_left (fun z => g1 (Or.inl z))
      have db := hb.resolve_left (fun z => g1 (Or.inr z))
      have hd := (jD_ok (sg := c) db (by
        by_cases z : c = 43 ∨ c = 45 ∨ c = 42
        · exact Or.inl z
        · exact Or.inr (fun q => g2 ⟨z, q⟩))).1
      have hn := jN_small (sg := c) da db
      have e : ∀ W, madeF D W true c a b = Int64.ofInt (rndF D W true (decide (jN c a.toInt b.toInt < 0)) (jN c a.toInt b.toInt).natAbs (jD c b.toInt) (jE c a.toInt b.toInt)) := fun W => by
        unfold madeF; rw [if_neg g1, if_neg g2]; rfl
      rw [e] at h1 h2 ⊢
      rw [e]
      have q3 := oG (rndF_dcm (W := 3) (tiny := true) (below := decide (jN c a.toInt b.toInt < 0)) (t := jE c a.toInt b.toInt) hD1 hD4 hd hn)
      have q2 := oG (rndF_dcm (W := 2) (tiny := true) (below := decide (jN c a.toInt b.toInt < 0)) (t := jE c a.toInt b.toInt) hD1 hD4 hd hn)
      rw [q3.2, q2.2]
      rw [ne_eq, q3.1] at h1
      rw [ne_eq, q2.1] at h2
      generalize jN c a.toInt b.toInt = J at *
      have du := rndF_du0 (t := jE c a.toInt b.toInt) hD1 hD4 hd hn
      cases hb : decide (J < 0)
      · exact du.2.1
      · rw [hb] at h1 h2
        rw [rndF_ng hD1 hD4 hd hn (Or.inl ⟨rfl, rfl⟩)] at h1 ⊢
        rw [rndF_ng hD1 hD4 hd hn (Or.inr ⟨rfl, rfl⟩)] at h2 ⊢
        rw [(ngF_n h1).1, (ngF_n h2).1]
        omega
theorem spOk_g {A : spT} (h : spOk A) : dcmG A.1 ∧ dcmG A.2 := by
  rcases h with rfl | h
  · exact ⟨Or.inl rfl, Or.inl rfl⟩
  · exact ⟨Or.inr h.1, Or.inr h.2.1⟩
theorem sp4_ok {c : Int32} {A B : spT} (hD1 : 1 ≤ D) (hD4 : D ≤ 4) (hA : spOk A) (hB : spOk B) : spOk (sp4 D c A B) := by
  obtain ⟨a1, a2⟩ := spOk_g hA
  obtain ⟨b1, b2⟩ := spOk_g hB
  unfold sp4
  split
  · exact Or.inl rfl
  · next g =>
    simp only [not_or] at g
    obtain ⟨g1, g2, g3, g4, g5, g6, g7, g8⟩ := g
    have m11 := madeF_dcm (W := 3) (tiny := true) (sg := c) hD1 hD4 a1 b1
    have m12 := madeF_dcm (W := 3) (tiny := true) (sg := c) hD1 hD4 a1 b2
    have m21 := madeF_dcm (W := 3) (tiny := true) (sg := c) hD1 hD4 a2 b1
    have m22 := madeF_dcm (W := 3) (tiny := true) (sg := c) hD1 hD4 a2 b2
    have u11 := madeF_dcm (W := 2) (tiny := true) (sg := c) hD1 hD4 a1 b1
    have u12 := madeF_dcm (W := 2) (tiny := true) (sg := c) hD1 hD4 a1 b2
    have u21 := madeF_dcm (W := 2) (tiny := true) (sg := c) hD1 hD4 a2 b1
    have u22 := madeF_dcm (W := 2) (tiny := true) (sg := c) hD1 hD4 a2 b2
    have du := made_du (c := c) hD1 hD4 a1 b1 g1 g5
    have m11 := m11.resolve_left g1
    have m12 := m12.resolve_left g2
    have m21 := m21.resolve_left g3
    have m22 := m22.resolve_left g4
    have u11 := u11.resolve_left g5
    have u12 := u12.resolve_left g6
    have u21 := u21.resolve_left g7
    have u22 := u22.resolve_left g8
    have mn : ∀ {x y : Int64}, dcm x → dcm y → dcm (mnL x y) := fun {x y} hx hy => by rcases mnL_c x y with e | e <;> rw [e] <;> assumption
    have mx : ∀ {x y : Int64}, dcm x → dcm y → dcm (mxL x y) := fun {x y} hx hy => by rcases mxL_c x y with e | e <;> rw [e] <;> assumption
    refine Or.inr ⟨mn (mn (mn m11 m12) m21) m22, mx (mx (mx u11 u12) u21) u22, ?_⟩
    generalize madeF D 3 true c A.1 B.1 = p1 at *
    generalize madeF D 3 true c A.1 B.2 = p2 at *
    generalize madeF D 3 true c A.2 B.1 = p3 at *
    generalize madeF D 3 true c A.2 B.2 = p4 at *
    generalize madeF D 2 true c A.1 B.1 = q1 at *
    generalize madeF D 2 true c A.1 B.2 = q2 at *
    generalize madeF D 2 true c A.2 B.1 = q3 at *
    generalize madeF D 2 true c A.2 B.2 = q4 at *
    have l1 := (mnL_le p1 p2).1
    have l2 := (mnL_le (mnL p1 p2) p3).1
    have l3 := (mnL_le (mnL (mnL p1 p2) p3) p4).1
    have r1 := (mxL_le q1 q2).1
    have r2 := (mxL_le (mxL q1 q2) q3).1
    have r3 := (mxL_le (mxL (mxL q1 q2) q3) q4).1
    simp only
    omega
theorem spO_ok {c : Int32} {A B : spT} (hD1 : 1 ≤ D) (hD4 : D ≤ 4) (hA : spOk A) (hB : spOk B) : spOk (spO D c A B) := by
  unfold spO
  split
  · exact Or.inl rfl
  · exact sp4_ok hD1 hD4 hA hB
/-- so many more a letter may be -/
def snB (g : Nat → Int32) : Prop := ∀ j : Nat, j < 5 → 0 ≤ (g j).toInt ∧ (g j).toInt ≤ 5
def lwX (g : Nat → Int32) (c : Int32) : Int := if isLetB c then (numF c 5 g).toInt else 0
theorem lwX_bd {g : Nat → Int32} {c : Int32} (hg : snB g) : 0 ≤ lwX g c ∧ lwX g c ≤ 5 := by
  unfold lwX
  split
  · next h =>
    obtain ⟨j, hj, e1, e2, e3⟩ := let_at h
    rw [numF_let h, e3]
    exact hg j hj
  · exact ⟨by decide, by decide⟩
def lfS (D : Nat) (f g : Nat → Int32) (c : Int32) : spT := (Int64.ofInt (rdF D (lfX f c * 10 ^ 9)), Int64.ofInt (ruF D ((lfX f c + lwX g c) * 10 ^ 9)))
theorem lf_sc {W : Nat} {x : Int} (hx : x.natAbs < 10 ^ 8) : rndF D W true (decide (x * 10 ^ 9 < 0)) (x * 10 ^ 9).natAbs 1 0 = rndF D W true (decide (x < 0)) x.natAbs 1 9 := by
  have e1 : decide (x * 10 ^ 9 < 0) = decide (x < 0) := by congr 1; apply propext; omega
  have e2 : (x * 10 ^ 9).natAbs = x.natAbs * 10 ^ 9 := by omega
  rw [e1, e2, rndF_sc hx]
theorem lfS_fin {W : Nat} {x : Int} (hD1 : 1 ≤ D) (hD4 : D ≤ 4) (hx : x.natAbs ≤ 110) : dcmI (rndF D W true (decide (x < 0)) x.natAbs 1 9) := by
  have h2 : upK 40 x.natAbs 1 ≤ 2 := (show ∀ n, n < 111 → upK 40 n 1 ≤ 2 by decide +kernel) x.natAbs (by omega)
  exact rndF_fin hD1 hD4 (by decide) (by omega) (by omega)
theorem lfS_ok {f g : Nat → Int32} {c : Int32} (hD1 : 1 ≤ D) (hD4 : D ≤ 4) (hf : nmB f) (hg : snB g) : spOk (lfS D f g c) ∧ (lfS D f g c).1 ≠ gG ∧ (lfS D f g c).2 ≠ gG := by
  have b1 := lfX_bd (c := c) hf
  have b2 := lwX_bd (c := c) hg
  have e1 : rdF D (lfX f c * 10 ^ 9) = rndF D 3 true (decide (lfX f c < 0)) (lfX f c).natAbs 1 9 := lf_sc (by omega)
  have e2 : ruF D ((lfX f c + lwX g c) * 10 ^ 9) = rndF D 2 true (decide (lfX f c + lwX g c < 0)) (lfX f c + lwX g c).natAbs 1 9 := lf_sc (by omega)
  have e3 : ruF D (lfX f c * 10 ^ 9) = rndF D 2 true (decide (lfX f c < 0)) (lfX f c).natAbs 1 9 := lf_sc (by omega)
  have f1 := lfS_fin (D := D) (W := 3) (x := lfX f c) hD1 hD4 (by omega)
  have f2 := lfS_fin (D := D) (W := 2) (x := lfX f c + lwX g c) hD1 hD4 (by omega)
  have f3 := lfS_fin (D := D) (W := 2) (x := lfX f c) hD1 hD4 (by omega)
  rw [← e1] at f1
  rw [← e2] at f2
  rw [← e3] at f3
  have ng : ∀ {x : Int}, dcmI x → x ≠ 1000000000000000000 := fun {x} h e => by have := h.1; rw [e] at this; revert this; decide
  have d1 := dcmI_of f1
  have d2 := dcmI_of f2
  refine ⟨Or.inr ⟨d1, d2, ?_⟩, dcm_ng d1, dcm_ng d2⟩
  show (Int64.ofInt (rdF D (lfX f c * 10 ^ 9))).toInt ≤ (Int64.ofInt (ruF D ((lfX f c + lwX g c) * 10 ^ 9))).toInt
  rw [(oG (Or.inr f1)).2, (oG (Or.inr f2)).2]
  have s1 := rd_ru hD1 hD4 (s := lfX f c * 10 ^ 9) (by omega) (ng f1) (ng f3)
  have s2 := ru_mono hD1 hD4 (s := lfX f c * 10 ^ 9) (s' := (lfX f c + lwX g c) * 10 ^ 9) (by omega) (by omega) (by omega) (ng f3) (ng f2)
  omega
/-- the BOUNDS of each part -/
def spF (D : Nat) (f g t : Nat → Int32) (n i : Nat) : spT := ev (lfS D f g) (spO D) t n i
theorem spF_ok {f g t : Nat → Int32} {n : Nat} (hD1 : 1 ≤ D) (hD4 : D ≤ 4) (hf : nmB f) (hg : snB g) (hv : TxV t n) : ∀ i, i < n → spOk (spF D f g t n i) := by
  obtain ⟨⟨o, hv⟩, _⟩ := hv
  exact ev_all hv (fun i _ _ => (lfS_ok hD1 hD4 hf hg).1) (fun i a b _ _ ha hb => spO_ok hD1 hD4 ha hb)
end SPAN

/-! ===== rounding: the meaning, and the class's Rounding ===== -/
def sgF (below : Bool) (n : Nat) : Int := if below then -(n : Int) else n
/-- whether the next decimal farther from 0 is taken -/
def goF (W : Nat) (below : Bool) (kept rest L : Nat) : Bool :=
  if W = 2 then decide (0 < rest) && !below else if W = 3 then decide (0 < rest) && below
  else if W = 0 then decide (L < 2 * rest) || (decide (2 * rest = L) && decide (kept % 2 = 1)) else false
def plE (D W : Nat) (tiny below : Bool) (shown : Nat) (zz : Int) : Int :=
  if 16 ≤ zz + D - 1 then 1000000000000000000 else sgF below (if 3 ≤ zz + D - 1 then shown * 10 ^ zz.toNat else if tiny && decide (W = if below then 3 else 2) then 1000 else 0)
def plF (D W : Nat) (tiny below : Bool) (kept : Nat) (z : Int) : Int := if 10 ^ D ≤ kept then plE D W tiny below (kept / 10) (z + 1) else plE D W tiny below kept z
theorem lO_sg (b : Bool) (n : Nat) : Int64.ofInt (sgF b n) = if b then -(lN n) else lN n := by
  cases b
  · simp only [sgF]; exact lN_ofInt n
  · simp only [sgF]; rw [← lN_ofInt, ← Int64.ofInt_neg]; rfl
theorem i_lit1 : (1 : Int32) = Int32.ofInt 1 := rfl
section ROUND
variable {d : Nat} {S : fW} {h : fH} {r : Nat} {D W : Nat} {tiny below : Bool}
theorem w_is (hW : h.1 r 1 = nI W) (hW3 : W ≤ 3) {k : Nat} (hk : k ≤ 3) : h.1 r 1 = nI k ↔ W = k := by
  rw [hW]; exact nI_eq (by omega) (by omega)
theorem s_goesOn {kept rest L : Nat} (hr : (r, shX4) ∈ S) (hW : h.1 r 1 = nI W) (hW3 : W ≤ 3) (hk : kept < 2 ^ 62) (hrl : rest < L) (hL : L < 2 ^ 62) : OkI d mX4_goesOn S [.ref r, .long (lN kept), .long (lN rest), .long (lN L), .int (bI below)] h (fun v k => v = bI (goF W below kept rest L) ∧ k = h) := by
  have w0 : (h.1 r 1 = (0 : Int32)) ↔ W = 0 := w_is (k := 0) hW hW3 (by decide)
  have w2 : (h.1 r 1 = (2 : Int32)) ↔ W = 2 := w_is (k := 2) hW hW3 (by decide)
  have w3 : (h.1 r 1 = (3 : Int32)) ↔ W = 3 := w_is (k := 3) hW hW3 (by decide)
  have r0 : (lN rest ≤ (0 : Int64)) ↔ rest = 0 := by
    rw [show (0 : Int64) = lN 0 from rfl, pk_lLE (by omega) (by decide)]; omega
  have e1 : (lN L - lN rest < lN rest) ↔ L < 2 * rest := by
    rw [lN_sub (by omega), pk_lLT (by omega) (by omega)]; omega
  have e2 : (lN rest = lN L - lN rest) ↔ 2 * rest = L := by
    rw [lN_sub (by omega), pk_lEQ (by omega) (by omega)]; omega
  have e3 : (lN kept - lN kept / (2 : Int64) * (2 : Int64) = (1 : Int64)) ↔ kept % 2 = 1 := by
    rw [show (2 : Int64) = lN 2 from rfl, show (1 : Int64) = lN 1 from rfl, lN_mod (by omega) (by decide) (by decide), pk_lEQ (by omega) (by decide)]
  have eb : (bI below = 0) ↔ below = false := bI_0
  refine TX4_goesOn_0 hr ?_ ?_ ?_ ?_ ?_ ?_ ?_ ?_ ?_ ?_ ?_ <;> simp only [w0, w2, w3, r0, e1, e2, e3, eb] <;> intros <;> refine ⟨?_, trivial⟩ <;> simp_all [goF, bI] <;> omega
theorem g_placed_125 {Q : Int64 → fH → Prop} (hr : (r, shX4) ∈ S) (hW : h.1 r 1 = nI W) (hW3 : W ≤ 3) (hT : h.1 r 2 = bI tiny) (hQ : Q (Int64.ofInt (sgF below (if tiny && decide (W = if below then 3 else 2) then 1000 else 0))) h) : G mX4_placed d S (f_PL Q) 125 [(0, .ref r), (4, .int (bI below)), (10, .long (0 : Int64))] [] h := by
  have w2 : (h.1 r 1 = (2 : Int32)) ↔ W = 2 := w_is (k := 2) hW hW3 (by decide)
  have w3 : (h.1 r 1 = (3 : Int32)) ↔ W = 3 := w_is (k := 3) hW hW3 (by decide)
  have eb : (bI below = 0) ↔ below = false := bI_0
  have et : (h.1 r 2 = 0) ↔ tiny = false := by rw [hT]; exact bI_0
  have key : ∀ v : Int64, v = Int64.ofInt (sgF below (if tiny && decide (W = if below then 3 else 2) then 1000 else 0)) → Q v h := fun v e => e ▸ hQ
  refine TX4_placed_125 hr ?_ ?_ ?_ ?_ ?_ ?_ <;> simp only [w2, w3, eb, et] <;> intros <;> apply key <;> rw [lO_sg] <;> simp_all <;> decide
theorem g_placed_64 {Q : Int64 → fH → Prop} {shown : Nat} {zz : Int} (hr : (r, shX4) ∈ S) (hD : h.1 r 0 = nI D) (hD1 : 1 ≤ D) (hD4 : D ≤ 4) (hW : h.1 r 1 = nI W) (hW3 : W ≤ 3) (hT : h.1 r 2 = bI tiny) (z1 : -5000 ≤ zz) (z2 : zz ≤ 5000) (hQ : Q (Int64.ofInt (plE D W tiny below shown zz)) h) : G mX4_placed d S (f_PL Q) 64 [(0, .ref r), (4, .int (bI below)), (6, .long (lN shown))] [.int (Int32.ofInt zz)] h := by
  have e : (Int32.ofInt zz + h.1 r 0) - (1 : Int32) = Int32.ofInt (zz + D - 1) := by
    rw [hD, ← nI_ofInt, i_lit1, ← Int32.ofInt_add, ← Int32.ofInt_sub]
  have c16 : (Int32.ofInt (zz + D - 1) < (16 : Int32)) ↔ zz + D - 1 < 16 := by
    rw [show (16 : Int32) = Int32.ofInt 16 from rfl]; exact iO_lt (by omega) (by omega) (by decide) (by decide)
  have c3 : (Int32.ofInt (zz + D - 1) < (3 : Int32)) ↔ zz + D - 1 < 3 := by
    rw [show (3 : Int32) = Int32.ofInt 3 from rfl]; exact iO_lt (by omega) (by omega) (by decide) (by decide)
  have c0 : (Int32.ofInt zz < 0) ↔ zz < 0 := by
    rw [show (0 : Int32) = Int32.ofInt 0 from rfl]; exact iO_lt (by omega) (by omega) (by decide) (by decide)
  have c19 : ((19 : Int32) ≤ Int32.ofInt zz) ↔ 19 ≤ zz := by
    rw [show (19 : Int32) = Int32.ofInt 19 from rfl]; exact iO_le (by decide) (by decide) (by omega) (by omega)
  have cl : (Int32.ofInt zz).toNatClampNeg = zz.toNat := by
    show (Int32.ofInt zz).toInt.toNat = zz.toNat
    rw [iO_toInt (by omega) (by omega)]
  have eb : (bI below = 0) ↔ below = false := bI_0
  have ft : lN shown * f_ten zz.toNat = lN (shown * 10 ^ zz.toNat) := lN_mul shown (10 ^ zz.toNat)
  refine TX4_placed_64 hr ?_ ?_ ?_ ?_ ?_ ?_ ?_ <;> simp only [e, c16, c3, c0, c19, cl, eb, ft]
  · intro a b
    refine g_placed_125 hr hW hW3 hT ?_
    rw [plE, if_neg (by omega), if_neg (by omega)] at hQ
    exact hQ
  · intro a b c; omega
  · intro a b c x; omega
  · intro a b c x
    rw [vp_in_iff, iO_toInt (by omega) (by omega)]
    omega
  · intro a b c x y
    rw [plE, if_neg (by omega), if_pos (by omega), y, lO_sg] at hQ
    exact hQ
  · intro a b c x y
    rw [plE, if_neg (by omega), if_pos (by omega), lO_sg] at hQ
    cases hb : below
    · exact absurd hb y
    · rw [hb] at hQ; exact hQ
  · intro a
    rw [plE, if_pos (by omega)] at hQ
    exact hQ
theorem s_placed {kept : Nat} {z : Int} (hr : (r, shX4) ∈ S) (hD : h.1 r 0 = nI D) (hD1 : 1 ≤ D) (hD4 : D ≤ 4) (hW : h.1 r 1 = nI W) (hW3 : W ≤ 3) (hT : h.1 r 2 = bI tiny) (hk : kept < 2 ^ 62) (z1 : -4000 ≤ z) (z2 : z ≤ 4000) : OkL d mX4_placed S [.ref r, .long (lN kept), .int (Int32.ofInt z), .int (bI below)] h (fun v k => v = Int64.ofInt (plF D W tiny below kept z) ∧ k = h) := by
  have hcl : (h.1 r 0).toNatClampNeg = D := by rw [hD]; exact nI_clamp (by omega)
  have c1 : (h.1 r 0 < (1 : Int32)) ↔ D < 1 := by rw [hD]; exact nI_ltI (b := 1) (by omega) (by decide)
  have c4 : ((4 : Int32) < h.1 r 0) ↔ 4 < D := by rw [hD]; exact nI_ltI (a := 4) (by decide) (by omega)
  have ht : (10 : Nat) ^ D ≤ 10 ^ 4 := Nat.pow_le_pow_right (by decide) hD4
  have ck : (lN kept < f_ten (h.1 r 0).toNatClampNeg) ↔ kept < 10 ^ D := by
    rw [hcl]; exact pk_lLT (by omega) (by omega)
  have key : ∀ b : Bool, b = decide (10 ^ D ≤ kept) → G mX4_placed d S (f_PL (fun v k => v = Int64.ofInt (plF D W tiny below kept z) ∧ k = h)) 34 [(0, .ref r), (1, .long (lN kept)), (3, .int (Int32.ofInt z)), (4, .int (bI below))] [.int (bI b)] h := by
    intro b hb
    refine TX4_placed_34 ?_ ?_ <;> intro a
    · rw [bI_0] at a
      have hn : ¬ 10 ^ D ≤ kept := by rw [a] at hb; simpa using hb.symm
      refine g_placed_64 hr hD hD1 hD4 hW hW3 hT (by omega) (by omega) ⟨?_, rfl⟩
      rw [plF, if_neg hn]
    · rw [bI_n0] at a
      have hn : 10 ^ D ≤ kept := by rw [a] at hb; simpa using hb.symm
      rw [show (10 : Int64) = lN 10 from rfl, lN_div (by omega) (by decide) (by decide), i_lit1, ← Int32.ofInt_add]
      refine g_placed_64 hr hD hD1 hD4 hW hW3 hT (by omega) (by omega) ⟨?_, rfl⟩
      rw [plF, if_pos hn]
  refine TX4_placed_0 hr ?_ ?_ ?_ ?_ ?_ <;> simp only [c1, c4, ck]
  · intro a; omega
  · intro a b; omega
  · intro a b; rw [hD]; exact vp_in_nI (by omega) (by decide)
  · intro a b c; exact key false (by simp; omega)
  · intro a b c; exact key true (by simp; omega)
end ROUND

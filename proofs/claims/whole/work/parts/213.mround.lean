/-! ===== the reference's rounding: the same meaning ===== -/
abbrev shM (i : Nat → Nat) : fS := shX12 (i 0) (i 1) (i 2) (i 3) (i 4) (i 5) (i 6) (i 7) (i 8) (i 9) (i 10) (i 11) (i 12) (i 13) (i 14) (i 15) (i 16) (i 17) (i 18) (i 19) (i 20)
section MROUND
variable {d : Nat} {S : fW} {h : fH} {r : Nat} {i : Nat → Nat} {D W : Nat} {tiny below : Bool} {Q : Int64 → fH → Prop} {n d0 : Nat} {e : Int}
theorem s_power {k : Nat} (hk : k ≤ 18) : OkL d mX12_power S [.int (nI k)] h (fun v z => v = lN (10 ^ k) ∧ z = h) := by
  refine TX12_power_0 ?_
  have key : ∀ m j : Nat, m + j = k → G mX12_power d S (f_PL (fun v z => v = lN (10 ^ k) ∧ z = h)) 4 [(0, .int (nI k)), (1, .long (lN (10 ^ j))), (3, .int (nI j))] [] h := by
    intro m
    induction m with
    | zero =>
      intro j hj
      have e : j = k := by omega
      subst e
      exact TX12_power_4 (fun _ => ⟨rfl, rfl⟩) (fun a => absurd (Int32.le_refl _) a)
    | succ m ih =>
      intro j hj
      refine TX12_power_4 (fun a => ?_) (fun _ => ?_)
      · have := (nI_leI (by omega) (by omega)).mp a
        omega
      · rw [lN_10, lN_mul, nI1, ← Nat.pow_succ]
        exact ih (j + 1) (by omega)
  have := key k 0 (by omega)
  rw [show lN (10 ^ 0) = (1 : Int64) from rfl, nI_0] at this
  exact this
theorem g_mr_311 (hW3 : W ≤ 3) (hQ : Q (Int64.ofInt (sgF below (if decide (W = 3) && below then 1000 else 0))) h) : G mX12_rounded (d + 1) S (f_PL Q) 311 [(1, .int (bI below)), (7, .int (nI W))] [] h := by
  have w3 : (nI W = (3 : Int32)) ↔ W = 3 := nI_eq (b := 3) (by omega) (by decide)
  have eb : (bI below = 0) ↔ below = false := bI_0
  have key : ∀ v : Int64, v = Int64.ofInt (sgF below (if decide (W = 3) && below then 1000 else 0)) → Q v h := fun v e => e ▸ hQ
  refine TX12_rounded_311 ?_ ?_ ?_ ?_ <;> simp only [w3, eb] <;> intros <;> apply key <;> rw [lO_sg] <;> simp_all <;> decide
theorem g_mr_259 {made : Nat} {E : Int} (hm : (r, shM i) ∈ S) (hD : h.1 r 0 = nI D) (hD1 : 1 ≤ D) (hD4 : D ≤ 4) (hW3 : W ≤ 3) (e1 : -2000 ≤ E) (e2 : E ≤ 2000) (hQ : Q (Int64.ofInt (plE D W tiny below made (E - D + 10))) h) : G mX12_rounded (d + 1) S (f_PL Q) 259 [(0, .ref r), (1, .int (bI below)), (7, .int (nI W)), (8, .int (bI tiny)), (13, .int (Int32.ofInt E)), (14, .long (lN made))] [] h := by
  have w2 : (nI W = (2 : Int32)) ↔ W = 2 := nI_eq (b := 2) (by omega) (by decide)
  have eb : (bI below = 0) ↔ below = false := bI_0
  have et : (bI tiny = 0) ↔ tiny = false := bI_0
  have c6 : (Int32.ofInt E ≤ (6 : Int32)) ↔ E ≤ 6 := by
    rw [show (6 : Int32) = Int32.ofInt 6 from rfl]; exact iO_le (by omega) (by omega) (by decide) (by decide)
  have cm6 : (Int32.ofInt E < (-6 : Int32)) ↔ E < -6 := by
    rw [show (-6 : Int32) = Int32.ofInt (-6) from rfl]; exact iO_lt (by omega) (by omega) (by decide) (by decide)
  have key : ∀ v : Int64, v = Int64.ofInt (plE D W tiny below made (E - D + 10)) → Q v h := fun v e => e ▸ hQ
  have kt : E ≤ 6 → E < -6 → plE D W tiny below made (E - D + 10) = sgF below (if tiny && decide (W = if below then 3 else 2) then 1000 else 0) := by
    intro a b
    rw [plE, if_neg (by omega), if_neg (by omega)]
  have kw : E ≤ 6 → ¬ E < -6 → plE D W tiny below made (E - D + 10) = sgF below (made * 10 ^ (E - D + 10).toNat) := by
    intro a b
    rw [plE, if_neg (by omega), if_pos (by omega)]
  refine TX12_rounded_259 (Q1 := fun v z => v = lN (10 ^ (E - D + 10).toNat) ∧ z = h) ?_ ?_ ?_ ?_ ?_ hm ?_ ?_ ?_ ?_ <;> simp only [c6, cm6, eb, et, w2]
  · intro a b c x
    apply key
    rw [kt a b, lO_sg, c, x]; rfl
  · intro a b c x
    apply key
    rw [kt a b, lO_sg, c]
    cases hb : below
    · exact absurd hb x
    · rfl
  · intro a b c x
    refine g_mr_311 hW3 (key _ ?_)
    rw [kt a b]
    have ht : tiny = true := by cases htt : tiny; exact absurd htt c; rfl
    subst ht
    cases below <;> simp [x]
  · intro a b c x y
    apply key
    have ht : tiny = true := by cases htt : tiny; exact absurd htt c; rfl
    rw [kt a b, lO_sg, ht, x, y]; rfl
  · intro a b c x y
    refine g_mr_311 hW3 (key _ ?_)
    rw [kt a b]
    have hbb : below = true := by cases hb : below; exact absurd hb y; rfl
    subst hbb
    simp [x]
  · intro a b
    rw [hD, ← nI_ofInt, show (10 : Int32) = Int32.ofInt 10 from rfl, ← Int32.ofInt_sub, ← Int32.ofInt_add]
    have : Int32.ofInt (E - D + 10) = nI (E - D + 10).toNat := by rw [← nI_ofInt]; congr 1; omega
    rw [this]
    exact s_power (by omega)
  · rintro a b v z ⟨rfl, rfl⟩ x
    apply key
    rw [kw a b, lO_sg, x, lN_mul]; rfl
  · rintro a b v z ⟨rfl, rfl⟩ x
    apply key
    rw [kw a b, lO_sg, lN_mul]
    cases hb : below
    · exact absurd hb x
    · rfl
  · intro a
    apply key
    rw [plE, if_pos (by omega)]
    rfl
theorem g_mr_218 {made : Nat} {E : Int} {b : Bool} (hm : (r, shM i) ∈ S) (hD : h.1 r 0 = nI D) (hD1 : 1 ≤ D) (hD4 : D ≤ 4) (hW3 : W ≤ 3) (e1 : -1900 ≤ E) (e2 : E ≤ 1900) (hmd : made < 10 ^ D) (hQ : Q (Int64.ofInt (plF D W tiny below (made + (if b then 1 else 0)) (E - D + 10))) h) : G mX12_rounded (d + 1) S (f_PL Q) 218 [(0, .ref r), (1, .int (bI below)), (7, .int (nI W)), (8, .int (bI tiny)), (13, .int (Int32.ofInt E)), (14, .long (lN made))] [.int (bI b)] h := by
  have ht : (10 : Nat) ^ D ≤ 10 ^ 4 := Nat.pow_le_pow_right (by decide) hD4
  have ep : OkL d mX12_power S [.int (h.1 r 0)] h (fun v z => v = lN (10 ^ D) ∧ z = h) := by rw [hD]; exact s_power (by omega)
  have a0 : lN made + (0 : Int64) = lN made := lN_add made 0
  have a1 : lN made + (1 : Int64) = lN (made + 1) := lN_add made 1
  refine TX12_rounded_218 (Q1 := fun v z => v = lN (10 ^ D) ∧ z = h) (Q2 := fun v z => v = lN (10 ^ D) ∧ z = h) hm (fun _ => ep) ?_ ?_ (fun _ => ep) ?_ ?_ <;> simp only [a0, a1]
  · rintro a v z ⟨rfl, rfl⟩ c
    rw [bI_0.mp a] at hQ
    refine g_mr_259 hm hD hD1 hD4 hW3 (by omega) (by omega) ?_
    rw [plF, if_neg (by simp; omega)] at hQ
    exact hQ
  · rintro a v z ⟨rfl, rfl⟩ c
    rw [pk_lEQ (by omega) (by omega)] at c
    omega
  · rintro a v z ⟨rfl, rfl⟩ c
    rw [pk_lEQ (by omega) (by omega)] at c
    rw [bI_n0.mp a] at hQ
    refine g_mr_259 hm hD hD1 hD4 hW3 (by omega) (by omega) ?_
    rw [plF, if_neg (by simp; omega)] at hQ
    exact hQ
  · rintro a v z ⟨rfl, rfl⟩ c
    rw [pk_lEQ (by omega) (by omega)] at c
    rw [bI_n0.mp a] at hQ
    rw [lN_10, lN_div (by omega) (by decide) (by decide), iO1]
    refine g_mr_259 hm hD hD1 hD4 hW3 (by omega) (by omega) ?_
    rw [plF, if_pos (by simp; omega), show E - (D : Int) + 10 + 1 = E + 1 - D + 10 by omega] at hQ
    exact hQ
theorem g_mr_77e {M L : Nat} {E : Int} {x9 : Int64} (hm : (r, shM i) ∈ S) (hD : h.1 r 0 = nI D) (hD1 : 1 ≤ D) (hD4 : D ≤ 4) (hW3 : W ≤ 3) (e1 : -1900 ≤ E) (e2 : E ≤ 1900) (hL1 : 1 ≤ L) (hL : L ≤ 10 ^ 17) (hmd : M / L < 10 ^ D)
    (hQ : Q (Int64.ofInt (plF D W tiny below (M / L + (if goF W below (M / L) (M % L) L then 1 else 0)) (E - D + 10))) h) : G mX12_rounded (d + 1) S (f_PL Q) 77 [(0, .ref r), (1, .int (bI below)), (7, .int (nI W)), (8, .int (bI tiny)), (9, .long x9), (11, .long (lN L)), (13, .int (Int32.ofInt E)), (14, .long (lN (M / L))), (16, .long (lN (M % L))), (18, .int (nI D))] [] h := by
  have ht : (10 : Nat) ^ D ≤ 10 ^ 4 := Nat.pow_le_pow_right (by decide) hD4
  have hml : M % L < L := Nat.mod_lt _ hL1
  have w0 : (nI W = (0 : Int32)) ↔ W = 0 := nI_eq (b := 0) (by omega) (by decide)
  have w2 : (nI W = (2 : Int32)) ↔ W = 2 := nI_eq (b := 2) (by omega) (by decide)
  have w3 : (nI W = (3 : Int32)) ↔ W = 3 := nI_eq (b := 3) (by omega) (by decide)
  have eb : (bI below = 0) ↔ below = false := bI_0
  have hle : h.1 r 0 ≤ nI D := by rw [hD]; exact Int32.le_refl _
  have r0 : (lN (M % L) ≤ (0 : Int64)) ↔ M % L = 0 := by
    rw [show (0 : Int64) = lN 0 from rfl, pk_lLE (by omega) (by decide)]; omega
  have m2 : (2 : Int64) * lN (M % L) = lN (2 * (M % L)) := lN_mul 2 (M % L)
  have c1 : (lN L < lN (2 * (M % L))) ↔ L < 2 * (M % L) := pk_lLT (by omega) (by omega)
  have c2 : (lN (2 * (M % L)) = lN L) ↔ 2 * (M % L) = L := pk_lEQ (by omega) (by omega)
  have c3 : (lN (M / L) - lN (M / L) / (2 : Int64) * (2 : Int64) = (1 : Int64)) ↔ M / L % 2 = 1 := by
    rw [show (2 : Int64) = lN 2 from rfl, show (1 : Int64) = lN 1 from rfl, lN_mod (by omega) (by decide) (by decide), pk_lEQ (by omega) (by decide)]
  have key : ∀ b : Bool, b = goF W below (M / L) (M % L) L → G mX12_rounded (d + 1) S (f_PL Q) 218 [(0, .ref r), (1, .int (bI below)), (7, .int (nI W)), (8, .int (bI tiny)), (13, .int (Int32.ofInt E)), (14, .long (lN (M / L)))] [.int (bI b)] h := by
    intro b hb
    subst hb
    exact g_mr_218 hm hD hD1 hD4 hW3 e1 e2 hmd hQ
  have kt : goF W below (M / L) (M % L) L = true → G mX12_rounded (d + 1) S (f_PL Q) 218 [(0, .ref r), (1, .int (bI below)), (7, .int (nI W)), (8, .int (bI tiny)), (13, .int (Int32.ofInt E)), (14, .long (lN (M / L)))] [.int (1 : Int32)] h := fun z => key true z.symm
  have kf : goF W below (M / L) (M % L) L = false → G mX12_rounded (d + 1) S (f_PL Q) 218 [(0, .ref r), (1, .int (bI below)), (7, .int (nI W)), (8, .int (bI tiny)), (13, .int (Int32.ofInt E)), (14, .long (lN (M / L)))] [.int (0 : Int32)] h := fun z => key false z.symm
  refine TX12_rounded_77 hm ?_ ?_ ?_ ?_ ?_ ?_ ?_ ?_ ?_ ?_ ?_ (fun a => absurd hle a) (fun a => absurd hle a) (fun a => absurd hle a) (fun a => absurd hle a) <;> simp only [m2, w0, w2, w3, eb, r0, c1, c2, c3] <;> intros <;> first | (apply kt; simp_all [goF]; done) | (apply kf; simp_all [goF]; done) | (apply kt; simp_all [goF]; omega) | (apply kf; simp_all [goF]; omega) | (exfalso; omega)
theorem g_mr_77 {N L : Nat} {E : Int} {x9 : Int64} (hm : (r, shM i) ∈ S) (hD : h.1 r 0 = nI D) (hD1 : 1 ≤ D) (hD4 : D ≤ 4) (hW3 : W ≤ 3) (e1 : -1900 ≤ E) (e2 : E ≤ 1900) (hL1 : 1 ≤ L) (hL : L ≤ 10 ^ 17) (hN : N < 10 * L)
    (hQ : Q (Int64.ofInt (plF D W tiny below (N * 10 ^ (D - 1) / L + (if goF W below (N * 10 ^ (D - 1) / L) (N * 10 ^ (D - 1) % L) L then 1 else 0)) (E - D + 10))) h) :
    ∀ m k : Nat, m + k = D → 1 ≤ k → G mX12_rounded (d + 1) S (f_PL Q) 77 [(0, .ref r), (1, .int (bI below)), (7, .int (nI W)), (8, .int (bI tiny)), (9, .long x9), (11, .long (lN L)), (13, .int (Int32.ofInt E)), (14, .long (lN (N * 10 ^ (k - 1) / L))), (16, .long (lN (N * 10 ^ (k - 1) % L))), (18, .int (nI k))] [] h := by
  intro m
  induction m with
  | zero =>
    intro k hk h1
    have e : k = D := by omega
    subst e
    refine g_mr_77e hm hD hD1 hD4 hW3 e1 e2 hL1 hL ?_ hQ
    apply Nat.div_lt_of_lt_mul
    have hp : 0 < 10 ^ (k - 1) := Nat.pow_pos (by decide)
    have e10 : L * 10 ^ k = 10 * L * 10 ^ (k - 1) := by
      have : (10 : Nat) ^ k = 10 ^ (k - 1) * 10 := by rw [← Nat.pow_succ]; congr 1; omega
      rw [this]
      simp [Nat.mul_comm, Nat.mul_left_comm, Nat.mul_assoc]
    rw [e10]
    exact Nat.mul_lt_mul_of_pos_right hN hp
  | succ m ih =>
    intro k hk h1
    have hno : ¬ h.1 r 0 ≤ nI k := by rw [hD]; exact nI_ge (by omega) (by omega)
    have hk0 : ¬ nI k = 0 := nI_ne0 (by omega) (by omega)
    have hml : N * 10 ^ (k - 1) % L < L := Nat.mod_lt _ hL1
    have hp : (10 : Nat) ^ (k - 1) ≤ 10 ^ 3 := Nat.pow_le_pow_right (by decide) (by omega)
    have hM : N * 10 ^ (k - 1) ≤ 10 * L * 10 ^ 3 := Nat.mul_le_mul (by omega) hp
    obtain ⟨m1, m2⟩ := mul10_div (N * 10 ^ (k - 1)) L hL1
    refine TX12_rounded_77 hm (fun a => absurd a hno) (fun a => absurd a hno) (fun a => absurd a hno) (fun a => absurd a hno) (fun a => absurd a hno) (fun a => absurd a hno) (fun a => absurd a hno) (fun a => absurd a hno) (fun a => absurd a hno) (fun a => absurd a hno) (fun a => absurd a hno) (fun _ _ => lN_ne0 hL1 (by omega)) (fun _ _ => ?_) (fun _ b => absurd b hk0) (fun _ b => absurd b hk0)
    rw [lN_10, lN_mul, lN_mul, Nat.mul_comm 10 (N * 10 ^ (k - 1) % L), Nat.mul_comm 10 (N * 10 ^ (k - 1) / L), lN_mod (by omega) hL1 (by omega), lN_div (by omega) hL1 (by omega), lN_add, m1, m2, p10, nI1]
    have := ih (k + 1) (by omega) (by omega)
    rw [show k + 1 - 1 = k - 1 + 1 by omega] at this
    exact this
theorem g_mr_45 {L : Nat} {u : Int} (hn : n < 10 ^ 17) (hn1 : 1 ≤ n) (hL1 : 1 ≤ L) (hL : L ≤ 10 ^ 17) (K4 : ∀ i : Nat, i ≤ 18 → (∀ k : Nat, k < i → n * 10 ^ k < L) → L ≤ n * 10 ^ i → n * 10 ^ i < 10 ^ 18 → G mX12_rounded (d + 1) S (f_PL Q) 77 [(0, .ref r), (1, .int (bI below)), (7, .int (nI W)), (8, .int (bI tiny)), (9, .long (lN (n * 10 ^ i))), (11, .long (lN L)), (13, .int (Int32.ofInt (u - i))), (14, .long (0 : Int64)), (16, .long (lN (n * 10 ^ i))), (18, .int (0 : Int32))] [] h) :
    ∀ m i : Nat, m + i = 18 → (∀ k : Nat, k < i → n * 10 ^ k < L) → n * 10 ^ i < 10 ^ 18 → G mX12_rounded (d + 1) S (f_PL Q) 45 [(0, .ref r), (1, .int (bI below)), (7, .int (nI W)), (8, .int (bI tiny)), (9, .long (lN (n * 10 ^ i))), (11, .long (lN L)), (13, .int (Int32.ofInt (u - i)))] [] h := by
  intro m
  induction m with
  | zero =>
    intro i hi hlt hb
    have h17 := hlt 17 (by omega)
    omega
  | succ m ih =>
    intro i hi hlt hb
    refine TX12_rounded_45 (fun b => ?_) (fun b => ?_)
    · rw [pk_lLE (by omega) (by omega)] at b
      exact K4 i (by omega) hlt b hb
    · rw [pk_lLE (by omega) (by omega)] at b
      rw [lN_10, lN_mul, p10, iOm1, show u - (i : Int) - 1 = u - ((i + 1 : Nat) : Int) by omega]
      refine ih (i + 1) (by omega) (fun k hk => ?_) ?_
      · rcases (show k < i ∨ k = i by omega) with h1 | rfl
        · exact hlt k h1
        · omega
      · rw [← p10]; omega
theorem g_mr_19 (hn : n < 10 ^ 17) (hd : 1 ≤ d0) (hd2 : d0 ≤ 10 ^ 16) (K3 : ∀ j : Nat, j ≤ 18 → (j = 0 ∨ d0 * 10 ^ j ≤ n) → n < d0 * 10 ^ (j + 1) → G mX12_rounded (d + 1) S (f_PL Q) 45 [(0, .ref r), (1, .int (bI below)), (7, .int (nI W)), (8, .int (bI tiny)), (9, .long (lN n)), (11, .long (lN (d0 * 10 ^ j))), (13, .int (Int32.ofInt (e + j)))] [] h) :
    ∀ m j : Nat, m + j = 18 → (j = 0 ∨ d0 * 10 ^ j ≤ n) → G mX12_rounded (d + 1) S (f_PL Q) 19 [(0, .ref r), (1, .int (bI below)), (7, .int (nI W)), (8, .int (bI tiny)), (9, .long (lN n)), (11, .long (lN (d0 * 10 ^ j))), (13, .int (Int32.ofInt (e + j)))] [] h := by
  intro m
  induction m with
  | zero =>
    intro j hj hl
    have e3 : j = 18 := by omega
    subst e3
    omega
  | succ m ih =>
    intro j hj hl
    have hlt : d0 * 10 ^ j ≤ 10 ^ 17 := by
      rcases hl with rfl | hl
      · simp; omega
      · omega
    refine TX12_rounded_19 (fun b => ?_) (fun b => ?_)
    · rw [lN_10, lN_mul, pk_lLT (by omega) (by omega)] at b
      refine K3 j (by omega) hl ?_
      rw [← p10]
      omega
    · rw [lN_10, lN_mul, pk_lLT (by omega) (by omega)] at b
      rw [lN_10, lN_mul, p10, iO1, show e + (j : Int) + 1 = e + ((j + 1 : Nat) : Int) by omega]
      refine ih (j + 1) (by omega) (Or.inr ?_)
      rw [← p10]
      omega
/-- the reference's rounded -/
theorem s_rounded (hm : (r, shM i) ∈ S) (hD : h.1 r 0 = nI D) (hD1 : 1 ≤ D) (hD4 : D ≤ 4) (hW3 : W ≤ 3) (hn : n < 10 ^ 17) (hd : 1 ≤ d0) (hd2 : d0 ≤ 10 ^ 16) (t1 : -1000 ≤ e) (t2 : e ≤ 1000) :
    OkL (d + 1) mX12_rounded S [.ref r, .int (bI below), .long (lN n), .long (lN d0), .int (Int32.ofInt e), .int (nI W), .int (bI tiny)] h (fun v k => v = Int64.ofInt (rndF D W tiny below n d0 (e + 9)) ∧ k = h) := by
  refine TX12_rounded_0 (fun a => ?_) (fun a => ?_)
  · have h1 : 1 ≤ n := by
      rcases Nat.eq_zero_or_pos n with z | z
      · subst z; exact absurd rfl a
      · exact z
    have start := g_mr_19 (d := d) (S := S) (h := h) (r := r) (below := below) (tiny := tiny) (W := W) (Q := fun v k => v = Int64.ofInt (rndF D W tiny below n d0 (e + 9)) ∧ k = h) (e := e) hn hd hd2 (fun j hj hl hb => ?_) 18 0 (by omega) (Or.inl rfl)
    · simpa using start
    · have hL1 : 1 ≤ d0 * 10 ^ j := Nat.le_trans hd (Nat.le_mul_of_pos_right _ (Nat.pow_pos (by decide)))
      have hL : d0 * 10 ^ j ≤ 10 ^ 17 := by
        rcases hl with rfl | hl
        · simp; omega
        · omega
      have hup : upK 40 n d0 = j := upK_is 40 n d0 j (by omega) hl hb
      have st2 := g_mr_45 (d := d) (S := S) (h := h) (r := r) (below := below) (tiny := tiny) (W := W) (Q := fun v k => v = Int64.ofInt (rndF D W tiny below n d0 (e + 9)) ∧ k = h) (L := d0 * 10 ^ j) (u := e + j) hn h1 hL1 hL (fun i' hi hlt hle hbb => ?_) 18 0 (by omega) (fun k hk => by omega) (by simp; omega)
      · simpa using st2
      · have hdn : dnK 40 n d0 = i' := by
          rcases hl with rfl | hLn
          · simp at hlt hle
            exact dnK_is 40 n d0 i' (by omega) hlt hle
          · have hi0 : i' = 0 := by
              cases i' with
              | zero => rfl
              | succ i' => have := hlt 0 (by omega); simp at this; omega
            subst hi0
            refine dnK_is 40 n d0 0 (by omega) (fun k hk => by omega) ?_
            simp
            exact Nat.le_trans (Nat.le_mul_of_pos_right d0 (Nat.pow_pos (by decide))) hLn
        have hN10 : n * 10 ^ i' < 10 * (d0 * 10 ^ j) := by
          cases i' with
          | zero => simp; rw [← p10] at hb; omega
          | succ i' => have := hlt i' (by omega); rw [← p10]; omega
        have hno : ¬ h.1 r 0 ≤ (0 : Int32) := by rw [hD]; exact nI_ge (a := 0) (by omega) (by omega)
        refine TX12_rounded_77 hm (fun a => absurd a hno) (fun a => absurd a hno) (fun a => absurd a hno) (fun a => absurd a hno) (fun a => absurd a hno) (fun a => absurd a hno) (fun a => absurd a hno) (fun a => absurd a hno) (fun a => absurd a hno) (fun a => absurd a hno) (fun a => absurd a hno) (fun _ b => absurd rfl b) (fun _ b => absurd rfl b) (fun _ _ => lN_ne0 hL1 (by omega)) (fun _ _ => ?_)
        have st3 := g_mr_77 (d := d) (S := S) (h := h) (r := r) (below := below) (tiny := tiny) (W := W) (Q := fun v k => v = Int64.ofInt (rndF D W tiny below n d0 (e + 9)) ∧ k = h) (N := n * 10 ^ i') (L := d0 * 10 ^ j) (E := e + j - i') (x9 := lN (n * 10 ^ i')) hm hD hD1 hD4 hW3 (by omega) (by omega) hL1 hL hN10 ⟨?_, rfl⟩ (D - 1) 1 (by omega) (by omega)
        · rw [lN_mod (by omega) hL1 (by omega), lN_div (by omega) hL1 (by omega), show (10 : Int64) * (0 : Int64) = lN 0 from rfl, lN_add, Nat.zero_add]
          simpa [nI_one] using st3
        · unfold rndF nrmN nrmD
          rw [if_neg (show ¬ n = 0 by omega), hup, hdn]
          congr 2
          omega
  · have h0 : n = 0 := (pk_lEQ (b := 0) (by omega) (by decide)).mp a
    refine ⟨?_, rfl⟩
    unfold rndF
    rw [if_pos h0]
    rfl
/-- the reference's roundOf: a number in billionths -/
theorem s_mroundOf {x : Int64} (hm : (r, shM i) ∈ S) (hD : h.1 r 0 = nI D) (hD1 : 1 ≤ D) (hD4 : D ≤ 4) (hW3 : W ≤ 3) (hn : x.toInt.natAbs < 10 ^ 17) :
    OkL (d + 2) mX12_roundOf S [.ref r, .long x, .int (nI W), .int (bI tiny)] h (fun v k => v = Int64.ofInt (rndF D W tiny (decide (x.toInt < 0)) x.toInt.natAbs 1 0) ∧ k = h) := by
  have ha : absL x = lN x.toInt.natAbs := absL_nat (by omega)
  refine TX12_roundOf_0 (Q1 := fun v k => v = absL x ∧ k = h) (Q2 := fun _ _ v k => v = Int64.ofInt (rndF D W tiny (decide (x.toInt < 0)) x.toInt.natAbs 1 0) ∧ k = h) (Q3 := fun v k => v = absL x ∧ k = h) (Q4 := fun _ _ v k => v = Int64.ofInt (rndF D W tiny (decide (x.toInt < 0)) x.toInt.natAbs 1 0) ∧ k = h) (hs1 := hm) (fun _ => s_size) ?_ ?_ (fun _ => s_size) ?_ ?_
  · rintro a v k ⟨rfl, rfl⟩
    rw [Int64.le_iff_toInt_le] at a
    simp at a
    rw [ha, show decide (x.toInt < 0) = false by simp; omega]
    exact s_rounded (below := false) (d0 := 1) (e := -9) hm hD hD1 hD4 hW3 hn (by decide) (by decide) (by decide) (by decide)
  · rintro a v k ⟨rfl, rfl⟩ v2 k2 z
    exact z
  · rintro a v k ⟨rfl, rfl⟩
    rw [Int64.le_iff_toInt_le] at a
    simp at a
    rw [ha, show decide (x.toInt < 0) = true by simp; omega]
    exact s_rounded (below := true) (d0 := 1) (e := -9) hm hD hD1 hD4 hW3 hn (by decide) (by decide) (by decide) (by decide)
  · rintro a v k ⟨rfl, rfl⟩ v2 k2 z
    exact z
end MROUND

def nrmN (n d : Nat) : Nat := n * 10 ^ dnK 40 n d
def nrmD (n d : Nat) : Nat := d * 10 ^ upK 40 n d
/-- n by d times 10 to the power of t, in billionths, rounded to D digits by the way W -/
def rndF (D W : Nat) (tiny below : Bool) (n d : Nat) (t : Int) : Int :=
  if n = 0 then 0 else
    plF D W tiny below (nrmN n d * 10 ^ (D - 1) / nrmD n d + (if goF W below (nrmN n d * 10 ^ (D - 1) / nrmD n d) (nrmN n d * 10 ^ (D - 1) % nrmD n d) (nrmD n d) then 1 else 0)) (t + upK 40 n d - dnK 40 n d - (D - 1 : Nat))
theorem p10 (n k : Nat) : n * 10 ^ k * 10 = n * 10 ^ (k + 1) := by rw [Nat.pow_succ, Nat.mul_assoc]
theorem p10_5 (n k : Nat) : n * 10 ^ k * 100000 = n * 10 ^ (k + 5) := by rw [Nat.pow_add, Nat.mul_assoc]
theorem p10_le {n a b : Nat} (h : a ≤ b) : n * 10 ^ a ≤ n * 10 ^ b := Nat.mul_le_mul_left n (Nat.pow_le_pow_right (by decide) h)
theorem nI_one : nI 1 = 1 := by decide +kernel
theorem nI1 (n : Nat) : nI n + 1 = nI (n + 1) := nI_1 n
theorem iO1 (z : Int) : Int32.ofInt z + 1 = Int32.ofInt (z + 1) := by rw [Int32.ofInt_add]; rfl
theorem iO5 (z : Int) : Int32.ofInt z + 5 = Int32.ofInt (z + 5) := by rw [Int32.ofInt_add]; rfl
theorem iOm1 (z : Int) : Int32.ofInt z + (-1) = Int32.ofInt (z - 1) := by
  rw [show z - 1 = z + (-1) by omega, Int32.ofInt_add]; rfl
section ROUNDOF
variable {d : Nat} {S : fW} {h : fH} {r : Nat} {D W : Nat} {tiny below : Bool} {Q : Int64 → fH → Prop} {n d0 : Nat} {t : Int}
theorem g_of_49 (hn : n < 10 ^ 17) (hd : 1 ≤ d0) (K2 : ∀ j : Nat, j ≤ 15 → (j = 0 ∨ d0 * 10 ^ j ≤ n) → G mX4_of (d + 1) S (f_PL Q) 86 [(0, .ref r), (2, .int (bI below)), (3, .long (lN n)), (5, .long (lN (d0 * 10 ^ j))), (7, .int (Int32.ofInt (t + j))), (8, .int (0 : Int32))] [] h) (hd2 : d0 ≤ 10 ^ 16) :
    ∀ m i j : Nat, m + i = 3 → j = 5 * i → (j = 0 ∨ d0 * 10 ^ j ≤ n) → G mX4_of (d + 1) S (f_PL Q) 49 [(0, .ref r), (2, .int (bI below)), (3, .long (lN n)), (5, .long (lN (d0 * 10 ^ j))), (7, .int (Int32.ofInt (t + j))), (8, .int (nI i))] [] h := by
  intro m
  induction m with
  | zero =>
    intro i j hi hj hl
    have e3 : i = 3 := by omega
    subst e3
    refine TX4_of_49 (fun _ => K2 j (by omega) hl) (fun a => absurd (show (3 : Int32) ≤ nI 3 by decide) a) (fun a => absurd (show (3 : Int32) ≤ nI 3 by decide) a)
  | succ m ih =>
    intro i j hi hj hl
    have hlt : d0 * 10 ^ j < 2 ^ 60 := by
      rcases hl with rfl | hl
      · simp; omega
      · omega
    refine TX4_of_49 (fun _ => K2 j (by omega) hl) (fun _ _ => K2 j (by omega) hl) (fun _ b => ?_)
    rw [show (100000 : Int64) = lN 100000 from rfl, lN_div (by omega) (by decide) (by decide), pk_lLT (by omega) (by omega)] at b
    rw [show (100000 : Int64) = lN 100000 from rfl, lN_mul, p10_5, nI1, iO5, show t + (j : Int) + 5 = t + ((j + 5 : Nat) : Int) by omega]
    refine ih (i + 1) (j + 5) (by omega) (by omega) (Or.inr ?_)
    rw [← p10_5]
    have := Nat.mul_le_of_le_div 100000 (d0 * 10 ^ j) n (by omega)
    omega
theorem g_of_86 (hn : n < 10 ^ 17) (hd : 1 ≤ d0) (hd2 : d0 ≤ 10 ^ 16) (K3 : ∀ j : Nat, j ≤ 31 → (j = 0 ∨ d0 * 10 ^ j ≤ n) → n < d0 * 10 ^ (j + 1) → G mX4_of (d + 1) S (f_PL Q) 124 [(0, .ref r), (2, .int (bI below)), (3, .long (lN n)), (5, .long (lN (d0 * 10 ^ j))), (7, .int (Int32.ofInt (t + j))), (8, .int (0 : Int32))] [] h) :
    ∀ m i j : Nat, m + i = 16 → i ≤ j → j ≤ 15 + i → (j = 0 ∨ d0 * 10 ^ j ≤ n) → G mX4_of (d + 1) S (f_PL Q) 86 [(0, .ref r), (2, .int (bI below)), (3, .long (lN n)), (5, .long (lN (d0 * 10 ^ j))), (7, .int (Int32.ofInt (t + j))), (8, .int (nI i))] [] h := by
  intro m
  induction m with
  | zero =>
    intro i j hi hj hj2 hl
    have e3 : i = 16 := by omega
    subst e3
    have hbig : n < d0 * 10 ^ (j + 1) := by
      have h1 : 1 * 10 ^ 17 ≤ d0 * 10 ^ (j + 1) := Nat.mul_le_mul hd (Nat.pow_le_pow_right (by decide) (by omega))
      omega
    refine TX4_of_86 (fun _ => K3 j (by omega) hl hbig) (fun a => absurd (show (16 : Int32) ≤ nI 16 by decide) a) (fun a => absurd (show (16 : Int32) ≤ nI 16 by decide) a)
  | succ m ih =>
    intro i j hi hj hj2 hl
    have hlt : d0 * 10 ^ j < 2 ^ 60 := by
      rcases hl with rfl | hl
      · simp; omega
      · omega
    refine TX4_of_86 (fun a => ?_) (fun _ b => ?_) (fun _ b => ?_)
    · have : 16 ≤ i := (nI_leI (a := 16) (by decide) (by omega)).mp a
      omega
    · rw [lN_10, lN_div (by omega) (by decide) (by decide), pk_lLT (by omega) (by omega)] at b
      refine K3 j (by omega) hl ?_
      rw [← p10]
      omega
    · rw [lN_10, lN_div (by omega) (by decide) (by decide), pk_lLT (by omega) (by omega)] at b
      rw [lN_10, lN_mul, p10, nI1, iO1, show t + (j : Int) + 1 = t + ((j + 1 : Nat) : Int) by omega]
      refine ih (i + 1) (j + 1) (by omega) (by omega) (by omega) (Or.inr ?_)
      rw [← p10]
      omega
theorem g_of_124 {L : Nat} {u : Int} (hn : n < 10 ^ 17) (hn1 : 1 ≤ n) (hL1 : 1 ≤ L) (hL : L ≤ 10 ^ 17) (hL16 : L ≤ n * 10 ^ 16) (K4 : ∀ i : Nat, i ≤ 16 → (∀ k : Nat, k < i → n * 10 ^ k < L) → L ≤ n * 10 ^ i → n * 10 ^ i < 10 ^ 18 → G mX4_of (d + 1) S (f_PL Q) 177 [(0, .ref r), (2, .int (bI below)), (5, .long (lN L)), (7, .int (Int32.ofInt (u - i))), (8, .long (lN (n * 10 ^ i / L))), (10, .long (lN (n * 10 ^ i % L))), (12, .int (1 : Int32))] [] h) :
    ∀ m i : Nat, m + i = 16 → (∀ k : Nat, k < i → n * 10 ^ k < L) → n * 10 ^ i < 10 ^ 18 → G mX4_of (d + 1) S (f_PL Q) 124 [(0, .ref r), (2, .int (bI below)), (3, .long (lN (n * 10 ^ i))), (5, .long (lN L)), (7, .int (Int32.ofInt (u - i))), (8, .int (nI i))] [] h := by
  intro m
  induction m with
  | zero =>
    intro i hi hlt hb
    have e : i = 16 := by omega
    subst e
    have hdv : lN (n * 10 ^ 16) / lN L = lN (n * 10 ^ 16 / L) := lN_div (by omega) hL1 (by omega)
    have hmd := lN_mod (a := n * 10 ^ 16) (b := L) (by omega) hL1 (by omega)
    refine TX4_of_124 (fun _ _ => lN_ne0 hL1 (by omega)) (fun _ _ => ?_) (fun _ b => absurd (lN_pos hL1 (by omega)) b) (fun a => absurd (show (16 : Int32) ≤ nI 16 by decide) a) (fun a => absurd (show (16 : Int32) ≤ nI 16 by decide) a) (fun a => absurd (show (16 : Int32) ≤ nI 16 by decide) a) (fun a => absurd (show (16 : Int32) ≤ nI 16 by decide) a)
    rw [hmd, hdv]
    exact K4 16 (by omega) hlt hL16 hb
  | succ m ih =>
    intro i hi hlt hb
    have hdv : lN (n * 10 ^ i) / lN L = lN (n * 10 ^ i / L) := lN_div (by omega) hL1 (by omega)
    have hmd := lN_mod (a := n * 10 ^ i) (b := L) (by omega) hL1 (by omega)
    refine TX4_of_124 (fun a => ?_) (fun a => ?_) (fun a => ?_) (fun _ _ _ => lN_ne0 hL1 (by omega)) (fun _ b _ => ?_) (fun _ _ b => absurd (lN_pos hL1 (by omega)) b) (fun _ b => ?_)
    · have : 16 ≤ i := (nI_leI (a := 16) (by decide) (by omega)).mp a
      omega
    · have : 16 ≤ i := (nI_leI (a := 16) (by decide) (by omega)).mp a
      omega
    · have : 16 ≤ i := (nI_leI (a := 16) (by decide) (by omega)).mp a
      omega
    · rw [pk_lLE (by omega) (by omega)] at b
      rw [hmd, hdv]
      exact K4 i (by omega) hlt b hb
    · rw [pk_lLE (by omega) (by omega)] at b
      rw [lN_10, lN_mul, p10, nI1, iOm1, show u - (i : Int) - 1 = u - ((i + 1 : Nat) : Int) by omega]
      refine ih (i + 1) (by omega) (fun k hk => ?_) ?_
      · rcases (show k < i ∨ k = i by omega) with h1 | rfl
        · exact hlt k h1
        · omega
      · rw [← p10]; omega
theorem g_of_177 {N L : Nat} {u : Int} (hr : (r, shX4) ∈ S) (hD : h.1 r 0 = nI D) (hD1 : 1 ≤ D) (hD4 : D ≤ 4) (hW : h.1 r 1 = nI W) (hW3 : W ≤ 3) (hT : h.1 r 2 = bI tiny) (hL1 : 1 ≤ L) (hL : L ≤ 10 ^ 17) (hN : N < 10 * L) (u1 : -2000 ≤ u) (u2 : u ≤ 2000)
    (hQ : Q (Int64.ofInt (plF D W tiny below (N * 10 ^ (D - 1) / L + (if goF W below (N * 10 ^ (D - 1) / L) (N * 10 ^ (D - 1) % L) L then 1 else 0)) (u - (D - 1 : Nat)))) h) :
    ∀ m k : Nat, m + k = D - 1 → G mX4_of (d + 1) S (f_PL Q) 177 [(0, .ref r), (2, .int (bI below)), (5, .long (lN L)), (7, .int (Int32.ofInt (u - k))), (8, .long (lN (N * 10 ^ k / L))), (10, .long (lN (N * 10 ^ k % L))), (12, .int (nI (k + 1)))] [] h := by
  intro m
  induction m with
  | zero =>
    intro k hk
    have e : k = D - 1 := by omega
    subst e
    have hdk : nI (D - 1 + 1) = h.1 r 0 := by rw [hD]; congr 1; omega
    have hp : (10 : Nat) ^ (D - 1) ≤ 10 ^ 3 := Nat.pow_le_pow_right (by decide) (by omega)
    have hM : N * 10 ^ (D - 1) ≤ 10 * L * 10 ^ 3 := Nat.mul_le_mul (by omega) hp
    have hkl : N * 10 ^ (D - 1) / L ≤ 10 ^ 4 := by
      apply Nat.div_le_of_le_mul
      refine Nat.le_trans hM ?_
      rw [show (10 : Nat) ^ 4 = 10000 from rfl, show (10 : Nat) ^ 3 = 1000 from rfl]
      clear hM hp hQ
      omega
    have hml : N * 10 ^ (D - 1) % L < L := Nat.mod_lt _ hL1
    refine TX4_of_177 hr (Q1 := fun v k => v = bI (goF W below (N * 10 ^ (D - 1) / L) (N * 10 ^ (D - 1) % L) L) ∧ k = h) (Q2 := fun _ _ v k => v = Int64.ofInt (plF D W tiny below (N * 10 ^ (D - 1) / L) (u - (D - 1 : Nat))) ∧ k = h) (Q3 := fun _ _ v k => v = Int64.ofInt (plF D W tiny below (N * 10 ^ (D - 1) / L + 1) (u - (D - 1 : Nat))) ∧ k = h) (fun _ => s_goesOn hr hW hW3 (by omega) hml (by omega)) ?_ ?_ ?_ ?_ (fun a => absurd (by rw [hdk]; exact Int32.le_refl _) a) (fun a => absurd (by rw [hdk]; exact Int32.le_refl _) a)
    · rintro - v k ⟨rfl, rfl⟩ a
      exact s_placed hr hD hD1 hD4 hW hW3 hT (by omega) (by omega) (by omega)
    · rintro - v k ⟨rfl, rfl⟩ a v2 k2 ⟨rfl, rfl⟩
      rw [bI_0.mp a] at hQ
      exact hQ
    · rintro - v k ⟨rfl, rfl⟩ a
      rw [lN_1]
      exact s_placed hr hD hD1 hD4 hW hW3 hT (by omega) (by omega) (by omega)
    · rintro - v k ⟨rfl, rfl⟩ a v2 k2 ⟨rfl, rfl⟩
      rw [bI_n0.mp a] at hQ
      exact hQ
  | succ m ih =>
    intro k hk
    have hml : N * 10 ^ k % L < L := Nat.mod_lt _ hL1
    have hno : ¬ h.1 r 0 ≤ nI (k + 1) := by rw [hD]; exact nI_ge (by omega) (by omega)
    have hp : (10 : Nat) ^ k ≤ 10 ^ 3 := Nat.pow_le_pow_right (by decide) (by omega)
    have hM : N * 10 ^ k ≤ 10 * L * 10 ^ 3 := Nat.mul_le_mul (by omega) hp
    have hkl : N * 10 ^ k / L ≤ 10 ^ 4 := by
      apply Nat.div_le_of_le_mul
      refine Nat.le_trans hM ?_
      rw [show (10 : Nat) ^ 4 = 10000 from rfl, show (10 : Nat) ^ 3 = 1000 from rfl]
      clear hM hp hQ
      omega
    obtain ⟨m1, m2⟩ := mul10_div (N * 10 ^ k) L hL1
    refine TX4_of_177 hr (Q1 := fun _ _ => False) (Q2 := fun _ _ _ _ => False) (Q3 := fun _ _ _ _ => False) (fun a => absurd a hno) (fun a => absurd a hno) (fun a => absurd a hno) (fun a => absurd a hno) (fun a => absurd a hno) (fun _ => lN_ne0 hL1 (by omega)) (fun _ => ?_)
    rw [lN_10, lN_mul, lN_mul, lN_mod (by omega) hL1 (by omega), lN_div (by omega) hL1 (by omega), lN_add, m1, m2, p10, nI1, iOm1, show u - (k : Int) - 1 = u - ((k + 1 : Nat) : Int) by omega]
    exact ih (k + 1) (by omega)
/-- Rounding.of -/
theorem s_of {q : Nat} (hr : (r, shX4) ∈ S) (hq : (q, shX3) ∈ S) (hD : h.1 r 0 = nI D) (hD1 : 1 ≤ D) (hD4 : D ≤ 4) (hW : h.1 r 1 = nI W) (hW3 : W ≤ 3) (hT : h.1 r 2 = bI tiny) (hn : (h.2.1 q 0).toInt.natAbs < 10 ^ 17) (hd : 1 ≤ d0) (hd2 : d0 ≤ 10 ^ 16) (hd0 : h.2.1 q 1 = lN d0) (ht : h.1 q 2 = Int32.ofInt t) (t1 : -1000 ≤ t) (t2 : t ≤ 1000) :
    OkL (d + 1) mX4_of S [.ref r, .ref q] h (fun v k => v = Int64.ofInt (rndF D W tiny (decide ((h.2.1 q 0).toInt < 0)) (h.2.1 q 0).toInt.natAbs d0 t) ∧ k = h) := by
  have hab : (if 0 < h.2.1 q 0 then h.2.1 q 0 else -(h.2.1 q 0)) = lN (h.2.1 q 0).toInt.natAbs := by rw [absL_m, absL_nat (by omega)]
  generalize hx : h.2.1 q 0 = x at *
  have key : ∀ b : Bool, b = decide (x.toInt < 0) → ¬ x = 0 → G mX4_of (d + 1) S (f_PL (fun v k => v = Int64.ofInt (rndF D W tiny (decide (x.toInt < 0)) x.toInt.natAbs d0 t) ∧ k = h)) 49 [(0, .ref r), (2, .int (bI b)), (3, .long (lN x.toInt.natAbs)), (5, .long (lN d0)), (7, .int (Int32.ofInt t)), (8, .int (0 : Int32))] [] h := by
    intro b hb h0
    subst hb
    have h1 : 1 ≤ x.toInt.natAbs := by
      have : x.toInt ≠ 0 := fun e => h0 (Int64.toInt_inj.mp (by simpa using e))
      omega
    generalize hnn : x.toInt.natAbs = n at *
    have start := g_of_49 (d := d) (S := S) (h := h) (r := r) (below := decide (x.toInt < 0)) (Q := fun v k => v = Int64.ofInt (rndF D W tiny (decide (x.toInt < 0)) n d0 t) ∧ k = h) (t := t) hn hd (fun j hj hl => ?_) hd2 3 0 0 rfl rfl (Or.inl rfl)
    · simpa [nI_0] using start
    · refine g_of_86 hn hd hd2 (fun j hj hl hb => ?_) 16 0 j (by omega) (by omega) (by omega) hl
      have hL1 : 1 ≤ d0 * 10 ^ j := Nat.le_trans hd (Nat.le_mul_of_pos_right _ (Nat.pow_pos (by decide)))
      have hLn : j = 0 ∨ d0 * 10 ^ j ≤ n := hl
      have hL : d0 * 10 ^ j ≤ 10 ^ 17 := by
        rcases hl with rfl | hl
        · simp; omega
        · omega
      have hL16 : d0 * 10 ^ j ≤ n * 10 ^ 16 := by
        rcases hl with rfl | hl
        · simp; omega
        · omega
      have hup : upK 40 n d0 = j := upK_is 40 n d0 j (by omega) hl hb
      have st2 := g_of_124 (d := d) (S := S) (h := h) (r := r) (below := decide (x.toInt < 0)) (Q := fun v k => v = Int64.ofInt (rndF D W tiny (decide (x.toInt < 0)) n d0 t) ∧ k = h) (L := d0 * 10 ^ j) (u := t + j) hn h1 hL1 hL hL16 (fun i hi hlt hle hbb => ?_) 16 0 (by omega) (fun k hk => by omega) (by simp; omega)
      · simpa [nI_0] using st2
      · have hdn : dnK 40 n d0 = i := by
          rcases hLn with rfl | hLn
          · simp at hlt hle
            exact dnK_is 40 n d0 i (by omega) hlt hle
          · have hi0 : i = 0 := by
              cases i with
              | zero => rfl
              | succ i => have := hlt 0 (by omega); simp at this; omega
            subst hi0
            refine dnK_is 40 n d0 0 (by omega) (fun k hk => by omega) ?_
            simp
            exact Nat.le_trans (Nat.le_mul_of_pos_right d0 (Nat.pow_pos (by decide))) hLn
        have hN10 : n * 10 ^ i < 10 * (d0 * 10 ^ j) := by
          cases i with
          | zero => simp; rw [← p10] at hb; omega
          | succ i => have := hlt i (by omega); rw [← p10]; omega
        have st3 := g_of_177 (d := d) (S := S) (h := h) (r := r) (below := decide (x.toInt < 0)) (Q := fun v k => v = Int64.ofInt (rndF D W tiny (decide (x.toInt < 0)) n d0 t) ∧ k = h) (N := n * 10 ^ i) (L := d0 * 10 ^ j) (u := t + j - i) hr hD hD1 hD4 hW hW3 hT hL1 hL hN10 (by omega) (by omega) ⟨?_, rfl⟩ (D - 1) 0 (by omega)
        · simpa [nI_one] using st3
        · unfold rndF nrmN nrmD
          rw [if_neg (show ¬ n = 0 by omega), hup, hdn]
  refine TX4_of_0 hq (fun a b => ?_) (fun a b => ?_) (fun a => ?_) <;> rw [hx] at *
  · rw [hab, hd0, ht]
    refine key false ?_ a
    rw [Int64.le_iff_toInt_le] at b
    simp at b ⊢
    omega
  · rw [hab, hd0, ht]
    refine key true ?_ a
    rw [Int64.le_iff_toInt_le] at b
    simp at b ⊢
    omega
  · subst a
    refine ⟨?_, rfl⟩
    rw [show (0 : Int64).toInt.natAbs = 0 from rfl]
    unfold rndF
    rw [if_pos rfl]
    rfl
end ROUNDOF

/-! ===== small methods: signs, letters, digits, rows ===== -/
def bI (b : Bool) : Int32 := if b then 1 else 0
theorem bI_t : bI true = 1 := rfl
theorem bI_f : bI false = 0 := rfl
theorem bI_0 {b : Bool} : bI b = 0 ↔ b = false := by cases b <;> decide
theorem bI_n0 {b : Bool} : ¬ bI b = 0 ↔ b = true := by cases b <;> decide
theorem bI_01 (b : Bool) : bI b = 0 ∨ bI b = 1 := by cases b <;> decide
def isOpB (c : Int32) : Bool := decide (c = 43) || (decide (c = 45) || (decide (c = 42) || decide (c = 47)))
def isLetB (c : Int32) : Bool := decide (97 ≤ c ∧ c ≤ 101)
def isDigB (c : Int32) : Bool := decide (48 ≤ c ∧ c ≤ 57)
theorem l_lt {a b : Int32} : a.toInt64 < b.toInt64 ↔ a < b := by
  rw [Int64.lt_iff_toInt_lt, Int32.lt_iff_toInt_lt, Int32.toInt_toInt64, Int32.toInt_toInt64]
theorem l_le {a b : Int32} : a.toInt64 ≤ b.toInt64 ↔ a ≤ b := by
  rw [Int64.le_iff_toInt_le, Int32.le_iff_toInt_le, Int32.toInt_toInt64, Int32.toInt_toInt64]
theorem i_not_lt {a b : Int32} : ¬ a < b ↔ b ≤ a := Int32.not_lt
theorem i_not_le {a b : Int32} : ¬ a ≤ b ↔ b < a := Int32.not_le
/-- the number that a sign stands for, out of a row of n -/
def numF (c : Int32) (n : Nat) (f : Nat → Int32) : Int32 := if isDigB c then c - 48 else if 0 ≤ c - 97 ∧ c - 97 < Int32.ofNat n then f (c - 97).toNatClampNeg else 0
def atF (n : Nat) (f : Nat → Int64) (i : Int32) : Int64 := if 0 ≤ i ∧ i < Int32.ofNat n then f i.toNatClampNeg else 1000000000000000000
section SMALL
variable {d : Nat} {S : fW} {h : fH}
theorem s_isOperator {c : Int32} : OkI d mX11_isOperator S [.int c] h (fun v k => v = bI (isOpB c) ∧ k = h) := by
  refine TX11_isOperator_0 ?_ ?_ ?_ ?_ ?_ <;> intros <;> refine ⟨?_, rfl⟩ <;> simp_all [isOpB, bI]
theorem s_isLetter {c : Int32} : OkI d mX11_isLetter S [.int c] h (fun v k => v = bI (isLetB c) ∧ k = h) := by
  refine TX11_isLetter_0 ?_ ?_ ?_ <;> intros <;> refine ⟨?_, rfl⟩ <;> simp only [isLetB, bI, decide_eq_true_eq] <;> simp only [Int32.le_iff_toInt_le, Int32.lt_iff_toInt_lt] at * <;> split <;> simp_all <;> omega
theorem s_isDigit {c : Int32} : OkI d mX11_isDigit S [.int c] h (fun v k => v = bI (isDigB c) ∧ k = h) := by
  refine TX11_isDigit_0 ?_ ?_ ?_ <;> intros <;> refine ⟨?_, rfl⟩ <;> simp only [isDigB, bI, decide_eq_true_eq] <;> simp only [Int32.le_iff_toInt_le, Int32.lt_iff_toInt_lt] at * <;> split <;> simp_all <;> omega
theorem vp_of {x : Int32} {n : Nat} (hn : n < 2 ^ 31) (h0 : ¬ x < 0) (h1 : ¬ Int32.ofNat n ≤ x) : vp_in x n := by
  rw [vp_in_iff]
  rw [Int32.lt_iff_toInt_lt] at h0
  rw [Int32.le_iff_toInt_le, show (Int32.ofNat n).toInt = (n : Int) from nI_toInt hn] at h1
  simp at h0
  omega
theorem s_numberOf {c : Int32} {r n : Nat} (hn : n < 2 ^ 31) (hs : (r, shI n) ∈ S) : OkI (d + 1) mX11_numberOf S [.int c, .ref r] h (fun v k => v = numF c n (h.2.2.1 r) ∧ k = h) := by
  refine TX11_numberOf_0 (ok1 := s_isDigit) (hs1 := hs) ?_ ?_ ?_ ?_ ?_
  · rintro v k ⟨rfl, rfl⟩ a b
    exact ⟨by simp [numF, bI_0.mp a, Int32.not_le.mpr b], rfl⟩
  · rintro v k ⟨rfl, rfl⟩ a b c
    exact ⟨by simp [numF, bI_0.mp a, Int32.not_lt.mpr c], rfl⟩
  · rintro v k ⟨rfl, rfl⟩ a b c
    exact vp_of hn b c
  · rintro v k ⟨rfl, rfl⟩ a b c
    exact ⟨by simp [numF, bI_0.mp a, Int32.not_lt.mp b, Int32.not_le.mp c], rfl⟩
  · rintro v k ⟨rfl, rfl⟩ a
    exact ⟨by simp [numF, bI_n0.mp a], rfl⟩
theorem s_at {i : Int32} {r n : Nat} (hn : n < 2 ^ 31) (hs : (r, shJ n) ∈ S) : OkL d mX11_at S [.ref r, .int i] h (fun v k => v = atF n (h.2.2.2 r) i ∧ k = h) := by
  refine TX11_at_0 (hs1 := hs) ?_ ?_ ?_ ?_
  · intro a
    exact ⟨by simp [atF, Int32.not_le.mpr a], rfl⟩
  · intro a b
    exact ⟨by simp [atF, Int32.not_lt.mpr b], rfl⟩
  · exact vp_of hn
  · intro a b
    exact ⟨by simp [atF, Int32.not_lt.mp a, Int32.not_le.mp b], rfl⟩
-- the reference's
theorem s_in {a lo hi : Int64} : OkI d mX12_in S [.long a, .long lo, .long hi] h (fun v k => v = bI (decide (lo ≤ a ∧ a ≤ hi)) ∧ k = h) := by
  refine TX12_in_0 ?_ ?_ ?_ <;> intros <;> refine ⟨?_, rfl⟩ <;> simp_all [bI] <;> simp only [Int64.le_iff_toInt_le, Int64.lt_iff_toInt_lt] at * <;> omega
theorem in_32 (x lo hi : Int32) {lo' hi' : Int64} (h1 : lo' = lo.toInt64) (h2 : hi' = hi.toInt64) : decide (lo' ≤ x.toInt64 ∧ x.toInt64 ≤ hi') = decide (lo ≤ x ∧ x ≤ hi) := by
  subst h1; subst h2
  simp only [l_le]
theorem s_in32 {x lo hi : Int32} {lo' hi' : Int64} (h1 : lo' = lo.toInt64) (h2 : hi' = hi.toInt64) : OkI d mX12_in S [.long x.toInt64, .long lo', .long hi'] h (fun v k => v = bI (decide (lo ≤ x ∧ x ≤ hi)) ∧ k = h) := by
  rw [← in_32 x lo hi h1 h2]
  exact s_in
theorem s_isEnd {x : Int32} : OkI (d + 1) mX12_isEnd S [.int x] h (fun v k => v = bI (decide (0 ≤ x ∧ x ≤ 1)) ∧ k = h) := by
  refine TX12_isEnd_0 (ok1 := s_in32 (lo := 0) (hi := 1) (by decide) (by decide)) (fun v k h => h) ?_
  rintro v k ⟨rfl, rfl⟩
  exact bI_01 _
theorem s_isRule {x : Int32} : OkI (d + 1) mX12_isRule S [.int x] h (fun v k => v = bI (decide (0 ≤ x ∧ x ≤ 6)) ∧ k = h) := by
  refine TX12_isRule_0 (ok1 := s_in32 (lo := 0) (hi := 6) (by decide) (by decide)) (fun v k h => h) ?_
  rintro v k ⟨rfl, rfl⟩
  exact bI_01 _
theorem s_misLetter {x : Int32} : OkI (d + 1) mX12_isLetter S [.int x] h (fun v k => v = bI (isLetB x) ∧ k = h) := by
  refine TX12_isLetter_0 (ok1 := s_in32 (lo := 97) (hi := 101) (by decide) (by decide)) (fun v k h => h) ?_
  rintro v k ⟨rfl, rfl⟩
  exact bI_01 _
theorem s_misDigit {x : Int32} : OkI (d + 1) mX12_isDigit S [.int x] h (fun v k => v = bI (isDigB x) ∧ k = h) := by
  refine TX12_isDigit_0 (ok1 := s_in32 (lo := 48) (hi := 57) (by decide) (by decide)) (fun v k h => h) ?_
  rintro v k ⟨rfl, rfl⟩
  exact bI_01 _
theorem s_misSign {c : Int32} : OkI d mX12_isSign S [.int c] h (fun v k => v = bI (isOpB c) ∧ k = h) := by
  refine TX12_isSign_0 ?_ ?_ ?_ ?_ ?_ <;> intros <;> refine ⟨?_, rfl⟩ <;> simp_all [isOpB, bI]
def absL (x : Int64) : Int64 := if x < 0 then -x else x
theorem s_size {x : Int64} : OkL d mX12_size S [.long x] h (fun v k => v = absL x ∧ k = h) := by
  refine TX12_size_0 ?_ ?_ <;> intro a <;> refine ⟨?_, rfl⟩ <;> unfold absL
  · rw [if_neg (Int64.not_lt.mpr a)]
  · rw [if_pos (Int64.not_le.mp a)]
theorem absL_m (x : Int64) : (if 0 < x then x else -x) = absL x := by
  unfold absL
  by_cases a : 0 < x
  · rw [if_pos a, if_neg (Int64.not_lt.mpr (Int64.le_of_lt a))]
  · rw [if_neg a]
    by_cases b : x < 0
    · rw [if_pos b]
    · rw [if_neg b]
      have e : x = 0 := by
        apply Int64.toInt_inj.mp
        simp only [Int64.lt_iff_toInt_lt] at a b
        simp at a b ⊢
        omega
      subst e
      decide
def lessF (a b : Int64) : Int64 := if a = 1000000000000000000 ∨ b = 1000000000000000000 then 1000000000000000000 else a - b
theorem s_mless {a b : Int64} : OkL d mX12_less S [.long a, .long b] h (fun v k => v = lessF a b ∧ k = h) := by
  refine TX12_less_0 ?_ ?_ ?_ <;> intros <;> refine ⟨?_, rfl⟩ <;> simp_all [lessF]
end SMALL

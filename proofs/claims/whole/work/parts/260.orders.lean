/-! ===== bits (begun with kit/laws/BITS.to-paste) ===== -/
def bt (x : Int32) (i : Nat) : Bool := x.toBitVec.getLsbD i
theorem b_ext {x y : Int32} (h : ∀ i, i < 32 → bt x i = bt y i) : x = y := Int32.toBitVec_inj.mp (BitVec.eq_of_getLsbD_eq (fun i hi => h i hi))
theorem b_or (x y : Int32) (i : Nat) : bt (x ||| y) i = (bt x i || bt y i) := by unfold bt; rw [Int32.toBitVec_or, BitVec.getLsbD_or]
theorem b_and (x y : Int32) (i : Nat) : bt (x &&& y) i = (bt x i && bt y i) := by unfold bt; rw [Int32.toBitVec_and, BitVec.getLsbD_and]
theorem b_0 (i : Nat) : bt 0 i = false := BitVec.getLsbD_zero
theorem b_1 : ∀ i, i < 32 → bt 1 i = decide (i = 0) := by decide +kernel
theorem s_l : ∀ n, n < 32 → ((nI n &&& 31).toBitVec.smod 32).toNat = n := by decide +kernel
theorem b_shl (n : Nat) (hn : n < 32) (x : Int32) {i : Nat} (hi : i < 32) : bt (x <<< (nI n &&& 31)) i = (decide (n ≤ i) && bt x (i - n)) := by
  unfold bt
  rw [Int32.toBitVec_shiftLeft]
  show (x.toBitVec <<< ((nI n &&& 31).toBitVec.smod 32).toNat).getLsbD i = _
  rw [s_l n hn, BitVec.getLsbD_shiftLeft]
  rcases Nat.lt_or_ge i n with h | h
  · simp [h, Nat.not_le.mpr h]
  · simp [hi, h, Nat.not_lt.mpr h]
theorem b_sshr (n : Nat) (hn : n < 32) (x : Int32) {i : Nat} (hi : i < 32) : bt (x >>> (nI n &&& 31)) i = if n + i < 32 then bt x (n + i) else bt x 31 := by
  unfold bt
  rw [Int32.toBitVec_shiftRight]
  show (x.toBitVec.sshiftRight ((nI n &&& 31).toBitVec.smod 32).toNat).getLsbD i = _
  rw [s_l n hn, BitVec.getLsbD_sshiftRight, BitVec.msb_eq_getLsbD_last]
  simp [hi]
theorem b_one {i j : Nat} (hi : i < 32) (hj : j < 32) : bt ((1 : Int32) <<< (nI i &&& 31)) j = decide (j = i) := by
  rw [b_shl i hi _ hj]
  by_cases h : i ≤ j
  · rw [b_1 _ (by omega)]
    by_cases e : j = i
    · subst e; simp
    · have : ¬ j - i = 0 := by omega
      simp [h, e, this]
  · have e : ¬ j = i := by omega
    simp [h, e]
/-- the bit i of x is not set -/
theorem b_test {x : Int32} {i : Nat} (hi : i < 31) : ((x >>> (nI i &&& 31)) &&& 1) = 0 ↔ bt x i = false := by
  constructor
  · intro z
    have h0 : bt ((x >>> (nI i &&& 31)) &&& 1) 0 = false := by rw [z]; exact b_0 0
    rw [b_and, b_sshr i (by omega) _ (by decide), if_pos (by omega), b_1 0 (by decide)] at h0
    simpa using h0
  · intro z
    apply b_ext
    intro j hj
    rw [b_and, b_0, b_1 j hj]
    by_cases e : j = 0
    · subst e
      rw [b_sshr i (by omega) _ (by decide), if_pos (by omega), Nat.add_zero, z]
      rfl
    · simp [e]
theorem b_mask {x : Int32} {i : Nat} (hi : i < 32) : (x &&& ((1 : Int32) <<< (nI i &&& 31))) = 0 ↔ bt x i = false := by
  constructor
  · intro z
    have h0 : bt (x &&& ((1 : Int32) <<< (nI i &&& 31))) i = false := by rw [z]; exact b_0 i
    rw [b_and, b_one hi hi] at h0
    simpa using h0
  · intro z
    apply b_ext
    intro j hj
    rw [b_and, b_0, b_one hi hj]
    by_cases e : j = i
    · subst e; rw [z]; rfl
    · simp [e]
theorem b_set {x : Int32} {i j : Nat} (hi : i < 32) (hj : j < 32) : bt (x ||| ((1 : Int32) <<< (nI i &&& 31))) j = (bt x j || decide (j = i)) := by rw [b_or, b_one hi hj]
/-! ===== orders: the meaning ===== -/
abbrev oA : Type := Nat × Int64 × List Nat
def prB (most : Nat) (l than : Int64) : Bool := if absL l = absL than then decide (than < l) else if most = 0 then decide (absL l < absL than) else decide (absL than < absL l)
/-- an order of the loss l is found -/
def otF (most : Nat) (a : oA) (l : Int64) (p : List Nat) : oA := if ¬ a.1 = 0 ∧ l = a.2.1 then (a.1 + 1, a.2.1, a.2.2) else if a.1 = 0 ∨ prB most l a.2.1 = true then (1, l, p) else a
/-- the sum in the order p -/
def smL (D W : Nat) (T : Nat → Int64) (p : List Nat) : Int64 := p.tail.foldl (fun s i => plF' D W s (T i)) (T (p.getD 0 0))
def osF (D W : Nat) (T : Nat → Int64) (w : Int64) (most : Nat) (a : oA) (p : List Nat) : oA := if smL D W T p = 1000000000000000000 then a else otF most a (smL D W T p - w) p
/-- all orders that begin with p, of m numbers more -/
def exL (n : Nat) : Nat → List Nat → List (List Nat)
  | 0, p => [p]
  | m + 1, p => (List.range' 0 n).flatMap (fun i => if p.contains i then [] else exL n m (p ++ [i]))
def orF (D W : Nat) (T : Nat → Int64) (n most : Nat) : oA := (exL n n []).foldl (osF D W T (whF T n) most) (0, 0, [])
theorem otF_le (most : Nat) (a : oA) (l : Int64) (p : List Nat) : (otF most a l p).1 ≤ a.1 + 1 := by
  unfold otF
  split
  · exact Nat.le_refl _
  · split
    · simp
    · omega
theorem osF_le (D W : Nat) (T : Nat → Int64) (w : Int64) (most : Nat) (a : oA) (p : List Nat) : (osF D W T w most a p).1 ≤ a.1 + 1 := by
  unfold osF
  split
  · omega
  · exact otF_le _ _ _ _
theorem osF_fold_le (D W : Nat) (T : Nat → Int64) (w : Int64) (most : Nat) : ∀ (L : List (List Nat)) (a : oA), (L.foldl (osF D W T w most) a).1 ≤ a.1 + L.length
  | [], a => by simp
  | p :: L, a => by
    have h1 := osF_fold_le D W T w most L (osF D W T w most a p)
    have h2 := osF_le D W T w most a p
    simp only [List.foldl_cons, List.length_cons]
    omega
theorem smL_snoc {D W : Nat} {T : Nat → Int64} {p : List Nat} (hp : p ≠ []) (i : Nat) : smL D W T (p ++ [i]) = plF' D W (smL D W T p) (T i) := by
  cases p with
  | nil => exact absurd rfl hp
  | cons x r => simp [smL, List.foldl_append]
theorem smL_one {D W : Nat} {T : Nat → Int64} (i : Nat) : smL D W T [i] = T i := by simp [smL]
/-- what is GREAT on the way is left out -/
theorem ex_great {D W : Nat} {T : Nat → Int64} {w : Int64} {most n : Nat} : ∀ (m : Nat) (p : List Nat) (a : oA), p ≠ [] → smL D W T p = 1000000000000000000 → (exL n m p).foldl (osF D W T w most) a = a
  | 0, p, a, _, hg => by simp [exL, osF, hg]
  | m + 1, p, a, hp, hg => by
    have key : ∀ (L : List Nat) (a : oA), (L.flatMap (fun i => if p.contains i then [] else exL n m (p ++ [i]))).foldl (osF D W T w most) a = a := by
      intro L
      induction L with
      | nil => intro a; rfl
      | cons i L ih =>
        intro a
        rw [List.flatMap_cons, List.foldl_append]
        have e : (if p.contains i then [] else exL n m (p ++ [i])).foldl (osF D W T w most) a = a := by
          split
          · rfl
          · exact ex_great m (p ++ [i]) a (by simp) (by rw [smL_snoc hp, hg, plF'_g])
        rw [e, ih]
    simp only [exL]
    exact key _ a
theorem exL_len (n : Nat) : ∀ (m : Nat) (p : List Nat), (exL n m p).length ≤ n ^ m
  | 0, p => by simp [exL]
  | m + 1, p => by
    have key : ∀ (k i : Nat), ((List.range' i k).flatMap (fun i => if p.contains i then [] else exL n m (p ++ [i]))).length ≤ k * n ^ m := by
      intro k
      induction k with
      | zero => intro i; simp
      | succ k ih =>
        intro i
        rw [List.range'_succ, List.flatMap_cons, List.length_append]
        have h1 := ih (i + 1)
        have h2 : (if p.contains i then [] else exL n m (p ++ [i])).length ≤ n ^ m := by
          split
          · simp
          · exact exL_len n m _
        rw [Nat.succ_mul]
        omega
    have := key n 0
    simp only [exL]
    rw [Nat.pow_succ, Nat.mul_comm]
    exact this
-- the next order
def swL (p : List Nat) (a b : Nat) : List Nat := (p.set a (p.getD b 0)).set b (p.getD a 0)
def noI (p : List Nat) : Nat → Option Nat
  | 0 => none
  | k + 1 => if p.getD k 0 ≤ p.getD (k + 1) 0 then some k else noI p k
def noJ (p : List Nat) (v : Nat) : Nat → Nat
  | 0 => 0
  | k + 1 => if v ≤ p.getD (k + 1) 0 then k + 1 else noJ p v k
def noR : Nat → List Nat → Nat → Nat → List Nat
  | 0, p, _, _ => p
  | f + 1, p, a, b => if b ≤ a then p else noR f (swL p a b) (a + 1) (b - 1)
def nxL (n : Nat) (p : List Nat) : Option (List Nat) :=
  match noI p (n - 1) with
  | none => none
  | some i => some (noR 7 (swL p i (noJ p (p.getD i 0) (n - 1))) (i + 1) (n - 1))
/-- each order of a list is followed by the next one, the last one by e -/
def ckL (n : Nat) : List (List Nat) → Option (List Nat) → Bool
  | [], _ => true
  | p :: r, e => decide (nxL n p = (match r with
    | [] => e
    | q :: _ => some q)) && ckL n r e
theorem ck_app {n : Nat} {e : Option (List Nat)} {b : List Nat} {B : List (List Nat)} (hB : ckL n (b :: B) e = true) : ∀ (A : List (List Nat)), ckL n A (some b) = true → ckL n (A ++ b :: B) e = true
  | [], _ => hB
  | [p], h => by
    simp only [ckL, Bool.and_true] at h
    simp only [List.cons_append, List.nil_append]
    rw [ckL, Bool.and_eq_true]
    exact ⟨h, hB⟩
  | p :: q :: r, h => by
    rw [ckL, Bool.and_eq_true] at h
    simp only [List.cons_append]
    rw [ckL, Bool.and_eq_true]
    exact ⟨h.1, ck_app hB (q :: r) h.2⟩
theorem ck_1 : ckL 1 (exL 1 1 []) none = true := by decide +kernel
theorem ck_2 : ckL 2 (exL 2 2 []) none = true := by decide +kernel
theorem ck_3 : ckL 3 (exL 3 3 []) none = true := by decide +kernel
theorem ck_4 : ckL 4 (exL 4 4 []) none = true := by decide +kernel
theorem ck_5 : ckL 5 (exL 5 5 []) none = true := by decide +kernel
theorem ck_6 : ckL 6 (exL 6 6 []) none = true := by decide +kernel
theorem ck_70 : ckL 7 (exL 7 6 [0]) (some [1, 0, 2, 3, 4, 5, 6]) = true ∧ (exL 7 6 [0]).head? = some [0, 1, 2, 3, 4, 5, 6] := by decide +kernel
theorem ck_71 : ckL 7 (exL 7 6 [1]) (some [2, 0, 1, 3, 4, 5, 6]) = true ∧ (exL 7 6 [1]).head? = some [1, 0, 2, 3, 4, 5, 6] := by decide +kernel
theorem ck_72 : ckL 7 (exL 7 6 [2]) (some [3, 0, 1, 2, 4, 5, 6]) = true ∧ (exL 7 6 [2]).head? = some [2, 0, 1, 3, 4, 5, 6] := by decide +kernel
theorem ck_73 : ckL 7 (exL 7 6 [3]) (some [4, 0, 1, 2, 3, 5, 6]) = true ∧ (exL 7 6 [3]).head? = some [3, 0, 1, 2, 4, 5, 6] := by decide +kernel
theorem ck_74 : ckL 7 (exL 7 6 [4]) (some [5, 0, 1, 2, 3, 4, 6]) = true ∧ (exL 7 6 [4]).head? = some [4, 0, 1, 2, 3, 5, 6] := by decide +kernel
theorem ck_75 : ckL 7 (exL 7 6 [5]) (some [6, 0, 1, 2, 3, 4, 5]) = true ∧ (exL 7 6 [5]).head? = some [5, 0, 1, 2, 3, 4, 6] := by decide +kernel
theorem ck_76 : ckL 7 (exL 7 6 [6]) (none) = true ∧ (exL 7 6 [6]).head? = some [6, 0, 1, 2, 3, 4, 5] := by decide +kernel
theorem head_cons {L : List (List Nat)} {b : List Nat} (h : L.head? = some b) : ∃ B, L = b :: B := by
  cases L with
  | nil => cases h
  | cons x r => exact ⟨r, by simp at h; rw [h]⟩
theorem ck_glue {n : Nat} {e : Option (List Nat)} {A L : List (List Nat)} {b : List Nat} (hA : ckL n A (some b) = true) (hL : ckL n L e = true) (hh : L.head? = some b) : ckL n (A ++ L) e = true := by
  obtain ⟨B, rfl⟩ := head_cons hh
  exact ck_app hL A hA
theorem head_app {A L : List (List Nat)} {b : List Nat} (h : A.head? = some b) : (A ++ L).head? = some b := by
  obtain ⟨B, rfl⟩ := head_cons h
  rfl
theorem ck_7 : ckL 7 (exL 7 7 []) none = true := by
  have e : exL 7 7 [] = exL 7 6 [0] ++ (exL 7 6 [1] ++ (exL 7 6 [2] ++ (exL 7 6 [3] ++ (exL 7 6 [4] ++ (exL 7 6 [5] ++ (exL 7 6 [6] ++ [])))))) := rfl
  rw [e, List.append_nil]
  refine ck_glue ck_70.1 (ck_glue ck_71.1 (ck_glue ck_72.1 (ck_glue ck_73.1 (ck_glue ck_74.1 (ck_glue ck_75.1 ck_76.1 ck_76.2) (head_app ck_75.2)) (head_app ck_74.2)) (head_app ck_73.2)) (head_app ck_72.2)) (head_app ck_71.2)
theorem ck_all {n : Nat} (h1 : 1 ≤ n) (h7 : n ≤ 7) : ckL n (exL n n []) none = true := by
  rcases (show n = 1 ∨ n = 2 ∨ n = 3 ∨ n = 4 ∨ n = 5 ∨ n = 6 ∨ n = 7 by omega) with rfl | rfl | rfl | rfl | rfl | rfl | rfl
  · exact ck_1
  · exact ck_2
  · exact ck_3
  · exact ck_4
  · exact ck_5
  · exact ck_6
  · exact ck_7
theorem ex_first : ∀ n, 1 ≤ n → n ≤ 7 → (exL n n []).head? = some (List.range' 0 n) := by
  intro n h1 h7
  rcases (show n = 1 ∨ n = 2 ∨ n = 3 ∨ n = 4 ∨ n = 5 ∨ n = 6 ∨ n = 7 by omega) with rfl | rfl | rfl | rfl | rfl | rfl | rfl
  · decide +kernel
  · decide +kernel
  · decide +kernel
  · decide +kernel
  · decide +kernel
  · decide +kernel
  · have e : exL 7 7 [] = exL 7 6 [0] ++ (exL 7 6 [1] ++ (exL 7 6 [2] ++ (exL 7 6 [3] ++ (exL 7 6 [4] ++ (exL 7 6 [5] ++ (exL 7 6 [6] ++ [])))))) := rfl
    rw [e]
    exact head_app ck_70.2
theorem ex_ok (n : Nat) : ∀ (m : Nat) (p q : List Nat), (∀ x ∈ p, x < n) → q ∈ exL n m p → q.length = p.length + m ∧ ∀ x ∈ q, x < n
  | 0, p, q, hp, hq => by
    simp only [exL, List.mem_singleton] at hq
    subst hq
    exact ⟨rfl, hp⟩
  | m + 1, p, q, hp, hq => by
    simp only [exL, List.mem_flatMap] at hq
    obtain ⟨i, hi, hq⟩ := hq
    have hin : i < n := by
      rw [List.mem_range'] at hi
      obtain ⟨j, hj, e⟩ := hi
      omega
    split at hq
    · cases hq
    · have := ex_ok n m (p ++ [i]) q (fun x hx => by
        rcases List.mem_append.mp hx with z | z
        · exact hp x z
        · rw [List.mem_singleton] at z; omega) hq
      refine ⟨?_, this.2⟩
      rw [this.1]
      simp
      omega

/-! ===== what each call answers, and the state behind it ===== -/
def LO1 : Int64 := -1000000000000000001
def LO2 : Int64 := -1000000000000000002
def LO6 : Int64 := -1000000000000000006
def pu_set (X : stP) (a b : Int32) : Int32 × stP :=
  if a = 0 ∧ ¬ b < 1 ∧ ¬ 4 < b then (nI (pD X.2.1), X.1, wD X.2.1 b.toNatClampNeg, X.2.2)
  else if a = 1 ∧ ¬ b < 0 ∧ ¬ 3 < b then (nI (pW X.2.1), X.1, wW X.2.1 b.toNatClampNeg, X.2.2) else (-2, X)
def pu_round (X : stP) (a b c : Int32) : Int64 :=
  if ¬ a < -1000000 ∧ ¬ 1000000 < a ∧ ¬ b < 1 ∧ ¬ 1000000 < b ∧ ¬ c < -9 ∧ c ≤ 9 then Int64.ofInt (rndF (pD X.2.1) (pW X.2.1) false (decide (a.toInt < 0)) a.toInt.natAbs b.toInt.toNat (c.toInt + 9)) else LO2
def pu_say (X : stP) (s : Int32) : Int32 × stP :=
  if ¬ s < 33 ∧ s ≤ 126 then (if X.1.length < 20 then (nI (X.1.length + 1), X.1 ++ [s], X.2) else (-4, X)) else (-2, X)
def pu_wipe (X : stP) : Int32 × stP := (nI X.1.length, [], X.2)
def faF : List Int32 → Nat → Nat → Int32
  | [], i, o => if o = 0 then -6 else nI i
  | c :: r, i, o => if 13 ≤ i ∨ o = 0 then nI i else if isOpB c then faF r (i + 1) (o + 1) else if isLetB c || isDigB c then faF r (i + 1) (o - 1) else nI i
def pu_fault (X : stP) : Int32 := faF X.1 0 1
def pu_text (X : stP) : Int32 × stP := if pu_fault X = -6 then (nI X.1.length, [], wT X.2.1 X.1, X.2.2) else (-5, X)
/-- there is such a step -/
def hasP (X : stP) (s : Int32) : Prop := 0 ≤ s ∧ s < nI (pT X.2.1).length
def pu_sign (X : stP) (s : Int32) : Int32 := if 0 ≤ s ∧ s < nI (pT X.2.1).length then rw' (pT X.2.1) s.toNatClampNeg else -1
def pu_put (X : stP) (l w v : Int32) : Int32 × stP :=
  if ¬ l < 0 ∧ l < 5 then
    (if w = 0 ∧ ¬ v < -99 ∧ ¬ 99 < v then (pNu X.2.1 l.toNatClampNeg + 100, X.1, wNu X.2.1 (upd (pNu X.2.1) l.toNatClampNeg v), X.2.2)
     else if w = 1 ∧ ¬ v < 0 ∧ ¬ 5 < v then (pSp X.2.1 l.toNatClampNeg, X.1, wSp X.2.1 (upd (pSp X.2.1) l.toNatClampNeg v), X.2.2) else (-2, X))
  else (-2, X)
abbrev pwk (X : stP) (i : Nat) : Int64 := wkF (pD X.2.1) (pW X.2.1) (pNu X.2.1) (rw' (pT X.2.1)) (pT X.2.1).length i
abbrev psl (X : stP) (i : Nat) : Int64 := slF (pD X.2.1) (pW X.2.1) (pNu X.2.1) (rw' (pT X.2.1)) (pT X.2.1).length i
abbrev pfr (X : stP) (i : Nat) : Int × Int := frC (pNu X.2.1) (rw' (pT X.2.1)) (pT X.2.1).length i
def pu_worked (X : stP) (s w : Int32) : Int64 :=
  if 0 ≤ s ∧ s < nI (pT X.2.1).length then
    (if ¬ w < 0 ∧ w ≤ 2 then (if w = 1 then Int64.ofInt (biF (-1) (pfr X s.toNatClampNeg).1 (pfr X s.toNatClampNeg).2) else if w = 0 then pwk X s.toNatClampNeg else psl X s.toNatClampNeg) else LO2)
  else LO1
def pu_exact (X : stP) (p : Int32) : Int64 :=
  if ¬ p < 0 ∧ p ≤ 1 then (if (pfr X 0).2 = 0 then 1000000000000000000 else if p = 0 then Int64.ofInt (nzF (pfr X 0).1 (pfr X 0).2).1 else Int64.ofInt (nzF (pfr X 0).1 (pfr X 0).2).2) else LO2
def pu_loss (X : stP) : Int64 := loF (pD X.2.1) (pW X.2.1) (pNu X.2.1) (rw' (pT X.2.1)) (pT X.2.1).length
def wsF (sl : Nat → Int64) : Nat → Nat → Int32 → Int64 → Int32
  | 0, _, b, _ => b
  | m + 1, i, b, mo => if absL (sl i) ≤ mo then wsF sl m (i + 1) b mo else wsF sl m (i + 1) (nI i) (absL (sl i))
def pu_worst (X : stP) : Int32 := if pwk X 0 = 1000000000000000000 then -3 else wsF (psl X) (pT X.2.1).length 0 (-6) 0
def ndF (lo : Nat → Int64) (tr : Int64) : Nat → Nat → Int32
  | 0, _ => -6
  | m + 1, k => if lo k = 1000000000000000000 then ndF lo tr m (k + 1) else if tr < absL (lo k) then ndF lo tr m (k + 1) else nI k
def pu_needs (X : stP) (tr : Int64) : Int32 := if 0 ≤ tr then ndF (fun k => loF k (pW X.2.1) (pNu X.2.1) (rw' (pT X.2.1)) (pT X.2.1).length) tr 4 1 else -2
abbrev ptd (X : stP) (y : Int64) : Int64 := Int64.ofInt (rndF (pD X.2.1) (pW X.2.1) false (decide (y.toInt < 0)) y.toInt.natAbs 1 0)
def pu_term (X : stP) (y : Int64) : Int32 × stP :=
  if ¬ y ≤ -10000000000000000 ∧ y < 10000000000000000 then
    (if ptd X y = 1000000000000000000 then (-2, X) else if pN X.2.1 < 7 then (nI (pN X.2.1 + 1), X.1, wTe X.2.1 (vp_updL (pTe X.2.1) (pN X.2.1) (ptd X y)) (pN X.2.1 + 1), X.2.2) else (-4, X))
  else (-2, X)
def pu_clear (X : stP) : Int32 × stP := (nI (pN X.2.1), X.1, wTe X.2.1 (pTe X.2.1) 0, X.2.2)
def pu_about (X : stP) (t : Int32) : Int64 := if 0 ≤ t ∧ t < nI (pN X.2.1) then pTe X.2.1 t.toNatClampNeg else LO1
def pu_sum (X : stP) (w : Int32) : Int64 :=
  if ¬ w < 0 ∧ w ≤ 4 then
    (if pN X.2.1 = 0 then LO6 else if w = 0 then smA (pD X.2.1) (pW X.2.1) (pTe X.2.1) id 0 (pN X.2.1) else if w = 1 then bsF (pD X.2.1) (pW X.2.1) (pTe X.2.1) (pN X.2.1) 0 0 0
     else if w = 2 then hfF (pD X.2.1) (pW X.2.1) (pTe X.2.1) 3 0 (pN X.2.1) else if w = 3 then smA (pD X.2.1) (pW X.2.1) (pTe X.2.1) (bzF (pTe X.2.1) (pN X.2.1)) 0 (pN X.2.1) else whF (pTe X.2.1) (pN X.2.1))
  else LO2
abbrev por (X : stP) (m : Nat) : oA := orG (pD X.2.1) (pW X.2.1) (pTe X.2.1) (pN X.2.1) m
def pu_orders (X : stP) (m : Int32) : Int64 := if ¬ m < 0 ∧ m ≤ 1 then (if nI (por X m.toNatClampNeg).1 = 0 then LO6 else (por X m.toNatClampNeg).2.1) else LO2
def pu_order (X : stP) (m i : Int32) : Int32 :=
  if ¬ m < 0 ∧ m ≤ 1 then (if nI (por X m.toNatClampNeg).1 = 0 then -6 else if i = -1 then nI (por X m.toNatClampNeg).1 else if 0 ≤ i ∧ i < nI (pN X.2.1) then nI ((por X m.toNatClampNeg).2.2.getD i.toNatClampNeg 0) else -6) else -2
abbrev pbo (X : stP) : spT := spF (pD X.2.1) (pNu X.2.1) (pSp X.2.1) (rw' (pT X.2.1)) (pT X.2.1).length 0
def pu_bounds (X : stP) (e : Int32) : Int64 := if ¬ e < 0 ∧ e ≤ 1 then (if e = 0 then (pbo X).1 else (pbo X).2) else LO2
/-- the answer of truth -/
def pr_truth (X : stP) (e : Int32) (y : Int64) : Prop := if ¬ e < 0 ∧ e ≤ 1 then ∃ V : Int, y = Int64.ofInt V ∧ TrOk (pNu X.2.1) (rw' (pT X.2.1)) (pT X.2.1).length (pWd X.2.1) (e.toNatClampNeg : Nat) V else y = LO2
abbrev pok (X : stP) (r s : Int32) : Bool := okR r.toNatClampNeg (rw' (pT X.2.1)) (pT X.2.1).length s.toNatClampNeg
abbrev pwr (X : stP) (r s : Int32) : List Int32 := wrL r.toNatClampNeg (rw' (pT X.2.1)) (pT X.2.1).length s.toNatClampNeg
def pu_fits (X : stP) (r s : Int32) : Int32 := if 0 ≤ s ∧ s < nI (pT X.2.1).length then (if ¬ r < 0 ∧ r < 7 then bI (pok X r s) else -2) else -1
def pu_change (X : stP) (r s : Int32) : Int32 × stP :=
  if 0 ≤ s ∧ s < nI (pT X.2.1).length then (if ¬ r < 0 ∧ r < 7 then (if pok X r s = true then (nI (pwr X r s).length, X.1, wT X.2.1 (pwr X r s), X.2.2) else (-5, X)) else (-2, X)) else (-1, X)
abbrev pbt (X : stP) (r : Int32) : bA := btF (pD X.2.1) (pW X.2.1) (pNu X.2.1) r.toNatClampNeg (pT X.2.1)
def beA : bA → Int64
  | none => LO6
  | some (l, _) => l
def beS (i : Int32) : bA → Int32
  | none => -6
  | some (_, U) => if i = -1 then nI U.length else if 0 ≤ i ∧ i < nI U.length then rw' U i.toNatClampNeg else -6
def pu_better (X : stP) (r : Int32) : Int64 := if ¬ r < 0 ∧ r ≤ 2 then beA (pbt X r) else LO2
def pu_betterSign (X : stP) (r i : Int32) : Int32 := if ¬ r < 0 ∧ r ≤ 2 then beS i (pbt X r) else -2
def pu_image (X : stP) (n : Int32) : Int32 × stP := if n = 0 then (1, X.1, X.2.1, some X.2.1, X.2.2.2) else if n = 1 then (1, X.1, X.2.1, X.2.2.1, some X.2.1) else (-2, X)
def reS (X : stP) : Option pgP → Int32 × stP
  | none => (-3, X)
  | some Q => (1, X.1, Q, X.2.2)
def pu_restore (X : stP) (n : Int32) : Int32 × stP := if n = 0 then reS X X.2.2.1 else if n = 1 then reS X X.2.2.2 else (-2, X)
def pu_told (X : stP) (w : Int32) : Int32 :=
  if ¬ w < 10 ∧ w < 15 then pNu X.2.1 (w - 10).toNatClampNeg + 100 else if ¬ w < 20 ∧ w < 25 then pSp X.2.1 (w - 20).toNatClampNeg
  else if w = 0 then nI X.1.length else if w = 1 then nI (pT X.2.1).length else if w = 2 then nI (pD X.2.1) else if w = 3 then nI (pW X.2.1) else if w = 4 then nI (pN X.2.1) else -2
-- rows of signs
theorem rw_app_l {L M : List Int32} {i : Nat} (hi : i < L.length) : rw' (L ++ M) i = rw' L i := by
  unfold rw'
  simp [List.getD, List.getElem?_append_left hi]
theorem rw_app_r {L : List Int32} {s : Int32} : rw' (L ++ [s]) L.length = s := by
  unfold rw'
  simp
theorem dropc {L : List Int32} {c : Int32} {r : List Int32} {i : Nat} (h : L.drop i = c :: r) : i < L.length ∧ rw' L i = c ∧ L.drop (i + 1) = r := by
  have hi : i < L.length := by
    rcases Nat.lt_or_ge i L.length with q | q
    · exact q
    · rw [List.drop_eq_nil_of_le q] at h; cases h
  rw [List.drop_eq_getElem_cons hi] at h
  injection h with h1 h2
  refine ⟨hi, ?_, h2⟩
  unfold rw'
  simp [hi, h1]
theorem in_n {p : Int32} {n : Nat} (hn : n < 2 ^ 31) (h : 0 ≤ p ∧ p < nI n) : ∃ j : Nat, j < n ∧ p = nI j := by
  refine vp_in_of (vp_in_iff.mpr ?_) hn
  rw [Int32.le_iff_toInt_le, Int32.lt_iff_toInt_lt, nI_toInt hn] at h
  simpa using h
theorem nI_in2 {j n : Nat} (h : j < n) (hn : n < 2 ^ 31) : 0 ≤ nI j ∧ nI j < nI n := ⟨nI_pos' (by omega), nI_lt h hn⟩
theorem faF_ok : ∀ (L : List Int32) (i o : Nat), i ≤ 20 → faF L i o = -6 → cnt L o = some 0 ∧ L.all sgB = true ∧ (L = [] ∨ i + L.length ≤ 13)
  | [], i, o, hi, h => by
    unfold faF at h
    by_cases e : o = 0
    · subst e; exact ⟨rfl, rfl, Or.inl rfl⟩
    · rw [if_neg e] at h
      exact absurd h ((show ∀ i, i ≤ 20 → ¬ nI i = -6 by decide +kernel) i hi)
  | c :: r, i, o, hi, h => by
    have ng : ¬ nI i = -6 := (show ∀ i, i ≤ 20 → ¬ nI i = -6 by decide +kernel) i hi
    unfold faF at h
    by_cases e : 13 ≤ i ∨ o = 0
    · rw [if_pos e] at h; exact absurd h ng
    rw [if_neg e] at h
    obtain ⟨o', rfl⟩ : ∃ o', o = o' + 1 := ⟨o - 1, by omega⟩
    by_cases q : isOpB c = true
    · rw [if_pos q] at h
      obtain ⟨h1, h2, h3⟩ := faF_ok r (i + 1) (o' + 1 + 1) (by omega) h
      refine ⟨by simp only [cnt, if_pos q]; exact h1, by simp [sgB, q, h2], Or.inr ?_⟩
      rcases h3 with rfl | h3
      · simp only [List.length_cons, List.length_nil]; omega
      · simp only [List.length_cons]; omega
    · rw [if_neg q] at h
      by_cases q2 : (isLetB c || isDigB c) = true
      · rw [if_pos q2] at h
        obtain ⟨h1, h2, h3⟩ := faF_ok r (i + 1) (o' + 1 - 1) (by omega) h
        refine ⟨by simp only [cnt, if_neg q]; exact h1, by rw [List.all_cons, h2]; simp [sgB, q2], Or.inr ?_⟩
        rcases h3 with rfl | h3
        · simp only [List.length_cons, List.length_nil]; omega
        · simp only [List.length_cons]; omega
      · rw [if_neg q2] at h; exact absurd h ng
/-- a pad without a fault is a text -/
theorem fault_ok {L : List Int32} (h : faF L 0 1 = -6) : TxL L ∧ L.length ≤ 13 := by
  obtain ⟨h1, h2, h3⟩ := faF_ok L 0 1 (by decide) h
  have h13 : L.length ≤ 13 := by
    rcases h3 with rfl | h3
    · simp
    · omega
  exact ⟨TxV.of h1 h13 h2, h13⟩

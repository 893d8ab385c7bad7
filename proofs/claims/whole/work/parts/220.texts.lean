/-! ===== texts: what is a text, its parts, what is worked over it ===== -/
/-- t's first n signs are a text; o i: how many texts are still due at i -/
def valO (o : Nat → Nat) (t : Nat → Int32) (n : Nat) : Prop := o 0 = 1 ∧ o n = 0 ∧ ∀ i, i < n → 1 ≤ o i ∧ o (i + 1) = (if isOpB (t i) then o i + 1 else o i - 1)
def szF (t : Nat → Int32) : Nat → Nat → Nat
  | 0, _ => 1
  | f + 1, i => if isOpB (t i) then 1 + szF t f (i + 1) + szF t f (i + 1 + szF t f (i + 1)) else 1
/-- how many signs the part that begins at i has -/
def sz (t : Nat → Int32) (n i : Nat) : Nat := szF t n i
theorem szF_leaf {t : Nat → Int32} {f i : Nat} (h : isOpB (t i) = false) : szF t f i = 1 := by
  cases f <;> simp [szF, h]
theorem szF_pos (t : Nat → Int32) : ∀ f i, 1 ≤ szF t f i
  | 0, i => by simp [szF]
  | f + 1, i => by
    simp only [szF]
    split <;> omega
section VAL
variable {o : Nat → Nat} {t : Nat → Int32} {n : Nat}
theorem val_core (hv : valO o t n) : ∀ m i, i + m = n → i < n → (i + szF t n i ≤ n ∧ o (i + szF t n i) + 1 = o i) ∧ ∀ f, m ≤ f → szF t f i = szF t m i := by
  have key : ∀ m, (∀ m', m' < m → ∀ i, i + m' = n → i < n → (i + szF t m' i ≤ n ∧ o (i + szF t m' i) + 1 = o i) ∧ ∀ f, m' ≤ f → szF t f i = szF t m' i) → ∀ i, i + m = n → i < n → (i + szF t m i ≤ n ∧ o (i + szF t m i) + 1 = o i) ∧ ∀ f, m ≤ f → szF t f i = szF t m i := by
    intro m ih i hi hlt
    obtain ⟨o1, o2⟩ := hv.2.2 i hlt
    cases m with
    | zero => omega
    | succ m =>
      by_cases c : isOpB (t i) = true
      · rw [if_pos c] at o2
        have h1 : i + 1 < n := by
          rcases Nat.lt_or_ge (i + 1) n with z | z
          · exact z
          · have : i + 1 = n := by omega
            rw [this, hv.2.1] at o2
            omega
        obtain ⟨⟨p1, p2⟩, p3⟩ := ih m (by omega) (i + 1) (by omega) h1
        have hpos := szF_pos t m (i + 1)
        have h2 : i + 1 + szF t m (i + 1) < n := by
          rcases Nat.lt_or_ge (i + 1 + szF t m (i + 1)) n with z | z
          · exact z
          · have : i + 1 + szF t m (i + 1) = n := by omega
            rw [this, hv.2.1] at p2
            omega
        generalize hq : i + 1 + szF t m (i + 1) = q at *
        obtain ⟨⟨q1, q2⟩, q3⟩ := ih (n - q) (by omega) q (by omega) h2
        have e1 : szF t m q = szF t (n - q) q := q3 m (by omega)
        have e2 : szF t (m + 1) i = 1 + szF t m (i + 1) + szF t m q := by simp only [szF, c, if_true, hq]
        refine ⟨?_, fun f hf => ?_⟩
        · have e3 : i + szF t (m + 1) i = q + szF t (n - q) q := by rw [e2, e1]; omega
          rw [e3]
          exact ⟨q1, by omega⟩
        · cases f with
          | zero => omega
          | succ f =>
            have f1 := p3 f (by omega)
            simp only [szF, c, if_true, f1, hq]
            rw [q3 f (by omega), q3 m (by omega)]
      · have c : isOpB (t i) = false := by cases hh : isOpB (t i); rfl; exact absurd hh c
        rw [c] at o2
        simp at o2
        refine ⟨?_, fun f _ => by rw [szF_leaf c, szF_leaf c]⟩
        rw [szF_leaf c]
        exact ⟨by omega, by omega⟩
  have all : ∀ m i, i + m = n → i < n → (i + szF t m i ≤ n ∧ o (i + szF t m i) + 1 = o i) ∧ ∀ f, m ≤ f → szF t f i = szF t m i := by
    intro m
    induction m using Nat.strongRecOn with
    | ind m ih => exact key m ih
  intro m i hi hlt
  obtain ⟨a, b⟩ := all m i hi hlt
  exact ⟨by rw [b n (by omega)]; exact a, b⟩
theorem sz_le (hv : valO o t n) {i : Nat} (hi : i < n) : i + sz t n i ≤ n := (val_core hv (n - i) i (by omega) hi).1.1
theorem sz_o (hv : valO o t n) {i : Nat} (hi : i < n) : o (i + sz t n i) + 1 = o i := (val_core hv (n - i) i (by omega) hi).1.2
theorem sz_pos (t : Nat → Int32) (n i : Nat) : 1 ≤ sz t n i := szF_pos t n i
theorem sz_leaf {i : Nat} (h : isOpB (t i) = false) : sz t n i = 1 := szF_leaf h
/-- behind an operator begin two parts -/
theorem op_in (hv : valO o t n) {i : Nat} (hi : i < n) (c : isOpB (t i) = true) : i + 1 < n ∧ i + 1 + sz t n (i + 1) < n := by
  obtain ⟨o1, o2⟩ := hv.2.2 i hi
  rw [if_pos c] at o2
  have h1 : i + 1 < n := by
    rcases Nat.lt_or_ge (i + 1) n with z | z
    · exact z
    · have : i + 1 = n := by omega
      rw [this, hv.2.1] at o2
      omega
  refine ⟨h1, ?_⟩
  have p1 := sz_le hv h1
  have p2 := sz_o hv h1
  rcases Nat.lt_or_ge (i + 1 + sz t n (i + 1)) n with z | z
  · exact z
  · have : i + 1 + sz t n (i + 1) = n := by omega
    rw [this, hv.2.1] at p2
    omega
theorem sz_op (hv : valO o t n) {i : Nat} (hi : i < n) (c : isOpB (t i) = true) : sz t n i = 1 + sz t n (i + 1) + sz t n (i + 1 + sz t n (i + 1)) := by
  obtain ⟨h1, h2⟩ := op_in hv hi c
  obtain ⟨k, hk⟩ : ∃ k, n = k + 1 := ⟨n - 1, by omega⟩
  have e : szF t n i = 1 + szF t k (i + 1) + szF t k (i + 1 + szF t k (i + 1)) := by rw [hk]; simp only [szF, c, if_true]
  have f1 : szF t k (i + 1) = sz t n (i + 1) := by
    have b := (val_core hv (n - (i + 1)) (i + 1) (by omega) h1).2
    unfold sz
    rw [b k (by omega), b n (by omega)]
  unfold sz at *
  rw [e, f1]
  congr 1
  have b := (val_core hv (n - (i + 1 + szF t n (i + 1))) (i + 1 + szF t n (i + 1)) (by omega) h2).2
  rw [b k (by omega), b n (by omega)]
end VAL
/-- what is worked over a text: from leaves on, by its operators -/
def evF {α : Type} (leaf : Int32 → α) (op : Int32 → α → α → α) (t : Nat → Int32) (z : Nat → Nat) : Nat → Nat → α
  | 0, i => leaf (t i)
  | f + 1, i => if isOpB (t i) then op (t i) (evF leaf op t z f (i + 1)) (evF leaf op t z f (i + 1 + z (i + 1))) else leaf (t i)
def ev {α : Type} (leaf : Int32 → α) (op : Int32 → α → α → α) (t : Nat → Int32) (n i : Nat) : α := evF leaf op t (sz t n) n i
section EV
variable {α : Type} {leaf : Int32 → α} {op : Int32 → α → α → α} {o : Nat → Nat} {t : Nat → Int32} {n : Nat}
theorem ev_leaf {i : Nat} (h : isOpB (t i) = false) : ev leaf op t n i = leaf (t i) := by
  unfold ev
  cases n <;> simp [evF, h]
theorem evF_fuel (hv : valO o t n) : ∀ m i, i + m = n → i < n → ∀ f, m ≤ f → evF leaf op t (sz t n) f i = evF leaf op t (sz t n) m i := by
  intro m
  induction m using Nat.strongRecOn with
  | ind m ih =>
    intro i hi hlt f hf
    cases m with
    | zero => omega
    | succ m =>
      cases f with
      | zero => omega
      | succ f =>
        simp only [evF]
        split
        · next c =>
          obtain ⟨h1, h2⟩ := op_in hv hlt c
          have hp := sz_pos t n (i + 1)
          rw [ih m (by omega) (i + 1) (by omega) h1 f (by omega)]
          generalize hq : i + 1 + sz t n (i + 1) = q at *
          rw [ih (n - q) (by omega) q (by omega) h2 f (by omega), ih (n - q) (by omega) q (by omega) h2 m (by omega)]
        · rfl
theorem ev_op (hv : valO o t n) {i : Nat} (hi : i < n) (c : isOpB (t i) = true) : ev leaf op t n i = op (t i) (ev leaf op t n (i + 1)) (ev leaf op t n (i + 1 + sz t n (i + 1))) := by
  obtain ⟨h1, h2⟩ := op_in hv hi c
  have hp := sz_pos t n (i + 1)
  obtain ⟨k, hk⟩ : ∃ k, n = k + 1 := ⟨n - 1, by omega⟩
  have e : evF leaf op t (sz t n) n i = op (t i) (evF leaf op t (sz t n) k (i + 1)) (evF leaf op t (sz t n) k (i + 1 + sz t n (i + 1))) := by
    have : ∀ f, f = k + 1 → evF leaf op t (sz t n) f i = op (t i) (evF leaf op t (sz t n) k (i + 1)) (evF leaf op t (sz t n) k (i + 1 + sz t n (i + 1))) := by
      rintro f rfl
      simp only [evF, c, if_true]
    exact this n hk
  unfold ev
  rw [e]
  have b1 := evF_fuel (leaf := leaf) (op := op) hv (n - (i + 1)) (i + 1) (by omega) h1
  generalize hq : i + 1 + sz t n (i + 1) = q at *
  have b2 := evF_fuel (leaf := leaf) (op := op) hv (n - q) q (by omega) h2
  rw [b1 k (by omega), b1 n (by omega), b2 k (by omega), b2 n (by omega)]
/-- from the right to the left -/
theorem right_ind {P : Nat → Prop} (n : Nat) (h : ∀ i, i < n → (∀ j, i < j → j < n → P j) → P i) : ∀ i, i < n → P i := by
  have key : ∀ m i, i + m = n → i < n → P i := by
    intro m
    induction m using Nat.strongRecOn with
    | ind m ih =>
      intro i hi hlt
      exact h i hlt (fun j h1 h2 => ih (n - j) (by omega) j (by omega) h2)
  intro i hi
  exact key (n - i) i (by omega) hi
/-- a property of leaves that operators keep is a property of every part -/
theorem ev_all {P : α → Prop} (hv : valO o t n) (hl : ∀ i, i < n → isOpB (t i) = false → P (leaf (t i))) (ho : ∀ i a b, i < n → isOpB (t i) = true → P a → P b → P (op (t i) a b)) : ∀ i, i < n → P (ev leaf op t n i) := by
  refine right_ind n (fun i hi ih => ?_)
  cases c : isOpB (t i)
  · rw [ev_leaf c]; exact hl i hi c
  · obtain ⟨h1, h2⟩ := op_in hv hi c
    rw [ev_op hv hi c]
    exact ho i _ _ hi c (ih _ (by omega) h1) (ih _ (by have := sz_pos t n (i + 1); omega) h2)
end EV

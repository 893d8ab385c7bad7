/-! ===== the reference's orders ===== -/
theorem st_getD {q : List Nat} {a j x : Nat} (ha : a < q.length) : (q.set a x).getD j 0 = if j = a then x else q.getD j 0 := by
  rw [List.getD_eq_getElem?_getD, List.getD_eq_getElem?_getD, List.getElem?_set]
  by_cases e : a = j
  · subst e
    rw [if_pos rfl, if_pos ha, if_pos rfl]
    rfl
  · rw [if_neg e, if_neg (fun z => e z.symm)]
theorem swL_len (q : List Nat) (a b : Nat) : (swL q a b).length = q.length := by simp [swL]
theorem swL_getD {q : List Nat} {a b j : Nat} (ha : a < q.length) (hb : b < q.length) : (swL q a b).getD j 0 = if j = b then q.getD a 0 else if j = a then q.getD b 0 else q.getD j 0 := by
  unfold swL
  rw [st_getD (by simpa using hb), st_getD ha]
section MORD
variable {d : Nat} {h : fH} {D W n : Nat} {T : Nat → Int64}
/-- the reference's order is the list p -/
def MOl (h : fH) (p : List Nat) (n : Nat) : Prop := p.length = n ∧ ∀ j, j < n → h.2.2.1 14 j = nI (p.getD j 0) ∧ p.getD j 0 < n
theorem MOl.sw {h g : fH} {p : List Nat} {n a b : Nat} (m : MOl h p n) (ha : a < n) (hb : b < n) (e : g.2.2.1 14 = upd (upd (h.2.2.1 14) a (h.2.2.1 14 b)) b (h.2.2.1 14 a)) : MOl g (swL p a b) n := by
  obtain ⟨m1, m2⟩ := m
  refine ⟨by rw [swL_len]; exact m1, fun j hj => ?_⟩
  rw [e, swL_getD (by omega) (by omega)]
  by_cases e1 : j = b
  · subst e1
    rw [upd_s, if_pos rfl]
    exact m2 a ha
  · rw [upd_n _ _ e1, if_neg e1]
    by_cases e2 : j = a
    · subst e2
      rw [upd_s, if_pos rfl]
      exact m2 b hb
    · rw [upd_n _ _ e2, if_neg e2]
      exact m2 j hj
theorem s_nextOrder {p : List Nat} (t : MTm h T n) (hn : 1 ≤ n) (m : MOl h p n) : OkI d mX12_nextOrder SM [.ref 1] h (fun v k => v = bI (nxL n p).isSome ∧ (∀ q, nxL n p = some q → MOl k q n) ∧ mF fOr h k) := by
  have h7 := t.2.1
  have en1 : nI n - 1 = nI (n - 1) := pk_sub (b := 1) hn
  have cmp : ∀ (g : fH) (q : List Nat) (a b : Nat), MOl g q n → a < n → b < n → ((g.2.2.1 14 a ≤ g.2.2.1 14 b) ↔ q.getD a 0 ≤ q.getD b 0) := by
    intro g q a b mq ha hb
    have p1 := mq.2 a ha
    have p2 := mq.2 b hb
    rw [p1.1, p2.1]
    exact nI_leI (by omega) (by omega)
  -- turning round
  have rev : ∀ (f : Nat) (q : List Nat) (a b : Nat) (g : fH), MOl g q n → mF fOr h g → 1 ≤ a → a ≤ 20 - f → b < n → b < a + 2 * f → f ≤ 7 → (nxL n p = some (noR f q a b)) → G mX12_nextOrder d SM (f_PI (fun v k => v = bI (nxL n p).isSome ∧ (∀ q, nxL n p = some q → MOl k q n) ∧ mF fOr h k)) 107 [(0, .ref 1), (4, .int (nI a)), (5, .int (nI b))] [] g := by
    intro f
    induction f with
    | zero =>
      intro q a b g mq hf ha ha2 hb hab hf7 he
      refine NX12_nextOrder_107 hM hM14 ⟨fun _ => ⟨by rw [he]; rfl, fun q' e => ?_, hf⟩, fun z => absurd (nI_le (by omega) (by omega)) z⟩
      rw [he] at e
      cases e
      exact mq
    | succ f ih =>
      intro q a b g mq hf ha ha2 hb hab hf7 he
      by_cases c : b ≤ a
      · have e2 : noR (f + 1) q a b = q := by simp only [noR, if_pos c]
        rw [e2] at he
        refine NX12_nextOrder_107 hM hM14 ⟨fun _ => ⟨by rw [he]; rfl, fun q' e => ?_, hf⟩, fun z => absurd (nI_le c (by omega)) z⟩
        rw [he] at e
        cases e
        exact mq
      · have e2 : noR (f + 1) q a b = noR f (swL q a b) (a + 1) (b - 1) := by simp only [noR, if_neg c]
        rw [e2] at he
        refine NX12_nextOrder_107 hM hM14 ⟨fun z => absurd z (nI_ge (by omega) (by omega)), fun _ => ⟨vp_in_nI (by omega) (by decide), vp_in_nI (by omega) (by decide), ?_⟩⟩
        rw [nI_clamp (n := a) (by omega), nI_clamp (n := b) (by omega), nI1]
        rintro g1 rfl g2 hg2
        have eb : nI b + (-1) = nI (b - 1) := by
          obtain ⟨c, rfl⟩ : ∃ c, b = c + 1 := ⟨b - 1, by omega⟩
          rw [i_dn, i_pred]; rfl
        rw [eb]
        refine ih (swL q a b) (a + 1) (b - 1) g2 (mq.sw (by omega) hb ?_) ?_ (by omega) (by omega) (by omega) (by omega) (by omega) he
        · rw [hg2, u_ai_s, u_ai_s]
        · rw [hg2]; exact (hf.ai (by decide)).ai (by decide)
  -- the second place
  have sec : ∀ (i : Nat), i + 1 < n → p.getD i 0 ≤ p.getD (i + 1) 0 → noI p (n - 1) = some i → ∀ (k : Nat), i + 1 ≤ k → k < n → noJ p (p.getD i 0) k = noJ p (p.getD i 0) (n - 1) → G mX12_nextOrder d SM (f_PI (fun v k => v = bI (nxL n p).isSome ∧ (∀ q, nxL n p = some q → MOl k q n) ∧ mF fOr h k)) 47 [(0, .ref 1), (1, .int (nI i)), (2, .int (nI k))] [] h := by
    intro i hi hle hno k
    induction k with
    | zero => intro h1; omega
    | succ k ihk =>
      intro h1 h2 h3
      refine NX12_nextOrder_47 hM hM14 ⟨vp_in_nI (by omega) (by decide), vp_in_nI (by omega) (by decide), ?_⟩
      rw [nI_clamp (n := i) (by omega), nI_clamp (n := k + 1) (by omega), cmp h p i (k + 1) m (by omega) h2]
      refine ⟨fun z => ?_, fun z => ?_⟩
      · have ej : noJ p (p.getD i 0) (n - 1) = k + 1 := by rw [← h3]; simp only [noJ, if_pos z]
        rintro g1 rfl g2 hg2
        have hf2 : mF fOr h g2 := by rw [hg2]; exact (mF.rf.ai (by decide)).ai (by decide)
        rw [nI1, hf2.1 22 (by decide), t.1.1, en1]
        refine rev 7 (swL p i (k + 1)) (i + 1) (n - 1) g2 (m.sw (by omega) h2 ?_) hf2 (by omega) (by omega) (by omega) (by omega) (by decide) ?_
        · rw [hg2, u_ai_s, u_ai_s]
        · unfold nxL; rw [hno]; simp only [ej]
      · have hk : ¬ k = i := fun e => by subst e; exact z hle
        rw [i_dn, i_pred]
        exact ihk (by omega) (by omega) (by rw [← h3]; simp only [noJ, if_neg z])
  have fst : ∀ (k : Nat), k ≤ n - 1 → noI p k = noI p (n - 1) → G mX12_nextOrder d SM (f_PI (fun v k => v = bI (nxL n p).isSome ∧ (∀ q, nxL n p = some q → MOl k q n) ∧ mF fOr h k)) 7 [(0, .ref 1), (1, .int (Int32.ofInt ((k : Int) - 1)))] [] h := by
    intro k
    induction k with
    | zero =>
      intro _ he
      have en : nxL n p = none := by unfold nxL; rw [← he]; rfl
      refine NX12_nextOrder_7 hM hM14 ⟨fun _ => ⟨fun z => absurd z (by decide), fun _ => ⟨by rw [en]; rfl, (fun q e => by rw [en] at e; cases e), mF.rf⟩⟩, fun z => absurd (by decide) z⟩
    | succ k ihk =>
      intro hk he
      rw [i_pred]
      refine NX12_nextOrder_7 hM hM14 ⟨fun z => absurd z (nI_lt0 (by omega)), fun _ => ⟨vp_in_nI (by omega) (by decide), ?_⟩⟩
      rw [nI1]
      refine ⟨vp_in_nI (by omega) (by decide), ?_⟩
      rw [nI_clamp (n := k) (by omega), nI_clamp (n := k + 1) (by omega), cmp h p k (k + 1) m (by omega) (by omega), t.1.1]
      refine ⟨fun z => ⟨fun _ => ?_, fun y => absurd (nI_pos' (by omega)) y⟩, fun z => ?_⟩
      · have en : noI p (n - 1) = some k := by rw [← he]; simp only [noI, if_pos z]
        rw [en1]
        exact sec k (by omega) z en (n - 1) (by omega) (by omega) rfl
      · rw [i_dn]
        exact ihk (by omega) (by rw [← he]; simp only [noI, if_neg z])
  refine NX12_nextOrder_0 hM ?_
  rw [t.1.1]
  have e2 : nI n - 2 = Int32.ofInt (((n - 1 : Nat) : Int) - 1) := by
    rw [← nI_ofInt, show (2 : Int32) = Int32.ofInt 2 from rfl, ← Int32.ofInt_sub]
    congr 1
    omega
  rw [e2]
  exact fst (n - 1) (Nat.le_refl _) rfl
/-- the reference's best order so far -/
def MOa (h : fH) (n : Nat) (A : oA) : Prop := (h.1 1 25 = nI A.1 ∧ A.1 < 2 ^ 30) ∧ (¬ A.1 = 0 → h.2.1 1 24 = A.2.1 ∧ ∀ j, j < n → h.2.2.1 15 j = nI (A.2.2.getD j 0))
theorem MOa.of {h k : fH} {n : Nat} {A : oA} {p : fL} (a : MOa h n A) (b : mF p h k) (h1 : p.1.contains 25 = false) (h2 : p.2.1.contains 24 = false) (h3 : p.2.2.1.contains 15 = false) : MOa k n A :=
  ⟨⟨by rw [b.1 _ (nin_of h1)]; exact a.1.1, a.1.2⟩, fun z => ⟨by rw [b.2.1 _ (nin_of h2)]; exact (a.2 z).1, fun j hj => by rw [b.2.2.1 _ (nin_of h3)]; exact (a.2 z).2 j hj⟩⟩
theorem s_isBetter {A : oA} {l : Int64} {most : Nat} (hm : most ≤ 1) (a : MOa h n A) : OkI (d + 1) mX12_isBetter SM [.ref 1, .int (nI most), .long l] h (fun v k => v = bI (decide (A.1 = 0) || prB most l A.2.1) ∧ k = h) := by
  have e0 : (nI most = (0 : Int32)) ↔ most = 0 := nI_eq (b := 0) (by omega) (by decide)
  have hlt := a.1.2
  have c0 : (h.1 1 25 = (0 : Int32)) ↔ A.1 = 0 := by rw [a.1.1]; exact nI_eq (b := 0) (by omega) (by decide)
  refine NX12_isBetter_0 hM ?_
  rw [c0]
  refine ⟨fun z => ?_, fun z => ⟨by simp [z, bI], rfl⟩⟩
  rw [decide_eq_false z, Bool.false_or]
  refine ⟨_, s_size, ?_⟩
  rintro _ h ⟨rfl, rfl⟩
  refine ⟨_, s_size, ?_⟩
  rintro _ h ⟨rfl, rfl⟩
  rw [(a.2 z).1, e0]
  unfold prB
  have eqc : ∀ {x y : Int64}, x < y → ¬ x = y := fun q e => by subst e; exact absurd q (Int64.lt_irrefl)
  refine ⟨fun y => ⟨fun q => ⟨?_, rfl⟩, fun q => ⟨fun w => ⟨?_, rfl⟩, fun w => ⟨fun u => ⟨?_, rfl⟩, fun u => ⟨?_, rfl⟩⟩⟩⟩, fun y => ⟨fun q => ⟨?_, rfl⟩, fun q => ⟨fun w => ⟨?_, rfl⟩, fun w => ⟨fun u => ⟨?_, rfl⟩, fun u => ⟨?_, rfl⟩⟩⟩⟩⟩
  · rw [if_neg (fun e => eqc q e.symm), if_neg y, decide_eq_true q]; rfl
  · rw [if_neg w, if_neg y, decide_eq_false q]; rfl
  · rw [if_pos w, decide_eq_false (Int64.not_lt.mpr u)]; rfl
  · rw [if_pos w, decide_eq_true (Int64.not_le.mp u)]; rfl
  · rw [if_neg (eqc q), if_pos y, decide_eq_true q]; rfl
  · rw [if_neg w, if_pos y, decide_eq_false q]; rfl
  · rw [if_pos w, decide_eq_false (Int64.not_lt.mpr u)]; rfl
  · rw [if_pos w, decide_eq_true (Int64.not_le.mp u)]; rfl
end MORD

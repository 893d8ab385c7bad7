/-! ===== the class's Text ===== -/
/-- the heaps agree but at the cells of these ids -/
def fOff (L : List Nat) (h h' : fH) : Prop := ∀ a : Nat, a ∉ L → h'.1 a = h.1 a ∧ h'.2.1 a = h.2.1 a ∧ h'.2.2.1 a = h.2.2.1 a ∧ h'.2.2.2 a = h.2.2.2 a
theorem fOff.rf {L : List Nat} {h : fH} : fOff L h h := fun _ _ => ⟨rfl, rfl, rfl, rfl⟩
theorem fOff.tr {L : List Nat} {h h1 h2 : fH} (a : fOff L h h1) (b : fOff L h1 h2) : fOff L h h2 := fun x hx => ⟨(b x hx).1.trans (a x hx).1, (b x hx).2.1.trans (a x hx).2.1, (b x hx).2.2.1.trans (a x hx).2.2.1, (b x hx).2.2.2.trans (a x hx).2.2.2⟩
theorem fOff.mono {L L' : List Nat} {h h1 : fH} (a : fOff L h h1) (s : ∀ x ∈ L, x ∈ L') : fOff L' h h1 := fun x hx => a x (fun z => hx (s x z))
theorem fOff.of {L : List Nat} {h h1 h2 : fH} {r : Nat} (a : fOff L h h1) (b : f_off h1 h2 r) (hr : r ∈ L) : fOff L h h2 := fun x hx => by
  have := b x (fun e => hx (e ▸ hr))
  have q := a x hx
  exact ⟨this.1.trans q.1, this.2.1.trans q.2.1, this.2.2.1.trans q.2.2.1, this.2.2.2.trans q.2.2.2⟩
theorem u_ai_s (h : fH) (r : Nat) (f : Nat → Int32) : (u_ai h r f).2.2.1 r = f := by simp [u_ai]
theorem u_ai_n (h : fH) {r a : Nat} (f : Nat → Int32) (ha : a ≠ r) : (u_ai h r f).2.2.1 a = h.2.2.1 a := by simp [u_ai, ha]
theorem u_ai_1 (h : fH) (r : Nat) (f : Nat → Int32) : (u_ai h r f).1 = h.1 := rfl
theorem u_ai_2 (h : fH) (r : Nat) (f : Nat → Int32) : (u_ai h r f).2.1 = h.2.1 := rfl
theorem upd_s (f : Nat → Int32) (k : Nat) (v : Int32) : upd f k v k = v := by simp [upd]
theorem upd_n (f : Nat → Int32) {k j : Nat} (v : Int32) (h : j ≠ k) : upd f k v j = f j := by simp [upd, h]
/-- a Text in the world: its cells, apart -/
def TxS (S : fW) (r a b c : Nat) : Prop := ((r, shX10 a b c) ∈ S ∧ (a, shI 13) ∈ S ∧ (b, shI 13) ∈ S ∧ (c, shI 13) ∈ S) ∧ r ≠ a ∧ r ≠ b ∧ r ≠ c ∧ a ≠ b ∧ a ≠ c ∧ b ≠ c
def lmL (c : Int32) : Int32 := if isLetB c then (32 : Int32) ||| ((1 : Int32) <<< ((c - (97 : Int32)) &&& 31)) else 32
/-- the letters of the part that begins at i -/
def lmF (t : Nat → Int32) (n i : Nat) : Int32 := ev lmL (fun _ x y => x ||| y) t n i
/-- a Text holds the text t of n signs, its ends, its letters -/
def TxOk (h : fH) (r a b c : Nat) (t : Nat → Int32) (n : Nat) : Prop := h.1 r 3 = nI n ∧ n ≤ 13 ∧ (∀ i, i < n → h.2.2.1 a i = t i) ∧ (∀ i, i < n → h.2.2.1 b i = nI (i + sz t n i)) ∧ (∀ i, i < n → h.2.2.1 c i = lmF t n i)
theorem TxOk.off {h k : fH} {r a b c : Nat} {t : Nat → Int32} {n : Nat} {L : List Nat} (x : TxOk h r a b c t n) (o : fOff L h k) (hr : r ∉ L) (ha : a ∉ L) (hb : b ∉ L) (hc : c ∉ L) : TxOk k r a b c t n := by
  obtain ⟨x1, x2, x3, x4, x5⟩ := x
  exact ⟨by rw [(o r hr).1]; exact x1, x2, fun i hi => by rw [(o a ha).2.2.1]; exact x3 i hi, fun i hi => by rw [(o b hb).2.2.1]; exact x4 i hi, fun i hi => by rw [(o c hc).2.2.1]; exact x5 i hi⟩
section CTEXT
variable {d : Nat} {S : fW} {h : fH} {r a b c n j : Nat} {t : Nat → Int32}
theorem s_has {p : Int32} (T : TxS S r a b c) : OkI d mX10_has S [.ref r, .int p] h (fun v k => v = bI (decide (0 ≤ p ∧ p < h.1 r 3)) ∧ k = h) := by
  refine TX10_has_0 (hs1 := T.1.1) (fun x => ?_) (fun x y => ?_) (fun x y => ?_) <;> refine ⟨?_, rfl⟩
  · simp [bI, Int32.not_le.mpr x]
  · simp [bI, Int32.not_lt.mpr y]
  · simp [bI, Int32.not_lt.mp x, Int32.not_le.mp y]
theorem nI_lt0 {j : Nat} (hj : j < 2 ^ 31) : ¬ nI j < 0 := nI_pos hj
theorem s_signAt (T : TxS S r a b c) (hn : h.1 r 3 = nI n) (h13 : n ≤ 13) (hj : j < 100) : OkI d mX10_signAt S [.ref r, .int (nI j)] h (fun v k => v = (if j < n then h.2.2.1 a j else 0) ∧ k = h) := by
  have e : (h.1 r 3 ≤ nI j) ↔ n ≤ j := by rw [hn]; exact nI_leI (by omega) (by omega)
  have hc : (nI j).toNatClampNeg = j := nI_clamp (by omega)
  refine TX10_signAt_0 (hs1 := T.1.1) (hs2 := T.1.2.1) (fun x => absurd x (nI_lt0 (by omega))) ?_ ?_ ?_ <;> simp only [e, hc]
  · intro _ y
    exact ⟨by rw [if_neg (by omega)], trivial⟩
  · intro _ y
    exact vp_in_nI (by omega) (by decide)
  · intro _ y
    exact ⟨by rw [if_pos (by omega)], trivial⟩
theorem s_endOf (T : TxS S r a b c) (hn : h.1 r 3 = nI n) (h13 : n ≤ 13) (hj : j < 100) : OkI d mX10_endOf S [.ref r, .int (nI j)] h (fun v k => v = (if j < n then h.2.2.1 b j else nI n) ∧ k = h) := by
  have e : (h.1 r 3 ≤ nI j) ↔ n ≤ j := by rw [hn]; exact nI_leI (by omega) (by omega)
  have hc : (nI j).toNatClampNeg = j := nI_clamp (by omega)
  refine TX10_endOf_0 (hs1 := T.1.1) (hs2 := T.1.2.2.1) (fun x => absurd x (nI_lt0 (by omega))) ?_ ?_ ?_ <;> simp only [e, hc]
  · intro _ y
    exact ⟨by rw [if_neg (by omega), hn], trivial⟩
  · intro _ y
    exact vp_in_nI (by omega) (by decide)
  · intro _ y
    exact ⟨by rw [if_pos (by omega)], trivial⟩
theorem s_lettersOf (T : TxS S r a b c) (hn : h.1 r 3 = nI n) (h13 : n ≤ 13) (hj : j < 100) : OkI d mX10_lettersOf S [.ref r, .int (nI j)] h (fun v k => v = (if j < n then h.2.2.1 c j else 32) ∧ k = h) := by
  have e : (h.1 r 3 ≤ nI j) ↔ n ≤ j := by rw [hn]; exact nI_leI (by omega) (by omega)
  have hc : (nI j).toNatClampNeg = j := nI_clamp (by omega)
  refine TX10_lettersOf_0 (hs1 := T.1.1) (hs2 := T.1.2.2.2) (fun x => absurd x (nI_lt0 (by omega))) ?_ ?_ ?_ <;> simp only [e, hc]
  · intro _ y
    exact ⟨by rw [if_neg (by omega)], trivial⟩
  · intro _ y
    exact vp_in_nI (by omega) (by decide)
  · intro _ y
    exact ⟨by rw [if_pos (by omega)], trivial⟩
theorem s_secondOf (T : TxS S r a b c) (hn : h.1 r 3 = nI n) (h13 : n ≤ 13) (hj : j < 99) : OkI (d + 1) mX10_secondOf S [.ref r, .int (nI j)] h (fun v k => v = (if j + 1 < n then h.2.2.1 b (j + 1) else nI n) ∧ k = h) := by
  refine TX10_secondOf_0 (hs1 := T.1.1) (ok1 := ?_) (fun v k z => z)
  rw [nI1]
  exact s_endOf T hn h13 (by omega)
/-- the part behind the first part of an operator's text -/
theorem s_secondOp {o : Nat → Nat} (T : TxS S r a b c) (x : TxOk h r a b c t n) (hv : valO o t n) (hj : j < n) (hop : isOpB (t j) = true) : OkI (d + 1) mX10_secondOf S [.ref r, .int (nI j)] h (fun v k => v = nI (j + 1 + sz t n (j + 1)) ∧ k = h) := by
  obtain ⟨h1, h2⟩ := op_in hv hj hop
  refine (s_secondOf T x.1 x.2.1 (by have := x.2.1; omega)).post ?_
  rintro v k ⟨rfl, rfl⟩
  exact ⟨by rw [if_pos h1, x.2.2.2.1 _ h1], rfl⟩
/-- the least of 13 and a length -/
theorem min13 {m : Nat} (hm : m ≤ 13) : (if (13 : Int32) < nI m then (13 : Int32) else nI m) = nI m := if_neg (nI_nlt (a := 13) hm (by decide))
theorem s_findParts {o : Nat → Nat} (T : TxS S r a b c) (hn : h.1 r 3 = nI n) (h13 : n ≤ 13) (ht : ∀ i, i < n → h.2.2.1 a i = t i) (hv : valO o t n) : OkV (d + 1) mX10_findParts S [.ref r] h (fun k => TxOk k r a b c t n ∧ fOff [b, c] h k) := by
  obtain ⟨⟨s1, s2, s3, s4⟩, n1, n2, n3, n4, n5, n6⟩ := id T
  have key : ∀ (i : Nat) (g : fH), i ≤ n → fOff [b, c] h g → (∀ j, i ≤ j → j < n → g.2.2.1 b j = nI (j + sz t n j) ∧ g.2.2.1 c j = lmF t n j) → G mX10_findParts (d + 1) S (f_PV (fun k => TxOk k r a b c t n ∧ fOff [b, c] h k)) 12 [(0, .ref r), (1, .int (Int32.ofInt ((i : Int) - 1)))] [] g := by
    intro i
    induction i with
    | zero =>
      intro g _ hg hall
      refine TX10_findParts_12 (Q1 := fun _ _ => False) (Q2 := fun _ _ _ _ => False) (Q3 := fun _ _ _ _ => False) (Q4 := fun _ _ _ _ _ _ => False) (Q5 := fun _ _ _ _ _ _ _ _ => False) (Q6 := fun _ _ _ _ _ _ _ _ _ _ => False) (fun _ => ?_) s1 s2 (fun z => absurd (by decide) z) (fun z => absurd (by decide) z) s3 (fun z => absurd (by decide) z) s4 (fun z => absurd (by decide) z) (fun z => absurd (by decide) z) (fun z => absurd (by decide) z) (fun z => absurd (by decide) z) (fun z => absurd (by decide) z) (fun z => absurd (by decide) z) (fun z => absurd (by decide) z)
      have o1 := hg r (by simp [n2, n3])
      have o2 := hg a (by simp [n4, n5])
      exact ⟨⟨by rw [o1.1]; exact hn, h13, fun j hj => by rw [o2.2.2.1]; exact ht j hj, fun j hj => (hall j (by omega) hj).1, fun j hj => (hall j (by omega) hj).2⟩, hg⟩
    | succ i ih =>
      intro g hi hg hall
      have hx : Int32.ofInt (((i + 1 : Nat) : Int) - 1) = nI i := by rw [← nI_ofInt]; congr 1; omega
      rw [hx]
      have hc : (nI i).toNatClampNeg = i := nI_clamp (by omega)
      have o1 := hg r (by simp [n2, n3])
      have o2 := hg a (by simp [n4, n5])
      have hlen : g.1 r 3 = nI n := by rw [o1.1]; exact hn
      have hti : g.2.2.1 a i = t i := by rw [o2.2.2.1]; exact ht i (by omega)
      have em : nI i + (-1) = Int32.ofInt ((i : Int) - 1) := by rw [← nI_ofInt, iOm1]
      -- the heaps behind the two stores
      generalize hg1 : (fun v : Int32 => u_ai g b (upd (g.2.2.1 b) i v)) = g1
      have g1e : ∀ v, g1 v = u_ai g b (upd (g.2.2.1 b) i v) := fun v => by rw [← hg1]
      have fin : ∀ v w : Int32, v = nI (i + sz t n i) → w = lmF t n i → G mX10_findParts (d + 1) S (f_PV (fun k => TxOk k r a b c t n ∧ fOff [b, c] h k)) 12 [(0, .ref r), (1, .int (Int32.ofInt ((i : Int) - 1)))] [] (u_ai (g1 v) c (upd ((g1 v).2.2.1 c) i w)) := by
        intro v w hv1 hw1
        refine ih _ (by omega) ?_ ?_
        · rw [g1e]
          exact (hg.of (f_off_ai _ _ _) (by simp)).of (f_off_ai _ _ _) (by simp)
        · intro j hj1 hj2
          rw [g1e]
          by_cases e : j = i
          · subst e
            refine ⟨?_, ?_⟩
            · rw [u_ai_n _ _ n6, u_ai_s, upd_s]; exact hv1
            · rw [u_ai_s, upd_s]; exact hw1
          · obtain ⟨p, q⟩ := hall j (by omega) hj2
            refine ⟨?_, ?_⟩
            · rw [u_ai_n _ _ n6, u_ai_s, upd_n _ _ e]; exact p
            · rw [u_ai_s, upd_n _ _ e, u_ai_n _ _ (Ne.symm n6)]; exact q
      have hv1 : ∀ v, (g1 v).2.2.1 a = g.2.2.1 a := fun v => by rw [g1e]; exact u_ai_n _ _ n4
      have hv2 : ∀ v, (g1 v).2.2.1 c = g.2.2.1 c := fun v => by rw [g1e]; exact u_ai_n _ _ (Ne.symm n6)
      have hv3 : ∀ v, (g1 v).1 r 3 = nI n := fun v => by rw [g1e]; exact hlen
      cases hop : isOpB (t i)
      · -- a leaf
        refine TX10_findParts_12 (Q1 := fun v k => v = bI (isOpB (t i)) ∧ k = g) (Q2 := fun _ _ v k => v = bI (isLetB (t i)) ∧ k = g1 (nI (i + 1))) (Q3 := fun _ _ _ _ => False) (Q4 := fun _ _ _ _ _ _ => False) (Q5 := fun _ _ _ _ _ _ _ _ => False) (Q6 := fun _ _ _ _ _ _ _ _ _ _ => False) (fun z => absurd z (nI_lt0 (by omega))) s1 s2 (fun _ => vp_in_nI (by omega) (by decide)) ?_ s3 ?_ s4 ?_ ?_ ?_ ?_ ?_ ?_ ?_ <;> (try simp only [hc, hti, em, nI1])
        · exact fun _ => s_isOperator
        · rintro _ v k ⟨rfl, rfl⟩ _
          rw [← g1e, hv1, hti]
          exact s_isLetter
        · rintro _ v k ⟨rfl, rfl⟩ _ v2 k2 ⟨rfl, rfl⟩ z
          refine fin _ _ (by rw [sz_leaf hop]) ?_
          rw [lmF, ev_leaf hop, lmL, bI_0.mp z]
          rfl
        · rintro _ v k ⟨rfl, rfl⟩ _ v2 k2 ⟨rfl, rfl⟩ z
          rw [hv1, hti]
          refine fin _ _ (by rw [sz_leaf hop]) ?_
          rw [lmF, ev_leaf hop, lmL, bI_n0.mp z]
          rfl
        all_goals
          rintro _ v k ⟨rfl, rfl⟩ z
          exact absurd (by rw [hop]; rfl) z
      · -- an operator
        obtain ⟨q1, q2⟩ := op_in hv (by omega) hop
        have hsz := sz_op hv (by omega : i < n) hop
        have hp := sz_pos t n (i + 1)
        obtain ⟨b1, c1⟩ := hall (i + 1) (by omega) q1
        obtain ⟨b2, c2⟩ := hall (i + 1 + sz t n (i + 1)) (by omega) q2
        refine TX10_findParts_12 (Q1 := fun v k => v = bI (isOpB (t i)) ∧ k = g) (Q2 := fun _ _ _ _ => False) (Q3 := fun _ _ v k => v = nI (i + 1 + sz t n (i + 1)) ∧ k = g) (Q4 := fun _ _ _ _ v k => v = nI (i + sz t n i) ∧ k = g) (Q5 := fun _ _ _ _ _ _ v k => v = lmF t n (i + 1) ∧ k = g1 (nI (i + sz t n i))) (Q6 := fun _ _ _ _ _ _ _ _ v k => v = lmF t n (i + 1 + sz t n (i + 1)) ∧ k = g1 (nI (i + sz t n i))) (fun z => absurd z (nI_lt0 (by omega))) s1 s2 (fun _ => vp_in_nI (by omega) (by decide)) ?_ s3 ?_ s4 ?_ ?_ ?_ ?_ ?_ ?_ ?_ <;> (try simp only [hc, hti, em, nI1])
        · exact fun _ => s_isOperator
        · rintro _ v k ⟨rfl, rfl⟩ z
          exact absurd (bI_0.mp z) (by rw [hop]; decide)
        · rintro _ v k ⟨rfl, rfl⟩ z
          exact absurd (bI_0.mp z) (by rw [hop]; decide)
        · rintro _ v k ⟨rfl, rfl⟩ z
          exact absurd (bI_0.mp z) (by rw [hop]; decide)
        · rintro _ v k ⟨rfl, rfl⟩ _
          refine (s_endOf T hlen h13 (by omega)).post ?_
          rintro v k ⟨rfl, rfl⟩
          exact ⟨by rw [if_pos q1, b1], rfl⟩
        · rintro _ v k ⟨rfl, rfl⟩ _ v3 k3 ⟨rfl, rfl⟩
          refine (s_endOf T hlen h13 (by omega)).post ?_
          rintro v k ⟨rfl, rfl⟩
          refine ⟨?_, rfl⟩
          rw [if_pos q2, b2]
          congr 1
          omega
        · rintro _ v k ⟨rfl, rfl⟩ _ v3 k3 ⟨rfl, rfl⟩ v4 k4 ⟨rfl, rfl⟩
          rw [← g1e]
          refine (s_lettersOf T (hv3 _) h13 (by omega)).post ?_
          rintro v k ⟨rfl, rfl⟩
          exact ⟨by rw [if_pos q1, hv2, c1], rfl⟩
        · rintro _ v k ⟨rfl, rfl⟩ _ v3 k3 ⟨rfl, rfl⟩ v4 k4 ⟨rfl, rfl⟩ v5 k5 ⟨rfl, rfl⟩
          refine (s_lettersOf T (hv3 _) h13 (by omega)).post ?_
          rintro v k ⟨rfl, rfl⟩
          exact ⟨by rw [if_pos q2, hv2, c2], rfl⟩
        · rintro _ v k ⟨rfl, rfl⟩ _ v3 k3 ⟨rfl, rfl⟩ v4 k4 ⟨rfl, rfl⟩ v5 k5 ⟨rfl, rfl⟩ v6 k6 ⟨rfl, rfl⟩
          refine fin _ _ rfl ?_
          exact (ev_op (leaf := lmL) (op := fun _ x y => x ||| y) hv (by omega : i < n) hop).symm
  refine TX10_findParts_0 s1 ?_
  have e : (if (13 : Int32) < h.1 r 3 then (13 : Int32) else h.1 r 3) - (1 : Int32) = Int32.ofInt ((n : Int) - 1) := by
    rw [hn, min13 h13, ← nI_ofInt, Int32.ofInt_sub]; rfl
  rw [e]
  exact key n h (Nat.le_refl n) fOff.rf (fun j h1 h2 => by omega)
end CTEXT

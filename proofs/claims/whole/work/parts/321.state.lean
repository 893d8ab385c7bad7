/-! ===== one state for both; the class's relation to it ===== -/
abbrev pT (P : pgP) : List Int32 := P.1
abbrev pNu (P : pgP) : Nat → Int32 := P.2.1
abbrev pSp (P : pgP) : Nat → Int32 := P.2.2.1
abbrev pTe (P : pgP) : Nat → Int64 := P.2.2.2.1
abbrev pN (P : pgP) : Nat := P.2.2.2.2.1
abbrev pD (P : pgP) : Nat := P.2.2.2.2.2.1
abbrev pW (P : pgP) : Nat := P.2.2.2.2.2.2
def wT (P : pgP) (T : List Int32) : pgP := (T, P.2)
def wNu (P : pgP) (f : Nat → Int32) : pgP := (P.1, f, P.2.2)
def wSp (P : pgP) (f : Nat → Int32) : pgP := (P.1, P.2.1, f, P.2.2.2)
def wTe (P : pgP) (f : Nat → Int64) (n : Nat) : pgP := (P.1, P.2.1, P.2.2.1, f, n, P.2.2.2.2.2)
def wD (P : pgP) (d : Nat) : pgP := (P.1, P.2.1, P.2.2.1, P.2.2.2.1, P.2.2.2.2.1, d, P.2.2.2.2.2.2)
def wW (P : pgP) (w : Nat) : pgP := (P.1, P.2.1, P.2.2.1, P.2.2.2.1, P.2.2.2.2.1, P.2.2.2.2.2.1, w)
/-- the pad, the page, the images -/
abbrev stP : Type := List Int32 × pgP × Option pgP × Option pgP
def PgV (P : pgP) : Prop := TxL (pT P) ∧ nmS (pNu P) ∧ snB (pSp P) ∧ (pN P ≤ 7 ∧ ∀ j, j < pN P → dcm (pTe P j)) ∧ 1 ≤ pD P ∧ pD P ≤ 4 ∧ pW P ≤ 3
def StV (X : stP) : Prop := X.1.length ≤ 20 ∧ PgV X.2.1 ∧ (∀ Q, X.2.2.1 = some Q → PgV Q) ∧ ∀ Q, X.2.2.2 = some Q → PgV Q
theorem nmS.b {f : Nat → Int32} (h : nmS f) : nmB f := fun j hj => ⟨by have := (h j hj).1; omega, by have := (h j hj).2; omega⟩
/-- spans as whole numbers -/
def gwF (g : Nat → Int32) (j : Nat) : Nat := if j < 5 then (g j).toInt.toNat else 0
theorem gwF_is {g : Nat → Int32} (h : snB g) {j : Nat} (hj : j < 5) : g j = nI (gwF g j) := by
  unfold gwF
  rw [if_pos hj]
  have := h j hj
  rw [← Int32.toInt_inj, nI_toInt (by omega)]
  omega
theorem gwF_le {g : Nat → Int32} (h : snB g) (j : Nat) : gwF g j ≤ 5 := by
  unfold gwF
  split
  · next q => have := h j q; omega
  · omega
def CIm (h : fH) (pg tx a b c nu sp te : Nat) (Q : Option pgP) : Prop :=
  match Q with
  | none => h.1 pg 7 = 0
  | some P => h.1 pg 7 = 1 ∧ PcOk h pg tx a b c nu sp te P
/-- pad, page, images lie in the class's cells 1 to 26 -/
def CCo (h : fH) (X : stP) : Prop :=
  (h.1 1 4 = nI X.1.length ∧ ∀ i, i < X.1.length → h.2.2.1 26 i = rw' X.1 i) ∧ PcOk h 2 3 4 5 6 7 8 9 X.2.1 ∧ CIm h 10 11 12 13 14 15 16 17 X.2.2.1 ∧ CIm h 18 19 20 21 22 23 24 25 X.2.2.2 ∧ PcZ h 7 8 9 ∧ PcZ h 15 16 17 ∧ PcZ h 23 24 25
/-- which roundings keep what is tiny -/
def CRo (h : fH) : Prop := (h.1 28 2 = bI false ∧ h.1 35 2 = bI false ∧ h.1 39 2 = bI false ∧ h.1 45 2 = bI false ∧ h.1 72 2 = bI false) ∧ h.1 58 2 = bI true ∧ h.1 59 2 = bI true
/-- what was found holds still -/
def COr (h : fH) (P : pgP) : Prop := ¬ h.1 42 6 = 0 → OaOk h 50 49 52 (pN P) 0 (orG (pD P) (pW P) (pTe P) (pN P) 0) ∧ OaOk h 50 49 53 (pN P) 1 (orG (pD P) (pW P) (pTe P) (pN P) 1)
abbrev pWd (P : pgP) : Nat → Nat := wdF (rw' (pT P)) (pT P).length (gwF (pSp P))
def CTr (h : fH) (P : pgP) : Prop := ¬ h.1 54 10 = 0 → TrH h 54 (pNu P) (rw' (pT P)) (pT P).length (pWd P)
def CSe (h : fH) (P : pgP) : Prop := ∀ R, R ≤ 2 → h.1 65 5 = nI R → BsOk h 65 82 83 84 85 (btF (pD P) (pW P) (pNu P) R (pT P))
def CCa (h : fH) (P : pgP) : Prop := COr h P ∧ CTr h P ∧ CSe h P
def CRel (h : fH) (X : stP) : Prop := CCo h X ∧ CRo h ∧ CCa h X.2.1
abbrev cI1 : List Nat := [1, 2, 3, 4, 5, 6, 7, 8, 9, 10, 11, 12, 13, 14, 15, 16, 17, 18, 19, 20, 21, 22, 23, 24, 25, 26]
abbrev cI2 : List Nat := [28, 35, 39, 45, 72, 58, 59]
abbrev cI3 : List Nat := [42, 49, 50, 52, 53, 54, 65, 82, 83, 84, 85]
def cOut (A L : List Nat) : Bool := A.all (fun i => !L.contains i)
theorem cOut_n {A L : List Nat} (h : cOut A L = true) {i : Nat} (hi : i ∈ A) : i ∉ L := by
  unfold cOut at h
  rw [List.all_eq_true] at h
  have := h i hi
  simpa using this
section CREL
variable {h k : fH} {X : stP} {P : pgP} {L : List Nat}
theorem CIm.off {pg tx a b c nu sp te : Nat} {Q : Option pgP} (x : CIm h pg tx a b c nu sp te Q) (o : fOff L h k) (h0 : pg ∉ L) (h1 : tx ∉ L) (h2 : a ∉ L) (h3 : b ∉ L) (h4 : c ∉ L) (h5 : nu ∉ L) (h6 : sp ∉ L) (h7 : te ∉ L) : CIm k pg tx a b c nu sp te Q := by
  cases Q with
  | none =>
    show k.1 pg 7 = 0
    rw [(o pg h0).1]; exact x
  | some q => exact ⟨by rw [(o pg h0).1]; exact x.1, x.2.off o h0 h1 h2 h3 h4 h5 h6 h7⟩
theorem PcZ.off {nu sp te : Nat} (z : PcZ h nu sp te) (o : fOff L h k) (h5 : nu ∉ L) (h6 : sp ∉ L) (h7 : te ∉ L) : PcZ k nu sp te := by
  unfold PcZ
  rw [(o nu h5).2.2.1, (o sp h6).2.2.1, (o te h7).2.2.2]
  exact z
theorem CCo.off (x : CCo h X) (o : fOff L h k) (q : cOut cI1 L = true) : CCo k X := by
  obtain ⟨⟨p1, p2⟩, x1, x2, x3, z1, z2, z3⟩ := x
  have n : ∀ i ∈ cI1, i ∉ L := fun i hi => cOut_n q hi
  refine ⟨⟨by rw [(o 1 (n 1 (by decide))).1]; exact p1, fun i hi => by rw [(o 26 (n 26 (by decide))).2.2.1]; exact p2 i hi⟩, ?_, ?_, ?_, ?_, ?_, ?_⟩
  · exact x1.off o (n _ (by decide)) (n _ (by decide)) (n _ (by decide)) (n _ (by decide)) (n _ (by decide)) (n _ (by decide)) (n _ (by decide)) (n _ (by decide))
  · exact x2.off o (n _ (by decide)) (n _ (by decide)) (n _ (by decide)) (n _ (by decide)) (n _ (by decide)) (n _ (by decide)) (n _ (by decide)) (n _ (by decide))
  · exact x3.off o (n _ (by decide)) (n _ (by decide)) (n _ (by decide)) (n _ (by decide)) (n _ (by decide)) (n _ (by decide)) (n _ (by decide)) (n _ (by decide))
  · exact z1.off o (n _ (by decide)) (n _ (by decide)) (n _ (by decide))
  · exact z2.off o (n _ (by decide)) (n _ (by decide)) (n _ (by decide))
  · exact z3.off o (n _ (by decide)) (n _ (by decide)) (n _ (by decide))
/-- another page -/
theorem CCo.pg {P' : pgP} (x : CCo h X) (o : fOff [2, 3, 4, 5, 6, 7, 8, 9] h k) (p : PcOk k 2 3 4 5 6 7 8 9 P') (z : PcZ k 7 8 9) : CCo k (X.1, P', X.2.2) := by
  obtain ⟨⟨p1, p2⟩, x1, x2, x3, z1, z2, z3⟩ := x
  refine ⟨⟨by rw [(o 1 (by decide)).1]; exact p1, fun i hi => by rw [(o 26 (by decide)).2.2.1]; exact p2 i hi⟩, p, ?_, ?_, z, ?_, ?_⟩
  · exact x2.off o (by decide) (by decide) (by decide) (by decide) (by decide) (by decide) (by decide) (by decide)
  · exact x3.off o (by decide) (by decide) (by decide) (by decide) (by decide) (by decide) (by decide) (by decide)
  · exact z2.off o (by decide) (by decide) (by decide)
  · exact z3.off o (by decide) (by decide) (by decide)
/-- another pad -/
theorem CCo.pad {L' : List Int32} (x : CCo h X) (o : fOff [1, 26] h k) (p1 : k.1 1 4 = nI L'.length) (p2 : ∀ i, i < L'.length → k.2.2.1 26 i = rw' L' i) : CCo k (L', X.2) := by
  obtain ⟨_, x1, x2, x3, z1, z2, z3⟩ := x
  refine ⟨⟨p1, p2⟩, ?_, ?_, ?_, ?_, ?_, ?_⟩
  · exact x1.off o (by decide) (by decide) (by decide) (by decide) (by decide) (by decide) (by decide) (by decide)
  · exact x2.off o (by decide) (by decide) (by decide) (by decide) (by decide) (by decide) (by decide) (by decide)
  · exact x3.off o (by decide) (by decide) (by decide) (by decide) (by decide) (by decide) (by decide) (by decide)
  · exact z1.off o (by decide) (by decide) (by decide)
  · exact z2.off o (by decide) (by decide) (by decide)
  · exact z3.off o (by decide) (by decide) (by decide)
/-- another image -/
theorem CCo.im0 {Q : Option pgP} (x : CCo h X) (o : fOff [10, 11, 12, 13, 14, 15, 16, 17] h k) (p : CIm k 10 11 12 13 14 15 16 17 Q) (z : PcZ k 15 16 17) : CCo k (X.1, X.2.1, Q, X.2.2.2) := by
  obtain ⟨⟨p1, p2⟩, x1, x2, x3, z1, z2, z3⟩ := x
  refine ⟨⟨by rw [(o 1 (by decide)).1]; exact p1, fun i hi => by rw [(o 26 (by decide)).2.2.1]; exact p2 i hi⟩, ?_, p, ?_, ?_, z, ?_⟩
  · exact x1.off o (by decide) (by decide) (by decide) (by decide) (by decide) (by decide) (by decide) (by decide)
  · exact x3.off o (by decide) (by decide) (by decide) (by decide) (by decide) (by decide) (by decide) (by decide)
  · exact z1.off o (by decide) (by decide) (by decide)
  · exact z3.off o (by decide) (by decide) (by decide)
theorem CCo.im1 {Q : Option pgP} (x : CCo h X) (o : fOff [18, 19, 20, 21, 22, 23, 24, 25] h k) (p : CIm k 18 19 20 21 22 23 24 25 Q) (z : PcZ k 23 24 25) : CCo k (X.1, X.2.1, X.2.2.1, Q) := by
  obtain ⟨⟨p1, p2⟩, x1, x2, x3, z1, z2, z3⟩ := x
  refine ⟨⟨by rw [(o 1 (by decide)).1]; exact p1, fun i hi => by rw [(o 26 (by decide)).2.2.1]; exact p2 i hi⟩, ?_, ?_, p, ?_, ?_, z⟩
  · exact x1.off o (by decide) (by decide) (by decide) (by decide) (by decide) (by decide) (by decide) (by decide)
  · exact x2.off o (by decide) (by decide) (by decide) (by decide) (by decide) (by decide) (by decide) (by decide)
  · exact z1.off o (by decide) (by decide) (by decide)
  · exact z2.off o (by decide) (by decide) (by decide)
theorem CRo.off (x : CRo h) (o : fOff L h k) (q : cOut cI2 L = true) : CRo k := by
  obtain ⟨⟨a1, a2, a3, a4, a5⟩, a6, a7⟩ := x
  have n : ∀ i ∈ cI2, i ∉ L := fun i hi => cOut_n q hi
  refine ⟨⟨?_, ?_, ?_, ?_, ?_⟩, ?_, ?_⟩
  · rw [(o _ (n _ (by decide))).1]; exact a1
  · rw [(o _ (n _ (by decide))).1]; exact a2
  · rw [(o _ (n _ (by decide))).1]; exact a3
  · rw [(o _ (n _ (by decide))).1]; exact a4
  · rw [(o _ (n _ (by decide))).1]; exact a5
  · rw [(o _ (n _ (by decide))).1]; exact a6
  · rw [(o _ (n _ (by decide))).1]; exact a7
theorem tu_2 (h : fH) (r x : Nat) (a b : Int32) : (u_fi (u_fi h r 0 a) r 1 b).1 x 2 = h.1 x 2 := by
  by_cases e : x = r
  · subst e
    rw [u_fi_n _ _ (by decide), u_fi_n _ _ (by decide)]
  · rw [u_fi_o _ _ _ e, u_fi_o _ _ _ e]
theorem CRo.tu (x : CRo h) (r : Nat) (a b : Int32) : CRo (u_fi (u_fi h r 0 a) r 1 b) := by
  unfold CRo
  simp only [tu_2]
  exact x
theorem CRo.off2 (x : CRo h) (o : ∀ i ∈ cI2, k.1 i 2 = h.1 i 2) : CRo k := by
  obtain ⟨⟨a1, a2, a3, a4, a5⟩, a6, a7⟩ := x
  refine ⟨⟨?_, ?_, ?_, ?_, ?_⟩, ?_, ?_⟩
  · rw [o _ (by decide)]; exact a1
  · rw [o _ (by decide)]; exact a2
  · rw [o _ (by decide)]; exact a3
  · rw [o _ (by decide)]; exact a4
  · rw [o _ (by decide)]; exact a5
  · rw [o _ (by decide)]; exact a6
  · rw [o _ (by decide)]; exact a7
theorem COr.off (x : COr h P) (o : fOff L h k) (q : cOut [42, 49, 50, 52, 53] L = true) : COr k P := fun z => by
  have n : ∀ i ∈ [42, 49, 50, 52, 53], i ∉ L := fun i hi => cOut_n q hi
  rw [(o 42 (n _ (by decide))).1] at z
  exact ⟨(x z).1.off o (n _ (by decide)) (n _ (by decide)) (n _ (by decide)), (x z).2.off o (n _ (by decide)) (n _ (by decide)) (n _ (by decide))⟩
theorem CTr.off (x : CTr h P) (o : fOff L h k) (q : cOut [54] L = true) : CTr k P := fun z => by
  have n : ∀ i ∈ [54], i ∉ L := fun i hi => cOut_n q hi
  rw [(o 54 (n _ (by decide))).1] at z
  have := x z
  unfold TrH at this ⊢
  rw [(o 54 (n _ (by decide))).2.1]
  exact this
theorem CSe.off (x : CSe h P) (o : fOff L h k) (q : cOut [65, 82, 83, 84, 85] L = true) : CSe k P := fun R hR z => by
  have n : ∀ i ∈ [65, 82, 83, 84, 85], i ∉ L := fun i hi => cOut_n q hi
  rw [(o 65 (n _ (by decide))).1] at z
  exact (x R hR z).off o (n _ (by decide)) (n _ (by decide)) (n _ (by decide)) (n _ (by decide)) (n _ (by decide))
theorem cOut_sub {A B L : List Nat} (h : cOut A L = true) (s : ∀ i ∈ B, i ∈ A) : cOut B L = true := by
  unfold cOut
  rw [List.all_eq_true]
  intro i hi
  have := cOut_n h (s i hi)
  simpa using this
theorem CCa.off (x : CCa h P) (o : fOff L h k) (q : cOut cI3 L = true) : CCa k P :=
  ⟨x.1.off o (cOut_sub q (by decide)), x.2.1.off o (cOut_sub q (by decide)), x.2.2.off o (cOut_sub q (by decide))⟩
theorem CRel.off (x : CRel h X) (o : fOff L h k) (q1 : cOut cI1 L = true) (q2 : cOut cI2 L = true) (q3 : cOut cI3 L = true) : CRel k X := ⟨x.1.off o q1, x.2.1.off o q2, x.2.2.off o q3⟩
theorem fOff_tu (h : fH) (r : Nat) (a b : Int32) : fOff [r] h (u_fi (u_fi h r 0 a) r 1 b) := (fOff.rf.of (f_off_fi _ _ _ _) (by simp)).of (f_off_fi _ _ _ _) (by simp)
theorem CRel.tu (x : CRel h X) (r : Nat) (a b : Int32) (q1 : cOut cI1 [r] = true) (q3 : cOut cI3 [r] = true) : CRel (u_fi (u_fi h r 0 a) r 1 b) X := ⟨x.1.off (fOff_tu h r a b) q1, x.2.1.tu r a b, x.2.2.off (fOff_tu h r a b) q3⟩
/-- what was found is forgotten -/
theorem CRel.fg (x : CCo h X) (r : CRo h) (f : (k.1 42 6 = 0 ∧ k.1 54 10 = 0 ∧ k.1 65 5 = -6) ∧ k.2 = h.2 ∧ fOff [42, 54, 65] h k) : CRel k X := by
  refine ⟨x.off f.2.2 (by decide), r.off f.2.2 (by decide), fun z => absurd f.1.1 z, fun z => absurd f.1.2.1 z, fun R hR z => ?_⟩
  rw [f.1.2.2] at z
  rcases (show R = 0 ∨ R = 1 ∨ R = 2 by omega) with rfl | rfl | rfl <;> exact absurd z (by decide)
end CREL

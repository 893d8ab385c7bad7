/-! ===== a page's content; the class's Page.copyFrom ===== -/
theorem cpy_all {α : Type} {f g : Nat → α} {n : Nat} (h : ∀ j, n ≤ j → g j = f j) : va_cpy f g 0 0 n = f := by
  funext k
  unfold va_cpy
  by_cases q : 0 ≤ k ∧ k < 0 + n
  · rw [if_pos q]
    congr 1
    omega
  · rw [if_neg q]
    exact h k (by omega)
/-- text, numbers, spans, terms, how many terms, digits, way -/
abbrev pgP : Type := List Int32 × (Nat → Int32) × (Nat → Int32) × (Nat → Int64) × Nat × Nat × Nat
/-- behind the rows there is nothing -/
def rowZ {α : Type} (z : α) (n : Nat) (f : Nat → α) : Prop := ∀ j, n ≤ j → f j = z
def PcOk (h : fH) (pg tx a b c nu sp te : Nat) (P : pgP) : Prop :=
  TxOk h tx a b c (rw' P.1) P.1.length ∧ h.2.2.1 nu = P.2.1 ∧ h.2.2.1 sp = P.2.2.1 ∧ h.2.2.2 te = P.2.2.2.1 ∧ h.1 pg 4 = nI P.2.2.2.2.1 ∧ h.1 pg 5 = nI P.2.2.2.2.2.1 ∧ h.1 pg 6 = nI P.2.2.2.2.2.2
def PcZ (h : fH) (nu sp te : Nat) : Prop := rowZ 0 5 (h.2.2.1 nu) ∧ rowZ 0 5 (h.2.2.1 sp) ∧ rowZ 0 7 (h.2.2.2 te)
def PcS (S : fW) (pg tx a b c nu sp te : Nat) : Prop := (pg, shX2 tx nu sp te) ∈ S ∧ TxS S tx a b c ∧ (nu, shI 5) ∈ S ∧ (sp, shI 5) ∈ S ∧ (te, shJ 7) ∈ S
theorem PcOk.off {h k : fH} {pg tx a b c nu sp te : Nat} {P : pgP} {L : List Nat} (x : PcOk h pg tx a b c nu sp te P) (o : fOff L h k) (h0 : pg ∉ L) (h1 : tx ∉ L) (h2 : a ∉ L) (h3 : b ∉ L) (h4 : c ∉ L) (h5 : nu ∉ L) (h6 : sp ∉ L) (h7 : te ∉ L) : PcOk k pg tx a b c nu sp te P := by
  obtain ⟨x1, x2, x3, x4, x5, x6, x7⟩ := x
  refine ⟨x1.off o h1 h2 h3 h4, ?_, ?_, ?_, ?_, ?_, ?_⟩
  · rw [(o nu h5).2.2.1]; exact x2
  · rw [(o sp h6).2.2.1]; exact x3
  · rw [(o te h7).2.2.2]; exact x4
  · rw [(o pg h0).1]; exact x5
  · rw [(o pg h0).1]; exact x6
  · rw [(o pg h0).1]; exact x7
section CPAGE
variable {d : Nat} {S : fW} {h : fH} {p t a b c n s e p' t' a' b' c' n' s' e' : Nat} {P : pgP}
theorem s_pcopy (X : PcS S p t a b c n s e) (Y : PcS S p' t' a' b' c' n' s' e') (nd : [p, t, a, b, c, n, s, e, p', t', a', b', c', n', s', e'].Nodup) (y : PcOk h p' t' a' b' c' n' s' e' P) (z : PcZ h n s e) (z' : PcZ h n' s' e') :
    OkV (d + 2) mX2_copyFrom S [.ref p, .ref p'] h (fun k => PcOk k p t a b c n s e P ∧ fOff [p, t, a, b, c, n, s, e] h k) := by
  obtain ⟨y1, y2, y3, y4, y5, y6, y7⟩ := y
  refine NX2_copyFrom_0 X.1 Y.1 X.2.1.1.1 Y.2.2.1 X.2.2.1 Y.2.2.2.1 X.2.2.2.1 Y.2.2.2.2 X.2.2.2.2 ⟨_, s_tcopy (d := d) X.2.1 Y.2.1 (nd_sub nd [1, 2, 3, 4, 9, 10, 11, 12] _ rfl (by decide)) y1, ?_⟩
  rintro k0 ⟨w0, o0⟩ k1 e1 k2 e2 k3 e3 k4 e4 k5 e5 k6 e6
  have o1 : fOff [n] k0 k1 := by rw [e1]; exact fOff.rf.of (f_off_ai _ _ _) (by simp)
  have o2 : fOff [s] k1 k2 := by rw [e2]; exact fOff.rf.of (f_off_ai _ _ _) (by simp)
  have o3 : fOff [e] k2 k3 := by rw [e3]; exact fOff.rf.of (f_off_al _ _ _) (by simp)
  have o4 : fOff [p] k3 k4 := by rw [e4]; exact fOff.rf.of (f_off_fi _ _ _ _) (by simp)
  have o5 : fOff [p] k4 k5 := by rw [e5]; exact fOff.rf.of (f_off_fi _ _ _ _) (by simp)
  have o6 : fOff [p] k5 k6 := by rw [e6]; exact fOff.rf.of (f_off_fi _ _ _ _) (by simp)
  have o46 : fOff [p] k3 k6 := (o4.tr o5).tr o6
  have o16 : fOff [n, s, e, p] k0 k6 := ((((o1.mono (by simp)).tr (o2.mono (by simp))).tr (o3.mono (by simp)))).tr (o46.mono (by simp))
  have o06 : fOff [p, t, a, b, c, n, s, e] h k6 := (o0.mono (by simp)).tr (o16.mono (by simp))
  -- the numbers
  have a1 : k1.2.2.1 n = P.2.1 := by
    rw [e1, u_ai_s, (o0 n' (nd_out nd 13 [1, 2, 3, 4] rfl rfl (by decide))).2.2.1, (o0 n (nd_out nd 5 [1, 2, 3, 4] rfl rfl (by decide))).2.2.1, ← y2]
    exact cpy_all (fun j hj => by rw [z.1 j hj, z'.1 j hj])
  have a2 : k2.2.2.1 s = P.2.2.1 := by
    have o01 : fOff [t, a, b, c, n] h k1 := (o0.mono (by simp)).tr (o1.mono (by simp))
    rw [e2, u_ai_s, (o01 s' (nd_out nd 14 [1, 2, 3, 4, 5] rfl rfl (by decide))).2.2.1, (o01 s (nd_out nd 6 [1, 2, 3, 4, 5] rfl rfl (by decide))).2.2.1, ← y3]
    exact cpy_all (fun j hj => by rw [z.2.1 j hj, z'.2.1 j hj])
  have o02 : fOff [t, a, b, c, n, s] h k2 := ((o0.mono (by simp)).tr (o1.mono (by simp))).tr (o2.mono (by simp))
  have a3 : k3.2.2.2 e = P.2.2.2.1 := by
    rw [e3, u_al_s, (o02 e' (nd_out nd 15 [1, 2, 3, 4, 5, 6] rfl rfl (by decide))).2.2.2, (o02 e (nd_out nd 7 [1, 2, 3, 4, 5, 6] rfl rfl (by decide))).2.2.2, ← y4]
    exact cpy_all (fun j hj => by rw [z.2.2 j hj, z'.2.2 j hj])
  have o03 : fOff [t, a, b, c, n, s, e] h k3 := (o02.mono (by simp)).tr (o3.mono (by simp))
  have p3 : k3.1 p' = h.1 p' := (o03 p' (nd_out nd 8 [1, 2, 3, 4, 5, 6, 7] rfl rfl (by decide))).1
  have p4 : k4.1 p' = h.1 p' := (o4 p' (nd_out nd 8 [0] rfl rfl (by decide))).1.trans p3
  have p5 : k5.1 p' = h.1 p' := (o5 p' (nd_out nd 8 [0] rfl rfl (by decide))).1.trans p4
  refine ⟨⟨w0.off o16 (nd_out nd 1 [5, 6, 7, 0] rfl rfl (by decide)) (nd_out nd 2 [5, 6, 7, 0] rfl rfl (by decide)) (nd_out nd 3 [5, 6, 7, 0] rfl rfl (by decide)) (nd_out nd 4 [5, 6, 7, 0] rfl rfl (by decide)), ?_, ?_, ?_, ?_, ?_, ?_⟩, o06⟩
  · rw [(o46 n (nd_out nd 5 [0] rfl rfl (by decide))).2.2.1, (o3 n (nd_out nd 5 [7] rfl rfl (by decide))).2.2.1, (o2 n (nd_out nd 5 [6] rfl rfl (by decide))).2.2.1]
    exact a1
  · rw [(o46 s (nd_out nd 6 [0] rfl rfl (by decide))).2.2.1, (o3 s (nd_out nd 6 [7] rfl rfl (by decide))).2.2.1]
    exact a2
  · rw [(o46 e (nd_out nd 7 [0] rfl rfl (by decide))).2.2.2]
    exact a3
  · rw [e6, u_fi_n _ _ (by decide), e5, u_fi_n _ _ (by decide), e4, u_fi_s, p3]; exact y5
  · rw [e6, u_fi_n _ _ (by decide), e5, u_fi_s, p4]; exact y6
  · rw [e6, u_fi_s, p5]; exact y7
end CPAGE

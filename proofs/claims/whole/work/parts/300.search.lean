/-! ===== texts that agree; the search's meaning; the class's consider ===== -/
theorem valO_congr {o : Nat → Nat} {t t' : Nat → Int32} {n : Nat} (hv : valO o t n) (h : ∀ i, i < n → t i = t' i) : valO o t' n :=
  ⟨hv.1, hv.2.1, fun i hi => by rw [← h i hi]; exact hv.2.2 i hi⟩
theorem sz_congr {o : Nat → Nat} {t t' : Nat → Int32} {n : Nat} (hv : valO o t n) (h : ∀ i, i < n → t i = t' i) : ∀ i, i < n → sz t n i = sz t' n i := by
  have hv' := valO_congr hv h
  refine right_ind n (fun i hi ih => ?_)
  cases c : isOpB (t i)
  · rw [sz_leaf c, sz_leaf (by rw [← h i hi]; exact c)]
  · obtain ⟨h1, h2⟩ := op_in hv hi c
    have hp := sz_pos t n (i + 1)
    rw [sz_op hv hi c, sz_op hv' hi (by rw [← h i hi]; exact c), ← ih (i + 1) (by omega) h1, ← ih _ (by omega) h2]
theorem ev_congr {α : Type} {leaf : Int32 → α} {op : Int32 → α → α → α} {o : Nat → Nat} {t t' : Nat → Int32} {n : Nat} (hv : valO o t n) (h : ∀ i, i < n → t i = t' i) : ∀ i, i < n → ev leaf op t n i = ev leaf op t' n i := by
  have hv' := valO_congr hv h
  refine right_ind n (fun i hi ih => ?_)
  cases c : isOpB (t i)
  · rw [ev_leaf c, ev_leaf (by rw [← h i hi]; exact c), h i hi]
  · obtain ⟨h1, h2⟩ := op_in hv hi c
    have hp := sz_pos t n (i + 1)
    rw [ev_op hv hi c, ev_op hv' hi (by rw [← h i hi]; exact c), ← sz_congr hv h (i + 1) h1, ih (i + 1) (by omega) h1, ih _ (by omega) h2, h i hi]
/-- the signs of a list, as a row -/
def rw' (T : List Int32) : Nat → Int32 := fun i => T.getD i 0
theorem TxOk.congr {h : fH} {r a b c n : Nat} {o : Nat → Nat} {t t' : Nat → Int32} (x : TxOk h r a b c t n) (hv : valO o t n) (e : ∀ i, i < n → t i = t' i) : TxOk h r a b c t' n := by
  obtain ⟨x1, x2, x3, x4, x5⟩ := x
  refine ⟨x1, x2, fun i hi => by rw [← e i hi]; exact x3 i hi, fun i hi => by rw [← sz_congr hv e i hi]; exact x4 i hi, fun i hi => ?_⟩
  rw [x5 i hi]
  exact ev_congr hv e i hi
theorem TxV.congr {t t' : Nat → Int32} {n : Nat} (hv : TxV t n) (e : ∀ i, i < n → t i = t' i) : TxV t' n := by
  obtain ⟨⟨o, hvo⟩, h13, hl⟩ := hv
  exact ⟨⟨o, valO_congr hvo e⟩, h13, fun i hi => by rw [← e i hi]; exact hl i hi⟩
-- the search
abbrev bA : Type := Option (Int64 × List Int32)
/-- a text is looked at -/
def bsF' (D W : Nat) (f : Nat → Int32) (A : bA) (T : List Int32) : bA :=
  if loF D W f (rw' T) T.length = 1000000000000000000 then A
  else match A with
    | none => some (loF D W f (rw' T) T.length, T)
    | some (x, U) => if absL x ≤ absL (loF D W f (rw' T) T.length) then some (x, U) else some (loF D W f (rw' T) T.length, T)
/-- what the i-th rule at a step makes -/
def opI (T : List Int32) (i : Nat) : Option (List Int32) := if okR (i % 7) (rw' T) T.length (i / 7) then some (wrL (i % 7) (rw' T) T.length (i / 7)) else none
def allR (T : List Int32) : List (List Int32) := (List.range' 0 (T.length * 7)).filterMap (opI T)
def btF (D W : Nat) (f : Nat → Int32) (rules : Nat) (T : List Int32) : bA :=
  if rules = 0 then bsF' D W f none T
  else if rules = 1 then (allR T).foldl (bsF' D W f) (bsF' D W f none T)
  else ((allR T).flatMap allR).foldl (bsF' D W f) ((allR T).foldl (bsF' D W f) (bsF' D W f none T))
/-- a list of signs that is a text -/
def TxL (T : List Int32) : Prop := TxV (rw' T) T.length
theorem opI_ok {T U : List Int32} (h : TxL T) {i : Nat} (hi : i < T.length * 7) (e : opI T i = some U) : TxL U := by
  unfold opI at e
  split at e
  · next q =>
    cases e
    exact wr_ok h (by omega) q
  · cases e
/-- the best one so far lies in a Search: its loss (GREAT: none), its text -/
def BsOk (h : fH) (se r a b c : Nat) (A : bA) : Prop :=
  match A with
  | none => h.2.1 se 4 = 1000000000000000000
  | some (x, T) => h.2.1 se 4 = x ∧ ¬ x = 1000000000000000000 ∧ TxOk h r a b c (rw' T) T.length ∧ TxL T
theorem BsOk.off {h k : fH} {se r a b c : Nat} {A : bA} {L : List Nat} (x : BsOk h se r a b c A) (o : fOff L h k) (h0 : se ∉ L) (h1 : r ∉ L) (h2 : a ∉ L) (h3 : b ∉ L) (h4 : c ∉ L) : BsOk k se r a b c A := by
  cases A with
  | none =>
    show k.2.1 se 4 = _
    rw [(o se h0).2.1]; exact x
  | some p =>
    obtain ⟨y, T⟩ := p
    obtain ⟨x1, x2, x3, x4⟩ := x
    exact ⟨by rw [(o se h0).2.1]; exact x1, x2, x3.off o h1 h2 h3 h4, x4⟩
section CSEARCH
variable {d : Nat} {S : fW} {h : fH} {se st on tw be v s fr ro ra u l r a b c rb ab bb cb nr D W : Nat} {f : Nat → Int32} {T : List Int32} {A : bA}
theorem s_consider (hse : (se, shX6 st on tw be) ∈ S) (hbe : be = rb) (Tx : TxS S r a b c) (Tb : TxS S rb ab bb cb) (y : TxOk h r a b c (rw' T) T.length) (hT : TxL T) (X : StS S st v s fr ro ra) (F : FrS S fr u l) (hnr : (nr, shI 5) ∈ S) (nd : [v, s, ra, ro, u, l, r, a, b, c, nr, se, rb, ab, bb, cb].Nodup)
    (hD : h.1 ro 0 = nI D) (hD1 : 1 ≤ D) (hD4 : D ≤ 4) (hW : h.1 ro 1 = nI W) (hW3 : W ≤ 3) (hT2 : h.1 ro 2 = bI false) (hf : h.2.2.1 nr = f) (hfB : nmB f) (hA : BsOk h se rb ab bb cb A) :
    OkV (d + 5) mX6_consider S [.ref se, .ref r, .ref nr] h (fun k => BsOk k se rb ab bb cb (bsF' D W f A T) ∧ k.1 se = h.1 se ∧ fOff [v, s, ra, u, l, se, rb, ab, bb, cb] h k) := by
  subst hbe
  have nd1 : [v, s, ra, ro, u, l, r, a, b, c, nr].Nodup := nd_sub nd [0, 1, 2, 3, 4, 5, 6, 7, 8, 9, 10] _ rfl (by decide)
  refine NX6_consider_0 hse X.1 Tb.1.1 ⟨_, s_lossOf (d := d) Tx y hT X F hnr nd1 hD hD1 hD4 hW hW3 hT2 hf hfB, ?_⟩
  rintro _ k1 ⟨rfl, o1⟩
  have hA1 := hA.off o1 (nd_out nd 11 [0, 1, 2, 4, 5] rfl rfl (by decide)) (nd_out nd 12 [0, 1, 2, 4, 5] rfl rfl (by decide)) (nd_out nd 13 [0, 1, 2, 4, 5] rfl rfl (by decide)) (nd_out nd 14 [0, 1, 2, 4, 5] rfl rfl (by decide)) (nd_out nd 15 [0, 1, 2, 4, 5] rfl rfl (by decide))
  have y1 := y.off o1 (nd_out nd 6 [0, 1, 2, 4, 5] rfl rfl (by decide)) (nd_out nd 7 [0, 1, 2, 4, 5] rfl rfl (by decide)) (nd_out nd 8 [0, 1, 2, 4, 5] rfl rfl (by decide)) (nd_out nd 9 [0, 1, 2, 4, 5] rfl rfl (by decide))
  have e1 : k1.1 se = h.1 se := (o1 se (nd_out nd 11 [0, 1, 2, 4, 5] rfl rfl (by decide))).1
  have o1' : fOff [v, s, ra, u, l, se, be, ab, bb, cb] h k1 := o1.mono (by simp)
  -- a better one
  have new : ¬ loF D W f (rw' T) T.length = 1000000000000000000 → bsF' D W f A T = some (loF D W f (rw' T) T.length, T) → ∀ k2 : fH, k2 = u_fl k1 se 4 (loF D W f (rw' T) T.length) → ∃ Q9 : fH → Prop, OkV (d + 4) mX10_copyFrom S [.ref be, .ref r] k2 Q9 ∧ ∀ (k9 : fH), Q9 k9 → (BsOk k9 se be ab bb cb (bsF' D W f A T) ∧ k9.1 se = h.1 se ∧ fOff [v, s, ra, u, l, se, be, ab, bb, cb] h k9) := by
    intro ng e k2 hk2
    have o2 : fOff [se] k1 k2 := by rw [hk2]; exact fOff.rf.of (f_off_fl _ _ _ _) (by simp)
    have f2 : k2.2.1 se 4 = loF D W f (rw' T) T.length := by rw [hk2, u_fl_s]
    have y2 := y1.off o2 (nd_out nd 6 [11] rfl rfl (by decide)) (nd_out nd 7 [11] rfl rfl (by decide)) (nd_out nd 8 [11] rfl rfl (by decide)) (nd_out nd 9 [11] rfl rfl (by decide))
    refine ⟨_, s_tcopy (d := d + 3) Tb Tx (nd_sub nd [12, 13, 14, 15, 6, 7, 8, 9] _ rfl (by decide)) y2, ?_⟩
    rintro k3 ⟨y3, o3⟩
    rw [e]
    have e3 : k3.1 se = h.1 se := by
      rw [(o3 se (nd_out nd 11 [12, 13, 14, 15] rfl rfl (by decide))).1, hk2]
      exact e1
    refine ⟨⟨?_, ng, y3, hT⟩, e3, (o1'.tr (o2.mono (by simp))).tr (o3.mono (by simp))⟩
    rw [(o3 se (nd_out nd 11 [12, 13, 14, 15] rfl rfl (by decide))).2.1]
    exact f2
  refine ⟨fun z => ⟨?_, e1, o1'⟩, fun z => ?_⟩
  · have e : bsF' D W f A T = A := by unfold bsF'; rw [if_pos z]
    rw [e]; exact hA1
  · cases A with
    | none =>
      have e4 : k1.2.1 se 4 = 1000000000000000000 := hA1
      refine ⟨fun _ => new z (by unfold bsF'; rw [if_neg z]), fun w => absurd e4 w⟩
    | some p =>
      obtain ⟨x, U⟩ := p
      obtain ⟨p1, p2, p3, p4⟩ := id hA1
      rw [p1, absL_m, absL_m]
      refine ⟨fun w => absurd w p2, fun _ => ⟨fun w => ⟨?_, e1, o1'⟩, fun w => new z (by unfold bsF'; rw [if_neg z]; simp only; rw [if_neg w])⟩⟩
      have e : bsF' D W f (some (x, U)) T = some (x, U) := by unfold bsF'; rw [if_neg z]; simp only; rw [if_pos w]
      rw [e]; exact hA1
end CSEARCH

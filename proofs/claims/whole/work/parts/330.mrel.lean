/-! ===== the reference's relation to the state ===== -/
def MPg (h : fH) (P : pgP) : Prop := MTx h (pT P) ∧ (h.1 1 0 = nI (pD P) ∧ h.1 1 1 = nI (pW P)) ∧ (∀ j, j < 5 → h.2.2.1 4 j = pNu P j ∧ h.2.2.1 5 j = pSp P j) ∧ h.1 1 22 = nI (pN P) ∧ ∀ j, j < pN P → h.2.2.2 13 j = pTe P j
/-- a page lies in kept from b on -/
def MKp (h : fH) (b : Nat) (P : pgP) : Prop :=
  (h.2.2.2 21 (b + 0) = (nI (pD P)).toInt64 ∧ h.2.2.2 21 (b + 1) = (nI (pW P)).toInt64 ∧ h.2.2.2 21 (b + 2) = (nI (pT P).length).toInt64 ∧ h.2.2.2 21 (b + 3) = (nI (pN P)).toInt64) ∧
  (∀ i, i < (pT P).length → h.2.2.2 21 (b + (4 + i)) = (rw' (pT P) i).toInt64) ∧ (∀ i, i < 5 → h.2.2.2 21 (b + (17 + 2 * i)) = (pNu P i).toInt64 ∧ h.2.2.2 21 (b + (17 + 2 * i + 1)) = (pSp P i).toInt64) ∧ ∀ i, i < pN P → h.2.2.2 21 (b + (27 + i)) = pTe P i
def MIm (h : fH) (b n : Nat) (Q : Option pgP) : Prop :=
  match Q with
  | none => h.2.2.1 22 n = 0
  | some P => h.2.2.1 22 n = 1 ∧ MKp h b P
def MRel (h : fH) (X : stP) : Prop := (h.1 1 8 = nI X.1.length ∧ ∀ i, i < X.1.length → h.2.2.1 2 i = rw' X.1 i) ∧ MPg h X.2.1 ∧ MIm h 0 0 X.2.2.1 ∧ MIm h 40 1 X.2.2.2 ∧ ∀ j, j < 5 → h.2.2.1 12 j = 0
/-- these cells do not bear the state -/
def mOut (p : fL) : Bool := cOut [0, 1, 8, 10, 22] p.1 && (cOut [2, 3, 4, 5, 12, 22] p.2.2.1 && cOut [13, 21] p.2.2.2)
section MREL
variable {h k : fH} {X : stP} {P : pgP} {p : fL}
theorem MKp.of {b : Nat} (x : MKp h b P) (e : k.2.2.2 21 = h.2.2.2 21) : MKp k b P := by
  unfold MKp at x ⊢
  rw [e]
  exact x
theorem MIm.of {b n : Nat} {Q : Option pgP} (x : MIm h b n Q) (e : k.2.2.2 21 = h.2.2.2 21) (f : k.2.2.1 22 = h.2.2.1 22) : MIm k b n Q := by
  cases Q with
  | none =>
    show k.2.2.1 22 n = 0
    rw [f]; exact x
  | some q => exact ⟨by rw [f]; exact x.1, x.2.of e⟩
theorem MRel.of (x : MRel h X) (b : mF p h k) (q : mOut p = true) : MRel k X := by
  unfold mOut at q
  simp only [Bool.and_eq_true] at q
  obtain ⟨⟨a1, a2⟩, ⟨⟨t1, t2⟩, ⟨d1, d2⟩, n1, c1, c2⟩, i0, i1, z⟩ := x
  have f : ∀ i ∈ [0, 1, 8, 10, 22], k.1 1 i = h.1 1 i := fun i hi => b.1 i (cOut_n q.1 hi)
  have r : ∀ i ∈ [2, 3, 4, 5, 12, 22], k.2.2.1 i = h.2.2.1 i := fun i hi => b.2.2.1 i (cOut_n q.2.1 hi)
  have l : ∀ i ∈ [13, 21], k.2.2.2 i = h.2.2.2 i := fun i hi => b.2.2.2 i (cOut_n q.2.2 hi)
  refine ⟨⟨by rw [f _ (by decide)]; exact a1, fun i hi => by rw [r _ (by decide)]; exact a2 i hi⟩, ⟨⟨by rw [f _ (by decide)]; exact t1, fun i hi => by rw [r _ (by decide)]; exact t2 i hi⟩, ⟨by rw [f _ (by decide)]; exact d1, by rw [f _ (by decide)]; exact d2⟩, fun j hj => by rw [r _ (by decide), r _ (by decide)]; exact n1 j hj, by rw [f _ (by decide)]; exact c1, fun j hj => by rw [l _ (by decide)]; exact c2 j hj⟩, i0.of (l _ (by decide)) (r _ (by decide)), i1.of (l _ (by decide)) (r _ (by decide)), fun j hj => by rw [r _ (by decide)]; exact z j hj⟩
theorem MRel.tx (x : MRel h X) : MTx h (pT X.2.1) := x.2.1.1
theorem MRel.ln (x : MRel h X) : h.1 1 10 = nI (pT X.2.1).length := x.2.1.1.1
theorem MRel.hD (x : MRel h X) : h.1 1 0 = nI (pD X.2.1) := x.2.1.2.1.1
theorem MRel.hW (x : MRel h X) : h.1 1 1 = nI (pW X.2.1) := x.2.1.2.1.2
theorem MRel.hn (x : MRel h X) : h.1 1 22 = nI (pN X.2.1) := x.2.1.2.2.2.1
theorem MRel.nu (x : MRel h X) {j : Nat} (hj : j < 5) : mNum h j = pNu X.2.1 j := by
  unfold mNum
  rw [(x.2.1.2.2.1 j hj).1, x.2.2.2.2 j hj, Int32.add_zero]
theorem MRel.nmB (x : MRel h X) (v : StV X) : nmB (mNum h) := fun j hj => by rw [x.nu hj]; exact v.2.1.2.1.b j hj
theorem MRel.dw (x : MRel h X) (v : StV X) : MDW h (pD X.2.1) (pW X.2.1) := ⟨⟨x.hD, x.hW⟩, v.2.1.2.2.2.2.1, v.2.1.2.2.2.2.2.1, v.2.1.2.2.2.2.2.2⟩
theorem MRel.tm (x : MRel h X) (v : StV X) : MTm h (pTe X.2.1) (pN X.2.1) := ⟨⟨x.hn, x.2.1.2.2.2.2⟩, v.2.1.2.2.2.1.1, v.2.1.2.2.2.1.2⟩
theorem MRel.st (x : MRel h X) (v : StV X) : MSt h (pD X.2.1) (pW X.2.1) (mNum h) := ⟨⟨x.hD, x.hW, rfl⟩, v.2.1.2.2.2.2.1, v.2.1.2.2.2.2.2.1, v.2.1.2.2.2.2.2.2, x.nmB v⟩
end MREL
-- meanings of numbers that agree below 5
section NAGREE
variable {f f' g g' : Nat → Int32} {D W n i : Nat} {t : Nat → Int32}
theorem numF_c (e : ∀ j, j < 5 → f j = f' j) (c : Int32) : numF c 5 f = numF c 5 f' := by
  unfold numF
  split
  · rfl
  · split
    · next z =>
      obtain ⟨j, hj, q⟩ := in_n (p := c - 97) (n := 5) (by decide) z
      rw [q, nI_clamp (by omega)]
      exact e j hj
    · rfl
theorem lfX_c (e : ∀ j, j < 5 → f j = f' j) : lfX f = lfX f' := funext fun c => by unfold lfX; rw [numF_c e]
theorem lfW_c (e : ∀ j, j < 5 → f j = f' j) : lfW D W f = lfW D W f' := funext fun c => by unfold lfW; rw [lfX_c e]
theorem wkF_c (e : ∀ j, j < 5 → f j = f' j) : wkF D W f t n i = wkF D W f' t n i := by unfold wkF; rw [lfW_c e]
theorem slF_c (e : ∀ j, j < 5 → f j = f' j) : slF D W f t n i = slF D W f' t n i := by unfold slF; rw [wkF_c e, wkF_c (i := i + 1) e, wkF_c (i := i + 1 + sz t n (i + 1)) e, lfW_c e, numF_c e]
theorem frC_c (e : ∀ j, j < 5 → f j = f' j) : frC f t n i = frC f' t n i := by unfold frC; rw [lfX_c e]
theorem loF_c (e : ∀ j, j < 5 → f j = f' j) : loF D W f t n = loF D W f' t n := by unfold loF; rw [wkF_c e, frC_c e]
theorem bsF'_c (e : ∀ j, j < 5 → f j = f' j) : bsF' D W f = bsF' D W f' := funext fun A => funext fun T => by unfold bsF'; rw [loF_c e]
theorem btF_c (e : ∀ j, j < 5 → f j = f' j) {R : Nat} {T : List Int32} : btF D W f R T = btF D W f' R T := by unfold btF; rw [bsF'_c e]
theorem lwX_c (e : ∀ j, j < 5 → g j = g' j) : lwX g = lwX g' := funext fun c => by unfold lwX; rw [numF_c e]
theorem spF_c (e : ∀ j, j < 5 → f j = f' j) (e2 : ∀ j, j < 5 → g j = g' j) : spF D f g t n i = spF D f' g' t n i := by
  unfold spF
  rw [show lfS D f g = lfS D f' g' from funext fun c => by unfold lfS; rw [lfX_c e, lwX_c e2]]
theorem trV_c {t' : Nat → Int32} {o : Nat → Nat} {E : Int} {m : Nat → Nat} (e : ∀ j, j < 5 → f j = f' j) (hv : valO o t n) (h1 : 1 ≤ n) (a : ∀ j, j < n → t j = t' j) : trV f t n E m = trV f' t' n E m := by
  unfold trV
  have e1 : ∀ j, j < 5 → fmF f m j = fmF f' m j := fun j hj => by unfold fmF; rw [e j hj]
  rw [frC_c e1, show frC (fmF f' m) t n 0 = frC (fmF f' m) t' n 0 from ev_congr hv a 0 (by omega)]
theorem TrOk_c {t' : Nat → Int32} {o : Nat → Nat} {E V : Int} {w : Nat → Nat} (e : ∀ j, j < 5 → f j = f' j) (hv : valO o t n) (h1 : 1 ≤ n) (a : ∀ j, j < n → t j = t' j) (q : TrOk f t n w E V) : TrOk f' t' n w E V := by
  unfold TrOk at q ⊢
  simp only [trV_c e hv h1 a] at q
  exact q
theorem wdF_c {t' : Nat → Int32} {o : Nat → Nat} {gw : Nat → Nat} (hv : valO o t n) (h1 : 1 ≤ n) (a : ∀ j, j < n → t j = t' j) : wdF t n gw = wdF t' n gw := funext fun j => by
  unfold wdF
  rw [show lmF t n 0 = lmF t' n 0 from ev_congr hv a 0 (by omega)]
end NAGREE
theorem le_pred {x : Int32} {n : Nat} (hn : n < 2 ^ 31) : x ≤ nI n - 1 ↔ x < nI n := by
  rw [Int32.le_iff_toInt_le, Int32.lt_iff_toInt_lt, i_sub_toInt (by rw [nI_toInt hn]; simp; omega) (by rw [nI_toInt hn]; simp; omega), nI_toInt hn]
  simp
  omega
section MSMALL
variable {d : Nat} {h : fH} {X : stP}
theorem s_inN {S : fW} {x : Int32} {n : Nat} (hn : n < 2 ^ 31) : OkI d mX12_in S [.long x.toInt64, .long 0, .long ((nI n - 1).toInt64)] h (fun v k => v = bI (decide (0 ≤ x ∧ x < nI n)) ∧ k = h) := by
  refine OkI.post (s_in32 (lo := 0) (hi := nI n - 1) rfl rfl) ?_
  rintro v k ⟨rfl, rfl⟩
  refine ⟨?_, rfl⟩
  congr 1
  apply decide_eq_decide.mpr
  rw [le_pred hn]
theorem r_isStep {s : Int32} (x : MRel h X) (v : StV X) : OkI (d + 1) mX12_isStep SM [.ref 1, .int s] h (fun y k => y = bI (decide (0 ≤ s ∧ s < nI (pT X.2.1).length)) ∧ k = h) := by
  have := v.t13
  refine NX12_isStep_0 hM ?_
  rw [x.ln]
  refine ⟨_, s_inN (by omega), ?_⟩
  rintro _ k ⟨rfl, rfl⟩
  exact ⟨bI_01 _, rfl, rfl⟩
end MSMALL

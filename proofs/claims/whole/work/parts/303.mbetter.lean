/-! ===== the reference's search ===== -/
def nxF (F : bA → List Int32 → bA) (B : bA) : Option (List Int32) → bA
  | none => B
  | some U => F B U
theorem fm_nx (g : Nat → Option (List Int32)) (F : bA → List Int32 → bA) (i k : Nat) (A : bA) : ((List.range' i (k + 1)).filterMap g).foldl F A = ((List.range' (i + 1) k).filterMap g).foldl F (nxF F A (g i)) := by
  rw [fm_cons]
  cases g i <;> rfl
/-- rows of seven -/
theorem seven {X : Type} (T : List Int32) (I : bA → X → Prop) (p7 : Nat → X → Prop) (p14 : Nat → Nat → X → Prop) (F : bA → List Int32 → bA) (E : bA)
    (fin : ∀ g, I E g → p7 T.length g) (go : ∀ s B g, s < T.length → I B g → p14 s 0 g → p7 s g) (out : ∀ s g, p7 (s + 1) g → p14 s 7 g)
    (stp : ∀ s r B g, s < T.length → r < 7 → I B g → (∀ g', I (nxF F B (opI T (s * 7 + r))) g' → p14 s (r + 1) g') → p14 s r g) (hn : 0 < T.length) (B : bA) (g : X) (hI : I B g) (e : (allR T).foldl F B = E) : p7 0 g := by
  have key : ∀ (k s r : Nat) (B : bA) (g : X), s * 7 + r + k = T.length * 7 → r < 7 → s < T.length → I B g → ((List.range' (s * 7 + r) k).filterMap (opI T)).foldl F B = E → p14 s r g := by
    intro k
    induction k with
    | zero => intro s r B g hk hr hs _ _; omega
    | succ k ih =>
      intro s r B g hk hr hs hI e
      rw [fm_nx] at e
      refine stp s r B g hs hr hI (fun g' hI' => ?_)
      by_cases q : r + 1 < 7
      · exact ih s (r + 1) _ g' (by omega) q hs hI' e
      · have q7 : r + 1 = 7 := by omega
        rw [q7]
        refine out s g' ?_
        by_cases w : s + 1 < T.length
        · refine go (s + 1) _ g' w hI' (ih (s + 1) 0 _ g' (by omega) (by decide) w hI' ?_)
          rw [show (s + 1) * 7 + 0 = s * 7 + r + 1 from by omega]
          exact e
        · have w1 : s + 1 = T.length := by omega
          have k0 : k = 0 := by omega
          subst k0
          rw [w1]
          refine fin g' ?_
          rw [← e]
          exact hI'
  exact go 0 B g hn hI (key (T.length * 7) 0 0 B g (by omega) (by decide) hn hI e)
theorem nI_nz9 {n : Nat} (h : n < 2 ^ 31) (p : 0 < n) : ¬ nI n = 0 := by
  intro z
  have z := congrArg Int32.toNatClampNeg z
  rw [nI_clamp h, show (0 : Int32).toNatClampNeg = 0 from rfl] at z
  omega
section MB
variable {d : Nat} {h : fH} {D W : Nat} {f : Nat → Int32} {T L : List Int32} {A : bA}
/-- the base's text -/
def MBs (h : fH) (T : List Int32) : Prop := h.1 1 35 = nI T.length ∧ ∀ i, i < T.length → h.2.2.1 20 i = rw' T i
theorem MBs.of {h k : fH} {L : List Int32} {p : fL} (x : MBs h L) (b : mF p h k) (h1 : p.1.contains 35 = false) (h2 : p.2.2.1.contains 20 = false) : MBs k L :=
  ⟨by rw [b.1 _ (nin_of h1)]; exact x.1, fun i hi => by rw [b.2.2.1 _ (nin_of h2)]; exact x.2 i hi⟩
theorem s_layBuilt (h13 : L.length ≤ 13) (x : MBt h L) : OkV d mX12_layBuilt SM [.ref 1] h (fun k => MNow k (rw' L) L.length ∧ mF ([14], [], [6], []) h k) := by
  refine NX12_layBuilt_0 hM ?_
  rintro g rfl
  have key : ∀ (m i : Nat) (g : fH), m + i = L.length → mF ([14], [], [6], []) h g → g.1 1 14 = nI L.length → (∀ j, j < i → g.2.2.1 6 j = rw' L j) → G mX12_layBuilt d SM (f_PV (fun k => MNow k (rw' L) L.length ∧ mF ([14], [], [6], []) h k)) 10 [(0, .ref 1), (1, .int (nI i))] [] g := by
    intro m
    induction m with
    | zero =>
      intro i g hi hg h14 hall
      have e : i = L.length := by omega
      refine NX12_layBuilt_10 hM hM18 hM6 ⟨fun _ => ⟨⟨h14, fun j hj => hall j (by omega)⟩, hg⟩, fun z => absurd ?_ z⟩
      rw [hg.1 30 (by decide), x.1, e]
      exact Int32.le_refl _
    | succ m ih =>
      intro i g hi hg h14 hall
      refine NX12_layBuilt_10 hM hM18 hM6 ⟨fun z => absurd z ?_, fun _ => ⟨vp_in_nI (by omega) (by decide), vp_in_nI (by omega) (by decide), ?_⟩⟩
      · rw [hg.1 30 (by decide), x.1]
        exact nI_ge (by omega) (by omega)
      · rintro g1 rfl
        rw [nI1, nI_clamp (by omega)]
        refine ih (i + 1) _ (by omega) (hg.ai (by decide)) h14 ?_
        intro j hj
        rw [u_ai_s]
        by_cases e : j = i
        · subst e
          rw [upd_s, hg.2.2.1 18 (by decide)]
          exact x.2 j (by omega)
        · rw [upd_n _ _ e]
          exact hall j (by omega)
  refine key L.length 0 _ (by omega) (mF.rf.fi (by decide)) ?_ (fun j hj => by omega)
  rw [u_fi_s, x.1]
theorem s_layBase (h13 : L.length ≤ 13) (x : MBs h L) : OkV d mX12_layBase SM [.ref 1] h (fun k => MNow k (rw' L) L.length ∧ mF ([14], [], [6], []) h k) := by
  refine NX12_layBase_0 hM ?_
  rintro g rfl
  have key : ∀ (m i : Nat) (g : fH), m + i = L.length → mF ([14], [], [6], []) h g → g.1 1 14 = nI L.length → (∀ j, j < i → g.2.2.1 6 j = rw' L j) → G mX12_layBase d SM (f_PV (fun k => MNow k (rw' L) L.length ∧ mF ([14], [], [6], []) h k)) 10 [(0, .ref 1), (1, .int (nI i))] [] g := by
    intro m
    induction m with
    | zero =>
      intro i g hi hg h14 hall
      have e : i = L.length := by omega
      refine NX12_layBase_10 hM hM20 hM6 ⟨fun _ => ⟨⟨h14, fun j hj => hall j (by omega)⟩, hg⟩, fun z => absurd ?_ z⟩
      rw [hg.1 35 (by decide), x.1, e]
      exact Int32.le_refl _
    | succ m ih =>
      intro i g hi hg h14 hall
      refine NX12_layBase_10 hM hM20 hM6 ⟨fun z => absurd z ?_, fun _ => ⟨vp_in_nI (by omega) (by decide), ?_⟩⟩
      · rw [hg.1 35 (by decide), x.1]
        exact nI_ge (by omega) (by omega)
      · rintro g1 rfl
        rw [nI1, nI_clamp (by omega)]
        refine ih (i + 1) _ (by omega) (hg.ai (by decide)) h14 ?_
        intro j hj
        rw [u_ai_s]
        by_cases e : j = i
        · subst e
          rw [upd_s, hg.2.2.1 20 (by decide)]
          exact x.2 j (by omega)
        · rw [upd_n _ _ e]
          exact hall j (by omega)
  refine key L.length 0 _ (by omega) (mF.rf.fi (by decide)) ?_ (fun j hj => by omega)
  rw [u_fi_s, x.1]
theorem s_keepBase (h13 : L.length ≤ 13) (x : MNow h (rw' L) L.length) : OkV d mX12_keepBase SM [.ref 1] h (fun k => MBs k L ∧ mF ([35], [], [20], []) h k) := by
  refine NX12_keepBase_0 hM ?_
  rintro g rfl
  have key : ∀ (m i : Nat) (g : fH), m + i = L.length → mF ([35], [], [20], []) h g → g.1 1 35 = nI L.length → (∀ j, j < i → g.2.2.1 20 j = rw' L j) → G mX12_keepBase d SM (f_PV (fun k => MBs k L ∧ mF ([35], [], [20], []) h k)) 10 [(0, .ref 1), (1, .int (nI i))] [] g := by
    intro m
    induction m with
    | zero =>
      intro i g hi hg h14 hall
      have e : i = L.length := by omega
      refine NX12_keepBase_10 hM hM6 hM20 ⟨fun _ => ⟨⟨h14, fun j hj => hall j (by omega)⟩, hg⟩, fun z => absurd ?_ z⟩
      rw [hg.1 14 (by decide), x.1, e]
      exact Int32.le_refl _
    | succ m ih =>
      intro i g hi hg h14 hall
      refine NX12_keepBase_10 hM hM6 hM20 ⟨fun z => absurd z ?_, fun _ => ⟨vp_in_nI (by omega) (by decide), ?_⟩⟩
      · rw [hg.1 14 (by decide), x.1]
        exact nI_ge (by omega) (by omega)
      · rintro g1 rfl
        rw [nI1, nI_clamp (by omega)]
        refine ih (i + 1) _ (by omega) (hg.ai (by decide)) h14 ?_
        intro j hj
        rw [u_ai_s]
        by_cases e : j = i
        · subst e
          rw [upd_s, hg.2.2.1 6 (by decide)]
          exact x.2 j (by omega)
        · rw [upd_n _ _ e]
          exact hall j (by omega)
  refine key L.length 0 _ (by omega) (mF.rf.fi (by decide)) ?_ (fun j hj => by omega)
  rw [u_fi_s, x.1]
/-- digits, way and numbers -/
def MSt (h : fH) (D W : Nat) (f : Nat → Int32) : Prop := (h.1 1 0 = nI D ∧ h.1 1 1 = nI W ∧ mNum h = f) ∧ 1 ≤ D ∧ D ≤ 4 ∧ W ≤ 3 ∧ nmB f
theorem MSt.of {h k : fH} {p : fL} (x : MSt h D W f) (b : mF p h k) (h1 : p.1.contains 0 = false) (h2 : p.1.contains 1 = false) (h3 : p.2.2.1.contains 4 = false) (h4 : p.2.2.1.contains 12 = false) : MSt k D W f :=
  ⟨⟨by rw [b.1 _ (nin_of h1)]; exact x.1.1, by rw [b.1 _ (nin_of h2)]; exact x.1.2.1, by rw [mNum_of b h3 h4]; exact x.1.2.2⟩, x.2⟩
/-- the best one so far -/
def BmOk (h : fH) (A : bA) : Prop :=
  match A with
  | none => h.1 1 32 = 0
  | some (x, T) => h.1 1 32 = nI T.length ∧ h.2.1 1 33 = x ∧ ¬ x = 1000000000000000000 ∧ (∀ i, i < T.length → h.2.2.1 19 i = rw' T i) ∧ TxL T
theorem BmOk.of {h k : fH} {p : fL} (x : BmOk h A) (b : mF p h k) (h1 : p.1.contains 32 = false) (h2 : p.2.1.contains 33 = false) (h3 : p.2.2.1.contains 19 = false) : BmOk k A := by
  cases A with
  | none =>
    show k.1 1 32 = _
    rw [b.1 _ (nin_of h1)]; exact x
  | some q =>
    obtain ⟨y, T⟩ := q
    obtain ⟨x1, x2, x3, x4, x5⟩ := x
    exact ⟨by rw [b.1 _ (nin_of h1)]; exact x1, by rw [b.2.1 _ (nin_of h2)]; exact x2, x3, fun i hi => by rw [b.2.2.1 _ (nin_of h3)]; exact x4 i hi, x5⟩
abbrev fHo : fL := ([2, 3, 4, 5, 6, 32], [2, 3, 4, 5, 6, 33], [7, 19], [8, 9, 10, 11])
theorem s_mhold (hN : MNow h (rw' T) T.length) (hT : TxL T) (hS : MSt h D W f) (hA : BmOk h A) :
    OkV (d + 6) mX12_hold SM [.ref 1] h (fun k => BmOk k (bsF' D W f A T) ∧ mF fHo h k) := by
  have h13 : T.length ≤ 13 := hT.2.1
  refine NX12_hold_0 hM ⟨_, s_lossNow (d := d) hN hT hS.1.1 hS.2.1 hS.2.2.1 hS.1.2.1 hS.2.2.2.1 hS.1.2.2 hS.2.2.2.2, ?_⟩
  rintro _ k1 ⟨rfl, f1⟩
  have hA1 := hA.of f1 (by decide) (by decide) (by decide)
  have hN1 := hN.of f1 (by decide) (by decide)
  have f1' : mF fHo h k1 := f1.mono (by decide)
  -- a better one
  have new : ¬ loF D W f (rw' T) T.length = 1000000000000000000 → bsF' D W f A T = some (loF D W f (rw' T) T.length, T) → ∀ g1 : fH, g1 = u_fl k1 1 33 (loF D W f (rw' T) T.length) → ∀ g2 : fH, g2 = u_fi g1 1 32 (g1.1 1 14) → G mX12_hold (d + 6) SM (f_PV (fun k => BmOk k (bsF' D W f A T) ∧ mF fHo h k)) 50 [(0, .ref 1), (3, .int 0)] [] g2 := by
    intro ng e g1 e1 g2 e2
    have F2 : mF fHo h g2 := by rw [e2, e1]; exact (f1'.fl (by decide)).fi (by decide)
    have N2 : MNow g2 (rw' T) T.length := by
      rw [e2, e1]
      exact hN1.of ((mF.rf (p := fHo)).fl (by decide) |>.fi (by decide)) (by decide) (by decide)
    have a2 : g2.1 1 32 = nI T.length := by rw [e2, u_fi_s, e1]; exact hN1.1
    have b2 : g2.2.1 1 33 = loF D W f (rw' T) T.length := by rw [e2, u_fi_2, e1, u_fl_s]
    rw [e]
    have key : ∀ (m i : Nat) (g : fH), m + i = T.length → mF fHo h g → MNow g (rw' T) T.length → g.1 1 32 = nI T.length → g.2.1 1 33 = loF D W f (rw' T) T.length → (∀ j, j < i → g.2.2.1 19 j = rw' T j) → G mX12_hold (d + 6) SM (f_PV (fun k => BmOk k (some (loF D W f (rw' T) T.length, T)) ∧ mF fHo h k)) 50 [(0, .ref 1), (3, .int (nI i))] [] g := by
      intro m
      induction m with
      | zero =>
        intro i g hi hg Ng ag bg hall
        have e : i = T.length := by omega
        refine NX12_hold_50 hM hM6 hM19 ⟨fun _ => ⟨⟨ag, bg, ng, fun j hj => hall j (by omega), hT⟩, hg⟩, fun z => absurd ?_ z⟩
        rw [Ng.1, e]
        exact Int32.le_refl _
      | succ m ih =>
        intro i g hi hg Ng ag bg hall
        refine NX12_hold_50 hM hM6 hM19 ⟨fun z => absurd z ?_, fun _ => ⟨vp_in_nI (by omega) (by decide), ?_⟩⟩
        · rw [Ng.1]
          exact nI_ge (by omega) (by omega)
        · rintro g3 rfl
          rw [nI1, nI_clamp (by omega)]
          refine ih (i + 1) _ (by omega) (hg.ai (by decide)) (Ng.of ((mF.rf (p := fHo)).ai (by decide)) (by decide) (by decide)) ag bg ?_
          intro j hj
          rw [u_ai_s]
          by_cases e : j = i
          · subst e
            rw [upd_s]
            exact Ng.2 j (by omega)
          · rw [upd_n _ _ e]
            exact hall j (by omega)
    exact key T.length 0 g2 (by omega) F2 N2 a2 b2 (fun j hj => by omega)
  refine ⟨fun z => ⟨?_, f1'⟩, fun z => ?_⟩
  · have e : bsF' D W f A T = A := by unfold bsF'; rw [if_pos z]
    rw [e]; exact hA1
  · cases A with
    | none => exact ⟨fun _ => new z (by unfold bsF'; rw [if_neg z]), fun w => absurd hA1 w⟩
    | some p =>
      obtain ⟨x, U⟩ := p
      obtain ⟨p1, p2, p3, p4, p5⟩ := id hA1
      have u13 : U.length ≤ 13 := p5.2.1
      refine ⟨fun w => absurd w (by rw [p1]; exact nI_nz9 (by omega) p5.pos), fun _ => ⟨_, s_size, ?_⟩⟩
      rintro _ k1 ⟨rfl, rfl⟩
      refine ⟨_, s_size, ?_⟩
      rintro _ k1 ⟨rfl, rfl⟩
      rw [p2]
      refine ⟨fun w => ⟨?_, f1'⟩, fun w => new z (by unfold bsF'; rw [if_neg z]; simp only; rw [if_neg w])⟩
      have e : bsF' D W f (some (x, U)) T = some (x, U) := by unfold bsF'; rw [if_neg z]; simp only; rw [if_pos w]
      rw [e]; exact hA1
end MB
